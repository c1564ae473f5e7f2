/-! part 97: acts answers 1, and the chamber follows the law's arrays -/
abbrev actR : Room := (headSpec wsL_acts ({ frames := 10, cells := 10, slots := 60, locals := 178 } : Room)).room
abbrev ChU : Type := Int32 × SetV × (Int32 × Int32) × SetV × SetV × SetV × SetV
abbrev ActU : Type := ChU × (Nat → Int32) × (Nat → Int32) × (Nat → Int32) × (Nat → Int32)
def actOK (tx : TxtV) (w : PowV) (u : ActU) : Prop := ∃ (sg : Nat → Int32) (n r : Nat), soF u.1.2.1 tx u.2.1 u.2.2.1 u.2.2.2.1 u.2.2.2.2 sg n r ∧ pwr u.1.1 sg w ∧ rg u.1
def acC (p : Program) (l : Launch) (s : State) (m : MethodId) (meth : Method) (c : Code) (args : Array Value) (D : va_G) (cy : Nat → ClassId) (g : Nat → Nat) (B : Nat) (A : Nat → Prop) : Prop := l.stackTraces = false ∧ p.tables.exec = Jvm.exec ∧ c.code = cL_acts ∧ meth.sig.returnType = some .boolean ∧ c.maxLocals = 13 ∧ s.vm.findClass RL = some m.cls ∧ (∀ w ∈ wsL_acts, w.before args s = true) ∧ meth.locks = false ∧ myK D cy g B s s.heap ∧ ncOK s ∧ ∀ q, A q → B ≤ q
theorem pwr_1' {st : Int32} {s : Nat → Int32} {w : PowV} (h : st = 1) : pwr st s w := by subst h; exact pwr_1 _ _
theorem l8_upd {la : Nat → Int32} (h : ∀ j : Nat, ¬ 8 ≤ la j) {k : Nat} {x : Int32} (hx : ¬ 8 ≤ x) : ∀ j : Nat, ¬ 8 ≤ upd la k x j := by
  intro j
  by_cases e : j = k
  · subst e; rw [upd_eq]; exact hx
  · rw [upd_ne e]; exact h j
theorem AG_same {ga wa la ra s : Nat → Int32} {n r m : Nat} {x : Int32} (h : AG ga wa la ra s n r) (hx : m < n → x = s (11 + m)) : AG ga wa (upd la m x) ra s n r := by
  refine ⟨h.1, h.2.1, h.2.2.1, h.2.2.2.1, fun k hk => ?_, h.2.2.2.2.2⟩
  by_cases e : k = m
  · subst e; rw [upd_eq]; exact hx hk
  · rw [upd_ne e]; exact h.2.2.2.2.1 k hk
theorem iV {a b : Nat} (ha : a < 2 ^ 31) (hb : b < 2 ^ 31) : (nI a = nI b) ↔ a = b := nI_eq ha hb
theorem mul_t : ∀ k, k < 3 → ∀ c, c < 256 → (1000 * nI k + nI c : Int32) = nI (1000 * k + c) := by decide +kernel
theorem mul_k {k c : Nat} (hk : k ≤ 2) (hc : c ≤ 255) : (1000 * nI k + nI c : Int32) = nI (1000 * k + c) := mul_t k (by omega) c (by omega)
theorem ws_400 {s : Nat → Int32} {n r : Nat} (hN : okN s n r) (hW : okW s n) : wsN s n ≤ 400 := by
  have h8 := hN.2.1
  have key : ∀ k, k ≤ n → wsN s k ≤ 50 * k := by
    intro k
    induction k with
    | zero => intro _; exact Nat.le_refl _
    | succ k ih =>
      intro hk
      have i1 := ih (by omega)
      have i2 := (wN_eq hW (show k < n by omega)).2
      show wsN s k + wN s k ≤ _
      omega
  have := key n (Nat.le_refl n)
  omega
section ACT
variable {p : Program} {l : Launch} {e : Env} {s : State} {m : MethodId} {args : Array Value} {below : List Frame} {meth : Method} {c : Code} {Q : State → Prop} {D : va_G} {cy : Nat → ClassId} {g : Nat → Nat} {B : Nat} {A : Nat → Prop}
variable {p70 : Nat} {b7 c7 d7 e7 h7 k7 : Nat → Nat} {q : Nat → Nat → Nat} {gA0 wA0 lA0 rA0 : Nat} {st : Int32} {v : SetV} {w : PowV} {tx : TxtV} {z : Int32 × Int32} {s0 s1 s2 s3 : SetV} {ga wa la ra sg : Nat → Int32} {n r : Nat} {y0 : Int32} {y8 : Nat → Int32}
set_option maxHeartbeats 4000000 in
set_option maxRecDepth 100000 in
theorem ac_add (C : acC p l s m meth c args D cy g B A) (F : soF v tx ga wa la ra sg n r) (hp : pwr st sg w) (hrg : ring z s0 s1 s2 s3 y0 y8) {V wy : Nat} {x5 : Int32} {cq sq : Nat} {H : Heap} {locs : List Loc} {ls : Array Slot} (hV : V < 10000000) (hcq : cq ≤ 0) (hsq : sq ≤ 0) (hP : va_P D vwCl (List.flatten [(wPCo p70 b7 c7 d7 e7 h7 k7 st), (wSet cy b7 v), (wSav cy q h7 z), (wSet cy (q 0) s0), (wSet cy (q 1) s1), (wSet cy (q 2) s2), (wSet cy (q 3) s3), (wI cy gA0 3 ga), (wI cy wA0 8 wa), (wI cy lA0 8 la), (wI cy rA0 4 ra)]) H) (hD : va_D A (List.flatten [(wPCo p70 b7 c7 d7 e7 h7 k7 st), (wSet cy b7 v), (wSav cy q h7 z), (wSet cy (q 0) s0), (wSet cy (q 1) s1), (wSet cy (q 2) s2), (wSet cy (q 3) s3), (wI cy gA0 3 ga), (wI cy wA0 8 wa), (wI cy lA0 8 la), (wI cy rA0 4 ra)])) (hS : va_S A s.heap H locs) (hl : lv_has ls 13 [(6, .int (nI V)), (7, .int (nI wy)), (5, .int x5), (0, .ref p70), (1, .ref gA0), (2, .ref wA0), (3, .ref lA0), (4, .ref rA0)])
    (K : ∀ (pc : Nat), decode cL_acts pc = .ok (.ireturn, 1) → ∀ (u : ActU) (cq sq : Nat) (H : Heap) (locs : List Loc) (ls : Array Slot), cq ≤ 6 → sq ≤ 36 → actOK tx w u → va_P D vwCl (List.flatten [(wPCo p70 b7 c7 d7 e7 h7 k7 u.1.1), (wSet cy b7 u.1.2.1), (wSav cy q h7 u.1.2.2.1), (wSet cy (q 0) u.1.2.2.2.1), (wSet cy (q 1) u.1.2.2.2.2.1), (wSet cy (q 2) u.1.2.2.2.2.2.1), (wSet cy (q 3) u.1.2.2.2.2.2.2), (wI cy gA0 3 u.2.1), (wI cy wA0 8 u.2.2.1), (wI cy lA0 8 u.2.2.2.1), (wI cy rA0 4 u.2.2.2.2)]) H → va_S A s.heap H locs → W p l e actR s m args below meth c H locs cq sq Q (F0 m pc ls [.int 1])) : W p l e actR s m args below meth c H locs cq sq Q (F0 m 26 ls []) := by
  have FF0 := F
  obtain ⟨hl0, hx, hb, hr9, hml, hown, hts, hlk, hK0, hNc, hAB⟩ := C
  obtain ⟨CHH, hAG, htx, hl8⟩ := F
  have hN := CHH.2.1
  have hL := CHH.2.2.1
  have hW := CHH.2.2.2.1
  have hR := CHH.2.2.2.2.1
  have h8 : n ≤ 8 := hN.2.1
  have hr4 : r ≤ 4 := hN.2.2.2
  have S := my_fix hx hb hml hown hts
  refine lv_aload_n hx hb dL_acts_26 rfl (lv_at hl 4 rfl) ?_
  refine lv_iconst (v := 0) hx hb dL_acts_27 (by decide) ?_
  refine wk_ia hx hb hK0.1 hP 48 0 (k := 0) (v := (nI n)) rfl rfl (by decide) (by decide) hAG.1 dL_acts_28 ?_
  refine lv_bipush (v := 8) hx hb dL_acts_29 (by decide) ?_
  by_cases hn8 : n = 8
  · refine lv_icmp_ne (tgt := 61) hx hb dL_acts_31 (by decide) (fun h9 => absurd (by rw [hn8]; rfl) h9) (fun _ => ?_)
    have CH8 : CH v sg 8 r := by rw [← hn8]; exact CHH
    refine lv_aload_n hx hb dL_acts_34 rfl (lv_at hl 3 rfl) ?_
    refine lv_iconst (v := 0) hx hb dL_acts_35 (by decide) ?_
    have e1 := E_add8 (st := st) (u0 := (st, v, z, s0, s1, s2, s3)) CH8 hrg
    refine lw_compi (wcs := [(wPCo p70 b7 c7 d7 e7 h7 k7 st), (wSet cy b7 v), (wSav cy q h7 z), (wSet cy (q 0) s0), (wSet cy (q 1) s1), (wSet cy (q 2) s2), (wSet cy (q 3) s3)]) (wns := fun u8 => [(wPCo p70 b7 c7 d7 e7 h7 k7 u8.1), (wSet cy b7 u8.2.1), (wSav cy q h7 u8.2.2.1), (wSet cy (q 0) u8.2.2.2.1), (wSet cy (q 1) u8.2.2.2.2.1), (wSet cy (q 2) u8.2.2.2.2.2.1), (wSet cy (q 3) u8.2.2.2.2.2.2)]) (W2 := fun u8 => [(wPCo p70 b7 c7 d7 e7 h7 k7 u8.1), (wSet cy b7 u8.2.1), (wSav cy q h7 u8.2.2.1), (wSet cy (q 0) u8.2.2.2.1), (wSet cy (q 1) u8.2.2.2.2.1), (wSet cy (q 2) u8.2.2.2.2.2.1), (wSet cy (q 3) u8.2.2.2.2.2.2), (wI cy gA0 3 ga), (wI cy wA0 8 wa), (wI cy lA0 8 la), (wI cy rA0 4 ra)]) (vx_runSW (As := [.ref p70, .int 0]) (rest := []) S (c_L_adds l hl0 D cy g B p70 b7 c7 d7 e7 h7 k7 q st v z s0 s1 s2 s3 0 (fun k h => k_add h)) (vx_cwSW 2 hts gL_acts_L_adds rfl rfl rfl hd_L_adds_S ⟨Nat.le_of_ble_eq_true rfl, Nat.le_of_ble_eq_true rfl⟩) ⟨lwP_blind, my_preL (wcs := [(wPCo p70 b7 c7 d7 e7 h7 k7 st), (wSet cy b7 v), (wSav cy q h7 z), (wSet cy (q 0) s0), (wSet cy (q 1) s1), (wSet cy (q 2) s2), (wSet cy (q 3) s3)]) hK0 hNc hS hAB hP hD [0, 1, 2, 3, 4, 5, 6] (by decide) rfl rfl⟩ rfl rfl hl.1 rfl (lv_room (Nat.le_of_ble_eq_true rfl)) dL_acts_36 ⟨(show cq + 1 ≤ 10 by omega), (show sq + 6 ≤ 60 by omega)⟩) hS hP hD [0, 1, 2, 3, 4, 5, 6] rfl rfl (fun _ => rfl) (fun _ => by simp only [List.map_cons, List.map_nil, adrSet, adrSetE, adrPow, adrPowE, adrTxt, adrTxtE, adrSav, adrSavE, adrPCo, adrI, adrL]) (fun _ => rfl) (fun r9 u9 H locs hw hP hD hS => ?_)
    obtain ⟨rfl, rfl⟩ := Prod.mk.inj (e1.symm.trans hw)
    have hP : va_P D vwCl (List.flatten [(wPCo p70 b7 c7 d7 e7 h7 k7 st), (wSet cy b7 v), (wSav cy q h7 z), (wSet cy (q 0) s0), (wSet cy (q 1) s1), (wSet cy (q 2) s2), (wSet cy (q 3) s3), (wI cy gA0 3 ga), (wI cy wA0 8 wa), (wI cy lA0 8 la), (wI cy rA0 4 ra)]) H := hP
    have hD : va_D A (List.flatten [(wPCo p70 b7 c7 d7 e7 h7 k7 st), (wSet cy b7 v), (wSav cy q h7 z), (wSet cy (q 0) s0), (wSet cy (q 1) s1), (wSet cy (q 2) s2), (wSet cy (q 3) s3), (wI cy gA0 3 ga), (wI cy wA0 8 wa), (wI cy lA0 8 la), (wI cy rA0 4 ra)]) := hD
    refine lv_ldc hx hb hown (hts (.constant RL 20 (-2000003)) (by decide +kernel)) dL_acts_39 ?_
    refine lv_icmp_ne (tgt := 59) hx hb dL_acts_41 (by decide) (fun h9 => absurd rfl h9) (fun _ => ?_)
    refine lv_aload_n hx hb dL_acts_44 rfl (lv_at hl 3 rfl) ?_
    refine lv_bipush (v := 51) hx hb dL_acts_45 (by decide) ?_
    have e2 := E_add51 (st := st) (u0 := (st, v, z, s0, s1, s2, s3)) CHH hrg
    refine lw_compi (wcs := [(wPCo p70 b7 c7 d7 e7 h7 k7 st), (wSet cy b7 v), (wSav cy q h7 z), (wSet cy (q 0) s0), (wSet cy (q 1) s1), (wSet cy (q 2) s2), (wSet cy (q 3) s3)]) (wns := fun u8 => [(wPCo p70 b7 c7 d7 e7 h7 k7 u8.1), (wSet cy b7 u8.2.1), (wSav cy q h7 u8.2.2.1), (wSet cy (q 0) u8.2.2.2.1), (wSet cy (q 1) u8.2.2.2.2.1), (wSet cy (q 2) u8.2.2.2.2.2.1), (wSet cy (q 3) u8.2.2.2.2.2.2)]) (W2 := fun u8 => [(wPCo p70 b7 c7 d7 e7 h7 k7 u8.1), (wSet cy b7 u8.2.1), (wSav cy q h7 u8.2.2.1), (wSet cy (q 0) u8.2.2.2.1), (wSet cy (q 1) u8.2.2.2.2.1), (wSet cy (q 2) u8.2.2.2.2.2.1), (wSet cy (q 3) u8.2.2.2.2.2.2), (wI cy gA0 3 ga), (wI cy wA0 8 wa), (wI cy lA0 8 la), (wI cy rA0 4 ra)]) (vx_runSW (As := [.ref p70, .int 51]) (rest := []) S (c_L_adds l hl0 D cy g B p70 b7 c7 d7 e7 h7 k7 q st v z s0 s1 s2 s3 51 (fun k h => k_add h)) (vx_cwSW 2 hts gL_acts_L_adds rfl rfl rfl hd_L_adds_S ⟨Nat.le_of_ble_eq_true rfl, Nat.le_of_ble_eq_true rfl⟩) ⟨lwP_blind, my_preL (wcs := [(wPCo p70 b7 c7 d7 e7 h7 k7 st), (wSet cy b7 v), (wSav cy q h7 z), (wSet cy (q 0) s0), (wSet cy (q 1) s1), (wSet cy (q 2) s2), (wSet cy (q 3) s3)]) hK0 hNc hS hAB hP hD [0, 1, 2, 3, 4, 5, 6] (by decide) rfl rfl⟩ rfl rfl hl.1 rfl (lv_room (Nat.le_of_ble_eq_true rfl)) dL_acts_47 ⟨(show cq + 2 ≤ 10 by omega), (show sq + 12 ≤ 60 by omega)⟩) hS hP hD [0, 1, 2, 3, 4, 5, 6] rfl rfl (fun _ => rfl) (fun _ => by simp only [List.map_cons, List.map_nil, adrSet, adrSetE, adrPow, adrPowE, adrTxt, adrTxtE, adrSav, adrSavE, adrPCo, adrI, adrL]) (fun _ => rfl) (fun r9 u9 H locs hw hP hD hS => ?_)
    obtain ⟨rfl, rfl⟩ := Prod.mk.inj (e2.symm.trans hw)
    have hP : va_P D vwCl (List.flatten [(wPCo p70 b7 c7 d7 e7 h7 k7 st), (wSet cy b7 v), (wSav cy q h7 z), (wSet cy (q 0) s0), (wSet cy (q 1) s1), (wSet cy (q 2) s2), (wSet cy (q 3) s3), (wI cy gA0 3 ga), (wI cy wA0 8 wa), (wI cy lA0 8 la), (wI cy rA0 4 ra)]) H := hP
    have hD : va_D A (List.flatten [(wPCo p70 b7 c7 d7 e7 h7 k7 st), (wSet cy b7 v), (wSav cy q h7 z), (wSet cy (q 0) s0), (wSet cy (q 1) s1), (wSet cy (q 2) s2), (wSet cy (q 3) s3), (wI cy gA0 3 ga), (wI cy wA0 8 wa), (wI cy lA0 8 la), (wI cy rA0 4 ra)]) := hD
    refine lv_ldc hx hb hown (hts (.constant RL 17 (-2000002)) (by decide +kernel)) dL_acts_50 ?_
    refine lv_icmp_ne (tgt := 59) hx hb dL_acts_52 (by decide) (fun h9 => absurd rfl h9) (fun _ => ?_)
    refine lv_iconst (v := 1) hx hb dL_acts_55 (by decide) ?_
    refine lv_goto (tgt := 60) hx hb dL_acts_56 (by decide) ?_
    exact K 60 dL_acts_60 ((st, v, z, s0, s1, s2, s3), (ga, wa, la, ra)) _ _ H locs ls (by omega) (by omega) ⟨sg, n, r, FF0, hp, y0, y8, hrg⟩ hP hS
  · refine lv_icmp_ne (tgt := 61) hx hb dL_acts_31 (by decide) (fun _ => ?_) (fun h9 => absurd h9 (n_ne8 (show n < 8 by omega)))
    have hn8 : n < 8 := by omega
    refine lv_aload_n hx hb dL_acts_61 rfl (lv_at hl 5 rfl) ?_
    refine lv_aload_n hx hb dL_acts_62 rfl (lv_at hl 4 rfl) ?_
    refine lv_iconst (v := 0) hx hb dL_acts_63 (by decide) ?_
    refine wk_ia hx hb hK0.1 hP 48 0 (k := 0) (v := (nI n)) rfl rfl (by decide) (by decide) hAG.1 dL_acts_64 ?_
    refine lv_iload hx hb dL_acts_65 (lv_at hl 0 rfl) ?_
    refine lv_iload hx hb dL_acts_67 (lv_at hl 0 rfl) ?_
    refine lv_iconst (v := 3) hx hb dL_acts_69 (by decide) ?_
    refine lv_irem hx hb dL_acts_70 (by decide) ?_
    refine wk_ti (x := ((nI V) - (nI V) / 3 * 3)) (v := (nI (V % 3))) (pk_rem (by omega) (by decide) (by decide)) ?_
    by_cases h3 : V % 3 = 0
    · refine lv_if_ne (tgt := 79) hx hb dL_acts_71 (by decide) (fun h9 => absurd (by rw [h3]; rfl) h9) (fun _ => ?_)
      refine lv_bipush (v := 51) hx hb dL_acts_74 (by decide) ?_
      refine lv_goto (tgt := 81) hx hb dL_acts_76 (by decide) ?_
      refine lv_irem hx hb dL_acts_81 (by decide) ?_
      refine wk_ti (x := ((nI V) - (nI V) / 51 * 51)) (v := (nI (V % 51))) (pk_rem (by omega) (by decide) (by decide)) ?_
      have hX : V % 51 ≤ 50 := by have := Nat.mod_lt V (show 0 < 51 by decide); omega
      refine wk_ast hx hb hK0.1 hP hD hS 49 0 (k := n) (x := (nI (V % 51))) rfl rfl (by omega) (by decide) dL_acts_82 (fun H locs hP hD hS => ?_)
      have hP : va_P D vwCl (List.flatten [(wPCo p70 b7 c7 d7 e7 h7 k7 st), (wSet cy b7 v), (wSav cy q h7 z), (wSet cy (q 0) s0), (wSet cy (q 1) s1), (wSet cy (q 2) s2), (wSet cy (q 3) s3), (wI cy gA0 3 ga), (wI cy wA0 8 (upd wa n (nI (V % 51)))), (wI cy lA0 8 la), (wI cy rA0 4 ra)]) H := hP
      have hD : va_D A (List.flatten [(wPCo p70 b7 c7 d7 e7 h7 k7 st), (wSet cy b7 v), (wSav cy q h7 z), (wSet cy (q 0) s0), (wSet cy (q 1) s1), (wSet cy (q 2) s2), (wSet cy (q 3) s3), (wI cy gA0 3 ga), (wI cy wA0 8 (upd wa n (nI (V % 51)))), (wI cy lA0 8 la), (wI cy rA0 4 ra)]) := hD
      refine lv_aload_n hx hb dL_acts_83 rfl (lv_at hl 6 rfl) ?_
      refine lv_aload_n hx hb dL_acts_84 rfl (lv_at hl 4 rfl) ?_
      refine lv_iconst (v := 0) hx hb dL_acts_85 (by decide) ?_
      refine wk_ia hx hb hK0.1 hP 48 0 (k := 0) (v := (nI n)) rfl rfl (by decide) (by decide) hAG.1 dL_acts_86 ?_
      refine lv_iconst (v := (-1)) hx hb dL_acts_87 (by decide) ?_
      refine wk_ast hx hb hK0.1 hP hD hS 50 0 (k := n) (x := (-1)) rfl rfl (by omega) (by decide) dL_acts_88 (fun H locs hP hD hS => ?_)
      have hP : va_P D vwCl (List.flatten [(wPCo p70 b7 c7 d7 e7 h7 k7 st), (wSet cy b7 v), (wSav cy q h7 z), (wSet cy (q 0) s0), (wSet cy (q 1) s1), (wSet cy (q 2) s2), (wSet cy (q 3) s3), (wI cy gA0 3 ga), (wI cy wA0 8 (upd wa n (nI (V % 51)))), (wI cy lA0 8 (upd la n (-1))), (wI cy rA0 4 ra)]) H := hP
      have hD : va_D A (List.flatten [(wPCo p70 b7 c7 d7 e7 h7 k7 st), (wSet cy b7 v), (wSav cy q h7 z), (wSet cy (q 0) s0), (wSet cy (q 1) s1), (wSet cy (q 2) s2), (wSet cy (q 3) s3), (wI cy gA0 3 ga), (wI cy wA0 8 (upd wa n (nI (V % 51)))), (wI cy lA0 8 (upd la n (-1))), (wI cy rA0 4 ra)]) := hD
      refine lv_aload_n hx hb dL_acts_89 rfl (lv_at hl 4 rfl) ?_
      refine lv_iconst (v := 0) hx hb dL_acts_90 (by decide) ?_
      refine lv_dup2_11 hx hb dL_acts_91 rfl rfl ?_
      refine wk_ia hx hb hK0.1 hP 48 0 (k := 0) (v := (nI n)) rfl rfl (by decide) (by decide) hAG.1 dL_acts_92 ?_
      refine lv_iconst (v := 1) hx hb dL_acts_93 (by decide) ?_
      refine lv_iadd hx hb dL_acts_94 ?_
      refine wk_ti (x := ((nI n) + 1)) (v := (nI (n + 1))) (nI_1 n) ?_
      refine wk_ast hx hb hK0.1 hP hD hS 48 0 (k := 0) (x := (nI (n + 1))) rfl rfl (by decide) (by decide) dL_acts_95 (fun H locs hP hD hS => ?_)
      have hP : va_P D vwCl (List.flatten [(wPCo p70 b7 c7 d7 e7 h7 k7 st), (wSet cy b7 v), (wSav cy q h7 z), (wSet cy (q 0) s0), (wSet cy (q 1) s1), (wSet cy (q 2) s2), (wSet cy (q 3) s3), (wI cy gA0 3 (upd ga 0 (nI (n + 1)))), (wI cy wA0 8 (upd wa n (nI (V % 51)))), (wI cy lA0 8 (upd la n (-1))), (wI cy rA0 4 ra)]) H := hP
      have hD : va_D A (List.flatten [(wPCo p70 b7 c7 d7 e7 h7 k7 st), (wSet cy b7 v), (wSav cy q h7 z), (wSet cy (q 0) s0), (wSet cy (q 1) s1), (wSet cy (q 2) s2), (wSet cy (q 3) s3), (wI cy gA0 3 (upd ga 0 (nI (n + 1)))), (wI cy wA0 8 (upd wa n (nI (V % 51)))), (wI cy lA0 8 (upd la n (-1))), (wI cy rA0 4 ra)]) := hD
      refine lv_aload_n hx hb dL_acts_96 rfl (lv_at hl 3 rfl) ?_
      refine lv_aload_n hx hb dL_acts_97 rfl (lv_at hl 5 rfl) ?_
      refine lv_aload_n hx hb dL_acts_98 rfl (lv_at hl 4 rfl) ?_
      refine lv_iconst (v := 0) hx hb dL_acts_99 (by decide) ?_
      refine wk_ia hx hb hK0.1 hP 48 0 (k := 0) (v := (nI (n + 1))) rfl rfl (by decide) (by decide) upd_eq dL_acts_100 ?_
      refine lv_iconst (v := 1) hx hb dL_acts_101 (by decide) ?_
      refine lv_isub hx hb dL_acts_102 ?_
      refine wk_ti (x := ((nI (n + 1)) - 1)) (v := (nI n)) (nI_pred n) ?_
      refine wk_ia hx hb hK0.1 hP 49 0 (k := n) (v := (nI (V % 51))) rfl rfl (by omega) (by decide) upd_eq dL_acts_103 ?_
      obtain ⟨u1, e1, hu, hC1, hrg1⟩ := T_add (st := st) CHH hrg hX hn8
      refine lw_compi (wcs := [(wPCo p70 b7 c7 d7 e7 h7 k7 st), (wSet cy b7 v), (wSav cy q h7 z), (wSet cy (q 0) s0), (wSet cy (q 1) s1), (wSet cy (q 2) s2), (wSet cy (q 3) s3)]) (wns := fun u8 => [(wPCo p70 b7 c7 d7 e7 h7 k7 u8.1), (wSet cy b7 u8.2.1), (wSav cy q h7 u8.2.2.1), (wSet cy (q 0) u8.2.2.2.1), (wSet cy (q 1) u8.2.2.2.2.1), (wSet cy (q 2) u8.2.2.2.2.2.1), (wSet cy (q 3) u8.2.2.2.2.2.2)]) (W2 := fun u8 => [(wPCo p70 b7 c7 d7 e7 h7 k7 u8.1), (wSet cy b7 u8.2.1), (wSav cy q h7 u8.2.2.1), (wSet cy (q 0) u8.2.2.2.1), (wSet cy (q 1) u8.2.2.2.2.1), (wSet cy (q 2) u8.2.2.2.2.2.1), (wSet cy (q 3) u8.2.2.2.2.2.2), (wI cy gA0 3 (upd ga 0 (nI (n + 1)))), (wI cy wA0 8 (upd wa n (nI (V % 51)))), (wI cy lA0 8 (upd la n (-1))), (wI cy rA0 4 ra)]) (vx_runSW (As := [.ref p70, .int (nI (V % 51))]) (rest := []) S (c_L_adds l hl0 D cy g B p70 b7 c7 d7 e7 h7 k7 q st v z s0 s1 s2 s3 (nI (V % 51)) (fun k h => k_add h)) (vx_cwSW 2 hts gL_acts_L_adds rfl rfl rfl hd_L_adds_S ⟨Nat.le_of_ble_eq_true rfl, Nat.le_of_ble_eq_true rfl⟩) ⟨lwP_blind, my_preL (wcs := [(wPCo p70 b7 c7 d7 e7 h7 k7 st), (wSet cy b7 v), (wSav cy q h7 z), (wSet cy (q 0) s0), (wSet cy (q 1) s1), (wSet cy (q 2) s2), (wSet cy (q 3) s3)]) hK0 hNc hS hAB hP hD [0, 1, 2, 3, 4, 5, 6] (by decide) rfl rfl⟩ rfl rfl hl.1 rfl (lv_room (Nat.le_of_ble_eq_true rfl)) dL_acts_104 ⟨(show cq + 1 ≤ 10 by omega), (show sq + 6 ≤ 60 by omega)⟩) hS hP hD [0, 1, 2, 3, 4, 5, 6] rfl rfl (fun _ => rfl) (fun _ => by simp only [List.map_cons, List.map_nil, adrSet, adrSetE, adrPow, adrPowE, adrTxt, adrTxtE, adrSav, adrSavE, adrPCo, adrI, adrL]) (fun _ => rfl) (fun r9 u9 H locs hw hP hD hS => ?_)
      obtain ⟨rfl, rfl⟩ := Prod.mk.inj (e1.symm.trans hw)
      have hP : va_P D vwCl (List.flatten [(wPCo p70 b7 c7 d7 e7 h7 k7 u1.1), (wSet cy b7 u1.2.1), (wSav cy q h7 u1.2.2.1), (wSet cy (q 0) u1.2.2.2.1), (wSet cy (q 1) u1.2.2.2.2.1), (wSet cy (q 2) u1.2.2.2.2.2.1), (wSet cy (q 3) u1.2.2.2.2.2.2), (wI cy gA0 3 (upd ga 0 (nI (n + 1)))), (wI cy wA0 8 (upd wa n (nI (V % 51)))), (wI cy lA0 8 (upd la n (-1))), (wI cy rA0 4 ra)]) H := hP
      have hD : va_D A (List.flatten [(wPCo p70 b7 c7 d7 e7 h7 k7 u1.1), (wSet cy b7 u1.2.1), (wSav cy q h7 u1.2.2.1), (wSet cy (q 0) u1.2.2.2.1), (wSet cy (q 1) u1.2.2.2.2.1), (wSet cy (q 2) u1.2.2.2.2.2.1), (wSet cy (q 3) u1.2.2.2.2.2.2), (wI cy gA0 3 (upd ga 0 (nI (n + 1)))), (wI cy wA0 8 (upd wa n (nI (V % 51)))), (wI cy lA0 8 (upd la n (-1))), (wI cy rA0 4 ra)]) := hD
      refine lv_aload_n hx hb dL_acts_107 rfl (lv_at hl 4 rfl) ?_
      refine lv_iconst (v := 0) hx hb dL_acts_108 (by decide) ?_
      refine wk_ia hx hb hK0.1 hP 48 0 (k := 0) (v := (nI (n + 1))) rfl rfl (by decide) (by decide) upd_eq dL_acts_109 ?_
      refine lv_iconst (v := 1) hx hb dL_acts_110 (by decide) ?_
      refine lv_isub hx hb dL_acts_111 ?_
      refine wk_ti (x := ((nI (n + 1)) - 1)) (v := (nI n)) (nI_pred n) ?_
      refine lv_icmp_ne (tgt := 119) hx hb dL_acts_112 (by decide) (fun h9 => absurd rfl h9) (fun _ => ?_)
      refine lv_iconst (v := 1) hx hb dL_acts_115 (by decide) ?_
      refine lv_goto (tgt := 120) hx hb dL_acts_116 (by decide) ?_
      exact K 120 dL_acts_120 (u1, ((upd ga 0 (nI (n + 1))), (upd wa n (nI (V % 51))), (upd la n (-1)), ra)) _ _ H locs ls (by omega) (by omega) ⟨_, _, _, ⟨hC1, AG_add hAG hn8 hr4 _, htx, l8_upd hl8 (by decide)⟩, pwr_1' hu, hrg1⟩ hP hS
    · refine lv_if_ne (tgt := 79) hx hb dL_acts_71 (by decide) (fun _ => ?_) (fun h9 => absurd h9 (fun z => h3 ((iV (by omega) (by decide)).mp z)))
      refine lv_bipush (v := 6) hx hb dL_acts_79 (by decide) ?_
      refine lv_irem hx hb dL_acts_81 (by decide) ?_
      refine wk_ti (x := ((nI V) - (nI V) / 6 * 6)) (v := (nI (V % 6))) (pk_rem (by omega) (by decide) (by decide)) ?_
      have hX : V % 6 ≤ 50 := by have := Nat.mod_lt V (show 0 < 6 by decide); omega
      refine wk_ast hx hb hK0.1 hP hD hS 49 0 (k := n) (x := (nI (V % 6))) rfl rfl (by omega) (by decide) dL_acts_82 (fun H locs hP hD hS => ?_)
      have hP : va_P D vwCl (List.flatten [(wPCo p70 b7 c7 d7 e7 h7 k7 st), (wSet cy b7 v), (wSav cy q h7 z), (wSet cy (q 0) s0), (wSet cy (q 1) s1), (wSet cy (q 2) s2), (wSet cy (q 3) s3), (wI cy gA0 3 ga), (wI cy wA0 8 (upd wa n (nI (V % 6)))), (wI cy lA0 8 la), (wI cy rA0 4 ra)]) H := hP
      have hD : va_D A (List.flatten [(wPCo p70 b7 c7 d7 e7 h7 k7 st), (wSet cy b7 v), (wSav cy q h7 z), (wSet cy (q 0) s0), (wSet cy (q 1) s1), (wSet cy (q 2) s2), (wSet cy (q 3) s3), (wI cy gA0 3 ga), (wI cy wA0 8 (upd wa n (nI (V % 6)))), (wI cy lA0 8 la), (wI cy rA0 4 ra)]) := hD
      refine lv_aload_n hx hb dL_acts_83 rfl (lv_at hl 6 rfl) ?_
      refine lv_aload_n hx hb dL_acts_84 rfl (lv_at hl 4 rfl) ?_
      refine lv_iconst (v := 0) hx hb dL_acts_85 (by decide) ?_
      refine wk_ia hx hb hK0.1 hP 48 0 (k := 0) (v := (nI n)) rfl rfl (by decide) (by decide) hAG.1 dL_acts_86 ?_
      refine lv_iconst (v := (-1)) hx hb dL_acts_87 (by decide) ?_
      refine wk_ast hx hb hK0.1 hP hD hS 50 0 (k := n) (x := (-1)) rfl rfl (by omega) (by decide) dL_acts_88 (fun H locs hP hD hS => ?_)
      have hP : va_P D vwCl (List.flatten [(wPCo p70 b7 c7 d7 e7 h7 k7 st), (wSet cy b7 v), (wSav cy q h7 z), (wSet cy (q 0) s0), (wSet cy (q 1) s1), (wSet cy (q 2) s2), (wSet cy (q 3) s3), (wI cy gA0 3 ga), (wI cy wA0 8 (upd wa n (nI (V % 6)))), (wI cy lA0 8 (upd la n (-1))), (wI cy rA0 4 ra)]) H := hP
      have hD : va_D A (List.flatten [(wPCo p70 b7 c7 d7 e7 h7 k7 st), (wSet cy b7 v), (wSav cy q h7 z), (wSet cy (q 0) s0), (wSet cy (q 1) s1), (wSet cy (q 2) s2), (wSet cy (q 3) s3), (wI cy gA0 3 ga), (wI cy wA0 8 (upd wa n (nI (V % 6)))), (wI cy lA0 8 (upd la n (-1))), (wI cy rA0 4 ra)]) := hD
      refine lv_aload_n hx hb dL_acts_89 rfl (lv_at hl 4 rfl) ?_
      refine lv_iconst (v := 0) hx hb dL_acts_90 (by decide) ?_
      refine lv_dup2_11 hx hb dL_acts_91 rfl rfl ?_
      refine wk_ia hx hb hK0.1 hP 48 0 (k := 0) (v := (nI n)) rfl rfl (by decide) (by decide) hAG.1 dL_acts_92 ?_
      refine lv_iconst (v := 1) hx hb dL_acts_93 (by decide) ?_
      refine lv_iadd hx hb dL_acts_94 ?_
      refine wk_ti (x := ((nI n) + 1)) (v := (nI (n + 1))) (nI_1 n) ?_
      refine wk_ast hx hb hK0.1 hP hD hS 48 0 (k := 0) (x := (nI (n + 1))) rfl rfl (by decide) (by decide) dL_acts_95 (fun H locs hP hD hS => ?_)
      have hP : va_P D vwCl (List.flatten [(wPCo p70 b7 c7 d7 e7 h7 k7 st), (wSet cy b7 v), (wSav cy q h7 z), (wSet cy (q 0) s0), (wSet cy (q 1) s1), (wSet cy (q 2) s2), (wSet cy (q 3) s3), (wI cy gA0 3 (upd ga 0 (nI (n + 1)))), (wI cy wA0 8 (upd wa n (nI (V % 6)))), (wI cy lA0 8 (upd la n (-1))), (wI cy rA0 4 ra)]) H := hP
      have hD : va_D A (List.flatten [(wPCo p70 b7 c7 d7 e7 h7 k7 st), (wSet cy b7 v), (wSav cy q h7 z), (wSet cy (q 0) s0), (wSet cy (q 1) s1), (wSet cy (q 2) s2), (wSet cy (q 3) s3), (wI cy gA0 3 (upd ga 0 (nI (n + 1)))), (wI cy wA0 8 (upd wa n (nI (V % 6)))), (wI cy lA0 8 (upd la n (-1))), (wI cy rA0 4 ra)]) := hD
      refine lv_aload_n hx hb dL_acts_96 rfl (lv_at hl 3 rfl) ?_
      refine lv_aload_n hx hb dL_acts_97 rfl (lv_at hl 5 rfl) ?_
      refine lv_aload_n hx hb dL_acts_98 rfl (lv_at hl 4 rfl) ?_
      refine lv_iconst (v := 0) hx hb dL_acts_99 (by decide) ?_
      refine wk_ia hx hb hK0.1 hP 48 0 (k := 0) (v := (nI (n + 1))) rfl rfl (by decide) (by decide) upd_eq dL_acts_100 ?_
      refine lv_iconst (v := 1) hx hb dL_acts_101 (by decide) ?_
      refine lv_isub hx hb dL_acts_102 ?_
      refine wk_ti (x := ((nI (n + 1)) - 1)) (v := (nI n)) (nI_pred n) ?_
      refine wk_ia hx hb hK0.1 hP 49 0 (k := n) (v := (nI (V % 6))) rfl rfl (by omega) (by decide) upd_eq dL_acts_103 ?_
      obtain ⟨u1, e1, hu, hC1, hrg1⟩ := T_add (st := st) CHH hrg hX hn8
      refine lw_compi (wcs := [(wPCo p70 b7 c7 d7 e7 h7 k7 st), (wSet cy b7 v), (wSav cy q h7 z), (wSet cy (q 0) s0), (wSet cy (q 1) s1), (wSet cy (q 2) s2), (wSet cy (q 3) s3)]) (wns := fun u8 => [(wPCo p70 b7 c7 d7 e7 h7 k7 u8.1), (wSet cy b7 u8.2.1), (wSav cy q h7 u8.2.2.1), (wSet cy (q 0) u8.2.2.2.1), (wSet cy (q 1) u8.2.2.2.2.1), (wSet cy (q 2) u8.2.2.2.2.2.1), (wSet cy (q 3) u8.2.2.2.2.2.2)]) (W2 := fun u8 => [(wPCo p70 b7 c7 d7 e7 h7 k7 u8.1), (wSet cy b7 u8.2.1), (wSav cy q h7 u8.2.2.1), (wSet cy (q 0) u8.2.2.2.1), (wSet cy (q 1) u8.2.2.2.2.1), (wSet cy (q 2) u8.2.2.2.2.2.1), (wSet cy (q 3) u8.2.2.2.2.2.2), (wI cy gA0 3 (upd ga 0 (nI (n + 1)))), (wI cy wA0 8 (upd wa n (nI (V % 6)))), (wI cy lA0 8 (upd la n (-1))), (wI cy rA0 4 ra)]) (vx_runSW (As := [.ref p70, .int (nI (V % 6))]) (rest := []) S (c_L_adds l hl0 D cy g B p70 b7 c7 d7 e7 h7 k7 q st v z s0 s1 s2 s3 (nI (V % 6)) (fun k h => k_add h)) (vx_cwSW 2 hts gL_acts_L_adds rfl rfl rfl hd_L_adds_S ⟨Nat.le_of_ble_eq_true rfl, Nat.le_of_ble_eq_true rfl⟩) ⟨lwP_blind, my_preL (wcs := [(wPCo p70 b7 c7 d7 e7 h7 k7 st), (wSet cy b7 v), (wSav cy q h7 z), (wSet cy (q 0) s0), (wSet cy (q 1) s1), (wSet cy (q 2) s2), (wSet cy (q 3) s3)]) hK0 hNc hS hAB hP hD [0, 1, 2, 3, 4, 5, 6] (by decide) rfl rfl⟩ rfl rfl hl.1 rfl (lv_room (Nat.le_of_ble_eq_true rfl)) dL_acts_104 ⟨(show cq + 1 ≤ 10 by omega), (show sq + 6 ≤ 60 by omega)⟩) hS hP hD [0, 1, 2, 3, 4, 5, 6] rfl rfl (fun _ => rfl) (fun _ => by simp only [List.map_cons, List.map_nil, adrSet, adrSetE, adrPow, adrPowE, adrTxt, adrTxtE, adrSav, adrSavE, adrPCo, adrI, adrL]) (fun _ => rfl) (fun r9 u9 H locs hw hP hD hS => ?_)
      obtain ⟨rfl, rfl⟩ := Prod.mk.inj (e1.symm.trans hw)
      have hP : va_P D vwCl (List.flatten [(wPCo p70 b7 c7 d7 e7 h7 k7 u1.1), (wSet cy b7 u1.2.1), (wSav cy q h7 u1.2.2.1), (wSet cy (q 0) u1.2.2.2.1), (wSet cy (q 1) u1.2.2.2.2.1), (wSet cy (q 2) u1.2.2.2.2.2.1), (wSet cy (q 3) u1.2.2.2.2.2.2), (wI cy gA0 3 (upd ga 0 (nI (n + 1)))), (wI cy wA0 8 (upd wa n (nI (V % 6)))), (wI cy lA0 8 (upd la n (-1))), (wI cy rA0 4 ra)]) H := hP
      have hD : va_D A (List.flatten [(wPCo p70 b7 c7 d7 e7 h7 k7 u1.1), (wSet cy b7 u1.2.1), (wSav cy q h7 u1.2.2.1), (wSet cy (q 0) u1.2.2.2.1), (wSet cy (q 1) u1.2.2.2.2.1), (wSet cy (q 2) u1.2.2.2.2.2.1), (wSet cy (q 3) u1.2.2.2.2.2.2), (wI cy gA0 3 (upd ga 0 (nI (n + 1)))), (wI cy wA0 8 (upd wa n (nI (V % 6)))), (wI cy lA0 8 (upd la n (-1))), (wI cy rA0 4 ra)]) := hD
      refine lv_aload_n hx hb dL_acts_107 rfl (lv_at hl 4 rfl) ?_
      refine lv_iconst (v := 0) hx hb dL_acts_108 (by decide) ?_
      refine wk_ia hx hb hK0.1 hP 48 0 (k := 0) (v := (nI (n + 1))) rfl rfl (by decide) (by decide) upd_eq dL_acts_109 ?_
      refine lv_iconst (v := 1) hx hb dL_acts_110 (by decide) ?_
      refine lv_isub hx hb dL_acts_111 ?_
      refine wk_ti (x := ((nI (n + 1)) - 1)) (v := (nI n)) (nI_pred n) ?_
      refine lv_icmp_ne (tgt := 119) hx hb dL_acts_112 (by decide) (fun h9 => absurd rfl h9) (fun _ => ?_)
      refine lv_iconst (v := 1) hx hb dL_acts_115 (by decide) ?_
      refine lv_goto (tgt := 120) hx hb dL_acts_116 (by decide) ?_
      exact K 120 dL_acts_120 (u1, ((upd ga 0 (nI (n + 1))), (upd wa n (nI (V % 6))), (upd la n (-1)), ra)) _ _ H locs ls (by omega) (by omega) ⟨_, _, _, ⟨hC1, AG_add hAG hn8 hr4 _, htx, l8_upd hl8 (by decide)⟩, pwr_1' hu, hrg1⟩ hP hS
set_option maxHeartbeats 4000000 in
set_option maxRecDepth 100000 in
theorem ac_sum (C : acC p l s m meth c args D cy g B A) (F : soF v tx ga wa la ra sg n r) (hp : pwr st sg w) (hrg : ring z s0 s1 s2 s3 y0 y8) {V wy : Nat} {x5 : Int32} {cq sq : Nat} {H : Heap} {locs : List Loc} (hP : va_P D vwCl (List.flatten [(wPCo p70 b7 c7 d7 e7 h7 k7 st), (wSet cy b7 v), (wSav cy q h7 z), (wSet cy (q 0) s0), (wSet cy (q 1) s1), (wSet cy (q 2) s2), (wSet cy (q 3) s3), (wI cy gA0 3 ga), (wI cy wA0 8 wa), (wI cy lA0 8 la), (wI cy rA0 4 ra)]) H) (hD : va_D A (List.flatten [(wPCo p70 b7 c7 d7 e7 h7 k7 st), (wSet cy b7 v), (wSav cy q h7 z), (wSet cy (q 0) s0), (wSet cy (q 1) s1), (wSet cy (q 2) s2), (wSet cy (q 3) s3), (wI cy gA0 3 ga), (wI cy wA0 8 wa), (wI cy lA0 8 la), (wI cy rA0 4 ra)])) (hS : va_S A s.heap H locs) (K : ∀ (ls : Array Slot), lv_has ls 13 [(10, .int (nI n)), (9, .int (nI (wsN sg n))), (8, .int (sg 1)), (6, .int (nI V)), (7, .int (nI wy)), (5, .int x5), (0, .ref p70), (1, .ref gA0), (2, .ref wA0), (3, .ref lA0), (4, .ref rA0)] → W p l e actR s m args below meth c H locs cq sq Q (F0 m 162 ls [])) : ∀ (fu i : Nat) (ls : Array Slot), n - i < fu → i ≤ n → lv_has ls 13 [(10, .int (nI i)), (9, .int (nI (wsN sg i))), (8, .int (sg 1)), (6, .int (nI V)), (7, .int (nI wy)), (5, .int x5), (0, .ref p70), (1, .ref gA0), (2, .ref wA0), (3, .ref lA0), (4, .ref rA0)] → W p l e actR s m args below meth c H locs cq sq Q (F0 m 139 ls [])
  | 0, _, _ => fun h => absurd h (Nat.not_lt_zero _)
  | fu + 1, i, ls => by
    intro hfu hin hl
    have C0 := C
    have FF0 := F
    obtain ⟨hl0, hx, hb, hr9, hml, hown, hts, hlk, hK0, hNc, hAB⟩ := C
    obtain ⟨CHH, hAG, htx, hl8⟩ := F
    have hN := CHH.2.1
    have hL := CHH.2.2.1
    have hW := CHH.2.2.2.1
    have hR := CHH.2.2.2.2.1
    have h8 : n ≤ 8 := hN.2.1
    have hr4 : r ≤ 4 := hN.2.2.2
    have S := my_fix hx hb hml hown hts
    refine lv_iload hx hb dL_acts_139 (lv_at hl 0 rfl) ?_
    refine lv_aload_n hx hb dL_acts_141 rfl (lv_at hl 7 rfl) ?_
    refine lv_iconst (v := 0) hx hb dL_acts_142 (by decide) ?_
    refine wk_ia hx hb hK0.1 hP 48 0 (k := 0) (v := (nI n)) rfl rfl (by decide) (by decide) hAG.1 dL_acts_143 ?_
    rcases Nat.lt_or_ge i n with hi | hi
    · refine lv_icmp_ge (tgt := 162) hx hb dL_acts_144 (by decide) (fun h9 => absurd h9 (nI_ge hi (by omega))) (fun _ => ?_)
      refine lv_iload hx hb dL_acts_147 (lv_at hl 1 rfl) ?_
      refine lv_aload_n hx hb dL_acts_149 rfl (lv_at hl 8 rfl) ?_
      refine lv_iload hx hb dL_acts_150 (lv_at hl 0 rfl) ?_
      refine wk_ia hx hb hK0.1 hP 49 0 (k := i) (v := (nI (wN sg i))) rfl rfl (by omega) (by decide) ((hAG.2.2.2.1 i hi).trans (wN_eq hW hi).1) dL_acts_152 ?_
      refine lv_iadd hx hb dL_acts_153 ?_
      refine wk_ti (x := ((nI (wsN sg i)) + (nI (wN sg i)))) (v := (nI (wsN sg (i + 1)))) (nI_add _ _) ?_
      refine lv_istore (lv' := [(9, .int (nI (wsN sg (i + 1)))), (10, .int (nI i)), (8, .int (sg 1)), (6, .int (nI V)), (7, .int (nI wy)), (5, .int x5), (0, .ref p70), (1, .ref gA0), (2, .ref wA0), (3, .ref lA0), (4, .ref rA0)]) hx hb dL_acts_154 hl (by decide) rfl (fun ls hl => ?_)
      refine lv_iinc (v := (nI (i + 1))) (lv' := [(10, .int (nI (i + 1))), (9, .int (nI (wsN sg (i + 1)))), (8, .int (sg 1)), (6, .int (nI V)), (7, .int (nI wy)), (5, .int x5), (0, .ref p70), (1, .ref gA0), (2, .ref wA0), (3, .ref lA0), (4, .ref rA0)]) hx hb dL_acts_156 hl (k := 1) rfl (nI_1 i) (by decide) rfl (fun ls hl => ?_)
      refine lv_goto (tgt := 139) hx hb dL_acts_159 (by decide) ?_
      exact ac_sum C0 FF0 hp hrg hP hD hS K fu (i + 1) ls (by omega) (by omega) (lv_sub hl [0, 1, 2, 3, 4, 5, 6, 7, 8, 9, 10] rfl)
    · have e : i = n := by omega
      subst e
      refine lv_icmp_ge (tgt := 162) hx hb dL_acts_144 (by decide) (fun _ => ?_) (fun h9 => absurd (nI_le (Nat.le_refl _) (by omega)) h9)
      exact K ls (lv_sub hl [0, 1, 2, 3, 4, 5, 6, 7, 8, 9, 10] rfl)
set_option maxHeartbeats 4000000 in
set_option maxRecDepth 100000 in
theorem ac_quota (C : acC p l s m meth c args D cy g B A) (F : soF v tx ga wa la ra sg n r) (hp : pwr st sg w) (hrg : ring z s0 s1 s2 s3 y0 y8) {V wy : Nat} {x5 : Int32} {cq sq : Nat} {H : Heap} {locs : List Loc} {ls : Array Slot} (hV : V < 10000000) (hcq : cq ≤ 0) (hsq : sq ≤ 0) (hP : va_P D vwCl (List.flatten [(wPCo p70 b7 c7 d7 e7 h7 k7 st), (wSet cy b7 v), (wSav cy q h7 z), (wSet cy (q 0) s0), (wSet cy (q 1) s1), (wSet cy (q 2) s2), (wSet cy (q 3) s3), (wI cy gA0 3 ga), (wI cy wA0 8 wa), (wI cy lA0 8 la), (wI cy rA0 4 ra)]) H) (hD : va_D A (List.flatten [(wPCo p70 b7 c7 d7 e7 h7 k7 st), (wSet cy b7 v), (wSav cy q h7 z), (wSet cy (q 0) s0), (wSet cy (q 1) s1), (wSet cy (q 2) s2), (wSet cy (q 3) s3), (wI cy gA0 3 ga), (wI cy wA0 8 wa), (wI cy lA0 8 la), (wI cy rA0 4 ra)])) (hS : va_S A s.heap H locs) (hl : lv_has ls 13 [(6, .int (nI V)), (7, .int (nI wy)), (5, .int x5), (0, .ref p70), (1, .ref gA0), (2, .ref wA0), (3, .ref lA0), (4, .ref rA0)])
    (K : ∀ (pc : Nat), decode cL_acts pc = .ok (.ireturn, 1) → ∀ (u : ActU) (cq sq : Nat) (H : Heap) (locs : List Loc) (ls : Array Slot), cq ≤ 6 → sq ≤ 36 → actOK tx w u → va_P D vwCl (List.flatten [(wPCo p70 b7 c7 d7 e7 h7 k7 u.1.1), (wSet cy b7 u.1.2.1), (wSav cy q h7 u.1.2.2.1), (wSet cy (q 0) u.1.2.2.2.1), (wSet cy (q 1) u.1.2.2.2.2.1), (wSet cy (q 2) u.1.2.2.2.2.2.1), (wSet cy (q 3) u.1.2.2.2.2.2.2), (wI cy gA0 3 u.2.1), (wI cy wA0 8 u.2.2.1), (wI cy lA0 8 u.2.2.2.1), (wI cy rA0 4 u.2.2.2.2)]) H → va_S A s.heap H locs → W p l e actR s m args below meth c H locs cq sq Q (F0 m pc ls [.int 1])) : W p l e actR s m args below meth c H locs cq sq Q (F0 m 128 ls []) := by
  have FF0 := F
  obtain ⟨hl0, hx, hb, hr9, hml, hown, hts, hlk, hK0, hNc, hAB⟩ := C
  obtain ⟨CHH, hAG, htx, hl8⟩ := F
  have hN := CHH.2.1
  have hL := CHH.2.2.1
  have hW := CHH.2.2.2.1
  have hR := CHH.2.2.2.2.1
  have h8 : n ≤ 8 := hN.2.1
  have hr4 : r ≤ 4 := hN.2.2.2
  have S := my_fix hx hb hml hown hts
  have C0 : acC p l s m meth c args D cy g B A := ⟨hl0, hx, hb, hr9, hml, hown, hts, hlk, hK0, hNc, hAB⟩
  refine lv_aload_n hx hb dL_acts_128 rfl (lv_at hl 4 rfl) ?_
  refine lv_iconst (v := 1) hx hb dL_acts_129 (by decide) ?_
  refine wk_ia hx hb hK0.1 hP 48 0 (k := 1) (v := (sg 1)) rfl rfl (by decide) (by decide) hAG.2.1 dL_acts_130 ?_
  refine lv_istore (lv' := [(8, .int (sg 1)), (6, .int (nI V)), (7, .int (nI wy)), (5, .int x5), (0, .ref p70), (1, .ref gA0), (2, .ref wA0), (3, .ref lA0), (4, .ref rA0)]) hx hb dL_acts_131 hl (by decide) rfl (fun ls hl => ?_)
  refine lv_iconst (v := 0) hx hb dL_acts_133 (by decide) ?_
  refine lv_istore (lv' := [(9, .int 0), (8, .int (sg 1)), (6, .int (nI V)), (7, .int (nI wy)), (5, .int x5), (0, .ref p70), (1, .ref gA0), (2, .ref wA0), (3, .ref lA0), (4, .ref rA0)]) hx hb dL_acts_134 hl (by decide) rfl (fun ls hl => ?_)
  refine lv_iconst (v := 0) hx hb dL_acts_136 (by decide) ?_
  refine lv_istore (lv' := [(10, .int 0), (9, .int 0), (8, .int (sg 1)), (6, .int (nI V)), (7, .int (nI wy)), (5, .int x5), (0, .ref p70), (1, .ref gA0), (2, .ref wA0), (3, .ref lA0), (4, .ref rA0)]) hx hb dL_acts_137 hl (by decide) rfl (fun ls hl => ?_)
  refine ac_sum C0 FF0 hp hrg hP hD hS (fun ls hl => ?_) (n + 1) 0 ls (by omega) (Nat.zero_le _) (lv_sub hl [0, 1, 2, 3, 4, 5, 6, 7, 8, 9, 10] rfl)
  have hws : wsN sg n ≤ 400 := ws_400 hN hW
  refine lv_aload_n hx hb dL_acts_162 rfl (lv_at hl 7 rfl) ?_
  refine lv_iconst (v := 1) hx hb dL_acts_163 (by decide) ?_
  refine lv_iload hx hb dL_acts_164 (lv_at hl 3 rfl) ?_
  refine lv_iconst (v := 4) hx hb dL_acts_166 (by decide) ?_
  refine lv_irem hx hb dL_acts_167 (by decide) ?_
  refine wk_ti (x := ((nI V) - (nI V) / 4 * 4)) (v := (nI (V % 4))) (pk_rem (by omega) (by decide) (by decide)) ?_
  by_cases h4 : V % 4 = 0
  · refine lv_if_eq (tgt := 176) hx hb dL_acts_168 (by decide) (fun _ => ?_) (fun h9 => absurd (by rw [h4]; rfl) h9)
    refine lv_iconst (v := 1) hx hb dL_acts_176 (by decide) ?_
    refine lv_iload hx hb dL_acts_177 (lv_at hl 3 rfl) ?_
    refine lv_iconst (v := 4) hx hb dL_acts_179 (by decide) ?_
    refine lv_idiv hx hb dL_acts_180 (by decide) ?_
    refine wk_ti (x := ((nI V) / 4)) (v := (nI (V / 4))) (pk_div (by omega) (by decide) (by decide)) ?_
    refine lv_sipush (v := 400) hx hb dL_acts_181 (by decide) ?_
    refine lv_irem hx hb dL_acts_184 (by decide) ?_
    refine wk_ti (x := ((nI (V / 4)) - (nI (V / 4)) / 400 * 400)) (v := (nI (V / 4 % 400))) (pk_rem (by omega) (by decide) (by decide)) ?_
    refine lv_iadd hx hb dL_acts_185 ?_
    refine lv_goto (tgt := 198) hx hb dL_acts_186 (by decide) ?_
    refine wk_ti (x := (1 + (nI (V / 4 % 400)))) (v := (nI (1 + V / 4 % 400))) (nI_add 1 _) ?_
    obtain ⟨u1, e1, hu, hC1, hrg1⟩ := T_quota (st := st) CHH hrg (x := 1 + V / 4 % 400) (by omega) (by have := Nat.mod_lt (V / 4) (show 0 < 400 by decide); omega)
    refine wk_ast hx hb hK0.1 hP hD hS 48 0 (k := 1) (x := (nI (1 + V / 4 % 400))) rfl rfl (by decide) (by decide) dL_acts_198 (fun H locs hP hD hS => ?_)
    have hP : va_P D vwCl (List.flatten [(wPCo p70 b7 c7 d7 e7 h7 k7 st), (wSet cy b7 v), (wSav cy q h7 z), (wSet cy (q 0) s0), (wSet cy (q 1) s1), (wSet cy (q 2) s2), (wSet cy (q 3) s3), (wI cy gA0 3 (upd ga 1 (nI (1 + V / 4 % 400)))), (wI cy wA0 8 wa), (wI cy lA0 8 la), (wI cy rA0 4 ra)]) H := hP
    have hD : va_D A (List.flatten [(wPCo p70 b7 c7 d7 e7 h7 k7 st), (wSet cy b7 v), (wSav cy q h7 z), (wSet cy (q 0) s0), (wSet cy (q 1) s1), (wSet cy (q 2) s2), (wSet cy (q 3) s3), (wI cy gA0 3 (upd ga 1 (nI (1 + V / 4 % 400)))), (wI cy wA0 8 wa), (wI cy lA0 8 la), (wI cy rA0 4 ra)]) := hD
    refine lv_aload_n hx hb dL_acts_199 rfl (lv_at hl 6 rfl) ?_
    refine lv_aload_n hx hb dL_acts_200 rfl (lv_at hl 7 rfl) ?_
    refine lv_iconst (v := 1) hx hb dL_acts_201 (by decide) ?_
    refine wk_ia hx hb hK0.1 hP 48 0 (k := 1) (v := (nI (1 + V / 4 % 400))) rfl rfl (by decide) (by decide) upd_eq dL_acts_202 ?_
    refine lw_compi (wcs := [(wPCo p70 b7 c7 d7 e7 h7 k7 st), (wSet cy b7 v), (wSav cy q h7 z), (wSet cy (q 0) s0), (wSet cy (q 1) s1), (wSet cy (q 2) s2), (wSet cy (q 3) s3)]) (wns := fun u8 => [(wPCo p70 b7 c7 d7 e7 h7 k7 u8.1), (wSet cy b7 u8.2.1), (wSav cy q h7 u8.2.2.1), (wSet cy (q 0) u8.2.2.2.1), (wSet cy (q 1) u8.2.2.2.2.1), (wSet cy (q 2) u8.2.2.2.2.2.1), (wSet cy (q 3) u8.2.2.2.2.2.2)]) (W2 := fun u8 => [(wPCo p70 b7 c7 d7 e7 h7 k7 u8.1), (wSet cy b7 u8.2.1), (wSav cy q h7 u8.2.2.1), (wSet cy (q 0) u8.2.2.2.1), (wSet cy (q 1) u8.2.2.2.2.1), (wSet cy (q 2) u8.2.2.2.2.2.1), (wSet cy (q 3) u8.2.2.2.2.2.2), (wI cy gA0 3 (upd ga 1 (nI (1 + V / 4 % 400)))), (wI cy wA0 8 wa), (wI cy lA0 8 la), (wI cy rA0 4 ra)]) (vx_runSW (As := [.ref p70, .int (nI (1 + V / 4 % 400))]) (rest := []) S (c_L_quotas l hl0 D cy g B p70 b7 c7 d7 e7 h7 k7 q st v z s0 s1 s2 s3 (nI (1 + V / 4 % 400)) (fun k h => k_setQuota h)) (vx_cwSW 2 hts gL_acts_L_quotas rfl rfl rfl hd_L_quotas_S ⟨Nat.le_of_ble_eq_true rfl, Nat.le_of_ble_eq_true rfl⟩) ⟨lwP_blind, my_preL (wcs := [(wPCo p70 b7 c7 d7 e7 h7 k7 st), (wSet cy b7 v), (wSav cy q h7 z), (wSet cy (q 0) s0), (wSet cy (q 1) s1), (wSet cy (q 2) s2), (wSet cy (q 3) s3)]) hK0 hNc hS hAB hP hD [0, 1, 2, 3, 4, 5, 6] (by decide) rfl rfl⟩ rfl rfl hl.1 rfl (lv_room (Nat.le_of_ble_eq_true rfl)) dL_acts_203 ⟨(show cq + 1 ≤ 10 by omega), (show sq + 6 ≤ 60 by omega)⟩) hS hP hD [0, 1, 2, 3, 4, 5, 6] rfl rfl (fun _ => rfl) (fun _ => by simp only [List.map_cons, List.map_nil, adrSet, adrSetE, adrPow, adrPowE, adrTxt, adrTxtE, adrSav, adrSavE, adrPCo, adrI, adrL]) (fun _ => rfl) (fun r9 u9 H locs hw hP hD hS => ?_)
    obtain ⟨rfl, rfl⟩ := Prod.mk.inj (e1.symm.trans hw)
    have hP : va_P D vwCl (List.flatten [(wPCo p70 b7 c7 d7 e7 h7 k7 u1.1), (wSet cy b7 u1.2.1), (wSav cy q h7 u1.2.2.1), (wSet cy (q 0) u1.2.2.2.1), (wSet cy (q 1) u1.2.2.2.2.1), (wSet cy (q 2) u1.2.2.2.2.2.1), (wSet cy (q 3) u1.2.2.2.2.2.2), (wI cy gA0 3 (upd ga 1 (nI (1 + V / 4 % 400)))), (wI cy wA0 8 wa), (wI cy lA0 8 la), (wI cy rA0 4 ra)]) H := hP
    have hD : va_D A (List.flatten [(wPCo p70 b7 c7 d7 e7 h7 k7 u1.1), (wSet cy b7 u1.2.1), (wSav cy q h7 u1.2.2.1), (wSet cy (q 0) u1.2.2.2.1), (wSet cy (q 1) u1.2.2.2.2.1), (wSet cy (q 2) u1.2.2.2.2.2.1), (wSet cy (q 3) u1.2.2.2.2.2.2), (wI cy gA0 3 (upd ga 1 (nI (1 + V / 4 % 400)))), (wI cy wA0 8 wa), (wI cy lA0 8 la), (wI cy rA0 4 ra)]) := hD
    refine lv_iload hx hb dL_acts_206 (lv_at hl 2 rfl) ?_
    refine lv_icmp_ne (tgt := 215) hx hb dL_acts_208 (by decide) (fun h9 => absurd rfl h9) (fun _ => ?_)
    refine lv_iconst (v := 1) hx hb dL_acts_211 (by decide) ?_
    refine lv_goto (tgt := 216) hx hb dL_acts_212 (by decide) ?_
    exact K 216 dL_acts_216 (u1, ((upd ga 1 (nI (1 + V / 4 % 400))), wa, la, ra)) _ _ H locs ls (by omega) (by omega) ⟨_, _, _, ⟨hC1, AG_quota hAG _, htx, hl8⟩, pwr_1' hu, hrg1⟩ hP hS
  · refine lv_if_eq (tgt := 176) hx hb dL_acts_168 (by decide) (fun h9 => absurd h9 (fun z => h4 ((iV (by omega) (by decide)).mp z))) (fun _ => ?_)
    refine lv_iload hx hb dL_acts_171 (lv_at hl 1 rfl) ?_
    by_cases h0 : wsN sg n = 0
    · refine lv_if_ne (tgt := 189) hx hb dL_acts_173 (by decide) (fun h9 => absurd (by rw [h0]; rfl) h9) (fun _ => ?_)
      refine lv_iconst (v := 1) hx hb dL_acts_176 (by decide) ?_
      refine lv_iload hx hb dL_acts_177 (lv_at hl 3 rfl) ?_
      refine lv_iconst (v := 4) hx hb dL_acts_179 (by decide) ?_
      refine lv_idiv hx hb dL_acts_180 (by decide) ?_
      refine wk_ti (x := ((nI V) / 4)) (v := (nI (V / 4))) (pk_div (by omega) (by decide) (by decide)) ?_
      refine lv_sipush (v := 400) hx hb dL_acts_181 (by decide) ?_
      refine lv_irem hx hb dL_acts_184 (by decide) ?_
      refine wk_ti (x := ((nI (V / 4)) - (nI (V / 4)) / 400 * 400)) (v := (nI (V / 4 % 400))) (pk_rem (by omega) (by decide) (by decide)) ?_
      refine lv_iadd hx hb dL_acts_185 ?_
      refine lv_goto (tgt := 198) hx hb dL_acts_186 (by decide) ?_
      refine wk_ti (x := (1 + (nI (V / 4 % 400)))) (v := (nI (1 + V / 4 % 400))) (nI_add 1 _) ?_
      obtain ⟨u1, e1, hu, hC1, hrg1⟩ := T_quota (st := st) CHH hrg (x := 1 + V / 4 % 400) (by omega) (by have := Nat.mod_lt (V / 4) (show 0 < 400 by decide); omega)
      refine wk_ast hx hb hK0.1 hP hD hS 48 0 (k := 1) (x := (nI (1 + V / 4 % 400))) rfl rfl (by decide) (by decide) dL_acts_198 (fun H locs hP hD hS => ?_)
      have hP : va_P D vwCl (List.flatten [(wPCo p70 b7 c7 d7 e7 h7 k7 st), (wSet cy b7 v), (wSav cy q h7 z), (wSet cy (q 0) s0), (wSet cy (q 1) s1), (wSet cy (q 2) s2), (wSet cy (q 3) s3), (wI cy gA0 3 (upd ga 1 (nI (1 + V / 4 % 400)))), (wI cy wA0 8 wa), (wI cy lA0 8 la), (wI cy rA0 4 ra)]) H := hP
      have hD : va_D A (List.flatten [(wPCo p70 b7 c7 d7 e7 h7 k7 st), (wSet cy b7 v), (wSav cy q h7 z), (wSet cy (q 0) s0), (wSet cy (q 1) s1), (wSet cy (q 2) s2), (wSet cy (q 3) s3), (wI cy gA0 3 (upd ga 1 (nI (1 + V / 4 % 400)))), (wI cy wA0 8 wa), (wI cy lA0 8 la), (wI cy rA0 4 ra)]) := hD
      refine lv_aload_n hx hb dL_acts_199 rfl (lv_at hl 6 rfl) ?_
      refine lv_aload_n hx hb dL_acts_200 rfl (lv_at hl 7 rfl) ?_
      refine lv_iconst (v := 1) hx hb dL_acts_201 (by decide) ?_
      refine wk_ia hx hb hK0.1 hP 48 0 (k := 1) (v := (nI (1 + V / 4 % 400))) rfl rfl (by decide) (by decide) upd_eq dL_acts_202 ?_
      refine lw_compi (wcs := [(wPCo p70 b7 c7 d7 e7 h7 k7 st), (wSet cy b7 v), (wSav cy q h7 z), (wSet cy (q 0) s0), (wSet cy (q 1) s1), (wSet cy (q 2) s2), (wSet cy (q 3) s3)]) (wns := fun u8 => [(wPCo p70 b7 c7 d7 e7 h7 k7 u8.1), (wSet cy b7 u8.2.1), (wSav cy q h7 u8.2.2.1), (wSet cy (q 0) u8.2.2.2.1), (wSet cy (q 1) u8.2.2.2.2.1), (wSet cy (q 2) u8.2.2.2.2.2.1), (wSet cy (q 3) u8.2.2.2.2.2.2)]) (W2 := fun u8 => [(wPCo p70 b7 c7 d7 e7 h7 k7 u8.1), (wSet cy b7 u8.2.1), (wSav cy q h7 u8.2.2.1), (wSet cy (q 0) u8.2.2.2.1), (wSet cy (q 1) u8.2.2.2.2.1), (wSet cy (q 2) u8.2.2.2.2.2.1), (wSet cy (q 3) u8.2.2.2.2.2.2), (wI cy gA0 3 (upd ga 1 (nI (1 + V / 4 % 400)))), (wI cy wA0 8 wa), (wI cy lA0 8 la), (wI cy rA0 4 ra)]) (vx_runSW (As := [.ref p70, .int (nI (1 + V / 4 % 400))]) (rest := []) S (c_L_quotas l hl0 D cy g B p70 b7 c7 d7 e7 h7 k7 q st v z s0 s1 s2 s3 (nI (1 + V / 4 % 400)) (fun k h => k_setQuota h)) (vx_cwSW 2 hts gL_acts_L_quotas rfl rfl rfl hd_L_quotas_S ⟨Nat.le_of_ble_eq_true rfl, Nat.le_of_ble_eq_true rfl⟩) ⟨lwP_blind, my_preL (wcs := [(wPCo p70 b7 c7 d7 e7 h7 k7 st), (wSet cy b7 v), (wSav cy q h7 z), (wSet cy (q 0) s0), (wSet cy (q 1) s1), (wSet cy (q 2) s2), (wSet cy (q 3) s3)]) hK0 hNc hS hAB hP hD [0, 1, 2, 3, 4, 5, 6] (by decide) rfl rfl⟩ rfl rfl hl.1 rfl (lv_room (Nat.le_of_ble_eq_true rfl)) dL_acts_203 ⟨(show cq + 1 ≤ 10 by omega), (show sq + 6 ≤ 60 by omega)⟩) hS hP hD [0, 1, 2, 3, 4, 5, 6] rfl rfl (fun _ => rfl) (fun _ => by simp only [List.map_cons, List.map_nil, adrSet, adrSetE, adrPow, adrPowE, adrTxt, adrTxtE, adrSav, adrSavE, adrPCo, adrI, adrL]) (fun _ => rfl) (fun r9 u9 H locs hw hP hD hS => ?_)
      obtain ⟨rfl, rfl⟩ := Prod.mk.inj (e1.symm.trans hw)
      have hP : va_P D vwCl (List.flatten [(wPCo p70 b7 c7 d7 e7 h7 k7 u1.1), (wSet cy b7 u1.2.1), (wSav cy q h7 u1.2.2.1), (wSet cy (q 0) u1.2.2.2.1), (wSet cy (q 1) u1.2.2.2.2.1), (wSet cy (q 2) u1.2.2.2.2.2.1), (wSet cy (q 3) u1.2.2.2.2.2.2), (wI cy gA0 3 (upd ga 1 (nI (1 + V / 4 % 400)))), (wI cy wA0 8 wa), (wI cy lA0 8 la), (wI cy rA0 4 ra)]) H := hP
      have hD : va_D A (List.flatten [(wPCo p70 b7 c7 d7 e7 h7 k7 u1.1), (wSet cy b7 u1.2.1), (wSav cy q h7 u1.2.2.1), (wSet cy (q 0) u1.2.2.2.1), (wSet cy (q 1) u1.2.2.2.2.1), (wSet cy (q 2) u1.2.2.2.2.2.1), (wSet cy (q 3) u1.2.2.2.2.2.2), (wI cy gA0 3 (upd ga 1 (nI (1 + V / 4 % 400)))), (wI cy wA0 8 wa), (wI cy lA0 8 la), (wI cy rA0 4 ra)]) := hD
      refine lv_iload hx hb dL_acts_206 (lv_at hl 2 rfl) ?_
      refine lv_icmp_ne (tgt := 215) hx hb dL_acts_208 (by decide) (fun h9 => absurd rfl h9) (fun _ => ?_)
      refine lv_iconst (v := 1) hx hb dL_acts_211 (by decide) ?_
      refine lv_goto (tgt := 216) hx hb dL_acts_212 (by decide) ?_
      exact K 216 dL_acts_216 (u1, ((upd ga 1 (nI (1 + V / 4 % 400))), wa, la, ra)) _ _ H locs ls (by omega) (by omega) ⟨_, _, _, ⟨hC1, AG_quota hAG _, htx, hl8⟩, pwr_1' hu, hrg1⟩ hP hS
    · refine lv_if_ne (tgt := 189) hx hb dL_acts_173 (by decide) (fun _ => ?_) (fun h9 => absurd h9 (fun z => h0 ((iV (by omega) (by decide)).mp z)))
      refine lv_iconst (v := 1) hx hb dL_acts_189 (by decide) ?_
      refine lv_iload hx hb dL_acts_190 (lv_at hl 3 rfl) ?_
      refine lv_iconst (v := 4) hx hb dL_acts_192 (by decide) ?_
      refine lv_idiv hx hb dL_acts_193 (by decide) ?_
      refine wk_ti (x := ((nI V) / 4)) (v := (nI (V / 4))) (pk_div (by omega) (by decide) (by decide)) ?_
      refine lv_iload hx hb dL_acts_194 (lv_at hl 1 rfl) ?_
      refine lv_irem hx hb dL_acts_196 (nI_ne0 (show 0 < wsN sg n by omega) (by omega)) ?_
      refine wk_ti (x := ((nI (V / 4)) - (nI (V / 4)) / (nI (wsN sg n)) * (nI (wsN sg n)))) (v := (nI (V / 4 % wsN sg n))) (pk_rem (by omega) (show 0 < wsN sg n by omega) (by omega)) ?_
      refine lv_iadd hx hb dL_acts_197 ?_
      refine wk_ti (x := (1 + (nI (V / 4 % wsN sg n)))) (v := (nI (1 + V / 4 % wsN sg n))) (nI_add 1 _) ?_
      obtain ⟨u1, e1, hu, hC1, hrg1⟩ := T_quota (st := st) CHH hrg (x := 1 + V / 4 % wsN sg n) (by omega) (by have := Nat.mod_lt (V / 4) (show 0 < wsN sg n by omega); omega)
      refine wk_ast hx hb hK0.1 hP hD hS 48 0 (k := 1) (x := (nI (1 + V / 4 % wsN sg n))) rfl rfl (by decide) (by decide) dL_acts_198 (fun H locs hP hD hS => ?_)
      have hP : va_P D vwCl (List.flatten [(wPCo p70 b7 c7 d7 e7 h7 k7 st), (wSet cy b7 v), (wSav cy q h7 z), (wSet cy (q 0) s0), (wSet cy (q 1) s1), (wSet cy (q 2) s2), (wSet cy (q 3) s3), (wI cy gA0 3 (upd ga 1 (nI (1 + V / 4 % wsN sg n)))), (wI cy wA0 8 wa), (wI cy lA0 8 la), (wI cy rA0 4 ra)]) H := hP
      have hD : va_D A (List.flatten [(wPCo p70 b7 c7 d7 e7 h7 k7 st), (wSet cy b7 v), (wSav cy q h7 z), (wSet cy (q 0) s0), (wSet cy (q 1) s1), (wSet cy (q 2) s2), (wSet cy (q 3) s3), (wI cy gA0 3 (upd ga 1 (nI (1 + V / 4 % wsN sg n)))), (wI cy wA0 8 wa), (wI cy lA0 8 la), (wI cy rA0 4 ra)]) := hD
      refine lv_aload_n hx hb dL_acts_199 rfl (lv_at hl 6 rfl) ?_
      refine lv_aload_n hx hb dL_acts_200 rfl (lv_at hl 7 rfl) ?_
      refine lv_iconst (v := 1) hx hb dL_acts_201 (by decide) ?_
      refine wk_ia hx hb hK0.1 hP 48 0 (k := 1) (v := (nI (1 + V / 4 % wsN sg n))) rfl rfl (by decide) (by decide) upd_eq dL_acts_202 ?_
      refine lw_compi (wcs := [(wPCo p70 b7 c7 d7 e7 h7 k7 st), (wSet cy b7 v), (wSav cy q h7 z), (wSet cy (q 0) s0), (wSet cy (q 1) s1), (wSet cy (q 2) s2), (wSet cy (q 3) s3)]) (wns := fun u8 => [(wPCo p70 b7 c7 d7 e7 h7 k7 u8.1), (wSet cy b7 u8.2.1), (wSav cy q h7 u8.2.2.1), (wSet cy (q 0) u8.2.2.2.1), (wSet cy (q 1) u8.2.2.2.2.1), (wSet cy (q 2) u8.2.2.2.2.2.1), (wSet cy (q 3) u8.2.2.2.2.2.2)]) (W2 := fun u8 => [(wPCo p70 b7 c7 d7 e7 h7 k7 u8.1), (wSet cy b7 u8.2.1), (wSav cy q h7 u8.2.2.1), (wSet cy (q 0) u8.2.2.2.1), (wSet cy (q 1) u8.2.2.2.2.1), (wSet cy (q 2) u8.2.2.2.2.2.1), (wSet cy (q 3) u8.2.2.2.2.2.2), (wI cy gA0 3 (upd ga 1 (nI (1 + V / 4 % wsN sg n)))), (wI cy wA0 8 wa), (wI cy lA0 8 la), (wI cy rA0 4 ra)]) (vx_runSW (As := [.ref p70, .int (nI (1 + V / 4 % wsN sg n))]) (rest := []) S (c_L_quotas l hl0 D cy g B p70 b7 c7 d7 e7 h7 k7 q st v z s0 s1 s2 s3 (nI (1 + V / 4 % wsN sg n)) (fun k h => k_setQuota h)) (vx_cwSW 2 hts gL_acts_L_quotas rfl rfl rfl hd_L_quotas_S ⟨Nat.le_of_ble_eq_true rfl, Nat.le_of_ble_eq_true rfl⟩) ⟨lwP_blind, my_preL (wcs := [(wPCo p70 b7 c7 d7 e7 h7 k7 st), (wSet cy b7 v), (wSav cy q h7 z), (wSet cy (q 0) s0), (wSet cy (q 1) s1), (wSet cy (q 2) s2), (wSet cy (q 3) s3)]) hK0 hNc hS hAB hP hD [0, 1, 2, 3, 4, 5, 6] (by decide) rfl rfl⟩ rfl rfl hl.1 rfl (lv_room (Nat.le_of_ble_eq_true rfl)) dL_acts_203 ⟨(show cq + 1 ≤ 10 by omega), (show sq + 6 ≤ 60 by omega)⟩) hS hP hD [0, 1, 2, 3, 4, 5, 6] rfl rfl (fun _ => rfl) (fun _ => by simp only [List.map_cons, List.map_nil, adrSet, adrSetE, adrPow, adrPowE, adrTxt, adrTxtE, adrSav, adrSavE, adrPCo, adrI, adrL]) (fun _ => rfl) (fun r9 u9 H locs hw hP hD hS => ?_)
      obtain ⟨rfl, rfl⟩ := Prod.mk.inj (e1.symm.trans hw)
      have hP : va_P D vwCl (List.flatten [(wPCo p70 b7 c7 d7 e7 h7 k7 u1.1), (wSet cy b7 u1.2.1), (wSav cy q h7 u1.2.2.1), (wSet cy (q 0) u1.2.2.2.1), (wSet cy (q 1) u1.2.2.2.2.1), (wSet cy (q 2) u1.2.2.2.2.2.1), (wSet cy (q 3) u1.2.2.2.2.2.2), (wI cy gA0 3 (upd ga 1 (nI (1 + V / 4 % wsN sg n)))), (wI cy wA0 8 wa), (wI cy lA0 8 la), (wI cy rA0 4 ra)]) H := hP
      have hD : va_D A (List.flatten [(wPCo p70 b7 c7 d7 e7 h7 k7 u1.1), (wSet cy b7 u1.2.1), (wSav cy q h7 u1.2.2.1), (wSet cy (q 0) u1.2.2.2.1), (wSet cy (q 1) u1.2.2.2.2.1), (wSet cy (q 2) u1.2.2.2.2.2.1), (wSet cy (q 3) u1.2.2.2.2.2.2), (wI cy gA0 3 (upd ga 1 (nI (1 + V / 4 % wsN sg n)))), (wI cy wA0 8 wa), (wI cy lA0 8 la), (wI cy rA0 4 ra)]) := hD
      refine lv_iload hx hb dL_acts_206 (lv_at hl 2 rfl) ?_
      refine lv_icmp_ne (tgt := 215) hx hb dL_acts_208 (by decide) (fun h9 => absurd rfl h9) (fun _ => ?_)
      refine lv_iconst (v := 1) hx hb dL_acts_211 (by decide) ?_
      refine lv_goto (tgt := 216) hx hb dL_acts_212 (by decide) ?_
      exact K 216 dL_acts_216 (u1, ((upd ga 1 (nI (1 + V / 4 % wsN sg n))), wa, la, ra)) _ _ H locs ls (by omega) (by omega) ⟨_, _, _, ⟨hC1, AG_quota hAG _, htx, hl8⟩, pwr_1' hu, hrg1⟩ hP hS
set_option maxHeartbeats 4000000 in
set_option maxRecDepth 100000 in
theorem ac_rule2 (C : acC p l s m meth c args D cy g B A) (F : soF v tx ga wa la ra sg n r) (hp : pwr st sg w) (hrg : ring z s0 s1 s2 s3 y0 y8) {V wy : Nat} {x5 : Int32} {kk cc : Nat} {cq sq : Nat} {H : Heap} {locs : List Loc} {ls : Array Slot} (hkc : (kk = 0 ∧ 1 ≤ cc ∧ cc ≤ 8) ∨ (kk = 1 ∧ cc ≤ 7) ∨ (kk = 2 ∧ 1 ≤ cc ∧ cc ≤ 255)) (hcq : cq ≤ 0) (hsq : sq ≤ 0) (hP : va_P D vwCl (List.flatten [(wPCo p70 b7 c7 d7 e7 h7 k7 st), (wSet cy b7 v), (wSav cy q h7 z), (wSet cy (q 0) s0), (wSet cy (q 1) s1), (wSet cy (q 2) s2), (wSet cy (q 3) s3), (wI cy gA0 3 ga), (wI cy wA0 8 wa), (wI cy lA0 8 la), (wI cy rA0 4 ra)]) H) (hD : va_D A (List.flatten [(wPCo p70 b7 c7 d7 e7 h7 k7 st), (wSet cy b7 v), (wSav cy q h7 z), (wSet cy (q 0) s0), (wSet cy (q 1) s1), (wSet cy (q 2) s2), (wSet cy (q 3) s3), (wI cy gA0 3 ga), (wI cy wA0 8 wa), (wI cy lA0 8 la), (wI cy rA0 4 ra)])) (hS : va_S A s.heap H locs) (hl : lv_has ls 13 [(9, .int (nI cc)), (8, .int (nI kk)), (6, .int (nI V)), (7, .int (nI wy)), (5, .int x5), (0, .ref p70), (1, .ref gA0), (2, .ref wA0), (3, .ref lA0), (4, .ref rA0)])
    (K : ∀ (pc : Nat), decode cL_acts pc = .ok (.ireturn, 1) → ∀ (u : ActU) (cq sq : Nat) (H : Heap) (locs : List Loc) (ls : Array Slot), cq ≤ 6 → sq ≤ 36 → actOK tx w u → va_P D vwCl (List.flatten [(wPCo p70 b7 c7 d7 e7 h7 k7 u.1.1), (wSet cy b7 u.1.2.1), (wSav cy q h7 u.1.2.2.1), (wSet cy (q 0) u.1.2.2.2.1), (wSet cy (q 1) u.1.2.2.2.2.1), (wSet cy (q 2) u.1.2.2.2.2.2.1), (wSet cy (q 3) u.1.2.2.2.2.2.2), (wI cy gA0 3 u.2.1), (wI cy wA0 8 u.2.2.1), (wI cy lA0 8 u.2.2.2.1), (wI cy rA0 4 u.2.2.2.2)]) H → va_S A s.heap H locs → W p l e actR s m args below meth c H locs cq sq Q (F0 m pc ls [.int 1])) : W p l e actR s m args below meth c H locs cq sq Q (F0 m 275 ls []) := by
  have FF0 := F
  obtain ⟨hl0, hx, hb, hr9, hml, hown, hts, hlk, hK0, hNc, hAB⟩ := C
  obtain ⟨CHH, hAG, htx, hl8⟩ := F
  have hN := CHH.2.1
  have hL := CHH.2.2.1
  have hW := CHH.2.2.2.1
  have hR := CHH.2.2.2.2.1
  have h8 : n ≤ 8 := hN.2.1
  have hr4 : r ≤ 4 := hN.2.2.2
  have S := my_fix hx hb hml hown hts
  have hkl : kk ≤ 2 := by omega
  have hcl : cc ≤ 255 := by omega
  refine lv_aload_n hx hb dL_acts_275 rfl (lv_at hl 6 rfl) ?_
  refine lv_iconst (v := 2) hx hb dL_acts_276 (by decide) ?_
  refine wk_ia hx hb hK0.1 hP 48 0 (k := 2) (v := (nI r)) rfl rfl (by decide) (by decide) hAG.2.2.1 dL_acts_277 ?_
  refine lv_iconst (v := 4) hx hb dL_acts_278 (by decide) ?_
  by_cases hr8 : r = 4
  · refine lv_icmp_ne (tgt := 312) hx hb dL_acts_279 (by decide) (fun h9 => absurd (by rw [hr8]; rfl) h9) (fun _ => ?_)
    have CH4 : CH v sg n 4 := by rw [← hr8]; exact CHH
    refine lv_aload_n hx hb dL_acts_282 rfl (lv_at hl 5 rfl) ?_
    refine lv_iload hx hb dL_acts_283 (lv_at hl 1 rfl) ?_
    refine lv_iload hx hb dL_acts_285 (lv_at hl 0 rfl) ?_
    have e1 := E_rule4 (st := st) (u0 := (st, v, z, s0, s1, s2, s3)) CH4 hrg hkc
    refine lw_compi (wcs := [(wPCo p70 b7 c7 d7 e7 h7 k7 st), (wSet cy b7 v), (wSav cy q h7 z), (wSet cy (q 0) s0), (wSet cy (q 1) s1), (wSet cy (q 2) s2), (wSet cy (q 3) s3)]) (wns := fun u8 => [(wPCo p70 b7 c7 d7 e7 h7 k7 u8.1), (wSet cy b7 u8.2.1), (wSav cy q h7 u8.2.2.1), (wSet cy (q 0) u8.2.2.2.1), (wSet cy (q 1) u8.2.2.2.2.1), (wSet cy (q 2) u8.2.2.2.2.2.1), (wSet cy (q 3) u8.2.2.2.2.2.2)]) (W2 := fun u8 => [(wPCo p70 b7 c7 d7 e7 h7 k7 u8.1), (wSet cy b7 u8.2.1), (wSav cy q h7 u8.2.2.1), (wSet cy (q 0) u8.2.2.2.1), (wSet cy (q 1) u8.2.2.2.2.1), (wSet cy (q 2) u8.2.2.2.2.2.1), (wSet cy (q 3) u8.2.2.2.2.2.2), (wI cy gA0 3 ga), (wI cy wA0 8 wa), (wI cy lA0 8 la), (wI cy rA0 4 ra)]) (vx_runSW (As := [.ref p70, .int (nI kk), .int (nI cc)]) (rest := []) S (c_L_rules l hl0 D cy g B p70 b7 c7 d7 e7 h7 k7 q st v z s0 s1 s2 s3 (nI kk) (nI cc) (fun k h => k_addRule h)) (vx_cwSW 3 hts gL_acts_L_rules rfl rfl rfl hd_L_rules_S ⟨Nat.le_of_ble_eq_true rfl, Nat.le_of_ble_eq_true rfl⟩) ⟨lwP_blind, my_preL (wcs := [(wPCo p70 b7 c7 d7 e7 h7 k7 st), (wSet cy b7 v), (wSav cy q h7 z), (wSet cy (q 0) s0), (wSet cy (q 1) s1), (wSet cy (q 2) s2), (wSet cy (q 3) s3)]) hK0 hNc hS hAB hP hD [0, 1, 2, 3, 4, 5, 6] (by decide) rfl rfl⟩ rfl rfl hl.1 rfl (lv_room (Nat.le_of_ble_eq_true rfl)) dL_acts_287 ⟨(show cq + 1 ≤ 10 by omega), (show sq + 6 ≤ 60 by omega)⟩) hS hP hD [0, 1, 2, 3, 4, 5, 6] rfl rfl (fun _ => rfl) (fun _ => by simp only [List.map_cons, List.map_nil, adrSet, adrSetE, adrPow, adrPowE, adrTxt, adrTxtE, adrSav, adrSavE, adrPCo, adrI, adrL]) (fun _ => rfl) (fun r9 u9 H locs hw hP hD hS => ?_)
    obtain ⟨rfl, rfl⟩ := Prod.mk.inj (e1.symm.trans hw)
    have hP : va_P D vwCl (List.flatten [(wPCo p70 b7 c7 d7 e7 h7 k7 st), (wSet cy b7 v), (wSav cy q h7 z), (wSet cy (q 0) s0), (wSet cy (q 1) s1), (wSet cy (q 2) s2), (wSet cy (q 3) s3), (wI cy gA0 3 ga), (wI cy wA0 8 wa), (wI cy lA0 8 la), (wI cy rA0 4 ra)]) H := hP
    have hD : va_D A (List.flatten [(wPCo p70 b7 c7 d7 e7 h7 k7 st), (wSet cy b7 v), (wSav cy q h7 z), (wSet cy (q 0) s0), (wSet cy (q 1) s1), (wSet cy (q 2) s2), (wSet cy (q 3) s3), (wI cy gA0 3 ga), (wI cy wA0 8 wa), (wI cy lA0 8 la), (wI cy rA0 4 ra)]) := hD
    refine lv_ldc hx hb hown (hts (.constant RL 20 (-2000003)) (by decide +kernel)) dL_acts_290 ?_
    refine lv_icmp_ne (tgt := 310) hx hb dL_acts_292 (by decide) (fun h9 => absurd rfl h9) (fun _ => ?_)
    refine lv_aload_n hx hb dL_acts_295 rfl (lv_at hl 5 rfl) ?_
    refine lv_iconst (v := 3) hx hb dL_acts_296 (by decide) ?_
    refine lv_iconst (v := 1) hx hb dL_acts_297 (by decide) ?_
    have e2 := E_rule3 (st := st) (u0 := (st, v, z, s0, s1, s2, s3)) CHH hrg 1
    refine lw_compi (wcs := [(wPCo p70 b7 c7 d7 e7 h7 k7 st), (wSet cy b7 v), (wSav cy q h7 z), (wSet cy (q 0) s0), (wSet cy (q 1) s1), (wSet cy (q 2) s2), (wSet cy (q 3) s3)]) (wns := fun u8 => [(wPCo p70 b7 c7 d7 e7 h7 k7 u8.1), (wSet cy b7 u8.2.1), (wSav cy q h7 u8.2.2.1), (wSet cy (q 0) u8.2.2.2.1), (wSet cy (q 1) u8.2.2.2.2.1), (wSet cy (q 2) u8.2.2.2.2.2.1), (wSet cy (q 3) u8.2.2.2.2.2.2)]) (W2 := fun u8 => [(wPCo p70 b7 c7 d7 e7 h7 k7 u8.1), (wSet cy b7 u8.2.1), (wSav cy q h7 u8.2.2.1), (wSet cy (q 0) u8.2.2.2.1), (wSet cy (q 1) u8.2.2.2.2.1), (wSet cy (q 2) u8.2.2.2.2.2.1), (wSet cy (q 3) u8.2.2.2.2.2.2), (wI cy gA0 3 ga), (wI cy wA0 8 wa), (wI cy lA0 8 la), (wI cy rA0 4 ra)]) (vx_runSW (As := [.ref p70, .int 3, .int 1]) (rest := []) S (c_L_rules l hl0 D cy g B p70 b7 c7 d7 e7 h7 k7 q st v z s0 s1 s2 s3 3 1 (fun k h => k_addRule h)) (vx_cwSW 3 hts gL_acts_L_rules rfl rfl rfl hd_L_rules_S ⟨Nat.le_of_ble_eq_true rfl, Nat.le_of_ble_eq_true rfl⟩) ⟨lwP_blind, my_preL (wcs := [(wPCo p70 b7 c7 d7 e7 h7 k7 st), (wSet cy b7 v), (wSav cy q h7 z), (wSet cy (q 0) s0), (wSet cy (q 1) s1), (wSet cy (q 2) s2), (wSet cy (q 3) s3)]) hK0 hNc hS hAB hP hD [0, 1, 2, 3, 4, 5, 6] (by decide) rfl rfl⟩ rfl rfl hl.1 rfl (lv_room (Nat.le_of_ble_eq_true rfl)) dL_acts_298 ⟨(show cq + 2 ≤ 10 by omega), (show sq + 12 ≤ 60 by omega)⟩) hS hP hD [0, 1, 2, 3, 4, 5, 6] rfl rfl (fun _ => rfl) (fun _ => by simp only [List.map_cons, List.map_nil, adrSet, adrSetE, adrPow, adrPowE, adrTxt, adrTxtE, adrSav, adrSavE, adrPCo, adrI, adrL]) (fun _ => rfl) (fun r9 u9 H locs hw hP hD hS => ?_)
    obtain ⟨rfl, rfl⟩ := Prod.mk.inj (e2.symm.trans hw)
    have hP : va_P D vwCl (List.flatten [(wPCo p70 b7 c7 d7 e7 h7 k7 st), (wSet cy b7 v), (wSav cy q h7 z), (wSet cy (q 0) s0), (wSet cy (q 1) s1), (wSet cy (q 2) s2), (wSet cy (q 3) s3), (wI cy gA0 3 ga), (wI cy wA0 8 wa), (wI cy lA0 8 la), (wI cy rA0 4 ra)]) H := hP
    have hD : va_D A (List.flatten [(wPCo p70 b7 c7 d7 e7 h7 k7 st), (wSet cy b7 v), (wSav cy q h7 z), (wSet cy (q 0) s0), (wSet cy (q 1) s1), (wSet cy (q 2) s2), (wSet cy (q 3) s3), (wI cy gA0 3 ga), (wI cy wA0 8 wa), (wI cy lA0 8 la), (wI cy rA0 4 ra)]) := hD
    refine lv_ldc hx hb hown (hts (.constant RL 17 (-2000002)) (by decide +kernel)) dL_acts_301 ?_
    refine lv_icmp_ne (tgt := 310) hx hb dL_acts_303 (by decide) (fun h9 => absurd rfl h9) (fun _ => ?_)
    refine lv_iconst (v := 1) hx hb dL_acts_306 (by decide) ?_
    refine lv_goto (tgt := 311) hx hb dL_acts_307 (by decide) ?_
    exact K 311 dL_acts_311 ((st, v, z, s0, s1, s2, s3), (ga, wa, la, ra)) _ _ H locs ls (by omega) (by omega) ⟨sg, n, r, FF0, hp, y0, y8, hrg⟩ hP hS
  · refine lv_icmp_ne (tgt := 312) hx hb dL_acts_279 (by decide) (fun _ => ?_) (fun h9 => absurd h9 (r_up r (by omega)).2)
    have hr5 : r < 4 := by omega
    refine lv_aload hx hb dL_acts_312 (lv_at hl 9 rfl) ?_
    refine lv_aload_n hx hb dL_acts_314 rfl (lv_at hl 6 rfl) ?_
    refine lv_iconst (v := 2) hx hb dL_acts_315 (by decide) ?_
    refine wk_ia hx hb hK0.1 hP 48 0 (k := 2) (v := (nI r)) rfl rfl (by decide) (by decide) hAG.2.2.1 dL_acts_316 ?_
    refine lv_sipush (v := 1000) hx hb dL_acts_317 (by decide) ?_
    refine lv_iload hx hb dL_acts_320 (lv_at hl 1 rfl) ?_
    refine lv_imul hx hb dL_acts_322 ?_
    refine lv_iload hx hb dL_acts_323 (lv_at hl 0 rfl) ?_
    refine lv_iadd hx hb dL_acts_325 ?_
    refine wk_ti (x := ((1000 * (nI kk)) + (nI cc))) (v := (nI (1000 * kk + cc))) (mul_k hkl hcl) ?_
    refine wk_ast hx hb hK0.1 hP hD hS 51 0 (k := r) (x := (nI (1000 * kk + cc))) rfl rfl (by omega) (by decide) dL_acts_326 (fun H locs hP hD hS => ?_)
    have hP : va_P D vwCl (List.flatten [(wPCo p70 b7 c7 d7 e7 h7 k7 st), (wSet cy b7 v), (wSav cy q h7 z), (wSet cy (q 0) s0), (wSet cy (q 1) s1), (wSet cy (q 2) s2), (wSet cy (q 3) s3), (wI cy gA0 3 ga), (wI cy wA0 8 wa), (wI cy lA0 8 la), (wI cy rA0 4 (upd ra r (nI (1000 * kk + cc))))]) H := hP
    have hD : va_D A (List.flatten [(wPCo p70 b7 c7 d7 e7 h7 k7 st), (wSet cy b7 v), (wSav cy q h7 z), (wSet cy (q 0) s0), (wSet cy (q 1) s1), (wSet cy (q 2) s2), (wSet cy (q 3) s3), (wI cy gA0 3 ga), (wI cy wA0 8 wa), (wI cy lA0 8 la), (wI cy rA0 4 (upd ra r (nI (1000 * kk + cc))))]) := hD
    refine lv_aload_n hx hb dL_acts_327 rfl (lv_at hl 6 rfl) ?_
    refine lv_iconst (v := 2) hx hb dL_acts_328 (by decide) ?_
    refine lv_dup2_11 hx hb dL_acts_329 rfl rfl ?_
    refine wk_ia hx hb hK0.1 hP 48 0 (k := 2) (v := (nI r)) rfl rfl (by decide) (by decide) hAG.2.2.1 dL_acts_330 ?_
    refine lv_iconst (v := 1) hx hb dL_acts_331 (by decide) ?_
    refine lv_iadd hx hb dL_acts_332 ?_
    refine wk_ti (x := ((nI r) + 1)) (v := (nI (r + 1))) (nI_1 r) ?_
    refine wk_ast hx hb hK0.1 hP hD hS 48 0 (k := 2) (x := (nI (r + 1))) rfl rfl (by decide) (by decide) dL_acts_333 (fun H locs hP hD hS => ?_)
    have hP : va_P D vwCl (List.flatten [(wPCo p70 b7 c7 d7 e7 h7 k7 st), (wSet cy b7 v), (wSav cy q h7 z), (wSet cy (q 0) s0), (wSet cy (q 1) s1), (wSet cy (q 2) s2), (wSet cy (q 3) s3), (wI cy gA0 3 (upd ga 2 (nI (r + 1)))), (wI cy wA0 8 wa), (wI cy lA0 8 la), (wI cy rA0 4 (upd ra r (nI (1000 * kk + cc))))]) H := hP
    have hD : va_D A (List.flatten [(wPCo p70 b7 c7 d7 e7 h7 k7 st), (wSet cy b7 v), (wSav cy q h7 z), (wSet cy (q 0) s0), (wSet cy (q 1) s1), (wSet cy (q 2) s2), (wSet cy (q 3) s3), (wI cy gA0 3 (upd ga 2 (nI (r + 1)))), (wI cy wA0 8 wa), (wI cy lA0 8 la), (wI cy rA0 4 (upd ra r (nI (1000 * kk + cc))))]) := hD
    refine lv_aload_n hx hb dL_acts_334 rfl (lv_at hl 5 rfl) ?_
    refine lv_iload hx hb dL_acts_335 (lv_at hl 1 rfl) ?_
    refine lv_iload hx hb dL_acts_337 (lv_at hl 0 rfl) ?_
    obtain ⟨u1, e1, hu, hC1, hrg1⟩ := T_rule (st := st) CHH hrg hkc hr5
    refine lw_compi (wcs := [(wPCo p70 b7 c7 d7 e7 h7 k7 st), (wSet cy b7 v), (wSav cy q h7 z), (wSet cy (q 0) s0), (wSet cy (q 1) s1), (wSet cy (q 2) s2), (wSet cy (q 3) s3)]) (wns := fun u8 => [(wPCo p70 b7 c7 d7 e7 h7 k7 u8.1), (wSet cy b7 u8.2.1), (wSav cy q h7 u8.2.2.1), (wSet cy (q 0) u8.2.2.2.1), (wSet cy (q 1) u8.2.2.2.2.1), (wSet cy (q 2) u8.2.2.2.2.2.1), (wSet cy (q 3) u8.2.2.2.2.2.2)]) (W2 := fun u8 => [(wPCo p70 b7 c7 d7 e7 h7 k7 u8.1), (wSet cy b7 u8.2.1), (wSav cy q h7 u8.2.2.1), (wSet cy (q 0) u8.2.2.2.1), (wSet cy (q 1) u8.2.2.2.2.1), (wSet cy (q 2) u8.2.2.2.2.2.1), (wSet cy (q 3) u8.2.2.2.2.2.2), (wI cy gA0 3 (upd ga 2 (nI (r + 1)))), (wI cy wA0 8 wa), (wI cy lA0 8 la), (wI cy rA0 4 (upd ra r (nI (1000 * kk + cc))))]) (vx_runSW (As := [.ref p70, .int (nI kk), .int (nI cc)]) (rest := []) S (c_L_rules l hl0 D cy g B p70 b7 c7 d7 e7 h7 k7 q st v z s0 s1 s2 s3 (nI kk) (nI cc) (fun k h => k_addRule h)) (vx_cwSW 3 hts gL_acts_L_rules rfl rfl rfl hd_L_rules_S ⟨Nat.le_of_ble_eq_true rfl, Nat.le_of_ble_eq_true rfl⟩) ⟨lwP_blind, my_preL (wcs := [(wPCo p70 b7 c7 d7 e7 h7 k7 st), (wSet cy b7 v), (wSav cy q h7 z), (wSet cy (q 0) s0), (wSet cy (q 1) s1), (wSet cy (q 2) s2), (wSet cy (q 3) s3)]) hK0 hNc hS hAB hP hD [0, 1, 2, 3, 4, 5, 6] (by decide) rfl rfl⟩ rfl rfl hl.1 rfl (lv_room (Nat.le_of_ble_eq_true rfl)) dL_acts_339 ⟨(show cq + 1 ≤ 10 by omega), (show sq + 6 ≤ 60 by omega)⟩) hS hP hD [0, 1, 2, 3, 4, 5, 6] rfl rfl (fun _ => rfl) (fun _ => by simp only [List.map_cons, List.map_nil, adrSet, adrSetE, adrPow, adrPowE, adrTxt, adrTxtE, adrSav, adrSavE, adrPCo, adrI, adrL]) (fun _ => rfl) (fun r9 u9 H locs hw hP hD hS => ?_)
    obtain ⟨rfl, rfl⟩ := Prod.mk.inj (e1.symm.trans hw)
    have hP : va_P D vwCl (List.flatten [(wPCo p70 b7 c7 d7 e7 h7 k7 u1.1), (wSet cy b7 u1.2.1), (wSav cy q h7 u1.2.2.1), (wSet cy (q 0) u1.2.2.2.1), (wSet cy (q 1) u1.2.2.2.2.1), (wSet cy (q 2) u1.2.2.2.2.2.1), (wSet cy (q 3) u1.2.2.2.2.2.2), (wI cy gA0 3 (upd ga 2 (nI (r + 1)))), (wI cy wA0 8 wa), (wI cy lA0 8 la), (wI cy rA0 4 (upd ra r (nI (1000 * kk + cc))))]) H := hP
    have hD : va_D A (List.flatten [(wPCo p70 b7 c7 d7 e7 h7 k7 u1.1), (wSet cy b7 u1.2.1), (wSav cy q h7 u1.2.2.1), (wSet cy (q 0) u1.2.2.2.1), (wSet cy (q 1) u1.2.2.2.2.1), (wSet cy (q 2) u1.2.2.2.2.2.1), (wSet cy (q 3) u1.2.2.2.2.2.2), (wI cy gA0 3 (upd ga 2 (nI (r + 1)))), (wI cy wA0 8 wa), (wI cy lA0 8 la), (wI cy rA0 4 (upd ra r (nI (1000 * kk + cc))))]) := hD
    refine lv_aload_n hx hb dL_acts_342 rfl (lv_at hl 6 rfl) ?_
    refine lv_iconst (v := 2) hx hb dL_acts_343 (by decide) ?_
    refine wk_ia hx hb hK0.1 hP 48 0 (k := 2) (v := (nI (r + 1))) rfl rfl (by decide) (by decide) upd_eq dL_acts_344 ?_
    refine lv_iconst (v := 1) hx hb dL_acts_345 (by decide) ?_
    refine lv_isub hx hb dL_acts_346 ?_
    refine wk_ti (x := ((nI (r + 1)) - 1)) (v := (nI r)) (nI_pred r) ?_
    refine lv_icmp_ne (tgt := 354) hx hb dL_acts_347 (by decide) (fun h9 => absurd rfl h9) (fun _ => ?_)
    refine lv_iconst (v := 1) hx hb dL_acts_350 (by decide) ?_
    refine lv_goto (tgt := 355) hx hb dL_acts_351 (by decide) ?_
    exact K 355 dL_acts_355 (u1, ((upd ga 2 (nI (r + 1))), wa, la, (upd ra r (nI (1000 * kk + cc))))) _ _ H locs ls (by omega) (by omega) ⟨_, _, _, ⟨hC1, AG_rule hAG h8 hr5 hkc, htx, hl8⟩, pwr_1' hu, hrg1⟩ hP hS
set_option maxHeartbeats 4000000 in
set_option maxRecDepth 100000 in
theorem ac_rule (C : acC p l s m meth c args D cy g B A) (F : soF v tx ga wa la ra sg n r) (hp : pwr st sg w) (hrg : ring z s0 s1 s2 s3 y0 y8) {V wy : Nat} {x5 : Int32} {cq sq : Nat} {H : Heap} {locs : List Loc} {ls : Array Slot} (hV : V < 10000000) (hcq : cq ≤ 0) (hsq : sq ≤ 0) (hP : va_P D vwCl (List.flatten [(wPCo p70 b7 c7 d7 e7 h7 k7 st), (wSet cy b7 v), (wSav cy q h7 z), (wSet cy (q 0) s0), (wSet cy (q 1) s1), (wSet cy (q 2) s2), (wSet cy (q 3) s3), (wI cy gA0 3 ga), (wI cy wA0 8 wa), (wI cy lA0 8 la), (wI cy rA0 4 ra)]) H) (hD : va_D A (List.flatten [(wPCo p70 b7 c7 d7 e7 h7 k7 st), (wSet cy b7 v), (wSav cy q h7 z), (wSet cy (q 0) s0), (wSet cy (q 1) s1), (wSet cy (q 2) s2), (wSet cy (q 3) s3), (wI cy gA0 3 ga), (wI cy wA0 8 wa), (wI cy lA0 8 la), (wI cy rA0 4 ra)])) (hS : va_S A s.heap H locs) (hl : lv_has ls 13 [(6, .int (nI V)), (7, .int (nI wy)), (5, .int x5), (0, .ref p70), (1, .ref gA0), (2, .ref wA0), (3, .ref lA0), (4, .ref rA0)])
    (K : ∀ (pc : Nat), decode cL_acts pc = .ok (.ireturn, 1) → ∀ (u : ActU) (cq sq : Nat) (H : Heap) (locs : List Loc) (ls : Array Slot), cq ≤ 6 → sq ≤ 36 → actOK tx w u → va_P D vwCl (List.flatten [(wPCo p70 b7 c7 d7 e7 h7 k7 u.1.1), (wSet cy b7 u.1.2.1), (wSav cy q h7 u.1.2.2.1), (wSet cy (q 0) u.1.2.2.2.1), (wSet cy (q 1) u.1.2.2.2.2.1), (wSet cy (q 2) u.1.2.2.2.2.2.1), (wSet cy (q 3) u.1.2.2.2.2.2.2), (wI cy gA0 3 u.2.1), (wI cy wA0 8 u.2.2.1), (wI cy lA0 8 u.2.2.2.1), (wI cy rA0 4 u.2.2.2.2)]) H → va_S A s.heap H locs → W p l e actR s m args below meth c H locs cq sq Q (F0 m pc ls [.int 1])) : W p l e actR s m args below meth c H locs cq sq Q (F0 m 224 ls []) := by
  have FF0 := F
  obtain ⟨hl0, hx, hb, hr9, hml, hown, hts, hlk, hK0, hNc, hAB⟩ := C
  obtain ⟨CHH, hAG, htx, hl8⟩ := F
  have hN := CHH.2.1
  have hL := CHH.2.2.1
  have hW := CHH.2.2.2.1
  have hR := CHH.2.2.2.2.1
  have h8 : n ≤ 8 := hN.2.1
  have hr4 : r ≤ 4 := hN.2.2.2
  have S := my_fix hx hb hml hown hts
  have C0 : acC p l s m meth c args D cy g B A := ⟨hl0, hx, hb, hr9, hml, hown, hts, hlk, hK0, hNc, hAB⟩
  refine lv_iload hx hb dL_acts_224 (lv_at hl 0 rfl) ?_
  refine lv_iconst (v := 3) hx hb dL_acts_226 (by decide) ?_
  refine lv_irem hx hb dL_acts_227 (by decide) ?_
  refine wk_ti (x := ((nI V) - (nI V) / 3 * 3)) (v := (nI (V % 3))) (pk_rem (by omega) (by decide) (by decide)) ?_
  have hm3 := Nat.mod_lt V (show 0 < 3 by decide)
  rcases (show V % 3 = 0 ∨ V % 3 = 1 ∨ V % 3 = 2 by omega) with h3 | h3 | h3
  · refine wk_ti (x := (nI (V % 3))) (v := (nI 0)) (by rw [h3]) ?_
    refine lv_istore (lv' := [(8, .int (nI 0)), (6, .int (nI V)), (7, .int (nI wy)), (5, .int x5), (0, .ref p70), (1, .ref gA0), (2, .ref wA0), (3, .ref lA0), (4, .ref rA0)]) hx hb dL_acts_228 hl (by decide) rfl (fun ls hl => ?_)
    refine lv_iload hx hb dL_acts_230 (lv_at hl 0 rfl) ?_
    refine lv_if_ne (tgt := 247) hx hb dL_acts_232 (by decide) (fun h9 => absurd (show nI 0 = 0 from rfl) h9) (fun _ => ?_)
    refine lv_iconst (v := 1) hx hb dL_acts_235 (by decide) ?_
    refine lv_iload hx hb dL_acts_236 (lv_at hl 1 rfl) ?_
    refine lv_iconst (v := 3) hx hb dL_acts_238 (by decide) ?_
    refine lv_idiv hx hb dL_acts_239 (by decide) ?_
    refine wk_ti (x := ((nI V) / 3)) (v := (nI (V / 3))) (pk_div (by omega) (by decide) (by decide)) ?_
    refine lv_bipush (v := 8) hx hb dL_acts_240 (by decide) ?_
    refine lv_irem hx hb dL_acts_242 (by decide) ?_
    refine wk_ti (x := ((nI (V / 3)) - (nI (V / 3)) / 8 * 8)) (v := (nI (V / 3 % 8))) (pk_rem (by omega) (by decide) (by decide)) ?_
    refine lv_iadd hx hb dL_acts_243 ?_
    refine wk_ti (x := (1 + (nI (V / 3 % 8)))) (v := (nI (1 + V / 3 % 8))) (nI_add 1 _) ?_
    refine lv_goto (tgt := 273) hx hb dL_acts_244 (by decide) ?_
    refine lv_istore (lv' := [(9, .int (nI (1 + V / 3 % 8))), (8, .int (nI 0)), (6, .int (nI V)), (7, .int (nI wy)), (5, .int x5), (0, .ref p70), (1, .ref gA0), (2, .ref wA0), (3, .ref lA0), (4, .ref rA0)]) hx hb dL_acts_273 hl (by decide) rfl (fun ls hl => ?_)
    exact ac_rule2 (V := V) C0 FF0 hp hrg (Or.inl ⟨rfl, by omega, by have := Nat.mod_lt (V / 3) (show 0 < 8 by decide); omega⟩) hcq hsq hP hD hS (lv_sub hl [0, 1, 2, 3, 4, 5, 6, 7, 8, 9] rfl) K
  · refine wk_ti (x := (nI (V % 3))) (v := (nI 1)) (by rw [h3]) ?_
    refine lv_istore (lv' := [(8, .int (nI 1)), (6, .int (nI V)), (7, .int (nI wy)), (5, .int x5), (0, .ref p70), (1, .ref gA0), (2, .ref wA0), (3, .ref lA0), (4, .ref rA0)]) hx hb dL_acts_228 hl (by decide) rfl (fun ls hl => ?_)
    refine lv_iload hx hb dL_acts_230 (lv_at hl 0 rfl) ?_
    refine lv_if_ne (tgt := 247) hx hb dL_acts_232 (by decide) (fun _ => ?_) (fun h9 => absurd h9 (show ¬ nI 1 = 0 by decide))
    refine lv_iload hx hb dL_acts_247 (lv_at hl 0 rfl) ?_
    refine lv_iconst (v := 1) hx hb dL_acts_249 (by decide) ?_
    refine lv_icmp_ne (tgt := 263) hx hb dL_acts_250 (by decide) (fun h9 => absurd (show nI 1 = 1 from rfl) h9) (fun _ => ?_)
    refine lv_iload hx hb dL_acts_253 (lv_at hl 1 rfl) ?_
    refine lv_iconst (v := 3) hx hb dL_acts_255 (by decide) ?_
    refine lv_idiv hx hb dL_acts_256 (by decide) ?_
    refine wk_ti (x := ((nI V) / 3)) (v := (nI (V / 3))) (pk_div (by omega) (by decide) (by decide)) ?_
    refine lv_bipush (v := 8) hx hb dL_acts_257 (by decide) ?_
    refine lv_irem hx hb dL_acts_259 (by decide) ?_
    refine wk_ti (x := ((nI (V / 3)) - (nI (V / 3)) / 8 * 8)) (v := (nI (V / 3 % 8))) (pk_rem (by omega) (by decide) (by decide)) ?_
    refine lv_goto (tgt := 273) hx hb dL_acts_260 (by decide) ?_
    refine lv_istore (lv' := [(9, .int (nI (V / 3 % 8))), (8, .int (nI 1)), (6, .int (nI V)), (7, .int (nI wy)), (5, .int x5), (0, .ref p70), (1, .ref gA0), (2, .ref wA0), (3, .ref lA0), (4, .ref rA0)]) hx hb dL_acts_273 hl (by decide) rfl (fun ls hl => ?_)
    exact ac_rule2 (V := V) C0 FF0 hp hrg (Or.inr (Or.inl ⟨rfl, by have := Nat.mod_lt (V / 3) (show 0 < 8 by decide); omega⟩)) hcq hsq hP hD hS (lv_sub hl [0, 1, 2, 3, 4, 5, 6, 7, 8, 9] rfl) K
  · refine wk_ti (x := (nI (V % 3))) (v := (nI 2)) (by rw [h3]) ?_
    refine lv_istore (lv' := [(8, .int (nI 2)), (6, .int (nI V)), (7, .int (nI wy)), (5, .int x5), (0, .ref p70), (1, .ref gA0), (2, .ref wA0), (3, .ref lA0), (4, .ref rA0)]) hx hb dL_acts_228 hl (by decide) rfl (fun ls hl => ?_)
    refine lv_iload hx hb dL_acts_230 (lv_at hl 0 rfl) ?_
    refine lv_if_ne (tgt := 247) hx hb dL_acts_232 (by decide) (fun _ => ?_) (fun h9 => absurd h9 (show ¬ nI 2 = 0 by decide))
    refine lv_iload hx hb dL_acts_247 (lv_at hl 0 rfl) ?_
    refine lv_iconst (v := 1) hx hb dL_acts_249 (by decide) ?_
    refine lv_icmp_ne (tgt := 263) hx hb dL_acts_250 (by decide) (fun _ => ?_) (fun h9 => absurd h9 (show ¬ nI 2 = 1 by decide))
    refine lv_iconst (v := 1) hx hb dL_acts_263 (by decide) ?_
    refine lv_iload hx hb dL_acts_264 (lv_at hl 1 rfl) ?_
    refine lv_iconst (v := 3) hx hb dL_acts_266 (by decide) ?_
    refine lv_idiv hx hb dL_acts_267 (by decide) ?_
    refine wk_ti (x := ((nI V) / 3)) (v := (nI (V / 3))) (pk_div (by omega) (by decide) (by decide)) ?_
    refine lv_sipush (v := 255) hx hb dL_acts_268 (by decide) ?_
    refine lv_irem hx hb dL_acts_271 (by decide) ?_
    refine wk_ti (x := ((nI (V / 3)) - (nI (V / 3)) / 255 * 255)) (v := (nI (V / 3 % 255))) (pk_rem (by omega) (by decide) (by decide)) ?_
    refine lv_iadd hx hb dL_acts_272 ?_
    refine wk_ti (x := (1 + (nI (V / 3 % 255)))) (v := (nI (1 + V / 3 % 255))) (nI_add 1 _) ?_
    refine lv_istore (lv' := [(9, .int (nI (1 + V / 3 % 255))), (8, .int (nI 2)), (6, .int (nI V)), (7, .int (nI wy)), (5, .int x5), (0, .ref p70), (1, .ref gA0), (2, .ref wA0), (3, .ref lA0), (4, .ref rA0)]) hx hb dL_acts_273 hl (by decide) rfl (fun ls hl => ?_)
    exact ac_rule2 (V := V) C0 FF0 hp hrg (Or.inr (Or.inr ⟨rfl, by omega, by have := Nat.mod_lt (V / 3) (show 0 < 255 by decide); omega⟩)) hcq hsq hP hD hS (lv_sub hl [0, 1, 2, 3, 4, 5, 6, 7, 8, 9] rfl) K
set_option maxHeartbeats 4000000 in
set_option maxRecDepth 100000 in
theorem ac_shift (C : acC p l s m meth c args D cy g B A) (F : soF v tx ga wa la ra sg n r) (hp : pwr st sg w) (hrg : ring z s0 s1 s2 s3 y0 y8) {V wy : Nat} {x5 : Int32} {kk : Nat} {cq sq : Nat} (hk : kk < r) (K : ∀ (H : Heap) (locs : List Loc) (ls : Array Slot), va_P D vwCl (List.flatten [(wPCo p70 b7 c7 d7 e7 h7 k7 st), (wSet cy b7 v), (wSav cy q h7 z), (wSet cy (q 0) s0), (wSet cy (q 1) s1), (wSet cy (q 2) s2), (wSet cy (q 3) s3), (wI cy gA0 3 (upd ga 2 (nI (r - 1)))), (wI cy wA0 8 wa), (wI cy lA0 8 la), (wI cy rA0 4 (shR1 ra kk (r - 1 - kk)))]) H → va_D A (List.flatten [(wPCo p70 b7 c7 d7 e7 h7 k7 st), (wSet cy b7 v), (wSav cy q h7 z), (wSet cy (q 0) s0), (wSet cy (q 1) s1), (wSet cy (q 2) s2), (wSet cy (q 3) s3), (wI cy gA0 3 (upd ga 2 (nI (r - 1)))), (wI cy wA0 8 wa), (wI cy lA0 8 la), (wI cy rA0 4 (shR1 ra kk (r - 1 - kk)))]) → va_S A s.heap H locs → lv_has ls 13 [(9, .int (nI (kk + (r - 1 - kk)))), (8, .int (nI kk)), (6, .int (nI V)), (7, .int (nI wy)), (5, .int x5), (0, .ref p70), (1, .ref gA0), (2, .ref wA0), (3, .ref lA0), (4, .ref rA0)] → W p l e actR s m args below meth c H locs cq sq Q (F0 m 431 ls [])) : ∀ (fu t : Nat) (H : Heap) (locs : List Loc) (ls : Array Slot), r - t < fu → t ≤ r - 1 - kk → va_P D vwCl (List.flatten [(wPCo p70 b7 c7 d7 e7 h7 k7 st), (wSet cy b7 v), (wSav cy q h7 z), (wSet cy (q 0) s0), (wSet cy (q 1) s1), (wSet cy (q 2) s2), (wSet cy (q 3) s3), (wI cy gA0 3 (upd ga 2 (nI (r - 1)))), (wI cy wA0 8 wa), (wI cy lA0 8 la), (wI cy rA0 4 (shR1 ra kk t))]) H → va_D A (List.flatten [(wPCo p70 b7 c7 d7 e7 h7 k7 st), (wSet cy b7 v), (wSav cy q h7 z), (wSet cy (q 0) s0), (wSet cy (q 1) s1), (wSet cy (q 2) s2), (wSet cy (q 3) s3), (wI cy gA0 3 (upd ga 2 (nI (r - 1)))), (wI cy wA0 8 wa), (wI cy lA0 8 la), (wI cy rA0 4 (shR1 ra kk t))]) → va_S A s.heap H locs → lv_has ls 13 [(9, .int (nI (kk + t))), (8, .int (nI kk)), (6, .int (nI V)), (7, .int (nI wy)), (5, .int x5), (0, .ref p70), (1, .ref gA0), (2, .ref wA0), (3, .ref lA0), (4, .ref rA0)] → W p l e actR s m args below meth c H locs cq sq Q (F0 m 405 ls [])
  | 0, _, _, _, _ => fun h => absurd h (Nat.not_lt_zero _)
  | fu + 1, t, H, locs, ls => by
    intro hfu hin hP hD hS hl
    have C0 := C
    have FF0 := F
    obtain ⟨hl0, hx, hb, hr9, hml, hown, hts, hlk, hK0, hNc, hAB⟩ := C
    obtain ⟨CHH, hAG, htx, hl8⟩ := F
    have hN := CHH.2.1
    have hL := CHH.2.2.1
    have hW := CHH.2.2.2.1
    have hR := CHH.2.2.2.2.1
    have h8 : n ≤ 8 := hN.2.1
    have hr4 : r ≤ 4 := hN.2.2.2
    have S := my_fix hx hb hml hown hts
    refine lv_iload hx hb dL_acts_405 (lv_at hl 0 rfl) ?_
    refine lv_aload_n hx hb dL_acts_407 rfl (lv_at hl 6 rfl) ?_
    refine lv_iconst (v := 2) hx hb dL_acts_408 (by decide) ?_
    refine wk_ia hx hb hK0.1 hP 48 0 (k := 2) (v := (nI (r - 1))) rfl rfl (by decide) (by decide) upd_eq dL_acts_409 ?_
    rcases Nat.lt_or_ge t (r - 1 - kk) with hi | hi
    · refine lv_icmp_ge (tgt := 431) hx hb dL_acts_410 (by decide) (fun h9 => absurd h9 (nI_ge (show kk + t < r - 1 by omega) (by omega))) (fun _ => ?_)
      refine lv_aload hx hb dL_acts_413 (lv_at hl 9 rfl) ?_
      refine lv_iload hx hb dL_acts_415 (lv_at hl 0 rfl) ?_
      refine lv_aload hx hb dL_acts_417 (lv_at hl 9 rfl) ?_
      refine lv_iload hx hb dL_acts_419 (lv_at hl 0 rfl) ?_
      refine lv_iconst (v := 1) hx hb dL_acts_421 (by decide) ?_
      refine lv_iadd hx hb dL_acts_422 ?_
      refine wk_ti (x := ((nI (kk + t)) + 1)) (v := (nI (kk + t + 1))) (nI_1 _) ?_
      refine wk_ia hx hb hK0.1 hP 51 0 (k := (kk + t + 1)) (v := ((shR1 ra kk t) (kk + t + 1))) rfl rfl (by omega) (by decide) rfl dL_acts_423 ?_
      refine wk_ast hx hb hK0.1 hP hD hS 51 0 (k := (kk + t)) (x := ((shR1 ra kk t) (kk + t + 1))) rfl rfl (by omega) (by decide) dL_acts_424 (fun H locs hP hD hS => ?_)
      have hP : va_P D vwCl (List.flatten [(wPCo p70 b7 c7 d7 e7 h7 k7 st), (wSet cy b7 v), (wSav cy q h7 z), (wSet cy (q 0) s0), (wSet cy (q 1) s1), (wSet cy (q 2) s2), (wSet cy (q 3) s3), (wI cy gA0 3 (upd ga 2 (nI (r - 1)))), (wI cy wA0 8 wa), (wI cy lA0 8 la), (wI cy rA0 4 (upd (shR1 ra kk t) (kk + t) ((shR1 ra kk t) (kk + t + 1))))]) H := hP
      have hD : va_D A (List.flatten [(wPCo p70 b7 c7 d7 e7 h7 k7 st), (wSet cy b7 v), (wSav cy q h7 z), (wSet cy (q 0) s0), (wSet cy (q 1) s1), (wSet cy (q 2) s2), (wSet cy (q 3) s3), (wI cy gA0 3 (upd ga 2 (nI (r - 1)))), (wI cy wA0 8 wa), (wI cy lA0 8 la), (wI cy rA0 4 (upd (shR1 ra kk t) (kk + t) ((shR1 ra kk t) (kk + t + 1))))]) := hD
      have e9 : shR1 ra kk (t + 1) = upd (shR1 ra kk t) (kk + t) (shR1 ra kk t (kk + t + 1)) := rfl
      have hP : va_P D vwCl (List.flatten [(wPCo p70 b7 c7 d7 e7 h7 k7 st), (wSet cy b7 v), (wSav cy q h7 z), (wSet cy (q 0) s0), (wSet cy (q 1) s1), (wSet cy (q 2) s2), (wSet cy (q 3) s3), (wI cy gA0 3 (upd ga 2 (nI (r - 1)))), (wI cy wA0 8 wa), (wI cy lA0 8 la), (wI cy rA0 4 (shR1 ra kk (t + 1)))]) H := hP
      have hD : va_D A (List.flatten [(wPCo p70 b7 c7 d7 e7 h7 k7 st), (wSet cy b7 v), (wSav cy q h7 z), (wSet cy (q 0) s0), (wSet cy (q 1) s1), (wSet cy (q 2) s2), (wSet cy (q 3) s3), (wI cy gA0 3 (upd ga 2 (nI (r - 1)))), (wI cy wA0 8 wa), (wI cy lA0 8 la), (wI cy rA0 4 (shR1 ra kk (t + 1)))]) := hD
      refine lv_iinc (v := (nI ((kk + t) + 1))) (lv' := [(9, .int (nI ((kk + t) + 1))), (8, .int (nI kk)), (6, .int (nI V)), (7, .int (nI wy)), (5, .int x5), (0, .ref p70), (1, .ref gA0), (2, .ref wA0), (3, .ref lA0), (4, .ref rA0)]) hx hb dL_acts_425 hl (k := 0) rfl (nI_1 (kk + t)) (by decide) rfl (fun ls hl => ?_)
      refine lv_goto (tgt := 405) hx hb dL_acts_428 (by decide) ?_
      exact ac_shift C0 FF0 hp hrg hk K fu (t + 1) H locs ls (by omega) (by omega) hP hD hS (lv_sub hl [0, 1, 2, 3, 4, 5, 6, 7, 8, 9] rfl)
    · have e : t = r - 1 - kk := by omega
      subst e
      refine lv_icmp_ge (tgt := 431) hx hb dL_acts_410 (by decide) (fun _ => ?_) (fun h9 => absurd (nI_le (show r - 1 ≤ kk + (r - 1 - kk) by omega) (by omega)) h9)
      exact K H locs ls hP hD hS (lv_sub hl [0, 1, 2, 3, 4, 5, 6, 7, 8, 9] rfl)
set_option maxHeartbeats 4000000 in
set_option maxRecDepth 100000 in
theorem ac_drop (C : acC p l s m meth c args D cy g B A) (F : soF v tx ga wa la ra sg n r) (hp : pwr st sg w) (hrg : ring z s0 s1 s2 s3 y0 y8) {V wy : Nat} {x5 : Int32} {cq sq : Nat} {H : Heap} {locs : List Loc} {ls : Array Slot} (hV : V < 10000000) (hcq : cq ≤ 0) (hsq : sq ≤ 0) (hP : va_P D vwCl (List.flatten [(wPCo p70 b7 c7 d7 e7 h7 k7 st), (wSet cy b7 v), (wSav cy q h7 z), (wSet cy (q 0) s0), (wSet cy (q 1) s1), (wSet cy (q 2) s2), (wSet cy (q 3) s3), (wI cy gA0 3 ga), (wI cy wA0 8 wa), (wI cy lA0 8 la), (wI cy rA0 4 ra)]) H) (hD : va_D A (List.flatten [(wPCo p70 b7 c7 d7 e7 h7 k7 st), (wSet cy b7 v), (wSav cy q h7 z), (wSet cy (q 0) s0), (wSet cy (q 1) s1), (wSet cy (q 2) s2), (wSet cy (q 3) s3), (wI cy gA0 3 ga), (wI cy wA0 8 wa), (wI cy lA0 8 la), (wI cy rA0 4 ra)])) (hS : va_S A s.heap H locs) (hl : lv_has ls 13 [(6, .int (nI V)), (7, .int (nI wy)), (5, .int x5), (0, .ref p70), (1, .ref gA0), (2, .ref wA0), (3, .ref lA0), (4, .ref rA0)])
    (K : ∀ (pc : Nat), decode cL_acts pc = .ok (.ireturn, 1) → ∀ (u : ActU) (cq sq : Nat) (H : Heap) (locs : List Loc) (ls : Array Slot), cq ≤ 6 → sq ≤ 36 → actOK tx w u → va_P D vwCl (List.flatten [(wPCo p70 b7 c7 d7 e7 h7 k7 u.1.1), (wSet cy b7 u.1.2.1), (wSav cy q h7 u.1.2.2.1), (wSet cy (q 0) u.1.2.2.2.1), (wSet cy (q 1) u.1.2.2.2.2.1), (wSet cy (q 2) u.1.2.2.2.2.2.1), (wSet cy (q 3) u.1.2.2.2.2.2.2), (wI cy gA0 3 u.2.1), (wI cy wA0 8 u.2.2.1), (wI cy lA0 8 u.2.2.2.1), (wI cy rA0 4 u.2.2.2.2)]) H → va_S A s.heap H locs → W p l e actR s m args below meth c H locs cq sq Q (F0 m pc ls [.int 1])) : W p l e actR s m args below meth c H locs cq sq Q (F0 m 363 ls []) := by
  have FF0 := F
  obtain ⟨hl0, hx, hb, hr9, hml, hown, hts, hlk, hK0, hNc, hAB⟩ := C
  obtain ⟨CHH, hAG, htx, hl8⟩ := F
  have hN := CHH.2.1
  have hL := CHH.2.2.1
  have hW := CHH.2.2.2.1
  have hR := CHH.2.2.2.2.1
  have h8 : n ≤ 8 := hN.2.1
  have hr4 : r ≤ 4 := hN.2.2.2
  have S := my_fix hx hb hml hown hts
  have C0 : acC p l s m meth c args D cy g B A := ⟨hl0, hx, hb, hr9, hml, hown, hts, hlk, hK0, hNc, hAB⟩
  refine lv_iload hx hb dL_acts_363 (lv_at hl 0 rfl) ?_
  refine lv_iconst (v := 4) hx hb dL_acts_365 (by decide) ?_
  refine lv_irem hx hb dL_acts_366 (by decide) ?_
  obtain ⟨kk, hkk, ek⟩ : ∃ kk : Nat, kk < 4 ∧ V % 4 = kk := ⟨_, Nat.mod_lt V (by decide), rfl⟩
  refine wk_ti (x := ((nI V) - (nI V) / 4 * 4)) (v := (nI kk)) (by rw [← ek]; exact pk_rem (by omega) (by decide) (by decide)) ?_
  refine lv_istore (lv' := [(8, .int (nI kk)), (6, .int (nI V)), (7, .int (nI wy)), (5, .int x5), (0, .ref p70), (1, .ref gA0), (2, .ref wA0), (3, .ref lA0), (4, .ref rA0)]) hx hb dL_acts_367 hl (by decide) rfl (fun ls hl => ?_)
  refine lv_iload hx hb dL_acts_369 (lv_at hl 0 rfl) ?_
  refine lv_aload_n hx hb dL_acts_371 rfl (lv_at hl 5 rfl) ?_
  refine lv_iconst (v := 2) hx hb dL_acts_372 (by decide) ?_
  refine wk_ia hx hb hK0.1 hP 48 0 (k := 2) (v := (nI r)) rfl rfl (by decide) (by decide) hAG.2.2.1 dL_acts_373 ?_
  rcases Nat.lt_or_ge kk r with hk | hk
  · refine lv_icmp_lt (tgt := 394) hx hb dL_acts_374 (by decide) (fun _ => ?_) (fun h9 => absurd (nI_lt hk (by omega)) h9)
    refine lv_aload_n hx hb dL_acts_394 rfl (lv_at hl 5 rfl) ?_
    refine lv_iconst (v := 2) hx hb dL_acts_395 (by decide) ?_
    refine lv_dup2_11 hx hb dL_acts_396 rfl rfl ?_
    refine wk_ia hx hb hK0.1 hP 48 0 (k := 2) (v := (nI r)) rfl rfl (by decide) (by decide) hAG.2.2.1 dL_acts_397 ?_
    refine lv_iconst (v := 1) hx hb dL_acts_398 (by decide) ?_
    refine lv_isub hx hb dL_acts_399 ?_
    refine wk_ti (x := ((nI r) - 1)) (v := (nI (r - 1))) (pk_sub (a := r) (b := 1) (by omega)) ?_
    refine wk_ast hx hb hK0.1 hP hD hS 48 0 (k := 2) (x := (nI (r - 1))) rfl rfl (by decide) (by decide) dL_acts_400 (fun H locs hP hD hS => ?_)
    have hP : va_P D vwCl (List.flatten [(wPCo p70 b7 c7 d7 e7 h7 k7 st), (wSet cy b7 v), (wSav cy q h7 z), (wSet cy (q 0) s0), (wSet cy (q 1) s1), (wSet cy (q 2) s2), (wSet cy (q 3) s3), (wI cy gA0 3 (upd ga 2 (nI (r - 1)))), (wI cy wA0 8 wa), (wI cy lA0 8 la), (wI cy rA0 4 ra)]) H := hP
    have hD : va_D A (List.flatten [(wPCo p70 b7 c7 d7 e7 h7 k7 st), (wSet cy b7 v), (wSav cy q h7 z), (wSet cy (q 0) s0), (wSet cy (q 1) s1), (wSet cy (q 2) s2), (wSet cy (q 3) s3), (wI cy gA0 3 (upd ga 2 (nI (r - 1)))), (wI cy wA0 8 wa), (wI cy lA0 8 la), (wI cy rA0 4 ra)]) := hD
    refine lv_iload hx hb dL_acts_401 (lv_at hl 0 rfl) ?_
    refine lv_istore (lv' := [(9, .int (nI kk)), (8, .int (nI kk)), (6, .int (nI V)), (7, .int (nI wy)), (5, .int x5), (0, .ref p70), (1, .ref gA0), (2, .ref wA0), (3, .ref lA0), (4, .ref rA0)]) hx hb dL_acts_403 hl (by decide) rfl (fun ls hl => ?_)
    refine ac_shift (V := V) C0 FF0 hp hrg hk (fun H locs ls hP hD hS hl => ?_) (r + 1) 0 H locs ls (by omega) (Nat.zero_le _) hP hD hS (lv_sub hl [0, 1, 2, 3, 4, 5, 6, 7, 8, 9] rfl)
    refine lv_aload_n hx hb dL_acts_431 rfl (lv_at hl 5 rfl) ?_
    refine lv_iload hx hb dL_acts_432 (lv_at hl 1 rfl) ?_
    obtain ⟨u1, e1, hu, hC1, hrg1⟩ := T_drop (st := st) CHH hrg hk
    refine lw_compi (wcs := [(wPCo p70 b7 c7 d7 e7 h7 k7 st), (wSet cy b7 v), (wSav cy q h7 z), (wSet cy (q 0) s0), (wSet cy (q 1) s1), (wSet cy (q 2) s2), (wSet cy (q 3) s3)]) (wns := fun u8 => [(wPCo p70 b7 c7 d7 e7 h7 k7 u8.1), (wSet cy b7 u8.2.1), (wSav cy q h7 u8.2.2.1), (wSet cy (q 0) u8.2.2.2.1), (wSet cy (q 1) u8.2.2.2.2.1), (wSet cy (q 2) u8.2.2.2.2.2.1), (wSet cy (q 3) u8.2.2.2.2.2.2)]) (W2 := fun u8 => [(wPCo p70 b7 c7 d7 e7 h7 k7 u8.1), (wSet cy b7 u8.2.1), (wSav cy q h7 u8.2.2.1), (wSet cy (q 0) u8.2.2.2.1), (wSet cy (q 1) u8.2.2.2.2.1), (wSet cy (q 2) u8.2.2.2.2.2.1), (wSet cy (q 3) u8.2.2.2.2.2.2), (wI cy gA0 3 (upd ga 2 (nI (r - 1)))), (wI cy wA0 8 wa), (wI cy lA0 8 la), (wI cy rA0 4 (shR1 ra kk (r - 1 - kk)))]) (vx_runSW (As := [.ref p70, .int (nI kk)]) (rest := []) S (c_L_drops l hl0 D cy g B p70 b7 c7 d7 e7 h7 k7 q st v z s0 s1 s2 s3 (nI kk) (fun k h => k_dropRule h)) (vx_cwSW 2 hts gL_acts_L_drops rfl rfl rfl hd_L_drops_S ⟨Nat.le_of_ble_eq_true rfl, Nat.le_of_ble_eq_true rfl⟩) ⟨lwP_blind, my_preL (wcs := [(wPCo p70 b7 c7 d7 e7 h7 k7 st), (wSet cy b7 v), (wSav cy q h7 z), (wSet cy (q 0) s0), (wSet cy (q 1) s1), (wSet cy (q 2) s2), (wSet cy (q 3) s3)]) hK0 hNc hS hAB hP hD [0, 1, 2, 3, 4, 5, 6] (by decide) rfl rfl⟩ rfl rfl hl.1 rfl (lv_room (Nat.le_of_ble_eq_true rfl)) dL_acts_434 ⟨(show cq + 1 ≤ 10 by omega), (show sq + 6 ≤ 60 by omega)⟩) hS hP hD [0, 1, 2, 3, 4, 5, 6] rfl rfl (fun _ => rfl) (fun _ => by simp only [List.map_cons, List.map_nil, adrSet, adrSetE, adrPow, adrPowE, adrTxt, adrTxtE, adrSav, adrSavE, adrPCo, adrI, adrL]) (fun _ => rfl) (fun r9 u9 H locs hw hP hD hS => ?_)
    obtain ⟨rfl, rfl⟩ := Prod.mk.inj (e1.symm.trans hw)
    have hP : va_P D vwCl (List.flatten [(wPCo p70 b7 c7 d7 e7 h7 k7 u1.1), (wSet cy b7 u1.2.1), (wSav cy q h7 u1.2.2.1), (wSet cy (q 0) u1.2.2.2.1), (wSet cy (q 1) u1.2.2.2.2.1), (wSet cy (q 2) u1.2.2.2.2.2.1), (wSet cy (q 3) u1.2.2.2.2.2.2), (wI cy gA0 3 (upd ga 2 (nI (r - 1)))), (wI cy wA0 8 wa), (wI cy lA0 8 la), (wI cy rA0 4 (shR1 ra kk (r - 1 - kk)))]) H := hP
    have hD : va_D A (List.flatten [(wPCo p70 b7 c7 d7 e7 h7 k7 u1.1), (wSet cy b7 u1.2.1), (wSav cy q h7 u1.2.2.1), (wSet cy (q 0) u1.2.2.2.1), (wSet cy (q 1) u1.2.2.2.2.1), (wSet cy (q 2) u1.2.2.2.2.2.1), (wSet cy (q 3) u1.2.2.2.2.2.2), (wI cy gA0 3 (upd ga 2 (nI (r - 1)))), (wI cy wA0 8 wa), (wI cy lA0 8 la), (wI cy rA0 4 (shR1 ra kk (r - 1 - kk)))]) := hD
    refine lv_aload_n hx hb dL_acts_437 rfl (lv_at hl 6 rfl) ?_
    refine lv_iconst (v := 2) hx hb dL_acts_438 (by decide) ?_
    refine wk_ia hx hb hK0.1 hP 48 0 (k := 2) (v := (nI (r - 1))) rfl rfl (by decide) (by decide) upd_eq dL_acts_439 ?_
    refine lv_icmp_ne (tgt := 447) hx hb dL_acts_440 (by decide) (fun h9 => absurd rfl h9) (fun _ => ?_)
    refine lv_iconst (v := 1) hx hb dL_acts_443 (by decide) ?_
    refine lv_goto (tgt := 448) hx hb dL_acts_444 (by decide) ?_
    exact K 448 dL_acts_448 (u1, ((upd ga 2 (nI (r - 1))), wa, la, (shR1 ra kk (r - 1 - kk)))) _ _ H locs ls (by omega) (by omega) ⟨_, _, _, ⟨hC1, AG_drop hAG h8 hr4 hk, htx, hl8⟩, pwr_1' hu, hrg1⟩ hP hS
  · refine lv_icmp_lt (tgt := 394) hx hb dL_acts_374 (by decide) (fun h9 => absurd h9 (nI_nlt hk (by omega))) (fun _ => ?_)
    refine lv_aload_n hx hb dL_acts_377 rfl (lv_at hl 4 rfl) ?_
    refine lv_iload hx hb dL_acts_378 (lv_at hl 0 rfl) ?_
    have e1 := E_drop (st := st) (u0 := (st, v, z, s0, s1, s2, s3)) CHH hrg hk (show kk < 2 ^ 31 by omega)
    refine lw_compi (wcs := [(wPCo p70 b7 c7 d7 e7 h7 k7 st), (wSet cy b7 v), (wSav cy q h7 z), (wSet cy (q 0) s0), (wSet cy (q 1) s1), (wSet cy (q 2) s2), (wSet cy (q 3) s3)]) (wns := fun u8 => [(wPCo p70 b7 c7 d7 e7 h7 k7 u8.1), (wSet cy b7 u8.2.1), (wSav cy q h7 u8.2.2.1), (wSet cy (q 0) u8.2.2.2.1), (wSet cy (q 1) u8.2.2.2.2.1), (wSet cy (q 2) u8.2.2.2.2.2.1), (wSet cy (q 3) u8.2.2.2.2.2.2)]) (W2 := fun u8 => [(wPCo p70 b7 c7 d7 e7 h7 k7 u8.1), (wSet cy b7 u8.2.1), (wSav cy q h7 u8.2.2.1), (wSet cy (q 0) u8.2.2.2.1), (wSet cy (q 1) u8.2.2.2.2.1), (wSet cy (q 2) u8.2.2.2.2.2.1), (wSet cy (q 3) u8.2.2.2.2.2.2), (wI cy gA0 3 ga), (wI cy wA0 8 wa), (wI cy lA0 8 la), (wI cy rA0 4 ra)]) (vx_runSW (As := [.ref p70, .int (nI kk)]) (rest := []) S (c_L_drops l hl0 D cy g B p70 b7 c7 d7 e7 h7 k7 q st v z s0 s1 s2 s3 (nI kk) (fun k h => k_dropRule h)) (vx_cwSW 2 hts gL_acts_L_drops rfl rfl rfl hd_L_drops_S ⟨Nat.le_of_ble_eq_true rfl, Nat.le_of_ble_eq_true rfl⟩) ⟨lwP_blind, my_preL (wcs := [(wPCo p70 b7 c7 d7 e7 h7 k7 st), (wSet cy b7 v), (wSav cy q h7 z), (wSet cy (q 0) s0), (wSet cy (q 1) s1), (wSet cy (q 2) s2), (wSet cy (q 3) s3)]) hK0 hNc hS hAB hP hD [0, 1, 2, 3, 4, 5, 6] (by decide) rfl rfl⟩ rfl rfl hl.1 rfl (lv_room (Nat.le_of_ble_eq_true rfl)) dL_acts_380 ⟨(show cq + 1 ≤ 10 by omega), (show sq + 6 ≤ 60 by omega)⟩) hS hP hD [0, 1, 2, 3, 4, 5, 6] rfl rfl (fun _ => rfl) (fun _ => by simp only [List.map_cons, List.map_nil, adrSet, adrSetE, adrPow, adrPowE, adrTxt, adrTxtE, adrSav, adrSavE, adrPCo, adrI, adrL]) (fun _ => rfl) (fun r9 u9 H locs hw hP hD hS => ?_)
    obtain ⟨rfl, rfl⟩ := Prod.mk.inj (e1.symm.trans hw)
    have hP : va_P D vwCl (List.flatten [(wPCo p70 b7 c7 d7 e7 h7 k7 st), (wSet cy b7 v), (wSav cy q h7 z), (wSet cy (q 0) s0), (wSet cy (q 1) s1), (wSet cy (q 2) s2), (wSet cy (q 3) s3), (wI cy gA0 3 ga), (wI cy wA0 8 wa), (wI cy lA0 8 la), (wI cy rA0 4 ra)]) H := hP
    have hD : va_D A (List.flatten [(wPCo p70 b7 c7 d7 e7 h7 k7 st), (wSet cy b7 v), (wSav cy q h7 z), (wSet cy (q 0) s0), (wSet cy (q 1) s1), (wSet cy (q 2) s2), (wSet cy (q 3) s3), (wI cy gA0 3 ga), (wI cy wA0 8 wa), (wI cy lA0 8 la), (wI cy rA0 4 ra)]) := hD
    refine lv_ldc hx hb hown (hts (.constant RL 27 (-2000001)) (by decide +kernel)) dL_acts_383 ?_
    refine lv_icmp_ne (tgt := 392) hx hb dL_acts_385 (by decide) (fun h9 => absurd rfl h9) (fun _ => ?_)
    refine lv_iconst (v := 1) hx hb dL_acts_388 (by decide) ?_
    refine lv_goto (tgt := 393) hx hb dL_acts_389 (by decide) ?_
    exact K 393 dL_acts_393 ((st, v, z, s0, s1, s2, s3), (ga, wa, la, ra)) _ _ H locs ls (by omega) (by omega) ⟨sg, n, r, FF0, hp, y0, y8, hrg⟩ hP hS
set_option maxHeartbeats 4000000 in
set_option maxRecDepth 100000 in
theorem ac_none (C : acC p l s m meth c args D cy g B A) (F : soF v tx ga wa la ra sg n r) (hp : pwr st sg w) (hrg : ring z s0 s1 s2 s3 y0 y8) {V wy : Nat} {x5 : Int32} {cq sq : Nat} {H : Heap} {locs : List Loc} {ls : Array Slot} (hn0 : n = 0) (hcq : cq ≤ 0) (hsq : sq ≤ 0) (hP : va_P D vwCl (List.flatten [(wPCo p70 b7 c7 d7 e7 h7 k7 st), (wSet cy b7 v), (wSav cy q h7 z), (wSet cy (q 0) s0), (wSet cy (q 1) s1), (wSet cy (q 2) s2), (wSet cy (q 3) s3), (wI cy gA0 3 ga), (wI cy wA0 8 wa), (wI cy lA0 8 la), (wI cy rA0 4 ra)]) H) (hD : va_D A (List.flatten [(wPCo p70 b7 c7 d7 e7 h7 k7 st), (wSet cy b7 v), (wSav cy q h7 z), (wSet cy (q 0) s0), (wSet cy (q 1) s1), (wSet cy (q 2) s2), (wSet cy (q 3) s3), (wI cy gA0 3 ga), (wI cy wA0 8 wa), (wI cy lA0 8 la), (wI cy rA0 4 ra)])) (hS : va_S A s.heap H locs) (hl : lv_has ls 13 [(6, .int (nI V)), (7, .int (nI wy)), (5, .int x5), (0, .ref p70), (1, .ref gA0), (2, .ref wA0), (3, .ref lA0), (4, .ref rA0)])
    (K : ∀ (pc : Nat), decode cL_acts pc = .ok (.ireturn, 1) → ∀ (u : ActU) (cq sq : Nat) (H : Heap) (locs : List Loc) (ls : Array Slot), cq ≤ 6 → sq ≤ 36 → actOK tx w u → va_P D vwCl (List.flatten [(wPCo p70 b7 c7 d7 e7 h7 k7 u.1.1), (wSet cy b7 u.1.2.1), (wSav cy q h7 u.1.2.2.1), (wSet cy (q 0) u.1.2.2.2.1), (wSet cy (q 1) u.1.2.2.2.2.1), (wSet cy (q 2) u.1.2.2.2.2.2.1), (wSet cy (q 3) u.1.2.2.2.2.2.2), (wI cy gA0 3 u.2.1), (wI cy wA0 8 u.2.2.1), (wI cy lA0 8 u.2.2.2.1), (wI cy rA0 4 u.2.2.2.2)]) H → va_S A s.heap H locs → W p l e actR s m args below meth c H locs cq sq Q (F0 m pc ls [.int 1])) : W p l e actR s m args below meth c H locs cq sq Q (F0 m 455 ls []) := by
  have FF0 := F
  obtain ⟨hl0, hx, hb, hr9, hml, hown, hts, hlk, hK0, hNc, hAB⟩ := C
  obtain ⟨CHH, hAG, htx, hl8⟩ := F
  have hN := CHH.2.1
  have hL := CHH.2.2.1
  have hW := CHH.2.2.2.1
  have hR := CHH.2.2.2.2.1
  have h8 : n ≤ 8 := hN.2.1
  have hr4 : r ≤ 4 := hN.2.2.2
  have S := my_fix hx hb hml hown hts
  have CH0 : CH v sg 0 r := by rw [← hn0]; exact CHH
  refine lv_aload_n hx hb dL_acts_455 rfl (lv_at hl 3 rfl) ?_
  refine lv_iconst (v := 0) hx hb dL_acts_456 (by decide) ?_
  refine lv_iconst (v := 1) hx hb dL_acts_457 (by decide) ?_
  have e1 := E_weight0 (st := st) (u0 := (st, v, z, s0, s1, s2, s3)) CH0 hrg 1
  refine lw_compi (wcs := [(wPCo p70 b7 c7 d7 e7 h7 k7 st), (wSet cy b7 v), (wSav cy q h7 z), (wSet cy (q 0) s0), (wSet cy (q 1) s1), (wSet cy (q 2) s2), (wSet cy (q 3) s3)]) (wns := fun u8 => [(wPCo p70 b7 c7 d7 e7 h7 k7 u8.1), (wSet cy b7 u8.2.1), (wSav cy q h7 u8.2.2.1), (wSet cy (q 0) u8.2.2.2.1), (wSet cy (q 1) u8.2.2.2.2.1), (wSet cy (q 2) u8.2.2.2.2.2.1), (wSet cy (q 3) u8.2.2.2.2.2.2)]) (W2 := fun u8 => [(wPCo p70 b7 c7 d7 e7 h7 k7 u8.1), (wSet cy b7 u8.2.1), (wSav cy q h7 u8.2.2.1), (wSet cy (q 0) u8.2.2.2.1), (wSet cy (q 1) u8.2.2.2.2.1), (wSet cy (q 2) u8.2.2.2.2.2.1), (wSet cy (q 3) u8.2.2.2.2.2.2), (wI cy gA0 3 ga), (wI cy wA0 8 wa), (wI cy lA0 8 la), (wI cy rA0 4 ra)]) (vx_runSW (As := [.ref p70, .int 0, .int 1]) (rest := []) S (c_L_weighs l hl0 D cy g B p70 b7 c7 d7 e7 h7 k7 q st v z s0 s1 s2 s3 0 1 (fun k h => k_setWeight h)) (vx_cwSW 3 hts gL_acts_L_weighs rfl rfl rfl hd_L_weighs_S ⟨Nat.le_of_ble_eq_true rfl, Nat.le_of_ble_eq_true rfl⟩) ⟨lwP_blind, my_preL (wcs := [(wPCo p70 b7 c7 d7 e7 h7 k7 st), (wSet cy b7 v), (wSav cy q h7 z), (wSet cy (q 0) s0), (wSet cy (q 1) s1), (wSet cy (q 2) s2), (wSet cy (q 3) s3)]) hK0 hNc hS hAB hP hD [0, 1, 2, 3, 4, 5, 6] (by decide) rfl rfl⟩ rfl rfl hl.1 rfl (lv_room (Nat.le_of_ble_eq_true rfl)) dL_acts_458 ⟨(show cq + 1 ≤ 10 by omega), (show sq + 6 ≤ 60 by omega)⟩) hS hP hD [0, 1, 2, 3, 4, 5, 6] rfl rfl (fun _ => rfl) (fun _ => by simp only [List.map_cons, List.map_nil, adrSet, adrSetE, adrPow, adrPowE, adrTxt, adrTxtE, adrSav, adrSavE, adrPCo, adrI, adrL]) (fun _ => rfl) (fun r9 u9 H locs hw hP hD hS => ?_)
  obtain ⟨rfl, rfl⟩ := Prod.mk.inj (e1.symm.trans hw)
  have hP : va_P D vwCl (List.flatten [(wPCo p70 b7 c7 d7 e7 h7 k7 st), (wSet cy b7 v), (wSav cy q h7 z), (wSet cy (q 0) s0), (wSet cy (q 1) s1), (wSet cy (q 2) s2), (wSet cy (q 3) s3), (wI cy gA0 3 ga), (wI cy wA0 8 wa), (wI cy lA0 8 la), (wI cy rA0 4 ra)]) H := hP
  have hD : va_D A (List.flatten [(wPCo p70 b7 c7 d7 e7 h7 k7 st), (wSet cy b7 v), (wSav cy q h7 z), (wSet cy (q 0) s0), (wSet cy (q 1) s1), (wSet cy (q 2) s2), (wSet cy (q 3) s3), (wI cy gA0 3 ga), (wI cy wA0 8 wa), (wI cy lA0 8 la), (wI cy rA0 4 ra)]) := hD
  refine lv_ldc hx hb hown (hts (.constant RL 27 (-2000001)) (by decide +kernel)) dL_acts_461 ?_
  refine lv_icmp_ne (tgt := 491) hx hb dL_acts_463 (by decide) (fun h9 => absurd rfl h9) (fun _ => ?_)
  refine lv_aload_n hx hb dL_acts_466 rfl (lv_at hl 3 rfl) ?_
  refine lv_iconst (v := 0) hx hb dL_acts_467 (by decide) ?_
  refine lv_iconst (v := 0) hx hb dL_acts_468 (by decide) ?_
  have e2 := E_follow0 (st := st) (u0 := (st, v, z, s0, s1, s2, s3)) CH0 hrg 0
  refine lw_compi (wcs := [(wPCo p70 b7 c7 d7 e7 h7 k7 st), (wSet cy b7 v), (wSav cy q h7 z), (wSet cy (q 0) s0), (wSet cy (q 1) s1), (wSet cy (q 2) s2), (wSet cy (q 3) s3)]) (wns := fun u8 => [(wPCo p70 b7 c7 d7 e7 h7 k7 u8.1), (wSet cy b7 u8.2.1), (wSav cy q h7 u8.2.2.1), (wSet cy (q 0) u8.2.2.2.1), (wSet cy (q 1) u8.2.2.2.2.1), (wSet cy (q 2) u8.2.2.2.2.2.1), (wSet cy (q 3) u8.2.2.2.2.2.2)]) (W2 := fun u8 => [(wPCo p70 b7 c7 d7 e7 h7 k7 u8.1), (wSet cy b7 u8.2.1), (wSav cy q h7 u8.2.2.1), (wSet cy (q 0) u8.2.2.2.1), (wSet cy (q 1) u8.2.2.2.2.1), (wSet cy (q 2) u8.2.2.2.2.2.1), (wSet cy (q 3) u8.2.2.2.2.2.2), (wI cy gA0 3 ga), (wI cy wA0 8 wa), (wI cy lA0 8 la), (wI cy rA0 4 ra)]) (vx_runSW (As := [.ref p70, .int 0, .int 0]) (rest := []) S (c_L_follows l hl0 D cy g B p70 b7 c7 d7 e7 h7 k7 q st v z s0 s1 s2 s3 0 0 (fun k h => k_follow h)) (vx_cwSW 3 hts gL_acts_L_follows rfl rfl rfl hd_L_follows_S ⟨Nat.le_of_ble_eq_true rfl, Nat.le_of_ble_eq_true rfl⟩) ⟨lwP_blind, my_preL (wcs := [(wPCo p70 b7 c7 d7 e7 h7 k7 st), (wSet cy b7 v), (wSav cy q h7 z), (wSet cy (q 0) s0), (wSet cy (q 1) s1), (wSet cy (q 2) s2), (wSet cy (q 3) s3)]) hK0 hNc hS hAB hP hD [0, 1, 2, 3, 4, 5, 6] (by decide) rfl rfl⟩ rfl rfl hl.1 rfl (lv_room (Nat.le_of_ble_eq_true rfl)) dL_acts_469 ⟨(show cq + 2 ≤ 10 by omega), (show sq + 12 ≤ 60 by omega)⟩) hS hP hD [0, 1, 2, 3, 4, 5, 6] rfl rfl (fun _ => rfl) (fun _ => by simp only [List.map_cons, List.map_nil, adrSet, adrSetE, adrPow, adrPowE, adrTxt, adrTxtE, adrSav, adrSavE, adrPCo, adrI, adrL]) (fun _ => rfl) (fun r9 u9 H locs hw hP hD hS => ?_)
  obtain ⟨rfl, rfl⟩ := Prod.mk.inj (e2.symm.trans hw)
  have hP : va_P D vwCl (List.flatten [(wPCo p70 b7 c7 d7 e7 h7 k7 st), (wSet cy b7 v), (wSav cy q h7 z), (wSet cy (q 0) s0), (wSet cy (q 1) s1), (wSet cy (q 2) s2), (wSet cy (q 3) s3), (wI cy gA0 3 ga), (wI cy wA0 8 wa), (wI cy lA0 8 la), (wI cy rA0 4 ra)]) H := hP
  have hD : va_D A (List.flatten [(wPCo p70 b7 c7 d7 e7 h7 k7 st), (wSet cy b7 v), (wSav cy q h7 z), (wSet cy (q 0) s0), (wSet cy (q 1) s1), (wSet cy (q 2) s2), (wSet cy (q 3) s3), (wI cy gA0 3 ga), (wI cy wA0 8 wa), (wI cy lA0 8 la), (wI cy rA0 4 ra)]) := hD
  refine lv_ldc hx hb hown (hts (.constant RL 27 (-2000001)) (by decide +kernel)) dL_acts_472 ?_
  refine lv_icmp_ne (tgt := 491) hx hb dL_acts_474 (by decide) (fun h9 => absurd rfl h9) (fun _ => ?_)
  refine lv_aload_n hx hb dL_acts_477 rfl (lv_at hl 3 rfl) ?_
  refine lv_iconst (v := 0) hx hb dL_acts_478 (by decide) ?_
  have e3 := E_leave0 (st := st) (u0 := (st, v, z, s0, s1, s2, s3)) CH0 hrg
  refine lw_compi (wcs := [(wPCo p70 b7 c7 d7 e7 h7 k7 st), (wSet cy b7 v), (wSav cy q h7 z), (wSet cy (q 0) s0), (wSet cy (q 1) s1), (wSet cy (q 2) s2), (wSet cy (q 3) s3)]) (wns := fun u8 => [(wPCo p70 b7 c7 d7 e7 h7 k7 u8.1), (wSet cy b7 u8.2.1), (wSav cy q h7 u8.2.2.1), (wSet cy (q 0) u8.2.2.2.1), (wSet cy (q 1) u8.2.2.2.2.1), (wSet cy (q 2) u8.2.2.2.2.2.1), (wSet cy (q 3) u8.2.2.2.2.2.2)]) (W2 := fun u8 => [(wPCo p70 b7 c7 d7 e7 h7 k7 u8.1), (wSet cy b7 u8.2.1), (wSav cy q h7 u8.2.2.1), (wSet cy (q 0) u8.2.2.2.1), (wSet cy (q 1) u8.2.2.2.2.1), (wSet cy (q 2) u8.2.2.2.2.2.1), (wSet cy (q 3) u8.2.2.2.2.2.2), (wI cy gA0 3 ga), (wI cy wA0 8 wa), (wI cy lA0 8 la), (wI cy rA0 4 ra)]) (vx_runSW (As := [.ref p70, .int 0]) (rest := []) S (c_L_leaves l hl0 D cy g B p70 b7 c7 d7 e7 h7 k7 q st v z s0 s1 s2 s3 0 (fun k h => k_leave h)) (vx_cwSW 2 hts gL_acts_L_leaves rfl rfl rfl hd_L_leaves_S ⟨Nat.le_of_ble_eq_true rfl, Nat.le_of_ble_eq_true rfl⟩) ⟨lwP_blind, my_preL (wcs := [(wPCo p70 b7 c7 d7 e7 h7 k7 st), (wSet cy b7 v), (wSav cy q h7 z), (wSet cy (q 0) s0), (wSet cy (q 1) s1), (wSet cy (q 2) s2), (wSet cy (q 3) s3)]) hK0 hNc hS hAB hP hD [0, 1, 2, 3, 4, 5, 6] (by decide) rfl rfl⟩ rfl rfl hl.1 rfl (lv_room (Nat.le_of_ble_eq_true rfl)) dL_acts_479 ⟨(show cq + 3 ≤ 10 by omega), (show sq + 18 ≤ 60 by omega)⟩) hS hP hD [0, 1, 2, 3, 4, 5, 6] rfl rfl (fun _ => rfl) (fun _ => by simp only [List.map_cons, List.map_nil, adrSet, adrSetE, adrPow, adrPowE, adrTxt, adrTxtE, adrSav, adrSavE, adrPCo, adrI, adrL]) (fun _ => rfl) (fun r9 u9 H locs hw hP hD hS => ?_)
  obtain ⟨rfl, rfl⟩ := Prod.mk.inj (e3.symm.trans hw)
  have hP : va_P D vwCl (List.flatten [(wPCo p70 b7 c7 d7 e7 h7 k7 st), (wSet cy b7 v), (wSav cy q h7 z), (wSet cy (q 0) s0), (wSet cy (q 1) s1), (wSet cy (q 2) s2), (wSet cy (q 3) s3), (wI cy gA0 3 ga), (wI cy wA0 8 wa), (wI cy lA0 8 la), (wI cy rA0 4 ra)]) H := hP
  have hD : va_D A (List.flatten [(wPCo p70 b7 c7 d7 e7 h7 k7 st), (wSet cy b7 v), (wSav cy q h7 z), (wSet cy (q 0) s0), (wSet cy (q 1) s1), (wSet cy (q 2) s2), (wSet cy (q 3) s3), (wI cy gA0 3 ga), (wI cy wA0 8 wa), (wI cy lA0 8 la), (wI cy rA0 4 ra)]) := hD
  refine lv_ldc hx hb hown (hts (.constant RL 27 (-2000001)) (by decide +kernel)) dL_acts_482 ?_
  refine lv_icmp_ne (tgt := 491) hx hb dL_acts_484 (by decide) (fun h9 => absurd rfl h9) (fun _ => ?_)
  refine lv_iconst (v := 1) hx hb dL_acts_487 (by decide) ?_
  refine lv_goto (tgt := 492) hx hb dL_acts_488 (by decide) ?_
  exact K 492 dL_acts_492 ((st, v, z, s0, s1, s2, s3), (ga, wa, la, ra)) _ _ H locs ls (by omega) (by omega) ⟨sg, n, r, FF0, hp, y0, y8, hrg⟩ hP hS
set_option maxHeartbeats 4000000 in
set_option maxRecDepth 100000 in
theorem ac_weight (C : acC p l s m meth c args D cy g B A) (F : soF v tx ga wa la ra sg n r) (hp : pwr st sg w) (hrg : ring z s0 s1 s2 s3 y0 y8) {V wy : Nat} {x5 : Int32} {mm : Nat} {cq sq : Nat} {H : Heap} {locs : List Loc} {ls : Array Slot} (hV : V < 10000000) (hmm : mm < n) (hcq : cq ≤ 0) (hsq : sq ≤ 0) (hP : va_P D vwCl (List.flatten [(wPCo p70 b7 c7 d7 e7 h7 k7 st), (wSet cy b7 v), (wSav cy q h7 z), (wSet cy (q 0) s0), (wSet cy (q 1) s1), (wSet cy (q 2) s2), (wSet cy (q 3) s3), (wI cy gA0 3 ga), (wI cy wA0 8 wa), (wI cy lA0 8 la), (wI cy rA0 4 ra)]) H) (hD : va_D A (List.flatten [(wPCo p70 b7 c7 d7 e7 h7 k7 st), (wSet cy b7 v), (wSav cy q h7 z), (wSet cy (q 0) s0), (wSet cy (q 1) s1), (wSet cy (q 2) s2), (wSet cy (q 3) s3), (wI cy gA0 3 ga), (wI cy wA0 8 wa), (wI cy lA0 8 la), (wI cy rA0 4 ra)])) (hS : va_S A s.heap H locs) (hl : lv_has ls 13 [(8, .int (nI mm)), (6, .int (nI V)), (7, .int (nI wy)), (5, .int x5), (0, .ref p70), (1, .ref gA0), (2, .ref wA0), (3, .ref lA0), (4, .ref rA0)])
    (K : ∀ (pc : Nat), decode cL_acts pc = .ok (.ireturn, 1) → ∀ (u : ActU) (cq sq : Nat) (H : Heap) (locs : List Loc) (ls : Array Slot), cq ≤ 6 → sq ≤ 36 → actOK tx w u → va_P D vwCl (List.flatten [(wPCo p70 b7 c7 d7 e7 h7 k7 u.1.1), (wSet cy b7 u.1.2.1), (wSav cy q h7 u.1.2.2.1), (wSet cy (q 0) u.1.2.2.2.1), (wSet cy (q 1) u.1.2.2.2.2.1), (wSet cy (q 2) u.1.2.2.2.2.2.1), (wSet cy (q 3) u.1.2.2.2.2.2.2), (wI cy gA0 3 u.2.1), (wI cy wA0 8 u.2.2.1), (wI cy lA0 8 u.2.2.2.1), (wI cy rA0 4 u.2.2.2.2)]) H → va_S A s.heap H locs → W p l e actR s m args below meth c H locs cq sq Q (F0 m pc ls [.int 1])) : W p l e actR s m args below meth c H locs cq sq Q (F0 m 508 ls []) := by
  have FF0 := F
  obtain ⟨hl0, hx, hb, hr9, hml, hown, hts, hlk, hK0, hNc, hAB⟩ := C
  obtain ⟨CHH, hAG, htx, hl8⟩ := F
  have hN := CHH.2.1
  have hL := CHH.2.2.1
  have hW := CHH.2.2.2.1
  have hR := CHH.2.2.2.2.1
  have h8 : n ≤ 8 := hN.2.1
  have hr4 : r ≤ 4 := hN.2.2.2
  have S := my_fix hx hb hml hown hts
  refine lv_aload_n hx hb dL_acts_508 rfl (lv_at hl 6 rfl) ?_
  refine lv_iload hx hb dL_acts_509 (lv_at hl 0 rfl) ?_
  refine wk_ia hx hb hK0.1 hP 49 0 (k := mm) (v := (nI (wN sg mm))) rfl rfl (by omega) (by decide) ((hAG.2.2.2.1 mm hmm).trans (wN_eq hW hmm).1) dL_acts_511 ?_
  refine lv_istore (lv' := [(9, .int (nI (wN sg mm))), (8, .int (nI mm)), (6, .int (nI V)), (7, .int (nI wy)), (5, .int x5), (0, .ref p70), (1, .ref gA0), (2, .ref wA0), (3, .ref lA0), (4, .ref rA0)]) hx hb dL_acts_512 hl (by decide) rfl (fun ls hl => ?_)
  refine lv_aload_n hx hb dL_acts_514 rfl (lv_at hl 7 rfl) ?_
  refine lv_iload hx hb dL_acts_515 (lv_at hl 1 rfl) ?_
  refine lv_iload hx hb dL_acts_517 (lv_at hl 2 rfl) ?_
  refine lv_bipush (v := 8) hx hb dL_acts_519 (by decide) ?_
  refine lv_idiv hx hb dL_acts_521 (by decide) ?_
  refine wk_ti (x := ((nI V) / 8)) (v := (nI (V / 8))) (pk_div (by omega) (by decide) (by decide)) ?_
  refine lv_iload hx hb dL_acts_522 (lv_at hl 2 rfl) ?_
  refine lv_iconst (v := 5) hx hb dL_acts_524 (by decide) ?_
  refine lv_irem hx hb dL_acts_525 (by decide) ?_
  refine wk_ti (x := ((nI V) - (nI V) / 5 * 5)) (v := (nI (V % 5))) (pk_rem (by omega) (by decide) (by decide)) ?_
  by_cases h5 : V % 5 = 0
  · refine lv_if_ne (tgt := 534) hx hb dL_acts_526 (by decide) (fun h9 => absurd (by rw [h5]; rfl) h9) (fun _ => ?_)
    refine lv_bipush (v := 51) hx hb dL_acts_529 (by decide) ?_
    refine lv_goto (tgt := 536) hx hb dL_acts_531 (by decide) ?_
    refine lv_irem hx hb dL_acts_536 (by decide) ?_
    refine wk_ti (x := ((nI (V / 8)) - (nI (V / 8)) / 51 * 51)) (v := (nI (V / 8 % 51))) (pk_rem (by omega) (by decide) (by decide)) ?_
    have hX : V / 8 % 51 ≤ 50 := by have := Nat.mod_lt (V / 8) (show 0 < 51 by decide); omega
    refine wk_ast hx hb hK0.1 hP hD hS 49 0 (k := mm) (x := (nI (V / 8 % 51))) rfl rfl (by omega) (by decide) dL_acts_537 (fun H locs hP hD hS => ?_)
    have hP : va_P D vwCl (List.flatten [(wPCo p70 b7 c7 d7 e7 h7 k7 st), (wSet cy b7 v), (wSav cy q h7 z), (wSet cy (q 0) s0), (wSet cy (q 1) s1), (wSet cy (q 2) s2), (wSet cy (q 3) s3), (wI cy gA0 3 ga), (wI cy wA0 8 (upd wa mm (nI (V / 8 % 51)))), (wI cy lA0 8 la), (wI cy rA0 4 ra)]) H := hP
    have hD : va_D A (List.flatten [(wPCo p70 b7 c7 d7 e7 h7 k7 st), (wSet cy b7 v), (wSav cy q h7 z), (wSet cy (q 0) s0), (wSet cy (q 1) s1), (wSet cy (q 2) s2), (wSet cy (q 3) s3), (wI cy gA0 3 ga), (wI cy wA0 8 (upd wa mm (nI (V / 8 % 51)))), (wI cy lA0 8 la), (wI cy rA0 4 ra)]) := hD
    refine lv_aload_n hx hb dL_acts_538 rfl (lv_at hl 5 rfl) ?_
    refine lv_iload hx hb dL_acts_539 (lv_at hl 1 rfl) ?_
    refine lv_aload_n hx hb dL_acts_541 rfl (lv_at hl 7 rfl) ?_
    refine lv_iload hx hb dL_acts_542 (lv_at hl 1 rfl) ?_
    refine wk_ia hx hb hK0.1 hP 49 0 (k := mm) (v := (nI (V / 8 % 51))) rfl rfl (by omega) (by decide) upd_eq dL_acts_544 ?_
    obtain ⟨u1, e1, hu, hC1, hrg1⟩ := T_weight (st := st) CHH hrg hmm hX
    refine lw_compi (wcs := [(wPCo p70 b7 c7 d7 e7 h7 k7 st), (wSet cy b7 v), (wSav cy q h7 z), (wSet cy (q 0) s0), (wSet cy (q 1) s1), (wSet cy (q 2) s2), (wSet cy (q 3) s3)]) (wns := fun u8 => [(wPCo p70 b7 c7 d7 e7 h7 k7 u8.1), (wSet cy b7 u8.2.1), (wSav cy q h7 u8.2.2.1), (wSet cy (q 0) u8.2.2.2.1), (wSet cy (q 1) u8.2.2.2.2.1), (wSet cy (q 2) u8.2.2.2.2.2.1), (wSet cy (q 3) u8.2.2.2.2.2.2)]) (W2 := fun u8 => [(wPCo p70 b7 c7 d7 e7 h7 k7 u8.1), (wSet cy b7 u8.2.1), (wSav cy q h7 u8.2.2.1), (wSet cy (q 0) u8.2.2.2.1), (wSet cy (q 1) u8.2.2.2.2.1), (wSet cy (q 2) u8.2.2.2.2.2.1), (wSet cy (q 3) u8.2.2.2.2.2.2), (wI cy gA0 3 ga), (wI cy wA0 8 (upd wa mm (nI (V / 8 % 51)))), (wI cy lA0 8 la), (wI cy rA0 4 ra)]) (vx_runSW (As := [.ref p70, .int (nI mm), .int (nI (V / 8 % 51))]) (rest := []) S (c_L_weighs l hl0 D cy g B p70 b7 c7 d7 e7 h7 k7 q st v z s0 s1 s2 s3 (nI mm) (nI (V / 8 % 51)) (fun k h => k_setWeight h)) (vx_cwSW 3 hts gL_acts_L_weighs rfl rfl rfl hd_L_weighs_S ⟨Nat.le_of_ble_eq_true rfl, Nat.le_of_ble_eq_true rfl⟩) ⟨lwP_blind, my_preL (wcs := [(wPCo p70 b7 c7 d7 e7 h7 k7 st), (wSet cy b7 v), (wSav cy q h7 z), (wSet cy (q 0) s0), (wSet cy (q 1) s1), (wSet cy (q 2) s2), (wSet cy (q 3) s3)]) hK0 hNc hS hAB hP hD [0, 1, 2, 3, 4, 5, 6] (by decide) rfl rfl⟩ rfl rfl hl.1 rfl (lv_room (Nat.le_of_ble_eq_true rfl)) dL_acts_545 ⟨(show cq + 1 ≤ 10 by omega), (show sq + 6 ≤ 60 by omega)⟩) hS hP hD [0, 1, 2, 3, 4, 5, 6] rfl rfl (fun _ => rfl) (fun _ => by simp only [List.map_cons, List.map_nil, adrSet, adrSetE, adrPow, adrPowE, adrTxt, adrTxtE, adrSav, adrSavE, adrPCo, adrI, adrL]) (fun _ => rfl) (fun r9 u9 H locs hw hP hD hS => ?_)
    obtain ⟨rfl, rfl⟩ := Prod.mk.inj (e1.symm.trans hw)
    have hP : va_P D vwCl (List.flatten [(wPCo p70 b7 c7 d7 e7 h7 k7 u1.1), (wSet cy b7 u1.2.1), (wSav cy q h7 u1.2.2.1), (wSet cy (q 0) u1.2.2.2.1), (wSet cy (q 1) u1.2.2.2.2.1), (wSet cy (q 2) u1.2.2.2.2.2.1), (wSet cy (q 3) u1.2.2.2.2.2.2), (wI cy gA0 3 ga), (wI cy wA0 8 (upd wa mm (nI (V / 8 % 51)))), (wI cy lA0 8 la), (wI cy rA0 4 ra)]) H := hP
    have hD : va_D A (List.flatten [(wPCo p70 b7 c7 d7 e7 h7 k7 u1.1), (wSet cy b7 u1.2.1), (wSav cy q h7 u1.2.2.1), (wSet cy (q 0) u1.2.2.2.1), (wSet cy (q 1) u1.2.2.2.2.1), (wSet cy (q 2) u1.2.2.2.2.2.1), (wSet cy (q 3) u1.2.2.2.2.2.2), (wI cy gA0 3 ga), (wI cy wA0 8 (upd wa mm (nI (V / 8 % 51)))), (wI cy lA0 8 la), (wI cy rA0 4 ra)]) := hD
    refine lv_iload hx hb dL_acts_548 (lv_at hl 0 rfl) ?_
    refine lv_icmp_ne (tgt := 557) hx hb dL_acts_550 (by decide) (fun h9 => absurd rfl h9) (fun _ => ?_)
    refine lv_iconst (v := 1) hx hb dL_acts_553 (by decide) ?_
    refine lv_goto (tgt := 558) hx hb dL_acts_554 (by decide) ?_
    exact K 558 dL_acts_558 (u1, (ga, (upd wa mm (nI (V / 8 % 51))), la, ra)) _ _ H locs ls (by omega) (by omega) ⟨_, _, _, ⟨hC1, AG_weight hAG h8 hmm _, htx, hl8⟩, pwr_1' hu, hrg1⟩ hP hS
  · refine lv_if_ne (tgt := 534) hx hb dL_acts_526 (by decide) (fun _ => ?_) (fun h9 => absurd h9 (fun z => h5 ((iV (by omega) (by decide)).mp z)))
    refine lv_bipush (v := 6) hx hb dL_acts_534 (by decide) ?_
    refine lv_irem hx hb dL_acts_536 (by decide) ?_
    refine wk_ti (x := ((nI (V / 8)) - (nI (V / 8)) / 6 * 6)) (v := (nI (V / 8 % 6))) (pk_rem (by omega) (by decide) (by decide)) ?_
    have hX : V / 8 % 6 ≤ 50 := by have := Nat.mod_lt (V / 8) (show 0 < 6 by decide); omega
    refine wk_ast hx hb hK0.1 hP hD hS 49 0 (k := mm) (x := (nI (V / 8 % 6))) rfl rfl (by omega) (by decide) dL_acts_537 (fun H locs hP hD hS => ?_)
    have hP : va_P D vwCl (List.flatten [(wPCo p70 b7 c7 d7 e7 h7 k7 st), (wSet cy b7 v), (wSav cy q h7 z), (wSet cy (q 0) s0), (wSet cy (q 1) s1), (wSet cy (q 2) s2), (wSet cy (q 3) s3), (wI cy gA0 3 ga), (wI cy wA0 8 (upd wa mm (nI (V / 8 % 6)))), (wI cy lA0 8 la), (wI cy rA0 4 ra)]) H := hP
    have hD : va_D A (List.flatten [(wPCo p70 b7 c7 d7 e7 h7 k7 st), (wSet cy b7 v), (wSav cy q h7 z), (wSet cy (q 0) s0), (wSet cy (q 1) s1), (wSet cy (q 2) s2), (wSet cy (q 3) s3), (wI cy gA0 3 ga), (wI cy wA0 8 (upd wa mm (nI (V / 8 % 6)))), (wI cy lA0 8 la), (wI cy rA0 4 ra)]) := hD
    refine lv_aload_n hx hb dL_acts_538 rfl (lv_at hl 5 rfl) ?_
    refine lv_iload hx hb dL_acts_539 (lv_at hl 1 rfl) ?_
    refine lv_aload_n hx hb dL_acts_541 rfl (lv_at hl 7 rfl) ?_
    refine lv_iload hx hb dL_acts_542 (lv_at hl 1 rfl) ?_
    refine wk_ia hx hb hK0.1 hP 49 0 (k := mm) (v := (nI (V / 8 % 6))) rfl rfl (by omega) (by decide) upd_eq dL_acts_544 ?_
    obtain ⟨u1, e1, hu, hC1, hrg1⟩ := T_weight (st := st) CHH hrg hmm hX
    refine lw_compi (wcs := [(wPCo p70 b7 c7 d7 e7 h7 k7 st), (wSet cy b7 v), (wSav cy q h7 z), (wSet cy (q 0) s0), (wSet cy (q 1) s1), (wSet cy (q 2) s2), (wSet cy (q 3) s3)]) (wns := fun u8 => [(wPCo p70 b7 c7 d7 e7 h7 k7 u8.1), (wSet cy b7 u8.2.1), (wSav cy q h7 u8.2.2.1), (wSet cy (q 0) u8.2.2.2.1), (wSet cy (q 1) u8.2.2.2.2.1), (wSet cy (q 2) u8.2.2.2.2.2.1), (wSet cy (q 3) u8.2.2.2.2.2.2)]) (W2 := fun u8 => [(wPCo p70 b7 c7 d7 e7 h7 k7 u8.1), (wSet cy b7 u8.2.1), (wSav cy q h7 u8.2.2.1), (wSet cy (q 0) u8.2.2.2.1), (wSet cy (q 1) u8.2.2.2.2.1), (wSet cy (q 2) u8.2.2.2.2.2.1), (wSet cy (q 3) u8.2.2.2.2.2.2), (wI cy gA0 3 ga), (wI cy wA0 8 (upd wa mm (nI (V / 8 % 6)))), (wI cy lA0 8 la), (wI cy rA0 4 ra)]) (vx_runSW (As := [.ref p70, .int (nI mm), .int (nI (V / 8 % 6))]) (rest := []) S (c_L_weighs l hl0 D cy g B p70 b7 c7 d7 e7 h7 k7 q st v z s0 s1 s2 s3 (nI mm) (nI (V / 8 % 6)) (fun k h => k_setWeight h)) (vx_cwSW 3 hts gL_acts_L_weighs rfl rfl rfl hd_L_weighs_S ⟨Nat.le_of_ble_eq_true rfl, Nat.le_of_ble_eq_true rfl⟩) ⟨lwP_blind, my_preL (wcs := [(wPCo p70 b7 c7 d7 e7 h7 k7 st), (wSet cy b7 v), (wSav cy q h7 z), (wSet cy (q 0) s0), (wSet cy (q 1) s1), (wSet cy (q 2) s2), (wSet cy (q 3) s3)]) hK0 hNc hS hAB hP hD [0, 1, 2, 3, 4, 5, 6] (by decide) rfl rfl⟩ rfl rfl hl.1 rfl (lv_room (Nat.le_of_ble_eq_true rfl)) dL_acts_545 ⟨(show cq + 1 ≤ 10 by omega), (show sq + 6 ≤ 60 by omega)⟩) hS hP hD [0, 1, 2, 3, 4, 5, 6] rfl rfl (fun _ => rfl) (fun _ => by simp only [List.map_cons, List.map_nil, adrSet, adrSetE, adrPow, adrPowE, adrTxt, adrTxtE, adrSav, adrSavE, adrPCo, adrI, adrL]) (fun _ => rfl) (fun r9 u9 H locs hw hP hD hS => ?_)
    obtain ⟨rfl, rfl⟩ := Prod.mk.inj (e1.symm.trans hw)
    have hP : va_P D vwCl (List.flatten [(wPCo p70 b7 c7 d7 e7 h7 k7 u1.1), (wSet cy b7 u1.2.1), (wSav cy q h7 u1.2.2.1), (wSet cy (q 0) u1.2.2.2.1), (wSet cy (q 1) u1.2.2.2.2.1), (wSet cy (q 2) u1.2.2.2.2.2.1), (wSet cy (q 3) u1.2.2.2.2.2.2), (wI cy gA0 3 ga), (wI cy wA0 8 (upd wa mm (nI (V / 8 % 6)))), (wI cy lA0 8 la), (wI cy rA0 4 ra)]) H := hP
    have hD : va_D A (List.flatten [(wPCo p70 b7 c7 d7 e7 h7 k7 u1.1), (wSet cy b7 u1.2.1), (wSav cy q h7 u1.2.2.1), (wSet cy (q 0) u1.2.2.2.1), (wSet cy (q 1) u1.2.2.2.2.1), (wSet cy (q 2) u1.2.2.2.2.2.1), (wSet cy (q 3) u1.2.2.2.2.2.2), (wI cy gA0 3 ga), (wI cy wA0 8 (upd wa mm (nI (V / 8 % 6)))), (wI cy lA0 8 la), (wI cy rA0 4 ra)]) := hD
    refine lv_iload hx hb dL_acts_548 (lv_at hl 0 rfl) ?_
    refine lv_icmp_ne (tgt := 557) hx hb dL_acts_550 (by decide) (fun h9 => absurd rfl h9) (fun _ => ?_)
    refine lv_iconst (v := 1) hx hb dL_acts_553 (by decide) ?_
    refine lv_goto (tgt := 558) hx hb dL_acts_554 (by decide) ?_
    exact K 558 dL_acts_558 (u1, (ga, (upd wa mm (nI (V / 8 % 6))), la, ra)) _ _ H locs ls (by omega) (by omega) ⟨_, _, _, ⟨hC1, AG_weight hAG h8 hmm _, htx, hl8⟩, pwr_1' hu, hrg1⟩ hP hS
set_option maxHeartbeats 4000000 in
set_option maxRecDepth 100000 in
theorem ac_leave (C : acC p l s m meth c args D cy g B A) (F : soF v tx ga wa la ra sg n r) (hp : pwr st sg w) (hrg : ring z s0 s1 s2 s3 y0 y8) {V wy : Nat} {x5 : Int32} {mm : Nat} {cq sq : Nat} {H : Heap} {locs : List Loc} {ls : Array Slot} (hV : V < 10000000) (hmm : mm < n) (hcq : cq ≤ 0) (hsq : sq ≤ 0) (hP : va_P D vwCl (List.flatten [(wPCo p70 b7 c7 d7 e7 h7 k7 st), (wSet cy b7 v), (wSav cy q h7 z), (wSet cy (q 0) s0), (wSet cy (q 1) s1), (wSet cy (q 2) s2), (wSet cy (q 3) s3), (wI cy gA0 3 ga), (wI cy wA0 8 wa), (wI cy lA0 8 la), (wI cy rA0 4 ra)]) H) (hD : va_D A (List.flatten [(wPCo p70 b7 c7 d7 e7 h7 k7 st), (wSet cy b7 v), (wSav cy q h7 z), (wSet cy (q 0) s0), (wSet cy (q 1) s1), (wSet cy (q 2) s2), (wSet cy (q 3) s3), (wI cy gA0 3 ga), (wI cy wA0 8 wa), (wI cy lA0 8 la), (wI cy rA0 4 ra)])) (hS : va_S A s.heap H locs) (hl : lv_has ls 13 [(8, .int (nI mm)), (6, .int (nI V)), (7, .int (nI wy)), (5, .int x5), (0, .ref p70), (1, .ref gA0), (2, .ref wA0), (3, .ref lA0), (4, .ref rA0)])
    (K : ∀ (pc : Nat), decode cL_acts pc = .ok (.ireturn, 1) → ∀ (u : ActU) (cq sq : Nat) (H : Heap) (locs : List Loc) (ls : Array Slot), cq ≤ 6 → sq ≤ 36 → actOK tx w u → va_P D vwCl (List.flatten [(wPCo p70 b7 c7 d7 e7 h7 k7 u.1.1), (wSet cy b7 u.1.2.1), (wSav cy q h7 u.1.2.2.1), (wSet cy (q 0) u.1.2.2.2.1), (wSet cy (q 1) u.1.2.2.2.2.1), (wSet cy (q 2) u.1.2.2.2.2.2.1), (wSet cy (q 3) u.1.2.2.2.2.2.2), (wI cy gA0 3 u.2.1), (wI cy wA0 8 u.2.2.1), (wI cy lA0 8 u.2.2.2.1), (wI cy rA0 4 u.2.2.2.2)]) H → va_S A s.heap H locs → W p l e actR s m args below meth c H locs cq sq Q (F0 m pc ls [.int 1])) : W p l e actR s m args below meth c H locs cq sq Q (F0 m 744 ls []) := by
  have FF0 := F
  obtain ⟨hl0, hx, hb, hr9, hml, hown, hts, hlk, hK0, hNc, hAB⟩ := C
  obtain ⟨CHH, hAG, htx, hl8⟩ := F
  have hN := CHH.2.1
  have hL := CHH.2.2.1
  have hW := CHH.2.2.2.1
  have hR := CHH.2.2.2.2.1
  have h8 : n ≤ 8 := hN.2.1
  have hr4 : r ≤ 4 := hN.2.2.2
  have S := my_fix hx hb hml hown hts
  refine lv_aload_n hx hb dL_acts_744 rfl (lv_at hl 7 rfl) ?_
  refine lv_iload hx hb dL_acts_745 (lv_at hl 0 rfl) ?_
  refine wk_ia hx hb hK0.1 hP 50 0 (k := mm) (v := (sg (11 + mm))) rfl rfl (by omega) (by decide) (hAG.2.2.2.2.1 mm hmm) dL_acts_747 ?_
  refine lv_istore (lv' := [(9, .int (sg (11 + mm))), (8, .int (nI mm)), (6, .int (nI V)), (7, .int (nI wy)), (5, .int x5), (0, .ref p70), (1, .ref gA0), (2, .ref wA0), (3, .ref lA0), (4, .ref rA0)]) hx hb dL_acts_748 hl (by decide) rfl (fun ls hl => ?_)
  refine lv_aload_n hx hb dL_acts_750 rfl (lv_at hl 8 rfl) ?_
  refine lv_iload hx hb dL_acts_751 (lv_at hl 1 rfl) ?_
  refine lv_iconst (v := (-1)) hx hb dL_acts_753 (by decide) ?_
  refine wk_ast hx hb hK0.1 hP hD hS 50 0 (k := mm) (x := (-1)) rfl rfl (by omega) (by decide) dL_acts_754 (fun H locs hP hD hS => ?_)
  have hP : va_P D vwCl (List.flatten [(wPCo p70 b7 c7 d7 e7 h7 k7 st), (wSet cy b7 v), (wSav cy q h7 z), (wSet cy (q 0) s0), (wSet cy (q 1) s1), (wSet cy (q 2) s2), (wSet cy (q 3) s3), (wI cy gA0 3 ga), (wI cy wA0 8 wa), (wI cy lA0 8 (upd la mm (-1))), (wI cy rA0 4 ra)]) H := hP
  have hD : va_D A (List.flatten [(wPCo p70 b7 c7 d7 e7 h7 k7 st), (wSet cy b7 v), (wSav cy q h7 z), (wSet cy (q 0) s0), (wSet cy (q 1) s1), (wSet cy (q 2) s2), (wSet cy (q 3) s3), (wI cy gA0 3 ga), (wI cy wA0 8 wa), (wI cy lA0 8 (upd la mm (-1))), (wI cy rA0 4 ra)]) := hD
  refine lv_aload_n hx hb dL_acts_755 rfl (lv_at hl 5 rfl) ?_
  refine lv_iload hx hb dL_acts_756 (lv_at hl 1 rfl) ?_
  rcases l_ne hL h8 hmm with hb9 | ⟨p9, hp9, hb1, hb2, hb3, hb4⟩
  · have e1 := E_leave (st := st) (u0 := (st, v, z, s0, s1, s2, s3)) CHH hrg hmm hb9
    refine lw_compi (wcs := [(wPCo p70 b7 c7 d7 e7 h7 k7 st), (wSet cy b7 v), (wSav cy q h7 z), (wSet cy (q 0) s0), (wSet cy (q 1) s1), (wSet cy (q 2) s2), (wSet cy (q 3) s3)]) (wns := fun u8 => [(wPCo p70 b7 c7 d7 e7 h7 k7 u8.1), (wSet cy b7 u8.2.1), (wSav cy q h7 u8.2.2.1), (wSet cy (q 0) u8.2.2.2.1), (wSet cy (q 1) u8.2.2.2.2.1), (wSet cy (q 2) u8.2.2.2.2.2.1), (wSet cy (q 3) u8.2.2.2.2.2.2)]) (W2 := fun u8 => [(wPCo p70 b7 c7 d7 e7 h7 k7 u8.1), (wSet cy b7 u8.2.1), (wSav cy q h7 u8.2.2.1), (wSet cy (q 0) u8.2.2.2.1), (wSet cy (q 1) u8.2.2.2.2.1), (wSet cy (q 2) u8.2.2.2.2.2.1), (wSet cy (q 3) u8.2.2.2.2.2.2), (wI cy gA0 3 ga), (wI cy wA0 8 wa), (wI cy lA0 8 (upd la mm (-1))), (wI cy rA0 4 ra)]) (vx_runSW (As := [.ref p70, .int (nI mm)]) (rest := []) S (c_L_leaves l hl0 D cy g B p70 b7 c7 d7 e7 h7 k7 q st v z s0 s1 s2 s3 (nI mm) (fun k h => k_leave h)) (vx_cwSW 2 hts gL_acts_L_leaves rfl rfl rfl hd_L_leaves_S ⟨Nat.le_of_ble_eq_true rfl, Nat.le_of_ble_eq_true rfl⟩) ⟨lwP_blind, my_preL (wcs := [(wPCo p70 b7 c7 d7 e7 h7 k7 st), (wSet cy b7 v), (wSav cy q h7 z), (wSet cy (q 0) s0), (wSet cy (q 1) s1), (wSet cy (q 2) s2), (wSet cy (q 3) s3)]) hK0 hNc hS hAB hP hD [0, 1, 2, 3, 4, 5, 6] (by decide) rfl rfl⟩ rfl rfl hl.1 rfl (lv_room (Nat.le_of_ble_eq_true rfl)) dL_acts_758 ⟨(show cq + 1 ≤ 10 by omega), (show sq + 6 ≤ 60 by omega)⟩) hS hP hD [0, 1, 2, 3, 4, 5, 6] rfl rfl (fun _ => rfl) (fun _ => by simp only [List.map_cons, List.map_nil, adrSet, adrSetE, adrPow, adrPowE, adrTxt, adrTxtE, adrSav, adrSavE, adrPCo, adrI, adrL]) (fun _ => rfl) (fun r9 u9 H locs hw hP hD hS => ?_)
    obtain ⟨rfl, rfl⟩ := Prod.mk.inj (e1.symm.trans hw)
    have hP : va_P D vwCl (List.flatten [(wPCo p70 b7 c7 d7 e7 h7 k7 st), (wSet cy b7 v), (wSav cy q h7 z), (wSet cy (q 0) s0), (wSet cy (q 1) s1), (wSet cy (q 2) s2), (wSet cy (q 3) s3), (wI cy gA0 3 ga), (wI cy wA0 8 wa), (wI cy lA0 8 (upd la mm (-1))), (wI cy rA0 4 ra)]) H := hP
    have hD : va_D A (List.flatten [(wPCo p70 b7 c7 d7 e7 h7 k7 st), (wSet cy b7 v), (wSav cy q h7 z), (wSet cy (q 0) s0), (wSet cy (q 1) s1), (wSet cy (q 2) s2), (wSet cy (q 3) s3), (wI cy gA0 3 ga), (wI cy wA0 8 wa), (wI cy lA0 8 (upd la mm (-1))), (wI cy rA0 4 ra)]) := hD
    refine lv_iload hx hb dL_acts_761 (lv_at hl 0 rfl) ?_
    refine lv_if_ge (tgt := 771) hx hb dL_acts_763 (by decide) (fun h9 => absurd h9 (by rw [hb9]; decide)) (fun _ => ?_)
    refine lv_ldc hx hb hown (hts (.constant RL 20 (-2000003)) (by decide +kernel)) dL_acts_766 ?_
    refine lv_goto (tgt := 773) hx hb dL_acts_768 (by decide) ?_
    refine lv_icmp_ne (tgt := 780) hx hb dL_acts_773 (by decide) (fun h9 => absurd rfl h9) (fun _ => ?_)
    refine lv_iconst (v := 1) hx hb dL_acts_776 (by decide) ?_
    refine lv_goto (tgt := 781) hx hb dL_acts_777 (by decide) ?_
    exact K 781 dL_acts_781 ((st, v, z, s0, s1, s2, s3), (ga, wa, (upd la mm (-1)), ra)) _ _ H locs ls (by omega) (by omega) ⟨sg, n, r, ⟨CHH, AG_same hAG (fun _ => hb9.symm), htx, l8_upd hl8 (by decide)⟩, hp, y0, y8, hrg⟩ hP hS
  · obtain ⟨u1, e1, hu, hC1, hrg1⟩ := T_leave (st := st) CHH hrg hmm hb3
    refine lw_compi (wcs := [(wPCo p70 b7 c7 d7 e7 h7 k7 st), (wSet cy b7 v), (wSav cy q h7 z), (wSet cy (q 0) s0), (wSet cy (q 1) s1), (wSet cy (q 2) s2), (wSet cy (q 3) s3)]) (wns := fun u8 => [(wPCo p70 b7 c7 d7 e7 h7 k7 u8.1), (wSet cy b7 u8.2.1), (wSav cy q h7 u8.2.2.1), (wSet cy (q 0) u8.2.2.2.1), (wSet cy (q 1) u8.2.2.2.2.1), (wSet cy (q 2) u8.2.2.2.2.2.1), (wSet cy (q 3) u8.2.2.2.2.2.2)]) (W2 := fun u8 => [(wPCo p70 b7 c7 d7 e7 h7 k7 u8.1), (wSet cy b7 u8.2.1), (wSav cy q h7 u8.2.2.1), (wSet cy (q 0) u8.2.2.2.1), (wSet cy (q 1) u8.2.2.2.2.1), (wSet cy (q 2) u8.2.2.2.2.2.1), (wSet cy (q 3) u8.2.2.2.2.2.2), (wI cy gA0 3 ga), (wI cy wA0 8 wa), (wI cy lA0 8 (upd la mm (-1))), (wI cy rA0 4 ra)]) (vx_runSW (As := [.ref p70, .int (nI mm)]) (rest := []) S (c_L_leaves l hl0 D cy g B p70 b7 c7 d7 e7 h7 k7 q st v z s0 s1 s2 s3 (nI mm) (fun k h => k_leave h)) (vx_cwSW 2 hts gL_acts_L_leaves rfl rfl rfl hd_L_leaves_S ⟨Nat.le_of_ble_eq_true rfl, Nat.le_of_ble_eq_true rfl⟩) ⟨lwP_blind, my_preL (wcs := [(wPCo p70 b7 c7 d7 e7 h7 k7 st), (wSet cy b7 v), (wSav cy q h7 z), (wSet cy (q 0) s0), (wSet cy (q 1) s1), (wSet cy (q 2) s2), (wSet cy (q 3) s3)]) hK0 hNc hS hAB hP hD [0, 1, 2, 3, 4, 5, 6] (by decide) rfl rfl⟩ rfl rfl hl.1 rfl (lv_room (Nat.le_of_ble_eq_true rfl)) dL_acts_758 ⟨(show cq + 1 ≤ 10 by omega), (show sq + 6 ≤ 60 by omega)⟩) hS hP hD [0, 1, 2, 3, 4, 5, 6] rfl rfl (fun _ => rfl) (fun _ => by simp only [List.map_cons, List.map_nil, adrSet, adrSetE, adrPow, adrPowE, adrTxt, adrTxtE, adrSav, adrSavE, adrPCo, adrI, adrL]) (fun _ => rfl) (fun r9 u9 H locs hw hP hD hS => ?_)
    obtain ⟨rfl, rfl⟩ := Prod.mk.inj (e1.symm.trans hw)
    have hP : va_P D vwCl (List.flatten [(wPCo p70 b7 c7 d7 e7 h7 k7 u1.1), (wSet cy b7 u1.2.1), (wSav cy q h7 u1.2.2.1), (wSet cy (q 0) u1.2.2.2.1), (wSet cy (q 1) u1.2.2.2.2.1), (wSet cy (q 2) u1.2.2.2.2.2.1), (wSet cy (q 3) u1.2.2.2.2.2.2), (wI cy gA0 3 ga), (wI cy wA0 8 wa), (wI cy lA0 8 (upd la mm (-1))), (wI cy rA0 4 ra)]) H := hP
    have hD : va_D A (List.flatten [(wPCo p70 b7 c7 d7 e7 h7 k7 u1.1), (wSet cy b7 u1.2.1), (wSav cy q h7 u1.2.2.1), (wSet cy (q 0) u1.2.2.2.1), (wSet cy (q 1) u1.2.2.2.2.1), (wSet cy (q 2) u1.2.2.2.2.2.1), (wSet cy (q 3) u1.2.2.2.2.2.2), (wI cy gA0 3 ga), (wI cy wA0 8 wa), (wI cy lA0 8 (upd la mm (-1))), (wI cy rA0 4 ra)]) := hD
    refine lv_iload hx hb dL_acts_761 (lv_at hl 0 rfl) ?_
    refine lv_if_ge (tgt := 771) hx hb dL_acts_763 (by decide) (fun _ => ?_) (fun h9 => absurd hb4 h9)
    refine lv_iload hx hb dL_acts_771 (lv_at hl 0 rfl) ?_
    refine lv_icmp_ne (tgt := 780) hx hb dL_acts_773 (by decide) (fun h9 => absurd rfl h9) (fun _ => ?_)
    refine lv_iconst (v := 1) hx hb dL_acts_776 (by decide) ?_
    refine lv_goto (tgt := 781) hx hb dL_acts_777 (by decide) ?_
    exact K 781 dL_acts_781 (u1, (ga, wa, (upd la mm (-1)), ra)) _ _ H locs ls (by omega) (by omega) ⟨_, _, _, ⟨hC1, AG_lead hAG h8 hmm _, htx, l8_upd hl8 (by decide)⟩, pwr_1' hu, hrg1⟩ hP hS
set_option maxHeartbeats 4000000 in
set_option maxRecDepth 100000 in
theorem ac_can (C : acC p l s m meth c args D cy g B A) (F : soF v tx ga wa la ra sg n r) (hp : pwr st sg w) (hrg : ring z s0 s1 s2 s3 y0 y8) {V wy : Nat} {x5 : Int32} {mm : Nat} {tt : Nat} {cq sq : Nat} {H : Heap} {locs : List Loc} (hmm : mm < n) (htt : tt < n) (hP : va_P D vwCl (List.flatten [(wPCo p70 b7 c7 d7 e7 h7 k7 st), (wSet cy b7 v), (wSav cy q h7 z), (wSet cy (q 0) s0), (wSet cy (q 1) s1), (wSet cy (q 2) s2), (wSet cy (q 3) s3), (wI cy gA0 3 ga), (wI cy wA0 8 wa), (wI cy lA0 8 la), (wI cy rA0 4 ra)]) H) (hD : va_D A (List.flatten [(wPCo p70 b7 c7 d7 e7 h7 k7 st), (wSet cy b7 v), (wSav cy q h7 z), (wSet cy (q 0) s0), (wSet cy (q 1) s1), (wSet cy (q 2) s2), (wSet cy (q 3) s3), (wI cy gA0 3 ga), (wI cy wA0 8 wa), (wI cy lA0 8 la), (wI cy rA0 4 ra)])) (hS : va_S A s.heap H locs) (K : ∀ (ls : Array Slot), lv_has ls 13 [(12, .int (nI n)), (10, .int (bI (caB sg mm tt n))), (11, .int (nI (fsN sg mm tt n))), (9, .int (nI tt)), (8, .int (nI mm)), (6, .int (nI V)), (7, .int (nI wy)), (5, .int x5), (0, .ref p70), (1, .ref gA0), (2, .ref wA0), (3, .ref lA0), (4, .ref rA0)] → W p l e actR s m args below meth c H locs cq sq Q (F0 m 697 ls [])) : ∀ (fu i : Nat) (ls : Array Slot), n - i < fu → i ≤ n → lv_has ls 13 [(12, .int (nI i)), (10, .int (bI (caB sg mm tt i))), (11, .int (nI (fsN sg mm tt i))), (9, .int (nI tt)), (8, .int (nI mm)), (6, .int (nI V)), (7, .int (nI wy)), (5, .int x5), (0, .ref p70), (1, .ref gA0), (2, .ref wA0), (3, .ref lA0), (4, .ref rA0)] → W p l e actR s m args below meth c H locs cq sq Q (F0 m 633 ls [])
  | 0, _, _ => fun h => absurd h (Nat.not_lt_zero _)
  | fu + 1, i, ls => by
    intro hfu hin hl
    have C0 := C
    have FF0 := F
    obtain ⟨hl0, hx, hb, hr9, hml, hown, hts, hlk, hK0, hNc, hAB⟩ := C
    obtain ⟨CHH, hAG, htx, hl8⟩ := F
    have hN := CHH.2.1
    have hL := CHH.2.2.1
    have hW := CHH.2.2.2.1
    have hR := CHH.2.2.2.2.1
    have h8 : n ≤ 8 := hN.2.1
    have hr4 : r ≤ 4 := hN.2.2.2
    have S := my_fix hx hb hml hown hts
    refine lv_iload hx hb dL_acts_633 (lv_at hl 0 rfl) ?_
    refine lv_aload_n hx hb dL_acts_635 rfl (lv_at hl 9 rfl) ?_
    refine lv_iconst (v := 0) hx hb dL_acts_636 (by decide) ?_
    refine wk_ia hx hb hK0.1 hP 48 0 (k := 0) (v := (nI n)) rfl rfl (by decide) (by decide) hAG.1 dL_acts_637 ?_
    rcases Nat.lt_or_ge i n with hi | hi
    · refine lv_icmp_ge (tgt := 697) hx hb dL_acts_638 (by decide) (fun h9 => absurd h9 (nI_ge hi (by omega))) (fun _ => ?_)
      refine lv_iload hx hb dL_acts_641 (lv_at hl 1 rfl) ?_
      cases hc : caB sg mm tt i
      · refine lv_if_eq (tgt := 659) hx hb dL_acts_643 (by decide) (fun _ => ?_) (fun h9 => absurd (show bI false = 0 from rfl) h9)
        refine lv_iconst (v := 0) hx hb dL_acts_659 (by decide) ?_
        refine wk_ti (x := 0) (v := (bI (caB sg mm tt (i + 1)))) (by rw [caB_s, hc]; rfl) ?_
        refine lv_istore (lv' := [(10, .int (bI (caB sg mm tt (i + 1)))), (12, .int (nI i)), (11, .int (nI (fsN sg mm tt i))), (9, .int (nI tt)), (8, .int (nI mm)), (6, .int (nI V)), (7, .int (nI wy)), (5, .int x5), (0, .ref p70), (1, .ref gA0), (2, .ref wA0), (3, .ref lA0), (4, .ref rA0)]) hx hb dL_acts_660 hl (by decide) rfl (fun ls hl => ?_)
        refine lv_iload hx hb dL_acts_662 (lv_at hl 2 rfl) ?_
        refine lv_iload hx hb dL_acts_664 (lv_at hl 1 rfl) ?_
        refine lv_iload hx hb dL_acts_666 (lv_at hl 3 rfl) ?_
        by_cases hit : i = tt
        · refine lv_icmp_eq (tgt := 680) hx hb dL_acts_668 (by decide) (fun _ => ?_) (fun h9 => absurd (by rw [hit]) h9)
          refine lv_aload_n hx hb dL_acts_680 rfl (lv_at hl 10 rfl) ?_
          refine lv_iload hx hb dL_acts_681 (lv_at hl 1 rfl) ?_
          refine wk_ia hx hb hK0.1 hP 49 0 (k := i) (v := (nI (wN sg i))) rfl rfl (by omega) (by decide) ((hAG.2.2.2.1 i hi).trans (wN_eq hW hi).1) dL_acts_683 ?_
          refine lv_goto (tgt := 688) hx hb dL_acts_684 (by decide) ?_
          refine lv_iadd hx hb dL_acts_688 ?_
          refine wk_ti (x := ((nI (fsN sg mm tt i)) + (nI (wN sg i)))) (v := (nI (fsN sg mm tt (i + 1)))) (by rw [fsN_s, if_pos (by rw [decide_eq_true hit]; rfl)]; exact nI_add _ _) ?_
          refine lv_istore (lv' := [(11, .int (nI (fsN sg mm tt (i + 1)))), (10, .int (bI (caB sg mm tt (i + 1)))), (12, .int (nI i)), (9, .int (nI tt)), (8, .int (nI mm)), (6, .int (nI V)), (7, .int (nI wy)), (5, .int x5), (0, .ref p70), (1, .ref gA0), (2, .ref wA0), (3, .ref lA0), (4, .ref rA0)]) hx hb dL_acts_689 hl (by decide) rfl (fun ls hl => ?_)
          refine lv_iinc (v := (nI (i + 1))) (lv' := [(12, .int (nI (i + 1))), (11, .int (nI (fsN sg mm tt (i + 1)))), (10, .int (bI (caB sg mm tt (i + 1)))), (9, .int (nI tt)), (8, .int (nI mm)), (6, .int (nI V)), (7, .int (nI wy)), (5, .int x5), (0, .ref p70), (1, .ref gA0), (2, .ref wA0), (3, .ref lA0), (4, .ref rA0)]) hx hb dL_acts_691 hl (k := 2) rfl (nI_1 i) (by decide) rfl (fun ls hl => ?_)
          refine lv_goto (tgt := 633) hx hb dL_acts_694 (by decide) ?_
          exact ac_can C0 FF0 hp hrg hmm htt hP hD hS K fu (i + 1) ls (by omega) (by omega) (lv_sub hl [0, 2, 1, 3, 4, 5, 6, 7, 8, 9, 10, 11, 12] rfl)
        · refine lv_icmp_eq (tgt := 680) hx hb dL_acts_668 (by decide) (fun h9 => absurd h9 (fun z => hit ((iV (by omega) (by omega)).mp z))) (fun _ => ?_)
          refine lv_aload_n hx hb dL_acts_671 rfl (lv_at hl 11 rfl) ?_
          refine lv_iload hx hb dL_acts_672 (lv_at hl 1 rfl) ?_
          refine wk_ia hx hb hK0.1 hP 50 0 (k := i) (v := (sg (11 + i))) rfl rfl (by omega) (by decide) (hAG.2.2.2.2.1 i hi) dL_acts_674 ?_
          refine lv_iload hx hb dL_acts_675 (lv_at hl 3 rfl) ?_
          by_cases hlt : sg (11 + i) = nI tt
          · refine lv_icmp_ne (tgt := 687) hx hb dL_acts_677 (by decide) (fun h9 => absurd hlt h9) (fun _ => ?_)
            refine lv_aload_n hx hb dL_acts_680 rfl (lv_at hl 10 rfl) ?_
            refine lv_iload hx hb dL_acts_681 (lv_at hl 1 rfl) ?_
            refine wk_ia hx hb hK0.1 hP 49 0 (k := i) (v := (nI (wN sg i))) rfl rfl (by omega) (by decide) ((hAG.2.2.2.1 i hi).trans (wN_eq hW hi).1) dL_acts_683 ?_
            refine lv_goto (tgt := 688) hx hb dL_acts_684 (by decide) ?_
            refine lv_iadd hx hb dL_acts_688 ?_
            refine wk_ti (x := ((nI (fsN sg mm tt i)) + (nI (wN sg i)))) (v := (nI (fsN sg mm tt (i + 1)))) (by rw [fsN_s, if_pos (by rw [decide_eq_true hlt, Bool.or_true])]; exact nI_add _ _) ?_
            refine lv_istore (lv' := [(11, .int (nI (fsN sg mm tt (i + 1)))), (10, .int (bI (caB sg mm tt (i + 1)))), (12, .int (nI i)), (9, .int (nI tt)), (8, .int (nI mm)), (6, .int (nI V)), (7, .int (nI wy)), (5, .int x5), (0, .ref p70), (1, .ref gA0), (2, .ref wA0), (3, .ref lA0), (4, .ref rA0)]) hx hb dL_acts_689 hl (by decide) rfl (fun ls hl => ?_)
            refine lv_iinc (v := (nI (i + 1))) (lv' := [(12, .int (nI (i + 1))), (11, .int (nI (fsN sg mm tt (i + 1)))), (10, .int (bI (caB sg mm tt (i + 1)))), (9, .int (nI tt)), (8, .int (nI mm)), (6, .int (nI V)), (7, .int (nI wy)), (5, .int x5), (0, .ref p70), (1, .ref gA0), (2, .ref wA0), (3, .ref lA0), (4, .ref rA0)]) hx hb dL_acts_691 hl (k := 2) rfl (nI_1 i) (by decide) rfl (fun ls hl => ?_)
            refine lv_goto (tgt := 633) hx hb dL_acts_694 (by decide) ?_
            exact ac_can C0 FF0 hp hrg hmm htt hP hD hS K fu (i + 1) ls (by omega) (by omega) (lv_sub hl [0, 2, 1, 3, 4, 5, 6, 7, 8, 9, 10, 11, 12] rfl)
          · refine lv_icmp_ne (tgt := 687) hx hb dL_acts_677 (by decide) (fun _ => ?_) (fun h9 => absurd h9 hlt)
            refine lv_iconst (v := 0) hx hb dL_acts_687 (by decide) ?_
            refine lv_iadd hx hb dL_acts_688 ?_
            refine wk_ti (x := ((nI (fsN sg mm tt i)) + 0)) (v := (nI (fsN sg mm tt (i + 1)))) (by rw [fsN_s, if_neg (by rw [decide_eq_false hit, decide_eq_false hlt]; decide)]; exact Int32.add_zero _) ?_
            refine lv_istore (lv' := [(11, .int (nI (fsN sg mm tt (i + 1)))), (10, .int (bI (caB sg mm tt (i + 1)))), (12, .int (nI i)), (9, .int (nI tt)), (8, .int (nI mm)), (6, .int (nI V)), (7, .int (nI wy)), (5, .int x5), (0, .ref p70), (1, .ref gA0), (2, .ref wA0), (3, .ref lA0), (4, .ref rA0)]) hx hb dL_acts_689 hl (by decide) rfl (fun ls hl => ?_)
            refine lv_iinc (v := (nI (i + 1))) (lv' := [(12, .int (nI (i + 1))), (11, .int (nI (fsN sg mm tt (i + 1)))), (10, .int (bI (caB sg mm tt (i + 1)))), (9, .int (nI tt)), (8, .int (nI mm)), (6, .int (nI V)), (7, .int (nI wy)), (5, .int x5), (0, .ref p70), (1, .ref gA0), (2, .ref wA0), (3, .ref lA0), (4, .ref rA0)]) hx hb dL_acts_691 hl (k := 2) rfl (nI_1 i) (by decide) rfl (fun ls hl => ?_)
            refine lv_goto (tgt := 633) hx hb dL_acts_694 (by decide) ?_
            exact ac_can C0 FF0 hp hrg hmm htt hP hD hS K fu (i + 1) ls (by omega) (by omega) (lv_sub hl [0, 2, 1, 3, 4, 5, 6, 7, 8, 9, 10, 11, 12] rfl)
      · refine lv_if_eq (tgt := 659) hx hb dL_acts_643 (by decide) (fun h9 => absurd h9 (show ¬ bI true = 0 by decide)) (fun _ => ?_)
        refine lv_aload_n hx hb dL_acts_646 rfl (lv_at hl 11 rfl) ?_
        refine lv_iload hx hb dL_acts_647 (lv_at hl 0 rfl) ?_
        refine wk_ia hx hb hK0.1 hP 50 0 (k := i) (v := (sg (11 + i))) rfl rfl (by omega) (by decide) (hAG.2.2.2.2.1 i hi) dL_acts_649 ?_
        refine lv_iload hx hb dL_acts_650 (lv_at hl 4 rfl) ?_
        by_cases hd : sg (11 + i) = nI mm
        · refine lv_icmp_eq (tgt := 659) hx hb dL_acts_652 (by decide) (fun _ => ?_) (fun h9 => absurd hd h9)
          refine lv_iconst (v := 0) hx hb dL_acts_659 (by decide) ?_
          refine wk_ti (x := 0) (v := (bI (caB sg mm tt (i + 1)))) (by rw [caB_s, hc, decide_eq_true hd]; rfl) ?_
          refine lv_istore (lv' := [(10, .int (bI (caB sg mm tt (i + 1)))), (12, .int (nI i)), (11, .int (nI (fsN sg mm tt i))), (9, .int (nI tt)), (8, .int (nI mm)), (6, .int (nI V)), (7, .int (nI wy)), (5, .int x5), (0, .ref p70), (1, .ref gA0), (2, .ref wA0), (3, .ref lA0), (4, .ref rA0)]) hx hb dL_acts_660 hl (by decide) rfl (fun ls hl => ?_)
          refine lv_iload hx hb dL_acts_662 (lv_at hl 2 rfl) ?_
          refine lv_iload hx hb dL_acts_664 (lv_at hl 1 rfl) ?_
          refine lv_iload hx hb dL_acts_666 (lv_at hl 3 rfl) ?_
          by_cases hit : i = tt
          · refine lv_icmp_eq (tgt := 680) hx hb dL_acts_668 (by decide) (fun _ => ?_) (fun h9 => absurd (by rw [hit]) h9)
            refine lv_aload_n hx hb dL_acts_680 rfl (lv_at hl 10 rfl) ?_
            refine lv_iload hx hb dL_acts_681 (lv_at hl 1 rfl) ?_
            refine wk_ia hx hb hK0.1 hP 49 0 (k := i) (v := (nI (wN sg i))) rfl rfl (by omega) (by decide) ((hAG.2.2.2.1 i hi).trans (wN_eq hW hi).1) dL_acts_683 ?_
            refine lv_goto (tgt := 688) hx hb dL_acts_684 (by decide) ?_
            refine lv_iadd hx hb dL_acts_688 ?_
            refine wk_ti (x := ((nI (fsN sg mm tt i)) + (nI (wN sg i)))) (v := (nI (fsN sg mm tt (i + 1)))) (by rw [fsN_s, if_pos (by rw [decide_eq_true hit]; rfl)]; exact nI_add _ _) ?_
            refine lv_istore (lv' := [(11, .int (nI (fsN sg mm tt (i + 1)))), (10, .int (bI (caB sg mm tt (i + 1)))), (12, .int (nI i)), (9, .int (nI tt)), (8, .int (nI mm)), (6, .int (nI V)), (7, .int (nI wy)), (5, .int x5), (0, .ref p70), (1, .ref gA0), (2, .ref wA0), (3, .ref lA0), (4, .ref rA0)]) hx hb dL_acts_689 hl (by decide) rfl (fun ls hl => ?_)
            refine lv_iinc (v := (nI (i + 1))) (lv' := [(12, .int (nI (i + 1))), (11, .int (nI (fsN sg mm tt (i + 1)))), (10, .int (bI (caB sg mm tt (i + 1)))), (9, .int (nI tt)), (8, .int (nI mm)), (6, .int (nI V)), (7, .int (nI wy)), (5, .int x5), (0, .ref p70), (1, .ref gA0), (2, .ref wA0), (3, .ref lA0), (4, .ref rA0)]) hx hb dL_acts_691 hl (k := 2) rfl (nI_1 i) (by decide) rfl (fun ls hl => ?_)
            refine lv_goto (tgt := 633) hx hb dL_acts_694 (by decide) ?_
            exact ac_can C0 FF0 hp hrg hmm htt hP hD hS K fu (i + 1) ls (by omega) (by omega) (lv_sub hl [0, 2, 1, 3, 4, 5, 6, 7, 8, 9, 10, 11, 12] rfl)
          · refine lv_icmp_eq (tgt := 680) hx hb dL_acts_668 (by decide) (fun h9 => absurd h9 (fun z => hit ((iV (by omega) (by omega)).mp z))) (fun _ => ?_)
            refine lv_aload_n hx hb dL_acts_671 rfl (lv_at hl 11 rfl) ?_
            refine lv_iload hx hb dL_acts_672 (lv_at hl 1 rfl) ?_
            refine wk_ia hx hb hK0.1 hP 50 0 (k := i) (v := (sg (11 + i))) rfl rfl (by omega) (by decide) (hAG.2.2.2.2.1 i hi) dL_acts_674 ?_
            refine lv_iload hx hb dL_acts_675 (lv_at hl 3 rfl) ?_
            by_cases hlt : sg (11 + i) = nI tt
            · refine lv_icmp_ne (tgt := 687) hx hb dL_acts_677 (by decide) (fun h9 => absurd hlt h9) (fun _ => ?_)
              refine lv_aload_n hx hb dL_acts_680 rfl (lv_at hl 10 rfl) ?_
              refine lv_iload hx hb dL_acts_681 (lv_at hl 1 rfl) ?_
              refine wk_ia hx hb hK0.1 hP 49 0 (k := i) (v := (nI (wN sg i))) rfl rfl (by omega) (by decide) ((hAG.2.2.2.1 i hi).trans (wN_eq hW hi).1) dL_acts_683 ?_
              refine lv_goto (tgt := 688) hx hb dL_acts_684 (by decide) ?_
              refine lv_iadd hx hb dL_acts_688 ?_
              refine wk_ti (x := ((nI (fsN sg mm tt i)) + (nI (wN sg i)))) (v := (nI (fsN sg mm tt (i + 1)))) (by rw [fsN_s, if_pos (by rw [decide_eq_true hlt, Bool.or_true])]; exact nI_add _ _) ?_
              refine lv_istore (lv' := [(11, .int (nI (fsN sg mm tt (i + 1)))), (10, .int (bI (caB sg mm tt (i + 1)))), (12, .int (nI i)), (9, .int (nI tt)), (8, .int (nI mm)), (6, .int (nI V)), (7, .int (nI wy)), (5, .int x5), (0, .ref p70), (1, .ref gA0), (2, .ref wA0), (3, .ref lA0), (4, .ref rA0)]) hx hb dL_acts_689 hl (by decide) rfl (fun ls hl => ?_)
              refine lv_iinc (v := (nI (i + 1))) (lv' := [(12, .int (nI (i + 1))), (11, .int (nI (fsN sg mm tt (i + 1)))), (10, .int (bI (caB sg mm tt (i + 1)))), (9, .int (nI tt)), (8, .int (nI mm)), (6, .int (nI V)), (7, .int (nI wy)), (5, .int x5), (0, .ref p70), (1, .ref gA0), (2, .ref wA0), (3, .ref lA0), (4, .ref rA0)]) hx hb dL_acts_691 hl (k := 2) rfl (nI_1 i) (by decide) rfl (fun ls hl => ?_)
              refine lv_goto (tgt := 633) hx hb dL_acts_694 (by decide) ?_
              exact ac_can C0 FF0 hp hrg hmm htt hP hD hS K fu (i + 1) ls (by omega) (by omega) (lv_sub hl [0, 2, 1, 3, 4, 5, 6, 7, 8, 9, 10, 11, 12] rfl)
            · refine lv_icmp_ne (tgt := 687) hx hb dL_acts_677 (by decide) (fun _ => ?_) (fun h9 => absurd h9 hlt)
              refine lv_iconst (v := 0) hx hb dL_acts_687 (by decide) ?_
              refine lv_iadd hx hb dL_acts_688 ?_
              refine wk_ti (x := ((nI (fsN sg mm tt i)) + 0)) (v := (nI (fsN sg mm tt (i + 1)))) (by rw [fsN_s, if_neg (by rw [decide_eq_false hit, decide_eq_false hlt]; decide)]; exact Int32.add_zero _) ?_
              refine lv_istore (lv' := [(11, .int (nI (fsN sg mm tt (i + 1)))), (10, .int (bI (caB sg mm tt (i + 1)))), (12, .int (nI i)), (9, .int (nI tt)), (8, .int (nI mm)), (6, .int (nI V)), (7, .int (nI wy)), (5, .int x5), (0, .ref p70), (1, .ref gA0), (2, .ref wA0), (3, .ref lA0), (4, .ref rA0)]) hx hb dL_acts_689 hl (by decide) rfl (fun ls hl => ?_)
              refine lv_iinc (v := (nI (i + 1))) (lv' := [(12, .int (nI (i + 1))), (11, .int (nI (fsN sg mm tt (i + 1)))), (10, .int (bI (caB sg mm tt (i + 1)))), (9, .int (nI tt)), (8, .int (nI mm)), (6, .int (nI V)), (7, .int (nI wy)), (5, .int x5), (0, .ref p70), (1, .ref gA0), (2, .ref wA0), (3, .ref lA0), (4, .ref rA0)]) hx hb dL_acts_691 hl (k := 2) rfl (nI_1 i) (by decide) rfl (fun ls hl => ?_)
              refine lv_goto (tgt := 633) hx hb dL_acts_694 (by decide) ?_
              exact ac_can C0 FF0 hp hrg hmm htt hP hD hS K fu (i + 1) ls (by omega) (by omega) (lv_sub hl [0, 2, 1, 3, 4, 5, 6, 7, 8, 9, 10, 11, 12] rfl)
        · refine lv_icmp_eq (tgt := 659) hx hb dL_acts_652 (by decide) (fun h9 => absurd h9 hd) (fun _ => ?_)
          refine lv_iconst (v := 1) hx hb dL_acts_655 (by decide) ?_
          refine lv_goto (tgt := 660) hx hb dL_acts_656 (by decide) ?_
          refine wk_ti (x := 1) (v := (bI (caB sg mm tt (i + 1)))) (by rw [caB_s, hc, decide_eq_false hd]; rfl) ?_
          refine lv_istore (lv' := [(10, .int (bI (caB sg mm tt (i + 1)))), (12, .int (nI i)), (11, .int (nI (fsN sg mm tt i))), (9, .int (nI tt)), (8, .int (nI mm)), (6, .int (nI V)), (7, .int (nI wy)), (5, .int x5), (0, .ref p70), (1, .ref gA0), (2, .ref wA0), (3, .ref lA0), (4, .ref rA0)]) hx hb dL_acts_660 hl (by decide) rfl (fun ls hl => ?_)
          refine lv_iload hx hb dL_acts_662 (lv_at hl 2 rfl) ?_
          refine lv_iload hx hb dL_acts_664 (lv_at hl 1 rfl) ?_
          refine lv_iload hx hb dL_acts_666 (lv_at hl 3 rfl) ?_
          by_cases hit : i = tt
          · refine lv_icmp_eq (tgt := 680) hx hb dL_acts_668 (by decide) (fun _ => ?_) (fun h9 => absurd (by rw [hit]) h9)
            refine lv_aload_n hx hb dL_acts_680 rfl (lv_at hl 10 rfl) ?_
            refine lv_iload hx hb dL_acts_681 (lv_at hl 1 rfl) ?_
            refine wk_ia hx hb hK0.1 hP 49 0 (k := i) (v := (nI (wN sg i))) rfl rfl (by omega) (by decide) ((hAG.2.2.2.1 i hi).trans (wN_eq hW hi).1) dL_acts_683 ?_
            refine lv_goto (tgt := 688) hx hb dL_acts_684 (by decide) ?_
            refine lv_iadd hx hb dL_acts_688 ?_
            refine wk_ti (x := ((nI (fsN sg mm tt i)) + (nI (wN sg i)))) (v := (nI (fsN sg mm tt (i + 1)))) (by rw [fsN_s, if_pos (by rw [decide_eq_true hit]; rfl)]; exact nI_add _ _) ?_
            refine lv_istore (lv' := [(11, .int (nI (fsN sg mm tt (i + 1)))), (10, .int (bI (caB sg mm tt (i + 1)))), (12, .int (nI i)), (9, .int (nI tt)), (8, .int (nI mm)), (6, .int (nI V)), (7, .int (nI wy)), (5, .int x5), (0, .ref p70), (1, .ref gA0), (2, .ref wA0), (3, .ref lA0), (4, .ref rA0)]) hx hb dL_acts_689 hl (by decide) rfl (fun ls hl => ?_)
            refine lv_iinc (v := (nI (i + 1))) (lv' := [(12, .int (nI (i + 1))), (11, .int (nI (fsN sg mm tt (i + 1)))), (10, .int (bI (caB sg mm tt (i + 1)))), (9, .int (nI tt)), (8, .int (nI mm)), (6, .int (nI V)), (7, .int (nI wy)), (5, .int x5), (0, .ref p70), (1, .ref gA0), (2, .ref wA0), (3, .ref lA0), (4, .ref rA0)]) hx hb dL_acts_691 hl (k := 2) rfl (nI_1 i) (by decide) rfl (fun ls hl => ?_)
            refine lv_goto (tgt := 633) hx hb dL_acts_694 (by decide) ?_
            exact ac_can C0 FF0 hp hrg hmm htt hP hD hS K fu (i + 1) ls (by omega) (by omega) (lv_sub hl [0, 2, 1, 3, 4, 5, 6, 7, 8, 9, 10, 11, 12] rfl)
          · refine lv_icmp_eq (tgt := 680) hx hb dL_acts_668 (by decide) (fun h9 => absurd h9 (fun z => hit ((iV (by omega) (by omega)).mp z))) (fun _ => ?_)
            refine lv_aload_n hx hb dL_acts_671 rfl (lv_at hl 11 rfl) ?_
            refine lv_iload hx hb dL_acts_672 (lv_at hl 1 rfl) ?_
            refine wk_ia hx hb hK0.1 hP 50 0 (k := i) (v := (sg (11 + i))) rfl rfl (by omega) (by decide) (hAG.2.2.2.2.1 i hi) dL_acts_674 ?_
            refine lv_iload hx hb dL_acts_675 (lv_at hl 3 rfl) ?_
            by_cases hlt : sg (11 + i) = nI tt
            · refine lv_icmp_ne (tgt := 687) hx hb dL_acts_677 (by decide) (fun h9 => absurd hlt h9) (fun _ => ?_)
              refine lv_aload_n hx hb dL_acts_680 rfl (lv_at hl 10 rfl) ?_
              refine lv_iload hx hb dL_acts_681 (lv_at hl 1 rfl) ?_
              refine wk_ia hx hb hK0.1 hP 49 0 (k := i) (v := (nI (wN sg i))) rfl rfl (by omega) (by decide) ((hAG.2.2.2.1 i hi).trans (wN_eq hW hi).1) dL_acts_683 ?_
              refine lv_goto (tgt := 688) hx hb dL_acts_684 (by decide) ?_
              refine lv_iadd hx hb dL_acts_688 ?_
              refine wk_ti (x := ((nI (fsN sg mm tt i)) + (nI (wN sg i)))) (v := (nI (fsN sg mm tt (i + 1)))) (by rw [fsN_s, if_pos (by rw [decide_eq_true hlt, Bool.or_true])]; exact nI_add _ _) ?_
              refine lv_istore (lv' := [(11, .int (nI (fsN sg mm tt (i + 1)))), (10, .int (bI (caB sg mm tt (i + 1)))), (12, .int (nI i)), (9, .int (nI tt)), (8, .int (nI mm)), (6, .int (nI V)), (7, .int (nI wy)), (5, .int x5), (0, .ref p70), (1, .ref gA0), (2, .ref wA0), (3, .ref lA0), (4, .ref rA0)]) hx hb dL_acts_689 hl (by decide) rfl (fun ls hl => ?_)
              refine lv_iinc (v := (nI (i + 1))) (lv' := [(12, .int (nI (i + 1))), (11, .int (nI (fsN sg mm tt (i + 1)))), (10, .int (bI (caB sg mm tt (i + 1)))), (9, .int (nI tt)), (8, .int (nI mm)), (6, .int (nI V)), (7, .int (nI wy)), (5, .int x5), (0, .ref p70), (1, .ref gA0), (2, .ref wA0), (3, .ref lA0), (4, .ref rA0)]) hx hb dL_acts_691 hl (k := 2) rfl (nI_1 i) (by decide) rfl (fun ls hl => ?_)
              refine lv_goto (tgt := 633) hx hb dL_acts_694 (by decide) ?_
              exact ac_can C0 FF0 hp hrg hmm htt hP hD hS K fu (i + 1) ls (by omega) (by omega) (lv_sub hl [0, 2, 1, 3, 4, 5, 6, 7, 8, 9, 10, 11, 12] rfl)
            · refine lv_icmp_ne (tgt := 687) hx hb dL_acts_677 (by decide) (fun _ => ?_) (fun h9 => absurd h9 hlt)
              refine lv_iconst (v := 0) hx hb dL_acts_687 (by decide) ?_
              refine lv_iadd hx hb dL_acts_688 ?_
              refine wk_ti (x := ((nI (fsN sg mm tt i)) + 0)) (v := (nI (fsN sg mm tt (i + 1)))) (by rw [fsN_s, if_neg (by rw [decide_eq_false hit, decide_eq_false hlt]; decide)]; exact Int32.add_zero _) ?_
              refine lv_istore (lv' := [(11, .int (nI (fsN sg mm tt (i + 1)))), (10, .int (bI (caB sg mm tt (i + 1)))), (12, .int (nI i)), (9, .int (nI tt)), (8, .int (nI mm)), (6, .int (nI V)), (7, .int (nI wy)), (5, .int x5), (0, .ref p70), (1, .ref gA0), (2, .ref wA0), (3, .ref lA0), (4, .ref rA0)]) hx hb dL_acts_689 hl (by decide) rfl (fun ls hl => ?_)
              refine lv_iinc (v := (nI (i + 1))) (lv' := [(12, .int (nI (i + 1))), (11, .int (nI (fsN sg mm tt (i + 1)))), (10, .int (bI (caB sg mm tt (i + 1)))), (9, .int (nI tt)), (8, .int (nI mm)), (6, .int (nI V)), (7, .int (nI wy)), (5, .int x5), (0, .ref p70), (1, .ref gA0), (2, .ref wA0), (3, .ref lA0), (4, .ref rA0)]) hx hb dL_acts_691 hl (k := 2) rfl (nI_1 i) (by decide) rfl (fun ls hl => ?_)
              refine lv_goto (tgt := 633) hx hb dL_acts_694 (by decide) ?_
              exact ac_can C0 FF0 hp hrg hmm htt hP hD hS K fu (i + 1) ls (by omega) (by omega) (lv_sub hl [0, 2, 1, 3, 4, 5, 6, 7, 8, 9, 10, 11, 12] rfl)
    · have e : i = n := by omega
      subst e
      refine lv_icmp_ge (tgt := 697) hx hb dL_acts_638 (by decide) (fun _ => ?_) (fun h9 => absurd (nI_le (Nat.le_refl _) (by omega)) h9)
      exact K ls (lv_sub hl [0, 1, 2, 3, 4, 5, 6, 7, 8, 9, 10, 11, 12] rfl)
set_option maxHeartbeats 4000000 in
set_option maxRecDepth 100000 in
theorem ac_follow2 (C : acC p l s m meth c args D cy g B A) (F : soF v tx ga wa la ra sg n r) (hp : pwr st sg w) (hrg : ring z s0 s1 s2 s3 y0 y8) {V wy : Nat} {x5 : Int32} {mm : Nat} {tt : Nat} {cq sq : Nat} {H : Heap} {locs : List Loc} {ls : Array Slot} (hV : V < 10000000) (hmm : mm < n) (htt : tt < n) (hne : ¬ mm = tt) (hcq : cq ≤ 0) (hsq : sq ≤ 0) (hP : va_P D vwCl (List.flatten [(wPCo p70 b7 c7 d7 e7 h7 k7 st), (wSet cy b7 v), (wSav cy q h7 z), (wSet cy (q 0) s0), (wSet cy (q 1) s1), (wSet cy (q 2) s2), (wSet cy (q 3) s3), (wI cy gA0 3 ga), (wI cy wA0 8 wa), (wI cy lA0 8 la), (wI cy rA0 4 ra)]) H) (hD : va_D A (List.flatten [(wPCo p70 b7 c7 d7 e7 h7 k7 st), (wSet cy b7 v), (wSav cy q h7 z), (wSet cy (q 0) s0), (wSet cy (q 1) s1), (wSet cy (q 2) s2), (wSet cy (q 3) s3), (wI cy gA0 3 ga), (wI cy wA0 8 wa), (wI cy lA0 8 la), (wI cy rA0 4 ra)])) (hS : va_S A s.heap H locs) (hl : lv_has ls 13 [(11, .int (nI (wN sg mm))), (10, .int (bI (caB sg mm tt 0))), (9, .int (nI tt)), (8, .int (nI mm)), (6, .int (nI V)), (7, .int (nI wy)), (5, .int x5), (0, .ref p70), (1, .ref gA0), (2, .ref wA0), (3, .ref lA0), (4, .ref rA0)])
    (K : ∀ (pc : Nat), decode cL_acts pc = .ok (.ireturn, 1) → ∀ (u : ActU) (cq sq : Nat) (H : Heap) (locs : List Loc) (ls : Array Slot), cq ≤ 6 → sq ≤ 36 → actOK tx w u → va_P D vwCl (List.flatten [(wPCo p70 b7 c7 d7 e7 h7 k7 u.1.1), (wSet cy b7 u.1.2.1), (wSav cy q h7 u.1.2.2.1), (wSet cy (q 0) u.1.2.2.2.1), (wSet cy (q 1) u.1.2.2.2.2.1), (wSet cy (q 2) u.1.2.2.2.2.2.1), (wSet cy (q 3) u.1.2.2.2.2.2.2), (wI cy gA0 3 u.2.1), (wI cy wA0 8 u.2.2.1), (wI cy lA0 8 u.2.2.2.1), (wI cy rA0 4 u.2.2.2.2)]) H → va_S A s.heap H locs → W p l e actR s m args below meth c H locs cq sq Q (F0 m pc ls [.int 1])) : W p l e actR s m args below meth c H locs cq sq Q (F0 m 630 ls []) := by
  have FF0 := F
  obtain ⟨hl0, hx, hb, hr9, hml, hown, hts, hlk, hK0, hNc, hAB⟩ := C
  obtain ⟨CHH, hAG, htx, hl8⟩ := F
  have hN := CHH.2.1
  have hL := CHH.2.2.1
  have hW := CHH.2.2.2.1
  have hR := CHH.2.2.2.2.1
  have h8 : n ≤ 8 := hN.2.1
  have hr4 : r ≤ 4 := hN.2.2.2
  have S := my_fix hx hb hml hown hts
  have C0 : acC p l s m meth c args D cy g B A := ⟨hl0, hx, hb, hr9, hml, hown, hts, hlk, hK0, hNc, hAB⟩
  refine lv_iconst (v := 0) hx hb dL_acts_630 (by decide) ?_
  refine lv_istore (lv' := [(12, .int 0), (11, .int (nI (wN sg mm))), (10, .int (bI (caB sg mm tt 0))), (9, .int (nI tt)), (8, .int (nI mm)), (6, .int (nI V)), (7, .int (nI wy)), (5, .int x5), (0, .ref p70), (1, .ref gA0), (2, .ref wA0), (3, .ref lA0), (4, .ref rA0)]) hx hb dL_acts_631 hl (by decide) rfl (fun ls hl => ?_)
  refine ac_can (V := V) C0 FF0 hp hrg hmm htt hP hD hS (fun ls hl => ?_) (n + 1) 0 ls (by omega) (Nat.zero_le _) (lv_sub hl [0, 2, 1, 3, 4, 5, 6, 7, 8, 9, 10, 11, 12] rfl)
  refine lv_aload_n hx hb dL_acts_697 rfl (lv_at hl 11 rfl) ?_
  refine lv_iload hx hb dL_acts_698 (lv_at hl 4 rfl) ?_
  refine lv_iload hx hb dL_acts_700 (lv_at hl 1 rfl) ?_
  cases hc : caB sg mm tt n
  · refine lv_if_eq (tgt := 710) hx hb dL_acts_702 (by decide) (fun _ => ?_) (fun h9 => absurd (show bI false = 0 from rfl) h9)
    refine lv_aload_n hx hb dL_acts_710 rfl (lv_at hl 11 rfl) ?_
    refine lv_iload hx hb dL_acts_711 (lv_at hl 4 rfl) ?_
    refine wk_ia hx hb hK0.1 hP 50 0 (k := mm) (v := (sg (11 + mm))) rfl rfl (by omega) (by decide) (hAG.2.2.2.2.1 mm hmm) dL_acts_713 ?_
    refine wk_ast hx hb hK0.1 hP hD hS 50 0 (k := mm) (x := (sg (11 + mm))) rfl rfl (by omega) (by decide) dL_acts_714 (fun H locs hP hD hS => ?_)
    have hP : va_P D vwCl (List.flatten [(wPCo p70 b7 c7 d7 e7 h7 k7 st), (wSet cy b7 v), (wSav cy q h7 z), (wSet cy (q 0) s0), (wSet cy (q 1) s1), (wSet cy (q 2) s2), (wSet cy (q 3) s3), (wI cy gA0 3 ga), (wI cy wA0 8 wa), (wI cy lA0 8 (upd la mm (sg (11 + mm)))), (wI cy rA0 4 ra)]) H := hP
    have hD : va_D A (List.flatten [(wPCo p70 b7 c7 d7 e7 h7 k7 st), (wSet cy b7 v), (wSav cy q h7 z), (wSet cy (q 0) s0), (wSet cy (q 1) s1), (wSet cy (q 2) s2), (wSet cy (q 3) s3), (wI cy gA0 3 ga), (wI cy wA0 8 wa), (wI cy lA0 8 (upd la mm (sg (11 + mm)))), (wI cy rA0 4 ra)]) := hD
    refine lv_aload_n hx hb dL_acts_715 rfl (lv_at hl 8 rfl) ?_
    refine lv_iload hx hb dL_acts_716 (lv_at hl 4 rfl) ?_
    refine lv_iload hx hb dL_acts_718 (lv_at hl 3 rfl) ?_
    have e1 := E_follow (st := st) (u0 := (st, v, z, s0, s1, s2, s3)) CHH hrg hmm htt hne hc
    refine lw_compi (wcs := [(wPCo p70 b7 c7 d7 e7 h7 k7 st), (wSet cy b7 v), (wSav cy q h7 z), (wSet cy (q 0) s0), (wSet cy (q 1) s1), (wSet cy (q 2) s2), (wSet cy (q 3) s3)]) (wns := fun u8 => [(wPCo p70 b7 c7 d7 e7 h7 k7 u8.1), (wSet cy b7 u8.2.1), (wSav cy q h7 u8.2.2.1), (wSet cy (q 0) u8.2.2.2.1), (wSet cy (q 1) u8.2.2.2.2.1), (wSet cy (q 2) u8.2.2.2.2.2.1), (wSet cy (q 3) u8.2.2.2.2.2.2)]) (W2 := fun u8 => [(wPCo p70 b7 c7 d7 e7 h7 k7 u8.1), (wSet cy b7 u8.2.1), (wSav cy q h7 u8.2.2.1), (wSet cy (q 0) u8.2.2.2.1), (wSet cy (q 1) u8.2.2.2.2.1), (wSet cy (q 2) u8.2.2.2.2.2.1), (wSet cy (q 3) u8.2.2.2.2.2.2), (wI cy gA0 3 ga), (wI cy wA0 8 wa), (wI cy lA0 8 (upd la mm (sg (11 + mm)))), (wI cy rA0 4 ra)]) (vx_runSW (As := [.ref p70, .int (nI mm), .int (nI tt)]) (rest := []) S (c_L_follows l hl0 D cy g B p70 b7 c7 d7 e7 h7 k7 q st v z s0 s1 s2 s3 (nI mm) (nI tt) (fun k h => k_follow h)) (vx_cwSW 3 hts gL_acts_L_follows rfl rfl rfl hd_L_follows_S ⟨Nat.le_of_ble_eq_true rfl, Nat.le_of_ble_eq_true rfl⟩) ⟨lwP_blind, my_preL (wcs := [(wPCo p70 b7 c7 d7 e7 h7 k7 st), (wSet cy b7 v), (wSav cy q h7 z), (wSet cy (q 0) s0), (wSet cy (q 1) s1), (wSet cy (q 2) s2), (wSet cy (q 3) s3)]) hK0 hNc hS hAB hP hD [0, 1, 2, 3, 4, 5, 6] (by decide) rfl rfl⟩ rfl rfl hl.1 rfl (lv_room (Nat.le_of_ble_eq_true rfl)) dL_acts_720 ⟨(show cq + 1 ≤ 10 by omega), (show sq + 6 ≤ 60 by omega)⟩) hS hP hD [0, 1, 2, 3, 4, 5, 6] rfl rfl (fun _ => rfl) (fun _ => by simp only [List.map_cons, List.map_nil, adrSet, adrSetE, adrPow, adrPowE, adrTxt, adrTxtE, adrSav, adrSavE, adrPCo, adrI, adrL]) (fun _ => rfl) (fun r9 u9 H locs hw hP hD hS => ?_)
    obtain ⟨rfl, rfl⟩ := Prod.mk.inj (e1.symm.trans hw)
    have hP : va_P D vwCl (List.flatten [(wPCo p70 b7 c7 d7 e7 h7 k7 st), (wSet cy b7 v), (wSav cy q h7 z), (wSet cy (q 0) s0), (wSet cy (q 1) s1), (wSet cy (q 2) s2), (wSet cy (q 3) s3), (wI cy gA0 3 ga), (wI cy wA0 8 wa), (wI cy lA0 8 (upd la mm (sg (11 + mm)))), (wI cy rA0 4 ra)]) H := hP
    have hD : va_D A (List.flatten [(wPCo p70 b7 c7 d7 e7 h7 k7 st), (wSet cy b7 v), (wSav cy q h7 z), (wSet cy (q 0) s0), (wSet cy (q 1) s1), (wSet cy (q 2) s2), (wSet cy (q 3) s3), (wI cy gA0 3 ga), (wI cy wA0 8 wa), (wI cy lA0 8 (upd la mm (sg (11 + mm)))), (wI cy rA0 4 ra)]) := hD
    refine lv_iload hx hb dL_acts_723 (lv_at hl 1 rfl) ?_
    refine lv_if_eq (tgt := 733) hx hb dL_acts_725 (by decide) (fun _ => ?_) (fun h9 => absurd (show bI (caB sg mm tt n) = 0 by rw [hc]; rfl) h9)
    refine lv_ldc hx hb hown (hts (.constant RL 20 (-2000003)) (by decide +kernel)) dL_acts_733 ?_
    refine lv_icmp_ne (tgt := 742) hx hb dL_acts_735 (by decide) (fun h9 => absurd rfl h9) (fun _ => ?_)
    refine lv_iconst (v := 1) hx hb dL_acts_738 (by decide) ?_
    refine lv_goto (tgt := 743) hx hb dL_acts_739 (by decide) ?_
    exact K 743 dL_acts_743 ((st, v, z, s0, s1, s2, s3), (ga, wa, (upd la mm (sg (11 + mm))), ra)) _ _ H locs ls (by omega) (by omega) ⟨sg, n, r, ⟨CHH, AG_same hAG (fun _ => rfl), htx, l8_upd hl8 (by rw [← hAG.2.2.2.2.1 mm hmm]; exact hl8 mm)⟩, hp, y0, y8, hrg⟩ hP hS
  · refine lv_if_eq (tgt := 710) hx hb dL_acts_702 (by decide) (fun h9 => absurd h9 (show ¬ bI true = 0 by decide)) (fun _ => ?_)
    refine lv_iload hx hb dL_acts_705 (lv_at hl 3 rfl) ?_
    refine lv_goto (tgt := 714) hx hb dL_acts_707 (by decide) ?_
    refine wk_ast hx hb hK0.1 hP hD hS 50 0 (k := mm) (x := (nI tt)) rfl rfl (by omega) (by decide) dL_acts_714 (fun H locs hP hD hS => ?_)
    have hP : va_P D vwCl (List.flatten [(wPCo p70 b7 c7 d7 e7 h7 k7 st), (wSet cy b7 v), (wSav cy q h7 z), (wSet cy (q 0) s0), (wSet cy (q 1) s1), (wSet cy (q 2) s2), (wSet cy (q 3) s3), (wI cy gA0 3 ga), (wI cy wA0 8 wa), (wI cy lA0 8 (upd la mm (nI tt))), (wI cy rA0 4 ra)]) H := hP
    have hD : va_D A (List.flatten [(wPCo p70 b7 c7 d7 e7 h7 k7 st), (wSet cy b7 v), (wSav cy q h7 z), (wSet cy (q 0) s0), (wSet cy (q 1) s1), (wSet cy (q 2) s2), (wSet cy (q 3) s3), (wI cy gA0 3 ga), (wI cy wA0 8 wa), (wI cy lA0 8 (upd la mm (nI tt))), (wI cy rA0 4 ra)]) := hD
    refine lv_aload_n hx hb dL_acts_715 rfl (lv_at hl 8 rfl) ?_
    refine lv_iload hx hb dL_acts_716 (lv_at hl 4 rfl) ?_
    refine lv_iload hx hb dL_acts_718 (lv_at hl 3 rfl) ?_
    obtain ⟨u1, e1, hu, hC1, hrg1⟩ := T_follow (st := st) CHH hrg hmm htt hne hc
    refine lw_compi (wcs := [(wPCo p70 b7 c7 d7 e7 h7 k7 st), (wSet cy b7 v), (wSav cy q h7 z), (wSet cy (q 0) s0), (wSet cy (q 1) s1), (wSet cy (q 2) s2), (wSet cy (q 3) s3)]) (wns := fun u8 => [(wPCo p70 b7 c7 d7 e7 h7 k7 u8.1), (wSet cy b7 u8.2.1), (wSav cy q h7 u8.2.2.1), (wSet cy (q 0) u8.2.2.2.1), (wSet cy (q 1) u8.2.2.2.2.1), (wSet cy (q 2) u8.2.2.2.2.2.1), (wSet cy (q 3) u8.2.2.2.2.2.2)]) (W2 := fun u8 => [(wPCo p70 b7 c7 d7 e7 h7 k7 u8.1), (wSet cy b7 u8.2.1), (wSav cy q h7 u8.2.2.1), (wSet cy (q 0) u8.2.2.2.1), (wSet cy (q 1) u8.2.2.2.2.1), (wSet cy (q 2) u8.2.2.2.2.2.1), (wSet cy (q 3) u8.2.2.2.2.2.2), (wI cy gA0 3 ga), (wI cy wA0 8 wa), (wI cy lA0 8 (upd la mm (nI tt))), (wI cy rA0 4 ra)]) (vx_runSW (As := [.ref p70, .int (nI mm), .int (nI tt)]) (rest := []) S (c_L_follows l hl0 D cy g B p70 b7 c7 d7 e7 h7 k7 q st v z s0 s1 s2 s3 (nI mm) (nI tt) (fun k h => k_follow h)) (vx_cwSW 3 hts gL_acts_L_follows rfl rfl rfl hd_L_follows_S ⟨Nat.le_of_ble_eq_true rfl, Nat.le_of_ble_eq_true rfl⟩) ⟨lwP_blind, my_preL (wcs := [(wPCo p70 b7 c7 d7 e7 h7 k7 st), (wSet cy b7 v), (wSav cy q h7 z), (wSet cy (q 0) s0), (wSet cy (q 1) s1), (wSet cy (q 2) s2), (wSet cy (q 3) s3)]) hK0 hNc hS hAB hP hD [0, 1, 2, 3, 4, 5, 6] (by decide) rfl rfl⟩ rfl rfl hl.1 rfl (lv_room (Nat.le_of_ble_eq_true rfl)) dL_acts_720 ⟨(show cq + 1 ≤ 10 by omega), (show sq + 6 ≤ 60 by omega)⟩) hS hP hD [0, 1, 2, 3, 4, 5, 6] rfl rfl (fun _ => rfl) (fun _ => by simp only [List.map_cons, List.map_nil, adrSet, adrSetE, adrPow, adrPowE, adrTxt, adrTxtE, adrSav, adrSavE, adrPCo, adrI, adrL]) (fun _ => rfl) (fun r9 u9 H locs hw hP hD hS => ?_)
    obtain ⟨rfl, rfl⟩ := Prod.mk.inj (e1.symm.trans hw)
    have hP : va_P D vwCl (List.flatten [(wPCo p70 b7 c7 d7 e7 h7 k7 u1.1), (wSet cy b7 u1.2.1), (wSav cy q h7 u1.2.2.1), (wSet cy (q 0) u1.2.2.2.1), (wSet cy (q 1) u1.2.2.2.2.1), (wSet cy (q 2) u1.2.2.2.2.2.1), (wSet cy (q 3) u1.2.2.2.2.2.2), (wI cy gA0 3 ga), (wI cy wA0 8 wa), (wI cy lA0 8 (upd la mm (nI tt))), (wI cy rA0 4 ra)]) H := hP
    have hD : va_D A (List.flatten [(wPCo p70 b7 c7 d7 e7 h7 k7 u1.1), (wSet cy b7 u1.2.1), (wSav cy q h7 u1.2.2.1), (wSet cy (q 0) u1.2.2.2.1), (wSet cy (q 1) u1.2.2.2.2.1), (wSet cy (q 2) u1.2.2.2.2.2.1), (wSet cy (q 3) u1.2.2.2.2.2.2), (wI cy gA0 3 ga), (wI cy wA0 8 wa), (wI cy lA0 8 (upd la mm (nI tt))), (wI cy rA0 4 ra)]) := hD
    refine lv_iload hx hb dL_acts_723 (lv_at hl 1 rfl) ?_
    refine lv_if_eq (tgt := 733) hx hb dL_acts_725 (by decide) (fun h9 => absurd h9 (show ¬ bI (caB sg mm tt n) = 0 by rw [hc]; decide)) (fun _ => ?_)
    refine lv_iload hx hb dL_acts_728 (lv_at hl 2 rfl) ?_
    refine lv_goto (tgt := 735) hx hb dL_acts_730 (by decide) ?_
    refine lv_icmp_ne (tgt := 742) hx hb dL_acts_735 (by decide) (fun h9 => absurd rfl h9) (fun _ => ?_)
    refine lv_iconst (v := 1) hx hb dL_acts_738 (by decide) ?_
    refine lv_goto (tgt := 743) hx hb dL_acts_739 (by decide) ?_
    exact K 743 dL_acts_743 (u1, (ga, wa, (upd la mm (nI tt)), ra)) _ _ H locs ls (by omega) (by omega) ⟨_, _, _, ⟨hC1, AG_lead hAG h8 hmm _, htx, l8_upd hl8 (nI_ge (show tt < 8 by omega) (by decide))⟩, pwr_1' hu, hrg1⟩ hP hS
set_option maxHeartbeats 4000000 in
set_option maxRecDepth 100000 in
theorem ac_follow (C : acC p l s m meth c args D cy g B A) (F : soF v tx ga wa la ra sg n r) (hp : pwr st sg w) (hrg : ring z s0 s1 s2 s3 y0 y8) {V wy : Nat} {x5 : Int32} {mm : Nat} {cq sq : Nat} {H : Heap} {locs : List Loc} {ls : Array Slot} (hV : V < 10000000) (hmm : mm < n) (hcq : cq ≤ 0) (hsq : sq ≤ 0) (hP : va_P D vwCl (List.flatten [(wPCo p70 b7 c7 d7 e7 h7 k7 st), (wSet cy b7 v), (wSav cy q h7 z), (wSet cy (q 0) s0), (wSet cy (q 1) s1), (wSet cy (q 2) s2), (wSet cy (q 3) s3), (wI cy gA0 3 ga), (wI cy wA0 8 wa), (wI cy lA0 8 la), (wI cy rA0 4 ra)]) H) (hD : va_D A (List.flatten [(wPCo p70 b7 c7 d7 e7 h7 k7 st), (wSet cy b7 v), (wSav cy q h7 z), (wSet cy (q 0) s0), (wSet cy (q 1) s1), (wSet cy (q 2) s2), (wSet cy (q 3) s3), (wI cy gA0 3 ga), (wI cy wA0 8 wa), (wI cy lA0 8 la), (wI cy rA0 4 ra)])) (hS : va_S A s.heap H locs) (hl : lv_has ls 13 [(8, .int (nI mm)), (6, .int (nI V)), (7, .int (nI wy)), (5, .int x5), (0, .ref p70), (1, .ref gA0), (2, .ref wA0), (3, .ref lA0), (4, .ref rA0)])
    (K : ∀ (pc : Nat), decode cL_acts pc = .ok (.ireturn, 1) → ∀ (u : ActU) (cq sq : Nat) (H : Heap) (locs : List Loc) (ls : Array Slot), cq ≤ 6 → sq ≤ 36 → actOK tx w u → va_P D vwCl (List.flatten [(wPCo p70 b7 c7 d7 e7 h7 k7 u.1.1), (wSet cy b7 u.1.2.1), (wSav cy q h7 u.1.2.2.1), (wSet cy (q 0) u.1.2.2.2.1), (wSet cy (q 1) u.1.2.2.2.2.1), (wSet cy (q 2) u.1.2.2.2.2.2.1), (wSet cy (q 3) u.1.2.2.2.2.2.2), (wI cy gA0 3 u.2.1), (wI cy wA0 8 u.2.2.1), (wI cy lA0 8 u.2.2.2.1), (wI cy rA0 4 u.2.2.2.2)]) H → va_S A s.heap H locs → W p l e actR s m args below meth c H locs cq sq Q (F0 m pc ls [.int 1])) : W p l e actR s m args below meth c H locs cq sq Q (F0 m 566 ls []) := by
  have FF0 := F
  obtain ⟨hl0, hx, hb, hr9, hml, hown, hts, hlk, hK0, hNc, hAB⟩ := C
  obtain ⟨CHH, hAG, htx, hl8⟩ := F
  have hN := CHH.2.1
  have hL := CHH.2.2.1
  have hW := CHH.2.2.2.1
  have hR := CHH.2.2.2.2.1
  have h8 : n ≤ 8 := hN.2.1
  have hr4 : r ≤ 4 := hN.2.2.2
  have S := my_fix hx hb hml hown hts
  have C0 : acC p l s m meth c args D cy g B A := ⟨hl0, hx, hb, hr9, hml, hown, hts, hlk, hK0, hNc, hAB⟩
  refine lv_iload hx hb dL_acts_566 (lv_at hl 1 rfl) ?_
  refine lv_bipush (v := 8) hx hb dL_acts_568 (by decide) ?_
  refine lv_idiv hx hb dL_acts_570 (by decide) ?_
  refine wk_ti (x := ((nI V) / 8)) (v := (nI (V / 8))) (pk_div (by omega) (by decide) (by decide)) ?_
  refine lv_aload_n hx hb dL_acts_571 rfl (lv_at hl 5 rfl) ?_
  refine lv_iconst (v := 0) hx hb dL_acts_572 (by decide) ?_
  refine wk_ia hx hb hK0.1 hP 48 0 (k := 0) (v := (nI n)) rfl rfl (by decide) (by decide) hAG.1 dL_acts_573 ?_
  refine lv_irem hx hb dL_acts_574 (nI_ne0 (show 0 < n by omega) (by omega)) ?_
  obtain ⟨tt, htt, et⟩ : ∃ tt : Nat, tt < n ∧ V / 8 % n = tt := ⟨_, Nat.mod_lt _ (by omega), rfl⟩
  refine wk_ti (x := ((nI (V / 8)) - (nI (V / 8)) / (nI n) * (nI n))) (v := (nI tt)) (by rw [← et]; exact pk_rem (by omega) (show 0 < n by omega) (by omega)) ?_
  refine lv_istore (lv' := [(9, .int (nI tt)), (8, .int (nI mm)), (6, .int (nI V)), (7, .int (nI wy)), (5, .int x5), (0, .ref p70), (1, .ref gA0), (2, .ref wA0), (3, .ref lA0), (4, .ref rA0)]) hx hb dL_acts_575 hl (by decide) rfl (fun ls hl => ?_)
  refine lv_iload hx hb dL_acts_577 (lv_at hl 1 rfl) ?_
  refine lv_iload hx hb dL_acts_579 (lv_at hl 0 rfl) ?_
  by_cases hmt : mm = tt
  · refine lv_icmp_ne (tgt := 603) hx hb dL_acts_581 (by decide) (fun h9 => absurd (by rw [hmt]) h9) (fun _ => ?_)
    refine lv_aload_n hx hb dL_acts_584 rfl (lv_at hl 5 rfl) ?_
    refine lv_iload hx hb dL_acts_585 (lv_at hl 1 rfl) ?_
    refine lv_iload hx hb dL_acts_587 (lv_at hl 0 rfl) ?_
    have e1 : wrI (f_X7_follow st v z s0 s1 s2 s3 (nI mm) (nI tt)) (st, v, z, s0, s1, s2, s3) = (-2000002, (st, v, z, s0, s1, s2, s3)) := by rw [← hmt]; exact E_followS CHH hrg hmm
    refine lw_compi (wcs := [(wPCo p70 b7 c7 d7 e7 h7 k7 st), (wSet cy b7 v), (wSav cy q h7 z), (wSet cy (q 0) s0), (wSet cy (q 1) s1), (wSet cy (q 2) s2), (wSet cy (q 3) s3)]) (wns := fun u8 => [(wPCo p70 b7 c7 d7 e7 h7 k7 u8.1), (wSet cy b7 u8.2.1), (wSav cy q h7 u8.2.2.1), (wSet cy (q 0) u8.2.2.2.1), (wSet cy (q 1) u8.2.2.2.2.1), (wSet cy (q 2) u8.2.2.2.2.2.1), (wSet cy (q 3) u8.2.2.2.2.2.2)]) (W2 := fun u8 => [(wPCo p70 b7 c7 d7 e7 h7 k7 u8.1), (wSet cy b7 u8.2.1), (wSav cy q h7 u8.2.2.1), (wSet cy (q 0) u8.2.2.2.1), (wSet cy (q 1) u8.2.2.2.2.1), (wSet cy (q 2) u8.2.2.2.2.2.1), (wSet cy (q 3) u8.2.2.2.2.2.2), (wI cy gA0 3 ga), (wI cy wA0 8 wa), (wI cy lA0 8 la), (wI cy rA0 4 ra)]) (vx_runSW (As := [.ref p70, .int (nI mm), .int (nI tt)]) (rest := []) S (c_L_follows l hl0 D cy g B p70 b7 c7 d7 e7 h7 k7 q st v z s0 s1 s2 s3 (nI mm) (nI tt) (fun k h => k_follow h)) (vx_cwSW 3 hts gL_acts_L_follows rfl rfl rfl hd_L_follows_S ⟨Nat.le_of_ble_eq_true rfl, Nat.le_of_ble_eq_true rfl⟩) ⟨lwP_blind, my_preL (wcs := [(wPCo p70 b7 c7 d7 e7 h7 k7 st), (wSet cy b7 v), (wSav cy q h7 z), (wSet cy (q 0) s0), (wSet cy (q 1) s1), (wSet cy (q 2) s2), (wSet cy (q 3) s3)]) hK0 hNc hS hAB hP hD [0, 1, 2, 3, 4, 5, 6] (by decide) rfl rfl⟩ rfl rfl hl.1 rfl (lv_room (Nat.le_of_ble_eq_true rfl)) dL_acts_589 ⟨(show cq + 1 ≤ 10 by omega), (show sq + 6 ≤ 60 by omega)⟩) hS hP hD [0, 1, 2, 3, 4, 5, 6] rfl rfl (fun _ => rfl) (fun _ => by simp only [List.map_cons, List.map_nil, adrSet, adrSetE, adrPow, adrPowE, adrTxt, adrTxtE, adrSav, adrSavE, adrPCo, adrI, adrL]) (fun _ => rfl) (fun r9 u9 H locs hw hP hD hS => ?_)
    obtain ⟨rfl, rfl⟩ := Prod.mk.inj (e1.symm.trans hw)
    have hP : va_P D vwCl (List.flatten [(wPCo p70 b7 c7 d7 e7 h7 k7 st), (wSet cy b7 v), (wSav cy q h7 z), (wSet cy (q 0) s0), (wSet cy (q 1) s1), (wSet cy (q 2) s2), (wSet cy (q 3) s3), (wI cy gA0 3 ga), (wI cy wA0 8 wa), (wI cy lA0 8 la), (wI cy rA0 4 ra)]) H := hP
    have hD : va_D A (List.flatten [(wPCo p70 b7 c7 d7 e7 h7 k7 st), (wSet cy b7 v), (wSav cy q h7 z), (wSet cy (q 0) s0), (wSet cy (q 1) s1), (wSet cy (q 2) s2), (wSet cy (q 3) s3), (wI cy gA0 3 ga), (wI cy wA0 8 wa), (wI cy lA0 8 la), (wI cy rA0 4 ra)]) := hD
    refine lv_ldc hx hb hown (hts (.constant RL 17 (-2000002)) (by decide +kernel)) dL_acts_592 ?_
    refine lv_icmp_ne (tgt := 601) hx hb dL_acts_594 (by decide) (fun h9 => absurd rfl h9) (fun _ => ?_)
    refine lv_iconst (v := 1) hx hb dL_acts_597 (by decide) ?_
    refine lv_goto (tgt := 602) hx hb dL_acts_598 (by decide) ?_
    exact K 602 dL_acts_602 ((st, v, z, s0, s1, s2, s3), (ga, wa, la, ra)) _ _ H locs ls (by omega) (by omega) ⟨sg, n, r, FF0, hp, y0, y8, hrg⟩ hP hS
  · refine lv_icmp_ne (tgt := 603) hx hb dL_acts_581 (by decide) (fun _ => ?_) (fun h9 => absurd h9 (fun z => hmt ((iV (by omega) (by omega)).mp z)))
    refine lv_aload_n hx hb dL_acts_603 rfl (lv_at hl 8 rfl) ?_
    refine lv_iload hx hb dL_acts_604 (lv_at hl 1 rfl) ?_
    refine wk_ia hx hb hK0.1 hP 50 0 (k := mm) (v := (sg (11 + mm))) rfl rfl (by omega) (by decide) (hAG.2.2.2.2.1 mm hmm) dL_acts_606 ?_
    rcases l_ne hL h8 hmm with hb9 | ⟨p9, hp9, hb1, hb2, hb3, hb4⟩
    · refine lv_if_ge (tgt := 621) hx hb dL_acts_607 (by decide) (fun h9 => absurd h9 (by rw [hb9]; decide)) (fun _ => ?_)
      refine lv_aload_n hx hb dL_acts_610 rfl (lv_at hl 8 rfl) ?_
      refine lv_iload hx hb dL_acts_611 (lv_at hl 0 rfl) ?_
      refine wk_ia hx hb hK0.1 hP 50 0 (k := tt) (v := (sg (11 + tt))) rfl rfl (by omega) (by decide) (hAG.2.2.2.2.1 tt htt) dL_acts_613 ?_
      rcases l_ne hL h8 htt with hc9 | ⟨p9, hp9, hb1, hb2, hb3, hb4⟩
      · refine lv_if_ge (tgt := 621) hx hb dL_acts_614 (by decide) (fun h9 => absurd h9 (by rw [hc9]; decide)) (fun _ => ?_)
        refine lv_iconst (v := 1) hx hb dL_acts_617 (by decide) ?_
        refine lv_goto (tgt := 622) hx hb dL_acts_618 (by decide) ?_
        refine wk_ti (x := 1) (v := (bI (caB sg mm tt 0))) (by show _ = bI (decide (sg (11 + mm) = -1) && decide (sg (11 + tt) = -1)); rw [decide_eq_true hb9, decide_eq_true hc9]; rfl) ?_
        refine lv_istore (lv' := [(10, .int (bI (caB sg mm tt 0))), (9, .int (nI tt)), (8, .int (nI mm)), (6, .int (nI V)), (7, .int (nI wy)), (5, .int x5), (0, .ref p70), (1, .ref gA0), (2, .ref wA0), (3, .ref lA0), (4, .ref rA0)]) hx hb dL_acts_622 hl (by decide) rfl (fun ls hl => ?_)
        refine lv_aload_n hx hb dL_acts_624 rfl (lv_at hl 8 rfl) ?_
        refine lv_iload hx hb dL_acts_625 (lv_at hl 2 rfl) ?_
        refine wk_ia hx hb hK0.1 hP 49 0 (k := mm) (v := (nI (wN sg mm))) rfl rfl (by omega) (by decide) ((hAG.2.2.2.1 mm hmm).trans (wN_eq hW hmm).1) dL_acts_627 ?_
        refine lv_istore (lv' := [(11, .int (nI (wN sg mm))), (10, .int (bI (caB sg mm tt 0))), (9, .int (nI tt)), (8, .int (nI mm)), (6, .int (nI V)), (7, .int (nI wy)), (5, .int x5), (0, .ref p70), (1, .ref gA0), (2, .ref wA0), (3, .ref lA0), (4, .ref rA0)]) hx hb dL_acts_628 hl (by decide) rfl (fun ls hl => ?_)
        exact ac_follow2 (V := V) C0 FF0 hp hrg hV hmm htt hmt hcq hsq hP hD hS (lv_sub hl [0, 1, 2, 3, 4, 5, 6, 7, 8, 9, 10, 11] rfl) K
      · refine lv_if_ge (tgt := 621) hx hb dL_acts_614 (by decide) (fun _ => ?_) (fun h9 => absurd hb4 h9)
        refine lv_iconst (v := 0) hx hb dL_acts_621 (by decide) ?_
        refine wk_ti (x := 0) (v := (bI (caB sg mm tt 0))) (by show _ = bI (decide (sg (11 + mm) = -1) && decide (sg (11 + tt) = -1)); rw [decide_eq_false hb3, Bool.and_false]; rfl) ?_
        refine lv_istore (lv' := [(10, .int (bI (caB sg mm tt 0))), (9, .int (nI tt)), (8, .int (nI mm)), (6, .int (nI V)), (7, .int (nI wy)), (5, .int x5), (0, .ref p70), (1, .ref gA0), (2, .ref wA0), (3, .ref lA0), (4, .ref rA0)]) hx hb dL_acts_622 hl (by decide) rfl (fun ls hl => ?_)
        refine lv_aload_n hx hb dL_acts_624 rfl (lv_at hl 8 rfl) ?_
        refine lv_iload hx hb dL_acts_625 (lv_at hl 2 rfl) ?_
        refine wk_ia hx hb hK0.1 hP 49 0 (k := mm) (v := (nI (wN sg mm))) rfl rfl (by omega) (by decide) ((hAG.2.2.2.1 mm hmm).trans (wN_eq hW hmm).1) dL_acts_627 ?_
        refine lv_istore (lv' := [(11, .int (nI (wN sg mm))), (10, .int (bI (caB sg mm tt 0))), (9, .int (nI tt)), (8, .int (nI mm)), (6, .int (nI V)), (7, .int (nI wy)), (5, .int x5), (0, .ref p70), (1, .ref gA0), (2, .ref wA0), (3, .ref lA0), (4, .ref rA0)]) hx hb dL_acts_628 hl (by decide) rfl (fun ls hl => ?_)
        exact ac_follow2 (V := V) C0 FF0 hp hrg hV hmm htt hmt hcq hsq hP hD hS (lv_sub hl [0, 1, 2, 3, 4, 5, 6, 7, 8, 9, 10, 11] rfl) K
    · refine lv_if_ge (tgt := 621) hx hb dL_acts_607 (by decide) (fun _ => ?_) (fun h9 => absurd hb4 h9)
      refine lv_iconst (v := 0) hx hb dL_acts_621 (by decide) ?_
      refine wk_ti (x := 0) (v := (bI (caB sg mm tt 0))) (by show _ = bI (decide (sg (11 + mm) = -1) && decide (sg (11 + tt) = -1)); rw [decide_eq_false hb3, Bool.false_and]; rfl) ?_
      refine lv_istore (lv' := [(10, .int (bI (caB sg mm tt 0))), (9, .int (nI tt)), (8, .int (nI mm)), (6, .int (nI V)), (7, .int (nI wy)), (5, .int x5), (0, .ref p70), (1, .ref gA0), (2, .ref wA0), (3, .ref lA0), (4, .ref rA0)]) hx hb dL_acts_622 hl (by decide) rfl (fun ls hl => ?_)
      refine lv_aload_n hx hb dL_acts_624 rfl (lv_at hl 8 rfl) ?_
      refine lv_iload hx hb dL_acts_625 (lv_at hl 2 rfl) ?_
      refine wk_ia hx hb hK0.1 hP 49 0 (k := mm) (v := (nI (wN sg mm))) rfl rfl (by omega) (by decide) ((hAG.2.2.2.1 mm hmm).trans (wN_eq hW hmm).1) dL_acts_627 ?_
      refine lv_istore (lv' := [(11, .int (nI (wN sg mm))), (10, .int (bI (caB sg mm tt 0))), (9, .int (nI tt)), (8, .int (nI mm)), (6, .int (nI V)), (7, .int (nI wy)), (5, .int x5), (0, .ref p70), (1, .ref gA0), (2, .ref wA0), (3, .ref lA0), (4, .ref rA0)]) hx hb dL_acts_628 hl (by decide) rfl (fun ls hl => ?_)
      exact ac_follow2 (V := V) C0 FF0 hp hrg hV hmm htt hmt hcq hsq hP hD hS (lv_sub hl [0, 1, 2, 3, 4, 5, 6, 7, 8, 9, 10, 11] rfl) K
set_option maxHeartbeats 4000000 in
set_option maxRecDepth 100000 in
theorem ac_all (C : acC p l s m meth c args D cy g B A) (F : soF v tx ga wa la ra sg n r) (hp : pwr st sg w) (hrg : ring z s0 s1 s2 s3 y0 y8) {x5 : Int32} {cq sq : Nat} {H : Heap} {locs : List Loc} {ls : Array Slot}  (hcq : cq ≤ 0) (hsq : sq ≤ 0) (hP : va_P D vwCl (List.flatten [(wPCo p70 b7 c7 d7 e7 h7 k7 st), (wSet cy b7 v), (wSav cy q h7 z), (wSet cy (q 0) s0), (wSet cy (q 1) s1), (wSet cy (q 2) s2), (wSet cy (q 3) s3), (wI cy gA0 3 ga), (wI cy wA0 8 wa), (wI cy lA0 8 la), (wI cy rA0 4 ra)]) H) (hD : va_D A (List.flatten [(wPCo p70 b7 c7 d7 e7 h7 k7 st), (wSet cy b7 v), (wSav cy q h7 z), (wSet cy (q 0) s0), (wSet cy (q 1) s1), (wSet cy (q 2) s2), (wSet cy (q 3) s3), (wI cy gA0 3 ga), (wI cy wA0 8 wa), (wI cy lA0 8 la), (wI cy rA0 4 ra)])) (hS : va_S A s.heap H locs) (hl : lv_has ls 13 [(5, .int x5), (0, .ref p70), (1, .ref gA0), (2, .ref wA0), (3, .ref lA0), (4, .ref rA0)])
    (K : ∀ (pc : Nat), decode cL_acts pc = .ok (.ireturn, 1) → ∀ (u : ActU) (cq sq : Nat) (H : Heap) (locs : List Loc) (ls : Array Slot), cq ≤ 6 → sq ≤ 36 → actOK tx w u → va_P D vwCl (List.flatten [(wPCo p70 b7 c7 d7 e7 h7 k7 u.1.1), (wSet cy b7 u.1.2.1), (wSav cy q h7 u.1.2.2.1), (wSet cy (q 0) u.1.2.2.2.1), (wSet cy (q 1) u.1.2.2.2.2.1), (wSet cy (q 2) u.1.2.2.2.2.2.1), (wSet cy (q 3) u.1.2.2.2.2.2.2), (wI cy gA0 3 u.2.1), (wI cy wA0 8 u.2.2.1), (wI cy lA0 8 u.2.2.2.1), (wI cy rA0 4 u.2.2.2.2)]) H → va_S A s.heap H locs → W p l e actR s m args below meth c H locs cq sq Q (F0 m pc ls [.int 1])) : W p l e actR s m args below meth c H locs cq sq Q (F0 m 0 ls []) := by
  have FF0 := F
  obtain ⟨hl0, hx, hb, hr9, hml, hown, hts, hlk, hK0, hNc, hAB⟩ := C
  obtain ⟨CHH, hAG, htx, hl8⟩ := F
  have hN := CHH.2.1
  have hL := CHH.2.2.1
  have hW := CHH.2.2.2.1
  have hR := CHH.2.2.2.2.1
  have h8 : n ≤ 8 := hN.2.1
  have hr4 : r ≤ 4 := hN.2.2.2
  have S := my_fix hx hb hml hown hts
  have C0 : acC p l s m meth c args D cy g B A := ⟨hl0, hx, hb, hr9, hml, hown, hts, hlk, hK0, hNc, hAB⟩
  refine lv_iload hx hb dL_acts_0 (lv_at hl 0 rfl) ?_
  refine lv_iconst (v := 5) hx hb dL_acts_2 (by decide) ?_
  refine lv_ishr hx hb dL_acts_3 ?_
  refine lv_ldc hx hb hown (hts (.constant RL 67 (10000000)) (by decide +kernel)) dL_acts_4 ?_
  obtain ⟨V, hV, eV⟩ := low_nI (x5 >>> (5 &&& 31)) (d := 10000000) (by decide) (by decide)
  refine rd_goi (va_runS (As := [.int (x5 >>> (5 &&& 31)), .int 10000000]) (rest := []) S (c_L_low l D cy g B _ _ (by decide)) (va_cwS 2 hts gL_acts_L_low rfl rfl rfl hd_L_low_S ⟨Nat.le_of_ble_eq_true rfl, Nat.le_of_ble_eq_true rfl⟩) ⟨rdP_blind, my_preV hK0 hS hAB hP [] rfl⟩ rfl rfl hl.1 rfl (lv_room (Nat.le_of_ble_eq_true rfl)) dL_acts_6 ⟨(show cq + 0 ≤ 10 by omega), (show sq + 0 ≤ 60 by omega)⟩) ?_
  refine wk_ti (v := (nI V)) eV ?_
  refine lv_istore (lv' := [(6, .int (nI V)), (5, .int x5), (0, .ref p70), (1, .ref gA0), (2, .ref wA0), (3, .ref lA0), (4, .ref rA0)]) hx hb dL_acts_9 hl (by decide) rfl (fun ls hl => ?_)
  refine lv_iload hx hb dL_acts_11 (lv_at hl 1 rfl) ?_
  refine lv_bipush (v := 20) hx hb dL_acts_13 (by decide) ?_
  obtain ⟨wy, hwy, ew⟩ := low_nI x5 (d := 20) (by decide) (by decide)
  refine rd_goi (va_runS (As := [.int x5, .int 20]) (rest := []) S (c_L_low l D cy g B _ _ (by decide)) (va_cwS 2 hts gL_acts_L_low rfl rfl rfl hd_L_low_S ⟨Nat.le_of_ble_eq_true rfl, Nat.le_of_ble_eq_true rfl⟩) ⟨rdP_blind, my_preV hK0 hS hAB hP [] rfl⟩ rfl rfl hl.1 rfl (lv_room (Nat.le_of_ble_eq_true rfl)) dL_acts_15 ⟨(show cq + 0 ≤ 10 by omega), (show sq + 0 ≤ 60 by omega)⟩) ?_
  refine wk_ti (v := (nI wy)) ew ?_
  refine lv_istore (lv' := [(7, .int (nI wy)), (6, .int (nI V)), (5, .int x5), (0, .ref p70), (1, .ref gA0), (2, .ref wA0), (3, .ref lA0), (4, .ref rA0)]) hx hb dL_acts_18 hl (by decide) rfl (fun ls hl => ?_)
  refine lv_iload hx hb dL_acts_20 (lv_at hl 0 rfl) ?_
  refine lv_iconst (v := 5) hx hb dL_acts_22 (by decide) ?_
  rcases Nat.lt_or_ge wy 5 with hw5 | hw5
  · refine lv_icmp_ge (tgt := 121) hx hb dL_acts_23 (by decide) (fun h9 => absurd h9 (nI_ge hw5 (by decide))) (fun _ => ?_)
    exact ac_add (V := V) (wy := wy) C0 FF0 hp hrg hV hcq hsq hP hD hS (lv_sub hl [1, 0, 2, 3, 4, 5, 6, 7] rfl) K
  · refine lv_icmp_ge (tgt := 121) hx hb dL_acts_23 (by decide) (fun _ => ?_) (fun h9 => absurd (nI_le (a := 5) hw5 (by omega)) h9)
    refine lv_iload hx hb dL_acts_121 (lv_at hl 0 rfl) ?_
    refine lv_bipush (v := 8) hx hb dL_acts_123 (by decide) ?_
    rcases Nat.lt_or_ge wy 8 with hw8 | hw8
    · refine lv_icmp_ge (tgt := 217) hx hb dL_acts_125 (by decide) (fun h9 => absurd h9 (nI_ge hw8 (by decide))) (fun _ => ?_)
      exact ac_quota (V := V) (wy := wy) C0 FF0 hp hrg hV hcq hsq hP hD hS (lv_sub hl [1, 0, 2, 3, 4, 5, 6, 7] rfl) K
    · refine lv_icmp_ge (tgt := 217) hx hb dL_acts_125 (by decide) (fun _ => ?_) (fun h9 => absurd (nI_le (a := 8) hw8 (by omega)) h9)
      refine lv_iload hx hb dL_acts_217 (lv_at hl 0 rfl) ?_
      refine lv_bipush (v := 10) hx hb dL_acts_219 (by decide) ?_
      rcases Nat.lt_or_ge wy 10 with hw10 | hw10
      · refine lv_icmp_ge (tgt := 356) hx hb dL_acts_221 (by decide) (fun h9 => absurd h9 (nI_ge hw10 (by decide))) (fun _ => ?_)
        exact ac_rule (V := V) (wy := wy) C0 FF0 hp hrg hV hcq hsq hP hD hS (lv_sub hl [1, 0, 2, 3, 4, 5, 6, 7] rfl) K
      · refine lv_icmp_ge (tgt := 356) hx hb dL_acts_221 (by decide) (fun _ => ?_) (fun h9 => absurd (nI_le (a := 10) hw10 (by omega)) h9)
        refine lv_iload hx hb dL_acts_356 (lv_at hl 0 rfl) ?_
        refine lv_bipush (v := 12) hx hb dL_acts_358 (by decide) ?_
        rcases Nat.lt_or_ge wy 12 with hw12 | hw12
        · refine lv_icmp_ge (tgt := 449) hx hb dL_acts_360 (by decide) (fun h9 => absurd h9 (nI_ge hw12 (by decide))) (fun _ => ?_)
          exact ac_drop (V := V) (wy := wy) C0 FF0 hp hrg hV hcq hsq hP hD hS (lv_sub hl [1, 0, 2, 3, 4, 5, 6, 7] rfl) K
        · refine lv_icmp_ge (tgt := 449) hx hb dL_acts_360 (by decide) (fun _ => ?_) (fun h9 => absurd (nI_le (a := 12) hw12 (by omega)) h9)
          refine lv_aload_n hx hb dL_acts_449 rfl (lv_at hl 4 rfl) ?_
          refine lv_iconst (v := 0) hx hb dL_acts_450 (by decide) ?_
          refine wk_ia hx hb hK0.1 hP 48 0 (k := 0) (v := (nI n)) rfl rfl (by decide) (by decide) hAG.1 dL_acts_451 ?_
          by_cases hn0 : n = 0
          · refine lv_if_ne (tgt := 493) hx hb dL_acts_452 (by decide) (fun h9 => absurd (by rw [hn0]; rfl) h9) (fun _ => ?_)
            exact ac_none (V := V) (wy := wy) C0 FF0 hp hrg hn0 hcq hsq hP hD hS (lv_sub hl [1, 0, 2, 3, 4, 5, 6, 7] rfl) K
          · refine lv_if_ne (tgt := 493) hx hb dL_acts_452 (by decide) (fun _ => ?_) (fun h9 => absurd h9 (fun z => hn0 ((iV (b := 0) (by omega) (by decide)).mp z)))
            refine lv_iload hx hb dL_acts_493 (lv_at hl 1 rfl) ?_
            refine lv_aload_n hx hb dL_acts_495 rfl (lv_at hl 4 rfl) ?_
            refine lv_iconst (v := 0) hx hb dL_acts_496 (by decide) ?_
            refine wk_ia hx hb hK0.1 hP 48 0 (k := 0) (v := (nI n)) rfl rfl (by decide) (by decide) hAG.1 dL_acts_497 ?_
            refine lv_irem hx hb dL_acts_498 (nI_ne0 (show 0 < n by omega) (by omega)) ?_
            obtain ⟨mm, hmm, em⟩ : ∃ mm : Nat, mm < n ∧ V % n = mm := ⟨_, Nat.mod_lt _ (by omega), rfl⟩
            refine wk_ti (x := ((nI V) - (nI V) / (nI n) * (nI n))) (v := (nI mm)) (by rw [← em]; exact pk_rem (by omega) (show 0 < n by omega) (by omega)) ?_
            refine lv_istore (lv' := [(8, .int (nI mm)), (7, .int (nI wy)), (6, .int (nI V)), (5, .int x5), (0, .ref p70), (1, .ref gA0), (2, .ref wA0), (3, .ref lA0), (4, .ref rA0)]) hx hb dL_acts_499 hl (by decide) rfl (fun ls hl => ?_)
            refine lv_iload hx hb dL_acts_501 (lv_at hl 1 rfl) ?_
            refine lv_bipush (v := 15) hx hb dL_acts_503 (by decide) ?_
            rcases Nat.lt_or_ge wy 15 with hw15 | hw15
            · refine lv_icmp_ge (tgt := 559) hx hb dL_acts_505 (by decide) (fun h9 => absurd h9 (nI_ge hw15 (by decide))) (fun _ => ?_)
              exact ac_weight (V := V) (wy := wy) C0 FF0 hp hrg hV hmm hcq hsq hP hD hS (lv_sub hl [0, 2, 1, 3, 4, 5, 6, 7, 8] rfl) K
            · refine lv_icmp_ge (tgt := 559) hx hb dL_acts_505 (by decide) (fun _ => ?_) (fun h9 => absurd (nI_le (a := 15) hw15 (by omega)) h9)
              refine lv_iload hx hb dL_acts_559 (lv_at hl 1 rfl) ?_
              refine lv_bipush (v := 18) hx hb dL_acts_561 (by decide) ?_
              rcases Nat.lt_or_ge wy 18 with hw18 | hw18
              · refine lv_icmp_ge (tgt := 744) hx hb dL_acts_563 (by decide) (fun h9 => absurd h9 (nI_ge hw18 (by decide))) (fun _ => ?_)
                exact ac_follow (V := V) (wy := wy) C0 FF0 hp hrg hV hmm hcq hsq hP hD hS (lv_sub hl [0, 2, 1, 3, 4, 5, 6, 7, 8] rfl) K
              · refine lv_icmp_ge (tgt := 744) hx hb dL_acts_563 (by decide) (fun _ => ?_) (fun h9 => absurd (nI_le (a := 18) hw18 (by omega)) h9)
                exact ac_leave (V := V) (wy := wy) C0 FF0 hp hrg hV hmm hcq hsq hP hD hS (lv_sub hl [0, 2, 1, 3, 4, 5, 6, 7, 8] rfl) K
end ACT
set_option maxHeartbeats 4000000 in
set_option maxRecDepth 100000 in
theorem c_L_acts (l : Launch) (hl0 : l.stackTraces = false) (D : va_G) (cy : Nat → ClassId) (g : Nat → Nat) (B : Nat) (p70 : Nat) (b7 c7 d7 e7 h7 k7 : Nat → Nat) (q : Nat → Nat → Nat) (gA0 wA0 lA0 rA0 : Nat) (st : Int32) (v : SetV) (z : Int32 × Int32) (s0 s1 s2 s3 : SetV) (ga wa la ra : Nat → Int32) (x5 : Int32) {w : PowV} {tx : TxtV} {sg : Nat → Int32} {n r : Nat} {y0 : Int32} {y8 : Nat → Int32} (F : soF v tx ga wa la ra sg n r) (hp : pwr st sg w) (hrg : ring z s0 s1 s2 s3 y0 y8) : Met l yL_acts wsL_acts ({ frames := 10, cells := 10, slots := 60, locals := 178 } : Room) (lwP D cy g B (List.flatten [(wPCo p70 b7 c7 d7 e7 h7 k7 st), (wSet cy b7 v), (wSav cy q h7 z), (wSet cy (q 0) s0), (wSet cy (q 1) s1), (wSet cy (q 2) s2), (wSet cy (q 3) s3), (wI cy gA0 3 ga), (wI cy wA0 8 wa), (wI cy lA0 8 la), (wI cy rA0 4 ra)]) [.ref p70, .ref gA0, .ref wA0, .ref lA0, .ref rA0, .int x5]) (va_Qi (fun (r9 : Int32) (u : ActU) => r9 = 1 ∧ actOK tx w u) (fun u t => va_P D vwCl (List.flatten [(wPCo p70 b7 c7 d7 e7 h7 k7 u.1.1), (wSet cy b7 u.1.2.1), (wSav cy q h7 u.1.2.2.1), (wSet cy (q 0) u.1.2.2.2.1), (wSet cy (q 1) u.1.2.2.2.2.1), (wSet cy (q 2) u.1.2.2.2.2.2.1), (wSet cy (q 3) u.1.2.2.2.2.2.2), (wI cy gA0 3 u.2.1), (wI cy wA0 8 u.2.2.1), (wI cy lA0 8 u.2.2.2.1), (wI cy rA0 4 u.2.2.2.2)]) t.heap) (muA (List.flatten [(wPCo p70 b7 c7 d7 e7 h7 k7 st), (wSet cy b7 v), (wSav cy q h7 z), (wSet cy (q 0) s0), (wSet cy (q 1) s1), (wSet cy (q 2) s2), (wSet cy (q 3) s3), (wI cy gA0 3 ga), (wI cy wA0 8 wa), (wI cy lA0 8 la), (wI cy rA0 4 ra)]))) 10 60 (muA (List.flatten [(wPCo p70 b7 c7 d7 e7 h7 k7 st), (wSet cy b7 v), (wSav cy q h7 z), (wSet cy (q 0) s0), (wSet cy (q 1) s1), (wSet cy (q 2) s2), (wSet cy (q 3) s3), (wI cy gA0 3 ga), (wI cy wA0 8 wa), (wI cy lA0 8 la), (wI cy rA0 4 ra)])) := by
  refine Met.ofW (cc := cL_acts) (maxL := 13) (ret := some .boolean) (by decide) rfl ?_
  intro p e s m args below meth c s₁ BB hml hv
  obtain ⟨rfl, ⟨hP, hK0, hD0⟩, hNc⟩ := hv
  have hx := BB.exec
  have hb := BB.bytes
  have hr := BB.returns
  have hts := atoms_spec (ws := wsL_acts) BB.pre
  have hown : s.vm.findClass RL = some m.cls := findClass_of_methodNamed BB.named
  have hlk := BB.notSynchronized
  have hAB := muB hD0
  have hD := muD hD0
  generalize hAe : muA (List.flatten [(wPCo p70 b7 c7 d7 e7 h7 k7 st), (wSet cy b7 v), (wSav cy q h7 z), (wSet cy (q 0) s0), (wSet cy (q 1) s1), (wSet cy (q 2) s2), (wSet cy (q 3) s3), (wI cy gA0 3 ga), (wI cy wA0 8 wa), (wI cy lA0 8 la), (wI cy rA0 4 ra)]) = A at hAB hD ⊢
  have hS : va_S A s.heap s.heap [] := va_S.rf
  have C : acC p l s m meth c ([.ref p70, .ref gA0, .ref wA0, .ref lA0, .ref rA0, .int x5] : List Value).toArray D cy g B A := ⟨hl0, hx, hb, hr, hml, hown, hts, hlk, hK0, hNc, hAB⟩
  have hl := lv_entry ([.ref p70, .ref gA0, .ref wA0, .ref lA0, .ref rA0, .int x5]) (n := 13) (Nat.le_of_ble_eq_true rfl)
  rw [lg_entry_eq]
  generalize (lg_sl ([.ref p70, .ref gA0, .ref wA0, .ref lA0, .ref rA0, .int x5]) ++ List.replicate (13 - (lg_sl ([.ref p70, .ref gA0, .ref wA0, .ref lA0, .ref rA0, .int x5])).length) Slot.unset).toArray = ls at hl ⊢
  have hl : lv_has ls 13 [(0, .ref p70), (1, .ref gA0), (2, .ref wA0), (3, .ref lA0), (4, .ref rA0), (5, .int x5)] := hl
  refine ac_all C F hp hrg (Nat.le_refl 0) (Nat.le_refl 0) hP hD hS (lv_sub hl [5, 0, 1, 2, 3, 4] rfl) (fun pc hd u cq sq H locs ls hcq hsq hok hP hS => ?_)
  refine W.widen (k := 10) (n := 60) (Nat.le_trans hcq (by decide)) (Nat.le_trans hsq (by decide)) ?_
  exact W.zret (ty := .boolean) (v := 1) hx hb hr (my_nz (Or.inr rfl)) (fun t ht hW => ⟨⟨1, u, rfl, ⟨rfl, hok⟩, by show va_P D vwCl _ t.heap; rw [ht]; exact hP⟩, hS.F ht⟩) hS.2.2 hd
theorem hd_L_acts_S : yL_acts.cls ≠ "java/lang/invoke/MethodHandle" ∧ yL_acts.cls ≠ "java/lang/invoke/VarHandle" ∧ (parseMethodDescriptor yL_acts.desc).map (fun d => d.parameters.length) = some 6 := by decide +kernel
