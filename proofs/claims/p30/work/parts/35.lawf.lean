/-! part 35: the law's methods that only compute -/
theorem ix_l8 {f : Nat → Int32} (h : ∀ j : Nat, ¬ 8 ≤ f j) {j : Nat} (h0 : ¬ f j < 0) : vp_in (f j) 8 := vin_cmp (by decide) h0 (h j)
theorem mu_dn {k : Int32} (h : ¬ k ≤ 1) : ((k + (-1) : Int32).toInt).toNat < (k.toInt).toNat := by
  have h1 : (1 : Int32).toInt < k.toInt := Int32.lt_iff_toInt_lt.mp (Int32.not_le.mp h)
  have z1 : (1 : Int32).toInt = 1 := by decide
  have zm : (-1 : Int32).toInt = -1 := by decide
  have hk : k.toInt < 2147483648 := by have := k.toInt_lt; simpa using this
  have e : (k + (-1)).toInt = k.toInt - 1 := by
    rw [Int32.toInt_add, zm]
    show (k.toInt + -1).bmod 4294967296 = _
    rw [Int.bmod_eq_of_le (by omega) (by omega)]; omega
  rw [e]; omega
theorem nat_of {i : Int32} {n : Nat} (hn : n < 2 ^ 31) (h0 : ¬ i < 0) (h1 : ¬ nI n ≤ i) : ∃ k : Nat, k < n ∧ i = nI k := by
  obtain ⟨k, hk, e⟩ := vp_in_of (vin_cmp hn h0 h1) hn
  exact ⟨k, hk, e⟩
theorem sh6_t : ∀ k : Nat, k < 256 → vp_in (nI k >>> (6 &&& 31)) 4 := by unfold vp_in; decide +kernel
theorem ix_sh6 {i : Int32} (h0 : ¬ i < 0) (h1 : ¬ 256 ≤ i) : vp_in (i >>> (6 &&& 31)) 4 := by
  obtain ⟨k, hk, rfl⟩ := nat_of (n := 256) (by decide) h0 h1
  exact sh6_t k hk
theorem swp_t : ∀ m : Nat, m < 8 → ∀ k : Nat, k < 256 → ((nI k >>> (nI m &&& 31)) &&& 1) = 0 → ¬ (nI k + (1 <<< (nI m &&& 31))) < 0 ∧ ¬ (256 : Int32) ≤ (nI k + (1 <<< (nI m &&& 31))) := by decide +kernel
theorem swp_lo {i m : Int32} (h0 : ¬ i < 0) (h1 : ¬ 256 ≤ i) (m0 : ¬ m < 0) (m1 : ¬ 8 ≤ m) (c : ((i >>> (m &&& 31)) &&& 1) = 0) : ¬ (i + (1 <<< (m &&& 31))) < 0 := by
  obtain ⟨k, hk, rfl⟩ := nat_of (n := 256) (by decide) h0 h1
  obtain ⟨j, hj, rfl⟩ := nat_of (n := 8) (by decide) m0 m1
  exact (swp_t j hj k hk c).1
theorem swp_hi {i m : Int32} (h0 : ¬ i < 0) (h1 : ¬ 256 ≤ i) (m0 : ¬ m < 0) (m1 : ¬ 8 ≤ m) (c : ((i >>> (m &&& 31)) &&& 1) = 0) : ¬ (256 : Int32) ≤ (i + (1 <<< (m &&& 31))) := by
  obtain ⟨k, hk, rfl⟩ := nat_of (n := 256) (by decide) h0 h1
  obtain ⟨j, hj, rfl⟩ := nat_of (n := 8) (by decide) m0 m1
  exact (swp_t j hj k hk c).2
theorem swo_t : ∀ m : Nat, m < 8 → ∀ k : Nat, k < 256 → ¬ (nI k ||| (1 <<< (nI m &&& 31))) < 0 ∧ ¬ (256 : Int32) ≤ (nI k ||| (1 <<< (nI m &&& 31))) := by decide +kernel
theorem swo_lo {i m : Int32} (h0 : ¬ i < 0) (h1 : ¬ 256 ≤ i) (m0 : ¬ m < 0) (m1 : ¬ 8 ≤ m) : ¬ (i ||| (1 <<< (m &&& 31))) < 0 := by
  obtain ⟨k, hk, rfl⟩ := nat_of (n := 256) (by decide) h0 h1
  obtain ⟨j, hj, rfl⟩ := nat_of (n := 8) (by decide) m0 m1
  exact (swo_t j hj k hk).1
theorem swo_hi {i m : Int32} (h0 : ¬ i < 0) (h1 : ¬ 256 ≤ i) (m0 : ¬ m < 0) (m1 : ¬ 8 ≤ m) : ¬ (256 : Int32) ≤ (i ||| (1 <<< (m &&& 31))) := by
  obtain ⟨k, hk, rfl⟩ := nat_of (n := 256) (by decide) h0 h1
  obtain ⟨j, hj, rfl⟩ := nat_of (n := 8) (by decide) m0 m1
  exact (swo_t j hj k hk).2
theorem hd_L_low_S : yL_low.cls ≠ "java/lang/invoke/MethodHandle" ∧ yL_low.cls ≠ "java/lang/invoke/VarHandle" ∧ (parseMethodDescriptor yL_low.desc).map (fun d => d.parameters.length) = some 2 := by decide +kernel
theorem hd_L_low_V : yL_low.cls = RL ∧ yL_low.cls ≠ "java/lang/invoke/MethodHandle" ∧ yL_low.cls ≠ "java/lang/invoke/VarHandle" ∧ (parseMethodDescriptor yL_low.desc).map (fun d => d.parameters.length) = some 2 := ⟨rfl, hd_L_low_S⟩
def f_L_low (x0 : Int32) (x1 : Int32) : Int32 := ((x0 &&& 2147483647) - (x0 &&& 2147483647) / x1 * x1)
set_option maxHeartbeats 3200000 in
set_option maxRecDepth 100000 in
theorem c_L_low (l : Launch) (D : va_G) (cy : Nat → ClassId) (g : Nat → Nat) (B : Nat)  (x0 : Int32) (x1 : Int32) (hx1 : ¬ x1 = 0) : Met l yL_low wsL_low ({ frames := 0, cells := 0, slots := 0, locals := 0 }) (rdP D cy g B ([] : va_W) [.int x0, .int x1]) (vp_Si (fun r => r = f_L_low x0 x1)) 0 0 (fun _ => False) := by
  refine Met.ofW (cc := cL_low) (maxL := 2) (ret := (some .int)) (by decide) rfl ?_
  intro p e s m args below meth c s₁ BB hml hv
  obtain ⟨rfl, hP, hK0⟩ := hv
  have hx := BB.exec
  have hb := BB.bytes
  have hr := BB.returns
  have hts := atoms_spec (ws := wsL_low) BB.pre
  have hown : s.vm.findClass RL = some m.cls := findClass_of_methodNamed BB.named
  have hlocks := BB.notSynchronized
  have S := my_fix hx hb hml hown hts
  have hS : va_S (fun q => B ≤ q) s.heap s.heap [] := va_S.rf
  have hAB : ∀ q : Nat, (fun q => B ≤ q) q → B ≤ q := fun _ h => h
  have hl := lv_entry ([.int x0, .int x1]) (n := 2) (Nat.le_of_ble_eq_true rfl)
  rw [lg_entry_eq]
  generalize (lg_sl ([.int x0, .int x1]) ++ List.replicate (2 - (lg_sl ([.int x0, .int x1])).length) Slot.unset).toArray = ls at hl ⊢
  have hl : lv_has ls 2 [(0, .int x0), (1, .int x1)] := hl
  refine lv_iload_n hx hb dL_low_0 rfl (lv_at hl 0 rfl) ?_
  refine lv_ldc hx hb hown (hts (.constant RL 8 (2147483647)) (List.mem_of_getElem? (i := 1) rfl)) dL_low_1 ?_
  refine lv_iand hx hb dL_low_3 ?_
  refine lv_iload_n hx hb dL_low_4 rfl (lv_at hl 1 rfl) ?_
  refine lv_irem hx hb dL_low_5 hx1 ?_
  exact W.iret hx hb hr (fun t ht hW => ⟨((x0 &&& 2147483647) - (x0 &&& 2147483647) / x1 * x1), rfl, (show f_L_low x0 x1 = ((x0 &&& 2147483647) - (x0 &&& 2147483647) / x1 * x1) from by rw [f_L_low]).symm, ht⟩) (fun q hq => absurd hq List.not_mem_nil) dL_low_6
theorem hd_L_players_S : yL_players.cls ≠ "java/lang/invoke/MethodHandle" ∧ yL_players.cls ≠ "java/lang/invoke/VarHandle" ∧ (parseMethodDescriptor yL_players.desc).map (fun d => d.parameters.length) = some 2 := by decide +kernel
theorem hd_L_players_V : yL_players.cls = RL ∧ yL_players.cls ≠ "java/lang/invoke/MethodHandle" ∧ yL_players.cls ≠ "java/lang/invoke/VarHandle" ∧ (parseMethodDescriptor yL_players.desc).map (fun d => d.parameters.length) = some 2 := ⟨rfl, hd_L_players_S⟩
def f_L_players_st (ga : (Nat → Int32)) (la : (Nat → Int32)) (i2_1 : Int32) (i3_2 : Int32) : (Int32 × Int32) ⊕ (Int32 × Int32) := (if (ga 0) ≤ i3_2 then (.inr (i2_1, i3_2)) else (if 0 ≤ (la i3_2.toNatClampNeg) then (.inl ((i2_1 + 0), (i3_2 + 1))) else (.inl ((i2_1 + (1 <<< (i3_2 &&& 31))), (i3_2 + 1)))))
def f_L_players (ga : (Nat → Int32)) (la : (Nat → Int32)) : Int32 := (my_t2 (lp (fun (x : Int32 × Int32) => f_L_players_st ga la x.1 x.2) default ((((ga 0) : Int32).toInt - (0 : Int32).toInt).toNat + 1) (0, 0)) (fun (i2_1 : Int32) (i3_2 : Int32) => i2_1))
set_option maxHeartbeats 3200000 in
set_option maxRecDepth 100000 in
theorem c_L_players (l : Launch) (D : va_G) (cy : Nat → ClassId) (g : Nat → Nat) (B : Nat) (gA0 : Nat) (lA0 : Nat) (ga : (Nat → Int32)) (la : (Nat → Int32)) (hg0 : ¬ 8 < (ga 0)) : Met l yL_players wsL_players ({ frames := 0, cells := 0, slots := 0, locals := 0 }) (rdP D cy g B (List.flatten [(wI cy gA0 3 ga), (wI cy lA0 8 la)]) [.ref gA0, .ref lA0]) (vp_Si (fun r => r = f_L_players ga la)) 0 0 (fun _ => False) := by
  refine Met.ofW (cc := cL_players) (maxL := 4) (ret := (some .int)) (by decide) rfl ?_
  intro p e s m args below meth c s₁ BB hml hv
  obtain ⟨rfl, hP, hK0⟩ := hv
  have hx := BB.exec
  have hb := BB.bytes
  have hr := BB.returns
  have hts := atoms_spec (ws := wsL_players) BB.pre
  have hown : s.vm.findClass RL = some m.cls := findClass_of_methodNamed BB.named
  have hlocks := BB.notSynchronized
  have S := my_fix hx hb hml hown hts
  have hS : va_S (fun q => B ≤ q) s.heap s.heap [] := va_S.rf
  have hAB : ∀ q : Nat, (fun q => B ≤ q) q → B ≤ q := fun _ h => h
  have hl := lv_entry ([.ref gA0, .ref lA0]) (n := 4) (Nat.le_of_ble_eq_true rfl)
  rw [lg_entry_eq]
  generalize (lg_sl ([.ref gA0, .ref lA0]) ++ List.replicate (4 - (lg_sl ([.ref gA0, .ref lA0])).length) Slot.unset).toArray = ls at hl ⊢
  have hl : lv_has ls 4 [(0, .ref gA0), (1, .ref lA0)] := hl
  refine lv_iconst (v := 0) hx hb dL_players_0 (by decide) ?_
  refine lv_istore_n (lv' := [(2, .int 0), (0, .ref gA0), (1, .ref lA0)]) hx hb dL_players_1 rfl hl (by decide) rfl (fun ls hl => ?_)
  refine lv_iconst (v := 0) hx hb dL_players_2 (by decide) ?_
  refine lv_istore_n (lv' := [(3, .int 0), (2, .int 0), (0, .ref gA0), (1, .ref lA0)]) hx hb dL_players_3 rfl hl (by decide) rfl (fun ls hl => ?_)
  have cont0 : ∀ (i2_1 : Int32) (i3_2 : Int32), lp (fun (x : Int32 × Int32) => f_L_players_st ga la x.1 x.2) default ((((ga 0) : Int32).toInt - (0 : Int32).toInt).toNat + 1) (0, 0) = (i2_1, i3_2) → ¬ i3_2 < 0 → ∀ ls : Array Slot, lv_has ls 4 [(0, .ref gA0), (1, .ref lA0), (2, .int i2_1), (3, .int i3_2)] → W p l e (headSpec wsL_players ({ frames := 0, cells := 0, slots := 0, locals := 0 } : Room)).room s m ([.ref gA0, .ref lA0] : List Value).toArray below meth c s.heap [] 0 0 (MQ below (vp_Si (fun r => r = f_L_players ga la)) ([.ref gA0, .ref lA0] : List Value).toArray s 0 0 (fun _ => False)) (F0 m 33 ls []) := by
    intro i2_1 i3_2 hE0 hj0_0 ls hl
    refine lv_iload_n hx hb dL_players_33 rfl (lv_at hl 2 rfl) ?_
    exact W.iret hx hb hr (fun t ht hW => ⟨i2_1, rfl, (show f_L_players ga la = i2_1 from by rw [f_L_players, hE0, my_t2_eq]).symm, ht⟩) (fun q hq => absurd hq List.not_mem_nil) dL_players_34
  have key : ∀ (nf : Nat) (i2_1 : Int32) (i3_2 : Int32), (((ga 0) : Int32).toInt - (i3_2 : Int32).toInt).toNat < nf → lp (fun (x : Int32 × Int32) => f_L_players_st ga la x.1 x.2) default nf (i2_1, i3_2) = lp (fun (x : Int32 × Int32) => f_L_players_st ga la x.1 x.2) default ((((ga 0) : Int32).toInt - (0 : Int32).toInt).toNat + 1) (0, 0) → ¬ i3_2 < 0 → ∀ ls : Array Slot, lv_has ls 4 [(0, .ref gA0), (1, .ref lA0), (2, .int i2_1), (3, .int i3_2)] → W p l e (headSpec wsL_players ({ frames := 0, cells := 0, slots := 0, locals := 0 } : Room)).room s m ([.ref gA0, .ref lA0] : List Value).toArray below meth c s.heap [] 0 0 (MQ below (vp_Si (fun r => r = f_L_players ga la)) ([.ref gA0, .ref lA0] : List Value).toArray s 0 0 (fun _ => False)) (F0 m 4 ls []) := by
    intro n0
    induction n0 with
    | zero => intro i2_1 i3_2 hlt; exact absurd hlt (Nat.not_lt_zero _)
    | succ n0 ih0 =>
      intro i2_1 i3_2 hlt0 hF0 hi0_0 ls hl
      refine lv_iload_n hx hb dL_players_4 rfl (lv_at hl 3 rfl) ?_
      refine lv_aload_n hx hb dL_players_5 rfl (lv_at hl 0 rfl) ?_
      refine lv_iconst (v := 0) hx hb dL_players_6 (by decide) ?_
      refine va_iald hx hb hK0.1 hP 0 0 rfl rfl (vp_in_nI (n := 0) (N := 3) (by decide) (by decide)) dL_players_7 ?_
      refine W.eq (g2 := F0 m 8 ls [.int (ga 0), .int i3_2]) rfl ?_
      refine lv_icmp_ge (tgt := 33) hx hb dL_players_8 (by decide) (fun c_3 => ?_) (fun c_3 => ?_)
      · have hst : f_L_players_st ga la i2_1 i3_2 = .inr (i2_1, i3_2) := by rw [f_L_players_st, if_pos c_3]
        exact cont0 i2_1 i3_2 (lp_inr hst hF0) hi0_0 _ (lv_sub hl [0, 1, 2, 3] rfl)
      · refine lv_iload_n hx hb dL_players_11 rfl (lv_at hl 2 rfl) ?_
        refine lv_aload_n hx hb dL_players_12 rfl (lv_at hl 1 rfl) ?_
        refine lv_iload_n hx hb dL_players_13 rfl (lv_at hl 3 rfl) ?_
        refine va_iald hx hb hK0.1 hP 1 0 rfl rfl (ix_self (K := 8) (N := 8) hi0_0 c_3 hg0 (by decide)) dL_players_14 ?_
        refine lv_if_ge (tgt := 24) hx hb dL_players_15 (by decide) (fun c_4 => ?_) (fun c_4 => ?_)
        · refine lv_iconst (v := 0) hx hb dL_players_24 (by decide) ?_
          refine lv_iadd hx hb dL_players_25 ?_
          refine lv_istore_n (lv' := [(2, .int (i2_1 + 0)), (0, .ref gA0), (1, .ref lA0), (3, .int i3_2)]) hx hb dL_players_26 rfl hl (by decide) rfl (fun ls hl => ?_)
          refine lv_iinc (v := (i3_2 + 1)) (lv' := [(3, .int (i3_2 + 1)), (2, .int (i2_1 + 0)), (0, .ref gA0), (1, .ref lA0)]) hx hb dL_players_27 hl (k := 3) rfl rfl (by decide) rfl (fun ls hl => ?_)
          refine lv_goto (tgt := 4) hx hb dL_players_30 (by decide) ?_
          have hst : f_L_players_st ga la i2_1 i3_2 = .inl ((i2_1 + 0), (i3_2 + 1)) := by rw [f_L_players_st, if_neg c_3, if_pos c_4]
          have hmu : (((ga 0) : Int32).toInt - ((i3_2 + 1) : Int32).toInt).toNat < (((ga 0) : Int32).toInt - (i3_2 : Int32).toInt).toNat := mu_up c_3
          exact ih0 (i2_1 + 0) (i3_2 + 1) (Nat.lt_of_lt_of_le hmu (Nat.le_of_lt_succ hlt0)) (lp_inl hst hF0) (nn_up hi0_0 c_3) _ (lv_sub hl [2, 3, 1, 0] rfl)
        · refine lv_iconst (v := 1) hx hb dL_players_18 (by decide) ?_
          refine lv_iload_n hx hb dL_players_19 rfl (lv_at hl 3 rfl) ?_
          refine lv_ishl hx hb dL_players_20 ?_
          refine lv_goto (tgt := 25) hx hb dL_players_21 (by decide) ?_
          refine lv_iadd hx hb dL_players_25 ?_
          refine lv_istore_n (lv' := [(2, .int (i2_1 + (1 <<< (i3_2 &&& 31)))), (0, .ref gA0), (1, .ref lA0), (3, .int i3_2)]) hx hb dL_players_26 rfl hl (by decide) rfl (fun ls hl => ?_)
          refine lv_iinc (v := (i3_2 + 1)) (lv' := [(3, .int (i3_2 + 1)), (2, .int (i2_1 + (1 <<< (i3_2 &&& 31)))), (0, .ref gA0), (1, .ref lA0)]) hx hb dL_players_27 hl (k := 3) rfl rfl (by decide) rfl (fun ls hl => ?_)
          refine lv_goto (tgt := 4) hx hb dL_players_30 (by decide) ?_
          have hst : f_L_players_st ga la i2_1 i3_2 = .inl ((i2_1 + (1 <<< (i3_2 &&& 31))), (i3_2 + 1)) := by rw [f_L_players_st, if_neg c_3, if_neg c_4]
          have hmu : (((ga 0) : Int32).toInt - ((i3_2 + 1) : Int32).toInt).toNat < (((ga 0) : Int32).toInt - (i3_2 : Int32).toInt).toNat := mu_up c_3
          exact ih0 (i2_1 + (1 <<< (i3_2 &&& 31))) (i3_2 + 1) (Nat.lt_of_lt_of_le hmu (Nat.le_of_lt_succ hlt0)) (lp_inl hst hF0) (nn_up hi0_0 c_3) _ (lv_sub hl [2, 3, 1, 0] rfl)
  exact key ((((ga 0) : Int32).toInt - (0 : Int32).toInt).toNat + 1) 0 0 (Nat.lt_succ_self _) rfl (by decide) _ (lv_sub hl [2, 3, 1, 0] rfl)
theorem hd_L_at_S : yL_at.cls ≠ "java/lang/invoke/MethodHandle" ∧ yL_at.cls ≠ "java/lang/invoke/VarHandle" ∧ (parseMethodDescriptor yL_at.desc).map (fun d => d.parameters.length) = some 2 := by decide +kernel
theorem hd_L_at_V : yL_at.cls = RL ∧ yL_at.cls ≠ "java/lang/invoke/MethodHandle" ∧ yL_at.cls ≠ "java/lang/invoke/VarHandle" ∧ (parseMethodDescriptor yL_at.desc).map (fun d => d.parameters.length) = some 2 := ⟨rfl, hd_L_at_S⟩
def f_L_at (ta : (Nat → Int64)) (x1 : Int32) : Int32 := (if (lg_cmp (((ta (x1 >>> (6 &&& 31)).toNatClampNeg) >>> ((Int32.toInt64 (x1 &&& 63)) &&& 63)) &&& 1) 1) = 0 then 1 else 0)
theorem z_L_at (ta : (Nat → Int64)) (x1 : Int32) : f_L_at ta x1 = 0 ∨ f_L_at ta x1 = 1 := by
  unfold f_L_at
  repeat' split
  all_goals first | exact Or.inl rfl | exact Or.inr rfl
set_option maxHeartbeats 3200000 in
set_option maxRecDepth 100000 in
theorem c_L_at (l : Launch) (D : va_G) (cy : Nat → ClassId) (g : Nat → Nat) (B : Nat) (tA0 : Nat) (ta : (Nat → Int64)) (x1 : Int32) (h0 : ¬ x1 < 0) (h1 : ¬ 256 ≤ x1) : Met l yL_at wsL_at ({ frames := 0, cells := 0, slots := 0, locals := 0 }) (rdP D cy g B (wL cy tA0 4 ta) [.ref tA0, .int x1]) (vp_Si (fun r => r = f_L_at ta x1)) 0 0 (fun _ => False) := by
  refine Met.ofW (cc := cL_at) (maxL := 2) (ret := (some .boolean)) (by decide) rfl ?_
  intro p e s m args below meth c s₁ BB hml hv
  obtain ⟨rfl, hP, hK0⟩ := hv
  have hx := BB.exec
  have hb := BB.bytes
  have hr := BB.returns
  have hts := atoms_spec (ws := wsL_at) BB.pre
  have hown : s.vm.findClass RL = some m.cls := findClass_of_methodNamed BB.named
  have hlocks := BB.notSynchronized
  have S := my_fix hx hb hml hown hts
  have hS : va_S (fun q => B ≤ q) s.heap s.heap [] := va_S.rf
  have hAB : ∀ q : Nat, (fun q => B ≤ q) q → B ≤ q := fun _ h => h
  have hl := lv_entry ([.ref tA0, .int x1]) (n := 2) (Nat.le_of_ble_eq_true rfl)
  rw [lg_entry_eq]
  generalize (lg_sl ([.ref tA0, .int x1]) ++ List.replicate (2 - (lg_sl ([.ref tA0, .int x1])).length) Slot.unset).toArray = ls at hl ⊢
  have hl : lv_has ls 2 [(0, .ref tA0), (1, .int x1)] := hl
  refine lv_aload_n hx hb dL_at_0 rfl (lv_at hl 0 rfl) ?_
  refine lv_iload_n hx hb dL_at_1 rfl (lv_at hl 1 rfl) ?_
  refine lv_bipush (v := 6) hx hb dL_at_2 (by decide) ?_
  refine lv_ishr hx hb dL_at_4 ?_
  refine va_lald hx hb hK0.1 hP 0 1 rfl rfl (ix_sh6 h0 h1) dL_at_5 ?_
  refine lv_iload_n hx hb dL_at_6 rfl (lv_at hl 1 rfl) ?_
  refine lv_bipush (v := 63) hx hb dL_at_7 (by decide) ?_
  refine lv_iand hx hb dL_at_9 ?_
  refine lv_lshr (v := ((ta (x1 >>> (6 &&& 31)).toNatClampNeg) >>> ((Int32.toInt64 (x1 &&& 63)) &&& 63))) hx hb dL_at_10 rfl ?_
  refine lv_lconst (v := 1) hx hb dL_at_11 (by decide) ?_
  refine lv_land hx hb dL_at_12 ?_
  refine lv_lconst (v := 1) hx hb dL_at_13 (by decide) ?_
  refine W.lcmp hx hb dL_at_14 ?_
  refine lv_if_ne (tgt := 22) hx hb dL_at_15 (by decide) (fun c_1 => ?_) (fun c_1 => ?_)
  · refine lv_iconst (v := 0) hx hb dL_at_22 (by decide) ?_
    exact W.zret (ty := .boolean) (v := 0) hx hb hr (my_nz (by decide)) (fun t ht hW => ⟨0, rfl, (show f_L_at ta x1 = 0 from by rw [f_L_at, if_neg c_1]).symm, ht⟩) (fun q hq => absurd hq List.not_mem_nil) dL_at_23
  · refine lv_iconst (v := 1) hx hb dL_at_18 (by decide) ?_
    refine lv_goto (tgt := 23) hx hb dL_at_19 (by decide) ?_
    exact W.zret (ty := .boolean) (v := 1) hx hb hr (my_nz (by decide)) (fun t ht hW => ⟨1, rfl, (show f_L_at ta x1 = 1 from by rw [f_L_at, if_pos c_1]).symm, ht⟩) (fun q hq => absurd hq List.not_mem_nil) dL_at_23
theorem hd_L_swings_S : yL_swings.cls ≠ "java/lang/invoke/MethodHandle" ∧ yL_swings.cls ≠ "java/lang/invoke/VarHandle" ∧ (parseMethodDescriptor yL_swings.desc).map (fun d => d.parameters.length) = some 2 := by decide +kernel
theorem hd_L_swings_V : yL_swings.cls = RL ∧ yL_swings.cls ≠ "java/lang/invoke/MethodHandle" ∧ yL_swings.cls ≠ "java/lang/invoke/VarHandle" ∧ (parseMethodDescriptor yL_swings.desc).map (fun d => d.parameters.length) = some 2 := ⟨rfl, hd_L_swings_S⟩
def f_L_swings_st (ta : (Nat → Int64)) (x1 : Int32) (i2_1 : Int32) (i3_2 : Int32) : (Int32 × Int32) ⊕ (Int32 × Int32) := (if 256 ≤ i3_2 then (.inr (i2_1, i3_2)) else (if ((i3_2 >>> (x1 &&& 31)) &&& 1) = 0 then (if (f_L_at ta (i3_2 + (1 <<< (x1 &&& 31)))) = 0 then (.inl ((i2_1 + 0), (i3_2 + 1))) else (if (f_L_at ta i3_2) = 0 then (.inl ((i2_1 + 1), (i3_2 + 1))) else (.inl ((i2_1 + 0), (i3_2 + 1))))) else (.inl ((i2_1 + 0), (i3_2 + 1)))))
def f_L_swings (ta : (Nat → Int64)) (x1 : Int32) : Int32 := (my_t2 (lp (fun (x : Int32 × Int32) => f_L_swings_st ta x1 x.1 x.2) default (((256 : Int32).toInt - (0 : Int32).toInt).toNat + 1) (0, 0)) (fun (i2_1 : Int32) (i3_2 : Int32) => i2_1))
set_option maxHeartbeats 3200000 in
set_option maxRecDepth 100000 in
theorem c_L_swings (l : Launch) (D : va_G) (cy : Nat → ClassId) (g : Nat → Nat) (B : Nat) (tA0 : Nat) (ta : (Nat → Int64)) (x1 : Int32) (h0 : ¬ x1 < 0) (h1 : ¬ 8 ≤ x1) : Met l yL_swings wsL_swings ({ frames := 1, cells := 0, slots := 0, locals := 21 }) (rdP D cy g B (wL cy tA0 4 ta) [.ref tA0, .int x1]) (vp_Si (fun r => r = f_L_swings ta x1)) 0 0 (fun _ => False) := by
  refine Met.ofW (cc := cL_swings) (maxL := 4) (ret := (some .int)) (by decide) rfl ?_
  intro p e s m args below meth c s₁ BB hml hv
  obtain ⟨rfl, hP, hK0⟩ := hv
  have hx := BB.exec
  have hb := BB.bytes
  have hr := BB.returns
  have hts := atoms_spec (ws := wsL_swings) BB.pre
  have hown : s.vm.findClass RL = some m.cls := findClass_of_methodNamed BB.named
  have hlocks := BB.notSynchronized
  have S := my_fix hx hb hml hown hts
  have hS : va_S (fun q => B ≤ q) s.heap s.heap [] := va_S.rf
  have hAB : ∀ q : Nat, (fun q => B ≤ q) q → B ≤ q := fun _ h => h
  have hl := lv_entry ([.ref tA0, .int x1]) (n := 4) (Nat.le_of_ble_eq_true rfl)
  rw [lg_entry_eq]
  generalize (lg_sl ([.ref tA0, .int x1]) ++ List.replicate (4 - (lg_sl ([.ref tA0, .int x1])).length) Slot.unset).toArray = ls at hl ⊢
  have hl : lv_has ls 4 [(0, .ref tA0), (1, .int x1)] := hl
  refine lv_iconst (v := 0) hx hb dL_swings_0 (by decide) ?_
  refine lv_istore_n (lv' := [(2, .int 0), (0, .ref tA0), (1, .int x1)]) hx hb dL_swings_1 rfl hl (by decide) rfl (fun ls hl => ?_)
  refine lv_iconst (v := 0) hx hb dL_swings_2 (by decide) ?_
  refine lv_istore_n (lv' := [(3, .int 0), (2, .int 0), (0, .ref tA0), (1, .int x1)]) hx hb dL_swings_3 rfl hl (by decide) rfl (fun ls hl => ?_)
  have cont0 : ∀ (i2_1 : Int32) (i3_2 : Int32), lp (fun (x : Int32 × Int32) => f_L_swings_st ta x1 x.1 x.2) default (((256 : Int32).toInt - (0 : Int32).toInt).toNat + 1) (0, 0) = (i2_1, i3_2) → ¬ i3_2 < 0 → ∀ ls : Array Slot, lv_has ls 4 [(0, .ref tA0), (1, .int x1), (2, .int i2_1), (3, .int i3_2)] → W p l e (headSpec wsL_swings ({ frames := 1, cells := 0, slots := 0, locals := 21 } : Room)).room s m ([.ref tA0, .int x1] : List Value).toArray below meth c s.heap [] 0 0 (MQ below (vp_Si (fun r => r = f_L_swings ta x1)) ([.ref tA0, .int x1] : List Value).toArray s 0 0 (fun _ => False)) (F0 m 53 ls []) := by
    intro i2_1 i3_2 hE0 hj0_0 ls hl
    refine lv_iload_n hx hb dL_swings_53 rfl (lv_at hl 2 rfl) ?_
    exact W.iret hx hb hr (fun t ht hW => ⟨i2_1, rfl, (show f_L_swings ta x1 = i2_1 from by rw [f_L_swings, hE0, my_t2_eq]).symm, ht⟩) (fun q hq => absurd hq List.not_mem_nil) dL_swings_54
  have key : ∀ (nf : Nat) (i2_1 : Int32) (i3_2 : Int32), ((256 : Int32).toInt - (i3_2 : Int32).toInt).toNat < nf → lp (fun (x : Int32 × Int32) => f_L_swings_st ta x1 x.1 x.2) default nf (i2_1, i3_2) = lp (fun (x : Int32 × Int32) => f_L_swings_st ta x1 x.1 x.2) default (((256 : Int32).toInt - (0 : Int32).toInt).toNat + 1) (0, 0) → ¬ i3_2 < 0 → ∀ ls : Array Slot, lv_has ls 4 [(0, .ref tA0), (1, .int x1), (2, .int i2_1), (3, .int i3_2)] → W p l e (headSpec wsL_swings ({ frames := 1, cells := 0, slots := 0, locals := 21 } : Room)).room s m ([.ref tA0, .int x1] : List Value).toArray below meth c s.heap [] 0 0 (MQ below (vp_Si (fun r => r = f_L_swings ta x1)) ([.ref tA0, .int x1] : List Value).toArray s 0 0 (fun _ => False)) (F0 m 4 ls []) := by
    intro n0
    induction n0 with
    | zero => intro i2_1 i3_2 hlt; exact absurd hlt (Nat.not_lt_zero _)
    | succ n0 ih0 =>
      intro i2_1 i3_2 hlt0 hF0 hi0_0 ls hl
      refine lv_iload_n hx hb dL_swings_4 rfl (lv_at hl 3 rfl) ?_
      refine lv_sipush (v := 256) hx hb dL_swings_5 (by decide) ?_
      refine lv_icmp_ge (tgt := 53) hx hb dL_swings_8 (by decide) (fun c_3 => ?_) (fun c_3 => ?_)
      · have hst : f_L_swings_st ta x1 i2_1 i3_2 = .inr (i2_1, i3_2) := by rw [f_L_swings_st, if_pos c_3]
        exact cont0 i2_1 i3_2 (lp_inr hst hF0) hi0_0 _ (lv_sub hl [0, 1, 2, 3] rfl)
      · refine lv_iload_n hx hb dL_swings_11 rfl (lv_at hl 2 rfl) ?_
        refine lv_iload_n hx hb dL_swings_12 rfl (lv_at hl 3 rfl) ?_
        refine lv_iload_n hx hb dL_swings_13 rfl (lv_at hl 1 rfl) ?_
        refine lv_ishr hx hb dL_swings_14 ?_
        refine lv_iconst (v := 1) hx hb dL_swings_15 (by decide) ?_
        refine lv_iand hx hb dL_swings_16 ?_
        refine lv_if_ne (tgt := 44) hx hb dL_swings_17 (by decide) (fun c_4 => ?_) (fun c_4 => ?_)
        · refine lv_iconst (v := 0) hx hb dL_swings_44 (by decide) ?_
          refine lv_iadd hx hb dL_swings_45 ?_
          refine lv_istore_n (lv' := [(2, .int (i2_1 + 0)), (0, .ref tA0), (1, .int x1), (3, .int i3_2)]) hx hb dL_swings_46 rfl hl (by decide) rfl (fun ls hl => ?_)
          refine lv_iinc (v := (i3_2 + 1)) (lv' := [(3, .int (i3_2 + 1)), (2, .int (i2_1 + 0)), (0, .ref tA0), (1, .int x1)]) hx hb dL_swings_47 hl (k := 3) rfl rfl (by decide) rfl (fun ls hl => ?_)
          refine lv_goto (tgt := 4) hx hb dL_swings_50 (by decide) ?_
          have hst : f_L_swings_st ta x1 i2_1 i3_2 = .inl ((i2_1 + 0), (i3_2 + 1)) := by rw [f_L_swings_st, if_neg c_3, if_neg c_4]
          have hmu : ((256 : Int32).toInt - ((i3_2 + 1) : Int32).toInt).toNat < ((256 : Int32).toInt - (i3_2 : Int32).toInt).toNat := mu_up c_3
          exact ih0 (i2_1 + 0) (i3_2 + 1) (Nat.lt_of_lt_of_le hmu (Nat.le_of_lt_succ hlt0)) (lp_inl hst hF0) (nn_up hi0_0 c_3) _ (lv_sub hl [2, 3, 1, 0] rfl)
        · refine lv_aload_n hx hb dL_swings_20 rfl (lv_at hl 0 rfl) ?_
          refine lv_iload_n hx hb dL_swings_21 rfl (lv_at hl 3 rfl) ?_
          refine lv_iconst (v := 1) hx hb dL_swings_22 (by decide) ?_
          refine lv_iload_n hx hb dL_swings_23 rfl (lv_at hl 1 rfl) ?_
          refine lv_ishl hx hb dL_swings_24 ?_
          refine lv_iadd hx hb dL_swings_25 ?_
          refine rd_goi (va_runS (As := [.ref tA0, .int (i3_2 + (1 <<< (x1 &&& 31)))]) (rest := [.int i2_1]) S (c_L_at l D cy g B tA0 ta (i3_2 + (1 <<< (x1 &&& 31))) (swp_lo hi0_0 c_3 h0 h1 c_4) (swp_hi hi0_0 c_3 h0 h1 c_4)) (va_cwS 2 hts gL_swings_L_at rfl rfl rfl hd_L_at_S ⟨Nat.le_of_ble_eq_true rfl, Nat.le_of_ble_eq_true rfl⟩) ⟨rdP_blind, my_preP hK0 hS hAB hP⟩ rfl rfl hl.1 rfl (lv_room (Nat.le_of_ble_eq_true rfl)) dL_swings_26 ⟨Nat.zero_le _, Nat.zero_le _⟩) ?_
          refine lv_if_eq (tgt := 44) hx hb dL_swings_29 (by decide) (fun c_5 => ?_) (fun c_5 => ?_)
          · refine lv_iconst (v := 0) hx hb dL_swings_44 (by decide) ?_
            refine lv_iadd hx hb dL_swings_45 ?_
            refine lv_istore_n (lv' := [(2, .int (i2_1 + 0)), (0, .ref tA0), (1, .int x1), (3, .int i3_2)]) hx hb dL_swings_46 rfl hl (by decide) rfl (fun ls hl => ?_)
            refine lv_iinc (v := (i3_2 + 1)) (lv' := [(3, .int (i3_2 + 1)), (2, .int (i2_1 + 0)), (0, .ref tA0), (1, .int x1)]) hx hb dL_swings_47 hl (k := 3) rfl rfl (by decide) rfl (fun ls hl => ?_)
            refine lv_goto (tgt := 4) hx hb dL_swings_50 (by decide) ?_
            have hst : f_L_swings_st ta x1 i2_1 i3_2 = .inl ((i2_1 + 0), (i3_2 + 1)) := by rw [f_L_swings_st, if_neg c_3, if_pos c_4, if_pos c_5]
            have hmu : ((256 : Int32).toInt - ((i3_2 + 1) : Int32).toInt).toNat < ((256 : Int32).toInt - (i3_2 : Int32).toInt).toNat := mu_up c_3
            exact ih0 (i2_1 + 0) (i3_2 + 1) (Nat.lt_of_lt_of_le hmu (Nat.le_of_lt_succ hlt0)) (lp_inl hst hF0) (nn_up hi0_0 c_3) _ (lv_sub hl [2, 3, 1, 0] rfl)
          · refine lv_aload_n hx hb dL_swings_32 rfl (lv_at hl 0 rfl) ?_
            refine lv_iload_n hx hb dL_swings_33 rfl (lv_at hl 3 rfl) ?_
            refine rd_goi (va_runS (As := [.ref tA0, .int i3_2]) (rest := [.int i2_1]) S (c_L_at l D cy g B tA0 ta i3_2 hi0_0 c_3) (va_cwS 2 hts gL_swings_L_at rfl rfl rfl hd_L_at_S ⟨Nat.le_of_ble_eq_true rfl, Nat.le_of_ble_eq_true rfl⟩) ⟨rdP_blind, my_preP hK0 hS hAB hP⟩ rfl rfl hl.1 rfl (lv_room (Nat.le_of_ble_eq_true rfl)) dL_swings_34 ⟨Nat.zero_le _, Nat.zero_le _⟩) ?_
            refine lv_if_ne (tgt := 44) hx hb dL_swings_37 (by decide) (fun c_6 => ?_) (fun c_6 => ?_)
            · refine lv_iconst (v := 0) hx hb dL_swings_44 (by decide) ?_
              refine lv_iadd hx hb dL_swings_45 ?_
              refine lv_istore_n (lv' := [(2, .int (i2_1 + 0)), (0, .ref tA0), (1, .int x1), (3, .int i3_2)]) hx hb dL_swings_46 rfl hl (by decide) rfl (fun ls hl => ?_)
              refine lv_iinc (v := (i3_2 + 1)) (lv' := [(3, .int (i3_2 + 1)), (2, .int (i2_1 + 0)), (0, .ref tA0), (1, .int x1)]) hx hb dL_swings_47 hl (k := 3) rfl rfl (by decide) rfl (fun ls hl => ?_)
              refine lv_goto (tgt := 4) hx hb dL_swings_50 (by decide) ?_
              have hst : f_L_swings_st ta x1 i2_1 i3_2 = .inl ((i2_1 + 0), (i3_2 + 1)) := by rw [f_L_swings_st, if_neg c_3, if_pos c_4, if_neg c_5, if_neg c_6]
              have hmu : ((256 : Int32).toInt - ((i3_2 + 1) : Int32).toInt).toNat < ((256 : Int32).toInt - (i3_2 : Int32).toInt).toNat := mu_up c_3
              exact ih0 (i2_1 + 0) (i3_2 + 1) (Nat.lt_of_lt_of_le hmu (Nat.le_of_lt_succ hlt0)) (lp_inl hst hF0) (nn_up hi0_0 c_3) _ (lv_sub hl [2, 3, 1, 0] rfl)
            · refine lv_iconst (v := 1) hx hb dL_swings_40 (by decide) ?_
              refine lv_goto (tgt := 45) hx hb dL_swings_41 (by decide) ?_
              refine lv_iadd hx hb dL_swings_45 ?_
              refine lv_istore_n (lv' := [(2, .int (i2_1 + 1)), (0, .ref tA0), (1, .int x1), (3, .int i3_2)]) hx hb dL_swings_46 rfl hl (by decide) rfl (fun ls hl => ?_)
              refine lv_iinc (v := (i3_2 + 1)) (lv' := [(3, .int (i3_2 + 1)), (2, .int (i2_1 + 1)), (0, .ref tA0), (1, .int x1)]) hx hb dL_swings_47 hl (k := 3) rfl rfl (by decide) rfl (fun ls hl => ?_)
              refine lv_goto (tgt := 4) hx hb dL_swings_50 (by decide) ?_
              have hst : f_L_swings_st ta x1 i2_1 i3_2 = .inl ((i2_1 + 1), (i3_2 + 1)) := by rw [f_L_swings_st, if_neg c_3, if_pos c_4, if_neg c_5, if_pos c_6]
              have hmu : ((256 : Int32).toInt - ((i3_2 + 1) : Int32).toInt).toNat < ((256 : Int32).toInt - (i3_2 : Int32).toInt).toNat := mu_up c_3
              exact ih0 (i2_1 + 1) (i3_2 + 1) (Nat.lt_of_lt_of_le hmu (Nat.le_of_lt_succ hlt0)) (lp_inl hst hF0) (nn_up hi0_0 c_3) _ (lv_sub hl [2, 3, 1, 0] rfl)
  exact key (((256 : Int32).toInt - (0 : Int32).toInt).toNat + 1) 0 0 (Nat.lt_succ_self _) rfl (by decide) _ (lv_sub hl [2, 3, 1, 0] rfl)
theorem hd_L_sum_S : yL_sum.cls ≠ "java/lang/invoke/MethodHandle" ∧ yL_sum.cls ≠ "java/lang/invoke/VarHandle" ∧ (parseMethodDescriptor yL_sum.desc).map (fun d => d.parameters.length) = some 1 := by decide +kernel
theorem hd_L_sum_V : yL_sum.cls = RL ∧ yL_sum.cls ≠ "java/lang/invoke/MethodHandle" ∧ yL_sum.cls ≠ "java/lang/invoke/VarHandle" ∧ (parseMethodDescriptor yL_sum.desc).map (fun d => d.parameters.length) = some 1 := ⟨rfl, hd_L_sum_S⟩
def f_L_sum_st (ta : (Nat → Int64)) (i1_1 : Int32) (i2_2 : Int32) : (Int32 × Int32) ⊕ (Int32 × Int32) := (if 8 ≤ i2_2 then (.inr (i1_1, i2_2)) else (.inl ((i1_1 + (f_L_swings ta i2_2)), (i2_2 + 1))))
def f_L_sum (ta : (Nat → Int64)) : Int32 := (my_t2 (lp (fun (x : Int32 × Int32) => f_L_sum_st ta x.1 x.2) default (((8 : Int32).toInt - (0 : Int32).toInt).toNat + 1) (0, 0)) (fun (i1_1 : Int32) (i2_2 : Int32) => i1_1))
set_option maxHeartbeats 3200000 in
set_option maxRecDepth 100000 in
theorem c_L_sum (l : Launch) (D : va_G) (cy : Nat → ClassId) (g : Nat → Nat) (B : Nat) (tA0 : Nat) (ta : (Nat → Int64)) : Met l yL_sum wsL_sum ({ frames := 2, cells := 0, slots := 0, locals := 44 }) (rdP D cy g B (wL cy tA0 4 ta) [.ref tA0]) (vp_Si (fun r => r = f_L_sum ta)) 0 0 (fun _ => False) := by
  refine Met.ofW (cc := cL_sum) (maxL := 3) (ret := (some .int)) (by decide) rfl ?_
  intro p e s m args below meth c s₁ BB hml hv
  obtain ⟨rfl, hP, hK0⟩ := hv
  have hx := BB.exec
  have hb := BB.bytes
  have hr := BB.returns
  have hts := atoms_spec (ws := wsL_sum) BB.pre
  have hown : s.vm.findClass RL = some m.cls := findClass_of_methodNamed BB.named
  have hlocks := BB.notSynchronized
  have S := my_fix hx hb hml hown hts
  have hS : va_S (fun q => B ≤ q) s.heap s.heap [] := va_S.rf
  have hAB : ∀ q : Nat, (fun q => B ≤ q) q → B ≤ q := fun _ h => h
  have hl := lv_entry ([.ref tA0]) (n := 3) (Nat.le_of_ble_eq_true rfl)
  rw [lg_entry_eq]
  generalize (lg_sl ([.ref tA0]) ++ List.replicate (3 - (lg_sl ([.ref tA0])).length) Slot.unset).toArray = ls at hl ⊢
  have hl : lv_has ls 3 [(0, .ref tA0)] := hl
  refine lv_iconst (v := 0) hx hb dL_sum_0 (by decide) ?_
  refine lv_istore_n (lv' := [(1, .int 0), (0, .ref tA0)]) hx hb dL_sum_1 rfl hl (by decide) rfl (fun ls hl => ?_)
  refine lv_iconst (v := 0) hx hb dL_sum_2 (by decide) ?_
  refine lv_istore_n (lv' := [(2, .int 0), (1, .int 0), (0, .ref tA0)]) hx hb dL_sum_3 rfl hl (by decide) rfl (fun ls hl => ?_)
  have cont0 : ∀ (i1_1 : Int32) (i2_2 : Int32), lp (fun (x : Int32 × Int32) => f_L_sum_st ta x.1 x.2) default (((8 : Int32).toInt - (0 : Int32).toInt).toNat + 1) (0, 0) = (i1_1, i2_2) → ¬ i2_2 < 0 → ∀ ls : Array Slot, lv_has ls 3 [(0, .ref tA0), (1, .int i1_1), (2, .int i2_2)] → W p l e (headSpec wsL_sum ({ frames := 2, cells := 0, slots := 0, locals := 44 } : Room)).room s m ([.ref tA0] : List Value).toArray below meth c s.heap [] 0 0 (MQ below (vp_Si (fun r => r = f_L_sum ta)) ([.ref tA0] : List Value).toArray s 0 0 (fun _ => False)) (F0 m 24 ls []) := by
    intro i1_1 i2_2 hE0 hj0_0 ls hl
    refine lv_iload_n hx hb dL_sum_24 rfl (lv_at hl 1 rfl) ?_
    exact W.iret hx hb hr (fun t ht hW => ⟨i1_1, rfl, (show f_L_sum ta = i1_1 from by rw [f_L_sum, hE0, my_t2_eq]).symm, ht⟩) (fun q hq => absurd hq List.not_mem_nil) dL_sum_25
  have key : ∀ (nf : Nat) (i1_1 : Int32) (i2_2 : Int32), ((8 : Int32).toInt - (i2_2 : Int32).toInt).toNat < nf → lp (fun (x : Int32 × Int32) => f_L_sum_st ta x.1 x.2) default nf (i1_1, i2_2) = lp (fun (x : Int32 × Int32) => f_L_sum_st ta x.1 x.2) default (((8 : Int32).toInt - (0 : Int32).toInt).toNat + 1) (0, 0) → ¬ i2_2 < 0 → ∀ ls : Array Slot, lv_has ls 3 [(0, .ref tA0), (1, .int i1_1), (2, .int i2_2)] → W p l e (headSpec wsL_sum ({ frames := 2, cells := 0, slots := 0, locals := 44 } : Room)).room s m ([.ref tA0] : List Value).toArray below meth c s.heap [] 0 0 (MQ below (vp_Si (fun r => r = f_L_sum ta)) ([.ref tA0] : List Value).toArray s 0 0 (fun _ => False)) (F0 m 4 ls []) := by
    intro n0
    induction n0 with
    | zero => intro i1_1 i2_2 hlt; exact absurd hlt (Nat.not_lt_zero _)
    | succ n0 ih0 =>
      intro i1_1 i2_2 hlt0 hF0 hi0_0 ls hl
      refine lv_iload_n hx hb dL_sum_4 rfl (lv_at hl 2 rfl) ?_
      refine lv_bipush (v := 8) hx hb dL_sum_5 (by decide) ?_
      refine lv_icmp_ge (tgt := 24) hx hb dL_sum_7 (by decide) (fun c_3 => ?_) (fun c_3 => ?_)
      · have hst : f_L_sum_st ta i1_1 i2_2 = .inr (i1_1, i2_2) := by rw [f_L_sum_st, if_pos c_3]
        exact cont0 i1_1 i2_2 (lp_inr hst hF0) hi0_0 _ (lv_sub hl [0, 1, 2] rfl)
      · refine lv_iload_n hx hb dL_sum_10 rfl (lv_at hl 1 rfl) ?_
        refine lv_aload_n hx hb dL_sum_11 rfl (lv_at hl 0 rfl) ?_
        refine lv_iload_n hx hb dL_sum_12 rfl (lv_at hl 2 rfl) ?_
        refine rd_goi (va_runS (As := [.ref tA0, .int i2_2]) (rest := [.int i1_1]) S (c_L_swings l D cy g B tA0 ta i2_2 hi0_0 c_3) (va_cwS 2 hts gL_sum_L_swings rfl rfl rfl hd_L_swings_S ⟨Nat.le_of_ble_eq_true rfl, Nat.le_of_ble_eq_true rfl⟩) ⟨rdP_blind, my_preP hK0 hS hAB hP⟩ rfl rfl hl.1 rfl (lv_room (Nat.le_of_ble_eq_true rfl)) dL_sum_13 ⟨Nat.zero_le _, Nat.zero_le _⟩) ?_
        refine lv_iadd hx hb dL_sum_16 ?_
        refine lv_istore_n (lv' := [(1, .int (i1_1 + (f_L_swings ta i2_2))), (0, .ref tA0), (2, .int i2_2)]) hx hb dL_sum_17 rfl hl (by decide) rfl (fun ls hl => ?_)
        refine lv_iinc (v := (i2_2 + 1)) (lv' := [(2, .int (i2_2 + 1)), (1, .int (i1_1 + (f_L_swings ta i2_2))), (0, .ref tA0)]) hx hb dL_sum_18 hl (k := 2) rfl rfl (by decide) rfl (fun ls hl => ?_)
        refine lv_goto (tgt := 4) hx hb dL_sum_21 (by decide) ?_
        have hst : f_L_sum_st ta i1_1 i2_2 = .inl ((i1_1 + (f_L_swings ta i2_2)), (i2_2 + 1)) := by rw [f_L_sum_st, if_neg c_3]
        have hmu : ((8 : Int32).toInt - ((i2_2 + 1) : Int32).toInt).toNat < ((8 : Int32).toInt - (i2_2 : Int32).toInt).toNat := mu_up c_3
        exact ih0 (i1_1 + (f_L_swings ta i2_2)) (i2_2 + 1) (Nat.lt_of_lt_of_le hmu (Nat.le_of_lt_succ hlt0)) (lp_inl hst hF0) (nn_up hi0_0 c_3) _ (lv_sub hl [2, 1, 0] rfl)
  exact key (((8 : Int32).toInt - (0 : Int32).toInt).toNat + 1) 0 0 (Nat.lt_succ_self _) rfl (by decide) _ (lv_sub hl [2, 1, 0] rfl)
theorem hd_L_ones_S : yL_ones.cls ≠ "java/lang/invoke/MethodHandle" ∧ yL_ones.cls ≠ "java/lang/invoke/VarHandle" ∧ (parseMethodDescriptor yL_ones.desc).map (fun d => d.parameters.length) = some 1 := by decide +kernel
theorem hd_L_ones_V : yL_ones.cls = RL ∧ yL_ones.cls ≠ "java/lang/invoke/MethodHandle" ∧ yL_ones.cls ≠ "java/lang/invoke/VarHandle" ∧ (parseMethodDescriptor yL_ones.desc).map (fun d => d.parameters.length) = some 1 := ⟨rfl, hd_L_ones_S⟩
def f_L_ones_st (x0 : Int32) (i1_1 : Int32) (i2_2 : Int32) : (Int32 × Int32) ⊕ (Int32 × Int32) := (if 8 ≤ i2_2 then (.inr (i1_1, i2_2)) else (.inl ((i1_1 + ((x0 >>> (i2_2 &&& 31)) &&& 1)), (i2_2 + 1))))
def f_L_ones (x0 : Int32) : Int32 := (my_t2 (lp (fun (x : Int32 × Int32) => f_L_ones_st x0 x.1 x.2) default (((8 : Int32).toInt - (0 : Int32).toInt).toNat + 1) (0, 0)) (fun (i1_1 : Int32) (i2_2 : Int32) => i1_1))
set_option maxHeartbeats 3200000 in
set_option maxRecDepth 100000 in
theorem c_L_ones (l : Launch) (D : va_G) (cy : Nat → ClassId) (g : Nat → Nat) (B : Nat)  (x0 : Int32) : Met l yL_ones wsL_ones ({ frames := 0, cells := 0, slots := 0, locals := 0 }) (rdP D cy g B ([] : va_W) [.int x0]) (vp_Si (fun r => r = f_L_ones x0)) 0 0 (fun _ => False) := by
  refine Met.ofW (cc := cL_ones) (maxL := 3) (ret := (some .int)) (by decide) rfl ?_
  intro p e s m args below meth c s₁ BB hml hv
  obtain ⟨rfl, hP, hK0⟩ := hv
  have hx := BB.exec
  have hb := BB.bytes
  have hr := BB.returns
  have hts := atoms_spec (ws := wsL_ones) BB.pre
  have hown : s.vm.findClass RL = some m.cls := findClass_of_methodNamed BB.named
  have hlocks := BB.notSynchronized
  have S := my_fix hx hb hml hown hts
  have hS : va_S (fun q => B ≤ q) s.heap s.heap [] := va_S.rf
  have hAB : ∀ q : Nat, (fun q => B ≤ q) q → B ≤ q := fun _ h => h
  have hl := lv_entry ([.int x0]) (n := 3) (Nat.le_of_ble_eq_true rfl)
  rw [lg_entry_eq]
  generalize (lg_sl ([.int x0]) ++ List.replicate (3 - (lg_sl ([.int x0])).length) Slot.unset).toArray = ls at hl ⊢
  have hl : lv_has ls 3 [(0, .int x0)] := hl
  refine lv_iconst (v := 0) hx hb dL_ones_0 (by decide) ?_
  refine lv_istore_n (lv' := [(1, .int 0), (0, .int x0)]) hx hb dL_ones_1 rfl hl (by decide) rfl (fun ls hl => ?_)
  refine lv_iconst (v := 0) hx hb dL_ones_2 (by decide) ?_
  refine lv_istore_n (lv' := [(2, .int 0), (1, .int 0), (0, .int x0)]) hx hb dL_ones_3 rfl hl (by decide) rfl (fun ls hl => ?_)
  have cont0 : ∀ (i1_1 : Int32) (i2_2 : Int32), lp (fun (x : Int32 × Int32) => f_L_ones_st x0 x.1 x.2) default (((8 : Int32).toInt - (0 : Int32).toInt).toNat + 1) (0, 0) = (i1_1, i2_2) → ∀ ls : Array Slot, lv_has ls 3 [(0, .int x0), (1, .int i1_1), (2, .int i2_2)] → W p l e (headSpec wsL_ones ({ frames := 0, cells := 0, slots := 0, locals := 0 } : Room)).room s m ([.int x0] : List Value).toArray below meth c s.heap [] 0 0 (MQ below (vp_Si (fun r => r = f_L_ones x0)) ([.int x0] : List Value).toArray s 0 0 (fun _ => False)) (F0 m 24 ls []) := by
    intro i1_1 i2_2 hE0 ls hl
    refine lv_iload_n hx hb dL_ones_24 rfl (lv_at hl 1 rfl) ?_
    exact W.iret hx hb hr (fun t ht hW => ⟨i1_1, rfl, (show f_L_ones x0 = i1_1 from by rw [f_L_ones, hE0, my_t2_eq]).symm, ht⟩) (fun q hq => absurd hq List.not_mem_nil) dL_ones_25
  have key : ∀ (nf : Nat) (i1_1 : Int32) (i2_2 : Int32), ((8 : Int32).toInt - (i2_2 : Int32).toInt).toNat < nf → lp (fun (x : Int32 × Int32) => f_L_ones_st x0 x.1 x.2) default nf (i1_1, i2_2) = lp (fun (x : Int32 × Int32) => f_L_ones_st x0 x.1 x.2) default (((8 : Int32).toInt - (0 : Int32).toInt).toNat + 1) (0, 0) → ∀ ls : Array Slot, lv_has ls 3 [(0, .int x0), (1, .int i1_1), (2, .int i2_2)] → W p l e (headSpec wsL_ones ({ frames := 0, cells := 0, slots := 0, locals := 0 } : Room)).room s m ([.int x0] : List Value).toArray below meth c s.heap [] 0 0 (MQ below (vp_Si (fun r => r = f_L_ones x0)) ([.int x0] : List Value).toArray s 0 0 (fun _ => False)) (F0 m 4 ls []) := by
    intro n0
    induction n0 with
    | zero => intro i1_1 i2_2 hlt; exact absurd hlt (Nat.not_lt_zero _)
    | succ n0 ih0 =>
      intro i1_1 i2_2 hlt0 hF0 ls hl
      refine lv_iload_n hx hb dL_ones_4 rfl (lv_at hl 2 rfl) ?_
      refine lv_bipush (v := 8) hx hb dL_ones_5 (by decide) ?_
      refine lv_icmp_ge (tgt := 24) hx hb dL_ones_7 (by decide) (fun c_3 => ?_) (fun c_3 => ?_)
      · have hst : f_L_ones_st x0 i1_1 i2_2 = .inr (i1_1, i2_2) := by rw [f_L_ones_st, if_pos c_3]
        exact cont0 i1_1 i2_2 (lp_inr hst hF0) _ (lv_sub hl [0, 1, 2] rfl)
      · refine lv_iload_n hx hb dL_ones_10 rfl (lv_at hl 1 rfl) ?_
        refine lv_iload_n hx hb dL_ones_11 rfl (lv_at hl 0 rfl) ?_
        refine lv_iload_n hx hb dL_ones_12 rfl (lv_at hl 2 rfl) ?_
        refine lv_ishr hx hb dL_ones_13 ?_
        refine lv_iconst (v := 1) hx hb dL_ones_14 (by decide) ?_
        refine lv_iand hx hb dL_ones_15 ?_
        refine lv_iadd hx hb dL_ones_16 ?_
        refine lv_istore_n (lv' := [(1, .int (i1_1 + ((x0 >>> (i2_2 &&& 31)) &&& 1))), (0, .int x0), (2, .int i2_2)]) hx hb dL_ones_17 rfl hl (by decide) rfl (fun ls hl => ?_)
        refine lv_iinc (v := (i2_2 + 1)) (lv' := [(2, .int (i2_2 + 1)), (1, .int (i1_1 + ((x0 >>> (i2_2 &&& 31)) &&& 1))), (0, .int x0)]) hx hb dL_ones_18 hl (k := 2) rfl rfl (by decide) rfl (fun ls hl => ?_)
        refine lv_goto (tgt := 4) hx hb dL_ones_21 (by decide) ?_
        have hst : f_L_ones_st x0 i1_1 i2_2 = .inl ((i1_1 + ((x0 >>> (i2_2 &&& 31)) &&& 1)), (i2_2 + 1)) := by rw [f_L_ones_st, if_neg c_3]
        have hmu : ((8 : Int32).toInt - ((i2_2 + 1) : Int32).toInt).toNat < ((8 : Int32).toInt - (i2_2 : Int32).toInt).toNat := mu_up c_3
        exact ih0 (i1_1 + ((x0 >>> (i2_2 &&& 31)) &&& 1)) (i2_2 + 1) (Nat.lt_of_lt_of_le hmu (Nat.le_of_lt_succ hlt0)) (lp_inl hst hF0) _ (lv_sub hl [2, 1, 0] rfl)
  exact key (((8 : Int32).toInt - (0 : Int32).toInt).toNat + 1) 0 0 (Nat.lt_succ_self _) rfl _ (lv_sub hl [2, 1, 0] rfl)
theorem hd_L_ways_S : yL_ways.cls ≠ "java/lang/invoke/MethodHandle" ∧ yL_ways.cls ≠ "java/lang/invoke/VarHandle" ∧ (parseMethodDescriptor yL_ways.desc).map (fun d => d.parameters.length) = some 1 := by decide +kernel
theorem hd_L_ways_V : yL_ways.cls = RL ∧ yL_ways.cls ≠ "java/lang/invoke/MethodHandle" ∧ yL_ways.cls ≠ "java/lang/invoke/VarHandle" ∧ (parseMethodDescriptor yL_ways.desc).map (fun d => d.parameters.length) = some 1 := ⟨rfl, hd_L_ways_S⟩
def f_L_ways_st  (i1_1 : Int32) (i2_2 : Int32) : (Int32 × Int32) ⊕ (Int32 × Int32) := (if i2_2 ≤ 1 then (.inr (i1_1, i2_2)) else (.inl ((i1_1 * i2_2), (i2_2 + (-1)))))
def f_L_ways (x0 : Int32) : Int32 := (my_t2 (lp (fun (x : Int32 × Int32) => f_L_ways_st x.1 x.2) default (((x0 : Int32).toInt).toNat + 1) (1, x0)) (fun (i1_1 : Int32) (i2_2 : Int32) => i1_1))
set_option maxHeartbeats 3200000 in
set_option maxRecDepth 100000 in
theorem c_L_ways (l : Launch) (D : va_G) (cy : Nat → ClassId) (g : Nat → Nat) (B : Nat)  (x0 : Int32) : Met l yL_ways wsL_ways ({ frames := 0, cells := 0, slots := 0, locals := 0 }) (rdP D cy g B ([] : va_W) [.int x0]) (vp_Si (fun r => r = f_L_ways x0)) 0 0 (fun _ => False) := by
  refine Met.ofW (cc := cL_ways) (maxL := 3) (ret := (some .int)) (by decide) rfl ?_
  intro p e s m args below meth c s₁ BB hml hv
  obtain ⟨rfl, hP, hK0⟩ := hv
  have hx := BB.exec
  have hb := BB.bytes
  have hr := BB.returns
  have hts := atoms_spec (ws := wsL_ways) BB.pre
  have hown : s.vm.findClass RL = some m.cls := findClass_of_methodNamed BB.named
  have hlocks := BB.notSynchronized
  have S := my_fix hx hb hml hown hts
  have hS : va_S (fun q => B ≤ q) s.heap s.heap [] := va_S.rf
  have hAB : ∀ q : Nat, (fun q => B ≤ q) q → B ≤ q := fun _ h => h
  have hl := lv_entry ([.int x0]) (n := 3) (Nat.le_of_ble_eq_true rfl)
  rw [lg_entry_eq]
  generalize (lg_sl ([.int x0]) ++ List.replicate (3 - (lg_sl ([.int x0])).length) Slot.unset).toArray = ls at hl ⊢
  have hl : lv_has ls 3 [(0, .int x0)] := hl
  refine lv_iconst (v := 1) hx hb dL_ways_0 (by decide) ?_
  refine lv_istore_n (lv' := [(1, .int 1), (0, .int x0)]) hx hb dL_ways_1 rfl hl (by decide) rfl (fun ls hl => ?_)
  refine lv_iload_n hx hb dL_ways_2 rfl (lv_at hl 1 rfl) ?_
  refine lv_istore_n (lv' := [(2, .int x0), (1, .int 1), (0, .int x0)]) hx hb dL_ways_3 rfl hl (by decide) rfl (fun ls hl => ?_)
  have cont0 : ∀ (i1_1 : Int32) (i2_2 : Int32), lp (fun (x : Int32 × Int32) => f_L_ways_st x.1 x.2) default (((x0 : Int32).toInt).toNat + 1) (1, x0) = (i1_1, i2_2) → ∀ ls : Array Slot, lv_has ls 3 [(0, .int x0), (1, .int i1_1), (2, .int i2_2)] → W p l e (headSpec wsL_ways ({ frames := 0, cells := 0, slots := 0, locals := 0 } : Room)).room s m ([.int x0] : List Value).toArray below meth c s.heap [] 0 0 (MQ below (vp_Si (fun r => r = f_L_ways x0)) ([.int x0] : List Value).toArray s 0 0 (fun _ => False)) (F0 m 19 ls []) := by
    intro i1_1 i2_2 hE0 ls hl
    refine lv_iload_n hx hb dL_ways_19 rfl (lv_at hl 1 rfl) ?_
    exact W.iret hx hb hr (fun t ht hW => ⟨i1_1, rfl, (show f_L_ways x0 = i1_1 from by rw [f_L_ways, hE0, my_t2_eq]).symm, ht⟩) (fun q hq => absurd hq List.not_mem_nil) dL_ways_20
  have key : ∀ (nf : Nat) (i1_1 : Int32) (i2_2 : Int32), ((i2_2 : Int32).toInt).toNat < nf → lp (fun (x : Int32 × Int32) => f_L_ways_st x.1 x.2) default nf (i1_1, i2_2) = lp (fun (x : Int32 × Int32) => f_L_ways_st x.1 x.2) default (((x0 : Int32).toInt).toNat + 1) (1, x0) → ∀ ls : Array Slot, lv_has ls 3 [(0, .int x0), (1, .int i1_1), (2, .int i2_2)] → W p l e (headSpec wsL_ways ({ frames := 0, cells := 0, slots := 0, locals := 0 } : Room)).room s m ([.int x0] : List Value).toArray below meth c s.heap [] 0 0 (MQ below (vp_Si (fun r => r = f_L_ways x0)) ([.int x0] : List Value).toArray s 0 0 (fun _ => False)) (F0 m 4 ls []) := by
    intro n0
    induction n0 with
    | zero => intro i1_1 i2_2 hlt; exact absurd hlt (Nat.not_lt_zero _)
    | succ n0 ih0 =>
      intro i1_1 i2_2 hlt0 hF0 ls hl
      refine lv_iload_n hx hb dL_ways_4 rfl (lv_at hl 2 rfl) ?_
      refine lv_iconst (v := 1) hx hb dL_ways_5 (by decide) ?_
      refine lv_icmp_le (tgt := 19) hx hb dL_ways_6 (by decide) (fun c_3 => ?_) (fun c_3 => ?_)
      · have hst : f_L_ways_st i1_1 i2_2 = .inr (i1_1, i2_2) := by rw [f_L_ways_st, if_pos c_3]
        exact cont0 i1_1 i2_2 (lp_inr hst hF0) _ (lv_sub hl [0, 1, 2] rfl)
      · refine lv_iload_n hx hb dL_ways_9 rfl (lv_at hl 1 rfl) ?_
        refine lv_iload_n hx hb dL_ways_10 rfl (lv_at hl 2 rfl) ?_
        refine lv_imul hx hb dL_ways_11 ?_
        refine lv_istore_n (lv' := [(1, .int (i1_1 * i2_2)), (0, .int x0), (2, .int i2_2)]) hx hb dL_ways_12 rfl hl (by decide) rfl (fun ls hl => ?_)
        refine lv_iinc (v := (i2_2 + (-1))) (lv' := [(2, .int (i2_2 + (-1))), (1, .int (i1_1 * i2_2)), (0, .int x0)]) hx hb dL_ways_13 hl (k := 2) rfl rfl (by decide) rfl (fun ls hl => ?_)
        refine lv_goto (tgt := 4) hx hb dL_ways_16 (by decide) ?_
        have hst : f_L_ways_st i1_1 i2_2 = .inl ((i1_1 * i2_2), (i2_2 + (-1))) := by rw [f_L_ways_st, if_neg c_3]
        have hmu : (((i2_2 + (-1)) : Int32).toInt).toNat < ((i2_2 : Int32).toInt).toNat := mu_dn c_3
        exact ih0 (i1_1 * i2_2) (i2_2 + (-1)) (Nat.lt_of_lt_of_le hmu (Nat.le_of_lt_succ hlt0)) (lp_inl hst hF0) _ (lv_sub hl [2, 1, 0] rfl)
  exact key (((x0 : Int32).toInt).toNat + 1) 1 x0 (Nat.lt_succ_self _) rfl _ (lv_sub hl [2, 1, 0] rfl)
theorem hd_L_orders_S : yL_orders.cls ≠ "java/lang/invoke/MethodHandle" ∧ yL_orders.cls ≠ "java/lang/invoke/VarHandle" ∧ (parseMethodDescriptor yL_orders.desc).map (fun d => d.parameters.length) = some 3 := by decide +kernel
theorem hd_L_orders_V : yL_orders.cls = RL ∧ yL_orders.cls ≠ "java/lang/invoke/MethodHandle" ∧ yL_orders.cls ≠ "java/lang/invoke/VarHandle" ∧ (parseMethodDescriptor yL_orders.desc).map (fun d => d.parameters.length) = some 3 := ⟨rfl, hd_L_orders_S⟩
def f_L_orders_st (ta : (Nat → Int64)) (x1 : Int32) (x2 : Int32) (i3_1 : Int32) (i4_2 : Int32) : (Int32 × Int32) ⊕ (Int32 × Int32) := (if 256 ≤ i4_2 then (.inr (i3_1, i4_2)) else (if (i4_2 ||| x1) = x1 then (if ((i4_2 >>> (x2 &&& 31)) &&& 1) = 0 then (if ((x1 >>> (x2 &&& 31)) &&& 1) = 1 then (if (f_L_at ta (i4_2 ||| (1 <<< (x2 &&& 31)))) = 0 then (.inl (i3_1, (i4_2 + 1))) else (if (f_L_at ta i4_2) = 0 then (.inl ((i3_1 + ((f_L_ways (f_L_ones i4_2)) * (f_L_ways (((f_L_ones x1) - 1) - (f_L_ones i4_2))))), (i4_2 + 1))) else (.inl (i3_1, (i4_2 + 1))))) else (.inl (i3_1, (i4_2 + 1)))) else (.inl (i3_1, (i4_2 + 1)))) else (.inl (i3_1, (i4_2 + 1)))))
def f_L_orders (ta : (Nat → Int64)) (x1 : Int32) (x2 : Int32) : Int32 := (my_t2 (lp (fun (x : Int32 × Int32) => f_L_orders_st ta x1 x2 x.1 x.2) default (((256 : Int32).toInt - (0 : Int32).toInt).toNat + 1) (0, 0)) (fun (i3_1 : Int32) (i4_2 : Int32) => i3_1))
set_option maxHeartbeats 3200000 in
set_option maxRecDepth 100000 in
theorem c_L_orders (l : Launch) (D : va_G) (cy : Nat → ClassId) (g : Nat → Nat) (B : Nat) (tA0 : Nat) (ta : (Nat → Int64)) (x1 : Int32) (x2 : Int32) (h0 : ¬ x2 < 0) (h1 : ¬ 8 ≤ x2) : Met l yL_orders wsL_orders ({ frames := 1, cells := 0, slots := 0, locals := 22 }) (rdP D cy g B (wL cy tA0 4 ta) [.ref tA0, .int x1, .int x2]) (vp_Si (fun r => r = f_L_orders ta x1 x2)) 0 0 (fun _ => False) := by
  refine Met.ofW (cc := cL_orders) (maxL := 5) (ret := (some .int)) (by decide) rfl ?_
  intro p e s m args below meth c s₁ BB hml hv
  obtain ⟨rfl, hP, hK0⟩ := hv
  have hx := BB.exec
  have hb := BB.bytes
  have hr := BB.returns
  have hts := atoms_spec (ws := wsL_orders) BB.pre
  have hown : s.vm.findClass RL = some m.cls := findClass_of_methodNamed BB.named
  have hlocks := BB.notSynchronized
  have S := my_fix hx hb hml hown hts
  have hS : va_S (fun q => B ≤ q) s.heap s.heap [] := va_S.rf
  have hAB : ∀ q : Nat, (fun q => B ≤ q) q → B ≤ q := fun _ h => h
  have hl := lv_entry ([.ref tA0, .int x1, .int x2]) (n := 5) (Nat.le_of_ble_eq_true rfl)
  rw [lg_entry_eq]
  generalize (lg_sl ([.ref tA0, .int x1, .int x2]) ++ List.replicate (5 - (lg_sl ([.ref tA0, .int x1, .int x2])).length) Slot.unset).toArray = ls at hl ⊢
  have hl : lv_has ls 5 [(0, .ref tA0), (1, .int x1), (2, .int x2)] := hl
  refine lv_iconst (v := 0) hx hb dL_orders_0 (by decide) ?_
  refine lv_istore_n (lv' := [(3, .int 0), (0, .ref tA0), (1, .int x1), (2, .int x2)]) hx hb dL_orders_1 rfl hl (by decide) rfl (fun ls hl => ?_)
  refine lv_iconst (v := 0) hx hb dL_orders_2 (by decide) ?_
  refine lv_istore (lv' := [(4, .int 0), (3, .int 0), (0, .ref tA0), (1, .int x1), (2, .int x2)]) hx hb dL_orders_3 hl (by decide) rfl (fun ls hl => ?_)
  have cont0 : ∀ (i3_1 : Int32) (i4_2 : Int32), lp (fun (x : Int32 × Int32) => f_L_orders_st ta x1 x2 x.1 x.2) default (((256 : Int32).toInt - (0 : Int32).toInt).toNat + 1) (0, 0) = (i3_1, i4_2) → ¬ i4_2 < 0 → ∀ ls : Array Slot, lv_has ls 5 [(0, .ref tA0), (1, .int x1), (2, .int x2), (3, .int i3_1), (4, .int i4_2)] → W p l e (headSpec wsL_orders ({ frames := 1, cells := 0, slots := 0, locals := 22 } : Room)).room s m ([.ref tA0, .int x1, .int x2] : List Value).toArray below meth c s.heap [] 0 0 (MQ below (vp_Si (fun r => r = f_L_orders ta x1 x2)) ([.ref tA0, .int x1, .int x2] : List Value).toArray s 0 0 (fun _ => False)) (F0 m 94 ls []) := by
    intro i3_1 i4_2 hE0 hj0_0 ls hl
    refine lv_iload_n hx hb dL_orders_94 rfl (lv_at hl 3 rfl) ?_
    exact W.iret hx hb hr (fun t ht hW => ⟨i3_1, rfl, (show f_L_orders ta x1 x2 = i3_1 from by rw [f_L_orders, hE0, my_t2_eq]).symm, ht⟩) (fun q hq => absurd hq List.not_mem_nil) dL_orders_95
  have key : ∀ (nf : Nat) (i3_1 : Int32) (i4_2 : Int32), ((256 : Int32).toInt - (i4_2 : Int32).toInt).toNat < nf → lp (fun (x : Int32 × Int32) => f_L_orders_st ta x1 x2 x.1 x.2) default nf (i3_1, i4_2) = lp (fun (x : Int32 × Int32) => f_L_orders_st ta x1 x2 x.1 x.2) default (((256 : Int32).toInt - (0 : Int32).toInt).toNat + 1) (0, 0) → ¬ i4_2 < 0 → ∀ ls : Array Slot, lv_has ls 5 [(0, .ref tA0), (1, .int x1), (2, .int x2), (3, .int i3_1), (4, .int i4_2)] → W p l e (headSpec wsL_orders ({ frames := 1, cells := 0, slots := 0, locals := 22 } : Room)).room s m ([.ref tA0, .int x1, .int x2] : List Value).toArray below meth c s.heap [] 0 0 (MQ below (vp_Si (fun r => r = f_L_orders ta x1 x2)) ([.ref tA0, .int x1, .int x2] : List Value).toArray s 0 0 (fun _ => False)) (F0 m 5 ls []) := by
    intro n0
    induction n0 with
    | zero => intro i3_1 i4_2 hlt; exact absurd hlt (Nat.not_lt_zero _)
    | succ n0 ih0 =>
      intro i3_1 i4_2 hlt0 hF0 hi0_0 ls hl
      refine lv_iload hx hb dL_orders_5 (lv_at hl 4 rfl) ?_
      refine lv_sipush (v := 256) hx hb dL_orders_7 (by decide) ?_
      refine lv_icmp_ge (tgt := 94) hx hb dL_orders_10 (by decide) (fun c_3 => ?_) (fun c_3 => ?_)
      · have hst : f_L_orders_st ta x1 x2 i3_1 i4_2 = .inr (i3_1, i4_2) := by rw [f_L_orders_st, if_pos c_3]
        exact cont0 i3_1 i4_2 (lp_inr hst hF0) hi0_0 _ (lv_sub hl [0, 1, 2, 3, 4] rfl)
      · refine lv_iload hx hb dL_orders_13 (lv_at hl 4 rfl) ?_
        refine lv_iload_n hx hb dL_orders_15 rfl (lv_at hl 1 rfl) ?_
        refine lv_ior hx hb dL_orders_16 ?_
        refine lv_iload_n hx hb dL_orders_17 rfl (lv_at hl 1 rfl) ?_
        refine lv_icmp_ne (tgt := 88) hx hb dL_orders_18 (by decide) (fun c_4 => ?_) (fun c_4 => ?_)
        · refine lv_iinc (v := (i4_2 + 1)) (lv' := [(4, .int (i4_2 + 1)), (0, .ref tA0), (1, .int x1), (2, .int x2), (3, .int i3_1)]) hx hb dL_orders_88 hl (k := 4) rfl rfl (by decide) rfl (fun ls hl => ?_)
          refine lv_goto (tgt := 5) hx hb dL_orders_91 (by decide) ?_
          have hst : f_L_orders_st ta x1 x2 i3_1 i4_2 = .inl (i3_1, (i4_2 + 1)) := by rw [f_L_orders_st, if_neg c_3, if_neg c_4]
          have hmu : ((256 : Int32).toInt - ((i4_2 + 1) : Int32).toInt).toNat < ((256 : Int32).toInt - (i4_2 : Int32).toInt).toNat := mu_up c_3
          exact ih0 i3_1 (i4_2 + 1) (Nat.lt_of_lt_of_le hmu (Nat.le_of_lt_succ hlt0)) (lp_inl hst hF0) (nn_up hi0_0 c_3) _ (lv_sub hl [1, 2, 3, 4, 0] rfl)
        · refine lv_iload hx hb dL_orders_21 (lv_at hl 4 rfl) ?_
          refine lv_iload_n hx hb dL_orders_23 rfl (lv_at hl 2 rfl) ?_
          refine lv_ishr hx hb dL_orders_24 ?_
          refine lv_iconst (v := 1) hx hb dL_orders_25 (by decide) ?_
          refine lv_iand hx hb dL_orders_26 ?_
          refine lv_if_ne (tgt := 88) hx hb dL_orders_27 (by decide) (fun c_5 => ?_) (fun c_5 => ?_)
          · refine lv_iinc (v := (i4_2 + 1)) (lv' := [(4, .int (i4_2 + 1)), (0, .ref tA0), (1, .int x1), (2, .int x2), (3, .int i3_1)]) hx hb dL_orders_88 hl (k := 4) rfl rfl (by decide) rfl (fun ls hl => ?_)
            refine lv_goto (tgt := 5) hx hb dL_orders_91 (by decide) ?_
            have hst : f_L_orders_st ta x1 x2 i3_1 i4_2 = .inl (i3_1, (i4_2 + 1)) := by rw [f_L_orders_st, if_neg c_3, if_pos c_4, if_neg c_5]
            have hmu : ((256 : Int32).toInt - ((i4_2 + 1) : Int32).toInt).toNat < ((256 : Int32).toInt - (i4_2 : Int32).toInt).toNat := mu_up c_3
            exact ih0 i3_1 (i4_2 + 1) (Nat.lt_of_lt_of_le hmu (Nat.le_of_lt_succ hlt0)) (lp_inl hst hF0) (nn_up hi0_0 c_3) _ (lv_sub hl [1, 2, 3, 4, 0] rfl)
          · refine lv_iload_n hx hb dL_orders_30 rfl (lv_at hl 1 rfl) ?_
            refine lv_iload_n hx hb dL_orders_31 rfl (lv_at hl 2 rfl) ?_
            refine lv_ishr hx hb dL_orders_32 ?_
            refine lv_iconst (v := 1) hx hb dL_orders_33 (by decide) ?_
            refine lv_iand hx hb dL_orders_34 ?_
            refine lv_iconst (v := 1) hx hb dL_orders_35 (by decide) ?_
            refine lv_icmp_ne (tgt := 88) hx hb dL_orders_36 (by decide) (fun c_6 => ?_) (fun c_6 => ?_)
            · refine lv_iinc (v := (i4_2 + 1)) (lv' := [(4, .int (i4_2 + 1)), (0, .ref tA0), (1, .int x1), (2, .int x2), (3, .int i3_1)]) hx hb dL_orders_88 hl (k := 4) rfl rfl (by decide) rfl (fun ls hl => ?_)
              refine lv_goto (tgt := 5) hx hb dL_orders_91 (by decide) ?_
              have hst : f_L_orders_st ta x1 x2 i3_1 i4_2 = .inl (i3_1, (i4_2 + 1)) := by rw [f_L_orders_st, if_neg c_3, if_pos c_4, if_pos c_5, if_neg c_6]
              have hmu : ((256 : Int32).toInt - ((i4_2 + 1) : Int32).toInt).toNat < ((256 : Int32).toInt - (i4_2 : Int32).toInt).toNat := mu_up c_3
              exact ih0 i3_1 (i4_2 + 1) (Nat.lt_of_lt_of_le hmu (Nat.le_of_lt_succ hlt0)) (lp_inl hst hF0) (nn_up hi0_0 c_3) _ (lv_sub hl [1, 2, 3, 4, 0] rfl)
            · refine lv_aload_n hx hb dL_orders_39 rfl (lv_at hl 0 rfl) ?_
              refine lv_iload hx hb dL_orders_40 (lv_at hl 4 rfl) ?_
              refine lv_iconst (v := 1) hx hb dL_orders_42 (by decide) ?_
              refine lv_iload_n hx hb dL_orders_43 rfl (lv_at hl 2 rfl) ?_
              refine lv_ishl hx hb dL_orders_44 ?_
              refine lv_ior hx hb dL_orders_45 ?_
              refine rd_goi (va_runS (As := [.ref tA0, .int (i4_2 ||| (1 <<< (x2 &&& 31)))]) (rest := []) S (c_L_at l D cy g B tA0 ta (i4_2 ||| (1 <<< (x2 &&& 31))) (swo_lo hi0_0 c_3 h0 h1) (swo_hi hi0_0 c_3 h0 h1)) (va_cwS 2 hts gL_orders_L_at rfl rfl rfl hd_L_at_S ⟨Nat.le_of_ble_eq_true rfl, Nat.le_of_ble_eq_true rfl⟩) ⟨rdP_blind, my_preP hK0 hS hAB hP⟩ rfl rfl hl.1 rfl (lv_room (Nat.le_of_ble_eq_true rfl)) dL_orders_46 ⟨Nat.zero_le _, Nat.zero_le _⟩) ?_
              refine lv_if_eq (tgt := 88) hx hb dL_orders_49 (by decide) (fun c_7 => ?_) (fun c_7 => ?_)
              · refine lv_iinc (v := (i4_2 + 1)) (lv' := [(4, .int (i4_2 + 1)), (0, .ref tA0), (1, .int x1), (2, .int x2), (3, .int i3_1)]) hx hb dL_orders_88 hl (k := 4) rfl rfl (by decide) rfl (fun ls hl => ?_)
                refine lv_goto (tgt := 5) hx hb dL_orders_91 (by decide) ?_
                have hst : f_L_orders_st ta x1 x2 i3_1 i4_2 = .inl (i3_1, (i4_2 + 1)) := by rw [f_L_orders_st, if_neg c_3, if_pos c_4, if_pos c_5, if_pos c_6, if_pos c_7]
                have hmu : ((256 : Int32).toInt - ((i4_2 + 1) : Int32).toInt).toNat < ((256 : Int32).toInt - (i4_2 : Int32).toInt).toNat := mu_up c_3
                exact ih0 i3_1 (i4_2 + 1) (Nat.lt_of_lt_of_le hmu (Nat.le_of_lt_succ hlt0)) (lp_inl hst hF0) (nn_up hi0_0 c_3) _ (lv_sub hl [1, 2, 3, 4, 0] rfl)
              · refine lv_aload_n hx hb dL_orders_52 rfl (lv_at hl 0 rfl) ?_
                refine lv_iload hx hb dL_orders_53 (lv_at hl 4 rfl) ?_
                refine rd_goi (va_runS (As := [.ref tA0, .int i4_2]) (rest := []) S (c_L_at l D cy g B tA0 ta i4_2 hi0_0 c_3) (va_cwS 2 hts gL_orders_L_at rfl rfl rfl hd_L_at_S ⟨Nat.le_of_ble_eq_true rfl, Nat.le_of_ble_eq_true rfl⟩) ⟨rdP_blind, my_preP hK0 hS hAB hP⟩ rfl rfl hl.1 rfl (lv_room (Nat.le_of_ble_eq_true rfl)) dL_orders_55 ⟨Nat.zero_le _, Nat.zero_le _⟩) ?_
                refine lv_if_ne (tgt := 88) hx hb dL_orders_58 (by decide) (fun c_8 => ?_) (fun c_8 => ?_)
                · refine lv_iinc (v := (i4_2 + 1)) (lv' := [(4, .int (i4_2 + 1)), (0, .ref tA0), (1, .int x1), (2, .int x2), (3, .int i3_1)]) hx hb dL_orders_88 hl (k := 4) rfl rfl (by decide) rfl (fun ls hl => ?_)
                  refine lv_goto (tgt := 5) hx hb dL_orders_91 (by decide) ?_
                  have hst : f_L_orders_st ta x1 x2 i3_1 i4_2 = .inl (i3_1, (i4_2 + 1)) := by rw [f_L_orders_st, if_neg c_3, if_pos c_4, if_pos c_5, if_pos c_6, if_neg c_7, if_neg c_8]
                  have hmu : ((256 : Int32).toInt - ((i4_2 + 1) : Int32).toInt).toNat < ((256 : Int32).toInt - (i4_2 : Int32).toInt).toNat := mu_up c_3
                  exact ih0 i3_1 (i4_2 + 1) (Nat.lt_of_lt_of_le hmu (Nat.le_of_lt_succ hlt0)) (lp_inl hst hF0) (nn_up hi0_0 c_3) _ (lv_sub hl [1, 2, 3, 4, 0] rfl)
                · refine lv_iload_n hx hb dL_orders_61 rfl (lv_at hl 3 rfl) ?_
                  refine lv_iload hx hb dL_orders_62 (lv_at hl 4 rfl) ?_
                  refine rd_goi (va_runS (As := [.int i4_2]) (rest := [.int i3_1]) S (c_L_ones l D cy g B i4_2) (va_cwS 1 hts gL_orders_L_ones rfl rfl rfl hd_L_ones_S ⟨Nat.le_of_ble_eq_true rfl, Nat.le_of_ble_eq_true rfl⟩) ⟨rdP_blind, my_preV hK0 hS hAB hP [] rfl⟩ rfl rfl hl.1 rfl (lv_room (Nat.le_of_ble_eq_true rfl)) dL_orders_64 ⟨Nat.zero_le _, Nat.zero_le _⟩) ?_
                  refine rd_goi (va_runS (As := [.int (f_L_ones i4_2)]) (rest := [.int i3_1]) S (c_L_ways l D cy g B (f_L_ones i4_2)) (va_cwS 1 hts gL_orders_L_ways rfl rfl rfl hd_L_ways_S ⟨Nat.le_of_ble_eq_true rfl, Nat.le_of_ble_eq_true rfl⟩) ⟨rdP_blind, my_preV hK0 hS hAB hP [] rfl⟩ rfl rfl hl.1 rfl (lv_room (Nat.le_of_ble_eq_true rfl)) dL_orders_67 ⟨Nat.zero_le _, Nat.zero_le _⟩) ?_
                  refine lv_iload_n hx hb dL_orders_70 rfl (lv_at hl 1 rfl) ?_
                  refine rd_goi (va_runS (As := [.int x1]) (rest := [.int (f_L_ways (f_L_ones i4_2)), .int i3_1]) S (c_L_ones l D cy g B x1) (va_cwS 1 hts gL_orders_L_ones rfl rfl rfl hd_L_ones_S ⟨Nat.le_of_ble_eq_true rfl, Nat.le_of_ble_eq_true rfl⟩) ⟨rdP_blind, my_preV hK0 hS hAB hP [] rfl⟩ rfl rfl hl.1 rfl (lv_room (Nat.le_of_ble_eq_true rfl)) dL_orders_71 ⟨Nat.zero_le _, Nat.zero_le _⟩) ?_
                  refine lv_iconst (v := 1) hx hb dL_orders_74 (by decide) ?_
                  refine lv_isub hx hb dL_orders_75 ?_
                  refine lv_iload hx hb dL_orders_76 (lv_at hl 4 rfl) ?_
                  refine rd_goi (va_runS (As := [.int i4_2]) (rest := [.int ((f_L_ones x1) - 1), .int (f_L_ways (f_L_ones i4_2)), .int i3_1]) S (c_L_ones l D cy g B i4_2) (va_cwS 1 hts gL_orders_L_ones rfl rfl rfl hd_L_ones_S ⟨Nat.le_of_ble_eq_true rfl, Nat.le_of_ble_eq_true rfl⟩) ⟨rdP_blind, my_preV hK0 hS hAB hP [] rfl⟩ rfl rfl hl.1 rfl (lv_room (Nat.le_of_ble_eq_true rfl)) dL_orders_78 ⟨Nat.zero_le _, Nat.zero_le _⟩) ?_
                  refine lv_isub hx hb dL_orders_81 ?_
                  refine rd_goi (va_runS (As := [.int (((f_L_ones x1) - 1) - (f_L_ones i4_2))]) (rest := [.int (f_L_ways (f_L_ones i4_2)), .int i3_1]) S (c_L_ways l D cy g B (((f_L_ones x1) - 1) - (f_L_ones i4_2))) (va_cwS 1 hts gL_orders_L_ways rfl rfl rfl hd_L_ways_S ⟨Nat.le_of_ble_eq_true rfl, Nat.le_of_ble_eq_true rfl⟩) ⟨rdP_blind, my_preV hK0 hS hAB hP [] rfl⟩ rfl rfl hl.1 rfl (lv_room (Nat.le_of_ble_eq_true rfl)) dL_orders_82 ⟨Nat.zero_le _, Nat.zero_le _⟩) ?_
                  refine lv_imul hx hb dL_orders_85 ?_
                  refine lv_iadd hx hb dL_orders_86 ?_
                  refine lv_istore_n (lv' := [(3, .int (i3_1 + ((f_L_ways (f_L_ones i4_2)) * (f_L_ways (((f_L_ones x1) - 1) - (f_L_ones i4_2)))))), (0, .ref tA0), (1, .int x1), (2, .int x2), (4, .int i4_2)]) hx hb dL_orders_87 rfl hl (by decide) rfl (fun ls hl => ?_)
                  refine lv_iinc (v := (i4_2 + 1)) (lv' := [(4, .int (i4_2 + 1)), (3, .int (i3_1 + ((f_L_ways (f_L_ones i4_2)) * (f_L_ways (((f_L_ones x1) - 1) - (f_L_ones i4_2)))))), (0, .ref tA0), (1, .int x1), (2, .int x2)]) hx hb dL_orders_88 hl (k := 4) rfl rfl (by decide) rfl (fun ls hl => ?_)
                  refine lv_goto (tgt := 5) hx hb dL_orders_91 (by decide) ?_
                  have hst : f_L_orders_st ta x1 x2 i3_1 i4_2 = .inl ((i3_1 + ((f_L_ways (f_L_ones i4_2)) * (f_L_ways (((f_L_ones x1) - 1) - (f_L_ones i4_2))))), (i4_2 + 1)) := by rw [f_L_orders_st, if_neg c_3, if_pos c_4, if_pos c_5, if_pos c_6, if_neg c_7, if_pos c_8]
                  have hmu : ((256 : Int32).toInt - ((i4_2 + 1) : Int32).toInt).toNat < ((256 : Int32).toInt - (i4_2 : Int32).toInt).toNat := mu_up c_3
                  exact ih0 (i3_1 + ((f_L_ways (f_L_ones i4_2)) * (f_L_ways (((f_L_ones x1) - 1) - (f_L_ones i4_2))))) (i4_2 + 1) (Nat.lt_of_lt_of_le hmu (Nat.le_of_lt_succ hlt0)) (lp_inl hst hF0) (nn_up hi0_0 c_3) _ (lv_sub hl [2, 3, 4, 1, 0] rfl)
  exact key (((256 : Int32).toInt - (0 : Int32).toInt).toNat + 1) 0 0 (Nat.lt_succ_self _) rfl (by decide) _ (lv_sub hl [2, 3, 4, 1, 0] rfl)
theorem hd_L_why_S : yL_why.cls ≠ "java/lang/invoke/MethodHandle" ∧ yL_why.cls ≠ "java/lang/invoke/VarHandle" ∧ (parseMethodDescriptor yL_why.desc).map (fun d => d.parameters.length) = some 6 := by decide +kernel
theorem hd_L_why_V : yL_why.cls = RL ∧ yL_why.cls ≠ "java/lang/invoke/MethodHandle" ∧ yL_why.cls ≠ "java/lang/invoke/VarHandle" ∧ (parseMethodDescriptor yL_why.desc).map (fun d => d.parameters.length) = some 6 := ⟨rfl, hd_L_why_S⟩
def f_L_why_st1 (ga : (Nat → Int32)) (ra : (Nat → Int32)) (i7_2 : Int32) (i8_3 : Int32) (i9_6 : Int32) : (Int32) ⊕ (Int32) := (if (ga 2) ≤ i9_6 then (.inr 0) else (if 1000 ≤ (ra i9_6.toNatClampNeg) then (if 2000 ≤ (ra i9_6.toNatClampNeg) then (if (i7_2 &&& ((ra i9_6.toNatClampNeg) - (ra i9_6.toNatClampNeg) / 1000 * 1000)) ≤ 0 then (.inr (i9_6 + 2)) else (.inl (i9_6 + 1))) else (if ((i7_2 >>> (((ra i9_6.toNatClampNeg) - (ra i9_6.toNatClampNeg) / 1000 * 1000) &&& 31)) &&& 1) = 1 then (.inl (i9_6 + 1)) else (.inr (i9_6 + 2)))) else (if i8_3 < ((ra i9_6.toNatClampNeg) - (ra i9_6.toNatClampNeg) / 1000 * 1000) then (.inr (i9_6 + 2)) else (.inl (i9_6 + 1)))))
def f_L_why_st (ga : (Nat → Int32)) (wa : (Nat → Int32)) (la : (Nat → Int32)) (x4 : Int32) (i6_1 : Int32) (i7_2 : Int32) (i8_3 : Int32) (i9_4 : Int32) : (Int32 × Int32 × Int32 × Int32) ⊕ (Int32 × Int32 × Int32 × Int32) := (if (ga 0) ≤ i9_4 then (.inr (i6_1, i7_2, i8_3, i9_4)) else (if 0 ≤ (la i9_4.toNatClampNeg) then (if ((x4 >>> ((la i9_4.toNatClampNeg) &&& 31)) &&& 1) = 1 then (if 0 ≤ (la (la i9_4.toNatClampNeg).toNatClampNeg) then (.inl (i6_1, i7_2, i8_3, (i9_4 + 1))) else (.inl ((i6_1 + (wa i9_4.toNatClampNeg)), (i7_2 ||| (1 <<< (i9_4 &&& 31))), (i8_3 + 1), (i9_4 + 1)))) else (.inl (i6_1, i7_2, i8_3, (i9_4 + 1)))) else (if ((x4 >>> (i9_4 &&& 31)) &&& 1) = 1 then (.inl ((i6_1 + (wa i9_4.toNatClampNeg)), (i7_2 ||| (1 <<< (i9_4 &&& 31))), (i8_3 + 1), (i9_4 + 1))) else (.inl (i6_1, i7_2, i8_3, (i9_4 + 1))))))
def f_L_why (ga : (Nat → Int32)) (wa : (Nat → Int32)) (la : (Nat → Int32)) (ra : (Nat → Int32)) (x4 : Int32) (x5 : Int32) : Int32 := (my_t4 (lp (fun (x : Int32 × Int32 × Int32 × Int32) => f_L_why_st ga wa la x4 x.1 x.2.1 x.2.2.1 x.2.2.2) default ((((ga 0) : Int32).toInt - (0 : Int32).toInt).toNat + 1) (0, 0, 0, 0)) (fun (i6_1 : Int32) (i7_2 : Int32) (i8_3 : Int32) (i9_4 : Int32) => (if x5 ≤ i6_1 then (lp (fun (x : Int32) => f_L_why_st1 ga ra i7_2 i8_3 x) default ((((ga 2) : Int32).toInt - (0 : Int32).toInt).toNat + 1) 0) else 1)))
set_option maxHeartbeats 3200000 in
set_option maxRecDepth 100000 in
theorem c_L_why (l : Launch) (D : va_G) (cy : Nat → ClassId) (g : Nat → Nat) (B : Nat) (gA0 : Nat) (wA0 : Nat) (lA0 : Nat) (rA0 : Nat) (ga : (Nat → Int32)) (wa : (Nat → Int32)) (la : (Nat → Int32)) (ra : (Nat → Int32)) (x4 : Int32) (x5 : Int32) (hl8 : ∀ j : Nat, ¬ 8 ≤ la j) (hg0 : ¬ 8 < (ga 0)) (hg2 : ¬ 4 < (ga 2)) : Met l yL_why wsL_why ({ frames := 0, cells := 0, slots := 0, locals := 0 }) (rdP D cy g B (List.flatten [(wI cy gA0 3 ga), (wI cy wA0 8 wa), (wI cy lA0 8 la), (wI cy rA0 4 ra)]) [.ref gA0, .ref wA0, .ref lA0, .ref rA0, .int x4, .int x5]) (vp_Si (fun r => r = f_L_why ga wa la ra x4 x5)) 0 0 (fun _ => False) := by
  refine Met.ofW (cc := cL_why) (maxL := 12) (ret := (some .int)) (by decide) rfl ?_
  intro p e s m args below meth c s₁ BB hml hv
  obtain ⟨rfl, hP, hK0⟩ := hv
  have hx := BB.exec
  have hb := BB.bytes
  have hr := BB.returns
  have hts := atoms_spec (ws := wsL_why) BB.pre
  have hown : s.vm.findClass RL = some m.cls := findClass_of_methodNamed BB.named
  have hlocks := BB.notSynchronized
  have S := my_fix hx hb hml hown hts
  have hS : va_S (fun q => B ≤ q) s.heap s.heap [] := va_S.rf
  have hAB : ∀ q : Nat, (fun q => B ≤ q) q → B ≤ q := fun _ h => h
  have hl := lv_entry ([.ref gA0, .ref wA0, .ref lA0, .ref rA0, .int x4, .int x5]) (n := 12) (Nat.le_of_ble_eq_true rfl)
  rw [lg_entry_eq]
  generalize (lg_sl ([.ref gA0, .ref wA0, .ref lA0, .ref rA0, .int x4, .int x5]) ++ List.replicate (12 - (lg_sl ([.ref gA0, .ref wA0, .ref lA0, .ref rA0, .int x4, .int x5])).length) Slot.unset).toArray = ls at hl ⊢
  have hl : lv_has ls 12 [(0, .ref gA0), (1, .ref wA0), (2, .ref lA0), (3, .ref rA0), (4, .int x4), (5, .int x5)] := hl
  refine lv_iconst (v := 0) hx hb dL_why_0 (by decide) ?_
  refine lv_istore (lv' := [(6, .int 0), (0, .ref gA0), (1, .ref wA0), (2, .ref lA0), (3, .ref rA0), (4, .int x4), (5, .int x5)]) hx hb dL_why_1 hl (by decide) rfl (fun ls hl => ?_)
  refine lv_iconst (v := 0) hx hb dL_why_3 (by decide) ?_
  refine lv_istore (lv' := [(7, .int 0), (6, .int 0), (0, .ref gA0), (1, .ref wA0), (2, .ref lA0), (3, .ref rA0), (4, .int x4), (5, .int x5)]) hx hb dL_why_4 hl (by decide) rfl (fun ls hl => ?_)
  refine lv_iconst (v := 0) hx hb dL_why_6 (by decide) ?_
  refine lv_istore (lv' := [(8, .int 0), (7, .int 0), (6, .int 0), (0, .ref gA0), (1, .ref wA0), (2, .ref lA0), (3, .ref rA0), (4, .int x4), (5, .int x5)]) hx hb dL_why_7 hl (by decide) rfl (fun ls hl => ?_)
  refine lv_iconst (v := 0) hx hb dL_why_9 (by decide) ?_
  refine lv_istore (lv' := [(9, .int 0), (8, .int 0), (7, .int 0), (6, .int 0), (0, .ref gA0), (1, .ref wA0), (2, .ref lA0), (3, .ref rA0), (4, .int x4), (5, .int x5)]) hx hb dL_why_10 hl (by decide) rfl (fun ls hl => ?_)
  have cont0 : ∀ (i6_1 : Int32) (i7_2 : Int32) (i8_3 : Int32) (i9_4 : Int32), lp (fun (x : Int32 × Int32 × Int32 × Int32) => f_L_why_st ga wa la x4 x.1 x.2.1 x.2.2.1 x.2.2.2) default ((((ga 0) : Int32).toInt - (0 : Int32).toInt).toNat + 1) (0, 0, 0, 0) = (i6_1, i7_2, i8_3, i9_4) → ¬ i9_4 < 0 → ∀ ls : Array Slot, lv_has ls 12 [(0, .ref gA0), (1, .ref wA0), (2, .ref lA0), (3, .ref rA0), (4, .int x4), (5, .int x5), (6, .int i6_1), (7, .int i7_2), (8, .int i8_3), (9, .int i9_4)] → W p l e (headSpec wsL_why ({ frames := 0, cells := 0, slots := 0, locals := 0 } : Room)).room s m ([.ref gA0, .ref wA0, .ref lA0, .ref rA0, .int x4, .int x5] : List Value).toArray below meth c s.heap [] 0 0 (MQ below (vp_Si (fun r => r = f_L_why ga wa la ra x4 x5)) ([.ref gA0, .ref wA0, .ref lA0, .ref rA0, .int x4, .int x5] : List Value).toArray s 0 0 (fun _ => False)) (F0 m 83 ls []) := by
    intro i6_1 i7_2 i8_3 i9_4 hE0 hj0_0 ls hl
    refine lv_iload hx hb dL_why_83 (lv_at hl 6 rfl) ?_
    refine lv_iload hx hb dL_why_85 (lv_at hl 5 rfl) ?_
    refine lv_icmp_ge (tgt := 92) hx hb dL_why_87 (by decide) (fun c_5 => ?_) (fun c_5 => ?_)
    · refine lv_iconst (v := 0) hx hb dL_why_92 (by decide) ?_
      refine lv_istore (lv' := [(9, .int 0), (0, .ref gA0), (1, .ref wA0), (2, .ref lA0), (3, .ref rA0), (4, .int x4), (5, .int x5), (6, .int i6_1), (7, .int i7_2), (8, .int i8_3)]) hx hb dL_why_93 hl (by decide) rfl (fun ls hl => ?_)
      have key : ∀ (nf : Nat) (i9_6 : Int32), (((ga 2) : Int32).toInt - (i9_6 : Int32).toInt).toNat < nf → lp (fun (x : Int32) => f_L_why_st1 ga ra i7_2 i8_3 x) default nf i9_6 = lp (fun (x : Int32) => f_L_why_st1 ga ra i7_2 i8_3 x) default ((((ga 2) : Int32).toInt - (0 : Int32).toInt).toNat + 1) 0 → ¬ i9_6 < 0 → ∀ ls : Array Slot, lv_has ls 12 [(0, .ref gA0), (1, .ref wA0), (2, .ref lA0), (3, .ref rA0), (4, .int x4), (5, .int x5), (6, .int i6_1), (7, .int i7_2), (8, .int i8_3), (9, .int i9_6)] → W p l e (headSpec wsL_why ({ frames := 0, cells := 0, slots := 0, locals := 0 } : Room)).room s m ([.ref gA0, .ref wA0, .ref lA0, .ref rA0, .int x4, .int x5] : List Value).toArray below meth c s.heap [] 0 0 (MQ below (vp_Si (fun r => r = f_L_why ga wa la ra x4 x5)) ([.ref gA0, .ref wA0, .ref lA0, .ref rA0, .int x4, .int x5] : List Value).toArray s 0 0 (fun _ => False)) (F0 m 95 ls []) := by
        intro n1
        induction n1 with
        | zero => intro i9_6 hlt; exact absurd hlt (Nat.not_lt_zero _)
        | succ n1 ih1 =>
          intro i9_6 hlt1 hF1 hi1_0 ls hl
          refine lv_iload hx hb dL_why_95 (lv_at hl 9 rfl) ?_
          refine lv_aload_n hx hb dL_why_97 rfl (lv_at hl 0 rfl) ?_
          refine lv_iconst (v := 2) hx hb dL_why_98 (by decide) ?_
          refine va_iald hx hb hK0.1 hP 0 0 rfl rfl (vp_in_nI (n := 2) (N := 3) (by decide) (by decide)) dL_why_99 ?_
          refine W.eq (g2 := F0 m 100 ls [.int (ga 2), .int i9_6]) rfl ?_
          refine lv_icmp_ge (tgt := 198) hx hb dL_why_100 (by decide) (fun c_7 => ?_) (fun c_7 => ?_)
          · refine lv_iconst (v := 0) hx hb dL_why_198 (by decide) ?_
            have hst : f_L_why_st1 ga ra i7_2 i8_3 i9_6 = .inr 0 := by rw [f_L_why_st1, if_pos c_7]
            exact W.iret hx hb hr (fun t ht hW => ⟨0, rfl, (show f_L_why ga wa la ra x4 x5 = 0 from by rw [f_L_why, hE0, my_t4_eq, if_pos c_5]; exact lp_inr hst hF1).symm, ht⟩) (fun q hq => absurd hq List.not_mem_nil) dL_why_199
          · refine lv_aload_n hx hb dL_why_103 rfl (lv_at hl 3 rfl) ?_
            refine lv_iload hx hb dL_why_104 (lv_at hl 9 rfl) ?_
            refine va_iald hx hb hK0.1 hP 3 0 rfl rfl (ix_self (K := 4) (N := 4) hi1_0 c_7 hg2 (by decide)) dL_why_106 ?_
            refine lv_sipush (v := 1000) hx hb dL_why_107 (by decide) ?_
            refine lv_irem hx hb dL_why_110 (by decide) ?_
            refine lv_istore (lv' := [(10, .int ((ra i9_6.toNatClampNeg) - (ra i9_6.toNatClampNeg) / 1000 * 1000)), (0, .ref gA0), (1, .ref wA0), (2, .ref lA0), (3, .ref rA0), (4, .int x4), (5, .int x5), (6, .int i6_1), (7, .int i7_2), (8, .int i8_3), (9, .int i9_6)]) hx hb dL_why_111 hl (by decide) rfl (fun ls hl => ?_)
            refine lv_aload_n hx hb dL_why_113 rfl (lv_at hl 4 rfl) ?_
            refine lv_iload hx hb dL_why_114 (lv_at hl 10 rfl) ?_
            refine va_iald hx hb hK0.1 hP 3 0 rfl rfl (ix_self (K := 4) (N := 4) hi1_0 c_7 hg2 (by decide)) dL_why_116 ?_
            refine lv_sipush (v := 1000) hx hb dL_why_117 (by decide) ?_
            refine lv_icmp_ge (tgt := 138) hx hb dL_why_120 (by decide) (fun c_8 => ?_) (fun c_8 => ?_)
            · refine lv_aload_n hx hb dL_why_138 rfl (lv_at hl 4 rfl) ?_
              refine lv_iload hx hb dL_why_139 (lv_at hl 10 rfl) ?_
              refine va_iald hx hb hK0.1 hP 3 0 rfl rfl (ix_self (K := 4) (N := 4) hi1_0 c_7 hg2 (by decide)) dL_why_141 ?_
              refine lv_sipush (v := 2000) hx hb dL_why_142 (by decide) ?_
              refine lv_icmp_ge (tgt := 167) hx hb dL_why_145 (by decide) (fun c_9 => ?_) (fun c_9 => ?_)
              · refine lv_iload hx hb dL_why_167 (lv_at hl 8 rfl) ?_
                refine lv_iload hx hb dL_why_169 (lv_at hl 0 rfl) ?_
                refine lv_iand hx hb dL_why_171 ?_
                refine lv_if_le (tgt := 179) hx hb dL_why_172 (by decide) (fun c_10 => ?_) (fun c_10 => ?_)
                · refine lv_iconst (v := 0) hx hb dL_why_179 (by decide) ?_
                  refine lv_istore (lv' := [(11, .int 0), (10, .int ((ra i9_6.toNatClampNeg) - (ra i9_6.toNatClampNeg) / 1000 * 1000)), (0, .ref gA0), (1, .ref wA0), (2, .ref lA0), (3, .ref rA0), (4, .int x4), (5, .int x5), (6, .int i6_1), (7, .int i7_2), (8, .int i8_3), (9, .int i9_6)]) hx hb dL_why_180 hl (by decide) rfl (fun ls hl => ?_)
                  refine lv_iload hx hb dL_why_182 (lv_at hl 0 rfl) ?_
                  refine lv_if_ne (tgt := 192) hx hb dL_why_184 (by decide) (fun h => absurd (by decide) h) (fun _ => ?_)
                  refine lv_iload hx hb dL_why_187 (lv_at hl 11 rfl) ?_
                  refine lv_iconst (v := 2) hx hb dL_why_189 (by decide) ?_
                  refine lv_iadd hx hb dL_why_190 ?_
                  have hst : f_L_why_st1 ga ra i7_2 i8_3 i9_6 = .inr (i9_6 + 2) := by rw [f_L_why_st1, if_neg c_7, if_pos c_8, if_pos c_9, if_pos c_10]
                  exact W.iret hx hb hr (fun t ht hW => ⟨(i9_6 + 2), rfl, (show f_L_why ga wa la ra x4 x5 = (i9_6 + 2) from by rw [f_L_why, hE0, my_t4_eq, if_pos c_5]; exact lp_inr hst hF1).symm, ht⟩) (fun q hq => absurd hq List.not_mem_nil) dL_why_191
                · refine lv_iconst (v := 1) hx hb dL_why_175 (by decide) ?_
                  refine lv_goto (tgt := 180) hx hb dL_why_176 (by decide) ?_
                  refine lv_istore (lv' := [(11, .int 1), (10, .int ((ra i9_6.toNatClampNeg) - (ra i9_6.toNatClampNeg) / 1000 * 1000)), (0, .ref gA0), (1, .ref wA0), (2, .ref lA0), (3, .ref rA0), (4, .int x4), (5, .int x5), (6, .int i6_1), (7, .int i7_2), (8, .int i8_3), (9, .int i9_6)]) hx hb dL_why_180 hl (by decide) rfl (fun ls hl => ?_)
                  refine lv_iload hx hb dL_why_182 (lv_at hl 0 rfl) ?_
                  refine lv_if_ne (tgt := 192) hx hb dL_why_184 (by decide) (fun _ => ?_) (fun h => absurd h (by decide))
                  refine lv_iinc (v := (i9_6 + 1)) (lv' := [(9, .int (i9_6 + 1)), (11, .int 1), (10, .int ((ra i9_6.toNatClampNeg) - (ra i9_6.toNatClampNeg) / 1000 * 1000)), (0, .ref gA0), (1, .ref wA0), (2, .ref lA0), (3, .ref rA0), (4, .int x4), (5, .int x5), (6, .int i6_1), (7, .int i7_2), (8, .int i8_3)]) hx hb dL_why_192 hl (k := 11) rfl rfl (by decide) rfl (fun ls hl => ?_)
                  refine lv_goto (tgt := 95) hx hb dL_why_195 (by decide) ?_
                  have hst : f_L_why_st1 ga ra i7_2 i8_3 i9_6 = .inl (i9_6 + 1) := by rw [f_L_why_st1, if_neg c_7, if_pos c_8, if_pos c_9, if_neg c_10]
                  have hmu : (((ga 2) : Int32).toInt - ((i9_6 + 1) : Int32).toInt).toNat < (((ga 2) : Int32).toInt - (i9_6 : Int32).toInt).toNat := mu_up c_7
                  exact ih1 (i9_6 + 1) (Nat.lt_of_lt_of_le hmu (Nat.le_of_lt_succ hlt1)) (lp_inl hst hF1) (nn_up hi1_0 c_7) _ (lv_sub hl [3, 4, 5, 6, 7, 8, 9, 10, 11, 0] rfl)
              · refine lv_iload hx hb dL_why_148 (lv_at hl 8 rfl) ?_
                refine lv_iload hx hb dL_why_150 (lv_at hl 0 rfl) ?_
                refine lv_ishr hx hb dL_why_152 ?_
                refine lv_iconst (v := 1) hx hb dL_why_153 (by decide) ?_
                refine lv_iand hx hb dL_why_154 ?_
                refine lv_iconst (v := 1) hx hb dL_why_155 (by decide) ?_
                refine lv_icmp_ne (tgt := 163) hx hb dL_why_156 (by decide) (fun c_11 => ?_) (fun c_11 => ?_)
                · refine lv_iconst (v := 0) hx hb dL_why_163 (by decide) ?_
                  refine lv_goto (tgt := 180) hx hb dL_why_164 (by decide) ?_
                  refine lv_istore (lv' := [(11, .int 0), (10, .int ((ra i9_6.toNatClampNeg) - (ra i9_6.toNatClampNeg) / 1000 * 1000)), (0, .ref gA0), (1, .ref wA0), (2, .ref lA0), (3, .ref rA0), (4, .int x4), (5, .int x5), (6, .int i6_1), (7, .int i7_2), (8, .int i8_3), (9, .int i9_6)]) hx hb dL_why_180 hl (by decide) rfl (fun ls hl => ?_)
                  refine lv_iload hx hb dL_why_182 (lv_at hl 0 rfl) ?_
                  refine lv_if_ne (tgt := 192) hx hb dL_why_184 (by decide) (fun h => absurd (by decide) h) (fun _ => ?_)
                  refine lv_iload hx hb dL_why_187 (lv_at hl 11 rfl) ?_
                  refine lv_iconst (v := 2) hx hb dL_why_189 (by decide) ?_
                  refine lv_iadd hx hb dL_why_190 ?_
                  have hst : f_L_why_st1 ga ra i7_2 i8_3 i9_6 = .inr (i9_6 + 2) := by rw [f_L_why_st1, if_neg c_7, if_pos c_8, if_neg c_9, if_neg c_11]
                  exact W.iret hx hb hr (fun t ht hW => ⟨(i9_6 + 2), rfl, (show f_L_why ga wa la ra x4 x5 = (i9_6 + 2) from by rw [f_L_why, hE0, my_t4_eq, if_pos c_5]; exact lp_inr hst hF1).symm, ht⟩) (fun q hq => absurd hq List.not_mem_nil) dL_why_191
                · refine lv_iconst (v := 1) hx hb dL_why_159 (by decide) ?_
                  refine lv_goto (tgt := 180) hx hb dL_why_160 (by decide) ?_
                  refine lv_istore (lv' := [(11, .int 1), (10, .int ((ra i9_6.toNatClampNeg) - (ra i9_6.toNatClampNeg) / 1000 * 1000)), (0, .ref gA0), (1, .ref wA0), (2, .ref lA0), (3, .ref rA0), (4, .int x4), (5, .int x5), (6, .int i6_1), (7, .int i7_2), (8, .int i8_3), (9, .int i9_6)]) hx hb dL_why_180 hl (by decide) rfl (fun ls hl => ?_)
                  refine lv_iload hx hb dL_why_182 (lv_at hl 0 rfl) ?_
                  refine lv_if_ne (tgt := 192) hx hb dL_why_184 (by decide) (fun _ => ?_) (fun h => absurd h (by decide))
                  refine lv_iinc (v := (i9_6 + 1)) (lv' := [(9, .int (i9_6 + 1)), (11, .int 1), (10, .int ((ra i9_6.toNatClampNeg) - (ra i9_6.toNatClampNeg) / 1000 * 1000)), (0, .ref gA0), (1, .ref wA0), (2, .ref lA0), (3, .ref rA0), (4, .int x4), (5, .int x5), (6, .int i6_1), (7, .int i7_2), (8, .int i8_3)]) hx hb dL_why_192 hl (k := 11) rfl rfl (by decide) rfl (fun ls hl => ?_)
                  refine lv_goto (tgt := 95) hx hb dL_why_195 (by decide) ?_
                  have hst : f_L_why_st1 ga ra i7_2 i8_3 i9_6 = .inl (i9_6 + 1) := by rw [f_L_why_st1, if_neg c_7, if_pos c_8, if_neg c_9, if_pos c_11]
                  have hmu : (((ga 2) : Int32).toInt - ((i9_6 + 1) : Int32).toInt).toNat < (((ga 2) : Int32).toInt - (i9_6 : Int32).toInt).toNat := mu_up c_7
                  exact ih1 (i9_6 + 1) (Nat.lt_of_lt_of_le hmu (Nat.le_of_lt_succ hlt1)) (lp_inl hst hF1) (nn_up hi1_0 c_7) _ (lv_sub hl [3, 4, 5, 6, 7, 8, 9, 10, 11, 0] rfl)
            · refine lv_iload hx hb dL_why_123 (lv_at hl 9 rfl) ?_
              refine lv_iload hx hb dL_why_125 (lv_at hl 0 rfl) ?_
              refine lv_icmp_lt (tgt := 134) hx hb dL_why_127 (by decide) (fun c_12 => ?_) (fun c_12 => ?_)
              · refine lv_iconst (v := 0) hx hb dL_why_134 (by decide) ?_
                refine lv_goto (tgt := 180) hx hb dL_why_135 (by decide) ?_
                refine lv_istore (lv' := [(11, .int 0), (10, .int ((ra i9_6.toNatClampNeg) - (ra i9_6.toNatClampNeg) / 1000 * 1000)), (0, .ref gA0), (1, .ref wA0), (2, .ref lA0), (3, .ref rA0), (4, .int x4), (5, .int x5), (6, .int i6_1), (7, .int i7_2), (8, .int i8_3), (9, .int i9_6)]) hx hb dL_why_180 hl (by decide) rfl (fun ls hl => ?_)
                refine lv_iload hx hb dL_why_182 (lv_at hl 0 rfl) ?_
                refine lv_if_ne (tgt := 192) hx hb dL_why_184 (by decide) (fun h => absurd (by decide) h) (fun _ => ?_)
                refine lv_iload hx hb dL_why_187 (lv_at hl 11 rfl) ?_
                refine lv_iconst (v := 2) hx hb dL_why_189 (by decide) ?_
                refine lv_iadd hx hb dL_why_190 ?_
                have hst : f_L_why_st1 ga ra i7_2 i8_3 i9_6 = .inr (i9_6 + 2) := by rw [f_L_why_st1, if_neg c_7, if_neg c_8, if_pos c_12]
                exact W.iret hx hb hr (fun t ht hW => ⟨(i9_6 + 2), rfl, (show f_L_why ga wa la ra x4 x5 = (i9_6 + 2) from by rw [f_L_why, hE0, my_t4_eq, if_pos c_5]; exact lp_inr hst hF1).symm, ht⟩) (fun q hq => absurd hq List.not_mem_nil) dL_why_191
              · refine lv_iconst (v := 1) hx hb dL_why_130 (by decide) ?_
                refine lv_goto (tgt := 180) hx hb dL_why_131 (by decide) ?_
                refine lv_istore (lv' := [(11, .int 1), (10, .int ((ra i9_6.toNatClampNeg) - (ra i9_6.toNatClampNeg) / 1000 * 1000)), (0, .ref gA0), (1, .ref wA0), (2, .ref lA0), (3, .ref rA0), (4, .int x4), (5, .int x5), (6, .int i6_1), (7, .int i7_2), (8, .int i8_3), (9, .int i9_6)]) hx hb dL_why_180 hl (by decide) rfl (fun ls hl => ?_)
                refine lv_iload hx hb dL_why_182 (lv_at hl 0 rfl) ?_
                refine lv_if_ne (tgt := 192) hx hb dL_why_184 (by decide) (fun _ => ?_) (fun h => absurd h (by decide))
                refine lv_iinc (v := (i9_6 + 1)) (lv' := [(9, .int (i9_6 + 1)), (11, .int 1), (10, .int ((ra i9_6.toNatClampNeg) - (ra i9_6.toNatClampNeg) / 1000 * 1000)), (0, .ref gA0), (1, .ref wA0), (2, .ref lA0), (3, .ref rA0), (4, .int x4), (5, .int x5), (6, .int i6_1), (7, .int i7_2), (8, .int i8_3)]) hx hb dL_why_192 hl (k := 11) rfl rfl (by decide) rfl (fun ls hl => ?_)
                refine lv_goto (tgt := 95) hx hb dL_why_195 (by decide) ?_
                have hst : f_L_why_st1 ga ra i7_2 i8_3 i9_6 = .inl (i9_6 + 1) := by rw [f_L_why_st1, if_neg c_7, if_neg c_8, if_neg c_12]
                have hmu : (((ga 2) : Int32).toInt - ((i9_6 + 1) : Int32).toInt).toNat < (((ga 2) : Int32).toInt - (i9_6 : Int32).toInt).toNat := mu_up c_7
                exact ih1 (i9_6 + 1) (Nat.lt_of_lt_of_le hmu (Nat.le_of_lt_succ hlt1)) (lp_inl hst hF1) (nn_up hi1_0 c_7) _ (lv_sub hl [3, 4, 5, 6, 7, 8, 9, 10, 11, 0] rfl)
      exact key ((((ga 2) : Int32).toInt - (0 : Int32).toInt).toNat + 1) 0 (Nat.lt_succ_self _) rfl (by decide) _ (lv_sub hl [1, 2, 3, 4, 5, 6, 7, 8, 9, 0] rfl)
    · refine lv_iconst (v := 1) hx hb dL_why_90 (by decide) ?_
      exact W.iret hx hb hr (fun t ht hW => ⟨1, rfl, (show f_L_why ga wa la ra x4 x5 = 1 from by rw [f_L_why, hE0, my_t4_eq, if_neg c_5]).symm, ht⟩) (fun q hq => absurd hq List.not_mem_nil) dL_why_91
  have key : ∀ (nf : Nat) (i6_1 : Int32) (i7_2 : Int32) (i8_3 : Int32) (i9_4 : Int32), (((ga 0) : Int32).toInt - (i9_4 : Int32).toInt).toNat < nf → lp (fun (x : Int32 × Int32 × Int32 × Int32) => f_L_why_st ga wa la x4 x.1 x.2.1 x.2.2.1 x.2.2.2) default nf (i6_1, i7_2, i8_3, i9_4) = lp (fun (x : Int32 × Int32 × Int32 × Int32) => f_L_why_st ga wa la x4 x.1 x.2.1 x.2.2.1 x.2.2.2) default ((((ga 0) : Int32).toInt - (0 : Int32).toInt).toNat + 1) (0, 0, 0, 0) → ¬ i9_4 < 0 → ∀ ls : Array Slot, lv_has ls 12 [(0, .ref gA0), (1, .ref wA0), (2, .ref lA0), (3, .ref rA0), (4, .int x4), (5, .int x5), (6, .int i6_1), (7, .int i7_2), (8, .int i8_3), (9, .int i9_4)] → W p l e (headSpec wsL_why ({ frames := 0, cells := 0, slots := 0, locals := 0 } : Room)).room s m ([.ref gA0, .ref wA0, .ref lA0, .ref rA0, .int x4, .int x5] : List Value).toArray below meth c s.heap [] 0 0 (MQ below (vp_Si (fun r => r = f_L_why ga wa la ra x4 x5)) ([.ref gA0, .ref wA0, .ref lA0, .ref rA0, .int x4, .int x5] : List Value).toArray s 0 0 (fun _ => False)) (F0 m 12 ls []) := by
    intro n0
    induction n0 with
    | zero => intro i6_1 i7_2 i8_3 i9_4 hlt; exact absurd hlt (Nat.not_lt_zero _)
    | succ n0 ih0 =>
      intro i6_1 i7_2 i8_3 i9_4 hlt0 hF0 hi0_0 ls hl
      refine lv_iload hx hb dL_why_12 (lv_at hl 9 rfl) ?_
      refine lv_aload_n hx hb dL_why_14 rfl (lv_at hl 0 rfl) ?_
      refine lv_iconst (v := 0) hx hb dL_why_15 (by decide) ?_
      refine va_iald hx hb hK0.1 hP 0 0 rfl rfl (vp_in_nI (n := 0) (N := 3) (by decide) (by decide)) dL_why_16 ?_
      refine W.eq (g2 := F0 m 17 ls [.int (ga 0), .int i9_4]) rfl ?_
      refine lv_icmp_ge (tgt := 83) hx hb dL_why_17 (by decide) (fun c_13 => ?_) (fun c_13 => ?_)
      · have hst : f_L_why_st ga wa la x4 i6_1 i7_2 i8_3 i9_4 = .inr (i6_1, i7_2, i8_3, i9_4) := by rw [f_L_why_st, if_pos c_13]
        exact cont0 i6_1 i7_2 i8_3 i9_4 (lp_inr hst hF0) hi0_0 _ (lv_sub hl [0, 1, 2, 3, 4, 5, 6, 7, 8, 9] rfl)
      · refine lv_aload_n hx hb dL_why_20 rfl (lv_at hl 2 rfl) ?_
        refine lv_iload hx hb dL_why_21 (lv_at hl 9 rfl) ?_
        refine va_iald hx hb hK0.1 hP 2 0 rfl rfl (ix_self (K := 8) (N := 8) hi0_0 c_13 hg0 (by decide)) dL_why_23 ?_
        refine lv_if_ge (tgt := 32) hx hb dL_why_24 (by decide) (fun c_14 => ?_) (fun c_14 => ?_)
        · refine lv_aload_n hx hb dL_why_32 rfl (lv_at hl 2 rfl) ?_
          refine lv_iload hx hb dL_why_33 (lv_at hl 9 rfl) ?_
          refine va_iald hx hb hK0.1 hP 2 0 rfl rfl (ix_self (K := 8) (N := 8) hi0_0 c_13 hg0 (by decide)) dL_why_35 ?_
          refine lv_istore (lv' := [(10, .int (la i9_4.toNatClampNeg)), (0, .ref gA0), (1, .ref wA0), (2, .ref lA0), (3, .ref rA0), (4, .int x4), (5, .int x5), (6, .int i6_1), (7, .int i7_2), (8, .int i8_3), (9, .int i9_4)]) hx hb dL_why_36 hl (by decide) rfl (fun ls hl => ?_)
          refine lv_iload hx hb dL_why_38 (lv_at hl 5 rfl) ?_
          refine lv_iload hx hb dL_why_40 (lv_at hl 0 rfl) ?_
          refine lv_ishr hx hb dL_why_42 ?_
          refine lv_iconst (v := 1) hx hb dL_why_43 (by decide) ?_
          refine lv_iand hx hb dL_why_44 ?_
          refine lv_iconst (v := 1) hx hb dL_why_45 (by decide) ?_
          refine lv_icmp_ne (tgt := 77) hx hb dL_why_46 (by decide) (fun c_15 => ?_) (fun c_15 => ?_)
          · refine lv_iinc (v := (i9_4 + 1)) (lv' := [(9, .int (i9_4 + 1)), (10, .int (la i9_4.toNatClampNeg)), (0, .ref gA0), (1, .ref wA0), (2, .ref lA0), (3, .ref rA0), (4, .int x4), (5, .int x5), (6, .int i6_1), (7, .int i7_2), (8, .int i8_3)]) hx hb dL_why_77 hl (k := 10) rfl rfl (by decide) rfl (fun ls hl => ?_)
            refine lv_goto (tgt := 12) hx hb dL_why_80 (by decide) ?_
            have hst : f_L_why_st ga wa la x4 i6_1 i7_2 i8_3 i9_4 = .inl (i6_1, i7_2, i8_3, (i9_4 + 1)) := by rw [f_L_why_st, if_neg c_13, if_pos c_14, if_neg c_15]
            have hmu : (((ga 0) : Int32).toInt - ((i9_4 + 1) : Int32).toInt).toNat < (((ga 0) : Int32).toInt - (i9_4 : Int32).toInt).toNat := mu_up c_13
            exact ih0 i6_1 i7_2 i8_3 (i9_4 + 1) (Nat.lt_of_lt_of_le hmu (Nat.le_of_lt_succ hlt0)) (lp_inl hst hF0) (nn_up hi0_0 c_13) _ (lv_sub hl [2, 3, 4, 5, 6, 7, 8, 9, 10, 0] rfl)
          · refine lv_aload_n hx hb dL_why_49 rfl (lv_at hl 3 rfl) ?_
            refine lv_iload hx hb dL_why_50 (lv_at hl 0 rfl) ?_
            refine va_iald hx hb hK0.1 hP 2 0 rfl rfl (ix_l8 hl8 (Int32.not_lt.mpr c_14)) dL_why_52 ?_
            refine lv_if_ge (tgt := 77) hx hb dL_why_53 (by decide) (fun c_16 => ?_) (fun c_16 => ?_)
            · refine lv_iinc (v := (i9_4 + 1)) (lv' := [(9, .int (i9_4 + 1)), (10, .int (la i9_4.toNatClampNeg)), (0, .ref gA0), (1, .ref wA0), (2, .ref lA0), (3, .ref rA0), (4, .int x4), (5, .int x5), (6, .int i6_1), (7, .int i7_2), (8, .int i8_3)]) hx hb dL_why_77 hl (k := 10) rfl rfl (by decide) rfl (fun ls hl => ?_)
              refine lv_goto (tgt := 12) hx hb dL_why_80 (by decide) ?_
              have hst : f_L_why_st ga wa la x4 i6_1 i7_2 i8_3 i9_4 = .inl (i6_1, i7_2, i8_3, (i9_4 + 1)) := by rw [f_L_why_st, if_neg c_13, if_pos c_14, if_pos c_15, if_pos c_16]
              have hmu : (((ga 0) : Int32).toInt - ((i9_4 + 1) : Int32).toInt).toNat < (((ga 0) : Int32).toInt - (i9_4 : Int32).toInt).toNat := mu_up c_13
              exact ih0 i6_1 i7_2 i8_3 (i9_4 + 1) (Nat.lt_of_lt_of_le hmu (Nat.le_of_lt_succ hlt0)) (lp_inl hst hF0) (nn_up hi0_0 c_13) _ (lv_sub hl [2, 3, 4, 5, 6, 7, 8, 9, 10, 0] rfl)
            · refine lv_iload hx hb dL_why_56 (lv_at hl 7 rfl) ?_
              refine lv_aload_n hx hb dL_why_58 rfl (lv_at hl 2 rfl) ?_
              refine lv_iload hx hb dL_why_59 (lv_at hl 10 rfl) ?_
              refine va_iald hx hb hK0.1 hP 1 0 rfl rfl (ix_self (K := 8) (N := 8) hi0_0 c_13 hg0 (by decide)) dL_why_61 ?_
              refine lv_iadd hx hb dL_why_62 ?_
              refine lv_istore (lv' := [(6, .int (i6_1 + (wa i9_4.toNatClampNeg))), (10, .int (la i9_4.toNatClampNeg)), (0, .ref gA0), (1, .ref wA0), (2, .ref lA0), (3, .ref rA0), (4, .int x4), (5, .int x5), (7, .int i7_2), (8, .int i8_3), (9, .int i9_4)]) hx hb dL_why_63 hl (by decide) rfl (fun ls hl => ?_)
              refine lv_iload hx hb dL_why_65 (lv_at hl 8 rfl) ?_
              refine lv_iconst (v := 1) hx hb dL_why_67 (by decide) ?_
              refine lv_iload hx hb dL_why_68 (lv_at hl 10 rfl) ?_
              refine lv_ishl hx hb dL_why_70 ?_
              refine lv_ior hx hb dL_why_71 ?_
              refine lv_istore (lv' := [(7, .int (i7_2 ||| (1 <<< (i9_4 &&& 31)))), (6, .int (i6_1 + (wa i9_4.toNatClampNeg))), (10, .int (la i9_4.toNatClampNeg)), (0, .ref gA0), (1, .ref wA0), (2, .ref lA0), (3, .ref rA0), (4, .int x4), (5, .int x5), (8, .int i8_3), (9, .int i9_4)]) hx hb dL_why_72 hl (by decide) rfl (fun ls hl => ?_)
              refine lv_iinc (v := (i8_3 + 1)) (lv' := [(8, .int (i8_3 + 1)), (7, .int (i7_2 ||| (1 <<< (i9_4 &&& 31)))), (6, .int (i6_1 + (wa i9_4.toNatClampNeg))), (10, .int (la i9_4.toNatClampNeg)), (0, .ref gA0), (1, .ref wA0), (2, .ref lA0), (3, .ref rA0), (4, .int x4), (5, .int x5), (9, .int i9_4)]) hx hb dL_why_74 hl (k := 9) rfl rfl (by decide) rfl (fun ls hl => ?_)
              refine lv_iinc (v := (i9_4 + 1)) (lv' := [(9, .int (i9_4 + 1)), (8, .int (i8_3 + 1)), (7, .int (i7_2 ||| (1 <<< (i9_4 &&& 31)))), (6, .int (i6_1 + (wa i9_4.toNatClampNeg))), (10, .int (la i9_4.toNatClampNeg)), (0, .ref gA0), (1, .ref wA0), (2, .ref lA0), (3, .ref rA0), (4, .int x4), (5, .int x5)]) hx hb dL_why_77 hl (k := 10) rfl rfl (by decide) rfl (fun ls hl => ?_)
              refine lv_goto (tgt := 12) hx hb dL_why_80 (by decide) ?_
              have hst : f_L_why_st ga wa la x4 i6_1 i7_2 i8_3 i9_4 = .inl ((i6_1 + (wa i9_4.toNatClampNeg)), (i7_2 ||| (1 <<< (i9_4 &&& 31))), (i8_3 + 1), (i9_4 + 1)) := by rw [f_L_why_st, if_neg c_13, if_pos c_14, if_pos c_15, if_neg c_16]
              have hmu : (((ga 0) : Int32).toInt - ((i9_4 + 1) : Int32).toInt).toNat < (((ga 0) : Int32).toInt - (i9_4 : Int32).toInt).toNat := mu_up c_13
              exact ih0 (i6_1 + (wa i9_4.toNatClampNeg)) (i7_2 ||| (1 <<< (i9_4 &&& 31))) (i8_3 + 1) (i9_4 + 1) (Nat.lt_of_lt_of_le hmu (Nat.le_of_lt_succ hlt0)) (lp_inl hst hF0) (nn_up hi0_0 c_13) _ (lv_sub hl [5, 6, 7, 8, 9, 10, 3, 2, 1, 0] rfl)
        · refine lv_iload hx hb dL_why_27 (lv_at hl 9 rfl) ?_
          refine lv_goto (tgt := 36) hx hb dL_why_29 (by decide) ?_
          refine lv_istore (lv' := [(10, .int i9_4), (0, .ref gA0), (1, .ref wA0), (2, .ref lA0), (3, .ref rA0), (4, .int x4), (5, .int x5), (6, .int i6_1), (7, .int i7_2), (8, .int i8_3), (9, .int i9_4)]) hx hb dL_why_36 hl (by decide) rfl (fun ls hl => ?_)
          refine lv_iload hx hb dL_why_38 (lv_at hl 5 rfl) ?_
          refine lv_iload hx hb dL_why_40 (lv_at hl 0 rfl) ?_
          refine lv_ishr hx hb dL_why_42 ?_
          refine lv_iconst (v := 1) hx hb dL_why_43 (by decide) ?_
          refine lv_iand hx hb dL_why_44 ?_
          refine lv_iconst (v := 1) hx hb dL_why_45 (by decide) ?_
          refine lv_icmp_ne (tgt := 77) hx hb dL_why_46 (by decide) (fun c_17 => ?_) (fun c_17 => ?_)
          · refine lv_iinc (v := (i9_4 + 1)) (lv' := [(9, .int (i9_4 + 1)), (10, .int i9_4), (0, .ref gA0), (1, .ref wA0), (2, .ref lA0), (3, .ref rA0), (4, .int x4), (5, .int x5), (6, .int i6_1), (7, .int i7_2), (8, .int i8_3)]) hx hb dL_why_77 hl (k := 10) rfl rfl (by decide) rfl (fun ls hl => ?_)
            refine lv_goto (tgt := 12) hx hb dL_why_80 (by decide) ?_
            have hst : f_L_why_st ga wa la x4 i6_1 i7_2 i8_3 i9_4 = .inl (i6_1, i7_2, i8_3, (i9_4 + 1)) := by rw [f_L_why_st, if_neg c_13, if_neg c_14, if_neg c_17]
            have hmu : (((ga 0) : Int32).toInt - ((i9_4 + 1) : Int32).toInt).toNat < (((ga 0) : Int32).toInt - (i9_4 : Int32).toInt).toNat := mu_up c_13
            exact ih0 i6_1 i7_2 i8_3 (i9_4 + 1) (Nat.lt_of_lt_of_le hmu (Nat.le_of_lt_succ hlt0)) (lp_inl hst hF0) (nn_up hi0_0 c_13) _ (lv_sub hl [2, 3, 4, 5, 6, 7, 8, 9, 10, 0] rfl)
          · refine lv_aload_n hx hb dL_why_49 rfl (lv_at hl 3 rfl) ?_
            refine lv_iload hx hb dL_why_50 (lv_at hl 0 rfl) ?_
            refine va_iald hx hb hK0.1 hP 2 0 rfl rfl (ix_self (K := 8) (N := 8) hi0_0 c_13 hg0 (by decide)) dL_why_52 ?_
            refine lv_if_ge (tgt := 77) hx hb dL_why_53 (by decide) (fun h => absurd h c_14) (fun _ => ?_)
            refine lv_iload hx hb dL_why_56 (lv_at hl 7 rfl) ?_
            refine lv_aload_n hx hb dL_why_58 rfl (lv_at hl 2 rfl) ?_
            refine lv_iload hx hb dL_why_59 (lv_at hl 10 rfl) ?_
            refine va_iald hx hb hK0.1 hP 1 0 rfl rfl (ix_self (K := 8) (N := 8) hi0_0 c_13 hg0 (by decide)) dL_why_61 ?_
            refine lv_iadd hx hb dL_why_62 ?_
            refine lv_istore (lv' := [(6, .int (i6_1 + (wa i9_4.toNatClampNeg))), (10, .int i9_4), (0, .ref gA0), (1, .ref wA0), (2, .ref lA0), (3, .ref rA0), (4, .int x4), (5, .int x5), (7, .int i7_2), (8, .int i8_3), (9, .int i9_4)]) hx hb dL_why_63 hl (by decide) rfl (fun ls hl => ?_)
            refine lv_iload hx hb dL_why_65 (lv_at hl 8 rfl) ?_
            refine lv_iconst (v := 1) hx hb dL_why_67 (by decide) ?_
            refine lv_iload hx hb dL_why_68 (lv_at hl 10 rfl) ?_
            refine lv_ishl hx hb dL_why_70 ?_
            refine lv_ior hx hb dL_why_71 ?_
            refine lv_istore (lv' := [(7, .int (i7_2 ||| (1 <<< (i9_4 &&& 31)))), (6, .int (i6_1 + (wa i9_4.toNatClampNeg))), (10, .int i9_4), (0, .ref gA0), (1, .ref wA0), (2, .ref lA0), (3, .ref rA0), (4, .int x4), (5, .int x5), (8, .int i8_3), (9, .int i9_4)]) hx hb dL_why_72 hl (by decide) rfl (fun ls hl => ?_)
            refine lv_iinc (v := (i8_3 + 1)) (lv' := [(8, .int (i8_3 + 1)), (7, .int (i7_2 ||| (1 <<< (i9_4 &&& 31)))), (6, .int (i6_1 + (wa i9_4.toNatClampNeg))), (10, .int i9_4), (0, .ref gA0), (1, .ref wA0), (2, .ref lA0), (3, .ref rA0), (4, .int x4), (5, .int x5), (9, .int i9_4)]) hx hb dL_why_74 hl (k := 9) rfl rfl (by decide) rfl (fun ls hl => ?_)
            refine lv_iinc (v := (i9_4 + 1)) (lv' := [(9, .int (i9_4 + 1)), (8, .int (i8_3 + 1)), (7, .int (i7_2 ||| (1 <<< (i9_4 &&& 31)))), (6, .int (i6_1 + (wa i9_4.toNatClampNeg))), (10, .int i9_4), (0, .ref gA0), (1, .ref wA0), (2, .ref lA0), (3, .ref rA0), (4, .int x4), (5, .int x5)]) hx hb dL_why_77 hl (k := 10) rfl rfl (by decide) rfl (fun ls hl => ?_)
            refine lv_goto (tgt := 12) hx hb dL_why_80 (by decide) ?_
            have hst : f_L_why_st ga wa la x4 i6_1 i7_2 i8_3 i9_4 = .inl ((i6_1 + (wa i9_4.toNatClampNeg)), (i7_2 ||| (1 <<< (i9_4 &&& 31))), (i8_3 + 1), (i9_4 + 1)) := by rw [f_L_why_st, if_neg c_13, if_neg c_14, if_pos c_17]
            have hmu : (((ga 0) : Int32).toInt - ((i9_4 + 1) : Int32).toInt).toNat < (((ga 0) : Int32).toInt - (i9_4 : Int32).toInt).toNat := mu_up c_13
            exact ih0 (i6_1 + (wa i9_4.toNatClampNeg)) (i7_2 ||| (1 <<< (i9_4 &&& 31))) (i8_3 + 1) (i9_4 + 1) (Nat.lt_of_lt_of_le hmu (Nat.le_of_lt_succ hlt0)) (lp_inl hst hF0) (nn_up hi0_0 c_13) _ (lv_sub hl [5, 6, 7, 8, 9, 10, 3, 2, 1, 0] rfl)
  exact key ((((ga 0) : Int32).toInt - (0 : Int32).toInt).toNat + 1) 0 0 0 0 (Nat.lt_succ_self _) rfl (by decide) _ (lv_sub hl [4, 5, 6, 7, 8, 9, 3, 2, 1, 0] rfl)
