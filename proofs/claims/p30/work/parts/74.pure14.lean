/-! part 74 -/
def bl (y : Nat → Int32) : Prop := ∀ j : Nat, y j = 0 ∨ y j = 1
/-- a call that may refuse, and else answers and measures; the reference lays what wins -/
def rdO {α : Type} (F : Int32 ⊕ (α × (Int32 × PowV))) (G : α × (Int32 × Int32 × (Nat → Int32))) (a : α) (cod : Int32 → Int32) (s : Nat → Int32) (y4 : Int32) (y10 : Nat → Int32) : Prop :=
  (∃ f, F = .inl f ∧ (f = 1 ∨ f = 2 ∨ f = 3) ∧ 0 < cod f ∧ G = (a, (cod f, y4, y10))) ∨
  (∃ r u p, F = .inr (r, u) ∧ G = (r, (0, p)) ∧ pwr u.1 s u.2 ∧ bl p.2)
section READ
variable {v : SetV} {s : Nat → Int32} {n r : Nat} {w : PowV} {st y4 : Int32} {y10 : Nat → Int32}
theorem pwr_m (hv : eqS v s (s 1)) (hg : GS s) (hp : pwr st s w) : pwr (f_X7_measured st v w).1 s (f_X7_measured st v w).2 := by
  obtain ⟨h1, h2⟩ := measured_ok hv hg hp
  rw [h1]; exact h2
theorem faultM (hv : eqS v s (s 1)) (x : Int32) : f_X6_faultOfMember v x = if f_X8_isMember s x = 0 then 1 else 0 := by
  unfold f_X6_faultOfMember
  rw [hm_eq hv]
theorem R_member (hv : eqS v s (s 1)) (hg : GS s) (hp : pwr st s w) (hb : bl y10) (x0 x1 : Int32) : rdO (f_X7_member st v w x0 x1) (f_X8_member y4 s y10 x0 x1) 0 (fun f => f) s y4 y10 := by
  have hm := measured_ok hv hg hp
  have hpm := pwr_m hv hg hp
  obtain ⟨n, r, c, hN, hL, hW, hR, hq, hq1, hq2⟩ := hg
  unfold f_X7_member f_X8_member
  rw [faultM hv, rg_eq]
  by_cases h1 : f_X8_isMember s x0 = 0
  · rw [if_pos h1, if_pos h1, rf_bad (Or.inl rfl)]
    exact Or.inl ⟨1, rfl, Or.inl rfl, by decide, rfl⟩
  · rw [if_neg h1, if_neg h1, rf_fine]
    by_cases h2 : f_X8_in x1 0 7 = 0
    · rw [if_pos h2, if_pos h2, rf_bad (Or.inr (Or.inl rfl))]
      exact Or.inl ⟨2, rfl, Or.inr (Or.inl rfl), by decide, rfl⟩
    · rw [if_neg h2, if_neg h2, rf_fine]
      obtain ⟨m, hm', rfl⟩ := mem_of hN h1
      obtain ⟨t, _, ht, rfl⟩ := in_rg (A := 0) (B := 7) rfl rfl (by decide) (by decide) h2
      refine Or.inr ⟨_, _, _, rfl, ?_, hpm, lays_z (s := s) hb (s 1)⟩
      show (f_X8_memberOf (f_X8_lays s y10 (s 1)).1 s (f_X8_lays s y10 (s 1)).2 (nI m) (nI t), _) = (f_X7_memberValue _ v (f_X7_measured st v w).2 (nI m) (nI t), _)
      have hl := lays_W hN y10 (s 1)
      rw [hl.1, member_eq hv hN hL hW hR (hm.2 rfl n r hN) hl.2 _ hm' (by omega)]
      rw [← hl.1]
theorem R_whole (hv : eqS v s (s 1)) (hg : GS s) (hp : pwr st s w) (hb : bl y10) (tx : TxtV) (x0 : Int32) : rdO (f_X7_whole st v w tx x0) (f_X8_whole tx.1 y4 s y10 x0) 0 (fun _ => 1) s y4 y10 := by
  have hm := measured_ok hv hg hp
  have hpm := pwr_m hv hg hp
  obtain ⟨n, r, c, hN, hL, hW, hR, hq, hq1, hq2⟩ := hg
  unfold f_X7_whole f_X8_whole
  rw [rg_eq]
  by_cases h2 : f_X8_in x0 0 11 = 0
  · rw [if_pos h2, if_pos h2, rf_bad (Or.inr (Or.inl rfl))]
    exact Or.inl ⟨2, rfl, Or.inr (Or.inl rfl), by decide, rfl⟩
  · rw [if_neg h2, if_neg h2, rf_fine]
    obtain ⟨t, _, ht, rfl⟩ := in_rg (A := 0) (B := 11) rfl rfl (by decide) (by decide) h2
    refine Or.inr ⟨_, _, _, rfl, ?_, hpm, lays_z (s := s) hb (s 1)⟩
    show (f_X8_wholeOf tx.1 (f_X8_lays s y10 (s 1)).1 s (f_X8_lays s y10 (s 1)).2 (nI t), _) = (f_X7_wholeValue _ v (f_X7_measured st v w).2 tx (nI t), _)
    have hl := lays_W hN y10 (s 1)
    rw [hl.1, whole_eq hv hN hL hW hR (hm.2 rfl n r hN) hl.2 _ tx (by omega)]
    rw [← hl.1]
theorem share_eq (hM : MI s n (s 1) (wnB s n (s 1)) 256 w) {y : Nat → Int32} (hy : ∀ j, j < 256 → y j = bI (wnB s n (s 1) j)) {m : Nat} (hm : m < 8) : f_X3_shareOf w (nI m) = f_X8_shareOf y (nI m) := by
  unfold f_X3_shareOf f_X8_shareOf
  rw [rAt_nI hm (by decide), hM.2.2.2.2.2.2.2.2.2.1 m hm, hM.2.2.2.2.2.1, allSw_W hy, swings_W hy hm]
theorem fac9 : ∀ k, k < 9 → f_X7_factorial (nI k) = f_X8_factorial (nI k) := by decide +kernel
theorem fac0 : ∀ k, k < 9 → ¬ f_X8_factorial (nI k) = 0 := by decide +kernel
theorem div0 : ∀ k, k < 9 → FP.ddiv (FP.i2d 0) (FP.i2d (f_X8_factorial (nI k))) = FP.dconst0 := by decide +kernel
theorem or0 {W : Nat → Bool} {a : Int32} {m : Nat} (h : ∀ j, j < 256 → W j = true → j.testBit m = false) : ∀ k, k ≤ 256 → orF W a m k = 0
  | 0, _ => rfl
  | k + 1, hk => by
    show (if swT W m k then orF W a m k + oT a k else orF W a m k) = 0
    rw [or0 h k (by omega)]
    have : swT W m k = false := by
      unfold swT
      cases hw : W k
      · cases k.testBit m <;> rfl
      · rw [h k (by omega) hw]; rfl
    rw [this]; rfl
theorem part_eq (hN : okN s n r) {q : Int32} (hM : MI s n q (wnB s n q) 256 w) {y : Nat → Int32} (hy : ∀ j, j < 256 → y j = bI (wnB s n q j)) {m : Nat} (hm : m < 8) : f_X3_partOf w (nI m) = f_X8_partOf (nI (plN s n)) s y (nI m) := by
  have h8 := hN.2.1
  have hp := plN_lt (s := s) h8
  unfold f_X3_partOf f_X8_partOf f_X3_playerCount
  rw [rAt_nI hm (by decide), hM.2.2.2.2.2.2.2.2.2.2 m hm, hM.1, bc_ones _ hp, isp_nI hN (by omega), orders_W hy _ hm]
  obtain ⟨k, hk, e⟩ := ones_9 (nI (plN s n))
  rw [e, fac9 k hk, if_neg (fac0 k hk)]
  cases hb : plB s n m
  · have : orF (wnB s n q) (nI (plN s n)) m 256 = 0 := by
      refine or0 (fun j hj hw => ?_) 256 (Nat.le_refl _)
      cases hjm : j.testBit m
      · rfl
      · have := (sub_bits hp hj).mp (wn_sub hw) m hm hjm
        rw [plN_bit, hb] at this
        exact absurd this (by decide)
    rw [this, if_pos (by decide)]
    exact div0 k hk
  · rw [if_neg (by decide)]
theorem R_share (hv : eqS v s (s 1)) (hg : GS s) (hp : pwr st s w) (hb : bl y10) (x0 : Int32) : rdO (f_X7_share st v w x0) (f_X8_share y4 s y10 x0) FP.fconst0 (fun _ => 1) s y4 y10 := by
  have hm := measured_ok hv hg hp
  have hpm := pwr_m hv hg hp
  obtain ⟨n, r, c, hN, hL, hW, hR, hq, hq1, hq2⟩ := hg
  have h8 := hN.2.1
  unfold f_X7_share f_X8_share
  rw [faultM hv]
  by_cases h1 : f_X8_isMember s x0 = 0
  · rw [if_pos h1, if_pos h1, rf_bad (Or.inl rfl)]
    exact Or.inl ⟨1, rfl, Or.inl rfl, by decide, rfl⟩
  · rw [if_neg h1, if_neg h1, rf_fine]
    obtain ⟨m, hm', rfl⟩ := mem_of hN h1
    refine Or.inr ⟨_, _, _, rfl, ?_, hpm, lays_z (s := s) hb (s 1)⟩
    show (f_X8_shareOf (f_X8_lays s y10 (s 1)).2 (nI m), _) = (f_X3_shareOf (f_X7_measured st v w).2 (nI m), _)
    rw [share_eq (hm.2 rfl n r hN) (lays_W hN y10 (s 1)).2 (by omega)]
theorem R_part (hv : eqS v s (s 1)) (hg : GS s) (hp : pwr st s w) (hb : bl y10) (x0 : Int32) : rdO (f_X7_part st v w x0) (f_X8_part y4 s y10 x0) FP.dconst0 (fun _ => 1) s y4 y10 := by
  have hm := measured_ok hv hg hp
  have hpm := pwr_m hv hg hp
  obtain ⟨n, r, c, hN, hL, hW, hR, hq, hq1, hq2⟩ := hg
  have h8 := hN.2.1
  unfold f_X7_part f_X8_part
  rw [faultM hv]
  by_cases h1 : f_X8_isMember s x0 = 0
  · rw [if_pos h1, if_pos h1, rf_bad (Or.inl rfl)]
    exact Or.inl ⟨1, rfl, Or.inl rfl, by decide, rfl⟩
  · rw [if_neg h1, if_neg h1, rf_fine]
    obtain ⟨m, hm', rfl⟩ := mem_of hN h1
    refine Or.inr ⟨_, _, _, rfl, ?_, hpm, lays_z (s := s) hb (s 1)⟩
    show (f_X8_partOf (f_X8_lays s y10 (s 1)).1 s (f_X8_lays s y10 (s 1)).2 (nI m), _) = (f_X3_partOf (f_X7_measured st v w).2 (nI m), _)
    have hl := lays_W hN y10 (s 1)
    rw [part_eq hN (hm.2 rfl n r hN) hl.2 (by omega), ← hl.1]
end READ
