/-! part 84: bestQuota, the run over the quotas -/
section BQ2
variable {v : SetV} {s : Nat → Int32} {n r : Nat} {w : PowV} {st y4 : Int32} {y10 : Nat → Int32} {q : Int32} {W : Nat → Bool}
theorem bq_sim (hN : okN s n r) {m L : Nat} (hm : m < 8) (hL : L ≤ 400) (hsum : f_X8_weightOf s 255 = nI L) {u : PowV} (hst : stp s n m 256 u.2.2.2.2.2.2.2.2.2.2.2.1 u.2.2.2.2.2.2.2.2.2.2.2.2) (hb : bl y10) :
    ∃ (f : Int32) (a b c d e : Int32) (g1 g2 g3 g4 : Int32) (y : Nat → Int32), lp (fun (x : Int32 × Int32 × Int32 × Int32 × Int32 × Int32) => f_X3_bestQuotaFor_st (nI L) u x.1 x.2.1 x.2.2.1 x.2.2.2.1 x.2.2.2.2.1 x.2.2.2.2.2) default (((400 : Int32).toInt + 1 - (1 : Int32).toInt).toNat + 1) (0, 0, (-1), 0, 1, 1) = (a, b, f, c, d, e) ∧
      lp (fun (x : Int32 × Int32 × Int32 × Int32 × Int32 × (Nat → Int32)) => f_X8_bestQuota_st s (nI m) x.1 x.2.1 x.2.2.1 x.2.2.2.1 x.2.2.2.2.1 x.2.2.2.2.2) default ((((f_X8_weightOf s 255) : Int32).toInt + 1 - (1 : Int32).toInt).toNat + 1) ((-1), 0, 1, 1, y4, y10) = (f, g1, g2, g3, g4, y) ∧ bl y := by
  refine lp_sim2 (fun (p : Int32 × Int32 × Int32 × Int32 × Int32 × Int32) (x : Int32 × Int32 × Int32 × Int32 × Int32 × (Nat → Int32)) => ∃ (t : Nat) (f c d g4 : Int32) (y : Nat → Int32), t ≤ L ∧ p = (pre u.2.2.2.2.2.2.2.2.2.2.2.1 t, pre u.2.2.2.2.2.2.2.2.2.2.2.2 t, f, c, d, nI (t + 1)) ∧ x = (f, c, d, nI (t + 1), g4, y) ∧ bl y) (fun (p : Int32 × Int32 × Int32 × Int32 × Int32 × Int32) (x : Int32 × Int32 × Int32 × Int32 × Int32 × (Nat → Int32)) => ∃ (f : Int32) (a b c d e : Int32) (g1 g2 g3 g4 : Int32) (y : Nat → Int32), p = (a, b, f, c, d, e) ∧ x = (f, g1, g2, g3, g4, y) ∧ bl y) (fun p => ((400 : Int32).toInt + 1 - p.2.2.2.2.2.toInt).toNat) (fun x => ((f_X8_weightOf s 255).toInt + 1 - x.2.2.2.1.toInt).toNat) ?_ _ _ _ _ ⟨0, -1, 0, 1, y4, y10, Nat.zero_le _, rfl, rfl, hb⟩ (Nat.lt_succ_self _) (Nat.lt_succ_self _)
  rintro p x ⟨t, f, c, d, g4, y, ht, rfl, rfl, hy⟩
  show (∃ x' y', f_X3_bestQuotaFor_st (nI L) u (pre u.2.2.2.2.2.2.2.2.2.2.2.1 t) (pre u.2.2.2.2.2.2.2.2.2.2.2.2 t) f c d (nI (t + 1)) = .inl x' ∧ f_X8_bestQuota_st s (nI m) f c d (nI (t + 1)) g4 y = .inl y' ∧ _) ∨ (∃ r r', f_X3_bestQuotaFor_st (nI L) u (pre u.2.2.2.2.2.2.2.2.2.2.2.1 t) (pre u.2.2.2.2.2.2.2.2.2.2.2.2 t) f c d (nI (t + 1)) = .inr r ∧ f_X8_bestQuota_st s (nI m) f c d (nI (t + 1)) g4 y = .inr r' ∧ _)
  unfold f_X3_bestQuotaFor_st f_X8_bestQuota_st
  rw [hsum]
  by_cases h1 : t < L
  · have a1 : ¬ (400 : Int32) < nI (t + 1) := nI_nlt (a := 400) (by omega) (by decide)
    have a2 : ¬ nI L < nI (t + 1) := nI_nlt h1 (by omega)
    have hl := lays_W hN y (nI (t + 1))
    have hs := hst (t + 1) (by omega) (by omega)
    have e1 : pre u.2.2.2.2.2.2.2.2.2.2.2.1 t + rAt 402 u.2.2.2.2.2.2.2.2.2.2.2.1 (nI (t + 1)) = f_X8_swings (f_X8_lays s y (nI (t + 1))).2 (nI m) := by
      rw [rAt_nI (by omega) (by decide), ← pre_s, hs.1, swings_W hl.2 hm]
    have e2 : pre u.2.2.2.2.2.2.2.2.2.2.2.2 t + rAt 402 u.2.2.2.2.2.2.2.2.2.2.2.2 (nI (t + 1)) = f_X8_allSwings (f_X8_lays s y (nI (t + 1))).2 := by
      rw [rAt_nI (by omega) (by decide), ← pre_s, hs.2, allSw_W hl.2]
    have e3 : f_X8_swings (f_X8_lays s y (nI (t + 1))).2 (nI m) = pre u.2.2.2.2.2.2.2.2.2.2.2.1 (t + 1) := by rw [hs.1, swings_W hl.2 hm]
    have e4 : f_X8_allSwings (f_X8_lays s y (nI (t + 1))).2 = pre u.2.2.2.2.2.2.2.2.2.2.2.2 (t + 1) := by rw [hs.2, allSw_W hl.2]
    have hy2 := lays_z (s := s) hy (nI (t + 1))
    rw [if_neg a1, if_neg a2, if_neg a2, my_l_eq, e1, e2, nI_1]
    have m1 : ((400 : Int32).toInt + 1 - (nI (t + 1 + 1)).toInt).toNat < ((400 : Int32).toInt + 1 - (nI (t + 1)).toInt).toNat := by
      rw [← nI_1 (t + 1)]; exact mu_le a1 (by decide)
    have m2 : ((nI L).toInt + 1 - (nI (t + 1 + 1)).toInt).toNat < ((nI L).toInt + 1 - (nI (t + 1)).toInt).toNat := by
      rw [← nI_1 (t + 1)]; exact mu_le a2 (nI_lt (b := 2147483647) (by omega) (by decide))
    by_cases hc : ((f_X8_swings (f_X8_lays s y (nI (t + 1))).2 (nI m)) * d) ≤ (c * (f_X8_allSwings (f_X8_lays s y (nI (t + 1))).2))
    · rw [if_pos hc, if_pos hc]
      exact Or.inl ⟨_, _, rfl, rfl, ⟨t + 1, f, c, d, _, _, h1, by rw [e3, e4], rfl, hy2⟩, m1, m2⟩
    · rw [if_neg hc, if_neg hc]
      exact Or.inl ⟨_, _, rfl, rfl, ⟨t + 1, nI (t + 1), f_X8_swings (f_X8_lays s y (nI (t + 1))).2 (nI m), f_X8_allSwings (f_X8_lays s y (nI (t + 1))).2, _, _, h1, by rw [e3, e4], rfl, hy2⟩, m1, m2⟩
  · have a2 : nI L < nI (t + 1) := nI_lt (by omega) (by omega)
    rw [if_pos a2]
    by_cases a1 : (400 : Int32) < nI (t + 1)
    · rw [if_pos a1, if_pos a2]
      exact Or.inr ⟨_, _, rfl, rfl, f, _, _, c, d, _, c, d, _, g4, y, rfl, rfl, hy⟩
    · rw [if_neg a1, if_pos a2]
      exact Or.inr ⟨_, _, rfl, rfl, f, _, _, c, d, _, c, d, _, g4, y, rfl, rfl, hy⟩
theorem sum_eq (hv : eqS v s (s 1)) (hN : okN s n r) (hW : okW s n) : ∃ L, L ≤ 400 ∧ f_X8_weightOf s 255 = nI L ∧ f_X6_weightOf v (f_X6_everybody v) = nI L := by
  have h8 := hN.2.1
  have hpw : (2 : Nat) ^ n ≤ 2 ^ 8 := Nat.pow_le_pow_right (by decide) h8
  have b := wtN_le (s := s) (x := 255) (n := n) (fun m hm => (wN_eq hW hm).2)
  refine ⟨wtN s 255 n, by omega, weight_nI (x := 255) hN hW (by decide), ?_⟩
  rw [weight_eq hv hN]
  unfold f_X6_everybody
  rw [hv.1, hN.1, evb_nI n (by omega), weight_nI hN hW (by omega)]
  refine congrArg nI (wtN_congr (fun m hm => ?_))
  rw [Nat.testBit_two_pow_sub_one, show (255 : Nat) = 2 ^ 8 - 1 from rfl, Nat.testBit_two_pow_sub_one, decide_eq_true hm, decide_eq_true (by omega)]
theorem R_bestQuota (hv : eqS v s (s 1)) (hg : GS s) (hp : pwr st s w) (hb : bl y10) (x0 : Int32) : rdO (f_X7_bestQuota st v w x0) (f_X8_bestQuota y4 s y10 x0) 0 (fun _ => 1) s y4 y10 := by
  have hm := measured_ok hv hg hp
  have hpm := pwr_m hv hg hp
  obtain ⟨n, r, c, hN, hL, hW, hR, hq, hq1, hq2⟩ := hg
  have h8 := hN.2.1
  unfold f_X7_bestQuota f_X8_bestQuota
  rw [faultM hv]
  by_cases h1 : f_X8_isMember s x0 = 0
  · rw [if_pos h1, if_pos h1, rf_bad (Or.inl rfl)]
    exact Or.inl ⟨1, rfl, Or.inl rfl, by decide, rfl⟩
  · rw [if_neg h1, if_neg h1, rf_fine]
    obtain ⟨m, hmn, rfl⟩ := mem_of hN h1
    obtain ⟨L, l1, l2, l3⟩ := sum_eq hv hN hW
    have hM := hm.2 rfl n r hN
    rw [my_l_eq, l3]
    have hf := findSteps_ok hN hL hW hR (m := m) (by omega) hM
    obtain ⟨f, a, b, c', d, e, g1, g2, g3, g4, y, k1, k2, k3⟩ := bq_sim (y4 := y4) hN (m := m) (by omega) l1 l2 hf.2 hb
    rw [k2, my_t6_eq]
    unfold f_X3_bestQuotaFor
    rw [my_l_eq, k1, my_t6_eq, my_b_eq]
    refine Or.inr ⟨f, ((f_X7_measured st v w).1, f_X3_findSteps (f_X7_measured st v w).2 (nI m)), (g4, y), rfl, rfl, ?_, k3⟩
    intro _ n' r' hN'
    obtain ⟨rfl, rfl⟩ := okN_uniq hN hN'
    exact hf.1
end BQ2
