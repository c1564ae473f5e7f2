/-! part 75 -/
section READ2
variable {v : SetV} {s : Nat → Int32} {n r : Nat} {w : PowV} {st y4 : Int32} {y10 : Nat → Int32}
theorem faultR (hv : eqS v s (s 1)) (x1 : Int32) : f_X6_faultOfRule v x1 = if f_X8_isRule s x1 = 0 then 1 else 0 := by
  unfold f_X6_faultOfRule f_X8_isRule
  rw [hv.2.2.1]
  by_cases h1 : x1 < 0
  · rw [if_pos h1, if_pos h1]; rfl
  · rw [if_neg h1, if_neg h1]
    by_cases h2 : s 2 ≤ x1
    · rw [if_pos h2, if_neg (Int32.not_lt.mpr h2)]; rfl
    · rw [if_neg h2, if_pos (Int32.not_le.mp h2)]; rfl
theorem rule_eq (hv : eqS v s (s 1)) (hN : okN s n r) {i t : Nat} (hi : i < r) (ht : t < 3) : f_X6_ruleValue v (nI i) (nI t) = f_X8_ruleOf s (nI i) (nI t) := by
  have h8 := hN.2.1
  have hr := hN.2.2.2
  have hpw : (2 : Nat) ^ n ≤ 2 ^ 8 := Nat.pow_le_pow_right (by decide) h8
  have hb : ¬ s 2 ≤ nI i := by rw [hN.2.2.1]; exact nI_ge hi (by omega)
  unfold f_X6_ruleValue f_X8_ruleOf
  rcases (show t = 0 ∨ t = 1 ∨ t = 2 by omega) with rfl | rfl | rfl
  · rw [if_pos (by decide), if_pos (by decide), rd_k hv hN (nI_pos (by omega)) hb]
  · rw [if_neg (by decide), if_pos (by decide), if_neg (by decide), if_pos (by decide), rd_v hv hN (nI_pos (by omega)) hb]
  · show (if (f_X6_isKept v (nI i) (f_X6_everybody v)) = 0 then 0 else 1) = (if (f_X8_holds s (nI i) ((1 <<< (s 0 &&& 31)) - 1)) = 0 then 0 else 1)
    unfold f_X6_everybody
    rw [hv.1, hN.1, evb_nI n (by omega), kept_eq hv hN (nI_pos (by omega)) hb (by omega)]
theorem R_rule (hv : eqS v s (s 1)) (hg : GS s) (x0 x1 : Int32) : (∃ f, f_X7_rule st v x0 x1 = .inl f ∧ (f = 1 ∨ f = 2 ∨ f = 3) ∧ 0 < f ∧ f_X8_rule s x0 x1 = (0, f)) ∨ (∃ a, f_X7_rule st v x0 x1 = .inr (a, st) ∧ f_X8_rule s x0 x1 = (a, 0)) := by
  obtain ⟨n, r, c, hN, hL, hW, hR, hq, hq1, hq2⟩ := hg
  have hr := hN.2.2.2
  unfold f_X7_rule f_X8_rule
  rw [faultR hv, rg_eq]
  by_cases h1 : f_X8_isRule s x0 = 0
  · rw [if_pos h1, if_pos h1, rf_bad (Or.inl rfl)]
    exact Or.inl ⟨1, rfl, Or.inl rfl, by decide, rfl⟩
  · rw [if_neg h1, if_neg h1, rf_fine]
    by_cases h2 : f_X8_in x1 0 2 = 0
    · rw [if_pos h2, if_pos h2, rf_bad (Or.inr (Or.inl rfl))]
      exact Or.inl ⟨2, rfl, Or.inr (Or.inl rfl), by decide, rfl⟩
    · rw [if_neg h2, if_neg h2, rf_fine]
      obtain ⟨i, hi, rfl⟩ := below (n := r) (by omega) (ir_0 h1) (by rw [← hN.2.2.1]; exact Int32.not_le.mpr (ir_1 h1))
      obtain ⟨t, _, ht, rfl⟩ := in_rg (A := 0) (B := 2) rfl rfl (by decide) (by decide) h2
      exact Or.inr ⟨_, rfl, by rw [rule_eq hv hN hi (by omega)]⟩
theorem faultS (hv : eqS v s (s 1)) (hN : okN s n r) (x : Int32) : f_X6_faultOfSet v x = if f_X8_isSet s x = 0 then 2 else 0 := by
  have h8 := hN.2.1
  have hpw : (2 : Nat) ^ n ≤ 2 ^ 8 := Nat.pow_le_pow_right (by decide) h8
  have hp0 : 0 < 2 ^ n := Nat.two_pow_pos n
  unfold f_X6_faultOfSet f_X7_faultOfRange f_X6_everybody f_X8_isSet
  rw [hv.1, hN.1, evb_nI n (by omega), shl_nI n (by omega)]
  by_cases h1 : x < 0
  · rw [if_pos h1, if_pos h1]; rfl
  · rw [if_neg h1, if_neg h1]
    obtain ⟨j, hj, rfl⟩ := nI_of h1
    by_cases h2 : 2 ^ n ≤ j
    · rw [if_pos (nI_le h2 hj), if_neg (nI_ge (show 2 ^ n - 1 < j by omega) hj)]; rfl
    · rw [if_neg (nI_ge (show j < 2 ^ n by omega) (by omega)), if_pos (nI_le (show j ≤ 2 ^ n - 1 by omega) (by omega))]; rfl
theorem set_nI (hN : okN s n r) {x : Int32} (h : ¬ f_X8_isSet s x = 0) : ∃ j : Nat, j < 2 ^ n ∧ x = nI j := by
  have h8 := hN.2.1
  have hpw : (2 : Nat) ^ n ≤ 2 ^ 8 := Nat.pow_le_pow_right (by decide) h8
  unfold f_X8_isSet at h
  rw [hN.1, shl_nI n (by omega)] at h
  by_cases h1 : x < 0
  · rw [if_pos h1] at h; exact absurd rfl h
  · rw [if_neg h1] at h
    by_cases h2 : nI (2 ^ n) ≤ x
    · rw [if_pos h2] at h; exact absurd rfl h
    · exact below (by omega) h1 h2
/-- a call that may refuse, and else answers and measures; the reference lays nothing -/
def rnO (F : Int32 ⊕ (Int32 × (Int32 × PowV))) (G : Int32 × Int32) (s : Nat → Int32) : Prop :=
  (∃ f, F = .inl f ∧ (f = 1 ∨ f = 2 ∨ f = 3) ∧ G = (0, 1)) ∨ (∃ a u, F = .inr (a, u) ∧ G = (a, 0) ∧ pwr u.1 s u.2)
theorem R_wins (hv : eqS v s (s 1)) (hg : GS s) (hp : pwr st s w) (x0 : Int32) : rnO (f_X7_wins st v w x0) (f_X8_wins s x0) s := by
  have hm := measured_ok hv hg hp
  have hpm := pwr_m hv hg hp
  obtain ⟨n, r, c, hN, hL, hW, hR, hq, hq1, hq2⟩ := hg
  have hpw : (2 : Nat) ^ n ≤ 2 ^ 8 := Nat.pow_le_pow_right (by decide) hN.2.1
  unfold f_X7_wins f_X8_wins
  rw [faultS hv hN]
  by_cases h1 : f_X8_isSet s x0 = 0
  · rw [if_pos h1, if_pos h1, rf_bad (Or.inr (Or.inl rfl))]
    exact Or.inl ⟨2, rfl, Or.inr (Or.inl rfl), rfl⟩
  · rw [if_neg h1, if_neg h1, rf_fine]
    obtain ⟨j, hj, rfl⟩ := set_nI hN h1
    have hM := hm.2 rfl n r hN
    have hwi := win_iff hN hL hW hj hq1 (by omega)
    show rnO (if (f_X3_isWinning (f_X7_measured st v w).2 (nI j)) = 0 then _ else _) _ s
    unfold f_X3_isWinning
    rw [rAt_nI (by omega) (by decide), hM.2.2.2.2.2.2.2.1 j (by omega), hM.2.1]
    rw [← hq] at hwi
    by_cases h2 : strS s n j < s 1
    · rw [if_pos h2, if_pos rfl, if_neg (fun z => (hwi.mpr z) h2)]
      exact Or.inr ⟨0, _, rfl, rfl, hpm⟩
    · rw [if_neg h2, if_neg (by decide), if_pos (hwi.mp h2)]
      exact Or.inr ⟨1, _, rfl, rfl, hpm⟩
theorem ls_mono (W : Nat → Bool) {k : Nat} : ∀ {d : Nat}, (lsN W k).length ≤ (lsN W (k + d)).length ∧ ∀ i, i < (lsN W k).length → (lsN W (k + d)).getD i 0 = (lsN W k).getD i 0
  | 0 => ⟨Nat.le_refl _, fun _ _ => rfl⟩
  | d + 1 => by
    obtain ⟨h1, h2⟩ := ls_mono W (k := k) (d := d)
    have e : lsN W (k + (d + 1)) = if leB W (k + d) then lsN W (k + d) ++ [k + d] else lsN W (k + d) := rfl
    rw [e]
    split
    · refine ⟨by rw [List.length_append]; omega, fun i hi => ?_⟩
      rw [snoc_lt (by omega)]; exact h2 i hi
    · exact ⟨h1, h2⟩
theorem least_W {W : Nat → Bool} {u : Int32 × (Nat → Int32)} (hy : ∀ j, j < 256 → u.2 j = bI (W j)) {x : Nat} (hx : x < 2 ^ 31) : (lp (fun (z : Int32 × Int32) => f_X8_least_st (nI x) u z.1 z.2) default (((256 : Int32).toInt - (0 : Int32).toInt).toNat + 1) (0, 0)) = (if x < (lsN W 256).length then nI ((lsN W 256).getD x 0) else -1, (0, u.1, u.2)) := by
  refine lp_inm (I := fun z : Int32 × Int32 => ∃ k, k ≤ 256 ∧ z.2 = nI k ∧ z.1 = nI (lsN W k).length ∧ (lsN W k).length ≤ x) (Q := fun b : Int32 × (Int32 × Int32 × (Nat → Int32)) => b = (if x < (lsN W 256).length then nI ((lsN W 256).getD x 0) else -1, (0, u.1, u.2))) (fun z : Int32 × Int32 => ((256 : Int32).toInt - z.2.toInt).toNat) ?_ _ _ ⟨0, Nat.zero_le _, rfl, rfl, Nat.zero_le _⟩ (Nat.lt_succ_self _)
  rintro ⟨a, i⟩ ⟨k, hk, rfl, rfl, h1⟩
  have h1 : (lsN W k).length ≤ x := h1
  show Sum.elim _ _ (f_X8_least_st (nI x) u (nI (lsN W k).length) (nI k))
  unfold f_X8_least_st
  have hlen := lsN_len W k
  by_cases hb : (256 : Int32) ≤ nI k
  · rw [if_pos hb]
    have hk8 : 256 ≤ k := (nI_leI (a := 256) (by decide) (by omega)).mp hb
    have e : k = 256 := by omega
    subst e
    show ((-1 : Int32), _) = _
    rw [if_neg (by omega)]
  · rw [if_neg hb]
    have hk8 : k < 256 := by
      rcases Nat.lt_or_ge k 256 with z | z
      · exact z
      · exact absurd (nI_le z (by omega)) hb
    rw [isLeast_W hy hk8]
    cases hl : leB W k
    · rw [if_pos bI_f]
      refine ⟨⟨k + 1, hk8, nI_1 k, ?_, ?_⟩, mu_up hb⟩
      · show nI (lsN W k).length + 0 = _
        rw [Int32.add_zero, lsN_s, hl]; rfl
      · rw [lsN_s, hl]; exact h1
    · rw [if_neg (show ¬ bI true = 0 by decide)]
      have e3 : lsN W (k + 1) = lsN W k ++ [k] := by rw [lsN_s, hl]; rfl
      by_cases hx2 : nI (lsN W k).length = nI x
      · rw [if_pos hx2]
        have ex := (nI_eq (by omega) hx).mp hx2
        obtain ⟨m1, m2⟩ := ls_mono W (k := k + 1) (d := 256 - (k + 1))
        rw [show k + 1 + (256 - (k + 1)) = 256 by omega] at m1 m2
        have l1 : (lsN W (k + 1)).length = (lsN W k).length + 1 := by rw [e3, List.length_append]; rfl
        have g1 := m2 x (by omega)
        rw [e3, ← ex, snoc_eq, ex] at g1
        show (nI k, _) = _
        rw [if_pos (by omega), g1]
      · rw [if_neg hx2]
        have hne : ¬ (lsN W k).length = x := fun e => hx2 (congrArg nI e)
        refine ⟨⟨k + 1, hk8, nI_1 k, ?_, ?_⟩, mu_up hb⟩
        · show nI (lsN W k).length + 1 = _
          rw [e3, List.length_append, nI_1]; rfl
        · rw [e3, List.length_append]; show _ + 1 ≤ x; omega
theorem R_least (hv : eqS v s (s 1)) (hg : GS s) (hp : pwr st s w) (hb : bl y10) (x0 : Int32) : rdO (f_X7_least st v w x0) (f_X8_least y4 s y10 x0) 0 (fun _ => 1) s y4 y10 := by
  have hm := measured_ok hv hg hp
  have hpm := pwr_m hv hg hp
  obtain ⟨n, r, c, hN, hL, hW, hR, hq, hq1, hq2⟩ := hg
  unfold f_X7_least f_X8_least
  by_cases h1 : 0 ≤ x0
  · rw [if_pos h1, if_pos h1, rf_fine]
    obtain ⟨x, hx, rfl⟩ := nI_of (Int32.not_lt.mpr h1)
    have hM := hm.2 rfl n r hN
    have hl := lays_W hN y10 (s 1)
    have hlen := lsN_len (wnB s n (s 1)) 256
    refine Or.inr ⟨if x < (lsN (wnB s n (s 1)) 256).length then nI ((lsN (wnB s n (s 1)) 256).getD x 0) else -1, f_X7_measured st v w, f_X8_lays s y10 (s 1), ?_, ?_, hpm, lays_z (s := s) hb (s 1)⟩
    · show (if (f_X7_measured st v w).2.2.2.2.2.1 ≤ nI x then (.inr ((-1), f_X7_measured st v w) : Int32 ⊕ (Int32 × (Int32 × PowV))) else (.inr (rAt 256 (f_X7_measured st v w).2.2.2.2.2.2.2.2.2.1 (nI x), f_X7_measured st v w))) = _
      rw [hM.2.2.2.2.1]
      by_cases h2 : (lsN (wnB s n (s 1)) 256).length ≤ x
      · rw [if_pos (nI_le h2 hx), if_neg (by omega)]
      · rw [if_neg (nI_ge (show x < _ by omega) (by omega)), if_pos (by omega), rAt_nI (by omega) (by decide), hM.2.2.2.2.2.2.2.2.1 x (by omega)]
    · exact least_W hl.2 hx
  · rw [if_neg h1, if_neg h1, rf_bad (Or.inr (Or.inl rfl))]
    exact Or.inl ⟨2, rfl, Or.inr (Or.inl rfl), by decide, rfl⟩
end READ2
