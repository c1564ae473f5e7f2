/-! part 71 -/
section CMDS2
variable {v : SetV} {s : Nat → Int32} {n r : Nat}
theorem ldr_upd (hv : eqS v s (s 1)) {m : Nat} {x : Int32} (hm : m < 8) : eqS (v.1, v.2.1, v.2.2.1, v.2.2.2.1, (rPut 8 v.2.2.2.2.1 (nI m) x), v.2.2.2.2.2) (upd s (11 + m) x) (upd s (11 + m) x 1) := by
  rw [rPut_nI hm (by decide)]
  refine ⟨?_, ?_, ?_, fun j hj => ?_, fun j hj => ?_, fun j hj => ?_, fun j hj => ?_⟩
  · rw [upd_ne (by omega)]; exact hv.1
  · rw [upd_ne (by omega)]; exact hv.2.1
  · rw [upd_ne (by omega)]; exact hv.2.2.1
  · rw [upd_ne (by omega)]; exact hv.2.2.2.1 j hj
  · show upd v.2.2.2.2.1 m x j = _
    by_cases hjm : j = m
    · rw [hjm, upd_eq, upd_eq]
    · rw [upd_ne hjm, upd_ne (by omega)]; exact hv.2.2.2.2.1 j hj
  · rw [upd_ne (by omega)]; exact hv.2.2.2.2.2.1 j hj
  · rw [upd_ne (by omega)]; exact hv.2.2.2.2.2.2 j hj
theorem op_leave (hv : eqS v s (s 1)) (hg : GS s) (x1 x2 : Int32) : sOp v s 4 x1 x2 (fun y0 ru y => f_X8_leave y0 ru s y x1) (fun f => if f = 1 then 1 else 2) := by
  obtain ⟨n, r, c, hN, hL, hW, hR, hq, hq1, hq2⟩ := hg
  have h8 := hN.2.1
  have hf : f_X6_faultOf v 4 x1 x2 = if f_X8_isMember s x1 = 0 then 1 else if f_X8_isPlayer s x1 = 0 then 0 else 3 := by
    show (if (f_X6_isPlayer v x1) = 0 then (f_X6_worse (if f_X6_hasMember v x1 = 0 then 1 else 0) 0) else (f_X6_worse (if f_X6_hasMember v x1 = 0 then 1 else 0) 3)) = _
    rw [hm_eq hv, pl_eq hv hN]
    unfold f_X6_worse
    by_cases h1 : f_X8_isMember s x1 = 0
    · rw [if_pos h1, if_pos h1]; split <;> rfl
    · rw [if_neg h1, if_neg h1]; rfl
  by_cases h1 : f_X8_isMember s x1 = 0
  · refine Or.inl ⟨by rw [hf, if_pos h1]; exact Or.inl rfl, by rw [hf, if_pos h1]; decide, fun y0 ru y => ?_⟩
    show f_X8_leave y0 ru s y x1 = _
    unfold f_X8_leave
    rw [if_pos h1, hf, if_pos h1]; rfl
  · by_cases h2 : f_X8_isPlayer s x1 = 0
    · obtain ⟨m, hm, rfl⟩ := mem_of hN h1
      have hpb : plB s n m = false := by
        rw [isp_nI hN (by omega)] at h2
        cases hb : plB s n m
        · rfl
        · rw [hb] at h2; exact absurd h2 (by decide)
      obtain ⟨p, hp1, hp2, hp3⟩ : ∃ p, p < n ∧ s (11 + m) = nI p ∧ s (11 + p) = -1 := by
        rcases hL m hm with z | z
        · have := plB_iff.mpr ⟨hm, z⟩
          rw [hpb] at this; exact absurd this (by decide)
        · exact z
      refine Or.inr ⟨by rw [hf, if_neg h1, if_pos h2], ?_, upd s (11 + m) (-1), ldr_upd hv (by omega), ?_, fun y0 ru y => ?_⟩
      · show ¬ rAt 8 v.2.2.2.2.1 (nI m) < 0
        rw [rAt_nI (by omega) (by decide), hv.2.2.2.2.1 m (by omega), hp2]; exact nI_pos (by omega)
      · refine ⟨n, r, c, ⟨by rw [upd_ne (by omega)]; exact hN.1, h8, by rw [upd_ne (by omega)]; exact hN.2.2.1, hN.2.2.2⟩, fun i hi => ?_, fun i hi => ?_, fun i hi => ?_, by rw [upd_ne (by omega)]; exact hq, hq1, hq2⟩
        · by_cases him : i = m
          · rw [him, upd_eq]; exact Or.inl rfl
          · rw [upd_ne (by omega)]
            rcases hL i hi with z | ⟨k, z1, z2, z3⟩
            · exact Or.inl z
            · refine Or.inr ⟨k, z1, z2, ?_⟩
              by_cases hkm : k = m
              · rw [hkm, upd_eq]
              · rw [upd_ne (by omega)]; exact z3
        · rw [upd_ne (by omega)]; exact hW i hi
        · rw [upd_ne (by omega), upd_ne (by omega)]; exact hR i hi
      · show f_X8_leave y0 ru s y (nI m) = (rAt 8 v.2.2.2.2.1 (nI m), _)
        unfold f_X8_leave
        rw [if_neg h1, if_pos h2, rAt_nI (by omega) (by decide), hv.2.2.2.2.1 m (by omega), c11 (by omega)]
        rfl
    · refine Or.inl ⟨by rw [hf, if_neg h1, if_neg h2]; exact Or.inr (Or.inr rfl), by rw [hf, if_neg h1, if_neg h2]; decide, fun y0 ru y => ?_⟩
      show f_X8_leave y0 ru s y x1 = _
      unfold f_X8_leave
      rw [if_neg h1, if_neg h2, hf, if_neg h1, if_neg h2]; rfl
theorem blN_single (hN : okN s n r) {m : Nat} (hm : m < 8) (hb : plB s n m = true) : blN s n m = 2 ^ m ↔ cN (fun k => decide (s (11 + k) = nI m)) n = 0 := by
  have h8 := hN.2.1
  have hpl := plB_iff.mp hb
  have hP : ¬ s (11 + m) = nI m := by rw [hpl.2]; exact fun e => ne1 m hm e.symm
  rw [cN_pos]
  have hbit : ∀ i, (blN s n m).testBit i = (decide (m = i) || (decide (i < n) && decide (s (11 + i) = nI m))) := by
    intro i
    unfold blN
    rw [hb, if_pos rfl, orN_bit, Nat.testBit_two_pow]
  constructor
  · intro e k hk
    have h1 := hbit k
    rw [e, Nat.testBit_two_pow, decide_eq_true hk, Bool.true_and] at h1
    by_cases hmk : m = k
    · subst hmk; exact decide_eq_false hP
    · rw [decide_eq_false hmk, Bool.false_or] at h1; exact h1.symm
  · intro z
    refine bits_eq (blN_lt h8 hm) (Nat.pow_lt_pow_right (n := 8) (by decide) hm) (fun i hi => ?_)
    rw [hbit i, Nat.testBit_two_pow]
    by_cases hin : i < n
    · rw [z i hin, Bool.and_false, Bool.or_false]
    · rw [decide_eq_false hin, Bool.false_and, Bool.or_false]
theorem may_eq (hv : eqS v s (s 1)) (hN : okN s n r) (x1 x2 : Int32) : f_X6_mayFollow v x1 x2 = if f_X8_isPlayer s x1 = 0 then 0 else if 0 < f_X8_followers s x1 then 0 else if f_X8_isPlayer s x2 = 0 then 0 else 1 := by
  have h8 := hN.2.1
  unfold f_X6_mayFollow
  rw [pl_eq hv hN, pl_eq hv hN]
  by_cases h1 : f_X8_isPlayer s x1 = 0
  · rw [if_pos h1, if_pos h1]
  · rw [if_neg h1, if_neg h1]
    obtain ⟨m, hm, rfl⟩ := mem_of hN (ip_m h1)
    have hb : plB s n m = true := by
      rw [isp_nI hN (by omega)] at h1
      cases hb : plB s n m
      · rw [hb] at h1; exact absurd rfl h1
      · rfl
    have hc := cN_max (fun k => decide (s (11 + k) = nI m)) n
    have hbl := blN_lt (s := s) h8 (show m < 8 by omega)
    have hpw : (2 : Nat) ^ m < 2 ^ 8 := Nat.pow_lt_pow_right (by decide) (by omega)
    rw [bloc_nI hv hN (by omega), foll_nI hN, shl_nI m (by omega)]
    by_cases h2 : blN s n m = 2 ^ m
    · have h3 := (blN_single hN (by omega) hb).mp h2
      rw [if_pos (congrArg nI h2), h3, if_neg (show ¬ 0 < nI 0 by decide)]
    · have h3 : ¬ cN (fun k => decide (s (11 + k) = nI m)) n = 0 := fun z => h2 ((blN_single hN (by omega) hb).mpr z)
      rw [if_neg (fun e => h2 ((nI_eq (by omega) (by omega)).mp e)), if_pos (show (0 : Int32) < nI (cN (fun k => decide (s (11 + k) = nI m)) n) from nI_lt (a := 0) (by omega) (by omega))]
theorem op_follow (hv : eqS v s (s 1)) (hg : GS s) (x1 x2 : Int32) : sOp v s 3 x1 x2 (fun y0 ru y => f_X8_follow y0 ru s y x1 x2) (fun f => f) := by
  obtain ⟨n, r, c, hN, hL, hW, hR, hq, hq1, hq2⟩ := hg
  have h8 := hN.2.1
  have hf : f_X6_faultOf v 3 x1 x2 = if f_X8_isMember s x1 = 0 then 1 else if f_X8_isMember s x2 = 0 then 1 else if x1 = x2 then 2 else if f_X8_isPlayer s x1 = 0 then 3 else if 0 < f_X8_followers s x1 then 3 else if f_X8_isPlayer s x2 = 0 then 3 else 0 := by
    show (if (f_X6_mayFollow v x1 x2) = 0 then (f_X6_worse (f_X6_faultOfTwo v x1 x2) 3) else (f_X6_worse (f_X6_faultOfTwo v x1 x2) 0)) = _
    rw [may_eq hv hN]
    unfold f_X6_worse f_X6_faultOfTwo
    rw [hm_eq hv, hm_eq hv]
    have w1 : ∀ M : Int32, (if M = 0 then (if (1 : Int32) = 0 then (3 : Int32) else 1) else (if (1 : Int32) = 0 then 0 else 1)) = 1 := fun M => by split <;> rfl
    have w2 : ∀ M : Int32, (if M = 0 then (if (2 : Int32) = 0 then (3 : Int32) else 2) else (if (2 : Int32) = 0 then 0 else 2)) = 2 := fun M => by split <;> rfl
    by_cases h1 : f_X8_isMember s x1 = 0
    · rw [if_pos h1, if_pos h1]; exact w1 _
    · rw [if_neg h1, if_neg h1]
      by_cases h2 : f_X8_isMember s x2 = 0
      · rw [if_pos h2, if_pos h2]; exact w1 _
      · rw [if_neg h2, if_neg h2]
        by_cases h3 : x1 = x2
        · rw [if_pos h3, if_pos h3]; exact w2 _
        · rw [if_neg h3, if_neg h3]
          by_cases h4 : f_X8_isPlayer s x1 = 0
          · rw [if_pos h4, if_pos h4]; rfl
          · rw [if_neg h4, if_neg h4]
            by_cases h5 : 0 < f_X8_followers s x1
            · rw [if_pos h5, if_pos h5]; rfl
            · rw [if_neg h5, if_neg h5]
              by_cases h6 : f_X8_isPlayer s x2 = 0
              · rw [if_pos h6, if_pos h6]; rfl
              · rw [if_neg h6, if_neg h6]; rfl
  by_cases h1 : f_X8_isMember s x1 = 0
  · refine Or.inl ⟨by rw [hf, if_pos h1]; exact Or.inl rfl, by rw [hf, if_pos h1]; decide, fun y0 ru y => ?_⟩
    show f_X8_follow y0 ru s y x1 x2 = _
    unfold f_X8_follow
    rw [if_pos h1, hf, if_pos h1]
  · by_cases h2 : f_X8_isMember s x2 = 0
    · refine Or.inl ⟨by rw [hf, if_neg h1, if_pos h2]; exact Or.inl rfl, by rw [hf, if_neg h1, if_pos h2]; decide, fun y0 ru y => ?_⟩
      show f_X8_follow y0 ru s y x1 x2 = _
      unfold f_X8_follow
      rw [if_neg h1, if_pos h2, hf, if_neg h1, if_pos h2]
    · by_cases h3 : x1 = x2
      · refine Or.inl ⟨by rw [hf, if_neg h1, if_neg h2, if_pos h3]; exact Or.inr (Or.inl rfl), by rw [hf, if_neg h1, if_neg h2, if_pos h3]; decide, fun y0 ru y => ?_⟩
        show f_X8_follow y0 ru s y x1 x2 = _
        unfold f_X8_follow
        rw [if_neg h1, if_neg h2, if_pos h3, hf, if_neg h1, if_neg h2, if_pos h3]
      · by_cases h4 : f_X8_isPlayer s x1 = 0
        · refine Or.inl ⟨by rw [hf, if_neg h1, if_neg h2, if_neg h3, if_pos h4]; exact Or.inr (Or.inr rfl), by rw [hf, if_neg h1, if_neg h2, if_neg h3, if_pos h4]; decide, fun y0 ru y => ?_⟩
          show f_X8_follow y0 ru s y x1 x2 = _
          unfold f_X8_follow
          rw [if_neg h1, if_neg h2, if_neg h3, if_pos h4, hf, if_neg h1, if_neg h2, if_neg h3, if_pos h4]
        · by_cases h5 : 0 < f_X8_followers s x1
          · refine Or.inl ⟨by rw [hf, if_neg h1, if_neg h2, if_neg h3, if_neg h4, if_pos h5]; exact Or.inr (Or.inr rfl), by rw [hf, if_neg h1, if_neg h2, if_neg h3, if_neg h4, if_pos h5]; decide, fun y0 ru y => ?_⟩
            show f_X8_follow y0 ru s y x1 x2 = _
            unfold f_X8_follow
            rw [if_neg h1, if_neg h2, if_neg h3, if_neg h4, if_pos h5, hf, if_neg h1, if_neg h2, if_neg h3, if_neg h4, if_pos h5]
          · by_cases h6 : f_X8_isPlayer s x2 = 0
            · refine Or.inl ⟨by rw [hf, if_neg h1, if_neg h2, if_neg h3, if_neg h4, if_neg h5, if_pos h6]; exact Or.inr (Or.inr rfl), by rw [hf, if_neg h1, if_neg h2, if_neg h3, if_neg h4, if_neg h5, if_pos h6]; decide, fun y0 ru y => ?_⟩
              show f_X8_follow y0 ru s y x1 x2 = _
              unfold f_X8_follow
              rw [if_neg h1, if_neg h2, if_neg h3, if_neg h4, if_neg h5, if_pos h6, hf, if_neg h1, if_neg h2, if_neg h3, if_neg h4, if_neg h5, if_pos h6]
            · obtain ⟨m, hm, rfl⟩ := mem_of hN h1
              obtain ⟨o, ho, rfl⟩ := mem_of hN h2
              have hbm : plB s n m = true := by
                rw [isp_nI hN (by omega)] at h4
                cases hb : plB s n m
                · rw [hb] at h4; exact absurd rfl h4
                · rfl
              have hbo : plB s n o = true := by
                rw [isp_nI hN (by omega)] at h6
                cases hb : plB s n o
                · rw [hb] at h6; exact absurd rfl h6
                · rfl
              have hpo := (plB_iff.mp hbo).2
              have hmo : ¬ m = o := fun e => h3 (congrArg nI e)
              have hnf : ∀ k, k < n → ¬ s (11 + k) = nI m := by
                have hc := cN_max (fun k => decide (s (11 + k) = nI m)) n
                rw [foll_nI hN] at h5
                have hz : cN (fun k => decide (s (11 + k) = nI m)) n = 0 := by
                  rcases Nat.eq_zero_or_pos (cN (fun k => decide (s (11 + k) = nI m)) n) with z | z
                  · exact z
                  · exact absurd (nI_lt (a := 0) z (by omega)) h5
                exact fun k hk e => absurd (decide_eq_true e) (by rw [cN_pos.mp hz k hk]; decide)
              have hvs := ldr_upd (x := nI o) hv (show m < 8 by omega)
              have hN2 : okN (upd s (11 + m) (nI o)) n r := ⟨by rw [upd_ne (by omega)]; exact hN.1, h8, by rw [upd_ne (by omega)]; exact hN.2.2.1, hN.2.2.2⟩
              have hL2 : okL (upd s (11 + m) (nI o)) n := by
                intro i hi
                by_cases him : i = m
                · rw [him, upd_eq]
                  exact Or.inr ⟨o, ho, rfl, by rw [upd_ne (by omega)]; exact hpo⟩
                · rw [upd_ne (by omega)]
                  rcases hL i hi with z | ⟨k, z1, z2, z3⟩
                  · exact Or.inl z
                  · refine Or.inr ⟨k, z1, z2, ?_⟩
                    by_cases hkm : k = m
                    · subst hkm; exact absurd z2 (hnf i hi)
                    · rw [upd_ne (by omega)]; exact z3
              have hW2 : okW (upd s (11 + m) (nI o)) n := fun i hi => by rw [upd_ne (by omega)]; exact hW i hi
              have hbw := blocw_eq hvs hN2 hL2 hW2 (show o < 8 by omega)
              refine Or.inr ⟨by rw [hf, if_neg h1, if_neg h2, if_neg h3, if_neg h4, if_neg h5, if_neg h6], ?_, upd s (11 + m) (nI o), hvs, ⟨n, r, c, hN2, hL2, hW2, fun i hi => by rw [upd_ne (by omega), upd_ne (by omega)]; exact hR i hi, by rw [upd_ne (by omega)]; exact hq, hq1, hq2⟩, fun y0 ru y => ?_⟩
              · show ¬ (f_X6_weightOf (v.1, v.2.1, v.2.2.1, v.2.2.2.1, (rPut 8 v.2.2.2.2.1 (nI m) (nI o)), v.2.2.2.2.2) (f_X6_blocOf (v.1, v.2.1, v.2.2.1, v.2.2.2.1, (rPut 8 v.2.2.2.2.1 (nI m) (nI o)), v.2.2.2.2.2) (nI o))) < 0
                rw [weight_eq hvs hN2]
                intro z
                have z1 := (wt_le hN2 hW2 (f_X6_blocOf (v.1, v.2.1, v.2.2.1, v.2.2.2.1, (rPut 8 v.2.2.2.2.1 (nI m) (nI o)), v.2.2.2.2.2) (nI o))).1
                have z2 := Int32.lt_iff_toInt_lt.mp z
                rw [i32_c0] at z2
                omega
              · show f_X8_follow y0 ru s y (nI m) (nI o) = (f_X6_weightOf (v.1, v.2.1, v.2.2.1, v.2.2.2.1, (rPut 8 v.2.2.2.2.1 (nI m) (nI o)), v.2.2.2.2.2) (f_X6_blocOf (v.1, v.2.1, v.2.2.1, v.2.2.2.1, (rPut 8 v.2.2.2.2.1 (nI m) (nI o)), v.2.2.2.2.2) (nI o)), _)
                rw [hbw]
                unfold f_X8_follow
                rw [if_neg h1, if_neg h2, if_neg h3, if_neg h4, if_neg h5, if_neg h6, c11 (by omega)]
                rfl
end CMDS2
