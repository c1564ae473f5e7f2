/-! part 76: compare, unionGain -/
def cmpC (W : Nat → Bool) (p o j : Nat) : Prop := j.testBit p = false ∧ j.testBit o = false ∧ W (j ||| 2 ^ o) = true ∧ W (j ||| 2 ^ p) = false
section CMP
variable {v : SetV} {s : Nat → Int32} {n r : Nat} {w : PowV} {st y4 : Int32} {y10 : Nat → Int32} {q : Int32}
theorem or_lt {j p : Nat} (hj : j < 256) (hp : p < 8) : j ||| 2 ^ p < 256 := Nat.or_lt_two_pow (n := 8) hj (Nat.pow_lt_pow_right (by decide) hp)
theorem or_bit_nI {j p : Nat} (hj : j < 256) (hp : p < 8) : (nI j ||| (1 <<< (nI p &&& 31))) = nI (j ||| 2 ^ p) := by
  have : (2 : Nat) ^ p < 2 ^ 8 := Nat.pow_lt_pow_right (by decide) hp
  rw [shl_nI p (by omega), or_nI (by omega) (by omega)]
theorem and2_nI {j p o : Nat} (hj : j < 256) (hp : p < 8) (ho : o < 8) : (nI j &&& ((1 <<< (nI p &&& 31)) ||| (1 <<< (nI o &&& 31)))) = 0 ↔ j.testBit p = false ∧ j.testBit o = false := by
  have h1 : (2 : Nat) ^ p < 2 ^ 8 := Nat.pow_lt_pow_right (by decide) hp
  have h2 : (2 : Nat) ^ o < 2 ^ 8 := Nat.pow_lt_pow_right (by decide) ho
  have h3 : 2 ^ p ||| 2 ^ o < 256 := or_lt h1 ho
  have h4 : j &&& (2 ^ p ||| 2 ^ o) < 256 := Nat.lt_of_le_of_lt Nat.and_le_left hj
  rw [shl_nI p (by omega), shl_nI o (by omega), or_nI (by omega) (by omega), and_nI (by omega) (by omega)]
  have hb : ∀ i, (j &&& (2 ^ p ||| 2 ^ o)).testBit i = (j.testBit i && (decide (p = i) || decide (o = i))) := by
    intro i
    rw [Nat.testBit_and, Nat.testBit_or, Nat.testBit_two_pow, Nat.testBit_two_pow]
  constructor
  · intro h
    have h0 : j &&& (2 ^ p ||| 2 ^ o) = 0 := (nI_eq (b := 0) (by omega) (by decide)).mp h
    have b1 := hb p
    have b2 := hb o
    rw [h0, Nat.zero_testBit, decide_eq_true rfl, Bool.true_or, Bool.and_true] at b1
    rw [h0, Nat.zero_testBit, decide_eq_true (p := o = o) rfl, Bool.or_true, Bool.and_true] at b2
    exact ⟨b1.symm, b2.symm⟩
  · rintro ⟨b1, b2⟩
    have h0 : j &&& (2 ^ p ||| 2 ^ o) = 0 := by
      refine bits_eq h4 (by decide) (fun i _ => ?_)
      rw [hb i, Nat.zero_testBit]
      by_cases e1 : p = i
      · subst e1; rw [b1]; rfl
      · by_cases e2 : o = i
        · subst e2; rw [b2]; rfl
        · rw [decide_eq_false e1, decide_eq_false e2, Bool.or_false, Bool.and_false]
    rw [h0]; rfl
theorem sub_or {p j m : Nat} (hp : p < 256) (hj : j < 256) (hm : m < 8) : subB p (j ||| 2 ^ m) = true ↔ subB p j = true ∧ p.testBit m = true := by
  rw [sub_bits hp (or_lt hj hm), sub_bits hp hj]
  constructor
  · intro h
    refine ⟨fun i hi hb => h i hi ?_, h m hm ?_⟩
    · rw [Nat.testBit_or, hb, Bool.true_or]
    · rw [Nat.testBit_or, Nat.testBit_two_pow_self, Bool.or_true]
  · rintro ⟨h1, h2⟩ i hi hb
    rw [Nat.testBit_or, Bool.or_eq_true, Nat.testBit_two_pow, decide_eq_true_iff] at hb
    rcases hb with z | z
    · exact h1 i hi z
    · subst z; exact h2
theorem below_W (hN : okN s n r) (hL : okL s n) (hW : okW s n) {c : Nat} (h1 : 1 ≤ c) (h2 : c < 2 ^ 31) (hq : q = nI c) (hM : MI s n q (wnB s n q) 256 w) {p o : Nat} (hp : p < 8) (ho : o < 8) (hbp : plB s n p = true) (hbo : plB s n o = true) :
    (f_X3_isNeverBelow w (nI p) (nI o) = 1 ∧ ∀ j, j < 256 → ¬ cmpC (wnB s n q) p o j) ∨ (f_X3_isNeverBelow w (nI p) (nI o) = 0 ∧ ∃ j, j < 256 ∧ cmpC (wnB s n q) p o j) := by
  have h8 := hN.2.1
  have hP := plN_lt (s := s) h8
  unfold f_X3_isNeverBelow
  refine lp_inm (I := fun x : Int32 => ∃ k, k ≤ 256 ∧ x = nI k ∧ ∀ j, j < k → ¬ cmpC (wnB s n q) p o j) (Q := fun b : Int32 => (b = 1 ∧ ∀ j, j < 256 → ¬ cmpC (wnB s n q) p o j) ∨ (b = 0 ∧ ∃ j, j < 256 ∧ cmpC (wnB s n q) p o j)) (fun x : Int32 => ((256 : Int32).toInt - x.toInt).toNat) ?_ _ _ ⟨0, Nat.zero_le _, rfl, fun j hj => absurd hj (Nat.not_lt_zero j)⟩ (Nat.lt_succ_self _)
  rintro x ⟨k, hk, rfl, hc⟩
  show Sum.elim _ _ (f_X3_isNeverBelow_st w (nI p) (nI o) (nI k))
  unfold f_X3_isNeverBelow_st
  by_cases hb : (256 : Int32) ≤ nI k
  · rw [if_pos hb]
    have hk8 : 256 ≤ k := (nI_leI (a := 256) (by decide) (by omega)).mp hb
    exact Or.inl ⟨rfl, fun j hj => hc j (by omega)⟩
  · rw [if_neg hb]
    have hk8 : k < 256 := by
      rcases Nat.lt_or_ge k 256 with z | z
      · exact z
      · exact absurd (nI_le z (by omega)) hb
    have hnext : ¬ cmpC (wnB s n q) p o k → (∃ k', k' ≤ 256 ∧ nI k + 1 = nI k' ∧ ∀ j, j < k' → ¬ cmpC (wnB s n q) p o j) ∧ ((256 : Int32).toInt - (nI k + 1).toInt).toNat < ((256 : Int32).toInt - (nI k).toInt).toNat := by
      intro hn
      refine ⟨⟨k + 1, hk8, nI_1 k, fun j hj => ?_⟩, mu_up hb⟩
      rcases Nat.lt_or_ge j k with z | z
      · exact hc j z
      · have e : j = k := by omega
        subst e; exact hn
    unfold f_X3_isSetOfPlayers
    rw [hM.1, or_bit_nI hk8 ho, or_bit_nI hk8 hp]
    have hsub : subB (plN s n) k = decide ((nI k &&& (nI (plN s n) ^^^ (-1))) = 0) := rfl
    by_cases hs : (nI k &&& (nI (plN s n) ^^^ (-1))) = 0
    · rw [decide_eq_true hs] at hsub
      rw [if_pos hs, if_neg (by decide)]
      by_cases ha : (nI k &&& ((1 <<< (nI p &&& 31)) ||| (1 <<< (nI o &&& 31)))) = 0
      · rw [if_pos ha]
        have hpo := (and2_nI hk8 hp ho).mp ha
        have so := (sub_or hP hk8 ho).mpr ⟨hsub, by rw [plN_bit]; exact hbo⟩
        have sp := (sub_or hP hk8 hp).mpr ⟨hsub, by rw [plN_bit]; exact hbp⟩
        have wo := wn_str hN hL hW h1 h2 (or_lt hk8 ho) so
        have wp := wn_str hN hL hW h1 h2 (or_lt hk8 hp) sp
        unfold f_X3_isWinning
        rw [rAt_nI (or_lt hk8 ho) (by decide), rAt_nI (or_lt hk8 hp) (by decide), hM.2.2.2.2.2.2.2.1 _ (or_lt hk8 ho), hM.2.2.2.2.2.2.2.1 _ (or_lt hk8 hp), hM.2.1]
        rw [← hq] at wo wp
        by_cases z1 : strS s n (k ||| 2 ^ o) < q
        · rw [if_pos z1, if_pos rfl]
          exact hnext (fun z => by have := wo.mp z1; rw [z.2.2.1] at this; exact absurd this (by decide))
        · rw [if_neg z1, if_neg (by decide)]
          have wo1 : wnB s n q (k ||| 2 ^ o) = true := by
            cases hz : wnB s n q (k ||| 2 ^ o)
            · exact absurd (wo.mpr hz) z1
            · rfl
          by_cases z2 : strS s n (k ||| 2 ^ p) < q
          · rw [if_pos z2, if_pos rfl]
            exact Or.inr ⟨rfl, k, hk8, hpo.1, hpo.2, wo1, wp.mp z2⟩
          · rw [if_neg z2, if_neg (by decide)]
            exact hnext (fun z => z2 (wp.mpr z.2.2.2))
      · rw [if_neg ha]
        exact hnext (fun z => ha ((and2_nI hk8 hp ho).mpr ⟨z.1, z.2.1⟩))
    · rw [decide_eq_false hs] at hsub
      rw [if_neg hs, if_pos rfl]
      exact hnext (fun z => by
        have := ((sub_or hP hk8 ho).mp (wn_sub z.2.2.1)).1
        rw [hsub] at this; exact absurd this (by decide))
theorem comp_W {W : Nat → Bool} {u : Int32 × (Nat → Int32)} (hy : ∀ j, j < 256 → u.2 j = bI (W j)) {p o : Nat} (hp : p < 8) (ho : o < 8) :
    ∃ a b : Bool, (∃ t, (lp (fun (x : Int32 × Int32 × Int32) => f_X8_compare_st (nI p) (nI o) u x.1 x.2.1 x.2.2) default (((256 : Int32).toInt - (0 : Int32).toInt).toNat + 1) (0, 0, 0)) = (bI a, bI b, t)) ∧ (a = true ↔ ∃ j, j < 256 ∧ cmpC W o p j) ∧ (b = true ↔ ∃ j, j < 256 ∧ cmpC W p o j) := by
  refine lp_inm (I := fun z : Int32 × Int32 × Int32 => ∃ k, k ≤ 256 ∧ ∃ a b : Bool, z = (bI a, bI b, nI k) ∧ (a = true ↔ ∃ j, j < k ∧ cmpC W o p j) ∧ (b = true ↔ ∃ j, j < k ∧ cmpC W p o j)) (Q := fun z : Int32 × Int32 × Int32 => ∃ a b : Bool, (∃ t, z = (bI a, bI b, t)) ∧ (a = true ↔ ∃ j, j < 256 ∧ cmpC W o p j) ∧ (b = true ↔ ∃ j, j < 256 ∧ cmpC W p o j)) (fun z : Int32 × Int32 × Int32 => ((256 : Int32).toInt - z.2.2.toInt).toNat) ?_ _ _ ⟨0, Nat.zero_le _, false, false, rfl, ⟨fun h => absurd h (by decide), fun ⟨j, hj, _⟩ => absurd hj (Nat.not_lt_zero j)⟩, ⟨fun h => absurd h (by decide), fun ⟨j, hj, _⟩ => absurd hj (Nat.not_lt_zero j)⟩⟩ (Nat.lt_succ_self _)
  rintro z ⟨k, hk, a, b, rfl, ha, hb⟩
  show Sum.elim _ _ (f_X8_compare_st (nI p) (nI o) u (bI a) (bI b) (nI k))
  by_cases hc : (256 : Int32) ≤ nI k
  · unfold f_X8_compare_st
    rw [if_pos hc]
    have hk8 : 256 ≤ k := (nI_leI (a := 256) (by decide) (by omega)).mp hc
    have e : k = 256 := by omega
    subst e
    exact ⟨a, b, ⟨_, rfl⟩, ha, hb⟩
  · have hk8 : k < 256 := by
      rcases Nat.lt_or_ge k 256 with z | z
      · exact z
      · exact absurd (nI_le z (by omega)) hc
    have hop := or_lt hk8 hp
    have hoo := or_lt hk8 ho
    have e1 : u.2 (nI k ||| (1 <<< (nI p &&& 31))).toNatClampNeg = bI (W (k ||| 2 ^ p)) := by rw [or_bit_nI hk8 hp]; exact yv hy hop
    have e2 : u.2 (nI k ||| (1 <<< (nI o &&& 31))).toNatClampNeg = bI (W (k ||| 2 ^ o)) := by rw [or_bit_nI hk8 ho]; exact yv hy hoo
    have hst : f_X8_compare_st (nI p) (nI o) u (bI a) (bI b) (nI k) = .inl (bI (a || (!k.testBit p && !k.testBit o && W (k ||| 2 ^ p) && !W (k ||| 2 ^ o))), bI (b || (!k.testBit p && !k.testBit o && W (k ||| 2 ^ o) && !W (k ||| 2 ^ p))), nI (k + 1)) := by
      unfold f_X8_compare_st
      rw [if_neg hc, has_nI p hp k hk8, has_nI o ho k hk8, e1, e2, nI_1]
      cases k.testBit p <;> cases k.testBit o <;> cases a <;> cases b <;> cases W (k ||| 2 ^ p) <;> cases W (k ||| 2 ^ o) <;> rfl
    rw [hst]
    have hup : ∀ (C : Nat → Prop) (d x : Bool), (d = true ↔ ∃ j, j < k ∧ C j) → (x = true ↔ C k) → ((d || x) = true ↔ ∃ j, j < k + 1 ∧ C j) := by
      intro C d x hd hx
      rw [Bool.or_eq_true, hd, hx]
      constructor
      · rintro (⟨j, hj, hj2⟩ | h)
        · exact ⟨j, Nat.lt_succ_of_lt hj, hj2⟩
        · exact ⟨k, Nat.lt_succ_self k, h⟩
      · rintro ⟨j, hj, hj2⟩
        rcases Nat.lt_or_ge j k with z | z
        · exact Or.inl ⟨j, z, hj2⟩
        · have e : j = k := by omega
          subst e; exact Or.inr hj2
    refine ⟨⟨k + 1, hk8, _, _, rfl, hup _ _ _ ha ?_, hup _ _ _ hb ?_⟩, ?_⟩
    · unfold cmpC
      cases k.testBit p <;> cases k.testBit o <;> cases W (k ||| 2 ^ p) <;> cases W (k ||| 2 ^ o) <;> simp
    · unfold cmpC
      cases k.testBit p <;> cases k.testBit o <;> cases W (k ||| 2 ^ p) <;> cases W (k ||| 2 ^ o) <;> simp
    · show ((256 : Int32).toInt - (nI (k + 1)).toInt).toNat < _
      rw [← nI_1]; exact mu_up hc
theorem faultP (hv : eqS v s (s 1)) (hN : okN s n r) (x0 x1 : Int32) : f_X6_faultOfPlayers v x0 x1 = f_X8_wrongTwo s x0 x1 := by
  unfold f_X6_faultOfPlayers f_X8_wrongTwo f_X6_faultOfTwo f_X6_worse
  rw [pl_eq hv hN, pl_eq hv hN, hm_eq hv, hm_eq hv]
  have w1 : ∀ A B : Int32, (if A = 0 then (if (1 : Int32) = 0 then (2 : Int32) else 1) else (if B = 0 then (if (1 : Int32) = 0 then (2 : Int32) else 1) else (if (1 : Int32) = 0 then 0 else 1))) = 1 := fun A B => by
    by_cases hA : A = 0
    · rw [if_pos hA]; rfl
    · rw [if_neg hA]
      by_cases hB : B = 0
      · rw [if_pos hB]; rfl
      · rw [if_neg hB]; rfl
  have w2 : ∀ A B : Int32, (if A = 0 then (if (2 : Int32) = 0 then (2 : Int32) else 2) else (if B = 0 then (if (2 : Int32) = 0 then (2 : Int32) else 2) else (if (2 : Int32) = 0 then 0 else 2))) = 2 := fun A B => by
    by_cases hA : A = 0
    · rw [if_pos hA]; rfl
    · rw [if_neg hA]
      by_cases hB : B = 0
      · rw [if_pos hB]; rfl
      · rw [if_neg hB]; rfl
  by_cases h1 : f_X8_isMember s x0 = 0
  · rw [if_pos h1, if_pos h1]; exact w1 _ _
  · rw [if_neg h1, if_neg h1]
    by_cases h2 : f_X8_isMember s x1 = 0
    · rw [if_pos h2, if_pos h2]; exact w1 _ _
    · rw [if_neg h2, if_neg h2]
      by_cases h3 : x0 = x1
      · rw [if_pos h3, if_pos h3]; exact w2 _ _
      · rw [if_neg h3, if_neg h3]
        by_cases h4 : f_X8_isPlayer s x0 = 0
        · rw [if_pos h4, if_pos h4]; rfl
        · rw [if_neg h4, if_neg h4]
          by_cases h5 : f_X8_isPlayer s x1 = 0
          · rw [if_pos h5, if_pos h5]; rfl
          · rw [if_neg h5, if_neg h5]; rfl
theorem wrong_ok (hN : okN s n r) {x0 x1 : Int32} (h : f_X8_wrongTwo s x0 x1 = 0) : ∃ p o : Nat, p < n ∧ o < n ∧ ¬ p = o ∧ x0 = nI p ∧ x1 = nI o ∧ plB s n p = true ∧ plB s n o = true := by
  have h8 := hN.2.1
  have hm := wt_mem h
  obtain ⟨p, hp, rfl⟩ := mem_of hN hm.1
  obtain ⟨o, ho, rfl⟩ := mem_of hN hm.2
  unfold f_X8_wrongTwo at h
  rw [if_neg hm.1, if_neg hm.2] at h
  by_cases h3 : nI p = nI o
  · rw [if_pos h3] at h; exact absurd h (by decide)
  · rw [if_neg h3, isp_nI hN (by omega), isp_nI hN (by omega)] at h
    cases hb : plB s n p
    · rw [hb, if_pos (by decide)] at h; exact absurd h (by decide)
    · cases hb2 : plB s n o
      · rw [hb, hb2] at h; exact absurd h (by decide)
      · exact ⟨p, o, hp, ho, fun e => h3 (congrArg nI e), rfl, rfl, hb, hb2⟩
theorem wrong_bad {x0 x1 : Int32} (h : ¬ f_X8_wrongTwo s x0 x1 = 0) : f_X8_wrongTwo s x0 x1 = 1 ∨ f_X8_wrongTwo s x0 x1 = 2 := by
  unfold f_X8_wrongTwo at h ⊢
  repeat' split
  all_goals first | exact Or.inl rfl | exact Or.inr rfl | skip
  all_goals simp_all
theorem measured_2 (hv : eqS v s (s 1)) (hg : GS s) (hp : pwr st s w) : f_X7_measured (f_X7_measured st v w).1 v (f_X7_measured st v w).2 = f_X7_measured st v w := by
  obtain ⟨h1, h2⟩ := measured_ok hv hg hp
  generalize f_X7_measured st v w = u at h1
  unfold f_X7_measured
  rw [if_pos h1]
theorem R_compare (hv : eqS v s (s 1)) (hg : GS s) (hp : pwr st s w) (hb : bl y10) (x0 x1 : Int32) : rdO (f_X7_compare st v w x0 x1) (f_X8_compare y4 s y10 x0 x1) 0 (fun f => f) s y4 y10 := by
  have hm := measured_ok hv hg hp
  have hpm := pwr_m hv hg hp
  have hm2 := measured_2 hv hg hp
  obtain ⟨n, r, c, hN, hL, hW, hR, hq, hq1, hq2⟩ := hg
  have h8 := hN.2.1
  unfold f_X7_compare f_X8_compare
  rw [faultP hv hN]
  by_cases h1 : f_X8_wrongTwo s x0 x1 = 0
  · rw [h1, if_pos rfl, rf_fine]
    obtain ⟨p, o, hpn, hon, hpo, rfl, rfl, hbp, hbo⟩ := wrong_ok hN h1
    have hM := hm.2 rfl n r hN
    have hl := lays_W hN y10 (s 1)
    have b1 := below_W hN hL hW hq1 (by omega) hq hM (p := p) (o := o) (by omega) (by omega) hbp hbo
    have b2 := below_W hN hL hW hq1 (by omega) hq hM (p := o) (o := p) (by omega) (by omega) hbo hbp
    obtain ⟨a, b, ⟨t, e⟩, ea, eb⟩ := comp_W hl.2 (p := p) (o := o) (by omega) (by omega)
    refine Or.inr ⟨if a then (if b then 2 else 1) else (if b then -1 else 0), f_X7_measured st v w, f_X8_lays s y10 (s 1), ?_, ?_, hpm, lays_z (s := s) hb (s 1)⟩
    · rw [my_l_eq, hm2, my_l_eq]
      show (if (f_X3_isNeverBelow (f_X7_measured st v w).2 (nI p) (nI o)) = 0 then (if (f_X3_isNeverBelow (f_X7_measured st v w).2 (nI o) (nI p)) = 0 then (.inr (2, f_X7_measured st v w)) else (.inr ((-1), f_X7_measured st v w))) else (if (f_X3_isNeverBelow (f_X7_measured st v w).2 (nI o) (nI p)) = 0 then (.inr (1, f_X7_measured st v w)) else (.inr (0, f_X7_measured st v w))) : Int32 ⊕ (Int32 × (Int32 × PowV))) = _
      rcases b1 with ⟨f1, g1⟩ | ⟨f1, g1⟩
      · have hbf : b = false := by
          cases b
          · rfl
          · obtain ⟨j, hj, hc⟩ := eb.mp rfl
            exact absurd hc (g1 j hj)
        rcases b2 with ⟨f2, g2⟩ | ⟨f2, g2⟩
        · have haf : a = false := by
            cases a
            · rfl
            · obtain ⟨j, hj, hc⟩ := ea.mp rfl
              exact absurd hc (g2 j hj)
          rw [f1, f2, hbf, haf]; rfl
        · have haf : a = true := ea.mpr g2
          rw [f1, f2, hbf, haf]; rfl
      · have hbf : b = true := eb.mpr g1
        rcases b2 with ⟨f2, g2⟩ | ⟨f2, g2⟩
        · have haf : a = false := by
            cases a
            · rfl
            · obtain ⟨j, hj, hc⟩ := ea.mp rfl
              exact absurd hc (g2 j hj)
          rw [f1, f2, hbf, haf]; rfl
        · have haf : a = true := ea.mpr g2
          rw [f1, f2, hbf, haf]; rfl
    · rw [my_l_eq, e, my_t3_eq]
      cases a <;> cases b <;> rfl
  · rw [if_neg h1]
    rcases wrong_bad h1 with z | z
    · rw [z, rf_bad (Or.inl rfl)]
      exact Or.inl ⟨1, rfl, Or.inl rfl, by decide, rfl⟩
    · rw [z, rf_bad (Or.inr (Or.inl rfl))]
      exact Or.inl ⟨2, rfl, Or.inr (Or.inl rfl), by decide, rfl⟩
end CMP
