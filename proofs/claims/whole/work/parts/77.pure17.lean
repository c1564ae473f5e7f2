/-! part 77: unionGain -/
section UNI
variable {v : SetV} {s : Nat → Int32} {n r : Nat} {w : PowV} {st y4 : Int32} {y10 : Nat → Int32} {q : Int32}
/-- the leaders when o's bloc follows p -/
def uL (s : Nat → Int32) (n p o : Nat) (m : Nat) : Int32 := if m < n ∧ (m = o ∨ s (11 + m) = nI o) then nI p else s (11 + m)
theorem hold_nI (s y : Nat → Int32) : ∀ m, m < 8 → (lp (fun (x : Int32 × (Nat → Int32)) => f_X8_unionGain_st s x.1 x.2) default (((8 : Int32).toInt - (0 : Int32).toInt).toNat + 1) (0, y)).2 m = s (11 + m) := by
  refine lp_inm (I := fun z : Int32 × (Nat → Int32) => ∃ k, k ≤ 8 ∧ z.1 = nI k ∧ ∀ m, m < k → z.2 m = s (11 + m)) (Q := fun z : Int32 × (Nat → Int32) => ∀ m, m < 8 → z.2 m = s (11 + m)) (fun z : Int32 × (Nat → Int32) => ((8 : Int32).toInt - z.1.toInt).toNat) ?_ _ _ ⟨0, Nat.zero_le _, rfl, fun m hm => absurd hm (Nat.not_lt_zero m)⟩ (Nat.lt_succ_self _)
  rintro ⟨i, a⟩ ⟨k, hk, rfl, h1⟩
  have h1 : ∀ m, m < k → a m = s (11 + m) := h1
  show Sum.elim _ _ (f_X8_unionGain_st s (nI k) a)
  unfold f_X8_unionGain_st
  by_cases hb : (8 : Int32) ≤ nI k
  · rw [if_pos hb]
    have hk8 : 8 ≤ k := (nI_leI (a := 8) (by decide) (by omega)).mp hb
    exact fun m hm => h1 m (by omega)
  · rw [if_neg hb]
    have hk8 : k < 8 := by
      rcases Nat.lt_or_ge k 8 with z | z
      · exact z
      · exact absurd (nI_le z (by omega)) hb
    refine ⟨⟨k + 1, hk8, nI_1 k, fun m hm => ?_⟩, mu_up hb⟩
    show upd a (nI k).toNatClampNeg (s (11 + nI k).toNatClampNeg) m = _
    rw [nI_clamp (by omega), c11 (by omega)]
    by_cases e : m = k
    · rw [e, upd_eq]
    · rw [upd_ne e]; exact h1 m (by omega)
theorem join_nI (hN : okN s n r) {hd : Nat → Int32} (hh : ∀ m, m < 8 → hd m = s (11 + m)) {p o : Nat} (hp : p < n) (ho : o < n) : (∀ m, m < 8 → (lp (fun (x : Int32 × (Nat → Int32)) => f_X8_unionGain_st1 (nI p) (nI o) hd x.1 x.2) default ((((s 0) : Int32).toInt - (0 : Int32).toInt).toNat + 1) (0, s)).2 (11 + m) = uL s n p o m) ∧ (∀ j, j < 11 ∨ 19 ≤ j → (lp (fun (x : Int32 × (Nat → Int32)) => f_X8_unionGain_st1 (nI p) (nI o) hd x.1 x.2) default ((((s 0) : Int32).toInt - (0 : Int32).toInt).toNat + 1) (0, s)).2 j = s j) := by
  have h8 := hN.2.1
  refine lp_inm (I := fun z : Int32 × (Nat → Int32) => ∃ k, k ≤ n ∧ z.1 = nI k ∧ (∀ m, m < k → z.2 (11 + m) = uL s n p o m) ∧ (∀ m, k ≤ m → z.2 (11 + m) = s (11 + m)) ∧ (∀ j, j < 11 ∨ 19 ≤ j → z.2 j = s j)) (Q := fun z : Int32 × (Nat → Int32) => (∀ m, m < 8 → z.2 (11 + m) = uL s n p o m) ∧ (∀ j, j < 11 ∨ 19 ≤ j → z.2 j = s j)) (fun z : Int32 × (Nat → Int32) => ((s 0).toInt - z.1.toInt).toNat) ?_ _ _ ⟨0, Nat.zero_le _, rfl, fun m hm => absurd hm (Nat.not_lt_zero m), fun _ _ => rfl, fun _ _ => rfl⟩ (Nat.lt_succ_self _)
  rintro ⟨i, a⟩ ⟨k, hk, rfl, h1, h2, h3⟩
  have h1 : ∀ m, m < k → a (11 + m) = uL s n p o m := h1
  have h2 : ∀ m, k ≤ m → a (11 + m) = s (11 + m) := h2
  have h3 : ∀ j, j < 11 ∨ 19 ≤ j → a j = s j := h3
  have h0 : a 0 = s 0 := h3 0 (Or.inl (by decide))
  show Sum.elim _ _ (f_X8_unionGain_st1 (nI p) (nI o) hd (nI k) a)
  unfold f_X8_unionGain_st1
  rw [h0]
  by_cases hb : s 0 ≤ nI k
  · rw [if_pos hb]
    rw [hN.1] at hb
    have hk8 := (nI_leI (by omega) (by omega)).mp hb
    refine ⟨fun m hm => ?_, h3⟩
    rcases Nat.lt_or_ge m k with z | z
    · exact h1 m z
    · show a (11 + m) = _
      rw [h2 m z]; unfold uL; rw [if_neg (by omega)]
  · rw [if_neg hb]
    have hkn : k < n := by
      rw [hN.1] at hb
      rcases Nat.lt_or_ge k n with z | z
      · exact z
      · exact absurd (nI_le z (by omega)) hb
    rw [c11 (by omega), nI_clamp (by omega), hh k (by omega)]
    have hup : ∀ x : Int32, x = uL s n p o k → (∃ k', k' ≤ n ∧ nI k + 1 = nI k' ∧ (∀ m, m < k' → upd a (11 + k) x (11 + m) = uL s n p o m) ∧ (∀ m, k' ≤ m → upd a (11 + k) x (11 + m) = s (11 + m)) ∧ (∀ j, j < 11 ∨ 19 ≤ j → upd a (11 + k) x j = s j)) := by
      intro x hx
      refine ⟨k + 1, hkn, nI_1 k, fun m hm => ?_, fun m hm => ?_, fun j hj => ?_⟩
      · by_cases e : m = k
        · rw [e, upd_eq]; exact hx
        · rw [upd_ne (by omega)]; exact h1 m (by omega)
      · rw [upd_ne (by omega)]; exact h2 m (by omega)
      · rw [upd_ne (by omega)]; exact h3 j hj
    by_cases e1 : nI k = nI o
    · rw [if_pos e1]
      have e2 := (nI_eq (by omega) (by omega)).mp e1
      exact ⟨hup _ (by unfold uL; rw [if_pos ⟨hkn, Or.inl e2⟩]), mu_up hb⟩
    · rw [if_neg e1]
      by_cases e2 : s (11 + k) = nI o
      · rw [if_pos e2]
        exact ⟨hup _ (by unfold uL; rw [if_pos ⟨hkn, Or.inr e2⟩]), mu_up hb⟩
      · rw [if_neg e2]
        refine ⟨hup _ ?_, mu_up hb⟩
        unfold uL
        rw [if_neg (fun z => by rcases z.2 with z | z; exact e1 (congrArg nI z); exact e2 z)]
theorem back_nI {hd a : Nat → Int32} (hh : ∀ m, m < 8 → hd m = s (11 + m)) (ha : ∀ j, j < 11 ∨ 19 ≤ j → a j = s j) : ∀ j, (lp (fun (x : Int32 × (Nat → Int32)) => f_X8_unionGain_st2 hd x.1 x.2) default (((8 : Int32).toInt - (0 : Int32).toInt).toNat + 1) (0, a)).2 j = s j := by
  refine lp_inm (I := fun z : Int32 × (Nat → Int32) => ∃ k, k ≤ 8 ∧ z.1 = nI k ∧ ∀ j, j < 11 + k ∨ 19 ≤ j → z.2 j = s j) (Q := fun z : Int32 × (Nat → Int32) => ∀ j, z.2 j = s j) (fun z : Int32 × (Nat → Int32) => ((8 : Int32).toInt - z.1.toInt).toNat) ?_ _ _ ⟨0, Nat.zero_le _, rfl, fun j hj => ha j (by omega)⟩ (Nat.lt_succ_self _)
  rintro ⟨i, a⟩ ⟨k, hk, rfl, h1⟩
  have h1 : ∀ j, j < 11 + k ∨ 19 ≤ j → a j = s j := h1
  show Sum.elim _ _ (f_X8_unionGain_st2 hd (nI k) a)
  unfold f_X8_unionGain_st2
  by_cases hb : (8 : Int32) ≤ nI k
  · rw [if_pos hb]
    have hk8 : 8 ≤ k := (nI_leI (a := 8) (by decide) (by omega)).mp hb
    exact fun j => h1 j (by omega)
  · rw [if_neg hb]
    have hk8 : k < 8 := by
      rcases Nat.lt_or_ge k 8 with z | z
      · exact z
      · exact absurd (nI_le z (by omega)) hb
    refine ⟨⟨k + 1, hk8, nI_1 k, fun j hj => ?_⟩, mu_up hb⟩
    show upd a (11 + nI k).toNatClampNeg (hd (nI k).toNatClampNeg) j = _
    rw [nI_clamp (by omega), c11 (by omega), hh k hk8]
    by_cases e : j = 11 + k
    · rw [e, upd_eq]
    · rw [upd_ne e]; exact h1 j (by omega)
theorem unite_eq (hv : eqS v s q) (hN : okN s n r) (hL : okL s n) {p o : Nat} (hp : p < n) (ho : o < n) (hbo : plB s n o = true) {t : Nat → Int32} (h1 : ∀ m, m < 8 → t (11 + m) = uL s n p o m) (h2 : ∀ j, j < 11 ∨ 19 ≤ j → t j = s j) : eqS (f_X6_unite v (nI p) (nI o)) t q := by
  have h8 := hN.2.1
  have hv0 : v.1 = nI n := hv.1.trans hN.1
  have hbl := blN_lt (s := s) h8 (show o < 8 by omega)
  have hlead : ∀ m, m < 8 → (f_X6_unite v (nI p) (nI o)).2.2.2.2.1 m = uL s n p o m := by
    unfold f_X6_unite
    refine my_t2_inv (fun _ (a : Nat → Int32) => ∀ m, m < 8 → a m = uL s n p o m) (fun u : SetV => ∀ m, m < 8 → u.2.2.2.2.1 m = uL s n p o m) ?_ (fun _ _ h => h)
    refine lp_inm (I := fun z : Int32 × (Nat → Int32) => ∃ k, k ≤ n ∧ z.1 = nI k ∧ (∀ m, m < k → z.2 m = uL s n p o m) ∧ (∀ m, k ≤ m → m < 8 → z.2 m = s (11 + m))) (Q := fun z : Int32 × (Nat → Int32) => ∀ m, m < 8 → z.2 m = uL s n p o m) (fun z : Int32 × (Nat → Int32) => ((v.1).toInt - z.1.toInt).toNat) ?_ _ _ ⟨0, Nat.zero_le _, rfl, fun m hm => absurd hm (Nat.not_lt_zero m), fun m _ hm => hv.2.2.2.2.1 m hm⟩ (Nat.lt_succ_self _)
    rintro ⟨i, a⟩ ⟨k, hk, rfl, g1, g2⟩
    have g1 : ∀ m, m < k → a m = uL s n p o m := g1
    have g2 : ∀ m, k ≤ m → m < 8 → a m = s (11 + m) := g2
    show Sum.elim _ _ (f_X6_unite_st v (nI p) (nI o) (nI k) a)
    unfold f_X6_unite_st
    by_cases hb : v.1 ≤ nI k
    · rw [if_pos hb]
      rw [hv0] at hb
      have hk8 := (nI_leI (by omega) (by omega)).mp hb
      intro m hm
      show a m = _
      rcases Nat.lt_or_ge m k with z | z
      · exact g1 m z
      · rw [g2 m z hm]; unfold uL; rw [if_neg (by omega)]
    · rw [if_neg hb]
      have hkn : k < n := by
        rw [hv0] at hb
        rcases Nat.lt_or_ge k n with z | z
        · exact z
        · exact absurd (nI_le z (by omega)) hb
      rw [bloc_nI hv hN (by omega), con_has, has_nI k (by omega) _ hbl]
      have hbit : (blN s n o).testBit k = (decide (o = k) || (decide (k < n) && decide (s (11 + k) = nI o))) := by
        unfold blN
        rw [hbo, if_pos rfl, orN_bit, Nat.testBit_two_pow]
      rw [hbit, decide_eq_true hkn, Bool.true_and]
      by_cases e : o = k ∨ s (11 + k) = nI o
      · have ht : (decide (o = k) || decide (s (11 + k) = nI o)) = true := by
          rw [Bool.or_eq_true, decide_eq_true_iff, decide_eq_true_iff]; exact e
        rw [ht, if_neg (by decide), rPut_nI (by omega) (by decide)]
        refine ⟨⟨k + 1, hkn, nI_1 k, fun m hm => ?_, fun m hm hm8 => ?_⟩, mu_up hb⟩
        · show upd a k (nI p) m = _
          by_cases em : m = k
          · rw [em, upd_eq]
            unfold uL
            rw [if_pos ⟨hkn, e.imp (fun z => z.symm) id⟩]
          · rw [upd_ne em]; exact g1 m (by omega)
        · show upd a k (nI p) m = _
          have hm : k + 1 ≤ m := hm
          rw [upd_ne (by omega)]; exact g2 m (by omega) hm8
      · have ht : (decide (o = k) || decide (s (11 + k) = nI o)) = false := by
          rw [decide_eq_false (fun z => e (Or.inl z)), decide_eq_false (fun z => e (Or.inr z))]; rfl
        rw [ht, if_pos (by decide)]
        refine ⟨⟨k + 1, hkn, nI_1 k, fun m hm => ?_, fun m hm hm8 => ?_⟩, mu_up hb⟩
        · show a m = _
          by_cases em : m = k
          · rw [em, g2 k (Nat.le_refl k) (by omega)]
            unfold uL
            rw [if_neg (fun z => e (z.2.imp (fun z => z.symm) id))]
          · exact g1 m (by omega)
        · have hm : k + 1 ≤ m := hm
          exact g2 m (by omega) hm8
  refine ⟨?_, ?_, ?_, fun j hj => ?_, fun j hj => ?_, fun j hj => ?_, fun j hj => ?_⟩
  · rw [h2 0 (by omega)]; exact hv.1
  · exact hv.2.1
  · rw [h2 2 (by omega)]; exact hv.2.2.1
  · rw [h2 (3 + j) (by omega)]; exact hv.2.2.2.1 j hj
  · rw [h1 j hj]; exact hlead j hj
  · rw [h2 (19 + j) (by omega)]; exact hv.2.2.2.2.2.1 j hj
  · rw [h2 (23 + j) (by omega)]; exact hv.2.2.2.2.2.2 j hj
/-- a call of unionGain; the reference's row of leaders is as it was, number by number -/
theorem R_unionGain (hv : eqS v s (s 1)) (hg : GS s) (hp : pwr st s w) (hb : bl y10) (v2 : SetV) (w2 : PowV) (y12 : Nat → Int32) (x0 x1 : Int32) :
    (∃ f, f_X7_unionGain st v w v2 w2 x0 x1 = .inl f ∧ (f = 1 ∨ f = 2 ∨ f = 3) ∧ 0 < f ∧ f_X8_unionGain y4 s y10 y12 x0 x1 = (FP.dconst0, (f, y4, s, y10, y12))) ∨
    (∃ a u p, f_X7_unionGain st v w v2 w2 x0 x1 = .inr (a, u) ∧ f_X8_unionGain y4 s y10 y12 x0 x1 = (a, (0, p)) ∧ pwr u.1 s u.2.1 ∧ (∀ j, p.2.1 j = s j) ∧ bl p.2.2.1) := by
  have hm := measured_ok hv hg hp
  have hpm := pwr_m hv hg hp
  have hm2 := measured_2 hv hg hp
  obtain ⟨n, r, c, hN, hL, hW, hR, hq, hq1, hq2⟩ := hg
  have h8 := hN.2.1
  unfold f_X7_unionGain f_X8_unionGain
  rw [faultP hv hN]
  by_cases h1 : f_X8_wrongTwo s x0 x1 = 0
  · rw [h1, if_pos rfl, rf_fine]
    obtain ⟨p, o, hpn, hon, hpo, rfl, rfl, hbp, hbo⟩ := wrong_ok hN h1
    have hM := hm.2 rfl n r hN
    have hl := lays_W hN y10 (s 1)
    have hh := hold_nI s y12
    have hj := join_nI hN hh hpn hon
    refine Or.inr ?_
    rw [my_l_eq, hm2, my_l_eq, my_l_eq (f_X8_lays s y10 (s 1))]
    generalize (lp (fun (x : Int32 × (Nat → Int32)) => f_X8_unionGain_st s x.1 x.2) default (((8 : Int32).toInt - (0 : Int32).toInt).toNat + 1) (0, y12)) = H at hh hj ⊢
    obtain ⟨h0, H⟩ := H
    have hh : ∀ m, m < 8 → H m = s (11 + m) := hh
    rw [my_t2_eq]
    have hj : (∀ m, m < 8 → (lp (fun (x : Int32 × (Nat → Int32)) => f_X8_unionGain_st1 (nI p) (nI o) H x.1 x.2) default ((((s 0) : Int32).toInt - (0 : Int32).toInt).toNat + 1) (0, s)).2 (11 + m) = uL s n p o m) ∧ (∀ j, j < 11 ∨ 19 ≤ j → (lp (fun (x : Int32 × (Nat → Int32)) => f_X8_unionGain_st1 (nI p) (nI o) H x.1 x.2) default ((((s 0) : Int32).toInt - (0 : Int32).toInt).toNat + 1) (0, s)).2 j = s j) := hj
    generalize (lp (fun (x : Int32 × (Nat → Int32)) => f_X8_unionGain_st1 (nI p) (nI o) H x.1 x.2) default ((((s 0) : Int32).toInt - (0 : Int32).toInt).toNat + 1) (0, s)) = T at hj ⊢
    obtain ⟨t0, T⟩ := T
    obtain ⟨j1, j2⟩ := hj
    have j1 : ∀ m, m < 8 → T (11 + m) = uL s n p o m := j1
    have j2 : ∀ j, j < 11 ∨ 19 ≤ j → T j = s j := j2
    have hbk := back_nI (s := s) hh j2
    have hpp := (plB_iff.mp hbp).2
    have hop := (plB_iff.mp hbo).2
    have hN2 : okN T n r := ⟨by rw [j2 0 (by omega)]; exact hN.1, h8, by rw [j2 2 (by omega)]; exact hN.2.2.1, hN.2.2.2⟩
    have hnp : ¬ s (11 + p) = nI o := by rw [hpp]; exact fun e => ne1 o (by omega) e.symm
    have hTp : T (11 + p) = -1 := by rw [j1 p (by omega)]; unfold uL; rw [if_neg (fun z => by rcases z.2 with z | z; exact hpo z; exact hnp z)]; exact hpp
    have hL2 : okL T n := by
      intro m hmn
      rw [j1 m (by omega)]
      unfold uL
      by_cases e : m < n ∧ (m = o ∨ s (11 + m) = nI o)
      · rw [if_pos e]; exact Or.inr ⟨p, hpn, rfl, hTp⟩
      · rw [if_neg e]
        rcases hL m hmn with z | ⟨k, z1, z2, z3⟩
        · exact Or.inl z
        · refine Or.inr ⟨k, z1, z2, ?_⟩
          rw [j1 k (by omega)]
          unfold uL
          rw [if_neg (fun z => ?_)]
          · exact z3
          · rcases z.2 with y | y
            · subst y; exact e ⟨hmn, Or.inr z2⟩
            · rw [z3] at y; exact ne1 o (by omega) y.symm
    have hW2 : okW T n := fun m hmn => by rw [j2 (3 + m) (by omega)]; exact hW m hmn
    have hv2 : eqS (f_X6_unite (f_X6_copyFrom v2 v) (nI p) (nI o)) T (s 1) := unite_eq (copyS v2 v hv) hN hL hpn hon hbo j1 j2
    have hM2 := measure_MI hv2 hN2 hL2 hW2 hq hq1 (by omega) w2
    have hT1 : T 1 = s 1 := j2 1 (by omega)
    have hl2 := lays_W hN2 (f_X8_lays s y10 (s 1)).2 (s 1)
    rw [my_l_eq (f_X6_copyFrom v2 v), my_l_eq (f_X6_unite (f_X6_copyFrom v2 v) (nI p) (nI o)), my_l_eq (f_X3_measure w2 (f_X6_unite (f_X6_copyFrom v2 v) (nI p) (nI o))), my_t2_eq, my_l_eq]
    generalize (lp (fun (x : Int32 × (Nat → Int32)) => f_X8_unionGain_st2 H x.1 x.2) default (((8 : Int32).toInt - (0 : Int32).toInt).toNat + 1) (0, T)) = B at hbk ⊢
    obtain ⟨b0, B⟩ := B
    have hbk : ∀ j, B j = s j := hbk
    rw [my_t2_eq]
    refine ⟨_, _, ((f_X8_lays T (f_X8_lays s y10 (s 1)).2 (T 1)).1, B, (f_X8_lays T (f_X8_lays s y10 (s 1)).2 (T 1)).2, H), rfl, ?_, hpm, hbk, lays_z (s := T) (lays_z (s := s) hb (s 1)) (T 1)⟩
    have e1 := part_eq hN hM hl.2 (m := p) (by omega)
    have e2 := part_eq hN hM hl.2 (m := o) (by omega)
    have e3 := part_eq hN2 hM2 hl2.2 (m := p) (by omega)
    rw [e1, e2, e3, hT1, hl2.1, hl.1]
  · rw [if_neg h1]
    rcases wrong_bad h1 with z | z
    · rw [z, rf_bad (Or.inl rfl)]
      exact Or.inl ⟨1, rfl, Or.inl rfl, by decide, rfl⟩
    · rw [z, rf_bad (Or.inr (Or.inl rfl))]
      exact Or.inl ⟨2, rfl, Or.inr (Or.inl rfl), by decide, rfl⟩
end UNI
