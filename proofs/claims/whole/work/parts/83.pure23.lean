/-! part 83: bestQuota -/
def pre (f : Nat → Int32) (t : Nat) : Int32 := fd (fun u x => x + f (u + 1)) t 0
theorem pre_s (f : Nat → Int32) (t : Nat) : pre f (t + 1) = pre f t + f (t + 1) := rfl
theorem pre_upd (f : Nat → Int32) {a : Nat} (ha : 1 ≤ a) (b : Int32) : ∀ t, pre (upd f a (f a + b)) t = pre f t + (if a ≤ t then b else 0)
  | 0 => by
    rw [if_neg (by omega)]
    exact (Int32.add_zero (0 : Int32)).symm
  | t + 1 => by
    rw [pre_s, pre_s, pre_upd f ha b t]
    by_cases h1 : t + 1 = a
    · rw [h1, upd_eq, if_neg (by omega), if_pos (Nat.le_refl a), Int32.add_zero, ← Int32.add_assoc]
    · rw [upd_ne h1]
      by_cases h2 : a ≤ t
      · rw [if_pos h2, if_pos (by omega)]; ac_rfl
      · rw [if_neg h2, if_neg (by omega), Int32.add_zero, Int32.add_zero]
def sN (s : Nat → Int32) (n j : Nat) : Nat := if j < 2 ^ n ∧ whyL s j = 0 then wtN s (yesN s n j) n else 0
section BQ
variable {v : SetV} {s : Nat → Int32} {n r : Nat} {w : PowV} {st y4 : Int32} {y10 : Nat → Int32} {q : Int32} {W : Nat → Bool}
theorem str_sN (hN : okN s n r) (hW : okW s n) (j : Nat) : strS s n j = nI (sN s n j) ∧ sN s n j ≤ 400 := by
  have h8 := hN.2.1
  have b := wtN_le (s := s) (x := yesN s n j) (n := n) (fun m hm => (wN_eq hW hm).2)
  unfold strS sN
  by_cases h1 : j < 2 ^ n
  · rw [if_pos h1]
    by_cases h2 : whyL s j = 0
    · rw [if_pos h2, if_pos ⟨h1, h2⟩, weight_nI hN hW (yesN_lt h8)]
      exact ⟨rfl, by omega⟩
    · rw [if_neg h2, if_neg (fun z => h2 z.2)]
      exact ⟨rfl, by omega⟩
  · rw [if_neg h1, if_neg (fun z => h1 z.1)]
    exact ⟨rfl, by omega⟩
theorem sN_mono (hN : okN s n r) (hL : okL s n) (hW : okW s n) (hR : okR s r) {x y : Nat} (hx : x < 256) (hy : y < 2 ^ n) (hs : ∀ m, m < 8 → x.testBit m = true → y.testBit m = true) : sN s n x ≤ sN s n y := by
  have h8 := hN.2.1
  have hpw : (2 : Nat) ^ n ≤ 2 ^ 8 := Nat.pow_le_pow_right (by decide) h8
  have hym := yes_mono (s := s) hs hL h8
  unfold sN
  by_cases h1 : x < 2 ^ n ∧ whyL s x = 0
  · have h2 : whyL s y = 0 := by
      have h3 := h1.2
      rw [whyL_iff hN hL hx] at h3
      rw [whyL_iff hN hL (by omega)]
      exact fun i hi => holds_mono hN hR hi (yesN_lt h8) (yesN_lt h8) hym (h3 i hi)
    rw [if_pos h1, if_pos ⟨hy, h2⟩]
    exact wtN_mono (fun m hm => hym m (by omega))
  · rw [if_neg h1]; exact Nat.zero_le _
theorem wt_sN (hN : okN s n r) (hL : okL s n) (hW : okW s n) {t : Nat} (h1 : 1 ≤ t) (h2 : t < 2 ^ 31) {j : Nat} (hj : j < 256) (hs : subB (plN s n) j = true) : wnB s n (nI t) j = decide (t ≤ sN s n j) := by
  have h := wn_str hN hL hW h1 h2 hj hs
  obtain ⟨e1, e2⟩ := str_sN hN hW j
  rw [e1] at h
  cases hw : wnB s n (nI t) j
  · have := (nI_ltI (by omega) h2).mp (h.mpr hw)
    exact (decide_eq_false (by omega)).symm
  · refine (decide_eq_true ?_).symm
    rcases Nat.lt_or_ge (sN s n j) t with z | z
    · have := h.mp (nI_lt z h2)
      rw [hw] at this; exact absurd this (by decide)
    · exact z
theorem clr_sub {j m : Nat} (hj : j < 256) (hm : m < 8) : ∀ b, b < 8 → (clr j m).testBit b = true → j.testBit b = true := by
  intro b hb h
  rw [clr_bit m hm j hj b hb, Bool.and_eq_true] at h
  exact h.1
theorem sw_step (hN : okN s n r) (hL : okL s n) (hW : okW s n) (hR : okR s r) {t : Nat} (h1 : 1 ≤ t) (h2 : t < 2 ^ 31) {j m : Nat} (hj : j < 256) (hm : m < 8) (hs : subB (plN s n) j = true) (hb : j.testBit m = true) :
    (if sN s n (clr j m) + 1 ≤ t then (1 : Int32) else 0) + (if sN s n j + 1 ≤ t then -1 else 0) = bI (swT (wnB s n (nI t)) m j) := by
  have hp := plN_lt (s := s) hN.2.1
  have hc := sub_clr hp hj hm hs
  have hmo := sN_mono hN hL hW hR (clr_lt hj) (sub_lt hN.2.1 hj hs) (clr_sub hj hm)
  unfold swT
  rw [hb, Bool.true_and, wt_sN hN hL hW h1 h2 hj hs, wt_sN hN hL hW h1 h2 (clr_lt hj) hc]
  by_cases a : sN s n (clr j m) + 1 ≤ t
  · rw [if_pos a, decide_eq_false (p := t ≤ sN s n (clr j m)) (by omega)]
    by_cases b : sN s n j + 1 ≤ t
    · rw [if_pos b, decide_eq_false (by omega)]; decide
    · rw [if_neg b, decide_eq_true (by omega)]; decide
  · rw [if_neg a, decide_eq_true (p := t ≤ sN s n (clr j m)) (by omega), if_neg (by omega), decide_eq_true (by omega)]; decide
/-- the steps of a player, or of all, up to a quota, behind some sets -/
def stp (s : Nat → Int32) (n : Nat) (m k : Nat) (own all : Nat → Int32) : Prop := ∀ t, 1 ≤ t → t ≤ 400 → pre own t = swF (wnB s n (nI t)) m k ∧ pre all t = allF (wnB s n (nI t)) k
theorem raise2 (hN : okN s n r) (hW : okW s n) (hM : MI s n q (wnB s n q) 256 w) {j m : Nat} (hj : j < 256) (hm : m < 8) (f : Nat → Int32) (t : Nat) :
    pre (rRaise 402 (rRaise 402 f ((rAt 256 w.2.2.2.2.2.2.2.1 (nI j &&& ((1 <<< (nI m &&& 31)) ^^^ (-1)))) + 1) 1) ((rAt 256 w.2.2.2.2.2.2.2.1 (nI j)) + 1) (-1)) t = pre f t + ((if sN s n (clr j m) + 1 ≤ t then (1 : Int32) else 0) + (if sN s n j + 1 ≤ t then -1 else 0)) := by
  obtain ⟨e1, e2⟩ := str_sN hN hW (clr j m)
  obtain ⟨e3, e4⟩ := str_sN hN hW j
  have hc := clr_lt (m := m) hj
  rw [clr_nI m hm j hj, rAt_nI hc (by decide), rAt_nI hj (by decide), hM.2.2.2.2.2.2.2.1 _ hc, hM.2.2.2.2.2.2.2.1 _ hj, e1, e3, nI_1, nI_1, rRaise_nI (by omega) (by decide), rRaise_nI (by omega) (by decide), pre_upd _ (by omega), pre_upd _ (by omega), Int32.add_assoc]
theorem steps_in (hN : okN s n r) (hL : okL s n) (hW : okW s n) (hR : okR s r) {k m : Nat} (hk : k < 256) (hm : m < 8) (hs : subB (plN s n) k = true) (hM : MI s n q (wnB s n q) 256 w) (h : stp s n m k w.2.2.2.2.2.2.2.2.2.2.2.1 w.2.2.2.2.2.2.2.2.2.2.2.2) :
    MI s n q (wnB s n q) 256 (f_X3_countSteps w (nI k) (nI m)) ∧ stp s n m (k + 1) (f_X3_countSteps w (nI k) (nI m)).2.2.2.2.2.2.2.2.2.2.2.1 (f_X3_countSteps w (nI k) (nI m)).2.2.2.2.2.2.2.2.2.2.2.2 := by
  unfold f_X3_countSteps
  refine my_t2_inv (fun _ (u : PowV) => MI s n q (wnB s n q) 256 u ∧ stp s n m (k + 1) u.2.2.2.2.2.2.2.2.2.2.2.1 u.2.2.2.2.2.2.2.2.2.2.2.2) (fun u : PowV => MI s n q (wnB s n q) 256 u ∧ stp s n m (k + 1) u.2.2.2.2.2.2.2.2.2.2.2.1 u.2.2.2.2.2.2.2.2.2.2.2.2) ?_ (fun _ _ h => h)
  refine lp_inm (I := fun z : Int32 × PowV => ∃ i, i ≤ 8 ∧ z.1 = nI i ∧ MI s n q (wnB s n q) 256 z.2 ∧ ∀ t, 1 ≤ t → t ≤ 400 → pre z.2.2.2.2.2.2.2.2.2.2.2.2.1 t = swF (wnB s n (nI t)) m k + bI (decide (m < i) && swT (wnB s n (nI t)) m k) ∧ pre z.2.2.2.2.2.2.2.2.2.2.2.2.2 t = allF (wnB s n (nI t)) k + nI (cN (fun p => swT (wnB s n (nI t)) p k) i)) (Q := fun z : Int32 × PowV => MI s n q (wnB s n q) 256 z.2 ∧ stp s n m (k + 1) z.2.2.2.2.2.2.2.2.2.2.2.2.1 z.2.2.2.2.2.2.2.2.2.2.2.2.2) (fun z : Int32 × PowV => ((8 : Int32).toInt - z.1.toInt).toNat) ?_ _ _ ⟨0, Nat.zero_le _, rfl, hM, fun t t1 t2 => ⟨(h t t1 t2).1.trans ?_, (h t t1 t2).2.trans (Int32.add_zero _).symm⟩⟩ (Nat.lt_succ_self _)
  · rintro ⟨i, u⟩ ⟨i, hi, rfl, hu, hst⟩
    have hu : MI s n q (wnB s n q) 256 u := hu
    have hst : ∀ t, 1 ≤ t → t ≤ 400 → pre u.2.2.2.2.2.2.2.2.2.2.2.1 t = swF (wnB s n (nI t)) m k + bI (decide (m < i) && swT (wnB s n (nI t)) m k) ∧ pre u.2.2.2.2.2.2.2.2.2.2.2.2 t = allF (wnB s n (nI t)) k + nI (cN (fun p => swT (wnB s n (nI t)) p k) i) := hst
    show Sum.elim _ _ (f_X3_countSteps_st (nI k) (nI m) (nI i) u)
    unfold f_X3_countSteps_st
    by_cases hb : (8 : Int32) ≤ nI i
    · rw [if_pos hb]
      have hi8 := (nI_leI (a := 8) (by decide) (by omega)).mp hb
      have e : i = 8 := by omega
      subst e
      refine ⟨hu, fun t t1 t2 => ⟨?_, ?_⟩⟩
      · show pre u.2.2.2.2.2.2.2.2.2.2.2.1 t = (if swT (wnB s n (nI t)) m k then swF (wnB s n (nI t)) m k + 1 else swF (wnB s n (nI t)) m k)
        rw [(hst t t1 t2).1, decide_eq_true hm, Bool.true_and]
        cases swT (wnB s n (nI t)) m k
        · exact Int32.add_zero _
        · rfl
      · show pre u.2.2.2.2.2.2.2.2.2.2.2.2 t = _
        rw [(hst t t1 t2).2, allF_s]
    · rw [if_neg hb]
      have hi8 : i < 8 := by
        rcases Nat.lt_or_ge i 8 with z | z
        · exact z
        · exact absurd (nI_le z (by omega)) hb
      rw [con_has, has_nI i hi8 k hk]
      have hlt : ∀ t, ¬ i = m → (decide (m < i + 1) && swT (wnB s n (nI t)) m k) = (decide (m < i) && swT (wnB s n (nI t)) m k) := by
        intro t hne
        by_cases z : m < i
        · rw [decide_eq_true z, decide_eq_true (p := m < i + 1) (by omega)]
        · rw [decide_eq_false z, decide_eq_false (p := m < i + 1) (by omega)]
      cases hbit : k.testBit i
      · rw [if_pos (by decide)]
        refine ⟨⟨i + 1, hi8, nI_1 i, hu, fun t t1 t2 => ⟨?_, ?_⟩⟩, mu_up hb⟩
        · have hz : ∀ m', m' = i → swT (wnB s n (nI t)) m' k = false := by
            intro m' e; subst e; unfold swT; rw [hbit]; rfl
          show pre u.2.2.2.2.2.2.2.2.2.2.2.1 t = _
          rw [(hst t t1 t2).1]
          by_cases e : i = m
          · rw [hz m e.symm, Bool.and_false, Bool.and_false]
          · rw [hlt t e]
        · show pre u.2.2.2.2.2.2.2.2.2.2.2.2 t = _
          rw [(hst t t1 t2).2, cN_s]
          have hz : swT (wnB s n (nI t)) i k = false := by unfold swT; rw [hbit]; rfl
          rw [hz]; rfl
      · rw [if_neg (by decide)]
        have hall : ∀ t, 1 ≤ t → t ≤ 400 → pre (rRaise 402 (rRaise 402 u.2.2.2.2.2.2.2.2.2.2.2.2 ((rAt 256 u.2.2.2.2.2.2.2.1 (nI k &&& ((1 <<< (nI i &&& 31)) ^^^ (-1)))) + 1) 1) ((rAt 256 u.2.2.2.2.2.2.2.1 (nI k)) + 1) (-1)) t = allF (wnB s n (nI t)) k + nI (cN (fun p => swT (wnB s n (nI t)) p k) (i + 1)) := by
          intro t t1 t2
          rw [raise2 hN hW hu hk hi8, (hst t t1 t2).2, sw_step hN hL hW hR t1 (by omega) hk hi8 hs hbit, cN_s]
          cases swT (wnB s n (nI t)) i k
          · rw [bI_f, Int32.add_zero, if_neg (by decide)]
          · rw [bI_t, if_pos rfl, ← nI_1, Int32.add_assoc]
        rw [my_l_eq]
        by_cases e : i = m
        · subst e
          rw [if_pos rfl, my_l_eq]
          refine ⟨⟨i + 1, hi8, nI_1 i, hu, fun t t1 t2 => ⟨?_, hall t t1 t2⟩⟩, mu_up hb⟩
          show pre (rRaise 402 (rRaise 402 u.2.2.2.2.2.2.2.2.2.2.2.1 ((rAt 256 u.2.2.2.2.2.2.2.1 (nI k &&& ((1 <<< (nI i &&& 31)) ^^^ (-1)))) + 1) 1) ((rAt 256 u.2.2.2.2.2.2.2.1 (nI k)) + 1) (-1)) t = _
          rw [raise2 hN hW hu hk hi8, (hst t t1 t2).1, sw_step hN hL hW hR t1 (by omega) hk hi8 hs hbit, decide_eq_false (Nat.lt_irrefl i), Bool.false_and, bI_f, Int32.add_zero, decide_eq_true (Nat.lt_succ_self i), Bool.true_and]
        · rw [if_neg (fun z => e ((nI_eq (by omega) (by omega)).mp z))]
          refine ⟨⟨i + 1, hi8, nI_1 i, hu, fun t t1 t2 => ⟨?_, hall t t1 t2⟩⟩, mu_up hb⟩
          show pre u.2.2.2.2.2.2.2.2.2.2.2.1 t = _
          rw [(hst t t1 t2).1, hlt t e]
  · rw [decide_eq_false (Nat.not_lt_zero m), Bool.false_and, bI_f, Int32.add_zero]
theorem pre_0 {f : Nat → Int32} (h : ∀ j, j < 402 → f j = 0) : ∀ t, t ≤ 400 → pre f t = 0
  | 0, _ => rfl
  | t + 1, ht => by
    rw [pre_s, pre_0 h t (by omega), h (t + 1) (by omega)]; decide
theorem findSteps_ok (hN : okN s n r) (hL : okL s n) (hW : okW s n) (hR : okR s r) {m : Nat} (hm : m < 8) (hM : MI s n q (wnB s n q) 256 w) :
    MI s n q (wnB s n q) 256 (f_X3_findSteps w (nI m)) ∧ stp s n m 256 (f_X3_findSteps w (nI m)).2.2.2.2.2.2.2.2.2.2.2.1 (f_X3_findSteps w (nI m)).2.2.2.2.2.2.2.2.2.2.2.2 := by
  have h11 := empty_nI (N := 402) w.2.2.2.2.2.2.2.2.2.2.2.1 (by decide)
  have h12 := empty_nI (N := 402) w.2.2.2.2.2.2.2.2.2.2.2.2 (by decide)
  unfold f_X3_findSteps
  generalize f_X4_empty 402 w.2.2.2.2.2.2.2.2.2.2.2.1 = E1 at h11 ⊢
  generalize f_X4_empty 402 w.2.2.2.2.2.2.2.2.2.2.2.2 = E2 at h12 ⊢
  refine my_t2_inv (fun _ (u : PowV) => MI s n q (wnB s n q) 256 u ∧ stp s n m 256 u.2.2.2.2.2.2.2.2.2.2.2.1 u.2.2.2.2.2.2.2.2.2.2.2.2) (fun u : PowV => MI s n q (wnB s n q) 256 u ∧ stp s n m 256 u.2.2.2.2.2.2.2.2.2.2.2.1 u.2.2.2.2.2.2.2.2.2.2.2.2) ?_ (fun _ _ h => h)
  refine lp_inm (I := fun z : Int32 × PowV => ∃ k, k ≤ 256 ∧ z.1 = nI k ∧ MI s n q (wnB s n q) 256 z.2 ∧ stp s n m k z.2.2.2.2.2.2.2.2.2.2.2.2.1 z.2.2.2.2.2.2.2.2.2.2.2.2.2) (Q := fun z : Int32 × PowV => MI s n q (wnB s n q) 256 z.2 ∧ stp s n m 256 z.2.2.2.2.2.2.2.2.2.2.2.2.1 z.2.2.2.2.2.2.2.2.2.2.2.2.2) (fun z : Int32 × PowV => ((256 : Int32).toInt - z.1.toInt).toNat) ?_ _ _ ⟨0, Nat.zero_le _, rfl, hM, fun t _ t2 => ⟨pre_0 h11 t t2, (pre_0 h12 t t2).trans (allF_0 _).symm⟩⟩ (Nat.lt_succ_self _)
  rintro ⟨i, u⟩ ⟨k, hk, rfl, hu, hst⟩
  have hu : MI s n q (wnB s n q) 256 u := hu
  have hst : stp s n m k u.2.2.2.2.2.2.2.2.2.2.2.1 u.2.2.2.2.2.2.2.2.2.2.2.2 := hst
  show Sum.elim _ _ (f_X3_findSteps_st (nI m) (nI k) u)
  unfold f_X3_findSteps_st f_X3_isSetOfPlayers
  by_cases hb : (256 : Int32) ≤ nI k
  · rw [if_pos hb]
    have hk8 := (nI_leI (a := 256) (by decide) (by omega)).mp hb
    have e : k = 256 := by omega
    subst e; exact ⟨hu, hst⟩
  · rw [if_neg hb, hu.1]
    have hk8 : k < 256 := by
      rcases Nat.lt_or_ge k 256 with z | z
      · exact z
      · exact absurd (nI_le z (by omega)) hb
    have hsub : subB (plN s n) k = decide ((nI k &&& (nI (plN s n) ^^^ (-1))) = 0) := rfl
    by_cases hs : (nI k &&& (nI (plN s n) ^^^ (-1))) = 0
    · rw [decide_eq_true hs] at hsub
      rw [if_pos hs, if_neg (by decide), my_l_eq]
      have := steps_in hN hL hW hR hk8 hm hsub hu hst
      exact ⟨⟨k + 1, hk8, nI_1 k, this.1, this.2⟩, mu_up hb⟩
    · rw [decide_eq_false hs] at hsub
      rw [if_neg hs, if_pos rfl]
      refine ⟨⟨k + 1, hk8, nI_1 k, hu, fun t t1 t2 => ?_⟩, mu_up hb⟩
      have hwk : wnB s n (nI t) k = false := by unfold wnB; rw [hsub]; rfl
      refine ⟨?_, ?_⟩
      · show pre u.2.2.2.2.2.2.2.2.2.2.2.1 t = (if swT (wnB s n (nI t)) m k then _ else _)
        rw [swT_f hwk, if_neg (by decide)]
        exact (hst t t1 t2).1
      · show pre u.2.2.2.2.2.2.2.2.2.2.2.2 t = _
        rw [allF_s, (hst t t1 t2).2]
        have : cN (fun m => swT (wnB s n (nI t)) m k) 8 = cN (fun _ => false) 8 := cN_congr (fun m _ => swT_f hwk)
        rw [this]
        exact (Int32.add_zero _).symm
end BQ
