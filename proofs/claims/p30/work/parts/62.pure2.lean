/-! part 62 -/
theorem lp_simm {σ ρ τ π : Type} {f : σ → σ ⊕ ρ} {g : τ → τ ⊕ π} {d : ρ} {d' : π} (I : σ → τ → Prop) (Q : ρ → π → Prop) (μ : σ → Nat)
    (h : ∀ x y, I x y → (∃ x' y', f x = .inl x' ∧ g y = .inl y' ∧ I x' y' ∧ μ x' < μ x) ∨ (∃ r r', f x = .inr r ∧ g y = .inr r' ∧ Q r r')) : ∀ (n : Nat) (x : σ) (y : τ), I x y → μ x < n → Q (lp f d n x) (lp g d' n y)
  | 0, _, _, _, hn => absurd hn (Nat.not_lt_zero _)
  | n + 1, x, y, hI, hn => by
    rw [lp, lp]
    rcases h x y hI with ⟨x', y', h1, h2, h3, h4⟩ | ⟨r, r', h1, h2, h3⟩
    · rw [h1, h2]; exact lp_simm I Q μ h n x' y' h3 (Nat.lt_of_lt_of_le h4 (Nat.le_of_lt_succ hn))
    · rw [h1, h2]; exact h3
theorem empty_nI {N : Nat} (f : Nat → Int32) (hN : N < 2 ^ 31) : ∀ j, j < N → f_X4_empty N f j = 0 := by
  unfold f_X4_empty
  refine my_t2_inv (fun _ (w : Nat → Int32) => ∀ j, j < N → w j = 0) (fun w : Nat → Int32 => ∀ j, j < N → w j = 0) ?_ (fun _ _ h => h)
  refine lp_inm (I := fun z : Int32 × (Nat → Int32) => ∃ k, k ≤ N ∧ z.1 = nI k ∧ ∀ j, j < k → z.2 j = 0) (Q := fun z : Int32 × (Nat → Int32) => ∀ j, j < N → z.2 j = 0) (fun z : Int32 × (Nat → Int32) => ((nI N).toInt - z.1.toInt).toNat) ?_ _ _ ⟨0, Nat.zero_le _, rfl, fun j hj => absurd hj (Nat.not_lt_zero j)⟩ (Nat.lt_succ_self _)
  rintro ⟨i, w⟩ ⟨k, hk, rfl, h1⟩
  have h1 : ∀ j, j < k → w j = 0 := h1
  show Sum.elim _ _ (f_X4_empty_st N (nI k) w)
  unfold f_X4_empty_st
  by_cases hb : nI N ≤ nI k
  · rw [if_pos hb]
    have : N ≤ k := (nI_leI hN (by omega)).mp hb
    exact fun j hj => h1 j (by omega)
  · rw [if_neg hb]
    have hkN : k < N := by
      rcases Nat.lt_or_ge k N with z | z
      · exact z
      · exact absurd (nI_le z (by omega)) hb
    refine ⟨⟨k + 1, hkN, nI_1 k, ?_⟩, mu_up hb⟩
    intro j hj
    show upd w (nI k).toNatClampNeg 0 j = 0
    rw [nI_clamp (by omega)]
    by_cases hjk : j = k
    · rw [hjk, upd_eq]
    · rw [upd_ne hjk]; exact h1 j (by omega)
theorem copy_nI {N : Nat} (f h : Nat → Int32) (hN : N < 2 ^ 31) : ∀ j, j < N → f_X4_copyFrom N f h j = h j := by
  unfold f_X4_copyFrom
  refine my_t2_inv (fun _ (w : Nat → Int32) => ∀ j, j < N → w j = h j) (fun w : Nat → Int32 => ∀ j, j < N → w j = h j) ?_ (fun _ _ h => h)
  refine lp_inm (I := fun z : Int32 × (Nat → Int32) => ∃ k, k ≤ N ∧ z.1 = nI k ∧ ∀ j, j < k → z.2 j = h j) (Q := fun z : Int32 × (Nat → Int32) => ∀ j, j < N → z.2 j = h j) (fun z : Int32 × (Nat → Int32) => ((nI N).toInt - z.1.toInt).toNat) ?_ _ _ ⟨0, Nat.zero_le _, rfl, fun j hj => absurd hj (Nat.not_lt_zero j)⟩ (Nat.lt_succ_self _)
  rintro ⟨i, w⟩ ⟨k, hk, rfl, h1⟩
  have h1 : ∀ j, j < k → w j = h j := h1
  show Sum.elim _ _ (f_X4_copyFrom_st N h (nI k) w)
  unfold f_X4_copyFrom_st
  by_cases hb : nI N ≤ nI k
  · rw [if_pos hb]
    have : N ≤ k := (nI_leI hN (by omega)).mp hb
    exact fun j hj => h1 j (by omega)
  · rw [if_neg hb]
    have hkN : k < N := by
      rcases Nat.lt_or_ge k N with z | z
      · exact z
      · exact absurd (nI_le z (by omega)) hb
    refine ⟨⟨k + 1, hkN, nI_1 k, ?_⟩, mu_up hb⟩
    intro j hj
    show upd w (nI k).toNatClampNeg (rAt N h (nI k)) j = h j
    rw [nI_clamp (by omega), rAt_nI hkN hN]
    by_cases hjk : j = k
    · rw [hjk, upd_eq]
    · rw [upd_ne hjk]; exact h1 j (by omega)
theorem copyS (v w : SetV) {s : Nat → Int32} {qq : Int32} (h : eqS w s qq) : eqS (f_X6_copyFrom v w) s qq := by
  obtain ⟨h0, h1, h2, h3, h4, h5, h6⟩ := h
  refine ⟨h0, h1, h2, fun j hj => ?_, fun j hj => ?_, fun j hj => ?_, fun j hj => ?_⟩
  · exact (copy_nI _ _ (by decide) j hj).trans (h3 j hj)
  · exact (copy_nI _ _ (by decide) j hj).trans (h4 j hj)
  · exact (copy_nI _ _ (by decide) j hj).trans (h5 j hj)
  · exact (copy_nI _ _ (by decide) j hj).trans (h6 j hj)
theorem shl2_nI : ∀ k, k < 8 → (2 <<< (nI k &&& 31) : Int32) = nI (2 ^ (k + 1)) := by decide +kernel
section FYS
variable {v : SetV} {s : Nat → Int32} {n r : Nat} {qq : Int32}
theorem ldr_eq (hL : okL s n) (h8 : n ≤ 8) {i m : Nat} (hi : i < n) (hm : m < 8) : (ldr s i = m) ↔ (plB s n m = true ∧ (i = m ∨ s (11 + i) = nI m)) := by
  have hpl : plB s n m = true ↔ m < n ∧ s (11 + m) = -1 := by
    unfold plB
    rw [Bool.and_eq_true, decide_eq_true_iff, decide_eq_true_iff]
  have hne : ∀ p : Nat, p < 8 → ¬ nI p = -1 := by decide
  rw [hpl]
  unfold ldr
  rcases hL i hi with h | ⟨p, h1, h2, h3⟩
  · rw [if_pos h]
    constructor
    · intro e; subst e; exact ⟨⟨hi, h⟩, Or.inl rfl⟩
    · rintro ⟨_, e | e⟩
      · exact e
      · rw [h] at e; exact absurd e.symm (hne m hm)
  · rw [if_neg (by rw [h2]; exact hne p (by omega)), h2, nI_clamp (by omega)]
    constructor
    · intro e; subst e; exact ⟨⟨h1, h3⟩, Or.inr rfl⟩
    · rintro ⟨⟨e1, e2⟩, e | e⟩
      · subst e; rw [h2] at e2; exact absurd e2 (hne p (by omega))
      · exact (nI_eq (by omega) (by omega)).mp e
theorem yes_step (hL : okL s n) (h8 : n ≤ 8) {k j : Nat} (hk : k < 8) (h1 : 2 ^ k ≤ j) (h2 : j < 2 ^ (k + 1)) : yesN s n j = yesN s n (j - 2 ^ k) ||| blN s n k := by
  have hp : (2 : Nat) ^ (k + 1) ≤ 2 ^ 8 := Nat.pow_le_pow_right (by decide) (by omega)
  have hjb : ∀ m, m < 8 → j.testBit m = ((j - 2 ^ k).testBit m || decide (m = k)) := by
    have h : ∀ k, k < 8 → ∀ i, i < 2 ^ k → ∀ m, m < 8 → (i + 2 ^ k).testBit m = (i.testBit m || decide (m = k)) := by decide +kernel
    intro m hm
    have := h k hk (j - 2 ^ k) (by rw [Nat.pow_succ] at h2; omega) m hm
    rw [Nat.sub_add_cancel h1] at this
    exact this
  refine bits_eq (yesN_lt h8) (Nat.or_lt_two_pow (n := 8) (yesN_lt h8) (blN_lt h8 hk)) (fun i hi => ?_)
  rw [Nat.testBit_or, yesN_bit, yesN_bit]
  by_cases hin : i < n
  · rw [decide_eq_true hin, Bool.true_and, Bool.true_and, hjb _ (by have := ldr_lt hL h8 hin; omega)]
    have he : decide (ldr s i = k) = (blN s n k).testBit i := by
      unfold blN
      have hle := ldr_eq hL h8 hin hk
      cases hb : plB s n k
      · rw [if_neg (by decide), Nat.zero_testBit]
        exact decide_eq_false (fun z => by have := (hle.mp z).1; rw [hb] at this; exact absurd this (by decide))
      · rw [if_pos rfl, orN_bit, decide_eq_true hin, Bool.true_and, Nat.testBit_two_pow]
        by_cases z : ldr s i = k
        · rw [decide_eq_true z]
          rcases (hle.mp z).2 with e | e
          · rw [decide_eq_true e.symm]; rfl
          · rw [decide_eq_true e]; cases decide (k = i) <;> rfl
        · rw [decide_eq_false z]
          have e1 : ¬ k = i := fun e => z (hle.mpr ⟨hb, Or.inl e.symm⟩)
          have e2 : ¬ s (11 + i) = nI k := fun e => z (hle.mpr ⟨hb, Or.inr e⟩)
          rw [decide_eq_false e1, decide_eq_false e2]; rfl
    rw [he]
  · rw [decide_eq_false hin, Bool.false_and, Bool.false_and]
    unfold blN
    cases hb : plB s n k
    · rw [if_neg (by decide), Nat.zero_testBit]; rfl
    · have hkn : k < n := by
        unfold plB at hb
        rw [Bool.and_eq_true, decide_eq_true_iff] at hb
        exact hb.1
      rw [if_pos rfl, orN_bit, decide_eq_false hin, Bool.false_and, Nat.testBit_two_pow, decide_eq_false (by omega)]; rfl
theorem yes_0 (h8 : n ≤ 8) : yesN s n 0 = 0 := by
  refine bits_eq (yesN_lt h8) (by decide) (fun i _ => ?_)
  rw [yesN_bit, Nat.zero_testBit, Nat.zero_testBit, Bool.and_false]
def yesA (v : SetV) (f : Nat → Int32) : Nat → Int32 := (lp (fun (x : Int32 × (Nat → Int32)) => f_X3_findYesSayers_st v x.1 x.2) default (((8 : Int32).toInt - (0 : Int32).toInt).toNat + 1) (0, (f_X4_empty 256 f))).2
theorem fys_eq (w : PowV) (v : SetV) : f_X3_findYesSayers w v = (w.1, w.2.1, w.2.2.1, w.2.2.2.1, w.2.2.2.2.1, w.2.2.2.2.2.1, yesA v w.2.2.2.2.2.2.1, w.2.2.2.2.2.2.2) := rfl
theorem yesA_nI (h : eqS v s qq) (hN : okN s n r) (hL : okL s n) (f : Nat → Int32) : ∀ j, j < 256 → yesA v f j = nI (yesN s n j) := by
  have h8 := hN.2.1
  unfold yesA
  have h00 := empty_nI (N := 256) f (by decide) 0 (by decide)
  generalize f_X4_empty 256 f = E0 at h00 ⊢
  refine lp_inm (I := fun z : Int32 × (Nat → Int32) => ∃ k, k ≤ 8 ∧ z.1 = nI k ∧ ∀ j, j < 2 ^ k → z.2 j = nI (yesN s n j)) (Q := fun z : Int32 × (Nat → Int32) => ∀ j, j < 256 → z.2 j = nI (yesN s n j)) (fun z : Int32 × (Nat → Int32) => ((8 : Int32).toInt - z.1.toInt).toNat) ?_ _ _ ⟨0, Nat.zero_le _, rfl, fun j hj => ?_⟩ (Nat.lt_succ_self _)
  · rintro ⟨i, w⟩ ⟨k, hk, rfl, h1⟩
    have h1 : ∀ j, j < 2 ^ k → w j = nI (yesN s n j) := h1
    show Sum.elim _ _ (f_X3_findYesSayers_st v (nI k) w)
    unfold f_X3_findYesSayers_st
    by_cases hb : (8 : Int32) ≤ nI k
    · rw [if_pos hb]
      have hk8 : 8 ≤ k := (nI_leI (a := 8) (by decide) (by omega)).mp hb
      have e : k = 8 := by omega
      subst e
      exact h1
    · rw [if_neg hb]
      have hk8 : k < 8 := by
        rcases Nat.lt_or_ge k 8 with z | z
        · exact z
        · exact absurd (nI_le z (by omega)) hb
      have hp1 : (2 : Nat) ^ k < 2 ^ 8 := Nat.pow_lt_pow_right (by decide) hk8
      have hp2 : (2 : Nat) ^ (k + 1) ≤ 2 ^ 8 := Nat.pow_le_pow_right (by decide) (by omega)
      have hp3 : (2 : Nat) ^ (k + 1) = 2 ^ k + 2 ^ k := by rw [Nat.pow_succ]; omega
      refine my_t2_inv (fun _ (w : Nat → Int32) => ∀ j, j < 2 ^ (k + 1) → w j = nI (yesN s n j)) (Sum.elim _ _) ?_ ?_
      · refine lp_inm (I := fun z : Int32 × (Nat → Int32) => ∃ i, 2 ^ k ≤ i ∧ i ≤ 2 ^ (k + 1) ∧ z.1 = nI i ∧ ∀ j, j < i → z.2 j = nI (yesN s n j)) (Q := fun z : Int32 × (Nat → Int32) => ∀ j, j < 2 ^ (k + 1) → z.2 j = nI (yesN s n j)) (fun z : Int32 × (Nat → Int32) => ((2 <<< (nI k &&& 31) : Int32).toInt - z.1.toInt).toNat) ?_ _ _ ⟨2 ^ k, Nat.le_refl _, by rw [hp3]; exact Nat.le_add_left _ _, shl_nI k (by omega), h1⟩ (Nat.lt_succ_self _)
        rintro ⟨i, w⟩ ⟨i, hi1, hi2, rfl, h2⟩
        have h2 : ∀ j, j < i → w j = nI (yesN s n j) := h2
        show Sum.elim _ _ (f_X3_findYesSayers_st1 v (nI k) (nI i) w)
        unfold f_X3_findYesSayers_st1
        by_cases hc : (2 <<< (nI k &&& 31) : Int32) ≤ nI i
        · rw [if_pos hc]
          rw [shl2_nI k hk8] at hc
          have hc2 := (nI_leI (by omega) (by omega)).mp hc
          exact fun j hj => h2 j (by omega)
        · rw [if_neg hc]
          have hi3 : i < 2 ^ (k + 1) := by
            rcases Nat.lt_or_ge i (2 ^ (k + 1)) with z | z
            · exact z
            · exact absurd (by rw [shl2_nI k hk8]; exact nI_le z (by omega)) hc
          refine ⟨⟨i + 1, by omega, hi3, nI_1 i, ?_⟩, mu_up hc⟩
          intro j hj
          show rPut 256 w (nI i) ((rAt 256 w (nI i - (1 <<< (nI k &&& 31)))) ||| f_X6_blocOf v (nI k)) j = _
          have es : nI i - (1 <<< (nI k &&& 31)) = nI (i - 2 ^ k) := by
            rw [shl_nI k (by omega)]
            have := nI_add (i - 2 ^ k) (2 ^ k)
            rw [Nat.sub_add_cancel hi1] at this
            rw [← this, Int32.add_sub_cancel]
          have hyl := yesN_lt (s := s) h8 (j := i - 2 ^ k)
          have hbl := blN_lt (s := s) h8 hk8
          rw [es, rAt_nI (by omega) (by decide), h2 (i - 2 ^ k) (by have : 0 < 2 ^ k := Nat.two_pow_pos k; omega), bloc_nI h hN hk8, or_nI (by omega) (by omega), ← yes_step hL h8 hk8 hi1 hi3, rPut_nI (by omega) (by decide)]
          by_cases hji : j = i
          · rw [hji, upd_eq]
          · rw [upd_ne hji]; exact h2 j (by omega)
      · intro a w h3
        exact ⟨⟨k + 1, hk8, nI_1 k, h3⟩, mu_up hb⟩
  · have hj0 : j = 0 := by have : j < 2 ^ 0 := hj; omega
    subst hj0
    rw [yes_0 h8]
    exact h00
end FYS
