/-! part 63 -/
theorem evb_nI : ∀ n, n < 9 → ((1 <<< (nI n &&& 31)) - 1 : Int32) = nI (2 ^ n - 1) := by decide +kernel
def whyL (s : Nat → Int32) (j : Nat) : Int32 := lp (fun (x : Int32) => f_X8_why_st s (nI j) x) default (((s 2 : Int32).toInt - (0 : Int32).toInt).toNat + 1) 0
def subB (p j : Nat) : Bool := decide ((nI j &&& (nI p ^^^ (-1))) = 0)
def wnB (s : Nat → Int32) (n : Nat) (q : Int32) (j : Nat) : Bool := subB (plN s n) j && decide (f_X8_why s (nI j) q = 0)
def strS (s : Nat → Int32) (n j : Nat) : Int32 := if j < 2 ^ n then (if whyL s j = 0 then f_X8_weightOf s (nI (yesN s n j)) else 0) else 0
section WINS
variable {v : SetV} {s : Nat → Int32} {n r : Nat} {qq : Int32}
theorem why_def (hN : okN s n r) (hL : okL s n) {j : Nat} (hj : j < 256) (q : Int32) : f_X8_why s (nI j) q = if q ≤ f_X8_weightOf s (nI (yesN s n j)) then whyL s j else 1 := by
  unfold f_X8_why whyL
  rw [yes_nI hN hL hj]
theorem fb_why (h : eqS v s qq) (hN : okN s n r) (hL : okL s n) {j : Nat} (hj : j < 256) : (f_X6_firstBrokenRule v (nI (yesN s n j)) = -1 ∧ whyL s j = 0) ∨ ∃ i, i < r ∧ f_X6_firstBrokenRule v (nI (yesN s n j)) = nI i ∧ whyL s j = nI (2 + i) := by
  have hr := hN.2.2.2
  unfold f_X6_firstBrokenRule whyL
  rw [h.2.2.1]
  refine lp_simm (fun x y : Int32 => x = y ∧ ∃ i, i ≤ r ∧ x = nI i) (fun a b : Int32 => (a = -1 ∧ b = 0) ∨ ∃ i, i < r ∧ a = nI i ∧ b = nI (2 + i)) (fun x : Int32 => ((s 2).toInt - x.toInt).toNat) ?_ _ _ _ ⟨rfl, 0, Nat.zero_le _, rfl⟩ (Nat.lt_succ_self _)
  rintro x y ⟨rfl, i, hi, rfl⟩
  show (∃ x' y', f_X6_firstBrokenRule_st v (nI (yesN s n j)) (nI i) = .inl x' ∧ f_X8_why_st s (nI j) (nI i) = .inl y' ∧ _) ∨ (∃ r r', f_X6_firstBrokenRule_st v (nI (yesN s n j)) (nI i) = .inr r ∧ f_X8_why_st s (nI j) (nI i) = .inr r' ∧ _)
  unfold f_X6_firstBrokenRule_st f_X8_why_st
  rw [h.2.2.1, yes_nI hN hL hj]
  by_cases hb : s 2 ≤ nI i
  · rw [if_pos hb, if_pos hb]
    exact Or.inr ⟨_, _, rfl, rfl, Or.inl ⟨rfl, rfl⟩⟩
  · have hir : i < r := by
      rw [hN.2.2.1] at hb
      rcases Nat.lt_or_ge i r with z | z
      · exact z
      · exact absurd (nI_le z (by omega)) hb
    have hk := kept_eq h hN (nI_pos (n := i) (by omega)) hb (yesN_lt (s := s) hN.2.1 (j := j))
    rw [if_neg hb, if_neg hb, hk]
    by_cases hc : f_X8_holds s (nI i) (nI (yesN s n j)) = 0
    · rw [if_pos hc, if_pos hc]
      exact Or.inr ⟨_, _, rfl, rfl, Or.inr ⟨i, hir, rfl, nI_add 2 i⟩⟩
    · rw [if_neg hc, if_neg hc]
      exact Or.inl ⟨_, _, rfl, rfl, ⟨rfl, i + 1, hir, nI_1 i⟩, mu_up hb⟩
theorem wt_le (hN : okN s n r) (hW : okW s n) (x : Int32) : 0 ≤ (f_X8_weightOf s x).toInt ∧ (f_X8_weightOf s x).toInt ≤ 50 * (n : Int) := by
  have h8 := hN.2.1
  unfold f_X8_weightOf
  refine my_t2_inv (fun a _ => 0 ≤ a.toInt ∧ a.toInt ≤ 50 * (n : Int)) (fun a : Int32 => 0 ≤ a.toInt ∧ a.toInt ≤ 50 * (n : Int)) ?_ (fun _ _ h => h)
  refine lp_inm (I := fun z : Int32 × Int32 => ∃ k, k ≤ n ∧ z.2 = nI k ∧ 0 ≤ z.1.toInt ∧ z.1.toInt ≤ 50 * (k : Int)) (Q := fun z : Int32 × Int32 => 0 ≤ z.1.toInt ∧ z.1.toInt ≤ 50 * (n : Int)) (fun z : Int32 × Int32 => ((s 0).toInt - z.2.toInt).toNat) ?_ _ _ ⟨0, Nat.zero_le _, rfl, by decide, by decide⟩ (Nat.lt_succ_self _)
  rintro ⟨a, i⟩ ⟨k, hk, rfl, h1, h2⟩
  have h1 : 0 ≤ a.toInt := h1
  have h2 : a.toInt ≤ 50 * (k : Int) := h2
  show Sum.elim _ _ (f_X8_weightOf_st s x a (nI k))
  unfold f_X8_weightOf_st
  by_cases hb : s 0 ≤ nI k
  · rw [if_pos hb]
    exact ⟨h1, by show a.toInt ≤ _; omega⟩
  · rw [if_neg hb]
    have hkn : k < n := by
      rw [hN.1] at hb
      rcases Nat.lt_or_ge k n with z | z
      · exact z
      · exact absurd (nI_le z (by omega)) hb
    split
    · exact ⟨⟨k + 1, hkn, nI_1 k, by show 0 ≤ (a + 0).toInt; rw [Int32.add_zero]; exact h1, by show (a + 0).toInt ≤ _; rw [Int32.add_zero]; omega⟩, mu_up hb⟩
    · obtain ⟨c, hc, e⟩ := hW k hkn
      rw [c3 (by omega), e]
      have e2 : (a + nI c).toInt = a.toInt + (c : Int) := by
        rw [i32_add (by rw [nI_toInt (by omega)]; omega) (by rw [nI_toInt (by omega)]; omega), nI_toInt (by omega)]
      exact ⟨⟨k + 1, hkn, nI_1 k, by show 0 ≤ (a + nI c).toInt; omega, by show (a + nI c).toInt ≤ _; omega⟩, mu_up hb⟩
theorem win_iff (hN : okN s n r) (hL : okL s n) (hW : okW s n) {j : Nat} (hj : j < 2 ^ n) {q : Nat} (h1 : 1 ≤ q) (h2 : q < 2 ^ 31) : ¬ (strS s n j < nI q) ↔ f_X8_why s (nI j) (nI q) = 0 := by
  have h8 : (2 : Nat) ^ n ≤ 2 ^ 8 := Nat.pow_le_pow_right (by decide) hN.2.1
  rw [why_def hN hL (by omega)]
  unfold strS
  rw [if_pos hj]
  by_cases hw : whyL s j = 0
  · rw [if_pos hw, hw]
    by_cases hq : nI q ≤ f_X8_weightOf s (nI (yesN s n j))
    · rw [if_pos hq]; exact iff_of_true (Int32.not_lt.mpr hq) rfl
    · rw [if_neg hq]; exact iff_of_false (fun z => z (Int32.not_le.mp hq)) (by decide)
  · rw [if_neg hw]
    refine iff_of_false (fun z => z (nI_lt (a := 0) h1 h2)) ?_
    split
    · exact hw
    · decide
theorem wins_lays (hN : okN s n r) (w0 : Nat → Int32) (q : Int32) : (f_X8_lays s w0 q).1 = nI (plN s n) ∧ ∀ j, j < 256 → (f_X8_lays s w0 q).2 j = if wnB s n q j then 1 else 0 := by
  refine ⟨players_nI hN, ?_⟩
  unfold f_X8_lays
  refine my_t2_inv (fun _ (w : Nat → Int32) => ∀ j, j < 256 → w j = if wnB s n q j then 1 else 0) (fun z : Int32 × (Nat → Int32) => ∀ j, j < 256 → z.2 j = if wnB s n q j then 1 else 0) ?_ (fun _ _ h => h)
  refine lp_inm (I := fun z : Int32 × (Nat → Int32) => ∃ k, k ≤ 256 ∧ z.1 = nI k ∧ ∀ j, j < k → z.2 j = if wnB s n q j then 1 else 0) (Q := fun z : Int32 × (Nat → Int32) => ∀ j, j < 256 → z.2 j = if wnB s n q j then 1 else 0) (fun z : Int32 × (Nat → Int32) => ((256 : Int32).toInt - z.1.toInt).toNat) ?_ _ _ ⟨0, Nat.zero_le _, rfl, fun j hj => absurd hj (Nat.not_lt_zero j)⟩ (Nat.lt_succ_self _)
  rintro ⟨i, w⟩ ⟨k, hk, rfl, h1⟩
  have h1 : ∀ j, j < k → w j = if wnB s n q j then 1 else 0 := h1
  show Sum.elim _ _ (f_X8_lays_st s q (nI k) w)
  unfold f_X8_lays_st
  by_cases hb : (256 : Int32) ≤ nI k
  · rw [if_pos hb]
    have hk8 : 256 ≤ k := (nI_leI (a := 256) (by decide) (by omega)).mp hb
    exact fun j hj => h1 j (by omega)
  · rw [if_neg hb]
    have hk8 : k < 256 := by
      rcases Nat.lt_or_ge k 256 with z | z
      · exact z
      · exact absurd (nI_le z (by omega)) hb
    have hup : ∀ x : Int32, x = (if wnB s n q k then 1 else 0) → (∃ k', k' ≤ 256 ∧ nI k + 1 = nI k' ∧ ∀ j, j < k' → upd w (nI k).toNatClampNeg x j = if wnB s n q j then 1 else 0) := by
      intro x hx
      refine ⟨k + 1, hk8, nI_1 k, fun j hj => ?_⟩
      rw [nI_clamp (by omega)]
      by_cases hjk : j = k
      · rw [hjk, upd_eq]; exact hx
      · rw [upd_ne hjk]; exact h1 j (by omega)
    have hsb : subB (plN s n) k = decide ((nI k &&& ((f_X8_players s) ^^^ (-1))) = 0) := by unfold subB; rw [players_nI hN]
    by_cases hc : (nI k &&& ((f_X8_players s) ^^^ (-1))) = 0
    · rw [if_pos hc]
      by_cases hy : f_X8_why s (nI k) q = 0
      · rw [if_pos hy]
        exact ⟨hup 1 (by unfold wnB; rw [hsb, decide_eq_true hc, decide_eq_true hy]; rfl), mu_up hb⟩
      · rw [if_neg hy]
        exact ⟨hup 0 (by unfold wnB; rw [hsb, decide_eq_true hc, decide_eq_false hy]; rfl), mu_up hb⟩
    · rw [if_neg hc]
      exact ⟨hup 0 (by unfold wnB; rw [hsb, decide_eq_false hc]; rfl), mu_up hb⟩
def strA (w : PowV) (v : SetV) : Nat → Int32 := (lp (fun (x : Int32 × (Nat → Int32)) => f_X3_findStrengths_st w v x.1 x.2) default (((256 : Int32).toInt - (0 : Int32).toInt).toNat + 1) (0, (f_X4_empty 256 w.2.2.2.2.2.2.2.1))).2
theorem fst_eq (w : PowV) (v : SetV) : f_X3_findStrengths w v = (w.1, w.2.1, w.2.2.1, w.2.2.2.1, w.2.2.2.2.1, w.2.2.2.2.2.1, w.2.2.2.2.2.2.1, strA w v, w.2.2.2.2.2.2.2.2) := rfl
theorem strA_nI (h : eqS v s qq) (hN : okN s n r) (hL : okL s n) (w : PowV) (hy : ∀ j, j < 256 → w.2.2.2.2.2.2.1 j = nI (yesN s n j)) : ∀ j, j < 256 → strA w v j = strS s n j := by
  have h8 := hN.2.1
  have hp : (2 : Nat) ^ n ≤ 2 ^ 8 := Nat.pow_le_pow_right (by decide) h8
  have hp0 : 0 < 2 ^ n := Nat.two_pow_pos n
  unfold strA
  have h00 := empty_nI (N := 256) w.2.2.2.2.2.2.2.1 (by decide)
  generalize f_X4_empty 256 w.2.2.2.2.2.2.2.1 = E0 at h00 ⊢
  refine lp_inm (I := fun z : Int32 × (Nat → Int32) => ∃ k, k ≤ 2 ^ n ∧ z.1 = nI k ∧ (∀ j, j < k → z.2 j = strS s n j) ∧ ∀ j, k ≤ j → j < 256 → z.2 j = 0) (Q := fun z : Int32 × (Nat → Int32) => ∀ j, j < 256 → z.2 j = strS s n j) (fun z : Int32 × (Nat → Int32) => ((256 : Int32).toInt - z.1.toInt).toNat) ?_ _ _ ⟨0, Nat.zero_le _, rfl, fun j hj => absurd hj (Nat.not_lt_zero j), fun j _ hj => h00 j hj⟩ (Nat.lt_succ_self _)
  rintro ⟨i, a⟩ ⟨k, hk, rfl, h1, h2⟩
  have h1 : ∀ j, j < k → a j = strS s n j := h1
  have h2 : ∀ j, k ≤ j → j < 256 → a j = 0 := h2
  show Sum.elim _ _ (f_X3_findStrengths_st w v (nI k) a)
  unfold f_X3_findStrengths_st f_X6_everybody
  rw [h.1, hN.1, evb_nI n (by omega)]
  have hend : 2 ^ n ≤ k → ∀ j, j < 256 → a j = strS s n j := by
    intro hkk j hj
    rcases Nat.lt_or_ge j k with z | z
    · exact h1 j z
    · rw [h2 j z hj]; unfold strS; rw [if_neg (by omega)]
  by_cases hb : nI (2 ^ n - 1) < nI k
  · rw [if_pos hb]
    have := (nI_ltI (by omega) (by omega)).mp hb
    exact hend (by omega)
  · rw [if_neg hb]
    have hkn : k < 2 ^ n := by
      rcases Nat.lt_or_ge k (2 ^ n) with z | z
      · exact z
      · exact absurd (nI_lt (show 2 ^ n - 1 < k by omega) (by omega)) hb
    have hb2 : ¬ (256 : Int32) ≤ nI k := nI_ge (b := 256) (by omega) (by decide)
    rw [if_neg hb2, rAt_nI (by omega) (by decide), hy k (by omega)]
    have hup : ∀ x : Int32, x = strS s n k → (∃ k', k' ≤ 2 ^ n ∧ nI k + 1 = nI k' ∧ (∀ j, j < k' → rPut 256 a (nI k) x j = strS s n j) ∧ ∀ j, k' ≤ j → j < 256 → rPut 256 a (nI k) x j = 0) := by
      intro x hx
      rw [rPut_nI (by omega) (by decide)]
      refine ⟨k + 1, hkn, nI_1 k, fun j hj => ?_, fun j hj hj2 => ?_⟩
      · by_cases hjk : j = k
        · rw [hjk, upd_eq]; exact hx
        · rw [upd_ne hjk]; exact h1 j (by omega)
      · rw [upd_ne (by omega)]; exact h2 j (by omega) hj2
    rcases fb_why h hN hL (j := k) (by omega) with ⟨f1, f2⟩ | ⟨i, hi, f1, f2⟩
    · rw [if_pos f1]
      refine ⟨hup _ ?_, mu_up hb2⟩
      unfold strS
      rw [if_pos hkn, if_pos f2, weight_eq h hN]
    · have hne : ∀ i : Nat, i < 4 → ¬ nI i = -1 := by decide
      have hr := hN.2.2.2
      rw [if_neg (by rw [f1]; exact hne i (by omega))]
      refine ⟨hup _ ?_, mu_up hb2⟩
      unfold strS
      have hne2 : ∀ i : Nat, i < 4 → ¬ nI (2 + i) = 0 := by decide
      rw [if_pos hkn, if_neg (by rw [f2]; exact hne2 i (by omega))]
end WINS
