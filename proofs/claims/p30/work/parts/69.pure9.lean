/-! part 69 -/
def slt (s0 s1 s2 s3 : SetV) (k : Nat) : SetV := if k = 0 then s0 else if k = 1 then s1 else if k = 2 then s2 else s3
def pst (y : Nat → Int32) (i : Nat) : Nat → Int32 := fun j => y (27 * i + j)
def GS (s : Nat → Int32) : Prop := ∃ n r c : Nat, okN s n r ∧ okL s n ∧ okW s n ∧ okR s r ∧ s 1 = nI c ∧ 1 ≤ c ∧ c ≤ 400
theorem eqS_of {v : SetV} {s t : Nat → Int32} {q : Int32} (h : ∀ j, j < 27 → t j = s j) (hv : eqS v s q) : eqS v t q := by
  obtain ⟨h0, h1, h2, h3, h4, h5, h6⟩ := hv
  exact ⟨h0.trans (h 0 (by decide)).symm, h1, h2.trans (h 2 (by decide)).symm, fun j hj => (h3 j hj).trans (h _ (by omega)).symm, fun j hj => (h4 j hj).trans (h _ (by omega)).symm, fun j hj => (h5 j hj).trans (h _ (by omega)).symm, fun j hj => (h6 j hj).trans (h _ (by omega)).symm⟩
theorem GS_of {s t : Nat → Int32} (h : ∀ j, j < 27 → t j = s j) (hs : GS s) : GS t := by
  obtain ⟨n, r, c, ⟨a1, a2, a3, a4⟩, hL, hW, hR, b1, b2, b3⟩ := hs
  refine ⟨n, r, c, ⟨(h 0 (by decide)).trans a1, a2, (h 2 (by decide)).trans a3, a4⟩, fun m hm => ?_, fun m hm => ?_, fun i hi => ?_, (h 1 (by decide)).trans b1, b2, b3⟩
  · rw [h (11 + m) (by omega)]
    rcases hL m hm with z | ⟨p, z1, z2, z3⟩
    · exact Or.inl z
    · exact Or.inr ⟨p, z1, z2, by rw [h (11 + p) (by omega)]; exact z3⟩
  · rw [h (3 + m) (by omega)]; exact hW m hm
  · rw [h (19 + i) (by omega), h (23 + i) (by omega)]; exact hR i hi
def ring (z : Int32 × Int32) (s0 s1 s2 s3 : SetV) (y0 : Int32) (y : Nat → Int32) : Prop := ∃ c x : Nat, c ≤ 4 ∧ x < 4 ∧ z = (nI c, nI x) ∧ y0 = nI c ∧ ∀ i, i < c → eqS (slt s0 s1 s2 s3 ((x + 4 - c + i) % 4)) (pst y i) (pst y i 1) ∧ GS (pst y i)
theorem keep_eq (v s0 s1 s2 s3 : SetV) {c x : Nat} (hc : c ≤ 4) (hx : x < 4) : ∃ t0 t1 t2 t3 : SetV, f_X5_keep (nI c, nI x) v s0 s1 s2 s3 = ((nI (min (c + 1) 4), nI ((x + 1) % 4)), t0, t1, t2, t3) ∧ ∀ k, k < 4 → slt t0 t1 t2 t3 k = if k = x then f_X6_copyFrom (slt s0 s1 s2 s3 x) v else slt s0 s1 s2 s3 k := by
  have e1 : ∀ c : Nat, c ≤ 4 → my_min (nI c + 1) 4 = nI (min (c + 1) 4) := by decide
  have e2 : ∀ x : Nat, x < 4 → (nI x + 1) - (nI x + 1) / 4 * 4 = nI ((x + 1) % 4) := by decide
  have hk : ∀ k : Nat, k < 4 → k = 0 ∨ k = 1 ∨ k = 2 ∨ k = 3 := by intro k _; omega
  have h1 := e1 c hc
  have h2 := e2 x hx
  rcases hk x hx with rfl | rfl | rfl | rfl
  · refine ⟨f_X6_copyFrom s0 v, s1, s2, s3, ?_, ?_⟩
    · unfold f_X5_keep
      dsimp only
      rw [if_neg (by decide), if_neg (by decide), if_pos (by decide)]
      show ((my_min (nI c + 1) 4, (nI 0 + 1) - (nI 0 + 1) / 4 * 4), _) = _
      rw [h1, h2]
    · intro k hk4
      rcases hk k hk4 with rfl | rfl | rfl | rfl <;> rfl
  · refine ⟨s0, f_X6_copyFrom s1 v, s2, s3, ?_, ?_⟩
    · unfold f_X5_keep
      dsimp only
      rw [if_neg (by decide), if_neg (by decide), if_neg (by decide), if_pos (by decide)]
      show ((my_min (nI c + 1) 4, (nI 1 + 1) - (nI 1 + 1) / 4 * 4), _) = _
      rw [h1, h2]
    · intro k hk4
      rcases hk k hk4 with rfl | rfl | rfl | rfl <;> rfl
  · refine ⟨s0, s1, f_X6_copyFrom s2 v, s3, ?_, ?_⟩
    · unfold f_X5_keep
      dsimp only
      rw [if_neg (by decide), if_neg (by decide), if_neg (by decide), if_neg (by decide), if_pos (by decide)]
      show ((my_min (nI c + 1) 4, (nI 2 + 1) - (nI 2 + 1) / 4 * 4), _) = _
      rw [h1, h2]
    · intro k hk4
      rcases hk k hk4 with rfl | rfl | rfl | rfl <;> rfl
  · refine ⟨s0, s1, s2, f_X6_copyFrom s3 v, ?_, ?_⟩
    · unfold f_X5_keep
      dsimp only
      rw [if_neg (by decide), if_neg (by decide), if_neg (by decide), if_neg (by decide), if_neg (by decide)]
      show ((my_min (nI c + 1) 4, (nI 3 + 1) - (nI 3 + 1) / 4 * 4), _) = _
      rw [h1, h2]
    · intro k hk4
      rcases hk k hk4 with rfl | rfl | rfl | rfl <;> rfl
theorem i27 {c j : Nat} (hc : c < 4) (hj : j < 27) : (((27 : Int32) * nI c) + nI j).toNatClampNeg = 27 * c + j := by
  have h : ∀ c : Nat, c < 4 → (27 : Int32) * nI c = nI (27 * c) := by decide
  rw [h c hc, nI_add, nI_clamp (by omega)]
def stA (y0 : Int32) (s y : Nat → Int32) : Nat → Int32 := (lp (fun (x : Int32 × (Nat → Int32)) => f_X8_saves_st y0 s x.1 x.2) default (((27 : Int32).toInt - (0 : Int32).toInt).toNat + 1) (0, y)).2
theorem stA_nI (s y : Nat → Int32) {c : Nat} (hc : c < 4) : ∀ k, stA (nI c) s y k = if 27 * c ≤ k ∧ k < 27 * c + 27 then s (k - 27 * c) else y k := by
  unfold stA
  refine lp_inm (I := fun z : Int32 × (Nat → Int32) => ∃ i, i ≤ 27 ∧ z.1 = nI i ∧ ∀ k, z.2 k = if 27 * c ≤ k ∧ k < 27 * c + i then s (k - 27 * c) else y k) (Q := fun z : Int32 × (Nat → Int32) => ∀ k, z.2 k = if 27 * c ≤ k ∧ k < 27 * c + 27 then s (k - 27 * c) else y k) (fun z : Int32 × (Nat → Int32) => ((27 : Int32).toInt - z.1.toInt).toNat) ?_ _ _ ⟨0, Nat.zero_le _, rfl, fun k => by rw [if_neg (by omega)]⟩ (Nat.lt_succ_self _)
  rintro ⟨i, a⟩ ⟨i, hi, rfl, h1⟩
  have h1 : ∀ k, a k = if 27 * c ≤ k ∧ k < 27 * c + i then s (k - 27 * c) else y k := h1
  show Sum.elim _ _ (f_X8_saves_st (nI c) s (nI i) a)
  unfold f_X8_saves_st
  by_cases hb : (27 : Int32) ≤ nI i
  · rw [if_pos hb]
    have h27 : 27 ≤ i := (nI_leI (a := 27) (by decide) (by omega)).mp hb
    have e : i = 27 := by omega
    subst e; exact h1
  · rw [if_neg hb]
    have hi2 : i < 27 := by
      rcases Nat.lt_or_ge i 27 with z | z
      · exact z
      · exact absurd (nI_le z (by omega)) hb
    refine ⟨⟨i + 1, hi2, nI_1 i, fun k => ?_⟩, mu_up hb⟩
    show upd a (((27 : Int32) * nI c) + nI i).toNatClampNeg (s (nI i).toNatClampNeg) k = _
    rw [i27 hc hi2, nI_clamp (by omega)]
    by_cases hk : k = 27 * c + i
    · rw [hk, upd_eq, if_pos (by omega), show 27 * c + i - 27 * c = i by omega]
    · rw [upd_ne hk, h1 k]
      by_cases z : 27 * c ≤ k ∧ k < 27 * c + i
      · rw [if_pos z, if_pos (by omega)]
      · rw [if_neg z, if_neg (by omega)]
def shA (y : Nat → Int32) : Nat → Int32 := (lp (fun (x : Int32 × (Nat → Int32)) => f_X8_saves_st1 x.1 x.2) default (((81 : Int32).toInt - (0 : Int32).toInt).toNat + 1) (0, y)).2
theorem shA_nI (y : Nat → Int32) : ∀ k, k < 81 → shA y k = y (k + 27) := by
  unfold shA
  refine lp_inm (I := fun z : Int32 × (Nat → Int32) => ∃ i, i ≤ 81 ∧ z.1 = nI i ∧ (∀ k, k < i → z.2 k = y (k + 27)) ∧ ∀ k, i ≤ k → z.2 k = y k) (Q := fun z : Int32 × (Nat → Int32) => ∀ k, k < 81 → z.2 k = y (k + 27)) (fun z : Int32 × (Nat → Int32) => ((81 : Int32).toInt - z.1.toInt).toNat) ?_ _ _ ⟨0, Nat.zero_le _, rfl, fun k hk => absurd hk (Nat.not_lt_zero k), fun k _ => rfl⟩ (Nat.lt_succ_self _)
  rintro ⟨i, a⟩ ⟨i, hi, rfl, h1, h2⟩
  have h1 : ∀ k, k < i → a k = y (k + 27) := h1
  have h2 : ∀ k, i ≤ k → a k = y k := h2
  show Sum.elim _ _ (f_X8_saves_st1 (nI i) a)
  unfold f_X8_saves_st1
  by_cases hb : (81 : Int32) ≤ nI i
  · rw [if_pos hb]
    have h27 : 81 ≤ i := (nI_leI (a := 81) (by decide) (by omega)).mp hb
    exact fun k hk => h1 k (by omega)
  · rw [if_neg hb]
    have hi2 : i < 81 := by
      rcases Nat.lt_or_ge i 81 with z | z
      · exact z
      · exact absurd (nI_le z (by omega)) hb
    have e27 : (nI i + 27).toNatClampNeg = i + 27 := by
      show (nI i + nI 27).toNatClampNeg = _
      rw [nI_add, nI_clamp (by omega)]
    refine ⟨⟨i + 1, hi2, nI_1 i, fun k hk => ?_, fun k hk => ?_⟩, mu_up hb⟩
    · show upd a (nI i).toNatClampNeg (a (nI i + 27).toNatClampNeg) k = _
      rw [nI_clamp (by omega), e27, h2 (i + 27) (by omega)]
      by_cases hki : k = i
      · rw [hki, upd_eq]
      · rw [upd_ne hki]; exact h1 k (by omega)
    · show upd a (nI i).toNatClampNeg (a (nI i + 27).toNatClampNeg) k = _
      have hk : i + 1 ≤ k := hk
      rw [nI_clamp (by omega), upd_ne (by omega)]; exact h2 k (by omega)
theorem saves_lt (s y : Nat → Int32) {c : Nat} (hc : c < 4) : f_X8_saves (nI c) 0 s y = (nI (c + 1), stA (nI c) s y) := by
  have hne : ∀ c : Nat, c < 4 → ¬ nI c = 4 := by decide
  unfold f_X8_saves
  rw [if_pos rfl, if_neg (hne c hc), ← nI_1]
  rfl
theorem saves_4 (s y : Nat → Int32) : f_X8_saves (nI 4) 0 s y = (nI 4, stA (nI 3) s (shA y)) := rfl
theorem ring_keep {v s0 s1 s2 s3 : SetV} {z : Int32 × Int32} {y0 : Int32} {s y : Nat → Int32} (hv : eqS v s (s 1)) (hg : GS s) (h : ring z s0 s1 s2 s3 y0 y) :
    ring (f_X5_keep z v s0 s1 s2 s3).1 (f_X5_keep z v s0 s1 s2 s3).2.1 (f_X5_keep z v s0 s1 s2 s3).2.2.1 (f_X5_keep z v s0 s1 s2 s3).2.2.2.1 (f_X5_keep z v s0 s1 s2 s3).2.2.2.2 (f_X8_saves y0 0 s y).1 (f_X8_saves y0 0 s y).2 := by
  obtain ⟨c, x, hc, hx, rfl, rfl, hr⟩ := h
  obtain ⟨t0, t1, t2, t3, e, ht⟩ := keep_eq v s0 s1 s2 s3 hc hx
  rw [e]
  rcases Nat.lt_or_ge c 4 with hc4 | hc4
  · rw [saves_lt s y hc4]
    dsimp only
    refine ⟨c + 1, (x + 1) % 4, hc4, Nat.mod_lt _ (by decide), by show (nI (min (c + 1) 4), _) = _; rw [show min (c + 1) 4 = c + 1 by omega], rfl, fun i hi => ?_⟩
    rw [ht _ (Nat.mod_lt _ (by decide))]
    by_cases hic : i = c
    · subst hic
      have e2 : ∀ j, j < 27 → pst (stA (nI i) s y) i j = s j := by
        intro j hj
        show stA (nI i) s y (27 * i + j) = _
        rw [stA_nI s y hc4, if_pos (by omega), show 27 * i + j - 27 * i = j by omega]
      rw [if_pos (by omega), e2 1 (by decide)]
      exact ⟨eqS_of e2 (copyS _ _ hv), GS_of e2 hg⟩
    · have e2 : ∀ j, j < 27 → pst (stA (nI c) s y) i j = pst y i j := by
        intro j hj
        show stA (nI c) s y (27 * i + j) = _
        rw [stA_nI s y hc4, if_neg (by omega)]; rfl
      rw [if_neg (by omega), show ((x + 1) % 4 + 4 - (c + 1) + i) % 4 = (x + 4 - c + i) % 4 by omega, e2 1 (by decide)]
      have := hr i (by omega)
      exact ⟨eqS_of e2 this.1, GS_of e2 this.2⟩
  · have e4 : c = 4 := by omega
    subst e4
    rw [saves_4]
    dsimp only
    refine ⟨4, (x + 1) % 4, Nat.le_refl 4, Nat.mod_lt _ (by decide), rfl, rfl, fun i hi => ?_⟩
    rw [ht _ (Nat.mod_lt _ (by decide))]
    by_cases hic : i = 3
    · subst hic
      have e2 : ∀ j, j < 27 → pst (stA (nI 3) s (shA y)) 3 j = s j := by
        intro j hj
        show stA (nI 3) s (shA y) (27 * 3 + j) = _
        rw [stA_nI s _ (by decide), if_pos (by omega), show 27 * 3 + j - 27 * 3 = j by omega]
      rw [if_pos (by omega), e2 1 (by decide)]
      exact ⟨eqS_of e2 (copyS _ _ hv), GS_of e2 hg⟩
    · have e2 : ∀ j, j < 27 → pst (stA (nI 3) s (shA y)) i j = pst y (i + 1) j := by
        intro j hj
        show stA (nI 3) s (shA y) (27 * i + j) = y (27 * (i + 1) + j)
        rw [stA_nI s _ (by decide), if_neg (by omega), shA_nI y _ (by omega), show 27 * i + j + 27 = 27 * (i + 1) + j by omega]
      rw [if_neg (by omega), show ((x + 1) % 4 + 4 - 4 + i) % 4 = (x + 4 - 4 + (i + 1)) % 4 by omega, e2 1 (by decide)]
      have := hr (i + 1) (by omega)
      exact ⟨eqS_of e2 this.1, GS_of e2 this.2⟩
