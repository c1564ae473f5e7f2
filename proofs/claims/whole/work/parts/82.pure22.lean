/-! part 82: pivot -/
section PIV2
variable {v : SetV} {s : Nat → Int32} {n r : Nat} {w : PowV} {st y4 : Int32} {y10 : Nat → Int32} {q : Int32} {W : Nat → Bool}
theorem cs_or {x p c : Nat} (hp : p < 256) (hm : mt x c = p) (h : ∀ t, t < c → new x t) {t : Nat} (ht : t < c) : cs x p t = cs x p (t + 1) ||| 2 ^ (dg x t - 1) := by
  obtain ⟨a1, a2, _⟩ := h t ht
  refine bits_eq (cs_lt hp t) (or_lt (cs_lt hp (t + 1)) (by omega)) (fun b hb => ?_)
  rw [Bool.eq_iff_iff, Nat.testBit_or, Bool.or_eq_true, cs_bit hp hm h t (by omega) b hb, cs_bit hp hm h (t + 1) ht b hb, Nat.testBit_two_pow, decide_eq_true_iff]
  constructor
  · rintro ⟨t', e1, e2, e3⟩
    rcases Nat.lt_or_ge t t' with z | z
    · exact Or.inl ⟨t', z, e2, e3⟩
    · have e : t' = t := by omega
      subst e; exact Or.inr (by omega)
  · rintro (⟨t', e1, e2, e3⟩ | e)
    · exact ⟨t', by omega, e2, e3⟩
    · exact ⟨t, Nat.le_refl t, ht, by omega⟩
theorem piv_r {u : Int32 × (Nat → Int32)} {row : Nat → Int32} {x p c : Nat} (hp : p < 256) (hc : c ≤ 8) (hon : f_X8_ones u.1 = nI c) (hm : mt x c = p) (h : ∀ t, t < c → new x t) (hy : ∀ j, j < 256 → u.2 j = bI (W j)) (h0 : W 0 = false) (hrow : ∀ t, t < c → row (c - 1 - t) = nI (dg x t) - 1) :
    ∃ a, lp (fun (z : Int32 × Int32) => f_X8_pivot_st u row z.1 z.2) default ((((f_X8_ones u.1) : Int32).toInt - (0 : Int32).toInt).toNat + 1) (0, 0) = (a, (0, u.1, u.2, row)) ∧ pvQ W x p c a := by
  have hend := cs_end hp hm h
  refine lp_inm (I := fun z : Int32 × Int32 => ∃ k, k ≤ c ∧ z = (nI (cs x p (c - k)), nI k) ∧ W (cs x p (c - k)) = false) (Q := fun b : Int32 × (Int32 × Int32 × (Nat → Int32) × (Nat → Int32)) => ∃ a, b = (a, (0, u.1, u.2, row)) ∧ pvQ W x p c a) (fun z : Int32 × Int32 => ((f_X8_ones u.1).toInt - z.2.toInt).toNat) ?_ _ _ ⟨0, Nat.zero_le _, by rw [Nat.sub_zero, hend]; rfl, by rw [Nat.sub_zero, hend]; exact h0⟩ (Nat.lt_succ_self _)
  rintro z ⟨k, hk, rfl, hw⟩
  show Sum.elim _ _ (f_X8_pivot_st u row (nI (cs x p (c - k))) (nI k))
  unfold f_X8_pivot_st
  by_cases hb : (f_X8_ones u.1) ≤ nI k
  · rw [if_pos hb]
    rw [hon] at hb
    have hkc := (nI_leI (by omega) (by omega)).mp hb
    refine ⟨-1, rfl, Or.inl ⟨rfl, ?_⟩⟩
    rw [show c - k = 0 by omega] at hw
    exact hw
  · rw [if_neg hb]
    have hkc : k < c := by
      rw [hon] at hb
      rcases Nat.lt_or_ge k c with z | z
      · exact z
      · exact absurd (nI_le z (by omega)) hb
    obtain ⟨a1, a2, a3⟩ := h (c - 1 - k) (by omega)
    have hr := hrow (c - 1 - k) (by omega)
    rw [show c - 1 - (c - 1 - k) = k by omega] at hr
    have hd := dgs (dg x (c - 1 - k)) (by omega) (by omega)
    have ho := cs_or hp hm h (show c - 1 - k < c by omega)
    rw [show c - 1 - k + 1 = c - k by omega] at ho
    have hpw : (2 : Nat) ^ (dg x (c - 1 - k) - 1) < 2 ^ 8 := Nat.pow_lt_pow_right (by decide) (by omega)
    have hcl := cs_lt (x := x) hp (c - k)
    have hset : (nI (cs x p (c - k)) ||| (1 <<< ((row (nI k).toNatClampNeg) &&& 31))) = nI (cs x p (c - 1 - k)) := by
      rw [nI_clamp (by omega), hr, hd, shl_nI _ (by omega), or_nI (by omega) (by omega), ← ho]
    rw [hset, yv hy (cs_lt hp _), nI_clamp (by omega), hr]
    cases hw2 : W (cs x p (c - 1 - k))
    · rw [if_pos bI_f]
      refine ⟨⟨k + 1, hkc, ?_, ?_⟩, mu_up hb⟩
      · rw [nI_1, show c - (k + 1) = c - 1 - k by omega]
      · rw [show c - (k + 1) = c - 1 - k by omega]; exact hw2
    · rw [if_neg (show ¬ bI true = 0 by decide)]
      exact ⟨_, rfl, Or.inr ⟨c - 1 - k, by omega, rfl, hw2, by rw [show c - 1 - k + 1 = c - k by omega]; exact hw⟩⟩
theorem R_pivot (hv : eqS v s (s 1)) (hg : GS s) (hp : pwr st s w) (hb : bl y10) (y11 : Nat → Int32) (x0 : Int32) :
    (∃ p, f_X7_pivot st v w x0 = .inl 2 ∧ f_X8_pivot s y10 y11 x0 = (0, (1, p)) ∧ bl p.2.1) ∨
    (∃ a u p, f_X7_pivot st v w x0 = .inr (a, u) ∧ f_X8_pivot s y10 y11 x0 = (a, (0, p)) ∧ pwr u.1 s u.2 ∧ bl p.2.1) := by
  have hm := measured_ok hv hg hp
  have hpm := pwr_m hv hg hp
  obtain ⟨n, r, c, hN, hL, hW, hR, hq, hq1, hq2⟩ := hg
  have h8 := hN.2.1
  have hpl := plN_lt (s := s) h8
  have hM := hm.2 rfl n r hN
  have hl := lays_W hN y10 (s 1)
  have hbl := lays_z (s := s) hb (s 1)
  unfold f_X7_pivot f_X8_pivot
  rw [my_l_eq (f_X8_lays s y10 (s 1))]
  by_cases hneg : x0 < 0
  · have hf : f_X6_faultOfOrder v x0 = 2 := by
      unfold f_X6_faultOfOrder
      rw [if_neg (Int32.not_le.mpr hneg)]
    have hr := order_neg (a := (f_X8_lays s y10 (s 1)).1) y11 hneg
    rw [hf, rf_bad (Or.inr (Or.inl rfl))]
    generalize f_X8_isOrder (f_X8_lays s y10 (s 1)).1 y11 x0 = z at hr ⊢
    obtain ⟨z1, z2⟩ := z
    have hr : z1 = 0 := hr
    rw [my_b_eq, if_pos hr]
    exact Or.inl ⟨_, rfl, rfl, hbl⟩
  · obtain ⟨x, hx, rfl⟩ := nI_of hneg
    have ho := order_c hv hN hx
    obtain ⟨rr, row, e, e1, e2⟩ := order_r (p := plN s n) (x := x) hpl hx y11
    rw [hl.1, e, my_b_eq]
    rcases ho with ⟨f1, f2⟩ | ⟨f1, f2⟩
    · obtain ⟨g1, g2⟩ := e1 f2
      rw [f1, rf_fine, g1, if_neg (by decide), ← hl.1]
      have hnew := mt_full x _ (by rw [f2.2])
      have hon : f_X8_ones (f_X8_lays s y10 (s 1)).1 = nI (cb (plN s n)) := by rw [hl.1]; exact ones_cN _ hpl
      obtain ⟨a, k1, k2⟩ := piv_r (u := f_X8_lays s y10 (s 1)) (row := row) hpl (cN_max _ 8) hon f2.2 hnew hl.2 (wn_0 hN hL hW hq hq1 (by omega)) g2
      have hc := piv_c hN hL hW hq1 (by omega) hq hM hx f2
      have hmono : ∀ t t', t ≤ t' → t' ≤ cb (plN s n) → wnB s n (s 1) (cs x (plN s n) t') = true → wnB s n (s 1) (cs x (plN s n) t) = true := by
        intro t t' h1 h2 h3
        refine wn_mono hN hL hW hR (cs_lt hpl t') (cs_lt hpl t) (cs_sub hpl f2.2 hnew h1 h2) ?_ h3
        exact (sub_bits hpl (cs_lt hpl t)).mpr (cs_sub hpl f2.2 hnew (Nat.zero_le t) (by omega))
      have hae := pvQ_uniq hmono hc k2
      rw [k1]
      refine Or.inr ⟨a, f_X7_measured st v w, _, ?_, rfl, hpm, hbl⟩
      show (.inr (f_X3_pivotOf (f_X7_measured st v w).2 (nI x), f_X7_measured st v w) : Int32 ⊕ (Int32 × (Int32 × PowV))) = _
      rw [hae]
    · rw [f1, e2 f2, rf_bad (Or.inr (Or.inl rfl)), if_pos rfl]
      exact Or.inl ⟨_, rfl, rfl, hbl⟩
end PIV2
