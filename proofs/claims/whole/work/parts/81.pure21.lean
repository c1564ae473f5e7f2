/-! part 81: the reference's order; pivots -/
theorem mt_has (x : Nat) {b : Nat} : ∀ i, (mt x i).testBit b = true → ∃ t, t < i ∧ dg x t = b + 1
  | 0, h => by rw [show mt x 0 = 0 from rfl, Nat.zero_testBit] at h; exact absurd h (by decide)
  | i + 1, h => by
    rw [mt_s] at h
    by_cases hd : 1 ≤ dg x i ∧ dg x i ≤ 8
    · rw [if_pos hd, Nat.testBit_or, Bool.or_eq_true, Nat.testBit_two_pow, decide_eq_true_iff] at h
      rcases h with z | z
      · obtain ⟨t, ht, e⟩ := mt_has x i z
        exact ⟨t, Nat.lt_succ_of_lt ht, e⟩
      · exact ⟨i, Nat.lt_succ_self i, by omega⟩
    · rw [if_neg hd] at h
      obtain ⟨t, ht, e⟩ := mt_has x i h
      exact ⟨t, Nat.lt_succ_of_lt ht, e⟩
section PIV
variable {v : SetV} {s : Nat → Int32} {n r : Nat} {w : PowV} {st y4 : Int32} {y10 : Nat → Int32} {q : Int32} {W : Nat → Bool}
theorem dgt : ∀ d : Nat, d < 10 → ((nI d - 1 < 0 ∧ d = 0) ∨ (¬ nI d - 1 < 0 ∧ 8 ≤ nI d - 1 ∧ d = 9) ∨ (¬ nI d - 1 < 0 ∧ ¬ 8 ≤ nI d - 1 ∧ nI d - 1 = nI (d - 1) ∧ 1 ≤ d ∧ d ≤ 8)) := by decide
theorem ord_loop {p c x : Nat} (hc : c ≤ 8) (hx : x < 2 ^ 31) (y : Nat → Int32) : ∃ (k : Int32) (row : Nat → Int32), lp (fun (z : Int32 × Int32 × Int32 × (Nat → Int32)) => f_X8_isOrder_st z.1 z.2.1 z.2.2.1 z.2.2.2) default (((nI c - 1).toInt + 1).toNat + 1) (nI x, 0, nI c - 1, y) = (nI (x / 10 ^ c), nI (mt x c), k, row) ∧ ∀ t, t < c → row (c - 1 - t) = nI (dg x t) - 1 := by
  refine lp_inm (I := fun z : Int32 × Int32 × Int32 × (Nat → Int32) => ∃ t row, t ≤ c ∧ z = (nI (x / 10 ^ t), nI (mt x t), nI (c - t) - 1, row) ∧ ∀ t', t' < t → row (c - 1 - t') = nI (dg x t') - 1) (Q := fun z : Int32 × Int32 × Int32 × (Nat → Int32) => ∃ (k : Int32) (row : Nat → Int32), z = (nI (x / 10 ^ c), nI (mt x c), k, row) ∧ ∀ t, t < c → row (c - 1 - t) = nI (dg x t) - 1) (fun z : Int32 × Int32 × Int32 × (Nat → Int32) => (z.2.2.1.toInt + 1).toNat) ?_ _ _ ⟨0, y, Nat.zero_le _, by rw [Nat.pow_zero, Nat.div_one]; rfl, fun t ht => absurd ht (Nat.not_lt_zero t)⟩ (Nat.lt_succ_self _)
  rintro z ⟨t, row, ht, rfl, hr⟩
  have hdl : x / 10 ^ t < 2 ^ 31 := Nat.lt_of_le_of_lt (Nat.div_le_self _ _) hx
  obtain ⟨q1, q2⟩ := dig32 hdl
  have hdd : x / 10 ^ t % 10 = dg x t := rfl
  have hd10 : dg x t < 10 := Nat.mod_lt _ (by decide)
  have hml := mt_lt x t
  show Sum.elim _ _ (f_X8_isOrder_st (nI (x / 10 ^ t)) (nI (mt x t)) (nI (c - t) - 1) row)
  unfold f_X8_isOrder_st
  by_cases hct : c - t = 0
  · have e : t = c := by omega
    subst e
    rw [if_pos ((dgz _ (by omega)).mpr hct)]
    exact ⟨_, row, rfl, hr⟩
  · have hk : nI (c - t) - 1 = nI (c - 1 - t) := by
      rw [dgs _ (by omega) hct, show c - t - 1 = c - 1 - t by omega]
    have hk2 : nI (c - (t + 1)) - 1 = nI (c - 1 - t) + (-1) := by
      rw [show c - 1 - t = c - (t + 1) by omega]; exact Int32.sub_eq_add_neg _ _
    rw [if_neg (fun e => hct ((dgz _ (by omega)).mp e)), hk, upd_eq, q2, q1, hdd, d10, nI_clamp (by omega), Int32.or_zero, ← hk2]
    have hmu : ((nI (c - (t + 1)) - 1).toInt + 1).toNat < ((nI (c - 1 - t)).toInt + 1).toNat := by
      rw [hk2]; exact mu_dn (nI_pos (by omega))
    have hrow : ∀ t', t' < t + 1 → upd row (c - 1 - t) (nI (dg x t) - 1) (c - 1 - t') = nI (dg x t') - 1 := by
      intro t' ht'
      by_cases e : t' = t
      · rw [e, upd_eq]
      · rw [upd_ne (by omega)]; exact hr t' (by omega)
    rcases dgt _ hd10 with ⟨a1, a2⟩ | ⟨a1, a2, a3⟩ | ⟨a1, a2, a3, a4, a5⟩
    · rw [if_pos a1]
      exact ⟨⟨t + 1, _, by omega, by rw [mt_s, if_neg (by omega)], hrow⟩, hmu⟩
    · rw [if_neg a1, if_pos a2]
      exact ⟨⟨t + 1, _, by omega, by rw [mt_s, if_neg (by omega)], hrow⟩, hmu⟩
    · have hpw : (2 : Nat) ^ (dg x t - 1) < 2 ^ 8 := Nat.pow_lt_pow_right (by decide) (by omega)
      have hset : (nI (mt x t) ||| (1 <<< ((nI (dg x t) - 1) &&& 31))) = nI (mt x (t + 1)) := by
        rw [a3, shl_nI _ (by omega), or_nI (by omega) (by omega), mt_s, if_pos ⟨a4, a5⟩]
      rw [if_neg a1, if_neg a2, hset]
      exact ⟨⟨t + 1, _, by omega, rfl, hrow⟩, hmu⟩
theorem order_r {p x : Nat} (hp : p < 256) (hx : x < 2 ^ 31) (y : Nat → Int32) : ∃ rr row, f_X8_isOrder (nI p) y (nI x) = (rr, row) ∧ (acc x p (cb p) → rr = 1 ∧ ∀ t, t < cb p → row (cb p - 1 - t) = nI (dg x t) - 1) ∧ (¬ acc x p (cb p) → rr = 0) := by
  have hc : cb p ≤ 8 := cN_max _ 8
  obtain ⟨k, row, e, hr⟩ := ord_loop (p := p) (x := x) hc hx y
  have hon : f_X8_ones (nI p) = nI (cb p) := ones_cN p hp
  have hml := mt_lt x (cb p)
  have hdl : x / 10 ^ (cb p) < 2 ^ 31 := Nat.lt_of_le_of_lt (Nat.div_le_self _ _) hx
  unfold f_X8_isOrder
  rw [hon, e, my_t4_eq, if_neg (nI_pos hx)]
  by_cases h1 : x / 10 ^ (cb p) = 0
  · rw [if_pos (by rw [h1]; rfl)]
    by_cases h2 : mt x (cb p) = p
    · rw [if_pos (by rw [h2])]
      exact ⟨1, row, rfl, fun _ => ⟨rfl, hr⟩, fun z => absurd ⟨h1, h2⟩ z⟩
    · rw [if_neg (fun z => h2 ((nI_eq (by omega) (by omega)).mp z))]
      exact ⟨0, row, rfl, fun z => absurd z.2 h2, fun _ => rfl⟩
  · rw [if_neg (show ¬ nI (x / 10 ^ (cb p)) = 0 from fun z => h1 ((nI_eq (b := 0) hdl (by decide)).mp z))]
    exact ⟨0, row, rfl, fun z => absurd z.1 h1, fun _ => rfl⟩
theorem order_neg {a x : Int32} (y : Nat → Int32) (h : x < 0) : (f_X8_isOrder a y x).1 = 0 := by
  unfold f_X8_isOrder
  refine my_t4_inv (fun _ _ _ _ => True) (fun z : Int32 × (Nat → Int32) => z.1 = 0) trivial ?_
  intro _ _ _ _ _
  rw [if_pos h]
/-- the players from the t-th digit on, counted from the end -/
def cs (x : Nat) (p : Nat) : Nat → Nat := fun t => fd (fun t m => clr m (dg x t - 1)) t p
theorem cs_s (x p t : Nat) : cs x p (t + 1) = clr (cs x p t) (dg x t - 1) := rfl
theorem cs_lt {x p : Nat} (hp : p < 256) : ∀ t, cs x p t < 256
  | 0 => hp
  | t + 1 => clr_lt (cs_lt hp t)
theorem new_inj {x c : Nat} (h : ∀ t, t < c → new x t) {t t' : Nat} (h1 : t < t') (h2 : t' < c) : ¬ dg x t = dg x t' := by
  intro e
  obtain ⟨a1, a2, a3⟩ := h t' h2
  have := mt_bit x (t := t) (i := t') ⟨by omega, by omega⟩ h1
  rw [e, a3] at this
  exact absurd this (by decide)
theorem cs_bit {x p c : Nat} (hp : p < 256) (hm : mt x c = p) (h : ∀ t, t < c → new x t) : ∀ t, t ≤ c → ∀ b, b < 8 → ((cs x p t).testBit b = true ↔ ∃ t', t ≤ t' ∧ t' < c ∧ dg x t' = b + 1)
  | 0, _, b, _ => by
    show p.testBit b = true ↔ _
    rw [← hm]
    constructor
    · intro z
      obtain ⟨t, ht, e⟩ := mt_has x c z
      exact ⟨t, Nat.zero_le _, ht, e⟩
    · rintro ⟨t, _, ht, e⟩
      obtain ⟨a1, a2, _⟩ := h t ht
      have := mt_bit x (t := t) (i := c) ⟨a1, a2⟩ ht
      rw [e] at this
      exact this
  | t + 1, ht, b, hb => by
    have ih := cs_bit hp hm h t (by omega) b hb
    obtain ⟨a1, a2, _⟩ := h t ht
    rw [cs_s, clr_bit _ (by omega) _ (cs_lt hp t) _ hb, Bool.and_eq_true, ih]
    constructor
    · rintro ⟨⟨t', e1, e2, e3⟩, e4⟩
      refine ⟨t', ?_, e2, e3⟩
      rcases Nat.lt_or_ge t t' with z | z
      · exact z
      · have e5 : t' = t := by omega
        subst e5
        have : (b == dg x t' - 1) = true := beq_iff_eq.mpr (by omega)
        rw [this] at e4; exact absurd e4 (by decide)
    · rintro ⟨t', e1, e2, e3⟩
      refine ⟨⟨t', by omega, e2, e3⟩, ?_⟩
      have : (b == dg x t - 1) = false := beq_eq_false_iff_ne.mpr (fun z => new_inj h (show t < t' by omega) e2 (by omega))
      rw [this]; rfl
theorem cs_end {x p c : Nat} (hp : p < 256) (hm : mt x c = p) (h : ∀ t, t < c → new x t) : cs x p c = 0 := by
  refine bits_eq (cs_lt hp c) (by decide) (fun b hb => ?_)
  rw [Nat.zero_testBit]
  cases hz : (cs x p c).testBit b
  · rfl
  · obtain ⟨t', e1, e2, _⟩ := (cs_bit hp hm h c (Nat.le_refl c) b hb).mp hz
    omega
theorem cs_sub {x p c : Nat} (hp : p < 256) (hm : mt x c = p) (h : ∀ t, t < c → new x t) {t t' : Nat} (ht : t ≤ t') (htc : t' ≤ c) : ∀ b, b < 8 → (cs x p t').testBit b = true → (cs x p t).testBit b = true := by
  intro b hb hz
  obtain ⟨u, e1, e2, e3⟩ := (cs_bit hp hm h t' htc b hb).mp hz
  exact (cs_bit hp hm h t (by omega) b hb).mpr ⟨u, by omega, e2, e3⟩
theorem wn_mono (hN : okN s n r) (hL : okL s n) (hW : okW s n) (hR : okR s r) {x y : Nat} (hx : x < 256) (hy : y < 256) (hs : ∀ m, m < 8 → x.testBit m = true → y.testBit m = true) (hyp : subB (plN s n) y = true) (h : wnB s n q x = true) : wnB s n q y = true := by
  unfold wnB at h ⊢
  rw [Bool.and_eq_true, decide_eq_true_iff] at h ⊢
  exact ⟨hyp, why_mono hN hL hW hR hx hy hs h.2⟩
theorem wn_0 (hN : okN s n r) (hL : okL s n) (hW : okW s n) {c : Nat} (hq : q = nI c) (h1 : 1 ≤ c) (h2 : c < 2 ^ 31) : wnB s n q 0 = false := by
  have h8 := hN.2.1
  unfold wnB
  have : ¬ f_X8_why s (nI 0) q = 0 := by
    rw [why_def hN hL (by decide), yes_0 h8, weight_nI hN hW (by decide)]
    have e : wtN s 0 n = 0 := by
      have key : ∀ k : Nat, wtN s 0 k = 0 := by
        intro k
        induction k with
        | zero => rfl
        | succ k ih => rw [wtN_s, Nat.zero_testBit, if_neg (by decide), ih]
      exact key n
    rw [e, hq, if_neg (nI_ge h1 h2)]; decide
  rw [decide_eq_false this, Bool.and_false]
def pvQ (W : Nat → Bool) (x p c : Nat) (b : Int32) : Prop := (b = -1 ∧ W p = false) ∨ ∃ t, t < c ∧ b = nI (dg x t) - 1 ∧ W (cs x p t) = true ∧ W (cs x p (t + 1)) = false
theorem pvQ_uniq {x p c : Nat} {W : Nat → Bool} (hmono : ∀ t t', t ≤ t' → t' ≤ c → W (cs x p t') = true → W (cs x p t) = true) {a b : Int32} (ha : pvQ W x p c a) (hb : pvQ W x p c b) : a = b := by
  rcases ha with ⟨a1, a2⟩ | ⟨t, t1, t2, t3, t4⟩
  · rcases hb with ⟨b1, b2⟩ | ⟨u, u1, u2, u3, u4⟩
    · rw [a1, b1]
    · have := hmono 0 u (Nat.zero_le _) (by omega) u3
      rw [show cs x p 0 = p from rfl, a2] at this
      exact absurd this (by decide)
  · rcases hb with ⟨b1, b2⟩ | ⟨u, u1, u2, u3, u4⟩
    · have := hmono 0 t (Nat.zero_le _) (by omega) t3
      rw [show cs x p 0 = p from rfl, b2] at this
      exact absurd this (by decide)
    · rcases Nat.lt_trichotomy t u with z | z | z
      · have := hmono (t + 1) u z (by omega) u3
        rw [t4] at this; exact absurd this (by decide)
      · subst z; rw [t2, u2]
      · have := hmono (u + 1) t z (by omega) t3
        rw [u4] at this; exact absurd this (by decide)
theorem piv_c (hN : okN s n r) (hL : okL s n) (hW : okW s n) {c : Nat} (h1 : 1 ≤ c) (h2 : c < 2 ^ 31) (hq : q = nI c) (hM : MI s n q (wnB s n q) 256 w) {x : Nat} (hx : x < 2 ^ 31) (ha : acc x (plN s n) (cb (plN s n))) : pvQ (wnB s n q) x (plN s n) (cb (plN s n)) (f_X3_pivotOf w (nI x)) := by
  have h8 := hN.2.1
  have hp := plN_lt (s := s) h8
  have hc8 : cb (plN s n) ≤ 8 := cN_max _ 8
  have hnew := mt_full x _ (by rw [ha.2])
  have hsubp : ∀ t, t ≤ cb (plN s n) → subB (plN s n) (cs x (plN s n) t) = true := fun t ht => (sub_bits hp (cs_lt hp t)).mpr (cs_sub hp ha.2 hnew (Nat.zero_le t) ht)
  have hwin : ∀ t, t ≤ cb (plN s n) → f_X3_isWinning w (nI (cs x (plN s n) t)) = bI (wnB s n q (cs x (plN s n) t)) := by
    intro t ht
    have hws := wn_str hN hL hW h1 h2 (cs_lt hp t) (hsubp t ht)
    unfold f_X3_isWinning
    rw [rAt_nI (cs_lt hp t) (by decide), hM.2.2.2.2.2.2.2.1 _ (cs_lt hp t), hM.2.1]
    rw [← hq] at hws
    by_cases z : strS s n (cs x (plN s n) t) < q
    · rw [if_pos z, hws.mp z]; rfl
    · rw [if_neg z]
      cases hz : wnB s n q (cs x (plN s n) t)
      · exact absurd (hws.mpr hz) z
      · rfl
  have hend : wnB s n q (cs x (plN s n) (cb (plN s n))) = false := by rw [cs_end hp ha.2 hnew]; exact wn_0 hN hL hW hq h1 h2
  unfold f_X3_pivotOf
  rw [hM.1]
  refine lp_inm (I := fun z : Int32 × Int32 × Int32 => ∃ t, t ≤ cb (plN s n) ∧ z = (nI (cs x (plN s n) t), nI (x / 10 ^ t), nI t) ∧ (wnB s n q (plN s n) = true → wnB s n q (cs x (plN s n) t) = true)) (Q := fun b : Int32 => pvQ (wnB s n q) x (plN s n) (cb (plN s n)) b) (fun z : Int32 × Int32 × Int32 => ((8 : Int32).toInt - z.2.2.toInt).toNat) ?_ _ _ ⟨0, Nat.zero_le _, by rw [Nat.pow_zero, Nat.div_one]; rfl, fun z => z⟩ (Nat.lt_succ_self _)
  rintro z ⟨t, ht, rfl, hw⟩
  have hdl : x / 10 ^ t < 2 ^ 31 := Nat.lt_of_le_of_lt (Nat.div_le_self _ _) hx
  obtain ⟨q1, q2⟩ := dig32 hdl
  have hdd : x / 10 ^ t % 10 = dg x t := rfl
  have hno : t = cb (plN s n) → pvQ (wnB s n q) x (plN s n) (cb (plN s n)) (-1) := by
    intro e
    refine Or.inl ⟨rfl, ?_⟩
    cases hz : wnB s n q (plN s n)
    · rfl
    · have := hw hz
      rw [e, hend] at this; exact absurd this (by decide)
  show Sum.elim _ _ (f_X3_pivotOf_st w (nI (cs x (plN s n) t)) (nI (x / 10 ^ t)) (nI t))
  unfold f_X3_pivotOf_st
  by_cases ht8 : (8 : Int32) ≤ nI t
  · rw [if_pos ht8]
    have := (nI_leI (a := 8) (by decide) (by omega)).mp ht8
    exact hno (by omega)
  · rw [if_neg ht8]
    by_cases hz : x / 10 ^ t = 0
    · rw [if_pos (by rw [hz]; decide)]
      refine hno ?_
      rcases Nat.lt_or_ge t (cb (plN s n)) with z | z
      · exact absurd hz (dg_pos (hnew t z).1)
      · omega
    · have htc : t < cb (plN s n) := by
        rcases Nat.lt_or_ge t (cb (plN s n)) with z | z
        · exact z
        · exact absurd (div_le10 z ha.1) hz
      obtain ⟨a1, a2, a3⟩ := hnew t htc
      have hd := dgs (dg x t) (by omega) (by omega)
      rw [if_neg (nI_nle (Nat.pos_of_ne_zero hz) hdl), q2, q1, hdd, d10, hd, if_pos (nI_pos' (by omega)), clr_nI _ (by omega) _ (cs_lt hp t), ← cs_s, hwin t ht, hwin (t + 1) htc, nI_1]
      have hmu : ((8 : Int32).toInt - (nI (t + 1)).toInt).toNat < ((8 : Int32).toInt - (nI t).toInt).toNat := by rw [← nI_1]; exact mu_up ht8
      cases hw1 : wnB s n q (cs x (plN s n) t)
      · rw [if_pos bI_f]
        refine ⟨⟨t + 1, htc, rfl, fun z => ?_⟩, hmu⟩
        have := hw z
        rw [hw1] at this; exact absurd this (by decide)
      · rw [if_neg (show ¬ bI true = 0 by decide)]
        cases hw2 : wnB s n q (cs x (plN s n) (t + 1))
        · rw [if_pos bI_f]
          exact Or.inr ⟨t, htc, hd.symm, hw1, hw2⟩
        · rw [if_neg (show ¬ bI true = 0 by decide)]
          exact ⟨⟨t + 1, htc, rfl, fun _ => hw2⟩, hmu⟩
end PIV
