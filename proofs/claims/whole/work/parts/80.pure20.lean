/-! part 80: orders and their pivots -/
def dg (x t : Nat) : Nat := x / 10 ^ t % 10
def mt (x : Nat) : Nat → Nat := fun i => fd (fun t m => if 1 ≤ dg x t ∧ dg x t ≤ 8 then m ||| 2 ^ (dg x t - 1) else m) i 0
theorem mt_s (x i : Nat) : mt x (i + 1) = if 1 ≤ dg x i ∧ dg x i ≤ 8 then mt x i ||| 2 ^ (dg x i - 1) else mt x i := rfl
theorem mt_lt (x : Nat) : ∀ i, mt x i < 256
  | 0 => (by decide : (0 : Nat) < 256)
  | i + 1 => by
    have h := mt_lt x i
    rw [mt_s]
    split
    · exact or_lt h (by omega)
    · exact h
def cb (m : Nat) : Nat := cN m.testBit 8
set_option maxRecDepth 100000 in
theorem cb_or : ∀ b, b < 8 → ∀ m, m < 256 → cb (m ||| 2 ^ b) = if m.testBit b then cb m else cb m + 1 := by decide +kernel
theorem mt_cb (x : Nat) : ∀ i, cb (mt x i) ≤ i
  | 0 => (by decide : cb 0 ≤ 0)
  | i + 1 => by
    have h := mt_cb x i
    rw [mt_s]
    split
    · rw [cb_or _ (by omega) _ (mt_lt x i)]
      split <;> omega
    · omega
/-- every digit up to here is a new player's -/
def new (x t : Nat) : Prop := 1 ≤ dg x t ∧ dg x t ≤ 8 ∧ (mt x t).testBit (dg x t - 1) = false
theorem mt_full (x : Nat) : ∀ i, cb (mt x i) = i → ∀ t, t < i → new x t
  | 0, _, t, ht => absurd ht (Nat.not_lt_zero t)
  | i + 1, h, t, ht => by
    have hi := mt_cb x i
    rw [mt_s] at h
    by_cases hd : 1 ≤ dg x i ∧ dg x i ≤ 8
    · rw [if_pos hd, cb_or _ (by omega) _ (mt_lt x i)] at h
      cases hb : (mt x i).testBit (dg x i - 1)
      · rw [hb, if_neg (by decide)] at h
        rcases Nat.lt_or_ge t i with z | z
        · exact mt_full x i (by omega) t z
        · have e : t = i := by omega
          subst e; exact ⟨hd.1, hd.2, hb⟩
      · rw [hb, if_pos rfl] at h; omega
    · rw [if_neg hd] at h; omega
theorem mt_new (x : Nat) : ∀ i, (∀ t, t < i → new x t) → cb (mt x i) = i
  | 0, _ => (by decide : cb 0 = 0)
  | i + 1, h => by
    have h1 := mt_new x i (fun t ht => h t (Nat.lt_succ_of_lt ht))
    obtain ⟨a, b, c⟩ := h i (Nat.lt_succ_self i)
    rw [mt_s, if_pos ⟨a, b⟩, cb_or _ (by omega) _ (mt_lt x i), c, if_neg (by decide), h1]
theorem mt_sub (x : Nat) {i b : Nat} (h : (mt x i).testBit b = true) : ∀ d, (mt x (i + d)).testBit b = true
  | 0 => h
  | d + 1 => by
    have h1 := mt_sub x h d
    show (mt x (i + d + 1)).testBit b = true
    rw [mt_s]
    split
    · rw [Nat.testBit_or, h1]; rfl
    · exact h1
theorem mt_bit (x : Nat) {t i : Nat} (hd : 1 ≤ dg x t ∧ dg x t ≤ 8) (ht : t < i) : (mt x i).testBit (dg x t - 1) = true := by
  have h : (mt x (t + 1)).testBit (dg x t - 1) = true := by
    rw [mt_s, if_pos hd, Nat.testBit_or, Nat.testBit_two_pow_self, Bool.or_true]
  have := mt_sub x h (i - (t + 1))
  rw [show t + 1 + (i - (t + 1)) = i by omega] at this
  exact this
def acc (x p n : Nat) : Prop := x / 10 ^ n = 0 ∧ mt x n = p
theorem dg_pos {x t : Nat} (h : 1 ≤ dg x t) : ¬ x / 10 ^ t = 0 := fun e => by unfold dg at h; rw [e] at h; exact absurd h (by decide)
theorem div_le10 {x : Nat} {i j : Nat} (h : i ≤ j) (hz : x / 10 ^ i = 0) : x / 10 ^ j = 0 := by
  obtain ⟨d, rfl⟩ : ∃ d, j = i + d := ⟨j - i, by omega⟩
  rw [Nat.pow_add, ← Nat.div_div_eq_div_mul, hz, Nat.zero_div]
theorem dig32 {k : Nat} (hk : k < 2 ^ 31) : nI k / 10 = nI (k / 10) ∧ (nI k - nI k / 10 * 10) - 1 = nI (k % 10) - 1 := by
  have h1 : nI k / 10 = nI (k / 10) := by
    apply Int32.toInt_inj.mp
    rw [Int32.toInt_div_of_ne_right _ _ (by decide), nI_toInt hk, show (10 : Int32).toInt = 10 by decide, Int.tdiv_eq_ediv_of_nonneg (by omega), nI_toInt (by omega)]
    omega
  refine ⟨h1, ?_⟩
  rw [h1]
  have h2 : nI (k / 10) * 10 = nI (k / 10 * 10) := by
    apply Int32.toInt_inj.mp
    rw [Int32.toInt_mul, nI_toInt (by omega), nI_toInt (by omega), show (10 : Int32).toInt = 10 by decide]
    show Int.bmod _ 4294967296 = _
    rw [Int.bmod_eq_of_le (by omega) (by omega)]
    omega
  have h3 : nI k - nI (k / 10 * 10) = nI (k % 10) := by
    have := nI_add (k % 10) (k / 10 * 10)
    rw [show k % 10 + k / 10 * 10 = k by omega] at this
    rw [← this, Int32.add_sub_cancel]
  rw [h2, h3]
theorem d10 {x i : Nat} : x / 10 ^ i / 10 = x / 10 ^ (i + 1) := by rw [Nat.pow_succ, Nat.div_div_eq_div_mul]
section ORD
variable {v : SetV} {s : Nat → Int32} {n r : Nat} {w : PowV} {st y4 : Int32} {y10 : Nat → Int32} {q : Int32} {W : Nat → Bool}
theorem cb_pl (h8 : n ≤ 8) : ∃ c, cb (plN s n) = c ∧ c ≤ 8 ∧ f_X8_ones (nI (plN s n)) = nI c := ⟨_, rfl, cN_max _ 8, ones_cN _ (plN_lt h8)⟩
theorem dgz : ∀ d : Nat, d < 10 → ((nI d - 1 < 0) ↔ d = 0) := by decide
theorem dgs : ∀ d : Nat, d < 10 → ¬ d = 0 → nI d - 1 = nI (d - 1) := by decide
theorem cb_le {a b : Nat} (h : ∀ m, m < 8 → a.testBit m = true → b.testBit m = true) : cb a ≤ cb b := cN_le h
theorem order_c (hv : eqS v s (s 1)) (hN : okN s n r) {x : Nat} (hx : x < 2 ^ 31) : (f_X6_faultOfOrder v (nI x) = 0 ∧ acc x (plN s n) (cb (plN s n))) ∨ (f_X6_faultOfOrder v (nI x) = 2 ∧ ¬ acc x (plN s n) (cb (plN s n))) := by
  have h8 := hN.2.1
  have hp := plN_lt (s := s) h8
  generalize hP : plN s n = p at hp ⊢
  unfold f_X6_faultOfOrder
  rw [if_pos (show (0 : Int32) ≤ nI x from nI_pos' hx), players_eq hv hN, players_nI hN, hP]
  have hno : ∀ i, (∀ t, t < i → new x t ∧ p.testBit (dg x t - 1) = true) → (∀ b, b < 8 → (mt x i).testBit b = true → p.testBit b = true) := by
    intro i
    induction i with
    | zero => intro _ b _ hb; rw [show mt x 0 = 0 from rfl, Nat.zero_testBit] at hb; exact absurd hb (by decide)
    | succ i ih =>
      intro h b hb8 hb
      rw [mt_s] at hb
      obtain ⟨⟨a1, a2, _⟩, a4⟩ := h i (Nat.lt_succ_self i)
      rw [if_pos ⟨a1, a2⟩, Nat.testBit_or, Bool.or_eq_true, Nat.testBit_two_pow, decide_eq_true_iff] at hb
      rcases hb with z | z
      · exact ih (fun t ht => h t (Nat.lt_succ_of_lt ht)) b hb8 z
      · subst z; exact a4
  refine lp_inm (I := fun z : Int32 × Int32 × Int32 => ∃ i m, z = (nI m, nI (x / 10 ^ i), nI i) ∧ i ≤ 8 ∧ m < 256 ∧ (∀ b, b < 8 → m.testBit b = (p.testBit b && !(mt x i).testBit b)) ∧ (∀ t, t < i → new x t ∧ p.testBit (dg x t - 1) = true)) (Q := fun b : Int32 => (b = 0 ∧ acc x p (cb p)) ∨ (b = 2 ∧ ¬ acc x p (cb p))) (fun z : Int32 × Int32 × Int32 => ((10 : Int32).toInt - z.2.2.toInt).toNat) ?_ _ _ ⟨0, p, by rw [Nat.pow_zero, Nat.div_one]; rfl, Nat.zero_le _, hp, fun b _ => by rw [show mt x 0 = 0 from rfl, Nat.zero_testBit]; cases p.testBit b <;> rfl, fun t ht => absurd ht (Nat.not_lt_zero t)⟩ (Nat.lt_succ_self _)
  rintro z ⟨i, m, rfl, hi, hm, hb, hg⟩
  have hcb := mt_new x i (fun t ht => (hg t ht).1)
  have hcp : i ≤ cb p := by
    rw [← hcb]
    exact cb_le (hno i hg)
  have hdl : x / 10 ^ i < 2 ^ 31 := Nat.lt_of_le_of_lt (Nat.div_le_self _ _) hx
  obtain ⟨q1, q2⟩ := dig32 hdl
  have hdd : x / 10 ^ i % 10 = dg x i := rfl
  show Sum.elim _ _ (f_X6_faultOfOrder_st (nI m) (nI (x / 10 ^ i)) (nI i))
  unfold f_X6_faultOfOrder_st
  rw [if_neg (show ¬ (10 : Int32) ≤ nI i from nI_ge (b := 10) (by omega) (by decide)), q2, q1, hdd, d10]
  by_cases hz : x / 10 ^ i = 0
  · rw [if_pos (by rw [hz]; decide)]
    by_cases hm0 : m = 0
    · subst hm0
      rw [if_pos (show nI 0 = 0 from rfl)]
      have hpm : mt x i = p := bits_eq (mt_lt x i) hp (fun b hb8 => by
        have := hb b hb8
        rw [Nat.zero_testBit] at this
        cases h1 : p.testBit b
        · cases h2 : (mt x i).testBit b
          · rfl
          · have := hno i hg b hb8 h2; rw [h1] at this; exact absurd this (by decide)
        · cases h2 : (mt x i).testBit b
          · rw [h1, h2] at this; exact absurd this (by decide)
          · rfl)
      have hin : i = cb p := by rw [← hcb, hpm]
      exact Or.inl ⟨rfl, by unfold acc; rw [← hin]; exact ⟨hz, hpm⟩⟩
    · rw [if_neg (show ¬ nI m = 0 from fun e => hm0 ((nI_eq (b := 0) (by omega) (by decide)).mp e))]
      refine Or.inr ⟨rfl, fun ⟨a1, a2⟩ => hm0 ?_⟩
      have hfull := mt_full x (cb p) (by rw [a2])
      have hin : i = cb p := by
        rcases Nat.lt_or_ge i (cb p) with z | z
        · exact absurd hz (dg_pos (hfull i z).1)
        · omega
      refine bits_eq hm (by decide) (fun b hb8 => ?_)
      rw [hb b hb8, hin, a2, Nat.zero_testBit]
      cases p.testBit b <;> rfl
  · rw [if_neg (nI_nle (Nat.pos_of_ne_zero hz) hdl)]
    have hd10 : dg x i < 10 := Nat.mod_lt _ (by decide)
    have hlt : acc x p (cb p) → i < cb p := fun ⟨a1, _⟩ => by
      rcases Nat.lt_or_ge i (cb p) with z | z
      · exact z
      · exact absurd (div_le10 z a1) hz
    by_cases h0 : dg x i = 0
    · rw [if_pos ((dgz _ hd10).mpr h0)]
      refine Or.inr ⟨rfl, fun ha => ?_⟩
      have := (mt_full x (cb p) (by rw [ha.2]) i (hlt ha)).1
      omega
    · rw [if_neg (fun e => h0 ((dgz _ hd10).mp e)), dgs _ hd10 h0, con_has]
      by_cases h9 : dg x i ≤ 8
      · rw [has_nI _ (by omega) _ hm, hb _ (by omega)]
        cases hpb : p.testBit (dg x i - 1)
        · rw [Bool.false_and, if_pos (by decide)]
          refine Or.inr ⟨rfl, fun ha => ?_⟩
          have := mt_bit x (t := i) (i := cb p) ⟨by omega, h9⟩ (hlt ha)
          rw [ha.2, hpb] at this; exact absurd this (by decide)
        · cases hmb : (mt x i).testBit (dg x i - 1)
          · rw [if_neg (by decide), clr_nI _ (by omega) _ hm, nI_1]
            refine ⟨⟨i + 1, clr m (dg x i - 1), rfl, ?_, clr_lt hm, fun b hb8 => ?_, fun t ht => ?_⟩, ?_⟩
            · have hcb2 := mt_new x (i + 1) (fun t ht => by
                rcases Nat.lt_or_ge t i with z | z
                · exact (hg t z).1
                · have e : t = i := by omega
                  subst e; exact ⟨by omega, h9, hmb⟩)
              have := cN_max (mt x (i + 1)).testBit 8
              unfold cb at hcb2
              omega
            · rw [clr_bit _ (by omega) _ hm _ hb8, hb b hb8, mt_s, if_pos ⟨by omega, h9⟩, Nat.testBit_or, Nat.testBit_two_pow]
              by_cases e : dg x i - 1 = b
              · subst e
                rw [beq_self_eq_true, decide_eq_true rfl]
                cases p.testBit (dg x i - 1) <;> cases (mt x i).testBit (dg x i - 1) <;> rfl
              · rw [decide_eq_false e, show (b == dg x i - 1) = false from beq_eq_false_iff_ne.mpr (fun z => e z.symm)]
                cases p.testBit b <;> cases (mt x i).testBit b <;> rfl
            · rcases Nat.lt_or_ge t i with z | z
              · exact hg t z
              · have e : t = i := by omega
                subst e; exact ⟨⟨by omega, h9, hmb⟩, hpb⟩
            · show ((10 : Int32).toInt - (nI (i + 1)).toInt).toNat < _
              rw [← nI_1]
              exact mu_up (show ¬ (10 : Int32) ≤ nI i from nI_ge (b := 10) (by omega) (by decide))
          · rw [if_pos (by decide)]
            refine Or.inr ⟨rfl, fun ha => ?_⟩
            have := (mt_full x (cb p) (by rw [ha.2]) i (hlt ha)).2.2
            rw [hmb] at this; exact absurd this (by decide)
      · have hh : ∀ m, m < 256 → f_X8_has (nI m) (nI 8) = 0 := by decide +kernel
        rw [show dg x i - 1 = 8 by omega, hh m hm, if_pos rfl]
        refine Or.inr ⟨rfl, fun ha => ?_⟩
        have := (mt_full x (cb p) (by rw [ha.2]) i (hlt ha)).2.1
        omega
end ORD
