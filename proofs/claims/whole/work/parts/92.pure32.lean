/-! part 92: the first fault of a text -/
def gd (t : Nat) (y : Nat → Int32) : Nat → Nat → Prop
  | 0, _ => True
  | n + 1, p => ∀ u, f_X8_skips (nI t) (nI p) y = nI u → u < t → ∃ p' c a b2, rdC t y u p' c a b2 ∧ gd t y n p'
def ffF (t : Nat) (b : Nat → Int32) (P F G : Int32) (C : Nat) : (Int32 × Int32 × Int32 × Int32 × Int32 × Nat) → (Int32 × Int32 × Int32 × Int32 × Int32 × Nat) ⊕ (Int32 × Int32 × Int32 × Int32 × Int32 × Nat) := fun x => f_X2_findFault_st (nI t, P, F, G, C, b) x.1 x.2.1 x.2.2.1 x.2.2.2.1 x.2.2.2.2.1 x.2.2.2.2.2
def faF (t : Nat) (y : Nat → Int32) : (Int32 × Int32 × Int32 × (Nat → Int32)) → (Int32 × Int32 × Int32 × (Nat → Int32)) ⊕ (Int32 × Int32 × Int32 × (Nat → Int32)) := fun x => f_X8_fault_st (nI t) y x.1 x.2.1 x.2.2.1 x.2.2.2
section FAULT
variable {b y : Nat → Int32} {t : Nat} {u p i : Nat}
theorem has_eq (h : txE b y t) (hp : p < 1000) (hu : f_X8_skips (nI t) (nI p) y = nI u) (hu2 : u ≤ t) (f g : Int32) (cm : Nat) : f_X2_hasCommand (nI t, nI p, f, g, cm, b) = (if t ≤ u then 0 else 1, nI u) := by
  have ht := h.1
  unfold f_X2_hasCommand
  rw [skip_eq h hp, hu, my_l_eq]
  dsimp only
  by_cases z : t ≤ u
  · rw [if_pos (nI_le z (by omega)), if_pos z]
  · rw [if_neg (nI_ge (by omega) (by omega)), if_neg z]
theorem ff_stop (h : txE b y t) (hp : p ≤ t) (hu : f_X8_skips (nI t) (nI p) y = nI u) (hu2 : u ≤ t) (hi : i ≤ 150) (hs : 150 ≤ i ∨ t ≤ u) (P F G f g : Int32) (C cm : Nat) : ∃ z, ffF t b P F G C (-1, nI i, nI p, f, g, cm) = .inr (-1, z) := by
  have ht := h.1
  unfold ffF f_X2_findFault_st
  dsimp only
  by_cases q : 150 ≤ i
  · rw [if_pos (show (150 : Int32) ≤ nI i from nI_le (a := 150) q (by omega))]
    exact ⟨_, rfl⟩
  · have hq : t ≤ u := hs.resolve_left q
    rw [if_neg (show ¬ (150 : Int32) ≤ nI i from nI_ge (b := 150) (by omega) (by decide)), if_pos rfl, has_eq h (by omega) hu hu2, if_pos hq, my_b_eq, if_pos rfl]
    exact ⟨_, rfl⟩
theorem ff_go (h : txE b y t) (hp : p ≤ t) (hu : f_X8_skips (nI t) (nI p) y = nI u) (hu2 : u < t) (hi : i < 150) (P F G f g : Int32) (C cm : Nat) : ffF t b P F G C (-1, nI i, nI p, f, g, cm) = .inl ((f_X2_readCommand (nI t, nI u, f, g, cm, b)).1, nI (i + 1), (f_X2_readCommand (nI t, nI u, f, g, cm, b)).2) := by
  have ht := h.1
  unfold ffF f_X2_findFault_st
  dsimp only
  rw [if_neg (show ¬ (150 : Int32) ≤ nI i from nI_ge (b := 150) (by omega) (by decide)), if_pos rfl, has_eq h (by omega) hu (by omega), if_neg (by omega), my_b_eq, if_neg (by decide), my_b_eq, nI_1]
theorem ff_bad {q : Nat} (hq : q < 1000) (P F G : Int32) (C : Nat) (i : Int32) (z : Int32 × Int32 × Int32 × Nat) : ffF t b P F G C (nI q, i, z) = .inr (nI q, i, z) := by
  unfold ffF f_X2_findFault_st
  dsimp only
  have : ¬ nI q = -1 := fun e => by
    have e1 := congrArg Int32.toInt e
    rw [nI_toInt (by omega), show (-1 : Int32).toInt = -1 by decide] at e1
    omega
  rw [if_neg this]
  split <;> rfl
theorem fa_stop (ht : t ≤ 150) (hu : t ≤ u) (hu2 : u < 1000) (m : Int32) (rd : Nat → Int32) : faF t y (1, nI u, m, rd) = .inr (1, nI u, m, rd) := by
  unfold faF f_X8_fault_st
  dsimp only
  rw [if_neg (by decide), if_pos (nI_le hu (by omega))]
theorem fa_go (ht : t ≤ 150) (hu : u < t) (m : Int32) (rd : Nat → Int32) : faF t y (1, nI u, m, rd) = .inl (f_X8_reads (nI t) (nI u) y rd) := by
  unfold faF f_X8_fault_st
  dsimp only
  rw [if_neg (by decide), if_neg (nI_ge hu (by omega)), my_b_eq]
theorem fa_bad (z : Int32 × Int32 × (Nat → Int32)) : faF t y (0, z) = .inr (0, z) := by
  unfold faF f_X8_fault_st
  dsimp only
  rw [if_pos rfl]
theorem skips_uniq {u' : Nat} (hu : f_X8_skips (nI t) (nI p) y = nI u) (hu' : f_X8_skips (nI t) (nI p) y = nI u') (h1 : u < 2 ^ 31) (h2 : u' < 2 ^ 31) : u = u' := (nI_eq h1 h2).mp (hu.symm.trans hu')
theorem gd_stop (hu : f_X8_skips (nI t) (nI p) y = nI u) (hu1 : u < 1000) (ht : t ≤ 150) (h : t ≤ u) : ∀ j, gd t y j p
  | 0 => trivial
  | j + 1 => fun u' hu' hlt => by
    have := skips_uniq hu hu' (by omega) (by omega)
    omega
theorem ff_all (h : txE b y t) (P F G : Int32) (C : Nat) : ∀ (k p i u n n' : Nat) (f g : Int32) (cm : Nat) (m : Int32) (rd : Nat → Int32), t - p < k → p ≤ t → i ≤ p → f_X8_skips (nI t) (nI p) y = nI u → u ≤ t → 150 - i < n → t - u + 1 < n' →
    ((lp (ffF t b P F G C) default n (-1, nI i, nI p, f, g, cm)).1 = -1 ∧ (lp (faF t y) default n' (1, nI u, m, rd)).1 = 1 ∧ ∀ j, gd t y j p) ∨
    ∃ q, q ≤ t ∧ (lp (ffF t b P F G C) default n (-1, nI i, nI p, f, g, cm)).1 = nI q ∧ (lp (faF t y) default n' (1, nI u, m, rd)).1 = 0 ∧ (lp (faF t y) default n' (1, nI u, m, rd)).2.1 = nI q
  | 0, _, _, _, _, _, _, _, _, _, _ => fun hk => absurd hk (Nat.not_lt_zero _)
  | k + 1, p, i, u, n, n', f, g, cm, m, rd => by
    intro hk hp hi hu u2 hn hn'
    have ht := h.1
    obtain ⟨_, u1, _, u3⟩ := skips_nI (y := y) hp ht
    obtain rfl := skips_uniq hu u3 (by omega) (by omega)
    obtain ⟨n, rfl⟩ : ∃ x, n = x + 1 := ⟨n - 1, by omega⟩
    obtain ⟨n', rfl⟩ : ∃ x, n' = x + 1 := ⟨n' - 1, by omega⟩
    by_cases z : t ≤ u
    · obtain ⟨w, hw⟩ := ff_stop (i := i) h hp hu u2 (by omega) (Or.inr z) P F G f g C cm
      refine Or.inl ⟨?_, ?_, gd_stop hu (by omega) ht z⟩
      · rw [lpR hw]
      · rw [lpR (fa_stop ht z (by omega) m rd)]
    · rw [lpL (ff_go h hp hu (by omega) (by omega) P F G f g C cm), lpL (fa_go ht (by omega) m rd)]
      rcases read_or (y := y) ht (u := u) u2 with ⟨p', c, a, b2, hC⟩ | ⟨q, hq⟩
      · obtain ⟨c1, c2, c3, c4, c5⟩ := hC
        obtain ⟨rd', r1, r2, r3⟩ := c5 rd
        obtain ⟨u', v1, v2, v3⟩ := skips_nI (y := y) c2 ht
        rw [c4 b f g cm h, r1, v3]
        rcases ff_all h P F G C k p' (i + 1) u' n n' a b2 c (nI c) rd' (by omega) c2 (by omega) v3 v2 (by omega) (by omega) with ⟨A1, A2, A3⟩ | B
        · refine Or.inl ⟨A1, A2, fun j => ?_⟩
          cases j with
          | zero => trivial
          | succ j =>
            intro u9 hu9 hlt
            have e9 := skips_uniq hu hu9 (by omega) (by omega)
            subst e9
            exact ⟨p', c, a, b2, ⟨c1, c2, c3, c4, c5⟩, A3 j⟩
        · exact Or.inr B
      · obtain ⟨q1, q2, q3⟩ := hq
        obtain ⟨m', rd', r1⟩ := q3 rd
        obtain ⟨n, rfl⟩ : ∃ x, n = x + 1 := ⟨n - 1, by omega⟩
        obtain ⟨n', rfl⟩ : ∃ x, n' = x + 1 := ⟨n' - 1, by omega⟩
        refine Or.inr ⟨q, q1, ?_⟩
        rw [q2 b f g cm h, r1, lpR (ff_bad (b := b) (t := t) (by omega) P F G C _ _), lpR (fa_bad (t := t) (y := y) _)]
        exact ⟨rfl, rfl, rfl⟩
theorem skips_n0 (ht : t ≤ 150) : ∃ u, u ≤ t ∧ f_X8_skips (nI t) 0 y = nI u := by
  obtain ⟨u, _, u2, u3⟩ := skips_nI (y := y) (p := 0) (Nat.zero_le t) ht
  exact ⟨u, u2, u3⟩
/-- the fault of a text is the same -/
theorem fault_or (h : txE b y t) (P F G : Int32) (C : Nat) (m : Int32) (rd : Nat → Int32) :
    ((f_X2_findFault (nI t, P, F, G, C, b)).1 = -1 ∧ (f_X8_fault (nI t) m y rd).1 = -1 ∧ ∀ j, gd t y j 0) ∨ ∃ q, q ≤ t ∧ (f_X2_findFault (nI t, P, F, G, C, b)).1 = nI q ∧ (f_X8_fault (nI t) m y rd).1 = nI q := by
  have ht := h.1
  obtain ⟨u, u1, u2⟩ := skips_n0 (y := y) ht
  have key := ff_all h P F G C (t + 1) 0 0 u 151 (ft_mu (nI t) 1 (nI u) + 1) F G C m rd (by omega) (Nat.zero_le t) (Nat.le_refl 0) u2 u1 (by omega) (by
    unfold ft_mu
    rw [if_neg (by decide), nI_toInt (by omega), nI_toInt (by omega)]; omega)
  have e1 : (f_X2_findFault (nI t, P, F, G, C, b)).1 = (lp (ffF t b P F G C) default 151 (-1, nI 0, nI 0, F, G, C)).1 := rfl
  have e2 : f_X8_fault (nI t) m y rd = (if (lp (faF t y) default (ft_mu (nI t) 1 (nI u) + 1) (1, nI u, m, rd)).1 = 0 then ((lp (faF t y) default (ft_mu (nI t) 1 (nI u) + 1) (1, nI u, m, rd)).2.1, (lp (faF t y) default (ft_mu (nI t) 1 (nI u) + 1) (1, nI u, m, rd)).2) else (-1, (lp (faF t y) default (ft_mu (nI t) 1 (nI u) + 1) (1, nI u, m, rd)).2)) := by
    unfold f_X8_fault
    rw [u2, my_l_eq]
    rfl
  rw [e1, e2]
  generalize lp (ffF t b P F G C) default 151 (-1, nI 0, nI 0, F, G, C) = A at key
  generalize lp (faF t y) default (ft_mu (nI t) 1 (nI u) + 1) (1, nI u, m, rd) = B at key
  rcases key with ⟨k1, k2, k3⟩ | ⟨q, k1, k2, k3, k4⟩
  · refine Or.inl ⟨k1, ?_, k3⟩
    rw [if_neg (by rw [k2]; decide)]
  · refine Or.inr ⟨q, k1, k2, ?_⟩
    rw [if_pos k3, k4]
end FAULT
