/-! part 89: the numbers of a text -/
def dgS (t : Nat) (y : Nat → Int32) (u : Int32) (a w : Int32) : (Int32 × Int32) ⊕ (Int32 × Int32) := if f_X8_isAt (nI t) w y 48 57 = 0 then .inr (a, w) else if 3 ≤ w - u then .inr (a, w) else .inl (10 * a + y w.toNatClampNeg - 48, w + 1)
/-- value and end of the digits, at most three -/
def dgL (t : Nat) (y : Nat → Int32) (u : Nat) : Int32 × Int32 := lp (fun x : Int32 × Int32 => dgS t y (nI u) x.1 x.2) default (((nI t : Int32).toInt - (nI u : Int32).toInt).toNat + 1) (0, nI u)
theorem isDig (x : Int32) : f_X2_isDigit x = f_X8_in x 48 57 := rfl
section NUMS
variable {b y : Nat → Int32} {t : Nat} {f g : Int32} {cm : Nat}
theorem dgL_nI {u : Nat} (hu : u ≤ t) (ht : t ≤ 150) : ∃ w, u ≤ w ∧ w ≤ t ∧ w ≤ u + 3 ∧ (dgL t y u).2 = nI w ∧ (¬ f_X8_isAt (nI t) (nI w) y 48 57 = 0 → w = u + 3 ∧ w < t) := by
  unfold dgL
  refine lp_inm (I := fun x : Int32 × Int32 => ∃ w, u ≤ w ∧ w ≤ t ∧ w ≤ u + 3 ∧ x.2 = nI w) (Q := fun x : Int32 × Int32 => ∃ w, u ≤ w ∧ w ≤ t ∧ w ≤ u + 3 ∧ x.2 = nI w ∧ (¬ f_X8_isAt (nI t) (nI w) y 48 57 = 0 → w = u + 3 ∧ w < t)) (fun x : Int32 × Int32 => ((nI t).toInt - x.2.toInt).toNat) ?_ _ _ ⟨u, Nat.le_refl u, hu, by omega, rfl⟩ (Nat.lt_succ_self _)
  rintro ⟨a, x⟩ ⟨w, h1, h2, h3, h4⟩
  have h4 : x = nI w := h4
  subst h4
  show Sum.elim _ _ (dgS t y (nI u) a (nI w))
  unfold dgS
  by_cases z : f_X8_isAt (nI t) (nI w) y 48 57 = 0
  · rw [if_pos z]; exact ⟨w, h1, h2, h3, rfl, fun q => absurd z q⟩
  · rw [if_neg z, pk_sub h1]
    have hw : w < t := (nI_ltI (by omega) (by omega)).mp (ia_1 z)
    by_cases q : 3 ≤ w - u
    · rw [if_pos (show (3 : Int32) ≤ nI (w - u) from nI_le (a := 3) q (by omega))]
      exact ⟨w, h1, h2, h3, rfl, fun _ => ⟨by omega, hw⟩⟩
    · rw [if_neg (show ¬ (3 : Int32) ≤ nI (w - u) from nI_ge (b := 3) (by omega) (by decide))]
      exact ⟨⟨w + 1, by omega, by omega, by omega, nI_1 w⟩, mu_up (nI_ge hw (by omega))⟩
theorem isAt_ne (ht : t ≤ 150) {j : Nat} (hj : j < 2 ^ 31) (lo hi : Int32) : (f_X8_isAt (nI t) (nI j) y lo hi = 0) ↔ (t ≤ j ∨ f_X8_in (y j) lo hi = 0) := by
  rw [isAt_nI ht hj]
  by_cases z : t ≤ j
  · rw [if_pos z]; exact iff_of_true rfl (Or.inl z)
  · rw [if_neg z]
    by_cases z2 : f_X8_in (y j) lo hi = 0
    · rw [if_pos z2]; exact iff_of_true rfl (Or.inr z2)
    · rw [if_neg z2]; exact iff_of_false (by decide) (fun q => q.elim z z2)
theorem dg_class (h : txE b y t) {p u : Nat} (hu : u ≤ t) : lp (fun (x : Int32 × Int32) => f_X2_readNumber_st (nI t, nI p, f, g, cm, b) (nI u) x.1 x.2) default (((nI t : Int32).toInt - (nI u : Int32).toInt).toNat + 1) (0, nI u) = dgL t y u := by
  have ht := h.1
  unfold dgL
  refine lp_eq (f := fun (x : Int32 × Int32) => f_X2_readNumber_st (nI t, nI p, f, g, cm, b) (nI u) x.1 x.2) (g := fun x : Int32 × Int32 => dgS t y (nI u) x.1 x.2) (fun x => ∃ j : Nat, u ≤ j ∧ j ≤ t ∧ x.2 = nI j) ?_ _ _ ⟨u, Nat.le_refl u, hu, rfl⟩
  rintro ⟨a, x⟩ ⟨j, h1, h2, h4⟩
  have h4 : x = nI j := h4
  subst h4
  show f_X2_readNumber_st (nI t, nI p, f, g, cm, b) (nI u) a (nI j) = dgS t y (nI u) a (nI j) ∧ _
  unfold f_X2_readNumber_st dgS
  dsimp only
  rw [byte_nI h _ (by omega), isDig]
  by_cases z : t ≤ j
  · rw [if_pos (nI_le z (by omega)), if_pos ((isAt_ne ht (by omega) 48 57).mpr (Or.inl z))]
    exact ⟨rfl, fun _ e => by cases e⟩
  · rw [if_neg (nI_ge (by omega) (by omega)), if_neg z]
    by_cases z2 : f_X8_in (y j) 48 57 = 0
    · rw [if_pos z2, if_pos ((isAt_ne ht (by omega) 48 57).mpr (Or.inr z2))]
      refine ⟨?_, fun _ e => by cases e⟩
      split <;> rfl
    · rw [if_neg z2, if_neg (fun q => ((isAt_ne ht (by omega) 48 57).mp q).elim z z2), pk_sub h1, nI_clamp (by omega), show (nI u : Int32) + 3 = nI (u + 3) from nI_add u 3]
      by_cases q : u + 3 ≤ j
      · rw [if_pos (nI_le q (by omega)), if_pos (show (3 : Int32) ≤ nI (j - u) from nI_le (a := 3) (by omega) (by omega))]
        exact ⟨rfl, fun _ e => by cases e⟩
      · rw [if_neg (nI_ge (by omega) (by omega)), if_neg (show ¬ (3 : Int32) ≤ nI (j - u) from nI_ge (b := 3) (by omega) (by decide)), Int32.mul_comm a 10]
        exact ⟨rfl, fun _ e => by cases e; exact ⟨j + 1, by omega, by omega, nI_1 j⟩⟩
theorem dg_ref (ht : t ≤ 150) {u k : Nat} (hu : u ≤ t) (hk : k < 2) (rd : Nat → Int32) : lp (fun (x : Int32 × (Nat → Int32)) => f_X8_number_st (nI t) y (nI k) (nI u) x.1 x.2) default (((nI t : Int32).toInt - (nI u : Int32).toInt).toNat + 1) (nI u, upd rd k 0) = ((dgL t y u).2, upd rd k (dgL t y u).1) := by
  unfold dgL
  refine (lp_simm (f := fun x : Int32 × Int32 => dgS t y (nI u) x.1 x.2) (g := fun (x : Int32 × (Nat → Int32)) => f_X8_number_st (nI t) y (nI k) (nI u) x.1 x.2) (d := default) (d' := default) (fun x z => z = (x.2, upd rd k x.1) ∧ ∃ j : Nat, u ≤ j ∧ j ≤ t ∧ x.2 = nI j) (fun x z => z = (x.2, upd rd k x.1)) (fun x : Int32 × Int32 => ((nI t).toInt - x.2.toInt).toNat) ?_ _ _ _ ⟨rfl, u, Nat.le_refl u, hu, rfl⟩ (Nat.lt_succ_self _))
  rintro ⟨a, x⟩ z ⟨rfl, j, h1, h2, h4⟩
  have h4 : x = nI j := h4
  subst h4
  show (∃ x' y', dgS t y (nI u) a (nI j) = .inl x' ∧ f_X8_number_st (nI t) y (nI k) (nI u) (nI j) (upd rd k a) = .inl y' ∧ _ ∧ _) ∨ (∃ r r', dgS t y (nI u) a (nI j) = .inr r ∧ f_X8_number_st (nI t) y (nI k) (nI u) (nI j) (upd rd k a) = .inr r' ∧ _)
  unfold f_X8_number_st dgS
  by_cases z : f_X8_isAt (nI t) (nI j) y 48 57 = 0
  · rw [if_pos z, if_pos z]
    exact Or.inr ⟨_, _, rfl, rfl, rfl⟩
  · rw [if_neg z, if_neg z]
    have hw : j < t := (nI_ltI (by omega) (by omega)).mp (ia_1 z)
    by_cases q : (3 : Int32) ≤ nI j - nI u
    · rw [if_pos q, if_pos q]
      exact Or.inr ⟨_, _, rfl, rfl, rfl⟩
    · rw [if_neg q, if_neg q]
      refine Or.inl ⟨_, _, rfl, rfl, ⟨?_, j + 1, by omega, by omega, nI_1 j⟩, mu_up (nI_ge hw (by omega))⟩
      show (nI j + 1, upd (upd rd k a) (nI k).toNatClampNeg (10 * upd rd k a (nI k).toNatClampNeg + y (nI j).toNatClampNeg - 48)) = (nI j + 1, upd rd k (10 * a + y (nI j).toNatClampNeg - 48))
      rw [nI_clamp (n := k) (by omega), upd_eq, upd_upd]
/-- what a number of a text is for both -/
def nmE (t : Nat) (y : Nat → Int32) (k p w : Nat) : Prop := (∀ b f g cm, txE b y t → (f_X2_readNumber (nI t, nI p, f, g, cm, b) (nI k)).1 = 0 ∧ (f_X2_readNumber (nI t, nI p, f, g, cm, b) (nI k)).2.1 = nI w) ∧ ∀ rd, ∃ z, f_X8_number (nI t) (nI p) y rd (nI k) = (0, (nI w, z))
def nmD (t : Nat) (y : Nat → Int32) (k p w : Nat) : Prop := (¬ f_X8_isAt (nI t) (nI w) y 48 57 = 0) ∧ (∀ b f g cm, txE b y t → (f_X2_readNumber (nI t, nI p, f, g, cm, b) (nI k)).1 = 1 ∧ (f_X2_readNumber (nI t, nI p, f, g, cm, b) (nI k)).2.1 = nI w) ∧ ∀ rd, ∃ z, f_X8_number (nI t) (nI p) y rd (nI k) = (0, (nI w, z))
def nmC (t : Nat) (y : Nat → Int32) (k p w : Nat) (a : Int32) : Prop := p < w ∧ (∀ b f g cm, txE b y t → f_X2_readNumber (nI t, nI p, f, g, cm, b) (nI k) = (1, (nI w, if k = 0 then a else f, if k = 0 then g else a))) ∧ ∀ rd, f_X8_number (nI t) (nI p) y rd (nI k) = (1, (nI w, upd rd k a))
theorem k0_iff {k : Nat} (hk : k < 2) : (nI k = (0 : Int32)) ↔ k = 0 := nI_eq (b := 0) (by omega) (by decide)
theorem skips_0 {p : Nat} (h : f_X8_isAt (nI t) (nI p) y 32 32 = 0) : f_X8_skips (nI t) (nI p) y = nI p := by
  unfold f_X8_skips
  rw [my_l_eq, lp]
  have e : f_X8_skips_st (nI t) y (nI p) = .inr (nI p) := by unfold f_X8_skips_st; rw [if_pos h]
  rw [e]
theorem skips_1 (ht : t ≤ 150) {p : Nat} (hp : p ≤ t) (h : ¬ f_X8_isAt (nI t) (nI p) y 32 32 = 0) : ∃ u, p < u ∧ u ≤ t ∧ f_X8_skips (nI t) (nI p) y = nI u := by
  obtain ⟨u, u1, u2, u3⟩ := skips_nI (y := y) hp ht
  refine ⟨u, ?_, u2, u3⟩
  rcases Nat.lt_or_ge p u with z | z
  · exact z
  · have e : u = p := by omega
    subst e
    exfalso
    have hlt : u < t := (nI_ltI (by omega) (by omega)).mp (ia_1 h)
    have h3 := skips_stop hp ht u3 hlt
    refine h ((isAt_ne ht (by omega) 32 32).mpr (Or.inr ((in_eq1 _ _).mpr h3)))
theorem number_or (ht : t ≤ 150) {k p : Nat} (hp : p ≤ t) (hk : k < 2) : ∃ w a, p ≤ w ∧ w ≤ t ∧ (nmE t y k p w ∨ nmD t y k p w ∨ nmC t y k p w a) := by
  by_cases z : f_X8_isAt (nI t) (nI p) y 32 32 = 0
  · have hs := skips_0 z
    refine ⟨p, 0, Nat.le_refl p, hp, Or.inl ⟨fun b f g cm h => ?_, fun rd => ⟨rd, ?_⟩⟩⟩
    · unfold f_X2_readNumber
      rw [skip_eq h (by omega), hs]
      dsimp only
      rw [my_l_eq, if_pos rfl]
      exact ⟨rfl, rfl⟩
    · unfold f_X8_number
      rw [if_pos z]
  · obtain ⟨u, u1, u2, u3⟩ := skips_1 ht hp z
    obtain ⟨w, w1, w2, w3, w4, w5⟩ := dgL_nI (y := y) u2 ht
    have hC : ∀ b f g cm, txE b y t → f_X2_readNumber (nI t, nI p, f, g, cm, b) (nI k) = (if w ≤ u then 0 else 1, (nI w, if k = 0 then (dgL t y u).1 else f, if k = 0 then g else (dgL t y u).1)) := by
      intro b f g cm h
      unfold f_X2_readNumber
      rw [skip_eq h (by omega), u3, my_l_eq]
      dsimp only
      rw [if_neg (fun q => by have := (nI_eq (by omega) (by omega)).mp q; omega), dg_class h u2]
      rw [show dgL t y u = ((dgL t y u).1, nI w) from by rw [← w4], my_t2_eq]
      dsimp only
      by_cases k0 : k = 0
      · rw [if_pos ((k0_iff hk).mpr k0), if_pos k0, if_pos k0]
        by_cases q : w ≤ u
        · rw [if_pos q, if_pos (nI_le q (by omega))]
        · rw [if_neg q, if_neg (nI_ge (by omega) (by omega))]
      · rw [if_neg (fun q => k0 ((k0_iff hk).mp q)), if_neg k0, if_neg k0]
        by_cases q : w ≤ u
        · rw [if_pos q, if_pos (nI_le q (by omega))]
        · rw [if_neg q, if_neg (nI_ge (by omega) (by omega))]
    have hR : ∀ rd, f_X8_number (nI t) (nI p) y rd (nI k) = (if w ≤ u then 0 else if f_X8_isAt (nI t) (nI w) y 48 57 = 0 then 1 else 0, (nI w, upd rd k (dgL t y u).1)) := by
      intro rd
      unfold f_X8_number
      rw [if_neg z, u3, my_l_eq, nI_clamp (n := k) (by omega), dg_ref ht u2 hk, my_t2_eq, w4]
      by_cases q : w ≤ u
      · rw [if_pos q, if_pos (nI_le q (by omega))]
      · rw [if_neg q, if_neg (nI_ge (by omega) (by omega))]
        by_cases q2 : f_X8_isAt (nI t) (nI w) y 48 57 = 0
        · rw [if_pos q2, if_pos q2]
        · rw [if_neg q2, if_neg q2]
    by_cases q : w ≤ u
    · refine ⟨w, 0, by omega, w2, Or.inl ⟨fun b f g cm h => ?_, fun rd => ⟨upd rd k (dgL t y u).1, ?_⟩⟩⟩
      · rw [hC b f g cm h, if_pos q]; exact ⟨rfl, rfl⟩
      · rw [hR rd, if_pos q]
    · by_cases q2 : f_X8_isAt (nI t) (nI w) y 48 57 = 0
      · refine ⟨w, (dgL t y u).1, by omega, w2, Or.inr (Or.inr ⟨by omega, fun b f g cm h => ?_, fun rd => ?_⟩)⟩
        · rw [hC b f g cm h, if_neg q]
        · rw [hR rd, if_neg q, if_pos q2]
      · refine ⟨w, 0, by omega, w2, Or.inr (Or.inl ⟨q2, fun b f g cm h => ?_, fun rd => ⟨upd rd k (dgL t y u).1, ?_⟩⟩)⟩
        · rw [hC b f g cm h, if_neg q]; exact ⟨rfl, rfl⟩
        · rw [hR rd, if_neg q, if_neg q2]
end NUMS
