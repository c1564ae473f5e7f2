/-! part 87: the text: bytes, spaces, words -/
def txE (b y : Nat → Int32) (t : Nat) : Prop := t ≤ 150 ∧ ∀ j, j < t → b j = y j
section TXT
variable {b y : Nat → Int32} {t : Nat} {f g : Int32} {cm : Nat}
theorem byte_nI (h : txE b y t) (p : Int32) {j : Nat} (hj : j < 2 ^ 31) : f_X2_byteAt (nI t, p, f, g, cm, b) (nI j) = if t ≤ j then -1 else y j := by
  unfold f_X2_byteAt
  dsimp only
  have ht := h.1
  by_cases z : t ≤ j
  · rw [if_pos (nI_le z hj), if_pos z]
  · rw [if_neg (nI_ge (by omega) (by omega)), if_neg z, rAt_nI (by omega) (by decide), h.2 j (by omega)]
theorem isAt_nI (ht : t ≤ 150) {j : Nat} (hj : j < 2 ^ 31) (lo hi : Int32) : f_X8_isAt (nI t) (nI j) y lo hi = if t ≤ j then 0 else if f_X8_in (y j) lo hi = 0 then 0 else 1 := by
  unfold f_X8_isAt
  by_cases z : t ≤ j
  · rw [if_pos (nI_le z hj), if_pos z]
  · rw [if_neg (nI_ge (by omega) (by omega)), if_neg z, nI_clamp hj]
theorem in_eq1 (x a : Int32) : (f_X8_in x a a = 0) ↔ ¬ x = a := by
  unfold f_X8_in
  by_cases h1 : x < a
  · rw [if_pos h1]
    exact iff_of_true rfl (fun e => by subst e; exact absurd h1 Int32.lt_irrefl)
  · rw [if_neg h1]
    by_cases h2 : a < x
    · rw [if_pos h2]
      exact iff_of_true rfl (fun e => by subst e; exact absurd h2 Int32.lt_irrefl)
    · rw [if_neg h2]
      refine iff_of_false (by decide) (fun e => e ?_)
      apply Int32.toInt_inj.mp
      have a1 : ¬ x.toInt < a.toInt := fun z => h1 (Int32.lt_iff_toInt_lt.mpr z)
      have a2 : ¬ a.toInt < x.toInt := fun z => h2 (Int32.lt_iff_toInt_lt.mpr z)
      omega
theorem sub150 {p : Nat} (hp : p ≤ 150) : ¬ (nI p) < 0 := nI_pos (by omega)
/-- where the spaces end -/
theorem skip_eq (h : txE b y t) {p : Nat} (hp : p < 1000) : f_X2_skipSpaces (nI t, nI p, f, g, cm, b) = f_X8_skips (nI t) (nI p) y := by
  have ht := h.1
  unfold f_X2_skipSpaces f_X8_skips
  have H : ∀ x : Int32, (∃ j : Nat, j < 2000 ∧ x = nI j ∧ (j ≤ t ∨ j = p)) → f_X2_skipSpaces_st (nI t, nI p, f, g, cm, b) x = f_X8_skips_st (nI t) y x ∧ ∀ z, f_X8_skips_st (nI t) y x = .inl z → (∃ j : Nat, j < 2000 ∧ z = nI j ∧ (j ≤ t ∨ j = p)) := by
    rintro x ⟨j, hj, rfl, hjt⟩
    unfold f_X2_skipSpaces_st f_X8_skips_st
    dsimp only
    rw [byte_nI h _ (by omega), isAt_nI ht (by omega)]
    by_cases z : t ≤ j
    · rw [if_pos (nI_le z (by omega)), if_pos z, if_pos rfl]
      exact ⟨rfl, fun _ e => by cases e⟩
    · rw [if_neg (nI_ge (by omega) (by omega)), if_neg z, if_neg z]
      by_cases e : y j = 32
      · have e2 : ¬ f_X8_in (y j) 32 32 = 0 := fun z2 => (in_eq1 _ _).mp z2 e
        rw [if_pos e, if_neg e2, if_neg (show ¬ (1 : Int32) = 0 by decide)]
        exact ⟨rfl, fun _ e3 => by cases e3; exact ⟨j + 1, by omega, nI_1 j, Or.inl (by omega)⟩⟩
      · have e2 : f_X8_in (y j) 32 32 = 0 := (in_eq1 _ _).mpr e
        rw [if_neg e, if_pos e2, if_pos rfl]
        exact ⟨rfl, fun _ e => by cases e⟩
  rw [lp_eq (f := fun x : Int32 => f_X2_skipSpaces_st (nI t, nI p, f, g, cm, b) x) (g := fun x : Int32 => f_X8_skips_st (nI t) y x) (fun x => ∃ j : Nat, j < 2000 ∧ x = nI j ∧ (j ≤ t ∨ j = p)) H _ _ ⟨p, by omega, rfl, Or.inr rfl⟩]
theorem skips_nI {p : Nat} (hp : p ≤ t) (ht : t ≤ 150) : ∃ u, p ≤ u ∧ u ≤ t ∧ f_X8_skips (nI t) (nI p) y = nI u := by
  refine sk_inv (I := fun w : Int32 => ∃ u, p ≤ u ∧ u ≤ t ∧ w = nI u) ⟨p, Nat.le_refl p, hp, rfl⟩ ?_
  rintro w hw ⟨u, h1, h2, rfl⟩
  have := (nI_ltI (by omega) (by omega)).mp hw
  exact ⟨u + 1, by omega, this, nI_1 u⟩
theorem skips_stop {p u : Nat} (hp : p ≤ t) (ht : t ≤ 150) (h : f_X8_skips (nI t) (nI p) y = nI u) (hu : u < t) : ¬ y u = 32 := by
  have key : ∀ w : Int32, w = f_X8_skips (nI t) (nI p) y → f_X8_isAt (nI t) w y 32 32 = 0 := by
    intro w hw
    rw [hw]
    unfold f_X8_skips
    refine my_l_inv (fun w => f_X8_isAt (nI t) w y 32 32 = 0) (fun w => f_X8_isAt (nI t) w y 32 32 = 0) ?_ (fun _ z => z)
    refine lp_inm (I := fun _ : Int32 => True) (Q := fun w : Int32 => f_X8_isAt (nI t) w y 32 32 = 0) (fun w : Int32 => ((nI t).toInt - w.toInt).toNat) ?_ _ _ trivial (Nat.lt_succ_self _)
    intro w _
    unfold f_X8_skips_st
    by_cases z : f_X8_isAt (nI t) w y 32 32 = 0
    · rw [if_pos z]; exact z
    · rw [if_neg z]; exact ⟨trivial, mu_up (Int32.not_le.mpr (ia_1 z))⟩
  have h1 := key (nI u) h.symm
  rw [isAt_nI ht (by omega), if_neg (by omega)] at h1
  intro e
  have e2 : ¬ f_X8_in (y u) 32 32 = 0 := fun z2 => (in_eq1 _ _).mp z2 e
  rw [if_neg e2] at h1
  exact absurd h1 (by decide)
/-- where the letters end -/
def ltA (t : Nat) (y : Nat → Int32) (p : Nat) : Int32 := lp (fun (x : Int32) => f_X8_reads_st (nI t) y x) default (((nI t : Int32).toInt - (nI p : Int32).toInt).toNat + 1) (nI p)
theorem lett_eq (h : txE b y t) {p : Nat} (hp : p ≤ t) : lp (fun (x : Int32) => f_X2_readCommand_st (nI t, nI p, f, g, cm, b) x) default (((nI t : Int32).toInt - (nI p : Int32).toInt).toNat + 1) (nI p) = ltA t y p := by
  have ht := h.1
  unfold ltA
  refine lp_eq (f := fun x : Int32 => f_X2_readCommand_st (nI t, nI p, f, g, cm, b) x) (g := fun x : Int32 => f_X8_reads_st (nI t) y x) (fun x => ∃ j : Nat, j ≤ t ∧ x = nI j) ?_ _ _ ⟨p, hp, rfl⟩
  rintro x ⟨j, hj, rfl⟩
  unfold f_X2_readCommand_st f_X8_reads_st
  dsimp only
  rw [byte_nI h _ (by omega), isAt_nI ht (by omega)]
  by_cases z : t ≤ j
  · rw [if_pos (nI_le z (by omega)), if_pos z, if_pos rfl]
    exact ⟨rfl, fun _ e => by cases e⟩
  · rw [if_neg (nI_ge (by omega) (by omega)), if_neg z, if_neg z]
    have e1 : f_X2_isLetter (y j) = f_X8_in (y j) 97 122 := rfl
    rw [e1]
    by_cases e : f_X8_in (y j) 97 122 = 0
    · rw [if_pos e, if_pos e, if_pos rfl]
      exact ⟨rfl, fun _ e => by cases e⟩
    · rw [if_neg e, if_neg e, if_neg (show ¬ (1 : Int32) = 0 by decide)]
      exact ⟨rfl, fun _ e3 => by cases e3; exact ⟨j + 1, by omega, nI_1 j⟩⟩
theorem lett_nI {p : Nat} (hp : p ≤ t) (ht : t ≤ 150) : ∃ e, p ≤ e ∧ e ≤ t ∧ ltA t y p = nI e ∧ ∀ j, p ≤ j → j < e → ∃ d : Nat, 1 ≤ d ∧ d ≤ 26 ∧ y j = nI (96 + d) := by
  unfold ltA
  refine lp_inm (I := fun w : Int32 => ∃ e, p ≤ e ∧ e ≤ t ∧ w = nI e ∧ ∀ j, p ≤ j → j < e → ∃ d : Nat, 1 ≤ d ∧ d ≤ 26 ∧ y j = nI (96 + d)) (Q := fun w : Int32 => ∃ e, p ≤ e ∧ e ≤ t ∧ w = nI e ∧ ∀ j, p ≤ j → j < e → ∃ d : Nat, 1 ≤ d ∧ d ≤ 26 ∧ y j = nI (96 + d)) (fun w : Int32 => ((nI t).toInt - w.toInt).toNat) ?_ _ _ ⟨p, Nat.le_refl p, hp, rfl, fun j h1 h2 => by omega⟩ (Nat.lt_succ_self _)
  rintro w ⟨e, h1, h2, rfl, h3⟩
  unfold f_X8_reads_st
  rw [isAt_nI ht (by omega)]
  by_cases z : t ≤ e
  · rw [if_pos z, if_pos rfl]; exact ⟨e, h1, h2, rfl, h3⟩
  · rw [if_neg z]
    by_cases i : f_X8_in (y e) 97 122 = 0
    · rw [if_pos i, if_pos rfl]; exact ⟨e, h1, h2, rfl, h3⟩
    · rw [if_neg i, if_neg (show ¬ (1 : Int32) = 0 by decide)]
      obtain ⟨k, k1, k2, k3⟩ := in_rg (A := 97) (B := 122) rfl rfl (by decide) (by decide) i
      refine ⟨⟨e + 1, by omega, by omega, nI_1 e, fun j j1 j2 => ?_⟩, mu_up (nI_ge (by omega) (by omega))⟩
      rcases Nat.lt_or_ge j e with q | q
      · exact h3 j j1 q
      · have e1 : j = e := by omega
        subst e1
        exact ⟨k - 96, by omega, by omega, by rw [show 96 + (k - 96) = k by omega]; exact k3⟩
end TXT
-- numbers by letters
def lV (d : Nat → Nat) : Nat → Nat := fun L => fd (fun k x => 27 * x + d k) L 0
theorem lV_s (d : Nat → Nat) (L : Nat) : lV d (L + 1) = 27 * lV d L + d L := rfl
theorem lV_uniq {d e : Nat → Nat} : ∀ {L M : Nat}, (∀ k, k < L → 1 ≤ d k ∧ d k ≤ 26) → (∀ k, k < M → 1 ≤ e k ∧ e k ≤ 26) → lV d L = lV e M → L = M ∧ ∀ k, k < L → d k = e k
  | 0, 0, _, _, _ => ⟨rfl, fun k hk => absurd hk (Nat.not_lt_zero k)⟩
  | 0, M + 1, _, h2, h => by
    have := h2 M (Nat.lt_succ_self M)
    have z : lV d 0 = 0 := rfl
    rw [z, lV_s] at h
    omega
  | L + 1, 0, h1, _, h => by
    have := h1 L (Nat.lt_succ_self L)
    have z : lV e 0 = 0 := rfl
    rw [z, lV_s] at h
    omega
  | L + 1, M + 1, h1, h2, h => by
    have a1 := h1 L (Nat.lt_succ_self L)
    have a2 := h2 M (Nat.lt_succ_self M)
    rw [lV_s, lV_s] at h
    obtain ⟨e1, e2⟩ := lV_uniq (L := L) (M := M) (fun k hk => h1 k (Nat.lt_succ_of_lt hk)) (fun k hk => h2 k (Nat.lt_succ_of_lt hk)) (by omega)
    subst e1
    refine ⟨rfl, fun k hk => ?_⟩
    rcases Nat.lt_or_ge k L with z | z
    · exact e2 k z
    · have e3 : k = L := by omega
      subst e3; omega
theorem lV_lt {d : Nat → Nat} : ∀ {L : Nat}, (∀ k, k < L → d k ≤ 26) → lV d L < 27 ^ L
  | 0, _ => by show (0 : Nat) < 27 ^ 0; decide
  | L + 1, h => by
    have h1 := lV_lt (L := L) (fun k hk => h k (Nat.lt_succ_of_lt hk))
    have h2 := h L (Nat.lt_succ_self L)
    rw [lV_s, Nat.pow_succ]; omega
