/-! part 82: the law's own numbers beside the setting: players, why -/
/-- the law's arrays hold the setting s -/
def AG (ga wa la ra s : Nat → Int32) (n r : Nat) : Prop := ga 0 = nI n ∧ ga 1 = s 1 ∧ ga 2 = nI r ∧ (∀ m, m < n → wa m = s (3 + m)) ∧ (∀ m, m < n → la m = s (11 + m)) ∧ ∀ i, i < r → ∃ k c : Nat, s (19 + i) = nI k ∧ s (23 + i) = nI c ∧ ra i = nI (1000 * k + c) ∧ ((k = 0 ∧ 1 ≤ c ∧ c ≤ 8) ∨ (k = 1 ∧ c ≤ 7) ∨ (k = 2 ∧ 1 ≤ c ∧ c ≤ 255))
theorem nat_or {a k : Nat} (h : a < 2 ^ k) : a ||| 2 ^ k = a + 2 ^ k := by
  have h1 := Nat.two_pow_add_eq_or_of_lt h 1
  rw [Nat.mul_one] at h1
  rw [Nat.or_comm, ← h1]; omega
theorem orN_lt2 {P : Nat → Bool} : ∀ k, orN P k 0 < 2 ^ k
  | 0 => (by decide : (0:Nat) < 2 ^ 0)
  | k + 1 => by
    have h := orN_lt2 (P := P) k
    have e : 2 ^ (k + 1) = 2 ^ k + 2 ^ k := by rw [Nat.pow_succ]; omega
    show (if P k then orN P k 0 ||| 2 ^ k else orN P k 0) < 2 ^ (k + 1)
    split
    · rw [nat_or h]; omega
    · omega
theorem fd_plus {P : Nat → Bool} : ∀ k, k ≤ 8 → fd (fun k (x : Int32) => x + (if P k then (1 <<< (nI k &&& 31)) else 0)) k 0 = nI (orN P k 0)
  | 0, _ => rfl
  | k + 1, hk => by
    show fd (fun k (x : Int32) => x + (if P k then (1 <<< (nI k &&& 31)) else 0)) k 0 + (if P k then (1 <<< (nI k &&& 31)) else 0) = nI (if P k then orN P k 0 ||| 2 ^ k else orN P k 0)
    rw [fd_plus k (by omega)]
    cases hP : P k
    · show nI (orN P k 0) + 0 = nI (orN P k 0)
      exact Int32.add_zero _
    · show nI (orN P k 0) + (1 <<< (nI k &&& 31)) = nI (orN P k 0 ||| 2 ^ k)
      rw [shl_nI k (by omega), nI_add, nat_or (orN_lt2 k)]
theorem bit1 : ∀ m, m < 8 → ∀ j, j < 256 → (((nI j >>> (nI m &&& 31)) &&& 1 : Int32) = 1 ↔ j.testBit m = true) := by decide +kernel
theorem bit0 : ∀ m, m < 8 → ∀ j, j < 256 → (((nI j >>> (nI m &&& 31)) &&& 1 : Int32) = 0 ↔ j.testBit m = false) := by decide +kernel
section AGS
variable {ga wa la ra s : Nat → Int32} {n r : Nat}
theorem players_law (h : AG ga wa la ra s n r) (hN : okN s n r) (hL : okL s n) : f_L_players ga la = nI (plN s n) := by
  have h8 := hN.2.1
  unfold f_L_players
  rw [h.1]
  refine Eq.trans (congrArg Prod.fst (lp_fd (f := fun x : Int32 × Int32 => f_L_players_st ga la x.1 x.2) (fun k (x : Int32) => (x, nI k)) (fun k x => x + (if decide (s (11 + k) = -1) then (1 <<< (nI k &&& 31)) else 0)) (fun _ _ => True) (N := n) (fun x => (x, nI n)) (a := 0) trivial ?_ ?_ (fuel0 (by omega)))) (fd_plus n h8)
  · intro k x hk _
    refine ⟨?_, trivial⟩
    show f_L_players_st ga la x (nI k) = .inl (x + (if decide (s (11 + k) = -1) then (1 <<< (nI k &&& 31)) else 0), nI (k + 1))
    unfold f_L_players_st
    rw [h.1, if_neg (nI_ge hk (by omega)), nI_clamp (by omega), h.2.2.2.2.1 k hk, nI_1]
    rcases hL k hk with e | ⟨p, hp, e, _⟩
    · rw [e, if_neg (by decide), if_pos (by decide)]
    · rw [e, if_pos (nI_pos' (by omega)), if_neg (by rw [decide_eq_true_eq]; exact ne1 p (by omega))]
  · intro x _
    show f_L_players_st ga la x (nI n) = _
    unfold f_L_players_st
    rw [h.1, if_pos (nI_le (Nat.le_refl _) (by omega))]
/-- who says yes, one by one -/
def wtP (P : Nat → Bool) (s : Nat → Int32) (n : Nat) : Nat := fd (fun m c => if P m then c + wN s m else c) n 0
theorem wtP_s (P : Nat → Bool) (s : Nat → Int32) (n : Nat) : wtP P s (n + 1) = if P n then wtP P s n + wN s n else wtP P s n := rfl
theorem orN_s (P : Nat → Bool) (n a : Nat) : orN P (n + 1) a = if P n then orN P n a ||| 2 ^ n else orN P n a := rfl
theorem why_l1 (h : AG ga wa la ra s n r) (hN : okN s n r) (hL : okL s n) (hW : okW s n) {j : Nat} (hj : j < 256) : lp (fun x : Int32 × Int32 × Int32 × Int32 => f_L_why_st ga wa la (nI j) x.1 x.2.1 x.2.2.1 x.2.2.2) default (((nI n : Int32).toInt - (0 : Int32).toInt).toNat + 1) (0, 0, 0, 0) = (nI (wtP (fun m => j.testBit (ldr s m)) s n), nI (yesN s n j), nI (cN (fun m => j.testBit (ldr s m)) n), nI n) := by
  have h8 := hN.2.1
  refine lp_fd (f := fun x : Int32 × Int32 × Int32 × Int32 => f_L_why_st ga wa la (nI j) x.1 x.2.1 x.2.2.1 x.2.2.2) (fun k (_ : Unit) => (nI (wtP (fun m => j.testBit (ldr s m)) s k), nI (orN (fun m => j.testBit (ldr s m)) k 0), nI (cN (fun m => j.testBit (ldr s m)) k), nI k)) (fun _ x => x) (fun _ _ => True) (N := n) (fun _ => (nI (wtP (fun m => j.testBit (ldr s m)) s n), nI (yesN s n j), nI (cN (fun m => j.testBit (ldr s m)) n), nI n)) (a := ()) trivial ?_ ?_ (fuel0 (by omega))
  · intro k _ hk _
    refine ⟨?_, trivial⟩
    show f_L_why_st ga wa la (nI j) (nI (wtP (fun m => j.testBit (ldr s m)) s k)) (nI (orN (fun m => j.testBit (ldr s m)) k 0)) (nI (cN (fun m => j.testBit (ldr s m)) k)) (nI k) = .inl (nI (wtP (fun m => j.testBit (ldr s m)) s (k + 1)), nI (orN (fun m => j.testBit (ldr s m)) (k + 1) 0), nI (cN (fun m => j.testBit (ldr s m)) (k + 1)), nI (k + 1))
    have hlt := orN_lt (P := fun m => j.testBit (ldr s m)) (a := 0) (by decide) (n := k) (by omega)
    have h2k : 2 ^ k < 2 ^ 31 := Nat.pow_lt_pow_right (by decide) (by omega)
    have hw := wN_eq hW hk
    unfold f_L_why_st
    rw [h.1, if_neg (nI_ge hk (by omega)), nI_clamp (by omega), h.2.2.2.2.1 k hk, h.2.2.2.1 k hk, hw.1, nI_1, nI_1, nI_add, shl_nI k (by omega), or_nI (by omega) h2k, wtP_s, orN_s, cN_s]
    have key : ∀ q : Nat, q < 8 → ldr s k = q → ((((nI j >>> (nI q &&& 31)) &&& 1 : Int32) = 1) ↔ j.testBit (ldr s k) = true) := fun q hq e => by rw [e]; exact bit1 q hq j hj
    rcases hL k hk with e | ⟨p, hp, e, ep⟩
    · have el : ldr s k = k := by unfold ldr; rw [if_pos e]
      rw [e, if_neg (by decide)]
      by_cases hb : j.testBit (ldr s k) = true
      · rw [if_pos ((key k (by omega) el).mpr hb), if_pos hb, if_pos hb, if_pos hb]
      · rw [if_neg (fun z => hb ((key k (by omega) el).mp z)), if_neg hb, if_neg hb, if_neg hb]
    · have el : ldr s k = p := by unfold ldr; rw [e, if_neg (ne1 p (by omega)), nI_clamp (by omega)]
      rw [e, if_pos (nI_pos' (by omega)), nI_clamp (by omega), h.2.2.2.2.1 p hp, ep]
      by_cases hb : j.testBit (ldr s k) = true
      · rw [if_pos ((key p (by omega) el).mpr hb), if_neg (by decide), if_pos hb, if_pos hb, if_pos hb]
      · rw [if_neg (fun z => hb ((key p (by omega) el).mp z)), if_neg hb, if_neg hb, if_neg hb]
  · intro _ _
    show f_L_why_st ga wa la (nI j) _ _ _ (nI n) = _
    unfold f_L_why_st
    rw [h.1, if_pos (nI_le (Nat.le_refl _) (by omega))]
    rfl
theorem yesN_bt (hN : okN s n r) {j m : Nat} (hm : m < n) : (yesN s n j).testBit m = j.testBit (ldr s m) := by
  unfold yesN
  rw [orN_bit, Nat.zero_testBit, decide_eq_true hm]
  cases j.testBit (ldr s m) <;> rfl
theorem yesN_lh (hN : okN s n r) {j : Nat} : yesN s n j < 256 := orN_lt (by decide) hN.2.1
theorem wtP_yes (hN : okN s n r) {j : Nat} : wtP (fun m => j.testBit (ldr s m)) s n = wtN s (yesN s n j) n := fd_congr (fun m hm c => by rw [yesN_bt hN hm])
theorem cN_ext {P Q : Nat → Bool} : ∀ k, (∀ i, n ≤ i → Q i = false) → (∀ i, i < n → P i = Q i) → n ≤ k → cN P n = cN Q k
  | 0, _, h2, h3 => by
    have e : n = 0 := by omega
    subst e; rfl
  | k + 1, h1, h2, h3 => by
    rcases Nat.lt_or_ge k n with z | z
    · have e : n = k + 1 := by omega
      subst e; exact cN_congr h2
    · rw [cN_s, h1 k z, if_neg (by decide)]; exact cN_ext k h1 h2 z
theorem cN_yes (hN : okN s n r) {j : Nat} : nI (cN (fun m => j.testBit (ldr s m)) n) = f_X8_ones (nI (yesN s n j)) := by
  rw [ones_cN _ (yesN_lh hN)]
  refine congrArg nI (cN_ext 8 (fun i hi => ?_) (fun i hi => (yesN_bt hN hi).symm) hN.2.1)
  unfold yesN
  rw [orN_bit, Nat.zero_testBit, decide_eq_false (by omega)]; rfl
theorem rl_v : ∀ k, k < 3 → ∀ c, c < 256 → nI (1000 * k + c) - nI (1000 * k + c) / 1000 * 1000 = nI c ∧ nI (1000 * k + c) / 1000 = nI k := by decide +kernel
theorem rl_k : ∀ k, k < 3 → ∀ c, c < 256 → ((1000 : Int32) ≤ nI (1000 * k + c) ↔ 1 ≤ k) ∧ ((2000 : Int32) ≤ nI (1000 * k + c) ↔ 2 ≤ k) := by decide +kernel
theorem le0_nI {a : Nat} (h : a < 2 ^ 31) : nI a ≤ 0 ↔ nI a = 0 := by
  show nI a ≤ nI 0 ↔ nI a = nI 0
  rw [nI_leI h (by decide), nI_eq h (by decide)]; omega
theorem why_l2 (h : AG ga wa la ra s n r) (hN : okN s n r) (hL : okL s n) {j i : Nat} (hj : j < 256) (hi : i < r) : f_L_why_st1 ga ra (nI (yesN s n j)) (f_X8_ones (nI (yesN s n j))) (nI i) = f_X8_why_st s (nI j) (nI i) := by
  have hr := hN.2.2.2
  have hx := yesN_lh (j := j) hN
  unfold f_L_why_st1 f_X8_why_st f_X8_holds
  obtain ⟨k, c, e1, e2, e3, e4⟩ := h.2.2.2.2.2 i hi
  have hk : k < 3 := by omega
  have hc : c < 256 := by omega
  have hy := yes_nI hN hL hj
  rw [h.2.2.1, hN.2.2.1, if_neg (nI_ge hi (by omega)), if_neg (nI_ge hi (by omega)), nI_clamp (by omega), c19 (by omega), c23 (by omega), e1, e2, e3, (rl_v k hk c hc).1, hy, Int32.add_comm 2 (nI i)]
  rcases e4 with ⟨rfl, _, _⟩ | ⟨rfl, _⟩ | ⟨rfl, _, _⟩
  · rw [if_neg (fun z => absurd ((rl_k 0 hk c hc).1.mp z) (by decide)), if_pos (show nI 0 = 0 from rfl)]
    by_cases hb : f_X8_ones (nI (yesN s n j)) < nI c
    · rw [if_pos hb, if_pos hb, if_pos rfl]
    · rw [if_neg hb, if_neg hb, if_neg (by decide)]
  · rw [if_pos ((rl_k 1 hk c hc).1.mpr (by decide)), if_neg (fun z => absurd ((rl_k 1 hk c hc).2.mp z) (by decide)), if_neg (show ¬ nI 1 = 0 by decide), if_pos (show nI 1 = 1 from rfl)]
    unfold f_X8_has
    by_cases hb : ((nI (yesN s n j) >>> (nI c &&& 31)) &&& 1) = 1
    · rw [if_pos hb, if_pos hb, if_neg (by decide)]
    · rw [if_neg hb, if_neg hb, if_pos rfl]
  · rw [if_pos ((rl_k 2 hk c hc).1.mpr (by decide)), if_pos ((rl_k 2 hk c hc).2.mpr (by decide)), if_neg (show ¬ nI 2 = 0 by decide), if_neg (show ¬ nI 2 = 1 by decide), and_nI (by omega) (by omega)]
    have hlt : (yesN s n j &&& c) < 2 ^ 31 := Nat.lt_of_le_of_lt Nat.and_le_left (by omega)
    by_cases hb : nI (yesN s n j &&& c) = 0
    · rw [if_pos ((le0_nI hlt).mpr hb), if_pos hb, if_pos rfl]
    · rw [if_neg (fun z => hb ((le0_nI hlt).mp z)), if_neg hb, if_neg (by decide)]
theorem why_law (h : AG ga wa la ra s n r) (hN : okN s n r) (hL : okL s n) (hW : okW s n) {j : Nat} (hj : j < 256) (q : Int32) : f_L_why ga wa la ra (nI j) q = f_X8_why s (nI j) q := by
  have hr := hN.2.2.2
  unfold f_L_why f_X8_why
  rw [h.1, why_l1 h hN hL hW hj, my_t4_eq, wtP_yes hN, cN_yes hN, yes_nI hN hL hj, weight_nI hN hW (yesN_lh hN)]
  by_cases hq : q ≤ nI (wtN s (yesN s n j) n)
  · rw [if_pos hq, if_pos hq, h.2.2.1, hN.2.2.1]
    refine lp_eq (f := fun x : Int32 => f_L_why_st1 ga ra (nI (yesN s n j)) (f_X8_ones (nI (yesN s n j))) x) (g := fun x : Int32 => f_X8_why_st s (nI j) x) (fun x : Int32 => ∃ i, i ≤ r ∧ x = nI i) ?_ _ _ ⟨0, Nat.zero_le _, rfl⟩
    rintro x ⟨i, hi, rfl⟩
    rcases Nat.lt_or_ge i r with z | z
    · refine ⟨why_l2 h hN hL hj z, fun y hy => ?_⟩
      have hy : f_X8_why_st s (nI j) (nI i) = .inl y := hy
      unfold f_X8_why_st at hy
      rw [hN.2.2.1, if_neg (nI_ge z (by omega))] at hy
      split at hy
      · cases hy
      · cases hy; exact ⟨i + 1, z, nI_1 i⟩
    · have e : i = r := by omega
      subst e
      have e1 : f_X8_why_st s (nI j) (nI i) = .inr 0 := by
        unfold f_X8_why_st
        rw [hN.2.2.1, if_pos (nI_le (Nat.le_refl _) (by omega))]
      refine ⟨?_, fun y hy => ?_⟩
      · show f_L_why_st1 ga ra _ _ (nI i) = f_X8_why_st s (nI j) (nI i)
        rw [e1]
        unfold f_L_why_st1
        rw [h.2.2.1, if_pos (nI_le (Nat.le_refl _) (by omega))]
      · have hy : f_X8_why_st s (nI j) (nI i) = .inl y := hy
        rw [e1] at hy; cases hy
  · rw [if_neg hq, if_neg hq]
end AGS
