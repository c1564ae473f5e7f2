/-! part 61 -/
theorem rAt_nI {N : Nat} {f : Nat → Int32} {k : Nat} (hk : k < N) (hN : N < 2 ^ 31) : rAt N f (nI k) = f k := by
  unfold rAt
  rw [if_neg (nI_pos (by omega)), if_neg (nI_ge hk hN), nI_clamp (by omega)]
theorem rPut_nI {N : Nat} {f : Nat → Int32} {k : Nat} {x : Int32} (hk : k < N) (hN : N < 2 ^ 31) : rPut N f (nI k) x = upd f k x := by
  unfold rPut
  rw [if_neg (nI_pos (by omega)), if_neg (nI_ge hk hN), nI_clamp (by omega)]
theorem rRaise_nI {N : Nat} {f : Nat → Int32} {k : Nat} {x : Int32} (hk : k < N) (hN : N < 2 ^ 31) : rRaise N f (nI k) x = upd f k (f k + x) := by
  unfold rRaise
  rw [if_neg (nI_pos (by omega)), if_neg (nI_ge hk hN), nI_clamp (by omega)]
theorem c3 {k : Nat} (h : k < 100) : ((3 : Int32) + nI k).toNatClampNeg = 3 + k := by
  show (nI 3 + nI k).toNatClampNeg = _
  rw [nI_add, nI_clamp (by omega)]
theorem c11 {k : Nat} (h : k < 100) : ((11 : Int32) + nI k).toNatClampNeg = 11 + k := by
  show (nI 11 + nI k).toNatClampNeg = _
  rw [nI_add, nI_clamp (by omega)]
theorem c19 {k : Nat} (h : k < 100) : ((19 : Int32) + nI k).toNatClampNeg = 19 + k := by
  show (nI 19 + nI k).toNatClampNeg = _
  rw [nI_add, nI_clamp (by omega)]
theorem c23 {k : Nat} (h : k < 100) : ((23 : Int32) + nI k).toNatClampNeg = 23 + k := by
  show (nI 23 + nI k).toNatClampNeg = _
  rw [nI_add, nI_clamp (by omega)]
theorem fuel0 {n : Nat} (h : n < 2 ^ 31) : n < ((nI n).toInt - (0 : Int32).toInt).toNat + 1 := by
  rw [nI_toInt h, i32_c0]; omega
theorem below {n : Nat} {i : Int32} (hn : n < 2 ^ 31) (h0 : ¬ i < 0) (h1 : ¬ nI n ≤ i) : ∃ m : Nat, m < n ∧ i = nI m := by
  obtain ⟨j, hj, rfl⟩ := nI_of h0
  refine ⟨j, ?_, rfl⟩
  rcases Nat.lt_or_ge j n with z | z
  · exact z
  · exact absurd (nI_le z hj) h1
def eqS (v : SetV) (s : Nat → Int32) (qq : Int32) : Prop := v.1 = s 0 ∧ v.2.1 = qq ∧ v.2.2.1 = s 2 ∧ (∀ j, j < 8 → v.2.2.2.1 j = s (3 + j)) ∧ (∀ j, j < 8 → v.2.2.2.2.1 j = s (11 + j)) ∧ (∀ j, j < 4 → v.2.2.2.2.2.1 j = s (19 + j)) ∧ (∀ j, j < 4 → v.2.2.2.2.2.2 j = s (23 + j))
def okL (s : Nat → Int32) (n : Nat) : Prop := ∀ m, m < n → s (11 + m) = -1 ∨ ∃ p, p < n ∧ s (11 + m) = nI p ∧ s (11 + p) = -1
def okR (s : Nat → Int32) (r : Nat) : Prop := ∀ i, i < r → ∃ k c : Nat, s (19 + i) = nI k ∧ s (23 + i) = nI c ∧ ((k = 0 ∧ 1 ≤ c ∧ c ≤ 8) ∨ (k = 1 ∧ c ≤ 7) ∨ (k = 2 ∧ 1 ≤ c ∧ c ≤ 255))
def okW (s : Nat → Int32) (n : Nat) : Prop := ∀ m, m < n → ∃ k : Nat, k ≤ 50 ∧ s (3 + m) = nI k
def okN (s : Nat → Int32) (n r : Nat) : Prop := s 0 = nI n ∧ n ≤ 8 ∧ s 2 = nI r ∧ r ≤ 4
section EQS
variable {v : SetV} {s : Nat → Int32} {n r : Nat} {qq : Int32}
theorem mem_of (hN : okN s n r) {i : Int32} (h : ¬ f_X8_isMember s i = 0) : ∃ m : Nat, m < n ∧ i = nI m := by
  refine below (by have := hN.2.1; omega) (im_0 h) ?_
  rw [← hN.1]; exact Int32.not_le.mpr (im_1 h)
theorem mem_nI (hN : okN s n r) {m : Nat} (hm : m < 2 ^ 31) : f_X8_isMember s (nI m) = if m < n then 1 else 0 := by
  unfold f_X8_isMember
  have h8 := hN.2.1
  rw [if_neg (nI_pos hm), hN.1]
  by_cases h : m < n
  · rw [if_pos h, if_neg (nI_ge h (by omega))]
  · rw [if_neg h, if_pos (nI_le (by omega) hm)]
theorem hm_eq (h : eqS v s qq) (i : Int32) : f_X6_hasMember v i = f_X8_isMember s i := by
  unfold f_X6_hasMember f_X8_isMember
  rw [h.1]
theorem pl_eq (h : eqS v s qq) (hN : okN s n r) (i : Int32) : f_X6_isPlayer v i = f_X8_isPlayer s i := by
  unfold f_X6_isPlayer f_X8_isPlayer
  rw [hm_eq h]
  by_cases hm : f_X8_isMember s i = 0
  · rw [if_pos hm, if_pos hm]
  · rw [if_neg hm, if_neg hm]
    obtain ⟨m, h1, rfl⟩ := mem_of hN hm
    have h8 := hN.2.1
    rw [rAt_nI (by omega) (by decide), c11 (by omega), h.2.2.2.2.1 m (by omega)]
theorem players_eq (h : eqS v s qq) (hN : okN s n r) : f_X6_players v = f_X8_players s := by
  unfold f_X6_players f_X8_players
  have e : (fun x : Int32 × Int32 => f_X6_players_st v x.1 x.2) = (fun x : Int32 × Int32 => f_X8_players_st s x.1 x.2) := funext fun x => by
    unfold f_X6_players_st f_X8_players_st
    rw [h.1, pl_eq h hN, Int32.or_zero]
  rw [e, h.1]
theorem rd_w (h : eqS v s qq) (hN : okN s n r) {i : Int32} (h0 : ¬ i < 0) (h1 : ¬ s 0 ≤ i) : rAt 8 v.2.2.2.1 i = s (3 + i).toNatClampNeg := by
  have h8 := hN.2.1
  rw [hN.1] at h1
  obtain ⟨m, hm, rfl⟩ := below (by omega) h0 h1
  rw [rAt_nI (by omega) (by decide), c3 (by omega), h.2.2.2.1 m (by omega)]
theorem rd_k (h : eqS v s qq) (hN : okN s n r) {i : Int32} (h0 : ¬ i < 0) (h1 : ¬ s 2 ≤ i) : rAt 4 v.2.2.2.2.2.1 i = s (19 + i).toNatClampNeg := by
  have h8 := hN.2.2.2
  rw [hN.2.2.1] at h1
  obtain ⟨m, hm, rfl⟩ := below (by omega) h0 h1
  rw [rAt_nI (by omega) (by decide), c19 (by omega), h.2.2.2.2.2.1 m (by omega)]
theorem rd_v (h : eqS v s qq) (hN : okN s n r) {i : Int32} (h0 : ¬ i < 0) (h1 : ¬ s 2 ≤ i) : rAt 4 v.2.2.2.2.2.2 i = s (23 + i).toNatClampNeg := by
  have h8 := hN.2.2.2
  rw [hN.2.2.1] at h1
  obtain ⟨m, hm, rfl⟩ := below (by omega) h0 h1
  rw [rAt_nI (by omega) (by decide), c23 (by omega), h.2.2.2.2.2.2 m (by omega)]
theorem weight_eq (h : eqS v s qq) (hN : okN s n r) (x : Int32) : f_X6_weightOf v x = f_X8_weightOf s x := by
  unfold f_X6_weightOf f_X8_weightOf
  have H : ∀ z : Int32 × Int32, ¬ z.2 < 0 → f_X6_weightOf_st v x z.1 z.2 = f_X8_weightOf_st s x z.1 z.2 ∧ ∀ y, f_X8_weightOf_st s x z.1 z.2 = .inl y → ¬ y.2 < 0 := by
    intro z hz
    unfold f_X6_weightOf_st f_X8_weightOf_st
    rw [h.1, con_has]
    by_cases hb : s 0 ≤ z.2
    · rw [if_pos hb, if_pos hb]; exact ⟨rfl, fun y hy => by cases hy⟩
    · rw [if_neg hb, if_neg hb]
      by_cases hc : f_X8_has x z.2 = 0
      · rw [if_pos hc, if_pos hc, Int32.add_zero]; exact ⟨rfl, fun y hy => by cases hy; exact nn_up hz hb⟩
      · rw [if_neg hc, if_neg hc, rd_w h hN hz hb]; exact ⟨rfl, fun y hy => by cases hy; exact nn_up hz hb⟩
  rw [h.1, lp_eq (f := fun z : Int32 × Int32 => f_X6_weightOf_st v x z.1 z.2) (g := fun z : Int32 × Int32 => f_X8_weightOf_st s x z.1 z.2) (fun z => ¬ z.2 < 0) H _ _ (by decide)]
theorem bc_ones : ∀ j, j < 256 → f_J6_bitCount_0f7a4 (nI j) = f_X8_ones (nI j) := by decide +kernel
theorem kept_eq (h : eqS v s qq) (hN : okN s n r) {i : Int32} (h0 : ¬ i < 0) (h1 : ¬ s 2 ≤ i) {y : Nat} (hy : y < 256) : f_X6_isKept v i (nI y) = f_X8_holds s i (nI y) := by
  unfold f_X6_isKept f_X8_holds
  rw [rd_k h hN h0 h1, rd_v h hN h0 h1, bc_ones y hy, con_has]
theorem like_eq (h : eqS v s qq) (hN : okN s n r) : f_X6_rulesLikeTheFirst v = f_X8_alikeRules s := by
  unfold f_X6_rulesLikeTheFirst f_X8_alikeRules
  have H : ∀ z : Int32 × Int32, ¬ z.2 < 0 → f_X6_rulesLikeTheFirst_st v z.1 z.2 = f_X8_alikeRules_st s z.1 z.2 ∧ ∀ y, f_X8_alikeRules_st s z.1 z.2 = .inl y → ¬ y.2 < 0 := by
    intro z hz
    unfold f_X6_rulesLikeTheFirst_st f_X8_alikeRules_st
    rw [h.2.2.1]
    by_cases hb : s 2 ≤ z.2
    · rw [if_pos hb, if_pos hb]; exact ⟨rfl, fun y hy => by cases hy⟩
    · rw [if_neg hb, if_neg hb, rd_k h hN hz hb]
      have e0 : rAt 4 v.2.2.2.2.2.1 0 = s 19 := (rAt_nI (k := 0) (by decide) (by decide)).trans (h.2.2.2.2.2.1 0 (by decide))
      rw [e0, Int32.add_zero]
      by_cases hc : s (19 + z.2).toNatClampNeg = s 19
      · rw [if_pos hc]; exact ⟨rfl, fun y hy => by cases hy; exact nn_up hz hb⟩
      · rw [if_neg hc]; exact ⟨rfl, fun y hy => by cases hy; exact nn_up hz hb⟩
  rw [h.2.2.1, lp_eq (f := fun z : Int32 × Int32 => f_X6_rulesLikeTheFirst_st v z.1 z.2) (g := fun z : Int32 × Int32 => f_X8_alikeRules_st s z.1 z.2) (fun z => ¬ z.2 < 0) H _ _ (by decide)]
-- players, blocs, who say yes, as sets
def plB (s : Nat → Int32) (n m : Nat) : Bool := decide (m < n) && decide (s (11 + m) = -1)
def ldr (s : Nat → Int32) (m : Nat) : Nat := if s (11 + m) = -1 then m else (s (11 + m)).toNatClampNeg
def plN (s : Nat → Int32) (n : Nat) : Nat := orN (fun m => decide (s (11 + m) = -1)) n 0
def blN (s : Nat → Int32) (n p : Nat) : Nat := if plB s n p then orN (fun m => decide (s (11 + m) = nI p)) n (2 ^ p) else 0
def yesN (s : Nat → Int32) (n j : Nat) : Nat := orN (fun m => j.testBit (ldr s m)) n 0
theorem isp_nI (hN : okN s n r) {m : Nat} (hm : m < 100) : f_X8_isPlayer s (nI m) = if plB s n m then 1 else 0 := by
  unfold f_X8_isPlayer plB
  rw [mem_nI hN (by omega), c11 hm]
  by_cases h : m < n
  · rw [if_pos h, if_neg (by decide), decide_eq_true h]
    by_cases h2 : s (11 + m) = -1
    · rw [if_pos h2, decide_eq_true h2]; rfl
    · rw [if_neg h2, decide_eq_false h2]; rfl
  · rw [if_neg h, if_pos rfl, decide_eq_false h]; rfl
theorem players_nI (hN : okN s n r) : f_X8_players s = nI (plN s n) := by
  have h8 := hN.2.1
  unfold f_X8_players
  refine Eq.trans (congrArg Prod.fst (lp_fd (f := fun x : Int32 × Int32 => f_X8_players_st s x.1 x.2) (fun k (x : Int32) => (x, nI k)) (fun k x => if decide (s (11 + k) = -1) then x ||| (1 <<< (nI k &&& 31)) else x) (fun _ _ => True) (N := n) (fun x => (x, nI n)) (a := nI 0) trivial ?_ ?_ ?_)) ?_
  · intro k x hk _
    refine ⟨?_, trivial⟩
    show f_X8_players_st s x (nI k) = _
    unfold f_X8_players_st
    rw [hN.1, if_neg (nI_ge hk (by omega)), isp_nI hN (by omega), Int32.or_zero, nI_1]
    unfold plB
    rw [decide_eq_true hk]
    by_cases h2 : s (11 + k) = -1
    · rw [decide_eq_true h2]; rfl
    · rw [decide_eq_false h2]; rfl
  · intro x _
    show f_X8_players_st s x (nI n) = _
    unfold f_X8_players_st
    rw [hN.1, if_pos (nI_le (Nat.le_refl n) (by omega))]
  · rw [hN.1]; exact fuel0 (by omega)
  · exact orI (by decide) h8
theorem plN_lt (h8 : n ≤ 8) : plN s n < 256 := orN_lt (by decide) h8
theorem plN_bit {m : Nat} : (plN s n).testBit m = plB s n m := by
  unfold plN plB
  rw [orN_bit, Nat.zero_testBit]; rfl
theorem blN_lt (h8 : n ≤ 8) {p : Nat} (hp : p < 8) : blN s n p < 256 := by
  unfold blN
  split
  · exact orN_lt (Nat.pow_lt_pow_right (n := 8) (by decide) hp) h8
  · decide
theorem yesN_lt (h8 : n ≤ 8) {j : Nat} : yesN s n j < 256 := orN_lt (by decide) h8
theorem yesN_bit {j m : Nat} : (yesN s n j).testBit m = (decide (m < n) && j.testBit (ldr s m)) := by
  unfold yesN
  rw [orN_bit, Nat.zero_testBit]; rfl
theorem bloc_nI (h : eqS v s qq) (hN : okN s n r) {p : Nat} (hp : p < 8) : f_X6_blocOf v (nI p) = nI (blN s n p) := by
  have h8 := hN.2.1
  unfold f_X6_blocOf blN
  rw [pl_eq h hN, isp_nI hN (by omega)]
  cases hb : plB s n p
  · rfl
  · rw [if_neg (by decide), if_pos rfl, shl_nI p (by omega)]
    refine Eq.trans (congrArg Prod.fst (lp_fd (f := fun x : Int32 × Int32 => f_X6_blocOf_st v (nI p) x.1 x.2) (fun k (x : Int32) => (x, nI k)) (fun k x => if decide (s (11 + k) = nI p) then x ||| (1 <<< (nI k &&& 31)) else x) (fun _ _ => True) (N := n) (fun x => (x, nI n)) (a := nI (2 ^ p)) trivial ?_ ?_ ?_)) ?_
    · intro k x hk _
      refine ⟨?_, trivial⟩
      show f_X6_blocOf_st v (nI p) x (nI k) = _
      unfold f_X6_blocOf_st
      rw [h.1, hN.1, if_neg (nI_ge hk (by omega)), rAt_nI (by omega) (by decide), h.2.2.2.2.1 k (by omega), nI_1]
      by_cases h2 : s (11 + k) = nI p
      · rw [if_pos h2, decide_eq_true h2]; rfl
      · rw [if_neg h2, decide_eq_false h2]; rfl
    · intro x _
      show f_X6_blocOf_st v (nI p) x (nI n) = _
      unfold f_X6_blocOf_st
      rw [h.1, hN.1, if_pos (nI_le (Nat.le_refl n) (by omega))]
    · rw [h.1, hN.1]; exact fuel0 (by omega)
    · exact orI (Nat.pow_lt_pow_right (n := 8) (by decide) hp) h8
theorem ldr_lt (hL : okL s n) (h8 : n ≤ 8) {m : Nat} (hm : m < n) : ldr s m < n := by
  unfold ldr
  rcases hL m hm with h | ⟨p, h1, h2, h3⟩
  · rw [if_pos h]; exact hm
  · rw [if_neg (by rw [h2]; exact fun z => absurd (congrArg (fun x : Int32 => decide (x < 0)) z) (by rw [decide_eq_false (nI_pos (by omega))]; decide)), h2, nI_clamp (by omega)]; exact h1
theorem yes_nI (hN : okN s n r) (hL : okL s n) {j : Nat} (hj : j < 256) : f_X8_yes s (nI j) = nI (yesN s n j) := by
  have h8 := hN.2.1
  unfold f_X8_yes
  refine Eq.trans (congrArg Prod.fst (lp_fd (f := fun x : Int32 × Int32 => f_X8_yes_st s (nI j) x.1 x.2) (fun k (x : Int32) => (x, nI k)) (fun k x => if j.testBit (ldr s k) then x ||| (1 <<< (nI k &&& 31)) else x) (fun _ _ => True) (N := n) (fun x => (x, nI n)) (a := nI 0) trivial ?_ ?_ ?_)) ?_
  · intro k x hk _
    refine ⟨?_, trivial⟩
    show f_X8_yes_st s (nI j) x (nI k) = _
    unfold f_X8_yes_st
    rw [hN.1, if_neg (nI_ge hk (by omega)), c11 (by omega), Int32.or_zero, nI_1]
    have hl := ldr_lt hL h8 hk
    unfold ldr at hl ⊢
    by_cases h2 : s (11 + k) = -1
    · rw [if_pos h2, if_pos h2, has_nI k (by omega) j hj]
      cases j.testBit k <;> rfl
    · rw [if_neg h2] at hl
      rw [if_neg h2, if_neg h2]
      rcases hL k hk with h3 | ⟨p, h4, h5, h6⟩
      · exact absurd h3 h2
      · rw [h5, nI_clamp (by omega), has_nI p (by omega) j hj]
        cases j.testBit p <;> rfl
  · intro x _
    show f_X8_yes_st s (nI j) x (nI n) = _
    unfold f_X8_yes_st
    rw [hN.1, if_pos (nI_le (Nat.le_refl n) (by omega))]
  · rw [hN.1]; exact fuel0 (by omega)
  · exact orI (by decide) h8
end EQS
