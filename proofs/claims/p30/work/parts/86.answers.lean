/-! part 86: what the chamber's questions answer, in the law's words -/
/-- the chamber holds the setting s -/
def CH (v : SetV) (s : Nat → Int32) (n r : Nat) : Prop := eqS v s (s 1) ∧ okN s n r ∧ okL s n ∧ okW s n ∧ okR s r ∧ ∃ c : Nat, s 1 = nI c ∧ 1 ≤ c ∧ c ≤ 400
theorem CH.gs {v : SetV} {s : Nat → Int32} {n r : Nat} (h : CH v s n r) : GS s := by
  obtain ⟨h1, h2, h3, h4, h5, c, h6, h7, h8⟩ := h
  exact ⟨n, r, c, h2, h3, h4, h5, h6, h7, h8⟩
/-- the winning sets -/
abbrev wS (s : Nat → Int32) (n : Nat) : Nat → Bool := wnB s n (s 1)
abbrev bW (s : Nat → Int32) (n : Nat) : Nat → Int32 := fun j => bI (wS s n j)
theorem in_yes {x a b : Int32} (h1 : a ≤ x) (h2 : x ≤ b) : f_X8_in x a b = 1 := by
  unfold f_X8_in
  rw [if_neg (Int32.not_lt.mpr h1), if_neg (Int32.not_lt.mpr h2)]
section ANS
variable {v : SetV} {s : Nat → Int32} {n r : Nat} {w : PowV} {st : Int32}
theorem meas_MI (C : CH v s n r) (hp : pwr st s w) : MI s n (s 1) (wS s n) 256 (f_X7_measured st v w).2 ∧ pwr (f_X7_measured st v w).1 s (f_X7_measured st v w).2 := by
  have h := measured_ok C.1 C.gs hp
  exact ⟨h.2 rfl n r C.2.1, pwr_m C.1 C.gs hp⟩
theorem A_member (C : CH v s n r) (hp : pwr st s w) {m t : Nat} (hm : m < n) (ht : t < 8) : ∃ u : Int32 × PowV, wrI (f_X7_member st v w (nI m) (nI t)) (st, w) = (f_X8_memberOf (nI (plN s n)) s (bW s n) (nI m) (nI t), u) ∧ pwr u.1 s u.2 := by
  have hM := meas_MI C hp
  obtain ⟨h1, h2, h3, h4, h5, _⟩ := C
  refine ⟨f_X7_measured st v w, ?_, hM.2⟩
  refine wrI_r ?_
  have h8 := h2.2.1
  unfold f_X7_member
  rw [faultM h1, mem_nI h2 (by omega), if_pos hm, if_neg (by decide), rf_fine, rg_eq, in_yes (nI_pos' (show t < 2 ^ 31 by omega)) (show nI t ≤ (7 : Int32) from nI_le (b := 7) (by omega) (by decide)), if_neg (by decide), rf_fine]
  show Sum.inr (f_X7_memberValue (f_X7_measured st v w).1 v (f_X7_measured st v w).2 (nI m) (nI t), f_X7_measured st v w) = _
  rw [member_eq h1 h2 h3 h4 h5 hM.1 (y := bW s n) (fun _ _ => rfl) _ hm ht]
theorem A_member8 (C : CH v s n r) {m : Nat} (hm : m < n) : wrI (f_X7_member st v w (nI m) 8) (st, w) = ((-2000002 : Int32), (st, w)) := by
  obtain ⟨h1, h2, _⟩ := C
  have h8 := h2.2.1
  refine wrI_l (k := 2) ?_
  unfold f_X7_member
  rw [faultM h1, mem_nI h2 (by omega), if_pos hm, if_neg (by decide), rf_fine, rg_eq, show f_X8_in 8 0 7 = 0 by decide, if_pos rfl, rf_bad (Or.inr (Or.inl rfl))]
theorem A_memberN (C : CH v s n r) (x : Int32) : wrI (f_X7_member st v w (nI n) x) (st, w) = ((-2000001 : Int32), (st, w)) := by
  obtain ⟨h1, h2, _⟩ := C
  have h8 := h2.2.1
  refine wrI_l (k := 1) ?_
  unfold f_X7_member
  rw [faultM h1, mem_nI h2 (by omega), if_neg (Nat.lt_irrefl n), if_pos rfl, rf_bad (Or.inl rfl)]
theorem A_whole (C : CH v s n r) (hp : pwr st s w) (tx : TxtV) {t : Nat} (ht : t < 12) : ∃ u : Int32 × PowV, wrI (f_X7_whole st v w tx (nI t)) (st, w) = (f_X8_wholeOf tx.1 (nI (plN s n)) s (bW s n) (nI t), u) ∧ pwr u.1 s u.2 := by
  have hM := meas_MI C hp
  obtain ⟨h1, h2, h3, h4, h5, _⟩ := C
  refine ⟨f_X7_measured st v w, ?_, hM.2⟩
  refine wrI_r ?_
  unfold f_X7_whole
  rw [rg_eq, in_yes (nI_pos' (show t < 2 ^ 31 by omega)) (show nI t ≤ (11 : Int32) from nI_le (b := 11) (by omega) (by decide)), if_neg (by decide), rf_fine]
  show Sum.inr (f_X7_wholeValue (f_X7_measured st v w).1 v (f_X7_measured st v w).2 tx (nI t), f_X7_measured st v w) = _
  rw [whole_eq h1 h2 h3 h4 h5 hM.1 (y := bW s n) (fun _ _ => rfl) _ tx ht]
theorem A_whole_no (tx : TxtV) {x : Int32} (hx : f_X8_in x 0 11 = 0) : wrI (f_X7_whole st v w tx x) (st, w) = ((-2000002 : Int32), (st, w)) := by
  refine wrI_l (k := 2) ?_
  unfold f_X7_whole
  rw [rg_eq, hx, if_pos rfl, rf_bad (Or.inr (Or.inl rfl))]
theorem A_rule (C : CH v s n r) {i t : Nat} (hi : i < r) (ht : t < 3) : wrI (f_X7_rule st v (nI i) (nI t)) st = (f_X8_ruleOf s (nI i) (nI t), st) := by
  obtain ⟨h1, h2, _⟩ := C
  have hr := h2.2.2.2
  refine wrI_r ?_
  unfold f_X7_rule
  rw [faultR h1, rg_eq, in_yes (nI_pos' (show t < 2 ^ 31 by omega)) (show nI t ≤ (2 : Int32) from nI_le (b := 2) (by omega) (by decide))]
  have : f_X8_isRule s (nI i) = 1 := by
    unfold f_X8_isRule
    rw [if_neg (nI_pos (by omega)), h2.2.2.1, if_neg (nI_ge hi (by omega))]
  rw [this, if_neg (by decide), rf_fine, if_neg (by decide), rf_fine, rule_eq h1 h2 hi ht]
theorem A_ruleN (C : CH v s n r) (x : Int32) : wrI (f_X7_rule st v (nI r) x) st = ((-2000001 : Int32), st) := by
  obtain ⟨h1, h2, _⟩ := C
  have hr := h2.2.2.2
  refine wrI_l (k := 1) ?_
  unfold f_X7_rule
  have : f_X8_isRule s (nI r) = 0 := by
    unfold f_X8_isRule
    rw [if_neg (nI_pos (by omega)), h2.2.2.1, if_pos (nI_le (Nat.le_refl _) (by omega))]
  rw [faultR h1, this, if_pos rfl, rf_bad (Or.inl rfl)]
theorem A_wins (C : CH v s n r) (hp : pwr st s w) {j : Nat} (hj : j < 2 ^ n) : ∃ u : Int32 × PowV, wrI (f_X7_wins st v w (nI j)) (st, w) = ((if f_X8_why s (nI j) (s 1) = 0 then 1 else 0), u) ∧ pwr u.1 s u.2 := by
  have hM := meas_MI C hp
  obtain ⟨h1, h2, h3, h4, h5, c, hc, hc1, hc2⟩ := C
  have hpw : (2 : Nat) ^ n ≤ 2 ^ 8 := Nat.pow_le_pow_right (by decide) h2.2.1
  refine ⟨f_X7_measured st v w, ?_, hM.2⟩
  refine wrI_r ?_
  have hset : f_X8_isSet s (nI j) = 1 := by
    unfold f_X8_isSet
    rw [if_neg (nI_pos (by omega)), h2.1, shl_nI n (by have := h2.2.1; omega), if_neg (nI_ge hj (by omega))]
  unfold f_X7_wins
  rw [faultS h1 h2, hset, if_neg (by decide), rf_fine]
  show (if (f_X3_isWinning (f_X7_measured st v w).2 (nI j)) = 0 then Sum.inr (0, f_X7_measured st v w) else Sum.inr (1, f_X7_measured st v w)) = _
  have hwi := win_iff h2 h3 h4 hj hc1 (by omega)
  unfold f_X3_isWinning
  rw [rAt_nI (by omega) (by decide), hM.1.2.2.2.2.2.2.2.1 j (by omega), hM.1.2.1]
  rw [← hc] at hwi
  by_cases hd : strS s n j < s 1
  · rw [if_pos hd, if_pos rfl, if_neg (fun z => (hwi.mpr z) hd)]
  · rw [if_neg hd, if_neg (by decide), if_pos (hwi.mp hd)]
theorem A_wins_no (C : CH v s n r) {j : Nat} (hj : 2 ^ n ≤ j) (hj2 : j < 2 ^ 31) : wrI (f_X7_wins st v w (nI j)) (st, w) = ((-2000002 : Int32), (st, w)) := by
  obtain ⟨h1, h2, _⟩ := C
  refine wrI_l (k := 2) ?_
  have hset : f_X8_isSet s (nI j) = 0 := by
    unfold f_X8_isSet
    rw [if_neg (nI_pos hj2), h2.1, shl_nI n (by have := h2.2.1; omega), if_pos (nI_le hj hj2)]
  unfold f_X7_wins
  rw [faultS h1 h2, hset, if_pos rfl, rf_bad (Or.inr (Or.inl rfl))]
theorem A_least (C : CH v s n r) (hp : pwr st s w) {x : Nat} (hx : x < 2 ^ 31) : ∃ u : Int32 × PowV, wrI (f_X7_least st v w (nI x)) (st, w) = ((if x < (lsN (wS s n) 256).length then nI ((lsN (wS s n) 256).getD x 0) else -1), u) ∧ pwr u.1 s u.2 := by
  have hM := meas_MI C hp
  refine ⟨f_X7_measured st v w, ?_, hM.2⟩
  refine wrI_r ?_
  have hlen := lsN_len (wS s n) 256
  unfold f_X7_least
  rw [if_pos (nI_pos' hx), rf_fine]
  show (if (f_X7_measured st v w).2.2.2.2.2.1 ≤ nI x then (.inr ((-1), f_X7_measured st v w) : Int32 ⊕ (Int32 × (Int32 × PowV))) else (.inr (rAt 256 (f_X7_measured st v w).2.2.2.2.2.2.2.2.2.1 (nI x), f_X7_measured st v w))) = _
  rw [hM.1.2.2.2.2.1]
  by_cases h2 : (lsN (wS s n) 256).length ≤ x
  · rw [if_pos (nI_le h2 hx), if_neg (by omega)]
  · rw [if_neg (nI_ge (show x < _ by omega) (by omega)), if_pos (by omega), rAt_nI (by omega) (by decide), hM.1.2.2.2.2.2.2.2.2.1 x (by omega)]
theorem A_least_m1 : wrI (f_X7_least st v w (-1)) (st, w) = ((-2000002 : Int32), (st, w)) := by
  refine wrI_l (k := 2) ?_
  unfold f_X7_least
  rw [if_neg (by decide), rf_bad (Or.inr (Or.inl rfl))]
theorem A_share (C : CH v s n r) (hp : pwr st s w) {m : Nat} (hm : m < n) : ∃ u : Int32 × PowV, wrF (f_X7_share st v w (nI m)) (st, w) = (FP.f2d (f_X8_shareOf (bW s n) (nI m)), u) ∧ pwr u.1 s u.2 := by
  have hM := meas_MI C hp
  obtain ⟨h1, h2, h3, h4, h5, _⟩ := C
  have h8 := h2.2.1
  refine ⟨f_X7_measured st v w, ?_, hM.2⟩
  refine wrF_r ?_
  unfold f_X7_share
  rw [faultM h1, mem_nI h2 (by omega), if_pos hm, if_neg (by decide), rf_fine]
  show Sum.inr (f_X3_shareOf (f_X7_measured st v w).2 (nI m), f_X7_measured st v w) = _
  rw [share_eq hM.1 (y := bW s n) (fun _ _ => rfl) (by omega)]
theorem A_shareN (C : CH v s n r) : ∃ x, wrF (f_X7_share st v w (nI n)) (st, w) = (x, (st, w)) ∧ x = 13924712787461799936 := by
  obtain ⟨h1, h2, _⟩ := C
  have h8 := h2.2.1
  refine ⟨_, wrF_l (k := 1) ?_, rfl⟩
  unfold f_X7_share
  rw [faultM h1, mem_nI h2 (by omega), if_neg (Nat.lt_irrefl n), if_pos rfl, rf_bad (Or.inl rfl)]
theorem A_part (C : CH v s n r) (hp : pwr st s w) {m : Nat} (hm : m < n) : ∃ u : Int32 × PowV, wrD (f_X7_part st v w (nI m)) (st, w) = (f_X8_partOf (nI (plN s n)) s (bW s n) (nI m), u) ∧ pwr u.1 s u.2 := by
  have hM := meas_MI C hp
  obtain ⟨h1, h2, h3, h4, h5, _⟩ := C
  have h8 := h2.2.1
  refine ⟨f_X7_measured st v w, ?_, hM.2⟩
  refine wrD_r ?_
  unfold f_X7_part
  rw [faultM h1, mem_nI h2 (by omega), if_pos hm, if_neg (by decide), rf_fine]
  show Sum.inr (f_X3_partOf (f_X7_measured st v w).2 (nI m), f_X7_measured st v w) = _
  rw [part_eq h2 hM.1 (y := bW s n) (fun _ _ => rfl) (by omega)]
theorem A_part_m1 : ∃ x, wrD (f_X7_part st v w (-1)) (st, w) = (x, (st, w)) ∧ x = 13924712787461799936 := by
  refine ⟨_, wrD_l (k := 1) ?_, rfl⟩
  unfold f_X7_part
  have : f_X6_faultOfMember v (-1) = 1 := by
    unfold f_X6_faultOfMember f_X6_hasMember
    rw [if_pos (show (-1 : Int32) < 0 by decide), if_pos rfl]
  rw [this, rf_bad (Or.inl rfl)]
end ANS
/-! least sets in their order -/
theorem ls_at {W : Nat → Bool} {j : Nat} (hj : leB W j = true) : ∀ {N : Nat}, j < N → cN (leB W) j < (lsN W N).length ∧ (lsN W N).getD (cN (leB W) j) 0 = j
  | 0, h => absurd h (Nat.not_lt_zero j)
  | N + 1, h => by
    rw [lsN_s]
    rcases Nat.lt_or_ge j N with z | z
    · obtain ⟨a, b⟩ := ls_at (W := W) hj z
      split
      · refine ⟨by rw [List.length_append]; exact Nat.lt_of_lt_of_le a (Nat.le_add_right _ _), ?_⟩
        rw [snoc_lt a, b]
      · exact ⟨a, b⟩
    · have e : j = N := by omega
      subst e
      rw [if_pos hj, ← lsN_cN W j]
      exact ⟨by rw [List.length_append]; exact Nat.lt_succ_self _, snoc_eq⟩
