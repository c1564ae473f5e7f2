/-! part 68 -/
theorem cN_one {P : Nat → Bool} {m n : Nat} (hP : P m = false) : ∀ N : Nat, cN (fun k => decide (k = m) || (decide (k < n) && P k)) N = (if m < N then 1 else 0) + cN P (min n N)
  | 0 => by rw [if_neg (Nat.not_lt_zero m), Nat.min_zero]; rfl
  | N + 1 => by
    rw [cN_s, cN_one hP N]
    by_cases hm : N = m
    · subst hm
      rw [decide_eq_true rfl, Bool.true_or, if_pos rfl, if_neg (Nat.lt_irrefl N), if_pos (Nat.lt_succ_self N)]
      by_cases hn : N < n
      · rw [show min n (N + 1) = N + 1 by omega, show min n N = N by omega, cN_s, hP, if_neg (by decide)]; omega
      · rw [show min n (N + 1) = min n N by omega]; omega
    · rw [decide_eq_false hm, Bool.false_or]
      have h1 : (if m < N + 1 then 1 else 0) = (if m < N then 1 else 0) := by
        by_cases z : m < N
        · rw [if_pos z, if_pos (by omega)]
        · rw [if_neg z, if_neg (by omega)]
      rw [h1]
      generalize (if m < N then 1 else 0) = t
      by_cases hn : N < n
      · rw [show min n (N + 1) = N + 1 by omega, show min n N = N by omega, cN_s, decide_eq_true hn, Bool.true_and]
        cases P N
        · rw [if_neg (by decide), if_neg (by decide)]
        · rw [if_pos rfl, if_pos rfl]; omega
      · rw [show min n (N + 1) = min n N by omega, decide_eq_false hn, Bool.false_and, if_neg (by decide)]
theorem sh_has (x m : Int32) : ((x >>> (m &&& 31)) &&& 1) = f_X8_has x m := by
  unfold f_X8_has
  rcases bit_01 x (m &&& 31) with h | h
  · rw [h]; rfl
  · rw [h]; rfl
theorem has_bI {b : Bool} : (if (bI b) = 0 then (0 : Int32) else 1) = bI b := by cases b <;> rfl
section VALS
variable {v : SetV} {s : Nat → Int32} {n r : Nat} {q : Int32} {W : Nat → Bool} {w : PowV} {y : Nat → Int32}
theorem foll_nI (hN : okN s n r) {m : Nat} : f_X8_followers s (nI m) = nI (cN (fun k => decide (s (11 + k) = nI m)) n) := by
  have h8 := hN.2.1
  unfold f_X8_followers
  refine Eq.trans (congrArg Prod.fst (lp_fd (f := fun x : Int32 × Int32 => f_X8_followers_st s (nI m) x.1 x.2) (fun k (x : Int32) => (x, nI k)) (fun k x => if decide (s (11 + k) = nI m) then x + 1 else x) (fun _ _ => True) (N := n) (fun x => (x, nI n)) (a := 0) trivial ?_ ?_ ?_)) (ct_nI _ n)
  · intro k x hk _
    refine ⟨?_, trivial⟩
    show f_X8_followers_st s (nI m) x (nI k) = _
    unfold f_X8_followers_st
    rw [hN.1, if_neg (nI_ge hk (by omega)), c11 (by omega), Int32.add_zero, nI_1]
    by_cases h2 : s (11 + k) = nI m
    · rw [if_pos h2, decide_eq_true h2]; rfl
    · rw [if_neg h2, decide_eq_false h2]; rfl
  · intro x _
    show f_X8_followers_st s (nI m) x (nI n) = _
    unfold f_X8_followers_st
    rw [hN.1, if_pos (nI_le (Nat.le_refl n) (by omega))]
  · rw [hN.1]; exact fuel0 (by omega)
theorem ne1 : ∀ p : Nat, p < 8 → ¬ nI p = -1 := by decide
theorem plB_iff {m : Nat} : plB s n m = true ↔ m < n ∧ s (11 + m) = -1 := by
  unfold plB
  rw [Bool.and_eq_true, decide_eq_true_iff, decide_eq_true_iff]
theorem foll_eq (h : eqS v s q) (hN : okN s n r) (hL : okL s n) {m : Nat} (hm : m < 8) : (if (f_X6_isPlayer v (nI m)) = 0 then 0 else ((f_J6_bitCount_0f7a4 (f_X6_blocOf v (nI m))) - 1)) = f_X8_followers s (nI m) := by
  have h8 := hN.2.1
  rw [pl_eq h hN, isp_nI hN (by omega), foll_nI hN]
  cases hb : plB s n m
  · rw [if_pos (by decide)]
    have : cN (fun k => decide (s (11 + k) = nI m)) n = 0 := cN_pos.mpr (fun k hk => decide_eq_false (fun e => by
      rcases hL k hk with z | ⟨p, z1, z2, z3⟩
      · rw [z] at e; exact ne1 m hm e.symm
      · rw [z2] at e
        have e2 := (nI_eq (by omega) (by omega)).mp e
        subst e2
        have := plB_iff.mpr ⟨z1, z3⟩
        rw [hb] at this; exact absurd this (by decide)))
    rw [this]; rfl
  · rw [if_neg (by decide), bloc_nI h hN hm, bc_cN _ (blN_lt h8 hm)]
    have hpl := plB_iff.mp hb
    have hP : decide (s (11 + m) = nI m) = false := decide_eq_false (by rw [hpl.2]; exact fun e => ne1 m hm e.symm)
    have e1 : cN (blN s n m).testBit 8 = cN (fun k => decide (k = m) || (decide (k < n) && decide (s (11 + k) = nI m))) 8 := by
      refine cN_congr (fun k _ => ?_)
      unfold blN
      rw [hb, if_pos rfl, orN_bit, Nat.testBit_two_pow]
      by_cases z : m = k
      · rw [decide_eq_true z, decide_eq_true (p := k = m) z.symm]
      · rw [decide_eq_false z, decide_eq_false (p := k = m) (fun z2 => z z2.symm)]
    rw [e1, cN_one hP 8, if_pos hm, show min n 8 = n by omega, Nat.add_comm, nI_pred]
theorem yes_bl (hL : okL s n) (h8 : n ≤ 8) {m : Nat} (hm : m < 8) (hb : plB s n m = true) : yesN s n (2 ^ m) = blN s n m := by
  refine bits_eq (yesN_lt h8) (blN_lt h8 hm) (fun i hi => ?_)
  unfold blN
  rw [hb, if_pos rfl, yesN_bit, orN_bit, Nat.testBit_two_pow, Nat.testBit_two_pow]
  have hpl := plB_iff.mp hb
  by_cases hin : i < n
  · rw [decide_eq_true hin, Bool.true_and, Bool.true_and, Bool.eq_iff_iff, Bool.or_eq_true, decide_eq_true_iff, decide_eq_true_iff, decide_eq_true_iff]
    have hle := ldr_eq hL h8 hin hm
    constructor
    · intro e
      rcases (hle.mp e.symm).2 with z | z
      · exact Or.inl z.symm
      · exact Or.inr z
    · rintro (e | e)
      · exact (hle.mpr ⟨hb, Or.inl e.symm⟩).symm
      · exact (hle.mpr ⟨hb, Or.inr e⟩).symm
  · rw [decide_eq_false hin, Bool.false_and, Bool.false_and, decide_eq_false (by omega)]; rfl
theorem blocw_eq (h : eqS v s q) (hN : okN s n r) (hL : okL s n) (hW : okW s n) {m : Nat} (hm : m < 8) : f_X6_weightOf v (f_X6_blocOf v (nI m)) = f_X8_blocOf s (nI m) := by
  have h8 := hN.2.1
  unfold f_X8_blocOf
  rw [weight_eq h hN, bloc_nI h hN hm, isp_nI hN (by omega), shl_nI m (by omega)]
  cases hb : plB s n m
  · rw [if_pos (by decide)]
    have e : blN s n m = 0 := by unfold blN; rw [hb]; rfl
    rw [e, weight_nI hN hW (by decide)]
    have : wtN s 0 n = 0 := by
      have key : ∀ k : Nat, wtN s 0 k = 0 := by
        intro k
        induction k with
        | zero => rfl
        | succ k ih => rw [wtN_s, Nat.zero_testBit, if_neg (by decide), ih]
      exact key n
    rw [this]; rfl
  · have hp1 : (2 : Nat) ^ m < 2 ^ 8 := Nat.pow_lt_pow_right (by decide) hm
    rw [if_neg (by decide), yes_nI hN hL (by omega), yes_bl hL h8 hm hb]
theorem mv0 (st x : Int32) : f_X7_memberValue st v w x (nI 0) = (rAt 8 v.2.2.2.1 x) := rfl
theorem mo0 (a x : Int32) : f_X8_memberOf a s y x (nI 0) = (s (3 + x).toNatClampNeg) := rfl
theorem mv1 (st x : Int32) : f_X7_memberValue st v w x (nI 1) = (rAt 8 v.2.2.2.2.1 x) := rfl
theorem mo1 (a x : Int32) : f_X8_memberOf a s y x (nI 1) = (s (11 + x).toNatClampNeg) := rfl
theorem mv2 (st x : Int32) : f_X7_memberValue st v w x (nI 2) = (if (f_X6_isPlayer v x) = 0 then 0 else ((f_J6_bitCount_0f7a4 (f_X6_blocOf v x)) - 1)) := rfl
theorem mo2 (a x : Int32) : f_X8_memberOf a s y x (nI 2) = (f_X8_followers s x) := rfl
theorem mv3 (st x : Int32) : f_X7_memberValue st v w x (nI 3) = (f_X6_weightOf v (f_X6_blocOf v x)) := rfl
theorem mo3 (a x : Int32) : f_X8_memberOf a s y x (nI 3) = (f_X8_blocOf s x) := rfl
theorem mv4 (st x : Int32) : f_X7_memberValue st v w x (nI 4) = (rAt 8 w.2.2.2.2.2.2.2.2.2.1 x) := rfl
theorem mo4 (a x : Int32) : f_X8_memberOf a s y x (nI 4) = (f_X8_swings y x) := rfl
theorem mv5 (st x : Int32) : f_X7_memberValue st v w x (nI 5) = (rAt 8 w.2.2.2.2.2.2.2.2.2.2.1 x) := rfl
theorem mo5 (a x : Int32) : f_X8_memberOf a s y x (nI 5) = (f_X8_orders a y x) := rfl
theorem mv6 (st x : Int32) : f_X7_memberValue st v w x (nI 6) = (if (f_X7_contains (f_X3_dummies w) x) = 0 then 0 else 1) := rfl
theorem mo6 (a x : Int32) : f_X8_memberOf a s y x (nI 6) = (((f_X8_dummies s y) >>> (x &&& 31)) &&& 1) := rfl
theorem mv7 (st x : Int32) : f_X7_memberValue st v w x (nI 7) = (if (f_X7_contains (f_X3_needed w) x) = 0 then 0 else 1) := rfl
theorem mo7 (a x : Int32) : f_X8_memberOf a s y x (nI 7) = (((f_X8_needed a s y) >>> (x &&& 31)) &&& 1) := rfl
theorem member_eq (h : eqS v s q) (hN : okN s n r) (hL : okL s n) (hW : okW s n) (hR : okR s r) (hM : MI s n q (wnB s n q) 256 w) (hy : ∀ j, j < 256 → y j = bI (wnB s n q j)) (st : Int32) {m t : Nat} (hm : m < n) (ht : t < 8) : f_X7_memberValue st v w (nI m) (nI t) = f_X8_memberOf (nI (plN s n)) s y (nI m) (nI t) := by
  have h8 := hN.2.1
  have hp := plN_lt (s := s) h8
  rcases (show t = 0 ∨ t = 1 ∨ t = 2 ∨ t = 3 ∨ t = 4 ∨ t = 5 ∨ t = 6 ∨ t = 7 by omega) with rfl | rfl | rfl | rfl | rfl | rfl | rfl | rfl
  · rw [mv0, mo0, rAt_nI (by omega) (by decide), c3 (by omega), h.2.2.2.1 m (by omega)]
  · rw [mv1, mo1, rAt_nI (by omega) (by decide), c11 (by omega), h.2.2.2.2.1 m (by omega)]
  · rw [mv2, mo2, foll_eq h hN hL (by omega)]
  · rw [mv3, mo3, blocw_eq h hN hL hW (by omega)]
  · rw [mv4, mo4, rAt_nI (by omega) (by decide), swings_W hy (by omega), hM.2.2.2.2.2.2.2.2.2.1 m (by omega)]
  · rw [mv5, mo5, rAt_nI (by omega) (by decide), orders_W hy _ (by omega), hM.2.2.2.2.2.2.2.2.2.2 m (by omega)]
  · rw [mv6, mo6, sh_has, con_has, dummies_eq hN hM, dummies_W hN hy, has_nI m (by omega) _ (orN_lt (by decide) h8)]
    exact has_bI
  · rw [mv7, mo7, sh_has, con_has, needed_eq hN hL hW hR hM, needed_W hN hy hp, has_nI m (by omega) _ (orN_lt (by decide) h8)]
    exact has_bI
theorem wv0 (st : Int32) (tx : TxtV) : f_X7_wholeValue st v w tx (nI 0) = v.1 := rfl
theorem wo0 (ty a : Int32) : f_X8_wholeOf ty a s y (nI 0) = (s 0) := rfl
theorem wv1 (st : Int32) (tx : TxtV) : f_X7_wholeValue st v w tx (nI 1) = (f_J6_bitCount_0f7a4 (f_X6_players v)) := rfl
theorem wo1 (ty a : Int32) : f_X8_wholeOf ty a s y (nI 1) = (f_X8_ones a) := rfl
theorem wv2 (st : Int32) (tx : TxtV) : f_X7_wholeValue st v w tx (nI 2) = v.2.1 := rfl
theorem wo2 (ty a : Int32) : f_X8_wholeOf ty a s y (nI 2) = (s 1) := rfl
theorem wv3 (st : Int32) (tx : TxtV) : f_X7_wholeValue st v w tx (nI 3) = v.2.2.1 := rfl
theorem wo3 (ty a : Int32) : f_X8_wholeOf ty a s y (nI 3) = (s 2) := rfl
theorem wv4 (st : Int32) (tx : TxtV) : f_X7_wholeValue st v w tx (nI 4) = (f_X6_weightOf v (f_X6_everybody v)) := rfl
theorem wo4 (ty a : Int32) : f_X8_wholeOf ty a s y (nI 4) = (f_X8_weightOf s 255) := rfl
theorem wv5 (st : Int32) (tx : TxtV) : f_X7_wholeValue st v w tx (nI 5) = w.2.2.1 := rfl
theorem wo5 (ty a : Int32) : f_X8_wholeOf ty a s y (nI 5) = (f_X8_many y 0) := rfl
theorem wv6 (st : Int32) (tx : TxtV) : f_X7_wholeValue st v w tx (nI 6) = w.2.2.2.2.1 := rfl
theorem wo6 (ty a : Int32) : f_X8_wholeOf ty a s y (nI 6) = (f_X8_many y 1) := rfl
theorem wv7 (st : Int32) (tx : TxtV) : f_X7_wholeValue st v w tx (nI 7) = w.2.2.2.2.2.1 := rfl
theorem wo7 (ty a : Int32) : f_X8_wholeOf ty a s y (nI 7) = (f_X8_allSwings y) := rfl
theorem wv8 (st : Int32) (tx : TxtV) : f_X7_wholeValue st v w tx (nI 8) = (f_X3_dummies w) := rfl
theorem wo8 (ty a : Int32) : f_X8_wholeOf ty a s y (nI 8) = (f_X8_dummies s y) := rfl
theorem wv9 (st : Int32) (tx : TxtV) : f_X7_wholeValue st v w tx (nI 9) = (f_X3_needed w) := rfl
theorem wo9 (ty a : Int32) : f_X8_wholeOf ty a s y (nI 9) = (f_X8_needed a s y) := rfl
theorem wv10 (st : Int32) (tx : TxtV) : f_X7_wholeValue st v w tx (nI 10) = (f_X6_rulesLikeTheFirst v) := rfl
theorem wo10 (ty a : Int32) : f_X8_wholeOf ty a s y (nI 10) = (f_X8_alikeRules s) := rfl
theorem wv11 (st : Int32) (tx : TxtV) : f_X7_wholeValue st v w tx (nI 11) = tx.1 := rfl
theorem wo11 (ty a : Int32) : f_X8_wholeOf ty a s y (nI 11) = ty := rfl
theorem lsN_cN (W : Nat → Bool) : ∀ k : Nat, (lsN W k).length = cN (leB W) k
  | 0 => rfl
  | k + 1 => by
    rw [lsN_s, cN_s, ← lsN_cN W k]
    cases leB W k
    · rfl
    · rw [if_pos rfl, if_pos rfl, List.length_append]; rfl
theorem whole_eq (h : eqS v s (s 1)) (hN : okN s n r) (hL : okL s n) (hW : okW s n) (hR : okR s r) (hM : MI s n q (wnB s n q) 256 w) (hy : ∀ j, j < 256 → y j = bI (wnB s n q j)) (st : Int32) (tx : TxtV) {t : Nat} (ht : t < 12) : f_X7_wholeValue st v w tx (nI t) = f_X8_wholeOf tx.1 (nI (plN s n)) s y (nI t) := by
  have h8 := hN.2.1
  have hp := plN_lt (s := s) h8
  rcases (show t = 0 ∨ t = 1 ∨ t = 2 ∨ t = 3 ∨ t = 4 ∨ t = 5 ∨ t = 6 ∨ t = 7 ∨ t = 8 ∨ t = 9 ∨ t = 10 ∨ t = 11 by omega) with rfl | rfl | rfl | rfl | rfl | rfl | rfl | rfl | rfl | rfl | rfl | rfl
  · rw [wv0, wo0, h.1]
  · rw [wv1, wo1, players_eq h hN, players_nI hN, bc_ones _ hp]
  · rw [wv2, wo2, h.2.1]
  · rw [wv3, wo3, h.2.2.1]
  · rw [wv4, wo4, weight_eq h hN]
    unfold f_X6_everybody
    have hpw : (2 : Nat) ^ n ≤ 2 ^ 8 := Nat.pow_le_pow_right (by decide) h8
    rw [h.1, hN.1, evb_nI n (by omega), weight_nI hN hW (by omega)]
    show _ = f_X8_weightOf s (nI 255)
    rw [weight_nI hN hW (by decide)]
    refine congrArg nI (wtN_congr (fun m hm => ?_))
    rw [Nat.testBit_two_pow_sub_one, show (255 : Nat) = 2 ^ 8 - 1 from rfl, Nat.testBit_two_pow_sub_one, decide_eq_true hm, decide_eq_true (by omega)]
  · rw [wv5, wo5, many_W0 hy, hM.2.2.1]
  · rw [wv6, wo6, many_W1 hy, hM.2.2.2.2.1, lsN_cN]
    exact (ct_nI _ 256).symm
  · rw [wv7, wo7, allSw_W hy, hM.2.2.2.2.2.1]
  · rw [wv8, wo8, dummies_eq hN hM, dummies_W hN hy]
  · rw [wv9, wo9, needed_eq hN hL hW hR hM, needed_W hN hy hp]
  · rw [wv10, wo10, like_eq h hN]
  · rw [wv11, wo11]
end VALS
