/-! part 66 -/
def lsN (W : Nat → Bool) (k : Nat) : List Nat := fd (fun j l => if leB W j then l ++ [j] else l) k []
def inA (W : Nat → Bool) (p k : Nat) : Nat := fd (fun j x => if W j then x &&& j else x) k p
theorem lsN_s (W : Nat → Bool) (k : Nat) : lsN W (k + 1) = if leB W k then lsN W k ++ [k] else lsN W k := rfl
theorem lsN_len (W : Nat → Bool) : ∀ k : Nat, (lsN W k).length ≤ k
  | 0 => Nat.le_refl 0
  | k + 1 => by
    have h := lsN_len W k
    rw [lsN_s]
    split
    · rw [List.length_append]; show _ + 1 ≤ _; omega
    · omega
theorem inA_lt {W : Nat → Bool} {p : Nat} (hp : p < 256) : ∀ k : Nat, inA W p k < 256
  | 0 => hp
  | k + 1 => by
    have h := inA_lt (W := W) hp k
    show (if W k then inA W p k &&& k else inA W p k) < 256
    split
    · exact Nat.lt_of_le_of_lt Nat.and_le_left h
    · exact h
theorem snoc_lt {l : List Nat} {a i : Nat} (h : i < l.length) : (l ++ [a]).getD i 0 = l.getD i 0 := by
  rw [List.getD_eq_getElem?_getD, List.getD_eq_getElem?_getD, List.getElem?_append_left h]
theorem snoc_eq {l : List Nat} {a : Nat} : (l ++ [a]).getD l.length 0 = a := by
  rw [List.getD_eq_getElem?_getD, List.getElem?_append_right (Nat.le_refl _), Nat.sub_self]; rfl
def MI (s : Nat → Int32) (n : Nat) (q : Int32) (W : Nat → Bool) (k : Nat) (w : PowV) : Prop :=
  w.1 = nI (plN s n) ∧ w.2.1 = q ∧ w.2.2.1 = ctF W k ∧ w.2.2.2.1 = nI (inA W (plN s n) k) ∧ w.2.2.2.2.1 = nI (lsN W k).length ∧ w.2.2.2.2.2.1 = allF W k ∧
  (∀ j, j < 256 → w.2.2.2.2.2.2.1 j = nI (yesN s n j)) ∧ (∀ j, j < 256 → w.2.2.2.2.2.2.2.1 j = strS s n j) ∧
  (∀ i, i < (lsN W k).length → w.2.2.2.2.2.2.2.2.1 i = nI ((lsN W k).getD i 0)) ∧
  (∀ m, m < 8 → w.2.2.2.2.2.2.2.2.2.1 m = swF W m k) ∧ (∀ m, m < 8 → w.2.2.2.2.2.2.2.2.2.2.1 m = orF W (nI (plN s n)) m k)
theorem leB_f {W : Nat → Bool} {k : Nat} (h : W k = false) : leB W k = false := by
  cases hl : leB W k
  · rfl
  · unfold leB at hl
    rw [fd_and] at hl
    rw [h] at hl
    exact absurd hl.1 (by decide)
theorem swT_f {W : Nat → Bool} {m k : Nat} (h : W k = false) : swT W m k = false := by
  unfold swT
  rw [h]; cases k.testBit m <;> rfl
section MEAS
variable {v : SetV} {s : Nat → Int32} {n r : Nat} {q : Int32} {W : Nat → Bool}
theorem MI_skip {k : Nat} {w : PowV} (hk : W k = false) (h : MI s n q W k w) : MI s n q W (k + 1) w := by
  obtain ⟨a0, a1, a2, a3, a4, a5, a6, a7, a8, a9, a10⟩ := h
  have e1 : ctF W (k + 1) = ctF W k := by show (if W k then _ else _) = _; rw [hk]; rfl
  have e2 : inA W (plN s n) (k + 1) = inA W (plN s n) k := by show (if W k then _ else _) = _; rw [hk]; rfl
  have e3 : lsN W (k + 1) = lsN W k := by rw [lsN_s, leB_f hk]; rfl
  have e4 : allF W (k + 1) = allF W k := by
    rw [allF_s]
    have : cN (fun m => swT W m k) 8 = cN (fun _ => false) 8 := cN_congr (fun m _ => swT_f hk)
    rw [this]
    exact Int32.add_zero _
  refine ⟨a0, a1, by rw [e1]; exact a2, by rw [e2]; exact a3, by rw [e3]; exact a4, by rw [e4]; exact a5, a6, a7, by rw [e3]; exact a8, fun m hm => ?_, fun m hm => ?_⟩
  · rw [a9 m hm]
    show _ = (if swT W m k then _ else _)
    rw [swT_f hk]; rfl
  · rw [a10 m hm]
    show _ = (if swT W m k then _ else _)
    rw [swT_f hk]; rfl
theorem MI_win {k : Nat} {w : PowV} (h8 : n ≤ 8) (hk : k < 256) (hw : W k = true) (hs : ∀ m, m < 8 → k.testBit m = true → (plN s n).testBit m = true) (hv : ∀ m, m < 8 → k.testBit m = true → ((strS s n (clr k m) < q) ↔ W (clr k m) = false)) (h : MI s n q W k w) : MI s n q W (k + 1) (f_X3_countWinning w (nI k)) := by
  obtain ⟨a0, a1, a2, a3, a4, a5, a6, a7, a8, a9, a10⟩ := h
  have hp : plN s n < 256 := plN_lt h8
  rw [cw_eq (W := W) hp hk a0 hs (fun m hm hb => by rw [a7 _ (clr_lt hk), a1]; exact hv m hm hb)]
  obtain ⟨z1, z2, z3⟩ := cwG_all W (nI (plN s n)) k w.2.2.2.2.2.2.2.2.2.1 w.2.2.2.2.2.2.2.2.2.2.1 8
  generalize fd (cwG W (nI (plN s n)) k) 8 (0, w.2.2.2.2.2.2.2.2.2.1, w.2.2.2.2.2.2.2.2.2.2.1) = z at z1 z2 z3
  have hc : cN (fun m => k.testBit m && !W (clr k m)) 8 = cN (fun m => swT W m k) 8 := cN_congr (fun m _ => by unfold swT; rw [hw, Bool.true_and])
  rw [hc] at z1
  have e1 : ctF W (k + 1) = ctF W k + 1 := by show (if W k then _ else _) = _; rw [hw]; rfl
  have e2 : inA W (plN s n) (k + 1) = inA W (plN s n) k &&& k := by show (if W k then _ else _) = _; rw [hw]; rfl
  have hin := inA_lt (W := W) hp k
  have hlen := lsN_len W k
  have b2 : w.2.2.1 + 1 = ctF W (k + 1) := by rw [a2, e1]
  have b3 : w.2.2.2.1 &&& nI k = nI (inA W (plN s n) (k + 1)) := by rw [a3, e2, and_nI (by omega) (by omega)]
  have b5 : w.2.2.2.2.2.1 + z.1 = allF W (k + 1) := by rw [a5, z1, allF_s]
  have b9 : ∀ m, m < 8 → z.2.1 m = swF W m (k + 1) := by
    intro m hm
    rw [z2 m, decide_eq_true hm, Bool.true_and, a9 m hm]
    show _ = (if swT W m k then _ else _)
    unfold swT
    rw [hw, Bool.true_and]; rfl
  have b10 : ∀ m, m < 8 → z.2.2 m = orF W (nI (plN s n)) m (k + 1) := by
    intro m hm
    rw [z3 m, decide_eq_true hm, Bool.true_and, a10 m hm]
    show _ = (if swT W m k then _ else _)
    unfold swT
    rw [hw, Bool.true_and]; rfl
  show MI s n q W (k + 1) (if z.1 = (f_J6_bitCount_0f7a4 (nI k)) then _ else _)
  have h9 := cN_max (fun m => swT W m k) 8
  have h10 := cN_max k.testBit 8
  rw [z1, bc_cN k hk]
  by_cases hle : leB W k = true
  · rw [if_pos (congrArg nI ((le_iff hw).mpr hle))]
    have e3 : lsN W (k + 1) = lsN W k ++ [k] := by rw [lsN_s, hle]; rfl
    have e4 : (lsN W (k + 1)).length = (lsN W k).length + 1 := by rw [e3, List.length_append]; rfl
    rw [z1] at b5
    refine ⟨a0, a1, b2, b3, ?_, b5, a6, a7, ?_, b9, b10⟩
    · show w.2.2.2.2.1 + 1 = _
      rw [a4, e4]; exact nI_1 _
    · intro i hi
      show rPut 256 w.2.2.2.2.2.2.2.2.1 w.2.2.2.2.1 (nI k) i = _
      rw [e4] at hi
      rw [a4, rPut_nI (by omega) (by decide), e3]
      by_cases hil : i = (lsN W k).length
      · rw [hil, upd_eq, snoc_eq]
      · rw [upd_ne hil, snoc_lt (by omega)]; exact a8 i (by omega)
  · have hle2 : leB W k = false := by
      cases hl : leB W k
      · rfl
      · exact absurd hl hle
    rw [if_neg (fun e => hle ((le_iff hw).mp ((nI_eq (by omega) (by omega)).mp e)))]
    have e3 : lsN W (k + 1) = lsN W k := by rw [lsN_s, hle2]; rfl
    rw [z1] at b5
    exact ⟨a0, a1, b2, b3, by show w.2.2.2.2.1 = _; rw [a4, e3], b5, a6, a7, by rw [e3]; exact a8, b9, b10⟩
theorem measure_st_win {k : Nat} {w : PowV} (h1 : (nI k &&& (w.1 ^^^ (-1))) = 0) (h2 : ¬ rAt 256 w.2.2.2.2.2.2.2.1 (nI k) < w.2.1) : f_X3_measure_st (nI k) w = if (256 : Int32) ≤ nI k then .inr (nI k, w) else .inl (nI k + 1, f_X3_countWinning w (nI k)) := by
  unfold f_X3_measure_st f_X3_isSetOfPlayers f_X3_isWinning
  by_cases hb : (256 : Int32) ≤ nI k
  · rw [if_pos hb, if_pos hb]
  · rw [if_neg hb, if_neg hb, if_pos h1, if_neg h2, if_neg (by decide), if_neg (by decide)]
    rfl
theorem sub_clr {p j m : Nat} (hp : p < 256) (hj : j < 256) (hm : m < 8) (h : subB p j = true) : subB p (clr j m) = true := by
  unfold subB at h ⊢
  have h1 := (sub_nI hj hp).mp (of_decide_eq_true h)
  refine decide_eq_true ((sub_nI (clr_lt hj) hp).mpr (fun i hi hb => h1 i hi ?_))
  rw [clr_bit m hm j hj i hi, Bool.and_eq_true] at hb
  exact hb.1
theorem sub_lt (h8 : n ≤ 8) {j : Nat} (hj : j < 256) (h : subB (plN s n) j = true) : j < 2 ^ n := by
  unfold subB at h
  have h1 := (sub_nI hj (plN_lt h8)).mp (of_decide_eq_true h)
  refine Nat.lt_pow_two_of_testBit j (fun i hi => ?_)
  cases hb : j.testBit i
  · rfl
  · have h2 := h1 i (bit_8 hj hb) hb
    rw [plN_bit] at h2
    unfold plB at h2
    rw [Bool.and_eq_true, decide_eq_true_iff] at h2
    omega
theorem wn_str (hN : okN s n r) (hL : okL s n) (hW : okW s n) {k : Nat} (h1 : 1 ≤ k) (h2 : k < 2 ^ 31) {j : Nat} (hj : j < 256) (hs : subB (plN s n) j = true) : (strS s n j < nI k) ↔ wnB s n (nI k) j = false := by
  have hw := win_iff hN hL hW (sub_lt hN.2.1 hj hs) h1 h2
  unfold wnB
  rw [hs, Bool.true_and]
  by_cases hlt : strS s n j < nI k
  · have : ¬ f_X8_why s (nI j) (nI k) = 0 := fun z => (hw.mpr z) hlt
    exact iff_of_true hlt (decide_eq_false this)
  · exact iff_of_false hlt (fun z => absurd (decide_eq_true (hw.mp hlt)) (by rw [z]; decide))
theorem wn_sub {j : Nat} (h : wnB s n q j = true) : subB (plN s n) j = true := by
  unfold wnB at h
  rw [Bool.and_eq_true] at h
  exact h.1
theorem measure_MI (h : eqS v s q) (hN : okN s n r) (hL : okL s n) (hW : okW s n) {c : Nat} (hq : q = nI c) (h1 : 1 ≤ c) (h2 : c < 2 ^ 31) (w : PowV) : MI s n q (wnB s n q) 256 (f_X3_measure w v) := by
  have h8 := hN.2.1
  unfold f_X3_measure
  rw [fys_eq]
  refine my_l_inv (fun u : PowV => u = (f_X6_players v, v.2.1, w.2.2.1, w.2.2.2.1, w.2.2.2.2.1, w.2.2.2.2.2.1, yesA v w.2.2.2.2.2.2.1, w.2.2.2.2.2.2.2)) (fun u => MI s n q (wnB s n q) 256 u) rfl ?_
  rintro u rfl
  rw [fst_eq]
  have hy := yesA_nI h hN hL w.2.2.2.2.2.2.1
  have hst := strA_nI h hN hL (f_X6_players v, v.2.1, w.2.2.1, w.2.2.2.1, w.2.2.2.2.1, w.2.2.2.2.2.1, yesA v w.2.2.2.2.2.2.1, w.2.2.2.2.2.2.2) hy
  generalize strA (f_X6_players v, v.2.1, w.2.2.1, w.2.2.2.1, w.2.2.2.2.1, w.2.2.2.2.2.1, yesA v w.2.2.2.2.2.2.1, w.2.2.2.2.2.2.2) v = S at hst
  generalize yesA v w.2.2.2.2.2.2.1 = Y at hy
  refine my_l_inv (fun u : PowV => u = (f_X6_players v, v.2.1, w.2.2.1, w.2.2.2.1, w.2.2.2.2.1, w.2.2.2.2.2.1, Y, S, w.2.2.2.2.2.2.2.2)) (fun u => MI s n q (wnB s n q) 256 u) rfl ?_
  rintro u rfl
  have h09 := empty_nI (N := 8) w.2.2.2.2.2.2.2.2.2.1 (by decide)
  have h010 := empty_nI (N := 8) w.2.2.2.2.2.2.2.2.2.2.1 (by decide)
  try dsimp only
  generalize f_X4_empty 8 w.2.2.2.2.2.2.2.2.2.1 = E9 at h09 ⊢
  generalize f_X4_empty 8 w.2.2.2.2.2.2.2.2.2.2.1 = E10 at h010 ⊢
  refine my_t2_inv (fun _ u => MI s n q (wnB s n q) 256 u) (fun u => MI s n q (wnB s n q) 256 u) ?_ (fun _ _ h => h)
  refine lp_inm (I := fun z : Int32 × PowV => ∃ k, k ≤ 256 ∧ z.1 = nI k ∧ MI s n q (wnB s n q) k z.2) (Q := fun z : Int32 × PowV => MI s n q (wnB s n q) 256 z.2) (fun z : Int32 × PowV => ((256 : Int32).toInt - z.1.toInt).toNat) ?_ _ _ ⟨0, Nat.zero_le _, rfl, ?_⟩ (Nat.lt_succ_self _)
  · rintro ⟨i, u⟩ ⟨k, hk, rfl, hM⟩
    have hM : MI s n q (wnB s n q) k u := hM
    show Sum.elim _ _ (f_X3_measure_st (nI k) u)
    by_cases hb : (256 : Int32) ≤ nI k
    · have hk8 : 256 ≤ k := (nI_leI (a := 256) (by decide) (by omega)).mp hb
      have e : k = 256 := by omega
      subst e
      unfold f_X3_measure_st
      rw [if_pos hb]
      exact hM
    · have hk8 : k < 256 := by
        rcases Nat.lt_or_ge k 256 with z | z
        · exact z
        · exact absurd (nI_le z (by omega)) hb
      have hu1 := hM.1
      have hu2 := hM.2.1
      have hu7 := hM.2.2.2.2.2.2.2.1 k hk8
      have hsub : subB (plN s n) k = decide ((nI k &&& (u.1 ^^^ (-1))) = 0) := by unfold subB; rw [hu1]
      by_cases hc : (nI k &&& (u.1 ^^^ (-1))) = 0
      · rw [decide_eq_true hc] at hsub
        have hws := wn_str hN hL hW h1 h2 hk8 hsub
        rw [← hq] at hws
        by_cases hd : rAt 256 u.2.2.2.2.2.2.2.1 (nI k) < u.2.1
        · unfold f_X3_measure_st f_X3_isSetOfPlayers f_X3_isWinning
          rw [if_neg hb, if_pos hc, if_pos hd, if_neg (by decide), if_pos rfl]
          rw [rAt_nI hk8 (by decide), hu7, hu2] at hd
          exact ⟨⟨k + 1, hk8, nI_1 k, MI_skip (hws.mp hd) hM⟩, mu_up hb⟩
        · rw [measure_st_win hc hd, if_neg hb]
          rw [rAt_nI hk8 (by decide), hu7, hu2] at hd
          have hwk : wnB s n q k = true := by
            cases hz : wnB s n q k
            · exact absurd (hws.mpr hz) hd
            · rfl
          refine ⟨⟨k + 1, hk8, nI_1 k, MI_win h8 hk8 hwk ((sub_nI hk8 (plN_lt h8)).mp (of_decide_eq_true hsub)) ?_ hM⟩, mu_up hb⟩
          intro m hm hbm
          have := wn_str hN hL hW h1 h2 (clr_lt hk8) (sub_clr (plN_lt h8) hk8 hm hsub)
          rw [← hq] at this
          exact this
      · rw [decide_eq_false hc] at hsub
        have hwk : wnB s n q k = false := by unfold wnB; rw [hsub]; rfl
        unfold f_X3_measure_st f_X3_isSetOfPlayers
        rw [if_neg hb, if_neg hc, if_pos rfl]
        exact ⟨⟨k + 1, hk8, nI_1 k, MI_skip hwk hM⟩, mu_up hb⟩
  · refine ⟨?_, h.2.1, rfl, ?_, rfl, (allF_0 _).symm, hy, hst, fun i hi => absurd hi (Nat.not_lt_zero i), fun m hm => ?_, fun m hm => ?_⟩
    · show f_X6_players v = _
      rw [players_eq h hN, players_nI hN]
    · show f_X6_players v = _
      rw [players_eq h hN, players_nI hN]; rfl
    · exact h09 m hm
    · exact h010 m hm
end MEAS
