/-! part 87: the law's sums beside the reference's -/
section VAL
variable {s : Nat → Int32} {n r : Nat}
theorem l_ne (hL : okL s n) (h8 : n ≤ 8) {m : Nat} (hm : m < n) : (s (11 + m) = -1) ∨ ∃ p, p < n ∧ s (11 + m) = nI p ∧ s (11 + p) = -1 ∧ ¬ s (11 + m) = -1 ∧ 0 ≤ s (11 + m) := by
  rcases hL m hm with h | ⟨p, h1, h2, h3⟩
  · exact Or.inl h
  · exact Or.inr ⟨p, h1, h2, h3, by rw [h2]; exact ne1 p (by omega), by rw [h2]; exact nI_pos' (by omega)⟩
/-- the weight of a bloc, as the law adds it up: the first k members that follow m -/
def hvN (s : Nat → Int32) (m k : Nat) : Nat := fd (fun i c => if decide (s (11 + i) = nI m) then c + wN s i else c) k (if s (11 + m) = -1 then wN s m else 0)
theorem hvN_s (s : Nat → Int32) (m k : Nat) : hvN s m (k + 1) = if decide (s (11 + k) = nI m) then hvN s m k + wN s k else hvN s m k := rfl
theorem fd_sh (P : Nat → Bool) (f : Nat → Nat) (a : Nat) : ∀ k, fd (fun i c => if P i then c + f i else c) k a = a + fd (fun i c => if P i then c + f i else c) k 0
  | 0 => rfl
  | k + 1 => by
    show (if P k then fd (fun i c => if P i then c + f i else c) k a + f k else fd (fun i c => if P i then c + f i else c) k a) = a + (if P k then fd (fun i c => if P i then c + f i else c) k 0 + f k else fd (fun i c => if P i then c + f i else c) k 0)
    rw [fd_sh P f a k]
    cases P k
    · rfl
    · rw [if_pos rfl, if_pos rfl]; omega
theorem hv_bloc (hN : okN s n r) (hL : okL s n) (hW : okW s n) {m : Nat} (hm : m < n) : nI (hvN s m n) = f_X8_blocOf s (nI m) := by
  have h8 := hN.2.1
  have h2m : 2 ^ m < 2 ^ 8 := Nat.pow_lt_pow_right (by decide) (by omega)
  unfold f_X8_blocOf
  rw [isp_nI hN (by omega)]
  by_cases hp : s (11 + m) = -1
  · have hpl : plB s n m = true := plB_iff.mpr ⟨hm, hp⟩
    rw [hpl, if_pos rfl, if_neg (by decide), shl_nI m (by omega), yes_nI hN hL h2m, weight_nI hN hW (yesN_lh hN)]
    refine congrArg nI ?_
    unfold hvN
    rw [if_pos hp, fd_sh]
    unfold wtN
    have key : ∀ k, k ≤ n → fd (fun i c => if (yesN s n (2 ^ m)).testBit i then c + wN s i else c) k 0 = (if m < k then wN s m else 0) + fd (fun i c => if decide (s (11 + i) = nI m) then c + wN s i else c) k 0 := by
      intro k
      induction k with
      | zero => intro _; rfl
      | succ k ih =>
        intro hk
        have i1 := ih (by omega)
        show (if (yesN s n (2 ^ m)).testBit k then fd (fun i c => if (yesN s n (2 ^ m)).testBit i then c + wN s i else c) k 0 + wN s k else fd (fun i c => if (yesN s n (2 ^ m)).testBit i then c + wN s i else c) k 0) = (if m < k + 1 then wN s m else 0) + (if decide (s (11 + k) = nI m) then fd (fun i c => if decide (s (11 + i) = nI m) then c + wN s i else c) k 0 + wN s k else fd (fun i c => if decide (s (11 + i) = nI m) then c + wN s i else c) k 0)
        rw [i1, yesN_bt hN (by omega), Nat.testBit_two_pow]
        rcases l_ne hL h8 (show k < n by omega) with e | ⟨p, h1, h2, h3, h4, h5⟩
        · have el : ldr s k = k := by unfold ldr; rw [if_pos e]
          have hz : decide (s (11 + k) = nI m) = false := decide_eq_false (fun z => ne1 m (by omega) (z.symm.trans e))
          rw [el, hz, if_neg (show ¬ false = true by decide)]
          by_cases e2 : m = k
          · subst e2
            rw [if_pos (decide_eq_true rfl), if_neg (Nat.lt_irrefl m), if_pos (Nat.lt_succ_self m)]; omega
          · rw [if_neg (by rw [decide_eq_true_eq]; exact e2)]
            have : (m < k) ↔ (m < k + 1) := by omega
            by_cases hlt : m < k
            · rw [if_pos hlt, if_pos (this.mp hlt)]
            · rw [if_neg hlt, if_neg (fun z => hlt (this.mpr z))]
        · have el : ldr s k = p := by unfold ldr; rw [if_neg h4, h2, nI_clamp (by omega)]
          have hk2 : ¬ m = k := by
            intro z; subst z; exact h4 hp
          have hmk : (m < k) ↔ (m < k + 1) := by omega
          have hdd : decide (s (11 + k) = nI m) = decide (m = p) := by
            refine decide_eq_decide.mpr ?_
            rw [h2, nI_eq (by omega) (by omega)]
            exact ⟨fun z => z.symm, fun z => z.symm⟩
          rw [el, hdd]
          have hif : (if m < k then wN s m else 0) = (if m < k + 1 then wN s m else 0) := by
            by_cases hlt : m < k
            · rw [if_pos hlt, if_pos (hmk.mp hlt)]
            · rw [if_neg hlt, if_neg (fun z => hlt (hmk.mpr z))]
          rw [hif]
          by_cases e2 : m = p
          · rw [if_pos (decide_eq_true e2), if_pos (decide_eq_true e2)]; omega
          · have hdn : ¬ (decide (m = p) = true) := by rw [decide_eq_true_eq]; exact e2
            rw [if_neg hdn, if_neg hdn]
    rw [key n (Nat.le_refl n), if_pos hm]
  · have hpl : plB s n m = false := by
      cases hc : plB s n m
      · rfl
      · exact absurd (plB_iff.mp hc).2 hp
    rw [hpl, if_neg (show ¬ false = true by decide), if_pos rfl]
    have h0 : ∀ k, k ≤ n → hvN s m k = 0 := by
      intro k
      induction k with
      | zero => intro _; show (if s (11 + m) = -1 then wN s m else 0) = 0; rw [if_neg hp]
      | succ k ih =>
        intro hk
        rw [hvN_s, ih (by omega), if_neg]
        rw [decide_eq_true_eq]
        intro z
        rcases l_ne hL h8 (show k < n by omega) with e | ⟨p, h1, h2, h3, h4, h5⟩
        · exact ne1 m (by omega) (z.symm.trans e)
        · rw [h2] at z
          have := (nI_eq (by omega) (by omega)).mp z
          subst this; exact hp h3
    rw [h0 n (Nat.le_refl n)]; rfl
/-- all weights -/
def wsN (s : Nat → Int32) (k : Nat) : Nat := fd (fun m c => c + wN s m) k 0
theorem ws_all (hN : okN s n r) (hW : okW s n) : nI (wsN s n) = f_X8_weightOf s 255 := by
  have h8 := hN.2.1
  rw [show (255 : Int32) = nI 255 from rfl, weight_nI hN hW (by decide)]
  refine congrArg nI ?_
  unfold wsN wtN
  refine fd_congr (fun m hm c => ?_)
  have : ∀ m, m < 8 → (255 : Nat).testBit m = true := by decide
  rw [this m (by omega), if_pos rfl]
/-- players without a swing, the first k members -/
abbrev duN (s : Nat → Int32) (n k : Nat) : Nat := orN (fun m => plB s n m && decide (swF (wS s n) m 256 = 0)) k 0
abbrev neN (s : Nat → Int32) (n k : Nat) : Nat := orN (fun m => plB s n m && ndB (wS s n) (plN s n) m) k 0
theorem orN_le {P : Nat → Bool} {m k n : Nat} (h : m < k) (h2 : k ≤ n) : (orN P k 0).testBit m = (orN P n 0).testBit m := by
  rw [orN_bit, orN_bit, decide_eq_true h, decide_eq_true (Nat.lt_of_lt_of_le h h2)]
theorem bit_val {m j : Nat} (hm : m < 8) (hj : j < 256) : ((nI j >>> (nI m &&& 31)) &&& 1 : Int32) = bI (j.testBit m) := by
  cases hb : j.testBit m
  · exact (bit0 m hm j hj).mpr hb
  · exact (bit1 m hm j hj).mpr hb
theorem mem6 (hN : okN s n r) {m : Nat} (hm : m < n) : f_X8_memberOf (nI (plN s n)) s (bW s n) (nI m) (nI 6) = ((nI (duN s n (m + 1)) >>> (nI m &&& 31)) &&& 1) := by
  have h8 := hN.2.1
  rw [mo6, dummies_W hN (W := wS s n) (fun _ _ => rfl), bit_val (by omega) (orN_lt (by decide) h8), bit_val (by omega) (orN_lt (by decide) (by omega)), orN_le (Nat.lt_succ_self m) hm]
theorem mem7 (hN : okN s n r) {m : Nat} (hm : m < n) : f_X8_memberOf (nI (plN s n)) s (bW s n) (nI m) (nI 7) = ((nI (neN s n (m + 1)) >>> (nI m &&& 31)) &&& 1) := by
  have h8 := hN.2.1
  rw [mo7, needed_W hN (W := wS s n) (fun _ _ => rfl) (plN_lt h8), bit_val (by omega) (orN_lt (by decide) h8), bit_val (by omega) (orN_lt (by decide) (by omega)), orN_le (Nat.lt_succ_self m) hm]
/-- who is needed: what the law finds -/
def nd1 (s : Nat → Int32) (n m k : Nat) : Bool := fd (fun j b => b && (!wS s n j || j.testBit m)) k (plB s n m && decide (0 < cN (wS s n) 256))
theorem nd1_s (s : Nat → Int32) (n m k : Nat) : nd1 s n m (k + 1) = (nd1 s n m k && (!wS s n k || k.testBit m)) := rfl
theorem ct_win (hN : okN s n r) (hL : okL s n) (hW : okW s n) (hR : okR s r) : decide (0 < cN (wS s n) 256) = wS s n (plN s n) := by
  have hp := plN_lt (s := s) hN.2.1
  cases hw : wS s n (plN s n)
  · refine decide_eq_false (fun h => ?_)
    have : cN (wS s n) 256 = 0 := cN_pos.mpr (fun j hj => by
      cases hj2 : wS s n j
      · rfl
      · have := win_all hN hL hW hR hj hj2
        exact absurd (this.symm.trans hw) (by decide))
    omega
  · refine decide_eq_true ?_
    rcases Nat.eq_zero_or_pos (cN (wS s n) 256) with z | z
    · have := cN_pos.mp z _ hp
      rw [this] at hw; exact absurd hw (by decide)
    · exact z
theorem nd_all (hN : okN s n r) (hL : okL s n) (hW : okW s n) (hR : okR s r) (m : Nat) : nd1 s n m 256 = (plB s n m && ndB (wS s n) (plN s n) m) := by
  have h1 := ct_win hN hL hW hR
  have e : nd1 s n m 256 = true ↔ (plB s n m && ndB (wS s n) (plN s n) m) = true := by
    unfold nd1
    rw [fd_and, h1, Bool.and_eq_true, Bool.and_eq_true, ndB_iff]
    constructor
    · rintro ⟨⟨a, b⟩, c⟩
      refine ⟨a, b, fun j hj hw => ?_⟩
      have := c j hj
      rw [hw] at this; simpa using this
    · rintro ⟨a, b, c⟩
      refine ⟨⟨a, b⟩, fun j hj => ?_⟩
      cases hw : wS s n j
      · rfl
      · rw [c j hj hw]; rfl
  cases h2 : nd1 s n m 256 <;> cases h3 : (plB s n m && ndB (wS s n) (plN s n) m) <;> rw [h2, h3] at e <;> simp at e <;> rfl
theorem ctF_nI (W : Nat → Bool) (k : Nat) : ctF W k = nI (cN W k) := ct_nI W k
theorem swF_nI (W : Nat → Bool) (m k : Nat) : swF W m k = nI (cN (swT W m) k) := ct_nI (swT W m) k
/-- rules -/
theorem ru0 {i : Nat} (hi : i < r) (hr : r ≤ 4) : f_X8_ruleOf s (nI i) (nI 0) = s (19 + i) := by
  show (if (nI 0 : Int32) = 0 then (s (19 + nI i).toNatClampNeg) else _) = _
  rw [if_pos (show (nI 0 : Int32) = 0 from rfl), c19 (by omega)]
theorem ru1 {i : Nat} (hi : i < r) (hr : r ≤ 4) : f_X8_ruleOf s (nI i) (nI 1) = s (23 + i) := by
  show (if (nI 1 : Int32) = 0 then _ else (if (nI 1 : Int32) = 1 then (s (23 + nI i).toNatClampNeg) else _)) = _
  rw [if_neg (by decide), if_pos (show (nI 1 : Int32) = 1 from rfl), c23 (by omega)]
theorem ones_ev : ∀ n, n < 9 → f_X8_ones (nI (2 ^ n - 1)) = nI n := by decide +kernel
theorem has_ev : ∀ n, n < 9 → ∀ c, c < 8 → (f_X8_has (nI (2 ^ n - 1)) (nI c) = 0 ↔ n ≤ c) := by decide +kernel
/-- does a rule hold if all say yes: as the law says it -/
def rhB (n k c : Nat) : Bool := if k = 0 then decide (c ≤ n) else if k = 1 then decide (c < n) else decide (¬ (nI c &&& nI (2 ^ n - 1) : Int32) = 0)
theorem ru2 (hN : okN s n r) {i k c : Nat} (hi : i < r) (hk : s (19 + i) = nI k) (hc : s (23 + i) = nI c) (hkc : (k = 0 ∧ 1 ≤ c ∧ c ≤ 8) ∨ (k = 1 ∧ c ≤ 7) ∨ (k = 2 ∧ 1 ≤ c ∧ c ≤ 255)) : f_X8_ruleOf s (nI i) (nI 2) = bI (rhB n k c) := by
  have h8 := hN.2.1
  have hr := hN.2.2.2
  show (if (nI 2 : Int32) = 0 then _ else (if (nI 2 : Int32) = 1 then _ else (if (f_X8_holds s (nI i) ((1 <<< (s 0 &&& 31)) - 1)) = 0 then 0 else 1))) = _
  rw [if_neg (by decide), if_neg (by decide), hN.1, evb_nI n (by omega)]
  unfold f_X8_holds rhB
  rw [c19 (by omega), c23 (by omega), hk, hc]
  rcases hkc with ⟨rfl, _, h⟩ | ⟨rfl, h⟩ | ⟨rfl, _, h⟩
  · rw [if_pos (show nI 0 = 0 from rfl), if_pos rfl, ones_ev n (by omega)]
    by_cases hb : c ≤ n
    · rw [if_neg (nI_nlt hb (by omega)), if_neg (by decide), decide_eq_true hb]; rfl
    · rw [if_pos (nI_lt (by omega) (by omega)), if_pos rfl, decide_eq_false hb]; rfl
  · rw [if_neg (show ¬ nI 1 = 0 by decide), if_pos (show nI 1 = 1 from rfl), if_neg (show ¬ (1 : Nat) = 0 by decide), if_pos rfl]
    by_cases hb : c < n
    · rw [if_neg (fun z => absurd ((has_ev n (by omega) c (by omega)).mp z) (by omega)), decide_eq_true hb]; rfl
    · rw [if_pos ((has_ev n (by omega) c (by omega)).mpr (by omega)), decide_eq_false hb]; rfl
  · rw [if_neg (show ¬ nI 2 = 0 by decide), if_neg (show ¬ nI 2 = 1 by decide), if_neg (show ¬ (2 : Nat) = 0 by decide), if_neg (show ¬ (2 : Nat) = 1 by decide), Int32.and_comm]
    by_cases hb : (nI c &&& nI (2 ^ n - 1) : Int32) = 0
    · rw [if_pos hb, if_pos rfl, decide_eq_false (fun z => z hb)]; rfl
    · rw [if_neg hb, if_neg (by decide), decide_eq_true hb]; rfl
theorem alike_nI (hN : okN s n r) : f_X8_alikeRules s = nI (cN (fun i => decide (s (19 + i) = s 19)) r) := by
  have hr := hN.2.2.2
  unfold f_X8_alikeRules
  rw [hN.2.2.1]
  refine Eq.trans (congrArg Prod.fst (lp_fd (f := fun x : Int32 × Int32 => f_X8_alikeRules_st s x.1 x.2) (fun k (x : Int32) => (x, nI k)) (fun k x => if decide (s (19 + k) = s 19) then x + 1 else x) (fun _ _ => True) (N := r) (fun x => (x, nI r)) (a := 0) trivial ?_ ?_ (fuel0 (by omega)))) (ct_nI (fun i => decide (s (19 + i) = s 19)) r)
  · intro k x hk _
    refine ⟨?_, trivial⟩
    show f_X8_alikeRules_st s x (nI k) = .inl ((if decide (s (19 + k) = s 19) then x + 1 else x), nI (k + 1))
    unfold f_X8_alikeRules_st
    rw [hN.2.2.1, if_neg (nI_ge hk (by omega)), c19 (by omega), nI_1, Int32.add_zero]
    by_cases h : s (19 + k) = s 19
    · rw [if_pos h, if_pos (decide_eq_true h)]
    · rw [if_neg h, if_neg (by rw [decide_eq_true_eq]; exact h)]
  · intro x _
    show f_X8_alikeRules_st s x (nI r) = _
    unfold f_X8_alikeRules_st
    rw [hN.2.2.1, if_pos (nI_le (Nat.le_refl _) (by omega))]
/-- the empty set never wins; more players win if fewer do -/
theorem win_0 (hN : okN s n r) (hL : okL s n) (hW : okW s n) {c : Nat} (hc : s 1 = nI c) (h1 : 1 ≤ c) (h2 : c ≤ 400) : wS s n 0 = false := by
  cases hw : wS s n 0
  · rfl
  · unfold wS wnB at hw
    rw [Bool.and_eq_true] at hw
    have h := of_decide_eq_true hw.2
    rw [why_def hN hL (by decide)] at h
    have hy : yesN s n 0 = 0 := bits_eq (yesN_lh hN) (by decide) (fun i _ => by
      unfold yesN
      rw [orN_bit, Nat.zero_testBit, Nat.zero_testBit]
      simp)
    rw [hy, weight_nI hN hW (by decide), hc] at h
    have hz : wtN s 0 n = 0 := by
      have : ∀ k, wtN s 0 k = 0 := by
        intro k
        induction k with
        | zero => rfl
        | succ k ih => rw [wtN_s, Nat.zero_testBit, if_neg (by decide), ih]
      exact this n
    rw [hz, if_neg (nI_ge h1 (by omega))] at h
    exact absurd h (by decide)
theorem win_mono (hN : okN s n r) (hL : okL s n) (hW : okW s n) (hR : okR s r) {j : Nat} (hj : j < 256) {m : Nat} (hm : m < 8) (hpm : (plN s n).testBit m = true) (hb : j.testBit m = true) (h : wS s n (clr j m) = true) : wS s n j = true := by
  have hp := plN_lt (s := s) hN.2.1
  unfold wS wnB at h ⊢
  rw [Bool.and_eq_true] at h ⊢
  have h1 := (sub_bits hp (clr_lt hj)).mp h.1
  refine ⟨(sub_bits hp hj).mpr (fun i hi hbi => ?_), decide_eq_true ?_⟩
  · by_cases e : i = m
    · subst e; exact hpm
    · exact h1 i hi (by rw [clr_bit m hm j hj i hi, hbi]; simp [e])
  · exact why_mono hN hL hW hR (clr_lt hj) hj (fun i hi hbi => by
      rw [clr_bit m hm j hj i hi, Bool.and_eq_true] at hbi
      exact hbi.1) (of_decide_eq_true h.2)
theorem orders_all (hN : okN s n r) (hL : okL s n) (hW : okW s n) (hR : okR s r) {c : Nat} (hc : s 1 = nI c) (h1 : 1 ≤ c) (h2 : c ≤ 400) : fd (fun m (x : Int32) => x + orF (wS s n) (nI (plN s n)) m 256) n 0 = if wS s n (plN s n) then f_X8_factorial (f_X8_ones (nI (plN s n))) else 0 := by
  refine pivots (plN_lt hN.2.1) (fun j _ h => wn_sub h) (win_0 hN hL hW hc h1 h2) (fun j hj m hm hpm hb h => win_mono hN hL hW hR hj hm hpm hb h) hN.2.1 (fun m hm => ?_)
  unfold plN
  rw [orN_bit, Nat.zero_testBit, decide_eq_false (by omega)]; rfl
end VAL
