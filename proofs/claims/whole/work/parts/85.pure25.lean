/-! part 85: leastWeight -/
section LW
variable {v : SetV} {s : Nat → Int32} {n r : Nat} {w : PowV} {st y4 : Int32} {y10 : Nat → Int32} {q : Int32} {W : Nat → Bool}
/-- by a set: rules kept by it, and it does not win without the player -/
def lwC (s : Nat → Int32) (n : Nat) (q : Int32) (m j : Nat) : Bool := j.testBit m && (subB (plN s n) j && (decide (whyL s j = 0) && !wnB s n q (clr j m)))
/-- the weight that is wanting there -/
def lwN (s : Nat → Int32) (n c m j : Nat) : Nat := c - (wtN s (yesN s n j) n - wN s m)
theorem wN_eq1 {s : Nat → Int32} {m : Nat} {y : Int32} : wN (upd s (3 + m) y) m = y.toNatClampNeg := by unfold wN; rw [upd_eq]
theorem wN_ne1 {s : Nat → Int32} {m k : Nat} {y : Int32} (h : ¬ k = m) : wN (upd s (3 + m) y) k = wN s k := by unfold wN; rw [upd_ne (by omega)]
theorem wtN_z (s : Nat → Int32) (x : Nat) : wtN s x 0 = 0 := rfl
theorem wtN_updG {s t : Nat → Int32} {x m c : Nat} (h1 : wN t m = c) (h2 : ∀ k, ¬ k = m → wN t k = wN s k) (hm : x.testBit m = true) (n : Nat) : wtN t x n + (if m < n then wN s m else 0) = wtN s x n + (if m < n then c else 0) := by
  induction n with
  | zero => rw [if_neg (Nat.not_lt_zero m), if_neg (Nat.not_lt_zero m), wtN_z, wtN_z]
  | succ n ih =>
    rw [wtN_s, wtN_s]
    by_cases e : n = m
    · subst e
      rw [if_neg (Nat.lt_irrefl n), if_neg (Nat.lt_irrefl n)] at ih
      rw [hm, if_pos rfl, if_pos rfl, if_pos (Nat.lt_succ_self n), if_pos (Nat.lt_succ_self n), h1]
      omega
    · have e2 : ∀ c : Nat, (if m < n + 1 then c else 0) = (if m < n then c else 0) := by
        intro c
        by_cases z : m < n
        · rw [if_pos z, if_pos (by omega)]
        · rw [if_neg z, if_neg (by omega)]
      rw [h2 n e, e2, e2]
      split <;> omega
theorem wtN_sameG {s t : Nat → Int32} {x m : Nat} (h2 : ∀ k, ¬ k = m → wN t k = wN s k) (hm : x.testBit m = false) (n : Nat) : wtN t x n = wtN s x n := by
  induction n with
  | zero => rw [wtN_z, wtN_z]
  | succ n ih =>
    rw [wtN_s, wtN_s, ih]
    by_cases e : n = m
    · subst e; rw [hm, if_neg (by decide), if_neg (by decide)]
    · rw [h2 n e]
theorem wtN_upd {s : Nat → Int32} {x m : Nat} {y : Int32} (hm : x.testBit m = true) (n : Nat) : wtN (upd s (3 + m) y) x n + (if m < n then wN s m else 0) = wtN s x n + (if m < n then y.toNatClampNeg else 0) := wtN_updG wN_eq1 (fun _ h => wN_ne1 h) hm n
theorem wtN_same {s : Nat → Int32} {x m : Nat} {y : Int32} (hm : x.testBit m = false) (n : Nat) : wtN (upd s (3 + m) y) x n = wtN s x n := wtN_sameG (fun _ h => wN_ne1 h) hm n
theorem wtN_ge {s : Nat → Int32} {x m : Nat} (hm : x.testBit m = true) (n : Nat) (h : m < n) : wN s m ≤ wtN s x n := by
  induction n with
  | zero => exact absurd h (Nat.not_lt_zero m)
  | succ n ih =>
    rw [wtN_s]
    by_cases e : n = m
    · subst e; rw [hm, if_pos rfl]; omega
    · have := ih (by omega)
      split <;> omega
-- a changed weight changes nobody's leader, and no rule
theorem plN_upd {k : Nat} {x : Int32} (hk : k < 8) : plN (upd s (3 + k) x) n = plN s n := by
  unfold plN
  refine congrArg (fun P => orN P n 0) (funext fun m => ?_)
  show decide (upd s (3 + k) x (11 + m) = -1) = decide (s (11 + m) = -1)
  rw [upd_ne (by omega)]
theorem ldr_updw {k m : Nat} {x : Int32} (hk : k < 8) : ldr (upd s (3 + k) x) m = ldr s m := by
  unfold ldr
  rw [upd_ne (by omega)]
theorem yesN_upd {k j : Nat} {x : Int32} (hk : k < 8) : yesN (upd s (3 + k) x) n j = yesN s n j := by
  unfold yesN
  refine congrArg (fun P => orN P n 0) (funext fun m => ?_)
  show j.testBit (ldr (upd s (3 + k) x) m) = j.testBit (ldr s m)
  rw [ldr_updw hk]
theorem holds_upd {k i : Nat} {x : Int32} {y : Int32} (hk : k < 8) (hi : i < 4) : f_X8_holds (upd s (3 + k) x) (nI i) y = f_X8_holds s (nI i) y := by
  unfold f_X8_holds
  rw [c19 (by omega), c23 (by omega), upd_ne (by omega), upd_ne (by omega)]
theorem ok_upd (hN : okN s n r) (hL : okL s n) (hW : okW s n) (hR : okR s r) {k c : Nat} (hk : k < 8) (hc : c ≤ 50) : okN (upd s (3 + k) (nI c)) n r ∧ okL (upd s (3 + k) (nI c)) n ∧ okW (upd s (3 + k) (nI c)) n ∧ okR (upd s (3 + k) (nI c)) r := by
  have h8 := hN.2.1
  refine ⟨⟨by rw [upd_ne (by omega)]; exact hN.1, h8, by rw [upd_ne (by omega)]; exact hN.2.2.1, hN.2.2.2⟩, fun i hi => ?_, fun i hi => ?_, fun i hi => ?_⟩
  · rw [upd_ne (by omega)]
    rcases hL i hi with z | ⟨p, z1, z2, z3⟩
    · exact Or.inl z
    · exact Or.inr ⟨p, z1, z2, by rw [upd_ne (by omega)]; exact z3⟩
  · by_cases e : i = k
    · rw [e, upd_eq]; exact ⟨c, hc, rfl⟩
    · rw [upd_ne (by omega)]; exact hW i hi
  · rw [upd_ne (by omega), upd_ne (by omega)]; exact hR i hi
theorem whyL_upd (hN : okN s n r) (hL : okL s n) (hW : okW s n) (hR : okR s r) {k c j : Nat} (hk : k < 8) (hc : c ≤ 50) (hj : j < 256) : (whyL (upd s (3 + k) (nI c)) j = 0) ↔ (whyL s j = 0) := by
  have hr := hN.2.2.2
  obtain ⟨b1, b2, _, _⟩ := ok_upd hN hL hW hR hk hc
  rw [whyL_iff b1 b2 hj, whyL_iff hN hL hj, yesN_upd hk]
  constructor
  · intro h i hi; have := h i hi; rwa [holds_upd hk (by omega)] at this
  · intro h i hi; rw [holds_upd hk (by omega)]; exact h i hi
theorem wn_iff (hN : okN s n r) (hL : okL s n) (hW : okW s n) {c j : Nat} (hc : c < 2 ^ 31) (hj : j < 256) : wnB s n (nI c) j = (subB (plN s n) j && (decide (c ≤ wtN s (yesN s n j) n) && decide (whyL s j = 0))) := by
  have h8 := hN.2.1
  have b := wtN_le (s := s) (x := yesN s n j) (n := n) (fun m hm => (wN_eq hW hm).2)
  unfold wnB
  rw [why_def hN hL hj, weight_nI hN hW (yesN_lt h8)]
  by_cases h1 : c ≤ wtN s (yesN s n j) n
  · rw [if_pos (nI_le h1 (by omega)), decide_eq_true h1, Bool.true_and]
  · rw [if_neg (nI_ge (by omega) hc), decide_eq_false h1, Bool.false_and, decide_eq_false (show ¬ (1 : Int32) = 0 by decide)]
theorem yes_m (hL : okL s n) {j m : Nat} (hm : m < n) (hp : plB s n m = true) : (yesN s n j).testBit m = j.testBit m := by
  have hpl := plB_iff.mp hp
  rw [yesN_bit, decide_eq_true hm, Bool.true_and]
  unfold ldr
  rw [if_pos hpl.2]
/-- the player swings the set by a weight of its own -/
theorem sw_lw (hN : okN s n r) (hL : okL s n) (hW : okW s n) (hR : okR s r) {c m k j : Nat} (hc : c ≤ 400) (hm : m < n) (hp : plB s n m = true) (hk : k ≤ 50) (hj : j < 256) :
    swT (wnB (upd s (3 + m) (nI k)) n (nI c)) m j = (lwC s n (nI c) m j && decide (lwN s n c m j ≤ k)) := by
  have h8 := hN.2.1
  obtain ⟨b1, b2, b3, b4⟩ := ok_upd hN hL hW hR (show m < 8 by omega) hk
  have hcl := clr_lt (m := m) hj
  unfold swT lwC
  cases hb : j.testBit m
  · rfl
  · have hyb : (yesN s n j).testBit m = true := by rw [yes_m hL hm hp]; exact hb
    have hyc : (yesN s n (clr j m)).testBit m = false := by
      rw [yes_m hL hm hp, clr_bit m (by omega) j hj m (by omega), hb, beq_self_eq_true]; rfl
    have e1 : wnB (upd s (3 + m) (nI k)) n (nI c) (clr j m) = wnB s n (nI c) (clr j m) := by
      rw [wn_iff b1 b2 b3 (by omega) hcl, wn_iff hN hL hW (by omega) hcl, plN_upd (show m < 8 by omega), yesN_upd (show m < 8 by omega), wtN_same hyc]
      have := whyL_upd hN hL hW hR (show m < 8 by omega) hk hcl
      by_cases z : whyL s (clr j m) = 0
      · rw [decide_eq_true z, decide_eq_true (this.mpr z)]
      · rw [decide_eq_false z, decide_eq_false (fun y => z (this.mp y))]
    rw [e1, wn_iff b1 b2 b3 (by omega) hj, plN_upd (show m < 8 by omega), yesN_upd (show m < 8 by omega), Bool.true_and, Bool.true_and]
    have hu := wtN_upd (s := s) (y := nI k) hyb n
    rw [if_pos hm, if_pos hm, nI_clamp (by omega)] at hu
    have hge := wtN_ge (s := s) hyb n hm
    have hw := whyL_upd hN hL hW hR (show m < 8 by omega) hk hj
    have hd : decide (c ≤ wtN (upd s (3 + m) (nI k)) (yesN s n j) n) = decide (lwN s n c m j ≤ k) := by
      unfold lwN
      by_cases z : c ≤ wtN (upd s (3 + m) (nI k)) (yesN s n j) n
      · rw [decide_eq_true z, decide_eq_true (by omega)]
      · rw [decide_eq_false z, decide_eq_false (by omega)]
    have hd2 : decide (whyL (upd s (3 + m) (nI k)) j = 0) = decide (whyL s j = 0) := by
      by_cases z : whyL s j = 0
      · rw [decide_eq_true z, decide_eq_true (hw.mpr z)]
      · rw [decide_eq_false z, decide_eq_false (fun y => z (hw.mp y))]
    rw [hd, hd2]
    cases subB (plN s n) j <;> cases decide (lwN s n c m j ≤ k) <;> cases decide (whyL s j = 0) <;> cases wnB s n (nI c) (clr j m) <;> rfl
end LW
