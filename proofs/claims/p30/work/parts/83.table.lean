/-! part 83: the law's table of winning sets -/
theorem sub_or : ∀ p, p < 256 → ∀ j, j < 256 → ((nI j ||| nI p : Int32) = nI p ↔ (nI j &&& (nI p ^^^ (-1)) : Int32) = 0) := by
  intro p hp j hj
  rw [sub_nI hj hp, or_nI (by omega) (by omega), nI_eq (Nat.lt_of_lt_of_le (Nat.or_lt_two_pow (n := 8) hj hp) (by decide)) (by omega)]
  constructor
  · intro e m hm hb
    rw [← e, Nat.testBit_or, hb]; rfl
  · intro h
    refine bits_eq (Nat.or_lt_two_pow (n := 8) hj hp) hp (fun i hi => ?_)
    rw [Nat.testBit_or]
    cases hb : j.testBit i
    · rfl
    · rw [h i hi hb]; rfl
/-- one more set entered -/
def tabS (Wf : Nat → Bool) (k : Nat) (t : Nat → Int64) : Nat → Int64 := vp_updL t (nI k >>> (6 &&& 31)).toNatClampNeg ((t (nI k >>> (6 &&& 31)).toNatClampNeg) ||| (if Wf k then (1 <<< ((Int32.toInt64 (nI k &&& 63)) &&& 63)) else 0))
def tabF (Wf : Nat → Bool) (k : Nat) : Nat → Int64 := fd (tabS Wf) k (fun _ => 0)
def bitL (t : Int64) (i : Nat) : Bool := t.toBitVec.getLsbD i
theorem w_ix : ∀ k, k < 256 → (nI k >>> (6 &&& 31)).toNatClampNeg = k / 64 ∧ nI k &&& 63 = nI (k % 64) := by decide +kernel
theorem w_amt : ∀ k, k < 64 → (Int32.toInt64 (nI k) &&& 63) = lN k ∧ ((lN k).toBitVec.smod 64) = BitVec.ofNat 64 k ∧ (1 <<< lN k : Int64).toBitVec = BitVec.twoPow 64 k := by decide +kernel
theorem bit_of {t : Int64} {i : Nat} (hi : i < 64) : (((t >>> lN i) &&& 1) = 1) ↔ bitL t i = true := by
  have e : (t >>> lN i).toBitVec = t.toBitVec.sshiftRight i := by
    show t.toBitVec.sshiftRight' ((lN i).toBitVec.smod 64) = _
    rw [(w_amt i hi).2.1]
    show t.toBitVec.sshiftRight (BitVec.ofNat 64 i).toNat = _
    rw [BitVec.toNat_ofNat, Nat.mod_eq_of_lt (by omega)]
  have g0 : ((t >>> lN i) &&& 1).toBitVec = t.toBitVec.sshiftRight i &&& 1#64 := by
    rw [Int64.toBitVec_and, e]; rfl
  have g1 : (t.toBitVec.sshiftRight i).getLsbD 0 = t.toBitVec.getLsbD i := by
    rw [BitVec.getLsbD_sshiftRight]
    simp [hi]
  unfold bitL
  constructor
  · intro h
    have h2 : t.toBitVec.sshiftRight i &&& 1#64 = 1#64 := by rw [← g0, h]; rfl
    have h3 := congrArg (fun z => BitVec.getLsbD z 0) h2
    simp only [BitVec.getLsbD_and, g1] at h3
    simpa using h3
  · intro h
    apply Int64.toBitVec_inj.mp
    rw [g0]
    show t.toBitVec.sshiftRight i &&& 1#64 = 1#64
    apply BitVec.eq_of_getLsbD_eq
    intro q hq
    rw [BitVec.getLsbD_and]
    rcases Nat.eq_zero_or_pos q with z | z
    · subst z; rw [g1, h]; rfl
    · have : (1#64).getLsbD q = false := by
        rw [BitVec.getLsbD_one]
        simp; omega
      rw [this, Bool.and_false]
theorem bit_or {t : Int64} {a i : Nat} (ha : a < 64) (hi : i < 64) : bitL (t ||| (1 <<< lN a)) i = (bitL t i || decide (i = a)) := by
  unfold bitL
  rw [Int64.toBitVec_or, (w_amt a ha).2.2, BitVec.getLsbD_or, BitVec.getLsbD_twoPow]
  congr 1
  rw [decide_eq_true ha, Bool.true_and]
  exact decide_eq_decide.mpr ⟨fun e => e.symm, fun e => e.symm⟩
theorem tab_inv (Wf : Nat → Bool) : ∀ k, k ≤ 256 → ∀ b, b < 4 → ∀ i, i < 64 → bitL (tabF Wf k b) i = (decide (64 * b + i < k) && Wf (64 * b + i))
  | 0, _, b, _, i, _ => by
    rw [decide_eq_false (Nat.not_lt_zero _)]
    show (0 : Int64).toBitVec.getLsbD i = _
    simp
  | k + 1, hk, b, hb, i, hi => by
    have ih := tab_inv Wf k (by omega)
    show bitL (vp_updL (tabF Wf k) (nI k >>> (6 &&& 31)).toNatClampNeg ((tabF Wf k (nI k >>> (6 &&& 31)).toNatClampNeg) ||| (if Wf k then (1 <<< ((Int32.toInt64 (nI k &&& 63)) &&& 63)) else 0)) b) i = _
    rw [(w_ix k (by omega)).1, (w_ix k (by omega)).2, (w_amt (k % 64) (by omega)).1]
    by_cases e : b = k / 64
    · subst e
      rw [pk_uLs]
      cases hW : Wf k
      · rw [if_neg (by decide), show tabF Wf k (k / 64) ||| 0 = tabF Wf k (k / 64) from Int64.or_zero, ih _ hb i hi]
        by_cases e2 : 64 * (k / 64) + i = k
        · rw [e2, hW, Bool.and_false, Bool.and_false]
        · have : (64 * (k / 64) + i < k) ↔ (64 * (k / 64) + i < k + 1) := by omega
          rw [decide_eq_decide.mpr this]
      · rw [if_pos rfl, bit_or (by omega) hi, ih _ hb i hi]
        by_cases e2 : i = k % 64
        · have e3 : 64 * (k / 64) + i = k := by omega
          rw [decide_eq_true e2, Bool.or_true, e3, hW, decide_eq_true (by omega)]; rfl
        · have e3 : ¬ 64 * (k / 64) + i = k := by omega
          have : (64 * (k / 64) + i < k) ↔ (64 * (k / 64) + i < k + 1) := by omega
          rw [decide_eq_false e2, Bool.or_false, decide_eq_decide.mpr this]
    · rw [pk_uLn e, ih b hb i hi]
      have : (64 * b + i < k) ↔ (64 * b + i < k + 1) := by omega
      rw [decide_eq_decide.mpr this]
theorem at_tab (Wf : Nat → Bool) {j : Nat} (hj : j < 256) : f_L_at (tabF Wf 256) (nI j) = bI (Wf j) := by
  unfold f_L_at
  have h := tab_inv Wf 256 (Nat.le_refl _) (j / 64) (by omega) (j % 64) (by omega)
  have e : 64 * (j / 64) + j % 64 = j := by omega
  rw [e, decide_eq_true hj, Bool.true_and] at h
  rw [(w_ix j hj).1, (w_ix j hj).2, (w_amt (j % 64) (by omega)).1, ← h]
  cases hb : bitL (tabF Wf 256 (j / 64)) (j % 64)
  · rw [if_neg (fun z => by
      have := (bit_of (by omega)).mp ((lg_cmp_eq _ _).mp z)
      rw [hb] at this; exact absurd this (by decide))]; rfl
  · rw [if_pos ((lg_cmp_eq _ _).mpr ((bit_of (by omega)).mpr hb))]; rfl
