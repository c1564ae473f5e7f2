/-! part 88: members, shares and parts in the law's words -/
theorem plB_no {s : Nat → Int32} {n m : Nat} (h : ¬ s (11 + m) = -1) : plB s n m = false := by
  cases hc : plB s n m
  · rfl
  · exact absurd (plB_iff.mp hc).2 h
theorem or_no {P : Nat → Bool} {k : Nat} (h : P k = false) : (nI (orN P k 0) ||| 0 : Int32) = nI (orN P (k + 1) 0) := by
  rw [Int32.or_zero, orN_s, h]; rfl
theorem or_yes {P : Nat → Bool} {k : Nat} (hk : k < 8) (h : P k = true) : (nI (orN P k 0) ||| (1 <<< (nI k &&& 31)) : Int32) = nI (orN P (k + 1) 0) := by
  have h1 := orN_lt2 (P := P) k
  have h2 : 2 ^ k < 2 ^ 31 := Nat.pow_lt_pow_right (by decide) (by omega)
  rw [shl_nI k (by omega), or_nI (by omega) h2, orN_s, if_pos h]
section MEM8
variable {s : Nat → Int32} {n r k : Nat} {a : Int32} {y : Nat → Int32}
theorem mem0 (h8 : n ≤ 8) (hW : okW s n) (hk : k < n) : f_X8_memberOf a s y (nI k) (nI 0) = nI (wN s k) := by rw [mo0, c3 (by omega), (wN_eq hW hk).1]
theorem mem1 (h8 : n ≤ 8) (hk : k < n) : f_X8_memberOf a s y (nI k) (nI 1) = s (11 + k) := by rw [mo1, c11 (by omega)]
theorem mem2 (hN : okN s n r) : f_X8_memberOf a s y (nI k) (nI 2) = nI (cN (fun i => decide (s (11 + i) = nI k)) n) := by rw [mo2, foll_nI hN]
theorem mem3 (hN : okN s n r) (hL : okL s n) (hW : okW s n) (hk : k < n) : f_X8_memberOf a s y (nI k) (nI 3) = nI (hvN s k n) := by rw [mo3, hv_bloc hN hL hW hk]
theorem mem4 (hN : okN s n r) (hk : k < n) : f_X8_memberOf a s (bW s n) (nI k) (nI 4) = swF (wS s n) k 256 := by
  have h8 := hN.2.1
  rw [mo4, swings_W (W := wS s n) (fun _ _ => rfl) (by omega)]
theorem mem5 (hN : okN s n r) (hk : k < n) : f_X8_memberOf a s (bW s n) (nI k) (nI 5) = orF (wS s n) a k 256 := by
  have h8 := hN.2.1
  rw [mo5, orders_W (W := wS s n) (fun _ _ => rfl) a (by omega)]
theorem part_pl (hN : okN s n r) (hk : k < n) (hb : s (11 + k) = -1) : f_X8_partOf a s (bW s n) (nI k) = FP.ddiv (FP.i2d (orF (wS s n) a k 256)) (FP.i2d (f_X8_factorial (f_X8_ones a))) := by
  have h8 := hN.2.1
  unfold f_X8_partOf
  rw [isp_nI hN (by omega), plB_iff.mpr ⟨hk, hb⟩, if_pos rfl, if_neg (by decide), orders_W (W := wS s n) (fun _ _ => rfl) a (by omega)]
theorem part_no (hN : okN s n r) (hk : k < n) (hb : ¬ s (11 + k) = -1) : f_X8_partOf a s (bW s n) (nI k) = FP.dconst0 := by
  have h8 := hN.2.1
  unfold f_X8_partOf
  rw [isp_nI hN (by omega), plB_no hb, if_neg (show ¬ false = true by decide), if_pos rfl]
theorem ways_ones {p : Nat} (hp : p < 256) : f_L_ways (f_X8_ones (nI p)) = f_X8_factorial (f_X8_ones (nI p)) := by
  obtain ⟨k, hk, e⟩ := ones_9 (nI p)
  rw [e, ways9 k hk]
theorem sh_zero (hz : allF (wS s n) 256 = 0) : f_X8_shareOf (bW s n) (nI k) = FP.fconst0 := by
  unfold f_X8_shareOf
  rw [allSw_W (W := wS s n) (fun _ _ => rfl), if_pos hz]
theorem sh_val {a9 b9 : Nat} (hk : k < 8) (hz : ¬ allF (wS s n) 256 = 0) (ea : swF (wS s n) k 256 = nI a9) (eb : allF (wS s n) 256 = nI b9) : f_X8_shareOf (bW s n) (nI k) = FP.fdiv (FP.i2f (nI a9)) (FP.i2f (nI b9)) := by
  unfold f_X8_shareOf
  rw [allSw_W (W := wS s n) (fun _ _ => rfl), if_neg hz, swings_W (W := wS s n) (fun _ _ => rfl) hk, ea, eb]
end MEM8
theorem bits128 : ∀ m, m < 8 → cN (fun j => j.testBit m) 256 = 128 := by decide +kernel
theorem sw_128 (W : Nat → Bool) {m : Nat} (hm : m < 8) : cN (swT W m) 256 ≤ 128 := by
  rw [← bits128 m hm]
  refine cN_le (fun j _ h => ?_)
  unfold swT at h
  cases hb : j.testBit m
  · rw [hb, Bool.false_and] at h; cases h
  · rfl
def sbN (W : Nat → Bool) : Nat → Nat
  | 0 => 0
  | k + 1 => sbN W k + cN (swT W k) 256
theorem sb_nI (W : Nat → Bool) : ∀ k, fd (fun m (x : Int32) => x + swF W m 256) k 0 = nI (sbN W k)
  | 0 => rfl
  | k + 1 => by
    show fd (fun m (x : Int32) => x + swF W m 256) k 0 + swF W k 256 = nI (sbN W k + cN (swT W k) 256)
    rw [sb_nI W k, swF_nI, nI_add]
theorem sb_le (W : Nat → Bool) : ∀ k, k ≤ 8 → sbN W k ≤ 128 * k
  | 0, _ => Nat.le_refl _
  | k + 1, h => by
    have h1 := sb_le W k (by omega)
    have h2 := sw_128 W (m := k) (by omega)
    show sbN W k + cN (swT W k) 256 ≤ _
    omega
theorem sb_one (W : Nat → Bool) {m : Nat} : ∀ k, m < k → cN (swT W m) 256 ≤ sbN W k
  | 0, h => absurd h (Nat.not_lt_zero _)
  | k + 1, h => by
    show _ ≤ sbN W k + cN (swT W k) 256
    rcases Nat.lt_or_ge m k with z | z
    · have := sb_one W k z; omega
    · have e : m = k := by omega
      subst e; omega
theorem allF_nI (W : Nat → Bool) : ∃ b : Nat, b < 1025 ∧ allF W 256 = nI b := ⟨sbN W 8, by have := sb_le W 8 (Nat.le_refl _); omega, sb_nI W 8⟩
theorem sw_bd {W : Nat → Bool} {k b9 : Nat} (hk : k < 8) (eb : allF W 256 = nI b9) (hb : b9 < 1025) : ∃ a : Nat, a < 129 ∧ swF W k 256 = nI a ∧ a ≤ b9 := by
  refine ⟨cN (swT W k) 256, by have := sw_128 W hk; omega, swF_nI W k 256, ?_⟩
  have h1 := sb_le W 8 (Nat.le_refl _)
  have h2 : nI (sbN W 8) = nI b9 := (sb_nI W 8).symm.trans eb
  have h3 := (nI_eq (by omega) (by omega)).mp h2
  have h4 := sb_one W 8 hk
  omega
theorem nz_pos {x : Int32} {b : Nat} (eb : x = nI b) (hz : ¬ x = 0) : 1 ≤ b := by
  rcases Nat.eq_zero_or_pos b with z | z
  · subst z; exact absurd eb hz
  · exact z
theorem sh0_1 : ¬ 0 ≤ Op.cmpValue (FP.dcmp (FP.f2d FP.fconst0) 4502148214488346440) .g := by decide +kernel
theorem sh0_2 : ¬ Op.cmpValue (FP.dcmp (FP.f2d FP.fconst0) 13725520251343122248) .l ≤ 0 := by decide +kernel
