/-! part 67 -/
def wN (s : Nat → Int32) (m : Nat) : Nat := (s (3 + m)).toNatClampNeg
def wtN (s : Nat → Int32) (x n : Nat) : Nat := fd (fun m c => if x.testBit m then c + wN s m else c) n 0
theorem wtN_s (s : Nat → Int32) (x n : Nat) : wtN s x (n + 1) = if x.testBit n then wtN s x n + wN s n else wtN s x n := rfl
theorem wtN_mono {s : Nat → Int32} {x y : Nat} : ∀ {n : Nat}, (∀ m, m < n → x.testBit m = true → y.testBit m = true) → wtN s x n ≤ wtN s y n
  | 0, _ => Nat.le_refl 0
  | n + 1, H => by
    rw [wtN_s, wtN_s]
    have h1 := wtN_mono (s := s) (n := n) (fun m hm => H m (Nat.lt_succ_of_lt hm))
    have h2 := H n (Nat.lt_succ_self n)
    cases hx : x.testBit n
    · rw [if_neg (by decide)]
      split <;> omega
    · rw [h2 hx, if_pos rfl, if_pos rfl]; omega
theorem wtN_congr {s : Nat → Int32} {x y n : Nat} (h : ∀ m, m < n → x.testBit m = y.testBit m) : wtN s x n = wtN s y n := fd_congr (fun m hm c => by rw [h m hm])
theorem wtN_le {s : Nat → Int32} {x : Nat} : ∀ {n : Nat}, (∀ m, m < n → wN s m ≤ 50) → wtN s x n ≤ 50 * n
  | 0, _ => Nat.le_refl 0
  | n + 1, H => by
    rw [wtN_s]
    have h1 := wtN_le (s := s) (x := x) (n := n) (fun m hm => H m (Nat.lt_succ_of_lt hm))
    have h2 := H n (Nat.lt_succ_self n)
    split <;> omega
section WT
variable {v : SetV} {s : Nat → Int32} {n r : Nat} {q : Int32} {W : Nat → Bool}
theorem wN_eq (hW : okW s n) {m : Nat} (hm : m < n) : s (3 + m) = nI (wN s m) ∧ wN s m ≤ 50 := by
  obtain ⟨k, hk, e⟩ := hW m hm
  unfold wN
  rw [e, nI_clamp (by omega)]
  exact ⟨rfl, hk⟩
theorem weight_nI (hN : okN s n r) (hW : okW s n) {x : Nat} (hx : x < 256) : f_X8_weightOf s (nI x) = nI (wtN s x n) := by
  have h8 := hN.2.1
  unfold f_X8_weightOf
  refine Eq.trans (congrArg Prod.fst (lp_fd (f := fun z : Int32 × Int32 => f_X8_weightOf_st s (nI x) z.1 z.2) (fun k (a : Int32) => (a, nI k)) (fun k a => if x.testBit k then a + s (3 + k) else a) (fun _ _ => True) (N := n) (fun a => (a, nI n)) (a := nI 0) trivial ?_ ?_ ?_)) ?_
  · intro k a hk _
    refine ⟨?_, trivial⟩
    show f_X8_weightOf_st s (nI x) a (nI k) = _
    unfold f_X8_weightOf_st
    rw [hN.1, if_neg (nI_ge hk (by omega)), has_nI k (by omega) x hx, c3 (by omega), Int32.add_zero, nI_1]
    cases x.testBit k <;> rfl
  · intro a _
    show f_X8_weightOf_st s (nI x) a (nI n) = _
    unfold f_X8_weightOf_st
    rw [hN.1, if_pos (nI_le (Nat.le_refl n) (by omega))]
  · rw [hN.1]; exact fuel0 (by omega)
  · have key : ∀ k, k ≤ n → fd (fun k (a : Int32) => if x.testBit k then a + s (3 + k) else a) k (nI 0) = nI (wtN s x k) := by
      intro k
      induction k with
      | zero => intro _; rfl
      | succ k ih =>
        intro hk
        show (if x.testBit k then fd (fun k (a : Int32) => if x.testBit k then a + s (3 + k) else a) k (nI 0) + s (3 + k) else fd (fun k (a : Int32) => if x.testBit k then a + s (3 + k) else a) k (nI 0)) = nI (if x.testBit k then wtN s x k + wN s k else wtN s x k)
        rw [ih (by omega), (wN_eq hW hk).1]
        split
        · exact nI_add _ _
        · rfl
    exact key n (Nat.le_refl n)
theorem whyL_iff (hN : okN s n r) (hL : okL s n) {j : Nat} (hj : j < 256) : whyL s j = 0 ↔ ∀ i, i < r → ¬ f_X8_holds s (nI i) (nI (yesN s n j)) = 0 := by
  have hr := hN.2.2.2
  have hQ : (whyL s j = 0 ∧ ∀ i, i < r → ¬ f_X8_holds s (nI i) (nI (yesN s n j)) = 0) ∨ (¬ whyL s j = 0 ∧ ∃ i, i < r ∧ f_X8_holds s (nI i) (nI (yesN s n j)) = 0) := by
    unfold whyL
    refine lp_inm (I := fun x : Int32 => ∃ k, k ≤ r ∧ x = nI k ∧ ∀ i, i < k → ¬ f_X8_holds s (nI i) (nI (yesN s n j)) = 0) (Q := fun b : Int32 => (b = 0 ∧ ∀ i, i < r → ¬ f_X8_holds s (nI i) (nI (yesN s n j)) = 0) ∨ (¬ b = 0 ∧ ∃ i, i < r ∧ f_X8_holds s (nI i) (nI (yesN s n j)) = 0)) (fun x : Int32 => ((s 2).toInt - x.toInt).toNat) ?_ _ _ ⟨0, Nat.zero_le _, rfl, fun i hi => absurd hi (Nat.not_lt_zero i)⟩ (Nat.lt_succ_self _)
    rintro x ⟨k, hk, rfl, h1⟩
    show Sum.elim _ _ (f_X8_why_st s (nI j) (nI k))
    unfold f_X8_why_st
    rw [yes_nI hN hL hj]
    by_cases hb : s 2 ≤ nI k
    · rw [if_pos hb]
      rw [hN.2.2.1] at hb
      have := (nI_leI (by omega) (by omega)).mp hb
      exact Or.inl ⟨rfl, fun i hi => h1 i (by omega)⟩
    · have hkr : k < r := by
        rw [hN.2.2.1] at hb
        rcases Nat.lt_or_ge k r with z | z
        · exact z
        · exact absurd (nI_le z (by omega)) hb
      rw [if_neg hb]
      by_cases hc : f_X8_holds s (nI k) (nI (yesN s n j)) = 0
      · rw [if_pos hc]
        have hne2 : ∀ i : Nat, i < 4 → ¬ (2 : Int32) + nI i = 0 := by decide
        exact Or.inr ⟨hne2 k (by omega), k, hkr, hc⟩
      · rw [if_neg hc]
        refine ⟨⟨k + 1, hkr, nI_1 k, fun i hi => ?_⟩, mu_up hb⟩
        rcases Nat.lt_or_ge i k with z | z
        · exact h1 i z
        · have e : i = k := by omega
          subst e; exact hc
  rcases hQ with ⟨h1, h2⟩ | ⟨h1, i, h2, h3⟩
  · exact iff_of_true h1 h2
  · exact iff_of_false h1 (fun z => z i h2 h3)
theorem ones_cN : ∀ j, j < 256 → f_X8_ones (nI j) = nI (cN j.testBit 8) := fun j hj => by rw [← bc_ones j hj, bc_cN j hj]
theorem holds_mono (hN : okN s n r) (hR : okR s r) {i x y : Nat} (hi : i < r) (hx : x < 256) (hy : y < 256) (hs : ∀ m, m < 8 → x.testBit m = true → y.testBit m = true) (h : ¬ f_X8_holds s (nI i) (nI x) = 0) : ¬ f_X8_holds s (nI i) (nI y) = 0 := by
  have hr := hN.2.2.2
  obtain ⟨k, c, e1, e2, hkc⟩ := hR i hi
  unfold f_X8_holds at h ⊢
  rw [c19 (by omega), c23 (by omega), e1, e2] at h ⊢
  have hm1 := cN_max x.testBit 8
  have hm2 := cN_max y.testBit 8
  rcases hkc with ⟨rfl, h1, h2⟩ | ⟨rfl, h1⟩ | ⟨rfl, h1, h2⟩
  · rw [if_pos (by decide), ones_cN x hx] at h
    rw [if_pos (by decide), ones_cN y hy]
    have hle := cN_le (n := 8) hs
    by_cases hc : nI (cN x.testBit 8) < nI c
    · rw [if_pos hc] at h; exact absurd rfl h
    · have : ¬ nI (cN y.testBit 8) < nI c := by
        intro z
        have z1 := (nI_ltI (by omega) (by omega)).mp z
        exact hc (nI_lt (by omega) (by omega))
      rw [if_neg this]; decide
  · rw [if_neg (by decide), if_pos (by decide), has_nI c (by omega) x hx] at h
    rw [if_neg (by decide), if_pos (by decide), has_nI c (by omega) y hy]
    cases hb : x.testBit c
    · rw [hb] at h; exact absurd rfl h
    · rw [hs c (by omega) hb]; decide
  · rw [if_neg (by decide), if_neg (by decide), and_nI (by omega) (by omega)] at h
    rw [if_neg (by decide), if_neg (by decide), and_nI (by omega) (by omega)]
    have hxl : x &&& c < 256 := Nat.lt_of_le_of_lt Nat.and_le_left hx
    have hyl : y &&& c < 256 := Nat.lt_of_le_of_lt Nat.and_le_left hy
    by_cases hc : nI (y &&& c) = 0
    · exfalso
      have h0 : y &&& c = 0 := (nI_eq (b := 0) (by omega) (by decide)).mp hc
      have h3 : x &&& c = 0 := by
        refine bits_eq hxl (by decide) (fun m hm => ?_)
        have hz : (y &&& c).testBit m = false := by rw [h0]; exact Nat.zero_testBit m
        rw [Nat.testBit_and] at hz
        rw [Nat.testBit_and, Nat.zero_testBit]
        cases hb : x.testBit m
        · rfl
        · rw [hs m hm hb] at hz; exact hz
      rw [h3] at h
      exact h rfl
    · rw [if_neg hc]; decide
theorem sub_bits {p j : Nat} (hp : p < 256) (hj : j < 256) : subB p j = true ↔ ∀ m, m < 8 → j.testBit m = true → p.testBit m = true := by
  unfold subB
  rw [decide_eq_true_iff]
  exact sub_nI hj hp
theorem yes_mono {x y : Nat} (hs : ∀ m, m < 8 → x.testBit m = true → y.testBit m = true) (hL : okL s n) (h8 : n ≤ 8) : ∀ m, m < 8 → (yesN s n x).testBit m = true → (yesN s n y).testBit m = true := by
  intro m hm h
  rw [yesN_bit, Bool.and_eq_true, decide_eq_true_iff] at h
  rw [yesN_bit, Bool.and_eq_true, decide_eq_true_iff]
  exact ⟨h.1, hs _ (by have := ldr_lt hL h8 h.1; omega) h.2⟩
theorem why_mono (hN : okN s n r) (hL : okL s n) (hW : okW s n) (hR : okR s r) {x y : Nat} (hx : x < 256) (hy : y < 256) (hs : ∀ m, m < 8 → x.testBit m = true → y.testBit m = true) (h : f_X8_why s (nI x) q = 0) : f_X8_why s (nI y) q = 0 := by
  have h8 := hN.2.1
  have hym := yes_mono (s := s) hs hL h8
  have hyx := yesN_lt (s := s) h8 (j := x)
  have hyy := yesN_lt (s := s) h8 (j := y)
  rw [why_def hN hL hx, weight_nI hN hW hyx] at h
  rw [why_def hN hL hy, weight_nI hN hW hyy]
  have b1 := wtN_le (s := s) (x := yesN s n x) (n := n) (fun m hm => (wN_eq hW hm).2)
  have b2 := wtN_le (s := s) (x := yesN s n y) (n := n) (fun m hm => (wN_eq hW hm).2)
  have b3 := wtN_mono (s := s) (x := yesN s n x) (y := yesN s n y) (n := n) (fun m hm => hym m (by omega))
  by_cases hq : q ≤ nI (wtN s (yesN s n x) n)
  · rw [if_pos hq] at h
    have hq2 : q ≤ nI (wtN s (yesN s n y) n) := Int32.le_iff_toInt_le.mpr (by
      have := Int32.le_iff_toInt_le.mp hq
      rw [nI_toInt (by omega)] at this ⊢
      omega)
    rw [if_pos hq2]
    rw [whyL_iff hN hL hx] at h
    rw [whyL_iff hN hL hy]
    exact fun i hi => holds_mono hN hR hi hyx hyy hym (h i hi)
  · rw [if_neg hq] at h
    exact absurd h (by decide)
theorem win_all (hN : okN s n r) (hL : okL s n) (hW : okW s n) (hR : okR s r) {j : Nat} (hj : j < 256) (h : wnB s n q j = true) : wnB s n q (plN s n) = true := by
  have hp := plN_lt (s := s) hN.2.1
  have h1 := wn_sub h
  unfold wnB at h ⊢
  rw [Bool.and_eq_true, decide_eq_true_iff] at h ⊢
  refine ⟨(sub_bits hp hp).mpr (fun m _ hb => hb), ?_⟩
  exact why_mono hN hL hW hR hj hp ((sub_bits hp hj).mp h1) h.2
theorem inA_bit {p m : Nat} : ∀ {k : Nat}, (inA W p k).testBit m = true ↔ p.testBit m = true ∧ ∀ j, j < k → W j = true → j.testBit m = true
  | 0 => ⟨fun h => ⟨h, fun j hj => absurd hj (Nat.not_lt_zero j)⟩, fun h => h.1⟩
  | k + 1 => by
    have ih := inA_bit (p := p) (m := m) (k := k)
    show (if W k then inA W p k &&& k else inA W p k).testBit m = true ↔ _
    have hs : (∀ j, j < k + 1 → W j = true → j.testBit m = true) ↔ (∀ j, j < k → W j = true → j.testBit m = true) ∧ (W k = true → k.testBit m = true) := by
      constructor
      · exact fun z => ⟨fun j hj => z j (Nat.lt_succ_of_lt hj), z k (Nat.lt_succ_self k)⟩
      · rintro ⟨z1, z2⟩ j hj
        rcases Nat.lt_or_ge j k with z | z
        · exact z1 j z
        · have e : j = k := by omega
          subst e; exact z2
    rw [hs, ← and_assoc, ← ih]
    cases hw : W k
    · rw [if_neg (by decide)]
      exact ⟨fun z => ⟨z, fun z2 => absurd z2 (by decide)⟩, fun z => z.1⟩
    · rw [if_pos rfl, Nat.testBit_and, Bool.and_eq_true]
      exact ⟨fun z => ⟨z.1, fun _ => z.2⟩, fun z => ⟨z.1, z.2 rfl⟩⟩
theorem ndB_iff {p m : Nat} : ndB W p m = true ↔ W p = true ∧ ∀ j, j < 256 → W j = true → j.testBit m = true := by
  unfold ndB
  rw [fd_and]
  have : (∀ j, j < 256 → (!W j || j.testBit m) = true) ↔ ∀ j, j < 256 → W j = true → j.testBit m = true := by
    constructor
    · intro z j hj hw
      have := z j hj
      rw [hw] at this
      exact this
    · intro z j hj
      cases hw : W j
      · rfl
      · rw [z j hj hw]; rfl
  rw [this]
theorem cN_pos {P : Nat → Bool} : ∀ {n : Nat}, cN P n = 0 ↔ ∀ k, k < n → P k = false
  | 0 => iff_of_true rfl (fun k hk => absurd hk (Nat.not_lt_zero k))
  | n + 1 => by
    rw [cN_s]
    have ih := cN_pos (P := P) (n := n)
    cases hP : P n
    · rw [if_neg (by decide), ih]
      constructor
      · intro z k hk
        rcases Nat.lt_or_ge k n with z2 | z2
        · exact z k z2
        · have e : k = n := by omega
          subst e; exact hP
      · exact fun z k hk => z k (Nat.lt_succ_of_lt hk)
    · rw [if_pos rfl]
      exact iff_of_false (by omega) (fun z => by have := z n (Nat.lt_succ_self n); rw [hP] at this; exact absurd this (by decide))
theorem needed_eq (hN : okN s n r) (hL : okL s n) (hW : okW s n) (hR : okR s r) {w : PowV} (hM : MI s n q (wnB s n q) 256 w) : f_X3_needed w = nI (orN (fun m => plB s n m && ndB (wnB s n q) (plN s n) m) n 0) := by
  have h8 := hN.2.1
  have hp := plN_lt (s := s) h8
  have hlt := orN_lt (P := fun m => plB s n m && ndB (wnB s n q) (plN s n) m) (a := 0) (by decide) h8
  have hm := cN_max (wnB s n q) 256
  unfold f_X3_needed
  rw [hM.2.2.1, hM.2.2.2.1]
  unfold ctF
  rw [ct_nI]
  by_cases hz : nI (cN (wnB s n q) 256) ≤ 0
  · rw [if_pos hz]
    have h0 : cN (wnB s n q) 256 ≤ 0 := (nI_leI (b := 0) (by omega) (by decide)).mp hz
    have h1 := cN_pos.mp (show cN (wnB s n q) 256 = 0 by omega)
    have h2 : orN (fun m => plB s n m && ndB (wnB s n q) (plN s n) m) n 0 = 0 := by
      refine bits_eq hlt (by decide) (fun i _ => ?_)
      rw [orN_bit, Nat.zero_testBit]
      cases hnd : ndB (wnB s n q) (plN s n) i
      · rw [Bool.and_false, Bool.and_false]; rfl
      · rw [ndB_iff, h1 _ hp] at hnd
        exact absurd hnd.1 (by decide)
    rw [h2]; rfl
  · rw [if_neg hz]
    have hex : wnB s n q (plN s n) = true := by
      cases hx : wnB s n q (plN s n)
      · exfalso
        apply hz
        have : cN (wnB s n q) 256 = 0 := cN_pos.mpr (fun k hk => by
          cases hk2 : wnB s n q k
          · rfl
          · rw [win_all hN hL hW hR hk hk2] at hx; exact absurd hx (by decide))
        rw [this]; decide
      · rfl
    refine congrArg nI (bits_eq (inA_lt hp 256) hlt (fun i hi => ?_))
    rw [Bool.eq_iff_iff, inA_bit, orN_bit, Nat.zero_testBit, Bool.false_or, Bool.and_eq_true, Bool.and_eq_true, ndB_iff, plN_bit, decide_eq_true_iff]
    constructor
    · rintro ⟨z1, z2⟩
      refine ⟨?_, z1, hex, z2⟩
      unfold plB at z1
      rw [Bool.and_eq_true, decide_eq_true_iff] at z1
      exact z1.1
    · rintro ⟨_, z1, _, z2⟩
      exact ⟨z1, z2⟩
theorem dummies_eq (hN : okN s n r) {w : PowV} (hM : MI s n q W 256 w) : f_X3_dummies w = nI (orN (fun m => plB s n m && decide (swF W m 256 = 0)) n 0) := by
  have h8 := hN.2.1
  have hp := plN_lt (s := s) h8
  unfold f_X3_dummies
  refine Eq.trans (congrArg Prod.fst (lp_fd (f := fun x : Int32 × Int32 => f_X3_dummies_st w x.1 x.2) (fun k (x : Int32) => (x, nI k)) (fun k x => if plB s n k && decide (swF W k 256 = 0) then x ||| (1 <<< (nI k &&& 31)) else x) (fun _ _ => True) (N := 8) (fun x => (x, nI 8)) (a := nI 0) trivial ?_ ?_ fuel8)) ?_
  · intro k x hk _
    refine ⟨?_, trivial⟩
    show f_X3_dummies_st w x (nI k) = _
    unfold f_X3_dummies_st
    rw [if_neg (n8 hk), con_has, hM.1, has_nI k hk _ hp, plN_bit, rAt_nI hk (by decide), hM.2.2.2.2.2.2.2.2.2.1 k hk, nI_1]
    cases plB s n k
    · rfl
    · by_cases h2 : swF W k 256 = 0
      · rw [if_pos h2, decide_eq_true h2]; rfl
      · rw [if_neg h2, decide_eq_false h2]; rfl
  · intro x _
    show f_X3_dummies_st w x (nI 8) = _
    unfold f_X3_dummies_st
    rw [if_pos y8]
  · refine (orI (by decide) (by decide)).trans (congrArg nI (bits_eq (orN_lt (by decide) (by decide)) (orN_lt (by decide) h8) (fun i hi => ?_)))
    rw [orN_bit, orN_bit, decide_eq_true hi, Bool.true_and]
    by_cases hin : i < n
    · rw [decide_eq_true hin, Bool.true_and]
    · have : plB s n i = false := by unfold plB; rw [decide_eq_false hin]; rfl
      rw [decide_eq_false hin, this]; rfl
end WT
