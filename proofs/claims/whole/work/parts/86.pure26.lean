/-! part 86: leastWeight, both runs -/
def lwB (s : Nat → Int32) (n c m : Nat) (k : Nat) : Nat := fd (fun j b => if lwC s n (nI c) m j then min b (lwN s n c m j) else b) k 51
theorem lwB_s (s : Nat → Int32) (n c m k : Nat) : lwB s n c m (k + 1) = if lwC s n (nI c) m k then min (lwB s n c m k) (lwN s n c m k) else lwB s n c m k := rfl
theorem lwB_le (s : Nat → Int32) (n c m : Nat) : ∀ k, lwB s n c m k ≤ 51
  | 0 => Nat.le_refl 51
  | k + 1 => by
    have h := lwB_le s n c m k
    rw [lwB_s]
    split <;> omega
theorem lwB_iff (s : Nat → Int32) (n c m : Nat) {d : Nat} (hd : d ≤ 50) : ∀ k, lwB s n c m k ≤ d ↔ ∃ j, j < k ∧ lwC s n (nI c) m j = true ∧ lwN s n c m j ≤ d
  | 0 => ⟨fun h => by have : (51 : Nat) ≤ d := h; omega, fun ⟨j, hj, _⟩ => absurd hj (Nat.not_lt_zero j)⟩
  | k + 1 => by
    have ih := lwB_iff s n c m hd k
    rw [lwB_s]
    have hs : (∃ j, j < k + 1 ∧ lwC s n (nI c) m j = true ∧ lwN s n c m j ≤ d) ↔ (∃ j, j < k ∧ lwC s n (nI c) m j = true ∧ lwN s n c m j ≤ d) ∨ (lwC s n (nI c) m k = true ∧ lwN s n c m k ≤ d) := by
      constructor
      · rintro ⟨j, hj, h1, h2⟩
        rcases Nat.lt_or_ge j k with z | z
        · exact Or.inl ⟨j, z, h1, h2⟩
        · have e : j = k := by omega
          subst e; exact Or.inr ⟨h1, h2⟩
      · rintro (⟨j, hj, h1, h2⟩ | ⟨h1, h2⟩)
        · exact ⟨j, Nat.lt_succ_of_lt hj, h1, h2⟩
        · exact ⟨k, Nat.lt_succ_self k, h1, h2⟩
    rw [hs, ← ih]
    cases hc : lwC s n (nI c) m k
    · rw [if_neg (by decide)]
      exact ⟨fun z => Or.inl z, fun z => z.resolve_right (fun y => absurd y.1 (by decide))⟩
    · rw [if_pos rfl]
      constructor
      · intro z
        by_cases h1 : lwB s n c m k ≤ d
        · exact Or.inl h1
        · exact Or.inr ⟨rfl, by omega⟩
      · rintro (z | ⟨_, z⟩) <;> omega
theorem min_nI {a b : Nat} (ha : a < 2 ^ 31) (hb : b < 2 ^ 31) : my_min (nI a) (nI b) = nI (min a b) := by
  unfold my_min
  by_cases h : b < a
  · rw [if_pos (nI_lt h ha), show min a b = b by omega]
  · rw [if_neg (nI_nlt (by omega) hb), show min a b = a by omega]
theorem max_sub {c W w : Nat} (hc : c ≤ 400) (hW : W ≤ 400) (hw : w ≤ W) : my_max 0 (nI c - (nI W - nI w)) = nI (c - (W - w)) := by
  have e1 : nI W - nI w = nI (W - w) := by
    have := nI_add (W - w) w
    rw [Nat.sub_add_cancel hw] at this
    rw [← this, Int32.add_sub_cancel]
  rw [e1]
  have e2 : (nI c - nI (W - w)).toInt = (c : Int) - ((W - w : Nat) : Int) := by
    rw [Int32.toInt_sub, nI_toInt (by omega), nI_toInt (by omega)]
    show Int.bmod _ 4294967296 = _
    rw [Int.bmod_eq_of_le (by omega) (by omega)]
  unfold my_max
  by_cases h : (0 : Int32) < nI c - nI (W - w)
  · rw [if_pos h]
    apply Int32.toInt_inj.mp
    have h2 := Int32.lt_iff_toInt_lt.mp h
    rw [i32_c0] at h2
    rw [e2, nI_toInt (by omega)]
    omega
  · rw [if_neg h]
    have h2 : ¬ (0 : Int32).toInt < (nI c - nI (W - w)).toInt := fun z => h (Int32.lt_iff_toInt_lt.mpr z)
    rw [i32_c0, e2] at h2
    rw [show c - (W - w) = 0 by omega]; rfl
section LW2
variable {v : SetV} {s : Nat → Int32} {n r : Nat} {w : PowV} {st y4 : Int32} {y10 : Nat → Int32} {q : Int32} {W : Nat → Bool}
theorem wts_eq (hv : eqS v s q) (hN : okN s n r) (hL : okL s n) (hW : okW s n) {c : Nat} (h1 : 1 ≤ c) (hc : c ≤ 400) (hq : q = nI c) (hM : MI s n q (wnB s n q) 256 w) {m j : Nat} (hm : m < 8) (hj : j < 256) (hs : subB (plN s n) j = true) (hb : j.testBit m = true) (st : Int32) :
    f_X7_weightToSwing st v w (nI m) (nI j) = if lwC s n (nI c) m j then nI (lwN s n c m j) else 51 := by
  have h8 := hN.2.1
  have hp := plN_lt (s := s) h8
  have hyl := yesN_lt (s := s) h8 (j := j)
  have hpm : plB s n m = true := by rw [← plN_bit]; exact (sub_bits hp hj).mp hs m hm hb
  have hmn := (plB_iff.mp hpm).1
  have hcl := clr_lt (m := m) hj
  have hsc := sub_clr hp hj hm hs
  have hws := wn_str hN hL hW h1 (by omega) hcl hsc
  have hwb := wtN_le (s := s) (x := yesN s n j) (n := n) (fun i hi => (wN_eq hW hi).2)
  have hge := wtN_ge (s := s) (x := yesN s n j) (m := m) (by rw [yes_m hL hmn hpm]; exact hb) n hmn
  have hwe := wN_eq hW hmn
  unfold f_X7_weightToSwing f_X3_isWinning
  rw [rAt_nI hj (by decide), hM.2.2.2.2.2.2.1 j hj, clr_nI m hm j hj, rAt_nI hcl (by decide), hM.2.2.2.2.2.2.2.1 _ hcl, hM.2.1, weight_eq hv hN, weight_nI hN hW hyl, rAt_nI hm (by decide), hv.2.2.2.1 m hm, hv.2.1, hwe.1]
  rw [← hq] at hws
  unfold lwC
  rw [hb, hs, Bool.true_and, Bool.true_and, ← hq]
  rcases fb_why hv hN hL (j := j) hj with ⟨f1, f2⟩ | ⟨i, hi, f1, f2⟩
  · rw [if_pos f1, decide_eq_true f2, Bool.true_and]
    by_cases hlt : strS s n (clr j m) < q
    · rw [if_pos hlt, if_pos rfl, hws.mp hlt, if_pos (by decide), hq, max_sub hc (by omega) hge]
      rfl
    · have hw1 : wnB s n q (clr j m) = true := by
        cases hz : wnB s n q (clr j m)
        · exact absurd (hws.mpr hz) hlt
        · rfl
      rw [if_neg hlt, if_neg (show ¬ (1 : Int32) = 0 by decide), hw1, if_neg (by decide)]
  · have hr := hN.2.2.2
    have hne : ¬ whyL s j = 0 := by
      have hne2 : ∀ i : Nat, i < 4 → ¬ nI (2 + i) = 0 := by decide
      rw [f2]; exact hne2 i (by omega)
    rw [if_neg (by rw [f1]; exact ne1 i (by omega)), decide_eq_false hne, Bool.false_and, if_neg (by decide)]
theorem lw_c (hv : eqS v s q) (hN : okN s n r) (hL : okL s n) (hW : okW s n) {c : Nat} (h1 : 1 ≤ c) (hc : c ≤ 400) (hq : q = nI c) {u : Int32 × PowV} (hM : MI s n q (wnB s n q) 256 u.2) {m : Nat} (hm : m < 8) :
    ∃ t, lp (fun (x : Int32 × Int32) => f_X7_leastWeight_st v (nI m) u x.1 x.2) default (((256 : Int32).toInt - (0 : Int32).toInt).toNat + 1) (51, 0) = (nI (lwB s n c m 256), t) := by
  refine lp_inm (I := fun z : Int32 × Int32 => ∃ k, k ≤ 256 ∧ z = (nI (lwB s n c m k), nI k)) (Q := fun z : Int32 × Int32 => ∃ t, z = (nI (lwB s n c m 256), t)) (fun z : Int32 × Int32 => ((256 : Int32).toInt - z.2.toInt).toNat) ?_ _ _ ⟨0, Nat.zero_le _, rfl⟩ (Nat.lt_succ_self _)
  rintro z ⟨k, hk, rfl⟩
  show Sum.elim _ _ (f_X7_leastWeight_st v (nI m) u (nI (lwB s n c m k)) (nI k))
  unfold f_X7_leastWeight_st
  by_cases hb : (256 : Int32) ≤ nI k
  · rw [if_pos hb]
    have hk8 := (nI_leI (a := 256) (by decide) (by omega)).mp hb
    have e : k = 256 := by omega
    subst e; exact ⟨_, rfl⟩
  · rw [if_neg hb]
    have hk8 : k < 256 := by
      rcases Nat.lt_or_ge k 256 with z | z
      · exact z
      · exact absurd (nI_le z (by omega)) hb
    have hle := lwB_le s n c m k
    unfold f_X3_isSetOfPlayers
    rw [hM.1, con_has, has_nI m hm k hk8, nI_1]
    have hmu : ((256 : Int32).toInt - (nI (k + 1)).toInt).toNat < ((256 : Int32).toInt - (nI k).toInt).toNat := by rw [← nI_1]; exact mu_up hb
    have hsub : subB (plN s n) k = decide ((nI k &&& (nI (plN s n) ^^^ (-1))) = 0) := rfl
    by_cases hs : (nI k &&& (nI (plN s n) ^^^ (-1))) = 0
    · rw [decide_eq_true hs] at hsub
      rw [if_pos hs, if_neg (by decide)]
      cases hbm : k.testBit m
      · rw [if_pos (by decide)]
        refine ⟨⟨k + 1, hk8, ?_⟩, hmu⟩
        have : lwC s n (nI c) m k = false := by unfold lwC; rw [hbm]; rfl
        rw [lwB_s, this]; rfl
      · rw [if_neg (by decide), wts_eq hv hN hL hW h1 hc hq hM hm hk8 hsub hbm]
        refine ⟨⟨k + 1, hk8, ?_⟩, hmu⟩
        rw [lwB_s]
        cases hlc : lwC s n (nI c) m k
        · rw [if_neg (by decide), if_neg (by decide), show (51 : Int32) = nI 51 from rfl, min_nI (by omega) (by decide), show min (lwB s n c m k) 51 = lwB s n c m k by omega]
        · have hln : lwN s n c m k ≤ 400 := by unfold lwN; omega
          rw [if_pos rfl, if_pos rfl, min_nI (by omega) (by omega)]
    · rw [decide_eq_false hs] at hsub
      rw [if_neg hs, if_pos rfl]
      refine ⟨⟨k + 1, hk8, ?_⟩, hmu⟩
      have : lwC s n (nI c) m k = false := by unfold lwC; rw [hsub]; cases k.testBit m <;> rfl
      rw [lwB_s, this]; rfl
theorem upd_upd {f : Nat → Int32} {i : Nat} {a b : Int32} : upd (upd f i a) i b = upd f i b := funext fun j => by
  by_cases h : j = i
  · rw [h, upd_eq, upd_eq]
  · rw [upd_ne h, upd_ne h, upd_ne h]
theorem lw_r (hN : okN s n r) (hL : okL s n) (hW : okW s n) (hR : okR s r) {c : Nat} (h1 : 1 ≤ c) (hc : c ≤ 400) (hq : s 1 = nI c) {m : Nat} (hm : m < n) (hp : plB s n m = true) (hb : bl y10) :
    ∃ (t a : Int32) (T y : Nat → Int32), lp (fun (x : Int32 × Int32 × Int32 × (Nat → Int32) × (Nat → Int32)) => f_X8_leastWeight_st (nI m) x.1 x.2.1 x.2.2.1 x.2.2.2.1 x.2.2.2.2) default (((50 : Int32).toInt + 1 - (0 : Int32).toInt).toNat + 1) ((-1), 0, y4, s, y10) = (if lwB s n c m 256 ≤ 50 then nI (lwB s n c m 256) else -1, t, a, T, y) ∧ (T = s ∨ ∃ x, T = upd s (3 + m) x) ∧ bl y := by
  have h8 := hN.2.1
  have hle := lwB_le s n c m 256
  refine lp_inm (I := fun z : Int32 × Int32 × Int32 × (Nat → Int32) × (Nat → Int32) => ∃ (k : Nat) (a : Int32) (T y : Nat → Int32), k ≤ 51 ∧ ((z = (-1, nI k, a, T, y) ∧ k ≤ lwB s n c m 256) ∨ (1 ≤ k ∧ z = (nI (k - 1), nI k, a, T, y) ∧ lwB s n c m 256 = k - 1)) ∧ (T = s ∨ ∃ x, T = upd s (3 + m) x) ∧ bl y) (Q := fun z : Int32 × Int32 × Int32 × (Nat → Int32) × (Nat → Int32) => ∃ (t a : Int32) (T y : Nat → Int32), z = (if lwB s n c m 256 ≤ 50 then nI (lwB s n c m 256) else -1, t, a, T, y) ∧ (T = s ∨ ∃ x, T = upd s (3 + m) x) ∧ bl y) (fun z => ((50 : Int32).toInt + 1 - z.2.1.toInt).toNat) ?_ _ _ ⟨0, y4, s, y10, Nat.zero_le _, Or.inl ⟨rfl, Nat.zero_le _⟩, Or.inl rfl, hb⟩ (Nat.lt_succ_self _)
  rintro z ⟨k, a, T, y, hk, hz, hT, hy⟩
  have hu : ∀ x, upd T (3 + m) x = upd s (3 + m) x := by
    intro x
    rcases hT with e | ⟨x0, e⟩
    · rw [e]
    · rw [e, upd_upd]
  have hT1 : T 1 = s 1 := by
    rcases hT with e | ⟨x0, e⟩
    · rw [e]
    · rw [e, upd_ne (by omega)]
  have hTp : f_X8_isPlayer T (nI m) = 1 := by
    have e0 : T 0 = s 0 := by
      rcases hT with e | ⟨x0, e⟩
      · rw [e]
      · rw [e, upd_ne (by omega)]
    have e1 : T (11 + m) = s (11 + m) := by
      rcases hT with e | ⟨x0, e⟩
      · rw [e]
      · rw [e, upd_ne (by omega)]
    have : f_X8_isPlayer T (nI m) = f_X8_isPlayer s (nI m) := by
      unfold f_X8_isPlayer f_X8_isMember
      rw [e0, c11 (by omega), e1]
    rw [this, isp_nI hN (by omega), hp]; rfl
  rcases hz with ⟨rfl, hkb⟩ | ⟨hk1, rfl, hkb⟩
  · show Sum.elim _ _ (f_X8_leastWeight_st (nI m) (-1) (nI k) a T y)
    unfold f_X8_leastWeight_st
    by_cases h51 : (50 : Int32) < nI k
    · rw [if_pos h51]
      have := (nI_ltI (a := 50) (by decide) (by omega)).mp h51
      exact ⟨_, a, T, y, by rw [if_neg (by omega)], hT, hy⟩
    · have hk50 : k ≤ 50 := by
        rcases Nat.lt_or_ge 50 k with z | z
        · exact absurd (nI_lt z (by omega)) h51
        · exact z
      rw [if_neg h51, if_pos rfl, hTp, if_neg (show ¬ (1 : Int32) = 0 by decide), my_l_eq, c3 (by omega), hu, hT1, nI_1]
      have hmu : ((50 : Int32).toInt + 1 - (nI (k + 1)).toInt).toNat < ((50 : Int32).toInt + 1 - (nI k).toInt).toNat := by rw [← nI_1]; exact mu_le h51 (by decide)
      obtain ⟨b1, b2, b3, b4⟩ := ok_upd hN hL hW hR (show m < 8 by omega) hk50
      have hl := lays_W b1 y (s 1)
      have hy2 := lays_z (s := upd s (3 + m) (nI k)) hy (s 1)
      have hcm := cN_max (swT (wnB (upd s (3 + m) (nI k)) n (s 1)) m) 256
      have hsw : f_X8_swings (f_X8_lays (upd s (3 + m) (nI k)) y (s 1)).2 (nI m) = nI (cN (swT (wnB (upd s (3 + m) (nI k)) n (s 1)) m) 256) := by
        rw [swings_W hl.2 (by omega)]
        unfold swF
        exact ct_nI _ 256
      have hiff : cN (swT (wnB (upd s (3 + m) (nI k)) n (s 1)) m) 256 = 0 ↔ ¬ lwB s n c m 256 ≤ k := by
        rw [cN_pos, lwB_iff s n c m hk50 256, hq]
        constructor
        · rintro h ⟨j, hj, g1, g2⟩
          have := h j hj
          rw [sw_lw hN hL hW hR hc hm hp hk50 hj, g1, decide_eq_true g2] at this
          exact absurd this (by decide)
        · intro h j hj
          rw [sw_lw hN hL hW hR hc hm hp hk50 hj]
          cases g1 : lwC s n (nI c) m j
          · rfl
          · rw [Bool.true_and]
            exact decide_eq_false (fun g2 => h ⟨j, hj, g1, g2⟩)
      rw [hsw]
      by_cases h0 : nI (cN (swT (wnB (upd s (3 + m) (nI k)) n (s 1)) m) 256) ≤ 0
      · rw [if_pos h0]
        have := (nI_leI (b := 0) (by omega) (by decide)).mp h0
        have h2 := hiff.mp (by omega)
        exact ⟨⟨k + 1, _, _, _, by omega, Or.inl ⟨rfl, by omega⟩, Or.inr ⟨_, rfl⟩, hy2⟩, hmu⟩
      · rw [if_neg h0]
        have h2 : lwB s n c m 256 ≤ k := by
          rcases Nat.lt_or_ge k (lwB s n c m 256) with z | z
          · have := hiff.mpr (by omega)
            exact absurd (by rw [this]; decide) h0
          · exact z
        exact ⟨⟨k + 1, _, _, _, by omega, Or.inr ⟨by omega, rfl, by omega⟩, Or.inr ⟨_, rfl⟩, hy2⟩, hmu⟩
  · show Sum.elim _ _ (f_X8_leastWeight_st (nI m) (nI (k - 1)) (nI k) a T y)
    unfold f_X8_leastWeight_st
    have hres : (nI (k - 1), nI k, a, T, y) = ((if lwB s n c m 256 ≤ 50 then nI (lwB s n c m 256) else -1, nI k, a, T, y) : Int32 × Int32 × Int32 × (Nat → Int32) × (Nat → Int32)) := by
      rw [if_pos (by omega), hkb]
    by_cases h51 : (50 : Int32) < nI k
    · rw [if_pos h51]
      exact ⟨_, a, T, y, hres, hT, hy⟩
    · have hne : ∀ k : Nat, k < 52 → ¬ nI k = -1 := by decide
      rw [if_neg h51, if_neg (hne (k - 1) (by omega))]
      exact ⟨_, a, T, y, hres, hT, hy⟩
theorem lwB_np (hN : okN s n r) {c m : Nat} (hm : m < 8) (hp : plB s n m = false) : lwB s n c m 256 = 51 := by
  have hpl := plN_lt (s := s) hN.2.1
  have hle := lwB_le s n c m 256
  rcases Nat.lt_or_ge 50 (lwB s n c m 256) with z | z
  · omega
  · obtain ⟨j, hj, h1, _⟩ := (lwB_iff s n c m (Nat.le_refl 50) 256).mp z
    unfold lwC at h1
    rw [Bool.and_eq_true, Bool.and_eq_true] at h1
    have := (sub_bits hpl hj).mp h1.2.1 m hm h1.1
    rw [plN_bit, hp] at this
    exact absurd this (by decide)
theorem R_leastWeight (hv : eqS v s (s 1)) (hg : GS s) (hp : pwr st s w) (hb : bl y10) (x0 : Int32) :
    (f_X7_leastWeight st v w x0 = .inl 1 ∧ f_X8_leastWeight y4 s y10 x0 = (0, (1, y4, s, y10))) ∨
    (∃ a u p, f_X7_leastWeight st v w x0 = .inr (a, u) ∧ f_X8_leastWeight y4 s y10 x0 = (a, (0, p)) ∧ pwr u.1 s u.2 ∧ (∀ j, p.2.1 j = s j) ∧ bl p.2.2) := by
  have hm := measured_ok hv hg hp
  have hpm := pwr_m hv hg hp
  obtain ⟨n, r, c, hN, hL, hW, hR, hq, hq1, hq2⟩ := hg
  have h8 := hN.2.1
  unfold f_X7_leastWeight f_X8_leastWeight
  rw [faultM hv]
  by_cases h1 : f_X8_isMember s x0 = 0
  · rw [if_pos h1, if_pos h1, rf_bad (Or.inl rfl)]
    exact Or.inl ⟨rfl, rfl⟩
  · rw [if_neg h1, if_neg h1, rf_fine]
    obtain ⟨m, hmn, rfl⟩ := mem_of hN h1
    have hM := hm.2 rfl n r hN
    have hle := lwB_le s n c m 256
    obtain ⟨t1, k1⟩ := lw_c hv hN hL hW hq1 hq2 hq (u := f_X7_measured st v w) hM (m := m) (by omega)
    rw [my_l_eq, k1, my_t2_eq, c3 (by omega)]
    refine Or.inr ⟨if lwB s n c m 256 ≤ 50 then nI (lwB s n c m 256) else -1, f_X7_measured st v w, ?_⟩
    have hF : (if nI (lwB s n c m 256) ≤ 50 then (.inr (nI (lwB s n c m 256), (f_X7_measured st v w).1, (f_X7_measured st v w).2) : Int32 ⊕ (Int32 × (Int32 × PowV))) else (.inr (-1, (f_X7_measured st v w).1, (f_X7_measured st v w).2))) = .inr (if lwB s n c m 256 ≤ 50 then nI (lwB s n c m 256) else -1, f_X7_measured st v w) := by
      by_cases z : lwB s n c m 256 ≤ 50
      · rw [if_pos (show nI (lwB s n c m 256) ≤ 50 from nI_le (b := 50) z (by decide)), if_pos z]
      · rw [if_neg (show ¬ nI (lwB s n c m 256) ≤ 50 from nI_ge (a := 50) (by omega) (by omega)), if_neg z]
    rw [hF]
    have hback : ∀ (T : Nat → Int32), (T = s ∨ ∃ x, T = upd s (3 + m) x) → ∀ j, upd T (3 + m) (s (3 + m)) j = s j := by
      intro T hT j
      have e : upd T (3 + m) (s (3 + m)) = upd s (3 + m) (s (3 + m)) := by
        rcases hT with e | ⟨x, e⟩
        · rw [e]
        · rw [e, upd_upd]
      rw [e]
      by_cases z : j = 3 + m
      · rw [z, upd_eq]
      · rw [upd_ne z]
    cases hpb : plB s n m
    · have hst : f_X8_leastWeight_st (nI m) (-1) 0 y4 s y10 = .inr (-1, 0, y4, s, y10) := by
        unfold f_X8_leastWeight_st
        rw [if_neg (by decide), if_pos rfl, isp_nI hN (by omega), hpb, if_pos (by decide)]
      have hl : lp (fun (x : Int32 × Int32 × Int32 × (Nat → Int32) × (Nat → Int32)) => f_X8_leastWeight_st (nI m) x.1 x.2.1 x.2.2.1 x.2.2.2.1 x.2.2.2.2) default (((50 : Int32).toInt + 1 - (0 : Int32).toInt).toNat + 1) ((-1), 0, y4, s, y10) = (-1, 0, y4, s, y10) := by
        rw [lp]
        dsimp only
        rw [hst]
      rw [hl, my_t5_eq, lwB_np hN (by omega) hpb, if_neg (by decide)]
      exact ⟨(y4, upd s (3 + m) (s (3 + m)), y10), rfl, rfl, hpm, hback s (Or.inl rfl), hb⟩
    · obtain ⟨t, a, T, y, k2, k3, k4⟩ := lw_r (y4 := y4) hN hL hW hR hq1 hq2 hq hmn hpb hb
      rw [k2, my_t5_eq]
      exact ⟨(a, upd T (3 + m) (s (3 + m)), y), rfl, rfl, hpm, hback T k3, k4⟩
end LW2
