/-! part 65 -/
def cN (P : Nat → Bool) (n : Nat) : Nat := fd (fun k c => if P k then c + 1 else c) n 0
theorem cN_s (P : Nat → Bool) (n : Nat) : cN P (n + 1) = if P n then cN P n + 1 else cN P n := rfl
theorem cN_max (P : Nat → Bool) : ∀ n : Nat, cN P n ≤ n
  | 0 => Nat.le_refl 0
  | n + 1 => by
    rw [cN_s]
    have := cN_max P n
    split <;> omega
theorem cN_le {P Q : Nat → Bool} : ∀ {n : Nat}, (∀ k, k < n → P k = true → Q k = true) → cN P n ≤ cN Q n
  | 0, _ => Nat.le_refl 0
  | n + 1, H => by
    rw [cN_s, cN_s]
    have h1 := cN_le (n := n) (fun k hk => H k (Nat.lt_succ_of_lt hk))
    have h2 := H n (Nat.lt_succ_self n)
    cases hP : P n
    · cases hQ : Q n
      · rw [if_neg (by decide), if_neg (by decide)]; exact h1
      · rw [if_neg (by decide), if_pos rfl]; omega
    · rw [h2 hP, if_pos rfl, if_pos rfl]; omega
theorem cN_eq {P Q : Nat → Bool} : ∀ {n : Nat}, (∀ k, k < n → P k = true → Q k = true) → (cN P n = cN Q n ↔ ∀ k, k < n → Q k = true → P k = true)
  | 0, _ => iff_of_true rfl (fun k hk => absurd hk (Nat.not_lt_zero k))
  | n + 1, H => by
    rw [cN_s, cN_s]
    have H1 : ∀ k, k < n → P k = true → Q k = true := fun k hk => H k (Nat.lt_succ_of_lt hk)
    have h1 := cN_le H1
    have h3 := cN_eq H1
    have h2 := H n (Nat.lt_succ_self n)
    have hs : (∀ k, k < n + 1 → Q k = true → P k = true) ↔ (∀ k, k < n → Q k = true → P k = true) ∧ (Q n = true → P n = true) := by
      constructor
      · exact fun z => ⟨fun k hk => z k (Nat.lt_succ_of_lt hk), z n (Nat.lt_succ_self n)⟩
      · rintro ⟨z1, z2⟩ k hk
        rcases Nat.lt_or_ge k n with z | z
        · exact z1 k z
        · have e : k = n := by omega
          subst e; exact z2
    rw [hs, ← h3]
    cases hP : P n
    · cases hQ : Q n
      · rw [if_neg (by decide), if_neg (by decide)]
        exact ⟨fun z => ⟨z, fun z => z⟩, fun z => z.1⟩
      · rw [if_neg (by decide), if_pos rfl]
        exact iff_of_false (by omega) (fun z => absurd (z.2 rfl) (by decide))
    · rw [h2 hP, if_pos rfl, if_pos rfl]
      exact ⟨fun z => ⟨by omega, fun _ => rfl⟩, fun z => by omega⟩
theorem cN_congr {P Q : Nat → Bool} {n : Nat} (h : ∀ k, k < n → P k = Q k) : cN P n = cN Q n := fd_congr (fun k hk x => by rw [h k hk])
theorem ct_nI (P : Nat → Bool) : ∀ n : Nat, fd (fun k (x : Int32) => if P k then x + 1 else x) n 0 = nI (cN P n)
  | 0 => rfl
  | n + 1 => by
    show (if P n then fd (fun k (x : Int32) => if P k then x + 1 else x) n 0 + 1 else fd (fun k (x : Int32) => if P k then x + 1 else x) n 0) = nI (if P n then cN P n + 1 else cN P n)
    rw [ct_nI P n]
    split
    · exact nI_1 _
    · rfl
theorem fd_and {c : Nat → Bool} {b : Bool} : ∀ {n : Nat}, fd (fun m x => x && c m) n b = true ↔ b = true ∧ ∀ m, m < n → c m = true
  | 0 => ⟨fun h => ⟨h, fun m hm => absurd hm (Nat.not_lt_zero m)⟩, fun h => h.1⟩
  | n + 1 => by
    show (fd (fun m x => x && c m) n b && c n) = true ↔ _
    rw [Bool.and_eq_true, fd_and (n := n)]
    constructor
    · rintro ⟨⟨h1, h2⟩, h3⟩
      refine ⟨h1, fun m hm => ?_⟩
      rcases Nat.lt_or_ge m n with z | z
      · exact h2 m z
      · have e : m = n := by omega
        subst e; exact h3
    · rintro ⟨h1, h2⟩
      exact ⟨⟨h1, fun m hm => h2 m (Nat.lt_succ_of_lt hm)⟩, h2 n (Nat.lt_succ_self n)⟩
theorem bc_cN : ∀ j, j < 256 → f_J6_bitCount_0f7a4 (nI j) = nI (cN j.testBit 8) := by decide +kernel
theorem le_iff {W : Nat → Bool} {j : Nat} (hw : W j = true) : cN (fun m => swT W m j) 8 = cN j.testBit 8 ↔ leB W j = true := by
  have h1 := cN_eq (P := fun m => swT W m j) (Q := j.testBit) (n := 8) (fun k _ h => by
    unfold swT at h
    rw [Bool.and_eq_true] at h
    exact h.1)
  rw [h1]
  unfold leB
  rw [fd_and]
  constructor
  · intro z
    refine ⟨hw, fun m hm => ?_⟩
    have z1 := z m hm
    cases hb : j.testBit m
    · rfl
    · have z2 := z1 hb
      unfold swT at z2
      rw [hb, hw] at z2
      exact z2
  · rintro ⟨_, z⟩ m hm hb
    have z1 := z m hm
    rw [hb] at z1
    unfold swT
    rw [hb, hw]
    exact z1
theorem fd_add (f g : Nat → Int32) : ∀ n : Nat, fd (fun m (x : Int32) => x + (f m + g m)) n 0 = fd (fun m x => x + f m) n 0 + fd (fun m x => x + g m) n 0
  | 0 => (Int32.add_zero (0 : Int32)).symm
  | n + 1 => by
    show fd (fun m (x : Int32) => x + (f m + g m)) n 0 + (f n + g n) = (fd (fun m x => x + f m) n 0 + f n) + (fd (fun m x => x + g m) n 0 + g n)
    rw [fd_add f g n]
    ac_rfl
theorem fd_bI (P : Nat → Bool) : ∀ n : Nat, fd (fun m (x : Int32) => x + bI (P m)) n 0 = nI (cN P n)
  | 0 => rfl
  | n + 1 => by
    show fd (fun m (x : Int32) => x + bI (P m)) n 0 + bI (P n) = nI (if P n then cN P n + 1 else cN P n)
    rw [fd_bI P n]
    cases P n
    · rw [if_neg (by decide), bI_f, Int32.add_zero]
    · rw [if_pos rfl, bI_t]; exact nI_1 _
theorem allF_s (W : Nat → Bool) (k : Nat) : allF W (k + 1) = allF W k + nI (cN (fun m => swT W m k) 8) := by
  rw [← fd_bI]
  unfold allF
  rw [← fd_add]
  refine fd_congr (fun m _ x => ?_)
  show x + (if swT W m k then swF W m k + 1 else swF W m k) = _
  cases swT W m k
  · rw [if_neg (by decide), bI_f, Int32.add_zero]
  · rfl
theorem allF_0 (W : Nat → Bool) : allF W 0 = 0 := by
  show fd (fun m (x : Int32) => x + 0) 8 0 = 0
  decide
-- one winning set
def cwG (W : Nat → Bool) (a : Int32) (j : Nat) (m : Nat) (z : Int32 × (Nat → Int32) × (Nat → Int32)) : Int32 × (Nat → Int32) × (Nat → Int32) :=
  if j.testBit m && !W (clr j m) then (z.1 + 1, upd z.2.1 m (z.2.1 m + 1), upd z.2.2 m (z.2.2 m + oT a j)) else z
theorem cwG_t {W : Nat → Bool} {a : Int32} {j m : Nat} (h : (j.testBit m && !W (clr j m)) = true) (z : Int32 × (Nat → Int32) × (Nat → Int32)) : cwG W a j m z = (z.1 + 1, upd z.2.1 m (z.2.1 m + 1), upd z.2.2 m (z.2.2 m + oT a j)) := if_pos h
theorem cwG_f {W : Nat → Bool} {a : Int32} {j m : Nat} (h : (j.testBit m && !W (clr j m)) = false) (z : Int32 × (Nat → Int32) × (Nat → Int32)) : cwG W a j m z = z := if_neg (by rw [h]; decide)
theorem cwG_all (W : Nat → Bool) (a : Int32) (j : Nat) (f g : Nat → Int32) : ∀ n : Nat, (fd (cwG W a j) n (0, f, g)).1 = nI (cN (fun m => j.testBit m && !W (clr j m)) n) ∧
    (∀ m, (fd (cwG W a j) n (0, f, g)).2.1 m = if decide (m < n) && (j.testBit m && !W (clr j m)) then f m + 1 else f m) ∧
    (∀ m, (fd (cwG W a j) n (0, f, g)).2.2 m = if decide (m < n) && (j.testBit m && !W (clr j m)) then g m + oT a j else g m)
  | 0 => ⟨rfl, fun m => by rw [decide_eq_false (Nat.not_lt_zero m)]; rfl, fun m => by rw [decide_eq_false (Nat.not_lt_zero m)]; rfl⟩
  | n + 1 => by
    obtain ⟨h1, h2, h3⟩ := cwG_all W a j f g n
    show (cwG W a j n (fd (cwG W a j) n (0, f, g))).1 = _ ∧ (∀ m, (cwG W a j n (fd (cwG W a j) n (0, f, g))).2.1 m = _) ∧ (∀ m, (cwG W a j n (fd (cwG W a j) n (0, f, g))).2.2 m = _)
    rw [cN_s]
    have hlt : ∀ m, ¬ m = n → decide (m < n + 1) = decide (m < n) := by
      intro m hm
      by_cases z : m < n
      · rw [decide_eq_true z, decide_eq_true (Nat.lt_succ_of_lt z)]
      · rw [decide_eq_false z, decide_eq_false (by omega)]
    have hn1 : decide (n < n) = false := decide_eq_false (Nat.lt_irrefl n)
    have hn2 : decide (n < n + 1) = true := decide_eq_true (Nat.lt_succ_self n)
    cases hc : (j.testBit n && !W (clr j n))
    · rw [cwG_f hc, if_neg (by decide)]
      refine ⟨h1, fun m => ?_, fun m => ?_⟩
      · by_cases hm : m = n
        · subst hm
          have := h2 m
          rw [hc, Bool.and_false] at this ⊢
          exact this
        · rw [hlt m hm]; exact h2 m
      · by_cases hm : m = n
        · subst hm
          have := h3 m
          rw [hc, Bool.and_false] at this ⊢
          exact this
        · rw [hlt m hm]; exact h3 m
    · rw [cwG_t hc, if_pos rfl]
      refine ⟨by show (fd (cwG W a j) n (0, f, g)).1 + 1 = _; rw [h1]; exact nI_1 _, fun m => ?_, fun m => ?_⟩
      · show upd (fd (cwG W a j) n (0, f, g)).2.1 n _ m = _
        by_cases hm : m = n
        · subst hm
          rw [upd_eq, h2 m, hn1, hn2, hc]; rfl
        · rw [upd_ne hm, hlt m hm]; exact h2 m
      · show upd (fd (cwG W a j) n (0, f, g)).2.2 n _ m = _
        by_cases hm : m = n
        · subst hm
          rw [upd_eq, h3 m, hn1, hn2, hc]; rfl
        · rw [upd_ne hm, hlt m hm]; exact h3 m
theorem fac_eq : ∀ k, k < 9 → ∀ m, m < 9 → 1 ≤ k → k ≤ m → (f_X7_factorial (nI k - 1)) * (f_X7_factorial (nI m - nI k)) = (f_X8_factorial (nI k - 1)) * (f_X8_factorial (nI m - nI k)) := by decide +kernel
theorem cN_bit1 : ∀ i, i < 8 → ∀ j, j < 256 → j.testBit i = true → 1 ≤ cN j.testBit 8 := by decide +kernel
theorem oT_eq {p j i : Nat} (hp : p < 256) (hj : j < 256) (hs : ∀ m, m < 8 → j.testBit m = true → p.testBit m = true) (hi : i < 8) (hb : j.testBit i = true) : (f_X7_factorial ((f_J6_bitCount_0f7a4 (nI j)) - 1)) * (f_X7_factorial ((f_J6_bitCount_0f7a4 (nI p)) - (f_J6_bitCount_0f7a4 (nI j)))) = oT (nI p) j := by
  unfold oT
  have h1 : cN j.testBit 8 ≤ cN p.testBit 8 := cN_le hs
  have h2 : cN p.testBit 8 ≤ 8 := cN_max _ 8
  have h3 := cN_bit1 i hi j hj hb
  rw [← bc_ones j hj, ← bc_ones p hp, bc_cN j hj, bc_cN p hp]
  exact fac_eq _ (by omega) _ (by omega) h3 h1
theorem cw_eq {w : PowV} {W : Nat → Bool} {p j : Nat} (hp : p < 256) (hj : j < 256) (hw : w.1 = nI p) (hs : ∀ m, m < 8 → j.testBit m = true → p.testBit m = true)
    (hv : ∀ m, m < 8 → j.testBit m = true → ((w.2.2.2.2.2.2.2.1 (clr j m) < w.2.1) ↔ W (clr j m) = false)) :
    f_X3_countWinning w (nI j) = (fun z : Int32 × (Nat → Int32) × (Nat → Int32) => (if z.1 = (f_J6_bitCount_0f7a4 (nI j)) then (w.1, w.2.1, (w.2.2.1 + 1), (w.2.2.2.1 &&& nI j), (w.2.2.2.2.1 + 1), (w.2.2.2.2.2.1 + z.1), w.2.2.2.2.2.2.1, w.2.2.2.2.2.2.2.1, (rPut 256 w.2.2.2.2.2.2.2.2.1 w.2.2.2.2.1 (nI j)), z.2.1, z.2.2, w.2.2.2.2.2.2.2.2.2.2.2) else (w.1, w.2.1, (w.2.2.1 + 1), (w.2.2.2.1 &&& nI j), w.2.2.2.2.1, (w.2.2.2.2.2.1 + z.1), w.2.2.2.2.2.2.1, w.2.2.2.2.2.2.2.1, w.2.2.2.2.2.2.2.2.1, z.2.1, z.2.2, w.2.2.2.2.2.2.2.2.2.2.2) : PowV)) (fd (cwG W (nI p) j) 8 (0, w.2.2.2.2.2.2.2.2.2.1, w.2.2.2.2.2.2.2.2.2.2.1)) := by
  unfold f_X3_countWinning
  refine congrArg (fun t : Int32 × Int32 × (Nat → Int32) × (Nat → Int32) => (if t.1 = (f_J6_bitCount_0f7a4 (nI j)) then (w.1, w.2.1, (w.2.2.1 + 1), (w.2.2.2.1 &&& nI j), (w.2.2.2.2.1 + 1), (w.2.2.2.2.2.1 + t.1), w.2.2.2.2.2.2.1, w.2.2.2.2.2.2.2.1, (rPut 256 w.2.2.2.2.2.2.2.2.1 w.2.2.2.2.1 (nI j)), t.2.2.1, t.2.2.2, w.2.2.2.2.2.2.2.2.2.2.2) else (w.1, w.2.1, (w.2.2.1 + 1), (w.2.2.2.1 &&& nI j), w.2.2.2.2.1, (w.2.2.2.2.2.1 + t.1), w.2.2.2.2.2.2.1, w.2.2.2.2.2.2.2.1, w.2.2.2.2.2.2.2.2.1, t.2.2.1, t.2.2.2, w.2.2.2.2.2.2.2.2.2.2.2) : PowV)) (lp_fd (f := fun x : Int32 × Int32 × (Nat → Int32) × (Nat → Int32) => f_X3_countWinning_st w (nI j) x.1 x.2.1 x.2.2.1 x.2.2.2) (fun k (z : Int32 × (Nat → Int32) × (Nat → Int32)) => (z.1, nI k, z.2.1, z.2.2)) (cwG W (nI p) j) (fun _ _ => True) (N := 8) (fun z => (z.1, nI 8, z.2.1, z.2.2)) (a := (0, w.2.2.2.2.2.2.2.2.2.1, w.2.2.2.2.2.2.2.2.2.2.1)) trivial ?_ ?_ fuel8)
  · rintro k ⟨c, f, g⟩ hk _
    refine ⟨?_, trivial⟩
    show f_X3_countWinning_st w (nI j) c (nI k) f g = _
    unfold f_X3_countWinning_st f_X3_isWinning f_X3_playerCount cwG
    rw [if_neg (n8 hk), con_has, has_nI k hk j hj, clr_nI k hk j hj, rAt_nI (clr_lt hj) (by decide), rRaise_nI hk (by decide), rRaise_nI hk (by decide), nI_1]
    show (if (if j.testBit k then (1 : Int32) else 0) = 0 then _ else (if (if w.2.2.2.2.2.2.2.1 (clr j k) < w.2.1 then (0 : Int32) else 1) = 0 then (.inl (c + 1, nI (k + 1), upd f k (f k + 1), upd g k (g k + (f_X7_factorial ((f_J6_bitCount_0f7a4 (nI j)) - 1)) * (f_X7_factorial ((f_J6_bitCount_0f7a4 w.1) - (f_J6_bitCount_0f7a4 (nI j)))))) : (Int32 × Int32 × (Nat → Int32) × (Nat → Int32)) ⊕ (Int32 × Int32 × (Nat → Int32) × (Nat → Int32))) else _)) = _
    rw [hw]
    cases hb : j.testBit k
    · rfl
    · rw [oT_eq hp hj hs hk hb]
      by_cases hc : w.2.2.2.2.2.2.2.1 (clr j k) < w.2.1
      · rw [if_pos hc, (hv k hk hb).mp hc]; rfl
      · have : W (clr j k) = true := by
          cases hW : W (clr j k)
          · exact absurd ((hv k hk hb).mpr hW) hc
          · rfl
        rw [if_neg hc, this]; rfl
  · rintro ⟨c, f, g⟩ _
    show f_X3_countWinning_st w (nI j) c (nI 8) f g = _
    unfold f_X3_countWinning_st
    rw [if_pos y8]

