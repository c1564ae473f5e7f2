/-! part 60 -/
def fd {α : Type} (g : Nat → α → α) : Nat → α → α
  | 0, a => a
  | n + 1, a => g n (fd g n a)
theorem fd_congr {α : Type} {g h : Nat → α → α} {a : α} : ∀ {n : Nat}, (∀ k, k < n → ∀ x, g k x = h k x) → fd g n a = fd h n a
  | 0, _ => rfl
  | n + 1, H => by
    show g n (fd g n a) = h n (fd h n a)
    rw [fd_congr (n := n) (fun k hk x => H k (Nat.lt_succ_of_lt hk) x), H n (Nat.lt_succ_self n)]
theorem lp_fd {σ ρ α : Type} {f : σ → σ ⊕ ρ} {d : ρ} (e : Nat → α → σ) (g : Nat → α → α) (P : Nat → α → Prop) {N m : Nat} (r : α → ρ) {a : α} (h0 : P 0 a)
    (hs : ∀ k x, k < N → P k x → f (e k x) = .inl (e (k + 1) (g k x)) ∧ P (k + 1) (g k x)) (hN : ∀ x, P N x → f (e N x) = .inr (r x)) (hm : N < m) : lp f d m (e 0 a) = r (fd g N a) := by
  have key : ∀ k, k ≤ N → lp f d m (e 0 a) = lp f d (m - k) (e k (fd g k a)) ∧ P k (fd g k a) := by
    intro k
    induction k with
    | zero => intro _; exact ⟨rfl, h0⟩
    | succ k ih =>
      intro hk
      obtain ⟨i1, i2⟩ := ih (Nat.le_of_succ_le hk)
      obtain ⟨s1, s2⟩ := hs k (fd g k a) hk i2
      refine ⟨?_, s2⟩
      rw [i1]
      have e1 : m - k = (m - (k + 1)) + 1 := by omega
      rw [e1, lp, s1]
      rfl
  obtain ⟨k1, k2⟩ := key N (Nat.le_refl N)
  rw [k1]
  have e1 : m - N = (m - N - 1) + 1 := by omega
  rw [e1, lp, hN _ k2]
theorem lp_eq {σ ρ : Type} {f g : σ → σ ⊕ ρ} {d : ρ} (I : σ → Prop) (h : ∀ x, I x → f x = g x ∧ ∀ y, g x = .inl y → I y) : ∀ (n : Nat) (x : σ), I x → lp f d n x = lp g d n x
  | 0, _, _ => rfl
  | n + 1, x, hI => by
    rw [lp, lp]
    obtain ⟨h1, h2⟩ := h x hI
    rw [h1]
    cases hg : g x with
    | inl y => exact lp_eq I h n y (h2 y hg)
    | inr r => rfl
theorem nI_bv {a : Nat} (h : a < 2 ^ 31) : (nI a).toBitVec.toNat = a := by
  have h1 := i32_nat (s := nI a) (by rw [nI_toInt h]; omega)
  rw [nI_toInt h] at h1
  omega
theorem or_nI {a b : Nat} (ha : a < 2 ^ 31) (hb : b < 2 ^ 31) : nI a ||| nI b = nI (a ||| b) := by
  have e : (nI a ||| nI b).toBitVec.toNat = a ||| b := by
    show (nI a).toBitVec.toNat ||| (nI b).toBitVec.toNat = _
    rw [nI_bv ha, nI_bv hb]
  have hl : a ||| b < 2 ^ 31 := Nat.or_lt_two_pow ha hb
  exact Int32.toInt_inj.mp (by rw [nat_i32 (by rw [e]; omega), e, nI_toInt hl])
theorem and_nI {a b : Nat} (ha : a < 2 ^ 31) (hb : b < 2 ^ 31) : nI a &&& nI b = nI (a &&& b) := by
  have e : (nI a &&& nI b).toBitVec.toNat = a &&& b := by
    show (nI a).toBitVec.toNat &&& (nI b).toBitVec.toNat = _
    rw [nI_bv ha, nI_bv hb]
  have hl : a &&& b < 2 ^ 31 := Nat.lt_of_le_of_lt Nat.and_le_left ha
  exact Int32.toInt_inj.mp (by rw [nat_i32 (by rw [e]; omega), e, nI_toInt hl])
theorem shl_nI : ∀ k, k < 9 → (1 <<< (nI k &&& 31) : Int32) = nI (2 ^ k) := by decide +kernel
set_option maxRecDepth 100000 in
theorem has_nI : ∀ m, m < 8 → ∀ j, j < 256 → f_X8_has (nI j) (nI m) = if j.testBit m then 1 else 0 := by decide +kernel
theorem con_has (x m : Int32) : f_X7_contains x m = f_X8_has x m := rfl
def clr (j m : Nat) : Nat := if j.testBit m then j - 2 ^ m else j
set_option maxRecDepth 100000 in
theorem clr_nI : ∀ m, m < 8 → ∀ j, j < 256 → nI j &&& ((1 <<< (nI m &&& 31)) ^^^ (-1)) = nI (clr j m) := by decide +kernel
theorem clr_lt {j m : Nat} (h : j < 256) : clr j m < 256 := by
  unfold clr
  split
  · exact Nat.lt_of_le_of_lt (Nat.sub_le _ _) h
  · exact h
set_option maxRecDepth 100000 in
theorem clr_bit : ∀ m, m < 8 → ∀ j, j < 256 → ∀ i, i < 8 → (clr j m).testBit i = (j.testBit i && !(i == m)) := by decide +kernel
theorem bit_hi {j i : Nat} (h : j < 256) (hi : 8 ≤ i) : j.testBit i = false := Nat.testBit_lt_two_pow (Nat.lt_of_lt_of_le h (Nat.pow_le_pow_right (n := 2) (by decide) hi))
theorem bit_8 {j i : Nat} (h : j < 256) (hi : j.testBit i = true) : i < 8 := by
  rcases Nat.lt_or_ge i 8 with z | z
  · exact z
  · rw [bit_hi h z] at hi; exact absurd hi (by decide)
theorem bits_eq {a b : Nat} (ha : a < 256) (hb : b < 256) (h : ∀ i, i < 8 → a.testBit i = b.testBit i) : a = b := by
  refine Nat.eq_of_testBit_eq (fun i => ?_)
  rcases Nat.lt_or_ge i 8 with z | z
  · exact h i z
  · rw [bit_hi ha z, bit_hi hb z]
theorem sub_nI {j p : Nat} (hj : j < 256) (hp : p < 256) : (nI j &&& (nI p ^^^ (-1))) = 0 ↔ ∀ m, m < 8 → j.testBit m = true → p.testBit m = true := by
  have e : (nI j &&& (nI p ^^^ (-1))).toBitVec.toNat = j &&& (p ^^^ 4294967295) := by
    show (nI j).toBitVec.toNat &&& ((nI p).toBitVec.toNat ^^^ (-1 : Int32).toBitVec.toNat) = _
    rw [nI_bv (by omega), nI_bv (by omega)]; rfl
  have hl : j &&& (p ^^^ 4294967295) < 256 := Nat.lt_of_le_of_lt Nat.and_le_left hj
  have e2 : (nI j &&& (nI p ^^^ (-1))) = nI (j &&& (p ^^^ 4294967295)) := Int32.toInt_inj.mp (by rw [nat_i32 (by rw [e]; omega), e, nI_toInt (by omega)])
  have hb : ∀ m, m < 8 → (j &&& (p ^^^ 4294967295)).testBit m = (j.testBit m && !p.testBit m) := by
    intro m hm
    rw [Nat.testBit_and, Nat.testBit_xor, show (4294967295 : Nat) = 2 ^ 32 - 1 from rfl, Nat.testBit_two_pow_sub_one]
    have : decide (m < 32) = true := decide_eq_true (by omega)
    rw [this]; cases p.testBit m <;> rfl
  rw [e2]
  constructor
  · intro h m hm hjm
    have h0 : j &&& (p ^^^ 4294967295) = 0 := (nI_eq (b := 0) (by omega) (by decide)).mp h
    have h1 := hb m hm
    rw [h0, Nat.zero_testBit, hjm] at h1
    cases hpm : p.testBit m
    · rw [hpm] at h1; exact absurd h1 (by decide)
    · rfl
  · intro h
    have h0 : j &&& (p ^^^ 4294967295) = 0 := by
      refine bits_eq hl (by decide) (fun i hi => ?_)
      rw [hb i hi, Nat.zero_testBit]
      cases hjm : j.testBit i
      · rfl
      · rw [h i hi hjm]; rfl
    rw [h0]; rfl
def orN (P : Nat → Bool) : Nat → Nat → Nat := fd (fun k x => if P k then x ||| 2 ^ k else x)
theorem orN_lt {P : Nat → Bool} {a : Nat} (ha : a < 256) : ∀ {n : Nat}, n ≤ 8 → orN P n a < 256
  | 0, _ => ha
  | n + 1, h => by
    show (if P n then orN P n a ||| 2 ^ n else orN P n a) < 256
    have h1 := orN_lt (P := P) ha (n := n) (by omega)
    split
    · exact Nat.or_lt_two_pow (n := 8) h1 (Nat.pow_lt_pow_right (by decide) (by omega))
    · exact h1
theorem orN_bit {P : Nat → Bool} {a m : Nat} : ∀ {n : Nat}, (orN P n a).testBit m = (a.testBit m || (decide (m < n) && P m))
  | 0 => by
    show a.testBit m = _
    have : decide (m < 0) = false := decide_eq_false (Nat.not_lt_zero m)
    rw [this]; cases a.testBit m <;> rfl
  | n + 1 => by
    show (if P n then orN P n a ||| 2 ^ n else orN P n a).testBit m = _
    have h1 := orN_bit (P := P) (a := a) (m := m) (n := n)
    by_cases hm : m = n
    · subst hm
      have t1 : decide (m < m) = false := decide_eq_false (Nat.lt_irrefl m)
      have t2 : decide (m < m + 1) = true := decide_eq_true (Nat.lt_succ_self m)
      rw [t1] at h1
      rw [t2]
      cases hP : P m
      · rw [if_neg (by decide), h1]; cases a.testBit m <;> rfl
      · rw [if_pos rfl, Nat.testBit_or, h1, Nat.testBit_two_pow_self]; cases a.testBit m <;> rfl
    · have t : decide (m < n + 1) = decide (m < n) := by
        by_cases hmn : m < n
        · rw [decide_eq_true hmn, decide_eq_true (Nat.lt_succ_of_lt hmn)]
        · rw [decide_eq_false hmn, decide_eq_false (by omega)]
      rw [t, ← h1]
      split
      · rw [Nat.testBit_or, Nat.testBit_two_pow_of_ne (fun z => hm z.symm)]
        cases (orN P n a).testBit m <;> rfl
      · rfl
theorem orI {P : Nat → Bool} {a : Nat} (ha : a < 256) : ∀ {n : Nat}, n ≤ 8 → fd (fun k (x : Int32) => if P k then x ||| (1 <<< (nI k &&& 31)) else x) n (nI a) = nI (orN P n a)
  | 0, _ => rfl
  | n + 1, h => by
    show (if P n then fd (fun k (x : Int32) => if P k then x ||| (1 <<< (nI k &&& 31)) else x) n (nI a) ||| (1 <<< (nI n &&& 31)) else fd (fun k (x : Int32) => if P k then x ||| (1 <<< (nI k &&& 31)) else x) n (nI a)) = nI (if P n then orN P n a ||| 2 ^ n else orN P n a)
    rw [orI ha (n := n) (by omega)]
    have h1 := orN_lt (P := P) ha (n := n) (by omega)
    split
    · have h2 : (2 : Nat) ^ n ≤ 2 ^ 8 := Nat.pow_le_pow_right (by decide) (by omega)
      rw [shl_nI n (by omega), or_nI (by omega) (by omega)]
    · rfl

