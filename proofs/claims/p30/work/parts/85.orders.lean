/-! part 85: one is the pivot of each order, if all together win -/
def sumZ (f : Nat → Int) : Nat → Int
  | 0 => 0
  | n + 1 => sumZ f n + f n
theorem sumZ_congr {f g : Nat → Int} : ∀ {n : Nat}, (∀ k, k < n → f k = g k) → sumZ f n = sumZ g n
  | 0, _ => rfl
  | n + 1, h => by
    show sumZ f n + f n = sumZ g n + g n
    rw [h n (Nat.lt_succ_self n), sumZ_congr (fun k hk => h k (Nat.lt_succ_of_lt hk))]
theorem sumZ_0 : ∀ n, sumZ (fun _ => 0) n = 0
  | 0 => rfl
  | n + 1 => by
    show sumZ (fun _ => 0) n + 0 = 0
    rw [sumZ_0 n]; rfl
theorem sumZ_add (f g : Nat → Int) : ∀ n, sumZ (fun k => f k + g k) n = sumZ f n + sumZ g n
  | 0 => rfl
  | n + 1 => by
    show sumZ (fun k => f k + g k) n + (f n + g n) = sumZ f n + f n + (sumZ g n + g n)
    rw [sumZ_add f g n]; omega
theorem sumZ_sub (f g : Nat → Int) : ∀ n, sumZ (fun k => f k - g k) n = sumZ f n - sumZ g n
  | 0 => rfl
  | n + 1 => by
    show sumZ (fun k => f k - g k) n + (f n - g n) = sumZ f n + f n - (sumZ g n + g n)
    rw [sumZ_sub f g n]; omega
theorem sumZ_mul (a : Int) (f : Nat → Int) : ∀ n, sumZ (fun k => a * f k) n = a * sumZ f n
  | 0 => (Int.mul_zero a).symm
  | n + 1 => by
    show sumZ (fun k => a * f k) n + a * f n = a * (sumZ f n + f n)
    rw [sumZ_mul a f n, Int.mul_add]
theorem sumZ_swap (f : Nat → Nat → Int) (m : Nat) : ∀ n, sumZ (fun k => sumZ (fun i => f k i) m) n = sumZ (fun i => sumZ (fun k => f k i) n) m
  | 0 => (sumZ_0 m).symm
  | n + 1 => by
    show sumZ (fun k => sumZ (fun i => f k i) m) n + sumZ (fun i => f n i) m = sumZ (fun i => sumZ (fun k => f k i) n + f n i) m
    rw [sumZ_swap f m n, sumZ_add]
theorem sumZ_one {f : Nat → Int} {a : Nat} : ∀ {n : Nat}, (∀ k, k < n → k ≠ a → f k = 0) → sumZ f n = if a < n then f a else 0
  | 0, _ => by rw [if_neg (Nat.not_lt_zero a)]; rfl
  | n + 1, h => by
    show sumZ f n + f n = _
    rw [sumZ_one (n := n) (fun k hk => h k (Nat.lt_succ_of_lt hk))]
    by_cases e : n = a
    · subst e
      rw [if_neg (Nat.lt_irrefl n), if_pos (Nat.lt_succ_self n)]; omega
    · rw [h n (Nat.lt_succ_self n) e]
      by_cases l : a < n
      · rw [if_pos l, if_pos (by omega)]; omega
      · rw [if_neg l, if_neg (by omega)]; omega
/-- a count of members, as a sum -/
theorem sumZ_cN (P : Nat → Bool) (c : Int) : ∀ n, sumZ (fun k => if P k then c else 0) n = (cN P n : Int) * c
  | 0 => (Int.zero_mul c).symm
  | n + 1 => by
    show sumZ (fun k => if P k then c else 0) n + (if P n then c else 0) = _
    rw [sumZ_cN P c n, cN_s]
    cases P n
    · show _ + (0 : Int) = _
      rw [Int.add_zero]; rfl
    · show (cN P n : Int) * c + c = ((cN P n + 1 : Nat) : Int) * c
      rw [Int.natCast_add, Int.add_mul]
      show _ = _ + (1 : Int) * c
      rw [Int.one_mul]
def zfac : Nat → Int
  | 0 => 1
  | n + 1 => ((n + 1 : Nat) : Int) * zfac n
def zc (k : Nat) : Int := if k = 0 then 1 else zfac (k - 1)
/-- the orders in which the members of j come first, one of them last of these -/
def zT (p j : Nat) : Int := zc (cN j.testBit 8) * zfac (cN p.testBit 8 - cN j.testBit 8)
theorem zfac9 : ∀ k, k < 9 → Int32.ofInt (zfac k) = f_X8_factorial (nI k) := by decide +kernel
theorem zc_ok : ∀ a, a < 9 → ∀ b, b < 9 → a ≤ b → Int32.ofInt (zc a * zfac (b - a)) = f_X8_factorial (nI a - 1) * f_X8_factorial (nI b - nI a) := by decide +kernel
theorem zT_ok {p j : Nat} (hp : p < 256) (hj : j < 256) (hs : subB p j = true) : Int32.ofInt (zT p j) = oT (nI p) j := by
  unfold zT oT
  have h1 : cN j.testBit 8 ≤ cN p.testBit 8 := cN_le ((sub_bits hp hj).mp hs)
  have h2 : cN p.testBit 8 ≤ 8 := cN_max _ 8
  rw [ones_cN _ hj, ones_cN _ hp, zc_ok _ (by omega) _ (by omega) h1]
/-- the coefficient of a set in the sum over all players -/
theorem zcoef : ∀ a : Nat, a < 9 → ∀ b : Nat, b < 9 → 1 ≤ a → a ≤ b → (a : Int) * (zc a * zfac (b - a)) - (((b - a : Nat)) : Int) * (zc (a + 1) * zfac (b - (a + 1))) = if a = b then zfac b else 0 := by decide +kernel
theorem shift_Z {f : Nat → Int} {m : Nat} (hm : m < 8) (h0 : ∀ j, j < 256 → j.testBit m = false → f j = 0) : sumZ f 256 = sumZ (fun j => if j.testBit m then 0 else f (j + 2 ^ m)) 256 := by
  have hl : ∀ (g : Nat → Int) (n : Nat), sumZ g n = ((List.range n).map g).sum := by
    intro g n
    induction n with
    | zero => rfl
    | succ n ih =>
      show sumZ g n + g n = _
      rw [ih, List.range_succ, List.map_append, List.sum_append]
      simp
  have hf : ∀ (P : Nat → Bool) (g : Nat → Int) (l : List Nat), ((l.filter P).map g).sum = (l.map (fun j => if P j then g j else 0)).sum := by
    intro P g l
    induction l with
    | nil => rfl
    | cons a l ih =>
      cases h : P a
      · rw [List.filter_cons_of_neg (by rw [h]; decide), ih, List.map_cons, List.sum_cons, h]; simp
      · rw [List.filter_cons_of_pos h, List.map_cons, List.sum_cons, List.map_cons, List.sum_cons, ih, h]; simp
  have e1 : sumZ f 256 = sumZ (fun j => if j.testBit m then f j else 0) 256 := by
    refine sumZ_congr (fun j hj => ?_)
    cases hb : j.testBit m
    · rw [h0 j hj hb]; rfl
    · rfl
  have e2 : sumZ (fun j => if j.testBit m then 0 else f (j + 2 ^ m)) 256 = sumZ (fun j => if (!j.testBit m) then f (j + 2 ^ m) else 0) 256 := by
    refine sumZ_congr (fun j _ => ?_)
    cases j.testBit m <;> rfl
  rw [e1, e2, hl, hl, ← hf (fun j => j.testBit m) f, ← hf (fun j => !j.testBit m) (fun j => f (j + 2 ^ m)), wb_nb m hm, List.map_map]
  rfl
section TEL
variable {W : Nat → Bool} {p : Nat}
def wZ (W : Nat → Bool) (j : Nat) : Int := if W j then 1 else 0
/-- what one player gets, as whole numbers -/
def orZ (W : Nat → Bool) (p m : Nat) : Int := sumZ (fun j => if swT W m j then zT p j else 0) 256
theorem orZ_ok (hp : p < 256) (hWp : ∀ j, j < 256 → W j = true → subB p j = true) (m : Nat) : ∀ n, n ≤ 256 → orF W (nI p) m n = Int32.ofInt (sumZ (fun j => if swT W m j then zT p j else 0) n)
  | 0, _ => rfl
  | n + 1, hn => by
    show (if swT W m n then orF W (nI p) m n + oT (nI p) n else orF W (nI p) m n) = Int32.ofInt (sumZ (fun j => if swT W m j then zT p j else 0) n + (if swT W m n then zT p n else 0))
    rw [orZ_ok hp hWp m n (by omega), Int32.ofInt_add]
    cases hs : swT W m n
    · rw [if_neg (by decide), if_neg (by decide)]
      exact (Int32.add_zero _).symm
    · rw [if_pos rfl, if_pos rfl]
      have hw : W n = true := by
        unfold swT at hs
        cases hW : W n
        · rw [hW, Bool.false_and, Bool.and_false] at hs; cases hs
        · rfl
      rw [zT_ok hp (by omega) (hWp n (by omega) hw)]
theorem wZ_sub (hmono : ∀ j, j < 256 → ∀ m, m < 8 → p.testBit m = true → j.testBit m = true → W (clr j m) = true → W j = true) {m j : Nat} (hm : m < 8) (hj : j < 256) (hpm : p.testBit m = true) : (if swT W m j then zT p j else 0) = if j.testBit m then (wZ W j * zT p j - wZ W (clr j m) * zT p j) else 0 := by
  unfold swT wZ
  cases hb : j.testBit m
  · rfl
  · cases h1 : W j
    · cases h2 : W (clr j m)
      · simp
      · have := hmono j hj m hm hpm hb h2
        rw [h1] at this; exact absurd this (by decide)
    · cases h2 : W (clr j m) <;> simp
theorem zT_up {m j : Nat} (hm : m < 8) (hj : j < 256) (hb : j.testBit m = false) : zT p (j + 2 ^ m) = zc (cN j.testBit 8 + 1) * zfac (cN p.testBit 8 - (cN j.testBit 8 + 1)) := by
  obtain ⟨a1, a2, a3, a4, a5⟩ := nb_add m hm j hj hb
  have e : cN (j + 2 ^ m).testBit 8 = cN j.testBit 8 + 1 := by
    rw [ones_cN _ a3, ones_cN _ hj, nI_1] at a5
    have h4 : cN (j + 2 ^ m).testBit 8 ≤ 8 := cN_max _ 8
    have h5 : cN j.testBit 8 ≤ 8 := cN_max _ 8
    exact (nI_eq (by omega) (by omega)).mp a5
  unfold zT
  rw [e]
theorem orZ_m (hWp : ∀ j, j < 256 → W j = true → subB p j = true) (hp : p < 256) (hmono : ∀ j, j < 256 → ∀ m, m < 8 → p.testBit m = true → j.testBit m = true → W (clr j m) = true → W j = true) {m : Nat} (hm : m < 8) :
    orZ W p m = sumZ (fun j => wZ W j * ((if j.testBit m then zT p j else 0) - (if (p.testBit m && !j.testBit m) then zc (cN j.testBit 8 + 1) * zfac (cN p.testBit 8 - (cN j.testBit 8 + 1)) else 0))) 256 := by
  unfold orZ
  cases hpm : p.testBit m
  · have h0 : ∀ j, j < 256 → W j = true → j.testBit m = false := by
      intro j hj hw
      cases hb : j.testBit m
      · rfl
      · have := (sub_bits hp hj).mp (hWp j hj hw) m hm hb
        rw [hpm] at this; exact absurd this (by decide)
    refine sumZ_congr (fun j hj => ?_)
    unfold swT wZ
    cases hw : W j
    · cases j.testBit m <;> simp
    · rw [h0 j hj hw]; simp
  · have e1 : sumZ (fun j => if swT W m j then zT p j else 0) 256 = sumZ (fun j => (if j.testBit m then wZ W j * zT p j else 0) - (if j.testBit m then wZ W (clr j m) * zT p j else 0)) 256 := by
      refine sumZ_congr (fun j hj => ?_)
      rw [wZ_sub hmono hm hj hpm]
      cases j.testBit m
      · rfl
      · rfl
    have e2 : sumZ (fun j => if j.testBit m then wZ W (clr j m) * zT p j else 0) 256 = sumZ (fun j => if j.testBit m then 0 else wZ W j * (zc (cN j.testBit 8 + 1) * zfac (cN p.testBit 8 - (cN j.testBit 8 + 1)))) 256 := by
      rw [shift_Z (f := fun j => if j.testBit m then wZ W (clr j m) * zT p j else 0) hm (fun j _ hb => by rw [hb]; rfl)]
      refine sumZ_congr (fun j hj => ?_)
      cases hb : j.testBit m
      · obtain ⟨a1, a2, _⟩ := nb_add m hm j hj hb
        show (if (j + 2 ^ m).testBit m then wZ W (clr (j + 2 ^ m) m) * zT p (j + 2 ^ m) else 0) = _
        rw [a1, a2, zT_up hm hj hb]; rfl
      · rfl
    rw [e1, sumZ_sub, e2, ← sumZ_sub]
    refine sumZ_congr (fun j hj => ?_)
    cases j.testBit m <;> simp [Int.mul_neg]
theorem coef_sum (hp : p < 256) {j : Nat} (hj : j < 256) (hs : subB p j = true) (h1 : 1 ≤ cN j.testBit 8) : sumZ (fun m => (if j.testBit m then zT p j else 0) - (if (p.testBit m && !j.testBit m) then zc (cN j.testBit 8 + 1) * zfac (cN p.testBit 8 - (cN j.testBit 8 + 1)) else 0)) 8 = if cN j.testBit 8 = cN p.testBit 8 then zfac (cN p.testBit 8) else 0 := by
  have hb := (sub_bits hp hj).mp hs
  have h2 : cN j.testBit 8 ≤ cN p.testBit 8 := cN_le hb
  have h3 : cN p.testBit 8 ≤ 8 := cN_max _ 8
  have hd : ∀ n, n ≤ 8 → cN (fun m => p.testBit m && !j.testBit m) n + cN j.testBit n = cN p.testBit n := by
    intro n
    induction n with
    | zero => intro _; rfl
    | succ n ih =>
      intro hn
      have i1 := ih (by omega)
      rw [cN_s, cN_s, cN_s]
      have := hb n (by omega)
      cases e1 : j.testBit n
      · cases e2 : p.testBit n
        · show cN (fun m => p.testBit m && !j.testBit m) n + cN j.testBit n = cN p.testBit n
          exact i1
        · show cN (fun m => p.testBit m && !j.testBit m) n + 1 + cN j.testBit n = cN p.testBit n + 1
          omega
      · rw [this e1]
        show cN (fun m => p.testBit m && !j.testBit m) n + (cN j.testBit n + 1) = cN p.testBit n + 1
        omega
  rw [sumZ_sub, sumZ_cN j.testBit, sumZ_cN (fun m => p.testBit m && !j.testBit m)]
  have hd8 := hd 8 (Nat.le_refl 8)
  have e : cN (fun m => p.testBit m && !j.testBit m) 8 = cN p.testBit 8 - cN j.testBit 8 := by omega
  rw [e]
  unfold zT
  have z := zcoef (cN j.testBit 8) (by omega) (cN p.testBit 8) (by omega) h1 h2
  exact z
/-- in each order of all players one is the pivot, if all together win -/
theorem pivots_Z (hp : p < 256) (hWp : ∀ j, j < 256 → W j = true → subB p j = true) (h0 : W 0 = false) (hmono : ∀ j, j < 256 → ∀ m, m < 8 → p.testBit m = true → j.testBit m = true → W (clr j m) = true → W j = true) : sumZ (fun m => orZ W p m) 8 = if W p then zfac (cN p.testBit 8) else 0 := by
  have e1 : sumZ (fun m => orZ W p m) 8 = sumZ (fun m => sumZ (fun j => wZ W j * ((if j.testBit m then zT p j else 0) - (if (p.testBit m && !j.testBit m) then zc (cN j.testBit 8 + 1) * zfac (cN p.testBit 8 - (cN j.testBit 8 + 1)) else 0))) 256) 8 := sumZ_congr (fun m hm => orZ_m hWp hp hmono hm)
  rw [e1, sumZ_swap]
  have e2 : ∀ j, j < 256 → sumZ (fun m => wZ W j * ((if j.testBit m then zT p j else 0) - (if (p.testBit m && !j.testBit m) then zc (cN j.testBit 8 + 1) * zfac (cN p.testBit 8 - (cN j.testBit 8 + 1)) else 0))) 8 = if j = p then (if W p then zfac (cN p.testBit 8) else 0) else 0 := by
    intro j hj
    rw [sumZ_mul]
    cases hw : W j
    · unfold wZ
      rw [hw, if_neg (by decide), Int.zero_mul]
      by_cases e : j = p
      · subst e; rw [if_pos rfl, hw]; rfl
      · rw [if_neg e]
    · have hs := hWp j hj hw
      have h1 : 1 ≤ cN j.testBit 8 := by
        rcases Nat.eq_zero_or_pos (cN j.testBit 8) with z | z
        · have hz := cN_pos.mp z
          have : j = 0 := bits_eq hj (by decide) (fun i hi => by rw [hz i hi, Nat.zero_testBit])
          rw [this, h0] at hw; exact absurd hw (by decide)
        · exact z
      rw [coef_sum hp hj hs h1]
      unfold wZ
      rw [hw, if_pos rfl, Int.one_mul]
      by_cases e : j = p
      · subst e; rw [if_pos rfl, if_pos rfl, hw, if_pos rfl]
      · have hne : ¬ cN j.testBit 8 = cN p.testBit 8 := by
          intro z
          have hb := (sub_bits hp hj).mp hs
          have h3 := (cN_eq hb).mp z
          refine e (bits_eq hj hp (fun i hi => ?_))
          cases hc : p.testBit i
          · cases hd : j.testBit i
            · rfl
            · have := hb i hi hd; rw [hc] at this; exact absurd this (by decide)
          · exact h3 i hi hc
        rw [if_neg hne, if_neg e]
  rw [sumZ_congr e2, sumZ_one (a := p) (fun k _ hk => by rw [if_neg hk]), if_pos hp, if_pos rfl]
/-- the sum of all players' orders, as the law adds them up -/
theorem pivots (hp : p < 256) (hWp : ∀ j, j < 256 → W j = true → subB p j = true) (h0 : W 0 = false) (hmono : ∀ j, j < 256 → ∀ m, m < 8 → p.testBit m = true → j.testBit m = true → W (clr j m) = true → W j = true) {n : Nat} (hn : n ≤ 8) (hpn : ∀ m, n ≤ m → p.testBit m = false) : fd (fun m (x : Int32) => x + orF W (nI p) m 256) n 0 = if W p then f_X8_factorial (f_X8_ones (nI p)) else 0 := by
  have e1 : ∀ k, fd (fun m (x : Int32) => x + orF W (nI p) m 256) k 0 = Int32.ofInt (sumZ (fun m => orZ W p m) k) := by
    intro k
    induction k with
    | zero => rfl
    | succ k ih =>
      show fd (fun m (x : Int32) => x + orF W (nI p) m 256) k 0 + orF W (nI p) k 256 = Int32.ofInt (sumZ (fun m => orZ W p m) k + orZ W p k)
      rw [ih, Int32.ofInt_add, orZ_ok hp hWp k 256 (Nat.le_refl _)]; rfl
  have e2 : ∀ k, n ≤ k → sumZ (fun m => orZ W p m) k = sumZ (fun m => orZ W p m) n := by
    intro k hk
    induction k with
    | zero => have e : n = 0 := by omega
              subst e; rfl
    | succ k ih =>
      rcases Nat.lt_or_ge k n with z | z
      · have e : n = k + 1 := by omega
        subst e; rfl
      · show sumZ (fun m => orZ W p m) k + orZ W p k = _
        have e0 : orZ W p k = 0 := by
          unfold orZ
          refine Eq.trans (sumZ_congr (g := fun _ => 0) (fun j hj => ?_)) (sumZ_0 256)
          unfold swT
          cases hw : W j
          · cases j.testBit k <;> rfl
          · cases hb : j.testBit k
            · rfl
            · have hk8 : k < 8 := bit_8 hj hb
              have := (sub_bits hp hj).mp (hWp j hj hw) k hk8 hb
              rw [hpn k z] at this; exact absurd this (by decide)
        rw [ih z, e0, Int.add_zero]
  rw [e1 n, ← e2 8 hn, pivots_Z hp hWp h0 hmono, ones_cN _ hp]
  have h8 : cN p.testBit 8 ≤ 8 := cN_max _ 8
  cases W p
  · rfl
  · rw [if_pos rfl, if_pos rfl]
    exact zfac9 _ (by omega)
end TEL
