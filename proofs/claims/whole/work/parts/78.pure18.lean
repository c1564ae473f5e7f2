/-! part 78: the checksum -/
theorem lp_sim2 {σ ρ τ π : Type} {f : σ → σ ⊕ ρ} {g : τ → τ ⊕ π} {d : ρ} {d' : π} (I : σ → τ → Prop) (Q : ρ → π → Prop) (μ : σ → Nat) (ν : τ → Nat)
    (h : ∀ x y, I x y → (∃ x' y', f x = .inl x' ∧ g y = .inl y' ∧ I x' y' ∧ μ x' < μ x ∧ ν y' < ν y) ∨ (∃ r r', f x = .inr r ∧ g y = .inr r' ∧ Q r r')) : ∀ (n n' : Nat) (x : σ) (y : τ), I x y → μ x < n → ν y < n' → Q (lp f d n x) (lp g d' n' y)
  | 0, _, _, _, _, hn, _ => absurd hn (Nat.not_lt_zero _)
  | _ + 1, 0, _, _, _, _, hn => absurd hn (Nat.not_lt_zero _)
  | n + 1, n' + 1, x, y, hI, hn, hn' => by
    rw [lp, lp]
    rcases h x y hI with ⟨x', y', h1, h2, h3, h4, h5⟩ | ⟨r, r', h1, h2, h3⟩
    · rw [h1, h2]; exact lp_sim2 I Q μ ν h n n' x' y' h3 (Nat.lt_of_lt_of_le h4 (Nat.le_of_lt_succ hn)) (Nat.lt_of_lt_of_le h5 (Nat.le_of_lt_succ hn'))
    · rw [h1, h2]; exact h3
theorem i64_of (x : Int32) : (Int32.toInt64 x).toInt = x.toInt := Int32.toInt_toInt64 x
theorem dec64 {b : Int32} {h : Nat} (hb : 0 ≤ b.toInt ∧ b.toInt ≤ 1023) (hh : h < 2000) : Int32.toInt64 (b - nI h) - 1 = Int32.toInt64 (b - nI (h + 1)) := by
  have e : ∀ k : Nat, k < 3000 → (b - nI k).toInt = b.toInt - (k : Int) := by
    intro k hk
    rw [Int32.toInt_sub, nI_toInt (by omega)]
    show Int.bmod _ 4294967296 = _
    rw [Int.bmod_eq_of_le (by omega) (by omega)]
  apply Int64.toInt_inj.mp
  rw [Int64.toInt_sub, i64_of, i64_of, e h (by omega), e (h + 1) (by omega)]
  show Int.bmod (_ - 1) 18446744073709551616 = _
  rw [Int.bmod_eq_of_le (by omega) (by omega)]
  omega
theorem bt_1le {h : Nat} (hh : 2 ^ h < bt_1) : h < 1074 := by
  unfold bt_1 at hh
  rw [← Nat.pow_mul] at hh
  exact (Nat.pow_lt_pow_iff_right (by decide : 1 < 2)).mp hh
theorem cmp_nn {x : UInt64} (h : my_fnn x) : (0 < (Op.cmpValue (FP.dcmp x FP.dconst0) .l)) ↔ ¬ (Op.cmpValue (FP.dcmp x FP.dconst0) .l) = 0 := by
  have e0 : FP.Core.zval FP.Core.b64 (FP.Core.val64 FP.dconst0) = 0 := by decide +kernel
  have h0 : FP.Core.val64 FP.dconst0 ≠ .nan := by decide +kernel
  have hz := bt_zv h
  rcases Nat.eq_zero_or_pos (bt_u x) with z | z
  · have h1 : FP.dcmp x FP.dconst0 = some .eq := FP.Core.dcmp_eq.mpr ⟨bt_ne h, h0, by rw [hz, z, e0]; rfl⟩
    rw [h1]; decide
  · have h1 : FP.dcmp x FP.dconst0 = some .gt := FP.Core.dcmp_gt.mpr ⟨bt_ne h, h0, by rw [hz, e0]; omega⟩
    rw [h1]; decide
theorem bits_eq_ref {x : UInt64} (h : my_fnn x) {b k : Int32} (hb : 0 ≤ b.toInt ∧ b.toInt ≤ 1023) : f_X7_bitsOf x b k = f_X8_bits x k (Int32.toInt64 b) := by
  unfold f_X7_bitsOf f_X8_bits
  have hc := cmp_nn h
  by_cases hz : (Op.cmpValue (FP.dcmp x FP.dconst0) .l) = 0
  · rw [if_pos hz, if_neg (fun e => (hc.mp e) hz)]
  · rw [if_neg hz, if_pos (hc.mpr hz)]
    have key : ∃ (t : UInt64) (m : Int32), lp (fun (x : UInt64 × Int32) => f_X7_bitsOf_st x.1 x.2) default (((1100 : Int32).toInt - (0 : Int32).toInt).toNat + 1) (x, 0) = (t, m) ∧ lp (fun (x : Int64 × UInt64) => f_X8_bits_st x.1 x.2) default ((bt_1 - (bt_u x)) + 1) (Int32.toInt64 b, x) = (Int32.toInt64 (b - m), t) := by
      refine lp_sim2 (fun (p : UInt64 × Int32) (r : Int64 × UInt64) => ∃ (t : UInt64) (m : Nat), p = (t, nI m) ∧ r = (Int32.toInt64 (b - nI m), t) ∧ my_bt t ∧ 2 ^ m ≤ bt_u t ∧ m ≤ 1074) (fun (p : UInt64 × Int32) (r : Int64 × UInt64) => ∃ (t : UInt64) (m : Int32), p = (t, m) ∧ r = (Int32.toInt64 (b - m), t)) (fun p : UInt64 × Int32 => ((1100 : Int32).toInt - p.2.toInt).toNat) (fun r : Int64 × UInt64 => bt_1 - bt_u r.2) ?_ _ _ _ _ ⟨x, 0, rfl, by rw [show b - nI 0 = b from Int32.sub_zero b], bt_init h hz, ?_, Nat.zero_le _⟩ (Nat.lt_succ_self _) (Nat.lt_succ_self _)
      · rintro p r ⟨t, m, rfl, rfl, hbt, hm, hm2⟩
        show (∃ x' y', f_X7_bitsOf_st t (nI m) = .inl x' ∧ f_X8_bits_st (Int32.toInt64 (b - nI m)) t = .inl y' ∧ _) ∨ (∃ r r', f_X7_bitsOf_st t (nI m) = .inr r ∧ f_X8_bits_st (Int32.toInt64 (b - nI m)) t = .inr r' ∧ _)
        unfold f_X7_bitsOf_st f_X8_bits_st
        have h11 : ¬ (1100 : Int32) ≤ nI m := nI_ge (b := 1100) (by omega) (by decide)
        rw [if_neg h11]
        by_cases hd : 0 ≤ (Op.cmpValue (FP.dcmp t FP.dconst1) .g)
        · rw [if_pos hd, if_pos hd]
          exact Or.inr ⟨_, _, rfl, rfl, t, nI m, rfl, rfl⟩
        · rw [if_neg hd, if_neg hd]
          obtain ⟨s1, s2⟩ := bt_step hbt hd
          have hlt := bt_one hbt.1 hd
          have hm3 := bt_1le (Nat.lt_of_le_of_lt hm hlt)
          refine Or.inl ⟨_, _, rfl, rfl, ⟨FP.dmul t 4611686018427387904, m + 1, by rw [nI_1], by rw [dec64 hb (by omega)], bt_up hbt hd, by rw [s2, Nat.pow_succ]; omega, by omega⟩, mu_up h11, bt_dec hbt hd⟩
      · have := (bt_init h hz).2
        show 2 ^ 0 ≤ bt_u x
        rw [Nat.pow_zero]; exact this
    obtain ⟨t, m, k1, k2⟩ := key
    rw [k1, k2]
    rfl
section DIG
variable {v : SetV} {s : Nat → Int32} {n r : Nat} {w : PowV} {st y4 : Int32} {y10 : Nat → Int32} {q : Int32}
def mixF (V : Nat → Int32) (N : Nat) (h : Int64) : Int64 := fd (fun k h => 31 * h + Int32.toInt64 (V k)) N h
theorem mixF_congr {V U : Nat → Int32} {N : Nat} {h : Int64} (e : ∀ k, k < N → V k = U k) : mixF V N h = mixF U N h := fd_congr (fun k hk x => by rw [e k hk])
theorem lt_up {k N : Nat} (hk : k < N) (hN : N < 2 ^ 31) : ¬ nI N - 1 < nI k := by
  obtain ⟨M, rfl⟩ : ∃ M, N = M + 1 := ⟨N - 1, by omega⟩
  rw [nI_pred]; exact nI_nlt (by omega) (by omega)
theorem flat3 {α : Type} (g : Nat → α → α) (a : α) : ∀ r : Nat, fd g (3 * r) a = fd (fun i h => g (3 * i + 2) (g (3 * i + 1) (g (3 * i) h))) r a
  | 0 => rfl
  | r + 1 => by
    show fd g (3 * r + 1 + 1 + 1) a = g (3 * r + 2) (g (3 * r + 1) (g (3 * r) (fd (fun i h => g (3 * i + 2) (g (3 * i + 1) (g (3 * i) h))) r a)))
    rw [← flat3 g a r]
    rfl
theorem d_whole_c (tx : TxtV) (u : Int32 × PowV) (h : Int64) : (lp (fun (x : Int64 × Int32) => f_X7_digest_st v tx u x.1 x.2) default (((11 : Int32).toInt + 1 - (0 : Int32).toInt).toNat + 1) (h, 0)).1 = mixF (fun k => f_X7_wholeValue u.1 v u.2 tx (nI k)) 12 h := by
  refine congrArg Prod.fst (lp_fd (f := fun x : Int64 × Int32 => f_X7_digest_st v tx u x.1 x.2) (fun k (h : Int64) => (h, nI k)) (fun k h => 31 * h + Int32.toInt64 (f_X7_wholeValue u.1 v u.2 tx (nI k))) (fun _ _ => True) (N := 12) (fun h => (h, nI 12)) (a := h) trivial ?_ ?_ (by decide))
  · intro k x hk _
    refine ⟨?_, trivial⟩
    show f_X7_digest_st v tx u x (nI k) = _
    unfold f_X7_digest_st
    rw [if_neg (show ¬ (11 : Int32) < nI k from nI_nlt (a := 11) (by omega) (by decide)), nI_1]
    rfl
  · intro x _
    show f_X7_digest_st v tx u x (nI 12) = _
    unfold f_X7_digest_st
    rw [if_pos (by decide)]
end DIG
