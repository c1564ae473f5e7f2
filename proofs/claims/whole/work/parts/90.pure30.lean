/-! part 90: reading a command -/
theorem lpL {σ ρ : Type} {f : σ → σ ⊕ ρ} {d : ρ} {n : Nat} {x y : σ} (h : f x = .inl y) : lp f d (n + 1) x = lp f d n y := by rw [lp, h]
theorem lpR {σ ρ : Type} {f : σ → σ ⊕ ρ} {d : ρ} {n : Nat} {x : σ} {r : ρ} (h : f x = .inr r) : lp f d (n + 1) x = r := by rw [lp, h]
def rdC (t : Nat) (y : Nat → Int32) (u p' c : Nat) (a b2 : Int32) : Prop := u < p' ∧ p' ≤ t ∧ c < 7 ∧ (∀ b f g cm, txE b y t → f_X2_readCommand (nI t, nI u, f, g, cm, b) = (-1, (nI p', a, b2, c))) ∧ ∀ rd, ∃ z, f_X8_reads (nI t) (nI u) y rd = (1, (f_X8_skips (nI t) (nI p') y, nI c, z)) ∧ z 0 = a ∧ (c = 1 ∨ c = 3 ∨ c = 5 → z 1 = b2)
def rdF (t : Nat) (y : Nat → Int32) (u q : Nat) : Prop := q ≤ t ∧ (∀ b f g cm, txE b y t → (f_X2_readCommand (nI t, nI u, f, g, cm, b)).1 = nI q) ∧ ∀ rd, ∃ m z, f_X8_reads (nI t) (nI u) y rd = (0, (nI q, m, z))
section READ
variable {b y : Nat → Int32} {t : Nat} {f g : Int32} {cm : Nat} {u e c : Nat}
theorem dig_not (ht : t ≤ 150) {w : Nat} (hw : w < t) (h : ¬ f_X8_isAt (nI t) (nI w) y 48 57 = 0) : f_X8_isAt (nI t) (nI w) y 32 32 = 0 ∧ f_X8_isAt (nI t) (nI w) y 59 59 = 0 := by
  have h1 : ¬ f_X8_in (y w) 48 57 = 0 := fun z => h ((isAt_ne ht (by omega) 48 57).mpr (Or.inr z))
  obtain ⟨k, k1, k2, k3⟩ := in_rg (A := 48) (B := 57) rfl rfl (by decide) (by decide) h1
  refine ⟨(isAt_ne ht (by omega) 32 32).mpr (Or.inr ((in_eq1 _ _).mpr (fun q => ?_))), (isAt_ne ht (by omega) 59 59).mpr (Or.inr ((in_eq1 _ _).mpr (fun q => ?_)))⟩
  · rw [k3] at q
    have := (nI_eq (b := 32) (by omega) (by decide)).mp q
    omega
  · rw [k3] at q
    have := (nI_eq (b := 59) (by omega) (by decide)).mp q
    omega
theorem reads_1 (he : ltA t y u = nI e) (hc : f_X8_commandOf (f_X8_wordOf y (nI u) (nI e)) = nI c) (h : c = 0 ∨ c = 2 ∨ c = 4 ∨ c = 6) (rd : Nat → Int32) : f_X8_reads (nI t) (nI u) y rd =
    my_b (f_X8_number (nI t) (nI e) y rd 0) (fun r uu => if r = 0 then (0, (uu.1, nI c, uu.2)) else my_l (f_X8_skips (nI t) uu.1 y) (fun q => if f_X8_isAt (nI t) q y 59 59 = 0 then (0, (q, nI c, uu.2)) else my_l (f_X8_skips (nI t) (q + 1) y) (fun x => (1, (x, nI c, uu.2))))) := by
  unfold ltA at he
  unfold f_X8_reads
  rw [he, my_l_eq, hc]
  rcases h with rfl | rfl | rfl | rfl
  · rw [if_neg (show ¬ (nI 0 : Int32) = -1 by decide), if_neg (show ¬ (nI 0 : Int32) = 1 by decide), if_neg (show ¬ (nI 0 : Int32) = 3 by decide), if_neg (show ¬ (nI 0 : Int32) = 5 by decide)]
  · rw [if_neg (show ¬ (nI 2 : Int32) = -1 by decide), if_neg (show ¬ (nI 2 : Int32) = 1 by decide), if_neg (show ¬ (nI 2 : Int32) = 3 by decide), if_neg (show ¬ (nI 2 : Int32) = 5 by decide)]
  · rw [if_neg (show ¬ (nI 4 : Int32) = -1 by decide), if_neg (show ¬ (nI 4 : Int32) = 1 by decide), if_neg (show ¬ (nI 4 : Int32) = 3 by decide), if_neg (show ¬ (nI 4 : Int32) = 5 by decide)]
  · rw [if_neg (show ¬ (nI 6 : Int32) = -1 by decide), if_neg (show ¬ (nI 6 : Int32) = 1 by decide), if_neg (show ¬ (nI 6 : Int32) = 3 by decide), if_neg (show ¬ (nI 6 : Int32) = 5 by decide)]
theorem reads_2 (he : ltA t y u = nI e) (hc : f_X8_commandOf (f_X8_wordOf y (nI u) (nI e)) = nI c) (h : c = 1 ∨ c = 3 ∨ c = 5) (rd : Nat → Int32) : f_X8_reads (nI t) (nI u) y rd =
    my_b (f_X8_number (nI t) (nI e) y rd 0) (fun r uu => if r = 0 then (0, (uu.1, nI c, uu.2)) else my_b (f_X8_number (nI t) uu.1 y uu.2 1) (fun r uu => if r = 0 then (0, (uu.1, nI c, uu.2)) else my_l (f_X8_skips (nI t) uu.1 y) (fun q => if f_X8_isAt (nI t) q y 59 59 = 0 then (0, (q, nI c, uu.2)) else my_l (f_X8_skips (nI t) (q + 1) y) (fun x => (1, (x, nI c, uu.2)))))) := by
  unfold ltA at he
  unfold f_X8_reads
  rw [he, my_l_eq, hc]
  rcases h with rfl | rfl | rfl
  · rw [if_neg (show ¬ (nI 1 : Int32) = -1 by decide), if_pos (show (nI 1 : Int32) = 1 by decide)]
  · rw [if_neg (show ¬ (nI 3 : Int32) = -1 by decide), if_neg (show ¬ (nI 3 : Int32) = 1 by decide), if_pos (show (nI 3 : Int32) = 3 by decide)]
  · rw [if_neg (show ¬ (nI 5 : Int32) = -1 by decide), if_neg (show ¬ (nI 5 : Int32) = 1 by decide), if_neg (show ¬ (nI 5 : Int32) = 3 by decide), if_pos (show (nI 5 : Int32) = 5 by decide)]
theorem reads_0 (he : ltA t y u = nI e) (hc : f_X8_commandOf (f_X8_wordOf y (nI u) (nI e)) = -1) (rd : Nat → Int32) : f_X8_reads (nI t) (nI u) y rd = (0, (nI u, -1, rd)) := by
  unfold ltA at he
  unfold f_X8_reads
  rw [he, my_l_eq, hc, if_pos rfl]
theorem rc_eq (h : txE b y t) (hu : u ≤ t) (he : ltA t y u = nI e) (hn : f_X2_commandNamed (nI t, nI e, f, g, cm, b) (nI u) (nI e) = c) :
    f_X2_readCommand (nI t, nI u, f, g, cm, b) = if c < 7 then lp (fun (x : Int32 × Int32 × Int32 × Int32) => f_X2_readCommand_st1 (nI t, nI u, f, g, cm, b) (nI e) x.1 x.2.1 x.2.2.1 x.2.2.2) default ((((my_num.getD c 0) : Int32).toInt - (0 : Int32).toInt).toNat + 1) (0, nI e, 0, 0) else (nI u, (nI e, f, g, c)) := by
  unfold f_X2_readCommand
  dsimp only
  rw [lett_eq h hu, he, my_l_eq, hn]
theorem st1_end (h : txE b y t) (hn : f_X2_commandNamed (nI t, nI e, f, g, cm, b) (nI u) (nI e) = c) {w q : Nat} (hw : w ≤ t) (hq : f_X8_skips (nI t) (nI w) y = nI q) (hqt : q ≤ t) {i f' g' : Int32} (hi : my_num.getD c 0 ≤ i) :
    f_X2_readCommand_st1 (nI t, nI u, f, g, cm, b) (nI e) i (nI w) f' g' = .inr (if f_X8_isAt (nI t) (nI q) y 59 59 = 0 then (nI q, (nI q, f', g', c)) else (-1, (nI (q + 1), f', g', c))) := by
  have ht := h.1
  unfold f_X2_readCommand_st1
  dsimp only
  rw [hn, if_pos hi, skip_eq h (by omega), hq, my_l_eq, byte_nI h _ (by omega)]
  by_cases z : f_X8_isAt (nI t) (nI q) y 59 59 = 0
  · rw [if_pos z]
    refine if_neg (fun z2 => ?_)
    rcases (isAt_ne ht (by omega) 59 59).mp z with z3 | z3
    · rw [if_pos z3] at z2; exact absurd z2 (by decide)
    · by_cases z4 : t ≤ q
      · rw [if_pos z4] at z2; exact absurd z2 (by decide)
      · rw [if_neg z4] at z2; exact (in_eq1 _ _).mp z3 z2
  · rw [if_neg z, ← nI_1 q]
    refine if_pos ?_
    have z3 : ¬ t ≤ q := fun z3 => z ((isAt_ne ht (by omega) 59 59).mpr (Or.inl z3))
    rw [if_neg z3]
    exact Decidable.of_not_not (fun z4 => z ((isAt_ne ht (by omega) 59 59).mpr (Or.inr ((in_eq1 _ _).mpr z4))))
theorem st1_num (hn : f_X2_commandNamed (nI t, nI e, f, g, cm, b) (nI u) (nI e) = c) {w : Nat} {i f' g' : Int32} (hi : ¬ my_num.getD c 0 ≤ i) :
    f_X2_readCommand_st1 (nI t, nI u, f, g, cm, b) (nI e) i (nI w) f' g' = my_b (f_X2_readNumber (nI t, nI w, f', g', c, b) i) (fun r uu => if r = 0 then .inr (uu.1, (uu.1, uu.2.1, uu.2.2, c)) else .inl (i + 1, uu.1, uu.2.1, uu.2.2)) := by
  unfold f_X2_readCommand_st1
  dsimp only
  rw [hn, if_neg hi]
theorem st1_E (hn : f_X2_commandNamed (nI t, nI e, f, g, cm, b) (nI u) (nI e) = c) {w w' : Nat} {i f' g' : Int32} (hi : ¬ my_num.getD c 0 ≤ i) (h0 : (f_X2_readNumber (nI t, nI w, f', g', c, b) i).1 = 0) (h1 : (f_X2_readNumber (nI t, nI w, f', g', c, b) i).2.1 = nI w') :
    ∃ z, f_X2_readCommand_st1 (nI t, nI u, f, g, cm, b) (nI e) i (nI w) f' g' = .inr (nI w', z) := by
  rw [st1_num hn hi]
  generalize f_X2_readNumber (nI t, nI w, f', g', c, b) i = R at h0 h1
  refine ⟨(R.2.1, R.2.2.1, R.2.2.2, c), ?_⟩
  rw [my_b_eq, if_pos h0, h1]
theorem st1_S (hn : f_X2_commandNamed (nI t, nI e, f, g, cm, b) (nI u) (nI e) = c) {w w' : Nat} {i f' g' : Int32} (hi : ¬ my_num.getD c 0 ≤ i) (h0 : (f_X2_readNumber (nI t, nI w, f', g', c, b) i).1 = 1) (h1 : (f_X2_readNumber (nI t, nI w, f', g', c, b) i).2.1 = nI w') :
    f_X2_readCommand_st1 (nI t, nI u, f, g, cm, b) (nI e) i (nI w) f' g' = .inl (i + 1, nI w', (f_X2_readNumber (nI t, nI w, f', g', c, b) i).2.2.1, (f_X2_readNumber (nI t, nI w, f', g', c, b) i).2.2.2) := by
  rw [st1_num hn hi]
  generalize f_X2_readNumber (nI t, nI w, f', g', c, b) i = R at h0 h1
  rw [my_b_eq, if_neg (by rw [h0]; decide), h1]
theorem rnum_0 (h : txE b y t) {w : Nat} (hw : w ≤ t) (z : f_X8_isAt (nI t) (nI w) y 32 32 = 0) (i : Int32) : (f_X2_readNumber (nI t, nI w, f, g, cm, b) i).1 = 0 ∧ (f_X2_readNumber (nI t, nI w, f, g, cm, b) i).2.1 = nI w := by
  have ht := h.1
  unfold f_X2_readNumber
  rw [skip_eq h (by omega), skips_0 z]
  dsimp only
  rw [my_l_eq, if_pos rfl]
  exact ⟨rfl, rfl⟩
end READ
