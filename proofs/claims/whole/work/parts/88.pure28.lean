/-! part 88: the words of commands -/
def wdD (i k : Nat) : Nat := (([[1, 4, 4], [23, 5, 9, 7, 8, 20], [17, 21, 15, 20, 1], [6, 15, 12, 12, 15, 23], [12, 5, 1, 22, 5], [18, 21, 12, 5], [4, 18, 15, 16]] : List (List Nat)).getD i []).getD k 0
theorem wdL_ok : ∀ i, i < 7 → 3 ≤ my_len.getD i 0 ∧ my_len.getD i 0 ≤ 6 := by decide +kernel
theorem wdD_ok : ∀ i, i < 7 → ∀ k, k < my_len.getD i 0 → 1 ≤ wdD i k ∧ wdD i k ≤ 26 := by decide +kernel
theorem wdD_ch : ∀ i, i < 7 → ∀ k, k < my_len.getD i 0 → f_J0_charAt_5068e i (nI k) = nI (96 + wdD i k) := by decide +kernel
theorem wdD_inj : ∀ i, i < 7 → ∀ j, j < 7 → lV (wdD i) (my_len.getD i 0) = lV (wdD j) (my_len.getD j 0) → i = j := by decide +kernel
/-- the letters d, L of them, are the word of i -/
def Mt (d : Nat → Nat) (L i : Nat) : Prop := L = my_len.getD i 0 ∧ ∀ k, k < L → d k = wdD i k
theorem lV_c {d e : Nat → Nat} : ∀ {L : Nat}, (∀ k, k < L → d k = e k) → lV d L = lV e L
  | 0, _ => rfl
  | L + 1, h => by rw [lV_s, lV_s, lV_c (L := L) (fun k hk => h k (Nat.lt_succ_of_lt hk)), h L (Nat.lt_succ_self L)]
theorem Mt_iff {d : Nat → Nat} {L i : Nat} (hi : i < 7) (hd : ∀ k, k < L → 1 ≤ d k ∧ d k ≤ 26) : Mt d L i ↔ lV d L = lV (wdD i) (my_len.getD i 0) := by
  constructor
  · rintro ⟨h1, h2⟩
    rw [← h1]
    exact lV_c h2
  · intro h
    exact lV_uniq hd (wdD_ok i hi) h
theorem Mt_1 {d : Nat → Nat} {L i j : Nat} (hi : i < 7) (hj : j < 7) (hd : ∀ k, k < L → 1 ≤ d k ∧ d k ≤ 26) (h1 : Mt d L i) (h2 : Mt d L j) : i = j :=
  wdD_inj i hi j hj (((Mt_iff hi hd).mp h1).symm.trans ((Mt_iff hj hd).mp h2))
section WORDS
variable {b y : Nat → Int32} {t : Nat} {p f g : Int32} {cm : Nat} {d : Nat → Nat} {st e : Nat}
theorem stands_eq (h : txE b y t) (he : e ≤ t) (hs : st ≤ e) (hd : ∀ k, k < e - st → 1 ≤ d k ∧ d k ≤ 26 ∧ y (st + k) = nI (96 + d k)) {i : Nat} (hi : i < 7) :
    f_X2_stands (nI t, p, f, g, cm, b) i (nI st) (nI e) = 0 ↔ ¬ Mt d (e - st) i := by
  have ht := h.1
  have hl := wdL_ok i hi
  unfold f_X2_stands
  rw [pk_sub hs]
  by_cases z : my_len.getD i 0 = e - st
  · rw [if_pos (by rw [z])]
    refine lp_inm (I := fun x : Int32 => ∃ k, k ≤ e - st ∧ x = nI k ∧ ∀ j, j < k → d j = wdD i j) (Q := fun r : Int32 => r = 0 ↔ ¬ Mt d (e - st) i) (fun x : Int32 => ((nI (my_len.getD i 0)).toInt - x.toInt).toNat) ?_ _ _ ⟨0, Nat.zero_le _, rfl, fun j hj => absurd hj (Nat.not_lt_zero j)⟩ (Nat.lt_succ_self _)
    rintro x ⟨k, hk, rfl, hm⟩
    unfold f_X2_stands_st
    by_cases q : my_len.getD i 0 ≤ k
    · rw [if_pos (nI_le q (by omega))]
      exact iff_of_false (by decide) (fun z2 => z2 ⟨z.symm, fun j hj => hm j (by omega)⟩)
    · have hk2 : k < e - st := by omega
      rw [if_neg (nI_ge (by omega) (by omega)), nI_add, byte_nI h _ (by omega), if_neg (show ¬ t ≤ st + k by omega), wdD_ch i hi k (by omega), (hd k hk2).2.2]
      have w1 := wdD_ok i hi k (by omega)
      have w2 := hd k hk2
      by_cases c : wdD i k = d k
      · rw [if_pos (by rw [c])]
        refine ⟨⟨k + 1, by omega, nI_1 k, fun j hj => ?_⟩, mu_up (nI_ge (by omega) (by omega))⟩
        rcases Nat.lt_or_ge j k with l | l
        · exact hm j l
        · have e1 : j = k := by omega
          subst e1; exact c.symm
      · rw [if_neg (fun z2 => c (by have := (nI_eq (by omega) (by omega)).mp z2; omega))]
        exact iff_of_true rfl (fun z2 => c (z2.2 k hk2).symm)
  · rw [if_neg (fun z2 => z ((nI_eq (by omega) (by omega)).mp z2))]
    exact iff_of_true rfl (fun z2 => z z2.1.symm)
theorem named_eq (h : txE b y t) (he : e ≤ t) (hs : st ≤ e) (hd : ∀ k, k < e - st → 1 ≤ d k ∧ d k ≤ 26 ∧ y (st + k) = nI (96 + d k)) :
    (f_X2_commandNamed (nI t, p, f, g, cm, b) (nI st) (nI e) < 7 ∧ Mt d (e - st) (f_X2_commandNamed (nI t, p, f, g, cm, b) (nI st) (nI e))) ∨ (f_X2_commandNamed (nI t, p, f, g, cm, b) (nI st) (nI e) = 7 ∧ ∀ i, i < 7 → ¬ Mt d (e - st) i) := by
  unfold f_X2_commandNamed
  refine lp_inm (I := fun x : Int32 => ∃ k, k ≤ 7 ∧ x = nI k ∧ ∀ j, j < k → ¬ Mt d (e - st) j) (Q := fun r : Nat => (r < 7 ∧ Mt d (e - st) r) ∨ (r = 7 ∧ ∀ i, i < 7 → ¬ Mt d (e - st) i)) (fun x : Int32 => ((7 : Int32).toInt - x.toInt).toNat) ?_ _ _ ⟨0, Nat.zero_le _, rfl, fun j hj => absurd hj (Nat.not_lt_zero j)⟩ (Nat.lt_succ_self _)
  rintro x ⟨k, hk, rfl, hm⟩
  unfold f_X2_commandNamed_st
  by_cases q : 7 ≤ k
  · rw [if_pos (show (7 : Int32) ≤ nI k from nI_le (a := 7) q (by omega))]
    exact Or.inr ⟨rfl, fun i hi => hm i (by omega)⟩
  · rw [if_neg (show ¬ (7 : Int32) ≤ nI k from nI_ge (b := 7) (by omega) (by decide)), nI_clamp (by omega)]
    by_cases c : f_X2_stands (nI t, p, f, g, cm, b) k (nI st) (nI e) = 0
    · rw [if_pos c]
      refine ⟨⟨k + 1, by omega, nI_1 k, fun j hj => ?_⟩, mu_up (show ¬ (7 : Int32) ≤ nI k from nI_ge (b := 7) (by omega) (by decide))⟩
      rcases Nat.lt_or_ge j k with l | l
      · exact hm j l
      · have e1 : j = k := by omega
        subst e1; exact (stands_eq h he hs hd (by omega)).mp c
    · rw [if_neg c]
      refine Or.inl ⟨by omega, ?_⟩
      exact Classical.byContradiction (fun z2 => c ((stands_eq h he hs hd (by omega)).mpr z2))
theorem letter64 : ∀ k, k < 27 → Int32.toInt64 (nI (96 + k)) - 97 + 1 = Int64.ofNat k := by decide +kernel
theorem word_eq (hs : st ≤ e) (he : e ≤ 150) (hd : ∀ k, k < e - st → 1 ≤ d k ∧ d k ≤ 26 ∧ y (st + k) = nI (96 + d k)) :
    f_X8_wordOf y (nI st) (nI e) = if e - st ≤ 6 then Int64.ofNat (lV d (e - st)) else 0 := by
  unfold f_X8_wordOf
  refine my_t2_inv (fun (a : Int64) (_ : Int32) => a = Int64.ofNat (lV d (e - st))) (fun r : Int64 => r = if e - st ≤ 6 then Int64.ofNat (lV d (e - st)) else 0) ?_ ?_
  · refine lp_inm (I := fun x : Int64 × Int32 => ∃ k, k ≤ e - st ∧ x.2 = nI (st + k) ∧ x.1 = Int64.ofNat (lV d k)) (Q := fun r : Int64 × Int32 => r.1 = Int64.ofNat (lV d (e - st))) (fun x : Int64 × Int32 => ((nI e).toInt - x.2.toInt).toNat) ?_ _ _ ⟨0, Nat.zero_le _, rfl, rfl⟩ (Nat.lt_succ_self _)
    rintro ⟨a, x⟩ ⟨k, hk, h1, h2⟩
    have h1 : x = nI (st + k) := h1
    have h2 : a = Int64.ofNat (lV d k) := h2
    subst h1 h2
    show Sum.elim _ _ (f_X8_wordOf_st y (nI e) (Int64.ofNat (lV d k)) (nI (st + k)))
    unfold f_X8_wordOf_st
    by_cases q : e ≤ st + k
    · rw [if_pos (nI_le q (by omega))]
      have e1 : k = e - st := by omega
      show Int64.ofNat (lV d k) = Int64.ofNat (lV d (e - st))
      rw [e1]
    · have hk2 := hd k (by omega)
      rw [if_neg (nI_ge (by omega) (by omega)), nI_clamp (by omega), hk2.2.2]
      refine ⟨⟨k + 1, by omega, nI_1 (st + k), ?_⟩, mu_up (nI_ge (by omega) (by omega))⟩
      show 27 * Int64.ofNat (lV d k) + Int32.toInt64 (nI (96 + d k)) - 97 + 1 = Int64.ofNat (lV d (k + 1))
      rw [lV_s, Int64.ofNat_add, Int64.ofNat_mul, ← letter64 (d k) (by omega), Int64.sub_eq_add_neg, Int64.sub_eq_add_neg, Int64.add_assoc, Int64.add_assoc, Int64.add_assoc]
      rfl
  · rintro a _ rfl
    rw [pk_sub hs]
    by_cases q : e - st ≤ 6
    · rw [if_pos q, if_pos (show nI (e - st) ≤ (6 : Int32) from nI_le (b := 6) q (by decide))]
    · rw [if_neg q, if_neg (show ¬ nI (e - st) ≤ (6 : Int32) from nI_ge (a := 6) (by omega) (by omega))]
theorem code_0 : f_X8_code 97 100 100 0 0 0 = Int64.ofNat (lV (wdD 0) (my_len.getD 0 0)) := by decide +kernel
theorem code_1 : f_X8_code 119 101 105 103 104 116 = Int64.ofNat (lV (wdD 1) (my_len.getD 1 0)) := by decide +kernel
theorem code_2 : f_X8_code 113 117 111 116 97 0 = Int64.ofNat (lV (wdD 2) (my_len.getD 2 0)) := by decide +kernel
theorem code_3 : f_X8_code 102 111 108 108 111 119 = Int64.ofNat (lV (wdD 3) (my_len.getD 3 0)) := by decide +kernel
theorem code_4 : f_X8_code 108 101 97 118 101 0 = Int64.ofNat (lV (wdD 4) (my_len.getD 4 0)) := by decide +kernel
theorem code_5 : f_X8_code 114 117 108 101 0 0 = Int64.ofNat (lV (wdD 5) (my_len.getD 5 0)) := by decide +kernel
theorem code_6 : f_X8_code 100 114 111 112 0 0 = Int64.ofNat (lV (wdD 6) (my_len.getD 6 0)) := by decide +kernel
theorem code_ne : ∀ i, i < 7 → 0 < lV (wdD i) (my_len.getD i 0) ∧ lV (wdD i) (my_len.getD i 0) < 2 ^ 30 := by decide +kernel
theorem o64_inj {a b : Nat} (ha : a < 2 ^ 30) (hb : b < 2 ^ 30) (h : Int64.ofNat a = Int64.ofNat b) : a = b := by
  have h1 := congrArg Int64.toInt h
  rw [Int64.toInt_ofNat_of_lt (by omega), Int64.toInt_ofNat_of_lt (by omega)] at h1
  omega
theorem code_Mt (hs : st ≤ e) (he : e ≤ 150) (hd : ∀ k, k < e - st → 1 ≤ d k ∧ d k ≤ 26 ∧ y (st + k) = nI (96 + d k)) {i : Nat} (hi : i < 7) : f_X8_wordOf y (nI st) (nI e) = Int64.ofNat (lV (wdD i) (my_len.getD i 0)) ↔ Mt d (e - st) i := by
  rw [word_eq hs he hd]
  have hd2 : ∀ k, k < e - st → 1 ≤ d k ∧ d k ≤ 26 := fun k hk => ⟨(hd k hk).1, (hd k hk).2.1⟩
  have hc := code_ne i hi
  by_cases q : e - st ≤ 6
  · rw [if_pos q, Mt_iff hi hd2]
    constructor
    · intro h
      have h1 := lV_lt (d := d) (L := e - st) (fun k hk => (hd2 k hk).2)
      have h2 : 27 ^ (e - st) ≤ 27 ^ 6 := Nat.pow_le_pow_right (by decide) q
      have h3 : (27 : Nat) ^ 6 < 2 ^ 30 := by decide
      exact o64_inj (by omega) hc.2 h
    · intro h; rw [h]
  · rw [if_neg q]
    refine iff_of_false (fun h => ?_) (fun h => ?_)
    · have := o64_inj (a := 0) (by decide) hc.2 h
      omega
    · have := (wdL_ok i hi).2
      have := h.1
      omega
theorem cmd_eq (h : txE b y t) (he : e ≤ t) (hs : st ≤ e) (hd : ∀ k, k < e - st → 1 ≤ d k ∧ d k ≤ 26 ∧ y (st + k) = nI (96 + d k)) :
    (∃ c, c < 7 ∧ f_X2_commandNamed (nI t, p, f, g, cm, b) (nI st) (nI e) = c ∧ f_X8_commandOf (f_X8_wordOf y (nI st) (nI e)) = nI c) ∨ (f_X2_commandNamed (nI t, p, f, g, cm, b) (nI st) (nI e) = 7 ∧ f_X8_commandOf (f_X8_wordOf y (nI st) (nI e)) = -1) := by
  have ht := h.1
  have hd2 : ∀ k, k < e - st → 1 ≤ d k ∧ d k ≤ 26 := fun k hk => ⟨(hd k hk).1, (hd k hk).2.1⟩
  have M := fun i (hi : i < 7) => code_Mt (y := y) hs (by omega) hd hi
  have h0 := M 0 (by decide)
  have h1 := M 1 (by decide)
  have h2 := M 2 (by decide)
  have h3 := M 3 (by decide)
  have h4 := M 4 (by decide)
  have h5 := M 5 (by decide)
  have h6 := M 6 (by decide)
  rw [← code_0] at h0
  rw [← code_1] at h1
  rw [← code_2] at h2
  rw [← code_3] at h3
  rw [← code_4] at h4
  rw [← code_5] at h5
  rw [← code_6] at h6
  rcases named_eq (p := p) (f := f) (g := g) (cm := cm) h he hs hd with ⟨n1, n2⟩ | ⟨n1, n2⟩
  · refine Or.inl ⟨_, n1, rfl, ?_⟩
    generalize f_X2_commandNamed (nI t, p, f, g, cm, b) (nI st) (nI e) = c at n1 n2
    have U : ∀ i, i < 7 → Mt d (e - st) i → i = c := fun i hi hm => Mt_1 hi n1 hd2 hm n2
    unfold f_X8_commandOf
    simp only [lg_cmp_eq]
    by_cases c0 : f_X8_wordOf y (nI st) (nI e) = f_X8_code 97 100 100 0 0 0
    · rw [if_pos c0, ← U 0 (by decide) (h0.mp c0)]; rfl
    rw [if_neg c0]
    by_cases c1 : f_X8_wordOf y (nI st) (nI e) = f_X8_code 119 101 105 103 104 116
    · rw [if_pos c1, ← U 1 (by decide) (h1.mp c1)]; rfl
    rw [if_neg c1]
    by_cases c2 : f_X8_wordOf y (nI st) (nI e) = f_X8_code 113 117 111 116 97 0
    · rw [if_pos c2, ← U 2 (by decide) (h2.mp c2)]; rfl
    rw [if_neg c2]
    by_cases c3 : f_X8_wordOf y (nI st) (nI e) = f_X8_code 102 111 108 108 111 119
    · rw [if_pos c3, ← U 3 (by decide) (h3.mp c3)]; rfl
    rw [if_neg c3]
    by_cases c4 : f_X8_wordOf y (nI st) (nI e) = f_X8_code 108 101 97 118 101 0
    · rw [if_pos c4, ← U 4 (by decide) (h4.mp c4)]; rfl
    rw [if_neg c4]
    by_cases c5 : f_X8_wordOf y (nI st) (nI e) = f_X8_code 114 117 108 101 0 0
    · rw [if_pos c5, ← U 5 (by decide) (h5.mp c5)]; rfl
    rw [if_neg c5]
    by_cases c6 : f_X8_wordOf y (nI st) (nI e) = f_X8_code 100 114 111 112 0 0
    · rw [if_pos c6, ← U 6 (by decide) (h6.mp c6)]; rfl
    exfalso
    have : c = 0 ∨ c = 1 ∨ c = 2 ∨ c = 3 ∨ c = 4 ∨ c = 5 ∨ c = 6 := by omega
    rcases this with rfl | rfl | rfl | rfl | rfl | rfl | rfl
    · exact c0 (h0.mpr n2)
    · exact c1 (h1.mpr n2)
    · exact c2 (h2.mpr n2)
    · exact c3 (h3.mpr n2)
    · exact c4 (h4.mpr n2)
    · exact c5 (h5.mpr n2)
    · exact c6 (h6.mpr n2)
  · refine Or.inr ⟨n1, ?_⟩
    unfold f_X8_commandOf
    simp only [lg_cmp_eq]
    rw [if_neg (fun z => n2 0 (by decide) (h0.mp z)), if_neg (fun z => n2 1 (by decide) (h1.mp z)), if_neg (fun z => n2 2 (by decide) (h2.mp z)), if_neg (fun z => n2 3 (by decide) (h3.mp z)), if_neg (fun z => n2 4 (by decide) (h4.mp z)), if_neg (fun z => n2 5 (by decide) (h5.mp z)), if_neg (fun z => n2 6 (by decide) (h6.mp z))]
end WORDS
