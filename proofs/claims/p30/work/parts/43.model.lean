/-! part 43 -/
def f_X8_in (x0 : Int32) (x1 : Int32) (x2 : Int32) : Int32 := (if x0 < x1 then 0 else (if x2 < x0 then 0 else 1))
def f_X8_isMember (y7 : (Nat → Int32)) (x0 : Int32) : Int32 := (if x0 < 0 then 0 else (if (y7 0) ≤ x0 then 0 else 1))
def f_X8_ones_st (x0 : Int32) (i1_1 : Int32) (i2_2 : Int32) : (Int32 × Int32) ⊕ (Int32 × Int32) := (if 8 ≤ i2_2 then (.inr (i1_1, i2_2)) else (.inl ((i1_1 + ((x0 >>> (i2_2 &&& 31)) &&& 1)), (i2_2 + 1))))
def f_X8_ones (x0 : Int32) : Int32 := (my_t2 (lp (fun (x : Int32 × Int32) => f_X8_ones_st x0 x.1 x.2) default (((8 : Int32).toInt - (0 : Int32).toInt).toNat + 1) (0, 0)) (fun (i1_1 : Int32) (i2_2 : Int32) => i1_1))
def f_X8_has (x0 : Int32) (x1 : Int32) : Int32 := (if ((x0 >>> (x1 &&& 31)) &&& 1) = 1 then 1 else 0)
def f_X8_factorial_st (x0 : Int32) (i1_1 : Int32) (i2_2 : Int32) : (Int32 × Int32) ⊕ (Int32 × Int32) := (if x0 < i2_2 then (.inr (i1_1, i2_2)) else (.inl ((i1_1 * i2_2), (i2_2 + 1))))
def f_X8_factorial (x0 : Int32) : Int32 := (my_t2 (lp (fun (x : Int32 × Int32) => f_X8_factorial_st x0 x.1 x.2) default (((x0 : Int32).toInt + 1 - (2 : Int32).toInt).toNat + 1) (1, 2)) (fun (i1_1 : Int32) (i2_2 : Int32) => i1_1))
def f_X8_isRule (y7 : (Nat → Int32)) (x0 : Int32) : Int32 := (if x0 < 0 then 0 else (if (y7 2) ≤ x0 then 0 else 1))
def f_X8_isValue (x0 : Int32) (x1 : Int32) : Int32 := (if x0 = 0 then (f_X8_in x1 1 8) else (if x0 = 1 then (f_X8_in x1 0 7) else (f_X8_in x1 1 255)))
def f_X8_isSet (y7 : (Nat → Int32)) (x0 : Int32) : Int32 := (if x0 < 0 then 0 else (if (1 <<< ((y7 0) &&& 31)) ≤ x0 then 0 else 1))
theorem lp_inv {σ ρ : Type} {f : σ → σ ⊕ ρ} {d : ρ} {I : σ → Prop} {Q : ρ → Prop} (hd : Q d) (h : ∀ x, I x → Sum.elim I Q (f x)) : ∀ (n : Nat) (x : σ), I x → Q (lp f d n x)
  | 0, _, _ => hd
  | n + 1, x, hx => by
    have h1 := h x hx
    rw [lp]
    cases hf : f x with
    | inl y => rw [hf] at h1; exact lp_inv hd h n y h1
    | inr r => rw [hf] at h1; exact h1
theorem bit_01 (x y : Int32) : (x >>> y) &&& 1 = 0 ∨ (x >>> y) &&& 1 = 1 := by
  have h : vp_in (1 &&& (x >>> y)) 2 := ix_and (vp_in_nI (n := 1) (N := 2) (by decide) (by decide))
  rw [Int32.and_comm] at h
  obtain ⟨h1, h2⟩ := vp_in_iff.mp h
  have h3 : ((x >>> y) &&& 1).toInt = 0 ∨ ((x >>> y) &&& 1).toInt = 1 := by omega
  rcases h3 with h3 | h3
  · exact Or.inl (Int32.toInt_inj.mp (h3.trans (by decide)))
  · exact Or.inr (Int32.toInt_inj.mp (h3.trans (by decide)))
theorem ones_le (x : Int32) : 0 ≤ (f_X8_ones x).toInt ∧ (f_X8_ones x).toInt ≤ 8 := by
  unfold f_X8_ones
  show 0 ≤ (lp (ρ := Int32 × Int32) _ _ _ _).1.toInt ∧ (lp (ρ := Int32 × Int32) _ _ _ _).1.toInt ≤ 8
  refine lp_inv (I := fun z : Int32 × Int32 => 0 ≤ z.1.toInt ∧ z.1.toInt ≤ z.2.toInt ∧ z.2.toInt ≤ 8) (Q := fun z : Int32 × Int32 => 0 ≤ z.1.toInt ∧ z.1.toInt ≤ 8) (by decide) ?_ _ _ (by decide)
  intro z ⟨h1, h2, h3⟩
  unfold f_X8_ones_st
  split
  · exact ⟨h1, Int.le_trans h2 h3⟩
  · rename_i h4
    have h5 : ¬ (8 : Int32).toInt ≤ z.2.toInt := fun h => h4 (Int32.le_iff_toInt_le.mpr h)
    have e8 : (8 : Int32).toInt = 8 := by decide
    have e1 : (1 : Int32).toInt = 1 := by decide
    have e0 : (0 : Int32).toInt = 0 := by decide
    have k1 : (z.2 + 1).toInt = z.2.toInt + 1 := by rw [i32_add (by rw [e1]; omega) (by rw [e1]; omega), e1]
    have k2 : (z.1 + ((x >>> (z.2 &&& 31)) &&& 1)).toInt = z.1.toInt ∨ (z.1 + ((x >>> (z.2 &&& 31)) &&& 1)).toInt = z.1.toInt + 1 := by
      rcases bit_01 x (z.2 &&& 31) with h | h
      · rw [h, i32_add (by rw [e0]; omega) (by rw [e0]; omega), e0]; omega
      · rw [h, i32_add (by rw [e1]; omega) (by rw [e1]; omega), e1]; omega
    refine ⟨?_, ?_, ?_⟩
    · show 0 ≤ (z.1 + ((x >>> (z.2 &&& 31)) &&& 1)).toInt; omega
    · show (z.1 + ((x >>> (z.2 &&& 31)) &&& 1)).toInt ≤ (z.2 + 1).toInt; omega
    · show (z.2 + 1).toInt ≤ 8; omega
theorem ones_9 (x : Int32) : ∃ k : Nat, k < 9 ∧ f_X8_ones x = nI k := by
  have h := ones_le x
  refine ⟨(f_X8_ones x).toInt.toNat, by omega, ?_⟩
  exact Int32.toInt_inj.mp (by rw [nI_toInt (by omega)]; omega)
theorem fac8_nz (x : Int32) : ¬ f_X8_factorial (f_X8_ones x) = 0 := by
  obtain ⟨k, hk, e⟩ := ones_9 x
  rw [e]
  have h : ∀ k : Nat, k < 9 → ¬ f_X8_factorial (nI k) = 0 := by decide +kernel
  exact h k hk
theorem im_0 {s : Nat → Int32} {x : Int32} (h : ¬ f_X8_isMember s x = 0) : ¬ x < 0 := by
  intro h0
  apply h
  unfold f_X8_isMember
  rw [if_pos h0]
theorem im_1 {s : Nat → Int32} {x : Int32} (h : ¬ f_X8_isMember s x = 0) : x < s 0 := by
  have h0 := im_0 h
  unfold f_X8_isMember at h
  rw [if_neg h0] at h
  by_cases h1 : s 0 ≤ x
  · rw [if_pos h1] at h; exact absurd rfl h
  · exact Int32.not_le.mp h1
theorem ir_0 {s : Nat → Int32} {x : Int32} (h : ¬ f_X8_isRule s x = 0) : ¬ x < 0 := by
  intro h0
  apply h
  unfold f_X8_isRule
  rw [if_pos h0]
theorem ir_1 {s : Nat → Int32} {x : Int32} (h : ¬ f_X8_isRule s x = 0) : x < s 2 := by
  have h0 := ir_0 h
  unfold f_X8_isRule at h
  rw [if_neg h0] at h
  by_cases h1 : s 2 ≤ x
  · rw [if_pos h1] at h; exact absurd rfl h
  · exact Int32.not_le.mp h1
theorem in_0 {v a b : Int32} (h : ¬ f_X8_in v a b = 0) : ¬ v < a := by
  intro h0
  apply h
  unfold f_X8_in
  rw [if_pos h0]
theorem in_1 {v a b : Int32} (h : ¬ f_X8_in v a b = 0) : ¬ b < v := by
  intro h1
  apply h
  have h0 := in_0 h
  unfold f_X8_in
  rw [if_neg h0, if_pos h1]

def f_X8_isPlayer (y7 : (Nat → Int32)) (x0 : Int32) : Int32 := (if (f_X8_isMember y7 x0) = 0 then 0 else (if (y7 (11 + x0).toNatClampNeg) = (-1) then 1 else 0))
theorem ip_m {s : Nat → Int32} {x : Int32} (h : ¬ f_X8_isPlayer s x = 0) : ¬ f_X8_isMember s x = 0 := by
  intro h0
  apply h
  unfold f_X8_isPlayer
  rw [if_pos h0]
def f_X8_players_st (y7 : (Nat → Int32)) (i1_1 : Int32) (i2_2 : Int32) : (Int32 × Int32) ⊕ (Int32 × Int32) := (if (y7 0) ≤ i2_2 then (.inr (i1_1, i2_2)) else (if (f_X8_isPlayer y7 i2_2) = 0 then (.inl ((i1_1 ||| 0), (i2_2 + 1))) else (.inl ((i1_1 ||| (1 <<< (i2_2 &&& 31))), (i2_2 + 1)))))
def f_X8_players (y7 : (Nat → Int32)) : Int32 := (my_t2 (lp (fun (x : Int32 × Int32) => f_X8_players_st y7 x.1 x.2) default ((((y7 0) : Int32).toInt - (0 : Int32).toInt).toNat + 1) (0, 0)) (fun (i1_1 : Int32) (i2_2 : Int32) => i1_1))
def f_X8_yes_st (y7 : (Nat → Int32)) (x0 : Int32) (i2_1 : Int32) (i3_2 : Int32) : (Int32 × Int32) ⊕ (Int32 × Int32) := (if (y7 0) ≤ i3_2 then (.inr (i2_1, i3_2)) else (if (y7 (11 + i3_2).toNatClampNeg) = (-1) then (if (f_X8_has x0 i3_2) = 0 then (.inl ((i2_1 ||| 0), (i3_2 + 1))) else (.inl ((i2_1 ||| (1 <<< (i3_2 &&& 31))), (i3_2 + 1)))) else (if (f_X8_has x0 (y7 (11 + i3_2).toNatClampNeg)) = 0 then (.inl ((i2_1 ||| 0), (i3_2 + 1))) else (.inl ((i2_1 ||| (1 <<< (i3_2 &&& 31))), (i3_2 + 1))))))
def f_X8_yes (y7 : (Nat → Int32)) (x0 : Int32) : Int32 := (my_t2 (lp (fun (x : Int32 × Int32) => f_X8_yes_st y7 x0 x.1 x.2) default ((((y7 0) : Int32).toInt - (0 : Int32).toInt).toNat + 1) (0, 0)) (fun (i2_1 : Int32) (i3_2 : Int32) => i2_1))
def f_X8_weightOf_st (y7 : (Nat → Int32)) (x0 : Int32) (i2_1 : Int32) (i3_2 : Int32) : (Int32 × Int32) ⊕ (Int32 × Int32) := (if (y7 0) ≤ i3_2 then (.inr (i2_1, i3_2)) else (if (f_X8_has x0 i3_2) = 0 then (.inl ((i2_1 + 0), (i3_2 + 1))) else (.inl ((i2_1 + (y7 (3 + i3_2).toNatClampNeg)), (i3_2 + 1)))))
def f_X8_weightOf (y7 : (Nat → Int32)) (x0 : Int32) : Int32 := (my_t2 (lp (fun (x : Int32 × Int32) => f_X8_weightOf_st y7 x0 x.1 x.2) default ((((y7 0) : Int32).toInt - (0 : Int32).toInt).toNat + 1) (0, 0)) (fun (i2_1 : Int32) (i3_2 : Int32) => i2_1))
def f_X8_holds (y7 : (Nat → Int32)) (x0 : Int32) (x1 : Int32) : Int32 := (if (y7 (19 + x0).toNatClampNeg) = 0 then (if (f_X8_ones x1) < (y7 (23 + x0).toNatClampNeg) then 0 else 1) else (if (y7 (19 + x0).toNatClampNeg) = 1 then (f_X8_has x1 (y7 (23 + x0).toNatClampNeg)) else (if (x1 &&& (y7 (23 + x0).toNatClampNeg)) = 0 then 0 else 1)))
def f_X8_why_st (y7 : (Nat → Int32)) (x0 : Int32) (i4_2 : Int32) : (Int32) ⊕ (Int32) := (if (y7 2) ≤ i4_2 then (.inr 0) else (if (f_X8_holds y7 i4_2 (f_X8_yes y7 x0)) = 0 then (.inr (2 + i4_2)) else (.inl (i4_2 + 1))))
def f_X8_why (y7 : (Nat → Int32)) (x0 : Int32) (x1 : Int32) : Int32 := (if x1 ≤ (f_X8_weightOf y7 (f_X8_yes y7 x0)) then (lp (fun (x : Int32) => f_X8_why_st y7 x0 x) default ((((y7 2) : Int32).toInt - (0 : Int32).toInt).toNat + 1) 0) else 1)
def f_X8_followers_st (y7 : (Nat → Int32)) (x0 : Int32) (i2_1 : Int32) (i3_2 : Int32) : (Int32 × Int32) ⊕ (Int32 × Int32) := (if (y7 0) ≤ i3_2 then (.inr (i2_1, i3_2)) else (if (y7 (11 + i3_2).toNatClampNeg) = x0 then (.inl ((i2_1 + 1), (i3_2 + 1))) else (.inl ((i2_1 + 0), (i3_2 + 1)))))
def f_X8_followers (y7 : (Nat → Int32)) (x0 : Int32) : Int32 := (my_t2 (lp (fun (x : Int32 × Int32) => f_X8_followers_st y7 x0 x.1 x.2) default ((((y7 0) : Int32).toInt - (0 : Int32).toInt).toNat + 1) (0, 0)) (fun (i2_1 : Int32) (i3_2 : Int32) => i2_1))
def f_X8_blocOf (y7 : (Nat → Int32)) (x0 : Int32) : Int32 := (if (f_X8_isPlayer y7 x0) = 0 then 0 else (f_X8_weightOf y7 (f_X8_yes y7 (1 <<< (x0 &&& 31)))))
def f_X8_alikeRules_st (y7 : (Nat → Int32)) (i1_1 : Int32) (i2_2 : Int32) : (Int32 × Int32) ⊕ (Int32 × Int32) := (if (y7 2) ≤ i2_2 then (.inr (i1_1, i2_2)) else (if (y7 (19 + i2_2).toNatClampNeg) = (y7 19) then (.inl ((i1_1 + 1), (i2_2 + 1))) else (.inl ((i1_1 + 0), (i2_2 + 1)))))
def f_X8_alikeRules (y7 : (Nat → Int32)) : Int32 := (my_t2 (lp (fun (x : Int32 × Int32) => f_X8_alikeRules_st y7 x.1 x.2) default ((((y7 2) : Int32).toInt - (0 : Int32).toInt).toNat + 1) (0, 0)) (fun (i1_1 : Int32) (i2_2 : Int32) => i1_1))
def f_X8_ruleOf (y7 : (Nat → Int32)) (x0 : Int32) (x1 : Int32) : Int32 := (if x1 = 0 then (y7 (19 + x0).toNatClampNeg) else (if x1 = 1 then (y7 (23 + x0).toNatClampNeg) else (if (f_X8_holds y7 x0 ((1 <<< ((y7 0) &&& 31)) - 1)) = 0 then 0 else 1)))
def f_X8_lays_st (y7 : (Nat → Int32)) (x0 : Int32) (i2_1 : Int32) (w010_2 : (Nat → Int32)) : (Int32 × (Nat → Int32)) ⊕ (Int32 × (Nat → Int32)) := (if 256 ≤ i2_1 then (.inr (i2_1, w010_2)) else (if (i2_1 &&& ((f_X8_players y7) ^^^ (-1))) = 0 then (if (f_X8_why y7 i2_1 x0) = 0 then (.inl ((i2_1 + 1), (upd w010_2 i2_1.toNatClampNeg 1))) else (.inl ((i2_1 + 1), (upd w010_2 i2_1.toNatClampNeg 0)))) else (.inl ((i2_1 + 1), (upd w010_2 i2_1.toNatClampNeg 0)))))
def f_X8_lays (y7 : (Nat → Int32)) (y10 : (Nat → Int32)) (x0 : Int32) : Int32 × (Nat → Int32) := (my_t2 (lp (fun (x : Int32 × (Nat → Int32)) => f_X8_lays_st y7 x0 x.1 x.2) default (((256 : Int32).toInt - (0 : Int32).toInt).toNat + 1) (0, y10)) (fun (i2_1 : Int32) (w010_2 : (Nat → Int32)) => ((f_X8_players y7), w010_2)))
theorem lays_bool {s w : Nat → Int32} {q : Int32} {u : Int32 × (Nat → Int32)} (hw : ∀ j : Nat, w j = 0 ∨ w j = 1) (h : f_X8_lays s w q = u) : ∀ j : Nat, u.2 j = 0 ∨ u.2 j = 1 := by
  subst h
  unfold f_X8_lays
  show ∀ j, (lp (ρ := Int32 × (Nat → Int32)) _ _ _ _).2 j = 0 ∨ (lp (ρ := Int32 × (Nat → Int32)) _ _ _ _).2 j = 1
  refine lp_inv (I := fun x : Int32 × (Nat → Int32) => ∀ j : Nat, x.2 j = 0 ∨ x.2 j = 1) (Q := fun x : Int32 × (Nat → Int32) => ∀ j : Nat, x.2 j = 0 ∨ x.2 j = 1) (fun j => Or.inl rfl) ?_ _ _ hw
  intro x hx
  unfold f_X8_lays_st
  have hu : ∀ (k : Nat) (v : Int32), (v = 0 ∨ v = 1) → ∀ j : Nat, upd x.2 k v j = 0 ∨ upd x.2 k v j = 1 := by
    intro k v hv j
    simp only [upd]
    split
    · exact hv
    · exact hx j
  split
  · exact hx
  · split
    · split
      · exact hu _ _ (by decide)
      · exact hu _ _ (by decide)
    · exact hu _ _ (by decide)

def f_X8_swings_st (y10 : (Nat → Int32)) (x0 : Int32) (i2_1 : Int32) (i3_2 : Int32) : (Int32 × Int32) ⊕ (Int32 × Int32) := (if 256 ≤ i3_2 then (.inr (i2_1, i3_2)) else (if (f_X8_has i3_2 x0) = 0 then (.inl ((i2_1 + 0), (i3_2 + 1))) else (if (y10 i3_2.toNatClampNeg) = 0 then (.inl ((i2_1 + 0), (i3_2 + 1))) else (if (y10 (i3_2 &&& ((1 <<< (x0 &&& 31)) ^^^ (-1))).toNatClampNeg) = 0 then (.inl ((i2_1 + 1), (i3_2 + 1))) else (.inl ((i2_1 + 0), (i3_2 + 1)))))))
def f_X8_swings (y10 : (Nat → Int32)) (x0 : Int32) : Int32 := (my_t2 (lp (fun (x : Int32 × Int32) => f_X8_swings_st y10 x0 x.1 x.2) default (((256 : Int32).toInt - (0 : Int32).toInt).toNat + 1) (0, 0)) (fun (i2_1 : Int32) (i3_2 : Int32) => i2_1))
def f_X8_allSwings_st (y10 : (Nat → Int32)) (i1_1 : Int32) (i2_2 : Int32) : (Int32 × Int32) ⊕ (Int32 × Int32) := (if 8 ≤ i2_2 then (.inr (i1_1, i2_2)) else (.inl ((i1_1 + (f_X8_swings y10 i2_2)), (i2_2 + 1))))
def f_X8_allSwings (y10 : (Nat → Int32)) : Int32 := (my_t2 (lp (fun (x : Int32 × Int32) => f_X8_allSwings_st y10 x.1 x.2) default (((8 : Int32).toInt - (0 : Int32).toInt).toNat + 1) (0, 0)) (fun (i1_1 : Int32) (i2_2 : Int32) => i1_1))
def f_X8_orders_st (y4 : Int32) (y10 : (Nat → Int32)) (x0 : Int32) (i2_1 : Int32) (i4_2 : Int32) : (Int32 × Int32) ⊕ (Int32 × Int32) := (if 256 ≤ i4_2 then (.inr (i2_1, i4_2)) else (if (f_X8_has i4_2 x0) = 0 then (.inl ((i2_1 + 0), (i4_2 + 1))) else (if (y10 i4_2.toNatClampNeg) = 0 then (.inl ((i2_1 + 0), (i4_2 + 1))) else (if (y10 (i4_2 &&& ((1 <<< (x0 &&& 31)) ^^^ (-1))).toNatClampNeg) = 0 then (.inl ((i2_1 + ((f_X8_factorial ((f_X8_ones i4_2) - 1)) * (f_X8_factorial ((f_X8_ones y4) - (f_X8_ones i4_2))))), (i4_2 + 1))) else (.inl ((i2_1 + 0), (i4_2 + 1)))))))
def f_X8_orders (y4 : Int32) (y10 : (Nat → Int32)) (x0 : Int32) : Int32 := (my_t2 (lp (fun (x : Int32 × Int32) => f_X8_orders_st y4 y10 x0 x.1 x.2) default (((256 : Int32).toInt - (0 : Int32).toInt).toNat + 1) (0, 0)) (fun (i2_1 : Int32) (i4_2 : Int32) => i2_1))
def f_X8_isNeeded_st (y10 : (Nat → Int32)) (x0 : Int32) (i2_1 : Int32) (i3_2 : Int32) : (Int32 × Int32) ⊕ (Int32 × Int32) := (if 256 ≤ i3_2 then (.inr (i2_1, i3_2)) else (if i2_1 = 0 then (.inl (0, (i3_2 + 1))) else (if (y10 i3_2.toNatClampNeg) = 0 then (.inl (1, (i3_2 + 1))) else (if (f_X8_has i3_2 x0) = 0 then (.inl (0, (i3_2 + 1))) else (.inl (1, (i3_2 + 1)))))))
def f_X8_isNeeded (y4 : Int32) (y10 : (Nat → Int32)) (x0 : Int32) : Int32 := (my_t2 (lp (fun (x : Int32 × Int32) => f_X8_isNeeded_st y10 x0 x.1 x.2) default (((256 : Int32).toInt - (0 : Int32).toInt).toNat + 1) ((y10 y4.toNatClampNeg), 0)) (fun (i2_1 : Int32) (i3_2 : Int32) => i2_1))
def f_X8_isLeast_st (y10 : (Nat → Int32)) (x0 : Int32) (i2_1 : Int32) (i3_2 : Int32) : (Int32 × Int32) ⊕ (Int32 × Int32) := (if 8 ≤ i3_2 then (.inr (i2_1, i3_2)) else (if i2_1 = 0 then (.inl (0, (i3_2 + 1))) else (if (f_X8_has x0 i3_2) = 0 then (.inl (1, (i3_2 + 1))) else (if (y10 (x0 &&& ((1 <<< (i3_2 &&& 31)) ^^^ (-1))).toNatClampNeg) = 0 then (.inl (1, (i3_2 + 1))) else (.inl (0, (i3_2 + 1)))))))
def f_X8_isLeast (y10 : (Nat → Int32)) (x0 : Int32) : Int32 := (my_t2 (lp (fun (x : Int32 × Int32) => f_X8_isLeast_st y10 x0 x.1 x.2) default (((8 : Int32).toInt - (0 : Int32).toInt).toNat + 1) ((y10 x0.toNatClampNeg), 0)) (fun (i2_1 : Int32) (i3_2 : Int32) => i2_1))
def f_X8_dummies_st (y7 : (Nat → Int32)) (y10 : (Nat → Int32)) (i1_1 : Int32) (i2_2 : Int32) : (Int32 × Int32) ⊕ (Int32 × Int32) := (if (y7 0) ≤ i2_2 then (.inr (i1_1, i2_2)) else (if (f_X8_isPlayer y7 i2_2) = 0 then (.inl ((i1_1 ||| 0), (i2_2 + 1))) else (if (f_X8_swings y10 i2_2) = 0 then (.inl ((i1_1 ||| (1 <<< (i2_2 &&& 31))), (i2_2 + 1))) else (.inl ((i1_1 ||| 0), (i2_2 + 1))))))
def f_X8_dummies (y7 : (Nat → Int32)) (y10 : (Nat → Int32)) : Int32 := (my_t2 (lp (fun (x : Int32 × Int32) => f_X8_dummies_st y7 y10 x.1 x.2) default ((((y7 0) : Int32).toInt - (0 : Int32).toInt).toNat + 1) (0, 0)) (fun (i1_1 : Int32) (i2_2 : Int32) => i1_1))
def f_X8_needed_st (y4 : Int32) (y7 : (Nat → Int32)) (y10 : (Nat → Int32)) (i1_1 : Int32) (i2_2 : Int32) : (Int32 × Int32) ⊕ (Int32 × Int32) := (if (y7 0) ≤ i2_2 then (.inr (i1_1, i2_2)) else (if (f_X8_isPlayer y7 i2_2) = 0 then (.inl ((i1_1 ||| 0), (i2_2 + 1))) else (if (f_X8_isNeeded y4 y10 i2_2) = 0 then (.inl ((i1_1 ||| 0), (i2_2 + 1))) else (.inl ((i1_1 ||| (1 <<< (i2_2 &&& 31))), (i2_2 + 1))))))
def f_X8_needed (y4 : Int32) (y7 : (Nat → Int32)) (y10 : (Nat → Int32)) : Int32 := (my_t2 (lp (fun (x : Int32 × Int32) => f_X8_needed_st y4 y7 y10 x.1 x.2) default ((((y7 0) : Int32).toInt - (0 : Int32).toInt).toNat + 1) (0, 0)) (fun (i1_1 : Int32) (i2_2 : Int32) => i1_1))
def f_X8_many_st (y10 : (Nat → Int32)) (x0 : Int32) (i2_1 : Int32) (i3_2 : Int32) : (Int32 × Int32) ⊕ (Int32 × Int32) := (if 256 ≤ i3_2 then (.inr (i2_1, i3_2)) else (if x0 = 0 then (if (y10 i3_2.toNatClampNeg) = 0 then (.inl ((i2_1 + 0), (i3_2 + 1))) else (.inl ((i2_1 + 1), (i3_2 + 1)))) else (if (f_X8_isLeast y10 i3_2) = 0 then (.inl ((i2_1 + 0), (i3_2 + 1))) else (.inl ((i2_1 + 1), (i3_2 + 1))))))
def f_X8_many (y10 : (Nat → Int32)) (x0 : Int32) : Int32 := (my_t2 (lp (fun (x : Int32 × Int32) => f_X8_many_st y10 x0 x.1 x.2) default (((256 : Int32).toInt - (0 : Int32).toInt).toNat + 1) (0, 0)) (fun (i2_1 : Int32) (i3_2 : Int32) => i2_1))
def f_X8_shareOf (y10 : (Nat → Int32)) (x0 : Int32) : UInt32 := (if (f_X8_allSwings y10) = 0 then FP.fconst0 else (FP.fdiv (FP.i2f (f_X8_swings y10 x0)) (FP.i2f (f_X8_allSwings y10))))
def f_X8_partOf (y4 : Int32) (y7 : (Nat → Int32)) (y10 : (Nat → Int32)) (x0 : Int32) : UInt64 := (if (f_X8_isPlayer y7 x0) = 0 then FP.dconst0 else (FP.ddiv (FP.i2d (f_X8_orders y4 y10 x0)) (FP.i2d (f_X8_factorial (f_X8_ones y4)))))
theorem fin_X8_partOf (a : Int32) (s w : Nat → Int32) (x : Int32) : FP.Core.DFin (f_X8_partOf a s w x) := by
  unfold f_X8_partOf
  split
  · rw [FP.Core.fin_bits]; decide
  · exact my_ddiv (fac8_nz _)

def f_X8_saves_st (y0 : Int32) (y7 : (Nat → Int32)) (i1_3 : Int32) (w08_4 : (Nat → Int32)) : (Int32 × (Nat → Int32)) ⊕ (Int32 × (Nat → Int32)) := (if 27 ≤ i1_3 then (.inr (i1_3, w08_4)) else (.inl ((i1_3 + 1), (upd w08_4 ((27 * y0) + i1_3).toNatClampNeg (y7 i1_3.toNatClampNeg)))))
def f_X8_saves_st2 (y0 : Int32) (y7 : (Nat → Int32)) (i1_8 : Int32) (w08_9 : (Nat → Int32)) : (Int32 × (Nat → Int32)) ⊕ (Int32 × (Nat → Int32)) := (if 27 ≤ i1_8 then (.inr (i1_8, w08_9)) else (.inl ((i1_8 + 1), (upd w08_9 ((27 * (y0 - 1)) + i1_8).toNatClampNeg (y7 i1_8.toNatClampNeg)))))
def f_X8_saves_st1  (i1_6 : Int32) (w08_7 : (Nat → Int32)) : (Int32 × (Nat → Int32)) ⊕ (Int32 × (Nat → Int32)) := (if 81 ≤ i1_6 then (.inr (i1_6, w08_7)) else (.inl ((i1_6 + 1), (upd w08_7 i1_6.toNatClampNeg (w08_7 (i1_6 + 27).toNatClampNeg)))))
def f_X8_saves (y0 : Int32) (y1 : Int32) (y7 : (Nat → Int32)) (y8 : (Nat → Int32)) : Int32 × (Nat → Int32) := (if y1 = 0 then (if y0 = 4 then (my_t2 (lp (fun (x : Int32 × (Nat → Int32)) => f_X8_saves_st1 x.1 x.2) default (((81 : Int32).toInt - (0 : Int32).toInt).toNat + 1) (0, y8)) (fun (i1_6 : Int32) (w08_7 : (Nat → Int32)) => (my_t2 (lp (fun (x : Int32 × (Nat → Int32)) => f_X8_saves_st2 y0 y7 x.1 x.2) default (((27 : Int32).toInt - (0 : Int32).toInt).toNat + 1) (0, w08_7)) (fun (i1_8 : Int32) (w08_9 : (Nat → Int32)) => (((y0 - 1) + 1), w08_9))))) else (my_t2 (lp (fun (x : Int32 × (Nat → Int32)) => f_X8_saves_st y0 y7 x.1 x.2) default (((27 : Int32).toInt - (0 : Int32).toInt).toNat + 1) (0, y8)) (fun (i1_3 : Int32) (w08_4 : (Nat → Int32)) => ((y0 + 1), w08_4)))) else (y0, y8))
def f_X8_add (y0 : Int32) (y1 : Int32) (y7 : (Nat → Int32)) (y8 : (Nat → Int32)) (x0 : Int32) : Int32 × (Int32 × Int32 × (Nat → Int32) × (Nat → Int32)) := (if (f_X8_in x0 0 50) = 0 then (0, (y0, 1, y7, y8)) else (if (y7 0) = 8 then (0, (y0, 2, y7, y8)) else (my_l (f_X8_saves y0 y1 y7 y8) (fun (u_6 : Int32 × (Nat → Int32)) => ((y7 0), (u_6.1, 0, (upd (upd (upd y7 (3 + (y7 0)).toNatClampNeg x0) (11 + (y7 0)).toNatClampNeg (-1)) 0 ((y7 0) + 1)), u_6.2))))))
def f_X8_setWeight (y0 : Int32) (y1 : Int32) (y7 : (Nat → Int32)) (y8 : (Nat → Int32)) (x0 : Int32) (x1 : Int32) : Int32 × (Int32 × Int32 × (Nat → Int32) × (Nat → Int32)) := (if (f_X8_isMember y7 x0) = 0 then (0, (y0, 1, y7, y8)) else (if (f_X8_in x1 0 50) = 0 then (0, (y0, 2, y7, y8)) else (my_l (f_X8_saves y0 y1 y7 y8) (fun (u_9 : Int32 × (Nat → Int32)) => ((y7 (3 + x0).toNatClampNeg), (u_9.1, 0, (upd y7 (3 + x0).toNatClampNeg x1), u_9.2))))))
def f_X8_setQuota (y0 : Int32) (y1 : Int32) (y7 : (Nat → Int32)) (y8 : (Nat → Int32)) (x0 : Int32) : Int32 × (Int32 × Int32 × (Nat → Int32) × (Nat → Int32)) := (if (f_X8_in x0 1 400) = 0 then (0, (y0, 1, y7, y8)) else (my_l (f_X8_saves y0 y1 y7 y8) (fun (u_8 : Int32 × (Nat → Int32)) => ((y7 1), (u_8.1, 0, (upd y7 1 x0), u_8.2)))))
def f_X8_follow (y0 : Int32) (y1 : Int32) (y7 : (Nat → Int32)) (y8 : (Nat → Int32)) (x0 : Int32) (x1 : Int32) : Int32 × (Int32 × Int32 × (Nat → Int32) × (Nat → Int32)) := (if (f_X8_isMember y7 x0) = 0 then (0, (y0, 1, y7, y8)) else (if (f_X8_isMember y7 x1) = 0 then (0, (y0, 1, y7, y8)) else (if x0 = x1 then (0, (y0, 2, y7, y8)) else (if (f_X8_isPlayer y7 x0) = 0 then (0, (y0, 3, y7, y8)) else (if 0 < (f_X8_followers y7 x0) then (0, (y0, 3, y7, y8)) else (if (f_X8_isPlayer y7 x1) = 0 then (0, (y0, 3, y7, y8)) else (my_l (f_X8_saves y0 y1 y7 y8) (fun (u_22 : Int32 × (Nat → Int32)) => ((f_X8_blocOf (upd y7 (11 + x0).toNatClampNeg x1) x1), (u_22.1, 0, (upd y7 (11 + x0).toNatClampNeg x1), u_22.2))))))))))
def f_X8_leave (y0 : Int32) (y1 : Int32) (y7 : (Nat → Int32)) (y8 : (Nat → Int32)) (x0 : Int32) : Int32 × (Int32 × Int32 × (Nat → Int32) × (Nat → Int32)) := (if (f_X8_isMember y7 x0) = 0 then (0, (y0, 1, y7, y8)) else (if (f_X8_isPlayer y7 x0) = 0 then (my_l (f_X8_saves y0 y1 y7 y8) (fun (u_6 : Int32 × (Nat → Int32)) => ((y7 (11 + x0).toNatClampNeg), (u_6.1, 0, (upd y7 (11 + x0).toNatClampNeg (-1)), u_6.2)))) else (0, (y0, 2, y7, y8))))
def f_X8_addRule (y0 : Int32) (y1 : Int32) (y7 : (Nat → Int32)) (y8 : (Nat → Int32)) (x0 : Int32) (x1 : Int32) : Int32 × (Int32 × Int32 × (Nat → Int32) × (Nat → Int32)) := (if (f_X8_in x0 0 2) = 0 then (0, (y0, 1, y7, y8)) else (if (f_X8_isValue x0 x1) = 0 then (0, (y0, 1, y7, y8)) else (if (y7 2) = 4 then (0, (y0, 2, y7, y8)) else (my_l (f_X8_saves y0 y1 y7 y8) (fun (u_10 : Int32 × (Nat → Int32)) => ((((y7 2) + 1) - 1), (u_10.1, 0, (upd (upd (upd y7 (19 + (y7 2)).toNatClampNeg x0) (23 + (y7 2)).toNatClampNeg x1) 2 ((y7 2) + 1)), u_10.2)))))))
def f_X8_dropRule_st  (i2_10 : Int32) (w07_11 : (Nat → Int32)) : (Int32 × (Nat → Int32)) ⊕ (Int32 × (Nat → Int32)) := (if (w07_11 2) ≤ i2_10 then (.inr (i2_10, w07_11)) else (.inl ((i2_10 + 1), (upd (upd w07_11 (19 + i2_10).toNatClampNeg (w07_11 ((19 + i2_10) + 1).toNatClampNeg)) (23 + i2_10).toNatClampNeg ((upd w07_11 (19 + i2_10).toNatClampNeg (w07_11 ((19 + i2_10) + 1).toNatClampNeg)) ((23 + i2_10) + 1).toNatClampNeg)))))
def f_X8_dropRule (y0 : Int32) (y1 : Int32) (y7 : (Nat → Int32)) (y8 : (Nat → Int32)) (x0 : Int32) : Int32 × (Int32 × Int32 × (Nat → Int32) × (Nat → Int32)) := (if (f_X8_isRule y7 x0) = 0 then (0, (y0, 1, y7, y8)) else (my_l (f_X8_saves y0 y1 y7 y8) (fun (u_8 : Int32 × (Nat → Int32)) => (my_t2 (lp (fun (x : Int32 × (Nat → Int32)) => f_X8_dropRule_st x.1 x.2) default (((((y7 2) - 1) : Int32).toInt - (x0 : Int32).toInt).toNat + 1) (x0, (upd y7 2 ((y7 2) - 1)))) (fun (i2_10 : Int32) (w07_11 : (Nat → Int32)) => ((w07_11 2), (u_8.1, 0, w07_11, u_8.2)))))))
def f_X8_memberOf (y4 : Int32) (y7 : (Nat → Int32)) (y10 : (Nat → Int32)) (x0 : Int32) (x1 : Int32) : Int32 := (if x1 = 0 then (y7 (3 + x0).toNatClampNeg) else (if x1 = 1 then (y7 (11 + x0).toNatClampNeg) else (if x1 = 2 then (f_X8_followers y7 x0) else (if x1 = 3 then (f_X8_blocOf y7 x0) else (if x1 = 4 then (f_X8_swings y10 x0) else (if x1 = 5 then (f_X8_orders y4 y10 x0) else (if x1 = 6 then (((f_X8_dummies y7 y10) >>> (x0 &&& 31)) &&& 1) else (((f_X8_needed y4 y7 y10) >>> (x0 &&& 31)) &&& 1))))))))
def f_X8_wholeOf (y2 : Int32) (y4 : Int32) (y7 : (Nat → Int32)) (y10 : (Nat → Int32)) (x0 : Int32) : Int32 := (if x0 = 0 then (y7 0) else (if x0 = 1 then (f_X8_ones y4) else (if x0 = 2 then (y7 1) else (if x0 = 3 then (y7 2) else (if x0 = 4 then (f_X8_weightOf y7 255) else (if x0 = 5 then (f_X8_many y10 0) else (if x0 = 6 then (f_X8_many y10 1) else (if x0 = 7 then (f_X8_allSwings y10) else (if x0 = 8 then (f_X8_dummies y7 y10) else (if x0 = 9 then (f_X8_needed y4 y7 y10) else (if x0 = 10 then (f_X8_alikeRules y7) else y2)))))))))))
def f_X8_member (y4 : Int32) (y7 : (Nat → Int32)) (y10 : (Nat → Int32)) (x0 : Int32) (x1 : Int32) : Int32 × (Int32 × Int32 × (Nat → Int32)) := (if (f_X8_isMember y7 x0) = 0 then (0, (1, y4, y10)) else (if (f_X8_in x1 0 7) = 0 then (0, (2, y4, y10)) else (my_l (f_X8_lays y7 y10 (y7 1)) (fun (u_9 : Int32 × (Nat → Int32)) => ((f_X8_memberOf u_9.1 y7 u_9.2 x0 x1), (0, u_9.1, u_9.2))))))
def f_X8_rule (y7 : (Nat → Int32)) (x0 : Int32) (x1 : Int32) : Int32 × (Int32) := (if (f_X8_isRule y7 x0) = 0 then (0, 1) else (if (f_X8_in x1 0 2) = 0 then (0, 2) else ((f_X8_ruleOf y7 x0 x1), 0)))
def f_X8_whole (y2 : Int32) (y4 : Int32) (y7 : (Nat → Int32)) (y10 : (Nat → Int32)) (x0 : Int32) : Int32 × (Int32 × Int32 × (Nat → Int32)) := (if (f_X8_in x0 0 11) = 0 then (0, (1, y4, y10)) else (my_l (f_X8_lays y7 y10 (y7 1)) (fun (u_8 : Int32 × (Nat → Int32)) => ((f_X8_wholeOf y2 u_8.1 y7 u_8.2 x0), (0, u_8.1, u_8.2)))))
def f_X8_wins (y7 : (Nat → Int32)) (x0 : Int32) : Int32 × (Int32) := (if (f_X8_isSet y7 x0) = 0 then (0, 1) else (if (f_X8_why y7 x0 (y7 1)) = 0 then (1, 0) else (0, 0)))
def f_X8_share (y4 : Int32) (y7 : (Nat → Int32)) (y10 : (Nat → Int32)) (x0 : Int32) : UInt32 × (Int32 × Int32 × (Nat → Int32)) := (if (f_X8_isMember y7 x0) = 0 then (FP.fconst0, (1, y4, y10)) else (my_l (f_X8_lays y7 y10 (y7 1)) (fun (u_8 : Int32 × (Nat → Int32)) => ((f_X8_shareOf u_8.2 x0), (0, u_8.1, u_8.2)))))
def f_X8_part (y4 : Int32) (y7 : (Nat → Int32)) (y10 : (Nat → Int32)) (x0 : Int32) : UInt64 × (Int32 × Int32 × (Nat → Int32)) := (if (f_X8_isMember y7 x0) = 0 then (FP.dconst0, (1, y4, y10)) else (my_l (f_X8_lays y7 y10 (y7 1)) (fun (u_8 : Int32 × (Nat → Int32)) => ((f_X8_partOf u_8.1 y7 u_8.2 x0), (0, u_8.1, u_8.2)))))
def f_X8_least_st (x0 : Int32) (u_5 : Int32 × (Nat → Int32)) (i2_10 : Int32) (i3_11 : Int32) : (Int32 × Int32) ⊕ (Int32 × (Int32 × Int32 × (Nat → Int32))) := (if 256 ≤ i3_11 then (.inr ((-1), (0, u_5.1, u_5.2))) else (if (f_X8_isLeast u_5.2 i3_11) = 0 then (.inl ((i2_10 + 0), (i3_11 + 1))) else (if i2_10 = x0 then (.inr (i3_11, (0, u_5.1, u_5.2))) else (.inl ((i2_10 + 1), (i3_11 + 1))))))
def f_X8_least (y4 : Int32) (y7 : (Nat → Int32)) (y10 : (Nat → Int32)) (x0 : Int32) : Int32 × (Int32 × Int32 × (Nat → Int32)) := (if 0 ≤ x0 then (my_l (f_X8_lays y7 y10 (y7 1)) (fun (u_5 : Int32 × (Nat → Int32)) => (lp (fun (x : Int32 × Int32) => f_X8_least_st x0 u_5 x.1 x.2) default (((256 : Int32).toInt - (0 : Int32).toInt).toNat + 1) (0, 0)))) else (0, (1, y4, y10)))
theorem my_l_inv {α γ : Type} {x : α} {k : α → γ} (P : α → Prop) (Q : γ → Prop) (h : P x) (hk : ∀ a, P a → Q (k a)) : Q (my_l x k) := hk _ h
theorem my_t2_inv {α β γ : Type} {x : α × β} {k : α → β → γ} (P : α → β → Prop) (Q : γ → Prop) (h : P x.1 x.2) (hk : ∀ a b, P a b → Q (k a b)) : Q (my_t2 x k) := hk _ _ h
theorem lp_inm {σ ρ : Type} {f : σ → σ ⊕ ρ} {d : ρ} {I : σ → Prop} {Q : ρ → Prop} (μ : σ → Nat) (h : ∀ x, I x → Sum.elim (fun y => I y ∧ μ y < μ x) Q (f x)) : ∀ (n : Nat) (x : σ), I x → μ x < n → Q (lp f d n x)
  | 0, _, _, hn => absurd hn (Nat.not_lt_zero _)
  | n + 1, x, hx, hn => by
    have h1 := h x hx
    rw [lp]
    cases hf : f x with
    | inl y => rw [hf] at h1; exact lp_inm μ h n y h1.1 (Nat.lt_of_lt_of_le h1.2 (Nat.le_of_lt_succ hn))
    | inr r => rw [hf] at h1; exact h1
theorem i32_c0 : (0 : Int32).toInt = 0 := by decide
theorem upd_eq {f : Nat → Int32} {i : Nat} {v : Int32} : upd f i v i = v := by
  simp [upd]
theorem upd_ne {f : Nat → Int32} {i j : Nat} {v : Int32} (h : ¬ j = i) : upd f i v j = f j := by
  simp only [upd]
  split
  · rename_i h1; exact absurd h1 h
  · rfl
section OK8
variable {p ru x0 x1 : Int32} {s y : Nat → Int32}
end OK8
