/-! part 94: type, clearCommands, runCommands -/
def txR (tx : TxtV) (y2 : Int32) (y9 : Nat → Int32) : Prop := ∃ t, tx.1 = nI t ∧ y2 = nI t ∧ txE tx.2.2.2.2.2 y9 t
theorem txR_clear (tx : TxtV) (y9 : Nat → Int32) : txR (0, tx.2) 0 y9 := ⟨0, rfl, rfl, by decide, fun j hj => absurd hj (Nat.not_lt_zero j)⟩
section TYPE
variable {tx : TxtV} {y2 : Int32} {y9 : Nat → Int32} {st : Int32}
theorem R_type (h : txR tx y2 y9) (x0 : Int32) :
    (∃ f, f_X7_type st tx x0 = .inl f ∧ (f = 2 ∨ f = 3) ∧ f_X8_type y2 y9 x0 = (0, (y2, if f = 2 then 1 else 2, y9))) ∨
    (∃ r tx' y2' y9', f_X7_type st tx x0 = .inr (r, (st, tx')) ∧ f_X8_type y2 y9 x0 = (r, (y2', 0, y9')) ∧ txR tx' y2' y9') := by
  obtain ⟨t, h1, h2, ht, h3⟩ := h
  unfold f_X7_type f_X8_type
  rw [rg_eq]
  by_cases z : f_X8_in x0 0 127 = 0
  · rw [if_pos z, if_pos z, rf_bad (Or.inr (Or.inl rfl))]
    exact Or.inl ⟨2, rfl, Or.inl rfl, rfl⟩
  · rw [if_neg z, if_neg z, rf_fine, h1, h2]
    by_cases q : t = 150
    · subst q
      rw [if_neg (show ¬ nI 150 < (150 : Int32) by decide), if_pos (show nI 150 = (150 : Int32) by decide), rf_bad (Or.inr (Or.inr rfl))]
      exact Or.inl ⟨3, rfl, Or.inr rfl, rfl⟩
    · rw [if_pos (show nI t < (150 : Int32) from nI_lt (b := 150) (by omega) (by decide)), if_neg (show ¬ nI t = (150 : Int32) from fun e => q ((nI_eq (b := 150) (by omega) (by decide)).mp e)), rf_fine]
      refine Or.inr ⟨nI t + 1, (nI t + 1, tx.2.1, tx.2.2.1, tx.2.2.2.1, tx.2.2.2.2.1, rPut 150 tx.2.2.2.2.2 (nI t) x0), nI t + 1, upd y9 (nI t).toNatClampNeg x0, ?_, rfl, t + 1, nI_1 t, nI_1 t, by omega, fun j hj => ?_⟩
      · unfold f_X2_append
        rw [h1]
        rfl
      · show rPut 150 tx.2.2.2.2.2 (nI t) x0 j = upd y9 (nI t).toNatClampNeg x0 j
        unfold rPut
        rw [if_neg (nI_pos (by omega)), if_neg (nI_ge (by omega) (by decide)), nI_clamp (by omega)]
        by_cases e : j = t
        · subst e; rw [upd_eq, upd_eq]
        · rw [upd_ne e, upd_ne e]
          exact h3 j (by omega)
end TYPE
section RUNS
variable {v s0 s1 s2 s3 : SetV} {z : Int32 × Int32} {y0 : Int32} {s y : Nat → Int32} {tx : TxtV} {y2 : Int32} {y9 : Nat → Int32}
theorem q_ne10 {q : Nat} (hq : q ≤ 150) : ¬ nI q = -1 := fun e => by
  have e1 := congrArg Int32.toInt e
  rw [nI_toInt (by omega), show (-1 : Int32).toInt = -1 by decide] at e1
  omega
theorem R_runCommands (hv : eqS v s (s 1)) (hg : GS s) (hr : ring z s0 s1 s2 s3 y0 y) (h : txR tx y2 y9) (st y6 : Int32) (y13 : Nat → Int32) :
    (∃ r p f g c w5 w6 w13, f_X7_runCommands st v z s0 s1 s2 s3 tx = (r, (st, v, z, s0, s1, s2, s3, (tx.1, p, f, g, c, tx.2.2.2.2.2))) ∧ f_X8_runCommands y0 0 y2 y6 s y y9 y13 = (r, (y0, 0, 0, w5, w6, s, y, w13))) ∨
    (∃ r p f g c w5 w6 w13 u p', f_X7_runCommands st v z s0 s1 s2 s3 tx = (r, (1, u.1, u.2.1, u.2.2.1, u.2.2.2.1, u.2.2.2.2.1, u.2.2.2.2.2, (tx.1, p, f, g, c, tx.2.2.2.2.2))) ∧ f_X8_runCommands y0 0 y2 y6 s y y9 y13 = (r, (p'.1, 0, 0, w5, w6, p'.2.1, p'.2.2, w13)) ∧ okU u p') := by
  obtain ⟨t, h1, h2, hE⟩ := h
  have ht := hE.1
  obtain ⟨tx1, P, F, G, C, b⟩ := tx
  have h1 : tx1 = nI t := h1
  have hE : txE b y9 t := hE
  subst h1 h2
  unfold f_X7_runCommands f_X8_runCommands
  rw [my_b_eq, my_b_eq]
  dsimp only
  rcases fault_or hE P F G C y6 y13 with ⟨k1, k2, k3⟩ | ⟨q, hq, k1, k2⟩
  · rw [k1, k2, if_pos rfl, if_pos rfl, my_l_eq, my_l_eq]
    obtain ⟨u, u1, u2⟩ := skips_n0 (y := y9) ht
    rw [u2, my_l_eq]
    have key := co_all hE (f_X2_findFault (nI t, P, F, G, C, b)).2.1 (f_X2_findFault (nI t, P, F, G, C, b)).2.2.1 (f_X2_findFault (nI t, P, F, G, C, b)).2.2.2.1 (f_X2_findFault (nI t, P, F, G, C, b)).2.2.2.2 (f_X8_saves y0 0 s y).1 (f_X8_saves y0 0 s y).2 (t + 1) 0 0 u 151 (ft_mu (nI t) 1 (nI u) + 1)
      (f_X2_findFault (nI t, P, F, G, C, b)).2.2.1 (f_X2_findFault (nI t, P, F, G, C, b)).2.2.2.1 (f_X2_findFault (nI t, P, F, G, C, b)).2.2.2.2 0 (f_X8_fault (nI t) y6 y9 y13).2.2.1 v s (f_X8_fault (nI t) y6 y9 y13).2.2.2 (by omega) (Nat.zero_le t) (Nat.le_refl 0) u2 u1 (by omega) (by
      unfold ft_mu
      rw [if_neg (by decide), nI_toInt (by omega), nI_toInt (by omega)]; omega) k3 hv hg
    obtain ⟨c, v', s', p', f', g', c', z1, z2, z3, z4, z5, A1, A2, A3, A4⟩ := key
    have e1 : f_X7_carryOutText 1 v (nI t, (f_X2_findFault (nI t, P, F, G, C, b)).2.1, (f_X2_findFault (nI t, P, F, G, C, b)).2.2.1, (f_X2_findFault (nI t, P, F, G, C, b)).2.2.2.1, (f_X2_findFault (nI t, P, F, G, C, b)).2.2.2.2, b) = (c, (v', (nI t, p', f', g', c', b))) := by
      rw [← A1]; rfl
    unfold ruF at A2
    have A2 : lp (fun (x : Int32 × Int32 × Int32 × Int32 × Int32 × Int32 × (Nat → Int32) × (Nat → Int32) × (Nat → Int32)) => f_X8_runCommands_st (nI t) y9 x.1 x.2.1 x.2.2.1 x.2.2.2.1 x.2.2.2.2.1 x.2.2.2.2.2.1 x.2.2.2.2.2.2.1 x.2.2.2.2.2.2.2.1 x.2.2.2.2.2.2.2.2) default ((ft_mu (nI t) 1 (nI u)) + 1) (0, 1, (f_X8_saves y0 0 s y).1, 0, nI u, (f_X8_fault (nI t) y6 y9 y13).2.2.1, s, (f_X8_saves y0 0 s y).2, (f_X8_fault (nI t) y6 y9 y13).2.2.2) = (c, z1, (f_X8_saves y0 0 s y).1, z2, z3, z4, s', (f_X8_saves y0 0 s y).2, z5) := A2
    rw [e1, A2, my_t9_eq, my_b_eq]
    exact Or.inr ⟨c, p', f', g', c', z3, z4, z5, (v', f_X5_keep z v s0 s1 s2 s3), ((f_X8_saves y0 0 s y).1, s', (f_X8_saves y0 0 s y).2), rfl, rfl, A3, A4, ring_keep hv hg hr⟩
  · rw [k1, k2, if_neg (q_ne10 (by omega)), if_neg (q_ne10 (by omega))]
    exact Or.inl ⟨_, _, _, _, _, _, _, _, rfl, rfl⟩
end RUNS
