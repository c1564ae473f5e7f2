/-! part 72 -/
theorem my_t3_inv {α0 α1 α2 γ : Type} {x : α0 × α1 × α2} {k : α0 → α1 → α2 → γ} (P : α0 → α1 → α2 → Prop) (Q : γ → Prop) (h : P x.1 x.2.1 x.2.2) (hk : ∀ a b c, P a b c → Q (k a b c)) : Q (my_t3 x k) := hk _ _ _ h
section CMDS3
variable {v : SetV} {s : Nat → Int32} {n r : Nat}
theorem newr_eq (x1 x2 : Int32) : f_X6_faultOfNewRule v x1 x2 = if f_X8_in x1 0 2 = 0 then 2 else if f_X8_isValue x1 x2 = 0 then 2 else 0 := by
  unfold f_X6_faultOfNewRule f_X8_isValue
  rw [rg_eq, rg_eq, rg_eq]
  by_cases h : f_X8_in x1 0 2 = 0
  · rw [if_pos h]
    by_cases h0 : x1 = 0
    · subst h0; exact absurd h (by decide)
    · by_cases h1 : x1 = 1
      · subst h1; exact absurd h (by decide)
      · by_cases h2 : x1 = 2
        · subst h2; exact absurd h (by decide)
        · rw [if_neg h0, if_neg h1, if_neg h2]
  · rw [if_neg h]
    obtain ⟨k, _, hk, rfl⟩ := in_rg (A := 0) (B := 2) rfl rfl (by decide) (by decide) h
    rcases (show k = 0 ∨ k = 1 ∨ k = 2 by omega) with rfl | rfl | rfl
    · rfl
    · rfl
    · rfl
theorem op_rule (hv : eqS v s (s 1)) (hg : GS s) (x1 x2 : Int32) : sOp v s 5 x1 x2 (fun y0 ru y => f_X8_addRule y0 ru s y x1 x2) (fun f => if f = 2 then 1 else 2) := by
  obtain ⟨n, r, c, hN, hL, hW, hR, hq, hq1, hq2⟩ := hg
  have h8 := hN.2.1
  have hr4 := hN.2.2.2
  have hf : f_X6_faultOf v 5 x1 x2 = if f_X8_in x1 0 2 = 0 then 2 else if f_X8_isValue x1 x2 = 0 then 2 else if s 2 = 4 then 3 else 0 := by
    show (if v.2.2.1 < 4 then (f_X6_worse (f_X6_faultOfNewRule v x1 x2) 0) else (f_X6_worse (f_X6_faultOfNewRule v x1 x2) 3)) = _
    rw [newr_eq, hv.2.2.1]
    unfold f_X6_worse
    by_cases h1 : f_X8_in x1 0 2 = 0
    · rw [if_pos h1, if_pos h1]; split <;> rfl
    · rw [if_neg h1, if_neg h1]
      by_cases h2 : f_X8_isValue x1 x2 = 0
      · rw [if_pos h2, if_pos h2]; split <;> rfl
      · rw [if_neg h2, if_neg h2, hN.2.2.1]
        by_cases h3 : r = 4
        · subst h3; rfl
        · rw [if_pos (show nI r < 4 from nI_lt (b := 4) (by omega) (by decide)), if_neg (show ¬ nI r = 4 from fun e => h3 ((nI_eq (b := 4) (by omega) (by decide)).mp e))]; rfl
  by_cases h1 : f_X8_in x1 0 2 = 0
  · refine Or.inl ⟨by rw [hf, if_pos h1]; exact Or.inr (Or.inl rfl), by rw [hf, if_pos h1]; decide, fun y0 ru y => ?_⟩
    show f_X8_addRule y0 ru s y x1 x2 = _
    unfold f_X8_addRule
    rw [if_pos h1, hf, if_pos h1]; rfl
  · by_cases h2 : f_X8_isValue x1 x2 = 0
    · refine Or.inl ⟨by rw [hf, if_neg h1, if_pos h2]; exact Or.inr (Or.inl rfl), by rw [hf, if_neg h1, if_pos h2]; decide, fun y0 ru y => ?_⟩
      show f_X8_addRule y0 ru s y x1 x2 = _
      unfold f_X8_addRule
      rw [if_neg h1, if_pos h2, hf, if_neg h1, if_pos h2]; rfl
    · by_cases h3 : s 2 = 4
      · refine Or.inl ⟨by rw [hf, if_neg h1, if_neg h2, if_pos h3]; exact Or.inr (Or.inr rfl), by rw [hf, if_neg h1, if_neg h2, if_pos h3]; decide, fun y0 ru y => ?_⟩
        show f_X8_addRule y0 ru s y x1 x2 = _
        unfold f_X8_addRule
        rw [if_neg h1, if_neg h2, if_pos h3, hf, if_neg h1, if_neg h2, if_pos h3]; rfl
      · have hr : r < 4 := by
          rcases Nat.lt_or_ge r 4 with z | z
          · exact z
          · exact absurd (by rw [hN.2.2.1, show r = 4 by omega]; rfl) h3
        have hv2 : v.2.2.1 = nI r := hv.2.2.1.trans hN.2.2.1
        obtain ⟨k, _, hk, ek⟩ := in_rg (A := 0) (B := 2) rfl rfl (by decide) (by decide) h1
        have hval : ∃ d : Nat, x2 = nI d ∧ ((k = 0 ∧ 1 ≤ d ∧ d ≤ 8) ∨ (k = 1 ∧ d ≤ 7) ∨ (k = 2 ∧ 1 ≤ d ∧ d ≤ 255)) := by
          unfold f_X8_isValue at h2
          rcases (show k = 0 ∨ k = 1 ∨ k = 2 by omega) with rfl | rfl | rfl
          · rw [ek, if_pos (by decide)] at h2
            obtain ⟨d, d1, d2, d3⟩ := in_rg (A := 1) (B := 8) rfl rfl (by decide) (by decide) h2
            exact ⟨d, d3, Or.inl ⟨rfl, d1, d2⟩⟩
          · rw [ek, if_neg (by decide), if_pos (by decide)] at h2
            obtain ⟨d, d1, d2, d3⟩ := in_rg (A := 0) (B := 7) rfl rfl (by decide) (by decide) h2
            exact ⟨d, d3, Or.inr (Or.inl ⟨rfl, d2⟩)⟩
          · rw [ek, if_neg (by decide), if_neg (by decide)] at h2
            obtain ⟨d, d1, d2, d3⟩ := in_rg (A := 1) (B := 255) rfl rfl (by decide) (by decide) h2
            exact ⟨d, d3, Or.inr (Or.inr ⟨rfl, d1, d2⟩)⟩
        obtain ⟨d, ed, hd⟩ := hval
        refine Or.inr ⟨by rw [hf, if_neg h1, if_neg h2, if_neg h3], ?_, (upd (upd (upd s (19 + (s 2)).toNatClampNeg x1) (23 + (s 2)).toNatClampNeg x2) 2 ((s 2) + 1)), ?_, ?_, fun y0 ru y => ?_⟩
        · show ¬ (v.2.2.1 + 1) - 1 < 0
          rw [hv2, nI_1, nI_pred]; exact nI_pos (by omega)
        · rw [hN.2.2.1, c19 (by omega), c23 (by omega)]
          show eqS (v.1, v.2.1, (v.2.2.1 + 1), v.2.2.2.1, v.2.2.2.2.1, (rPut 4 v.2.2.2.2.2.1 v.2.2.1 x1), (rPut 4 v.2.2.2.2.2.2 v.2.2.1 x2)) _ _
          rw [hv2, rPut_nI hr (by decide), rPut_nI hr (by decide)]
          refine ⟨?_, ?_, (upd_eq).symm, fun j hj => ?_, fun j hj => ?_, fun j hj => ?_, fun j hj => ?_⟩
          · rw [upd_ne (by decide), upd_ne (by omega), upd_ne (by omega)]; exact hv.1
          · rw [upd_ne (by decide), upd_ne (by omega), upd_ne (by omega)]; exact hv.2.1
          · rw [upd_ne (by omega), upd_ne (by omega), upd_ne (by omega)]; exact hv.2.2.2.1 j hj
          · rw [upd_ne (by omega), upd_ne (by omega), upd_ne (by omega)]; exact hv.2.2.2.2.1 j hj
          · show upd v.2.2.2.2.2.1 r x1 j = _
            rw [upd_ne (j := 19 + j) (by omega), upd_ne (j := 19 + j) (by omega)]
            by_cases hjr : j = r
            · rw [hjr, upd_eq, upd_eq]
            · rw [upd_ne hjr, upd_ne (by omega)]; exact hv.2.2.2.2.2.1 j hj
          · show upd v.2.2.2.2.2.2 r x2 j = _
            rw [upd_ne (j := 23 + j) (by omega)]
            by_cases hjr : j = r
            · rw [hjr, upd_eq, upd_eq]
            · rw [upd_ne hjr, upd_ne (by omega), upd_ne (by omega)]; exact hv.2.2.2.2.2.2 j hj
        · rw [hN.2.2.1, c19 (by omega), c23 (by omega)]
          refine ⟨n, r + 1, c, ⟨?_, h8, ?_, hr⟩, fun m hm => ?_, fun m hm => ?_, fun i hi => ?_, ?_, hq1, hq2⟩
          · rw [upd_ne (by decide), upd_ne (by omega), upd_ne (by omega)]; exact hN.1
          · rw [upd_eq]; exact nI_1 r
          · rw [upd_ne (by omega), upd_ne (by omega), upd_ne (by omega)]
            rcases hL m hm with z | ⟨p, z1, z2, z3⟩
            · exact Or.inl z
            · exact Or.inr ⟨p, z1, z2, by rw [upd_ne (by omega), upd_ne (by omega), upd_ne (by omega)]; exact z3⟩
          · rw [upd_ne (by omega), upd_ne (by omega), upd_ne (by omega)]; exact hW m hm
          · rw [upd_ne (show ¬ 19 + i = 2 by omega), upd_ne (show ¬ 19 + i = 23 + r by omega), upd_ne (show ¬ 23 + i = 2 by omega)]
            by_cases hir : i = r
            · rw [hir, upd_eq, upd_eq]; exact ⟨k, d, ek, ed, hd⟩
            · rw [upd_ne (by omega), upd_ne (by omega), upd_ne (by omega)]; exact hR i (by omega)
          · rw [upd_ne (by decide), upd_ne (by omega), upd_ne (by omega)]; exact hq
        · show f_X8_addRule y0 ru s y x1 x2 = ((v.2.2.1 + 1) - 1, _)
          unfold f_X8_addRule
          rw [if_neg h1, if_neg h2, if_neg h3, hv2, hN.2.2.1]
          rfl
-- the rules behind one go a place ahead
def shR (f : Nat → Int32) (a b k : Nat) : Int32 := if a ≤ k ∧ k < b then f (k + 1) else f k
theorem shR_v (x : Nat) {r : Nat} (hr : r < 4) (hx : x ≤ r) (hv2 : v.2.2.1 - 1 = nI r) : (∀ j, j < 4 → (f_X6_removeRule v (nI x)).2.2.2.2.2.2.1 j = shR v.2.2.2.2.2.1 x r j) ∧ (∀ j, j < 4 → (f_X6_removeRule v (nI x)).2.2.2.2.2.2.2 j = shR v.2.2.2.2.2.2 x r j) := by
  unfold f_X6_removeRule
  refine my_t3_inv (fun _ (a b : Nat → Int32) => (∀ j, j < 4 → a j = shR v.2.2.2.2.2.1 x r j) ∧ (∀ j, j < 4 → b j = shR v.2.2.2.2.2.2 x r j)) (fun u : Int32 × SetV => (∀ j, j < 4 → u.2.2.2.2.2.2.1 j = shR v.2.2.2.2.2.1 x r j) ∧ (∀ j, j < 4 → u.2.2.2.2.2.2.2 j = shR v.2.2.2.2.2.2 x r j)) ?_ (fun _ _ _ h => h)
  refine lp_inm (I := fun z : Int32 × (Nat → Int32) × (Nat → Int32) => ∃ i, x ≤ i ∧ i ≤ r ∧ z.1 = nI i ∧ (∀ j, j < 4 → z.2.1 j = shR v.2.2.2.2.2.1 x i j) ∧ (∀ j, j < 4 → z.2.2 j = shR v.2.2.2.2.2.2 x i j)) (Q := fun z : Int32 × (Nat → Int32) × (Nat → Int32) => (∀ j, j < 4 → z.2.1 j = shR v.2.2.2.2.2.1 x r j) ∧ (∀ j, j < 4 → z.2.2 j = shR v.2.2.2.2.2.2 x r j)) (fun z : Int32 × (Nat → Int32) × (Nat → Int32) => ((v.2.2.1 - 1).toInt - z.1.toInt).toNat) ?_ _ _ ⟨x, Nat.le_refl x, hx, rfl, fun j _ => by unfold shR; rw [if_neg (by omega)], fun j _ => by unfold shR; rw [if_neg (by omega)]⟩ (Nat.lt_succ_self _)
  rintro ⟨i, a, b⟩ ⟨i, hi1, hi2, rfl, h1, h2⟩
  have h1 : ∀ j, j < 4 → a j = shR v.2.2.2.2.2.1 x i j := h1
  have h2 : ∀ j, j < 4 → b j = shR v.2.2.2.2.2.2 x i j := h2
  show Sum.elim _ _ (f_X6_removeRule_st v (nI i) a b)
  unfold f_X6_removeRule_st
  by_cases hb : (v.2.2.1 - 1) ≤ nI i
  · rw [if_pos hb]
    rw [hv2] at hb
    have := (nI_leI (by omega) (by omega)).mp hb
    have e : i = r := by omega
    subst e; exact ⟨h1, h2⟩
  · rw [if_neg hb]
    have hir : i < r := by
      rw [hv2] at hb
      rcases Nat.lt_or_ge i r with z | z
      · exact z
      · exact absurd (nI_le z (by omega)) hb
    have key : ∀ (f g : Nat → Int32), (∀ j, j < 4 → f j = shR g x i j) → ∀ j, j < 4 → rPut 4 f (nI i) (rAt 4 f (nI i + 1)) j = shR g x (i + 1) j := by
      intro f g hfg j hj
      rw [nI_1, rAt_nI (by omega) (by decide), rPut_nI (by omega) (by decide)]
      by_cases hji : j = i
      · rw [hji, upd_eq, hfg (i + 1) (by omega)]
        unfold shR
        rw [if_neg (by omega), if_pos (by omega)]
      · rw [upd_ne hji, hfg j hj]
        unfold shR
        by_cases z : x ≤ j ∧ j < i
        · rw [if_pos z, if_pos (by omega)]
        · rw [if_neg z, if_neg (by omega)]
    exact ⟨⟨i + 1, by omega, hir, nI_1 i, key a _ h1, key b _ h2⟩, mu_up hb⟩
theorem dr_s {x r : Nat} (hr : r < 4) (hx : x ≤ r) (h2 : s 2 - 1 = nI r) : ∃ w : Nat → Int32, (lp (fun (z : Int32 × (Nat → Int32)) => f_X8_dropRule_st z.1 z.2) default ((((s 2) - 1 : Int32).toInt - (nI x : Int32).toInt).toNat + 1) (nI x, (upd s 2 ((s 2) - 1)))).2 = w ∧ w 2 = nI r ∧ (∀ j, j < 19 → ¬ j = 2 → w j = s j) ∧ (∀ j, j < 4 → w (19 + j) = shR (fun k => s (19 + k)) x r j) ∧ (∀ j, j < 4 → w (23 + j) = shR (fun k => s (23 + k)) x r j) := by
  refine ⟨_, rfl, ?_⟩
  refine lp_inm (I := fun z : Int32 × (Nat → Int32) => ∃ i, x ≤ i ∧ i ≤ r ∧ z.1 = nI i ∧ z.2 2 = nI r ∧ (∀ j, j < 19 → ¬ j = 2 → z.2 j = s j) ∧ (∀ j, j < 4 → z.2 (19 + j) = shR (fun k => s (19 + k)) x i j) ∧ (∀ j, j < 4 → z.2 (23 + j) = shR (fun k => s (23 + k)) x i j)) (Q := fun z : Int32 × (Nat → Int32) => z.2 2 = nI r ∧ (∀ j, j < 19 → ¬ j = 2 → z.2 j = s j) ∧ (∀ j, j < 4 → z.2 (19 + j) = shR (fun k => s (19 + k)) x r j) ∧ (∀ j, j < 4 → z.2 (23 + j) = shR (fun k => s (23 + k)) x r j)) (fun z : Int32 × (Nat → Int32) => ((s 2 - 1).toInt - z.1.toInt).toNat) ?_ _ _ ⟨x, Nat.le_refl x, hx, rfl, by show upd s 2 (s 2 - 1) 2 = _; rw [upd_eq]; exact h2, fun j _ hj => upd_ne hj, fun j _ => by show upd s 2 (s 2 - 1) (19 + j) = _; rw [upd_ne (by omega)]; unfold shR; rw [if_neg (by omega)], fun j _ => by show upd s 2 (s 2 - 1) (23 + j) = _; rw [upd_ne (by omega)]; unfold shR; rw [if_neg (by omega)]⟩ (Nat.lt_succ_self _)
  rintro ⟨i, w⟩ ⟨i, hi1, hi2, rfl, g2, g0, g3, g4⟩
  have g2 : w 2 = nI r := g2
  have g0 : ∀ j, j < 19 → ¬ j = 2 → w j = s j := g0
  have g3 : ∀ j, j < 4 → w (19 + j) = shR (fun k => s (19 + k)) x i j := g3
  have g4 : ∀ j, j < 4 → w (23 + j) = shR (fun k => s (23 + k)) x i j := g4
  show Sum.elim _ _ (f_X8_dropRule_st (nI i) w)
  unfold f_X8_dropRule_st
  rw [g2]
  by_cases hb : nI r ≤ nI i
  · rw [if_pos hb]
    have := (nI_leI (by omega) (by omega)).mp hb
    have e : i = r := by omega
    subst e; exact ⟨g2, g0, g3, g4⟩
  · rw [if_neg hb]
    have hir : i < r := by
      rcases Nat.lt_or_ge i r with z | z
      · exact z
      · exact absurd (nI_le z (by omega)) hb
    have e1 : ((19 + nI i) + 1 : Int32).toNatClampNeg = 19 + (i + 1) := by
      show ((nI 19 + nI i) + nI 1).toNatClampNeg = _
      rw [nI_add, nI_add, nI_clamp (by omega)]; omega
    have e2 : ((23 + nI i) + 1 : Int32).toNatClampNeg = 23 + (i + 1) := by
      show ((nI 23 + nI i) + nI 1).toNatClampNeg = _
      rw [nI_add, nI_add, nI_clamp (by omega)]; omega
    rw [c19 (by omega), c23 (by omega), e1, e2]
    have key : ∀ (g : Nat → Int32) (c : Nat) (w' : Nat → Int32) (x' : Int32), (∀ j, j < 4 → w (c + j) = shR g x i j) → x' = w (c + (i + 1)) → (∀ j, j < 4 → w' (c + j) = if j = i then x' else w (c + j)) → ∀ j, j < 4 → w' (c + j) = shR g x (i + 1) j := by
      intro g c w' x' hg hx' hw j hj
      rw [hw j hj]
      by_cases hji : j = i
      · rw [if_pos hji, hx', hg (i + 1) (by omega), hji]
        unfold shR
        rw [if_neg (by omega), if_pos (by omega)]
      · rw [if_neg hji, hg j hj]
        unfold shR
        by_cases z : x ≤ j ∧ j < i
        · rw [if_pos z, if_pos (by omega)]
        · rw [if_neg z, if_neg (by omega)]
    have hmu : ((s 2 - 1).toInt - (nI i + 1).toInt).toNat < ((s 2 - 1).toInt - (nI i).toInt).toNat := mu_up (by rw [h2]; exact hb)
    refine ⟨⟨i + 1, by omega, hir, nI_1 i, ?_, fun j hj hj2 => ?_, ?_, ?_⟩, hmu⟩
    · show upd (upd w _ _) _ _ 2 = _
      rw [upd_ne (by omega), upd_ne (by omega)]; exact g2
    · show upd (upd w _ _) _ _ j = _
      rw [upd_ne (by omega), upd_ne (by omega)]; exact g0 j hj hj2
    · refine key _ 19 _ (w (19 + (i + 1))) g3 rfl (fun j hj => ?_)
      show upd (upd w _ _) _ _ (19 + j) = _
      rw [upd_ne (by omega)]
      by_cases hji : j = i
      · rw [hji, upd_eq, if_pos rfl]
      · rw [upd_ne (by omega), if_neg hji]
    · refine key _ 23 _ (w (23 + (i + 1))) g4 rfl (fun j hj => ?_)
      show upd (upd w _ _) _ _ (23 + j) = _
      by_cases hji : j = i
      · rw [hji, upd_eq, if_pos rfl, upd_ne (by omega)]
      · rw [upd_ne (by omega), upd_ne (by omega), if_neg hji]
theorem op_drop (hv : eqS v s (s 1)) (hg : GS s) (x1 x2 : Int32) : sOp v s 6 x1 x2 (fun y0 ru y => f_X8_dropRule y0 ru s y x1) (fun _ => 1) := by
  obtain ⟨n, r, c, hN, hL, hW, hR, hq, hq1, hq2⟩ := hg
  have h8 := hN.2.1
  have hr4 := hN.2.2.2
  have hf : f_X6_faultOf v 6 x1 x2 = if f_X8_isRule s x1 = 0 then 1 else 0 := by
    show (if x1 < 0 then 1 else (if x1 < v.2.2.1 then 0 else 1)) = _
    unfold f_X8_isRule
    rw [hv.2.2.1]
    by_cases h1 : x1 < 0
    · rw [if_pos h1, if_pos h1]; rfl
    · rw [if_neg h1, if_neg h1]
      by_cases h2 : s 2 ≤ x1
      · rw [if_pos h2, if_neg (Int32.not_lt.mpr h2)]; rfl
      · rw [if_neg h2, if_pos (Int32.not_le.mp h2)]; rfl
  by_cases h1 : f_X8_isRule s x1 = 0
  · refine Or.inl ⟨by rw [hf, if_pos h1]; exact Or.inl rfl, (show (0 : Int32) < 1 by decide), fun y0 ru y => ?_⟩
    show f_X8_dropRule y0 ru s y x1 = _
    unfold f_X8_dropRule
    rw [if_pos h1]
  · obtain ⟨x, hx, rfl⟩ := below (n := r) (by omega) (ir_0 h1) (by rw [← hN.2.2.1]; exact Int32.not_le.mpr (ir_1 h1))
    obtain ⟨r', rfl⟩ : ∃ r', r = r' + 1 := ⟨r - 1, by omega⟩
    have hs2 : s 2 - 1 = nI r' := by rw [hN.2.2.1]; exact nI_pred r'
    have hv2 : v.2.2.1 - 1 = nI r' := by rw [hv.2.2.1]; exact hs2
    obtain ⟨w, ew, w2, w0, w19, w23⟩ := dr_s (s := s) (x := x) (r := r') (by omega) (by omega) hs2
    obtain ⟨a1, a2⟩ := shR_v (v := v) x (r := r') (by omega) (by omega) hv2
    have hsh : ∀ (f g : Nat → Int32), (∀ j, j < 4 → f j = g j) → ∀ j, j < 4 → shR f x r' j = shR g x r' j := by
      intro f g hfg j hj
      unfold shR
      by_cases z : x ≤ j ∧ j < r'
      · rw [if_pos z, if_pos z, hfg (j + 1) (by omega)]
      · rw [if_neg z, if_neg z, hfg j hj]
    refine Or.inr ⟨by rw [hf, if_neg h1], ?_, w, ?_, ?_, fun y0 ru y => ?_⟩
    · show ¬ v.2.2.1 - 1 < 0
      rw [hv2]; exact nI_pos (by omega)
    · show eqS (f_X6_removeRule v (nI x)).2 w (w 1)
      refine ⟨?_, ?_, ?_, fun j hj => ?_, fun j hj => ?_, fun j hj => ?_, fun j hj => ?_⟩
      · rw [w0 0 (by decide) (by decide)]; exact hv.1
      · rw [w0 1 (by decide) (by decide)]; exact hv.2.1
      · rw [w2]; exact hv2
      · rw [w0 (3 + j) (by omega) (by omega)]; exact hv.2.2.2.1 j hj
      · rw [w0 (11 + j) (by omega) (by omega)]; exact hv.2.2.2.2.1 j hj
      · rw [w19 j hj, a1 j hj]; exact hsh _ _ (fun k hk => hv.2.2.2.2.2.1 k hk) j hj
      · rw [w23 j hj, a2 j hj]; exact hsh _ _ (fun k hk => hv.2.2.2.2.2.2 k hk) j hj
    · refine ⟨n, r', c, ⟨by rw [w0 0 (by decide) (by decide)]; exact hN.1, h8, w2, by omega⟩, fun m hm => ?_, fun m hm => ?_, fun i hi => ?_, by rw [w0 1 (by decide) (by decide)]; exact hq, hq1, hq2⟩
      · rw [w0 (11 + m) (by omega) (by omega)]
        rcases hL m hm with z | ⟨p, z1, z2, z3⟩
        · exact Or.inl z
        · exact Or.inr ⟨p, z1, z2, by rw [w0 (11 + p) (by omega) (by omega)]; exact z3⟩
      · rw [w0 (3 + m) (by omega) (by omega)]; exact hW m hm
      · rw [w19 i (by omega), w23 i (by omega)]
        unfold shR
        by_cases z : x ≤ i ∧ i < r'
        · rw [if_pos z, if_pos z]; exact hR (i + 1) (by omega)
        · rw [if_neg z, if_neg z]; exact hR i (by omega)
    · show f_X8_dropRule y0 ru s y (nI x) = (v.2.2.1 - 1, _)
      unfold f_X8_dropRule
      rw [if_neg h1, hv2]
      show (_, (_, _, (lp (fun (z : Int32 × (Nat → Int32)) => f_X8_dropRule_st z.1 z.2) default ((((s 2) - 1 : Int32).toInt - (nI x : Int32).toInt).toNat + 1) (nI x, (upd s 2 ((s 2) - 1)))).2, _)) = _
      show ((lp (fun (z : Int32 × (Nat → Int32)) => f_X8_dropRule_st z.1 z.2) default ((((s 2) - 1 : Int32).toInt - (nI x : Int32).toInt).toNat + 1) (nI x, (upd s 2 ((s 2) - 1)))).2 2, _) = _
      rw [ew, w2]
end CMDS3
