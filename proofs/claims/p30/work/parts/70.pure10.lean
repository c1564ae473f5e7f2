/-! part 70 -/
def sOp (v : SetV) (s : Nat → Int32) (k : Nat) (x1 x2 : Int32) (G : Int32 → Int32 → (Nat → Int32) → Int32 × (Int32 × Int32 × (Nat → Int32) × (Nat → Int32))) (cod : Int32 → Int32) : Prop :=
  ((f_X6_faultOf v k x1 x2 = 1 ∨ f_X6_faultOf v k x1 x2 = 2 ∨ f_X6_faultOf v k x1 x2 = 3) ∧ 0 < cod (f_X6_faultOf v k x1 x2) ∧ ∀ y0 ru y, G y0 ru y = (0, (y0, cod (f_X6_faultOf v k x1 x2), s, y))) ∨
  (f_X6_faultOf v k x1 x2 = 0 ∧ ¬ (f_X6_carryOut v k x1 x2).1 < 0 ∧ ∃ s', eqS (f_X6_carryOut v k x1 x2).2 s' (s' 1) ∧ GS s' ∧ ∀ y0 ru y, G y0 ru y = ((f_X6_carryOut v k x1 x2).1, ((f_X8_saves y0 ru s y).1, 0, s', (f_X8_saves y0 ru s y).2)))
theorem rg_eq (x a b : Int32) : f_X7_faultOfRange x a b = if f_X8_in x a b = 0 then 2 else 0 := by
  unfold f_X7_faultOfRange f_X8_in
  by_cases h1 : x < a
  · rw [if_pos h1, if_pos h1]; rfl
  · rw [if_neg h1, if_neg h1]
    by_cases h2 : b < x
    · rw [if_pos h2, if_neg (Int32.not_le.mpr h2)]; rfl
    · rw [if_neg h2, if_pos (Int32.not_lt.mp h2)]; rfl
theorem in_rg {x a b : Int32} {A B : Nat} (ha : a = nI A) (hb : b = nI B) (hB : B < 2 ^ 31) (hA : A ≤ B) (h : ¬ f_X8_in x a b = 0) : ∃ k : Nat, A ≤ k ∧ k ≤ B ∧ x = nI k := by
  have h1 := in_0 h
  have h2 := in_1 h
  subst ha hb
  have h3 : ¬ x < 0 := fun z => h1 (Int32.lt_iff_toInt_lt.mpr (by
    have := Int32.lt_iff_toInt_lt.mp z
    rw [i32_c0] at this
    rw [nI_toInt (by omega)]; omega))
  obtain ⟨k, hk, rfl⟩ := nI_of h3
  refine ⟨k, ?_, ?_, rfl⟩
  · rcases Nat.lt_or_ge k A with z | z
    · exact absurd (nI_lt z (by omega)) h1
    · exact z
  · rcases Nat.lt_or_ge B k with z | z
    · exact absurd (nI_lt z hk) h2
    · exact z
section CMDS
variable {v : SetV} {s : Nat → Int32} {n r : Nat}
theorem op_add (hv : eqS v s (s 1)) (hg : GS s) (x1 x2 : Int32) : sOp v s 0 x1 x2 (fun y0 ru y => f_X8_add y0 ru s y x1) (fun f => if f = 2 then 1 else 2) := by
  obtain ⟨n, r, c, hN, hL, hW, hR, hq, hq1, hq2⟩ := hg
  have h8 := hN.2.1
  have hf : f_X6_faultOf v 0 x1 x2 = if f_X8_in x1 0 50 = 0 then 2 else if s 0 = 8 then 3 else 0 := by
    show (if v.1 < 8 then (f_X6_worse (f_X7_faultOfRange x1 0 50) 0) else (f_X6_worse (f_X7_faultOfRange x1 0 50) 3)) = _
    rw [rg_eq, hv.1]
    unfold f_X6_worse
    by_cases h1 : f_X8_in x1 0 50 = 0
    · rw [if_pos h1, if_pos h1]; split <;> rfl
    · rw [if_neg h1, if_neg h1, hN.1]
      by_cases h2 : n = 8
      · subst h2; rfl
      · rw [if_pos (show nI n < 8 from nI_lt (b := 8) (by omega) (by decide)), if_neg (show ¬ nI n = 8 from fun e => h2 ((nI_eq (b := 8) (by omega) (by decide)).mp e))]; rfl
  by_cases h1 : f_X8_in x1 0 50 = 0
  · refine Or.inl ⟨by rw [hf, if_pos h1]; exact Or.inr (Or.inl rfl), by rw [hf, if_pos h1]; decide, fun y0 ru y => ?_⟩
    show f_X8_add y0 ru s y x1 = _
    unfold f_X8_add
    rw [if_pos h1, hf, if_pos h1]; rfl
  · by_cases h2 : s 0 = 8
    · refine Or.inl ⟨by rw [hf, if_neg h1, if_pos h2]; exact Or.inr (Or.inr rfl), by rw [hf, if_neg h1, if_pos h2]; decide, fun y0 ru y => ?_⟩
      show f_X8_add y0 ru s y x1 = _
      unfold f_X8_add
      rw [if_neg h1, if_pos h2, hf, if_neg h1, if_pos h2]; rfl
    · have hn8 : n < 8 := by
        rcases Nat.lt_or_ge n 8 with z | z
        · exact z
        · exact absurd (by rw [hN.1, show n = 8 by omega]; rfl) h2
      have hv0 : v.1 = nI n := hv.1.trans hN.1
      obtain ⟨k, _, hk, ek⟩ := in_rg (A := 0) (B := 50) rfl rfl (by decide) (by decide) h1
      refine Or.inr ⟨by rw [hf, if_neg h1, if_neg h2], ?_, (upd (upd (upd s (3 + (s 0)).toNatClampNeg x1) (11 + (s 0)).toNatClampNeg (-1)) 0 ((s 0) + 1)), ?_, ?_, fun y0 ru y => ?_⟩
      · show ¬ (v.1 + 1) - 1 < 0
        rw [hv0, nI_1, nI_pred]; exact nI_pos (by omega)
      · rw [hN.1, c3 (by omega), c11 (by omega)]
        show eqS ((v.1 + 1), v.2.1, v.2.2.1, (rPut 8 v.2.2.2.1 v.1 x1), (rPut 8 v.2.2.2.2.1 v.1 (-1)), v.2.2.2.2.2) _ _
        rw [hv0, rPut_nI hn8 (by decide), rPut_nI hn8 (by decide)]
        refine ⟨(upd_eq).symm, ?_, ?_, fun j hj => ?_, fun j hj => ?_, fun j hj => ?_, fun j hj => ?_⟩
        · rw [upd_ne (by decide), upd_ne (by omega), upd_ne (by omega)]; exact hv.2.1
        · show v.2.2.1 = _
          rw [upd_ne (by decide), upd_ne (by omega), upd_ne (by omega)]; exact hv.2.2.1
        · show upd v.2.2.2.1 n x1 j = _
          rw [upd_ne (j := 3 + j) (by omega), upd_ne (j := 3 + j) (by omega)]
          by_cases hjn : j = n
          · rw [hjn, upd_eq, upd_eq]
          · rw [upd_ne hjn, upd_ne (by omega)]; exact hv.2.2.2.1 j hj
        · show upd v.2.2.2.2.1 n (-1) j = _
          rw [upd_ne (j := 11 + j) (by omega)]
          by_cases hjn : j = n
          · rw [hjn, upd_eq, upd_eq]
          · rw [upd_ne hjn, upd_ne (by omega), upd_ne (by omega)]; exact hv.2.2.2.2.1 j hj
        · show v.2.2.2.2.2.1 j = _
          rw [upd_ne (by omega), upd_ne (by omega), upd_ne (by omega)]; exact hv.2.2.2.2.2.1 j hj
        · show v.2.2.2.2.2.2 j = _
          rw [upd_ne (by omega), upd_ne (by omega), upd_ne (by omega)]; exact hv.2.2.2.2.2.2 j hj
      · rw [hN.1, c3 (by omega), c11 (by omega)]
        refine ⟨n + 1, r, c, ⟨?_, hn8, ?_, hN.2.2.2⟩, fun m hm => ?_, fun m hm => ?_, fun i hi => ?_, ?_, hq1, hq2⟩
        · rw [upd_eq]; exact nI_1 n
        · rw [upd_ne (by decide), upd_ne (by omega), upd_ne (by omega)]; exact hN.2.2.1
        · rw [upd_ne (by omega)]
          by_cases hmn : m = n
          · rw [hmn, upd_eq]; exact Or.inl rfl
          · rw [upd_ne (by omega), upd_ne (by omega)]
            rcases hL m (by omega) with z | ⟨p, z1, z2, z3⟩
            · exact Or.inl z
            · refine Or.inr ⟨p, by omega, z2, ?_⟩
              rw [upd_ne (by omega), upd_ne (by omega), upd_ne (by omega)]; exact z3
        · rw [upd_ne (by omega), upd_ne (by omega)]
          by_cases hmn : m = n
          · rw [hmn, upd_eq]; exact ⟨k, hk, ek⟩
          · rw [upd_ne (by omega)]; exact hW m (by omega)
        · have := hN.2.2.2
          rw [upd_ne (by omega), upd_ne (by omega), upd_ne (by omega), upd_ne (by omega), upd_ne (by omega), upd_ne (by omega)]; exact hR i hi
        · rw [upd_ne (by decide), upd_ne (by omega), upd_ne (by omega)]; exact hq
      · show f_X8_add y0 ru s y x1 = ((v.1 + 1) - 1, _)
        unfold f_X8_add
        rw [if_neg h1, if_neg h2, hv0, nI_1, nI_pred]
        show (s 0, _) = _
        rw [hN.1]
theorem op_weigh (hv : eqS v s (s 1)) (hg : GS s) (x1 x2 : Int32) : sOp v s 1 x1 x2 (fun y0 ru y => f_X8_setWeight y0 ru s y x1 x2) (fun f => f) := by
  obtain ⟨n, r, c, hN, hL, hW, hR, hq, hq1, hq2⟩ := hg
  have h8 := hN.2.1
  have hf : f_X6_faultOf v 1 x1 x2 = if f_X8_isMember s x1 = 0 then 1 else if f_X8_in x2 0 50 = 0 then 2 else 0 := by
    show f_X6_worse (if f_X6_hasMember v x1 = 0 then 1 else 0) (f_X7_faultOfRange x2 0 50) = _
    rw [rg_eq, hm_eq hv]
    unfold f_X6_worse
    by_cases h1 : f_X8_isMember s x1 = 0
    · rw [if_pos h1, if_pos h1]; rfl
    · rw [if_neg h1, if_neg h1]; rfl
  by_cases h1 : f_X8_isMember s x1 = 0
  · refine Or.inl ⟨by rw [hf, if_pos h1]; exact Or.inl rfl, by rw [hf, if_pos h1]; decide, fun y0 ru y => ?_⟩
    show f_X8_setWeight y0 ru s y x1 x2 = _
    unfold f_X8_setWeight
    rw [if_pos h1, hf, if_pos h1]
  · by_cases h2 : f_X8_in x2 0 50 = 0
    · refine Or.inl ⟨by rw [hf, if_neg h1, if_pos h2]; exact Or.inr (Or.inl rfl), by rw [hf, if_neg h1, if_pos h2]; decide, fun y0 ru y => ?_⟩
      show f_X8_setWeight y0 ru s y x1 x2 = _
      unfold f_X8_setWeight
      rw [if_neg h1, if_pos h2, hf, if_neg h1, if_pos h2]
    · obtain ⟨m, hm, rfl⟩ := mem_of hN h1
      obtain ⟨k, _, hk, ek⟩ := in_rg (A := 0) (B := 50) rfl rfl (by decide) (by decide) h2
      obtain ⟨k0, hk0, ek0⟩ := hW m hm
      refine Or.inr ⟨by rw [hf, if_neg h1, if_neg h2], ?_, upd s (3 + m) x2, ?_, ?_, fun y0 ru y => ?_⟩
      · show ¬ rAt 8 v.2.2.2.1 (nI m) < 0
        rw [rAt_nI (by omega) (by decide), hv.2.2.2.1 m (by omega), ek0]; exact nI_pos (by omega)
      · show eqS (v.1, v.2.1, v.2.2.1, (rPut 8 v.2.2.2.1 (nI m) x2), v.2.2.2.2) _ _
        rw [rPut_nI (by omega) (by decide)]
        refine ⟨?_, ?_, ?_, fun j hj => ?_, fun j hj => ?_, fun j hj => ?_, fun j hj => ?_⟩
        · rw [upd_ne (by omega)]; exact hv.1
        · rw [upd_ne (by omega)]; exact hv.2.1
        · rw [upd_ne (by omega)]; exact hv.2.2.1
        · show upd v.2.2.2.1 m x2 j = _
          by_cases hjm : j = m
          · rw [hjm, upd_eq, upd_eq]
          · rw [upd_ne hjm, upd_ne (by omega)]; exact hv.2.2.2.1 j hj
        · rw [upd_ne (by omega)]; exact hv.2.2.2.2.1 j hj
        · rw [upd_ne (by omega)]; exact hv.2.2.2.2.2.1 j hj
        · rw [upd_ne (by omega)]; exact hv.2.2.2.2.2.2 j hj
      · refine ⟨n, r, c, ⟨by rw [upd_ne (by omega)]; exact hN.1, h8, by rw [upd_ne (by omega)]; exact hN.2.2.1, hN.2.2.2⟩, fun i hi => ?_, fun i hi => ?_, fun i hi => ?_, by rw [upd_ne (by omega)]; exact hq, hq1, hq2⟩
        · rw [upd_ne (by omega)]
          rcases hL i hi with z | ⟨p, z1, z2, z3⟩
          · exact Or.inl z
          · exact Or.inr ⟨p, z1, z2, by rw [upd_ne (by omega)]; exact z3⟩
        · by_cases him : i = m
          · rw [him, upd_eq]; exact ⟨k, hk, ek⟩
          · rw [upd_ne (by omega)]; exact hW i hi
        · rw [upd_ne (by omega), upd_ne (by omega)]; exact hR i hi
      · show f_X8_setWeight y0 ru s y (nI m) x2 = (rAt 8 v.2.2.2.1 (nI m), _)
        unfold f_X8_setWeight
        rw [if_neg h1, if_neg h2, rAt_nI (by omega) (by decide), hv.2.2.2.1 m (by omega), c3 (by omega)]
        rfl
theorem op_quota (hv : eqS v s (s 1)) (hg : GS s) (x1 x2 : Int32) : sOp v s 2 x1 x2 (fun y0 ru y => f_X8_setQuota y0 ru s y x1) (fun _ => 1) := by
  obtain ⟨n, r, c, hN, hL, hW, hR, hq, hq1, hq2⟩ := hg
  have hf : f_X6_faultOf v 2 x1 x2 = if f_X8_in x1 1 400 = 0 then 2 else 0 := rg_eq x1 1 400
  by_cases h1 : f_X8_in x1 1 400 = 0
  · refine Or.inl ⟨by rw [hf, if_pos h1]; exact Or.inr (Or.inl rfl), (show (0 : Int32) < 1 by decide), fun y0 ru y => ?_⟩
    show f_X8_setQuota y0 ru s y x1 = _
    unfold f_X8_setQuota
    rw [if_pos h1]
  · obtain ⟨k, hk1, hk, ek⟩ := in_rg (A := 1) (B := 400) rfl rfl (by decide) (by decide) h1
    refine Or.inr ⟨by rw [hf, if_neg h1], ?_, upd s 1 x1, ?_, ?_, fun y0 ru y => ?_⟩
    · show ¬ v.2.1 < 0
      rw [hv.2.1, hq]; exact nI_pos (by omega)
    · show eqS (v.1, x1, v.2.2) _ _
      refine ⟨?_, upd_eq.symm, ?_, fun j hj => ?_, fun j hj => ?_, fun j hj => ?_, fun j hj => ?_⟩
      · rw [upd_ne (by omega)]; exact hv.1
      · rw [upd_ne (by omega)]; exact hv.2.2.1
      · rw [upd_ne (by omega)]; exact hv.2.2.2.1 j hj
      · rw [upd_ne (by omega)]; exact hv.2.2.2.2.1 j hj
      · rw [upd_ne (by omega)]; exact hv.2.2.2.2.2.1 j hj
      · rw [upd_ne (by omega)]; exact hv.2.2.2.2.2.2 j hj
    · refine ⟨n, r, k, ⟨by rw [upd_ne (by omega)]; exact hN.1, hN.2.1, by rw [upd_ne (by omega)]; exact hN.2.2.1, hN.2.2.2⟩, fun i hi => ?_, fun i hi => ?_, fun i hi => ?_, by rw [upd_eq]; exact ek, hk1, hk⟩
      · rw [upd_ne (by omega)]
        rcases hL i hi with z | ⟨p, z1, z2, z3⟩
        · exact Or.inl z
        · exact Or.inr ⟨p, z1, z2, by rw [upd_ne (by omega)]; exact z3⟩
      · rw [upd_ne (by omega)]; exact hW i hi
      · rw [upd_ne (by omega), upd_ne (by omega)]; exact hR i hi
    · show f_X8_setQuota y0 ru s y x1 = (v.2.1, _)
      unfold f_X8_setQuota
      rw [if_neg h1, hv.2.1]
      rfl
end CMDS
