/-! part 88b: how near a quotient in float is to the one in double -/
section NEAR
theorem rr_fin {f : FP.Core.Fmt} (hf : FP.Core.Good f) {s : Bool} {A B : Nat} (hB : 0 < B) (hAB : A ≤ B) (hq : 1 ≤ f.qmax) : ∃ c q, FP.Core.roundRatio f s A B 0 = .fin s c q := by
  have hm := FP.Core.qmin_neg hf
  rcases FP.Core.roundRatio_cases f s A B 0 with h | h
  · exact h
  · exfalso
    have h1 := (FP.Core.roundRatio_inf hf (e0 := f.qmin - 1) hB (by omega) (by omega)).mp h
    have h2 : FP.Core.inUnits A 0 (f.qmin - 1) ≤ 2 ^ (f.qmax - 1 - (f.qmin - 1)).toNat * B := by
      unfold FP.Core.inUnits
      rw [Nat.mul_comm (2 ^ _) B]
      exact Nat.mul_le_mul hAB (Nat.pow_le_pow_right (by decide) (by omega))
    have h3 : 0 < 2 ^ (f.qmax - 1 - (f.qmin - 1)).toNat * B := Nat.mul_pos (Nat.two_pow_pos _) hB
    have h4 : 2 ^ 2 ≤ 2 ^ (f.p + 1) := Nat.pow_le_pow_right (by decide) (by have := hf.2; omega)
    rw [Nat.mul_assoc] at h1
    generalize 2 ^ (f.qmax - 1 - (f.qmin - 1)).toNat * B = D at h1 h2 h3
    generalize 2 ^ (f.p + 1) = E at h1 h4
    have h5 : 2 * D ≤ (E - 1) * D := Nat.mul_le_mul_right _ (by omega)
    omega
theorem rr_err {f : FP.Core.Fmt} (hf : FP.Core.Good f) {s t : Bool} {A B c : Nat} {q : Int} (hB : 0 < B) {g : Nat} (hg : g + 1 = f.p) (hw : f.qmin ≤ -(g : Int)) (hAB : A ≤ B) (h : FP.Core.roundRatio f s A B 0 = .fin t c q) : 2 * 2 ^ g * (((A * 2 ^ (-f.qmin).toNat : Nat) : Int) - ((FP.Core.inUnits c q f.qmin : Nat) : Int) * (B : Int)).natAbs ≤ B * 2 ^ (-f.qmin).toNat := by
  have hm := FP.Core.qmin_neg hf
  have hD : 0 < B * 2 ^ (-(g : Int) - f.qmin).toNat := Nat.mul_pos hB (Nat.two_pow_pos _)
  have e1 : B * 2 ^ (-(g : Int) - f.qmin).toNat * 2 ^ g = B * 2 ^ (-f.qmin).toNat := by
    rw [Nat.mul_assoc, ← Nat.pow_add, show (-(g : Int) - f.qmin).toNat + g = (-f.qmin).toNat by omega]
  have eN : FP.Core.inUnits A 0 f.qmin = A * 2 ^ (-f.qmin).toNat := by
    unfold FP.Core.inUnits
    rw [Int.zero_sub]
  have hN : A * 2 ^ (-f.qmin).toNat ≤ 2 ^ g * (B * 2 ^ (-(g : Int) - f.qmin).toNat) := by
    rw [Nat.mul_comm (2 ^ g), e1]; exact Nat.mul_le_mul_right _ hAB
  have hk := FP.Core.nearest_le hD hN
  have hs := FP.Core.nearest_spec (A * 2 ^ (-f.qmin).toNat) (B * 2 ^ (-(g : Int) - f.qmin).toNat) hD
  generalize FP.Core.nearest (A * 2 ^ (-f.qmin).toNat) (B * 2 ^ (-(g : Int) - f.qmin).toNat) = k at hk hs
  have hk2 : k < 2 ^ f.p := Nat.lt_of_le_of_lt hk (Nat.pow_lt_pow_right (by decide) (by omega))
  have hd := FP.Core.roundRatio_nearest hf hB h hk2 (q' := -(g : Int)) hw (e0 := f.qmin) (Int.le_refl _) (by omega)
  unfold FP.Core.distance at hd
  rw [eN] at hd
  have eK : ((FP.Core.inUnits k (-(g : Int)) f.qmin : Nat) : Int) * (B : Int) = ((k * (B * 2 ^ (-(g : Int) - f.qmin).toNat) : Nat) : Int) := by
    unfold FP.Core.inUnits
    rw [← Int.natCast_mul]
    congr 1; ac_rfl
  rw [eK] at hd
  obtain ⟨h1, h2, _⟩ := hs
  rw [show (2 * k + 1) * (B * 2 ^ (-(g : Int) - f.qmin).toNat) = 2 * (k * (B * 2 ^ (-(g : Int) - f.qmin).toNat)) + B * 2 ^ (-(g : Int) - f.qmin).toNat by rw [Nat.add_mul, Nat.one_mul, Nat.mul_assoc]] at h1
  rw [Nat.mul_assoc] at h2
  rw [← e1]
  generalize B * 2 ^ (-(g : Int) - f.qmin).toNat = D at hd h1 h2 ⊢
  generalize A * 2 ^ (-f.qmin).toNat = x at hd h1 h2 ⊢
  generalize k * D = y at hd h1 h2
  generalize ((FP.Core.inUnits c q f.qmin : Nat) : Int) * (B : Int) = w at hd ⊢
  have h3 : 2 * ((x : Int) - w).natAbs ≤ D := by omega
  rw [show 2 * 2 ^ g * ((x : Int) - w).natAbs = 2 * ((x : Int) - w).natAbs * 2 ^ g by ac_rfl]
  exact Nat.mul_le_mul_right _ h3
theorem nI_toI {a : Nat} (h : a < 2 ^ 31) : (nI a).toInt = (a : Int) := Int32.toInt_ofNat_of_lt h
theorem i2f_u {a : Nat} (h : a ≤ 2 ^ 24) : ∃ c q, FP.Core.val32 (FP.i2f (nI a)) = .fin false c q ∧ FP.Core.b32.qmin ≤ q ∧ c * 2 ^ (q - FP.Core.b32.qmin).toNat = a * 2 ^ (-FP.Core.b32.qmin).toNat := by
  have hi := nI_toI (a := a) (by omega)
  have hI := FP.Core.i2f_int (a := nI a) (by rw [hi]; omega)
  obtain ⟨s, c, q, hF⟩ := FP.Core.i2f_fin (nI a)
  have h1 : FP.Core.val32 (FP.i2f (nI a)) = FP.Core.roundRatio FP.Core.b32 (decide ((nI a).toInt < 0)) (nI a).toInt.natAbs 1 0 := FP.Core.val32_i2f (nI a)
  have h2 := congrArg FP.Core.sgn h1
  rw [FP.Core.sgn_roundRatio] at h2
  have h3 : FP.Core.val32 (FP.i2f (nI a)) = .fin s c q := hF
  rw [h3] at h2
  have h4 : s = false := by
    have : s = decide ((nI a).toInt < 0) := h2
    rw [this, hi]; exact decide_eq_false (by omega)
  subst h4
  have hfit := FP.Core.val32_fits (FP.i2f (nI a))
  have hz := FP.Core.whole_zval FP.Core.good_b32 hfit hI
  rw [h3] at hfit
  rw [show FP.Core.val32 (FP.Core.i2f (nI a)) = .fin false c q from h3, hi, ← Int.natCast_mul] at hz
  exact ⟨c, q, h3, hfit.2.1, Int.ofNat.inj hz⟩
theorem i2d_u {a : Nat} (h : a ≤ 2 ^ 24) : ∃ c q, FP.Core.val64 (FP.i2d (nI a)) = .fin false c q ∧ FP.Core.b64.qmin ≤ q ∧ c * 2 ^ (q - FP.Core.b64.qmin).toNat = a * 2 ^ (-FP.Core.b64.qmin).toNat := by
  have hi := nI_toI (a := a) (by omega)
  have hI := FP.Core.i2d_int (nI a)
  obtain ⟨s, c, q, hF⟩ := FP.Core.i2d_fin (nI a)
  have h1 : FP.Core.val64 (FP.i2d (nI a)) = FP.Core.roundRatio FP.Core.b64 (decide ((nI a).toInt < 0)) (nI a).toInt.natAbs 1 0 := FP.Core.val64_i2d (nI a)
  have h2 := congrArg FP.Core.sgn h1
  rw [FP.Core.sgn_roundRatio] at h2
  have h3 : FP.Core.val64 (FP.i2d (nI a)) = .fin s c q := hF
  rw [h3] at h2
  have h4 : s = false := by
    have : s = decide ((nI a).toInt < 0) := h2
    rw [this, hi]; exact decide_eq_false (by omega)
  subst h4
  have hfit := FP.Core.val64_fits (FP.i2d (nI a))
  have hz := FP.Core.whole_zval FP.Core.good_b64 hfit hI
  rw [h3] at hfit
  rw [show FP.Core.val64 (FP.Core.i2d (nI a)) = .fin false c q from h3, hi, ← Int.natCast_mul] at hz
  exact ⟨c, q, h3, hfit.2.1, Int.ofNat.inj hz⟩
theorem quo_u {f : FP.Core.Fmt} {a b ca cb : Nat} {qa qb : Int} (hb : 0 < b) (h1 : f.qmin ≤ qa) (h2 : f.qmin ≤ qb) (e1 : ca * 2 ^ (qa - f.qmin).toNat = a * 2 ^ (-f.qmin).toNat) (e2 : cb * 2 ^ (qb - f.qmin).toNat = b * 2 ^ (-f.qmin).toNat) : FP.Core.quotient f (.fin false ca qa) (.fin false cb qb) = FP.Core.roundRatio f false a b 0 := by
  have hcb : 0 < cb := by
    rcases Nat.eq_zero_or_pos cb with z | z
    · rw [z, Nat.zero_mul] at e2
      have := Nat.mul_pos hb (Nat.two_pow_pos (-f.qmin).toNat)
      omega
    · exact z
  show (if cb = 0 then (if ca = 0 then FP.Core.Datum.nan else .inf (false != false)) else FP.Core.roundRatio f (false != false) ca cb (qa - qb)) = _
  rw [if_neg (by omega)]
  refine FP.Core.roundRatio_congr hcb hb ?_
  refine Nat.eq_of_mul_eq_mul_right (Nat.two_pow_pos (-f.qmin).toNat) ?_
  have hx : (qb - f.qmin).toNat + (qa - qb - 0).toNat = (qa - f.qmin).toNat + (0 - (qa - qb)).toNat := by omega
  calc ca * b * 2 ^ (qa - qb - 0).toNat * 2 ^ (-f.qmin).toNat
      = ca * (b * 2 ^ (-f.qmin).toNat) * 2 ^ (qa - qb - 0).toNat := by ac_rfl
    _ = ca * cb * 2 ^ ((qb - f.qmin).toNat + (qa - qb - 0).toNat) := by rw [← e2, Nat.pow_add]; ac_rfl
    _ = ca * 2 ^ (qa - f.qmin).toNat * cb * 2 ^ (0 - (qa - qb)).toNat := by rw [hx, Nat.pow_add]; ac_rfl
    _ = a * cb * 2 ^ (0 - (qa - qb)).toNat * 2 ^ (-f.qmin).toNat := by rw [e1]; ac_rfl
theorem f2d_u {z : UInt32} {s : Bool} {c : Nat} {q : Int} (h : FP.Core.val32 z = .fin s c q) : ∃ c' q', FP.Core.val64 (FP.f2d z) = .fin s c' q' ∧ FP.Core.inUnits c' q' FP.Core.b64.qmin = FP.Core.inUnits c q FP.Core.b32.qmin * 2 ^ (FP.Core.b32.qmin - FP.Core.b64.qmin).toNat := by
  have hn : FP.fIsNaN z = false := by
    cases hz : FP.fIsNaN z
    · rfl
    · have := (FP.Core.fIsNaN_iff z).mp hz
      rw [h] at this; cases this
  have hfz : FP.Core.fits FP.Core.b32 (.fin s c q) := h ▸ FP.Core.val32_fits z
  obtain ⟨c', q', hfit, _, hv⟩ := FP.Core.within_fit FP.Core.good_b64 FP.Core.within_32_64 hfz
  refine ⟨c', q', ?_, ?_⟩
  · rw [FP.f2d_core hn, FP.Core.val64_f2d, h]
    exact FP.Core.roundRatio_exact FP.Core.good_b64 (by decide) hfit hv
  · have h1 := hfz.2.1
    have h2 := hfit.2.1
    have h0 : FP.Core.b64.qmin ≤ FP.Core.b32.qmin := Int.le_of_lt FP.Core.qmin_lt
    rw [← FP.Core.inUnits_move c h0 h1]
    unfold FP.Core.inUnits
    refine Nat.eq_of_mul_eq_mul_right (Nat.two_pow_pos (q' - q).toNat) ?_
    have hx : (q - q').toNat + (q' - FP.Core.b64.qmin).toNat = (q - FP.Core.b64.qmin).toNat + (q' - q).toNat := by omega
    rw [Nat.mul_one] at hv
    calc c' * 2 ^ (q' - FP.Core.b64.qmin).toNat * 2 ^ (q' - q).toNat
        = c' * 2 ^ (q' - q).toNat * 2 ^ (q' - FP.Core.b64.qmin).toNat := by ac_rfl
      _ = c * 2 ^ ((q - q').toNat + (q' - FP.Core.b64.qmin).toNat) := by rw [← hv, Nat.pow_add]; ac_rfl
      _ = c * 2 ^ (q - FP.Core.b64.qmin).toNat * 2 ^ (q' - q).toNat := by rw [hx, Nat.pow_add]; ac_rfl
def shX (a b : Nat) : UInt64 := FP.dsub (FP.f2d (FP.fdiv (FP.i2f (nI a)) (FP.i2f (nI b)))) (FP.ddiv (FP.i2d (nI a)) (FP.i2d (nI b)))
theorem shq32 {a b : Nat} (hb : b ≤ 2 ^ 24) (h1 : 1 ≤ b) (hab : a ≤ b) : ∃ c q, FP.Core.val32 (FP.fdiv (FP.i2f (nI a)) (FP.i2f (nI b))) = .fin false c q ∧ 2 * 2 ^ 23 * (((a * 2 ^ (-FP.Core.b32.qmin).toNat : Nat) : Int) - ((FP.Core.inUnits c q FP.Core.b32.qmin : Nat) : Int) * (b : Int)).natAbs ≤ b * 2 ^ (-FP.Core.b32.qmin).toNat := by
  obtain ⟨ca, qa, a1, a2, a3⟩ := i2f_u (a := a) (by omega)
  obtain ⟨cb, qb, b1, b2, b3⟩ := i2f_u (a := b) hb
  obtain ⟨c, q, hr⟩ := rr_fin FP.Core.good_b32 (s := false) h1 hab (by decide)
  refine ⟨c, q, ?_, rr_err FP.Core.good_b32 h1 (g := 23) rfl (by decide) hab hr⟩
  rw [FP.Core.val32_fdiv, show FP.Core.val32 (FP.Core.i2f (nI a)) = _ from a1, show FP.Core.val32 (FP.Core.i2f (nI b)) = _ from b1, quo_u h1 a2 b2 a3 b3, hr]
theorem shq64 {a b : Nat} (hb : b ≤ 2 ^ 24) (h1 : 1 ≤ b) (hab : a ≤ b) : ∃ c q, FP.Core.val64 (FP.ddiv (FP.i2d (nI a)) (FP.i2d (nI b))) = .fin false c q ∧ 2 * 2 ^ 52 * (((a * 2 ^ (-FP.Core.b64.qmin).toNat : Nat) : Int) - ((FP.Core.inUnits c q FP.Core.b64.qmin : Nat) : Int) * (b : Int)).natAbs ≤ b * 2 ^ (-FP.Core.b64.qmin).toNat := by
  obtain ⟨ca, qa, a1, a2, a3⟩ := i2d_u (a := a) (by omega)
  obtain ⟨cb, qb, b1, b2, b3⟩ := i2d_u (a := b) hb
  obtain ⟨c, q, hr⟩ := rr_fin FP.Core.good_b64 (s := false) h1 hab (by decide)
  refine ⟨c, q, ?_, rr_err FP.Core.good_b64 h1 (g := 52) rfl (by decide) hab hr⟩
  rw [FP.Core.val64_ddiv, show FP.Core.val64 (FP.Core.i2d (nI a)) = _ from a1, show FP.Core.val64 (FP.Core.i2d (nI b)) = _ from b1, quo_u h1 a2 b2 a3 b3, hr]
theorem shV1 : (2 ^ 29 + 1) * 2 ^ (-FP.Core.b64.qmin).toNat ≤ 2 ^ 53 * (FP.Core.zval FP.Core.b64 (FP.Core.val64 4502148214488346439)).natAbs ∧ 0 ≤ FP.Core.zval FP.Core.b64 (FP.Core.val64 4502148214488346439) ∧ FP.Core.zval FP.Core.b64 (FP.Core.val64 13725520251343122247) = -FP.Core.zval FP.Core.b64 (FP.Core.val64 4502148214488346439) ∧ FP.Core.zval FP.Core.b64 (FP.Core.val64 4502148214488346439) < FP.Core.zval FP.Core.b64 (FP.Core.val64 4502148214488346440) ∧ FP.Core.zval FP.Core.b64 (FP.Core.val64 13725520251343122248) < FP.Core.zval FP.Core.b64 (FP.Core.val64 13725520251343122247) := by decide +kernel
theorem shV2 : FP.Core.val64 4502148214488346439 ≠ .nan ∧ FP.Core.val64 13725520251343122247 ≠ .nan ∧ FP.Core.val64 4502148214488346440 ≠ .nan ∧ FP.Core.val64 13725520251343122248 ≠ .nan := by decide +kernel
theorem sh_near {M1 M2 K U u z2 a b V : Nat} (hb : 0 < b) (hU : M1 * K = U) (h1 : 2 * 2 ^ 23 * (((a * M1 : Nat) : Int) - ((u : Nat) : Int) * (b : Int)).natAbs ≤ b * M1) (h2 : 2 * 2 ^ 52 * (((a * U : Nat) : Int) - ((z2 : Nat) : Int) * (b : Int)).natAbs ≤ b * U) (hV : (2 ^ 29 + 1) * U ≤ 2 ^ 53 * V) : ((u * K : Nat) : Int) - (z2 : Int) ≤ (V : Int) ∧ -(V : Int) ≤ ((u * K : Nat) : Int) - (z2 : Int) := by
  subst hU
  have g1 : 2 * 2 ^ 23 * (((a * (M1 * K) : Nat) : Int) - ((u * K * b : Nat) : Int)).natAbs ≤ b * (M1 * K) := by
    have e : (((a * (M1 * K) : Nat) : Int) - ((u * K * b : Nat) : Int)) = (((a * M1 : Nat) : Int) - ((u : Nat) : Int) * (b : Int)) * (K : Int) := by
      rw [Int.sub_mul, ← Int.natCast_mul, ← Int.natCast_mul, ← Int.natCast_mul]
      congr 2
      · ac_rfl
      · ac_rfl
    rw [e, Int.natAbs_mul, Int.natAbs_natCast, ← Nat.mul_assoc, ← Nat.mul_assoc b]
    exact Nat.mul_le_mul_right _ h1
  rw [← Int.natCast_mul] at h2
  have g3 : 2 ^ 53 * ((u * K * b : Nat) : Int) - 2 ^ 53 * ((z2 * b : Nat) : Int) ≤ (2 ^ 29 + 1) * ((b * (M1 * K) : Nat) : Int) ∧ 2 ^ 53 * ((z2 * b : Nat) : Int) - 2 ^ 53 * ((u * K * b : Nat) : Int) ≤ (2 ^ 29 + 1) * ((b * (M1 * K) : Nat) : Int) := by
    generalize u * K * b = x1 at g1 ⊢
    generalize z2 * b = x2 at h2 ⊢
    generalize b * (M1 * K) = w at g1 h2 ⊢
    generalize a * (M1 * K) = y at g1 h2
    constructor <;> omega
  have g4 : (2 ^ 29 + 1) * (b * (M1 * K)) ≤ 2 ^ 53 * V * b := by
    rw [show (2 ^ 29 + 1) * (b * (M1 * K)) = (2 ^ 29 + 1) * (M1 * K) * b by ac_rfl]
    exact Nat.mul_le_mul_right _ hV
  generalize b * (M1 * K) = w at g3 g4
  have hb2 : (0 : Int) < (b : Int) := by omega
  have q1 : (2 ^ 53 * ((u * K : Nat) : Int) - 2 ^ 53 * (z2 : Int)) * (b : Int) ≤ (2 ^ 53 * (V : Int)) * (b : Int) := by
    rw [Int.sub_mul, Int.mul_assoc, Int.mul_assoc, Int.mul_assoc, ← Int.natCast_mul, ← Int.natCast_mul, ← Int.natCast_mul]
    rw [Nat.mul_assoc (2 ^ 53)] at g4
    generalize u * K * b = x1 at g3 ⊢
    generalize z2 * b = x2 at g3 ⊢
    generalize V * b = x3 at g4 ⊢
    omega
  have q2 : (2 ^ 53 * (z2 : Int) - 2 ^ 53 * ((u * K : Nat) : Int)) * (b : Int) ≤ (2 ^ 53 * (V : Int)) * (b : Int) := by
    rw [Int.sub_mul, Int.mul_assoc, Int.mul_assoc, Int.mul_assoc, ← Int.natCast_mul, ← Int.natCast_mul, ← Int.natCast_mul]
    rw [Nat.mul_assoc (2 ^ 53)] at g4
    generalize u * K * b = x1 at g3 ⊢
    generalize z2 * b = x2 at g3 ⊢
    generalize V * b = x3 at g4 ⊢
    omega
  have r1 := Int.le_of_mul_le_mul_right q1 hb2
  have r2 := Int.le_of_mul_le_mul_right q2 hb2
  generalize u * K = x at r1 r2 ⊢
  constructor <;> omega
theorem shK : 2 ^ (-FP.Core.b32.qmin).toNat * 2 ^ (FP.Core.b32.qmin - FP.Core.b64.qmin).toNat = 2 ^ (-FP.Core.b64.qmin).toNat := by
  rw [← Nat.pow_add]
  exact congrArg (2 ^ ·) (by decide +kernel)
theorem sh_ok (a b : Nat) (_ : a < 129) (hb : b < 1025) (h1 : 1 ≤ b) (hab : a ≤ b) : FP.dIsNaN (shX a b) = false ∧ (¬ 0 ≤ Op.cmpValue (FP.dcmp (shX a b) 4502148214488346440) .g) ∧ ¬ Op.cmpValue (FP.dcmp (shX a b) 13725520251343122248) .l ≤ 0 := by
  obtain ⟨c, q, e1, d1⟩ := shq32 (a := a) (b := b) (by omega) h1 hab
  obtain ⟨c2, q2, e2, d2⟩ := shq64 (a := a) (b := b) (by omega) h1 hab
  obtain ⟨c1, q1, e3, d3⟩ := f2d_u e1
  have hV := shV1
  have hW := shV2
  have hZ1 : FP.Core.zval FP.Core.b64 (FP.Core.val64 (FP.f2d (FP.fdiv (FP.i2f (nI a)) (FP.i2f (nI b))))) = ((FP.Core.inUnits c q FP.Core.b32.qmin * 2 ^ (FP.Core.b32.qmin - FP.Core.b64.qmin).toNat : Nat) : Int) := by
    rw [e3, ← d3]; rfl
  have hZ2 : FP.Core.zval FP.Core.b64 (FP.Core.negate (FP.Core.val64 (FP.ddiv (FP.i2d (nI a)) (FP.i2d (nI b))))) = -((FP.Core.inUnits c2 q2 FP.Core.b64.qmin : Nat) : Int) := by
    rw [FP.Core.zval_negate, e2]; rfl
  have hn := sh_near (M1 := 2 ^ (-FP.Core.b32.qmin).toNat) (M2 := 0) (K := 2 ^ (FP.Core.b32.qmin - FP.Core.b64.qmin).toNat) (U := 2 ^ (-FP.Core.b64.qmin).toNat) (u := FP.Core.inUnits c q FP.Core.b32.qmin) (z2 := FP.Core.inUnits c2 q2 FP.Core.b64.qmin) (a := a) (b := b) (V := (FP.Core.zval FP.Core.b64 (FP.Core.val64 4502148214488346439)).natAbs) h1 shK d1 d2 hV.1
  have hval : FP.Core.val64 (shX a b) = FP.Core.round FP.Core.b64 (FP.Core.exactSum (FP.Core.val64 (FP.f2d (FP.fdiv (FP.i2f (nI a)) (FP.i2f (nI b))))) (FP.Core.negate (FP.Core.val64 (FP.ddiv (FP.i2d (nI a)) (FP.i2d (nI b)))))) := FP.Core.val64_dsub _ _
  have hx : ∃ s c q, FP.Core.val64 (FP.f2d (FP.fdiv (FP.i2f (nI a)) (FP.i2f (nI b)))) = FP.Core.Datum.fin s c q := ⟨_, _, _, e3⟩
  have hy : ∃ s c q, FP.Core.negate (FP.Core.val64 (FP.ddiv (FP.i2d (nI a)) (FP.i2d (nI b)))) = FP.Core.Datum.fin s c q := ⟨_, _, _, by rw [e2]; rfl⟩
  have fx := FP.Core.val64_fits (FP.f2d (FP.fdiv (FP.i2f (nI a)) (FP.i2f (nI b))))
  have fy := FP.Core.negate_fits (FP.Core.val64_fits (FP.ddiv (FP.i2d (nI a)) (FP.i2d (nI b))))
  have hnn : FP.Core.val64 (shX a b) ≠ .nan := by
    rw [hval]
    intro h
    have h9 := FP.Core.round_nan.mp h
    obtain ⟨s, c, q, hx⟩ := hx
    obtain ⟨s', c', q', hy⟩ := hy
    rw [hx, hy] at h9
    cases h9
  have hle := FP.Core.sum_le FP.Core.good_b64 hx hy fx fy (FP.Core.val64_fits 4502148214488346439) hW.1 (by rw [hZ1, hZ2]; have := hn.1; have := hV.2.1; omega)
  have hge := FP.Core.sum_ge FP.Core.good_b64 hx hy fx fy (FP.Core.val64_fits 13725520251343122247) hW.2.1 (by rw [hZ1, hZ2, hV.2.2.1]; have := hn.2; have := hV.2.1; omega)
  rw [← hval] at hle hge
  refine ⟨(FP.Core.notNaN_iff _).mpr hnn, ?_, ?_⟩
  · have hc : FP.dcmp (shX a b) 4502148214488346440 = some .lt := by
      refine (FP.Core.dcmp_zval hnn hW.2.2.1).trans (congrArg some ?_)
      exact (FP.Core.compare_lt_iff _ _).mpr (Int.lt_of_le_of_lt hle hV.2.2.2.1)
    rw [hc]; decide
  · have hc : FP.dcmp (shX a b) 13725520251343122248 = some .gt := by
      refine (FP.Core.dcmp_zval hnn hW.2.2.2).trans (congrArg some ?_)
      exact (FP.Core.compare_gt_iff _ _).mpr (Int.lt_of_lt_of_le hV.2.2.2.2 hge)
    rw [hc]; decide
end NEAR
