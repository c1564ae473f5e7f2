/-! part 84: sets without a player, and with it -/
def sumL (f : Nat → Int32) : List Nat → Int32
  | [] => 0
  | a :: l => f a + sumL f l
theorem sumL_app (f : Nat → Int32) : ∀ l l' : List Nat, sumL f (l ++ l') = sumL f l + sumL f l'
  | [], l' => (Int32.zero_add _).symm
  | a :: l, l' => by
    show f a + sumL f (l ++ l') = f a + sumL f l + sumL f l'
    rw [sumL_app f l l', Int32.add_assoc]
theorem sumL_fd (f : Nat → Int32) : ∀ n, fd (fun j x => x + f j) n 0 = sumL f (List.range n)
  | 0 => rfl
  | n + 1 => by
    show fd (fun j x => x + f j) n 0 + f n = _
    rw [List.range_succ, sumL_app, sumL_fd f n]
    show _ = _ + (f n + 0)
    rw [Int32.add_zero]
theorem sumL_filter (f : Nat → Int32) (P : Nat → Bool) : ∀ l : List Nat, sumL f (l.filter P) = sumL (fun j => if P j then f j else 0) l
  | [] => rfl
  | a :: l => by
    show sumL f (List.filter P (a :: l)) = (if P a then f a else 0) + sumL (fun j => if P j then f j else 0) l
    rw [← sumL_filter f P l]
    cases h : P a
    · rw [List.filter_cons_of_neg (by rw [h]; decide), if_neg (by decide), Int32.zero_add]
    · rw [List.filter_cons_of_pos h, if_pos rfl]; rfl
theorem sumL_map (f : Nat → Int32) (g : Nat → Nat) : ∀ l : List Nat, sumL f (l.map g) = sumL (fun j => f (g j)) l
  | [] => rfl
  | a :: l => by
    show f (g a) + sumL f (l.map g) = _
    rw [sumL_map f g l]; rfl
theorem sumL_congr {f g : Nat → Int32} : ∀ {l : List Nat}, (∀ j ∈ l, f j = g j) → sumL f l = sumL g l
  | [], _ => rfl
  | a :: l, h => by
    show f a + sumL f l = g a + sumL g l
    rw [h a List.mem_cons_self, sumL_congr (fun j hj => h j (List.mem_cons_of_mem _ hj))]
theorem fd_if (c : Nat → Bool) (f : Nat → Int32) (n : Nat) : fd (fun j x => if c j then x + f j else x) n 0 = sumL (fun j => if c j then f j else 0) (List.range n) := by
  rw [← sumL_fd]
  refine fd_congr (fun k _ x => ?_)
  cases c k
  · show x = x + 0
    rw [Int32.add_zero]
  · rfl
def nbL (m : Nat) : List Nat := (List.range 256).filter (fun j => !j.testBit m)
theorem wb_nb : ∀ m, m < 8 → (List.range 256).filter (fun j => j.testBit m) = (nbL m).map (fun j => j + 2 ^ m) := by decide +kernel
theorem nb_len : ∀ m, m < 8 → (nbL m).length = 128 := by decide +kernel
theorem nb_add : ∀ m, m < 8 → ∀ j, j < 256 → j.testBit m = false → clr (j + 2 ^ m) m = j ∧ (j + 2 ^ m).testBit m = true ∧ j + 2 ^ m < 256 ∧ j ||| 2 ^ m = j + 2 ^ m ∧ f_X8_ones (nI (j + 2 ^ m)) = f_X8_ones (nI j) + 1 := by decide +kernel
theorem nb_sub : ∀ m, m < 8 → ∀ j, j < 256 → j.testBit m = false → ∀ i, i < 8 → (j + 2 ^ m).testBit i = (j.testBit i || decide (i = m)) := by decide +kernel
/-- a sum over the sets with m is one over the sets without it -/
theorem shift_sum {f : Nat → Int32} {m : Nat} (hm : m < 8) (h0 : ∀ j, j < 256 → j.testBit m = false → f j = 0) : sumL f (List.range 256) = sumL (fun j => if j.testBit m then 0 else f (j + 2 ^ m)) (List.range 256) := by
  have e1 : sumL f (List.range 256) = sumL (fun j => if j.testBit m then f j else 0) (List.range 256) := by
    refine sumL_congr (fun j hj => ?_)
    have hj : j < 256 := List.mem_range.mp hj
    cases hb : j.testBit m
    · rw [h0 j hj hb]; rfl
    · rfl
  have e2 : sumL (fun j => if j.testBit m then 0 else f (j + 2 ^ m)) (List.range 256) = sumL (fun j => if (!j.testBit m) then f (j + 2 ^ m) else 0) (List.range 256) := by
    refine sumL_congr (fun j _ => ?_)
    cases j.testBit m <;> rfl
  rw [e1, e2, ← sumL_filter f (fun j => j.testBit m), wb_nb m hm, sumL_map, ← sumL_filter (fun j => f (j + 2 ^ m)) (fun j => !j.testBit m)]
  rfl
section SWS
variable {ta : Nat → Int64} {W : Nat → Bool}
theorem bI0 {b : Bool} : bI b = 0 ↔ b = false := by cases b <;> decide
theorem swT_add {m j : Nat} (hm : m < 8) (hj : j < 256) (hb : j.testBit m = false) : swT W m (j + 2 ^ m) = (W (j + 2 ^ m) && !W j) := by
  obtain ⟨a1, a2, _⟩ := nb_add m hm j hj hb
  unfold swT
  rw [a1, a2, Bool.true_and]
theorem swT_no {m j : Nat} (hb : j.testBit m = false) : swT W m j = false := by unfold swT; rw [hb]; rfl
theorem swings_law (hT : ∀ j, j < 256 → f_L_at ta (nI j) = bI (W j)) {m : Nat} (hm : m < 8) : f_L_swings ta (nI m) = swF W m 256 := by
  unfold f_L_swings swF
  have e0 : sumL (fun j => if swT W m j then 1 else 0) (List.range 256) = sumL (fun j => if j.testBit m then 0 else (if swT W m (j + 2 ^ m) then 1 else 0)) (List.range 256) := shift_sum hm (fun j hj hb => by rw [swT_no hb]; rfl)
  rw [fd_if (swT W m) (fun _ => 1) 256, e0, ← sumL_fd]
  refine congrArg Prod.fst (lp_fd (f := fun x : Int32 × Int32 => f_L_swings_st ta (nI m) x.1 x.2) (fun k (x : Int32) => (x, nI k)) (fun j x => x + (if j.testBit m then 0 else (if swT W m (j + 2 ^ m) then 1 else 0))) (fun _ _ => True) (N := 256) (fun x => (x, nI 256)) (a := 0) trivial ?_ ?_ fuel256)
  · intro j x hj _
    refine ⟨?_, trivial⟩
    show f_L_swings_st ta (nI m) x (nI j) = .inl (x + (if j.testBit m then 0 else (if swT W m (j + 2 ^ m) then 1 else 0)), nI (j + 1))
    unfold f_L_swings_st
    rw [if_neg (n256 hj), nI_1]
    cases hb : j.testBit m
    · obtain ⟨a1, a2, a3, a4, _⟩ := nb_add m hm j hj hb
      rw [if_pos ((bit0 m hm j hj).mpr hb), shl_nI m (by omega), nI_add, hT _ a3, hT j hj, swT_add hm hj hb]
      cases hW1 : W (j + 2 ^ m)
      · rfl
      · cases hW2 : W j <;> rfl
    · rw [if_neg (fun z => by rw [(bit0 m hm j hj).mp z] at hb; exact absurd hb (by decide))]; rfl
  · intro x _
    show f_L_swings_st ta (nI m) x (nI 256) = _
    unfold f_L_swings_st
    rw [if_pos y256]
theorem sum_law (hT : ∀ j, j < 256 → f_L_at ta (nI j) = bI (W j)) : f_L_sum ta = allF W 256 := by
  unfold f_L_sum allF
  refine congrArg Prod.fst (lp_fd (f := fun x : Int32 × Int32 => f_L_sum_st ta x.1 x.2) (fun k (x : Int32) => (x, nI k)) (fun m x => x + swF W m 256) (fun _ _ => True) (N := 8) (fun x => (x, nI 8)) (a := 0) trivial ?_ ?_ fuel8)
  · intro m x hm _
    refine ⟨?_, trivial⟩
    show f_L_sum_st ta x (nI m) = .inl (x + swF W m 256, nI (m + 1))
    unfold f_L_sum_st
    rw [if_neg (n8 hm), nI_1, swings_law hT hm]
  · intro x _
    show f_L_sum_st ta x (nI 8) = _
    unfold f_L_sum_st
    rw [if_pos y8]
theorem ones_law (x : Int32) : f_L_ones x = f_X8_ones x := rfl
theorem ways9 : ∀ k, k < 9 → f_L_ways (nI k) = f_X8_factorial (nI k) := by decide +kernel
theorem ways_or : ∀ a, a < 9 → ∀ b, b < 9 → a + 1 ≤ b → f_L_ways (nI a) * f_L_ways ((nI b - 1) - nI a) = f_X8_factorial ((nI a + 1) - 1) * f_X8_factorial (nI b - (nI a + 1)) := by decide +kernel
theorem orders_law (hT : ∀ j, j < 256 → f_L_at ta (nI j) = bI (W j)) {p : Nat} (hp : p < 256) (hWp : ∀ j, j < 256 → W j = true → subB p j = true) {m : Nat} (hm : m < 8) : f_L_orders ta (nI p) (nI m) = orF W (nI p) m 256 := by
  unfold f_L_orders orF
  have e0 : sumL (fun j => if swT W m j then oT (nI p) j else 0) (List.range 256) = sumL (fun j => if j.testBit m then 0 else (if swT W m (j + 2 ^ m) then oT (nI p) (j + 2 ^ m) else 0)) (List.range 256) := shift_sum hm (fun j hj hb => by rw [swT_no hb]; rfl)
  rw [fd_if (swT W m) (oT (nI p)) 256, e0, ← sumL_fd]
  refine congrArg Prod.fst (lp_fd (f := fun x : Int32 × Int32 => f_L_orders_st ta (nI p) (nI m) x.1 x.2) (fun k (x : Int32) => (x, nI k)) (fun j x => x + (if j.testBit m then 0 else (if swT W m (j + 2 ^ m) then oT (nI p) (j + 2 ^ m) else 0))) (fun _ _ => True) (N := 256) (fun x => (x, nI 256)) (a := 0) trivial ?_ ?_ fuel256)
  · intro j x hj _
    refine ⟨?_, trivial⟩
    show f_L_orders_st ta (nI p) (nI m) x (nI j) = .inl (x + (if j.testBit m then 0 else (if swT W m (j + 2 ^ m) then oT (nI p) (j + 2 ^ m) else 0)), nI (j + 1))
    unfold f_L_orders_st
    rw [if_neg (n256 hj), nI_1]
    cases hb : j.testBit m
    · obtain ⟨a1, a2, a3, a4, a5⟩ := nb_add m hm j hj hb
      rw [if_pos ((bit0 m hm j hj).mpr hb), shl_nI m (by omega), or_nI (a := j) (b := 2 ^ m) (by omega) (by omega), a4, hT _ a3, hT j hj, swT_add hm hj hb]
      cases hW1 : W (j + 2 ^ m)
      · rw [if_pos (show bI false = 0 from rfl)]
        show _ = Sum.inl (x + 0, nI (j + 1))
        rw [Int32.add_zero]
        split
        · split <;> rfl
        · rfl
      · have hs := (sub_bits hp a3).mp (hWp _ a3 hW1)
        have hjp : subB p j = true := (sub_bits hp hj).mpr (fun i hi hbi => hs i hi (by rw [nb_sub m hm j hj hb i hi, hbi]; rfl))
        have hpm : p.testBit m = true := hs m hm a2
        have h1 : (nI j ||| nI p : Int32) = nI p := (sub_or p hp j hj).mpr (of_decide_eq_true hjp)
        rw [if_pos h1, if_pos ((bit1 m hm p hp).mpr hpm)]
        cases hW2 : W j
        · show Sum.inl (x + (f_L_ways (f_L_ones (nI j)) * f_L_ways ((f_L_ones (nI p) - 1) - f_L_ones (nI j))), nI (j + 1)) = .inl (x + oT (nI p) (j + 2 ^ m), nI (j + 1))
          unfold oT
          have hc : cN j.testBit 8 + 1 ≤ cN p.testBit 8 := by
            have h2 : cN (j + 2 ^ m).testBit 8 ≤ cN p.testBit 8 := cN_le hs
            have h3 := a5
            rw [ones_cN _ a3, ones_cN _ hj, nI_1] at h3
            have h4 : cN (j + 2 ^ m).testBit 8 ≤ 8 := cN_max _ 8
            have h5 : cN j.testBit 8 ≤ 8 := cN_max _ 8
            have := (nI_eq (by omega) (by omega)).mp h3
            omega
          have h8 : cN p.testBit 8 ≤ 8 := cN_max _ 8
          rw [ones_law, ones_law, a5, ones_cN _ hj, ones_cN _ hp, ways_or _ (by omega) _ (by omega) hc]
        · show Sum.inl (x, nI (j + 1)) = .inl (x + 0, nI (j + 1))
          rw [Int32.add_zero]
    · rw [if_neg (show ¬ (((nI j >>> (nI m &&& 31)) &&& 1 : Int32) = 0) from fun z => by rw [(bit0 m hm j hj).mp z] at hb; exact absurd hb (by decide))]
      show _ = Sum.inl (x + 0, nI (j + 1))
      rw [Int32.add_zero]
      split <;> rfl
  · intro x _
    show f_L_orders_st ta (nI p) (nI m) x (nI 256) = _
    unfold f_L_orders_st
    rw [if_pos y256]
end SWS
