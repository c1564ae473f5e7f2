/-! part 64 -/
def bI (b : Bool) : Int32 := if b then 1 else 0
theorem bI_t : bI true = 1 := rfl
theorem bI_f : bI false = 0 := rfl
def swT (W : Nat → Bool) (m j : Nat) : Bool := j.testBit m && (W j && !W (clr j m))
def swF (W : Nat → Bool) (m N : Nat) : Int32 := fd (fun j x => if swT W m j then x + 1 else x) N 0
def oT (a : Int32) (j : Nat) : Int32 := (f_X8_factorial ((f_X8_ones (nI j)) - 1)) * (f_X8_factorial ((f_X8_ones a) - (f_X8_ones (nI j))))
def orF (W : Nat → Bool) (a : Int32) (m N : Nat) : Int32 := fd (fun j x => if swT W m j then x + oT a j else x) N 0
def leB (W : Nat → Bool) (j : Nat) : Bool := fd (fun m b => b && (!j.testBit m || !W (clr j m))) 8 (W j)
def ndB (W : Nat → Bool) (p m : Nat) : Bool := fd (fun j b => b && (!W j || j.testBit m)) 256 (W p)
def ctF (W : Nat → Bool) (N : Nat) : Int32 := fd (fun j x => if W j then x + 1 else x) N 0
def allF (W : Nat → Bool) (N : Nat) : Int32 := fd (fun m x => x + swF W m N) 8 0
section WFORM
variable {y : Nat → Int32} {W : Nat → Bool} {s : Nat → Int32} {n r : Nat}
theorem fuel256 : 256 < ((256 : Int32).toInt - (0 : Int32).toInt).toNat + 1 := by decide
theorem fuel8 : 8 < ((8 : Int32).toInt - (0 : Int32).toInt).toNat + 1 := by decide
theorem n256 {k : Nat} (hk : k < 256) : ¬ (256 : Int32) ≤ nI k := nI_ge (b := 256) hk (by decide)
theorem n8 {k : Nat} (hk : k < 8) : ¬ (8 : Int32) ≤ nI k := nI_ge (b := 8) hk (by decide)
theorem y256 : (256 : Int32) ≤ nI 256 := by decide
theorem y8 : (8 : Int32) ≤ nI 8 := by decide
theorem yv (hy : ∀ j, j < 256 → y j = bI (W j)) {k : Nat} (hk : k < 256) : y (nI k).toNatClampNeg = bI (W k) := by
  rw [nI_clamp (by omega)]; exact hy k hk
theorem yc (hy : ∀ j, j < 256 → y j = bI (W j)) {k m : Nat} (hk : k < 256) (hm : m < 8) : y (nI k &&& ((1 <<< (nI m &&& 31)) ^^^ (-1))).toNatClampNeg = bI (W (clr k m)) := by
  rw [clr_nI m hm k hk]; exact yv hy (clr_lt hk)
theorem swings_W (hy : ∀ j, j < 256 → y j = bI (W j)) {m : Nat} (hm : m < 8) : f_X8_swings y (nI m) = swF W m 256 := by
  unfold f_X8_swings swF
  refine congrArg Prod.fst (lp_fd (f := fun x : Int32 × Int32 => f_X8_swings_st y (nI m) x.1 x.2) (fun k (x : Int32) => (x, nI k)) (fun j x => if swT W m j then x + 1 else x) (fun _ _ => True) (N := 256) (fun x => (x, nI 256)) (a := 0) trivial ?_ ?_ fuel256)
  · intro k x hk _
    refine ⟨?_, trivial⟩
    show f_X8_swings_st y (nI m) x (nI k) = _
    unfold f_X8_swings_st swT
    rw [if_neg (n256 hk), has_nI m hm k hk, yv hy hk, yc hy hk hm, nI_1, Int32.add_zero]
    cases k.testBit m <;> cases W k <;> cases W (clr k m) <;> rfl
  · intro x _
    show f_X8_swings_st y (nI m) x (nI 256) = _
    unfold f_X8_swings_st
    rw [if_pos y256]
theorem orders_W (hy : ∀ j, j < 256 → y j = bI (W j)) (a : Int32) {m : Nat} (hm : m < 8) : f_X8_orders a y (nI m) = orF W a m 256 := by
  unfold f_X8_orders orF
  refine congrArg Prod.fst (lp_fd (f := fun x : Int32 × Int32 => f_X8_orders_st a y (nI m) x.1 x.2) (fun k (x : Int32) => (x, nI k)) (fun j x => if swT W m j then x + oT a j else x) (fun _ _ => True) (N := 256) (fun x => (x, nI 256)) (a := 0) trivial ?_ ?_ fuel256)
  · intro k x hk _
    refine ⟨?_, trivial⟩
    show f_X8_orders_st a y (nI m) x (nI k) = _
    unfold f_X8_orders_st swT
    rw [if_neg (n256 hk), has_nI m hm k hk, yv hy hk, yc hy hk hm, nI_1, Int32.add_zero]
    cases k.testBit m <;> cases W k <;> cases W (clr k m) <;> rfl
  · intro x _
    show f_X8_orders_st a y (nI m) x (nI 256) = _
    unfold f_X8_orders_st
    rw [if_pos y256]
theorem allSw_W (hy : ∀ j, j < 256 → y j = bI (W j)) : f_X8_allSwings y = allF W 256 := by
  unfold f_X8_allSwings allF
  refine congrArg Prod.fst (lp_fd (f := fun x : Int32 × Int32 => f_X8_allSwings_st y x.1 x.2) (fun k (x : Int32) => (x, nI k)) (fun m x => x + swF W m 256) (fun _ _ => True) (N := 8) (fun x => (x, nI 8)) (a := 0) trivial ?_ ?_ fuel8)
  · intro k x hk _
    refine ⟨?_, trivial⟩
    show f_X8_allSwings_st y x (nI k) = _
    unfold f_X8_allSwings_st
    rw [if_neg (n8 hk), swings_W hy hk, nI_1]
  · intro x _
    show f_X8_allSwings_st y x (nI 8) = _
    unfold f_X8_allSwings_st
    rw [if_pos y8]
theorem isLeast_W (hy : ∀ j, j < 256 → y j = bI (W j)) {j : Nat} (hj : j < 256) : f_X8_isLeast y (nI j) = bI (leB W j) := by
  unfold f_X8_isLeast leB
  rw [yv hy hj]
  refine congrArg Prod.fst (lp_fd (f := fun x : Int32 × Int32 => f_X8_isLeast_st y (nI j) x.1 x.2) (fun k (b : Bool) => (bI b, nI k)) (fun m b => b && (!j.testBit m || !W (clr j m))) (fun _ _ => True) (N := 8) (fun b => (bI b, nI 8)) (a := W j) trivial ?_ ?_ fuel8)
  · intro k b hk _
    refine ⟨?_, trivial⟩
    show f_X8_isLeast_st y (nI j) (bI b) (nI k) = _
    unfold f_X8_isLeast_st
    rw [if_neg (n8 hk), has_nI k hk j hj, yc hy hj hk, nI_1]
    cases b <;> cases j.testBit k <;> cases W (clr j k) <;> rfl
  · intro b _
    show f_X8_isLeast_st y (nI j) (bI b) (nI 8) = _
    unfold f_X8_isLeast_st
    rw [if_pos y8]
theorem many_W0 (hy : ∀ j, j < 256 → y j = bI (W j)) : f_X8_many y 0 = ctF W 256 := by
  unfold f_X8_many ctF
  refine congrArg Prod.fst (lp_fd (f := fun x : Int32 × Int32 => f_X8_many_st y 0 x.1 x.2) (fun k (x : Int32) => (x, nI k)) (fun j x => if W j then x + 1 else x) (fun _ _ => True) (N := 256) (fun x => (x, nI 256)) (a := 0) trivial ?_ ?_ fuel256)
  · intro k x hk _
    refine ⟨?_, trivial⟩
    show f_X8_many_st y 0 x (nI k) = _
    unfold f_X8_many_st
    rw [if_neg (n256 hk), if_pos rfl, yv hy hk, nI_1, Int32.add_zero]
    cases W k <;> rfl
  · intro x _
    show f_X8_many_st y 0 x (nI 256) = _
    unfold f_X8_many_st
    rw [if_pos y256]
theorem many_W1 (hy : ∀ j, j < 256 → y j = bI (W j)) : f_X8_many y 1 = ctF (leB W) 256 := by
  unfold f_X8_many ctF
  refine congrArg Prod.fst (lp_fd (f := fun x : Int32 × Int32 => f_X8_many_st y 1 x.1 x.2) (fun k (x : Int32) => (x, nI k)) (fun j x => if leB W j then x + 1 else x) (fun _ _ => True) (N := 256) (fun x => (x, nI 256)) (a := 0) trivial ?_ ?_ fuel256)
  · intro k x hk _
    refine ⟨?_, trivial⟩
    show f_X8_many_st y 1 x (nI k) = _
    unfold f_X8_many_st
    rw [if_neg (n256 hk), if_neg (by decide), isLeast_W hy hk, nI_1, Int32.add_zero]
    cases leB W k <;> rfl
  · intro x _
    show f_X8_many_st y 1 x (nI 256) = _
    unfold f_X8_many_st
    rw [if_pos y256]
theorem isNeeded_W (hy : ∀ j, j < 256 → y j = bI (W j)) {p m : Nat} (hp : p < 256) (hm : m < 8) : f_X8_isNeeded (nI p) y (nI m) = bI (ndB W p m) := by
  unfold f_X8_isNeeded ndB
  rw [yv hy hp]
  generalize hB : fd (fun j b => b && (!W j || j.testBit m)) 256 (W p) = B
  refine congrArg Prod.fst (Eq.trans (lp_fd (f := fun x : Int32 × Int32 => f_X8_isNeeded_st y (nI m) x.1 x.2) (fun k (b : Bool) => (bI b, nI k)) (fun j b => b && (!W j || j.testBit m)) (fun _ _ => True) (N := 256) (fun b => (bI b, nI 256)) (a := W p) trivial ?_ ?_ fuel256) (congrArg (fun b => (bI b, nI 256)) hB))
  · intro k b hk _
    refine ⟨?_, trivial⟩
    show f_X8_isNeeded_st y (nI m) (bI b) (nI k) = _
    unfold f_X8_isNeeded_st
    rw [if_neg (n256 hk), has_nI m hm k hk, yv hy hk, nI_1]
    cases b <;> cases W k <;> cases k.testBit m <;> rfl
  · intro b _
    show f_X8_isNeeded_st y (nI m) (bI b) (nI 256) = _
    unfold f_X8_isNeeded_st
    rw [if_pos y256]
theorem dummies_W (hN : okN s n r) (hy : ∀ j, j < 256 → y j = bI (W j)) : f_X8_dummies s y = nI (orN (fun m => plB s n m && decide (swF W m 256 = 0)) n 0) := by
  have h8 := hN.2.1
  unfold f_X8_dummies
  refine Eq.trans (congrArg Prod.fst (lp_fd (f := fun x : Int32 × Int32 => f_X8_dummies_st s y x.1 x.2) (fun k (x : Int32) => (x, nI k)) (fun k x => if plB s n k && decide (swF W k 256 = 0) then x ||| (1 <<< (nI k &&& 31)) else x) (fun _ _ => True) (N := n) (fun x => (x, nI n)) (a := nI 0) trivial ?_ ?_ ?_)) ?_
  · intro k x hk _
    refine ⟨?_, trivial⟩
    show f_X8_dummies_st s y x (nI k) = _
    unfold f_X8_dummies_st
    rw [hN.1, if_neg (nI_ge hk (by omega)), isp_nI hN (by omega), swings_W hy (by omega), Int32.or_zero, nI_1]
    cases plB s n k
    · rfl
    · by_cases h2 : swF W k 256 = 0
      · rw [if_pos h2, decide_eq_true h2]; rfl
      · rw [if_neg h2, decide_eq_false h2]; rfl
  · intro x _
    show f_X8_dummies_st s y x (nI n) = _
    unfold f_X8_dummies_st
    rw [hN.1, if_pos (nI_le (Nat.le_refl n) (by omega))]
  · rw [hN.1]; exact fuel0 (by omega)
  · exact orI (by decide) h8
theorem needed_W (hN : okN s n r) (hy : ∀ j, j < 256 → y j = bI (W j)) {p : Nat} (hp : p < 256) : f_X8_needed (nI p) s y = nI (orN (fun m => plB s n m && ndB W p m) n 0) := by
  have h8 := hN.2.1
  unfold f_X8_needed
  refine Eq.trans (congrArg Prod.fst (lp_fd (f := fun x : Int32 × Int32 => f_X8_needed_st (nI p) s y x.1 x.2) (fun k (x : Int32) => (x, nI k)) (fun k x => if plB s n k && ndB W p k then x ||| (1 <<< (nI k &&& 31)) else x) (fun _ _ => True) (N := n) (fun x => (x, nI n)) (a := nI 0) trivial ?_ ?_ ?_)) ?_
  · intro k x hk _
    refine ⟨?_, trivial⟩
    show f_X8_needed_st (nI p) s y x (nI k) = _
    unfold f_X8_needed_st
    rw [hN.1, if_neg (nI_ge hk (by omega)), isp_nI hN (by omega), isNeeded_W hy hp (by omega), Int32.or_zero, nI_1]
    cases plB s n k
    · rfl
    · cases ndB W p k <;> rfl
  · intro x _
    show f_X8_needed_st (nI p) s y x (nI n) = _
    unfold f_X8_needed_st
    rw [hN.1, if_pos (nI_le (Nat.le_refl n) (by omega))]
  · rw [hN.1]; exact fuel0 (by omega)
  · exact orI (by decide) h8
end WFORM
