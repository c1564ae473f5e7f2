/-! part 79: the checksum, row by row -/
section DIG2
variable {v : SetV} {s : Nat → Int32} {n r : Nat} {w : PowV} {st y4 : Int32} {y10 : Nat → Int32} {q : Int32} {W : Nat → Bool}
theorem d_whole_r (y2 : Int32) (u : Int32 × (Nat → Int32)) (h : Int64) : (lp (fun (x : Int64 × Int32) => f_X8_digest_st y2 s u x.1 x.2) default (((12 : Int32).toInt - (0 : Int32).toInt).toNat + 1) (h, 0)).1 = mixF (fun k => f_X8_wholeOf y2 u.1 s u.2 (nI k)) 12 h := by
  refine congrArg Prod.fst (lp_fd (f := fun x : Int64 × Int32 => f_X8_digest_st y2 s u x.1 x.2) (fun k (h : Int64) => (h, nI k)) (fun k h => 31 * h + Int32.toInt64 (f_X8_wholeOf y2 u.1 s u.2 (nI k))) (fun _ _ => True) (N := 12) (fun h => (h, nI 12)) (a := h) trivial ?_ ?_ (by decide))
  · intro k x hk _
    refine ⟨?_, trivial⟩
    show f_X8_digest_st y2 s u x (nI k) = _
    unfold f_X8_digest_st
    rw [if_neg (show ¬ (12 : Int32) ≤ nI k from nI_ge (b := 12) hk (by decide)), nI_1]
  · intro x _
    show f_X8_digest_st y2 s u x (nI 12) = _
    unfold f_X8_digest_st
    rw [if_pos (by decide)]
theorem d_in_c (u : Int32 × PowV) (m : Int32) (h : Int64) : lp (fun (x : Int64 × Int32) => f_X7_digest_st5 v u m x.1 x.2) default (((7 : Int32).toInt + 1 - (0 : Int32).toInt).toNat + 1) (h, 0) = (mixF (fun k => f_X7_memberValue u.1 v u.2 m (nI k)) 8 h, nI 8) := by
  refine lp_fd (f := fun x : Int64 × Int32 => f_X7_digest_st5 v u m x.1 x.2) (fun k (h : Int64) => (h, nI k)) (fun k h => 31 * h + Int32.toInt64 (f_X7_memberValue u.1 v u.2 m (nI k))) (fun _ _ => True) (N := 8) (fun h => (h, nI 8)) (a := h) trivial ?_ ?_ (by decide)
  · intro k x hk _
    refine ⟨?_, trivial⟩
    show f_X7_digest_st5 v u m x (nI k) = _
    unfold f_X7_digest_st5
    rw [if_neg (show ¬ (7 : Int32) < nI k from nI_nlt (a := 7) (by omega) (by decide)), nI_1]
    rfl
  · intro x _
    show f_X7_digest_st5 v u m x (nI 8) = _
    unfold f_X7_digest_st5
    rw [if_pos (by decide)]
theorem d_in_r (u : Int32 × (Nat → Int32)) (m : Int32) (h : Int64) : lp (fun (x : Int64 × Int32) => f_X8_digest_st4 s u m x.1 x.2) default (((8 : Int32).toInt - (0 : Int32).toInt).toNat + 1) (h, 0) = (mixF (fun k => f_X8_memberOf u.1 s u.2 m (nI k)) 8 h, nI 8) := by
  refine lp_fd (f := fun x : Int64 × Int32 => f_X8_digest_st4 s u m x.1 x.2) (fun k (h : Int64) => (h, nI k)) (fun k h => 31 * h + Int32.toInt64 (f_X8_memberOf u.1 s u.2 m (nI k))) (fun _ _ => True) (N := 8) (fun h => (h, nI 8)) (a := h) trivial ?_ ?_ (by decide)
  · intro k x hk _
    refine ⟨?_, trivial⟩
    show f_X8_digest_st4 s u m x (nI k) = _
    unfold f_X8_digest_st4
    rw [if_neg (n8 hk), nI_1]
  · intro x _
    show f_X8_digest_st4 s u m x (nI 8) = _
    unfold f_X8_digest_st4
    rw [if_pos y8]
def memF (V : Nat → Nat → Int32) (A B : Nat → Int64) (N : Nat) (h : Int64) : Int64 := fd (fun m h => 31 * (31 * (mixF (V m) 8 h) + A m) + B m) N h
theorem d_mem_c (hv : v.1 = nI n) (h8 : n ≤ 8) (u : Int32 × PowV) (h : Int64) : (lp (fun (x : Int64 × Int32) => f_X7_digest_st1 v u x.1 x.2) default (((v.1 : Int32).toInt - (0 : Int32).toInt).toNat + 1) (h, 0)).1 = memF (fun m t => f_X7_memberValue u.1 v u.2 (nI m) (nI t)) (fun m => f_X7_bitsOf (FP.f2d (f_X3_shareOf u.2 (nI m))) 127 23) (fun m => f_X7_bitsOf (f_X3_partOf u.2 (nI m)) 1023 52) n h := by
  refine congrArg Prod.fst (lp_fd (f := fun x : Int64 × Int32 => f_X7_digest_st1 v u x.1 x.2) (fun k (h : Int64) => (h, nI k)) (fun m h => 31 * (31 * (mixF (fun t => f_X7_memberValue u.1 v u.2 (nI m) (nI t)) 8 h) + f_X7_bitsOf (FP.f2d (f_X3_shareOf u.2 (nI m))) 127 23) + f_X7_bitsOf (f_X3_partOf u.2 (nI m)) 1023 52) (fun _ _ => True) (N := n) (fun h => (h, nI n)) (a := h) trivial ?_ ?_ ?_)
  · intro k x hk _
    refine ⟨?_, trivial⟩
    show f_X7_digest_st1 v u x (nI k) = _
    unfold f_X7_digest_st1
    rw [hv, if_neg (nI_ge hk (by omega)), d_in_c, my_t2_eq, nI_1]
    rfl
  · intro x _
    show f_X7_digest_st1 v u x (nI n) = _
    unfold f_X7_digest_st1
    rw [hv, if_pos (nI_le (Nat.le_refl n) (by omega))]
  · rw [hv]; exact fuel0 (by omega)
theorem d_mem_r (hN : okN s n r) (u : Int32 × (Nat → Int32)) (h : Int64) : (lp (fun (x : Int64 × Int32) => f_X8_digest_st1 s u x.1 x.2) default ((((s 0) : Int32).toInt - (0 : Int32).toInt).toNat + 1) (h, 0)).1 = memF (fun m t => f_X8_memberOf u.1 s u.2 (nI m) (nI t)) (fun m => f_X8_bits (FP.f2d (f_X8_shareOf u.2 (nI m))) 23 127) (fun m => f_X8_bits (f_X8_partOf u.1 s u.2 (nI m)) 52 1023) n h := by
  have h8 := hN.2.1
  refine congrArg Prod.fst (lp_fd (f := fun x : Int64 × Int32 => f_X8_digest_st1 s u x.1 x.2) (fun k (h : Int64) => (h, nI k)) (fun m h => 31 * (31 * (mixF (fun t => f_X8_memberOf u.1 s u.2 (nI m) (nI t)) 8 h) + f_X8_bits (FP.f2d (f_X8_shareOf u.2 (nI m))) 23 127) + f_X8_bits (f_X8_partOf u.1 s u.2 (nI m)) 52 1023) (fun _ _ => True) (N := n) (fun h => (h, nI n)) (a := h) trivial ?_ ?_ ?_)
  · intro k x hk _
    refine ⟨?_, trivial⟩
    show f_X8_digest_st1 s u x (nI k) = _
    unfold f_X8_digest_st1
    rw [hN.1, if_neg (nI_ge hk (by omega)), d_in_r, my_t2_eq, nI_1]
  · intro x _
    show f_X8_digest_st1 s u x (nI n) = _
    unfold f_X8_digest_st1
    rw [hN.1, if_pos (nI_le (Nat.le_refl n) (by omega))]
  · rw [hN.1]; exact fuel0 (by omega)
theorem d_rin_c (i : Int32) (h : Int64) : lp (fun (x : Int64 × Int32) => f_X7_digest_st4 v i x.1 x.2) default (((2 : Int32).toInt + 1 - (0 : Int32).toInt).toNat + 1) (h, 0) = (mixF (fun k => f_X6_ruleValue v i (nI k)) 3 h, nI 3) := by
  refine lp_fd (f := fun x : Int64 × Int32 => f_X7_digest_st4 v i x.1 x.2) (fun k (h : Int64) => (h, nI k)) (fun k h => 31 * h + Int32.toInt64 (f_X6_ruleValue v i (nI k))) (fun _ _ => True) (N := 3) (fun h => (h, nI 3)) (a := h) trivial ?_ ?_ (by decide)
  · intro k x hk _
    refine ⟨?_, trivial⟩
    show f_X7_digest_st4 v i x (nI k) = _
    unfold f_X7_digest_st4
    rw [if_neg (show ¬ (2 : Int32) < nI k from nI_nlt (a := 2) (by omega) (by decide)), nI_1]
    rfl
  · intro x _
    show f_X7_digest_st4 v i x (nI 3) = _
    unfold f_X7_digest_st4
    rw [if_pos (by decide)]
theorem d_rul_c (hv : v.2.2.1 = nI r) (hr : r ≤ 4) (h : Int64) : (lp (fun (x : Int64 × Int32) => f_X7_digest_st2 v x.1 x.2) default (((v.2.2.1 : Int32).toInt - (0 : Int32).toInt).toNat + 1) (h, 0)).1 = fd (fun i h => mixF (fun t => f_X6_ruleValue v (nI i) (nI t)) 3 h) r h := by
  refine congrArg Prod.fst (lp_fd (f := fun x : Int64 × Int32 => f_X7_digest_st2 v x.1 x.2) (fun k (h : Int64) => (h, nI k)) (fun i h => mixF (fun t => f_X6_ruleValue v (nI i) (nI t)) 3 h) (fun _ _ => True) (N := r) (fun h => (h, nI r)) (a := h) trivial ?_ ?_ ?_)
  · intro k x hk _
    refine ⟨?_, trivial⟩
    show f_X7_digest_st2 v x (nI k) = _
    unfold f_X7_digest_st2
    rw [hv, if_neg (nI_ge hk (by omega)), d_rin_c, my_t2_eq, nI_1]
  · intro x _
    show f_X7_digest_st2 v x (nI r) = _
    unfold f_X7_digest_st2
    rw [hv, if_pos (nI_le (Nat.le_refl r) (by omega))]
  · rw [hv]; exact fuel0 (by omega)
theorem d_rul_r (hN : okN s n r) (h : Int64) : (lp (fun (x : Int64 × Int32) => f_X8_digest_st2 s x.1 x.2) default ((((3 * (s 2)) : Int32).toInt - (0 : Int32).toInt).toNat + 1) (h, 0)).1 = fd (fun i h => mixF (fun t => f_X8_ruleOf s (nI i) (nI t)) 3 h) r h := by
  have hr := hN.2.2.2
  have h3 : (3 * (s 2) : Int32) = nI (3 * r) := by
    have h : ∀ r : Nat, r < 5 → (3 : Int32) * nI r = nI (3 * r) := by decide
    rw [hN.2.2.1]; exact h r (by omega)
  have e : fd (fun i h => mixF (fun t => f_X8_ruleOf s (nI i) (nI t)) 3 h) r h = fd (fun k h => 31 * h + Int32.toInt64 (f_X8_ruleOf s (nI k / 3) (nI k - nI k / 3 * 3))) (3 * r) h := by
    rw [flat3]
    refine fd_congr (fun i hi x => ?_)
    have t1 : ∀ i : Nat, i < 4 → nI (3 * i) / 3 = nI i ∧ nI (3 * i) - nI (3 * i) / 3 * 3 = nI 0 ∧ nI (3 * i + 1) / 3 = nI i ∧ nI (3 * i + 1) - nI (3 * i + 1) / 3 * 3 = nI 1 ∧ nI (3 * i + 2) / 3 = nI i ∧ nI (3 * i + 2) - nI (3 * i + 2) / 3 * 3 = nI 2 := by decide
    obtain ⟨a1, a2, a3, a4, a5, a6⟩ := t1 i (by omega)
    rw [a2, a1, a4, a3, a6, a5]
    rfl
  rw [e]
  refine congrArg Prod.fst (lp_fd (f := fun x : Int64 × Int32 => f_X8_digest_st2 s x.1 x.2) (fun k (h : Int64) => (h, nI k)) (fun k h => 31 * h + Int32.toInt64 (f_X8_ruleOf s (nI k / 3) (nI k - nI k / 3 * 3))) (fun _ _ => True) (N := 3 * r) (fun h => (h, nI (3 * r))) (a := h) trivial ?_ ?_ ?_)
  · intro k x hk _
    refine ⟨?_, trivial⟩
    show f_X8_digest_st2 s x (nI k) = _
    unfold f_X8_digest_st2
    rw [h3, if_neg (nI_ge hk (by omega)), nI_1]
  · intro x _
    show f_X8_digest_st2 s x (nI (3 * r)) = _
    unfold f_X8_digest_st2
    rw [h3, if_pos (nI_le (Nat.le_refl _) (by omega))]
  · rw [h3]; exact fuel0 (by omega)
theorem d_lst_c {u : Int32 × PowV} {L : Nat} (hL : L < 1000) (hl : u.2.2.2.2.2.1 = nI L) (h : Int64) : (lp (fun (x : Int64 × Int32) => f_X7_digest_st3 u x.1 x.2) default (((u.2.2.2.2.2.1 : Int32).toInt - (0 : Int32).toInt).toNat + 1) (h, 0)).1 = mixF (fun i => rAt 256 u.2.2.2.2.2.2.2.2.2.1 (nI i)) L h := by
  refine congrArg Prod.fst (lp_fd (f := fun x : Int64 × Int32 => f_X7_digest_st3 u x.1 x.2) (fun k (h : Int64) => (h, nI k)) (fun i h => 31 * h + Int32.toInt64 (rAt 256 u.2.2.2.2.2.2.2.2.2.1 (nI i))) (fun _ _ => True) (N := L) (fun h => (h, nI L)) (a := h) trivial ?_ ?_ ?_)
  · intro k x hk _
    refine ⟨?_, trivial⟩
    show f_X7_digest_st3 u x (nI k) = _
    unfold f_X7_digest_st3
    rw [hl, if_neg (nI_ge hk (by omega)), nI_1]
    rfl
  · intro x _
    show f_X7_digest_st3 u x (nI L) = _
    unfold f_X7_digest_st3
    rw [hl, if_pos (nI_le (Nat.le_refl L) (by omega))]
  · rw [hl]; exact fuel0 (by omega)
theorem d_lst_r {u : Int32 × (Nat → Int32)} (hy : ∀ j, j < 256 → u.2 j = bI (W j)) (h : Int64) : (lp (fun (x : Int64 × Int32) => f_X8_digest_st3 u x.1 x.2) default (((256 : Int32).toInt - (0 : Int32).toInt).toNat + 1) (h, 0)).1 = fd (fun j h => if leB W j then 31 * h + Int32.toInt64 (nI j) else h) 256 h := by
  refine congrArg Prod.fst (lp_fd (f := fun x : Int64 × Int32 => f_X8_digest_st3 u x.1 x.2) (fun k (h : Int64) => (h, nI k)) (fun j h => if leB W j then 31 * h + Int32.toInt64 (nI j) else h) (fun _ _ => True) (N := 256) (fun h => (h, nI 256)) (a := h) trivial ?_ ?_ fuel256)
  · intro k x hk _
    refine ⟨?_, trivial⟩
    show f_X8_digest_st3 u x (nI k) = _
    unfold f_X8_digest_st3
    rw [if_neg (n256 hk), isLeast_W hy hk, nI_1]
    cases leB W k <;> rfl
  · intro x _
    show f_X8_digest_st3 u x (nI 256) = _
    unfold f_X8_digest_st3
    rw [if_pos y256]
theorem d_lst (W : Nat → Bool) (h : Int64) : ∀ k, k ≤ 256 → mixF (fun i => nI ((lsN W 256).getD i 0)) (lsN W k).length h = fd (fun j h => if leB W j then 31 * h + Int32.toInt64 (nI j) else h) k h
  | 0, _ => rfl
  | k + 1, hk => by
    have ih := d_lst W h k (by omega)
    show _ = (if leB W k then 31 * (fd (fun j h => if leB W j then 31 * h + Int32.toInt64 (nI j) else h) k h) + Int32.toInt64 (nI k) else fd (fun j h => if leB W j then 31 * h + Int32.toInt64 (nI j) else h) k h)
    rw [← ih]
    cases hl : leB W k
    · rw [lsN_s W k, hl]; rfl
    · have e3 : lsN W (k + 1) = lsN W k ++ [k] := by rw [lsN_s W k, hl]; rfl
      have l1 : (lsN W (k + 1)).length = (lsN W k).length + 1 := by rw [e3, List.length_append]; rfl
      have m2 := (ls_mono W (k := k + 1) (d := 256 - (k + 1))).2 (lsN W k).length (by omega)
      rw [show k + 1 + (256 - (k + 1)) = 256 by omega, e3, snoc_eq] at m2
      rw [l1]
      show 31 * (mixF (fun i => nI ((lsN W 256).getD i 0)) (lsN W k).length h) + Int32.toInt64 (nI ((lsN W 256).getD (lsN W k).length 0)) = _
      rw [m2]
      rfl
def cD1 (v : SetV) (tx : TxtV) (u : Int32 × PowV) (h : Int64) : Int64 := (lp (fun (x : Int64 × Int32) => f_X7_digest_st v tx u x.1 x.2) default (((11 : Int32).toInt + 1 - (0 : Int32).toInt).toNat + 1) (h, 0)).1
def cD2 (v : SetV) (u : Int32 × PowV) (h : Int64) : Int64 := (lp (fun (x : Int64 × Int32) => f_X7_digest_st1 v u x.1 x.2) default (((v.1 : Int32).toInt - (0 : Int32).toInt).toNat + 1) (h, 0)).1
def cD3 (v : SetV) (h : Int64) : Int64 := (lp (fun (x : Int64 × Int32) => f_X7_digest_st2 v x.1 x.2) default (((v.2.2.1 : Int32).toInt - (0 : Int32).toInt).toNat + 1) (h, 0)).1
def cD4 (u : Int32 × PowV) (h : Int64) : Int64 := (lp (fun (x : Int64 × Int32) => f_X7_digest_st3 u x.1 x.2) default (((u.2.2.2.2.2.1 : Int32).toInt - (0 : Int32).toInt).toNat + 1) (h, 0)).1
def rD1 (y2 : Int32) (s : Nat → Int32) (u : Int32 × (Nat → Int32)) (h : Int64) : Int64 := (lp (fun (x : Int64 × Int32) => f_X8_digest_st y2 s u x.1 x.2) default (((12 : Int32).toInt - (0 : Int32).toInt).toNat + 1) (h, 0)).1
def rD2 (s : Nat → Int32) (u : Int32 × (Nat → Int32)) (h : Int64) : Int64 := (lp (fun (x : Int64 × Int32) => f_X8_digest_st1 s u x.1 x.2) default ((((s 0) : Int32).toInt - (0 : Int32).toInt).toNat + 1) (h, 0)).1
def rD3 (s : Nat → Int32) (h : Int64) : Int64 := (lp (fun (x : Int64 × Int32) => f_X8_digest_st2 s x.1 x.2) default ((((3 * (s 2)) : Int32).toInt - (0 : Int32).toInt).toNat + 1) (h, 0)).1
def rD4 (u : Int32 × (Nat → Int32)) (h : Int64) : Int64 := (lp (fun (x : Int64 × Int32) => f_X8_digest_st3 u x.1 x.2) default (((256 : Int32).toInt - (0 : Int32).toInt).toNat + 1) (h, 0)).1
theorem cD_all (st : Int32) (v : SetV) (w : PowV) (z : Int32 × Int32) (tx : TxtV) : f_X7_digest st v w z tx = (fun u : Int32 × PowV => (cD4 u (cD3 v (cD2 v u (cD1 v tx u (f_X7_mixed 43588 (Int32.toInt64 z.1))))), u)) (f_X7_measured st v w) := by
  unfold f_X7_digest
  generalize f_X7_measured st v w = u
  rfl
theorem rD_all (y0 y2 : Int32) (s y10 : Nat → Int32) : f_X8_digest y0 y2 s y10 = (fun u : Int32 × (Nat → Int32) => (rD4 u (rD3 s (rD2 s u (rD1 y2 s u (1351228 + Int32.toInt64 y0)))), (0, u))) (f_X8_lays s y10 (s 1)) := by
  unfold f_X8_digest
  generalize f_X8_lays s y10 (s 1) = u
  rfl
theorem R_digest (hv : eqS v s (s 1)) (hg : GS s) (hp : pwr st s w) (hb : bl y10) (z : Int32 × Int32) (tx : TxtV) : ∃ a u p, f_X7_digest st v w z tx = (a, u) ∧ f_X8_digest z.1 tx.1 s y10 = (a, (0, p)) ∧ pwr u.1 s u.2 ∧ bl p.2 := by
  have hm := measured_ok hv hg hp
  have hpm := pwr_m hv hg hp
  obtain ⟨n, r, c, hN, hL, hW, hR, hq, hq1, hq2⟩ := hg
  have h8 := hN.2.1
  have hr := hN.2.2.2
  have hM := hm.2 rfl n r hN
  have hl := lays_W hN y10 (s 1)
  have hbl := lays_z (s := s) hb (s 1)
  have hlen := lsN_len (wnB s n (s 1)) 256
  rw [cD_all, rD_all]
  generalize f_X7_measured st v w = u at hpm hM ⊢
  generalize f_X8_lays s y10 (s 1) = u' at hl hbl ⊢
  refine ⟨_, u, u', rfl, ?_, hpm, hbl⟩
  have e0 : f_X7_mixed 43588 (Int32.toInt64 z.1) = 1351228 + Int32.toInt64 z.1 := by
    unfold f_X7_mixed
    rw [show (31 * 43588 : Int64) = 1351228 by decide]
  have e1 : ∀ h, cD1 v tx u h = rD1 tx.1 s u' h := by
    intro h
    unfold cD1 rD1
    rw [d_whole_c, d_whole_r]
    refine mixF_congr (fun k hk => ?_)
    rw [hl.1]
    exact whole_eq hv hN hL hW hR hM hl.2 u.1 tx hk
  have e2 : ∀ h, cD2 v u h = rD2 s u' h := by
    intro h
    unfold cD2 rD2
    rw [d_mem_c (hv.1.trans hN.1) h8, d_mem_r hN]
    unfold memF
    refine fd_congr (fun m hmn x => ?_)
    have a1 := share_eq hM hl.2 (m := m) (by omega)
    have a2 := part_eq hN hM hl.2 (m := m) (by omega)
    rw [hl.1]
    dsimp only
    rw [a1, a2]
    have b1 := bits_eq_ref (sh8_fnn u'.2 (nI m)) (b := 127) (k := 23) (by decide)
    have b2 := bits_eq_ref (pt8_fnn (nI (plN s n)) s u'.2 (nI m)) (b := 1023) (k := 52) (by decide)
    rw [b1, b2, show Int32.toInt64 127 = 127 by decide, show Int32.toInt64 1023 = 1023 by decide]
    have b3 : mixF (fun t => f_X7_memberValue u.1 v u.2 (nI m) (nI t)) 8 x = mixF (fun t => f_X8_memberOf (nI (plN s n)) s u'.2 (nI m) (nI t)) 8 x := mixF_congr (fun k hk => member_eq hv hN hL hW hR hM hl.2 u.1 hmn hk)
    rw [b3]
  have e3 : ∀ h, cD3 v h = rD3 s h := by
    intro h
    unfold cD3 rD3
    rw [d_rul_c (hv.2.2.1.trans hN.2.2.1) hr, d_rul_r hN]
    exact fd_congr (fun i hi x => mixF_congr (fun t ht => rule_eq hv hN hi ht))
  have e4 : ∀ h, cD4 u h = rD4 u' h := by
    intro h
    unfold cD4 rD4
    rw [d_lst_c (by omega) hM.2.2.2.2.1, d_lst_r hl.2, ← d_lst _ _ 256 (Nat.le_refl _)]
    refine mixF_congr (fun i hi => ?_)
    rw [rAt_nI (by omega) (by decide), hM.2.2.2.2.2.2.2.2.1 i hi]
  show (rD4 u' (rD3 s (rD2 s u' (rD1 tx.1 s u' (1351228 + Int32.toInt64 z.1)))), _) = (cD4 u (cD3 v (cD2 v u (cD1 v tx u (f_X7_mixed 43588 (Int32.toInt64 z.1))))), _)
  rw [e0, e1, e2, e3, e4]
end DIG2
