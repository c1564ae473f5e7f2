/-! part 73 -/
def okU (u : SetV × (Int32 × Int32) × SetV × SetV × SetV × SetV) (p : Int32 × (Nat → Int32) × (Nat → Int32)) : Prop := eqS u.1 p.2.1 (p.2.1 1) ∧ GS p.2.1 ∧ ring u.2.1 u.2.2.1 u.2.2.2.1 u.2.2.2.2.1 u.2.2.2.2.2 p.1 p.2.2
def opO (F : Int32 ⊕ (Int32 × (Int32 × SetV × (Int32 × Int32) × SetV × SetV × SetV × SetV))) (G : Int32 × (Int32 × Int32 × (Nat → Int32) × (Nat → Int32))) (cod : Int32 → Int32) (y0 : Int32) (s y : Nat → Int32) : Prop :=
  (∃ f, F = .inl f ∧ (f = 1 ∨ f = 2 ∨ f = 3) ∧ 0 < cod f ∧ G = (0, (y0, cod f, s, y))) ∨
  (∃ r u p, F = .inr (r, (1, u)) ∧ G = (r, (p.1, 0, p.2)) ∧ okU u p)
theorem rf_bad {α : Type} {f : Int32} (h : f = 1 ∨ f = 2 ∨ f = 3) (k : Int32 ⊕ α) : my_rf f k = .inl f := my_rf_no h k
theorem rf_fine {α : Type} (k : Int32 ⊕ α) : my_rf 0 k = k := my_rf_ok (by decide) k
section PERF
variable {v s0 s1 s2 s3 : SetV} {z : Int32 × Int32} {y0 : Int32} {s y : Nat → Int32}
theorem perform_O {k : Nat} {x1 x2 : Int32} {G : Int32 → Int32 → (Nat → Int32) → Int32 × (Int32 × Int32 × (Nat → Int32) × (Nat → Int32))} {cod : Int32 → Int32} (hv : eqS v s (s 1)) (hg : GS s) (hr : ring z s0 s1 s2 s3 y0 y) (h : sOp v s k x1 x2 G cod) (st : Int32) : opO (f_X7_perform st v z s0 s1 s2 s3 k x1 x2) (G y0 0 y) cod y0 s y := by
  unfold f_X7_perform
  rcases h with ⟨h1, h2, h3⟩ | ⟨h1, _, s', h3, h4, h5⟩
  · rw [rf_bad h1]
    exact Or.inl ⟨_, rfl, h1, h2, h3 y0 0 y⟩
  · rw [h1, rf_fine]
    exact Or.inr ⟨_, _, ((f_X8_saves y0 0 s y).1, s', (f_X8_saves y0 0 s y).2), rfl, h5 y0 0 y, h3, h4, ring_keep hv hg hr⟩
theorem s_eta (x : Int32 ⊕ (Int32 × (Int32 × SetV × (Int32 × Int32) × SetV × SetV × SetV × SetV))) : (my_s x (fun (r_3 : Int32) (u_1 : Int32 × SetV × (Int32 × Int32) × SetV × SetV × SetV × SetV) => (.inr (r_3, (u_1.1, u_1.2.1, u_1.2.2.1, u_1.2.2.2.1, u_1.2.2.2.2.1, u_1.2.2.2.2.2.1, u_1.2.2.2.2.2.2)) : Int32 ⊕ (Int32 × (Int32 × SetV × (Int32 × Int32) × SetV × SetV × SetV × SetV))))) = x := by
  cases x <;> rfl
theorem O_add (hv : eqS v s (s 1)) (hg : GS s) (hr : ring z s0 s1 s2 s3 y0 y) (st x : Int32) : opO (f_X7_add st v z s0 s1 s2 s3 x) (f_X8_add y0 0 s y x) (fun f => if f = 2 then 1 else 2) y0 s y := by
  unfold f_X7_add; rw [s_eta]; exact perform_O hv hg hr (op_add hv hg x 0) st
theorem O_setWeight (hv : eqS v s (s 1)) (hg : GS s) (hr : ring z s0 s1 s2 s3 y0 y) (st x x' : Int32) : opO (f_X7_setWeight st v z s0 s1 s2 s3 x x') (f_X8_setWeight y0 0 s y x x') (fun f => f) y0 s y := by
  unfold f_X7_setWeight; rw [s_eta]; exact perform_O hv hg hr (op_weigh hv hg x x') st
theorem O_setQuota (hv : eqS v s (s 1)) (hg : GS s) (hr : ring z s0 s1 s2 s3 y0 y) (st x : Int32) : opO (f_X7_setQuota st v z s0 s1 s2 s3 x) (f_X8_setQuota y0 0 s y x) (fun _ => 1) y0 s y := by
  unfold f_X7_setQuota; rw [s_eta]; exact perform_O hv hg hr (op_quota hv hg x 0) st
theorem O_follow (hv : eqS v s (s 1)) (hg : GS s) (hr : ring z s0 s1 s2 s3 y0 y) (st x x' : Int32) : opO (f_X7_follow st v z s0 s1 s2 s3 x x') (f_X8_follow y0 0 s y x x') (fun f => f) y0 s y := by
  unfold f_X7_follow; rw [s_eta]; exact perform_O hv hg hr (op_follow hv hg x x') st
theorem O_leave (hv : eqS v s (s 1)) (hg : GS s) (hr : ring z s0 s1 s2 s3 y0 y) (st x : Int32) : opO (f_X7_leave st v z s0 s1 s2 s3 x) (f_X8_leave y0 0 s y x) (fun f => if f = 1 then 1 else 2) y0 s y := by
  unfold f_X7_leave; rw [s_eta]; exact perform_O hv hg hr (op_leave hv hg x 0) st
theorem O_addRule (hv : eqS v s (s 1)) (hg : GS s) (hr : ring z s0 s1 s2 s3 y0 y) (st x x' : Int32) : opO (f_X7_addRule st v z s0 s1 s2 s3 x x') (f_X8_addRule y0 0 s y x x') (fun f => if f = 2 then 1 else 2) y0 s y := by
  unfold f_X7_addRule; rw [s_eta]; exact perform_O hv hg hr (op_rule hv hg x x') st
theorem O_dropRule (hv : eqS v s (s 1)) (hg : GS s) (hr : ring z s0 s1 s2 s3 y0 y) (st x : Int32) : opO (f_X7_dropRule st v z s0 s1 s2 s3 x) (f_X8_dropRule y0 0 s y x) (fun _ => 1) y0 s y := by
  unfold f_X7_dropRule; rw [s_eta]; exact perform_O hv hg hr (op_drop hv hg x 0) st
end PERF
def pwr (st : Int32) (s : Nat → Int32) (w : PowV) : Prop := st = 0 → ∀ n r, okN s n r → MI s n (s 1) (wnB s n (s 1)) 256 w
theorem pwr_1 (s : Nat → Int32) (w : PowV) : pwr 1 s w := fun h => absurd h (by decide)
section POWER
variable {v : SetV} {s : Nat → Int32} {n r : Nat} {w : PowV} {st : Int32}
theorem okN_uniq {n' r' : Nat} (h : okN s n r) (h' : okN s n' r') : n = n' ∧ r = r' := by
  obtain ⟨a1, a2, a3, a4⟩ := h
  obtain ⟨b1, b2, b3, b4⟩ := h'
  rw [a1] at b1
  rw [a3] at b3
  exact ⟨(nI_eq (by omega) (by omega)).mp b1, (nI_eq (by omega) (by omega)).mp b3⟩
theorem measured_ok (hv : eqS v s (s 1)) (hg : GS s) (hp : pwr st s w) : (f_X7_measured st v w).1 = 0 ∧ pwr 0 s (f_X7_measured st v w).2 := by
  obtain ⟨n, r, c, hN, hL, hW, hR, hq, hq1, hq2⟩ := hg
  unfold f_X7_measured
  by_cases h : st = 0
  · rw [if_pos h]
    exact ⟨h, fun _ => hp h⟩
  · rw [if_neg h]
    refine ⟨rfl, fun _ n' r' hN' => ?_⟩
    obtain ⟨rfl, rfl⟩ := okN_uniq hN hN'
    exact measure_MI hv hN hL hW hq hq1 (by omega) w
theorem lays_W (hN : okN s n r) (y : Nat → Int32) (q : Int32) : (f_X8_lays s y q).1 = nI (plN s n) ∧ ∀ j, j < 256 → (f_X8_lays s y q).2 j = bI (wnB s n q j) := wins_lays hN y q
theorem lays_z {y : Nat → Int32} (h : ∀ j : Nat, y j = 0 ∨ y j = 1) (q : Int32) : ∀ j : Nat, (f_X8_lays s y q).2 j = 0 ∨ (f_X8_lays s y q).2 j = 1 := lays_bool h rfl
end POWER
