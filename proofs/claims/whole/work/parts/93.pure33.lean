/-! part 93: the commands of a text are carried out -/
def coF (t : Nat) (b : Nat → Int32) (P F G : Int32) (C : Nat) : (Int32 × SetV × Int32 × Int32 × Int32 × Nat) → (Int32 × SetV × Int32 × Int32 × Int32 × Nat) ⊕ (Int32 × (SetV × TxtV)) := fun x => f_X7_carryOutText_st (nI t, P, F, G, C, b) x.1 x.2.1 x.2.2.1 x.2.2.2.1 x.2.2.2.2.1 x.2.2.2.2.2
def ruF (t : Nat) (y : Nat → Int32) : (Int32 × Int32 × Int32 × Int32 × Int32 × Int32 × (Nat → Int32) × (Nat → Int32) × (Nat → Int32)) → (Int32 × Int32 × Int32 × Int32 × Int32 × Int32 × (Nat → Int32) × (Nat → Int32) × (Nat → Int32)) ⊕ (Int32 × Int32 × Int32 × Int32 × Int32 × Int32 × (Nat → Int32) × (Nat → Int32) × (Nat → Int32)) := fun x => f_X8_runCommands_st (nI t) y x.1 x.2.1 x.2.2.1 x.2.2.2.1 x.2.2.2.2.1 x.2.2.2.2.2.1 x.2.2.2.2.2.2.1 x.2.2.2.2.2.2.2.1 x.2.2.2.2.2.2.2.2
theorem b_eta {α β γ δ ε : Type} (x : α × (β × γ × δ × ε)) : my_b x (fun r u => (r, (u.1, u.2.1, u.2.2.1, u.2.2.2))) = x := rfl
theorem sv_run (y0 : Int32) (s y : Nat → Int32) : f_X8_saves y0 1 s y = (y0, y) := by
  unfold f_X8_saves
  rw [if_neg (by decide)]
section DOES
variable {v : SetV} {s z : Nat → Int32} {a b2 : Int32}
theorem sOp_c {k : Nat} {G G' : Int32 → Int32 → (Nat → Int32) → Int32 × (Int32 × Int32 × (Nat → Int32) × (Nat → Int32))} {cod : Int32 → Int32} (h : sOp v s k a b2 G cod) (e : ∀ y0 ru y, G' y0 ru y = G y0 ru y) : ∃ cod, sOp v s k a b2 G' cod := by
  have : G' = G := funext fun _ => funext fun _ => funext fun _ => e _ _ _
  rw [this]
  exact ⟨cod, h⟩
theorem does_op {c : Nat} (hv : eqS v s (s 1)) (hg : GS s) (hc : c < 7) (ha : z 0 = a) (hb : c = 1 ∨ c = 3 ∨ c = 5 → z 1 = b2) : ∃ cod, sOp v s c a b2 (fun y0 ru y => f_X8_does y0 ru (nI c) s y z) cod := by
  have h7 : c = 0 ∨ c = 1 ∨ c = 2 ∨ c = 3 ∨ c = 4 ∨ c = 5 ∨ c = 6 := by omega
  rcases h7 with rfl | rfl | rfl | rfl | rfl | rfl | rfl
  · refine sOp_c (op_add hv hg a b2) (fun y0 ru y => ?_)
    unfold f_X8_does
    rw [if_pos (show (nI 0 : Int32) = 0 by decide), b_eta, ha]
  · refine sOp_c (op_weigh hv hg a b2) (fun y0 ru y => ?_)
    unfold f_X8_does
    rw [if_neg (show ¬ (nI 1 : Int32) = 0 by decide), if_pos (show (nI 1 : Int32) = 1 by decide), b_eta, ha, hb (by decide)]
  · refine sOp_c (op_quota hv hg a b2) (fun y0 ru y => ?_)
    unfold f_X8_does
    rw [if_neg (show ¬ (nI 2 : Int32) = 0 by decide), if_neg (show ¬ (nI 2 : Int32) = 1 by decide), if_pos (show (nI 2 : Int32) = 2 by decide), b_eta, ha]
  · refine sOp_c (op_follow hv hg a b2) (fun y0 ru y => ?_)
    unfold f_X8_does
    rw [if_neg (show ¬ (nI 3 : Int32) = 0 by decide), if_neg (show ¬ (nI 3 : Int32) = 1 by decide), if_neg (show ¬ (nI 3 : Int32) = 2 by decide), if_pos (show (nI 3 : Int32) = 3 by decide), b_eta, ha, hb (by decide)]
  · refine sOp_c (op_leave hv hg a b2) (fun y0 ru y => ?_)
    unfold f_X8_does
    rw [if_neg (show ¬ (nI 4 : Int32) = 0 by decide), if_neg (show ¬ (nI 4 : Int32) = 1 by decide), if_neg (show ¬ (nI 4 : Int32) = 2 by decide), if_neg (show ¬ (nI 4 : Int32) = 3 by decide), if_pos (show (nI 4 : Int32) = 4 by decide), b_eta, ha]
  · refine sOp_c (op_rule hv hg a b2) (fun y0 ru y => ?_)
    unfold f_X8_does
    rw [if_neg (show ¬ (nI 5 : Int32) = 0 by decide), if_neg (show ¬ (nI 5 : Int32) = 1 by decide), if_neg (show ¬ (nI 5 : Int32) = 2 by decide), if_neg (show ¬ (nI 5 : Int32) = 3 by decide), if_neg (show ¬ (nI 5 : Int32) = 4 by decide), if_pos (show (nI 5 : Int32) = 5 by decide), b_eta, ha, hb (by decide)]
  · refine sOp_c (op_drop hv hg a b2) (fun y0 ru y => ?_)
    unfold f_X8_does
    rw [if_neg (show ¬ (nI 6 : Int32) = 0 by decide), if_neg (show ¬ (nI 6 : Int32) = 1 by decide), if_neg (show ¬ (nI 6 : Int32) = 2 by decide), if_neg (show ¬ (nI 6 : Int32) = 3 by decide), if_neg (show ¬ (nI 6 : Int32) = 4 by decide), if_neg (show ¬ (nI 6 : Int32) = 5 by decide), b_eta, ha]
end DOES
section RUN
variable {b y : Nat → Int32} {t : Nat} {u p i : Nat} {v : SetV}
theorem co_stop (h : txE b y t) (hp : p ≤ t) (hu : f_X8_skips (nI t) (nI p) y = nI u) (hu2 : u ≤ t) (hs : t ≤ u) (P F G f g : Int32) (C cm : Nat) : ∃ p' f' g' c', coF t b P F G C (nI i, v, nI p, f, g, cm) = .inr (nI i, (v, (nI t, p', f', g', c', b))) := by
  have ht := h.1
  unfold coF f_X7_carryOutText_st
  dsimp only
  by_cases q : (150 : Int32) ≤ nI i
  · rw [if_pos q]
    exact ⟨_, _, _, _, rfl⟩
  · rw [if_neg q, has_eq h (by omega) hu hu2, if_pos hs, my_b_eq, if_pos rfl]
    exact ⟨_, _, _, _, rfl⟩
theorem co_go (h : txE b y t) (hp : p ≤ t) (hu : f_X8_skips (nI t) (nI p) y = nI u) (hu2 : u < t) (hi : i < 150) {p' c : Nat} {a b2 f g : Int32} {cm : Nat} (hr : f_X2_readCommand (nI t, nI u, f, g, cm, b) = (-1, (nI p', a, b2, c))) (hc : c < 7) (P F G : Int32) (C : Nat) :
    coF t b P F G C (nI i, v, nI p, f, g, cm) = if f_X6_faultOf v c a b2 = 0 then .inl (nI (i + 1), (f_X6_carryOut v c a b2).2, nI p', a, b2, c) else .inr (nI i, (v, (nI t, nI p', a, b2, c, b))) := by
  have ht := h.1
  unfold coF f_X7_carryOutText_st
  dsimp only
  rw [if_neg (show ¬ (150 : Int32) ≤ nI i from nI_ge (b := 150) (by omega) (by decide)), has_eq h (by omega) hu (by omega), if_neg (by omega), my_b_eq, if_neg (by decide), hr, my_b_eq]
  dsimp only
  rw [if_pos hc, if_pos hc, my_b_eq, nI_1]
theorem ru_stop (ht : t ≤ 150) (hu : t ≤ u) (hu2 : u < 1000) (n : Int32) (x : Int32 × Int32) (z : Int32 × (Nat → Int32) × (Nat → Int32) × (Nat → Int32)) : ruF t y (n, 1, x.1, x.2, nI u, z) = .inr (n, 1, x.1, x.2, nI u, z) := by
  unfold ruF f_X8_runCommands_st
  dsimp only
  rw [if_neg (by decide), if_pos (nI_le hu (by omega))]
theorem ru_bad (n : Int32) (z : Int32 × Int32 × Int32 × Int32 × (Nat → Int32) × (Nat → Int32) × (Nat → Int32)) : ruF t y (n, 0, z) = .inr (n, 0, z) := by
  unfold ruF f_X8_runCommands_st
  dsimp only
  rw [if_pos rfl]
theorem ru_go (ht : t ≤ 150) (hu : u < t) {n y0 w3 m sp mm : Int32} {s Y rd rd' : Nat → Int32} (hr : f_X8_reads (nI t) (nI u) y rd = (1, (sp, mm, rd'))) : ruF t y (n, 1, y0, w3, nI u, m, s, Y, rd) =
    (if (f_X8_does y0 1 mm s Y rd').1 < 0 then .inl (n + 0, 0, (f_X8_does y0 1 mm s Y rd').2.1, (f_X8_does y0 1 mm s Y rd').2.2.1, sp, mm, (f_X8_does y0 1 mm s Y rd').2.2.2.1, (f_X8_does y0 1 mm s Y rd').2.2.2.2, rd') else
      if (f_X8_does y0 1 mm s Y rd').2.2.1 = 0 then .inl (n + 1, 1, (f_X8_does y0 1 mm s Y rd').2.1, (f_X8_does y0 1 mm s Y rd').2.2.1, sp, mm, (f_X8_does y0 1 mm s Y rd').2.2.2.1, (f_X8_does y0 1 mm s Y rd').2.2.2.2, rd')
      else .inl (n + 0, 0, (f_X8_does y0 1 mm s Y rd').2.1, (f_X8_does y0 1 mm s Y rd').2.2.1, sp, mm, (f_X8_does y0 1 mm s Y rd').2.2.2.1, (f_X8_does y0 1 mm s Y rd').2.2.2.2, rd')) := by
  unfold ruF f_X8_runCommands_st
  dsimp only
  rw [if_neg (by decide), if_neg (nI_ge hu (by omega)), hr, my_b_eq, if_neg (by decide), my_b_eq]
theorem co_all (h : txE b y t) (P F G : Int32) (C : Nat) (y0 : Int32) (Y : Nat → Int32) : ∀ (k p i u n n' : Nat) (f g : Int32) (cm : Nat) (w3 m : Int32) (v : SetV) (s rd : Nat → Int32), t - p < k → p ≤ t → i ≤ p → f_X8_skips (nI t) (nI p) y = nI u → u ≤ t → 150 - i < n → t - u + 1 < n' → (∀ j, gd t y j p) → eqS v s (s 1) → GS s →
    ∃ (c : Int32) (v' : SetV) (s' : Nat → Int32) (p' f' g' : Int32) (c' : Nat) (z1 z2 z3 z4 : Int32) (z5 : Nat → Int32), lp (coF t b P F G C) default n (nI i, v, nI p, f, g, cm) = (c, (v', (nI t, p', f', g', c', b))) ∧ lp (ruF t y) default n' (nI i, 1, y0, w3, nI u, m, s, Y, rd) = (c, z1, y0, z2, z3, z4, s', Y, z5) ∧ eqS v' s' (s' 1) ∧ GS s'
  | 0, _, _, _, _, _, _, _, _, _, _, _, _, _ => fun hk => absurd hk (Nat.not_lt_zero _)
  | k + 1, p, i, u, n, n', f, g, cm, w3, m, v, s, rd => by
    intro hk hp hi hu u2 hn hn' hgd hv hg
    have ht := h.1
    obtain ⟨_, u1, _, u3⟩ := skips_nI (y := y) hp ht
    obtain rfl := skips_uniq hu u3 (by omega) (by omega)
    obtain ⟨n, rfl⟩ : ∃ x, n = x + 1 := ⟨n - 1, by omega⟩
    obtain ⟨n', rfl⟩ : ∃ x, n' = x + 1 := ⟨n' - 1, by omega⟩
    by_cases z : t ≤ u
    · obtain ⟨p', f', g', c', hw⟩ := co_stop (i := i) (v := v) h hp hu u2 z P F G f g C cm
      have hw2 := ru_stop (y := y) ht z (by omega) (nI i) (y0, w3) (m, s, Y, rd)
      refine ⟨nI i, v, s, p', f', g', c', 1, w3, nI u, m, rd, ?_, ?_, hv, hg⟩
      · rw [lpR hw]
      · rw [lpR hw2]
    · obtain ⟨p', c, a, b2, ⟨c1, c2, c3, c4, c5⟩, _⟩ := hgd 1 u hu (by omega)
      have hgd' : ∀ j, gd t y j p' := by
        intro j
        obtain ⟨p9, c9, a9, b9, ⟨d1, d2, d3, d4, d5⟩, d6⟩ := hgd (j + 1) u hu (by omega)
        have e9 := (d4 b f g cm h).symm.trans (c4 b f g cm h)
        have e8 : nI p9 = nI p' := congrArg (fun x : Int32 × (Int32 × Int32 × Int32 × Nat) => x.2.1) e9
        have e7 : p9 = p' := (nI_eq (by omega) (by omega)).mp e8
        rw [← e7]; exact d6
      obtain ⟨rd', r1, r2, r3⟩ := c5 rd
      obtain ⟨u', v1, v2, v3⟩ := skips_nI (y := y) c2 ht
      rw [v3] at r1
      have hco := co_go (v := v) h hp hu (by omega) (i := i) (by omega) (c4 b f g cm h) c3 P F G C
      have hru := ru_go (y := y) ht (u := u) (by omega) (n := nI i) (y0 := y0) (w3 := w3) (m := m) (s := s) (Y := Y) r1
      obtain ⟨cod, hop⟩ := does_op hv hg c3 r2 r3
      rcases hop with ⟨o1, o2, o3⟩ | ⟨o1, o2, s', o3, o4, o5⟩
      · have o3 : f_X8_does y0 1 (nI c) s Y rd' = (0, (y0, cod (f_X6_faultOf v c a b2), s, Y)) := o3 y0 1 Y
        have hf : ¬ f_X6_faultOf v c a b2 = 0 := by
          rcases o1 with q | q | q <;> rw [q] <;> decide
        have hcod : ¬ cod (f_X6_faultOf v c a b2) = 0 := fun q => by rw [q] at o2; exact absurd o2 (by decide)
        rw [if_neg hf] at hco
        rw [o3] at hru
        dsimp only at hru
        rw [if_neg (by decide), if_neg hcod, Int32.add_zero] at hru
        obtain ⟨n', rfl⟩ : ∃ x, n' = x + 1 := ⟨n' - 1, by omega⟩
        refine ⟨nI i, v, s, nI p', a, b2, c, 0, cod (f_X6_faultOf v c a b2), nI u', nI c, rd', ?_, ?_, hv, hg⟩
        · rw [lpR hco]
        · rw [lpL hru, lpR (ru_bad _ _)]
      · have o5 : f_X8_does y0 1 (nI c) s Y rd' = ((f_X6_carryOut v c a b2).1, ((f_X8_saves y0 1 s Y).1, 0, s', (f_X8_saves y0 1 s Y).2)) := o5 y0 1 Y
        rw [sv_run] at o5
        rw [if_pos o1] at hco
        rw [o5] at hru
        dsimp only at hru
        rw [if_neg o2, if_pos rfl, nI_1] at hru
        rw [lpL hco, lpL hru]
        exact co_all h P F G C y0 Y k p' (i + 1) u' n n' a b2 c 0 (nI c) (f_X6_carryOut v c a b2).2 s' rd' (by omega) c2 (by omega) v3 v2 (by omega) (by omega) hgd' o3 o4
end RUN
