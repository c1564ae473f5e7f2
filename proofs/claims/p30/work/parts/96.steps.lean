/-! part 96: what the law does to its arrays is what the chamber does -/
theorem CH_of {v : SetV} {s : Nat → Int32} {n r : Nat} (h1 : eqS v s (s 1)) (h2 : GS s) (h3 : s 0 = nI n) (h4 : n ≤ 8) (h5 : s 2 = nI r) (h6 : r ≤ 4) : CH v s n r := by
  obtain ⟨n', r', c, hN, hL, hW, hR, hc, hc1, hc2⟩ := h2
  have e1 : n' = n := (nI_eq (by have := hN.2.1; omega) (by omega)).mp (hN.1.symm.trans h3)
  have e2 : r' = r := (nI_eq (by have := hN.2.2.2; omega) (by omega)).mp (hN.2.2.1.symm.trans h5)
  subst e1; subst e2
  exact ⟨h1, hN, hL, hW, hR, c, hc, hc1, hc2⟩
abbrev OpF : Type := Int32 ⊕ (Int32 × (Int32 × SetV × (Int32 × Int32) × SetV × SetV × SetV × SetV))
theorem T_ok {F : OpF} {G : Int32 × (Int32 × Int32 × (Nat → Int32) × (Nat → Int32))} {cod : Int32 → Int32} {y0 : Int32} {s y : Nat → Int32} (h : opO F G cod y0 s y) {r0 p0 : Int32} {s' p1 : Nat → Int32} (hG : G = (r0, (p0, 0, s', p1))) : ∃ u, F = .inr (r0, (1, u)) ∧ eqS u.1 s' (s' 1) ∧ GS s' ∧ ring u.2.1 u.2.2.1 u.2.2.2.1 u.2.2.2.2.1 u.2.2.2.2.2 p0 p1 := by
  subst hG
  rcases h with ⟨f, e1, e2, e3, e4⟩ | ⟨r, u, p, e1, e4, e5⟩
  · have e := congrArg (fun z : Int32 × (Int32 × Int32 × (Nat → Int32) × (Nat → Int32)) => z.2.2.1) e4
    have e : (0 : Int32) = cod f := e
    rw [← e] at e3; exact absurd e3 (by decide)
  · obtain ⟨p0', s'', p1'⟩ := p
    cases e4
    exact ⟨u, e1, e5⟩
theorem T_no {F : OpF} {G : Int32 × (Int32 × Int32 × (Nat → Int32) × (Nat → Int32))} {cod : Int32 → Int32} {y0 : Int32} {s y : Nat → Int32} (h : opO F G cod y0 s y) {k : Int32} (hG : G = (0, (y0, k, s, y))) (hk : ¬ k = 0) : ∃ f, F = .inl f ∧ cod f = k := by
  subst hG
  rcases h with ⟨f, e1, e2, e3, e4⟩ | ⟨r, u, p, e1, e4, e5⟩
  · exact ⟨f, e1, (congrArg (fun z : Int32 × (Int32 × Int32 × (Nat → Int32) × (Nat → Int32)) => z.2.2.1) e4).symm⟩
  · have e : k = 0 := congrArg (fun z : Int32 × (Int32 × Int32 × (Nat → Int32) × (Nat → Int32)) => z.2.2.1) e4
    exact absurd e hk
theorem low_nI (x : Int32) {d : Nat} (h0 : 0 < d) (hd : d < 2 ^ 31) : ∃ V : Nat, V < d ∧ f_L_low x (nI d) = nI V := by
  obtain ⟨j, hj, e⟩ := pk_andE x (m := 2147483647) 31 (by decide)
  refine ⟨j % d, Nat.mod_lt _ h0, ?_⟩
  unfold f_L_low
  rw [e, pk_rem (by omega) h0 hd]
section STEPS
variable {v s0 s1 s2 s3 : SetV} {z : Int32 × Int32} {y0 st : Int32} {s y : Nat → Int32} {n r : Nat} {ga wa la ra : Nat → Int32}
/-- saved settings are those of some past -/
abbrev rg (u : Int32 × SetV × (Int32 × Int32) × SetV × SetV × SetV × SetV) : Prop := ∃ (y0 : Int32) (y : Nat → Int32), ring u.2.2.1 u.2.2.2.1 u.2.2.2.2.1 u.2.2.2.2.2.1 u.2.2.2.2.2.2 y0 y
theorem n_ne8 {n : Nat} (h : n < 8) : ¬ nI n = 8 := by
  intro e
  have := (nI_eq (a := n) (b := 8) (by omega) (by decide)).mp e
  omega
-- a new member
abbrev sAdd (s : Nat → Int32) (n x : Nat) : Nat → Int32 := upd (upd (upd s (3 + n) (nI x)) (11 + n) (-1)) 0 (nI (n + 1))
theorem T_add (C : CH v s n r) (hr : ring z s0 s1 s2 s3 y0 y) {x : Nat} (hx : x ≤ 50) (hn : n < 8) : ∃ u, wrI (f_X7_add st v z s0 s1 s2 s3 (nI x)) (st, v, z, s0, s1, s2, s3) = (nI n, u) ∧ u.1 = 1 ∧ CH u.2.1 (sAdd s n x) (n + 1) r ∧ rg u := by
  have hN := C.2.1
  have hG : f_X8_add y0 0 s y (nI x) = (nI n, ((f_X8_saves y0 0 s y).1, 0, sAdd s n x, (f_X8_saves y0 0 s y).2)) := by
    unfold f_X8_add
    rw [in_yes (nI_pos' (show x < 2 ^ 31 by omega)) (show nI x ≤ (50 : Int32) from nI_le (b := 50) hx (by decide)), if_neg (by decide), hN.1, if_neg (n_ne8 hn), my_l_eq, c3 (by omega), c11 (by omega), nI_1]
  obtain ⟨u, e1, e2, e3, e4⟩ := T_ok (O_add C.1 C.gs hr st (nI x)) hG
  refine ⟨(1, u), wrI_r e1, rfl, CH_of e2 e3 upd_eq (by omega) ?_ hN.2.2.2, _, _, e4⟩
  show upd (upd (upd s (3 + n) (nI x)) (11 + n) (-1)) 0 (nI (n + 1)) 2 = _
  rw [upd_ne (by decide), upd_ne (by omega), upd_ne (by omega)]; exact hN.2.2.1
theorem AG_add (h : AG ga wa la ra s n r) (hn : n < 8) (hr4 : r ≤ 4) (x : Nat) : AG (upd ga 0 (nI (n + 1))) (upd wa n (nI x)) (upd la n (-1)) ra (sAdd s n x) (n + 1) r := by
  refine ⟨upd_eq, ?_, ?_, fun m hm => ?_, fun m hm => ?_, fun i hi => ?_⟩
  · show _ = upd (upd (upd s (3 + n) (nI x)) (11 + n) (-1)) 0 (nI (n + 1)) 1
    rw [upd_ne (by decide), upd_ne (by decide), upd_ne (by omega), upd_ne (by omega)]; exact h.2.1
  · rw [upd_ne (by decide)]; exact h.2.2.1
  · show _ = upd (upd (upd s (3 + n) (nI x)) (11 + n) (-1)) 0 (nI (n + 1)) (3 + m)
    by_cases e : m = n
    · subst e
      rw [upd_eq, upd_ne (by omega), upd_ne (by omega), upd_eq]
    · rw [upd_ne e, upd_ne (show 3 + m ≠ 0 by omega), upd_ne (show 3 + m ≠ 11 + n by omega), upd_ne (show 3 + m ≠ 3 + n by omega)]; exact h.2.2.2.1 m (by omega)
  · show _ = upd (upd (upd s (3 + n) (nI x)) (11 + n) (-1)) 0 (nI (n + 1)) (11 + m)
    by_cases e : m = n
    · subst e
      rw [upd_eq, upd_ne (by omega), upd_eq]
    · rw [upd_ne e, upd_ne (show 11 + m ≠ 0 by omega), upd_ne (show 11 + m ≠ 11 + n by omega), upd_ne (show 11 + m ≠ 3 + n by omega)]; exact h.2.2.2.2.1 m (by omega)
  · obtain ⟨k, c, h1, h2, h3, h4⟩ := h.2.2.2.2.2 i hi
    refine ⟨k, c, ?_, ?_, h3, h4⟩
    · show upd (upd (upd s (3 + n) (nI x)) (11 + n) (-1)) 0 (nI (n + 1)) (19 + i) = _
      rw [upd_ne (by omega), upd_ne (by omega), upd_ne (by omega)]; exact h1
    · show upd (upd (upd s (3 + n) (nI x)) (11 + n) (-1)) 0 (nI (n + 1)) (23 + i) = _
      rw [upd_ne (by omega), upd_ne (by omega), upd_ne (by omega)]; exact h2
theorem E_add8 (C : CH v s 8 r) (hr : ring z s0 s1 s2 s3 y0 y) {u0 : Int32 × SetV × (Int32 × Int32) × SetV × SetV × SetV × SetV} : wrI (f_X7_add st v z s0 s1 s2 s3 0) u0 = (-2000003, u0) := by
  have hG : f_X8_add y0 0 s y 0 = (0, (y0, 2, s, y)) := by
    unfold f_X8_add
    rw [show f_X8_in 0 0 50 = 1 by decide, if_neg (by decide), C.2.1.1, if_pos (show nI 8 = 8 from rfl)]
  obtain ⟨f, e1, e2⟩ := T_no (O_add C.1 C.gs hr st 0) hG (by decide)
  rw [wrI_l e1]
  rcases k_add e1 with rfl | rfl
  · exact absurd e2 (by decide)
  · rfl
theorem E_add51 (C : CH v s n r) (hr : ring z s0 s1 s2 s3 y0 y) {u0 : Int32 × SetV × (Int32 × Int32) × SetV × SetV × SetV × SetV} : wrI (f_X7_add st v z s0 s1 s2 s3 51) u0 = (-2000002, u0) := by
  have hG : f_X8_add y0 0 s y 51 = (0, (y0, 1, s, y)) := by
    unfold f_X8_add
    rw [show f_X8_in 51 0 50 = 0 by decide, if_pos rfl]
  obtain ⟨f, e1, e2⟩ := T_no (O_add C.1 C.gs hr st 51) hG (by decide)
  rw [wrI_l e1]
  rcases k_add e1 with rfl | rfl
  · rfl
  · exact absurd e2 (by decide)
-- another quota
theorem T_quota (C : CH v s n r) (hr : ring z s0 s1 s2 s3 y0 y) {x : Nat} (h1 : 1 ≤ x) (h2 : x ≤ 400) : ∃ u, wrI (f_X7_setQuota st v z s0 s1 s2 s3 (nI x)) (st, v, z, s0, s1, s2, s3) = (s 1, u) ∧ u.1 = 1 ∧ CH u.2.1 (upd s 1 (nI x)) n r ∧ rg u := by
  have hN := C.2.1
  have hG : f_X8_setQuota y0 0 s y (nI x) = (s 1, ((f_X8_saves y0 0 s y).1, 0, upd s 1 (nI x), (f_X8_saves y0 0 s y).2)) := by
    unfold f_X8_setQuota
    rw [in_yes (show (1 : Int32) ≤ nI x from nI_le (a := 1) h1 (by omega)) (show nI x ≤ (400 : Int32) from nI_le (b := 400) h2 (by decide)), if_neg (by decide), my_l_eq]
  obtain ⟨u, e1, e2, e3, e4⟩ := T_ok (O_setQuota C.1 C.gs hr st (nI x)) hG
  refine ⟨(1, u), wrI_r e1, rfl, CH_of e2 e3 ?_ hN.2.1 ?_ hN.2.2.2, _, _, e4⟩
  · rw [upd_ne (by decide)]; exact hN.1
  · rw [upd_ne (by decide)]; exact hN.2.2.1
theorem AG_quota (h : AG ga wa la ra s n r) (x : Int32) : AG (upd ga 1 x) wa la ra (upd s 1 x) n r := by
  refine ⟨?_, ?_, ?_, fun m hm => ?_, fun m hm => ?_, fun i hi => ?_⟩
  · rw [upd_ne (by decide)]; exact h.1
  · rw [upd_eq, upd_eq]
  · rw [upd_ne (by decide)]; exact h.2.2.1
  · rw [upd_ne (show 3 + m ≠ 1 by omega)]; exact h.2.2.2.1 m hm
  · rw [upd_ne (show 11 + m ≠ 1 by omega)]; exact h.2.2.2.2.1 m hm
  · obtain ⟨k, c, h1, h2, h3, h4⟩ := h.2.2.2.2.2 i hi
    exact ⟨k, c, by rw [upd_ne (by omega)]; exact h1, by rw [upd_ne (by omega)]; exact h2, h3, h4⟩
-- another weight
theorem T_weight (C : CH v s n r) (hr : ring z s0 s1 s2 s3 y0 y) {m x : Nat} (hm : m < n) (hx : x ≤ 50) : ∃ u, wrI (f_X7_setWeight st v z s0 s1 s2 s3 (nI m) (nI x)) (st, v, z, s0, s1, s2, s3) = (nI (wN s m), u) ∧ u.1 = 1 ∧ CH u.2.1 (upd s (3 + m) (nI x)) n r ∧ rg u := by
  have hN := C.2.1
  have h8 := hN.2.1
  have hG : f_X8_setWeight y0 0 s y (nI m) (nI x) = (nI (wN s m), ((f_X8_saves y0 0 s y).1, 0, upd s (3 + m) (nI x), (f_X8_saves y0 0 s y).2)) := by
    unfold f_X8_setWeight
    rw [mem_nI hN (by omega), if_pos hm, if_neg (by decide), in_yes (nI_pos' (show x < 2 ^ 31 by omega)) (show nI x ≤ (50 : Int32) from nI_le (b := 50) hx (by decide)), if_neg (by decide), my_l_eq, c3 (by omega), (wN_eq C.2.2.2.1 hm).1]
  obtain ⟨u, e1, e2, e3, e4⟩ := T_ok (O_setWeight C.1 C.gs hr st (nI m) (nI x)) hG
  refine ⟨(1, u), wrI_r e1, rfl, CH_of e2 e3 ?_ hN.2.1 ?_ hN.2.2.2, _, _, e4⟩
  · rw [upd_ne (by omega)]; exact hN.1
  · rw [upd_ne (by omega)]; exact hN.2.2.1
theorem AG_weight (h : AG ga wa la ra s n r) (h8 : n ≤ 8) {m : Nat} (hm : m < n) (x : Int32) : AG ga (upd wa m x) la ra (upd s (3 + m) x) n r := by
  refine ⟨h.1, ?_, h.2.2.1, fun k hk => ?_, fun k hk => ?_, fun i hi => ?_⟩
  · rw [upd_ne (by omega)]; exact h.2.1
  · by_cases e : k = m
    · subst e; rw [upd_eq, upd_eq]
    · rw [upd_ne e, upd_ne (show 3 + k ≠ 3 + m by omega)]; exact h.2.2.2.1 k hk
  · rw [upd_ne (show 11 + k ≠ 3 + m by omega)]; exact h.2.2.2.2.1 k hk
  · obtain ⟨k, c, h1, h2, h3, h4⟩ := h.2.2.2.2.2 i hi
    exact ⟨k, c, by rw [upd_ne (by omega)]; exact h1, by rw [upd_ne (by omega)]; exact h2, h3, h4⟩
theorem AG_lead (h : AG ga wa la ra s n r) (h8 : n ≤ 8) {m : Nat} (hm : m < n) (x : Int32) : AG ga wa (upd la m x) ra (upd s (11 + m) x) n r := by
  refine ⟨h.1, ?_, h.2.2.1, fun k hk => ?_, fun k hk => ?_, fun i hi => ?_⟩
  · rw [upd_ne (by omega)]; exact h.2.1
  · rw [upd_ne (show 3 + k ≠ 11 + m by omega)]; exact h.2.2.2.1 k hk
  · by_cases e : k = m
    · subst e; rw [upd_eq, upd_eq]
    · rw [upd_ne e, upd_ne (show 11 + k ≠ 11 + m by omega)]; exact h.2.2.2.2.1 k hk
  · obtain ⟨k, c, h1, h2, h3, h4⟩ := h.2.2.2.2.2 i hi
    exact ⟨k, c, by rw [upd_ne (by omega)]; exact h1, by rw [upd_ne (by omega)]; exact h2, h3, h4⟩
-- no member
theorem mem_0 (C : CH v s 0 r) : f_X8_isMember s 0 = 0 := by
  have h := mem_nI C.2.1 (m := 0) (by decide)
  rw [if_neg (Nat.lt_irrefl 0)] at h
  exact h
theorem E_weight0 (C : CH v s 0 r) (hr : ring z s0 s1 s2 s3 y0 y) (x : Int32) {u0 : Int32 × SetV × (Int32 × Int32) × SetV × SetV × SetV × SetV} : wrI (f_X7_setWeight st v z s0 s1 s2 s3 0 x) u0 = (-2000001, u0) := by
  have hG : f_X8_setWeight y0 0 s y 0 x = (0, (y0, 1, s, y)) := by
    unfold f_X8_setWeight
    rw [mem_0 C, if_pos rfl]
  obtain ⟨f, e1, e2⟩ := T_no (O_setWeight C.1 C.gs hr st 0 x) hG (by decide)
  have e2 : f = 1 := e2
  rw [wrI_l e1, e2]; rfl
theorem E_follow0 (C : CH v s 0 r) (hr : ring z s0 s1 s2 s3 y0 y) (x : Int32) {u0 : Int32 × SetV × (Int32 × Int32) × SetV × SetV × SetV × SetV} : wrI (f_X7_follow st v z s0 s1 s2 s3 0 x) u0 = (-2000001, u0) := by
  have hG : f_X8_follow y0 0 s y 0 x = (0, (y0, 1, s, y)) := by
    unfold f_X8_follow
    rw [mem_0 C, if_pos rfl]
  obtain ⟨f, e1, e2⟩ := T_no (O_follow C.1 C.gs hr st 0 x) hG (by decide)
  have e2 : f = 1 := e2
  rw [wrI_l e1, e2]; rfl
theorem E_leave0 (C : CH v s 0 r) (hr : ring z s0 s1 s2 s3 y0 y) {u0 : Int32 × SetV × (Int32 × Int32) × SetV × SetV × SetV × SetV} : wrI (f_X7_leave st v z s0 s1 s2 s3 0) u0 = (-2000001, u0) := by
  have hG : f_X8_leave y0 0 s y 0 = (0, (y0, 1, s, y)) := by
    unfold f_X8_leave
    rw [mem_0 C, if_pos rfl]
  obtain ⟨f, e1, e2⟩ := T_no (O_leave C.1 C.gs hr st 0) hG (by decide)
  rw [wrI_l e1]
  rcases k_leave e1 with rfl | rfl
  · rfl
  · exact absurd e2 (by decide)
-- following and leaving
theorem T_leave (C : CH v s n r) (hr : ring z s0 s1 s2 s3 y0 y) {m : Nat} (hm : m < n) (hp : ¬ s (11 + m) = -1) : ∃ u, wrI (f_X7_leave st v z s0 s1 s2 s3 (nI m)) (st, v, z, s0, s1, s2, s3) = (s (11 + m), u) ∧ u.1 = 1 ∧ CH u.2.1 (upd s (11 + m) (-1)) n r ∧ rg u := by
  have hN := C.2.1
  have h8 := hN.2.1
  have hG : f_X8_leave y0 0 s y (nI m) = (s (11 + m), ((f_X8_saves y0 0 s y).1, 0, upd s (11 + m) (-1), (f_X8_saves y0 0 s y).2)) := by
    unfold f_X8_leave
    rw [mem_nI hN (by omega), if_pos hm, if_neg (by decide), isp_nI hN (by omega), plB_no hp, if_neg (show ¬ false = true by decide), if_pos rfl, my_l_eq, c11 (by omega)]
  obtain ⟨u, e1, e2, e3, e4⟩ := T_ok (O_leave C.1 C.gs hr st (nI m)) hG
  refine ⟨(1, u), wrI_r e1, rfl, CH_of e2 e3 ?_ hN.2.1 ?_ hN.2.2.2, _, _, e4⟩
  · rw [upd_ne (by omega)]; exact hN.1
  · rw [upd_ne (by omega)]; exact hN.2.2.1
theorem E_leave (C : CH v s n r) (hr : ring z s0 s1 s2 s3 y0 y) {m : Nat} (hm : m < n) (hp : s (11 + m) = -1) {u0 : Int32 × SetV × (Int32 × Int32) × SetV × SetV × SetV × SetV} : wrI (f_X7_leave st v z s0 s1 s2 s3 (nI m)) u0 = (-2000003, u0) := by
  have hN := C.2.1
  have h8 := hN.2.1
  have hG : f_X8_leave y0 0 s y (nI m) = (0, (y0, 2, s, y)) := by
    unfold f_X8_leave
    rw [mem_nI hN (by omega), if_pos hm, if_neg (by decide), isp_nI hN (by omega), plB_iff.mpr ⟨hm, hp⟩, if_pos rfl, if_neg (by decide)]
  obtain ⟨f, e1, e2⟩ := T_no (O_leave C.1 C.gs hr st (nI m)) hG (by decide)
  rw [wrI_l e1]
  rcases k_leave e1 with rfl | rfl
  · exact absurd e2 (by decide)
  · rfl
theorem E_followS (C : CH v s n r) (hr : ring z s0 s1 s2 s3 y0 y) {m : Nat} (hm : m < n) {u0 : Int32 × SetV × (Int32 × Int32) × SetV × SetV × SetV × SetV} : wrI (f_X7_follow st v z s0 s1 s2 s3 (nI m) (nI m)) u0 = (-2000002, u0) := by
  have hN := C.2.1
  have h8 := hN.2.1
  have hG : f_X8_follow y0 0 s y (nI m) (nI m) = (0, (y0, 2, s, y)) := by
    unfold f_X8_follow
    rw [mem_nI hN (by omega), if_pos hm, if_neg (by decide), if_neg (by decide), if_pos rfl]
  obtain ⟨f, e1, e2⟩ := T_no (O_follow C.1 C.gs hr st (nI m) (nI m)) hG (by decide)
  have e2 : f = 2 := e2
  rw [wrI_l e1, e2]; rfl
/-- may m follow t: what the law has found behind k members -/
def caB (s : Nat → Int32) (m t k : Nat) : Bool := fd (fun i b => b && !decide (s (11 + i) = nI m)) k (decide (s (11 + m) = -1) && decide (s (11 + t) = -1))
theorem caB_s (s : Nat → Int32) (m t k : Nat) : caB s m t (k + 1) = (caB s m t k && !decide (s (11 + k) = nI m)) := rfl
theorem caB_iff (s : Nat → Int32) (m t n : Nat) : caB s m t n = true ↔ (s (11 + m) = -1 ∧ s (11 + t) = -1) ∧ ∀ i, i < n → ¬ s (11 + i) = nI m := by
  unfold caB
  rw [fd_and, Bool.and_eq_true, decide_eq_true_eq, decide_eq_true_eq]
  exact and_congr Iff.rfl (forall_congr' fun i => forall_congr' fun _ => by rw [Bool.not_eq_true', decide_eq_false_iff_not])
/-- the weight of t's bloc with m: what the law adds up -/
def fsN (s : Nat → Int32) (m t k : Nat) : Nat := fd (fun i c => if decide (i = t) || decide (s (11 + i) = nI t) then c + wN s i else c) k (wN s m)
theorem fsN_s (s : Nat → Int32) (m t k : Nat) : fsN s m t (k + 1) = if decide (k = t) || decide (s (11 + k) = nI t) then fsN s m t k + wN s k else fsN s m t k := rfl
theorem foll_0 (hN : okN s n r) {m : Nat} : (0 < f_X8_followers s (nI m)) ↔ ∃ i, i < n ∧ s (11 + i) = nI m := by
  rw [foll_nI hN]
  have hle := cN_max (fun k => decide (s (11 + k) = nI m)) n
  have h8 := hN.2.1
  show nI 0 < _ ↔ _
  rw [nI_ltI (by decide) (by omega)]
  constructor
  · intro h
    by_cases hx : ∃ i, i < n ∧ s (11 + i) = nI m
    · exact hx
    · have : cN (fun k => decide (s (11 + k) = nI m)) n = 0 := cN_pos.mpr (fun k hk => decide_eq_false (fun e => hx ⟨k, hk, e⟩))
      omega
  · rintro ⟨i, hi, e⟩
    rcases Nat.eq_zero_or_pos (cN (fun k => decide (s (11 + k) = nI m)) n) with z | z
    · have := cN_pos.mp z i hi
      rw [decide_eq_true e] at this; exact absurd this (by decide)
    · exact z
theorem T_follow (C : CH v s n r) (hr : ring z s0 s1 s2 s3 y0 y) {m t : Nat} (hm : m < n) (ht : t < n) (hne : ¬ m = t) (hc : caB s m t n = true) : ∃ u, wrI (f_X7_follow st v z s0 s1 s2 s3 (nI m) (nI t)) (st, v, z, s0, s1, s2, s3) = (nI (fsN s m t n), u) ∧ u.1 = 1 ∧ CH u.2.1 (upd s (11 + m) (nI t)) n r ∧ rg u := by
  have hN := C.2.1
  have h8 := hN.2.1
  obtain ⟨⟨h1, h2⟩, h3⟩ := (caB_iff s m t n).mp hc
  have hG : f_X8_follow y0 0 s y (nI m) (nI t) = (f_X8_blocOf (upd s (11 + m) (nI t)) (nI t), ((f_X8_saves y0 0 s y).1, 0, upd s (11 + m) (nI t), (f_X8_saves y0 0 s y).2)) := by
    unfold f_X8_follow
    rw [mem_nI hN (show m < 2 ^ 31 by omega), if_pos hm, if_neg (by decide), mem_nI hN (show t < 2 ^ 31 by omega), if_pos ht, if_neg (by decide), if_neg (fun e => hne ((nI_eq (by omega) (by omega)).mp e)), isp_nI hN (show m < 100 by omega), plB_iff.mpr ⟨hm, h1⟩, if_pos rfl, if_neg (by decide), if_neg (fun e => by obtain ⟨i, hi, e2⟩ := (foll_0 hN).mp e; exact h3 i hi e2), isp_nI hN (show t < 100 by omega), plB_iff.mpr ⟨ht, h2⟩, if_pos rfl, if_neg (by decide), my_l_eq, c11 (by omega)]
  obtain ⟨u, e1, e2, e3, e4⟩ := T_ok (O_follow C.1 C.gs hr st (nI m) (nI t)) hG
  have C2 : CH u.1 (upd s (11 + m) (nI t)) n r := CH_of e2 e3 (by rw [upd_ne (by omega)]; exact hN.1) h8 (by rw [upd_ne (by omega)]; exact hN.2.2.1) hN.2.2.2
  have hw : ∀ i, wN (upd s (11 + m) (nI t)) i = wN s i ∨ 8 ≤ i := by
    intro i
    rcases Nat.lt_or_ge i 8 with z | z
    · left; unfold wN; rw [upd_ne (by omega)]
    · exact Or.inr z
  have hb : f_X8_blocOf (upd s (11 + m) (nI t)) (nI t) = nI (fsN s m t n) := by
    rw [← hv_bloc C2.2.1 C2.2.2.1 C2.2.2.2.1 ht]
    refine congrArg nI ?_
    have ht2 : upd s (11 + m) (nI t) (11 + t) = -1 := by rw [upd_ne (by omega)]; exact h2
    have hwt : wN (upd s (11 + m) (nI t)) t = wN s t := (hw t).resolve_right (by omega)
    have key : ∀ k, k ≤ n → hvN (upd s (11 + m) (nI t)) t k + (if m < k then 0 else wN s m) + (if t < k then wN s t else 0) = fsN s m t k + wN s t := by
      intro k
      induction k with
      | zero =>
        intro _
        show (if upd s (11 + m) (nI t) (11 + t) = -1 then wN (upd s (11 + m) (nI t)) t else 0) + wN s m + 0 = wN s m + wN s t
        rw [if_pos ht2, hwt]; omega
      | succ k ih =>
        intro hk
        have i1 := ih (by omega)
        have hwk : wN (upd s (11 + m) (nI t)) k = wN s k := (hw k).resolve_right (by omega)
        rw [hvN_s, fsN_s, hwk]
        by_cases ek : k = m
        · subst ek
          have hf : (decide (k = t) || decide (s (11 + k) = nI t)) = false := by
            rw [decide_eq_false hne, h1, decide_eq_false (fun e => ne1 t (by omega) e.symm)]; rfl
          rw [upd_eq, if_pos (decide_eq_true rfl), hf, if_neg (show ¬ (false = true) by decide), if_pos (Nat.lt_succ_self k)]
          rw [if_neg (Nat.lt_irrefl k)] at i1
          by_cases et : t < k
          · rw [if_pos et] at i1; rw [if_pos (by omega)]; omega
          · rw [if_neg et] at i1; rw [if_neg (by omega)]; omega
        · rw [upd_ne (show 11 + k ≠ 11 + m by omega)]
          have hmk : (if m < k + 1 then 0 else wN s m) = (if m < k then 0 else wN s m) := by
            by_cases e : m < k
            · rw [if_pos e, if_pos (by omega)]
            · rw [if_neg e, if_neg (by omega)]
          rw [hmk]
          by_cases et : k = t
          · subst et
            have hd : decide (s (11 + k) = nI k) = false := decide_eq_false (fun e => ne1 k (by omega) (e.symm.trans h2))
            rw [hd, if_neg (show ¬ false = true by decide), decide_eq_true rfl, if_pos (show (true || false) = true from rfl), if_pos (Nat.lt_succ_self k)]
            rw [if_neg (Nat.lt_irrefl k)] at i1
            omega
          · have htk : (if t < k + 1 then wN s t else 0) = (if t < k then wN s t else 0) := by
              by_cases e : t < k
              · rw [if_pos e, if_pos (by omega)]
              · rw [if_neg e, if_neg (by omega)]
            rw [htk, decide_eq_false et, Bool.false_or]
            by_cases e : s (11 + k) = nI t
            · rw [if_pos (decide_eq_true e), if_pos (decide_eq_true e)]; omega
            · have hdn : ¬ (decide (s (11 + k) = nI t) = true) := by rw [decide_eq_true_eq]; exact e
              rw [if_neg hdn, if_neg hdn]; omega
    have := key n (Nat.le_refl n)
    rw [if_pos hm, if_pos ht] at this
    omega
  rw [hb] at e1
  exact ⟨(1, u), wrI_r e1, rfl, C2, _, _, e4⟩
theorem E_follow (C : CH v s n r) (hr : ring z s0 s1 s2 s3 y0 y) {m t : Nat} (hm : m < n) (ht : t < n) (hne : ¬ m = t) (hc : caB s m t n = false) {u0 : Int32 × SetV × (Int32 × Int32) × SetV × SetV × SetV × SetV} : wrI (f_X7_follow st v z s0 s1 s2 s3 (nI m) (nI t)) u0 = (-2000003, u0) := by
  have hN := C.2.1
  have h8 := hN.2.1
  have hn : ¬ ((s (11 + m) = -1 ∧ s (11 + t) = -1) ∧ ∀ i, i < n → ¬ s (11 + i) = nI m) := fun h => by
    rw [(caB_iff s m t n).mpr h] at hc; exact absurd hc (by decide)
  have hG : f_X8_follow y0 0 s y (nI m) (nI t) = (0, (y0, 3, s, y)) := by
    unfold f_X8_follow
    rw [mem_nI hN (show m < 2 ^ 31 by omega), if_pos hm, if_neg (by decide), mem_nI hN (show t < 2 ^ 31 by omega), if_pos ht, if_neg (by decide), if_neg (fun e => hne ((nI_eq (by omega) (by omega)).mp e)), isp_nI hN (show m < 100 by omega), isp_nI hN (show t < 100 by omega)]
    by_cases h1 : s (11 + m) = -1
    · rw [plB_iff.mpr ⟨hm, h1⟩, if_pos rfl, if_neg (by decide)]
      by_cases h3 : 0 < f_X8_followers s (nI m)
      · rw [if_pos h3]
      · rw [if_neg h3]
        have h2 : ¬ s (11 + t) = -1 := fun h2 => hn ⟨⟨h1, h2⟩, fun i hi e => h3 ((foll_0 hN).mpr ⟨i, hi, e⟩)⟩
        rw [plB_no h2, if_neg (show ¬ false = true by decide), if_pos rfl]
    · rw [plB_no h1, if_neg (show ¬ false = true by decide), if_pos rfl]
  obtain ⟨f, e1, e2⟩ := T_no (O_follow C.1 C.gs hr st (nI m) (nI t)) hG (by decide)
  have e2 : f = 3 := e2
  rw [wrI_l e1, e2]; rfl
-- rules
abbrev sRule (s : Nat → Int32) (r k c : Nat) : Nat → Int32 := upd (upd (upd s (19 + r) (nI k)) (23 + r) (nI c)) 2 (nI (r + 1))
theorem val_ok {k c : Nat} (h : (k = 0 ∧ 1 ≤ c ∧ c ≤ 8) ∨ (k = 1 ∧ c ≤ 7) ∨ (k = 2 ∧ 1 ≤ c ∧ c ≤ 255)) : f_X8_in (nI k) 0 2 = 1 ∧ f_X8_isValue (nI k) (nI c) = 1 := by
  have hk : k ≤ 2 := by omega
  refine ⟨in_yes (nI_pos' (by omega)) (show nI k ≤ (2 : Int32) from nI_le (b := 2) hk (by decide)), ?_⟩
  unfold f_X8_isValue
  rcases h with ⟨rfl, h1, h2⟩ | ⟨rfl, h2⟩ | ⟨rfl, h1, h2⟩
  · rw [if_pos (show nI 0 = 0 from rfl), in_yes (show (1 : Int32) ≤ nI c from nI_le (a := 1) h1 (by omega)) (show nI c ≤ (8 : Int32) from nI_le (b := 8) h2 (by decide))]
  · rw [if_neg (show ¬ nI 1 = 0 by decide), if_pos (show nI 1 = 1 from rfl), in_yes (nI_pos' (by omega)) (show nI c ≤ (7 : Int32) from nI_le (b := 7) h2 (by decide))]
  · rw [if_neg (show ¬ nI 2 = 0 by decide), if_neg (show ¬ nI 2 = 1 by decide), in_yes (show (1 : Int32) ≤ nI c from nI_le (a := 1) h1 (by omega)) (show nI c ≤ (255 : Int32) from nI_le (b := 255) h2 (by decide))]
theorem r_up : ∀ r, r < 4 → (nI r + 1 - 1 : Int32) = nI r ∧ ¬ nI r = 4 := by decide
theorem T_rule (C : CH v s n r) (hr : ring z s0 s1 s2 s3 y0 y) {k c : Nat} (h : (k = 0 ∧ 1 ≤ c ∧ c ≤ 8) ∨ (k = 1 ∧ c ≤ 7) ∨ (k = 2 ∧ 1 ≤ c ∧ c ≤ 255)) (hr4 : r < 4) : ∃ u, wrI (f_X7_addRule st v z s0 s1 s2 s3 (nI k) (nI c)) (st, v, z, s0, s1, s2, s3) = (nI r, u) ∧ u.1 = 1 ∧ CH u.2.1 (sRule s r k c) n (r + 1) ∧ rg u := by
  have hN := C.2.1
  have hG : f_X8_addRule y0 0 s y (nI k) (nI c) = (nI r, ((f_X8_saves y0 0 s y).1, 0, sRule s r k c, (f_X8_saves y0 0 s y).2)) := by
    unfold f_X8_addRule
    rw [(val_ok h).1, if_neg (by decide), (val_ok h).2, if_neg (by decide), hN.2.2.1, if_neg (r_up r hr4).2, my_l_eq, c19 (by omega), c23 (by omega), (r_up r hr4).1, nI_1]
  obtain ⟨u, e1, e2, e3, e4⟩ := T_ok (O_addRule C.1 C.gs hr st (nI k) (nI c)) hG
  refine ⟨(1, u), wrI_r e1, rfl, CH_of e2 e3 ?_ hN.2.1 upd_eq (by omega), _, _, e4⟩
  show upd (upd (upd s (19 + r) (nI k)) (23 + r) (nI c)) 2 (nI (r + 1)) 0 = _
  rw [upd_ne (by decide), upd_ne (by omega), upd_ne (by omega)]; exact hN.1
theorem AG_rule (h : AG ga wa la ra s n r) (h8 : n ≤ 8) (hr4 : r < 4) {k c : Nat} (hkc : (k = 0 ∧ 1 ≤ c ∧ c ≤ 8) ∨ (k = 1 ∧ c ≤ 7) ∨ (k = 2 ∧ 1 ≤ c ∧ c ≤ 255)) : AG (upd ga 2 (nI (r + 1))) wa la (upd ra r (nI (1000 * k + c))) (sRule s r k c) n (r + 1) := by
  refine ⟨?_, ?_, upd_eq, fun m hm => ?_, fun m hm => ?_, fun i hi => ?_⟩
  · rw [upd_ne (by decide)]; exact h.1
  · show _ = upd (upd (upd s (19 + r) (nI k)) (23 + r) (nI c)) 2 (nI (r + 1)) 1
    rw [upd_ne (by decide), upd_ne (by decide), upd_ne (by omega), upd_ne (by omega)]; exact h.2.1
  · show _ = upd (upd (upd s (19 + r) (nI k)) (23 + r) (nI c)) 2 (nI (r + 1)) (3 + m)
    rw [upd_ne (by omega), upd_ne (by omega), upd_ne (by omega)]; exact h.2.2.2.1 m hm
  · show _ = upd (upd (upd s (19 + r) (nI k)) (23 + r) (nI c)) 2 (nI (r + 1)) (11 + m)
    rw [upd_ne (by omega), upd_ne (by omega), upd_ne (by omega)]; exact h.2.2.2.2.1 m hm
  · by_cases e : i = r
    · subst e
      refine ⟨k, c, ?_, ?_, upd_eq, hkc⟩
      · show upd (upd (upd s (19 + i) (nI k)) (23 + i) (nI c)) 2 (nI (i + 1)) (19 + i) = _
        rw [upd_ne (by omega), upd_ne (by omega), upd_eq]
      · show upd (upd (upd s (19 + i) (nI k)) (23 + i) (nI c)) 2 (nI (i + 1)) (23 + i) = _
        rw [upd_ne (by omega), upd_eq]
    · obtain ⟨k', c', h1, h2, h3, h4⟩ := h.2.2.2.2.2 i (by omega)
      refine ⟨k', c', ?_, ?_, by rw [upd_ne e]; exact h3, h4⟩
      · show upd (upd (upd s (19 + r) (nI k)) (23 + r) (nI c)) 2 (nI (r + 1)) (19 + i) = _
        rw [upd_ne (by omega), upd_ne (by omega), upd_ne (by omega)]; exact h1
      · show upd (upd (upd s (19 + r) (nI k)) (23 + r) (nI c)) 2 (nI (r + 1)) (23 + i) = _
        rw [upd_ne (by omega), upd_ne (by omega), upd_ne (by omega)]; exact h2
theorem E_rule4 (C : CH v s n 4) (hr : ring z s0 s1 s2 s3 y0 y) {k c : Nat} (h : (k = 0 ∧ 1 ≤ c ∧ c ≤ 8) ∨ (k = 1 ∧ c ≤ 7) ∨ (k = 2 ∧ 1 ≤ c ∧ c ≤ 255)) {u0 : Int32 × SetV × (Int32 × Int32) × SetV × SetV × SetV × SetV} : wrI (f_X7_addRule st v z s0 s1 s2 s3 (nI k) (nI c)) u0 = (-2000003, u0) := by
  have hG : f_X8_addRule y0 0 s y (nI k) (nI c) = (0, (y0, 2, s, y)) := by
    unfold f_X8_addRule
    rw [(val_ok h).1, if_neg (by decide), (val_ok h).2, if_neg (by decide), C.2.1.2.2.1, if_pos (show nI 4 = 4 from rfl)]
  obtain ⟨f, e1, e2⟩ := T_no (O_addRule C.1 C.gs hr st (nI k) (nI c)) hG (by decide)
  rw [wrI_l e1]
  rcases k_addRule e1 with rfl | rfl
  · exact absurd e2 (by decide)
  · rfl
theorem E_rule3 (C : CH v s n r) (hr : ring z s0 s1 s2 s3 y0 y) (x : Int32) {u0 : Int32 × SetV × (Int32 × Int32) × SetV × SetV × SetV × SetV} : wrI (f_X7_addRule st v z s0 s1 s2 s3 3 x) u0 = (-2000002, u0) := by
  have hG : f_X8_addRule y0 0 s y 3 x = (0, (y0, 1, s, y)) := by
    unfold f_X8_addRule
    rw [show f_X8_in 3 0 2 = 0 by decide, if_pos rfl]
  obtain ⟨f, e1, e2⟩ := T_no (O_addRule C.1 C.gs hr st 3 x) hG (by decide)
  rw [wrI_l e1]
  rcases k_addRule e1 with rfl | rfl
  · rfl
  · exact absurd e2 (by decide)
theorem E_drop (C : CH v s n r) (hr : ring z s0 s1 s2 s3 y0 y) {k : Nat} (hk : r ≤ k) (hk2 : k < 2 ^ 31) {u0 : Int32 × SetV × (Int32 × Int32) × SetV × SetV × SetV × SetV} : wrI (f_X7_dropRule st v z s0 s1 s2 s3 (nI k)) u0 = (-2000001, u0) := by
  have hG : f_X8_dropRule y0 0 s y (nI k) = (0, (y0, 1, s, y)) := by
    unfold f_X8_dropRule
    have : f_X8_isRule s (nI k) = 0 := by
      unfold f_X8_isRule
      rw [if_neg (nI_pos hk2), C.2.1.2.2.1, if_pos (nI_le hk hk2)]
    rw [this, if_pos rfl]
  obtain ⟨f, e1, e2⟩ := T_no (O_dropRule C.1 C.gs hr st (nI k)) hG (by decide)
  rw [wrI_l e1, k_dropRule e1]; rfl
/-- a rule goes: those behind it move up, t of them so far -/
def shR1 (f : Nat → Int32) (k t : Nat) : Nat → Int32 := fd (fun t f => upd f (k + t) (f (k + t + 1))) t f
theorem shR1_s (f : Nat → Int32) (k t : Nat) : shR1 f k (t + 1) = upd (shR1 f k t) (k + t) (shR1 f k t (k + t + 1)) := rfl
theorem shR1_at (f : Nat → Int32) (k : Nat) : ∀ t i, shR1 f k t i = f (if k ≤ i ∧ i < k + t then i + 1 else i)
  | 0, i => by
    show f i = _
    rw [if_neg (by omega)]
  | t + 1, i => by
    rw [shR1_s]
    by_cases e : i = k + t
    · subst e
      rw [upd_eq, shR1_at f k t, if_neg (by omega), if_pos (by omega)]
    · rw [upd_ne e, shR1_at f k t]
      by_cases h : k ≤ i ∧ i < k + t
      · rw [if_pos h, if_pos (by omega)]
      · rw [if_neg h, if_neg (by omega)]
def sD1 (s : Nat → Int32) (k t : Nat) : Nat → Int32 := fd (fun t w => upd (upd w (19 + (k + t)) (w (20 + (k + t)))) (23 + (k + t)) (w (24 + (k + t)))) t s
theorem sD1_s (s : Nat → Int32) (k t : Nat) : sD1 s k (t + 1) = upd (upd (sD1 s k t) (19 + (k + t)) (sD1 s k t (20 + (k + t)))) (23 + (k + t)) (sD1 s k t (24 + (k + t))) := rfl
theorem sD1_lo (s : Nat → Int32) (k : Nat) : ∀ t j, j < 19 → sD1 s k t j = s j
  | 0, _, _ => rfl
  | t + 1, j, h => by
    rw [sD1_s, upd_ne (by omega), upd_ne (by omega)]; exact sD1_lo s k t j h
theorem sD1_at (s : Nat → Int32) (k : Nat) : ∀ t, k + t ≤ 3 → ∀ i, i < 4 → sD1 s k t (19 + i) = s (19 + (if k ≤ i ∧ i < k + t then i + 1 else i)) ∧ sD1 s k t (23 + i) = s (23 + (if k ≤ i ∧ i < k + t then i + 1 else i))
  | 0, _, i, _ => by
    rw [if_neg (by omega)]; exact ⟨rfl, rfl⟩
  | t + 1, h, i, hi => by
    have ih := sD1_at s k t (by omega)
    rw [sD1_s]
    by_cases e : i = k + t
    · subst e
      have h1 := (ih (k + t + 1) (by omega))
      rw [if_neg (by omega)] at h1
      rw [if_pos (by omega)]
      refine ⟨?_, ?_⟩
      · rw [upd_ne (by omega), upd_eq, show 20 + (k + t) = 19 + (k + t + 1) by omega]; exact h1.1
      · rw [upd_eq, show 24 + (k + t) = 23 + (k + t + 1) by omega]; exact h1.2
    · have hif : (if k ≤ i ∧ i < k + (t + 1) then i + 1 else i) = (if k ≤ i ∧ i < k + t then i + 1 else i) := by
        by_cases h2 : k ≤ i ∧ i < k + t
        · rw [if_pos h2, if_pos (by omega)]
        · rw [if_neg h2, if_neg (by omega)]
      rw [hif]
      refine ⟨?_, ?_⟩
      · rw [upd_ne (by omega), upd_ne (by omega)]; exact (ih i hi).1
      · rw [upd_ne (by omega), upd_ne (by omega)]; exact (ih i hi).2
abbrev sDrop (s : Nat → Int32) (r k : Nat) : Nat → Int32 := sD1 (upd s 2 (nI (r - 1))) k (r - 1 - k)
theorem T_drop (C : CH v s n r) (hr : ring z s0 s1 s2 s3 y0 y) {k : Nat} (hk : k < r) : ∃ u, wrI (f_X7_dropRule st v z s0 s1 s2 s3 (nI k)) (st, v, z, s0, s1, s2, s3) = (nI (r - 1), u) ∧ u.1 = 1 ∧ CH u.2.1 (sDrop s r k) n (r - 1) ∧ rg u := by
  have hN := C.2.1
  have hr4 := hN.2.2.2
  have h2 : sDrop s r k 2 = nI (r - 1) := by
    show sD1 (upd s 2 (nI (r - 1))) k (r - 1 - k) 2 = _
    rw [sD1_lo _ _ _ _ (by decide), upd_eq]
  have hG : f_X8_dropRule y0 0 s y (nI k) = (nI (r - 1), ((f_X8_saves y0 0 s y).1, 0, sDrop s r k, (f_X8_saves y0 0 s y).2)) := by
    unfold f_X8_dropRule
    have hi : f_X8_isRule s (nI k) = 1 := by
      unfold f_X8_isRule
      rw [if_neg (nI_pos (by omega)), hN.2.2.1, if_neg (nI_ge hk (by omega))]
    rw [hi, if_neg (by decide), my_l_eq, hN.2.2.1, show (nI r - 1 : Int32) = nI (r - 1) from pk_sub (b := 1) (by omega)]
    have hl : lp (fun x : Int32 × (Nat → Int32) => f_X8_dropRule_st x.1 x.2) default (((nI (r - 1) : Int32).toInt - (nI k : Int32).toInt).toNat + 1) (nI k, upd s 2 (nI (r - 1))) = (nI (r - 1), sDrop s r k) := by
      refine (lp_fd (f := fun x : Int32 × (Nat → Int32) => f_X8_dropRule_st x.1 x.2) (fun t (_ : Unit) => (nI (k + t), sD1 (upd s 2 (nI (r - 1))) k t)) (fun _ x => x) (fun _ _ => True) (N := r - 1 - k) (fun _ => (nI (r - 1), sDrop s r k)) (a := ()) trivial ?_ ?_ ?_)
      · intro t _ ht _
        refine ⟨?_, trivial⟩
        show f_X8_dropRule_st (nI (k + t)) (sD1 (upd s 2 (nI (r - 1))) k t) = .inl (nI (k + (t + 1)), sD1 (upd s 2 (nI (r - 1))) k (t + 1))
        unfold f_X8_dropRule_st
        rw [sD1_lo _ _ _ _ (show 2 < 19 by decide), upd_eq, if_neg (nI_ge (show k + t < r - 1 by omega) (by omega)), sD1_s, c19 (show k + t < 100 by omega), c23 (show k + t < 100 by omega), nI_1]
        have e20 : ((19 + nI (k + t)) + 1 : Int32).toNatClampNeg = 20 + (k + t) := by
          show (nI 19 + nI (k + t) + nI 1).toNatClampNeg = _
          rw [nI_add, nI_add, nI_clamp (by omega)]; omega
        have e24 : ((23 + nI (k + t)) + 1 : Int32).toNatClampNeg = 24 + (k + t) := by
          show (nI 23 + nI (k + t) + nI 1).toNatClampNeg = _
          rw [nI_add, nI_add, nI_clamp (by omega)]; omega
        rw [e20, e24, upd_ne (show 24 + (k + t) ≠ 19 + (k + t) by omega)]; rfl
      · intro _ _
        show f_X8_dropRule_st (nI (k + (r - 1 - k))) (sD1 (upd s 2 (nI (r - 1))) k (r - 1 - k)) = .inr (nI (r - 1), sDrop s r k)
        unfold f_X8_dropRule_st
        rw [sD1_lo _ _ _ _ (show 2 < 19 by decide), upd_eq, show k + (r - 1 - k) = r - 1 by omega, if_pos (nI_le (Nat.le_refl _) (by omega))]
      · rw [nI_toInt (by omega), nI_toInt (by omega)]; omega
    rw [hl, my_t2_eq, h2]
  obtain ⟨u, e1, e2, e3, e4⟩ := T_ok (O_dropRule C.1 C.gs hr st (nI k)) hG
  refine ⟨(1, u), wrI_r e1, rfl, CH_of e2 e3 ?_ hN.2.1 h2 (by omega), _, _, e4⟩
  show sD1 (upd s 2 (nI (r - 1))) k (r - 1 - k) 0 = _
  rw [sD1_lo _ _ _ _ (by decide), upd_ne (by decide)]; exact hN.1
theorem AG_drop (h : AG ga wa la ra s n r) (h8 : n ≤ 8) (hr4 : r ≤ 4) {k : Nat} (hk : k < r) : AG (upd ga 2 (nI (r - 1))) wa la (shR1 ra k (r - 1 - k)) (sDrop s r k) n (r - 1) := by
  refine ⟨?_, ?_, upd_eq, fun m hm => ?_, fun m hm => ?_, fun i hi => ?_⟩
  · rw [upd_ne (by decide)]; exact h.1
  · show _ = sD1 (upd s 2 (nI (r - 1))) k (r - 1 - k) 1
    rw [upd_ne (by decide), sD1_lo _ _ _ _ (by decide), upd_ne (by decide)]; exact h.2.1
  · show _ = sD1 (upd s 2 (nI (r - 1))) k (r - 1 - k) (3 + m)
    rw [sD1_lo _ _ _ _ (by omega), upd_ne (by omega)]; exact h.2.2.2.1 m hm
  · show _ = sD1 (upd s 2 (nI (r - 1))) k (r - 1 - k) (11 + m)
    rw [sD1_lo _ _ _ _ (by omega), upd_ne (by omega)]; exact h.2.2.2.2.1 m hm
  · obtain ⟨k', c', h1, h2, h3, h4⟩ := h.2.2.2.2.2 (if k ≤ i ∧ i < k + (r - 1 - k) then i + 1 else i) (by split <;> omega)
    have hd := sD1_at (upd s 2 (nI (r - 1))) k (r - 1 - k) (by omega) i (by omega)
    refine ⟨k', c', ?_, ?_, ?_, h4⟩
    · show sD1 (upd s 2 (nI (r - 1))) k (r - 1 - k) (19 + i) = _
      rw [hd.1, upd_ne (by omega)]; exact h1
    · show sD1 (upd s 2 (nI (r - 1))) k (r - 1 - k) (23 + i) = _
      rw [hd.2, upd_ne (by omega)]; exact h2
    · rw [shR1_at]; exact h3
end STEPS
