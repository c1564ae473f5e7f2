/-! part 91: a command is read by both, or is a fault for both at one place -/
def rF (t u e : Nat) (f g : Int32) (cm : Nat) (b : Nat → Int32) : (Int32 × Int32 × Int32 × Int32) → (Int32 × Int32 × Int32 × Int32) ⊕ (Int32 × (Int32 × Int32 × Int32 × Nat)) := fun x => f_X2_readCommand_st1 (nI t, nI u, f, g, cm, b) (nI e) x.1 x.2.1 x.2.2.1 x.2.2.2
theorem ar_1 {c : Nat} (hc : c = 0 ∨ c = 2 ∨ c = 4 ∨ c = 6) : c < 7 ∧ my_num.getD c 0 = nI 1 := by
  rcases hc with rfl | rfl | rfl | rfl <;> exact ⟨by decide, rfl⟩
theorem ar_2 {c : Nat} (hc : c = 1 ∨ c = 3 ∨ c = 5) : c < 7 ∧ my_num.getD c 0 = nI 2 := by
  rcases hc with rfl | rfl | rfl <;> exact ⟨by decide, rfl⟩
section READ
variable {b y : Nat → Int32} {t : Nat} {f g : Int32} {cm : Nat} {u e c w w' q : Nat} {a a' : Int32}
theorem rc_n (h : txE b y t) (hu : u ≤ t) (he : ltA t y u = nI e) (hn : f_X2_commandNamed (nI t, nI e, f, g, cm, b) (nI u) (nI e) = c) {m : Nat} (hm : m < 3) (hc : c < 7 ∧ my_num.getD c 0 = nI m) :
    f_X2_readCommand (nI t, nI u, f, g, cm, b) = lp (rF t u e f g cm b) default (m + 1) (nI 0, nI e, 0, 0) := by
  have e1 : (((my_num.getD c 0) : Int32).toInt - (0 : Int32).toInt).toNat = m := by
    rw [hc.2, nI_toInt (by omega), i32_c0]; omega
  rw [rc_eq h hu he hn, if_pos hc.1, e1]
  rfl
theorem n12 : ¬ nI 2 ≤ nI 1 := by decide
theorem n11 : nI 1 ≤ nI 1 := by decide
theorem n22 : nI 2 ≤ nI 2 := by decide
theorem n10 : ¬ nI 1 ≤ nI 0 := by decide
theorem n20 : ¬ nI 2 ≤ nI 0 := by decide
theorem pc_E (hE : nmE t y 0 e w) (h : txE b y t) (hu : u ≤ t) (he : ltA t y u = nI e) (hn : f_X2_commandNamed (nI t, nI e, f, g, cm, b) (nI u) (nI e) = c) {m : Nat} (hm : m = 1 ∨ m = 2) (hc : c < 7 ∧ my_num.getD c 0 = nI m) : (f_X2_readCommand (nI t, nI u, f, g, cm, b)).1 = nI w := by
  have hi : ¬ my_num.getD c 0 ≤ nI 0 := by
    rw [hc.2]
    rcases hm with rfl | rfl
    · exact n10
    · exact n20
  obtain ⟨h0, h1⟩ := hE.1 b 0 0 c h
  obtain ⟨z, hz⟩ := st1_E hn hi h0 h1
  rw [rc_n h hu he hn (by omega) hc, lpR (f := rF t u e f g cm b) (x := (nI 0, nI e, 0, 0)) (r := (nI w, z)) hz]
theorem pc_D (hD : nmD t y 0 e w) (hw : w ≤ t) (h : txE b y t) (hu : u ≤ t) (he : ltA t y u = nI e) (hn : f_X2_commandNamed (nI t, nI e, f, g, cm, b) (nI u) (nI e) = c) {m : Nat} (hm : m = 1 ∨ m = 2) (hc : c < 7 ∧ my_num.getD c 0 = nI m) : (f_X2_readCommand (nI t, nI u, f, g, cm, b)).1 = nI w := by
  have ht := h.1
  have hi : ¬ my_num.getD c 0 ≤ nI 0 := by
    rw [hc.2]
    rcases hm with rfl | rfl
    · exact n10
    · exact n20
  obtain ⟨h0, h1⟩ := hD.2.1 b 0 0 c h
  have hz := st1_S hn hi h0 h1
  have hwt : w < t := (nI_ltI (by omega) (by omega)).mp (ia_1 hD.1)
  obtain ⟨d1, d2⟩ := dig_not ht hwt hD.1
  rw [nI_1 0] at hz
  rw [rc_n h hu he hn (by omega) hc, lpL (f := rF t u e f g cm b) (x := (nI 0, nI e, 0, 0)) hz]
  rcases hm with rfl | rfl
  · have h2 := st1_end h hn hw (skips_0 d1) hw (f' := (f_X2_readNumber (nI t, nI e, 0, 0, c, b) (nI 0)).2.2.1) (g' := (f_X2_readNumber (nI t, nI e, 0, 0, c, b) (nI 0)).2.2.2) (i := nI 1) (by rw [hc.2]; exact n11)
    rw [if_pos d2] at h2
    rw [lpR (f := rF t u e f g cm b) (x := (nI 1, nI w, _, _)) h2]
  · obtain ⟨k0, k1⟩ := rnum_0 (f := (f_X2_readNumber (nI t, nI e, 0, 0, c, b) (nI 0)).2.2.1) (g := (f_X2_readNumber (nI t, nI e, 0, 0, c, b) (nI 0)).2.2.2) (cm := c) h hw d1 (nI 1)
    obtain ⟨z, h2⟩ := st1_E hn (i := nI 1) (by rw [hc.2]; exact n12) k0 k1
    rw [lpR (f := rF t u e f g cm b) (x := (nI 1, nI w, _, _)) h2]
theorem pc_1 (hC : nmC t y 0 e w a) (hw : w ≤ t) (hq : f_X8_skips (nI t) (nI w) y = nI q) (hqt : q ≤ t) (h : txE b y t) (hu : u ≤ t) (he : ltA t y u = nI e) (hn : f_X2_commandNamed (nI t, nI e, f, g, cm, b) (nI u) (nI e) = c) (hc : c < 7 ∧ my_num.getD c 0 = nI 1) :
    f_X2_readCommand (nI t, nI u, f, g, cm, b) = if f_X8_isAt (nI t) (nI q) y 59 59 = 0 then (nI q, (nI q, a, 0, c)) else (-1, (nI (q + 1), a, 0, c)) := by
  have h0 := hC.2.1 b 0 0 c h
  rw [if_pos rfl, if_pos rfl] at h0
  have hz := st1_S hn (w := e) (w' := w) (i := nI 0) (f' := 0) (g' := 0) (by rw [hc.2]; exact n10) (by rw [h0]) (by rw [h0])
  rw [nI_1 0, h0] at hz
  have h2 := st1_end h hn hw hq hqt (f' := a) (g' := 0) (i := nI 1) (by rw [hc.2]; exact n11)
  rw [rc_n h hu he hn (by omega) hc, lpL (f := rF t u e f g cm b) (x := (nI 0, nI e, 0, 0)) hz, lpR (f := rF t u e f g cm b) (x := (nI 1, nI w, a, 0)) h2]
theorem pc_2s (hC : nmC t y 0 e w a) (h : txE b y t) (hu : u ≤ t) (he : ltA t y u = nI e) (hn : f_X2_commandNamed (nI t, nI e, f, g, cm, b) (nI u) (nI e) = c) (hc : c < 7 ∧ my_num.getD c 0 = nI 2) :
    f_X2_readCommand (nI t, nI u, f, g, cm, b) = lp (rF t u e f g cm b) default (1 + 1) (nI 1, nI w, a, 0) := by
  have h0 := hC.2.1 b 0 0 c h
  rw [if_pos rfl, if_pos rfl] at h0
  have hz := st1_S hn (w := e) (w' := w) (i := nI 0) (f' := 0) (g' := 0) (by rw [hc.2]; exact n20) (by rw [h0]) (by rw [h0])
  rw [nI_1 0, h0] at hz
  rw [rc_n h hu he hn (by omega) hc, lpL (f := rF t u e f g cm b) (x := (nI 0, nI e, 0, 0)) hz]
theorem pc_2E (hC : nmC t y 0 e w a) (hE : nmE t y 1 w w') (h : txE b y t) (hu : u ≤ t) (he : ltA t y u = nI e) (hn : f_X2_commandNamed (nI t, nI e, f, g, cm, b) (nI u) (nI e) = c) (hc : c < 7 ∧ my_num.getD c 0 = nI 2) :
    (f_X2_readCommand (nI t, nI u, f, g, cm, b)).1 = nI w' := by
  obtain ⟨h0, h1⟩ := hE.1 b a 0 c h
  obtain ⟨z, hz⟩ := st1_E hn (by rw [hc.2]; exact n12) h0 h1
  rw [pc_2s hC h hu he hn hc, lpR (f := rF t u e f g cm b) (x := (nI 1, nI w, a, 0)) hz]
theorem pc_2D (hC : nmC t y 0 e w a) (hD : nmD t y 1 w w') (hw' : w' ≤ t) (h : txE b y t) (hu : u ≤ t) (he : ltA t y u = nI e) (hn : f_X2_commandNamed (nI t, nI e, f, g, cm, b) (nI u) (nI e) = c) (hc : c < 7 ∧ my_num.getD c 0 = nI 2) :
    (f_X2_readCommand (nI t, nI u, f, g, cm, b)).1 = nI w' := by
  have ht := h.1
  obtain ⟨h0, h1⟩ := hD.2.1 b a 0 c h
  have hz := st1_S hn (by rw [hc.2]; exact n12) h0 h1
  have hwt : w' < t := (nI_ltI (by omega) (by omega)).mp (ia_1 hD.1)
  obtain ⟨d1, d2⟩ := dig_not ht hwt hD.1
  rw [nI_1 1] at hz
  have h2 := st1_end h hn hw' (skips_0 d1) hw' (f' := (f_X2_readNumber (nI t, nI w, a, 0, c, b) (nI 1)).2.2.1) (g' := (f_X2_readNumber (nI t, nI w, a, 0, c, b) (nI 1)).2.2.2) (i := nI 2) (by rw [hc.2]; exact n22)
  rw [if_pos d2] at h2
  rw [pc_2s hC h hu he hn hc, lpL (f := rF t u e f g cm b) (x := (nI 1, nI w, a, 0)) hz, lpR (f := rF t u e f g cm b) (x := (nI 2, nI w', _, _)) h2]
theorem pc_2C (hC : nmC t y 0 e w a) (hC2 : nmC t y 1 w w' a') (hw' : w' ≤ t) (hq : f_X8_skips (nI t) (nI w') y = nI q) (hqt : q ≤ t) (h : txE b y t) (hu : u ≤ t) (he : ltA t y u = nI e) (hn : f_X2_commandNamed (nI t, nI e, f, g, cm, b) (nI u) (nI e) = c) (hc : c < 7 ∧ my_num.getD c 0 = nI 2) :
    f_X2_readCommand (nI t, nI u, f, g, cm, b) = if f_X8_isAt (nI t) (nI q) y 59 59 = 0 then (nI q, (nI q, a, a', c)) else (-1, (nI (q + 1), a, a', c)) := by
  have h0 := hC2.2.1 b a 0 c h
  rw [if_neg (by decide), if_neg (by decide)] at h0
  have hz := st1_S hn (w := w) (w' := w') (i := nI 1) (f' := a) (g' := 0) (by rw [hc.2]; exact n12) (by rw [h0]) (by rw [h0])
  rw [nI_1 1, h0] at hz
  have h2 := st1_end h hn hw' hq hqt (f' := a) (g' := a') (i := nI 2) (by rw [hc.2]; exact n22)
  rw [pc_2s hC h hu he hn hc, lpL (f := rF t u e f g cm b) (x := (nI 1, nI w, a, 0)) hz, lpR (f := rF t u e f g cm b) (x := (nI 2, nI w', a, a')) h2]
theorem read_or (ht : t ≤ 150) (hu : u ≤ t) : (∃ p' c a b2, rdC t y u p' c a b2) ∨ ∃ q, rdF t y u q := by
  obtain ⟨e, e1, e2, he, hl⟩ := lett_nI (y := y) hu ht
  have hd : ∀ k, k < e - u → 1 ≤ (y (u + k)).toNatClampNeg - 96 ∧ (y (u + k)).toNatClampNeg - 96 ≤ 26 ∧ y (u + k) = nI (96 + ((y (u + k)).toNatClampNeg - 96)) := by
    intro k hk
    obtain ⟨d, d1, d2, d3⟩ := hl (u + k) (by omega) (by omega)
    rw [d3, nI_clamp (by omega)]
    exact ⟨by omega, by omega, by congr 1; omega⟩
  have hce := fun (b : Nat → Int32) (f g : Int32) (cm : Nat) (h : txE b y t) => cmd_eq (p := nI e) (f := f) (g := g) (cm := cm) (d := fun k => (y (u + k)).toNatClampNeg - 96) h e2 e1 hd
  have hyy : txE y y t := ⟨ht, fun _ _ => rfl⟩
  rcases hce y 0 0 0 hyy with ⟨c, c1, _, c3⟩ | ⟨_, c3⟩
  · have hN : ∀ b f g cm, txE b y t → f_X2_commandNamed (nI t, nI e, f, g, cm, b) (nI u) (nI e) = c := by
      intro b f g cm h
      rcases hce b f g cm h with ⟨c', c1', c2', c3'⟩ | ⟨_, c3'⟩
      · rw [c3] at c3'
        rw [c2']
        exact ((nI_eq (by omega) (by omega)).mp c3').symm
      · rw [c3] at c3'
        exact absurd c3' (ne1 c (by omega))
    obtain ⟨w, a, w1, w2, hnum⟩ := number_or (y := y) ht e2 (k := 0) (by decide)
    have h7 : (c = 0 ∨ c = 2 ∨ c = 4 ∨ c = 6) ∨ (c = 1 ∨ c = 3 ∨ c = 5) := by omega
    have hm : ∃ m, (m = 1 ∨ m = 2) ∧ (c < 7 ∧ my_num.getD c 0 = nI m) := by
      rcases h7 with z | z
      · exact ⟨1, Or.inl rfl, ar_1 z⟩
      · exact ⟨2, Or.inr rfl, ar_2 z⟩
    obtain ⟨m, hm, hcm⟩ := hm
    have rE : (∀ rd, ∃ z, f_X8_number (nI t) (nI e) y rd (nI 0) = (0, (nI w, z))) → ∀ rd, ∃ m z, f_X8_reads (nI t) (nI u) y rd = (0, (nI w, m, z)) := by
      intro hr rd
      obtain ⟨z, hz⟩ := hr rd
      refine ⟨nI c, z, ?_⟩
      have hz : f_X8_number (nI t) (nI e) y rd 0 = (0, (nI w, z)) := hz
      rcases h7 with q | q
      · rw [reads_1 he c3 q, hz, my_b_eq, if_pos rfl]
      · rw [reads_2 he c3 q, hz, my_b_eq, if_pos rfl]
    rcases hnum with hE | hD | hC
    · exact Or.inr ⟨w, w2, fun b f g cm h => pc_E hE h hu he (hN b f g cm h) hm hcm, rE hE.2⟩
    · exact Or.inr ⟨w, w2, fun b f g cm h => pc_D hD w2 h hu he (hN b f g cm h) hm hcm, rE hD.2.2⟩
    · have hR1 : ∀ rd, f_X8_number (nI t) (nI e) y rd 0 = (1, (nI w, upd rd 0 a)) := hC.2.2
      rcases h7 with k7 | k7
      · obtain ⟨q, q1, q2, q3⟩ := skips_nI (y := y) w2 ht
        have hcl := fun b f g cm (h : txE b y t) => pc_1 hC w2 q3 q2 h hu he (hN b f g cm h) (ar_1 k7)
        by_cases z : f_X8_isAt (nI t) (nI q) y 59 59 = 0
        · refine Or.inr ⟨q, q2, fun b f g cm h => ?_, fun rd => ⟨nI c, upd rd 0 a, ?_⟩⟩
          · rw [hcl b f g cm h, if_pos z]
          · rw [reads_1 he c3 k7, hR1, my_b_eq, if_neg (by decide)]
            dsimp only
            rw [q3, my_l_eq, if_pos z]
        · have hqt : q < t := (nI_ltI (by omega) (by omega)).mp (ia_1 z)
          refine Or.inl ⟨q + 1, c, a, 0, by have := hC.1; omega, hqt, c1, fun b f g cm h => ?_, fun rd => ⟨upd rd 0 a, ?_, upd_eq, fun k => by omega⟩⟩
          · rw [hcl b f g cm h, if_neg z]
          · rw [reads_1 he c3 k7, hR1, my_b_eq, if_neg (by decide)]
            dsimp only
            rw [q3, my_l_eq, if_neg z, my_l_eq, nI_1]
      · obtain ⟨w', a', w1', w2', hnum'⟩ := number_or (y := y) ht w2 (k := 1) (by decide)
        have rE' : (∀ rd, ∃ z, f_X8_number (nI t) (nI w) y rd (nI 1) = (0, (nI w', z))) → ∀ rd, ∃ m z, f_X8_reads (nI t) (nI u) y rd = (0, (nI w', m, z)) := by
          intro hr rd
          obtain ⟨z, hz⟩ := hr (upd rd 0 a)
          refine ⟨nI c, z, ?_⟩
          have hz : f_X8_number (nI t) (nI w) y (upd rd 0 a) 1 = (0, (nI w', z)) := hz
          rw [reads_2 he c3 k7, hR1, my_b_eq, if_neg (by decide)]
          dsimp only
          rw [hz, my_b_eq, if_pos rfl]
        rcases hnum' with hE | hD | hC2
        · exact Or.inr ⟨w', w2', fun b f g cm h => pc_2E hC hE h hu he (hN b f g cm h) (ar_2 k7), rE' hE.2⟩
        · exact Or.inr ⟨w', w2', fun b f g cm h => pc_2D hC hD w2' h hu he (hN b f g cm h) (ar_2 k7), rE' hD.2.2⟩
        · have hR2 : ∀ rd, f_X8_number (nI t) (nI w) y rd 1 = (1, (nI w', upd rd 1 a')) := hC2.2.2
          obtain ⟨q, q1, q2, q3⟩ := skips_nI (y := y) w2' ht
          have hcl := fun b f g cm (h : txE b y t) => pc_2C hC hC2 w2' q3 q2 h hu he (hN b f g cm h) (ar_2 k7)
          by_cases z : f_X8_isAt (nI t) (nI q) y 59 59 = 0
          · refine Or.inr ⟨q, q2, fun b f g cm h => ?_, fun rd => ⟨nI c, upd (upd rd 0 a) 1 a', ?_⟩⟩
            · rw [hcl b f g cm h, if_pos z]
            · rw [reads_2 he c3 k7, hR1, my_b_eq, if_neg (by decide)]
              dsimp only
              rw [hR2, my_b_eq, if_neg (by decide)]
              dsimp only
              rw [q3, my_l_eq, if_pos z]
          · have hqt : q < t := (nI_ltI (by omega) (by omega)).mp (ia_1 z)
            refine Or.inl ⟨q + 1, c, a, a', by have := hC.1; have := hC2.1; omega, hqt, c1, fun b f g cm h => ?_, fun rd => ⟨upd (upd rd 0 a) 1 a', ?_, ?_, fun _ => upd_eq⟩⟩
            · rw [hcl b f g cm h, if_neg z]
            · rw [reads_2 he c3 k7, hR1, my_b_eq, if_neg (by decide)]
              dsimp only
              rw [hR2, my_b_eq, if_neg (by decide)]
              dsimp only
              rw [q3, my_l_eq, if_neg z, my_l_eq, nI_1]
            · rw [upd_ne (by decide), upd_eq]
  · refine Or.inr ⟨u, hu, fun b f g cm h => ?_, fun rd => ⟨-1, rd, reads_0 he c3 rd⟩⟩
    rcases hce b f g cm h with ⟨c', c1', _, c3'⟩ | ⟨c2', _⟩
    · rw [c3] at c3'
      exact absurd c3'.symm (ne1 c' (by omega))
    · rw [rc_eq h hu he c2', if_neg (by decide)]
end READ
