/-! part 99h: what the law's start gives -/
abbrev NA : List Cond := flatC (Jvm.Cond.and given_1 narrow_1)
abbrev nmK7 : List String := ["ADD", "WEIGHT", "QUOTA", "FOLLOW", "LEAVE", "RULE", "DROP"]
abbrev dC7 : String := "LPivotChamber$Command;"
abbrev tmC (i : Nat) : Term := .static "PivotChamber$Command" (nmK7.getD i "") dC7
abbrev tFA : Term := .static "PivotChamber" "FACTORIALS" "[I"
abbrev tSM : Term := .static "PivotChamber$1" "$SwitchMap$PivotChamber$Command" "[I"
theorem sn_fa : ∀ j, j < 9 → Cond.eq (.elem tFA (.int (Int32.ofNat j))) (.int (my_fac j)) ∈ NA := by decide +kernel
theorem sn_sm : ∀ j, j < 7 → Cond.eq (.elem tSM (.int (Int32.ofNat j))) (.int (nI (j + 1))) ∈ NA := by decide +kernel
theorem sn_ex : ∀ i, i < 7 → Cond.exactly (tmC i) "PivotChamber$Command" ∈ NA := by decide +kernel
abbrev fC : List (String × String × String × List Int32) := [("java/lang/Enum", "ordinal", "I", [0, 1, 2, 3, 4, 5, 6]), ("PivotChamber$Command", "numbers", "I", my_num)]
theorem sn_f : ∀ q ∈ fC, ∀ i, i < 7 → Cond.eq (.field (tmC i) q.1 q.2.1 q.2.2.1) (.int (q.2.2.2.getD i 0)) ∈ NA := by decide +kernel
theorem sn_d : ∀ i, i < 7 → ∀ j, j < 7 → i ≠ j → (Cond.not (.eq (tmC i) (tmC j)) ∈ NA ∨ Cond.not (.eq (tmC j) (tmC i)) ∈ NA) := by decide +kernel
theorem sn_lay : ∀ i, i < 7 → Cond.laysStatic "PivotChamber$Command" (nmK7.getD i "") dC7 ∈ lw_tbl := by decide +kernel
theorem sn_nf : ∀ q ∈ nestF, Cond.fieldLinkNest q.1 q.2.1 q.2.2.1 q.2.2.2.1 q.2.2.2.2.1 q.2.2.2.2.2 ∈ lw_tbl := by decide +kernel
theorem sn_nm : ∀ q ∈ nestM, Cond.methodLinkNest q.1 q.2.1 q.2.2.1 q.2.2.2 ∈ lw_tbl := by decide +kernel
theorem ty_of {s : State} {args : Array Value} {ty : FieldType} (h : (Cond.arrayClass ty).before args s = true) : ∃ cA, ArrOfT s cA ty ∧ s.vm.findClass ("[" ++ ty.toString) = some cA := by
  obtain ⟨c, k, comp, h1, h2, h3⟩ := Cond.arrayClass_spec h
  exact ⟨c, fun n z => ⟨fun k h => (by cases h), k, h2, comp, h3⟩, h1⟩
theorem va_T_congr {ty : FieldType} {t N : Nat} {f f' : Nat → Value} {A : Nat → Prop} {U : State} {H : Heap} (h : va_T ty t N f A U H) (he : ∀ j, j < N → f j = f' j) : va_T ty t N f' A U H := by
  obtain ⟨cell, h1, h2, h3, h4, h5, h6, h7⟩ := h
  exact ⟨cell, h1, h2, h3, h4, h5, fun j hj => by rw [← he j hj]; exact h6 j hj, h7⟩
theorem st_K {s : State} {b : Addr} (hts : ∀ w ∈ lw_tbl, w.before #[Value.ref b] s = true) : ∃ (D : va_G) (cy : Nat → ClassId), va_K D vwCl (tyv cy) s := by
  obtain ⟨c2, i2, k2⟩ := u_known (C := RX2) (T := TX2) (N := 6) (n := 6) hts inX2 (hts (.instantiable RX2 6) (by decide +kernel))
  obtain ⟨c3, i3, k3⟩ := u_known (C := RX3) (T := TX3) (N := 13) (n := 13) hts inX3 (hts (.instantiable RX3 13) (by decide +kernel))
  obtain ⟨c4, i4, k4⟩ := u_known (C := RX4) (T := TX4) (N := 1) (n := 1) hts inX4 (hts (.instantiable RX4 1) (by decide +kernel))
  obtain ⟨c5, i5, k5⟩ := u_known (C := RX5) (T := TX5) (N := 3) (n := 3) hts inX5 (hts (.instantiable RX5 3) (by decide +kernel))
  obtain ⟨c6, i6, k6⟩ := u_known (C := RX6) (T := TX6) (N := 7) (n := 7) hts inX6 (hts (.instantiable RX6 7) (by decide +kernel))
  obtain ⟨c7, i7, k7⟩ := u_known (C := RX7) (T := TX7) (N := 7) (n := 7) hts inX7 (hts (.instantiable RX7 7) (by decide +kernel))
  obtain ⟨t0, a0, f0⟩ := ty_of (hts (.arrayClass .int) (by decide +kernel))
  obtain ⟨t3, a3, f3⟩ := ty_of (hts (.arrayClass .long) (by decide +kernel))
  obtain ⟨comp, t2, kk, o1, o2, o3, o4, o5⟩ := Cond.arrayOver_spec (hts (.arrayOver (.object "PivotChamber$Setting")) (by decide +kernel))
  refine ⟨(fun k => if k = 0 then c2 else if k = 1 then c3 else if k = 2 then c4 else if k = 3 then c5 else if k = 4 then c6 else c7, fun k => if k = 0 then i2 else if k = 1 then i3 else if k = 2 then i4 else if k = 3 then i5 else if k = 4 then i6 else i7), fun k => if k = 0 then t0 else if k = 1 then t3 else t2, ?_, ?_⟩
  · intro c q hq
    match c, hq with
    | 0, hq => cases hq; exact k2
    | 1, hq => cases hq; exact k3
    | 2, hq => cases hq; exact k4
    | 3, hq => cases hq; exact k5
    | 4, hq => cases hq; exact k6
    | 5, hq => cases hq; exact k7
    | n + 6, hq => simp [vwCl] at hq
  · intro k q hq
    match k, hq with
    | 0, hq => cases hq; exact ⟨a0, f0⟩
    | 1, hq => cases hq; exact ⟨a3, f3⟩
    | 2, hq => cases hq; exact ⟨fun n z => ⟨fun k h => (by cases h), kk, o3, comp, o4⟩, kk, comp, o3, o4, o1, o5⟩
    | n + 3, hq => simp [tyv] at hq
theorem st_nest {s : State} {b : Addr} (hts : ∀ w ∈ lw_tbl, w.before #[Value.ref b] s = true) : nestOK s := ⟨fun q hq => va_Nw.of rfl (hts _ (sn_nf q hq)), fun q hq => va_Nw.of rfl (hts _ (sn_nm q hq))⟩
theorem st_thr {s : State} {b : Addr} (hts : ∀ w ∈ lw_tbl, w.before #[Value.ref b] s = true) : my_thr s := ⟨⟨va_Nw.of rfl (hts (.declares (Bundle.initS "java/lang/RuntimeException")) (by decide +kernel)), va_Nw.of rfl (hts (.declares (Bundle.initS "java/lang/Exception")) (by decide +kernel)), va_Nw.of rfl (hts (.declares (Bundle.initS Bundle.tN)) (by decide +kernel))⟩, va_Nw.of rfl (hts (.castable "java/lang/IndexOutOfBoundsException" "java/lang/IndexOutOfBoundsException") (by decide +kernel)), va_Nw.of rfl (hts (.castable "java/lang/IllegalArgumentException" "java/lang/IllegalArgumentException") (by decide +kernel)), va_Nw.of rfl (hts (.castable "java/lang/IllegalStateException" "java/lang/IllegalStateException") (by decide +kernel))⟩
theorem st_AO {s : State} {b : Addr} (hts : ∀ w ∈ lw_tbl, w.before #[Value.ref b] s = true) : va_AO "PivotChamber$Setting" s := va_AO.of (hts (.arrayOver (.object "PivotChamber$Setting")) (by decide +kernel))
theorem st_nc {s : State} {b : Addr} (hn : ∀ w ∈ NA, w.before #[Value.ref b] s = true) : ncOK s := ⟨va_Nc.of (hn _ (show Cond.not (.castable "java/lang/IllegalArgumentException" "java/lang/IndexOutOfBoundsException") ∈ NA by decide +kernel)), va_Nc.of (hn _ (show Cond.not (.castable "java/lang/IllegalStateException" "java/lang/IndexOutOfBoundsException") ∈ NA by decide +kernel)), va_Nc.of (hn _ (show Cond.not (.castable "java/lang/IllegalStateException" "java/lang/IllegalArgumentException") ∈ NA by decide +kernel))⟩
theorem st_str {s : State} {b : Addr} (hts : ∀ w ∈ lw_tbl, w.before #[Value.ref b] s = true) (hn : ∀ w ∈ NA, w.before #[Value.ref b] s = true) (k : Nat) (tx : String) (h1 : Cond.exactly (.string "PivotChamber" k) "java/lang/String" ∈ NA) (h2 : Cond.stringRef "PivotChamber" k tx ∈ lw_tbl) : ∃ a, vk_R "PivotChamber" k tx a s := by
  obtain ⟨a, c, cA, kA, q1, q2⟩ := Cond.exactly_spec (args := #[Value.ref b]) (first := s) (o := none) (s := s) (idx := []) (t := .string "PivotChamber" k) (cls := "java/lang/String") (hn _ h1)
  exact ⟨a, vk_R.of (hts _ h2) q1⟩
theorem start_K {s : State} {b : Addr} (hts : ∀ w ∈ lw_tbl, w.before #[Value.ref b] s = true) (hn : ∀ w ∈ NA, w.before #[Value.ref b] s = true) : ∃ (D : va_G) (cy : Nat → ClassId) (g : Nat → Nat), myK D cy g s.heap.size s s.heap ∧ ncOK s ∧ va_AO "PivotChamber$Setting" s := by
  obtain ⟨D, cy, hK⟩ := st_K hts
  have hA : ∀ a : Nat, a < s.heap.size → ¬ (fun q : Nat => s.heap.size ≤ q) a := fun a h h2 => Nat.not_le.mpr h h2
  obtain ⟨e0, hs0⟩ := st_str hts hn 240 "there is no such member or rule" (by decide +kernel) (by decide +kernel)
  obtain ⟨e1, hs1⟩ := st_str hts hn 247 "an argument is out of range" (by decide +kernel) (by decide +kernel)
  obtain ⟨e2, hs2⟩ := st_str hts hn 252 "the chamber does not allow that now" (by decide +kernel) (by decide +kernel)
  obtain ⟨ad, hEn, had⟩ := va_Enof2 (args := #[Value.ref b]) (s := s) (E := "PivotChamber$Command") (d := dC7) (nm := nmK7) (F := fC) (A := fun q : Nat => s.heap.size ≤ q) (fun i hi => hts _ (sn_lay i hi)) (hts (.initialized "PivotChamber$Command") (by decide +kernel)) (fun i hi => hn _ (sn_ex i hi)) (fun q hq i hi => hn _ (sn_f q hq i hi)) (fun i j hi hj hij => (sn_d i hi j hj hij).elim (fun h => Or.inl (hn _ h)) (fun h => Or.inr (hn _ h))) hA
  obtain ⟨tF, hF1, hF2⟩ := va_Tof (args := #[Value.ref b]) (s := s) (tm := tFA) (ty := .int) (N := 9) (f := fun j => .int (my_fac j)) (A := fun q : Nat => s.heap.size ≤ q) (by decide) (hn _ (show Cond.arrayOf tFA .int ∈ NA by decide +kernel)) (va_eqt (hn _ (show Cond.eq (.length tFA) (.int (Int32.ofNat 9)) ∈ NA by decide +kernel))) (fun j hj => va_eqt (hn _ (sn_fa j hj))) hA
  obtain ⟨tS, hS1, hS2⟩ := va_Tof (args := #[Value.ref b]) (s := s) (tm := tSM) (ty := .int) (N := 7) (f := fun j => .int (nI (j + 1))) (A := fun q : Nat => s.heap.size ≤ q) (by decide) (hn _ (show Cond.arrayOf tSM .int ∈ NA by decide +kernel)) (va_eqt (hn _ (show Cond.eq (.length tSM) (.int (Int32.ofNat 7)) ∈ NA by decide +kernel))) (fun j hj => va_eqt (hn _ (sn_sm j hj))) hA
  obtain ⟨g, hg⟩ : ∃ g : Nat → Nat, g = fun n => if n = 0 then tF else if n = 1 then tS else if n < 20 then ad (n - 10) else if n = 40 then e0 else if n = 41 then e1 else e2 := ⟨_, rfl⟩
  have g0 : g 0 = tF := by rw [hg]; rfl
  have g1 : g 1 = tS := by rw [hg]; rfl
  have g40 : g 40 = e0 := by rw [hg]; rfl
  have g41 : g 41 = e1 := by rw [hg]; rfl
  have g42 : g 42 = e2 := by rw [hg]; rfl
  have g10 : ∀ j, j < 7 → g (10 + j) = ad j := by
    intro j hj
    rw [hg]
    show (if 10 + j = 0 then tF else if 10 + j = 1 then tS else if 10 + j < 20 then ad (10 + j - 10) else _) = ad j
    rw [if_neg (by omega), if_neg (by omega), if_pos (by omega), Nat.add_sub_cancel_left]
  refine ⟨D, cy, g, ⟨hK, ⟨st_nest hts, ⟨by rw [g40]; exact hs0, by rw [g41]; exact hs1, by rw [g42]; exact hs2⟩, st_thr hts⟩, ?_⟩, st_nc hn, st_AO hts⟩
  refine ⟨⟨?_, ?_⟩, ⟨?_, ?_⟩, trivial, ?_, trivial, trivial, trivial, trivial, ?_, ?_⟩
  · rw [g0]; exact va_Zref (hts (.laysStatic "PivotChamber" "FACTORIALS" "[I") (by decide +kernel)) (hts (.initialized "PivotChamber") (by decide +kernel)) hF1 hA
  · rw [g0]; exact hF2
  · rw [g1]; exact va_Zref (hts (.laysStatic "PivotChamber$1" "$SwitchMap$PivotChamber$Command" "[I") (by decide +kernel)) (hts (.initialized "PivotChamber$1") (by decide +kernel)) hS1 hA
  · rw [g1]; exact hS2
  · refine ⟨fun i hi => ?_, fun i j hi hj e => hEn.2 i j hi hj (by rw [← g10 i hi, ← g10 j hj]; exact e)⟩
    obtain ⟨h1, h2, h3⟩ := hEn.1 i hi
    refine ⟨?_, ?_, fun q hq => ?_⟩
    · show va_Z _ _ _ (.ref (g (10 + i))) _ _ _
      rw [g10 i hi]; exact h1
    · show va_O _ (g (10 + i)) _ _ _
      rw [g10 i hi]; exact h2
    · show va_OF _ _ _ _ (g (10 + i)) _ _ _
      rw [g10 i hi]; exact h3 q hq
  · exact vx_Zqof (hts (.laysStatic Bundle.tN "UNASSIGNED_STACK" Bundle.steD) (by decide +kernel)) (hts (.initialized Bundle.tN) (by decide +kernel)) (hn _ (show Cond.isRef (.static Bundle.tN "UNASSIGNED_STACK" Bundle.steD) ∈ NA by decide +kernel)) hA
  · exact vx_Zqof (hts (.laysStatic Bundle.tN "SUPPRESSED_SENTINEL" Bundle.listD) (by decide +kernel)) (hts (.initialized Bundle.tN) (by decide +kernel)) (hn _ (show Cond.isRef (.static Bundle.tN "SUPPRESSED_SENTINEL" Bundle.listD) ∈ NA by decide +kernel)) hA
