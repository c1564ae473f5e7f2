/-! THE CLAIM OUT OF ONE WALK OF THE LAW'S BODY. Your part is whole_start (and what it stands on); all else here is the same for every law, but numbers. -/
def R_law : String := "PivotChamberLaw"
def lw_P (b : Addr) (xs : List Int32) (args : Array Value) (s : State) : Prop := args = #[.ref b] ∧ s.IntsAt b xs ∧ xs.length ≤ 260 ∧ (Jvm.Cond.and given_1 narrow_1).before args s = true
/-- what a walk over the start with the record d0 says of its end, said of the start itself -/
theorem lw_closed {s t : State} {o : Outcome} {d0 : Drawn} {L : List Loc} {k n : Nat} (hd0 : s.drawn.sameBut d0 lw_cs) (hv : ∃ v, o = .returned v) (hW : (s.setDrawn d0).WarmedH t.vm) (hs : (s.setDrawn d0).sameButNew ({ t with vm := s.vm } : State) L k n) : State.butDraws s t lw_cs (fun t1 => Framed s o t1 L k n) := by
  have h2 : t.drawn = d0 := congrArg State.drawn hs.1
  refine ⟨⟨hv, hW, State.sameButNew.setDrawn hs s.drawn⟩, ?_, by decide⟩
  rw [h2]
  exact hd0
def lw_Q (_ : Array Value) (s : State) (o : Outcome) (t : State) : Prop := o = .returned (some (.int 1)) ∧ State.butDraws s t lw_cs (fun t1 => Framed s o t1 [] 1200172 5500668)
def lw_Z (below : List Frame) (a : Array Value) (s : State) : State → Prop := fun t => ∃ o, t.status = .running ∧ Ended t below o ∧ lw_Q a s o t
/-- the law's own end, with 1 on the stack, nothing written that was there before, its room as the claim has it; d0: the record of draws at this point (at the entry s.drawn: begin with 'refine W.base ?_' and 'have hd0 := Drawn.sameBut.refl s.drawn lw_cs') -/
theorem lw_ret {p : Program} {l : Launch} {e : Env} {s : State} {m : MethodId} {below : List Frame} {meth : Method} {c : Code} {b : Nat} {d0 : Drawn} (hd0 : s.drawn.sameBut d0 lw_cs) (hx : p.tables.exec = Jvm.exec) (hb : c.code = code) (hr : meth.sig.returnType = ret) (hlocks : meth.locks = false) {pc : Nat} {H : Heap} {ls : Array Slot} (hdg : decode code pc = .ok (.ireturn, 1)) : W p l e room_1 (s.setDrawn d0) m #[Value.ref b] below meth c H [] 1200172 5500668 (lw_Z below #[Value.ref b] s) (F0 m pc ls [.int 1]) := by
  intro T hT X
  obtain ⟨fs, hret, hrun, hended, hW, hframe⟩ := X.leave (v := some (.int 1)) (hlocks := hlocks) (fun h => by rw [hr] at h; cases h)
  have hmeth' : T.vm.method? m = some meth := X.method'
  refine ⟨T.setFrames fs, ?_, .returned (some (.int 1)), hrun, hended, rfl, lw_closed hd0 ⟨_, rfl⟩ hW hframe⟩
  jvm_step X.here [X.here.top, hx, hb, hdg, hmeth', hr, ret, narrow_b1]
  (try refine ⟨rfl, ?_⟩); (try refine ⟨rfl, ?_⟩)
  first | (intro acts; rw [hret _ acts rfl rfl rfl]) | rw [hret _ _ rfl rfl rfl]
  exact Steps.refl _
/-- what holds at the law's entry: the machine, the code, the tables' words (any of lw_tbl by 'hts w (by decide +kernel)'), the script of L ints xs at the cell b, what the Statement gives of the start (any of its parts by flat_of_before) -/
def lw_At (p : Program) (s : State) (m : MethodId) (meth : Method) (c : Code) (b L : Nat) (xs : Nat → Int32) : Prop :=
  p.tables.exec = Jvm.exec ∧ c.code = code ∧ meth.sig.returnType = ret ∧ c.maxLocals = 9 ∧ s.vm.findClass R_law = some m.cls ∧ (∀ w ∈ lw_tbl, w.before #[Value.ref b] s = true) ∧ va_X b L xs s s.heap ∧ b < s.heap.size ∧ meth.locks = false ∧ (Jvm.Cond.and given_1 narrow_1).before #[Value.ref b] s = true
theorem init_eqS : eqS set0 (upd zF 1 1) (upd zF 1 1 1) := by
  have z : ∀ j, ¬ j = 1 → upd zF 1 1 j = 0 := fun j h => upd_ne h
  exact ⟨(z 0 (by decide)).symm, upd_eq.symm, (z 2 (by decide)).symm, fun j _ => (z (3 + j) (by omega)).symm, fun j _ => (z (11 + j) (by omega)).symm, fun j _ => (z (19 + j) (by omega)).symm, fun j _ => (z (23 + j) (by omega)).symm⟩
theorem init_GS : GS (upd zF 1 1) := by
  have z : ∀ j, ¬ j = 1 → upd zF 1 1 j = 0 := fun j h => upd_ne h
  exact ⟨0, 0, 1, ⟨z 0 (by decide), by decide, z 2 (by decide), by decide⟩, fun m hm => absurd hm (Nat.not_lt_zero m), fun m hm => absurd hm (Nat.not_lt_zero m), fun m hm => absurd hm (Nat.not_lt_zero m), upd_eq, by decide, by decide⟩
theorem init_ring : ring (0, 0) set0 set0 set0 set0 0 zF := ⟨0, 0, by decide, by decide, rfl, rfl, fun i hi => absurd hi (Nat.not_lt_zero i)⟩
theorem init_F : soF set0 txt0 (upd zF 1 1) zF zF zF (upd zF 1 1) 0 0 := by
  have z : ∀ j, ¬ j = 1 → upd zF 1 1 j = 0 := fun j h => upd_ne h
  exact ⟨CH_of init_eqS init_GS (z 0 (by decide)) (by decide) (z 2 (by decide)) (by decide), ⟨z 0 (by decide), rfl, z 2 (by decide), fun m hm => absurd hm (Nat.not_lt_zero m), fun m hm => absurd hm (Nat.not_lt_zero m), fun i hi => absurd hi (Nat.not_lt_zero i)⟩, rfl, fun j => (show ¬ (8 : Int32) ≤ 0 by decide)⟩
set_option maxHeartbeats 4000000 in
set_option maxRecDepth 100000 in
theorem whole_start {p : Program} {e : Env} {s : State} {m : MethodId} {below : List Frame} {meth : Method} {c : Code} (l : Launch) (hflags : l.flags = flags0) {b L : Nat} {xs : Nat → Int32} (hL : L ≤ 260) (C0 : lw_At p s m meth c b L xs) : W p l e room_1 s m #[Value.ref b] below meth c s.heap [] 0 0 (lw_Z below #[Value.ref b] s) (entryFrame m ([Value.ref b] : List Value).toArray 9) := by
  obtain ⟨hx, hb, hr, hml, hown, hts, hX, hbl, hlocks, hgv⟩ := C0
  have hA : ∀ q : Nat, s.heap.size ≤ q → (fun q : Nat => s.heap.size ≤ q) q := fun _ h => h
  have hn : ∀ w ∈ NA, w.before #[Value.ref b] s = true := flat_of_before _ hgv
  obtain ⟨D, cy, g, hK0, hNc, hAO⟩ := start_K hts hn
  have hl0 : l.stackTraces = false := by unfold Launch.stackTraces; rw [hflags]; decide
  have htsL : ∀ w ∈ wsL_law, w.before #[Value.ref b] s = true := fun w h => hts w (wsL_law_in w h)
  have hK : ctK D cy s := ⟨hK0.1, hK0.2.1.1, hAO⟩
  have C : LC p l s m meth c b L xs D cy g := ⟨hl0, hx, hb, hr, hml, hown, htsL, hX, hbl, hlocks, hK0, hNc, hL⟩
  have hAB : ∀ q, (fun q : Nat => s.heap.size ≤ q) q → s.heap.size ≤ q := fun _ h => h
  have S := my_fix hx hb hml hown htsL
  have hS : va_S (fun q : Nat => s.heap.size ≤ q) s.heap s.heap [] := va_S.rf
  have hP : va_P D vwCl [] s.heap := fun k q h => by simp at h
  have hD : va_D (fun q : Nat => s.heap.size ≤ q) [] := ⟨fun i j p q h => by simp at h, fun k q h => by simp at h⟩
  have hl := lv_entry ([.ref b]) (n := 9) (Nat.le_of_ble_eq_true rfl)
  rw [lg_entry_eq]
  generalize (lg_sl ([.ref b]) ++ List.replicate (9 - (lg_sl ([.ref b])).length) Slot.unset).toArray = ls at hl ⊢
  have hl : lv_has ls 9 [(0, .ref b)] := hl
  refine va_new (ci := 5) (fs := [.null, .null, .int 0, .null, .null, .null, .null]) (C := RX7) (T := TX7) (N := 7) hx hb hts inX7 tyX7 tyX7_ok hown (hts (.classLink RL 10 RX7) (by decide +kernel)) (hts (.instantiable RX7 7) (by decide +kernel)) (hts (.initialized RX7) (by decide +kernel)) hK.1 hP hD hS hA rfl (fun j hj => by rcases (show j = 0 ∨ j = 1 ∨ j = 2 ∨ j = 3 ∨ j = 4 ∨ j = 5 ∨ j = 6 by omega) with rfl | rfl | rfl | rfl | rfl | rfl | rfl <;> rfl) (Nat.le_of_ble_eq_true rfl) (Nat.le_of_ble_eq_true rfl) dL_law_0 (fun q1 H hP hD hS => ?_)
  have hP : va_P D vwCl [(q1, .inr (5, [.null, .null, .int 0, .null, .null, .null, .null]))] H := hP
  have hD : va_D (fun q : Nat => s.heap.size ≤ q) [(q1, .inr (5, [.null, .null, .int 0, .null, .null, .null, .null]))] := hD
  refine W.widen (k := 1) (n := 7) (Nat.le_of_ble_eq_true rfl) (Nat.le_of_ble_eq_true rfl) ?_
  refine lv_dup hx hb dL_law_3 rfl ?_
  have hPc := hP.sub (ws' := [(q1, .inr (5, [.null, .null, .int 0, .null, .null, .null, .null]))]) [0] rfl
  have hDc := hD.sub (ws' := [(q1, .inr (5, [.null, .null, .int 0, .null, .null, .null, .null]))]) [0] (by decide) rfl
  have hFc := va_free (wc := [(q1, .inr (5, [.null, .null, .int 0, .null, .null, .null, .null]))]) hD hS hA [0] rfl
  refine va_callv (va_runI (As := []) (rest := [.ref q1]) ⟨hx, hb, hml, hown, htsL⟩ (c_X7_init l D cy g q1 H.size) (cwI 0 htsL gL_law_X7_init rfl rfl rfl (hts (.initialized RX7) (by decide +kernel)) (hts (.methodLink RL 157 yX7_init) (by decide +kernel)) (hts (.instanceMethod yX7_init) (by decide +kernel)) rfl (by decide +kernel) ⟨Nat.le_of_ble_eq_true rfl, Nat.le_of_ble_eq_true rfl⟩) ⟨ctP_blind, fun U hU hW => ⟨rfl, by rw [hU], by rw [hU]; exact hPc, hK.warm hW, hDc.weaken (fun _ _ _ _ => trivial)⟩⟩ rfl rfl hl.1 rfl (lv_room (Nat.le_of_ble_eq_true rfl)) dL_law_4 ⟨Nat.le_of_ble_eq_true rfl, Nat.le_of_ble_eq_true rfl⟩) hS (fun q _ h => hFc q h) hFc (fun u t H1 locs ht hvm hw hB hz1 hk1 hS => ?_)
  obtain ⟨A, q⟩ := u
  obtain ⟨hP1, hD1⟩ := hB
  have hP1 : va_P D vwCl (chW0 cy g q1 A q) t.heap := hP1
  have hD1 : va_D _ (chW0 cy g q1 A q) := hD1
  rw [ht] at hP1
  obtain ⟨hP, hD⟩ := va_join (wr := []) (w1 := (chW0 cy g q1 A q)) hP hD [0] [] rfl rfl (by decide) (by decide) hk1 hFc hP1 hD1
  generalize H1 = H at hP hS ⊢
  have hP : va_P D vwCl (chW0 cy g q1 A q) H := hP
  have hD : va_D (fun q : Nat => s.heap.size ≤ q) (chW0 cy g q1 A q) := hD
  refine W.widen (k := 90) (n := 3597) (Nat.le_of_ble_eq_true rfl) (Nat.le_of_ble_eq_true rfl) ?_
  refine lv_astore_n (lv' := [(1, .ref q1), (0, .ref b)]) hx hb dL_law_7 rfl hl (by decide) rfl (fun ls hl => ?_)
  refine lv_iconst (v := 3) hx hb dL_law_8 (by decide) ?_
  refine va_newa (atype := .int) (a0 := (3, .inl zF)) hx hb (hts (.arrayClass .int) (by decide +kernel)) rfl hK.1 hP hD hS hA (fun _ => rfl) (by decide) (by decide) (by decide) (Nat.le_of_ble_eq_true rfl) (Nat.le_of_ble_eq_true rfl) dL_law_9 (fun gA0 cA H hK9 hP hD hS => ?_)
  obtain rfl := ty_int hK9
  have hP : va_P D vwCl ((chW0 cy g q1 A q) ++ wI cy gA0 3 zF) H := hP
  have hD : va_D (fun q : Nat => s.heap.size ≤ q) ((chW0 cy g q1 A q) ++ wI cy gA0 3 zF) := hD
  refine W.widen (k := 91) (n := 3600) (Nat.le_of_ble_eq_true rfl) (Nat.le_of_ble_eq_true rfl) ?_
  refine lv_astore_n (lv' := [(2, .ref gA0), (1, .ref q1), (0, .ref b)]) hx hb dL_law_11 rfl hl (by decide) rfl (fun ls hl => ?_)
  refine lv_bipush (v := 8) hx hb dL_law_12 (by decide) ?_
  refine va_newa (atype := .int) (a0 := (8, .inl zF)) hx hb (hts (.arrayClass .int) (by decide +kernel)) rfl hK.1 hP hD hS hA (fun _ => rfl) (by decide) (by decide) (by decide) (Nat.le_of_ble_eq_true rfl) (Nat.le_of_ble_eq_true rfl) dL_law_14 (fun wA0 cA H hK9 hP hD hS => ?_)
  obtain rfl := ty_int hK9
  have hP : va_P D vwCl (((chW0 cy g q1 A q) ++ wI cy gA0 3 zF) ++ wI cy wA0 8 zF) H := hP
  have hD : va_D (fun q : Nat => s.heap.size ≤ q) (((chW0 cy g q1 A q) ++ wI cy gA0 3 zF) ++ wI cy wA0 8 zF) := hD
  refine W.widen (k := 92) (n := 3608) (Nat.le_of_ble_eq_true rfl) (Nat.le_of_ble_eq_true rfl) ?_
  refine lv_astore_n (lv' := [(3, .ref wA0), (2, .ref gA0), (1, .ref q1), (0, .ref b)]) hx hb dL_law_16 rfl hl (by decide) rfl (fun ls hl => ?_)
  refine lv_bipush (v := 8) hx hb dL_law_17 (by decide) ?_
  refine va_newa (atype := .int) (a0 := (8, .inl zF)) hx hb (hts (.arrayClass .int) (by decide +kernel)) rfl hK.1 hP hD hS hA (fun _ => rfl) (by decide) (by decide) (by decide) (Nat.le_of_ble_eq_true rfl) (Nat.le_of_ble_eq_true rfl) dL_law_19 (fun lA0 cA H hK9 hP hD hS => ?_)
  obtain rfl := ty_int hK9
  have hP : va_P D vwCl ((((chW0 cy g q1 A q) ++ wI cy gA0 3 zF) ++ wI cy wA0 8 zF) ++ wI cy lA0 8 zF) H := hP
  have hD : va_D (fun q : Nat => s.heap.size ≤ q) ((((chW0 cy g q1 A q) ++ wI cy gA0 3 zF) ++ wI cy wA0 8 zF) ++ wI cy lA0 8 zF) := hD
  refine W.widen (k := 93) (n := 3616) (Nat.le_of_ble_eq_true rfl) (Nat.le_of_ble_eq_true rfl) ?_
  refine lv_astore (lv' := [(4, .ref lA0), (3, .ref wA0), (2, .ref gA0), (1, .ref q1), (0, .ref b)]) hx hb dL_law_21 hl (by decide) rfl (fun ls hl => ?_)
  refine lv_iconst (v := 4) hx hb dL_law_23 (by decide) ?_
  refine va_newa (atype := .int) (a0 := (4, .inl zF)) hx hb (hts (.arrayClass .int) (by decide +kernel)) rfl hK.1 hP hD hS hA (fun _ => rfl) (by decide) (by decide) (by decide) (Nat.le_of_ble_eq_true rfl) (Nat.le_of_ble_eq_true rfl) dL_law_24 (fun rA0 cA H hK9 hP hD hS => ?_)
  obtain rfl := ty_int hK9
  have hP : va_P D vwCl (((((chW0 cy g q1 A q) ++ wI cy gA0 3 zF) ++ wI cy wA0 8 zF) ++ wI cy lA0 8 zF) ++ wI cy rA0 4 zF) H := hP
  have hD : va_D (fun q : Nat => s.heap.size ≤ q) (((((chW0 cy g q1 A q) ++ wI cy gA0 3 zF) ++ wI cy wA0 8 zF) ++ wI cy lA0 8 zF) ++ wI cy rA0 4 zF) := hD
  refine W.widen (k := 94) (n := 3620) (Nat.le_of_ble_eq_true rfl) (Nat.le_of_ble_eq_true rfl) ?_
  refine lv_astore (lv' := [(5, .ref rA0), (4, .ref lA0), (3, .ref wA0), (2, .ref gA0), (1, .ref q1), (0, .ref b)]) hx hb dL_law_26 hl (by decide) rfl (fun ls hl => ?_)
  have hP : va_P D vwCl (List.flatten [(wPCo q1 (A 0) (A 1) (A 2) (A 3) (A 4) (A 5) 1), (wSet cy (A 0) set0), (wPow cy (A 1) pow0), (wSet cy (A 2) set0), (wPow cy (A 3) pow0), (wSav cy q (A 4) (0, 0)), (wSet cy (q 0) set0), (wSet cy (q 1) set0), (wSet cy (q 2) set0), (wSet cy (q 3) set0), (wTxt cy g (A 5) txt0), (wI cy gA0 3 zF), (wI cy wA0 8 zF), (wI cy lA0 8 zF), (wI cy rA0 4 zF)]) H := hP
  have hD : va_D (fun q : Nat => s.heap.size ≤ q) (List.flatten [(wPCo q1 (A 0) (A 1) (A 2) (A 3) (A 4) (A 5) 1), (wSet cy (A 0) set0), (wPow cy (A 1) pow0), (wSet cy (A 2) set0), (wPow cy (A 3) pow0), (wSav cy q (A 4) (0, 0)), (wSet cy (q 0) set0), (wSet cy (q 1) set0), (wSet cy (q 2) set0), (wSet cy (q 3) set0), (wTxt cy g (A 5) txt0), (wI cy gA0 3 zF), (wI cy wA0 8 zF), (wI cy lA0 8 zF), (wI cy rA0 4 zF)]) := hD
  refine lv_aload_n hx hb dL_law_28 rfl (lv_at hl 3 rfl) ?_
  refine lv_iconst (v := 1) hx hb dL_law_29 (by decide) ?_
  refine lv_iconst (v := 1) hx hb dL_law_30 (by decide) ?_
  refine wk_ast hx hb hK0.1 hP hD hS 90 0 (k := 1) (x := 1) rfl rfl (by decide) (by decide) dL_law_31 (fun H locs hP hD hS => ?_)
  have hP : va_P D vwCl (List.flatten [(wPCo q1 (A 0) (A 1) (A 2) (A 3) (A 4) (A 5) 1), (wSet cy (A 0) set0), (wPow cy (A 1) pow0), (wSet cy (A 2) set0), (wPow cy (A 3) pow0), (wSav cy q (A 4) (0, 0)), (wSet cy (q 0) set0), (wSet cy (q 1) set0), (wSet cy (q 2) set0), (wSet cy (q 3) set0), (wTxt cy g (A 5) txt0), (wI cy gA0 3 (upd zF 1 1)), (wI cy wA0 8 zF), (wI cy lA0 8 zF), (wI cy rA0 4 zF)]) H := hP
  have hD : va_D (fun q : Nat => s.heap.size ≤ q) (List.flatten [(wPCo q1 (A 0) (A 1) (A 2) (A 3) (A 4) (A 5) 1), (wSet cy (A 0) set0), (wPow cy (A 1) pow0), (wSet cy (A 2) set0), (wPow cy (A 3) pow0), (wSav cy q (A 4) (0, 0)), (wSet cy (q 0) set0), (wSet cy (q 1) set0), (wSet cy (q 2) set0), (wSet cy (q 3) set0), (wTxt cy g (A 5) txt0), (wI cy gA0 3 (upd zF 1 1)), (wI cy wA0 8 zF), (wI cy lA0 8 zF), (wI cy rA0 4 zF)]) := hD
  refine lv_aload_n hx hb dL_law_32 rfl (lv_at hl 4 rfl) ?_
  refine lv_aload_n hx hb dL_law_33 rfl (lv_at hl 3 rfl) ?_
  refine lv_aload_n hx hb dL_law_34 rfl (lv_at hl 2 rfl) ?_
  refine lv_aload hx hb dL_law_35 (lv_at hl 1 rfl) ?_
  refine lv_aload hx hb dL_law_37 (lv_at hl 0 rfl) ?_
  refine lw_compA (wcs := [(wPCo q1 (A 0) (A 1) (A 2) (A 3) (A 4) (A 5) 1), (wSet cy (A 0) set0), (wPow cy (A 1) pow0), (wTxt cy g (A 5) txt0), (wI cy gA0 3 (upd zF 1 1)), (wI cy wA0 8 zF), (wI cy lA0 8 zF), (wI cy rA0 4 zF)]) (wns := fun u8 => [(wPCo q1 (A 0) (A 1) (A 2) (A 3) (A 4) (A 5) u8.1), (wSet cy (A 0) set0), (wPow cy (A 1) u8.2), (wTxt cy g (A 5) txt0), (wI cy gA0 3 (upd zF 1 1)), (wI cy wA0 8 zF), (wI cy lA0 8 zF), (wI cy rA0 4 zF)]) (W2 := fun u8 => [(wPCo q1 (A 0) (A 1) (A 2) (A 3) (A 4) (A 5) u8.1), (wSet cy (A 0) set0), (wPow cy (A 1) u8.2), (wSet cy (A 2) set0), (wPow cy (A 3) pow0), (wSav cy q (A 4) (0, 0)), (wSet cy (q 0) set0), (wSet cy (q 1) set0), (wSet cy (q 2) set0), (wSet cy (q 3) set0), (wTxt cy g (A 5) txt0), (wI cy gA0 3 (upd zF 1 1)), (wI cy wA0 8 zF), (wI cy lA0 8 zF), (wI cy rA0 4 zF)]) (va_runS (As := [.ref q1, .ref gA0, .ref wA0, .ref lA0, .ref rA0]) (rest := []) S (c_L_isSo l hl0 D cy g s.heap.size H.size q1 (A 0) (A 1) (A 2) (A 3) (A 4) (A 5) gA0 wA0 lA0 rA0 1 set0 pow0 txt0 (upd zF 1 1) zF zF zF hS.1 init_F (pwr_1 _ _)) (va_cwS 5 htsL gL_law_L_isSo rfl rfl rfl hd_L_isSo_S ⟨Nat.le_of_ble_eq_true rfl, Nat.le_of_ble_eq_true rfl⟩) ⟨lzP_blind, my_preZ (wcs := [(wPCo q1 (A 0) (A 1) (A 2) (A 3) (A 4) (A 5) 1), (wSet cy (A 0) set0), (wPow cy (A 1) pow0), (wTxt cy g (A 5) txt0), (wI cy gA0 3 (upd zF 1 1)), (wI cy wA0 8 zF), (wI cy lA0 8 zF), (wI cy rA0 4 zF)]) hK0 hNc hS hAB hP hD [0, 1, 2, 10, 11, 12, 13, 14] (by decide) rfl rfl rfl⟩ rfl rfl hl.1 rfl (lv_room (Nat.le_of_ble_eq_true rfl)) dL_law_39 ⟨Nat.le_of_ble_eq_true rfl, Nat.le_of_ble_eq_true rfl⟩) hS hA hP hD [0, 1, 2, 10, 11, 12, 13, 14] rfl rfl (fun _ => rfl) (fun _ => by simp only [List.map_cons, List.map_nil, adrSet, adrSetE, adrPow, adrPowE, adrTxt, adrTxtE, adrSav, adrSavE, adrPCo, adrI, adrL]) (fun _ => rfl) (fun r9 u9 H locs hw hP hD hS => ?_)
  obtain ⟨st9, w9⟩ := u9
  obtain ⟨rfl, hp9⟩ := hw
  have hP : va_P D vwCl (List.flatten [(wPCo q1 (A 0) (A 1) (A 2) (A 3) (A 4) (A 5) st9), (wSet cy (A 0) set0), (wPow cy (A 1) w9), (wSet cy (A 2) set0), (wPow cy (A 3) pow0), (wSav cy q (A 4) (0, 0)), (wSet cy (q 0) set0), (wSet cy (q 1) set0), (wSet cy (q 2) set0), (wSet cy (q 3) set0), (wTxt cy g (A 5) txt0), (wI cy gA0 3 (upd zF 1 1)), (wI cy wA0 8 zF), (wI cy lA0 8 zF), (wI cy rA0 4 zF)]) H := hP
  have hD : va_D (fun q : Nat => s.heap.size ≤ q) (List.flatten [(wPCo q1 (A 0) (A 1) (A 2) (A 3) (A 4) (A 5) st9), (wSet cy (A 0) set0), (wPow cy (A 1) w9), (wSet cy (A 2) set0), (wPow cy (A 3) pow0), (wSav cy q (A 4) (0, 0)), (wSet cy (q 0) set0), (wSet cy (q 1) set0), (wSet cy (q 2) set0), (wSet cy (q 3) set0), (wTxt cy g (A 5) txt0), (wI cy gA0 3 (upd zF 1 1)), (wI cy wA0 8 zF), (wI cy lA0 8 zF), (wI cy rA0 4 zF)]) := hD
  refine lv_istore (lv' := [(6, .int 1), (5, .ref rA0), (4, .ref lA0), (3, .ref wA0), (2, .ref gA0), (1, .ref q1), (0, .ref b)]) hx hb dL_law_42 hl (by decide) rfl (fun ls hl => ?_)
  refine lw_all C (fun H locs ls cq sq hcq hsq hS => ?_) (Nat.le_of_ble_eq_true rfl) (Nat.le_of_ble_eq_true rfl) ⟨st9, set0, w9, (0, 0), set0, set0, set0, set0, upd zF 1 1, zF, zF, zF, upd zF 1 1, 0, 0, 0, zF, init_F, hp9, init_ring, hP, hD⟩ hS (lv_sub hl [0, 6, 5, 4, 3, 2, 1] rfl)
  refine va_forget (fun q hq => hS.2.2 q hq) ?_
  refine W.widen (k := 1200172) (n := 5500668) (by omega) (by omega) ?_
  exact lw_ret (d0 := s.drawn) (Drawn.sameBut.refl s.drawn lw_cs) hx hb hr hlocks dL_law_298
set_option maxHeartbeats 4000000 in
theorem lw_walk (l : Launch) (hflags : l.flags = flags0) (b : Addr) (xs : List Int32) : MetFree l x (headSpec (Jvm.Cond.code x code maxLocals ret :: tables_1) room_1) (lw_P b xs) (fun _ _ _ _ _ => True) lw_Q := by
  refine MetFree.of_bodyS (code := code) (maxLocals := maxLocals) (ret := ret) (by decide) ?_ ?_
  · intro args s m h hn
    obtain ⟨meth, c, h1, h2, h3, h4, h5, h6, -, -⟩ := Cond.code_spec hn (atoms_spec (ws := Jvm.Cond.code x code maxLocals ret :: tables_1) h _ List.mem_cons_self)
    exact ⟨meth, c, h1, h2, h3, h4, h5, h6⟩
  · intro p e s m args below meth c s₁ B hml0 hP _
    obtain ⟨rfl, hx, hbd, hgv⟩ := hP
    obtain ⟨scr, harrAt, hlist, hof, hsmall⟩ := hx
    obtain ⟨hcb, hkn, -, -⟩ := State.arrayAt?_spec harrAt
    have hown : s.vm.findClass R_law = some m.cls := findClass_of_methodNamed B.named
    have hts0 : ∀ c ∈ (Jvm.Cond.code x code maxLocals ret :: tables_1), c.before #[Value.ref b] s = true := atoms_spec (ws := Jvm.Cond.code x code maxLocals ret :: tables_1) B.pre
    have hts : ∀ w ∈ lw_tbl, w.before #[Value.ref b] s = true := k2_hts_sels lw_privs (fun w hw => hts0 w (List.mem_cons_of_mem _ hw)) lw_privs_ok
    have hml : c.maxLocals = 9 := B.maxLocals_eq (hts0 _ List.mem_cons_self)
    have X₀ : Stand p l e room_1 s m #[Value.ref b] below meth c s₁ [] 0 0 := Stand.of_body B
    have hh0 : s₁.heap = s.heap := by rw [B.state]; rfl
    have hsz : scr.slots.size = xs.length := by rw [← Array.length_toList, hlist, List.length_map]
    have hval : ∀ j : Nat, j < xs.length → scr.slots[j]? = some (.int (xs.getD j 0)) := fun j hj => by
      rw [← Array.getElem?_toList, hlist]
      simp [hj]
    have hbl : b < s.heap.size := (Array.getElem?_eq_some_iff.mp hcb).1
    have hX : va_X b xs.length (fun j => xs.getD j 0) s s.heap := ⟨scr, hcb, hof, hkn, hsz, hval⟩
    have K : W p l e room_1 s m #[Value.ref b] below meth c s₁.heap [] 0 0 (lw_Z below #[Value.ref b] s) (entryFrame m ([Value.ref b] : List Value).toArray 9) := by
      rw [hh0]
      exact whole_start l hflags hbd ⟨B.exec, B.bytes, B.returns, hml, hown, hts, hX, hbl, B.notSynchronized, hgv⟩
    obtain ⟨t, a1, o, b1, b2, b3⟩ := K s₁ rfl X₀
    exact ⟨t, o, a1, b1, b2, b3⟩
theorem lw_pre_spec {args : Array Value} {s : State} (h : (Jvm.Cond.and given_1 narrow_1).before args s = true) (hr : rest_1_c.before args s = true) : ∃ (b : Addr) (xs : List Int32), lw_P b xs args s := by
  have hs := flat_of_before _ h
  have hq := flat_of_before _ hr
  have hc : (Cond.count 1).before args s = true := hs _ (by decide +kernel)
  have harr : (Cond.arrayOf (.arg 0) .int).before args s = true := hs _ (by decide +kernel)
  have hle : (Cond.le (.length (.arg 0)) (.int 260)).before args s = true := hs _ (by decide +kernel)
  have hlen : (Cond.isInt (.length (.arg 0))).before args s = true := hq _ (by decide +kernel)
  have hall : (Cond.all (.arg 0) (.isInt (.elem (.arg 0) (.index 0)))).before args s = true := hq _ (by decide +kernel)
  obtain ⟨b, xs, hb, hx⟩ := State.ints_of_pre rfl harr hlen hall
  have hsm : xs.length < 2 ^ 31 := hx.choose_spec.2.2.2
  have hev : (Term.length (.arg 0)).eval args s none [] s = some (.int xs.length.toInt32) := hx.length_eval hb
  have hv := Cond.le_ints hev (show (Term.int 260).eval args s none [] s = some (.int 260) from rfl)
  have hd : xs.length.toInt32 ≤ 260 := by
    simpa [Cond.before, Cond.holds, hv] using hle
  have hN : xs.length ≤ 260 := (Int32.ofNat_le_ofNat hsm (by decide)).mp (show Int32.ofNat xs.length ≤ Int32.ofNat 260 from hd)
  exact ⟨b, xs, Cond.one_arg hc (show args[0]? = some (.ref b) from hb), hx, hN, h⟩
theorem lw_comes (l : Launch) (hflags : l.flags = flags0) : Comes l x (Jvm.Cond.code x code maxLocals ret :: tables_1) room_1 (fun tb e args s => Calls_1 tb e args s ∧ rest_1 tb e args s ∧ Pre_1 tb e args s)
    (fun _ _ args s o t => lw_Q args s o t) := by
  intro p e ha hc hk s m args below hf hfit hheap happ hpre
  obtain ⟨b, xs, hP⟩ := lw_pre_spec hpre.2.2 hpre.2.1
  obtain ⟨k, o, h1, h2, h3, hQ⟩ := lw_walk l hflags b xs p e ha hc hk s m args below hf ((Spec.applies_iff_loose hf).mp happ).1 hP trivial
  exact ⟨k, o, h1, h2, h3, hQ⟩
theorem lw_frame {s t : State} {o : Outcome} {args : Array Value} (h : State.butDraws s t lw_cs (fun t1 => Framed s o t1 [] 1200172 5500668)) :
    State.butDraws s t [Jvm.Choice.named "NaN.bits"] (fun t1 => Framed s o t1 (fieldLocs frame_1_writes args s ++ arrayLocs frame_1_arrays args s ++ staticLocs frame_1_statics s) 1200172 5500668) := h
theorem lw_limb (L : Cond) (hL : ∀ (args : Array Value) (s t : State), L.after args s (.returned (some (.int 1))) t = true) :
    ArmFor flags0 classFile x code maxLocals ret World_1 tables_1 room_1 Calls_1 rest_1 Pre_1
      (fun tb e a s o t => postC L tb e a s o t ∧ State.butDraws s t [Jvm.Choice.named "NaN.bits"] (fun t1 => Framed s o t1 (fieldLocs frame_1_writes a s ++ arrayLocs frame_1_arrays a s ++ staticLocs frame_1_statics s) 1200172 5500668)) := by
  intro l hflags _ _ p e ha hc hk s m args below hf hfit hheap happ hpre
  obtain ⟨k, o, h1, h2, h3, rfl, hF⟩ := lw_comes l hflags p e ha hc hk s m args below hf hfit hheap happ hpre
  exact ⟨k, _, h1, h2, h3, hL args s _, lw_frame hF⟩
theorem i_vc : Claimed_1_1 ∧ Claimed_1_2 := ⟨lw_limb limb_1_1 (fun args s t => by simp [limb_1_1, Cond.after, Cond.holds, Cond.value]), lw_limb limb_1_2 (fun args s t => Cond.after_iff.mpr (by
  first | (rw [show limb_1_2 = Cond.eq .result (.int 1) from rfl, Cond.eq_ints (x := 1) (y := 1) rfl rfl]; simp; done) | (simp [limb_1_2, Cond.value, Term.eval]; done)))⟩
