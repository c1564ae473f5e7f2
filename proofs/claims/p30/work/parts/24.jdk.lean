theorem hd_Jx29ce0_ordinal_8abf5_S : yJx29ce0_ordinal_8abf5.cls ≠ "java/lang/invoke/MethodHandle" ∧ yJx29ce0_ordinal_8abf5.cls ≠ "java/lang/invoke/VarHandle" ∧ (parseMethodDescriptor yJx29ce0_ordinal_8abf5.desc).map (fun d => d.parameters.length) = some 0 := by decide +kernel
theorem hd_Jx29ce0_ordinal_8abf5_V : yJx29ce0_ordinal_8abf5.cls = RJx29ce0 ∧ yJx29ce0_ordinal_8abf5.cls ≠ "java/lang/invoke/MethodHandle" ∧ yJx29ce0_ordinal_8abf5.cls ≠ "java/lang/invoke/VarHandle" ∧ (parseMethodDescriptor yJx29ce0_ordinal_8abf5.desc).map (fun d => d.parameters.length) = some 0 := ⟨rfl, hd_Jx29ce0_ordinal_8abf5_S⟩
set_option maxHeartbeats 400000 in
set_option maxRecDepth 100000 in
theorem c_Jx29ce0_ordinal_8abf5 (l : Launch) (D : va_G) (cy : Nat → ClassId) (g : Nat → Nat) (B : Nat)  (xt : Nat) (hxt : xt < 7) : Met l yJx29ce0_ordinal_8abf5 wsJx29ce0_ordinal_8abf5 ({ frames := 0, cells := 0, slots := 0, locals := 0 }) (rdP D cy g B ([] : va_W) [.ref (g (10 + xt))]) (vp_Si (fun r => r = (nI xt))) 0 0 (fun _ => False) := by
  refine Met.ofW (cc := cJx29ce0_ordinal_8abf5) (maxL := 1) (ret := (some .int)) (by decide) rfl ?_
  intro p e s m args below meth c s₁ BB hml hv
  obtain ⟨rfl, hP, hK0⟩ := hv
  have hx := BB.exec
  have hb := BB.bytes
  have hr := BB.returns
  have hts := atoms_spec (ws := wsJx29ce0_ordinal_8abf5) BB.pre
  have hown : s.vm.findClass RJx29ce0 = some m.cls := findClass_of_methodNamed BB.named
  have hlocks := BB.notSynchronized
  have S := my_fix hx hb hml hown hts
  have hS : va_S (fun q => B ≤ q) s.heap s.heap [] := va_S.rf
  have hAB : ∀ q : Nat, (fun q => B ≤ q) q → B ≤ q := fun _ h => h
  have hl := lv_entry ([.ref (g (10 + xt))]) (n := 1) (Nat.le_of_ble_eq_true rfl)
  rw [lg_entry_eq]
  generalize (lg_sl ([.ref (g (10 + xt))]) ++ List.replicate (1 - (lg_sl ([.ref (g (10 + xt))])).length) Slot.unset).toArray = ls at hl ⊢
  have hl : lv_has ls 1 [(0, .ref (g (10 + xt)))] := hl
  refine lv_aload_n hx hb dJx29ce0_ordinal_8abf5_0 rfl (lv_at hl 0 rfl) ?_
  refine va_getE hx hb hK0.2.2.2.2.2.1 (i := xt) hxt hS hown (q := ("java/lang/Enum", "ordinal", "I", [0, 1, 2, 3, 4, 5, 6])) (List.mem_of_getElem? (i := 0) rfl) (hts (.fieldLink RJx29ce0 7 "java/lang/Enum" "ordinal" "I") (List.mem_of_getElem? (i := 1) rfl)) (fun _ h => h) dJx29ce0_ordinal_8abf5_1 ?_
  refine W.eq (g2 := F0 m 4 ls [.int (nI xt)]) (by rw [my_ord hxt]) ?_
  exact W.iret hx hb hr (fun t ht hW => ⟨(nI xt), rfl, (show ((nI xt) : Int32) = (nI xt) from rfl).symm, ht⟩) (fun q hq => absurd hq List.not_mem_nil) dJx29ce0_ordinal_8abf5_4
