/-! part 99a: the law's methods that call and catch -/
abbrev wL (cy : Nat → ClassId) (o : Nat) (f : Nat → Int64) : va_W := [(o, .inl (cy 3, (1, .inr (.inl f))))]
abbrev wDb (cy : Nat → ClassId) (o : Nat) (f : Nat → UInt64) : va_W := [(o, .inl (cy 4, (1, .inr (.inr (.inr (.inl f))))))]
theorem adrL (cy : Nat → ClassId) (o : Nat) (f : Nat → Int64) : my_adrs (wL cy o f) = [o] := rfl
theorem adrDb (cy : Nat → ClassId) (o : Nat) (f : Nat → UInt64) : my_adrs (wDb cy o f) = [o] := rfl
/-- no exception of ours is one of another kind -/
def ncOK (U : State) : Prop := va_Nc "java/lang/IllegalArgumentException" "java/lang/IndexOutOfBoundsException" U ∧ va_Nc "java/lang/IllegalStateException" "java/lang/IndexOutOfBoundsException" U ∧ va_Nc "java/lang/IllegalStateException" "java/lang/IllegalArgumentException" U
def lwP (D : va_G) (cy : Nat → ClassId) (g : Nat → Nat) (B : Nat) (wc : va_W) (av : List Value) : Array Value → State → Prop := va_Pc av (fun U => (va_P D vwCl wc U.heap ∧ myK D cy g B U U.heap ∧ va_D (fun q => B ≤ q) wc) ∧ ncOK U)
theorem lwP_blind {D : va_G} {cy : Nat → ClassId} {g : Nat → Nat} {B : Nat} {wc : va_W} {av : List Value} : FrameBlind (lwP D cy g B wc av) := by
  intro a U g' mk h
  have h1 := muP_blind (D := D) (cy := cy) (g := g) (B := B) (wc := wc) (av := av) a U g' mk ⟨h.1, h.2.1⟩
  exact ⟨h1.1, h1.2, va_Nc.moved (u := U) (U := U.calling g' mk a) (Vm.Alike.refl U.vm) h.2.2.1, va_Nc.moved (u := U) (U := U.calling g' mk a) (Vm.Alike.refl U.vm) h.2.2.2.1, va_Nc.moved (u := U) (U := U.calling g' mk a) (Vm.Alike.refl U.vm) h.2.2.2.2⟩
theorem exE_1 {E : String} (h : exE 1 E) : E = "java/lang/IndexOutOfBoundsException" := by
  rcases h with ⟨_, h⟩ | ⟨h, _⟩ | ⟨h, _⟩
  · exact h
  · exact absurd h (by decide)
  · exact absurd h (by decide)
theorem exE_2 {E : String} (h : exE 2 E) : E = "java/lang/IllegalArgumentException" := by
  rcases h with ⟨h, _⟩ | ⟨_, h⟩ | ⟨h, _⟩
  · exact absurd h (by decide)
  · exact h
  · exact absurd h (by decide)
theorem exE_3 {E : String} (h : exE 3 E) : E = "java/lang/IllegalStateException" := by
  rcases h with ⟨h, _⟩ | ⟨h, _⟩ | ⟨_, h⟩
  · exact absurd h (by decide)
  · exact absurd h (by decide)
  · exact h
/-- what a wrapper answers, and what it leaves -/
def wrI {S : Type} (F : Int32 ⊕ (Int32 × S)) (cod : Int32 → Int32) (u0 : S) (o : Nat → Int64) : Int32 × (S × (Nat → Int64)) := match F with
  | .inl k => (cod k, (u0, o))
  | .inr a => (0, (a.2, vp_updL o 0 (Int32.toInt64 a.1)))
theorem wrI_l {S : Type} {F : Int32 ⊕ (Int32 × S)} {k : Int32} {cod : Int32 → Int32} {u0 : S} {o : Nat → Int64} (h : F = .inl k) : wrI F cod u0 o = (cod k, (u0, o)) := by subst h; rfl
theorem wrI_r {S : Type} {F : Int32 ⊕ (Int32 × S)} {a : Int32} {u : S} {cod : Int32 → Int32} {u0 : S} {o : Nat → Int64} (h : F = .inr (a, u)) : wrI F cod u0 o = (0, (u, vp_updL o 0 (Int32.toInt64 a))) := by subst h; rfl
def wrF {S : Type} (F : Int32 ⊕ (UInt32 × S)) (cod : Int32 → Int32) (u0 : S) (o : Nat → UInt64) : Int32 × (S × (Nat → UInt64)) := match F with
  | .inl k => (cod k, (u0, o))
  | .inr a => (0, (a.2, vf_upd o 0 (FP.f2d a.1)))
theorem wrF_l {S : Type} {F : Int32 ⊕ (UInt32 × S)} {k : Int32} {cod : Int32 → Int32} {u0 : S} {o : Nat → UInt64} (h : F = .inl k) : wrF F cod u0 o = (cod k, (u0, o)) := by subst h; rfl
theorem wrF_r {S : Type} {F : Int32 ⊕ (UInt32 × S)} {a : UInt32} {u : S} {cod : Int32 → Int32} {u0 : S} {o : Nat → UInt64} (h : F = .inr (a, u)) : wrF F cod u0 o = (0, (u, vf_upd o 0 (FP.f2d a))) := by subst h; rfl
def wrD {S : Type} (F : Int32 ⊕ (UInt64 × S)) (cod : Int32 → Int32) (u0 : S) (o : Nat → UInt64) : Int32 × (S × (Nat → UInt64)) := match F with
  | .inl k => (cod k, (u0, o))
  | .inr a => (0, (a.2, vf_upd o 0 a.1))
theorem wrD_l {S : Type} {F : Int32 ⊕ (UInt64 × S)} {k : Int32} {cod : Int32 → Int32} {u0 : S} {o : Nat → UInt64} (h : F = .inl k) : wrD F cod u0 o = (cod k, (u0, o)) := by subst h; rfl
theorem wrD_r {S : Type} {F : Int32 ⊕ (UInt64 × S)} {a : UInt64} {u : S} {cod : Int32 → Int32} {u0 : S} {o : Nat → UInt64} (h : F = .inr (a, u)) : wrD F cod u0 o = (0, (u, vf_upd o 0 a)) := by subst h; rfl
section WRAP
variable {p : Program} {l : Launch} {e : Env} {R : Room} {s : State} {m : MethodId} {args : Array Value} {below : List Frame} {meth : Method} {c : Code} {H : Heap} {locs : List Loc} {cells slots : Nat} {Q : State → Prop}
variable {rest st0 : List Value} {D : va_G} {wc ws : va_W} {pc : Nat} {ls : Array Slot} {A : Nat → Prop} {a : Array Value}
theorem wr_compi {S : Type} {G : Int32 ⊕ (Int32 × S)} {Wl wcs : List va_W} {wf : S → va_W} {wns W2 : S → List va_W} {mc1 ms1 : Nat} (hr : vx_Run p l e R s m args below meth c H locs cells slots mc1 ms1 (F0 m pc ls st0) rest (va_Qi (fun (r : Int32) (u : S) => G = .inr (r, u)) (fun u t => va_P D vwCl (wf u) t.heap) (muA wc) a) (vx_X (fun (k : Int32) => G = .inl k) (fun E k t => exE k E ∧ va_P D vwCl wc t.heap) (muA wc)) (muA wc))
    (hS : va_S A s.heap H locs) (hP : va_P D vwCl Wl.flatten H) (hD : va_D A Wl.flatten) (is : List Nat) (hs : is.map (fun i => Wl[i]?) = wcs.map some) (hwc : wcs.flatten = wc) (hwf : ∀ u, (wns u).flatten = wf u) (hadr : ∀ u, (wns u).map my_adrs = wcs.map my_adrs) (hw2 : ∀ u, my_ups Wl is (wns u) = W2 u) (hw0 : my_ups Wl is wcs = Wl)
    (kx : ∀ (k : Int32) (E : String) (ce : Cell) (q9 : Addr) (H1 : Heap) (locs1 : List Loc), G = .inl k → exE k E → va_P D vwCl Wl.flatten H1 → va_S A s.heap H1 locs1 → H1[q9]? = some ce → ce.vm = .none → s.vm.findClass E = some ce.cls → vx_W p l e R s m args below meth c H1 locs1 (cells + mc1) (slots + ms1) Q (F0 m pc ls rest) q9)
    (kk : ∀ (r : Int32) (u : S) (H1 : Heap) (locs1 : List Loc), G = .inr (r, u) → va_P D vwCl (W2 u).flatten H1 → va_D A (W2 u).flatten → va_S A s.heap H1 locs1 → W p l e R s m args below meth c H1 locs1 (cells + mc1) (slots + ms1) Q (F0 m (pc + 3) ls (.int r :: rest))) : W p l e R s m args below meth c H locs cells slots Q (F0 m pc ls st0) := by
  subst hwc
  refine vx_calli hr hS (fun q _ h => my_cmu hD hs q h) (my_cmu hD hs) (fun q _ h => my_cmu hD hs q h) (fun E ce q9 u t H1 locs1 ht _ hp hb _ hk1 hS1 hce hv hcl => ?_) (fun r u t H1 locs1 ht _ hp hb _ hk1 hS1 => ?_)
  · have hb2 := hb.2
    rw [ht] at hb2
    have hl0 : is.length = wcs.length := by
      have h1 := congrArg List.length hs
      simpa only [List.length_map] using h1
    refine kx u E ce q9 H1 locs1 hp hb.1 ?_ hS1 hce hv hcl
    rw [← hw0]; exact my_upc_P hP hD hs hl0 hk1 hb2
  · rw [ht, ← hwf u] at hb
    obtain ⟨h1, h2⟩ := my_upc_hyp hs (hadr u)
    refine kk r u H1 locs1 hp ?_ ?_ hS1
    · rw [← hw2 u]; exact my_upc_P hP hD hs h2 hk1 hb
    · rw [← hw2 u]; exact my_adrD (my_flat_adr (my_upc_adr _ _ _ h1)) hD
theorem wr_compf {S : Type} {G : Int32 ⊕ (UInt32 × S)} {Wl wcs : List va_W} {wf : S → va_W} {wns W2 : S → List va_W} {mc1 ms1 : Nat} (hr : vx_Run p l e R s m args below meth c H locs cells slots mc1 ms1 (F0 m pc ls st0) rest (va_Qf (fun (r : UInt32) (u : S) => G = .inr (r, u)) (fun u t => va_P D vwCl (wf u) t.heap) (muA wc) a) (vx_X (fun (k : Int32) => G = .inl k) (fun E k t => exE k E ∧ va_P D vwCl wc t.heap) (muA wc)) (muA wc))
    (hS : va_S A s.heap H locs) (hP : va_P D vwCl Wl.flatten H) (hD : va_D A Wl.flatten) (is : List Nat) (hs : is.map (fun i => Wl[i]?) = wcs.map some) (hwc : wcs.flatten = wc) (hwf : ∀ u, (wns u).flatten = wf u) (hadr : ∀ u, (wns u).map my_adrs = wcs.map my_adrs) (hw2 : ∀ u, my_ups Wl is (wns u) = W2 u) (hw0 : my_ups Wl is wcs = Wl)
    (kx : ∀ (k : Int32) (E : String) (ce : Cell) (q9 : Addr) (H1 : Heap) (locs1 : List Loc), G = .inl k → exE k E → va_P D vwCl Wl.flatten H1 → va_S A s.heap H1 locs1 → H1[q9]? = some ce → ce.vm = .none → s.vm.findClass E = some ce.cls → vx_W p l e R s m args below meth c H1 locs1 (cells + mc1) (slots + ms1) Q (F0 m pc ls rest) q9)
    (kk : ∀ (r : UInt32) (u : S) (H1 : Heap) (locs1 : List Loc), G = .inr (r, u) → va_P D vwCl (W2 u).flatten H1 → va_D A (W2 u).flatten → va_S A s.heap H1 locs1 → W p l e R s m args below meth c H1 locs1 (cells + mc1) (slots + ms1) Q (F0 m (pc + 3) ls (.float r :: rest))) : W p l e R s m args below meth c H locs cells slots Q (F0 m pc ls st0) := by
  subst hwc
  refine vx_callf hr hS (fun q _ h => my_cmu hD hs q h) (my_cmu hD hs) (fun q _ h => my_cmu hD hs q h) (fun E ce q9 u t H1 locs1 ht _ hp hb _ hk1 hS1 hce hv hcl => ?_) (fun r u t H1 locs1 ht _ hp hb _ hk1 hS1 => ?_)
  · have hb2 := hb.2
    rw [ht] at hb2
    have hl0 : is.length = wcs.length := by
      have h1 := congrArg List.length hs
      simpa only [List.length_map] using h1
    refine kx u E ce q9 H1 locs1 hp hb.1 ?_ hS1 hce hv hcl
    rw [← hw0]; exact my_upc_P hP hD hs hl0 hk1 hb2
  · rw [ht, ← hwf u] at hb
    obtain ⟨h1, h2⟩ := my_upc_hyp hs (hadr u)
    refine kk r u H1 locs1 hp ?_ ?_ hS1
    · rw [← hw2 u]; exact my_upc_P hP hD hs h2 hk1 hb
    · rw [← hw2 u]; exact my_adrD (my_flat_adr (my_upc_adr _ _ _ h1)) hD
theorem wr_compd {S : Type} {G : Int32 ⊕ (UInt64 × S)} {Wl wcs : List va_W} {wf : S → va_W} {wns W2 : S → List va_W} {mc1 ms1 : Nat} (hr : vx_Run p l e R s m args below meth c H locs cells slots mc1 ms1 (F0 m pc ls st0) rest (va_Qd (fun (r : UInt64) (u : S) => G = .inr (r, u)) (fun u t => va_P D vwCl (wf u) t.heap) (muA wc) a) (vx_X (fun (k : Int32) => G = .inl k) (fun E k t => exE k E ∧ va_P D vwCl wc t.heap) (muA wc)) (muA wc))
    (hS : va_S A s.heap H locs) (hP : va_P D vwCl Wl.flatten H) (hD : va_D A Wl.flatten) (is : List Nat) (hs : is.map (fun i => Wl[i]?) = wcs.map some) (hwc : wcs.flatten = wc) (hwf : ∀ u, (wns u).flatten = wf u) (hadr : ∀ u, (wns u).map my_adrs = wcs.map my_adrs) (hw2 : ∀ u, my_ups Wl is (wns u) = W2 u) (hw0 : my_ups Wl is wcs = Wl)
    (kx : ∀ (k : Int32) (E : String) (ce : Cell) (q9 : Addr) (H1 : Heap) (locs1 : List Loc), G = .inl k → exE k E → va_P D vwCl Wl.flatten H1 → va_S A s.heap H1 locs1 → H1[q9]? = some ce → ce.vm = .none → s.vm.findClass E = some ce.cls → vx_W p l e R s m args below meth c H1 locs1 (cells + mc1) (slots + ms1) Q (F0 m pc ls rest) q9)
    (kk : ∀ (r : UInt64) (u : S) (H1 : Heap) (locs1 : List Loc), G = .inr (r, u) → va_P D vwCl (W2 u).flatten H1 → va_D A (W2 u).flatten → va_S A s.heap H1 locs1 → W p l e R s m args below meth c H1 locs1 (cells + mc1) (slots + ms1) Q (F0 m (pc + 3) ls (.double r :: rest))) : W p l e R s m args below meth c H locs cells slots Q (F0 m pc ls st0) := by
  subst hwc
  refine vx_calld hr hS (fun q _ h => my_cmu hD hs q h) (my_cmu hD hs) (fun q _ h => my_cmu hD hs q h) (fun E ce q9 u t H1 locs1 ht _ hp hb _ hk1 hS1 hce hv hcl => ?_) (fun r u t H1 locs1 ht _ hp hb _ hk1 hS1 => ?_)
  · have hb2 := hb.2
    rw [ht] at hb2
    have hl0 : is.length = wcs.length := by
      have h1 := congrArg List.length hs
      simpa only [List.length_map] using h1
    refine kx u E ce q9 H1 locs1 hp hb.1 ?_ hS1 hce hv hcl
    rw [← hw0]; exact my_upc_P hP hD hs hl0 hk1 hb2
  · rw [ht, ← hwf u] at hb
    obtain ⟨h1, h2⟩ := my_upc_hyp hs (hadr u)
    refine kk r u H1 locs1 hp ?_ ?_ hS1
    · rw [← hw2 u]; exact my_upc_P hP hD hs h2 hk1 hb
    · rw [← hw2 u]; exact my_adrD (my_flat_adr (my_upc_adr _ _ _ h1)) hD
end WRAP
theorem wrap_e {α : Type} {a b c : α} (h : a = b) (h2 : b = c) : a = c := h.trans h2
set_option maxHeartbeats 1000000 in
set_option maxRecDepth 100000 in
theorem c_L_add (l : Launch) (hl0 : l.stackTraces = false) (D : va_G) (cy : Nat → ClassId) (g : Nat → Nat) (B : Nat) (p70 : Nat) (b7 : Nat → Nat) (c7 : Nat → Nat) (d7 : Nat → Nat) (e7 : Nat → Nat) (h7 : Nat → Nat) (k7 : Nat → Nat) (q : Nat → Nat → Nat) (st : Int32) (v : SetV) (z : (Int32 × Int32)) (s0 : SetV) (s1 : SetV) (s2 : SetV) (s3 : SetV) (x0 : Int32) (o : Nat) (out : Nat → Int64) (hk : ∀ k, f_X7_add st v z s0 s1 s2 s3 x0 = .inl k → k = 2 ∨ k = 3) : Met l yL_add wsL_add ({ frames := 9, cells := 1, slots := 6, locals := 154 }) (lwP D cy g B (List.flatten [(wPCo p70 b7 c7 d7 e7 h7 k7 st), (wSet cy b7 v), (wSav cy q h7 z), (wSet cy (q 0) s0), (wSet cy (q 1) s1), (wSet cy (q 2) s2), (wSet cy (q 3) s3), (wL cy o out)]) [.ref p70, .int x0, .ref o]) (va_Qi (fun (r : Int32) (u : (Int32 × SetV × (Int32 × Int32) × SetV × SetV × SetV × SetV) × (Nat → Int64)) => wrI (f_X7_add st v z s0 s1 s2 s3 x0) (fun f => if f = 2 then 1 else 2) (st, v, z, s0, s1, s2, s3) out = (r, u)) (fun u t => va_P D vwCl (List.flatten [(wPCo p70 b7 c7 d7 e7 h7 k7 u.1.1), (wSet cy b7 u.1.2.1), (wSav cy q h7 u.1.2.2.1), (wSet cy (q 0) u.1.2.2.2.1), (wSet cy (q 1) u.1.2.2.2.2.1), (wSet cy (q 2) u.1.2.2.2.2.2.1), (wSet cy (q 3) u.1.2.2.2.2.2.2), (wL cy o u.2)]) t.heap) (muA (List.flatten [(wPCo p70 b7 c7 d7 e7 h7 k7 st), (wSet cy b7 v), (wSav cy q h7 z), (wSet cy (q 0) s0), (wSet cy (q 1) s1), (wSet cy (q 2) s2), (wSet cy (q 3) s3), (wL cy o out)]))) 1 6 (muA (List.flatten [(wPCo p70 b7 c7 d7 e7 h7 k7 st), (wSet cy b7 v), (wSav cy q h7 z), (wSet cy (q 0) s0), (wSet cy (q 1) s1), (wSet cy (q 2) s2), (wSet cy (q 3) s3), (wL cy o out)])) := by
  refine va_MetW (cc := cL_add) (maxL := 4) (ret := some .int) (hh := [(0, 9, 12, 13), (0, 9, 15, 15)]) (by decide) rfl ?_
  intro p e s m args below meth c s₁ BB hml hv
  obtain ⟨rfl, ⟨hP, hK0, hD0⟩, hNc⟩ := hv
  have hx := BB.exec
  have hb := BB.bytes
  have hr := BB.returns
  have hts := atoms_spec (ws := wsL_add) BB.pre
  have hown : s.vm.findClass RL = some m.cls := findClass_of_methodNamed BB.named
  have hlocks := BB.notSynchronized
  have hT := vx_table (x := yL_add) BB (hts (.codeWith yL_add cL_add 4 (some .int) [(0, 9, 12, 13), (0, 9, 15, 15)]) List.mem_cons_self)
  have S := my_fix hx hb hml hown hts
  have hAB := muB hD0
  have hD := muD hD0
  generalize hAe : muA (List.flatten [(wPCo p70 b7 c7 d7 e7 h7 k7 st), (wSet cy b7 v), (wSav cy q h7 z), (wSet cy (q 0) s0), (wSet cy (q 1) s1), (wSet cy (q 2) s2), (wSet cy (q 3) s3), (wL cy o out)]) = A at hAB hD ⊢
  have hS : va_S A s.heap s.heap [] := va_S.rf
  have hl := lv_entry ([.ref p70, .int x0, .ref o]) (n := 4) (Nat.le_of_ble_eq_true rfl)
  rw [lg_entry_eq]
  generalize (lg_sl ([.ref p70, .int x0, .ref o]) ++ List.replicate (4 - (lg_sl ([.ref p70, .int x0, .ref o])).length) Slot.unset).toArray = ls at hl ⊢
  have hl : lv_has ls 4 [(0, .ref p70), (1, .int x0), (2, .ref o)] := hl
  refine lv_aload_n hx hb dL_add_0 rfl (lv_at hl 2 rfl) ?_
  refine lv_iconst (v := 0) hx hb dL_add_1 (by decide) ?_
  refine lv_aload_n hx hb dL_add_2 rfl (lv_at hl 0 rfl) ?_
  refine lv_iload_n hx hb dL_add_3 rfl (lv_at hl 1 rfl) ?_
  refine wr_compi (wcs := [(wPCo p70 b7 c7 d7 e7 h7 k7 st), (wSet cy b7 v), (wSav cy q h7 z), (wSet cy (q 0) s0), (wSet cy (q 1) s1), (wSet cy (q 2) s2), (wSet cy (q 3) s3)]) (wns := fun u => [(wPCo p70 b7 c7 d7 e7 h7 k7 u.1), (wSet cy b7 u.2.1), (wSav cy q h7 u.2.2.1), (wSet cy (q 0) u.2.2.2.1), (wSet cy (q 1) u.2.2.2.2.1), (wSet cy (q 2) u.2.2.2.2.2.1), (wSet cy (q 3) u.2.2.2.2.2.2)]) (W2 := fun u => [(wPCo p70 b7 c7 d7 e7 h7 k7 u.1), (wSet cy b7 u.2.1), (wSav cy q h7 u.2.2.1), (wSet cy (q 0) u.2.2.2.1), (wSet cy (q 1) u.2.2.2.2.1), (wSet cy (q 2) u.2.2.2.2.2.1), (wSet cy (q 3) u.2.2.2.2.2.2), (wL cy o out)]) (vx_runV (C := RX7) (As := [.int x0]) (rest := [.int 0, .ref o]) S (c_X7_add l hl0 D cy g B p70 b7 c7 d7 e7 h7 k7 q st v z s0 s1 s2 s3 x0) (cwV 1 hts gL_add_X7_add rfl rfl rfl hd_X7_add_V ⟨Nat.le_of_ble_eq_true rfl, Nat.le_of_ble_eq_true rfl⟩) ⟨muP_blind, va_recv hK0.1 hP (ci := 5) (q0 := 0) rfl rfl, my_preC (wcs := [(wPCo p70 b7 c7 d7 e7 h7 k7 st), (wSet cy b7 v), (wSav cy q h7 z), (wSet cy (q 0) s0), (wSet cy (q 1) s1), (wSet cy (q 2) s2), (wSet cy (q 3) s3)]) hK0 hS hAB hP hD [0, 1, 2, 3, 4, 5, 6] (by decide) rfl rfl⟩ rfl rfl hl.1 rfl (lv_room (Nat.le_of_ble_eq_true rfl)) dL_add_4 ⟨Nat.le_of_ble_eq_true rfl, Nat.le_of_ble_eq_true rfl⟩) hS hP hD [0, 1, 2, 3, 4, 5, 6] rfl rfl (fun _ => rfl) (fun _ => by simp only [List.map_cons, List.map_nil, adrSet, adrSetE, adrPow, adrPowE, adrTxt, adrTxtE, adrSav, adrSavE, adrPCo, adrMod, adrModE]) (fun _ => rfl) rfl (fun k E ce q9 H locs hG hE hP hS hce hcv hcl => ?_) (fun r u H locs hG hP hD hS => ?_)
  · have hk9 := hk k hG
    rcases hk9 with rfl | rfl
    · have hE := exE_2 hE
      subst hE
      refine vx_catch hown [] ⟨0, 9, 12, 13⟩ [⟨0, 9, 15, 15⟩] hT (fun z hz => absurd hz List.not_mem_nil) rfl (by decide) (hts (.classLink RL 13 "java/lang/IllegalArgumentException") (by decide +kernel)) (va_Nw.use rfl hK0.2.1.2.2.2.2.1) hce hcv hcl ?_
      refine lv_astore_n (lv' := [(3, .ref q9), (0, .ref p70), (1, .int x0), (2, .ref o)]) hx hb dL_add_12 rfl hl (by decide) rfl (fun ls hl => ?_)
      refine lv_iconst (v := 1) hx hb dL_add_13 (by decide) ?_
      exact W.iret (v := 1) hx hb hr (fun t ht hW => ⟨⟨1, ((st, v, z, s0, s1, s2, s3), out), rfl, (wrap_e (wrI_l hG) rfl), by show va_P D vwCl _ t.heap; rw [ht]; exact hP⟩, hS.F ht⟩) hS.2.2 dL_add_14
    · have hE := exE_3 hE
      subst hE
      refine vx_catch hown [⟨0, 9, 12, 13⟩] ⟨0, 9, 15, 15⟩ [] hT (fun z hz => by rcases List.mem_singleton.mp hz with rfl; exact Or.inr ⟨by decide, _, (hts (.classLink RL 13 "java/lang/IllegalArgumentException") (by decide +kernel)), hNc.2.2⟩) rfl (by decide) (hts (.classLink RL 15 "java/lang/IllegalStateException") (by decide +kernel)) (va_Nw.use rfl hK0.2.1.2.2.2.2.2) hce hcv hcl ?_
      refine lv_astore_n (lv' := [(3, .ref q9), (0, .ref p70), (1, .int x0), (2, .ref o)]) hx hb dL_add_15 rfl hl (by decide) rfl (fun ls hl => ?_)
      refine lv_iconst (v := 2) hx hb dL_add_16 (by decide) ?_
      exact W.iret (v := 2) hx hb hr (fun t ht hW => ⟨⟨2, ((st, v, z, s0, s1, s2, s3), out), rfl, (wrap_e (wrI_l hG) rfl), by show va_P D vwCl _ t.heap; rw [ht]; exact hP⟩, hS.F ht⟩) hS.2.2 dL_add_17
  · refine lv_i2l (v := (Int32.toInt64 r)) hx hb dL_add_7 rfl ?_
    refine va_last hx hb hK0.1 hP hD hS 48 3 rfl rfl (i := 0) (x := (Int32.toInt64 r)) (show ¬ ((0 : Int32) < 0 ∨ 1 ≤ (0 : Int32).toNatClampNeg) by decide) dL_add_8 (fun H locs hP hD hS => ?_)
    have hP : va_P D vwCl (List.flatten [(wPCo p70 b7 c7 d7 e7 h7 k7 u.1), (wSet cy b7 u.2.1), (wSav cy q h7 u.2.2.1), (wSet cy (q 0) u.2.2.2.1), (wSet cy (q 1) u.2.2.2.2.1), (wSet cy (q 2) u.2.2.2.2.2.1), (wSet cy (q 3) u.2.2.2.2.2.2), (wL cy o (vp_updL out 0 (Int32.toInt64 r)))]) H := hP
    refine lv_goto (tgt := 18) hx hb dL_add_9 (by decide) ?_
    refine lv_iconst (v := 0) hx hb dL_add_18 (by decide) ?_
    exact W.iret (v := 0) hx hb hr (fun t ht hW => ⟨⟨0, (u, vp_updL out 0 (Int32.toInt64 r)), rfl, wrI_r hG, by show va_P D vwCl _ t.heap; rw [ht]; exact hP⟩, hS.F ht⟩) hS.2.2 dL_add_19
set_option maxHeartbeats 1000000 in
set_option maxRecDepth 100000 in
theorem c_L_setWeight (l : Launch) (hl0 : l.stackTraces = false) (D : va_G) (cy : Nat → ClassId) (g : Nat → Nat) (B : Nat) (p70 : Nat) (b7 : Nat → Nat) (c7 : Nat → Nat) (d7 : Nat → Nat) (e7 : Nat → Nat) (h7 : Nat → Nat) (k7 : Nat → Nat) (q : Nat → Nat → Nat) (st : Int32) (v : SetV) (z : (Int32 × Int32)) (s0 : SetV) (s1 : SetV) (s2 : SetV) (s3 : SetV) (x0 : Int32) (x1 : Int32) (o : Nat) (out : Nat → Int64) (hk : ∀ k, f_X7_setWeight st v z s0 s1 s2 s3 x0 x1 = .inl k → k = 1 ∨ k = 2) : Met l yL_setWeight wsL_setWeight ({ frames := 9, cells := 1, slots := 6, locals := 155 }) (lwP D cy g B (List.flatten [(wPCo p70 b7 c7 d7 e7 h7 k7 st), (wSet cy b7 v), (wSav cy q h7 z), (wSet cy (q 0) s0), (wSet cy (q 1) s1), (wSet cy (q 2) s2), (wSet cy (q 3) s3), (wL cy o out)]) [.ref p70, .int x0, .int x1, .ref o]) (va_Qi (fun (r : Int32) (u : (Int32 × SetV × (Int32 × Int32) × SetV × SetV × SetV × SetV) × (Nat → Int64)) => wrI (f_X7_setWeight st v z s0 s1 s2 s3 x0 x1) (fun f => f) (st, v, z, s0, s1, s2, s3) out = (r, u)) (fun u t => va_P D vwCl (List.flatten [(wPCo p70 b7 c7 d7 e7 h7 k7 u.1.1), (wSet cy b7 u.1.2.1), (wSav cy q h7 u.1.2.2.1), (wSet cy (q 0) u.1.2.2.2.1), (wSet cy (q 1) u.1.2.2.2.2.1), (wSet cy (q 2) u.1.2.2.2.2.2.1), (wSet cy (q 3) u.1.2.2.2.2.2.2), (wL cy o u.2)]) t.heap) (muA (List.flatten [(wPCo p70 b7 c7 d7 e7 h7 k7 st), (wSet cy b7 v), (wSav cy q h7 z), (wSet cy (q 0) s0), (wSet cy (q 1) s1), (wSet cy (q 2) s2), (wSet cy (q 3) s3), (wL cy o out)]))) 1 6 (muA (List.flatten [(wPCo p70 b7 c7 d7 e7 h7 k7 st), (wSet cy b7 v), (wSav cy q h7 z), (wSet cy (q 0) s0), (wSet cy (q 1) s1), (wSet cy (q 2) s2), (wSet cy (q 3) s3), (wL cy o out)])) := by
  refine va_MetW (cc := cL_setWeight) (maxL := 5) (ret := some .int) (hh := [(0, 10, 13, 21), (0, 10, 17, 13)]) (by decide) rfl ?_
  intro p e s m args below meth c s₁ BB hml hv
  obtain ⟨rfl, ⟨hP, hK0, hD0⟩, hNc⟩ := hv
  have hx := BB.exec
  have hb := BB.bytes
  have hr := BB.returns
  have hts := atoms_spec (ws := wsL_setWeight) BB.pre
  have hown : s.vm.findClass RL = some m.cls := findClass_of_methodNamed BB.named
  have hlocks := BB.notSynchronized
  have hT := vx_table (x := yL_setWeight) BB (hts (.codeWith yL_setWeight cL_setWeight 5 (some .int) [(0, 10, 13, 21), (0, 10, 17, 13)]) List.mem_cons_self)
  have S := my_fix hx hb hml hown hts
  have hAB := muB hD0
  have hD := muD hD0
  generalize hAe : muA (List.flatten [(wPCo p70 b7 c7 d7 e7 h7 k7 st), (wSet cy b7 v), (wSav cy q h7 z), (wSet cy (q 0) s0), (wSet cy (q 1) s1), (wSet cy (q 2) s2), (wSet cy (q 3) s3), (wL cy o out)]) = A at hAB hD ⊢
  have hS : va_S A s.heap s.heap [] := va_S.rf
  have hl := lv_entry ([.ref p70, .int x0, .int x1, .ref o]) (n := 5) (Nat.le_of_ble_eq_true rfl)
  rw [lg_entry_eq]
  generalize (lg_sl ([.ref p70, .int x0, .int x1, .ref o]) ++ List.replicate (5 - (lg_sl ([.ref p70, .int x0, .int x1, .ref o])).length) Slot.unset).toArray = ls at hl ⊢
  have hl : lv_has ls 5 [(0, .ref p70), (1, .int x0), (2, .int x1), (3, .ref o)] := hl
  refine lv_aload_n hx hb dL_setWeight_0 rfl (lv_at hl 3 rfl) ?_
  refine lv_iconst (v := 0) hx hb dL_setWeight_1 (by decide) ?_
  refine lv_aload_n hx hb dL_setWeight_2 rfl (lv_at hl 0 rfl) ?_
  refine lv_iload_n hx hb dL_setWeight_3 rfl (lv_at hl 1 rfl) ?_
  refine lv_iload_n hx hb dL_setWeight_4 rfl (lv_at hl 2 rfl) ?_
  refine wr_compi (wcs := [(wPCo p70 b7 c7 d7 e7 h7 k7 st), (wSet cy b7 v), (wSav cy q h7 z), (wSet cy (q 0) s0), (wSet cy (q 1) s1), (wSet cy (q 2) s2), (wSet cy (q 3) s3)]) (wns := fun u => [(wPCo p70 b7 c7 d7 e7 h7 k7 u.1), (wSet cy b7 u.2.1), (wSav cy q h7 u.2.2.1), (wSet cy (q 0) u.2.2.2.1), (wSet cy (q 1) u.2.2.2.2.1), (wSet cy (q 2) u.2.2.2.2.2.1), (wSet cy (q 3) u.2.2.2.2.2.2)]) (W2 := fun u => [(wPCo p70 b7 c7 d7 e7 h7 k7 u.1), (wSet cy b7 u.2.1), (wSav cy q h7 u.2.2.1), (wSet cy (q 0) u.2.2.2.1), (wSet cy (q 1) u.2.2.2.2.1), (wSet cy (q 2) u.2.2.2.2.2.1), (wSet cy (q 3) u.2.2.2.2.2.2), (wL cy o out)]) (vx_runV (C := RX7) (As := [.int x0, .int x1]) (rest := [.int 0, .ref o]) S (c_X7_setWeight l hl0 D cy g B p70 b7 c7 d7 e7 h7 k7 q st v z s0 s1 s2 s3 x0 x1) (cwV 2 hts gL_setWeight_X7_setWeight rfl rfl rfl hd_X7_setWeight_V ⟨Nat.le_of_ble_eq_true rfl, Nat.le_of_ble_eq_true rfl⟩) ⟨muP_blind, va_recv hK0.1 hP (ci := 5) (q0 := 0) rfl rfl, my_preC (wcs := [(wPCo p70 b7 c7 d7 e7 h7 k7 st), (wSet cy b7 v), (wSav cy q h7 z), (wSet cy (q 0) s0), (wSet cy (q 1) s1), (wSet cy (q 2) s2), (wSet cy (q 3) s3)]) hK0 hS hAB hP hD [0, 1, 2, 3, 4, 5, 6] (by decide) rfl rfl⟩ rfl rfl hl.1 rfl (lv_room (Nat.le_of_ble_eq_true rfl)) dL_setWeight_5 ⟨Nat.le_of_ble_eq_true rfl, Nat.le_of_ble_eq_true rfl⟩) hS hP hD [0, 1, 2, 3, 4, 5, 6] rfl rfl (fun _ => rfl) (fun _ => by simp only [List.map_cons, List.map_nil, adrSet, adrSetE, adrPow, adrPowE, adrTxt, adrTxtE, adrSav, adrSavE, adrPCo, adrMod, adrModE]) (fun _ => rfl) rfl (fun k E ce q9 H locs hG hE hP hS hce hcv hcl => ?_) (fun r u H locs hG hP hD hS => ?_)
  · have hk9 := hk k hG
    rcases hk9 with rfl | rfl
    · have hE := exE_1 hE
      subst hE
      refine vx_catch hown [] ⟨0, 10, 13, 21⟩ [⟨0, 10, 17, 13⟩] hT (fun z hz => absurd hz List.not_mem_nil) rfl (by decide) (hts (.classLink RL 21 "java/lang/IndexOutOfBoundsException") (by decide +kernel)) (va_Nw.use rfl hK0.2.1.2.2.2.1) hce hcv hcl ?_
      refine lv_astore (lv' := [(4, .ref q9), (0, .ref p70), (1, .int x0), (2, .int x1), (3, .ref o)]) hx hb dL_setWeight_13 hl (by decide) rfl (fun ls hl => ?_)
      refine lv_iconst (v := 1) hx hb dL_setWeight_15 (by decide) ?_
      exact W.iret (v := 1) hx hb hr (fun t ht hW => ⟨⟨1, ((st, v, z, s0, s1, s2, s3), out), rfl, (wrap_e (wrI_l hG) rfl), by show va_P D vwCl _ t.heap; rw [ht]; exact hP⟩, hS.F ht⟩) hS.2.2 dL_setWeight_16
    · have hE := exE_2 hE
      subst hE
      refine vx_catch hown [⟨0, 10, 13, 21⟩] ⟨0, 10, 17, 13⟩ [] hT (fun z hz => by rcases List.mem_singleton.mp hz with rfl; exact Or.inr ⟨by decide, _, (hts (.classLink RL 21 "java/lang/IndexOutOfBoundsException") (by decide +kernel)), hNc.1⟩) rfl (by decide) (hts (.classLink RL 13 "java/lang/IllegalArgumentException") (by decide +kernel)) (va_Nw.use rfl hK0.2.1.2.2.2.2.1) hce hcv hcl ?_
      refine lv_astore (lv' := [(4, .ref q9), (0, .ref p70), (1, .int x0), (2, .int x1), (3, .ref o)]) hx hb dL_setWeight_17 hl (by decide) rfl (fun ls hl => ?_)
      refine lv_iconst (v := 2) hx hb dL_setWeight_19 (by decide) ?_
      exact W.iret (v := 2) hx hb hr (fun t ht hW => ⟨⟨2, ((st, v, z, s0, s1, s2, s3), out), rfl, (wrap_e (wrI_l hG) rfl), by show va_P D vwCl _ t.heap; rw [ht]; exact hP⟩, hS.F ht⟩) hS.2.2 dL_setWeight_20
  · refine lv_i2l (v := (Int32.toInt64 r)) hx hb dL_setWeight_8 rfl ?_
    refine va_last hx hb hK0.1 hP hD hS 48 3 rfl rfl (i := 0) (x := (Int32.toInt64 r)) (show ¬ ((0 : Int32) < 0 ∨ 1 ≤ (0 : Int32).toNatClampNeg) by decide) dL_setWeight_9 (fun H locs hP hD hS => ?_)
    have hP : va_P D vwCl (List.flatten [(wPCo p70 b7 c7 d7 e7 h7 k7 u.1), (wSet cy b7 u.2.1), (wSav cy q h7 u.2.2.1), (wSet cy (q 0) u.2.2.2.1), (wSet cy (q 1) u.2.2.2.2.1), (wSet cy (q 2) u.2.2.2.2.2.1), (wSet cy (q 3) u.2.2.2.2.2.2), (wL cy o (vp_updL out 0 (Int32.toInt64 r)))]) H := hP
    refine lv_goto (tgt := 21) hx hb dL_setWeight_10 (by decide) ?_
    refine lv_iconst (v := 0) hx hb dL_setWeight_21 (by decide) ?_
    exact W.iret (v := 0) hx hb hr (fun t ht hW => ⟨⟨0, (u, vp_updL out 0 (Int32.toInt64 r)), rfl, wrI_r hG, by show va_P D vwCl _ t.heap; rw [ht]; exact hP⟩, hS.F ht⟩) hS.2.2 dL_setWeight_22
set_option maxHeartbeats 1000000 in
set_option maxRecDepth 100000 in
theorem c_L_setQuota (l : Launch) (hl0 : l.stackTraces = false) (D : va_G) (cy : Nat → ClassId) (g : Nat → Nat) (B : Nat) (p70 : Nat) (b7 : Nat → Nat) (c7 : Nat → Nat) (d7 : Nat → Nat) (e7 : Nat → Nat) (h7 : Nat → Nat) (k7 : Nat → Nat) (q : Nat → Nat → Nat) (st : Int32) (v : SetV) (z : (Int32 × Int32)) (s0 : SetV) (s1 : SetV) (s2 : SetV) (s3 : SetV) (x0 : Int32) (o : Nat) (out : Nat → Int64) (hk : ∀ k, f_X7_setQuota st v z s0 s1 s2 s3 x0 = .inl k → k = 2) : Met l yL_setQuota wsL_setQuota ({ frames := 9, cells := 1, slots := 6, locals := 154 }) (lwP D cy g B (List.flatten [(wPCo p70 b7 c7 d7 e7 h7 k7 st), (wSet cy b7 v), (wSav cy q h7 z), (wSet cy (q 0) s0), (wSet cy (q 1) s1), (wSet cy (q 2) s2), (wSet cy (q 3) s3), (wL cy o out)]) [.ref p70, .int x0, .ref o]) (va_Qi (fun (r : Int32) (u : (Int32 × SetV × (Int32 × Int32) × SetV × SetV × SetV × SetV) × (Nat → Int64)) => wrI (f_X7_setQuota st v z s0 s1 s2 s3 x0) (fun _ => 1) (st, v, z, s0, s1, s2, s3) out = (r, u)) (fun u t => va_P D vwCl (List.flatten [(wPCo p70 b7 c7 d7 e7 h7 k7 u.1.1), (wSet cy b7 u.1.2.1), (wSav cy q h7 u.1.2.2.1), (wSet cy (q 0) u.1.2.2.2.1), (wSet cy (q 1) u.1.2.2.2.2.1), (wSet cy (q 2) u.1.2.2.2.2.2.1), (wSet cy (q 3) u.1.2.2.2.2.2.2), (wL cy o u.2)]) t.heap) (muA (List.flatten [(wPCo p70 b7 c7 d7 e7 h7 k7 st), (wSet cy b7 v), (wSav cy q h7 z), (wSet cy (q 0) s0), (wSet cy (q 1) s1), (wSet cy (q 2) s2), (wSet cy (q 3) s3), (wL cy o out)]))) 1 6 (muA (List.flatten [(wPCo p70 b7 c7 d7 e7 h7 k7 st), (wSet cy b7 v), (wSav cy q h7 z), (wSet cy (q 0) s0), (wSet cy (q 1) s1), (wSet cy (q 2) s2), (wSet cy (q 3) s3), (wL cy o out)])) := by
  refine va_MetW (cc := cL_setQuota) (maxL := 4) (ret := some .int) (hh := [(0, 9, 12, 13)]) (by decide) rfl ?_
  intro p e s m args below meth c s₁ BB hml hv
  obtain ⟨rfl, ⟨hP, hK0, hD0⟩, hNc⟩ := hv
  have hx := BB.exec
  have hb := BB.bytes
  have hr := BB.returns
  have hts := atoms_spec (ws := wsL_setQuota) BB.pre
  have hown : s.vm.findClass RL = some m.cls := findClass_of_methodNamed BB.named
  have hlocks := BB.notSynchronized
  have hT := vx_table (x := yL_setQuota) BB (hts (.codeWith yL_setQuota cL_setQuota 4 (some .int) [(0, 9, 12, 13)]) List.mem_cons_self)
  have S := my_fix hx hb hml hown hts
  have hAB := muB hD0
  have hD := muD hD0
  generalize hAe : muA (List.flatten [(wPCo p70 b7 c7 d7 e7 h7 k7 st), (wSet cy b7 v), (wSav cy q h7 z), (wSet cy (q 0) s0), (wSet cy (q 1) s1), (wSet cy (q 2) s2), (wSet cy (q 3) s3), (wL cy o out)]) = A at hAB hD ⊢
  have hS : va_S A s.heap s.heap [] := va_S.rf
  have hl := lv_entry ([.ref p70, .int x0, .ref o]) (n := 4) (Nat.le_of_ble_eq_true rfl)
  rw [lg_entry_eq]
  generalize (lg_sl ([.ref p70, .int x0, .ref o]) ++ List.replicate (4 - (lg_sl ([.ref p70, .int x0, .ref o])).length) Slot.unset).toArray = ls at hl ⊢
  have hl : lv_has ls 4 [(0, .ref p70), (1, .int x0), (2, .ref o)] := hl
  refine lv_aload_n hx hb dL_setQuota_0 rfl (lv_at hl 2 rfl) ?_
  refine lv_iconst (v := 0) hx hb dL_setQuota_1 (by decide) ?_
  refine lv_aload_n hx hb dL_setQuota_2 rfl (lv_at hl 0 rfl) ?_
  refine lv_iload_n hx hb dL_setQuota_3 rfl (lv_at hl 1 rfl) ?_
  refine wr_compi (wcs := [(wPCo p70 b7 c7 d7 e7 h7 k7 st), (wSet cy b7 v), (wSav cy q h7 z), (wSet cy (q 0) s0), (wSet cy (q 1) s1), (wSet cy (q 2) s2), (wSet cy (q 3) s3)]) (wns := fun u => [(wPCo p70 b7 c7 d7 e7 h7 k7 u.1), (wSet cy b7 u.2.1), (wSav cy q h7 u.2.2.1), (wSet cy (q 0) u.2.2.2.1), (wSet cy (q 1) u.2.2.2.2.1), (wSet cy (q 2) u.2.2.2.2.2.1), (wSet cy (q 3) u.2.2.2.2.2.2)]) (W2 := fun u => [(wPCo p70 b7 c7 d7 e7 h7 k7 u.1), (wSet cy b7 u.2.1), (wSav cy q h7 u.2.2.1), (wSet cy (q 0) u.2.2.2.1), (wSet cy (q 1) u.2.2.2.2.1), (wSet cy (q 2) u.2.2.2.2.2.1), (wSet cy (q 3) u.2.2.2.2.2.2), (wL cy o out)]) (vx_runV (C := RX7) (As := [.int x0]) (rest := [.int 0, .ref o]) S (c_X7_setQuota l hl0 D cy g B p70 b7 c7 d7 e7 h7 k7 q st v z s0 s1 s2 s3 x0) (cwV 1 hts gL_setQuota_X7_setQuota rfl rfl rfl hd_X7_setQuota_V ⟨Nat.le_of_ble_eq_true rfl, Nat.le_of_ble_eq_true rfl⟩) ⟨muP_blind, va_recv hK0.1 hP (ci := 5) (q0 := 0) rfl rfl, my_preC (wcs := [(wPCo p70 b7 c7 d7 e7 h7 k7 st), (wSet cy b7 v), (wSav cy q h7 z), (wSet cy (q 0) s0), (wSet cy (q 1) s1), (wSet cy (q 2) s2), (wSet cy (q 3) s3)]) hK0 hS hAB hP hD [0, 1, 2, 3, 4, 5, 6] (by decide) rfl rfl⟩ rfl rfl hl.1 rfl (lv_room (Nat.le_of_ble_eq_true rfl)) dL_setQuota_4 ⟨Nat.le_of_ble_eq_true rfl, Nat.le_of_ble_eq_true rfl⟩) hS hP hD [0, 1, 2, 3, 4, 5, 6] rfl rfl (fun _ => rfl) (fun _ => by simp only [List.map_cons, List.map_nil, adrSet, adrSetE, adrPow, adrPowE, adrTxt, adrTxtE, adrSav, adrSavE, adrPCo, adrMod, adrModE]) (fun _ => rfl) rfl (fun k E ce q9 H locs hG hE hP hS hce hcv hcl => ?_) (fun r u H locs hG hP hD hS => ?_)
  · have hk9 := hk k hG
    subst hk9
    have hE := exE_2 hE
    subst hE
    refine vx_catch hown [] ⟨0, 9, 12, 13⟩ [] hT (fun z hz => absurd hz List.not_mem_nil) rfl (by decide) (hts (.classLink RL 13 "java/lang/IllegalArgumentException") (by decide +kernel)) (va_Nw.use rfl hK0.2.1.2.2.2.2.1) hce hcv hcl ?_
    refine lv_astore_n (lv' := [(3, .ref q9), (0, .ref p70), (1, .int x0), (2, .ref o)]) hx hb dL_setQuota_12 rfl hl (by decide) rfl (fun ls hl => ?_)
    refine lv_iconst (v := 1) hx hb dL_setQuota_13 (by decide) ?_
    exact W.iret (v := 1) hx hb hr (fun t ht hW => ⟨⟨1, ((st, v, z, s0, s1, s2, s3), out), rfl, (wrap_e (wrI_l hG) rfl), by show va_P D vwCl _ t.heap; rw [ht]; exact hP⟩, hS.F ht⟩) hS.2.2 dL_setQuota_14
  · refine lv_i2l (v := (Int32.toInt64 r)) hx hb dL_setQuota_7 rfl ?_
    refine va_last hx hb hK0.1 hP hD hS 48 3 rfl rfl (i := 0) (x := (Int32.toInt64 r)) (show ¬ ((0 : Int32) < 0 ∨ 1 ≤ (0 : Int32).toNatClampNeg) by decide) dL_setQuota_8 (fun H locs hP hD hS => ?_)
    have hP : va_P D vwCl (List.flatten [(wPCo p70 b7 c7 d7 e7 h7 k7 u.1), (wSet cy b7 u.2.1), (wSav cy q h7 u.2.2.1), (wSet cy (q 0) u.2.2.2.1), (wSet cy (q 1) u.2.2.2.2.1), (wSet cy (q 2) u.2.2.2.2.2.1), (wSet cy (q 3) u.2.2.2.2.2.2), (wL cy o (vp_updL out 0 (Int32.toInt64 r)))]) H := hP
    refine lv_goto (tgt := 15) hx hb dL_setQuota_9 (by decide) ?_
    refine lv_iconst (v := 0) hx hb dL_setQuota_15 (by decide) ?_
    exact W.iret (v := 0) hx hb hr (fun t ht hW => ⟨⟨0, (u, vp_updL out 0 (Int32.toInt64 r)), rfl, wrI_r hG, by show va_P D vwCl _ t.heap; rw [ht]; exact hP⟩, hS.F ht⟩) hS.2.2 dL_setQuota_16
set_option maxHeartbeats 1000000 in
set_option maxRecDepth 100000 in
theorem c_L_follow (l : Launch) (hl0 : l.stackTraces = false) (D : va_G) (cy : Nat → ClassId) (g : Nat → Nat) (B : Nat) (p70 : Nat) (b7 : Nat → Nat) (c7 : Nat → Nat) (d7 : Nat → Nat) (e7 : Nat → Nat) (h7 : Nat → Nat) (k7 : Nat → Nat) (q : Nat → Nat → Nat) (st : Int32) (v : SetV) (z : (Int32 × Int32)) (s0 : SetV) (s1 : SetV) (s2 : SetV) (s3 : SetV) (x0 : Int32) (x1 : Int32) (o : Nat) (out : Nat → Int64) (hk : ∀ k, f_X7_follow st v z s0 s1 s2 s3 x0 x1 = .inl k → k = 1 ∨ k = 2 ∨ k = 3) : Met l yL_follow wsL_follow ({ frames := 9, cells := 1, slots := 6, locals := 155 }) (lwP D cy g B (List.flatten [(wPCo p70 b7 c7 d7 e7 h7 k7 st), (wSet cy b7 v), (wSav cy q h7 z), (wSet cy (q 0) s0), (wSet cy (q 1) s1), (wSet cy (q 2) s2), (wSet cy (q 3) s3), (wL cy o out)]) [.ref p70, .int x0, .int x1, .ref o]) (va_Qi (fun (r : Int32) (u : (Int32 × SetV × (Int32 × Int32) × SetV × SetV × SetV × SetV) × (Nat → Int64)) => wrI (f_X7_follow st v z s0 s1 s2 s3 x0 x1) (fun f => f) (st, v, z, s0, s1, s2, s3) out = (r, u)) (fun u t => va_P D vwCl (List.flatten [(wPCo p70 b7 c7 d7 e7 h7 k7 u.1.1), (wSet cy b7 u.1.2.1), (wSav cy q h7 u.1.2.2.1), (wSet cy (q 0) u.1.2.2.2.1), (wSet cy (q 1) u.1.2.2.2.2.1), (wSet cy (q 2) u.1.2.2.2.2.2.1), (wSet cy (q 3) u.1.2.2.2.2.2.2), (wL cy o u.2)]) t.heap) (muA (List.flatten [(wPCo p70 b7 c7 d7 e7 h7 k7 st), (wSet cy b7 v), (wSav cy q h7 z), (wSet cy (q 0) s0), (wSet cy (q 1) s1), (wSet cy (q 2) s2), (wSet cy (q 3) s3), (wL cy o out)]))) 1 6 (muA (List.flatten [(wPCo p70 b7 c7 d7 e7 h7 k7 st), (wSet cy b7 v), (wSav cy q h7 z), (wSet cy (q 0) s0), (wSet cy (q 1) s1), (wSet cy (q 2) s2), (wSet cy (q 3) s3), (wL cy o out)])) := by
  refine va_MetW (cc := cL_follow) (maxL := 5) (ret := some .int) (hh := [(0, 10, 13, 21), (0, 10, 17, 13), (0, 10, 21, 15)]) (by decide) rfl ?_
  intro p e s m args below meth c s₁ BB hml hv
  obtain ⟨rfl, ⟨hP, hK0, hD0⟩, hNc⟩ := hv
  have hx := BB.exec
  have hb := BB.bytes
  have hr := BB.returns
  have hts := atoms_spec (ws := wsL_follow) BB.pre
  have hown : s.vm.findClass RL = some m.cls := findClass_of_methodNamed BB.named
  have hlocks := BB.notSynchronized
  have hT := vx_table (x := yL_follow) BB (hts (.codeWith yL_follow cL_follow 5 (some .int) [(0, 10, 13, 21), (0, 10, 17, 13), (0, 10, 21, 15)]) List.mem_cons_self)
  have S := my_fix hx hb hml hown hts
  have hAB := muB hD0
  have hD := muD hD0
  generalize hAe : muA (List.flatten [(wPCo p70 b7 c7 d7 e7 h7 k7 st), (wSet cy b7 v), (wSav cy q h7 z), (wSet cy (q 0) s0), (wSet cy (q 1) s1), (wSet cy (q 2) s2), (wSet cy (q 3) s3), (wL cy o out)]) = A at hAB hD ⊢
  have hS : va_S A s.heap s.heap [] := va_S.rf
  have hl := lv_entry ([.ref p70, .int x0, .int x1, .ref o]) (n := 5) (Nat.le_of_ble_eq_true rfl)
  rw [lg_entry_eq]
  generalize (lg_sl ([.ref p70, .int x0, .int x1, .ref o]) ++ List.replicate (5 - (lg_sl ([.ref p70, .int x0, .int x1, .ref o])).length) Slot.unset).toArray = ls at hl ⊢
  have hl : lv_has ls 5 [(0, .ref p70), (1, .int x0), (2, .int x1), (3, .ref o)] := hl
  refine lv_aload_n hx hb dL_follow_0 rfl (lv_at hl 3 rfl) ?_
  refine lv_iconst (v := 0) hx hb dL_follow_1 (by decide) ?_
  refine lv_aload_n hx hb dL_follow_2 rfl (lv_at hl 0 rfl) ?_
  refine lv_iload_n hx hb dL_follow_3 rfl (lv_at hl 1 rfl) ?_
  refine lv_iload_n hx hb dL_follow_4 rfl (lv_at hl 2 rfl) ?_
  refine wr_compi (wcs := [(wPCo p70 b7 c7 d7 e7 h7 k7 st), (wSet cy b7 v), (wSav cy q h7 z), (wSet cy (q 0) s0), (wSet cy (q 1) s1), (wSet cy (q 2) s2), (wSet cy (q 3) s3)]) (wns := fun u => [(wPCo p70 b7 c7 d7 e7 h7 k7 u.1), (wSet cy b7 u.2.1), (wSav cy q h7 u.2.2.1), (wSet cy (q 0) u.2.2.2.1), (wSet cy (q 1) u.2.2.2.2.1), (wSet cy (q 2) u.2.2.2.2.2.1), (wSet cy (q 3) u.2.2.2.2.2.2)]) (W2 := fun u => [(wPCo p70 b7 c7 d7 e7 h7 k7 u.1), (wSet cy b7 u.2.1), (wSav cy q h7 u.2.2.1), (wSet cy (q 0) u.2.2.2.1), (wSet cy (q 1) u.2.2.2.2.1), (wSet cy (q 2) u.2.2.2.2.2.1), (wSet cy (q 3) u.2.2.2.2.2.2), (wL cy o out)]) (vx_runV (C := RX7) (As := [.int x0, .int x1]) (rest := [.int 0, .ref o]) S (c_X7_follow l hl0 D cy g B p70 b7 c7 d7 e7 h7 k7 q st v z s0 s1 s2 s3 x0 x1) (cwV 2 hts gL_follow_X7_follow rfl rfl rfl hd_X7_follow_V ⟨Nat.le_of_ble_eq_true rfl, Nat.le_of_ble_eq_true rfl⟩) ⟨muP_blind, va_recv hK0.1 hP (ci := 5) (q0 := 0) rfl rfl, my_preC (wcs := [(wPCo p70 b7 c7 d7 e7 h7 k7 st), (wSet cy b7 v), (wSav cy q h7 z), (wSet cy (q 0) s0), (wSet cy (q 1) s1), (wSet cy (q 2) s2), (wSet cy (q 3) s3)]) hK0 hS hAB hP hD [0, 1, 2, 3, 4, 5, 6] (by decide) rfl rfl⟩ rfl rfl hl.1 rfl (lv_room (Nat.le_of_ble_eq_true rfl)) dL_follow_5 ⟨Nat.le_of_ble_eq_true rfl, Nat.le_of_ble_eq_true rfl⟩) hS hP hD [0, 1, 2, 3, 4, 5, 6] rfl rfl (fun _ => rfl) (fun _ => by simp only [List.map_cons, List.map_nil, adrSet, adrSetE, adrPow, adrPowE, adrTxt, adrTxtE, adrSav, adrSavE, adrPCo, adrMod, adrModE]) (fun _ => rfl) rfl (fun k E ce q9 H locs hG hE hP hS hce hcv hcl => ?_) (fun r u H locs hG hP hD hS => ?_)
  · have hk9 := hk k hG
    rcases hk9 with rfl | rfl | rfl
    · have hE := exE_1 hE
      subst hE
      refine vx_catch hown [] ⟨0, 10, 13, 21⟩ [⟨0, 10, 17, 13⟩, ⟨0, 10, 21, 15⟩] hT (fun z hz => absurd hz List.not_mem_nil) rfl (by decide) (hts (.classLink RL 21 "java/lang/IndexOutOfBoundsException") (by decide +kernel)) (va_Nw.use rfl hK0.2.1.2.2.2.1) hce hcv hcl ?_
      refine lv_astore (lv' := [(4, .ref q9), (0, .ref p70), (1, .int x0), (2, .int x1), (3, .ref o)]) hx hb dL_follow_13 hl (by decide) rfl (fun ls hl => ?_)
      refine lv_iconst (v := 1) hx hb dL_follow_15 (by decide) ?_
      exact W.iret (v := 1) hx hb hr (fun t ht hW => ⟨⟨1, ((st, v, z, s0, s1, s2, s3), out), rfl, (wrap_e (wrI_l hG) rfl), by show va_P D vwCl _ t.heap; rw [ht]; exact hP⟩, hS.F ht⟩) hS.2.2 dL_follow_16
    · have hE := exE_2 hE
      subst hE
      refine vx_catch hown [⟨0, 10, 13, 21⟩] ⟨0, 10, 17, 13⟩ [⟨0, 10, 21, 15⟩] hT (fun z hz => by rcases List.mem_singleton.mp hz with rfl; exact Or.inr ⟨by decide, _, (hts (.classLink RL 21 "java/lang/IndexOutOfBoundsException") (by decide +kernel)), hNc.1⟩) rfl (by decide) (hts (.classLink RL 13 "java/lang/IllegalArgumentException") (by decide +kernel)) (va_Nw.use rfl hK0.2.1.2.2.2.2.1) hce hcv hcl ?_
      refine lv_astore (lv' := [(4, .ref q9), (0, .ref p70), (1, .int x0), (2, .int x1), (3, .ref o)]) hx hb dL_follow_17 hl (by decide) rfl (fun ls hl => ?_)
      refine lv_iconst (v := 2) hx hb dL_follow_19 (by decide) ?_
      exact W.iret (v := 2) hx hb hr (fun t ht hW => ⟨⟨2, ((st, v, z, s0, s1, s2, s3), out), rfl, (wrap_e (wrI_l hG) rfl), by show va_P D vwCl _ t.heap; rw [ht]; exact hP⟩, hS.F ht⟩) hS.2.2 dL_follow_20
    · have hE := exE_3 hE
      subst hE
      refine vx_catch hown [⟨0, 10, 13, 21⟩, ⟨0, 10, 17, 13⟩] ⟨0, 10, 21, 15⟩ [] hT (fun z hz => by rcases List.mem_cons.mp hz with rfl | hz; exact Or.inr ⟨by decide, _, (hts (.classLink RL 21 "java/lang/IndexOutOfBoundsException") (by decide +kernel)), hNc.2.1⟩; rcases List.mem_singleton.mp hz with rfl; exact Or.inr ⟨by decide, _, (hts (.classLink RL 13 "java/lang/IllegalArgumentException") (by decide +kernel)), hNc.2.2⟩) rfl (by decide) (hts (.classLink RL 15 "java/lang/IllegalStateException") (by decide +kernel)) (va_Nw.use rfl hK0.2.1.2.2.2.2.2) hce hcv hcl ?_
      refine lv_astore (lv' := [(4, .ref q9), (0, .ref p70), (1, .int x0), (2, .int x1), (3, .ref o)]) hx hb dL_follow_21 hl (by decide) rfl (fun ls hl => ?_)
      refine lv_iconst (v := 3) hx hb dL_follow_23 (by decide) ?_
      exact W.iret (v := 3) hx hb hr (fun t ht hW => ⟨⟨3, ((st, v, z, s0, s1, s2, s3), out), rfl, (wrap_e (wrI_l hG) rfl), by show va_P D vwCl _ t.heap; rw [ht]; exact hP⟩, hS.F ht⟩) hS.2.2 dL_follow_24
  · refine lv_i2l (v := (Int32.toInt64 r)) hx hb dL_follow_8 rfl ?_
    refine va_last hx hb hK0.1 hP hD hS 48 3 rfl rfl (i := 0) (x := (Int32.toInt64 r)) (show ¬ ((0 : Int32) < 0 ∨ 1 ≤ (0 : Int32).toNatClampNeg) by decide) dL_follow_9 (fun H locs hP hD hS => ?_)
    have hP : va_P D vwCl (List.flatten [(wPCo p70 b7 c7 d7 e7 h7 k7 u.1), (wSet cy b7 u.2.1), (wSav cy q h7 u.2.2.1), (wSet cy (q 0) u.2.2.2.1), (wSet cy (q 1) u.2.2.2.2.1), (wSet cy (q 2) u.2.2.2.2.2.1), (wSet cy (q 3) u.2.2.2.2.2.2), (wL cy o (vp_updL out 0 (Int32.toInt64 r)))]) H := hP
    refine lv_goto (tgt := 25) hx hb dL_follow_10 (by decide) ?_
    refine lv_iconst (v := 0) hx hb dL_follow_25 (by decide) ?_
    exact W.iret (v := 0) hx hb hr (fun t ht hW => ⟨⟨0, (u, vp_updL out 0 (Int32.toInt64 r)), rfl, wrI_r hG, by show va_P D vwCl _ t.heap; rw [ht]; exact hP⟩, hS.F ht⟩) hS.2.2 dL_follow_26
set_option maxHeartbeats 1000000 in
set_option maxRecDepth 100000 in
theorem c_L_leave (l : Launch) (hl0 : l.stackTraces = false) (D : va_G) (cy : Nat → ClassId) (g : Nat → Nat) (B : Nat) (p70 : Nat) (b7 : Nat → Nat) (c7 : Nat → Nat) (d7 : Nat → Nat) (e7 : Nat → Nat) (h7 : Nat → Nat) (k7 : Nat → Nat) (q : Nat → Nat → Nat) (st : Int32) (v : SetV) (z : (Int32 × Int32)) (s0 : SetV) (s1 : SetV) (s2 : SetV) (s3 : SetV) (x0 : Int32) (o : Nat) (out : Nat → Int64) (hk : ∀ k, f_X7_leave st v z s0 s1 s2 s3 x0 = .inl k → k = 1 ∨ k = 3) : Met l yL_leave wsL_leave ({ frames := 9, cells := 1, slots := 6, locals := 154 }) (lwP D cy g B (List.flatten [(wPCo p70 b7 c7 d7 e7 h7 k7 st), (wSet cy b7 v), (wSav cy q h7 z), (wSet cy (q 0) s0), (wSet cy (q 1) s1), (wSet cy (q 2) s2), (wSet cy (q 3) s3), (wL cy o out)]) [.ref p70, .int x0, .ref o]) (va_Qi (fun (r : Int32) (u : (Int32 × SetV × (Int32 × Int32) × SetV × SetV × SetV × SetV) × (Nat → Int64)) => wrI (f_X7_leave st v z s0 s1 s2 s3 x0) (fun f => if f = 1 then 1 else 2) (st, v, z, s0, s1, s2, s3) out = (r, u)) (fun u t => va_P D vwCl (List.flatten [(wPCo p70 b7 c7 d7 e7 h7 k7 u.1.1), (wSet cy b7 u.1.2.1), (wSav cy q h7 u.1.2.2.1), (wSet cy (q 0) u.1.2.2.2.1), (wSet cy (q 1) u.1.2.2.2.2.1), (wSet cy (q 2) u.1.2.2.2.2.2.1), (wSet cy (q 3) u.1.2.2.2.2.2.2), (wL cy o u.2)]) t.heap) (muA (List.flatten [(wPCo p70 b7 c7 d7 e7 h7 k7 st), (wSet cy b7 v), (wSav cy q h7 z), (wSet cy (q 0) s0), (wSet cy (q 1) s1), (wSet cy (q 2) s2), (wSet cy (q 3) s3), (wL cy o out)]))) 1 6 (muA (List.flatten [(wPCo p70 b7 c7 d7 e7 h7 k7 st), (wSet cy b7 v), (wSav cy q h7 z), (wSet cy (q 0) s0), (wSet cy (q 1) s1), (wSet cy (q 2) s2), (wSet cy (q 3) s3), (wL cy o out)])) := by
  refine va_MetW (cc := cL_leave) (maxL := 4) (ret := some .int) (hh := [(0, 9, 12, 21), (0, 9, 15, 15)]) (by decide) rfl ?_
  intro p e s m args below meth c s₁ BB hml hv
  obtain ⟨rfl, ⟨hP, hK0, hD0⟩, hNc⟩ := hv
  have hx := BB.exec
  have hb := BB.bytes
  have hr := BB.returns
  have hts := atoms_spec (ws := wsL_leave) BB.pre
  have hown : s.vm.findClass RL = some m.cls := findClass_of_methodNamed BB.named
  have hlocks := BB.notSynchronized
  have hT := vx_table (x := yL_leave) BB (hts (.codeWith yL_leave cL_leave 4 (some .int) [(0, 9, 12, 21), (0, 9, 15, 15)]) List.mem_cons_self)
  have S := my_fix hx hb hml hown hts
  have hAB := muB hD0
  have hD := muD hD0
  generalize hAe : muA (List.flatten [(wPCo p70 b7 c7 d7 e7 h7 k7 st), (wSet cy b7 v), (wSav cy q h7 z), (wSet cy (q 0) s0), (wSet cy (q 1) s1), (wSet cy (q 2) s2), (wSet cy (q 3) s3), (wL cy o out)]) = A at hAB hD ⊢
  have hS : va_S A s.heap s.heap [] := va_S.rf
  have hl := lv_entry ([.ref p70, .int x0, .ref o]) (n := 4) (Nat.le_of_ble_eq_true rfl)
  rw [lg_entry_eq]
  generalize (lg_sl ([.ref p70, .int x0, .ref o]) ++ List.replicate (4 - (lg_sl ([.ref p70, .int x0, .ref o])).length) Slot.unset).toArray = ls at hl ⊢
  have hl : lv_has ls 4 [(0, .ref p70), (1, .int x0), (2, .ref o)] := hl
  refine lv_aload_n hx hb dL_leave_0 rfl (lv_at hl 2 rfl) ?_
  refine lv_iconst (v := 0) hx hb dL_leave_1 (by decide) ?_
  refine lv_aload_n hx hb dL_leave_2 rfl (lv_at hl 0 rfl) ?_
  refine lv_iload_n hx hb dL_leave_3 rfl (lv_at hl 1 rfl) ?_
  refine wr_compi (wcs := [(wPCo p70 b7 c7 d7 e7 h7 k7 st), (wSet cy b7 v), (wSav cy q h7 z), (wSet cy (q 0) s0), (wSet cy (q 1) s1), (wSet cy (q 2) s2), (wSet cy (q 3) s3)]) (wns := fun u => [(wPCo p70 b7 c7 d7 e7 h7 k7 u.1), (wSet cy b7 u.2.1), (wSav cy q h7 u.2.2.1), (wSet cy (q 0) u.2.2.2.1), (wSet cy (q 1) u.2.2.2.2.1), (wSet cy (q 2) u.2.2.2.2.2.1), (wSet cy (q 3) u.2.2.2.2.2.2)]) (W2 := fun u => [(wPCo p70 b7 c7 d7 e7 h7 k7 u.1), (wSet cy b7 u.2.1), (wSav cy q h7 u.2.2.1), (wSet cy (q 0) u.2.2.2.1), (wSet cy (q 1) u.2.2.2.2.1), (wSet cy (q 2) u.2.2.2.2.2.1), (wSet cy (q 3) u.2.2.2.2.2.2), (wL cy o out)]) (vx_runV (C := RX7) (As := [.int x0]) (rest := [.int 0, .ref o]) S (c_X7_leave l hl0 D cy g B p70 b7 c7 d7 e7 h7 k7 q st v z s0 s1 s2 s3 x0) (cwV 1 hts gL_leave_X7_leave rfl rfl rfl hd_X7_leave_V ⟨Nat.le_of_ble_eq_true rfl, Nat.le_of_ble_eq_true rfl⟩) ⟨muP_blind, va_recv hK0.1 hP (ci := 5) (q0 := 0) rfl rfl, my_preC (wcs := [(wPCo p70 b7 c7 d7 e7 h7 k7 st), (wSet cy b7 v), (wSav cy q h7 z), (wSet cy (q 0) s0), (wSet cy (q 1) s1), (wSet cy (q 2) s2), (wSet cy (q 3) s3)]) hK0 hS hAB hP hD [0, 1, 2, 3, 4, 5, 6] (by decide) rfl rfl⟩ rfl rfl hl.1 rfl (lv_room (Nat.le_of_ble_eq_true rfl)) dL_leave_4 ⟨Nat.le_of_ble_eq_true rfl, Nat.le_of_ble_eq_true rfl⟩) hS hP hD [0, 1, 2, 3, 4, 5, 6] rfl rfl (fun _ => rfl) (fun _ => by simp only [List.map_cons, List.map_nil, adrSet, adrSetE, adrPow, adrPowE, adrTxt, adrTxtE, adrSav, adrSavE, adrPCo, adrMod, adrModE]) (fun _ => rfl) rfl (fun k E ce q9 H locs hG hE hP hS hce hcv hcl => ?_) (fun r u H locs hG hP hD hS => ?_)
  · have hk9 := hk k hG
    rcases hk9 with rfl | rfl
    · have hE := exE_1 hE
      subst hE
      refine vx_catch hown [] ⟨0, 9, 12, 21⟩ [⟨0, 9, 15, 15⟩] hT (fun z hz => absurd hz List.not_mem_nil) rfl (by decide) (hts (.classLink RL 21 "java/lang/IndexOutOfBoundsException") (by decide +kernel)) (va_Nw.use rfl hK0.2.1.2.2.2.1) hce hcv hcl ?_
      refine lv_astore_n (lv' := [(3, .ref q9), (0, .ref p70), (1, .int x0), (2, .ref o)]) hx hb dL_leave_12 rfl hl (by decide) rfl (fun ls hl => ?_)
      refine lv_iconst (v := 1) hx hb dL_leave_13 (by decide) ?_
      exact W.iret (v := 1) hx hb hr (fun t ht hW => ⟨⟨1, ((st, v, z, s0, s1, s2, s3), out), rfl, (wrap_e (wrI_l hG) rfl), by show va_P D vwCl _ t.heap; rw [ht]; exact hP⟩, hS.F ht⟩) hS.2.2 dL_leave_14
    · have hE := exE_3 hE
      subst hE
      refine vx_catch hown [⟨0, 9, 12, 21⟩] ⟨0, 9, 15, 15⟩ [] hT (fun z hz => by rcases List.mem_singleton.mp hz with rfl; exact Or.inr ⟨by decide, _, (hts (.classLink RL 21 "java/lang/IndexOutOfBoundsException") (by decide +kernel)), hNc.2.1⟩) rfl (by decide) (hts (.classLink RL 15 "java/lang/IllegalStateException") (by decide +kernel)) (va_Nw.use rfl hK0.2.1.2.2.2.2.2) hce hcv hcl ?_
      refine lv_astore_n (lv' := [(3, .ref q9), (0, .ref p70), (1, .int x0), (2, .ref o)]) hx hb dL_leave_15 rfl hl (by decide) rfl (fun ls hl => ?_)
      refine lv_iconst (v := 2) hx hb dL_leave_16 (by decide) ?_
      exact W.iret (v := 2) hx hb hr (fun t ht hW => ⟨⟨2, ((st, v, z, s0, s1, s2, s3), out), rfl, (wrap_e (wrI_l hG) rfl), by show va_P D vwCl _ t.heap; rw [ht]; exact hP⟩, hS.F ht⟩) hS.2.2 dL_leave_17
  · refine lv_i2l (v := (Int32.toInt64 r)) hx hb dL_leave_7 rfl ?_
    refine va_last hx hb hK0.1 hP hD hS 48 3 rfl rfl (i := 0) (x := (Int32.toInt64 r)) (show ¬ ((0 : Int32) < 0 ∨ 1 ≤ (0 : Int32).toNatClampNeg) by decide) dL_leave_8 (fun H locs hP hD hS => ?_)
    have hP : va_P D vwCl (List.flatten [(wPCo p70 b7 c7 d7 e7 h7 k7 u.1), (wSet cy b7 u.2.1), (wSav cy q h7 u.2.2.1), (wSet cy (q 0) u.2.2.2.1), (wSet cy (q 1) u.2.2.2.2.1), (wSet cy (q 2) u.2.2.2.2.2.1), (wSet cy (q 3) u.2.2.2.2.2.2), (wL cy o (vp_updL out 0 (Int32.toInt64 r)))]) H := hP
    refine lv_goto (tgt := 18) hx hb dL_leave_9 (by decide) ?_
    refine lv_iconst (v := 0) hx hb dL_leave_18 (by decide) ?_
    exact W.iret (v := 0) hx hb hr (fun t ht hW => ⟨⟨0, (u, vp_updL out 0 (Int32.toInt64 r)), rfl, wrI_r hG, by show va_P D vwCl _ t.heap; rw [ht]; exact hP⟩, hS.F ht⟩) hS.2.2 dL_leave_19
set_option maxHeartbeats 1000000 in
set_option maxRecDepth 100000 in
theorem c_L_addRule (l : Launch) (hl0 : l.stackTraces = false) (D : va_G) (cy : Nat → ClassId) (g : Nat → Nat) (B : Nat) (p70 : Nat) (b7 : Nat → Nat) (c7 : Nat → Nat) (d7 : Nat → Nat) (e7 : Nat → Nat) (h7 : Nat → Nat) (k7 : Nat → Nat) (q : Nat → Nat → Nat) (st : Int32) (v : SetV) (z : (Int32 × Int32)) (s0 : SetV) (s1 : SetV) (s2 : SetV) (s3 : SetV) (x0 : Int32) (x1 : Int32) (o : Nat) (out : Nat → Int64) (hk : ∀ k, f_X7_addRule st v z s0 s1 s2 s3 x0 x1 = .inl k → k = 2 ∨ k = 3) : Met l yL_addRule wsL_addRule ({ frames := 9, cells := 1, slots := 6, locals := 155 }) (lwP D cy g B (List.flatten [(wPCo p70 b7 c7 d7 e7 h7 k7 st), (wSet cy b7 v), (wSav cy q h7 z), (wSet cy (q 0) s0), (wSet cy (q 1) s1), (wSet cy (q 2) s2), (wSet cy (q 3) s3), (wL cy o out)]) [.ref p70, .int x0, .int x1, .ref o]) (va_Qi (fun (r : Int32) (u : (Int32 × SetV × (Int32 × Int32) × SetV × SetV × SetV × SetV) × (Nat → Int64)) => wrI (f_X7_addRule st v z s0 s1 s2 s3 x0 x1) (fun f => if f = 2 then 1 else 2) (st, v, z, s0, s1, s2, s3) out = (r, u)) (fun u t => va_P D vwCl (List.flatten [(wPCo p70 b7 c7 d7 e7 h7 k7 u.1.1), (wSet cy b7 u.1.2.1), (wSav cy q h7 u.1.2.2.1), (wSet cy (q 0) u.1.2.2.2.1), (wSet cy (q 1) u.1.2.2.2.2.1), (wSet cy (q 2) u.1.2.2.2.2.2.1), (wSet cy (q 3) u.1.2.2.2.2.2.2), (wL cy o u.2)]) t.heap) (muA (List.flatten [(wPCo p70 b7 c7 d7 e7 h7 k7 st), (wSet cy b7 v), (wSav cy q h7 z), (wSet cy (q 0) s0), (wSet cy (q 1) s1), (wSet cy (q 2) s2), (wSet cy (q 3) s3), (wL cy o out)]))) 1 6 (muA (List.flatten [(wPCo p70 b7 c7 d7 e7 h7 k7 st), (wSet cy b7 v), (wSav cy q h7 z), (wSet cy (q 0) s0), (wSet cy (q 1) s1), (wSet cy (q 2) s2), (wSet cy (q 3) s3), (wL cy o out)])) := by
  refine va_MetW (cc := cL_addRule) (maxL := 5) (ret := some .int) (hh := [(0, 10, 13, 13), (0, 10, 17, 15)]) (by decide) rfl ?_
  intro p e s m args below meth c s₁ BB hml hv
  obtain ⟨rfl, ⟨hP, hK0, hD0⟩, hNc⟩ := hv
  have hx := BB.exec
  have hb := BB.bytes
  have hr := BB.returns
  have hts := atoms_spec (ws := wsL_addRule) BB.pre
  have hown : s.vm.findClass RL = some m.cls := findClass_of_methodNamed BB.named
  have hlocks := BB.notSynchronized
  have hT := vx_table (x := yL_addRule) BB (hts (.codeWith yL_addRule cL_addRule 5 (some .int) [(0, 10, 13, 13), (0, 10, 17, 15)]) List.mem_cons_self)
  have S := my_fix hx hb hml hown hts
  have hAB := muB hD0
  have hD := muD hD0
  generalize hAe : muA (List.flatten [(wPCo p70 b7 c7 d7 e7 h7 k7 st), (wSet cy b7 v), (wSav cy q h7 z), (wSet cy (q 0) s0), (wSet cy (q 1) s1), (wSet cy (q 2) s2), (wSet cy (q 3) s3), (wL cy o out)]) = A at hAB hD ⊢
  have hS : va_S A s.heap s.heap [] := va_S.rf
  have hl := lv_entry ([.ref p70, .int x0, .int x1, .ref o]) (n := 5) (Nat.le_of_ble_eq_true rfl)
  rw [lg_entry_eq]
  generalize (lg_sl ([.ref p70, .int x0, .int x1, .ref o]) ++ List.replicate (5 - (lg_sl ([.ref p70, .int x0, .int x1, .ref o])).length) Slot.unset).toArray = ls at hl ⊢
  have hl : lv_has ls 5 [(0, .ref p70), (1, .int x0), (2, .int x1), (3, .ref o)] := hl
  refine lv_aload_n hx hb dL_addRule_0 rfl (lv_at hl 3 rfl) ?_
  refine lv_iconst (v := 0) hx hb dL_addRule_1 (by decide) ?_
  refine lv_aload_n hx hb dL_addRule_2 rfl (lv_at hl 0 rfl) ?_
  refine lv_iload_n hx hb dL_addRule_3 rfl (lv_at hl 1 rfl) ?_
  refine lv_iload_n hx hb dL_addRule_4 rfl (lv_at hl 2 rfl) ?_
  refine wr_compi (wcs := [(wPCo p70 b7 c7 d7 e7 h7 k7 st), (wSet cy b7 v), (wSav cy q h7 z), (wSet cy (q 0) s0), (wSet cy (q 1) s1), (wSet cy (q 2) s2), (wSet cy (q 3) s3)]) (wns := fun u => [(wPCo p70 b7 c7 d7 e7 h7 k7 u.1), (wSet cy b7 u.2.1), (wSav cy q h7 u.2.2.1), (wSet cy (q 0) u.2.2.2.1), (wSet cy (q 1) u.2.2.2.2.1), (wSet cy (q 2) u.2.2.2.2.2.1), (wSet cy (q 3) u.2.2.2.2.2.2)]) (W2 := fun u => [(wPCo p70 b7 c7 d7 e7 h7 k7 u.1), (wSet cy b7 u.2.1), (wSav cy q h7 u.2.2.1), (wSet cy (q 0) u.2.2.2.1), (wSet cy (q 1) u.2.2.2.2.1), (wSet cy (q 2) u.2.2.2.2.2.1), (wSet cy (q 3) u.2.2.2.2.2.2), (wL cy o out)]) (vx_runV (C := RX7) (As := [.int x0, .int x1]) (rest := [.int 0, .ref o]) S (c_X7_addRule l hl0 D cy g B p70 b7 c7 d7 e7 h7 k7 q st v z s0 s1 s2 s3 x0 x1) (cwV 2 hts gL_addRule_X7_addRule rfl rfl rfl hd_X7_addRule_V ⟨Nat.le_of_ble_eq_true rfl, Nat.le_of_ble_eq_true rfl⟩) ⟨muP_blind, va_recv hK0.1 hP (ci := 5) (q0 := 0) rfl rfl, my_preC (wcs := [(wPCo p70 b7 c7 d7 e7 h7 k7 st), (wSet cy b7 v), (wSav cy q h7 z), (wSet cy (q 0) s0), (wSet cy (q 1) s1), (wSet cy (q 2) s2), (wSet cy (q 3) s3)]) hK0 hS hAB hP hD [0, 1, 2, 3, 4, 5, 6] (by decide) rfl rfl⟩ rfl rfl hl.1 rfl (lv_room (Nat.le_of_ble_eq_true rfl)) dL_addRule_5 ⟨Nat.le_of_ble_eq_true rfl, Nat.le_of_ble_eq_true rfl⟩) hS hP hD [0, 1, 2, 3, 4, 5, 6] rfl rfl (fun _ => rfl) (fun _ => by simp only [List.map_cons, List.map_nil, adrSet, adrSetE, adrPow, adrPowE, adrTxt, adrTxtE, adrSav, adrSavE, adrPCo, adrMod, adrModE]) (fun _ => rfl) rfl (fun k E ce q9 H locs hG hE hP hS hce hcv hcl => ?_) (fun r u H locs hG hP hD hS => ?_)
  · have hk9 := hk k hG
    rcases hk9 with rfl | rfl
    · have hE := exE_2 hE
      subst hE
      refine vx_catch hown [] ⟨0, 10, 13, 13⟩ [⟨0, 10, 17, 15⟩] hT (fun z hz => absurd hz List.not_mem_nil) rfl (by decide) (hts (.classLink RL 13 "java/lang/IllegalArgumentException") (by decide +kernel)) (va_Nw.use rfl hK0.2.1.2.2.2.2.1) hce hcv hcl ?_
      refine lv_astore (lv' := [(4, .ref q9), (0, .ref p70), (1, .int x0), (2, .int x1), (3, .ref o)]) hx hb dL_addRule_13 hl (by decide) rfl (fun ls hl => ?_)
      refine lv_iconst (v := 1) hx hb dL_addRule_15 (by decide) ?_
      exact W.iret (v := 1) hx hb hr (fun t ht hW => ⟨⟨1, ((st, v, z, s0, s1, s2, s3), out), rfl, (wrap_e (wrI_l hG) rfl), by show va_P D vwCl _ t.heap; rw [ht]; exact hP⟩, hS.F ht⟩) hS.2.2 dL_addRule_16
    · have hE := exE_3 hE
      subst hE
      refine vx_catch hown [⟨0, 10, 13, 13⟩] ⟨0, 10, 17, 15⟩ [] hT (fun z hz => by rcases List.mem_singleton.mp hz with rfl; exact Or.inr ⟨by decide, _, (hts (.classLink RL 13 "java/lang/IllegalArgumentException") (by decide +kernel)), hNc.2.2⟩) rfl (by decide) (hts (.classLink RL 15 "java/lang/IllegalStateException") (by decide +kernel)) (va_Nw.use rfl hK0.2.1.2.2.2.2.2) hce hcv hcl ?_
      refine lv_astore (lv' := [(4, .ref q9), (0, .ref p70), (1, .int x0), (2, .int x1), (3, .ref o)]) hx hb dL_addRule_17 hl (by decide) rfl (fun ls hl => ?_)
      refine lv_iconst (v := 2) hx hb dL_addRule_19 (by decide) ?_
      exact W.iret (v := 2) hx hb hr (fun t ht hW => ⟨⟨2, ((st, v, z, s0, s1, s2, s3), out), rfl, (wrap_e (wrI_l hG) rfl), by show va_P D vwCl _ t.heap; rw [ht]; exact hP⟩, hS.F ht⟩) hS.2.2 dL_addRule_20
  · refine lv_i2l (v := (Int32.toInt64 r)) hx hb dL_addRule_8 rfl ?_
    refine va_last hx hb hK0.1 hP hD hS 48 3 rfl rfl (i := 0) (x := (Int32.toInt64 r)) (show ¬ ((0 : Int32) < 0 ∨ 1 ≤ (0 : Int32).toNatClampNeg) by decide) dL_addRule_9 (fun H locs hP hD hS => ?_)
    have hP : va_P D vwCl (List.flatten [(wPCo p70 b7 c7 d7 e7 h7 k7 u.1), (wSet cy b7 u.2.1), (wSav cy q h7 u.2.2.1), (wSet cy (q 0) u.2.2.2.1), (wSet cy (q 1) u.2.2.2.2.1), (wSet cy (q 2) u.2.2.2.2.2.1), (wSet cy (q 3) u.2.2.2.2.2.2), (wL cy o (vp_updL out 0 (Int32.toInt64 r)))]) H := hP
    refine lv_goto (tgt := 21) hx hb dL_addRule_10 (by decide) ?_
    refine lv_iconst (v := 0) hx hb dL_addRule_21 (by decide) ?_
    exact W.iret (v := 0) hx hb hr (fun t ht hW => ⟨⟨0, (u, vp_updL out 0 (Int32.toInt64 r)), rfl, wrI_r hG, by show va_P D vwCl _ t.heap; rw [ht]; exact hP⟩, hS.F ht⟩) hS.2.2 dL_addRule_22
set_option maxHeartbeats 1000000 in
set_option maxRecDepth 100000 in
theorem c_L_dropRule (l : Launch) (hl0 : l.stackTraces = false) (D : va_G) (cy : Nat → ClassId) (g : Nat → Nat) (B : Nat) (p70 : Nat) (b7 : Nat → Nat) (c7 : Nat → Nat) (d7 : Nat → Nat) (e7 : Nat → Nat) (h7 : Nat → Nat) (k7 : Nat → Nat) (q : Nat → Nat → Nat) (st : Int32) (v : SetV) (z : (Int32 × Int32)) (s0 : SetV) (s1 : SetV) (s2 : SetV) (s3 : SetV) (x0 : Int32) (o : Nat) (out : Nat → Int64) (hk : ∀ k, f_X7_dropRule st v z s0 s1 s2 s3 x0 = .inl k → k = 1) : Met l yL_dropRule wsL_dropRule ({ frames := 9, cells := 1, slots := 6, locals := 154 }) (lwP D cy g B (List.flatten [(wPCo p70 b7 c7 d7 e7 h7 k7 st), (wSet cy b7 v), (wSav cy q h7 z), (wSet cy (q 0) s0), (wSet cy (q 1) s1), (wSet cy (q 2) s2), (wSet cy (q 3) s3), (wL cy o out)]) [.ref p70, .int x0, .ref o]) (va_Qi (fun (r : Int32) (u : (Int32 × SetV × (Int32 × Int32) × SetV × SetV × SetV × SetV) × (Nat → Int64)) => wrI (f_X7_dropRule st v z s0 s1 s2 s3 x0) (fun _ => 1) (st, v, z, s0, s1, s2, s3) out = (r, u)) (fun u t => va_P D vwCl (List.flatten [(wPCo p70 b7 c7 d7 e7 h7 k7 u.1.1), (wSet cy b7 u.1.2.1), (wSav cy q h7 u.1.2.2.1), (wSet cy (q 0) u.1.2.2.2.1), (wSet cy (q 1) u.1.2.2.2.2.1), (wSet cy (q 2) u.1.2.2.2.2.2.1), (wSet cy (q 3) u.1.2.2.2.2.2.2), (wL cy o u.2)]) t.heap) (muA (List.flatten [(wPCo p70 b7 c7 d7 e7 h7 k7 st), (wSet cy b7 v), (wSav cy q h7 z), (wSet cy (q 0) s0), (wSet cy (q 1) s1), (wSet cy (q 2) s2), (wSet cy (q 3) s3), (wL cy o out)]))) 1 6 (muA (List.flatten [(wPCo p70 b7 c7 d7 e7 h7 k7 st), (wSet cy b7 v), (wSav cy q h7 z), (wSet cy (q 0) s0), (wSet cy (q 1) s1), (wSet cy (q 2) s2), (wSet cy (q 3) s3), (wL cy o out)])) := by
  refine va_MetW (cc := cL_dropRule) (maxL := 4) (ret := some .int) (hh := [(0, 9, 12, 21)]) (by decide) rfl ?_
  intro p e s m args below meth c s₁ BB hml hv
  obtain ⟨rfl, ⟨hP, hK0, hD0⟩, hNc⟩ := hv
  have hx := BB.exec
  have hb := BB.bytes
  have hr := BB.returns
  have hts := atoms_spec (ws := wsL_dropRule) BB.pre
  have hown : s.vm.findClass RL = some m.cls := findClass_of_methodNamed BB.named
  have hlocks := BB.notSynchronized
  have hT := vx_table (x := yL_dropRule) BB (hts (.codeWith yL_dropRule cL_dropRule 4 (some .int) [(0, 9, 12, 21)]) List.mem_cons_self)
  have S := my_fix hx hb hml hown hts
  have hAB := muB hD0
  have hD := muD hD0
  generalize hAe : muA (List.flatten [(wPCo p70 b7 c7 d7 e7 h7 k7 st), (wSet cy b7 v), (wSav cy q h7 z), (wSet cy (q 0) s0), (wSet cy (q 1) s1), (wSet cy (q 2) s2), (wSet cy (q 3) s3), (wL cy o out)]) = A at hAB hD ⊢
  have hS : va_S A s.heap s.heap [] := va_S.rf
  have hl := lv_entry ([.ref p70, .int x0, .ref o]) (n := 4) (Nat.le_of_ble_eq_true rfl)
  rw [lg_entry_eq]
  generalize (lg_sl ([.ref p70, .int x0, .ref o]) ++ List.replicate (4 - (lg_sl ([.ref p70, .int x0, .ref o])).length) Slot.unset).toArray = ls at hl ⊢
  have hl : lv_has ls 4 [(0, .ref p70), (1, .int x0), (2, .ref o)] := hl
  refine lv_aload_n hx hb dL_dropRule_0 rfl (lv_at hl 2 rfl) ?_
  refine lv_iconst (v := 0) hx hb dL_dropRule_1 (by decide) ?_
  refine lv_aload_n hx hb dL_dropRule_2 rfl (lv_at hl 0 rfl) ?_
  refine lv_iload_n hx hb dL_dropRule_3 rfl (lv_at hl 1 rfl) ?_
  refine wr_compi (wcs := [(wPCo p70 b7 c7 d7 e7 h7 k7 st), (wSet cy b7 v), (wSav cy q h7 z), (wSet cy (q 0) s0), (wSet cy (q 1) s1), (wSet cy (q 2) s2), (wSet cy (q 3) s3)]) (wns := fun u => [(wPCo p70 b7 c7 d7 e7 h7 k7 u.1), (wSet cy b7 u.2.1), (wSav cy q h7 u.2.2.1), (wSet cy (q 0) u.2.2.2.1), (wSet cy (q 1) u.2.2.2.2.1), (wSet cy (q 2) u.2.2.2.2.2.1), (wSet cy (q 3) u.2.2.2.2.2.2)]) (W2 := fun u => [(wPCo p70 b7 c7 d7 e7 h7 k7 u.1), (wSet cy b7 u.2.1), (wSav cy q h7 u.2.2.1), (wSet cy (q 0) u.2.2.2.1), (wSet cy (q 1) u.2.2.2.2.1), (wSet cy (q 2) u.2.2.2.2.2.1), (wSet cy (q 3) u.2.2.2.2.2.2), (wL cy o out)]) (vx_runV (C := RX7) (As := [.int x0]) (rest := [.int 0, .ref o]) S (c_X7_dropRule l hl0 D cy g B p70 b7 c7 d7 e7 h7 k7 q st v z s0 s1 s2 s3 x0) (cwV 1 hts gL_dropRule_X7_dropRule rfl rfl rfl hd_X7_dropRule_V ⟨Nat.le_of_ble_eq_true rfl, Nat.le_of_ble_eq_true rfl⟩) ⟨muP_blind, va_recv hK0.1 hP (ci := 5) (q0 := 0) rfl rfl, my_preC (wcs := [(wPCo p70 b7 c7 d7 e7 h7 k7 st), (wSet cy b7 v), (wSav cy q h7 z), (wSet cy (q 0) s0), (wSet cy (q 1) s1), (wSet cy (q 2) s2), (wSet cy (q 3) s3)]) hK0 hS hAB hP hD [0, 1, 2, 3, 4, 5, 6] (by decide) rfl rfl⟩ rfl rfl hl.1 rfl (lv_room (Nat.le_of_ble_eq_true rfl)) dL_dropRule_4 ⟨Nat.le_of_ble_eq_true rfl, Nat.le_of_ble_eq_true rfl⟩) hS hP hD [0, 1, 2, 3, 4, 5, 6] rfl rfl (fun _ => rfl) (fun _ => by simp only [List.map_cons, List.map_nil, adrSet, adrSetE, adrPow, adrPowE, adrTxt, adrTxtE, adrSav, adrSavE, adrPCo, adrMod, adrModE]) (fun _ => rfl) rfl (fun k E ce q9 H locs hG hE hP hS hce hcv hcl => ?_) (fun r u H locs hG hP hD hS => ?_)
  · have hk9 := hk k hG
    subst hk9
    have hE := exE_1 hE
    subst hE
    refine vx_catch hown [] ⟨0, 9, 12, 21⟩ [] hT (fun z hz => absurd hz List.not_mem_nil) rfl (by decide) (hts (.classLink RL 21 "java/lang/IndexOutOfBoundsException") (by decide +kernel)) (va_Nw.use rfl hK0.2.1.2.2.2.1) hce hcv hcl ?_
    refine lv_astore_n (lv' := [(3, .ref q9), (0, .ref p70), (1, .int x0), (2, .ref o)]) hx hb dL_dropRule_12 rfl hl (by decide) rfl (fun ls hl => ?_)
    refine lv_iconst (v := 1) hx hb dL_dropRule_13 (by decide) ?_
    exact W.iret (v := 1) hx hb hr (fun t ht hW => ⟨⟨1, ((st, v, z, s0, s1, s2, s3), out), rfl, (wrap_e (wrI_l hG) rfl), by show va_P D vwCl _ t.heap; rw [ht]; exact hP⟩, hS.F ht⟩) hS.2.2 dL_dropRule_14
  · refine lv_i2l (v := (Int32.toInt64 r)) hx hb dL_dropRule_7 rfl ?_
    refine va_last hx hb hK0.1 hP hD hS 48 3 rfl rfl (i := 0) (x := (Int32.toInt64 r)) (show ¬ ((0 : Int32) < 0 ∨ 1 ≤ (0 : Int32).toNatClampNeg) by decide) dL_dropRule_8 (fun H locs hP hD hS => ?_)
    have hP : va_P D vwCl (List.flatten [(wPCo p70 b7 c7 d7 e7 h7 k7 u.1), (wSet cy b7 u.2.1), (wSav cy q h7 u.2.2.1), (wSet cy (q 0) u.2.2.2.1), (wSet cy (q 1) u.2.2.2.2.1), (wSet cy (q 2) u.2.2.2.2.2.1), (wSet cy (q 3) u.2.2.2.2.2.2), (wL cy o (vp_updL out 0 (Int32.toInt64 r)))]) H := hP
    refine lv_goto (tgt := 15) hx hb dL_dropRule_9 (by decide) ?_
    refine lv_iconst (v := 0) hx hb dL_dropRule_15 (by decide) ?_
    exact W.iret (v := 0) hx hb hr (fun t ht hW => ⟨⟨0, (u, vp_updL out 0 (Int32.toInt64 r)), rfl, wrI_r hG, by show va_P D vwCl _ t.heap; rw [ht]; exact hP⟩, hS.F ht⟩) hS.2.2 dL_dropRule_16
set_option maxHeartbeats 1000000 in
set_option maxRecDepth 100000 in
theorem c_L_member (l : Launch) (hl0 : l.stackTraces = false) (D : va_G) (cy : Nat → ClassId) (g : Nat → Nat) (B : Nat) (p70 : Nat) (b7 : Nat → Nat) (c7 : Nat → Nat) (d7 : Nat → Nat) (e7 : Nat → Nat) (h7 : Nat → Nat) (k7 : Nat → Nat) (st : Int32) (v : SetV) (w : PowV) (x0 : Int32) (x1 : Int32) (o : Nat) (out : Nat → Int64) (hk : ∀ k, f_X7_member st v w x0 x1 = .inl k → k = 1 ∨ k = 2) : Met l yL_member wsL_member ({ frames := 8, cells := 2, slots := 12, locals := 154 }) (lwP D cy g B (List.flatten [(wPCo p70 b7 c7 d7 e7 h7 k7 st), (wSet cy b7 v), (wPow cy c7 w), (wL cy o out)]) [.ref p70, .int x0, .int x1, .ref o]) (va_Qi (fun (r : Int32) (u : (Int32 × PowV) × (Nat → Int64)) => wrI (f_X7_member st v w x0 x1) (fun f => f) (st, w) out = (r, u)) (fun u t => va_P D vwCl (List.flatten [(wPCo p70 b7 c7 d7 e7 h7 k7 u.1.1), (wSet cy b7 v), (wPow cy c7 u.1.2), (wL cy o u.2)]) t.heap) (muA (List.flatten [(wPCo p70 b7 c7 d7 e7 h7 k7 st), (wSet cy b7 v), (wPow cy c7 w), (wL cy o out)]))) 2 12 (muA (List.flatten [(wPCo p70 b7 c7 d7 e7 h7 k7 st), (wSet cy b7 v), (wPow cy c7 w), (wL cy o out)])) := by
  refine va_MetW (cc := cL_member) (maxL := 5) (ret := some .int) (hh := [(0, 10, 13, 21), (0, 10, 17, 13)]) (by decide) rfl ?_
  intro p e s m args below meth c s₁ BB hml hv
  obtain ⟨rfl, ⟨hP, hK0, hD0⟩, hNc⟩ := hv
  have hx := BB.exec
  have hb := BB.bytes
  have hr := BB.returns
  have hts := atoms_spec (ws := wsL_member) BB.pre
  have hown : s.vm.findClass RL = some m.cls := findClass_of_methodNamed BB.named
  have hlocks := BB.notSynchronized
  have hT := vx_table (x := yL_member) BB (hts (.codeWith yL_member cL_member 5 (some .int) [(0, 10, 13, 21), (0, 10, 17, 13)]) List.mem_cons_self)
  have S := my_fix hx hb hml hown hts
  have hAB := muB hD0
  have hD := muD hD0
  generalize hAe : muA (List.flatten [(wPCo p70 b7 c7 d7 e7 h7 k7 st), (wSet cy b7 v), (wPow cy c7 w), (wL cy o out)]) = A at hAB hD ⊢
  have hS : va_S A s.heap s.heap [] := va_S.rf
  have hl := lv_entry ([.ref p70, .int x0, .int x1, .ref o]) (n := 5) (Nat.le_of_ble_eq_true rfl)
  rw [lg_entry_eq]
  generalize (lg_sl ([.ref p70, .int x0, .int x1, .ref o]) ++ List.replicate (5 - (lg_sl ([.ref p70, .int x0, .int x1, .ref o])).length) Slot.unset).toArray = ls at hl ⊢
  have hl : lv_has ls 5 [(0, .ref p70), (1, .int x0), (2, .int x1), (3, .ref o)] := hl
  refine lv_aload_n hx hb dL_member_0 rfl (lv_at hl 3 rfl) ?_
  refine lv_iconst (v := 0) hx hb dL_member_1 (by decide) ?_
  refine lv_aload_n hx hb dL_member_2 rfl (lv_at hl 0 rfl) ?_
  refine lv_iload_n hx hb dL_member_3 rfl (lv_at hl 1 rfl) ?_
  refine lv_iload_n hx hb dL_member_4 rfl (lv_at hl 2 rfl) ?_
  refine wr_compi (wcs := [(wPCo p70 b7 c7 d7 e7 h7 k7 st), (wSet cy b7 v), (wPow cy c7 w)]) (wns := fun u => [(wPCo p70 b7 c7 d7 e7 h7 k7 u.1), (wSet cy b7 v), (wPow cy c7 u.2)]) (W2 := fun u => [(wPCo p70 b7 c7 d7 e7 h7 k7 u.1), (wSet cy b7 v), (wPow cy c7 u.2), (wL cy o out)]) (vx_runV (C := RX7) (As := [.int x0, .int x1]) (rest := [.int 0, .ref o]) S (c_X7_member l hl0 D cy g B p70 b7 c7 d7 e7 h7 k7 st v w x0 x1) (cwV 2 hts gL_member_X7_member rfl rfl rfl hd_X7_member_V ⟨Nat.le_of_ble_eq_true rfl, Nat.le_of_ble_eq_true rfl⟩) ⟨muP_blind, va_recv hK0.1 hP (ci := 5) (q0 := 0) rfl rfl, my_preC (wcs := [(wPCo p70 b7 c7 d7 e7 h7 k7 st), (wSet cy b7 v), (wPow cy c7 w)]) hK0 hS hAB hP hD [0, 1, 2] (by decide) rfl rfl⟩ rfl rfl hl.1 rfl (lv_room (Nat.le_of_ble_eq_true rfl)) dL_member_5 ⟨Nat.le_of_ble_eq_true rfl, Nat.le_of_ble_eq_true rfl⟩) hS hP hD [0, 1, 2] rfl rfl (fun _ => rfl) (fun _ => by simp only [List.map_cons, List.map_nil, adrSet, adrSetE, adrPow, adrPowE, adrTxt, adrTxtE, adrSav, adrSavE, adrPCo, adrMod, adrModE]) (fun _ => rfl) rfl (fun k E ce q9 H locs hG hE hP hS hce hcv hcl => ?_) (fun r u H locs hG hP hD hS => ?_)
  · have hk9 := hk k hG
    rcases hk9 with rfl | rfl
    · have hE := exE_1 hE
      subst hE
      refine vx_catch hown [] ⟨0, 10, 13, 21⟩ [⟨0, 10, 17, 13⟩] hT (fun z hz => absurd hz List.not_mem_nil) rfl (by decide) (hts (.classLink RL 21 "java/lang/IndexOutOfBoundsException") (by decide +kernel)) (va_Nw.use rfl hK0.2.1.2.2.2.1) hce hcv hcl ?_
      refine lv_astore (lv' := [(4, .ref q9), (0, .ref p70), (1, .int x0), (2, .int x1), (3, .ref o)]) hx hb dL_member_13 hl (by decide) rfl (fun ls hl => ?_)
      refine lv_iconst (v := 1) hx hb dL_member_15 (by decide) ?_
      exact W.iret (v := 1) hx hb hr (fun t ht hW => ⟨⟨1, ((st, w), out), rfl, (wrap_e (wrI_l hG) rfl), by show va_P D vwCl _ t.heap; rw [ht]; exact hP⟩, hS.F ht⟩) hS.2.2 dL_member_16
    · have hE := exE_2 hE
      subst hE
      refine vx_catch hown [⟨0, 10, 13, 21⟩] ⟨0, 10, 17, 13⟩ [] hT (fun z hz => by rcases List.mem_singleton.mp hz with rfl; exact Or.inr ⟨by decide, _, (hts (.classLink RL 21 "java/lang/IndexOutOfBoundsException") (by decide +kernel)), hNc.1⟩) rfl (by decide) (hts (.classLink RL 13 "java/lang/IllegalArgumentException") (by decide +kernel)) (va_Nw.use rfl hK0.2.1.2.2.2.2.1) hce hcv hcl ?_
      refine lv_astore (lv' := [(4, .ref q9), (0, .ref p70), (1, .int x0), (2, .int x1), (3, .ref o)]) hx hb dL_member_17 hl (by decide) rfl (fun ls hl => ?_)
      refine lv_iconst (v := 2) hx hb dL_member_19 (by decide) ?_
      exact W.iret (v := 2) hx hb hr (fun t ht hW => ⟨⟨2, ((st, w), out), rfl, (wrap_e (wrI_l hG) rfl), by show va_P D vwCl _ t.heap; rw [ht]; exact hP⟩, hS.F ht⟩) hS.2.2 dL_member_20
  · refine lv_i2l (v := (Int32.toInt64 r)) hx hb dL_member_8 rfl ?_
    refine va_last hx hb hK0.1 hP hD hS 25 3 rfl rfl (i := 0) (x := (Int32.toInt64 r)) (show ¬ ((0 : Int32) < 0 ∨ 1 ≤ (0 : Int32).toNatClampNeg) by decide) dL_member_9 (fun H locs hP hD hS => ?_)
    have hP : va_P D vwCl (List.flatten [(wPCo p70 b7 c7 d7 e7 h7 k7 u.1), (wSet cy b7 v), (wPow cy c7 u.2), (wL cy o (vp_updL out 0 (Int32.toInt64 r)))]) H := hP
    refine lv_goto (tgt := 21) hx hb dL_member_10 (by decide) ?_
    refine lv_iconst (v := 0) hx hb dL_member_21 (by decide) ?_
    exact W.iret (v := 0) hx hb hr (fun t ht hW => ⟨⟨0, (u, vp_updL out 0 (Int32.toInt64 r)), rfl, wrI_r hG, by show va_P D vwCl _ t.heap; rw [ht]; exact hP⟩, hS.F ht⟩) hS.2.2 dL_member_22
set_option maxHeartbeats 1000000 in
set_option maxRecDepth 100000 in
theorem c_L_rule (l : Launch) (hl0 : l.stackTraces = false) (D : va_G) (cy : Nat → ClassId) (g : Nat → Nat) (B : Nat) (p70 : Nat) (b7 : Nat → Nat) (c7 : Nat → Nat) (d7 : Nat → Nat) (e7 : Nat → Nat) (h7 : Nat → Nat) (k7 : Nat → Nat) (st : Int32) (v : SetV) (x0 : Int32) (x1 : Int32) (o : Nat) (out : Nat → Int64) (hk : ∀ k, f_X7_rule st v x0 x1 = .inl k → k = 1 ∨ k = 2) : Met l yL_rule wsL_rule ({ frames := 8, cells := 2, slots := 12, locals := 132 }) (lwP D cy g B (List.flatten [(wPCo p70 b7 c7 d7 e7 h7 k7 st), (wSet cy b7 v), (wL cy o out)]) [.ref p70, .int x0, .int x1, .ref o]) (va_Qi (fun (r : Int32) (u : (Int32) × (Nat → Int64)) => wrI (f_X7_rule st v x0 x1) (fun f => f) st out = (r, u)) (fun u t => va_P D vwCl (List.flatten [(wPCo p70 b7 c7 d7 e7 h7 k7 u.1), (wSet cy b7 v), (wL cy o u.2)]) t.heap) (muA (List.flatten [(wPCo p70 b7 c7 d7 e7 h7 k7 st), (wSet cy b7 v), (wL cy o out)]))) 2 12 (muA (List.flatten [(wPCo p70 b7 c7 d7 e7 h7 k7 st), (wSet cy b7 v), (wL cy o out)])) := by
  refine va_MetW (cc := cL_rule) (maxL := 5) (ret := some .int) (hh := [(0, 10, 13, 21), (0, 10, 17, 13)]) (by decide) rfl ?_
  intro p e s m args below meth c s₁ BB hml hv
  obtain ⟨rfl, ⟨hP, hK0, hD0⟩, hNc⟩ := hv
  have hx := BB.exec
  have hb := BB.bytes
  have hr := BB.returns
  have hts := atoms_spec (ws := wsL_rule) BB.pre
  have hown : s.vm.findClass RL = some m.cls := findClass_of_methodNamed BB.named
  have hlocks := BB.notSynchronized
  have hT := vx_table (x := yL_rule) BB (hts (.codeWith yL_rule cL_rule 5 (some .int) [(0, 10, 13, 21), (0, 10, 17, 13)]) List.mem_cons_self)
  have S := my_fix hx hb hml hown hts
  have hAB := muB hD0
  have hD := muD hD0
  generalize hAe : muA (List.flatten [(wPCo p70 b7 c7 d7 e7 h7 k7 st), (wSet cy b7 v), (wL cy o out)]) = A at hAB hD ⊢
  have hS : va_S A s.heap s.heap [] := va_S.rf
  have hl := lv_entry ([.ref p70, .int x0, .int x1, .ref o]) (n := 5) (Nat.le_of_ble_eq_true rfl)
  rw [lg_entry_eq]
  generalize (lg_sl ([.ref p70, .int x0, .int x1, .ref o]) ++ List.replicate (5 - (lg_sl ([.ref p70, .int x0, .int x1, .ref o])).length) Slot.unset).toArray = ls at hl ⊢
  have hl : lv_has ls 5 [(0, .ref p70), (1, .int x0), (2, .int x1), (3, .ref o)] := hl
  refine lv_aload_n hx hb dL_rule_0 rfl (lv_at hl 3 rfl) ?_
  refine lv_iconst (v := 0) hx hb dL_rule_1 (by decide) ?_
  refine lv_aload_n hx hb dL_rule_2 rfl (lv_at hl 0 rfl) ?_
  refine lv_iload_n hx hb dL_rule_3 rfl (lv_at hl 1 rfl) ?_
  refine lv_iload_n hx hb dL_rule_4 rfl (lv_at hl 2 rfl) ?_
  refine wr_compi (wcs := [(wPCo p70 b7 c7 d7 e7 h7 k7 st), (wSet cy b7 v)]) (wns := fun u => [(wPCo p70 b7 c7 d7 e7 h7 k7 u), (wSet cy b7 v)]) (W2 := fun u => [(wPCo p70 b7 c7 d7 e7 h7 k7 u), (wSet cy b7 v), (wL cy o out)]) (vx_runV (C := RX7) (As := [.int x0, .int x1]) (rest := [.int 0, .ref o]) S (c_X7_rule l hl0 D cy g B p70 b7 c7 d7 e7 h7 k7 st v x0 x1) (cwV 2 hts gL_rule_X7_rule rfl rfl rfl hd_X7_rule_V ⟨Nat.le_of_ble_eq_true rfl, Nat.le_of_ble_eq_true rfl⟩) ⟨muP_blind, va_recv hK0.1 hP (ci := 5) (q0 := 0) rfl rfl, my_preC (wcs := [(wPCo p70 b7 c7 d7 e7 h7 k7 st), (wSet cy b7 v)]) hK0 hS hAB hP hD [0, 1] (by decide) rfl rfl⟩ rfl rfl hl.1 rfl (lv_room (Nat.le_of_ble_eq_true rfl)) dL_rule_5 ⟨Nat.le_of_ble_eq_true rfl, Nat.le_of_ble_eq_true rfl⟩) hS hP hD [0, 1] rfl rfl (fun _ => rfl) (fun _ => by simp only [List.map_cons, List.map_nil, adrSet, adrSetE, adrPow, adrPowE, adrTxt, adrTxtE, adrSav, adrSavE, adrPCo, adrMod, adrModE]) (fun _ => rfl) rfl (fun k E ce q9 H locs hG hE hP hS hce hcv hcl => ?_) (fun r u H locs hG hP hD hS => ?_)
  · have hk9 := hk k hG
    rcases hk9 with rfl | rfl
    · have hE := exE_1 hE
      subst hE
      refine vx_catch hown [] ⟨0, 10, 13, 21⟩ [⟨0, 10, 17, 13⟩] hT (fun z hz => absurd hz List.not_mem_nil) rfl (by decide) (hts (.classLink RL 21 "java/lang/IndexOutOfBoundsException") (by decide +kernel)) (va_Nw.use rfl hK0.2.1.2.2.2.1) hce hcv hcl ?_
      refine lv_astore (lv' := [(4, .ref q9), (0, .ref p70), (1, .int x0), (2, .int x1), (3, .ref o)]) hx hb dL_rule_13 hl (by decide) rfl (fun ls hl => ?_)
      refine lv_iconst (v := 1) hx hb dL_rule_15 (by decide) ?_
      exact W.iret (v := 1) hx hb hr (fun t ht hW => ⟨⟨1, (st, out), rfl, (wrap_e (wrI_l hG) rfl), by show va_P D vwCl _ t.heap; rw [ht]; exact hP⟩, hS.F ht⟩) hS.2.2 dL_rule_16
    · have hE := exE_2 hE
      subst hE
      refine vx_catch hown [⟨0, 10, 13, 21⟩] ⟨0, 10, 17, 13⟩ [] hT (fun z hz => by rcases List.mem_singleton.mp hz with rfl; exact Or.inr ⟨by decide, _, (hts (.classLink RL 21 "java/lang/IndexOutOfBoundsException") (by decide +kernel)), hNc.1⟩) rfl (by decide) (hts (.classLink RL 13 "java/lang/IllegalArgumentException") (by decide +kernel)) (va_Nw.use rfl hK0.2.1.2.2.2.2.1) hce hcv hcl ?_
      refine lv_astore (lv' := [(4, .ref q9), (0, .ref p70), (1, .int x0), (2, .int x1), (3, .ref o)]) hx hb dL_rule_17 hl (by decide) rfl (fun ls hl => ?_)
      refine lv_iconst (v := 2) hx hb dL_rule_19 (by decide) ?_
      exact W.iret (v := 2) hx hb hr (fun t ht hW => ⟨⟨2, (st, out), rfl, (wrap_e (wrI_l hG) rfl), by show va_P D vwCl _ t.heap; rw [ht]; exact hP⟩, hS.F ht⟩) hS.2.2 dL_rule_20
  · refine lv_i2l (v := (Int32.toInt64 r)) hx hb dL_rule_8 rfl ?_
    refine va_last hx hb hK0.1 hP hD hS 10 3 rfl rfl (i := 0) (x := (Int32.toInt64 r)) (show ¬ ((0 : Int32) < 0 ∨ 1 ≤ (0 : Int32).toNatClampNeg) by decide) dL_rule_9 (fun H locs hP hD hS => ?_)
    have hP : va_P D vwCl (List.flatten [(wPCo p70 b7 c7 d7 e7 h7 k7 u), (wSet cy b7 v), (wL cy o (vp_updL out 0 (Int32.toInt64 r)))]) H := hP
    refine lv_goto (tgt := 21) hx hb dL_rule_10 (by decide) ?_
    refine lv_iconst (v := 0) hx hb dL_rule_21 (by decide) ?_
    exact W.iret (v := 0) hx hb hr (fun t ht hW => ⟨⟨0, (u, vp_updL out 0 (Int32.toInt64 r)), rfl, wrI_r hG, by show va_P D vwCl _ t.heap; rw [ht]; exact hP⟩, hS.F ht⟩) hS.2.2 dL_rule_22
set_option maxHeartbeats 1000000 in
set_option maxRecDepth 100000 in
theorem c_L_whole (l : Launch) (hl0 : l.stackTraces = false) (D : va_G) (cy : Nat → ClassId) (g : Nat → Nat) (B : Nat) (p70 : Nat) (b7 : Nat → Nat) (c7 : Nat → Nat) (d7 : Nat → Nat) (e7 : Nat → Nat) (h7 : Nat → Nat) (k7 : Nat → Nat) (st : Int32) (v : SetV) (w : PowV) (tx : TxtV) (x0 : Int32) (o : Nat) (out : Nat → Int64) (hk : ∀ k, f_X7_whole st v w tx x0 = .inl k → k = 2) : Met l yL_whole wsL_whole ({ frames := 8, cells := 1, slots := 6, locals := 153 }) (lwP D cy g B (List.flatten [(wPCo p70 b7 c7 d7 e7 h7 k7 st), (wSet cy b7 v), (wPow cy c7 w), (wTxt cy g k7 tx), (wL cy o out)]) [.ref p70, .int x0, .ref o]) (va_Qi (fun (r : Int32) (u : (Int32 × PowV) × (Nat → Int64)) => wrI (f_X7_whole st v w tx x0) (fun _ => 1) (st, w) out = (r, u)) (fun u t => va_P D vwCl (List.flatten [(wPCo p70 b7 c7 d7 e7 h7 k7 u.1.1), (wSet cy b7 v), (wPow cy c7 u.1.2), (wTxt cy g k7 tx), (wL cy o u.2)]) t.heap) (muA (List.flatten [(wPCo p70 b7 c7 d7 e7 h7 k7 st), (wSet cy b7 v), (wPow cy c7 w), (wTxt cy g k7 tx), (wL cy o out)]))) 1 6 (muA (List.flatten [(wPCo p70 b7 c7 d7 e7 h7 k7 st), (wSet cy b7 v), (wPow cy c7 w), (wTxt cy g k7 tx), (wL cy o out)])) := by
  refine va_MetW (cc := cL_whole) (maxL := 4) (ret := some .int) (hh := [(0, 9, 12, 13)]) (by decide) rfl ?_
  intro p e s m args below meth c s₁ BB hml hv
  obtain ⟨rfl, ⟨hP, hK0, hD0⟩, hNc⟩ := hv
  have hx := BB.exec
  have hb := BB.bytes
  have hr := BB.returns
  have hts := atoms_spec (ws := wsL_whole) BB.pre
  have hown : s.vm.findClass RL = some m.cls := findClass_of_methodNamed BB.named
  have hlocks := BB.notSynchronized
  have hT := vx_table (x := yL_whole) BB (hts (.codeWith yL_whole cL_whole 4 (some .int) [(0, 9, 12, 13)]) List.mem_cons_self)
  have S := my_fix hx hb hml hown hts
  have hAB := muB hD0
  have hD := muD hD0
  generalize hAe : muA (List.flatten [(wPCo p70 b7 c7 d7 e7 h7 k7 st), (wSet cy b7 v), (wPow cy c7 w), (wTxt cy g k7 tx), (wL cy o out)]) = A at hAB hD ⊢
  have hS : va_S A s.heap s.heap [] := va_S.rf
  have hl := lv_entry ([.ref p70, .int x0, .ref o]) (n := 4) (Nat.le_of_ble_eq_true rfl)
  rw [lg_entry_eq]
  generalize (lg_sl ([.ref p70, .int x0, .ref o]) ++ List.replicate (4 - (lg_sl ([.ref p70, .int x0, .ref o])).length) Slot.unset).toArray = ls at hl ⊢
  have hl : lv_has ls 4 [(0, .ref p70), (1, .int x0), (2, .ref o)] := hl
  refine lv_aload_n hx hb dL_whole_0 rfl (lv_at hl 2 rfl) ?_
  refine lv_iconst (v := 0) hx hb dL_whole_1 (by decide) ?_
  refine lv_aload_n hx hb dL_whole_2 rfl (lv_at hl 0 rfl) ?_
  refine lv_iload_n hx hb dL_whole_3 rfl (lv_at hl 1 rfl) ?_
  refine wr_compi (wcs := [(wPCo p70 b7 c7 d7 e7 h7 k7 st), (wSet cy b7 v), (wPow cy c7 w), (wTxt cy g k7 tx)]) (wns := fun u => [(wPCo p70 b7 c7 d7 e7 h7 k7 u.1), (wSet cy b7 v), (wPow cy c7 u.2), (wTxt cy g k7 tx)]) (W2 := fun u => [(wPCo p70 b7 c7 d7 e7 h7 k7 u.1), (wSet cy b7 v), (wPow cy c7 u.2), (wTxt cy g k7 tx), (wL cy o out)]) (vx_runV (C := RX7) (As := [.int x0]) (rest := [.int 0, .ref o]) S (c_X7_whole l hl0 D cy g B p70 b7 c7 d7 e7 h7 k7 st v w tx x0) (cwV 1 hts gL_whole_X7_whole rfl rfl rfl hd_X7_whole_V ⟨Nat.le_of_ble_eq_true rfl, Nat.le_of_ble_eq_true rfl⟩) ⟨muP_blind, va_recv hK0.1 hP (ci := 5) (q0 := 0) rfl rfl, my_preC (wcs := [(wPCo p70 b7 c7 d7 e7 h7 k7 st), (wSet cy b7 v), (wPow cy c7 w), (wTxt cy g k7 tx)]) hK0 hS hAB hP hD [0, 1, 2, 3] (by decide) rfl rfl⟩ rfl rfl hl.1 rfl (lv_room (Nat.le_of_ble_eq_true rfl)) dL_whole_4 ⟨Nat.le_of_ble_eq_true rfl, Nat.le_of_ble_eq_true rfl⟩) hS hP hD [0, 1, 2, 3] rfl rfl (fun _ => rfl) (fun _ => by simp only [List.map_cons, List.map_nil, adrSet, adrSetE, adrPow, adrPowE, adrTxt, adrTxtE, adrSav, adrSavE, adrPCo, adrMod, adrModE]) (fun _ => rfl) rfl (fun k E ce q9 H locs hG hE hP hS hce hcv hcl => ?_) (fun r u H locs hG hP hD hS => ?_)
  · have hk9 := hk k hG
    subst hk9
    have hE := exE_2 hE
    subst hE
    refine vx_catch hown [] ⟨0, 9, 12, 13⟩ [] hT (fun z hz => absurd hz List.not_mem_nil) rfl (by decide) (hts (.classLink RL 13 "java/lang/IllegalArgumentException") (by decide +kernel)) (va_Nw.use rfl hK0.2.1.2.2.2.2.1) hce hcv hcl ?_
    refine lv_astore_n (lv' := [(3, .ref q9), (0, .ref p70), (1, .int x0), (2, .ref o)]) hx hb dL_whole_12 rfl hl (by decide) rfl (fun ls hl => ?_)
    refine lv_iconst (v := 1) hx hb dL_whole_13 (by decide) ?_
    exact W.iret (v := 1) hx hb hr (fun t ht hW => ⟨⟨1, ((st, w), out), rfl, (wrap_e (wrI_l hG) rfl), by show va_P D vwCl _ t.heap; rw [ht]; exact hP⟩, hS.F ht⟩) hS.2.2 dL_whole_14
  · refine lv_i2l (v := (Int32.toInt64 r)) hx hb dL_whole_7 rfl ?_
    refine va_last hx hb hK0.1 hP hD hS 28 3 rfl rfl (i := 0) (x := (Int32.toInt64 r)) (show ¬ ((0 : Int32) < 0 ∨ 1 ≤ (0 : Int32).toNatClampNeg) by decide) dL_whole_8 (fun H locs hP hD hS => ?_)
    have hP : va_P D vwCl (List.flatten [(wPCo p70 b7 c7 d7 e7 h7 k7 u.1), (wSet cy b7 v), (wPow cy c7 u.2), (wTxt cy g k7 tx), (wL cy o (vp_updL out 0 (Int32.toInt64 r)))]) H := hP
    refine lv_goto (tgt := 15) hx hb dL_whole_9 (by decide) ?_
    refine lv_iconst (v := 0) hx hb dL_whole_15 (by decide) ?_
    exact W.iret (v := 0) hx hb hr (fun t ht hW => ⟨⟨0, (u, vp_updL out 0 (Int32.toInt64 r)), rfl, wrI_r hG, by show va_P D vwCl _ t.heap; rw [ht]; exact hP⟩, hS.F ht⟩) hS.2.2 dL_whole_16
set_option maxHeartbeats 1000000 in
set_option maxRecDepth 100000 in
theorem c_L_wins (l : Launch) (hl0 : l.stackTraces = false) (D : va_G) (cy : Nat → ClassId) (g : Nat → Nat) (B : Nat) (p70 : Nat) (b7 : Nat → Nat) (c7 : Nat → Nat) (d7 : Nat → Nat) (e7 : Nat → Nat) (h7 : Nat → Nat) (k7 : Nat → Nat) (st : Int32) (v : SetV) (w : PowV) (x0 : Int32) (o : Nat) (out : Nat → Int64) (hk : ∀ k, f_X7_wins st v w x0 = .inl k → k = 2) : Met l yL_wins wsL_wins ({ frames := 8, cells := 1, slots := 6, locals := 153 }) (lwP D cy g B (List.flatten [(wPCo p70 b7 c7 d7 e7 h7 k7 st), (wSet cy b7 v), (wPow cy c7 w), (wL cy o out)]) [.ref p70, .int x0, .ref o]) (va_Qi (fun (r : Int32) (u : (Int32 × PowV) × (Nat → Int64)) => wrI (f_X7_wins st v w x0) (fun _ => 1) (st, w) out = (r, u)) (fun u t => va_P D vwCl (List.flatten [(wPCo p70 b7 c7 d7 e7 h7 k7 u.1.1), (wSet cy b7 v), (wPow cy c7 u.1.2), (wL cy o u.2)]) t.heap) (muA (List.flatten [(wPCo p70 b7 c7 d7 e7 h7 k7 st), (wSet cy b7 v), (wPow cy c7 w), (wL cy o out)]))) 1 6 (muA (List.flatten [(wPCo p70 b7 c7 d7 e7 h7 k7 st), (wSet cy b7 v), (wPow cy c7 w), (wL cy o out)])) := by
  refine va_MetW (cc := cL_wins) (maxL := 4) (ret := some .int) (hh := [(0, 9, 12, 13)]) (by decide) rfl ?_
  intro p e s m args below meth c s₁ BB hml hv
  obtain ⟨rfl, ⟨hP, hK0, hD0⟩, hNc⟩ := hv
  have hx := BB.exec
  have hb := BB.bytes
  have hr := BB.returns
  have hts := atoms_spec (ws := wsL_wins) BB.pre
  have hown : s.vm.findClass RL = some m.cls := findClass_of_methodNamed BB.named
  have hlocks := BB.notSynchronized
  have hT := vx_table (x := yL_wins) BB (hts (.codeWith yL_wins cL_wins 4 (some .int) [(0, 9, 12, 13)]) List.mem_cons_self)
  have S := my_fix hx hb hml hown hts
  have hAB := muB hD0
  have hD := muD hD0
  generalize hAe : muA (List.flatten [(wPCo p70 b7 c7 d7 e7 h7 k7 st), (wSet cy b7 v), (wPow cy c7 w), (wL cy o out)]) = A at hAB hD ⊢
  have hS : va_S A s.heap s.heap [] := va_S.rf
  have hl := lv_entry ([.ref p70, .int x0, .ref o]) (n := 4) (Nat.le_of_ble_eq_true rfl)
  rw [lg_entry_eq]
  generalize (lg_sl ([.ref p70, .int x0, .ref o]) ++ List.replicate (4 - (lg_sl ([.ref p70, .int x0, .ref o])).length) Slot.unset).toArray = ls at hl ⊢
  have hl : lv_has ls 4 [(0, .ref p70), (1, .int x0), (2, .ref o)] := hl
  refine lv_aload_n hx hb dL_wins_0 rfl (lv_at hl 2 rfl) ?_
  refine lv_iconst (v := 0) hx hb dL_wins_1 (by decide) ?_
  refine lv_aload_n hx hb dL_wins_2 rfl (lv_at hl 0 rfl) ?_
  refine lv_iload_n hx hb dL_wins_3 rfl (lv_at hl 1 rfl) ?_
  refine wr_compi (wcs := [(wPCo p70 b7 c7 d7 e7 h7 k7 st), (wSet cy b7 v), (wPow cy c7 w)]) (wns := fun u => [(wPCo p70 b7 c7 d7 e7 h7 k7 u.1), (wSet cy b7 v), (wPow cy c7 u.2)]) (W2 := fun u => [(wPCo p70 b7 c7 d7 e7 h7 k7 u.1), (wSet cy b7 v), (wPow cy c7 u.2), (wL cy o out)]) (vx_runV (C := RX7) (As := [.int x0]) (rest := [.int 0, .ref o]) S (c_X7_wins l hl0 D cy g B p70 b7 c7 d7 e7 h7 k7 st v w x0) (cwV 1 hts gL_wins_X7_wins rfl rfl rfl hd_X7_wins_V ⟨Nat.le_of_ble_eq_true rfl, Nat.le_of_ble_eq_true rfl⟩) ⟨muP_blind, va_recv hK0.1 hP (ci := 5) (q0 := 0) rfl rfl, my_preC (wcs := [(wPCo p70 b7 c7 d7 e7 h7 k7 st), (wSet cy b7 v), (wPow cy c7 w)]) hK0 hS hAB hP hD [0, 1, 2] (by decide) rfl rfl⟩ rfl rfl hl.1 rfl (lv_room (Nat.le_of_ble_eq_true rfl)) dL_wins_4 ⟨Nat.le_of_ble_eq_true rfl, Nat.le_of_ble_eq_true rfl⟩) hS hP hD [0, 1, 2] rfl rfl (fun _ => rfl) (fun _ => by simp only [List.map_cons, List.map_nil, adrSet, adrSetE, adrPow, adrPowE, adrTxt, adrTxtE, adrSav, adrSavE, adrPCo, adrMod, adrModE]) (fun _ => rfl) rfl (fun k E ce q9 H locs hG hE hP hS hce hcv hcl => ?_) (fun r u H locs hG hP hD hS => ?_)
  · have hk9 := hk k hG
    subst hk9
    have hE := exE_2 hE
    subst hE
    refine vx_catch hown [] ⟨0, 9, 12, 13⟩ [] hT (fun z hz => absurd hz List.not_mem_nil) rfl (by decide) (hts (.classLink RL 13 "java/lang/IllegalArgumentException") (by decide +kernel)) (va_Nw.use rfl hK0.2.1.2.2.2.2.1) hce hcv hcl ?_
    refine lv_astore_n (lv' := [(3, .ref q9), (0, .ref p70), (1, .int x0), (2, .ref o)]) hx hb dL_wins_12 rfl hl (by decide) rfl (fun ls hl => ?_)
    refine lv_iconst (v := 1) hx hb dL_wins_13 (by decide) ?_
    exact W.iret (v := 1) hx hb hr (fun t ht hW => ⟨⟨1, ((st, w), out), rfl, (wrap_e (wrI_l hG) rfl), by show va_P D vwCl _ t.heap; rw [ht]; exact hP⟩, hS.F ht⟩) hS.2.2 dL_wins_14
  · refine lv_i2l (v := (Int32.toInt64 r)) hx hb dL_wins_7 rfl ?_
    refine va_last hx hb hK0.1 hP hD hS 25 3 rfl rfl (i := 0) (x := (Int32.toInt64 r)) (show ¬ ((0 : Int32) < 0 ∨ 1 ≤ (0 : Int32).toNatClampNeg) by decide) dL_wins_8 (fun H locs hP hD hS => ?_)
    have hP : va_P D vwCl (List.flatten [(wPCo p70 b7 c7 d7 e7 h7 k7 u.1), (wSet cy b7 v), (wPow cy c7 u.2), (wL cy o (vp_updL out 0 (Int32.toInt64 r)))]) H := hP
    refine lv_goto (tgt := 15) hx hb dL_wins_9 (by decide) ?_
    refine lv_iconst (v := 0) hx hb dL_wins_15 (by decide) ?_
    exact W.iret (v := 0) hx hb hr (fun t ht hW => ⟨⟨0, (u, vp_updL out 0 (Int32.toInt64 r)), rfl, wrI_r hG, by show va_P D vwCl _ t.heap; rw [ht]; exact hP⟩, hS.F ht⟩) hS.2.2 dL_wins_16
set_option maxHeartbeats 1000000 in
set_option maxRecDepth 100000 in
theorem c_L_least (l : Launch) (hl0 : l.stackTraces = false) (D : va_G) (cy : Nat → ClassId) (g : Nat → Nat) (B : Nat) (p70 : Nat) (b7 : Nat → Nat) (c7 : Nat → Nat) (d7 : Nat → Nat) (e7 : Nat → Nat) (h7 : Nat → Nat) (k7 : Nat → Nat) (st : Int32) (v : SetV) (w : PowV) (x0 : Int32) (o : Nat) (out : Nat → Int64) (hk : ∀ k, f_X7_least st v w x0 = .inl k → k = 2) : Met l yL_least wsL_least ({ frames := 8, cells := 1, slots := 6, locals := 154 }) (lwP D cy g B (List.flatten [(wPCo p70 b7 c7 d7 e7 h7 k7 st), (wSet cy b7 v), (wPow cy c7 w), (wL cy o out)]) [.ref p70, .int x0, .ref o]) (va_Qi (fun (r : Int32) (u : (Int32 × PowV) × (Nat → Int64)) => wrI (f_X7_least st v w x0) (fun _ => 1) (st, w) out = (r, u)) (fun u t => va_P D vwCl (List.flatten [(wPCo p70 b7 c7 d7 e7 h7 k7 u.1.1), (wSet cy b7 v), (wPow cy c7 u.1.2), (wL cy o u.2)]) t.heap) (muA (List.flatten [(wPCo p70 b7 c7 d7 e7 h7 k7 st), (wSet cy b7 v), (wPow cy c7 w), (wL cy o out)]))) 1 6 (muA (List.flatten [(wPCo p70 b7 c7 d7 e7 h7 k7 st), (wSet cy b7 v), (wPow cy c7 w), (wL cy o out)])) := by
  refine va_MetW (cc := cL_least) (maxL := 4) (ret := some .int) (hh := [(0, 9, 12, 13)]) (by decide) rfl ?_
  intro p e s m args below meth c s₁ BB hml hv
  obtain ⟨rfl, ⟨hP, hK0, hD0⟩, hNc⟩ := hv
  have hx := BB.exec
  have hb := BB.bytes
  have hr := BB.returns
  have hts := atoms_spec (ws := wsL_least) BB.pre
  have hown : s.vm.findClass RL = some m.cls := findClass_of_methodNamed BB.named
  have hlocks := BB.notSynchronized
  have hT := vx_table (x := yL_least) BB (hts (.codeWith yL_least cL_least 4 (some .int) [(0, 9, 12, 13)]) List.mem_cons_self)
  have S := my_fix hx hb hml hown hts
  have hAB := muB hD0
  have hD := muD hD0
  generalize hAe : muA (List.flatten [(wPCo p70 b7 c7 d7 e7 h7 k7 st), (wSet cy b7 v), (wPow cy c7 w), (wL cy o out)]) = A at hAB hD ⊢
  have hS : va_S A s.heap s.heap [] := va_S.rf
  have hl := lv_entry ([.ref p70, .int x0, .ref o]) (n := 4) (Nat.le_of_ble_eq_true rfl)
  rw [lg_entry_eq]
  generalize (lg_sl ([.ref p70, .int x0, .ref o]) ++ List.replicate (4 - (lg_sl ([.ref p70, .int x0, .ref o])).length) Slot.unset).toArray = ls at hl ⊢
  have hl : lv_has ls 4 [(0, .ref p70), (1, .int x0), (2, .ref o)] := hl
  refine lv_aload_n hx hb dL_least_0 rfl (lv_at hl 2 rfl) ?_
  refine lv_iconst (v := 0) hx hb dL_least_1 (by decide) ?_
  refine lv_aload_n hx hb dL_least_2 rfl (lv_at hl 0 rfl) ?_
  refine lv_iload_n hx hb dL_least_3 rfl (lv_at hl 1 rfl) ?_
  refine wr_compi (wcs := [(wPCo p70 b7 c7 d7 e7 h7 k7 st), (wSet cy b7 v), (wPow cy c7 w)]) (wns := fun u => [(wPCo p70 b7 c7 d7 e7 h7 k7 u.1), (wSet cy b7 v), (wPow cy c7 u.2)]) (W2 := fun u => [(wPCo p70 b7 c7 d7 e7 h7 k7 u.1), (wSet cy b7 v), (wPow cy c7 u.2), (wL cy o out)]) (vx_runV (C := RX7) (As := [.int x0]) (rest := [.int 0, .ref o]) S (c_X7_least l hl0 D cy g B p70 b7 c7 d7 e7 h7 k7 st v w x0) (cwV 1 hts gL_least_X7_least rfl rfl rfl hd_X7_least_V ⟨Nat.le_of_ble_eq_true rfl, Nat.le_of_ble_eq_true rfl⟩) ⟨muP_blind, va_recv hK0.1 hP (ci := 5) (q0 := 0) rfl rfl, my_preC (wcs := [(wPCo p70 b7 c7 d7 e7 h7 k7 st), (wSet cy b7 v), (wPow cy c7 w)]) hK0 hS hAB hP hD [0, 1, 2] (by decide) rfl rfl⟩ rfl rfl hl.1 rfl (lv_room (Nat.le_of_ble_eq_true rfl)) dL_least_4 ⟨Nat.le_of_ble_eq_true rfl, Nat.le_of_ble_eq_true rfl⟩) hS hP hD [0, 1, 2] rfl rfl (fun _ => rfl) (fun _ => by simp only [List.map_cons, List.map_nil, adrSet, adrSetE, adrPow, adrPowE, adrTxt, adrTxtE, adrSav, adrSavE, adrPCo, adrMod, adrModE]) (fun _ => rfl) rfl (fun k E ce q9 H locs hG hE hP hS hce hcv hcl => ?_) (fun r u H locs hG hP hD hS => ?_)
  · have hk9 := hk k hG
    subst hk9
    have hE := exE_2 hE
    subst hE
    refine vx_catch hown [] ⟨0, 9, 12, 13⟩ [] hT (fun z hz => absurd hz List.not_mem_nil) rfl (by decide) (hts (.classLink RL 13 "java/lang/IllegalArgumentException") (by decide +kernel)) (va_Nw.use rfl hK0.2.1.2.2.2.2.1) hce hcv hcl ?_
    refine lv_astore_n (lv' := [(3, .ref q9), (0, .ref p70), (1, .int x0), (2, .ref o)]) hx hb dL_least_12 rfl hl (by decide) rfl (fun ls hl => ?_)
    refine lv_iconst (v := 1) hx hb dL_least_13 (by decide) ?_
    exact W.iret (v := 1) hx hb hr (fun t ht hW => ⟨⟨1, ((st, w), out), rfl, (wrap_e (wrI_l hG) rfl), by show va_P D vwCl _ t.heap; rw [ht]; exact hP⟩, hS.F ht⟩) hS.2.2 dL_least_14
  · refine lv_i2l (v := (Int32.toInt64 r)) hx hb dL_least_7 rfl ?_
    refine va_last hx hb hK0.1 hP hD hS 25 3 rfl rfl (i := 0) (x := (Int32.toInt64 r)) (show ¬ ((0 : Int32) < 0 ∨ 1 ≤ (0 : Int32).toNatClampNeg) by decide) dL_least_8 (fun H locs hP hD hS => ?_)
    have hP : va_P D vwCl (List.flatten [(wPCo p70 b7 c7 d7 e7 h7 k7 u.1), (wSet cy b7 v), (wPow cy c7 u.2), (wL cy o (vp_updL out 0 (Int32.toInt64 r)))]) H := hP
    refine lv_goto (tgt := 15) hx hb dL_least_9 (by decide) ?_
    refine lv_iconst (v := 0) hx hb dL_least_15 (by decide) ?_
    exact W.iret (v := 0) hx hb hr (fun t ht hW => ⟨⟨0, (u, vp_updL out 0 (Int32.toInt64 r)), rfl, wrI_r hG, by show va_P D vwCl _ t.heap; rw [ht]; exact hP⟩, hS.F ht⟩) hS.2.2 dL_least_16
set_option maxHeartbeats 1000000 in
set_option maxRecDepth 100000 in
theorem c_L_share (l : Launch) (hl0 : l.stackTraces = false) (D : va_G) (cy : Nat → ClassId) (g : Nat → Nat) (B : Nat) (p70 : Nat) (b7 : Nat → Nat) (c7 : Nat → Nat) (d7 : Nat → Nat) (e7 : Nat → Nat) (h7 : Nat → Nat) (k7 : Nat → Nat) (st : Int32) (v : SetV) (w : PowV) (x0 : Int32) (o : Nat) (out : Nat → UInt64) (hk : ∀ k, f_X7_share st v w x0 = .inl k → k = 1) (hn : ∀ r u, f_X7_share st v w x0 = .inr (r, u) → vf_n64 (FP.f2d r)) : Met l yL_share wsL_share ({ frames := 8, cells := 1, slots := 6, locals := 153 }) (lwP D cy g B (List.flatten [(wPCo p70 b7 c7 d7 e7 h7 k7 st), (wSet cy b7 v), (wPow cy c7 w), (wDb cy o out)]) [.ref p70, .int x0, .ref o]) (va_Qi (fun (r : Int32) (u : (Int32 × PowV) × (Nat → UInt64)) => wrF (f_X7_share st v w x0) (fun _ => 1) (st, w) out = (r, u)) (fun u t => va_P D vwCl (List.flatten [(wPCo p70 b7 c7 d7 e7 h7 k7 u.1.1), (wSet cy b7 v), (wPow cy c7 u.1.2), (wDb cy o u.2)]) t.heap) (muA (List.flatten [(wPCo p70 b7 c7 d7 e7 h7 k7 st), (wSet cy b7 v), (wPow cy c7 w), (wDb cy o out)]))) 1 6 (muA (List.flatten [(wPCo p70 b7 c7 d7 e7 h7 k7 st), (wSet cy b7 v), (wPow cy c7 w), (wDb cy o out)])) := by
  refine va_MetW (cc := cL_share) (maxL := 4) (ret := some .int) (hh := [(0, 9, 12, 21)]) (by decide) rfl ?_
  intro p e s m args below meth c s₁ BB hml hv
  obtain ⟨rfl, ⟨hP, hK0, hD0⟩, hNc⟩ := hv
  have hx := BB.exec
  have hb := BB.bytes
  have hr := BB.returns
  have hts := atoms_spec (ws := wsL_share) BB.pre
  have hown : s.vm.findClass RL = some m.cls := findClass_of_methodNamed BB.named
  have hlocks := BB.notSynchronized
  have hT := vx_table (x := yL_share) BB (hts (.codeWith yL_share cL_share 4 (some .int) [(0, 9, 12, 21)]) List.mem_cons_self)
  have S := my_fix hx hb hml hown hts
  have hAB := muB hD0
  have hD := muD hD0
  generalize hAe : muA (List.flatten [(wPCo p70 b7 c7 d7 e7 h7 k7 st), (wSet cy b7 v), (wPow cy c7 w), (wDb cy o out)]) = A at hAB hD ⊢
  have hS : va_S A s.heap s.heap [] := va_S.rf
  have hl := lv_entry ([.ref p70, .int x0, .ref o]) (n := 4) (Nat.le_of_ble_eq_true rfl)
  rw [lg_entry_eq]
  generalize (lg_sl ([.ref p70, .int x0, .ref o]) ++ List.replicate (4 - (lg_sl ([.ref p70, .int x0, .ref o])).length) Slot.unset).toArray = ls at hl ⊢
  have hl : lv_has ls 4 [(0, .ref p70), (1, .int x0), (2, .ref o)] := hl
  refine lv_aload_n hx hb dL_share_0 rfl (lv_at hl 2 rfl) ?_
  refine lv_iconst (v := 0) hx hb dL_share_1 (by decide) ?_
  refine lv_aload_n hx hb dL_share_2 rfl (lv_at hl 0 rfl) ?_
  refine lv_iload_n hx hb dL_share_3 rfl (lv_at hl 1 rfl) ?_
  refine wr_compf (wcs := [(wPCo p70 b7 c7 d7 e7 h7 k7 st), (wSet cy b7 v), (wPow cy c7 w)]) (wns := fun u => [(wPCo p70 b7 c7 d7 e7 h7 k7 u.1), (wSet cy b7 v), (wPow cy c7 u.2)]) (W2 := fun u => [(wPCo p70 b7 c7 d7 e7 h7 k7 u.1), (wSet cy b7 v), (wPow cy c7 u.2), (wDb cy o out)]) (vx_runV (C := RX7) (As := [.int x0]) (rest := [.int 0, .ref o]) S (c_X7_share l hl0 D cy g B p70 b7 c7 d7 e7 h7 k7 st v w x0) (cwV 1 hts gL_share_X7_share rfl rfl rfl hd_X7_share_V ⟨Nat.le_of_ble_eq_true rfl, Nat.le_of_ble_eq_true rfl⟩) ⟨muP_blind, va_recv hK0.1 hP (ci := 5) (q0 := 0) rfl rfl, my_preC (wcs := [(wPCo p70 b7 c7 d7 e7 h7 k7 st), (wSet cy b7 v), (wPow cy c7 w)]) hK0 hS hAB hP hD [0, 1, 2] (by decide) rfl rfl⟩ rfl rfl hl.1 rfl (lv_room (Nat.le_of_ble_eq_true rfl)) dL_share_4 ⟨Nat.le_of_ble_eq_true rfl, Nat.le_of_ble_eq_true rfl⟩) hS hP hD [0, 1, 2] rfl rfl (fun _ => rfl) (fun _ => by simp only [List.map_cons, List.map_nil, adrSet, adrSetE, adrPow, adrPowE, adrTxt, adrTxtE, adrSav, adrSavE, adrPCo, adrMod, adrModE]) (fun _ => rfl) rfl (fun k E ce q9 H locs hG hE hP hS hce hcv hcl => ?_) (fun r u H locs hG hP hD hS => ?_)
  · have hk9 := hk k hG
    subst hk9
    have hE := exE_1 hE
    subst hE
    refine vx_catch hown [] ⟨0, 9, 12, 21⟩ [] hT (fun z hz => absurd hz List.not_mem_nil) rfl (by decide) (hts (.classLink RL 21 "java/lang/IndexOutOfBoundsException") (by decide +kernel)) (va_Nw.use rfl hK0.2.1.2.2.2.1) hce hcv hcl ?_
    refine lv_astore_n (lv' := [(3, .ref q9), (0, .ref p70), (1, .int x0), (2, .ref o)]) hx hb dL_share_12 rfl hl (by decide) rfl (fun ls hl => ?_)
    refine lv_iconst (v := 1) hx hb dL_share_13 (by decide) ?_
    exact W.iret (v := 1) hx hb hr (fun t ht hW => ⟨⟨1, ((st, w), out), rfl, (wrap_e (wrF_l hG) rfl), by show va_P D vwCl _ t.heap; rw [ht]; exact hP⟩, hS.F ht⟩) hS.2.2 dL_share_14
  · refine lv_f2d hx hb dL_share_7 (hn r u hG) ?_
    refine va_dast hx hb hK0.1 hP hD hS 25 4 rfl rfl (i := 0) (x := (FP.f2d r)) (show ¬ ((0 : Int32) < 0 ∨ 1 ≤ (0 : Int32).toNatClampNeg) by decide) dL_share_8 (fun H locs hP hD hS => ?_)
    have hP : va_P D vwCl (List.flatten [(wPCo p70 b7 c7 d7 e7 h7 k7 u.1), (wSet cy b7 v), (wPow cy c7 u.2), (wDb cy o (vf_upd out 0 (FP.f2d r)))]) H := hP
    refine lv_goto (tgt := 15) hx hb dL_share_9 (by decide) ?_
    refine lv_iconst (v := 0) hx hb dL_share_15 (by decide) ?_
    exact W.iret (v := 0) hx hb hr (fun t ht hW => ⟨⟨0, (u, vf_upd out 0 (FP.f2d r)), rfl, wrF_r hG, by show va_P D vwCl _ t.heap; rw [ht]; exact hP⟩, hS.F ht⟩) hS.2.2 dL_share_16
set_option maxHeartbeats 1000000 in
set_option maxRecDepth 100000 in
theorem c_L_part (l : Launch) (hl0 : l.stackTraces = false) (D : va_G) (cy : Nat → ClassId) (g : Nat → Nat) (B : Nat) (p70 : Nat) (b7 : Nat → Nat) (c7 : Nat → Nat) (d7 : Nat → Nat) (e7 : Nat → Nat) (h7 : Nat → Nat) (k7 : Nat → Nat) (st : Int32) (v : SetV) (w : PowV) (x0 : Int32) (o : Nat) (out : Nat → UInt64) (hk : ∀ k, f_X7_part st v w x0 = .inl k → k = 1) : Met l yL_part wsL_part ({ frames := 8, cells := 1, slots := 6, locals := 153 }) (lwP D cy g B (List.flatten [(wPCo p70 b7 c7 d7 e7 h7 k7 st), (wSet cy b7 v), (wPow cy c7 w), (wDb cy o out)]) [.ref p70, .int x0, .ref o]) (va_Qi (fun (r : Int32) (u : (Int32 × PowV) × (Nat → UInt64)) => wrD (f_X7_part st v w x0) (fun _ => 1) (st, w) out = (r, u)) (fun u t => va_P D vwCl (List.flatten [(wPCo p70 b7 c7 d7 e7 h7 k7 u.1.1), (wSet cy b7 v), (wPow cy c7 u.1.2), (wDb cy o u.2)]) t.heap) (muA (List.flatten [(wPCo p70 b7 c7 d7 e7 h7 k7 st), (wSet cy b7 v), (wPow cy c7 w), (wDb cy o out)]))) 1 6 (muA (List.flatten [(wPCo p70 b7 c7 d7 e7 h7 k7 st), (wSet cy b7 v), (wPow cy c7 w), (wDb cy o out)])) := by
  refine va_MetW (cc := cL_part) (maxL := 4) (ret := some .int) (hh := [(0, 8, 11, 21)]) (by decide) rfl ?_
  intro p e s m args below meth c s₁ BB hml hv
  obtain ⟨rfl, ⟨hP, hK0, hD0⟩, hNc⟩ := hv
  have hx := BB.exec
  have hb := BB.bytes
  have hr := BB.returns
  have hts := atoms_spec (ws := wsL_part) BB.pre
  have hown : s.vm.findClass RL = some m.cls := findClass_of_methodNamed BB.named
  have hlocks := BB.notSynchronized
  have hT := vx_table (x := yL_part) BB (hts (.codeWith yL_part cL_part 4 (some .int) [(0, 8, 11, 21)]) List.mem_cons_self)
  have S := my_fix hx hb hml hown hts
  have hAB := muB hD0
  have hD := muD hD0
  generalize hAe : muA (List.flatten [(wPCo p70 b7 c7 d7 e7 h7 k7 st), (wSet cy b7 v), (wPow cy c7 w), (wDb cy o out)]) = A at hAB hD ⊢
  have hS : va_S A s.heap s.heap [] := va_S.rf
  have hl := lv_entry ([.ref p70, .int x0, .ref o]) (n := 4) (Nat.le_of_ble_eq_true rfl)
  rw [lg_entry_eq]
  generalize (lg_sl ([.ref p70, .int x0, .ref o]) ++ List.replicate (4 - (lg_sl ([.ref p70, .int x0, .ref o])).length) Slot.unset).toArray = ls at hl ⊢
  have hl : lv_has ls 4 [(0, .ref p70), (1, .int x0), (2, .ref o)] := hl
  refine lv_aload_n hx hb dL_part_0 rfl (lv_at hl 2 rfl) ?_
  refine lv_iconst (v := 0) hx hb dL_part_1 (by decide) ?_
  refine lv_aload_n hx hb dL_part_2 rfl (lv_at hl 0 rfl) ?_
  refine lv_iload_n hx hb dL_part_3 rfl (lv_at hl 1 rfl) ?_
  refine wr_compd (wcs := [(wPCo p70 b7 c7 d7 e7 h7 k7 st), (wSet cy b7 v), (wPow cy c7 w)]) (wns := fun u => [(wPCo p70 b7 c7 d7 e7 h7 k7 u.1), (wSet cy b7 v), (wPow cy c7 u.2)]) (W2 := fun u => [(wPCo p70 b7 c7 d7 e7 h7 k7 u.1), (wSet cy b7 v), (wPow cy c7 u.2), (wDb cy o out)]) (vx_runV (C := RX7) (As := [.int x0]) (rest := [.int 0, .ref o]) S (c_X7_part l hl0 D cy g B p70 b7 c7 d7 e7 h7 k7 st v w x0) (cwV 1 hts gL_part_X7_part rfl rfl rfl hd_X7_part_V ⟨Nat.le_of_ble_eq_true rfl, Nat.le_of_ble_eq_true rfl⟩) ⟨muP_blind, va_recv hK0.1 hP (ci := 5) (q0 := 0) rfl rfl, my_preC (wcs := [(wPCo p70 b7 c7 d7 e7 h7 k7 st), (wSet cy b7 v), (wPow cy c7 w)]) hK0 hS hAB hP hD [0, 1, 2] (by decide) rfl rfl⟩ rfl rfl hl.1 rfl (lv_room (Nat.le_of_ble_eq_true rfl)) dL_part_4 ⟨Nat.le_of_ble_eq_true rfl, Nat.le_of_ble_eq_true rfl⟩) hS hP hD [0, 1, 2] rfl rfl (fun _ => rfl) (fun _ => by simp only [List.map_cons, List.map_nil, adrSet, adrSetE, adrPow, adrPowE, adrTxt, adrTxtE, adrSav, adrSavE, adrPCo, adrMod, adrModE]) (fun _ => rfl) rfl (fun k E ce q9 H locs hG hE hP hS hce hcv hcl => ?_) (fun r u H locs hG hP hD hS => ?_)
  · have hk9 := hk k hG
    subst hk9
    have hE := exE_1 hE
    subst hE
    refine vx_catch hown [] ⟨0, 8, 11, 21⟩ [] hT (fun z hz => absurd hz List.not_mem_nil) rfl (by decide) (hts (.classLink RL 21 "java/lang/IndexOutOfBoundsException") (by decide +kernel)) (va_Nw.use rfl hK0.2.1.2.2.2.1) hce hcv hcl ?_
    refine lv_astore_n (lv' := [(3, .ref q9), (0, .ref p70), (1, .int x0), (2, .ref o)]) hx hb dL_part_11 rfl hl (by decide) rfl (fun ls hl => ?_)
    refine lv_iconst (v := 1) hx hb dL_part_12 (by decide) ?_
    exact W.iret (v := 1) hx hb hr (fun t ht hW => ⟨⟨1, ((st, w), out), rfl, (wrap_e (wrD_l hG) rfl), by show va_P D vwCl _ t.heap; rw [ht]; exact hP⟩, hS.F ht⟩) hS.2.2 dL_part_13
  · refine va_dast hx hb hK0.1 hP hD hS 25 4 rfl rfl (i := 0) (x := r) (show ¬ ((0 : Int32) < 0 ∨ 1 ≤ (0 : Int32).toNatClampNeg) by decide) dL_part_7 (fun H locs hP hD hS => ?_)
    have hP : va_P D vwCl (List.flatten [(wPCo p70 b7 c7 d7 e7 h7 k7 u.1), (wSet cy b7 v), (wPow cy c7 u.2), (wDb cy o (vf_upd out 0 r))]) H := hP
    refine lv_goto (tgt := 14) hx hb dL_part_8 (by decide) ?_
    refine lv_iconst (v := 0) hx hb dL_part_14 (by decide) ?_
    exact W.iret (v := 0) hx hb hr (fun t ht hW => ⟨⟨0, (u, vf_upd out 0 r), rfl, wrD_r hG, by show va_P D vwCl _ t.heap; rw [ht]; exact hP⟩, hS.F ht⟩) hS.2.2 dL_part_15
set_option maxHeartbeats 1000000 in
set_option maxRecDepth 100000 in
theorem c_L_reason (l : Launch) (hl0 : l.stackTraces = false) (D : va_G) (cy : Nat → ClassId) (g : Nat → Nat) (B : Nat) (p70 : Nat) (b7 : Nat → Nat) (c7 : Nat → Nat) (d7 : Nat → Nat) (e7 : Nat → Nat) (h7 : Nat → Nat) (k7 : Nat → Nat) (st : Int32) (v : SetV) (w : PowV) (x0 : Int32) (o : Nat) (out : Nat → Int64) (hk : ∀ k, f_X7_reason st v w x0 = .inl k → k = 2) : Met l yL_reason wsL_reason ({ frames := 8, cells := 1, slots := 6, locals := 155 }) (lwP D cy g B (List.flatten [(wPCo p70 b7 c7 d7 e7 h7 k7 st), (wSet cy b7 v), (wPow cy c7 w), (wL cy o out)]) [.ref p70, .int x0, .ref o]) (va_Qi (fun (r : Int32) (u : (Int32 × PowV) × (Nat → Int64)) => wrI (f_X7_reason st v w x0) (fun _ => 1) (st, w) out = (r, u)) (fun u t => va_P D vwCl (List.flatten [(wPCo p70 b7 c7 d7 e7 h7 k7 u.1.1), (wSet cy b7 v), (wPow cy c7 u.1.2), (wL cy o u.2)]) t.heap) (muA (List.flatten [(wPCo p70 b7 c7 d7 e7 h7 k7 st), (wSet cy b7 v), (wPow cy c7 w), (wL cy o out)]))) 1 6 (muA (List.flatten [(wPCo p70 b7 c7 d7 e7 h7 k7 st), (wSet cy b7 v), (wPow cy c7 w), (wL cy o out)])) := by
  refine va_MetW (cc := cL_reason) (maxL := 4) (ret := some .int) (hh := [(0, 9, 12, 13)]) (by decide) rfl ?_
  intro p e s m args below meth c s₁ BB hml hv
  obtain ⟨rfl, ⟨hP, hK0, hD0⟩, hNc⟩ := hv
  have hx := BB.exec
  have hb := BB.bytes
  have hr := BB.returns
  have hts := atoms_spec (ws := wsL_reason) BB.pre
  have hown : s.vm.findClass RL = some m.cls := findClass_of_methodNamed BB.named
  have hlocks := BB.notSynchronized
  have hT := vx_table (x := yL_reason) BB (hts (.codeWith yL_reason cL_reason 4 (some .int) [(0, 9, 12, 13)]) List.mem_cons_self)
  have S := my_fix hx hb hml hown hts
  have hAB := muB hD0
  have hD := muD hD0
  generalize hAe : muA (List.flatten [(wPCo p70 b7 c7 d7 e7 h7 k7 st), (wSet cy b7 v), (wPow cy c7 w), (wL cy o out)]) = A at hAB hD ⊢
  have hS : va_S A s.heap s.heap [] := va_S.rf
  have hl := lv_entry ([.ref p70, .int x0, .ref o]) (n := 4) (Nat.le_of_ble_eq_true rfl)
  rw [lg_entry_eq]
  generalize (lg_sl ([.ref p70, .int x0, .ref o]) ++ List.replicate (4 - (lg_sl ([.ref p70, .int x0, .ref o])).length) Slot.unset).toArray = ls at hl ⊢
  have hl : lv_has ls 4 [(0, .ref p70), (1, .int x0), (2, .ref o)] := hl
  refine lv_aload_n hx hb dL_reason_0 rfl (lv_at hl 2 rfl) ?_
  refine lv_iconst (v := 0) hx hb dL_reason_1 (by decide) ?_
  refine lv_aload_n hx hb dL_reason_2 rfl (lv_at hl 0 rfl) ?_
  refine lv_iload_n hx hb dL_reason_3 rfl (lv_at hl 1 rfl) ?_
  refine wr_compi (wcs := [(wPCo p70 b7 c7 d7 e7 h7 k7 st), (wSet cy b7 v), (wPow cy c7 w)]) (wns := fun u => [(wPCo p70 b7 c7 d7 e7 h7 k7 u.1), (wSet cy b7 v), (wPow cy c7 u.2)]) (W2 := fun u => [(wPCo p70 b7 c7 d7 e7 h7 k7 u.1), (wSet cy b7 v), (wPow cy c7 u.2), (wL cy o out)]) (vx_runV (C := RX7) (As := [.int x0]) (rest := [.int 0, .ref o]) S (c_X7_reason l hl0 D cy g B p70 b7 c7 d7 e7 h7 k7 st v w x0) (cwV 1 hts gL_reason_X7_reason rfl rfl rfl hd_X7_reason_V ⟨Nat.le_of_ble_eq_true rfl, Nat.le_of_ble_eq_true rfl⟩) ⟨muP_blind, va_recv hK0.1 hP (ci := 5) (q0 := 0) rfl rfl, my_preC (wcs := [(wPCo p70 b7 c7 d7 e7 h7 k7 st), (wSet cy b7 v), (wPow cy c7 w)]) hK0 hS hAB hP hD [0, 1, 2] (by decide) rfl rfl⟩ rfl rfl hl.1 rfl (lv_room (Nat.le_of_ble_eq_true rfl)) dL_reason_4 ⟨Nat.le_of_ble_eq_true rfl, Nat.le_of_ble_eq_true rfl⟩) hS hP hD [0, 1, 2] rfl rfl (fun _ => rfl) (fun _ => by simp only [List.map_cons, List.map_nil, adrSet, adrSetE, adrPow, adrPowE, adrTxt, adrTxtE, adrSav, adrSavE, adrPCo, adrMod, adrModE]) (fun _ => rfl) rfl (fun k E ce q9 H locs hG hE hP hS hce hcv hcl => ?_) (fun r u H locs hG hP hD hS => ?_)
  · have hk9 := hk k hG
    subst hk9
    have hE := exE_2 hE
    subst hE
    refine vx_catch hown [] ⟨0, 9, 12, 13⟩ [] hT (fun z hz => absurd hz List.not_mem_nil) rfl (by decide) (hts (.classLink RL 13 "java/lang/IllegalArgumentException") (by decide +kernel)) (va_Nw.use rfl hK0.2.1.2.2.2.2.1) hce hcv hcl ?_
    refine lv_astore_n (lv' := [(3, .ref q9), (0, .ref p70), (1, .int x0), (2, .ref o)]) hx hb dL_reason_12 rfl hl (by decide) rfl (fun ls hl => ?_)
    refine lv_iconst (v := 1) hx hb dL_reason_13 (by decide) ?_
    exact W.iret (v := 1) hx hb hr (fun t ht hW => ⟨⟨1, ((st, w), out), rfl, (wrap_e (wrI_l hG) rfl), by show va_P D vwCl _ t.heap; rw [ht]; exact hP⟩, hS.F ht⟩) hS.2.2 dL_reason_14
  · refine lv_i2l (v := (Int32.toInt64 r)) hx hb dL_reason_7 rfl ?_
    refine va_last hx hb hK0.1 hP hD hS 25 3 rfl rfl (i := 0) (x := (Int32.toInt64 r)) (show ¬ ((0 : Int32) < 0 ∨ 1 ≤ (0 : Int32).toNatClampNeg) by decide) dL_reason_8 (fun H locs hP hD hS => ?_)
    have hP : va_P D vwCl (List.flatten [(wPCo p70 b7 c7 d7 e7 h7 k7 u.1), (wSet cy b7 v), (wPow cy c7 u.2), (wL cy o (vp_updL out 0 (Int32.toInt64 r)))]) H := hP
    refine lv_goto (tgt := 15) hx hb dL_reason_9 (by decide) ?_
    refine lv_iconst (v := 0) hx hb dL_reason_15 (by decide) ?_
    exact W.iret (v := 0) hx hb hr (fun t ht hW => ⟨⟨0, (u, vp_updL out 0 (Int32.toInt64 r)), rfl, wrI_r hG, by show va_P D vwCl _ t.heap; rw [ht]; exact hP⟩, hS.F ht⟩) hS.2.2 dL_reason_16
set_option maxHeartbeats 1000000 in
set_option maxRecDepth 100000 in
theorem c_L_pivot (l : Launch) (hl0 : l.stackTraces = false) (D : va_G) (cy : Nat → ClassId) (g : Nat → Nat) (B : Nat) (p70 : Nat) (b7 : Nat → Nat) (c7 : Nat → Nat) (d7 : Nat → Nat) (e7 : Nat → Nat) (h7 : Nat → Nat) (k7 : Nat → Nat) (st : Int32) (v : SetV) (w : PowV) (x0 : Int32) (o : Nat) (out : Nat → Int64) (hk : ∀ k, f_X7_pivot st v w x0 = .inl k → k = 2) : Met l yL_pivot wsL_pivot ({ frames := 8, cells := 1, slots := 6, locals := 153 }) (lwP D cy g B (List.flatten [(wPCo p70 b7 c7 d7 e7 h7 k7 st), (wSet cy b7 v), (wPow cy c7 w), (wL cy o out)]) [.ref p70, .int x0, .ref o]) (va_Qi (fun (r : Int32) (u : (Int32 × PowV) × (Nat → Int64)) => wrI (f_X7_pivot st v w x0) (fun _ => 1) (st, w) out = (r, u)) (fun u t => va_P D vwCl (List.flatten [(wPCo p70 b7 c7 d7 e7 h7 k7 u.1.1), (wSet cy b7 v), (wPow cy c7 u.1.2), (wL cy o u.2)]) t.heap) (muA (List.flatten [(wPCo p70 b7 c7 d7 e7 h7 k7 st), (wSet cy b7 v), (wPow cy c7 w), (wL cy o out)]))) 1 6 (muA (List.flatten [(wPCo p70 b7 c7 d7 e7 h7 k7 st), (wSet cy b7 v), (wPow cy c7 w), (wL cy o out)])) := by
  refine va_MetW (cc := cL_pivot) (maxL := 4) (ret := some .int) (hh := [(0, 9, 12, 13)]) (by decide) rfl ?_
  intro p e s m args below meth c s₁ BB hml hv
  obtain ⟨rfl, ⟨hP, hK0, hD0⟩, hNc⟩ := hv
  have hx := BB.exec
  have hb := BB.bytes
  have hr := BB.returns
  have hts := atoms_spec (ws := wsL_pivot) BB.pre
  have hown : s.vm.findClass RL = some m.cls := findClass_of_methodNamed BB.named
  have hlocks := BB.notSynchronized
  have hT := vx_table (x := yL_pivot) BB (hts (.codeWith yL_pivot cL_pivot 4 (some .int) [(0, 9, 12, 13)]) List.mem_cons_self)
  have S := my_fix hx hb hml hown hts
  have hAB := muB hD0
  have hD := muD hD0
  generalize hAe : muA (List.flatten [(wPCo p70 b7 c7 d7 e7 h7 k7 st), (wSet cy b7 v), (wPow cy c7 w), (wL cy o out)]) = A at hAB hD ⊢
  have hS : va_S A s.heap s.heap [] := va_S.rf
  have hl := lv_entry ([.ref p70, .int x0, .ref o]) (n := 4) (Nat.le_of_ble_eq_true rfl)
  rw [lg_entry_eq]
  generalize (lg_sl ([.ref p70, .int x0, .ref o]) ++ List.replicate (4 - (lg_sl ([.ref p70, .int x0, .ref o])).length) Slot.unset).toArray = ls at hl ⊢
  have hl : lv_has ls 4 [(0, .ref p70), (1, .int x0), (2, .ref o)] := hl
  refine lv_aload_n hx hb dL_pivot_0 rfl (lv_at hl 2 rfl) ?_
  refine lv_iconst (v := 0) hx hb dL_pivot_1 (by decide) ?_
  refine lv_aload_n hx hb dL_pivot_2 rfl (lv_at hl 0 rfl) ?_
  refine lv_iload_n hx hb dL_pivot_3 rfl (lv_at hl 1 rfl) ?_
  refine wr_compi (wcs := [(wPCo p70 b7 c7 d7 e7 h7 k7 st), (wSet cy b7 v), (wPow cy c7 w)]) (wns := fun u => [(wPCo p70 b7 c7 d7 e7 h7 k7 u.1), (wSet cy b7 v), (wPow cy c7 u.2)]) (W2 := fun u => [(wPCo p70 b7 c7 d7 e7 h7 k7 u.1), (wSet cy b7 v), (wPow cy c7 u.2), (wL cy o out)]) (vx_runV (C := RX7) (As := [.int x0]) (rest := [.int 0, .ref o]) S (c_X7_pivot l hl0 D cy g B p70 b7 c7 d7 e7 h7 k7 st v w x0) (cwV 1 hts gL_pivot_X7_pivot rfl rfl rfl hd_X7_pivot_V ⟨Nat.le_of_ble_eq_true rfl, Nat.le_of_ble_eq_true rfl⟩) ⟨muP_blind, va_recv hK0.1 hP (ci := 5) (q0 := 0) rfl rfl, my_preC (wcs := [(wPCo p70 b7 c7 d7 e7 h7 k7 st), (wSet cy b7 v), (wPow cy c7 w)]) hK0 hS hAB hP hD [0, 1, 2] (by decide) rfl rfl⟩ rfl rfl hl.1 rfl (lv_room (Nat.le_of_ble_eq_true rfl)) dL_pivot_4 ⟨Nat.le_of_ble_eq_true rfl, Nat.le_of_ble_eq_true rfl⟩) hS hP hD [0, 1, 2] rfl rfl (fun _ => rfl) (fun _ => by simp only [List.map_cons, List.map_nil, adrSet, adrSetE, adrPow, adrPowE, adrTxt, adrTxtE, adrSav, adrSavE, adrPCo, adrMod, adrModE]) (fun _ => rfl) rfl (fun k E ce q9 H locs hG hE hP hS hce hcv hcl => ?_) (fun r u H locs hG hP hD hS => ?_)
  · have hk9 := hk k hG
    subst hk9
    have hE := exE_2 hE
    subst hE
    refine vx_catch hown [] ⟨0, 9, 12, 13⟩ [] hT (fun z hz => absurd hz List.not_mem_nil) rfl (by decide) (hts (.classLink RL 13 "java/lang/IllegalArgumentException") (by decide +kernel)) (va_Nw.use rfl hK0.2.1.2.2.2.2.1) hce hcv hcl ?_
    refine lv_astore_n (lv' := [(3, .ref q9), (0, .ref p70), (1, .int x0), (2, .ref o)]) hx hb dL_pivot_12 rfl hl (by decide) rfl (fun ls hl => ?_)
    refine lv_iconst (v := 1) hx hb dL_pivot_13 (by decide) ?_
    exact W.iret (v := 1) hx hb hr (fun t ht hW => ⟨⟨1, ((st, w), out), rfl, (wrap_e (wrI_l hG) rfl), by show va_P D vwCl _ t.heap; rw [ht]; exact hP⟩, hS.F ht⟩) hS.2.2 dL_pivot_14
  · refine lv_i2l (v := (Int32.toInt64 r)) hx hb dL_pivot_7 rfl ?_
    refine va_last hx hb hK0.1 hP hD hS 25 3 rfl rfl (i := 0) (x := (Int32.toInt64 r)) (show ¬ ((0 : Int32) < 0 ∨ 1 ≤ (0 : Int32).toNatClampNeg) by decide) dL_pivot_8 (fun H locs hP hD hS => ?_)
    have hP : va_P D vwCl (List.flatten [(wPCo p70 b7 c7 d7 e7 h7 k7 u.1), (wSet cy b7 v), (wPow cy c7 u.2), (wL cy o (vp_updL out 0 (Int32.toInt64 r)))]) H := hP
    refine lv_goto (tgt := 15) hx hb dL_pivot_9 (by decide) ?_
    refine lv_iconst (v := 0) hx hb dL_pivot_15 (by decide) ?_
    exact W.iret (v := 0) hx hb hr (fun t ht hW => ⟨⟨0, (u, vp_updL out 0 (Int32.toInt64 r)), rfl, wrI_r hG, by show va_P D vwCl _ t.heap; rw [ht]; exact hP⟩, hS.F ht⟩) hS.2.2 dL_pivot_16
set_option maxHeartbeats 1000000 in
set_option maxRecDepth 100000 in
theorem c_L_swingsWith (l : Launch) (hl0 : l.stackTraces = false) (D : va_G) (cy : Nat → ClassId) (g : Nat → Nat) (B : Nat) (p70 : Nat) (b7 : Nat → Nat) (c7 : Nat → Nat) (d7 : Nat → Nat) (e7 : Nat → Nat) (h7 : Nat → Nat) (k7 : Nat → Nat) (st : Int32) (v : SetV) (v2 : SetV) (w2 : PowV) (x0 : Int32) (x1 : Int32) (o : Nat) (out : Nat → Int64) (hk : ∀ k, f_X7_swingsWith st v v2 w2 x0 x1 = .inl k → k = 1 ∨ k = 2) : Met l yL_swingsWith wsL_swingsWith ({ frames := 8, cells := 2, slots := 12, locals := 155 }) (lwP D cy g B (List.flatten [(wPCo p70 b7 c7 d7 e7 h7 k7 st), (wSet cy b7 v), (wSet cy d7 v2), (wPow cy e7 w2), (wL cy o out)]) [.ref p70, .int x0, .int x1, .ref o]) (va_Qi (fun (r : Int32) (u : (SetV × PowV) × (Nat → Int64)) => wrI (f_X7_swingsWith st v v2 w2 x0 x1) (fun f => f) (v2, w2) out = (r, u)) (fun u t => va_P D vwCl (List.flatten [(wPCo p70 b7 c7 d7 e7 h7 k7 st), (wSet cy b7 v), (wSet cy d7 u.1.1), (wPow cy e7 u.1.2), (wL cy o u.2)]) t.heap) (muA (List.flatten [(wPCo p70 b7 c7 d7 e7 h7 k7 st), (wSet cy b7 v), (wSet cy d7 v2), (wPow cy e7 w2), (wL cy o out)]))) 2 12 (muA (List.flatten [(wPCo p70 b7 c7 d7 e7 h7 k7 st), (wSet cy b7 v), (wSet cy d7 v2), (wPow cy e7 w2), (wL cy o out)])) := by
  refine va_MetW (cc := cL_swingsWith) (maxL := 5) (ret := some .int) (hh := [(0, 10, 13, 21), (0, 10, 17, 13)]) (by decide) rfl ?_
  intro p e s m args below meth c s₁ BB hml hv
  obtain ⟨rfl, ⟨hP, hK0, hD0⟩, hNc⟩ := hv
  have hx := BB.exec
  have hb := BB.bytes
  have hr := BB.returns
  have hts := atoms_spec (ws := wsL_swingsWith) BB.pre
  have hown : s.vm.findClass RL = some m.cls := findClass_of_methodNamed BB.named
  have hlocks := BB.notSynchronized
  have hT := vx_table (x := yL_swingsWith) BB (hts (.codeWith yL_swingsWith cL_swingsWith 5 (some .int) [(0, 10, 13, 21), (0, 10, 17, 13)]) List.mem_cons_self)
  have S := my_fix hx hb hml hown hts
  have hAB := muB hD0
  have hD := muD hD0
  generalize hAe : muA (List.flatten [(wPCo p70 b7 c7 d7 e7 h7 k7 st), (wSet cy b7 v), (wSet cy d7 v2), (wPow cy e7 w2), (wL cy o out)]) = A at hAB hD ⊢
  have hS : va_S A s.heap s.heap [] := va_S.rf
  have hl := lv_entry ([.ref p70, .int x0, .int x1, .ref o]) (n := 5) (Nat.le_of_ble_eq_true rfl)
  rw [lg_entry_eq]
  generalize (lg_sl ([.ref p70, .int x0, .int x1, .ref o]) ++ List.replicate (5 - (lg_sl ([.ref p70, .int x0, .int x1, .ref o])).length) Slot.unset).toArray = ls at hl ⊢
  have hl : lv_has ls 5 [(0, .ref p70), (1, .int x0), (2, .int x1), (3, .ref o)] := hl
  refine lv_aload_n hx hb dL_swingsWith_0 rfl (lv_at hl 3 rfl) ?_
  refine lv_iconst (v := 0) hx hb dL_swingsWith_1 (by decide) ?_
  refine lv_aload_n hx hb dL_swingsWith_2 rfl (lv_at hl 0 rfl) ?_
  refine lv_iload_n hx hb dL_swingsWith_3 rfl (lv_at hl 1 rfl) ?_
  refine lv_iload_n hx hb dL_swingsWith_4 rfl (lv_at hl 2 rfl) ?_
  refine wr_compi (wcs := [(wPCo p70 b7 c7 d7 e7 h7 k7 st), (wSet cy b7 v), (wSet cy d7 v2), (wPow cy e7 w2)]) (wns := fun u => [(wPCo p70 b7 c7 d7 e7 h7 k7 st), (wSet cy b7 v), (wSet cy d7 u.1), (wPow cy e7 u.2)]) (W2 := fun u => [(wPCo p70 b7 c7 d7 e7 h7 k7 st), (wSet cy b7 v), (wSet cy d7 u.1), (wPow cy e7 u.2), (wL cy o out)]) (vx_runV (C := RX7) (As := [.int x0, .int x1]) (rest := [.int 0, .ref o]) S (c_X7_swingsWith l hl0 D cy g B p70 b7 c7 d7 e7 h7 k7 st v v2 w2 x0 x1) (cwV 2 hts gL_swingsWith_X7_swingsWith rfl rfl rfl hd_X7_swingsWith_V ⟨Nat.le_of_ble_eq_true rfl, Nat.le_of_ble_eq_true rfl⟩) ⟨muP_blind, va_recv hK0.1 hP (ci := 5) (q0 := 0) rfl rfl, my_preC (wcs := [(wPCo p70 b7 c7 d7 e7 h7 k7 st), (wSet cy b7 v), (wSet cy d7 v2), (wPow cy e7 w2)]) hK0 hS hAB hP hD [0, 1, 2, 3] (by decide) rfl rfl⟩ rfl rfl hl.1 rfl (lv_room (Nat.le_of_ble_eq_true rfl)) dL_swingsWith_5 ⟨Nat.le_of_ble_eq_true rfl, Nat.le_of_ble_eq_true rfl⟩) hS hP hD [0, 1, 2, 3] rfl rfl (fun _ => rfl) (fun _ => by simp only [List.map_cons, List.map_nil, adrSet, adrSetE, adrPow, adrPowE, adrTxt, adrTxtE, adrSav, adrSavE, adrPCo, adrMod, adrModE]) (fun _ => rfl) rfl (fun k E ce q9 H locs hG hE hP hS hce hcv hcl => ?_) (fun r u H locs hG hP hD hS => ?_)
  · have hk9 := hk k hG
    rcases hk9 with rfl | rfl
    · have hE := exE_1 hE
      subst hE
      refine vx_catch hown [] ⟨0, 10, 13, 21⟩ [⟨0, 10, 17, 13⟩] hT (fun z hz => absurd hz List.not_mem_nil) rfl (by decide) (hts (.classLink RL 21 "java/lang/IndexOutOfBoundsException") (by decide +kernel)) (va_Nw.use rfl hK0.2.1.2.2.2.1) hce hcv hcl ?_
      refine lv_astore (lv' := [(4, .ref q9), (0, .ref p70), (1, .int x0), (2, .int x1), (3, .ref o)]) hx hb dL_swingsWith_13 hl (by decide) rfl (fun ls hl => ?_)
      refine lv_iconst (v := 1) hx hb dL_swingsWith_15 (by decide) ?_
      exact W.iret (v := 1) hx hb hr (fun t ht hW => ⟨⟨1, ((v2, w2), out), rfl, (wrap_e (wrI_l hG) rfl), by show va_P D vwCl _ t.heap; rw [ht]; exact hP⟩, hS.F ht⟩) hS.2.2 dL_swingsWith_16
    · have hE := exE_2 hE
      subst hE
      refine vx_catch hown [⟨0, 10, 13, 21⟩] ⟨0, 10, 17, 13⟩ [] hT (fun z hz => by rcases List.mem_singleton.mp hz with rfl; exact Or.inr ⟨by decide, _, (hts (.classLink RL 21 "java/lang/IndexOutOfBoundsException") (by decide +kernel)), hNc.1⟩) rfl (by decide) (hts (.classLink RL 13 "java/lang/IllegalArgumentException") (by decide +kernel)) (va_Nw.use rfl hK0.2.1.2.2.2.2.1) hce hcv hcl ?_
      refine lv_astore (lv' := [(4, .ref q9), (0, .ref p70), (1, .int x0), (2, .int x1), (3, .ref o)]) hx hb dL_swingsWith_17 hl (by decide) rfl (fun ls hl => ?_)
      refine lv_iconst (v := 2) hx hb dL_swingsWith_19 (by decide) ?_
      exact W.iret (v := 2) hx hb hr (fun t ht hW => ⟨⟨2, ((v2, w2), out), rfl, (wrap_e (wrI_l hG) rfl), by show va_P D vwCl _ t.heap; rw [ht]; exact hP⟩, hS.F ht⟩) hS.2.2 dL_swingsWith_20
  · refine lv_i2l (v := (Int32.toInt64 r)) hx hb dL_swingsWith_8 rfl ?_
    refine va_last hx hb hK0.1 hP hD hS 34 3 rfl rfl (i := 0) (x := (Int32.toInt64 r)) (show ¬ ((0 : Int32) < 0 ∨ 1 ≤ (0 : Int32).toNatClampNeg) by decide) dL_swingsWith_9 (fun H locs hP hD hS => ?_)
    have hP : va_P D vwCl (List.flatten [(wPCo p70 b7 c7 d7 e7 h7 k7 st), (wSet cy b7 v), (wSet cy d7 u.1), (wPow cy e7 u.2), (wL cy o (vp_updL out 0 (Int32.toInt64 r)))]) H := hP
    refine lv_goto (tgt := 21) hx hb dL_swingsWith_10 (by decide) ?_
    refine lv_iconst (v := 0) hx hb dL_swingsWith_21 (by decide) ?_
    exact W.iret (v := 0) hx hb hr (fun t ht hW => ⟨⟨0, (u, vp_updL out 0 (Int32.toInt64 r)), rfl, wrI_r hG, by show va_P D vwCl _ t.heap; rw [ht]; exact hP⟩, hS.F ht⟩) hS.2.2 dL_swingsWith_22
set_option maxHeartbeats 1000000 in
set_option maxRecDepth 100000 in
theorem c_L_bestQuota (l : Launch) (hl0 : l.stackTraces = false) (D : va_G) (cy : Nat → ClassId) (g : Nat → Nat) (B : Nat) (p70 : Nat) (b7 : Nat → Nat) (c7 : Nat → Nat) (d7 : Nat → Nat) (e7 : Nat → Nat) (h7 : Nat → Nat) (k7 : Nat → Nat) (st : Int32) (v : SetV) (w : PowV) (x0 : Int32) (o : Nat) (out : Nat → Int64) (hk : ∀ k, f_X7_bestQuota st v w x0 = .inl k → k = 1) : Met l yL_bestQuota wsL_bestQuota ({ frames := 8, cells := 1, slots := 6, locals := 153 }) (lwP D cy g B (List.flatten [(wPCo p70 b7 c7 d7 e7 h7 k7 st), (wSet cy b7 v), (wPow cy c7 w), (wL cy o out)]) [.ref p70, .int x0, .ref o]) (va_Qi (fun (r : Int32) (u : (Int32 × PowV) × (Nat → Int64)) => wrI (f_X7_bestQuota st v w x0) (fun _ => 1) (st, w) out = (r, u)) (fun u t => va_P D vwCl (List.flatten [(wPCo p70 b7 c7 d7 e7 h7 k7 u.1.1), (wSet cy b7 v), (wPow cy c7 u.1.2), (wL cy o u.2)]) t.heap) (muA (List.flatten [(wPCo p70 b7 c7 d7 e7 h7 k7 st), (wSet cy b7 v), (wPow cy c7 w), (wL cy o out)]))) 1 6 (muA (List.flatten [(wPCo p70 b7 c7 d7 e7 h7 k7 st), (wSet cy b7 v), (wPow cy c7 w), (wL cy o out)])) := by
  refine va_MetW (cc := cL_bestQuota) (maxL := 4) (ret := some .int) (hh := [(0, 9, 12, 21)]) (by decide) rfl ?_
  intro p e s m args below meth c s₁ BB hml hv
  obtain ⟨rfl, ⟨hP, hK0, hD0⟩, hNc⟩ := hv
  have hx := BB.exec
  have hb := BB.bytes
  have hr := BB.returns
  have hts := atoms_spec (ws := wsL_bestQuota) BB.pre
  have hown : s.vm.findClass RL = some m.cls := findClass_of_methodNamed BB.named
  have hlocks := BB.notSynchronized
  have hT := vx_table (x := yL_bestQuota) BB (hts (.codeWith yL_bestQuota cL_bestQuota 4 (some .int) [(0, 9, 12, 21)]) List.mem_cons_self)
  have S := my_fix hx hb hml hown hts
  have hAB := muB hD0
  have hD := muD hD0
  generalize hAe : muA (List.flatten [(wPCo p70 b7 c7 d7 e7 h7 k7 st), (wSet cy b7 v), (wPow cy c7 w), (wL cy o out)]) = A at hAB hD ⊢
  have hS : va_S A s.heap s.heap [] := va_S.rf
  have hl := lv_entry ([.ref p70, .int x0, .ref o]) (n := 4) (Nat.le_of_ble_eq_true rfl)
  rw [lg_entry_eq]
  generalize (lg_sl ([.ref p70, .int x0, .ref o]) ++ List.replicate (4 - (lg_sl ([.ref p70, .int x0, .ref o])).length) Slot.unset).toArray = ls at hl ⊢
  have hl : lv_has ls 4 [(0, .ref p70), (1, .int x0), (2, .ref o)] := hl
  refine lv_aload_n hx hb dL_bestQuota_0 rfl (lv_at hl 2 rfl) ?_
  refine lv_iconst (v := 0) hx hb dL_bestQuota_1 (by decide) ?_
  refine lv_aload_n hx hb dL_bestQuota_2 rfl (lv_at hl 0 rfl) ?_
  refine lv_iload_n hx hb dL_bestQuota_3 rfl (lv_at hl 1 rfl) ?_
  refine wr_compi (wcs := [(wPCo p70 b7 c7 d7 e7 h7 k7 st), (wSet cy b7 v), (wPow cy c7 w)]) (wns := fun u => [(wPCo p70 b7 c7 d7 e7 h7 k7 u.1), (wSet cy b7 v), (wPow cy c7 u.2)]) (W2 := fun u => [(wPCo p70 b7 c7 d7 e7 h7 k7 u.1), (wSet cy b7 v), (wPow cy c7 u.2), (wL cy o out)]) (vx_runV (C := RX7) (As := [.int x0]) (rest := [.int 0, .ref o]) S (c_X7_bestQuota l hl0 D cy g B p70 b7 c7 d7 e7 h7 k7 st v w x0) (cwV 1 hts gL_bestQuota_X7_bestQuota rfl rfl rfl hd_X7_bestQuota_V ⟨Nat.le_of_ble_eq_true rfl, Nat.le_of_ble_eq_true rfl⟩) ⟨muP_blind, va_recv hK0.1 hP (ci := 5) (q0 := 0) rfl rfl, my_preC (wcs := [(wPCo p70 b7 c7 d7 e7 h7 k7 st), (wSet cy b7 v), (wPow cy c7 w)]) hK0 hS hAB hP hD [0, 1, 2] (by decide) rfl rfl⟩ rfl rfl hl.1 rfl (lv_room (Nat.le_of_ble_eq_true rfl)) dL_bestQuota_4 ⟨Nat.le_of_ble_eq_true rfl, Nat.le_of_ble_eq_true rfl⟩) hS hP hD [0, 1, 2] rfl rfl (fun _ => rfl) (fun _ => by simp only [List.map_cons, List.map_nil, adrSet, adrSetE, adrPow, adrPowE, adrTxt, adrTxtE, adrSav, adrSavE, adrPCo, adrMod, adrModE]) (fun _ => rfl) rfl (fun k E ce q9 H locs hG hE hP hS hce hcv hcl => ?_) (fun r u H locs hG hP hD hS => ?_)
  · have hk9 := hk k hG
    subst hk9
    have hE := exE_1 hE
    subst hE
    refine vx_catch hown [] ⟨0, 9, 12, 21⟩ [] hT (fun z hz => absurd hz List.not_mem_nil) rfl (by decide) (hts (.classLink RL 21 "java/lang/IndexOutOfBoundsException") (by decide +kernel)) (va_Nw.use rfl hK0.2.1.2.2.2.1) hce hcv hcl ?_
    refine lv_astore_n (lv' := [(3, .ref q9), (0, .ref p70), (1, .int x0), (2, .ref o)]) hx hb dL_bestQuota_12 rfl hl (by decide) rfl (fun ls hl => ?_)
    refine lv_iconst (v := 1) hx hb dL_bestQuota_13 (by decide) ?_
    exact W.iret (v := 1) hx hb hr (fun t ht hW => ⟨⟨1, ((st, w), out), rfl, (wrap_e (wrI_l hG) rfl), by show va_P D vwCl _ t.heap; rw [ht]; exact hP⟩, hS.F ht⟩) hS.2.2 dL_bestQuota_14
  · refine lv_i2l (v := (Int32.toInt64 r)) hx hb dL_bestQuota_7 rfl ?_
    refine va_last hx hb hK0.1 hP hD hS 25 3 rfl rfl (i := 0) (x := (Int32.toInt64 r)) (show ¬ ((0 : Int32) < 0 ∨ 1 ≤ (0 : Int32).toNatClampNeg) by decide) dL_bestQuota_8 (fun H locs hP hD hS => ?_)
    have hP : va_P D vwCl (List.flatten [(wPCo p70 b7 c7 d7 e7 h7 k7 u.1), (wSet cy b7 v), (wPow cy c7 u.2), (wL cy o (vp_updL out 0 (Int32.toInt64 r)))]) H := hP
    refine lv_goto (tgt := 15) hx hb dL_bestQuota_9 (by decide) ?_
    refine lv_iconst (v := 0) hx hb dL_bestQuota_15 (by decide) ?_
    exact W.iret (v := 0) hx hb hr (fun t ht hW => ⟨⟨0, (u, vp_updL out 0 (Int32.toInt64 r)), rfl, wrI_r hG, by show va_P D vwCl _ t.heap; rw [ht]; exact hP⟩, hS.F ht⟩) hS.2.2 dL_bestQuota_16
set_option maxHeartbeats 1000000 in
set_option maxRecDepth 100000 in
theorem c_L_dummiesWith (l : Launch) (hl0 : l.stackTraces = false) (D : va_G) (cy : Nat → ClassId) (g : Nat → Nat) (B : Nat) (p70 : Nat) (b7 : Nat → Nat) (c7 : Nat → Nat) (d7 : Nat → Nat) (e7 : Nat → Nat) (h7 : Nat → Nat) (k7 : Nat → Nat) (st : Int32) (v : SetV) (v2 : SetV) (w2 : PowV) (x0 : Int32) (o : Nat) (out : Nat → Int64) (hk : ∀ k, f_X7_dummiesWith st v v2 w2 x0 = .inl k → k = 2) : Met l yL_dummiesWith wsL_dummiesWith ({ frames := 8, cells := 1, slots := 6, locals := 154 }) (lwP D cy g B (List.flatten [(wPCo p70 b7 c7 d7 e7 h7 k7 st), (wSet cy b7 v), (wSet cy d7 v2), (wPow cy e7 w2), (wL cy o out)]) [.ref p70, .int x0, .ref o]) (va_Qi (fun (r : Int32) (u : (SetV × PowV) × (Nat → Int64)) => wrI (f_X7_dummiesWith st v v2 w2 x0) (fun _ => 1) (v2, w2) out = (r, u)) (fun u t => va_P D vwCl (List.flatten [(wPCo p70 b7 c7 d7 e7 h7 k7 st), (wSet cy b7 v), (wSet cy d7 u.1.1), (wPow cy e7 u.1.2), (wL cy o u.2)]) t.heap) (muA (List.flatten [(wPCo p70 b7 c7 d7 e7 h7 k7 st), (wSet cy b7 v), (wSet cy d7 v2), (wPow cy e7 w2), (wL cy o out)]))) 1 6 (muA (List.flatten [(wPCo p70 b7 c7 d7 e7 h7 k7 st), (wSet cy b7 v), (wSet cy d7 v2), (wPow cy e7 w2), (wL cy o out)])) := by
  refine va_MetW (cc := cL_dummiesWith) (maxL := 4) (ret := some .int) (hh := [(0, 9, 12, 13)]) (by decide) rfl ?_
  intro p e s m args below meth c s₁ BB hml hv
  obtain ⟨rfl, ⟨hP, hK0, hD0⟩, hNc⟩ := hv
  have hx := BB.exec
  have hb := BB.bytes
  have hr := BB.returns
  have hts := atoms_spec (ws := wsL_dummiesWith) BB.pre
  have hown : s.vm.findClass RL = some m.cls := findClass_of_methodNamed BB.named
  have hlocks := BB.notSynchronized
  have hT := vx_table (x := yL_dummiesWith) BB (hts (.codeWith yL_dummiesWith cL_dummiesWith 4 (some .int) [(0, 9, 12, 13)]) List.mem_cons_self)
  have S := my_fix hx hb hml hown hts
  have hAB := muB hD0
  have hD := muD hD0
  generalize hAe : muA (List.flatten [(wPCo p70 b7 c7 d7 e7 h7 k7 st), (wSet cy b7 v), (wSet cy d7 v2), (wPow cy e7 w2), (wL cy o out)]) = A at hAB hD ⊢
  have hS : va_S A s.heap s.heap [] := va_S.rf
  have hl := lv_entry ([.ref p70, .int x0, .ref o]) (n := 4) (Nat.le_of_ble_eq_true rfl)
  rw [lg_entry_eq]
  generalize (lg_sl ([.ref p70, .int x0, .ref o]) ++ List.replicate (4 - (lg_sl ([.ref p70, .int x0, .ref o])).length) Slot.unset).toArray = ls at hl ⊢
  have hl : lv_has ls 4 [(0, .ref p70), (1, .int x0), (2, .ref o)] := hl
  refine lv_aload_n hx hb dL_dummiesWith_0 rfl (lv_at hl 2 rfl) ?_
  refine lv_iconst (v := 0) hx hb dL_dummiesWith_1 (by decide) ?_
  refine lv_aload_n hx hb dL_dummiesWith_2 rfl (lv_at hl 0 rfl) ?_
  refine lv_iload_n hx hb dL_dummiesWith_3 rfl (lv_at hl 1 rfl) ?_
  refine wr_compi (wcs := [(wPCo p70 b7 c7 d7 e7 h7 k7 st), (wSet cy b7 v), (wSet cy d7 v2), (wPow cy e7 w2)]) (wns := fun u => [(wPCo p70 b7 c7 d7 e7 h7 k7 st), (wSet cy b7 v), (wSet cy d7 u.1), (wPow cy e7 u.2)]) (W2 := fun u => [(wPCo p70 b7 c7 d7 e7 h7 k7 st), (wSet cy b7 v), (wSet cy d7 u.1), (wPow cy e7 u.2), (wL cy o out)]) (vx_runV (C := RX7) (As := [.int x0]) (rest := [.int 0, .ref o]) S (c_X7_dummiesWith l hl0 D cy g B p70 b7 c7 d7 e7 h7 k7 st v v2 w2 x0) (cwV 1 hts gL_dummiesWith_X7_dummiesWith rfl rfl rfl hd_X7_dummiesWith_V ⟨Nat.le_of_ble_eq_true rfl, Nat.le_of_ble_eq_true rfl⟩) ⟨muP_blind, va_recv hK0.1 hP (ci := 5) (q0 := 0) rfl rfl, my_preC (wcs := [(wPCo p70 b7 c7 d7 e7 h7 k7 st), (wSet cy b7 v), (wSet cy d7 v2), (wPow cy e7 w2)]) hK0 hS hAB hP hD [0, 1, 2, 3] (by decide) rfl rfl⟩ rfl rfl hl.1 rfl (lv_room (Nat.le_of_ble_eq_true rfl)) dL_dummiesWith_4 ⟨Nat.le_of_ble_eq_true rfl, Nat.le_of_ble_eq_true rfl⟩) hS hP hD [0, 1, 2, 3] rfl rfl (fun _ => rfl) (fun _ => by simp only [List.map_cons, List.map_nil, adrSet, adrSetE, adrPow, adrPowE, adrTxt, adrTxtE, adrSav, adrSavE, adrPCo, adrMod, adrModE]) (fun _ => rfl) rfl (fun k E ce q9 H locs hG hE hP hS hce hcv hcl => ?_) (fun r u H locs hG hP hD hS => ?_)
  · have hk9 := hk k hG
    subst hk9
    have hE := exE_2 hE
    subst hE
    refine vx_catch hown [] ⟨0, 9, 12, 13⟩ [] hT (fun z hz => absurd hz List.not_mem_nil) rfl (by decide) (hts (.classLink RL 13 "java/lang/IllegalArgumentException") (by decide +kernel)) (va_Nw.use rfl hK0.2.1.2.2.2.2.1) hce hcv hcl ?_
    refine lv_astore_n (lv' := [(3, .ref q9), (0, .ref p70), (1, .int x0), (2, .ref o)]) hx hb dL_dummiesWith_12 rfl hl (by decide) rfl (fun ls hl => ?_)
    refine lv_iconst (v := 1) hx hb dL_dummiesWith_13 (by decide) ?_
    exact W.iret (v := 1) hx hb hr (fun t ht hW => ⟨⟨1, ((v2, w2), out), rfl, (wrap_e (wrI_l hG) rfl), by show va_P D vwCl _ t.heap; rw [ht]; exact hP⟩, hS.F ht⟩) hS.2.2 dL_dummiesWith_14
  · refine lv_i2l (v := (Int32.toInt64 r)) hx hb dL_dummiesWith_7 rfl ?_
    refine va_last hx hb hK0.1 hP hD hS 34 3 rfl rfl (i := 0) (x := (Int32.toInt64 r)) (show ¬ ((0 : Int32) < 0 ∨ 1 ≤ (0 : Int32).toNatClampNeg) by decide) dL_dummiesWith_8 (fun H locs hP hD hS => ?_)
    have hP : va_P D vwCl (List.flatten [(wPCo p70 b7 c7 d7 e7 h7 k7 st), (wSet cy b7 v), (wSet cy d7 u.1), (wPow cy e7 u.2), (wL cy o (vp_updL out 0 (Int32.toInt64 r)))]) H := hP
    refine lv_goto (tgt := 15) hx hb dL_dummiesWith_9 (by decide) ?_
    refine lv_iconst (v := 0) hx hb dL_dummiesWith_15 (by decide) ?_
    exact W.iret (v := 0) hx hb hr (fun t ht hW => ⟨⟨0, (u, vp_updL out 0 (Int32.toInt64 r)), rfl, wrI_r hG, by show va_P D vwCl _ t.heap; rw [ht]; exact hP⟩, hS.F ht⟩) hS.2.2 dL_dummiesWith_16
set_option maxHeartbeats 1000000 in
set_option maxRecDepth 100000 in
theorem c_L_leastWeight (l : Launch) (hl0 : l.stackTraces = false) (D : va_G) (cy : Nat → ClassId) (g : Nat → Nat) (B : Nat) (p70 : Nat) (b7 : Nat → Nat) (c7 : Nat → Nat) (d7 : Nat → Nat) (e7 : Nat → Nat) (h7 : Nat → Nat) (k7 : Nat → Nat) (st : Int32) (v : SetV) (w : PowV) (x0 : Int32) (o : Nat) (out : Nat → Int64) (hk : ∀ k, f_X7_leastWeight st v w x0 = .inl k → k = 1) : Met l yL_leastWeight wsL_leastWeight ({ frames := 8, cells := 1, slots := 6, locals := 156 }) (lwP D cy g B (List.flatten [(wPCo p70 b7 c7 d7 e7 h7 k7 st), (wSet cy b7 v), (wPow cy c7 w), (wL cy o out)]) [.ref p70, .int x0, .ref o]) (va_Qi (fun (r : Int32) (u : (Int32 × PowV) × (Nat → Int64)) => wrI (f_X7_leastWeight st v w x0) (fun _ => 1) (st, w) out = (r, u)) (fun u t => va_P D vwCl (List.flatten [(wPCo p70 b7 c7 d7 e7 h7 k7 u.1.1), (wSet cy b7 v), (wPow cy c7 u.1.2), (wL cy o u.2)]) t.heap) (muA (List.flatten [(wPCo p70 b7 c7 d7 e7 h7 k7 st), (wSet cy b7 v), (wPow cy c7 w), (wL cy o out)]))) 1 6 (muA (List.flatten [(wPCo p70 b7 c7 d7 e7 h7 k7 st), (wSet cy b7 v), (wPow cy c7 w), (wL cy o out)])) := by
  refine va_MetW (cc := cL_leastWeight) (maxL := 4) (ret := some .int) (hh := [(0, 9, 12, 21)]) (by decide) rfl ?_
  intro p e s m args below meth c s₁ BB hml hv
  obtain ⟨rfl, ⟨hP, hK0, hD0⟩, hNc⟩ := hv
  have hx := BB.exec
  have hb := BB.bytes
  have hr := BB.returns
  have hts := atoms_spec (ws := wsL_leastWeight) BB.pre
  have hown : s.vm.findClass RL = some m.cls := findClass_of_methodNamed BB.named
  have hlocks := BB.notSynchronized
  have hT := vx_table (x := yL_leastWeight) BB (hts (.codeWith yL_leastWeight cL_leastWeight 4 (some .int) [(0, 9, 12, 21)]) List.mem_cons_self)
  have S := my_fix hx hb hml hown hts
  have hAB := muB hD0
  have hD := muD hD0
  generalize hAe : muA (List.flatten [(wPCo p70 b7 c7 d7 e7 h7 k7 st), (wSet cy b7 v), (wPow cy c7 w), (wL cy o out)]) = A at hAB hD ⊢
  have hS : va_S A s.heap s.heap [] := va_S.rf
  have hl := lv_entry ([.ref p70, .int x0, .ref o]) (n := 4) (Nat.le_of_ble_eq_true rfl)
  rw [lg_entry_eq]
  generalize (lg_sl ([.ref p70, .int x0, .ref o]) ++ List.replicate (4 - (lg_sl ([.ref p70, .int x0, .ref o])).length) Slot.unset).toArray = ls at hl ⊢
  have hl : lv_has ls 4 [(0, .ref p70), (1, .int x0), (2, .ref o)] := hl
  refine lv_aload_n hx hb dL_leastWeight_0 rfl (lv_at hl 2 rfl) ?_
  refine lv_iconst (v := 0) hx hb dL_leastWeight_1 (by decide) ?_
  refine lv_aload_n hx hb dL_leastWeight_2 rfl (lv_at hl 0 rfl) ?_
  refine lv_iload_n hx hb dL_leastWeight_3 rfl (lv_at hl 1 rfl) ?_
  refine wr_compi (wcs := [(wPCo p70 b7 c7 d7 e7 h7 k7 st), (wSet cy b7 v), (wPow cy c7 w)]) (wns := fun u => [(wPCo p70 b7 c7 d7 e7 h7 k7 u.1), (wSet cy b7 v), (wPow cy c7 u.2)]) (W2 := fun u => [(wPCo p70 b7 c7 d7 e7 h7 k7 u.1), (wSet cy b7 v), (wPow cy c7 u.2), (wL cy o out)]) (vx_runV (C := RX7) (As := [.int x0]) (rest := [.int 0, .ref o]) S (c_X7_leastWeight l hl0 D cy g B p70 b7 c7 d7 e7 h7 k7 st v w x0) (cwV 1 hts gL_leastWeight_X7_leastWeight rfl rfl rfl hd_X7_leastWeight_V ⟨Nat.le_of_ble_eq_true rfl, Nat.le_of_ble_eq_true rfl⟩) ⟨muP_blind, va_recv hK0.1 hP (ci := 5) (q0 := 0) rfl rfl, my_preC (wcs := [(wPCo p70 b7 c7 d7 e7 h7 k7 st), (wSet cy b7 v), (wPow cy c7 w)]) hK0 hS hAB hP hD [0, 1, 2] (by decide) rfl rfl⟩ rfl rfl hl.1 rfl (lv_room (Nat.le_of_ble_eq_true rfl)) dL_leastWeight_4 ⟨Nat.le_of_ble_eq_true rfl, Nat.le_of_ble_eq_true rfl⟩) hS hP hD [0, 1, 2] rfl rfl (fun _ => rfl) (fun _ => by simp only [List.map_cons, List.map_nil, adrSet, adrSetE, adrPow, adrPowE, adrTxt, adrTxtE, adrSav, adrSavE, adrPCo, adrMod, adrModE]) (fun _ => rfl) rfl (fun k E ce q9 H locs hG hE hP hS hce hcv hcl => ?_) (fun r u H locs hG hP hD hS => ?_)
  · have hk9 := hk k hG
    subst hk9
    have hE := exE_1 hE
    subst hE
    refine vx_catch hown [] ⟨0, 9, 12, 21⟩ [] hT (fun z hz => absurd hz List.not_mem_nil) rfl (by decide) (hts (.classLink RL 21 "java/lang/IndexOutOfBoundsException") (by decide +kernel)) (va_Nw.use rfl hK0.2.1.2.2.2.1) hce hcv hcl ?_
    refine lv_astore_n (lv' := [(3, .ref q9), (0, .ref p70), (1, .int x0), (2, .ref o)]) hx hb dL_leastWeight_12 rfl hl (by decide) rfl (fun ls hl => ?_)
    refine lv_iconst (v := 1) hx hb dL_leastWeight_13 (by decide) ?_
    exact W.iret (v := 1) hx hb hr (fun t ht hW => ⟨⟨1, ((st, w), out), rfl, (wrap_e (wrI_l hG) rfl), by show va_P D vwCl _ t.heap; rw [ht]; exact hP⟩, hS.F ht⟩) hS.2.2 dL_leastWeight_14
  · refine lv_i2l (v := (Int32.toInt64 r)) hx hb dL_leastWeight_7 rfl ?_
    refine va_last hx hb hK0.1 hP hD hS 25 3 rfl rfl (i := 0) (x := (Int32.toInt64 r)) (show ¬ ((0 : Int32) < 0 ∨ 1 ≤ (0 : Int32).toNatClampNeg) by decide) dL_leastWeight_8 (fun H locs hP hD hS => ?_)
    have hP : va_P D vwCl (List.flatten [(wPCo p70 b7 c7 d7 e7 h7 k7 u.1), (wSet cy b7 v), (wPow cy c7 u.2), (wL cy o (vp_updL out 0 (Int32.toInt64 r)))]) H := hP
    refine lv_goto (tgt := 15) hx hb dL_leastWeight_9 (by decide) ?_
    refine lv_iconst (v := 0) hx hb dL_leastWeight_15 (by decide) ?_
    exact W.iret (v := 0) hx hb hr (fun t ht hW => ⟨⟨0, (u, vp_updL out 0 (Int32.toInt64 r)), rfl, wrI_r hG, by show va_P D vwCl _ t.heap; rw [ht]; exact hP⟩, hS.F ht⟩) hS.2.2 dL_leastWeight_16
set_option maxHeartbeats 1000000 in
set_option maxRecDepth 100000 in
theorem c_L_unionGain (l : Launch) (hl0 : l.stackTraces = false) (D : va_G) (cy : Nat → ClassId) (g : Nat → Nat) (B : Nat) (p70 : Nat) (b7 : Nat → Nat) (c7 : Nat → Nat) (d7 : Nat → Nat) (e7 : Nat → Nat) (h7 : Nat → Nat) (k7 : Nat → Nat) (st : Int32) (v : SetV) (w : PowV) (v2 : SetV) (w2 : PowV) (x0 : Int32) (x1 : Int32) (o : Nat) (out : Nat → UInt64) (hk : ∀ k, f_X7_unionGain st v w v2 w2 x0 x1 = .inl k → k = 1 ∨ k = 2) : Met l yL_unionGain wsL_unionGain ({ frames := 8, cells := 1, slots := 6, locals := 156 }) (lwP D cy g B (List.flatten [(wPCo p70 b7 c7 d7 e7 h7 k7 st), (wSet cy b7 v), (wPow cy c7 w), (wSet cy d7 v2), (wPow cy e7 w2), (wDb cy o out)]) [.ref p70, .int x0, .int x1, .ref o]) (va_Qi (fun (r : Int32) (u : (Int32 × PowV × SetV × PowV) × (Nat → UInt64)) => wrD (f_X7_unionGain st v w v2 w2 x0 x1) (fun f => f) (st, w, v2, w2) out = (r, u)) (fun u t => va_P D vwCl (List.flatten [(wPCo p70 b7 c7 d7 e7 h7 k7 u.1.1), (wSet cy b7 v), (wPow cy c7 u.1.2.1), (wSet cy d7 u.1.2.2.1), (wPow cy e7 u.1.2.2.2), (wDb cy o u.2)]) t.heap) (muA (List.flatten [(wPCo p70 b7 c7 d7 e7 h7 k7 st), (wSet cy b7 v), (wPow cy c7 w), (wSet cy d7 v2), (wPow cy e7 w2), (wDb cy o out)]))) 1 6 (muA (List.flatten [(wPCo p70 b7 c7 d7 e7 h7 k7 st), (wSet cy b7 v), (wPow cy c7 w), (wSet cy d7 v2), (wPow cy e7 w2), (wDb cy o out)])) := by
  refine va_MetW (cc := cL_unionGain) (maxL := 5) (ret := some .int) (hh := [(0, 9, 12, 21), (0, 9, 16, 13)]) (by decide) rfl ?_
  intro p e s m args below meth c s₁ BB hml hv
  obtain ⟨rfl, ⟨hP, hK0, hD0⟩, hNc⟩ := hv
  have hx := BB.exec
  have hb := BB.bytes
  have hr := BB.returns
  have hts := atoms_spec (ws := wsL_unionGain) BB.pre
  have hown : s.vm.findClass RL = some m.cls := findClass_of_methodNamed BB.named
  have hlocks := BB.notSynchronized
  have hT := vx_table (x := yL_unionGain) BB (hts (.codeWith yL_unionGain cL_unionGain 5 (some .int) [(0, 9, 12, 21), (0, 9, 16, 13)]) List.mem_cons_self)
  have S := my_fix hx hb hml hown hts
  have hAB := muB hD0
  have hD := muD hD0
  generalize hAe : muA (List.flatten [(wPCo p70 b7 c7 d7 e7 h7 k7 st), (wSet cy b7 v), (wPow cy c7 w), (wSet cy d7 v2), (wPow cy e7 w2), (wDb cy o out)]) = A at hAB hD ⊢
  have hS : va_S A s.heap s.heap [] := va_S.rf
  have hl := lv_entry ([.ref p70, .int x0, .int x1, .ref o]) (n := 5) (Nat.le_of_ble_eq_true rfl)
  rw [lg_entry_eq]
  generalize (lg_sl ([.ref p70, .int x0, .int x1, .ref o]) ++ List.replicate (5 - (lg_sl ([.ref p70, .int x0, .int x1, .ref o])).length) Slot.unset).toArray = ls at hl ⊢
  have hl : lv_has ls 5 [(0, .ref p70), (1, .int x0), (2, .int x1), (3, .ref o)] := hl
  refine lv_aload_n hx hb dL_unionGain_0 rfl (lv_at hl 3 rfl) ?_
  refine lv_iconst (v := 0) hx hb dL_unionGain_1 (by decide) ?_
  refine lv_aload_n hx hb dL_unionGain_2 rfl (lv_at hl 0 rfl) ?_
  refine lv_iload_n hx hb dL_unionGain_3 rfl (lv_at hl 1 rfl) ?_
  refine lv_iload_n hx hb dL_unionGain_4 rfl (lv_at hl 2 rfl) ?_
  refine wr_compd (wcs := [(wPCo p70 b7 c7 d7 e7 h7 k7 st), (wSet cy b7 v), (wPow cy c7 w), (wSet cy d7 v2), (wPow cy e7 w2)]) (wns := fun u => [(wPCo p70 b7 c7 d7 e7 h7 k7 u.1), (wSet cy b7 v), (wPow cy c7 u.2.1), (wSet cy d7 u.2.2.1), (wPow cy e7 u.2.2.2)]) (W2 := fun u => [(wPCo p70 b7 c7 d7 e7 h7 k7 u.1), (wSet cy b7 v), (wPow cy c7 u.2.1), (wSet cy d7 u.2.2.1), (wPow cy e7 u.2.2.2), (wDb cy o out)]) (vx_runV (C := RX7) (As := [.int x0, .int x1]) (rest := [.int 0, .ref o]) S (c_X7_unionGain l hl0 D cy g B p70 b7 c7 d7 e7 h7 k7 st v w v2 w2 x0 x1) (cwV 2 hts gL_unionGain_X7_unionGain rfl rfl rfl hd_X7_unionGain_V ⟨Nat.le_of_ble_eq_true rfl, Nat.le_of_ble_eq_true rfl⟩) ⟨muP_blind, va_recv hK0.1 hP (ci := 5) (q0 := 0) rfl rfl, my_preC (wcs := [(wPCo p70 b7 c7 d7 e7 h7 k7 st), (wSet cy b7 v), (wPow cy c7 w), (wSet cy d7 v2), (wPow cy e7 w2)]) hK0 hS hAB hP hD [0, 1, 2, 3, 4] (by decide) rfl rfl⟩ rfl rfl hl.1 rfl (lv_room (Nat.le_of_ble_eq_true rfl)) dL_unionGain_5 ⟨Nat.le_of_ble_eq_true rfl, Nat.le_of_ble_eq_true rfl⟩) hS hP hD [0, 1, 2, 3, 4] rfl rfl (fun _ => rfl) (fun _ => by simp only [List.map_cons, List.map_nil, adrSet, adrSetE, adrPow, adrPowE, adrTxt, adrTxtE, adrSav, adrSavE, adrPCo, adrMod, adrModE]) (fun _ => rfl) rfl (fun k E ce q9 H locs hG hE hP hS hce hcv hcl => ?_) (fun r u H locs hG hP hD hS => ?_)
  · have hk9 := hk k hG
    rcases hk9 with rfl | rfl
    · have hE := exE_1 hE
      subst hE
      refine vx_catch hown [] ⟨0, 9, 12, 21⟩ [⟨0, 9, 16, 13⟩] hT (fun z hz => absurd hz List.not_mem_nil) rfl (by decide) (hts (.classLink RL 21 "java/lang/IndexOutOfBoundsException") (by decide +kernel)) (va_Nw.use rfl hK0.2.1.2.2.2.1) hce hcv hcl ?_
      refine lv_astore (lv' := [(4, .ref q9), (0, .ref p70), (1, .int x0), (2, .int x1), (3, .ref o)]) hx hb dL_unionGain_12 hl (by decide) rfl (fun ls hl => ?_)
      refine lv_iconst (v := 1) hx hb dL_unionGain_14 (by decide) ?_
      exact W.iret (v := 1) hx hb hr (fun t ht hW => ⟨⟨1, ((st, w, v2, w2), out), rfl, (wrap_e (wrD_l hG) rfl), by show va_P D vwCl _ t.heap; rw [ht]; exact hP⟩, hS.F ht⟩) hS.2.2 dL_unionGain_15
    · have hE := exE_2 hE
      subst hE
      refine vx_catch hown [⟨0, 9, 12, 21⟩] ⟨0, 9, 16, 13⟩ [] hT (fun z hz => by rcases List.mem_singleton.mp hz with rfl; exact Or.inr ⟨by decide, _, (hts (.classLink RL 21 "java/lang/IndexOutOfBoundsException") (by decide +kernel)), hNc.1⟩) rfl (by decide) (hts (.classLink RL 13 "java/lang/IllegalArgumentException") (by decide +kernel)) (va_Nw.use rfl hK0.2.1.2.2.2.2.1) hce hcv hcl ?_
      refine lv_astore (lv' := [(4, .ref q9), (0, .ref p70), (1, .int x0), (2, .int x1), (3, .ref o)]) hx hb dL_unionGain_16 hl (by decide) rfl (fun ls hl => ?_)
      refine lv_iconst (v := 2) hx hb dL_unionGain_18 (by decide) ?_
      exact W.iret (v := 2) hx hb hr (fun t ht hW => ⟨⟨2, ((st, w, v2, w2), out), rfl, (wrap_e (wrD_l hG) rfl), by show va_P D vwCl _ t.heap; rw [ht]; exact hP⟩, hS.F ht⟩) hS.2.2 dL_unionGain_19
  · refine va_dast hx hb hK0.1 hP hD hS 49 4 rfl rfl (i := 0) (x := r) (show ¬ ((0 : Int32) < 0 ∨ 1 ≤ (0 : Int32).toNatClampNeg) by decide) dL_unionGain_8 (fun H locs hP hD hS => ?_)
    have hP : va_P D vwCl (List.flatten [(wPCo p70 b7 c7 d7 e7 h7 k7 u.1), (wSet cy b7 v), (wPow cy c7 u.2.1), (wSet cy d7 u.2.2.1), (wPow cy e7 u.2.2.2), (wDb cy o (vf_upd out 0 r))]) H := hP
    refine lv_goto (tgt := 20) hx hb dL_unionGain_9 (by decide) ?_
    refine lv_iconst (v := 0) hx hb dL_unionGain_20 (by decide) ?_
    exact W.iret (v := 0) hx hb hr (fun t ht hW => ⟨⟨0, (u, vf_upd out 0 r), rfl, wrD_r hG, by show va_P D vwCl _ t.heap; rw [ht]; exact hP⟩, hS.F ht⟩) hS.2.2 dL_unionGain_21
set_option maxHeartbeats 1000000 in
set_option maxRecDepth 100000 in
theorem c_L_compare (l : Launch) (hl0 : l.stackTraces = false) (D : va_G) (cy : Nat → ClassId) (g : Nat → Nat) (B : Nat) (p70 : Nat) (b7 : Nat → Nat) (c7 : Nat → Nat) (d7 : Nat → Nat) (e7 : Nat → Nat) (h7 : Nat → Nat) (k7 : Nat → Nat) (st : Int32) (v : SetV) (w : PowV) (x0 : Int32) (x1 : Int32) (o : Nat) (out : Nat → Int64) (hk : ∀ k, f_X7_compare st v w x0 x1 = .inl k → k = 1 ∨ k = 2) : Met l yL_compare wsL_compare ({ frames := 8, cells := 1, slots := 6, locals := 156 }) (lwP D cy g B (List.flatten [(wPCo p70 b7 c7 d7 e7 h7 k7 st), (wSet cy b7 v), (wPow cy c7 w), (wL cy o out)]) [.ref p70, .int x0, .int x1, .ref o]) (va_Qi (fun (r : Int32) (u : (Int32 × PowV) × (Nat → Int64)) => wrI (f_X7_compare st v w x0 x1) (fun f => f) (st, w) out = (r, u)) (fun u t => va_P D vwCl (List.flatten [(wPCo p70 b7 c7 d7 e7 h7 k7 u.1.1), (wSet cy b7 v), (wPow cy c7 u.1.2), (wL cy o u.2)]) t.heap) (muA (List.flatten [(wPCo p70 b7 c7 d7 e7 h7 k7 st), (wSet cy b7 v), (wPow cy c7 w), (wL cy o out)]))) 1 6 (muA (List.flatten [(wPCo p70 b7 c7 d7 e7 h7 k7 st), (wSet cy b7 v), (wPow cy c7 w), (wL cy o out)])) := by
  refine va_MetW (cc := cL_compare) (maxL := 5) (ret := some .int) (hh := [(0, 10, 13, 21), (0, 10, 17, 13)]) (by decide) rfl ?_
  intro p e s m args below meth c s₁ BB hml hv
  obtain ⟨rfl, ⟨hP, hK0, hD0⟩, hNc⟩ := hv
  have hx := BB.exec
  have hb := BB.bytes
  have hr := BB.returns
  have hts := atoms_spec (ws := wsL_compare) BB.pre
  have hown : s.vm.findClass RL = some m.cls := findClass_of_methodNamed BB.named
  have hlocks := BB.notSynchronized
  have hT := vx_table (x := yL_compare) BB (hts (.codeWith yL_compare cL_compare 5 (some .int) [(0, 10, 13, 21), (0, 10, 17, 13)]) List.mem_cons_self)
  have S := my_fix hx hb hml hown hts
  have hAB := muB hD0
  have hD := muD hD0
  generalize hAe : muA (List.flatten [(wPCo p70 b7 c7 d7 e7 h7 k7 st), (wSet cy b7 v), (wPow cy c7 w), (wL cy o out)]) = A at hAB hD ⊢
  have hS : va_S A s.heap s.heap [] := va_S.rf
  have hl := lv_entry ([.ref p70, .int x0, .int x1, .ref o]) (n := 5) (Nat.le_of_ble_eq_true rfl)
  rw [lg_entry_eq]
  generalize (lg_sl ([.ref p70, .int x0, .int x1, .ref o]) ++ List.replicate (5 - (lg_sl ([.ref p70, .int x0, .int x1, .ref o])).length) Slot.unset).toArray = ls at hl ⊢
  have hl : lv_has ls 5 [(0, .ref p70), (1, .int x0), (2, .int x1), (3, .ref o)] := hl
  refine lv_aload_n hx hb dL_compare_0 rfl (lv_at hl 3 rfl) ?_
  refine lv_iconst (v := 0) hx hb dL_compare_1 (by decide) ?_
  refine lv_aload_n hx hb dL_compare_2 rfl (lv_at hl 0 rfl) ?_
  refine lv_iload_n hx hb dL_compare_3 rfl (lv_at hl 1 rfl) ?_
  refine lv_iload_n hx hb dL_compare_4 rfl (lv_at hl 2 rfl) ?_
  refine wr_compi (wcs := [(wPCo p70 b7 c7 d7 e7 h7 k7 st), (wSet cy b7 v), (wPow cy c7 w)]) (wns := fun u => [(wPCo p70 b7 c7 d7 e7 h7 k7 u.1), (wSet cy b7 v), (wPow cy c7 u.2)]) (W2 := fun u => [(wPCo p70 b7 c7 d7 e7 h7 k7 u.1), (wSet cy b7 v), (wPow cy c7 u.2), (wL cy o out)]) (vx_runV (C := RX7) (As := [.int x0, .int x1]) (rest := [.int 0, .ref o]) S (c_X7_compare l hl0 D cy g B p70 b7 c7 d7 e7 h7 k7 st v w x0 x1) (cwV 2 hts gL_compare_X7_compare rfl rfl rfl hd_X7_compare_V ⟨Nat.le_of_ble_eq_true rfl, Nat.le_of_ble_eq_true rfl⟩) ⟨muP_blind, va_recv hK0.1 hP (ci := 5) (q0 := 0) rfl rfl, my_preC (wcs := [(wPCo p70 b7 c7 d7 e7 h7 k7 st), (wSet cy b7 v), (wPow cy c7 w)]) hK0 hS hAB hP hD [0, 1, 2] (by decide) rfl rfl⟩ rfl rfl hl.1 rfl (lv_room (Nat.le_of_ble_eq_true rfl)) dL_compare_5 ⟨Nat.le_of_ble_eq_true rfl, Nat.le_of_ble_eq_true rfl⟩) hS hP hD [0, 1, 2] rfl rfl (fun _ => rfl) (fun _ => by simp only [List.map_cons, List.map_nil, adrSet, adrSetE, adrPow, adrPowE, adrTxt, adrTxtE, adrSav, adrSavE, adrPCo, adrMod, adrModE]) (fun _ => rfl) rfl (fun k E ce q9 H locs hG hE hP hS hce hcv hcl => ?_) (fun r u H locs hG hP hD hS => ?_)
  · have hk9 := hk k hG
    rcases hk9 with rfl | rfl
    · have hE := exE_1 hE
      subst hE
      refine vx_catch hown [] ⟨0, 10, 13, 21⟩ [⟨0, 10, 17, 13⟩] hT (fun z hz => absurd hz List.not_mem_nil) rfl (by decide) (hts (.classLink RL 21 "java/lang/IndexOutOfBoundsException") (by decide +kernel)) (va_Nw.use rfl hK0.2.1.2.2.2.1) hce hcv hcl ?_
      refine lv_astore (lv' := [(4, .ref q9), (0, .ref p70), (1, .int x0), (2, .int x1), (3, .ref o)]) hx hb dL_compare_13 hl (by decide) rfl (fun ls hl => ?_)
      refine lv_iconst (v := 1) hx hb dL_compare_15 (by decide) ?_
      exact W.iret (v := 1) hx hb hr (fun t ht hW => ⟨⟨1, ((st, w), out), rfl, (wrap_e (wrI_l hG) rfl), by show va_P D vwCl _ t.heap; rw [ht]; exact hP⟩, hS.F ht⟩) hS.2.2 dL_compare_16
    · have hE := exE_2 hE
      subst hE
      refine vx_catch hown [⟨0, 10, 13, 21⟩] ⟨0, 10, 17, 13⟩ [] hT (fun z hz => by rcases List.mem_singleton.mp hz with rfl; exact Or.inr ⟨by decide, _, (hts (.classLink RL 21 "java/lang/IndexOutOfBoundsException") (by decide +kernel)), hNc.1⟩) rfl (by decide) (hts (.classLink RL 13 "java/lang/IllegalArgumentException") (by decide +kernel)) (va_Nw.use rfl hK0.2.1.2.2.2.2.1) hce hcv hcl ?_
      refine lv_astore (lv' := [(4, .ref q9), (0, .ref p70), (1, .int x0), (2, .int x1), (3, .ref o)]) hx hb dL_compare_17 hl (by decide) rfl (fun ls hl => ?_)
      refine lv_iconst (v := 2) hx hb dL_compare_19 (by decide) ?_
      exact W.iret (v := 2) hx hb hr (fun t ht hW => ⟨⟨2, ((st, w), out), rfl, (wrap_e (wrI_l hG) rfl), by show va_P D vwCl _ t.heap; rw [ht]; exact hP⟩, hS.F ht⟩) hS.2.2 dL_compare_20
  · refine lv_i2l (v := (Int32.toInt64 r)) hx hb dL_compare_8 rfl ?_
    refine va_last hx hb hK0.1 hP hD hS 25 3 rfl rfl (i := 0) (x := (Int32.toInt64 r)) (show ¬ ((0 : Int32) < 0 ∨ 1 ≤ (0 : Int32).toNatClampNeg) by decide) dL_compare_9 (fun H locs hP hD hS => ?_)
    have hP : va_P D vwCl (List.flatten [(wPCo p70 b7 c7 d7 e7 h7 k7 u.1), (wSet cy b7 v), (wPow cy c7 u.2), (wL cy o (vp_updL out 0 (Int32.toInt64 r)))]) H := hP
    refine lv_goto (tgt := 21) hx hb dL_compare_10 (by decide) ?_
    refine lv_iconst (v := 0) hx hb dL_compare_21 (by decide) ?_
    exact W.iret (v := 0) hx hb hr (fun t ht hW => ⟨⟨0, (u, vp_updL out 0 (Int32.toInt64 r)), rfl, wrI_r hG, by show va_P D vwCl _ t.heap; rw [ht]; exact hP⟩, hS.F ht⟩) hS.2.2 dL_compare_22
set_option maxHeartbeats 1000000 in
set_option maxRecDepth 100000 in
theorem c_L_type (l : Launch) (hl0 : l.stackTraces = false) (D : va_G) (cy : Nat → ClassId) (g : Nat → Nat) (B : Nat) (p70 : Nat) (b7 : Nat → Nat) (c7 : Nat → Nat) (d7 : Nat → Nat) (e7 : Nat → Nat) (h7 : Nat → Nat) (k7 : Nat → Nat) (st : Int32) (tx : TxtV) (x0 : Int32) (o : Nat) (out : Nat → Int64) (hk : ∀ k, f_X7_type st tx x0 = .inl k → k = 2 ∨ k = 3) : Met l yL_type wsL_type ({ frames := 8, cells := 2, slots := 12, locals := 131 }) (lwP D cy g B (List.flatten [(wPCo p70 b7 c7 d7 e7 h7 k7 st), (wTxt cy g k7 tx), (wL cy o out)]) [.ref p70, .int x0, .ref o]) (va_Qi (fun (r : Int32) (u : (Int32 × TxtV) × (Nat → Int64)) => wrI (f_X7_type st tx x0) (fun f => if f = 2 then 1 else 2) (st, tx) out = (r, u)) (fun u t => va_P D vwCl (List.flatten [(wPCo p70 b7 c7 d7 e7 h7 k7 u.1.1), (wTxt cy g k7 u.1.2), (wL cy o u.2)]) t.heap) (muA (List.flatten [(wPCo p70 b7 c7 d7 e7 h7 k7 st), (wTxt cy g k7 tx), (wL cy o out)]))) 2 12 (muA (List.flatten [(wPCo p70 b7 c7 d7 e7 h7 k7 st), (wTxt cy g k7 tx), (wL cy o out)])) := by
  refine va_MetW (cc := cL_type) (maxL := 4) (ret := some .int) (hh := [(0, 9, 12, 13), (0, 9, 15, 15)]) (by decide) rfl ?_
  intro p e s m args below meth c s₁ BB hml hv
  obtain ⟨rfl, ⟨hP, hK0, hD0⟩, hNc⟩ := hv
  have hx := BB.exec
  have hb := BB.bytes
  have hr := BB.returns
  have hts := atoms_spec (ws := wsL_type) BB.pre
  have hown : s.vm.findClass RL = some m.cls := findClass_of_methodNamed BB.named
  have hlocks := BB.notSynchronized
  have hT := vx_table (x := yL_type) BB (hts (.codeWith yL_type cL_type 4 (some .int) [(0, 9, 12, 13), (0, 9, 15, 15)]) List.mem_cons_self)
  have S := my_fix hx hb hml hown hts
  have hAB := muB hD0
  have hD := muD hD0
  generalize hAe : muA (List.flatten [(wPCo p70 b7 c7 d7 e7 h7 k7 st), (wTxt cy g k7 tx), (wL cy o out)]) = A at hAB hD ⊢
  have hS : va_S A s.heap s.heap [] := va_S.rf
  have hl := lv_entry ([.ref p70, .int x0, .ref o]) (n := 4) (Nat.le_of_ble_eq_true rfl)
  rw [lg_entry_eq]
  generalize (lg_sl ([.ref p70, .int x0, .ref o]) ++ List.replicate (4 - (lg_sl ([.ref p70, .int x0, .ref o])).length) Slot.unset).toArray = ls at hl ⊢
  have hl : lv_has ls 4 [(0, .ref p70), (1, .int x0), (2, .ref o)] := hl
  refine lv_aload_n hx hb dL_type_0 rfl (lv_at hl 2 rfl) ?_
  refine lv_iconst (v := 0) hx hb dL_type_1 (by decide) ?_
  refine lv_aload_n hx hb dL_type_2 rfl (lv_at hl 0 rfl) ?_
  refine lv_iload_n hx hb dL_type_3 rfl (lv_at hl 1 rfl) ?_
  refine wr_compi (wcs := [(wPCo p70 b7 c7 d7 e7 h7 k7 st), (wTxt cy g k7 tx)]) (wns := fun u => [(wPCo p70 b7 c7 d7 e7 h7 k7 u.1), (wTxt cy g k7 u.2)]) (W2 := fun u => [(wPCo p70 b7 c7 d7 e7 h7 k7 u.1), (wTxt cy g k7 u.2), (wL cy o out)]) (vx_runV (C := RX7) (As := [.int x0]) (rest := [.int 0, .ref o]) S (c_X7_type l hl0 D cy g B p70 b7 c7 d7 e7 h7 k7 st tx x0) (cwV 1 hts gL_type_X7_type rfl rfl rfl hd_X7_type_V ⟨Nat.le_of_ble_eq_true rfl, Nat.le_of_ble_eq_true rfl⟩) ⟨muP_blind, va_recv hK0.1 hP (ci := 5) (q0 := 0) rfl rfl, my_preC (wcs := [(wPCo p70 b7 c7 d7 e7 h7 k7 st), (wTxt cy g k7 tx)]) hK0 hS hAB hP hD [0, 1] (by decide) rfl rfl⟩ rfl rfl hl.1 rfl (lv_room (Nat.le_of_ble_eq_true rfl)) dL_type_4 ⟨Nat.le_of_ble_eq_true rfl, Nat.le_of_ble_eq_true rfl⟩) hS hP hD [0, 1] rfl rfl (fun _ => rfl) (fun _ => by simp only [List.map_cons, List.map_nil, adrSet, adrSetE, adrPow, adrPowE, adrTxt, adrTxtE, adrSav, adrSavE, adrPCo, adrMod, adrModE]) (fun _ => rfl) rfl (fun k E ce q9 H locs hG hE hP hS hce hcv hcl => ?_) (fun r u H locs hG hP hD hS => ?_)
  · have hk9 := hk k hG
    rcases hk9 with rfl | rfl
    · have hE := exE_2 hE
      subst hE
      refine vx_catch hown [] ⟨0, 9, 12, 13⟩ [⟨0, 9, 15, 15⟩] hT (fun z hz => absurd hz List.not_mem_nil) rfl (by decide) (hts (.classLink RL 13 "java/lang/IllegalArgumentException") (by decide +kernel)) (va_Nw.use rfl hK0.2.1.2.2.2.2.1) hce hcv hcl ?_
      refine lv_astore_n (lv' := [(3, .ref q9), (0, .ref p70), (1, .int x0), (2, .ref o)]) hx hb dL_type_12 rfl hl (by decide) rfl (fun ls hl => ?_)
      refine lv_iconst (v := 1) hx hb dL_type_13 (by decide) ?_
      exact W.iret (v := 1) hx hb hr (fun t ht hW => ⟨⟨1, ((st, tx), out), rfl, (wrap_e (wrI_l hG) rfl), by show va_P D vwCl _ t.heap; rw [ht]; exact hP⟩, hS.F ht⟩) hS.2.2 dL_type_14
    · have hE := exE_3 hE
      subst hE
      refine vx_catch hown [⟨0, 9, 12, 13⟩] ⟨0, 9, 15, 15⟩ [] hT (fun z hz => by rcases List.mem_singleton.mp hz with rfl; exact Or.inr ⟨by decide, _, (hts (.classLink RL 13 "java/lang/IllegalArgumentException") (by decide +kernel)), hNc.2.2⟩) rfl (by decide) (hts (.classLink RL 15 "java/lang/IllegalStateException") (by decide +kernel)) (va_Nw.use rfl hK0.2.1.2.2.2.2.2) hce hcv hcl ?_
      refine lv_astore_n (lv' := [(3, .ref q9), (0, .ref p70), (1, .int x0), (2, .ref o)]) hx hb dL_type_15 rfl hl (by decide) rfl (fun ls hl => ?_)
      refine lv_iconst (v := 2) hx hb dL_type_16 (by decide) ?_
      exact W.iret (v := 2) hx hb hr (fun t ht hW => ⟨⟨2, ((st, tx), out), rfl, (wrap_e (wrI_l hG) rfl), by show va_P D vwCl _ t.heap; rw [ht]; exact hP⟩, hS.F ht⟩) hS.2.2 dL_type_17
  · refine lv_i2l (v := (Int32.toInt64 r)) hx hb dL_type_7 rfl ?_
    refine va_last hx hb hK0.1 hP hD hS 4 3 rfl rfl (i := 0) (x := (Int32.toInt64 r)) (show ¬ ((0 : Int32) < 0 ∨ 1 ≤ (0 : Int32).toNatClampNeg) by decide) dL_type_8 (fun H locs hP hD hS => ?_)
    have hP : va_P D vwCl (List.flatten [(wPCo p70 b7 c7 d7 e7 h7 k7 u.1), (wTxt cy g k7 u.2), (wL cy o (vp_updL out 0 (Int32.toInt64 r)))]) H := hP
    refine lv_goto (tgt := 18) hx hb dL_type_9 (by decide) ?_
    refine lv_iconst (v := 0) hx hb dL_type_18 (by decide) ?_
    exact W.iret (v := 0) hx hb hr (fun t ht hW => ⟨⟨0, (u, vp_updL out 0 (Int32.toInt64 r)), rfl, wrI_r hG, by show va_P D vwCl _ t.heap; rw [ht]; exact hP⟩, hS.F ht⟩) hS.2.2 dL_type_19
set_option maxHeartbeats 1000000 in
set_option maxRecDepth 100000 in
theorem c_L_undo (l : Launch) (hl0 : l.stackTraces = false) (D : va_G) (cy : Nat → ClassId) (g : Nat → Nat) (B : Nat) (p70 : Nat) (b7 : Nat → Nat) (c7 : Nat → Nat) (d7 : Nat → Nat) (e7 : Nat → Nat) (h7 : Nat → Nat) (k7 : Nat → Nat) (q : Nat → Nat → Nat) (st : Int32) (v : SetV) (z : (Int32 × Int32)) (s0 : SetV) (s1 : SetV) (s2 : SetV) (s3 : SetV) (o : Nat) (out : Nat → Int64) (hk : ∀ k, f_X7_undo st v z s0 s1 s2 s3 = .inl k → k = 3) : Met l yL_undo wsL_undo ({ frames := 8, cells := 1, slots := 6, locals := 130 }) (lwP D cy g B (List.flatten [(wPCo p70 b7 c7 d7 e7 h7 k7 st), (wSet cy b7 v), (wSav cy q h7 z), (wSet cy (q 0) s0), (wSet cy (q 1) s1), (wSet cy (q 2) s2), (wSet cy (q 3) s3), (wL cy o out)]) [.ref p70, .ref o]) (va_Qi (fun (r : Int32) (u : (Int32 × SetV × (Int32 × Int32) × SetV × SetV × SetV × SetV) × (Nat → Int64)) => wrI (f_X7_undo st v z s0 s1 s2 s3) (fun _ => 1) (st, v, z, s0, s1, s2, s3) out = (r, u)) (fun u t => va_P D vwCl (List.flatten [(wPCo p70 b7 c7 d7 e7 h7 k7 u.1.1), (wSet cy b7 u.1.2.1), (wSav cy q h7 u.1.2.2.1), (wSet cy (q 0) u.1.2.2.2.1), (wSet cy (q 1) u.1.2.2.2.2.1), (wSet cy (q 2) u.1.2.2.2.2.2.1), (wSet cy (q 3) u.1.2.2.2.2.2.2), (wL cy o u.2)]) t.heap) (muA (List.flatten [(wPCo p70 b7 c7 d7 e7 h7 k7 st), (wSet cy b7 v), (wSav cy q h7 z), (wSet cy (q 0) s0), (wSet cy (q 1) s1), (wSet cy (q 2) s2), (wSet cy (q 3) s3), (wL cy o out)]))) 1 6 (muA (List.flatten [(wPCo p70 b7 c7 d7 e7 h7 k7 st), (wSet cy b7 v), (wSav cy q h7 z), (wSet cy (q 0) s0), (wSet cy (q 1) s1), (wSet cy (q 2) s2), (wSet cy (q 3) s3), (wL cy o out)])) := by
  refine va_MetW (cc := cL_undo) (maxL := 3) (ret := some .int) (hh := [(0, 8, 11, 15)]) (by decide) rfl ?_
  intro p e s m args below meth c s₁ BB hml hv
  obtain ⟨rfl, ⟨hP, hK0, hD0⟩, hNc⟩ := hv
  have hx := BB.exec
  have hb := BB.bytes
  have hr := BB.returns
  have hts := atoms_spec (ws := wsL_undo) BB.pre
  have hown : s.vm.findClass RL = some m.cls := findClass_of_methodNamed BB.named
  have hlocks := BB.notSynchronized
  have hT := vx_table (x := yL_undo) BB (hts (.codeWith yL_undo cL_undo 3 (some .int) [(0, 8, 11, 15)]) List.mem_cons_self)
  have S := my_fix hx hb hml hown hts
  have hAB := muB hD0
  have hD := muD hD0
  generalize hAe : muA (List.flatten [(wPCo p70 b7 c7 d7 e7 h7 k7 st), (wSet cy b7 v), (wSav cy q h7 z), (wSet cy (q 0) s0), (wSet cy (q 1) s1), (wSet cy (q 2) s2), (wSet cy (q 3) s3), (wL cy o out)]) = A at hAB hD ⊢
  have hS : va_S A s.heap s.heap [] := va_S.rf
  have hl := lv_entry ([.ref p70, .ref o]) (n := 3) (Nat.le_of_ble_eq_true rfl)
  rw [lg_entry_eq]
  generalize (lg_sl ([.ref p70, .ref o]) ++ List.replicate (3 - (lg_sl ([.ref p70, .ref o])).length) Slot.unset).toArray = ls at hl ⊢
  have hl : lv_has ls 3 [(0, .ref p70), (1, .ref o)] := hl
  refine lv_aload_n hx hb dL_undo_0 rfl (lv_at hl 1 rfl) ?_
  refine lv_iconst (v := 0) hx hb dL_undo_1 (by decide) ?_
  refine lv_aload_n hx hb dL_undo_2 rfl (lv_at hl 0 rfl) ?_
  refine wr_compi (wcs := [(wPCo p70 b7 c7 d7 e7 h7 k7 st), (wSet cy b7 v), (wSav cy q h7 z), (wSet cy (q 0) s0), (wSet cy (q 1) s1), (wSet cy (q 2) s2), (wSet cy (q 3) s3)]) (wns := fun u => [(wPCo p70 b7 c7 d7 e7 h7 k7 u.1), (wSet cy b7 u.2.1), (wSav cy q h7 u.2.2.1), (wSet cy (q 0) u.2.2.2.1), (wSet cy (q 1) u.2.2.2.2.1), (wSet cy (q 2) u.2.2.2.2.2.1), (wSet cy (q 3) u.2.2.2.2.2.2)]) (W2 := fun u => [(wPCo p70 b7 c7 d7 e7 h7 k7 u.1), (wSet cy b7 u.2.1), (wSav cy q h7 u.2.2.1), (wSet cy (q 0) u.2.2.2.1), (wSet cy (q 1) u.2.2.2.2.1), (wSet cy (q 2) u.2.2.2.2.2.1), (wSet cy (q 3) u.2.2.2.2.2.2), (wL cy o out)]) (vx_runV (C := RX7) (As := []) (rest := [.int 0, .ref o]) S (c_X7_undo l hl0 D cy g B p70 b7 c7 d7 e7 h7 k7 q st v z s0 s1 s2 s3) (cwV 0 hts gL_undo_X7_undo rfl rfl rfl hd_X7_undo_V ⟨Nat.le_of_ble_eq_true rfl, Nat.le_of_ble_eq_true rfl⟩) ⟨muP_blind, va_recv hK0.1 hP (ci := 5) (q0 := 0) rfl rfl, my_preC (wcs := [(wPCo p70 b7 c7 d7 e7 h7 k7 st), (wSet cy b7 v), (wSav cy q h7 z), (wSet cy (q 0) s0), (wSet cy (q 1) s1), (wSet cy (q 2) s2), (wSet cy (q 3) s3)]) hK0 hS hAB hP hD [0, 1, 2, 3, 4, 5, 6] (by decide) rfl rfl⟩ rfl rfl hl.1 rfl (lv_room (Nat.le_of_ble_eq_true rfl)) dL_undo_3 ⟨Nat.le_of_ble_eq_true rfl, Nat.le_of_ble_eq_true rfl⟩) hS hP hD [0, 1, 2, 3, 4, 5, 6] rfl rfl (fun _ => rfl) (fun _ => by simp only [List.map_cons, List.map_nil, adrSet, adrSetE, adrPow, adrPowE, adrTxt, adrTxtE, adrSav, adrSavE, adrPCo, adrMod, adrModE]) (fun _ => rfl) rfl (fun k E ce q9 H locs hG hE hP hS hce hcv hcl => ?_) (fun r u H locs hG hP hD hS => ?_)
  · have hk9 := hk k hG
    subst hk9
    have hE := exE_3 hE
    subst hE
    refine vx_catch hown [] ⟨0, 8, 11, 15⟩ [] hT (fun z hz => absurd hz List.not_mem_nil) rfl (by decide) (hts (.classLink RL 15 "java/lang/IllegalStateException") (by decide +kernel)) (va_Nw.use rfl hK0.2.1.2.2.2.2.2) hce hcv hcl ?_
    refine lv_astore_n (lv' := [(2, .ref q9), (0, .ref p70), (1, .ref o)]) hx hb dL_undo_11 rfl hl (by decide) rfl (fun ls hl => ?_)
    refine lv_iconst (v := 1) hx hb dL_undo_12 (by decide) ?_
    exact W.iret (v := 1) hx hb hr (fun t ht hW => ⟨⟨1, ((st, v, z, s0, s1, s2, s3), out), rfl, (wrap_e (wrI_l hG) rfl), by show va_P D vwCl _ t.heap; rw [ht]; exact hP⟩, hS.F ht⟩) hS.2.2 dL_undo_13
  · refine lv_i2l (v := (Int32.toInt64 r)) hx hb dL_undo_6 rfl ?_
    refine va_last hx hb hK0.1 hP hD hS 48 3 rfl rfl (i := 0) (x := (Int32.toInt64 r)) (show ¬ ((0 : Int32) < 0 ∨ 1 ≤ (0 : Int32).toNatClampNeg) by decide) dL_undo_7 (fun H locs hP hD hS => ?_)
    have hP : va_P D vwCl (List.flatten [(wPCo p70 b7 c7 d7 e7 h7 k7 u.1), (wSet cy b7 u.2.1), (wSav cy q h7 u.2.2.1), (wSet cy (q 0) u.2.2.2.1), (wSet cy (q 1) u.2.2.2.2.1), (wSet cy (q 2) u.2.2.2.2.2.1), (wSet cy (q 3) u.2.2.2.2.2.2), (wL cy o (vp_updL out 0 (Int32.toInt64 r)))]) H := hP
    refine lv_goto (tgt := 14) hx hb dL_undo_8 (by decide) ?_
    refine lv_iconst (v := 0) hx hb dL_undo_14 (by decide) ?_
    exact W.iret (v := 0) hx hb hr (fun t ht hW => ⟨⟨0, (u, vp_updL out 0 (Int32.toInt64 r)), rfl, wrI_r hG, by show va_P D vwCl _ t.heap; rw [ht]; exact hP⟩, hS.F ht⟩) hS.2.2 dL_undo_15
