/-! part 36: the law's methods that call and catch -/
/-- no exception of ours is one of another kind -/
def ncOK (U : State) : Prop := va_Nc "java/lang/IllegalArgumentException" "java/lang/IndexOutOfBoundsException" U ∧ va_Nc "java/lang/IllegalStateException" "java/lang/IndexOutOfBoundsException" U ∧ va_Nc "java/lang/IllegalStateException" "java/lang/IllegalArgumentException" U
def lwP (D : va_G) (cy : Nat → ClassId) (g : Nat → Nat) (B : Nat) (wc : va_W) (av : List Value) : Array Value → State → Prop := va_Pc av (fun U => (va_P D vwCl wc U.heap ∧ myK D cy g B U U.heap ∧ va_D (fun q => B ≤ q) wc) ∧ ncOK U)
theorem lwP_blind {D : va_G} {cy : Nat → ClassId} {g : Nat → Nat} {B : Nat} {wc : va_W} {av : List Value} : FrameBlind (lwP D cy g B wc av) := by
  intro a U g' mk h
  have h1 := muP_blind (D := D) (cy := cy) (g := g) (B := B) (wc := wc) (av := av) a U g' mk ⟨h.1, h.2.1⟩
  exact ⟨h1.1, h1.2, va_Nc.moved (u := U) (U := U.calling g' mk a) (Vm.Alike.refl U.vm) h.2.2.1, va_Nc.moved (u := U) (U := U.calling g' mk a) (Vm.Alike.refl U.vm) h.2.2.2.1, va_Nc.moved (u := U) (U := U.calling g' mk a) (Vm.Alike.refl U.vm) h.2.2.2.2⟩
theorem exE_1 {E : String} (h : exE 1 E) : E = "java/lang/IndexOutOfBoundsException" := by
  rcases h with ⟨_, h⟩ | ⟨h, _⟩ | ⟨h, _⟩
  · exact h
  · exact absurd h (by decide)
  · exact absurd h (by decide)
theorem exE_2 {E : String} (h : exE 2 E) : E = "java/lang/IllegalArgumentException" := by
  rcases h with ⟨h, _⟩ | ⟨_, h⟩ | ⟨h, _⟩
  · exact absurd h (by decide)
  · exact h
  · exact absurd h (by decide)
theorem exE_3 {E : String} (h : exE 3 E) : E = "java/lang/IllegalStateException" := by
  rcases h with ⟨h, _⟩ | ⟨h, _⟩ | ⟨_, h⟩
  · exact absurd h (by decide)
  · exact absurd h (by decide)
  · exact h
/-- what a wrapper answers, and what it leaves -/
def codI (k : Int32) : Int32 := if k = 1 then -2000001 else if k = 2 then -2000002 else -2000003
def wrI {S : Type} (F : Int32 ⊕ (Int32 × S)) (u0 : S) : Int32 × S := match F with
  | .inl k => (codI k, u0)
  | .inr a => a
theorem wrI_l {S : Type} {F : Int32 ⊕ (Int32 × S)} {k : Int32} {u0 : S} (h : F = .inl k) : wrI F u0 = (codI k, u0) := by subst h; rfl
theorem wrI_r {S : Type} {F : Int32 ⊕ (Int32 × S)} {a : Int32} {u : S} {u0 : S} (h : F = .inr (a, u)) : wrI F u0 = (a, u) := by subst h; rfl
def wrF {S : Type} (F : Int32 ⊕ (UInt32 × S)) (u0 : S) : UInt64 × S := match F with
  | .inl _ => (13924712787461799936, u0)
  | .inr a => (FP.f2d a.1, a.2)
theorem wrF_l {S : Type} {F : Int32 ⊕ (UInt32 × S)} {k : Int32} {u0 : S} (h : F = .inl k) : wrF F u0 = (13924712787461799936, u0) := by subst h; rfl
theorem wrF_r {S : Type} {F : Int32 ⊕ (UInt32 × S)} {a : UInt32} {u : S} {u0 : S} (h : F = .inr (a, u)) : wrF F u0 = (FP.f2d a, u) := by subst h; rfl
def wrD {S : Type} (F : Int32 ⊕ (UInt64 × S)) (u0 : S) : UInt64 × S := match F with
  | .inl _ => (13924712787461799936, u0)
  | .inr a => a
theorem wrD_l {S : Type} {F : Int32 ⊕ (UInt64 × S)} {k : Int32} {u0 : S} (h : F = .inl k) : wrD F u0 = (13924712787461799936, u0) := by subst h; rfl
theorem wrD_r {S : Type} {F : Int32 ⊕ (UInt64 × S)} {a : UInt64} {u : S} {u0 : S} (h : F = .inr (a, u)) : wrD F u0 = (a, u) := by subst h; rfl
theorem wrap_e {α : Type} {a b c : α} (h : a = b) (h2 : b = c) : a = c := h.trans h2
section WRAP
variable {p : Program} {l : Launch} {e : Env} {R : Room} {s : State} {m : MethodId} {args : Array Value} {below : List Frame} {meth : Method} {c : Code} {H : Heap} {locs : List Loc} {cells slots : Nat} {Q : State → Prop}
variable {rest st0 : List Value} {D : va_G} {wc ws : va_W} {pc : Nat} {ls : Array Slot} {A : Nat → Prop} {a : Array Value}
theorem wr_compi {S : Type} {G : Int32 ⊕ (Int32 × S)} {Wl wcs : List va_W} {wf : S → va_W} {wns W2 : S → List va_W} {mc1 ms1 : Nat} (hr : vx_Run p l e R s m args below meth c H locs cells slots mc1 ms1 (F0 m pc ls st0) rest (va_Qi (fun (r : Int32) (u : S) => G = .inr (r, u)) (fun u t => va_P D vwCl (wf u) t.heap) (muA wc) a) (vx_X (fun (k : Int32) => G = .inl k) (fun E k t => exE k E ∧ va_P D vwCl wc t.heap) (muA wc)) (muA wc))
    (hS : va_S A s.heap H locs) (hP : va_P D vwCl Wl.flatten H) (hD : va_D A Wl.flatten) (is : List Nat) (hs : is.map (fun i => Wl[i]?) = wcs.map some) (hwc : wcs.flatten = wc) (hwf : ∀ u, (wns u).flatten = wf u) (hadr : ∀ u, (wns u).map my_adrs = wcs.map my_adrs) (hw2 : ∀ u, my_ups Wl is (wns u) = W2 u) (hw0 : my_ups Wl is wcs = Wl)
    (kx : ∀ (k : Int32) (E : String) (ce : Cell) (q9 : Addr) (H1 : Heap) (locs1 : List Loc), G = .inl k → exE k E → va_P D vwCl Wl.flatten H1 → va_S A s.heap H1 locs1 → H1[q9]? = some ce → ce.vm = .none → s.vm.findClass E = some ce.cls → vx_W p l e R s m args below meth c H1 locs1 (cells + mc1) (slots + ms1) Q (F0 m pc ls rest) q9)
    (kk : ∀ (r : Int32) (u : S) (H1 : Heap) (locs1 : List Loc), G = .inr (r, u) → va_P D vwCl (W2 u).flatten H1 → va_D A (W2 u).flatten → va_S A s.heap H1 locs1 → W p l e R s m args below meth c H1 locs1 (cells + mc1) (slots + ms1) Q (F0 m (pc + 3) ls (.int r :: rest))) : W p l e R s m args below meth c H locs cells slots Q (F0 m pc ls st0) := by
  subst hwc
  refine vx_calli hr hS (fun q _ h => my_cmu hD hs q h) (my_cmu hD hs) (fun q _ h => my_cmu hD hs q h) (fun E ce q9 u t H1 locs1 ht _ hp hb _ hk1 hS1 hce hv hcl => ?_) (fun r u t H1 locs1 ht _ hp hb _ hk1 hS1 => ?_)
  · have hb2 := hb.2
    rw [ht] at hb2
    have hl0 : is.length = wcs.length := by
      have h1 := congrArg List.length hs
      simpa only [List.length_map] using h1
    refine kx u E ce q9 H1 locs1 hp hb.1 ?_ hS1 hce hv hcl
    rw [← hw0]; exact my_upc_P hP hD hs hl0 hk1 hb2
  · rw [ht, ← hwf u] at hb
    obtain ⟨h1, h2⟩ := my_upc_hyp hs (hadr u)
    refine kk r u H1 locs1 hp ?_ ?_ hS1
    · rw [← hw2 u]; exact my_upc_P hP hD hs h2 hk1 hb
    · rw [← hw2 u]; exact my_adrD (my_flat_adr (my_upc_adr _ _ _ h1)) hD
theorem wr_compf {S : Type} {G : Int32 ⊕ (UInt32 × S)} {Wl wcs : List va_W} {wf : S → va_W} {wns W2 : S → List va_W} {mc1 ms1 : Nat} (hr : vx_Run p l e R s m args below meth c H locs cells slots mc1 ms1 (F0 m pc ls st0) rest (va_Qf (fun (r : UInt32) (u : S) => G = .inr (r, u)) (fun u t => va_P D vwCl (wf u) t.heap) (muA wc) a) (vx_X (fun (k : Int32) => G = .inl k) (fun E k t => exE k E ∧ va_P D vwCl wc t.heap) (muA wc)) (muA wc))
    (hS : va_S A s.heap H locs) (hP : va_P D vwCl Wl.flatten H) (hD : va_D A Wl.flatten) (is : List Nat) (hs : is.map (fun i => Wl[i]?) = wcs.map some) (hwc : wcs.flatten = wc) (hwf : ∀ u, (wns u).flatten = wf u) (hadr : ∀ u, (wns u).map my_adrs = wcs.map my_adrs) (hw2 : ∀ u, my_ups Wl is (wns u) = W2 u) (hw0 : my_ups Wl is wcs = Wl)
    (kx : ∀ (k : Int32) (E : String) (ce : Cell) (q9 : Addr) (H1 : Heap) (locs1 : List Loc), G = .inl k → exE k E → va_P D vwCl Wl.flatten H1 → va_S A s.heap H1 locs1 → H1[q9]? = some ce → ce.vm = .none → s.vm.findClass E = some ce.cls → vx_W p l e R s m args below meth c H1 locs1 (cells + mc1) (slots + ms1) Q (F0 m pc ls rest) q9)
    (kk : ∀ (r : UInt32) (u : S) (H1 : Heap) (locs1 : List Loc), G = .inr (r, u) → va_P D vwCl (W2 u).flatten H1 → va_D A (W2 u).flatten → va_S A s.heap H1 locs1 → W p l e R s m args below meth c H1 locs1 (cells + mc1) (slots + ms1) Q (F0 m (pc + 3) ls (.float r :: rest))) : W p l e R s m args below meth c H locs cells slots Q (F0 m pc ls st0) := by
  subst hwc
  refine vx_callf hr hS (fun q _ h => my_cmu hD hs q h) (my_cmu hD hs) (fun q _ h => my_cmu hD hs q h) (fun E ce q9 u t H1 locs1 ht _ hp hb _ hk1 hS1 hce hv hcl => ?_) (fun r u t H1 locs1 ht _ hp hb _ hk1 hS1 => ?_)
  · have hb2 := hb.2
    rw [ht] at hb2
    have hl0 : is.length = wcs.length := by
      have h1 := congrArg List.length hs
      simpa only [List.length_map] using h1
    refine kx u E ce q9 H1 locs1 hp hb.1 ?_ hS1 hce hv hcl
    rw [← hw0]; exact my_upc_P hP hD hs hl0 hk1 hb2
  · rw [ht, ← hwf u] at hb
    obtain ⟨h1, h2⟩ := my_upc_hyp hs (hadr u)
    refine kk r u H1 locs1 hp ?_ ?_ hS1
    · rw [← hw2 u]; exact my_upc_P hP hD hs h2 hk1 hb
    · rw [← hw2 u]; exact my_adrD (my_flat_adr (my_upc_adr _ _ _ h1)) hD
theorem wr_compd {S : Type} {G : Int32 ⊕ (UInt64 × S)} {Wl wcs : List va_W} {wf : S → va_W} {wns W2 : S → List va_W} {mc1 ms1 : Nat} (hr : vx_Run p l e R s m args below meth c H locs cells slots mc1 ms1 (F0 m pc ls st0) rest (va_Qd (fun (r : UInt64) (u : S) => G = .inr (r, u)) (fun u t => va_P D vwCl (wf u) t.heap) (muA wc) a) (vx_X (fun (k : Int32) => G = .inl k) (fun E k t => exE k E ∧ va_P D vwCl wc t.heap) (muA wc)) (muA wc))
    (hS : va_S A s.heap H locs) (hP : va_P D vwCl Wl.flatten H) (hD : va_D A Wl.flatten) (is : List Nat) (hs : is.map (fun i => Wl[i]?) = wcs.map some) (hwc : wcs.flatten = wc) (hwf : ∀ u, (wns u).flatten = wf u) (hadr : ∀ u, (wns u).map my_adrs = wcs.map my_adrs) (hw2 : ∀ u, my_ups Wl is (wns u) = W2 u) (hw0 : my_ups Wl is wcs = Wl)
    (kx : ∀ (k : Int32) (E : String) (ce : Cell) (q9 : Addr) (H1 : Heap) (locs1 : List Loc), G = .inl k → exE k E → va_P D vwCl Wl.flatten H1 → va_S A s.heap H1 locs1 → H1[q9]? = some ce → ce.vm = .none → s.vm.findClass E = some ce.cls → vx_W p l e R s m args below meth c H1 locs1 (cells + mc1) (slots + ms1) Q (F0 m pc ls rest) q9)
    (kk : ∀ (r : UInt64) (u : S) (H1 : Heap) (locs1 : List Loc), G = .inr (r, u) → va_P D vwCl (W2 u).flatten H1 → va_D A (W2 u).flatten → va_S A s.heap H1 locs1 → W p l e R s m args below meth c H1 locs1 (cells + mc1) (slots + ms1) Q (F0 m (pc + 3) ls (.double r :: rest))) : W p l e R s m args below meth c H locs cells slots Q (F0 m pc ls st0) := by
  subst hwc
  refine vx_calld hr hS (fun q _ h => my_cmu hD hs q h) (my_cmu hD hs) (fun q _ h => my_cmu hD hs q h) (fun E ce q9 u t H1 locs1 ht _ hp hb _ hk1 hS1 hce hv hcl => ?_) (fun r u t H1 locs1 ht _ hp hb _ hk1 hS1 => ?_)
  · have hb2 := hb.2
    rw [ht] at hb2
    have hl0 : is.length = wcs.length := by
      have h1 := congrArg List.length hs
      simpa only [List.length_map] using h1
    refine kx u E ce q9 H1 locs1 hp hb.1 ?_ hS1 hce hv hcl
    rw [← hw0]; exact my_upc_P hP hD hs hl0 hk1 hb2
  · rw [ht, ← hwf u] at hb
    obtain ⟨h1, h2⟩ := my_upc_hyp hs (hadr u)
    refine kk r u H1 locs1 hp ?_ ?_ hS1
    · rw [← hw2 u]; exact my_upc_P hP hD hs h2 hk1 hb
    · rw [← hw2 u]; exact my_adrD (my_flat_adr (my_upc_adr _ _ _ h1)) hD
end WRAP
set_option maxHeartbeats 1000000 in
set_option maxRecDepth 100000 in
theorem c_L_adds (l : Launch) (hl0 : l.stackTraces = false) (D : va_G) (cy : Nat → ClassId) (g : Nat → Nat) (B : Nat) (p70 : Nat) (b7 : Nat → Nat) (c7 : Nat → Nat) (d7 : Nat → Nat) (e7 : Nat → Nat) (h7 : Nat → Nat) (k7 : Nat → Nat) (q : Nat → Nat → Nat) (st : Int32) (v : SetV) (z : (Int32 × Int32)) (s0 : SetV) (s1 : SetV) (s2 : SetV) (s3 : SetV) (x0 : Int32) (hk : ∀ k, f_X7_add st v z s0 s1 s2 s3 x0 = .inl k → k = 2 ∨ k = 3) : Met l yL_adds wsL_adds ({ frames := 9, cells := 1, slots := 6, locals := 154 }) (lwP D cy g B (List.flatten [(wPCo p70 b7 c7 d7 e7 h7 k7 st), (wSet cy b7 v), (wSav cy q h7 z), (wSet cy (q 0) s0), (wSet cy (q 1) s1), (wSet cy (q 2) s2), (wSet cy (q 3) s3)]) [.ref p70, .int x0]) (va_Qi (fun (r : Int32) (u : Int32 × SetV × (Int32 × Int32) × SetV × SetV × SetV × SetV) => wrI (f_X7_add st v z s0 s1 s2 s3 x0) (st, v, z, s0, s1, s2, s3) = (r, u)) (fun u t => va_P D vwCl (List.flatten [(wPCo p70 b7 c7 d7 e7 h7 k7 u.1), (wSet cy b7 u.2.1), (wSav cy q h7 u.2.2.1), (wSet cy (q 0) u.2.2.2.1), (wSet cy (q 1) u.2.2.2.2.1), (wSet cy (q 2) u.2.2.2.2.2.1), (wSet cy (q 3) u.2.2.2.2.2.2)]) t.heap) (muA (List.flatten [(wPCo p70 b7 c7 d7 e7 h7 k7 st), (wSet cy b7 v), (wSav cy q h7 z), (wSet cy (q 0) s0), (wSet cy (q 1) s1), (wSet cy (q 2) s2), (wSet cy (q 3) s3)]))) 1 6 (muA (List.flatten [(wPCo p70 b7 c7 d7 e7 h7 k7 st), (wSet cy b7 v), (wSav cy q h7 z), (wSet cy (q 0) s0), (wSet cy (q 1) s1), (wSet cy (q 2) s2), (wSet cy (q 3) s3)])) := by
  refine va_MetW (cc := cL_adds) (maxL := 3) (ret := some .int) (hh := [(0, 5, 6, 15), (0, 5, 10, 18)]) (by decide) rfl ?_
  intro p e s m args below meth c s₁ BB hml hv
  obtain ⟨rfl, ⟨hP, hK0, hD0⟩, hNc⟩ := hv
  have hx := BB.exec
  have hb := BB.bytes
  have hr := BB.returns
  have hts := atoms_spec (ws := wsL_adds) BB.pre
  have hown : s.vm.findClass RL = some m.cls := findClass_of_methodNamed BB.named
  have hlocks := BB.notSynchronized
  have hT := vx_table (x := yL_adds) BB (hts (.codeWith yL_adds cL_adds 3 (some .int) [(0, 5, 6, 15), (0, 5, 10, 18)]) List.mem_cons_self)
  have S := my_fix hx hb hml hown hts
  have hAB := muB hD0
  have hD := muD hD0
  generalize hAe : muA (List.flatten [(wPCo p70 b7 c7 d7 e7 h7 k7 st), (wSet cy b7 v), (wSav cy q h7 z), (wSet cy (q 0) s0), (wSet cy (q 1) s1), (wSet cy (q 2) s2), (wSet cy (q 3) s3)]) = A at hAB hD ⊢
  have hS : va_S A s.heap s.heap [] := va_S.rf
  have hl := lv_entry ([.ref p70, .int x0]) (n := 3) (Nat.le_of_ble_eq_true rfl)
  rw [lg_entry_eq]
  generalize (lg_sl ([.ref p70, .int x0]) ++ List.replicate (3 - (lg_sl ([.ref p70, .int x0])).length) Slot.unset).toArray = ls at hl ⊢
  have hl : lv_has ls 3 [(0, .ref p70), (1, .int x0)] := hl
  refine lv_aload_n hx hb dL_adds_0 rfl (lv_at hl 0 rfl) ?_
  refine lv_iload_n hx hb dL_adds_1 rfl (lv_at hl 1 rfl) ?_
  refine wr_compi (wcs := [(wPCo p70 b7 c7 d7 e7 h7 k7 st), (wSet cy b7 v), (wSav cy q h7 z), (wSet cy (q 0) s0), (wSet cy (q 1) s1), (wSet cy (q 2) s2), (wSet cy (q 3) s3)]) (wns := fun u => [(wPCo p70 b7 c7 d7 e7 h7 k7 u.1), (wSet cy b7 u.2.1), (wSav cy q h7 u.2.2.1), (wSet cy (q 0) u.2.2.2.1), (wSet cy (q 1) u.2.2.2.2.1), (wSet cy (q 2) u.2.2.2.2.2.1), (wSet cy (q 3) u.2.2.2.2.2.2)]) (W2 := fun u => [(wPCo p70 b7 c7 d7 e7 h7 k7 u.1), (wSet cy b7 u.2.1), (wSav cy q h7 u.2.2.1), (wSet cy (q 0) u.2.2.2.1), (wSet cy (q 1) u.2.2.2.2.1), (wSet cy (q 2) u.2.2.2.2.2.1), (wSet cy (q 3) u.2.2.2.2.2.2)]) (vx_runV (C := RX7) (As := [.int x0]) (rest := []) S (c_X7_add l hl0 D cy g B p70 b7 c7 d7 e7 h7 k7 q st v z s0 s1 s2 s3 x0) (cwV 1 hts gL_adds_X7_add rfl rfl rfl hd_X7_add_V ⟨Nat.le_of_ble_eq_true rfl, Nat.le_of_ble_eq_true rfl⟩) ⟨muP_blind, va_recv hK0.1 hP (ci := 5) (q0 := 0) rfl rfl, my_preC (wcs := [(wPCo p70 b7 c7 d7 e7 h7 k7 st), (wSet cy b7 v), (wSav cy q h7 z), (wSet cy (q 0) s0), (wSet cy (q 1) s1), (wSet cy (q 2) s2), (wSet cy (q 3) s3)]) hK0 hS hAB hP hD [0, 1, 2, 3, 4, 5, 6] (by decide) rfl rfl⟩ rfl rfl hl.1 rfl (lv_room (Nat.le_of_ble_eq_true rfl)) dL_adds_2 ⟨Nat.le_of_ble_eq_true rfl, Nat.le_of_ble_eq_true rfl⟩) hS hP hD [0, 1, 2, 3, 4, 5, 6] rfl rfl (fun _ => rfl) (fun _ => by simp only [List.map_cons, List.map_nil, adrSet, adrSetE, adrPow, adrPowE, adrTxt, adrTxtE, adrSav, adrSavE, adrPCo]) (fun _ => rfl) rfl (fun k E ce q9 H locs hG hE hP hS hce hcv hcl => ?_) (fun r u H locs hG hP hD hS => ?_)
  · have hk9 := hk k hG
    rcases hk9 with rfl | rfl
    · have hE := exE_2 hE
      subst hE
      refine vx_catch hown [] ⟨0, 5, 6, 15⟩ [⟨0, 5, 10, 18⟩] hT (fun z hz => absurd hz List.not_mem_nil) rfl (by decide) (hts (.classLink RL 15 "java/lang/IllegalArgumentException") (by decide +kernel)) (va_Nw.use rfl hK0.2.1.2.2.2.2.1) hce hcv hcl ?_
      refine lv_astore_n (lv' := [(2, .ref q9), (0, .ref p70), (1, .int x0)]) hx hb dL_adds_6 rfl hl (by decide) rfl (fun ls hl => ?_)
      refine lv_ldc hx hb hown (hts (.constant RL 17 (-2000002)) (by decide +kernel)) dL_adds_7 ?_
      exact W.iret hx hb hr (fun t ht hW => ⟨⟨(-2000002), (st, v, z, s0, s1, s2, s3), rfl, (wrap_e (wrI_l hG) rfl), by show va_P D vwCl _ t.heap; rw [ht]; exact hP⟩, hS.F ht⟩) hS.2.2 dL_adds_9
    · have hE := exE_3 hE
      subst hE
      refine vx_catch hown [⟨0, 5, 6, 15⟩] ⟨0, 5, 10, 18⟩ [] hT (fun z hz => by rcases List.mem_singleton.mp hz with rfl; exact Or.inr ⟨by decide, _, (hts (.classLink RL 15 "java/lang/IllegalArgumentException") (by decide +kernel)), hNc.2.2⟩) rfl (by decide) (hts (.classLink RL 18 "java/lang/IllegalStateException") (by decide +kernel)) (va_Nw.use rfl hK0.2.1.2.2.2.2.2) hce hcv hcl ?_
      refine lv_astore_n (lv' := [(2, .ref q9), (0, .ref p70), (1, .int x0)]) hx hb dL_adds_10 rfl hl (by decide) rfl (fun ls hl => ?_)
      refine lv_ldc hx hb hown (hts (.constant RL 20 (-2000003)) (by decide +kernel)) dL_adds_11 ?_
      exact W.iret hx hb hr (fun t ht hW => ⟨⟨(-2000003), (st, v, z, s0, s1, s2, s3), rfl, (wrap_e (wrI_l hG) rfl), by show va_P D vwCl _ t.heap; rw [ht]; exact hP⟩, hS.F ht⟩) hS.2.2 dL_adds_13
  · exact W.iret hx hb hr (fun t ht hW => ⟨⟨r, u, rfl, wrI_r hG, by show va_P D vwCl _ t.heap; rw [ht]; exact hP⟩, hS.F ht⟩) hS.2.2 dL_adds_5
theorem hd_L_adds_S : yL_adds.cls ≠ "java/lang/invoke/MethodHandle" ∧ yL_adds.cls ≠ "java/lang/invoke/VarHandle" ∧ (parseMethodDescriptor yL_adds.desc).map (fun d => d.parameters.length) = some 2 := by decide +kernel
set_option maxHeartbeats 1000000 in
set_option maxRecDepth 100000 in
theorem c_L_weighs (l : Launch) (hl0 : l.stackTraces = false) (D : va_G) (cy : Nat → ClassId) (g : Nat → Nat) (B : Nat) (p70 : Nat) (b7 : Nat → Nat) (c7 : Nat → Nat) (d7 : Nat → Nat) (e7 : Nat → Nat) (h7 : Nat → Nat) (k7 : Nat → Nat) (q : Nat → Nat → Nat) (st : Int32) (v : SetV) (z : (Int32 × Int32)) (s0 : SetV) (s1 : SetV) (s2 : SetV) (s3 : SetV) (x0 : Int32) (x1 : Int32) (hk : ∀ k, f_X7_setWeight st v z s0 s1 s2 s3 x0 x1 = .inl k → k = 1 ∨ k = 2) : Met l yL_weighs wsL_weighs ({ frames := 9, cells := 1, slots := 6, locals := 155 }) (lwP D cy g B (List.flatten [(wPCo p70 b7 c7 d7 e7 h7 k7 st), (wSet cy b7 v), (wSav cy q h7 z), (wSet cy (q 0) s0), (wSet cy (q 1) s1), (wSet cy (q 2) s2), (wSet cy (q 3) s3)]) [.ref p70, .int x0, .int x1]) (va_Qi (fun (r : Int32) (u : Int32 × SetV × (Int32 × Int32) × SetV × SetV × SetV × SetV) => wrI (f_X7_setWeight st v z s0 s1 s2 s3 x0 x1) (st, v, z, s0, s1, s2, s3) = (r, u)) (fun u t => va_P D vwCl (List.flatten [(wPCo p70 b7 c7 d7 e7 h7 k7 u.1), (wSet cy b7 u.2.1), (wSav cy q h7 u.2.2.1), (wSet cy (q 0) u.2.2.2.1), (wSet cy (q 1) u.2.2.2.2.1), (wSet cy (q 2) u.2.2.2.2.2.1), (wSet cy (q 3) u.2.2.2.2.2.2)]) t.heap) (muA (List.flatten [(wPCo p70 b7 c7 d7 e7 h7 k7 st), (wSet cy b7 v), (wSav cy q h7 z), (wSet cy (q 0) s0), (wSet cy (q 1) s1), (wSet cy (q 2) s2), (wSet cy (q 3) s3)]))) 1 6 (muA (List.flatten [(wPCo p70 b7 c7 d7 e7 h7 k7 st), (wSet cy b7 v), (wSav cy q h7 z), (wSet cy (q 0) s0), (wSet cy (q 1) s1), (wSet cy (q 2) s2), (wSet cy (q 3) s3)])) := by
  refine va_MetW (cc := cL_weighs) (maxL := 4) (ret := some .int) (hh := [(0, 6, 7, 25), (0, 6, 11, 15)]) (by decide) rfl ?_
  intro p e s m args below meth c s₁ BB hml hv
  obtain ⟨rfl, ⟨hP, hK0, hD0⟩, hNc⟩ := hv
  have hx := BB.exec
  have hb := BB.bytes
  have hr := BB.returns
  have hts := atoms_spec (ws := wsL_weighs) BB.pre
  have hown : s.vm.findClass RL = some m.cls := findClass_of_methodNamed BB.named
  have hlocks := BB.notSynchronized
  have hT := vx_table (x := yL_weighs) BB (hts (.codeWith yL_weighs cL_weighs 4 (some .int) [(0, 6, 7, 25), (0, 6, 11, 15)]) List.mem_cons_self)
  have S := my_fix hx hb hml hown hts
  have hAB := muB hD0
  have hD := muD hD0
  generalize hAe : muA (List.flatten [(wPCo p70 b7 c7 d7 e7 h7 k7 st), (wSet cy b7 v), (wSav cy q h7 z), (wSet cy (q 0) s0), (wSet cy (q 1) s1), (wSet cy (q 2) s2), (wSet cy (q 3) s3)]) = A at hAB hD ⊢
  have hS : va_S A s.heap s.heap [] := va_S.rf
  have hl := lv_entry ([.ref p70, .int x0, .int x1]) (n := 4) (Nat.le_of_ble_eq_true rfl)
  rw [lg_entry_eq]
  generalize (lg_sl ([.ref p70, .int x0, .int x1]) ++ List.replicate (4 - (lg_sl ([.ref p70, .int x0, .int x1])).length) Slot.unset).toArray = ls at hl ⊢
  have hl : lv_has ls 4 [(0, .ref p70), (1, .int x0), (2, .int x1)] := hl
  refine lv_aload_n hx hb dL_weighs_0 rfl (lv_at hl 0 rfl) ?_
  refine lv_iload_n hx hb dL_weighs_1 rfl (lv_at hl 1 rfl) ?_
  refine lv_iload_n hx hb dL_weighs_2 rfl (lv_at hl 2 rfl) ?_
  refine wr_compi (wcs := [(wPCo p70 b7 c7 d7 e7 h7 k7 st), (wSet cy b7 v), (wSav cy q h7 z), (wSet cy (q 0) s0), (wSet cy (q 1) s1), (wSet cy (q 2) s2), (wSet cy (q 3) s3)]) (wns := fun u => [(wPCo p70 b7 c7 d7 e7 h7 k7 u.1), (wSet cy b7 u.2.1), (wSav cy q h7 u.2.2.1), (wSet cy (q 0) u.2.2.2.1), (wSet cy (q 1) u.2.2.2.2.1), (wSet cy (q 2) u.2.2.2.2.2.1), (wSet cy (q 3) u.2.2.2.2.2.2)]) (W2 := fun u => [(wPCo p70 b7 c7 d7 e7 h7 k7 u.1), (wSet cy b7 u.2.1), (wSav cy q h7 u.2.2.1), (wSet cy (q 0) u.2.2.2.1), (wSet cy (q 1) u.2.2.2.2.1), (wSet cy (q 2) u.2.2.2.2.2.1), (wSet cy (q 3) u.2.2.2.2.2.2)]) (vx_runV (C := RX7) (As := [.int x0, .int x1]) (rest := []) S (c_X7_setWeight l hl0 D cy g B p70 b7 c7 d7 e7 h7 k7 q st v z s0 s1 s2 s3 x0 x1) (cwV 2 hts gL_weighs_X7_setWeight rfl rfl rfl hd_X7_setWeight_V ⟨Nat.le_of_ble_eq_true rfl, Nat.le_of_ble_eq_true rfl⟩) ⟨muP_blind, va_recv hK0.1 hP (ci := 5) (q0 := 0) rfl rfl, my_preC (wcs := [(wPCo p70 b7 c7 d7 e7 h7 k7 st), (wSet cy b7 v), (wSav cy q h7 z), (wSet cy (q 0) s0), (wSet cy (q 1) s1), (wSet cy (q 2) s2), (wSet cy (q 3) s3)]) hK0 hS hAB hP hD [0, 1, 2, 3, 4, 5, 6] (by decide) rfl rfl⟩ rfl rfl hl.1 rfl (lv_room (Nat.le_of_ble_eq_true rfl)) dL_weighs_3 ⟨Nat.le_of_ble_eq_true rfl, Nat.le_of_ble_eq_true rfl⟩) hS hP hD [0, 1, 2, 3, 4, 5, 6] rfl rfl (fun _ => rfl) (fun _ => by simp only [List.map_cons, List.map_nil, adrSet, adrSetE, adrPow, adrPowE, adrTxt, adrTxtE, adrSav, adrSavE, adrPCo]) (fun _ => rfl) rfl (fun k E ce q9 H locs hG hE hP hS hce hcv hcl => ?_) (fun r u H locs hG hP hD hS => ?_)
  · have hk9 := hk k hG
    rcases hk9 with rfl | rfl
    · have hE := exE_1 hE
      subst hE
      refine vx_catch hown [] ⟨0, 6, 7, 25⟩ [⟨0, 6, 11, 15⟩] hT (fun z hz => absurd hz List.not_mem_nil) rfl (by decide) (hts (.classLink RL 25 "java/lang/IndexOutOfBoundsException") (by decide +kernel)) (va_Nw.use rfl hK0.2.1.2.2.2.1) hce hcv hcl ?_
      refine lv_astore_n (lv' := [(3, .ref q9), (0, .ref p70), (1, .int x0), (2, .int x1)]) hx hb dL_weighs_7 rfl hl (by decide) rfl (fun ls hl => ?_)
      refine lv_ldc hx hb hown (hts (.constant RL 27 (-2000001)) (by decide +kernel)) dL_weighs_8 ?_
      exact W.iret hx hb hr (fun t ht hW => ⟨⟨(-2000001), (st, v, z, s0, s1, s2, s3), rfl, (wrap_e (wrI_l hG) rfl), by show va_P D vwCl _ t.heap; rw [ht]; exact hP⟩, hS.F ht⟩) hS.2.2 dL_weighs_10
    · have hE := exE_2 hE
      subst hE
      refine vx_catch hown [⟨0, 6, 7, 25⟩] ⟨0, 6, 11, 15⟩ [] hT (fun z hz => by rcases List.mem_singleton.mp hz with rfl; exact Or.inr ⟨by decide, _, (hts (.classLink RL 25 "java/lang/IndexOutOfBoundsException") (by decide +kernel)), hNc.1⟩) rfl (by decide) (hts (.classLink RL 15 "java/lang/IllegalArgumentException") (by decide +kernel)) (va_Nw.use rfl hK0.2.1.2.2.2.2.1) hce hcv hcl ?_
      refine lv_astore_n (lv' := [(3, .ref q9), (0, .ref p70), (1, .int x0), (2, .int x1)]) hx hb dL_weighs_11 rfl hl (by decide) rfl (fun ls hl => ?_)
      refine lv_ldc hx hb hown (hts (.constant RL 17 (-2000002)) (by decide +kernel)) dL_weighs_12 ?_
      exact W.iret hx hb hr (fun t ht hW => ⟨⟨(-2000002), (st, v, z, s0, s1, s2, s3), rfl, (wrap_e (wrI_l hG) rfl), by show va_P D vwCl _ t.heap; rw [ht]; exact hP⟩, hS.F ht⟩) hS.2.2 dL_weighs_14
  · exact W.iret hx hb hr (fun t ht hW => ⟨⟨r, u, rfl, wrI_r hG, by show va_P D vwCl _ t.heap; rw [ht]; exact hP⟩, hS.F ht⟩) hS.2.2 dL_weighs_6
theorem hd_L_weighs_S : yL_weighs.cls ≠ "java/lang/invoke/MethodHandle" ∧ yL_weighs.cls ≠ "java/lang/invoke/VarHandle" ∧ (parseMethodDescriptor yL_weighs.desc).map (fun d => d.parameters.length) = some 3 := by decide +kernel
set_option maxHeartbeats 1000000 in
set_option maxRecDepth 100000 in
theorem c_L_quotas (l : Launch) (hl0 : l.stackTraces = false) (D : va_G) (cy : Nat → ClassId) (g : Nat → Nat) (B : Nat) (p70 : Nat) (b7 : Nat → Nat) (c7 : Nat → Nat) (d7 : Nat → Nat) (e7 : Nat → Nat) (h7 : Nat → Nat) (k7 : Nat → Nat) (q : Nat → Nat → Nat) (st : Int32) (v : SetV) (z : (Int32 × Int32)) (s0 : SetV) (s1 : SetV) (s2 : SetV) (s3 : SetV) (x0 : Int32) (hk : ∀ k, f_X7_setQuota st v z s0 s1 s2 s3 x0 = .inl k → k = 2) : Met l yL_quotas wsL_quotas ({ frames := 9, cells := 1, slots := 6, locals := 154 }) (lwP D cy g B (List.flatten [(wPCo p70 b7 c7 d7 e7 h7 k7 st), (wSet cy b7 v), (wSav cy q h7 z), (wSet cy (q 0) s0), (wSet cy (q 1) s1), (wSet cy (q 2) s2), (wSet cy (q 3) s3)]) [.ref p70, .int x0]) (va_Qi (fun (r : Int32) (u : Int32 × SetV × (Int32 × Int32) × SetV × SetV × SetV × SetV) => wrI (f_X7_setQuota st v z s0 s1 s2 s3 x0) (st, v, z, s0, s1, s2, s3) = (r, u)) (fun u t => va_P D vwCl (List.flatten [(wPCo p70 b7 c7 d7 e7 h7 k7 u.1), (wSet cy b7 u.2.1), (wSav cy q h7 u.2.2.1), (wSet cy (q 0) u.2.2.2.1), (wSet cy (q 1) u.2.2.2.2.1), (wSet cy (q 2) u.2.2.2.2.2.1), (wSet cy (q 3) u.2.2.2.2.2.2)]) t.heap) (muA (List.flatten [(wPCo p70 b7 c7 d7 e7 h7 k7 st), (wSet cy b7 v), (wSav cy q h7 z), (wSet cy (q 0) s0), (wSet cy (q 1) s1), (wSet cy (q 2) s2), (wSet cy (q 3) s3)]))) 1 6 (muA (List.flatten [(wPCo p70 b7 c7 d7 e7 h7 k7 st), (wSet cy b7 v), (wSav cy q h7 z), (wSet cy (q 0) s0), (wSet cy (q 1) s1), (wSet cy (q 2) s2), (wSet cy (q 3) s3)])) := by
  refine va_MetW (cc := cL_quotas) (maxL := 3) (ret := some .int) (hh := [(0, 5, 6, 15)]) (by decide) rfl ?_
  intro p e s m args below meth c s₁ BB hml hv
  obtain ⟨rfl, ⟨hP, hK0, hD0⟩, hNc⟩ := hv
  have hx := BB.exec
  have hb := BB.bytes
  have hr := BB.returns
  have hts := atoms_spec (ws := wsL_quotas) BB.pre
  have hown : s.vm.findClass RL = some m.cls := findClass_of_methodNamed BB.named
  have hlocks := BB.notSynchronized
  have hT := vx_table (x := yL_quotas) BB (hts (.codeWith yL_quotas cL_quotas 3 (some .int) [(0, 5, 6, 15)]) List.mem_cons_self)
  have S := my_fix hx hb hml hown hts
  have hAB := muB hD0
  have hD := muD hD0
  generalize hAe : muA (List.flatten [(wPCo p70 b7 c7 d7 e7 h7 k7 st), (wSet cy b7 v), (wSav cy q h7 z), (wSet cy (q 0) s0), (wSet cy (q 1) s1), (wSet cy (q 2) s2), (wSet cy (q 3) s3)]) = A at hAB hD ⊢
  have hS : va_S A s.heap s.heap [] := va_S.rf
  have hl := lv_entry ([.ref p70, .int x0]) (n := 3) (Nat.le_of_ble_eq_true rfl)
  rw [lg_entry_eq]
  generalize (lg_sl ([.ref p70, .int x0]) ++ List.replicate (3 - (lg_sl ([.ref p70, .int x0])).length) Slot.unset).toArray = ls at hl ⊢
  have hl : lv_has ls 3 [(0, .ref p70), (1, .int x0)] := hl
  refine lv_aload_n hx hb dL_quotas_0 rfl (lv_at hl 0 rfl) ?_
  refine lv_iload_n hx hb dL_quotas_1 rfl (lv_at hl 1 rfl) ?_
  refine wr_compi (wcs := [(wPCo p70 b7 c7 d7 e7 h7 k7 st), (wSet cy b7 v), (wSav cy q h7 z), (wSet cy (q 0) s0), (wSet cy (q 1) s1), (wSet cy (q 2) s2), (wSet cy (q 3) s3)]) (wns := fun u => [(wPCo p70 b7 c7 d7 e7 h7 k7 u.1), (wSet cy b7 u.2.1), (wSav cy q h7 u.2.2.1), (wSet cy (q 0) u.2.2.2.1), (wSet cy (q 1) u.2.2.2.2.1), (wSet cy (q 2) u.2.2.2.2.2.1), (wSet cy (q 3) u.2.2.2.2.2.2)]) (W2 := fun u => [(wPCo p70 b7 c7 d7 e7 h7 k7 u.1), (wSet cy b7 u.2.1), (wSav cy q h7 u.2.2.1), (wSet cy (q 0) u.2.2.2.1), (wSet cy (q 1) u.2.2.2.2.1), (wSet cy (q 2) u.2.2.2.2.2.1), (wSet cy (q 3) u.2.2.2.2.2.2)]) (vx_runV (C := RX7) (As := [.int x0]) (rest := []) S (c_X7_setQuota l hl0 D cy g B p70 b7 c7 d7 e7 h7 k7 q st v z s0 s1 s2 s3 x0) (cwV 1 hts gL_quotas_X7_setQuota rfl rfl rfl hd_X7_setQuota_V ⟨Nat.le_of_ble_eq_true rfl, Nat.le_of_ble_eq_true rfl⟩) ⟨muP_blind, va_recv hK0.1 hP (ci := 5) (q0 := 0) rfl rfl, my_preC (wcs := [(wPCo p70 b7 c7 d7 e7 h7 k7 st), (wSet cy b7 v), (wSav cy q h7 z), (wSet cy (q 0) s0), (wSet cy (q 1) s1), (wSet cy (q 2) s2), (wSet cy (q 3) s3)]) hK0 hS hAB hP hD [0, 1, 2, 3, 4, 5, 6] (by decide) rfl rfl⟩ rfl rfl hl.1 rfl (lv_room (Nat.le_of_ble_eq_true rfl)) dL_quotas_2 ⟨Nat.le_of_ble_eq_true rfl, Nat.le_of_ble_eq_true rfl⟩) hS hP hD [0, 1, 2, 3, 4, 5, 6] rfl rfl (fun _ => rfl) (fun _ => by simp only [List.map_cons, List.map_nil, adrSet, adrSetE, adrPow, adrPowE, adrTxt, adrTxtE, adrSav, adrSavE, adrPCo]) (fun _ => rfl) rfl (fun k E ce q9 H locs hG hE hP hS hce hcv hcl => ?_) (fun r u H locs hG hP hD hS => ?_)
  · have hk9 := hk k hG
    subst hk9
    have hE := exE_2 hE
    subst hE
    refine vx_catch hown [] ⟨0, 5, 6, 15⟩ [] hT (fun z hz => absurd hz List.not_mem_nil) rfl (by decide) (hts (.classLink RL 15 "java/lang/IllegalArgumentException") (by decide +kernel)) (va_Nw.use rfl hK0.2.1.2.2.2.2.1) hce hcv hcl ?_
    refine lv_astore_n (lv' := [(2, .ref q9), (0, .ref p70), (1, .int x0)]) hx hb dL_quotas_6 rfl hl (by decide) rfl (fun ls hl => ?_)
    refine lv_ldc hx hb hown (hts (.constant RL 17 (-2000002)) (by decide +kernel)) dL_quotas_7 ?_
    exact W.iret hx hb hr (fun t ht hW => ⟨⟨(-2000002), (st, v, z, s0, s1, s2, s3), rfl, (wrap_e (wrI_l hG) rfl), by show va_P D vwCl _ t.heap; rw [ht]; exact hP⟩, hS.F ht⟩) hS.2.2 dL_quotas_9
  · exact W.iret hx hb hr (fun t ht hW => ⟨⟨r, u, rfl, wrI_r hG, by show va_P D vwCl _ t.heap; rw [ht]; exact hP⟩, hS.F ht⟩) hS.2.2 dL_quotas_5
theorem hd_L_quotas_S : yL_quotas.cls ≠ "java/lang/invoke/MethodHandle" ∧ yL_quotas.cls ≠ "java/lang/invoke/VarHandle" ∧ (parseMethodDescriptor yL_quotas.desc).map (fun d => d.parameters.length) = some 2 := by decide +kernel
set_option maxHeartbeats 1000000 in
set_option maxRecDepth 100000 in
theorem c_L_follows (l : Launch) (hl0 : l.stackTraces = false) (D : va_G) (cy : Nat → ClassId) (g : Nat → Nat) (B : Nat) (p70 : Nat) (b7 : Nat → Nat) (c7 : Nat → Nat) (d7 : Nat → Nat) (e7 : Nat → Nat) (h7 : Nat → Nat) (k7 : Nat → Nat) (q : Nat → Nat → Nat) (st : Int32) (v : SetV) (z : (Int32 × Int32)) (s0 : SetV) (s1 : SetV) (s2 : SetV) (s3 : SetV) (x0 : Int32) (x1 : Int32) (hk : ∀ k, f_X7_follow st v z s0 s1 s2 s3 x0 x1 = .inl k → k = 1 ∨ k = 2 ∨ k = 3) : Met l yL_follows wsL_follows ({ frames := 9, cells := 1, slots := 6, locals := 155 }) (lwP D cy g B (List.flatten [(wPCo p70 b7 c7 d7 e7 h7 k7 st), (wSet cy b7 v), (wSav cy q h7 z), (wSet cy (q 0) s0), (wSet cy (q 1) s1), (wSet cy (q 2) s2), (wSet cy (q 3) s3)]) [.ref p70, .int x0, .int x1]) (va_Qi (fun (r : Int32) (u : Int32 × SetV × (Int32 × Int32) × SetV × SetV × SetV × SetV) => wrI (f_X7_follow st v z s0 s1 s2 s3 x0 x1) (st, v, z, s0, s1, s2, s3) = (r, u)) (fun u t => va_P D vwCl (List.flatten [(wPCo p70 b7 c7 d7 e7 h7 k7 u.1), (wSet cy b7 u.2.1), (wSav cy q h7 u.2.2.1), (wSet cy (q 0) u.2.2.2.1), (wSet cy (q 1) u.2.2.2.2.1), (wSet cy (q 2) u.2.2.2.2.2.1), (wSet cy (q 3) u.2.2.2.2.2.2)]) t.heap) (muA (List.flatten [(wPCo p70 b7 c7 d7 e7 h7 k7 st), (wSet cy b7 v), (wSav cy q h7 z), (wSet cy (q 0) s0), (wSet cy (q 1) s1), (wSet cy (q 2) s2), (wSet cy (q 3) s3)]))) 1 6 (muA (List.flatten [(wPCo p70 b7 c7 d7 e7 h7 k7 st), (wSet cy b7 v), (wSav cy q h7 z), (wSet cy (q 0) s0), (wSet cy (q 1) s1), (wSet cy (q 2) s2), (wSet cy (q 3) s3)])) := by
  refine va_MetW (cc := cL_follows) (maxL := 4) (ret := some .int) (hh := [(0, 6, 7, 25), (0, 6, 11, 15), (0, 6, 15, 18)]) (by decide) rfl ?_
  intro p e s m args below meth c s₁ BB hml hv
  obtain ⟨rfl, ⟨hP, hK0, hD0⟩, hNc⟩ := hv
  have hx := BB.exec
  have hb := BB.bytes
  have hr := BB.returns
  have hts := atoms_spec (ws := wsL_follows) BB.pre
  have hown : s.vm.findClass RL = some m.cls := findClass_of_methodNamed BB.named
  have hlocks := BB.notSynchronized
  have hT := vx_table (x := yL_follows) BB (hts (.codeWith yL_follows cL_follows 4 (some .int) [(0, 6, 7, 25), (0, 6, 11, 15), (0, 6, 15, 18)]) List.mem_cons_self)
  have S := my_fix hx hb hml hown hts
  have hAB := muB hD0
  have hD := muD hD0
  generalize hAe : muA (List.flatten [(wPCo p70 b7 c7 d7 e7 h7 k7 st), (wSet cy b7 v), (wSav cy q h7 z), (wSet cy (q 0) s0), (wSet cy (q 1) s1), (wSet cy (q 2) s2), (wSet cy (q 3) s3)]) = A at hAB hD ⊢
  have hS : va_S A s.heap s.heap [] := va_S.rf
  have hl := lv_entry ([.ref p70, .int x0, .int x1]) (n := 4) (Nat.le_of_ble_eq_true rfl)
  rw [lg_entry_eq]
  generalize (lg_sl ([.ref p70, .int x0, .int x1]) ++ List.replicate (4 - (lg_sl ([.ref p70, .int x0, .int x1])).length) Slot.unset).toArray = ls at hl ⊢
  have hl : lv_has ls 4 [(0, .ref p70), (1, .int x0), (2, .int x1)] := hl
  refine lv_aload_n hx hb dL_follows_0 rfl (lv_at hl 0 rfl) ?_
  refine lv_iload_n hx hb dL_follows_1 rfl (lv_at hl 1 rfl) ?_
  refine lv_iload_n hx hb dL_follows_2 rfl (lv_at hl 2 rfl) ?_
  refine wr_compi (wcs := [(wPCo p70 b7 c7 d7 e7 h7 k7 st), (wSet cy b7 v), (wSav cy q h7 z), (wSet cy (q 0) s0), (wSet cy (q 1) s1), (wSet cy (q 2) s2), (wSet cy (q 3) s3)]) (wns := fun u => [(wPCo p70 b7 c7 d7 e7 h7 k7 u.1), (wSet cy b7 u.2.1), (wSav cy q h7 u.2.2.1), (wSet cy (q 0) u.2.2.2.1), (wSet cy (q 1) u.2.2.2.2.1), (wSet cy (q 2) u.2.2.2.2.2.1), (wSet cy (q 3) u.2.2.2.2.2.2)]) (W2 := fun u => [(wPCo p70 b7 c7 d7 e7 h7 k7 u.1), (wSet cy b7 u.2.1), (wSav cy q h7 u.2.2.1), (wSet cy (q 0) u.2.2.2.1), (wSet cy (q 1) u.2.2.2.2.1), (wSet cy (q 2) u.2.2.2.2.2.1), (wSet cy (q 3) u.2.2.2.2.2.2)]) (vx_runV (C := RX7) (As := [.int x0, .int x1]) (rest := []) S (c_X7_follow l hl0 D cy g B p70 b7 c7 d7 e7 h7 k7 q st v z s0 s1 s2 s3 x0 x1) (cwV 2 hts gL_follows_X7_follow rfl rfl rfl hd_X7_follow_V ⟨Nat.le_of_ble_eq_true rfl, Nat.le_of_ble_eq_true rfl⟩) ⟨muP_blind, va_recv hK0.1 hP (ci := 5) (q0 := 0) rfl rfl, my_preC (wcs := [(wPCo p70 b7 c7 d7 e7 h7 k7 st), (wSet cy b7 v), (wSav cy q h7 z), (wSet cy (q 0) s0), (wSet cy (q 1) s1), (wSet cy (q 2) s2), (wSet cy (q 3) s3)]) hK0 hS hAB hP hD [0, 1, 2, 3, 4, 5, 6] (by decide) rfl rfl⟩ rfl rfl hl.1 rfl (lv_room (Nat.le_of_ble_eq_true rfl)) dL_follows_3 ⟨Nat.le_of_ble_eq_true rfl, Nat.le_of_ble_eq_true rfl⟩) hS hP hD [0, 1, 2, 3, 4, 5, 6] rfl rfl (fun _ => rfl) (fun _ => by simp only [List.map_cons, List.map_nil, adrSet, adrSetE, adrPow, adrPowE, adrTxt, adrTxtE, adrSav, adrSavE, adrPCo]) (fun _ => rfl) rfl (fun k E ce q9 H locs hG hE hP hS hce hcv hcl => ?_) (fun r u H locs hG hP hD hS => ?_)
  · have hk9 := hk k hG
    rcases hk9 with rfl | rfl | rfl
    · have hE := exE_1 hE
      subst hE
      refine vx_catch hown [] ⟨0, 6, 7, 25⟩ [⟨0, 6, 11, 15⟩, ⟨0, 6, 15, 18⟩] hT (fun z hz => absurd hz List.not_mem_nil) rfl (by decide) (hts (.classLink RL 25 "java/lang/IndexOutOfBoundsException") (by decide +kernel)) (va_Nw.use rfl hK0.2.1.2.2.2.1) hce hcv hcl ?_
      refine lv_astore_n (lv' := [(3, .ref q9), (0, .ref p70), (1, .int x0), (2, .int x1)]) hx hb dL_follows_7 rfl hl (by decide) rfl (fun ls hl => ?_)
      refine lv_ldc hx hb hown (hts (.constant RL 27 (-2000001)) (by decide +kernel)) dL_follows_8 ?_
      exact W.iret hx hb hr (fun t ht hW => ⟨⟨(-2000001), (st, v, z, s0, s1, s2, s3), rfl, (wrap_e (wrI_l hG) rfl), by show va_P D vwCl _ t.heap; rw [ht]; exact hP⟩, hS.F ht⟩) hS.2.2 dL_follows_10
    · have hE := exE_2 hE
      subst hE
      refine vx_catch hown [⟨0, 6, 7, 25⟩] ⟨0, 6, 11, 15⟩ [⟨0, 6, 15, 18⟩] hT (fun z hz => by rcases List.mem_singleton.mp hz with rfl; exact Or.inr ⟨by decide, _, (hts (.classLink RL 25 "java/lang/IndexOutOfBoundsException") (by decide +kernel)), hNc.1⟩) rfl (by decide) (hts (.classLink RL 15 "java/lang/IllegalArgumentException") (by decide +kernel)) (va_Nw.use rfl hK0.2.1.2.2.2.2.1) hce hcv hcl ?_
      refine lv_astore_n (lv' := [(3, .ref q9), (0, .ref p70), (1, .int x0), (2, .int x1)]) hx hb dL_follows_11 rfl hl (by decide) rfl (fun ls hl => ?_)
      refine lv_ldc hx hb hown (hts (.constant RL 17 (-2000002)) (by decide +kernel)) dL_follows_12 ?_
      exact W.iret hx hb hr (fun t ht hW => ⟨⟨(-2000002), (st, v, z, s0, s1, s2, s3), rfl, (wrap_e (wrI_l hG) rfl), by show va_P D vwCl _ t.heap; rw [ht]; exact hP⟩, hS.F ht⟩) hS.2.2 dL_follows_14
    · have hE := exE_3 hE
      subst hE
      refine vx_catch hown [⟨0, 6, 7, 25⟩, ⟨0, 6, 11, 15⟩] ⟨0, 6, 15, 18⟩ [] hT (fun z hz => by rcases List.mem_cons.mp hz with rfl | hz; exact Or.inr ⟨by decide, _, (hts (.classLink RL 25 "java/lang/IndexOutOfBoundsException") (by decide +kernel)), hNc.2.1⟩; rcases List.mem_singleton.mp hz with rfl; exact Or.inr ⟨by decide, _, (hts (.classLink RL 15 "java/lang/IllegalArgumentException") (by decide +kernel)), hNc.2.2⟩) rfl (by decide) (hts (.classLink RL 18 "java/lang/IllegalStateException") (by decide +kernel)) (va_Nw.use rfl hK0.2.1.2.2.2.2.2) hce hcv hcl ?_
      refine lv_astore_n (lv' := [(3, .ref q9), (0, .ref p70), (1, .int x0), (2, .int x1)]) hx hb dL_follows_15 rfl hl (by decide) rfl (fun ls hl => ?_)
      refine lv_ldc hx hb hown (hts (.constant RL 20 (-2000003)) (by decide +kernel)) dL_follows_16 ?_
      exact W.iret hx hb hr (fun t ht hW => ⟨⟨(-2000003), (st, v, z, s0, s1, s2, s3), rfl, (wrap_e (wrI_l hG) rfl), by show va_P D vwCl _ t.heap; rw [ht]; exact hP⟩, hS.F ht⟩) hS.2.2 dL_follows_18
  · exact W.iret hx hb hr (fun t ht hW => ⟨⟨r, u, rfl, wrI_r hG, by show va_P D vwCl _ t.heap; rw [ht]; exact hP⟩, hS.F ht⟩) hS.2.2 dL_follows_6
theorem hd_L_follows_S : yL_follows.cls ≠ "java/lang/invoke/MethodHandle" ∧ yL_follows.cls ≠ "java/lang/invoke/VarHandle" ∧ (parseMethodDescriptor yL_follows.desc).map (fun d => d.parameters.length) = some 3 := by decide +kernel
set_option maxHeartbeats 1000000 in
set_option maxRecDepth 100000 in
theorem c_L_leaves (l : Launch) (hl0 : l.stackTraces = false) (D : va_G) (cy : Nat → ClassId) (g : Nat → Nat) (B : Nat) (p70 : Nat) (b7 : Nat → Nat) (c7 : Nat → Nat) (d7 : Nat → Nat) (e7 : Nat → Nat) (h7 : Nat → Nat) (k7 : Nat → Nat) (q : Nat → Nat → Nat) (st : Int32) (v : SetV) (z : (Int32 × Int32)) (s0 : SetV) (s1 : SetV) (s2 : SetV) (s3 : SetV) (x0 : Int32) (hk : ∀ k, f_X7_leave st v z s0 s1 s2 s3 x0 = .inl k → k = 1 ∨ k = 3) : Met l yL_leaves wsL_leaves ({ frames := 9, cells := 1, slots := 6, locals := 154 }) (lwP D cy g B (List.flatten [(wPCo p70 b7 c7 d7 e7 h7 k7 st), (wSet cy b7 v), (wSav cy q h7 z), (wSet cy (q 0) s0), (wSet cy (q 1) s1), (wSet cy (q 2) s2), (wSet cy (q 3) s3)]) [.ref p70, .int x0]) (va_Qi (fun (r : Int32) (u : Int32 × SetV × (Int32 × Int32) × SetV × SetV × SetV × SetV) => wrI (f_X7_leave st v z s0 s1 s2 s3 x0) (st, v, z, s0, s1, s2, s3) = (r, u)) (fun u t => va_P D vwCl (List.flatten [(wPCo p70 b7 c7 d7 e7 h7 k7 u.1), (wSet cy b7 u.2.1), (wSav cy q h7 u.2.2.1), (wSet cy (q 0) u.2.2.2.1), (wSet cy (q 1) u.2.2.2.2.1), (wSet cy (q 2) u.2.2.2.2.2.1), (wSet cy (q 3) u.2.2.2.2.2.2)]) t.heap) (muA (List.flatten [(wPCo p70 b7 c7 d7 e7 h7 k7 st), (wSet cy b7 v), (wSav cy q h7 z), (wSet cy (q 0) s0), (wSet cy (q 1) s1), (wSet cy (q 2) s2), (wSet cy (q 3) s3)]))) 1 6 (muA (List.flatten [(wPCo p70 b7 c7 d7 e7 h7 k7 st), (wSet cy b7 v), (wSav cy q h7 z), (wSet cy (q 0) s0), (wSet cy (q 1) s1), (wSet cy (q 2) s2), (wSet cy (q 3) s3)])) := by
  refine va_MetW (cc := cL_leaves) (maxL := 3) (ret := some .int) (hh := [(0, 5, 6, 25), (0, 5, 10, 18)]) (by decide) rfl ?_
  intro p e s m args below meth c s₁ BB hml hv
  obtain ⟨rfl, ⟨hP, hK0, hD0⟩, hNc⟩ := hv
  have hx := BB.exec
  have hb := BB.bytes
  have hr := BB.returns
  have hts := atoms_spec (ws := wsL_leaves) BB.pre
  have hown : s.vm.findClass RL = some m.cls := findClass_of_methodNamed BB.named
  have hlocks := BB.notSynchronized
  have hT := vx_table (x := yL_leaves) BB (hts (.codeWith yL_leaves cL_leaves 3 (some .int) [(0, 5, 6, 25), (0, 5, 10, 18)]) List.mem_cons_self)
  have S := my_fix hx hb hml hown hts
  have hAB := muB hD0
  have hD := muD hD0
  generalize hAe : muA (List.flatten [(wPCo p70 b7 c7 d7 e7 h7 k7 st), (wSet cy b7 v), (wSav cy q h7 z), (wSet cy (q 0) s0), (wSet cy (q 1) s1), (wSet cy (q 2) s2), (wSet cy (q 3) s3)]) = A at hAB hD ⊢
  have hS : va_S A s.heap s.heap [] := va_S.rf
  have hl := lv_entry ([.ref p70, .int x0]) (n := 3) (Nat.le_of_ble_eq_true rfl)
  rw [lg_entry_eq]
  generalize (lg_sl ([.ref p70, .int x0]) ++ List.replicate (3 - (lg_sl ([.ref p70, .int x0])).length) Slot.unset).toArray = ls at hl ⊢
  have hl : lv_has ls 3 [(0, .ref p70), (1, .int x0)] := hl
  refine lv_aload_n hx hb dL_leaves_0 rfl (lv_at hl 0 rfl) ?_
  refine lv_iload_n hx hb dL_leaves_1 rfl (lv_at hl 1 rfl) ?_
  refine wr_compi (wcs := [(wPCo p70 b7 c7 d7 e7 h7 k7 st), (wSet cy b7 v), (wSav cy q h7 z), (wSet cy (q 0) s0), (wSet cy (q 1) s1), (wSet cy (q 2) s2), (wSet cy (q 3) s3)]) (wns := fun u => [(wPCo p70 b7 c7 d7 e7 h7 k7 u.1), (wSet cy b7 u.2.1), (wSav cy q h7 u.2.2.1), (wSet cy (q 0) u.2.2.2.1), (wSet cy (q 1) u.2.2.2.2.1), (wSet cy (q 2) u.2.2.2.2.2.1), (wSet cy (q 3) u.2.2.2.2.2.2)]) (W2 := fun u => [(wPCo p70 b7 c7 d7 e7 h7 k7 u.1), (wSet cy b7 u.2.1), (wSav cy q h7 u.2.2.1), (wSet cy (q 0) u.2.2.2.1), (wSet cy (q 1) u.2.2.2.2.1), (wSet cy (q 2) u.2.2.2.2.2.1), (wSet cy (q 3) u.2.2.2.2.2.2)]) (vx_runV (C := RX7) (As := [.int x0]) (rest := []) S (c_X7_leave l hl0 D cy g B p70 b7 c7 d7 e7 h7 k7 q st v z s0 s1 s2 s3 x0) (cwV 1 hts gL_leaves_X7_leave rfl rfl rfl hd_X7_leave_V ⟨Nat.le_of_ble_eq_true rfl, Nat.le_of_ble_eq_true rfl⟩) ⟨muP_blind, va_recv hK0.1 hP (ci := 5) (q0 := 0) rfl rfl, my_preC (wcs := [(wPCo p70 b7 c7 d7 e7 h7 k7 st), (wSet cy b7 v), (wSav cy q h7 z), (wSet cy (q 0) s0), (wSet cy (q 1) s1), (wSet cy (q 2) s2), (wSet cy (q 3) s3)]) hK0 hS hAB hP hD [0, 1, 2, 3, 4, 5, 6] (by decide) rfl rfl⟩ rfl rfl hl.1 rfl (lv_room (Nat.le_of_ble_eq_true rfl)) dL_leaves_2 ⟨Nat.le_of_ble_eq_true rfl, Nat.le_of_ble_eq_true rfl⟩) hS hP hD [0, 1, 2, 3, 4, 5, 6] rfl rfl (fun _ => rfl) (fun _ => by simp only [List.map_cons, List.map_nil, adrSet, adrSetE, adrPow, adrPowE, adrTxt, adrTxtE, adrSav, adrSavE, adrPCo]) (fun _ => rfl) rfl (fun k E ce q9 H locs hG hE hP hS hce hcv hcl => ?_) (fun r u H locs hG hP hD hS => ?_)
  · have hk9 := hk k hG
    rcases hk9 with rfl | rfl
    · have hE := exE_1 hE
      subst hE
      refine vx_catch hown [] ⟨0, 5, 6, 25⟩ [⟨0, 5, 10, 18⟩] hT (fun z hz => absurd hz List.not_mem_nil) rfl (by decide) (hts (.classLink RL 25 "java/lang/IndexOutOfBoundsException") (by decide +kernel)) (va_Nw.use rfl hK0.2.1.2.2.2.1) hce hcv hcl ?_
      refine lv_astore_n (lv' := [(2, .ref q9), (0, .ref p70), (1, .int x0)]) hx hb dL_leaves_6 rfl hl (by decide) rfl (fun ls hl => ?_)
      refine lv_ldc hx hb hown (hts (.constant RL 27 (-2000001)) (by decide +kernel)) dL_leaves_7 ?_
      exact W.iret hx hb hr (fun t ht hW => ⟨⟨(-2000001), (st, v, z, s0, s1, s2, s3), rfl, (wrap_e (wrI_l hG) rfl), by show va_P D vwCl _ t.heap; rw [ht]; exact hP⟩, hS.F ht⟩) hS.2.2 dL_leaves_9
    · have hE := exE_3 hE
      subst hE
      refine vx_catch hown [⟨0, 5, 6, 25⟩] ⟨0, 5, 10, 18⟩ [] hT (fun z hz => by rcases List.mem_singleton.mp hz with rfl; exact Or.inr ⟨by decide, _, (hts (.classLink RL 25 "java/lang/IndexOutOfBoundsException") (by decide +kernel)), hNc.2.1⟩) rfl (by decide) (hts (.classLink RL 18 "java/lang/IllegalStateException") (by decide +kernel)) (va_Nw.use rfl hK0.2.1.2.2.2.2.2) hce hcv hcl ?_
      refine lv_astore_n (lv' := [(2, .ref q9), (0, .ref p70), (1, .int x0)]) hx hb dL_leaves_10 rfl hl (by decide) rfl (fun ls hl => ?_)
      refine lv_ldc hx hb hown (hts (.constant RL 20 (-2000003)) (by decide +kernel)) dL_leaves_11 ?_
      exact W.iret hx hb hr (fun t ht hW => ⟨⟨(-2000003), (st, v, z, s0, s1, s2, s3), rfl, (wrap_e (wrI_l hG) rfl), by show va_P D vwCl _ t.heap; rw [ht]; exact hP⟩, hS.F ht⟩) hS.2.2 dL_leaves_13
  · exact W.iret hx hb hr (fun t ht hW => ⟨⟨r, u, rfl, wrI_r hG, by show va_P D vwCl _ t.heap; rw [ht]; exact hP⟩, hS.F ht⟩) hS.2.2 dL_leaves_5
theorem hd_L_leaves_S : yL_leaves.cls ≠ "java/lang/invoke/MethodHandle" ∧ yL_leaves.cls ≠ "java/lang/invoke/VarHandle" ∧ (parseMethodDescriptor yL_leaves.desc).map (fun d => d.parameters.length) = some 2 := by decide +kernel
set_option maxHeartbeats 1000000 in
set_option maxRecDepth 100000 in
theorem c_L_rules (l : Launch) (hl0 : l.stackTraces = false) (D : va_G) (cy : Nat → ClassId) (g : Nat → Nat) (B : Nat) (p70 : Nat) (b7 : Nat → Nat) (c7 : Nat → Nat) (d7 : Nat → Nat) (e7 : Nat → Nat) (h7 : Nat → Nat) (k7 : Nat → Nat) (q : Nat → Nat → Nat) (st : Int32) (v : SetV) (z : (Int32 × Int32)) (s0 : SetV) (s1 : SetV) (s2 : SetV) (s3 : SetV) (x0 : Int32) (x1 : Int32) (hk : ∀ k, f_X7_addRule st v z s0 s1 s2 s3 x0 x1 = .inl k → k = 2 ∨ k = 3) : Met l yL_rules wsL_rules ({ frames := 9, cells := 1, slots := 6, locals := 155 }) (lwP D cy g B (List.flatten [(wPCo p70 b7 c7 d7 e7 h7 k7 st), (wSet cy b7 v), (wSav cy q h7 z), (wSet cy (q 0) s0), (wSet cy (q 1) s1), (wSet cy (q 2) s2), (wSet cy (q 3) s3)]) [.ref p70, .int x0, .int x1]) (va_Qi (fun (r : Int32) (u : Int32 × SetV × (Int32 × Int32) × SetV × SetV × SetV × SetV) => wrI (f_X7_addRule st v z s0 s1 s2 s3 x0 x1) (st, v, z, s0, s1, s2, s3) = (r, u)) (fun u t => va_P D vwCl (List.flatten [(wPCo p70 b7 c7 d7 e7 h7 k7 u.1), (wSet cy b7 u.2.1), (wSav cy q h7 u.2.2.1), (wSet cy (q 0) u.2.2.2.1), (wSet cy (q 1) u.2.2.2.2.1), (wSet cy (q 2) u.2.2.2.2.2.1), (wSet cy (q 3) u.2.2.2.2.2.2)]) t.heap) (muA (List.flatten [(wPCo p70 b7 c7 d7 e7 h7 k7 st), (wSet cy b7 v), (wSav cy q h7 z), (wSet cy (q 0) s0), (wSet cy (q 1) s1), (wSet cy (q 2) s2), (wSet cy (q 3) s3)]))) 1 6 (muA (List.flatten [(wPCo p70 b7 c7 d7 e7 h7 k7 st), (wSet cy b7 v), (wSav cy q h7 z), (wSet cy (q 0) s0), (wSet cy (q 1) s1), (wSet cy (q 2) s2), (wSet cy (q 3) s3)])) := by
  refine va_MetW (cc := cL_rules) (maxL := 4) (ret := some .int) (hh := [(0, 6, 7, 15), (0, 6, 11, 18)]) (by decide) rfl ?_
  intro p e s m args below meth c s₁ BB hml hv
  obtain ⟨rfl, ⟨hP, hK0, hD0⟩, hNc⟩ := hv
  have hx := BB.exec
  have hb := BB.bytes
  have hr := BB.returns
  have hts := atoms_spec (ws := wsL_rules) BB.pre
  have hown : s.vm.findClass RL = some m.cls := findClass_of_methodNamed BB.named
  have hlocks := BB.notSynchronized
  have hT := vx_table (x := yL_rules) BB (hts (.codeWith yL_rules cL_rules 4 (some .int) [(0, 6, 7, 15), (0, 6, 11, 18)]) List.mem_cons_self)
  have S := my_fix hx hb hml hown hts
  have hAB := muB hD0
  have hD := muD hD0
  generalize hAe : muA (List.flatten [(wPCo p70 b7 c7 d7 e7 h7 k7 st), (wSet cy b7 v), (wSav cy q h7 z), (wSet cy (q 0) s0), (wSet cy (q 1) s1), (wSet cy (q 2) s2), (wSet cy (q 3) s3)]) = A at hAB hD ⊢
  have hS : va_S A s.heap s.heap [] := va_S.rf
  have hl := lv_entry ([.ref p70, .int x0, .int x1]) (n := 4) (Nat.le_of_ble_eq_true rfl)
  rw [lg_entry_eq]
  generalize (lg_sl ([.ref p70, .int x0, .int x1]) ++ List.replicate (4 - (lg_sl ([.ref p70, .int x0, .int x1])).length) Slot.unset).toArray = ls at hl ⊢
  have hl : lv_has ls 4 [(0, .ref p70), (1, .int x0), (2, .int x1)] := hl
  refine lv_aload_n hx hb dL_rules_0 rfl (lv_at hl 0 rfl) ?_
  refine lv_iload_n hx hb dL_rules_1 rfl (lv_at hl 1 rfl) ?_
  refine lv_iload_n hx hb dL_rules_2 rfl (lv_at hl 2 rfl) ?_
  refine wr_compi (wcs := [(wPCo p70 b7 c7 d7 e7 h7 k7 st), (wSet cy b7 v), (wSav cy q h7 z), (wSet cy (q 0) s0), (wSet cy (q 1) s1), (wSet cy (q 2) s2), (wSet cy (q 3) s3)]) (wns := fun u => [(wPCo p70 b7 c7 d7 e7 h7 k7 u.1), (wSet cy b7 u.2.1), (wSav cy q h7 u.2.2.1), (wSet cy (q 0) u.2.2.2.1), (wSet cy (q 1) u.2.2.2.2.1), (wSet cy (q 2) u.2.2.2.2.2.1), (wSet cy (q 3) u.2.2.2.2.2.2)]) (W2 := fun u => [(wPCo p70 b7 c7 d7 e7 h7 k7 u.1), (wSet cy b7 u.2.1), (wSav cy q h7 u.2.2.1), (wSet cy (q 0) u.2.2.2.1), (wSet cy (q 1) u.2.2.2.2.1), (wSet cy (q 2) u.2.2.2.2.2.1), (wSet cy (q 3) u.2.2.2.2.2.2)]) (vx_runV (C := RX7) (As := [.int x0, .int x1]) (rest := []) S (c_X7_addRule l hl0 D cy g B p70 b7 c7 d7 e7 h7 k7 q st v z s0 s1 s2 s3 x0 x1) (cwV 2 hts gL_rules_X7_addRule rfl rfl rfl hd_X7_addRule_V ⟨Nat.le_of_ble_eq_true rfl, Nat.le_of_ble_eq_true rfl⟩) ⟨muP_blind, va_recv hK0.1 hP (ci := 5) (q0 := 0) rfl rfl, my_preC (wcs := [(wPCo p70 b7 c7 d7 e7 h7 k7 st), (wSet cy b7 v), (wSav cy q h7 z), (wSet cy (q 0) s0), (wSet cy (q 1) s1), (wSet cy (q 2) s2), (wSet cy (q 3) s3)]) hK0 hS hAB hP hD [0, 1, 2, 3, 4, 5, 6] (by decide) rfl rfl⟩ rfl rfl hl.1 rfl (lv_room (Nat.le_of_ble_eq_true rfl)) dL_rules_3 ⟨Nat.le_of_ble_eq_true rfl, Nat.le_of_ble_eq_true rfl⟩) hS hP hD [0, 1, 2, 3, 4, 5, 6] rfl rfl (fun _ => rfl) (fun _ => by simp only [List.map_cons, List.map_nil, adrSet, adrSetE, adrPow, adrPowE, adrTxt, adrTxtE, adrSav, adrSavE, adrPCo]) (fun _ => rfl) rfl (fun k E ce q9 H locs hG hE hP hS hce hcv hcl => ?_) (fun r u H locs hG hP hD hS => ?_)
  · have hk9 := hk k hG
    rcases hk9 with rfl | rfl
    · have hE := exE_2 hE
      subst hE
      refine vx_catch hown [] ⟨0, 6, 7, 15⟩ [⟨0, 6, 11, 18⟩] hT (fun z hz => absurd hz List.not_mem_nil) rfl (by decide) (hts (.classLink RL 15 "java/lang/IllegalArgumentException") (by decide +kernel)) (va_Nw.use rfl hK0.2.1.2.2.2.2.1) hce hcv hcl ?_
      refine lv_astore_n (lv' := [(3, .ref q9), (0, .ref p70), (1, .int x0), (2, .int x1)]) hx hb dL_rules_7 rfl hl (by decide) rfl (fun ls hl => ?_)
      refine lv_ldc hx hb hown (hts (.constant RL 17 (-2000002)) (by decide +kernel)) dL_rules_8 ?_
      exact W.iret hx hb hr (fun t ht hW => ⟨⟨(-2000002), (st, v, z, s0, s1, s2, s3), rfl, (wrap_e (wrI_l hG) rfl), by show va_P D vwCl _ t.heap; rw [ht]; exact hP⟩, hS.F ht⟩) hS.2.2 dL_rules_10
    · have hE := exE_3 hE
      subst hE
      refine vx_catch hown [⟨0, 6, 7, 15⟩] ⟨0, 6, 11, 18⟩ [] hT (fun z hz => by rcases List.mem_singleton.mp hz with rfl; exact Or.inr ⟨by decide, _, (hts (.classLink RL 15 "java/lang/IllegalArgumentException") (by decide +kernel)), hNc.2.2⟩) rfl (by decide) (hts (.classLink RL 18 "java/lang/IllegalStateException") (by decide +kernel)) (va_Nw.use rfl hK0.2.1.2.2.2.2.2) hce hcv hcl ?_
      refine lv_astore_n (lv' := [(3, .ref q9), (0, .ref p70), (1, .int x0), (2, .int x1)]) hx hb dL_rules_11 rfl hl (by decide) rfl (fun ls hl => ?_)
      refine lv_ldc hx hb hown (hts (.constant RL 20 (-2000003)) (by decide +kernel)) dL_rules_12 ?_
      exact W.iret hx hb hr (fun t ht hW => ⟨⟨(-2000003), (st, v, z, s0, s1, s2, s3), rfl, (wrap_e (wrI_l hG) rfl), by show va_P D vwCl _ t.heap; rw [ht]; exact hP⟩, hS.F ht⟩) hS.2.2 dL_rules_14
  · exact W.iret hx hb hr (fun t ht hW => ⟨⟨r, u, rfl, wrI_r hG, by show va_P D vwCl _ t.heap; rw [ht]; exact hP⟩, hS.F ht⟩) hS.2.2 dL_rules_6
theorem hd_L_rules_S : yL_rules.cls ≠ "java/lang/invoke/MethodHandle" ∧ yL_rules.cls ≠ "java/lang/invoke/VarHandle" ∧ (parseMethodDescriptor yL_rules.desc).map (fun d => d.parameters.length) = some 3 := by decide +kernel
set_option maxHeartbeats 1000000 in
set_option maxRecDepth 100000 in
theorem c_L_drops (l : Launch) (hl0 : l.stackTraces = false) (D : va_G) (cy : Nat → ClassId) (g : Nat → Nat) (B : Nat) (p70 : Nat) (b7 : Nat → Nat) (c7 : Nat → Nat) (d7 : Nat → Nat) (e7 : Nat → Nat) (h7 : Nat → Nat) (k7 : Nat → Nat) (q : Nat → Nat → Nat) (st : Int32) (v : SetV) (z : (Int32 × Int32)) (s0 : SetV) (s1 : SetV) (s2 : SetV) (s3 : SetV) (x0 : Int32) (hk : ∀ k, f_X7_dropRule st v z s0 s1 s2 s3 x0 = .inl k → k = 1) : Met l yL_drops wsL_drops ({ frames := 9, cells := 1, slots := 6, locals := 154 }) (lwP D cy g B (List.flatten [(wPCo p70 b7 c7 d7 e7 h7 k7 st), (wSet cy b7 v), (wSav cy q h7 z), (wSet cy (q 0) s0), (wSet cy (q 1) s1), (wSet cy (q 2) s2), (wSet cy (q 3) s3)]) [.ref p70, .int x0]) (va_Qi (fun (r : Int32) (u : Int32 × SetV × (Int32 × Int32) × SetV × SetV × SetV × SetV) => wrI (f_X7_dropRule st v z s0 s1 s2 s3 x0) (st, v, z, s0, s1, s2, s3) = (r, u)) (fun u t => va_P D vwCl (List.flatten [(wPCo p70 b7 c7 d7 e7 h7 k7 u.1), (wSet cy b7 u.2.1), (wSav cy q h7 u.2.2.1), (wSet cy (q 0) u.2.2.2.1), (wSet cy (q 1) u.2.2.2.2.1), (wSet cy (q 2) u.2.2.2.2.2.1), (wSet cy (q 3) u.2.2.2.2.2.2)]) t.heap) (muA (List.flatten [(wPCo p70 b7 c7 d7 e7 h7 k7 st), (wSet cy b7 v), (wSav cy q h7 z), (wSet cy (q 0) s0), (wSet cy (q 1) s1), (wSet cy (q 2) s2), (wSet cy (q 3) s3)]))) 1 6 (muA (List.flatten [(wPCo p70 b7 c7 d7 e7 h7 k7 st), (wSet cy b7 v), (wSav cy q h7 z), (wSet cy (q 0) s0), (wSet cy (q 1) s1), (wSet cy (q 2) s2), (wSet cy (q 3) s3)])) := by
  refine va_MetW (cc := cL_drops) (maxL := 3) (ret := some .int) (hh := [(0, 5, 6, 25)]) (by decide) rfl ?_
  intro p e s m args below meth c s₁ BB hml hv
  obtain ⟨rfl, ⟨hP, hK0, hD0⟩, hNc⟩ := hv
  have hx := BB.exec
  have hb := BB.bytes
  have hr := BB.returns
  have hts := atoms_spec (ws := wsL_drops) BB.pre
  have hown : s.vm.findClass RL = some m.cls := findClass_of_methodNamed BB.named
  have hlocks := BB.notSynchronized
  have hT := vx_table (x := yL_drops) BB (hts (.codeWith yL_drops cL_drops 3 (some .int) [(0, 5, 6, 25)]) List.mem_cons_self)
  have S := my_fix hx hb hml hown hts
  have hAB := muB hD0
  have hD := muD hD0
  generalize hAe : muA (List.flatten [(wPCo p70 b7 c7 d7 e7 h7 k7 st), (wSet cy b7 v), (wSav cy q h7 z), (wSet cy (q 0) s0), (wSet cy (q 1) s1), (wSet cy (q 2) s2), (wSet cy (q 3) s3)]) = A at hAB hD ⊢
  have hS : va_S A s.heap s.heap [] := va_S.rf
  have hl := lv_entry ([.ref p70, .int x0]) (n := 3) (Nat.le_of_ble_eq_true rfl)
  rw [lg_entry_eq]
  generalize (lg_sl ([.ref p70, .int x0]) ++ List.replicate (3 - (lg_sl ([.ref p70, .int x0])).length) Slot.unset).toArray = ls at hl ⊢
  have hl : lv_has ls 3 [(0, .ref p70), (1, .int x0)] := hl
  refine lv_aload_n hx hb dL_drops_0 rfl (lv_at hl 0 rfl) ?_
  refine lv_iload_n hx hb dL_drops_1 rfl (lv_at hl 1 rfl) ?_
  refine wr_compi (wcs := [(wPCo p70 b7 c7 d7 e7 h7 k7 st), (wSet cy b7 v), (wSav cy q h7 z), (wSet cy (q 0) s0), (wSet cy (q 1) s1), (wSet cy (q 2) s2), (wSet cy (q 3) s3)]) (wns := fun u => [(wPCo p70 b7 c7 d7 e7 h7 k7 u.1), (wSet cy b7 u.2.1), (wSav cy q h7 u.2.2.1), (wSet cy (q 0) u.2.2.2.1), (wSet cy (q 1) u.2.2.2.2.1), (wSet cy (q 2) u.2.2.2.2.2.1), (wSet cy (q 3) u.2.2.2.2.2.2)]) (W2 := fun u => [(wPCo p70 b7 c7 d7 e7 h7 k7 u.1), (wSet cy b7 u.2.1), (wSav cy q h7 u.2.2.1), (wSet cy (q 0) u.2.2.2.1), (wSet cy (q 1) u.2.2.2.2.1), (wSet cy (q 2) u.2.2.2.2.2.1), (wSet cy (q 3) u.2.2.2.2.2.2)]) (vx_runV (C := RX7) (As := [.int x0]) (rest := []) S (c_X7_dropRule l hl0 D cy g B p70 b7 c7 d7 e7 h7 k7 q st v z s0 s1 s2 s3 x0) (cwV 1 hts gL_drops_X7_dropRule rfl rfl rfl hd_X7_dropRule_V ⟨Nat.le_of_ble_eq_true rfl, Nat.le_of_ble_eq_true rfl⟩) ⟨muP_blind, va_recv hK0.1 hP (ci := 5) (q0 := 0) rfl rfl, my_preC (wcs := [(wPCo p70 b7 c7 d7 e7 h7 k7 st), (wSet cy b7 v), (wSav cy q h7 z), (wSet cy (q 0) s0), (wSet cy (q 1) s1), (wSet cy (q 2) s2), (wSet cy (q 3) s3)]) hK0 hS hAB hP hD [0, 1, 2, 3, 4, 5, 6] (by decide) rfl rfl⟩ rfl rfl hl.1 rfl (lv_room (Nat.le_of_ble_eq_true rfl)) dL_drops_2 ⟨Nat.le_of_ble_eq_true rfl, Nat.le_of_ble_eq_true rfl⟩) hS hP hD [0, 1, 2, 3, 4, 5, 6] rfl rfl (fun _ => rfl) (fun _ => by simp only [List.map_cons, List.map_nil, adrSet, adrSetE, adrPow, adrPowE, adrTxt, adrTxtE, adrSav, adrSavE, adrPCo]) (fun _ => rfl) rfl (fun k E ce q9 H locs hG hE hP hS hce hcv hcl => ?_) (fun r u H locs hG hP hD hS => ?_)
  · have hk9 := hk k hG
    subst hk9
    have hE := exE_1 hE
    subst hE
    refine vx_catch hown [] ⟨0, 5, 6, 25⟩ [] hT (fun z hz => absurd hz List.not_mem_nil) rfl (by decide) (hts (.classLink RL 25 "java/lang/IndexOutOfBoundsException") (by decide +kernel)) (va_Nw.use rfl hK0.2.1.2.2.2.1) hce hcv hcl ?_
    refine lv_astore_n (lv' := [(2, .ref q9), (0, .ref p70), (1, .int x0)]) hx hb dL_drops_6 rfl hl (by decide) rfl (fun ls hl => ?_)
    refine lv_ldc hx hb hown (hts (.constant RL 27 (-2000001)) (by decide +kernel)) dL_drops_7 ?_
    exact W.iret hx hb hr (fun t ht hW => ⟨⟨(-2000001), (st, v, z, s0, s1, s2, s3), rfl, (wrap_e (wrI_l hG) rfl), by show va_P D vwCl _ t.heap; rw [ht]; exact hP⟩, hS.F ht⟩) hS.2.2 dL_drops_9
  · exact W.iret hx hb hr (fun t ht hW => ⟨⟨r, u, rfl, wrI_r hG, by show va_P D vwCl _ t.heap; rw [ht]; exact hP⟩, hS.F ht⟩) hS.2.2 dL_drops_5
theorem hd_L_drops_S : yL_drops.cls ≠ "java/lang/invoke/MethodHandle" ∧ yL_drops.cls ≠ "java/lang/invoke/VarHandle" ∧ (parseMethodDescriptor yL_drops.desc).map (fun d => d.parameters.length) = some 2 := by decide +kernel
set_option maxHeartbeats 1000000 in
set_option maxRecDepth 100000 in
theorem c_L_memberOf (l : Launch) (hl0 : l.stackTraces = false) (D : va_G) (cy : Nat → ClassId) (g : Nat → Nat) (B : Nat) (p70 : Nat) (b7 : Nat → Nat) (c7 : Nat → Nat) (d7 : Nat → Nat) (e7 : Nat → Nat) (h7 : Nat → Nat) (k7 : Nat → Nat) (st : Int32) (v : SetV) (w : PowV) (x0 : Int32) (x1 : Int32) (hk : ∀ k, f_X7_member st v w x0 x1 = .inl k → k = 1 ∨ k = 2) : Met l yL_memberOf wsL_memberOf ({ frames := 8, cells := 2, slots := 12, locals := 154 }) (lwP D cy g B (List.flatten [(wPCo p70 b7 c7 d7 e7 h7 k7 st), (wSet cy b7 v), (wPow cy c7 w)]) [.ref p70, .int x0, .int x1]) (va_Qi (fun (r : Int32) (u : Int32 × PowV) => wrI (f_X7_member st v w x0 x1) (st, w) = (r, u)) (fun u t => va_P D vwCl (List.flatten [(wPCo p70 b7 c7 d7 e7 h7 k7 u.1), (wSet cy b7 v), (wPow cy c7 u.2)]) t.heap) (muA (List.flatten [(wPCo p70 b7 c7 d7 e7 h7 k7 st), (wSet cy b7 v), (wPow cy c7 w)]))) 2 12 (muA (List.flatten [(wPCo p70 b7 c7 d7 e7 h7 k7 st), (wSet cy b7 v), (wPow cy c7 w)])) := by
  refine va_MetW (cc := cL_memberOf) (maxL := 4) (ret := some .int) (hh := [(0, 6, 7, 25), (0, 6, 11, 15)]) (by decide) rfl ?_
  intro p e s m args below meth c s₁ BB hml hv
  obtain ⟨rfl, ⟨hP, hK0, hD0⟩, hNc⟩ := hv
  have hx := BB.exec
  have hb := BB.bytes
  have hr := BB.returns
  have hts := atoms_spec (ws := wsL_memberOf) BB.pre
  have hown : s.vm.findClass RL = some m.cls := findClass_of_methodNamed BB.named
  have hlocks := BB.notSynchronized
  have hT := vx_table (x := yL_memberOf) BB (hts (.codeWith yL_memberOf cL_memberOf 4 (some .int) [(0, 6, 7, 25), (0, 6, 11, 15)]) List.mem_cons_self)
  have S := my_fix hx hb hml hown hts
  have hAB := muB hD0
  have hD := muD hD0
  generalize hAe : muA (List.flatten [(wPCo p70 b7 c7 d7 e7 h7 k7 st), (wSet cy b7 v), (wPow cy c7 w)]) = A at hAB hD ⊢
  have hS : va_S A s.heap s.heap [] := va_S.rf
  have hl := lv_entry ([.ref p70, .int x0, .int x1]) (n := 4) (Nat.le_of_ble_eq_true rfl)
  rw [lg_entry_eq]
  generalize (lg_sl ([.ref p70, .int x0, .int x1]) ++ List.replicate (4 - (lg_sl ([.ref p70, .int x0, .int x1])).length) Slot.unset).toArray = ls at hl ⊢
  have hl : lv_has ls 4 [(0, .ref p70), (1, .int x0), (2, .int x1)] := hl
  refine lv_aload_n hx hb dL_memberOf_0 rfl (lv_at hl 0 rfl) ?_
  refine lv_iload_n hx hb dL_memberOf_1 rfl (lv_at hl 1 rfl) ?_
  refine lv_iload_n hx hb dL_memberOf_2 rfl (lv_at hl 2 rfl) ?_
  refine wr_compi (wcs := [(wPCo p70 b7 c7 d7 e7 h7 k7 st), (wSet cy b7 v), (wPow cy c7 w)]) (wns := fun u => [(wPCo p70 b7 c7 d7 e7 h7 k7 u.1), (wSet cy b7 v), (wPow cy c7 u.2)]) (W2 := fun u => [(wPCo p70 b7 c7 d7 e7 h7 k7 u.1), (wSet cy b7 v), (wPow cy c7 u.2)]) (vx_runV (C := RX7) (As := [.int x0, .int x1]) (rest := []) S (c_X7_member l hl0 D cy g B p70 b7 c7 d7 e7 h7 k7 st v w x0 x1) (cwV 2 hts gL_memberOf_X7_member rfl rfl rfl hd_X7_member_V ⟨Nat.le_of_ble_eq_true rfl, Nat.le_of_ble_eq_true rfl⟩) ⟨muP_blind, va_recv hK0.1 hP (ci := 5) (q0 := 0) rfl rfl, my_preC (wcs := [(wPCo p70 b7 c7 d7 e7 h7 k7 st), (wSet cy b7 v), (wPow cy c7 w)]) hK0 hS hAB hP hD [0, 1, 2] (by decide) rfl rfl⟩ rfl rfl hl.1 rfl (lv_room (Nat.le_of_ble_eq_true rfl)) dL_memberOf_3 ⟨Nat.le_of_ble_eq_true rfl, Nat.le_of_ble_eq_true rfl⟩) hS hP hD [0, 1, 2] rfl rfl (fun _ => rfl) (fun _ => by simp only [List.map_cons, List.map_nil, adrSet, adrSetE, adrPow, adrPowE, adrTxt, adrTxtE, adrSav, adrSavE, adrPCo]) (fun _ => rfl) rfl (fun k E ce q9 H locs hG hE hP hS hce hcv hcl => ?_) (fun r u H locs hG hP hD hS => ?_)
  · have hk9 := hk k hG
    rcases hk9 with rfl | rfl
    · have hE := exE_1 hE
      subst hE
      refine vx_catch hown [] ⟨0, 6, 7, 25⟩ [⟨0, 6, 11, 15⟩] hT (fun z hz => absurd hz List.not_mem_nil) rfl (by decide) (hts (.classLink RL 25 "java/lang/IndexOutOfBoundsException") (by decide +kernel)) (va_Nw.use rfl hK0.2.1.2.2.2.1) hce hcv hcl ?_
      refine lv_astore_n (lv' := [(3, .ref q9), (0, .ref p70), (1, .int x0), (2, .int x1)]) hx hb dL_memberOf_7 rfl hl (by decide) rfl (fun ls hl => ?_)
      refine lv_ldc hx hb hown (hts (.constant RL 27 (-2000001)) (by decide +kernel)) dL_memberOf_8 ?_
      exact W.iret hx hb hr (fun t ht hW => ⟨⟨(-2000001), (st, w), rfl, (wrap_e (wrI_l hG) rfl), by show va_P D vwCl _ t.heap; rw [ht]; exact hP⟩, hS.F ht⟩) hS.2.2 dL_memberOf_10
    · have hE := exE_2 hE
      subst hE
      refine vx_catch hown [⟨0, 6, 7, 25⟩] ⟨0, 6, 11, 15⟩ [] hT (fun z hz => by rcases List.mem_singleton.mp hz with rfl; exact Or.inr ⟨by decide, _, (hts (.classLink RL 25 "java/lang/IndexOutOfBoundsException") (by decide +kernel)), hNc.1⟩) rfl (by decide) (hts (.classLink RL 15 "java/lang/IllegalArgumentException") (by decide +kernel)) (va_Nw.use rfl hK0.2.1.2.2.2.2.1) hce hcv hcl ?_
      refine lv_astore_n (lv' := [(3, .ref q9), (0, .ref p70), (1, .int x0), (2, .int x1)]) hx hb dL_memberOf_11 rfl hl (by decide) rfl (fun ls hl => ?_)
      refine lv_ldc hx hb hown (hts (.constant RL 17 (-2000002)) (by decide +kernel)) dL_memberOf_12 ?_
      exact W.iret hx hb hr (fun t ht hW => ⟨⟨(-2000002), (st, w), rfl, (wrap_e (wrI_l hG) rfl), by show va_P D vwCl _ t.heap; rw [ht]; exact hP⟩, hS.F ht⟩) hS.2.2 dL_memberOf_14
  · exact W.iret hx hb hr (fun t ht hW => ⟨⟨r, u, rfl, wrI_r hG, by show va_P D vwCl _ t.heap; rw [ht]; exact hP⟩, hS.F ht⟩) hS.2.2 dL_memberOf_6
theorem hd_L_memberOf_S : yL_memberOf.cls ≠ "java/lang/invoke/MethodHandle" ∧ yL_memberOf.cls ≠ "java/lang/invoke/VarHandle" ∧ (parseMethodDescriptor yL_memberOf.desc).map (fun d => d.parameters.length) = some 3 := by decide +kernel
set_option maxHeartbeats 1000000 in
set_option maxRecDepth 100000 in
theorem c_L_ruleOf (l : Launch) (hl0 : l.stackTraces = false) (D : va_G) (cy : Nat → ClassId) (g : Nat → Nat) (B : Nat) (p70 : Nat) (b7 : Nat → Nat) (c7 : Nat → Nat) (d7 : Nat → Nat) (e7 : Nat → Nat) (h7 : Nat → Nat) (k7 : Nat → Nat) (st : Int32) (v : SetV) (x0 : Int32) (x1 : Int32) (hk : ∀ k, f_X7_rule st v x0 x1 = .inl k → k = 1 ∨ k = 2) : Met l yL_ruleOf wsL_ruleOf ({ frames := 8, cells := 2, slots := 12, locals := 132 }) (lwP D cy g B (List.flatten [(wPCo p70 b7 c7 d7 e7 h7 k7 st), (wSet cy b7 v)]) [.ref p70, .int x0, .int x1]) (va_Qi (fun (r : Int32) (u : Int32) => wrI (f_X7_rule st v x0 x1) st = (r, u)) (fun u t => va_P D vwCl (List.flatten [(wPCo p70 b7 c7 d7 e7 h7 k7 u), (wSet cy b7 v)]) t.heap) (muA (List.flatten [(wPCo p70 b7 c7 d7 e7 h7 k7 st), (wSet cy b7 v)]))) 2 12 (muA (List.flatten [(wPCo p70 b7 c7 d7 e7 h7 k7 st), (wSet cy b7 v)])) := by
  refine va_MetW (cc := cL_ruleOf) (maxL := 4) (ret := some .int) (hh := [(0, 6, 7, 25), (0, 6, 11, 15)]) (by decide) rfl ?_
  intro p e s m args below meth c s₁ BB hml hv
  obtain ⟨rfl, ⟨hP, hK0, hD0⟩, hNc⟩ := hv
  have hx := BB.exec
  have hb := BB.bytes
  have hr := BB.returns
  have hts := atoms_spec (ws := wsL_ruleOf) BB.pre
  have hown : s.vm.findClass RL = some m.cls := findClass_of_methodNamed BB.named
  have hlocks := BB.notSynchronized
  have hT := vx_table (x := yL_ruleOf) BB (hts (.codeWith yL_ruleOf cL_ruleOf 4 (some .int) [(0, 6, 7, 25), (0, 6, 11, 15)]) List.mem_cons_self)
  have S := my_fix hx hb hml hown hts
  have hAB := muB hD0
  have hD := muD hD0
  generalize hAe : muA (List.flatten [(wPCo p70 b7 c7 d7 e7 h7 k7 st), (wSet cy b7 v)]) = A at hAB hD ⊢
  have hS : va_S A s.heap s.heap [] := va_S.rf
  have hl := lv_entry ([.ref p70, .int x0, .int x1]) (n := 4) (Nat.le_of_ble_eq_true rfl)
  rw [lg_entry_eq]
  generalize (lg_sl ([.ref p70, .int x0, .int x1]) ++ List.replicate (4 - (lg_sl ([.ref p70, .int x0, .int x1])).length) Slot.unset).toArray = ls at hl ⊢
  have hl : lv_has ls 4 [(0, .ref p70), (1, .int x0), (2, .int x1)] := hl
  refine lv_aload_n hx hb dL_ruleOf_0 rfl (lv_at hl 0 rfl) ?_
  refine lv_iload_n hx hb dL_ruleOf_1 rfl (lv_at hl 1 rfl) ?_
  refine lv_iload_n hx hb dL_ruleOf_2 rfl (lv_at hl 2 rfl) ?_
  refine wr_compi (wcs := [(wPCo p70 b7 c7 d7 e7 h7 k7 st), (wSet cy b7 v)]) (wns := fun u => [(wPCo p70 b7 c7 d7 e7 h7 k7 u), (wSet cy b7 v)]) (W2 := fun u => [(wPCo p70 b7 c7 d7 e7 h7 k7 u), (wSet cy b7 v)]) (vx_runV (C := RX7) (As := [.int x0, .int x1]) (rest := []) S (c_X7_rule l hl0 D cy g B p70 b7 c7 d7 e7 h7 k7 st v x0 x1) (cwV 2 hts gL_ruleOf_X7_rule rfl rfl rfl hd_X7_rule_V ⟨Nat.le_of_ble_eq_true rfl, Nat.le_of_ble_eq_true rfl⟩) ⟨muP_blind, va_recv hK0.1 hP (ci := 5) (q0 := 0) rfl rfl, my_preC (wcs := [(wPCo p70 b7 c7 d7 e7 h7 k7 st), (wSet cy b7 v)]) hK0 hS hAB hP hD [0, 1] (by decide) rfl rfl⟩ rfl rfl hl.1 rfl (lv_room (Nat.le_of_ble_eq_true rfl)) dL_ruleOf_3 ⟨Nat.le_of_ble_eq_true rfl, Nat.le_of_ble_eq_true rfl⟩) hS hP hD [0, 1] rfl rfl (fun _ => rfl) (fun _ => by simp only [List.map_cons, List.map_nil, adrSet, adrSetE, adrPow, adrPowE, adrTxt, adrTxtE, adrSav, adrSavE, adrPCo]) (fun _ => rfl) rfl (fun k E ce q9 H locs hG hE hP hS hce hcv hcl => ?_) (fun r u H locs hG hP hD hS => ?_)
  · have hk9 := hk k hG
    rcases hk9 with rfl | rfl
    · have hE := exE_1 hE
      subst hE
      refine vx_catch hown [] ⟨0, 6, 7, 25⟩ [⟨0, 6, 11, 15⟩] hT (fun z hz => absurd hz List.not_mem_nil) rfl (by decide) (hts (.classLink RL 25 "java/lang/IndexOutOfBoundsException") (by decide +kernel)) (va_Nw.use rfl hK0.2.1.2.2.2.1) hce hcv hcl ?_
      refine lv_astore_n (lv' := [(3, .ref q9), (0, .ref p70), (1, .int x0), (2, .int x1)]) hx hb dL_ruleOf_7 rfl hl (by decide) rfl (fun ls hl => ?_)
      refine lv_ldc hx hb hown (hts (.constant RL 27 (-2000001)) (by decide +kernel)) dL_ruleOf_8 ?_
      exact W.iret hx hb hr (fun t ht hW => ⟨⟨(-2000001), st, rfl, (wrap_e (wrI_l hG) rfl), by show va_P D vwCl _ t.heap; rw [ht]; exact hP⟩, hS.F ht⟩) hS.2.2 dL_ruleOf_10
    · have hE := exE_2 hE
      subst hE
      refine vx_catch hown [⟨0, 6, 7, 25⟩] ⟨0, 6, 11, 15⟩ [] hT (fun z hz => by rcases List.mem_singleton.mp hz with rfl; exact Or.inr ⟨by decide, _, (hts (.classLink RL 25 "java/lang/IndexOutOfBoundsException") (by decide +kernel)), hNc.1⟩) rfl (by decide) (hts (.classLink RL 15 "java/lang/IllegalArgumentException") (by decide +kernel)) (va_Nw.use rfl hK0.2.1.2.2.2.2.1) hce hcv hcl ?_
      refine lv_astore_n (lv' := [(3, .ref q9), (0, .ref p70), (1, .int x0), (2, .int x1)]) hx hb dL_ruleOf_11 rfl hl (by decide) rfl (fun ls hl => ?_)
      refine lv_ldc hx hb hown (hts (.constant RL 17 (-2000002)) (by decide +kernel)) dL_ruleOf_12 ?_
      exact W.iret hx hb hr (fun t ht hW => ⟨⟨(-2000002), st, rfl, (wrap_e (wrI_l hG) rfl), by show va_P D vwCl _ t.heap; rw [ht]; exact hP⟩, hS.F ht⟩) hS.2.2 dL_ruleOf_14
  · exact W.iret hx hb hr (fun t ht hW => ⟨⟨r, u, rfl, wrI_r hG, by show va_P D vwCl _ t.heap; rw [ht]; exact hP⟩, hS.F ht⟩) hS.2.2 dL_ruleOf_6
theorem hd_L_ruleOf_S : yL_ruleOf.cls ≠ "java/lang/invoke/MethodHandle" ∧ yL_ruleOf.cls ≠ "java/lang/invoke/VarHandle" ∧ (parseMethodDescriptor yL_ruleOf.desc).map (fun d => d.parameters.length) = some 3 := by decide +kernel
set_option maxHeartbeats 1000000 in
set_option maxRecDepth 100000 in
theorem c_L_wholeOf (l : Launch) (hl0 : l.stackTraces = false) (D : va_G) (cy : Nat → ClassId) (g : Nat → Nat) (B : Nat) (p70 : Nat) (b7 : Nat → Nat) (c7 : Nat → Nat) (d7 : Nat → Nat) (e7 : Nat → Nat) (h7 : Nat → Nat) (k7 : Nat → Nat) (st : Int32) (v : SetV) (w : PowV) (tx : TxtV) (x0 : Int32) (hk : ∀ k, f_X7_whole st v w tx x0 = .inl k → k = 2) : Met l yL_wholeOf wsL_wholeOf ({ frames := 8, cells := 1, slots := 6, locals := 153 }) (lwP D cy g B (List.flatten [(wPCo p70 b7 c7 d7 e7 h7 k7 st), (wSet cy b7 v), (wPow cy c7 w), (wTxt cy g k7 tx)]) [.ref p70, .int x0]) (va_Qi (fun (r : Int32) (u : Int32 × PowV) => wrI (f_X7_whole st v w tx x0) (st, w) = (r, u)) (fun u t => va_P D vwCl (List.flatten [(wPCo p70 b7 c7 d7 e7 h7 k7 u.1), (wSet cy b7 v), (wPow cy c7 u.2), (wTxt cy g k7 tx)]) t.heap) (muA (List.flatten [(wPCo p70 b7 c7 d7 e7 h7 k7 st), (wSet cy b7 v), (wPow cy c7 w), (wTxt cy g k7 tx)]))) 1 6 (muA (List.flatten [(wPCo p70 b7 c7 d7 e7 h7 k7 st), (wSet cy b7 v), (wPow cy c7 w), (wTxt cy g k7 tx)])) := by
  refine va_MetW (cc := cL_wholeOf) (maxL := 3) (ret := some .int) (hh := [(0, 5, 6, 15)]) (by decide) rfl ?_
  intro p e s m args below meth c s₁ BB hml hv
  obtain ⟨rfl, ⟨hP, hK0, hD0⟩, hNc⟩ := hv
  have hx := BB.exec
  have hb := BB.bytes
  have hr := BB.returns
  have hts := atoms_spec (ws := wsL_wholeOf) BB.pre
  have hown : s.vm.findClass RL = some m.cls := findClass_of_methodNamed BB.named
  have hlocks := BB.notSynchronized
  have hT := vx_table (x := yL_wholeOf) BB (hts (.codeWith yL_wholeOf cL_wholeOf 3 (some .int) [(0, 5, 6, 15)]) List.mem_cons_self)
  have S := my_fix hx hb hml hown hts
  have hAB := muB hD0
  have hD := muD hD0
  generalize hAe : muA (List.flatten [(wPCo p70 b7 c7 d7 e7 h7 k7 st), (wSet cy b7 v), (wPow cy c7 w), (wTxt cy g k7 tx)]) = A at hAB hD ⊢
  have hS : va_S A s.heap s.heap [] := va_S.rf
  have hl := lv_entry ([.ref p70, .int x0]) (n := 3) (Nat.le_of_ble_eq_true rfl)
  rw [lg_entry_eq]
  generalize (lg_sl ([.ref p70, .int x0]) ++ List.replicate (3 - (lg_sl ([.ref p70, .int x0])).length) Slot.unset).toArray = ls at hl ⊢
  have hl : lv_has ls 3 [(0, .ref p70), (1, .int x0)] := hl
  refine lv_aload_n hx hb dL_wholeOf_0 rfl (lv_at hl 0 rfl) ?_
  refine lv_iload_n hx hb dL_wholeOf_1 rfl (lv_at hl 1 rfl) ?_
  refine wr_compi (wcs := [(wPCo p70 b7 c7 d7 e7 h7 k7 st), (wSet cy b7 v), (wPow cy c7 w), (wTxt cy g k7 tx)]) (wns := fun u => [(wPCo p70 b7 c7 d7 e7 h7 k7 u.1), (wSet cy b7 v), (wPow cy c7 u.2), (wTxt cy g k7 tx)]) (W2 := fun u => [(wPCo p70 b7 c7 d7 e7 h7 k7 u.1), (wSet cy b7 v), (wPow cy c7 u.2), (wTxt cy g k7 tx)]) (vx_runV (C := RX7) (As := [.int x0]) (rest := []) S (c_X7_whole l hl0 D cy g B p70 b7 c7 d7 e7 h7 k7 st v w tx x0) (cwV 1 hts gL_wholeOf_X7_whole rfl rfl rfl hd_X7_whole_V ⟨Nat.le_of_ble_eq_true rfl, Nat.le_of_ble_eq_true rfl⟩) ⟨muP_blind, va_recv hK0.1 hP (ci := 5) (q0 := 0) rfl rfl, my_preC (wcs := [(wPCo p70 b7 c7 d7 e7 h7 k7 st), (wSet cy b7 v), (wPow cy c7 w), (wTxt cy g k7 tx)]) hK0 hS hAB hP hD [0, 1, 2, 3] (by decide) rfl rfl⟩ rfl rfl hl.1 rfl (lv_room (Nat.le_of_ble_eq_true rfl)) dL_wholeOf_2 ⟨Nat.le_of_ble_eq_true rfl, Nat.le_of_ble_eq_true rfl⟩) hS hP hD [0, 1, 2, 3] rfl rfl (fun _ => rfl) (fun _ => by simp only [List.map_cons, List.map_nil, adrSet, adrSetE, adrPow, adrPowE, adrTxt, adrTxtE, adrSav, adrSavE, adrPCo]) (fun _ => rfl) rfl (fun k E ce q9 H locs hG hE hP hS hce hcv hcl => ?_) (fun r u H locs hG hP hD hS => ?_)
  · have hk9 := hk k hG
    subst hk9
    have hE := exE_2 hE
    subst hE
    refine vx_catch hown [] ⟨0, 5, 6, 15⟩ [] hT (fun z hz => absurd hz List.not_mem_nil) rfl (by decide) (hts (.classLink RL 15 "java/lang/IllegalArgumentException") (by decide +kernel)) (va_Nw.use rfl hK0.2.1.2.2.2.2.1) hce hcv hcl ?_
    refine lv_astore_n (lv' := [(2, .ref q9), (0, .ref p70), (1, .int x0)]) hx hb dL_wholeOf_6 rfl hl (by decide) rfl (fun ls hl => ?_)
    refine lv_ldc hx hb hown (hts (.constant RL 17 (-2000002)) (by decide +kernel)) dL_wholeOf_7 ?_
    exact W.iret hx hb hr (fun t ht hW => ⟨⟨(-2000002), (st, w), rfl, (wrap_e (wrI_l hG) rfl), by show va_P D vwCl _ t.heap; rw [ht]; exact hP⟩, hS.F ht⟩) hS.2.2 dL_wholeOf_9
  · exact W.iret hx hb hr (fun t ht hW => ⟨⟨r, u, rfl, wrI_r hG, by show va_P D vwCl _ t.heap; rw [ht]; exact hP⟩, hS.F ht⟩) hS.2.2 dL_wholeOf_5
theorem hd_L_wholeOf_S : yL_wholeOf.cls ≠ "java/lang/invoke/MethodHandle" ∧ yL_wholeOf.cls ≠ "java/lang/invoke/VarHandle" ∧ (parseMethodDescriptor yL_wholeOf.desc).map (fun d => d.parameters.length) = some 2 := by decide +kernel
set_option maxHeartbeats 1000000 in
set_option maxRecDepth 100000 in
theorem c_L_winsOf (l : Launch) (hl0 : l.stackTraces = false) (D : va_G) (cy : Nat → ClassId) (g : Nat → Nat) (B : Nat) (p70 : Nat) (b7 : Nat → Nat) (c7 : Nat → Nat) (d7 : Nat → Nat) (e7 : Nat → Nat) (h7 : Nat → Nat) (k7 : Nat → Nat) (st : Int32) (v : SetV) (w : PowV) (x0 : Int32) (hk : ∀ k, f_X7_wins st v w x0 = .inl k → k = 2) : Met l yL_winsOf wsL_winsOf ({ frames := 8, cells := 1, slots := 6, locals := 153 }) (lwP D cy g B (List.flatten [(wPCo p70 b7 c7 d7 e7 h7 k7 st), (wSet cy b7 v), (wPow cy c7 w)]) [.ref p70, .int x0]) (va_Qi (fun (r : Int32) (u : Int32 × PowV) => wrI (f_X7_wins st v w x0) (st, w) = (r, u)) (fun u t => va_P D vwCl (List.flatten [(wPCo p70 b7 c7 d7 e7 h7 k7 u.1), (wSet cy b7 v), (wPow cy c7 u.2)]) t.heap) (muA (List.flatten [(wPCo p70 b7 c7 d7 e7 h7 k7 st), (wSet cy b7 v), (wPow cy c7 w)]))) 1 6 (muA (List.flatten [(wPCo p70 b7 c7 d7 e7 h7 k7 st), (wSet cy b7 v), (wPow cy c7 w)])) := by
  refine va_MetW (cc := cL_winsOf) (maxL := 3) (ret := some .int) (hh := [(0, 5, 6, 15)]) (by decide) rfl ?_
  intro p e s m args below meth c s₁ BB hml hv
  obtain ⟨rfl, ⟨hP, hK0, hD0⟩, hNc⟩ := hv
  have hx := BB.exec
  have hb := BB.bytes
  have hr := BB.returns
  have hts := atoms_spec (ws := wsL_winsOf) BB.pre
  have hown : s.vm.findClass RL = some m.cls := findClass_of_methodNamed BB.named
  have hlocks := BB.notSynchronized
  have hT := vx_table (x := yL_winsOf) BB (hts (.codeWith yL_winsOf cL_winsOf 3 (some .int) [(0, 5, 6, 15)]) List.mem_cons_self)
  have S := my_fix hx hb hml hown hts
  have hAB := muB hD0
  have hD := muD hD0
  generalize hAe : muA (List.flatten [(wPCo p70 b7 c7 d7 e7 h7 k7 st), (wSet cy b7 v), (wPow cy c7 w)]) = A at hAB hD ⊢
  have hS : va_S A s.heap s.heap [] := va_S.rf
  have hl := lv_entry ([.ref p70, .int x0]) (n := 3) (Nat.le_of_ble_eq_true rfl)
  rw [lg_entry_eq]
  generalize (lg_sl ([.ref p70, .int x0]) ++ List.replicate (3 - (lg_sl ([.ref p70, .int x0])).length) Slot.unset).toArray = ls at hl ⊢
  have hl : lv_has ls 3 [(0, .ref p70), (1, .int x0)] := hl
  refine lv_aload_n hx hb dL_winsOf_0 rfl (lv_at hl 0 rfl) ?_
  refine lv_iload_n hx hb dL_winsOf_1 rfl (lv_at hl 1 rfl) ?_
  refine wr_compi (wcs := [(wPCo p70 b7 c7 d7 e7 h7 k7 st), (wSet cy b7 v), (wPow cy c7 w)]) (wns := fun u => [(wPCo p70 b7 c7 d7 e7 h7 k7 u.1), (wSet cy b7 v), (wPow cy c7 u.2)]) (W2 := fun u => [(wPCo p70 b7 c7 d7 e7 h7 k7 u.1), (wSet cy b7 v), (wPow cy c7 u.2)]) (vx_runV (C := RX7) (As := [.int x0]) (rest := []) S (c_X7_wins l hl0 D cy g B p70 b7 c7 d7 e7 h7 k7 st v w x0) (cwV 1 hts gL_winsOf_X7_wins rfl rfl rfl hd_X7_wins_V ⟨Nat.le_of_ble_eq_true rfl, Nat.le_of_ble_eq_true rfl⟩) ⟨muP_blind, va_recv hK0.1 hP (ci := 5) (q0 := 0) rfl rfl, my_preC (wcs := [(wPCo p70 b7 c7 d7 e7 h7 k7 st), (wSet cy b7 v), (wPow cy c7 w)]) hK0 hS hAB hP hD [0, 1, 2] (by decide) rfl rfl⟩ rfl rfl hl.1 rfl (lv_room (Nat.le_of_ble_eq_true rfl)) dL_winsOf_2 ⟨Nat.le_of_ble_eq_true rfl, Nat.le_of_ble_eq_true rfl⟩) hS hP hD [0, 1, 2] rfl rfl (fun _ => rfl) (fun _ => by simp only [List.map_cons, List.map_nil, adrSet, adrSetE, adrPow, adrPowE, adrTxt, adrTxtE, adrSav, adrSavE, adrPCo]) (fun _ => rfl) rfl (fun k E ce q9 H locs hG hE hP hS hce hcv hcl => ?_) (fun r u H locs hG hP hD hS => ?_)
  · have hk9 := hk k hG
    subst hk9
    have hE := exE_2 hE
    subst hE
    refine vx_catch hown [] ⟨0, 5, 6, 15⟩ [] hT (fun z hz => absurd hz List.not_mem_nil) rfl (by decide) (hts (.classLink RL 15 "java/lang/IllegalArgumentException") (by decide +kernel)) (va_Nw.use rfl hK0.2.1.2.2.2.2.1) hce hcv hcl ?_
    refine lv_astore_n (lv' := [(2, .ref q9), (0, .ref p70), (1, .int x0)]) hx hb dL_winsOf_6 rfl hl (by decide) rfl (fun ls hl => ?_)
    refine lv_ldc hx hb hown (hts (.constant RL 17 (-2000002)) (by decide +kernel)) dL_winsOf_7 ?_
    exact W.iret hx hb hr (fun t ht hW => ⟨⟨(-2000002), (st, w), rfl, (wrap_e (wrI_l hG) rfl), by show va_P D vwCl _ t.heap; rw [ht]; exact hP⟩, hS.F ht⟩) hS.2.2 dL_winsOf_9
  · exact W.iret hx hb hr (fun t ht hW => ⟨⟨r, u, rfl, wrI_r hG, by show va_P D vwCl _ t.heap; rw [ht]; exact hP⟩, hS.F ht⟩) hS.2.2 dL_winsOf_5
theorem hd_L_winsOf_S : yL_winsOf.cls ≠ "java/lang/invoke/MethodHandle" ∧ yL_winsOf.cls ≠ "java/lang/invoke/VarHandle" ∧ (parseMethodDescriptor yL_winsOf.desc).map (fun d => d.parameters.length) = some 2 := by decide +kernel
set_option maxHeartbeats 1000000 in
set_option maxRecDepth 100000 in
theorem c_L_leastOf (l : Launch) (hl0 : l.stackTraces = false) (D : va_G) (cy : Nat → ClassId) (g : Nat → Nat) (B : Nat) (p70 : Nat) (b7 : Nat → Nat) (c7 : Nat → Nat) (d7 : Nat → Nat) (e7 : Nat → Nat) (h7 : Nat → Nat) (k7 : Nat → Nat) (st : Int32) (v : SetV) (w : PowV) (x0 : Int32) (hk : ∀ k, f_X7_least st v w x0 = .inl k → k = 2) : Met l yL_leastOf wsL_leastOf ({ frames := 8, cells := 1, slots := 6, locals := 154 }) (lwP D cy g B (List.flatten [(wPCo p70 b7 c7 d7 e7 h7 k7 st), (wSet cy b7 v), (wPow cy c7 w)]) [.ref p70, .int x0]) (va_Qi (fun (r : Int32) (u : Int32 × PowV) => wrI (f_X7_least st v w x0) (st, w) = (r, u)) (fun u t => va_P D vwCl (List.flatten [(wPCo p70 b7 c7 d7 e7 h7 k7 u.1), (wSet cy b7 v), (wPow cy c7 u.2)]) t.heap) (muA (List.flatten [(wPCo p70 b7 c7 d7 e7 h7 k7 st), (wSet cy b7 v), (wPow cy c7 w)]))) 1 6 (muA (List.flatten [(wPCo p70 b7 c7 d7 e7 h7 k7 st), (wSet cy b7 v), (wPow cy c7 w)])) := by
  refine va_MetW (cc := cL_leastOf) (maxL := 3) (ret := some .int) (hh := [(0, 5, 6, 15)]) (by decide) rfl ?_
  intro p e s m args below meth c s₁ BB hml hv
  obtain ⟨rfl, ⟨hP, hK0, hD0⟩, hNc⟩ := hv
  have hx := BB.exec
  have hb := BB.bytes
  have hr := BB.returns
  have hts := atoms_spec (ws := wsL_leastOf) BB.pre
  have hown : s.vm.findClass RL = some m.cls := findClass_of_methodNamed BB.named
  have hlocks := BB.notSynchronized
  have hT := vx_table (x := yL_leastOf) BB (hts (.codeWith yL_leastOf cL_leastOf 3 (some .int) [(0, 5, 6, 15)]) List.mem_cons_self)
  have S := my_fix hx hb hml hown hts
  have hAB := muB hD0
  have hD := muD hD0
  generalize hAe : muA (List.flatten [(wPCo p70 b7 c7 d7 e7 h7 k7 st), (wSet cy b7 v), (wPow cy c7 w)]) = A at hAB hD ⊢
  have hS : va_S A s.heap s.heap [] := va_S.rf
  have hl := lv_entry ([.ref p70, .int x0]) (n := 3) (Nat.le_of_ble_eq_true rfl)
  rw [lg_entry_eq]
  generalize (lg_sl ([.ref p70, .int x0]) ++ List.replicate (3 - (lg_sl ([.ref p70, .int x0])).length) Slot.unset).toArray = ls at hl ⊢
  have hl : lv_has ls 3 [(0, .ref p70), (1, .int x0)] := hl
  refine lv_aload_n hx hb dL_leastOf_0 rfl (lv_at hl 0 rfl) ?_
  refine lv_iload_n hx hb dL_leastOf_1 rfl (lv_at hl 1 rfl) ?_
  refine wr_compi (wcs := [(wPCo p70 b7 c7 d7 e7 h7 k7 st), (wSet cy b7 v), (wPow cy c7 w)]) (wns := fun u => [(wPCo p70 b7 c7 d7 e7 h7 k7 u.1), (wSet cy b7 v), (wPow cy c7 u.2)]) (W2 := fun u => [(wPCo p70 b7 c7 d7 e7 h7 k7 u.1), (wSet cy b7 v), (wPow cy c7 u.2)]) (vx_runV (C := RX7) (As := [.int x0]) (rest := []) S (c_X7_least l hl0 D cy g B p70 b7 c7 d7 e7 h7 k7 st v w x0) (cwV 1 hts gL_leastOf_X7_least rfl rfl rfl hd_X7_least_V ⟨Nat.le_of_ble_eq_true rfl, Nat.le_of_ble_eq_true rfl⟩) ⟨muP_blind, va_recv hK0.1 hP (ci := 5) (q0 := 0) rfl rfl, my_preC (wcs := [(wPCo p70 b7 c7 d7 e7 h7 k7 st), (wSet cy b7 v), (wPow cy c7 w)]) hK0 hS hAB hP hD [0, 1, 2] (by decide) rfl rfl⟩ rfl rfl hl.1 rfl (lv_room (Nat.le_of_ble_eq_true rfl)) dL_leastOf_2 ⟨Nat.le_of_ble_eq_true rfl, Nat.le_of_ble_eq_true rfl⟩) hS hP hD [0, 1, 2] rfl rfl (fun _ => rfl) (fun _ => by simp only [List.map_cons, List.map_nil, adrSet, adrSetE, adrPow, adrPowE, adrTxt, adrTxtE, adrSav, adrSavE, adrPCo]) (fun _ => rfl) rfl (fun k E ce q9 H locs hG hE hP hS hce hcv hcl => ?_) (fun r u H locs hG hP hD hS => ?_)
  · have hk9 := hk k hG
    subst hk9
    have hE := exE_2 hE
    subst hE
    refine vx_catch hown [] ⟨0, 5, 6, 15⟩ [] hT (fun z hz => absurd hz List.not_mem_nil) rfl (by decide) (hts (.classLink RL 15 "java/lang/IllegalArgumentException") (by decide +kernel)) (va_Nw.use rfl hK0.2.1.2.2.2.2.1) hce hcv hcl ?_
    refine lv_astore_n (lv' := [(2, .ref q9), (0, .ref p70), (1, .int x0)]) hx hb dL_leastOf_6 rfl hl (by decide) rfl (fun ls hl => ?_)
    refine lv_ldc hx hb hown (hts (.constant RL 17 (-2000002)) (by decide +kernel)) dL_leastOf_7 ?_
    exact W.iret hx hb hr (fun t ht hW => ⟨⟨(-2000002), (st, w), rfl, (wrap_e (wrI_l hG) rfl), by show va_P D vwCl _ t.heap; rw [ht]; exact hP⟩, hS.F ht⟩) hS.2.2 dL_leastOf_9
  · exact W.iret hx hb hr (fun t ht hW => ⟨⟨r, u, rfl, wrI_r hG, by show va_P D vwCl _ t.heap; rw [ht]; exact hP⟩, hS.F ht⟩) hS.2.2 dL_leastOf_5
theorem hd_L_leastOf_S : yL_leastOf.cls ≠ "java/lang/invoke/MethodHandle" ∧ yL_leastOf.cls ≠ "java/lang/invoke/VarHandle" ∧ (parseMethodDescriptor yL_leastOf.desc).map (fun d => d.parameters.length) = some 2 := by decide +kernel
set_option maxHeartbeats 1000000 in
set_option maxRecDepth 100000 in
theorem c_L_shareOf (l : Launch) (hl0 : l.stackTraces = false) (D : va_G) (cy : Nat → ClassId) (g : Nat → Nat) (B : Nat) (p70 : Nat) (b7 : Nat → Nat) (c7 : Nat → Nat) (d7 : Nat → Nat) (e7 : Nat → Nat) (h7 : Nat → Nat) (k7 : Nat → Nat) (st : Int32) (v : SetV) (w : PowV) (x0 : Int32) (hk : ∀ k, f_X7_share st v w x0 = .inl k → k = 1) (hn : ∀ r u, f_X7_share st v w x0 = .inr (r, u) → vf_n64 (FP.f2d r)) : Met l yL_shareOf wsL_shareOf ({ frames := 8, cells := 1, slots := 6, locals := 153 }) (lwP D cy g B (List.flatten [(wPCo p70 b7 c7 d7 e7 h7 k7 st), (wSet cy b7 v), (wPow cy c7 w)]) [.ref p70, .int x0]) (va_Qd (fun (r : UInt64) (u : Int32 × PowV) => wrF (f_X7_share st v w x0) (st, w) = (r, u)) (fun u t => va_P D vwCl (List.flatten [(wPCo p70 b7 c7 d7 e7 h7 k7 u.1), (wSet cy b7 v), (wPow cy c7 u.2)]) t.heap) (muA (List.flatten [(wPCo p70 b7 c7 d7 e7 h7 k7 st), (wSet cy b7 v), (wPow cy c7 w)]))) 1 6 (muA (List.flatten [(wPCo p70 b7 c7 d7 e7 h7 k7 st), (wSet cy b7 v), (wPow cy c7 w)])) := by
  refine va_MetW (cc := cL_shareOf) (maxL := 3) (ret := some .double) (hh := [(0, 6, 7, 25)]) (by decide) rfl ?_
  intro p e s m args below meth c s₁ BB hml hv
  obtain ⟨rfl, ⟨hP, hK0, hD0⟩, hNc⟩ := hv
  have hx := BB.exec
  have hb := BB.bytes
  have hr := BB.returns
  have hts := atoms_spec (ws := wsL_shareOf) BB.pre
  have hown : s.vm.findClass RL = some m.cls := findClass_of_methodNamed BB.named
  have hlocks := BB.notSynchronized
  have hT := vx_table (x := yL_shareOf) BB (hts (.codeWith yL_shareOf cL_shareOf 3 (some .double) [(0, 6, 7, 25)]) List.mem_cons_self)
  have S := my_fix hx hb hml hown hts
  have hAB := muB hD0
  have hD := muD hD0
  generalize hAe : muA (List.flatten [(wPCo p70 b7 c7 d7 e7 h7 k7 st), (wSet cy b7 v), (wPow cy c7 w)]) = A at hAB hD ⊢
  have hS : va_S A s.heap s.heap [] := va_S.rf
  have hl := lv_entry ([.ref p70, .int x0]) (n := 3) (Nat.le_of_ble_eq_true rfl)
  rw [lg_entry_eq]
  generalize (lg_sl ([.ref p70, .int x0]) ++ List.replicate (3 - (lg_sl ([.ref p70, .int x0])).length) Slot.unset).toArray = ls at hl ⊢
  have hl : lv_has ls 3 [(0, .ref p70), (1, .int x0)] := hl
  refine lv_aload_n hx hb dL_shareOf_0 rfl (lv_at hl 0 rfl) ?_
  refine lv_iload_n hx hb dL_shareOf_1 rfl (lv_at hl 1 rfl) ?_
  refine wr_compf (wcs := [(wPCo p70 b7 c7 d7 e7 h7 k7 st), (wSet cy b7 v), (wPow cy c7 w)]) (wns := fun u => [(wPCo p70 b7 c7 d7 e7 h7 k7 u.1), (wSet cy b7 v), (wPow cy c7 u.2)]) (W2 := fun u => [(wPCo p70 b7 c7 d7 e7 h7 k7 u.1), (wSet cy b7 v), (wPow cy c7 u.2)]) (vx_runV (C := RX7) (As := [.int x0]) (rest := []) S (c_X7_share l hl0 D cy g B p70 b7 c7 d7 e7 h7 k7 st v w x0) (cwV 1 hts gL_shareOf_X7_share rfl rfl rfl hd_X7_share_V ⟨Nat.le_of_ble_eq_true rfl, Nat.le_of_ble_eq_true rfl⟩) ⟨muP_blind, va_recv hK0.1 hP (ci := 5) (q0 := 0) rfl rfl, my_preC (wcs := [(wPCo p70 b7 c7 d7 e7 h7 k7 st), (wSet cy b7 v), (wPow cy c7 w)]) hK0 hS hAB hP hD [0, 1, 2] (by decide) rfl rfl⟩ rfl rfl hl.1 rfl (lv_room (Nat.le_of_ble_eq_true rfl)) dL_shareOf_2 ⟨Nat.le_of_ble_eq_true rfl, Nat.le_of_ble_eq_true rfl⟩) hS hP hD [0, 1, 2] rfl rfl (fun _ => rfl) (fun _ => by simp only [List.map_cons, List.map_nil, adrSet, adrSetE, adrPow, adrPowE, adrTxt, adrTxtE, adrSav, adrSavE, adrPCo]) (fun _ => rfl) rfl (fun k E ce q9 H locs hG hE hP hS hce hcv hcl => ?_) (fun r u H locs hG hP hD hS => ?_)
  · have hk9 := hk k hG
    subst hk9
    have hE := exE_1 hE
    subst hE
    refine vx_catch hown [] ⟨0, 6, 7, 25⟩ [] hT (fun z hz => absurd hz List.not_mem_nil) rfl (by decide) (hts (.classLink RL 25 "java/lang/IndexOutOfBoundsException") (by decide +kernel)) (va_Nw.use rfl hK0.2.1.2.2.2.1) hce hcv hcl ?_
    refine lv_astore_n (lv' := [(2, .ref q9), (0, .ref p70), (1, .int x0)]) hx hb dL_shareOf_7 rfl hl (by decide) rfl (fun ls hl => ?_)
    refine lv_ldc2d hx hb hown (hts (.constantDouble RL 113 (13924712787461799936)) (by decide +kernel)) dL_shareOf_8 ?_
    exact W.dret hx hb hr (fun t ht hW => ⟨⟨13924712787461799936, (st, w), rfl, (wrap_e (wrF_l hG) rfl), by show va_P D vwCl _ t.heap; rw [ht]; exact hP⟩, hS.F ht⟩) hS.2.2 dL_shareOf_11
  · refine lv_f2d hx hb dL_shareOf_5 (hn r u hG) ?_
    exact W.dret hx hb hr (fun t ht hW => ⟨⟨(FP.f2d r), u, rfl, wrF_r hG, by show va_P D vwCl _ t.heap; rw [ht]; exact hP⟩, hS.F ht⟩) hS.2.2 dL_shareOf_6
theorem hd_L_shareOf_S : yL_shareOf.cls ≠ "java/lang/invoke/MethodHandle" ∧ yL_shareOf.cls ≠ "java/lang/invoke/VarHandle" ∧ (parseMethodDescriptor yL_shareOf.desc).map (fun d => d.parameters.length) = some 2 := by decide +kernel
set_option maxHeartbeats 1000000 in
set_option maxRecDepth 100000 in
theorem c_L_partOf (l : Launch) (hl0 : l.stackTraces = false) (D : va_G) (cy : Nat → ClassId) (g : Nat → Nat) (B : Nat) (p70 : Nat) (b7 : Nat → Nat) (c7 : Nat → Nat) (d7 : Nat → Nat) (e7 : Nat → Nat) (h7 : Nat → Nat) (k7 : Nat → Nat) (st : Int32) (v : SetV) (w : PowV) (x0 : Int32) (hk : ∀ k, f_X7_part st v w x0 = .inl k → k = 1) : Met l yL_partOf wsL_partOf ({ frames := 8, cells := 1, slots := 6, locals := 153 }) (lwP D cy g B (List.flatten [(wPCo p70 b7 c7 d7 e7 h7 k7 st), (wSet cy b7 v), (wPow cy c7 w)]) [.ref p70, .int x0]) (va_Qd (fun (r : UInt64) (u : Int32 × PowV) => wrD (f_X7_part st v w x0) (st, w) = (r, u)) (fun u t => va_P D vwCl (List.flatten [(wPCo p70 b7 c7 d7 e7 h7 k7 u.1), (wSet cy b7 v), (wPow cy c7 u.2)]) t.heap) (muA (List.flatten [(wPCo p70 b7 c7 d7 e7 h7 k7 st), (wSet cy b7 v), (wPow cy c7 w)]))) 1 6 (muA (List.flatten [(wPCo p70 b7 c7 d7 e7 h7 k7 st), (wSet cy b7 v), (wPow cy c7 w)])) := by
  refine va_MetW (cc := cL_partOf) (maxL := 3) (ret := some .double) (hh := [(0, 5, 6, 25)]) (by decide) rfl ?_
  intro p e s m args below meth c s₁ BB hml hv
  obtain ⟨rfl, ⟨hP, hK0, hD0⟩, hNc⟩ := hv
  have hx := BB.exec
  have hb := BB.bytes
  have hr := BB.returns
  have hts := atoms_spec (ws := wsL_partOf) BB.pre
  have hown : s.vm.findClass RL = some m.cls := findClass_of_methodNamed BB.named
  have hlocks := BB.notSynchronized
  have hT := vx_table (x := yL_partOf) BB (hts (.codeWith yL_partOf cL_partOf 3 (some .double) [(0, 5, 6, 25)]) List.mem_cons_self)
  have S := my_fix hx hb hml hown hts
  have hAB := muB hD0
  have hD := muD hD0
  generalize hAe : muA (List.flatten [(wPCo p70 b7 c7 d7 e7 h7 k7 st), (wSet cy b7 v), (wPow cy c7 w)]) = A at hAB hD ⊢
  have hS : va_S A s.heap s.heap [] := va_S.rf
  have hl := lv_entry ([.ref p70, .int x0]) (n := 3) (Nat.le_of_ble_eq_true rfl)
  rw [lg_entry_eq]
  generalize (lg_sl ([.ref p70, .int x0]) ++ List.replicate (3 - (lg_sl ([.ref p70, .int x0])).length) Slot.unset).toArray = ls at hl ⊢
  have hl : lv_has ls 3 [(0, .ref p70), (1, .int x0)] := hl
  refine lv_aload_n hx hb dL_partOf_0 rfl (lv_at hl 0 rfl) ?_
  refine lv_iload_n hx hb dL_partOf_1 rfl (lv_at hl 1 rfl) ?_
  refine wr_compd (wcs := [(wPCo p70 b7 c7 d7 e7 h7 k7 st), (wSet cy b7 v), (wPow cy c7 w)]) (wns := fun u => [(wPCo p70 b7 c7 d7 e7 h7 k7 u.1), (wSet cy b7 v), (wPow cy c7 u.2)]) (W2 := fun u => [(wPCo p70 b7 c7 d7 e7 h7 k7 u.1), (wSet cy b7 v), (wPow cy c7 u.2)]) (vx_runV (C := RX7) (As := [.int x0]) (rest := []) S (c_X7_part l hl0 D cy g B p70 b7 c7 d7 e7 h7 k7 st v w x0) (cwV 1 hts gL_partOf_X7_part rfl rfl rfl hd_X7_part_V ⟨Nat.le_of_ble_eq_true rfl, Nat.le_of_ble_eq_true rfl⟩) ⟨muP_blind, va_recv hK0.1 hP (ci := 5) (q0 := 0) rfl rfl, my_preC (wcs := [(wPCo p70 b7 c7 d7 e7 h7 k7 st), (wSet cy b7 v), (wPow cy c7 w)]) hK0 hS hAB hP hD [0, 1, 2] (by decide) rfl rfl⟩ rfl rfl hl.1 rfl (lv_room (Nat.le_of_ble_eq_true rfl)) dL_partOf_2 ⟨Nat.le_of_ble_eq_true rfl, Nat.le_of_ble_eq_true rfl⟩) hS hP hD [0, 1, 2] rfl rfl (fun _ => rfl) (fun _ => by simp only [List.map_cons, List.map_nil, adrSet, adrSetE, adrPow, adrPowE, adrTxt, adrTxtE, adrSav, adrSavE, adrPCo]) (fun _ => rfl) rfl (fun k E ce q9 H locs hG hE hP hS hce hcv hcl => ?_) (fun r u H locs hG hP hD hS => ?_)
  · have hk9 := hk k hG
    subst hk9
    have hE := exE_1 hE
    subst hE
    refine vx_catch hown [] ⟨0, 5, 6, 25⟩ [] hT (fun z hz => absurd hz List.not_mem_nil) rfl (by decide) (hts (.classLink RL 25 "java/lang/IndexOutOfBoundsException") (by decide +kernel)) (va_Nw.use rfl hK0.2.1.2.2.2.1) hce hcv hcl ?_
    refine lv_astore_n (lv' := [(2, .ref q9), (0, .ref p70), (1, .int x0)]) hx hb dL_partOf_6 rfl hl (by decide) rfl (fun ls hl => ?_)
    refine lv_ldc2d hx hb hown (hts (.constantDouble RL 113 (13924712787461799936)) (by decide +kernel)) dL_partOf_7 ?_
    exact W.dret hx hb hr (fun t ht hW => ⟨⟨13924712787461799936, (st, w), rfl, (wrap_e (wrD_l hG) rfl), by show va_P D vwCl _ t.heap; rw [ht]; exact hP⟩, hS.F ht⟩) hS.2.2 dL_partOf_10
  · exact W.dret hx hb hr (fun t ht hW => ⟨⟨r, u, rfl, wrD_r hG, by show va_P D vwCl _ t.heap; rw [ht]; exact hP⟩, hS.F ht⟩) hS.2.2 dL_partOf_5
theorem hd_L_partOf_S : yL_partOf.cls ≠ "java/lang/invoke/MethodHandle" ∧ yL_partOf.cls ≠ "java/lang/invoke/VarHandle" ∧ (parseMethodDescriptor yL_partOf.desc).map (fun d => d.parameters.length) = some 2 := by decide +kernel
