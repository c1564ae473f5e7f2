/-! part 99a: the law's methods that call and catch -/
abbrev wL (cy : Nat → ClassId) (o : Nat) (f : Nat → Int64) : va_W := [(o, .inl (cy 3, (1, .inr (.inl f))))]
abbrev wDb (cy : Nat → ClassId) (o : Nat) (f : Nat → UInt64) : va_W := [(o, .inl (cy 4, (1, .inr (.inr (.inr (.inl f))))))]
/-- no exception of ours is one of another kind -/
def ncOK (U : State) : Prop := va_Nc "java/lang/IllegalArgumentException" "java/lang/IndexOutOfBoundsException" U ∧ va_Nc "java/lang/IllegalStateException" "java/lang/IndexOutOfBoundsException" U ∧ va_Nc "java/lang/IllegalStateException" "java/lang/IllegalArgumentException" U
def lwP (D : va_G) (cy : Nat → ClassId) (g : Nat → Nat) (B : Nat) (wc : va_W) (av : List Value) : Array Value → State → Prop := va_Pc av (fun U => (va_P D vwCl wc U.heap ∧ myK D cy g B U U.heap ∧ va_D (fun q => B ≤ q) wc) ∧ ncOK U)
theorem lwP_blind {D : va_G} {cy : Nat → ClassId} {g : Nat → Nat} {B : Nat} {wc : va_W} {av : List Value} : FrameBlind (lwP D cy g B wc av) := by
  intro a U g' mk h
  have h1 := muP_blind (D := D) (cy := cy) (g := g) (B := B) (wc := wc) (av := av) a U g' mk ⟨h.1, h.2.1⟩
  exact ⟨h1.1, h1.2, va_Nc.moved (u := U) (U := U.calling g' mk a) (Vm.Alike.refl U.vm) h.2.2.1, va_Nc.moved (u := U) (U := U.calling g' mk a) (Vm.Alike.refl U.vm) h.2.2.2.1, va_Nc.moved (u := U) (U := U.calling g' mk a) (Vm.Alike.refl U.vm) h.2.2.2.2⟩
theorem exE_1 {E : String} (h : exE 1 E) : E = "java/lang/IndexOutOfBoundsException" := by
  rcases h with ⟨_, h⟩ | ⟨h, _⟩ | ⟨h, _⟩
  · exact h
  · exact absurd h (by decide)
  · exact absurd h (by decide)
theorem exE_2 {E : String} (h : exE 2 E) : E = "java/lang/IllegalArgumentException" := by
  rcases h with ⟨h, _⟩ | ⟨_, h⟩ | ⟨h, _⟩
  · exact absurd h (by decide)
  · exact h
  · exact absurd h (by decide)
theorem exE_3 {E : String} (h : exE 3 E) : E = "java/lang/IllegalStateException" := by
  rcases h with ⟨h, _⟩ | ⟨h, _⟩ | ⟨_, h⟩
  · exact absurd h (by decide)
  · exact absurd h (by decide)
  · exact h
/-- what a wrapper answers, and what it leaves -/
def wrI {S : Type} (F : Int32 ⊕ (Int32 × S)) (cod : Int32 → Int32) (u0 : S) (o : Nat → Int64) : Int32 × (S × (Nat → Int64)) := match F with
  | .inl k => (cod k, (u0, o))
  | .inr a => (0, (a.2, vp_updL o 0 (Int32.toInt64 a.1)))
theorem wrI_l {S : Type} {F : Int32 ⊕ (Int32 × S)} {k : Int32} {cod : Int32 → Int32} {u0 : S} {o : Nat → Int64} (h : F = .inl k) : wrI F cod u0 o = (cod k, (u0, o)) := by subst h; rfl
theorem wrI_r {S : Type} {F : Int32 ⊕ (Int32 × S)} {a : Int32} {u : S} {cod : Int32 → Int32} {u0 : S} {o : Nat → Int64} (h : F = .inr (a, u)) : wrI F cod u0 o = (0, (u, vp_updL o 0 (Int32.toInt64 a))) := by subst h; rfl
def wrF {S : Type} (F : Int32 ⊕ (UInt32 × S)) (cod : Int32 → Int32) (u0 : S) (o : Nat → UInt64) : Int32 × (S × (Nat → UInt64)) := match F with
  | .inl k => (cod k, (u0, o))
  | .inr a => (0, (a.2, vf_upd o 0 (FP.f2d a.1)))
theorem wrF_l {S : Type} {F : Int32 ⊕ (UInt32 × S)} {k : Int32} {cod : Int32 → Int32} {u0 : S} {o : Nat → UInt64} (h : F = .inl k) : wrF F cod u0 o = (cod k, (u0, o)) := by subst h; rfl
theorem wrF_r {S : Type} {F : Int32 ⊕ (UInt32 × S)} {a : UInt32} {u : S} {cod : Int32 → Int32} {u0 : S} {o : Nat → UInt64} (h : F = .inr (a, u)) : wrF F cod u0 o = (0, (u, vf_upd o 0 (FP.f2d a))) := by subst h; rfl
def wrD {S : Type} (F : Int32 ⊕ (UInt64 × S)) (cod : Int32 → Int32) (u0 : S) (o : Nat → UInt64) : Int32 × (S × (Nat → UInt64)) := match F with
  | .inl k => (cod k, (u0, o))
  | .inr a => (0, (a.2, vf_upd o 0 a.1))
theorem wrD_l {S : Type} {F : Int32 ⊕ (UInt64 × S)} {k : Int32} {cod : Int32 → Int32} {u0 : S} {o : Nat → UInt64} (h : F = .inl k) : wrD F cod u0 o = (cod k, (u0, o)) := by subst h; rfl
theorem wrD_r {S : Type} {F : Int32 ⊕ (UInt64 × S)} {a : UInt64} {u : S} {cod : Int32 → Int32} {u0 : S} {o : Nat → UInt64} (h : F = .inr (a, u)) : wrD F cod u0 o = (0, (u, vf_upd o 0 a)) := by subst h; rfl
section WRAP
variable {p : Program} {l : Launch} {e : Env} {R : Room} {s : State} {m : MethodId} {args : Array Value} {below : List Frame} {meth : Method} {c : Code} {H : Heap} {locs : List Loc} {cells slots : Nat} {Q : State → Prop}
variable {rest st0 : List Value} {D : va_G} {wc ws : va_W} {pc : Nat} {ls : Array Slot} {A : Nat → Prop} {a : Array Value}
theorem wr_calli {S : Type} {G : Int32 ⊕ (Int32 × S)} {wf wf2 : S → va_W} {mc1 ms1 : Nat} (hr : vx_Run p l e R s m args below meth c H locs cells slots mc1 ms1 (F0 m pc ls st0) rest (va_Qi (fun (r : Int32) (u : S) => G = .inr (r, u)) (fun u t => va_P D vwCl (wf u) t.heap) (muA wc) a) (vx_X (fun (k : Int32) => G = .inl k) (fun E k t => exE k E ∧ va_P D vwCl wc t.heap) (muA wc)) (muA wc))
    (hS : va_S A s.heap H locs) (hP : va_P D vwCl ws H) (hD : va_D A ws) (is : List Nat) (hs : is.map (fun i => ws[i]?) = wc.map some) (hadr : ∀ u, (wf u).map Prod.fst = wc.map Prod.fst) (hw2 : ∀ u, my_ups ws is (wf u) = wf2 u) (hw0 : my_ups ws is wc = ws)
    (kx : ∀ (k : Int32) (E : String) (ce : Cell) (q9 : Addr) (H1 : Heap) (locs1 : List Loc), G = .inl k → exE k E → va_P D vwCl ws H1 → va_S A s.heap H1 locs1 → H1[q9]? = some ce → ce.vm = .none → s.vm.findClass E = some ce.cls → vx_W p l e R s m args below meth c H1 locs1 (cells + mc1) (slots + ms1) Q (F0 m pc ls rest) q9)
    (kk : ∀ (r : Int32) (u : S) (H1 : Heap) (locs1 : List Loc), G = .inr (r, u) → va_P D vwCl (wf2 u) H1 → va_D A (wf2 u) → va_S A s.heap H1 locs1 → W p l e R s m args below meth c H1 locs1 (cells + mc1) (slots + ms1) Q (F0 m (pc + 3) ls (.int r :: rest))) : W p l e R s m args below meth c H locs cells slots Q (F0 m pc ls st0) := by
  refine vx_calli hr hS (fun q _ h => my_mu_in hD hs q h) (my_mu_in hD hs) (fun q _ h => my_mu_in hD hs q h) (fun E ce q9 u t H1 locs1 ht _ hp hb _ hk1 hS1 hce hv hcl => ?_) (fun r u t H1 locs1 ht _ hp hb _ hk1 hS1 => ?_)
  · have hb2 := hb.2
    rw [ht] at hb2
    exact kx u E ce q9 H1 locs1 hp hb.1 (hw0 ▸ my_ups_P hP hD hs rfl hk1 hb2) hS1 hce hv hcl
  · rw [ht] at hb
    exact kk r u H1 locs1 hp (hw2 u ▸ my_ups_P hP hD hs (hadr u) hk1 hb) (hw2 u ▸ my_ups_D hD hs (hadr u)) hS1
theorem wr_callf {S : Type} {G : Int32 ⊕ (UInt32 × S)} {wf wf2 : S → va_W} {mc1 ms1 : Nat} (hr : vx_Run p l e R s m args below meth c H locs cells slots mc1 ms1 (F0 m pc ls st0) rest (va_Qf (fun (r : UInt32) (u : S) => G = .inr (r, u)) (fun u t => va_P D vwCl (wf u) t.heap) (muA wc) a) (vx_X (fun (k : Int32) => G = .inl k) (fun E k t => exE k E ∧ va_P D vwCl wc t.heap) (muA wc)) (muA wc))
    (hS : va_S A s.heap H locs) (hP : va_P D vwCl ws H) (hD : va_D A ws) (is : List Nat) (hs : is.map (fun i => ws[i]?) = wc.map some) (hadr : ∀ u, (wf u).map Prod.fst = wc.map Prod.fst) (hw2 : ∀ u, my_ups ws is (wf u) = wf2 u) (hw0 : my_ups ws is wc = ws)
    (kx : ∀ (k : Int32) (E : String) (ce : Cell) (q9 : Addr) (H1 : Heap) (locs1 : List Loc), G = .inl k → exE k E → va_P D vwCl ws H1 → va_S A s.heap H1 locs1 → H1[q9]? = some ce → ce.vm = .none → s.vm.findClass E = some ce.cls → vx_W p l e R s m args below meth c H1 locs1 (cells + mc1) (slots + ms1) Q (F0 m pc ls rest) q9)
    (kk : ∀ (r : UInt32) (u : S) (H1 : Heap) (locs1 : List Loc), G = .inr (r, u) → va_P D vwCl (wf2 u) H1 → va_D A (wf2 u) → va_S A s.heap H1 locs1 → W p l e R s m args below meth c H1 locs1 (cells + mc1) (slots + ms1) Q (F0 m (pc + 3) ls (.float r :: rest))) : W p l e R s m args below meth c H locs cells slots Q (F0 m pc ls st0) := by
  refine vx_callf hr hS (fun q _ h => my_mu_in hD hs q h) (my_mu_in hD hs) (fun q _ h => my_mu_in hD hs q h) (fun E ce q9 u t H1 locs1 ht _ hp hb _ hk1 hS1 hce hv hcl => ?_) (fun r u t H1 locs1 ht _ hp hb _ hk1 hS1 => ?_)
  · have hb2 := hb.2
    rw [ht] at hb2
    exact kx u E ce q9 H1 locs1 hp hb.1 (hw0 ▸ my_ups_P hP hD hs rfl hk1 hb2) hS1 hce hv hcl
  · rw [ht] at hb
    exact kk r u H1 locs1 hp (hw2 u ▸ my_ups_P hP hD hs (hadr u) hk1 hb) (hw2 u ▸ my_ups_D hD hs (hadr u)) hS1
theorem wr_calld {S : Type} {G : Int32 ⊕ (UInt64 × S)} {wf wf2 : S → va_W} {mc1 ms1 : Nat} (hr : vx_Run p l e R s m args below meth c H locs cells slots mc1 ms1 (F0 m pc ls st0) rest (va_Qd (fun (r : UInt64) (u : S) => G = .inr (r, u)) (fun u t => va_P D vwCl (wf u) t.heap) (muA wc) a) (vx_X (fun (k : Int32) => G = .inl k) (fun E k t => exE k E ∧ va_P D vwCl wc t.heap) (muA wc)) (muA wc))
    (hS : va_S A s.heap H locs) (hP : va_P D vwCl ws H) (hD : va_D A ws) (is : List Nat) (hs : is.map (fun i => ws[i]?) = wc.map some) (hadr : ∀ u, (wf u).map Prod.fst = wc.map Prod.fst) (hw2 : ∀ u, my_ups ws is (wf u) = wf2 u) (hw0 : my_ups ws is wc = ws)
    (kx : ∀ (k : Int32) (E : String) (ce : Cell) (q9 : Addr) (H1 : Heap) (locs1 : List Loc), G = .inl k → exE k E → va_P D vwCl ws H1 → va_S A s.heap H1 locs1 → H1[q9]? = some ce → ce.vm = .none → s.vm.findClass E = some ce.cls → vx_W p l e R s m args below meth c H1 locs1 (cells + mc1) (slots + ms1) Q (F0 m pc ls rest) q9)
    (kk : ∀ (r : UInt64) (u : S) (H1 : Heap) (locs1 : List Loc), G = .inr (r, u) → va_P D vwCl (wf2 u) H1 → va_D A (wf2 u) → va_S A s.heap H1 locs1 → W p l e R s m args below meth c H1 locs1 (cells + mc1) (slots + ms1) Q (F0 m (pc + 3) ls (.double r :: rest))) : W p l e R s m args below meth c H locs cells slots Q (F0 m pc ls st0) := by
  refine vx_calld hr hS (fun q _ h => my_mu_in hD hs q h) (my_mu_in hD hs) (fun q _ h => my_mu_in hD hs q h) (fun E ce q9 u t H1 locs1 ht _ hp hb _ hk1 hS1 hce hv hcl => ?_) (fun r u t H1 locs1 ht _ hp hb _ hk1 hS1 => ?_)
  · have hb2 := hb.2
    rw [ht] at hb2
    exact kx u E ce q9 H1 locs1 hp hb.1 (hw0 ▸ my_ups_P hP hD hs rfl hk1 hb2) hS1 hce hv hcl
  · rw [ht] at hb
    exact kk r u H1 locs1 hp (hw2 u ▸ my_ups_P hP hD hs (hadr u) hk1 hb) (hw2 u ▸ my_ups_D hD hs (hadr u)) hS1
end WRAP
theorem wrap_e {α : Type} {a b c : α} (h : a = b) (h2 : b = c) : a = c := h.trans h2
set_option maxHeartbeats 1000000 in
set_option maxRecDepth 100000 in
theorem c_L_add (l : Launch) (hl0 : l.stackTraces = false) (D : va_G) (cy : Nat → ClassId) (g : Nat → Nat) (B : Nat) (p70 : Nat) (b7 : Nat → Nat) (c7 : Nat → Nat) (d7 : Nat → Nat) (e7 : Nat → Nat) (h7 : Nat → Nat) (k7 : Nat → Nat) (q : Nat → Nat → Nat) (st : Int32) (v : SetV) (z : (Int32 × Int32)) (s0 : SetV) (s1 : SetV) (s2 : SetV) (s3 : SetV) (x0 : Int32) (o : Nat) (out : Nat → Int64) (hk : ∀ k, f_X7_add st v z s0 s1 s2 s3 x0 = .inl k → k = 2 ∨ k = 3) : Met l yL_add wsL_add ({ frames := 9, cells := 1, slots := 6, locals := 154 }) (lwP D cy g B (List.flatten [(wPCo p70 b7 c7 d7 e7 h7 k7 st), (wSet cy b7 v), (wSav cy q h7 z), (wSet cy (q 0) s0), (wSet cy (q 1) s1), (wSet cy (q 2) s2), (wSet cy (q 3) s3), (wL cy o out)]) [.ref p70, .int x0, .ref o]) (va_Qi (fun (r : Int32) (u : (Int32 × SetV × (Int32 × Int32) × SetV × SetV × SetV × SetV) × (Nat → Int64)) => wrI (f_X7_add st v z s0 s1 s2 s3 x0) (fun f => if f = 2 then 1 else 2) (st, v, z, s0, s1, s2, s3) out = (r, u)) (fun u t => va_P D vwCl (List.flatten [(wPCo p70 b7 c7 d7 e7 h7 k7 u.1.1), (wSet cy b7 u.1.2.1), (wSav cy q h7 u.1.2.2.1), (wSet cy (q 0) u.1.2.2.2.1), (wSet cy (q 1) u.1.2.2.2.2.1), (wSet cy (q 2) u.1.2.2.2.2.2.1), (wSet cy (q 3) u.1.2.2.2.2.2.2), (wL cy o u.2)]) t.heap) (muA (List.flatten [(wPCo p70 b7 c7 d7 e7 h7 k7 st), (wSet cy b7 v), (wSav cy q h7 z), (wSet cy (q 0) s0), (wSet cy (q 1) s1), (wSet cy (q 2) s2), (wSet cy (q 3) s3), (wL cy o out)]))) 1 6 (muA (List.flatten [(wPCo p70 b7 c7 d7 e7 h7 k7 st), (wSet cy b7 v), (wSav cy q h7 z), (wSet cy (q 0) s0), (wSet cy (q 1) s1), (wSet cy (q 2) s2), (wSet cy (q 3) s3), (wL cy o out)])) := by
  refine va_MetW (cc := cL_add) (maxL := 4) (ret := some .int) (hh := [(0, 9, 12, 13), (0, 9, 15, 15)]) (by decide) rfl ?_
  intro p e s m args below meth c s₁ BB hml hv
  obtain ⟨rfl, ⟨hP, hK0, hD0⟩, hNc⟩ := hv
  have hx := BB.exec
  have hb := BB.bytes
  have hr := BB.returns
  have hts := atoms_spec (ws := wsL_add) BB.pre
  have hown : s.vm.findClass RL = some m.cls := findClass_of_methodNamed BB.named
  have hlocks := BB.notSynchronized
  have hT := vx_table BB (hts (.codeWith yL_add cL_add 4 (some .int) [(0, 9, 12, 13), (0, 9, 15, 15)]) List.mem_cons_self)
  have S := my_fix hx hb hml hown hts
  have hAB := muB hD0
  have hD := muD hD0
  generalize hAe : muA (List.flatten [(wPCo p70 b7 c7 d7 e7 h7 k7 st), (wSet cy b7 v), (wSav cy q h7 z), (wSet cy (q 0) s0), (wSet cy (q 1) s1), (wSet cy (q 2) s2), (wSet cy (q 3) s3), (wL cy o out)]) = A at hAB hD ⊢
  have hS : va_S A s.heap s.heap [] := va_S.rf
  have hl := lv_entry ([.ref p70, .int x0, .ref o]) (n := 4) (Nat.le_of_ble_eq_true rfl)
  rw [lg_entry_eq]
  generalize (lg_sl ([.ref p70, .int x0, .ref o]) ++ List.replicate (4 - (lg_sl ([.ref p70, .int x0, .ref o])).length) Slot.unset).toArray = ls at hl ⊢
  have hl : lv_has ls 4 [(0, .ref p70), (1, .int x0), (2, .ref o)] := hl
  refine lv_aload_n hx hb dL_add_0 rfl (lv_at hl 2 rfl) ?_
  refine lv_iconst (v := 0) hx hb dL_add_1 (by decide) ?_
  refine lv_aload_n hx hb dL_add_2 rfl (lv_at hl 0 rfl) ?_
  refine lv_iload_n hx hb dL_add_3 rfl (lv_at hl 1 rfl) ?_
  refine wr_calli (wf := fun u => (List.flatten [(wPCo p70 b7 c7 d7 e7 h7 k7 u.1), (wSet cy b7 u.2.1), (wSav cy q h7 u.2.2.1), (wSet cy (q 0) u.2.2.2.1), (wSet cy (q 1) u.2.2.2.2.1), (wSet cy (q 2) u.2.2.2.2.2.1), (wSet cy (q 3) u.2.2.2.2.2.2)])) (wf2 := fun u => (List.flatten [(wPCo p70 b7 c7 d7 e7 h7 k7 u.1), (wSet cy b7 u.2.1), (wSav cy q h7 u.2.2.1), (wSet cy (q 0) u.2.2.2.1), (wSet cy (q 1) u.2.2.2.2.1), (wSet cy (q 2) u.2.2.2.2.2.1), (wSet cy (q 3) u.2.2.2.2.2.2), (wL cy o out)])) (vx_runV (C := RX7) (As := [.int x0]) (rest := [.int 0, .ref o]) S (c_X7_add l hl0 D cy g B p70 b7 c7 d7 e7 h7 k7 q st v z s0 s1 s2 s3 x0) (cwV 1 hts gL_add_X7_add rfl rfl rfl hd_X7_add_V ⟨Nat.le_of_ble_eq_true rfl, Nat.le_of_ble_eq_true rfl⟩) ⟨muP_blind, va_recv hK0.1 hP (ci := 5) (q0 := 0) rfl rfl, my_preM hK0 hS hAB hP hD [0, 1, 2, 3, 4, 5, 6, 7, 8, 9, 10, 11, 12, 13, 14, 15, 16, 17, 18, 19, 20, 21, 22, 23, 24, 25, 26, 27, 28, 29, 30, 31, 32, 33, 34, 35, 36, 37, 38, 39, 40, 41, 42, 43, 44, 45, 46, 47] (by decide) rfl⟩ rfl rfl hl.1 rfl (lv_room (Nat.le_of_ble_eq_true rfl)) dL_add_4 ⟨Nat.le_of_ble_eq_true rfl, Nat.le_of_ble_eq_true rfl⟩) hS hP hD [0, 1, 2, 3, 4, 5, 6, 7, 8, 9, 10, 11, 12, 13, 14, 15, 16, 17, 18, 19, 20, 21, 22, 23, 24, 25, 26, 27, 28, 29, 30, 31, 32, 33, 34, 35, 36, 37, 38, 39, 40, 41, 42, 43, 44, 45, 46, 47] rfl (fun _ => rfl) (fun _ => rfl) rfl (fun k E ce q9 H locs hG hE hP hS hce hcv hcl => ?_) (fun r u H locs hG hP hD hS => ?_)
  · have hk9 := hk k hG
    rcases hk9 with rfl | rfl
    · have hE := exE_2 hE
      subst hE
      refine vx_catch hown [] ⟨0, 9, 12, 13⟩ [⟨0, 9, 15, 15⟩] hT (fun z hz => absurd hz List.not_mem_nil) rfl (by decide) (hts (.classLink RL 13 "java/lang/IllegalArgumentException") (by decide +kernel)) (va_Nw.use rfl hK0.2.1.2.2.2.2.1) hce hcv hcl ?_
      refine lv_astore_n (lv' := [(3, .ref q9), (0, .ref p70), (1, .int x0), (2, .ref o)]) hx hb dL_add_12 rfl hl (by decide) rfl (fun ls hl => ?_)
      refine lv_iconst (v := 1) hx hb dL_add_13 (by decide) ?_
      exact W.iret (v := 1) hx hb hr (fun t ht hW => ⟨⟨1, ((st, v, z, s0, s1, s2, s3), out), rfl, (wrap_e (wrI_l hG) rfl), by show va_P D vwCl _ t.heap; rw [ht]; exact hP⟩, hS.F ht⟩) hS.2.2 dL_add_14
    · have hE := exE_3 hE
      subst hE
      refine vx_catch hown [⟨0, 9, 12, 13⟩] ⟨0, 9, 15, 15⟩ [] hT (fun z hz => by rcases List.mem_singleton.mp hz with rfl; exact Or.inr ⟨by decide, _, (hts (.classLink RL 13 "java/lang/IllegalArgumentException") (by decide +kernel)), hNc.2.2⟩) rfl (by decide) (hts (.classLink RL 15 "java/lang/IllegalStateException") (by decide +kernel)) (va_Nw.use rfl hK0.2.1.2.2.2.2.2) hce hcv hcl ?_
      refine lv_astore_n (lv' := [(3, .ref q9), (0, .ref p70), (1, .int x0), (2, .ref o)]) hx hb dL_add_15 rfl hl (by decide) rfl (fun ls hl => ?_)
      refine lv_iconst (v := 2) hx hb dL_add_16 (by decide) ?_
      exact W.iret (v := 2) hx hb hr (fun t ht hW => ⟨⟨2, ((st, v, z, s0, s1, s2, s3), out), rfl, (wrap_e (wrI_l hG) rfl), by show va_P D vwCl _ t.heap; rw [ht]; exact hP⟩, hS.F ht⟩) hS.2.2 dL_add_17
  · refine lv_i2l (v := (Int32.toInt64 r)) hx hb dL_add_7 rfl ?_
    refine va_last hx hb hK0.1 hP hD hS 48 3 rfl rfl (i := 0) (x := (Int32.toInt64 r)) (show ¬ ((0 : Int32) < 0 ∨ 1 ≤ (0 : Int32).toNatClampNeg) by decide) dL_add_8 (fun H locs hP hD hS => ?_)
    have hP : va_P D vwCl (List.flatten [(wPCo p70 b7 c7 d7 e7 h7 k7 u.1), (wSet cy b7 u.2.1), (wSav cy q h7 u.2.2.1), (wSet cy (q 0) u.2.2.2.1), (wSet cy (q 1) u.2.2.2.2.1), (wSet cy (q 2) u.2.2.2.2.2.1), (wSet cy (q 3) u.2.2.2.2.2.2), (wL cy o (vp_updL out 0 (Int32.toInt64 r)))]) H := hP
    refine lv_goto (tgt := 18) hx hb dL_add_9 (by decide) ?_
    refine lv_iconst (v := 0) hx hb dL_add_18 (by decide) ?_
    exact W.iret (v := 0) hx hb hr (fun t ht hW => ⟨⟨0, (u, vp_updL out 0 (Int32.toInt64 r)), rfl, wrI_r hG, by show va_P D vwCl _ t.heap; rw [ht]; exact hP⟩, hS.F ht⟩) hS.2.2 dL_add_19
