/-! part 89: rows of the law's walk -/
/-- a method of the law that makes new cells: its start -/
def lzP (D : va_G) (cy : Nat → ClassId) (g : Nat → Nat) (B : Nat) (wc : va_W) (av : List Value) (sz : Nat) : Array Value → State → Prop := va_Pc av (fun U => ((va_P D vwCl wc U.heap ∧ myK D cy g B U U.heap ∧ va_D (fun q => B ≤ q) wc) ∧ ncOK U) ∧ U.heap.size = sz)
theorem lzP_blind {D : va_G} {cy : Nat → ClassId} {g : Nat → Nat} {B : Nat} {wc : va_W} {av : List Value} {sz : Nat} : FrameBlind (lzP D cy g B wc av sz) := by
  intro a U g' mk h
  have h1 := lwP_blind (D := D) (cy := cy) (g := g) (B := B) (wc := wc) (av := av) a U g' mk ⟨h.1, h.2.1⟩
  exact ⟨h1.1, h1.2, h.2.2⟩
theorem va_A_mu {wc : va_W} {sz q : Nat} (h : q < sz) : va_A wc sz q → muA wc q := fun z => z.elim id (fun z2 => absurd h (Nat.not_lt.mpr z2))
section WKR
variable {p : Program} {l : Launch} {e : Env} {R : Room} {s : State} {m : MethodId} {args : Array Value} {below : List Frame} {meth : Method} {c : Code} {H : Heap} {locs : List Loc} {cells slots : Nat} {Q : State → Prop}
variable {rest st0 : List Value} {D : va_G} {cl : List vw_C} {tys : List (ClassId × FieldType)} {cy : Nat → ClassId} {g : Nat → Nat} {B : Nat} {wc ws : va_W} {pc : Nat} {ls : Array Slot} {A : Nat → Prop} {a : Array Value} {cc : ByteArray} {ad : Nat}
theorem wk_ti {x v : Int32} (h : x = v) (kk : W p l e R s m args below meth c H locs cells slots Q (F0 m pc ls (.int v :: rest))) : W p l e R s m args below meth c H locs cells slots Q (F0 m pc ls (.int x :: rest)) := by subst h; exact kk
theorem wk_td {x v : UInt64} (h : x = v) (kk : W p l e R s m args below meth c H locs cells slots Q (F0 m pc ls (.double v :: rest))) : W p l e R s m args below meth c H locs cells slots Q (F0 m pc ls (.double x :: rest)) := by subst h; exact kk
theorem wk_ia (hx : p.tables.exec = Jvm.exec) (hb : c.code = cc) (hK : va_K D cl tys s) (hP : va_P D cl ws H) (q0 t0 : Nat) {cA : ClassId} {n k : Nat} {f : Nat → Int32} {v : Int32} (ha : ws[q0]? = some (ad, .inl (cA, n, .inl f))) (ht : tys[t0]? = some (cA, .int)) (hk : k < n) (hn : n < 2 ^ 31) (hv : f k = v) (hdg : decode cc pc = .ok (.iaload, 1))
    (kk : W p l e R s m args below meth c H locs cells slots Q (F0 m (pc + 1) ls (.int v :: rest))) : W p l e R s m args below meth c H locs cells slots Q (F0 m pc ls (.int (nI k) :: .ref ad :: rest)) := by
  refine va_iald hx hb hK hP q0 t0 ha ht (vp_in_nI hk hn) hdg ?_
  rw [nI_clamp (show k < 2 ^ 31 by omega), hv]
  exact kk
theorem wk_ast {H0 : Heap} (hx : p.tables.exec = Jvm.exec) (hb : c.code = cc) (hK : va_K D cl tys s) (hP : va_P D cl ws H) (hD : va_D A ws) (hS : va_S A H0 H locs) (q0 t0 : Nat) {cA : ClassId} {n k : Nat} {f : Nat → Int32} {x : Int32} (ha : ws[q0]? = some (ad, .inl (cA, n, .inl f))) (ht : tys[t0]? = some (cA, .int)) (hk : k < n) (hn : n < 2 ^ 31) (hdg : decode cc pc = .ok (.iastore, 1))
    (kk : ∀ (H1 : Heap) (locs1 : List Loc), va_P D cl (ws.set q0 (ad, .inl (cA, n, .inl (upd f k x)))) H1 → va_D A (ws.set q0 (ad, .inl (cA, n, .inl (upd f k x)))) → va_S A H0 H1 locs1 → W p l e R s m args below meth c H1 locs1 cells slots Q (F0 m (pc + 1) ls rest)) : W p l e R s m args below meth c H locs cells slots Q (F0 m pc ls (.int x :: .int (nI k) :: .ref ad :: rest)) := by
  refine va_iast hx hb hK hP hD hS q0 t0 ha ht (vp_in_nI hk hn) hdg (fun H1 locs1 h1 h2 h3 => ?_)
  rw [nI_clamp (show k < 2 ^ 31 by omega)] at h1 h2
  exact kk H1 locs1 h1 h2 h3
theorem lw_compA {S : Type} {post : Int32 → S → Prop} {Wl wcs : List va_W} {wf : S → va_W} {wns W2 : S → List va_W} {mc1 ms1 : Nat} (hr : va_Run p l e R s m args below meth c H locs cells slots mc1 ms1 (F0 m pc ls st0) rest (va_Qi post (fun u t => va_P D vwCl (wf u) t.heap) (va_A wc H.size) a) (va_A wc H.size))
    (hS : va_S A s.heap H locs) (hA : ∀ q, s.heap.size ≤ q → A q) (hP : va_P D vwCl Wl.flatten H) (hD : va_D A Wl.flatten) (is : List Nat) (hs : is.map (fun i => Wl[i]?) = wcs.map some) (hwc : wcs.flatten = wc) (hwf : ∀ u, (wns u).flatten = wf u) (hadr : ∀ u, (wns u).map my_adrs = wcs.map my_adrs) (hw2 : ∀ u, my_ups Wl is (wns u) = W2 u)
    (kk : ∀ (r : Int32) (u : S) (H1 : Heap) (locs1 : List Loc), post r u → va_P D vwCl (W2 u).flatten H1 → va_D A (W2 u).flatten → va_S A s.heap H1 locs1 → W p l e R s m args below meth c H1 locs1 (cells + mc1) (slots + ms1) Q (F0 m (pc + 3) ls (.int r :: rest))) : W p l e R s m args below meth c H locs cells slots Q (F0 m pc ls st0) := by
  subst hwc
  have hf : ∀ q, va_A wcs.flatten H.size q → A q := by
    rintro q (h | h)
    · exact my_cmu hD hs q h
    · exact hA q (Nat.le_trans hS.1 h)
  refine va_calli hr hS (fun q _ h => hf q h) hf (fun r u t H1 locs1 ht _ hp hb _ hk1 hS1 => ?_)
  rw [ht, ← hwf u] at hb
  obtain ⟨h1, h2⟩ := my_upc_hyp hs (hadr u)
  refine kk r u H1 locs1 hp ?_ ?_ hS1
  · rw [← hw2 u]; exact my_upc_P hP hD hs h2 (fun q hq hn => hk1 q hq (fun z => hn (va_A_mu hq z))) hb
  · rw [← hw2 u]; exact my_adrD (my_flat_adr (my_upc_adr _ _ _ h1)) hD
/-- as lw_god, of a callee that may make cells -/
theorem lw_compd {S : Type} {post : UInt64 → S → Prop} {Wl wcs : List va_W} {wf : S → va_W} {wns W2 : S → List va_W} {mc1 ms1 : Nat} (hr : va_Run p l e R s m args below meth c H locs cells slots mc1 ms1 (F0 m pc ls st0) rest (va_Qd post (fun u t => va_P D vwCl (wf u) t.heap) (muA wc) a) (muA wc))
    (hS : va_S A s.heap H locs) (hP : va_P D vwCl Wl.flatten H) (hD : va_D A Wl.flatten) (is : List Nat) (hs : is.map (fun i => Wl[i]?) = wcs.map some) (hwc : wcs.flatten = wc) (hwf : ∀ u, (wns u).flatten = wf u) (hadr : ∀ u, (wns u).map my_adrs = wcs.map my_adrs) (hw2 : ∀ u, my_ups Wl is (wns u) = W2 u)
    (kk : ∀ (r : UInt64) (u : S) (H1 : Heap) (locs1 : List Loc), post r u → va_P D vwCl (W2 u).flatten H1 → va_D A (W2 u).flatten → va_S A s.heap H1 locs1 → W p l e R s m args below meth c H1 locs1 (cells + mc1) (slots + ms1) Q (F0 m (pc + 3) ls (.double r :: rest))) : W p l e R s m args below meth c H locs cells slots Q (F0 m pc ls st0) := by
  subst hwc
  refine va_calld hr hS (fun q _ h => my_cmu hD hs q h) (my_cmu hD hs) (fun r u t H1 locs1 ht _ hp hb _ hk1 hS1 => ?_)
  rw [ht, ← hwf u] at hb
  obtain ⟨h1, h2⟩ := my_upc_hyp hs (hadr u)
  refine kk r u H1 locs1 hp ?_ ?_ hS1
  · rw [← hw2 u]; exact my_upc_P hP hD hs h2 hk1 hb
  · rw [← hw2 u]; exact my_adrD (my_flat_adr (my_upc_adr _ _ _ h1)) hD
theorem my_preZ {Wl wcs : List va_W} {av : List Value} {sz : Nat} (hK0 : myK D cy g B s s.heap) (hNc : ncOK s) (hS : va_S A s.heap H locs) (hAB : ∀ q, A q → B ≤ q) (hP : va_P D vwCl Wl.flatten H) (hD : va_D A Wl.flatten) (is : List Nat) (hnd : va_nd is = true) (hs : is.map (fun i => Wl[i]?) = wcs.map some) (hwc : wcs.flatten = wc) (hsz : H.size = sz) : ∀ U : State, U.heap = H → s.WarmedH U.vm → lzP D cy g B wc av sz av.toArray U := by
  intro U hU hW
  have h := my_preL (av := av) hK0 hNc hS hAB hP hD is hnd hs hwc U hU hW
  exact ⟨h.1, h.2, by rw [hU]; exact hsz⟩
end WKR
