/-! part 81 -/
section LAWR
variable {p : Program} {l : Launch} {e : Env} {R : Room} {s : State} {m : MethodId} {args : Array Value} {below : List Frame} {meth : Method} {c : Code} {H : Heap} {locs : List Loc} {cells slots : Nat} {Q : State → Prop}
variable {rest st0 : List Value} {D : va_G} {cy : Nat → ClassId} {g : Nat → Nat} {B : Nat} {wc ws : va_W} {pc : Nat} {ls : Array Slot} {A : Nat → Prop} {a : Array Value}
theorem lw_compi {S : Type} {post : Int32 → S → Prop} {Wl wcs : List va_W} {wf : S → va_W} {wns W2 : S → List va_W} {mc1 ms1 : Nat} (hr : va_Run p l e R s m args below meth c H locs cells slots mc1 ms1 (F0 m pc ls st0) rest (va_Qi post (fun u t => va_P D vwCl (wf u) t.heap) (muA wc) a) (muA wc))
    (hS : va_S A s.heap H locs) (hP : va_P D vwCl Wl.flatten H) (hD : va_D A Wl.flatten) (is : List Nat) (hs : is.map (fun i => Wl[i]?) = wcs.map some) (hwc : wcs.flatten = wc) (hwf : ∀ u, (wns u).flatten = wf u) (hadr : ∀ u, (wns u).map my_adrs = wcs.map my_adrs) (hw2 : ∀ u, my_ups Wl is (wns u) = W2 u)
    (kk : ∀ (r : Int32) (u : S) (H1 : Heap) (locs1 : List Loc), post r u → va_P D vwCl (W2 u).flatten H1 → va_D A (W2 u).flatten → va_S A s.heap H1 locs1 → W p l e R s m args below meth c H1 locs1 (cells + mc1) (slots + ms1) Q (F0 m (pc + 3) ls (.int r :: rest))) : W p l e R s m args below meth c H locs cells slots Q (F0 m pc ls st0) := by
  subst hwc
  refine va_calli hr hS (fun q _ h => my_cmu hD hs q h) (my_cmu hD hs) (fun r u t H1 locs1 ht _ hp hb _ hk1 hS1 => ?_)
  rw [ht, ← hwf u] at hb
  obtain ⟨h1, h2⟩ := my_upc_hyp hs (hadr u)
  refine kk r u H1 locs1 hp ?_ ?_ hS1
  · rw [← hw2 u]; exact my_upc_P hP hD hs h2 hk1 hb
  · rw [← hw2 u]; exact my_adrD (my_flat_adr (my_upc_adr _ _ _ h1)) hD
theorem lw_gol {S : Type} {post : Int64 → S → Prop} {Wl wcs : List va_W} {wf : S → va_W} {wns W2 : S → List va_W} (hr : va_Run p l e R s m args below meth c H locs cells slots 0 0 (F0 m pc ls st0) rest (va_Ql post (fun u t => va_P D vwCl (wf u) t.heap) (muA wc) a) (muA wc))
    (hS : va_S A s.heap H locs) (hP : va_P D vwCl Wl.flatten H) (hD : va_D A Wl.flatten) (is : List Nat) (hs : is.map (fun i => Wl[i]?) = wcs.map some) (hwc : wcs.flatten = wc) (hwf : ∀ u, (wns u).flatten = wf u) (hadr : ∀ u, (wns u).map my_adrs = wcs.map my_adrs) (hw2 : ∀ u, my_ups Wl is (wns u) = W2 u)
    (kk : ∀ (r : Int64) (u : S) (H1 : Heap) (locs1 : List Loc), post r u → va_P D vwCl (W2 u).flatten H1 → va_D A (W2 u).flatten → va_S A s.heap H1 locs1 → W p l e R s m args below meth c H1 locs1 cells slots Q (F0 m (pc + 3) ls (.long r :: rest))) : W p l e R s m args below meth c H locs cells slots Q (F0 m pc ls st0) := by
  subst hwc
  refine va_calll hr hS (fun q _ h => my_cmu hD hs q h) (my_cmu hD hs) (fun r u t H1 locs1 ht _ hp hb _ hk1 hS1 => ?_)
  rw [ht, ← hwf u] at hb
  obtain ⟨h1, h2⟩ := my_upc_hyp hs (hadr u)
  refine kk r u H1 locs1 hp ?_ ?_ hS1
  · rw [← hw2 u]; exact my_upc_P hP hD hs h2 hk1 hb
  · rw [← hw2 u]; exact my_adrD (my_flat_adr (my_upc_adr _ _ _ h1)) hD
theorem lw_god {S : Type} {post : UInt64 → S → Prop} {Wl wcs : List va_W} {wf : S → va_W} {wns W2 : S → List va_W} (hr : va_Run p l e R s m args below meth c H locs cells slots 0 0 (F0 m pc ls st0) rest (va_Qd post (fun u t => va_P D vwCl (wf u) t.heap) (muA wc) a) (muA wc))
    (hS : va_S A s.heap H locs) (hP : va_P D vwCl Wl.flatten H) (hD : va_D A Wl.flatten) (is : List Nat) (hs : is.map (fun i => Wl[i]?) = wcs.map some) (hwc : wcs.flatten = wc) (hwf : ∀ u, (wns u).flatten = wf u) (hadr : ∀ u, (wns u).map my_adrs = wcs.map my_adrs) (hw2 : ∀ u, my_ups Wl is (wns u) = W2 u)
    (kk : ∀ (r : UInt64) (u : S) (H1 : Heap) (locs1 : List Loc), post r u → va_P D vwCl (W2 u).flatten H1 → va_D A (W2 u).flatten → va_S A s.heap H1 locs1 → W p l e R s m args below meth c H1 locs1 cells slots Q (F0 m (pc + 3) ls (.double r :: rest))) : W p l e R s m args below meth c H locs cells slots Q (F0 m pc ls st0) := by
  subst hwc
  refine va_calld hr hS (fun q _ h => my_cmu hD hs q h) (my_cmu hD hs) (fun r u t H1 locs1 ht _ hp hb _ hk1 hS1 => ?_)
  rw [ht, ← hwf u] at hb
  obtain ⟨h1, h2⟩ := my_upc_hyp hs (hadr u)
  refine kk r u H1 locs1 hp ?_ ?_ hS1
  · rw [← hw2 u]; exact my_upc_P hP hD hs h2 hk1 hb
  · rw [← hw2 u]; exact my_adrD (my_flat_adr (my_upc_adr _ _ _ h1)) hD
theorem my_preL {Wl wcs : List va_W} {av : List Value} (hK0 : myK D cy g B s s.heap) (hNc : ncOK s) (hS : va_S A s.heap H locs) (hAB : ∀ q, A q → B ≤ q) (hP : va_P D vwCl Wl.flatten H) (hD : va_D A Wl.flatten) (is : List Nat) (hnd : va_nd is = true) (hs : is.map (fun i => Wl[i]?) = wcs.map some) (hwc : wcs.flatten = wc) : ∀ U : State, U.heap = H → s.WarmedH U.vm → lwP D cy g B wc av av.toArray U := by
  intro U hU hW
  have h := my_preC (av := av) hK0 hS hAB hP hD is hnd hs hwc U hU hW
  exact ⟨h.1, h.2, va_Nc.moved hW.alike hNc.1, va_Nc.moved hW.alike hNc.2.1, va_Nc.moved hW.alike hNc.2.2⟩
end LAWR
theorem GSf {s : Nat → Int32} (h : GS s) : (¬ 8 < s 0) ∧ (¬ s 0 < 0) ∧ (¬ 4 < s 2) ∧ ¬ s 2 < 0 := by
  obtain ⟨n, r, c, ⟨a1, a2, a3, a4⟩, _⟩ := h
  rw [a1, a3]
  exact ⟨Int32.not_lt.mpr (show nI n ≤ (8 : Int32) from nI_le (b := 8) a2 (by decide)), nI_pos (by omega), Int32.not_lt.mpr (show nI r ≤ (4 : Int32) from nI_le (b := 4) a4 (by decide)), nI_pos (by omega)⟩
theorem ringf {z : Int32 × Int32} {s0 s1 s2 s3 : SetV} {y0 : Int32} {y : Nat → Int32} (h : ring z s0 s1 s2 s3 y0 y) : (¬ y0 < 0) ∧ ¬ 4 < y0 := by
  obtain ⟨c, x, hc, _, _, rfl, _⟩ := h
  exact ⟨nI_pos (by omega), Int32.not_lt.mpr (show nI c ≤ (4 : Int32) from nI_le (b := 4) hc (by decide))⟩
theorem ringz {z : Int32 × Int32} {s0 s1 s2 s3 : SetV} {y0 : Int32} {y : Nat → Int32} (h : ring z s0 s1 s2 s3 y0 y) : z.1 = y0 := by
  obtain ⟨c, x, _, _, rfl, rfl, _⟩ := h
  rfl
theorem sumf {s : Nat → Int32} (h : GS s) : f_X8_weightOf s 255 < 2147483647 := by
  obtain ⟨n, r, c, hN, hL, hW, _⟩ := h
  have h1 := (wt_le hN hW 255).2
  have h2 := hN.2.1
  exact Int32.lt_iff_toInt_lt.mpr (by rw [show (2147483647 : Int32).toInt = 2147483647 by decide]; omega)
theorem share_d {st : Int32} {v : SetV} {w : PowV} {x : Int32} {r : UInt32} {u : Int32 × PowV} (h : f_X7_share st v w x = .inr (r, u)) : FP.dIsNaN (FP.f2d r) = false := by
  unfold f_X7_share at h
  by_cases b : rfBad (f_X6_faultOfMember v x)
  · rw [my_rf_no b] at h; cases h
  · rw [my_rf_ok b, my_l_eq] at h
    cases h
    exact my_f2d_nn (nn_X3_shareOf _ _)
theorem share_n {st : Int32} {v : SetV} {w : PowV} {x : Int32} {r : UInt32} {u : Int32 × PowV} (h : f_X7_share st v w x = .inr (r, u)) : vf_n64 (FP.f2d r) := my_n64 (share_d h)
theorem dcmp_self {x : UInt64} (h : FP.dIsNaN x = false) : Op.cmpValue (FP.dcmp x x) .l = 0 := by
  have h1 : FP.Core.val64 x ≠ .nan := (FP.Core.notNaN_iff x).mp h
  have h2 : FP.dcmp x x = some .eq := FP.Core.dcmp_eq.mpr ⟨h1, h1, rfl⟩
  rw [h2]; decide
