/-! part 10: what a setting, a power .. is; the facts of statics; rows of calls for methods that read, and that change cells in place -/
abbrev SetV : Type := Int32 × Int32 × Int32 × (Nat → Int32) × (Nat → Int32) × (Nat → Int32) × (Nat → Int32)
abbrev PowV : Type := Int32 × Int32 × Int32 × Int32 × Int32 × Int32 × (Nat → Int32) × (Nat → Int32) × (Nat → Int32) × (Nat → Int32) × (Nat → Int32) × (Nat → Int32) × (Nat → Int32)
abbrev tyv (cy : Nat → ClassId) : List (ClassId × FieldType) := [(cy 0, .int), (cy 1, .long), (cy 2, .object "PivotChamber$Setting")]
abbrev wRow (cy : Nat → ClassId) (a b n : Nat) (f : Nat → Int32) : va_W := [(a, .inr (2, [.ref b])), (b, .inl (cy 0, (n, .inl f)))]
abbrev wSetE (cy : Nat → ClassId) (a : Nat → Nat) (y0 : Int32) (y1 : Int32) (y2 : Int32) (y3 : Nat → Int32) (y4 : Nat → Int32) (y5 : Nat → Int32) (y6 : Nat → Int32) : va_W := [(a 0, .inr (4, [.int y0, .ref (a 1), .ref (a 3), .int y1, .int y2, .ref (a 5), .ref (a 7)])), (a 1, .inr (2, [.ref (a 2)])), (a 2, .inl (cy 0, (8, .inl y3))), (a 3, .inr (2, [.ref (a 4)])), (a 4, .inl (cy 0, (8, .inl y4))), (a 5, .inr (2, [.ref (a 6)])), (a 6, .inl (cy 0, (4, .inl y5))), (a 7, .inr (2, [.ref (a 8)])), (a 8, .inl (cy 0, (4, .inl y6)))]
abbrev wSet (cy : Nat → ClassId) (a : Nat → Nat) (v : SetV) : va_W := wSetE cy a v.1 v.2.1 v.2.2.1 v.2.2.2.1 v.2.2.2.2.1 v.2.2.2.2.2.1 v.2.2.2.2.2.2
abbrev wPowE (cy : Nat → ClassId) (a : Nat → Nat) (y0 : Int32) (y1 : Int32) (y2 : Int32) (y3 : Int32) (y4 : Int32) (y5 : Int32) (y6 : Nat → Int32) (y7 : Nat → Int32) (y8 : Nat → Int32) (y9 : Nat → Int32) (y10 : Nat → Int32) (y11 : Nat → Int32) (y12 : Nat → Int32) : va_W := [(a 0, .inr (1, [.int y0, .int y1, .ref (a 1), .ref (a 3), .int y2, .int y3, .int y4, .ref (a 5), .ref (a 7), .ref (a 9), .int y5, .ref (a 11), .ref (a 13)])), (a 1, .inr (2, [.ref (a 2)])), (a 2, .inl (cy 0, (256, .inl y6))), (a 3, .inr (2, [.ref (a 4)])), (a 4, .inl (cy 0, (256, .inl y7))), (a 5, .inr (2, [.ref (a 6)])), (a 6, .inl (cy 0, (256, .inl y8))), (a 7, .inr (2, [.ref (a 8)])), (a 8, .inl (cy 0, (8, .inl y9))), (a 9, .inr (2, [.ref (a 10)])), (a 10, .inl (cy 0, (8, .inl y10))), (a 11, .inr (2, [.ref (a 12)])), (a 12, .inl (cy 0, (402, .inl y11))), (a 13, .inr (2, [.ref (a 14)])), (a 14, .inl (cy 0, (402, .inl y12)))]
abbrev wPow (cy : Nat → ClassId) (a : Nat → Nat) (v : PowV) : va_W := wPowE cy a v.1 v.2.1 v.2.2.1 v.2.2.2.1 v.2.2.2.2.1 v.2.2.2.2.2.1 v.2.2.2.2.2.2.1 v.2.2.2.2.2.2.2.1 v.2.2.2.2.2.2.2.2.1 v.2.2.2.2.2.2.2.2.2.1 v.2.2.2.2.2.2.2.2.2.2.1 v.2.2.2.2.2.2.2.2.2.2.2.1 v.2.2.2.2.2.2.2.2.2.2.2.2
def nestF : List (String × Nat × String × String × String × String) := [("PivotChamber", 113, "PivotChamber$Power", "leastCount", "I", "PivotChamber"), ("PivotChamber", 117, "PivotChamber$Power", "leastSets", "LPivotChamber$Row;", "PivotChamber"), ("PivotChamber", 201, "PivotChamber$CommandText", "length", "I", "PivotChamber"), ("PivotChamber$Power", 47, "PivotChamber$Setting", "quota", "I", "PivotChamber")]
def nestM : List (String × Nat × MethodName × String) := [("PivotChamber", 18, ⟨"PivotChamber$Power", "<init>", "()V"⟩, "PivotChamber"), ("PivotChamber", 42, ⟨"PivotChamber$CommandText", "<init>", "()V"⟩, "PivotChamber"), ("PivotChamber", 9, ⟨"PivotChamber$Setting", "<init>", "()V"⟩, "PivotChamber"), ("PivotChamber$Power", 108, ⟨"PivotChamber", "factorial", "(I)I"⟩, "PivotChamber"), ("PivotChamber$Power", 114, ⟨"PivotChamber", "contains", "(II)Z"⟩, "PivotChamber"), ("PivotChamber$SavedSettings", 17, ⟨"PivotChamber$Setting", "<init>", "()V"⟩, "PivotChamber"), ("PivotChamber$Setting", 121, ⟨"PivotChamber", "contains", "(II)Z"⟩, "PivotChamber"), ("PivotChamber$Setting", 55, ⟨"PivotChamber", "faultOfRange", "(III)I"⟩, "PivotChamber")]
def nestOK (U : State) : Prop := (∀ q ∈ nestF, va_Nw (.fieldLinkNest q.1 q.2.1 q.2.2.1 q.2.2.2.1 q.2.2.2.2.1 q.2.2.2.2.2) U) ∧ ∀ q ∈ nestM, va_Nw (.methodLinkNest q.1 q.2.1 q.2.2.1 q.2.2.2) U
theorem nestOK.warm {s U : State} (hW : s.WarmedH U.vm) (h : nestOK s) : nestOK U := ⟨fun q hq => va_Nw.warmF hW (h.1 q hq), fun q hq => va_Nw.warmM hW (h.2 q hq)⟩
theorem nestOK.same {u U : State} (h : u.vm = U.vm) (hN : nestOK u) : nestOK U := ⟨fun q hq => va_Nw.same rfl h (hN.1 q hq), fun q hq => va_Nw.same rfl h (hN.2 q hq)⟩
theorem nestOK.f {U : State} (h : nestOK U) (k : Nat) {a b n d h' : String} {i : Nat} (hk : nestF[k]? = some (a, i, b, n, d, h')) : va_Nw (.fieldLinkNest a i b n d h') U := h.1 _ (List.mem_of_getElem? hk)
theorem nestOK.m {U : State} (h : nestOK U) (k : Nat) {a h' : String} {i : Nat} {y : MethodName} (hk : nestM[k]? = some (a, i, y, h')) : va_Nw (.methodLinkNest a i y h') U := h.2 _ (List.mem_of_getElem? hk)
def my_fac (j : Nat) : Int32 := ([1, 1, 2, 6, 24, 120, 720, 5040, 40320] : List Int32).getD j 0
def my_len : List Nat := [3, 6, 5, 6, 5, 4, 4]
def my_byt : List (List Int32) := [[97, 100, 100], [119, 101, 105, 103, 104, 116], [113, 117, 111, 116, 97], [102, 111, 108, 108, 111, 119], [108, 101, 97, 118, 101], [114, 117, 108, 101], [100, 114, 111, 112]]
def my_num : List Int32 := [1, 2, 1, 2, 1, 2, 1]
/-- statics that nobody writes: FACTORIALS at g 0, the switch map at g 1, the constants of Command at g (10 + i) -/
def my_st (g : Nat → Nat) (A : Nat → Prop) (U : State) (H : Heap) : Prop :=
  (va_Z "PivotChamber" "FACTORIALS" "[I" (.ref (g 0)) A U H ∧ va_T .int (g 0) 9 (fun j => .int (my_fac j)) A U H) ∧
  (va_Z "PivotChamber$1" "$SwitchMap$PivotChamber$Command" "[I" (.ref (g 1)) A U H ∧ va_T .int (g 1) 7 (fun j => .int (nI (j + 1))) A U H) ∧
  True ∧
  va_En "PivotChamber$Command" "LPivotChamber$Command;" ["ADD", "WEIGHT", "QUOTA", "FOLLOW", "LEAVE", "RULE", "DROP"] [("java/lang/Enum", "ordinal", "I", [0, 1, 2, 3, 4, 5, 6]), ("PivotChamber$Command", "numbers", "I", my_num)] (fun i => g (10 + i)) A U H ∧
  True ∧ True ∧ True ∧ True ∧
  vx_Zq Bundle.tN "UNASSIGNED_STACK" Bundle.steD A U H ∧ vx_Zq Bundle.tN "SUPPRESSED_SENTINEL" Bundle.listD A U H
/-- what a throw asks of the tables -/
def my_thr (U : State) : Prop := (va_Nw (.declares (Bundle.initS "java/lang/RuntimeException")) U ∧ va_Nw (.declares (Bundle.initS "java/lang/Exception")) U ∧ va_Nw (.declares (Bundle.initS Bundle.tN)) U) ∧ va_Nw (.castable "java/lang/IndexOutOfBoundsException" "java/lang/IndexOutOfBoundsException") U ∧ va_Nw (.castable "java/lang/IllegalArgumentException" "java/lang/IllegalArgumentException") U ∧ va_Nw (.castable "java/lang/IllegalStateException" "java/lang/IllegalStateException") U
theorem my_thr.warm {s U : State} (hW : s.WarmedH U.vm) (h : my_thr s) : my_thr U := ⟨⟨va_Nw.warmD hW h.1.1, va_Nw.warmD hW h.1.2.1, va_Nw.warmD hW h.1.2.2⟩, va_Nw.warmC hW h.2.1, va_Nw.warmC hW h.2.2.1, va_Nw.warmC hW h.2.2.2⟩
theorem my_thr.same {u U : State} (hv : u.vm = U.vm) (h : my_thr u) : my_thr U := ⟨⟨va_Nw.same rfl hv h.1.1, va_Nw.same rfl hv h.1.2.1, va_Nw.same rfl hv h.1.2.2⟩, va_Nw.same rfl hv h.2.1, va_Nw.same rfl hv h.2.2.1, va_Nw.same rfl hv h.2.2.2⟩
/-- the texts of the exceptions, at g 40, g 41, g 42 -/
def my_str (g : Nat → Nat) (U : State) : Prop := (vk_R "PivotChamber" 240 "there is no such member or rule" (g 40) U ∧ vk_R "PivotChamber" 247 "an argument is out of range" (g 41) U ∧ vk_R "PivotChamber" 252 "the chamber does not allow that now" (g 42) U) ∧ my_thr U
theorem my_str.warm {g : Nat → Nat} {s U : State} (hW : s.WarmedH U.vm) (h : my_str g s) : my_str g U := ⟨⟨vk_R.warm hW h.1.1, vk_R.warm hW h.1.2.1, vk_R.warm hW h.1.2.2⟩, my_thr.warm hW h.2⟩
theorem my_str.same {g : Nat → Nat} {u U : State} (hv : U.vm = u.vm) (h : my_str g u) : my_str g U := ⟨⟨vk_R.same hv h.1.1, vk_R.same hv h.1.2.1, vk_R.same hv h.1.2.2⟩, my_thr.same hv.symm h.2⟩
theorem my_st.moved {g : Nat → Nat} {A : Nat → Prop} {u U : State} {H : Heap} (hvm : u.vm.Alike U.vm) (h : my_st g A u H) : my_st g A U H := by
  obtain ⟨⟨a1, a2⟩, ⟨b1, b2⟩, _, d, _, _, _, _, x, y⟩ := h
  exact ⟨⟨va_Z.moved hvm a1, va_T.moved hvm a2⟩, ⟨va_Z.moved hvm b1, va_T.moved hvm b2⟩, trivial, va_En.moved hvm d, trivial, trivial, trivial, trivial, vx_Zq.moved hvm x, vx_Zq.moved hvm y⟩
theorem my_st.kept {g : Nat → Nat} {A : Nat → Prop} {U : State} {H H1 : Heap} (h : my_st g A U H) (hq : ∀ a : Nat, a < H.size → ¬ A a → H1[a]? = H[a]?) : my_st g A U H1 := by
  obtain ⟨⟨a1, a2⟩, ⟨b1, b2⟩, _, d, _, _, _, _, x, y⟩ := h
  exact ⟨⟨a1.kept hq, a2.kept hq⟩, ⟨b1.kept hq, b2.kept hq⟩, trivial, d.kept hq, trivial, trivial, trivial, trivial, x.kept hq, y.kept hq⟩
theorem my_st.narrow {g : Nat → Nat} {A C : Nat → Prop} {U : State} {H : Heap} (h : my_st g A U H) (hAB : ∀ q, C q → A q) : my_st g C U H := by
  obtain ⟨⟨a1, a2⟩, ⟨b1, b2⟩, _, d, _, _, _, _, x, y⟩ := h
  exact ⟨⟨a1.narrow hAB, a2.narrow hAB⟩, ⟨b1.narrow hAB, b2.narrow hAB⟩, trivial, d.narrow hAB, trivial, trivial, trivial, trivial, x.narrow hAB, y.narrow hAB⟩
/-- what every method of ours is told of the tables, at a heap H: kinds, links across the nest, statics; what lies below B is nobody's to write -/
def myK (D : va_G) (cy : Nat → ClassId) (g : Nat → Nat) (B : Nat) (U : State) (H : Heap) : Prop := va_K D vwCl (tyv cy) U ∧ (nestOK U ∧ my_str g U) ∧ my_st g (fun q => B ≤ q) U H
theorem myK.warm {D : va_G} {cy : Nat → ClassId} {g : Nat → Nat} {B : Nat} {s U : State} {H : Heap} (hW : s.WarmedH U.vm) (h : myK D cy g B s H) : myK D cy g B U H := ⟨h.1.moved hW.alike, ⟨h.2.1.1.warm hW, h.2.1.2.warm hW⟩, h.2.2.moved hW.alike⟩
theorem myK.at {D : va_G} {cy : Nat → ClassId} {g : Nat → Nat} {B : Nat} {s : State} {H : Heap} {A : Nat → Prop} {locs : List Loc} (h : myK D cy g B s s.heap) (hS : va_S A s.heap H locs) (hAB : ∀ q, A q → B ≤ q) : myK D cy g B s H := ⟨h.1, h.2.1, h.2.2.kept fun a h1 h2 => hS.2.1 a h1 fun h3 => h2 (hAB a h3)⟩
/-- a method that reads the cells wc and writes none: its start -/
def rdP (D : va_G) (cy : Nat → ClassId) (g : Nat → Nat) (B : Nat) (wc : va_W) (av : List Value) : Array Value → State → Prop := va_Pc av (fun U => va_P D vwCl wc U.heap ∧ myK D cy g B U U.heap)
theorem rdP_blind {D : va_G} {cy : Nat → ClassId} {g : Nat → Nat} {B : Nat} {wc : va_W} {av : List Value} : FrameBlind (rdP D cy g B wc av) := by
  intro a U g' mk h
  exact ⟨h.1, h.2.1, va_K.moved (u := U) (U := U.calling g' mk a) (Vm.Alike.refl U.vm) h.2.2.1, ⟨nestOK.same (u := U) (U := U.calling g' mk a) rfl h.2.2.2.1.1, my_str.same (u := U) (U := U.calling g' mk a) rfl h.2.2.2.1.2⟩, my_st.moved (u := U) (U := U.calling g' mk a) (Vm.Alike.refl U.vm) h.2.2.2.2⟩
/-- a method that changes the cells wc in place: its start, and the cells that it may write -/
def muA (wc : va_W) : Nat → Prop := fun q => ∃ (k : Nat) (e : va_E), wc[k]? = some (q, e)
def muP (D : va_G) (cy : Nat → ClassId) (g : Nat → Nat) (B : Nat) (wc : va_W) (av : List Value) : Array Value → State → Prop := va_Pc av (fun U => va_P D vwCl wc U.heap ∧ myK D cy g B U U.heap ∧ va_D (fun q => B ≤ q) wc)
theorem muP_blind {D : va_G} {cy : Nat → ClassId} {g : Nat → Nat} {B : Nat} {wc : va_W} {av : List Value} : FrameBlind (muP D cy g B wc av) := by
  intro a U g' mk h
  exact ⟨h.1, h.2.1, ⟨va_K.moved (u := U) (U := U.calling g' mk a) (Vm.Alike.refl U.vm) h.2.2.1.1, ⟨nestOK.same (u := U) (U := U.calling g' mk a) rfl h.2.2.1.2.1.1, my_str.same (u := U) (U := U.calling g' mk a) rfl h.2.2.1.2.1.2⟩, my_st.moved (u := U) (U := U.calling g' mk a) (Vm.Alike.refl U.vm) h.2.2.1.2.2⟩, h.2.2.2⟩
theorem muD {B : Nat} {wc : va_W} (h : va_D (fun q => B ≤ q) wc) : va_D (muA wc) wc := ⟨h.1, fun k q hk => ⟨k, q.2, hk⟩⟩
theorem muB {B : Nat} {wc : va_W} (h : va_D (fun q => B ≤ q) wc) : ∀ q, muA wc q → B ≤ q := fun _ ⟨k, _, hk⟩ => h.2 k _ hk
/-- a world with some of its cells changed -/
def my_ups {α : Type} : List α → List Nat → List α → List α
  | ws, i :: is, q :: wn => my_ups (ws.set i q) is wn
  | ws, [], _ => ws
  | ws, _ :: _, [] => ws
theorem my_ups_get {α : Type} : ∀ (is : List Nat) (ws wn : List α) (k : Nat) (q : α), is.length = wn.length → (my_ups ws is wn)[k]? = some q → (∃ j : Nat, is[j]? = some k ∧ wn[j]? = some q) ∨ (k ∉ is ∧ ws[k]? = some q)
  | [], ws, wn, k, q, _, h => Or.inr ⟨List.not_mem_nil, by simpa [my_ups] using h⟩
  | i :: is, ws, [], k, q, hl, h => by simp at hl
  | i :: is, ws, q0 :: wn, k, q, hl, h => by
    have hl2 : is.length = wn.length := by simpa using hl
    rcases my_ups_get is (ws.set i q0) wn k q hl2 h with ⟨j, h1, h2⟩ | ⟨h1, h2⟩
    · exact Or.inl ⟨j + 1, by simpa using h1, by simpa using h2⟩
    · by_cases hk : k = i
      · subst hk
        have hlt : k < ws.length := by
          have := (List.getElem?_eq_some_iff.mp h2).1
          simpa using this
        rw [List.getElem?_set_self hlt] at h2
        exact Or.inl ⟨0, rfl, h2⟩
      · rw [List.getElem?_set_ne (Ne.symm hk)] at h2
        exact Or.inr ⟨fun h3 => (List.mem_cons.mp h3).elim hk h1, h2⟩
theorem my_map_at {is : List Nat} {ws w : va_W} (hs : is.map (fun i => ws[i]?) = w.map some) (k : Nat) (q : Nat × va_E) (hq : w[k]? = some q) : ∃ i, is[k]? = some i ∧ ws[i]? = some q := by
  have h1 : (is.map (fun i => ws[i]?))[k]? = some (some q) := by rw [hs, List.getElem?_map, hq]; rfl
  rw [List.getElem?_map] at h1
  cases hi : is[k]? with
  | none => rw [hi] at h1; cases h1
  | some i => rw [hi] at h1; exact ⟨i, rfl, Option.some.inj h1⟩
theorem my_map_back {is : List Nat} {ws w : va_W} (hs : is.map (fun i => ws[i]?) = w.map some) (k i : Nat) (hi : is[k]? = some i) : ∃ q, w[k]? = some q ∧ ws[i]? = some q := by
  have h1 : (w.map some)[k]? = some (ws[i]?) := by rw [← hs, List.getElem?_map, hi]; rfl
  rw [List.getElem?_map] at h1
  cases hw : w[k]? with
  | none => rw [hw] at h1; cases h1
  | some q => rw [hw] at h1; exact ⟨q, rfl, (Option.some.inj h1).symm⟩
theorem my_adr {wn wc : va_W} (hadr : wn.map Prod.fst = wc.map Prod.fst) (j : Nat) (q q0 : Nat × va_E) (h : wn[j]? = some q) (h0 : wc[j]? = some q0) : q0.1 = q.1 := by
  have h1 : (wn.map Prod.fst)[j]? = some q.1 := by rw [List.getElem?_map, h]; rfl
  rw [hadr, List.getElem?_map, h0] at h1
  exact Option.some.inj h1
theorem my_ups_adr {A : Nat → Prop} {ws wc wn : va_W} {is : List Nat} (hs : is.map (fun i => ws[i]?) = wc.map some) (hadr : wn.map Prod.fst = wc.map Prod.fst) (k : Nat) (q : Nat × va_E) (h : (my_ups ws is wn)[k]? = some q) : ∃ q0, ws[k]? = some q0 ∧ q0.1 = q.1 := by
  have hl : is.length = wn.length := by
    have h1 := congrArg List.length hs
    have h2 := congrArg List.length hadr
    simp only [List.length_map] at h1 h2
    omega
  rcases my_ups_get is ws wn k q hl h with ⟨j, h1, h2⟩ | ⟨-, h2⟩
  · obtain ⟨q0, h3, h4⟩ := my_map_back hs j k h1
    exact ⟨q0, h4, my_adr hadr j q q0 h2 h3⟩
  · exact ⟨q, h2, rfl⟩
theorem my_ups_D {A : Nat → Prop} {ws wc wn : va_W} {is : List Nat} (hD : va_D A ws) (hs : is.map (fun i => ws[i]?) = wc.map some) (hadr : wn.map Prod.fst = wc.map Prod.fst) : va_D A (my_ups ws is wn) := by
  refine ⟨fun i j x y hi hj hxy => ?_, fun k q hk => ?_⟩
  · obtain ⟨x0, h1, h2⟩ := my_ups_adr (A := A) hs hadr i x hi
    obtain ⟨y0, h3, h4⟩ := my_ups_adr (A := A) hs hadr j y hj
    exact hD.1 i j x0 y0 h1 h3 (h2.trans (hxy.trans h4.symm))
  · obtain ⟨q0, h1, h2⟩ := my_ups_adr (A := A) hs hadr k q hk
    rw [← h2]
    exact hD.2 k q0 h1
theorem my_ups_P {D : va_G} {cl : List vw_C} {A : Nat → Prop} {ws wc wn : va_W} {is : List Nat} {H H1 : Heap} (hP : va_P D cl ws H) (hD : va_D A ws) (hs : is.map (fun i => ws[i]?) = wc.map some) (hadr : wn.map Prod.fst = wc.map Prod.fst) (hk : ∀ q : Nat, q < H.size → ¬ muA wc q → H1[q]? = H[q]?) (hP1 : va_P D cl wn H1) : va_P D cl (my_ups ws is wn) H1 := by
  have hl : is.length = wn.length := by
    have h1 := congrArg List.length hs
    have h2 := congrArg List.length hadr
    simp only [List.length_map] at h1 h2
    omega
  intro k q h
  rcases my_ups_get is ws wn k q hl h with ⟨j, h1, h2⟩ | ⟨h1, h2⟩
  · exact hP1 j q h2
  · refine (hP k q h2).kept (hk q.1 (hP k q h2).lt fun hm => ?_)
    obtain ⟨j, e, h3⟩ := hm
    obtain ⟨i, h4, h5⟩ := my_map_at hs j (q.1, e) h3
    have hki := hD.1 k i q (q.1, e) h2 h5 rfl
    subst hki
    exact h1 (List.mem_of_getElem? h4)
theorem my_mu_in {A : Nat → Prop} {ws wc : va_W} {is : List Nat} (hD : va_D A ws) (hs : is.map (fun i => ws[i]?) = wc.map some) : ∀ q, muA wc q → A q := by
  intro q ⟨j, e, h3⟩
  obtain ⟨i, h4, h5⟩ := my_map_at hs j (q, e) h3
  exact hD.2 i (q, e) h5
/-! worlds out of components -/
def my_adrs (w : va_W) : List Nat := w.map Prod.fst
theorem my_adrD {A : Nat → Prop} {ws ws' : va_W} (h : my_adrs ws' = my_adrs ws) (hD : va_D A ws) : va_D A ws' := by
  have key : ∀ (k : Nat) (q : Nat × va_E), ws'[k]? = some q → ∃ q0, ws[k]? = some q0 ∧ q0.1 = q.1 := by
    intro k q hk
    have h1 : (my_adrs ws)[k]? = some q.1 := by rw [← h, my_adrs, List.getElem?_map, hk]; rfl
    rw [my_adrs, List.getElem?_map] at h1
    cases hw : ws[k]? with
    | none => rw [hw] at h1; cases h1
    | some q0 => rw [hw] at h1; exact ⟨q0, rfl, Option.some.inj h1⟩
  refine ⟨fun i j x y hi hj hxy => ?_, fun k q hk => ?_⟩
  · obtain ⟨x0, h1, h2⟩ := key i x hi
    obtain ⟨y0, h3, h4⟩ := key j y hj
    exact hD.1 i j x0 y0 h1 h3 (h2.trans (hxy.trans h4.symm))
  · obtain ⟨q0, h1, h2⟩ := key k q hk
    rw [← h2]
    exact hD.2 k q0 h1
theorem my_P_mem {D : va_G} {cl : List vw_C} {ws : va_W} {H : Heap} : va_P D cl ws H ↔ ∀ q ∈ ws, va_at D cl q H := by
  constructor
  · intro h q hq
    obtain ⟨k, hk⟩ := List.getElem?_of_mem hq
    exact h k q hk
  · intro h k q hk
    exact h q (List.mem_of_getElem? hk)
theorem my_mu_mem {wc : va_W} {q : Nat} : muA wc q ↔ ∃ e, (q, e) ∈ wc := by
  constructor
  · rintro ⟨k, e, h⟩
    exact ⟨e, List.mem_of_getElem? h⟩
  · rintro ⟨e, h⟩
    obtain ⟨k, hk⟩ := List.getElem?_of_mem h
    exact ⟨k, e, hk⟩
theorem my_pair {A : Nat → Prop} {ws : va_W} (hD : va_D A ws) : ws.Pairwise (fun p q => p.1 ≠ q.1) := by
  rw [List.pairwise_iff_getElem]
  intro i j hi hj hij h
  have := hD.1 i j ws[i] ws[j] (List.getElem?_eq_getElem hi) (List.getElem?_eq_getElem hj) h
  omega
/-- one component of a world -/
theorem my_cP {D : va_G} {cl : List vw_C} {W : List va_W} {H : Heap} (hP : va_P D cl W.flatten H) (k : Nat) {w : va_W} (h : W[k]? = some w) : va_P D cl w H :=
  my_P_mem.mpr fun q hq => my_P_mem.mp hP q (List.mem_flatten.mpr ⟨w, List.mem_of_getElem? h, hq⟩)
theorem my_map_c {W ws : List va_W} {is : List Nat} (hs : is.map (fun i => W[i]?) = ws.map some) (w : va_W) (hw : w ∈ ws) : ∃ i, i ∈ is ∧ W[i]? = some w := by
  obtain ⟨k, hk⟩ := List.getElem?_of_mem hw
  have h1 : (is.map (fun i => W[i]?))[k]? = some (some w) := by rw [hs, List.getElem?_map, hk]; rfl
  rw [List.getElem?_map] at h1
  cases hi : is[k]? with
  | none => rw [hi] at h1; cases h1
  | some i => rw [hi] at h1; exact ⟨i, List.mem_of_getElem? hi, Option.some.inj h1⟩
theorem my_csP {D : va_G} {cl : List vw_C} {W ws : List va_W} {H : Heap} (hP : va_P D cl W.flatten H) (is : List Nat) (hs : is.map (fun i => W[i]?) = ws.map some) : va_P D cl ws.flatten H := by
  refine my_P_mem.mpr fun q hq => ?_
  obtain ⟨w, hw, hq2⟩ := List.mem_flatten.mp hq
  obtain ⟨i, -, hi⟩ := my_map_c hs w hw
  exact my_P_mem.mp hP q (List.mem_flatten.mpr ⟨w, List.mem_of_getElem? hi, hq2⟩)
theorem my_set_same {α : Type} {l : List α} {i : Nat} {x : α} (h : l[i]? = some x) : l.set i x = l := by
  apply List.ext_getElem?
  intro k
  by_cases hk : i = k
  · subst hk
    rw [List.getElem?_set_self (List.getElem?_eq_some_iff.mp h).1, h]
  · rw [List.getElem?_set_ne hk]
theorem my_upc_adr : ∀ (is : List Nat) (W wns : List va_W), (∀ (j i : Nat) (w : va_W), is[j]? = some i → wns[j]? = some w → (W.map my_adrs)[i]? = some (my_adrs w)) → (my_ups W is wns).map my_adrs = W.map my_adrs
  | [], W, wns, _ => by simp [my_ups]
  | i :: is, W, [], _ => by simp [my_ups]
  | i :: is, W, q :: wns, h => by
    have h0 := h 0 i q rfl rfl
    have e : (W.set i q).map my_adrs = W.map my_adrs := by rw [List.map_set]; exact my_set_same h0
    show (my_ups (W.set i q) is wns).map my_adrs = _
    rw [my_upc_adr is (W.set i q) wns (fun j i' w h1 h2 => by rw [e]; exact h (j + 1) i' w (by simpa using h1) (by simpa using h2)), e]
theorem my_flat_adr {W W' : List va_W} (h : W'.map my_adrs = W.map my_adrs) : my_adrs W'.flatten = my_adrs W.flatten := by
  show (W'.flatten).map Prod.fst = (W.flatten).map Prod.fst
  rw [List.map_flatten, List.map_flatten]
  exact congrArg List.flatten h
/-- some components changed in place, by a callee -/
theorem my_upc_P {D : va_G} {cl : List vw_C} {A : Nat → Prop} {W wcs wns : List va_W} {is : List Nat} {H H1 : Heap} (hP : va_P D cl W.flatten H) (hD : va_D A W.flatten) (hs : is.map (fun i => W[i]?) = wcs.map some) (hl : is.length = wns.length) (hk : ∀ q : Nat, q < H.size → ¬ muA wcs.flatten q → H1[q]? = H[q]?) (hP1 : va_P D cl wns.flatten H1) : va_P D cl (my_ups W is wns).flatten H1 := by
  have hpw := List.pairwise_flatten.mp (my_pair hD)
  refine my_P_mem.mpr fun q hq => ?_
  obtain ⟨w, hw, hq2⟩ := List.mem_flatten.mp hq
  obtain ⟨k, hkw⟩ := List.getElem?_of_mem hw
  rcases my_ups_get is W wns k w hl hkw with ⟨j, -, h2⟩ | ⟨h1, h2⟩
  · exact my_P_mem.mp hP1 q (List.mem_flatten.mpr ⟨w, List.mem_of_getElem? h2, hq2⟩)
  · have hat := my_P_mem.mp hP q (List.mem_flatten.mpr ⟨w, List.mem_of_getElem? h2, hq2⟩)
    refine hat.kept (hk q.1 hat.lt fun hm => ?_)
    obtain ⟨e, he⟩ := my_mu_mem.mp hm
    obtain ⟨w2, hw2, he2⟩ := List.mem_flatten.mp he
    obtain ⟨i, hi, hiw⟩ := my_map_c hs w2 hw2
    have hne : k ≠ i := fun z => h1 (z ▸ hi)
    have hpk := List.pairwise_iff_getElem.mp hpw.2
    have lk := (List.getElem?_eq_some_iff.mp h2)
    have li := (List.getElem?_eq_some_iff.mp hiw)
    obtain ⟨lk1, lk2⟩ := lk
    obtain ⟨li1, li2⟩ := li
    rcases Nat.lt_or_gt_of_ne hne with hlt | hgt
    · exact hpk k i lk1 li1 hlt q (by rw [lk2]; exact hq2) (q.1, e) (by rw [li2]; exact he2) rfl
    · exact hpk i k li1 lk1 hgt (q.1, e) (by rw [li2]; exact he2) q (by rw [lk2]; exact hq2) rfl
theorem my_cmu {A : Nat → Prop} {W wcs : List va_W} {is : List Nat} (hD : va_D A W.flatten) (hs : is.map (fun i => W[i]?) = wcs.map some) : ∀ q, muA wcs.flatten q → A q := by
  intro q hq
  obtain ⟨e, he⟩ := my_mu_mem.mp hq
  obtain ⟨w, hw, he2⟩ := List.mem_flatten.mp he
  obtain ⟨i, -, hi⟩ := my_map_c hs w hw
  obtain ⟨k, hk⟩ := List.getElem?_of_mem (List.mem_flatten.mpr ⟨w, List.mem_of_getElem? hi, he2⟩)
  exact hD.2 k _ hk
theorem my_upc_hyp {W wcs wns : List va_W} {is : List Nat} (hs : is.map (fun i => W[i]?) = wcs.map some) (hadr : wns.map my_adrs = wcs.map my_adrs) : (∀ (j i : Nat) (w : va_W), is[j]? = some i → wns[j]? = some w → (W.map my_adrs)[i]? = some (my_adrs w)) ∧ is.length = wns.length := by
  have hl : is.length = wns.length := by
    have h1 := congrArg List.length hs
    have h2 := congrArg List.length hadr
    simp only [List.length_map] at h1 h2
    omega
  refine ⟨fun j i w h1 h2 => ?_, hl⟩
  have h3 : (wns.map my_adrs)[j]? = some (my_adrs w) := by rw [List.getElem?_map, h2]; rfl
  rw [hadr, List.getElem?_map] at h3
  have h4 : (wcs.map some)[j]? = some (W[i]?) := by rw [← hs, List.getElem?_map, h1]; rfl
  rw [List.getElem?_map] at h4
  cases hc : wcs[j]? with
  | none => rw [hc] at h3; cases h3
  | some w0 =>
    rw [hc] at h3 h4
    have h5 := Option.some.inj h4
    rw [List.getElem?_map, ← h5]
    exact h3
theorem adrSetE (cy : Nat → ClassId) (a : Nat → Nat) (y0 y1 y2 : Int32) (y3 y4 y5 y6 : Nat → Int32) : my_adrs (wSetE cy a y0 y1 y2 y3 y4 y5 y6) = [a 0, a 1, a 2, a 3, a 4, a 5, a 6, a 7, a 8] := rfl
theorem adrSet (cy : Nat → ClassId) (a : Nat → Nat) (v : SetV) : my_adrs (wSet cy a v) = [a 0, a 1, a 2, a 3, a 4, a 5, a 6, a 7, a 8] := rfl
theorem adrPowE (cy : Nat → ClassId) (a : Nat → Nat) (y0 y1 y2 y3 y4 y5 : Int32) (y6 y7 y8 y9 y10 y11 y12 : Nat → Int32) : my_adrs (wPowE cy a y0 y1 y2 y3 y4 y5 y6 y7 y8 y9 y10 y11 y12) = [a 0, a 1, a 2, a 3, a 4, a 5, a 6, a 7, a 8, a 9, a 10, a 11, a 12, a 13, a 14] := rfl
theorem adrPow (cy : Nat → ClassId) (a : Nat → Nat) (v : PowV) : my_adrs (wPow cy a v) = [a 0, a 1, a 2, a 3, a 4, a 5, a 6, a 7, a 8, a 9, a 10, a 11, a 12, a 13, a 14] := rfl
abbrev TxtV : Type := Int32 × Int32 × Int32 × Int32 × Nat × (Nat → Int32)
/-- the members of Command by their places; 7 is none -/
def cmdV (g : Nat → Nat) (c : Nat) : Value := if c < 7 then .ref (g (10 + c)) else .null
theorem cmdV_ref {g : Nat → Nat} {c : Nat} (h : c < 7) : cmdV g c = .ref (g (10 + c)) := if_pos h
theorem cmdV_null {g : Nat → Nat} {c : Nat} (h : ¬ c < 7) : cmdV g c = .null := if_neg h
abbrev wTxtE (cy : Nat → ClassId) (g : Nat → Nat) (a : Nat → Nat) (y0 y1 y2 y3 : Int32) (y4 : Nat) (y5 : Nat → Int32) : va_W := [(a 0, .inr (0, [.ref (a 1), .int y0, .int y1, cmdV g y4, .int y2, .int y3])), (a 1, .inr (2, [.ref (a 2)])), (a 2, .inl (cy 0, (150, .inl y5)))]
abbrev wTxt (cy : Nat → ClassId) (g : Nat → Nat) (a : Nat → Nat) (v : TxtV) : va_W := wTxtE cy g a v.1 v.2.1 v.2.2.1 v.2.2.2.1 v.2.2.2.2.1 v.2.2.2.2.2
theorem adrTxtE (cy : Nat → ClassId) (g : Nat → Nat) (a : Nat → Nat) (y0 y1 y2 y3 : Int32) (y4 : Nat) (y5 : Nat → Int32) : my_adrs (wTxtE cy g a y0 y1 y2 y3 y4 y5) = [a 0, a 1, a 2] := rfl
theorem adrTxt (cy : Nat → ClassId) (g : Nat → Nat) (a : Nat → Nat) (v : TxtV) : my_adrs (wTxt cy g a v) = [a 0, a 1, a 2] := rfl
abbrev wSavE (cy : Nat → ClassId) (q : Nat → Nat → Nat) (a : Nat → Nat) (y0 y1 : Int32) : va_W := [(a 0, .inr (3, [.ref (a 1), .int y0, .int y1])), (a 1, .inl (cy 2, (4, .inr (.inr (.inr (.inr (fun j => some (q j 0))))))))]
abbrev wSav (cy : Nat → ClassId) (q : Nat → Nat → Nat) (a : Nat → Nat) (v : Int32 × Int32) : va_W := wSavE cy q a v.1 v.2
theorem adrSavE (cy : Nat → ClassId) (q : Nat → Nat → Nat) (a : Nat → Nat) (y0 y1 : Int32) : my_adrs (wSavE cy q a y0 y1) = [a 0, a 1] := rfl
theorem adrSav (cy : Nat → ClassId) (q : Nat → Nat → Nat) (a : Nat → Nat) (v : Int32 × Int32) : my_adrs (wSav cy q a v) = [a 0, a 1] := rfl
abbrev wPCo (p0 : Nat) (b c d e h k : Nat → Nat) (st : Int32) : va_W := [(p0, .inr (5, [.ref (b 0), .ref (c 0), .int st, .ref (d 0), .ref (e 0), .ref (h 0), .ref (k 0)]))]
theorem adrPCo (p0 : Nat) (b c d e h k : Nat → Nat) (st : Int32) : my_adrs (wPCo p0 b c d e h k st) = [p0] := rfl
/-- the law's own arrays -/
abbrev wI (cy : Nat → ClassId) (o n : Nat) (f : Nat → Int32) : va_W := [(o, .inl (cy 0, (n, .inl f)))]
abbrev wL (cy : Nat → ClassId) (o n : Nat) (f : Nat → Int64) : va_W := [(o, .inl (cy 1, (n, .inr (.inl f))))]
theorem adrI (cy : Nat → ClassId) (o n : Nat) (f : Nat → Int32) : my_adrs (wI cy o n f) = [o] := rfl
theorem adrL (cy : Nat → ClassId) (o n : Nat) (f : Nat → Int64) : my_adrs (wL cy o n f) = [o] := rfl
theorem wSet_mk (cy : Nat → ClassId) (a : Nat → Nat) (y0 : Int32) (y1 : Int32) (y2 : Int32) (y3 : Nat → Int32) (y4 : Nat → Int32) (y5 : Nat → Int32) (y6 : Nat → Int32) : wSet cy a (y0, y1, y2, y3, y4, y5, y6) = wSetE cy a y0 y1 y2 y3 y4 y5 y6 := rfl
theorem wPow_mk (cy : Nat → ClassId) (a : Nat → Nat) (y0 : Int32) (y1 : Int32) (y2 : Int32) (y3 : Int32) (y4 : Int32) (y5 : Int32) (y6 : Nat → Int32) (y7 : Nat → Int32) (y8 : Nat → Int32) (y9 : Nat → Int32) (y10 : Nat → Int32) (y11 : Nat → Int32) (y12 : Nat → Int32) : wPow cy a (y0, y1, y2, y3, y4, y5, y6, y7, y8, y9, y10, y11, y12) = wPowE cy a y0 y1 y2 y3 y4 y5 y6 y7 y8 y9 y10 y11 y12 := rfl
theorem wTxt_mk (cy : Nat → ClassId) (g : Nat → Nat) (a : Nat → Nat) (y0 : Int32) (y1 : Int32) (y2 : Int32) (y3 : Int32) (y4 : Nat) (y5 : Nat → Int32) : wTxt cy g a (y0, y1, y2, y3, y4, y5) = wTxtE cy g a y0 y1 y2 y3 y4 y5 := rfl
theorem wSav_mk (cy : Nat → ClassId) (q : Nat → Nat → Nat) (a : Nat → Nat) (y0 : Int32) (y1 : Int32) : wSav cy q a (y0, y1) = wSavE cy q a y0 y1 := rfl
section MYC
variable {p : Program} {l : Launch} {e : Env} {R : Room} {s : State} {m : MethodId} {args : Array Value} {below : List Frame} {meth : Method} {c : Code} {H : Heap} {locs : List Loc} {cells slots : Nat} {Q : State → Prop}
variable {y : MethodName} {bytes cc : ByteArray} {maxL nL n index : Nat} {ret : Option FieldType} {wsY : List Cond} {rm : Room} {Ts : List Cond} {own C host : String} {b : Addr} {As rest st0 : List Value}
variable {D : va_G} {cy : Nat → ClassId} {g : Nat → Nat} {B : Nat} {wc ws : va_W} {pc : Nat} {ls : Array Slot} {A : Nat → Prop} {a : Array Value}
/-- what is asked of a callee that reads: its cells are among the caller's -/
theorem my_preV {av : List Value} (hK0 : myK D cy g B s s.heap) (hS : va_S A s.heap H locs) (hAB : ∀ q, A q → B ≤ q) (hP : va_P D vwCl ws H) (is : List Nat) (hs : is.filterMap (fun i => ws[i]?) = wc) : ∀ U : State, U.heap = H → s.WarmedH U.vm → rdP D cy g B wc av av.toArray U := by
  intro U hU hW
  refine ⟨rfl, ?_, ?_⟩
  · rw [hU]; exact hP.sub is hs
  · rw [hU]; exact (hK0.at hS hAB).warm hW
theorem my_preM {av : List Value} (hK0 : myK D cy g B s s.heap) (hS : va_S A s.heap H locs) (hAB : ∀ q, A q → B ≤ q) (hP : va_P D vwCl ws H) (hD : va_D A ws) (is : List Nat) (hnd : va_nd is = true) (hs : is.map (fun i => ws[i]?) = wc.map some) : ∀ U : State, U.heap = H → s.WarmedH U.vm → muP D cy g B wc av av.toArray U := by
  intro U hU hW
  refine ⟨rfl, ?_, ?_, (hD.sub is hnd hs).weaken fun _ _ _ h => hAB _ h⟩
  · rw [hU]
    intro k q hk
    obtain ⟨i, -, h2⟩ := my_map_at hs k q hk
    exact hP i q h2
  · rw [hU]; exact (hK0.at hS hAB).warm hW
theorem rd_goi {v : Int32} (hr : va_Run p l e R s m args below meth c H locs cells slots 0 0 (F0 m pc ls st0) rest (vp_Si (fun r => r = v) a) (fun _ => False))
    (kk : W p l e R s m args below meth c H locs cells slots Q (F0 m (pc + 3) ls (.int v :: rest))) : W p l e R s m args below meth c H locs cells slots Q (F0 m pc ls st0) := by
  intro T hT X
  obtain ⟨w, st₀, t, T', L, h0, X', hL, e1, -, ⟨r, hv, hp, hh⟩, st⟩ := hr T hT X
  cases hv
  subst hp
  obtain ⟨t2, a1, b1⟩ := kk T' (by rw [e1, hh, h0]) (Stand.forget X' (fun q h => (hL q h).elim))
  exact ⟨t2, st t2 a1, b1⟩
theorem rd_gol {v : Int64} (hr : va_Run p l e R s m args below meth c H locs cells slots 0 0 (F0 m pc ls st0) rest (vp_Sl (fun r => r = v) a) (fun _ => False))
    (kk : W p l e R s m args below meth c H locs cells slots Q (F0 m (pc + 3) ls (.long v :: rest))) : W p l e R s m args below meth c H locs cells slots Q (F0 m pc ls st0) := by
  intro T hT X
  obtain ⟨w, st₀, t, T', L, h0, X', hL, e1, -, ⟨r, hv, hp, hh⟩, st⟩ := hr T hT X
  cases hv
  subst hp
  obtain ⟨t2, a1, b1⟩ := kk T' (by rw [e1, hh, h0]) (Stand.forget X' (fun q h => (hL q h).elim))
  exact ⟨t2, st t2 a1, b1⟩
theorem rd_gof {v : UInt32} (hr : va_Run p l e R s m args below meth c H locs cells slots 0 0 (F0 m pc ls st0) rest (vp_Sf (fun r => r = v) a) (fun _ => False))
    (kk : W p l e R s m args below meth c H locs cells slots Q (F0 m (pc + 3) ls (.float v :: rest))) : W p l e R s m args below meth c H locs cells slots Q (F0 m pc ls st0) := by
  intro T hT X
  obtain ⟨w, st₀, t, T', L, h0, X', hL, e1, -, ⟨r, hv, hp, hh⟩, st⟩ := hr T hT X
  cases hv
  subst hp
  obtain ⟨t2, a1, b1⟩ := kk T' (by rw [e1, hh, h0]) (Stand.forget X' (fun q h => (hL q h).elim))
  exact ⟨t2, st t2 a1, b1⟩
theorem rd_god {v : UInt64} (hr : va_Run p l e R s m args below meth c H locs cells slots 0 0 (F0 m pc ls st0) rest (vp_Sd (fun r => r = v) a) (fun _ => False))
    (kk : W p l e R s m args below meth c H locs cells slots Q (F0 m (pc + 3) ls (.double v :: rest))) : W p l e R s m args below meth c H locs cells slots Q (F0 m pc ls st0) := by
  intro T hT X
  obtain ⟨w, st₀, t, T', L, h0, X', hL, e1, -, ⟨r, hv, hp, hh⟩, st⟩ := hr T hT X
  cases hv
  subst hp
  obtain ⟨t2, a1, b1⟩ := kk T' (by rw [e1, hh, h0]) (Stand.forget X' (fun q h => (hL q h).elim))
  exact ⟨t2, st t2 a1, b1⟩
theorem mu_goi {S : Type} {post : Int32 → S → Prop} {wf wf2 : S → va_W} (hr : va_Run p l e R s m args below meth c H locs cells slots 0 0 (F0 m pc ls st0) rest (va_Qi post (fun u t => va_P D vwCl (wf u) t.heap) (muA wc) a) (muA wc))
    (hS : va_S A s.heap H locs) (hP : va_P D vwCl ws H) (hD : va_D A ws) (is : List Nat) (hs : is.map (fun i => ws[i]?) = wc.map some) (hadr : ∀ u, (wf u).map Prod.fst = wc.map Prod.fst) (hw2 : ∀ u, my_ups ws is (wf u) = wf2 u)
    (kk : ∀ (r : Int32) (u : S) (H1 : Heap) (locs1 : List Loc), post r u → va_P D vwCl (wf2 u) H1 → va_D A (wf2 u) → va_S A s.heap H1 locs1 → W p l e R s m args below meth c H1 locs1 cells slots Q (F0 m (pc + 3) ls (.int r :: rest))) : W p l e R s m args below meth c H locs cells slots Q (F0 m pc ls st0) := by
  refine va_calli hr hS (fun q _ h => my_mu_in hD hs q h) (my_mu_in hD hs) (fun r u t H1 locs1 ht _ hp hb _ hk1 hS1 => ?_)
  rw [ht] at hb
  exact kk r u H1 locs1 hp (hw2 u ▸ my_ups_P hP hD hs (hadr u) hk1 hb) (hw2 u ▸ my_ups_D hD hs (hadr u)) hS1
theorem mu_gov {S : Type} {post : S → Prop} {wf wf2 : S → va_W} (hr : va_Run p l e R s m args below meth c H locs cells slots 0 0 (F0 m pc ls st0) rest (va_Qv post (fun u t => va_P D vwCl (wf u) t.heap) (muA wc) a) (muA wc))
    (hS : va_S A s.heap H locs) (hP : va_P D vwCl ws H) (hD : va_D A ws) (is : List Nat) (hs : is.map (fun i => ws[i]?) = wc.map some) (hadr : ∀ u, (wf u).map Prod.fst = wc.map Prod.fst) (hw2 : ∀ u, my_ups ws is (wf u) = wf2 u)
    (kk : ∀ (u : S) (H1 : Heap) (locs1 : List Loc), post u → va_P D vwCl (wf2 u) H1 → va_D A (wf2 u) → va_S A s.heap H1 locs1 → W p l e R s m args below meth c H1 locs1 cells slots Q (F0 m (pc + 3) ls rest)) : W p l e R s m args below meth c H locs cells slots Q (F0 m pc ls st0) := by
  refine va_callv hr hS (fun q _ h => my_mu_in hD hs q h) (my_mu_in hD hs) (fun u t H1 locs1 ht _ hp hb _ hk1 hS1 => ?_)
  rw [ht] at hb
  exact kk u H1 locs1 hp (hw2 u ▸ my_ups_P hP hD hs (hadr u) hk1 hb) (hw2 u ▸ my_ups_D hD hs (hadr u)) hS1
theorem mu_row {r0 r1 n : Nat} {f F : Nat → Int32} {w2 : va_W} (hr : va_Run p l e R s m args below meth c H locs cells slots 0 0 (F0 m pc ls st0) rest (va_Qv (fun u => F = u) (fun u t => va_P D vwCl (wRow cy r0 r1 n u) t.heap) (muA (wRow cy r0 r1 n f)) a) (muA (wRow cy r0 r1 n f)))
    (hS : va_S A s.heap H locs) (hP : va_P D vwCl ws H) (hD : va_D A ws) (is : List Nat) (hs : is.map (fun i => ws[i]?) = (wRow cy r0 r1 n f).map some) (hw2 : my_ups ws is (wRow cy r0 r1 n F) = w2)
    (kk : ∀ (H1 : Heap) (locs1 : List Loc), va_P D vwCl w2 H1 → va_D A w2 → va_S A s.heap H1 locs1 → W p l e R s m args below meth c H1 locs1 cells slots Q (F0 m (pc + 3) ls rest)) : W p l e R s m args below meth c H locs cells slots Q (F0 m pc ls st0) := by
  refine va_callv hr hS (fun q _ h => my_mu_in hD hs q h) (my_mu_in hD hs) (fun u t H1 locs1 ht _ hp hb _ hk1 hS1 => ?_)
  rw [ht] at hb
  subst hp
  have hadr : (wRow cy r0 r1 n F).map Prod.fst = (wRow cy r0 r1 n f).map Prod.fst := rfl
  exact kk H1 locs1 (hw2 ▸ my_ups_P hP hD hs hadr hk1 hb) (hw2 ▸ my_ups_D hD hs hadr) hS1
theorem mu_row2 {r0 r1 q0 q1 n : Nat} {f F h : Nat → Int32} {w2 : va_W} (hr : va_Run p l e R s m args below meth c H locs cells slots 0 0 (F0 m pc ls st0) rest (va_Qv (fun u => F = u) (fun u t => va_P D vwCl (List.flatten [wRow cy r0 r1 n u, wRow cy q0 q1 n h]) t.heap) (muA (List.flatten [wRow cy r0 r1 n f, wRow cy q0 q1 n h])) a) (muA (List.flatten [wRow cy r0 r1 n f, wRow cy q0 q1 n h])))
    (hS : va_S A s.heap H locs) (hP : va_P D vwCl ws H) (hD : va_D A ws) (is : List Nat) (hs : is.map (fun i => ws[i]?) = (List.flatten [wRow cy r0 r1 n f, wRow cy q0 q1 n h]).map some) (hw2 : my_ups ws is (List.flatten [wRow cy r0 r1 n F, wRow cy q0 q1 n h]) = w2)
    (kk : ∀ (H1 : Heap) (locs1 : List Loc), va_P D vwCl w2 H1 → va_D A w2 → va_S A s.heap H1 locs1 → W p l e R s m args below meth c H1 locs1 cells slots Q (F0 m (pc + 3) ls rest)) : W p l e R s m args below meth c H locs cells slots Q (F0 m pc ls st0) := by
  refine va_callv hr hS (fun q _ h => my_mu_in hD hs q h) (my_mu_in hD hs) (fun u t H1 locs1 ht _ hp hb _ hk1 hS1 => ?_)
  rw [ht] at hb
  subst hp
  have hadr : (List.flatten [wRow cy r0 r1 n F, wRow cy q0 q1 n h]).map Prod.fst = (List.flatten [wRow cy r0 r1 n f, wRow cy q0 q1 n h]).map Prod.fst := rfl
  exact kk H1 locs1 (hw2 ▸ my_ups_P hP hD hs hadr hk1 hb) (hw2 ▸ my_ups_D hD hs hadr) hS1
/-- an answer that is one value, known ahead -/
def my_Qr {S : Type} (rv : Value) (post : S → Prop) (B : S → State → Prop) (A : Nat → Prop) : Array Value → State → Outcome → State → Prop := fun _ st oc t => (∃ u : S, oc = .returned (some rv) ∧ post u ∧ B u t) ∧ va_F A st t
def my_Sr (rv : Value) : Array Value → State → Outcome → State → Prop := fun _ st oc t => oc = .returned (some rv) ∧ t.heap = st.heap
theorem rd_gor {v : Value} (hr : va_Run p l e R s m args below meth c H locs cells slots 0 0 (F0 m pc ls st0) rest (my_Sr v a) (fun _ => False))
    (kk : W p l e R s m args below meth c H locs cells slots Q (F0 m (pc + 3) ls (v :: rest))) : W p l e R s m args below meth c H locs cells slots Q (F0 m pc ls st0) := by
  intro T hT X
  obtain ⟨w, st₀, t, T', L, h0, X', hL, e1, -, ⟨hv, hh⟩, st⟩ := hr T hT X
  cases hv
  obtain ⟨t2, a1, b1⟩ := kk T' (by rw [e1, hh, h0]) (Stand.forget X' (fun q h => (hL q h).elim))
  exact ⟨t2, st t2 a1, b1⟩
theorem my_callr {S : Type} {rv : Value} {post : S → Prop} {BB : S → State → Prop} {A1 A0 : Nat → Prop} {H0 : Heap} {mc ms : Nat} {free : Addr → Prop} (hr : va_Run p l e R s m args below meth c H locs cells slots mc ms (F0 m pc ls st0) rest (my_Qr rv post BB A1 a) free) (hS : va_S A0 H0 H locs) (hA : ∀ q, q < H.size → A1 q → A0 q) (hf : ∀ q, free q → A0 q)
    (kk : ∀ (u : S) (t : State) (H1 : Heap) (locs1 : List Loc), t.heap = H1 → s.vm.Alike t.vm → post u → BB u t → H.size ≤ H1.size → (∀ q : Nat, q < H.size → ¬ A1 q → H1[q]? = H[q]?) → va_S A0 H0 H1 locs1 → W p l e R s m args below meth c H1 locs1 (cells + mc) (slots + ms) Q (F0 m (pc + 3) ls (rv :: rest))) : W p l e R s m args below meth c H locs cells slots Q (F0 m pc ls st0) := by
  intro T hT X
  obtain ⟨v, st₀, t, T', L, h0, X', hL, e1, e2, ⟨⟨u, hv, hp, hb⟩, hz, hk⟩, st⟩ := hr T hT X
  cases hv
  rw [h0] at hz hk
  obtain ⟨t2, a1, b1⟩ := kk u t T'.heap (locs ++ L) e1.symm (by rw [← e2]; exact X'.warmed.alike) hp hb (by rw [e1]; exact hz) (fun q h1 h2 => by rw [e1]; exact hk q h1 h2)
    ⟨Nat.le_trans hS.1 (by rw [e1]; exact hz), fun q h1 h2 => by rw [e1, hk q (Nat.lt_of_lt_of_le h1 hS.1) (fun z => h2 (hA q (Nat.lt_of_lt_of_le h1 hS.1) z))]; exact hS.2.1 q h1 h2, fun q hq => by
      rcases List.mem_append.mp hq with h | h
      · exact hS.2.2 q h
      · exact hf _ (hL q h)⟩ T' rfl X'
  exact ⟨t2, st t2 a1, b1⟩
theorem mu_allr {S : Type} {rv : Value} {post : S → Prop} {wf : S → va_W} (hr : va_Run p l e R s m args below meth c H locs cells slots 0 0 (F0 m pc ls st0) rest (my_Qr rv post (fun u t => va_P D vwCl (wf u) t.heap) (muA ws) a) (muA ws))
    (hS : va_S A s.heap H locs) (hD : va_D A ws) (hadr : ∀ u, my_adrs (wf u) = my_adrs ws)
    (kk : ∀ (u : S) (H1 : Heap) (locs1 : List Loc), post u → va_P D vwCl (wf u) H1 → va_D A (wf u) → va_S A s.heap H1 locs1 → W p l e R s m args below meth c H1 locs1 cells slots Q (F0 m (pc + 3) ls (rv :: rest))) : W p l e R s m args below meth c H locs cells slots Q (F0 m pc ls st0) := by
  refine my_callr hr hS (fun q _ ⟨k, e, h⟩ => hD.2 k _ h) (fun q ⟨k, e, h⟩ => hD.2 k _ h) (fun u t H1 locs1 ht _ hp hb _ hk1 hS1 => ?_)
  rw [ht] at hb
  exact kk u H1 locs1 hp hb (my_adrD (hadr u) hD) hS1
theorem mu_compr {S : Type} {rv : Value} {post : S → Prop} {Wl wcs : List va_W} {wf : S → va_W} {wns W2 : S → List va_W} (hr : va_Run p l e R s m args below meth c H locs cells slots 0 0 (F0 m pc ls st0) rest (my_Qr rv post (fun u t => va_P D vwCl (wf u) t.heap) (muA wc) a) (muA wc))
    (hS : va_S A s.heap H locs) (hP : va_P D vwCl Wl.flatten H) (hD : va_D A Wl.flatten) (is : List Nat) (hs : is.map (fun i => Wl[i]?) = wcs.map some) (hwc : wcs.flatten = wc) (hwf : ∀ u, (wns u).flatten = wf u) (hadr : ∀ u, (wns u).map my_adrs = wcs.map my_adrs) (hw2 : ∀ u, my_ups Wl is (wns u) = W2 u)
    (kk : ∀ (u : S) (H1 : Heap) (locs1 : List Loc), post u → va_P D vwCl (W2 u).flatten H1 → va_D A (W2 u).flatten → va_S A s.heap H1 locs1 → W p l e R s m args below meth c H1 locs1 cells slots Q (F0 m (pc + 3) ls (rv :: rest))) : W p l e R s m args below meth c H locs cells slots Q (F0 m pc ls st0) := by
  subst hwc
  refine my_callr hr hS (fun q _ h => my_cmu hD hs q h) (my_cmu hD hs) (fun u t H1 locs1 ht _ hp hb _ hk1 hS1 => ?_)
  rw [ht, ← hwf u] at hb
  obtain ⟨h1, h2⟩ := my_upc_hyp hs (hadr u)
  refine kk u H1 locs1 hp ?_ ?_ hS1
  · rw [← hw2 u]; exact my_upc_P hP hD hs h2 hk1 hb
  · rw [← hw2 u]; exact my_adrD (my_flat_adr (my_upc_adr _ _ _ h1)) hD
/-- a callee whose world is the caller's -/
theorem my_preP {av : List Value} (hK0 : myK D cy g B s s.heap) (hS : va_S A s.heap H locs) (hAB : ∀ q, A q → B ≤ q) (hPc : va_P D vwCl wc H) : ∀ U : State, U.heap = H → s.WarmedH U.vm → rdP D cy g B wc av av.toArray U := by
  intro U hU hW
  exact ⟨rfl, by rw [hU]; exact hPc, by rw [hU]; exact (hK0.at hS hAB).warm hW⟩
theorem my_preA {av : List Value} (hK0 : myK D cy g B s s.heap) (hS : va_S A s.heap H locs) (hAB : ∀ q, A q → B ≤ q) (hP : va_P D vwCl ws H) (hD : va_D A ws) : ∀ U : State, U.heap = H → s.WarmedH U.vm → muP D cy g B ws av av.toArray U := by
  intro U hU hW
  exact ⟨rfl, by rw [hU]; exact hP, by rw [hU]; exact (hK0.at hS hAB).warm hW, hD.weaken fun _ _ _ h => hAB _ h⟩
theorem my_preC {Wl wcs : List va_W} {av : List Value} (hK0 : myK D cy g B s s.heap) (hS : va_S A s.heap H locs) (hAB : ∀ q, A q → B ≤ q) (hP : va_P D vwCl Wl.flatten H) (hD : va_D A Wl.flatten) (is : List Nat) (hnd : va_nd is = true) (hs : is.map (fun i => Wl[i]?) = wcs.map some) (hwc : wcs.flatten = wc) : ∀ U : State, U.heap = H → s.WarmedH U.vm → muP D cy g B wc av av.toArray U := by
  subst hwc
  intro U hU hW
  refine ⟨rfl, by rw [hU]; exact my_csP hP is hs, by rw [hU]; exact (hK0.at hS hAB).warm hW, ?_, ?_⟩
  · have hpw := List.pairwise_flatten.mp (my_pair hD)
    have hpk := List.pairwise_iff_getElem.mp hpw.2
    have hp : wcs.flatten.Pairwise (fun p q => p.1 ≠ q.1) := by
      refine List.pairwise_flatten.mpr ⟨fun w hw => ?_, ?_⟩
      · obtain ⟨i, -, hi⟩ := my_map_c hs w hw
        exact hpw.1 w (List.mem_of_getElem? hi)
      · rw [List.pairwise_iff_getElem]
        intro j1 j2 h1 h2 hlt x hx y hy
        have hat : ∀ (j : Nat) (hj : j < wcs.length), ∃ i, is[j]? = some i ∧ Wl[i]? = some wcs[j] := by
          intro j hj
          have h1 : (is.map (fun i => Wl[i]?))[j]? = some (some wcs[j]) := by rw [hs, List.getElem?_map, List.getElem?_eq_getElem hj]; rfl
          rw [List.getElem?_map] at h1
          cases hi : is[j]? with
          | none => rw [hi] at h1; cases h1
          | some i => rw [hi] at h1; exact ⟨i, rfl, Option.some.inj h1⟩
        obtain ⟨i1, a1, b1⟩ := hat j1 h1
        obtain ⟨i2, a2, b2⟩ := hat j2 h2
        have hne : i1 ≠ i2 := fun z => by
          subst z
          have := va_nd_inj is hnd j1 j2 i1 a1 a2
          omega
        obtain ⟨l1, e1⟩ := List.getElem?_eq_some_iff.mp b1
        obtain ⟨l2, e2⟩ := List.getElem?_eq_some_iff.mp b2
        rcases Nat.lt_or_gt_of_ne hne with hl | hg
        · exact hpk i1 i2 l1 l2 hl x (by rw [e1]; exact hx) y (by rw [e2]; exact hy)
        · exact fun z => hpk i2 i1 l2 l1 hg y (by rw [e2]; exact hy) x (by rw [e1]; exact hx) z.symm
    intro i j x y hi hj hxy
    have hpp := List.pairwise_iff_getElem.mp hp
    obtain ⟨l1, e1⟩ := List.getElem?_eq_some_iff.mp hi
    obtain ⟨l2, e2⟩ := List.getElem?_eq_some_iff.mp hj
    rcases Nat.lt_trichotomy i j with h | h | h
    · exact absurd (by rw [e1, e2]; exact hxy) (hpp i j l1 l2 h)
    · exact h
    · exact absurd (by rw [e1, e2]; exact hxy.symm) (hpp j i l2 l1 h)
  · intro k q hk
    obtain ⟨w, hw, hq⟩ := List.mem_flatten.mp (List.mem_of_getElem? hk)
    obtain ⟨i, -, hi⟩ := my_map_c hs w hw
    obtain ⟨k2, hk2⟩ := List.getElem?_of_mem (List.mem_flatten.mpr ⟨w, List.mem_of_getElem? hi, hq⟩)
    exact hAB _ (hD.2 k2 _ hk2)
theorem mu_alli {S : Type} {post : Int32 → S → Prop} {wf : S → va_W} (hr : va_Run p l e R s m args below meth c H locs cells slots 0 0 (F0 m pc ls st0) rest (va_Qi post (fun u t => va_P D vwCl (wf u) t.heap) (muA ws) a) (muA ws))
    (hS : va_S A s.heap H locs) (hD : va_D A ws) (hadr : ∀ u, my_adrs (wf u) = my_adrs ws)
    (kk : ∀ (r : Int32) (u : S) (H1 : Heap) (locs1 : List Loc), post r u → va_P D vwCl (wf u) H1 → va_D A (wf u) → va_S A s.heap H1 locs1 → W p l e R s m args below meth c H1 locs1 cells slots Q (F0 m (pc + 3) ls (.int r :: rest))) : W p l e R s m args below meth c H locs cells slots Q (F0 m pc ls st0) := by
  refine va_calli hr hS (fun q _ ⟨k, e, h⟩ => hD.2 k _ h) (fun q ⟨k, e, h⟩ => hD.2 k _ h) (fun r u t H1 locs1 ht _ hp hb _ hk1 hS1 => ?_)
  rw [ht] at hb
  exact kk r u H1 locs1 hp hb (my_adrD (hadr u) hD) hS1
theorem mu_allv {S : Type} {post : S → Prop} {wf : S → va_W} (hr : va_Run p l e R s m args below meth c H locs cells slots 0 0 (F0 m pc ls st0) rest (va_Qv post (fun u t => va_P D vwCl (wf u) t.heap) (muA ws) a) (muA ws))
    (hS : va_S A s.heap H locs) (hD : va_D A ws) (hadr : ∀ u, my_adrs (wf u) = my_adrs ws)
    (kk : ∀ (u : S) (H1 : Heap) (locs1 : List Loc), post u → va_P D vwCl (wf u) H1 → va_D A (wf u) → va_S A s.heap H1 locs1 → W p l e R s m args below meth c H1 locs1 cells slots Q (F0 m (pc + 3) ls rest)) : W p l e R s m args below meth c H locs cells slots Q (F0 m pc ls st0) := by
  refine va_callv hr hS (fun q _ ⟨k, e, h⟩ => hD.2 k _ h) (fun q ⟨k, e, h⟩ => hD.2 k _ h) (fun u t H1 locs1 ht _ hp hb _ hk1 hS1 => ?_)
  rw [ht] at hb
  exact kk u H1 locs1 hp hb (my_adrD (hadr u) hD) hS1
theorem mu_compi {S : Type} {post : Int32 → S → Prop} {Wl wcs : List va_W} {wf : S → va_W} {wns W2 : S → List va_W} (hr : va_Run p l e R s m args below meth c H locs cells slots 0 0 (F0 m pc ls st0) rest (va_Qi post (fun u t => va_P D vwCl (wf u) t.heap) (muA wc) a) (muA wc))
    (hS : va_S A s.heap H locs) (hP : va_P D vwCl Wl.flatten H) (hD : va_D A Wl.flatten) (is : List Nat) (hs : is.map (fun i => Wl[i]?) = wcs.map some) (hwc : wcs.flatten = wc) (hwf : ∀ u, (wns u).flatten = wf u) (hadr : ∀ u, (wns u).map my_adrs = wcs.map my_adrs) (hw2 : ∀ u, my_ups Wl is (wns u) = W2 u)
    (kk : ∀ (r : Int32) (u : S) (H1 : Heap) (locs1 : List Loc), post r u → va_P D vwCl (W2 u).flatten H1 → va_D A (W2 u).flatten → va_S A s.heap H1 locs1 → W p l e R s m args below meth c H1 locs1 cells slots Q (F0 m (pc + 3) ls (.int r :: rest))) : W p l e R s m args below meth c H locs cells slots Q (F0 m pc ls st0) := by
  subst hwc
  refine va_calli hr hS (fun q _ h => my_cmu hD hs q h) (my_cmu hD hs) (fun r u t H1 locs1 ht _ hp hb _ hk1 hS1 => ?_)
  rw [ht, ← hwf u] at hb
  obtain ⟨h1, h2⟩ := my_upc_hyp hs (hadr u)
  refine kk r u H1 locs1 hp ?_ ?_ hS1
  · rw [← hw2 u]; exact my_upc_P hP hD hs h2 hk1 hb
  · rw [← hw2 u]; exact my_adrD (my_flat_adr (my_upc_adr _ _ _ h1)) hD
theorem mu_compv {S : Type} {post : S → Prop} {Wl wcs : List va_W} {wf : S → va_W} {wns W2 : S → List va_W} (hr : va_Run p l e R s m args below meth c H locs cells slots 0 0 (F0 m pc ls st0) rest (va_Qv post (fun u t => va_P D vwCl (wf u) t.heap) (muA wc) a) (muA wc))
    (hS : va_S A s.heap H locs) (hP : va_P D vwCl Wl.flatten H) (hD : va_D A Wl.flatten) (is : List Nat) (hs : is.map (fun i => Wl[i]?) = wcs.map some) (hwc : wcs.flatten = wc) (hwf : ∀ u, (wns u).flatten = wf u) (hadr : ∀ u, (wns u).map my_adrs = wcs.map my_adrs) (hw2 : ∀ u, my_ups Wl is (wns u) = W2 u)
    (kk : ∀ (u : S) (H1 : Heap) (locs1 : List Loc), post u → va_P D vwCl (W2 u).flatten H1 → va_D A (W2 u).flatten → va_S A s.heap H1 locs1 → W p l e R s m args below meth c H1 locs1 cells slots Q (F0 m (pc + 3) ls rest)) : W p l e R s m args below meth c H locs cells slots Q (F0 m pc ls st0) := by
  subst hwc
  refine va_callv hr hS (fun q _ h => my_cmu hD hs q h) (my_cmu hD hs) (fun u t H1 locs1 ht _ hp hb _ hk1 hS1 => ?_)
  rw [ht, ← hwf u] at hb
  obtain ⟨h1, h2⟩ := my_upc_hyp hs (hadr u)
  refine kk u H1 locs1 hp ?_ ?_ hS1
  · rw [← hw2 u]; exact my_upc_P hP hD hs h2 hk1 hb
  · rw [← hw2 u]; exact my_adrD (my_flat_adr (my_upc_adr _ _ _ h1)) hD
theorem my_cmd_n (g : Nat → Nat) (k : Nat) : narrow (.object "PivotChamber$Command") (cmdV g k) = cmdV g k := by
  unfold cmdV
  split <;> rfl
theorem my_cmd_f (g : Nat → Nat) (k : Nat) : fits (.object "PivotChamber$Command") (cmdV g k) = true := by
  unfold cmdV
  split <;> rfl
theorem my_getEN (hexec : p.tables.exec = Jvm.exec) (hb : c.code = cc) {E d own ref host : String} {nm : List String} {F : List (String × String × String × List Int32)} {ad : Nat → Nat} {index i : Nat} (hE : va_En E d nm F ad A s s.heap) (hi : i < nm.length) (hS : va_S A s.heap H locs) (hown : s.vm.findClass own = some m.cls) {q : String × String × String × List Int32} (hq : q ∈ F) (hlink : (Cond.fieldLinkNest own index ref q.2.1 q.2.2.1 host).before args s = true) (hsame : ∀ x, s.fieldFound? q.1 q.2.1 q.2.2.1 = some x → s.fieldFound? ref q.2.1 q.2.2.1 = some x) (hdg : decode cc pc = .ok (.getfield index, 3))
    (kk : W p l e R s m args below meth c H locs cells slots Q (F0 m (pc + 3) ls (.int (q.2.2.2.getD i 0) :: rest))) : W p l e R s m args below meth c H locs cells slots Q (F0 m pc ls (.ref (ad i) :: rest)) := by
  obtain ⟨cf, k, fi, f, cell, h1, h2, h3, h4, h5, h6⟩ := ((hE.1 i hi).2.2 q hq).kept hS.2.1
  exact va_Wgetf hexec hb hown hlink (hsame _ h1) h2 h3 h4 (v := .int (q.2.2.2.getD i 0)) h5 rfl rfl hdg kk
theorem my_getOF (hexec : p.tables.exec = Jvm.exec) (hb : c.code = cc) {o n d own ref host : String} {index q : Nat} {v : Value} (hE : va_OF o n d v q A s s.heap) (hS : va_S A s.heap H locs) (hown : s.vm.findClass own = some m.cls) (hlink : (Cond.fieldLinkNest own index ref n d host).before args s = true) (hsame : ∀ x, s.fieldFound? o n d = some x → s.fieldFound? ref n d = some x) (hdg : decode cc pc = .ok (.getfield index, 3))
    (kk : W p l e R s m args below meth c H locs cells slots Q (F0 m (pc + 3) ls (v :: rest))) : W p l e R s m args below meth c H locs cells slots Q (F0 m pc ls (.ref q :: rest)) := by
  obtain ⟨cf, k, fi, f, cell, h1, h2, h3, h4, h5, h6⟩ := hE.kept hS.2.1
  exact va_Wgetf hexec hb hown hlink (hsame _ h1) h2 h3 h4 (v := v) h5 rfl rfl hdg kk
def my_Sv : Array Value → State → Outcome → State → Prop := fun _ st oc t => oc = .returned none ∧ t.heap = st.heap
theorem rd_gov (hr : va_Run p l e R s m args below meth c H locs cells slots 0 0 (F0 m pc ls st0) rest (my_Sv a) (fun _ => False))
    (kk : W p l e R s m args below meth c H locs cells slots Q (F0 m (pc + 3) ls rest)) : W p l e R s m args below meth c H locs cells slots Q (F0 m pc ls st0) := by
  intro T hT X
  obtain ⟨w, st₀, t, T', L, h0, X', hL, e1, -, ⟨hv, hh⟩, st⟩ := hr T hT X
  cases hv
  obtain ⟨t2, a1, b1⟩ := kk T' (by rw [e1, hh, h0]) (Stand.forget X' (fun q h => (hL q h).elim))
  exact ⟨t2, st t2 a1, b1⟩
theorem my_fix (hx : p.tables.exec = Jvm.exec) (hb : c.code = cc) (hml : c.maxLocals = nL) (hown : s.vm.findClass own = some m.cls) (hts : ∀ w ∈ Ts, w.before args s = true) : CallFix p m c cc nL s args Ts own := ⟨hx, hb, hml, hown, hts⟩
end MYC
theorem my_cmd_nr (g : Nat → Nat) (k : Nat) : cmdV g k = .null ∨ ∃ a, cmdV g k = .ref a := by
  unfold cmdV
  split
  · exact Or.inr ⟨_, rfl⟩
  · exact Or.inl rfl
theorem my_lenok (x : Nat) : my_len.getD x 0 < 2 ^ 31 := by
  rcases Nat.lt_or_ge x 7 with h | h
  · revert x; decide
  · rw [List.getD_eq_getElem?_getD, List.getElem?_eq_none (by exact h)]; decide
theorem my_ord {x : Nat} (h : x < 7) : ([0, 1, 2, 3, 4, 5, 6] : List Int32).getD x 0 = nI x := by
  revert x; decide
/-! loops as functions -/
def lp {σ ρ : Type} (f : σ → σ ⊕ ρ) (d : ρ) : Nat → σ → ρ
  | 0, _ => d
  | n + 1, x => match f x with
    | .inl x' => lp f d n x'
    | .inr r => r
theorem lp_inl {σ ρ : Type} {f : σ → σ ⊕ ρ} {d F : ρ} {n : Nat} {x x' : σ} (h : f x = .inl x') (hF : lp f d (n + 1) x = F) : lp f d n x' = F := by
  rw [lp, h] at hF
  exact hF
theorem lp_inr {σ ρ : Type} {f : σ → σ ⊕ ρ} {d F : ρ} {n : Nat} {x : σ} {r : ρ} (h : f x = .inr r) (hF : lp f d (n + 1) x = F) : F = r := by
  rw [lp, h] at hF
  exact hF.symm
def my_b {α β γ : Type} (x : α × β) (k : α → β → γ) : γ := k x.1 x.2
theorem my_b_eq {α β γ : Type} (a : α) (b : β) (k : α → β → γ) : my_b (a, b) k = k a b := rfl
def my_l {α γ : Type} (x : α) (k : α → γ) : γ := k x
theorem my_l_eq {α γ : Type} (a : α) (k : α → γ) : my_l a k = k a := rfl
def my_max (x y : Int32) : Int32 := if x < y then y else x
def my_min (x y : Int32) : Int32 := if y < x then y else x
def rAt (n : Nat) (f : Nat → Int32) (i : Int32) : Int32 := if i < 0 then 0 else if nI n ≤ i then 0 else f i.toNatClampNeg
def rPut (n : Nat) (f : Nat → Int32) (i x : Int32) : Nat → Int32 := if i < 0 then f else if nI n ≤ i then f else upd f i.toNatClampNeg x
def rRaise (n : Nat) (f : Nat → Int32) (i x : Int32) : Nat → Int32 := if i < 0 then f else if nI n ≤ i then f else upd f i.toNatClampNeg (f i.toNatClampNeg + x)
theorem my_nz {v : Int32} (h : v = 0 ∨ v = 1) : narrow .boolean (.int v) = .int v := by
  rcases h with rfl | rfl <;> decide
theorem my_ne {x k : Int32} {q : Int} (h : ¬ x = k) (hk : k.toInt = q) : x.toInt ≠ q := fun e => h (Int32.toInt_inj.mp (e.trans hk.symm))
def my_t2 {α0 α1 γ : Type} (x : α0 × α1) (k : α0 → α1 → γ) : γ := k x.1 x.2
theorem my_t2_eq {α0 α1 γ : Type} (z0 : α0) (z1 : α1) (k : α0 → α1 → γ) : my_t2 (z0, z1) k = k z0 z1 := rfl
def my_t3 {α0 α1 α2 γ : Type} (x : α0 × α1 × α2) (k : α0 → α1 → α2 → γ) : γ := k x.1 x.2.1 x.2.2
theorem my_t3_eq {α0 α1 α2 γ : Type} (z0 : α0) (z1 : α1) (z2 : α2) (k : α0 → α1 → α2 → γ) : my_t3 (z0, z1, z2) k = k z0 z1 z2 := rfl
def my_t4 {α0 α1 α2 α3 γ : Type} (x : α0 × α1 × α2 × α3) (k : α0 → α1 → α2 → α3 → γ) : γ := k x.1 x.2.1 x.2.2.1 x.2.2.2
theorem my_t4_eq {α0 α1 α2 α3 γ : Type} (z0 : α0) (z1 : α1) (z2 : α2) (z3 : α3) (k : α0 → α1 → α2 → α3 → γ) : my_t4 (z0, z1, z2, z3) k = k z0 z1 z2 z3 := rfl
def my_t5 {α0 α1 α2 α3 α4 γ : Type} (x : α0 × α1 × α2 × α3 × α4) (k : α0 → α1 → α2 → α3 → α4 → γ) : γ := k x.1 x.2.1 x.2.2.1 x.2.2.2.1 x.2.2.2.2
theorem my_t5_eq {α0 α1 α2 α3 α4 γ : Type} (z0 : α0) (z1 : α1) (z2 : α2) (z3 : α3) (z4 : α4) (k : α0 → α1 → α2 → α3 → α4 → γ) : my_t5 (z0, z1, z2, z3, z4) k = k z0 z1 z2 z3 z4 := rfl
def my_t6 {α0 α1 α2 α3 α4 α5 γ : Type} (x : α0 × α1 × α2 × α3 × α4 × α5) (k : α0 → α1 → α2 → α3 → α4 → α5 → γ) : γ := k x.1 x.2.1 x.2.2.1 x.2.2.2.1 x.2.2.2.2.1 x.2.2.2.2.2
theorem my_t6_eq {α0 α1 α2 α3 α4 α5 γ : Type} (z0 : α0) (z1 : α1) (z2 : α2) (z3 : α3) (z4 : α4) (z5 : α5) (k : α0 → α1 → α2 → α3 → α4 → α5 → γ) : my_t6 (z0, z1, z2, z3, z4, z5) k = k z0 z1 z2 z3 z4 z5 := rfl
def my_t7 {α0 α1 α2 α3 α4 α5 α6 γ : Type} (x : α0 × α1 × α2 × α3 × α4 × α5 × α6) (k : α0 → α1 → α2 → α3 → α4 → α5 → α6 → γ) : γ := k x.1 x.2.1 x.2.2.1 x.2.2.2.1 x.2.2.2.2.1 x.2.2.2.2.2.1 x.2.2.2.2.2.2
theorem my_t7_eq {α0 α1 α2 α3 α4 α5 α6 γ : Type} (z0 : α0) (z1 : α1) (z2 : α2) (z3 : α3) (z4 : α4) (z5 : α5) (z6 : α6) (k : α0 → α1 → α2 → α3 → α4 → α5 → α6 → γ) : my_t7 (z0, z1, z2, z3, z4, z5, z6) k = k z0 z1 z2 z3 z4 z5 z6 := rfl
theorem vin_cmp {n : Nat} {i : Int32} (hn : n < 2 ^ 31) (h0 : ¬ i < 0) (h1 : ¬ nI n ≤ i) : vp_in i n := by
  intro h
  rcases h with h | h
  · exact h0 h
  · apply h1
    have hi : i.toInt = (i.toNatClampNeg : Int) := by
      have h2 : ¬ i.toInt < 0 := fun h3 => h0 (Int32.lt_iff_toInt_lt.mpr (by simpa using h3))
      show i.toInt = ((i.toInt.toNat : Nat) : Int)
      omega
    rw [Int32.le_iff_toInt_le, nI_toInt hn, hi]
    omega
theorem my_clt {n : Nat} {i : Int32} (hn : n < 2 ^ 31) (h0 : ¬ i < 0) (h1 : ¬ nI n ≤ i) : i.toNatClampNeg < n := by
  rcases Nat.lt_or_ge i.toNatClampNeg n with h | h
  · exact h
  · exact absurd (Or.inr h) (vin_cmp hn h0 h1)
theorem mu_up {i b : Int32} (h : ¬ b ≤ i) : (b.toInt - (i + 1).toInt).toNat < (b.toInt - i.toInt).toNat := by
  have h1 : i.toInt < b.toInt := Int32.lt_iff_toInt_lt.mp (Int32.not_le.mp h)
  have hb : b.toInt < 2147483648 := by have := b.toInt_lt; simpa using this
  have hi : -2147483648 ≤ i.toInt := by have := i.le_toInt; simpa using this
  have h2 : (i + 1).toInt = i.toInt + 1 := by
    rw [Int32.toInt_add]
    show (i.toInt + 1).bmod 4294967296 = _
    rw [Int.bmod_eq_of_le (by omega) (by omega)]
  rw [h2]
  omega
theorem nn_up {i b : Int32} (h0 : ¬ i < 0) (h : ¬ b ≤ i) : ¬ i + 1 < 0 := by
  have h1 : i.toInt < b.toInt := Int32.lt_iff_toInt_lt.mp (Int32.not_le.mp h)
  have hb : b.toInt < 2147483648 := by have := b.toInt_lt; simpa using this
  have hi : 0 ≤ i.toInt := by
    have h3 : ¬ i.toInt < (0 : Int32).toInt := fun h3 => h0 (Int32.lt_iff_toInt_lt.mpr h3)
    have h4 : (0 : Int32).toInt = 0 := by decide
    omega
  have h2 : (i + 1).toInt = i.toInt + 1 := by
    rw [Int32.toInt_add]
    show (i.toInt + 1).bmod 4294967296 = _
    rw [Int.bmod_eq_of_le (by omega) (by omega)]
  intro h5
  have h6 : (i + 1).toInt < (0 : Int32).toInt := Int32.lt_iff_toInt_lt.mp h5
  have h4 : (0 : Int32).toInt = 0 := by decide
  omega
theorem ix_loop {c i b K : Int32} {N : Nat} (h0 : ¬ i < 0) (h1 : ¬ b ≤ i) (h2 : ¬ K < b) (hc : 0 ≤ c.toInt ∧ c.toInt + K.toInt ≤ N ∧ N < 2147483648 ∧ 0 ≤ K.toInt) : vp_in (c + i) N := by
  have z0 : (0 : Int32).toInt = 0 := by decide
  have a0 : ¬ i.toInt < (0 : Int32).toInt := fun h => h0 (Int32.lt_iff_toInt_lt.mpr h)
  have a1 : ¬ b.toInt ≤ i.toInt := fun h => h1 (Int32.le_iff_toInt_le.mpr h)
  have a2 : ¬ K.toInt < b.toInt := fun h => h2 (Int32.lt_iff_toInt_lt.mpr h)
  have e : (c + i).toInt = c.toInt + i.toInt := by
    rw [Int32.toInt_add]
    show (c.toInt + i.toInt).bmod 4294967296 = _
    rw [Int.bmod_eq_of_le (by omega) (by omega)]
  exact vp_in_iff.mpr (by rw [e]; omega)
theorem ix_self {i b K : Int32} {N : Nat} (h0 : ¬ i < 0) (h1 : ¬ b ≤ i) (h2 : ¬ K < b) (hc : K.toInt ≤ N) : vp_in i N := by
  have z0 : (0 : Int32).toInt = 0 := by decide
  have a0 : ¬ i.toInt < (0 : Int32).toInt := fun h => h0 (Int32.lt_iff_toInt_lt.mpr h)
  have a1 : ¬ b.toInt ≤ i.toInt := fun h => h1 (Int32.le_iff_toInt_le.mpr h)
  have a2 : ¬ K.toInt < b.toInt := fun h => h2 (Int32.lt_iff_toInt_lt.mpr h)
  exact vp_in_iff.mpr (by omega)
theorem mu_le {i b : Int32} (h : ¬ b < i) (hb : b < 2147483647) : (b.toInt + 1 - (i + 1).toInt).toNat < (b.toInt + 1 - i.toInt).toNat := by
  have h1 : i.toInt ≤ b.toInt := Int32.le_iff_toInt_le.mp (Int32.not_lt.mp h)
  have hb2 : b.toInt < 2147483647 := by have := Int32.lt_iff_toInt_lt.mp hb; simpa using this
  have hi : -2147483648 ≤ i.toInt := by have := i.le_toInt; simpa using this
  have h2 : (i + 1).toInt = i.toInt + 1 := by
    rw [Int32.toInt_add]
    show (i.toInt + 1).bmod 4294967296 = _
    rw [Int.bmod_eq_of_le (by omega) (by omega)]
  rw [h2]
  omega
