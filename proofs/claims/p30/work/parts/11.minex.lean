/-! part 11: refusals; the slots of the saved settings -/
def exE (k : Int32) (E : String) : Prop := (k = 1 ∧ E = "java/lang/IndexOutOfBoundsException") ∨ (k = 2 ∧ E = "java/lang/IllegalArgumentException") ∨ (k = 3 ∧ E = "java/lang/IllegalStateException")
abbrev rfBad (x : Int32) : Prop := x = 1 ∨ x = 2 ∨ x = 3
def my_rf {α : Type} (x : Int32) (k : Int32 ⊕ α) : Int32 ⊕ α := if rfBad x then .inl x else k
theorem my_rf_no {α : Type} {x : Int32} (h : rfBad x) (k : Int32 ⊕ α) : my_rf x k = .inl x := if_pos h
theorem my_rf_ok {α : Type} {x : Int32} (h : ¬ rfBad x) (k : Int32 ⊕ α) : my_rf x k = k := if_neg h
def my_s {α β γ : Type} (x : Int32 ⊕ (α × β)) (k : α → β → Int32 ⊕ γ) : Int32 ⊕ γ := match x with
  | .inl e => .inl e
  | .inr y => k y.1 y.2
theorem my_s_inr {α β γ : Type} (r : α) (u : β) (k : α → β → Int32 ⊕ γ) : my_s (.inr (r, u)) k = k r u := rfl
theorem my_s_inl {α β γ : Type} (e : Int32) (k : α → β → Int32 ⊕ γ) : my_s (.inl e) k = .inl e := rfl
def slotV (q : Nat → Nat → Nat) (i : Int32) : Value := if i < 0 then .null else if 4 ≤ i then .null else .ref (q i.toNatClampNeg 0)
theorem slotV_0 {q : Nat → Nat → Nat} {i : Int32} (h : i = 0) : slotV q i = .ref ((q 0) 0) := by subst h; rfl
theorem slotV_1 {q : Nat → Nat → Nat} {i : Int32} (h : i = 1) : slotV q i = .ref ((q 1) 0) := by subst h; rfl
theorem slotV_2 {q : Nat → Nat → Nat} {i : Int32} (h : i = 2) : slotV q i = .ref ((q 2) 0) := by subst h; rfl
theorem slotV_3 {q : Nat → Nat → Nat} {i : Int32} (h0 : ¬ i < 0) (h4 : ¬ 4 ≤ i) (h : ¬ i = 0) (h' : ¬ i = 1) (h'' : ¬ i = 2) : slotV q i = .ref ((q 3) 0) := by
  have e : i = 3 := by
    have a0 : ¬ i.toInt < (0 : Int32).toInt := fun h => h0 (Int32.lt_iff_toInt_lt.mpr h)
    have a4 : ¬ (4 : Int32).toInt ≤ i.toInt := fun h => h4 (Int32.le_iff_toInt_le.mpr h)
    have z0 : (0 : Int32).toInt = 0 := by decide
    have z4 : (4 : Int32).toInt = 4 := by decide
    have n0 : i.toInt ≠ 0 := my_ne h (by decide)
    have n1 : i.toInt ≠ 1 := my_ne h' (by decide)
    have n2 : i.toInt ≠ 2 := my_ne h'' (by decide)
    have z3 : (3 : Int32).toInt = 3 := by decide
    have z9 : i.toInt = (3 : Int32).toInt := by omega
    exact Int32.toInt_inj.mp z9
  subst e; rfl
theorem slotV_nr (q : Nat → Nat → Nat) (i : Int32) : slotV q i = .null ∨ ∃ a, slotV q i = .ref a := by
  unfold slotV
  repeat' split
  · exact Or.inl rfl
  · exact Or.inl rfl
  · exact Or.inr ⟨_, rfl⟩
theorem my_P_kept {D : va_G} {cl : List vw_C} {ws : va_W} {H H1 : Heap} (hP : va_P D cl ws H) (hk : ∀ q : Nat, q < H.size → H1[q]? = H[q]?) : va_P D cl ws H1 := by
  refine my_P_mem.mpr fun q hq => ?_
  have hat := my_P_mem.mp hP q hq
  exact hat.kept (hk q.1 hat.lt)
theorem rfBad_1 : rfBad 1 := Or.inl rfl
theorem rfBad_2 : rfBad 2 := Or.inr (Or.inl rfl)
theorem rfBad_3 : rfBad 3 := Or.inr (Or.inr rfl)
theorem nn_toInt {i : Int32} (h0 : ¬ i < 0) : 0 ≤ i.toInt := by
  have z0 : (0 : Int32).toInt = 0 := by decide
  have a0 : ¬ i.toInt < (0 : Int32).toInt := fun h => h0 (Int32.lt_iff_toInt_lt.mpr h)
  omega
theorem i32_add {a b : Int32} (h1 : -2147483648 ≤ a.toInt + b.toInt) (h2 : a.toInt + b.toInt < 2147483648) : (a + b).toInt = a.toInt + b.toInt := by
  rw [Int32.toInt_add]
  show (a.toInt + b.toInt).bmod 4294967296 = _
  rw [Int.bmod_eq_of_le (by omega) (by omega)]
theorem i32_mul {a b : Int32} (h1 : -2147483648 ≤ a.toInt * b.toInt) (h2 : a.toInt * b.toInt < 2147483648) : (a * b).toInt = a.toInt * b.toInt := by
  rw [Int32.toInt_mul]
  show (a.toInt * b.toInt).bmod 4294967296 = _
  rw [Int.bmod_eq_of_le (by omega) (by omega)]
theorem ix_loopR {c i b K : Int32} {N : Nat} (h0 : ¬ i < 0) (h1 : ¬ b ≤ i) (h2 : ¬ K < b) (hc : 0 ≤ c.toInt ∧ c.toInt + K.toInt ≤ N ∧ N < 2147483648 ∧ 0 ≤ K.toInt) : vp_in (i + c) N := by
  have e : i + c = c + i := Int32.add_comm i c
  rw [e]; exact ix_loop h0 h1 h2 hc
theorem ix_loop2 {c0 c i b K : Int32} {N : Nat} (h0 : ¬ i < 0) (h1 : ¬ b ≤ i) (h2 : ¬ K < b) (hc : 0 ≤ c.toInt ∧ 0 ≤ c0.toInt ∧ c0.toInt + c.toInt + K.toInt ≤ N ∧ N < 2147483648 ∧ 0 ≤ K.toInt) : vp_in ((c0 + i) + c) N := by
  have a0 := nn_toInt h0
  have a1 : ¬ b.toInt ≤ i.toInt := fun h => h1 (Int32.le_iff_toInt_le.mpr h)
  have a2 : ¬ K.toInt < b.toInt := fun h => h2 (Int32.lt_iff_toInt_lt.mpr h)
  have e1 : (c0 + i).toInt = c0.toInt + i.toInt := i32_add (by omega) (by omega)
  have e2 : ((c0 + i) + c).toInt = c0.toInt + i.toInt + c.toInt := by rw [i32_add (by omega) (by omega), e1]
  exact vp_in_iff.mpr (by rw [e2]; omega)
theorem ix_27 {p k : Int32} (hp0 : ¬ p < 0) (hp : ¬ 3 < p) (h0 : ¬ k < 0) (h1 : ¬ 27 ≤ k) : vp_in ((27 * p) + k) 108 := by
  have a0 := nn_toInt h0
  have b0 := nn_toInt hp0
  have z3 : (3 : Int32).toInt = 3 := by decide
  have z27 : (27 : Int32).toInt = 27 := by decide
  have a1 : ¬ (27 : Int32).toInt ≤ k.toInt := fun h => h1 (Int32.le_iff_toInt_le.mpr h)
  have a2 : ¬ (3 : Int32).toInt < p.toInt := fun h => hp (Int32.lt_iff_toInt_lt.mpr h)
  have e1 : (27 * p).toInt = 27 * p.toInt := by rw [i32_mul (by rw [z27]; omega) (by rw [z27]; omega), z27]
  have e2 : ((27 * p) + k).toInt = 27 * p.toInt + k.toInt := by rw [i32_add (by omega) (by omega), e1]
  exact vp_in_iff.mpr (by rw [e2]; omega)
theorem upd_lo {N : Nat} {f : Nat → Int32} {c i x : Int32} {j : Nat} (h0 : ¬ i < 0) (h : vp_in (c + i) N) (hc : 0 ≤ c.toInt) (hj : (j : Int) < c.toInt) : upd f (c + i).toNatClampNeg x j = f j := by
  have a0 := nn_toInt h0
  have hv := vp_in_iff.mp h
  have hne : j ≠ (c + i).toNatClampNeg := by
    intro e
    have e2 : ((c + i).toNatClampNeg : Int) = (c + i).toInt := by
      show (((c + i).toInt.toNat : Nat) : Int) = _
      omega
    have hb : i.toInt < 2147483648 := by have := i.toInt_lt; simpa using this
    have hcb : c.toInt < 2147483648 := by have := c.toInt_lt; simpa using this
    by_cases ho : c.toInt + i.toInt < 2147483648
    · have e1 := i32_add (a := c) (b := i) (by omega) ho
      omega
    · have e3 : (c + i).toInt = c.toInt + i.toInt - 4294967296 := by
        rw [Int32.toInt_add]
        show (c.toInt + i.toInt).bmod 4294967296 = _
        rw [Int.bmod_def]
        split <;> omega
      omega
  simp only [upd]
  rw [if_neg (by first | exact hne | exact fun e => hne e.symm)]
theorem i32_nat {s : Int32} (h : 0 ≤ s.toInt) : s.toInt = (s.toBitVec.toNat : Int) ∧ s.toBitVec.toNat < 2147483648 := by
  have hs : s.toInt = if 2 * s.toBitVec.toNat < 2 ^ 32 then (s.toBitVec.toNat : Int) else (s.toBitVec.toNat : Int) - ((2 ^ 32 : Nat) : Int) := rfl
  have hl := s.toBitVec.isLt
  rw [hs] at h ⊢
  split at h <;> rename_i h2
  · rw [if_pos h2]; exact ⟨rfl, by omega⟩
  · omega
theorem nat_i32 {s : Int32} (h : s.toBitVec.toNat < 2147483648) : s.toInt = (s.toBitVec.toNat : Int) := by
  have hs : s.toInt = if 2 * s.toBitVec.toNat < 2 ^ 32 then (s.toBitVec.toNat : Int) else (s.toBitVec.toNat : Int) - ((2 ^ 32 : Nat) : Int) := rfl
  rw [hs, if_pos (by omega)]
theorem ix_and {s x : Int32} {N : Nat} (h : vp_in s N) : vp_in (s &&& x) N := by
  obtain ⟨h1, h2⟩ := vp_in_iff.mp h
  obtain ⟨h3, h4⟩ := i32_nat h1
  have e : (s &&& x).toBitVec.toNat = s.toBitVec.toNat &&& x.toBitVec.toNat := rfl
  have hle : (s &&& x).toBitVec.toNat ≤ s.toBitVec.toNat := by rw [e]; exact Nat.and_le_left
  have e2 := nat_i32 (s := s &&& x) (by omega)
  exact vp_in_iff.mpr (by rw [e2]; omega)
theorem i32_lt8 {m b K : Int32} (h0 : ¬ m < 0) (h1 : ¬ b ≤ m) (h2 : ¬ K < b) (hK : K.toInt ≤ 8) : m = 0 ∨ m = 1 ∨ m = 2 ∨ m = 3 ∨ m = 4 ∨ m = 5 ∨ m = 6 ∨ m = 7 := by
  have a0 := nn_toInt h0
  have a1 : ¬ b.toInt ≤ m.toInt := fun h => h1 (Int32.le_iff_toInt_le.mpr h)
  have a2 : ¬ K.toInt < b.toInt := fun h => h2 (Int32.lt_iff_toInt_lt.mpr h)
  have hm : m.toInt = 0 ∨ m.toInt = 1 ∨ m.toInt = 2 ∨ m.toInt = 3 ∨ m.toInt = 4 ∨ m.toInt = 5 ∨ m.toInt = 6 ∨ m.toInt = 7 := by omega
  rcases hm with h | h | h | h | h | h | h | h
  · exact Or.inl (Int32.toInt_inj.mp (h.trans (by decide)))
  · exact Or.inr (Or.inl (Int32.toInt_inj.mp (h.trans (by decide))))
  · exact Or.inr (Or.inr (Or.inl (Int32.toInt_inj.mp (h.trans (by decide)))))
  · exact Or.inr (Or.inr (Or.inr (Or.inl (Int32.toInt_inj.mp (h.trans (by decide))))))
  · exact Or.inr (Or.inr (Or.inr (Or.inr (Or.inl (Int32.toInt_inj.mp (h.trans (by decide)))))))
  · exact Or.inr (Or.inr (Or.inr (Or.inr (Or.inr (Or.inl (Int32.toInt_inj.mp (h.trans (by decide))))))))
  · exact Or.inr (Or.inr (Or.inr (Or.inr (Or.inr (Or.inr (Or.inl (Int32.toInt_inj.mp (h.trans (by decide)))))))))
  · exact Or.inr (Or.inr (Or.inr (Or.inr (Or.inr (Or.inr (Or.inr (Int32.toInt_inj.mp (h.trans (by decide)))))))))
theorem ix_or {s m b K : Int32} (h : vp_in s 256) (h0 : ¬ m < 0) (h1 : ¬ b ≤ m) (h2 : ¬ K < b) (hK : K.toInt ≤ 8) : vp_in (s ||| (1 <<< (m &&& 31))) 256 := by
  obtain ⟨g1, g2⟩ := vp_in_iff.mp h
  obtain ⟨g3, g4⟩ := i32_nat g1
  have hb : (1 <<< (m &&& 31) : Int32).toBitVec.toNat < 256 := by
    rcases i32_lt8 h0 h1 h2 hK with rfl | rfl | rfl | rfl | rfl | rfl | rfl | rfl <;> decide
  have e : (s ||| (1 <<< (m &&& 31))).toBitVec.toNat = s.toBitVec.toNat ||| (1 <<< (m &&& 31) : Int32).toBitVec.toNat := rfl
  have hlt : (s ||| (1 <<< (m &&& 31))).toBitVec.toNat < 2 ^ 8 := by rw [e]; exact Nat.or_lt_two_pow (by omega) hb
  have e2 := nat_i32 (s := s ||| (1 <<< (m &&& 31))) (by omega)
  exact vp_in_iff.mpr (by rw [e2]; omega)
section MYX
variable {p : Program} {l : Launch} {e : Env} {R : Room} {s : State} {m : MethodId} {args : Array Value} {below : List Frame} {meth : Method} {c : Code} {H : Heap} {locs : List Loc} {cells slots : Nat} {Q : State → Prop}
variable {As rest st0 : List Value} {D : va_G} {cy : Nat → ClassId} {g : Nat → Nat} {B : Nat} {wc ws : va_W} {pc : Nat} {ls : Array Slot} {A : Nat → Prop} {a : Array Value}
variable {Qc : Array Value → State → Outcome → State → Prop} {XC : String → State → State → Prop} {mc ms : Nat} {free : Addr → Prop}
theorem my_rfx {x : Int32} (hr : vx_Run p l e R s m args below meth c H locs cells slots 1 6 (F0 m pc ls st0) rest (va_Qv (fun (_ : Unit) => ¬ rfBad x) (fun _ _ => True) (fun _ => False) a) (vx_X (fun (_ : Unit) => rfBad x) (fun E _ _ => exE x E) (fun _ => False)) (fun _ => False))
    (hS : va_S A s.heap H locs) (hP : va_P D vwCl ws H)
    (hout : ∀ z ∈ c.exceptionTable.toList, False) (hlocks : meth.locks = false) (hfree : ∀ q, A q → free q) (hc : cells + 1 ≤ mc) (hs : slots + 6 ≤ ms)
    (hx : rfBad x → ∀ (E : String) (t : State), exE x E → va_P D vwCl ws t.heap → va_F A s t → XC E s t)
    (kk : ¬ rfBad x → ∀ (H1 : Heap) (locs1 : List Loc), va_P D vwCl ws H1 → va_S A s.heap H1 locs1 → W p l e R s m args below meth c H1 locs1 (cells + 1) (slots + 6) (vx_MQ below Qc XC args s mc ms free) (F0 m (pc + 3) ls rest)) : W p l e R s m args below meth c H locs cells slots (vx_MQ below Qc XC args s mc ms free) (F0 m pc ls st0) := by
  refine vx_callv hr hS (fun _ _ h => h.elim) (fun _ h => h.elim) (fun _ _ h => h.elim) (fun E ce q9 u t H1 locs1 ht _ hp hb _ hk hS1 hce hv hcl => ?_) (fun u t H1 locs1 ht _ hp _ _ hk hS1 => ?_)
  · exact vx_out (fun z hz => (hout z hz).elim) hlocks hce hv hcl (fun t' ht' _ => hx hp E t' hb (by rw [ht']; exact my_P_kept hP (fun q h => hk q h (fun z => z))) (hS1.F ht')) (fun z hz => hfree _ (hS1.2.2 z hz)) hc hs
  · exact kk hp H1 locs1 (my_P_kept hP (fun q h => hk q h (fun z => z))) hS1
theorem my_pxi {S : Type} {G : Int32 ⊕ (Int32 × S)} {wf : S → va_W} {mc1 ms1 : Nat} (hr : vx_Run p l e R s m args below meth c H locs cells slots mc1 ms1 (F0 m pc ls st0) rest (va_Qi (fun (r : Int32) (u : S) => G = .inr (r, u)) (fun u t => va_P D vwCl (wf u) t.heap) (muA ws) a) (vx_X (fun (k : Int32) => G = .inl k) (fun E k t => exE k E ∧ va_P D vwCl ws t.heap) (muA ws)) (muA ws))
    (hS : va_S A s.heap H locs) (hD : va_D A ws) (hadr : ∀ u, my_adrs (wf u) = my_adrs ws)
    (hout : ∀ z ∈ c.exceptionTable.toList, False) (hlocks : meth.locks = false) (hfree : ∀ q, A q → free q) (hc : cells + mc1 ≤ mc) (hs : slots + ms1 ≤ ms)
    (hx : ∀ (k : Int32) (E : String) (t : State), G = .inl k → exE k E → va_P D vwCl ws t.heap → va_F A s t → XC E s t)
    (kk : ∀ (r : Int32) (u : S) (H1 : Heap) (locs1 : List Loc), G = .inr (r, u) → va_P D vwCl (wf u) H1 → va_D A (wf u) → va_S A s.heap H1 locs1 → W p l e R s m args below meth c H1 locs1 (cells + mc1) (slots + ms1) (vx_MQ below Qc XC args s mc ms free) (F0 m (pc + 3) ls (.int r :: rest))) : W p l e R s m args below meth c H locs cells slots (vx_MQ below Qc XC args s mc ms free) (F0 m pc ls st0) := by
  refine vx_calli hr hS (fun q _ ⟨k, e, h⟩ => hD.2 k _ h) (fun q ⟨k, e, h⟩ => hD.2 k _ h) (fun q _ ⟨k, e, h⟩ => hD.2 k _ h) (fun E ce q9 u t H1 locs1 ht _ hp hb _ _ hS1 hce hv hcl => ?_) (fun r u t H1 locs1 ht _ hp hb _ _ hS1 => ?_)
  · exact vx_out (fun z hz => (hout z hz).elim) hlocks hce hv hcl (fun t' ht' _ => hx u E t' hp hb.1 (by rw [ht', ← ht]; exact hb.2) (hS1.F ht')) (fun z hz => hfree _ (hS1.2.2 z hz)) hc hs
  · rw [ht] at hb
    exact kk r u H1 locs1 hp hb (my_adrD (hadr u) hD) hS1
theorem my_pxl {S : Type} {G : Int32 ⊕ (Int64 × S)} {wf : S → va_W} {mc1 ms1 : Nat} (hr : vx_Run p l e R s m args below meth c H locs cells slots mc1 ms1 (F0 m pc ls st0) rest (va_Ql (fun (r : Int64) (u : S) => G = .inr (r, u)) (fun u t => va_P D vwCl (wf u) t.heap) (muA ws) a) (vx_X (fun (k : Int32) => G = .inl k) (fun E k t => exE k E ∧ va_P D vwCl ws t.heap) (muA ws)) (muA ws))
    (hS : va_S A s.heap H locs) (hD : va_D A ws) (hadr : ∀ u, my_adrs (wf u) = my_adrs ws)
    (hout : ∀ z ∈ c.exceptionTable.toList, False) (hlocks : meth.locks = false) (hfree : ∀ q, A q → free q) (hc : cells + mc1 ≤ mc) (hs : slots + ms1 ≤ ms)
    (hx : ∀ (k : Int32) (E : String) (t : State), G = .inl k → exE k E → va_P D vwCl ws t.heap → va_F A s t → XC E s t)
    (kk : ∀ (r : Int64) (u : S) (H1 : Heap) (locs1 : List Loc), G = .inr (r, u) → va_P D vwCl (wf u) H1 → va_D A (wf u) → va_S A s.heap H1 locs1 → W p l e R s m args below meth c H1 locs1 (cells + mc1) (slots + ms1) (vx_MQ below Qc XC args s mc ms free) (F0 m (pc + 3) ls (.long r :: rest))) : W p l e R s m args below meth c H locs cells slots (vx_MQ below Qc XC args s mc ms free) (F0 m pc ls st0) := by
  refine vx_calll hr hS (fun q _ ⟨k, e, h⟩ => hD.2 k _ h) (fun q ⟨k, e, h⟩ => hD.2 k _ h) (fun q _ ⟨k, e, h⟩ => hD.2 k _ h) (fun E ce q9 u t H1 locs1 ht _ hp hb _ _ hS1 hce hv hcl => ?_) (fun r u t H1 locs1 ht _ hp hb _ _ hS1 => ?_)
  · exact vx_out (fun z hz => (hout z hz).elim) hlocks hce hv hcl (fun t' ht' _ => hx u E t' hp hb.1 (by rw [ht', ← ht]; exact hb.2) (hS1.F ht')) (fun z hz => hfree _ (hS1.2.2 z hz)) hc hs
  · rw [ht] at hb
    exact kk r u H1 locs1 hp hb (my_adrD (hadr u) hD) hS1
theorem my_pxf {S : Type} {G : Int32 ⊕ (UInt32 × S)} {wf : S → va_W} {mc1 ms1 : Nat} (hr : vx_Run p l e R s m args below meth c H locs cells slots mc1 ms1 (F0 m pc ls st0) rest (va_Qf (fun (r : UInt32) (u : S) => G = .inr (r, u)) (fun u t => va_P D vwCl (wf u) t.heap) (muA ws) a) (vx_X (fun (k : Int32) => G = .inl k) (fun E k t => exE k E ∧ va_P D vwCl ws t.heap) (muA ws)) (muA ws))
    (hS : va_S A s.heap H locs) (hD : va_D A ws) (hadr : ∀ u, my_adrs (wf u) = my_adrs ws)
    (hout : ∀ z ∈ c.exceptionTable.toList, False) (hlocks : meth.locks = false) (hfree : ∀ q, A q → free q) (hc : cells + mc1 ≤ mc) (hs : slots + ms1 ≤ ms)
    (hx : ∀ (k : Int32) (E : String) (t : State), G = .inl k → exE k E → va_P D vwCl ws t.heap → va_F A s t → XC E s t)
    (kk : ∀ (r : UInt32) (u : S) (H1 : Heap) (locs1 : List Loc), G = .inr (r, u) → va_P D vwCl (wf u) H1 → va_D A (wf u) → va_S A s.heap H1 locs1 → W p l e R s m args below meth c H1 locs1 (cells + mc1) (slots + ms1) (vx_MQ below Qc XC args s mc ms free) (F0 m (pc + 3) ls (.float r :: rest))) : W p l e R s m args below meth c H locs cells slots (vx_MQ below Qc XC args s mc ms free) (F0 m pc ls st0) := by
  refine vx_callf hr hS (fun q _ ⟨k, e, h⟩ => hD.2 k _ h) (fun q ⟨k, e, h⟩ => hD.2 k _ h) (fun q _ ⟨k, e, h⟩ => hD.2 k _ h) (fun E ce q9 u t H1 locs1 ht _ hp hb _ _ hS1 hce hv hcl => ?_) (fun r u t H1 locs1 ht _ hp hb _ _ hS1 => ?_)
  · exact vx_out (fun z hz => (hout z hz).elim) hlocks hce hv hcl (fun t' ht' _ => hx u E t' hp hb.1 (by rw [ht', ← ht]; exact hb.2) (hS1.F ht')) (fun z hz => hfree _ (hS1.2.2 z hz)) hc hs
  · rw [ht] at hb
    exact kk r u H1 locs1 hp hb (my_adrD (hadr u) hD) hS1
theorem my_pxd {S : Type} {G : Int32 ⊕ (UInt64 × S)} {wf : S → va_W} {mc1 ms1 : Nat} (hr : vx_Run p l e R s m args below meth c H locs cells slots mc1 ms1 (F0 m pc ls st0) rest (va_Qd (fun (r : UInt64) (u : S) => G = .inr (r, u)) (fun u t => va_P D vwCl (wf u) t.heap) (muA ws) a) (vx_X (fun (k : Int32) => G = .inl k) (fun E k t => exE k E ∧ va_P D vwCl ws t.heap) (muA ws)) (muA ws))
    (hS : va_S A s.heap H locs) (hD : va_D A ws) (hadr : ∀ u, my_adrs (wf u) = my_adrs ws)
    (hout : ∀ z ∈ c.exceptionTable.toList, False) (hlocks : meth.locks = false) (hfree : ∀ q, A q → free q) (hc : cells + mc1 ≤ mc) (hs : slots + ms1 ≤ ms)
    (hx : ∀ (k : Int32) (E : String) (t : State), G = .inl k → exE k E → va_P D vwCl ws t.heap → va_F A s t → XC E s t)
    (kk : ∀ (r : UInt64) (u : S) (H1 : Heap) (locs1 : List Loc), G = .inr (r, u) → va_P D vwCl (wf u) H1 → va_D A (wf u) → va_S A s.heap H1 locs1 → W p l e R s m args below meth c H1 locs1 (cells + mc1) (slots + ms1) (vx_MQ below Qc XC args s mc ms free) (F0 m (pc + 3) ls (.double r :: rest))) : W p l e R s m args below meth c H locs cells slots (vx_MQ below Qc XC args s mc ms free) (F0 m pc ls st0) := by
  refine vx_calld hr hS (fun q _ ⟨k, e, h⟩ => hD.2 k _ h) (fun q ⟨k, e, h⟩ => hD.2 k _ h) (fun q _ ⟨k, e, h⟩ => hD.2 k _ h) (fun E ce q9 u t H1 locs1 ht _ hp hb _ _ hS1 hce hv hcl => ?_) (fun r u t H1 locs1 ht _ hp hb _ _ hS1 => ?_)
  · exact vx_out (fun z hz => (hout z hz).elim) hlocks hce hv hcl (fun t' ht' _ => hx u E t' hp hb.1 (by rw [ht', ← ht]; exact hb.2) (hS1.F ht')) (fun z hz => hfree _ (hS1.2.2 z hz)) hc hs
  · rw [ht] at hb
    exact kk r u H1 locs1 hp hb (my_adrD (hadr u) hD) hS1
theorem my_wide {g : JFrame} (h1 : cells ≤ mc) (h2 : slots ≤ ms) (kk : W p l e R s m args below meth c H locs mc ms (MQ below Qc args s mc ms free) g) : W p l e R s m args below meth c H locs cells slots (vx_MQ below Qc XC args s mc ms free) g := fun T hT X => vx_ret kk T hT (stand_widen X h1 h2)
end MYX
theorem hd_X7_refuse_S : yX7_refuse.cls ≠ "java/lang/invoke/MethodHandle" ∧ yX7_refuse.cls ≠ "java/lang/invoke/VarHandle" ∧ (parseMethodDescriptor yX7_refuse.desc).map (fun d => d.parameters.length) = some 1 := by decide +kernel
set_option maxHeartbeats 400000 in
set_option maxRecDepth 100000 in
theorem c_X7_refuse (l : Launch) (hl0 : l.stackTraces = false) (D : va_G) (cy : Nat → ClassId) (g : Nat → Nat) (B : Nat) (x0 : Int32) : vx_Met l yX7_refuse wsX7_refuse ({ frames := 6, cells := 1, slots := 6, locals := 90 }) (rdP D cy g B ([] : va_W) [.int x0]) (va_Qv (fun (_ : Unit) => ¬ rfBad x0) (fun _ _ => True) (fun _ => False)) (vx_X (fun (_ : Unit) => rfBad x0) (fun E _ _ => exE x0 E) (fun _ => False)) 1 6 (fun _ => False) := by
  refine vx_ofW (cc := cX7_refuse) (maxL := 1) (ret := none) (by decide) rfl ?_
  intro p e s m args below meth c s₁ BB hml hout hv
  obtain ⟨rfl, hP, hK0⟩ := hv
  have hx := BB.exec
  have hb := BB.bytes
  have hr := BB.returns
  have hts := atoms_spec (ws := wsX7_refuse) BB.pre
  have hown : s.vm.findClass RX7 = some m.cls := findClass_of_methodNamed BB.named
  have hlocks := BB.notSynchronized
  have hS : va_S (fun q => B ≤ q) s.heap s.heap [] := va_S.rf
  have hl := lv_entry ([.int x0]) (n := 1) (Nat.le_of_ble_eq_true rfl)
  rw [lg_entry_eq]
  generalize (lg_sl ([.int x0]) ++ List.replicate (1 - (lg_sl ([.int x0])).length) Slot.unset).toArray = ls at hl ⊢
  have hl : lv_has ls 1 [(0, .int x0)] := hl
  refine lv_iload_n hx hb dX7_refuse_0 rfl (lv_at hl 0 rfl) ?_
  refine lv_iconst (v := 1) hx hb dX7_refuse_1 (by decide) ?_
  refine lv_icmp_ne (tgt := 15) hx hb dX7_refuse_2 (by decide) (fun c1 => ?_) (fun c1 => ?_)
  · refine lv_iload_n hx hb dX7_refuse_15 rfl (lv_at hl 0 rfl) ?_
    refine lv_iconst (v := 2) hx hb dX7_refuse_16 (by decide) ?_
    refine lv_icmp_ne (tgt := 30) hx hb dX7_refuse_17 (by decide) (fun c2 => ?_) (fun c2 => ?_)
    · refine lv_iload_n hx hb dX7_refuse_30 rfl (lv_at hl 0 rfl) ?_
      refine lv_iconst (v := 3) hx hb dX7_refuse_31 (by decide) ?_
      refine lv_icmp_ne (tgt := 45) hx hb dX7_refuse_32 (by decide) (fun c3 => ?_) (fun c3 => ?_)
      · have w0 : W p l e (headSpec wsX7_refuse ({ frames := 6, cells := 1, slots := 6, locals := 90 } : Room)).room s m ([.int x0] : List Value).toArray below meth c s.heap [] 1 6 (MQ below (va_Qv (fun (_ : Unit) => ¬ rfBad x0) (fun _ _ => True) (fun _ => False)) ([.int x0] : List Value).toArray s 1 6 (fun _ => False)) (F0 m 45 ls []) := W.vret hx hb hr (fun t ht hW => ⟨⟨(), rfl, fun h => h.elim c1 (fun h => h.elim c2 c3), trivial⟩, (va_S.rf (A := fun _ => False)).F ht⟩) (fun z hz => nomatch hz) dX7_refuse_45
        exact my_wide (by decide) (by decide) w0
      · refine vx_throwS hx hb hl0 (own := RX7) (cls := "java/lang/IllegalStateException") (names := ["java/lang/RuntimeException", "java/lang/Exception"]) (A := fun q => B ≤ q) hown (by decide +kernel) (by decide +kernel) (hts (.classLink RX7 250 "java/lang/IllegalStateException") (List.mem_of_getElem? (i := 5) rfl)) (hts (.initialized "java/lang/IllegalStateException") (List.mem_of_getElem? (i := 6) rfl)) hK0.2.1.2.1.2.2 (vx_hat (fun w hw => hts w (List.mem_cons_of_mem _ (List.mem_append_right _ hw))) (B := [.declares (Bundle.initS "java/lang/RuntimeException"), .declares (Bundle.initS "java/lang/Exception"), .declares (Bundle.initS Bundle.tN), .castable "java/lang/IllegalStateException" "java/lang/IllegalStateException"]) (by decide +kernel) (vx_c (va_Nw.use rfl hK0.2.1.2.2.1.1) (vx_c (va_Nw.use rfl hK0.2.1.2.2.1.2.1) (vx_c (va_Nw.use rfl hK0.2.1.2.2.1.2.2) (vx_c (va_Nw.use rfl hK0.2.1.2.2.2.2.2) vx_n))))) (by decide +kernel) hK0.2.2.2.2.2.2.2.2.2.2.1 hK0.2.2.2.2.2.2.2.2.2.2.2 hS (hl.1.trans hml.symm) dX7_refuse_35 dX7_refuse_38 dX7_refuse_39 dX7_refuse_41 dX7_refuse_44 (fun z hz => (hout z hz).elim) (by decide) (by decide) (by decide) (by decide) hlocks (fun t _ h1 h2 => ⟨(), Or.inr (Or.inr c3), Or.inr (Or.inr ⟨c3, rfl⟩), h1, fun q hq _ => h2 q hq⟩) (fun z hz => nomatch hz) (by decide) (by decide)
    · refine vx_throwS hx hb hl0 (own := RX7) (cls := "java/lang/IllegalArgumentException") (names := ["java/lang/RuntimeException", "java/lang/Exception"]) (A := fun q => B ≤ q) hown (by decide +kernel) (by decide +kernel) (hts (.classLink RX7 245 "java/lang/IllegalArgumentException") (List.mem_of_getElem? (i := 3) rfl)) (hts (.initialized "java/lang/IllegalArgumentException") (List.mem_of_getElem? (i := 4) rfl)) hK0.2.1.2.1.2.1 (vx_hat (fun w hw => hts w (List.mem_cons_of_mem _ (List.mem_append_left _ (List.mem_append_right _ hw)))) (B := [.declares (Bundle.initS "java/lang/RuntimeException"), .declares (Bundle.initS "java/lang/Exception"), .declares (Bundle.initS Bundle.tN), .castable "java/lang/IllegalArgumentException" "java/lang/IllegalArgumentException"]) (by decide +kernel) (vx_c (va_Nw.use rfl hK0.2.1.2.2.1.1) (vx_c (va_Nw.use rfl hK0.2.1.2.2.1.2.1) (vx_c (va_Nw.use rfl hK0.2.1.2.2.1.2.2) (vx_c (va_Nw.use rfl hK0.2.1.2.2.2.2.1) vx_n))))) (by decide +kernel) hK0.2.2.2.2.2.2.2.2.2.2.1 hK0.2.2.2.2.2.2.2.2.2.2.2 hS (hl.1.trans hml.symm) dX7_refuse_20 dX7_refuse_23 dX7_refuse_24 dX7_refuse_26 dX7_refuse_29 (fun z hz => (hout z hz).elim) (by decide) (by decide) (by decide) (by decide) hlocks (fun t _ h1 h2 => ⟨(), Or.inr (Or.inl c2), Or.inr (Or.inl ⟨c2, rfl⟩), h1, fun q hq _ => h2 q hq⟩) (fun z hz => nomatch hz) (by decide) (by decide)
  · refine vx_throwS hx hb hl0 (own := RX7) (cls := "java/lang/IndexOutOfBoundsException") (names := ["java/lang/RuntimeException", "java/lang/Exception"]) (A := fun q => B ≤ q) hown (by decide +kernel) (by decide +kernel) (hts (.classLink RX7 238 "java/lang/IndexOutOfBoundsException") (List.mem_of_getElem? (i := 1) rfl)) (hts (.initialized "java/lang/IndexOutOfBoundsException") (List.mem_of_getElem? (i := 2) rfl)) hK0.2.1.2.1.1 (vx_hat (fun w hw => hts w (List.mem_cons_of_mem _ (List.mem_append_left _ (List.mem_append_left _ (List.mem_append_right _ hw))))) (B := [.declares (Bundle.initS "java/lang/RuntimeException"), .declares (Bundle.initS "java/lang/Exception"), .declares (Bundle.initS Bundle.tN), .castable "java/lang/IndexOutOfBoundsException" "java/lang/IndexOutOfBoundsException"]) (by decide +kernel) (vx_c (va_Nw.use rfl hK0.2.1.2.2.1.1) (vx_c (va_Nw.use rfl hK0.2.1.2.2.1.2.1) (vx_c (va_Nw.use rfl hK0.2.1.2.2.1.2.2) (vx_c (va_Nw.use rfl hK0.2.1.2.2.2.1) vx_n))))) (by decide +kernel) hK0.2.2.2.2.2.2.2.2.2.2.1 hK0.2.2.2.2.2.2.2.2.2.2.2 hS (hl.1.trans hml.symm) dX7_refuse_5 dX7_refuse_8 dX7_refuse_9 dX7_refuse_11 dX7_refuse_14 (fun z hz => (hout z hz).elim) (by decide) (by decide) (by decide) (by decide) hlocks (fun t _ h1 h2 => ⟨(), Or.inl c1, Or.inl ⟨c1, rfl⟩, h1, fun q hq _ => h2 q hq⟩) (fun z hz => nomatch hz) (by decide) (by decide)
