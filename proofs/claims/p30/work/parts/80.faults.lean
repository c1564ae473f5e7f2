/-! part 80 -/
theorem rf_inl {α : Type} {x f : Int32} {k : Int32 ⊕ α} (h : my_rf x k = .inl f) : (f = x ∧ rfBad x) ∨ (¬ rfBad x ∧ k = .inl f) := by
  by_cases b : rfBad x
  · rw [my_rf_no b] at h; cases h; exact Or.inl ⟨rfl, b⟩
  · rw [my_rf_ok b] at h; exact Or.inr ⟨b, h⟩
theorem rfB0 : ¬ rfBad 0 := by decide
theorem in_1' {x f : Int32} (h : x = 0 ∨ x = 1) (hb : f = x ∧ rfBad x) : f = 1 := by
  obtain ⟨rfl, b⟩ := hb
  rcases h with rfl | rfl
  · exact absurd b rfB0
  · rfl
theorem in_2' {x f : Int32} (h : x = 0 ∨ x = 2) (hb : f = x ∧ rfBad x) : f = 2 := by
  obtain ⟨rfl, b⟩ := hb
  rcases h with rfl | rfl
  · exact absurd b rfB0
  · rfl
theorem in_12' {x f : Int32} (h : x = 0 ∨ x = 1 ∨ x = 2) (hb : f = x ∧ rfBad x) : f = 1 ∨ f = 2 := by
  obtain ⟨rfl, b⟩ := hb
  rcases h with rfl | rfl | rfl
  · exact absurd b rfB0
  · exact Or.inl rfl
  · exact Or.inr rfl
theorem rgF (a b c : Int32) : f_X7_faultOfRange a b c = 0 ∨ f_X7_faultOfRange a b c = 2 := by
  unfold f_X7_faultOfRange
  split
  · exact Or.inr rfl
  · split
    · exact Or.inl rfl
    · exact Or.inr rfl
theorem fmF (v : SetV) (x : Int32) : f_X6_faultOfMember v x = 0 ∨ f_X6_faultOfMember v x = 1 := by
  unfold f_X6_faultOfMember
  split
  · exact Or.inr rfl
  · exact Or.inl rfl
theorem frF (v : SetV) (x : Int32) : f_X6_faultOfRule v x = 0 ∨ f_X6_faultOfRule v x = 1 := by
  unfold f_X6_faultOfRule
  split
  · exact Or.inr rfl
  · split
    · exact Or.inl rfl
    · exact Or.inr rfl
theorem woF {P : Int32 → Prop} {a b : Int32} (ha : P a) (hb : P b) : P (f_X6_worse a b) := by
  unfold f_X6_worse
  split
  · exact hb
  · exact ha
theorem fnF (v : SetV) (x y : Int32) : f_X6_faultOfNewRule v x y = 0 ∨ f_X6_faultOfNewRule v x y = 2 := by
  unfold f_X6_faultOfNewRule
  split
  · exact rgF _ _ _
  · split
    · exact rgF _ _ _
    · split
      · exact rgF _ _ _
      · exact Or.inr rfl
theorem fsF (v : SetV) (x : Int32) : f_X6_faultOfSet v x = 0 ∨ f_X6_faultOfSet v x = 2 := rgF _ _ _
section KINDS
variable {st : Int32} {v v2 s0 s1 s2 s3 : SetV} {w w2 : PowV} {z : Int32 × Int32} {x x' f : Int32} {tx : TxtV}
theorem pf_inl {k : Nat} (h : f_X7_perform st v z s0 s1 s2 s3 k x x' = .inl f) : f = f_X6_faultOf v k x x' ∧ rfBad (f_X6_faultOf v k x x') := by
  unfold f_X7_perform at h
  rcases rf_inl h with e | ⟨_, e⟩
  · exact e
  · rw [my_l_eq, my_b_eq] at e; cases e
theorem k_add (h : f_X7_add st v z s0 s1 s2 s3 x = .inl f) : f = 2 ∨ f = 3 := by
  unfold f_X7_add at h
  rw [s_eta] at h
  obtain ⟨rfl, b⟩ := pf_inl h
  have e : f_X6_faultOf v 0 x 0 = 0 ∨ f_X6_faultOf v 0 x 0 = 2 ∨ f_X6_faultOf v 0 x 0 = 3 := by
    unfold f_X6_faultOf
    rw [if_pos (by decide)]
    have hr : f_X7_faultOfRange x 0 50 = 0 ∨ f_X7_faultOfRange x 0 50 = 2 ∨ f_X7_faultOfRange x 0 50 = 3 := (rgF x 0 50).elim Or.inl (fun z => Or.inr (Or.inl z))
    split
    · exact woF (P := fun z => z = 0 ∨ z = 2 ∨ z = 3) hr (Or.inl rfl)
    · exact woF (P := fun z => z = 0 ∨ z = 2 ∨ z = 3) hr (Or.inr (Or.inr rfl))
  rcases e with e | e | e
  · rw [e] at b; exact absurd b rfB0
  · exact Or.inl e
  · exact Or.inr e
theorem k_setWeight (h : f_X7_setWeight st v z s0 s1 s2 s3 x x' = .inl f) : f = 1 ∨ f = 2 := by
  unfold f_X7_setWeight at h
  rw [s_eta] at h
  refine in_12' ?_ (pf_inl h)
  unfold f_X6_faultOf
  rw [if_neg (by decide), if_pos (by decide)]
  exact woF (P := fun z => z = 0 ∨ z = 1 ∨ z = 2) ((fmF v x).elim Or.inl (fun z => Or.inr (Or.inl z))) ((rgF x' 0 50).elim Or.inl (fun z => Or.inr (Or.inr z)))
theorem k_setQuota (h : f_X7_setQuota st v z s0 s1 s2 s3 x = .inl f) : f = 2 := by
  unfold f_X7_setQuota at h
  rw [s_eta] at h
  refine in_2' ?_ (pf_inl h)
  unfold f_X6_faultOf
  rw [if_neg (by decide), if_neg (by decide), if_pos (by decide)]
  exact rgF _ _ _
theorem k_follow (h : f_X7_follow st v z s0 s1 s2 s3 x x' = .inl f) : f = 1 ∨ f = 2 ∨ f = 3 := by
  unfold f_X7_follow at h
  rw [s_eta] at h
  obtain ⟨rfl, b⟩ := pf_inl h
  exact b
theorem k_leave (h : f_X7_leave st v z s0 s1 s2 s3 x = .inl f) : f = 1 ∨ f = 3 := by
  unfold f_X7_leave at h
  rw [s_eta] at h
  obtain ⟨rfl, b⟩ := pf_inl h
  have e : f_X6_faultOf v 4 x 0 = 0 ∨ f_X6_faultOf v 4 x 0 = 1 ∨ f_X6_faultOf v 4 x 0 = 3 := by
    unfold f_X6_faultOf
    rw [if_neg (by decide), if_neg (by decide), if_neg (by decide), if_neg (by decide), if_pos (by decide)]
    have hr : f_X6_faultOfMember v x = 0 ∨ f_X6_faultOfMember v x = 1 ∨ f_X6_faultOfMember v x = 3 := (fmF v x).elim Or.inl (fun z => Or.inr (Or.inl z))
    split
    · exact woF (P := fun z => z = 0 ∨ z = 1 ∨ z = 3) hr (Or.inl rfl)
    · exact woF (P := fun z => z = 0 ∨ z = 1 ∨ z = 3) hr (Or.inr (Or.inr rfl))
  rcases e with e | e | e
  · rw [e] at b; exact absurd b rfB0
  · exact Or.inl e
  · exact Or.inr e
theorem k_addRule (h : f_X7_addRule st v z s0 s1 s2 s3 x x' = .inl f) : f = 2 ∨ f = 3 := by
  unfold f_X7_addRule at h
  rw [s_eta] at h
  obtain ⟨rfl, b⟩ := pf_inl h
  have e : f_X6_faultOf v 5 x x' = 0 ∨ f_X6_faultOf v 5 x x' = 2 ∨ f_X6_faultOf v 5 x x' = 3 := by
    unfold f_X6_faultOf
    rw [if_neg (by decide), if_neg (by decide), if_neg (by decide), if_neg (by decide), if_neg (by decide), if_pos (by decide)]
    have hr : f_X6_faultOfNewRule v x x' = 0 ∨ f_X6_faultOfNewRule v x x' = 2 ∨ f_X6_faultOfNewRule v x x' = 3 := (fnF v x x').elim Or.inl (fun z => Or.inr (Or.inl z))
    split
    · exact woF (P := fun z => z = 0 ∨ z = 2 ∨ z = 3) hr (Or.inl rfl)
    · exact woF (P := fun z => z = 0 ∨ z = 2 ∨ z = 3) hr (Or.inr (Or.inr rfl))
  rcases e with e | e | e
  · rw [e] at b; exact absurd b rfB0
  · exact Or.inl e
  · exact Or.inr e
theorem k_dropRule (h : f_X7_dropRule st v z s0 s1 s2 s3 x = .inl f) : f = 1 := by
  unfold f_X7_dropRule at h
  rw [s_eta] at h
  refine in_1' ?_ (pf_inl h)
  unfold f_X6_faultOf
  rw [if_neg (by decide), if_neg (by decide), if_neg (by decide), if_neg (by decide), if_neg (by decide), if_neg (by decide), if_pos (by decide)]
  exact frF _ _
theorem k_member (h : f_X7_member st v w x x' = .inl f) : f = 1 ∨ f = 2 := by
  unfold f_X7_member at h
  rcases rf_inl h with e | ⟨_, e⟩
  · exact Or.inl (in_1' (fmF v x) e)
  · rcases rf_inl e with e | ⟨_, e⟩
    · exact Or.inr (in_2' (rgF _ _ _) e)
    · rw [my_l_eq] at e; cases e
theorem k_rule (h : f_X7_rule st v x x' = .inl f) : f = 1 ∨ f = 2 := by
  unfold f_X7_rule at h
  rcases rf_inl h with e | ⟨_, e⟩
  · exact Or.inl (in_1' (frF v x) e)
  · rcases rf_inl e with e | ⟨_, e⟩
    · exact Or.inr (in_2' (rgF _ _ _) e)
    · cases e
theorem k_whole (h : f_X7_whole st v w tx x = .inl f) : f = 2 := by
  unfold f_X7_whole at h
  rcases rf_inl h with e | ⟨_, e⟩
  · exact in_2' (rgF _ _ _) e
  · rw [my_l_eq] at e; cases e
theorem k_wins (h : f_X7_wins st v w x = .inl f) : f = 2 := by
  unfold f_X7_wins at h
  rcases rf_inl h with e | ⟨_, e⟩
  · exact in_2' (fsF _ _) e
  · rw [my_l_eq] at e
    split at e <;> cases e
theorem k_least (h : f_X7_least st v w x = .inl f) : f = 2 := by
  unfold f_X7_least at h
  split at h
  · rcases rf_inl h with e | ⟨_, e⟩
    · exact absurd e.2 rfB0
    · rw [my_l_eq] at e
      split at e <;> cases e
  · rcases rf_inl h with e | ⟨_, e⟩
    · exact e.1
    · rw [my_l_eq] at e
      split at e <;> cases e
theorem k_share (h : f_X7_share st v w x = .inl f) : f = 1 := by
  unfold f_X7_share at h
  rcases rf_inl h with e | ⟨_, e⟩
  · exact in_1' (fmF v x) e
  · rw [my_l_eq] at e; cases e
theorem k_part (h : f_X7_part st v w x = .inl f) : f = 1 := by
  unfold f_X7_part at h
  rcases rf_inl h with e | ⟨_, e⟩
  · exact in_1' (fmF v x) e
  · rw [my_l_eq] at e; cases e
end KINDS
