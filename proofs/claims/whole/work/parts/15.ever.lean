def evT (c : Nat) : Bool := (List.range 16).all fun a => (List.range (a + 2)).all fun b => [(0 : Nat), 1].all fun p => decide (f_X9_ever (nI (a + 1)) (nI b) (nI c) (nI p) = f_X10_ever (nI (a + 1)) (nI b) (nI c) (nI p)) && (f_X9_ever (nI (a + 1)) (nI b) (nI c) (nI p)).isSome
set_option maxRecDepth 100000 in
theorem evT_1 : evT 1 = true := by decide +kernel
set_option maxRecDepth 100000 in
theorem evT_2 : evT 2 = true := by decide +kernel
set_option maxRecDepth 100000 in
theorem evT_3 : evT 3 = true := by decide +kernel
set_option maxRecDepth 100000 in
theorem evT_4 : evT 4 = true := by decide +kernel
set_option maxRecDepth 100000 in
theorem evT_5 : evT 5 = true := by decide +kernel
set_option maxRecDepth 100000 in
theorem evT_6 : evT 6 = true := by decide +kernel
set_option maxRecDepth 100000 in
theorem evT_7 : evT 7 = true := by decide +kernel
set_option maxRecDepth 100000 in
theorem evT_8 : evT 8 = true := by decide +kernel
set_option maxRecDepth 100000 in
theorem evT_9 : evT 9 = true := by decide +kernel
theorem evT_use {c : Nat} (h : evT c = true) {a b p : Nat} (ha : a < 16) (hb : b < a + 2) (hp : p ≤ 1) : ∃ r, f_X9_ever (nI (a + 1)) (nI b) (nI c) (nI p) = some r ∧ f_X10_ever (nI (a + 1)) (nI b) (nI c) (nI p) = some r := by
  have h1 := List.all_eq_true.mp h a (List.mem_range.mpr ha)
  have h2 := List.all_eq_true.mp h1 b (List.mem_range.mpr hb)
  have h3 := List.all_eq_true.mp h2 p (by rcases (show p = 0 ∨ p = 1 by omega) with rfl | rfl <;> simp)
  rw [Bool.and_eq_true, decide_eq_true_eq] at h3
  obtain ⟨r, hr⟩ := Option.isSome_iff_exists.mp h3.2
  exact ⟨r, hr, by rw [← h3.1]; exact hr⟩
/-- a number from lo on, or none -/
theorem within_or2 (v : Int32) (l : Nat) (hi : Int32) (hl : l < 2 ^ 31) : f_X9_within v (OfNat.ofNat l) hi = 0 ∨ ∃ j : Nat, l ≤ j ∧ (j : Int) ≤ hi.toInt ∧ v = nI j ∧ j < 2 ^ 31 ∧ f_X9_within v (OfNat.ofNat l) hi = 1 := by
  by_cases h : f_X9_within v (OfNat.ofNat l) hi = 0
  · exact Or.inl h
  · refine Or.inr ?_
    have h3 := Classical.not_not.mp (fun q => h (within_0.mpr q))
    rw [toI_lit l hl] at h3
    have hr := Int32.toInt_lt v
    obtain ⟨j, hj, ej⟩ := nIr (x := v) (N := 2 ^ 31) (by omega) (by omega)
    have e2 : v.toInt = (j : Int) := by rw [ej]; exact nI_toInt hj
    exact ⟨j, by omega, by omega, ej, hj, (fb_X9_within _ _ _).resolve_left h⟩
theorem m_ever (v1 v2 v3 v4 : Int32) : ∃ r, f_X9_ever v1 v2 v3 v4 = some r ∧ f_X10_ever v1 v2 v3 v4 = some r := by
  have e1 : f_X10_in v1.toInt64 1 16 = f_X9_within v1 1 16 := inw rfl rfl
  have e2 : f_X10_in v2.toInt64 0 v1.toInt64 = f_X9_within v2 0 v1 := inw rfl rfl
  have e3 : f_X10_in v3.toInt64 1 9 = f_X9_within v3 1 9 := inw rfl rfl
  have e4 : f_X10_in v4.toInt64 0 1 = f_X9_within v4 0 1 := inw rfl rfl
  rcases within_or2 v1 1 16 (by decide) with h1 | ⟨j1, a1, b1, r1, c1, h1⟩
  · refine ⟨-1000000000000000002, ?_, ?_⟩
    · unfold f_X9_ever; rw [if_pos h1]
    · unfold f_X10_ever; rw [if_pos (e1.trans h1)]
  have h1' : ¬ f_X9_within v1 1 16 = 0 := by rw [h1]; decide
  rcases within_or2 v2 0 v1 (by decide) with h2 | ⟨j2, a2, b2, r2, c2, h2⟩
  · refine ⟨-1000000000000000002, ?_, ?_⟩
    · unfold f_X9_ever; rw [if_neg h1', if_pos h2]
    · unfold f_X10_ever; rw [e1, if_neg h1', if_pos (e2.trans h2)]
  have h2' : ¬ f_X9_within v2 0 v1 = 0 := by rw [h2]; decide
  rcases within_or2 v3 1 9 (by decide) with h3 | ⟨j3, a3, b3, r3, c3, h3⟩
  · refine ⟨-1000000000000000002, ?_, ?_⟩
    · unfold f_X9_ever; rw [if_neg h1', if_neg h2', if_pos h3]
    · unfold f_X10_ever; rw [e1, e2, if_neg h1', if_neg h2', if_pos (e3.trans h3)]
  have h3' : ¬ f_X9_within v3 1 9 = 0 := by rw [h3]; decide
  rcases within_or2 v4 0 1 (by decide) with h4 | ⟨j4, a4, b4, r4, c4, h4⟩
  · refine ⟨-1000000000000000002, ?_, ?_⟩
    · unfold f_X9_ever; rw [if_neg h1', if_neg h2', if_neg h3', if_pos h4]
    · unfold f_X10_ever; rw [e1, e2, e3, if_neg h1', if_neg h2', if_neg h3', if_pos (e4.trans h4)]
  have t16 : (16 : Int32).toInt = 16 := rfl
  have t9 : (9 : Int32).toInt = 9 := rfl
  have t1 : (1 : Int32).toInt = 1 := rfl
  rw [r1, nI_toInt c1] at b2
  obtain ⟨a, rfl⟩ : ∃ a, j1 = a + 1 := ⟨j1 - 1, by omega⟩
  rw [r1, r2, r3, r4]
  have ha : a < 16 := by omega
  have hb : j2 < a + 2 := by omega
  have hp : j4 ≤ 1 := by omega
  rcases (show j3 = 1 ∨ j3 = 2 ∨ j3 = 3 ∨ j3 = 4 ∨ j3 = 5 ∨ j3 = 6 ∨ j3 = 7 ∨ j3 = 8 ∨ j3 = 9 by omega) with rfl | rfl | rfl | rfl | rfl | rfl | rfl | rfl | rfl
  · exact evT_use evT_1 ha hb hp
  · exact evT_use evT_2 ha hb hp
  · exact evT_use evT_3 ha hb hp
  · exact evT_use evT_4 ha hb hp
  · exact evT_use evT_5 ha hb hp
  · exact evT_use evT_6 ha hb hp
  · exact evT_use evT_7 ha hb hp
  · exact evT_use evT_8 ha hb hp
  · exact evT_use evT_9 ha hb hp
