-- sets of houses: told over all of them by the kernel
def bitT1 : Bool := (List.range 256).all fun x => (List.range 8).all fun k => [(0 : Nat), 1].all fun t => decide ((f_X10_with (nI x) (nI k) (nI t)).toBitVec.toNat < 256) && (List.range 8).all fun q => decide (f_X10_has (f_X10_with (nI x) (nI k) (nI t)) (nI q) = if q = k then nI t else f_X10_has (nI x) (nI q))
set_option maxRecDepth 100000 in
theorem bitT1_ok : bitT1 = true := by decide +kernel
def bitT2 : Bool := (List.range 256).all fun x => (List.range 8).all fun k => [(0 : Nat), 1].all fun t => decide (if f_X10_has (nI x) (nI k) = nI t then f_X10_with (nI x) (nI k) (nI t) = nI x else nI x ^^^ ((1 : Int32) <<< (nI k &&& 31)) = f_X10_with (nI x) (nI k) (nI t))
set_option maxRecDepth 100000 in
theorem bitT2_ok : bitT2 = true := by decide +kernel
def bitT3 : Bool := (List.range 256).all fun x => decide (f_X10_ones (nI x) = some (f_J6_bitCount_0f7a4 (nI x))) && decide ((f_J6_bitCount_0f7a4 (nI x)).toBitVec.toNat ≤ 8)
set_option maxRecDepth 100000 in
theorem bitT3_ok : bitT3 = true := by decide +kernel
def bitT4 : Bool := (List.range 8).all fun i => (List.range 256).all fun j => decide (j < 2 ^ i → nI j ||| ((1 : Int32) <<< (nI i &&& 31)) = nI (j + 2 ^ i))
set_option maxRecDepth 100000 in
theorem bitT4_ok : bitT4 = true := by decide +kernel
theorem nI_nat (x : Int32) : x = nI x.toBitVec.toNat := by
  apply Int32.toBitVec_inj.mp
  show x.toBitVec = BitVec.ofNat 32 x.toBitVec.toNat
  rw [BitVec.ofNat_toNat, BitVec.setWidth_eq]
theorem with_lt {x k t : Nat} (hx : x < 256) (hk : k < 8) (ht : t ≤ 1) : ∃ y, y < 256 ∧ f_X10_with (nI x) (nI k) (nI t) = nI y := by
  have h1 := List.all_eq_true.mp bitT1_ok x (List.mem_range.mpr hx)
  have h2 := List.all_eq_true.mp h1 k (List.mem_range.mpr hk)
  have h3 := List.all_eq_true.mp h2 t (by rcases (show t = 0 ∨ t = 1 by omega) with rfl | rfl <;> simp)
  rw [Bool.and_eq_true, decide_eq_true_eq] at h3
  exact ⟨_, h3.1, nI_nat _⟩
theorem with_has {x k t q : Nat} (hx : x < 256) (hk : k < 8) (ht : t ≤ 1) (hq : q < 8) : f_X10_has (f_X10_with (nI x) (nI k) (nI t)) (nI q) = if q = k then nI t else f_X10_has (nI x) (nI q) := by
  have h1 := List.all_eq_true.mp bitT1_ok x (List.mem_range.mpr hx)
  have h2 := List.all_eq_true.mp h1 k (List.mem_range.mpr hk)
  have h3 := List.all_eq_true.mp h2 t (by rcases (show t = 0 ∨ t = 1 by omega) with rfl | rfl <;> simp)
  rw [Bool.and_eq_true] at h3
  exact of_decide_eq_true (List.all_eq_true.mp h3.2 q (List.mem_range.mpr hq))
theorem with_same {x k t : Nat} (hx : x < 256) (hk : k < 8) (ht : t ≤ 1) (h : f_X10_has (nI x) (nI k) = nI t) : f_X10_with (nI x) (nI k) (nI t) = nI x := by
  have h1 := List.all_eq_true.mp bitT2_ok x (List.mem_range.mpr hx)
  have h2 := List.all_eq_true.mp h1 k (List.mem_range.mpr hk)
  have h3 := of_decide_eq_true (List.all_eq_true.mp h2 t (by rcases (show t = 0 ∨ t = 1 by omega) with rfl | rfl <;> simp))
  rw [if_pos h] at h3
  exact h3
theorem with_xor {x k t : Nat} (hx : x < 256) (hk : k < 8) (ht : t ≤ 1) (h : ¬ f_X10_has (nI x) (nI k) = nI t) : nI x ^^^ ((1 : Int32) <<< (nI k &&& 31)) = f_X10_with (nI x) (nI k) (nI t) := by
  have h1 := List.all_eq_true.mp bitT2_ok x (List.mem_range.mpr hx)
  have h2 := List.all_eq_true.mp h1 k (List.mem_range.mpr hk)
  have h3 := of_decide_eq_true (List.all_eq_true.mp h2 t (by rcases (show t = 0 ∨ t = 1 by omega) with rfl | rfl <;> simp))
  rw [if_neg h] at h3
  exact h3
theorem ones_bc {x : Nat} (hx : x < 256) : f_X10_ones (nI x) = some (f_J6_bitCount_0f7a4 (nI x)) := by
  have h1 := List.all_eq_true.mp bitT3_ok x (List.mem_range.mpr hx)
  rw [Bool.and_eq_true, decide_eq_true_eq] at h1
  exact h1.1
theorem bc_le {x : Nat} (hx : x < 256) : ∃ j, j ≤ 8 ∧ f_J6_bitCount_0f7a4 (nI x) = nI j := by
  have h1 := List.all_eq_true.mp bitT3_ok x (List.mem_range.mpr hx)
  rw [Bool.and_eq_true, decide_eq_true_eq, decide_eq_true_eq] at h1
  exact ⟨_, h1.2, nI_nat _⟩
theorem or_bit {i j : Nat} (hi : i < 8) (hj : j < 2 ^ i) : nI j ||| ((1 : Int32) <<< (nI i &&& 31)) = nI (j + 2 ^ i) := by
  have h1 := List.all_eq_true.mp bitT4_ok i (List.mem_range.mpr hi)
  have h2 : 2 ^ i ≤ 2 ^ 8 := Nat.pow_le_pow_right (by decide) (by omega)
  exact of_decide_eq_true (List.all_eq_true.mp h1 j (List.mem_range.mpr (by omega))) hj
theorem has_01 (x k : Int32) : f_X10_has x k = 0 ∨ f_X10_has x k = 1 := fb_X10_has x k
-- which houses are clear
def clr (d : Nat → Int32) : Int32 := itn (fun i a => if d i = 0 then a ||| ((1 : Int32) <<< (nI i &&& 31)) else a) 0 8 0
theorem clr_congr {d d' : Nat → Int32} (h : ∀ i, i < 8 → d i = d' i) : clr d = clr d' := by
  unfold clr
  refine itn_rel (fun _ a b => a = b) 8 (fun i s t hi hs => ?_) 8 0 0 0 (by omega) rfl
  subst hs
  show (if d i = 0 then _ else _) = (if d' i = 0 then _ else _)
  rw [h i hi]
theorem clr_lt (d : Nat → Int32) : ∃ j, j < 256 ∧ clr d = nI j := by
  unfold clr
  refine itn_inv (fun i a => ∃ j, j < 2 ^ i ∧ a = nI j) 8 (fun i s hi hs => ?_) 8 0 0 (by omega) ⟨0, by decide, rfl⟩
  obtain ⟨j, hj, rfl⟩ := hs
  show ∃ q, q < 2 ^ (i + 1) ∧ (if d i = 0 then _ else _) = nI q
  have h2 : 2 ^ (i + 1) = 2 ^ i + 2 ^ i := by rw [Nat.pow_succ]; omega
  by_cases q : d i = 0
  · rw [if_pos q, or_bit hi hj]
    exact ⟨_, by omega, rfl⟩
  · rw [if_neg q]
    exact ⟨j, by omega, rfl⟩
theorem clear8 (M : Mem) : f_X8_clearHouses_8 M = some (clr (M 9)) := by
  refine (loop_up (σ := Int32) (fun n a i => lp_X8_clearHouses_8_4 M n a i) (fun _ _ => True) (fun i a => if M 9 i = 0 then a ||| ((1 : Int32) <<< (nI i &&& 31)) else a) (fun a => some a) 8 ?_ ?_ 8 0 0 FU (by omega) (FU_lt (by omega)) trivial).1
  · intro n i s hi _
    refine ⟨?_, trivial⟩
    show bd_X8_clearHouses_8_4 _ _ _ _ = _
    unfold bd_X8_clearHouses_8_4
    rw [if_neg (show ¬ (8 : Int32) ≤ nI i from nI_ge (b := 8) hi (by omega)), inb_nI hi (by decide), ix_nI (by omega), n_s]
    by_cases q : M 9 i = 0
    · simp only [q, if_true]
    · simp only [q, if_false, if_true]
  · intro n s _
    show bd_X8_clearHouses_8_4 _ _ _ _ = _
    unfold bd_X8_clearHouses_8_4
    rw [if_pos (by decide)]
theorem clear1 (M : Mem) : f_X8_clearHouses_1 M = some (clr (M 2)) := by
  refine (loop_up (σ := Int32) (fun n a i => lp_X8_clearHouses_1_4 M n a i) (fun _ _ => True) (fun i a => if M 2 i = 0 then a ||| ((1 : Int32) <<< (nI i &&& 31)) else a) (fun a => some a) 8 ?_ ?_ 8 0 0 FU (by omega) (FU_lt (by omega)) trivial).1
  · intro n i s hi _
    refine ⟨?_, trivial⟩
    show bd_X8_clearHouses_1_4 _ _ _ _ = _
    unfold bd_X8_clearHouses_1_4
    rw [if_neg (show ¬ (8 : Int32) ≤ nI i from nI_ge (b := 8) hi (by omega)), inb_nI hi (by decide), ix_nI (by omega), n_s]
    by_cases q : M 2 i = 0
    · simp only [q, if_true]
    · simp only [q, if_false, if_true]
  · intro n s _
    show bd_X8_clearHouses_1_4 _ _ _ _ = _
    unfold bd_X8_clearHouses_1_4
    rw [if_pos (by decide)]
theorem clear10 (M : Mem) : f_X10_clear M = some (clr (M 54)) := by
  refine (loop_up (σ := Int32) (fun n a i => lp_X10_clear_4 M n a i) (fun _ _ => True) (fun i a => if M 54 i = 0 then a ||| ((1 : Int32) <<< (nI i &&& 31)) else a) (fun a => some a) 8 ?_ ?_ 8 0 0 FU (by omega) (FU_lt (by omega)) trivial).1
  · intro n i s hi _
    refine ⟨?_, trivial⟩
    show bd_X10_clear_4 _ _ _ _ = _
    unfold bd_X10_clear_4 lb_X10_clear_27
    rw [if_neg (show ¬ (8 : Int32) ≤ nI i from nI_ge (b := 8) hi (by omega)), inb_nI hi (by decide), ix_nI (by omega), n_s]
    by_cases q : M 54 i = 0
    · simp only [q, if_true]
    · simp only [q, if_false, if_true, Int32.or_zero]
  · intro n s _
    show bd_X10_clear_4 _ _ _ _ = _
    unfold bd_X10_clear_4
    rw [if_pos (by decide)]
def sum8 (d : Nat → Int32) : Int32 := itn (fun i a => a + d i) 0 8 0
theorem sum8_congr {d d' : Nat → Int32} (h : ∀ i, i < 8 → d i = d' i) : sum8 d = sum8 d' := by
  unfold sum8
  refine itn_rel (fun _ a b => a = b) 8 (fun i s t hi hs => ?_) 8 0 0 0 (by omega) rfl
  subst hs
  show s + d i = s + d' i
  rw [h i hi]
theorem all8 (M : Mem) : f_X8_allDoubts_8 M = some (sum8 (M 9)) := by
  refine (loop_up (σ := Int32) (fun n a i => lp_X8_allDoubts_8_4 M n a i) (fun _ _ => True) (fun i a => a + M 9 i) (fun a => some a) 8 ?_ ?_ 8 0 0 FU (by omega) (FU_lt (by omega)) trivial).1
  · intro n i s hi _
    refine ⟨?_, trivial⟩
    show bd_X8_allDoubts_8_4 _ _ _ _ = _
    unfold bd_X8_allDoubts_8_4
    rw [if_neg (show ¬ (8 : Int32) ≤ nI i from nI_ge (b := 8) hi (by omega)), inb_nI hi (by decide), ix_nI (by omega), n_s]
    rfl
  · intro n s _
    show bd_X8_allDoubts_8_4 _ _ _ _ = _
    unfold bd_X8_allDoubts_8_4
    rw [if_pos (by decide)]
theorem all10 (M : Mem) : f_X10_allDoubts M = some (sum8 (M 54)) := by
  refine (loop_up (σ := Int32) (fun n a i => lp_X10_allDoubts_4 M n a i) (fun _ _ => True) (fun i a => a + M 54 i) (fun a => some a) 8 ?_ ?_ 8 0 0 FU (by omega) (FU_lt (by omega)) trivial).1
  · intro n i s hi _
    refine ⟨?_, trivial⟩
    show bd_X10_allDoubts_4 _ _ _ _ = _
    unfold bd_X10_allDoubts_4
    rw [if_neg (show ¬ (8 : Int32) ≤ nI i from nI_ge (b := 8) hi (by omega)), inb_nI hi (by decide), ix_nI (by omega), n_s]
    rfl
  · intro n s _
    show bd_X10_allDoubts_4 _ _ _ _ = _
    unfold bd_X10_allDoubts_4
    rw [if_pos (by decide)]
