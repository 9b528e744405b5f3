def bitT5 : Bool := (List.range 256).all fun x => (List.range 8).all fun k => decide (f_X10_has (nI x) (nI k) = if x.testBit k then 1 else 0)
theorem bitT5_ok : bitT5 = true := by decide +kernel
theorem has_tb {x k : Nat} (hx : x < 256) (hk : k < 8) : f_X10_has (nI x) (nI k) = if x.testBit k then 1 else 0 := by
  have h := bitT5_ok
  unfold bitT5 at h
  rw [List.all_eq_true] at h
  have h2 := h x (List.mem_range.mpr hx)
  rw [List.all_eq_true] at h2
  exact of_decide_eq_true (h2 k (List.mem_range.mpr hk))
theorem has_1 {x k : Nat} (hx : x < 256) (hk : k < 8) : f_X10_has (nI x) (nI k) = 1 ↔ x.testBit k = true := by
  rw [has_tb hx hk]
  cases x.testBit k <;> decide
theorem nI_tn {x : Nat} (hx : x < 2 ^ 31) : (nI x).toBitVec.toNat = x := by
  show (BitVec.ofNat 32 x).toNat = x
  rw [BitVec.toNat_ofNat, Nat.mod_eq_of_lt (by omega)]
theorem or_nI {x y : Nat} (hx : x < 2 ^ 31) (hy : y < 2 ^ 31) : nI x ||| nI y = nI (x ||| y) := by
  refine (nI_nat _).trans (congrArg nI ?_)
  show ((BitVec.ofNat 32 x) ||| (BitVec.ofNat 32 y)).toNat = _
  rw [BitVec.toNat_or, BitVec.toNat_ofNat, BitVec.toNat_ofNat, Nat.mod_eq_of_lt (by omega), Nat.mod_eq_of_lt (by omega)]
theorem sub_nI {x y : Nat} (hx : x < 256) (hy : y < 256) : nI x &&& (nI y ^^^ -1) = 0 ↔ ∀ k, k < 8 → x.testBit k = true → y.testBit k = true := by
  have e : nI x &&& (nI y ^^^ -1) = nI (x &&& (y ^^^ 4294967295)) := by
    refine (nI_nat _).trans (congrArg nI ?_)
    show ((BitVec.ofNat 32 x) &&& ((BitVec.ofNat 32 y) ^^^ (BitVec.ofNat 32 4294967295))).toNat = _
    rw [BitVec.toNat_and, BitVec.toNat_xor, BitVec.toNat_ofNat, BitVec.toNat_ofNat, BitVec.toNat_ofNat, Nat.mod_eq_of_lt (by omega), Nat.mod_eq_of_lt (by omega), Nat.mod_eq_of_lt (by omega)]
  have le : x &&& (y ^^^ 4294967295) ≤ x := Nat.and_le_left
  have tb : ∀ k, k < 32 → (4294967295 : Nat).testBit k = true := by decide
  have hi : ∀ k, 8 ≤ k → x.testBit k = false := fun k hk => Nat.testBit_lt_two_pow (Nat.lt_of_lt_of_le hx (Nat.pow_le_pow_right (n := 2) (by omega) hk))
  have z : (nI (x &&& (y ^^^ 4294967295)) = 0) ↔ x &&& (y ^^^ 4294967295) = 0 := nI_eq (b := 0) (by omega) (by omega)
  rw [e, z]
  constructor
  · intro h k hk hx1
    have := congrArg (fun n => Nat.testBit n k) h
    simp only [Nat.testBit_and, Nat.testBit_xor, hx1, tb k (by omega), Nat.zero_testBit] at this
    revert this
    cases y.testBit k <;> simp
  · intro h
    refine Nat.eq_of_testBit_eq fun k => ?_
    rw [Nat.testBit_and, Nat.testBit_xor, Nat.zero_testBit]
    by_cases hk : k < 8
    · rw [tb k (by omega)]
      have := h k hk
      revert this
      cases x.testBit k <;> cases y.testBit k <;> simp
    · rw [hi k (by omega)]; rfl
theorem one_nI {k : Nat} (hk : k < 8) : (1 : Int32) <<< (nI k &&& 31) = nI (2 ^ k) := by
  have : ∀ k, k < 8 → (1 : Int32) <<< (nI k &&& 31) = nI (2 ^ k) := by decide +kernel
  exact this k hk
