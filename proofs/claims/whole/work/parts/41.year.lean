theorem remI_nI {a d : Nat} (ha : a < 2 ^ 31) (h0 : 0 < d) (hd : d < 2 ^ 31) : remI (nI a) (nI d) = nI (a % d) := pk_rem ha h0 hd
theorem mul_nI (a b : Nat) : nI a * nI b = nI (a * b) := (Int32.ofNat_mul a b).symm
theorem toL_nI {a : Nat} (ha : a < 2 ^ 31) : (nI a).toInt64 = Int64.ofNat a := by
  apply Int64.toInt.inj
  rw [Int32.toInt_toInt64, nI_toInt ha, Int64.toInt_ofNat_of_lt (by omega)]
theorem divL {a d : Nat} (ha : a < 2 ^ 31) (h0 : 0 < d) (hd : d < 2 ^ 31) : Int64.ofNat a / Int64.ofNat d = Int64.ofNat (a / d) := by
  have : a / d ≤ a := Nat.div_le_self a d
  apply Int64.toInt.inj
  rw [Int64.toInt_div, Int64.toInt_ofNat_of_lt (by omega), Int64.toInt_ofNat_of_lt (by omega), Int64.toInt_ofNat_of_lt (by omega)]
  rw [Int.tdiv_eq_ediv_of_nonneg (by omega), ← Int.natCast_ediv]
  generalize a / d = q at *
  exact Int.bmod_eq_of_le (by omega) (by omega)
theorem remL_n {a d : Nat} (ha : a < 2 ^ 31) (h0 : 0 < d) (hd : d < 2 ^ 31) : remL (Int64.ofNat a) (Int64.ofNat d) = Int64.ofNat (a % d) := by
  show Int64.ofNat a - Int64.ofNat a / Int64.ofNat d * Int64.ofNat d = _
  rw [divL ha h0 hd, ← Int64.ofNat_mul]
  have e : a = a / d * d + a % d := by rw [Nat.mul_comm]; exact (Nat.div_add_mod a d).symm
  have : Int64.ofNat a = Int64.ofNat (a / d * d) + Int64.ofNat (a % d) := by rw [← Int64.ofNat_add, ← e]
  rw [this]; grind
theorem toI_L {a : Nat} (ha : a < 2 ^ 31) : (Int64.ofNat a).toInt32 = nI a := by
  rw [← toL_nI ha, Int32.toInt32_toInt64]
theorem lcg {x : Nat} (hx : x ≤ 65536) : remI (75 * nI x + 74) 65537 = nI ((75 * x + 74) % 65537) ∧ Int64.toInt32 (remL (75 * (nI x).toInt64 + 74) 65537) = nI ((75 * x + 74) % 65537) := by
  constructor
  · rw [show (75 : Int32) * nI x = nI (75 * x) from mul_nI 75 x, show nI (75 * x) + 74 = nI (75 * x + 74) from nI_add _ 74]
    exact remI_nI (d := 65537) (by omega) (by omega) (by omega)
  · rw [toL_nI (by omega)]
    have e : (75 : Int64) * Int64.ofNat x + 74 = Int64.ofNat (75 * x + 74) := by
      rw [Int64.ofNat_add, Int64.ofNat_mul]; rfl
    rw [e, show remL (Int64.ofNat (75 * x + 74)) 65537 = Int64.ofNat ((75 * x + 74) % 65537) from remL_n (d := 65537) (by omega) (by omega) (by omega)]
    exact toI_L (by omega)
theorem floorMod_nI {a : Nat} (ha : a < 2 ^ 31) : f_J9_floorMod_7cf53 (nI a) 8 = some (nI (a % 8)) := by
  unfold f_J9_floorMod_7cf53
  have x : nI a ^^^ 8 = nI (a ^^^ 8) := by
    refine (nI_nat _).trans (congrArg nI ?_)
    show ((BitVec.ofNat 32 a) ^^^ (BitVec.ofNat 32 8)).toNat = _
    rw [BitVec.toNat_xor, BitVec.toNat_ofNat, BitVec.toNat_ofNat, Nat.mod_eq_of_lt (by omega), Nat.mod_eq_of_lt (by omega)]
  have y : a ^^^ 8 < 2 ^ 31 := Nat.xor_lt_two_pow ha (by decide)
  rw [if_neg (by decide), x, if_pos (show (0 : Int32) ≤ nI (a ^^^ 8) from nI_le (a := 0) (by omega) y)]
  exact congrArg some (remI_nI (d := 8) ha (by decide) (by decide))
theorem div_nI {a d : Nat} (ha : a < 2 ^ 31) (h0 : 0 < d) (hd : d < 2 ^ 31) : nI a / nI d = nI (a / d) := pk_div ha h0 hd
def kindOf (x : Nat) : Nat := min 6 (x / 8 % 8)
theorem draw_eq {M : Mem} {x : Nat} (hx : x ≤ 65536) : ∃ M1, f_X0_draw_17 (nI x) M = some M1 ∧ (∀ k, k ≠ 17 → M1 k = M k) ∧ ((kindOf x = 4 ∧ ¬ x / 64 % 4 = 0 ∧ M1 17 0 = 0) ∨ (¬ (kindOf x = 4 ∧ ¬ x / 64 % 4 = 0) ∧ M1 17 0 = sgn (kindOf x) ∧ M1 17 1 = nI (x % 8) ∧ M1 17 2 = nI (x / 64 % 8))) := by
  have h8 : nI x / 8 = nI (x / 8) := div_nI (d := 8) (by omega) (by decide) (by decide)
  have h64 : nI x / 64 = nI (x / 64) := div_nI (d := 64) (by omega) (by decide) (by decide)
  have h4 : remI (nI (x / 64)) 4 = nI (x / 64 % 4) := remI_nI (d := 4) (by omega) (by decide) (by decide)
  have sg : ∀ j, j < 8 → signF j = sgn (min 6 j) ∧ (signF j = 33 ↔ min 6 j = 4) := by decide
  obtain ⟨s1, s2⟩ := sg (x / 8 % 8) (by omega)
  unfold f_X0_draw_17
  rw [h8, h64, h4, floorMod_nI (by omega), Option.bind_some, inb_nI (show x / 8 % 8 < 8 by omega) (by decide), ix_nI (by omega), floorMod_nI (by omega), Option.bind_some, floorMod_nI (by omega), Option.bind_some]
  by_cases q : kindOf x = 4
  · rw [if_pos (s2.mpr q)]
    by_cases p : x / 64 % 4 = 0
    · rw [if_pos (show nI (x / 64 % 4) = 0 by rw [p]; rfl)]
      exact ⟨_, rfl, fun k hk => by rw [up2_ne _ _ _ hk, up2_ne _ _ _ hk, up2_ne _ _ _ hk], Or.inr ⟨fun z => z.2 p, s1, rfl, rfl⟩⟩
    · rw [if_neg (show ¬ nI (x / 64 % 4) = 0 from nI_is (c := 0) (by omega) (by omega) p)]
      exact ⟨_, rfl, fun k hk => by rw [up2_ne _ _ _ hk, up2_ne _ _ _ hk, up2_ne _ _ _ hk, up2_ne _ _ _ hk], Or.inl ⟨q, p, rfl⟩⟩
  · rw [if_neg (fun z => q (s2.mp z))]
    exact ⟨_, rfl, fun k hk => by rw [up2_ne _ _ _ hk, up2_ne _ _ _ hk, up2_ne _ _ _ hk], Or.inr ⟨fun z => q z.1, s1, rfl, rfl⟩⟩
theorem actBy_eq {x : Nat} (hx : x ≤ 65536) : f_X10_actBy (remI (nI x / 8) 8) = nI (kindOf x) := by
  rw [show nI x / 8 = nI (x / 8) from div_nI (d := 8) (by omega) (by decide) (by decide), show remI (nI (x / 8)) 8 = nI (x / 8 % 8) from remI_nI (d := 8) (by omega) (by decide) (by decide)]
  unfold f_X10_actBy kindOf
  by_cases q : 6 ≤ x / 8 % 8
  · rw [if_pos (show (6 : Int32) ≤ nI (x / 8 % 8) from nI_le (a := 6) q (by omega)), show min 6 (x / 8 % 8) = 6 by omega]; rfl
  · rw [if_neg (show ¬ (6 : Int32) ≤ nI (x / 8 % 8) from nI_ge (b := 6) (by omega) (by omega)), show min 6 (x / 8 % 8) = x / 8 % 8 by omega]
