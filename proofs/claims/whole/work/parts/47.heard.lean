theorem digit_l {X : Nat} (hX : X < 2 ^ 30) (p : Nat) (hp : p ≤ 8) : ∀ m s k, m < k → p + m < 2 ^ 31 → lp_X10_digit_7 k (nI p) (nI (X / 10 ^ s)) (nI (p + m)) = some (nI (dg X (s + m + 1)))
  | 0, s, k, hk, hm => by
    obtain ⟨k, rfl⟩ : ∃ q, k = q + 1 := ⟨k - 1, by omega⟩
    have dx : X / 10 ^ s < 2 ^ 31 := Nat.lt_of_le_of_lt (Nat.div_le_self _ _) (by omega)
    show bd_X10_digit_7 _ _ _ _ = _
    unfold bd_X10_digit_7
    rw [if_pos (nI_le (show p + 0 ≤ p by omega) (by omega)), show remI (nI (X / 10 ^ s)) 10 = nI (X / 10 ^ s % 10) from remI_nI (d := 10) dx (by decide) (by decide)]
    rfl
  | m + 1, s, k, hk, hm => by
    obtain ⟨k, rfl⟩ : ∃ q, k = q + 1 := ⟨k - 1, by omega⟩
    have dx : X / 10 ^ s < 2 ^ 31 := Nat.lt_of_le_of_lt (Nat.div_le_self _ _) (by omega)
    show bd_X10_digit_7 _ _ _ _ = _
    unfold bd_X10_digit_7
    rw [if_neg (nI_ge (show p < p + (m + 1) by omega) hm), show nI (X / 10 ^ s) / 10 = nI (X / 10 ^ s / 10) from div_nI (d := 10) dx (by decide) (by decide), Nat.div_div_eq_div_mul, ← Nat.pow_succ, show p + (m + 1) = p + m + 1 by omega, pred1, digit_l hX p hp m (s + 1) k (by omega) (by omega)]
    congr 3
    omega
theorem digit_eq {X N p : Nat} (hX : X < 2 ^ 30) (hN : N ≤ 9) (hp : p < N) : f_X10_digit (nI X) (nI N) (nI p) = some (nI (dg X (N - p))) := by
  unfold f_X10_digit
  have := digit_l hX p (by omega) (N - 1 - p) 0 FU (FU_lt (by omega)) (by omega)
  rw [Nat.pow_zero, Nat.div_one] at this
  rw [show nI N - 1 = nI (p + (N - 1 - p)) by rw [show nI N - 1 = nI (N - 1) from pk_sub (b := 1) (by omega)]; congr 1; omega, this]
  congr 3
  omega
theorem isRow_neg {v : Int32} (hv : v < 0) {N : Nat} (hN : N ≤ 9) : ∀ m i k u, i + m = N → m < k → lp_X10_isRow_4 k v (nI N) u (nI i) = some 0
  | 0, i, k, u, hi, hk => by
    obtain ⟨k, rfl⟩ : ∃ q, k = q + 1 := ⟨k - 1, by omega⟩
    show bd_X10_isRow_4 _ _ _ _ _ = _
    unfold bd_X10_isRow_4
    rw [if_pos (nI_le (show N ≤ i by omega) (by omega)), if_pos hv]
  | m + 1, i, k, u, hi, hk => by
    obtain ⟨k, rfl⟩ : ∃ q, k = q + 1 := ⟨k - 1, by omega⟩
    show bd_X10_isRow_4 _ _ _ _ _ = _
    unfold bd_X10_isRow_4
    rw [if_neg (nI_ge (show i < N by omega) (by omega)), n_s]
    exact isRow_neg hv hN m (i + 1) k _ (by omega) (by omega)
theorem isRow_pos {X : Nat} (hX : X < 2 ^ 31) {N : Nat} (hN : N ≤ 9) : ∀ m i k, i + m = N → m < k → lp_X10_isRow_4 k (nI X) (nI N) (nI (X / 10 ^ i)) (nI i) = some (if X / 10 ^ N = 0 then 1 else 0)
  | 0, i, k, hi, hk => by
    obtain ⟨k, rfl⟩ : ∃ q, k = q + 1 := ⟨k - 1, by omega⟩
    have ei : i = N := by omega
    subst ei
    have dx : X / 10 ^ i < 2 ^ 31 := Nat.lt_of_le_of_lt (Nat.div_le_self _ _) (by omega)
    show bd_X10_isRow_4 _ _ _ _ _ = _
    unfold bd_X10_isRow_4
    rw [if_pos (nI_le (Nat.le_refl i) (by omega)), if_neg (show ¬ nI X < 0 from nI_nlt (b := 0) (by omega) hX)]
    by_cases q : X / 10 ^ i = 0
    · rw [if_pos q, if_pos (by rw [q]; rfl)]
    · rw [if_neg q, if_neg (show ¬ nI (X / 10 ^ i) = 0 from nI_is (c := 0) dx (by omega) q)]
  | m + 1, i, k, hi, hk => by
    obtain ⟨k, rfl⟩ : ∃ q, k = q + 1 := ⟨k - 1, by omega⟩
    have dx : X / 10 ^ i < 2 ^ 31 := Nat.lt_of_le_of_lt (Nat.div_le_self _ _) (by omega)
    show bd_X10_isRow_4 _ _ _ _ _ = _
    unfold bd_X10_isRow_4
    rw [if_neg (nI_ge (show i < N by omega) (by omega)), n_s, show nI (X / 10 ^ i) / 10 = nI (X / 10 ^ i / 10) from div_nI (d := 10) dx (by decide) (by decide), Nat.div_div_eq_div_mul, ← Nat.pow_succ]
    exact isRow_pos hX hN m (i + 1) k (by omega) (by omega)
theorem tens9 {N : Nat} (h : N ≤ 9) : (tensF N - 1).toInt = (10 ^ N : Nat) - 1 ∧ 10 ^ N ≤ 1000000000 := by
  have : ∀ N, N < 10 → (tensF N - 1).toInt = ((10 ^ N : Nat) : Int) - 1 ∧ 10 ^ N ≤ 1000000000 := by decide +kernel
  exact this N (by omega)
theorem row_or (v : Int32) {N : Nat} (hN : N ≤ 9) : (f_X9_within v 0 (tensF N - 1) = 0 ∧ f_X10_isRow v (nI N) = some 0) ∨ ∃ X, X < 10 ^ N ∧ X < 2 ^ 30 ∧ v = nI X ∧ ¬ f_X9_within v 0 (tensF N - 1) = 0 ∧ f_X10_isRow v (nI N) = some 1 := by
  obtain ⟨t1, t2⟩ := tens9 hN
  have l0 : (0 : Int32).toInt = 0 := rfl
  by_cases q : v < 0
  · refine Or.inl ⟨?_, isRow_neg q hN N 0 FU v (by omega) (FU_lt (by omega))⟩
    rw [within_0]
    rw [lt_toI] at q
    omega
  · have q' : 0 ≤ v.toInt := by rw [lt_toI] at q; omega
    have hb : v.toInt < 2147483648 := Int32.toInt_lt v
    obtain ⟨X, hX, rfl⟩ := nIr (x := v) (N := 2147483648) q' hb
    have r := isRow_pos (X := X) (by omega) hN N 0 FU (by omega) (FU_lt (by omega))
    rw [Nat.pow_zero, Nat.div_one] at r
    by_cases p : X < 10 ^ N
    · refine Or.inr ⟨X, p, by omega, rfl, ?_, ?_⟩
      · rw [within_0, nI_toInt (by omega), t1]; omega
      · rw [if_pos (Nat.div_eq_of_lt p)] at r; exact r
    · refine Or.inl ⟨?_, ?_⟩
      · rw [within_0, nI_toInt (by omega), t1]; omega
      · rw [if_neg (by
          have := Nat.div_pos (show 10 ^ N ≤ X by omega) (Nat.pow_pos (by omega))
          omega)] at r
        exact r
