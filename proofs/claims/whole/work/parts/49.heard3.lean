def Len (X Y N : Nat) (M : Mem) (p q : Nat) : Prop := ∃ l x, M 69 (10 * p + q) = nI l ∧ Best (dg X) (dg Y) (N - p) (N - q) l x
theorem less_or {a b : Nat} (ha : a < 2 ^ 31) (hb : b < 2 ^ 31) : (if nI b ≤ nI a then some (nI a) else some (nI b)) = some (nI (max a b)) := by
  by_cases q : b ≤ a
  · rw [if_pos (nI_le q ha), Nat.max_eq_left q]
  · rw [if_neg (nI_ge (by omega) hb), Nat.max_eq_right (by omega)]
theorem lengthFrom_eq {X Y N p q : Nat} (hN : N ≤ 9) (hp : p ≤ N) (hq : q ≤ N) {M : Mem} (hD : Dig X Y N M N) (h1 : p < N → q < N → Len X Y N M p (q + 1)) (h2 : p < N → q < N → Len X Y N M (p + 1) q) (h3 : p < N → q < N → Len X Y N M (p + 1) (q + 1)) : ∃ l x, f_X10_lengthFrom (nI N) (nI p) (nI q) M = some (nI l) ∧ Best (dg X) (dg Y) (N - p) (N - q) l x := by
  unfold f_X10_lengthFrom
  by_cases e1 : p = N
  · rw [if_pos (by rw [e1])]
    exact ⟨0, 0, rfl, Best_0 (Or.inl (by omega))⟩
  rw [if_neg (nI_is (by omega) (by omega) e1)]
  by_cases e2 : q = N
  · rw [if_pos (by rw [e2])]
    exact ⟨0, 0, rfl, Best_0 (Or.inr (by omega))⟩
  rw [if_neg (nI_is (by omega) (by omega) e2)]
  obtain ⟨l1, x1, a1, b1⟩ := h1 (by omega) (by omega)
  obtain ⟨l2, x2, a2, b2⟩ := h2 (by omega) (by omega)
  obtain ⟨l3, x3, a3, b3⟩ := h3 (by omega) (by omega)
  have s1 := (Best_small (dg_le X) b1 (by omega)).1
  have s2 := (Best_small (dg_le X) b2 (by omega)).1
  have s3 := (Best_small (dg_le X) b3 (by omega)).1
  obtain ⟨i, hi⟩ : ∃ i, N - p = i + 1 := ⟨N - p - 1, by omega⟩
  obtain ⟨j, hj⟩ : ∃ j, N - q = j + 1 := ⟨N - q - 1, by omega⟩
  rw [hi, show N - (q + 1) = j by omega] at b1
  rw [show N - (p + 1) = i by omega, hj] at b2
  rw [show N - (p + 1) = i by omega, show N - (q + 1) = j by omega] at b3
  obtain ⟨x, hb⟩ := len_step (A := dg X) (B := dg Y) ⟨x1, b1⟩ ⟨x2, b2⟩ ⟨x3, b3⟩
  have i1 : (10 : Int32) * (nI p + 1) + nI q = nI (10 * (p + 1) + q) := by rw [n_s, show (10 : Int32) * nI (p + 1) = nI (10 * (p + 1)) from mul_nI 10 _, nI_add]
  have i2 : (10 : Int32) * nI p + nI q + 1 = nI (10 * p + (q + 1)) := by rw [show (10 : Int32) * nI p = nI (10 * p) from mul_nI 10 _, nI_add, n_s]; congr 1
  have i3 : (10 : Int32) * (nI p + 1) + nI q + 1 = nI (10 * (p + 1) + (q + 1)) := by rw [i1, n_s]; congr 1
  obtain ⟨d1, _⟩ := hD p (by omega)
  obtain ⟨_, d2⟩ := hD q (by omega)
  rw [hi] at d1
  rw [hj] at d2
  refine ⟨_, x, ?_, by rw [hi, hj]; exact hb⟩
  unfold lb_X10_lengthFrom_56 lb_X10_lengthFrom_94
  rw [i3, i1, i2, inb_nI (show 10 * (p + 1) + q < 100 by omega) (by decide), inb_nI (show 10 * p + (q + 1) < 100 by omega) (by decide), inb_nI (show 10 * (p + 1) + (q + 1) < 100 by omega) (by decide), inb_nI (show p < 9 by omega) (by decide), inb_nI (show q < 9 by omega) (by decide), ix_nI (show 10 * (p + 1) + q < 2 ^ 31 by omega), ix_nI (show 10 * p + (q + 1) < 2 ^ 31 by omega), ix_nI (show 10 * (p + 1) + (q + 1) < 2 ^ 31 by omega), ix_nI (show p < 2 ^ 31 by omega), ix_nI (show q < 2 ^ 31 by omega), a1, a2, a3, d1, d2]
  simp only [if_true]
  have lst : ∀ s : Nat, s < 2 ^ 31 → (if nI (dg X (i + 1)) = nI (dg Y (j + 1)) then (if 1 + nI l3 ≤ nI s then some (nI s) else some (1 + nI l3)) else (if (0 : Int32) ≤ nI s then some (nI s) else some 0)) = some (nI (max s (if dg X (i + 1) = dg Y (j + 1) then l3 + 1 else 0))) := fun s hs => by
    have k1 := dg_le X (i + 1)
    have k2 := dg_le Y (j + 1)
    by_cases e : dg X (i + 1) = dg Y (j + 1)
    · rw [if_pos (by rw [e]), if_pos e, show (1 : Int32) + nI l3 = nI (l3 + 1) by rw [show (1 : Int32) + nI l3 = nI (1 + l3) from nI_add 1 l3, Nat.add_comm]]
      exact less_or hs (by omega)
    · rw [if_neg (nI_is (by omega) (by omega) e), if_neg e]
      exact less_or (b := 0) hs (by omega)
  by_cases q1 : l2 ≤ l1
  · rw [if_pos (nI_le q1 (by omega)), lst l1 (by omega), Nat.max_eq_left q1]
  · rw [if_neg (nI_ge (by omega) (by omega)), lst l2 (by omega), Nat.max_eq_right (show l1 ≤ l2 by omega)]
