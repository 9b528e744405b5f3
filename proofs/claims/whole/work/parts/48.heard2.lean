def Dig (X Y N : Nat) (M : Mem) (p : Nat) : Prop := ∀ e, e < p → M 67 e = nI (dg X (N - e)) ∧ M 68 e = nI (dg Y (N - e))
theorem rows_l {X Y N : Nat} (hN : N ≤ 9) (hX : X < 2 ^ 30) (hY : Y < 2 ^ 30) (w : Int32) : ∀ m p k M, p + m = N → m < k → Dig X Y N M p → ∃ M1, lp_X10_heard_45 k (nI X) (nI Y) (nI N) w (nI p) M = lp_X10_heard_88 FU (nI N) w (nI N) M1 ∧ (∀ k, k ≠ 67 → k ≠ 68 → M1 k = M k) ∧ Dig X Y N M1 N
  | 0, p, k, M, hp, hk, hD => by
    obtain ⟨k, rfl⟩ : ∃ q, k = q + 1 := ⟨k - 1, by omega⟩
    have ep : p = N := by omega
    refine ⟨M, ?_, fun _ _ _ => rfl, ep ▸ hD⟩
    show bd_X10_heard_45 _ _ _ _ _ _ _ = _
    unfold bd_X10_heard_45
    rw [if_pos (nI_le (show N ≤ p by omega) (by omega))]
  | m + 1, p, k, M, hp, hk, hD => by
    obtain ⟨k, rfl⟩ : ∃ q, k = q + 1 := ⟨k - 1, by omega⟩
    obtain ⟨M1, z1, z2, z3⟩ := rows_l hN hX hY w m (p + 1) k (up2 (up2 M 67 p (nI (dg X (N - p)))) 68 p (nI (dg Y (N - p)))) (by omega) (by omega) (fun e he => by
      have g67 : up2 (up2 M 67 p (nI (dg X (N - p)))) 68 p (nI (dg Y (N - p))) 67 e = if e = p then nI (dg X (N - p)) else M 67 e := up2_at M 67 p _ e
      have g68 : up2 (up2 M 67 p (nI (dg X (N - p)))) 68 p (nI (dg Y (N - p))) 68 e = if e = p then nI (dg Y (N - p)) else M 68 e := up2_at M 68 p _ e
      rw [g67, g68]
      by_cases q : e = p
      · rw [if_pos q, if_pos q, q]; exact ⟨rfl, rfl⟩
      · rw [if_neg q, if_neg q]; exact hD e (by omega))
    refine ⟨M1, ?_, fun e a b => by rw [z2 e a b, up2_ne _ _ _ b, up2_ne _ _ _ a], z3⟩
    show bd_X10_heard_45 _ _ _ _ _ _ _ = _
    unfold bd_X10_heard_45
    rw [if_neg (nI_ge (show p < N by omega) (by omega)), digit_eq hX hN (by omega), Option.bind_some, inb_nI (show p < 9 by omega) (by decide), digit_eq hY hN (by omega), Option.bind_some, ix_nI (by omega), n_s]
    exact z1
theorem Best_all {A B : Nat → Nat} : ∀ i j, ∃ l x, Best A B i j l x
  | 0, _ => ⟨0, 0, Best_0 (Or.inl rfl)⟩
  | _ + 1, 0 => ⟨0, 0, Best_0 (Or.inr rfl)⟩
  | i + 1, j + 1 => by
    obtain ⟨l1, x1, h1⟩ := Best_all (A := A) (B := B) (i + 1) j
    obtain ⟨l2, x2, h2⟩ := Best_all (A := A) (B := B) i (j + 1)
    obtain ⟨l3, x3, h3⟩ := Best_all (A := A) (B := B) i j
    obtain ⟨s1, s2⟩ := Best_step h1 h2 h3
    by_cases e : A (i + 1) = B (j + 1)
    · exact ⟨_, _, s1 e⟩
    · exact ⟨_, _, s2 e⟩
theorem off_fst (u v : Nat × Nat) : (off u v).1 = max u.1 v.1 := by
  unfold off
  by_cases q : u.1 < v.1
  · rw [if_pos q]; omega
  · rw [if_neg q]
    by_cases p : v.1 = u.1 ∧ v.2 < u.2
    · rw [if_pos p]; omega
    · rw [if_neg p]; omega
/-- the length alone -/
theorem len_step {A B : Nat → Nat} {i j l1 l2 l3 : Nat} (h1 : ∃ x, Best A B (i + 1) j l1 x) (h2 : ∃ x, Best A B i (j + 1) l2 x) (h3 : ∃ x, Best A B i j l3 x) : ∃ x, Best A B (i + 1) (j + 1) (max (max l1 l2) (if A (i + 1) = B (j + 1) then l3 + 1 else 0)) x := by
  obtain ⟨x1, h1⟩ := h1
  obtain ⟨x2, h2⟩ := h2
  obtain ⟨x3, h3⟩ := h3
  obtain ⟨s1, s2⟩ := Best_step h1 h2 h3
  by_cases e : A (i + 1) = B (j + 1)
  · rw [if_pos e]
    have := s1 e
    rw [off_fst, off_fst] at this
    exact ⟨_, this⟩
  · rw [if_neg e, Nat.max_zero]
    have := s2 e
    rw [off_fst] at this
    exact ⟨_, this⟩
