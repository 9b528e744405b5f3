/-- the first place of a digit -/
def First (R : Nat → Int32) (N f d r : Nat) : Prop := f ≤ r ∧ r ≤ N ∧ (r < N → R r = nI d) ∧ ∀ e, f ≤ e → e < r → ¬ R e = nI d
theorem inOne_l {N f d : Nat} {M : Mem} (hN : N ≤ 9) (hf : f ≤ N) : ∀ m c k r, c = f + m → c ≤ N → m < k → First (M 67) N c d r → ∃ r', lp_X10_inOne_8 M k (nI f) (nI d) (nI r) (nI c + -1) = some (nI r') ∧ First (M 67) N f d r'
  | 0, c, k, r, hc, hcN, hk, hF => by
    obtain ⟨k, rfl⟩ : ∃ q, k = q + 1 := ⟨k - 1, by omega⟩
    have e : c = f := by omega
    subst e
    refine ⟨r, ?_, hF⟩
    show bd_X10_inOne_8 _ _ _ _ _ _ = _
    unfold bd_X10_inOne_8
    rw [if_pos]
    cases c with
    | zero => decide
    | succ c => rw [pred1]; exact nI_lt (by omega) (by omega)
  | m + 1, c, k, r, hc, hcN, hk, hF => by
    obtain ⟨k, rfl⟩ : ∃ q, k = q + 1 := ⟨k - 1, by omega⟩
    obtain ⟨c, rfl⟩ : ∃ q, c = q + 1 := ⟨c - 1, by omega⟩
    obtain ⟨f1, f2, f3, f4⟩ := hF
    have st : lp_X10_inOne_8 M (k + 1) (nI f) (nI d) (nI r) (nI c) = if M 67 c = nI d then lp_X10_inOne_8 M k (nI f) (nI d) (nI c) (nI c + -1) else lp_X10_inOne_8 M k (nI f) (nI d) (nI r) (nI c + -1) := by
      show bd_X10_inOne_8 _ _ _ _ _ _ = _
      unfold bd_X10_inOne_8
      rw [if_neg (nI_nlt (show f ≤ c by omega) (by omega)), inb_nI (show c < 9 by omega) (by decide), ix_nI (by omega)]
      rfl
    rw [pred1, st]
    by_cases q : M 67 c = nI d
    · rw [if_pos q]
      exact inOne_l hN hf m c k c (by omega) (by omega) (by omega) ⟨Nat.le_refl _, by omega, fun _ => q, fun e a b => by omega⟩
    · rw [if_neg q]
      refine inOne_l hN hf m c k r (by omega) (by omega) (by omega) ⟨by omega, f2, f3, fun e a b => ?_⟩
      by_cases z : e = c
      · rw [z]; exact q
      · exact f4 e (by omega) b
theorem inOne_eq {N f d : Nat} {M : Mem} (h1 : 1 ≤ N) (hN : N ≤ 9) (hf : f ≤ N) : ∃ r, f_X10_inOne (nI N) (nI f) (nI d) M = some (nI r) ∧ First (M 67) N f d r := by
  obtain ⟨r, a, b⟩ := inOne_l (M := M) (d := d) hN hf (N - f) N FU N (by omega) (Nat.le_refl _) (FU_lt (by omega)) ⟨Nat.le_refl _, Nat.le_refl _, fun z => by omega, fun e a b => by omega⟩
  refine ⟨r, ?_, b⟩
  unfold f_X10_inOne
  rw [show nI N - 1 = nI N + -1 by grind]
  exact a
theorem inTwo_l {N f d : Nat} {M : Mem} (hN : N ≤ 9) (hf : f ≤ N) : ∀ m c k r, c = f + m → c ≤ N → m < k → First (M 68) N c d r → ∃ r', lp_X10_inTwo_8 M k (nI f) (nI d) (nI r) (nI c + -1) = some (nI r') ∧ First (M 68) N f d r'
  | 0, c, k, r, hc, hcN, hk, hF => by
    obtain ⟨k, rfl⟩ : ∃ q, k = q + 1 := ⟨k - 1, by omega⟩
    have e : c = f := by omega
    subst e
    refine ⟨r, ?_, hF⟩
    show bd_X10_inTwo_8 _ _ _ _ _ _ = _
    unfold bd_X10_inTwo_8
    rw [if_pos]
    cases c with
    | zero => decide
    | succ c => rw [pred1]; exact nI_lt (by omega) (by omega)
  | m + 1, c, k, r, hc, hcN, hk, hF => by
    obtain ⟨k, rfl⟩ : ∃ q, k = q + 1 := ⟨k - 1, by omega⟩
    obtain ⟨c, rfl⟩ : ∃ q, c = q + 1 := ⟨c - 1, by omega⟩
    obtain ⟨f1, f2, f3, f4⟩ := hF
    have st : lp_X10_inTwo_8 M (k + 1) (nI f) (nI d) (nI r) (nI c) = if M 68 c = nI d then lp_X10_inTwo_8 M k (nI f) (nI d) (nI c) (nI c + -1) else lp_X10_inTwo_8 M k (nI f) (nI d) (nI r) (nI c + -1) := by
      show bd_X10_inTwo_8 _ _ _ _ _ _ = _
      unfold bd_X10_inTwo_8
      rw [if_neg (nI_nlt (show f ≤ c by omega) (by omega)), inb_nI (show c < 9 by omega) (by decide), ix_nI (by omega)]
      rfl
    rw [pred1, st]
    by_cases q : M 68 c = nI d
    · rw [if_pos q]
      exact inTwo_l hN hf m c k c (by omega) (by omega) (by omega) ⟨Nat.le_refl _, by omega, fun _ => q, fun e a b => by omega⟩
    · rw [if_neg q]
      refine inTwo_l hN hf m c k r (by omega) (by omega) (by omega) ⟨by omega, f2, f3, fun e a b => ?_⟩
      by_cases z : e = c
      · rw [z]; exact q
      · exact f4 e (by omega) b
theorem inTwo_eq {N f d : Nat} {M : Mem} (h1 : 1 ≤ N) (hN : N ≤ 9) (hf : f ≤ N) : ∃ r, f_X10_inTwo (nI N) (nI f) (nI d) M = some (nI r) ∧ First (M 68) N f d r := by
  obtain ⟨r, a, b⟩ := inTwo_l (M := M) (d := d) hN hf (N - f) N FU N (by omega) (Nat.le_refl _) (FU_lt (by omega)) ⟨Nat.le_refl _, Nat.le_refl _, fun z => by omega, fun e a b => by omega⟩
  refine ⟨r, ?_, b⟩
  unfold f_X10_inTwo
  rw [show nI N - 1 = nI N + -1 by grind]
  exact a
