theorem Len_keep {X Y N p q c : Nat} {M : Mem} {v : Int32} (h : 10 * p + q ≠ c) (H : Len X Y N M p q) : Len X Y N (up2 M 69 c v) p q := by
  obtain ⟨l, x, a, b⟩ := H
  exact ⟨l, x, by rw [up2_at, if_neg h]; exact a, b⟩
theorem neg1 : nI 0 + -1 < 0 := by decide
theorem table_in {X Y N p : Nat} (hN : N ≤ 9) (hp : p ≤ N) (w : Int32) (K : Int32 → Int32 → Int32 → Mem → Option (Int32 × Mem)) : ∀ c k M, c ≤ N + 1 → c < k → Dig X Y N M N → (∀ a b, a ≤ N → b ≤ N → (p < a ∨ (a = p ∧ c ≤ b)) → Len X Y N M a b) → ∃ M', lp_X10_heard_96 K k (nI N) w (nI p) (nI c + -1) M = K (nI N) w (nI p + -1) M' ∧ (∀ a b, a ≤ N → b ≤ N → p ≤ a → Len X Y N M' a b) ∧ ∀ e, e ≠ 69 → M' e = M e
  | 0, k, M, hc, hk, hD, hT => by
    obtain ⟨k, rfl⟩ : ∃ q, k = q + 1 := ⟨k - 1, by omega⟩
    refine ⟨M, ?_, fun a b ha hb hab => hT a b ha hb (by omega), fun _ _ => rfl⟩
    show bd_X10_heard_96 _ _ _ _ _ _ _ = _
    unfold bd_X10_heard_96
    rw [if_pos neg1]
  | q + 1, k, M, hc, hk, hD, hT => by
    obtain ⟨k, rfl⟩ : ∃ q, k = q + 1 := ⟨k - 1, by omega⟩
    obtain ⟨l, x, g1, g2⟩ := lengthFrom_eq (p := p) (q := q) hN hp (by omega) hD (fun _ _ => hT p (q + 1) hp (by omega) (Or.inr ⟨rfl, Nat.le_refl _⟩)) (fun _ _ => hT (p + 1) q (by omega) (by omega) (Or.inl (by omega))) (fun _ _ => hT (p + 1) (q + 1) (by omega) (by omega) (Or.inl (by omega)))
    obtain ⟨M', z1, z2, z3⟩ := table_in hN hp w K q k (up2 M 69 (10 * p + q) (nI l)) (by omega) (by omega) hD (fun a b ha hb hab => by
      by_cases z : a = p ∧ b = q
      · obtain ⟨rfl, rfl⟩ := z
        exact ⟨l, x, up2_self _ _ _ _, g2⟩
      · exact Len_keep (by omega) (hT a b ha hb (by omega)))
    refine ⟨M', ?_, z2, fun e he => (z3 e he).trans (up2_ne _ _ _ he)⟩
    rw [pred1]
    show bd_X10_heard_96 _ _ _ _ _ _ _ = _
    unfold bd_X10_heard_96
    rw [if_neg (show ¬ nI q < 0 from nI_nlt (b := 0) (by omega) (by omega)), g1, Option.bind_some, show (10 : Int32) * nI p = nI (10 * p) from mul_nI 10 p, nI_add, inb_nI (show 10 * p + q < 100 by omega) (by decide), ix_nI (by omega)]
    exact z1
theorem table_out {X Y N : Nat} (hN : N ≤ 9) (w : Int32) : ∀ c k M, c ≤ N + 1 → c < k → Dig X Y N M N → (∀ a b, a ≤ N → b ≤ N → c ≤ a → Len X Y N M a b) → ∃ M', lp_X10_heard_88 k (nI N) w (nI c + -1) M = (if w = 0 then some (M' 69 0, M') else (f_X10_leastRow (nI N) M').bind fun r10 => some (r10, M')) ∧ (∀ a b, a ≤ N → b ≤ N → Len X Y N M' a b) ∧ ∀ e, e ≠ 69 → M' e = M e
  | 0, k, M, hc, hk, hD, hT => by
    obtain ⟨k, rfl⟩ : ∃ q, k = q + 1 := ⟨k - 1, by omega⟩
    refine ⟨M, ?_, fun a b ha hb => hT a b ha hb (by omega), fun _ _ => rfl⟩
    show bd_X10_heard_88 _ _ _ _ _ = _
    unfold bd_X10_heard_88
    rw [if_pos neg1]
    rfl
  | p + 1, k, M, hc, hk, hD, hT => by
    obtain ⟨k, rfl⟩ : ∃ q, k = q + 1 := ⟨k - 1, by omega⟩
    obtain ⟨M1, y1, y2, y3⟩ := table_in hN (show p ≤ N by omega) w (lp_X10_heard_88 k) (N + 1) FU M (Nat.le_refl _) (FU_lt (by omega)) hD (fun a b ha hb hab => hT a b ha hb (by omega))
    obtain ⟨M', z1, z2, z3⟩ := table_out (X := X) (Y := Y) hN w p k M1 (by omega) (by omega) (fun e he => by rw [y3 67 (by decide), y3 68 (by decide)]; exact hD e he) (fun a b ha hb hab => y2 a b ha hb hab)
    refine ⟨M', ?_, z2, fun e he => (z3 e he).trans (y3 e he)⟩
    rw [pred1]
    show bd_X10_heard_88 _ _ _ _ _ = _
    unfold bd_X10_heard_88
    rw [if_neg (show ¬ nI p < 0 from nI_nlt (b := 0) (by omega) (by omega)), ← z1, ← y1, pred1]
