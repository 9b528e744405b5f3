theorem cap9 : ∀ m i n M, i + m = 8 → m < n → ∃ M1 : Mem, lp_X8_wander_8_98 n (nI i) M = some M1 ∧ (∀ k, k ≠ 9 → M1 k = M k) ∧ ∀ j, M1 9 j = if i ≤ j ∧ j < 8 then minI 99 (M 9 j) else M 9 j
  | 0, i, n, M, hi, hn => by
    obtain ⟨n, rfl⟩ : ∃ q, n = q + 1 := ⟨n - 1, by omega⟩
    refine ⟨M, ?_, fun _ _ => rfl, fun j => by rw [if_neg (by omega)]⟩
    show bd_X8_wander_8_98 _ _ _ = _
    unfold bd_X8_wander_8_98
    rw [if_pos (show (8 : Int32) ≤ nI i from nI_le (a := 8) (by omega) (by omega))]
  | m + 1, i, n, M, hi, hn => by
    obtain ⟨n, rfl⟩ : ∃ q, n = q + 1 := ⟨n - 1, by omega⟩
    obtain ⟨M1, h1, h2, h3⟩ := cap9 m (i + 1) n (up2 M 9 i (minI 99 (M 9 i))) (by omega) (by omega)
    refine ⟨M1, ?_, fun k hk => (h2 k hk).trans (up2_ne _ _ _ hk), fun j => ?_⟩
    · show bd_X8_wander_8_98 _ _ _ = _
      unfold bd_X8_wander_8_98
      rw [if_neg (show ¬ (8 : Int32) ≤ nI i from nI_ge (b := 8) (by omega) (by omega)), inb_nI (show i < 8 by omega) (by decide), ix_nI (by omega), n_s]
      exact h1
    · rw [h3 j, up2_at]
      by_cases q : j = i
      · rw [if_neg (by omega), if_pos q, if_pos (by omega), q]
      · rw [if_neg q]
        by_cases q2 : i + 1 ≤ j ∧ j < 8
        · rw [if_pos q2, if_pos (by omega)]
        · rw [if_neg q2, if_neg (by omega)]
theorem smell9 : ∀ m i n M, i + m = 8 → m < n → ∃ M1 : Mem, lp_X8_passWeek_8_69 n (nI i) M = some (up2 M1 8 8 (M 8 8 + 1)) ∧ (∀ k, k ≠ 12 → M1 k = M k) ∧ ∀ j, M1 12 j = if i ≤ j ∧ j < 8 then maxI 0 (M 12 j - 1) else M 12 j
  | 0, i, n, M, hi, hn => by
    obtain ⟨n, rfl⟩ : ∃ q, n = q + 1 := ⟨n - 1, by omega⟩
    refine ⟨M, ?_, fun _ _ => rfl, fun j => by rw [if_neg (by omega)]⟩
    show bd_X8_passWeek_8_69 _ _ _ = _
    unfold bd_X8_passWeek_8_69
    rw [if_pos (show (8 : Int32) ≤ nI i from nI_le (a := 8) (by omega) (by omega))]
  | m + 1, i, n, M, hi, hn => by
    obtain ⟨n, rfl⟩ : ∃ q, n = q + 1 := ⟨n - 1, by omega⟩
    obtain ⟨M1, h1, h2, h3⟩ := smell9 m (i + 1) n (up2 M 12 i (maxI 0 (M 12 i - 1))) (by omega) (by omega)
    refine ⟨M1, ?_, fun k hk => (h2 k hk).trans (up2_ne _ _ _ hk), fun j => ?_⟩
    · show bd_X8_passWeek_8_69 _ _ _ = _
      unfold bd_X8_passWeek_8_69
      rw [if_neg (show ¬ (8 : Int32) ≤ nI i from nI_ge (b := 8) (by omega) (by omega)), inb_nI (show i < 8 by omega) (by decide), ix_nI (by omega), n_s]
      exact h1
    · rw [h3 j, up2_at]
      by_cases q : j = i
      · rw [if_neg (by omega), if_pos q, if_pos (by omega), q]
      · rw [if_neg q]
        by_cases q2 : i + 1 ≤ j ∧ j < 8
        · rw [if_pos q2, if_pos (by omega)]
        · rw [if_neg q2, if_neg (by omega)]
theorem go10_end : ∀ m i n N, i + m = 8 → m < n → ∃ N1 : Mem, lp_X10_go_106 n (nI i) N = some N1 ∧ (∀ k, k ≠ 54 → k ≠ 57 → N1 k = N k) ∧ (∀ j, N1 54 j = if i ≤ j ∧ j < 8 then f_X10_less 99 (N 54 j + N 65 j) else N 54 j) ∧ ∀ j, N1 57 j = if i ≤ j ∧ j < 8 then (if N 57 j ≤ 0 then 0 else N 57 j - 1) else N 57 j
  | 0, i, n, N, hi, hn => by
    obtain ⟨n, rfl⟩ : ∃ q, n = q + 1 := ⟨n - 1, by omega⟩
    refine ⟨N, ?_, fun _ _ _ => rfl, fun j => by rw [if_neg (by omega)], fun j => by rw [if_neg (by omega)]⟩
    show bd_X10_go_106 _ _ _ = _
    unfold bd_X10_go_106
    rw [if_pos (show (8 : Int32) ≤ nI i from nI_le (a := 8) (by omega) (by omega))]
  | m + 1, i, n, N, hi, hn => by
    obtain ⟨n, rfl⟩ : ∃ q, n = q + 1 := ⟨n - 1, by omega⟩
    obtain ⟨N1, h1, h2, h3, h4⟩ := go10_end m (i + 1) n (up2 (up2 N 54 i (f_X10_less 99 (N 54 i + N 65 i))) 57 i (if N 57 i ≤ 0 then 0 else N 57 i - 1)) (by omega) (by omega)
    refine ⟨N1, ?_, fun k a b => by rw [h2 k a b, up2_ne _ _ _ b, up2_ne _ _ _ a], fun j => ?_, fun j => ?_⟩
    · show bd_X10_go_106 _ _ _ = _
      unfold bd_X10_go_106
      rw [if_neg (show ¬ (8 : Int32) ≤ nI i from nI_ge (b := 8) (by omega) (by omega)), inb_nI (show i < 8 by omega) (by decide), ix_nI (by omega), n_s, ← h1]
      by_cases q : N 57 i ≤ 0
      · simp only [q, if_true]
      · simp only [q, if_true, if_false]
    · have e65 : up2 (up2 N 54 i (f_X10_less 99 (N 54 i + N 65 i))) 57 i (if N 57 i ≤ 0 then 0 else N 57 i - 1) 65 = N 65 := by rw [up2_ne _ _ _ (by decide), up2_ne _ _ _ (by decide)]
      rw [h3 j, e65, up2_ne _ _ _ (by decide), up2_at]
      by_cases q : j = i
      · rw [if_neg (by omega), if_pos q, if_pos (by omega), q]
      · rw [if_neg q]
        by_cases q2 : i + 1 ≤ j ∧ j < 8
        · rw [if_pos q2, if_pos (by omega)]
        · rw [if_neg q2, if_neg (by omega)]
    · rw [h4 j, up2_at, up2_ne _ _ _ (by decide)]
      by_cases q : j = i
      · rw [if_neg (by omega), if_pos q, if_pos (by omega), q]
      · rw [if_neg q]
        by_cases q2 : i + 1 ≤ j ∧ j < 8
        · rw [if_pos q2, if_pos (by omega)]
        · rw [if_neg q2, if_neg (by omega)]
theorem go10_zero : ∀ m i n N, i + m = 8 → m < n → ∃ N1 : Mem, lp_X10_go_2 n (nI i) N = lp_X10_go_23 FU 0 N1 ∧ (∀ k, k ≠ 65 → N1 k = N k) ∧ ∀ j, N1 65 j = if i ≤ j ∧ j < 8 then 0 else N 65 j
  | 0, i, n, N, hi, hn => by
    obtain ⟨n, rfl⟩ : ∃ q, n = q + 1 := ⟨n - 1, by omega⟩
    refine ⟨N, ?_, fun _ _ => rfl, fun j => by rw [if_neg (by omega)]⟩
    show bd_X10_go_2 _ _ _ = _
    unfold bd_X10_go_2
    rw [if_pos (show (8 : Int32) ≤ nI i from nI_le (a := 8) (by omega) (by omega))]
  | m + 1, i, n, N, hi, hn => by
    obtain ⟨n, rfl⟩ : ∃ q, n = q + 1 := ⟨n - 1, by omega⟩
    obtain ⟨N1, h1, h2, h3⟩ := go10_zero m (i + 1) n (up2 N 65 i 0) (by omega) (by omega)
    refine ⟨N1, ?_, fun k hk => (h2 k hk).trans (up2_ne _ _ _ hk), fun j => ?_⟩
    · show bd_X10_go_2 _ _ _ = _
      unfold bd_X10_go_2
      rw [if_neg (show ¬ (8 : Int32) ≤ nI i from nI_ge (b := 8) (by omega) (by omega)), inb_nI (show i < 8 by omega) (by decide), ix_nI (by omega), n_s]
      exact h1
    · rw [h3 j, up2_at]
      by_cases q : j = i
      · rw [if_neg (by omega), if_pos q, if_pos (by omega)]
      · rw [if_neg q]
        by_cases q2 : i + 1 ≤ j ∧ j < 8
        · rw [if_pos q2, if_pos (by omega)]
        · rw [if_neg q2, if_neg (by omega)]
theorem smell_eq {s : Nat} (hs : s ≤ 9) : maxI 0 (nI s - 1) = nI (s - 1) ∧ (if nI s ≤ 0 then 0 else nI s - 1) = nI (s - 1) := by
  refine ⟨maxI0_sub (b := 1) (by omega) (by omega), ?_⟩
  by_cases q : s = 0
  · subst q; decide
  · rw [if_neg (nI_nle (by omega) (by omega))]
    exact pk_sub (b := 1) (by omega)
/-- a week, on both sides -/
theorem week_eq {M N : Mem} (hR : Rel M N) (hw : ∃ w, w < 99 ∧ M 8 8 = nI w) : ∃ M' N', f_X8_passWeek_8 M = some M' ∧ ((f_X10_breed N).bind fun q21 => (f_X10_go q21).bind fun q22 => some (up2 q22 53 7 (q22 53 7 + 1))) = some N' ∧ Rel M' N' ∧ FrC M M' ∧ FrR N N' := by
  obtain ⟨w, hw1, hw2⟩ := hR.2.2.2.2.2 |> fun _ => hw
  obtain ⟨M1, N1, a1, a2, ⟨h1, ⟨h2, h3, h4⟩, t1, t2, t3, t4⟩, a4, a5⟩ := breed_lock (M0 := M) (N0 := N) 8 0 FU FU M N (by omega) (FU_lt (by omega)) (FU_lt (by omega)) hR (fun _ _ => rfl) ⟨fun _ _ _ => rfl, fun _ _ _ _ _ => rfl, rfl⟩
  sorry
