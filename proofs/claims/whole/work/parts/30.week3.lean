theorem cap9 : ∀ m i n M, i + m = 8 → m < n → ∃ M1 : Mem, lp_X8_wander_8_98 n (nI i) M = some M1 ∧ (∀ k, k ≠ 9 → M1 k = M k) ∧ ∀ j, M1 9 j = if i ≤ j ∧ j < 8 then minI 99 (M 9 j) else M 9 j
  | 0, i, n, M, hi, hn => by
    obtain ⟨n, rfl⟩ : ∃ q, n = q + 1 := ⟨n - 1, by omega⟩
    refine ⟨M, ?_, fun _ _ => rfl, fun j => by rw [if_neg (by omega)]⟩
    show bd_X8_wander_8_98 _ _ _ = _
    unfold bd_X8_wander_8_98
    rw [if_pos (show (8 : Int32) ≤ nI i from nI_le (a := 8) (by omega) (by omega))]
  | m + 1, i, n, M, hi, hn => by
    obtain ⟨n, rfl⟩ : ∃ q, n = q + 1 := ⟨n - 1, by omega⟩
    obtain ⟨M1, h1, h2, h3⟩ := cap9 m (i + 1) n (up2 M 9 i (minI 99 (M 9 i))) (by omega) (by omega)
    refine ⟨M1, ?_, fun k hk => (h2 k hk).trans (up2_ne _ _ _ hk), fun j => ?_⟩
    · show bd_X8_wander_8_98 _ _ _ = _
      unfold bd_X8_wander_8_98
      rw [if_neg (show ¬ (8 : Int32) ≤ nI i from nI_ge (b := 8) (by omega) (by omega)), inb_nI (show i < 8 by omega) (by decide), ix_nI (by omega), n_s]
      exact h1
    · rw [h3 j, up2_at]
      by_cases q : j = i
      · rw [if_neg (by omega), if_pos q, if_pos (by omega), q]
      · rw [if_neg q]
        by_cases q2 : i + 1 ≤ j ∧ j < 8
        · rw [if_pos q2, if_pos (by omega)]
        · rw [if_neg q2, if_neg (by omega)]
theorem smell9 : ∀ m i n M, i + m = 8 → m < n → ∃ M1 : Mem, lp_X8_passWeek_8_69 n (nI i) M = some (up2 M1 8 8 (M 8 8 + 1)) ∧ (∀ k, k ≠ 12 → M1 k = M k) ∧ ∀ j, M1 12 j = if i ≤ j ∧ j < 8 then maxI 0 (M 12 j - 1) else M 12 j
  | 0, i, n, M, hi, hn => by
    obtain ⟨n, rfl⟩ : ∃ q, n = q + 1 := ⟨n - 1, by omega⟩
    refine ⟨M, ?_, fun _ _ => rfl, fun j => by rw [if_neg (by omega)]⟩
    show bd_X8_passWeek_8_69 _ _ _ = _
    unfold bd_X8_passWeek_8_69
    rw [if_pos (show (8 : Int32) ≤ nI i from nI_le (a := 8) (by omega) (by omega))]
  | m + 1, i, n, M, hi, hn => by
    obtain ⟨n, rfl⟩ : ∃ q, n = q + 1 := ⟨n - 1, by omega⟩
    obtain ⟨M1, h1, h2, h3⟩ := smell9 m (i + 1) n (up2 M 12 i (maxI 0 (M 12 i - 1))) (by omega) (by omega)
    refine ⟨M1, ?_, fun k hk => (h2 k hk).trans (up2_ne _ _ _ hk), fun j => ?_⟩
    · show bd_X8_passWeek_8_69 _ _ _ = _
      unfold bd_X8_passWeek_8_69
      rw [if_neg (show ¬ (8 : Int32) ≤ nI i from nI_ge (b := 8) (by omega) (by omega)), inb_nI (show i < 8 by omega) (by decide), ix_nI (by omega), n_s]
      exact h1
    · rw [h3 j, up2_at]
      by_cases q : j = i
      · rw [if_neg (by omega), if_pos q, if_pos (by omega), q]
      · rw [if_neg q]
        by_cases q2 : i + 1 ≤ j ∧ j < 8
        · rw [if_pos q2, if_pos (by omega)]
        · rw [if_neg q2, if_neg (by omega)]
theorem go10_end : ∀ m i n N, i + m = 8 → m < n → ∃ N1 : Mem, lp_X10_go_106 n (nI i) N = some N1 ∧ (∀ k, k ≠ 54 → k ≠ 57 → N1 k = N k) ∧ (∀ j, N1 54 j = if i ≤ j ∧ j < 8 then f_X10_less 99 (N 54 j + N 65 j) else N 54 j) ∧ ∀ j, N1 57 j = if i ≤ j ∧ j < 8 then (if N 57 j ≤ 0 then 0 else N 57 j - 1) else N 57 j
  | 0, i, n, N, hi, hn => by
    obtain ⟨n, rfl⟩ : ∃ q, n = q + 1 := ⟨n - 1, by omega⟩
    refine ⟨N, ?_, fun _ _ _ => rfl, fun j => by rw [if_neg (by omega)], fun j => by rw [if_neg (by omega)]⟩
    show bd_X10_go_106 _ _ _ = _
    unfold bd_X10_go_106
    rw [if_pos (show (8 : Int32) ≤ nI i from nI_le (a := 8) (by omega) (by omega))]
  | m + 1, i, n, N, hi, hn => by
    obtain ⟨n, rfl⟩ : ∃ q, n = q + 1 := ⟨n - 1, by omega⟩
    obtain ⟨N1, h1, h2, h3, h4⟩ := go10_end m (i + 1) n (up2 (up2 N 54 i (f_X10_less 99 (N 54 i + N 65 i))) 57 i (if N 57 i ≤ 0 then 0 else N 57 i - 1)) (by omega) (by omega)
    refine ⟨N1, ?_, fun k a b => by rw [h2 k a b, up2_ne _ _ _ b, up2_ne _ _ _ a], fun j => ?_, fun j => ?_⟩
    · show bd_X10_go_106 _ _ _ = _
      unfold bd_X10_go_106
      rw [if_neg (show ¬ (8 : Int32) ≤ nI i from nI_ge (b := 8) (by omega) (by omega)), inb_nI (show i < 8 by omega) (by decide), ix_nI (by omega), n_s, ← h1]
      by_cases q : N 57 i ≤ 0
      · simp only [q, if_true]
      · simp only [q, if_true, if_false]
    · have e65 : up2 (up2 N 54 i (f_X10_less 99 (N 54 i + N 65 i))) 57 i (if N 57 i ≤ 0 then 0 else N 57 i - 1) 65 = N 65 := by rw [up2_ne _ _ _ (by decide), up2_ne _ _ _ (by decide)]
      rw [h3 j, e65, up2_ne _ _ _ (by decide), up2_at]
      by_cases q : j = i
      · rw [if_neg (by omega), if_pos q, if_pos (by omega), q]
      · rw [if_neg q]
        by_cases q2 : i + 1 ≤ j ∧ j < 8
        · rw [if_pos q2, if_pos (by omega)]
        · rw [if_neg q2, if_neg (by omega)]
    · rw [h4 j, up2_at, up2_ne _ _ _ (by decide)]
      by_cases q : j = i
      · subst q
        have a1 : ¬ (j + 1 ≤ j ∧ j < 8) := by omega
        have a2 : j ≤ j ∧ j < 8 := by omega
        simp only [if_neg a1, if_pos a2, if_true]
      · simp only [if_neg q]
        by_cases q2 : i + 1 ≤ j ∧ j < 8
        · have a2 : i ≤ j ∧ j < 8 := by omega
          simp only [if_pos q2, if_pos a2]
        · have a2 : ¬ (i ≤ j ∧ j < 8) := by omega
          simp only [if_neg q2, if_neg a2]
theorem go10_zero : ∀ m i n N, i + m = 8 → m < n → ∃ N1 : Mem, lp_X10_go_2 n (nI i) N = lp_X10_go_23 FU 0 N1 ∧ (∀ k, k ≠ 65 → N1 k = N k) ∧ ∀ j, N1 65 j = if i ≤ j ∧ j < 8 then 0 else N 65 j
  | 0, i, n, N, hi, hn => by
    obtain ⟨n, rfl⟩ : ∃ q, n = q + 1 := ⟨n - 1, by omega⟩
    refine ⟨N, ?_, fun _ _ => rfl, fun j => by rw [if_neg (by omega)]⟩
    show bd_X10_go_2 _ _ _ = _
    unfold bd_X10_go_2
    rw [if_pos (show (8 : Int32) ≤ nI i from nI_le (a := 8) (by omega) (by omega))]
  | m + 1, i, n, N, hi, hn => by
    obtain ⟨n, rfl⟩ : ∃ q, n = q + 1 := ⟨n - 1, by omega⟩
    obtain ⟨N1, h1, h2, h3⟩ := go10_zero m (i + 1) n (up2 N 65 i 0) (by omega) (by omega)
    refine ⟨N1, ?_, fun k hk => (h2 k hk).trans (up2_ne _ _ _ hk), fun j => ?_⟩
    · show bd_X10_go_2 _ _ _ = _
      unfold bd_X10_go_2
      rw [if_neg (show ¬ (8 : Int32) ≤ nI i from nI_ge (b := 8) (by omega) (by omega)), inb_nI (show i < 8 by omega) (by decide), ix_nI (by omega), n_s]
      exact h1
    · rw [h3 j, up2_at]
      by_cases q : j = i
      · rw [if_neg (by omega), if_pos q, if_pos (by omega)]
      · rw [if_neg q]
        by_cases q2 : i + 1 ≤ j ∧ j < 8
        · rw [if_pos q2, if_pos (by omega)]
        · rw [if_neg q2, if_neg (by omega)]
theorem smell_eq {s : Nat} (hs : s ≤ 9) : maxI 0 (nI s - 1) = nI (s - 1) ∧ (if nI s ≤ 0 then 0 else nI s - 1) = nI (s - 1) := by
  refine ⟨maxI0_sub (b := 1) (by omega) (by omega), ?_⟩
  by_cases q : s = 0
  · subst q; decide
  · rw [if_neg (nI_nle (by omega) (by omega))]
    exact pk_sub (b := 1) (by omega)
theorem breed_wk : ∀ n v N N1, lp_X10_breed_2 n v N = some N1 → N1 53 7 = N 53 7
  | 0, v, N, N1, h => by simp [lp_X10_breed_2] at h
  | n + 1, v, N, N1, h => by
    have h : bd_X10_breed_2 (lp_X10_breed_2 n) v N = some N1 := h
    unfold bd_X10_breed_2 at h
    by_cases q : (8 : Int32) ≤ v
    · rw [if_pos q] at h
      cases h; rfl
    · rw [if_neg q] at h
      by_cases r : inb v 8
      · simp only [r, if_true] at h
        have := breed_wk n _ _ _ h
        rw [this, up2_at, if_neg (by decide), up2_at, if_neg (by decide), up2_ne _ _ _ (by decide)]
      · simp only [r, if_false] at h
        cases h
/-- a week, on both sides -/
theorem week_eq {M N : Mem} (hR : Rel M N) (hw : ∃ w, w < 99 ∧ M 8 8 = nI w) : ∃ M' N', f_X8_passWeek_8 M = some M' ∧ ((f_X10_breed N).bind fun q21 => (f_X10_go q21).bind fun q22 => some (up2 q22 53 7 (q22 53 7 + 1))) = some N' ∧ Rel M' N' ∧ FrC M M' ∧ FrR N N' := by
  obtain ⟨w, hw1, hw2⟩ := hw
  obtain ⟨M1, N1, a1, a2, ⟨h1, ⟨h2, h3, h4⟩, t1, t2, t3, t4⟩, a4, a5⟩ := breed_lock (M0 := M) (N0 := N) 8 0 FU FU M N (by omega) (FU_lt (by omega)) (FU_lt (by omega)) hR (fun _ _ => rfl) ⟨fun _ _ _ => rfl, fun _ _ _ _ _ => rfl, rfl⟩
  obtain ⟨key, hkey⟩ : ∃ key : Nat → Nat, ∀ j, j < 8 → M1 9 j = nI (key j) ∧ key j ≤ 99 := by
    refine ⟨fun j => if h : j < 8 then (t1 j h).1.choose else 0, fun j hj => ?_⟩
    have := (t1 j hj).1.choose_spec
    simp only [hj, dif_pos]
    exact ⟨this.2, this.1⟩
  obtain ⟨N2, b1, b2, b3⟩ := go10_zero 8 0 FU N1 (by omega) (FU_lt (by omega))
  have e14 : ∀ j, j < 8 → (upA M1 14 (va_cpy (M1 9) (M1 14) 0 0 8)) 14 j = M1 9 j := fun j hj => by
    rw [upA_at]
    exact cpy_lt hj
  obtain ⟨M3, N3, c1, c2, c3, c4, c5⟩ := go_lock (Ma := upA M1 14 (va_cpy (M1 9) (M1 14) 0 0 8)) (Nb := N2) (key := key) 8 0 FU FU (upA M1 14 (va_cpy (M1 9) (M1 14) 0 0 8)) N2 (by omega) (FU_lt (by omega)) (FU_lt (by omega)) (fun j hj => by
    have q := hkey j hj
    have r := h1 j hj
    refine ⟨⟨(e14 j hj).trans q.1, q.2⟩, ?_, ?_, ?_, ?_, key j, by omega, ?_, fun _ => Nat.le_refl _⟩
    · rw [b2 54 (by decide), ← r.1]; exact q.1
    · rw [b2 57 (by decide), upA_ne _ _ (by decide)]; exact r.2.2.2.1
    · rw [b2 58 (by decide), upA_ne _ _ (by decide)]; exact r.2.2.2.2
    · rw [b3 j, if_pos ⟨by omega, hj⟩, upA_ne _ _ (by decide), q.1]; grind
    · rw [upA_ne _ _ (by decide)]; exact q.1) (fun _ _ => rfl) (fun _ _ => rfl)
  obtain ⟨M4, d1, d2, d3⟩ := cap9 8 0 FU M3 (by omega) (FU_lt (by omega))
  obtain ⟨M5, g1, g2, g3⟩ := smell9 8 0 FU M4 (by omega) (FU_lt (by omega))
  obtain ⟨N4, k1, k2, k3, k4⟩ := go10_end 8 0 FU N3 (by omega) (FU_lt (by omega))
  have mE : ∀ k, k ≠ 9 → k ≠ 12 → k ≠ 14 → M5 k = M1 k := fun k p q r => by rw [g2 k q, d2 k p, c4 k p, upA_ne _ _ r]
  have nE : ∀ k, k ≠ 54 → k ≠ 57 → k ≠ 65 → N4 k = N1 k := fun k p q r => by rw [k2 k p q, c5 k r, b2 k r]
  have e88 : M4 8 8 = M1 8 8 := by rw [d2 8 (by decide), c4 8 (by decide), upA_ne _ _ (by decide)]
  have wM : M1 8 8 = M 8 8 := by rw [h4, breed_wk FU (nI 0) N N1 a2, ← hR.2.1.2.2]
  refine ⟨up2 M5 8 8 (M4 8 8 + 1), up2 N4 53 7 (N4 53 7 + 1), ?_, ?_, ?_, ?_, ?_⟩
  · show lp_X8_passWeek_8_2 FU (nI 0) M = _
    rw [a1]
    show (lp_X8_wander_8_17 FU (nI 0) _).bind _ = _
    rw [c1]
    show (lp_X8_wander_8_98 FU (nI 0) _).bind _ = _
    rw [d1]
    exact g1
  · show (lp_X10_breed_2 FU (nI 0) N).bind _ = _
    rw [a2]
    show (lp_X10_go_2 FU (nI 0) N1).bind _ = _
    rw [b1]
    show (lp_X10_go_23 FU (nI 0) N2).bind _ = _
    rw [c2]
    show (lp_X10_go_106 FU (nI 0) N3).bind _ = _
    rw [k1]
    rfl
  · have row : ∀ j, j < 8 → (∃ x, x ≤ 99 ∧ M5 9 j = nI x) ∧ M5 9 j = N4 54 j ∧ (∃ x, x ≤ 9 ∧ M5 12 j = nI x) ∧ M5 12 j = N4 57 j := fun j hj => by
      obtain ⟨p1, p2, p3, p4, p5, x, p6, p7, p8⟩ := c3 j hj
      obtain ⟨s, s1, s2⟩ := (t1 j hj).2.2.2
      have e9 : M5 9 j = nI (min 99 x) := by
        rw [g2 9 (by decide), d3 j, if_pos ⟨by omega, hj⟩, p7]
        exact minI_nI (a := 99) (by omega) (by omega)
      have e54 : N4 54 j = nI (min 99 x) := by
        rw [k3 j, if_pos ⟨by omega, hj⟩, p2, ← p5, p7]
        exact less_nI (a := 99) (by omega) (by omega)
      have f12 : M3 12 j = nI s := by rw [c4 12 (by decide), upA_ne _ _ (by decide)]; exact s2
      have e12 : M5 12 j = nI (s - 1) := by
        rw [g3 j, if_pos ⟨by omega, hj⟩, d2 12 (by decide), f12]
        exact (smell_eq s1).1
      have e57 : N4 57 j = nI (s - 1) := by
        rw [k4 j, if_pos ⟨by omega, hj⟩, ← p3, f12]
        exact (smell_eq s1).2
      exact ⟨⟨_, by omega, e9⟩, e9.trans e54.symm, ⟨_, by omega, e12⟩, e12.trans e57.symm⟩
    have f8 : ∀ k, k ≠ 8 → up2 M5 8 8 (M4 8 8 + 1) k = M5 k := fun k hk => up2_ne _ _ _ hk
    have f53 : ∀ k, k ≠ 53 → up2 N4 53 7 (N4 53 7 + 1) k = N4 k := fun k hk => up2_ne _ _ _ hk
    have e8 : ∀ j, up2 M5 8 8 (M4 8 8 + 1) 8 j = if j = 8 then M1 8 8 + 1 else M1 8 j := fun j => by rw [up2_at, e88, mE 8 (by decide) (by decide) (by decide)]
    have e53 : ∀ j, up2 N4 53 7 (N4 53 7 + 1) 53 j = if j = 7 then N1 53 7 + 1 else N1 53 j := fun j => by rw [up2_at, nE 53 (by decide) (by decide) (by decide)]
    refine ⟨fun j hj => ?_, ⟨?_, ?_, ?_⟩, fun j hj => ?_, ?_, ?_, ?_⟩
    · have r := h1 j hj
      have q := row j hj
      rw [f8 9 (by decide), f8 10 (by decide), f8 11 (by decide), f8 12 (by decide), f8 13 (by decide), f53 54 (by decide), f53 55 (by decide), f53 56 (by decide), f53 57 (by decide), f53 58 (by decide), mE 10 (by decide) (by decide) (by decide), mE 11 (by decide) (by decide) (by decide), mE 13 (by decide) (by decide) (by decide), nE 55 (by decide) (by decide) (by decide), nE 56 (by decide) (by decide) (by decide), nE 58 (by decide) (by decide) (by decide)]
      exact ⟨q.2.1, r.2.1, r.2.2.1, q.2.2.2, r.2.2.2.2⟩
    · rw [e8, e53, if_neg (by decide), if_neg (by decide)]; exact h2
    · rw [e8, e53, if_neg (by decide), if_neg (by decide)]; exact h3
    · rw [e8, e53, if_pos rfl, if_pos rfl, h4]
    · have q := row j hj
      rw [f8 9 (by decide), f8 10 (by decide), f8 11 (by decide), f8 12 (by decide), mE 10 (by decide) (by decide) (by decide), mE 11 (by decide) (by decide) (by decide)]
      exact ⟨q.1, (t1 j hj).2.1, (t1 j hj).2.2.1, q.2.2.1⟩
    · rw [f8 13 (by decide), mE 13 (by decide) (by decide) (by decide)]; exact t2
    · rw [e8, if_neg (by decide)]; exact t3
    · rw [e8, if_pos rfl, wM, hw2]
      exact ⟨w + 1, by omega, nI_add w 1⟩
  · intro k hk
    rw [up2_ne _ _ _ (by omega), mE k (by omega) (by omega) (by omega)]
    exact a4 k hk
  · refine ⟨fun k p q => ?_, fun j p q r s => ?_, ?_⟩
    · rw [up2_ne _ _ _ (by omega), nE k (by omega) (by omega) q]
      exact a5.1 k p q
    · rw [up2_at, if_neg r, nE 53 (by decide) (by decide) (by decide)]
      exact a5.2.1 j p q r s
    · rw [up2_at, up2_at, if_neg (by decide), if_neg (by decide), nE 53 (by decide) (by decide) (by decide)]
      exact a5.2.2
