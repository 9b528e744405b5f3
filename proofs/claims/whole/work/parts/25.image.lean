-- images: where the reference keeps what
def idx (k j : Nat) : Option Nat := if k = 53 ∧ j = 5 then some 0 else if k = 53 ∧ j = 6 then some 1 else if k = 53 ∧ j = 7 then some 2 else if k = 53 ∧ j = 10 then some 3 else if 54 ≤ k ∧ k ≤ 60 ∧ j < 8 then some (4 + 8 * (k - 54) + j) else none
theorem idx_row {k j : Nat} (h : 54 ≤ k ∧ k ≤ 60 ∧ j < 8) : idx k j = some (4 + 8 * (k - 54) + j) := by
  unfold idx
  rw [if_neg (by omega), if_neg (by omega), if_neg (by omega), if_neg (by omega), if_pos h]
theorem idx_inj {k j k' j' o : Nat} (h : idx k j = some o) (h' : idx k' j' = some o) : k = k' ∧ j = j' := by
  unfold idx at h h'
  repeat' split at h
  all_goals (repeat' split at h')
  all_goals first | (injection h with h; injection h' with h'; omega) | (cases h; done) | (cases h'; done)
/-- writing: the first o of what is kept stand at b and on -/
def SW (M0 : Mem) (b : Nat) (C : Nat → Int32) (M : Mem) (o : Nat) : Prop := (∀ k, k ≠ 53 → k ≠ 73 → M k = M0 k) ∧ (∀ j, j ≠ 32 → M 53 j = M0 53 j) ∧ M 53 32 = nI (b + o) ∧ M0 53 33 = 1 ∧ (∀ j, j < o → M 73 (b + j) = C j) ∧ ∀ j, ¬ (b ≤ j ∧ j < b + o) → M 73 j = M0 73 j
theorem SW_pass {M0 M : Mem} {b o : Nat} {C : Nat → Int32} (H : SW M0 b C M o) (hb : b + o < 140) : ∃ M', f_X10_pass (C o) M = some (C o, M') ∧ SW M0 b C M' (o + 1) := by
  obtain ⟨h1, h2, h3, h4, h5, h6⟩ := H
  refine ⟨up2 (up2 M 73 (b + o) (C o)) 53 32 (nI (b + o + 1)), ?_, ?_, ?_, ?_, h4, ?_, ?_⟩
  · unfold f_X10_pass lb_X10_pass_20
    rw [h2 33 (by decide), h4, if_neg (by decide), h3, inb_nI hb (by decide), ix_nI (by omega), n_s]
    rfl
  · intro k a c
    rw [up2_ne _ _ _ a, up2_ne _ _ _ c]
    exact h1 k a c
  · intro j hj
    rw [up2_at, if_neg hj, up2_ne _ _ _ (by decide)]
    exact h2 j hj
  · rw [up2_at, if_pos rfl]
    rfl
  · intro j hj
    rw [up2_ne _ _ _ (by decide), up2_at]
    by_cases q : j = o
    · rw [if_pos (by omega), q]
    · rw [if_neg (by omega)]
      exact h5 j (by omega)
  · intro j hj
    rw [up2_ne _ _ _ (by decide), up2_at, if_neg (by omega)]
    exact h6 j (by omega)
theorem SW_put {M0 M : Mem} {b o k j : Nat} {C : Nat → Int32} (H : SW M0 b C M o) (hk : k ≠ 73) (hj : ¬ (k = 53 ∧ j = 32)) {x : Int32} (hx : M0 k j = x) : SW M0 b C (up2 M k j x) o := by
  obtain ⟨h1, h2, h3, h4, h5, h6⟩ := H
  refine ⟨?_, ?_, ?_, h4, ?_, ?_⟩
  · intro q a c
    by_cases e : q = k
    · subst e
      funext i
      rw [up2_at, h1 q a c]
      split
      · rename_i z; rw [z, hx]
      · rfl
    · rw [up2_ne _ _ _ e]
      exact h1 q a c
  · intro i hi
    by_cases e : k = 53
    · subst e
      rw [up2_at]
      split
      · rename_i z; rw [z, hx]
      · exact h2 i hi
    · rw [up2_ne _ _ _ (fun z => e z.symm)]
      exact h2 i hi
  · by_cases e : k = 53
    · subst e
      rw [up2_at, if_neg (fun z => hj ⟨rfl, z.symm⟩)]
      exact h3
    · rw [up2_ne _ _ _ (fun z => e z.symm)]
      exact h3
  · intro i hi
    rw [up2_ne _ _ _ (fun z => hk z.symm)]
    exact h5 i hi
  · intro i hi
    rw [up2_ne _ _ _ (fun z => hk z.symm)]
    exact h6 i hi
/-- reading: the first o of what is kept have come back; the pointer stands at p -/
def SR (M0 : Mem) (b : Nat) (M : Mem) (o p : Nat) : Prop := M 73 = M0 73 ∧ M 53 32 = nI p ∧ M 53 33 = 0 ∧ ∀ k j, ¬ (k = 53 ∧ j = 32) → M k j = match idx k j with
  | some q => if q < o then M0 73 (b + q) else M0 k j
  | none => M0 k j
theorem SR_pass {M0 M : Mem} {b o p : Nat} (H : SR M0 b M o p) (hb : p < 140) (v : Int32) : ∃ M', f_X10_pass v M = some (M0 73 p, M') ∧ SR M0 b M' o (p + 1) := by
  obtain ⟨h1, h2, h3, h4⟩ := H
  refine ⟨up2 (up2 M 73 p (M0 73 p)) 53 32 (nI (p + 1)), ?_, ?_, ?_, ?_, ?_⟩
  · unfold f_X10_pass lb_X10_pass_20
    rw [h3, if_pos rfl, h2, inb_nI hb (by decide), ix_nI (by omega), n_s, h1]
    rfl
  · rw [up2_ne _ _ _ (by decide)]
    unfold up2
    rw [upA_at, h1]
    exact upd_id rfl
  · rw [up2_at, if_pos rfl]
  · rw [up2_at, if_neg (by decide), up2_ne _ _ _ (by decide)]
    exact h3
  · intro k j hkj
    have e : up2 (up2 M 73 p (M0 73 p)) 53 32 (nI (p + 1)) k j = M k j := by
      by_cases q : k = 53
      · subst q
        rw [up2_at, if_neg (fun z => hkj ⟨rfl, z⟩), up2_ne _ _ _ (by decide)]
      · rw [up2_ne _ _ _ q]
        by_cases q2 : k = 73
        · subst q2
          rw [up2_at, h1]
          split
          · rename_i z; rw [z]
          · rfl
        · rw [up2_ne _ _ _ q2]
    rw [e]
    exact h4 k j hkj
theorem SR_put {M0 M : Mem} {b o p k j : Nat} (H : SR M0 b M o p) (hk : idx k j = some o) : SR M0 b (up2 M k j (M0 73 (b + o))) (o + 1) p := by
  obtain ⟨h1, h2, h3, h4⟩ := H
  have hk73 : k ≠ 73 := by
    intro e; subst e; unfold idx at hk; simp at hk
  have hj32 : ¬ (k = 53 ∧ j = 32) := by
    rintro ⟨e, e2⟩; subst e; subst e2; unfold idx at hk; simp at hk
  have hj33 : ¬ (k = 53 ∧ j = 33) := by
    rintro ⟨e, e2⟩; subst e; subst e2; unfold idx at hk; simp at hk
  refine ⟨?_, ?_, ?_, ?_⟩
  · rw [up2_ne _ _ _ (fun z => hk73 z.symm)]; exact h1
  · by_cases e : k = 53
    · subst e; rw [up2_at, if_neg (fun z => hj32 ⟨rfl, z.symm⟩)]; exact h2
    · rw [up2_ne _ _ _ (fun z => e z.symm)]; exact h2
  · by_cases e : k = 53
    · subst e; rw [up2_at, if_neg (fun z => hj33 ⟨rfl, z.symm⟩)]; exact h3
    · rw [up2_ne _ _ _ (fun z => e z.symm)]; exact h3
  · intro k' j' hkj
    have old := h4 k' j' hkj
    by_cases e : k' = k ∧ j' = j
    · obtain ⟨rfl, rfl⟩ := e
      rw [up2_at, if_pos rfl, hk]
      show _ = if o < o + 1 then _ else _
      rw [if_pos (by omega)]
    · have e2 : up2 M k j (M0 73 (b + o)) k' j' = M k' j' := by
        by_cases z : k' = k
        · subst z
          rw [up2_at, if_neg (fun y => e ⟨rfl, y⟩)]
        · rw [up2_ne _ _ _ z]
      rw [e2, old]
      cases hq : idx k' j' with
      | none => rfl
      | some q =>
        show (if q < o then _ else _) = (if q < o + 1 then _ else _)
        have hne : q ≠ o := fun z => e (by subst z; exact idx_inj hq hk)
        by_cases y : q < o
        · rw [if_pos y, if_pos (by omega)]
        · rw [if_neg y, if_neg (by omega)]
theorem rowW_54 {M0 : Mem} {b : Nat} {C : Nat → Int32} (hb : b ≤ 70) (hC : ∀ i, i < 8 → C (4 + i) = M0 54 i) : ∀ m i n M, i + m = 8 → m < n → SW M0 b C M (4 + i) → ∃ M', lp_X10_passRow_54_2 n 8 (nI i) M = some M' ∧ SW M0 b C M' 12
  | 0, i, n, M, hi, hn, H => by
    obtain ⟨n, rfl⟩ : ∃ n', n = n' + 1 := ⟨n - 1, by omega⟩
    refine ⟨M, ?_, by rw [show 4 + i = 12 by omega] at H; exact H⟩
    show bd_X10_passRow_54_2 _ _ _ _ = _
    unfold bd_X10_passRow_54_2
    rw [if_pos (show (8 : Int32) ≤ nI i from nI_le (a := 8) (by omega) (by omega))]
  | m + 1, i, n, M, hi, hn, H => by
    obtain ⟨n, rfl⟩ : ∃ n', n = n' + 1 := ⟨n - 1, by omega⟩
    obtain ⟨M1, p1, p2⟩ := SW_pass H (by omega)
    obtain ⟨M', q1, q2⟩ := rowW_54 hb hC m (i + 1) n (up2 M1 54 i (C (4 + i))) (by omega) (by omega) (SW_put p2 (by decide) (by omega) (hC i (by omega)).symm)
    refine ⟨M', ?_, q2⟩
    show bd_X10_passRow_54_2 _ _ _ _ = _
    unfold bd_X10_passRow_54_2
    rw [if_neg (show ¬ (8 : Int32) ≤ nI i from nI_ge (b := 8) (by omega) (by omega)), inb_nI (show i < 8 by omega) (by decide), ix_nI (by omega), n_s, H.1 54 (by decide) (by decide), ← hC i (by omega), p1]
    exact q1
theorem rowR_54 {M0 : Mem} {b : Nat} (hb : b ≤ 70) : ∀ m i n M, i + m = 8 → m < n → SR M0 b M (4 + i) (b + (4 + i)) → ∃ M', lp_X10_passRow_54_2 n 8 (nI i) M = some M' ∧ SR M0 b M' 12 (b + 12)
  | 0, i, n, M, hi, hn, H => by
    obtain ⟨n, rfl⟩ : ∃ n', n = n' + 1 := ⟨n - 1, by omega⟩
    refine ⟨M, ?_, by rw [show 4 + i = 12 by omega] at H; exact H⟩
    show bd_X10_passRow_54_2 _ _ _ _ = _
    unfold bd_X10_passRow_54_2
    rw [if_pos (show (8 : Int32) ≤ nI i from nI_le (a := 8) (by omega) (by omega))]
  | m + 1, i, n, M, hi, hn, H => by
    obtain ⟨n, rfl⟩ : ∃ n', n = n' + 1 := ⟨n - 1, by omega⟩
    obtain ⟨M1, p1, p2⟩ := SR_pass H (by omega) (M 54 i)
    obtain ⟨M', q1, q2⟩ := rowR_54 hb m (i + 1) n (up2 M1 54 i (M0 73 (b + (4 + i)))) (by omega) (by omega) (SR_put p2 (idx_row (by omega)))
    refine ⟨M', ?_, q2⟩
    show bd_X10_passRow_54_2 _ _ _ _ = _
    unfold bd_X10_passRow_54_2
    rw [if_neg (show ¬ (8 : Int32) ≤ nI i from nI_ge (b := 8) (by omega) (by omega)), inb_nI (show i < 8 by omega) (by decide), ix_nI (by omega), n_s, p1]
    exact q1
theorem rowW_55 {M0 : Mem} {b : Nat} {C : Nat → Int32} (hb : b ≤ 70) (hC : ∀ i, i < 8 → C (12 + i) = M0 55 i) : ∀ m i n M, i + m = 8 → m < n → SW M0 b C M (12 + i) → ∃ M', lp_X10_passRow_55_2 n 8 (nI i) M = some M' ∧ SW M0 b C M' 20
  | 0, i, n, M, hi, hn, H => by
    obtain ⟨n, rfl⟩ : ∃ n', n = n' + 1 := ⟨n - 1, by omega⟩
    refine ⟨M, ?_, by rw [show 12 + i = 20 by omega] at H; exact H⟩
    show bd_X10_passRow_55_2 _ _ _ _ = _
    unfold bd_X10_passRow_55_2
    rw [if_pos (show (8 : Int32) ≤ nI i from nI_le (a := 8) (by omega) (by omega))]
  | m + 1, i, n, M, hi, hn, H => by
    obtain ⟨n, rfl⟩ : ∃ n', n = n' + 1 := ⟨n - 1, by omega⟩
    obtain ⟨M1, p1, p2⟩ := SW_pass H (by omega)
    obtain ⟨M', q1, q2⟩ := rowW_55 hb hC m (i + 1) n (up2 M1 55 i (C (12 + i))) (by omega) (by omega) (SW_put p2 (by decide) (by omega) (hC i (by omega)).symm)
    refine ⟨M', ?_, q2⟩
    show bd_X10_passRow_55_2 _ _ _ _ = _
    unfold bd_X10_passRow_55_2
    rw [if_neg (show ¬ (8 : Int32) ≤ nI i from nI_ge (b := 8) (by omega) (by omega)), inb_nI (show i < 8 by omega) (by decide), ix_nI (by omega), n_s, H.1 55 (by decide) (by decide), ← hC i (by omega), p1]
    exact q1
theorem rowR_55 {M0 : Mem} {b : Nat} (hb : b ≤ 70) : ∀ m i n M, i + m = 8 → m < n → SR M0 b M (12 + i) (b + (12 + i)) → ∃ M', lp_X10_passRow_55_2 n 8 (nI i) M = some M' ∧ SR M0 b M' 20 (b + 20)
  | 0, i, n, M, hi, hn, H => by
    obtain ⟨n, rfl⟩ : ∃ n', n = n' + 1 := ⟨n - 1, by omega⟩
    refine ⟨M, ?_, by rw [show 12 + i = 20 by omega] at H; exact H⟩
    show bd_X10_passRow_55_2 _ _ _ _ = _
    unfold bd_X10_passRow_55_2
    rw [if_pos (show (8 : Int32) ≤ nI i from nI_le (a := 8) (by omega) (by omega))]
  | m + 1, i, n, M, hi, hn, H => by
    obtain ⟨n, rfl⟩ : ∃ n', n = n' + 1 := ⟨n - 1, by omega⟩
    obtain ⟨M1, p1, p2⟩ := SR_pass H (by omega) (M 55 i)
    obtain ⟨M', q1, q2⟩ := rowR_55 hb m (i + 1) n (up2 M1 55 i (M0 73 (b + (12 + i)))) (by omega) (by omega) (SR_put p2 (idx_row (by omega)))
    refine ⟨M', ?_, q2⟩
    show bd_X10_passRow_55_2 _ _ _ _ = _
    unfold bd_X10_passRow_55_2
    rw [if_neg (show ¬ (8 : Int32) ≤ nI i from nI_ge (b := 8) (by omega) (by omega)), inb_nI (show i < 8 by omega) (by decide), ix_nI (by omega), n_s, p1]
    exact q1
theorem rowW_56 {M0 : Mem} {b : Nat} {C : Nat → Int32} (hb : b ≤ 70) (hC : ∀ i, i < 8 → C (20 + i) = M0 56 i) : ∀ m i n M, i + m = 8 → m < n → SW M0 b C M (20 + i) → ∃ M', lp_X10_passRow_56_2 n 8 (nI i) M = some M' ∧ SW M0 b C M' 28
  | 0, i, n, M, hi, hn, H => by
    obtain ⟨n, rfl⟩ : ∃ n', n = n' + 1 := ⟨n - 1, by omega⟩
    refine ⟨M, ?_, by rw [show 20 + i = 28 by omega] at H; exact H⟩
    show bd_X10_passRow_56_2 _ _ _ _ = _
    unfold bd_X10_passRow_56_2
    rw [if_pos (show (8 : Int32) ≤ nI i from nI_le (a := 8) (by omega) (by omega))]
  | m + 1, i, n, M, hi, hn, H => by
    obtain ⟨n, rfl⟩ : ∃ n', n = n' + 1 := ⟨n - 1, by omega⟩
    obtain ⟨M1, p1, p2⟩ := SW_pass H (by omega)
    obtain ⟨M', q1, q2⟩ := rowW_56 hb hC m (i + 1) n (up2 M1 56 i (C (20 + i))) (by omega) (by omega) (SW_put p2 (by decide) (by omega) (hC i (by omega)).symm)
    refine ⟨M', ?_, q2⟩
    show bd_X10_passRow_56_2 _ _ _ _ = _
    unfold bd_X10_passRow_56_2
    rw [if_neg (show ¬ (8 : Int32) ≤ nI i from nI_ge (b := 8) (by omega) (by omega)), inb_nI (show i < 8 by omega) (by decide), ix_nI (by omega), n_s, H.1 56 (by decide) (by decide), ← hC i (by omega), p1]
    exact q1
theorem rowR_56 {M0 : Mem} {b : Nat} (hb : b ≤ 70) : ∀ m i n M, i + m = 8 → m < n → SR M0 b M (20 + i) (b + (20 + i)) → ∃ M', lp_X10_passRow_56_2 n 8 (nI i) M = some M' ∧ SR M0 b M' 28 (b + 28)
  | 0, i, n, M, hi, hn, H => by
    obtain ⟨n, rfl⟩ : ∃ n', n = n' + 1 := ⟨n - 1, by omega⟩
    refine ⟨M, ?_, by rw [show 20 + i = 28 by omega] at H; exact H⟩
    show bd_X10_passRow_56_2 _ _ _ _ = _
    unfold bd_X10_passRow_56_2
    rw [if_pos (show (8 : Int32) ≤ nI i from nI_le (a := 8) (by omega) (by omega))]
  | m + 1, i, n, M, hi, hn, H => by
    obtain ⟨n, rfl⟩ : ∃ n', n = n' + 1 := ⟨n - 1, by omega⟩
    obtain ⟨M1, p1, p2⟩ := SR_pass H (by omega) (M 56 i)
    obtain ⟨M', q1, q2⟩ := rowR_56 hb m (i + 1) n (up2 M1 56 i (M0 73 (b + (20 + i)))) (by omega) (by omega) (SR_put p2 (idx_row (by omega)))
    refine ⟨M', ?_, q2⟩
    show bd_X10_passRow_56_2 _ _ _ _ = _
    unfold bd_X10_passRow_56_2
    rw [if_neg (show ¬ (8 : Int32) ≤ nI i from nI_ge (b := 8) (by omega) (by omega)), inb_nI (show i < 8 by omega) (by decide), ix_nI (by omega), n_s, p1]
    exact q1
theorem rowW_57 {M0 : Mem} {b : Nat} {C : Nat → Int32} (hb : b ≤ 70) (hC : ∀ i, i < 8 → C (28 + i) = M0 57 i) : ∀ m i n M, i + m = 8 → m < n → SW M0 b C M (28 + i) → ∃ M', lp_X10_passRow_57_2 n 8 (nI i) M = some M' ∧ SW M0 b C M' 36
  | 0, i, n, M, hi, hn, H => by
    obtain ⟨n, rfl⟩ : ∃ n', n = n' + 1 := ⟨n - 1, by omega⟩
    refine ⟨M, ?_, by rw [show 28 + i = 36 by omega] at H; exact H⟩
    show bd_X10_passRow_57_2 _ _ _ _ = _
    unfold bd_X10_passRow_57_2
    rw [if_pos (show (8 : Int32) ≤ nI i from nI_le (a := 8) (by omega) (by omega))]
  | m + 1, i, n, M, hi, hn, H => by
    obtain ⟨n, rfl⟩ : ∃ n', n = n' + 1 := ⟨n - 1, by omega⟩
    obtain ⟨M1, p1, p2⟩ := SW_pass H (by omega)
    obtain ⟨M', q1, q2⟩ := rowW_57 hb hC m (i + 1) n (up2 M1 57 i (C (28 + i))) (by omega) (by omega) (SW_put p2 (by decide) (by omega) (hC i (by omega)).symm)
    refine ⟨M', ?_, q2⟩
    show bd_X10_passRow_57_2 _ _ _ _ = _
    unfold bd_X10_passRow_57_2
    rw [if_neg (show ¬ (8 : Int32) ≤ nI i from nI_ge (b := 8) (by omega) (by omega)), inb_nI (show i < 8 by omega) (by decide), ix_nI (by omega), n_s, H.1 57 (by decide) (by decide), ← hC i (by omega), p1]
    exact q1
theorem rowR_57 {M0 : Mem} {b : Nat} (hb : b ≤ 70) : ∀ m i n M, i + m = 8 → m < n → SR M0 b M (28 + i) (b + (28 + i)) → ∃ M', lp_X10_passRow_57_2 n 8 (nI i) M = some M' ∧ SR M0 b M' 36 (b + 36)
  | 0, i, n, M, hi, hn, H => by
    obtain ⟨n, rfl⟩ : ∃ n', n = n' + 1 := ⟨n - 1, by omega⟩
    refine ⟨M, ?_, by rw [show 28 + i = 36 by omega] at H; exact H⟩
    show bd_X10_passRow_57_2 _ _ _ _ = _
    unfold bd_X10_passRow_57_2
    rw [if_pos (show (8 : Int32) ≤ nI i from nI_le (a := 8) (by omega) (by omega))]
  | m + 1, i, n, M, hi, hn, H => by
    obtain ⟨n, rfl⟩ : ∃ n', n = n' + 1 := ⟨n - 1, by omega⟩
    obtain ⟨M1, p1, p2⟩ := SR_pass H (by omega) (M 57 i)
    obtain ⟨M', q1, q2⟩ := rowR_57 hb m (i + 1) n (up2 M1 57 i (M0 73 (b + (28 + i)))) (by omega) (by omega) (SR_put p2 (idx_row (by omega)))
    refine ⟨M', ?_, q2⟩
    show bd_X10_passRow_57_2 _ _ _ _ = _
    unfold bd_X10_passRow_57_2
    rw [if_neg (show ¬ (8 : Int32) ≤ nI i from nI_ge (b := 8) (by omega) (by omega)), inb_nI (show i < 8 by omega) (by decide), ix_nI (by omega), n_s, p1]
    exact q1
theorem rowW_58 {M0 : Mem} {b : Nat} {C : Nat → Int32} (hb : b ≤ 70) (hC : ∀ i, i < 8 → C (36 + i) = M0 58 i) : ∀ m i n M, i + m = 8 → m < n → SW M0 b C M (36 + i) → ∃ M', lp_X10_passRow_58_2 n 8 (nI i) M = some M' ∧ SW M0 b C M' 44
  | 0, i, n, M, hi, hn, H => by
    obtain ⟨n, rfl⟩ : ∃ n', n = n' + 1 := ⟨n - 1, by omega⟩
    refine ⟨M, ?_, by rw [show 36 + i = 44 by omega] at H; exact H⟩
    show bd_X10_passRow_58_2 _ _ _ _ = _
    unfold bd_X10_passRow_58_2
    rw [if_pos (show (8 : Int32) ≤ nI i from nI_le (a := 8) (by omega) (by omega))]
  | m + 1, i, n, M, hi, hn, H => by
    obtain ⟨n, rfl⟩ : ∃ n', n = n' + 1 := ⟨n - 1, by omega⟩
    obtain ⟨M1, p1, p2⟩ := SW_pass H (by omega)
    obtain ⟨M', q1, q2⟩ := rowW_58 hb hC m (i + 1) n (up2 M1 58 i (C (36 + i))) (by omega) (by omega) (SW_put p2 (by decide) (by omega) (hC i (by omega)).symm)
    refine ⟨M', ?_, q2⟩
    show bd_X10_passRow_58_2 _ _ _ _ = _
    unfold bd_X10_passRow_58_2
    rw [if_neg (show ¬ (8 : Int32) ≤ nI i from nI_ge (b := 8) (by omega) (by omega)), inb_nI (show i < 8 by omega) (by decide), ix_nI (by omega), n_s, H.1 58 (by decide) (by decide), ← hC i (by omega), p1]
    exact q1
theorem rowR_58 {M0 : Mem} {b : Nat} (hb : b ≤ 70) : ∀ m i n M, i + m = 8 → m < n → SR M0 b M (36 + i) (b + (36 + i)) → ∃ M', lp_X10_passRow_58_2 n 8 (nI i) M = some M' ∧ SR M0 b M' 44 (b + 44)
  | 0, i, n, M, hi, hn, H => by
    obtain ⟨n, rfl⟩ : ∃ n', n = n' + 1 := ⟨n - 1, by omega⟩
    refine ⟨M, ?_, by rw [show 36 + i = 44 by omega] at H; exact H⟩
    show bd_X10_passRow_58_2 _ _ _ _ = _
    unfold bd_X10_passRow_58_2
    rw [if_pos (show (8 : Int32) ≤ nI i from nI_le (a := 8) (by omega) (by omega))]
  | m + 1, i, n, M, hi, hn, H => by
    obtain ⟨n, rfl⟩ : ∃ n', n = n' + 1 := ⟨n - 1, by omega⟩
    obtain ⟨M1, p1, p2⟩ := SR_pass H (by omega) (M 58 i)
    obtain ⟨M', q1, q2⟩ := rowR_58 hb m (i + 1) n (up2 M1 58 i (M0 73 (b + (36 + i)))) (by omega) (by omega) (SR_put p2 (idx_row (by omega)))
    refine ⟨M', ?_, q2⟩
    show bd_X10_passRow_58_2 _ _ _ _ = _
    unfold bd_X10_passRow_58_2
    rw [if_neg (show ¬ (8 : Int32) ≤ nI i from nI_ge (b := 8) (by omega) (by omega)), inb_nI (show i < 8 by omega) (by decide), ix_nI (by omega), n_s, p1]
    exact q1
theorem rowW_59 {M0 : Mem} {b : Nat} {C : Nat → Int32} (hb : b ≤ 70) (hC : ∀ i, i < 8 → C (44 + i) = M0 59 i) : ∀ m i n M, i + m = 8 → m < n → SW M0 b C M (44 + i) → ∃ M', lp_X10_passRow_59_2 n 8 (nI i) M = some M' ∧ SW M0 b C M' 52
  | 0, i, n, M, hi, hn, H => by
    obtain ⟨n, rfl⟩ : ∃ n', n = n' + 1 := ⟨n - 1, by omega⟩
    refine ⟨M, ?_, by rw [show 44 + i = 52 by omega] at H; exact H⟩
    show bd_X10_passRow_59_2 _ _ _ _ = _
    unfold bd_X10_passRow_59_2
    rw [if_pos (show (8 : Int32) ≤ nI i from nI_le (a := 8) (by omega) (by omega))]
  | m + 1, i, n, M, hi, hn, H => by
    obtain ⟨n, rfl⟩ : ∃ n', n = n' + 1 := ⟨n - 1, by omega⟩
    obtain ⟨M1, p1, p2⟩ := SW_pass H (by omega)
    obtain ⟨M', q1, q2⟩ := rowW_59 hb hC m (i + 1) n (up2 M1 59 i (C (44 + i))) (by omega) (by omega) (SW_put p2 (by decide) (by omega) (hC i (by omega)).symm)
    refine ⟨M', ?_, q2⟩
    show bd_X10_passRow_59_2 _ _ _ _ = _
    unfold bd_X10_passRow_59_2
    rw [if_neg (show ¬ (8 : Int32) ≤ nI i from nI_ge (b := 8) (by omega) (by omega)), inb_nI (show i < 8 by omega) (by decide), ix_nI (by omega), n_s, H.1 59 (by decide) (by decide), ← hC i (by omega), p1]
    exact q1
theorem rowR_59 {M0 : Mem} {b : Nat} (hb : b ≤ 70) : ∀ m i n M, i + m = 8 → m < n → SR M0 b M (44 + i) (b + (44 + i)) → ∃ M', lp_X10_passRow_59_2 n 8 (nI i) M = some M' ∧ SR M0 b M' 52 (b + 52)
  | 0, i, n, M, hi, hn, H => by
    obtain ⟨n, rfl⟩ : ∃ n', n = n' + 1 := ⟨n - 1, by omega⟩
    refine ⟨M, ?_, by rw [show 44 + i = 52 by omega] at H; exact H⟩
    show bd_X10_passRow_59_2 _ _ _ _ = _
    unfold bd_X10_passRow_59_2
    rw [if_pos (show (8 : Int32) ≤ nI i from nI_le (a := 8) (by omega) (by omega))]
  | m + 1, i, n, M, hi, hn, H => by
    obtain ⟨n, rfl⟩ : ∃ n', n = n' + 1 := ⟨n - 1, by omega⟩
    obtain ⟨M1, p1, p2⟩ := SR_pass H (by omega) (M 59 i)
    obtain ⟨M', q1, q2⟩ := rowR_59 hb m (i + 1) n (up2 M1 59 i (M0 73 (b + (44 + i)))) (by omega) (by omega) (SR_put p2 (idx_row (by omega)))
    refine ⟨M', ?_, q2⟩
    show bd_X10_passRow_59_2 _ _ _ _ = _
    unfold bd_X10_passRow_59_2
    rw [if_neg (show ¬ (8 : Int32) ≤ nI i from nI_ge (b := 8) (by omega) (by omega)), inb_nI (show i < 8 by omega) (by decide), ix_nI (by omega), n_s, p1]
    exact q1
theorem rowW_60 {M0 : Mem} {b : Nat} {C : Nat → Int32} (hb : b ≤ 70) (hC : ∀ i, i < 8 → C (52 + i) = M0 60 i) : ∀ m i n M, i + m = 8 → m < n → SW M0 b C M (52 + i) → ∃ M', lp_X10_passRow_60_2 n 8 (nI i) M = some M' ∧ SW M0 b C M' 60
  | 0, i, n, M, hi, hn, H => by
    obtain ⟨n, rfl⟩ : ∃ n', n = n' + 1 := ⟨n - 1, by omega⟩
    refine ⟨M, ?_, by rw [show 52 + i = 60 by omega] at H; exact H⟩
    show bd_X10_passRow_60_2 _ _ _ _ = _
    unfold bd_X10_passRow_60_2
    rw [if_pos (show (8 : Int32) ≤ nI i from nI_le (a := 8) (by omega) (by omega))]
  | m + 1, i, n, M, hi, hn, H => by
    obtain ⟨n, rfl⟩ : ∃ n', n = n' + 1 := ⟨n - 1, by omega⟩
    obtain ⟨M1, p1, p2⟩ := SW_pass H (by omega)
    obtain ⟨M', q1, q2⟩ := rowW_60 hb hC m (i + 1) n (up2 M1 60 i (C (52 + i))) (by omega) (by omega) (SW_put p2 (by decide) (by omega) (hC i (by omega)).symm)
    refine ⟨M', ?_, q2⟩
    show bd_X10_passRow_60_2 _ _ _ _ = _
    unfold bd_X10_passRow_60_2
    rw [if_neg (show ¬ (8 : Int32) ≤ nI i from nI_ge (b := 8) (by omega) (by omega)), inb_nI (show i < 8 by omega) (by decide), ix_nI (by omega), n_s, H.1 60 (by decide) (by decide), ← hC i (by omega), p1]
    exact q1
theorem rowR_60 {M0 : Mem} {b : Nat} (hb : b ≤ 70) : ∀ m i n M, i + m = 8 → m < n → SR M0 b M (52 + i) (b + (52 + i)) → ∃ M', lp_X10_passRow_60_2 n 8 (nI i) M = some M' ∧ SR M0 b M' 60 (b + 60)
  | 0, i, n, M, hi, hn, H => by
    obtain ⟨n, rfl⟩ : ∃ n', n = n' + 1 := ⟨n - 1, by omega⟩
    refine ⟨M, ?_, by rw [show 52 + i = 60 by omega] at H; exact H⟩
    show bd_X10_passRow_60_2 _ _ _ _ = _
    unfold bd_X10_passRow_60_2
    rw [if_pos (show (8 : Int32) ≤ nI i from nI_le (a := 8) (by omega) (by omega))]
  | m + 1, i, n, M, hi, hn, H => by
    obtain ⟨n, rfl⟩ : ∃ n', n = n' + 1 := ⟨n - 1, by omega⟩
    obtain ⟨M1, p1, p2⟩ := SR_pass H (by omega) (M 60 i)
    obtain ⟨M', q1, q2⟩ := rowR_60 hb m (i + 1) n (up2 M1 60 i (M0 73 (b + (52 + i)))) (by omega) (by omega) (SR_put p2 (idx_row (by omega)))
    refine ⟨M', ?_, q2⟩
    show bd_X10_passRow_60_2 _ _ _ _ = _
    unfold bd_X10_passRow_60_2
    rw [if_neg (show ¬ (8 : Int32) ≤ nI i from nI_ge (b := 8) (by omega) (by omega)), inb_nI (show i < 8 by omega) (by decide), ix_nI (by omega), n_s, p1]
    exact q1
def imC (M : Mem) (o : Nat) : Int32 := if o = 0 then M 53 5 else if o = 1 then M 53 6 else if o = 2 then M 53 7 else if o = 3 then M 53 10 else M (54 + (o - 4) / 8) ((o - 4) % 8)
theorem imC_row (M : Mem) {r i : Nat} (hr : 54 ≤ r) (hi : i < 8) : imC M (4 + 8 * (r - 54) + i) = M r i := by
  unfold imC
  rw [if_neg (by omega), if_neg (by omega), if_neg (by omega), if_neg (by omega), show 54 + (4 + 8 * (r - 54) + i - 4) / 8 = r by omega, show (4 + 8 * (r - 54) + i - 4) % 8 = i by omega]
theorem passW {M0 : Mem} {b : Nat} (hb : b ≤ 70) (H : SW M0 b (imC M0) M0 0) : ∃ M', f_X10_passAll M0 = some M' ∧ SW M0 b (imC M0) M' 60 := by
  obtain ⟨A1, a1, b1⟩ := SW_pass H (by omega)
  have c1 := SW_put (k := 53) (j := 5) b1 (by decide) (by decide) (x := imC M0 0) rfl
  obtain ⟨A2, a2, b2⟩ := SW_pass c1 (by omega)
  have c2 := SW_put (k := 53) (j := 6) b2 (by decide) (by decide) (x := imC M0 1) rfl
  obtain ⟨A3, a3, b3⟩ := SW_pass c2 (by omega)
  have c3 := SW_put (k := 53) (j := 7) b3 (by decide) (by decide) (x := imC M0 2) rfl
  obtain ⟨A4, a4, b4⟩ := SW_pass c3 (by omega)
  have c4 := SW_put (k := 53) (j := 10) b4 (by decide) (by decide) (x := imC M0 3) rfl
  obtain ⟨B1, e1, d1⟩ := rowW_54 hb (fun i hi => imC_row M0 (r := 54) (by omega) hi) 8 0 FU _ (by omega) (FU_lt (by omega)) c4
  obtain ⟨B2, e2, d2⟩ := rowW_55 hb (fun i hi => imC_row M0 (r := 55) (by omega) hi) 8 0 FU _ (by omega) (FU_lt (by omega)) d1
  obtain ⟨B3, e3, d3⟩ := rowW_56 hb (fun i hi => imC_row M0 (r := 56) (by omega) hi) 8 0 FU _ (by omega) (FU_lt (by omega)) d2
  obtain ⟨B4, e4, d4⟩ := rowW_57 hb (fun i hi => imC_row M0 (r := 57) (by omega) hi) 8 0 FU _ (by omega) (FU_lt (by omega)) d3
  obtain ⟨B5, e5, d5⟩ := rowW_58 hb (fun i hi => imC_row M0 (r := 58) (by omega) hi) 8 0 FU _ (by omega) (FU_lt (by omega)) d4
  obtain ⟨B6, e6, d6⟩ := rowW_59 hb (fun i hi => imC_row M0 (r := 59) (by omega) hi) 8 0 FU _ (by omega) (FU_lt (by omega)) d5
  obtain ⟨B7, e7, d7⟩ := rowW_60 hb (fun i hi => imC_row M0 (r := 60) (by omega) hi) 8 0 FU _ (by omega) (FU_lt (by omega)) d6
  refine ⟨B7, ?_, d7⟩
  have f1 : f_X10_pass (M0 53 5) M0 = some (imC M0 0, A1) := a1
  have g1 : A1 53 6 = imC M0 1 := b1.2.1 6 (by decide)
  have g2 : A2 53 7 = imC M0 2 := b2.2.1 7 (by decide)
  have g3 : A3 53 10 = imC M0 3 := b3.2.1 10 (by decide)
  unfold f_X10_passAll f_X10_passRow_54 f_X10_passRow_55 f_X10_passRow_56 f_X10_passRow_57 f_X10_passRow_58 f_X10_passRow_59 f_X10_passRow_60
  rw [f1, Option.bind_some]
  dsimp only
  rw [g1, a2, Option.bind_some]
  dsimp only
  rw [g2, a3, Option.bind_some]
  dsimp only
  rw [g3, a4, Option.bind_some]
  dsimp only
  have k1 : lp_X10_passRow_54_2 FU 8 0 (up2 A4 53 10 (imC M0 3)) = some B1 := e1
  rw [k1, Option.bind_some]
  have k2 : lp_X10_passRow_55_2 FU 8 0 B1 = some B2 := e2
  rw [k2, Option.bind_some]
  have k3 : lp_X10_passRow_56_2 FU 8 0 B2 = some B3 := e3
  rw [k3, Option.bind_some]
  have k4 : lp_X10_passRow_57_2 FU 8 0 B3 = some B4 := e4
  rw [k4, Option.bind_some]
  have k5 : lp_X10_passRow_58_2 FU 8 0 B4 = some B5 := e5
  rw [k5, Option.bind_some]
  have k6 : lp_X10_passRow_59_2 FU 8 0 B5 = some B6 := e6
  rw [k6, Option.bind_some]
  have k7 : lp_X10_passRow_60_2 FU 8 0 B6 = some B7 := e7
  rw [k7, Option.bind_some]
theorem passR {M0 : Mem} {b : Nat} (hb : b ≤ 70) (H : SR M0 b M0 0 b) : ∃ M', f_X10_passAll M0 = some M' ∧ SR M0 b M' 60 (b + 60) := by
  obtain ⟨A1, a1, b1⟩ := SR_pass H (by omega) (M0 53 5)
  have c1 := SR_put (k := 53) (j := 5) b1 rfl
  obtain ⟨A2, a2, b2⟩ := SR_pass c1 (by omega) (A1 53 6)
  have c2 := SR_put (k := 53) (j := 6) b2 rfl
  obtain ⟨A3, a3, b3⟩ := SR_pass c2 (by omega) (A2 53 7)
  have c3 := SR_put (k := 53) (j := 7) b3 rfl
  obtain ⟨A4, a4, b4⟩ := SR_pass c3 (by omega) (A3 53 10)
  have c4 := SR_put (k := 53) (j := 10) b4 rfl
  obtain ⟨B1, e1, d1⟩ := rowR_54 hb 8 0 FU _ (by omega) (FU_lt (by omega)) c4
  obtain ⟨B2, e2, d2⟩ := rowR_55 hb 8 0 FU _ (by omega) (FU_lt (by omega)) d1
  obtain ⟨B3, e3, d3⟩ := rowR_56 hb 8 0 FU _ (by omega) (FU_lt (by omega)) d2
  obtain ⟨B4, e4, d4⟩ := rowR_57 hb 8 0 FU _ (by omega) (FU_lt (by omega)) d3
  obtain ⟨B5, e5, d5⟩ := rowR_58 hb 8 0 FU _ (by omega) (FU_lt (by omega)) d4
  obtain ⟨B6, e6, d6⟩ := rowR_59 hb 8 0 FU _ (by omega) (FU_lt (by omega)) d5
  obtain ⟨B7, e7, d7⟩ := rowR_60 hb 8 0 FU _ (by omega) (FU_lt (by omega)) d6
  refine ⟨B7, ?_, d7⟩
  unfold f_X10_passAll f_X10_passRow_54 f_X10_passRow_55 f_X10_passRow_56 f_X10_passRow_57 f_X10_passRow_58 f_X10_passRow_59 f_X10_passRow_60
  rw [a1, Option.bind_some]
  have a2' : f_X10_pass (A1 53 6) (up2 A1 53 5 (M0 73 b)) = some (M0 73 (b + 1), A2) := a2
  have a3' : f_X10_pass (A2 53 7) (up2 A2 53 6 (M0 73 (b + 1))) = some (M0 73 (b + 1 + 1), A3) := a3
  have a4' : f_X10_pass (A3 53 10) (up2 A3 53 7 (M0 73 (b + 1 + 1))) = some (M0 73 (b + 1 + 1 + 1), A4) := a4
  dsimp only
  rw [a2', Option.bind_some]
  dsimp only
  rw [a3', Option.bind_some]
  dsimp only
  rw [a4', Option.bind_some]
  dsimp only
  have k1 : lp_X10_passRow_54_2 FU 8 0 (up2 A4 53 10 (M0 73 (b + 1 + 1 + 1))) = some B1 := e1
  rw [k1, Option.bind_some]
  have k2 : lp_X10_passRow_55_2 FU 8 0 B1 = some B2 := e2
  rw [k2, Option.bind_some]
  have k3 : lp_X10_passRow_56_2 FU 8 0 B2 = some B3 := e3
  rw [k3, Option.bind_some]
  have k4 : lp_X10_passRow_57_2 FU 8 0 B3 = some B4 := e4
  rw [k4, Option.bind_some]
  have k5 : lp_X10_passRow_58_2 FU 8 0 B4 = some B5 := e5
  rw [k5, Option.bind_some]
  have k6 : lp_X10_passRow_59_2 FU 8 0 B5 = some B6 := e6
  rw [k6, Option.bind_some]
  have k7 : lp_X10_passRow_60_2 FU 8 0 B6 = some B7 := e7
  rw [k7, Option.bind_some]
