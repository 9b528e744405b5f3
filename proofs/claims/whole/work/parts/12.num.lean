-- numbers: small ints as nI of a natural number
theorem inb_nI {i n : Nat} (h : i < n) (hn : n < 2 ^ 31) : inb (nI i) n = true := by
  unfold inb
  rw [nI_toInt (by omega), Bool.and_eq_true, decide_eq_true_eq, decide_eq_true_eq]
  omega
theorem ix_nI {i : Nat} (h : i < 2 ^ 31) : ix (nI i) = i := nI_clamp h
theorem n_ge (N : Nat) {i : Nat} (h : i < N) (hN : N < 2 ^ 31) : ¬ (OfNat.ofNat N : Int32) ≤ nI i := nI_ge h hN
theorem n_le (N : Nat) {i : Nat} (h : N ≤ i) (hN : i < 2 ^ 31) : (OfNat.ofNat N : Int32) ≤ nI i := nI_le h hN
theorem n_s (i : Nat) : nI i + (1 : Int32) = nI (i + 1) := nI_1 i
theorem nIr {x : Int32} {N : Nat} (h0 : 0 ≤ x.toInt) (h1 : x.toInt < (N : Int)) : ∃ j : Nat, j < N ∧ x = nI j := by
  obtain ⟨j, hj, e⟩ := nI_of (x := x) (fun q => by have := Int32.lt_iff_toInt_lt.mp q; simp at this; omega)
  refine ⟨j, ?_, e⟩
  rw [e, nI_toInt hj] at h1
  omega
theorem toI_lit (n : Nat) (h : n < 2 ^ 31) : (OfNat.ofNat n : Int32).toInt = (n : Int) := nI_toInt h
theorem lt_toI {a b : Int32} : a < b ↔ a.toInt < b.toInt := Int32.lt_iff_toInt_lt
theorem le_toI {a b : Int32} : a ≤ b ↔ a.toInt ≤ b.toInt := Int32.le_iff_toInt_le
theorem in_within (v lo hi : Int32) : f_X10_in v.toInt64 lo.toInt64 hi.toInt64 = f_X9_within v lo hi := by
  have e : ∀ a b : Int32, lg_cmp a.toInt64 b.toInt64 = if b < a then 1 else if a = b then 0 else -1 := by
    intro a b
    unfold lg_cmp
    have h1 : (a.toInt64 > b.toInt64) ↔ b < a := by
      show b.toInt64 < a.toInt64 ↔ b < a
      rw [Int64.lt_iff_toInt_lt, Int32.toInt_toInt64, Int32.toInt_toInt64, lt_toI]
    have h2 : (a.toInt64 = b.toInt64) ↔ a = b := by
      rw [← Int64.toInt_inj, Int32.toInt_toInt64, Int32.toInt_toInt64, Int32.toInt_inj]
    simp only [h1, h2]
  unfold f_X10_in f_X9_within
  rw [e, e]
  have t : ∀ a b : Int32, ((if b < a then (1 : Int32) else if a = b then 0 else -1) < 0) ↔ a < b := by
    intro a b
    rcases Int.lt_trichotomy a.toInt b.toInt with h | h | h
    · have h1 : ¬ b < a := by rw [lt_toI]; omega
      have h2 : ¬ a = b := fun e => by rw [e] at h; omega
      have h3 : a < b := lt_toI.mpr h
      simp only [h1, h2, h3, if_false]
      decide
    · have h1 : ¬ b < a := by rw [lt_toI]; omega
      have h2 : a = b := Int32.toInt_inj.mp h
      have h3 : ¬ a < b := by rw [lt_toI]; omega
      simp only [h1, h2, if_true, if_false]
      rw [h2] at h3
      simp only [h3]
      decide
    · have h1 : b < a := lt_toI.mpr h
      have h3 : ¬ a < b := by rw [lt_toI]; omega
      simp only [h1, h3, if_true]
      decide
  have t2 : ∀ a b : Int32, (0 < (if b < a then (1 : Int32) else if a = b then 0 else -1)) ↔ b < a := by
    intro a b
    by_cases h1 : b < a
    · simp only [h1, if_true]
      decide
    · by_cases h2 : a = b
      · simp only [h1, h2, if_true, if_false]
        rw [h2] at h1
        simp only [h1]
        decide
      · simp only [h1, h2, if_false]
        decide
  simp only [t, t2]
theorem within_0 {v lo hi : Int32} : f_X9_within v lo hi = 0 ↔ ¬ (lo.toInt ≤ v.toInt ∧ v.toInt ≤ hi.toInt) := by
  unfold f_X9_within
  by_cases h1 : v < lo
  · rw [if_pos h1]
    rw [lt_toI] at h1
    constructor
    · intro _; omega
    · intro _; rfl
  · rw [if_neg h1]
    by_cases h2 : hi < v
    · rw [if_pos h2]
      rw [lt_toI] at h2
      constructor
      · intro _; omega
      · intro _; rfl
    · rw [if_neg h2]
      rw [lt_toI] at h1 h2
      constructor
      · intro h; exact absurd h (by decide)
      · intro h; exact absurd (by omega) h
/-- a house, or none -/
theorem house_or (v : Int32) : (f_X9_isHouse v = 0 ∧ f_X10_isHouse v = 0) ∨ ∃ j : Nat, j < 8 ∧ v = nI j ∧ f_X9_isHouse v = 1 ∧ f_X10_isHouse v = 1 := by
  have e : f_X10_isHouse v = f_X9_within v 0 7 := by
    unfold f_X10_isHouse
    exact in_within v 0 7
  have e2 : f_X9_isHouse v = f_X9_within v 0 7 := by
    unfold f_X9_isHouse f_X9_within
    by_cases h1 : v < 0
    · rw [if_pos h1, if_pos h1]
    · rw [if_neg h1, if_neg h1]
      have : ((8 : Int32) ≤ v) ↔ ((7 : Int32) < v) := by
        rw [le_toI, lt_toI]
        show (8 : Int) ≤ v.toInt ↔ (7 : Int) < v.toInt
        omega
      simp only [this]
  rw [e, e2]
  by_cases h : f_X9_within v 0 7 = 0
  · exact Or.inl ⟨h, h⟩
  · refine Or.inr ?_
    have h2 : ¬ ¬ ((0 : Int32).toInt ≤ v.toInt ∧ v.toInt ≤ (7 : Int32).toInt) := fun q => h (within_0.mpr q)
    have h3 := Classical.not_not.mp h2
    have a0 : (0 : Int32).toInt = 0 := rfl
    have a7 : (7 : Int32).toInt = 7 := rfl
    obtain ⟨j, hj, ej⟩ := nIr (x := v) (N := 8) (by omega) (by omega)
    have h1 : f_X9_within v 0 7 = 1 := (fb_X9_within v 0 7).resolve_left h
    exact ⟨j, hj, ej, h1, h1⟩
/-- a number from lo to hi, or none; both sides test it alike -/
theorem within_or (v : Int32) (N : Nat) (hN : N < 2 ^ 31) : f_X9_within v 0 (OfNat.ofNat N) = 0 ∨ ∃ j : Nat, j ≤ N ∧ v = nI j ∧ f_X9_within v 0 (OfNat.ofNat N) = 1 := by
  by_cases h : f_X9_within v 0 (OfNat.ofNat N) = 0
  · exact Or.inl h
  · refine Or.inr ?_
    have h3 := Classical.not_not.mp (fun q => h (within_0.mpr q))
    have a0 : (0 : Int32).toInt = 0 := rfl
    rw [toI_lit N hN] at h3
    obtain ⟨j, hj, ej⟩ := nIr (x := v) (N := N + 1) (by omega) (by omega)
    exact ⟨j, by omega, ej, (fb_X9_within _ _ _).resolve_left h⟩
-- loops that count up: f i is done for i, i + 1 .. (k times)
def itn {σ : Type} (f : Nat → σ → σ) : Nat → Nat → σ → σ
  | _, 0, s => s
  | i, k + 1, s => itn f (i + 1) k (f i s)
theorem loop_up {σ α : Type} (lp : Nat → σ → Int32 → Option α) (P : Nat → σ → Prop) (f : Nat → σ → σ) (ex : σ → Option α) (N : Nat) (hs : ∀ n i s, i < N → P i s → lp (n + 1) s (nI i) = lp n (f i s) (nI (i + 1)) ∧ P (i + 1) (f i s)) (hx : ∀ n s, P N s → lp (n + 1) s (nI N) = ex s) : ∀ k i s n, i + k = N → k < n → P i s → lp n s (nI i) = ex (itn f i k s) ∧ P N (itn f i k s)
  | 0, i, s, n, hi, hn, hP => by
    have e : i = N := by omega
    subst e
    obtain ⟨n, rfl⟩ : ∃ n', n = n' + 1 := ⟨n - 1, by omega⟩
    exact ⟨hx n s hP, hP⟩
  | k + 1, i, s, n, hi, hn, hP => by
    obtain ⟨n, rfl⟩ : ∃ n', n = n' + 1 := ⟨n - 1, by omega⟩
    obtain ⟨h1, h2⟩ := hs n i s (by omega) hP
    obtain ⟨h3, h4⟩ := loop_up lp P f ex N hs hx k (i + 1) (f i s) n (by omega) (by omega) h2
    exact ⟨h1.trans h3, h4⟩
/-- two loops side by side -/
theorem itn_rel {σ τ : Type} {f : Nat → σ → σ} {g : Nat → τ → τ} (R : Nat → σ → τ → Prop) (N : Nat) (h : ∀ i s t, i < N → R i s t → R (i + 1) (f i s) (g i t)) : ∀ k i s t, i + k = N → R i s t → R N (itn f i k s) (itn g i k t)
  | 0, i, s, t, hi, hR => by
    have e : i = N := by omega
    subst e
    exact hR
  | k + 1, i, s, t, hi, hR => itn_rel R N h k (i + 1) (f i s) (g i t) (by omega) (h i s t (by omega) hR)
theorem itn_inv {σ : Type} {f : Nat → σ → σ} (P : Nat → σ → Prop) (N : Nat) (h : ∀ i s, i < N → P i s → P (i + 1) (f i s)) : ∀ k i s, i + k = N → P i s → P N (itn f i k s)
  | 0, i, s, hi, hP => by
    have e : i = N := by omega
    subst e
    exact hP
  | k + 1, i, s, hi, hP => itn_inv P N h k (i + 1) (f i s) (by omega) (h i s (by omega) hP)
theorem FU_lt {k : Nat} (h : k < 1000) : k < FU := h
theorem upA_at (M : Mem) (k : Nat) (f : Nat → Int32) : upA M k f k = f := if_pos rfl
theorem upA_ne (M : Mem) {k q : Nat} (f : Nat → Int32) (h : q ≠ k) : upA M k f q = M q := if_neg h
theorem up2_ne (M : Mem) {k q : Nat} (j : Nat) (x : Int32) (h : q ≠ k) : up2 M k j x q = M q := if_neg h
theorem up2_at (M : Mem) (k j : Nat) (x : Int32) (i : Nat) : up2 M k j x k i = if i = j then x else M k i := by
  unfold up2
  rw [upA_at]
  rfl
