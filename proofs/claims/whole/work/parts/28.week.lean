-- the least crowded house to which one goes, on both sides
def Bq (p : Nat → Bool) (key : Nat → Nat) (lo hi x : Nat) : Prop := p x = true ∧ lo ≤ x ∧ x < hi ∧ ∀ y, lo ≤ y → y < hi → p y = true → key x < key y ∨ (key x = key y ∧ x ≤ y)
theorem Bq_one {p : Nat → Bool} {key : Nat → Nat} {lo hi x y : Nat} (hx : Bq p key lo hi x) (hy : Bq p key lo hi y) : x = y := by
  have h1 := hx.2.2.2 y hy.2.1 hy.2.2.1 hy.1
  have h2 := hy.2.2.2 x hx.2.1 hx.2.2.1 hx.1
  omega
def hb (x : Int32) (j : Nat) : Bool := decide (f_X10_has x (nI j) = 1)
theorem hb_t {x : Int32} {j : Nat} : hb x j = true ↔ f_X10_has x (nI j) = 1 := by unfold hb; rw [decide_eq_true_eq]
theorem hb_f {x : Int32} {j : Nat} : hb x j = false ↔ f_X10_has x (nI j) = 0 := by
  unfold hb
  rw [decide_eq_false_iff_not]
  rcases has_01 x (nI j) with h | h
  · rw [h]; decide
  · rw [h]; decide
theorem quiet_l {M : Mem} (x : Int32) {key : Nat → Nat} (hk : ∀ j, j < 8 → M 14 j = nI (key j) ∧ key j ≤ 99) : ∀ m i n b F, i + m = 8 → m < n → ((b = (-6 : Int32) ∧ F = 100 ∧ ∀ y, y < i → hb x y = false) ∨ ∃ W, b = nI W ∧ F = key W ∧ Bq (hb x) key 0 i W) →
    ∃ r, lp_X8_quietestOf_8_9 M n x b (nI F) (nI i) = some r ∧ ((r = -6 ∧ ∀ y, y < 8 → hb x y = false) ∨ ∃ W, r = nI W ∧ Bq (hb x) key 0 8 W)
  | 0, i, n, b, F, hi, hn, H => by
    obtain ⟨n, rfl⟩ : ∃ n', n = n' + 1 := ⟨n - 1, by omega⟩
    have e : i = 8 := by omega
    subst e
    refine ⟨b, ?_, ?_⟩
    · show bd_X8_quietestOf_8_9 _ _ _ _ _ _ = _
      unfold bd_X8_quietestOf_8_9
      rw [if_pos (by decide)]
    · rcases H with ⟨h1, -, h3⟩ | ⟨W, h1, -, h3⟩
      · exact Or.inl ⟨h1, h3⟩
      · exact Or.inr ⟨W, h1, h3⟩
  | m + 1, i, n, b, F, hi, hn, H => by
    obtain ⟨n, rfl⟩ : ∃ n', n = n' + 1 := ⟨n - 1, by omega⟩
    obtain ⟨k1, k2⟩ := hk i (by omega)
    have hF : F ≤ 100 := by
      rcases H with ⟨-, h2, -⟩ | ⟨W, -, h2, h3⟩
      · omega
      · have := (hk W (by have := h3.2.2.1; omega)).2; omega
    have pre : bd_X8_quietestOf_8_9 M (lp_X8_quietestOf_8_9 M n) x b (nI F) (nI i) = if hb x i = false then lp_X8_quietestOf_8_9 M n x b (nI F) (nI (i + 1)) else if F ≤ key i then lp_X8_quietestOf_8_9 M n x b (nI F) (nI (i + 1)) else lp_X8_quietestOf_8_9 M n x (nI i) (nI (key i)) (nI (i + 1)) := by
      unfold bd_X8_quietestOf_8_9
      rw [if_neg (show ¬ (8 : Int32) ≤ nI i from nI_ge (b := 8) (by omega) (by omega)), inb_nI (show i < 8 by omega) (by decide), ix_nI (by omega), n_s, k1]
      cases hp : hb x i with
      | false => rw [if_neg (fun z => by rw [bit1_has, hb_f.mp hp] at z; exact absurd z (by decide))]; rfl
      | true =>
        have e : (nI F ≤ nI (key i)) ↔ F ≤ key i := nI_leI (by omega) (by omega)
        rw [if_pos ((bit1_has _ _).mpr (hb_t.mp hp))]
        simp [e]
    show ∃ r, bd_X8_quietestOf_8_9 _ _ _ _ _ _ = _ ∧ _
    rw [pre]
    have ih := quiet_l (M := M) x hk m (i + 1) n
    cases hp : hb x i with
    | false =>
      rw [if_pos rfl]
      refine ih b F (by omega) (by omega) ?_
      rcases H with ⟨h1, h2, h3⟩ | ⟨W, h1, h2, c1, c2, c3, c4⟩
      · refine Or.inl ⟨h1, h2, fun y hy => ?_⟩
        by_cases z : y = i
        · rw [z]; exact hp
        · exact h3 y (by omega)
      · refine Or.inr ⟨W, h1, h2, c1, c2, by omega, fun y y1 y2 y3 => ?_⟩
        by_cases z : y = i
        · rw [z, hp] at y3; cases y3
        · exact c4 y y1 (by omega) y3
    | true =>
      rw [if_neg (by decide)]
      by_cases q : F ≤ key i
      · rw [if_pos q]
        refine ih b F (by omega) (by omega) ?_
        rcases H with ⟨h1, h2, h3⟩ | ⟨W, h1, h2, c1, c2, c3, c4⟩
        · omega
        · refine Or.inr ⟨W, h1, h2, c1, c2, by omega, fun y y1 y2 y3 => ?_⟩
          by_cases z : y = i
          · subst z; omega
          · exact c4 y y1 (by omega) y3
      · rw [if_neg q]
        refine ih (nI i) (key i) (by omega) (by omega) (Or.inr ⟨i, rfl, rfl, hp, by omega, by omega, fun y y1 y2 y3 => ?_⟩)
        by_cases z : y = i
        · subst z; omega
        · rcases H with ⟨h1, h2, h3⟩ | ⟨W, h1, h2, c1, c2, c3, c4⟩
          · have := h3 y (by omega); rw [y3] at this; cases this
          · have := c4 y y1 (by omega) y3; omega
theorem goal_pre {N : Mem} {h : Nat} (hh : h < 8) {key : Nat → Nat} (hk : ∀ j, j < 8 → N 54 j = nI (key j) ∧ key j ≤ 99) (K : Int32 → Int32 → Int32 → Option Int32) {i : Nat} (hi : i < 8) {b : Int32} (H : b = -6 ∨ ∃ W, W < 8 ∧ b = nI W) : bd_X10_goal_6 N K (nI h) b (nI i) = if hb (N 58 h) i = false then K (nI h) b (nI i + -1) else if b = -6 then K (nI h) (nI i) (nI i + -1) else if N 54 (ix b) < N 54 i then K (nI h) b (nI i + -1) else K (nI h) (nI i) (nI i + -1) := by
  unfold bd_X10_goal_6 lb_X10_goal_46
  rw [if_neg (nI_pos (by omega)), inb_nI hh (by decide), ix_nI (show h < 2 ^ 31 by omega), inb_nI hi (by decide), ix_nI (show i < 2 ^ 31 by omega)]
  cases hp : hb (N 58 h) i with
  | false => simp [hb_f.mp hp]
  | true =>
    rcases H with rfl | ⟨W, hW, rfl⟩
    · have n6 : (-6 : Int32) < 0 := by decide
      simp [hb_t.mp hp, n6]
    · have w1 : ¬ nI W < 0 := nI_pos (by omega)
      have w2 : ¬ nI W = -6 := m6_ne (by omega)
      have w3 : inb (nI W) 8 = true := inb_nI hW (by decide)
      simp [hb_t.mp hp, w1, w2, w3]
theorem goal_l {N : Mem} {h : Nat} (hh : h < 8) {key : Nat → Nat} (hk : ∀ j, j < 8 → N 54 j = nI (key j) ∧ key j ≤ 99) : ∀ i n b, i < 8 → i + 1 < n → ((b = (-6 : Int32) ∧ ∀ y, i < y → y < 8 → hb (N 58 h) y = false) ∨ ∃ W, b = nI W ∧ Bq (hb (N 58 h)) key (i + 1) 8 W) →
    ∃ r, lp_X10_goal_6 N n (nI h) b (nI i) = some r ∧ ((r = -6 ∧ ∀ y, y < 8 → hb (N 58 h) y = false) ∨ ∃ W, r = nI W ∧ Bq (hb (N 58 h)) key 0 8 W) := by
  intro i
  induction i with
  | zero =>
    intro n b hi hn H
    obtain ⟨n, rfl⟩ : ∃ n', n = n' + 2 := ⟨n - 2, by omega⟩
    have fin : ∀ c, bd_X10_goal_6 N (lp_X10_goal_6 N n) (nI h) c (nI 0 + -1) = some c := by
      intro c
      unfold bd_X10_goal_6
      rw [if_pos (by decide)]
    have hbb : b = -6 ∨ ∃ W, W < 8 ∧ b = nI W := by
      rcases H with ⟨h1, -⟩ | ⟨W, h1, h2⟩
      · exact Or.inl h1
      · exact Or.inr ⟨W, h2.2.2.1, h1⟩
    show ∃ r, bd_X10_goal_6 _ _ _ _ _ = _ ∧ _
    rw [goal_pre hh hk _ hi hbb]
    cases hp : hb (N 58 h) 0 with
    | false =>
      rw [if_pos rfl]
      refine ⟨b, fin b, ?_⟩
      rcases H with ⟨h1, h2⟩ | ⟨W, h1, c1, c2, c3, c4⟩
      · refine Or.inl ⟨h1, fun y hy => ?_⟩
        by_cases z : y = 0
        · rw [z]; exact hp
        · exact h2 y (by omega) hy
      · refine Or.inr ⟨W, h1, c1, by omega, c3, fun y y1 y2 y3 => ?_⟩
        by_cases z : y = 0
        · rw [z, hp] at y3; cases y3
        · exact c4 y (by omega) y2 y3
    | true =>
      rw [if_neg (by decide)]
      have me : (∀ y, 0 < y → y < 8 → hb (N 58 h) y = true → key 0 ≤ key y) → ∃ W, nI 0 = nI W ∧ Bq (hb (N 58 h)) key 0 8 W := by
        intro q
        refine ⟨0, rfl, hp, Nat.le_refl _, by omega, fun y y1 y2 y3 => ?_⟩
        by_cases z : y = 0
        · subst z; exact Or.inr ⟨rfl, Nat.le_refl _⟩
        · have := q y (by omega) y2 y3; omega
      rcases H with ⟨h1, h2⟩ | ⟨W, h1, c1, c2, c3, c4⟩
      · rw [if_pos h1]
        exact ⟨nI 0, fin _, Or.inr (me (fun y y1 y2 y3 => by have := h2 y y1 y2; rw [y3] at this; cases this))⟩
      · have kW := hk W c3
        have k0 := hk 0 (by omega)
        rw [if_neg (by rw [h1]; exact m6_ne (by omega)), h1, ix_nI (by omega), kW.1, k0.1]
        by_cases q : key W < key 0
        · rw [if_pos ((nI_ltI (by omega) (by omega)).mpr q)]
          refine ⟨nI W, fin _, Or.inr ⟨W, rfl, c1, by omega, c3, fun y y1 y2 y3 => ?_⟩⟩
          by_cases z : y = 0
          · subst z; exact Or.inl q
          · exact c4 y (by omega) y2 y3
        · rw [if_neg (fun z => q ((nI_ltI (by omega) (by omega)).mp z))]
          exact ⟨nI 0, fin _, Or.inr (me (fun y y1 y2 y3 => by have := c4 y (by omega) y2 y3; omega))⟩
  | succ i ih =>
    intro n b hi hn H
    obtain ⟨n, rfl⟩ : ∃ n', n = n' + 1 := ⟨n - 1, by omega⟩
    have hbb : b = -6 ∨ ∃ W, W < 8 ∧ b = nI W := by
      rcases H with ⟨h1, -⟩ | ⟨W, h1, h2⟩
      · exact Or.inl h1
      · exact Or.inr ⟨W, h2.2.2.1, h1⟩
    show ∃ r, bd_X10_goal_6 _ _ _ _ _ = _ ∧ _
    rw [goal_pre hh hk _ hi hbb, pk_m1]
    cases hp : hb (N 58 h) (i + 1) with
    | false =>
      rw [if_pos rfl]
      refine ih n b (by omega) (by omega) ?_
      rcases H with ⟨h1, h2⟩ | ⟨W, h1, c1, c2, c3, c4⟩
      · refine Or.inl ⟨h1, fun y y1 y2 => ?_⟩
        by_cases z : y = i + 1
        · rw [z]; exact hp
        · exact h2 y (by omega) y2
      · refine Or.inr ⟨W, h1, c1, by omega, c3, fun y y1 y2 y3 => ?_⟩
        by_cases z : y = i + 1
        · rw [z, hp] at y3; cases y3
        · exact c4 y (by omega) y2 y3
    | true =>
      rw [if_neg (by decide)]
      have me : (∀ y, i + 1 < y → y < 8 → hb (N 58 h) y = true → key (i + 1) ≤ key y) → ∃ W, nI (i + 1) = nI W ∧ Bq (hb (N 58 h)) key (i + 1) 8 W := by
        intro q
        refine ⟨i + 1, rfl, hp, Nat.le_refl _, by omega, fun y y1 y2 y3 => ?_⟩
        by_cases z : y = i + 1
        · subst z; exact Or.inr ⟨rfl, Nat.le_refl _⟩
        · have := q y (by omega) y2 y3; omega
      rcases H with ⟨h1, h2⟩ | ⟨W, h1, c1, c2, c3, c4⟩
      · rw [if_pos h1]
        exact ih n _ (by omega) (by omega) (Or.inr (me (fun y y1 y2 y3 => by have := h2 y y1 y2; rw [y3] at this; cases this)))
      · have kW := hk W c3
        have k0 := hk (i + 1) (by omega)
        rw [if_neg (by rw [h1]; exact m6_ne (by omega)), h1, ix_nI (by omega), kW.1, k0.1]
        by_cases q : key W < key (i + 1)
        · rw [if_pos ((nI_ltI (by omega) (by omega)).mpr q)]
          refine ih n _ (by omega) (by omega) (Or.inr ⟨W, rfl, c1, by omega, c3, fun y y1 y2 y3 => ?_⟩)
          by_cases z : y = i + 1
          · subst z; exact Or.inl q
          · exact c4 y (by omega) y2 y3
        · rw [if_neg (fun z => q ((nI_ltI (by omega) (by omega)).mp z))]
          exact ih n _ (by omega) (by omega) (Or.inr (me (fun y y1 y2 y3 => by have := c4 y (by omega) y2 y3; omega)))
/-- both look for the same house -/
theorem quiet_goal {M N : Mem} {h : Nat} (hh : h < 8) {key : Nat → Nat} (hM : ∀ j, j < 8 → M 14 j = nI (key j) ∧ key j ≤ 99) (hN : ∀ j, j < 8 → N 54 j = nI (key j) ∧ key j ≤ 99) (he : M 13 h = N 58 h) : ∃ r, f_X8_quietestOf_8 (M 13 h) M = some r ∧ f_X10_goal (nI h) N = some r ∧ (r = -6 ∨ ∃ t, t < 8 ∧ r = nI t) := by
  obtain ⟨r, a1, a2⟩ := quiet_l (M := M) (M 13 h) hM 8 0 FU (-6) 100 (by omega) (FU_lt (by omega)) (Or.inl ⟨rfl, rfl, fun y hy => by omega⟩)
  obtain ⟨r', b1, b2⟩ := goal_l (N := N) hh hN 7 FU (-6) (by omega) (FU_lt (by omega)) (Or.inl ⟨rfl, fun y y1 y2 => by omega⟩)
  have e : r = r' := by
    rcases a2 with ⟨a3, a4⟩ | ⟨W, a3, a4⟩
    · rcases b2 with ⟨b3, b4⟩ | ⟨W', b3, b4⟩
      · rw [a3, b3]
      · have := a4 W' b4.2.2.1
        rw [he, b4.1] at this; cases this
    · rcases b2 with ⟨b3, b4⟩ | ⟨W', b3, b4⟩
      · have := b4 W a4.2.2.1
        rw [← he, a4.1] at this; cases this
      · rw [he] at a4
        rw [a3, b3, Bq_one a4 b4]
  subst e
  refine ⟨r, a1, b1, ?_⟩
  rcases a2 with ⟨a3, a4⟩ | ⟨W, a3, a4⟩
  · exact Or.inl a3
  · exact Or.inr ⟨W, a4.2.2.1, a3⟩
