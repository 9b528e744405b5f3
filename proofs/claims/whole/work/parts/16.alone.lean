-- small numbers through the ints' own least and most
theorem minI_nI {a b : Nat} (ha : a < 2 ^ 31) (hb : b < 2 ^ 31) : minI (nI a) (nI b) = nI (min a b) := by
  unfold minI
  by_cases h : b < a
  · rw [if_pos ((nI_ltI hb ha).mpr h), Nat.min_eq_right (by omega)]
  · rw [if_neg (fun q => h ((nI_ltI hb ha).mp q)), Nat.min_eq_left (by omega)]
theorem less_nI {a b : Nat} (ha : a < 2 ^ 31) (hb : b < 2 ^ 31) : f_X10_less (nI a) (nI b) = nI (min a b) := by
  unfold f_X10_less
  by_cases h : b ≤ a
  · rw [if_pos ((nI_leI hb ha).mpr h), Nat.min_eq_right h]
  · rw [if_neg (fun q => h ((nI_leI hb ha).mp q)), Nat.min_eq_left (by omega)]
theorem maxI0_sub {a b : Nat} (ha : a < 2 ^ 30) (hb : b < 2 ^ 30) : maxI 0 (nI a - nI b) = nI (a - b) := by
  unfold maxI
  by_cases h : b < a
  · rw [pk_sub (by omega), if_pos (show (0 : Int32) < nI (a - b) from nI_lt (a := 0) (by omega) (by omega))]
  · rw [if_neg (by
      rw [lt_toI, pk_sub_toInt ha hb]
      show ¬ ((0 : Int) < _)
      omega), show a - b = 0 by omega]
    rfl
def Gr (c x : Nat) : Nat := min 99 (x + min c x)
theorem grown9 {x c : Nat} (hx : x ≤ 99) (hc : c ≤ 9) : f_X9_grown (nI x) (nI c) = nI (Gr c x) := by
  unfold f_X9_grown Gr
  rw [minI_nI (by omega) (by omega), nI_add]
  exact minI_nI (a := 99) (by omega) (by omega)
theorem grown10 {x c : Nat} (hx : x ≤ 99) (hc : c ≤ 9) : f_X10_grown (nI x) (nI c) = nI (Gr c x) := by
  unfold f_X10_grown Gr
  rw [less_nI (by omega) (by omega), nI_add, Nat.min_comm c x]
  exact less_nI (a := 99) (by omega) (by omega)
theorem Gr_le (c x : Nat) : Gr c x ≤ 99 := Nat.min_le_left _ _
theorem uncaged9 {x k : Nat} (hx : x ≤ 99) (hk : k ≤ 9) : f_X9_uncaged (nI x) (nI k) = nI (x - k) := by
  unfold f_X9_uncaged
  exact maxI0_sub (by omega) (by omega)
theorem caught10 {x k : Nat} (hx : x ≤ 99) (hk : k ≤ 9) : nI x - f_X10_less (nI x) (nI k) = nI (x - k) := by
  rw [less_nI (by omega) (by omega), pk_sub (Nat.min_le_left _ _)]
  congr 1
  omega
-- a walk by a rising step
def orb (G : Nat → Nat) (x : Nat) : Nat → Nat
  | 0 => x
  | i + 1 => G (orb G x i)
theorem orb_s (G : Nat → Nat) (x : Nat) : ∀ i, orb G (G x) i = orb G x (i + 1)
  | 0 => rfl
  | i + 1 => congrArg G (orb_s G x i)
def fh (G : Nat → Nat) (goal : Nat) : Nat → Nat → Nat → Option Nat
  | 0, _, _ => none
  | m + 1, w, x => if x = goal then some w else fh G goal m (w + 1) (G x)
theorem fh_some {G : Nat → Nat} {goal : Nat} : ∀ {m w x v}, fh G goal m w x = some v → ∃ i, i < m ∧ v = w + i ∧ orb G x i = goal ∧ ∀ j, j < i → orb G x j ≠ goal
  | 0, w, x, v, h => by cases h
  | m + 1, w, x, v, h => by
    unfold fh at h
    by_cases e : x = goal
    · rw [if_pos e] at h
      cases h
      exact ⟨0, by omega, by omega, e, fun j hj => by omega⟩
    · rw [if_neg e] at h
      obtain ⟨i, h1, h2, h3, h4⟩ := fh_some h
      refine ⟨i + 1, by omega, by omega, by rw [← orb_s]; exact h3, fun j hj => ?_⟩
      cases j with
      | zero => exact e
      | succ j => rw [← orb_s]; exact h4 j (by omega)
theorem fh_none {G : Nat → Nat} {goal : Nat} : ∀ {m w x}, fh G goal m w x = none → ∀ i, i < m → orb G x i ≠ goal
  | 0, w, x, h, i, hi => by omega
  | m + 1, w, x, h, i, hi => by
    unfold fh at h
    by_cases e : x = goal
    · rw [if_pos e] at h; cases h
    · rw [if_neg e] at h
      cases i with
      | zero => exact e
      | succ i => rw [← orb_s]; exact fh_none h i (by omega)
theorem orb_fix {G : Nat → Nat} {x i : Nat} (h : orb G x (i + 1) = orb G x i) : ∀ k, orb G x (i + k) = orb G x i
  | 0 => rfl
  | k + 1 => by
    show G (orb G x (i + k)) = _
    rw [orb_fix h k]
    exact h
theorem orb_short {G : Nat → Nat} (mono : ∀ a b, a ≤ b → G a ≤ G b) (top : ∀ a, a ≤ 99 → G a ≤ 99) {x goal w : Nat} (hx : x ≤ 99) (hw : orb G x w = goal) (hf : ∀ j, j < w → orb G x j ≠ goal) : w ≤ 99 := by
  have ne : ∀ i, i < w → orb G x (i + 1) ≠ orb G x i := by
    intro i hi h
    have h2 := orb_fix h (w - i)
    rw [show i + (w - i) = w by omega, hw] at h2
    exact hf i hi h2.symm
  have le99 : ∀ i, orb G x i ≤ 99 := by
    intro i
    induction i with
    | zero => exact hx
    | succ i ih => exact top _ ih
  rcases Nat.le_total x (G x) with h | h
  · have up : ∀ i, orb G x i ≤ orb G x (i + 1) := by
      intro i
      induction i with
      | zero => exact h
      | succ i ih => exact mono _ _ ih
    have st : ∀ i, i ≤ w → x + i ≤ orb G x i := by
      intro i
      induction i with
      | zero => intro _; exact Nat.le_refl _
      | succ i ih =>
        intro hi
        have h1 := ih (by omega)
        have h2 := up i
        have h3 := ne i (by omega)
        omega
    have h1 := st w (Nat.le_refl w)
    have h2 := le99 w
    omega
  · have dn : ∀ i, orb G x (i + 1) ≤ orb G x i := by
      intro i
      induction i with
      | zero => exact h
      | succ i ih => exact mono _ _ ih
    have st : ∀ i, i ≤ w → orb G x i + i ≤ x := by
      intro i
      induction i with
      | zero => intro _; exact Nat.le_refl _
      | succ i ih =>
        intro hi
        have h1 := ih (by omega)
        have h2 := dn i
        have h3 := ne i (by omega)
        omega
    have h1 := st w (Nat.le_refl w)
    omega
theorem fh_same {G : Nat → Nat} (mono : ∀ a b, a ≤ b → G a ≤ G b) (top : ∀ a, a ≤ 99 → G a ≤ 99) {x goal : Nat} (hx : x ≤ 99) : fh G goal 100 0 x = fh G goal 200 0 x := by
  cases h2 : fh G goal 200 0 x with
  | none =>
    have q := fh_none h2
    cases h1 : fh G goal 100 0 x with
    | none => rfl
    | some v =>
      obtain ⟨i, a, b, c, d⟩ := fh_some h1
      exact absurd c (q i (by omega))
  | some v =>
    obtain ⟨i, a, b, c, d⟩ := fh_some h2
    have hi := orb_short mono top hx c d
    cases h1 : fh G goal 100 0 x with
    | none => exact absurd c (fh_none h1 i (by omega))
    | some v' =>
      obtain ⟨i', a', b', c', d'⟩ := fh_some h1
      have e : i' = i := by
        rcases Nat.lt_trichotomy i' i with q | q | q
        · exact absurd c' (d i' q)
        · exact q
        · exact absurd c (d' i q)
      rw [b, b', e]
def fhI (o : Option Nat) : Option Int32 := match o with
  | some w => some (nI w)
  | none => some (-6)
theorem Ga_mono (c k : Nat) : ∀ a b, a ≤ b → Gr c a - k ≤ Gr c b - k := by
  intro a b h
  unfold Gr
  omega
theorem alone9 {c k goal : Nat} (hc : c ≤ 9) (hk : k ≤ 9) (hg : goal ≤ 99) : ∀ m w x n, w + m = 100 → m < n → x ≤ 99 → lp_X9_alone_62 n (nI c) (nI k) (nI goal) (nI x) (nI w) = fhI (fh (fun y => Gr c y - k) goal m w x)
  | 0, w, x, n, hw, hn, hx => by
    obtain ⟨n, rfl⟩ : ∃ n', n = n' + 1 := ⟨n - 1, by omega⟩
    show bd_X9_alone_62 _ _ _ _ _ _ = _
    unfold bd_X9_alone_62
    rw [if_pos (show (99 : Int32) < nI w from nI_lt (a := 99) (by omega) (by omega))]
    rfl
  | m + 1, w, x, n, hw, hn, hx => by
    obtain ⟨n, rfl⟩ : ∃ n', n = n' + 1 := ⟨n - 1, by omega⟩
    show bd_X9_alone_62 _ _ _ _ _ _ = _
    unfold bd_X9_alone_62
    rw [if_neg (show ¬ (99 : Int32) < nI w from nI_nlt (a := 99) (by omega) (by omega))]
    unfold fh
    by_cases e : x = goal
    · rw [if_pos (by rw [e]), if_pos e]
      rfl
    · rw [if_neg (fun q => e ((nI_eq (by omega) (by omega)).mp q)), if_neg e, grown9 hx hc, uncaged9 (Gr_le c x) hk, n_s]
      exact alone9 hc hk hg m (w + 1) _ n (by omega) (by omega) (by have := Gr_le c x; omega)
theorem alone10 {c k goal : Nat} (hc : c ≤ 9) (hk : k ≤ 9) (hg : goal ≤ 99) : ∀ m w x n, w + m = 200 → m < n → x ≤ 99 → lp_X10_alone_69 n (nI c) (nI k) (nI goal) (nI x) (nI w) = fhI (fh (fun y => Gr c y - k) goal m w x)
  | 0, w, x, n, hw, hn, hx => by
    obtain ⟨n, rfl⟩ : ∃ n', n = n' + 1 := ⟨n - 1, by omega⟩
    show bd_X10_alone_69 _ _ _ _ _ _ = _
    unfold bd_X10_alone_69
    rw [if_pos (show (200 : Int32) ≤ nI w from nI_le (a := 200) (by omega) (by omega))]
    rfl
  | m + 1, w, x, n, hw, hn, hx => by
    obtain ⟨n, rfl⟩ : ∃ n', n = n' + 1 := ⟨n - 1, by omega⟩
    show bd_X10_alone_69 _ _ _ _ _ _ = _
    unfold bd_X10_alone_69
    rw [if_neg (show ¬ (200 : Int32) ≤ nI w from nI_ge (b := 200) (by omega) (by omega))]
    unfold fh
    by_cases e : x = goal
    · rw [if_pos (by rw [e]), if_pos e]
      rfl
    · rw [if_neg (fun q => e ((nI_eq (by omega) (by omega)).mp q)), if_neg e, grown10 hx hc, caught10 (Gr_le c x) hk, n_s]
      exact alone10 hc hk hg m (w + 1) _ n (by omega) (by omega) (by have := Gr_le c x; omega)
theorem alone_eq {c k goal x : Nat} (hc : c ≤ 9) (hk : k ≤ 9) (hg : goal ≤ 99) (hx : x ≤ 99) : ∃ r, lp_X9_alone_62 FU (nI c) (nI k) (nI goal) (nI x) (nI 0) = some r ∧ lp_X10_alone_69 FU (nI c) (nI k) (nI goal) (nI x) (nI 0) = some r := by
  rw [alone9 hc hk hg 100 0 x FU (by omega) (FU_lt (by omega)) hx, alone10 hc hk hg 200 0 x FU (by omega) (FU_lt (by omega)) hx, fh_same (Ga_mono c k) (fun a _ => by have := Gr_le c a; omega) hx]
  cases fh (fun y => Gr c y - k) goal 200 0 x with
  | none => exact ⟨_, rfl, rfl⟩
  | some w => exact ⟨_, rfl, rfl⟩
theorem m_alone (v1 v2 v3 v4 : Int32) : ∃ r, f_X9_alone v1 v2 v3 v4 = some r ∧ f_X10_alone v1 v2 v3 v4 = some r := by
  have e1 : f_X10_in v1.toInt64 0 99 = f_X9_within v1 0 99 := inw rfl rfl
  have e2 : f_X10_in v2.toInt64 0 9 = f_X9_within v2 0 9 := inw rfl rfl
  have e3 : f_X10_in v3.toInt64 0 9 = f_X9_within v3 0 9 := inw rfl rfl
  have e4 : f_X10_in v4.toInt64 0 1 = f_X9_within v4 0 1 := inw rfl rfl
  rcases within_or v1 99 (by decide) with h1 | ⟨j1, a1, r1, h1⟩
  · refine ⟨-2, ?_, ?_⟩
    · unfold f_X9_alone; rw [if_pos h1]
    · unfold f_X10_alone; rw [if_pos (e1.trans h1)]
  have h1' : ¬ f_X9_within v1 0 99 = 0 := by rw [h1]; decide
  rcases within_or v2 9 (by decide) with h2 | ⟨j2, a2, r2, h2⟩
  · refine ⟨-2, ?_, ?_⟩
    · unfold f_X9_alone; rw [if_neg h1', if_pos h2]
    · unfold f_X10_alone; rw [e1, if_neg h1', if_pos (e2.trans h2)]
  have h2' : ¬ f_X9_within v2 0 9 = 0 := by rw [h2]; decide
  rcases within_or v3 9 (by decide) with h3 | ⟨j3, a3, r3, h3⟩
  · refine ⟨-2, ?_, ?_⟩
    · unfold f_X9_alone; rw [if_neg h1', if_neg h2', if_pos h3]
    · unfold f_X10_alone; rw [e1, e2, if_neg h1', if_neg h2', if_pos (e3.trans h3)]
  have h3' : ¬ f_X9_within v3 0 9 = 0 := by rw [h3]; decide
  rcases within_or v4 1 (by decide) with h4 | ⟨j4, a4, r4, h4⟩
  · refine ⟨-2, ?_, ?_⟩
    · unfold f_X9_alone; rw [if_neg h1', if_neg h2', if_neg h3', if_pos h4]
    · unfold f_X10_alone; rw [e1, e2, e3, if_neg h1', if_neg h2', if_neg h3', if_pos (e4.trans h4)]
  have h4' : ¬ f_X9_within v4 0 1 = 0 := by rw [h4]; decide
  unfold f_X9_alone f_X10_alone lb_X9_alone_54 lb_X10_alone_61
  rw [e1, e2, e3, e4, if_neg h1', if_neg h2', if_neg h3', if_neg h4', if_neg h1', if_neg h2', if_neg h3', if_neg h4', r1, r2, r3]
  by_cases q : v4 = 0
  · rw [if_pos q, if_pos q]
    exact alone_eq (goal := 0) a2 a3 (by omega) a1
  · rw [if_neg q, if_neg q]
    exact alone_eq (goal := 99) a2 a3 (by omega) a1
