/-- the hunt, pure: nb c e: from c one goes to e; Lb t c d: the doubt at d is lost to the catcher at c within t goings -/
def Sb (nb L : Nat → Nat → Bool) (e d : Nat) : Bool := decide (e = d) || (List.range 8).all fun f => !(nb d f) || L e f
def Lb (nb : Nat → Nat → Bool) : Nat → Nat → Nat → Bool
  | 0, c, d => decide (c = d)
  | t + 1, c, d => Lb nb t c d || (List.range 8).any fun e => nb c e && Sb nb (Lb nb t) e d
theorem Sb_iff {nb L : Nat → Nat → Bool} {e d : Nat} : Sb nb L e d = true ↔ e = d ∨ ∀ f, f < 8 → nb d f = true → L e f = true := by
  unfold Sb
  rw [Bool.or_eq_true, decide_eq_true_eq, List.all_eq_true]
  constructor
  · rintro (h | h)
    · exact Or.inl h
    · refine Or.inr fun f hf hn => ?_
      have := h f (List.mem_range.mpr hf)
      rw [hn] at this
      simpa using this
  · rintro (h | h)
    · exact Or.inl h
    · refine Or.inr fun f hf => ?_
      have := h f (List.mem_range.mp hf)
      revert this
      cases nb d f <;> simp
theorem Lb_succ {nb : Nat → Nat → Bool} {t c d : Nat} : Lb nb (t + 1) c d = true ↔ Lb nb t c d = true ∨ ∃ e, e < 8 ∧ nb c e = true ∧ Sb nb (Lb nb t) e d = true := by
  show (Lb nb t c d || _) = true ↔ _
  rw [Bool.or_eq_true, List.any_eq_true]
  constructor
  · rintro (h | ⟨e, he, h⟩)
    · exact Or.inl h
    · rw [Bool.and_eq_true] at h
      exact Or.inr ⟨e, List.mem_range.mp he, h⟩
  · rintro (h | ⟨e, he, h⟩)
    · exact Or.inl h
    · exact Or.inr ⟨e, List.mem_range.mpr he, by rw [Bool.and_eq_true]; exact h⟩
theorem Lb_mono {nb : Nat → Nat → Bool} {c d : Nat} : ∀ k t, Lb nb t c d = true → Lb nb (t + k) c d = true
  | 0, _, h => h
  | k + 1, t, h => Lb_succ.mpr (Or.inl (Lb_mono k t h))
def cn (f : Nat → Bool) : Nat → Nat
  | 0 => 0
  | n + 1 => cn f n + if f n then 1 else 0
theorem cn_le (f : Nat → Bool) : ∀ n, cn f n ≤ n
  | 0 => Nat.le_refl _
  | n + 1 => by
    have := cn_le f n
    show cn f n + (if f n then 1 else 0) ≤ n + 1
    split <;> omega
theorem cn_mono {f g : Nat → Bool} : ∀ n, (∀ v, v < n → f v = true → g v = true) → cn f n ≤ cn g n
  | 0, _ => Nat.le_refl _
  | n + 1, h => by
    have := cn_mono n (fun v hv => h v (by omega))
    have h2 := h n (by omega)
    show cn f n + (if f n then 1 else 0) ≤ cn g n + (if g n then 1 else 0)
    revert h2
    cases f n <;> cases g n <;> simp <;> omega
theorem cn_lt {f g : Nat → Bool} : ∀ n, (∀ v, v < n → f v = true → g v = true) → (∃ v, v < n ∧ ¬ f v = g v) → cn f n < cn g n
  | 0, _, ⟨v, hv, _⟩ => by omega
  | n + 1, h, ⟨v, hv, hne⟩ => by
    have h2 := h n (by omega)
    show cn f n + (if f n then 1 else 0) < cn g n + (if g n then 1 else 0)
    by_cases q : v = n
    · subst q
      have := cn_mono v (fun w hw => h w (by omega))
      revert h2 hne
      cases f v <;> cases g v <;> simp <;> omega
    · have := cn_lt n (fun w hw => h w (by omega)) ⟨v, by omega, hne⟩
      revert h2
      cases f n <;> cases g n <;> simp <;> omega
/-- while every round changes something, at most 63 rounds -/
theorem rounds {nb : Nat → Nat → Bool} : ∀ t, (∀ s, s < t → ∃ v, v < 64 ∧ ¬ Lb nb s (v / 8) (v % 8) = Lb nb (s + 1) (v / 8) (v % 8)) → t + 1 ≤ cn (fun v => Lb nb t (v / 8) (v % 8)) 64
  | 0, _ => by
    have : cn (fun v => Lb nb 0 (v / 8) (v % 8)) 64 = 8 := by
      show cn (fun v => decide (v / 8 = v % 8)) 64 = 8
      decide
    omega
  | t + 1, h => by
    have a := rounds t (fun s hs => h s (by omega))
    have b := cn_lt (f := fun v => Lb nb t (v / 8) (v % 8)) (g := fun v => Lb nb (t + 1) (v / 8) (v % 8)) 64 (fun v _ hv => Lb_succ.mpr (Or.inl hv)) (h t (by omega))
    omega
theorem rounds_lt {nb : Nat → Nat → Bool} {t : Nat} (h : ∀ s, s < t → ∃ v, v < 64 ∧ ¬ Lb nb s (v / 8) (v % 8) = Lb nb (s + 1) (v / 8) (v % 8)) : t ≤ 63 := by
  have a := rounds t h
  have b := cn_le (fun v => Lb nb t (v / 8) (v % 8)) 64
  omega
/-- no change: no change ever -/
theorem Lb_still {nb : Nat → Nat → Bool} {t : Nat} (h : ∀ c d, c < 8 → d < 8 → Lb nb (t + 1) c d = Lb nb t c d) : ∀ k c d, c < 8 → d < 8 → Lb nb (t + k) c d = Lb nb t c d
  | 0, _, _, _, _ => rfl
  | k + 1, c, d, hc, hd => by
    have ih := Lb_still h k
    rw [← h c d hc hd, Bool.eq_iff_iff, show t + (k + 1) = (t + k) + 1 by omega, Lb_succ, Lb_succ, ih c d hc hd]
    have sb : ∀ e, e < 8 → (Sb nb (Lb nb (t + k)) e d = true ↔ Sb nb (Lb nb t) e d = true) := fun e he => by
      rw [Sb_iff, Sb_iff]
      constructor
      · rintro (z | z)
        · exact Or.inl z
        · exact Or.inr fun f hf hn => by rw [← ih e f he hf]; exact z f hf hn
      · rintro (z | z)
        · exact Or.inl z
        · exact Or.inr fun f hf hn => by rw [ih e f he hf]; exact z f hf hn
    constructor
    · rintro (z | ⟨e, he, z1, z2⟩)
      · exact Or.inl z
      · exact Or.inr ⟨e, he, z1, (sb e he).mp z2⟩
    · rintro (z | ⟨e, he, z1, z2⟩)
      · exact Or.inl z
      · exact Or.inr ⟨e, he, z1, (sb e he).mpr z2⟩
