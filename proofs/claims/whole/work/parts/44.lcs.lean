/-- common rows of two rows of digits, both counted from the right -/
def CS (A B : Nat → Nat) : Nat → Nat → Nat → Nat → Prop
  | 0, _, _, x => x = 0
  | l + 1, i, j, x => ∃ a b y, (1 ≤ a ∧ a ≤ i) ∧ (1 ≤ b ∧ b ≤ j) ∧ A a = B b ∧ x = A a * 10 ^ l + y ∧ CS A B l (a - 1) (b - 1) y
def Best (A B : Nat → Nat) (i j l x : Nat) : Prop := CS A B l i j x ∧ (∀ y, CS A B l i j y → x ≤ y) ∧ ∀ l' y, CS A B l' i j y → l' ≤ l
theorem CS_mono {A B : Nat → Nat} : ∀ l i j i2 j2 x, i ≤ i2 → j ≤ j2 → CS A B l i j x → CS A B l i2 j2 x
  | 0, _, _, _, _, _, _, _, h => h
  | _ + 1, _, _, _, _, _, hi, hj, ⟨a, b, y, ha, hb, e, ex, h⟩ => ⟨a, b, y, ⟨ha.1, by omega⟩, ⟨hb.1, by omega⟩, e, ex, h⟩
theorem CS_lt {A B : Nat → Nat} (hA : ∀ i, A i ≤ 9) : ∀ l i j x, CS A B l i j x → x < 10 ^ l
  | 0, _, _, _, h => by
    have : _ = 0 := h
    omega
  | l + 1, _, _, x, ⟨a, b, y, ha, hb, e, ex, h⟩ => by
    have := CS_lt hA l _ _ y h
    have h9 := hA a
    rw [ex, Nat.pow_succ]
    have : A a * 10 ^ l ≤ 9 * 10 ^ l := Nat.mul_le_mul_right _ h9
    omega
theorem Best_0 {A B : Nat → Nat} {i j : Nat} (h : i = 0 ∨ j = 0) : Best A B i j 0 0 := by
  refine ⟨rfl, fun y _ => Nat.zero_le _, fun l' y hl => ?_⟩
  cases l' with
  | zero => omega
  | succ l => obtain ⟨a, b, y', ha, hb, _⟩ := hl; omega
theorem Best_len {A B : Nat → Nat} {i j l x l' x' : Nat} (h : Best A B i j l x) (h' : Best A B i j l' x') : l = l' ∧ x = x' := by
  have e : l = l' := Nat.le_antisymm (h'.2.2 _ _ h.1) (h.2.2 _ _ h'.1)
  subst e
  exact ⟨rfl, Nat.le_antisymm (h.2.1 _ h'.1) (h'.2.1 _ h.1)⟩
def off (u v : Nat × Nat) : Nat × Nat := if u.1 < v.1 then v else if v.1 = u.1 ∧ v.2 < u.2 then v else u
def Ge (u v : Nat × Nat) : Prop := v.1 < u.1 ∨ (v.1 = u.1 ∧ u.2 ≤ v.2)
theorem off_ge (u v : Nat × Nat) : Ge (off u v) u ∧ Ge (off u v) v ∧ (off u v = u ∨ off u v = v) := by
  unfold off Ge
  by_cases q : u.1 < v.1
  · rw [if_pos q]; exact ⟨Or.inl q, Or.inr ⟨rfl, Nat.le_refl _⟩, Or.inr rfl⟩
  · rw [if_neg q]
    by_cases p : v.1 = u.1 ∧ v.2 < u.2
    · rw [if_pos p]; exact ⟨Or.inr ⟨by omega, by omega⟩, Or.inr ⟨rfl, Nat.le_refl _⟩, Or.inr rfl⟩
    · rw [if_neg p]; exact ⟨Or.inr ⟨rfl, Nat.le_refl _⟩, by omega, Or.inl rfl⟩
theorem Ge.tr {u v w : Nat × Nat} (h : Ge u v) (h2 : Ge v w) : Ge u w := by
  unfold Ge at *; omega
theorem Best_of {A B : Nat → Nat} {i j : Nat} {u : Nat × Nat} (h : CS A B u.1 i j u.2) (hg : ∀ l y, CS A B l i j y → Ge u (l, y)) : Best A B i j u.1 u.2 := by
  refine ⟨h, fun y hy => ?_, fun l y hy => ?_⟩
  · have := hg _ _ hy
    unfold Ge at this
    simp only at this
    omega
  · have := hg _ _ hy
    unfold Ge at this
    simp only at this
    omega
theorem Best_ge {A B : Nat → Nat} {i j l x : Nat} (h : Best A B i j l x) {l' y : Nat} (hy : CS A B l' i j y) : Ge (l, x) (l', y) := by
  have a := h.2.2 _ _ hy
  unfold Ge
  simp only
  by_cases q : l' = l
  · subst q
    exact Or.inr ⟨rfl, h.2.1 _ hy⟩
  · exact Or.inl (by omega)
theorem Best_step {A B : Nat → Nat} {i j l1 x1 l2 x2 l3 x3 : Nat} (h1 : Best A B (i + 1) j l1 x1) (h2 : Best A B i (j + 1) l2 x2) (h3 : Best A B i j l3 x3) :
    (A (i + 1) = B (j + 1) → Best A B (i + 1) (j + 1) (off (off (l1, x1) (l2, x2)) (l3 + 1, A (i + 1) * 10 ^ l3 + x3)).1 (off (off (l1, x1) (l2, x2)) (l3 + 1, A (i + 1) * 10 ^ l3 + x3)).2) ∧ (¬ A (i + 1) = B (j + 1) → Best A B (i + 1) (j + 1) (off (l1, x1) (l2, x2)).1 (off (l1, x1) (l2, x2)).2) := by
  have c1 : CS A B l1 (i + 1) (j + 1) x1 := CS_mono _ _ _ _ _ _ (Nat.le_refl _) (by omega) h1.1
  have c2 : CS A B l2 (i + 1) (j + 1) x2 := CS_mono _ _ _ _ _ _ (by omega) (Nat.le_refl _) h2.1
  obtain ⟨g1, g2, g3⟩ := off_ge (l1, x1) (l2, x2)
  have c12 : CS A B (off (l1, x1) (l2, x2)).1 (i + 1) (j + 1) (off (l1, x1) (l2, x2)).2 := by
    rcases g3 with e | e <;> rw [e]
    · exact c1
    · exact c2
  have cover : ∀ l y, CS A B l (i + 1) (j + 1) y → Ge (off (l1, x1) (l2, x2)) (l, y) ∨ (A (i + 1) = B (j + 1) ∧ ∃ l' y', l = l' + 1 ∧ y = A (i + 1) * 10 ^ l' + y' ∧ CS A B l' i j y') := by
    intro l y h
    cases l with
    | zero => exact Or.inl (g1.tr (Best_ge h1 (show CS A B 0 (i + 1) j y from h)))
    | succ l =>
      obtain ⟨a, b, y', ha, hb, e, ey, hc⟩ := h
      by_cases p : a ≤ i
      · exact Or.inl (g2.tr (Best_ge h2 ⟨a, b, y', ⟨ha.1, p⟩, hb, e, ey, hc⟩))
      by_cases q : b ≤ j
      · exact Or.inl (g1.tr (Best_ge h1 ⟨a, b, y', ha, ⟨hb.1, q⟩, e, ey, hc⟩))
      have ea : a = i + 1 := by omega
      have eb : b = j + 1 := by omega
      subst ea eb
      exact Or.inr ⟨e, l, y', rfl, ey, hc⟩
  refine ⟨fun e => ?_, fun e => ?_⟩
  · obtain ⟨k1, k2, k3⟩ := off_ge (off (l1, x1) (l2, x2)) (l3 + 1, A (i + 1) * 10 ^ l3 + x3)
    refine Best_of ?_ (fun l y h => ?_)
    · rcases k3 with z | z <;> rw [z]
      · exact c12
      · exact ⟨i + 1, j + 1, x3, ⟨by omega, by omega⟩, ⟨by omega, by omega⟩, e, rfl, h3.1⟩
    · rcases cover l y h with z | ⟨_, l', y', rfl, rfl, hc⟩
      · exact k1.tr z
      · refine k2.tr ?_
        have := Best_ge h3 hc
        unfold Ge at this ⊢
        simp only at this ⊢
        rcases this with z | ⟨z, w⟩
        · exact Or.inl (by omega)
        · subst z; exact Or.inr ⟨rfl, by omega⟩
  · refine Best_of c12 (fun l y h => ?_)
    rcases cover l y h with z | ⟨z, _⟩
    · exact z
    · exact absurd z e
/-- the greedy choice -/
theorem Best_greedy {A B : Nat → Nat} (hA : ∀ i, A i ≤ 9) {i j l x d a b y : Nat} (h : Best A B i j (l + 1) x) (ha : 1 ≤ a ∧ a ≤ i ∧ A a = d ∧ ∀ a', a < a' → a' ≤ i → ¬ A a' = d) (hb : 1 ≤ b ∧ b ≤ j ∧ B b = d ∧ ∀ b', b < b' → b' ≤ j → ¬ B b' = d) (hy : Best A B (a - 1) (b - 1) l y) (hd : ∀ a' b' y', 1 ≤ a' → a' ≤ i → 1 ≤ b' → b' ≤ j → A a' = B b' → A a' < d → ¬ Best A B (a' - 1) (b' - 1) l y') (hE : ∀ p q, ∃ l y, Best A B p q l y) : x = d * 10 ^ l + y := by
  have up : x ≤ d * 10 ^ l + y := h.2.1 _ ⟨a, b, y, ⟨ha.1, ha.2.1⟩, ⟨hb.1, hb.2.1⟩, by rw [ha.2.2.1, hb.2.2.1], by rw [ha.2.2.1], hy.1⟩
  obtain ⟨a', b', z, p1, p2, p3, p4, p5⟩ := h.1
  obtain ⟨m, w, hm⟩ := hE (a' - 1) (b' - 1)
  have m1 : l ≤ m := hm.2.2 _ _ p5
  have m2 : m + 1 ≤ l + 1 := h.2.2 (m + 1) (A a' * 10 ^ m + w) ⟨a', b', w, p1, p2, p3, rfl, hm.1⟩
  have em : m = l := by omega
  subst em
  have dge : d ≤ A a' := by
    by_cases q : A a' < d
    · exact absurd hm (hd a' b' w p1.1 p1.2 p2.1 p2.2 p3 q)
    · omega
  have ylt := CS_lt hA _ _ _ _ hy.1
  by_cases q : d < A a'
  · have : (d + 1) * 10 ^ m ≤ A a' * 10 ^ m := Nat.mul_le_mul_right _ q
    rw [Nat.add_mul] at this
    omega
  · have e : A a' = d := by omega
    have a1 : a' ≤ a := by
      by_cases z : a < a'
      · exact absurd e (ha.2.2.2 a' z p1.2)
      · omega
    have b1 : b' ≤ b := by
      by_cases z : b < b'
      · exact absurd (p3.symm.trans e) (hb.2.2.2 b' z p2.2)
      · omega
    have := hy.2.1 z (CS_mono _ _ _ _ _ _ (by omega) (by omega) p5)
    rw [e] at p4
    omega
