theorem First_one {R : Nat → Int32} {N f d r r' : Nat} (h : First R N f d r) (h' : First R N f d r') : r = r' := by
  obtain ⟨a1, a2, a3, a4⟩ := h
  obtain ⟨b1, b2, b3, b4⟩ := h'
  by_cases q : r < r'
  · exact absurd (a3 (by omega)) (b4 r a1 q)
  · by_cases p : r' < r
    · exact absurd (b3 (by omega)) (a4 r' b1 p)
    · omega
def Good (M : Mem) (N p q l d : Nat) : Prop := ∃ r s, First (M 67) N p d r ∧ r < N ∧ First (M 68) N q d s ∧ s < N ∧ M 69 (10 * (r + 1) + (s + 1)) = nI l
def Lst (G : Nat → Prop) (c : Nat) (v : Int32) : Prop := (v = -6 ∧ ∀ d, c ≤ d → d < 10 → ¬ G d) ∨ ∃ d, v = nI d ∧ c ≤ d ∧ d < 10 ∧ G d ∧ ∀ d', c ≤ d' → d' < d → ¬ G d'
theorem Lst_no {G : Nat → Prop} {c : Nat} {v : Int32} (h : Lst G (c + 1) v) (hg : ¬ G c) : Lst G c v := by
  have no : ∀ d, c ≤ d → ¬ (c + 1 ≤ d) → ¬ G d := fun d a b => by rw [show d = c by omega]; exact hg
  rcases h with ⟨e, h⟩ | ⟨d, e, a, b, g, h⟩
  · refine Or.inl ⟨e, fun d x y => ?_⟩
    by_cases z : c + 1 ≤ d
    · exact h d z y
    · exact no d x z
  · refine Or.inr ⟨d, e, by omega, b, g, fun d' x y => ?_⟩
    by_cases z : c + 1 ≤ d'
    · exact h d' z y
    · exact no d' x z
theorem dig_l {N p q l : Nat} {M : Mem} (h1 : 1 ≤ N) (hN : N ≤ 9) (hp : p ≤ N) (hq : q ≤ N) (hl : l ≤ 9) (h69 : ∀ r s, r < N → s < N → ∃ z, z ≤ 9 ∧ M 69 (10 * (r + 1) + (s + 1)) = nI z) (v2 : Int32) (K : Int32 → Int32 → Int32 → Int32 → Int32 → Option Int32) : ∀ c k v, c ≤ 10 → c < k → Lst (Good M N p q l) c v → ∃ v', lp_X10_leastRow_28 M K k (nI N) v2 (nI p) (nI q) (nI (l + 1)) v (nI c + -1) = ((f_X10_inOne (nI N) (nI p) v' M).bind fun r3 => (f_X10_inTwo (nI N) (nI q) v' M).bind fun r4 => K (nI N) (10 * v2 + v') (r3 + 1) (r4 + 1) (nI (l + 1) + -1)) ∧ Lst (Good M N p q l) 0 v'
  | 0, k, v, hc, hk, hL => by
    obtain ⟨k, rfl⟩ : ∃ q, k = q + 1 := ⟨k - 1, by omega⟩
    refine ⟨v, ?_, hL⟩
    show bd_X10_leastRow_28 _ _ _ _ _ _ _ _ _ _ = _
    unfold bd_X10_leastRow_28
    rw [if_pos neg1]
  | c + 1, k, v, hc, hk, hL => by
    obtain ⟨k, rfl⟩ : ∃ q, k = q + 1 := ⟨k - 1, by omega⟩
    obtain ⟨r, a1, a2⟩ := inOne_eq (M := M) (d := c) h1 hN hp
    obtain ⟨s, b1, b2⟩ := inTwo_eq (M := M) (d := c) h1 hN hq
    have hr := a2.2.1
    have hs := b2.2.1
    have no : ∀ (hg : ¬ Good M N p q l c), ∃ v', lp_X10_leastRow_28 M K k (nI N) v2 (nI p) (nI q) (nI (l + 1)) v (nI c + -1) = ((f_X10_inOne (nI N) (nI p) v' M).bind fun r3 => (f_X10_inTwo (nI N) (nI q) v' M).bind fun r4 => K (nI N) (10 * v2 + v') (r3 + 1) (r4 + 1) (nI (l + 1) + -1)) ∧ Lst (Good M N p q l) 0 v' := fun hg => dig_l h1 hN hp hq hl h69 v2 K c k v (by omega) (by omega) (Lst_no hL hg)
    rw [pred1]
    have st : lp_X10_leastRow_28 M K (k + 1) (nI N) v2 (nI p) (nI q) (nI (l + 1)) v (nI c) = bd_X10_leastRow_28 M K (lp_X10_leastRow_28 M K k) (nI N) v2 (nI p) (nI q) (nI (l + 1)) v (nI c) := rfl
    rw [st]
    unfold bd_X10_leastRow_28 lb_X10_leastRow_94 lb_X10_leastRow_95
    rw [if_neg (show ¬ nI c < 0 from nI_nlt (b := 0) (by omega) (by omega)), a1, Option.bind_some, b1, Option.bind_some]
    by_cases q1 : N ≤ r
    · rw [if_pos (nI_le q1 (by omega)), if_pos rfl]
      exact no (fun ⟨r', s', g1, g2, _⟩ => by have := First_one a2 g1; omega)
    rw [if_neg (nI_ge (by omega) (by omega))]
    by_cases q2 : N ≤ s
    · rw [if_pos (nI_le q2 (by omega)), if_pos rfl]
      exact no (fun ⟨r', s', g1, g2, g3, g4, _⟩ => by have := First_one b2 g3; omega)
    rw [if_neg (nI_ge (by omega) (by omega))]
    have ii : (10 : Int32) * (nI r + 1) + nI s + 1 = nI (10 * (r + 1) + (s + 1)) := by rw [n_s, show (10 : Int32) * nI (r + 1) = nI (10 * (r + 1)) from mul_nI 10 _, nI_add, n_s]; congr 1
    rw [ii, inb_nI (show 10 * (r + 1) + (s + 1) < 100 by omega) (by decide), ix_nI (by omega), show nI (l + 1) - 1 = nI l from pk_sub (b := 1) (by omega)]
    simp only [if_true]
    by_cases q3 : M 69 (10 * (r + 1) + (s + 1)) = nI l
    · rw [if_pos q3, if_neg (by decide)]
      exact dig_l h1 hN hp hq hl h69 v2 K c k (nI c) (by omega) (by omega) (Or.inr ⟨c, rfl, Nat.le_refl _, by omega, ⟨r, s, a2, by omega, b2, by omega, q3⟩, fun d' x y => by omega⟩)
    · rw [if_neg q3]
      exact no (fun ⟨r', s', g1, g2, g3, g4, g5⟩ => by
        have e1 := First_one a2 g1
        have e2 := First_one b2 g3
        subst e1 e2
        exact q3 g5)
