theorem First_dg {X N f d r : Nat} {R : Nat → Int32} (hd : d ≤ 9) (hR : ∀ e, e < N → R e = nI (dg X (N - e))) (h : First R N f d r) (hr : r < N) : 1 ≤ N - r ∧ N - r ≤ N - f ∧ dg X (N - r) = d ∧ ∀ a', N - r < a' → a' ≤ N - f → ¬ dg X a' = d := by
  obtain ⟨h1, h2, h3, h4⟩ := h
  refine ⟨by omega, by omega, ?_, fun a' x y z => ?_⟩
  · have := h3 hr
    rw [hR r hr] at this
    have k := dg_le X (N - r)
    exact (nI_eq (by omega) (by omega)).mp this
  · refine h4 (N - a') (by omega) (by omega) ?_
    rw [hR _ (by omega), show N - (N - a') = a' by omega, z]
theorem First_ex {X N f a : Nat} {R : Nat → Int32} (hR : ∀ e, e < N → R e = nI (dg X (N - e))) (ha : 1 ≤ a) (ha2 : a ≤ N - f) {r : Nat} (h : First R N f (dg X a) r) : r < N ∧ a ≤ N - r := by
  obtain ⟨h1, h2, h3, h4⟩ := h
  have : r ≤ N - a := by
    by_cases q : N - a < r
    · refine absurd ?_ (h4 (N - a) (by omega) q)
      rw [hR _ (by omega), show N - (N - a) = a by omega]
    · omega
  omega
