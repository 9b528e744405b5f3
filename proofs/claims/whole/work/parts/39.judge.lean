theorem core_cases {k j : Nat} (h : core k j = true) : (k < 53 ∧ ¬ (8 ≤ k ∧ k ≤ 14) ∧ k ≠ 17 ∧ k ≠ 18) ∨ (k = 53 ∧ (j = 5 ∨ j = 6 ∨ j = 7 ∨ j = 10 ∨ j = 12)) ∨ (54 ≤ k ∧ k ≤ 58 ∧ j < 8) ∨ ((59 ≤ k ∧ k ≤ 61) ∨ 73 ≤ k) := by
  unfold core at h
  simp only [Bool.or_eq_true, decide_eq_true_eq] at h
  omega
/-- behind a try and a way back the invariant holds -/
theorem back_inv {M M1 N2 N3 : Mem} (h : Inv M) (x : FrX M M1) (z : FrZ M1 N2) (a : ∀ k, ¬ (53 ≤ k ∧ k ≤ 58) → N3 k = N2 k) (b : ∀ j, j ≠ 5 → j ≠ 6 → j ≠ 7 → N3 53 j = N2 53 j) (c : N3 53 5 = M1 53 5 ∧ N3 53 6 = M1 53 6 ∧ N3 53 7 = M1 53 7) (d : ∀ j, j < 8 → Bk N3 M1 j) : Inv N3 := by
  refine Inv_cor (M := M) (fun k j hc => ?_) h
  rcases core_cases hc with ⟨p1, p2, p3, p4⟩ | ⟨rfl, q⟩ | ⟨p1, p2, p3⟩ | p
  · rw [a k (by omega), z.1 k (by omega) (by omega), x k p2 p3 p4]
  · have e : M1 53 = M 53 := x 53 (by omega) (by decide) (by decide)
    rcases q with rfl | rfl | rfl | rfl | rfl
    · rw [c.1, e]
    · rw [c.2.1, e]
    · rw [c.2.2, e]
    · rw [b 10 (by decide) (by decide) (by decide), z.2 10 (by decide) (by decide) (by decide) (by decide) (by decide) (by decide) (by decide) (by decide) (by decide), e]
    · rw [b 12 (by decide) (by decide) (by decide), z.2 12 (by decide) (by decide) (by decide) (by decide) (by decide) (by decide) (by decide) (by decide) (by decide), e]
  · have e : M1 k = M k := x k (by omega) (by omega) (by omega)
    obtain ⟨d1, d2, d3, d4, d5⟩ := d j p3
    obtain rfl | rfl | rfl | rfl | rfl : k = 54 ∨ k = 55 ∨ k = 56 ∨ k = 57 ∨ k = 58 := by omega
    · rw [d1, e]
    · rw [d2, e]
    · rw [d3, e]
    · rw [d4, e]
    · rw [d5, e]
  · rw [a k (by omega), z.1 k (by omega) (by omega), x k (by omega) (by omega) (by omega)]
theorem m_judge {M : Mem} (h : Inv M) (v : Int32) : Alike M (f_X9_judge v) (f_X10_judge v) := by
  have e : f_X10_in v.toInt64 0 2 = f_X9_within v 0 2 := in_within v 0 2
  rcases within_or v 2 (by decide) with h0 | ⟨j, hj, rfl, h1⟩
  · refine same_refused h (r := -2) ?_ ?_
    · unfold f_X9_judge; rw [if_pos h0]
    · unfold f_X10_judge; rw [if_pos (e.trans h0)]
  have h1' : ¬ f_X9_within (nI j) 0 2 = 0 := by rw [show f_X9_within (nI j) 0 2 = 1 from h1]; decide
  have h2' : ¬ f_X10_in (nI j).toInt64 0 2 = 0 := by rw [e]; exact h1'
  obtain ⟨c, c', M1, N2, a1, a2, x, z, hd, t⟩ := try_eq h
  obtain ⟨N3, b1, b2, b3, b4, b5⟩ := back_eq c' hd
  have hI := back_inv h x z b2 b3 b4 b5
  have n20 : N3 53 20 = N2 53 20 := b3 20 (by decide) (by decide) (by decide)
  have n21 : N3 53 21 = N2 53 21 := b3 21 (by decide) (by decide) (by decide)
  have n17 : N3 53 17 = N2 53 17 := b3 17 (by decide) (by decide) (by decide)
  unfold Alike f_X9_judge f_X10_judge
  simp only [if_neg h1', if_neg h2', a1, Option.bind_some]
  rcases t with ⟨rfl, rfl⟩ | ⟨rfl, rfl, t⟩ | ⟨rfl, rfl, t, tR, t16, t17⟩
  · refine ⟨-5, M1, N3, ?_, ?_, hI⟩
    · rw [if_pos rfl]
    · rw [a2, Option.bind_some, b1, Option.bind_some, if_pos rfl]
  · obtain rfl | rfl | rfl : j = 0 ∨ j = 1 ∨ j = 2 := by omega
    · refine ⟨_, M1, N3, ?_, ?_, hI⟩
      · rw [if_neg (by decide), if_pos rfl]
      · rw [a2, Option.bind_some, b1, Option.bind_some, if_neg (by decide), if_pos (by decide)]
        unfold lb_X10_judge_43
        rw [if_pos rfl, n20, t.1]
    · refine ⟨_, M1, N3, ?_, ?_, hI⟩
      · rw [if_neg (by decide), if_neg (by decide), if_pos rfl]
      · rw [a2, Option.bind_some, b1, Option.bind_some, if_neg (by decide), if_pos (by decide)]
        unfold lb_X10_judge_43
        rw [if_neg (by decide), if_pos rfl, n21, t.2.1]
    · refine ⟨-3, M1, N3, ?_, ?_, hI⟩
      · rw [if_neg (by decide), if_neg (by decide), if_neg (by decide), if_pos rfl]
      · rw [a2, Option.bind_some, b1, Option.bind_some, if_neg (by decide), if_neg (by decide), if_pos rfl]
  · obtain rfl | rfl | rfl : j = 0 ∨ j = 1 ∨ j = 2 := by omega
    · refine ⟨_, M1, N3, ?_, ?_, hI⟩
      · rw [if_neg (by decide), if_pos rfl]
      · rw [a2, Option.bind_some, b1, Option.bind_some, if_neg (by decide), if_pos (by decide)]
        unfold lb_X10_judge_43
        rw [if_pos rfl, n20, t.1]
    · refine ⟨_, M1, N3, ?_, ?_, hI⟩
      · rw [if_neg (by decide), if_neg (by decide), if_pos rfl]
      · rw [a2, Option.bind_some, b1, Option.bind_some, if_neg (by decide), if_pos (by decide)]
        unfold lb_X10_judge_43
        rw [if_neg (by decide), if_pos rfl, n21, t.2.1]
    · refine ⟨_, M1, N3, ?_, ?_, hI⟩
      · rw [if_neg (by decide), if_neg (by decide), if_neg (by decide), if_neg (by decide)]
      · rw [a2, Option.bind_some, b1, Option.bind_some, if_neg (by decide), if_neg (by decide), if_neg (by decide)]
        unfold lb_X10_judge_43
        rw [if_neg (by decide), if_neg (by decide), n17, t17]
