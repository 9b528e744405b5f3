theorem core_cases {k j : Nat} (h : core k j = true) : (k < 53 ∧ ¬ (8 ≤ k ∧ k ≤ 14) ∧ k ≠ 17 ∧ k ≠ 18) ∨ (k = 53 ∧ (j = 5 ∨ j = 6 ∨ j = 7 ∨ j = 10 ∨ j = 12)) ∨ (54 ≤ k ∧ k ≤ 58 ∧ j < 8) ∨ ((59 ≤ k ∧ k ≤ 61) ∨ 73 ≤ k) := by
  unfold core at h
  simp only [Bool.or_eq_true, decide_eq_true_eq] at h
  omega
/-- behind a try and a way back the invariant holds -/
theorem back_inv {M M1 N2 N3 : Mem} (h : Inv M) (x : FrX M M1) (z : FrZ M1 N2) (a : ∀ k, ¬ (53 ≤ k ∧ k ≤ 58) → N3 k = N2 k) (b : ∀ j, j ≠ 5 → j ≠ 6 → j ≠ 7 → N3 53 j = N2 53 j) (c : N3 53 5 = M1 53 5 ∧ N3 53 6 = M1 53 6 ∧ N3 53 7 = M1 53 7) (d : ∀ j, j < 8 → Bk N3 M1 j) : Inv N3 := by
  refine Inv_cor (M := M) (fun k j hc => ?_) h
  rcases core_cases hc with ⟨p1, p2, p3, p4⟩ | ⟨rfl, q⟩ | ⟨p1, p2, p3⟩ | p
  · rw [a k (by omega), z.1 k (by omega) (by omega), x k p2 p3 p4]
  · have e : M1 53 = M 53 := x 53 (by omega) (by decide) (by decide)
    rcases q with rfl | rfl | rfl | rfl | rfl
    · rw [c.1, e]
    · rw [c.2.1, e]
    · rw [c.2.2, e]
    · rw [b 10 (by decide) (by decide) (by decide), z.2 10 (by decide) (by decide) (by decide) (by decide) (by decide) (by decide) (by decide) (by decide) (by decide), e]
    · rw [b 12 (by decide) (by decide) (by decide), z.2 12 (by decide) (by decide) (by decide) (by decide) (by decide) (by decide) (by decide) (by decide) (by decide), e]
  · have e : M1 k = M k := x k (by omega) (by omega) (by omega)
    obtain ⟨d1, d2, d3, d4, d5⟩ := d j p3
    obtain rfl | rfl | rfl | rfl | rfl : k = 54 ∨ k = 55 ∨ k = 56 ∨ k = 57 ∨ k = 58 := by omega
    · rw [d1, e]
    · rw [d2, e]
    · rw [d3, e]
    · rw [d4, e]
    · rw [d5, e]
  · rw [a k (by omega), z.1 k (by omega) (by omega), x k (by omega) (by omega) (by omega)]
theorem m_judge {M : Mem} (h : Inv M) (v : Int32) : Alike M (f_X9_judge v) (f_X10_judge v) := by
  have e : f_X10_in v.toInt64 0 2 = f_X9_within v 0 2 := in_within v 0 2
  rcases within_or v 2 (by decide) with h0 | ⟨j, hj, rfl, h1⟩
  · refine same_refused h (r := -2) ?_ ?_
    · unfold f_X9_judge; rw [if_pos h0]
    · unfold f_X10_judge; rw [if_pos (e.trans h0)]
  have h1' : ¬ f_X9_within (nI j) 0 2 = 0 := by rw [show f_X9_within (nI j) 0 2 = 1 from h1]; decide
  have h2' : ¬ f_X10_in (nI j).toInt64 0 2 = 0 := by rw [e]; exact h1'
  obtain ⟨c, c', M1, N2, a1, a2, x, z, hd, t⟩ := try_eq h
  obtain ⟨N3, b1, b2, b3, b4, b5⟩ := back_eq c' hd
  have hI := back_inv h x z b2 b3 b4 b5
  have n20 : N3 53 20 = N2 53 20 := b3 20 (by decide) (by decide) (by decide)
  have n21 : N3 53 21 = N2 53 21 := b3 21 (by decide) (by decide) (by decide)
  have n17 : N3 53 17 = N2 53 17 := b3 17 (by decide) (by decide) (by decide)
  unfold Alike f_X9_judge f_X10_judge
  simp only [if_neg h1', if_neg h2', a1, Option.bind_some]
  rcases t with ⟨rfl, rfl⟩ | ⟨rfl, rfl, t⟩ | ⟨rfl, rfl, t, tR, t16, t17⟩
  · refine ⟨-5, M1, N3, rfl, ?_, hI⟩
    simp only [a2, b1, Option.bind_some]
    rfl
  · obtain rfl | rfl | rfl : j = 0 ∨ j = 1 ∨ j = 2 := by omega
    · refine ⟨M1 18 1, M1, N3, rfl, ?_, hI⟩
      simp only [a2, b1, Option.bind_some]
      show some (N3 53 20, N3) = _
      rw [n20, t.1]
    · refine ⟨M1 18 2, M1, N3, rfl, ?_, hI⟩
      simp only [a2, b1, Option.bind_some]
      show some (N3 53 21, N3) = _
      rw [n21, t.2.1]
    · refine ⟨-3, M1, N3, rfl, ?_, hI⟩
      simp only [a2, b1, Option.bind_some]
      rfl
  · obtain rfl | rfl | rfl : j = 0 ∨ j = 1 ∨ j = 2 := by omega
    · refine ⟨M1 18 1, M1, N3, rfl, ?_, hI⟩
      simp only [a2, b1, Option.bind_some]
      show some (N3 53 20, N3) = _
      rw [n20, t.1]
    · refine ⟨M1 18 2, M1, N3, rfl, ?_, hI⟩
      simp only [a2, b1, Option.bind_some]
      show some (N3 53 21, N3) = _
      rw [n21, t.2.1]
    · refine ⟨M1 8 7 - M1 1 7, M1, N3, rfl, ?_, hI⟩
      simp only [a2, b1, Option.bind_some]
      show some (N3 53 17, N3) = _
      rw [n17, t17]
theorem m_rid {M : Mem} (h : Inv M) (v : Int32) : Alike M (f_X9_rid v) (f_X10_rid v) := by
  have e : f_X10_in v.toInt64 0 1 = f_X9_within v 0 1 := in_within v 0 1
  rcases within_or v 1 (by decide) with h0 | ⟨j, hj, rfl, h1⟩
  · refine same_refused h (r := -2) ?_ ?_
    · unfold f_X9_rid; rw [if_pos h0]
    · unfold f_X10_rid; rw [if_pos (e.trans h0)]
  have h1' : ¬ f_X9_within (nI j) 0 1 = 0 := by rw [show f_X9_within (nI j) 0 1 = 1 from h1]; decide
  have h2' : ¬ f_X10_in (nI j).toInt64 0 1 = 0 := by rw [e]; exact h1'
  obtain ⟨c, c', M1, N2, a1, a2, x, z, hd, t⟩ := try_eq h
  obtain ⟨N3, b1, b2, b3, b4, b5⟩ := back_eq c' hd
  have hI := back_inv h x z b2 b3 b4 b5
  have n22 : N3 53 22 = N2 53 22 := b3 22 (by decide) (by decide) (by decide)
  have n23 : N3 53 23 = N2 53 23 := b3 23 (by decide) (by decide) (by decide)
  unfold Alike f_X9_rid f_X10_rid
  simp only [if_neg h1', if_neg h2', a1, Option.bind_some]
  rcases t with ⟨rfl, rfl⟩ | ⟨rfl, rfl, t⟩ | ⟨rfl, rfl, t, tR, t16, t17⟩
  · refine ⟨-5, M1, N3, rfl, ?_, hI⟩
    simp only [a2, b1, Option.bind_some]
    rfl
  · refine ⟨-3, M1, N3, rfl, ?_, hI⟩
    simp only [a2, b1, Option.bind_some]
    rfl
  · obtain rfl | rfl : j = 0 ∨ j = 1 := by omega
    · refine ⟨M1 18 3, M1, N3, rfl, ?_, hI⟩
      simp only [a2, b1, Option.bind_some]
      show some (N3 53 22, N3) = _
      rw [n22, t.2.2.1]
    · refine ⟨M1 18 4, M1, N3, rfl, ?_, hI⟩
      simp only [a2, b1, Option.bind_some]
      show some (N3 53 23, N3) = _
      rw [n23, t.2.2.2]
theorem m_town {M : Mem} (h : Inv M) (v : Int32) : Alike M (f_X9_town v) (f_X10_town v) := by
  have e : f_X10_in v.toInt64 0 4 = f_X9_within v 0 4 := in_within v 0 4
  rcases within_or v 4 (by decide) with h0 | ⟨j, hj, rfl, h1⟩
  · refine same_refused h (r := -2) ?_ ?_
    · unfold f_X9_town; rw [if_pos h0]
    · unfold f_X10_town; rw [if_pos (e.trans h0)]
  have h1' : ¬ f_X9_within (nI j) 0 4 = 0 := by rw [show f_X9_within (nI j) 0 4 = 1 from h1]; decide
  have h2' : ¬ f_X10_in (nI j).toInt64 0 4 = 0 := by rw [e]; exact h1'
  obtain ⟨c, c', M1, N2, a1, a2, x, z, hd, t⟩ := try_eq h
  have bk : ∀ r : Int32, ∃ N3, lb_X10_town_36 r N2 = some (r, N3) ∧ Inv N3 := fun r => by
    obtain ⟨N3, b1, b2, b3, b4, b5⟩ := back_eq r hd
    exact ⟨N3, by unfold lb_X10_town_36; rw [b1]; rfl, back_inv h x z b2 b3 b4 b5⟩
  unfold Alike f_X9_town f_X10_town
  simp only [if_neg h1', if_neg h2', a1, Option.bind_some]
  rcases t with ⟨rfl, rfl⟩ | ⟨rfl, rfl, t⟩ | ⟨rfl, rfl, t, tR, t16, t17⟩
  · obtain ⟨N3, b, hI⟩ := bk (-5)
    exact ⟨-5, M1, N3, rfl, by simp only [a2, Option.bind_some]; exact b, hI⟩
  · obtain ⟨N3, b, hI⟩ := bk (-3)
    exact ⟨-3, M1, N3, rfl, by simp only [a2, Option.bind_some]; exact b, hI⟩
  · have e9 : ∀ i, i < 8 → M1 9 i = N2 54 i := fun i hi => (tR.1 i hi).1
    have two : ∃ r, (if nI j = 0 then (f_X8_allDoubts_8 M1).bind fun r5 => some (r5, M1) else if nI j = 1 then some (M1 8 6, M1) else if nI j = 2 then some (M1 8 7, M1) else if nI j = 3 then some (M1 8 8, M1) else (f_X8_clearHouses_8 M1).bind fun r9 => some (r9, M1)) = some (r, M1) ∧ f_X10_ofTown (nI j) N2 = some r := by
      unfold f_X10_ofTown
      rw [all8, all10, clear8, clear10, ← sum8_congr e9, ← clr_congr e9, ← tR.2.1.1, ← tR.2.1.2.1, ← tR.2.1.2.2]
      generalize sum8 (M1 9) = s
      generalize clr (M1 9) = c
      simp only [Option.bind_some]
      obtain rfl | rfl | rfl | rfl | rfl : j = 0 ∨ j = 1 ∨ j = 2 ∨ j = 3 ∨ j = 4 := by omega
      · exact ⟨s, rfl, rfl⟩
      · exact ⟨M1 8 6, rfl, rfl⟩
      · exact ⟨M1 8 7, rfl, rfl⟩
      · exact ⟨M1 8 8, rfl, rfl⟩
      · exact ⟨c, rfl, rfl⟩
    obtain ⟨r, r1, r2⟩ := two
    obtain ⟨N3, b, hI⟩ := bk r
    refine ⟨r, M1, N3, ?_, ?_, hI⟩
    · rw [if_pos rfl]; exact r1
    · rw [a2, Option.bind_some, if_pos rfl, r2, Option.bind_some]
      exact b
theorem m_behind {M : Mem} (h : Inv M) (v w : Int32) : Alike M (f_X9_behind v w) (f_X10_behind v w) := by
  rcases house_or v with ⟨a1, b1⟩ | ⟨a, ha, rfl, a1, b1⟩
  · refine same_refused h (r := -1) ?_ ?_
    · unfold f_X9_behind; rw [if_pos a1]
    · unfold f_X10_behind; rw [if_pos b1]
  have a1' : ¬ f_X9_isHouse (nI a) = 0 := by rw [a1]; decide
  have b1' : ¬ f_X10_isHouse (nI a) = 0 := by rw [b1]; decide
  have e : f_X10_in w.toInt64 0 3 = f_X9_within w 0 3 := in_within w 0 3
  rcases within_or w 3 (by decide) with h0 | ⟨j, hj, rfl, h1⟩
  · refine same_refused h (r := -2) ?_ ?_
    · unfold f_X9_behind; rw [if_neg a1', if_pos h0]
    · unfold f_X10_behind; rw [if_neg b1', if_pos (e.trans h0)]
  have h1' : ¬ f_X9_within (nI j) 0 3 = 0 := by rw [show f_X9_within (nI j) 0 3 = 1 from h1]; decide
  have h2' : ¬ f_X10_in (nI j).toInt64 0 3 = 0 := by rw [e]; exact h1'
  obtain ⟨c, c', M1, N2, t1, t2, x, z, hd, t⟩ := try_eq h
  have bk : ∀ r : Int32, ∃ N3, lb_X10_behind_46 r N2 = some (r, N3) ∧ Inv N3 := fun r => by
    obtain ⟨N3, b1, b2, b3, b4, b5⟩ := back_eq r hd
    exact ⟨N3, by unfold lb_X10_behind_46; rw [b1]; rfl, back_inv h x z b2 b3 b4 b5⟩
  unfold Alike f_X9_behind f_X10_behind
  simp only [if_neg a1', if_neg b1', if_neg h1', if_neg h2', t1, Option.bind_some]
  rcases t with ⟨rfl, rfl⟩ | ⟨rfl, rfl, t⟩ | ⟨rfl, rfl, t, tR, t16, t17⟩
  · obtain ⟨N3, b, hI⟩ := bk (-5)
    exact ⟨-5, M1, N3, rfl, by simp only [t2, Option.bind_some]; exact b, hI⟩
  · obtain ⟨N3, b, hI⟩ := bk (-3)
    exact ⟨-3, M1, N3, rfl, by simp only [t2, Option.bind_some]; exact b, hI⟩
  · obtain ⟨q1, q2, q3, q4, q5⟩ := tR.1 a ha
    have i8 := inb_nI (show a < 8 from ha) (by decide)
    have ih := ix_nI (show a < 2 ^ 31 by omega)
    obtain ⟨r, r1, r2⟩ : ∃ r, f_X8_ofHouse_8 (nI a) (nI j) M1 = some r ∧ f_X10_ofHouse (nI a) (nI j) N2 = some r := by
      unfold f_X8_ofHouse_8 f_X10_ofHouse
      rw [if_neg a1', i8, ih, q1, q2, q3, q4]
      obtain rfl | rfl | rfl | rfl : j = 0 ∨ j = 1 ∨ j = 2 ∨ j = 3 := by omega
      · exact ⟨_, rfl, rfl⟩
      · exact ⟨_, rfl, rfl⟩
      · exact ⟨_, rfl, rfl⟩
      · exact ⟨_, rfl, rfl⟩
    obtain ⟨N3, b, hI⟩ := bk r
    refine ⟨r, M1, N3, ?_, ?_, hI⟩
    · rw [if_pos rfl, r1]; rfl
    · rw [t2, Option.bind_some, if_pos rfl, r2, Option.bind_some]
      exact b
