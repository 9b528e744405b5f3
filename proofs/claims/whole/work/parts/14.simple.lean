theorem n1_ne0 : ¬ (1 : Int32) = 0 := by decide
theorem inw {v : Int32} {lo hi : Int32} {l h : Int64} (e1 : lo.toInt64 = l) (e2 : hi.toInt64 = h) : f_X10_in v.toInt64 l h = f_X9_within v lo hi := by
  rw [← e1, ← e2]
  exact in_within v lo hi
/-- an update of a row at one place, seen from both sides -/
theorem upd_eq {f g : Nat → Int32} {j : Nat} {x : Int32} {i : Nat} (h : f i = g i) : upd f j x i = upd g j x i := by
  unfold upd
  split
  · rfl
  · exact h
theorem upd_rg {N : Nat} {f : Nat → Int32} {j : Nat} {x : Int32} (hx : Rg N x) {i : Nat} (h : Rg N (f i)) : Rg N (upd f j x i) := by
  unfold upd
  split
  · exact hx
  · exact h
theorem m_house {M : Mem} (h : Inv M) (v1 v2 v3 v4 v5 : Int32) : Alike M (f_X9_house v1 v2 v3 v4 v5) (f_X10_house v1 v2 v3 v4 v5) := by
  have e2 : f_X10_in v2.toInt64 0 99 = f_X9_within v2 0 99 := inw rfl rfl
  have e3 : f_X10_in v3.toInt64 0 9 = f_X9_within v3 0 9 := inw rfl rfl
  have e4 : f_X10_in v4.toInt64 0 9 = f_X9_within v4 0 9 := inw rfl rfl
  have e5 : f_X10_in v5.toInt64 0 9 = f_X9_within v5 0 9 := inw rfl rfl
  rcases house_or v1 with ⟨a, b⟩ | ⟨j, hj, rfl, a, b⟩
  · refine same_refused h (r := -1) ?_ ?_
    · unfold f_X9_house; rw [if_pos a]
    · unfold f_X10_house; rw [if_pos b]
  have a' : ¬ f_X9_isHouse (nI j) = 0 := by rw [a]; decide
  have b' : ¬ f_X10_isHouse (nI j) = 0 := by rw [b]; decide
  rcases within_or v2 99 (by decide) with h0 | ⟨j2, hj2, r2, h2⟩
  · refine same_refused h (r := -2) ?_ ?_
    · unfold f_X9_house; rw [if_neg a', if_pos h0]
    · unfold f_X10_house; rw [if_neg b', if_pos (e2.trans h0)]
  have h2' : ¬ f_X9_within v2 0 99 = 0 := by rw [h2]; decide
  rcases within_or v3 9 (by decide) with h0 | ⟨j3, hj3, r3, h3⟩
  · refine same_refused h (r := -2) ?_ ?_
    · unfold f_X9_house; rw [if_neg a', if_neg h2', if_pos h0]
    · unfold f_X10_house; rw [e2, if_neg b', if_neg h2', if_pos (e3.trans h0)]
  have h3' : ¬ f_X9_within v3 0 9 = 0 := by rw [h3]; decide
  rcases within_or v4 9 (by decide) with h0 | ⟨j4, hj4, r4, h4⟩
  · refine same_refused h (r := -2) ?_ ?_
    · unfold f_X9_house; rw [if_neg a', if_neg h2', if_neg h3', if_pos h0]
    · unfold f_X10_house; rw [e2, e3, if_neg b', if_neg h2', if_neg h3', if_pos (e4.trans h0)]
  have h4' : ¬ f_X9_within v4 0 9 = 0 := by rw [h4]; decide
  rcases within_or v5 9 (by decide) with h0 | ⟨j5, hj5, r5, h5⟩
  · refine same_refused h (r := -2) ?_ ?_
    · unfold f_X9_house; rw [if_neg a', if_neg h2', if_neg h3', if_neg h4', if_pos h0]
    · unfold f_X10_house; rw [e2, e3, e4, if_neg b', if_neg h2', if_neg h3', if_neg h4', if_pos (e5.trans h0)]
  have h5' : ¬ f_X9_within v5 0 9 = 0 := by rw [h5]; decide
  have hi : inb (nI j) 8 = true := inb_nI hj (by decide)
  have hx : ix (nI j) = j := ix_nI (by omega)
  refine ⟨M 2 j, up2 (up2 (up2 (up2 M 2 j v2) 3 j v3) 4 j v4) 5 j v5, up2 (up2 (up2 (up2 (up2 (up2 (up2 (up2 M 2 j v2) 3 j v3) 4 j v4) 5 j v5) 54 j v2) 55 j v3) 56 j v4) 57 j v5, ?_, ?_, ?_⟩
  · unfold f_X9_house
    rw [if_neg a', if_neg h2', if_neg h3', if_neg h4', if_neg h5', hi, hx]
    rfl
  · unfold f_X10_house
    rw [e2, e3, e4, e5, if_neg b', if_neg h2', if_neg h3', if_neg h4', if_neg h5', hi, hx, (h.1.1 j hj).1]
    rfl
  · obtain ⟨⟨n1, n2, n5, n6, n7, n8⟩, hp, hs, i0, i1, hh⟩ := h
    refine ⟨⟨?_, n2, ?_, n6, n7, n8⟩, hp, hs, Im_eq rfl rfl rfl rfl rfl rfl rfl rfl rfl rfl rfl i0, Im_eq rfl rfl rfl rfl rfl rfl rfl rfl rfl rfl rfl i1, hh⟩
    · intro i hi
      obtain ⟨q1, q2, q3, q4, q5⟩ := n1 i hi
      exact ⟨upd_eq q1, upd_eq q2, upd_eq q3, upd_eq q4, q5⟩
    · intro i hi
      obtain ⟨q1, q2, q3, q4⟩ := n5 i hi
      exact ⟨upd_rg ⟨j2, hj2, r2⟩ q1, upd_rg ⟨j3, hj3, r3⟩ q2, upd_rg ⟨j4, hj4, r4⟩ q3, upd_rg ⟨j5, hj5, r5⟩ q4⟩
theorem m_wipe {M : Mem} (h : Inv M) : Alike M f_X9_wipe f_X10_wipe := by
  obtain ⟨n, p1, p2, p3, p4⟩ := h.2.1
  refine ⟨M 15 1, up2 M 15 1 0, up2 (up2 M 15 1 0) 53 12 0, rfl, ?_, ?_⟩
  · unfold f_X10_wipe
    rw [p2, ← p3]
    rfl
  · obtain ⟨hn, hp, hs, i0, i1, hh⟩ := h
    exact ⟨hn, ⟨0, by omega, rfl, rfl, fun i hi => by omega⟩, hs, Im_eq rfl rfl rfl rfl rfl rfl rfl rfl rfl rfl rfl i0, Im_eq rfl rfl rfl rfl rfl rfl rfl rfl rfl rfl rfl i1, hh⟩
theorem m_say {M : Mem} (h : Inv M) (v : Int32) : Alike M (f_X9_say v) (f_X10_say v) := by
  have e : f_X10_in v.toInt64 33 126 = f_X9_within v 33 126 := inw rfl rfl
  obtain ⟨n, p1, p2, p3, p4⟩ := h.2.1
  by_cases h0 : f_X9_within v 33 126 = 0
  · refine same_refused h (r := -2) ?_ ?_
    · unfold f_X9_say; rw [if_pos h0]
    · unfold f_X10_say; rw [if_pos (e.trans h0)]
  by_cases hn : n = 60
  · subst hn
    refine same_refused h (r := -4) ?_ ?_
    · unfold f_X9_say f_X5_add_15
      rw [if_neg h0, p2, if_neg (by decide)]
      rfl
    · unfold f_X10_say
      rw [e, if_neg h0, p3, if_pos (by decide)]
  · have hlt : n < 60 := by omega
    have hi : inb (nI n) 60 = true := inb_nI hlt (by decide)
    have hx : ix (nI n) = n := ix_nI (by omega)
    refine ⟨nI (n + 1), up2 (up2 M 16 n v) 15 1 (nI (n + 1)), up2 (up2 (up2 (up2 M 16 n v) 15 1 (nI (n + 1))) 61 n v) 53 12 (nI (n + 1)), ?_, ?_, ?_⟩
    · unfold f_X9_say f_X5_add_15
      rw [if_neg h0, p2, if_pos (show nI n < 60 from nI_lt hlt (by decide)), hi, hx, n_s]
      rfl
    · unfold f_X10_say
      rw [e, if_neg h0]
      have q : (up2 (up2 M 16 n v) 15 1 (nI (n + 1))) 53 12 = nI n := p3
      rw [q, if_neg (show ¬ nI n = 60 from fun h => hn ((nI_eq (by omega) (by decide)).mp h)), hi, hx, n_s]
      rfl
    · obtain ⟨hn, hp, hs, i0, i1, hh⟩ := h
      refine ⟨hn, ⟨n + 1, by omega, rfl, rfl, fun i hi => ?_⟩, hs, Im_eq rfl rfl rfl rfl rfl rfl rfl rfl rfl rfl rfl i0, Im_eq rfl rfl rfl rfl rfl rfl rfl rfl rfl rfl rfl i1, hh⟩
      show upd (M 16) n v i = upd (M 61) n v i
      by_cases e : i = n
      · subst e; simp [upd]
      · exact upd_eq (p4 i (by omega))
