theorem law_step (m_heard : ∀ {M : Mem}, Inv M → ∀ a b c d, Alike M (f_X9_heard a b c d) (f_X10_heard a b c d)) (m_chase : ∀ {M : Mem}, Inv M → ∀ a b c, Alike M (f_X9_chase a b c) (f_X10_chase a b c)) {Ls i : Nat} {sf : Nat → Int32} (hi : i + 6 ≤ Ls) (hL : Ls < 2 ^ 30) (K : Int32 → Mem → Option (Int32 × Mem)) {M : Mem} (h : Inv M) : ∃ M2, Inv M2 ∧ bd_L_law_77_0_53_18 Ls sf K (nI i) M = K (nI i + 6) M2 := by
  have b0 : inb (nI i) Ls = true := inb_nI (by omega) (by omega)
  have b1 : inb (nI i + 1) Ls = true := by rw [show nI i + 1 = nI (i + 1) from nI_add i 1]; exact inb_nI (by omega) (by omega)
  have b2 : inb (nI i + 2) Ls = true := by rw [show nI i + 2 = nI (i + 2) from nI_add i 2]; exact inb_nI (by omega) (by omega)
  have b3 : inb (nI i + 3) Ls = true := by rw [show nI i + 3 = nI (i + 3) from nI_add i 3]; exact inb_nI (by omega) (by omega)
  have b4 : inb (nI i + 4) Ls = true := by rw [show nI i + 4 = nI (i + 4) from nI_add i 4]; exact inb_nI (by omega) (by omega)
  have b5 : inb (nI i + 5) Ls = true := by rw [show nI i + 5 = nI (i + 5) from nI_add i 5]; exact inb_nI (by omega) (by omega)
  unfold bd_L_law_77_0_53_18 lb_L_law_77_0_53_231 lb_L_law_77_0_53_258
  rw [if_neg (show ¬ nI Ls - 6 < nI i by rw [show nI Ls - 6 = nI (Ls - 6) from pk_sub (b := 6) (by omega)]; exact nI_nlt (by omega) (by omega))]
  simp only [b0, b1, b2, b3, b4, b5, if_true]
  by_cases q0 : sf (ix (nI i)) &&& 31 = 0
  · rw [if_pos q0]
    obtain ⟨r, M1, M2, a, b, hI⟩ := m_house h (sf (ix (nI i + 1))) (sf (ix (nI i + 2))) (sf (ix (nI i + 3))) (sf (ix (nI i + 4))) (sf (ix (nI i + 5)))
    refine ⟨M2, hI, ?_⟩
    rw [a]
    simp only [Option.bind_some]
    rw [b]
    simp only [Option.bind_some, if_true]
  rw [if_neg q0]
  by_cases q1 : sf (ix (nI i)) &&& 31 = 1
  · rw [if_pos q1]
    by_cases z : sf (ix (nI i + 3)) = 0
    · obtain ⟨r, M1, M2, a, b, hI⟩ := m_hole h (sf (ix (nI i + 1))) (sf (ix (nI i + 2))) 0 (Or.inl rfl)
      refine ⟨M2, hI, ?_⟩
      rw [if_pos z, a]
      simp only [Option.bind_some, if_pos z]
      rw [b]
      simp only [Option.bind_some, if_true]
    · obtain ⟨r, M1, M2, a, b, hI⟩ := m_hole h (sf (ix (nI i + 1))) (sf (ix (nI i + 2))) 1 (Or.inr rfl)
      refine ⟨M2, hI, ?_⟩
      rw [if_neg z, a]
      simp only [Option.bind_some, if_neg z]
      rw [b]
      simp only [Option.bind_some, if_true]
  rw [if_neg q1]
  by_cases q2 : sf (ix (nI i)) &&& 31 = 2
  · rw [if_pos q2]
    obtain ⟨r, M1, M2, a, b, hI⟩ := m_bag h (sf (ix (nI i + 1)))
    refine ⟨M2, hI, ?_⟩
    rw [a]
    simp only [Option.bind_some]
    rw [b]
    simp only [Option.bind_some, if_true]
  rw [if_neg q2]
  by_cases q3 : sf (ix (nI i)) &&& 31 = 3
  · rw [if_pos q3]
    obtain ⟨r, M1, M2, a, b, hI⟩ := m_say h (sf (ix (nI i + 1)))
    refine ⟨M2, hI, ?_⟩
    rw [a]
    simp only [Option.bind_some]
    rw [b]
    simp only [Option.bind_some, if_true]
  rw [if_neg q3]
  by_cases q4 : sf (ix (nI i)) &&& 31 = 4
  · rw [if_pos q4]
    obtain ⟨r, M1, M2, a, b, hI⟩ := m_wipe h
    refine ⟨M2, hI, ?_⟩
    rw [a]
    simp only [Option.bind_some]
    rw [b]
    simp only [Option.bind_some, if_true]
  rw [if_neg q4]
  by_cases q5 : sf (ix (nI i)) &&& 31 = 5
  · rw [if_pos q5]
    obtain ⟨r, N1, a, b, hI⟩ := m_fault h
    refine ⟨N1, hI, ?_⟩
    rw [a, b]
    simp only [Option.bind_some, if_true]
  rw [if_neg q5]
  by_cases q6 : sf (ix (nI i)) &&& 31 = 6
  · rw [if_pos q6]
    obtain ⟨r, M1, M2, a, b, hI⟩ := m_judge h (sf (ix (nI i + 1)))
    refine ⟨M2, hI, ?_⟩
    rw [a]
    simp only [Option.bind_some]
    rw [b]
    simp only [Option.bind_some, if_true]
  rw [if_neg q6]
  by_cases q7 : sf (ix (nI i)) &&& 31 = 7
  · rw [if_pos q7]
    obtain ⟨r, M1, M2, a, b, hI⟩ := m_behind h (sf (ix (nI i + 1))) (sf (ix (nI i + 2)))
    refine ⟨M2, hI, ?_⟩
    rw [a]
    simp only [Option.bind_some]
    rw [b]
    simp only [Option.bind_some, if_true]
  rw [if_neg q7]
  by_cases q8 : sf (ix (nI i)) &&& 31 = 8
  · rw [if_pos q8]
    obtain ⟨r, M1, M2, a, b, hI⟩ := m_town h (sf (ix (nI i + 1)))
    refine ⟨M2, hI, ?_⟩
    rw [a]
    simp only [Option.bind_some]
    rw [b]
    simp only [Option.bind_some, if_true]
  rw [if_neg q8]
  by_cases q9 : sf (ix (nI i)) &&& 31 = 9
  · rw [if_pos q9]
    obtain ⟨r, M1, M2, a, b, hI⟩ := m_rid h (sf (ix (nI i + 1)))
    refine ⟨M2, hI, ?_⟩
    rw [a]
    simp only [Option.bind_some]
    rw [b]
    simp only [Option.bind_some, if_true]
  rw [if_neg q9]
  by_cases q10 : sf (ix (nI i)) &&& 31 = 10
  · rw [if_pos q10]
    obtain ⟨r, M1, M2, a, b, hI⟩ := m_done h
    refine ⟨M2, hI, ?_⟩
    rw [a]
    simp only [Option.bind_some]
    rw [b]
    simp only [Option.bind_some, if_true]
  rw [if_neg q10]
  by_cases q11 : sf (ix (nI i)) &&& 31 = 11
  · rw [if_pos q11]
    obtain ⟨r, a, b⟩ := m_alone (sf (ix (nI i + 1))) (sf (ix (nI i + 2))) (sf (ix (nI i + 3))) (sf (ix (nI i + 4)))
    refine ⟨M, h, ?_⟩
    rw [a, b]
    simp only [Option.bind_some, if_true]
  rw [if_neg q11]
  by_cases q12 : sf (ix (nI i)) &&& 31 = 12
  · rw [if_pos q12]
    obtain ⟨r, a, b⟩ := m_terriers h (sf (ix (nI i + 1)))
    refine ⟨M, h, ?_⟩
    rw [a, b]
    simp only [Option.bind_some, if_true]
  rw [if_neg q12]
  by_cases q13 : sf (ix (nI i)) &&& 31 = 13
  · rw [if_pos q13]
    obtain ⟨r, M1, M2, a, b, hI⟩ := m_heard h (sf (ix (nI i + 1))) (sf (ix (nI i + 2))) (sf (ix (nI i + 3))) (sf (ix (nI i + 4)))
    refine ⟨M2, hI, ?_⟩
    rw [a]
    simp only [Option.bind_some]
    rw [b]
    simp only [Option.bind_some, if_true]
  rw [if_neg q13]
  by_cases q14 : sf (ix (nI i)) &&& 31 = 14
  · rw [if_pos q14]
    obtain ⟨r, M1, M2, a, b, hI⟩ := m_gnawed h (sf (ix (nI i + 1))) (sf (ix (nI i + 2)))
    refine ⟨M2, hI, ?_⟩
    rw [a]
    simp only [Option.bind_some]
    rw [b]
    simp only [Option.bind_some, if_true]
  rw [if_neg q14]
  by_cases q15 : sf (ix (nI i)) &&& 31 = 15
  · rw [if_pos q15]
    obtain ⟨r, M1, M2, a, b, hI⟩ := m_forget h
    refine ⟨M2, hI, ?_⟩
    rw [a]
    simp only [Option.bind_some]
    rw [b]
    simp only [Option.bind_some, if_true]
  rw [if_neg q15]
  by_cases q16 : sf (ix (nI i)) &&& 31 = 16
  · rw [if_pos q16]
    obtain ⟨r, a, b⟩ := m_fits h (sf (ix (nI i + 1)))
    refine ⟨M, h, ?_⟩
    rw [a, b]
    simp only [Option.bind_some, if_true]
  rw [if_neg q16]
  by_cases q17 : sf (ix (nI i)) &&& 31 = 17
  · rw [if_pos q17]
    obtain ⟨r, M1, M2, a, b, hI⟩ := m_ask h (sf (ix (nI i + 1)))
    refine ⟨M2, hI, ?_⟩
    rw [a]
    simp only [Option.bind_some]
    rw [b]
    simp only [Option.bind_some, if_true]
  rw [if_neg q17]
  by_cases q18 : sf (ix (nI i)) &&& 31 = 18
  · rw [if_pos q18]
    obtain ⟨r, M1, M2, a, b, hI⟩ := m_chase h (sf (ix (nI i + 1))) (sf (ix (nI i + 2))) (sf (ix (nI i + 3)))
    refine ⟨M2, hI, ?_⟩
    rw [a]
    simp only [Option.bind_some]
    rw [b]
    simp only [Option.bind_some, if_true]
  rw [if_neg q18]
  by_cases q19 : sf (ix (nI i)) &&& 31 = 19
  · rw [if_pos q19]
    obtain ⟨r, a, b⟩ := m_ever (sf (ix (nI i + 1))) (sf (ix (nI i + 2))) (sf (ix (nI i + 3))) (sf (ix (nI i + 4)))
    refine ⟨M, h, ?_⟩
    rw [a, b]
    simp only [Option.bind_some]
    rw [if_pos (show lg_cmp r r = 0 by unfold lg_cmp; simp)]
  rw [if_neg q19]
  by_cases q20 : sf (ix (nI i)) &&& 31 = 20
  · rw [if_pos q20]
    obtain ⟨r, M1, M2, a, b, hI⟩ := m_year h (sf (ix (nI i + 1))) (sf (ix (nI i + 2))) (sf (ix (nI i + 3)))
    refine ⟨M2, hI, ?_⟩
    rw [a]
    simp only [Option.bind_some]
    rw [b]
    simp only [Option.bind_some, if_true]
  rw [if_neg q20]
  by_cases q21 : sf (ix (nI i)) &&& 31 = 21
  · rw [if_pos q21]
    obtain ⟨r, M1, M2, a, b, hI⟩ := m_image h (sf (ix (nI i + 1)))
    refine ⟨M2, hI, ?_⟩
    rw [a]
    simp only [Option.bind_some]
    rw [b]
    simp only [Option.bind_some, if_true]
  rw [if_neg q21]
  by_cases q22 : sf (ix (nI i)) &&& 31 = 22
  · rw [if_pos q22]
    obtain ⟨r, M1, M2, a, b, hI⟩ := m_restore h (sf (ix (nI i + 1)))
    refine ⟨M2, hI, ?_⟩
    rw [a]
    simp only [Option.bind_some]
    rw [b]
    simp only [Option.bind_some, if_true]
  rw [if_neg q22]
  by_cases q23 : sf (ix (nI i)) &&& 31 = 23
  · rw [if_pos q23]
    obtain ⟨r, a, b⟩ := m_told h (sf (ix (nI i + 1)))
    refine ⟨M, h, ?_⟩
    rw [a, b]
    simp only [Option.bind_some, if_true]
  rw [if_neg q23]
  exact ⟨M, h, rfl⟩
theorem law_loop (m_heard : ∀ {M : Mem}, Inv M → ∀ a b c d, Alike M (f_X9_heard a b c d) (f_X10_heard a b c d)) (m_chase : ∀ {M : Mem}, Inv M → ∀ a b c, Alike M (f_X9_chase a b c) (f_X10_chase a b c)) {Ls : Nat} {sf : Nat → Int32} (hL : Ls < 2 ^ 30) : ∀ n i M, Inv M → i < 2 ^ 30 → Ls < i + 6 * n → 0 < n → ∃ M2, lp_L_law_77_0_53_18 Ls sf n (nI i) M = some (1, M2)
  | 0, i, M, h, hi, hn, h0 => by omega
  | n + 1, i, M, h, hi, hn, _ => by
    show ∃ M2, bd_L_law_77_0_53_18 Ls sf (lp_L_law_77_0_53_18 Ls sf n) (nI i) M = some (1, M2)
    by_cases q : i + 6 ≤ Ls
    · obtain ⟨M2, hI, e⟩ := law_step m_heard m_chase (sf := sf) q hL (lp_L_law_77_0_53_18 Ls sf n) h
      rw [e, show nI i + 6 = nI (i + 6) from nI_add i 6]
      exact law_loop m_heard m_chase hL n (i + 6) M2 hI (by omega) (by omega) (by omega)
    · refine ⟨M, ?_⟩
      unfold bd_L_law_77_0_53_18
      rw [if_pos]
      rw [lt_toI]
      have e1 : (nI Ls - 6).toInt = (Ls : Int) - 6 := pk_sub_toInt (b := 6) (by omega) (by omega)
      rw [e1, nI_toInt (by omega)]
      omega
