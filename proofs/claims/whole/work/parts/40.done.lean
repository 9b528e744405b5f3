theorem m_fault {M : Mem} (h : Inv M) : ∃ r N1, f_X9_fault M = some r ∧ f_X10_fault M = some (r, N1) ∧ Inv N1 := by
  obtain ⟨hnow, ⟨n, hn, p15, p53, peq⟩, _⟩ := id h
  obtain ⟨r, N1, f1, f2, f3, f4, f5⟩ := fault0 hn p15 n 0 FU FU (up2 M 53 16 0) 0 (by omega) (by omega) (FU_lt (by omega)) (FU_lt (by omega)) p53 (fun j hj => (peq j hj).symm) (up2_self _ _ _ _) (by omega)
  have f1' : f_X5_faultPlace_15 M = some r := f1
  refine ⟨r, N1, ?_, f2, Inv_cor (M := M) (fun k j hc => ?_) h⟩
  · unfold f_X9_fault
    rw [f1']; rfl
  · by_cases hk : k = 53
    · subst hk
      have hj : j ≠ 16 := by
        rcases core_cases hc with q | q | q | q <;> omega
      rw [f3.2 j hj, up2_at, if_neg hj]
    · have : k ≠ 62 ∧ k ≠ 63 ∧ k ≠ 64 := by
        rcases core_cases hc with q | q | q | q <;> omega
      rw [f3.1 k hk this.1 this.2.1 this.2.2, up2_ne _ _ _ hk]
theorem m_done {M : Mem} (h : Inv M) : Alike M f_X9_done f_X10_done := by
  obtain ⟨c, c0, M1, N0, a1, _, x, _, _, t0⟩ := try_any h (B := M) (fun _ _ => rfl)
  by_cases hc : c = 0
  · subst hc
    obtain ⟨Q, hQ, q16, q6⟩ : ∃ Q, f_X8_become_1_8 M1 = some Q ∧ (∀ k, ¬ (1 ≤ k ∧ k ≤ 6) → Q k = M1 k) ∧ (Teq (Q 2) (Q 3) (Q 4) (Q 5) (Q 6) (M1 9) (M1 10) (M1 11) (M1 12) (M1 13) ∧ Q 1 6 = M1 8 6 ∧ Q 1 7 = M1 8 7 ∧ Q 1 8 = M1 8 8) := by
      refine ⟨_, rfl, fun k hk => ?_, fun i hi => ⟨cpy_lt hi, cpy_lt hi, cpy_lt hi, cpy_lt hi, cpy_lt hi⟩, rfl, rfl, rfl⟩
      rw [up2_ne _ _ _ (by omega), up2_ne _ _ _ (by omega), up2_ne _ _ _ (by omega), upA_ne _ _ (by omega), upA_ne _ _ (by omega), upA_ne _ _ (by omega), upA_ne _ _ (by omega), upA_ne _ _ (by omega)]
    have hB : ∀ k, 53 ≤ k → up2 Q 15 1 0 k = M k := fun k hk => by
      rw [up2_ne _ _ _ (by omega), q16 k (by omega), x k (by omega) (by omega) (by omega)]
    obtain ⟨c2, c', M2, N2, b1, b2, b3, b4, b5, b6⟩ := try_any h (B := up2 Q 15 1 0) hB
    rw [a1] at b1
    cases b1
    rcases b6 with ⟨z, _⟩ | ⟨z, _, _⟩ | ⟨_, rfl, t, tR, t16, t17⟩
    · exact absurd z (by decide)
    · exact absurd z (by decide)
    have low : ∀ k, ¬ (53 ≤ k ∧ k ≤ 58) → ¬ (62 ≤ k ∧ k ≤ 66) → ¬ (1 ≤ k ∧ k ≤ 18) → up2 N2 53 12 0 k = M k := fun k p q r => by
      rw [up2_ne _ _ _ (by omega), b4.1 k p q, up2_ne _ _ _ (by omega), q16 k (by omega), x k (by omega) (by omega) (by omega)]
    have now : ∀ k, 1 ≤ k → k ≤ 6 → up2 N2 53 12 0 k = Q k := fun k p q => by
      rw [up2_ne _ _ _ (by omega), b4.1 k (by omega) (by omega), up2_ne _ _ _ (by omega)]
    have e53 : ∀ j, j ≠ 12 → up2 N2 53 12 0 53 j = N2 53 j := fun j hj => by rw [up2_at, if_neg hj]
    obtain ⟨_, _, hs, i0, i1, hh⟩ := h
    obtain ⟨qT, q1, q2, q3⟩ := q6
    refine ⟨Q 18 0, up2 Q 15 1 0, up2 N2 53 12 0, ?_, ?_, ⟨?_, ⟨?_, ?_, ?_⟩, ?_⟩, ⟨0, by omega, ?_, ?_, fun i hi => by omega⟩, ?_, ?_, ?_, ?_⟩
    · unfold f_X9_done
      rw [a1, Option.bind_some, if_pos rfl, hQ, Option.bind_some]
    · unfold f_X10_done
      rw [b2, Option.bind_some, if_pos rfl]
      show some (N2 53 16, _) = _
      rw [t16, q16 18 (by omega)]
    · intro i hi
      rw [now 2 (by omega) (by omega), now 3 (by omega) (by omega), now 4 (by omega) (by omega), now 5 (by omega) (by omega), now 6 (by omega) (by omega)]
      obtain ⟨w1, w2, w3, w4, w5⟩ := qT i hi
      obtain ⟨u1, u2, u3, u4, u5⟩ := tR.1 i hi
      exact ⟨w1.trans u1, w2.trans u2, w3.trans u3, w4.trans u4, w5.trans u5⟩
    · rw [now 1 (by omega) (by omega), e53 5 (by decide), q1]; exact tR.2.1.1
    · rw [now 1 (by omega) (by omega), e53 6 (by decide), q2]; exact tR.2.1.2.1
    · rw [now 1 (by omega) (by omega), e53 7 (by decide), q3]; exact tR.2.1.2.2
    · rw [now 1 (by omega) (by omega), now 2 (by omega) (by omega), now 3 (by omega) (by omega), now 4 (by omega) (by omega), now 5 (by omega) (by omega), now 6 (by omega) (by omega), q1, q3]
      exact Tok_congr qT tR.2.2
    · rw [up2_ne _ _ _ (by decide), b4.1 15 (by omega) (by omega)]; rfl
    · rw [up2_self]; rfl
    · refine Sgs_eq (low 19 (by omega) (by omega) (by omega)) (low 20 (by omega) (by omega) (by omega)) (low 59 (by omega) (by omega) (by omega)) (low 60 (by omega) (by omega) (by omega)) ?_ hs
      rw [e53 10 (by decide), b4.2 10 (by decide) (by decide) (by decide) (by decide) (by decide) (by decide) (by decide) (by decide) (by decide), hB 53 (by omega)]
    · exact Im_eq (low 33 (by omega) (by omega) (by omega)) (low 34 (by omega) (by omega) (by omega)) (low 35 (by omega) (by omega) (by omega)) (low 36 (by omega) (by omega) (by omega)) (low 37 (by omega) (by omega) (by omega)) (low 38 (by omega) (by omega) (by omega)) (low 39 (by omega) (by omega) (by omega)) (low 41 (by omega) (by omega) (by omega)) (low 42 (by omega) (by omega) (by omega)) (low 73 (by omega) (by omega) (by omega)) (low 74 (by omega) (by omega) (by omega)) i0
    · exact Im_eq (low 43 (by omega) (by omega) (by omega)) (low 44 (by omega) (by omega) (by omega)) (low 45 (by omega) (by omega) (by omega)) (low 46 (by omega) (by omega) (by omega)) (low 47 (by omega) (by omega) (by omega)) (low 48 (by omega) (by omega) (by omega)) (low 49 (by omega) (by omega) (by omega)) (low 51 (by omega) (by omega) (by omega)) (low 52 (by omega) (by omega) (by omega)) (low 73 (by omega) (by omega) (by omega)) (low 74 (by omega) (by omega) (by omega)) i1
    · exact Hr_eq (low 26 (by omega) (by omega) (by omega)) (low 27 (by omega) (by omega) (by omega)) hh
  · obtain ⟨c2, c', M2, N2, b1, b2, b3, b4, b5, b6⟩ := try_any h (B := M1) (fun k hk => x k (by omega) (by omega) (by omega))
    rw [a1] at b1
    cases b1
    obtain ⟨N3, g1, g2, g3, g4, g5⟩ := back_eq c' b5
    have hI := back_inv h x b4 g2 g3 g4 g5
    have e : c' = c ∧ c' ≠ -6 := by
      rcases b6 with ⟨z, w⟩ | ⟨z, w, _⟩ | ⟨z, _⟩
      · rw [z, w]; decide
      · rw [z, w]; decide
      · exact absurd z hc
    refine ⟨c, M1, N3, ?_, ?_, hI⟩
    · unfold f_X9_done
      rw [a1, Option.bind_some, if_neg hc]
    · unfold f_X10_done
      rw [b2, Option.bind_some, if_neg e.2, g1, e.1]; rfl
