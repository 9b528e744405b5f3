theorem m_heard {M : Mem} (h : Inv M) (v1 v2 v3 v4 : Int32) : Alike M (f_X9_heard v1 v2 v3 v4) (f_X10_heard v1 v2 v3 v4) := by
  have e3 : f_X10_in v3.toInt64 1 9 = f_X9_within v3 1 9 := in_within v3 1 9
  have e4 : f_X10_in v4.toInt64 0 1 = f_X9_within v4 0 1 := in_within v4 0 1
  unfold Alike f_X9_heard f_X10_heard
  simp only [e3, e4]
  by_cases c3 : f_X9_within v3 1 9 = 0
  · exact ⟨-2, M, M, if_pos c3, if_pos c3, h⟩
  simp only [if_neg c3]
  have d3 := Decidable.not_not.mp (fun z => c3 (within_0.mpr z))
  have l1 : (1 : Int32).toInt = 1 := rfl
  have l9 : (9 : Int32).toInt = 9 := rfl
  obtain ⟨N, hN, rfl⟩ := nIr (x := v3) (N := 10) (by omega) (by omega)
  rw [nI_toInt (by omega)] at d3
  simp only [inb_nI (show N < 10 by omega) (by decide), ix_nI (show N < 2 ^ 31 by omega), if_true]
  by_cases c4 : f_X9_within v4 0 1 = 0
  · refine ⟨-2, M, M, if_pos c4, ?_, h⟩
    rcases row_or v1 (show N ≤ 9 by omega) with ⟨_, b⟩ | ⟨X, _, _, _, _, b⟩ <;> rcases row_or v2 (show N ≤ 9 by omega) with ⟨_, b'⟩ | ⟨Y, _, _, _, _, b'⟩ <;> simp [b, b', c4]
  simp only [if_neg c4]
  rcases row_or v1 (show N ≤ 9 by omega) with ⟨a, b⟩ | ⟨X, _, hX, rfl, a, b⟩
  · exact ⟨-2, M, M, if_pos a, by simp [b], h⟩
  rcases row_or v2 (show N ≤ 9 by omega) with ⟨a', b'⟩ | ⟨Y, _, hY, rfl, a', b'⟩
  · exact ⟨-2, M, M, by rw [if_neg a, if_pos a'], by simp [b, b'], h⟩
  obtain ⟨M1, l, x, y1, y2, y3, y4, y5, y6⟩ := listen_eq (show 1 ≤ N by omega) (by omega) hX hY h.2.2.2.2.2
  obtain ⟨M2, r1, r2, r3⟩ := rows_l (show N ≤ 9 by omega) hX hY v4 N 0 FU M1 (by omega) (FU_lt (by omega)) (fun e he => by omega)
  obtain ⟨M3, t1, t2, t3⟩ := table_out (show N ≤ 9 by omega) v4 (N + 1) FU M2 (Nat.le_refl _) (FU_lt (by omega)) r3 (fun a b p q r => by omega)
  rw [pred1] at t1
  have hD : Dig X Y N M3 N := fun e he => by rw [t3 67 (by decide), t3 68 (by decide)]; exact r3 e he
  obtain ⟨l', x', w1, w2⟩ := t2 0 0 (by omega) (by omega)
  obtain ⟨rfl, rfl⟩ := Best_len w2 y4
  have lr : f_X10_leastRow (nI N) M3 = some (nI x') := by
    have := least_l (show 1 ≤ N by omega) (by omega) hD t2 l' 0 0 FU 0 x' (by omega) (by omega) (FU_lt (by have := (Best_small (dg_le X) w2 (by omega)).1; omega)) w2
    unfold f_X10_leastRow
    rw [show M3 69 (ix 0) = nI l' from w1]
    rw [Nat.zero_mul, Nat.zero_add] at this
    exact this
  have low : ∀ k, k ≠ 25 → k ≠ 26 → k ≠ 27 → k ≠ 67 → k ≠ 68 → k ≠ 69 → M3 k = M k := fun k p q r s t u => by rw [t3 k u, r2 k s t, y6 k p q r]
  have hI : Inv M3 := by
    obtain ⟨hnow, hp, hs, i0, i1, _⟩ := h
    refine ⟨Now_eq (fun k a b => low k (by omega) (by omega) (by omega) (by omega) (by omega) (by omega)) (fun k a b => low k (by omega) (by omega) (by omega) (by omega) (by omega) (by omega)) (by rw [low 53 (by decide) (by decide) (by decide) (by decide) (by decide) (by decide)]) (by rw [low 53 (by decide) (by decide) (by decide) (by decide) (by decide) (by decide)]) (by rw [low 53 (by decide) (by decide) (by decide) (by decide) (by decide) (by decide)]) hnow, Pd_eq (low 15 (by decide) (by decide) (by decide) (by decide) (by decide) (by decide)) (low 16 (by decide) (by decide) (by decide) (by decide) (by decide) (by decide)) (low 61 (by decide) (by decide) (by decide) (by decide) (by decide) (by decide)) (by rw [low 53 (by decide) (by decide) (by decide) (by decide) (by decide) (by decide)]) hp, Sgs_eq (low 19 (by decide) (by decide) (by decide) (by decide) (by decide) (by decide)) (low 20 (by decide) (by decide) (by decide) (by decide) (by decide) (by decide)) (low 59 (by decide) (by decide) (by decide) (by decide) (by decide) (by decide)) (low 60 (by decide) (by decide) (by decide) (by decide) (by decide) (by decide)) (by rw [low 53 (by decide) (by decide) (by decide) (by decide) (by decide) (by decide)]) hs, Im_keep (fun k hk => low k (by omega) (by omega) (by omega) (by omega) (by omega) (by omega)) (fun o _ => by rw [low 73 (by decide) (by decide) (by decide) (by decide) (by decide) (by decide)]) (by rw [low 74 (by decide) (by decide) (by decide) (by decide) (by decide) (by decide)]) i0, Im_keep (fun k hk => low k (by omega) (by omega) (by omega) (by omega) (by omega) (by omega)) (fun o _ => by rw [low 73 (by decide) (by decide) (by decide) (by decide) (by decide) (by decide)]) (by rw [low 74 (by decide) (by decide) (by decide) (by decide) (by decide) (by decide)]) i1, Hr_eq (M := M1) (by rw [t3 26 (by decide), r2 26 (by decide) (by decide)]) (by rw [t3 27 (by decide), r2 27 (by decide) (by decide)]) y5⟩
  have ref := r1.trans t1
  refine ⟨if v4 = 0 then nI l' else nI x', M1, M3, ?_, ?_, hI⟩
  · rw [if_neg a, if_neg a', y1, Option.bind_some, y2, y3]
    by_cases z : v4 = 0
    · rw [if_pos z, if_pos z]
    · rw [if_neg z, if_neg z]
  · rw [b, b']
    simp only [Option.bind_some]
    rw [if_neg (show ¬ (1 : Int32) = 0 by decide), if_neg (show ¬ (1 : Int32) = 0 by decide)]
    refine Eq.trans ref ?_
    rw [lr, show M3 69 0 = nI l' from w1]
    by_cases z : v4 = 0
    · rw [if_pos z, if_pos z]
    · rw [if_neg z, if_neg z]; rfl
