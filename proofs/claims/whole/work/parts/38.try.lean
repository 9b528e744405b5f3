theorem Run_len {p : Nat → Int32} {n : Nat} : ∀ (L : List (Nat × Nat × Nat)) v, Run p n v L → v + L.length ≤ n
  | [], v, h => by
    have : v = n := h
    simp only [List.length_nil]; omega
  | x :: L, v, ⟨v', h, h2⟩ => by
    have a := Rd_lt h
    have b := Run_len L v' h2
    rw [List.length_cons]; omega
theorem become_rel {M N : Mem} (hN : Now M) (h54 : N 54 = M 54) (h55 : N 55 = M 55) (h56 : N 56 = M 56) (h57 : N 57 = M 57) (h58 : N 58 = M 58) (h5 : N 53 5 = M 53 5) (h6 : N 53 6 = M 53 6) (h7 : N 53 7 = M 53 7) : ∃ M3, f_X8_become_8_1 M = some M3 ∧ FrC M M3 ∧ Rel M3 N := by
  obtain ⟨n1, ⟨n2, n3, n4⟩, t⟩ := hN
  have hq : Teq (va_cpy (M 2) (M 9) 0 0 8) (va_cpy (M 3) (M 10) 0 0 8) (va_cpy (M 4) (M 11) 0 0 8) (va_cpy (M 5) (M 12) 0 0 8) (va_cpy (M 6) (M 13) 0 0 8) (M 2) (M 3) (M 4) (M 5) (M 6) := fun i hi => ⟨cpy_lt hi, cpy_lt hi, cpy_lt hi, cpy_lt hi, cpy_lt hi⟩
  refine ⟨_, rfl, fun k hk => ?_, fun i hi => ?_, ⟨?_, ?_, ?_⟩, ?_⟩
  · rw [up2_ne _ _ _ (by omega), up2_ne _ _ _ (by omega), up2_ne _ _ _ (by omega), upA_ne _ _ (by omega), upA_ne _ _ (by omega), upA_ne _ _ (by omega), upA_ne _ _ (by omega), upA_ne _ _ (by omega)]
  · rw [h54, h55, h56, h57, h58]
    obtain ⟨q1, q2, q3, q4, q5⟩ := n1 i hi
    obtain ⟨r1, r2, r3, r4, r5⟩ := hq i hi
    exact ⟨r1.trans q1, r2.trans q2, r3.trans q3, r4.trans q4, r5.trans q5⟩
  · rw [h5]; exact n2
  · rw [h6]; exact n3
  · rw [h7]; exact n4
  · exact Tok_congr hq t
def FrZ (B N : Mem) : Prop := (∀ k, ¬ (53 ≤ k ∧ k ≤ 58) → ¬ (62 ≤ k ∧ k ≤ 66) → N k = B k) ∧ ∀ j, j ≠ 5 → j ≠ 6 → j ≠ 7 → j ≠ 16 → j ≠ 17 → j ≠ 20 → j ≠ 21 → j ≠ 22 → j ≠ 23 → N 53 j = B 53 j
def Tries (M M1 N2 : Mem) (c c' : Int32) : Prop := (c = -5 ∧ c' = -5) ∨ (c = -3 ∧ c' = -3 ∧ Told M1 N2) ∨ (c = 0 ∧ c' = -6 ∧ Told M1 N2 ∧ Rel M1 N2 ∧ N2 53 16 = M1 18 0 ∧ N2 53 17 = M1 8 7 - M1 1 7)
theorem try_any {M B : Mem} (h : Inv M) (hB : ∀ k, 53 ≤ k → B k = M k) : ∃ c c' M1 N2, f_X9_tryPad M = some (c, M1) ∧ f_X10_refusal B = some (c', N2) ∧ FrX M M1 ∧ FrZ B N2 ∧ Had N2 B ∧ Tries M M1 N2 c c' := by
  obtain ⟨hnow, ⟨n, hn, p15, p53, peq⟩, _⟩ := h
  obtain ⟨q1, k1, k2, k3⟩ := keep_eq (M0 := B) 8 0 FU B (by omega) (FU_lt (by omega)) (fun _ _ => rfl) (fun j hj => by omega)
  have k1' : f_X10_keepNow B = some q1 := k1
  obtain ⟨r, N1, f1, f2, f3, f4, f5⟩ := fault0 hn p15 n 0 FU FU (up2 q1 53 16 0) 0 (by omega) (by omega) (FU_lt (by omega)) (FU_lt (by omega)) (by
    show q1 53 12 = nI n
    rw [k2 53 (by decide), hB 53 (by omega)]; exact p53) (fun j hj => by
    show q1 61 j = M 16 j
    rw [k2 61 (by decide), hB 61 (by omega)]; exact (peq j hj).symm) (up2_self _ _ _ _) (by omega)
  have f1' : f_X5_faultPlace_15 M = some r := f1
  have f2' : f_X10_fault q1 = some (r, N1) := f2
  have e1 : ∀ k, k ≠ 53 → k ≠ 62 → k ≠ 63 → k ≠ 64 → N1 k = q1 k := fun k a b c d => (f3.1 k a b c d).trans (up2_ne _ _ _ a)
  have e53 : ∀ j, j ≠ 16 → N1 53 j = q1 53 j := fun j a => (f3.2 j a).trans (by rw [up2_at, if_neg a])
  have hd1 : Had N1 B := by
    have : N1 66 = q1 66 := e1 66 (by decide) (by decide) (by decide) (by decide)
    unfold Had Had5
    rw [this]
    exact k3
  have z1 : ∀ k, ¬ (53 ≤ k ∧ k ≤ 58) → ¬ (62 ≤ k ∧ k ≤ 66) → N1 k = B k := fun k a b => by rw [e1 k (by omega) (by omega) (by omega) (by omega), k2 k (by omega)]
  rcases f5 with ⟨rfl, L, L1, L2, L3⟩ | ⟨q, hq, rfl⟩
  · -- the page can be read
    have hA := Run_len L 0 L1
    rw [Nat.zero_add] at hA L2
    have e54 : ∀ k, 53 ≤ k → k ≠ 53 → k ≠ 62 → k ≠ 63 → k ≠ 64 → k ≠ 66 → N1 k = M k := fun k z a b c d e => by rw [e1 k a b c d, k2 k e, hB k z]
    have e5 : ∀ j, j ≠ 16 → N1 53 j = M 53 j := fun j a => by rw [e53 j a, k2 53 (by decide), hB 53 (by omega)]
    obtain ⟨M3, b1, b2, b3⟩ := become_rel (N := up2 (up2 (up2 (up2 (up2 N1 53 20 (-6)) 53 21 (-6)) 53 22 (-6)) 53 23 (-6)) 53 17 0) hnow (e54 54 (by omega) (by decide) (by decide) (by decide) (by decide) (by decide)) (e54 55 (by omega) (by decide) (by decide) (by decide) (by decide) (by decide)) (e54 56 (by omega) (by decide) (by decide) (by decide) (by decide) (by decide)) (e54 57 (by omega) (by decide) (by decide) (by decide) (by decide) (by decide)) (e54 58 (by omega) (by decide) (by decide) (by decide) (by decide) (by decide)) (e5 5 (by decide)) (e5 6 (by decide)) (e5 7 (by decide))
    obtain ⟨M', N', y1, y2, y3, y4, y5, y6, y7⟩ := follow_lock (n := n) (A := L.length) hn (by omega) L 0 0 FU FU (up2 (up2 (up2 (up2 (up2 M3 18 1 (-6)) 18 2 (-6)) 18 3 (-6)) 18 4 (-6)) 18 0 0) (up2 (up2 (up2 (up2 (up2 N1 53 20 (-6)) 53 21 (-6)) 53 22 (-6)) 53 23 (-6)) 53 17 0) (by omega) (FU_lt (by omega)) (FU_lt (by omega)) (by
        show M3 15 1 = nI n
        rw [b2 15 (by omega)]; exact p15) (by
        show Run (M3 16) n 0 L
        rw [b2 16 (by omega)]; exact L1) L2 (Hold_congr (N := N1) (N' := up2 (up2 (up2 (up2 (up2 N1 53 20 (-6)) 53 21 (-6)) 53 22 (-6)) 53 23 (-6)) 53 17 0) rfl rfl rfl L 0 L3) (Rel_keep b3 rfl rfl rfl rfl rfl rfl rfl rfl rfl rfl rfl rfl rfl rfl) rfl ⟨rfl, rfl, rfl, rfl⟩ rfl rfl (Or.inl ⟨rfl, rfl⟩)
    have x3 : FrX M M' := ((FrX.ofC b2).tr (FrX.of18 fun k hk => by rw [up2_ne _ _ _ hk, up2_ne _ _ _ hk, up2_ne _ _ _ hk, up2_ne _ _ _ hk, up2_ne _ _ _ hk])).tr y3
    have cX : f_X9_tryPad M = if M' 18 1 = -6 then some (0, M') else some (-3, M') := by
      unfold f_X9_tryPad
      rw [f1', Option.bind_some, if_pos rfl, b1, Option.bind_some]
      unfold f_X7_follow_18_15_17_8
      rw [clear8, Option.bind_some]
      have : lp_X7_follow_18_15_17_8_41 FU 0 (clr ((up2 (up2 (up2 (up2 M3 18 1 (-6)) 18 2 (-6)) 18 3 (-6)) 18 4 (-6)) 9)) 0 (up2 (up2 (up2 (up2 (up2 M3 18 1 (-6)) 18 2 (-6)) 18 3 (-6)) 18 4 (-6)) 18 0 0) = some M' := y1
      rw [this, Option.bind_some]
    have cY : f_X10_refusal B = if N' 53 20 < 0 then some (-6, N') else some (-3, N') := by
      unfold f_X10_refusal
      rw [k1', Option.bind_some, f2', Option.bind_some, if_pos (show (-6 : Int32) < 0 by decide)]
      have : f_X10_goWeeks N1 = some N' := y2
      rw [this, Option.bind_some]
    have z3 : FrZ B N' := ⟨fun k a b => by
        rw [y4.1 k a (by omega), up2_ne _ _ _ (by omega), up2_ne _ _ _ (by omega), up2_ne _ _ _ (by omega), up2_ne _ _ _ (by omega), up2_ne _ _ _ (by omega)]
        exact z1 k a b, fun j a b c d e f g i l => by
        rw [y4.2.1 j a b c e f g i l, up2_at, if_neg e, up2_at, if_neg l, up2_at, if_neg i, up2_at, if_neg g, up2_at, if_neg f, e53 j d, k2 53 (by decide)]⟩
    have hd2 : Had N' B := by
      have : N' 66 = N1 66 := y4.1 66 (by omega) (by decide)
      unfold Had Had5
      rw [this]
      exact hd1
    rcases y7 with ⟨w1, w2⟩ | ⟨q, hq, w1⟩
    · refine ⟨0, -6, M', N', ?_, ?_, x3, z3, hd2, Or.inr (Or.inr ⟨rfl, rfl, y6, y5, ?_, ?_⟩)⟩
      · rw [cX, if_pos (y6.1.trans w1)]
      · rw [cY, w1, if_pos (by decide)]
      · rw [w2, y4.2.1 16 (by decide) (by decide) (by decide) (by decide) (by decide) (by decide) (by decide) (by decide)]
        exact L2
      · have w3 : N' 53 17 - N' 53 6 = 0 - N1 53 6 := y4.2.2
        rw [x3 1 (by omega) (by decide) (by decide), y5.2.1.2.1, hnow.2.1.2.1, ← e5 6 (by decide)]
        grind
    · have nq : ¬ nI q = -6 := fun w => by
        have := congrArg Int32.toInt w
        rw [nI_toInt (by omega)] at this
        have e : (-6 : Int32).toInt = -6 := rfl
        omega
      refine ⟨-3, -3, M', N', ?_, ?_, x3, z3, hd2, Or.inr (Or.inl ⟨rfl, rfl, y6⟩)⟩
      · rw [cX, if_neg (by rw [y6.1, w1]; exact nq)]
      · rw [cY, w1, if_neg (show ¬ nI q < 0 from nI_nlt (b := 0) (by omega) (by omega))]
  · -- a fault
    have nq : ¬ nI q = -6 := fun w => by
      have := congrArg Int32.toInt w
      rw [nI_toInt (by omega)] at this
      have e : (-6 : Int32).toInt = -6 := rfl
      omega
    refine ⟨-5, -5, M, N1, ?_, ?_, fun _ _ _ _ => rfl, ⟨z1, fun j a b c d _ _ _ _ _ => by rw [e53 j d, k2 53 (by decide)]⟩, hd1, Or.inl ⟨rfl, rfl⟩⟩
    · unfold f_X9_tryPad
      rw [f1', Option.bind_some, if_neg nq]
    · unfold f_X10_refusal
      rw [k1', Option.bind_some, f2', Option.bind_some, if_neg (show ¬ nI q < 0 from nI_nlt (b := 0) (by omega) (by omega))]
theorem try_eq {M : Mem} (h : Inv M) : ∃ c c' M1 N2, f_X9_tryPad M = some (c, M1) ∧ f_X10_refusal M1 = some (c', N2) ∧ FrX M M1 ∧ FrZ M1 N2 ∧ Had N2 M1 ∧ Tries M M1 N2 c c' := by
  obtain ⟨c, _, M1, _, a1, _, a3, _⟩ := try_any h (B := M) (fun _ _ => rfl)
  obtain ⟨c2, c', M2, N2, b1, b2, b3, b4, b5, b6⟩ := try_any h (B := M1) (fun k hk => a3 k (by omega) (by omega) (by omega))
  rw [a1] at b1
  cases b1
  exact ⟨c, c', M1, N2, a1, b2, b3, b4, b5, b6⟩
