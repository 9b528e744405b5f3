def endC (w : Int32) (M : Mem) : Option (Int32 × Mem) := if w = 0 then (f_X8_allDoubts_8 M).bind fun r7 => some (r7, M) else if w = 1 then some (M 8 7, M) else (f_X8_clearHouses_8 M).bind fun r9 => some (f_J6_bitCount_0f7a4 r9, M)
def endR (w : Int32) (N : Mem) : Option (Int32 × Mem) := if w = 0 then (f_X10_allDoubts N).bind fun r11 => lb_X10_year_190 r11 N else if w = 1 then lb_X10_year_190 (N 53 6) N else (f_X10_clear N).bind fun r8 => (f_X10_ones r8).bind fun r9 => lb_X10_year_190 r9 N
theorem year_lock {T : Nat} (hT : T ≤ 99) (w : Int32) : ∀ m i k k' x M N, i + m = T → m < k → m < k' → x ≤ 65536 → Rel M N → ∃ M' N', lp_X9_year_50 k (nI T) w (nI x) (nI i) M = endC w M' ∧ lp_X10_year_49 k' (nI T) w (nI x) (nI i) N = endR w N' ∧ FrX M M' ∧ FrY N N' ∧ Rel M' N'
  | 0, i, k, k', x, M, N, hi, hk, hk', hx, hR => by
    obtain ⟨k, rfl⟩ : ∃ q, k = q + 1 := ⟨k - 1, by omega⟩
    obtain ⟨k', rfl⟩ : ∃ q, k' = q + 1 := ⟨k' - 1, by omega⟩
    refine ⟨M, N, ?_, ?_, fun _ _ _ _ => rfl, ⟨fun _ _ _ => rfl, fun _ _ _ _ _ _ _ _ _ => rfl, rfl⟩, hR⟩
    · show bd_X9_year_50 _ _ _ _ _ _ = _
      unfold bd_X9_year_50
      rw [if_pos (nI_le (show T ≤ i by omega) (by omega))]
      rfl
    · show bd_X10_year_49 _ _ _ _ _ _ = _
      unfold bd_X10_year_49
      rw [if_pos (nI_le (show T ≤ i by omega) (by omega))]
      rfl
  | m + 1, i, k, k', x, M, N, hi, hk, hk', hx, hR => by
    obtain ⟨k, rfl⟩ : ∃ q, k = q + 1 := ⟨k - 1, by omega⟩
    obtain ⟨k', rfl⟩ : ∃ q, k' = q + 1 := ⟨k' - 1, by omega⟩
    obtain ⟨l1, l2⟩ := lcg hx
    generalize hy : (75 * x + 74) % 65537 = y at l1 l2
    have hy2 : y ≤ 65536 := by omega
    obtain ⟨M1, d1, d2, d3⟩ := draw_eq (M := M) hy2
    have hR1 : Rel M1 N := Rel_keep hR (d2 8 (by decide)) (d2 9 (by decide)) (d2 10 (by decide)) (d2 11 (by decide)) (d2 12 (by decide)) (d2 13 (by decide)) rfl rfl rfl rfl rfl rfl rfl rfl
    have cX : lp_X9_year_50 (k + 1) (nI T) w (nI x) (nI i) M = if M1 17 0 = 0 then lp_X9_year_50 k (nI T) w (nI y) (nI (i + 1)) M1 else (f_X8_whyNot_8_17 M1).bind fun r12 => (if r12 = 0 then (f_X8_take_8_17 M1).bind fun q14 => lp_X9_year_50 k (nI T) w (nI y) (nI (i + 1)) q14 else lp_X9_year_50 k (nI T) w (nI y) (nI (i + 1)) M1) := by
      show bd_X9_year_50 _ _ _ _ _ _ = _
      unfold bd_X9_year_50
      rw [if_neg (nI_ge (show i < T by omega) (by omega)), l1, d1, Option.bind_some, n_s]
    have h64 : nI y / 64 = nI (y / 64) := div_nI (d := 64) (by omega) (by decide) (by decide)
    have h4 : remI (nI (y / 64)) 4 = nI (y / 64 % 4) := remI_nI (d := 4) (by omega) (by decide) (by decide)
    have h8 : remI (nI y) 8 = nI (y % 8) := remI_nI (d := 8) (by omega) (by decide) (by decide)
    have h88 : remI (nI (y / 64)) 8 = nI (y / 64 % 8) := remI_nI (d := 8) (by omega) (by decide) (by decide)
    have kl : kindOf y ≤ 6 := by unfold kindOf; omega
    have cY : lp_X10_year_49 (k' + 1) (nI T) w (nI x) (nI i) N = if kindOf y = 4 ∧ ¬ y / 64 % 4 = 0 then lp_X10_year_49 k' (nI T) w (nI y) (nI (i + 1)) N else (f_X10_whyNot (nI (kindOf y)) (nI (y % 8)) (nI (y / 64 % 8)) N).bind fun r14 => (if r14 = 0 then (f_X10_happen (nI (kindOf y)) (nI (y % 8)) (nI (y / 64 % 8)) N).bind fun q16 => lp_X10_year_49 k' (nI T) w (nI y) (nI (i + 1)) q16 else lp_X10_year_49 k' (nI T) w (nI y) (nI (i + 1)) N) := by
      show bd_X10_year_49 _ _ _ _ _ _ = _
      unfold bd_X10_year_49 lb_X10_year_111
      rw [if_neg (nI_ge (show i < T by omega) (by omega)), l2, actBy_eq hy2, h64, h4, h8, h88, n_s]
      by_cases q : kindOf y = 4
      · rw [if_pos (show nI (kindOf y) = 4 by rw [q]; rfl)]
        by_cases p : y / 64 % 4 = 0
        · rw [if_pos (show nI (y / 64 % 4) = 0 by rw [p]; rfl), if_neg (by decide), if_neg (fun z => z.2 p)]
        · rw [if_neg (show ¬ nI (y / 64 % 4) = 0 from nI_is (c := 0) (by omega) (by omega) p), if_pos rfl, if_pos ⟨q, p⟩]
      · rw [if_neg (show ¬ nI (kindOf y) = 4 from nI_is (c := 4) (by omega) (by omega) q), if_neg (by decide), if_neg (fun z => q z.1)]
    rw [cX, cY]
    rcases d3 with ⟨p1, p2, p3⟩ | ⟨p1, p2, p3, p4⟩
    · rw [if_pos p3, if_pos ⟨p1, p2⟩]
      obtain ⟨M', N', z1, z2, z3, z4, z5⟩ := year_lock hT w m (i + 1) k k' y M1 N (by omega) (by omega) (by omega) hy2 hR1
      exact ⟨M', N', z1, z2, (FrX.of17 d2).tr z3, z4, z5⟩
    · have nz : ¬ M1 17 0 = 0 := by
        rw [p2]
        have : ∀ j, j < 7 → ¬ sgn j = 0 := by decide
        exact this _ (by omega)
      obtain ⟨r, hr, y1, y2, y3⟩ := act_eq hR1 kl (show y % 8 < 8 by omega) (show y / 64 % 8 < 8 by omega) p2 p3 p4
      rw [if_neg nz, if_neg p1, y1, y2, Option.bind_some, Option.bind_some]
      by_cases q : r = 0
      · obtain ⟨M2, N2, t1, t2, t3, t4, t5⟩ := y3 q
        obtain ⟨M', N', z1, z2, z3, z4, z5⟩ := year_lock hT w m (i + 1) k k' y M2 N2 (by omega) (by omega) (by omega) hy2 t3
        rw [if_pos (show nI r = 0 by rw [q]; rfl), if_pos (show nI r = 0 by rw [q]; rfl), t1, t2, Option.bind_some, Option.bind_some]
        exact ⟨M', N', z1, z2, ((FrX.of17 d2).tr (FrX.ofC t4)).tr z3, (FrY.ofR t5).tr z4, z5⟩
      · rw [if_neg (show ¬ nI r = 0 from nI_is (c := 0) (by omega) (by omega) q), if_neg (show ¬ nI r = 0 from nI_is (c := 0) (by omega) (by omega) q)]
        obtain ⟨M', N', z1, z2, z3, z4, z5⟩ := year_lock hT w m (i + 1) k k' y M1 N (by omega) (by omega) (by omega) hy2 hR1
        exact ⟨M', N', z1, z2, (FrX.of17 d2).tr z3, z4, z5⟩
