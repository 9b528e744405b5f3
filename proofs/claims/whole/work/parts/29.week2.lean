def Rel (M N : Mem) : Prop := Teq (M 9) (M 10) (M 11) (M 12) (M 13) (N 54) (N 55) (N 56) (N 57) (N 58) ∧ (M 8 6 = N 53 5 ∧ M 8 7 = N 53 6 ∧ M 8 8 = N 53 7) ∧ Tok (M 9) (M 10) (M 11) (M 12) (M 13) (M 8 6) (M 8 8)
def FrC (M M' : Mem) : Prop := ∀ k, ¬ (8 ≤ k ∧ k ≤ 14) → M' k = M k
def FrR (N N' : Mem) : Prop := (∀ k, ¬ (53 ≤ k ∧ k ≤ 58) → k ≠ 65 → N' k = N k) ∧ (∀ j, j ≠ 5 → j ≠ 6 → j ≠ 7 → j ≠ 17 → N' 53 j = N 53 j) ∧ N' 53 17 - N' 53 6 = N 53 17 - N 53 6
theorem asa (a b t : Int32) : (a + t) - (b + t) = a - b := by grind
theorem breed_lock {M0 N0 : Mem} : ∀ m i n n' M N, i + m = 8 → m < n → m < n' → Rel M N → FrC M0 M → FrR N0 N →
    ∃ M1 N1, lp_X8_passWeek_8_2 n (nI i) M = (f_X8_wander_8 M1).bind (fun q2 => lp_X8_passWeek_8_69 FU 0 q2) ∧ lp_X10_breed_2 n' (nI i) N = some N1 ∧ Rel M1 N1 ∧ FrC M0 M1 ∧ FrR N0 N1
  | 0, i, n, n', M, N, hi, hn, hn', hR, hC, hF => by
    obtain ⟨n, rfl⟩ : ∃ q, n = q + 1 := ⟨n - 1, by omega⟩
    obtain ⟨n', rfl⟩ : ∃ q, n' = q + 1 := ⟨n' - 1, by omega⟩
    refine ⟨M, N, ?_, ?_, hR, hC, hF⟩
    · show bd_X8_passWeek_8_2 _ _ _ = _
      unfold bd_X8_passWeek_8_2
      rw [if_pos (show (8 : Int32) ≤ nI i from nI_le (a := 8) (by omega) (by omega))]
    · show bd_X10_breed_2 _ _ _ = _
      unfold bd_X10_breed_2
      rw [if_pos (show (8 : Int32) ≤ nI i from nI_le (a := 8) (by omega) (by omega))]
  | m + 1, i, n, n', M, N, hi, hn, hn', hR, hC, hF => by
    obtain ⟨n, rfl⟩ : ∃ q, n = q + 1 := ⟨n - 1, by omega⟩
    obtain ⟨n', rfl⟩ : ∃ q, n' = q + 1 := ⟨n' - 1, by omega⟩
    obtain ⟨h1, ⟨h2, h3, h4⟩, t1, t2, t3, t4⟩ := hR
    obtain ⟨q1, q2, q3, q4, q5⟩ := h1 i (by omega)
    obtain ⟨⟨x, hx, ex⟩, ⟨y, hy, ey⟩, ⟨z, hz, ez⟩, -⟩ := t1 i (by omega)
    have hG := Gr_le y x
    have eN : Gr y x - (Gr y x - z) = min (Gr y x) z := by omega
    obtain ⟨M1, N1, r1, r2, r3, r4, r5⟩ := breed_lock (M0 := M0) (N0 := N0) m (i + 1) n n' (up2 (up2 M 9 i (nI (Gr y x - z))) 8 7 (M 8 7 + nI (min (Gr y x) z))) (up2 (up2 (up2 N 54 i (nI (Gr y x - z))) 53 6 (N 53 6 + nI (min (Gr y x) z))) 53 17 (N 53 17 + nI (min (Gr y x) z))) (by omega) (by omega) (by omega)
      ⟨fun j hj => by
          obtain ⟨w1, w2, w3, w4, w5⟩ := h1 j hj
          exact ⟨upd_eq w1, w2, w3, w4, w5⟩, ⟨h2, by show M 8 7 + _ = N 53 6 + _; rw [h3], h4⟩, fun j hj => by
          obtain ⟨w1, w2, w3, w4⟩ := t1 j hj
          exact ⟨upd_rg ⟨Gr y x - z, by omega, rfl⟩ w1, w2, w3, w4⟩, t2, t3, t4⟩
      (fun k hk => by rw [up2_ne _ _ _ (by omega), up2_ne _ _ _ (by omega)]; exact hC k hk)
      ⟨fun k a b => by rw [up2_ne _ _ _ (by omega), up2_ne _ _ _ (by omega), up2_ne _ _ _ (by omega)]; exact hF.1 k a b, fun j a b c d => by rw [up2_at, if_neg d, up2_at, if_neg b, up2_ne _ _ _ (by decide)]; exact hF.2.1 j a b c d, by
        show (N 53 17 + nI (min (Gr y x) z)) - (N 53 6 + nI (min (Gr y x) z)) = _
        rw [asa]; exact hF.2.2⟩
    refine ⟨M1, N1, ?_, ?_, r3, r4, r5⟩
    · show bd_X8_passWeek_8_2 _ _ _ = _
      unfold bd_X8_passWeek_8_2
      rw [if_neg (show ¬ (8 : Int32) ≤ nI i from nI_ge (b := 8) (by omega) (by omega)), inb_nI (show i < 8 by omega) (by decide), ix_nI (by omega), n_s, ex, ey, ez, grown9 hx hy, uncaged9 hG hz, show up2 M 9 i (nI (Gr y x - z)) 9 i = nI (Gr y x - z) by rw [up2_at, if_pos rfl], pk_sub (by omega), eN]
      exact r1
    · show bd_X10_breed_2 _ _ _ = _
      unfold bd_X10_breed_2
      rw [if_neg (show ¬ (8 : Int32) ≤ nI i from nI_ge (b := 8) (by omega) (by omega)), inb_nI (show i < 8 by omega) (by decide), ix_nI (by omega), n_s, ← q1, ← q2, ← q3, ex, ey, ez, grown10 hx hy, caught10 hG hz, less_nI (by omega) (by omega)]
      exact r2
def mv (f : Nat → Int32) (h t : Nat) : Nat → Int32 := upd (upd f h (f h - 1)) t ((upd f h (f h - 1)) t + 1)
theorem mv_at (f : Nat → Int32) (h t j : Nat) : mv f h t j = if j = t then (if t = h then f h - 1 else f t) + 1 else if j = h then f h - 1 else f j := rfl
def P2 (key : Nat → Nat) (i : Nat) (M N : Mem) : Prop := ∀ j, j < 8 → (M 14 j = nI (key j) ∧ key j ≤ 99) ∧ N 54 j = nI (key j) ∧ M 12 j = N 57 j ∧ M 13 j = N 58 j ∧ M 9 j = nI (key j) + N 65 j ∧ ∃ x, x ≤ 99 + i ∧ M 9 j = nI x ∧ (i ≤ j → key j ≤ x)
theorem P2_skip {key : Nat → Nat} {i : Nat} {M N : Mem} (H : P2 key i M N) : P2 key (i + 1) M N := fun j hj => by
  obtain ⟨a, b, c, d, e, x, x1, x2, x3⟩ := H j hj
  exact ⟨a, b, c, d, e, x, by omega, x2, fun q => x3 (by omega)⟩
theorem P2_mv {key : Nat → Nat} {i t : Nat} {M N : Mem} (hi : i < 8) (ht : t < 8) (hk : 1 ≤ key i) (H : P2 key i M N) : P2 key (i + 1) (upA M 9 (mv (M 9) i t)) (upA N 65 (mv (N 65) i t)) := by
  obtain ⟨-, -, -, -, ei, xi, yi, zi, wi⟩ := H i hi
  obtain ⟨-, -, -, -, et, xt, yt, zt, wt⟩ := H t ht
  have wi := wi (Nat.le_refl i)
  have sub1 : nI xi - 1 = nI (xi - 1) := pk_sub (b := 1) (by omega)
  intro j hj
  obtain ⟨a, b, c, d, e, x, x1, x2, x3⟩ := H j hj
  refine ⟨a, b, c, d, ?_, ?_⟩
  · show mv (M 9) i t j = nI (key j) + mv (N 65) i t j
    rw [mv_at, mv_at]
    by_cases q : j = t
    · subst q
      rw [if_pos rfl, if_pos rfl]
      by_cases q2 : j = i
      · subst q2
        rw [if_pos rfl, if_pos rfl, e]; grind
      · rw [if_neg q2, if_neg q2, e]; grind
    · rw [if_neg q, if_neg q]
      by_cases q2 : j = i
      · subst q2
        rw [if_pos rfl, if_pos rfl, e]; grind
      · rw [if_neg q2, if_neg q2, e]
  · show ∃ x, x ≤ 99 + (i + 1) ∧ mv (M 9) i t j = nI x ∧ (i + 1 ≤ j → key j ≤ x)
    rw [mv_at]
    by_cases q : j = t
    · subst q
      rw [if_pos rfl]
      by_cases q2 : j = i
      · subst q2
        rw [if_pos rfl, zi, sub1, n_s]
        exact ⟨_, by omega, rfl, fun z => by omega⟩
      · rw [if_neg q2, x2, n_s]
        exact ⟨_, by omega, rfl, fun z => by have := x3 (by omega); omega⟩
    · rw [if_neg q]
      by_cases q2 : j = i
      · subst q2
        rw [if_pos rfl, zi, sub1]
        exact ⟨_, by omega, rfl, fun z => by omega⟩
      · rw [if_neg q2]
        exact ⟨x, by omega, x2, fun z => x3 (by omega)⟩
theorem up22 (M : Mem) (c h t : Nat) : up2 (up2 M c h (M c h - 1)) c t ((up2 M c h (M c h - 1)) c t + 1) = upA M c (mv (M c) h t) := by
  funext k j
  unfold up2 upA mv
  by_cases q : k = c
  · rw [if_pos q, if_pos q, if_pos rfl]
  · rw [if_neg q, if_neg q, if_neg q]
theorem go_lock {Ma Nb : Mem} {key : Nat → Nat} : ∀ m i n n' M N, i + m = 8 → m < n → m < n' → P2 key i M N → (∀ k, k ≠ 9 → M k = Ma k) → (∀ k, k ≠ 65 → N k = Nb k) →
    ∃ M1 N1, lp_X8_wander_8_17 n (nI i) M = lp_X8_wander_8_98 FU 0 M1 ∧ lp_X10_go_23 n' (nI i) N = lp_X10_go_106 FU 0 N1 ∧ P2 key 8 M1 N1 ∧ (∀ k, k ≠ 9 → M1 k = Ma k) ∧ ∀ k, k ≠ 65 → N1 k = Nb k
  | 0, i, n, n', M, N, hi, hn, hn', hP, hC, hF => by
    obtain ⟨n, rfl⟩ : ∃ q, n = q + 1 := ⟨n - 1, by omega⟩
    obtain ⟨n', rfl⟩ : ∃ q, n' = q + 1 := ⟨n' - 1, by omega⟩
    have e : i = 8 := by omega
    subst e
    refine ⟨M, N, ?_, ?_, hP, hC, hF⟩
    · show bd_X8_wander_8_17 _ _ _ = _
      unfold bd_X8_wander_8_17
      rw [if_pos (by decide)]
    · show bd_X10_go_23 _ _ _ = _
      unfold bd_X10_go_23
      rw [if_pos (by decide)]
  | m + 1, i, n, n', M, N, hi, hn, hn', hP, hC, hF => by
    obtain ⟨n, rfl⟩ : ∃ q, n = q + 1 := ⟨n - 1, by omega⟩
    obtain ⟨n', rfl⟩ : ∃ q, n' = q + 1 := ⟨n' - 1, by omega⟩
    have hi8 : i < 8 := by omega
    obtain ⟨⟨p1, p2⟩, p3, p4, p5, -⟩ := hP i hi8
    obtain ⟨r, g1, g2, g3⟩ := quiet_goal (M := M) (N := N) hi8 (fun j hj => (hP j hj).1) (fun j hj => ⟨(hP j hj).2.1, (hP j hj).1.2⟩) p5
    have ih := go_lock (Ma := Ma) (Nb := Nb) (key := key) m (i + 1) n n'
    have skip : ∃ M1 N1, lp_X8_wander_8_17 n (nI (i + 1)) M = lp_X8_wander_8_98 FU 0 M1 ∧ lp_X10_go_23 n' (nI (i + 1)) N = lp_X10_go_106 FU 0 N1 ∧ P2 key 8 M1 N1 ∧ (∀ k, k ≠ 9 → M1 k = Ma k) ∧ ∀ k, k ≠ 65 → N1 k = Nb k := ih M N (by omega) (by omega) (by omega) (P2_skip hP) hC hF
    have going : 1 ≤ key i → ∃ M1 N1, lb_X8_wander_8_52 (lp_X8_wander_8_17 n) (nI i) M = lp_X8_wander_8_98 FU 0 M1 ∧ lb_X10_go_63 (lp_X10_go_23 n') (nI i) 1 N = lp_X10_go_106 FU 0 N1 ∧ P2 key 8 M1 N1 ∧ (∀ k, k ≠ 9 → M1 k = Ma k) ∧ ∀ k, k ≠ 65 → N1 k = Nb k := by
      intro hk
      unfold lb_X8_wander_8_52 lb_X10_go_63
      rw [inb_nI hi8 (by decide), ix_nI (by omega), g1, g2, Option.bind_some, Option.bind_some, n_s]
      rcases g3 with rfl | ⟨t, ht, rfl⟩
      · exact skip
      · rw [if_pos rfl, if_neg (house_yes' ht), if_neg (show ¬ (1 : Int32) = 0 by decide), if_neg (nI_pos (by omega)), inb_nI ht (by decide), ix_nI (by omega), up22, up22]
        exact ih (upA M 9 (mv (M 9) i t)) (upA N 65 (mv (N 65) i t)) (by omega) (by omega) (by omega) (P2_mv hi8 ht hk hP) (fun k hk => (upA_ne _ _ hk).trans (hC k hk)) (fun k hk => (upA_ne _ _ hk).trans (hF k hk))
    have ref0 : lb_X10_go_62 (lp_X10_go_23 n') (nI i) N = lp_X10_go_23 n' (nI (i + 1)) N := by
      unfold lb_X10_go_62 lb_X10_go_63
      rw [g2, Option.bind_some, if_pos rfl, n_s]
    show ∃ M1 N1, bd_X8_wander_8_17 _ _ _ = _ ∧ bd_X10_go_23 _ _ _ = _ ∧ _
    unfold bd_X8_wander_8_17 bd_X10_go_23
    rw [if_neg (show ¬ (8 : Int32) ≤ nI i from nI_ge (b := 8) (by omega) (by omega)), if_neg (show ¬ (8 : Int32) ≤ nI i from nI_ge (b := 8) (by omega) (by omega)), inb_nI hi8 (by decide), ix_nI (by omega), p1, p3, p4, ref0, n_s, if_pos rfl, if_pos rfl]
    by_cases c1 : 10 ≤ key i
    · rw [if_pos (show (10 : Int32) ≤ nI (key i) from nI_le (a := 10) c1 (by omega)), if_pos (show (10 : Int32) ≤ nI (key i) from nI_le (a := 10) c1 (by omega))]
      exact going (by omega)
    · rw [if_neg (show ¬ (10 : Int32) ≤ nI (key i) from nI_ge (b := 10) (by omega) (by omega)), if_neg (show ¬ (10 : Int32) ≤ nI (key i) from nI_ge (b := 10) (by omega) (by omega)), if_pos rfl, if_pos rfl]
      by_cases c2 : N 57 i ≤ 0
      · rw [if_pos c2, if_pos c2]
        exact skip
      · rw [if_neg c2, if_neg c2, if_pos rfl, if_pos rfl]
        by_cases c3 : key i = 0
        · rw [c3, if_pos (show nI 0 ≤ 0 by decide), if_pos (show nI 0 ≤ 0 by decide)]
          exact skip
        · rw [if_neg (show ¬ nI (key i) ≤ 0 from nI_nle (by omega) (by omega)), if_neg (show ¬ nI (key i) ≤ 0 from nI_nle (by omega) (by omega))]
          exact going (by omega)
