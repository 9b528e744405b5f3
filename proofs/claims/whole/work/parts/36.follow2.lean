theorem up2_id {N : Mem} {k j : Nat} {x : Int32} (h : N k j = x) : up2 N k j x = N := by
  funext q i
  by_cases e : q = k
  · subst e
    rw [up2_at]
    by_cases z : i = j
    · rw [if_pos z, z, h]
    · rw [if_neg z]
  · rw [up2_ne _ _ _ e]
theorem FrX.of17 {M M1 : Mem} (h : ∀ k, k ≠ 17 → M1 k = M k) : FrX M M1 := fun k _ q _ => h k q
theorem FrX.of18 {M M1 : Mem} (h : ∀ k, k ≠ 18 → M1 k = M k) : FrX M M1 := fun k _ _ q => h k q
theorem FrX.ofC {M M1 : Mem} (h : FrC M M1) : FrX M M1 := fun k q _ _ => h k q
theorem FrY.ofR {N N1 : Mem} (h : FrR N N1) : FrY N N1 := ⟨h.1, fun j p q r s _ _ _ _ => h.2.1 j p q r s, h.2.2⟩
theorem Rd_lt {p : Nat → Int32} {n v w h o v' : Nat} (hR : Rd p n v w h o v') : v < v' ∧ v' ≤ n ∧ w ≤ 6 ∧ h < 8 ∧ o < 8 := by
  obtain ⟨hh, ho, hv, ⟨rfl, rfl, rfl, e, rfl⟩ | ⟨rfl, e, e1, e2, rfl⟩ | ⟨hw, rfl, e, e1, rfl⟩⟩ := hR <;> omega
theorem follow_lock {n A : Nat} (hn : n ≤ 60) (hA : A ≤ 60) : ∀ (L : List (Nat × Nat × Nat)) v a k k' M N, a + L.length = A → L.length < k → L.length + 1 < k' → M 15 1 = nI n → Run (M 16) n v L → N 53 16 = nI A → Hold N a L → Rel M N → M 18 0 = nI a → Told M N → N 53 20 = -6 → N 53 21 = -6 → ((N 53 22 = -6 ∧ N 53 23 = -6) ∨ ∃ q, q < 60 ∧ N 53 22 = nI q) →
    ∃ M' N', lp_X7_follow_18_15_17_8_41 k (nI v) (clr (M 9)) (nI a) M = some M' ∧ lp_X10_goWeeks_31 k' (nI a) N = some N' ∧ FrX M M' ∧ FrY N N' ∧ Rel M' N' ∧ Told M' N' ∧ ((N' 53 20 = -6 ∧ M' 18 0 = nI A) ∨ ∃ q, q < 60 ∧ N' 53 20 = nI q)
  | [], v, a, k, k', M, N, hL, hk, hk', hp, hr, h16, hH, hR, h0, hT, h20, h21, h22 => by
    obtain ⟨k, rfl⟩ : ∃ q, k = q + 1 := ⟨k - 1, by omega⟩
    obtain ⟨k', rfl⟩ : ∃ q, k' = q + 1 := ⟨k' - 1, by omega⟩
    have hv : v = n := hr
    have ha : a = A := hL
    refine ⟨M, N, ?_, ?_, fun _ _ _ _ => rfl, ⟨fun _ _ _ => rfl, fun _ _ _ _ _ _ _ _ _ => rfl, rfl⟩, hR, hT, Or.inl ⟨h20, by rw [h0, ha]⟩⟩
    · show bd_X7_follow_18_15_17_8_41 _ _ _ _ _ = _
      unfold bd_X7_follow_18_15_17_8_41
      rw [hp, hv, if_pos (nI_le (Nat.le_refl n) (by omega)), ite_self]
    · show bd_X10_goWeeks_31 _ _ _ = _
      unfold bd_X10_goWeeks_31
      rw [h16, ha, if_pos (nI_le (Nat.le_refl A) (by omega))]
  | (w, h, o) :: L, v, a, k, k', M, N, hL, hk, hk', hp, hr, h16, hH, hR, h0, hT, h20, h21, h22 => by
    obtain ⟨k, rfl⟩ : ∃ q, k = q + 1 := ⟨k - 1, by omega⟩
    obtain ⟨k', rfl⟩ : ∃ q, k' = q + 1 := ⟨k' - 1, by omega⟩
    obtain ⟨v', hrd, hrun⟩ := hr
    obtain ⟨⟨g1, g2, g3⟩, hH⟩ := hH
    simp only at hrd g1 g2 g3
    rw [List.length_cons] at hL hk hk'
    obtain ⟨l1, l2, l3, l4, l5⟩ := Rd_lt hrd
    obtain ⟨M1, m1, ⟨m2, m3, m4⟩, m5⟩ := read_eq hn hp hrd
    have hR1 : Rel M1 N := Rel_keep hR (m5 8 (by decide)) (m5 9 (by decide)) (m5 10 (by decide)) (m5 11 (by decide)) (m5 12 (by decide)) (m5 13 (by decide)) rfl rfl rfl rfl rfl rfl rfl rfl
    obtain ⟨r, hr5, y1, y2, y3⟩ := act_eq hR1 l3 l4 l5 m2 m3 m4
    have a60 : a < 60 := by omega
    have cX : lp_X7_follow_18_15_17_8_41 (k + 1) (nI v) (clr (M 9)) (nI a) M = (if nI r = 0 then (f_X8_take_8_17 M1).bind fun q7 => (f_X8_clearHouses_8 q7).bind fun r8 => (f_X7_noteRid_18 (nI a) (r8 &&& (clr (M 9) ^^^ -1)) q7).bind fun q9 => lp_X7_follow_18_15_17_8_41 k (nI v') r8 (nI (a + 1)) (up2 q9 18 0 (q9 18 0 + 1)) else some (up2 (up2 M1 18 1 (nI a)) 18 2 (nI r))) := by
      show bd_X7_follow_18_15_17_8_41 _ _ _ _ _ = _
      unfold bd_X7_follow_18_15_17_8_41
      rw [if_neg (show ¬ (60 : Int32) ≤ nI a from nI_ge (b := 60) (by omega) (by omega)), hp, if_neg (nI_ge (show v < n by omega) (by omega)), m1, Option.bind_some, y1, Option.bind_some, n_s]
    have cY : lp_X10_goWeeks_31 (k' + 1) (nI a) N = (if nI r ≤ 0 then lb_X10_goWeeks_80 (lp_X10_goWeeks_31 k') (nI a) (nI r) (-6) N else lb_X10_goWeeks_80 (lp_X10_goWeeks_31 k') (nI a) (nI r) (nI a) N) := by
      show bd_X10_goWeeks_31 _ _ _ = _
      unfold bd_X10_goWeeks_31
      rw [h16, if_neg (nI_ge (show a < A by omega) (by omega)), h20, if_neg (by decide), inb_nI a60 (by decide), ix_nI (by omega), g1, g2, g3, y2]
      rfl
    rw [cX, cY]
    by_cases hr0 : r = 0
    · subst hr0
      obtain ⟨M2, N2, t1, t2, t3, t4, t5⟩ := y3 rfl
      have e9 : ∀ i, i < 8 → M 9 i = N 54 i := fun i hi => (hR.1 i hi).1
      have e9' : ∀ i, i < 8 → M2 9 i = N2 54 i := fun i hi => (t3.1 i hi).1
      have c18 : M2 18 = M 18 := by rw [t4 18 (by omega), m5 18 (by decide)]
      have d53 : ∀ j, j ≠ 5 → j ≠ 6 → j ≠ 7 → j ≠ 17 → N2 53 j = N 53 j := t5.2.1
      obtain ⟨M3, N3, u1, u2, u3, u4, u5, u6, u7, u8, u9⟩ := note_eq (M := M2) (N := N2) a60 (clr (M2 9) &&& (clr (M 9) ^^^ -1)) (by rw [c18, d53 22 (by decide) (by decide) (by decide) (by decide)]; exact hT.2.2.1) (by rw [c18, d53 23 (by decide) (by decide) (by decide) (by decide)]; exact hT.2.2.2) (by rw [d53 22 (by decide) (by decide) (by decide) (by decide), d53 23 (by decide) (by decide) (by decide) (by decide)]; exact h22)
      have hR3 : Rel (up2 M3 18 0 (M3 18 0 + 1)) N3 := Rel_keep t3 (u6 8 (by decide)) (u6 9 (by decide)) (u6 10 (by decide)) (u6 11 (by decide)) (u6 12 (by decide)) (u6 13 (by decide)) (u9 5 (by decide) (by decide)) (u9 6 (by decide) (by decide)) (u9 7 (by decide) (by decide)) (u8 54 (by decide)) (u8 55 (by decide)) (u8 56 (by decide)) (u8 57 (by decide)) (u8 58 (by decide))
      have x3 : FrX M (up2 M3 18 0 (M3 18 0 + 1)) := (((FrX.of17 m5).tr (FrX.ofC t4)).tr (FrX.of18 u6)).tr (FrX.of18 fun k hk => up2_ne _ _ _ hk)
      have y3 : FrY N N3 := (FrY.ofR t5).tr ⟨fun k p _ => u8 k (by omega), fun j _ _ _ _ _ _ p q => u9 j p q, by rw [u9 17 (by decide) (by decide), u9 6 (by decide) (by decide)]⟩
      have n3 : ∀ j, j ≠ 5 → j ≠ 6 → j ≠ 7 → j ≠ 17 → j ≠ 22 → j ≠ 23 → N3 53 j = N 53 j := fun j p q r s t u => (u9 j t u).trans (d53 j p q r s)
      have m30 : M3 18 0 = nI a := by rw [u7 0 (by decide) (by decide), c18, h0]
      obtain ⟨M', N', z1, z2, z3, z4, z5, z6, z7⟩ := follow_lock hn hA L v' (a + 1) k k' (up2 M3 18 0 (M3 18 0 + 1)) N3 (by omega) (by omega) (by omega) ((congrFun (x3 15 (by omega) (by decide) (by decide)) 1).trans hp) (by rw [x3 16 (by omega) (by decide) (by decide)]; exact hrun) ((n3 16 (by decide) (by decide) (by decide) (by decide) (by decide) (by decide)).trans h16) (Hold_congr (y3.1 62 (by omega) (by decide)) (y3.1 63 (by omega) (by decide)) (y3.1 64 (by omega) (by decide)) L (a + 1) hH) hR3 (by rw [up2_self, m30, n_s]) ⟨by rw [up2_at, if_neg (by decide), u7 1 (by decide) (by decide), c18, n3 20 (by decide) (by decide) (by decide) (by decide) (by decide) (by decide)]; exact hT.1, by rw [up2_at, if_neg (by decide), u7 2 (by decide) (by decide), c18, n3 21 (by decide) (by decide) (by decide) (by decide) (by decide) (by decide)]; exact hT.2.1, u3, u4⟩ (by rw [n3 20 (by decide) (by decide) (by decide) (by decide) (by decide) (by decide)]; exact h20) (by rw [n3 21 (by decide) (by decide) (by decide) (by decide) (by decide) (by decide)]; exact h21) u5
      refine ⟨M', N', ?_, ?_, x3.tr z3, y3.tr z4, z5, z6, z7⟩
      · rw [if_pos (show nI 0 = 0 from rfl), t1, Option.bind_some, clear8, Option.bind_some, u1, Option.bind_some, ← z1]
        have : (up2 M3 18 0 (M3 18 0 + 1)) 9 = M2 9 := u6 9 (by decide)
        rw [this]
      · rw [if_pos (show nI 0 ≤ 0 by decide)]
        unfold lb_X10_goWeeks_80
        rw [if_pos (show nI 0 ≤ 0 by decide)]
        unfold lb_X10_goWeeks_94
        rw [if_pos (show nI 0 = 0 from rfl), up2_id h20, up2_id h21]
        unfold f_X10_goOne
        rw [clear10, Option.bind_some, inb_nI a60 (by decide), ix_nI (by omega), g1, g2, g3, t2, Option.bind_some, clear10, Option.bind_some, ← clr_congr e9, ← clr_congr e9', u2, n_s]
        exact z2
    · have hz : ¬ nI r = 0 := nI_is (c := 0) (by omega) (by omega) hr0
      have hz2 : ¬ nI r ≤ 0 := nI_nle (by omega) (by omega)
      refine ⟨up2 (up2 M1 18 1 (nI a)) 18 2 (nI r), up2 (up2 N 53 20 (nI a)) 53 21 (nI r), ?_, ?_, ?_, ?_, ?_, ?_, Or.inr ⟨a, a60, rfl⟩⟩
      · rw [if_neg hz]
      · rw [if_neg hz2]
        unfold lb_X10_goWeeks_80
        rw [if_neg hz2]
        unfold lb_X10_goWeeks_94
        rw [if_neg hz]
        obtain ⟨k', rfl⟩ : ∃ q, k' = q + 1 := ⟨k' - 1, by omega⟩
        show bd_X10_goWeeks_31 _ _ _ = _
        unfold bd_X10_goWeeks_31
        rw [if_pos (show (0 : Int32) ≤ up2 (up2 N 53 20 (nI a)) 53 21 (nI r) 53 20 from nI_le (a := 0) (by omega) (by omega)), ite_self]
      · exact (FrX.of17 m5).tr (FrX.of18 fun k hk => by rw [up2_ne _ _ _ hk, up2_ne _ _ _ hk])
      · exact ⟨fun k p _ => by rw [up2_ne _ _ _ (by omega), up2_ne _ _ _ (by omega)], fun j _ _ _ _ p q _ _ => by rw [up2_at, if_neg q, up2_at, if_neg p], rfl⟩
      · exact Rel_keep hR1 rfl rfl rfl rfl rfl rfl rfl rfl rfl rfl rfl rfl rfl rfl
      · have c18 : M1 18 = M 18 := m5 18 (by decide)
        exact ⟨rfl, rfl, (congrFun c18 3).trans hT.2.2.1, (congrFun c18 4).trans hT.2.2.2⟩
