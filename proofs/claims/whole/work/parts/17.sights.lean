theorem m1_ne {n : Nat} (h : n < 2 ^ 31) : ¬ nI n = -1 := by
  intro q
  have h1 : (nI n).toInt = (-1 : Int32).toInt := by rw [q]
  rw [nI_toInt h] at h1
  have h2 : (-1 : Int32).toInt = -1 := rfl
  omega
theorem m2_ne {n : Nat} (h : n < 2 ^ 31) : ¬ (-2 : Int32) = nI n := by
  intro q
  have h1 : (nI n).toInt = (-2 : Int32).toInt := by rw [← q]
  rw [nI_toInt h] at h1
  have h2 : (-2 : Int32).toInt = -2 := rfl
  omega
theorem m6_ne {n : Nat} (h : n < 2 ^ 31) : ¬ nI n = -6 := by
  intro q
  have h1 : (nI n).toInt = (-6 : Int32).toInt := by rw [q]
  rw [nI_toInt h] at h1
  have h2 : (-6 : Int32).toInt = -6 := rfl
  omega
theorem maxI_toInt (a b : Int32) : (maxI a b).toInt = max a.toInt b.toInt := by
  unfold maxI
  by_cases h : a < b
  · rw [if_pos h]
    rw [lt_toI] at h
    omega
  · rw [if_neg h]
    rw [lt_toI] at h
    omega
theorem Sg_add {seen w v : Nat → Int32} {cnt last n : Int32} {k a b : Nat} (hk : k < 8) (ha : a ≤ 40) (hb : b ≤ 99) (hc : cnt = nI k) (H : Sg seen cnt last w v n) {s' : Int32} (hs : (seen a = -1 ∨ seen a = nI b) ∧ s' = nI b ∨ ¬ (seen a = -1 ∨ seen a = nI b) ∧ s' = -2) :
    Sg (upd seen a s') (nI (k + 1)) (maxI last (nI a)) (upd w k (nI a)) (upd v k (nI b)) (nI (k + 1)) := by
  obtain ⟨k', h1, h2, h3, h4, h5, h6, h7, h8⟩ := H
  have ek : k' = k := by
    rw [hc] at h2
    exact ((nI_eq (by omega) (by omega)).mp h2).symm
  subst ek
  have ta : (nI a).toInt = (a : Int) := nI_toInt (by omega)
  refine ⟨k' + 1, by omega, rfl, rfl, fun e he => ?_, fun j x hj hx => ?_, fun j hj hl => ?_, ?_, ?_⟩
  · unfold upd
    by_cases q : e = k'
    · rw [if_pos q, if_pos q]
      exact ⟨⟨a, ha, rfl⟩, ⟨b, hb, rfl⟩⟩
    · rw [if_neg q, if_neg q]
      exact h4 e (by omega)
  · by_cases q : j = a
    · subst q
      have e1 : upd seen j s' j = s' := if_pos rfl
      rw [e1]
      have rhs : (∀ e, e < k' + 1 → upd w k' (nI j) e = nI j → upd v k' (nI b) e = nI x) ↔ ((seen j = -1 ∨ seen j = nI x) ∧ nI b = nI x) := by
        rw [h5 j x hj hx]
        constructor
        · intro h
          refine ⟨fun e he hw => ?_, ?_⟩
          · have := h e (by omega)
            unfold upd at this
            rw [if_neg (by omega), if_neg (by omega)] at this
            exact this hw
          · have := h k' (by omega)
            unfold upd at this
            rw [if_pos rfl, if_pos rfl] at this
            exact this rfl
        · rintro ⟨h, hbx⟩ e he
          unfold upd
          by_cases q : e = k'
          · rw [if_pos q, if_pos q]
            exact fun _ => hbx
          · rw [if_neg q, if_neg q]
            exact h e (by omega)
      rw [rhs]
      rcases hs with ⟨p1, p2⟩ | ⟨p1, p2⟩
      · rw [p2]
        constructor
        · rintro (h | h)
          · exact absurd h (m1_ne (by omega))
          · exact ⟨by rw [← h]; exact p1, h⟩
        · rintro ⟨_, h⟩
          exact Or.inr h
      · rw [p2]
        constructor
        · rintro (h | h)
          · exact absurd h (by decide)
          · exact absurd h (m2_ne (by omega))
        · rintro ⟨h, hbx⟩
          exact absurd (by rw [hbx]; exact h) p1
    · have e1 : upd seen a s' j = seen j := if_neg q
      rw [e1, h5 j x hj hx]
      constructor
      · intro h e he
        unfold upd
        by_cases q2 : e = k'
        · rw [if_pos q2, if_pos q2]
          intro h9
          exact absurd ((nI_eq (by omega) (by omega)).mp h9).symm q
        · rw [if_neg q2, if_neg q2]
          exact h e (by omega)
      · intro h e he hw
        have := h e (by omega)
        unfold upd at this
        rw [if_neg (by omega), if_neg (by omega)] at this
        exact this hw
  · rw [maxI_toInt, ta] at hl
    have q : ¬ j = a := by omega
    have e1 : upd seen a s' j = seen j := if_neg q
    rw [e1]
    exact h6 j hj (by omega)
  · rw [maxI_toInt]; omega
  · rw [maxI_toInt, ta]; omega
theorem m_gnawed {M : Mem} (h : Inv M) (v1 v2 : Int32) : Alike M (f_X9_gnawed v1 v2) (f_X10_gnawed v1 v2) := by
  have e1 : f_X10_in v1.toInt64 0 40 = f_X9_within v1 0 40 := inw rfl rfl
  have e2 : f_X10_in v2.toInt64 0 99 = f_X9_within v2 0 99 := inw rfl rfl
  rcases within_or v1 40 (by decide) with h1 | ⟨a, ha, r1, h1⟩
  · refine same_refused h (r := -2) ?_ ?_
    · unfold f_X9_gnawed; rw [if_pos h1]
    · unfold f_X10_gnawed; rw [if_pos (e1.trans h1)]
  have h1' : ¬ f_X9_within v1 0 40 = 0 := by rw [h1]; decide
  rcases within_or v2 99 (by decide) with h2 | ⟨b, hb, r2, h2⟩
  · refine same_refused h (r := -2) ?_ ?_
    · unfold f_X9_gnawed; rw [if_neg h1', if_pos h2]
    · unfold f_X10_gnawed; rw [e1, if_neg h1', if_pos (e2.trans h2)]
  have h2' : ¬ f_X9_within v2 0 99 = 0 := by rw [h2]; decide
  obtain ⟨k, s1, s2, s3, s4⟩ := id h.2.2.1
  by_cases hk : k = 8
  · subst hk
    refine same_refused h (r := -4) ?_ ?_
    · unfold f_X9_gnawed f_X6_add_19
      rw [if_neg h1', if_neg h2', s2, if_pos (by decide)]
      rfl
    · unfold f_X10_gnawed
      rw [e1, e2, if_neg h1', if_neg h2', s3, if_pos (by decide)]
  · have hlt : k < 8 := by omega
    have hi : inb (nI k) 8 = true := inb_nI hlt (by decide)
    have hx : ix (nI k) = k := ix_nI (by omega)
    have hia : inb (nI a) 41 = true := inb_nI (by omega) (by decide)
    have hxa : ix (nI a) = a := ix_nI (by omega)
    have key : ∃ s', ((M 20 a = -1 ∨ M 20 a = nI b) ∧ s' = nI b ∨ ¬ (M 20 a = -1 ∨ M 20 a = nI b) ∧ s' = -2) ∧ f_X6_add_19 v1 v2 M = some (1, up2 (up2 (up2 M 20 a s') 19 2 (maxI (M 19 2) (nI a))) 19 1 (nI (k + 1))) := by
      unfold f_X6_add_19 lb_X6_add_19_52
      rw [s2, if_neg (show ¬ (8 : Int32) ≤ nI k from nI_ge (b := 8) hlt (by omega)), if_neg h1', r1, r2, hia, hxa, n_s]
      by_cases q1 : M 20 a = -1
      · exact ⟨nI b, Or.inl ⟨Or.inl q1, rfl⟩, by rw [if_pos q1]; rfl⟩
      · by_cases q2 : M 20 a = nI b
        · exact ⟨nI b, Or.inl ⟨Or.inr q2, rfl⟩, by rw [if_neg q1, if_pos q2]; rfl⟩
        · exact ⟨-2, Or.inr ⟨fun q => q.elim q1 q2, rfl⟩, by rw [if_neg q1, if_neg q2]; rfl⟩
    obtain ⟨s', hs', hadd⟩ := key
    refine ⟨nI (k + 1), up2 (up2 (up2 M 20 a s') 19 2 (maxI (M 19 2) (nI a))) 19 1 (nI (k + 1)), up2 (up2 (up2 (up2 (up2 (up2 M 20 a s') 19 2 (maxI (M 19 2) (nI a))) 19 1 (nI (k + 1))) 59 k (nI a)) 60 k (nI b)) 53 10 (nI (k + 1)), ?_, ?_, ?_⟩
    · unfold f_X9_gnawed
      rw [if_neg h1', if_neg h2', hadd]
      rfl
    · unfold f_X10_gnawed
      rw [e1, e2, if_neg h1', if_neg h2']
      have q : (up2 (up2 (up2 M 20 a s') 19 2 (maxI (M 19 2) (nI a))) 19 1 (nI (k + 1))) 53 10 = nI k := s3
      rw [q, if_neg (show ¬ nI k = 8 from fun h => hk ((nI_eq (by omega) (by decide)).mp h)), hi, hx, n_s, r1, r2]
      rfl
    · obtain ⟨hn, hp, hs, i0, i1, hh⟩ := h
      refine ⟨hn, hp, ?_, Im_eq rfl rfl rfl rfl rfl rfl rfl rfl rfl rfl rfl i0, Im_eq rfl rfl rfl rfl rfl rfl rfl rfl rfl rfl rfl i1, hh⟩
      exact Sg_add hlt ha hb s2 hs hs'
theorem fill20 (v : Int32) : ∀ m i n M, i + m = 41 → m < n → ∃ M' : Mem, lp_J7_fill_53178_20_5 n v (nI i) (nI 41) M = some M' ∧ (∀ k, k ≠ 20 → M' k = M k) ∧ ∀ j, M' 20 j = if i ≤ j ∧ j < 41 then v else M 20 j
  | 0, i, n, M, hi, hn => by
    obtain ⟨n, rfl⟩ : ∃ n', n = n' + 1 := ⟨n - 1, by omega⟩
    refine ⟨M, ?_, fun _ _ => rfl, fun j => by rw [if_neg (by omega)]⟩
    show bd_J7_fill_53178_20_5 _ _ _ _ _ = _
    unfold bd_J7_fill_53178_20_5
    rw [if_pos (nI_le (by omega) (by omega))]
  | m + 1, i, n, M, hi, hn => by
    obtain ⟨n, rfl⟩ : ∃ n', n = n' + 1 := ⟨n - 1, by omega⟩
    obtain ⟨M', h1, h2, h3⟩ := fill20 v m (i + 1) n (up2 M 20 i v) (by omega) (by omega)
    refine ⟨M', ?_, fun k hk => (h2 k hk).trans (up2_ne M i v hk), fun j => ?_⟩
    · show bd_J7_fill_53178_20_5 _ _ _ _ _ = _
      unfold bd_J7_fill_53178_20_5
      rw [if_neg (nI_ge (by omega) (by omega)), inb_nI (show i < 41 by omega) (by decide), ix_nI (by omega), n_s]
      exact h1
    · rw [h3 j, up2_at]
      by_cases q : j = i
      · rw [if_neg (by omega), if_pos q, if_pos (by omega)]
      · rw [if_neg q]
        by_cases q2 : i + 1 ≤ j ∧ j < 41
        · rw [if_pos q2, if_pos (by omega)]
        · rw [if_neg q2, if_neg (by omega)]
theorem m_forget {M : Mem} (h : Inv M) : Alike M f_X9_forget f_X10_forget := by
  obtain ⟨k, s1, s2, s3, s4⟩ := id h.2.2.1
  obtain ⟨M', f1, f2, f3⟩ := fill20 (-1) 41 0 FU M (by omega) (FU_lt (by omega))
  have fr : ∀ k, k ≠ 20 → k ≠ 19 → k ≠ 53 → up2 (up2 (up2 M' 19 1 0) 19 2 (-1)) 53 10 0 k = M k := by
    intro k a b c
    rw [up2_ne _ _ _ c, up2_ne _ _ _ b, up2_ne _ _ _ b, f2 k a]
  refine ⟨M 19 1, up2 (up2 M' 19 1 0) 19 2 (-1), up2 (up2 (up2 M' 19 1 0) 19 2 (-1)) 53 10 0, ?_, ?_, ?_⟩
  · unfold f_X9_forget f_X6_clear_19 f_J7_fill_53178_20
    have : lp_J7_fill_53178_20_5 FU (-1) 0 41 M = some M' := f1
    rw [this]
    rfl
  · unfold f_X10_forget
    have q : up2 (up2 M' 19 1 0) 19 2 (-1) 53 10 = M 53 10 := congrFun (f2 53 (by decide)) 10
    rw [q, s3, ← s2]
  · obtain ⟨hn, hp, hs, i0, i1, hh⟩ := h
    have e53 : M' 53 = M 53 := f2 53 (by decide)
    have c53 : ∀ j, j ≠ 10 → up2 (up2 (up2 M' 19 1 0) 19 2 (-1)) 53 10 0 53 j = M 53 j := by
      intro j hj
      rw [up2_at, if_neg hj, up2_ne _ _ _ (by decide), up2_ne _ _ _ (by decide), e53]
    refine ⟨?_, ?_, ?_, ?_, ?_, ?_⟩
    · unfold Now at hn ⊢
      rw [fr 1 (by decide) (by decide) (by decide), fr 2 (by decide) (by decide) (by decide), fr 3 (by decide) (by decide) (by decide), fr 4 (by decide) (by decide) (by decide), fr 5 (by decide) (by decide) (by decide), fr 6 (by decide) (by decide) (by decide), fr 54 (by decide) (by decide) (by decide), fr 55 (by decide) (by decide) (by decide), fr 56 (by decide) (by decide) (by decide), fr 57 (by decide) (by decide) (by decide), fr 58 (by decide) (by decide) (by decide), c53 5 (by decide), c53 6 (by decide), c53 7 (by decide)]
      exact hn
    · unfold Pd at hp ⊢
      rw [fr 15 (by decide) (by decide) (by decide), fr 16 (by decide) (by decide) (by decide), fr 61 (by decide) (by decide) (by decide), c53 12 (by decide)]
      exact hp
    · refine ⟨0, by omega, rfl, rfl, fun e he => by omega, fun j x hj hx => ?_, fun j hj _ => ?_, (show (-1 : Int) ≤ (-1 : Int32).toInt by decide), (show (-1 : Int32).toInt ≤ 40 by decide)⟩
      · constructor
        · intro _ e he; omega
        · intro _
          refine Or.inl ?_
          show M' 20 j = -1
          rw [f3 j, if_pos (by omega)]
      · show M' 20 j = -1
        rw [f3 j, if_pos (by omega)]
    · exact Im_eq (fr _ (by decide) (by decide) (by decide)) (fr _ (by decide) (by decide) (by decide)) (fr _ (by decide) (by decide) (by decide)) (fr _ (by decide) (by decide) (by decide)) (fr _ (by decide) (by decide) (by decide)) (fr _ (by decide) (by decide) (by decide)) (fr _ (by decide) (by decide) (by decide)) (fr _ (by decide) (by decide) (by decide)) (fr _ (by decide) (by decide) (by decide)) (fr _ (by decide) (by decide) (by decide)) (fr _ (by decide) (by decide) (by decide)) i0
    · exact Im_eq (fr _ (by decide) (by decide) (by decide)) (fr _ (by decide) (by decide) (by decide)) (fr _ (by decide) (by decide) (by decide)) (fr _ (by decide) (by decide) (by decide)) (fr _ (by decide) (by decide) (by decide)) (fr _ (by decide) (by decide) (by decide)) (fr _ (by decide) (by decide) (by decide)) (fr _ (by decide) (by decide) (by decide)) (fr _ (by decide) (by decide) (by decide)) (fr _ (by decide) (by decide) (by decide)) (fr _ (by decide) (by decide) (by decide)) i1
    · unfold Hr at hh ⊢
      rw [fr 26 (by decide) (by decide) (by decide), fr 27 (by decide) (by decide) (by decide)]
      exact hh
