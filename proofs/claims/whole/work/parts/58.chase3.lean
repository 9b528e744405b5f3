theorem hunt_end {c d w : Int32} {t k : Nat} {M : Mem} (h : ¬ M 28 3 = -6 ∨ w = 0) : lp_X3_follow_28_6_77 (k + 1) c d w (nI t) M = some M := by
  show bd_X3_follow_28_6_77 _ _ _ _ _ _ = _
  unfold bd_X3_follow_28_6_77
  by_cases q1 : (64 : Int32) < nI t
  · rw [if_pos q1]
  rw [if_neg q1]
  by_cases q2 : M 28 3 = -6
  · rw [if_pos q2, if_pos (h.resolve_left fun z => z q2)]
  · rw [if_neg q2]
theorem hunt_l {nb : Nat → Nat → Bool} {c d : Nat} (hc : c < 8) (hd : d < 8) : ∀ m t k M, t + m = 64 → m < k → (∀ i, i < 8 → Bt (M 29 i) (nb i)) → (∀ i, i < 8 → Bt (M 30 i) (Lb nb t i)) → M 28 3 = -6 → Lb nb t c d = false → (∀ s, s < t → ∃ v, v < 64 ∧ ¬ Lb nb s (v / 8) (v % 8) = Lb nb (s + 1) (v / 8) (v % 8)) → ∃ M', lp_X3_follow_28_6_77 k (nI c) (nI d) 1 (nI (t + 1)) M = some M' ∧ Out nb c d (M' 28 3) (M' 28 4) ∧ ∀ q, q < 28 ∨ 31 < q → M' q = M q
  | 0, t, k, M, ht, hk, hN, hL, h3, hl, hs => by
    have := rounds_lt hs
    omega
  | m + 1, t, k, M, ht, hk, hN, hL, h3, hl, hs => by
    obtain ⟨k, rfl⟩ : ∃ q, k = q + 2 := ⟨k - 2, by omega⟩
    obtain ⟨M1, a1, a2, a3⟩ := shut_eq hN hL
    have f1 := first_eq (M := M1) hc hd (by rw [a2 29 (by decide)]; exact hN c hc) a3
    have hfirst := lst_neg (p := fun e => nb c e && Sb nb (Lb nb t) e d) 8 0 (by omega)
    have st : lp_X3_follow_28_6_77 (k + 2) (nI c) (nI d) 1 (nI (t + 1)) M = (if lst (fun e => nb c e && Sb nb (Lb nb t) e d) 0 8 = (-6 : Int32) then (lb_X3_follow_28_6_127 (lp_X3_follow_28_6_77 (k + 1)) (nI c) (nI d) (nI (t + 1)) (up2 M1 28 4 (lst (fun e => nb c e && Sb nb (Lb nb t) e d) 0 8))) else (lb_X3_follow_28_6_127 (lp_X3_follow_28_6_77 (k + 1)) (nI c) (nI d) (nI (t + 1)) (up2 (up2 M1 28 4 (lst (fun e => nb c e && Sb nb (Lb nb t) e d) 0 8)) 28 3 (nI (t + 1))))) := by
      show bd_X3_follow_28_6_77 _ _ _ _ _ _ = _
      unfold bd_X3_follow_28_6_77
      rw [if_neg (show ¬ (64 : Int32) < nI (t + 1) from nI_nlt (a := 64) (by omega) (by omega)), if_pos h3, if_neg (show ¬ (1 : Int32) = 0 by decide), a1]
      simp only [Option.bind_some]
      rw [f1]
      simp only [Option.bind_some]
    rw [st]
    generalize hF : lst (fun e => nb c e && Sb nb (Lb nb t) e d) 0 8 = F at hfirst ⊢
    have go : ∀ M2 : Mem, (∀ q, q ≠ 28 → M2 q = M1 q) → ∃ w M3, lb_X3_follow_28_6_127 (lp_X3_follow_28_6_77 (k + 1)) (nI c) (nI d) (nI (t + 1)) M2 = lp_X3_follow_28_6_77 (k + 1) (nI c) (nI d) w (nI (t + 2)) M3 ∧ (∀ q, q ≠ 30 → M3 q = M2 q) ∧ (∀ i, i < 8 → Bt (M3 30 i) (Lb nb (t + 1) i)) ∧ (w = 0 ∨ w = 1) ∧ (w = 0 ↔ ∀ i, i < 8 → ∀ d, d < 8 → Lb nb (t + 1) i d = Lb nb t i d) := fun M2 h2 => by
      obtain ⟨w, M3, b1, b2, b3, b4, b5⟩ := wide_eq (M := M2) (nb := nb) (t := t) (fun i hi => by rw [h2 29 (by decide), a2 29 (by decide)]; exact hN i hi) (fun i hi => by rw [h2 31 (by decide)]; exact a3 i hi) (fun i hi => by rw [h2 30 (by decide), a2 30 (by decide)]; exact hL i hi)
      refine ⟨w, M3, ?_, b2, b3, b4, b5⟩
      unfold lb_X3_follow_28_6_127
      rw [b1, Option.bind_some, n_s]
    rcases hfirst with ⟨g1, g2, g3⟩ | ⟨e, g1, g2, g3, g4⟩
    · rw [if_pos g1]
      obtain ⟨w, M3, b1, b2, b3, b4, b5⟩ := go (up2 M1 28 4 F) (fun q hq => up2_ne M1 4 F hq)
      have n3 : M3 28 3 = -6 := by rw [b2 28 (by decide), up2_at, if_neg (by decide), a2 28 (by decide)]; exact h3
      have n4 : M3 28 4 = -6 := by rw [b2 28 (by decide), up2_at, if_pos rfl]; exact g1
      have nl : Lb nb (t + 1) c d = false := by
        cases e : Lb nb (t + 1) c d with
        | false => rfl
        | true =>
          rcases Lb_succ.mp e with z | ⟨x, hx, y1, y2⟩
          · rw [hl] at z; cases z
          · have := g3 x (by omega) (by omega)
            rw [y1, y2] at this
            cases this
      have keep : ∀ q, q < 28 ∨ 31 < q → M3 q = M q := fun q hq => by
        rw [b2 q (by omega), up2_ne M1 4 F (by omega), a2 q (by omega)]
      rw [b1]
      rcases b4 with rfl | rfl
      · refine ⟨M3, hunt_end (Or.inr rfl), Or.inr ⟨?_, n3, n4⟩, keep⟩
        exact still_lost hc hd (b5.mp rfl) hl
      · obtain ⟨M4, c1, c2, c3⟩ := hunt_l hc hd m (t + 1) (k + 1) M3 (by omega) (by omega) (fun i hi => by rw [b2 29 (by decide), up2_ne M1 4 F (by decide), a2 29 (by decide)]; exact hN i hi) b3 n3 nl (fun s hs1 => by
          by_cases z : s = t
          · subst z; exact changed fun y => absurd (b5.mpr y) (by decide)
          · exact hs s (by omega))
        exact ⟨M4, c1, c2, fun q hq => (c3 q hq).trans (keep q hq)⟩
    · have ne6 : ¬ F = -6 := by
        rw [g4]
        intro z
        have := congrArg Int32.toInt z
        rw [nI_toInt (by omega)] at this
        have h6 : (-6 : Int32).toInt = -6 := rfl
        omega
      rw [if_neg ne6]
      obtain ⟨w, M3, b1, b2, b3, b4, b5⟩ := go (up2 (up2 M1 28 4 F) 28 3 (nI (t + 1))) (fun q hq => by rw [up2_ne _ 3 _ hq, up2_ne M1 4 F hq])
      have n3 : M3 28 3 = nI (t + 1) := by rw [b2 28 (by decide), up2_at, if_pos rfl]
      have n4 : M3 28 4 = F := by rw [b2 28 (by decide), up2_at, if_neg (by decide), up2_at, if_pos rfl]
      have nl : Lb nb (t + 1) c d = true := by
        rw [Bool.and_eq_true] at g3
        exact Lb_succ.mpr (Or.inr ⟨e, by omega, g3.1, g3.2⟩)
      rw [b1]
      refine ⟨M3, hunt_end (Or.inl ?_), Or.inl ⟨t + 1, nl, fun r hr => lost_below hl (by omega), n3, ?_⟩, fun q hq => ?_⟩
      · rw [n3]
        intro z
        have := congrArg Int32.toInt z
        rw [nI_toInt (by omega)] at this
        have h6 : (-6 : Int32).toInt = -6 := rfl
        omega
      · rw [n4, if_neg (by omega), ← hF]
        rfl
      · rw [b2 q (by omega), up2_ne _ 3 _ (by omega), up2_ne M1 4 F (by omega), a2 q (by omega)]
theorem near_l {hb : Nat → Nat → Bool} {v2 v3 : Int32} : ∀ m i k M, i + m = 8 → m < k → (∀ j, j < 8 → Bt (M 6 j) (hb j)) → (∀ j, j < i → Bt (M 29 j) (fun e => hb j e || decide (e = j)) ∧ Bt (M 30 j) (fun e => decide (j = e))) → ∃ M', lp_X3_follow_28_6_24 k v2 v3 (nI i) M = lb_X3_follow_28_6_71 v2 v3 M' ∧ (∀ q, q ≠ 29 → q ≠ 30 → M' q = M q) ∧ ∀ j, j < 8 → Bt (M' 29 j) (fun e => hb j e || decide (e = j)) ∧ Bt (M' 30 j) (fun e => decide (j = e))
  | 0, i, k, M, hi, hk, h6, h => by
    obtain ⟨k, rfl⟩ : ∃ q, k = q + 1 := ⟨k - 1, by omega⟩
    have e8 : i = 8 := by omega
    subst e8
    refine ⟨M, ?_, fun _ _ _ => rfl, h⟩
    show bd_X3_follow_28_6_24 _ _ _ _ _ = _
    unfold bd_X3_follow_28_6_24
    rw [if_pos (by decide)]
  | m + 1, i, k, M, hi, hk, h6, h => by
    obtain ⟨k, rfl⟩ : ∃ q, k = q + 1 := ⟨k - 1, by omega⟩
    have st : lp_X3_follow_28_6_24 (k + 1) v2 v3 (nI i) M = lp_X3_follow_28_6_24 k v2 v3 (nI (i + 1)) (up2 (up2 M 29 i ((M 6 i) ||| ((1 : Int32) <<< (nI i &&& 31)))) 30 i ((1 : Int32) <<< (nI i &&& 31))) := by
      show bd_X3_follow_28_6_24 _ _ _ _ _ = _
      unfold bd_X3_follow_28_6_24
      have g : ¬ (8 : Int32) ≤ nI i := nI_ge (b := 8) (by omega) (by omega)
      rw [if_neg g, if_neg g, inb_nI (show i < 8 by omega) (by decide), ix_nI (show i < 2 ^ 31 by omega), n_s]
      simp only [if_true]
    obtain ⟨M', a, b, c⟩ := near_l (v2 := v2) (v3 := v3) m (i + 1) k (up2 (up2 M 29 i ((M 6 i) ||| ((1 : Int32) <<< (nI i &&& 31)))) 30 i ((1 : Int32) <<< (nI i &&& 31))) (by omega) (by omega) (fun j hj => by rw [up2_ne _ i _ (by decide), up2_ne _ i _ (by decide)]; exact h6 j hj) (fun j hj => by
      rw [up2_ne (k := 30) (q := 29) _ i _ (by decide), up2_at, up2_at, up2_ne (k := 29) (q := 30) _ i _ (by decide)]
      by_cases z : j = i
      · subst z
        rw [if_pos rfl, if_pos rfl]
        refine ⟨(h6 j (by omega)).or (Bt.one (by omega)), (Bt.one (by omega)).congr fun q _ => ?_⟩
        by_cases y : q = j
        · subst y; rfl
        · rw [decide_eq_false y, decide_eq_false fun x => y x.symm]
      · rw [if_neg z, if_neg z]
        exact h j (by omega))
    refine ⟨M', st.trans a, fun q h1 h2 => ?_, c⟩
    rw [b q h1 h2, up2_ne _ i _ h2, up2_ne _ i _ h1]
theorem follow_eq' {hb : Nat → Nat → Bool} {c d : Nat} (hc : c < 8) (hd : d < 8) {M : Mem} (h6 : ∀ j, j < 8 → Bt (M 6 j) (hb j)) : ∃ M', f_X3_follow_28_6 (nI c) (nI d) M = some M' ∧ Out (fun j e => hb j e || decide (e = j)) c d (M' 28 3) (M' 28 4) ∧ ∀ q, q < 28 ∨ 31 < q → M' q = M q := by
  have go : ∀ s0 : Int32, ∃ M', lb_X3_follow_28_6_12 (nI c) (nI d) s0 M = lp_X3_follow_28_6_77 FU (nI c) (nI d) 1 (nI (0 + 1)) M' ∧ (∀ q, q < 28 ∨ 31 < q → M' q = M q) ∧ M' 28 3 = s0 ∧ M' 28 4 = -6 ∧ ∀ j, j < 8 → Bt (M' 29 j) (fun e => hb j e || decide (e = j)) ∧ Bt (M' 30 j) (fun e => decide (j = e)) := fun s0 => by
    obtain ⟨M', a, b, e⟩ := near_l (v2 := nI c) (v3 := nI d) 8 0 FU (up2 (up2 M 28 3 s0) 28 4 (-6 : Int32)) (by omega) (FU_lt (by omega)) (fun j hj => by rw [up2_ne _ 4 _ (by decide), up2_ne _ 3 _ (by decide)]; exact h6 j hj) (fun j hj => by omega)
    refine ⟨M', a, fun q hq => ?_, ?_, ?_, e⟩
    · rw [b q (by omega) (by omega), up2_ne _ 4 _ (by omega), up2_ne _ 3 _ (by omega)]
    · rw [b 28 (by decide) (by decide), up2_at, if_neg (by decide), up2_at, if_pos rfl]
    · rw [b 28 (by decide) (by decide), up2_at, if_pos rfl]
  unfold f_X3_follow_28_6
  by_cases q : c = d
  · rw [if_pos (by rw [q])]
    obtain ⟨M', a, b, e1, e2, e3⟩ := go 0
    refine ⟨M', a.trans (hunt_end (t := 0 + 1) (k := 999) (Or.inl (by rw [e1]; decide))), Or.inl ⟨0, ?_, fun r hr => by omega, e1, e2⟩, b⟩
    exact decide_eq_true q
  · rw [if_neg (nI_is (by omega) (by omega) q)]
    obtain ⟨M', a, b, e1, e2, e3⟩ := go (-6)
    obtain ⟨M2, f1, f2, f3⟩ := hunt_l (nb := fun j e => hb j e || decide (e = j)) hc hd 64 0 FU M' (by omega) (FU_lt (by omega)) (fun i hi => (e3 i hi).1) (fun i hi => (e3 i hi).2) e1 (decide_eq_false q) (fun s hs => by omega)
    exact ⟨M2, a.trans f1, f2, fun q hq => (f3 q hq).trans (b q hq)⟩
