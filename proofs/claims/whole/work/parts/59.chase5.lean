theorem copy_l {M0 : Mem} {a : Bool} : ∀ m e k N, e + m = 64 → m < k → (∀ q, q ≠ 71 → N q = M0 q) → (∀ i, i < e → N 71 i = M0 72 i) → ∃ N', lp_X10_oneGoingMore_88 k (bI a) (nI e) N = some (bI a, N') ∧ (∀ q, q ≠ 71 → N' q = M0 q) ∧ ∀ i, i < 64 → N' 71 i = M0 72 i
  | 0, e, k, N, he, hk, h1, h2 => by
    obtain ⟨k, rfl⟩ : ∃ q, k = q + 1 := ⟨k - 1, by omega⟩
    have e8 : e = 64 := by omega
    subst e8
    refine ⟨N, ?_, h1, h2⟩
    show bd_X10_oneGoingMore_88 _ _ _ _ = _
    unfold bd_X10_oneGoingMore_88
    rw [if_pos (by decide), if_pos (by cases a <;> decide)]
  | m + 1, e, k, N, he, hk, h1, h2 => by
    obtain ⟨k, rfl⟩ : ∃ q, k = q + 1 := ⟨k - 1, by omega⟩
    have st : lp_X10_oneGoingMore_88 (k + 1) (bI a) (nI e) N = lp_X10_oneGoingMore_88 k (bI a) (nI (e + 1)) (up2 N 71 e (N 72 e)) := by
      show bd_X10_oneGoingMore_88 _ _ _ _ = _
      unfold bd_X10_oneGoingMore_88
      rw [if_neg (show ¬ (64 : Int32) ≤ nI e from nI_ge (b := 64) (by omega) (by omega)), inb_nI (show e < 64 by omega) (by decide), ix_nI (show e < 2 ^ 31 by omega), n_s]
      simp only [if_true]
    rw [st]
    refine copy_l m (e + 1) k _ (by omega) (by omega) (fun q hq => by rw [up2_ne N e _ hq]; exact h1 q hq) fun i hi => ?_
    rw [up2_at]
    by_cases z : i = e
    · subst z; rw [if_pos rfl, h1 72 (by decide)]
    · rw [if_neg z]; exact h2 i (by omega)
/-- a place, one round on -/
theorem Gt_next {nb : Nat → Nat → Bool} {t : Nat} {x : Int32} {c d : Nat} (ht : t ≤ 63) (h : Gt nb t x c d) : (0 ≤ x ∧ Lb nb t c d = true ∧ Gt nb (t + 1) x c d) ∨ (¬ 0 ≤ x ∧ Lb nb t c d = false ∧ (Lb nb (t + 1) c d = false → Gt nb (t + 1) x c d) ∧ (Lb nb (t + 1) c d = true → Gt nb (t + 1) (nI (t + 1)) c d)) := by
  rcases h with ⟨a, rfl⟩ | ⟨s, h1, h2, h3, rfl⟩
  · exact Or.inr ⟨by decide, a, fun z => Or.inl ⟨z, rfl⟩, fun z => Or.inr ⟨t + 1, Nat.le_refl _, z, fun r hr => lost_below a (by omega), rfl⟩⟩
  · refine Or.inl ⟨nI_pos' (by omega), ?_, Or.inr ⟨s, by omega, h2, h3, rfl⟩⟩
    have := Lb_mono (t - s) s h2
    rw [show s + (t - s) = t by omega] at this
    exact this
theorem going_lt {nb : Nat → Nat → Bool} {t c d : Nat} (h : Lb nb t c d = false) : lst (fun e => nb c e && Sb nb (Lb nb t) e d) 0 8 < 0 ↔ Lb nb (t + 1) c d = false := by
  rcases lst_neg (p := fun e => nb c e && Sb nb (Lb nb t) e d) 8 0 (by omega) with ⟨a, b, g⟩ | ⟨e, a, b, g, f⟩
  · refine ⟨fun _ => ?_, fun _ => b⟩
    cases z : Lb nb (t + 1) c d with
    | false => rfl
    | true =>
      rcases Lb_succ.mp z with y | ⟨x, hx, y1, y2⟩
      · rw [h] at y; cases y
      · have := g x (by omega) (by omega)
        rw [y1, y2] at this
        cases this
  · rw [f]
    refine ⟨fun z => absurd z (nI_pos (by omega)), fun z => ?_⟩
    rw [Bool.and_eq_true] at g
    rw [Lb_succ.mpr (Or.inr ⟨e, by omega, g.1, g.2⟩)] at z
    cases z
theorem more_l {hb : Nat → Nat → Bool} {M0 : Mem} (hH : ∀ j, j < 8 → Bt (M0 58 j) (hb j)) {t : Nat} (ht : t ≤ 63) (hG : GtAll (fun j e => hb j e || decide (e = j)) t M0) : ∀ m e k N a, e + m = 64 → m < k → (∀ q, q ≠ 72 → N q = M0 q) → (∀ i, i < e → Gt (fun j e => hb j e || decide (e = j)) (t + 1) (N 72 i) (i / 8) (i % 8)) → (a = false ↔ ∀ i, i < e → Lb (fun j e => hb j e || decide (e = j)) (t + 1) (i / 8) (i % 8) = Lb (fun j e => hb j e || decide (e = j)) t (i / 8) (i % 8)) → ∃ a' N', lp_X10_oneGoingMore_4 k (nI (t + 1)) (bI a) (nI e) N = some (bI a', N') ∧ (∀ q, q ≠ 71 → q ≠ 72 → N' q = M0 q) ∧ GtAll (fun j e => hb j e || decide (e = j)) (t + 1) N' ∧ (a' = false ↔ ∀ i, i < 64 → Lb (fun j e => hb j e || decide (e = j)) (t + 1) (i / 8) (i % 8) = Lb (fun j e => hb j e || decide (e = j)) t (i / 8) (i % 8))
  | 0, e, k, N, a, he, hk, h1, h2, h3 => by
    obtain ⟨k, rfl⟩ : ∃ q, k = q + 1 := ⟨k - 1, by omega⟩
    have e8 : e = 64 := by omega
    subst e8
    obtain ⟨N', b1, b2, b3⟩ := copy_l (M0 := N) (a := a) 64 0 FU N (by omega) (FU_lt (by omega)) (fun _ _ => rfl) (fun i hi => by omega)
    refine ⟨a, N', ?_, fun q hq hz => (b2 q hq).trans (h1 q hz), fun i hi => ?_, h3⟩
    · show bd_X10_oneGoingMore_4 _ _ _ _ _ = _
      unfold bd_X10_oneGoingMore_4
      rw [if_pos (by decide)]
      exact b1
    · rw [b3 i hi]; exact h2 i hi
  | m + 1, e, k, N, a, he, hk, h1, h2, h3 => by
    obtain ⟨k, rfl⟩ : ∃ q, k = q + 1 := ⟨k - 1, by omega⟩
    have hHN : ∀ j, j < 8 → Bt (N 58 j) (hb j) := fun j hj => by rw [h1 58 (by decide)]; exact hH j hj
    have hGN : GtAll (fun j e => hb j e || decide (e = j)) t N := fun i hi => by rw [h1 71 (by decide)]; exact hG i hi
    have su := going_eq hHN (show t ≤ 64 by omega) (Nat.le_refl t) (show e / 8 < 8 by omega) (show e % 8 < 8 by omega) hGN
    have nx := Gt_next ht (hGN e (by omega))
    have lt := going_lt (nb := fun j e => hb j e || decide (e = j)) (t := t) (c := e / 8) (d := e % 8)
    have fin : ∀ (s0 : Bool) (y : Int32), Gt (fun j e => hb j e || decide (e = j)) (t + 1) y (e / 8) (e % 8) → (s0 = false ↔ Lb (fun j e => hb j e || decide (e = j)) (t + 1) (e / 8) (e % 8) = Lb (fun j e => hb j e || decide (e = j)) t (e / 8) (e % 8)) → ∃ a' N', lb_X10_oneGoingMore_64 (lp_X10_oneGoingMore_4 k) (nI (t + 1)) (bI a) (nI e) (bI s0) y (nI e) N = some (bI a', N') ∧ (∀ q, q ≠ 71 → q ≠ 72 → N' q = M0 q) ∧ GtAll (fun j e => hb j e || decide (e = j)) (t + 1) N' ∧ (a' = false ↔ ∀ i, i < 64 → Lb (fun j e => hb j e || decide (e = j)) (t + 1) (i / 8) (i % 8) = Lb (fun j e => hb j e || decide (e = j)) t (i / 8) (i % 8)) := fun s0 y hy hs => by
      have st : lb_X10_oneGoingMore_64 (lp_X10_oneGoingMore_4 k) (nI (t + 1)) (bI a) (nI e) (bI s0) y (nI e) N = lp_X10_oneGoingMore_4 k (nI (t + 1)) (bI (a || s0)) (nI (e + 1)) (up2 N 72 e y) := by
        unfold lb_X10_oneGoingMore_64
        rw [inb_nI (show e < 64 by omega) (by decide), ix_nI (show e < 2 ^ 31 by omega), n_s]
        cases a <;> cases s0 <;> simp [bI]
      rw [st]
      refine more_l hH ht hG m (e + 1) k _ (a || s0) (by omega) (by omega) (fun q hq => by rw [up2_ne N e _ hq]; exact h1 q hq) (fun i hi => ?_) ?_
      · rw [up2_at]
        by_cases z : i = e
        · subst z; rw [if_pos rfl]; exact hy
        · rw [if_neg z]; exact h2 i (by omega)
      · rw [Bool.or_eq_false_iff, h3, hs]
        constructor
        · rintro ⟨z1, z2⟩ i hi
          by_cases z : i = e
          · subst z; exact z2
          · exact z1 i (by omega)
        · intro z
          exact ⟨fun i hi => z i (by omega), z e (by omega)⟩
    have st : lp_X10_oneGoingMore_4 (k + 1) (nI (t + 1)) (bI a) (nI e) N = (if 0 ≤ N 71 e then lb_X10_oneGoingMore_64 (lp_X10_oneGoingMore_4 k) (nI (t + 1)) (bI a) (nI e) (bI false) (N 71 e) (nI e) N else (if lst (fun x => (hb (e / 8) x || decide (x = e / 8)) && Sb (fun j e => hb j e || decide (e = j)) (Lb (fun j e => hb j e || decide (e = j)) t) x (e % 8)) 0 8 < 0 then lb_X10_oneGoingMore_64 (lp_X10_oneGoingMore_4 k) (nI (t + 1)) (bI a) (nI e) (bI false) (N 71 e) (nI e) N else lb_X10_oneGoingMore_64 (lp_X10_oneGoingMore_4 k) (nI (t + 1)) (bI a) (nI e) (bI true) (nI (t + 1)) (nI e) N)) := by
      show bd_X10_oneGoingMore_4 _ _ _ _ _ = _
      unfold bd_X10_oneGoingMore_4 lb_X10_oneGoingMore_41 lb_X10_oneGoingMore_42
      rw [if_neg (show ¬ (64 : Int32) ≤ nI e from nI_ge (b := 64) (by omega) (by omega)), inb_nI (show e < 64 by omega) (by decide), ix_nI (show e < 2 ^ 31 by omega), show nI e / (8 : Int32) = nI (e / 8) from div_nI (d := 8) (by omega) (by decide) (by decide), show remI (nI e) (8 : Int32) = nI (e % 8) from remI_nI (d := 8) (by omega) (by decide) (by decide), show nI (t + 1) - (1 : Int32) = nI t from nI_pred t, su]
      simp only [if_true, Option.bind_some]
      rfl
    rw [st]
    rcases nx with ⟨n1, n2, n3⟩ | ⟨n1, n2, n3, n4⟩
    · rw [if_pos n1]
      refine fin false _ n3 ⟨fun _ => ?_, fun _ => rfl⟩
      rw [n2, Lb_succ.mpr (Or.inl n2)]
    · rw [if_neg n1]
      by_cases q : lst (fun x => (hb (e / 8) x || decide (x = e / 8)) && Sb (fun j e => hb j e || decide (e = j)) (Lb (fun j e => hb j e || decide (e = j)) t) x (e % 8)) 0 8 < 0
      · rw [if_pos q]
        have z := (lt n2).mp q
        exact fin false _ (n3 z) ⟨fun _ => by rw [n2, z], fun _ => rfl⟩
      · rw [if_neg q]
        have z : Lb (fun j e => hb j e || decide (e = j)) (t + 1) (e / 8) (e % 8) = true := by
          cases y : Lb (fun j e => hb j e || decide (e = j)) (t + 1) (e / 8) (e % 8) with
          | true => rfl
          | false => exact absurd ((lt n2).mpr y) q
        exact fin true _ (n4 z) ⟨fun y => (by cases y), fun y => (by rw [n2, z] at y; cases y)⟩
theorem ref_l {hb : Nat → Nat → Bool} {c d : Nat} (hc : c < 8) (hd : d < 8) (v3 : Int32) : ∀ m t k M, t + m = 64 → m < k → (∀ j, j < 8 → Bt (M 58 j) (hb j)) → GtAll (fun j e => hb j e || decide (e = j)) t M → (∀ s, s < t → ∃ v, v < 64 ∧ ¬ Lb (fun j e => hb j e || decide (e = j)) s (v / 8) (v % 8) = Lb (fun j e => hb j e || decide (e = j)) (s + 1) (v / 8) (v % 8)) → ∃ g f M', lp_X10_chase_77 k (nI c) (nI d) v3 1 (nI (t + 1)) M = some (if v3 = 0 then g else f, M') ∧ Out (fun j e => hb j e || decide (e = j)) c d g f ∧ ∀ q, q ≠ 71 → q ≠ 72 → M' q = M q
  | 0, t, k, M, ht, hk, hH, hG, hs => by
    have := rounds_lt hs
    omega
  | m + 1, t, k, M, ht, hk, hH, hG, hs => by
    obtain ⟨k, rfl⟩ : ∃ q, k = q + 2 := ⟨k - 2, by omega⟩
    obtain ⟨a, N, b1, b2, b3, b4⟩ := more_l hH (show t ≤ 63 by omega) hG 64 0 FU M false (by omega) (FU_lt (by omega)) (fun _ _ => rfl) (fun i hi => by omega) ⟨fun _ i hi => by omega, fun _ => rfl⟩
    have st : lp_X10_chase_77 (k + 2) (nI c) (nI d) v3 1 (nI (t + 1)) M = lp_X10_chase_77 (k + 1) (nI c) (nI d) v3 (bI a) (nI (t + 2)) N := by
      show bd_X10_chase_77 _ _ _ _ _ _ _ = _
      unfold bd_X10_chase_77
      rw [if_neg (show ¬ (1 : Int32) = 0 by decide), show f_X10_oneGoingMore (nI (t + 1)) M = some (bI a, N) from b1, Option.bind_some, n_s]
    have hHN : ∀ j, j < 8 → Bt (N 58 j) (hb j) := fun j hj => by rw [b2 58 (by decide) (by decide)]; exact hH j hj
    rw [st]
    cases a with
    | true =>
      obtain ⟨g, f, M', e1, e2, e3⟩ := ref_l hc hd v3 m (t + 1) (k + 1) N (by omega) (by omega) hHN b3 (fun s hs1 => by
        by_cases z : s = t
        · subst z
          apply changed
          intro y
          have := b4.mpr fun i hi => y (i / 8) (by omega) (i % 8) (by omega)
          cases this
        · exact hs s (by omega))
      exact ⟨g, f, M', e1, e2, fun q h1 h2 => (e3 q h1 h2).trans (b2 q h1 h2)⟩
    | false =>
      have same := b4.mp rfl
      have same2 : ∀ i, i < 8 → ∀ d, d < 8 → Lb (fun j e => hb j e || decide (e = j)) (t + 1) i d = Lb (fun j e => hb j e || decide (e = j)) t i d := fun i hi d hd => by
        have := same (8 * i + d) (by omega)
        rw [show (8 * i + d) / 8 = i by omega, show (8 * i + d) % 8 = d by omega] at this
        exact this
      have g := b3 (8 * c + d) (by omega)
      rw [show (8 * c + d) / 8 = c by omega, show (8 * c + d) % 8 = d by omega] at g
      have ix8 : (8 : Int32) * nI c + nI d = nI (8 * c + d) := by rw [show (8 : Int32) * nI c = nI (8 * c) from mul_nI 8 _, nI_add]
      have st3 : lp_X10_chase_77 (k + 1) (nI c) (nI d) v3 (bI false) (nI (t + 2)) N = (if v3 = 0 then some (N 71 (8 * c + d), N) else (if (1 : Int32) ≤ N 71 (8 * c + d) then (f_X10_sureGoing (nI c) (nI d) (N 71 (8 * c + d) - 1) N).bind fun r9 => some (r9, N) else some (-6, N))) := by
        show bd_X10_chase_77 _ _ _ _ _ _ _ = _
        unfold bd_X10_chase_77
        rw [if_pos (show bI false = 0 from rfl), ix8, inb_nI (show 8 * c + d < 64 by omega) (by decide), ix_nI (show 8 * c + d < 2 ^ 31 by omega)]
        simp only [if_true]
      rw [st3]
      rcases g with ⟨z, e⟩ | ⟨s, h1, h2, h3, e⟩
      · refine ⟨-6, -6, N, ?_, Or.inr ⟨?_, rfl, rfl⟩, b2⟩
        · rw [e, if_neg (show ¬ (1 : Int32) ≤ -6 by decide)]
          by_cases y : v3 = 0
          · rw [if_pos y, if_pos y]
          · rw [if_neg y, if_neg y]
        · rw [same2 c hc d hd] at z
          exact still_lost hc hd same2 z
      · refine ⟨nI s, if s = 0 then -6 else lst (fun e => (hb c e || decide (e = c)) && Sb (fun j e => hb j e || decide (e = j)) (Lb (fun j e => hb j e || decide (e = j)) (s - 1)) e d) 0 8, N, ?_, Or.inl ⟨s, h2, h3, rfl, rfl⟩, b2⟩
        rw [e]
        by_cases y : v3 = 0
        · rw [if_pos y, if_pos y]
        · rw [if_neg y, if_neg y]
          cases s with
          | zero => rw [if_neg (show ¬ (1 : Int32) ≤ nI 0 by decide), if_pos rfl]
          | succ s =>
            rw [if_pos (show (1 : Int32) ≤ nI (s + 1) from nI_le (a := 1) (by omega) (by omega)), show nI (s + 1) - (1 : Int32) = nI s from nI_pred s, going_eq hHN (show t + 1 ≤ 64 by omega) (show s ≤ t + 1 by omega) hc hd b3, Option.bind_some, if_neg (by omega)]
            rfl
theorem zero_l {v1 v2 v3 : Int32} {nb : Nat → Nat → Bool} : ∀ m e k M, e + m = 64 → m < k → (∀ i, i < e → Gt nb 0 (M 71 i) (i / 8) (i % 8)) → ∃ M', lp_X10_chase_32 k v1 v2 v3 (nI e) M = lp_X10_chase_77 FU v1 v2 v3 1 (nI (0 + 1)) M' ∧ (∀ q, q ≠ 71 → M' q = M q) ∧ GtAll nb 0 M'
  | 0, e, k, M, he, hk, h => by
    obtain ⟨k, rfl⟩ : ∃ q, k = q + 1 := ⟨k - 1, by omega⟩
    have e8 : e = 64 := by omega
    subst e8
    refine ⟨M, ?_, fun _ _ => rfl, h⟩
    show bd_X10_chase_32 _ _ _ _ _ _ = _
    unfold bd_X10_chase_32
    rw [if_pos (by decide)]
    rfl
  | m + 1, e, k, M, he, hk, h => by
    obtain ⟨k, rfl⟩ : ∃ q, k = q + 1 := ⟨k - 1, by omega⟩
    have st : lp_X10_chase_32 (k + 1) v1 v2 v3 (nI e) M = lp_X10_chase_32 k v1 v2 v3 (nI (e + 1)) (up2 M 71 e (if e / 8 = e % 8 then 0 else -6)) := by
      show bd_X10_chase_32 _ _ _ _ _ _ = _
      unfold bd_X10_chase_32
      rw [if_neg (show ¬ (64 : Int32) ≤ nI e from nI_ge (b := 64) (by omega) (by omega)), inb_nI (show e < 64 by omega) (by decide), ix_nI (show e < 2 ^ 31 by omega), show nI e / (8 : Int32) = nI (e / 8) from div_nI (d := 8) (by omega) (by decide) (by decide), show remI (nI e) (8 : Int32) = nI (e % 8) from remI_nI (d := 8) (by omega) (by decide) (by decide), n_s]
      by_cases q : e / 8 = e % 8
      · rw [if_pos (by rw [q]), if_pos q]; rfl
      · rw [if_neg (nI_is (by omega) (by omega) q), if_neg q]; rfl
    obtain ⟨M', a, b, c⟩ := zero_l (v1 := v1) (v2 := v2) (v3 := v3) (nb := nb) m (e + 1) k (up2 M 71 e (if e / 8 = e % 8 then 0 else -6)) (by omega) (by omega) (fun i hi => by
      rw [up2_at]
      by_cases z : i = e
      · subst z
        rw [if_pos rfl]
        by_cases q : i / 8 = i % 8
        · rw [if_pos q]
          exact Or.inr ⟨0, Nat.le_refl _, decide_eq_true q, fun r hr => by omega, rfl⟩
        · rw [if_neg q]
          exact Or.inl ⟨decide_eq_false q, rfl⟩
      · rw [if_neg z]; exact h i (by omega))
    exact ⟨M', st.trans a, fun q hq => (b q hq).trans (up2_ne M e _ hq), c⟩
theorem m_chase {M : Mem} (h : Inv M) (v1 v2 v3 : Int32) : Alike M (f_X9_chase v1 v2 v3) (f_X10_chase v1 v2 v3) := by
  have e3 : f_X10_in v3.toInt64 0 1 = f_X9_within v3 0 1 := in_within v3 0 1
  unfold Alike f_X9_chase f_X10_chase
  simp only [e3]
  rcases house_or v1 with ⟨a1, b1⟩ | ⟨c, hc, rfl, a1, b1⟩
  · exact ⟨-1, M, M, if_pos a1, if_pos b1, h⟩
  rcases house_or v2 with ⟨a2, b2⟩ | ⟨d, hd, rfl, a2, b2⟩
  · exact ⟨-1, M, M, by rw [if_neg (by rw [a1]; decide), if_pos a2], by rw [if_neg (by rw [b1]; decide), if_pos b2], h⟩
  have n1 : ¬ f_X9_isHouse (nI c) = 0 := by rw [a1]; decide
  have n2 : ¬ f_X9_isHouse (nI d) = 0 := by rw [a2]; decide
  have m1 : ¬ f_X10_isHouse (nI c) = 0 := by rw [b1]; decide
  have m2 : ¬ f_X10_isHouse (nI d) = 0 := by rw [b2]; decide
  simp only [if_neg n1, if_neg n2, if_neg m1, if_neg m2]
  by_cases c3 : f_X9_within v3 0 1 = 0
  · exact ⟨-2, M, M, if_pos c3, if_pos c3, h⟩
  simp only [if_neg c3]
  obtain ⟨⟨n1, _, _, hok, _⟩, _⟩ := id h
  let hb : Nat → Nat → Bool := fun j e => (M 6 j).toBitVec.toNat.testBit e
  have h6 : ∀ j, j < 8 → Bt (M 6 j) (hb j) := fun j hj => by
    obtain ⟨x, hx, e⟩ := hok.1 j hj
    refine ⟨x, hx, e, fun k hk => ?_⟩
    show _ = (M 6 j).toBitVec.toNat.testBit k
    rw [e, nI_tn (by omega)]
  obtain ⟨M1, x1, x2, x3⟩ := follow_eq' hc hd h6
  obtain ⟨M2, y1, y2, y3⟩ := zero_l (v1 := nI c) (v2 := nI d) (v3 := v3) (nb := fun j e => hb j e || decide (e = j)) 64 0 FU M1 (by omega) (FU_lt (by omega)) (fun i hi => by omega)
  obtain ⟨g, f, M3, z1, z2, z3⟩ := ref_l hc hd v3 64 0 FU M2 (by omega) (FU_lt (by omega)) (fun j hj => by
    rw [y2 58 (by decide), x3 58 (by decide), ← (n1 j hj).2.2.2.2]
    exact h6 j hj) y3 (fun s hs => by omega)
  obtain ⟨e1, e2⟩ := Out_one x2 z2
  refine ⟨if v3 = 0 then g else f, M1, M3, ?_, y1.trans z1, Inv_cor (fun k j hk => ?_) h⟩
  · rw [x1, Option.bind_some, e1, e2]
    by_cases z : v3 = 0
    · rw [if_pos z, if_pos z]
    · rw [if_neg z, if_neg z]
  · have q1 : k ≠ 71 := fun z => by subst z; revert hk; simp [core]
    have q2 : k ≠ 72 := fun z => by subst z; revert hk; simp [core]
    have q3 : k < 28 ∨ 31 < k := by
      apply Classical.byContradiction
      intro z
      have : k = 28 ∨ k = 29 ∨ k = 30 ∨ k = 31 := by omega
      rcases this with rfl | rfl | rfl | rfl <;> (revert hk; simp [core])
    rw [z3 k q1 q2, y2 k q1, x3 k q3]
