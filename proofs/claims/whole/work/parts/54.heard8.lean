theorem least_l {X Y N : Nat} {M : Mem} (h1 : 1 ≤ N) (hN : N ≤ 9) (hD : Dig X Y N M N) (hT : ∀ a b, a ≤ N → b ≤ N → Len X Y N M a b) : ∀ l p q k v x, p ≤ N → q ≤ N → l < k → Best (dg X) (dg Y) (N - p) (N - q) l x → lp_X10_leastRow_15 M k (nI N) (nI v) (nI p) (nI q) (nI l) = some (nI (v * 10 ^ l + x))
  | 0, p, q, k, v, x, hp, hq, hk, hB => by
    obtain ⟨k, rfl⟩ : ∃ q, k = q + 1 := ⟨k - 1, by omega⟩
    have ex : x = 0 := hB.1
    show bd_X10_leastRow_15 _ _ _ _ _ _ _ = _
    unfold bd_X10_leastRow_15
    rw [if_pos (show nI 0 ≤ 0 by decide), ex]
    congr 2
    omega
  | l + 1, p, q, k, v, x, hp, hq, hk, hB => by
    obtain ⟨k, rfl⟩ : ∃ q, k = q + 1 := ⟨k - 1, by omega⟩
    have sm := (Best_small (dg_le X) hB (by omega)).1
    have r67 : ∀ e, e < N → M 67 e = nI (dg X (N - e)) := fun e he => (hD e he).1
    have r68 : ∀ e, e < N → M 68 e = nI (dg Y (N - e)) := fun e he => (hD e he).2
    obtain ⟨v', z1, z2⟩ := dig_l (M := M) (l := l) h1 hN hp hq (by omega) (fun r s hr hs => by
      obtain ⟨z, y, a, b⟩ := hT (r + 1) (s + 1) (by omega) (by omega)
      exact ⟨z, by have := (Best_small (dg_le X) b (by omega)).1; omega, a⟩) (nI v) (lp_X10_leastRow_15 M k) 10 FU (-6) (Nat.le_refl _) (FU_lt (by omega)) (Or.inl ⟨rfl, fun d a b => by omega⟩)
    have go : ∀ a b y, 1 ≤ a → a ≤ N - p → 1 ≤ b → b ≤ N - q → dg X a = dg Y b → CS (dg X) (dg Y) l (a - 1) (b - 1) y → Good M N p q l (dg X a) := fun a b y p1 p2 p3 p4 e hc => by
      obtain ⟨r, _, a2⟩ := inOne_eq (M := M) (d := dg X a) h1 hN hp
      obtain ⟨s, _, b2⟩ := inTwo_eq (M := M) (d := dg X a) h1 hN hq
      obtain ⟨g1, g2⟩ := First_ex r67 p1 p2 a2
      obtain ⟨g3, g4⟩ := First_ex (X := Y) (a := b) r68 p3 p4 (e ▸ b2)
      have k := dg_le X a
      have f1 := First_dg k r67 a2 g1
      have f2 := First_dg (X := Y) k r68 b2 g3
      refine ⟨r, s, a2, g1, b2, g3, ?_⟩
      obtain ⟨z, y', c1, c2⟩ := hT (r + 1) (s + 1) (by omega) (by omega)
      rw [c1]
      have m1 : l ≤ z := c2.2.2 _ y (CS_mono _ _ _ _ _ _ (by omega) (by omega) hc)
      have m2 : z + 1 ≤ l + 1 := hB.2.2 (z + 1) _ ⟨N - r, N - s, y', ⟨by omega, by omega⟩, ⟨by omega, by omega⟩, by rw [f1.2.2.1, f2.2.2.1], rfl, by rw [show N - r - 1 = N - (r + 1) by omega, show N - s - 1 = N - (s + 1) by omega]; exact c2.1⟩
      congr 1
      omega
    rcases z2 with ⟨_, no⟩ | ⟨d, rfl, _, d9, ⟨r, s, g1, g2, g3, g4, g5⟩, least⟩
    · obtain ⟨a, b, y, p1, p2, p3, p4, p5⟩ := hB.1
      have k := dg_le X a
      exact absurd (go a b y p1.1 p1.2 p2.1 p2.2 p3 p5) (no _ (by omega) (by omega))
    · have f1 := First_dg (X := X) (by omega) r67 g1 g2
      have f2 := First_dg (X := Y) (by omega) r68 g3 g4
      obtain ⟨z, y, c1, c2⟩ := hT (r + 1) (s + 1) (by omega) (by omega)
      have ez : z = l := by
        have := (Best_small (dg_le X) c2 (by omega)).1
        exact (nI_eq (by omega) (by omega)).mp (c1.symm.trans g5)
      subst ez
      have gr := Best_greedy (dg_le X) hB f1 f2 (y := y) (by rw [show N - r - 1 = N - (r + 1) by omega, show N - s - 1 = N - (s + 1) by omega]; exact c2) (fun a' b' y' q1 q2 q3 q4 q5 q6 q7 => least _ (Nat.zero_le _) q6 (go a' b' y' q1 q2 q3 q4 q5 q7.1)) Best_all
      obtain ⟨r', i1, i2⟩ := inOne_eq (M := M) (d := d) h1 hN hp
      obtain ⟨s', j1, j2⟩ := inTwo_eq (M := M) (d := d) h1 hN hq
      have er := First_one i2 g1
      have es := First_one j2 g3
      subst er es
      have ih := least_l h1 hN hD hT z (r' + 1) (s' + 1) k (10 * v + d) y (by omega) (by omega) (by omega) c2
      show bd_X10_leastRow_15 _ _ _ _ _ _ _ = _
      unfold bd_X10_leastRow_15
      rw [if_neg (nI_nle (by omega) (by omega)), show (9 : Int32) = nI 10 + -1 from rfl, z1, i1, Option.bind_some, j1, Option.bind_some, pred1, n_s, n_s, show (10 : Int32) * nI v = nI (10 * v) from mul_nI 10 v, nI_add, ih, gr, Nat.pow_succ]
      congr 2
      grind
