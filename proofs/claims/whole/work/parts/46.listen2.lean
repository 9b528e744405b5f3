def dg (X : Nat) (a : Nat) : Nat := X / 10 ^ (a - 1) % 10
theorem dg_le (X : Nat) : ∀ a, dg X a ≤ 9 := fun a => by unfold dg; omega
def Tab (X Y N : Nat) (M : Mem) (i j : Nat) : Prop := ∀ a b, a ≤ N → b ≤ N → (a ≤ i ∨ (a = i + 1 ∧ b ≤ j)) → Cl (dg X) (dg Y) M (10 * a + b) a b
theorem Tab_edge {X Y N : Nat} {M : Mem} (hN : N ≤ 9) (hH : Hr M) {a b : Nat} (ha : a ≤ N) (hb : b ≤ N) (h : a = 0 ∨ b = 0) : Cl (dg X) (dg Y) M (10 * a + b) a b := by
  rcases h with rfl | rfl
  · obtain ⟨p, q, _⟩ := hH b (by omega)
    refine ⟨0, 0, ?_, ?_, Best_0 (Or.inl rfl)⟩
    · rw [show 10 * 0 + b = b by omega]; exact p
    · rw [show 10 * 0 + b = b by omega]; exact q
  · obtain ⟨_, _, p, q⟩ := hH a (by omega)
    exact ⟨0, 0, p, q, Best_0 (Or.inr rfl)⟩
theorem Cl_keep {A B : Nat → Nat} {M M' : Mem} {c e i j : Nat} (h : Fr2x M M' c) (he : e ≠ c) (H : Cl A B M e i j) : Cl A B M' e i j := by
  obtain ⟨l, x, p, q, t⟩ := H
  exact ⟨l, x, (h.2 e he).1.trans p, (h.2 e he).2.trans q, t⟩
theorem listen_in {X Y N i : Nat} (hN : N ≤ 9) (hi : i < N) (hX : X < 2 ^ 30) (hY : Y < 2 ^ 30) (K : Int32 → Int32 → Int32 → Int32 → Mem → Option Mem) : ∀ m j k M, j + m = N → m < k → Hr M → Tab X Y N M i j → ∃ M', lp_X2_listen_25_25 K k (nI Y) (nI N) (nI (X / 10 ^ i)) (nI (i + 1)) (nI (Y / 10 ^ j)) (nI (j + 1)) M = K (nI Y) (nI N) (nI (X / 10 ^ (i + 1))) (nI (i + 1 + 1)) M' ∧ Hr M' ∧ Tab X Y N M' i N ∧ ∀ k, k ≠ 26 → k ≠ 27 → M' k = M k
  | 0, j, k, M, hj, hk, hH, hT => by
    obtain ⟨k, rfl⟩ : ∃ q, k = q + 1 := ⟨k - 1, by omega⟩
    have ej : j = N := by omega
    refine ⟨M, ?_, hH, ej ▸ hT, fun _ _ _ => rfl⟩
    show bd_X2_listen_25_25 _ _ _ _ _ _ _ _ _ = _
    unfold bd_X2_listen_25_25 lb_X2_listen_25_73
    have dx : X / 10 ^ i < 2 ^ 31 := Nat.lt_of_le_of_lt (Nat.div_le_self _ _) (by omega)
    rw [if_pos (nI_lt (show N < j + 1 by omega) (by omega)), n_s, show nI (X / 10 ^ i) / 10 = nI (X / 10 ^ i / 10) from div_nI (d := 10) dx (by decide) (by decide), Nat.div_div_eq_div_mul, ← Nat.pow_succ]
  | m + 1, j, k, M, hj, hk, hH, hT => by
    obtain ⟨k, rfl⟩ : ∃ q, k = q + 1 := ⟨k - 1, by omega⟩
    have dx : X / 10 ^ i < 2 ^ 31 := Nat.lt_of_le_of_lt (Nat.div_le_self _ _) (by omega)
    have dy : Y / 10 ^ j < 2 ^ 31 := Nat.lt_of_le_of_lt (Nat.div_le_self _ _) (by omega)
    obtain ⟨M1, c1, c2, c3⟩ := compare_eq (dg_le X) (dg_le Y) (M := M) (i := i) (j := j) (by omega) (by omega) (hT (i + 1) j (by omega) (by omega) (Or.inr ⟨rfl, Nat.le_refl _⟩)) (hT i (j + 1) (by omega) (by omega) (Or.inl (Nat.le_refl _))) (hT i j (by omega) (by omega) (Or.inl (Nat.le_refl _)))
    have hH1 : Hr M1 := fun e he => by
      obtain ⟨p, q, r, s⟩ := hH e he
      have f1 := c3.2 e (by omega)
      have f2 := c3.2 (10 * e) (by omega)
      exact ⟨f1.1.trans p, f1.2.trans q, f2.1.trans r, f2.2.trans s⟩
    have hT1 : Tab X Y N M1 i (j + 1) := fun a b ha hb hab => by
      by_cases q : a = i + 1 ∧ b = j + 1
      · obtain ⟨rfl, rfl⟩ := q; exact c2
      · exact Cl_keep c3 (by omega) (hT a b ha hb (by omega))
    obtain ⟨M', z1, z2, z3, z4⟩ := listen_in hN hi hX hY K m (j + 1) k M1 (by omega) (by omega) hH1 hT1
    refine ⟨M', ?_, z2, z3, fun e p q => (z4 e p q).trans (c3.1 e p q)⟩
    show bd_X2_listen_25_25 _ _ _ _ _ _ _ _ _ = _
    unfold bd_X2_listen_25_25
    rw [if_neg (nI_nlt (show j + 1 ≤ N by omega) (by omega)), if_neg (show ¬ (10 : Int32) ≤ nI (j + 1) from nI_ge (b := 10) (by omega) (by omega)), show (10 : Int32) * nI (i + 1) = nI (10 * (i + 1)) from mul_nI 10 (i + 1), nI_add, show remI (nI (X / 10 ^ i)) 10 = nI (X / 10 ^ i % 10) from remI_nI (d := 10) dx (by decide) (by decide), show remI (nI (Y / 10 ^ j)) 10 = nI (Y / 10 ^ j % 10) from remI_nI (d := 10) dy (by decide) (by decide), show X / 10 ^ i % 10 = dg X (i + 1) from rfl, show Y / 10 ^ j % 10 = dg Y (j + 1) from rfl, c1, Option.bind_some, show nI (Y / 10 ^ j) / 10 = nI (Y / 10 ^ j / 10) from div_nI (d := 10) dy (by decide) (by decide), Nat.div_div_eq_div_mul, ← Nat.pow_succ, n_s]
    exact z1
theorem listen_out {X Y N : Nat} (hN : N ≤ 9) (hX : X < 2 ^ 30) (hY : Y < 2 ^ 30) : ∀ m i k M, i + m = N → m < k → Hr M → Tab X Y N M i 0 → ∃ M', lp_X2_listen_25_6 k (nI Y) (nI N) (nI (X / 10 ^ i)) (nI (i + 1)) M = lb_X2_listen_25_86 (nI N) M' ∧ Hr M' ∧ Cl (dg X) (dg Y) M' (10 * N + N) N N ∧ ∀ k, k ≠ 26 → k ≠ 27 → M' k = M k
  | 0, i, k, M, hi, hk, hH, hT => by
    obtain ⟨k, rfl⟩ : ∃ q, k = q + 1 := ⟨k - 1, by omega⟩
    refine ⟨M, ?_, hH, hT N N (Nat.le_refl _) (Nat.le_refl _) (Or.inl (by omega)), fun _ _ _ => rfl⟩
    show bd_X2_listen_25_6 _ _ _ _ _ _ = _
    unfold bd_X2_listen_25_6
    rw [if_pos (nI_lt (show N < i + 1 by omega) (by omega))]
  | m + 1, i, k, M, hi, hk, hH, hT => by
    obtain ⟨k, rfl⟩ : ∃ q, k = q + 1 := ⟨k - 1, by omega⟩
    obtain ⟨M1, y1, y2, y3, y4⟩ := listen_in hN (show i < N by omega) hX hY (lp_X2_listen_25_6 k) N 0 FU M (by omega) (FU_lt (by omega)) hH hT
    obtain ⟨M', z1, z2, z3, z4⟩ := listen_out hN hX hY m (i + 1) k M1 (by omega) (by omega) y2 (fun a b ha hb hab => by
      by_cases q : b = 0
      · exact Tab_edge hN y2 ha hb (Or.inr q)
      · exact y3 a b ha hb (by omega))
    refine ⟨M', ?_, z2, z3, fun e p q => (z4 e p q).trans (y4 e p q)⟩
    show bd_X2_listen_25_6 _ _ _ _ _ _ = _
    unfold bd_X2_listen_25_6
    rw [if_neg (nI_nlt (show i + 1 ≤ N by omega) (by omega)), if_neg (show ¬ (10 : Int32) ≤ nI (i + 1) from nI_ge (b := 10) (by omega) (by omega)), ← z1, ← y1, Nat.pow_zero, Nat.div_one]
    rfl
/-- what the class hears -/
theorem listen_eq {X Y N : Nat} (h1 : 1 ≤ N) (hN : N ≤ 9) (hX : X < 2 ^ 30) (hY : Y < 2 ^ 30) {M : Mem} (hH : Hr M) : ∃ M' l x, f_X2_listen_25 (nI X) (nI Y) (nI N) M = some M' ∧ M' 25 2 = nI l ∧ M' 25 3 = nI x ∧ Best (dg X) (dg Y) N N l x ∧ Hr M' ∧ ∀ k, k ≠ 25 → k ≠ 26 → k ≠ 27 → M' k = M k := by
  obtain ⟨M1, y1, y2, ⟨l, x, p, q, t⟩, y4⟩ := listen_out hN hX hY N 0 FU M (by omega) (FU_lt (by omega)) hH (fun a b ha hb hab => Tab_edge hN hH ha hb (by omega))
  rw [Nat.pow_zero, Nat.div_one] at y1
  have y1' : f_X2_listen_25 (nI X) (nI Y) (nI N) M = lb_X2_listen_25_86 (nI N) M1 := y1
  refine ⟨up2 (up2 (up2 (up2 M1 25 2 0) 25 3 0) 25 2 (nI l)) 25 3 (nI x), l, x, ?_, rfl, rfl, t, y2, fun k a b c => by rw [up2_ne _ _ _ a, up2_ne _ _ _ a, up2_ne _ _ _ a, up2_ne _ _ _ a]; exact y4 k b c⟩
  rw [y1']
  unfold lb_X2_listen_25_86
  have w : ¬ f_X9_within (nI N) 1 9 = 0 := by
    rw [within_0, nI_toInt (by omega)]
    have : (1 : Int32).toInt = 1 := rfl
    have : (9 : Int32).toInt = 9 := rfl
    omega
  rw [if_neg w, show (10 : Int32) * nI N = nI (10 * N) from mul_nI 10 N, nI_add, inb_nI (show 10 * N + N < 100 by omega) (by decide), ix_nI (by omega), p, q]
  rfl
