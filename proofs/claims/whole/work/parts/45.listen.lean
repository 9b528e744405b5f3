theorem CS_len {A B : Nat → Nat} : ∀ l i j x, CS A B l i j x → l ≤ i
  | 0, _, _, _, _ => Nat.zero_le _
  | l + 1, i, j, x, ⟨a, b, y, ha, hb, e, ex, h⟩ => by
    have := CS_len l _ _ _ h
    omega
theorem Best_small {A B : Nat → Nat} (hA : ∀ i, A i ≤ 9) {i j l x : Nat} (h : Best A B i j l x) (hi : i ≤ 9) : l ≤ i ∧ x < 10 ^ l ∧ x < 1000000000 := by
  have a := CS_len _ _ _ _ h.1
  have b := CS_lt hA _ _ _ _ h.1
  refine ⟨a, b, Nat.lt_of_lt_of_le b ?_⟩
  exact Nat.pow_le_pow_right (by omega) (show l ≤ 9 by omega)
def Fr2x (M M' : Mem) (c : Nat) : Prop := (∀ k, k ≠ 26 → k ≠ 27 → M' k = M k) ∧ ∀ e, e ≠ c → M' 26 e = M 26 e ∧ M' 27 e = M 27 e
theorem Fr2x.tr {a b d : Mem} {c : Nat} (x : Fr2x a b c) (y : Fr2x b d c) : Fr2x a d c := ⟨fun k p q => (y.1 k p q).trans (x.1 k p q), fun e he => ⟨(y.2 e he).1.trans (x.2 e he).1, (y.2 e he).2.trans (x.2 e he).2⟩⟩
theorem Fr2x_put (M : Mem) (c : Nat) (u v : Int32) : Fr2x M (up2 (up2 M 26 c u) 27 c v) c := ⟨fun k p q => by rw [up2_ne _ _ _ q, up2_ne _ _ _ p], fun e he => ⟨by
  show up2 M 26 c u 26 e = _
  rw [up2_at, if_neg he], by rw [up2_at, if_neg he]; rfl⟩⟩
theorem offer_eq {M : Mem} {c u1 u2 l x : Nat} (hc : c < 100) (h1 : M 26 c = nI u1) (h2 : M 27 c = nI u2) (b1 : u1 < 2 ^ 31) (b2 : u2 < 2 ^ 31) (b3 : l < 2 ^ 31) (b4 : x < 2 ^ 31) : ∃ M', f_X2_offer_25 (nI c) (nI l) (nI x) M = some M' ∧ M' 26 c = nI (off (u1, u2) (l, x)).1 ∧ M' 27 c = nI (off (u1, u2) (l, x)).2 ∧ Fr2x M M' c := by
  have ic := inb_nI hc (by decide)
  have xc := ix_nI (show c < 2 ^ 31 by omega)
  unfold f_X2_offer_25 lb_X2_offer_25_30 off
  rw [ic, xc, h1, h2]
  simp only [if_true]
  by_cases q : u1 < l
  · rw [if_pos (nI_lt q b3), if_pos q]
    exact ⟨_, rfl, up2_self M 26 c _, up2_self _ 27 c _, Fr2x_put M c _ _⟩
  · rw [if_neg (nI_nlt (by omega) b1), if_neg q]
    by_cases p : l = u1
    · rw [if_pos (by rw [p])]
      by_cases r : x < u2
      · rw [if_neg (nI_ge r b2), if_pos ⟨p, r⟩]
        exact ⟨_, rfl, up2_self M 26 c _, up2_self _ 27 c _, Fr2x_put M c _ _⟩
      · rw [if_pos (nI_le (show u2 ≤ x by omega) b4), if_neg (fun z => r z.2)]
        exact ⟨M, rfl, h1, h2, fun _ _ _ => rfl, fun _ _ => ⟨rfl, rfl⟩⟩
    · rw [if_neg (nI_is b3 b1 p), if_neg (fun z => p z.1)]
      exact ⟨M, rfl, h1, h2, fun _ _ _ => rfl, fun _ _ => ⟨rfl, rfl⟩⟩
def Cl (A B : Nat → Nat) (M : Mem) (c i j : Nat) : Prop := ∃ l x, M 26 c = nI l ∧ M 27 c = nI x ∧ Best A B i j l x
theorem tens_eq {l : Nat} (h : l ≤ 8) : tensF l = nI (10 ^ l) := by
  have : ∀ l, l < 9 → tensF l = nI (10 ^ l) := by decide +kernel
  exact this l (by omega)
theorem compare_eq {A B : Nat → Nat} (hA : ∀ i, A i ≤ 9) (hB : ∀ i, B i ≤ 9) {M : Mem} {i j : Nat} (hi : i ≤ 8) (hj : j ≤ 8) (k1 : Cl A B M (10 * (i + 1) + j) (i + 1) j) (k2 : Cl A B M (10 * i + (j + 1)) i (j + 1)) (k3 : Cl A B M (10 * i + j) i j) : ∃ M', f_X2_compare_25 (nI (10 * (i + 1) + (j + 1))) (nI (A (i + 1))) (nI (B (j + 1))) M = some M' ∧ Cl A B M' (10 * (i + 1) + (j + 1)) (i + 1) (j + 1) ∧ Fr2x M M' (10 * (i + 1) + (j + 1)) := by
  obtain ⟨l1, x1, p1, q1, t1⟩ := k1
  obtain ⟨l2, x2, p2, q2, t2⟩ := k2
  obtain ⟨l3, x3, p3, q3, t3⟩ := k3
  have s1 := Best_small hA t1 (by omega)
  have s2 := Best_small hA t2 (by omega)
  have s3 := Best_small hA t3 (by omega)
  generalize hc : 10 * (i + 1) + (j + 1) = c
  have e1 : nI c - 1 = nI (10 * (i + 1) + j) := by rw [show nI c - 1 = nI (c - 1) from pk_sub (b := 1) (by omega)]; congr 1; omega
  have e10 : nI c - 10 = nI (10 * i + (j + 1)) := by rw [show nI c - 10 = nI (c - 10) from pk_sub (b := 10) (by omega)]; congr 1; omega
  have e11 : nI (10 * i + (j + 1)) - 1 = nI (10 * i + j) := by rw [show nI (10 * i + (j + 1)) - 1 = nI (10 * i + (j + 1) - 1) from pk_sub (b := 1) (by omega)]; congr 1
  have w : ¬ f_X9_within (nI c) 11 99 = 0 := by
    rw [within_0, nI_toInt (by omega)]
    have : (11 : Int32).toInt = 11 := rfl
    have : (99 : Int32).toInt = 99 := rfl
    omega
  have fr0 := Fr2x_put M c (nI l1) (nI x1)
  obtain ⟨M2, o1, o2, o3, o4⟩ := offer_eq (M := up2 (up2 M 26 c (nI l1)) 27 c (nI x1)) (c := c) (u1 := l1) (u2 := x1) (l := l2) (x := x2) (by omega) (up2_self M 26 c _) (up2_self _ 27 c _) (by omega) (by omega) (by omega) (by omega)
  have fr2 := fr0.tr o4
  obtain ⟨st1, st2⟩ := Best_step t1 t2 t3
  have gt : ∀ u v : Nat × Nat, (off u v).1 ≤ max u.1 v.1 ∧ (off u v).2 ≤ max u.2 v.2 := fun u v => by
    rcases (off_ge u v).2.2 with e | e <;> rw [e] <;> omega
  have g12 := gt (l1, x1) (l2, x2)
  simp only at g12
  have z3 := (fr2.2 (10 * i + j) (by omega))
  have c1 : up2 M 26 c (nI l1) 26 (10 * i + (j + 1)) = nI l2 := by rw [up2_at, if_neg (by omega), p2]
  have c2 : up2 (up2 M 26 c (nI l1)) 27 c (nI x1) 27 (10 * i + (j + 1)) = nI x2 := by
    rw [up2_at, if_neg (by omega)]; exact q2
  have cX : f_X2_compare_25 (nI c) (nI (A (i + 1))) (nI (B (j + 1))) M = (if nI (A (i + 1)) = nI (B (j + 1)) then f_X2_offer_25 (nI c) (nI (l3 + 1)) (nI (A (i + 1) * 10 ^ l3 + x3)) M2 else some M2) := by
    unfold f_X2_compare_25
    rw [if_neg w, e1, e10, e11, inb_nI (show c < 100 by omega) (by decide), inb_nI (show 10 * (i + 1) + j < 100 by omega) (by decide), inb_nI (show 10 * i + (j + 1) < 100 by omega) (by decide), inb_nI (show 10 * i + j < 100 by omega) (by decide), ix_nI (show c < 2 ^ 31 by omega), ix_nI (show 10 * (i + 1) + j < 2 ^ 31 by omega), ix_nI (show 10 * i + (j + 1) < 2 ^ 31 by omega), ix_nI (show 10 * i + j < 2 ^ 31 by omega), p1, q1]
    simp only [if_true]
    rw [c1, c2, o1]
    simp only [Option.bind_some, z3.1, z3.2, p3, q3]
    have w3 : ¬ f_X9_within (nI l3) 0 8 = 0 := by
      rw [within_0, nI_toInt (by omega)]
      have : (0 : Int32).toInt = 0 := rfl
      have : (8 : Int32).toInt = 8 := rfl
      omega
    rw [if_neg w3, inb_nI (show l3 < 10 by omega) (by decide), ix_nI (by omega), tens_eq (by omega), n_s, pk_mul, nI_add]
    simp only [if_true]
    cases f_X2_offer_25 (nI c) (nI (l3 + 1)) (nI (A (i + 1) * 10 ^ l3 + x3)) M2 <;> rfl
  rw [cX]
  by_cases e : A (i + 1) = B (j + 1)
  · have pw : 10 ^ l3 ≤ 100000000 := Nat.pow_le_pow_right (n := 10) (by omega) (show l3 ≤ 8 by omega)
    have h9 := hA (i + 1)
    have mm : A (i + 1) * 10 ^ l3 ≤ 9 * 100000000 := Nat.mul_le_mul h9 pw
    obtain ⟨M3, r1, r2, r3, r4⟩ := offer_eq (M := M2) (c := c) (l := l3 + 1) (x := A (i + 1) * 10 ^ l3 + x3) (by omega) o2 o3 (by omega) (by omega) (by omega) (by omega)
    rw [if_pos (by rw [e])]
    exact ⟨M3, r1, ⟨_, _, r2, r3, st1 e⟩, fr2.tr r4⟩
  · have h9 := hA (i + 1)
    have h9' := hB (j + 1)
    rw [if_neg (nI_is (by omega) (by omega) e)]
    exact ⟨M2, rfl, ⟨_, _, o2, o3, st2 e⟩, fr2⟩
