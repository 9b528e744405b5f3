theorem cpy_lt {f g : Nat → Int32} {n j : Nat} (h : j < n) : va_cpy f g 0 0 n j = f j := by
  unfold va_cpy
  rw [if_pos (by omega), Nat.zero_add, Nat.sub_zero]
theorem Sg_congr {s s' w w' v v' : Nat → Int32} {c l n : Int32} (hs : ∀ j, j ≤ 40 → s' j = s j) (hw : ∀ e, e < 8 → w' e = w e) (hv : ∀ e, e < 8 → v' e = v e) (H : Sg s c l w v n) : Sg s' c l w' v' n := by
  obtain ⟨k, h1, h2, h3, h4, h5, h6, h7⟩ := H
  refine ⟨k, h1, h2, h3, fun e he => ?_, fun j x hj hx => ?_, fun j hj hl => ?_, h7⟩
  · rw [hw e (by omega), hv e (by omega)]; exact h4 e he
  · rw [hs j hj, h5 j x hj hx]
    constructor
    · intro h e he; rw [hw e (by omega), hv e (by omega)]; exact h e he
    · intro h e he; have := h e he; rw [hw e (by omega), hv e (by omega)] at this; exact this
  · rw [hs j hj]; exact h6 j hj hl
theorem Tok_congr {d c g s h d' c' g' s' h' : Nat → Int32} {b w : Int32} (H : Teq d' c' g' s' h' d c g s h) (T : Tok d c g s h b w) : Tok d' c' g' s' h' b w := by
  obtain ⟨t1, t2, t3⟩ := T
  refine ⟨fun i hi => ?_, Hok_congr (fun i hi => (H i hi).2.2.2.2.symm) t2, t3⟩
  obtain ⟨q1, q2, q3, q4, -⟩ := H i hi
  rw [q1, q2, q3, q4]
  exact t1 i hi
theorem Teq.symm {d c g s h d' c' g' s' h' : Nat → Int32} (H : Teq d c g s h d' c' g' s' h') : Teq d' c' g' s' h' d c g s h := fun i hi => ⟨(H i hi).1.symm, (H i hi).2.1.symm, (H i hi).2.2.1.symm, (H i hi).2.2.2.1.symm, (H i hi).2.2.2.2.symm⟩
theorem Teq.trans {d c g s h d' c' g' s' h' d2 c2 g2 s2 h2 : Nat → Int32} (H : Teq d c g s h d' c' g' s' h') (K : Teq d' c' g' s' h' d2 c2 g2 s2 h2) : Teq d c g s h d2 c2 g2 s2 h2 := fun i hi => ⟨(H i hi).1.trans (K i hi).1, (H i hi).2.1.trans (K i hi).2.1, (H i hi).2.2.1.trans (K i hi).2.2.1, (H i hi).2.2.2.1.trans (K i hi).2.2.2.1, (H i hi).2.2.2.2.trans (K i hi).2.2.2.2⟩
/-- image k is made: on both sides -/
theorem image_core {M M1 M2 : Mem} {c t s b j : Nat} (hb : b ≤ 70) (hn : Now M) (hs : Sgs M)
    (k1 : M1 c 2 = 1) (k2 : Teq (M1 (t + 1)) (M1 (t + 2)) (M1 (t + 3)) (M1 (t + 4)) (M1 (t + 5)) (M 2) (M 3) (M 4) (M 5) (M 6)) (k3 : M1 t 6 = M 1 6 ∧ M1 t 7 = M 1 7 ∧ M1 t 8 = M 1 8) (k4 : ∀ q, q ≤ 40 → M1 (s + 1) q = M 20 q) (k5 : M1 s 1 = M 19 1 ∧ M1 s 2 = M 19 2)
    (c1 : ∀ o, o < 60 → M2 73 (b + o) = imC M o) (c2 : M2 74 j = 1) (c3 : ∀ q, q ≤ 52 → M2 q = M1 q) (hc : c ≤ 52) (ht : t + 5 ≤ 52) (hs2 : s + 1 ≤ 52) : Im M2 c t s b j := by
  obtain ⟨n1, ⟨s1, s2, s3⟩, n5⟩ := hn
  have row : ∀ r i, 54 ≤ r → r ≤ 60 → i < 8 → M2 73 (b + (4 + 8 * (r - 54) + i)) = M r i := fun r i h1 h2 h3 => (c1 _ (by omega)).trans (imC_row M h1 h3)
  unfold Im
  rw [c3 c hc, c3 t (by omega), c3 (t + 1) (by omega), c3 (t + 2) (by omega), c3 (t + 3) (by omega), c3 (t + 4) (by omega), c3 (t + 5) (by omega), c3 s (by omega), c3 (s + 1) hs2, k1, c2]
  refine ⟨rfl, Or.inr rfl, fun _ => ⟨?_, ⟨?_, ?_, ?_⟩, ?_, ?_⟩⟩
  · intro i hi
    obtain ⟨q1, q2, q3, q4, q5⟩ := k2 i hi
    obtain ⟨z1, z2, z3, z4, z5⟩ := n1 i hi
    have r1 := row 54 i (by omega) (by omega) hi
    have r2 := row 55 i (by omega) (by omega) hi
    have r3 := row 56 i (by omega) (by omega) hi
    have r4 := row 57 i (by omega) (by omega) hi
    have r5 := row 58 i (by omega) (by omega) hi
    refine ⟨?_, ?_, ?_, ?_, ?_⟩
    · rw [q1, z1, ← r1]; congr 1; omega
    · rw [q2, z2, ← r2]; congr 1; omega
    · rw [q3, z3, ← r3]; congr 1; omega
    · rw [q4, z4, ← r4]; congr 1; omega
    · rw [q5, z5, ← r5]; congr 1; omega
  · rw [k3.1, s1]; exact (c1 0 (by omega)).symm
  · rw [k3.2.1, s2]; exact (c1 1 (by omega)).symm
  · rw [k3.2.2, s3]; exact (c1 2 (by omega)).symm
  · rw [k3.1, k3.2.2]; exact Tok_congr k2 n5
  · rw [k5.1, k5.2]
    have e : M2 73 (b + 3) = M 53 10 := c1 3 (by omega)
    rw [e]
    refine Sg_congr k4 (fun e he => ?_) (fun e he => ?_) hs
    · have r := row 59 e (by omega) (by omega) he
      rw [← r]; congr 1; omega
    · have r := row 60 e (by omega) (by omega) he
      rw [← r]; congr 1; omega
theorem Pd_eq {M N : Mem} (h15 : N 15 = M 15) (h16 : N 16 = M 16) (h61 : N 61 = M 61) (h53 : N 53 12 = M 53 12) (H : Pd M) : Pd N := by
  unfold Pd at H ⊢
  rw [h15, h16, h61, h53]
  exact H
theorem Now_eq {M N : Mem} (h : ∀ k, 1 ≤ k → k ≤ 6 → N k = M k) (h2 : ∀ k, 54 ≤ k → k ≤ 58 → N k = M k) (h5 : N 53 5 = M 53 5) (h6 : N 53 6 = M 53 6) (h7 : N 53 7 = M 53 7) (H : Now M) : Now N := by
  unfold Now at H ⊢
  rw [h 1 (by omega) (by omega), h 2 (by omega) (by omega), h 3 (by omega) (by omega), h 4 (by omega) (by omega), h 5 (by omega) (by omega), h 6 (by omega) (by omega), h2 54 (by omega) (by omega), h2 55 (by omega) (by omega), h2 56 (by omega) (by omega), h2 57 (by omega) (by omega), h2 58 (by omega) (by omega), h5, h6, h7]
  exact H
theorem Sgs_eq {M N : Mem} (h19 : N 19 = M 19) (h20 : N 20 = M 20) (h59 : N 59 = M 59) (h60 : N 60 = M 60) (h : N 53 10 = M 53 10) (H : Sgs M) : Sgs N := by
  unfold Sgs at H ⊢
  rw [h19, h20, h59, h60, h]
  exact H
theorem Hr_eq {M N : Mem} (h26 : N 26 = M 26) (h27 : N 27 = M 27) (H : Hr M) : Hr N := by
  unfold Hr at H ⊢
  rw [h26, h27]
  exact H
/-- the other image stays -/
theorem Im_keep {M N : Mem} {c t s b j : Nat} (h : ∀ k, (k = c ∨ (t ≤ k ∧ k ≤ t + 5) ∨ k = s ∨ k = s + 1) → N k = M k) (h73 : ∀ o, o < 60 → N 73 (b + o) = M 73 (b + o)) (h74 : N 74 j = M 74 j) (H : Im M c t s b j) : Im N c t s b j := by
  unfold Im at H ⊢
  rw [h c (by omega), h t (by omega), h (t + 1) (by omega), h (t + 2) (by omega), h (t + 3) (by omega), h (t + 4) (by omega), h (t + 5) (by omega), h s (by omega), h (s + 1) (by omega), h74]
  obtain ⟨a1, a2, a3⟩ := H
  refine ⟨a1, a2, fun q => ?_⟩
  obtain ⟨b1, ⟨b2, b3, b4⟩, b5, b6⟩ := a3 q
  refine ⟨fun i hi => ?_, ⟨?_, ?_, ?_⟩, b5, ?_⟩
  · obtain ⟨z1, z2, z3, z4, z5⟩ := b1 i hi
    have e : ∀ o, o + i < 60 → N 73 (b + o + i) = M 73 (b + o + i) := fun o ho => by rw [Nat.add_assoc]; exact h73 (o + i) ho
    exact ⟨z1.trans (e 4 (by omega)).symm, z2.trans (e 12 (by omega)).symm, z3.trans (e 20 (by omega)).symm, z4.trans (e 28 (by omega)).symm, z5.trans (e 36 (by omega)).symm⟩
  · rw [b2]; exact (h73 0 (by omega)).symm
  · rw [b3]; exact (h73 1 (by omega)).symm
  · rw [b4]; exact (h73 2 (by omega)).symm
  · rw [h73 3 (by omega)]
    refine Sg_congr (fun _ _ => rfl) (fun e he => ?_) (fun e he => ?_) b6
    · show N 73 (b + 44 + e) = M 73 (b + 44 + e)
      rw [Nat.add_assoc]; exact h73 (44 + e) (by omega)
    · show N 73 (b + 52 + e) = M 73 (b + 52 + e)
      rw [Nat.add_assoc]; exact h73 (52 + e) (by omega)
