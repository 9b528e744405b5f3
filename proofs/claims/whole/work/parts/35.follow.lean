def FrX (M M' : Mem) : Prop := ∀ k, ¬ (8 ≤ k ∧ k ≤ 14) → k ≠ 17 → k ≠ 18 → M' k = M k
def FrY (N N' : Mem) : Prop := (∀ k, ¬ (53 ≤ k ∧ k ≤ 58) → k ≠ 65 → N' k = N k) ∧ (∀ j, j ≠ 5 → j ≠ 6 → j ≠ 7 → j ≠ 17 → j ≠ 20 → j ≠ 21 → j ≠ 22 → j ≠ 23 → N' 53 j = N 53 j) ∧ N' 53 17 - N' 53 6 = N 53 17 - N 53 6
theorem FrX.tr {a b c : Mem} (x : FrX a b) (y : FrX b c) : FrX a c := fun k p q r => (y k p q r).trans (x k p q r)
theorem FrY.tr {a b c : Mem} (x : FrY a b) (y : FrY b c) : FrY a c := ⟨fun k p q => (y.1 k p q).trans (x.1 k p q), fun j p q r s t u v w => (y.2.1 j p q r s t u v w).trans (x.2.1 j p q r s t u v w), y.2.2.trans x.2.2⟩
def Told (M N : Mem) : Prop := M 18 1 = N 53 20 ∧ M 18 2 = N 53 21 ∧ M 18 3 = N 53 22 ∧ M 18 4 = N 53 23
theorem Hold_congr {N N' : Mem} (h62 : N' 62 = N 62) (h63 : N' 63 = N 63) (h64 : N' 64 = N 64) : ∀ (L : List (Nat × Nat × Nat)) a, Hold N a L → Hold N' a L
  | [], _, _ => trivial
  | x :: L, a, h => ⟨by rw [h62, h63, h64]; exact h.1, Hold_congr h62 h63 h64 L (a + 1) h.2⟩
theorem Rel_keep {M N M' N' : Mem} (hR : Rel M N) (h8 : M' 8 = M 8) (h9 : M' 9 = M 9) (h10 : M' 10 = M 10) (h11 : M' 11 = M 11) (h12 : M' 12 = M 12) (h13 : M' 13 = M 13) (n5 : N' 53 5 = N 53 5) (n6 : N' 53 6 = N 53 6) (n7 : N' 53 7 = N 53 7) (n54 : N' 54 = N 54) (n55 : N' 55 = N 55) (n56 : N' 56 = N 56) (n57 : N' 57 = N 57) (n58 : N' 58 = N 58) : Rel M' N' := by
  unfold Rel
  rw [h8, h9, h10, h11, h12, h13, n5, n6, n7, n54, n55, n56, n57, n58]
  exact hR
/-- what noting a rid house does, on both sides -/
theorem note_eq {M N : Mem} {a : Nat} (ha : a < 60) (mask : Int32) (h3 : M 18 3 = N 53 22) (h4 : M 18 4 = N 53 23) (h22 : (N 53 22 = -6 ∧ N 53 23 = -6) ∨ ∃ q, q < 60 ∧ N 53 22 = nI q) :
    ∃ M' N', f_X7_noteRid_18 (nI a) mask M = some M' ∧ (if mask = 0 then some N else (if 0 ≤ N 53 22 then some N else (f_X10_leastOf mask).bind fun r9 => some (up2 (up2 N 53 22 (nI a)) 53 23 r9))) = some N' ∧ M' 18 3 = N' 53 22 ∧ M' 18 4 = N' 53 23 ∧ ((N' 53 22 = -6 ∧ N' 53 23 = -6) ∨ ∃ q, q < 60 ∧ N' 53 22 = nI q) ∧ (∀ k, k ≠ 18 → M' k = M k) ∧ (∀ j, j ≠ 3 → j ≠ 4 → M' 18 j = M 18 j) ∧ (∀ k, k ≠ 53 → N' k = N k) ∧ ∀ j, j ≠ 22 → j ≠ 23 → N' 53 j = N 53 j := by
  unfold f_X7_noteRid_18
  by_cases q : mask = 0
  · rw [if_pos q, if_pos q]
    exact ⟨M, N, rfl, rfl, h3, h4, h22, fun _ _ => rfl, fun _ _ _ => rfl, fun _ _ => rfl, fun _ _ _ => rfl⟩
  rw [if_neg q, if_neg q, h3]
  rcases h22 with ⟨p1, p2⟩ | ⟨z, hz, p⟩
  · rw [p1, if_pos rfl, if_neg (by decide)]
    obtain ⟨b', M', r1, r2, r3, r4, r5⟩ := rid_lock mask 8 FU FU (up2 M 18 3 (nI a)) (-6) (by omega) (FU_lt (by omega)) (FU_lt (by omega)) (by rw [up2_at, if_neg (by decide), h4, p2])
    refine ⟨M', up2 (up2 N 53 22 (nI a)) 53 23 b', r1, ?_, ?_, ?_, Or.inr ⟨a, ha, ?_⟩, fun k hk => (r4 k hk).trans (up2_ne _ _ _ hk), fun j x y => (r5 j y).trans (by rw [up2_at, if_neg x]), fun k hk => by rw [up2_ne _ _ _ hk, up2_ne _ _ _ hk], fun j x y => by rw [up2_at, if_neg y, up2_at, if_neg x]⟩
    · have e : f_X10_leastOf mask = some b' := r2
      rw [e]; rfl
    · rw [r5 3 (by decide), up2_self]; rfl
    · rw [r3, up2_self]
    · rfl
  · rw [p, if_neg (show ¬ nI z = -6 from fun w => by
      have := congrArg Int32.toInt w
      rw [nI_toInt (by omega)] at this
      have e : (-6 : Int32).toInt = -6 := rfl
      omega), if_pos (show (0 : Int32) ≤ nI z from nI_le (a := 0) (by omega) (by omega))]
    exact ⟨M, N, rfl, rfl, h3.trans rfl, h4, Or.inr ⟨z, hz, p⟩, fun _ _ => rfl, fun _ _ _ => rfl, fun _ _ => rfl, fun _ _ _ => rfl⟩
