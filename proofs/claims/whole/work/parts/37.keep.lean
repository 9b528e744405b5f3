def Had5 (N M0 : Mem) (j : Nat) : Prop := N 66 j = M0 54 j ∧ N 66 (8 + j) = M0 55 j ∧ N 66 (16 + j) = M0 56 j ∧ N 66 (24 + j) = M0 57 j ∧ N 66 (32 + j) = M0 58 j
def Had (N M0 : Mem) : Prop := (∀ j, j < 8 → Had5 N M0 j) ∧ N 66 40 = M0 53 5 ∧ N 66 41 = M0 53 6 ∧ N 66 42 = M0 53 7
theorem keep_eq {M0 : Mem} : ∀ m i n N, i + m = 8 → m < n → (∀ k, k ≠ 66 → N k = M0 k) → (∀ j, j < i → Had5 N M0 j) → ∃ N1, lp_X10_keepNow_2 n (nI i) N = some N1 ∧ (∀ k, k ≠ 66 → N1 k = M0 k) ∧ Had N1 M0
  | 0, i, n, N, hi, hn, hF, hH => by
    obtain ⟨n, rfl⟩ : ∃ q, n = q + 1 := ⟨n - 1, by omega⟩
    refine ⟨up2 (up2 (up2 N 66 40 (N 53 5)) 66 41 (N 53 6)) 66 42 (N 53 7), ?_, fun k hk => by rw [up2_ne _ _ _ hk, up2_ne _ _ _ hk, up2_ne _ _ _ hk]; exact hF k hk, fun j hj => ?_, ?_, ?_, ?_⟩
    · show bd_X10_keepNow_2 _ _ _ = _
      unfold bd_X10_keepNow_2
      rw [if_pos (show (8 : Int32) ≤ nI i from nI_le (a := 8) (by omega) (by omega))]
      rfl
    · have e : ∀ q, q < 40 → up2 (up2 (up2 N 66 40 (N 53 5)) 66 41 (N 53 6)) 66 42 (N 53 7) 66 q = N 66 q := fun q hq => by rw [up2_at, if_neg (by omega), up2_at, if_neg (by omega), up2_at, if_neg (by omega)]
      unfold Had5
      rw [e _ (by omega), e _ (by omega), e _ (by omega), e _ (by omega), e _ (by omega)]
      exact hH j (by omega)
    · exact congrFun (hF 53 (by decide)) 5
    · exact congrFun (hF 53 (by decide)) 6
    · exact congrFun (hF 53 (by decide)) 7
  | m + 1, i, n, N, hi, hn, hF, hH => by
    obtain ⟨n, rfl⟩ : ∃ q, n = q + 1 := ⟨n - 1, by omega⟩
    have e : ∀ q, up2 (up2 (up2 (up2 (up2 N 66 i (N 54 i)) 66 (8 + i) (N 55 i)) 66 (16 + i) (N 56 i)) 66 (24 + i) (N 57 i)) 66 (32 + i) (N 58 i) 66 q = if q = 32 + i then N 58 i else if q = 24 + i then N 57 i else if q = 16 + i then N 56 i else if q = 8 + i then N 55 i else if q = i then N 54 i else N 66 q := fun q => by rw [up2_at, up2_at, up2_at, up2_at, up2_at]
    obtain ⟨N1, h1, h2, h3⟩ := keep_eq (M0 := M0) m (i + 1) n (up2 (up2 (up2 (up2 (up2 N 66 i (N 54 i)) 66 (8 + i) (N 55 i)) 66 (16 + i) (N 56 i)) 66 (24 + i) (N 57 i)) 66 (32 + i) (N 58 i)) (by omega) (by omega) (fun k hk => by rw [up2_ne _ _ _ hk, up2_ne _ _ _ hk, up2_ne _ _ _ hk, up2_ne _ _ _ hk, up2_ne _ _ _ hk]; exact hF k hk) (fun j hj => by
      unfold Had5
      rw [e, e, e, e, e]
      by_cases q : j = i
      · subst q
        rw [if_neg (by omega), if_neg (by omega), if_neg (by omega), if_neg (by omega), if_pos rfl, if_neg (by omega), if_neg (by omega), if_neg (by omega), if_pos rfl, if_neg (by omega), if_neg (by omega), if_pos rfl, if_neg (by omega), if_pos rfl, if_pos rfl]
        rw [hF 54 (by decide), hF 55 (by decide), hF 56 (by decide), hF 57 (by decide), hF 58 (by decide)]
        exact ⟨rfl, rfl, rfl, rfl, rfl⟩
      · have g : ∀ q, (q = j ∨ q = 8 + j ∨ q = 16 + j ∨ q = 24 + j ∨ q = 32 + j) → (if q = 32 + i then N 58 i else if q = 24 + i then N 57 i else if q = 16 + i then N 56 i else if q = 8 + i then N 55 i else if q = i then N 54 i else N 66 q) = N 66 q := fun q hq => by
          rw [if_neg (by omega), if_neg (by omega), if_neg (by omega), if_neg (by omega), if_neg (by omega)]
        rw [g j (by omega), g (8 + j) (by omega), g (16 + j) (by omega), g (24 + j) (by omega), g (32 + j) (by omega)]
        exact hH j (by omega))
    refine ⟨N1, ?_, h2, h3⟩
    show bd_X10_keepNow_2 _ _ _ = _
    unfold bd_X10_keepNow_2
    have i8 := inb_nI (show i < 8 by omega) (by decide)
    have c8 : (8 : Int32) + nI i = nI (8 + i) := nI_add 8 i
    have c16 : (16 : Int32) + nI i = nI (16 + i) := nI_add 16 i
    have c24 : (24 : Int32) + nI i = nI (24 + i) := nI_add 24 i
    have c32 : (32 : Int32) + nI i = nI (32 + i) := nI_add 32 i
    rw [if_neg (show ¬ (8 : Int32) ≤ nI i from nI_ge (b := 8) (by omega) (by omega)), i8, inb_nI (show i < 43 by omega) (by decide), c8, c16, c24, c32, inb_nI (show 8 + i < 43 by omega) (by decide), inb_nI (show 16 + i < 43 by omega) (by decide), inb_nI (show 24 + i < 43 by omega) (by decide), inb_nI (show 32 + i < 43 by omega) (by decide), ix_nI (show i < 2 ^ 31 by omega), ix_nI (show 8 + i < 2 ^ 31 by omega), ix_nI (show 16 + i < 2 ^ 31 by omega), ix_nI (show 24 + i < 2 ^ 31 by omega), ix_nI (show 32 + i < 2 ^ 31 by omega), n_s]
    exact h1
def Bk (N1 M0 : Mem) (j : Nat) : Prop := N1 54 j = M0 54 j ∧ N1 55 j = M0 55 j ∧ N1 56 j = M0 56 j ∧ N1 57 j = M0 57 j ∧ N1 58 j = M0 58 j
theorem back_l {M0 N0 : Mem} (v : Int32) : ∀ m i n N, i + m = 8 → m < n → (∀ k, ¬ (54 ≤ k ∧ k ≤ 58) → N k = N0 k) → Had N M0 → (∀ j, j < i → Bk N M0 j) → ∃ N1, lp_X10_back_2 n v (nI i) N = some (v, N1) ∧ (∀ k, ¬ (53 ≤ k ∧ k ≤ 58) → N1 k = N0 k) ∧ (∀ j, j ≠ 5 → j ≠ 6 → j ≠ 7 → N1 53 j = N0 53 j) ∧ (N1 53 5 = M0 53 5 ∧ N1 53 6 = M0 53 6 ∧ N1 53 7 = M0 53 7) ∧ ∀ j, j < 8 → Bk N1 M0 j
  | 0, i, n, N, hi, hn, hF, hD, hH => by
    obtain ⟨n, rfl⟩ : ∃ q, n = q + 1 := ⟨n - 1, by omega⟩
    refine ⟨up2 (up2 (up2 N 53 5 (N 66 40)) 53 6 (N 66 41)) 53 7 (N 66 42), ?_, fun k hk => ?_, fun j a b c => ?_, ⟨hD.2.1, hD.2.2.1, hD.2.2.2⟩, fun j hj => hH j (by omega)⟩
    · show bd_X10_back_2 _ _ _ _ = _
      unfold bd_X10_back_2
      rw [if_pos (show (8 : Int32) ≤ nI i from nI_le (a := 8) (by omega) (by omega))]
      rfl
    · rw [up2_ne _ _ _ (by omega), up2_ne _ _ _ (by omega), up2_ne _ _ _ (by omega)]; exact hF k (by omega)
    · rw [up2_at, if_neg c, up2_at, if_neg b, up2_at, if_neg a, hF 53 (by omega)]
  | m + 1, i, n, N, hi, hn, hF, hD, hH => by
    obtain ⟨n, rfl⟩ : ∃ q, n = q + 1 := ⟨n - 1, by omega⟩
    obtain ⟨N1, h1, h2⟩ := back_l (M0 := M0) (N0 := N0) v m (i + 1) n (up2 (up2 (up2 (up2 (up2 N 54 i (N 66 i)) 55 i (N 66 (8 + i))) 56 i (N 66 (16 + i))) 57 i (N 66 (24 + i))) 58 i (N 66 (32 + i))) (by omega) (by omega) (fun k hk => by rw [up2_ne _ _ _ (by omega), up2_ne _ _ _ (by omega), up2_ne _ _ _ (by omega), up2_ne _ _ _ (by omega), up2_ne _ _ _ (by omega)]; exact hF k hk) hD (fun j hj => by
      obtain ⟨d1, d2, d3, d4, d5⟩ := hD.1 j (by omega)
      show Bk _ _ _
      have g54 : up2 (up2 (up2 (up2 (up2 N 54 i (N 66 i)) 55 i (N 66 (8 + i))) 56 i (N 66 (16 + i))) 57 i (N 66 (24 + i))) 58 i (N 66 (32 + i)) 54 j = if j = i then N 66 i else N 54 j := up2_at N 54 i (N 66 i) j
      have g55 : up2 (up2 (up2 (up2 (up2 N 54 i (N 66 i)) 55 i (N 66 (8 + i))) 56 i (N 66 (16 + i))) 57 i (N 66 (24 + i))) 58 i (N 66 (32 + i)) 55 j = if j = i then N 66 (8 + i) else N 55 j := up2_at N 55 i (N 66 (8 + i)) j
      have g56 : up2 (up2 (up2 (up2 (up2 N 54 i (N 66 i)) 55 i (N 66 (8 + i))) 56 i (N 66 (16 + i))) 57 i (N 66 (24 + i))) 58 i (N 66 (32 + i)) 56 j = if j = i then N 66 (16 + i) else N 56 j := up2_at N 56 i (N 66 (16 + i)) j
      have g57 : up2 (up2 (up2 (up2 (up2 N 54 i (N 66 i)) 55 i (N 66 (8 + i))) 56 i (N 66 (16 + i))) 57 i (N 66 (24 + i))) 58 i (N 66 (32 + i)) 57 j = if j = i then N 66 (24 + i) else N 57 j := up2_at N 57 i (N 66 (24 + i)) j
      have g58 : up2 (up2 (up2 (up2 (up2 N 54 i (N 66 i)) 55 i (N 66 (8 + i))) 56 i (N 66 (16 + i))) 57 i (N 66 (24 + i))) 58 i (N 66 (32 + i)) 58 j = if j = i then N 66 (32 + i) else N 58 j := up2_at N 58 i (N 66 (32 + i)) j
      unfold Bk
      rw [g54, g55, g56, g57, g58]
      by_cases q : j = i
      · subst q
        rw [if_pos rfl, if_pos rfl, if_pos rfl, if_pos rfl, if_pos rfl]
        exact ⟨d1, d2, d3, d4, d5⟩
      · rw [if_neg q, if_neg q, if_neg q, if_neg q, if_neg q]
        exact hH j (by omega))
    refine ⟨N1, ?_, h2⟩
    show bd_X10_back_2 _ _ _ _ = _
    unfold bd_X10_back_2
    have i8 := inb_nI (show i < 8 by omega) (by decide)
    have c8 : (8 : Int32) + nI i = nI (8 + i) := nI_add 8 i
    have c16 : (16 : Int32) + nI i = nI (16 + i) := nI_add 16 i
    have c24 : (24 : Int32) + nI i = nI (24 + i) := nI_add 24 i
    have c32 : (32 : Int32) + nI i = nI (32 + i) := nI_add 32 i
    rw [if_neg (show ¬ (8 : Int32) ≤ nI i from nI_ge (b := 8) (by omega) (by omega)), i8, inb_nI (show i < 43 by omega) (by decide), c8, c16, c24, c32, inb_nI (show 8 + i < 43 by omega) (by decide), inb_nI (show 16 + i < 43 by omega) (by decide), inb_nI (show 24 + i < 43 by omega) (by decide), inb_nI (show 32 + i < 43 by omega) (by decide), ix_nI (show i < 2 ^ 31 by omega), ix_nI (show 8 + i < 2 ^ 31 by omega), ix_nI (show 16 + i < 2 ^ 31 by omega), ix_nI (show 24 + i < 2 ^ 31 by omega), ix_nI (show 32 + i < 2 ^ 31 by omega), n_s]
    exact h1
theorem back_eq {M0 N : Mem} (v : Int32) (hD : Had N M0) : ∃ N1, f_X10_back v N = some (v, N1) ∧ (∀ k, ¬ (53 ≤ k ∧ k ≤ 58) → N1 k = N k) ∧ (∀ j, j ≠ 5 → j ≠ 6 → j ≠ 7 → N1 53 j = N 53 j) ∧ (N1 53 5 = M0 53 5 ∧ N1 53 6 = M0 53 6 ∧ N1 53 7 = M0 53 7) ∧ ∀ j, j < 8 → Bk N1 M0 j :=
  back_l v 8 0 FU N (by omega) (FU_lt (by omega)) (fun _ _ => rfl) hD (fun j hj => by omega)
