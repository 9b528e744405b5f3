theorem sign_at {M : Mem} {n v : Nat} (hn : n ≤ 60) (hM : M 15 1 = nI n) (hv : v < n) : f_X5_signAt_15 (nI v) M = some (M 16 v) := by
  unfold f_X5_signAt_15
  rw [hM, show nI n - 1 = nI (n - 1) from pk_sub (b := 1) (by omega), if_neg, inb_nI (show v < 60 by omega) (by decide), ix_nI (by omega)]
  · rfl
  · rw [within_0, nI_toInt (by omega), nI_toInt (by omega)]
    have : (0 : Int32).toInt = 0 := rfl
    omega
theorem house_at {M : Mem} {n v h : Nat} (hn : n ≤ 60) (hM : M 15 1 = nI n) (hv : v < n) (hh : h < 8) (e : M 16 v = nI (65 + h)) : f_X5_houseAt_15 (nI v) M = some (nI h) := by
  unfold f_X5_houseAt_15
  rw [sign_at hn hM hv, Option.bind_some, e, show nI (65 + h) - 65 = nI (65 + h - 65) from pk_sub (b := 65) (by omega), show 65 + h - 65 = h by omega, if_neg (house_yes' hh)]
theorem read_eq {M : Mem} {n v w h o v' : Nat} (hn : n ≤ 60) (hM : M 15 1 = nI n) (hR : Rd (M 16) n v w h o v') : ∃ M1, f_X0_read_17_15 (nI v) M = some (nI v', M1) ∧ (M1 17 0 = sgn w ∧ M1 17 1 = nI h ∧ M1 17 2 = nI o) ∧ ∀ k, k ≠ 17 → M1 k = M k := by
  obtain ⟨hh, ho, hv, ⟨rfl, rfl, rfl, e, rfl⟩ | ⟨rfl, e, e1, e2, rfl⟩ | ⟨hw, rfl, e, e1, rfl⟩⟩ := hR
  · refine ⟨up2 (up2 (up2 M 17 0 46) 17 1 0) 17 2 0, ?_, ⟨rfl, rfl, rfl⟩, fun k hk => by rw [up2_ne _ _ _ hk, up2_ne _ _ _ hk, up2_ne _ _ _ hk]⟩
    unfold f_X0_read_17_15
    rw [sign_at hn hM (by omega), Option.bind_some, e, if_pos rfl, n_s]
  · refine ⟨up2 (up2 (up2 (up2 (up2 M 17 0 111) 17 1 0) 17 2 0) 17 1 (nI h)) 17 2 (nI o), ?_, ⟨rfl, rfl, rfl⟩, fun k hk => by rw [up2_ne _ _ _ hk, up2_ne _ _ _ hk, up2_ne _ _ _ hk, up2_ne _ _ _ hk, up2_ne _ _ _ hk]⟩
    unfold f_X0_read_17_15
    rw [sign_at hn hM (by omega), Option.bind_some, e, if_neg (by decide), if_pos rfl, n_s, house_at hn hM (v := v + 1) (M := up2 (up2 (up2 M 17 0 111) 17 1 0) 17 2 0) (by omega) hh e1, Option.bind_some, show nI v + 2 = nI (v + 2) from nI_add v 2, house_at hn hM (v := v + 2) (M := up2 (up2 (up2 (up2 M 17 0 111) 17 1 0) 17 2 0) 17 1 (nI h)) (by omega) ho e2, Option.bind_some, show nI v + 3 = nI (v + 3) from nI_add v 3]
  · refine ⟨up2 (up2 (up2 (up2 (up2 M 17 0 (nI (65 + h))) 17 1 0) 17 2 0) 17 1 (nI h)) 17 0 (sgn w), ?_, ⟨rfl, rfl, rfl⟩, fun k hk => by rw [up2_ne _ _ _ hk, up2_ne _ _ _ hk, up2_ne _ _ _ hk, up2_ne _ _ _ hk, up2_ne _ _ _ hk]⟩
    unfold f_X0_read_17_15
    rw [sign_at hn hM (by omega), Option.bind_some, e, if_neg (show ¬ nI (65 + h) = 46 from nI_is (c := 46) (by omega) (by omega) (by omega)), if_neg (show ¬ nI (65 + h) = 111 from nI_is (c := 111) (by omega) (by omega) (by omega)), house_at hn hM (v := v) (M := up2 (up2 (up2 M 17 0 (nI (65 + h))) 17 1 0) 17 2 0) (by omega) hh e, Option.bind_some, n_s, sign_at hn hM (v := v + 1) (M := up2 (up2 (up2 (up2 M 17 0 (nI (65 + h))) 17 1 0) 17 2 0) 17 1 (nI h)) (by omega), Option.bind_some, show nI v + 2 = nI (v + 2) from nI_add v 2, show up2 (up2 (up2 (up2 M 17 0 (nI (65 + h))) 17 1 0) 17 2 0) 17 1 (nI h) 16 (v + 1) = sgn w from e1]
theorem pred1 (i : Nat) : nI (i + 1) + -1 = nI i := by rw [← n_s]; grind
theorem rid_lock (mask : Int32) : ∀ i k k' M b, i ≤ 8 → i < k → i < k' → M 18 4 = b → ∃ b' M', lp_X7_noteRid_18_22 k mask (nI i + -1) M = some M' ∧ lp_X10_leastOf_6 k' mask b (nI i + -1) = some b' ∧ M' 18 4 = b' ∧ (∀ q, q ≠ 18 → M' q = M q) ∧ ∀ j, j ≠ 4 → M' 18 j = M 18 j
  | 0, k, k', M, b, hi, hk, hk', hb => by
    obtain ⟨k, rfl⟩ : ∃ q, k = q + 1 := ⟨k - 1, by omega⟩
    obtain ⟨k', rfl⟩ : ∃ q, k' = q + 1 := ⟨k' - 1, by omega⟩
    refine ⟨b, M, ?_, ?_, hb, fun _ _ => rfl, fun _ _ => rfl⟩
    · show bd_X7_noteRid_18_22 _ _ _ _ = _
      unfold bd_X7_noteRid_18_22
      rw [if_pos (by decide)]
    · show bd_X10_leastOf_6 _ _ _ _ = _
      unfold bd_X10_leastOf_6
      rw [if_pos (by decide)]
  | i + 1, k, k', M, b, hi, hk, hk', hb => by
    obtain ⟨k, rfl⟩ : ∃ q, k = q + 1 := ⟨k - 1, by omega⟩
    obtain ⟨k', rfl⟩ : ∃ q, k' = q + 1 := ⟨k' - 1, by omega⟩
    rw [pred1]
    have c1 : ∀ M, lp_X7_noteRid_18_22 (k + 1) mask (nI i) M = if f_X10_has mask (nI i) = 1 then lp_X7_noteRid_18_22 k mask (nI i + -1) (up2 M 18 4 (nI i)) else lp_X7_noteRid_18_22 k mask (nI i + -1) M := fun M => by
      show bd_X7_noteRid_18_22 _ _ _ _ = _
      unfold bd_X7_noteRid_18_22 f_X10_has
      rw [if_neg (show ¬ nI i < 0 from nI_nlt (b := 0) (by omega) (by omega))]
      by_cases q : (mask >>> (nI i &&& 31)) &&& 1 = 1
      · rw [if_pos q, if_pos q, if_pos rfl]
      · rw [if_neg q, if_neg q, if_neg (by decide)]
    have c2 : ∀ b, lp_X10_leastOf_6 (k' + 1) mask b (nI i) = if f_X10_has mask (nI i) = 0 then lp_X10_leastOf_6 k' mask b (nI i + -1) else lp_X10_leastOf_6 k' mask (nI i) (nI i + -1) := fun b => by
      show bd_X10_leastOf_6 _ _ _ _ = _
      unfold bd_X10_leastOf_6
      rw [if_neg (show ¬ nI i < 0 from nI_nlt (b := 0) (by omega) (by omega))]
    rw [c1, c2]
    rcases has_01 mask (nI i) with z | z
    · rw [z, if_neg (by decide), if_pos rfl]
      exact rid_lock mask i k k' M b (by omega) (by omega) (by omega) hb
    · rw [z, if_pos rfl, if_neg (by decide)]
      obtain ⟨b', M', r1, r2, r3, r4, r5⟩ := rid_lock mask i k k' (up2 M 18 4 (nI i)) (nI i) (by omega) (by omega) (by omega) (up2_self _ _ _ _)
      exact ⟨b', M', r1, r2, r3, fun q hq => (r4 q hq).trans (up2_ne _ _ _ hq), fun j hj => (r5 j hj).trans (by rw [up2_at, if_neg hj])⟩
