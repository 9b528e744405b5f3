theorem imC_eq {M N : Mem} (h5 : N 53 5 = M 53 5) (h6 : N 53 6 = M 53 6) (h7 : N 53 7 = M 53 7) (h10 : N 53 10 = M 53 10) (h : ∀ k, 54 ≤ k → k ≤ 60 → N k = M k) {o : Nat} (ho : o < 60) : imC N o = imC M o := by
  unfold imC
  rw [h5, h6, h7, h10, h (54 + (o - 4) / 8) (by omega) (by omega)]
/-- the reference's side of an image -/
theorem image10 {M1 : Mem} {j : Nat} (hj : j ≤ 1) : ∃ M2, f_X10_image (nI j) M1 = some (1, M2) ∧ (∀ o, o < 60 → M2 73 (70 * j + o) = imC M1 o) ∧ (∀ q, ¬ (70 * j ≤ q ∧ q < 70 * j + 60) → M2 73 q = M1 73 q) ∧ (∀ q, M2 74 q = if q = j then 1 else M1 74 q) ∧ (∀ q, q ≠ 53 → q ≠ 73 → q ≠ 74 → M2 q = M1 q) ∧ (∀ q, q ≠ 32 → q ≠ 33 → M2 53 q = M1 53 q) := by
  have e1 : f_X10_in (nI j).toInt64 0 1 = f_X9_within (nI j) 0 1 := inw rfl rfl
  have w : ¬ f_X9_within (nI j) 0 1 = 0 := by
    intro q
    refine within_0.mp q ?_
    rw [nI_toInt (by omega)]
    show (0 : Int) ≤ j ∧ (j : Int) ≤ 1
    omega
  have e70 : (70 : Int32) * nI j = nI (70 * j) := pk_mul 70 j
  have H : SW (up2 (up2 M1 53 32 (nI (70 * j))) 53 33 1) (70 * j) (imC (up2 (up2 M1 53 32 (nI (70 * j))) 53 33 1)) (up2 (up2 M1 53 32 (nI (70 * j))) 53 33 1) 0 := ⟨fun _ _ _ => rfl, fun _ _ => rfl, rfl, rfl, fun i hi => absurd hi (Nat.not_lt_zero i), fun _ _ => rfl⟩
  obtain ⟨M', p1, q1, q2, q3, q4, q5, q6⟩ := passW (by omega) H
  refine ⟨up2 M' 74 j 1, ?_, fun o ho => ?_, fun q hq => ?_, fun q => ?_, fun q a b c => ?_, fun q a b => ?_⟩
  · unfold f_X10_image
    rw [e1, if_neg w, e70, p1, Option.bind_some, inb_nI (show j < 2 by omega) (by decide), ix_nI (by omega)]
    rfl
  · rw [up2_ne _ _ _ (by decide), q5 o ho]
    exact imC_eq (M := M1) (N := up2 (up2 M1 53 32 (nI (70 * j))) 53 33 1) rfl rfl rfl rfl (fun k a b => by rw [up2_ne _ _ _ (by omega), up2_ne _ _ _ (by omega)]) ho
  · rw [up2_ne _ _ _ (by decide), q6 q (by omega), up2_ne _ _ _ (by decide), up2_ne _ _ _ (by decide)]
  · rw [up2_at, q1 74 (by decide) (by decide), up2_ne _ _ _ (by decide), up2_ne _ _ _ (by decide)]
  · rw [up2_ne _ _ _ c, q1 q a b, up2_ne _ _ _ a, up2_ne _ _ _ a]
  · rw [up2_ne _ _ _ (by decide), q2 q a, up2_at, if_neg b, up2_at, if_neg a]
theorem image9_0 (M : Mem) : ∃ M1, f_X9_image 0 M = some (1, M1) ∧ M1 33 2 = 1 ∧ Teq (M1 35) (M1 36) (M1 37) (M1 38) (M1 39) (M 2) (M 3) (M 4) (M 5) (M 6) ∧ (M1 34 6 = M 1 6 ∧ M1 34 7 = M 1 7 ∧ M1 34 8 = M 1 8) ∧ (∀ q, q ≤ 40 → M1 42 q = M 20 q) ∧ (M1 41 1 = M 19 1 ∧ M1 41 2 = M 19 2) ∧ ∀ k, ¬ (33 ≤ k ∧ k ≤ 42) → M1 k = M k := by
  refine ⟨_, (by unfold f_X9_image; rw [if_neg (by decide), if_pos rfl]; rfl), rfl, ?_, ⟨rfl, rfl, rfl⟩, ?_, ⟨rfl, rfl⟩, ?_⟩
  · intro i hi
    exact ⟨cpy_lt hi, cpy_lt hi, cpy_lt hi, cpy_lt hi, cpy_lt hi⟩
  · intro q hq
    exact cpy_lt (by omega)
  · intro k hk
    rw [up2_ne _ _ _ (by omega), up2_ne _ _ _ (by omega), up2_ne _ _ _ (by omega), upA_ne _ _ (by omega), up2_ne _ _ _ (by omega), up2_ne _ _ _ (by omega), up2_ne _ _ _ (by omega), upA_ne _ _ (by omega), upA_ne _ _ (by omega), upA_ne _ _ (by omega), upA_ne _ _ (by omega), upA_ne _ _ (by omega)]
theorem image9_1 (M : Mem) : ∃ M1, f_X9_image 1 M = some (1, M1) ∧ M1 43 2 = 1 ∧ Teq (M1 45) (M1 46) (M1 47) (M1 48) (M1 49) (M 2) (M 3) (M 4) (M 5) (M 6) ∧ (M1 44 6 = M 1 6 ∧ M1 44 7 = M 1 7 ∧ M1 44 8 = M 1 8) ∧ (∀ q, q ≤ 40 → M1 52 q = M 20 q) ∧ (M1 51 1 = M 19 1 ∧ M1 51 2 = M 19 2) ∧ ∀ k, ¬ (43 ≤ k ∧ k ≤ 52) → M1 k = M k := by
  refine ⟨_, (by unfold f_X9_image; rw [if_neg (by decide), if_neg (by decide), if_pos rfl]; rfl), rfl, ?_, ⟨rfl, rfl, rfl⟩, ?_, ⟨rfl, rfl⟩, ?_⟩
  · intro i hi
    exact ⟨cpy_lt hi, cpy_lt hi, cpy_lt hi, cpy_lt hi, cpy_lt hi⟩
  · intro q hq
    exact cpy_lt (by omega)
  · intro k hk
    rw [up2_ne _ _ _ (by omega), up2_ne _ _ _ (by omega), up2_ne _ _ _ (by omega), upA_ne _ _ (by omega), up2_ne _ _ _ (by omega), up2_ne _ _ _ (by omega), up2_ne _ _ _ (by omega), upA_ne _ _ (by omega), upA_ne _ _ (by omega), upA_ne _ _ (by omega), upA_ne _ _ (by omega), upA_ne _ _ (by omega)]
theorem m_image {M : Mem} (h : Inv M) (v : Int32) : Alike M (f_X9_image v) (f_X10_image v) := by
  have e1 : f_X10_in v.toInt64 0 1 = f_X9_within v 0 1 := inw rfl rfl
  rcases within_or v 1 (by decide) with h1 | ⟨j, hj, rfl, h1⟩
  · refine same_refused h (r := -2) ?_ ?_
    · unfold f_X9_image; rw [if_pos h1]
    · unfold f_X10_image; rw [if_pos (e1.trans h1)]
  obtain ⟨hn, hp, hs, i0, i1, hh⟩ := h
  rcases (show j = 0 ∨ j = 1 by omega) with rfl | rfl
  · obtain ⟨M1, a1, a2, a3, a4, a5, a6, a7⟩ := image9_0 M
    obtain ⟨M2, b1, b2, b3, b4, b5, b6⟩ := image10 (M1 := M1) (j := 0) (by omega)
    have fr : ∀ k, ¬ (33 ≤ k ∧ k ≤ 42) → k ≠ 53 → k ≠ 73 → k ≠ 74 → M2 k = M k := fun k w x y z => (b5 k x y z).trans (a7 k w)
    have f53 : ∀ q, q ≠ 32 → q ≠ 33 → M2 53 q = M 53 q := fun q x y => (b6 q x y).trans (congrFun (a7 53 (by decide)) q)
    refine ⟨1, M1, M2, a1, b1, ?_, ?_, ?_, ?_, ?_, ?_⟩
    · exact Now_eq (fun k x y => fr k (by omega) (by omega) (by omega) (by omega)) (fun k x y => fr k (by omega) (by omega) (by omega) (by omega)) (f53 5 (by decide) (by decide)) (f53 6 (by decide) (by decide)) (f53 7 (by decide) (by decide)) hn
    · exact Pd_eq (fr 15 (by decide) (by decide) (by decide) (by decide)) (fr 16 (by decide) (by decide) (by decide) (by decide)) (fr 61 (by decide) (by decide) (by decide) (by decide)) (f53 12 (by decide) (by decide)) hp
    · exact Sgs_eq (fr 19 (by decide) (by decide) (by decide) (by decide)) (fr 20 (by decide) (by decide) (by decide) (by decide)) (fr 59 (by decide) (by decide) (by decide) (by decide)) (fr 60 (by decide) (by decide) (by decide) (by decide)) (f53 10 (by decide) (by decide)) hs
    · refine image_core (M := M) (M1 := M1) (M2 := M2) (c := 33) (t := 34) (s := 41) (b := 0) (j := 0) (by omega) hn hs a2 a3 a4 a5 a6 (fun o ho => ?_) ?_ (fun q hq => b5 q (by omega) (by omega) (by omega)) (by omega) (by omega) (by omega)
      · rw [b2 o ho]
        exact imC_eq (congrFun (a7 53 (by decide)) 5) (congrFun (a7 53 (by decide)) 6) (congrFun (a7 53 (by decide)) 7) (congrFun (a7 53 (by decide)) 10) (fun k x y => a7 k (by omega)) ho
      · rw [b4, if_pos rfl]
    · refine Im_keep (fun k hk => fr k (by omega) (by omega) (by omega) (by omega)) (fun o ho => ?_) ?_ i1
      · rw [b3 _ (by omega), a7 73 (by decide)]
      · rw [b4, if_neg (by decide), a7 74 (by decide)]
    · exact Hr_eq (fr 26 (by decide) (by decide) (by decide) (by decide)) (fr 27 (by decide) (by decide) (by decide) (by decide)) hh
  · obtain ⟨M1, a1, a2, a3, a4, a5, a6, a7⟩ := image9_1 M
    obtain ⟨M2, b1, b2, b3, b4, b5, b6⟩ := image10 (M1 := M1) (j := 1) (by omega)
    have fr : ∀ k, ¬ (43 ≤ k ∧ k ≤ 52) → k ≠ 53 → k ≠ 73 → k ≠ 74 → M2 k = M k := fun k w x y z => (b5 k x y z).trans (a7 k w)
    have f53 : ∀ q, q ≠ 32 → q ≠ 33 → M2 53 q = M 53 q := fun q x y => (b6 q x y).trans (congrFun (a7 53 (by decide)) q)
    refine ⟨1, M1, M2, a1, b1, ?_, ?_, ?_, ?_, ?_, ?_⟩
    · exact Now_eq (fun k x y => fr k (by omega) (by omega) (by omega) (by omega)) (fun k x y => fr k (by omega) (by omega) (by omega) (by omega)) (f53 5 (by decide) (by decide)) (f53 6 (by decide) (by decide)) (f53 7 (by decide) (by decide)) hn
    · exact Pd_eq (fr 15 (by decide) (by decide) (by decide) (by decide)) (fr 16 (by decide) (by decide) (by decide) (by decide)) (fr 61 (by decide) (by decide) (by decide) (by decide)) (f53 12 (by decide) (by decide)) hp
    · exact Sgs_eq (fr 19 (by decide) (by decide) (by decide) (by decide)) (fr 20 (by decide) (by decide) (by decide) (by decide)) (fr 59 (by decide) (by decide) (by decide) (by decide)) (fr 60 (by decide) (by decide) (by decide) (by decide)) (f53 10 (by decide) (by decide)) hs
    · refine Im_keep (fun k hk => fr k (by omega) (by omega) (by omega) (by omega)) (fun o ho => ?_) ?_ i0
      · rw [b3 _ (by omega), a7 73 (by decide)]
      · rw [b4, if_neg (by decide), a7 74 (by decide)]
    · refine image_core (M := M) (M1 := M1) (M2 := M2) (c := 43) (t := 44) (s := 51) (b := 70) (j := 1) (by omega) hn hs a2 a3 a4 a5 a6 (fun o ho => ?_) ?_ (fun q hq => b5 q (by omega) (by omega) (by omega)) (by omega) (by omega) (by omega)
      · have := b2 o ho
        rw [show 70 * 1 = 70 from rfl] at this
        rw [this]
        exact imC_eq (congrFun (a7 53 (by decide)) 5) (congrFun (a7 53 (by decide)) 6) (congrFun (a7 53 (by decide)) 7) (congrFun (a7 53 (by decide)) 10) (fun k x y => a7 k (by omega)) ho
      · rw [b4, if_pos rfl]
    · exact Hr_eq (fr 26 (by decide) (by decide) (by decide) (by decide)) (fr 27 (by decide) (by decide) (by decide) (by decide)) hh
/-- the reference's side of coming back -/
theorem restore10 {M1 : Mem} {j : Nat} (hj : j ≤ 1) (hk : ¬ M1 74 j = 0) : ∃ M2, f_X10_restore (nI j) M1 = some (1, M2) ∧ M2 73 = M1 73 ∧ ∀ k q, ¬ (k = 53 ∧ (q = 32 ∨ q = 33)) → M2 k q = match idx k q with
    | some o => M1 73 (70 * j + o)
    | none => M1 k q := by
  have e1 : f_X10_in (nI j).toInt64 0 1 = f_X9_within (nI j) 0 1 := inw rfl rfl
  have w : ¬ f_X9_within (nI j) 0 1 = 0 := by
    intro q
    refine within_0.mp q ?_
    rw [nI_toInt (by omega)]
    show (0 : Int) ≤ j ∧ (j : Int) ≤ 1
    omega
  have e70 : (70 : Int32) * nI j = nI (70 * j) := pk_mul 70 j
  have H : SR (up2 (up2 M1 53 32 (nI (70 * j))) 53 33 0) (70 * j) (up2 (up2 M1 53 32 (nI (70 * j))) 53 33 0) 0 (70 * j) := by
    refine ⟨rfl, rfl, rfl, fun k q _ => ?_⟩
    cases idx k q with
    | none => rfl
    | some o => exact (if_neg (Nat.not_lt_zero o)).symm
  obtain ⟨M', p1, q1, q2, q3, q4⟩ := passR (by omega) H
  refine ⟨M', ?_, q1, fun k q hkq => ?_⟩
  · unfold f_X10_restore
    rw [e1, if_neg w, inb_nI (show j < 2 by omega) (by decide), ix_nI (by omega), e70, p1]
    show (if M1 74 j = 0 then _ else _) = _
    rw [if_neg hk]
    rfl
  · rw [q4 k q (fun z => hkq ⟨z.1, Or.inl z.2⟩)]
    have e2 : up2 (up2 M1 53 32 (nI (70 * j))) 53 33 0 k q = M1 k q := by
      by_cases z : k = 53
      · subst z
        rw [up2_at, if_neg (fun y => hkq ⟨rfl, Or.inr y⟩), up2_at, if_neg (fun y => hkq ⟨rfl, Or.inl y⟩)]
      · rw [up2_ne _ _ _ z, up2_ne _ _ _ z]
    have e3 : up2 (up2 M1 53 32 (nI (70 * j))) 53 33 0 73 = M1 73 := by rw [up2_ne _ _ _ (by decide), up2_ne _ _ _ (by decide)]
    cases hi : idx k q with
    | none => exact e2
    | some o =>
      show (if o < 60 then _ else _) = _
      have ho : o < 60 := by
        unfold idx at hi
        repeat' split at hi
        all_goals first | (injection hi with hi; omega) | (cases hi; done)
      rw [if_pos ho, e3]
theorem restore9_0 (M : Mem) (hk : ¬ M 33 2 = 0) : ∃ M1, f_X9_restore 0 M = some (1, M1) ∧ Teq (M1 2) (M1 3) (M1 4) (M1 5) (M1 6) (M 35) (M 36) (M 37) (M 38) (M 39) ∧ (M1 1 6 = M 34 6 ∧ M1 1 7 = M 34 7 ∧ M1 1 8 = M 34 8) ∧ (∀ q, q ≤ 40 → M1 20 q = M 42 q) ∧ (M1 19 1 = M 41 1 ∧ M1 19 2 = M 41 2) ∧ ∀ k, ¬ (1 ≤ k ∧ k ≤ 6) → k ≠ 19 → k ≠ 20 → M1 k = M k := by
  refine ⟨_, (by unfold f_X9_restore; rw [if_neg (by decide), if_pos rfl, if_neg hk]; rfl), ?_, ⟨rfl, rfl, rfl⟩, ?_, ⟨rfl, rfl⟩, ?_⟩
  · intro i hi
    exact ⟨cpy_lt hi, cpy_lt hi, cpy_lt hi, cpy_lt hi, cpy_lt hi⟩
  · intro q hq
    exact cpy_lt (by omega)
  · intro k hk a b
    rw [up2_ne _ _ _ (by omega), up2_ne _ _ _ (by omega), upA_ne _ _ (by omega), up2_ne _ _ _ (by omega), up2_ne _ _ _ (by omega), up2_ne _ _ _ (by omega), upA_ne _ _ (by omega), upA_ne _ _ (by omega), upA_ne _ _ (by omega), upA_ne _ _ (by omega), upA_ne _ _ (by omega)]
theorem restore9_1 (M : Mem) (hk : ¬ M 43 2 = 0) : ∃ M1, f_X9_restore 1 M = some (1, M1) ∧ Teq (M1 2) (M1 3) (M1 4) (M1 5) (M1 6) (M 45) (M 46) (M 47) (M 48) (M 49) ∧ (M1 1 6 = M 44 6 ∧ M1 1 7 = M 44 7 ∧ M1 1 8 = M 44 8) ∧ (∀ q, q ≤ 40 → M1 20 q = M 52 q) ∧ (M1 19 1 = M 51 1 ∧ M1 19 2 = M 51 2) ∧ ∀ k, ¬ (1 ≤ k ∧ k ≤ 6) → k ≠ 19 → k ≠ 20 → M1 k = M k := by
  refine ⟨_, (by unfold f_X9_restore; rw [if_neg (by decide), if_neg (by decide), if_pos rfl, if_neg hk]; rfl), ?_, ⟨rfl, rfl, rfl⟩, ?_, ⟨rfl, rfl⟩, ?_⟩
  · intro i hi
    exact ⟨cpy_lt hi, cpy_lt hi, cpy_lt hi, cpy_lt hi, cpy_lt hi⟩
  · intro q hq
    exact cpy_lt (by omega)
  · intro k hk a b
    rw [up2_ne _ _ _ (by omega), up2_ne _ _ _ (by omega), upA_ne _ _ (by omega), up2_ne _ _ _ (by omega), up2_ne _ _ _ (by omega), up2_ne _ _ _ (by omega), upA_ne _ _ (by omega), upA_ne _ _ (by omega), upA_ne _ _ (by omega), upA_ne _ _ (by omega), upA_ne _ _ (by omega)]
theorem idx_low {k q : Nat} (h : k < 53 ∨ 60 < k) : idx k q = none := by
  unfold idx
  rw [if_neg (by omega), if_neg (by omega), if_neg (by omega), if_neg (by omega), if_neg (by omega)]
/-- all is as it was when the image was kept -/
theorem restore_core {M M1 M2 : Mem} {c t s j : Nat} (hj : j ≤ 1) (hI : Inv M) (hIm : Im M c t s (70 * j) j) (hk : M c 2 = 1) (a3 : Teq (M1 2) (M1 3) (M1 4) (M1 5) (M1 6) (M (t + 1)) (M (t + 2)) (M (t + 3)) (M (t + 4)) (M (t + 5))) (a4 : M1 1 6 = M t 6 ∧ M1 1 7 = M t 7 ∧ M1 1 8 = M t 8) (a5 : ∀ q, q ≤ 40 → M1 20 q = M (s + 1) q) (a6 : M1 19 1 = M s 1 ∧ M1 19 2 = M s 2) (a7 : ∀ k, ¬ (1 ≤ k ∧ k ≤ 6) → k ≠ 19 → k ≠ 20 → M1 k = M k)
    (b2 : M2 73 = M1 73) (b3 : ∀ k q, ¬ (k = 53 ∧ (q = 32 ∨ q = 33)) → M2 k q = match idx k q with
      | some o => M1 73 (70 * j + o)
      | none => M1 k q) : Inv M2 := by
  obtain ⟨hn, hp, hs, i0, i1, hh⟩ := hI
  obtain ⟨m1, m2, m3⟩ := hIm
  obtain ⟨t1, ⟨t2, t3, t4⟩, t5, t6⟩ := m3 hk
  have low : ∀ k, k < 53 → M2 k = M1 k := fun k hk => funext fun q => by rw [b3 k q (by omega), idx_low (Or.inl hk)]
  have high : ∀ k, 60 < k → M2 k = M1 k := fun k hk => funext fun q => by rw [b3 k q (by omega), idx_low (Or.inr hk)]
  have e73 : M1 73 = M 73 := a7 73 (by decide) (by decide) (by decide)
  have row : ∀ r i, 54 ≤ r → r ≤ 60 → i < 8 → M2 r i = M 73 (70 * j + (4 + 8 * (r - 54) + i)) := fun r i h1 h2 h3 => by rw [b3 r i (by omega), idx_row ⟨h1, h2, h3⟩, ← e73]
  have sc5 : M2 53 5 = M 73 (70 * j) := by rw [b3 53 5 (by decide), ← e73]; rfl
  have sc6 : M2 53 6 = M 73 (70 * j + 1) := by rw [b3 53 6 (by decide), ← e73]; rfl
  have sc7 : M2 53 7 = M 73 (70 * j + 2) := by rw [b3 53 7 (by decide), ← e73]; rfl
  have sc10 : M2 53 10 = M 73 (70 * j + 3) := by rw [b3 53 10 (by decide), ← e73]; rfl
  have sc12 : M2 53 12 = M 53 12 := by
    rw [b3 53 12 (by decide)]
    exact congrFun (a7 53 (by decide) (by decide) (by decide)) 12
  refine ⟨⟨?_, ⟨?_, ?_, ?_⟩, ?_⟩, ?_, ?_, ?_, ?_, ?_⟩
  · intro i hi
    obtain ⟨q1, q2, q3, q4, q5⟩ := a3 i hi
    obtain ⟨z1, z2, z3, z4, z5⟩ := t1 i hi
    rw [low 2 (by omega), low 3 (by omega), low 4 (by omega), low 5 (by omega), low 6 (by omega), row 54 i (by omega) (by omega) hi, row 55 i (by omega) (by omega) hi, row 56 i (by omega) (by omega) hi, row 57 i (by omega) (by omega) hi, row 58 i (by omega) (by omega) hi]
    refine ⟨?_, ?_, ?_, ?_, ?_⟩
    · exact q1.trans (z1.trans (congrArg (M 73) (show 70 * j + 4 + i = 70 * j + (4 + 8 * (54 - 54) + i) by omega)))
    · exact q2.trans (z2.trans (congrArg (M 73) (show 70 * j + 12 + i = 70 * j + (4 + 8 * (55 - 54) + i) by omega)))
    · exact q3.trans (z3.trans (congrArg (M 73) (show 70 * j + 20 + i = 70 * j + (4 + 8 * (56 - 54) + i) by omega)))
    · exact q4.trans (z4.trans (congrArg (M 73) (show 70 * j + 28 + i = 70 * j + (4 + 8 * (57 - 54) + i) by omega)))
    · exact q5.trans (z5.trans (congrArg (M 73) (show 70 * j + 36 + i = 70 * j + (4 + 8 * (58 - 54) + i) by omega)))
  · rw [low 1 (by omega), sc5, a4.1, t2]
  · rw [low 1 (by omega), sc6, a4.2.1, t3]
  · rw [low 1 (by omega), sc7, a4.2.2, t4]
  · rw [low 1 (by omega), low 2 (by omega), low 3 (by omega), low 4 (by omega), low 5 (by omega), low 6 (by omega), a4.1, a4.2.2]
    exact Tok_congr a3 t5
  · exact Pd_eq ((low 15 (by omega)).trans (a7 15 (by decide) (by decide) (by decide))) ((low 16 (by omega)).trans (a7 16 (by decide) (by decide) (by decide))) ((high 61 (by omega)).trans (a7 61 (by decide) (by decide) (by decide))) sc12 hp
  · unfold Sgs
    rw [low 19 (by omega), low 20 (by omega), sc10, a6.1, a6.2]
    refine Sg_congr a5 (fun e he => ?_) (fun e he => ?_) t6
    · rw [row 59 e (by omega) (by omega) he]; congr 1; omega
    · rw [row 60 e (by omega) (by omega) he]; congr 1; omega
  · refine Im_keep (fun k hk => (low k (by omega)).trans (a7 k (by omega) (by omega) (by omega))) (fun o ho => by rw [b2, e73]) ?_ i0
    rw [high 74 (by omega), a7 74 (by decide) (by decide) (by decide)]
  · refine Im_keep (fun k hk => (low k (by omega)).trans (a7 k (by omega) (by omega) (by omega))) (fun o ho => by rw [b2, e73]) ?_ i1
    rw [high 74 (by omega), a7 74 (by decide) (by decide) (by decide)]
  · exact Hr_eq ((low 26 (by omega)).trans (a7 26 (by decide) (by decide) (by decide))) ((low 27 (by omega)).trans (a7 27 (by decide) (by decide) (by decide))) hh
theorem m_restore {M : Mem} (h : Inv M) (v : Int32) : Alike M (f_X9_restore v) (f_X10_restore v) := by
  have e1 : f_X10_in v.toInt64 0 1 = f_X9_within v 0 1 := inw rfl rfl
  rcases within_or v 1 (by decide) with h1 | ⟨j, hj, rfl, h1⟩
  · refine same_refused h (r := -2) ?_ ?_
    · unfold f_X9_restore; rw [if_pos h1]
    · unfold f_X10_restore; rw [if_pos (e1.trans h1)]
  have h1' : ¬ f_X9_within (nI j) 0 1 = 0 := by rw [h1]; decide
  obtain ⟨hn, hp, hs, i0, i1, hh⟩ := id h
  rcases (show j = 0 ∨ j = 1 by omega) with rfl | rfl
  · by_cases q : M 33 2 = 0
    · refine same_refused h (r := -3) ?_ ?_
      · unfold f_X9_restore
        rw [if_neg h1', if_pos (show nI 0 = 0 from rfl), if_pos q]
      · unfold f_X10_restore
        rw [e1, if_neg h1', inb_nI (show 0 < 2 by omega) (by decide), ix_nI (by omega)]
        show (if M 74 0 = 0 then _ else _) = _
        rw [if_pos (by rw [← i0.1]; exact q)]
    · obtain ⟨M1, a1, a3, a4, a5, a6, a7⟩ := restore9_0 M q
      have e74 : M1 74 = M 74 := a7 74 (by decide) (by decide) (by decide)
      obtain ⟨M2, b1, b2, b3⟩ := restore10 (M1 := M1) (j := 0) (by omega) (by rw [e74, ← i0.1]; exact q)
      exact ⟨1, M1, M2, a1, b1, restore_core (M := M) (M1 := M1) (c := 33) (t := 34) (s := 41) (j := 0) (by omega) h i0 (i0.2.1.resolve_left q) a3 a4 a5 a6 a7 b2 b3⟩
  · by_cases q : M 43 2 = 0
    · refine same_refused h (r := -3) ?_ ?_
      · unfold f_X9_restore
        rw [if_neg h1', if_neg (show ¬ nI 1 = 0 by decide), if_pos (show nI 1 = 1 from rfl), if_pos q]
      · unfold f_X10_restore
        rw [e1, if_neg h1', inb_nI (show 1 < 2 by omega) (by decide), ix_nI (by omega)]
        show (if M 74 1 = 0 then _ else _) = _
        rw [if_pos (by rw [← i1.1]; exact q)]
    · obtain ⟨M1, a1, a3, a4, a5, a6, a7⟩ := restore9_1 M q
      have e74 : M1 74 = M 74 := a7 74 (by decide) (by decide) (by decide)
      obtain ⟨M2, b1, b2, b3⟩ := restore10 (M1 := M1) (j := 1) (by omega) (by rw [e74, ← i1.1]; exact q)
      exact ⟨1, M1, M2, a1, b1, restore_core (M := M) (M1 := M1) (c := 43) (t := 44) (s := 51) (j := 1) (by omega) h i1 (i1.2.1.resolve_left q) a3 a4 a5 a6 a7 b2 b3⟩
