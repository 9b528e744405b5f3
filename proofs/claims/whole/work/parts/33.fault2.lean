theorem cls_step {M : Mem} {n i : Nat} (hn : n ≤ 60) (hM : M 15 1 = nI n) (hi : i < n) (k : Nat) (s : Int32) : lp_X5_faultPlace_15_4 M (k + 1) s (nI i) = if f_X5_awaitedBehind (M 16 i) s = 4 then some (nI i) else lp_X5_faultPlace_15_4 M k (f_X5_awaitedBehind (M 16 i) s) (nI (i + 1)) := by
  show bd_X5_faultPlace_15_4 _ _ _ _ = _
  unfold bd_X5_faultPlace_15_4
  rw [hM, if_neg (nI_ge hi (by omega)), inb_nI (show i < 60 by omega) (by decide), ix_nI (by omega), n_s]
  rfl
theorem cls_end {M : Mem} {n : Nat} (hn : n ≤ 60) (hM : M 15 1 = nI n) (k : Nat) (s : Int32) : lp_X5_faultPlace_15_4 M (k + 1) s (nI n) = if s = 0 then some (-6) else some (nI n) := by
  show bd_X5_faultPlace_15_4 _ _ _ _ = _
  unfold bd_X5_faultPlace_15_4
  rw [hM, if_pos (nI_le (Nat.le_refl _) (by omega))]
theorem ref_end {N : Mem} {n : Nat} (hn : n ≤ 60) (hM : N 53 12 = nI n) (k : Nat) (s : Int32) : lp_X10_fault_9 (k + 1) s (nI n) N = if s = 0 then some (-6, N) else some (nI n, N) := by
  show bd_X10_fault_9 _ _ _ _ = _
  unfold bd_X10_fault_9
  rw [hM, if_pos (nI_le (Nat.le_refl _) (by omega))]
theorem ref_0 {N : Mem} {n i : Nat} (hn : n ≤ 60) (hM : N 53 12 = nI n) (hi : i < n) (k : Nat) : lp_X10_fault_9 (k + 1) 0 (nI i) N = (f_X10_begin (N 61 i) N).bind fun q => if 0 ≤ q.1 then lp_X10_fault_9 k q.1 (nI (i + 1)) q.2 else some (nI i, q.2) := by
  show bd_X10_fault_9 _ _ _ _ = _
  unfold bd_X10_fault_9 lb_X10_fault_63
  rw [hM, if_neg (nI_ge hi (by omega)), if_pos rfl, inb_nI (show i < 60 by omega) (by decide), ix_nI (by omega), n_s]
  rfl
theorem ref_1 {N : Mem} {n i : Nat} (hn : n ≤ 60) (hM : N 53 12 = nI n) (hi : i < n) (k : Nat) : lp_X10_fault_9 (k + 1) 1 (nI i) N = (f_X10_deed (N 61 i) N).bind fun q => if 0 ≤ q.1 then lp_X10_fault_9 k q.1 (nI (i + 1)) q.2 else some (nI i, q.2) := by
  show bd_X10_fault_9 _ _ _ _ = _
  unfold bd_X10_fault_9 lb_X10_fault_63
  rw [hM, if_neg (nI_ge hi (by omega)), if_neg (by decide), if_pos rfl, inb_nI (show i < 60 by omega) (by decide), ix_nI (by omega), n_s]
  rfl
theorem ref_2 {N : Mem} {n i : Nat} (hn : n ≤ 60) (hM : N 53 12 = nI n) (hi : i < n) (k : Nat) (s : Int32) (hs0 : ¬ s = 0) (hs1 : ¬ s = 1) : lp_X10_fault_9 (k + 1) s (nI i) N = (f_X10_end s (N 61 i) N).bind fun q => if 0 ≤ q.1 then lp_X10_fault_9 k q.1 (nI (i + 1)) q.2 else some (nI i, q.2) := by
  show bd_X10_fault_9 _ _ _ _ = _
  unfold bd_X10_fault_9 lb_X10_fault_63
  rw [hM, if_neg (nI_ge hi (by omega)), if_neg hs0, if_neg hs1, inb_nI (show i < 60 by omega) (by decide), ix_nI (by omega), n_s]
  rfl
theorem end_eq {N : Mem} {a : Nat} {c s : Int32} (ha : a < 60) (e : N 53 16 = nI a) : f_X10_end s c N = if f_X10_isName c = 0 then some (-6, N) else if s = 2 then some (3, up2 N 63 a (c - 65)) else f_X10_close 5 (up2 N 64 a (c - 65)) := by
  have bs : ∀ x : Option (Int32 × Mem), (x.bind fun q => some (q.1, q.2)) = x := fun x => by cases x <;> rfl
  unfold f_X10_end
  rw [e, inb_nI ha (by decide), ix_nI (by omega), bs]
  rfl
theorem Fr1 (N : Mem) {k : Nat} (hk : k = 62 ∨ k = 63 ∨ k = 64) (j : Nat) (x : Int32) : FrF N (up2 N k j x) := ⟨fun q a b c d => up2_ne _ _ _ (by rcases hk with h | h | h <;> rw [h] <;> assumption), fun q _ => by rw [up2_ne _ _ _ (by rcases hk with h | h | h <;> rw [h] <;> decide)]⟩
theorem Fr2 (N : Mem) (x : Int32) : FrF N (up2 N 53 16 x) := ⟨fun q a b c d => up2_ne _ _ _ a, fun q h => by rw [up2_at, if_neg h]⟩
theorem up2_lo (M : Mem) (k : Nat) {j i : Nat} (x : Int32) (h : i < j) : up2 M k j x k i = M k i := by rw [up2_at, if_neg (by omega)]
theorem up2_self (M : Mem) (k j : Nat) (x : Int32) : up2 M k j x k j = x := by rw [up2_at, if_pos rfl]
/-- the fault, and the acts that the reference writes down -/
theorem fault0 {M : Mem} {n : Nat} (hn : n ≤ 60) (hM : M 15 1 = nI n) : ∀ b i k k' N a, n ≤ i + b → i ≤ n → n - i < k → n - i < k' → N 53 12 = nI n → (∀ j, j < n → N 61 j = M 16 j) → N 53 16 = nI a → a ≤ i →
    ∃ r N1, lp_X5_faultPlace_15_4 M k 0 (nI i) = some r ∧ lp_X10_fault_9 k' 0 (nI i) N = some (r, N1) ∧ Res (M 16) n N a i r N1 := by
  intro b
  induction b with
  | zero =>
    intro i k k' N a hb hi hk hk' hp hj ha hai
    obtain ⟨k, rfl⟩ : ∃ q, k = q + 1 := ⟨k - 1, by omega⟩
    obtain ⟨k', rfl⟩ : ∃ q, k' = q + 1 := ⟨k' - 1, by omega⟩
    have : i = n := by omega
    subst this
    refine ⟨-6, N, ?_, ?_, ⟨fun _ _ _ _ _ => rfl, fun _ _ => rfl⟩, fun _ _ => ⟨rfl, rfl, rfl⟩, Or.inl ⟨rfl, [], rfl, ha, trivial⟩⟩
    · rw [cls_end hn hM, if_pos rfl]
    · rw [ref_end hn hp, if_pos rfl]
  | succ b ih =>
    intro i k k' N a hb hi hk hk' hp hj ha hai
    obtain ⟨k, rfl⟩ : ∃ q, k = q + 1 := ⟨k - 1, by omega⟩
    obtain ⟨k', rfl⟩ : ∃ q, k' = q + 1 := ⟨k' - 1, by omega⟩
    by_cases hin : i = n
    · subst hin
      refine ⟨-6, N, ?_, ?_, ⟨fun _ _ _ _ _ => rfl, fun _ _ => rfl⟩, fun _ _ => ⟨rfl, rfl, rfl⟩, Or.inl ⟨rfl, [], rfl, ha, trivial⟩⟩
      · rw [cls_end hn hM, if_pos rfl]
      · rw [ref_end hn hp, if_pos rfl]
    have hi' : i < n := by omega
    have a60 : a < 60 := by omega
    obtain ⟨k, rfl⟩ : ∃ q, k = q + 1 := ⟨k - 1, by omega⟩
    obtain ⟨k', rfl⟩ : ∃ q, k' = q + 1 := ⟨k' - 1, by omega⟩
    rw [cls_step hn hM hi', ref_0 hn hp hi', hj i hi', begin_eq (h := 0) a60 ha]
    rcases name_or (M 16 i) with ⟨c1, c2⟩ | ⟨h, hh, hc, c1, c2, c3⟩
    · rw [if_pos c2]
      have frN : ∀ x, FrF N (up2 (up2 N 63 a x) 64 a 0) := fun x => (Fr1 N (Or.inr (Or.inl rfl)) a x).tr (Fr1 _ (Or.inr (Or.inr rfl)) a 0)
      have lwN : ∀ x, Low N (up2 (up2 N 63 a x) 64 a 0) a := fun x e he => ⟨rfl, up2_lo N 63 x he, up2_lo (up2 N 63 a x) 64 0 he⟩
      by_cases c46 : M 16 i = 46
      · -- a week
        rw [c46, if_neg (by decide), if_pos rfl, show (6 : Int32) = nI 6 from rfl, close_eq a60 (show up2 (up2 N 63 a 0) 64 a 0 53 16 = nI a from ha)]
        obtain ⟨r, N1, r1, r2, r3⟩ := ih (i + 1) (k + 1) (k' + 1) (up2 (up2 (up2 (up2 N 63 a 0) 64 a 0) 62 a (nI 6)) 53 16 (nI (a + 1))) (a + 1) (by omega) (by omega) (by omega) (by omega) hp hj (up2_self _ _ _ _) (by omega)
        refine ⟨r, N1, ?_, ?_, Res_cons (w := 6) (h := 0) (o := 0) (i' := i + 1) (((frN 0).tr (Fr1 _ (Or.inl rfl) a _)).tr (Fr2 _ _)) (fun e he => ⟨up2_lo _ 62 _ he, (lwN 0 e he).2.1, (lwN 0 e he).2.2⟩) ⟨up2_self _ 62 a _, up2_self _ 63 a _, up2_self _ 64 a _⟩ ⟨by omega, by omega, by omega, Or.inl ⟨rfl, rfl, rfl, c46, rfl⟩⟩ r3⟩
        · exact r1
        · exact r2
      by_cases c111 : M 16 i = 111
      · -- a hole
        rw [c111, show f_X5_awaitedBehind 111 0 = 2 from by decide, if_neg (show ¬ (2 : Int32) = 4 by decide), if_pos rfl]
        simp only [Option.bind_some]
        rw [if_pos (show (0 : Int32) ≤ 2 by decide)]
        by_cases hin2 : i + 1 = n
        · refine ⟨nI n, up2 (up2 N 63 a 0) 64 a 0, ?_, ?_, frN 0, lwN 0, Or.inr ⟨n, by omega, rfl⟩⟩
          · rw [hin2, cls_end hn hM, if_neg (by decide)]
          · rw [hin2, ref_end hn (show up2 (up2 N 63 a 0) 64 a 0 53 12 = nI n from hp), if_neg (by decide)]
        have hi2 : i + 1 < n := by omega
        obtain ⟨k, rfl⟩ : ∃ q, k = q + 1 := ⟨k - 1, by omega⟩
        obtain ⟨k', rfl⟩ : ∃ q, k' = q + 1 := ⟨k' - 1, by omega⟩
        rw [cls_step hn hM hi2, ref_2 hn (show up2 (up2 N 63 a 0) 64 a 0 53 12 = nI n from hp) hi2 _ 2 (by decide) (by decide), show up2 (up2 N 63 a 0) 64 a 0 61 (i + 1) = M 16 (i + 1) from hj _ hi2, end_eq a60 (show up2 (up2 N 63 a 0) 64 a 0 53 16 = nI a from ha)]
        rcases name_or (M 16 (i + 1)) with ⟨g1, g2⟩ | ⟨h, hh, hg, g1, g2, g3⟩
        · refine ⟨nI (i + 1), up2 (up2 N 63 a 0) 64 a 0, ?_, ?_, frN 0, lwN 0, Or.inr ⟨i + 1, by omega, rfl⟩⟩
          · have aw4 : f_X5_awaitedBehind (M 16 (i + 1)) 2 = 4 := by
              unfold f_X5_awaitedBehind
              rw [if_neg (by decide), if_neg (by decide), if_pos rfl, if_pos g1]
            rw [aw4, if_pos rfl]
          · rw [if_pos g2]
            rfl
        have aw2 : f_X5_awaitedBehind (M 16 (i + 1)) 2 = 3 := by
          unfold f_X5_awaitedBehind
          rw [if_neg (by decide), if_neg (by decide), if_pos rfl, if_neg (by rw [g1]; decide)]
        rw [aw2, if_neg (show ¬ (3 : Int32) = 4 by decide), if_neg (show ¬ f_X10_isName (M 16 (i + 1)) = 0 by rw [g2]; decide), if_pos rfl, g3]
        simp only [Option.bind_some]
        rw [if_pos (show (0 : Int32) ≤ 3 by decide)]
        have frH : FrF N (up2 (up2 (up2 N 63 a 0) 64 a 0) 63 a (nI h)) := (frN 0).tr (Fr1 _ (Or.inr (Or.inl rfl)) a _)
        have lwH : Low N (up2 (up2 (up2 N 63 a 0) 64 a 0) 63 a (nI h)) a := fun e he => ⟨rfl, (up2_lo _ 63 _ he).trans (lwN 0 e he).2.1, (lwN 0 e he).2.2⟩
        by_cases hin3 : i + 1 + 1 = n
        · refine ⟨nI n, up2 (up2 (up2 N 63 a 0) 64 a 0) 63 a (nI h), ?_, ?_, frH, lwH, Or.inr ⟨n, by omega, rfl⟩⟩
          · rw [hin3, cls_end hn hM, if_neg (by decide)]
          · rw [hin3, ref_end hn (show up2 (up2 (up2 N 63 a 0) 64 a 0) 63 a (nI h) 53 12 = nI n from hp), if_neg (by decide)]
        have hi3 : i + 1 + 1 < n := by omega
        rw [cls_step hn hM hi3, ref_2 hn (show up2 (up2 (up2 N 63 a 0) 64 a 0) 63 a (nI h) 53 12 = nI n from hp) hi3 _ 3 (by decide) (by decide), show up2 (up2 (up2 N 63 a 0) 64 a 0) 63 a (nI h) 61 (i + 1 + 1) = M 16 (i + 1 + 1) from hj _ hi3, end_eq a60 (show up2 (up2 (up2 N 63 a 0) 64 a 0) 63 a (nI h) 53 16 = nI a from ha)]
        rcases name_or (M 16 (i + 1 + 1)) with ⟨u1, u2⟩ | ⟨o, ho, hu, u1, u2, u3⟩
        · refine ⟨nI (i + 1 + 1), up2 (up2 (up2 N 63 a 0) 64 a 0) 63 a (nI h), ?_, ?_, frH, lwH, Or.inr ⟨i + 1 + 1, by omega, rfl⟩⟩
          · have aw4 : f_X5_awaitedBehind (M 16 (i + 1 + 1)) 3 = 4 := by
              unfold f_X5_awaitedBehind
              rw [if_neg (by decide), if_neg (by decide), if_neg (by decide), if_pos u1]
            rw [aw4, if_pos rfl]
          · rw [if_pos u2]
            rfl
        have aw3 : f_X5_awaitedBehind (M 16 (i + 1 + 1)) 3 = 0 := by
          unfold f_X5_awaitedBehind
          rw [if_neg (by decide), if_neg (by decide), if_neg (by decide), if_neg (by rw [u1]; decide)]
        rw [aw3, if_neg (show ¬ (0 : Int32) = 4 by decide), if_neg (show ¬ f_X10_isName (M 16 (i + 1 + 1)) = 0 by rw [u2]; decide), if_neg (show ¬ (3 : Int32) = 2 by decide), u3, show (5 : Int32) = nI 5 from rfl, close_eq a60 (show up2 (up2 (up2 (up2 N 63 a 0) 64 a 0) 63 a (nI h)) 64 a (nI o) 53 16 = nI a from ha)]
        obtain ⟨r, N1, r1, r2, r3⟩ := ih (i + 1 + 1 + 1) k k' (up2 (up2 (up2 (up2 (up2 (up2 N 63 a 0) 64 a 0) 63 a (nI h)) 64 a (nI o)) 62 a (nI 5)) 53 16 (nI (a + 1))) (a + 1) (by omega) (by omega) (by omega) (by omega) hp hj (up2_self _ _ _ _) (by omega)
        refine ⟨r, N1, r1, r2, Res_cons (w := 5) (h := h) (o := o) (i' := i + 1 + 1 + 1) (((frH.tr (Fr1 _ (Or.inr (Or.inr rfl)) a _)).tr (Fr1 _ (Or.inl rfl) a _)).tr (Fr2 _ _)) (fun e he => ⟨up2_lo _ 62 _ he, (lwH e he).2.1, (up2_lo _ 64 _ he).trans (lwH e he).2.2⟩) ⟨up2_self _ 62 a _, up2_self _ 63 a _, up2_self _ 64 a _⟩ ⟨hh, ho, by omega, Or.inr (Or.inl ⟨rfl, c111, hg, hu, rfl⟩)⟩ r3⟩
      · -- no act begins so
        refine ⟨nI i, up2 (up2 N 63 a 0) 64 a 0, ?_, ?_, frN 0, lwN 0, Or.inr ⟨i, by omega, rfl⟩⟩
        · unfold f_X5_awaitedBehind
          rw [if_pos rfl, if_neg c46, if_neg c111, if_pos c1, if_pos rfl]
        · rw [if_neg c111, if_neg c46]
          rfl
    · rw [if_neg (show ¬ f_X10_isName (M 16 i) = 0 by rw [c2]; decide), c3]
      have aw : f_X5_awaitedBehind (M 16 i) 0 = 1 := by
        unfold f_X5_awaitedBehind
        rw [if_pos rfl, if_neg (by rw [hc]; exact nI_is (c := 46) (by omega) (by omega) (by omega)), if_neg (by rw [hc]; exact nI_is (c := 111) (by omega) (by omega) (by omega)), if_neg (by rw [c1]; decide)]
      rw [aw, if_neg (show ¬ (1 : Int32) = 4 by decide)]
      simp only [Option.bind_some]
      rw [if_pos (show (0 : Int32) ≤ 1 by decide)]
      have frN : FrF N (up2 (up2 N 63 a (nI h)) 64 a 0) := (Fr1 N (Or.inr (Or.inl rfl)) a _).tr (Fr1 _ (Or.inr (Or.inr rfl)) a 0)
      have lwN : Low N (up2 (up2 N 63 a (nI h)) 64 a 0) a := fun e he => ⟨rfl, up2_lo N 63 _ he, up2_lo (up2 N 63 a (nI h)) 64 0 he⟩
      by_cases hin2 : i + 1 = n
      · refine ⟨nI n, up2 (up2 N 63 a (nI h)) 64 a 0, ?_, ?_, frN, lwN, Or.inr ⟨n, by omega, rfl⟩⟩
        · rw [hin2, cls_end hn hM, if_neg (by decide)]
        · rw [hin2, ref_end hn (show up2 (up2 N 63 a (nI h)) 64 a 0 53 12 = nI n from hp), if_neg (by decide)]
      have hi2 : i + 1 < n := by omega
      rw [cls_step hn hM hi2, ref_1 hn (show up2 (up2 N 63 a (nI h)) 64 a 0 53 12 = nI n from hp) hi2, show up2 (up2 N 63 a (nI h)) 64 a 0 61 (i + 1) = M 16 (i + 1) from hj _ hi2]
      rcases deed_or (M 16 (i + 1)) with ⟨d1, d2⟩ | ⟨w, hw, hcw, d1, d2⟩
      · refine ⟨nI (i + 1), up2 (up2 N 63 a (nI h)) 64 a 0, ?_, ?_, frN, lwN, Or.inr ⟨i + 1, by omega, rfl⟩⟩
        · have aw4 : f_X5_awaitedBehind (M 16 (i + 1)) 1 = 4 := by
            unfold f_X5_awaitedBehind
            rw [if_neg (by decide), if_pos rfl, if_pos d1]
          rw [aw4, if_pos rfl]
        · rw [d2]
          rfl
      · have aw2 : f_X5_awaitedBehind (M 16 (i + 1)) 1 = 0 := by
          unfold f_X5_awaitedBehind
          rw [if_neg (by decide), if_pos rfl, if_neg (by rw [d1]; decide)]
        rw [aw2, if_neg (show ¬ (0 : Int32) = 4 by decide), d2, close_eq a60 (show up2 (up2 N 63 a (nI h)) 64 a 0 53 16 = nI a from ha)]
        obtain ⟨r, N1, r1, r2, r3⟩ := ih (i + 1 + 1) k k' (up2 (up2 (up2 (up2 N 63 a (nI h)) 64 a 0) 62 a (nI w)) 53 16 (nI (a + 1))) (a + 1) (by omega) (by omega) (by omega) (by omega) hp hj (up2_self _ _ _ _) (by omega)
        refine ⟨r, N1, r1, r2, Res_cons (w := w) (h := h) (o := 0) (i' := i + 1 + 1) ((frN.tr (Fr1 _ (Or.inl rfl) a _)).tr (Fr2 _ _)) (fun e he => ⟨up2_lo _ 62 _ he, (lwN e he).2.1, (lwN e he).2.2⟩) ⟨up2_self _ 62 a _, up2_self _ 63 a _, up2_self _ 64 a _⟩ ⟨hh, by omega, by omega, Or.inr (Or.inr ⟨hw, rfl, hc, hcw, rfl⟩)⟩ r3⟩
