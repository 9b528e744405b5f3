/-- a row's number as a set of houses -/
def Bt (x : Int32) (f : Nat → Bool) : Prop := ∃ j : Nat, j < 256 ∧ x = nI j ∧ ∀ k, k < 8 → j.testBit k = f k
theorem Bt.bit {x : Int32} {f : Nat → Bool} (h : Bt x f) {k : Nat} (hk : k < 8) : ((x >>> (nI k &&& 31)) &&& (1 : Int32) = 1) ↔ f k = true := by
  obtain ⟨j, hj, rfl, hb⟩ := h
  rw [← hb k hk, ← has_1 hj hk]
  unfold f_X10_has
  by_cases q : (nI j >>> (nI k &&& 31)) &&& (1 : Int32) = 1
  · rw [if_pos q]; exact ⟨fun _ => rfl, fun _ => q⟩
  · rw [if_neg q]; exact ⟨fun z => absurd z q, fun z => absurd z (by decide)⟩
theorem Bt.has {x : Int32} {f : Nat → Bool} (h : Bt x f) {k : Nat} (hk : k < 8) : f_X10_has x (nI k) = if f k then 1 else 0 := by
  obtain ⟨j, hj, rfl, hb⟩ := h
  rw [has_tb hj hk, hb k hk]
theorem Bt.or {x y : Int32} {f g : Nat → Bool} (h : Bt x f) (h2 : Bt y g) : Bt (x ||| y) (fun k => f k || g k) := by
  obtain ⟨j, hj, rfl, hb⟩ := h
  obtain ⟨i, hi, rfl, hc⟩ := h2
  refine ⟨j ||| i, Nat.or_lt_two_pow (n := 8) hj hi, or_nI (by omega) (by omega), fun k hk => ?_⟩
  rw [Nat.testBit_or, hb k hk, hc k hk]
theorem Bt.one {k : Nat} (hk : k < 8) : Bt ((1 : Int32) <<< (nI k &&& 31)) (fun q => decide (q = k)) := by
  refine ⟨2 ^ k, Nat.pow_lt_pow_right (a := 2) (by decide) hk, one_nI hk, fun q hq => ?_⟩
  rw [Nat.testBit_two_pow]
  show decide (k = q) = decide (q = k)
  by_cases z : q = k
  · subst z; rfl
  · rw [decide_eq_false z, decide_eq_false (fun y => z y.symm)]
theorem Bt.congr {x : Int32} {f g : Nat → Bool} (h : Bt x f) (e : ∀ k, k < 8 → f k = g k) : Bt x g := by
  obtain ⟨j, hj, hx, hb⟩ := h
  exact ⟨j, hj, hx, fun k hk => (hb k hk).trans (e k hk)⟩
theorem Bt.sub {x y : Int32} {f g : Nat → Bool} (h : Bt x f) (h2 : Bt y g) : (x &&& (y ^^^ (-1 : Int32)) = 0) ↔ ∀ k, k < 8 → f k = true → g k = true := by
  obtain ⟨j, hj, rfl, hb⟩ := h
  obtain ⟨i, hi, rfl, hc⟩ := h2
  rw [sub_nI hj hi]
  constructor
  · intro z k hk; rw [← hb k hk, ← hc k hk]; exact z k hk
  · intro z k hk; rw [hb k hk, hc k hk]; exact z k hk
theorem Bt.eq {x y : Int32} {f g : Nat → Bool} (h : Bt x f) (h2 : Bt y g) : x = y ↔ ∀ k, k < 8 → f k = g k := by
  obtain ⟨j, hj, rfl, hb⟩ := h
  obtain ⟨i, hi, rfl, hc⟩ := h2
  have hi8 : ∀ n : Nat, n < 256 → ∀ k, 8 ≤ k → n.testBit k = false := fun n hn k hk => Nat.testBit_lt_two_pow (Nat.lt_of_lt_of_le hn (Nat.pow_le_pow_right (n := 2) (by omega) hk))
  constructor
  · intro z k hk
    have e := (nI_eq (by omega) (by omega)).mp z
    rw [← hb k hk, ← hc k hk, e]
  · intro z
    congr 1
    refine Nat.eq_of_testBit_eq fun k => ?_
    by_cases hk : k < 8
    · rw [hb k hk, hc k hk]; exact z k hk
    · rw [hi8 j hj k (by omega), hi8 i hi k (by omega)]
theorem shut_in {M0 : Mem} {nb L : Nat → Nat → Bool} (hN : ∀ c, c < 8 → Bt (M0 29 c) (nb c)) (hL : ∀ c, c < 8 → Bt (M0 30 c) (L c)) {e : Nat} (he : e < 8) (K2 : Int32 → Mem → Option Mem) : ∀ m d k M, d + m = 8 → m < k → (∀ q, q ≠ 31 → M q = M0 q) → Bt (M 31 e) (fun q => decide (q = e) || (decide (q < d) && Sb nb L e q)) → ∃ M', lp_X3_shutIn_28_19 K2 k (nI e) (nI d) M = K2 (nI e + 1) M' ∧ (∀ q, q ≠ 31 → M' q = M0 q) ∧ (∀ i, i ≠ e → M' 31 i = M 31 i) ∧ Bt (M' 31 e) (Sb nb L e)
  | 0, d, k, M, hd, hk, h1, h2 => by
    obtain ⟨k, rfl⟩ : ∃ q, k = q + 1 := ⟨k - 1, by omega⟩
    have e8 : d = 8 := by omega
    subst e8
    refine ⟨M, ?_, h1, fun _ _ => rfl, h2.congr fun q hq => ?_⟩
    · show bd_X3_shutIn_28_19 _ _ _ _ _ = _
      unfold bd_X3_shutIn_28_19
      rw [if_pos (by decide)]
    · rw [decide_eq_true hq, Bool.true_and, Bool.eq_iff_iff, Bool.or_eq_true, decide_eq_true_eq, Sb_iff]
      constructor
      · rintro (z | z)
        · exact Or.inl z.symm
        · exact z
      · exact Or.inr
  | m + 1, d, k, M, hd, hk, h1, h2 => by
    obtain ⟨k, rfl⟩ : ∃ q, k = q + 1 := ⟨k - 1, by omega⟩
    have sb : Sb nb L e d = true ↔ e = d ∨ ∀ f, f < 8 → nb d f = true → L e f = true := Sb_iff
    have cd : ((M 29 d) &&& ((M 30 e) ^^^ (-1 : Int32)) = 0) ↔ ∀ f, f < 8 → nb d f = true → L e f = true := by
      rw [h1 29 (by decide), h1 30 (by decide)]
      exact (hN d (by omega)).sub (hL e he)
    have st : lp_X3_shutIn_28_19 K2 (k + 1) (nI e) (nI d) M = if (M 29 d) &&& ((M 30 e) ^^^ (-1 : Int32)) = 0 then lp_X3_shutIn_28_19 K2 k (nI e) (nI (d + 1)) (up2 M 31 e ((M 31 e) ||| ((1 : Int32) <<< (nI d &&& 31)))) else lp_X3_shutIn_28_19 K2 k (nI e) (nI (d + 1)) M := by
      show bd_X3_shutIn_28_19 _ _ _ _ _ = _
      unfold bd_X3_shutIn_28_19
      rw [if_neg (show ¬ (8 : Int32) ≤ nI d from nI_ge (b := 8) (by omega) (by omega)), inb_nI (show d < 8 by omega) (by decide), inb_nI he (by decide), ix_nI (show d < 2 ^ 31 by omega), ix_nI (show e < 2 ^ 31 by omega), n_s]
      simp only [if_true]
    rw [st]
    by_cases q : (M 29 d) &&& ((M 30 e) ^^^ (-1 : Int32)) = 0
    · rw [if_pos q]
      have hS : Sb nb L e d = true := sb.mpr (Or.inr (cd.mp q))
      obtain ⟨M', a, b, c, f⟩ := shut_in hN hL he K2 m (d + 1) k (up2 M 31 e ((M 31 e) ||| ((1 : Int32) <<< (nI d &&& 31)))) (by omega) (by omega) (fun z hz => by rw [up2_ne M e _ hz]; exact h1 z hz) (by
        rw [up2_at, if_pos rfl]
        refine (h2.or (Bt.one (show d < 8 by omega))).congr fun w hw => ?_
        rw [Bool.eq_iff_iff]
        simp only [Bool.or_eq_true, Bool.and_eq_true, decide_eq_true_eq]
        by_cases z : w = d
        · subst z; simp [hS]
        · have : (w < d + 1) ↔ (w < d) := by omega
          simp [this, z])
      refine ⟨M', a, b, fun i hi => ?_, f⟩
      rw [c i hi, up2_at, if_neg hi]
    · rw [if_neg q]
      refine shut_in hN hL he K2 m (d + 1) k M (by omega) (by omega) h1 (h2.congr fun w hw => ?_)
      rw [Bool.eq_iff_iff]
      simp only [Bool.or_eq_true, Bool.and_eq_true, decide_eq_true_eq]
      by_cases z : w = d
      · subst z
        by_cases y : w = e
        · simp [y]
        · have : ¬ Sb nb L e w = true := fun s => (sb.mp s).elim (fun x => y x.symm) (fun x => q (cd.mpr x))
          simp [y, this]
      · have : (w < d + 1) ↔ (w < d) := by omega
        simp [this]
theorem shut_out {M0 : Mem} {nb L : Nat → Nat → Bool} (hN : ∀ c, c < 8 → Bt (M0 29 c) (nb c)) (hL : ∀ c, c < 8 → Bt (M0 30 c) (L c)) : ∀ m e k M, e + m = 8 → m < k → (∀ q, q ≠ 31 → M q = M0 q) → (∀ i, i < e → Bt (M 31 i) (Sb nb L i)) → ∃ M', lp_X3_shutIn_28_2 k (nI e) M = some M' ∧ (∀ q, q ≠ 31 → M' q = M0 q) ∧ ∀ i, i < 8 → Bt (M' 31 i) (Sb nb L i)
  | 0, e, k, M, he, hk, h1, h2 => by
    obtain ⟨k, rfl⟩ : ∃ q, k = q + 1 := ⟨k - 1, by omega⟩
    have e8 : e = 8 := by omega
    subst e8
    refine ⟨M, ?_, h1, h2⟩
    show bd_X3_shutIn_28_2 _ _ _ = _
    unfold bd_X3_shutIn_28_2
    rw [if_pos (by decide)]
  | m + 1, e, k, M, he, hk, h1, h2 => by
    obtain ⟨k, rfl⟩ : ∃ q, k = q + 1 := ⟨k - 1, by omega⟩
    have st : lp_X3_shutIn_28_2 (k + 1) (nI e) M = lp_X3_shutIn_28_19 (lp_X3_shutIn_28_2 k) FU (nI e) (nI 0) (up2 M 31 e ((1 : Int32) <<< (nI e &&& 31))) := by
      show bd_X3_shutIn_28_2 _ _ _ = _
      unfold bd_X3_shutIn_28_2
      rw [if_neg (show ¬ (8 : Int32) ≤ nI e from nI_ge (b := 8) (by omega) (by omega)), inb_nI (show e < 8 by omega) (by decide), ix_nI (show e < 2 ^ 31 by omega)]
      rfl
    obtain ⟨M', a, b, c, f⟩ := shut_in hN hL (show e < 8 by omega) (lp_X3_shutIn_28_2 k) 8 0 FU (up2 M 31 e ((1 : Int32) <<< (nI e &&& 31))) (by omega) (FU_lt (by omega)) (fun z hz => by rw [up2_ne M e _ hz]; exact h1 z hz) (by
      rw [up2_at, if_pos rfl]
      refine (Bt.one (show e < 8 by omega)).congr fun w hw => ?_
      simp)
    rw [st, a, n_s]
    refine shut_out hN hL m (e + 1) k M' (by omega) (by omega) b fun i hi => ?_
    by_cases z : i = e
    · subst z; exact f
    · rw [c i z, up2_at, if_neg z]
      exact h2 i (by omega)
theorem shut_eq {M : Mem} {nb L : Nat → Nat → Bool} (hN : ∀ c, c < 8 → Bt (M 29 c) (nb c)) (hL : ∀ c, c < 8 → Bt (M 30 c) (L c)) : ∃ M', f_X3_shutIn_28 M = some M' ∧ (∀ q, q ≠ 31 → M' q = M q) ∧ ∀ i, i < 8 → Bt (M' 31 i) (Sb nb L i) :=
  shut_out hN hL 8 0 FU M (by omega) (FU_lt (by omega)) (fun _ _ => rfl) (fun i hi => by omega)
/-- the first of so many that is told, or none -/
def lst (p : Nat → Bool) : Nat → Nat → Int32
  | _, 0 => -6
  | i, k + 1 => if p i then nI i else lst p (i + 1) k
theorem first_l {M : Mem} {nb S : Nat → Nat → Bool} {c d : Nat} (hc : c < 8) (hd : d < 8) (hN : Bt (M 29 c) (nb c)) (hS : ∀ e, e < 8 → Bt (M 31 e) (S e)) : ∀ m i k, i + m = 8 → m < k → lp_X3_firstGoing_28_2 M k (nI c) (nI d) (nI i) = some (lst (fun e => nb c e && S e d) i m)
  | 0, i, k, hi, hk => by
    obtain ⟨k, rfl⟩ : ∃ q, k = q + 1 := ⟨k - 1, by omega⟩
    have e8 : i = 8 := by omega
    subst e8
    show bd_X3_firstGoing_28_2 _ _ _ _ _ = _
    unfold bd_X3_firstGoing_28_2
    rw [if_pos (by decide)]
    rfl
  | m + 1, i, k, hi, hk => by
    obtain ⟨k, rfl⟩ : ∃ q, k = q + 1 := ⟨k - 1, by omega⟩
    have ih := first_l hc hd hN hS m (i + 1) k (by omega) (by omega)
    show bd_X3_firstGoing_28_2 _ _ _ _ _ = some (if (nb c i && S i d) then nI i else lst _ (i + 1) m)
    unfold bd_X3_firstGoing_28_2
    have b1 := hN.bit (show i < 8 by omega)
    have b2 := (hS i (by omega)).bit hd
    rw [if_neg (show ¬ (8 : Int32) ≤ nI i from nI_ge (b := 8) (by omega) (by omega)), inb_nI hc (by decide), inb_nI (show i < 8 by omega) (by decide), ix_nI (show c < 2 ^ 31 by omega), ix_nI (show i < 2 ^ 31 by omega), n_s, ih]
    simp only [if_true, b1, b2, Bool.and_eq_true]
    by_cases q1 : nb c i = true
    · by_cases q2 : S i d = true
      · simp [q1, q2]
      · simp [q1, q2]
    · simp [q1]
theorem first_eq {M : Mem} {nb S : Nat → Nat → Bool} {c d : Nat} (hc : c < 8) (hd : d < 8) (hN : Bt (M 29 c) (nb c)) (hS : ∀ e, e < 8 → Bt (M 31 e) (S e)) : f_X3_firstGoing_28 (nI c) (nI d) M = some (lst (fun e => nb c e && S e d) 0 8) :=
  first_l hc hd hN hS 8 0 FU (by omega) (FU_lt (by omega))
theorem lst_neg {p : Nat → Bool} : ∀ m i, i + m < 2 ^ 31 → ((lst p i m = -6 ∧ lst p i m < 0 ∧ ∀ e, i ≤ e → e < i + m → p e = false) ∨ (∃ e, i ≤ e ∧ e < i + m ∧ p e = true ∧ lst p i m = nI e))
  | 0, i, _ => Or.inl ⟨rfl, by show (-6 : Int32) < 0; decide, fun e a b => by omega⟩
  | m + 1, i, hi => by
    by_cases q : p i = true
    · exact Or.inr ⟨i, Nat.le_refl _, by omega, q, if_pos q⟩
    · have e : lst p i (m + 1) = lst p (i + 1) m := if_neg q
      rw [e]
      rcases lst_neg (p := p) m (i + 1) (by omega) with ⟨a, b, c⟩ | ⟨x, a, b, c, d⟩
      · refine Or.inl ⟨a, b, fun x hx hy => ?_⟩
        by_cases z : x = i
        · rw [z]; simpa using q
        · exact c x (by omega) (by omega)
      · exact Or.inr ⟨x, by omega, by omega, c, d⟩
