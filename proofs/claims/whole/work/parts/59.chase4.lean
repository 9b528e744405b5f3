def bI (b : Bool) : Int32 := if b then 1 else 0
theorem bI_0 {b : Bool} : bI b = 0 ↔ b = false := by cases b <;> decide
/-- the reference's number at a place after t rounds -/
def Gt (nb : Nat → Nat → Bool) (t : Nat) (x : Int32) (c d : Nat) : Prop := (Lb nb t c d = false ∧ x = -6) ∨ ∃ s, s ≤ t ∧ Lb nb s c d = true ∧ (∀ r, r < s → Lb nb r c d = false) ∧ x = nI s
theorem Gt_in {nb : Nat → Nat → Bool} {t : Nat} {x : Int32} {c d : Nat} (h : Gt nb t x c d) (ht : t ≤ 64) {s : Nat} (hs : s ≤ t) : f_X10_in x.toInt64 0 (nI s).toInt64 = 0 ↔ Lb nb s c d = false := by
  rw [show f_X10_in x.toInt64 0 (nI s).toInt64 = f_X9_within x 0 (nI s) from in_within x 0 (nI s), within_0, nI_toInt (by omega), show (0 : Int32).toInt = 0 from rfl]
  rcases h with ⟨a, rfl⟩ | ⟨r, h1, h2, h3, rfl⟩
  · have h6 : (-6 : Int32).toInt = -6 := rfl
    exact ⟨fun _ => lost_below a hs, fun _ => by omega⟩
  · rw [nI_toInt (by omega)]
    constructor
    · intro z
      exact h3 s (by omega)
    · intro z w
      have := Lb_mono (s - r) r h2
      rw [show r + (s - r) = s by omega, z] at this
      cases this
def allF (p : Nat → Bool) : Nat → Nat → Bool
  | _, 0 => true
  | i, k + 1 => p i && allF p (i + 1) k
def GtAll (nb : Nat → Nat → Bool) (t : Nat) (M : Mem) : Prop := ∀ e, e < 64 → Gt nb t (M 71 e) (e / 8) (e % 8)
theorem sure_l {hb : Nat → Nat → Bool} {M : Mem} (hH : ∀ j, j < 8 → Bt (M 58 j) (hb j)) {t s a d : Nat} (ht : t ≤ 64) (hs : s ≤ t) (ha : a < 8) (hd : d < 8) (hG : GtAll (fun j e => hb j e || decide (e = j)) t M) : ∀ m i k b, i + m = 8 → m < k → lp_X10_isSure_6 M k (nI a) (nI d) (nI s) (bI b) (nI i) = some (bI (decide (a = d) || (b && allF (fun f => !(hb d f || decide (f = d)) || Lb (fun j e => hb j e || decide (e = j)) s a f) i m)))
  | 0, i, k, b, hi, hk => by
    obtain ⟨k, rfl⟩ : ∃ q, k = q + 1 := ⟨k - 1, by omega⟩
    have e8 : i = 8 := by omega
    subst e8
    show bd_X10_isSure_6 _ _ _ _ _ _ _ = _
    unfold bd_X10_isSure_6
    rw [if_pos (by decide)]
    by_cases q : a = d
    · rw [if_pos (by rw [q]), decide_eq_true q]
      rfl
    · rw [if_neg (nI_is (by omega) (by omega) q), decide_eq_false q]
      cases b <;> rfl
  | m + 1, i, k, b, hi, hk => by
    obtain ⟨k, rfl⟩ : ∃ q, k = q + 1 := ⟨k - 1, by omega⟩
    have ih := sure_l hH ht hs ha hd hG m (i + 1) k
    have g := Gt_in (hG (8 * a + i) (by omega)) ht hs
    rw [show (8 * a + i) / 8 = a by omega, show (8 * a + i) % 8 = i by omega] at g
    have ix8 : (8 : Int32) * nI a + nI i = nI (8 * a + i) := by rw [show (8 : Int32) * nI a = nI (8 * a) from mul_nI 8 _, nI_add]
    have hh := (hH d hd).has (show i < 8 by omega)
    have st : ∀ s0 : Bool, lb_X10_isSure_38 M (lp_X10_isSure_6 M k) (nI a) (nI d) (nI s) (bI b) (nI i) (bI s0) = lp_X10_isSure_6 M k (nI a) (nI d) (nI s) (bI (b && (!s0 || Lb (fun j e => hb j e || decide (e = j)) s a i))) (nI (i + 1)) := fun s0 => by
      unfold lb_X10_isSure_38 lb_X10_isSure_76
      rw [ix8, inb_nI (show 8 * a + i < 64 by omega) (by decide), ix_nI (show 8 * a + i < 2 ^ 31 by omega), n_s]
      cases b
      · rw [if_pos (show bI false = 0 from rfl)]; rfl
      rw [if_neg (show ¬ bI true = 0 by decide)]
      cases s0
      · rw [if_pos (show bI false = 0 from rfl)]; rfl
      rw [if_neg (show ¬ bI true = 0 by decide)]
      simp only [if_true, g]
      cases Lb (fun j e => hb j e || decide (e = j)) s a i <;> simp [bI]
    have st2 : lp_X10_isSure_6 M (k + 1) (nI a) (nI d) (nI s) (bI b) (nI i) = lb_X10_isSure_38 M (lp_X10_isSure_6 M k) (nI a) (nI d) (nI s) (bI b) (nI i) (bI (hb d i || decide (i = d))) := by
      show bd_X10_isSure_6 _ _ _ _ _ _ _ = _
      unfold bd_X10_isSure_6
      rw [if_neg (show ¬ (8 : Int32) ≤ nI i from nI_ge (b := 8) (by omega) (by omega)), inb_nI hd (by decide), ix_nI (show d < 2 ^ 31 by omega), hh]
      by_cases q : i = d
      · rw [if_pos (by rw [q]), decide_eq_true q, Bool.or_true]
        rfl
      · rw [if_neg (nI_is (by omega) (by omega) q), decide_eq_false q, Bool.or_false]
        cases hb d i
        · simp [bI]
        · simp [bI]
    rw [st2, st, ih _ (by omega) (by omega)]
    congr 3
    show _ = (b && ((!(hb d i || decide (i = d)) || Lb (fun j e => hb j e || decide (e = j)) s a i) && allF _ (i + 1) m))
    rw [Bool.and_assoc]
theorem sure_eq {hb : Nat → Nat → Bool} {M : Mem} (hH : ∀ j, j < 8 → Bt (M 58 j) (hb j)) {t s a d : Nat} (ht : t ≤ 64) (hs : s ≤ t) (ha : a < 8) (hd : d < 8) (hG : GtAll (fun j e => hb j e || decide (e = j)) t M) : f_X10_isSure (nI a) (nI d) (nI s) M = some (bI (Sb (fun j e => hb j e || decide (e = j)) (Lb (fun j e => hb j e || decide (e = j)) s) a d)) := by
  have h := sure_l hH ht hs ha hd hG 8 0 FU true (by omega) (FU_lt (by omega))
  rw [Bool.true_and] at h
  exact h
theorem going_l {hb : Nat → Nat → Bool} {M : Mem} (hH : ∀ j, j < 8 → Bt (M 58 j) (hb j)) {t s c d : Nat} (ht : t ≤ 64) (hs : s ≤ t) (hc : c < 8) (hd : d < 8) (hG : GtAll (fun j e => hb j e || decide (e = j)) t M) : ∀ i k, i ≤ 8 → i < k → lp_X10_sureGoing_8 M k (nI c) (nI d) (nI s) (lst (fun e => (hb c e || decide (e = c)) && Sb (fun j e => hb j e || decide (e = j)) (Lb (fun j e => hb j e || decide (e = j)) s) e d) i (8 - i)) (nI i + -1) = some (lst (fun e => (hb c e || decide (e = c)) && Sb (fun j e => hb j e || decide (e = j)) (Lb (fun j e => hb j e || decide (e = j)) s) e d) 0 8)
  | 0, k, hi, hk => by
    obtain ⟨k, rfl⟩ : ∃ q, k = q + 1 := ⟨k - 1, by omega⟩
    show bd_X10_sureGoing_8 _ _ _ _ _ _ _ = _
    unfold bd_X10_sureGoing_8
    rw [if_pos (by decide)]
  | i + 1, k, hi, hk => by
    obtain ⟨k, rfl⟩ : ∃ q, k = q + 1 := ⟨k - 1, by omega⟩
    have ih := going_l hH ht hs hc hd hG i k (by omega) (by omega)
    have hh := (hH c hc).has (show i < 8 by omega)
    have su := sure_eq hH ht hs (show i < 8 by omega) hd hG
    rw [show 8 - i = (8 - (i + 1)) + 1 by omega] at ih
    revert ih su
    generalize hP : (fun e => (hb c e || decide (e = c)) && Sb (fun j e => hb j e || decide (e = j)) (Lb (fun j e => hb j e || decide (e = j)) s) e d) = P
    have hPi : P i = ((hb c i || decide (i = c)) && Sb (fun j e => hb j e || decide (e = j)) (Lb (fun j e => hb j e || decide (e = j)) s) i d) := by rw [← hP]
    revert hPi
    generalize Sb (fun j e => hb j e || decide (e = j)) (Lb (fun j e => hb j e || decide (e = j)) s) i d = S
    intro hPi ih su
    rw [show lst P i (8 - (i + 1) + 1) = if P i then nI i else lst P (i + 1) (8 - (i + 1)) from rfl] at ih
    rw [pred1]
    have st : ∀ (s0 : Bool) (B : Int32), lb_X10_sureGoing_38 M (lp_X10_sureGoing_8 M k) (nI c) (nI d) (nI s) B (nI i) (bI s0) = lp_X10_sureGoing_8 M k (nI c) (nI d) (nI s) (if (s0 && S) then nI i else B) (nI i + -1) := fun s0 B => by
      unfold lb_X10_sureGoing_38 lb_X10_sureGoing_61
      rw [su]
      cases s0
      · simp [bI]
      · cases S <;> simp [bI]
    have st2 : ∀ B : Int32, lp_X10_sureGoing_8 M (k + 1) (nI c) (nI d) (nI s) B (nI i) = lb_X10_sureGoing_38 M (lp_X10_sureGoing_8 M k) (nI c) (nI d) (nI s) B (nI i) (bI (hb c i || decide (i = c))) := fun B => by
      show bd_X10_sureGoing_8 _ _ _ _ _ _ _ = _
      unfold bd_X10_sureGoing_8
      rw [if_neg (nI_pos (show i < 2 ^ 31 by omega)), inb_nI hc (by decide), ix_nI (show c < 2 ^ 31 by omega), hh]
      by_cases q : i = c
      · rw [if_pos (by rw [q]), decide_eq_true q, Bool.or_true]
        rfl
      · rw [if_neg (nI_is (by omega) (by omega) q), decide_eq_false q, Bool.or_false]
        cases hb c i
        · simp [bI]
        · simp [bI]
    rw [st2, st, ← hPi]
    exact ih
theorem going_eq {hb : Nat → Nat → Bool} {M : Mem} (hH : ∀ j, j < 8 → Bt (M 58 j) (hb j)) {t s c d : Nat} (ht : t ≤ 64) (hs : s ≤ t) (hc : c < 8) (hd : d < 8) (hG : GtAll (fun j e => hb j e || decide (e = j)) t M) : f_X10_sureGoing (nI c) (nI d) (nI s) M = some (lst (fun e => (hb c e || decide (e = c)) && Sb (fun j e => hb j e || decide (e = j)) (Lb (fun j e => hb j e || decide (e = j)) s) e d) 0 8) :=
  going_l hH ht hs hc hd hG 8 FU (Nat.le_refl _) (FU_lt (by omega))
