theorem wide_in {M : Mem} {nb L S : Nat → Nat → Bool} {c : Nat} (hc : c < 8) (hN : Bt (M 29 c) (nb c)) (hS : ∀ e, e < 8 → Bt (M 31 e) (S e)) (K4 : Int32 → Int32 → Mem → Option (Int32 × Mem)) (w : Int32) : ∀ m e k x, e + m = 8 → m < k → Bt x (fun d => L c d || (List.range e).any fun e => nb c e && S e d) → ∃ y, lp_X3_widen_28_20 K4 k w (nI c) x (nI e) M = (if y = M 30 c then K4 (w ||| 0) (nI (c + 1)) (up2 M 30 c y) else K4 (w ||| 1) (nI (c + 1)) (up2 M 30 c y)) ∧ Bt y (fun d => L c d || (List.range 8).any fun e => nb c e && S e d)
  | 0, e, k, x, he, hk, hx => by
    obtain ⟨k, rfl⟩ : ∃ q, k = q + 1 := ⟨k - 1, by omega⟩
    have e8 : e = 8 := by omega
    subst e8
    refine ⟨x, ?_, hx⟩
    show bd_X3_widen_28_20 _ _ _ _ _ _ _ = _
    unfold bd_X3_widen_28_20 lb_X3_widen_28_74
    rw [if_pos (by decide), inb_nI hc (by decide), ix_nI (show c < 2 ^ 31 by omega), n_s]
    simp only [if_true]
  | m + 1, e, k, x, he, hk, hx => by
    obtain ⟨k, rfl⟩ : ∃ q, k = q + 1 := ⟨k - 1, by omega⟩
    have b1 := hN.bit (show e < 8 by omega)
    have st : lp_X3_widen_28_20 K4 (k + 1) w (nI c) x (nI e) M = if nb c e = true then lp_X3_widen_28_20 K4 k w (nI c) (x ||| M 31 e) (nI (e + 1)) M else lp_X3_widen_28_20 K4 k w (nI c) x (nI (e + 1)) M := by
      show bd_X3_widen_28_20 _ _ _ _ _ _ _ = _
      unfold bd_X3_widen_28_20
      rw [if_neg (show ¬ (8 : Int32) ≤ nI e from nI_ge (b := 8) (by omega) (by omega)), inb_nI hc (by decide), inb_nI (show e < 8 by omega) (by decide), ix_nI (show c < 2 ^ 31 by omega), ix_nI (show e < 2 ^ 31 by omega), n_s]
      simp only [if_true, b1]
    rw [st]
    by_cases q : nb c e = true
    · rw [if_pos q]
      refine wide_in hc hN hS K4 w m (e + 1) k _ (by omega) (by omega) ((hx.or (hS e (by omega))).congr fun d hd => ?_)
      rw [List.range_succ, List.any_append]
      simp [q, Bool.or_assoc]
    · rw [if_neg q]
      refine wide_in hc hN hS K4 w m (e + 1) k _ (by omega) (by omega) (hx.congr fun d hd => ?_)
      rw [List.range_succ, List.any_append]
      simp [q]
theorem or01 {w : Int32} (h : w = 0 ∨ w = 1) : w ||| 0 = w ∧ w ||| 1 = 1 := by
  rcases h with rfl | rfl <;> decide
theorem wide_out {M0 : Mem} {nb L S : Nat → Nat → Bool} (hN : ∀ c, c < 8 → Bt (M0 29 c) (nb c)) (hS : ∀ e, e < 8 → Bt (M0 31 e) (S e)) (hL : ∀ c, c < 8 → Bt (M0 30 c) (L c)) : ∀ m c k M w, c + m = 8 → m < k → (∀ q, q ≠ 30 → M q = M0 q) → (∀ i, i < c → Bt (M 30 i) (fun d => L i d || (List.range 8).any fun e => nb i e && S e d)) → (∀ i, c ≤ i → M 30 i = M0 30 i) → (w = 0 ∨ w = 1) → (w = 0 ↔ ∀ i, i < c → ∀ d, d < 8 → (L i d || (List.range 8).any fun e => nb i e && S e d) = L i d) → ∃ w' M', lp_X3_widen_28_4 k w (nI c) M = some (w', M') ∧ (∀ q, q ≠ 30 → M' q = M0 q) ∧ (∀ i, i < 8 → Bt (M' 30 i) (fun d => L i d || (List.range 8).any fun e => nb i e && S e d)) ∧ (w' = 0 ∨ w' = 1) ∧ (w' = 0 ↔ ∀ i, i < 8 → ∀ d, d < 8 → (L i d || (List.range 8).any fun e => nb i e && S e d) = L i d)
  | 0, c, k, M, w, hc, hk, h1, h2, h3, h4, h5 => by
    obtain ⟨k, rfl⟩ : ∃ q, k = q + 1 := ⟨k - 1, by omega⟩
    have e8 : c = 8 := by omega
    subst e8
    refine ⟨w, M, ?_, h1, h2, h4, h5⟩
    show bd_X3_widen_28_4 _ _ _ _ = _
    unfold bd_X3_widen_28_4
    rw [if_pos (by decide), if_pos h4]
  | m + 1, c, k, M, w, hc, hk, h1, h2, h3, h4, h5 => by
    obtain ⟨k, rfl⟩ : ∃ q, k = q + 1 := ⟨k - 1, by omega⟩
    have hL0 : Bt (M 30 c) (L c) := by rw [h3 c (Nat.le_refl _)]; exact hL c (by omega)
    have st : lp_X3_widen_28_4 (k + 1) w (nI c) M = lp_X3_widen_28_20 (lp_X3_widen_28_4 k) FU w (nI c) (M 30 c) (nI 0) M := by
      show bd_X3_widen_28_4 _ _ _ _ = _
      unfold bd_X3_widen_28_4
      rw [if_neg (show ¬ (8 : Int32) ≤ nI c from nI_ge (b := 8) (by omega) (by omega)), inb_nI (show c < 8 by omega) (by decide), ix_nI (show c < 2 ^ 31 by omega)]
      rfl
    obtain ⟨y, a, b⟩ := wide_in (L := L) (M := M) (nb := nb) (S := S) (show c < 8 by omega) (by rw [h1 29 (by decide)]; exact hN c (by omega)) (fun e he => by rw [h1 31 (by decide)]; exact hS e he) (lp_X3_widen_28_4 k) w 8 0 FU (M 30 c) (by omega) (FU_lt (by omega)) (hL0.congr fun d hd => by simp)
    have ye := b.eq hL0
    obtain ⟨o1, o2⟩ := or01 h4
    rw [st, a, o1, o2]
    have g1 : ∀ q, q ≠ 30 → up2 M 30 c y q = M0 q := fun q hq => by rw [up2_ne M c y hq]; exact h1 q hq
    have g2 : ∀ i, i < c + 1 → Bt (up2 M 30 c y 30 i) (fun d => L i d || (List.range 8).any fun e => nb i e && S e d) := fun i hi => by
      rw [up2_at]
      by_cases z : i = c
      · subst z; rw [if_pos rfl]; exact b
      · rw [if_neg z]; exact h2 i (by omega)
    have g3 : ∀ i, c + 1 ≤ i → up2 M 30 c y 30 i = M0 30 i := fun i hi => by
      rw [up2_at, if_neg (by omega)]
      exact h3 i (by omega)
    by_cases q : y = M 30 c
    · rw [if_pos q]
      refine wide_out hN hS hL m (c + 1) k _ w (by omega) (by omega) g1 g2 g3 h4 ?_
      constructor
      · intro z i hi
        by_cases y : i = c
        · subst y; exact ye.mp q
        · exact h5.mp z i (by omega)
      · intro z
        exact h5.mpr fun i hi => z i (by omega)
    · rw [if_neg q]
      refine wide_out hN hS hL m (c + 1) k _ 1 (by omega) (by omega) g1 g2 g3 (Or.inr rfl) ?_
      constructor
      · intro z; exact absurd z (by decide)
      · intro z; exact absurd (ye.mpr (z c (by omega))) q
/-- one round wider -/
theorem wide_eq {M : Mem} {nb : Nat → Nat → Bool} {t : Nat} (hN : ∀ c, c < 8 → Bt (M 29 c) (nb c)) (hS : ∀ e, e < 8 → Bt (M 31 e) (Sb nb (Lb nb t) e)) (hL : ∀ c, c < 8 → Bt (M 30 c) (Lb nb t c)) : ∃ w M', f_X3_widen_28 M = some (w, M') ∧ (∀ q, q ≠ 30 → M' q = M q) ∧ (∀ i, i < 8 → Bt (M' 30 i) (Lb nb (t + 1) i)) ∧ (w = 0 ∨ w = 1) ∧ (w = 0 ↔ ∀ i, i < 8 → ∀ d, d < 8 → Lb nb (t + 1) i d = Lb nb t i d) :=
  wide_out hN hS hL 8 0 FU M 0 (by omega) (FU_lt (by omega)) (fun _ _ => rfl) (fun i hi => by omega) (fun _ _ => rfl) (Or.inl rfl) ⟨fun _ i hi => by omega, fun _ => rfl⟩
/-- what comes out of the hunt: after how many goings, and the first going -/
def Out (nb : Nat → Nat → Bool) (c d : Nat) (g f : Int32) : Prop := (∃ s, Lb nb s c d = true ∧ (∀ r, r < s → Lb nb r c d = false) ∧ g = nI s ∧ f = (if s = 0 then -6 else lst (fun e => nb c e && Sb nb (Lb nb (s - 1)) e d) 0 8)) ∨ ((∀ s, Lb nb s c d = false) ∧ g = -6 ∧ f = -6)
theorem Out_one {nb : Nat → Nat → Bool} {c d : Nat} {g f g' f' : Int32} (h : Out nb c d g f) (h' : Out nb c d g' f') : g = g' ∧ f = f' := by
  rcases h with ⟨s, a1, a2, rfl, rfl⟩ | ⟨a, rfl, rfl⟩ <;> rcases h' with ⟨s', b1, b2, rfl, rfl⟩ | ⟨b, rfl, rfl⟩
  · have e : s = s' := by
      rcases Nat.lt_trichotomy s s' with z | z | z
      · rw [b2 s z] at a1; cases a1
      · exact z
      · rw [a2 s' z] at b1; cases b1
    subst e
    exact ⟨rfl, rfl⟩
  · rw [b s] at a1; cases a1
  · rw [a s'] at b1; cases b1
  · exact ⟨rfl, rfl⟩
theorem lost_below {nb : Nat → Nat → Bool} {c d t : Nat} (h : Lb nb t c d = false) {r : Nat} (hr : r ≤ t) : Lb nb r c d = false := by
  cases e : Lb nb r c d with
  | false => rfl
  | true =>
    have := Lb_mono (t - r) r e
    rw [show r + (t - r) = t by omega, h] at this
    cases this
theorem changed {nb : Nat → Nat → Bool} {t : Nat} (h : ¬ ∀ i, i < 8 → ∀ d, d < 8 → Lb nb (t + 1) i d = Lb nb t i d) : ∃ v, v < 64 ∧ ¬ Lb nb t (v / 8) (v % 8) = Lb nb (t + 1) (v / 8) (v % 8) := by
  apply Classical.byContradiction
  intro z
  refine h fun i hi d hd => ?_
  apply Classical.byContradiction
  intro y
  refine z ⟨8 * i + d, by omega, ?_⟩
  rw [show (8 * i + d) / 8 = i by omega, show (8 * i + d) % 8 = d by omega]
  exact fun x => y x.symm
theorem still_lost {nb : Nat → Nat → Bool} {c d t : Nat} (hc : c < 8) (hd : d < 8) (h : ∀ i, i < 8 → ∀ d, d < 8 → Lb nb (t + 1) i d = Lb nb t i d) (hl : Lb nb t c d = false) : ∀ s, Lb nb s c d = false := by
  intro s
  by_cases q : s ≤ t
  · exact lost_below hl q
  · have := Lb_still (t := t) (fun i e a b => h i a e b) (s - t) c d hc hd
    rw [show t + (s - t) = s by omega] at this
    rw [this, hl]
