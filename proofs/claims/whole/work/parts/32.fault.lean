theorem name_or (c : Int32) : (f_X9_isLetter c = 0 ∧ f_X10_isName c = 0) ∨ ∃ h, h < 8 ∧ c = nI (65 + h) ∧ f_X9_isLetter c = 1 ∧ f_X10_isName c = 1 ∧ c - 65 = nI h := by
  have e : f_X10_isName c = f_X9_within c 65 72 := in_within c 65 72
  rcases house_or (c - 65) with ⟨a, _⟩ | ⟨j, hj, ej, a, _⟩
  · refine Or.inl ⟨a, ?_⟩
    rw [e, within_0]
    intro ⟨z1, z2⟩
    have w1 : (65 : Int32).toInt = 65 := rfl
    have w2 : (72 : Int32).toInt = 72 := rfl
    obtain ⟨x, hx, ex⟩ := nIr (x := c) (N := 73) (by omega) (by omega)
    have hx2 : 65 ≤ x := by
      rw [ex, nI_toInt (by omega)] at z1
      omega
    rw [ex, show nI x - 65 = nI (x - 65) from pk_sub (b := 65) hx2, house_yes (by omega)] at a
    exact absurd a (by decide)
  · have ec : c = nI (65 + j) := by
      rw [← nI_add, ← ej, show nI 65 = 65 from rfl]; grind
    refine Or.inr ⟨j, hj, ec, a, ?_, ej⟩
    rw [e, ec]
    have : ¬ f_X9_within (nI (65 + j)) 65 72 = 0 := by
      rw [within_0, nI_toInt (by omega)]
      have w1 : (65 : Int32).toInt = 65 := rfl
      have w2 : (72 : Int32).toInt = 72 := rfl
      omega
    unfold f_X9_within at this ⊢
    revert this
    split
    · intro z; exact absurd rfl z
    · split
      · intro z; exact absurd rfl z
      · intro _; rfl
def FrF (N N1 : Mem) : Prop := (∀ k, k ≠ 53 → k ≠ 62 → k ≠ 63 → k ≠ 64 → N1 k = N k) ∧ ∀ j, j ≠ 16 → N1 53 j = N 53 j
theorem FrF.tr {N N1 N2 : Mem} (a : FrF N N1) (b : FrF N1 N2) : FrF N N2 := ⟨fun k p q r s => (b.1 k p q r s).trans (a.1 k p q r s), fun j p => (b.2 j p).trans (a.2 j p)⟩
def Rd (p : Nat → Int32) (n v w h o v' : Nat) : Prop := h < 8 ∧ o < 8 ∧ v' ≤ n ∧ ((w = 6 ∧ h = 0 ∧ o = 0 ∧ p v = 46 ∧ v' = v + 1) ∨ (w = 5 ∧ p v = 111 ∧ p (v + 1) = nI (65 + h) ∧ p (v + 2) = nI (65 + o) ∧ v' = v + 3) ∨ (w ≤ 4 ∧ o = 0 ∧ p v = nI (65 + h) ∧ p (v + 1) = sgn w ∧ v' = v + 2))
def Run (p : Nat → Int32) (n : Nat) : Nat → List (Nat × Nat × Nat) → Prop
  | v, [] => v = n
  | v, x :: L => ∃ v', Rd p n v x.1 x.2.1 x.2.2 v' ∧ Run p n v' L
def Hold (N : Mem) : Nat → List (Nat × Nat × Nat) → Prop
  | _, [] => True
  | a, x :: L => (N 62 a = nI x.1 ∧ N 63 a = nI x.2.1 ∧ N 64 a = nI x.2.2) ∧ Hold N (a + 1) L
def Low (N N1 : Mem) (a : Nat) : Prop := ∀ e, e < a → N1 62 e = N 62 e ∧ N1 63 e = N 63 e ∧ N1 64 e = N 64 e
def Res (p : Nat → Int32) (n : Nat) (N : Mem) (a i : Nat) (r : Int32) (N1 : Mem) : Prop := FrF N N1 ∧ Low N N1 a ∧ ((r = -6 ∧ ∃ L, Run p n i L ∧ N1 53 16 = nI (a + L.length) ∧ Hold N1 a L) ∨ ∃ q, q ≤ n ∧ r = nI q)
theorem Res_cons {p : Nat → Int32} {n a i i' w h o : Nat} {N N' N1 : Mem} {r : Int32} (hF : FrF N N') (hL : Low N N' a) (hA : N' 62 a = nI w ∧ N' 63 a = nI h ∧ N' 64 a = nI o) (hR : Rd p n i w h o i') (H : Res p n N' (a + 1) i' r N1) : Res p n N a i r N1 := by
  obtain ⟨h1, h2, h3⟩ := H
  refine ⟨hF.tr h1, fun e he => ?_, ?_⟩
  · obtain ⟨x1, x2, x3⟩ := h2 e (by omega)
    obtain ⟨y1, y2, y3⟩ := hL e he
    exact ⟨x1.trans y1, x2.trans y2, x3.trans y3⟩
  · rcases h3 with ⟨q, L, l1, l2, l3⟩ | q
    · refine Or.inl ⟨q, (w, h, o) :: L, ⟨i', hR, l1⟩, ?_, ?_, l3⟩
      · rw [l2, List.length_cons]; congr 1; omega
      · obtain ⟨x1, x2, x3⟩ := h2 a (by omega)
        exact ⟨x1.trans hA.1, x2.trans hA.2.1, x3.trans hA.2.2⟩
    · exact Or.inr q
theorem deed_or (c : Int32) : (f_X5_isDeed c = 0 ∧ ∀ N, f_X10_deed c N = some (-6, N)) ∨ ∃ w, w ≤ 4 ∧ c = sgn w ∧ f_X5_isDeed c = 1 ∧ ∀ N, f_X10_deed c N = f_X10_close (nI w) N := by
  have bs : ∀ x : Option (Int32 × Mem), (x.bind fun q => some (q.1, q.2)) = x := fun x => by cases x <;> rfl
  by_cases h33 : c = 33
  · subst h33
    exact Or.inr ⟨4, by omega, rfl, by decide, fun N => by unfold f_X10_deed; rw [if_pos rfl, bs]; rfl⟩
  by_cases h43 : c = 43
  · subst h43
    exact Or.inr ⟨0, by omega, rfl, by decide, fun N => by unfold f_X10_deed; rw [if_neg (by decide), if_pos rfl, bs]; rfl⟩
  by_cases h45 : c = 45
  · subst h45
    exact Or.inr ⟨1, by omega, rfl, by decide, fun N => by unfold f_X10_deed; rw [if_neg (by decide), if_neg (by decide), if_pos rfl, bs]; rfl⟩
  by_cases h94 : c = 94
  · subst h94
    exact Or.inr ⟨2, by omega, rfl, by decide, fun N => by unfold f_X10_deed; rw [if_neg (by decide), if_neg (by decide), if_neg (by decide), if_pos rfl, bs]; rfl⟩
  by_cases h95 : c = 95
  · subst h95
    exact Or.inr ⟨3, by omega, rfl, by decide, fun N => by unfold f_X10_deed; rw [if_neg (by decide), if_neg (by decide), if_neg (by decide), if_neg (by decide), if_pos rfl, bs]; rfl⟩
  refine Or.inl ⟨?_, fun N => ?_⟩
  · unfold f_X5_isDeed; rw [if_neg h43, if_neg h45, if_neg h94, if_neg h95, if_neg h33]
  · unfold f_X10_deed; rw [if_neg h33, if_neg h43, if_neg h45, if_neg h94, if_neg h95]
theorem close_eq {N : Mem} {a w : Nat} (ha : a < 60) (e : N 53 16 = nI a) : f_X10_close (nI w) N = some (0, up2 (up2 N 62 a (nI w)) 53 16 (nI (a + 1))) := by
  unfold f_X10_close
  rw [e, inb_nI ha (by decide), ix_nI (by omega), n_s]
  rfl
theorem begin_eq {N : Mem} {a h : Nat} {c : Int32} (ha : a < 60) (e : N 53 16 = nI a) : f_X10_begin c N = if f_X10_isName c = 0 then (if c = 111 then some (2, up2 (up2 N 63 a 0) 64 a 0) else if c = 46 then f_X10_close 6 (up2 (up2 N 63 a 0) 64 a 0) else some (-6, up2 (up2 N 63 a 0) 64 a 0)) else some (1, up2 (up2 N 63 a (c - 65)) 64 a 0) := by
  have bs : ∀ x : Option (Int32 × Mem), (x.bind fun q => some (q.1, q.2)) = x := fun x => by cases x <;> rfl
  unfold f_X10_begin lb_X10_begin_23
  rw [e, inb_nI ha (by decide), ix_nI (by omega), bs, bs]
  by_cases q : f_X10_isName c = 0
  · rw [if_pos q, if_pos q, if_pos q]; rfl
  · rw [if_neg q, if_neg q, if_neg q]; rfl
