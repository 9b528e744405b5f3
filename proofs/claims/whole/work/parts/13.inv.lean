-- what holds between the calls: of the class's cells (0 .. 52) and the reference's (53 .. 74)
def Rg (N : Nat) (x : Int32) : Prop := ∃ j : Nat, j ≤ N ∧ x = nI j
def Teq (d c g s h d' c' g' s' h' : Nat → Int32) : Prop := ∀ i, i < 8 → d i = d' i ∧ c i = c' i ∧ g i = g' i ∧ s i = s' i ∧ h i = h' i
def Hok (h : Nat → Int32) : Prop := (∀ i, i < 8 → ∃ j : Nat, j < 256 ∧ h i = nI j) ∧ ∀ i k, i < 8 → k < 8 → f_X10_has (h i) (nI k) = f_X10_has (h k) (nI i)
def Tok (d c g s h : Nat → Int32) (b w : Int32) : Prop := (∀ i, i < 8 → Rg 99 (d i) ∧ Rg 9 (c i) ∧ Rg 9 (g i) ∧ Rg 9 (s i)) ∧ Hok h ∧ Rg 99 b ∧ Rg 99 w
def Sg (seen : Nat → Int32) (cnt last : Int32) (w v : Nat → Int32) (n : Int32) : Prop := ∃ k : Nat, k ≤ 8 ∧ cnt = nI k ∧ n = nI k ∧ (∀ e, e < k → Rg 40 (w e) ∧ Rg 99 (v e)) ∧ (∀ j x : Nat, j ≤ 40 → x ≤ 99 → ((seen j = -1 ∨ seen j = nI x) ↔ ∀ e, e < k → w e = nI j → v e = nI x)) ∧ (∀ j : Nat, j ≤ 40 → last.toInt < (j : Int) → seen j = -1) ∧ (-1 ≤ last.toInt ∧ last.toInt ≤ 40)
def Pd (M : Mem) : Prop := ∃ n : Nat, n ≤ 60 ∧ M 15 1 = nI n ∧ M 53 12 = nI n ∧ ∀ i, i < n → M 16 i = M 61 i
def Hr (M : Mem) : Prop := ∀ j, j < 10 → M 26 j = 0 ∧ M 27 j = 0 ∧ M 26 (10 * j) = 0 ∧ M 27 (10 * j) = 0
def Now (M : Mem) : Prop := Teq (M 2) (M 3) (M 4) (M 5) (M 6) (M 54) (M 55) (M 56) (M 57) (M 58) ∧ (M 1 6 = M 53 5 ∧ M 1 7 = M 53 6 ∧ M 1 8 = M 53 7) ∧ Tok (M 2) (M 3) (M 4) (M 5) (M 6) (M 1 6) (M 1 8)
def Sgs (M : Mem) : Prop := Sg (M 20) (M 19 1) (M 19 2) (M 59) (M 60) (M 53 10)
def Im (M : Mem) (c t s b j : Nat) : Prop := M c 2 = M 74 j ∧ (M c 2 = 0 ∨ M c 2 = 1) ∧ (M c 2 = 1 → Teq (M (t + 1)) (M (t + 2)) (M (t + 3)) (M (t + 4)) (M (t + 5)) (fun i => M 73 (b + 4 + i)) (fun i => M 73 (b + 12 + i)) (fun i => M 73 (b + 20 + i)) (fun i => M 73 (b + 28 + i)) (fun i => M 73 (b + 36 + i)) ∧ (M t 6 = M 73 b ∧ M t 7 = M 73 (b + 1) ∧ M t 8 = M 73 (b + 2)) ∧ Tok (M (t + 1)) (M (t + 2)) (M (t + 3)) (M (t + 4)) (M (t + 5)) (M t 6) (M t 8) ∧ Sg (M (s + 1)) (M s 1) (M s 2) (fun e => M 73 (b + 44 + e)) (fun e => M 73 (b + 52 + e)) (M 73 (b + 3)))
def Inv (M : Mem) : Prop := Now M ∧ Pd M ∧ Sgs M ∧ Im M 33 34 41 0 0 ∧ Im M 43 44 51 70 1 ∧ Hr M
/-- the cells that Inv speaks of -/
def core (k j : Nat) : Bool := (decide (1 ≤ k ∧ k ≤ 6)) || (decide (k = 15 ∨ k = 16 ∨ k = 19 ∨ k = 20 ∨ k = 26 ∨ k = 27)) || (decide (33 ≤ k ∧ k ≤ 52)) || (decide (k = 53 ∧ (j = 5 ∨ j = 6 ∨ j = 7 ∨ j = 10 ∨ j = 12))) || (decide (54 ≤ k ∧ k ≤ 58 ∧ j < 8)) || (decide (59 ≤ k ∧ k ≤ 61)) || (decide (73 ≤ k ∧ k ≤ 74))
def Cor (M N : Mem) : Prop := ∀ k j, core k j = true → N k j = M k j
theorem Cor.row {M N : Mem} (h : Cor M N) {k : Nat} (hk : ∀ j, core k j = true) : N k = M k := funext fun j => h k j (hk j)
theorem Cor.refl (M : Mem) : Cor M M := fun _ _ _ => rfl
theorem Cor.trans {M N O : Mem} (h : Cor M N) (h2 : Cor N O) : Cor M O := fun k j hc => (h2 k j hc).trans (h k j hc)
theorem core_row {k : Nat} (h : (1 ≤ k ∧ k ≤ 6) ∨ (k = 15 ∨ k = 16 ∨ k = 19 ∨ k = 20 ∨ k = 26 ∨ k = 27) ∨ (33 ≤ k ∧ k ≤ 52) ∨ (59 ≤ k ∧ k ≤ 61) ∨ (73 ≤ k ∧ k ≤ 74)) (j : Nat) : core k j = true := by
  unfold core
  rcases h with h | h | h | h | h <;> simp [h]
theorem core_ref {k j : Nat} (h : 54 ≤ k ∧ k ≤ 58 ∧ j < 8) : core k j = true := by
  unfold core
  simp [h]
theorem Now_cor {M N : Mem} (h : Cor M N) (H : Now M) : Now N := by
  obtain ⟨h1, ⟨h2, h3, h4⟩, h5⟩ := H
  have e1 : N 1 = M 1 := h.row (core_row (by omega))
  have e2 : N 2 = M 2 := h.row (core_row (by omega))
  have e3 : N 3 = M 3 := h.row (core_row (by omega))
  have e4 : N 4 = M 4 := h.row (core_row (by omega))
  have e5 : N 5 = M 5 := h.row (core_row (by omega))
  have e6 : N 6 = M 6 := h.row (core_row (by omega))
  refine ⟨?_, ⟨?_, ?_, ?_⟩, ?_⟩
  · intro i hi
    rw [e2, e3, e4, e5, e6, h 54 i (core_ref (by omega)), h 55 i (core_ref (by omega)), h 56 i (core_ref (by omega)), h 57 i (core_ref (by omega)), h 58 i (core_ref (by omega))]
    exact h1 i hi
  · rw [e1, h 53 5 (by decide)]; exact h2
  · rw [e1, h 53 6 (by decide)]; exact h3
  · rw [e1, h 53 7 (by decide)]; exact h4
  · rw [e1, e2, e3, e4, e5, e6]; exact h5
theorem Pd_cor {M N : Mem} (h : Cor M N) (H : Pd M) : Pd N := by
  obtain ⟨n, h1, h2, h3, h4⟩ := H
  refine ⟨n, h1, ?_, ?_, ?_⟩
  · rw [h 15 1 (by decide)]; exact h2
  · rw [h 53 12 (by decide)]; exact h3
  · intro i hi
    rw [h 16 i (core_row (by omega) i), h 61 i (core_row (by omega) i)]
    exact h4 i hi
theorem Sgs_cor {M N : Mem} (h : Cor M N) (H : Sgs M) : Sgs N := by
  unfold Sgs at H ⊢
  rw [h.row (k := 20) (core_row (by omega)), h.row (k := 19) (core_row (by omega)), h.row (k := 59) (core_row (by omega)), h.row (k := 60) (core_row (by omega)), h 53 10 (by decide)]
  exact H
theorem Hr_cor {M N : Mem} (h : Cor M N) (H : Hr M) : Hr N := by
  unfold Hr at H ⊢
  rw [h.row (k := 26) (core_row (by omega)), h.row (k := 27) (core_row (by omega))]
  exact H
theorem Im_eq {M N : Mem} {c t s b j : Nat} (hc : N c = M c) (h0 : N t = M t) (h1 : N (t + 1) = M (t + 1)) (h2 : N (t + 2) = M (t + 2)) (h3 : N (t + 3) = M (t + 3)) (h4 : N (t + 4) = M (t + 4)) (h5 : N (t + 5) = M (t + 5)) (h6 : N s = M s) (h7 : N (s + 1) = M (s + 1)) (h8 : N 73 = M 73) (h9 : N 74 = M 74) (H : Im M c t s b j) : Im N c t s b j := by
  unfold Im at H ⊢
  rw [hc, h0, h1, h2, h3, h4, h5, h6, h7, h8, h9]
  exact H
theorem Im_cor0 {M N : Mem} (h : Cor M N) (H : Im M 33 34 41 0 0) : Im N 33 34 41 0 0 :=
  Im_eq (h.row (core_row (by omega))) (h.row (core_row (by omega))) (h.row (core_row (by omega))) (h.row (core_row (by omega))) (h.row (core_row (by omega))) (h.row (core_row (by omega))) (h.row (core_row (by omega))) (h.row (core_row (by omega))) (h.row (core_row (by omega))) (h.row (core_row (by omega))) (h.row (core_row (by omega))) H
theorem Im_cor1 {M N : Mem} (h : Cor M N) (H : Im M 43 44 51 70 1) : Im N 43 44 51 70 1 :=
  Im_eq (h.row (core_row (by omega))) (h.row (core_row (by omega))) (h.row (core_row (by omega))) (h.row (core_row (by omega))) (h.row (core_row (by omega))) (h.row (core_row (by omega))) (h.row (core_row (by omega))) (h.row (core_row (by omega))) (h.row (core_row (by omega))) (h.row (core_row (by omega))) (h.row (core_row (by omega))) H
theorem Inv_cor {M N : Mem} (h : Cor M N) (H : Inv M) : Inv N := ⟨Now_cor h H.1, Pd_cor h H.2.1, Sgs_cor h H.2.2.1, Im_cor0 h H.2.2.2.1, Im_cor1 h H.2.2.2.2.1, Hr_cor h H.2.2.2.2.2⟩
/-- both sides answer alike, and Inv holds behind them -/
def Alike (M : Mem) (x y : Mem → Option (Int32 × Mem)) : Prop := ∃ r M1 M2, x M = some (r, M1) ∧ y M1 = some (r, M2) ∧ Inv M2
theorem same_refused {M : Mem} (h : Inv M) {x y : Mem → Option (Int32 × Mem)} {r : Int32} (h1 : x M = some (r, M)) (h2 : y M = some (r, M)) : Alike M x y := ⟨r, M, M, h1, h2, h⟩
theorem m_bag {M : Mem} (h : Inv M) (v : Int32) : Alike M (f_X9_bag v) (f_X10_bag v) := by
  have e : f_X10_in v.toInt64 0 99 = f_X9_within v 0 99 := in_within v 0 99
  rcases within_or v 99 (by decide) with h0 | ⟨j, hj, rfl, h1⟩
  · refine same_refused h (r := -2) ?_ ?_
    · unfold f_X9_bag; rw [if_pos h0]
    · unfold f_X10_bag; rw [if_pos (e.trans h0)]
  · refine ⟨M 1 6, up2 M 1 6 (nI j), up2 (up2 M 1 6 (nI j)) 53 5 (nI j), ?_, ?_, ?_⟩
    · unfold f_X9_bag; rw [if_neg (by rw [h1]; decide)]
    · unfold f_X10_bag; rw [if_neg (by rw [show f_X10_in (nI j).toInt64 0 99 = 1 from e.trans h1]; decide)]
      rw [h.1.2.1.1]
      rfl
    · obtain ⟨⟨n1, ⟨n2, n3, n4⟩, n5, n6, n7, n8⟩, hp, hs, i0, i1, hh⟩ := h
      refine ⟨⟨n1, ⟨rfl, n3, n4⟩, n5, n6, ⟨j, hj, rfl⟩, n8⟩, hp, hs, ?_, ?_, hh⟩
      · exact Im_eq rfl rfl rfl rfl rfl rfl rfl rfl rfl rfl rfl i0
      · exact Im_eq rfl rfl rfl rfl rfl rfl rfl rfl rfl rfl rfl i1
