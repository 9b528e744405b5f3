theorem house_yes {j : Nat} (hj : j < 8) : f_X9_isHouse (nI j) = 1 := by
  rcases house_or (nI j) with ⟨a, -⟩ | ⟨j', h', e, a, -⟩
  · exfalso
    unfold f_X9_isHouse at a
    rw [if_neg (nI_pos (by omega)), if_neg (show ¬ (8 : Int32) ≤ nI j from nI_ge (b := 8) hj (by omega))] at a
    exact absurd a (by decide)
  · exact a
theorem house_yes' {j : Nat} (hj : j < 8) : ¬ f_X9_isHouse (nI j) = 0 := by rw [house_yes hj]; decide
-- a hole between two houses is bored, or stopped
def bor (h : Nat → Int32) (a b : Nat) (t : Int32) : Nat → Int32 := upd (upd h a (f_X10_with (h a) (nI b) t)) b (f_X10_with (h b) (nI a) t)
theorem Hok_bor {h : Nat → Int32} {a b t : Nat} (H : Hok h) (ha : a < 8) (hb : b < 8) (hab : a ≠ b) (ht : t ≤ 1) : Hok (bor h a b (nI t)) := by
  obtain ⟨h1, h2⟩ := H
  have at_ : ∀ i, bor h a b (nI t) i = if i = b then f_X10_with (h b) (nI a) (nI t) else if i = a then f_X10_with (h a) (nI b) (nI t) else h i := fun i => rfl
  have hasb : ∀ i k, i < 8 → k < 8 → f_X10_has (bor h a b (nI t) i) (nI k) = if (i = a ∧ k = b) ∨ (i = b ∧ k = a) then nI t else f_X10_has (h i) (nI k) := by
    intro i k hi hk
    obtain ⟨x, hx, ex⟩ := h1 i hi
    rw [at_ i]
    by_cases q1 : i = b
    · subst q1
      rw [if_pos rfl, ex, with_has hx ha ht hk]
      by_cases q2 : k = a
      · rw [if_pos q2, if_pos (Or.inr ⟨rfl, q2⟩)]
      · rw [if_neg q2, if_neg (fun z => z.elim (fun y => hab y.1.symm) (fun y => q2 y.2))]
    · rw [if_neg q1]
      by_cases q3 : i = a
      · subst q3
        rw [if_pos rfl, ex, with_has hx hb ht hk]
        by_cases q2 : k = b
        · rw [if_pos q2, if_pos (Or.inl ⟨rfl, q2⟩)]
        · rw [if_neg q2, if_neg (fun z => z.elim (fun y => q2 y.2) (fun y => q1 y.1))]
      · rw [if_neg q3, if_neg (fun z => z.elim (fun y => q3 y.1) (fun y => q1 y.1))]
  refine ⟨fun i hi => ?_, fun i k hi hk => ?_⟩
  · rw [at_ i]
    split
    · obtain ⟨x, hx, ex⟩ := h1 b hb
      rw [ex]
      exact with_lt hx ha ht
    · split
      · obtain ⟨x, hx, ex⟩ := h1 a ha
        rw [ex]
        exact with_lt hx hb ht
      · exact h1 i hi
  · rw [hasb i k hi hk, hasb k i hk hi]
    by_cases q : (i = a ∧ k = b) ∨ (i = b ∧ k = a)
    · rw [if_pos q, if_pos (q.elim (fun y => Or.inr ⟨y.2, y.1⟩) (fun y => Or.inl ⟨y.2, y.1⟩))]
    · rw [if_neg q, if_neg (fun z => q (z.elim (fun y => Or.inr ⟨y.2, y.1⟩) (fun y => Or.inl ⟨y.2, y.1⟩)))]
      exact h2 i k hi hk
theorem upd_id {f : Nat → Int32} {i : Nat} {x : Int32} (h : f i = x) : upd f i x = f := by
  funext j
  unfold upd
  split
  · rename_i e; rw [e, h]
  · rfl
theorem bor_same {h : Nat → Int32} {a b t : Nat} (H : Hok h) (ha : a < 8) (hb : b < 8) (ht : t ≤ 1) (hh : f_X10_has (h a) (nI b) = nI t) : bor h a b (nI t) = h := by
  obtain ⟨x, hx, ex⟩ := H.1 a ha
  obtain ⟨y, hy, ey⟩ := H.1 b hb
  have hh2 : f_X10_has (h b) (nI a) = nI t := by rw [← H.2 a b ha hb]; exact hh
  unfold bor
  rw [ex] at hh
  rw [ey] at hh2
  rw [ex, ey, with_same hx hb ht hh, with_same hy ha ht hh2, upd_id ex, upd_id ey]
theorem bor_xor {h : Nat → Int32} {a b t : Nat} (H : Hok h) (ha : a < 8) (hb : b < 8) (hab : a ≠ b) (ht : t ≤ 1) (hh : ¬ f_X10_has (h a) (nI b) = nI t) : upd (upd h a (h a ^^^ ((1 : Int32) <<< (nI b &&& 31)))) b ((upd h a (h a ^^^ ((1 : Int32) <<< (nI b &&& 31)))) b ^^^ ((1 : Int32) <<< (nI a &&& 31))) = bor h a b (nI t) := by
  obtain ⟨x, hx, ex⟩ := H.1 a ha
  obtain ⟨y, hy, ey⟩ := H.1 b hb
  have hh2 : ¬ f_X10_has (h b) (nI a) = nI t := by rw [← H.2 a b ha hb]; exact hh
  have e : upd h a (h a ^^^ ((1 : Int32) <<< (nI b &&& 31))) b = h b := if_neg (fun q => hab q.symm)
  rw [e]
  unfold bor
  rw [ex] at hh
  rw [ey] at hh2
  rw [ex, ey, with_xor hx hb ht hh, with_xor hy ha ht hh2]
theorem bore10 {M : Mem} {a b : Nat} (ha : a < 8) (hb : b < 8) (hab : a ≠ b) (t : Int32) : f_X10_bore (nI a) (nI b) t M = some (upA M 58 (bor (M 58) a b t)) := by
  unfold f_X10_bore
  rw [inb_nI ha (by decide), inb_nI hb (by decide), ix_nI (by omega), ix_nI (by omega)]
  have e : up2 M 58 a (f_X10_with (M 58 a) (nI b) t) 58 b = M 58 b := by rw [up2_at, if_neg (fun q => hab q.symm)]
  rw [e]
  show some _ = some _
  congr 1
  funext k j
  unfold up2 upA bor
  by_cases q : k = 58
  · rw [if_pos q, if_pos q, if_pos rfl]
  · rw [if_neg q, if_neg q, if_neg q]
theorem turn1 {M : Mem} {a b : Nat} (ha : a < 8) (hb : b < 8) : f_X8_turnHole_1 (nI a) (nI b) M = some (upA M 6 (upd (upd (M 6) a (M 6 a ^^^ ((1 : Int32) <<< (nI b &&& 31)))) b ((upd (M 6) a (M 6 a ^^^ ((1 : Int32) <<< (nI b &&& 31)))) b ^^^ ((1 : Int32) <<< (nI a &&& 31))))) := by
  unfold f_X8_turnHole_1
  rw [if_neg (house_yes' ha), if_neg (house_yes' hb), inb_nI ha (by decide), inb_nI hb (by decide), ix_nI (by omega), ix_nI (by omega)]
  show some _ = some _
  congr 1
  funext k j
  unfold up2 upA
  by_cases q : k = 6
  · rw [if_pos q, if_pos q, if_pos rfl]
  · rw [if_neg q, if_neg q, if_neg q]
theorem turn8 {M : Mem} {a b : Nat} (ha : a < 8) (hb : b < 8) : f_X8_turnHole_8 (nI a) (nI b) M = some (upA M 13 (upd (upd (M 13) a (M 13 a ^^^ ((1 : Int32) <<< (nI b &&& 31)))) b ((upd (M 13) a (M 13 a ^^^ ((1 : Int32) <<< (nI b &&& 31)))) b ^^^ ((1 : Int32) <<< (nI a &&& 31))))) := by
  unfold f_X8_turnHole_8
  rw [if_neg (house_yes' ha), if_neg (house_yes' hb), inb_nI ha (by decide), inb_nI hb (by decide), ix_nI (by omega), ix_nI (by omega)]
  show some _ = some _
  congr 1
  funext k j
  unfold up2 upA
  by_cases q : k = 13
  · rw [if_pos q, if_pos q, if_pos rfl]
  · rw [if_neg q, if_neg q, if_neg q]
def cnt8 (h : Nat → Int32) : Int32 := itn (fun i a => a + f_J6_bitCount_0f7a4 (h i)) 0 8 0
theorem count1 (M : Mem) : f_X8_countHoles_1 M = some (cnt8 (M 6) / 2) := by
  refine (loop_up (σ := Int32) (fun n a i => lp_X8_countHoles_1_4 M n a i) (fun _ _ => True) (fun i a => a + f_J6_bitCount_0f7a4 (M 6 i)) (fun a => some (a / 2)) 8 ?_ ?_ 8 0 0 FU (by omega) (FU_lt (by omega)) trivial).1
  · intro n i s hi _
    refine ⟨?_, trivial⟩
    show bd_X8_countHoles_1_4 _ _ _ _ = _
    unfold bd_X8_countHoles_1_4
    rw [if_neg (show ¬ (8 : Int32) ≤ nI i from nI_ge (b := 8) hi (by omega)), inb_nI hi (by decide), ix_nI (by omega), n_s]
    rfl
  · intro n s _
    show bd_X8_countHoles_1_4 _ _ _ _ = _
    unfold bd_X8_countHoles_1_4
    rw [if_pos (by decide)]
theorem count10 {M : Mem} (H : Hok (M 58)) : lp_X10_hole_34 FU 0 0 M = some (cnt8 (M 58) / 2, M) := by
  refine (loop_up (σ := Int32) (fun n a i => lp_X10_hole_34 n a i M) (fun _ _ => True) (fun i a => a + f_J6_bitCount_0f7a4 (M 58 i)) (fun a => some (a / 2, M)) 8 ?_ ?_ 8 0 0 FU (by omega) (FU_lt (by omega)) trivial).1
  · intro n i s hi _
    refine ⟨?_, trivial⟩
    show bd_X10_hole_34 _ _ _ _ = _
    unfold bd_X10_hole_34
    obtain ⟨x, hx, ex⟩ := H.1 i hi
    rw [if_neg (show ¬ (8 : Int32) ≤ nI i from nI_ge (b := 8) hi (by omega)), inb_nI hi (by decide), ix_nI (by omega), n_s, ex, ones_bc hx]
    rfl
  · intro n s _
    show bd_X10_hole_34 _ _ _ _ = _
    unfold bd_X10_hole_34
    rw [if_pos (by decide)]
theorem cnt8_congr {d d' : Nat → Int32} (h : ∀ i, i < 8 → d i = d' i) : cnt8 d = cnt8 d' := by
  unfold cnt8
  refine itn_rel (fun _ a b => a = b) 8 (fun i s t hi hs => ?_) 8 0 0 0 (by omega) rfl
  subst hs
  show s + _ = s + _
  rw [h i hi]
theorem bor_congr {h h' : Nat → Int32} {a b : Nat} {t : Int32} (ha : a < 8) (hb : b < 8) (H : ∀ i, i < 8 → h i = h' i) : ∀ i, i < 8 → bor h a b t i = bor h' a b t i := by
  intro i hi
  unfold bor upd
  rw [H a ha, H b hb, H i hi]
theorem Hok_congr {h h' : Nat → Int32} (H : ∀ i, i < 8 → h i = h' i) (Hh : Hok h) : Hok h' := by
  refine ⟨fun i hi => by rw [← H i hi]; exact Hh.1 i hi, fun i k hi hk => by rw [← H i hi, ← H k hk]; exact Hh.2 i k hi hk⟩
theorem m_hole {M : Mem} (h : Inv M) (v1 v2 v3 : Int32) (hv : v3 = 0 ∨ v3 = 1) : Alike M (f_X9_hole v1 v2 v3) (f_X10_hole v1 v2 v3) := by
  rcases house_or v1 with ⟨a1, b1⟩ | ⟨a, ha, rfl, a1, b1⟩
  · refine same_refused h (r := -1) ?_ ?_
    · unfold f_X9_hole; rw [if_pos a1]
    · unfold f_X10_hole; rw [if_pos b1]
  have a1' : ¬ f_X9_isHouse (nI a) = 0 := by rw [a1]; decide
  have b1' : ¬ f_X10_isHouse (nI a) = 0 := by rw [b1]; decide
  rcases house_or v2 with ⟨a2, b2⟩ | ⟨b, hb, rfl, a2, b2⟩
  · refine same_refused h (r := -1) ?_ ?_
    · unfold f_X9_hole; rw [if_neg a1', if_pos a2]
    · unfold f_X10_hole; rw [if_neg b1', if_pos b2]
  have a2' : ¬ f_X9_isHouse (nI b) = 0 := by rw [a2]; decide
  have b2' : ¬ f_X10_isHouse (nI b) = 0 := by rw [b2]; decide
  by_cases hab : a = b
  · subst hab
    refine same_refused h (r := -1) ?_ ?_
    · unfold f_X9_hole; rw [if_neg a1', if_neg a1', if_pos rfl]
    · unfold f_X10_hole; rw [if_neg b1', if_neg b1', if_pos rfl]
  have hne : ¬ nI a = nI b := fun q => hab ((nI_eq (by omega) (by omega)).mp q)
  obtain ⟨t, ht, rfl⟩ : ∃ t : Nat, t ≤ 1 ∧ v3 = nI t := by
    rcases hv with rfl | rfl
    · exact ⟨0, by omega, rfl⟩
    · exact ⟨1, by omega, rfl⟩
  obtain ⟨⟨n1, n2, n5, n6, n7, n8⟩, hp, hs, i0, i1, hh⟩ := id h
  have e6 : ∀ i, i < 8 → M 6 i = M 58 i := fun i hi => (n1 i hi).2.2.2.2
  have H58 : Hok (M 58) := Hok_congr e6 n6
  have hhas : f_X8_hasHole_1 (nI a) (nI b) M = some (f_X10_has (M 6 a) (nI b)) := by
    unfold f_X8_hasHole_1 f_X10_has
    rw [if_neg a1', inb_nI ha (by decide), ix_nI (by omega)]
    rw [apply_ite some]
    rfl
  have hX : f_X9_hole (nI a) (nI b) (nI t) M = some (cnt8 (bor (M 6) a b (nI t)) / 2, upA M 6 (bor (M 6) a b (nI t))) := by
    unfold f_X9_hole lb_X9_hole_43
    rw [if_neg a1', if_neg a2', if_neg hne, hhas, Option.bind_some]
    by_cases q : f_X10_has (M 6 a) (nI b) = nI t
    · rw [if_pos q, bor_same n6 ha hb ht q, count1]
      show some _ = some _
      congr 2
      funext k j
      unfold upA
      by_cases z : k = 6
      · rw [if_pos z, z]
      · rw [if_neg z]
    · rw [if_neg q, turn1 ha hb, bor_xor n6 ha hb hab ht q, Option.bind_some, count1, upA_at]
      rfl
  have hm : Hok (bor (M 6) a b (nI t)) := Hok_bor n6 ha hb hab ht
  have hm2 : Hok (bor (M 58) a b (nI t)) := Hok_bor H58 ha hb hab ht
  refine ⟨_, _, upA (upA M 6 (bor (M 6) a b (nI t))) 58 (bor (M 58) a b (nI t)), hX, ?_, ?_⟩
  · unfold f_X10_hole
    rw [if_neg b1', if_neg b2', if_neg hne, bore10 ha hb hab, Option.bind_some]
    have e : upA M 6 (bor (M 6) a b (nI t)) 58 = M 58 := upA_ne _ _ (by decide)
    rw [e]
    have c := count10 (M := upA (upA M 6 (bor (M 6) a b (nI t))) 58 (bor (M 58) a b (nI t))) (by rw [upA_at]; exact hm2)
    rw [upA_at] at c
    rw [c, cnt8_congr (bor_congr ha hb e6)]
  · refine ⟨⟨fun i hi => ?_, n2, n5, hm, n7, n8⟩, hp, hs, Im_eq rfl rfl rfl rfl rfl rfl rfl rfl rfl rfl rfl i0, Im_eq rfl rfl rfl rfl rfl rfl rfl rfl rfl rfl rfl i1, hh⟩
    obtain ⟨q1, q2, q3, q4, q5⟩ := n1 i hi
    exact ⟨q1, q2, q3, q4, bor_congr ha hb e6 i hi⟩
theorem ofHouse_eq {M : Mem} (n1 : Teq (M 2) (M 3) (M 4) (M 5) (M 6) (M 54) (M 55) (M 56) (M 57) (M 58)) {j : Nat} (hj : j < 8) (w : Int32) : ∃ r, f_X8_ofHouse_1 (nI j) w M = some r ∧ f_X10_ofHouse (nI j) w M = some r := by
  obtain ⟨q1, q2, q3, q4, q5⟩ := n1 j hj
  unfold f_X8_ofHouse_1 f_X10_ofHouse
  rw [if_neg (house_yes' hj), inb_nI hj (by decide), ix_nI (by omega), q1, q2, q3, q4]
  by_cases h0 : w = 0
  · exact ⟨M 54 j, by rw [if_pos h0]; rfl, by rw [if_pos h0]; rfl⟩
  · by_cases h1 : w = 1
    · exact ⟨M 55 j, by rw [if_neg h0, if_pos h1]; rfl, by rw [if_neg h0, if_pos h1]; rfl⟩
    · by_cases h2 : w = 2
      · exact ⟨M 56 j, by rw [if_neg h0, if_neg h1, if_pos h2]; rfl, by rw [if_neg h0, if_neg h1, if_pos h2]; rfl⟩
      · exact ⟨M 57 j, by rw [if_neg h0, if_neg h1, if_neg h2]; rfl, by rw [if_neg h0, if_neg h1, if_neg h2]; rfl⟩
theorem m_told {M : Mem} (h : Inv M) (v : Int32) : ∃ r, f_X9_told v M = some r ∧ f_X10_told v M = some r := by
  obtain ⟨⟨n1, ⟨s1, s2, s3⟩, n5⟩, ⟨n, p1, p2, p3, p4⟩, ⟨k, g1, g2, g3, g4⟩, -⟩ := h
  have e1 : f_X10_in v.toInt64 10 17 = f_X9_within v 10 17 := inw rfl rfl
  have e2 : f_X10_in v.toInt64 100 179 = f_X9_within v 100 179 := inw rfl rfl
  unfold f_X9_told f_X10_told
  rw [e1, e2]
  rcases within_or2 v 10 17 (by decide) with h1 | ⟨j, a1, b1, r1, c1, h1⟩
  · rw [if_pos h1, if_pos h1]
    rcases within_or2 v 100 179 (by decide) with h2 | ⟨j, a2, b2, r2, c2, h2⟩
    · rw [if_pos h2, if_pos h2, clear1, clear10, p2, p3, g2, g3, s1, s2, s3, clr_congr (fun i hi => (n1 i hi).1)]
      by_cases q0 : v = 0
      · rw [if_pos q0]; exact ⟨_, rfl, rfl⟩
      rw [if_neg q0]
      by_cases q1 : v = 1
      · rw [if_pos q1]; exact ⟨_, rfl, rfl⟩
      rw [if_neg q1]
      by_cases q2 : v = 2
      · rw [if_pos q2]; exact ⟨_, rfl, rfl⟩
      rw [if_neg q2]
      by_cases q3 : v = 3
      · rw [if_pos q3]; exact ⟨_, rfl, rfl⟩
      rw [if_neg q3]
      by_cases q4 : v = 4
      · rw [if_pos q4]; exact ⟨_, rfl, rfl⟩
      rw [if_neg q4]
      by_cases q5 : v = 5
      · rw [if_pos q5]; exact ⟨_, rfl, rfl⟩
      rw [if_neg q5]
      exact ⟨_, rfl, rfl⟩
    · have h2' : ¬ f_X9_within v 100 179 = 0 := by rw [h2]; decide
      have t : (179 : Int32).toInt = 179 := rfl
      rw [if_neg h2', if_neg h2', r2]
      have er : remI (nI j) 10 = nI (j % 10) := pk_rem (d := 10) (by omega) (by omega) (by omega)
      have ed : (nI j - 100) / 10 = nI ((j - 100) / 10) := by
        have d1 : nI j - nI 100 = nI (j - 100) := pk_sub (by omega)
        have d2 : nI (j - 100) / nI 10 = nI ((j - 100) / 10) := pk_div (by omega) (by omega) (by omega)
        rw [← d2, ← d1]
        rfl
      rw [er, ed]
      by_cases q : 4 ≤ j % 10
      · rw [if_pos (show (3 : Int32) < nI (j % 10) from nI_lt (a := 3) (by omega) (by omega)), if_pos (show (4 : Int32) ≤ nI (j % 10) from nI_le (a := 4) (by omega) (by omega))]
        exact ⟨_, rfl, rfl⟩
      · rw [if_neg (show ¬ (3 : Int32) < nI (j % 10) from nI_nlt (a := 3) (by omega) (by omega)), if_neg (show ¬ (4 : Int32) ≤ nI (j % 10) from nI_ge (b := 4) (by omega) (by omega))]
        obtain ⟨r, o1, o2⟩ := ofHouse_eq n1 (j := (j - 100) / 10) (by omega) (nI (j % 10))
        rw [o1, o2]
        exact ⟨r, rfl, rfl⟩
  · have h1' : ¬ f_X9_within v 10 17 = 0 := by rw [h1]; decide
    have t : (17 : Int32).toInt = 17 := rfl
    have h2 : f_X9_within v 100 179 = 0 := by
      rw [within_0, r1, nI_toInt c1]
      show ¬ ((100 : Int) ≤ _ ∧ _)
      omega
    have ed : nI j - 10 = nI (j - 10) := pk_sub (b := 10) (by omega)
    rw [if_neg h1', if_pos h2, if_neg h1', r1, ed, inb_nI (show j - 10 < 8 by omega) (by decide), ix_nI (by omega)]
    exact ⟨M 58 (j - 10), by rw [(n1 (j - 10) (by omega)).2.2.2.2]; rfl, rfl⟩
