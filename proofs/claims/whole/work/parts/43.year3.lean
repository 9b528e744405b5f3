def valC (w : Int32) (M : Mem) : Int32 := if w = 0 then sum8 (M 9) else if w = 1 then M 8 7 else f_J6_bitCount_0f7a4 (clr (M 9))
theorem endC_eq (w : Int32) (M : Mem) : endC w M = some (valC w M, M) := by
  unfold endC valC
  rw [all8, clear8]
  by_cases q : w = 0
  · rw [if_pos q, if_pos q]; rfl
  · rw [if_neg q, if_neg q]
    by_cases p : w = 1
    · rw [if_pos p, if_pos p]
    · rw [if_neg p, if_neg p]; rfl
theorem endR_eq (w : Int32) {M N : Mem} (hR : Rel M N) : endR w N = lb_X10_year_190 (valC w M) N := by
  have e9 : ∀ i, i < 8 → M 9 i = N 54 i := fun i hi => (hR.1 i hi).1
  unfold endR valC
  obtain ⟨c, hc, ec⟩ := clr_lt (M 9)
  rw [all10, clear10, ← sum8_congr e9, ← clr_congr e9, ← hR.2.1.2.1, Option.bind_some, Option.bind_some, ec, ones_bc hc, Option.bind_some]
  by_cases q : w = 0
  · rw [if_pos q, if_pos q]
  · rw [if_neg q, if_neg q]
    by_cases p : w = 1
    · rw [if_pos p, if_pos p]
    · rw [if_neg p, if_neg p]
theorem year_any {M B : Mem} (h : Inv M) (hB : ∀ k, 53 ≤ k → B k = M k) {x T : Nat} (hx : x ≤ 9999) (hT : T ≤ 99) (w : Int32) : ∃ M' N', ((f_X8_become_8_1 M).bind fun q4 => lp_X9_year_50 FU (nI T) w (nI x) 0 q4) = endC w M' ∧ ((f_X10_keepNow B).bind fun q4 => lp_X10_year_49 FU (nI T) w (nI x) 0 q4) = endR w N' ∧ FrX M M' ∧ FrZ B N' ∧ Had N' B ∧ Rel M' N' := by
  obtain ⟨q1, k1, k2, k3⟩ := keep_eq (M0 := B) 8 0 FU B (by omega) (FU_lt (by omega)) (fun _ _ => rfl) (fun j hj => by omega)
  have k1' : f_X10_keepNow B = some q1 := k1
  have e : ∀ k, 53 ≤ k → k ≠ 66 → q1 k = M k := fun k a b => (k2 k b).trans (hB k a)
  have e53 : q1 53 = M 53 := e 53 (by omega) (by decide)
  obtain ⟨M3, b1, b2, b3⟩ := become_rel (N := q1) h.1 (e 54 (by omega) (by decide)) (e 55 (by omega) (by decide)) (e 56 (by omega) (by decide)) (e 57 (by omega) (by decide)) (e 58 (by omega) (by decide)) (congrFun e53 5) (congrFun e53 6) (congrFun e53 7)
  obtain ⟨M', N', z1, z2, z3, z4, z5⟩ := year_lock hT w T 0 FU FU x M3 q1 (by omega) (FU_lt (by omega)) (FU_lt (by omega)) (by omega) b3
  refine ⟨M', N', ?_, ?_, (FrX.ofC b2).tr z3, ⟨fun k a b => ?_, fun j a b c d e f g i l => ?_⟩, ?_, z5⟩
  · rw [b1, Option.bind_some]; exact z1
  · rw [k1', Option.bind_some]; exact z2
  · rw [z4.1 k a (by omega), k2 k (by omega)]
  · rw [z4.2.1 j a b c e f g i l, k2 53 (by decide)]
  · have : N' 66 = q1 66 := z4.1 66 (by omega) (by decide)
    unfold Had Had5
    rw [this]
    exact k3
theorem m_year {M : Mem} (h : Inv M) (v1 v2 v3 : Int32) : Alike M (f_X9_year v1 v2 v3) (f_X10_year v1 v2 v3) := by
  have e1 : f_X10_in v1.toInt64 0 9999 = f_X9_within v1 0 9999 := in_within v1 0 9999
  have e2 : f_X10_in v2.toInt64 1 99 = f_X9_within v2 1 99 := in_within v2 1 99
  have e3 : f_X10_in v3.toInt64 0 2 = f_X9_within v3 0 2 := in_within v3 0 2
  unfold Alike f_X9_year f_X10_year
  simp only [e1, e2, e3]
  by_cases c1 : f_X9_within v1 0 9999 = 0
  · exact ⟨-2, M, M, if_pos c1, if_pos c1, h⟩
  by_cases c2 : f_X9_within v2 1 99 = 0
  · exact ⟨-2, M, M, by rw [if_neg c1, if_pos c2], by rw [if_neg c1, if_pos c2], h⟩
  by_cases c3 : f_X9_within v3 0 2 = 0
  · exact ⟨-2, M, M, by rw [if_neg c1, if_neg c2, if_pos c3], by rw [if_neg c1, if_neg c2, if_pos c3], h⟩
  simp only [if_neg c1, if_neg c2, if_neg c3]
  have d1 := Decidable.not_not.mp (fun z => c1 (within_0.mpr z))
  have d2 := Decidable.not_not.mp (fun z => c2 (within_0.mpr z))
  have l0 : (0 : Int32).toInt = 0 := rfl
  have l1 : (1 : Int32).toInt = 1 := rfl
  have l99 : (99 : Int32).toInt = 99 := rfl
  have l9 : (9999 : Int32).toInt = 9999 := rfl
  obtain ⟨x, hx, rfl⟩ := nIr (x := v1) (N := 10000) (by omega) (by omega)
  obtain ⟨T, hT, rfl⟩ := nIr (x := v2) (N := 100) (by omega) (by omega)
  obtain ⟨M1, _, a1, _, a3, _⟩ := year_any h (B := M) (fun _ _ => rfl) (x := x) (T := T) (by omega) (by omega) v3
  obtain ⟨M2, N2, b1, b2, b3, b4, b5, b6⟩ := year_any h (B := M1) (fun k hk => a3 k (by omega) (by omega) (by omega)) (x := x) (T := T) (by omega) (by omega) v3
  have em : M2 = M1 := by
    have q := a1.symm.trans b1
    rw [endC_eq, endC_eq] at q
    generalize valC v3 M1 = s at q
    generalize valC v3 M2 = s' at q
    exact (congrArg Prod.snd (Option.some.inj q)).symm
  subst em
  obtain ⟨N3, g1, g2, g3, g4, g5⟩ := back_eq (valC v3 M2) b5
  have r1 := b1.trans (endC_eq v3 M2)
  have r2 := b2.trans (endR_eq v3 b6)
  generalize valC v3 M2 = s at g1 r1 r2
  refine ⟨s, M2, N3, r1, ?_, back_inv h b3 b4 g2 g3 g4 g5⟩
  rw [r2]
  unfold lb_X10_year_190
  rw [g1]; rfl
