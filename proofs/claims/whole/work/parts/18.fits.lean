def b01 (t : Bool) : Int32 := if t then 1 else 0
theorem b01_0 {t : Bool} : b01 t = 0 ↔ t = false := by cases t <;> decide
theorem code_div {a c : Nat} (ha : a ≤ 9) (hc : c ≤ 9) : nI (10 * a + c) / (10 : Int32) = nI a := by
  have h : nI (10 * a + c) / nI 10 = nI ((10 * a + c) / 10) := pk_div (by omega) (by omega) (by omega)
  rw [show (10 * a + c) / 10 = a by omega] at h
  exact h
theorem code_rem {a c : Nat} (ha : a ≤ 9) (hc : c ≤ 9) : remI (nI (10 * a + c)) (10 : Int32) = nI c := by
  have h : nI (10 * a + c) - nI (10 * a + c) / nI 10 * nI 10 = nI ((10 * a + c) % 10) := pk_rem (by omega) (by omega) (by omega)
  rw [show (10 * a + c) % 10 = c by omega] at h
  exact h
theorem orb_top {c x : Nat} (hx : x ≤ 99) : ∀ i, orb (Gr c) x i ≤ 99
  | 0 => hx
  | i + 1 => Gr_le c _
theorem bred_l {a c w : Nat} (ha : a ≤ 9) (hc : c ≤ 9) (hw : w ≤ 40) : ∀ m i n x, i + m = w → m < n → x ≤ 99 → lp_X10_bred_7 n (nI (10 * a + c)) (nI w) (nI x) (nI i) = some (nI (orb (Gr c) x m))
  | 0, i, n, x, hi, hn, hx => by
    obtain ⟨n, rfl⟩ : ∃ n', n = n' + 1 := ⟨n - 1, by omega⟩
    show bd_X10_bred_7 _ _ _ _ _ = _
    unfold bd_X10_bred_7
    rw [if_pos (nI_le (by omega) (by omega))]
    rfl
  | m + 1, i, n, x, hi, hn, hx => by
    obtain ⟨n, rfl⟩ : ∃ n', n = n' + 1 := ⟨n - 1, by omega⟩
    show bd_X10_bred_7 _ _ _ _ _ = _
    unfold bd_X10_bred_7
    rw [if_neg (nI_ge (by omega) (by omega)), code_rem ha hc, grown10 hx hc, n_s, ← orb_s]
    exact bred_l ha hc hw m (i + 1) n _ (by omega) (by omega) (Gr_le c x)
theorem bred10 {a c w : Nat} (ha : a ≤ 9) (hc : c ≤ 9) (hw : w ≤ 40) : f_X10_bred (nI (10 * a + c)) (nI w) = some (nI (orb (Gr c) a w)) := by
  unfold f_X10_bred
  rw [code_div ha hc]
  exact bred_l ha hc hw w 0 FU a (by omega) (FU_lt (by omega)) (by omega)
theorem agree_l {M : Mem} {c : Nat} (hc : c ≤ 9) (hlast : ∀ j : Nat, j ≤ 40 → (M 19 2).toInt < (j : Int) → M 20 j = -1) (h40 : (M 19 2).toInt ≤ 40) : ∀ m i n x, i + m = 41 → m < n → x ≤ 99 →
    ∃ t : Bool, lp_X6_agree_19_5 M n (nI c) (nI x) (nI i) = some (b01 t) ∧ (t = true ↔ ∀ j, i ≤ j → j ≤ 40 → M 20 j = -1 ∨ M 20 j = nI (orb (Gr c) x (j - i)))
  | 0, i, n, x, hi, hn, hx => by
    obtain ⟨n, rfl⟩ : ∃ n', n = n' + 1 := ⟨n - 1, by omega⟩
    refine ⟨true, ?_, fun _ j a b => by omega, fun _ => rfl⟩
    show bd_X6_agree_19_5 _ _ _ _ _ = _
    unfold bd_X6_agree_19_5
    rw [if_pos (by rw [lt_toI, nI_toInt (by omega)]; omega)]
    rfl
  | m + 1, i, n, x, hi, hn, hx => by
    obtain ⟨n, rfl⟩ : ∃ n', n = n' + 1 := ⟨n - 1, by omega⟩
    by_cases hl : M 19 2 < nI i
    · refine ⟨true, ?_, fun _ j a b => ?_, fun _ => rfl⟩
      · show bd_X6_agree_19_5 _ _ _ _ _ = _
        unfold bd_X6_agree_19_5
        rw [if_pos hl]
        rfl
      · rw [lt_toI, nI_toInt (by omega)] at hl
        exact Or.inl (hlast j b (by omega))
    · obtain ⟨t, h1, h2⟩ := agree_l hc hlast h40 m (i + 1) n (Gr c x) (by omega) (by omega) (Gr_le c x)
      have step : (M 20 i = -1 ∨ M 20 i = nI x) → lp_X6_agree_19_5 M (n + 1) (nI c) (nI x) (nI i) = some (b01 t) := by
        intro q
        show bd_X6_agree_19_5 _ _ _ _ _ = _
        unfold bd_X6_agree_19_5 lb_X6_agree_19_45
        rw [if_neg hl, if_neg (show ¬ (40 : Int32) < nI i from nI_nlt (a := 40) (by omega) (by omega)), inb_nI (show i < 41 by omega) (by decide), ix_nI (by omega), grown9 hx hc, n_s]
        by_cases q1 : M 20 i = -1
        · rw [if_pos q1]
          exact h1
        · rw [if_neg q1, if_pos (q.resolve_left q1)]
          exact h1
      have shift : ∀ j, i + 1 ≤ j → orb (Gr c) (Gr c x) (j - (i + 1)) = orb (Gr c) x (j - i) := by
        intro j hj
        rw [orb_s, show j - (i + 1) + 1 = j - i by omega]
      by_cases q : M 20 i = -1 ∨ M 20 i = nI x
      · refine ⟨t, step q, h2.trans ⟨fun h j a b => ?_, fun h j a b => ?_⟩⟩
        · by_cases e : j = i
          · rw [e, Nat.sub_self]; exact q
          · have := h j (by omega) b
            rw [shift j (by omega)] at this
            exact this
        · rw [shift j a]
          exact h j (by omega) b
      · refine ⟨false, ?_, fun h => (by cases h), fun h => absurd (by have := h i (Nat.le_refl i) (by omega); rw [Nat.sub_self] at this; exact this) q⟩
        show bd_X6_agree_19_5 _ _ _ _ _ = _
        unfold bd_X6_agree_19_5
        rw [if_neg hl, if_neg (show ¬ (40 : Int32) < nI i from nI_nlt (a := 40) (by omega) (by omega)), inb_nI (show i < 41 by omega) (by decide), ix_nI (by omega), if_neg (fun h => q (Or.inl h)), if_neg (fun h => q (Or.inr h))]
        rfl
theorem fit_l0 {M : Mem} {k : Nat} (hk : k ≤ 8) (hM : M 53 10 = nI k) (v : Int32) : ∀ m e n, e + m = k → m < n → lp_X10_isFit_4 M n v 0 (nI e) = some 0
  | 0, e, n, he, hn => by
    obtain ⟨n, rfl⟩ : ∃ n', n = n' + 1 := ⟨n - 1, by omega⟩
    show bd_X10_isFit_4 _ _ _ _ _ = _
    unfold bd_X10_isFit_4
    rw [hM, if_pos (nI_le (by omega) (by omega)), if_pos (Or.inl rfl)]
  | m + 1, e, n, he, hn => by
    obtain ⟨n, rfl⟩ : ∃ n', n = n' + 1 := ⟨n - 1, by omega⟩
    show bd_X10_isFit_4 _ _ _ _ _ = _
    unfold bd_X10_isFit_4 lb_X10_isFit_39
    rw [hM, if_neg (nI_ge (by omega) (by omega)), if_pos rfl, n_s]
    exact fit_l0 hk hM v m (e + 1) n (by omega) (by omega)
theorem fit_l {M : Mem} {k a c : Nat} (hk : k ≤ 8) (hM : M 53 10 = nI k) (ha : a ≤ 9) (hc : c ≤ 9) (hr : ∀ e, e < k → Rg 40 (M 59 e) ∧ Rg 99 (M 60 e)) : ∀ m e n, e + m = k → m < n →
    ∃ t : Bool, lp_X10_isFit_4 M n (nI (10 * a + c)) 1 (nI e) = some (b01 t) ∧ (t = true ↔ ∀ e', e ≤ e' → e' < k → ∀ j : Nat, j ≤ 40 → M 59 e' = nI j → M 60 e' = nI (orb (Gr c) a j))
  | 0, e, n, he, hn => by
    obtain ⟨n, rfl⟩ : ∃ n', n = n' + 1 := ⟨n - 1, by omega⟩
    refine ⟨true, ?_, fun _ e' a b => by omega, fun _ => rfl⟩
    show bd_X10_isFit_4 _ _ _ _ _ = _
    unfold bd_X10_isFit_4
    rw [hM, if_pos (nI_le (by omega) (by omega)), if_pos (Or.inr rfl)]
    rfl
  | m + 1, e, n, he, hn => by
    obtain ⟨n, rfl⟩ : ∃ n', n = n' + 1 := ⟨n - 1, by omega⟩
    obtain ⟨⟨w, hw, ew⟩, -⟩ := hr e (by omega)
    have hd : ∀ K : Int32 → Int32 → Int32 → Option Int32, bd_X10_isFit_4 M K (nI (10 * a + c)) 1 (nI e) = if nI (orb (Gr c) a w) = M 60 e then K (nI (10 * a + c)) 1 (nI (e + 1)) else K (nI (10 * a + c)) 0 (nI (e + 1)) := by
      intro K
      unfold bd_X10_isFit_4 lb_X10_isFit_39
      rw [hM, if_neg (nI_ge (by omega) (by omega)), if_neg (by decide), inb_nI (show e < 8 by omega) (by decide), ix_nI (by omega), ew, bred10 ha hc hw, n_s]
      rfl
    by_cases q : nI (orb (Gr c) a w) = M 60 e
    · obtain ⟨t, h1, h2⟩ := fit_l hk hM ha hc hr m (e + 1) n (by omega) (by omega)
      refine ⟨t, ?_, h2.trans ⟨fun h e' x y j hj hw' => ?_, fun h e' x y => h e' (by omega) y⟩⟩
      · show bd_X10_isFit_4 _ _ _ _ _ = _
        rw [hd, if_pos q]
        exact h1
      · by_cases z : e' = e
        · subst z
          rw [ew] at hw'
          rw [← (nI_eq (by omega) (by omega)).mp hw']
          exact q.symm
        · exact h e' (by omega) y j hj hw'
    · refine ⟨false, ?_, fun h => (by cases h), fun h => absurd (h e (Nat.le_refl e) (by omega) w hw ew).symm q⟩
      show bd_X10_isFit_4 _ _ _ _ _ = _
      rw [hd, if_neg q]
      exact fit_l0 hk hM _ m (e + 1) n (by omega) (by omega)
/-- the class and the reference agree on what fits (M: the class's cells, N: the reference's) -/
theorem fit_eq {M N : Mem} (H : Sg (M 20) (M 19 1) (M 19 2) (N 59) (N 60) (N 53 10)) {a c : Nat} (ha : a ≤ 9) (hc : c ≤ 9) : ∃ t : Bool, f_X6_agree_19 (nI a) (nI c) M = some (b01 t) ∧ f_X10_isFit (nI (10 * a + c)) N = some (b01 t) := by
  obtain ⟨k, h1, h2, h3, h4, h5, h6, h7, h8⟩ := H
  obtain ⟨t, p1, p2⟩ := agree_l (M := M) hc h6 h8 41 0 FU a (by omega) (FU_lt (by omega)) (by omega)
  obtain ⟨t', q1, q2⟩ := fit_l (M := N) h1 h3 ha hc h4 k 0 FU (by omega) (FU_lt (by omega))
  have e : t = true ↔ t' = true := by
    rw [p2, q2]
    constructor
    · intro h e' _ hb j hj hw
      exact (h5 j _ hj (orb_top (by omega) j)).mp (h j (Nat.zero_le j) hj) e' hb hw
    · intro h j _ hj
      exact (h5 j _ hj (orb_top (by omega) j)).mpr (fun e' hb hw => h e' (Nat.zero_le _) hb j hj hw)
  have e2 : t = t' := by
    cases t <;> cases t' <;> first | rfl | (exact absurd (e.mp rfl) (by decide)) | (exact absurd (e.mpr rfl) (by decide))
  subst e2
  exact ⟨t, p1, q1⟩
/-- the fits told one after the other: P tells which codes fit, v which one is wanted -/
def fsp (P : Nat → Bool) (v : Int32) : Nat → Nat → Int32 → Option Int32
  | 0, _, n => if v = -1 then some n else some (-6)
  | m + 1, code, n => if P code then (if n = v then some (nI code) else fsp P v m (code + 1) (n + 1)) else fsp P v m (code + 1) n
theorem fsp_s (P : Nat → Bool) (v : Int32) (m code : Nat) (n : Int32) : fsp P v (m + 1) code n = if P code then (if n = v then some (nI code) else fsp P v m (code + 1) (n + 1)) else fsp P v m (code + 1) n := rfl
theorem fits10 {M : Mem} {P : Nat → Bool} (hP : ∀ code, 10 ≤ code → code < 100 → f_X10_isFit (nI code) M = some (b01 (P code))) (v : Int32) : ∀ m code fu n, code + m = 100 → 10 ≤ code → m < fu → lp_X10_fits_5 M fu v n (nI code) = fsp P v m code n
  | 0, code, fu, n, h, h10, hf => by
    obtain ⟨fu, rfl⟩ : ∃ n', fu = n' + 1 := ⟨fu - 1, by omega⟩
    show bd_X10_fits_5 _ _ _ _ _ = _
    unfold bd_X10_fits_5 fsp
    rw [if_pos (show (100 : Int32) ≤ nI code from nI_le (a := 100) (by omega) (by omega))]
  | m + 1, code, fu, n, h, h10, hf => by
    obtain ⟨fu, rfl⟩ : ∃ n', fu = n' + 1 := ⟨fu - 1, by omega⟩
    have ih := fun n => fits10 hP v m (code + 1) fu n (by omega) (by omega) (by omega)
    show bd_X10_fits_5 _ _ _ _ _ = _
    unfold bd_X10_fits_5 fsp
    rw [if_neg (show ¬ (100 : Int32) ≤ nI code from nI_ge (b := 100) (by omega) (by omega)), hP code h10 (by omega), Option.bind_some, n_s, ih, ih]
    cases P code with
    | true => rfl
    | false => rfl
theorem fits9_in {M : Mem} {P : Nat → Bool} {v : Int32} {K : Int32 → Int32 → Int32 → Option Int32} {a : Nat} (ha : a ≤ 9) (hP : ∀ c, c ≤ 9 → f_X6_agree_19 (nI a) (nI c) M = some (b01 (P (10 * a + c)))) (r : Nat) (hK : ∀ n, K v n (nI (a + 1)) = fsp P v r (10 * (a + 1)) n) : ∀ m c fu n, c + m = 10 → m < fu → lp_X9_fits_21 M K fu v n (nI a) (nI c) = fsp P v (m + r) (10 * a + c) n
  | 0, c, fu, n, h, hf => by
    obtain ⟨fu, rfl⟩ : ∃ n', fu = n' + 1 := ⟨fu - 1, by omega⟩
    show bd_X9_fits_21 _ _ _ _ _ _ _ = _
    unfold bd_X9_fits_21
    rw [if_pos (show (9 : Int32) < nI c from nI_lt (a := 9) (by omega) (by omega)), n_s, hK, Nat.zero_add, show 10 * (a + 1) = 10 * a + c by omega]
  | m + 1, c, fu, n, h, hf => by
    obtain ⟨fu, rfl⟩ : ∃ n', fu = n' + 1 := ⟨fu - 1, by omega⟩
    have ih := fun n => fits9_in ha hP r hK m (c + 1) fu n (by omega) (by omega)
    show bd_X9_fits_21 _ _ _ _ _ _ _ = _
    unfold bd_X9_fits_21
    rw [if_neg (show ¬ (9 : Int32) < nI c from nI_nlt (a := 9) (by omega) (by omega)), hP c (by omega), Option.bind_some, n_s, ih, ih, show m + 1 + r = (m + r) + 1 by omega]
    have e : (10 : Int32) * nI a + nI c = nI (10 * a + c) := by
      have h1 : nI 10 * nI a = nI (10 * a) := pk_mul 10 a
      have h2 : (10 : Int32) * nI a = nI (10 * a) := h1
      rw [h2, nI_add]
    rw [e, fsp_s]
    cases P (10 * a + c) with
    | true => rfl
    | false => rfl
theorem fits9 {M : Mem} {P : Nat → Bool} (hP : ∀ a c, 1 ≤ a → a ≤ 9 → c ≤ 9 → f_X6_agree_19 (nI a) (nI c) M = some (b01 (P (10 * a + c)))) (v : Int32) : ∀ m a fu n, a + m = 10 → 1 ≤ a → m < fu → lp_X9_fits_12 M fu v n (nI a) = fsp P v (10 * m) (10 * a) n
  | 0, a, fu, n, h, h1, hf => by
    obtain ⟨fu, rfl⟩ : ∃ n', fu = n' + 1 := ⟨fu - 1, by omega⟩
    show bd_X9_fits_12 _ _ _ _ _ = _
    unfold bd_X9_fits_12 fsp
    rw [if_pos (show (9 : Int32) < nI a from nI_lt (a := 9) (by omega) (by omega))]
  | m + 1, a, fu, n, h, h1, hf => by
    obtain ⟨fu, rfl⟩ : ∃ n', fu = n' + 1 := ⟨fu - 1, by omega⟩
    show bd_X9_fits_12 _ _ _ _ _ = _
    unfold bd_X9_fits_12
    rw [if_neg (show ¬ (9 : Int32) < nI a from nI_nlt (a := 9) (by omega) (by omega))]
    have := fits9_in (M := M) (P := P) (v := v) (K := lp_X9_fits_12 M fu) (a := a) (by omega) (fun c hc => hP a c h1 (by omega) hc) (10 * m) (fun n => fits9 hP v m (a + 1) fu n (by omega) (by omega) (by omega)) 10 0 FU n (by omega) (FU_lt (by omega))
    rw [show 10 * (m + 1) = 10 + 10 * m by omega]
    exact this
theorem fsp_some (P : Nat → Bool) (v : Int32) : ∀ m code n, ∃ r, fsp P v m code n = some r
  | 0, code, n => by
    unfold fsp
    split
    · exact ⟨_, rfl⟩
    · exact ⟨_, rfl⟩
  | m + 1, code, n => by
    unfold fsp
    split
    · split
      · exact ⟨_, rfl⟩
      · exact fsp_some P v m _ _
    · exact fsp_some P v m _ _
/-- a number below -1 is no place -/
theorem fsp_low (P : Nat → Bool) {v : Int32} (hv : v.toInt < -1) : ∀ m code n, n + m < 2 ^ 31 → fsp P v m code (nI n) = some (-6)
  | 0, code, n, h => by
    unfold fsp
    rw [if_neg]
    intro q
    rw [q] at hv
    exact absurd hv (by decide)
  | m + 1, code, n, h => by
    unfold fsp
    rw [n_s, fsp_low P hv m _ (n + 1) (by omega), fsp_low P hv m _ n (by omega), if_neg (show ¬ nI n = v from fun q => by rw [← q, nI_toInt (by omega)] at hv; omega)]
    cases P code <;> rfl
theorem fitP {M N : Mem} (H : Sg (M 20) (M 19 1) (M 19 2) (N 59) (N 60) (N 53 10)) : ∃ P : Nat → Bool, (∀ a c, 1 ≤ a → a ≤ 9 → c ≤ 9 → f_X6_agree_19 (nI a) (nI c) M = some (b01 (P (10 * a + c)))) ∧ ∀ code, 10 ≤ code → code < 100 → f_X10_isFit (nI code) N = some (b01 (P code)) := by
  refine ⟨fun code => decide (f_X10_isFit (nI code) N = some 1), fun a c h1 ha hc => ?_, fun code h1 h2 => ?_⟩
  · obtain ⟨t, p, q⟩ := fit_eq H ha hc
    show _ = some (b01 (decide (f_X10_isFit (nI (10 * a + c)) N = some 1)))
    rw [p, q]
    cases t <;> rfl
  · obtain ⟨t, p, q⟩ := fit_eq H (a := code / 10) (c := code % 10) (by omega) (by omega)
    rw [show 10 * (code / 10) + code % 10 = code by omega] at q
    show _ = some (b01 (decide (f_X10_isFit (nI code) N = some 1)))
    rw [q]
    cases t <;> rfl
theorem m_fits {M : Mem} (h : Inv M) (v : Int32) : ∃ r, f_X9_fits v M = some r ∧ f_X10_fits v M = some r := by
  obtain ⟨P, p, q⟩ := fitP h.2.2.1
  have e10 : f_X10_fits v M = fsp P v 90 10 0 := fits10 q v 90 10 FU 0 (by omega) (by omega) (FU_lt (by omega))
  have e9 : lp_X9_fits_12 M FU v 0 (nI 1) = fsp P v 90 10 0 := fits9 p v 9 1 FU 0 (by omega) (by omega) (FU_lt (by omega))
  rw [e10]
  unfold f_X9_fits
  by_cases hv : (-1 : Int32) ≤ v
  · rw [if_pos hv]
    obtain ⟨r, hr⟩ := fsp_some P v 90 10 0
    exact ⟨r, e9.trans hr, hr⟩
  · rw [if_neg hv]
    refine ⟨-6, rfl, fsp_low P ?_ 90 10 0 (by omega)⟩
    rw [le_toI] at hv
    have : (-1 : Int32).toInt = -1 := rfl
    omega
