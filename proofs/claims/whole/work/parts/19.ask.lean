theorem maxI_nI {a b : Nat} (ha : a < 2 ^ 31) (hb : b < 2 ^ 31) : maxI (nI a) (nI b) = nI (max a b) := by
  unfold maxI
  by_cases h : a < b
  · rw [if_pos ((nI_ltI ha hb).mpr h), Nat.max_eq_right (by omega)]
  · rw [if_neg (fun q => h ((nI_ltI ha hb).mp q)), Nat.max_eq_left (by omega)]
theorem fitP2 {M : Mem} (H : Sgs M) : ∃ P : Nat → Bool, (∀ N : Mem, N 19 = M 19 → N 20 = M 20 → ∀ a c, 1 ≤ a → a ≤ 9 → c ≤ 9 → f_X6_agree_19 (nI a) (nI c) N = some (b01 (P (10 * a + c)))) ∧ ∀ N : Mem, N 53 = M 53 → N 59 = M 59 → N 60 = M 60 → ∀ code, 10 ≤ code → code < 100 → f_X10_isFit (nI code) N = some (b01 (P code)) := by
  obtain ⟨P, p, q⟩ := fitP H
  refine ⟨P, fun N h1 h2 a c ha1 ha hc => ?_, fun N h1 h2 h3 code hc1 hc2 => ?_⟩
  · have H2 : Sg (N 20) (N 19 1) (N 19 2) (M 59) (M 60) (M 53 10) := by rw [h1, h2]; exact H
    obtain ⟨t, x, y⟩ := fit_eq H2 ha hc
    have z := q (10 * a + c) (by omega) (by omega)
    rw [y] at z
    rw [x, z]
  · have H2 : Sg (M 20) (M 19 1) (M 19 2) (N 59) (N 60) (N 53 10) := by rw [h1, h2, h3]; exact H
    obtain ⟨t, x, y⟩ := fit_eq H2 (a := code / 10) (c := code % 10) (by omega) (by omega)
    have z := p (code / 10) (code % 10) (by omega) (by omega) (by omega)
    rw [show 10 * (code / 10) + code % 10 = code by omega] at y z
    rw [x] at z
    rw [y, z]
def mstp (q : (Nat → Nat) × Nat) (v : Nat) : (Nat → Nat) × Nat := (fun j => if j = v then q.1 v + 1 else q.1 j, max q.2 (q.1 v + 1))
def mst (vs : List Nat) (q : (Nat → Nat) × Nat) : (Nat → Nat) × Nat := vs.foldl mstp q
def fitl (P : Nat → Bool) : Nat → Nat → List Nat
  | 0, _ => []
  | m + 1, code => if P code then code :: fitl P m (code + 1) else fitl P m (code + 1)
theorem fitl_len (P : Nat → Bool) : ∀ m code, (fitl P m code).length ≤ m
  | 0, _ => Nat.le_refl 0
  | m + 1, code => by
    have ih := fitl_len P m (code + 1)
    unfold fitl
    split
    · rw [List.length_cons]; omega
    · omega
theorem fitl_in (P : Nat → Bool) : ∀ m code x, x ∈ fitl P m code → code ≤ x ∧ x < code + m
  | 0, code, x, h => by cases h
  | m + 1, code, x, h => by
    have ih := fitl_in P m (code + 1) x
    unfold fitl at h
    split at h
    · rcases List.mem_cons.mp h with h | h
      · omega
      · have := ih h; omega
    · have := ih h; omega
theorem fitl_s (P : Nat → Bool) (m code : Nat) : fitl P (m + 1) code = if P code then code :: fitl P m (code + 1) else fitl P m (code + 1) := rfl
theorem fitl_app (P : Nat → Bool) : ∀ m r code, fitl P (m + r) code = fitl P m code ++ fitl P r (code + m)
  | 0, r, code => by rw [Nat.zero_add]; rfl
  | m + 1, r, code => by
    have ih := fitl_app P m r (code + 1)
    rw [show m + 1 + r = (m + r) + 1 by omega, fitl_s, fitl_s, ih, show code + 1 + m = code + (m + 1) by omega]
    split
    · rw [List.cons_append]
    · rfl
/-- the class's rows hold the codes of l, w weeks bred -/
def Hol (M : Mem) (l : List Nat) (w : Nat) : Prop := M 21 3 = nI l.length ∧ l.length ≤ 90 ∧ ∀ i, i < l.length → M 22 i = nI (orb (Gr (l.getD i 0 % 10)) (l.getD i 0 / 10) w) ∧ M 23 i = nI (l.getD i 0 % 10)
theorem Hol_add {M : Mem} {l : List Nat} {a c : Nat} (hc : c ≤ 9) (hl : l.length < 90) (H : Hol M l 0) : Hol (up2 (up2 (up2 M 22 l.length (nI a)) 23 l.length (nI c)) 21 3 (nI (l.length + 1))) (l ++ [10 * a + c]) 0 := by
  obtain ⟨h1, h2, h3⟩ := H
  refine ⟨?_, ?_, fun i hi => ?_⟩
  · rw [List.length_append]; rfl
  · rw [List.length_append]; exact hl
  · rw [List.length_append] at hi
    have hi : i < l.length + 1 := hi
    have e22 : up2 (up2 (up2 M 22 l.length (nI a)) 23 l.length (nI c)) 21 3 (nI (l.length + 1)) 22 i = if i = l.length then nI a else M 22 i := by
      rw [up2_ne _ _ _ (by decide), up2_ne _ _ _ (by decide), up2_at]
    have e23 : up2 (up2 (up2 M 22 l.length (nI a)) 23 l.length (nI c)) 21 3 (nI (l.length + 1)) 23 i = if i = l.length then nI c else M 23 i := by
      rw [up2_ne _ _ _ (by decide), up2_at, up2_ne _ _ _ (by decide)]
    rw [e22, e23]
    by_cases q : i = l.length
    · have e : (l ++ [10 * a + c]).getD i 0 = 10 * a + c := by
        rw [q, List.getD_eq_getElem?_getD, List.getElem?_append_right (Nat.le_refl _), Nat.sub_self]; rfl
      rw [if_pos q, if_pos q, e, show (10 * a + c) % 10 = c by omega, show (10 * a + c) / 10 = a by omega]
      exact ⟨rfl, rfl⟩
    · have e : (l ++ [10 * a + c]).getD i 0 = l.getD i 0 := by
        rw [List.getD_eq_getElem?_getD, List.getD_eq_getElem?_getD, List.getElem?_append_left (by omega)]
      rw [if_neg q, if_neg q, e]
      exact h3 i (by omega)
/-- N is M but for the cells 21, 22, 23 -/
def Fa (M N : Mem) : Prop := ∀ k, k ≠ 21 → k ≠ 22 → k ≠ 23 → N k = M k
theorem Fa.add {M N : Mem} (h : Fa M N) (i j k : Nat) (x y z : Int32) : Fa M (up2 (up2 (up2 N 22 i x) 23 j y) 21 k z) := by
  intro q a b c
  rw [up2_ne _ _ _ a, up2_ne _ _ _ c, up2_ne _ _ _ b]
  exact h q a b c
theorem gather_in {M0 : Mem} {P : Nat → Bool} (hP : ∀ N : Mem, N 19 = M0 19 → N 20 = M0 20 → ∀ a c, 1 ≤ a → a ≤ 9 → c ≤ 9 → f_X6_agree_19 (nI a) (nI c) N = some (b01 (P (10 * a + c)))) {K : Int32 → Mem → Option Mem} {a : Nat} (ha1 : 1 ≤ a) (ha : a ≤ 9) {tl : List Nat} (hK : ∀ N l, Fa M0 N → Hol N l 0 → l.length ≤ 10 * a → ∃ N', K (nI (a + 1)) N = some N' ∧ Fa M0 N' ∧ Hol N' (l ++ tl) 0) :
    ∀ m c fu N l, c + m = 10 → m < fu → Fa M0 N → Hol N l 0 → l.length ≤ 10 * (a - 1) + c → ∃ N', lp_X1_gather_21_19_15 K fu (nI a) (nI c) N = some N' ∧ Fa M0 N' ∧ Hol N' (l ++ (fitl P m (10 * a + c) ++ tl)) 0
  | 0, c, fu, N, l, h, hf, hF, hH, hl => by
    obtain ⟨fu, rfl⟩ : ∃ n', fu = n' + 1 := ⟨fu - 1, by omega⟩
    obtain ⟨N', h1, h2, h3⟩ := hK N l hF hH (by omega)
    refine ⟨N', ?_, h2, h3⟩
    show bd_X1_gather_21_19_15 _ _ _ _ _ = _
    unfold bd_X1_gather_21_19_15
    rw [if_pos (show (9 : Int32) < nI c from nI_lt (a := 9) (by omega) (by omega)), n_s]
    exact h1
  | m + 1, c, fu, N, l, h, hf, hF, hH, hl => by
    obtain ⟨fu, rfl⟩ : ∃ n', fu = n' + 1 := ⟨fu - 1, by omega⟩
    have hag := hP N (hF 19 (by decide) (by decide) (by decide)) (hF 20 (by decide) (by decide) (by decide)) a c ha1 ha (by omega)
    have hlen : l.length < 90 := by omega
    have hcnt := hH.1
    have pre : bd_X1_gather_21_19_15 K (lp_X1_gather_21_19_15 K fu) (nI a) (nI c) N = if P (10 * a + c) = false then lp_X1_gather_21_19_15 K fu (nI a) (nI (c + 1)) N else lp_X1_gather_21_19_15 K fu (nI a) (nI (c + 1)) (up2 (up2 (up2 N 22 l.length (nI a)) 23 l.length (nI c)) 21 3 (nI (l.length + 1))) := by
      unfold bd_X1_gather_21_19_15
      rw [if_neg (show ¬ (9 : Int32) < nI c from nI_nlt (a := 9) (by omega) (by omega)), hcnt, if_neg (show ¬ (90 : Int32) ≤ nI l.length from nI_ge (b := 90) hlen (by omega)), hag, Option.bind_some, inb_nI hlen (by decide), ix_nI (by omega), n_s, n_s]
      cases P (10 * a + c) <;> rfl
    cases hp : P (10 * a + c) with
    | false =>
      obtain ⟨N', h1, h2, h3⟩ := gather_in hP ha1 ha hK m (c + 1) fu N l (by omega) (by omega) hF hH (by omega)
      refine ⟨N', ?_, h2, ?_⟩
      · show bd_X1_gather_21_19_15 _ _ _ _ _ = _
        rw [pre, hp, if_pos rfl]
        exact h1
      · unfold fitl
        rw [hp]
        exact h3
    | true =>
      obtain ⟨N', h1, h2, h3⟩ := gather_in hP ha1 ha hK m (c + 1) fu _ (l ++ [10 * a + c]) (by omega) (by omega) (hF.add l.length l.length 3 (nI a) (nI c) (nI (l.length + 1))) (Hol_add (by omega) hlen hH) (by rw [List.length_append]; show l.length + 1 ≤ _; omega)
      refine ⟨N', ?_, h2, ?_⟩
      · show bd_X1_gather_21_19_15 _ _ _ _ _ = _
        rw [pre, hp, if_neg (by decide)]
        exact h1
      · unfold fitl
        rw [hp]
        rw [List.append_assoc] at h3
        exact h3
theorem gather_out {M0 : Mem} {P : Nat → Bool} (hP : ∀ N : Mem, N 19 = M0 19 → N 20 = M0 20 → ∀ a c, 1 ≤ a → a ≤ 9 → c ≤ 9 → f_X6_agree_19 (nI a) (nI c) N = some (b01 (P (10 * a + c)))) :
    ∀ m a fu N l, a + m = 10 → 1 ≤ a → m < fu → Fa M0 N → Hol N l 0 → l.length ≤ 10 * (a - 1) → ∃ N', lp_X1_gather_21_19_7 fu (nI a) N = some N' ∧ Fa M0 N' ∧ Hol N' (l ++ fitl P (10 * m) (10 * a)) 0
  | 0, a, fu, N, l, h, h1, hf, hF, hH, hl => by
    obtain ⟨fu, rfl⟩ : ∃ n', fu = n' + 1 := ⟨fu - 1, by omega⟩
    refine ⟨N, ?_, hF, by rw [show fitl P (10 * 0) (10 * a) = [] from rfl, List.append_nil]; exact hH⟩
    show bd_X1_gather_21_19_7 _ _ _ = _
    unfold bd_X1_gather_21_19_7
    rw [if_pos (show (9 : Int32) < nI a from nI_lt (a := 9) (by omega) (by omega))]
  | m + 1, a, fu, N, l, h, h1, hf, hF, hH, hl => by
    obtain ⟨fu, rfl⟩ : ∃ n', fu = n' + 1 := ⟨fu - 1, by omega⟩
    obtain ⟨N', p1, p2, p3⟩ := gather_in (M0 := M0) (P := P) hP (K := lp_X1_gather_21_19_7 fu) (a := a) h1 (by omega) (tl := fitl P (10 * m) (10 * (a + 1))) (fun N l hF hH hl => gather_out hP m (a + 1) fu N l (by omega) (by omega) (by omega) hF hH (by omega)) 10 0 FU N l (by omega) (FU_lt (by omega)) hF hH (by omega)
    refine ⟨N', ?_, p2, ?_⟩
    · show bd_X1_gather_21_19_7 _ _ _ = _
      unfold bd_X1_gather_21_19_7
      rw [if_neg (show ¬ (9 : Int32) < nI a from nI_nlt (a := 9) (by omega) (by omega))]
      exact p1
    · rw [show 10 * (m + 1) = 10 + 10 * m by omega, fitl_app, show 10 * a + 10 = 10 * (a + 1) by omega]
      exact p3
