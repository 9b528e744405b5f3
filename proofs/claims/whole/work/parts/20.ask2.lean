theorem fill24 (v : Int32) : ∀ m i n M, i + m = 100 → m < n → ∃ M' : Mem, lp_J7_fill_53178_24_5 n v (nI i) (nI 100) M = some M' ∧ (∀ k, k ≠ 24 → M' k = M k) ∧ ∀ j, M' 24 j = if i ≤ j ∧ j < 100 then v else M 24 j
  | 0, i, n, M, hi, hn => by
    obtain ⟨n, rfl⟩ : ∃ n', n = n' + 1 := ⟨n - 1, by omega⟩
    refine ⟨M, ?_, fun _ _ => rfl, fun j => by rw [if_neg (by omega)]⟩
    show bd_J7_fill_53178_24_5 _ _ _ _ _ = _
    unfold bd_J7_fill_53178_24_5
    rw [if_pos (nI_le (by omega) (by omega))]
  | m + 1, i, n, M, hi, hn => by
    obtain ⟨n, rfl⟩ : ∃ n', n = n' + 1 := ⟨n - 1, by omega⟩
    obtain ⟨M', h1, h2, h3⟩ := fill24 v m (i + 1) n (up2 M 24 i v) (by omega) (by omega)
    refine ⟨M', ?_, fun k hk => (h2 k hk).trans (up2_ne M i v hk), fun j => ?_⟩
    · show bd_J7_fill_53178_24_5 _ _ _ _ _ = _
      unfold bd_J7_fill_53178_24_5
      rw [if_neg (nI_ge (by omega) (by omega)), inb_nI (show i < 100 by omega) (by decide), ix_nI (by omega), n_s]
      exact h1
    · rw [h3 j, up2_at]
      by_cases q : j = i
      · rw [if_neg (by omega), if_pos q, if_pos (by omega)]
      · rw [if_neg q]
        by_cases q2 : i + 1 ≤ j ∧ j < 100
        · rw [if_pos q2, if_pos (by omega)]
        · rw [if_neg q2, if_neg (by omega)]
theorem zero70 (v1 v2 : Int32) : ∀ m i n M, i + m = 100 → m < n → ∃ M' : Mem, lp_X10_mostLeft_4 n v1 v2 (nI i) M = lp_X10_mostLeft_26 FU v1 v2 10 M' ∧ (∀ k, k ≠ 70 → M' k = M k) ∧ ∀ j, M' 70 j = if i ≤ j ∧ j < 100 then 0 else M 70 j
  | 0, i, n, M, hi, hn => by
    obtain ⟨n, rfl⟩ : ∃ n', n = n' + 1 := ⟨n - 1, by omega⟩
    refine ⟨M, ?_, fun _ _ => rfl, fun j => by rw [if_neg (by omega)]⟩
    show bd_X10_mostLeft_4 _ _ _ _ _ = _
    unfold bd_X10_mostLeft_4
    rw [if_pos (show (100 : Int32) ≤ nI i from nI_le (a := 100) (by omega) (by omega))]
  | m + 1, i, n, M, hi, hn => by
    obtain ⟨n, rfl⟩ : ∃ n', n = n' + 1 := ⟨n - 1, by omega⟩
    obtain ⟨M', h1, h2, h3⟩ := zero70 v1 v2 m (i + 1) n (up2 M 70 i 0) (by omega) (by omega)
    refine ⟨M', ?_, fun k hk => (h2 k hk).trans (up2_ne M i 0 hk), fun j => ?_⟩
    · show bd_X10_mostLeft_4 _ _ _ _ _ = _
      unfold bd_X10_mostLeft_4
      rw [if_neg (show ¬ (100 : Int32) ≤ nI i from nI_ge (b := 100) (by omega) (by omega)), inb_nI (show i < 100 by omega) (by decide), ix_nI (by omega), n_s]
      exact h1
    · rw [h3 j, up2_at]
      by_cases q : j = i
      · rw [if_neg (by omega), if_pos q, if_pos (by omega)]
      · rw [if_neg q]
        by_cases q2 : i + 1 ≤ j ∧ j < 100
        · rw [if_pos q2, if_pos (by omega)]
        · rw [if_neg q2, if_neg (by omega)]
theorem alike_l {len : Nat} (hlen : len ≤ 90) : ∀ (vs : List Nat) i fu M b (f : Nat → Nat), i + vs.length = len → vs.length < fu → M 21 3 = nI len → (∀ t, t < vs.length → M 22 (i + t) = nI (vs.getD t 0) ∧ vs.getD t 0 ≤ 99) → (∀ j, j < 100 → M 24 j = nI (f j)) → (∀ j, f j + vs.length ≤ 200) → b ≤ 200 →
    ∃ M' : Mem, lp_X1_mostAlike_21_12 fu (nI b) (nI i) M = some (nI (mst vs (f, b)).2, M') ∧ ∀ k, k ≠ 24 → M' k = M k
  | [], i, fu, M, b, f, hi, hf, hM, hv, h24, hb, hbb => by
    obtain ⟨fu, rfl⟩ : ∃ n', fu = n' + 1 := ⟨fu - 1, by omega⟩
    refine ⟨M, ?_, fun _ _ => rfl⟩
    show bd_X1_mostAlike_21_12 _ _ _ _ = _
    unfold bd_X1_mostAlike_21_12
    have : i = len := hi
    rw [hM, if_pos (nI_le (by omega) (by omega))]
    rfl
  | v :: vs, i, fu, M, b, f, hi, hf, hM, hv, h24, hb, hbb => by
    obtain ⟨fu, rfl⟩ : ∃ n', fu = n' + 1 := ⟨fu - 1, by omega⟩
    rw [List.length_cons] at hi hf hb
    have h0 := hv 0 (by rw [List.length_cons]; omega)
    have e0 : M 22 i = nI v := h0.1
    have hv99 : v ≤ 99 := h0.2
    have fv := hb v
    have wi : f_X9_within (nI v) 0 99 = 1 := by
      refine (fb_X9_within _ _ _).resolve_left (fun q => within_0.mp q ?_)
      rw [nI_toInt (by omega)]
      show (0 : Int) ≤ v ∧ (v : Int) ≤ 99
      omega
    have e24 : M 24 v + 1 = nI (f v + 1) := by rw [h24 v (by omega), n_s]
    obtain ⟨M', p1, p2⟩ := alike_l hlen vs (i + 1) fu (up2 M 24 v (nI (f v + 1))) (max b (f v + 1)) (fun j => if j = v then f v + 1 else f j) (by omega) (by omega) hM (fun t ht => by
        have := hv (t + 1) (by rw [List.length_cons]; omega)
        rw [show i + (t + 1) = i + 1 + t by omega] at this
        exact this) (fun j hj => by
        rw [up2_at]
        show _ = nI (if j = v then f v + 1 else f j)
        by_cases q : j = v
        · rw [if_pos q, if_pos q]
        · rw [if_neg q, if_neg q]
          exact h24 j hj) (fun j => by
        show (if j = v then f v + 1 else f j) + vs.length ≤ 200
        have := hb j
        split <;> omega) (by omega)
    refine ⟨M', ?_, fun k hk => (p2 k hk).trans (up2_ne _ _ _ hk)⟩
    show bd_X1_mostAlike_21_12 _ _ _ _ = _
    unfold bd_X1_mostAlike_21_12
    rw [hM, if_neg (nI_ge (by omega) (by omega)), inb_nI (show i < 90 by omega) (by decide), ix_nI (show i < 2 ^ 31 by omega), e0, if_neg (show ¬ f_X9_within (nI v) 0 99 = 0 by rw [wi]; decide), inb_nI (show v < 100 by omega) (by decide), ix_nI (show v < 2 ^ 31 by omega), e24, n_s]
    have e3 : up2 M 24 v (nI (f v + 1)) 24 v = nI (f v + 1) := by rw [up2_at, if_pos rfl]
    rw [e3, maxI_nI (by omega) (by omega)]
    exact p1
theorem mostLeft_l {M0 : Mem} {P : Nat → Bool} (hP : ∀ N : Mem, N 53 = M0 53 → N 59 = M0 59 → N 60 = M0 60 → ∀ code, 10 ≤ code → code < 100 → f_X10_isFit (nI code) N = some (b01 (P code))) {w : Nat} (hw : w ≤ 40) : ∀ m code fu M b (f : Nat → Nat), code + m = 100 → 10 ≤ code → m < fu → (∀ k, k ≠ 70 → M k = M0 k) → (∀ j, j < 100 → M 70 j = nI (f j)) → (∀ j, f j + m ≤ 200) → b ≤ 200 →
    ∃ M' : Mem, lp_X10_mostLeft_26 fu (nI w) (nI b) (nI code) M = some (nI (mst ((fitl P m code).map (fun q => orb (Gr (q % 10)) (q / 10) w)) (f, b)).2, M') ∧ ∀ k, k ≠ 70 → M' k = M0 k
  | 0, code, fu, M, b, f, h, h10, hf, hF, h70, hb, hbb => by
    obtain ⟨fu, rfl⟩ : ∃ n', fu = n' + 1 := ⟨fu - 1, by omega⟩
    refine ⟨M, ?_, hF⟩
    show bd_X10_mostLeft_26 _ _ _ _ _ = _
    unfold bd_X10_mostLeft_26
    rw [if_pos (show (100 : Int32) ≤ nI code from nI_le (a := 100) (by omega) (by omega))]
    rfl
  | m + 1, code, fu, M, b, f, h, h10, hf, hF, h70, hb, hbb => by
    obtain ⟨fu, rfl⟩ : ∃ n', fu = n' + 1 := ⟨fu - 1, by omega⟩
    have hfit := hP M (hF 53 (by decide)) (hF 59 (by decide)) (hF 60 (by decide)) code h10 (by omega)
    rw [fitl_s]
    cases hp : P code with
    | false =>
      obtain ⟨M', p1, p2⟩ := mostLeft_l hP hw m (code + 1) fu M b f (by omega) (by omega) (by omega) hF h70 (fun j => by have := hb j; omega) hbb
      refine ⟨M', ?_, p2⟩
      show bd_X10_mostLeft_26 _ _ _ _ _ = _
      unfold bd_X10_mostLeft_26
      rw [if_neg (show ¬ (100 : Int32) ≤ nI code from nI_ge (b := 100) (by omega) (by omega)), hfit, hp, Option.bind_some, if_pos (by decide), n_s]
      exact p1
    | true =>
      have ebr : f_X10_bred (nI code) (nI w) = some (nI (orb (Gr (code % 10)) (code / 10) w)) := by
        have := bred10 (a := code / 10) (c := code % 10) (w := w) (by omega) (by omega) hw
        rw [show 10 * (code / 10) + code % 10 = code by omega] at this
        exact this
      have hv99 : orb (Gr (code % 10)) (code / 10) w ≤ 99 := orb_top (by omega) w
      generalize hve : orb (Gr (code % 10)) (code / 10) w = v at ebr hv99
      have fv := hb v
      have e70 : M 70 v + 1 = nI (f v + 1) := by rw [h70 v (by omega), n_s]
      obtain ⟨M', p1, p2⟩ := mostLeft_l hP hw m (code + 1) fu (up2 M 70 v (nI (f v + 1))) (max b (f v + 1)) (fun j => if j = v then f v + 1 else f j) (by omega) (by omega) (by omega) (fun k hk => (up2_ne _ _ _ hk).trans (hF k hk)) (fun j hj => by
        rw [up2_at]
        show _ = nI (if j = v then f v + 1 else f j)
        by_cases q : j = v
        · rw [if_pos q, if_pos q]
        · rw [if_neg q, if_neg q]
          exact h70 j hj) (fun j => by
        show (if j = v then f v + 1 else f j) + m ≤ 200
        have := hb j
        split <;> omega) (by omega)
      refine ⟨M', ?_, p2⟩
      show bd_X10_mostLeft_26 _ _ _ _ _ = _
      unfold bd_X10_mostLeft_26
      have e3 : up2 M 70 v (nI (f v + 1)) 70 v = nI (f v + 1) := by rw [up2_at, if_pos rfl]
      rw [if_neg (show ¬ (100 : Int32) ≤ nI code from nI_ge (b := 100) (by omega) (by omega)), hfit, hp, Option.bind_some, if_neg (by decide), ebr, Option.bind_some, inb_nI (show v < 100 by omega) (by decide), ix_nI (show v < 2 ^ 31 by omega), e70, e3, n_s]
      show (if nI (f v + 1) ≤ nI b then lp_X10_mostLeft_26 fu (nI w) (nI b) (nI (code + 1)) (up2 M 70 v (nI (f v + 1))) else lp_X10_mostLeft_26 fu (nI w) (nI (f v + 1)) (nI (code + 1)) (up2 M 70 v (nI (f v + 1)))) = some (nI (mst ((code :: fitl P m (code + 1)).map (fun q => orb (Gr (q % 10)) (q / 10) w)) (f, b)).2, M')
      rw [List.map_cons, hve]
      have p1' : lp_X10_mostLeft_26 fu (nI w) (nI (max b (f v + 1))) (nI (code + 1)) (up2 M 70 v (nI (f v + 1))) = some (nI (mst (v :: (fitl P m (code + 1)).map (fun q => orb (Gr (q % 10)) (q / 10) w)) (f, b)).2, M') := p1
      by_cases q : f v + 1 ≤ b
      · rw [if_pos ((nI_leI (by omega) (by omega)).mpr q), ← p1', Nat.max_eq_left q]
      · rw [if_neg (fun z => q ((nI_leI (by omega) (by omega)).mp z)), ← p1', Nat.max_eq_right (by omega)]
/-- what the most alike are, w weeks bred -/
def mw (l : List Nat) (w : Nat) : Nat := (mst (l.map (fun q => orb (Gr (q % 10)) (q / 10) w)) (fun _ => 0, 0)).2
theorem mst_ge : ∀ (vs : List Nat) (q : (Nat → Nat) × Nat), q.2 ≤ (mst vs q).2
  | [], q => Nat.le_refl _
  | v :: vs, q => Nat.le_trans (Nat.le_max_left _ _) (mst_ge vs (mstp q v))
theorem mst_le : ∀ (vs : List Nat) (q : (Nat → Nat) × Nat) (N : Nat), (∀ j, q.1 j + vs.length ≤ N) → q.2 ≤ N → (mst vs q).2 ≤ N
  | [], q, N, h, h2 => h2
  | v :: vs, q, N, h, h2 => by
    refine mst_le vs (mstp q v) N (fun j => ?_) ?_
    · show (if j = v then q.1 v + 1 else q.1 j) + vs.length ≤ N
      have h1 := h j
      have h3 := h v
      rw [List.length_cons] at h1 h3
      split <;> omega
    · show max q.2 (q.1 v + 1) ≤ N
      have h3 := h v
      rw [List.length_cons] at h3
      omega
theorem mw_pos {l : List Nat} (h : l ≠ []) (w : Nat) : 1 ≤ mw l w := by
  cases l with
  | nil => exact absurd rfl h
  | cons a l =>
    unfold mw
    rw [List.map_cons]
    refine Nat.le_trans ?_ (mst_ge _ (mstp (fun _ => 0, 0) _))
    show 1 ≤ max 0 (0 + 1)
    decide
theorem mw_le {l : List Nat} (h : l.length ≤ 90) (w : Nat) : mw l w ≤ 90 := mst_le _ _ 90 (fun j => by rw [List.length_map]; show 0 + l.length ≤ 90; omega) (Nat.zero_le _)
theorem mostAlike9 {M : Mem} {l : List Nat} {w : Nat} (hl : ∀ i, i < l.length → l.getD i 0 / 10 ≤ 9) (H : Hol M l w) : ∃ M' : Mem, f_X1_mostAlike_21 M = some (nI (mw l w), M') ∧ ∀ k, k ≠ 24 → M' k = M k := by
  obtain ⟨h1, h2, h3⟩ := H
  obtain ⟨M1, a1, a2, a3⟩ := fill24 0 100 0 FU M (by omega) (FU_lt (by omega))
  obtain ⟨M', p1, p2⟩ := alike_l h2 (l.map (fun q => orb (Gr (q % 10)) (q / 10) w)) 0 FU M1 0 (fun _ => 0) (by rw [List.length_map]; omega) (by rw [List.length_map]; exact FU_lt (by omega)) (by rw [a2 21 (by decide)]; exact h1) (fun t ht => by
    rw [List.length_map] at ht
    have e : (l.map (fun q => orb (Gr (q % 10)) (q / 10) w)).getD t 0 = orb (Gr (l.getD t 0 % 10)) (l.getD t 0 / 10) w := by
      rw [List.getD_eq_getElem?_getD, List.getElem?_map, List.getD_eq_getElem?_getD, List.getElem?_eq_getElem ht]
      rfl
    rw [e, a2 22 (by decide), Nat.zero_add]
    refine ⟨(h3 t ht).1, orb_top (by have := hl t ht; omega) w⟩) (fun j hj => by rw [a3 j, if_pos (by omega)]; rfl) (fun j => by rw [List.length_map]; show 0 + l.length ≤ 200; omega) (by omega)
  refine ⟨M', ?_, fun k hk => (p2 k hk).trans (a2 k hk)⟩
  unfold f_X1_mostAlike_21 f_J7_fill_53178_24
  have : lp_J7_fill_53178_24_5 FU 0 0 100 M = some M1 := a1
  rw [this, Option.bind_some]
  exact p1
theorem mostLeft10 {M : Mem} {P : Nat → Bool} (hP : ∀ N : Mem, N 53 = M 53 → N 59 = M 59 → N 60 = M 60 → ∀ code, 10 ≤ code → code < 100 → f_X10_isFit (nI code) N = some (b01 (P code))) {w : Nat} (hw : w ≤ 40) : ∃ M' : Mem, f_X10_mostLeft (nI w) M = some (nI (mw (fitl P 90 10) w), M') ∧ ∀ k, k ≠ 70 → M' k = M k := by
  obtain ⟨M1, a1, a2, a3⟩ := zero70 (nI w) 0 100 0 FU M (by omega) (FU_lt (by omega))
  obtain ⟨M', p1, p2⟩ := mostLeft_l (M0 := M) hP hw 90 10 FU M1 0 (fun _ => 0) (by omega) (by omega) (FU_lt (by omega)) a2 (fun j hj => by rw [a3 j, if_pos (by omega)]; rfl) (fun j => by show 0 + 90 ≤ 200; omega) (by omega)
  refine ⟨M', ?_, p2⟩
  unfold f_X10_mostLeft
  exact a1.trans p1
theorem breed_l {l : List Nat} {w : Nat} (hl : ∀ i, i < l.length → l.getD i 0 / 10 ≤ 9) (hlen : l.length ≤ 90) : ∀ m i fu M, i + m = l.length → m < fu → M 21 3 = nI l.length → (∀ j, j < l.length → M 22 j = nI (orb (Gr (l.getD j 0 % 10)) (l.getD j 0 / 10) (if j < i then w + 1 else w)) ∧ M 23 j = nI (l.getD j 0 % 10)) →
    ∃ M' : Mem, lp_X1_breedAll_21_2 fu (nI i) M = some M' ∧ (∀ k, k ≠ 22 → M' k = M k) ∧ Hol M' l (w + 1)
  | 0, i, fu, M, hi, hf, hM, hv => by
    obtain ⟨fu, rfl⟩ : ∃ n', fu = n' + 1 := ⟨fu - 1, by omega⟩
    refine ⟨M, ?_, fun _ _ => rfl, hM, hlen, fun j hj => ?_⟩
    · show bd_X1_breedAll_21_2 _ _ _ = _
      unfold bd_X1_breedAll_21_2
      rw [hM, if_pos (nI_le (by omega) (by omega))]
    · have := hv j hj
      rw [if_pos (show j < i by omega)] at this
      exact this
  | m + 1, i, fu, M, hi, hf, hM, hv => by
    obtain ⟨fu, rfl⟩ : ∃ n', fu = n' + 1 := ⟨fu - 1, by omega⟩
    have h0 := hv i (by omega)
    rw [if_neg (Nat.lt_irrefl i)] at h0
    have ht : orb (Gr (l.getD i 0 % 10)) (l.getD i 0 / 10) w ≤ 99 := orb_top (by have := hl i (by omega); omega) w
    obtain ⟨M', p1, p2, p3⟩ := breed_l hl hlen m (i + 1) fu (up2 M 22 i (nI (orb (Gr (l.getD i 0 % 10)) (l.getD i 0 / 10) (w + 1)))) (by omega) (by omega) hM (fun j hj => by
      have e23 : up2 M 22 i (nI (orb (Gr (l.getD i 0 % 10)) (l.getD i 0 / 10) (w + 1))) 23 = M 23 := up2_ne _ _ _ (by decide)
      rw [up2_at, e23]
      by_cases q : j = i
      · subst q
        rw [if_pos rfl, if_pos (by omega)]
        exact ⟨rfl, h0.2⟩
      · rw [if_neg q]
        have := hv j hj
        by_cases q2 : j < i
        · rw [if_pos q2] at this
          rw [if_pos (by omega)]
          exact this
        · rw [if_neg q2] at this
          rw [if_neg (by omega)]
          exact this)
    refine ⟨M', ?_, fun k hk => (p2 k hk).trans (up2_ne _ _ _ hk), p3⟩
    show bd_X1_breedAll_21_2 _ _ _ = _
    unfold bd_X1_breedAll_21_2
    rw [hM, if_neg (nI_ge (by omega) (by omega)), inb_nI (show i < 90 by omega) (by decide), ix_nI (show i < 2 ^ 31 by omega), h0.1, h0.2, grown9 ht (by omega), n_s]
    exact p1
theorem breedAll9 {M : Mem} {l : List Nat} {w : Nat} (hl : ∀ i, i < l.length → l.getD i 0 / 10 ≤ 9) (H : Hol M l w) : ∃ M' : Mem, f_X1_breedAll_21 M = some M' ∧ (∀ k, k ≠ 22 → M' k = M k) ∧ Hol M' l (w + 1) := by
  obtain ⟨h1, h2, h3⟩ := H
  exact breed_l hl h2 l.length 0 FU M (by omega) (FU_lt (by omega)) h1 (fun j hj => by rw [if_neg (Nat.not_lt_zero j)]; exact h3 j hj)
