theorem and1 (y : Int32) : y &&& 1 = 0 ∨ y &&& 1 = 1 := by
  have h := pk_and y (m := 1) 1 rfl
  rw [h]
  rcases (show y.toBitVec.toNat % 2 ^ 1 = 0 ∨ y.toBitVec.toNat % 2 ^ 1 = 1 by omega) with e | e
  · rw [e]; exact Or.inl rfl
  · rw [e]; exact Or.inr rfl
theorem bit0_has (x k : Int32) : ((x >>> (k &&& 31)) &&& 1 = 0) ↔ f_X10_has x k = 0 := by
  unfold f_X10_has
  rcases and1 (x >>> (k &&& 31)) with h | h
  · rw [h]; decide
  · rw [h]; decide
theorem bit1_has (x k : Int32) : ((x >>> (k &&& 31)) &&& 1 = 1) ↔ f_X10_has x k = 1 := by
  unfold f_X10_has
  rcases and1 (x >>> (k &&& 31)) with h | h
  · rw [h]; decide
  · rw [h]; decide
theorem has_ne0 {x k : Int32} : ¬ f_X10_has x k = 0 ↔ f_X10_has x k = 1 := by
  rcases has_01 x k with h | h
  · rw [h]; decide
  · rw [h]; decide
/-- the terriers of x watch every hole at the houses from i on -/
def wt (h : Nat → Int32) (x : Int32) (i : Nat) : Bool := (List.range 8).all fun j => decide (j < i) || decide (f_X10_has x (nI j) = 1) || decide (h j &&& (x ^^^ -1) = 0)
theorem wt_iff {h : Nat → Int32} {x : Int32} {i : Nat} : wt h x i = true ↔ ∀ j, i ≤ j → j < 8 → f_X10_has x (nI j) = 1 ∨ h j &&& (x ^^^ -1) = 0 := by
  unfold wt
  rw [List.all_eq_true]
  constructor
  · intro H j h1 h2
    have := H j (List.mem_range.mpr h2)
    rw [Bool.or_eq_true, Bool.or_eq_true, decide_eq_true_eq, decide_eq_true_eq, decide_eq_true_eq] at this
    rcases this with (q | q) | q
    · omega
    · exact Or.inl q
    · exact Or.inr q
  · intro H j hj
    have hj := List.mem_range.mp hj
    rw [Bool.or_eq_true, Bool.or_eq_true, decide_eq_true_eq, decide_eq_true_eq, decide_eq_true_eq]
    by_cases q : j < i
    · exact Or.inl (Or.inl q)
    · rcases H j (by omega) hj with z | z
      · exact Or.inl (Or.inr z)
      · exact Or.inr z
theorem wt_step {h : Nat → Int32} {x : Int32} {i : Nat} (hi : i < 8) : wt h x i = ((decide (f_X10_has x (nI i) = 1) || decide (h i &&& (x ^^^ -1) = 0)) && wt h x (i + 1)) := by
  rw [Bool.eq_iff_iff, Bool.and_eq_true, Bool.or_eq_true, decide_eq_true_eq, decide_eq_true_eq, wt_iff, wt_iff]
  constructor
  · intro H
    exact ⟨H i (Nat.le_refl i) hi, fun j a b => H j (by omega) b⟩
  · rintro ⟨h1, h2⟩ j a b
    by_cases q : j = i
    · rw [q]; exact h1
    · exact h2 j (by omega) b
theorem wt_congr {h h' : Nat → Int32} (H : ∀ i, i < 8 → h i = h' i) (x : Int32) (i : Nat) : wt h x i = wt h' x i := by
  rw [Bool.eq_iff_iff, wt_iff, wt_iff]
  constructor
  · intro G j a b; rw [← H j b]; exact G j a b
  · intro G j a b; rw [H j b]; exact G j a b
theorem meet_l {M : Mem} (x : Int32) : ∀ m i n, i + m = 8 → m < n → lp_X8_holesAllMeet_1_2 M n x (nI i) = some (b01 (wt (M 6) x i))
  | 0, i, n, hi, hn => by
    obtain ⟨n, rfl⟩ : ∃ n', n = n' + 1 := ⟨n - 1, by omega⟩
    have e : wt (M 6) x i = true := wt_iff.mpr (fun j a b => by omega)
    show bd_X8_holesAllMeet_1_2 _ _ _ _ = _
    unfold bd_X8_holesAllMeet_1_2
    rw [if_pos (show (8 : Int32) ≤ nI i from nI_le (a := 8) (by omega) (by omega)), e]
    rfl
  | m + 1, i, n, hi, hn => by
    obtain ⟨n, rfl⟩ : ∃ n', n = n' + 1 := ⟨n - 1, by omega⟩
    have ih := meet_l (M := M) x m (i + 1) n (by omega) (by omega)
    show bd_X8_holesAllMeet_1_2 _ _ _ _ = _
    unfold bd_X8_holesAllMeet_1_2
    rw [if_neg (show ¬ (8 : Int32) ≤ nI i from nI_ge (b := 8) (by omega) (by omega)), inb_nI (show i < 8 by omega) (by decide), ix_nI (by omega), n_s, ih, wt_step (show i < 8 by omega)]
    rcases has_01 x (nI i) with q | q
    · rw [if_pos ((bit0_has _ _).mpr q), q]
      generalize M 6 i &&& (x ^^^ -1) = y
      by_cases z : y = 0
      · simp [z]
      · simp [z, b01]
    · rw [if_neg (fun w => by rw [(bit0_has _ _).mp w] at q; exact absurd q (by decide)), q]
      simp
theorem meet1 (x : Int32) (M : Mem) : f_X8_holesAllMeet_1 x M = some (b01 (wt (M 6) x 0)) := meet_l x 8 0 FU (by omega) (FU_lt (by omega))
theorem watch_l0 {M : Mem} (x : Int32) : ∀ m i n, i + m = 8 → m < n → lp_X10_isWatched_4 M n x 0 (nI i) = some 0
  | 0, i, n, hi, hn => by
    obtain ⟨n, rfl⟩ : ∃ n', n = n' + 1 := ⟨n - 1, by omega⟩
    show bd_X10_isWatched_4 _ _ _ _ _ = _
    unfold bd_X10_isWatched_4
    rw [if_pos (show (8 : Int32) ≤ nI i from nI_le (a := 8) (by omega) (by omega)), if_pos (Or.inl rfl)]
  | m + 1, i, n, hi, hn => by
    obtain ⟨n, rfl⟩ : ∃ n', n = n' + 1 := ⟨n - 1, by omega⟩
    show bd_X10_isWatched_4 _ _ _ _ _ = _
    unfold bd_X10_isWatched_4 lb_X10_isWatched_39
    rw [if_neg (show ¬ (8 : Int32) ≤ nI i from nI_ge (b := 8) (by omega) (by omega)), if_pos rfl, n_s]
    exact watch_l0 x m (i + 1) n (by omega) (by omega)
theorem watch_l {M : Mem} (x : Int32) : ∀ m i n, i + m = 8 → m < n → lp_X10_isWatched_4 M n x 1 (nI i) = some (b01 (wt (M 58) x i))
  | 0, i, n, hi, hn => by
    obtain ⟨n, rfl⟩ : ∃ n', n = n' + 1 := ⟨n - 1, by omega⟩
    have e : wt (M 58) x i = true := wt_iff.mpr (fun j a b => by omega)
    show bd_X10_isWatched_4 _ _ _ _ _ = _
    unfold bd_X10_isWatched_4
    rw [if_pos (show (8 : Int32) ≤ nI i from nI_le (a := 8) (by omega) (by omega)), if_pos (Or.inr rfl), e]
    rfl
  | m + 1, i, n, hi, hn => by
    obtain ⟨n, rfl⟩ : ∃ n', n = n' + 1 := ⟨n - 1, by omega⟩
    have ih := watch_l (M := M) x m (i + 1) n (by omega) (by omega)
    have i0 := watch_l0 (M := M) x m (i + 1) n (by omega) (by omega)
    show bd_X10_isWatched_4 _ _ _ _ _ = _
    unfold bd_X10_isWatched_4 lb_X10_isWatched_39
    rw [if_neg (show ¬ (8 : Int32) ≤ nI i from nI_ge (b := 8) (by omega) (by omega)), if_neg (by decide), inb_nI (show i < 8 by omega) (by decide), ix_nI (by omega), n_s, ih, i0, wt_step (show i < 8 by omega)]
    rcases has_01 x (nI i) with q | q
    · rw [if_pos q, q]
      generalize M 58 i &&& (x ^^^ -1) = y
      by_cases z : y = 0
      · simp [z]
      · simp [z, b01]
    · rw [if_neg (by rw [q]; decide), q]
      simp
theorem watch10 (x : Int32) (M : Mem) : f_X10_isWatched x M = some (b01 (wt (M 58) x 0)) := watch_l x 8 0 FU (by omega) (FU_lt (by omega))
def pc (x : Nat) : Nat := (f_J6_bitCount_0f7a4 (nI x)).toBitVec.toNat
theorem pc_eq {x : Nat} : f_J6_bitCount_0f7a4 (nI x) = nI (pc x) := nI_nat _
theorem pc_le {x : Nat} (hx : x < 256) : pc x ≤ 8 := by
  have h1 := List.all_eq_true.mp bitT3_ok x (List.mem_range.mpr hx)
  rw [Bool.and_eq_true, decide_eq_true_eq, decide_eq_true_eq] at h1
  exact h1.2
/-- x is the best of those that p has from lo on, below hi -/
def Bst (p : Nat → Bool) (lo hi x : Nat) : Prop := p x = true ∧ lo ≤ x ∧ x < hi ∧ ∀ y, lo ≤ y → y < hi → p y = true → pc x < pc y ∨ (pc x = pc y ∧ x ≤ y)
theorem Bst_one {p : Nat → Bool} {lo hi x y : Nat} (hx : Bst p lo hi x) (hy : Bst p lo hi y) : x = y := by
  have h1 := hx.2.2.2 y hy.2.1 hy.2.2.1 hy.1
  have h2 := hy.2.2.2 x hx.2.1 hx.2.2.1 hx.1
  omega
theorem terr9 {M : Mem} (v1 : Int32) {p : Nat → Bool} (hp : ∀ x, wt (M 6) (nI x) 0 = p x) (h255 : p 255 = true) : ∀ m s n F W, s + m = 256 → m < n → ((F = 9 ∧ W = 0 ∧ ∀ y, y < s → p y = false) ∨ (F = pc W ∧ Bst p 0 s W)) → ∃ B, Bst p 0 256 B ∧ lp_X9_terriers_20 M n v1 (nI F) (nI W) (nI s) = if v1 = 0 then some (nI (pc B)) else some (nI B)
  | 0, s, n, F, W, hs, hn, hI => by
    obtain ⟨n, rfl⟩ : ∃ n', n = n' + 1 := ⟨n - 1, by omega⟩
    rcases hI with ⟨a, b, c⟩ | ⟨a, b⟩
    · have := c 255 (by omega); rw [h255] at this; cases this
    · have e : s = 256 := by omega
      subst e
      refine ⟨W, b, ?_⟩
      show bd_X9_terriers_20 _ _ _ _ _ _ = _
      unfold bd_X9_terriers_20
      rw [if_pos (by decide), a]
  | m + 1, s, n, F, W, hs, hn, hI => by
    obtain ⟨n, rfl⟩ : ∃ n', n = n' + 1 := ⟨n - 1, by omega⟩
    have hpc := pc_le (x := s) (by omega)
    have hF : F ≤ 9 := by
      rcases hI with ⟨a, b, c⟩ | ⟨a, b⟩
      · omega
      · have := pc_le (x := W) (by have := b.2.2.1; omega); omega
    have pre : bd_X9_terriers_20 M (lp_X9_terriers_20 M n) v1 (nI F) (nI W) (nI s) = if F ≤ pc s then lp_X9_terriers_20 M n v1 (nI F) (nI W) (nI (s + 1)) else if p s = false then lp_X9_terriers_20 M n v1 (nI F) (nI W) (nI (s + 1)) else lp_X9_terriers_20 M n v1 (nI (pc s)) (nI s) (nI (s + 1)) := by
      unfold bd_X9_terriers_20
      rw [if_neg (show ¬ (256 : Int32) ≤ nI s from nI_ge (b := 256) (by omega) (by omega)), pc_eq, n_s, meet1, hp s]
      by_cases q : F ≤ pc s
      · rw [if_pos ((nI_leI (by omega) (by omega)).mpr q), if_pos q]
      · rw [if_neg (fun z => q ((nI_leI (by omega) (by omega)).mp z)), if_neg q]
        cases p s <;> rfl
    have ih := terr9 (M := M) v1 hp h255 m (s + 1) n
    show ∃ B, Bst p 0 256 B ∧ bd_X9_terriers_20 _ _ _ _ _ _ = _
    rw [pre]
    by_cases q : F ≤ pc s
    · rw [if_pos q]
      refine ih F W (by omega) (by omega) ?_
      rcases hI with ⟨a, b, c⟩ | ⟨a, b1, b2, b3, b4⟩
      · omega
      · refine Or.inr ⟨a, b1, b2, by omega, fun y y1 y2 y3 => ?_⟩
        by_cases z : y = s
        · subst z; omega
        · exact b4 y y1 (by omega) y3
    · rw [if_neg q]
      cases hps : p s with
      | false =>
        rw [if_pos rfl]
        refine ih F W (by omega) (by omega) ?_
        rcases hI with ⟨a, b, c⟩ | ⟨a, b1, b2, b3, b4⟩
        · refine Or.inl ⟨a, b, fun y hy => ?_⟩
          by_cases z : y = s
          · rw [z]; exact hps
          · exact c y (by omega)
        · refine Or.inr ⟨a, b1, b2, by omega, fun y y1 y2 y3 => ?_⟩
          by_cases z : y = s
          · rw [z, hps] at y3; cases y3
          · exact b4 y y1 (by omega) y3
      | true =>
        rw [if_neg (by decide)]
        refine ih (pc s) s (by omega) (by omega) (Or.inr ⟨rfl, hps, by omega, by omega, fun y y1 y2 y3 => ?_⟩)
        by_cases z : y = s
        · subst z; omega
        · rcases hI with ⟨a, b, c⟩ | ⟨a, b1, b2, b3, b4⟩
          · have := c y (by omega); rw [y3] at this; cases this
          · have := b4 y y1 (by omega) y3; omega
theorem terr10_pre {M : Mem} {v1 : Int32} {p : Nat → Bool} (hp : ∀ x, wt (M 58) (nI x) 0 = p x) {B s : Nat} (hB : B < 256) (hs : s < 256) (K : Int32 → Int32 → Int32 → Option Int32) : bd_X10_terriers_21 M K v1 (nI B) (nI s) = if pc B < pc s then K v1 (nI B) (nI s + -1) else if p s = false then K v1 (nI B) (nI s + -1) else K v1 (nI s) (nI s + -1) := by
  have h1 := pc_le hB
  have h2 := pc_le hs
  unfold bd_X10_terriers_21 lb_X10_terriers_48
  rw [if_neg (nI_pos (by omega)), ones_bc hs, ones_bc hB, Option.bind_some, Option.bind_some, watch10, hp s, pc_eq, pc_eq]
  by_cases q : pc B < pc s
  · rw [if_pos ((nI_ltI (by omega) (by omega)).mpr q), if_pos q]
  · rw [if_neg (fun z => q ((nI_ltI (by omega) (by omega)).mp z)), if_neg q]
    cases p s <;> rfl
theorem terr10 {M : Mem} (v1 : Int32) {p : Nat → Bool} (hp : ∀ x, wt (M 58) (nI x) 0 = p x) : ∀ s n B, s < 255 → s + 1 < n → Bst p (s + 1) 256 B → ∃ C, Bst p 0 256 C ∧ lp_X10_terriers_21 M n v1 (nI B) (nI s) = if v1 = 0 then some (nI (pc C)) else some (nI C)
  | 0, n, B, hs, hn, hB => by
    obtain ⟨n, rfl⟩ : ∃ n', n = n' + 2 := ⟨n - 2, by omega⟩
    have fin : ∀ C, C < 256 → bd_X10_terriers_21 M (lp_X10_terriers_21 M n) v1 (nI C) (nI 0 + -1) = if v1 = 0 then some (nI (pc C)) else some (nI C) := by
      intro C hC
      unfold bd_X10_terriers_21
      rw [if_pos (by decide), ones_bc hC, pc_eq]
      rfl
    show ∃ C, Bst p 0 256 C ∧ bd_X10_terriers_21 _ _ _ _ _ = _
    rw [terr10_pre hp (by have := hB.2.2.1; omega) (by omega)]
    by_cases q : pc B < pc 0
    · rw [if_pos q]
      refine ⟨B, ⟨hB.1, Nat.zero_le _, hB.2.2.1, fun y y1 y2 y3 => ?_⟩, fin B (by have := hB.2.2.1; omega)⟩
      by_cases z : y = 0
      · subst z; exact Or.inl q
      · exact hB.2.2.2 y (by omega) y2 y3
    · rw [if_neg q]
      cases hps : p 0 with
      | false =>
        rw [if_pos rfl]
        refine ⟨B, ⟨hB.1, Nat.zero_le _, hB.2.2.1, fun y y1 y2 y3 => ?_⟩, fin B (by have := hB.2.2.1; omega)⟩
        by_cases z : y = 0
        · rw [z, hps] at y3; cases y3
        · exact hB.2.2.2 y (by omega) y2 y3
      | true =>
        rw [if_neg (by decide)]
        refine ⟨0, ⟨hps, Nat.le_refl _, by omega, fun y y1 y2 y3 => ?_⟩, fin 0 (by omega)⟩
        by_cases z : y = 0
        · subst z; exact Or.inr ⟨rfl, Nat.le_refl _⟩
        · have := hB.2.2.2 y (by omega) y2 y3; omega
  | s + 1, n, B, hs, hn, hB => by
    obtain ⟨n, rfl⟩ : ∃ n', n = n' + 1 := ⟨n - 1, by omega⟩
    show ∃ C, Bst p 0 256 C ∧ bd_X10_terriers_21 _ _ _ _ _ = _
    rw [terr10_pre hp (by have := hB.2.2.1; omega) (by omega), pk_m1]
    by_cases q : pc B < pc (s + 1)
    · rw [if_pos q]
      refine terr10 v1 hp s n B (by omega) (by omega) ⟨hB.1, by have := hB.2.1; omega, hB.2.2.1, fun y y1 y2 y3 => ?_⟩
      by_cases z : y = s + 1
      · subst z; exact Or.inl q
      · exact hB.2.2.2 y (by omega) y2 y3
    · rw [if_neg q]
      cases hps : p (s + 1) with
      | false =>
        rw [if_pos rfl]
        refine terr10 v1 hp s n B (by omega) (by omega) ⟨hB.1, by have := hB.2.1; omega, hB.2.2.1, fun y y1 y2 y3 => ?_⟩
        by_cases z : y = s + 1
        · rw [z, hps] at y3; cases y3
        · exact hB.2.2.2 y (by omega) y2 y3
      | true =>
        rw [if_neg (by decide)]
        refine terr10 v1 hp s n (s + 1) (by omega) (by omega) ⟨hps, Nat.le_refl _, by omega, fun y y1 y2 y3 => ?_⟩
        by_cases z : y = s + 1
        · subst z; exact Or.inr ⟨rfl, Nat.le_refl _⟩
        · have := hB.2.2.2 y (by omega) y2 y3; omega
theorem wt255 (h : Nat → Int32) : wt h (nI 255) 0 = true := wt_iff.mpr (fun j _ hj => Or.inl (by
  rcases (show j = 0 ∨ j = 1 ∨ j = 2 ∨ j = 3 ∨ j = 4 ∨ j = 5 ∨ j = 6 ∨ j = 7 by omega) with rfl | rfl | rfl | rfl | rfl | rfl | rfl | rfl <;> decide +kernel))
theorem m_terriers {M : Mem} (h : Inv M) (v : Int32) : ∃ r, f_X9_terriers v M = some r ∧ f_X10_terriers v M = some r := by
  have e1 : f_X10_in v.toInt64 0 1 = f_X9_within v 0 1 := inw rfl rfl
  unfold f_X9_terriers f_X10_terriers
  rw [e1]
  by_cases h1 : f_X9_within v 0 1 = 0
  · rw [if_pos h1, if_pos h1]
    exact ⟨_, rfl, rfl⟩
  rw [if_neg h1, if_neg h1]
  have hc : ∀ x, wt (M 58) (nI x) 0 = wt (M 6) (nI x) 0 := fun x => wt_congr (fun i hi => ((h.1.1 i hi).2.2.2.2).symm) _ _
  obtain ⟨B, b1, b2⟩ := terr9 (M := M) v (p := fun x => wt (M 6) (nI x) 0) (fun _ => rfl) (wt255 _) 256 0 FU 9 0 (by omega) (FU_lt (by omega)) (Or.inl ⟨rfl, rfl, fun y hy => by omega⟩)
  obtain ⟨C, c1, c2⟩ := terr10 (M := M) v (p := fun x => wt (M 6) (nI x) 0) hc 254 FU 255 (by omega) (FU_lt (by omega)) ⟨wt255 _, by omega, by omega, fun y y1 y2 y3 => Or.inr ⟨by rw [show y = 255 by omega], by omega⟩⟩
  have e := Bst_one b1 c1
  subst e
  have b2' : lp_X9_terriers_20 M FU v 9 0 0 = _ := b2
  have c2' : lp_X10_terriers_21 M FU v 255 254 = _ := c2
  rw [b2', c2']
  by_cases q : v = 0
  · rw [if_pos q]; exact ⟨_, rfl, rfl⟩
  · rw [if_neg q]; exact ⟨_, rfl, rfl⟩
