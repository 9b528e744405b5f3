def R2 (B : Nat) (M N M' N' : Mem) (k l j : Nat) : Prop := (M' k j = M k j ∧ N' l j = N l j) ∨ ∃ x, x ≤ B ∧ M' k j = nI x ∧ N' l j = nI x
theorem Rel_set {M N M' N' : Mem} (hR : Rel M N) (h9 : ∀ j, j < 8 → R2 99 M N M' N' 9 54 j) (h10 : ∀ j, j < 8 → R2 9 M N M' N' 10 55 j) (h11 : ∀ j, j < 8 → R2 9 M N M' N' 11 56 j) (h12 : ∀ j, j < 8 → R2 9 M N M' N' 12 57 j) (h13 : (∀ j, j < 8 → M' 13 j = N' 58 j) ∧ Hok (M' 13)) (hb : (M' 8 6 = M 8 6 ∧ N' 53 5 = N 53 5) ∨ ∃ x, x ≤ 99 ∧ M' 8 6 = nI x ∧ N' 53 5 = nI x) (hs : M' 8 7 = M 8 7 ∧ N' 53 6 = N 53 6) (hw : M' 8 8 = M 8 8 ∧ N' 53 7 = N 53 7) : Rel M' N' := by
  obtain ⟨a1, ⟨a2, a3, a4⟩, a5, a6, a7, a8⟩ := hR
  have one : ∀ {B k l j}, R2 B M N M' N' k l j → M k j = N l j → Rg B (M k j) → M' k j = N' l j ∧ Rg B (M' k j) := by
    intro B k l j h e r
    rcases h with ⟨p, q⟩ | ⟨x, hx, p, q⟩
    · rw [p, q]; exact ⟨e, r⟩
    · rw [p, q]; exact ⟨rfl, x, hx, rfl⟩
  refine ⟨fun j hj => ?_, ⟨?_, ?_, ?_⟩, fun j hj => ?_, h13.2, ?_, ?_⟩
  · obtain ⟨q1, q2, q3, q4, q5⟩ := a1 j hj
    obtain ⟨r1, r2, r3, r4⟩ := a5 j hj
    exact ⟨(one (h9 j hj) q1 r1).1, (one (h10 j hj) q2 r2).1, (one (h11 j hj) q3 r3).1, (one (h12 j hj) q4 r4).1, h13.1 j hj⟩
  · rcases hb with ⟨p, q⟩ | ⟨x, hx, p, q⟩
    · rw [p, q]; exact a2
    · rw [p, q]
  · rw [hs.1, hs.2]; exact a3
  · rw [hw.1, hw.2]; exact a4
  · obtain ⟨q1, q2, q3, q4, q5⟩ := a1 j hj
    obtain ⟨r1, r2, r3, r4⟩ := a5 j hj
    exact ⟨(one (h9 j hj) q1 r1).2, (one (h10 j hj) q2 r2).2, (one (h11 j hj) q3 r3).2, (one (h12 j hj) q4 r4).2⟩
  · rcases hb with ⟨p, q⟩ | ⟨x, hx, p, q⟩
    · rw [p]; exact a7
    · rw [p]; exact ⟨x, hx, rfl⟩
  · rw [hw.1]; exact a8
theorem R2_up {M N : Mem} {B k l h x : Nat} {u v : Int32} (hx : x ≤ B) (hu : u = nI x) (hv : v = nI x) (j : Nat) : R2 B M N (up2 M k h u) (up2 N l h v) k l j := by
  subst hu hv
  unfold R2
  rw [up2_at, up2_at]
  by_cases q : j = h
  · rw [if_pos q, if_pos q]; exact Or.inr ⟨x, hx, rfl, rfl⟩
  · rw [if_neg q, if_neg q]; exact Or.inl ⟨rfl, rfl⟩
def sgn (w : Nat) : Int32 := if w = 0 then 43 else if w = 1 then 45 else if w = 2 then 94 else if w = 3 then 95 else if w = 4 then 33 else if w = 5 then 111 else 46
theorem hole13 {M N : Mem} (hR : Rel M N) : (∀ j, j < 8 → M 13 j = N 58 j) ∧ Hok (M 13) := ⟨fun j hj => (hR.1 j hj).2.2.2.2, hR.2.2.2.1⟩
/-- an act, on both sides -/
def Acts (M N : Mem) (w h o : Nat) : Prop := ∃ r : Nat, r ≤ 5 ∧ f_X8_whyNot_8_17 M = some (nI r) ∧ f_X10_whyNot (nI w) (nI h) (nI o) N = some (nI r) ∧ (r = 0 → ∃ M' N', f_X8_take_8_17 M = some M' ∧ f_X10_happen (nI w) (nI h) (nI o) N = some N' ∧ Rel M' N' ∧ FrC M M' ∧ FrR N N')
theorem nI_is {x c : Nat} (hx : x < 2 ^ 31) (hc : c < 2 ^ 31) (h : x ≠ c) : ¬ nI x = nI c := fun z => h ((nI_eq hx hc).mp z)
theorem h13 {M N M' N' : Mem} (hR : Rel M N) (a : M' 13 = M 13) (b : N' 58 = N 58) : (∀ j, j < 8 → M' 13 j = N' 58 j) ∧ Hok (M' 13) := by
  rw [a, b]; exact hole13 hR
theorem act0 {M N : Mem} (hR : Rel M N) {h o : Nat} (hh : h < 8) (e0 : M 17 0 = 43) (e1 : M 17 1 = nI h) : Acts M N 0 h o := by
  obtain ⟨q1, q2, q3, q4, q5⟩ := hR.1 h hh
  obtain ⟨x, hx, ex⟩ := (hR.2.2.1 h hh).2.1
  have i8 := inb_nI (show h < 8 from hh) (by decide)
  have ih := ix_nI (show h < 2 ^ 31 by omega)
  by_cases q : x < 9
  · refine ⟨0, by omega, ?_, ?_, fun _ => ⟨up2 M 10 h (M 10 h + 1), up2 N 55 h (N 55 h + 1), ?_, ?_, ?_, ?_, ?_⟩⟩
    · unfold f_X8_whyNot_8_17
      rw [e1, if_neg (house_yes' hh), e0, if_neg (by decide), if_pos rfl, i8, ih, ex]
      rw [if_pos (show nI x < (9 : Int32) from nI_lt (b := 9) q (by omega))]; rfl
    · unfold f_X10_whyNot
      rw [if_pos (show nI 0 = 0 from rfl), i8, ih, ← q2, ex]
      rw [if_neg (show ¬ nI x = (9 : Int32) from nI_is (c := 9) (by omega) (by omega) (by omega))]; rfl
    · unfold f_X8_take_8_17
      rw [e1, if_neg (house_yes' hh), e0, if_neg (by decide), if_pos rfl, i8, ih]
      rfl
    · unfold f_X10_happen
      rw [if_pos (show nI 0 = 0 from rfl), i8, ih]
      rfl
    · refine Rel_set hR (fun _ _ => Or.inl ⟨rfl, rfl⟩) (fun j _ => R2_up (x := x + 1) (by omega) ?_ ?_ j) (fun _ _ => Or.inl ⟨rfl, rfl⟩) (fun _ _ => Or.inl ⟨rfl, rfl⟩) (h13 hR rfl rfl) (Or.inl ⟨rfl, rfl⟩) ⟨rfl, rfl⟩ ⟨rfl, rfl⟩
      · rw [ex]; exact nI_1 x
      · rw [← q2, ex]; exact nI_1 x
    · exact fun k hk => up2_ne _ _ _ (by omega)
    · exact ⟨fun k hk _ => up2_ne _ _ _ (by omega), fun _ _ _ _ _ => rfl, rfl⟩
  · refine ⟨1, by omega, ?_, ?_, fun z => by omega⟩
    · unfold f_X8_whyNot_8_17
      rw [e1, if_neg (house_yes' hh), e0, if_neg (by decide), if_pos rfl, i8, ih, ex]
      rw [if_neg (show ¬ nI x < (9 : Int32) from nI_nlt (b := 9) (by omega) (by omega))]; rfl
    · unfold f_X10_whyNot
      rw [if_pos (show nI 0 = 0 from rfl), i8, ih, ← q2, ex]
      rw [if_pos (show nI x = (9 : Int32) by rw [show x = 9 by omega]; rfl)]; rfl
theorem act1 {M N : Mem} (hR : Rel M N) {h o : Nat} (hh : h < 8) (e0 : M 17 0 = 45) (e1 : M 17 1 = nI h) : Acts M N 1 h o := by
  obtain ⟨q1, q2, q3, q4, q5⟩ := hR.1 h hh
  obtain ⟨x, hx, ex⟩ := (hR.2.2.1 h hh).2.1
  have i8 := inb_nI (show h < 8 from hh) (by decide)
  have ih := ix_nI (show h < 2 ^ 31 by omega)
  by_cases q : x = 0
  · refine ⟨1, by omega, ?_, ?_, fun z => by omega⟩
    · unfold f_X8_whyNot_8_17
      rw [e1, if_neg (house_yes' hh), e0, if_neg (by decide), if_neg (by decide), if_pos rfl, i8, ih, ex]
      rw [if_pos (show nI x = (0 : Int32) by rw [q]; rfl)]; rfl
    · unfold f_X10_whyNot
      rw [if_neg (show ¬ nI 1 = 0 by decide), if_pos (show nI 1 = 1 from rfl), i8, ih, ← q2, ex]
      rw [if_pos (show nI x = (0 : Int32) by rw [q]; rfl)]; rfl
  · refine ⟨0, by omega, ?_, ?_, fun _ => ⟨up2 M 10 h (M 10 h - 1), up2 N 55 h (N 55 h - 1), ?_, ?_, ?_, ?_, ?_⟩⟩
    · unfold f_X8_whyNot_8_17
      rw [e1, if_neg (house_yes' hh), e0, if_neg (by decide), if_neg (by decide), if_pos rfl, i8, ih, ex]
      rw [if_neg (show ¬ nI x = (0 : Int32) from nI_is (c := 0) (by omega) (by omega) (by omega))]; rfl
    · unfold f_X10_whyNot
      rw [if_neg (show ¬ nI 1 = 0 by decide), if_pos (show nI 1 = 1 from rfl), i8, ih, ← q2, ex]
      rw [if_neg (show ¬ nI x = (0 : Int32) from nI_is (c := 0) (by omega) (by omega) (by omega))]; rfl
    · unfold f_X8_take_8_17
      rw [e1, if_neg (house_yes' hh), e0, if_neg (by decide), if_neg (by decide), if_pos rfl, i8, ih]
      rfl
    · unfold f_X10_happen
      rw [if_neg (show ¬ nI 1 = 0 by decide), if_pos (show nI 1 = 1 from rfl), i8, ih]
      rfl
    · refine Rel_set hR (fun _ _ => Or.inl ⟨rfl, rfl⟩) (fun j _ => R2_up (x := x - 1) (by omega) ?_ ?_ j) (fun _ _ => Or.inl ⟨rfl, rfl⟩) (fun _ _ => Or.inl ⟨rfl, rfl⟩) (h13 hR rfl rfl) (Or.inl ⟨rfl, rfl⟩) ⟨rfl, rfl⟩ ⟨rfl, rfl⟩
      · rw [ex]; exact pk_sub (b := 1) (by omega)
      · rw [← q2, ex]; exact pk_sub (b := 1) (by omega)
    · exact fun k hk => up2_ne _ _ _ (by omega)
    · exact ⟨fun k hk _ => up2_ne _ _ _ (by omega), fun _ _ _ _ _ => rfl, rfl⟩
theorem act2 {M N : Mem} (hR : Rel M N) {h o : Nat} (hh : h < 8) (e0 : M 17 0 = 94) (e1 : M 17 1 = nI h) : Acts M N 2 h o := by
  obtain ⟨q1, q2, q3, q4, q5⟩ := hR.1 h hh
  obtain ⟨x, hx, ex⟩ := (hR.2.2.1 h hh).2.2.1
  have i8 := inb_nI (show h < 8 from hh) (by decide)
  have ih := ix_nI (show h < 2 ^ 31 by omega)
  obtain ⟨b, hb, eb⟩ := hR.2.2.2.2.1
  have e5 : N 53 5 = nI b := hR.2.1.1 ▸ eb
  by_cases q : x < 9
  · by_cases p : b = 0
    · refine ⟨2, by omega, ?_, ?_, fun z => by omega⟩
      · unfold f_X8_whyNot_8_17
        rw [e1, if_neg (house_yes' hh), e0, if_neg (by decide), if_neg (by decide), if_neg (by decide), if_pos rfl, i8, ih, ex, eb]
        rw [if_pos (show nI x < (9 : Int32) from nI_lt (b := 9) q (by omega)), if_pos (show nI b = (0 : Int32) by rw [p]; rfl)]; rfl
      · unfold f_X10_whyNot
        rw [if_neg (show ¬ nI 2 = 0 by decide), if_neg (show ¬ nI 2 = 1 by decide), if_pos (show nI 2 = 2 from rfl), i8, ih, ← q3, ex, e5]
        rw [if_neg (show ¬ nI x = (9 : Int32) from nI_is (c := 9) (by omega) (by omega) (by omega)), if_pos (show nI b = (0 : Int32) by rw [p]; rfl)]; rfl
    · refine ⟨0, by omega, ?_, ?_, fun _ => ⟨up2 (up2 M 11 h (M 11 h + 1)) 8 6 (M 8 6 - 1), up2 (up2 N 56 h (N 56 h + 1)) 53 5 (N 53 5 - 1), ?_, ?_, ?_, ?_, ?_⟩⟩
      · unfold f_X8_whyNot_8_17
        rw [e1, if_neg (house_yes' hh), e0, if_neg (by decide), if_neg (by decide), if_neg (by decide), if_pos rfl, i8, ih, ex, eb]
        rw [if_pos (show nI x < (9 : Int32) from nI_lt (b := 9) q (by omega)), if_neg (show ¬ nI b = (0 : Int32) from nI_is (c := 0) (by omega) (by omega) (by omega))]; rfl
      · unfold f_X10_whyNot
        rw [if_neg (show ¬ nI 2 = 0 by decide), if_neg (show ¬ nI 2 = 1 by decide), if_pos (show nI 2 = 2 from rfl), i8, ih, ← q3, ex, e5]
        rw [if_neg (show ¬ nI x = (9 : Int32) from nI_is (c := 9) (by omega) (by omega) (by omega)), if_neg (show ¬ nI b = (0 : Int32) from nI_is (c := 0) (by omega) (by omega) (by omega))]; rfl
      · unfold f_X8_take_8_17
        rw [e1, if_neg (house_yes' hh), e0, if_neg (by decide), if_neg (by decide), if_neg (by decide), if_pos rfl, i8, ih]
        rfl
      · unfold f_X10_happen
        rw [if_neg (show ¬ nI 2 = 0 by decide), if_neg (show ¬ nI 2 = 1 by decide), if_pos (show nI 2 = 2 from rfl), i8, ih]
        rfl
      · refine Rel_set hR (fun _ _ => Or.inl ⟨rfl, rfl⟩) (fun _ _ => Or.inl ⟨rfl, rfl⟩) (fun j _ => (show R2 9 M N (up2 M 11 h (M 11 h + 1)) (up2 N 56 h (N 56 h + 1)) 11 56 j from R2_up (x := x + 1) (by omega) ?_ ?_ j)) (fun _ _ => Or.inl ⟨rfl, rfl⟩) (h13 hR rfl rfl) (Or.inr ⟨b - 1, by omega, ?_, ?_⟩) ⟨rfl, rfl⟩ ⟨rfl, rfl⟩
        · rw [ex]; exact nI_1 x
        · rw [← q3, ex]; exact nI_1 x
        · show M 8 6 - 1 = _
          rw [eb]; exact pk_sub (b := 1) (by omega)
        · show N 53 5 - 1 = _
          rw [e5]; exact pk_sub (b := 1) (by omega)
      · exact fun k hk => by rw [up2_ne _ _ _ (by omega), up2_ne _ _ _ (by omega)]
      · refine ⟨fun k hk _ => by rw [up2_ne _ _ _ (by omega), up2_ne _ _ _ (by omega)], fun j a _ _ _ => ?_, rfl⟩
        rw [up2_at, if_neg a]; rfl
  · refine ⟨1, by omega, ?_, ?_, fun z => by omega⟩
    · unfold f_X8_whyNot_8_17
      rw [e1, if_neg (house_yes' hh), e0, if_neg (by decide), if_neg (by decide), if_neg (by decide), if_pos rfl, i8, ih, ex]
      rw [if_neg (show ¬ nI x < (9 : Int32) from nI_nlt (b := 9) (by omega) (by omega))]; rfl
    · unfold f_X10_whyNot
      rw [if_neg (show ¬ nI 2 = 0 by decide), if_neg (show ¬ nI 2 = 1 by decide), if_pos (show nI 2 = 2 from rfl), i8, ih, ← q3, ex]
      rw [if_pos (show nI x = (9 : Int32) by rw [show x = 9 by omega]; rfl)]; rfl
theorem act3 {M N : Mem} (hR : Rel M N) {h o : Nat} (hh : h < 8) (e0 : M 17 0 = 95) (e1 : M 17 1 = nI h) : Acts M N 3 h o := by
  obtain ⟨q1, q2, q3, q4, q5⟩ := hR.1 h hh
  obtain ⟨x, hx, ex⟩ := (hR.2.2.1 h hh).2.2.1
  have i8 := inb_nI (show h < 8 from hh) (by decide)
  have ih := ix_nI (show h < 2 ^ 31 by omega)
  obtain ⟨b, hb, eb⟩ := hR.2.2.2.2.1
  have e5 : N 53 5 = nI b := hR.2.1.1 ▸ eb
  by_cases q : x = 0
  · refine ⟨1, by omega, ?_, ?_, fun z => by omega⟩
    · unfold f_X8_whyNot_8_17
      rw [e1, if_neg (house_yes' hh), e0, if_neg (by decide), if_neg (by decide), if_neg (by decide), if_neg (by decide), if_pos rfl, i8, ih, ex]
      rw [if_pos (show nI x = (0 : Int32) by rw [q]; rfl)]; rfl
    · unfold f_X10_whyNot
      rw [if_neg (show ¬ nI 3 = 0 by decide), if_neg (show ¬ nI 3 = 1 by decide), if_neg (show ¬ nI 3 = 2 by decide), if_pos (show nI 3 = 3 from rfl), i8, ih, ← q3, ex]
      rw [if_pos (show nI x = (0 : Int32) by rw [q]; rfl)]; rfl
  · refine ⟨0, by omega, ?_, ?_, fun _ => ⟨up2 (up2 M 11 h (M 11 h - 1)) 8 6 (minI 99 (M 8 6 + 1)), up2 (up2 N 56 h (N 56 h - 1)) 53 5 (f_X10_less 99 (N 53 5 + 1)), ?_, ?_, ?_, ?_, ?_⟩⟩
    · unfold f_X8_whyNot_8_17
      rw [e1, if_neg (house_yes' hh), e0, if_neg (by decide), if_neg (by decide), if_neg (by decide), if_neg (by decide), if_pos rfl, i8, ih, ex]
      rw [if_neg (show ¬ nI x = (0 : Int32) from nI_is (c := 0) (by omega) (by omega) (by omega))]; rfl
    · unfold f_X10_whyNot
      rw [if_neg (show ¬ nI 3 = 0 by decide), if_neg (show ¬ nI 3 = 1 by decide), if_neg (show ¬ nI 3 = 2 by decide), if_pos (show nI 3 = 3 from rfl), i8, ih, ← q3, ex]
      rw [if_neg (show ¬ nI x = (0 : Int32) from nI_is (c := 0) (by omega) (by omega) (by omega))]; rfl
    · unfold f_X8_take_8_17
      rw [e1, if_neg (house_yes' hh), e0, if_neg (by decide), if_neg (by decide), if_neg (by decide), if_neg (by decide), if_pos rfl, i8, ih]
      rfl
    · unfold f_X10_happen
      rw [if_neg (show ¬ nI 3 = 0 by decide), if_neg (show ¬ nI 3 = 1 by decide), if_neg (show ¬ nI 3 = 2 by decide), if_pos (show nI 3 = 3 from rfl), i8, ih]
      rfl
    · refine Rel_set hR (fun _ _ => Or.inl ⟨rfl, rfl⟩) (fun _ _ => Or.inl ⟨rfl, rfl⟩) (fun j _ => (show R2 9 M N (up2 M 11 h (M 11 h - 1)) (up2 N 56 h (N 56 h - 1)) 11 56 j from R2_up (x := x - 1) (by omega) ?_ ?_ j)) (fun _ _ => Or.inl ⟨rfl, rfl⟩) (h13 hR rfl rfl) (Or.inr ⟨min 99 (b + 1), by omega, ?_, ?_⟩) ⟨rfl, rfl⟩ ⟨rfl, rfl⟩
      · rw [ex]; exact pk_sub (b := 1) (by omega)
      · rw [← q3, ex]; exact pk_sub (b := 1) (by omega)
      · show minI 99 (M 8 6 + 1) = _
        rw [eb, n_s]; exact minI_nI (a := 99) (by omega) (by omega)
      · show f_X10_less 99 (N 53 5 + 1) = _
        rw [e5, n_s]; exact less_nI (a := 99) (by omega) (by omega)
    · exact fun k hk => by rw [up2_ne _ _ _ (by omega), up2_ne _ _ _ (by omega)]
    · refine ⟨fun k hk _ => by rw [up2_ne _ _ _ (by omega), up2_ne _ _ _ (by omega)], fun j a _ _ _ => ?_, rfl⟩
      rw [up2_at, if_neg a]; rfl
theorem div2 {x : Nat} (hx : x ≤ 99) : nI x / 2 = nI (x / 2) := by
  have : ∀ x : Fin 100, nI x.val / 2 = nI (x.val / 2) := by decide +kernel
  exact this ⟨x, by omega⟩
theorem act4 {M N : Mem} (hR : Rel M N) {h o : Nat} (hh : h < 8) (e0 : M 17 0 = 33) (e1 : M 17 1 = nI h) : Acts M N 4 h o := by
  obtain ⟨q1, q2, q3, q4, q5⟩ := hR.1 h hh
  obtain ⟨x, hx, ex⟩ := (hR.2.2.1 h hh).1
  have i8 := inb_nI (show h < 8 from hh) (by decide)
  have ih := ix_nI (show h < 2 ^ 31 by omega)
  by_cases q : x = 0
  · refine ⟨3, by omega, ?_, ?_, fun z => by omega⟩
    · unfold f_X8_whyNot_8_17
      rw [e1, if_neg (house_yes' hh), e0, if_pos rfl, i8, ih, ex]
      rw [if_pos (show nI x = (0 : Int32) by rw [q]; rfl)]; rfl
    · unfold f_X10_whyNot
      rw [if_neg (show ¬ nI 4 = 0 by decide), if_neg (show ¬ nI 4 = 1 by decide), if_neg (show ¬ nI 4 = 2 by decide), if_neg (show ¬ nI 4 = 3 by decide), if_pos (show nI 4 = 4 from rfl), i8, ih, ← q1, ex]
      rw [if_pos (show nI x = (0 : Int32) by rw [q]; rfl)]; rfl
  · refine ⟨0, by omega, ?_, ?_, fun _ => ⟨up2 (up2 M 9 h (M 9 h / 2)) 12 h 3, up2 (up2 N 54 h (N 54 h / 2)) 57 h 3, ?_, ?_, ?_, ?_, ?_⟩⟩
    · unfold f_X8_whyNot_8_17
      rw [e1, if_neg (house_yes' hh), e0, if_pos rfl, i8, ih, ex]
      rw [if_neg (show ¬ nI x = (0 : Int32) from nI_is (c := 0) (by omega) (by omega) (by omega))]; rfl
    · unfold f_X10_whyNot
      rw [if_neg (show ¬ nI 4 = 0 by decide), if_neg (show ¬ nI 4 = 1 by decide), if_neg (show ¬ nI 4 = 2 by decide), if_neg (show ¬ nI 4 = 3 by decide), if_pos (show nI 4 = 4 from rfl), i8, ih, ← q1, ex]
      rw [if_neg (show ¬ nI x = (0 : Int32) from nI_is (c := 0) (by omega) (by omega) (by omega))]; rfl
    · unfold f_X8_take_8_17
      rw [e1, if_neg (house_yes' hh), e0, if_pos rfl, i8, ih]
      rfl
    · unfold f_X10_happen
      rw [if_neg (show ¬ nI 4 = 0 by decide), if_neg (show ¬ nI 4 = 1 by decide), if_neg (show ¬ nI 4 = 2 by decide), if_neg (show ¬ nI 4 = 3 by decide), if_pos (show nI 4 = 4 from rfl), i8, ih]
      rfl
    · refine Rel_set hR (fun j _ => (show R2 99 M N (up2 M 9 h (M 9 h / 2)) (up2 N 54 h (N 54 h / 2)) 9 54 j from R2_up (x := x / 2) (by omega) ?_ ?_ j)) (fun _ _ => Or.inl ⟨rfl, rfl⟩) (fun _ _ => Or.inl ⟨rfl, rfl⟩) (fun j _ => (show R2 9 M N (up2 M 12 h 3) (up2 N 57 h 3) 12 57 j from R2_up (x := 3) (by omega) rfl rfl j)) (h13 hR rfl rfl) (Or.inl ⟨rfl, rfl⟩) ⟨rfl, rfl⟩ ⟨rfl, rfl⟩
      · rw [ex]; exact div2 hx
      · rw [← q1, ex]; exact div2 hx
    · exact fun k hk => by rw [up2_ne _ _ _ (by omega), up2_ne _ _ _ (by omega)]
    · exact ⟨fun k hk _ => by rw [up2_ne _ _ _ (by omega), up2_ne _ _ _ (by omega)], fun _ _ _ _ _ => rfl, rfl⟩
theorem act5 {M N : Mem} (hR : Rel M N) {h o : Nat} (hh : h < 8) (ho : o < 8) (e0 : M 17 0 = 111) (e1 : M 17 1 = nI h) (e2 : M 17 2 = nI o) : Acts M N 5 h o := by
  have i8 := inb_nI (show h < 8 from hh) (by decide)
  have ih := ix_nI (show h < 2 ^ 31 by omega)
  by_cases q : h = o
  · refine ⟨4, by omega, ?_, ?_, fun z => by omega⟩
    · unfold f_X8_whyNot_8_17
      rw [e1, if_neg (house_yes' hh), e0, if_neg (by decide), if_neg (by decide), if_neg (by decide), if_neg (by decide), if_neg (by decide), if_pos rfl, e2, if_pos (by rw [q])]
      rfl
    · unfold f_X10_whyNot
      rw [if_neg (show ¬ nI 5 = 0 by decide), if_neg (show ¬ nI 5 = 1 by decide), if_neg (show ¬ nI 5 = 2 by decide), if_neg (show ¬ nI 5 = 3 by decide), if_neg (show ¬ nI 5 = 4 by decide), if_pos (show nI 5 = 5 from rfl), if_pos (by rw [q])]
      rfl
  · have hne : ¬ nI h = nI o := nI_is (by omega) (by omega) q
    have e13 : ∀ j, j < 8 → M 13 j = N 58 j := fun j hj => (hR.1 j hj).2.2.2.2
    have H13 : Hok (M 13) := hR.2.2.2.1
    have H58 : Hok (N 58) := Hok_congr e13 H13
    obtain ⟨t, ht, hn, hap⟩ : ∃ t : Nat, t ≤ 1 ∧ ¬ f_X10_has (N 58 h) (nI o) = nI t ∧ (if f_X10_has (N 58 h) (nI o) = 0 then lb_X10_happen_158 1 (nI o) (nI h) N else lb_X10_happen_158 0 (nI o) (nI h) N) = some (upA N 58 (bor (N 58) h o (nI t))) := by
      rcases has_01 (N 58 h) (nI o) with z | z
      · refine ⟨1, by omega, by rw [z]; decide, ?_⟩
        rw [if_pos z]
        unfold lb_X10_happen_158
        rw [bore10 hh ho q]
        rfl
      · refine ⟨0, by omega, by rw [z]; decide, ?_⟩
        rw [if_neg (by rw [z]; decide)]
        unfold lb_X10_happen_158
        rw [bore10 hh ho q]
        rfl
    refine ⟨0, by omega, ?_, ?_, fun _ => ⟨upA M 13 (bor (M 13) h o (nI t)), upA N 58 (bor (N 58) h o (nI t)), ?_, ?_, ?_, ?_, ?_⟩⟩
    · unfold f_X8_whyNot_8_17
      rw [e1, if_neg (house_yes' hh), e0, if_neg (by decide), if_neg (by decide), if_neg (by decide), if_neg (by decide), if_neg (by decide), if_pos rfl, e2, if_neg hne]
      rfl
    · unfold f_X10_whyNot
      rw [if_neg (show ¬ nI 5 = 0 by decide), if_neg (show ¬ nI 5 = 1 by decide), if_neg (show ¬ nI 5 = 2 by decide), if_neg (show ¬ nI 5 = 3 by decide), if_neg (show ¬ nI 5 = 4 by decide), if_pos (show nI 5 = 5 from rfl), if_neg hne]
      rfl
    · unfold f_X8_take_8_17
      rw [e1, if_neg (house_yes' hh), e0, if_neg (by decide), if_neg (by decide), if_neg (by decide), if_neg (by decide), if_neg (by decide), if_pos rfl, e2, turn8 hh ho, bor_xor H13 hh ho q ht (by rw [e13 h hh]; exact hn)]
      rfl
    · unfold f_X10_happen
      rw [if_neg (show ¬ nI 5 = 0 by decide), if_neg (show ¬ nI 5 = 1 by decide), if_neg (show ¬ nI 5 = 2 by decide), if_neg (show ¬ nI 5 = 3 by decide), if_neg (show ¬ nI 5 = 4 by decide), if_pos (show nI 5 = 5 from rfl), i8, ih]
      exact hap
    · refine Rel_set hR (fun _ _ => Or.inl ⟨rfl, rfl⟩) (fun _ _ => Or.inl ⟨rfl, rfl⟩) (fun _ _ => Or.inl ⟨rfl, rfl⟩) (fun _ _ => Or.inl ⟨rfl, rfl⟩) ⟨fun j hj => ?_, ?_⟩ (Or.inl ⟨rfl, rfl⟩) ⟨rfl, rfl⟩ ⟨rfl, rfl⟩
      · rw [upA_at, upA_at]; exact bor_congr hh ho e13 j hj
      · rw [upA_at]; exact Hok_bor H13 hh ho q ht
    · exact fun k hk => upA_ne _ _ (by omega)
    · exact ⟨fun k hk _ => upA_ne _ _ (by omega), fun _ _ _ _ _ => rfl, rfl⟩
theorem act6 {M N : Mem} (hR : Rel M N) {h o : Nat} (hh : h < 8) (e0 : M 17 0 = 46) (e1 : M 17 1 = nI h) : Acts M N 6 h o := by
  obtain ⟨x, hx, ex⟩ := hR.2.2.2.2.2
  have e7 : N 53 7 = nI x := hR.2.1.2.2 ▸ ex
  by_cases q : x < 99
  · obtain ⟨M', N', w1, w2, w3, w4, w5⟩ := week_eq hR ⟨x, q, ex⟩
    refine ⟨0, by omega, ?_, ?_, fun _ => ⟨M', N', ?_, ?_, w3, w4, w5⟩⟩
    · unfold f_X8_whyNot_8_17
      rw [e1, if_neg (house_yes' hh), e0, if_neg (by decide), if_neg (by decide), if_neg (by decide), if_neg (by decide), if_neg (by decide), if_neg (by decide), ex, if_pos (show nI x < (99 : Int32) from nI_lt (b := 99) q (by omega))]
      rfl
    · unfold f_X10_whyNot
      rw [if_neg (show ¬ nI 6 = 0 by decide), if_neg (show ¬ nI 6 = 1 by decide), if_neg (show ¬ nI 6 = 2 by decide), if_neg (show ¬ nI 6 = 3 by decide), if_neg (show ¬ nI 6 = 4 by decide), if_neg (show ¬ nI 6 = 5 by decide), e7, if_neg (show ¬ nI x = (99 : Int32) from nI_is (c := 99) (by omega) (by omega) (by omega))]
      rfl
    · unfold f_X8_take_8_17
      rw [e1, if_neg (house_yes' hh), e0, if_neg (by decide), if_neg (by decide), if_neg (by decide), if_neg (by decide), if_neg (by decide), if_neg (by decide), w1]
      rfl
    · unfold f_X10_happen
      rw [if_neg (show ¬ nI 6 = 0 by decide), if_neg (show ¬ nI 6 = 1 by decide), if_neg (show ¬ nI 6 = 2 by decide), if_neg (show ¬ nI 6 = 3 by decide), if_neg (show ¬ nI 6 = 4 by decide), if_neg (show ¬ nI 6 = 5 by decide)]
      exact w2
  · refine ⟨5, by omega, ?_, ?_, fun z => by omega⟩
    · unfold f_X8_whyNot_8_17
      rw [e1, if_neg (house_yes' hh), e0, if_neg (by decide), if_neg (by decide), if_neg (by decide), if_neg (by decide), if_neg (by decide), if_neg (by decide), ex, if_neg (show ¬ nI x < (99 : Int32) from nI_nlt (b := 99) (by omega) (by omega))]
      rfl
    · unfold f_X10_whyNot
      rw [if_neg (show ¬ nI 6 = 0 by decide), if_neg (show ¬ nI 6 = 1 by decide), if_neg (show ¬ nI 6 = 2 by decide), if_neg (show ¬ nI 6 = 3 by decide), if_neg (show ¬ nI 6 = 4 by decide), if_neg (show ¬ nI 6 = 5 by decide), e7, if_pos (show nI x = (99 : Int32) by rw [show x = 99 by omega]; rfl)]
      rfl
/-- any act, on both sides -/
theorem act_eq {M N : Mem} (hR : Rel M N) {w h o : Nat} (hw : w ≤ 6) (hh : h < 8) (ho : o < 8) (e0 : M 17 0 = sgn w) (e1 : M 17 1 = nI h) (e2 : M 17 2 = nI o) : Acts M N w h o := by
  obtain rfl | rfl | rfl | rfl | rfl | rfl | rfl : w = 0 ∨ w = 1 ∨ w = 2 ∨ w = 3 ∨ w = 4 ∨ w = 5 ∨ w = 6 := by omega
  · exact act0 hR hh e0 e1
  · exact act1 hR hh e0 e1
  · exact act2 hR hh e0 e1
  · exact act3 hR hh e0 e1
  · exact act4 hR hh e0 e1
  · exact act5 hR hh ho e0 e1 e2
  · exact act6 hR hh e0 e1
