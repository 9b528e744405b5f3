def sel (l : List Nat) : Nat → Nat → Nat × Nat → Nat × Nat
  | 0, _, q => q
  | m + 1, w, q => sel l m (w + 1) (if mw l w < q.2 then (w, mw l w) else q)
theorem sel_s (l : List Nat) (m w : Nat) (q : Nat × Nat) : sel l (m + 1) w q = sel l m (w + 1) (if mw l w < q.2 then (w, mw l w) else q) := rfl
theorem sel_bd {l : List Nat} (hl : l.length ≤ 90) : ∀ m w q, w + m = 41 → q.1 ≤ 40 → q.2 ≤ 90 → (sel l m w q).1 ≤ 40 ∧ (sel l m w q).2 ≤ 90
  | 0, w, q, h, h1, h2 => ⟨h1, h2⟩
  | m + 1, w, q, h, h1, h2 => by
    rw [sel_s]
    refine sel_bd hl m (w + 1) _ (by omega) ?_ ?_
    · split
      · show w ≤ 40; omega
      · exact h1
    · split
      · exact mw_le hl w
      · exact h2
theorem sel_pos {l : List Nat} (hl : l ≠ []) : ∀ m w q, 1 ≤ q.2 → 1 ≤ (sel l m w q).2
  | 0, w, q, h => h
  | m + 1, w, q, h => by
    rw [sel_s]
    refine sel_pos hl m (w + 1) _ ?_
    split
    · exact mw_pos hl w
    · exact h
def Fw (M N : Mem) : Prop := ∀ k, k ≠ 21 → k ≠ 22 → k ≠ 24 → N k = M k
theorem Hol_frame {M N : Mem} {l : List Nat} {w : Nat} (h21 : N 21 3 = M 21 3) (h22 : N 22 = M 22) (h23 : N 23 = M 23) (H : Hol M l w) : Hol N l w := by
  unfold Hol at H ⊢
  rw [h21, h22, h23]
  exact H
theorem weigh_tail {l : List Nat} (hl : ∀ i, i < l.length → l.getD i 0 / 10 ≤ 9) {w : Nat} {M0 N : Mem} (hF : Fw M0 N) (H : Hol N l w) : ∃ N', f_X1_breedAll_21 N = some N' ∧ Fw M0 N' ∧ Hol N' l (w + 1) ∧ N' 21 = N 21 := by
  obtain ⟨N', p1, p2, p3⟩ := breedAll9 hl H
  exact ⟨N', p1, fun k a b c => (p2 k b).trans (hF k a b c), p3, p2 21 (by decide)⟩
theorem weigh_l {l : List Nat} (hl : ∀ i, i < l.length → l.getD i 0 / 10 ≤ 9) (hne : l ≠ []) {M0 : Mem} : ∀ m w fu M a b, w + m = 41 → m < fu → Hol M l w → M 21 4 = nI a → M 21 5 = nI b → a ≤ 40 → b ≤ 90 → Fw M0 M →
    ∃ M', lp_X1_weigh_21_19_19 fu (nI w) M = some M' ∧ M' 21 4 = nI (sel l m w (a, b)).1 ∧ M' 21 5 = nI (sel l m w (a, b)).2 ∧ Fw M0 M'
  | 0, w, fu, M, a, b, h, hf, H, h4, h5, ha, hb, hF => by
    obtain ⟨fu, rfl⟩ : ∃ n', fu = n' + 1 := ⟨fu - 1, by omega⟩
    refine ⟨M, ?_, h4, h5, hF⟩
    show bd_X1_weigh_21_19_19 _ _ _ = _
    unfold bd_X1_weigh_21_19_19
    rw [if_pos (show (40 : Int32) < nI w from nI_lt (a := 40) (by omega) (by omega))]
  | m + 1, w, fu, M, a, b, h, hf, H, h4, h5, ha, hb, hF => by
    obtain ⟨fu, rfl⟩ : ∃ n', fu = n' + 1 := ⟨fu - 1, by omega⟩
    have hlen : 1 ≤ l.length := by
      cases l with
      | nil => exact absurd rfl hne
      | cons x t => rw [List.length_cons]; omega
    obtain ⟨M1, q1, q2⟩ := mostAlike9 hl H
    have hF1 : Fw M0 M1 := fun k x y z => (q2 k z).trans (hF k x y z)
    have H1 : Hol M1 l w := Hol_frame (congrFun (q2 21 (by decide)) 3) (q2 22 (by decide)) (q2 23 (by decide)) H
    have e4 : M1 21 4 = nI a := (congrFun (q2 21 (by decide)) 4).trans h4
    have e5 : M1 21 5 = nI b := (congrFun (q2 21 (by decide)) 5).trans h5
    have hm := mw_le H.2.1 w
    have hlb := H.2.1
    have pre : bd_X1_weigh_21_19_19 (lp_X1_weigh_21_19_19 fu) (nI w) M = if nI b ≤ nI (mw l w) then (f_X1_breedAll_21 M1).bind fun q6 => lp_X1_weigh_21_19_19 fu (nI (w + 1)) q6 else (f_X1_breedAll_21 (up2 (up2 M1 21 4 (nI w)) 21 5 (nI (mw l w)))).bind fun q6 => lp_X1_weigh_21_19_19 fu (nI (w + 1)) q6 := by
      unfold bd_X1_weigh_21_19_19 lb_X1_weigh_21_19_54 lb_X1_weigh_21_19_64
      rw [if_neg (show ¬ (40 : Int32) < nI w from nI_nlt (a := 40) (by omega) (by omega)), H.1, if_neg (show ¬ nI l.length ≤ 0 from nI_ge (a := 0) (by omega) (by omega)), q1, Option.bind_some]
      show (if M1 21 4 = -6 then _ else if M1 21 5 ≤ nI (mw l w) then _ else _) = _
      rw [e4, e5, if_neg (m6_ne (by omega)), n_s]
    rw [sel_s]
    by_cases q : mw l w < b
    · obtain ⟨N', t1, t2, t3, t4⟩ := weigh_tail hl (M0 := M0) (N := up2 (up2 M1 21 4 (nI w)) 21 5 (nI (mw l w))) (w := w) (fun k x y z => by rw [up2_ne _ _ _ x, up2_ne _ _ _ x]; exact hF1 k x y z) (Hol_frame rfl rfl rfl H1)
      obtain ⟨M', r1, r2, r3, r4⟩ := weigh_l hl hne m (w + 1) fu N' w (mw l w) (by omega) (by omega) t3 (congrFun t4 4) (congrFun t4 5) (by omega) hm t2
      refine ⟨M', ?_, ?_, ?_, r4⟩
      · show bd_X1_weigh_21_19_19 _ _ _ = _
        rw [pre, if_neg (fun z => by have := (nI_leI (by omega) (by omega)).mp z; omega), t1, Option.bind_some]
        exact r1
      · rw [if_pos q]; exact r2
      · rw [if_pos q]; exact r3
    · obtain ⟨N', t1, t2, t3, t4⟩ := weigh_tail hl (M0 := M0) (N := M1) (w := w) hF1 H1
      obtain ⟨M', r1, r2, r3, r4⟩ := weigh_l hl hne m (w + 1) fu N' a b (by omega) (by omega) t3 ((congrFun t4 4).trans e4) ((congrFun t4 5).trans e5) ha hb t2
      refine ⟨M', ?_, ?_, ?_, r4⟩
      · show bd_X1_weigh_21_19_19 _ _ _ = _
        rw [pre, if_pos ((nI_leI (by omega) (by omega)).mpr (by omega)), t1, Option.bind_some]
        exact r1
      · rw [if_neg q]; exact r2
      · rw [if_neg q]; exact r3
theorem ask_l {M0 : Mem} {P : Nat → Bool} (hP : ∀ N : Mem, N 53 = M0 53 → N 59 = M0 59 → N 60 = M0 60 → ∀ code, 10 ≤ code → code < 100 → f_X10_isFit (nI code) N = some (b01 (P code))) (v1 : Int32) : ∀ m w fu M a b, w + m = 41 → m < fu → (∀ k, k ≠ 70 → M k = M0 k) → a ≤ 40 → b ≤ 90 →
    ∃ M', lp_X10_ask_24 fu v1 (nI a) (nI b) (nI w) M = (if nI (sel (fitl P 90 10) m w (a, b)).2 = 0 then some (-6, M') else if v1 = 0 then some (nI (sel (fitl P 90 10) m w (a, b)).1, M') else some (nI (sel (fitl P 90 10) m w (a, b)).2, M')) ∧ ∀ k, k ≠ 70 → M' k = M0 k
  | 0, w, fu, M, a, b, h, hf, hF, ha, hb => by
    obtain ⟨fu, rfl⟩ : ∃ n', fu = n' + 1 := ⟨fu - 1, by omega⟩
    refine ⟨M, ?_, hF⟩
    show bd_X10_ask_24 _ _ _ _ _ _ = _
    unfold bd_X10_ask_24
    rw [if_pos (show (40 : Int32) < nI w from nI_lt (a := 40) (by omega) (by omega))]
    rfl
  | m + 1, w, fu, M, a, b, h, hf, hF, ha, hb => by
    obtain ⟨fu, rfl⟩ : ∃ n', fu = n' + 1 := ⟨fu - 1, by omega⟩
    obtain ⟨M1, q1, q2⟩ := mostLeft10 (M := M) (P := P) (fun N x y z => hP N (x.trans (hF 53 (by decide))) (y.trans (hF 59 (by decide))) (z.trans (hF 60 (by decide)))) (w := w) (by omega)
    have hm := mw_le (fitl_len P 90 10) w
    have hF1 : ∀ k, k ≠ 70 → M1 k = M0 k := fun k hk => (q2 k hk).trans (hF k hk)
    rw [sel_s]
    have pre : bd_X10_ask_24 (lp_X10_ask_24 fu) v1 (nI a) (nI b) (nI w) M = lp_X10_ask_24 fu v1 (nI (if mw (fitl P 90 10) w < b then (w, mw (fitl P 90 10) w) else (a, b)).1) (nI (if mw (fitl P 90 10) w < b then (w, mw (fitl P 90 10) w) else (a, b)).2) (nI (w + 1)) M1 := by
      unfold bd_X10_ask_24 lb_X10_ask_51
      rw [if_neg (show ¬ (40 : Int32) < nI w from nI_nlt (a := 40) (by omega) (by omega)), q1, Option.bind_some, n_s]
      show (if nI b ≤ nI (mw (fitl P 90 10) w) then lp_X10_ask_24 fu v1 (nI a) (f_X10_less (nI b) (nI (mw (fitl P 90 10) w))) (nI (w + 1)) M1 else lp_X10_ask_24 fu v1 (nI w) (f_X10_less (nI b) (nI (mw (fitl P 90 10) w))) (nI (w + 1)) M1) = _
      rw [less_nI (by omega) (by omega)]
      by_cases q : mw (fitl P 90 10) w < b
      · rw [if_neg (fun z => by have := (nI_leI (by omega) (by omega)).mp z; omega), if_pos q, Nat.min_eq_right (by omega)]
      · rw [if_pos ((nI_leI (by omega) (by omega)).mpr (by omega)), if_neg q, Nat.min_eq_left (by omega)]
    obtain ⟨M', r1, r2⟩ := ask_l hP v1 m (w + 1) fu M1 (if mw (fitl P 90 10) w < b then (w, mw (fitl P 90 10) w) else (a, b)).1 (if mw (fitl P 90 10) w < b then (w, mw (fitl P 90 10) w) else (a, b)).2 (by omega) (by omega) hF1 (by split <;> first | (show w ≤ 40; omega) | exact ha) (by split <;> first | exact hm | exact hb)
    refine ⟨M', ?_, r2⟩
    show bd_X10_ask_24 _ _ _ _ _ _ = _
    rw [pre]
    exact r1
theorem m_ask {M : Mem} (h : Inv M) (v : Int32) : Alike M (f_X9_ask v) (f_X10_ask v) := by
  have e1 : f_X10_in v.toInt64 0 1 = f_X9_within v 0 1 := inw rfl rfl
  by_cases h1 : f_X9_within v 0 1 = 0
  · refine same_refused h (r := -2) ?_ ?_
    · unfold f_X9_ask; rw [if_pos h1]
    · unfold f_X10_ask; rw [if_pos (e1.trans h1)]
  obtain ⟨P, hP, hQ⟩ := fitP2 h.2.2.1
  have hlen := fitl_len P 90 10
  have hl : ∀ i, i < (fitl P 90 10).length → (fitl P 90 10).getD i 0 / 10 ≤ 9 := by
    intro i hi
    have hm : (fitl P 90 10).getD i 0 ∈ fitl P 90 10 := by
      rw [List.getD_eq_getElem?_getD, List.getElem?_eq_getElem hi]
      exact List.getElem_mem hi
    have := fitl_in P 90 10 _ hm
    omega
  obtain ⟨G, g1, g2, g3⟩ := gather_out hP 9 1 FU (up2 M 21 3 0) [] (by omega) (by omega) (FU_lt (by omega)) (fun k a _ _ => up2_ne _ _ _ a) ⟨rfl, by decide, fun i hi => absurd hi (Nat.not_lt_zero i)⟩ (Nat.zero_le _)
  rw [List.nil_append] at g3
  have g3 : Hol G (fitl P 90 10) 0 := g3
  have eg : f_X1_gather_21_19 M = some G := g1
  have HW : Hol (up2 (up2 G 21 4 (-6)) 21 5 (-6)) (fitl P 90 10) 0 := Hol_frame rfl rfl rfl g3
  have fin : ∀ (M1 : Mem) (M2 : Mem), (∀ k, k ≠ 21 → k ≠ 22 → k ≠ 23 → k ≠ 24 → M1 k = M k) → (∀ k, k ≠ 70 → M2 k = M1 k) → Inv M2 := by
    intro M1 M2 a b
    refine Inv_cor (fun k j hc => ?_) h
    have q : k ≠ 21 ∧ k ≠ 22 ∧ k ≠ 23 ∧ k ≠ 24 ∧ k ≠ 70 := by
      refine ⟨?_, ?_, ?_, ?_, ?_⟩ <;> (intro e; subst e; revert hc; unfold core; simp)
    rw [b k q.2.2.2.2, a k q.1 q.2.1 q.2.2.1 q.2.2.2.1]
  have ref : ∀ M1 : Mem, (∀ k, k ≠ 21 → k ≠ 22 → k ≠ 23 → k ≠ 24 → M1 k = M k) → ∃ M2, f_X10_ask v M1 = (if nI (sel (fitl P 90 10) 40 1 (0, mw (fitl P 90 10) 0)).2 = 0 then some (-6, M2) else if v = 0 then some (nI (sel (fitl P 90 10) 40 1 (0, mw (fitl P 90 10) 0)).1, M2) else some (nI (sel (fitl P 90 10) 40 1 (0, mw (fitl P 90 10) 0)).2, M2)) ∧ ∀ k, k ≠ 70 → M2 k = M1 k := by
    intro M1 hF
    have hQ1 : ∀ N : Mem, N 53 = M1 53 → N 59 = M1 59 → N 60 = M1 60 → ∀ code, 10 ≤ code → code < 100 → f_X10_isFit (nI code) N = some (b01 (P code)) := fun N x y z => hQ N (x.trans (hF 53 (by decide) (by decide) (by decide) (by decide))) (y.trans (hF 59 (by decide) (by decide) (by decide) (by decide))) (z.trans (hF 60 (by decide) (by decide) (by decide) (by decide)))
    obtain ⟨N, q1, q2⟩ := mostLeft10 (M := M1) (P := P) hQ1 (w := 0) (by omega)
    obtain ⟨M2, r1, r2⟩ := ask_l (M0 := M1) (P := P) hQ1 v 40 1 FU N 0 (mw (fitl P 90 10) 0) (by omega) (FU_lt (by omega)) q2 (by omega) (mw_le hlen 0)
    refine ⟨M2, ?_, r2⟩
    unfold f_X10_ask
    have q1' : f_X10_mostLeft 0 M1 = some (nI (mw (fitl P 90 10) 0), N) := q1
    rw [e1, if_neg h1, q1', Option.bind_some]
    exact r1
  by_cases hne : fitl P 90 10 = []
  · have ew : f_X1_weigh_21_19 M = some (up2 (up2 G 21 4 (-6)) 21 5 (-6)) := by
      unfold f_X1_weigh_21_19
      rw [eg, Option.bind_some]
      show bd_X1_weigh_21_19_19 (lp_X1_weigh_21_19_19 999) 0 _ = _
      unfold bd_X1_weigh_21_19_19
      rw [if_neg (by decide), HW.1, hne, if_pos (by decide)]
    have hF : ∀ k, k ≠ 21 → k ≠ 22 → k ≠ 23 → k ≠ 24 → (up2 (up2 G 21 4 (-6)) 21 5 (-6)) k = M k := fun k a b c _ => by
      rw [up2_ne _ _ _ a, up2_ne _ _ _ a]; exact g2 k a b c
    obtain ⟨M2, r1, r2⟩ := ref _ hF
    refine ⟨-6, up2 (up2 G 21 4 (-6)) 21 5 (-6), M2, ?_, ?_, fin _ _ hF r2⟩
    · unfold f_X9_ask
      rw [if_neg h1, ew, Option.bind_some]
      show (if v = 0 then some ((-6 : Int32), _) else some ((-6 : Int32), _)) = _
      rw [ite_self]
    · rw [r1, hne]
      have e0 : ∀ m w, sel [] m w (0, 0) = (0, 0) := by
        intro m
        induction m with
        | zero => intro w; rfl
        | succ m ih => intro w; rw [sel_s, if_neg (Nat.not_lt_zero _)]; exact ih (w + 1)
      have e1 : sel [] 40 1 (0, mw [] 0) = (0, 0) := e0 40 1
      rw [e1]
      rfl
  · have hlen1 : 1 ≤ (fitl P 90 10).length := by
      cases hq : fitl P 90 10 with
      | nil => exact absurd hq hne
      | cons x t => rw [List.length_cons]; omega
    obtain ⟨A1, a1, a2⟩ := mostAlike9 hl HW
    have e4 : A1 21 4 = -6 := congrFun (a2 21 (by decide)) 4
    have HA : Hol (up2 (up2 A1 21 4 0) 21 5 (nI (mw (fitl P 90 10) 0))) (fitl P 90 10) 0 := Hol_frame (congrFun (a2 21 (by decide)) 3) (a2 22 (by decide)) (a2 23 (by decide)) HW
    have hFA : ∀ k, k ≠ 21 → k ≠ 22 → k ≠ 23 → k ≠ 24 → (up2 (up2 A1 21 4 0) 21 5 (nI (mw (fitl P 90 10) 0))) k = M k := fun k a b c d => by
      rw [up2_ne _ _ _ a, up2_ne _ _ _ a, a2 k d, up2_ne _ _ _ a, up2_ne _ _ _ a]
      exact g2 k a b c
    obtain ⟨B, b1, b2, b3, b4⟩ := weigh_tail hl (M0 := up2 (up2 A1 21 4 0) 21 5 (nI (mw (fitl P 90 10) 0))) (N := up2 (up2 A1 21 4 0) 21 5 (nI (mw (fitl P 90 10) 0))) (w := 0) (fun k _ _ _ => rfl) HA
    obtain ⟨M1, r1, r2, r3, r4⟩ := weigh_l hl hne (M0 := up2 (up2 A1 21 4 0) 21 5 (nI (mw (fitl P 90 10) 0))) 40 1 999 B 0 (mw (fitl P 90 10) 0) (by omega) (by omega) b3 (congrFun b4 4) (congrFun b4 5) (by omega) (mw_le hlen 0) b2
    have ew : f_X1_weigh_21_19 M = some M1 := by
      unfold f_X1_weigh_21_19
      rw [eg, Option.bind_some]
      show bd_X1_weigh_21_19_19 (lp_X1_weigh_21_19_19 999) 0 _ = _
      unfold bd_X1_weigh_21_19_19 lb_X1_weigh_21_19_54 lb_X1_weigh_21_19_64
      rw [if_neg (by decide), HW.1, if_neg (show ¬ nI (fitl P 90 10).length ≤ 0 from nI_ge (a := 0) (by omega) (by omega)), a1, Option.bind_some]
      show (if A1 21 4 = -6 then _ else _) = _
      rw [if_pos e4]
      show (f_X1_breedAll_21 (up2 (up2 A1 21 4 0) 21 5 (nI (mw (fitl P 90 10) 0)))).bind _ = _
      rw [b1, Option.bind_some]
      exact r1
    have hF1 : ∀ k, k ≠ 21 → k ≠ 22 → k ≠ 23 → k ≠ 24 → M1 k = M k := fun k a b c d => (r4 k a b d).trans (hFA k a b c d)
    obtain ⟨M2, t1, t2⟩ := ref M1 hF1
    have hpos := sel_pos hne 40 1 (0, mw (fitl P 90 10) 0) (mw_pos hne 0)
    have hbd := sel_bd hlen 40 1 (0, mw (fitl P 90 10) 0) (by omega) (Nat.zero_le _) (mw_le hlen 0)
    have hnz : ¬ nI (sel (fitl P 90 10) 40 1 (0, mw (fitl P 90 10) 0)).2 = 0 := nI_ne0 (by omega) (by omega)
    rw [if_neg hnz] at t1
    by_cases hv : v = 0
    · rw [if_pos hv] at t1
      refine ⟨_, M1, M2, ?_, t1, fin _ _ hF1 t2⟩
      unfold f_X9_ask
      rw [if_neg h1, ew, Option.bind_some, if_pos hv, r2]
    · rw [if_neg hv] at t1
      refine ⟨_, M1, M2, ?_, t1, fin _ _ hF1 t2⟩
      unfold f_X9_ask
      rw [if_neg h1, ew, Option.bind_some, if_neg hv, r3]
