-- the pure picture of the memory: the ints of cell k by their slots
abbrev Mem : Type := Nat → Nat → Int32
def upA (M : Mem) (k : Nat) (f : Nat → Int32) : Mem := fun k' => if k' = k then f else M k'
def up2 (M : Mem) (k j : Nat) (x : Int32) : Mem := upA M k (upd (M k) j x)
def cv (ad : Nat → Nat) : Value → Value
  | .ref k => .ref (ad k)
  | v => v
theorem cv_cat (ad : Nat → Nat) (v : Value) : (cv ad v).category = v.category := by cases v <;> rfl
def lw_good : List Cond := lw_tbl.filter goodWord
def nestW (w : Cond) : Bool := match w with
  | .methodLinkNest .. => true
  | .fieldLinkNest .. => true
  | _ => false
def lw_nest : List Cond := lw_tbl.filter nestW
theorem mem_good {w : Cond} (i : Nat) (h : (decide (lw_tbl[i]? = some w) && goodWord w) = true) : w ∈ lw_good := by
  rw [Bool.and_eq_true, decide_eq_true_eq] at h
  exact List.mem_filter.mpr ⟨List.mem_of_getElem? h.1, h.2⟩
theorem mem_nest {w : Cond} (i : Nat) (h : (decide (lw_tbl[i]? = some w) && nestW w) = true) : w ∈ lw_nest := by
  rw [Bool.and_eq_true, decide_eq_true_eq] at h
  exact List.mem_filter.mpr ⟨List.mem_of_getElem? h.1, h.2⟩
theorem mem_goods {ws : List Cond} (ps : List Nat) (h : (decide (ps.filterMap (fun i => lw_tbl[i]?) = ws) && ws.all goodWord) = true) : ∀ w ∈ ws, w ∈ lw_good := by
  rw [Bool.and_eq_true, decide_eq_true_eq] at h
  intro w hw
  have h2 := List.all_eq_true.mp h.2 w hw
  rw [← h.1] at hw
  obtain ⟨i, -, hi⟩ := List.mem_filterMap.mp hw
  exact List.mem_filter.mpr ⟨List.mem_of_getElem? hi, h2⟩
theorem good_in (a : Cond) (y : Cond) (hy : y ∈ lw_good) : GoodIn (a :: lw_good) (y :: lw_good) := by
  intro w hw
  have h : w ∈ lw_good := (List.mem_cons.mp hw).elim (fun e => e ▸ hy) id
  exact ⟨List.mem_cons_of_mem _ h, good_of_word (List.mem_filter.mp h).2⟩
theorem good_in0 (y : Cond) (hy : y ∈ lw_good) : GoodIn lw_good (y :: lw_good) := by
  intro w hw
  have h : w ∈ lw_good := (List.mem_cons.mp hw).elim (fun e => e ▸ hy) id
  exact ⟨h, good_of_word (List.mem_filter.mp h).2⟩
-- the shape of the world: tag 0 a row of ints, 1 a row of booleans, 2 the row of images, c + 3 an object of kind c
def shl : List (Nat × Nat × List (Option Nat)) :=
  [(12, 10, [some 1, some 8, some 15, some 17, some 18, some 19, some 21, some 25, some 28, some 32]),
   (11, 9, [some 2, some 3, some 4, some 5, some 6, some 7, none, none, none]), (0, 8, []), (0, 8, []), (0, 8, []), (0, 8, []), (0, 8, []), (0, 8, []),
   (11, 9, [some 9, some 10, some 11, some 12, some 13, some 14, none, none, none]), (0, 8, []), (0, 8, []), (0, 8, []), (0, 8, []), (0, 8, []), (0, 8, []),
   (8, 2, [some 16, none]), (0, 60, []),
   (3, 3, [none, none, none]),
   (10, 5, [none, none, none, none, none]),
   (9, 3, [some 20, none, none]), (0, 41, []),
   (4, 6, [some 22, some 23, some 24, none, none, none]), (0, 90, []), (0, 90, []), (0, 100, []),
   (5, 4, [some 26, some 27, none, none]), (0, 100, []), (0, 100, []),
   (6, 5, [some 29, some 30, some 31, none, none]), (0, 8, []), (0, 8, []), (0, 8, []),
   (2, 2, [some 33, some 43]),
   (7, 3, [some 34, some 41, none]),
   (11, 9, [some 35, some 36, some 37, some 38, some 39, some 40, none, none, none]), (0, 8, []), (0, 8, []), (0, 8, []), (0, 8, []), (0, 8, []), (0, 8, []),
   (9, 3, [some 42, none, none]), (0, 41, []),
   (7, 3, [some 44, some 51, none]),
   (11, 9, [some 45, some 46, some 47, some 48, some 49, some 50, none, none, none]), (0, 8, []), (0, 8, []), (0, 8, []), (0, 8, []), (0, 8, []), (0, 8, []),
   (9, 3, [some 52, none, none]), (0, 41, []),
   (13, 34, [some 54, some 55, some 56, some 57, some 58, none, none, none, some 59, some 60, none, some 61, none, some 62, some 63, some 64, none, none, some 65, some 66, none, none, none, none, some 67, some 68, some 69, some 70, some 71, some 72, some 73, some 74, none, none]),
   (0, 8, []), (0, 8, []), (0, 8, []), (0, 8, []), (0, 8, []), (0, 8, []), (0, 8, []), (0, 60, []), (0, 60, []), (0, 60, []), (0, 60, []), (0, 8, []), (0, 43, []), (0, 9, []), (0, 9, []), (0, 100, []), (0, 100, []), (0, 64, []), (0, 64, []), (0, 140, []), (1, 2, [])]
theorem shl_len : shl.length = 75 := by decide
def fv (ad : Nat → Nat) (f : Nat → Int32) (j : Nat) (r : Option Nat) : Value := match r with
  | some q => .ref (ad q)
  | none => .int (f j)
def ce (tI tZ tG : ClassId) (ad : Nat → Nat) (f : Nat → Int32) (q : Nat × Nat × List (Option Nat)) : va_E := match q with
  | (0, n, _) => .inl (tI, n, .inl f)
  | (1, n, _) => .inl (tZ, n, .inl f)
  | (2, n, rs) => .inl (tG, n, .inr (.inr (.inr (.inr (fun i => (rs.getD i none).map ad)))))
  | (c + 3, _, rs) => .inr (c, rs.mapIdx (fv ad f))
def cw (tI tZ tG : ClassId) (ad : Nat → Nat) (M : Mem) : va_W := shl.mapIdx (fun k q => (ad k, ce tI tZ tG ad (M k) q))
theorem cw_get {tI tZ tG : ClassId} {ad : Nat → Nat} {M : Mem} {k : Nat} {q : Nat × Nat × List (Option Nat)} (h : shl[k]? = some q) : (cw tI tZ tG ad M)[k]? = some (ad k, ce tI tZ tG ad (M k) q) := by
  unfold cw
  rw [List.getElem?_mapIdx, h]
  rfl
theorem cw_lt {tI tZ tG : ClassId} {ad : Nat → Nat} {M : Mem} {k : Nat} {q : Nat × va_E} (h : (cw tI tZ tG ad M)[k]? = some q) : k < 75 ∧ q.1 = ad k := by
  unfold cw at h
  rw [List.getElem?_mapIdx] at h
  cases hs : shl[k]? with
  | none => rw [hs] at h; cases h
  | some w =>
    rw [hs] at h
    cases h
    refine ⟨?_, rfl⟩
    have := (List.getElem?_eq_some_iff.mp hs).1
    rw [shl_len] at this
    exact this
theorem cw_D {tI tZ tG : ClassId} {ad : Nat → Nat} {A : Nat → Prop} (hi : ∀ i j, i < 75 → j < 75 → ad i = ad j → i = j) (hA : ∀ k, k < 75 → A (ad k)) (M : Mem) : va_D A (cw tI tZ tG ad M) := by
  refine ⟨fun i j p q h1 h2 e => ?_, fun k q h => ?_⟩
  · obtain ⟨a1, b1⟩ := cw_lt h1
    obtain ⟨a2, b2⟩ := cw_lt h2
    exact hi i j a1 a2 (by rw [← b1, ← b2]; exact e)
  · obtain ⟨a1, b1⟩ := cw_lt h
    rw [b1]
    exact hA k a1
theorem cw_set {tI tZ tG : ClassId} {ad : Nat → Nat} {M : Mem} {k : Nat} {q : Nat × Nat × List (Option Nat)} (h : shl[k]? = some q) (f : Nat → Int32) : (cw tI tZ tG ad M).set k (ad k, ce tI tZ tG ad f q) = cw tI tZ tG ad (upA M k f) := by
  apply List.ext_getElem?
  intro j
  have hl := (List.getElem?_eq_some_iff.mp h).1
  unfold cw
  rw [List.getElem?_set, List.getElem?_mapIdx, List.getElem?_mapIdx]
  by_cases e : k = j
  · subst e
    rw [if_pos rfl, if_pos (by rw [List.length_mapIdx]; exact hl), h]
    simp [upA]
  · rw [if_neg e]
    cases shl[j]? with
    | none => rfl
    | some w =>
      have e' : ¬ j = k := fun h => e h.symm
      simp [upA, e']
theorem ce_setI {tI tZ tG : ClassId} {ad : Nat → Nat} {f : Nat → Int32} {c n j : Nat} {rs : List (Option Nat)} (hj : rs[j]? = some none) (x : Int32) : (Sum.inr (c, (rs.mapIdx (fv ad f)).set j (.int x)) : va_E) = ce tI tZ tG ad (upd f j x) (c + 3, n, rs) := by
  show _ = Sum.inr (c, rs.mapIdx (fv ad (upd f j x)))
  congr 2
  apply List.ext_getElem?
  intro i
  rw [List.getElem?_set, List.getElem?_mapIdx, List.getElem?_mapIdx]
  by_cases e : j = i
  · subst e
    have hl := (List.getElem?_eq_some_iff.mp hj).1
    rw [if_pos rfl, if_pos (by rw [List.length_mapIdx]; exact hl), hj]
    simp [fv, upd]
  · rw [if_neg e]
    cases rs[i]? with
    | none => rfl
    | some w =>
      cases w with
      | none =>
        have e' : ¬ i = j := fun h => e h.symm
        simp [fv, upd, e']
      | some z => rfl
def tensF (j : Nat) : Int32 := ([1, 10, 100, 1000, 10000, 100000, 1000000, 10000000, 100000000, 1000000000] : List Int32).getD j 0
def signF (j : Nat) : Int32 := ([43, 45, 94, 95, 33, 111, 46, 46] : List Int32).getD j 0
def Aw (ad : Nat → Nat) : Nat → Prop := fun q => ∃ k, k < 75 ∧ q = ad k
def Wd (D : va_G) (tI tZ tG : ClassId) (ad : Nat → Nat) (A : Nat → Prop) (U : State) : Prop :=
  va_K D vwCl [(tI, .int), (tZ, .boolean), (tG, .object RX4)] U ∧
  (∀ i j, i < 75 → j < 75 → ad i = ad j → i = j) ∧ (∀ k, k < 75 → A (ad k)) ∧
  (va_Z RX9 "TENS" "[I" (.ref (ad 75)) A U U.heap ∧ va_T .int (ad 75) 10 (fun j => .int (tensF j)) A U U.heap) ∧
  (va_Z RX9 "YEAR_SIGNS" "[I" (.ref (ad 76)) A U U.heap ∧ va_T .int (ad 76) 8 (fun j => .int (signF j)) A U U.heap) ∧
  (∀ w ∈ lw_nest, va_Nw w U)
theorem nest_on {w : Cond} (h : w ∈ lw_nest) : w.onTables = true := by
  have h2 := (List.mem_filter.mp h).2
  unfold nestW at h2
  split at h2
  · rfl
  · rfl
  · cases h2
theorem nest_warm {w : Cond} (h : w ∈ lw_nest) {s U : State} (hW : s.WarmedH U.vm) (hZ : va_Nw w s) : va_Nw w U := by
  have h2 := (List.mem_filter.mp h).2
  unfold nestW at h2
  split at h2
  · exact va_Nw.warmM hW hZ
  · exact va_Nw.warmF hW hZ
  · cases h2
theorem Wd.calling {D : va_G} {tI tZ tG : ClassId} {ad : Nat → Nat} {A : Nat → Prop} {U : State} (g : JFrame) (mk : MethodId) (a : Array Value) (h : Wd D tI tZ tG ad A U) : Wd D tI tZ tG ad A (U.calling g mk a) := by
  obtain ⟨h1, h2, h3, ⟨h4, h5⟩, ⟨h6, h7⟩, h8⟩ := h
  have al : U.vm.Alike (U.calling g mk a).vm := Vm.Alike.refl U.vm
  exact ⟨va_K.moved al h1, h2, h3, ⟨va_Z.moved al h4, va_T.moved al h5⟩, ⟨va_Z.moved al h6, va_T.moved al h7⟩, fun w hw => va_Nw.same (u := U) (U := U.calling g mk a) (nest_on hw) rfl (h8 w hw)⟩
theorem Wd.warm {D : va_G} {tI tZ tG : ClassId} {ad : Nat → Nat} {A : Nat → Prop} {s U : State} {locs : List Loc} (hW : s.WarmedH U.vm) (hS : va_S A s.heap U.heap locs) (h : Wd D tI tZ tG ad A s) : Wd D tI tZ tG ad (Aw ad) U := by
  obtain ⟨h1, h2, h3, ⟨h4, h5⟩, ⟨h6, h7⟩, h8⟩ := h
  have al : s.vm.Alike U.vm := hW.alike
  have hn : ∀ q, Aw ad q → A q := fun q ⟨k, hk, e⟩ => e ▸ h3 k hk
  exact ⟨va_K.moved al h1, h2, fun k hk => ⟨k, hk, rfl⟩, ⟨((va_Z.moved al h4).kept hS.2.1).narrow hn, ((va_T.moved al h5).kept hS.2.1).narrow hn⟩, ⟨((va_Z.moved al h6).kept hS.2.1).narrow hn, ((va_T.moved al h7).kept hS.2.1).narrow hn⟩, fun w hw => nest_warm hw hW (h8 w hw)⟩
