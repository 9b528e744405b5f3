def inb (i : Int32) (n : Nat) : Bool := decide (0 ≤ i.toInt) && decide (i.toInt < (n : Int))
theorem inb_in {i : Int32} {n : Nat} (h : inb i n = true) : vp_in i n := by
  unfold inb at h
  rw [Bool.and_eq_true, decide_eq_true_eq, decide_eq_true_eq] at h
  exact vp_in_iff.mpr h
abbrev ix (i : Int32) : Nat := i.toNatClampNeg
def rIns (r : Option Value) : Instr := match r with
  | none => .return_
  | some (.long _) => .lreturn
  | some _ => .ireturn
def retOK (ret : Option FieldType) (r : Option Value) : Prop := (ret = none ∧ r = none) ∨ (∃ v, ret = some .long ∧ r = some (.long v)) ∨ ∃ ty v, ret = some ty ∧ r = some (.int v) ∧ narrow ty (.int v) = .int v
def lh (ad : Nat → Nat) (ls : Array Slot) (L : List (Option Value)) : Prop := ls.size = L.length ∧ lv_wf ls ∧ ∀ (i : Nat) (v : Value), L[i]? = some (some v) → ls[i]? = some (Slot.val (cv ad v))
def asc (ad : Nat → Nat) (L : List (Option Value)) : List (Nat × Value) := L.zipIdx.filterMap (fun q => q.1.map (fun v => (q.2, cv ad v)))
theorem asc_mem {ad : Nat → Nat} {L : List (Option Value)} {q : Nat × Value} : q ∈ asc ad L ↔ ∃ v, L[q.1]? = some (some v) ∧ q.2 = cv ad v := by
  unfold asc
  rw [List.mem_filterMap]
  constructor
  · rintro ⟨⟨o, i⟩, h1, h2⟩
    have h3 := List.mem_zipIdx_iff_getElem?.mp h1
    cases o with
    | none => cases h2
    | some v =>
      cases h2
      exact ⟨v, h3, rfl⟩
  · rintro ⟨v, h1, h2⟩
    refine ⟨(some v, q.1), List.mem_zipIdx_iff_getElem?.mpr h1, ?_⟩
    show some (q.1, cv ad v) = some q
    rw [← h2]
theorem lh.has {ad : Nat → Nat} {ls : Array Slot} {L : List (Option Value)} (h : lh ad ls L) : lv_has ls L.length (asc ad L) := by
  refine ⟨h.1, h.2.1, fun q hq => ?_⟩
  obtain ⟨v, h1, h2⟩ := asc_mem.mp hq
  rw [h2]
  exact h.2.2 q.1 v h1
def noL2 (L : List (Option Value)) (i : Nat) : Bool := match i with
  | 0 => true
  | i + 1 => match L[i]? with
    | some (some v) => v.category == 1
    | _ => true
theorem noL2_spec {L : List (Option Value)} {i j : Nat} {v : Value} (h : noL2 L i = true) (hj : L[j]? = some (some v)) : ¬ (j + 1 = i ∧ v.category = 2) := by
  rintro ⟨e, hc⟩
  subst e
  unfold noL2 at h
  simp only [hj, hc] at h
  exact absurd h (by decide)
theorem lh_store {ad : Nat → Nat} {ls' : Array Slot} {L : List (Option Value)} {i : Nat} {x : Value} (hi : i < L.length) (hn : noL2 L i = true) (h : lv_has ls' L.length ((i, cv ad x) :: (asc ad L).filter (fun q => !(q.1 == i) && !(q.1 + 1 == i && q.2.category == 2)))) : lh ad ls' (L.set i (some x)) := by
  refine ⟨by rw [List.length_set]; exact h.1, h.2.1, fun j v hj => ?_⟩
  rw [List.getElem?_set] at hj
  by_cases e : i = j
  · subst e
    rw [if_pos rfl, if_pos hi] at hj
    cases hj
    exact h.2.2 (i, cv ad x) List.mem_cons_self
  · rw [if_neg e] at hj
    refine h.2.2 (j, cv ad v) (List.mem_cons_of_mem _ (List.mem_filter.mpr ⟨asc_mem.mpr ⟨v, hj, rfl⟩, ?_⟩))
    have e' : ¬ j = i := fun h => e h.symm
    have h3 := noL2_spec hn hj
    by_cases e2 : j + 1 = i
    · have : ¬ v.category = 2 := fun h => h3 ⟨e2, h⟩
      simp [e', cv_cat, this]
    · simp [e', e2]
theorem lh_store2 {ad : Nat → Nat} {ls' : Array Slot} {L : List (Option Value)} {i : Nat} {x : Value} (hi : i < L.length) (hn : noL2 L i = true) (h : lv_has ls' L.length ((i, cv ad x) :: (asc ad L).filter (fun q => !(q.1 == i) && (!(q.1 == i + 1) && !(q.1 + 1 == i && q.2.category == 2))))) : lh ad ls' ((L.set i (some x)).set (i + 1) none) := by
  refine ⟨by rw [List.length_set, List.length_set]; exact h.1, h.2.1, fun j v hj => ?_⟩
  rw [List.getElem?_set] at hj
  by_cases e1 : i + 1 = j
  · subst e1
    rw [if_pos rfl] at hj
    split at hj <;> cases hj
  · rw [if_neg e1, List.getElem?_set] at hj
    by_cases e : i = j
    · subst e
      rw [if_pos rfl, if_pos hi] at hj
      cases hj
      exact h.2.2 (i, cv ad x) List.mem_cons_self
    · rw [if_neg e] at hj
      refine h.2.2 (j, cv ad v) (List.mem_cons_of_mem _ (List.mem_filter.mpr ⟨asc_mem.mpr ⟨v, hj, rfl⟩, ?_⟩))
      have e' : ¬ j = i := fun h => e h.symm
      have e1' : ¬ j = i + 1 := fun h => e1 h.symm
      have h3 := noL2_spec hn hj
      by_cases e2 : j + 1 = i
      · have : ¬ v.category = 2 := fun h => h3 ⟨e2, h⟩
        simp [e', e1', cv_cat, this]
      · simp [e', e1', e2]
def Fx (sc : Option (Nat × (Nat → Int32))) (own : String) (cc : ByteArray) (dp nL : Nat) (p : Program) (R : Room) (s : State) (m : MethodId) (args : Array Value) (c : Code) (cells slots : Nat) (D : va_G) (tI tZ tG : ClassId) (ad : Nat → Nat) (A : Nat → Prop) : Prop :=
  p.tables.exec = Jvm.exec ∧ c.code = cc ∧ c.maxLocals = nL ∧ s.vm.findClass own = some m.cls ∧ (∀ w ∈ lw_good, w.before args s = true) ∧ (dp ≤ R.frames ∧ 34 * dp ≤ R.locals ∧ cells ≤ R.cells ∧ slots ≤ R.slots) ∧ Wd D tI tZ tG ad A s ∧ ∀ n f, sc = some (n, f) → va_X (ad 77) n f s s.heap ∧ ad 77 < s.heap.size ∧ ¬ A (ad 77)
/-- from here the method comes to its return, with what o says -/
def Ev {α : Type} (sc : Option (Nat × (Nat → Int32))) (wr : α → Option Value × Mem) (own : String) (cc : ByteArray) (ret : Option FieldType) (dp pc : Nat) (L : List (Option Value)) (st : List Value) (M : Mem) (o : Option α) : Prop :=
  ∀ (b : α), o = some b → ∀ (p : Program) (l : Launch) (e : Env) (R : Room) (s : State) (m : MethodId) (args : Array Value) (below : List Frame) (meth : Method) (c : Code) (H : Heap) (locs : List Loc) (cells slots : Nat) (Q : State → Prop) (D : va_G) (tI tZ tG : ClassId) (ad : Nat → Nat) (A : Nat → Prop) (ls : Array Slot),
    Fx sc own cc dp L.length p R s m args c cells slots D tI tZ tG ad A → va_P D vwCl (cw tI tZ tG ad M) H → va_S A s.heap H locs → lh ad ls L →
    (∀ (H' : Heap) (locs' : List Loc) (ls' : Array Slot) (pc' : Nat), retOK ret (wr b).1 → va_P D vwCl (cw tI tZ tG ad (wr b).2) H' → va_S A s.heap H' locs' → decode cc pc' = .ok (rIns (wr b).1, 1) → W p l e R s m args below meth c H' locs' cells slots Q (F0 m pc' ls' ((wr b).1.map (cv ad)).toList)) →
    W p l e R s m args below meth c H locs cells slots Q (F0 m pc ls (st.map (cv ad)))
section Rules
variable {α : Type} {sc : Option (Nat × (Nat → Int32))} {wr : α → Option Value × Mem} {own : String} {cc : ByteArray} {ret : Option FieldType} {dp pc : Nat} {L : List (Option Value)} {st : List Value} {M : Mem} {o o1 o2 : Option α}
theorem e_none : Ev sc wr own cc ret dp pc L st M none := fun b hb => by cases hb
theorem e_iconst {n : Int} {v : Int32} (hd : decode cc pc = .ok (.iconst n, 1)) (hv : Int32.ofInt n = v) (k : Ev sc wr own cc ret dp (pc + 1) L (.int v :: st) M o) : Ev sc wr own cc ret dp pc L (st) M o := by
  intro b hb p l e R s m args below meth c H locs cells slots Q D tI tZ tG ad A ls hF hP hS hl hX
  exact lv_iconst hF.1 hF.2.1 hd hv (k b hb p l e R s m args below meth c H locs cells slots Q D tI tZ tG ad A ls hF hP hS hl hX)
theorem e_bipush {n : Int} {v : Int32} (hd : decode cc pc = .ok (.bipush n, 2)) (hv : (Int8.ofInt n).toInt32 = v) (k : Ev sc wr own cc ret dp (pc + 2) L (.int v :: st) M o) : Ev sc wr own cc ret dp pc L (st) M o := by
  intro b hb p l e R s m args below meth c H locs cells slots Q D tI tZ tG ad A ls hF hP hS hl hX
  exact lv_bipush hF.1 hF.2.1 hd hv (k b hb p l e R s m args below meth c H locs cells slots Q D tI tZ tG ad A ls hF hP hS hl hX)
theorem e_sipush {n : Int} {v : Int32} (hd : decode cc pc = .ok (.sipush n, 3)) (hv : (Int16.ofInt n).toInt32 = v) (k : Ev sc wr own cc ret dp (pc + 3) L (.int v :: st) M o) : Ev sc wr own cc ret dp pc L (st) M o := by
  intro b hb p l e R s m args below meth c H locs cells slots Q D tI tZ tG ad A ls hF hP hS hl hX
  exact lv_sipush hF.1 hF.2.1 hd hv (k b hb p l e R s m args below meth c H locs cells slots Q D tI tZ tG ad A ls hF hP hS hl hX)
theorem e_lconst {n : Fin 2} {v : Int64} (hd : decode cc pc = .ok (.lconst n, 1)) (hv : Int64.ofNat (n : Nat) = v) (k : Ev sc wr own cc ret dp (pc + 1) L (.long v :: st) M o) : Ev sc wr own cc ret dp pc L (st) M o := by
  intro b hb p l e R s m args below meth c H locs cells slots Q D tI tZ tG ad A ls hF hP hS hl hX
  exact lv_lconst hF.1 hF.2.1 hd hv (k b hb p l e R s m args below meth c H locs cells slots Q D tI tZ tG ad A ls hF hP hS hl hX)
theorem e_iload_n {k : Fin 4} {x : Int32} (hd : decode cc pc = .ok (.iload_n k, 1)) (hx : L[(k : Nat)]? = some (some (.int x))) (k : Ev sc wr own cc ret dp (pc + 1) L (.int x :: st) M o) : Ev sc wr own cc ret dp pc L (st) M o := by
  intro b hb p l e R s m args below meth c H locs cells slots Q D tI tZ tG ad A ls hF hP hS hl hX
  exact lv_iload_n hF.1 hF.2.1 hd rfl (hl.2.2 _ _ hx) (k b hb p l e R s m args below meth c H locs cells slots Q D tI tZ tG ad A ls hF hP hS hl hX)
theorem e_iload {i : Nat} {x : Int32} (hd : decode cc pc = .ok (.iload i, 2)) (hx : L[i]? = some (some (.int x))) (k : Ev sc wr own cc ret dp (pc + 2) L (.int x :: st) M o) : Ev sc wr own cc ret dp pc L (st) M o := by
  intro b hb p l e R s m args below meth c H locs cells slots Q D tI tZ tG ad A ls hF hP hS hl hX
  exact lv_iload hF.1 hF.2.1 hd (hl.2.2 _ _ hx) (k b hb p l e R s m args below meth c H locs cells slots Q D tI tZ tG ad A ls hF hP hS hl hX)
theorem e_lload_n {k : Fin 4} {x : Int64} (hd : decode cc pc = .ok (.lload_n k, 1)) (hx : L[(k : Nat)]? = some (some (.long x))) (k : Ev sc wr own cc ret dp (pc + 1) L (.long x :: st) M o) : Ev sc wr own cc ret dp pc L (st) M o := by
  intro b hb p l e R s m args below meth c H locs cells slots Q D tI tZ tG ad A ls hF hP hS hl hX
  exact lv_lload_n hF.1 hF.2.1 hd rfl (hl.2.2 _ _ hx) (k b hb p l e R s m args below meth c H locs cells slots Q D tI tZ tG ad A ls hF hP hS hl hX)
theorem e_lload {i : Nat} {x : Int64} (hd : decode cc pc = .ok (.lload i, 2)) (hx : L[i]? = some (some (.long x))) (k : Ev sc wr own cc ret dp (pc + 2) L (.long x :: st) M o) : Ev sc wr own cc ret dp pc L (st) M o := by
  intro b hb p l e R s m args below meth c H locs cells slots Q D tI tZ tG ad A ls hF hP hS hl hX
  exact lv_lload hF.1 hF.2.1 hd (hl.2.2 _ _ hx) (k b hb p l e R s m args below meth c H locs cells slots Q D tI tZ tG ad A ls hF hP hS hl hX)
theorem e_aload_n {k : Fin 4} {x : Nat} (hd : decode cc pc = .ok (.aload_n k, 1)) (hx : L[(k : Nat)]? = some (some (.ref x))) (k : Ev sc wr own cc ret dp (pc + 1) L (.ref x :: st) M o) : Ev sc wr own cc ret dp pc L (st) M o := by
  intro b hb p l e R s m args below meth c H locs cells slots Q D tI tZ tG ad A ls hF hP hS hl hX
  exact lv_aload_n hF.1 hF.2.1 hd rfl (hl.2.2 _ _ hx) (k b hb p l e R s m args below meth c H locs cells slots Q D tI tZ tG ad A ls hF hP hS hl hX)
theorem e_iadd {x y : Int32} (hd : decode cc pc = .ok (.iadd, 1)) (k : Ev sc wr own cc ret dp (pc + 1) L (.int (x + y) :: st) M o) : Ev sc wr own cc ret dp pc L (.int y :: .int x :: st) M o := by
  intro b hb p l e R s m args below meth c H locs cells slots Q D tI tZ tG ad A ls hF hP hS hl hX
  exact lv_iadd hF.1 hF.2.1 hd (k b hb p l e R s m args below meth c H locs cells slots Q D tI tZ tG ad A ls hF hP hS hl hX)
theorem e_isub {x y : Int32} (hd : decode cc pc = .ok (.isub, 1)) (k : Ev sc wr own cc ret dp (pc + 1) L (.int (x - y) :: st) M o) : Ev sc wr own cc ret dp pc L (.int y :: .int x :: st) M o := by
  intro b hb p l e R s m args below meth c H locs cells slots Q D tI tZ tG ad A ls hF hP hS hl hX
  exact lv_isub hF.1 hF.2.1 hd (k b hb p l e R s m args below meth c H locs cells slots Q D tI tZ tG ad A ls hF hP hS hl hX)
theorem e_imul {x y : Int32} (hd : decode cc pc = .ok (.imul, 1)) (k : Ev sc wr own cc ret dp (pc + 1) L (.int (x * y) :: st) M o) : Ev sc wr own cc ret dp pc L (.int y :: .int x :: st) M o := by
  intro b hb p l e R s m args below meth c H locs cells slots Q D tI tZ tG ad A ls hF hP hS hl hX
  exact lv_imul hF.1 hF.2.1 hd (k b hb p l e R s m args below meth c H locs cells slots Q D tI tZ tG ad A ls hF hP hS hl hX)
theorem e_iand {x y : Int32} (hd : decode cc pc = .ok (.iand, 1)) (k : Ev sc wr own cc ret dp (pc + 1) L (.int (x &&& y) :: st) M o) : Ev sc wr own cc ret dp pc L (.int y :: .int x :: st) M o := by
  intro b hb p l e R s m args below meth c H locs cells slots Q D tI tZ tG ad A ls hF hP hS hl hX
  exact lv_iand hF.1 hF.2.1 hd (k b hb p l e R s m args below meth c H locs cells slots Q D tI tZ tG ad A ls hF hP hS hl hX)
theorem e_ior {x y : Int32} (hd : decode cc pc = .ok (.ior, 1)) (k : Ev sc wr own cc ret dp (pc + 1) L (.int (x ||| y) :: st) M o) : Ev sc wr own cc ret dp pc L (.int y :: .int x :: st) M o := by
  intro b hb p l e R s m args below meth c H locs cells slots Q D tI tZ tG ad A ls hF hP hS hl hX
  exact lv_ior hF.1 hF.2.1 hd (k b hb p l e R s m args below meth c H locs cells slots Q D tI tZ tG ad A ls hF hP hS hl hX)
theorem e_ixor {x y : Int32} (hd : decode cc pc = .ok (.ixor, 1)) (k : Ev sc wr own cc ret dp (pc + 1) L (.int (x ^^^ y) :: st) M o) : Ev sc wr own cc ret dp pc L (.int y :: .int x :: st) M o := by
  intro b hb p l e R s m args below meth c H locs cells slots Q D tI tZ tG ad A ls hF hP hS hl hX
  exact lv_ixor hF.1 hF.2.1 hd (k b hb p l e R s m args below meth c H locs cells slots Q D tI tZ tG ad A ls hF hP hS hl hX)
theorem e_ishl {x y : Int32} (hd : decode cc pc = .ok (.ishl, 1)) (k : Ev sc wr own cc ret dp (pc + 1) L (.int (x <<< (y &&& 31)) :: st) M o) : Ev sc wr own cc ret dp pc L (.int y :: .int x :: st) M o := by
  intro b hb p l e R s m args below meth c H locs cells slots Q D tI tZ tG ad A ls hF hP hS hl hX
  exact lv_ishl hF.1 hF.2.1 hd (k b hb p l e R s m args below meth c H locs cells slots Q D tI tZ tG ad A ls hF hP hS hl hX)
theorem e_ishr {x y : Int32} (hd : decode cc pc = .ok (.ishr, 1)) (k : Ev sc wr own cc ret dp (pc + 1) L (.int (x >>> (y &&& 31)) :: st) M o) : Ev sc wr own cc ret dp pc L (.int y :: .int x :: st) M o := by
  intro b hb p l e R s m args below meth c H locs cells slots Q D tI tZ tG ad A ls hF hP hS hl hX
  exact lv_ishr hF.1 hF.2.1 hd (k b hb p l e R s m args below meth c H locs cells slots Q D tI tZ tG ad A ls hF hP hS hl hX)
theorem e_iushr {x y : Int32} (hd : decode cc pc = .ok (.iushr, 1)) (k : Ev sc wr own cc ret dp (pc + 1) L (.int ((x.toUInt32 >>> (y.toUInt32 &&& Int32.toUInt32 31)).toInt32) :: st) M o) : Ev sc wr own cc ret dp pc L (.int y :: .int x :: st) M o := by
  intro b hb p l e R s m args below meth c H locs cells slots Q D tI tZ tG ad A ls hF hP hS hl hX
  exact lv_iushr hF.1 hF.2.1 hd rfl (k b hb p l e R s m args below meth c H locs cells slots Q D tI tZ tG ad A ls hF hP hS hl hX)
theorem e_ladd {x y : Int64} (hd : decode cc pc = .ok (.ladd, 1)) (k : Ev sc wr own cc ret dp (pc + 1) L (.long (x + y) :: st) M o) : Ev sc wr own cc ret dp pc L (.long y :: .long x :: st) M o := by
  intro b hb p l e R s m args below meth c H locs cells slots Q D tI tZ tG ad A ls hF hP hS hl hX
  exact lv_ladd hF.1 hF.2.1 hd (k b hb p l e R s m args below meth c H locs cells slots Q D tI tZ tG ad A ls hF hP hS hl hX)
theorem e_lsub {x y : Int64} (hd : decode cc pc = .ok (.lsub, 1)) (k : Ev sc wr own cc ret dp (pc + 1) L (.long (x - y) :: st) M o) : Ev sc wr own cc ret dp pc L (.long y :: .long x :: st) M o := by
  intro b hb p l e R s m args below meth c H locs cells slots Q D tI tZ tG ad A ls hF hP hS hl hX
  exact lv_lsub hF.1 hF.2.1 hd (k b hb p l e R s m args below meth c H locs cells slots Q D tI tZ tG ad A ls hF hP hS hl hX)
theorem e_lmul {x y : Int64} (hd : decode cc pc = .ok (.lmul, 1)) (k : Ev sc wr own cc ret dp (pc + 1) L (.long (x * y) :: st) M o) : Ev sc wr own cc ret dp pc L (.long y :: .long x :: st) M o := by
  intro b hb p l e R s m args below meth c H locs cells slots Q D tI tZ tG ad A ls hF hP hS hl hX
  exact lv_lmul hF.1 hF.2.1 hd (k b hb p l e R s m args below meth c H locs cells slots Q D tI tZ tG ad A ls hF hP hS hl hX)
theorem e_lneg {x : Int64} (hd : decode cc pc = .ok (.lneg, 1)) (k : Ev sc wr own cc ret dp (pc + 1) L (.long (-x) :: st) M o) : Ev sc wr own cc ret dp pc L (.long x :: st) M o := by
  intro b hb p l e R s m args below meth c H locs cells slots Q D tI tZ tG ad A ls hF hP hS hl hX
  exact lv_lneg hF.1 hF.2.1 hd (k b hb p l e R s m args below meth c H locs cells slots Q D tI tZ tG ad A ls hF hP hS hl hX)
theorem e_i2l {x : Int32} (hd : decode cc pc = .ok (.i2l, 1)) (k : Ev sc wr own cc ret dp (pc + 1) L (.long x.toInt64 :: st) M o) : Ev sc wr own cc ret dp pc L (.int x :: st) M o := by
  intro b hb p l e R s m args below meth c H locs cells slots Q D tI tZ tG ad A ls hF hP hS hl hX
  exact lv_i2l hF.1 hF.2.1 hd rfl (k b hb p l e R s m args below meth c H locs cells slots Q D tI tZ tG ad A ls hF hP hS hl hX)
theorem e_l2i {x : Int64} (hd : decode cc pc = .ok (.l2i, 1)) (k : Ev sc wr own cc ret dp (pc + 1) L (.int x.toInt32 :: st) M o) : Ev sc wr own cc ret dp pc L (.long x :: st) M o := by
  intro b hb p l e R s m args below meth c H locs cells slots Q D tI tZ tG ad A ls hF hP hS hl hX
  exact lv_l2i hF.1 hF.2.1 hd rfl (k b hb p l e R s m args below meth c H locs cells slots Q D tI tZ tG ad A ls hF hP hS hl hX)
theorem e_lcmp {x y : Int64} (hd : decode cc pc = .ok (.lcmp, 1)) (k : Ev sc wr own cc ret dp (pc + 1) L (.int (lg_cmp x y) :: st) M o) : Ev sc wr own cc ret dp pc L (.long y :: .long x :: st) M o := by
  intro b hb p l e R s m args below meth c H locs cells slots Q D tI tZ tG ad A ls hF hP hS hl hX
  exact W.lcmp hF.1 hF.2.1 hd (k b hb p l e R s m args below meth c H locs cells slots Q D tI tZ tG ad A ls hF hP hS hl hX)
theorem e_ldc {i : Nat} {v : Int32} (hd : decode cc pc = .ok (.ldc i, 2)) (hc : Jvm.Cond.constant own i v ∈ lw_good) (k : Ev sc wr own cc ret dp (pc + 2) L (.int v :: st) M o) : Ev sc wr own cc ret dp pc L st M o := by
  intro b hb p l e R s m args below meth c H locs cells slots Q D tI tZ tG ad A ls hF hP hS hl hX
  exact lv_ldc hF.1 hF.2.1 hF.2.2.2.1 (hF.2.2.2.2.1 _ hc) hd (k b hb p l e R s m args below meth c H locs cells slots Q D tI tZ tG ad A ls hF hP hS hl hX)
theorem e_ldcw {i : Nat} {v : Int32} (hd : decode cc pc = .ok (.ldc_w i, 3)) (hc : Jvm.Cond.constant own i v ∈ lw_good) (k : Ev sc wr own cc ret dp (pc + 3) L (.int v :: st) M o) : Ev sc wr own cc ret dp pc L st M o := by
  intro b hb p l e R s m args below meth c H locs cells slots Q D tI tZ tG ad A ls hF hP hS hl hX
  exact lv_ldcw hF.1 hF.2.1 hF.2.2.2.1 (hF.2.2.2.2.1 _ hc) hd (k b hb p l e R s m args below meth c H locs cells slots Q D tI tZ tG ad A ls hF hP hS hl hX)
theorem e_ldc2 {i : Nat} {v : Int64} (hd : decode cc pc = .ok (.ldc2_w i, 3)) (hc : Jvm.Cond.constantLong own i v ∈ lw_good) (k : Ev sc wr own cc ret dp (pc + 3) L (.long v :: st) M o) : Ev sc wr own cc ret dp pc L st M o := by
  intro b hb p l e R s m args below meth c H locs cells slots Q D tI tZ tG ad A ls hF hP hS hl hX
  exact lv_ldc2 hF.1 hF.2.1 hF.2.2.2.1 (hF.2.2.2.2.1 _ hc) hd (k b hb p l e R s m args below meth c H locs cells slots Q D tI tZ tG ad A ls hF hP hS hl hX)
theorem e_idiv {x y : Int32} (hd : decode cc pc = .ok (.idiv, 1)) (k : Ev sc wr own cc ret dp (pc + 1) L (.int (x / y) :: st) M o) : Ev sc wr own cc ret dp pc L (.int y :: .int x :: st) M (if y = 0 then none else o) := by
  intro b hb p l e R s m args below meth c H locs cells slots Q D tI tZ tG ad A ls hF hP hS hl hX
  by_cases h0 : y = 0
  · rw [if_pos h0] at hb; cases hb
  · rw [if_neg h0] at hb
    exact lv_idiv hF.1 hF.2.1 hd h0 (k b hb p l e R s m args below meth c H locs cells slots Q D tI tZ tG ad A ls hF hP hS hl hX)
theorem e_idiv' {x y : Int32} (hd : decode cc pc = .ok (.idiv, 1)) (h0 : ¬ y = 0) (k : Ev sc wr own cc ret dp (pc + 1) L (.int (x / y) :: st) M o) : Ev sc wr own cc ret dp pc L (.int y :: .int x :: st) M o := by
  intro b hb p l e R s m args below meth c H locs cells slots Q D tI tZ tG ad A ls hF hP hS hl hX
  exact lv_idiv hF.1 hF.2.1 hd h0 (k b hb p l e R s m args below meth c H locs cells slots Q D tI tZ tG ad A ls hF hP hS hl hX)
theorem e_irem {x y : Int32} (hd : decode cc pc = .ok (.irem, 1)) (k : Ev sc wr own cc ret dp (pc + 1) L (.int (x - x / y * y) :: st) M o) : Ev sc wr own cc ret dp pc L (.int y :: .int x :: st) M (if y = 0 then none else o) := by
  intro b hb p l e R s m args below meth c H locs cells slots Q D tI tZ tG ad A ls hF hP hS hl hX
  by_cases h0 : y = 0
  · rw [if_pos h0] at hb; cases hb
  · rw [if_neg h0] at hb
    exact lv_irem hF.1 hF.2.1 hd h0 (k b hb p l e R s m args below meth c H locs cells slots Q D tI tZ tG ad A ls hF hP hS hl hX)
theorem e_irem' {x y : Int32} (hd : decode cc pc = .ok (.irem, 1)) (h0 : ¬ y = 0) (k : Ev sc wr own cc ret dp (pc + 1) L (.int (x - x / y * y) :: st) M o) : Ev sc wr own cc ret dp pc L (.int y :: .int x :: st) M o := by
  intro b hb p l e R s m args below meth c H locs cells slots Q D tI tZ tG ad A ls hF hP hS hl hX
  exact lv_irem hF.1 hF.2.1 hd h0 (k b hb p l e R s m args below meth c H locs cells slots Q D tI tZ tG ad A ls hF hP hS hl hX)
theorem e_ldiv {x y : Int64} (hd : decode cc pc = .ok (.ldiv, 1)) (k : Ev sc wr own cc ret dp (pc + 1) L (.long (x / y) :: st) M o) : Ev sc wr own cc ret dp pc L (.long y :: .long x :: st) M (if y = 0 then none else o) := by
  intro b hb p l e R s m args below meth c H locs cells slots Q D tI tZ tG ad A ls hF hP hS hl hX
  by_cases h0 : y = 0
  · rw [if_pos h0] at hb; cases hb
  · rw [if_neg h0] at hb
    exact lv_ldiv hF.1 hF.2.1 hd h0 (k b hb p l e R s m args below meth c H locs cells slots Q D tI tZ tG ad A ls hF hP hS hl hX)
theorem e_ldiv' {x y : Int64} (hd : decode cc pc = .ok (.ldiv, 1)) (h0 : ¬ y = 0) (k : Ev sc wr own cc ret dp (pc + 1) L (.long (x / y) :: st) M o) : Ev sc wr own cc ret dp pc L (.long y :: .long x :: st) M o := by
  intro b hb p l e R s m args below meth c H locs cells slots Q D tI tZ tG ad A ls hF hP hS hl hX
  exact lv_ldiv hF.1 hF.2.1 hd h0 (k b hb p l e R s m args below meth c H locs cells slots Q D tI tZ tG ad A ls hF hP hS hl hX)
theorem e_lrem {x y : Int64} (hd : decode cc pc = .ok (.lrem, 1)) (k : Ev sc wr own cc ret dp (pc + 1) L (.long (x - x / y * y) :: st) M o) : Ev sc wr own cc ret dp pc L (.long y :: .long x :: st) M (if y = 0 then none else o) := by
  intro b hb p l e R s m args below meth c H locs cells slots Q D tI tZ tG ad A ls hF hP hS hl hX
  by_cases h0 : y = 0
  · rw [if_pos h0] at hb; cases hb
  · rw [if_neg h0] at hb
    exact lv_lrem hF.1 hF.2.1 hd h0 (k b hb p l e R s m args below meth c H locs cells slots Q D tI tZ tG ad A ls hF hP hS hl hX)
theorem e_lrem' {x y : Int64} (hd : decode cc pc = .ok (.lrem, 1)) (h0 : ¬ y = 0) (k : Ev sc wr own cc ret dp (pc + 1) L (.long (x - x / y * y) :: st) M o) : Ev sc wr own cc ret dp pc L (.long y :: .long x :: st) M o := by
  intro b hb p l e R s m args below meth c H locs cells slots Q D tI tZ tG ad A ls hF hP hS hl hX
  exact lv_lrem hF.1 hF.2.1 hd h0 (k b hb p l e R s m args below meth c H locs cells slots Q D tI tZ tG ad A ls hF hP hS hl hX)
theorem e_dup {v : Value} (hd : decode cc pc = .ok (.dup, 1)) (hv : v.category = 1) (k : Ev sc wr own cc ret dp (pc + 1) L (v :: v :: st) M o) : Ev sc wr own cc ret dp pc L (v :: st) M o := by
  intro b hb p l e R s m args below meth c H locs cells slots Q D tI tZ tG ad A ls hF hP hS hl hX
  exact lv_dup hF.1 hF.2.1 hd ((cv_cat ad v).trans hv) (k b hb p l e R s m args below meth c H locs cells slots Q D tI tZ tG ad A ls hF hP hS hl hX)
theorem e_dup2 {v u : Value} (hd : decode cc pc = .ok (.dup2, 1)) (hv : v.category = 1) (hu : u.category = 1) (k : Ev sc wr own cc ret dp (pc + 1) L (v :: u :: v :: u :: st) M o) : Ev sc wr own cc ret dp pc L (v :: u :: st) M o := by
  intro b hb p l e R s m args below meth c H locs cells slots Q D tI tZ tG ad A ls hF hP hS hl hX
  exact lv_dup2_11 hF.1 hF.2.1 hd ((cv_cat ad v).trans hv) ((cv_cat ad u).trans hu) (k b hb p l e R s m args below meth c H locs cells slots Q D tI tZ tG ad A ls hF hP hS hl hX)
theorem e_goto {off : Int} (tgt : Nat) (hd : decode cc pc = .ok (.goto off, 3)) (ht : (pc : Int) + off = (tgt : Int)) (k : Ev sc wr own cc ret dp tgt L st M o) : Ev sc wr own cc ret dp pc L st M o := by
  intro b hb p l e R s m args below meth c H locs cells slots Q D tI tZ tG ad A ls hF hP hS hl hX
  exact lv_goto hF.1 hF.2.1 hd ht (k b hb p l e R s m args below meth c H locs cells slots Q D tI tZ tG ad A ls hF hP hS hl hX)
theorem e_if_eq {x : Int32} {off : Int} (tgt : Nat) (hd : decode cc pc = .ok (.ifCond .eq off, 3)) (ht : (pc : Int) + off = (tgt : Int)) (k1 : x = 0 → Ev sc wr own cc ret dp tgt L st M o1) (k2 : ¬ x = 0 → Ev sc wr own cc ret dp (pc + 3) L st M o2) : Ev sc wr own cc ret dp pc L (.int x :: st) M (if x = 0 then o1 else o2) := by
  intro b hb p l e R s m args below meth c H locs cells slots Q D tI tZ tG ad A ls hF hP hS hl hX
  refine lv_if_eq hF.1 hF.2.1 hd ht (fun h => ?_) (fun h => ?_)
  · rw [if_pos h] at hb
    exact k1 h b hb p l e R s m args below meth c H locs cells slots Q D tI tZ tG ad A ls hF hP hS hl hX
  · rw [if_neg h] at hb
    exact k2 h b hb p l e R s m args below meth c H locs cells slots Q D tI tZ tG ad A ls hF hP hS hl hX
theorem e_icmp_eq {x y : Int32} {off : Int} (tgt : Nat) (hd : decode cc pc = .ok (.if_icmp .eq off, 3)) (ht : (pc : Int) + off = (tgt : Int)) (k1 : x = y → Ev sc wr own cc ret dp tgt L st M o1) (k2 : ¬ x = y → Ev sc wr own cc ret dp (pc + 3) L st M o2) : Ev sc wr own cc ret dp pc L (.int y :: .int x :: st) M (if x = y then o1 else o2) := by
  intro b hb p l e R s m args below meth c H locs cells slots Q D tI tZ tG ad A ls hF hP hS hl hX
  refine lv_icmp_eq hF.1 hF.2.1 hd ht (fun h => ?_) (fun h => ?_)
  · rw [if_pos h] at hb
    exact k1 h b hb p l e R s m args below meth c H locs cells slots Q D tI tZ tG ad A ls hF hP hS hl hX
  · rw [if_neg h] at hb
    exact k2 h b hb p l e R s m args below meth c H locs cells slots Q D tI tZ tG ad A ls hF hP hS hl hX
theorem e_if_ne {x : Int32} {off : Int} (tgt : Nat) (hd : decode cc pc = .ok (.ifCond .ne off, 3)) (ht : (pc : Int) + off = (tgt : Int)) (k1 : x = 0 → Ev sc wr own cc ret dp (pc + 3) L st M o1) (k2 : ¬ x = 0 → Ev sc wr own cc ret dp tgt L st M o2) : Ev sc wr own cc ret dp pc L (.int x :: st) M (if x = 0 then o1 else o2) := by
  intro b hb p l e R s m args below meth c H locs cells slots Q D tI tZ tG ad A ls hF hP hS hl hX
  refine lv_if_ne hF.1 hF.2.1 hd ht (fun h => ?_) (fun h => ?_)
  · rw [if_neg h] at hb
    exact k2 h b hb p l e R s m args below meth c H locs cells slots Q D tI tZ tG ad A ls hF hP hS hl hX
  · rw [if_pos h] at hb
    exact k1 h b hb p l e R s m args below meth c H locs cells slots Q D tI tZ tG ad A ls hF hP hS hl hX
theorem e_icmp_ne {x y : Int32} {off : Int} (tgt : Nat) (hd : decode cc pc = .ok (.if_icmp .ne off, 3)) (ht : (pc : Int) + off = (tgt : Int)) (k1 : x = y → Ev sc wr own cc ret dp (pc + 3) L st M o1) (k2 : ¬ x = y → Ev sc wr own cc ret dp tgt L st M o2) : Ev sc wr own cc ret dp pc L (.int y :: .int x :: st) M (if x = y then o1 else o2) := by
  intro b hb p l e R s m args below meth c H locs cells slots Q D tI tZ tG ad A ls hF hP hS hl hX
  refine lv_icmp_ne hF.1 hF.2.1 hd ht (fun h => ?_) (fun h => ?_)
  · rw [if_neg h] at hb
    exact k2 h b hb p l e R s m args below meth c H locs cells slots Q D tI tZ tG ad A ls hF hP hS hl hX
  · rw [if_pos h] at hb
    exact k1 h b hb p l e R s m args below meth c H locs cells slots Q D tI tZ tG ad A ls hF hP hS hl hX
theorem e_if_lt {x : Int32} {off : Int} (tgt : Nat) (hd : decode cc pc = .ok (.ifCond .lt off, 3)) (ht : (pc : Int) + off = (tgt : Int)) (k1 : x < 0 → Ev sc wr own cc ret dp tgt L st M o1) (k2 : ¬ x < 0 → Ev sc wr own cc ret dp (pc + 3) L st M o2) : Ev sc wr own cc ret dp pc L (.int x :: st) M (if x < 0 then o1 else o2) := by
  intro b hb p l e R s m args below meth c H locs cells slots Q D tI tZ tG ad A ls hF hP hS hl hX
  refine lv_if_lt hF.1 hF.2.1 hd ht (fun h => ?_) (fun h => ?_)
  · rw [if_pos h] at hb
    exact k1 h b hb p l e R s m args below meth c H locs cells slots Q D tI tZ tG ad A ls hF hP hS hl hX
  · rw [if_neg h] at hb
    exact k2 h b hb p l e R s m args below meth c H locs cells slots Q D tI tZ tG ad A ls hF hP hS hl hX
theorem e_icmp_lt {x y : Int32} {off : Int} (tgt : Nat) (hd : decode cc pc = .ok (.if_icmp .lt off, 3)) (ht : (pc : Int) + off = (tgt : Int)) (k1 : x < y → Ev sc wr own cc ret dp tgt L st M o1) (k2 : ¬ x < y → Ev sc wr own cc ret dp (pc + 3) L st M o2) : Ev sc wr own cc ret dp pc L (.int y :: .int x :: st) M (if x < y then o1 else o2) := by
  intro b hb p l e R s m args below meth c H locs cells slots Q D tI tZ tG ad A ls hF hP hS hl hX
  refine lv_icmp_lt hF.1 hF.2.1 hd ht (fun h => ?_) (fun h => ?_)
  · rw [if_pos h] at hb
    exact k1 h b hb p l e R s m args below meth c H locs cells slots Q D tI tZ tG ad A ls hF hP hS hl hX
  · rw [if_neg h] at hb
    exact k2 h b hb p l e R s m args below meth c H locs cells slots Q D tI tZ tG ad A ls hF hP hS hl hX
theorem e_if_ge {x : Int32} {off : Int} (tgt : Nat) (hd : decode cc pc = .ok (.ifCond .ge off, 3)) (ht : (pc : Int) + off = (tgt : Int)) (k1 : 0 ≤ x → Ev sc wr own cc ret dp tgt L st M o1) (k2 : ¬ 0 ≤ x → Ev sc wr own cc ret dp (pc + 3) L st M o2) : Ev sc wr own cc ret dp pc L (.int x :: st) M (if 0 ≤ x then o1 else o2) := by
  intro b hb p l e R s m args below meth c H locs cells slots Q D tI tZ tG ad A ls hF hP hS hl hX
  refine lv_if_ge hF.1 hF.2.1 hd ht (fun h => ?_) (fun h => ?_)
  · rw [if_pos h] at hb
    exact k1 h b hb p l e R s m args below meth c H locs cells slots Q D tI tZ tG ad A ls hF hP hS hl hX
  · rw [if_neg h] at hb
    exact k2 h b hb p l e R s m args below meth c H locs cells slots Q D tI tZ tG ad A ls hF hP hS hl hX
theorem e_icmp_ge {x y : Int32} {off : Int} (tgt : Nat) (hd : decode cc pc = .ok (.if_icmp .ge off, 3)) (ht : (pc : Int) + off = (tgt : Int)) (k1 : y ≤ x → Ev sc wr own cc ret dp tgt L st M o1) (k2 : ¬ y ≤ x → Ev sc wr own cc ret dp (pc + 3) L st M o2) : Ev sc wr own cc ret dp pc L (.int y :: .int x :: st) M (if y ≤ x then o1 else o2) := by
  intro b hb p l e R s m args below meth c H locs cells slots Q D tI tZ tG ad A ls hF hP hS hl hX
  refine lv_icmp_ge hF.1 hF.2.1 hd ht (fun h => ?_) (fun h => ?_)
  · rw [if_pos h] at hb
    exact k1 h b hb p l e R s m args below meth c H locs cells slots Q D tI tZ tG ad A ls hF hP hS hl hX
  · rw [if_neg h] at hb
    exact k2 h b hb p l e R s m args below meth c H locs cells slots Q D tI tZ tG ad A ls hF hP hS hl hX
theorem e_if_gt {x : Int32} {off : Int} (tgt : Nat) (hd : decode cc pc = .ok (.ifCond .gt off, 3)) (ht : (pc : Int) + off = (tgt : Int)) (k1 : 0 < x → Ev sc wr own cc ret dp tgt L st M o1) (k2 : ¬ 0 < x → Ev sc wr own cc ret dp (pc + 3) L st M o2) : Ev sc wr own cc ret dp pc L (.int x :: st) M (if 0 < x then o1 else o2) := by
  intro b hb p l e R s m args below meth c H locs cells slots Q D tI tZ tG ad A ls hF hP hS hl hX
  refine lv_if_gt hF.1 hF.2.1 hd ht (fun h => ?_) (fun h => ?_)
  · rw [if_pos h] at hb
    exact k1 h b hb p l e R s m args below meth c H locs cells slots Q D tI tZ tG ad A ls hF hP hS hl hX
  · rw [if_neg h] at hb
    exact k2 h b hb p l e R s m args below meth c H locs cells slots Q D tI tZ tG ad A ls hF hP hS hl hX
theorem e_icmp_gt {x y : Int32} {off : Int} (tgt : Nat) (hd : decode cc pc = .ok (.if_icmp .gt off, 3)) (ht : (pc : Int) + off = (tgt : Int)) (k1 : y < x → Ev sc wr own cc ret dp tgt L st M o1) (k2 : ¬ y < x → Ev sc wr own cc ret dp (pc + 3) L st M o2) : Ev sc wr own cc ret dp pc L (.int y :: .int x :: st) M (if y < x then o1 else o2) := by
  intro b hb p l e R s m args below meth c H locs cells slots Q D tI tZ tG ad A ls hF hP hS hl hX
  refine lv_icmp_gt hF.1 hF.2.1 hd ht (fun h => ?_) (fun h => ?_)
  · rw [if_pos h] at hb
    exact k1 h b hb p l e R s m args below meth c H locs cells slots Q D tI tZ tG ad A ls hF hP hS hl hX
  · rw [if_neg h] at hb
    exact k2 h b hb p l e R s m args below meth c H locs cells slots Q D tI tZ tG ad A ls hF hP hS hl hX
theorem e_if_le {x : Int32} {off : Int} (tgt : Nat) (hd : decode cc pc = .ok (.ifCond .le off, 3)) (ht : (pc : Int) + off = (tgt : Int)) (k1 : x ≤ 0 → Ev sc wr own cc ret dp tgt L st M o1) (k2 : ¬ x ≤ 0 → Ev sc wr own cc ret dp (pc + 3) L st M o2) : Ev sc wr own cc ret dp pc L (.int x :: st) M (if x ≤ 0 then o1 else o2) := by
  intro b hb p l e R s m args below meth c H locs cells slots Q D tI tZ tG ad A ls hF hP hS hl hX
  refine lv_if_le hF.1 hF.2.1 hd ht (fun h => ?_) (fun h => ?_)
  · rw [if_pos h] at hb
    exact k1 h b hb p l e R s m args below meth c H locs cells slots Q D tI tZ tG ad A ls hF hP hS hl hX
  · rw [if_neg h] at hb
    exact k2 h b hb p l e R s m args below meth c H locs cells slots Q D tI tZ tG ad A ls hF hP hS hl hX
theorem e_icmp_le {x y : Int32} {off : Int} (tgt : Nat) (hd : decode cc pc = .ok (.if_icmp .le off, 3)) (ht : (pc : Int) + off = (tgt : Int)) (k1 : x ≤ y → Ev sc wr own cc ret dp tgt L st M o1) (k2 : ¬ x ≤ y → Ev sc wr own cc ret dp (pc + 3) L st M o2) : Ev sc wr own cc ret dp pc L (.int y :: .int x :: st) M (if x ≤ y then o1 else o2) := by
  intro b hb p l e R s m args below meth c H locs cells slots Q D tI tZ tG ad A ls hF hP hS hl hX
  refine lv_icmp_le hF.1 hF.2.1 hd ht (fun h => ?_) (fun h => ?_)
  · rw [if_pos h] at hb
    exact k1 h b hb p l e R s m args below meth c H locs cells slots Q D tI tZ tG ad A ls hF hP hS hl hX
  · rw [if_neg h] at hb
    exact k2 h b hb p l e R s m args below meth c H locs cells slots Q D tI tZ tG ad A ls hF hP hS hl hX
theorem e_istore_n {k0 : Fin 4} {x : Int32} (L' : List (Option Value)) (hd : decode cc pc = .ok (.istore_n k0, 1)) (hi : Nat.ble ((k0 : Nat) + 1) L.length = true) (hn : noL2 L (k0 : Nat) = true) (hL : L.set (k0 : Nat) (some (.int x)) = L') (k : Ev sc wr own cc ret dp (pc + 1) L' st M o) : Ev sc wr own cc ret dp pc L (.int x :: st) M o := by
  subst hL
  have hi := Nat.le_of_ble_eq_true hi
  intro b hb p l e R s m args below meth c H locs cells slots Q D tI tZ tG ad A ls hF hP hS hl hX
  exact lv_istore_n hF.1 hF.2.1 hd rfl hl.has hi rfl (fun ls' hl' => (k b hb p l e R s m args below meth c H locs cells slots Q D tI tZ tG ad A ls' (by rw [List.length_set]; exact hF) hP hS (lh_store (x := .int x) hi hn hl') hX))
theorem e_istore {i : Nat} {x : Int32} (L' : List (Option Value)) (hd : decode cc pc = .ok (.istore i, 2)) (hi : Nat.ble (i + 1) L.length = true) (hn : noL2 L i = true) (hL : L.set i (some (.int x)) = L') (k : Ev sc wr own cc ret dp (pc + 2) L' st M o) : Ev sc wr own cc ret dp pc L (.int x :: st) M o := by
  subst hL
  have hi := Nat.le_of_ble_eq_true hi
  intro b hb p l e R s m args below meth c H locs cells slots Q D tI tZ tG ad A ls hF hP hS hl hX
  exact lv_istore hF.1 hF.2.1 hd hl.has hi rfl (fun ls' hl' => (k b hb p l e R s m args below meth c H locs cells slots Q D tI tZ tG ad A ls' (by rw [List.length_set]; exact hF) hP hS (lh_store (x := .int x) hi hn hl') hX))
theorem e_lstore_n {k0 : Fin 4} {x : Int64} (L' : List (Option Value)) (hd : decode cc pc = .ok (.lstore_n k0, 1)) (hi : Nat.ble ((k0 : Nat) + 2) L.length = true) (hn : noL2 L (k0 : Nat) = true) (hL : (L.set (k0 : Nat) (some (.long x))).set ((k0 : Nat) + 1) none = L') (k : Ev sc wr own cc ret dp (pc + 1) L' st M o) : Ev sc wr own cc ret dp pc L (.long x :: st) M o := by
  subst hL
  have hi := Nat.le_of_ble_eq_true hi
  intro b hb p l e R s m args below meth c H locs cells slots Q D tI tZ tG ad A ls hF hP hS hl hX
  exact lv_lstore_n hF.1 hF.2.1 hd rfl hl.has hi rfl (fun ls' hl' => (k b hb p l e R s m args below meth c H locs cells slots Q D tI tZ tG ad A ls' (by rw [List.length_set, List.length_set]; exact hF) hP hS (lh_store2 (x := .long x) (by omega) hn hl') hX))
theorem e_lstore {i : Nat} {x : Int64} (L' : List (Option Value)) (hd : decode cc pc = .ok (.lstore i, 2)) (hi : Nat.ble (i + 2) L.length = true) (hn : noL2 L i = true) (hL : (L.set i (some (.long x))).set (i + 1) none = L') (k : Ev sc wr own cc ret dp (pc + 2) L' st M o) : Ev sc wr own cc ret dp pc L (.long x :: st) M o := by
  subst hL
  have hi := Nat.le_of_ble_eq_true hi
  intro b hb p l e R s m args below meth c H locs cells slots Q D tI tZ tG ad A ls hF hP hS hl hX
  exact lv_lstore hF.1 hF.2.1 hd hl.has hi rfl (fun ls' hl' => (k b hb p l e R s m args below meth c H locs cells slots Q D tI tZ tG ad A ls' (by rw [List.length_set, List.length_set]; exact hF) hP hS (lh_store2 (x := .long x) (by omega) hn hl') hX))
theorem e_iinc {i : Nat} {n : Int} {x : Int32} (L' : List (Option Value)) (hd : decode cc pc = .ok (.iinc i n, 3)) (hx : L[i]? = some (some (.int x))) (hi : Nat.ble (i + 1) L.length = true) (hn : noL2 L i = true) (hL : L.set i (some (.int (x + Int32.ofInt n))) = L') (k : Ev sc wr own cc ret dp (pc + 3) L' st M o) : Ev sc wr own cc ret dp pc L st M o := by
  subst hL
  have hi := Nat.le_of_ble_eq_true hi
  intro b hb p l e R s m args below meth c H locs cells slots Q D tI tZ tG ad A ls hF hP hS hl hX
  obtain ⟨j, hj⟩ := List.getElem?_of_mem (asc_mem (ad := ad) (q := (i, .int x)) |>.mpr ⟨.int x, hx, rfl⟩)
  exact lv_iinc hF.1 hF.2.1 hd hl.has hj rfl hi rfl (fun ls' hl' => (k b hb p l e R s m args below meth c H locs cells slots Q D tI tZ tG ad A ls' (by rw [List.length_set]; exact hF) hP hS (lh_store (x := .int (x + Int32.ofInt n)) hi hn hl') hX))
theorem e_lookup {dflt : Int} {ps : Array (Int × Int)} {len : Nat} {x : Int32} {off : Int} (tgt : Nat) (hd : decode cc pc = .ok (.lookupswitch dflt ps, len)) (hp : (ps.toList.zip (ps.toList.drop 1)).all (fun (a, next) => a.1 < next.1) = true) (ho : Op.lookupswitch.offset ps.toList dflt x.toInt = off) (ht : (pc : Int) + off = (tgt : Int)) (k : Ev sc wr own cc ret dp tgt L st M o) : Ev sc wr own cc ret dp pc L (.int x :: st) M o := by
  intro b hb p l e R s m args below meth c H locs cells slots Q D tI tZ tG ad A ls hF hP hS hl hX
  exact lv_lookup hF.1 hF.2.1 hd hp ho ht (k b hb p l e R s m args below meth c H locs cells slots Q D tI tZ tG ad A ls hF hP hS hl hX)
theorem e_tableOut {dflt lo hi : Int} {offs : Array Int} {len : Nat} {x : Int32} (tgt : Nat) (hd : decode cc pc = .ok (.tableswitch dflt lo hi offs, len)) (h : x.toInt < lo ∨ hi < x.toInt) (ht : (pc : Int) + dflt = (tgt : Int)) (k : Ev sc wr own cc ret dp tgt L st M o) : Ev sc wr own cc ret dp pc L (.int x :: st) M o := by
  intro b hb p l e R s m args below meth c H locs cells slots Q D tI tZ tG ad A ls hF hP hS hl hX
  exact lv_tableOut hF.1 hF.2.1 hd h ht (k b hb p l e R s m args below meth c H locs cells slots Q D tI tZ tG ad A ls hF hP hS hl hX)
theorem e_tableIn {dflt lo hi : Int} {offs : Array Int} {len : Nat} {x : Int32} {off : Int} (tgt : Nat) (hd : decode cc pc = .ok (.tableswitch dflt lo hi offs, len)) (h1 : ¬ x.toInt < lo) (h2 : ¬ hi < x.toInt) (ho : offs[(x.toInt - lo).toNat]? = some off) (ht : (pc : Int) + off = (tgt : Int)) (k : Ev sc wr own cc ret dp tgt L st M o) : Ev sc wr own cc ret dp pc L (.int x :: st) M o := by
  intro b hb p l e R s m args below meth c H locs cells slots Q D tI tZ tG ad A ls hF hP hS hl hX
  exact lv_tableIn hF.1 hF.2.1 hd h1 h2 ho ht (k b hb p l e R s m args below meth c H locs cells slots Q D tI tZ tG ad A ls hF hP hS hl hX)
theorem e_split {cnd : Prop} {dc : Decidable cnd} (k1 : cnd → Ev sc wr own cc ret dp pc L st M o1) (k2 : ¬ cnd → Ev sc wr own cc ret dp pc L st M o2) : Ev sc wr own cc ret dp pc L st M (if cnd then o1 else o2) := by
  by_cases h : cnd
  · rw [if_pos h]; exact k1 h
  · rw [if_neg h]; exact k2 h
theorem e_iret {x : Int32} {ty : FieldType} {b0 : α} (hd : decode cc pc = .ok (.ireturn, 1)) (hr : ret = some ty) (hn : narrow ty (.int x) = .int x) (hw : wr b0 = (some (.int x), M)) : Ev sc wr own cc ret dp pc L [.int x] M (some b0) := by
  intro b hb p l e R s m args below meth c H locs cells slots Q D tI tZ tG ad A ls hF hP hS hl hX
  cases hb
  rw [hw] at hX
  exact hX H locs ls pc (Or.inr (Or.inr ⟨ty, x, hr, rfl, hn⟩)) hP hS hd
theorem e_zret {x : Int32} {b0 : α} (hd : decode cc pc = .ok (.ireturn, 1)) (hr : ret = some .boolean) (hw : wr b0 = (some (.int x), M)) : Ev sc wr own cc ret dp pc L [.int x] M (if x = 0 ∨ x = 1 then some b0 else none) := by
  by_cases h : x = 0 ∨ x = 1
  · rw [if_pos h]
    exact e_iret hd hr (by rcases h with rfl | rfl <;> rfl) hw
  · rw [if_neg h]; exact e_none
theorem e_lret {x : Int64} {b0 : α} (hd : decode cc pc = .ok (.lreturn, 1)) (hr : ret = some .long) (hw : wr b0 = (some (.long x), M)) : Ev sc wr own cc ret dp pc L [.long x] M (some b0) := by
  intro b hb p l e R s m args below meth c H locs cells slots Q D tI tZ tG ad A ls hF hP hS hl hX
  cases hb
  rw [hw] at hX
  exact hX H locs ls pc (Or.inr (Or.inl ⟨x, hr, rfl⟩)) hP hS hd
theorem e_vret {b0 : α} (hd : decode cc pc = .ok (.return_, 1)) (hr : ret = none) (hw : wr b0 = (none, M)) : Ev sc wr own cc ret dp pc L [] M (some b0) := by
  intro b hb p l e R s m args below meth c H locs cells slots Q D tI tZ tG ad A ls hF hP hS hl hX
  cases hb
  rw [hw] at hX
  exact hX H locs ls pc (Or.inl ⟨hr, rfl⟩) hP hS hd
end Rules
