def R_law : String := "DoubtCatcherLaw"
def lw_P (b : Addr) (xs : List Int32) (args : Array Value) (s : State) : Prop := args = #[.ref b] ∧ s.IntsAt b xs ∧ xs.length ≤ 384 ∧ (Jvm.Cond.and given_1 narrow_1).before args s = true
def lw_Q (_ : Array Value) (s : State) (o : Outcome) (t : State) : Prop := o = .returned (some (.int 1)) ∧ Framed s o t [] 600000 7302250
def lw_Z (below : List Frame) (a : Array Value) (s : State) : State → Prop := fun t => ∃ o, t.status = .running ∧ Ended t below o ∧ lw_Q a s o t
/-- the law's own end, with 1 on the stack, nothing written that was there before, its room as the claim has it -/
theorem lw_ret {p : Program} {l : Launch} {e : Env} {s : State} {m : MethodId} {below : List Frame} {meth : Method} {c : Code} {b : Nat} (hx : p.tables.exec = Jvm.exec) (hb : c.code = code) (hr : meth.sig.returnType = ret) (hlocks : meth.locks = false) {pc : Nat} {H : Heap} {ls : Array Slot} (hdg : decode code pc = .ok (.ireturn, 1)) : W p l e room_1 s m #[Value.ref b] below meth c H [] 600000 7302250 (lw_Z below #[Value.ref b] s) (F0 m pc ls [.int 1]) := by
  intro T hT X
  obtain ⟨fs, hret, hrun, hended, hW, hframe⟩ := X.leave (v := some (.int 1)) (hlocks := hlocks) (fun h => by rw [hr] at h; cases h)
  have hmeth' : T.vm.method? m = some meth := X.method'
  refine ⟨T.setFrames fs, ?_, .returned (some (.int 1)), hrun, hended, rfl, ⟨_, rfl⟩, hW, hframe⟩
  jvm_step X.here [X.here.top, hx, hb, hdg, hmeth', hr, ret, narrow_b1]
  (try refine ⟨rfl, ?_⟩); (try refine ⟨rfl, ?_⟩)
  first | (intro acts; rw [hret _ acts rfl rfl rfl]) | rw [hret _ _ rfl rfl rfl]
  exact Steps.refl _
/-- what holds at the law's entry: the machine, the code, the tables' words (any of lw_tbl by 'hts w (by decide +kernel)'), the script of L ints xs at the cell b, what the Statement gives of the start (any of its parts by flat_of_before) -/
def lw_At (p : Program) (s : State) (m : MethodId) (meth : Method) (c : Code) (b L : Nat) (xs : Nat → Int32) : Prop :=
  p.tables.exec = Jvm.exec ∧ c.code = code ∧ meth.sig.returnType = ret ∧ c.maxLocals = 4 ∧ s.vm.findClass R_law = some m.cls ∧ (∀ w ∈ lw_tbl, w.before #[Value.ref b] s = true) ∧ va_X b L xs s s.heap ∧ b < s.heap.size ∧ meth.locks = false ∧ (Jvm.Cond.and given_1 narrow_1).before #[Value.ref b] s = true
theorem known {args : Array Value} {s : State} (hg : ∀ w ∈ lw_good, w.before args s = true) : ∃ D : va_G, ∀ (k : Nat) (q : vw_C), vwCl[k]? = some q → u_Kn s q.1 q.2.1 q.2.2 (D.1 k) (D.2 k) := by
  have hk : ∀ k : Nat, ∃ (c : ClassId) (iS : Nat → Nat), ∀ q, vwCl[k]? = some q → u_Kn s q.1 q.2.1 q.2.2 c iS := by
    intro k
    match k with
    | 0 =>
      obtain ⟨c, iS, h⟩ := u_known (C := RX0) (T := TX0) (N := 3) (n := 3) hg ci_X0.2.1 (hg _ bw_ins_X0)
      exact ⟨c, iS, fun q hq => by cases hq; exact h⟩
    | 1 =>
      obtain ⟨c, iS, h⟩ := u_known (C := RX1) (T := TX1) (N := 6) (n := 6) hg ci_X1.2.1 (hg _ bw_ins_X1)
      exact ⟨c, iS, fun q hq => by cases hq; exact h⟩
    | 2 =>
      obtain ⟨c, iS, h⟩ := u_known (C := RX2) (T := TX2) (N := 4) (n := 4) hg ci_X2.2.1 (hg _ bw_ins_X2)
      exact ⟨c, iS, fun q hq => by cases hq; exact h⟩
    | 3 =>
      obtain ⟨c, iS, h⟩ := u_known (C := RX3) (T := TX3) (N := 5) (n := 5) hg ci_X3.2.1 (hg _ bw_ins_X3)
      exact ⟨c, iS, fun q hq => by cases hq; exact h⟩
    | 4 =>
      obtain ⟨c, iS, h⟩ := u_known (C := RX4) (T := TX4) (N := 3) (n := 3) hg ci_X4.2.1 (hg _ bw_ins_X4)
      exact ⟨c, iS, fun q hq => by cases hq; exact h⟩
    | 5 =>
      obtain ⟨c, iS, h⟩ := u_known (C := RX5) (T := TX5) (N := 2) (n := 2) hg ci_X5.2.1 (hg _ bw_ins_X5)
      exact ⟨c, iS, fun q hq => by cases hq; exact h⟩
    | 6 =>
      obtain ⟨c, iS, h⟩ := u_known (C := RX6) (T := TX6) (N := 3) (n := 3) hg ci_X6.2.1 (hg _ bw_ins_X6)
      exact ⟨c, iS, fun q hq => by cases hq; exact h⟩
    | 7 =>
      obtain ⟨c, iS, h⟩ := u_known (C := RX7) (T := TX7) (N := 5) (n := 5) hg ci_X7.2.1 (hg _ bw_ins_X7)
      exact ⟨c, iS, fun q hq => by cases hq; exact h⟩
    | 8 =>
      obtain ⟨c, iS, h⟩ := u_known (C := RX8) (T := TX8) (N := 9) (n := 9) hg ci_X8.2.1 (hg _ bw_ins_X8)
      exact ⟨c, iS, fun q hq => by cases hq; exact h⟩
    | 9 =>
      obtain ⟨c, iS, h⟩ := u_known (C := RX9) (T := TX9) (N := 10) (n := 10) hg ci_X9.2.1 (hg _ bw_ins_X9)
      exact ⟨c, iS, fun q hq => by cases hq; exact h⟩
    | 10 =>
      obtain ⟨c, iS, h⟩ := u_known (C := RX10) (T := TX10) (N := 34) (n := 34) hg ci_X10.2.1 (hg _ bw_ins_X10)
      exact ⟨c, iS, fun q hq => by cases hq; exact h⟩
    | k + 11 =>
      obtain ⟨c, iS, h⟩ := u_known (C := RX0) (T := TX0) (N := 3) (n := 3) hg ci_X0.2.1 (hg _ bw_ins_X0)
      exact ⟨c, iS, fun q hq => by simp [vwCl] at hq⟩
  refine ⟨(fun k => (hk k).choose, fun k => (hk k).choose_spec.choose), fun k q hq => ?_⟩
  exact (hk k).choose_spec.choose_spec q hq
theorem arr_ids {args : Array Value} {s : State} (hg : ∀ w ∈ lw_good, w.before args s = true) (hO : va_AO RX4 s) : ∃ tI tZ tG : ClassId, ∀ (k : Nat) (q : ClassId × FieldType), ([(tI, .int), (tZ, .boolean), (tG, .object RX4)] : List (ClassId × FieldType))[k]? = some q → ArrOfT s q.1 q.2 ∧ va_RA s q.1 q.2 := by
  obtain ⟨tI, kI, cI, i1, i2, i3⟩ := Cond.arrayClass_spec (hg _ bw_aI)
  obtain ⟨tZ, kZ, cZ, z1, z2, z3⟩ := Cond.arrayClass_spec (hg _ bw_aZ)
  obtain ⟨cG, tG, kG, g1, -, g2, g3, g4⟩ := Cond.arrayOver_spec hO
  refine ⟨tI, tZ, tG, fun k q hq => ?_⟩
  match k, hq with
  | 0, hq => cases hq; exact ⟨fun n z => ⟨fun k h => (by cases h), kI, i2, cI, i3⟩, i1⟩
  | 1, hq => cases hq; exact ⟨fun n z => ⟨fun k h => (by cases h), kZ, z2, cZ, z3⟩, z1⟩
  | 2, hq => cases hq; exact ⟨fun n z => ⟨fun k h => (by cases h), kG, g2, cG, g3⟩, ⟨kG, cG, g2, g3, g1, g4⟩⟩
theorem tens_in : ∀ j : Fin 10, Cond.eq (.elem (.static "DoubtCatcher" "TENS" "[I") (.int (Int32.ofNat j.val))) (.int (tensF j.val)) ∈ flatC (Jvm.Cond.and given_1 narrow_1) := by decide +kernel
theorem sign_in : ∀ j : Fin 8, Cond.eq (.elem (.static "DoubtCatcher" "YEAR_SIGNS" "[I") (.int (Int32.ofNat j.val))) (.int (signF j.val)) ∈ flatC (Jvm.Cond.and given_1 narrow_1) := by decide +kernel
theorem stats {args : Array Value} {s : State} {A : Nat → Prop} (hg : ∀ w ∈ lw_good, w.before args s = true) (hts : ∀ w ∈ lw_tbl, w.before args s = true) (hgv : (Jvm.Cond.and given_1 narrow_1).before args s = true) (hA : ∀ a : Nat, a < s.heap.size → ¬ A a) : ∃ t y : Nat, (va_Z RX9 "TENS" "[I" (.ref t) A s s.heap ∧ va_T .int t 10 (fun j => .int (tensF j)) A s s.heap) ∧ (va_Z RX9 "YEAR_SIGNS" "[I" (.ref y) A s s.heap ∧ va_T .int y 8 (fun j => .int (signF j)) A s s.heap) := by
  have hs := flat_of_before _ hgv
  obtain ⟨t, t1, t2⟩ := va_Tof (tm := .static "DoubtCatcher" "TENS" "[I") (ty := .int) (N := 10) (f := fun j => .int (tensF j)) (A := A) (by decide) (hs _ (by decide +kernel)) (va_eqt (hs _ (by decide +kernel))) (fun j hj => va_eqt (hs _ (tens_in ⟨j, hj⟩))) hA
  obtain ⟨y, y1, y2⟩ := va_Tof (tm := .static "DoubtCatcher" "YEAR_SIGNS" "[I") (ty := .int) (N := 8) (f := fun j => .int (signF j)) (A := A) (by decide) (hs _ (by decide +kernel)) (va_eqt (hs _ (by decide +kernel))) (fun j hj => va_eqt (hs _ (sign_in ⟨j, hj⟩))) hA
  have lt : (Cond.laysStatic "DoubtCatcher" "TENS" "[I") ∈ lw_tbl := List.mem_of_getElem? (i := 508) (by decide +kernel)
  have ly : (Cond.laysStatic "DoubtCatcher" "YEAR_SIGNS" "[I") ∈ lw_tbl := List.mem_of_getElem? (i := 619) (by decide +kernel)
  exact ⟨t, y, ⟨va_Zref (hts _ lt) (hg _ bw_ini_X9) t1 hA, t2⟩, ⟨va_Zref (hts _ ly) (hg _ bw_ini_X9) y1 hA, y2⟩⟩
