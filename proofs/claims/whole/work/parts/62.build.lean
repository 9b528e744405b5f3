-- making things: the world so far as a list of cells, before ++ X; every cell from base on is ours
abbrev Ab (base : Nat) : Nat → Prop := fun q => base ≤ q
def CU (D : va_G) (tI tZ tG : ClassId) (U : State) : Prop := va_K D vwCl [(tI, .int), (tZ, .boolean), (tG, .object RX4)] U ∧ (∀ w ∈ lw_nest, va_Nw w U) ∧ va_AO RX4 U
theorem CU.calling {D : va_G} {tI tZ tG : ClassId} {U : State} (g : JFrame) (mk : MethodId) (a : Array Value) (h : CU D tI tZ tG U) : CU D tI tZ tG (U.calling g mk a) := by
  have al : U.vm.Alike (U.calling g mk a).vm := Vm.Alike.refl U.vm
  exact ⟨va_K.moved al h.1, fun w hw => va_Nw.same (u := U) (U := U.calling g mk a) (nest_on hw) rfl (h.2.1 w hw), va_AO.moved al h.2.2⟩
theorem CU.warm {D : va_G} {tI tZ tG : ClassId} {s U : State} (hW : s.WarmedH U.vm) (h : CU D tI tZ tG s) : CU D tI tZ tG U :=
  ⟨va_K.moved hW.alike h.1, fun w hw => nest_warm hw hW (h.2.1 w hw), va_AO.moved hW.alike h.2.2⟩
def Wo (D : va_G) (base : Nat) (ws : va_W) (H0 H : Heap) (locs : List Loc) : Prop := va_P D vwCl ws H ∧ va_D (Ab base) ws ∧ va_S (Ab base) H0 H locs
def Cx (D : va_G) (tI tZ tG : ClassId) (base : Nat) (own : String) (cc : ByteArray) (nL : Nat) (p : Program) (s : State) (m : MethodId) (args : Array Value) (c : Code) : Prop :=
  p.tables.exec = Jvm.exec ∧ c.code = cc ∧ c.maxLocals = nL ∧ s.vm.findClass own = some m.cls ∧ (∀ w ∈ lw_good, w.before args s = true) ∧ CU D tI tZ tG s ∧ base ≤ s.heap.size
theorem wi {α : Type} (pre X : List α) (i : Nat) : (pre ++ X)[pre.length + i]? = X[i]? := by
  rw [List.getElem?_append_right (by omega)]
  congr 1
  omega
theorem wset {α : Type} (pre X : List α) (i : Nat) (e : α) : (pre ++ X).set (pre.length + i) e = pre ++ X.set i e := by
  rw [List.set_append_right _ _ (by omega)]
  congr 2
  omega
section Build
variable {p : Program} {l : Launch} {e : Env} {R : Room} {s : State} {m : MethodId} {args : Array Value} {below : List Frame} {meth : Method} {c : Code} {H : Heap} {locs : List Loc} {cells slots : Nat} {Q : State → Prop}
variable {D : va_G} {tI tZ tG : ClassId} {base nL pc : Nat} {own : String} {cc : ByteArray} {ls : Array Slot} {rest : List Value} {pre X : va_W}
theorem b_newI (hC : Cx D tI tZ tG base own cc nL p s m args c) (hW : Wo D base (pre ++ X) s.heap H locs) {n : Int32} (N : Nat) (hd : decode cc pc = .ok (.newarray .int, 2)) (hw : Cond.arrayClass .int ∈ lw_good) (hn : ¬ n < 0) (hN : n.toNatClampNeg = N) (hb : Nat.ble (N * componentBytes .int) 536870912 = true) (hcells : cells + 1 ≤ R.cells) (hslots : slots + N ≤ R.slots)
    (kk : ∀ (q : Nat) (H1 : Heap), Wo D base (pre ++ (X ++ [(q, .inl (tI, N, .inl (fun _ => 0)))])) s.heap H1 locs → W p l e R s m args below meth c H1 locs (cells + 1) (slots + N) Q (F0 m (pc + 2) ls (.ref q :: rest))) : W p l e R s m args below meth c H locs cells slots Q (F0 m pc ls (.int n :: rest)) := by
  obtain ⟨h1, h2, h3, h4, h5, ⟨h6, -, -⟩, h7⟩ := hC
  obtain ⟨hP, hD, hS⟩ := hW
  refine va_newa (atype := .int) (ty := .int) (a0 := (N, .inl (fun _ => 0))) h1 h2 (h5 _ hw) rfl h6 hP hD hS (fun q hq => Nat.le_trans h7 hq) (fun _ => rfl) hn hN (Nat.le_of_ble_eq_true hb) hcells hslots hd (fun q cA H1 hK1 hP1 hD1 hS1 => ?_)
  have a1 : va_RA s cA .int := (hK1.2 3 _ rfl).2
  have a2 : va_RA s tI .int := (h6.2 0 _ rfl).2
  have e : cA = tI := Option.some.inj (Eq.trans (Eq.symm a1) a2)
  subst e
  rw [List.append_assoc] at hP1 hD1
  exact kk q H1 ⟨hP1, hD1, hS1⟩
theorem b_newZ (hC : Cx D tI tZ tG base own cc nL p s m args c) (hW : Wo D base (pre ++ X) s.heap H locs) {n : Int32} (N : Nat) (hd : decode cc pc = .ok (.newarray .boolean, 2)) (hw : Cond.arrayClass .boolean ∈ lw_good) (hn : ¬ n < 0) (hN : n.toNatClampNeg = N) (hb : Nat.ble (N * componentBytes .boolean) 536870912 = true) (hcells : cells + 1 ≤ R.cells) (hslots : slots + N ≤ R.slots)
    (kk : ∀ (q : Nat) (H1 : Heap), Wo D base (pre ++ (X ++ [(q, .inl (tZ, N, .inl (fun _ => 0)))])) s.heap H1 locs → W p l e R s m args below meth c H1 locs (cells + 1) (slots + N) Q (F0 m (pc + 2) ls (.ref q :: rest))) : W p l e R s m args below meth c H locs cells slots Q (F0 m pc ls (.int n :: rest)) := by
  obtain ⟨h1, h2, h3, h4, h5, ⟨h6, -, -⟩, h7⟩ := hC
  obtain ⟨hP, hD, hS⟩ := hW
  refine va_newa (atype := .boolean) (ty := .boolean) (a0 := (N, .inl (fun _ => 0))) h1 h2 (h5 _ hw) rfl h6 hP hD hS (fun q hq => Nat.le_trans h7 hq) (fun _ => rfl) hn hN (Nat.le_of_ble_eq_true hb) hcells hslots hd (fun q cA H1 hK1 hP1 hD1 hS1 => ?_)
  have a1 : va_RA s cA .boolean := (hK1.2 3 _ rfl).2
  have a2 : va_RA s tZ .boolean := (h6.2 1 _ rfl).2
  have e : cA = tZ := Option.some.inj (Eq.trans (Eq.symm a1) a2)
  subst e
  rw [List.append_assoc] at hP1 hD1
  exact kk q H1 ⟨hP1, hD1, hS1⟩
theorem b_newG (hC : Cx D tI tZ tG base own cc nL p s m args c) (hW : Wo D base (pre ++ X) s.heap H locs) {n : Int32} (N : Nat) {idx : Nat} (hd : decode cc pc = .ok (.anewarray idx, 3)) (hw : Cond.classLink own idx RX4 ∈ lw_good) (hn : ¬ n < 0) (hN : n.toNatClampNeg = N) (hb : Nat.ble (N * 4) 536870912 = true) (hcells : cells + 1 ≤ R.cells) (hslots : slots + N ≤ R.slots)
    (kk : ∀ (q : Nat) (H1 : Heap), Wo D base (pre ++ (X ++ [(q, .inl (tG, N, .inr (.inr (.inr (.inr (fun _ => none))))))])) s.heap H1 locs → W p l e R s m args below meth c H1 locs (cells + 1) (slots + N) Q (F0 m (pc + 3) ls (.ref q :: rest))) : W p l e R s m args below meth c H locs cells slots Q (F0 m pc ls (.int n :: rest)) := by
  obtain ⟨h1, h2, h3, h4, h5, ⟨h6, -, h8⟩, h7⟩ := hC
  obtain ⟨hP, hD, hS⟩ := hW
  refine va_newq h1 h2 h4 (h5 _ hw) h8 h6 hP hD hS (fun q hq => Nat.le_trans h7 hq) hn hN (Nat.le_of_ble_eq_true hb) hcells hslots hd (fun q cA H1 hK1 hP1 hD1 hS1 => ?_)
  obtain ⟨_, _, _, _, _, a1⟩ : va_RA s cA (.object RX4) := (hK1.2 3 _ rfl).2
  obtain ⟨_, _, _, _, _, a2⟩ : va_RA s tG (.object RX4) := (h6.2 2 _ rfl).2
  have e : cA = tG := Option.some.inj (Eq.trans (Eq.symm a1) a2)
  subst e
  rw [List.append_assoc] at hP1 hD1
  exact kk q H1 ⟨hP1, hD1, hS1⟩
theorem b_new (hC : Cx D tI tZ tG base own cc nL p s m args c) (hW : Wo D base (pre ++ X) s.heap H locs) {ci N idx : Nat} {C : String} {T : u_T} {ty0 : Nat → FieldType} (h : CI ci C T N ty0) (fs : List Value) (hfs : ∀ j, j < N → defaultValue (ty0 j) = vp_V fs j) (hd : decode cc pc = .ok (.new idx, 3)) (hw : Cond.classLink own idx C ∈ lw_good) (hw2 : Cond.instantiable C N ∈ lw_good) (hw3 : Cond.initialized C ∈ lw_good) (hcells : cells + 1 ≤ R.cells) (hslots : slots + N ≤ R.slots)
    (kk : ∀ (q : Nat) (H1 : Heap), Wo D base (pre ++ (X ++ [(q, .inr (ci, fs))])) s.heap H1 locs → W p l e R s m args below meth c H1 locs (cells + 1) (slots + N) Q (F0 m (pc + 3) ls (.ref q :: rest))) : W p l e R s m args below meth c H locs cells slots Q (F0 m pc ls rest) := by
  obtain ⟨h1, h2, h3, h4, h5, ⟨h6, -, -⟩, h7⟩ := hC
  obtain ⟨hP, hD, hS⟩ := hW
  refine va_new (fs := fs) h1 h2 h5 h.2.1 ty0 h.2.2.1 h4 (h5 _ hw) (h5 _ hw2) (h5 _ hw3) h6 hP hD hS (fun q hq => Nat.le_trans h7 hq) h.1 hfs hcells hslots hd (fun q H1 hP1 hD1 hS1 => ?_)
  rw [List.append_assoc] at hP1 hD1
  exact kk q H1 ⟨hP1, hD1, hS1⟩
/-- a final field in its own constructor -/
theorem b_putF (hC : Cx D tI tZ tG base own cc nL p s m args c) (hin : meth.name = "<init>") (hW : Wo D base (pre ++ X) s.heap H locs) {ci N idx a : Nat} {C : String} {T : u_T} {ty0 : Nat → FieldType} {fs : List Value} {v : Value} {ty : FieldType} (h : CI ci C T N ty0) (i j : Nat) (he : X[i]? = some (a, .inr (ci, fs))) (hd : decode cc pc = .ok (.putfield idx, 3)) (hj : j < N) (hw : Cond.fieldLink own idx (T j).1 (T j).2.1 (T j).2.2.1 ∈ lw_good) (hf : (T j).2.2.2 = true) (hdecl : (T j).1 = own) (hty : parseFieldDescriptor (T j).2.2.1 = some ty) (hn : narrow ty v = v) (hfit : fits ty v = true) (hl : j < fs.length)
    (kk : ∀ (H1 : Heap) (locs1 : List Loc), Wo D base (pre ++ X.set i (a, .inr (ci, fs.set j v))) s.heap H1 locs1 → W p l e R s m args below meth c H1 locs1 cells slots Q (F0 m (pc + 3) ls rest)) : W p l e R s m args below meth c H locs cells slots Q (F0 m pc ls (v :: .ref a :: rest)) := by
  obtain ⟨h1, h2, h3, h4, h5, ⟨h6, -, -⟩, h7⟩ := hC
  obtain ⟨hP, hD, hS⟩ := hW
  refine va_putF h1 h2 h5 h.2.1 ty0 h.2.2.1 h.2.2.2 h4 h6 hP hD hS (pre.length + i) (by rw [wi]; exact he) h.1 j hj (h5 _ hw) (fun _ h => h) hf hin hdecl hty hn hfit hl hd (fun H1 locs1 hP1 hD1 hS1 => ?_)
  rw [wset] at hP1 hD1
  exact kk H1 locs1 ⟨hP1, hD1, hS1⟩
theorem b_put (hC : Cx D tI tZ tG base own cc nL p s m args c) (hW : Wo D base (pre ++ X) s.heap H locs) {ci N idx a : Nat} {C : String} {T : u_T} {ty0 : Nat → FieldType} {fs : List Value} {v : Value} {ty : FieldType} (h : CI ci C T N ty0) (i j : Nat) (he : X[i]? = some (a, .inr (ci, fs))) (hd : decode cc pc = .ok (.putfield idx, 3)) (hj : j < N) (hw : Cond.fieldLink own idx (T j).1 (T j).2.1 (T j).2.2.1 ∈ lw_good) (hf : (T j).2.2.2 = false) (hty : parseFieldDescriptor (T j).2.2.1 = some ty) (hn : narrow ty v = v) (hfit : fits ty v = true) (hl : j < fs.length)
    (kk : ∀ (H1 : Heap) (locs1 : List Loc), Wo D base (pre ++ X.set i (a, .inr (ci, fs.set j v))) s.heap H1 locs1 → W p l e R s m args below meth c H1 locs1 cells slots Q (F0 m (pc + 3) ls rest)) : W p l e R s m args below meth c H locs cells slots Q (F0 m pc ls (v :: .ref a :: rest)) := by
  obtain ⟨h1, h2, h3, h4, h5, ⟨h6, -, -⟩, h7⟩ := hC
  obtain ⟨hP, hD, hS⟩ := hW
  refine va_put h1 h2 h5 h.2.1 ty0 h.2.2.1 h.2.2.2 h4 h6 hP hD hS (pre.length + i) (by rw [wi]; exact he) h.1 j hj (h5 _ hw) (fun _ h => h) hf hty hn hfit hl hd (fun H1 locs1 hP1 hD1 hS1 => ?_)
  rw [wset] at hP1 hD1
  exact kk H1 locs1 ⟨hP1, hD1, hS1⟩
theorem b_get (hC : Cx D tI tZ tG base own cc nL p s m args c) (hW : Wo D base (pre ++ X) s.heap H locs) {ci N idx a : Nat} {C : String} {T : u_T} {ty0 : Nat → FieldType} {fs : List Value} {v : Value} (h : CI ci C T N ty0) (i j : Nat) (he : X[i]? = some (a, .inr (ci, fs))) (hd : decode cc pc = .ok (.getfield idx, 3)) (hj : j < N) (hw : Cond.fieldLink own idx (T j).1 (T j).2.1 (T j).2.2.1 ∈ lw_good) (hv : fs[j]? = some v)
    (kk : W p l e R s m args below meth c H locs cells slots Q (F0 m (pc + 3) ls (v :: rest))) : W p l e R s m args below meth c H locs cells slots Q (F0 m pc ls (.ref a :: rest)) := by
  obtain ⟨h1, h2, h3, h4, h5, ⟨h6, -, -⟩, h7⟩ := hC
  obtain ⟨hP, hD, hS⟩ := hW
  exact va_get h1 h2 h5 h.2.1 h4 h6 hP (pre.length + i) (by rw [wi]; exact he) h.1 j hj (h5 _ hw) (fun _ h => h) hv hd kk
theorem b_astq (hC : Cx D tI tZ tG base own cc nL p s m args c) (hW : Wo D base (pre ++ X) s.heap H locs) {a n v : Nat} {vs : List Value} {f : Nat → Option Nat} {i : Int32} (q0 qk : Nat) (ha : X[q0]? = some (a, .inl (tG, n, .inr (.inr (.inr (.inr f)))))) (hv : X[qk]? = some (v, .inr (4, vs))) (hin : vp_in i n) (hd : decode cc pc = .ok (.aastore, 1))
    (kk : ∀ (H1 : Heap) (locs1 : List Loc), Wo D base (pre ++ X.set q0 (a, .inl (tG, n, .inr (.inr (.inr (.inr (va_up f i.toNatClampNeg (some v)))))))) s.heap H1 locs1 → W p l e R s m args below meth c H1 locs1 cells slots Q (F0 m (pc + 1) ls rest)) : W p l e R s m args below meth c H locs cells slots Q (F0 m pc ls (.ref v :: .int i :: .ref a :: rest)) := by
  obtain ⟨h1, h2, h3, h4, h5, ⟨h6, -, -⟩, h7⟩ := hC
  obtain ⟨hP, hD, hS⟩ := hW
  refine va_astq (r := (RX4, TX4, 3)) h1 h2 h6 hP hD hS (pre.length + q0) 2 (pre.length + qk) 4 (by rw [wi]; exact ha) rfl (by rw [wi]; exact hv) rfl hin hd (fun H1 locs1 hP1 hD1 hS1 => ?_)
  rw [wset] at hP1 hD1
  exact kk H1 locs1 ⟨hP1, hD1, hS1⟩
theorem b_obj (hC : Cx D tI tZ tG base own cc nL p s m args c) {idx a : Nat} (hd : decode cc pc = .ok (.invokespecial idx, 3)) (hw : Cond.methodLink own idx Lib.objectInit ∈ lw_good) (hw2 : Cond.instanceMethod Lib.objectInit ∈ lw_good) (hw3 : Cond.code Lib.objectInit ⟨#[0xb1]⟩ 1 none ∈ lw_good) (hl : ls.size = nL) (hf : 1 ≤ R.frames) (hlo : 12 ≤ R.locals)
    (kk : W p l e R s m args below meth c H locs cells slots Q (F0 m (pc + 3) ls [])) : W p l e R s m args below meth c H locs cells slots Q (F0 m pc ls [.ref a]) := by
  obtain ⟨h1, h2, h3, h4, h5, -, -⟩ := hC
  exact W.objInit h1 h2 h4 (h5 _ hw) (h5 _ hw2) (h5 _ hw3) rfl (by rw [h3]; exact hl) rfl hd hf hlo kk
end Build
/-- a constructor's contract: the object is the last cell; behind it come the cells that it makes -/
def SpC (y : MethodName) (c1 : ByteArray) (nL dp ci mc ms : Nat) (fs0 : List Value) (res : ClassId → ClassId → ClassId → (Nat → Nat) → va_W) : Prop :=
  ∀ (l : Launch) (D : va_G) (tI tZ tG : ClassId) (base : Nat) (pre : va_W) (h : Nat), Met l y (Cond.code y c1 nL none :: lw_good) { frames := dp, cells := mc, slots := ms, locals := 34 * dp } (va_Pc [.ref h] (fun U => CU D tI tZ tG U ∧ base ≤ U.heap.size ∧ va_P D vwCl (pre ++ [(h, .inr (ci, fs0))]) U.heap ∧ va_D (Ab base) (pre ++ [(h, .inr (ci, fs0))]))) (va_Qv (fun ad : Nat → Nat => ad 0 = h) (fun ad t => va_P D vwCl (pre ++ res tI tZ tG ad) t.heap ∧ va_D (Ab base) (pre ++ res tI tZ tG ad)) (Ab base)) mc ms (Ab base)
def MI (y : MethodName) (c1 : ByteArray) (nL : Nat) : Prop := Cond.instanceMethod y ∈ lw_good ∧ Cond.initialized y.cls ∈ lw_good ∧ Cond.code y c1 nL none ∈ lw_good ∧ y.name = "<init>" ∧ (y.cls ≠ "java/lang/invoke/MethodHandle" ∧ y.cls ≠ "java/lang/invoke/VarHandle" ∧ (parseMethodDescriptor y.desc).map (fun d => d.parameters.length) = some 0) ∧ nL ≤ 15
section Build2
variable {p : Program} {l : Launch} {e : Env} {R : Room} {s : State} {m : MethodId} {args : Array Value} {below : List Frame} {meth : Method} {c : Code} {H : Heap} {locs : List Loc} {cells slots : Nat} {Q : State → Prop}
variable {D : va_G} {tI tZ tG : ClassId} {base nL pc : Nat} {own : String} {cc : ByteArray} {ls : Array Slot} {rest : List Value} {pre X : va_W}
variable {y : MethodName} {c1 : ByteArray} {nL1 dp1 ci mc ms idx h : Nat} {fs0 : List Value} {res : ClassId → ClassId → ClassId → (Nat → Nat) → va_W}
theorem b_callN {host : String} (hC : Cx D tI tZ tG base own cc nL p s m args c) (hsp : SpC y c1 nL1 dp1 ci mc ms fs0 res) (mi : MI y c1 nL1) (hd : decode cc pc = .ok (.invokespecial idx, 3)) (hw : Cond.methodLinkNest own idx y host ∈ lw_nest) (hf : dp1 + 1 ≤ R.frames) (hlo : 34 * (dp1 + 1) ≤ R.locals) (hcells : cells + mc ≤ R.cells) (hslots : slots + ms ≤ R.slots) (hl : ls.size = nL) (hr : Nat.ble (rest.map fun v => v.category).sum 8 = true) (hW : Wo D base (pre ++ (X ++ [(h, .inr (ci, fs0))])) s.heap H locs)
    (kk : ∀ (ad : Nat → Nat) (H1 : Heap) (locs1 : List Loc), ad 0 = h → Wo D base (pre ++ (X ++ res tI tZ tG ad)) s.heap H1 locs1 → W p l e R s m args below meth c H1 locs1 (cells + mc) (slots + ms) Q (F0 m (pc + 3) ls rest)) : W p l e R s m args below meth c H locs cells slots Q (F0 m pc ls (.ref h :: rest)) := by
  obtain ⟨h1, h2, h3, h4, h5, h6, h7⟩ := hC
  obtain ⟨hP, hD, hS⟩ := hW
  obtain ⟨m1, m2, m3, m4, m5, m6⟩ := mi
  rw [← List.append_assoc] at hP hD
  refine va_callv (va_runIN (As := []) (rest := rest) (n := 0) (host := host) ⟨h1, h2, h3, h4, h5⟩ (hsp l D tI tZ tG base (pre ++ X) h) ⟨va_cnB 0 h5 (good_in0 _ m3) rfl rfl rfl (h6.2.1 _ hw) (h5 _ m2) m5 ⟨hf, show 8 + (nL1 + 11) + 34 * dp1 ≤ R.locals by omega⟩, m4, h5 _ m1⟩ ⟨fun a U g mk ⟨q0, q1, q2, q3, q4⟩ => ⟨q0, q1.calling g mk a, q2, q3, q4⟩, fun U hU hw => ⟨rfl, h6.warm hw, by rw [hU]; exact Nat.le_trans h7 hS.1, by rw [hU]; exact hP, hD⟩⟩ rfl rfl hl rfl (lv_room (Nat.le_of_ble_eq_true hr)) hd ⟨hcells, hslots⟩) hS (fun _ _ h => h) (fun _ h => h) (fun u t H1 locs1 ht hvm hu hB hz1 hk1 hS1 => ?_)
  obtain ⟨hB1, hB2⟩ := hB
  rw [ht] at hB1
  rw [List.append_assoc] at hB1 hB2
  exact kk u H1 locs1 hu ⟨hB1, hB2, hS1⟩
theorem b_call (hC : Cx D tI tZ tG base own cc nL p s m args c) (hsp : SpC y c1 nL1 dp1 ci mc ms fs0 res) (mi : MI y c1 nL1) (hd : decode cc pc = .ok (.invokespecial idx, 3)) (hw : Cond.methodLink own idx y ∈ lw_good) (hf : dp1 + 1 ≤ R.frames) (hlo : 34 * (dp1 + 1) ≤ R.locals) (hcells : cells + mc ≤ R.cells) (hslots : slots + ms ≤ R.slots) (hl : ls.size = nL) (hr : Nat.ble (rest.map fun v => v.category).sum 8 = true) (hW : Wo D base (pre ++ (X ++ [(h, .inr (ci, fs0))])) s.heap H locs)
    (kk : ∀ (ad : Nat → Nat) (H1 : Heap) (locs1 : List Loc), ad 0 = h → Wo D base (pre ++ (X ++ res tI tZ tG ad)) s.heap H1 locs1 → W p l e R s m args below meth c H1 locs1 (cells + mc) (slots + ms) Q (F0 m (pc + 3) ls rest)) : W p l e R s m args below meth c H locs cells slots Q (F0 m pc ls (.ref h :: rest)) := by
  obtain ⟨h1, h2, h3, h4, h5, h6, h7⟩ := hC
  obtain ⟨hP, hD, hS⟩ := hW
  obtain ⟨m1, m2, m3, m4, m5, m6⟩ := mi
  rw [← List.append_assoc] at hP hD
  refine va_callv (va_runI (As := []) (rest := rest) (n := 0) ⟨h1, h2, h3, h4, h5⟩ (hsp l D tI tZ tG base (pre ++ X) h) (cwI 0 h5 (good_in0 _ m3) rfl rfl rfl (h5 _ m2) (h5 _ hw) (h5 _ m1) m4 m5 ⟨hf, show 8 + (nL1 + 11) + 34 * dp1 ≤ R.locals by omega⟩) ⟨fun a U g mk ⟨q0, q1, q2, q3, q4⟩ => ⟨q0, q1.calling g mk a, q2, q3, q4⟩, fun U hU hw => ⟨rfl, h6.warm hw, by rw [hU]; exact Nat.le_trans h7 hS.1, by rw [hU]; exact hP, hD⟩⟩ rfl rfl hl rfl (lv_room (Nat.le_of_ble_eq_true hr)) hd ⟨hcells, hslots⟩) hS (fun _ _ h => h) (fun _ h => h) (fun u t H1 locs1 ht hvm hu hB hz1 hk1 hS1 => ?_)
  obtain ⟨hB1, hB2⟩ := hB
  rw [ht] at hB1
  rw [List.append_assoc] at hB1 hB2
  exact kk u H1 locs1 hu ⟨hB1, hB2, hS1⟩
/-- new, dup, the constructor -/
theorem b_mkN {host : String} {N i1 : Nat} {C : String} {T : u_T} {ty0 : Nat → FieldType} (hC : Cx D tI tZ tG base own cc nL p s m args c) (hci : CI ci C T N ty0) (hfs : ∀ j, j < N → defaultValue (ty0 j) = vp_V fs0 j) (hsp : SpC y c1 nL1 dp1 ci mc ms fs0 res) (mi : MI y c1 nL1) (hd1 : decode cc pc = .ok (.new i1, 3)) (hd2 : decode cc (pc + 3) = .ok (.dup, 1)) (hd3 : decode cc (pc + 4) = .ok (.invokespecial idx, 3)) (hw1 : Cond.classLink own i1 C ∈ lw_good) (hw2 : Cond.instantiable C N ∈ lw_good) (hw3 : Cond.initialized C ∈ lw_good) (hw : Cond.methodLinkNest own idx y host ∈ lw_nest) (hf : dp1 + 1 ≤ R.frames) (hlo : 34 * (dp1 + 1) ≤ R.locals) (hcells : cells + 1 + mc ≤ R.cells) (hslots : slots + N + ms ≤ R.slots) (hl : ls.size = nL) (hr : Nat.ble ((rest.map fun v => v.category).sum + 1) 8 = true) (hW : Wo D base (pre ++ X) s.heap H locs)
    (kk : ∀ (ad : Nat → Nat) (H1 : Heap) (locs1 : List Loc), Wo D base (pre ++ (X ++ res tI tZ tG ad)) s.heap H1 locs1 → W p l e R s m args below meth c H1 locs1 (cells + 1 + mc) (slots + N + ms) Q (F0 m (pc + 7) ls (.ref (ad 0) :: rest))) : W p l e R s m args below meth c H locs cells slots Q (F0 m pc ls rest) := by
  refine b_new hC hW hci fs0 hfs hd1 hw1 hw2 hw3 (by omega) (by omega) (fun q H1 hW1 => ?_)
  refine lv_dup hC.1 hC.2.1 hd2 rfl ?_
  refine b_callN hC hsp mi hd3 hw hf hlo hcells hslots hl (by rw [List.map_cons, List.sum_cons, Nat.add_comm]; exact hr) hW1 (fun ad H2 locs2 h0 hW2 => ?_)
  subst h0
  exact kk ad H2 locs2 hW2
theorem b_mk {N i1 : Nat} {C : String} {T : u_T} {ty0 : Nat → FieldType} (hC : Cx D tI tZ tG base own cc nL p s m args c) (hci : CI ci C T N ty0) (hfs : ∀ j, j < N → defaultValue (ty0 j) = vp_V fs0 j) (hsp : SpC y c1 nL1 dp1 ci mc ms fs0 res) (mi : MI y c1 nL1) (hd1 : decode cc pc = .ok (.new i1, 3)) (hd2 : decode cc (pc + 3) = .ok (.dup, 1)) (hd3 : decode cc (pc + 4) = .ok (.invokespecial idx, 3)) (hw1 : Cond.classLink own i1 C ∈ lw_good) (hw2 : Cond.instantiable C N ∈ lw_good) (hw3 : Cond.initialized C ∈ lw_good) (hw : Cond.methodLink own idx y ∈ lw_good) (hf : dp1 + 1 ≤ R.frames) (hlo : 34 * (dp1 + 1) ≤ R.locals) (hcells : cells + 1 + mc ≤ R.cells) (hslots : slots + N + ms ≤ R.slots) (hl : ls.size = nL) (hr : Nat.ble ((rest.map fun v => v.category).sum + 1) 8 = true) (hW : Wo D base (pre ++ X) s.heap H locs)
    (kk : ∀ (ad : Nat → Nat) (H1 : Heap) (locs1 : List Loc), Wo D base (pre ++ (X ++ res tI tZ tG ad)) s.heap H1 locs1 → W p l e R s m args below meth c H1 locs1 (cells + 1 + mc) (slots + N + ms) Q (F0 m (pc + 7) ls (.ref (ad 0) :: rest))) : W p l e R s m args below meth c H locs cells slots Q (F0 m pc ls rest) := by
  refine b_new hC hW hci fs0 hfs hd1 hw1 hw2 hw3 (by omega) (by omega) (fun q H1 hW1 => ?_)
  refine lv_dup hC.1 hC.2.1 hd2 rfl ?_
  refine b_call hC hsp mi hd3 hw hf hlo hcells hslots hl (by rw [List.map_cons, List.sum_cons, Nat.add_comm]; exact hr) hW1 (fun ad H2 locs2 h0 hW2 => ?_)
  subst h0
  exact kk ad H2 locs2 hW2
theorem b_ret (hC : Cx D tI tZ tG base own cc nL p s m args c) (hr : meth.sig.returnType = none) (hlocks : meth.locks = false) (ad : Nat → Nat) (h0 : ad 0 = h) (hW : Wo D base (pre ++ res tI tZ tG ad) s.heap H locs) (hd : decode cc pc = .ok (.return_, 1)) : W p l e R s m args below meth c H locs mc ms (MQ below (va_Qv (fun ad : Nat → Nat => ad 0 = h) (fun ad t => va_P D vwCl (pre ++ res tI tZ tG ad) t.heap ∧ va_D (Ab base) (pre ++ res tI tZ tG ad)) (Ab base)) args s mc ms (Ab base)) (F0 m pc ls []) := by
  obtain ⟨hP, hD, hS⟩ := hW
  exact W.vret hC.1 hC.2.1 hr (fun t ht _ => ⟨⟨ad, rfl, h0, by rw [ht]; exact hP, hD⟩, hS.F ht⟩) hS.2.2 hd hlocks
end Build2
/-- the beginning of a constructor -/
theorem spc_of {y : MethodName} {c1 : ByteArray} {nL dp ci mc ms : Nat} {fs0 : List Value} {res : ClassId → ClassId → ClassId → (Nat → Nat) → va_W} {own : String} (hy : y.cls = own) (hyn : y.name = "<init>") (hpl : plainFor y = true) (hn : Nat.ble 1 nL = true)
    (body : ∀ (l : Launch) (D : va_G) (tI tZ tG : ClassId) (base : Nat) (pre : va_W) (h : Nat) (p : Program) (e : Env) (s : State) (m : MethodId) (below : List Frame) (meth : Method) (c : Code) (ls : Array Slot), Cx D tI tZ tG base own c1 nL p s m #[.ref h] c → meth.name = "<init>" → meth.sig.returnType = none → meth.locks = false → lv_has ls nL [(0, .ref h)] → Wo D base (pre ++ [(h, .inr (ci, fs0))]) s.heap s.heap [] →
      W p l e { frames := dp, cells := mc, slots := ms, locals := 34 * dp } s m #[.ref h] below meth c s.heap [] 0 0 (MQ below (va_Qv (fun ad : Nat → Nat => ad 0 = h) (fun ad t => va_P D vwCl (pre ++ res tI tZ tG ad) t.heap ∧ va_D (Ab base) (pre ++ res tI tZ tG ad)) (Ab base)) #[.ref h] s mc ms (Ab base)) (F0 m 0 ls [])) : SpC y c1 nL dp ci mc ms fs0 res := by
  intro l D tI tZ tG base pre h
  refine met_ofW (cc := c1) (maxL := nL) (ret := none) hpl rfl ?_
  intro p e s m args below meth c s₁ B hml hv
  obtain ⟨rfl, hU, hb, hP, hD⟩ := hv
  have hts := atoms_spec (ws := Cond.code y c1 nL none :: lw_good) B.pre
  have hown : s.vm.findClass own = some m.cls := hy ▸ findClass_of_methodNamed B.named
  have hl := lv_entry ([.ref h]) (n := nL) (Nat.le_of_ble_eq_true hn)
  rw [lg_entry_eq]
  exact body l D tI tZ tG base pre h p e s m below meth c _ ⟨B.exec, B.bytes, hml, hown, fun w hw => hts w (List.mem_cons_of_mem _ hw), hU, hb⟩ ((name_of_methodNamed B.named B.method).1.trans hyn) B.returns B.notSynchronized hl ⟨hP, hD, va_S.rf⟩
