/-- what the rules ask of a class -/
def CI (ci : Nat) (C : String) (T : u_T) (N : Nat) (ty0 : Nat → FieldType) : Prop := vwCl[ci]? = some (C, T, N) ∧ (∀ w ∈ u_ws C T N, w ∈ lw_good) ∧ (∀ k, k < N → parseFieldDescriptor (T k).2.2.1 = some (ty0 k)) ∧ (∀ a, a < N → ∀ b, b < N → a ≠ b → (T a).2.1 ≠ (T b).2.1)
def Qe (D : va_G) (tI tZ tG : ClassId) (ad : Nat → Nat) (w : Option Value × Mem) : Array Value → State → Outcome → State → Prop := fun _ st oc t => oc = .returned (w.1.map (cv ad)) ∧ va_P D vwCl (cw tI tZ tG ad w.2) t.heap ∧ va_F (Aw ad) st t
def rmD (dp : Nat) : Room := { frames := dp, cells := 0, slots := 0, locals := 34 * dp }
def PcW (D : va_G) (tI tZ tG : ClassId) (ad : Nat → Nat) (as : List Value) (M : Mem) : Array Value → State → Prop := va_Pc (as.map (cv ad)) (fun U => Wd D tI tZ tG ad (Aw ad) U ∧ va_P D vwCl (cw tI tZ tG ad M) U.heap)
def SpO {α : Type} (wr : α → Option Value × Mem) (y : MethodName) (c1 : ByteArray) (nL : Nat) (ret : Option FieldType) (dp : Nat) (as : List Value) (M : Mem) (o : Option α) : Prop :=
  ∀ b, o = some b → ∀ (l : Launch) (D : va_G) (tI tZ tG : ClassId) (ad : Nat → Nat), Met l y (Cond.code y c1 nL ret :: lw_good) (rmD dp) (PcW D tI tZ tG ad as M) (Qe D tI tZ tG ad (wr b)) 0 0 (Aw ad)
section Heap
variable {α : Type} {sc : Option (Nat × (Nat → Int32))} {wr : α → Option Value × Mem} {own : String} {cc : ByteArray} {ret : Option FieldType} {dp pc : Nat} {L : List (Option Value)} {st : List Value} {M : Mem} {o o1 o2 : Option α}
theorem e_getI {k ci N j idx n0 : Nat} {C : String} {T : u_T} {ty0 : Nat → FieldType} {rs : List (Option Nat)} (h : CI ci C T N ty0) (hd : decode cc pc = .ok (.getfield idx, 3)) (hq : shl[k]? = some (ci + 3, n0, rs)) (hj : j < N) (hr : rs[j]? = some none) (hw : Cond.fieldLink own idx (T j).1 (T j).2.1 (T j).2.2.1 ∈ lw_good) {v : Int32} (hv : M k j = v) (kk : Ev sc wr own cc ret dp (pc + 3) L (.int v :: st) M o) : Ev sc wr own cc ret dp pc L (.ref k :: st) M o := by
  subst hv
  intro b hb p l e R s m args below meth c H locs cells slots Q D tI tZ tG ad A ls hF hP hS hl hX
  exact va_get (v := .int (M k j)) hF.1 hF.2.1 hF.2.2.2.2.1 h.2.1 hF.2.2.2.1 hF.2.2.2.2.2.2.1.1 hP k (cw_get hq) h.1 j hj (hF.2.2.2.2.1 _ hw) (fun _ h => h) (by rw [List.getElem?_mapIdx, hr]; rfl) hd (kk b hb p l e R s m args below meth c H locs cells slots Q D tI tZ tG ad A ls hF hP hS hl hX)
theorem e_getR {k ci N j idx n0 r : Nat} {C : String} {T : u_T} {ty0 : Nat → FieldType} {rs : List (Option Nat)} (h : CI ci C T N ty0) (hd : decode cc pc = .ok (.getfield idx, 3)) (hq : shl[k]? = some (ci + 3, n0, rs)) (hj : j < N) (hr : rs[j]? = some (some r)) (hw : Cond.fieldLink own idx (T j).1 (T j).2.1 (T j).2.2.1 ∈ lw_good) (kk : Ev sc wr own cc ret dp (pc + 3) L (.ref r :: st) M o) : Ev sc wr own cc ret dp pc L (.ref k :: st) M o := by
  intro b hb p l e R s m args below meth c H locs cells slots Q D tI tZ tG ad A ls hF hP hS hl hX
  exact va_get (v := .ref (ad r)) hF.1 hF.2.1 hF.2.2.2.2.1 h.2.1 hF.2.2.2.1 hF.2.2.2.2.2.2.1.1 hP k (cw_get hq) h.1 j hj (hF.2.2.2.2.1 _ hw) (fun _ h => h) (by rw [List.getElem?_mapIdx, hr]; rfl) hd (kk b hb p l e R s m args below meth c H locs cells slots Q D tI tZ tG ad A ls hF hP hS hl hX)
theorem e_putI {k ci N j idx n0 : Nat} {x : Int32} {C : String} {T : u_T} {ty0 : Nat → FieldType} {ty : FieldType} {rs : List (Option Nat)} (h : CI ci C T N ty0) (hd : decode cc pc = .ok (.putfield idx, 3)) (hq : shl[k]? = some (ci + 3, n0, rs)) (hj : j < N) (hr : rs[j]? = some none) (hw : Cond.fieldLink own idx (T j).1 (T j).2.1 (T j).2.2.1 ∈ lw_good) (hf : (T j).2.2.2 = false) (hty : parseFieldDescriptor (T j).2.2.1 = some ty) (hn : narrow ty (.int x) = .int x) (hfit : fits ty (.int x) = true) (kk : Ev sc wr own cc ret dp (pc + 3) L st (up2 M k j x) o) : Ev sc wr own cc ret dp pc L (.int x :: .ref k :: st) M o := by
  intro b hb p l e R s m args below meth c H locs cells slots Q D tI tZ tG ad A ls hF hP hS hl hX
  have hW := hF.2.2.2.2.2.2.1
  refine va_put (v := .int x) hF.1 hF.2.1 hF.2.2.2.2.1 h.2.1 ty0 h.2.2.1 h.2.2.2 hF.2.2.2.1 hW.1 hP (cw_D hW.2.1 hW.2.2.1 M) hS k (cw_get hq) h.1 j hj (hF.2.2.2.2.1 _ hw) (fun _ h => h) hf hty hn hfit (by rw [List.length_mapIdx]; exact (List.getElem?_eq_some_iff.mp hr).1) hd (fun H1 locs1 hP1 _ hS1 => ?_)
  rw [ce_setI (tI := tI) (tZ := tZ) (tG := tG) (n := n0) hr, cw_set hq] at hP1
  exact kk b hb p l e R s m args below meth c H1 locs1 cells slots Q D tI tZ tG ad A ls hF hP1 hS1 hl hX
theorem e_iald' {k n : Nat} {i : Int32} {rs : List (Option Nat)} (hd : decode cc pc = .ok (.iaload, 1)) (hq : shl[k]? = some (0, n, rs)) (hi : inb i n = true) {v : Int32} (hv : M k (ix i) = v) (kk : Ev sc wr own cc ret dp (pc + 1) L (.int v :: st) M o) : Ev sc wr own cc ret dp pc L (.int i :: .ref k :: st) M o := by
  subst hv
  intro b hb p l e R s m args below meth c H locs cells slots Q D tI tZ tG ad A ls hF hP hS hl hX
  exact va_iald hF.1 hF.2.1 hF.2.2.2.2.2.2.1.1 hP k 0 (cw_get hq) rfl (inb_in hi) hd (kk b hb p l e R s m args below meth c H locs cells slots Q D tI tZ tG ad A ls hF hP hS hl hX)
theorem e_if {t : Bool} (kk : t = true → Ev sc wr own cc ret dp pc L st M o) : Ev sc wr own cc ret dp pc L st M (if t then o else none) := by
  cases t with
  | true => exact kk rfl
  | false => exact e_none
theorem e_iast' {k n : Nat} {i x : Int32} {rs : List (Option Nat)} (hd : decode cc pc = .ok (.iastore, 1)) (hq : shl[k]? = some (0, n, rs)) (hi : inb i n = true) (kk : Ev sc wr own cc ret dp (pc + 1) L st (up2 M k (ix i) x) o) : Ev sc wr own cc ret dp pc L (.int x :: .int i :: .ref k :: st) M o := by
  intro b hb p l e R s m args below meth c H locs cells slots Q D tI tZ tG ad A ls hF hP hS hl hX
  have hW := hF.2.2.2.2.2.2.1
  refine va_iast hF.1 hF.2.1 hW.1 hP (cw_D hW.2.1 hW.2.2.1 M) hS k 0 (cw_get hq) rfl (inb_in hi) hd (fun H1 locs1 hP1 _ hS1 => ?_)
  have e1 := cw_set (tI := tI) (tZ := tZ) (tG := tG) (ad := ad) (M := M) hq (upd (M k) (ix i) x)
  rw [← up2] at e1
  exact kk b hb p l e R s m args below meth c H1 locs1 cells slots Q D tI tZ tG ad A ls hF (e1 ▸ hP1) hS1 hl hX
theorem e_zald' {k n : Nat} {i : Int32} {rs : List (Option Nat)} (hd : decode cc pc = .ok (.baload, 1)) (hq : shl[k]? = some (1, n, rs)) (hi : inb i n = true) {v : Int32} (hv : M k (ix i) = v) (kk : Ev sc wr own cc ret dp (pc + 1) L (.int v :: st) M o) : Ev sc wr own cc ret dp pc L (.int i :: .ref k :: st) M o := by
  subst hv
  intro b hb p l e R s m args below meth c H locs cells slots Q D tI tZ tG ad A ls hF hP hS hl hX
  exact va_zald hF.1 hF.2.1 hF.2.2.2.2.2.2.1.1 hP k 1 (cw_get hq) rfl (inb_in hi) hd (kk b hb p l e R s m args below meth c H locs cells slots Q D tI tZ tG ad A ls hF hP hS hl hX)
theorem e_zast' {k n : Nat} {i x : Int32} {rs : List (Option Nat)} (hd : decode cc pc = .ok (.bastore, 1)) (hq : shl[k]? = some (1, n, rs)) (hi : inb i n = true) (hx : vp_nar .boolean x = x) (kk : Ev sc wr own cc ret dp (pc + 1) L st (up2 M k (ix i) x) o) : Ev sc wr own cc ret dp pc L (.int x :: .int i :: .ref k :: st) M o := by
  intro b hb p l e R s m args below meth c H locs cells slots Q D tI tZ tG ad A ls hF hP hS hl hX
  have hW := hF.2.2.2.2.2.2.1
  refine va_zast hF.1 hF.2.1 hW.1 hP (cw_D hW.2.1 hW.2.2.1 M) hS k 1 (cw_get hq) rfl (inb_in hi) hd (fun H1 locs1 hP1 _ hS1 => ?_)
  rw [hx] at hP1
  have e1 := cw_set (tI := tI) (tZ := tZ) (tG := tG) (ad := ad) (M := M) hq (upd (M k) (ix i) x)
  rw [← up2] at e1
  exact kk b hb p l e R s m args below meth c H1 locs1 cells slots Q D tI tZ tG ad A ls hF (e1 ▸ hP1) hS1 hl hX
theorem e_aald {k n r : Nat} {i : Int32} {rs : List (Option Nat)} (hd : decode cc pc = .ok (.aaload, 1)) (hq : shl[k]? = some (2, n, rs)) (hi : inb i n = true) (hr : rs.getD (ix i) none = some r) (kk : Ev sc wr own cc ret dp (pc + 1) L (.ref r :: st) M o) : Ev sc wr own cc ret dp pc L (.int i :: .ref k :: st) M o := by
  intro b hb p l e R s m args below meth c H locs cells slots Q D tI tZ tG ad A ls hF hP hS hl hX
  refine va_aldq hF.1 hF.2.1 hF.2.2.2.2.2.2.1.1 hP k 2 (cw_get hq) rfl (inb_in hi) hd ?_
  rw [hr]
  exact kk b hb p l e R s m args below meth c H locs cells slots Q D tI tZ tG ad A ls hF hP hS hl hX
theorem e_len {k n : Nat} {v : Int32} {rs : List (Option Nat)} (hd : decode cc pc = .ok (.arraylength, 1)) (hq : shl[k]? = some (0, n, rs)) (hv : Int32.ofNat n = v) (kk : Ev sc wr own cc ret dp (pc + 1) L (.int v :: st) M o) : Ev sc wr own cc ret dp pc L (.ref k :: st) M o := by
  intro b hb p l e R s m args below meth c H locs cells slots Q D tI tZ tG ad A ls hF hP hS hl hX
  exact va_alen hF.1 hF.2.1 hF.2.2.2.2.2.2.1.1 hP k 0 (cw_get hq) rfl hv hd (kk b hb p l e R s m args below meth c H locs cells slots Q D tI tZ tG ad A ls hF hP hS hl hX)
theorem e_iaT' {i : Int32} (hd : decode cc pc = .ok (.iaload, 1)) (hi : inb i 10 = true) (kk : Ev sc wr own cc ret dp (pc + 1) L (.int (tensF (ix i)) :: st) M o) : Ev sc wr own cc ret dp pc L (.int i :: .ref 75 :: st) M o := by
  intro b hb p l e R s m args below meth c H locs cells slots Q D tI tZ tG ad A ls hF hP hS hl hX
  exact va_ti hF.1 hF.2.1 hF.2.2.2.2.2.2.1.2.2.2.1.2 hS (inb_in hi) rfl hd (kk b hb p l e R s m args below meth c H locs cells slots Q D tI tZ tG ad A ls hF hP hS hl hX)
theorem e_iaY' {i : Int32} (hd : decode cc pc = .ok (.iaload, 1)) (hi : inb i 8 = true) (kk : Ev sc wr own cc ret dp (pc + 1) L (.int (signF (ix i)) :: st) M o) : Ev sc wr own cc ret dp pc L (.int i :: .ref 76 :: st) M o := by
  intro b hb p l e R s m args below meth c H locs cells slots Q D tI tZ tG ad A ls hF hP hS hl hX
  exact va_ti hF.1 hF.2.1 hF.2.2.2.2.2.2.1.2.2.2.2.1.2 hS (inb_in hi) rfl hd (kk b hb p l e R s m args below meth c H locs cells slots Q D tI tZ tG ad A ls hF hP hS hl hX)
theorem e_lenY (hd : decode cc pc = .ok (.arraylength, 1)) (kk : Ev sc wr own cc ret dp (pc + 1) L (.int 8 :: st) M o) : Ev sc wr own cc ret dp pc L (.ref 76 :: st) M o := by
  intro b hb p l e R s m args below meth c H locs cells slots Q D tI tZ tG ad A ls hF hP hS hl hX
  exact va_tlen hF.1 hF.2.1 hF.2.2.2.2.2.2.1.2.2.2.2.1.2 hS rfl hd (kk b hb p l e R s m args below meth c H locs cells slots Q D tI tZ tG ad A ls hF hP hS hl hX)
theorem e_getsT {idx : Nat} (hd : decode cc pc = .ok (.getstatic idx, 3)) (hw : Cond.fieldLink own idx RX9 "TENS" "[I" ∈ lw_good) (kk : Ev sc wr own cc ret dp (pc + 3) L (.ref 75 :: st) M o) : Ev sc wr own cc ret dp pc L st M o := by
  intro b hb p l e R s m args below meth c H locs cells slots Q D tI tZ tG ad A ls hF hP hS hl hX
  exact va_gets hF.1 hF.2.1 hF.2.2.2.2.2.2.1.2.2.2.1.1 hS hF.2.2.2.1 (hF.2.2.2.2.1 _ hw) (fun _ h => h) hd (kk b hb p l e R s m args below meth c H locs cells slots Q D tI tZ tG ad A ls hF hP hS hl hX)
theorem e_getsTN {idx : Nat} {host : String} (hd : decode cc pc = .ok (.getstatic idx, 3)) (hw : Cond.fieldLinkNest own idx RX9 "TENS" "[I" host ∈ lw_nest) (kk : Ev sc wr own cc ret dp (pc + 3) L (.ref 75 :: st) M o) : Ev sc wr own cc ret dp pc L st M o := by
  intro b hb p l e R s m args below meth c H locs cells slots Q D tI tZ tG ad A ls hF hP hS hl hX
  exact va_getsN hF.1 hF.2.1 hF.2.2.2.2.2.2.1.2.2.2.1.1 hS hF.2.2.2.1 (va_Nw.use (nest_on hw) (hF.2.2.2.2.2.2.1.2.2.2.2.2 _ hw)) (fun _ h => h) hd (kk b hb p l e R s m args below meth c H locs cells slots Q D tI tZ tG ad A ls hF hP hS hl hX)
theorem e_getsYN {idx : Nat} {host : String} (hd : decode cc pc = .ok (.getstatic idx, 3)) (hw : Cond.fieldLinkNest own idx RX9 "YEAR_SIGNS" "[I" host ∈ lw_nest) (kk : Ev sc wr own cc ret dp (pc + 3) L (.ref 76 :: st) M o) : Ev sc wr own cc ret dp pc L st M o := by
  intro b hb p l e R s m args below meth c H locs cells slots Q D tI tZ tG ad A ls hF hP hS hl hX
  exact va_getsN hF.1 hF.2.1 hF.2.2.2.2.2.2.1.2.2.2.2.1.1 hS hF.2.2.2.1 (va_Nw.use (nest_on hw) (hF.2.2.2.2.2.2.1.2.2.2.2.2 _ hw)) (fun _ h => h) hd (kk b hb p l e R s m args below meth c H locs cells slots Q D tI tZ tG ad A ls hF hP hS hl hX)
theorem e_iaS' {i : Int32} {n : Nat} {f : Nat → Int32} (hd : decode cc pc = .ok (.iaload, 1)) (hi : inb i n = true) (kk : Ev (some (n, f)) wr own cc ret dp (pc + 1) L (.int (f (ix i)) :: st) M o) : Ev (some (n, f)) wr own cc ret dp pc L (.int i :: .ref 77 :: st) M o := by
  intro b hb p l e R s m args below meth c H locs cells slots Q D tI tZ tG ad A ls hF hP hS hl hX
  obtain ⟨h1, h2, h3⟩ := hF.2.2.2.2.2.2.2 n f rfl
  exact va_sld hF.1 hF.2.1 h1 h2 h3 hS (inb_in hi) hd (kk b hb p l e R s m args below meth c H locs cells slots Q D tI tZ tG ad A ls hF hP hS hl hX)
theorem e_lenS {n : Nat} {f : Nat → Int32} (hd : decode cc pc = .ok (.arraylength, 1)) (kk : Ev (some (n, f)) wr own cc ret dp (pc + 1) L (.int (nI n) :: st) M o) : Ev (some (n, f)) wr own cc ret dp pc L (.ref 77 :: st) M o := by
  intro b hb p l e R s m args below meth c H locs cells slots Q D tI tZ tG ad A ls hF hP hS hl hX
  obtain ⟨h1, h2, h3⟩ := hF.2.2.2.2.2.2.2 n f rfl
  exact va_slen hF.1 hF.2.1 h1 h2 h3 hS hd (kk b hb p l e R s m args below meth c H locs cells slots Q D tI tZ tG ad A ls hF hP hS hl hX)
def MathOK (y : MethodName) (c1 : ByteArray) (ret1 : Option FieldType) : Prop := Cond.static y ∈ lw_good ∧ Cond.initialized "java/lang/Math" ∈ lw_good ∧ Cond.code y c1 2 ret1 ∈ lw_good
theorem catsum (ad : Nat → Nat) (st : List Value) : ((st.map (cv ad)).map fun v => v.category).sum = (st.map fun v => v.category).sum := by
  rw [List.map_map]
  congr 1
  apply List.map_congr_left
  intro v _
  exact cv_cat ad v
theorem e_min {x y : Int32} {idx : Nat} (ok : MathOK Lib.Math.min.name Lib.Math.min.code (some .int)) (hd : decode cc pc = .ok (.invokestatic idx, 3)) (hw : Cond.methodLink own idx Lib.Math.min.name ∈ lw_good) (hs0 : Nat.ble (st.map fun v => v.category).sum 8 = true) (hdp : 1 ≤ dp) (kk : Ev sc wr own cc ret dp (pc + 3) L (.int (if y < x then y else x) :: st) M o) : Ev sc wr own cc ret dp pc L (.int y :: .int x :: st) M o := by
  have hs := Nat.le_of_ble_eq_true hs0
  intro b hb p l e R s m args below meth c H locs cells slots Q D tI tZ tG ad A ls hF hP hS hl hX
  have hg := hF.2.2.2.2.1
  obtain ⟨r1, r2, r3, r4⟩ := hF.2.2.2.2.2.1
  exact va_mmin hF.1 hF.2.1 (hF.2.2.1.trans hl.1.symm) hF.2.2.2.1 (hg _ hw) (hg _ ok.1) (hg _ ok.2.1) (hg _ ok.2.2) (by omega) (by rw [catsum]; omega) r3 r4 hd (kk b hb p l e R s m args below meth c H locs cells slots Q D tI tZ tG ad A ls hF hP hS hl hX)
theorem e_max {x y : Int32} {idx : Nat} (ok : MathOK Lib.Math.max.name Lib.Math.max.code (some .int)) (hd : decode cc pc = .ok (.invokestatic idx, 3)) (hw : Cond.methodLink own idx Lib.Math.max.name ∈ lw_good) (hs0 : Nat.ble (st.map fun v => v.category).sum 8 = true) (hdp : 1 ≤ dp) (kk : Ev sc wr own cc ret dp (pc + 3) L (.int (if x < y then y else x) :: st) M o) : Ev sc wr own cc ret dp pc L (.int y :: .int x :: st) M o := by
  have hs := Nat.le_of_ble_eq_true hs0
  intro b hb p l e R s m args below meth c H locs cells slots Q D tI tZ tG ad A ls hF hP hS hl hX
  have hg := hF.2.2.2.2.1
  obtain ⟨r1, r2, r3, r4⟩ := hF.2.2.2.2.2.1
  exact va_mmax hF.1 hF.2.1 (hF.2.2.1.trans hl.1.symm) hF.2.2.2.1 (hg _ hw) (hg _ ok.1) (hg _ ok.2.1) (hg _ ok.2.2) (by omega) (by rw [catsum]; omega) r3 r4 hd (kk b hb p l e R s m args below meth c H locs cells slots Q D tI tZ tG ad A ls hF hP hS hl hX)
theorem e_absl {x : Int64} {idx : Nat} (ok : MathOK Lib.MathLoose.abs_long.x Lib.MathLoose.abs_long.code (some .long)) (hd : decode cc pc = .ok (.invokestatic idx, 3)) (hw : Cond.methodLink own idx Lib.MathLoose.abs_long.x ∈ lw_good) (hs0 : Nat.ble (st.map fun v => v.category).sum 8 = true) (hdp : 1 ≤ dp) (kk : Ev sc wr own cc ret dp (pc + 3) L (.long (if 0 < x then x else -x) :: st) M o) : Ev sc wr own cc ret dp pc L (.long x :: st) M o := by
  have hs := Nat.le_of_ble_eq_true hs0
  intro b hb p l e R s m args below meth c H locs cells slots Q D tI tZ tG ad A ls hF hP hS hl hX
  have hg := hF.2.2.2.2.1
  obtain ⟨r1, r2, r3, r4⟩ := hF.2.2.2.2.2.1
  exact va_mabs_long hF.1 hF.2.1 (hF.2.2.1.trans hl.1.symm) hF.2.2.2.1 (hg _ hw) (hg _ ok.1) (hg _ ok.2.1) (hg _ ok.2.2) (by omega) (by rw [catsum]; omega) r3 r4 hd (kk b hb p l e R s m args below meth c H locs cells slots Q D tI tZ tG ad A ls hF hP hS hl hX)
def CopyOK : Prop := Cond.native arraycopyName ∈ lw_good ∧ Cond.static arraycopyName ∈ lw_good ∧ Cond.initialized "java/lang/System" ∈ lw_good
theorem e_copy {k0 k1 n0 n1 idx : Nat} {sp q n : Int32} {r0 r1 : List (Option Nat)} (ok : CopyOK) (hd : decode cc pc = .ok (.invokestatic idx, 3)) (hw : Cond.methodLink own idx arraycopyName ∈ lw_good) (hq0 : shl[k0]? = some (0, n0, r0)) (hq1 : shl[k1]? = some (0, n1, r1)) (h1 : ¬ sp < 0) (h2 : ¬ q < 0) (h3 : ¬ n < 0) (h4 : sp.toNatClampNeg + n.toNatClampNeg ≤ n0) (h5 : q.toNatClampNeg + n.toNatClampNeg ≤ n1) (hs0 : Nat.ble (st.map fun v => v.category).sum 8 = true) (hdp : 1 ≤ dp) (kk : Ev sc wr own cc ret dp (pc + 3) L st (upA M k1 (va_cpy (M k0) (M k1) sp.toNatClampNeg q.toNatClampNeg n.toNatClampNeg)) o) : Ev sc wr own cc ret dp pc L (.int n :: .int q :: .ref k1 :: .int sp :: .ref k0 :: st) M o := by
  have hs := Nat.le_of_ble_eq_true hs0
  intro b hb p l e R s m args below meth c H locs cells slots Q D tI tZ tG ad A ls hF hP hS hl hX
  have hg := hF.2.2.2.2.1
  have hW := hF.2.2.2.2.2.2.1
  obtain ⟨r1, r2, r3, r4⟩ := hF.2.2.2.2.2.1
  refine va_copyi (ty := .int) hF.1 hF.2.1 (hF.2.2.1.trans hl.1.symm) hF.2.2.2.1 (hg _ hw) (hg _ ok.1) (hg _ ok.2.1) (hg _ ok.2.2) hW.1 hP (cw_D hW.2.1 hW.2.2.1 M) hS k0 k1 0 0 (cw_get hq0) (cw_get hq1) rfl rfl rfl h1 h2 h3 h4 h5 (fun _ _ => rfl) (by omega) (by rw [catsum]; exact Nat.le_trans (Nat.add_le_add hs (Nat.le_of_ble_eq_true (m := 26) rfl)) (by omega)) hd (fun H1 locs1 hP1 _ hS1 => ?_)
  have e1 := cw_set (tI := tI) (tZ := tZ) (tG := tG) (ad := ad) (M := M) hq1 (va_cpy (M k0) (M k1) sp.toNatClampNeg q.toNatClampNeg n.toNatClampNeg)
  exact kk b hb p l e R s m args below meth c H1 locs1 cells slots Q D tI tZ tG ad A ls hF (e1 ▸ hP1) hS1 hl hX
end Heap
