def Ca {β : Type} (sc : Option (Nat × (Nat → Int32))) (wr1 : β → Option Value × Mem) (own : String) (cc : ByteArray) (dp pc : Nat) (L : List (Option Value)) (st rest : List Value) (M : Mem) (o1 : Option β) : Prop :=
  ∀ b, o1 = some b → ∀ (p : Program) (l : Launch) (e : Env) (R : Room) (s : State) (m : MethodId) (args : Array Value) (below : List Frame) (meth : Method) (c : Code) (H : Heap) (locs : List Loc) (cells slots : Nat) (D : va_G) (tI tZ tG : ClassId) (ad : Nat → Nat) (A : Nat → Prop) (ls : Array Slot),
    Fx sc own cc dp L.length p R s m args c cells slots D tI tZ tG ad A → va_P D vwCl (cw tI tZ tG ad M) H → va_S A s.heap H locs → lh ad ls L →
    va_Run p l e R s m args below meth c H locs cells slots 0 0 (F0 m pc ls (st.map (cv ad))) (rest.map (cv ad)) (Qe D tI tZ tG ad (wr1 b) #[]) (Aw ad)
theorem opt_map_list {γ δ : Type} (f : γ → δ) (o : Option γ) (r : List γ) : (o.map f).toList ++ r.map f = (o.toList ++ r).map f := by cases o <;> rfl
section Calls
variable {α β : Type} {sc : Option (Nat × (Nat → Int32))} {wr : α → Option Value × Mem} {wr1 : β → Option Value × Mem} {own : String} {cc : ByteArray} {ret : Option FieldType} {dp pc : Nat} {L : List (Option Value)} {st rest : List Value} {M : Mem} {o1 : Option β}
theorem ev_call {k : β → Option α} (hc : Ca sc wr1 own cc dp pc L st rest M o1) (hk : ∀ b, o1 = some b → Ev sc wr own cc ret dp (pc + 3) L ((wr1 b).1.toList ++ rest) (wr1 b).2 (k b)) : Ev sc wr own cc ret dp pc L st M (o1.bind k) := by
  intro b hb p l e R s m args below meth c H locs cells slots Q D tI tZ tG ad A ls hF hP hS hl hX
  obtain ⟨x, hx1, hx2⟩ := Option.bind_eq_some_iff.mp hb
  have hA := hF.2.2.2.2.2.2.1.2.2.1
  have hAw : ∀ q, Aw ad q → A q := fun q ⟨k, hk, e⟩ => e ▸ hA k hk
  intro T hT X
  obtain ⟨v, st₀, t, T', L', h0, X', hL, e1, e2, ⟨hv, hb1, hz, hk1⟩, stp⟩ := hc x hx1 p l e R s m args below meth c H locs cells slots D tI tZ tG ad A ls hF hP hS hl T hT X
  rw [h0] at hz hk1
  have hv2 : v = (wr1 x).1.map (cv ad) := by injection hv
  subst hv2
  have hS' : va_S A s.heap T'.heap (locs ++ L') := ⟨Nat.le_trans hS.1 (by rw [e1]; exact hz), fun q h1 h2 => by rw [e1, hk1 q (Nat.lt_of_lt_of_le h1 hS.1) (fun z => h2 (hAw q z))]; exact hS.2.1 q h1 h2, fun q hq => by
      rcases List.mem_append.mp hq with h | h
      · exact hS.2.2 q h
      · exact hAw _ (hL q h)⟩
  obtain ⟨t2, a1, b1⟩ := hk x hx1 b hx2 p l e R s m args below meth c T'.heap (locs ++ L') cells slots Q D tI tZ tG ad A ls hF (by rw [e1]; exact hb1) hS' hl hX T' rfl X'
  refine ⟨t2, stp t2 ?_, b1⟩
  rw [← opt_map_list] at a1
  exact a1
/-- a call that answers, whatever may be -/
theorem ev_callT {b0 : β} {o : Option α} (hc : Ca sc wr1 own cc dp pc L st rest M (some b0)) (hk : Ev sc wr own cc ret dp (pc + 3) L ((wr1 b0).1.toList ++ rest) (wr1 b0).2 o) : Ev sc wr own cc ret dp pc L st M o := by
  have h := ev_call (wr := wr) (ret := ret) (k := fun _ => o) hc (fun b hb => by cases hb; exact hk)
  exact h
def MS (y : MethodName) (c1 : ByteArray) (nL : Nat) (ret1 : Option FieldType) (n : Nat) : Prop := Cond.static y ∈ lw_good ∧ Cond.initialized y.cls ∈ lw_good ∧ Cond.code y c1 nL ret1 ∈ lw_good ∧ (y.cls ≠ "java/lang/invoke/MethodHandle" ∧ y.cls ≠ "java/lang/invoke/VarHandle" ∧ (parseMethodDescriptor y.desc).map (fun d => d.parameters.length) = some n) ∧ nL ≤ 15
def MV (y : MethodName) (c1 : ByteArray) (nL : Nat) (ret1 : Option FieldType) (n : Nat) : Prop := Cond.instanceMethod y ∈ lw_good ∧ Cond.selects y.cls y y ∈ lw_good ∧ Cond.initialized y.cls ∈ lw_good ∧ Cond.code y c1 nL ret1 ∈ lw_good ∧ (y.cls ≠ "java/lang/invoke/MethodHandle" ∧ y.cls ≠ "java/lang/invoke/VarHandle" ∧ (parseMethodDescriptor y.desc).map (fun d => d.parameters.length) = some n) ∧ nL ≤ 15
theorem pc_blind (D : va_G) (tI tZ tG : ClassId) (ad : Nat → Nat) (as : List Value) (M : Mem) : FrameBlind (PcW D tI tZ tG ad as M) := fun a U g mk ⟨q0, qW, qP⟩ => ⟨q0, qW.calling g mk a, qP⟩
theorem pc_at {D : va_G} {tI tZ tG : ClassId} {ad : Nat → Nat} {A : Nat → Prop} {as : List Value} {M : Mem} {s : State} {H : Heap} {locs : List Loc} (hW : Wd D tI tZ tG ad A s) (hP : va_P D vwCl (cw tI tZ tG ad M) H) (hS : va_S A s.heap H locs) (U : State) (hU : U.heap = H) (hw : s.WarmedH U.vm) : PcW D tI tZ tG ad as M (as.map (cv ad)).toArray U := ⟨rfl, Wd.warm hw (by rw [hU]; exact hS) hW, by rw [hU]; exact hP⟩
theorem good_all {ws : List Cond} (h : ∀ w ∈ ws, w ∈ lw_good) : GoodIn lw_good ws := fun w hw => ⟨h w hw, good_of_word (List.mem_filter.mp (h w hw)).2⟩
theorem ca_S {y : MethodName} {c1 : ByteArray} {nL1 dp1 idx n : Nat} {ret1 : Option FieldType} {as : List Value} (ms : MS y c1 nL1 ret1 n) (hsp : SpO wr1 y c1 nL1 ret1 dp1 as M o1) (hd : decode cc pc = .ok (.invokestatic idx, 3)) (hw : Cond.methodLink own idx y ∈ lw_good) (hn : as.length = n) (hst : as.reverse ++ rest = st) (hr0 : Nat.ble (rest.map fun v => v.category).sum 8 = true) (hdp : dp1 + 1 ≤ dp) : Ca sc wr1 own cc dp pc L st rest M o1 := by
  have hr := Nat.le_of_ble_eq_true hr0
  intro b hb p l e R s m args below meth c H locs cells slots D tI tZ tG ad A ls hF hP hS hl
  obtain ⟨r1, r2, r3, r4⟩ := hF.2.2.2.2.2.1
  obtain ⟨m1, m2, m3, m4, m5⟩ := ms
  have hR : (rmD dp1).frames + 1 ≤ R.frames ∧ 8 + (nL1 + 11) + (rmD dp1).locals ≤ R.locals := by
    constructor
    · show dp1 + 1 ≤ R.frames
      omega
    · show 8 + (nL1 + 11) + 34 * dp1 ≤ R.locals
      omega
  have hT : GoodIn lw_good (va_wsS own idx y (Cond.code y c1 nL1 ret1 :: lw_good)) := good_all (by
    intro w h
    rcases List.mem_append.mp h with h | h
    · rcases List.mem_cons.mp h with rfl | h
      · exact hw
      · rcases List.mem_cons.mp h with rfl | h
        · exact m1
        · rw [List.mem_singleton] at h
          subst h
          exact m2
    · rcases List.mem_cons.mp h with rfl | h
      · exact m3
      · exact h)
  refine va_runS (As := as.map (cv ad)) (Qc := Qe D tI tZ tG ad (wr1 b)) (n := n) ⟨hF.1, hF.2.1, hF.2.2.1, hF.2.2.2.1, hF.2.2.2.2.1⟩ (hsp b hb l D tI tZ tG ad) (va_cwS n hF.2.2.2.2.1 hT rfl rfl rfl m4 hR) ⟨pc_blind D tI tZ tG ad as M, pc_at hF.2.2.2.2.2.2.1 hP hS⟩ rfl (by rw [List.length_map]; exact hn) hl.1 ?_ (lv_room (by rw [catsum]; exact hr)) hd ⟨r3, r4⟩
  show st.map (cv ad) = (as.map (cv ad)).reverse ++ rest.map (cv ad)
  rw [← hst, List.map_append, List.map_reverse]
theorem ca_SN {y : MethodName} {c1 : ByteArray} {nL1 dp1 idx n : Nat} {host : String} {ret1 : Option FieldType} {as : List Value} (ms : MS y c1 nL1 ret1 n) (hsp : SpO wr1 y c1 nL1 ret1 dp1 as M o1) (hd : decode cc pc = .ok (.invokestatic idx, 3)) (hw : Cond.methodLinkNest own idx y host ∈ lw_nest) (hn : as.length = n) (hst : as.reverse ++ rest = st) (hr0 : Nat.ble (rest.map fun v => v.category).sum 8 = true) (hdp : dp1 + 1 ≤ dp) : Ca sc wr1 own cc dp pc L st rest M o1 := by
  have hr := Nat.le_of_ble_eq_true hr0
  intro b hb p l e R s m args below meth c H locs cells slots D tI tZ tG ad A ls hF hP hS hl
  obtain ⟨r1, r2, r3, r4⟩ := hF.2.2.2.2.2.1
  obtain ⟨m1, m2, m3, m4, m5⟩ := ms
  have hR : (rmD dp1).frames + 1 ≤ R.frames ∧ 8 + (nL1 + 11) + (rmD dp1).locals ≤ R.locals := by
    constructor
    · show dp1 + 1 ≤ R.frames
      omega
    · show 8 + (nL1 + 11) + 34 * dp1 ≤ R.locals
      omega
  have hT : GoodIn lw_good (Cond.code y c1 nL1 ret1 :: lw_good) := good_in0 _ m3
  have hN : va_Nw (.methodLinkNest own idx y host) s := hF.2.2.2.2.2.2.1.2.2.2.2.2 _ hw
  refine va_runSN (As := as.map (cv ad)) (Qc := Qe D tI tZ tG ad (wr1 b)) (n := n) (host := host) ⟨hF.1, hF.2.1, hF.2.2.1, hF.2.2.2.1, hF.2.2.2.2.1⟩ (hsp b hb l D tI tZ tG ad) ⟨va_cnB n hF.2.2.2.2.1 hT rfl rfl rfl hN (hF.2.2.2.2.1 _ m2) m4 hR, hF.2.2.2.2.1 _ m1, trivial⟩ ⟨pc_blind D tI tZ tG ad as M, pc_at hF.2.2.2.2.2.2.1 hP hS⟩ rfl (by rw [List.length_map]; exact hn) hl.1 ?_ (lv_room (by rw [catsum]; exact hr)) hd ⟨r3, r4⟩
  show st.map (cv ad) = (as.map (cv ad)).reverse ++ rest.map (cv ad)
  rw [← hst, List.map_append, List.map_reverse]
theorem ca_V {y : MethodName} {c1 : ByteArray} {nL1 dp1 idx n k ci n0 N : Nat} {T : u_T} {rs : List (Option Nat)} {ret1 : Option FieldType} {as : List Value} (mv : MV y c1 nL1 ret1 n) (hsp : SpO wr1 y c1 nL1 ret1 dp1 (.ref k :: as) M o1) (hd : decode cc pc = .ok (.invokevirtual idx, 3)) (hw : Cond.methodLink own idx y ∈ lw_good) (hq : shl[k]? = some (ci + 3, n0, rs)) (hc : vwCl[ci]? = some (y.cls, T, N)) (hn : as.length = n) (hst : as.reverse ++ .ref k :: rest = st) (hr0 : Nat.ble (rest.map fun v => v.category).sum 8 = true) (hdp : dp1 + 1 ≤ dp) : Ca sc wr1 own cc dp pc L st rest M o1 := by
  have hr := Nat.le_of_ble_eq_true hr0
  intro b hb p l e R s m args below meth c H locs cells slots D tI tZ tG ad A ls hF hP hS hl
  obtain ⟨r1, r2, r3, r4⟩ := hF.2.2.2.2.2.1
  obtain ⟨m1, m2, m3, m4, m5, m6⟩ := mv
  have hR : (rmD dp1).frames + 1 ≤ R.frames ∧ 8 + (nL1 + 11) + (rmD dp1).locals ≤ R.locals := by
    constructor
    · show dp1 + 1 ≤ R.frames
      omega
    · show 8 + (nL1 + 11) + 34 * dp1 ≤ R.locals
      omega
  have hT : GoodIn lw_good (wsV own idx y.cls y (Cond.code y c1 nL1 ret1 :: lw_good)) := good_all (by
    intro w h
    rcases List.mem_append.mp h with h | h
    · rcases List.mem_cons.mp h with rfl | h
      · exact hw
      · rcases List.mem_cons.mp h with rfl | h
        · exact m1
        · rcases List.mem_cons.mp h with rfl | h
          · exact m2
          · rw [List.mem_singleton] at h
            subst h
            exact m3
    · rcases List.mem_cons.mp h with rfl | h
      · exact m4
      · exact h)
  refine va_runV (C := y.cls) (b := ad k) (As := as.map (cv ad)) (Qc := Qe D tI tZ tG ad (wr1 b)) (n := n) ⟨hF.1, hF.2.1, hF.2.2.1, hF.2.2.2.1, hF.2.2.2.2.1⟩ (hsp b hb l D tI tZ tG ad) (cwV n hF.2.2.2.2.1 hT rfl rfl rfl ⟨rfl, m5⟩ hR) ⟨pc_blind D tI tZ tG ad _ M, va_recv hF.2.2.2.2.2.2.1.1 hP hc (cw_get hq), fun U hU hw => pc_at (as := .ref k :: as) hF.2.2.2.2.2.2.1 hP hS U hU hw⟩ rfl (by rw [List.length_map]; exact hn) hl.1 ?_ (lv_room (by rw [catsum]; exact hr)) hd ⟨r3, r4⟩
  show st.map (cv ad) = (as.map (cv ad)).reverse ++ .ref (ad k) :: rest.map (cv ad)
  rw [← hst, List.map_append, List.map_reverse]
  rfl
end Calls
/-- the locals with which a method begins -/
def ent (as : List Value) (n : Nat) : List (Option Value) := (as.flatMap fun v => if v.category = 2 then [some v, none] else [some v]) ++ List.replicate (n - (lg_sl as).length) none
theorem ent_mem (ad : Nat → Nat) : ∀ (as : List Value) (i0 j : Nat) (v : Value), (as.flatMap fun v => if v.category = 2 then [some v, none] else [some v])[j]? = some (some v) → (i0 + j, cv ad v) ∈ lv_args i0 (as.map (cv ad))
  | [], i0, j, v, h => by simp at h
  | a :: as, i0, j, v, h => by
    rw [List.map_cons]
    unfold lv_args
    rw [List.flatMap_cons] at h
    by_cases hc : a.category = 2
    · rw [if_pos hc] at h
      rw [if_pos ((cv_cat ad a).trans hc)]
      match j, h with
      | 0, h =>
        have h2 : some (some a) = some (some v) := h
        cases h2
        exact List.mem_cons_self
      | 1, h =>
        have h2 : (some none : Option (Option Value)) = some (some v) := h
        cases h2
      | j + 2, h =>
        have h2 : (as.flatMap fun v => if v.category = 2 then [some v, none] else [some v])[j]? = some (some v) := h
        have h3 := ent_mem ad as (i0 + 2) j v h2
        rw [show i0 + 2 + j = i0 + (j + 2) by omega] at h3
        exact List.mem_cons_of_mem _ h3
    · rw [if_neg hc] at h
      rw [if_neg (fun h => hc ((cv_cat ad a).symm.trans h))]
      match j, h with
      | 0, h =>
        have h2 : some (some a) = some (some v) := h
        cases h2
        exact List.mem_cons_self
      | j + 1, h =>
        have h2 : (as.flatMap fun v => if v.category = 2 then [some v, none] else [some v])[j]? = some (some v) := h
        have h3 := ent_mem ad as (i0 + 1) j v h2
        rw [show i0 + 1 + j = i0 + (j + 1) by omega] at h3
        exact List.mem_cons_of_mem _ h3
theorem lg_len (ad : Nat → Nat) : ∀ as : List Value, (lg_sl (as.map (cv ad))).length = (lg_sl as).length
  | [] => rfl
  | a :: as => by
    have ih := lg_len ad as
    unfold lg_sl at ih ⊢
    rw [List.map_cons, List.flatMap_cons, List.flatMap_cons, List.length_append, List.length_append, ih, cv_cat]
    split <;> rfl
theorem ent_len0 : ∀ as : List Value, (as.flatMap fun v => if v.category = 2 then [some v, none] else [some v]).length = (lg_sl as).length
  | [] => rfl
  | a :: as => by
    have ih := ent_len0 as
    unfold lg_sl at ih ⊢
    rw [List.flatMap_cons, List.flatMap_cons, List.length_append, List.length_append, ih]
    split <;> rfl
theorem ent_len (as : List Value) {n : Nat} (h : (lg_sl as).length ≤ n) : (ent as n).length = n := by
  unfold ent
  rw [List.length_append, List.length_replicate, ent_len0]
  omega
theorem ent_lh (ad : Nat → Nat) (as : List Value) {n : Nat} (h : (lg_sl as).length ≤ n) : lh ad ((lg_sl (as.map (cv ad)) ++ List.replicate (n - (lg_sl (as.map (cv ad))).length) Slot.unset).toArray) (ent as n) := by
  have h1 := lv_entry (as.map (cv ad)) (n := n) (by rw [lg_len]; exact h)
  refine ⟨h1.1.trans (ent_len as h).symm, h1.2.1, fun i v hi => ?_⟩
  unfold ent at hi
  by_cases hl : i < (as.flatMap fun v => if v.category = 2 then [some v, none] else [some v]).length
  · rw [List.getElem?_append_left hl] at hi
    have h2 := ent_mem ad as 0 i v hi
    rw [Nat.zero_add] at h2
    exact h1.2.2 (i, cv ad v) h2
  · rw [List.getElem?_append_right (by omega)] at hi
    have := List.eq_of_mem_replicate (List.mem_of_getElem? hi)
    cases this
theorem met_ofW {l : Launch} {y : MethodName} {ws ws' : List Cond} {rm : Room} {Pc : Array Value → State → Prop} {Qc : Array Value → State → Outcome → State → Prop} {mc ms : Nat} {free : Addr → Prop} {cc : ByteArray} {maxL : Nat} {ret : Option FieldType}
    (hy : plainFor y = true) (hw : ws = Cond.code y cc maxL ret :: ws')
    (body : ∀ p e s m args below meth c s₁, BodyLoose p l y (headSpec ws rm) cc maxL ret e s m args below meth c s₁ → c.maxLocals = maxL → Pc args s →
      W p l e (headSpec ws rm).room s m args below meth c s.heap [] 0 0 (MQ below Qc args s mc ms free) (entryFrame m args maxL)) : Met l y ws rm Pc Qc mc ms free := by
  refine MetFree.of_bodySF (code := cc) (maxLocals := maxL) (ret := ret) hy ?_ ?_
  · intro args s m h hn
    obtain ⟨meth, c, h1, h2, h3, h4, h5, h6, -, -⟩ := Cond.code_spec hn (atoms_spec (ws := ws) h _ (by rw [hw]; exact List.mem_cons_self))
    exact ⟨meth, c, h1, h2, h3, h4, h5, h6⟩
  · intro p e s m args below meth c s₁ B hml hP _
    have hh0 : s₁.heap = s.heap := by rw [B.state]; rfl
    obtain ⟨t, a1, o, b1, b2, b3⟩ := body p e s m args below meth c s₁ B hml hP s₁ hh0 (Stand.of_body B)
    exact ⟨t, o, a1, b1, b2, ⟨b3.1, b3.2⟩⟩
theorem sp_of {α : Type} {wr : α → Option Value × Mem} {y : MethodName} {own : String} {c1 : ByteArray} {nL dp : Nat} {ret : Option FieldType} {as : List Value} {L : List (Option Value)} {M : Mem} {o : Option α} (hy : y.cls = own) (hpl : plainFor y = true) (hlen0 : Nat.ble (lg_sl as).length nL = true) (hL : ent as nL = L) (h : Ev none wr own c1 ret dp 0 L [] M o) : SpO wr y c1 nL ret dp as M o := by
  subst hL
  have hlen := Nat.le_of_ble_eq_true hlen0
  intro b hb l D tI tZ tG ad
  refine met_ofW (cc := c1) (maxL := nL) (ret := ret) hpl rfl ?_
  intro p e s m args below meth c s₁ B hml hv
  obtain ⟨rfl, hW, hP⟩ := hv
  have hts := atoms_spec (ws := Cond.code y c1 nL ret :: lw_good) B.pre
  have hown : s.vm.findClass own = some m.cls := hy ▸ findClass_of_methodNamed B.named
  have hlocks := B.notSynchronized
  have hr := B.returns
  rw [lg_entry_eq]
  refine h b hb p l e _ s m _ below meth c s.heap [] 0 0 _ D tI tZ tG ad (Aw ad) _ ⟨B.exec, B.bytes, ?_, hown, fun w hw => hts w (List.mem_cons_of_mem _ hw), ⟨Nat.le_refl _, Nat.le_refl _, Nat.zero_le _, Nat.zero_le _⟩, hW, fun n f h => by cases h⟩ hP va_S.rf (ent_lh ad as hlen) ?_
  · rw [ent_len as hlen]; exact hml
  · intro H' locs' ls' pc' hok hP' hS' hd
    have hq : ∀ t : State, t.heap = H' → Qe D tI tZ tG ad (wr b) (as.map (cv ad)).toArray s (.returned ((wr b).1.map (cv ad))) t := fun t ht => ⟨rfl, by rw [ht]; exact hP', hS'.F ht⟩
    rcases hok with ⟨h1, h2⟩ | ⟨v, h1, h2⟩ | ⟨ty, v, h1, h2, h3⟩
    · rw [h2] at hq hd ⊢
      exact W.vret B.exec B.bytes (hr.trans h1) (fun t ht _ => hq t ht) hS'.2.2 hd
    · rw [h2] at hq hd ⊢
      exact W.lret B.exec B.bytes (hr.trans h1) (fun t ht _ => hq t ht) hS'.2.2 hd
    · rw [h2] at hq hd ⊢
      exact W.zret B.exec B.bytes (hr.trans h1) h3 (fun t ht _ => hq t ht) hS'.2.2 hd
-- how what is answered is told
abbrev wI : Int32 × Mem → Option Value × Mem := fun q => (some (.int q.1), q.2)
abbrev wR (M : Mem) : Int32 → Option Value × Mem := fun r => (some (.int r), M)
abbrev wL (M : Mem) : Int64 → Option Value × Mem := fun r => (some (.long r), M)
abbrev wV : Mem → Option Value × Mem := fun M => (none, M)
def dec_ok (c1 : ByteArray) (tb : List (Nat × Instr × Nat)) : Bool := tb.all (fun q => decide (decode c1 q.1 = .ok q.2))
theorem dt {c1 : ByteArray} {tb : List (Nat × Instr × Nat)} (h : dec_ok c1 tb = true) (i : Nat) {pc n : Nat} {ins : Instr} (hi : tb[i]? = some (pc, ins, n)) : decode c1 pc = .ok (ins, n) := by
  have h1 := List.all_eq_true.mp h _ (List.mem_of_getElem? hi)
  exact of_decide_eq_true h1
def fgt (mask : List Bool) (L : List (Option Value)) : List (Option Value) := List.zipWith (fun b v => if b then v else none) mask L
theorem e_forget {α : Type} {sc : Option (Nat × (Nat → Int32))} {wr : α → Option Value × Mem} {own : String} {cc : ByteArray} {ret : Option FieldType} {dp pc : Nat} {L : List (Option Value)} {st : List Value} {M : Mem} {o : Option α} (mask : List Bool) (L' : List (Option Value)) (h : fgt mask L = L' ∧ mask.length = L.length) (k : Ev sc wr own cc ret dp pc L' st M o) : Ev sc wr own cc ret dp pc L st M o := by
  obtain ⟨h1, h2⟩ := h
  subst h1
  have hlen : (fgt mask L).length = L.length := by
    unfold fgt
    rw [List.length_zipWith, h2, Nat.min_self]
  intro b hb p l e R s m args below meth c H locs cells slots Q D tI tZ tG ad A ls hF hP hS hl hX
  refine k b hb p l e R s m args below meth c H locs cells slots Q D tI tZ tG ad A ls (by rw [hlen]; exact hF) hP hS ⟨hl.1.trans hlen.symm, hl.2.1, fun i v hi => hl.2.2 i v ?_⟩ hX
  unfold fgt at hi
  rw [List.getElem?_zipWith] at hi
  cases hm : mask[i]? with
  | none => rw [hm] at hi; cases hi
  | some t =>
    cases hv : L[i]? with
    | none => rw [hm, hv] at hi; cases hi
    | some w =>
      rw [hm, hv] at hi
      have h3 : (if t = true then w else none) = some v := Option.some.inj hi
      cases t with
      | true => rw [if_pos rfl] at h3; rw [h3]
      | false => simp at h3
theorem narrow_bool {x : Int32} (h : x = 0 ∨ x = 1) : narrow .boolean (.int x) = .int x := by rcases h with rfl | rfl <;> rfl
theorem sw_out (hi : Nat) {x : Int32} (h : (List.range (hi + 1)).all (fun j => decide (¬ x = Int32.ofNat j)) = true) : x.toInt < 0 ∨ (hi : Int) < x.toInt := by
  rcases Int.lt_or_le x.toInt 0 with h1 | h1
  · exact Or.inl h1
  · rcases Int.lt_or_le (hi : Int) x.toInt with h2 | h2
    · exact Or.inr h2
    · exfalso
      have h3 := List.all_eq_true.mp h x.toInt.toNat (List.mem_range.mpr (by omega))
      have h4 := of_decide_eq_true h3
      obtain ⟨j, hj, e⟩ := nI_of (x := x) (fun q => by have := Int32.lt_iff_toInt_lt.mp q; simp at this; omega)
      apply h4
      have e2 : x.toInt = (j : Int) := by rw [e]; exact nI_toInt hj
      rw [e2]
      exact e
abbrev remI (x y : Int32) : Int32 := x - x / y * y
abbrev remL (x y : Int64) : Int64 := x - x / y * y
abbrev ushr (x y : Int32) : Int32 := (x.toUInt32 >>> (y.toUInt32 &&& Int32.toUInt32 31)).toInt32
def minI (x y : Int32) : Int32 := if y < x then y else x
def maxI (x y : Int32) : Int32 := if x < y then y else x
def absL (x : Int64) : Int64 := if 0 < x then x else -x
def FU : Nat := 1000
