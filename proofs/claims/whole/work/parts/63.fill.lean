theorem set_same {α : Type} {w : List α} {i : Nat} {a : α} (h : w[i]? = some a) : w.set i a = w := by
  apply List.ext_getElem?
  intro j
  rw [List.getElem?_set]
  by_cases e : i = j
  · subst e
    rw [if_pos rfl, if_pos (List.getElem?_eq_some_iff.mp h).1, h]
  · rw [if_neg e]
def fillF (x : Int32) (f : Nat → Int32) (n : Nat) : Nat → Int32 := fun k => if k < n then x else f k
theorem fillF_0 (x : Int32) (f : Nat → Int32) : fillF x f 0 = f := funext fun _ => if_neg (Nat.not_lt_zero _)
theorem fillF_s (x : Int32) (f : Nat → Int32) (n : Nat) : upd (fillF x f n) n x = fillF x f (n + 1) := by
  funext k
  by_cases e : k = n
  · subst e
    rw [pk_us]
    exact (if_pos (by omega)).symm
  · rw [pk_un e]
    show (if k < n then x else f k) = if k < n + 1 then x else f k
    by_cases h : k < n
    · rw [if_pos h, if_pos (by omega)]
    · rw [if_neg h, if_neg (by omega)]
theorem fill_loop {p : Program} {l : Launch} {e : Env} {R : Room} {s : State} {m : MethodId} {args : Array Value} {below : List Frame} {meth : Method} {c : Code} {cells slots : Nat} {Q : State → Prop} {D : va_G} {tI tZ tG : ClassId} {base q j N : Nat} {ws : va_W} {x : Int32} {f : Nat → Int32} (hx : p.tables.exec = Jvm.exec) (hb : c.code = cJ7_fill_53178) (hU : CU D tI tZ tG s) (hj : j < ws.length) (hN : N < 2 ^ 31)
    (hQ : ∀ (H : Heap) (locs : List Loc) (ls : Array Slot), Wo D base (ws.set j (q, .inl (tI, N, .inl (fillF x f N)))) s.heap H locs → W p l e R s m args below meth c H locs cells slots Q (F0 m 20 ls [])) :
    ∀ k i (H : Heap) (locs : List Loc) (ls : Array Slot), i + k = N → lv_has ls 4 [(2, .int (nI i)), (3, .int (nI N)), (0, .ref q), (1, .int x)] → Wo D base (ws.set j (q, .inl (tI, N, .inl (fillF x f i)))) s.heap H locs → W p l e R s m args below meth c H locs cells slots Q (F0 m 5 ls [])
  | 0, i, H, locs, ls, hi, hl, hW => by
    have e8 : i = N := by omega
    subst e8
    refine lv_iload_n hx hb (dt dk_J7_fill_53178 5 rfl) rfl (lv_at hl 0 rfl) ?_
    refine lv_iload_n hx hb (dt dk_J7_fill_53178 6 rfl) rfl (lv_at hl 1 rfl) ?_
    refine lv_icmp_ge (tgt := 20) hx hb (dt dk_J7_fill_53178 7 rfl) (by decide) (fun _ => hQ H locs ls hW) (fun z => absurd (nI_le (Nat.le_refl _) hN) z)
  | k + 1, i, H, locs, ls, hi, hl, hW => by
    refine lv_iload_n hx hb (dt dk_J7_fill_53178 5 rfl) rfl (lv_at hl 0 rfl) ?_
    refine lv_iload_n hx hb (dt dk_J7_fill_53178 6 rfl) rfl (lv_at hl 1 rfl) ?_
    refine lv_icmp_ge (tgt := 20) hx hb (dt dk_J7_fill_53178 7 rfl) (by decide) (fun z => absurd z (nI_ge (show i < N by omega) hN)) (fun _ => ?_)
    refine lv_aload_n hx hb (dt dk_J7_fill_53178 8 rfl) rfl (lv_at hl 2 rfl) ?_
    refine lv_iload_n hx hb (dt dk_J7_fill_53178 9 rfl) rfl (lv_at hl 0 rfl) ?_
    refine lv_iload_n hx hb (dt dk_J7_fill_53178 10 rfl) rfl (lv_at hl 3 rfl) ?_
    obtain ⟨hP, hD, hS⟩ := hW
    have he : (ws.set j (q, .inl (tI, N, .inl (fillF x f i))))[j]? = some (q, .inl (tI, N, .inl (fillF x f i))) := by
      rw [List.getElem?_set, if_pos rfl, if_pos hj]
    refine va_iast hx hb hU.1 hP hD hS j 0 he rfl (inb_in (inb_nI (show i < N by omega) hN)) (dt dk_J7_fill_53178 11 rfl) (fun H1 locs1 hP1 hD1 hS1 => ?_)
    rw [show (nI i).toNatClampNeg = i from ix_nI (by omega), fillF_s, List.set_set] at hP1 hD1
    refine lv_iinc (v := nI (i + 1)) (lv' := [(2, .int (nI (i + 1))), (3, .int (nI N)), (0, .ref q), (1, .int x)]) hx hb (dt dk_J7_fill_53178 12 rfl) hl (k := 0) rfl (nI_1 i) (by decide) rfl (fun ls hl => ?_)
    refine lv_goto (tgt := 5) hx hb (dt dk_J7_fill_53178 13 rfl) (by decide) ?_
    exact fill_loop hx hb hU hj hN hQ k (i + 1) H1 locs1 ls (by omega) hl ⟨hP1, hD1, hS1⟩
theorem sp_fill (l : Launch) (D : va_G) (tI tZ tG : ClassId) (base : Nat) (ws : va_W) (j q N : Nat) (x : Int32) (f : Nat → Int32) (hq : ws[j]? = some (q, .inl (tI, N, .inl f))) (hN : N < 2 ^ 31) : Met l yJ7_fill_53178 (Cond.code yJ7_fill_53178 cJ7_fill_53178 4 none :: lw_good) { frames := 0, cells := 0, slots := 0, locals := 0 } (va_Pc [.ref q, .int x] (fun U => CU D tI tZ tG U ∧ va_P D vwCl ws U.heap ∧ va_D (Ab base) ws)) (va_Qv (fun _ : Unit => True) (fun _ t => va_P D vwCl (ws.set j (q, .inl (tI, N, .inl (fillF x f N)))) t.heap ∧ va_D (Ab base) (ws.set j (q, .inl (tI, N, .inl (fillF x f N))))) (Ab base)) 0 0 (Ab base) := by
  refine met_ofW (cc := cJ7_fill_53178) (maxL := 4) (ret := none) (by decide) rfl ?_
  intro p e s m args below meth c s₁ B hml hv
  obtain ⟨rfl, hU, hP, hD⟩ := hv
  have hx := B.exec
  have hb := B.bytes
  have hr := B.returns
  have hlocks := B.notSynchronized
  have hj : j < ws.length := (List.getElem?_eq_some_iff.mp hq).1
  have hl := lv_entry ([.ref q, .int x]) (n := 4) (Nat.le_of_ble_eq_true rfl)
  rw [lg_entry_eq]
  generalize (lg_sl ([.ref q, .int x]) ++ List.replicate (4 - (lg_sl ([.ref q, .int x])).length) Slot.unset).toArray = ls at hl ⊢
  have hl : lv_has ls 4 [(0, .ref q), (1, .int x)] := hl
  refine lv_iconst (v := 0) hx hb (dt dk_J7_fill_53178 0 rfl) (by decide) ?_
  refine lv_istore_n (lv' := [(2, .int 0), (0, .ref q), (1, .int x)]) hx hb (dt dk_J7_fill_53178 1 rfl) rfl hl (by decide) rfl (fun ls hl => ?_)
  refine lv_aload_n hx hb (dt dk_J7_fill_53178 2 rfl) rfl (lv_at hl 1 rfl) ?_
  refine va_alen (v := nI N) hx hb hU.1 hP j 0 hq rfl rfl (dt dk_J7_fill_53178 3 rfl) ?_
  refine lv_istore_n (lv' := [(3, .int (nI N)), (2, .int 0), (0, .ref q), (1, .int x)]) hx hb (dt dk_J7_fill_53178 4 rfl) rfl hl (by decide) rfl (fun ls hl => ?_)
  have hl2 : lv_has ls 4 [(2, .int (nI 0)), (3, .int (nI N)), (0, .ref q), (1, .int x)] := lv_sub hl [1, 0, 2, 3] rfl
  refine fill_loop (base := base) (f := f) hx hb hU hj hN (fun H locs ls hW => ?_) N 0 s.heap [] ls (by omega) hl2 ⟨?_, ?_, va_S.rf⟩
  · exact W.vret hx hb hr (fun t ht _ => ⟨⟨(), rfl, trivial, by rw [ht]; exact hW.1, hW.2.1⟩, hW.2.2.F ht⟩) hW.2.2.2.2 (dt dk_J7_fill_53178 14 rfl) hlocks
  · rw [fillF_0, set_same hq]; exact hP
  · rw [fillF_0, set_same hq]; exact hD
theorem b_fill {p : Program} {l : Launch} {e : Env} {R : Room} {s : State} {m : MethodId} {args : Array Value} {below : List Frame} {meth : Method} {c : Code} {H : Heap} {locs : List Loc} {cells slots : Nat} {Q : State → Prop} {D : va_G} {tI tZ tG : ClassId} {base nL pc : Nat} {own : String} {cc : ByteArray} {ls : Array Slot} {pre X : va_W} {q N idx : Nat} {x : Int32} {f : Nat → Int32} (hC : Cx D tI tZ tG base own cc nL p s m args c) (hW : Wo D base (pre ++ X) s.heap H locs) (i : Nat) (he : X[i]? = some (q, .inl (tI, N, .inl f))) (hN : N < 2 ^ 31) (hd : decode cc pc = .ok (.invokestatic idx, 3)) (hw : Cond.methodLink own idx yJ7_fill_53178 ∈ lw_good) (hf : 1 ≤ R.frames) (hlo : 34 ≤ R.locals) (hcells : cells ≤ R.cells) (hslots : slots ≤ R.slots) (hl : ls.size = nL)
    (kk : ∀ (H1 : Heap) (locs1 : List Loc), Wo D base (pre ++ X.set i (q, .inl (tI, N, .inl (fillF x f N)))) s.heap H1 locs1 → W p l e R s m args below meth c H1 locs1 cells slots Q (F0 m (pc + 3) ls [])) : W p l e R s m args below meth c H locs cells slots Q (F0 m pc ls [.int x, .ref q]) := by
  obtain ⟨h1, h2, h3, h4, h5, h6, h7⟩ := hC
  obtain ⟨hP, hD, hS⟩ := hW
  obtain ⟨m1, m2, m3, m4, m5⟩ := ms_J7_fill_53178
  have hT : GoodIn lw_good (va_wsS own idx yJ7_fill_53178 (Cond.code yJ7_fill_53178 cJ7_fill_53178 4 none :: lw_good)) := good_all (by
    intro w h
    rcases List.mem_append.mp h with h | h
    · rcases List.mem_cons.mp h with rfl | h
      · exact hw
      · rcases List.mem_cons.mp h with rfl | h
        · exact m1
        · rw [List.mem_singleton] at h
          subst h
          exact m2
    · rcases List.mem_cons.mp h with rfl | h
      · exact m3
      · exact h)
  refine va_callv (va_runS (As := [.ref q, .int x]) (rest := []) (n := 2) ⟨h1, h2, h3, h4, h5⟩ (sp_fill l D tI tZ tG base (pre ++ X) (pre.length + i) q N x f (by rw [wi]; exact he) hN) (va_cwS 2 h5 hT rfl rfl rfl m4 ⟨hf, show 8 + (4 + 11) + 0 ≤ R.locals by omega⟩) ⟨fun a U g mk ⟨q0, q1, q2, q3⟩ => ⟨q0, q1.calling g mk a, q2, q3⟩, fun U hU hw => ⟨rfl, h6.warm hw, by rw [hU]; exact hP, hD⟩⟩ rfl rfl hl rfl (lv_room (Nat.le_of_ble_eq_true rfl)) hd ⟨hcells, hslots⟩) hS (fun _ _ h => h) (fun _ h => h) (fun u t H1 locs1 ht hvm hu hB hz1 hk1 hS1 => ?_)
  obtain ⟨hB1, hB2⟩ := hB
  rw [ht] at hB1
  rw [wset] at hB1 hB2
  exact kk H1 locs1 ⟨hB1, hB2, hS1⟩
