set_option maxHeartbeats 4000000 in
set_option maxRecDepth 100000 in
/-- YOUR PART: from the entry, for every script of at most 384 ints, the law comes to its end with true ('hflags': the launch's flags, for a law that throws: no stack traces) -/
theorem whole_start {p : Program} {e : Env} {s : State} {m : MethodId} {below : List Frame} {meth : Method} {c : Code} (l : Launch) (hflags : l.flags = flags0) {b L : Nat} {xs : Nat → Int32} (hL : L ≤ 384) (C0 : lw_At p s m meth c b L xs) : W p l e room_1 s m #[Value.ref b] below meth c s.heap [] 0 0 (lw_Z below #[Value.ref b] s) (entryFrame m ([Value.ref b] : List Value).toArray 4) := by
  obtain ⟨hx, hb, hr, hml, hown, hts, hX, hbl, hlocks, hgv⟩ := id C0
  have hg : ∀ w ∈ lw_good, w.before #[Value.ref b] s = true := fun w hw => hts w (List.mem_filter.mp hw).1
  have hn : ∀ w ∈ lw_nest, va_Nw w s := fun w hw => va_Nw.of (nest_on hw) (hts w (List.mem_filter.mp hw).1)
  have hO : va_AO RX4 s := va_AO.of (hts (.arrayOver (.object RX4)) (List.mem_of_getElem? (i := 267) (by decide +kernel)))
  obtain ⟨D, hKc⟩ := known hg
  obtain ⟨tI, tZ, tG, hKa⟩ := arr_ids hg hO
  obtain ⟨t, y, hT, hY⟩ := stats (A := Ab s.heap.size) hg hts hgv (fun a ha => Nat.not_le.mpr ha)
  have hK : va_K D vwCl [(tI, .int), (tZ, .boolean), (tG, .object RX4)] s := ⟨hKc, hKa⟩
  have hC : Cx D tI tZ tG s.heap.size RL cL_law 4 p s m #[Value.ref b] c := ⟨hx, hb, hml, hown, hg, ⟨hK, hn, hO⟩, Nat.le_refl _⟩
  have hW : Wo D s.heap.size ([] ++ []) s.heap s.heap [] := ⟨fun k q h => by simp at h, ⟨fun i j p q h => by simp at h, fun k q h => by simp at h⟩, va_S.rf⟩
  have hl := lv_entry ([.ref b]) (n := 4) (Nat.le_of_ble_eq_true rfl)
  rw [lg_entry_eq]
  generalize (lg_sl ([.ref b]) ++ List.replicate (4 - (lg_sl ([.ref b])).length) Slot.unset).toArray = ls at hl ⊢
  have hl : lv_has ls 4 [(0, .ref b)] := hl
  refine b_mk hC ci_X9 fs_X9 spc_X9 mi_X9 (dt dk_L_law_0 0 rfl) (dt dk_L_law_0 1 rfl) (dt dk_L_law_0 2 rfl) bw_c_L_7 bw_ins_X9 bw_ini_X9 bw_n_L_9 (Nat.le_of_ble_eq_true rfl) (Nat.le_of_ble_eq_true rfl) (Nat.le_of_ble_eq_true rfl) (Nat.le_of_ble_eq_true rfl) hl.1 rfl hW (fun a1 H locs hW => ?_)
  have hW : Wo D s.heap.size ([] ++ resX9 tI tZ tG a1) s.heap H locs := hW
  refine lv_astore_n (lv' := [(1, .ref (a1 0)), (0, .ref b)]) hx hb (dt dk_L_law_0 3 rfl) rfl hl (by decide) rfl (fun ls hl => ?_)
  refine b_mk hC ci_X10 fs_X10 spc_X10 mi_X10 (dt dk_L_law_0 4 rfl) (dt dk_L_law_0 5 rfl) (dt dk_L_law_0 6 rfl) bw_c_L_10 bw_ins_X10 bw_ini_X10 bw_n_L_12 (Nat.le_of_ble_eq_true rfl) (Nat.le_of_ble_eq_true rfl) (Nat.le_of_ble_eq_true rfl) (Nat.le_of_ble_eq_true rfl) hl.1 rfl hW (fun a2 H locs hW => ?_)
  have hW : Wo D s.heap.size (resX9 tI tZ tG a1 ++ resX10 tI tZ tG a2) s.heap H locs := hW
  refine lv_astore_n (lv' := [(2, .ref (a2 0)), (1, .ref (a1 0)), (0, .ref b)]) hx hb (dt dk_L_law_0 7 rfl) rfl hl (by decide) rfl (fun ls hl => ?_)
  refine lv_iconst (v := 0) hx hb (dt dk_L_law_0 8 rfl) (by decide) ?_
  refine lv_istore_n (lv' := [(3, .int 0), (2, .ref (a2 0)), (1, .ref (a1 0)), (0, .ref b)]) hx hb (dt dk_L_law_0 9 rfl) rfl hl (by decide) rfl (fun ls hl => ?_)
  rw [world0 tI tZ tG a1 a2 t y b] at hW
  obtain ⟨M2, hM2⟩ := law_loop (fun h => m_heard h) (fun h => m_chase h) (sf := xs) (Ls := L) (by omega) 100 0 M00 Inv_first (by omega) (by omega) (by omega)
  refine ev_lp_L_law_77_0_53_18 L xs 100 (nI 0) M00 (1, M2) hM2 p l e room_1 s m #[Value.ref b] below meth c H locs _ _ _ D tI tZ tG (adL a1 a2 t y b) (Ab s.heap.size) ls ⟨hx, hb, hml, hown, hg, ⟨Nat.le_of_ble_eq_true rfl, Nat.le_of_ble_eq_true rfl, Nat.le_of_ble_eq_true rfl, Nat.le_of_ble_eq_true rfl⟩, ⟨hK, ?_, ?_, hT, hY, hn⟩, ?_⟩ hW.1 hW.2.2 ⟨hl.1, hl.2.1, ?_⟩ ?_
  · intro i j hi hj e
    have gi : ∀ k, k < 75 → ∃ q, shl[k]? = some q := fun k hk => ⟨_, List.getElem?_eq_getElem (by rw [shl_len]; exact hk)⟩
    obtain ⟨qi, ei⟩ := gi i hi
    obtain ⟨qj, ej⟩ := gi j hj
    exact hW.2.1.1 i j _ _ (cw_get ei) (cw_get ej) e
  · intro k hk
    obtain ⟨q, ek⟩ : ∃ q, shl[k]? = some q := ⟨_, List.getElem?_eq_getElem (by rw [shl_len]; exact hk)⟩
    exact hW.2.1.2 k _ (cw_get ek)
  · intro n f h
    cases h
    exact ⟨hX, hbl, Nat.not_le.mpr hbl⟩
  · intro i v hi
    match i, hi with
    | 0, hi => cases hi; exact hl.2.2 (0, .ref b) (by simp)
    | 1, hi => cases hi; exact hl.2.2 (1, .ref (a1 0)) (by simp)
    | 2, hi => cases hi; exact hl.2.2 (2, .ref (a2 0)) (by simp)
    | 3, hi => cases hi; exact hl.2.2 (3, .int 0) (by simp)
  · intro H' locs' ls' pc' hok hP' hS' hd
    refine va_forget (fun q hq => hS'.2.2 q hq) ?_
    refine W.widen (k := 600000) (n := 7302250) (Nat.le_of_ble_eq_true rfl) (Nat.le_of_ble_eq_true rfl) ?_
    exact lw_ret hx hb hr hlocks hd
