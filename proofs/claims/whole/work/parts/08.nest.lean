-- X9_isHouse (T, depth 0)
def fo_X9_isHouse (v0 : Int32) : Option Int32 :=
  (if v0 < 0 then some (0 : Int32) else (if (8 : Int32) ≤ v0 then some (0 : Int32) else some (1 : Int32)))
def f_X9_isHouse (v0 : Int32) : Int32 :=
  (if v0 < 0 then (0 : Int32) else (if (8 : Int32) ≤ v0 then (0 : Int32) else (1 : Int32)))
theorem fe_X9_isHouse (v0 : Int32) : fo_X9_isHouse v0 = some (f_X9_isHouse v0) := by
  unfold fo_X9_isHouse f_X9_isHouse
  simp only [apply_ite some]
theorem fb_X9_isHouse (v0 : Int32) : f_X9_isHouse v0 = 0 ∨ f_X9_isHouse v0 = 1 := by
  unfold f_X9_isHouse
  (repeat' split) <;> first | exact Or.inl rfl | exact Or.inr rfl
set_option maxRecDepth 20000 in
set_option maxHeartbeats 2000000 in
theorem sp_X9_isHouse (v0 : Int32) (M : Mem) : SpO (wR M) yX9_isHouse cX9_isHouse 1 (some .boolean) 0 [.int v0] M (some (f_X9_isHouse v0)) := by
  rw [← fe_X9_isHouse]
  refine sp_of (L := [some (.int v0)]) rfl (by decide +kernel) rfl rfl ?_
  unfold fo_X9_isHouse
  refine e_iload_n (dt dk_X9_isHouse 0 rfl) rfl ?_
  refine e_if_lt 14 (dt dk_X9_isHouse 1 rfl) (by decide) (fun h1 => ?_) (fun h1 => ?_)
  · refine e_iconst (v := (0 : Int32)) (dt dk_X9_isHouse 7 rfl) (by decide) ?_
    exact e_iret (dt dk_X9_isHouse 8 rfl) rfl rfl rfl
  · refine e_iload_n (dt dk_X9_isHouse 2 rfl) rfl ?_
    refine e_bipush (v := (8 : Int32)) (dt dk_X9_isHouse 3 rfl) (by decide) ?_
    refine e_icmp_ge 14 (dt dk_X9_isHouse 4 rfl) (by decide) (fun h2 => ?_) (fun h2 => ?_)
    · refine e_iconst (v := (0 : Int32)) (dt dk_X9_isHouse 7 rfl) (by decide) ?_
      exact e_iret (dt dk_X9_isHouse 8 rfl) rfl rfl rfl
    · refine e_iconst (v := (1 : Int32)) (dt dk_X9_isHouse 5 rfl) (by decide) ?_
      refine e_goto 15 (dt dk_X9_isHouse 6 rfl) (by decide) ?_
      exact e_iret (dt dk_X9_isHouse 8 rfl) rfl rfl rfl
-- X9_within (T, depth 0)
def fo_X9_within (v0 : Int32) (v1 : Int32) (v2 : Int32) : Option Int32 :=
  (if v0 < v1 then some (0 : Int32) else (if v2 < v0 then some (0 : Int32) else some (1 : Int32)))
def f_X9_within (v0 : Int32) (v1 : Int32) (v2 : Int32) : Int32 :=
  (if v0 < v1 then (0 : Int32) else (if v2 < v0 then (0 : Int32) else (1 : Int32)))
theorem fe_X9_within (v0 : Int32) (v1 : Int32) (v2 : Int32) : fo_X9_within v0 v1 v2 = some (f_X9_within v0 v1 v2) := by
  unfold fo_X9_within f_X9_within
  simp only [apply_ite some]
theorem fb_X9_within (v0 : Int32) (v1 : Int32) (v2 : Int32) : f_X9_within v0 v1 v2 = 0 ∨ f_X9_within v0 v1 v2 = 1 := by
  unfold f_X9_within
  (repeat' split) <;> first | exact Or.inl rfl | exact Or.inr rfl
set_option maxRecDepth 20000 in
set_option maxHeartbeats 2000000 in
theorem sp_X9_within (v0 : Int32) (v1 : Int32) (v2 : Int32) (M : Mem) : SpO (wR M) yX9_within cX9_within 3 (some .boolean) 0 [.int v0, .int v1, .int v2] M (some (f_X9_within v0 v1 v2)) := by
  rw [← fe_X9_within]
  refine sp_of (L := [some (.int v0), some (.int v1), some (.int v2)]) rfl (by decide +kernel) rfl rfl ?_
  unfold fo_X9_within
  refine e_iload_n (dt dk_X9_within 0 rfl) rfl ?_
  refine e_iload_n (dt dk_X9_within 1 rfl) rfl ?_
  refine e_icmp_lt 14 (dt dk_X9_within 2 rfl) (by decide) (fun h1 => ?_) (fun h1 => ?_)
  · refine e_iconst (v := (0 : Int32)) (dt dk_X9_within 8 rfl) (by decide) ?_
    exact e_iret (dt dk_X9_within 9 rfl) rfl rfl rfl
  · refine e_iload_n (dt dk_X9_within 3 rfl) rfl ?_
    refine e_iload_n (dt dk_X9_within 4 rfl) rfl ?_
    refine e_icmp_gt 14 (dt dk_X9_within 5 rfl) (by decide) (fun h2 => ?_) (fun h2 => ?_)
    · refine e_iconst (v := (0 : Int32)) (dt dk_X9_within 8 rfl) (by decide) ?_
      exact e_iret (dt dk_X9_within 9 rfl) rfl rfl rfl
    · refine e_iconst (v := (1 : Int32)) (dt dk_X9_within 6 rfl) (by decide) ?_
      refine e_goto 15 (dt dk_X9_within 7 rfl) (by decide) ?_
      exact e_iret (dt dk_X9_within 9 rfl) rfl rfl rfl
-- X8_hasHole_1 (R, depth 1)
def f_X8_hasHole_1 (v1 : Int32) (v2 : Int32) (M : Mem) : Option Int32 :=
  (if (f_X9_isHouse v1) = 0 then some (0 : Int32) else if inb v1 8 then (if (((M 6 (ix v1)) >>> (v2 &&& 31)) &&& (1 : Int32)) = (1 : Int32) then some (1 : Int32) else some (0 : Int32)) else none)
set_option maxRecDepth 20000 in
set_option maxHeartbeats 2000000 in
theorem sp_X8_hasHole_1 (v1 : Int32) (v2 : Int32) (M : Mem) : SpO (wR M) yX8_hasHole cX8_hasHole 3 (some .boolean) 1 [.ref 1, .int v1, .int v2] M (f_X8_hasHole_1 v1 v2 M) := by
  refine sp_of (L := [some (.ref 1), some (.int v1), some (.int v2)]) rfl (by decide +kernel) rfl rfl ?_
  unfold f_X8_hasHole_1
  refine e_iload_n (dt dk_X8_hasHole 0 rfl) rfl ?_
  refine ev_callT (ca_SN ms_X9_isHouse (sp_X9_isHouse v1 M) (dt dk_X8_hasHole 1 rfl) mn_X8_46 rfl rfl rfl (by decide) : Ca _ _ _ _ _ _ _ _ [] _ _) ?_
  show Ev _ _ _ _ _ _ 4 [some (.ref 1), some (.int v1), some (.int v2)] [.int (f_X9_isHouse v1)] M _
  refine e_if_eq 25 (dt dk_X8_hasHole 2 rfl) (by decide) (fun h1 => ?_) (fun h1 => ?_)
  · refine e_iconst (v := (0 : Int32)) (dt dk_X8_hasHole 15 rfl) (by decide) ?_
    exact e_iret (dt dk_X8_hasHole 16 rfl) rfl rfl rfl
  · refine e_aload_n (dt dk_X8_hasHole 3 rfl) rfl ?_
    refine e_getR ci_X8 (dt dk_X8_hasHole 4 rfl) rfl (by decide) rfl fl_X8_24 ?_
    refine e_iload_n (dt dk_X8_hasHole 5 rfl) rfl ?_
    refine e_if (fun h2 => ?_)
    refine e_iald' (v := (M 6 (ix v1))) (dt dk_X8_hasHole 6 rfl) rfl h2 rfl ?_
    refine e_iload_n (dt dk_X8_hasHole 7 rfl) rfl ?_
    refine e_ishr (dt dk_X8_hasHole 8 rfl) ?_
    refine e_iconst (v := (1 : Int32)) (dt dk_X8_hasHole 9 rfl) (by decide) ?_
    refine e_iand (dt dk_X8_hasHole 10 rfl) ?_
    refine e_iconst (v := (1 : Int32)) (dt dk_X8_hasHole 11 rfl) (by decide) ?_
    refine e_icmp_ne 25 (dt dk_X8_hasHole 12 rfl) (by decide) (fun h3 => ?_) (fun h3 => ?_)
    · refine e_iconst (v := (1 : Int32)) (dt dk_X8_hasHole 13 rfl) (by decide) ?_
      refine e_goto 26 (dt dk_X8_hasHole 14 rfl) (by decide) ?_
      exact e_iret (dt dk_X8_hasHole 16 rfl) rfl rfl rfl
    · refine e_iconst (v := (0 : Int32)) (dt dk_X8_hasHole 15 rfl) (by decide) ?_
      exact e_iret (dt dk_X8_hasHole 16 rfl) rfl rfl rfl
-- J6_bitCount_0f7a4 (T, depth 0)
def fo_J6_bitCount_0f7a4 (v0 : Int32) : Option Int32 :=
  some ((((((((v0 - ((ushr v0 (1 : Int32)) &&& (1431655765 : Int32))) &&& (858993459 : Int32)) + ((ushr (v0 - ((ushr v0 (1 : Int32)) &&& (1431655765 : Int32))) (2 : Int32)) &&& (858993459 : Int32))) + (ushr (((v0 - ((ushr v0 (1 : Int32)) &&& (1431655765 : Int32))) &&& (858993459 : Int32)) + ((ushr (v0 - ((ushr v0 (1 : Int32)) &&& (1431655765 : Int32))) (2 : Int32)) &&& (858993459 : Int32))) (4 : Int32))) &&& (252645135 : Int32)) + (ushr (((((v0 - ((ushr v0 (1 : Int32)) &&& (1431655765 : Int32))) &&& (858993459 : Int32)) + ((ushr (v0 - ((ushr v0 (1 : Int32)) &&& (1431655765 : Int32))) (2 : Int32)) &&& (858993459 : Int32))) + (ushr (((v0 - ((ushr v0 (1 : Int32)) &&& (1431655765 : Int32))) &&& (858993459 : Int32)) + ((ushr (v0 - ((ushr v0 (1 : Int32)) &&& (1431655765 : Int32))) (2 : Int32)) &&& (858993459 : Int32))) (4 : Int32))) &&& (252645135 : Int32)) (8 : Int32))) + (ushr ((((((v0 - ((ushr v0 (1 : Int32)) &&& (1431655765 : Int32))) &&& (858993459 : Int32)) + ((ushr (v0 - ((ushr v0 (1 : Int32)) &&& (1431655765 : Int32))) (2 : Int32)) &&& (858993459 : Int32))) + (ushr (((v0 - ((ushr v0 (1 : Int32)) &&& (1431655765 : Int32))) &&& (858993459 : Int32)) + ((ushr (v0 - ((ushr v0 (1 : Int32)) &&& (1431655765 : Int32))) (2 : Int32)) &&& (858993459 : Int32))) (4 : Int32))) &&& (252645135 : Int32)) + (ushr (((((v0 - ((ushr v0 (1 : Int32)) &&& (1431655765 : Int32))) &&& (858993459 : Int32)) + ((ushr (v0 - ((ushr v0 (1 : Int32)) &&& (1431655765 : Int32))) (2 : Int32)) &&& (858993459 : Int32))) + (ushr (((v0 - ((ushr v0 (1 : Int32)) &&& (1431655765 : Int32))) &&& (858993459 : Int32)) + ((ushr (v0 - ((ushr v0 (1 : Int32)) &&& (1431655765 : Int32))) (2 : Int32)) &&& (858993459 : Int32))) (4 : Int32))) &&& (252645135 : Int32)) (8 : Int32))) (16 : Int32))) &&& (63 : Int32))
def f_J6_bitCount_0f7a4 (v0 : Int32) : Int32 :=
  ((((((((v0 - ((ushr v0 (1 : Int32)) &&& (1431655765 : Int32))) &&& (858993459 : Int32)) + ((ushr (v0 - ((ushr v0 (1 : Int32)) &&& (1431655765 : Int32))) (2 : Int32)) &&& (858993459 : Int32))) + (ushr (((v0 - ((ushr v0 (1 : Int32)) &&& (1431655765 : Int32))) &&& (858993459 : Int32)) + ((ushr (v0 - ((ushr v0 (1 : Int32)) &&& (1431655765 : Int32))) (2 : Int32)) &&& (858993459 : Int32))) (4 : Int32))) &&& (252645135 : Int32)) + (ushr (((((v0 - ((ushr v0 (1 : Int32)) &&& (1431655765 : Int32))) &&& (858993459 : Int32)) + ((ushr (v0 - ((ushr v0 (1 : Int32)) &&& (1431655765 : Int32))) (2 : Int32)) &&& (858993459 : Int32))) + (ushr (((v0 - ((ushr v0 (1 : Int32)) &&& (1431655765 : Int32))) &&& (858993459 : Int32)) + ((ushr (v0 - ((ushr v0 (1 : Int32)) &&& (1431655765 : Int32))) (2 : Int32)) &&& (858993459 : Int32))) (4 : Int32))) &&& (252645135 : Int32)) (8 : Int32))) + (ushr ((((((v0 - ((ushr v0 (1 : Int32)) &&& (1431655765 : Int32))) &&& (858993459 : Int32)) + ((ushr (v0 - ((ushr v0 (1 : Int32)) &&& (1431655765 : Int32))) (2 : Int32)) &&& (858993459 : Int32))) + (ushr (((v0 - ((ushr v0 (1 : Int32)) &&& (1431655765 : Int32))) &&& (858993459 : Int32)) + ((ushr (v0 - ((ushr v0 (1 : Int32)) &&& (1431655765 : Int32))) (2 : Int32)) &&& (858993459 : Int32))) (4 : Int32))) &&& (252645135 : Int32)) + (ushr (((((v0 - ((ushr v0 (1 : Int32)) &&& (1431655765 : Int32))) &&& (858993459 : Int32)) + ((ushr (v0 - ((ushr v0 (1 : Int32)) &&& (1431655765 : Int32))) (2 : Int32)) &&& (858993459 : Int32))) + (ushr (((v0 - ((ushr v0 (1 : Int32)) &&& (1431655765 : Int32))) &&& (858993459 : Int32)) + ((ushr (v0 - ((ushr v0 (1 : Int32)) &&& (1431655765 : Int32))) (2 : Int32)) &&& (858993459 : Int32))) (4 : Int32))) &&& (252645135 : Int32)) (8 : Int32))) (16 : Int32))) &&& (63 : Int32))
theorem fe_J6_bitCount_0f7a4 (v0 : Int32) : fo_J6_bitCount_0f7a4 v0 = some (f_J6_bitCount_0f7a4 v0) := by
  unfold fo_J6_bitCount_0f7a4 f_J6_bitCount_0f7a4
  simp only [apply_ite some]
set_option maxRecDepth 20000 in
set_option maxHeartbeats 2000000 in
theorem sp_J6_bitCount_0f7a4 (v0 : Int32) (M : Mem) : SpO (wR M) yJ6_bitCount_0f7a4 cJ6_bitCount_0f7a4 1 (some .int) 0 [.int v0] M (some (f_J6_bitCount_0f7a4 v0)) := by
  rw [← fe_J6_bitCount_0f7a4]
  refine sp_of (L := [some (.int v0)]) rfl (by decide +kernel) rfl rfl ?_
  unfold fo_J6_bitCount_0f7a4
  refine e_iload_n (dt dk_J6_bitCount_0f7a4 0 rfl) rfl ?_
  refine e_iload_n (dt dk_J6_bitCount_0f7a4 1 rfl) rfl ?_
  refine e_iconst (v := (1 : Int32)) (dt dk_J6_bitCount_0f7a4 2 rfl) (by decide) ?_
  refine e_iushr (dt dk_J6_bitCount_0f7a4 3 rfl) ?_
  refine e_ldcw (v := (1431655765 : Int32)) (dt dk_J6_bitCount_0f7a4 4 rfl) kc_J6_265 ?_
  refine e_iand (dt dk_J6_bitCount_0f7a4 5 rfl) ?_
  refine e_isub (dt dk_J6_bitCount_0f7a4 6 rfl) ?_
  refine e_istore_n [some (.int (v0 - ((ushr v0 (1 : Int32)) &&& (1431655765 : Int32))))] (dt dk_J6_bitCount_0f7a4 7 rfl) rfl rfl rfl ?_
  refine e_iload_n (dt dk_J6_bitCount_0f7a4 8 rfl) rfl ?_
  refine e_ldcw (v := (858993459 : Int32)) (dt dk_J6_bitCount_0f7a4 9 rfl) kc_J6_266 ?_
  refine e_iand (dt dk_J6_bitCount_0f7a4 10 rfl) ?_
  refine e_iload_n (dt dk_J6_bitCount_0f7a4 11 rfl) rfl ?_
  refine e_iconst (v := (2 : Int32)) (dt dk_J6_bitCount_0f7a4 12 rfl) (by decide) ?_
  refine e_iushr (dt dk_J6_bitCount_0f7a4 13 rfl) ?_
  refine e_ldcw (v := (858993459 : Int32)) (dt dk_J6_bitCount_0f7a4 14 rfl) kc_J6_266 ?_
  refine e_iand (dt dk_J6_bitCount_0f7a4 15 rfl) ?_
  refine e_iadd (dt dk_J6_bitCount_0f7a4 16 rfl) ?_
  refine e_istore_n [some (.int (((v0 - ((ushr v0 (1 : Int32)) &&& (1431655765 : Int32))) &&& (858993459 : Int32)) + ((ushr (v0 - ((ushr v0 (1 : Int32)) &&& (1431655765 : Int32))) (2 : Int32)) &&& (858993459 : Int32))))] (dt dk_J6_bitCount_0f7a4 17 rfl) rfl rfl rfl ?_
  refine e_iload_n (dt dk_J6_bitCount_0f7a4 18 rfl) rfl ?_
  refine e_iload_n (dt dk_J6_bitCount_0f7a4 19 rfl) rfl ?_
  refine e_iconst (v := (4 : Int32)) (dt dk_J6_bitCount_0f7a4 20 rfl) (by decide) ?_
  refine e_iushr (dt dk_J6_bitCount_0f7a4 21 rfl) ?_
  refine e_iadd (dt dk_J6_bitCount_0f7a4 22 rfl) ?_
  refine e_ldcw (v := (252645135 : Int32)) (dt dk_J6_bitCount_0f7a4 23 rfl) kc_J6_267 ?_
  refine e_iand (dt dk_J6_bitCount_0f7a4 24 rfl) ?_
  refine e_istore_n [some (.int (((((v0 - ((ushr v0 (1 : Int32)) &&& (1431655765 : Int32))) &&& (858993459 : Int32)) + ((ushr (v0 - ((ushr v0 (1 : Int32)) &&& (1431655765 : Int32))) (2 : Int32)) &&& (858993459 : Int32))) + (ushr (((v0 - ((ushr v0 (1 : Int32)) &&& (1431655765 : Int32))) &&& (858993459 : Int32)) + ((ushr (v0 - ((ushr v0 (1 : Int32)) &&& (1431655765 : Int32))) (2 : Int32)) &&& (858993459 : Int32))) (4 : Int32))) &&& (252645135 : Int32)))] (dt dk_J6_bitCount_0f7a4 25 rfl) rfl rfl rfl ?_
  refine e_iload_n (dt dk_J6_bitCount_0f7a4 26 rfl) rfl ?_
  refine e_iload_n (dt dk_J6_bitCount_0f7a4 27 rfl) rfl ?_
  refine e_bipush (v := (8 : Int32)) (dt dk_J6_bitCount_0f7a4 28 rfl) (by decide) ?_
  refine e_iushr (dt dk_J6_bitCount_0f7a4 29 rfl) ?_
  refine e_iadd (dt dk_J6_bitCount_0f7a4 30 rfl) ?_
  refine e_istore_n [some (.int ((((((v0 - ((ushr v0 (1 : Int32)) &&& (1431655765 : Int32))) &&& (858993459 : Int32)) + ((ushr (v0 - ((ushr v0 (1 : Int32)) &&& (1431655765 : Int32))) (2 : Int32)) &&& (858993459 : Int32))) + (ushr (((v0 - ((ushr v0 (1 : Int32)) &&& (1431655765 : Int32))) &&& (858993459 : Int32)) + ((ushr (v0 - ((ushr v0 (1 : Int32)) &&& (1431655765 : Int32))) (2 : Int32)) &&& (858993459 : Int32))) (4 : Int32))) &&& (252645135 : Int32)) + (ushr (((((v0 - ((ushr v0 (1 : Int32)) &&& (1431655765 : Int32))) &&& (858993459 : Int32)) + ((ushr (v0 - ((ushr v0 (1 : Int32)) &&& (1431655765 : Int32))) (2 : Int32)) &&& (858993459 : Int32))) + (ushr (((v0 - ((ushr v0 (1 : Int32)) &&& (1431655765 : Int32))) &&& (858993459 : Int32)) + ((ushr (v0 - ((ushr v0 (1 : Int32)) &&& (1431655765 : Int32))) (2 : Int32)) &&& (858993459 : Int32))) (4 : Int32))) &&& (252645135 : Int32)) (8 : Int32))))] (dt dk_J6_bitCount_0f7a4 31 rfl) rfl rfl rfl ?_
  refine e_iload_n (dt dk_J6_bitCount_0f7a4 32 rfl) rfl ?_
  refine e_iload_n (dt dk_J6_bitCount_0f7a4 33 rfl) rfl ?_
  refine e_bipush (v := (16 : Int32)) (dt dk_J6_bitCount_0f7a4 34 rfl) (by decide) ?_
  refine e_iushr (dt dk_J6_bitCount_0f7a4 35 rfl) ?_
  refine e_iadd (dt dk_J6_bitCount_0f7a4 36 rfl) ?_
  refine e_istore_n [some (.int (((((((v0 - ((ushr v0 (1 : Int32)) &&& (1431655765 : Int32))) &&& (858993459 : Int32)) + ((ushr (v0 - ((ushr v0 (1 : Int32)) &&& (1431655765 : Int32))) (2 : Int32)) &&& (858993459 : Int32))) + (ushr (((v0 - ((ushr v0 (1 : Int32)) &&& (1431655765 : Int32))) &&& (858993459 : Int32)) + ((ushr (v0 - ((ushr v0 (1 : Int32)) &&& (1431655765 : Int32))) (2 : Int32)) &&& (858993459 : Int32))) (4 : Int32))) &&& (252645135 : Int32)) + (ushr (((((v0 - ((ushr v0 (1 : Int32)) &&& (1431655765 : Int32))) &&& (858993459 : Int32)) + ((ushr (v0 - ((ushr v0 (1 : Int32)) &&& (1431655765 : Int32))) (2 : Int32)) &&& (858993459 : Int32))) + (ushr (((v0 - ((ushr v0 (1 : Int32)) &&& (1431655765 : Int32))) &&& (858993459 : Int32)) + ((ushr (v0 - ((ushr v0 (1 : Int32)) &&& (1431655765 : Int32))) (2 : Int32)) &&& (858993459 : Int32))) (4 : Int32))) &&& (252645135 : Int32)) (8 : Int32))) + (ushr ((((((v0 - ((ushr v0 (1 : Int32)) &&& (1431655765 : Int32))) &&& (858993459 : Int32)) + ((ushr (v0 - ((ushr v0 (1 : Int32)) &&& (1431655765 : Int32))) (2 : Int32)) &&& (858993459 : Int32))) + (ushr (((v0 - ((ushr v0 (1 : Int32)) &&& (1431655765 : Int32))) &&& (858993459 : Int32)) + ((ushr (v0 - ((ushr v0 (1 : Int32)) &&& (1431655765 : Int32))) (2 : Int32)) &&& (858993459 : Int32))) (4 : Int32))) &&& (252645135 : Int32)) + (ushr (((((v0 - ((ushr v0 (1 : Int32)) &&& (1431655765 : Int32))) &&& (858993459 : Int32)) + ((ushr (v0 - ((ushr v0 (1 : Int32)) &&& (1431655765 : Int32))) (2 : Int32)) &&& (858993459 : Int32))) + (ushr (((v0 - ((ushr v0 (1 : Int32)) &&& (1431655765 : Int32))) &&& (858993459 : Int32)) + ((ushr (v0 - ((ushr v0 (1 : Int32)) &&& (1431655765 : Int32))) (2 : Int32)) &&& (858993459 : Int32))) (4 : Int32))) &&& (252645135 : Int32)) (8 : Int32))) (16 : Int32))))] (dt dk_J6_bitCount_0f7a4 37 rfl) rfl rfl rfl ?_
  refine e_iload_n (dt dk_J6_bitCount_0f7a4 38 rfl) rfl ?_
  refine e_bipush (v := (63 : Int32)) (dt dk_J6_bitCount_0f7a4 39 rfl) (by decide) ?_
  refine e_iand (dt dk_J6_bitCount_0f7a4 40 rfl) ?_
  exact e_iret (dt dk_J6_bitCount_0f7a4 41 rfl) rfl rfl rfl
-- X8_countHoles_1 (R, depth 1)
def bd_X8_countHoles_1_4 (M : Mem)  (K4 : Int32 → Int32 → Option Int32) (v1 : Int32) (v2 : Int32) : Option Int32 :=
  (if (8 : Int32) ≤ v2 then some (v1 / (2 : Int32)) else if inb v2 8 then (K4 (v1 + (f_J6_bitCount_0f7a4 (M 6 (ix v2)))) (v2 + (1 : Int32))) else none)
set_option maxRecDepth 20000 in
set_option maxHeartbeats 2000000 in
theorem ev_bd_X8_countHoles_1_4 (M : Mem)  (K4 : Int32 → Int32 → Option Int32)  (hK4 : ∀ (v1 : Int32) (v2 : Int32), Ev none (wR M) RX8 cX8_countHoles (some .int) 1 4 [some (.ref 1), some (.int v1), some (.int v2)] [] M (K4 v1 v2)) (v1 : Int32) (v2 : Int32) : Ev none (wR M) RX8 cX8_countHoles (some .int) 1 4 [some (.ref 1), some (.int v1), some (.int v2)] [] M (bd_X8_countHoles_1_4 M K4 v1 v2) := by
  unfold bd_X8_countHoles_1_4
  refine e_iload_n (dt dk_X8_countHoles 4 rfl) rfl ?_
  refine e_bipush (v := (8 : Int32)) (dt dk_X8_countHoles 5 rfl) (by decide) ?_
  refine e_icmp_ge 28 (dt dk_X8_countHoles 6 rfl) (by decide) (fun h1 => ?_) (fun h1 => ?_)
  · refine e_iload_n (dt dk_X8_countHoles 17 rfl) rfl ?_
    refine e_iconst (v := (2 : Int32)) (dt dk_X8_countHoles 18 rfl) (by decide) ?_
    refine e_idiv' (dt dk_X8_countHoles 19 rfl) (by decide) ?_
    show Ev _ _ _ _ _ _ 31 [some (.ref 1), some (.int v1), some (.int v2)] [.int (v1 / (2 : Int32))] M _
    exact e_iret (dt dk_X8_countHoles 20 rfl) rfl rfl rfl
  · refine e_iload_n (dt dk_X8_countHoles 7 rfl) rfl ?_
    refine e_aload_n (dt dk_X8_countHoles 8 rfl) rfl ?_
    refine e_getR ci_X8 (dt dk_X8_countHoles 9 rfl) rfl (by decide) rfl fl_X8_24 ?_
    refine e_iload_n (dt dk_X8_countHoles 10 rfl) rfl ?_
    refine e_if (fun h2 => ?_)
    refine e_iald' (v := (M 6 (ix v2))) (dt dk_X8_countHoles 11 rfl) rfl h2 rfl ?_
    refine ev_callT (ca_S ms_J6_bitCount_0f7a4 (sp_J6_bitCount_0f7a4 (M 6 (ix v2)) M) (dt dk_X8_countHoles 12 rfl) ml_X8_50 rfl rfl rfl (by decide) : Ca _ _ _ _ _ _ _ _ [.int v1] _ _) ?_
    show Ev _ _ _ _ _ _ 20 [some (.ref 1), some (.int v1), some (.int v2)] [.int (f_J6_bitCount_0f7a4 (M 6 (ix v2))), .int v1] M _
    refine e_iadd (dt dk_X8_countHoles 13 rfl) ?_
    refine e_istore_n [some (.ref 1), some (.int (v1 + (f_J6_bitCount_0f7a4 (M 6 (ix v2))))), some (.int v2)] (dt dk_X8_countHoles 14 rfl) rfl rfl rfl ?_
    refine e_iinc [some (.ref 1), some (.int (v1 + (f_J6_bitCount_0f7a4 (M 6 (ix v2))))), some (.int (v2 + (1 : Int32)))] (dt dk_X8_countHoles 15 rfl) rfl rfl rfl rfl ?_
    refine e_goto 4 (dt dk_X8_countHoles 16 rfl) (by decide) ?_
    exact e_forget [true, true, true] [some (.ref 1), some (.int (v1 + (f_J6_bitCount_0f7a4 (M 6 (ix v2))))), some (.int (v2 + (1 : Int32)))] ⟨rfl, rfl⟩ (hK4 (v1 + (f_J6_bitCount_0f7a4 (M 6 (ix v2)))) (v2 + (1 : Int32)))
def lp_X8_countHoles_1_4 (M : Mem)  : Nat → Int32 → Int32 → Option Int32
  | 0 => fun _ _ => none
  | n + 1 => bd_X8_countHoles_1_4 M (lp_X8_countHoles_1_4 M n)
theorem ev_lp_X8_countHoles_1_4 (M : Mem)   : ∀ (n : Nat), ∀ (v1 : Int32) (v2 : Int32), Ev none (wR M) RX8 cX8_countHoles (some .int) 1 4 [some (.ref 1), some (.int v1), some (.int v2)] [] M (lp_X8_countHoles_1_4 M n v1 v2)
  | 0 => fun _ _ => e_none
  | n + 1 => ev_bd_X8_countHoles_1_4 M (lp_X8_countHoles_1_4 M n) (ev_lp_X8_countHoles_1_4 M n)
def f_X8_countHoles_1  (M : Mem) : Option Int32 :=
  (lp_X8_countHoles_1_4 M FU (0 : Int32) (0 : Int32))
set_option maxRecDepth 20000 in
set_option maxHeartbeats 2000000 in
theorem sp_X8_countHoles_1  (M : Mem) : SpO (wR M) yX8_countHoles cX8_countHoles 3 (some .int) 1 [.ref 1] M (f_X8_countHoles_1 M) := by
  refine sp_of (L := [some (.ref 1), none, none]) rfl (by decide +kernel) rfl rfl ?_
  unfold f_X8_countHoles_1
  refine e_iconst (v := (0 : Int32)) (dt dk_X8_countHoles 0 rfl) (by decide) ?_
  refine e_istore_n [some (.ref 1), some (.int (0 : Int32)), none] (dt dk_X8_countHoles 1 rfl) rfl rfl rfl ?_
  refine e_iconst (v := (0 : Int32)) (dt dk_X8_countHoles 2 rfl) (by decide) ?_
  refine e_istore_n [some (.ref 1), some (.int (0 : Int32)), some (.int (0 : Int32))] (dt dk_X8_countHoles 3 rfl) rfl rfl rfl ?_
  exact e_forget [true, true, true] [some (.ref 1), some (.int (0 : Int32)), some (.int (0 : Int32))] ⟨rfl, rfl⟩ (ev_lp_X8_countHoles_1_4 M FU (0 : Int32) (0 : Int32))
-- X8_turnHole_1 (W, depth 1)
def f_X8_turnHole_1 (v1 : Int32) (v2 : Int32) (M : Mem) : Option Mem :=
  (if (f_X9_isHouse v1) = 0 then some M else (if (f_X9_isHouse v2) = 0 then some M else if inb v1 8 then if inb v1 8 then if inb v2 8 then if inb v2 8 then some (up2 (up2 M 6 (ix v1) ((M 6 (ix v1)) ^^^ ((1 : Int32) <<< (v2 &&& 31)))) 6 (ix v2) (((up2 M 6 (ix v1) ((M 6 (ix v1)) ^^^ ((1 : Int32) <<< (v2 &&& 31)))) 6 (ix v2)) ^^^ ((1 : Int32) <<< (v1 &&& 31)))) else none else none else none else none))
set_option maxRecDepth 20000 in
set_option maxHeartbeats 2000000 in
theorem sp_X8_turnHole_1 (v1 : Int32) (v2 : Int32) (M : Mem) : SpO wV yX8_turnHole cX8_turnHole 3 none 1 [.ref 1, .int v1, .int v2] M (f_X8_turnHole_1 v1 v2 M) := by
  refine sp_of (L := [some (.ref 1), some (.int v1), some (.int v2)]) rfl (by decide +kernel) rfl rfl ?_
  unfold f_X8_turnHole_1
  refine e_iload_n (dt dk_X8_turnHole 0 rfl) rfl ?_
  refine ev_callT (ca_SN ms_X9_isHouse (sp_X9_isHouse v1 M) (dt dk_X8_turnHole 1 rfl) mn_X8_46 rfl rfl rfl (by decide) : Ca _ _ _ _ _ _ _ _ [] _ _) ?_
  show Ev _ _ _ _ _ _ 4 [some (.ref 1), some (.int v1), some (.int v2)] [.int (f_X9_isHouse v1)] M _
  refine e_if_eq 38 (dt dk_X8_turnHole 2 rfl) (by decide) (fun h1 => ?_) (fun h1 => ?_)
  · exact e_vret (dt dk_X8_turnHole 26 rfl) rfl rfl
  · refine e_iload_n (dt dk_X8_turnHole 3 rfl) rfl ?_
    refine ev_callT (ca_SN ms_X9_isHouse (sp_X9_isHouse v2 M) (dt dk_X8_turnHole 4 rfl) mn_X8_46 rfl rfl rfl (by decide) : Ca _ _ _ _ _ _ _ _ [] _ _) ?_
    show Ev _ _ _ _ _ _ 11 [some (.ref 1), some (.int v1), some (.int v2)] [.int (f_X9_isHouse v2)] M _
    refine e_if_eq 38 (dt dk_X8_turnHole 5 rfl) (by decide) (fun h2 => ?_) (fun h2 => ?_)
    · exact e_vret (dt dk_X8_turnHole 26 rfl) rfl rfl
    · refine e_aload_n (dt dk_X8_turnHole 6 rfl) rfl ?_
      refine e_getR ci_X8 (dt dk_X8_turnHole 7 rfl) rfl (by decide) rfl fl_X8_24 ?_
      refine e_iload_n (dt dk_X8_turnHole 8 rfl) rfl ?_
      refine e_dup2 (dt dk_X8_turnHole 9 rfl) rfl rfl ?_
      refine e_if (fun h3 => ?_)
      refine e_iald' (v := (M 6 (ix v1))) (dt dk_X8_turnHole 10 rfl) rfl h3 rfl ?_
      refine e_iconst (v := (1 : Int32)) (dt dk_X8_turnHole 11 rfl) (by decide) ?_
      refine e_iload_n (dt dk_X8_turnHole 12 rfl) rfl ?_
      refine e_ishl (dt dk_X8_turnHole 13 rfl) ?_
      refine e_ixor (dt dk_X8_turnHole 14 rfl) ?_
      refine e_if (fun h4 => ?_)
      refine e_iast' (dt dk_X8_turnHole 15 rfl) rfl h4 ?_
      refine e_aload_n (dt dk_X8_turnHole 16 rfl) rfl ?_
      refine e_getR ci_X8 (dt dk_X8_turnHole 17 rfl) rfl (by decide) rfl fl_X8_24 ?_
      refine e_iload_n (dt dk_X8_turnHole 18 rfl) rfl ?_
      refine e_dup2 (dt dk_X8_turnHole 19 rfl) rfl rfl ?_
      refine e_if (fun h5 => ?_)
      refine e_iald' (v := ((up2 M 6 (ix v1) ((M 6 (ix v1)) ^^^ ((1 : Int32) <<< (v2 &&& 31)))) 6 (ix v2))) (dt dk_X8_turnHole 20 rfl) rfl h5 rfl ?_
      refine e_iconst (v := (1 : Int32)) (dt dk_X8_turnHole 21 rfl) (by decide) ?_
      refine e_iload_n (dt dk_X8_turnHole 22 rfl) rfl ?_
      refine e_ishl (dt dk_X8_turnHole 23 rfl) ?_
      refine e_ixor (dt dk_X8_turnHole 24 rfl) ?_
      refine e_if (fun h6 => ?_)
      refine e_iast' (dt dk_X8_turnHole 25 rfl) rfl h6 ?_
      exact e_vret (dt dk_X8_turnHole 26 rfl) rfl rfl
-- X5_add_15 (W, depth 0)
def f_X5_add_15 (v1 : Int32) (M : Mem) : Option (Int32 × Mem) :=
  (if (M 15 1) < (60 : Int32) then if inb (M 15 1) 60 then some ((1 : Int32), (up2 (up2 M 16 (ix (M 15 1)) v1) 15 1 ((M 15 1) + (1 : Int32)))) else none else some ((0 : Int32), M))
set_option maxRecDepth 20000 in
set_option maxHeartbeats 2000000 in
theorem sp_X5_add_15 (v1 : Int32) (M : Mem) : SpO wI yX5_add cX5_add 2 (some .boolean) 0 [.ref 15, .int v1] M (f_X5_add_15 v1 M) := by
  refine sp_of (L := [some (.ref 15), some (.int v1)]) rfl (by decide +kernel) rfl rfl ?_
  unfold f_X5_add_15
  refine e_aload_n (dt dk_X5_add 0 rfl) rfl ?_
  refine e_getI (v := (M 15 1)) ci_X5 (dt dk_X5_add 1 rfl) rfl (by decide) rfl fl_X5_15 rfl ?_
  refine e_bipush (v := (60 : Int32)) (dt dk_X5_add 2 rfl) (by decide) ?_
  refine e_icmp_lt 11 (dt dk_X5_add 3 rfl) (by decide) (fun h1 => ?_) (fun h1 => ?_)
  · refine e_aload_n (dt dk_X5_add 6 rfl) rfl ?_
    refine e_getR ci_X5 (dt dk_X5_add 7 rfl) rfl (by decide) rfl fl_X5_9 ?_
    refine e_aload_n (dt dk_X5_add 8 rfl) rfl ?_
    refine e_getI (v := (M 15 1)) ci_X5 (dt dk_X5_add 9 rfl) rfl (by decide) rfl fl_X5_15 rfl ?_
    refine e_iload_n (dt dk_X5_add 10 rfl) rfl ?_
    refine e_if (fun h2 => ?_)
    refine e_iast' (dt dk_X5_add 11 rfl) rfl h2 ?_
    refine e_aload_n (dt dk_X5_add 12 rfl) rfl ?_
    refine e_dup (dt dk_X5_add 13 rfl) rfl ?_
    refine e_getI (v := (M 15 1)) ci_X5 (dt dk_X5_add 14 rfl) rfl (by decide) rfl fl_X5_15 rfl ?_
    refine e_iconst (v := (1 : Int32)) (dt dk_X5_add 15 rfl) (by decide) ?_
    refine e_iadd (dt dk_X5_add 16 rfl) ?_
    refine e_putI (ty := .int) ci_X5 (dt dk_X5_add 17 rfl) rfl (by decide) rfl fl_X5_15 rfl (by decide +kernel) rfl rfl ?_
    refine e_iconst (v := (1 : Int32)) (dt dk_X5_add 18 rfl) (by decide) ?_
    exact e_iret (dt dk_X5_add 19 rfl) rfl rfl rfl
  · refine e_iconst (v := (0 : Int32)) (dt dk_X5_add 4 rfl) (by decide) ?_
    exact e_iret (dt dk_X5_add 5 rfl) rfl rfl rfl
-- X9_isLetter (T, depth 1)
def fo_X9_isLetter (v0 : Int32) : Option Int32 :=
  some (f_X9_isHouse (v0 - (65 : Int32)))
def f_X9_isLetter (v0 : Int32) : Int32 :=
  (f_X9_isHouse (v0 - (65 : Int32)))
theorem fe_X9_isLetter (v0 : Int32) : fo_X9_isLetter v0 = some (f_X9_isLetter v0) := by
  unfold fo_X9_isLetter f_X9_isLetter
  simp only [apply_ite some]
theorem fb_X9_isLetter (v0 : Int32) : f_X9_isLetter v0 = 0 ∨ f_X9_isLetter v0 = 1 := by
  unfold f_X9_isLetter
  exact fb_X9_isHouse (v0 - (65 : Int32))
set_option maxRecDepth 20000 in
set_option maxHeartbeats 2000000 in
theorem sp_X9_isLetter (v0 : Int32) (M : Mem) : SpO (wR M) yX9_isLetter cX9_isLetter 1 (some .boolean) 1 [.int v0] M (some (f_X9_isLetter v0)) := by
  rw [← fe_X9_isLetter]
  refine sp_of (L := [some (.int v0)]) rfl (by decide +kernel) rfl rfl ?_
  unfold fo_X9_isLetter
  refine e_iload_n (dt dk_X9_isLetter 0 rfl) rfl ?_
  refine e_bipush (v := (65 : Int32)) (dt dk_X9_isLetter 1 rfl) (by decide) ?_
  refine e_isub (dt dk_X9_isLetter 2 rfl) ?_
  refine ev_callT (ca_S ms_X9_isHouse (sp_X9_isHouse (v0 - (65 : Int32)) M) (dt dk_X9_isLetter 3 rfl) ml_X9_75 rfl rfl rfl (by decide) : Ca _ _ _ _ _ _ _ _ [] _ _) ?_
  show Ev _ _ _ _ _ _ 7 [some (.int v0)] [.int (f_X9_isHouse (v0 - (65 : Int32)))] M _
  exact e_iret (dt dk_X9_isLetter 4 rfl) rfl (narrow_bool (fb_X9_isHouse (v0 - (65 : Int32)))) rfl
-- X5_isDeed (T, depth 0)
def fo_X5_isDeed (v0 : Int32) : Option Int32 :=
  (if v0 = (43 : Int32) then some (1 : Int32) else (if v0 = (45 : Int32) then some (1 : Int32) else (if v0 = (94 : Int32) then some (1 : Int32) else (if v0 = (95 : Int32) then some (1 : Int32) else (if v0 = (33 : Int32) then some (1 : Int32) else some (0 : Int32))))))
def f_X5_isDeed (v0 : Int32) : Int32 :=
  (if v0 = (43 : Int32) then (1 : Int32) else (if v0 = (45 : Int32) then (1 : Int32) else (if v0 = (94 : Int32) then (1 : Int32) else (if v0 = (95 : Int32) then (1 : Int32) else (if v0 = (33 : Int32) then (1 : Int32) else (0 : Int32))))))
theorem fe_X5_isDeed (v0 : Int32) : fo_X5_isDeed v0 = some (f_X5_isDeed v0) := by
  unfold fo_X5_isDeed f_X5_isDeed
  simp only [apply_ite some]
theorem fb_X5_isDeed (v0 : Int32) : f_X5_isDeed v0 = 0 ∨ f_X5_isDeed v0 = 1 := by
  unfold f_X5_isDeed
  (repeat' split) <;> first | exact Or.inl rfl | exact Or.inr rfl
set_option maxRecDepth 20000 in
set_option maxHeartbeats 2000000 in
theorem sp_X5_isDeed (v0 : Int32) (M : Mem) : SpO (wR M) yX5_isDeed cX5_isDeed 1 (some .boolean) 0 [.int v0] M (some (f_X5_isDeed v0)) := by
  rw [← fe_X5_isDeed]
  refine sp_of (L := [some (.int v0)]) rfl (by decide +kernel) rfl rfl ?_
  unfold fo_X5_isDeed
  refine e_iload_n (dt dk_X5_isDeed 0 rfl) rfl ?_
  refine e_bipush (v := (43 : Int32)) (dt dk_X5_isDeed 1 rfl) (by decide) ?_
  refine e_icmp_eq 30 (dt dk_X5_isDeed 2 rfl) (by decide) (fun h1 => ?_) (fun h1 => ?_)
  · refine e_iconst (v := (1 : Int32)) (dt dk_X5_isDeed 15 rfl) (by decide) ?_
    refine e_goto 35 (dt dk_X5_isDeed 16 rfl) (by decide) ?_
    exact e_iret (dt dk_X5_isDeed 18 rfl) rfl rfl rfl
  · refine e_iload_n (dt dk_X5_isDeed 3 rfl) rfl ?_
    refine e_bipush (v := (45 : Int32)) (dt dk_X5_isDeed 4 rfl) (by decide) ?_
    refine e_icmp_eq 30 (dt dk_X5_isDeed 5 rfl) (by decide) (fun h2 => ?_) (fun h2 => ?_)
    · refine e_iconst (v := (1 : Int32)) (dt dk_X5_isDeed 15 rfl) (by decide) ?_
      refine e_goto 35 (dt dk_X5_isDeed 16 rfl) (by decide) ?_
      exact e_iret (dt dk_X5_isDeed 18 rfl) rfl rfl rfl
    · refine e_iload_n (dt dk_X5_isDeed 6 rfl) rfl ?_
      refine e_bipush (v := (94 : Int32)) (dt dk_X5_isDeed 7 rfl) (by decide) ?_
      refine e_icmp_eq 30 (dt dk_X5_isDeed 8 rfl) (by decide) (fun h3 => ?_) (fun h3 => ?_)
      · refine e_iconst (v := (1 : Int32)) (dt dk_X5_isDeed 15 rfl) (by decide) ?_
        refine e_goto 35 (dt dk_X5_isDeed 16 rfl) (by decide) ?_
        exact e_iret (dt dk_X5_isDeed 18 rfl) rfl rfl rfl
      · refine e_iload_n (dt dk_X5_isDeed 9 rfl) rfl ?_
        refine e_bipush (v := (95 : Int32)) (dt dk_X5_isDeed 10 rfl) (by decide) ?_
        refine e_icmp_eq 30 (dt dk_X5_isDeed 11 rfl) (by decide) (fun h4 => ?_) (fun h4 => ?_)
        · refine e_iconst (v := (1 : Int32)) (dt dk_X5_isDeed 15 rfl) (by decide) ?_
          refine e_goto 35 (dt dk_X5_isDeed 16 rfl) (by decide) ?_
          exact e_iret (dt dk_X5_isDeed 18 rfl) rfl rfl rfl
        · refine e_iload_n (dt dk_X5_isDeed 12 rfl) rfl ?_
          refine e_bipush (v := (33 : Int32)) (dt dk_X5_isDeed 13 rfl) (by decide) ?_
          refine e_icmp_ne 34 (dt dk_X5_isDeed 14 rfl) (by decide) (fun h5 => ?_) (fun h5 => ?_)
          · refine e_iconst (v := (1 : Int32)) (dt dk_X5_isDeed 15 rfl) (by decide) ?_
            refine e_goto 35 (dt dk_X5_isDeed 16 rfl) (by decide) ?_
            exact e_iret (dt dk_X5_isDeed 18 rfl) rfl rfl rfl
          · refine e_iconst (v := (0 : Int32)) (dt dk_X5_isDeed 17 rfl) (by decide) ?_
            exact e_iret (dt dk_X5_isDeed 18 rfl) rfl rfl rfl
-- X5_awaitedBehind (T, depth 2)
def fo_X5_awaitedBehind (v0 : Int32) (v1 : Int32) : Option Int32 :=
  (if v1 = (0 : Int32) then (if v0 = (46 : Int32) then some (0 : Int32) else (if v0 = (111 : Int32) then some (2 : Int32) else (if (f_X9_isLetter v0) = 0 then some (4 : Int32) else some (1 : Int32)))) else if v1 = (1 : Int32) then (if (f_X5_isDeed v0) = 0 then some (4 : Int32) else some (0 : Int32)) else if v1 = (2 : Int32) then (if (f_X9_isLetter v0) = 0 then some (4 : Int32) else some (3 : Int32)) else (if (f_X9_isLetter v0) = 0 then some (4 : Int32) else some (0 : Int32)))
def f_X5_awaitedBehind (v0 : Int32) (v1 : Int32) : Int32 :=
  (if v1 = (0 : Int32) then (if v0 = (46 : Int32) then (0 : Int32) else (if v0 = (111 : Int32) then (2 : Int32) else (if (f_X9_isLetter v0) = 0 then (4 : Int32) else (1 : Int32)))) else if v1 = (1 : Int32) then (if (f_X5_isDeed v0) = 0 then (4 : Int32) else (0 : Int32)) else if v1 = (2 : Int32) then (if (f_X9_isLetter v0) = 0 then (4 : Int32) else (3 : Int32)) else (if (f_X9_isLetter v0) = 0 then (4 : Int32) else (0 : Int32)))
theorem fe_X5_awaitedBehind (v0 : Int32) (v1 : Int32) : fo_X5_awaitedBehind v0 v1 = some (f_X5_awaitedBehind v0 v1) := by
  unfold fo_X5_awaitedBehind f_X5_awaitedBehind
  simp only [apply_ite some]
set_option maxRecDepth 20000 in
set_option maxHeartbeats 2000000 in
theorem sp_X5_awaitedBehind (v0 : Int32) (v1 : Int32) (M : Mem) : SpO (wR M) yX5_awaitedBehind cX5_awaitedBehind 2 (some .int) 2 [.int v0, .int v1] M (some (f_X5_awaitedBehind v0 v1)) := by
  rw [← fe_X5_awaitedBehind]
  refine sp_of (L := [some (.int v0), some (.int v1)]) rfl (by decide +kernel) rfl rfl ?_
  unfold fo_X5_awaitedBehind
  refine e_iload_n (dt dk_X5_awaitedBehind 0 rfl) rfl ?_
  refine e_split (fun h1 => ?_) (fun h1 => ?_)
  · refine e_tableIn 28 (dt dk_X5_awaitedBehind 1 rfl) (by rw [h1]; decide) (by rw [h1]; decide) (by rw [h1]; rfl) (by decide) ?_
    refine e_iload_n (dt dk_X5_awaitedBehind 2 rfl) rfl ?_
    refine e_bipush (v := (46 : Int32)) (dt dk_X5_awaitedBehind 3 rfl) (by decide) ?_
    refine e_icmp_ne 36 (dt dk_X5_awaitedBehind 4 rfl) (by decide) (fun h2 => ?_) (fun h2 => ?_)
    · refine e_iconst (v := (0 : Int32)) (dt dk_X5_awaitedBehind 5 rfl) (by decide) ?_
      exact e_iret (dt dk_X5_awaitedBehind 6 rfl) rfl rfl rfl
    · refine e_iload_n (dt dk_X5_awaitedBehind 7 rfl) rfl ?_
      refine e_bipush (v := (111 : Int32)) (dt dk_X5_awaitedBehind 8 rfl) (by decide) ?_
      refine e_icmp_ne 44 (dt dk_X5_awaitedBehind 9 rfl) (by decide) (fun h3 => ?_) (fun h3 => ?_)
      · refine e_iconst (v := (2 : Int32)) (dt dk_X5_awaitedBehind 10 rfl) (by decide) ?_
        exact e_iret (dt dk_X5_awaitedBehind 11 rfl) rfl rfl rfl
      · refine e_iload_n (dt dk_X5_awaitedBehind 12 rfl) rfl ?_
        refine ev_callT (ca_SN ms_X9_isLetter (sp_X9_isLetter v0 M) (dt dk_X5_awaitedBehind 13 rfl) mn_X5_35 rfl rfl rfl (by decide) : Ca _ _ _ _ _ _ _ _ [] _ _) ?_
        show Ev _ _ _ _ _ _ 48 [some (.int v0), some (.int v1)] [.int (f_X9_isLetter v0)] M _
        refine e_if_eq 55 (dt dk_X5_awaitedBehind 14 rfl) (by decide) (fun h4 => ?_) (fun h4 => ?_)
        · refine e_iconst (v := (4 : Int32)) (dt dk_X5_awaitedBehind 17 rfl) (by decide) ?_
          exact e_iret (dt dk_X5_awaitedBehind 18 rfl) rfl rfl rfl
        · refine e_iconst (v := (1 : Int32)) (dt dk_X5_awaitedBehind 15 rfl) (by decide) ?_
          refine e_goto 56 (dt dk_X5_awaitedBehind 16 rfl) (by decide) ?_
          exact e_iret (dt dk_X5_awaitedBehind 18 rfl) rfl rfl rfl
  · skip
    refine e_split (fun h5 => ?_) (fun h5 => ?_)
    · refine e_tableIn 57 (dt dk_X5_awaitedBehind 1 rfl) (by rw [h5]; decide) (by rw [h5]; decide) (by rw [h5]; rfl) (by decide) ?_
      refine e_iload_n (dt dk_X5_awaitedBehind 19 rfl) rfl ?_
      refine ev_callT (ca_S ms_X5_isDeed (sp_X5_isDeed v0 M) (dt dk_X5_awaitedBehind 20 rfl) ml_X5_38 rfl rfl rfl (by decide) : Ca _ _ _ _ _ _ _ _ [] _ _) ?_
      show Ev _ _ _ _ _ _ 61 [some (.int v0), some (.int v1)] [.int (f_X5_isDeed v0)] M _
      refine e_if_eq 68 (dt dk_X5_awaitedBehind 21 rfl) (by decide) (fun h6 => ?_) (fun h6 => ?_)
      · refine e_iconst (v := (4 : Int32)) (dt dk_X5_awaitedBehind 24 rfl) (by decide) ?_
        exact e_iret (dt dk_X5_awaitedBehind 25 rfl) rfl rfl rfl
      · refine e_iconst (v := (0 : Int32)) (dt dk_X5_awaitedBehind 22 rfl) (by decide) ?_
        refine e_goto 69 (dt dk_X5_awaitedBehind 23 rfl) (by decide) ?_
        exact e_iret (dt dk_X5_awaitedBehind 25 rfl) rfl rfl rfl
    · skip
      refine e_split (fun h7 => ?_) (fun h7 => ?_)
      · refine e_tableIn 70 (dt dk_X5_awaitedBehind 1 rfl) (by rw [h7]; decide) (by rw [h7]; decide) (by rw [h7]; rfl) (by decide) ?_
        refine e_iload_n (dt dk_X5_awaitedBehind 26 rfl) rfl ?_
        refine ev_callT (ca_SN ms_X9_isLetter (sp_X9_isLetter v0 M) (dt dk_X5_awaitedBehind 27 rfl) mn_X5_35 rfl rfl rfl (by decide) : Ca _ _ _ _ _ _ _ _ [] _ _) ?_
        show Ev _ _ _ _ _ _ 74 [some (.int v0), some (.int v1)] [.int (f_X9_isLetter v0)] M _
        refine e_if_eq 81 (dt dk_X5_awaitedBehind 28 rfl) (by decide) (fun h8 => ?_) (fun h8 => ?_)
        · refine e_iconst (v := (4 : Int32)) (dt dk_X5_awaitedBehind 31 rfl) (by decide) ?_
          exact e_iret (dt dk_X5_awaitedBehind 32 rfl) rfl rfl rfl
        · refine e_iconst (v := (3 : Int32)) (dt dk_X5_awaitedBehind 29 rfl) (by decide) ?_
          refine e_goto 82 (dt dk_X5_awaitedBehind 30 rfl) (by decide) ?_
          exact e_iret (dt dk_X5_awaitedBehind 32 rfl) rfl rfl rfl
      · skip
        refine e_tableOut 83 (dt dk_X5_awaitedBehind 1 rfl) (sw_out 2 (by simp only [List.range, List.range.loop, List.all_cons, List.all_nil]; simp [h1, h5, h7])) (by decide) ?_
        refine e_iload_n (dt dk_X5_awaitedBehind 33 rfl) rfl ?_
        refine ev_callT (ca_SN ms_X9_isLetter (sp_X9_isLetter v0 M) (dt dk_X5_awaitedBehind 34 rfl) mn_X5_35 rfl rfl rfl (by decide) : Ca _ _ _ _ _ _ _ _ [] _ _) ?_
        show Ev _ _ _ _ _ _ 87 [some (.int v0), some (.int v1)] [.int (f_X9_isLetter v0)] M _
        refine e_if_eq 94 (dt dk_X5_awaitedBehind 35 rfl) (by decide) (fun h9 => ?_) (fun h9 => ?_)
        · refine e_iconst (v := (4 : Int32)) (dt dk_X5_awaitedBehind 38 rfl) (by decide) ?_
          exact e_iret (dt dk_X5_awaitedBehind 39 rfl) rfl rfl rfl
        · refine e_iconst (v := (0 : Int32)) (dt dk_X5_awaitedBehind 36 rfl) (by decide) ?_
          refine e_goto 95 (dt dk_X5_awaitedBehind 37 rfl) (by decide) ?_
          exact e_iret (dt dk_X5_awaitedBehind 39 rfl) rfl rfl rfl
-- X5_faultPlace_15 (R, depth 3)
def bd_X5_faultPlace_15_4 (M : Mem)  (K4 : Int32 → Int32 → Option Int32) (v1 : Int32) (v2 : Int32) : Option Int32 :=
  (if (M 15 1) ≤ v2 then (if v1 = 0 then some (-6 : Int32) else some (M 15 1)) else if inb v2 60 then (if (f_X5_awaitedBehind (M 16 (ix v2)) v1) = (4 : Int32) then some v2 else (K4 (f_X5_awaitedBehind (M 16 (ix v2)) v1) (v2 + (1 : Int32)))) else none)
set_option maxRecDepth 20000 in
set_option maxHeartbeats 2000000 in
theorem ev_bd_X5_faultPlace_15_4 (M : Mem)  (K4 : Int32 → Int32 → Option Int32)  (hK4 : ∀ (v1 : Int32) (v2 : Int32), Ev none (wR M) RX5 cX5_faultPlace (some .int) 3 4 [some (.ref 15), some (.int v1), some (.int v2)] [] M (K4 v1 v2)) (v1 : Int32) (v2 : Int32) : Ev none (wR M) RX5 cX5_faultPlace (some .int) 3 4 [some (.ref 15), some (.int v1), some (.int v2)] [] M (bd_X5_faultPlace_15_4 M K4 v1 v2) := by
  unfold bd_X5_faultPlace_15_4
  refine e_iload_n (dt dk_X5_faultPlace 4 rfl) rfl ?_
  refine e_aload_n (dt dk_X5_faultPlace 5 rfl) rfl ?_
  refine e_getI (v := (M 15 1)) ci_X5 (dt dk_X5_faultPlace 6 rfl) rfl (by decide) rfl fl_X5_15 rfl ?_
  refine e_icmp_ge 36 (dt dk_X5_faultPlace 7 rfl) (by decide) (fun h1 => ?_) (fun h1 => ?_)
  · refine e_iload_n (dt dk_X5_faultPlace 22 rfl) rfl ?_
    refine e_if_ne 45 (dt dk_X5_faultPlace 23 rfl) (by decide) (fun h2 => ?_) (fun h2 => ?_)
    · refine e_bipush (v := (-6 : Int32)) (dt dk_X5_faultPlace 24 rfl) (by decide) ?_
      refine e_goto 49 (dt dk_X5_faultPlace 25 rfl) (by decide) ?_
      exact e_iret (dt dk_X5_faultPlace 28 rfl) rfl rfl rfl
    · refine e_aload_n (dt dk_X5_faultPlace 26 rfl) rfl ?_
      refine e_getI (v := (M 15 1)) ci_X5 (dt dk_X5_faultPlace 27 rfl) rfl (by decide) rfl fl_X5_15 rfl ?_
      exact e_iret (dt dk_X5_faultPlace 28 rfl) rfl rfl rfl
  · refine e_aload_n (dt dk_X5_faultPlace 8 rfl) rfl ?_
    refine e_getR ci_X5 (dt dk_X5_faultPlace 9 rfl) rfl (by decide) rfl fl_X5_9 ?_
    refine e_iload_n (dt dk_X5_faultPlace 10 rfl) rfl ?_
    refine e_if (fun h3 => ?_)
    refine e_iald' (v := (M 16 (ix v2))) (dt dk_X5_faultPlace 11 rfl) rfl h3 rfl ?_
    refine e_iload_n (dt dk_X5_faultPlace 12 rfl) rfl ?_
    refine ev_callT (ca_S ms_X5_awaitedBehind (sp_X5_awaitedBehind (M 16 (ix v2)) v1 M) (dt dk_X5_faultPlace 13 rfl) ml_X5_31 rfl rfl rfl (by decide) : Ca _ _ _ _ _ _ _ _ [] _ _) ?_
    show Ev _ _ _ _ _ _ 22 [some (.ref 15), some (.int v1), some (.int v2)] [.int (f_X5_awaitedBehind (M 16 (ix v2)) v1)] M _
    refine e_istore_n [some (.ref 15), some (.int (f_X5_awaitedBehind (M 16 (ix v2)) v1)), some (.int v2)] (dt dk_X5_faultPlace 14 rfl) rfl rfl rfl ?_
    refine e_iload_n (dt dk_X5_faultPlace 15 rfl) rfl ?_
    refine e_iconst (v := (4 : Int32)) (dt dk_X5_faultPlace 16 rfl) (by decide) ?_
    refine e_icmp_ne 30 (dt dk_X5_faultPlace 17 rfl) (by decide) (fun h4 => ?_) (fun h4 => ?_)
    · refine e_iload_n (dt dk_X5_faultPlace 18 rfl) rfl ?_
      exact e_iret (dt dk_X5_faultPlace 19 rfl) rfl rfl rfl
    · refine e_iinc [some (.ref 15), some (.int (f_X5_awaitedBehind (M 16 (ix v2)) v1)), some (.int (v2 + (1 : Int32)))] (dt dk_X5_faultPlace 20 rfl) rfl rfl rfl rfl ?_
      refine e_goto 4 (dt dk_X5_faultPlace 21 rfl) (by decide) ?_
      exact e_forget [true, true, true] [some (.ref 15), some (.int (f_X5_awaitedBehind (M 16 (ix v2)) v1)), some (.int (v2 + (1 : Int32)))] ⟨rfl, rfl⟩ (hK4 (f_X5_awaitedBehind (M 16 (ix v2)) v1) (v2 + (1 : Int32)))
def lp_X5_faultPlace_15_4 (M : Mem)  : Nat → Int32 → Int32 → Option Int32
  | 0 => fun _ _ => none
  | n + 1 => bd_X5_faultPlace_15_4 M (lp_X5_faultPlace_15_4 M n)
theorem ev_lp_X5_faultPlace_15_4 (M : Mem)   : ∀ (n : Nat), ∀ (v1 : Int32) (v2 : Int32), Ev none (wR M) RX5 cX5_faultPlace (some .int) 3 4 [some (.ref 15), some (.int v1), some (.int v2)] [] M (lp_X5_faultPlace_15_4 M n v1 v2)
  | 0 => fun _ _ => e_none
  | n + 1 => ev_bd_X5_faultPlace_15_4 M (lp_X5_faultPlace_15_4 M n) (ev_lp_X5_faultPlace_15_4 M n)
def f_X5_faultPlace_15  (M : Mem) : Option Int32 :=
  (lp_X5_faultPlace_15_4 M FU (0 : Int32) (0 : Int32))
set_option maxRecDepth 20000 in
set_option maxHeartbeats 2000000 in
theorem sp_X5_faultPlace_15  (M : Mem) : SpO (wR M) yX5_faultPlace cX5_faultPlace 3 (some .int) 3 [.ref 15] M (f_X5_faultPlace_15 M) := by
  refine sp_of (L := [some (.ref 15), none, none]) rfl (by decide +kernel) rfl rfl ?_
  unfold f_X5_faultPlace_15
  refine e_iconst (v := (0 : Int32)) (dt dk_X5_faultPlace 0 rfl) (by decide) ?_
  refine e_istore_n [some (.ref 15), some (.int (0 : Int32)), none] (dt dk_X5_faultPlace 1 rfl) rfl rfl rfl ?_
  refine e_iconst (v := (0 : Int32)) (dt dk_X5_faultPlace 2 rfl) (by decide) ?_
  refine e_istore_n [some (.ref 15), some (.int (0 : Int32)), some (.int (0 : Int32))] (dt dk_X5_faultPlace 3 rfl) rfl rfl rfl ?_
  exact e_forget [true, true, true] [some (.ref 15), some (.int (0 : Int32)), some (.int (0 : Int32))] ⟨rfl, rfl⟩ (ev_lp_X5_faultPlace_15_4 M FU (0 : Int32) (0 : Int32))
-- X8_become_8_1 (W, depth 1)
def f_X8_become_8_1  (M : Mem) : Option Mem :=
  some (up2 (up2 (up2 (upA (upA (upA (upA (upA M 9 (va_cpy (M 2) (M 9) 0 0 8)) 10 (va_cpy (M 3) (M 10) 0 0 8)) 11 (va_cpy (M 4) (M 11) 0 0 8)) 12 (va_cpy (M 5) (M 12) 0 0 8)) 13 (va_cpy (M 6) (M 13) 0 0 8)) 8 6 (M 1 6)) 8 7 (M 1 7)) 8 8 (M 1 8))
set_option maxRecDepth 20000 in
set_option maxHeartbeats 2000000 in
theorem sp_X8_become_8_1  (M : Mem) : SpO wV yX8_become cX8_become 2 none 1 [.ref 8, .ref 1] M (f_X8_become_8_1 M) := by
  refine sp_of (L := [some (.ref 8), some (.ref 1)]) rfl (by decide +kernel) rfl rfl ?_
  unfold f_X8_become_8_1
  refine e_aload_n (dt dk_X8_become 0 rfl) rfl ?_
  refine e_getR ci_X8 (dt dk_X8_become 1 rfl) rfl (by decide) rfl fl_X8_9 ?_
  refine e_iconst (v := (0 : Int32)) (dt dk_X8_become 2 rfl) (by decide) ?_
  refine e_aload_n (dt dk_X8_become 3 rfl) rfl ?_
  refine e_getR ci_X8 (dt dk_X8_become 4 rfl) rfl (by decide) rfl fl_X8_9 ?_
  refine e_iconst (v := (0 : Int32)) (dt dk_X8_become 5 rfl) (by decide) ?_
  refine e_bipush (v := (8 : Int32)) (dt dk_X8_become 6 rfl) (by decide) ?_
  refine e_copy ok_copy (dt dk_X8_become 7 rfl) ml_X8_34 rfl rfl (by decide) (by decide) (by decide) (by decide) (by decide) rfl (by decide) ?_
  show Ev _ _ _ _ _ _ 15 [some (.ref 8), some (.ref 1)] [] (upA M 9 (va_cpy (M 2) (M 9) 0 0 8)) _
  refine e_aload_n (dt dk_X8_become 8 rfl) rfl ?_
  refine e_getR ci_X8 (dt dk_X8_become 9 rfl) rfl (by decide) rfl fl_X8_15 ?_
  refine e_iconst (v := (0 : Int32)) (dt dk_X8_become 10 rfl) (by decide) ?_
  refine e_aload_n (dt dk_X8_become 11 rfl) rfl ?_
  refine e_getR ci_X8 (dt dk_X8_become 12 rfl) rfl (by decide) rfl fl_X8_15 ?_
  refine e_iconst (v := (0 : Int32)) (dt dk_X8_become 13 rfl) (by decide) ?_
  refine e_bipush (v := (8 : Int32)) (dt dk_X8_become 14 rfl) (by decide) ?_
  refine e_copy ok_copy (dt dk_X8_become 15 rfl) ml_X8_34 rfl rfl (by decide) (by decide) (by decide) (by decide) (by decide) rfl (by decide) ?_
  show Ev _ _ _ _ _ _ 30 [some (.ref 8), some (.ref 1)] [] (upA (upA M 9 (va_cpy (M 2) (M 9) 0 0 8)) 10 (va_cpy (M 3) (M 10) 0 0 8)) _
  refine e_aload_n (dt dk_X8_become 16 rfl) rfl ?_
  refine e_getR ci_X8 (dt dk_X8_become 17 rfl) rfl (by decide) rfl fl_X8_18 ?_
  refine e_iconst (v := (0 : Int32)) (dt dk_X8_become 18 rfl) (by decide) ?_
  refine e_aload_n (dt dk_X8_become 19 rfl) rfl ?_
  refine e_getR ci_X8 (dt dk_X8_become 20 rfl) rfl (by decide) rfl fl_X8_18 ?_
  refine e_iconst (v := (0 : Int32)) (dt dk_X8_become 21 rfl) (by decide) ?_
  refine e_bipush (v := (8 : Int32)) (dt dk_X8_become 22 rfl) (by decide) ?_
  refine e_copy ok_copy (dt dk_X8_become 23 rfl) ml_X8_34 rfl rfl (by decide) (by decide) (by decide) (by decide) (by decide) rfl (by decide) ?_
  show Ev _ _ _ _ _ _ 45 [some (.ref 8), some (.ref 1)] [] (upA (upA (upA M 9 (va_cpy (M 2) (M 9) 0 0 8)) 10 (va_cpy (M 3) (M 10) 0 0 8)) 11 (va_cpy (M 4) (M 11) 0 0 8)) _
  refine e_aload_n (dt dk_X8_become 24 rfl) rfl ?_
  refine e_getR ci_X8 (dt dk_X8_become 25 rfl) rfl (by decide) rfl fl_X8_21 ?_
  refine e_iconst (v := (0 : Int32)) (dt dk_X8_become 26 rfl) (by decide) ?_
  refine e_aload_n (dt dk_X8_become 27 rfl) rfl ?_
  refine e_getR ci_X8 (dt dk_X8_become 28 rfl) rfl (by decide) rfl fl_X8_21 ?_
  refine e_iconst (v := (0 : Int32)) (dt dk_X8_become 29 rfl) (by decide) ?_
  refine e_bipush (v := (8 : Int32)) (dt dk_X8_become 30 rfl) (by decide) ?_
  refine e_copy ok_copy (dt dk_X8_become 31 rfl) ml_X8_34 rfl rfl (by decide) (by decide) (by decide) (by decide) (by decide) rfl (by decide) ?_
  show Ev _ _ _ _ _ _ 60 [some (.ref 8), some (.ref 1)] [] (upA (upA (upA (upA M 9 (va_cpy (M 2) (M 9) 0 0 8)) 10 (va_cpy (M 3) (M 10) 0 0 8)) 11 (va_cpy (M 4) (M 11) 0 0 8)) 12 (va_cpy (M 5) (M 12) 0 0 8)) _
  refine e_aload_n (dt dk_X8_become 32 rfl) rfl ?_
  refine e_getR ci_X8 (dt dk_X8_become 33 rfl) rfl (by decide) rfl fl_X8_24 ?_
  refine e_iconst (v := (0 : Int32)) (dt dk_X8_become 34 rfl) (by decide) ?_
  refine e_aload_n (dt dk_X8_become 35 rfl) rfl ?_
  refine e_getR ci_X8 (dt dk_X8_become 36 rfl) rfl (by decide) rfl fl_X8_24 ?_
  refine e_iconst (v := (0 : Int32)) (dt dk_X8_become 37 rfl) (by decide) ?_
  refine e_bipush (v := (8 : Int32)) (dt dk_X8_become 38 rfl) (by decide) ?_
  refine e_copy ok_copy (dt dk_X8_become 39 rfl) ml_X8_34 rfl rfl (by decide) (by decide) (by decide) (by decide) (by decide) rfl (by decide) ?_
  show Ev _ _ _ _ _ _ 75 [some (.ref 8), some (.ref 1)] [] (upA (upA (upA (upA (upA M 9 (va_cpy (M 2) (M 9) 0 0 8)) 10 (va_cpy (M 3) (M 10) 0 0 8)) 11 (va_cpy (M 4) (M 11) 0 0 8)) 12 (va_cpy (M 5) (M 12) 0 0 8)) 13 (va_cpy (M 6) (M 13) 0 0 8)) _
  refine e_aload_n (dt dk_X8_become 40 rfl) rfl ?_
  refine e_aload_n (dt dk_X8_become 41 rfl) rfl ?_
  refine e_getI (v := (M 1 6)) ci_X8 (dt dk_X8_become 42 rfl) rfl (by decide) rfl fl_X8_30 rfl ?_
  refine e_putI (ty := .int) ci_X8 (dt dk_X8_become 43 rfl) rfl (by decide) rfl fl_X8_30 rfl (by decide +kernel) rfl rfl ?_
  refine e_aload_n (dt dk_X8_become 44 rfl) rfl ?_
  refine e_aload_n (dt dk_X8_become 45 rfl) rfl ?_
  refine e_getI (v := (M 1 7)) ci_X8 (dt dk_X8_become 46 rfl) rfl (by decide) rfl fl_X8_40 rfl ?_
  refine e_putI (ty := .int) ci_X8 (dt dk_X8_become 47 rfl) rfl (by decide) rfl fl_X8_40 rfl (by decide +kernel) rfl rfl ?_
  refine e_aload_n (dt dk_X8_become 48 rfl) rfl ?_
  refine e_aload_n (dt dk_X8_become 49 rfl) rfl ?_
  refine e_getI (v := (M 1 8)) ci_X8 (dt dk_X8_become 50 rfl) rfl (by decide) rfl fl_X8_43 rfl ?_
  refine e_putI (ty := .int) ci_X8 (dt dk_X8_become 51 rfl) rfl (by decide) rfl fl_X8_43 rfl (by decide +kernel) rfl rfl ?_
  exact e_vret (dt dk_X8_become 52 rfl) rfl rfl
-- X8_clearHouses_8 (R, depth 0)
def bd_X8_clearHouses_8_4 (M : Mem)  (K4 : Int32 → Int32 → Option Int32) (v1 : Int32) (v2 : Int32) : Option Int32 :=
  (if (8 : Int32) ≤ v2 then some v1 else if inb v2 8 then (if (M 9 (ix v2)) = 0 then (K4 (v1 ||| ((1 : Int32) <<< (v2 &&& 31))) (v2 + (1 : Int32))) else (K4 v1 (v2 + (1 : Int32)))) else none)
set_option maxRecDepth 20000 in
set_option maxHeartbeats 2000000 in
theorem ev_bd_X8_clearHouses_8_4 (M : Mem)  (K4 : Int32 → Int32 → Option Int32)  (hK4 : ∀ (v1 : Int32) (v2 : Int32), Ev none (wR M) RX8 cX8_clearHouses (some .int) 0 4 [some (.ref 8), some (.int v1), some (.int v2)] [] M (K4 v1 v2)) (v1 : Int32) (v2 : Int32) : Ev none (wR M) RX8 cX8_clearHouses (some .int) 0 4 [some (.ref 8), some (.int v1), some (.int v2)] [] M (bd_X8_clearHouses_8_4 M K4 v1 v2) := by
  unfold bd_X8_clearHouses_8_4
  refine e_iload_n (dt dk_X8_clearHouses 4 rfl) rfl ?_
  refine e_bipush (v := (8 : Int32)) (dt dk_X8_clearHouses 5 rfl) (by decide) ?_
  refine e_icmp_ge 31 (dt dk_X8_clearHouses 6 rfl) (by decide) (fun h1 => ?_) (fun h1 => ?_)
  · refine e_iload_n (dt dk_X8_clearHouses 20 rfl) rfl ?_
    exact e_iret (dt dk_X8_clearHouses 21 rfl) rfl rfl rfl
  · refine e_aload_n (dt dk_X8_clearHouses 7 rfl) rfl ?_
    refine e_getR ci_X8 (dt dk_X8_clearHouses 8 rfl) rfl (by decide) rfl fl_X8_9 ?_
    refine e_iload_n (dt dk_X8_clearHouses 9 rfl) rfl ?_
    refine e_if (fun h2 => ?_)
    refine e_iald' (v := (M 9 (ix v2))) (dt dk_X8_clearHouses 10 rfl) rfl h2 rfl ?_
    refine e_if_ne 25 (dt dk_X8_clearHouses 11 rfl) (by decide) (fun h3 => ?_) (fun h3 => ?_)
    · refine e_iload_n (dt dk_X8_clearHouses 12 rfl) rfl ?_
      refine e_iconst (v := (1 : Int32)) (dt dk_X8_clearHouses 13 rfl) (by decide) ?_
      refine e_iload_n (dt dk_X8_clearHouses 14 rfl) rfl ?_
      refine e_ishl (dt dk_X8_clearHouses 15 rfl) ?_
      refine e_ior (dt dk_X8_clearHouses 16 rfl) ?_
      refine e_istore_n [some (.ref 8), some (.int (v1 ||| ((1 : Int32) <<< (v2 &&& 31)))), some (.int v2)] (dt dk_X8_clearHouses 17 rfl) rfl rfl rfl ?_
      refine e_iinc [some (.ref 8), some (.int (v1 ||| ((1 : Int32) <<< (v2 &&& 31)))), some (.int (v2 + (1 : Int32)))] (dt dk_X8_clearHouses 18 rfl) rfl rfl rfl rfl ?_
      refine e_goto 4 (dt dk_X8_clearHouses 19 rfl) (by decide) ?_
      exact e_forget [true, true, true] [some (.ref 8), some (.int (v1 ||| ((1 : Int32) <<< (v2 &&& 31)))), some (.int (v2 + (1 : Int32)))] ⟨rfl, rfl⟩ (hK4 (v1 ||| ((1 : Int32) <<< (v2 &&& 31))) (v2 + (1 : Int32)))
    · refine e_iinc [some (.ref 8), some (.int v1), some (.int (v2 + (1 : Int32)))] (dt dk_X8_clearHouses 18 rfl) rfl rfl rfl rfl ?_
      refine e_goto 4 (dt dk_X8_clearHouses 19 rfl) (by decide) ?_
      exact e_forget [true, true, true] [some (.ref 8), some (.int v1), some (.int (v2 + (1 : Int32)))] ⟨rfl, rfl⟩ (hK4 v1 (v2 + (1 : Int32)))
def lp_X8_clearHouses_8_4 (M : Mem)  : Nat → Int32 → Int32 → Option Int32
  | 0 => fun _ _ => none
  | n + 1 => bd_X8_clearHouses_8_4 M (lp_X8_clearHouses_8_4 M n)
theorem ev_lp_X8_clearHouses_8_4 (M : Mem)   : ∀ (n : Nat), ∀ (v1 : Int32) (v2 : Int32), Ev none (wR M) RX8 cX8_clearHouses (some .int) 0 4 [some (.ref 8), some (.int v1), some (.int v2)] [] M (lp_X8_clearHouses_8_4 M n v1 v2)
  | 0 => fun _ _ => e_none
  | n + 1 => ev_bd_X8_clearHouses_8_4 M (lp_X8_clearHouses_8_4 M n) (ev_lp_X8_clearHouses_8_4 M n)
def f_X8_clearHouses_8  (M : Mem) : Option Int32 :=
  (lp_X8_clearHouses_8_4 M FU (0 : Int32) (0 : Int32))
set_option maxRecDepth 20000 in
set_option maxHeartbeats 2000000 in
theorem sp_X8_clearHouses_8  (M : Mem) : SpO (wR M) yX8_clearHouses cX8_clearHouses 3 (some .int) 0 [.ref 8] M (f_X8_clearHouses_8 M) := by
  refine sp_of (L := [some (.ref 8), none, none]) rfl (by decide +kernel) rfl rfl ?_
  unfold f_X8_clearHouses_8
  refine e_iconst (v := (0 : Int32)) (dt dk_X8_clearHouses 0 rfl) (by decide) ?_
  refine e_istore_n [some (.ref 8), some (.int (0 : Int32)), none] (dt dk_X8_clearHouses 1 rfl) rfl rfl rfl ?_
  refine e_iconst (v := (0 : Int32)) (dt dk_X8_clearHouses 2 rfl) (by decide) ?_
  refine e_istore_n [some (.ref 8), some (.int (0 : Int32)), some (.int (0 : Int32))] (dt dk_X8_clearHouses 3 rfl) rfl rfl rfl ?_
  exact e_forget [true, true, true] [some (.ref 8), some (.int (0 : Int32)), some (.int (0 : Int32))] ⟨rfl, rfl⟩ (ev_lp_X8_clearHouses_8_4 M FU (0 : Int32) (0 : Int32))
-- X5_signAt_15 (R, depth 1)
def f_X5_signAt_15 (v1 : Int32) (M : Mem) : Option Int32 :=
  (if (f_X9_within v1 (0 : Int32) ((M 15 1) - (1 : Int32))) = 0 then some (0 : Int32) else if inb v1 60 then some (M 16 (ix v1)) else none)
set_option maxRecDepth 20000 in
set_option maxHeartbeats 2000000 in
theorem sp_X5_signAt_15 (v1 : Int32) (M : Mem) : SpO (wR M) yX5_signAt cX5_signAt 2 (some .int) 1 [.ref 15, .int v1] M (f_X5_signAt_15 v1 M) := by
  refine sp_of (L := [some (.ref 15), some (.int v1)]) rfl (by decide +kernel) rfl rfl ?_
  unfold f_X5_signAt_15
  refine e_iload_n (dt dk_X5_signAt 0 rfl) rfl ?_
  refine e_iconst (v := (0 : Int32)) (dt dk_X5_signAt 1 rfl) (by decide) ?_
  refine e_aload_n (dt dk_X5_signAt 2 rfl) rfl ?_
  refine e_getI (v := (M 15 1)) ci_X5 (dt dk_X5_signAt 3 rfl) rfl (by decide) rfl fl_X5_15 rfl ?_
  refine e_iconst (v := (1 : Int32)) (dt dk_X5_signAt 4 rfl) (by decide) ?_
  refine e_isub (dt dk_X5_signAt 5 rfl) ?_
  refine ev_callT (ca_SN ms_X9_within (sp_X9_within v1 (0 : Int32) ((M 15 1) - (1 : Int32)) M) (dt dk_X5_signAt 6 rfl) mn_X5_19 rfl rfl rfl (by decide) : Ca _ _ _ _ _ _ _ _ [] _ _) ?_
  show Ev _ _ _ _ _ _ 11 [some (.ref 15), some (.int v1)] [.int (f_X9_within v1 (0 : Int32) ((M 15 1) - (1 : Int32)))] M _
  refine e_if_eq 23 (dt dk_X5_signAt 7 rfl) (by decide) (fun h1 => ?_) (fun h1 => ?_)
  · refine e_iconst (v := (0 : Int32)) (dt dk_X5_signAt 13 rfl) (by decide) ?_
    exact e_iret (dt dk_X5_signAt 14 rfl) rfl rfl rfl
  · refine e_aload_n (dt dk_X5_signAt 8 rfl) rfl ?_
    refine e_getR ci_X5 (dt dk_X5_signAt 9 rfl) rfl (by decide) rfl fl_X5_9 ?_
    refine e_iload_n (dt dk_X5_signAt 10 rfl) rfl ?_
    refine e_if (fun h2 => ?_)
    refine e_iald' (v := (M 16 (ix v1))) (dt dk_X5_signAt 11 rfl) rfl h2 rfl ?_
    refine e_goto 24 (dt dk_X5_signAt 12 rfl) (by decide) ?_
    exact e_iret (dt dk_X5_signAt 14 rfl) rfl rfl rfl
-- X5_houseAt_15 (R, depth 2)
def f_X5_houseAt_15 (v1 : Int32) (M : Mem) : Option Int32 :=
  ((f_X5_signAt_15 v1 M)).bind fun r1 => (if (f_X9_isHouse (r1 - (65 : Int32))) = 0 then some (0 : Int32) else some (r1 - (65 : Int32)))
set_option maxRecDepth 20000 in
set_option maxHeartbeats 2000000 in
theorem sp_X5_houseAt_15 (v1 : Int32) (M : Mem) : SpO (wR M) yX5_houseAt cX5_houseAt 3 (some .int) 2 [.ref 15, .int v1] M (f_X5_houseAt_15 v1 M) := by
  refine sp_of (L := [some (.ref 15), some (.int v1), none]) rfl (by decide +kernel) rfl rfl ?_
  unfold f_X5_houseAt_15
  refine e_aload_n (dt dk_X5_houseAt 0 rfl) rfl ?_
  refine e_iload_n (dt dk_X5_houseAt 1 rfl) rfl ?_
  refine ev_call (ca_V (k := 15) mv_X5_signAt (sp_X5_signAt_15 v1 M) (dt dk_X5_houseAt 2 rfl) ml_X5_23 rfl rfl rfl rfl rfl (by decide) : Ca _ _ _ _ _ _ _ _ [] _ _) (fun r1 hr1 => ?_)
  show Ev _ _ _ _ _ _ 5 [some (.ref 15), some (.int v1), none] [.int r1] M _
  refine e_bipush (v := (65 : Int32)) (dt dk_X5_houseAt 3 rfl) (by decide) ?_
  refine e_isub (dt dk_X5_houseAt 4 rfl) ?_
  refine e_istore_n [some (.ref 15), some (.int v1), some (.int (r1 - (65 : Int32)))] (dt dk_X5_houseAt 5 rfl) rfl rfl rfl ?_
  refine e_iload_n (dt dk_X5_houseAt 6 rfl) rfl ?_
  refine ev_callT (ca_SN ms_X9_isHouse (sp_X9_isHouse (r1 - (65 : Int32)) M) (dt dk_X5_houseAt 7 rfl) mn_X5_27 rfl rfl rfl (by decide) : Ca _ _ _ _ _ _ _ _ [] _ _) ?_
  show Ev _ _ _ _ _ _ 13 [some (.ref 15), some (.int v1), some (.int (r1 - (65 : Int32)))] [.int (f_X9_isHouse (r1 - (65 : Int32)))] M _
  refine e_if_eq 20 (dt dk_X5_houseAt 8 rfl) (by decide) (fun h2 => ?_) (fun h2 => ?_)
  · refine e_iconst (v := (0 : Int32)) (dt dk_X5_houseAt 11 rfl) (by decide) ?_
    exact e_iret (dt dk_X5_houseAt 12 rfl) rfl rfl rfl
  · refine e_iload_n (dt dk_X5_houseAt 9 rfl) rfl ?_
    refine e_goto 21 (dt dk_X5_houseAt 10 rfl) (by decide) ?_
    exact e_iret (dt dk_X5_houseAt 12 rfl) rfl rfl rfl
-- X0_read_17_15 (W, depth 3)
def f_X0_read_17_15 (v2 : Int32) (M : Mem) : Option (Int32 × Mem) :=
  ((f_X5_signAt_15 v2 M)).bind fun r1 => (if r1 = (46 : Int32) then some ((v2 + (1 : Int32)), (up2 (up2 (up2 M 17 0 r1) 17 1 (0 : Int32)) 17 2 (0 : Int32))) else (if r1 = (111 : Int32) then ((f_X5_houseAt_15 (v2 + (1 : Int32)) (up2 (up2 (up2 M 17 0 r1) 17 1 (0 : Int32)) 17 2 (0 : Int32)))).bind fun r6 => ((f_X5_houseAt_15 (v2 + (2 : Int32)) (up2 (up2 (up2 (up2 M 17 0 r1) 17 1 (0 : Int32)) 17 2 (0 : Int32)) 17 1 r6))).bind fun r7 => some ((v2 + (3 : Int32)), (up2 (up2 (up2 (up2 (up2 M 17 0 r1) 17 1 (0 : Int32)) 17 2 (0 : Int32)) 17 1 r6) 17 2 r7)) else ((f_X5_houseAt_15 v2 (up2 (up2 (up2 M 17 0 r1) 17 1 (0 : Int32)) 17 2 (0 : Int32)))).bind fun r4 => ((f_X5_signAt_15 (v2 + (1 : Int32)) (up2 (up2 (up2 (up2 M 17 0 r1) 17 1 (0 : Int32)) 17 2 (0 : Int32)) 17 1 r4))).bind fun r5 => some ((v2 + (2 : Int32)), (up2 (up2 (up2 (up2 (up2 M 17 0 r1) 17 1 (0 : Int32)) 17 2 (0 : Int32)) 17 1 r4) 17 0 r5))))
set_option maxRecDepth 20000 in
set_option maxHeartbeats 2000000 in
theorem sp_X0_read_17_15 (v2 : Int32) (M : Mem) : SpO wI yX0_read cX0_read 4 (some .int) 3 [.ref 17, .ref 15, .int v2] M (f_X0_read_17_15 v2 M) := by
  refine sp_of (L := [some (.ref 17), some (.ref 15), some (.int v2), none]) rfl (by decide +kernel) rfl rfl ?_
  unfold f_X0_read_17_15
  refine e_aload_n (dt dk_X0_read 0 rfl) rfl ?_
  refine e_iload_n (dt dk_X0_read 1 rfl) rfl ?_
  refine ev_call (ca_V (k := 15) mv_X5_signAt (sp_X5_signAt_15 v2 M) (dt dk_X0_read 2 rfl) ml_X0_9 rfl rfl rfl rfl rfl (by decide) : Ca _ _ _ _ _ _ _ _ [] _ _) (fun r1 hr1 => ?_)
  show Ev _ _ _ _ _ _ 5 [some (.ref 17), some (.ref 15), some (.int v2), none] [.int r1] M _
  refine e_istore_n [some (.ref 17), some (.ref 15), some (.int v2), some (.int r1)] (dt dk_X0_read 3 rfl) rfl rfl rfl ?_
  refine e_aload_n (dt dk_X0_read 4 rfl) rfl ?_
  refine e_iload_n (dt dk_X0_read 5 rfl) rfl ?_
  refine e_putI (ty := .int) ci_X0 (dt dk_X0_read 6 rfl) rfl (by decide) rfl fl_X0_15 rfl (by decide +kernel) rfl rfl ?_
  refine e_aload_n (dt dk_X0_read 7 rfl) rfl ?_
  refine e_iconst (v := (0 : Int32)) (dt dk_X0_read 8 rfl) (by decide) ?_
  refine e_putI (ty := .int) ci_X0 (dt dk_X0_read 9 rfl) rfl (by decide) rfl fl_X0_21 rfl (by decide +kernel) rfl rfl ?_
  refine e_aload_n (dt dk_X0_read 10 rfl) rfl ?_
  refine e_iconst (v := (0 : Int32)) (dt dk_X0_read 11 rfl) (by decide) ?_
  refine e_putI (ty := .int) ci_X0 (dt dk_X0_read 12 rfl) rfl (by decide) rfl fl_X0_24 rfl (by decide +kernel) rfl rfl ?_
  refine e_iload_n (dt dk_X0_read 13 rfl) rfl ?_
  refine e_bipush (v := (46 : Int32)) (dt dk_X0_read 14 rfl) (by decide) ?_
  refine e_icmp_ne 31 (dt dk_X0_read 15 rfl) (by decide) (fun h2 => ?_) (fun h2 => ?_)
  · refine e_iload_n (dt dk_X0_read 16 rfl) rfl ?_
    refine e_iconst (v := (1 : Int32)) (dt dk_X0_read 17 rfl) (by decide) ?_
    refine e_iadd (dt dk_X0_read 18 rfl) ?_
    exact e_iret (dt dk_X0_read 19 rfl) rfl rfl rfl
  · refine e_iload_n (dt dk_X0_read 20 rfl) rfl ?_
    refine e_bipush (v := (111 : Int32)) (dt dk_X0_read 21 rfl) (by decide) ?_
    refine e_icmp_ne 63 (dt dk_X0_read 22 rfl) (by decide) (fun h3 => ?_) (fun h3 => ?_)
    · refine e_aload_n (dt dk_X0_read 23 rfl) rfl ?_
      refine e_aload_n (dt dk_X0_read 24 rfl) rfl ?_
      refine e_iload_n (dt dk_X0_read 25 rfl) rfl ?_
      refine e_iconst (v := (1 : Int32)) (dt dk_X0_read 26 rfl) (by decide) ?_
      refine e_iadd (dt dk_X0_read 27 rfl) ?_
      refine ev_call (ca_V (k := 15) mv_X5_houseAt (sp_X5_houseAt_15 (v2 + (1 : Int32)) (up2 (up2 (up2 M 17 0 r1) 17 1 (0 : Int32)) 17 2 (0 : Int32))) (dt dk_X0_read 28 rfl) ml_X0_27 rfl rfl rfl rfl rfl (by decide) : Ca _ _ _ _ _ _ _ _ [.ref 17] _ _) (fun r6 hr6 => ?_)
      show Ev _ _ _ _ _ _ 45 [some (.ref 17), some (.ref 15), some (.int v2), some (.int r1)] [.int r6, .ref 17] (up2 (up2 (up2 M 17 0 r1) 17 1 (0 : Int32)) 17 2 (0 : Int32)) _
      refine e_putI (ty := .int) ci_X0 (dt dk_X0_read 29 rfl) rfl (by decide) rfl fl_X0_21 rfl (by decide +kernel) rfl rfl ?_
      refine e_aload_n (dt dk_X0_read 30 rfl) rfl ?_
      refine e_aload_n (dt dk_X0_read 31 rfl) rfl ?_
      refine e_iload_n (dt dk_X0_read 32 rfl) rfl ?_
      refine e_iconst (v := (2 : Int32)) (dt dk_X0_read 33 rfl) (by decide) ?_
      refine e_iadd (dt dk_X0_read 34 rfl) ?_
      refine ev_call (ca_V (k := 15) mv_X5_houseAt (sp_X5_houseAt_15 (v2 + (2 : Int32)) (up2 (up2 (up2 (up2 M 17 0 r1) 17 1 (0 : Int32)) 17 2 (0 : Int32)) 17 1 r6)) (dt dk_X0_read 35 rfl) ml_X0_27 rfl rfl rfl rfl rfl (by decide) : Ca _ _ _ _ _ _ _ _ [.ref 17] _ _) (fun r7 hr7 => ?_)
      show Ev _ _ _ _ _ _ 56 [some (.ref 17), some (.ref 15), some (.int v2), some (.int r1)] [.int r7, .ref 17] (up2 (up2 (up2 (up2 M 17 0 r1) 17 1 (0 : Int32)) 17 2 (0 : Int32)) 17 1 r6) _
      refine e_putI (ty := .int) ci_X0 (dt dk_X0_read 36 rfl) rfl (by decide) rfl fl_X0_24 rfl (by decide +kernel) rfl rfl ?_
      refine e_iload_n (dt dk_X0_read 37 rfl) rfl ?_
      refine e_iconst (v := (3 : Int32)) (dt dk_X0_read 38 rfl) (by decide) ?_
      refine e_iadd (dt dk_X0_read 39 rfl) ?_
      exact e_iret (dt dk_X0_read 40 rfl) rfl rfl rfl
    · refine e_aload_n (dt dk_X0_read 41 rfl) rfl ?_
      refine e_aload_n (dt dk_X0_read 42 rfl) rfl ?_
      refine e_iload_n (dt dk_X0_read 43 rfl) rfl ?_
      refine ev_call (ca_V (k := 15) mv_X5_houseAt (sp_X5_houseAt_15 v2 (up2 (up2 (up2 M 17 0 r1) 17 1 (0 : Int32)) 17 2 (0 : Int32))) (dt dk_X0_read 44 rfl) ml_X0_27 rfl rfl rfl rfl rfl (by decide) : Ca _ _ _ _ _ _ _ _ [.ref 17] _ _) (fun r4 hr4 => ?_)
      show Ev _ _ _ _ _ _ 69 [some (.ref 17), some (.ref 15), some (.int v2), some (.int r1)] [.int r4, .ref 17] (up2 (up2 (up2 M 17 0 r1) 17 1 (0 : Int32)) 17 2 (0 : Int32)) _
      refine e_putI (ty := .int) ci_X0 (dt dk_X0_read 45 rfl) rfl (by decide) rfl fl_X0_21 rfl (by decide +kernel) rfl rfl ?_
      refine e_aload_n (dt dk_X0_read 46 rfl) rfl ?_
      refine e_aload_n (dt dk_X0_read 47 rfl) rfl ?_
      refine e_iload_n (dt dk_X0_read 48 rfl) rfl ?_
      refine e_iconst (v := (1 : Int32)) (dt dk_X0_read 49 rfl) (by decide) ?_
      refine e_iadd (dt dk_X0_read 50 rfl) ?_
      refine ev_call (ca_V (k := 15) mv_X5_signAt (sp_X5_signAt_15 (v2 + (1 : Int32)) (up2 (up2 (up2 (up2 M 17 0 r1) 17 1 (0 : Int32)) 17 2 (0 : Int32)) 17 1 r4)) (dt dk_X0_read 51 rfl) ml_X0_9 rfl rfl rfl rfl rfl (by decide) : Ca _ _ _ _ _ _ _ _ [.ref 17] _ _) (fun r5 hr5 => ?_)
      show Ev _ _ _ _ _ _ 80 [some (.ref 17), some (.ref 15), some (.int v2), some (.int r1)] [.int r5, .ref 17] (up2 (up2 (up2 (up2 M 17 0 r1) 17 1 (0 : Int32)) 17 2 (0 : Int32)) 17 1 r4) _
      refine e_putI (ty := .int) ci_X0 (dt dk_X0_read 52 rfl) rfl (by decide) rfl fl_X0_15 rfl (by decide +kernel) rfl rfl ?_
      refine e_iload_n (dt dk_X0_read 53 rfl) rfl ?_
      refine e_iconst (v := (2 : Int32)) (dt dk_X0_read 54 rfl) (by decide) ?_
      refine e_iadd (dt dk_X0_read 55 rfl) ?_
      exact e_iret (dt dk_X0_read 56 rfl) rfl rfl rfl
-- X8_whyNot_8_17 (R, depth 1)
def f_X8_whyNot_8_17  (M : Mem) : Option Int32 :=
  (if (f_X9_isHouse (M 17 1)) = 0 then some (1 : Int32) else (if (M 17 0) = (33 : Int32) then if inb (M 17 1) 8 then (if (M 9 (ix (M 17 1))) = 0 then some (3 : Int32) else some (0 : Int32)) else none else if (M 17 0) = (43 : Int32) then if inb (M 17 1) 8 then (if (M 10 (ix (M 17 1))) < (9 : Int32) then some (0 : Int32) else some (1 : Int32)) else none else if (M 17 0) = (45 : Int32) then if inb (M 17 1) 8 then (if (M 10 (ix (M 17 1))) = 0 then some (1 : Int32) else some (0 : Int32)) else none else if (M 17 0) = (94 : Int32) then if inb (M 17 1) 8 then (if (M 11 (ix (M 17 1))) < (9 : Int32) then (if (M 8 6) = 0 then some (2 : Int32) else some (0 : Int32)) else some (1 : Int32)) else none else if (M 17 0) = (95 : Int32) then if inb (M 17 1) 8 then (if (M 11 (ix (M 17 1))) = 0 then some (1 : Int32) else some (0 : Int32)) else none else if (M 17 0) = (111 : Int32) then (if (M 17 1) = (M 17 2) then some (4 : Int32) else some (0 : Int32)) else (if (M 8 8) < (99 : Int32) then some (0 : Int32) else some (5 : Int32))))
set_option maxRecDepth 20000 in
set_option maxHeartbeats 2000000 in
theorem sp_X8_whyNot_8_17  (M : Mem) : SpO (wR M) yX8_whyNot cX8_whyNot 3 (some .int) 1 [.ref 8, .ref 17] M (f_X8_whyNot_8_17 M) := by
  refine sp_of (L := [some (.ref 8), some (.ref 17), none]) rfl (by decide +kernel) rfl rfl ?_
  unfold f_X8_whyNot_8_17
  refine e_aload_n (dt dk_X8_whyNot 0 rfl) rfl ?_
  refine e_getI (v := (M 17 1)) ci_X0 (dt dk_X8_whyNot 1 rfl) rfl (by decide) rfl fl_X8_56 rfl ?_
  refine e_istore_n [some (.ref 8), some (.ref 17), some (.int (M 17 1))] (dt dk_X8_whyNot 2 rfl) rfl rfl rfl ?_
  refine e_iload_n (dt dk_X8_whyNot 3 rfl) rfl ?_
  refine ev_callT (ca_SN ms_X9_isHouse (sp_X9_isHouse (M 17 1) M) (dt dk_X8_whyNot 4 rfl) mn_X8_46 rfl rfl rfl (by decide) : Ca _ _ _ _ _ _ _ _ [] _ _) ?_
  show Ev _ _ _ _ _ _ 9 [some (.ref 8), some (.ref 17), some (.int (M 17 1))] [.int (f_X9_isHouse (M 17 1))] M _
  refine e_if_ne 14 (dt dk_X8_whyNot 5 rfl) (by decide) (fun h1 => ?_) (fun h1 => ?_)
  · refine e_iconst (v := (1 : Int32)) (dt dk_X8_whyNot 6 rfl) (by decide) ?_
    exact e_iret (dt dk_X8_whyNot 7 rfl) rfl rfl rfl
  · refine e_aload_n (dt dk_X8_whyNot 8 rfl) rfl ?_
    refine e_getI (v := (M 17 0)) ci_X0 (dt dk_X8_whyNot 9 rfl) rfl (by decide) rfl fl_X8_61 rfl ?_
    refine e_split (fun h2 => ?_) (fun h2 => ?_)
    · refine e_lookup (off := 131) 149 (dt dk_X8_whyNot 10 rfl) rfl (by rw [h2]; rfl) (by decide) ?_
      refine e_aload_n (dt dk_X8_whyNot 54 rfl) rfl ?_
      refine e_getR ci_X8 (dt dk_X8_whyNot 55 rfl) rfl (by decide) rfl fl_X8_9 ?_
      refine e_iload_n (dt dk_X8_whyNot 56 rfl) rfl ?_
      refine e_if (fun h3 => ?_)
      refine e_iald' (v := (M 9 (ix (M 17 1)))) (dt dk_X8_whyNot 57 rfl) rfl h3 rfl ?_
      refine e_if_ne 162 (dt dk_X8_whyNot 58 rfl) (by decide) (fun h4 => ?_) (fun h4 => ?_)
      · refine e_iconst (v := (3 : Int32)) (dt dk_X8_whyNot 59 rfl) (by decide) ?_
        refine e_goto 163 (dt dk_X8_whyNot 60 rfl) (by decide) ?_
        exact e_iret (dt dk_X8_whyNot 62 rfl) rfl rfl rfl
      · refine e_iconst (v := (0 : Int32)) (dt dk_X8_whyNot 61 rfl) (by decide) ?_
        exact e_iret (dt dk_X8_whyNot 62 rfl) rfl rfl rfl
    · skip
      refine e_split (fun h5 => ?_) (fun h5 => ?_)
      · refine e_lookup (off := 58) 76 (dt dk_X8_whyNot 10 rfl) rfl (by rw [h5]; rfl) (by decide) ?_
        refine e_aload_n (dt dk_X8_whyNot 11 rfl) rfl ?_
        refine e_getR ci_X8 (dt dk_X8_whyNot 12 rfl) rfl (by decide) rfl fl_X8_15 ?_
        refine e_iload_n (dt dk_X8_whyNot 13 rfl) rfl ?_
        refine e_if (fun h6 => ?_)
        refine e_iald' (v := (M 10 (ix (M 17 1)))) (dt dk_X8_whyNot 14 rfl) rfl h6 rfl ?_
        refine e_bipush (v := (9 : Int32)) (dt dk_X8_whyNot 15 rfl) (by decide) ?_
        refine e_icmp_lt 91 (dt dk_X8_whyNot 16 rfl) (by decide) (fun h7 => ?_) (fun h7 => ?_)
        · refine e_iconst (v := (0 : Int32)) (dt dk_X8_whyNot 19 rfl) (by decide) ?_
          exact e_iret (dt dk_X8_whyNot 20 rfl) rfl rfl rfl
        · refine e_iconst (v := (1 : Int32)) (dt dk_X8_whyNot 17 rfl) (by decide) ?_
          refine e_goto 92 (dt dk_X8_whyNot 18 rfl) (by decide) ?_
          exact e_iret (dt dk_X8_whyNot 20 rfl) rfl rfl rfl
      · skip
        refine e_split (fun h8 => ?_) (fun h8 => ?_)
        · refine e_lookup (off := 75) 93 (dt dk_X8_whyNot 10 rfl) rfl (by rw [h8]; rfl) (by decide) ?_
          refine e_aload_n (dt dk_X8_whyNot 21 rfl) rfl ?_
          refine e_getR ci_X8 (dt dk_X8_whyNot 22 rfl) rfl (by decide) rfl fl_X8_15 ?_
          refine e_iload_n (dt dk_X8_whyNot 23 rfl) rfl ?_
          refine e_if (fun h9 => ?_)
          refine e_iald' (v := (M 10 (ix (M 17 1)))) (dt dk_X8_whyNot 24 rfl) rfl h9 rfl ?_
          refine e_if_ne 106 (dt dk_X8_whyNot 25 rfl) (by decide) (fun h10 => ?_) (fun h10 => ?_)
          · refine e_iconst (v := (1 : Int32)) (dt dk_X8_whyNot 26 rfl) (by decide) ?_
            refine e_goto 107 (dt dk_X8_whyNot 27 rfl) (by decide) ?_
            exact e_iret (dt dk_X8_whyNot 29 rfl) rfl rfl rfl
          · refine e_iconst (v := (0 : Int32)) (dt dk_X8_whyNot 28 rfl) (by decide) ?_
            exact e_iret (dt dk_X8_whyNot 29 rfl) rfl rfl rfl
        · skip
          refine e_split (fun h11 => ?_) (fun h11 => ?_)
          · refine e_lookup (off := 90) 108 (dt dk_X8_whyNot 10 rfl) rfl (by rw [h11]; rfl) (by decide) ?_
            refine e_aload_n (dt dk_X8_whyNot 30 rfl) rfl ?_
            refine e_getR ci_X8 (dt dk_X8_whyNot 31 rfl) rfl (by decide) rfl fl_X8_18 ?_
            refine e_iload_n (dt dk_X8_whyNot 32 rfl) rfl ?_
            refine e_if (fun h12 => ?_)
            refine e_iald' (v := (M 11 (ix (M 17 1)))) (dt dk_X8_whyNot 33 rfl) rfl h12 rfl ?_
            refine e_bipush (v := (9 : Int32)) (dt dk_X8_whyNot 34 rfl) (by decide) ?_
            refine e_icmp_lt 121 (dt dk_X8_whyNot 35 rfl) (by decide) (fun h13 => ?_) (fun h13 => ?_)
            · refine e_aload_n (dt dk_X8_whyNot 38 rfl) rfl ?_
              refine e_getI (v := (M 8 6)) ci_X8 (dt dk_X8_whyNot 39 rfl) rfl (by decide) rfl fl_X8_30 rfl ?_
              refine e_if_ne 132 (dt dk_X8_whyNot 40 rfl) (by decide) (fun h14 => ?_) (fun h14 => ?_)
              · refine e_iconst (v := (2 : Int32)) (dt dk_X8_whyNot 41 rfl) (by decide) ?_
                refine e_goto 133 (dt dk_X8_whyNot 42 rfl) (by decide) ?_
                exact e_iret (dt dk_X8_whyNot 44 rfl) rfl rfl rfl
              · refine e_iconst (v := (0 : Int32)) (dt dk_X8_whyNot 43 rfl) (by decide) ?_
                exact e_iret (dt dk_X8_whyNot 44 rfl) rfl rfl rfl
            · refine e_iconst (v := (1 : Int32)) (dt dk_X8_whyNot 36 rfl) (by decide) ?_
              exact e_iret (dt dk_X8_whyNot 37 rfl) rfl rfl rfl
          · skip
            refine e_split (fun h15 => ?_) (fun h15 => ?_)
            · refine e_lookup (off := 116) 134 (dt dk_X8_whyNot 10 rfl) rfl (by rw [h15]; rfl) (by decide) ?_
              refine e_aload_n (dt dk_X8_whyNot 45 rfl) rfl ?_
              refine e_getR ci_X8 (dt dk_X8_whyNot 46 rfl) rfl (by decide) rfl fl_X8_18 ?_
              refine e_iload_n (dt dk_X8_whyNot 47 rfl) rfl ?_
              refine e_if (fun h16 => ?_)
              refine e_iald' (v := (M 11 (ix (M 17 1)))) (dt dk_X8_whyNot 48 rfl) rfl h16 rfl ?_
              refine e_if_ne 147 (dt dk_X8_whyNot 49 rfl) (by decide) (fun h17 => ?_) (fun h17 => ?_)
              · refine e_iconst (v := (1 : Int32)) (dt dk_X8_whyNot 50 rfl) (by decide) ?_
                refine e_goto 148 (dt dk_X8_whyNot 51 rfl) (by decide) ?_
                exact e_iret (dt dk_X8_whyNot 53 rfl) rfl rfl rfl
              · refine e_iconst (v := (0 : Int32)) (dt dk_X8_whyNot 52 rfl) (by decide) ?_
                exact e_iret (dt dk_X8_whyNot 53 rfl) rfl rfl rfl
            · skip
              refine e_split (fun h18 => ?_) (fun h18 => ?_)
              · refine e_lookup (off := 146) 164 (dt dk_X8_whyNot 10 rfl) rfl (by rw [h18]; rfl) (by decide) ?_
                refine e_iload_n (dt dk_X8_whyNot 63 rfl) rfl ?_
                refine e_aload_n (dt dk_X8_whyNot 64 rfl) rfl ?_
                refine e_getI (v := (M 17 2)) ci_X0 (dt dk_X8_whyNot 65 rfl) rfl (by decide) rfl fl_X8_64 rfl ?_
                refine e_icmp_ne 176 (dt dk_X8_whyNot 66 rfl) (by decide) (fun h19 => ?_) (fun h19 => ?_)
                · refine e_iconst (v := (4 : Int32)) (dt dk_X8_whyNot 67 rfl) (by decide) ?_
                  refine e_goto 177 (dt dk_X8_whyNot 68 rfl) (by decide) ?_
                  exact e_iret (dt dk_X8_whyNot 70 rfl) rfl rfl rfl
                · refine e_iconst (v := (0 : Int32)) (dt dk_X8_whyNot 69 rfl) (by decide) ?_
                  exact e_iret (dt dk_X8_whyNot 70 rfl) rfl rfl rfl
              · skip
                refine e_lookup (off := 160) 178 (dt dk_X8_whyNot 10 rfl) rfl ((lv_osw h2 rfl).trans <| (lv_osw h5 rfl).trans <| (lv_osw h8 rfl).trans <| (lv_osw h11 rfl).trans <| (lv_osw h15 rfl).trans <| (lv_osw h18 rfl).trans <| rfl) (by decide) ?_
                refine e_aload_n (dt dk_X8_whyNot 71 rfl) rfl ?_
                refine e_getI (v := (M 8 8)) ci_X8 (dt dk_X8_whyNot 72 rfl) rfl (by decide) rfl fl_X8_43 rfl ?_
                refine e_bipush (v := (99 : Int32)) (dt dk_X8_whyNot 73 rfl) (by decide) ?_
                refine e_icmp_lt 191 (dt dk_X8_whyNot 74 rfl) (by decide) (fun h20 => ?_) (fun h20 => ?_)
                · refine e_iconst (v := (0 : Int32)) (dt dk_X8_whyNot 77 rfl) (by decide) ?_
                  exact e_iret (dt dk_X8_whyNot 78 rfl) rfl rfl rfl
                · refine e_iconst (v := (5 : Int32)) (dt dk_X8_whyNot 75 rfl) (by decide) ?_
                  refine e_goto 192 (dt dk_X8_whyNot 76 rfl) (by decide) ?_
                  exact e_iret (dt dk_X8_whyNot 78 rfl) rfl rfl rfl
-- X8_turnHole_8 (W, depth 1)
def f_X8_turnHole_8 (v1 : Int32) (v2 : Int32) (M : Mem) : Option Mem :=
  (if (f_X9_isHouse v1) = 0 then some M else (if (f_X9_isHouse v2) = 0 then some M else if inb v1 8 then if inb v1 8 then if inb v2 8 then if inb v2 8 then some (up2 (up2 M 13 (ix v1) ((M 13 (ix v1)) ^^^ ((1 : Int32) <<< (v2 &&& 31)))) 13 (ix v2) (((up2 M 13 (ix v1) ((M 13 (ix v1)) ^^^ ((1 : Int32) <<< (v2 &&& 31)))) 13 (ix v2)) ^^^ ((1 : Int32) <<< (v1 &&& 31)))) else none else none else none else none))
set_option maxRecDepth 20000 in
set_option maxHeartbeats 2000000 in
theorem sp_X8_turnHole_8 (v1 : Int32) (v2 : Int32) (M : Mem) : SpO wV yX8_turnHole cX8_turnHole 3 none 1 [.ref 8, .int v1, .int v2] M (f_X8_turnHole_8 v1 v2 M) := by
  refine sp_of (L := [some (.ref 8), some (.int v1), some (.int v2)]) rfl (by decide +kernel) rfl rfl ?_
  unfold f_X8_turnHole_8
  refine e_iload_n (dt dk_X8_turnHole 0 rfl) rfl ?_
  refine ev_callT (ca_SN ms_X9_isHouse (sp_X9_isHouse v1 M) (dt dk_X8_turnHole 1 rfl) mn_X8_46 rfl rfl rfl (by decide) : Ca _ _ _ _ _ _ _ _ [] _ _) ?_
  show Ev _ _ _ _ _ _ 4 [some (.ref 8), some (.int v1), some (.int v2)] [.int (f_X9_isHouse v1)] M _
  refine e_if_eq 38 (dt dk_X8_turnHole 2 rfl) (by decide) (fun h1 => ?_) (fun h1 => ?_)
  · exact e_vret (dt dk_X8_turnHole 26 rfl) rfl rfl
  · refine e_iload_n (dt dk_X8_turnHole 3 rfl) rfl ?_
    refine ev_callT (ca_SN ms_X9_isHouse (sp_X9_isHouse v2 M) (dt dk_X8_turnHole 4 rfl) mn_X8_46 rfl rfl rfl (by decide) : Ca _ _ _ _ _ _ _ _ [] _ _) ?_
    show Ev _ _ _ _ _ _ 11 [some (.ref 8), some (.int v1), some (.int v2)] [.int (f_X9_isHouse v2)] M _
    refine e_if_eq 38 (dt dk_X8_turnHole 5 rfl) (by decide) (fun h2 => ?_) (fun h2 => ?_)
    · exact e_vret (dt dk_X8_turnHole 26 rfl) rfl rfl
    · refine e_aload_n (dt dk_X8_turnHole 6 rfl) rfl ?_
      refine e_getR ci_X8 (dt dk_X8_turnHole 7 rfl) rfl (by decide) rfl fl_X8_24 ?_
      refine e_iload_n (dt dk_X8_turnHole 8 rfl) rfl ?_
      refine e_dup2 (dt dk_X8_turnHole 9 rfl) rfl rfl ?_
      refine e_if (fun h3 => ?_)
      refine e_iald' (v := (M 13 (ix v1))) (dt dk_X8_turnHole 10 rfl) rfl h3 rfl ?_
      refine e_iconst (v := (1 : Int32)) (dt dk_X8_turnHole 11 rfl) (by decide) ?_
      refine e_iload_n (dt dk_X8_turnHole 12 rfl) rfl ?_
      refine e_ishl (dt dk_X8_turnHole 13 rfl) ?_
      refine e_ixor (dt dk_X8_turnHole 14 rfl) ?_
      refine e_if (fun h4 => ?_)
      refine e_iast' (dt dk_X8_turnHole 15 rfl) rfl h4 ?_
      refine e_aload_n (dt dk_X8_turnHole 16 rfl) rfl ?_
      refine e_getR ci_X8 (dt dk_X8_turnHole 17 rfl) rfl (by decide) rfl fl_X8_24 ?_
      refine e_iload_n (dt dk_X8_turnHole 18 rfl) rfl ?_
      refine e_dup2 (dt dk_X8_turnHole 19 rfl) rfl rfl ?_
      refine e_if (fun h5 => ?_)
      refine e_iald' (v := ((up2 M 13 (ix v1) ((M 13 (ix v1)) ^^^ ((1 : Int32) <<< (v2 &&& 31)))) 13 (ix v2))) (dt dk_X8_turnHole 20 rfl) rfl h5 rfl ?_
      refine e_iconst (v := (1 : Int32)) (dt dk_X8_turnHole 21 rfl) (by decide) ?_
      refine e_iload_n (dt dk_X8_turnHole 22 rfl) rfl ?_
      refine e_ishl (dt dk_X8_turnHole 23 rfl) ?_
      refine e_ixor (dt dk_X8_turnHole 24 rfl) ?_
      refine e_if (fun h6 => ?_)
      refine e_iast' (dt dk_X8_turnHole 25 rfl) rfl h6 ?_
      exact e_vret (dt dk_X8_turnHole 26 rfl) rfl rfl
-- X8_quietestOf_8 (R, depth 0)
def bd_X8_quietestOf_8_9 (M : Mem)  (K9 : Int32 → Int32 → Int32 → Int32 → Option Int32) (v1 : Int32) (v2 : Int32) (v3 : Int32) (v4 : Int32) : Option Int32 :=
  (if (8 : Int32) ≤ v4 then some v2 else (if ((v1 >>> (v4 &&& 31)) &&& (1 : Int32)) = (1 : Int32) then if inb v4 8 then (if v3 ≤ (M 14 (ix v4)) then (K9 v1 v2 v3 (v4 + (1 : Int32))) else if inb v4 8 then (K9 v1 v4 (M 14 (ix v4)) (v4 + (1 : Int32))) else none) else none else (K9 v1 v2 v3 (v4 + (1 : Int32)))))
set_option maxRecDepth 20000 in
set_option maxHeartbeats 2000000 in
theorem ev_bd_X8_quietestOf_8_9 (M : Mem)  (K9 : Int32 → Int32 → Int32 → Int32 → Option Int32)  (hK9 : ∀ (v1 : Int32) (v2 : Int32) (v3 : Int32) (v4 : Int32), Ev none (wR M) RX8 cX8_quietestOf (some .int) 0 9 [some (.ref 8), some (.int v1), some (.int v2), some (.int v3), some (.int v4)] [] M (K9 v1 v2 v3 v4)) (v1 : Int32) (v2 : Int32) (v3 : Int32) (v4 : Int32) : Ev none (wR M) RX8 cX8_quietestOf (some .int) 0 9 [some (.ref 8), some (.int v1), some (.int v2), some (.int v3), some (.int v4)] [] M (bd_X8_quietestOf_8_9 M K9 v1 v2 v3 v4) := by
  unfold bd_X8_quietestOf_8_9
  refine e_iload (dt dk_X8_quietestOf 6 rfl) rfl ?_
  refine e_bipush (v := (8 : Int32)) (dt dk_X8_quietestOf 7 rfl) (by decide) ?_
  refine e_icmp_ge 54 (dt dk_X8_quietestOf 8 rfl) (by decide) (fun h1 => ?_) (fun h1 => ?_)
  · refine e_iload_n (dt dk_X8_quietestOf 31 rfl) rfl ?_
    exact e_iret (dt dk_X8_quietestOf 32 rfl) rfl rfl rfl
  · refine e_iload_n (dt dk_X8_quietestOf 9 rfl) rfl ?_
    refine e_iload (dt dk_X8_quietestOf 10 rfl) rfl ?_
    refine e_ishr (dt dk_X8_quietestOf 11 rfl) ?_
    refine e_iconst (v := (1 : Int32)) (dt dk_X8_quietestOf 12 rfl) (by decide) ?_
    refine e_iand (dt dk_X8_quietestOf 13 rfl) ?_
    refine e_iconst (v := (1 : Int32)) (dt dk_X8_quietestOf 14 rfl) (by decide) ?_
    refine e_icmp_ne 48 (dt dk_X8_quietestOf 15 rfl) (by decide) (fun h2 => ?_) (fun h2 => ?_)
    · refine e_aload_n (dt dk_X8_quietestOf 16 rfl) rfl ?_
      refine e_getR ci_X8 (dt dk_X8_quietestOf 17 rfl) rfl (by decide) rfl fl_X8_27 ?_
      refine e_iload (dt dk_X8_quietestOf 18 rfl) rfl ?_
      refine e_if (fun h3 => ?_)
      refine e_iald' (v := (M 14 (ix v4))) (dt dk_X8_quietestOf 19 rfl) rfl h3 rfl ?_
      refine e_iload_n (dt dk_X8_quietestOf 20 rfl) rfl ?_
      refine e_icmp_ge 48 (dt dk_X8_quietestOf 21 rfl) (by decide) (fun h4 => ?_) (fun h4 => ?_)
      · refine e_iinc [some (.ref 8), some (.int v1), some (.int v2), some (.int v3), some (.int (v4 + (1 : Int32)))] (dt dk_X8_quietestOf 29 rfl) rfl rfl rfl rfl ?_
        refine e_goto 9 (dt dk_X8_quietestOf 30 rfl) (by decide) ?_
        exact e_forget [true, true, true, true, true] [some (.ref 8), some (.int v1), some (.int v2), some (.int v3), some (.int (v4 + (1 : Int32)))] ⟨rfl, rfl⟩ (hK9 v1 v2 v3 (v4 + (1 : Int32)))
      · refine e_iload (dt dk_X8_quietestOf 22 rfl) rfl ?_
        refine e_istore_n [some (.ref 8), some (.int v1), some (.int v4), some (.int v3), some (.int v4)] (dt dk_X8_quietestOf 23 rfl) rfl rfl rfl ?_
        refine e_aload_n (dt dk_X8_quietestOf 24 rfl) rfl ?_
        refine e_getR ci_X8 (dt dk_X8_quietestOf 25 rfl) rfl (by decide) rfl fl_X8_27 ?_
        refine e_iload (dt dk_X8_quietestOf 26 rfl) rfl ?_
        refine e_if (fun h5 => ?_)
        refine e_iald' (v := (M 14 (ix v4))) (dt dk_X8_quietestOf 27 rfl) rfl h5 rfl ?_
        refine e_istore_n [some (.ref 8), some (.int v1), some (.int v4), some (.int (M 14 (ix v4))), some (.int v4)] (dt dk_X8_quietestOf 28 rfl) rfl rfl rfl ?_
        refine e_iinc [some (.ref 8), some (.int v1), some (.int v4), some (.int (M 14 (ix v4))), some (.int (v4 + (1 : Int32)))] (dt dk_X8_quietestOf 29 rfl) rfl rfl rfl rfl ?_
        refine e_goto 9 (dt dk_X8_quietestOf 30 rfl) (by decide) ?_
        exact e_forget [true, true, true, true, true] [some (.ref 8), some (.int v1), some (.int v4), some (.int (M 14 (ix v4))), some (.int (v4 + (1 : Int32)))] ⟨rfl, rfl⟩ (hK9 v1 v4 (M 14 (ix v4)) (v4 + (1 : Int32)))
    · refine e_iinc [some (.ref 8), some (.int v1), some (.int v2), some (.int v3), some (.int (v4 + (1 : Int32)))] (dt dk_X8_quietestOf 29 rfl) rfl rfl rfl rfl ?_
      refine e_goto 9 (dt dk_X8_quietestOf 30 rfl) (by decide) ?_
      exact e_forget [true, true, true, true, true] [some (.ref 8), some (.int v1), some (.int v2), some (.int v3), some (.int (v4 + (1 : Int32)))] ⟨rfl, rfl⟩ (hK9 v1 v2 v3 (v4 + (1 : Int32)))
def lp_X8_quietestOf_8_9 (M : Mem)  : Nat → Int32 → Int32 → Int32 → Int32 → Option Int32
  | 0 => fun _ _ _ _ => none
  | n + 1 => bd_X8_quietestOf_8_9 M (lp_X8_quietestOf_8_9 M n)
theorem ev_lp_X8_quietestOf_8_9 (M : Mem)   : ∀ (n : Nat), ∀ (v1 : Int32) (v2 : Int32) (v3 : Int32) (v4 : Int32), Ev none (wR M) RX8 cX8_quietestOf (some .int) 0 9 [some (.ref 8), some (.int v1), some (.int v2), some (.int v3), some (.int v4)] [] M (lp_X8_quietestOf_8_9 M n v1 v2 v3 v4)
  | 0 => fun _ _ _ _ => e_none
  | n + 1 => ev_bd_X8_quietestOf_8_9 M (lp_X8_quietestOf_8_9 M n) (ev_lp_X8_quietestOf_8_9 M n)
def f_X8_quietestOf_8 (v1 : Int32) (M : Mem) : Option Int32 :=
  (lp_X8_quietestOf_8_9 M FU v1 (-6 : Int32) (100 : Int32) (0 : Int32))
set_option maxRecDepth 20000 in
set_option maxHeartbeats 2000000 in
theorem sp_X8_quietestOf_8 (v1 : Int32) (M : Mem) : SpO (wR M) yX8_quietestOf cX8_quietestOf 5 (some .int) 0 [.ref 8, .int v1] M (f_X8_quietestOf_8 v1 M) := by
  refine sp_of (L := [some (.ref 8), some (.int v1), none, none, none]) rfl (by decide +kernel) rfl rfl ?_
  unfold f_X8_quietestOf_8
  refine e_bipush (v := (-6 : Int32)) (dt dk_X8_quietestOf 0 rfl) (by decide) ?_
  refine e_istore_n [some (.ref 8), some (.int v1), some (.int (-6 : Int32)), none, none] (dt dk_X8_quietestOf 1 rfl) rfl rfl rfl ?_
  refine e_bipush (v := (100 : Int32)) (dt dk_X8_quietestOf 2 rfl) (by decide) ?_
  refine e_istore_n [some (.ref 8), some (.int v1), some (.int (-6 : Int32)), some (.int (100 : Int32)), none] (dt dk_X8_quietestOf 3 rfl) rfl rfl rfl ?_
  refine e_iconst (v := (0 : Int32)) (dt dk_X8_quietestOf 4 rfl) (by decide) ?_
  refine e_istore [some (.ref 8), some (.int v1), some (.int (-6 : Int32)), some (.int (100 : Int32)), some (.int (0 : Int32))] (dt dk_X8_quietestOf 5 rfl) rfl rfl rfl ?_
  exact e_forget [true, true, true, true, true] [some (.ref 8), some (.int v1), some (.int (-6 : Int32)), some (.int (100 : Int32)), some (.int (0 : Int32))] ⟨rfl, rfl⟩ (ev_lp_X8_quietestOf_8_9 M FU v1 (-6 : Int32) (100 : Int32) (0 : Int32))
-- X8_wander_8 (W, depth 1)
def bd_X8_wander_8_98  (K98 : Int32 → Mem → Option Mem) (v1 : Int32) (M : Mem) : Option Mem :=
  (if (8 : Int32) ≤ v1 then some M else if inb v1 8 then if inb v1 8 then (K98 (v1 + (1 : Int32)) (up2 M 9 (ix v1) (minI (99 : Int32) (M 9 (ix v1))))) else none else none)
set_option maxRecDepth 20000 in
set_option maxHeartbeats 2000000 in
theorem ev_bd_X8_wander_8_98  (K98 : Int32 → Mem → Option Mem)  (hK98 : ∀ (v1 : Int32) (M : Mem), Ev none wV RX8 cX8_wander none 1 98 [some (.ref 8), some (.int v1), none] [] M (K98 v1 M)) (v1 : Int32) (M : Mem) : Ev none wV RX8 cX8_wander none 1 98 [some (.ref 8), some (.int v1), none] [] M (bd_X8_wander_8_98 K98 v1 M) := by
  unfold bd_X8_wander_8_98
  refine e_iload_n (dt dk_X8_wander 59 rfl) rfl ?_
  refine e_bipush (v := (8 : Int32)) (dt dk_X8_wander 60 rfl) (by decide) ?_
  refine e_icmp_ge 127 (dt dk_X8_wander 61 rfl) (by decide) (fun h2 => ?_) (fun h2 => ?_)
  · exact e_vret (dt dk_X8_wander 74 rfl) rfl rfl
  · refine e_aload_n (dt dk_X8_wander 62 rfl) rfl ?_
    refine e_getR ci_X8 (dt dk_X8_wander 63 rfl) rfl (by decide) rfl fl_X8_9 ?_
    refine e_iload_n (dt dk_X8_wander 64 rfl) rfl ?_
    refine e_bipush (v := (99 : Int32)) (dt dk_X8_wander 65 rfl) (by decide) ?_
    refine e_aload_n (dt dk_X8_wander 66 rfl) rfl ?_
    refine e_getR ci_X8 (dt dk_X8_wander 67 rfl) rfl (by decide) rfl fl_X8_9 ?_
    refine e_iload_n (dt dk_X8_wander 68 rfl) rfl ?_
    refine e_if (fun h3 => ?_)
    refine e_iald' (v := (M 9 (ix v1))) (dt dk_X8_wander 69 rfl) rfl h3 rfl ?_
    refine e_min ok_min (dt dk_X8_wander 70 rfl) ml_X8_67 rfl (by decide) ?_
    show Ev _ _ _ _ _ _ 120 [some (.ref 8), some (.int v1), none] [.int (minI (99 : Int32) (M 9 (ix v1))), .int v1, .ref 9] M _
    refine e_if (fun h4 => ?_)
    refine e_iast' (dt dk_X8_wander 71 rfl) rfl h4 ?_
    refine e_iinc [some (.ref 8), some (.int (v1 + (1 : Int32))), none] (dt dk_X8_wander 72 rfl) rfl rfl rfl rfl ?_
    refine e_goto 98 (dt dk_X8_wander 73 rfl) (by decide) ?_
    exact e_forget [true, true, false] [some (.ref 8), some (.int (v1 + (1 : Int32))), none] ⟨rfl, rfl⟩ (hK98 (v1 + (1 : Int32)) (up2 M 9 (ix v1) (minI (99 : Int32) (M 9 (ix v1)))))
def lp_X8_wander_8_98  : Nat → Int32 → Mem → Option Mem
  | 0 => fun _ _ => none
  | n + 1 => bd_X8_wander_8_98 (lp_X8_wander_8_98 n)
theorem ev_lp_X8_wander_8_98   : ∀ (n : Nat), ∀ (v1 : Int32) (M : Mem), Ev none wV RX8 cX8_wander none 1 98 [some (.ref 8), some (.int v1), none] [] M (lp_X8_wander_8_98 n v1 M)
  | 0 => fun _ _ => e_none
  | n + 1 => ev_bd_X8_wander_8_98 (lp_X8_wander_8_98 n) (ev_lp_X8_wander_8_98 n)
def lb_X8_wander_8_52 (K17 : Int32 → Mem → Option Mem) (v1 : Int32) (M : Mem) : Option Mem :=
  if inb v1 8 then ((f_X8_quietestOf_8 (M 13 (ix v1)) M)).bind fun r8 => (if (f_X9_isHouse r8) = 0 then (K17 (v1 + (1 : Int32)) M) else if inb v1 8 then if inb v1 8 then if inb r8 8 then if inb r8 8 then (K17 (v1 + (1 : Int32)) (up2 (up2 M 9 (ix v1) ((M 9 (ix v1)) - (1 : Int32))) 9 (ix r8) (((up2 M 9 (ix v1) ((M 9 (ix v1)) - (1 : Int32))) 9 (ix r8)) + (1 : Int32)))) else none else none else none else none) else none
set_option maxRecDepth 20000 in
set_option maxHeartbeats 2000000 in
theorem ev_lb_X8_wander_8_52 (K17 : Int32 → Mem → Option Mem) (hK17 : ∀ (v1 : Int32) (M : Mem), Ev none wV RX8 cX8_wander none 1 17 [some (.ref 8), some (.int v1), none] [] M (K17 v1 M)) (v1 : Int32) (M : Mem) : Ev none wV RX8 cX8_wander none 1 52 [some (.ref 8), some (.int v1), none] [] M (lb_X8_wander_8_52 K17 v1 M) := by
  unfold lb_X8_wander_8_52
  refine e_aload_n (dt dk_X8_wander 29 rfl) rfl ?_
  refine e_aload_n (dt dk_X8_wander 30 rfl) rfl ?_
  refine e_getR ci_X8 (dt dk_X8_wander 31 rfl) rfl (by decide) rfl fl_X8_24 ?_
  refine e_iload_n (dt dk_X8_wander 32 rfl) rfl ?_
  refine e_if (fun h7 => ?_)
  refine e_iald' (v := (M 13 (ix v1))) (dt dk_X8_wander 33 rfl) rfl h7 rfl ?_
  refine ev_call (ca_V (k := 8) mv_X8_quietestOf (sp_X8_quietestOf_8 (M 13 (ix v1)) M) (dt dk_X8_wander 34 rfl) ml_X8_92 rfl rfl rfl rfl rfl (by decide) : Ca _ _ _ _ _ _ _ _ [] _ _) (fun r8 hr8 => ?_)
  show Ev _ _ _ _ _ _ 62 [some (.ref 8), some (.int v1), none] [.int r8] M _
  refine e_istore_n [some (.ref 8), some (.int v1), some (.int r8)] (dt dk_X8_wander 35 rfl) rfl rfl rfl ?_
  refine e_iload_n (dt dk_X8_wander 36 rfl) rfl ?_
  refine ev_callT (ca_SN ms_X9_isHouse (sp_X9_isHouse r8 M) (dt dk_X8_wander 37 rfl) mn_X8_46 rfl rfl rfl (by decide) : Ca _ _ _ _ _ _ _ _ [] _ _) ?_
  show Ev _ _ _ _ _ _ 67 [some (.ref 8), some (.int v1), some (.int r8)] [.int (f_X9_isHouse r8)] M _
  refine e_if_eq 90 (dt dk_X8_wander 38 rfl) (by decide) (fun h9 => ?_) (fun h9 => ?_)
  · refine e_iinc [some (.ref 8), some (.int (v1 + (1 : Int32))), some (.int r8)] (dt dk_X8_wander 55 rfl) rfl rfl rfl rfl ?_
    refine e_goto 17 (dt dk_X8_wander 56 rfl) (by decide) ?_
    exact e_forget [true, true, false] [some (.ref 8), some (.int (v1 + (1 : Int32))), none] ⟨rfl, rfl⟩ (hK17 (v1 + (1 : Int32)) M)
  · refine e_aload_n (dt dk_X8_wander 39 rfl) rfl ?_
    refine e_getR ci_X8 (dt dk_X8_wander 40 rfl) rfl (by decide) rfl fl_X8_9 ?_
    refine e_iload_n (dt dk_X8_wander 41 rfl) rfl ?_
    refine e_dup2 (dt dk_X8_wander 42 rfl) rfl rfl ?_
    refine e_if (fun h10 => ?_)
    refine e_iald' (v := (M 9 (ix v1))) (dt dk_X8_wander 43 rfl) rfl h10 rfl ?_
    refine e_iconst (v := (1 : Int32)) (dt dk_X8_wander 44 rfl) (by decide) ?_
    refine e_isub (dt dk_X8_wander 45 rfl) ?_
    refine e_if (fun h11 => ?_)
    refine e_iast' (dt dk_X8_wander 46 rfl) rfl h11 ?_
    refine e_aload_n (dt dk_X8_wander 47 rfl) rfl ?_
    refine e_getR ci_X8 (dt dk_X8_wander 48 rfl) rfl (by decide) rfl fl_X8_9 ?_
    refine e_iload_n (dt dk_X8_wander 49 rfl) rfl ?_
    refine e_dup2 (dt dk_X8_wander 50 rfl) rfl rfl ?_
    refine e_if (fun h12 => ?_)
    refine e_iald' (v := ((up2 M 9 (ix v1) ((M 9 (ix v1)) - (1 : Int32))) 9 (ix r8))) (dt dk_X8_wander 51 rfl) rfl h12 rfl ?_
    refine e_iconst (v := (1 : Int32)) (dt dk_X8_wander 52 rfl) (by decide) ?_
    refine e_iadd (dt dk_X8_wander 53 rfl) ?_
    refine e_if (fun h13 => ?_)
    refine e_iast' (dt dk_X8_wander 54 rfl) rfl h13 ?_
    refine e_iinc [some (.ref 8), some (.int (v1 + (1 : Int32))), some (.int r8)] (dt dk_X8_wander 55 rfl) rfl rfl rfl rfl ?_
    refine e_goto 17 (dt dk_X8_wander 56 rfl) (by decide) ?_
    exact e_forget [true, true, false] [some (.ref 8), some (.int (v1 + (1 : Int32))), none] ⟨rfl, rfl⟩ (hK17 (v1 + (1 : Int32)) (up2 (up2 M 9 (ix v1) ((M 9 (ix v1)) - (1 : Int32))) 9 (ix r8) (((up2 M 9 (ix v1) ((M 9 (ix v1)) - (1 : Int32))) 9 (ix r8)) + (1 : Int32))))
def bd_X8_wander_8_17  (K17 : Int32 → Mem → Option Mem) (v1 : Int32) (M : Mem) : Option Mem :=
  (if (8 : Int32) ≤ v1 then (lp_X8_wander_8_98 FU (0 : Int32) M) else if inb v1 8 then (if (10 : Int32) ≤ (M 14 (ix v1)) then (lb_X8_wander_8_52 K17 v1 M) else if inb v1 8 then (if (M 12 (ix v1)) ≤ 0 then (K17 (v1 + (1 : Int32)) M) else if inb v1 8 then (if (M 14 (ix v1)) ≤ 0 then (K17 (v1 + (1 : Int32)) M) else (lb_X8_wander_8_52 K17 v1 M)) else none) else none) else none)
set_option maxRecDepth 20000 in
set_option maxHeartbeats 2000000 in
theorem ev_bd_X8_wander_8_17  (K17 : Int32 → Mem → Option Mem)  (hK17 : ∀ (v1 : Int32) (M : Mem), Ev none wV RX8 cX8_wander none 1 17 [some (.ref 8), some (.int v1), none] [] M (K17 v1 M)) (v1 : Int32) (M : Mem) : Ev none wV RX8 cX8_wander none 1 17 [some (.ref 8), some (.int v1), none] [] M (bd_X8_wander_8_17 K17 v1 M) := by
  unfold bd_X8_wander_8_17
  refine e_iload_n (dt dk_X8_wander 10 rfl) rfl ?_
  refine e_bipush (v := (8 : Int32)) (dt dk_X8_wander 11 rfl) (by decide) ?_
  refine e_icmp_ge 96 (dt dk_X8_wander 12 rfl) (by decide) (fun h1 => ?_) (fun h1 => ?_)
  · refine e_iconst (v := (0 : Int32)) (dt dk_X8_wander 57 rfl) (by decide) ?_
    refine e_istore_n [some (.ref 8), some (.int (0 : Int32)), none] (dt dk_X8_wander 58 rfl) rfl rfl rfl ?_
    exact e_forget [true, true, false] [some (.ref 8), some (.int (0 : Int32)), none] ⟨rfl, rfl⟩ (ev_lp_X8_wander_8_98 FU (0 : Int32) M)
  · refine e_aload_n (dt dk_X8_wander 13 rfl) rfl ?_
    refine e_getR ci_X8 (dt dk_X8_wander 14 rfl) rfl (by decide) rfl fl_X8_27 ?_
    refine e_iload_n (dt dk_X8_wander 15 rfl) rfl ?_
    refine e_if (fun h5 => ?_)
    refine e_iald' (v := (M 14 (ix v1))) (dt dk_X8_wander 16 rfl) rfl h5 rfl ?_
    refine e_bipush (v := (10 : Int32)) (dt dk_X8_wander 17 rfl) (by decide) ?_
    refine e_icmp_ge 52 (dt dk_X8_wander 18 rfl) (by decide) (fun h6 => ?_) (fun h6 => ?_)
    · exact e_forget [true, true, false] [some (.ref 8), some (.int v1), none] ⟨rfl, rfl⟩ (ev_lb_X8_wander_8_52 K17 hK17 v1 M)
    · refine e_aload_n (dt dk_X8_wander 19 rfl) rfl ?_
      refine e_getR ci_X8 (dt dk_X8_wander 20 rfl) rfl (by decide) rfl fl_X8_21 ?_
      refine e_iload_n (dt dk_X8_wander 21 rfl) rfl ?_
      refine e_if (fun h14 => ?_)
      refine e_iald' (v := (M 12 (ix v1))) (dt dk_X8_wander 22 rfl) rfl h14 rfl ?_
      refine e_if_le 90 (dt dk_X8_wander 23 rfl) (by decide) (fun h15 => ?_) (fun h15 => ?_)
      · refine e_iinc [some (.ref 8), some (.int (v1 + (1 : Int32))), none] (dt dk_X8_wander 55 rfl) rfl rfl rfl rfl ?_
        refine e_goto 17 (dt dk_X8_wander 56 rfl) (by decide) ?_
        exact e_forget [true, true, false] [some (.ref 8), some (.int (v1 + (1 : Int32))), none] ⟨rfl, rfl⟩ (hK17 (v1 + (1 : Int32)) M)
      · refine e_aload_n (dt dk_X8_wander 24 rfl) rfl ?_
        refine e_getR ci_X8 (dt dk_X8_wander 25 rfl) rfl (by decide) rfl fl_X8_27 ?_
        refine e_iload_n (dt dk_X8_wander 26 rfl) rfl ?_
        refine e_if (fun h16 => ?_)
        refine e_iald' (v := (M 14 (ix v1))) (dt dk_X8_wander 27 rfl) rfl h16 rfl ?_
        refine e_if_le 90 (dt dk_X8_wander 28 rfl) (by decide) (fun h17 => ?_) (fun h17 => ?_)
        · refine e_iinc [some (.ref 8), some (.int (v1 + (1 : Int32))), none] (dt dk_X8_wander 55 rfl) rfl rfl rfl rfl ?_
          refine e_goto 17 (dt dk_X8_wander 56 rfl) (by decide) ?_
          exact e_forget [true, true, false] [some (.ref 8), some (.int (v1 + (1 : Int32))), none] ⟨rfl, rfl⟩ (hK17 (v1 + (1 : Int32)) M)
        · exact e_forget [true, true, false] [some (.ref 8), some (.int v1), none] ⟨rfl, rfl⟩ (ev_lb_X8_wander_8_52 K17 hK17 v1 M)
def lp_X8_wander_8_17  : Nat → Int32 → Mem → Option Mem
  | 0 => fun _ _ => none
  | n + 1 => bd_X8_wander_8_17 (lp_X8_wander_8_17 n)
theorem ev_lp_X8_wander_8_17   : ∀ (n : Nat), ∀ (v1 : Int32) (M : Mem), Ev none wV RX8 cX8_wander none 1 17 [some (.ref 8), some (.int v1), none] [] M (lp_X8_wander_8_17 n v1 M)
  | 0 => fun _ _ => e_none
  | n + 1 => ev_bd_X8_wander_8_17 (lp_X8_wander_8_17 n) (ev_lp_X8_wander_8_17 n)
def f_X8_wander_8  (M : Mem) : Option Mem :=
  (lp_X8_wander_8_17 FU (0 : Int32) (upA M 14 (va_cpy (M 9) (M 14) 0 0 8)))
set_option maxRecDepth 20000 in
set_option maxHeartbeats 2000000 in
theorem sp_X8_wander_8  (M : Mem) : SpO wV yX8_wander cX8_wander 3 none 1 [.ref 8] M (f_X8_wander_8 M) := by
  refine sp_of (L := [some (.ref 8), none, none]) rfl (by decide +kernel) rfl rfl ?_
  unfold f_X8_wander_8
  refine e_aload_n (dt dk_X8_wander 0 rfl) rfl ?_
  refine e_getR ci_X8 (dt dk_X8_wander 1 rfl) rfl (by decide) rfl fl_X8_9 ?_
  refine e_iconst (v := (0 : Int32)) (dt dk_X8_wander 2 rfl) (by decide) ?_
  refine e_aload_n (dt dk_X8_wander 3 rfl) rfl ?_
  refine e_getR ci_X8 (dt dk_X8_wander 4 rfl) rfl (by decide) rfl fl_X8_27 ?_
  refine e_iconst (v := (0 : Int32)) (dt dk_X8_wander 5 rfl) (by decide) ?_
  refine e_bipush (v := (8 : Int32)) (dt dk_X8_wander 6 rfl) (by decide) ?_
  refine e_copy ok_copy (dt dk_X8_wander 7 rfl) ml_X8_34 rfl rfl (by decide) (by decide) (by decide) (by decide) (by decide) rfl (by decide) ?_
  show Ev _ _ _ _ _ _ 15 [some (.ref 8), none, none] [] (upA M 14 (va_cpy (M 9) (M 14) 0 0 8)) _
  refine e_iconst (v := (0 : Int32)) (dt dk_X8_wander 8 rfl) (by decide) ?_
  refine e_istore_n [some (.ref 8), some (.int (0 : Int32)), none] (dt dk_X8_wander 9 rfl) rfl rfl rfl ?_
  exact e_forget [true, true, false] [some (.ref 8), some (.int (0 : Int32)), none] ⟨rfl, rfl⟩ (ev_lp_X8_wander_8_17 FU (0 : Int32) (upA M 14 (va_cpy (M 9) (M 14) 0 0 8)))
-- X9_grown (T, depth 1)
def fo_X9_grown (v0 : Int32) (v1 : Int32) : Option Int32 :=
  some (minI (99 : Int32) (v0 + (minI v1 v0)))
def f_X9_grown (v0 : Int32) (v1 : Int32) : Int32 :=
  (minI (99 : Int32) (v0 + (minI v1 v0)))
theorem fe_X9_grown (v0 : Int32) (v1 : Int32) : fo_X9_grown v0 v1 = some (f_X9_grown v0 v1) := by
  unfold fo_X9_grown f_X9_grown
  simp only [apply_ite some]
set_option maxRecDepth 20000 in
set_option maxHeartbeats 2000000 in
theorem sp_X9_grown (v0 : Int32) (v1 : Int32) (M : Mem) : SpO (wR M) yX9_grown cX9_grown 2 (some .int) 1 [.int v0, .int v1] M (some (f_X9_grown v0 v1)) := by
  rw [← fe_X9_grown]
  refine sp_of (L := [some (.int v0), some (.int v1)]) rfl (by decide +kernel) rfl rfl ?_
  unfold fo_X9_grown
  refine e_bipush (v := (99 : Int32)) (dt dk_X9_grown 0 rfl) (by decide) ?_
  refine e_iload_n (dt dk_X9_grown 1 rfl) rfl ?_
  refine e_iload_n (dt dk_X9_grown 2 rfl) rfl ?_
  refine e_iload_n (dt dk_X9_grown 3 rfl) rfl ?_
  refine e_min ok_min (dt dk_X9_grown 4 rfl) ml_X9_262 rfl (by decide) ?_
  show Ev _ _ _ _ _ _ 8 [some (.int v0), some (.int v1)] [.int (minI v1 v0), .int v0, .int (99 : Int32)] M _
  refine e_iadd (dt dk_X9_grown 5 rfl) ?_
  refine e_min ok_min (dt dk_X9_grown 6 rfl) ml_X9_262 rfl (by decide) ?_
  show Ev _ _ _ _ _ _ 12 [some (.int v0), some (.int v1)] [.int (minI (99 : Int32) (v0 + (minI v1 v0)))] M _
  exact e_iret (dt dk_X9_grown 7 rfl) rfl rfl rfl
-- X9_uncaged (T, depth 1)
def fo_X9_uncaged (v0 : Int32) (v1 : Int32) : Option Int32 :=
  some (maxI (0 : Int32) (v0 - v1))
def f_X9_uncaged (v0 : Int32) (v1 : Int32) : Int32 :=
  (maxI (0 : Int32) (v0 - v1))
theorem fe_X9_uncaged (v0 : Int32) (v1 : Int32) : fo_X9_uncaged v0 v1 = some (f_X9_uncaged v0 v1) := by
  unfold fo_X9_uncaged f_X9_uncaged
  simp only [apply_ite some]
set_option maxRecDepth 20000 in
set_option maxHeartbeats 2000000 in
theorem sp_X9_uncaged (v0 : Int32) (v1 : Int32) (M : Mem) : SpO (wR M) yX9_uncaged cX9_uncaged 2 (some .int) 1 [.int v0, .int v1] M (some (f_X9_uncaged v0 v1)) := by
  rw [← fe_X9_uncaged]
  refine sp_of (L := [some (.int v0), some (.int v1)]) rfl (by decide +kernel) rfl rfl ?_
  unfold fo_X9_uncaged
  refine e_iconst (v := (0 : Int32)) (dt dk_X9_uncaged 0 rfl) (by decide) ?_
  refine e_iload_n (dt dk_X9_uncaged 1 rfl) rfl ?_
  refine e_iload_n (dt dk_X9_uncaged 2 rfl) rfl ?_
  refine e_isub (dt dk_X9_uncaged 3 rfl) ?_
  refine e_max ok_max (dt dk_X9_uncaged 4 rfl) ml_X9_265 rfl (by decide) ?_
  show Ev _ _ _ _ _ _ 7 [some (.int v0), some (.int v1)] [.int (maxI (0 : Int32) (v0 - v1))] M _
  exact e_iret (dt dk_X9_uncaged 5 rfl) rfl rfl rfl
-- X8_passWeek_8 (W, depth 2)
def bd_X8_passWeek_8_69  (K69 : Int32 → Mem → Option Mem) (v1 : Int32) (M : Mem) : Option Mem :=
  (if (8 : Int32) ≤ v1 then some (up2 M 8 8 ((M 8 8) + (1 : Int32))) else if inb v1 8 then if inb v1 8 then (K69 (v1 + (1 : Int32)) (up2 M 12 (ix v1) (maxI (0 : Int32) ((M 12 (ix v1)) - (1 : Int32))))) else none else none)
set_option maxRecDepth 20000 in
set_option maxHeartbeats 2000000 in
theorem ev_bd_X8_passWeek_8_69  (K69 : Int32 → Mem → Option Mem)  (hK69 : ∀ (v1 : Int32) (M : Mem), Ev none wV RX8 cX8_passWeek none 2 69 [some (.ref 8), some (.int v1), none] [] M (K69 v1 M)) (v1 : Int32) (M : Mem) : Ev none wV RX8 cX8_passWeek none 2 69 [some (.ref 8), some (.int v1), none] [] M (bd_X8_passWeek_8_69 K69 v1 M) := by
  unfold bd_X8_passWeek_8_69
  refine e_iload_n (dt dk_X8_passWeek 42 rfl) rfl ?_
  refine e_bipush (v := (8 : Int32)) (dt dk_X8_passWeek 43 rfl) (by decide) ?_
  refine e_icmp_ge 99 (dt dk_X8_passWeek 44 rfl) (by decide) (fun h3 => ?_) (fun h3 => ?_)
  · refine e_aload_n (dt dk_X8_passWeek 59 rfl) rfl ?_
    refine e_dup (dt dk_X8_passWeek 60 rfl) rfl ?_
    refine e_getI (v := (M 8 8)) ci_X8 (dt dk_X8_passWeek 61 rfl) rfl (by decide) rfl fl_X8_43 rfl ?_
    refine e_iconst (v := (1 : Int32)) (dt dk_X8_passWeek 62 rfl) (by decide) ?_
    refine e_iadd (dt dk_X8_passWeek 63 rfl) ?_
    refine e_putI (ty := .int) ci_X8 (dt dk_X8_passWeek 64 rfl) rfl (by decide) rfl fl_X8_43 rfl (by decide +kernel) rfl rfl ?_
    exact e_vret (dt dk_X8_passWeek 65 rfl) rfl rfl
  · refine e_aload_n (dt dk_X8_passWeek 45 rfl) rfl ?_
    refine e_getR ci_X8 (dt dk_X8_passWeek 46 rfl) rfl (by decide) rfl fl_X8_21 ?_
    refine e_iload_n (dt dk_X8_passWeek 47 rfl) rfl ?_
    refine e_iconst (v := (0 : Int32)) (dt dk_X8_passWeek 48 rfl) (by decide) ?_
    refine e_aload_n (dt dk_X8_passWeek 49 rfl) rfl ?_
    refine e_getR ci_X8 (dt dk_X8_passWeek 50 rfl) rfl (by decide) rfl fl_X8_21 ?_
    refine e_iload_n (dt dk_X8_passWeek 51 rfl) rfl ?_
    refine e_if (fun h4 => ?_)
    refine e_iald' (v := (M 12 (ix v1))) (dt dk_X8_passWeek 52 rfl) rfl h4 rfl ?_
    refine e_iconst (v := (1 : Int32)) (dt dk_X8_passWeek 53 rfl) (by decide) ?_
    refine e_isub (dt dk_X8_passWeek 54 rfl) ?_
    refine e_max ok_max (dt dk_X8_passWeek 55 rfl) ml_X8_89 rfl (by decide) ?_
    show Ev _ _ _ _ _ _ 92 [some (.ref 8), some (.int v1), none] [.int (maxI (0 : Int32) ((M 12 (ix v1)) - (1 : Int32))), .int v1, .ref 12] M _
    refine e_if (fun h5 => ?_)
    refine e_iast' (dt dk_X8_passWeek 56 rfl) rfl h5 ?_
    refine e_iinc [some (.ref 8), some (.int (v1 + (1 : Int32))), none] (dt dk_X8_passWeek 57 rfl) rfl rfl rfl rfl ?_
    refine e_goto 69 (dt dk_X8_passWeek 58 rfl) (by decide) ?_
    exact e_forget [true, true, false] [some (.ref 8), some (.int (v1 + (1 : Int32))), none] ⟨rfl, rfl⟩ (hK69 (v1 + (1 : Int32)) (up2 M 12 (ix v1) (maxI (0 : Int32) ((M 12 (ix v1)) - (1 : Int32)))))
def lp_X8_passWeek_8_69  : Nat → Int32 → Mem → Option Mem
  | 0 => fun _ _ => none
  | n + 1 => bd_X8_passWeek_8_69 (lp_X8_passWeek_8_69 n)
theorem ev_lp_X8_passWeek_8_69   : ∀ (n : Nat), ∀ (v1 : Int32) (M : Mem), Ev none wV RX8 cX8_passWeek none 2 69 [some (.ref 8), some (.int v1), none] [] M (lp_X8_passWeek_8_69 n v1 M)
  | 0 => fun _ _ => e_none
  | n + 1 => ev_bd_X8_passWeek_8_69 (lp_X8_passWeek_8_69 n) (ev_lp_X8_passWeek_8_69 n)
def bd_X8_passWeek_8_2  (K2 : Int32 → Mem → Option Mem) (v1 : Int32) (M : Mem) : Option Mem :=
  (if (8 : Int32) ≤ v1 then ((f_X8_wander_8 M)).bind fun q2 => (lp_X8_passWeek_8_69 FU (0 : Int32) q2) else if inb v1 8 then if inb v1 8 then if inb v1 8 then if inb v1 8 then if inb v1 8 then (K2 (v1 + (1 : Int32)) (up2 (up2 M 9 (ix v1) (f_X9_uncaged (f_X9_grown (M 9 (ix v1)) (M 10 (ix v1))) (M 11 (ix v1)))) 8 7 ((M 8 7) + ((f_X9_grown (M 9 (ix v1)) (M 10 (ix v1))) - ((up2 M 9 (ix v1) (f_X9_uncaged (f_X9_grown (M 9 (ix v1)) (M 10 (ix v1))) (M 11 (ix v1)))) 9 (ix v1)))))) else none else none else none else none else none)
set_option maxRecDepth 20000 in
set_option maxHeartbeats 2000000 in
theorem ev_bd_X8_passWeek_8_2  (K2 : Int32 → Mem → Option Mem)  (hK2 : ∀ (v1 : Int32) (M : Mem), Ev none wV RX8 cX8_passWeek none 2 2 [some (.ref 8), some (.int v1), none] [] M (K2 v1 M)) (v1 : Int32) (M : Mem) : Ev none wV RX8 cX8_passWeek none 2 2 [some (.ref 8), some (.int v1), none] [] M (bd_X8_passWeek_8_2 K2 v1 M) := by
  unfold bd_X8_passWeek_8_2
  refine e_iload_n (dt dk_X8_passWeek 2 rfl) rfl ?_
  refine e_bipush (v := (8 : Int32)) (dt dk_X8_passWeek 3 rfl) (by decide) ?_
  refine e_icmp_ge 63 (dt dk_X8_passWeek 4 rfl) (by decide) (fun h1 => ?_) (fun h1 => ?_)
  · refine e_aload_n (dt dk_X8_passWeek 38 rfl) rfl ?_
    refine ev_call (ca_V (k := 8) mv_X8_wander (sp_X8_wander_8 M) (dt dk_X8_passWeek 39 rfl) ml_X8_86 rfl rfl rfl rfl rfl (by decide) : Ca _ _ _ _ _ _ _ _ [] _ _) (fun q2 hq2 => ?_)
    show Ev _ _ _ _ _ _ 67 [some (.ref 8), some (.int v1), none] [] q2 _
    refine e_iconst (v := (0 : Int32)) (dt dk_X8_passWeek 40 rfl) (by decide) ?_
    refine e_istore_n [some (.ref 8), some (.int (0 : Int32)), none] (dt dk_X8_passWeek 41 rfl) rfl rfl rfl ?_
    exact e_forget [true, true, false] [some (.ref 8), some (.int (0 : Int32)), none] ⟨rfl, rfl⟩ (ev_lp_X8_passWeek_8_69 FU (0 : Int32) q2)
  · refine e_aload_n (dt dk_X8_passWeek 5 rfl) rfl ?_
    refine e_getR ci_X8 (dt dk_X8_passWeek 6 rfl) rfl (by decide) rfl fl_X8_9 ?_
    refine e_iload_n (dt dk_X8_passWeek 7 rfl) rfl ?_
    refine e_if (fun h6 => ?_)
    refine e_iald' (v := (M 9 (ix v1))) (dt dk_X8_passWeek 8 rfl) rfl h6 rfl ?_
    refine e_aload_n (dt dk_X8_passWeek 9 rfl) rfl ?_
    refine e_getR ci_X8 (dt dk_X8_passWeek 10 rfl) rfl (by decide) rfl fl_X8_15 ?_
    refine e_iload_n (dt dk_X8_passWeek 11 rfl) rfl ?_
    refine e_if (fun h7 => ?_)
    refine e_iald' (v := (M 10 (ix v1))) (dt dk_X8_passWeek 12 rfl) rfl h7 rfl ?_
    refine ev_callT (ca_SN ms_X9_grown (sp_X9_grown (M 9 (ix v1)) (M 10 (ix v1)) M) (dt dk_X8_passWeek 13 rfl) mn_X8_80 rfl rfl rfl (by decide) : Ca _ _ _ _ _ _ _ _ [] _ _) ?_
    show Ev _ _ _ _ _ _ 23 [some (.ref 8), some (.int v1), none] [.int (f_X9_grown (M 9 (ix v1)) (M 10 (ix v1)))] M _
    refine e_istore_n [some (.ref 8), some (.int v1), some (.int (f_X9_grown (M 9 (ix v1)) (M 10 (ix v1))))] (dt dk_X8_passWeek 14 rfl) rfl rfl rfl ?_
    refine e_aload_n (dt dk_X8_passWeek 15 rfl) rfl ?_
    refine e_getR ci_X8 (dt dk_X8_passWeek 16 rfl) rfl (by decide) rfl fl_X8_9 ?_
    refine e_iload_n (dt dk_X8_passWeek 17 rfl) rfl ?_
    refine e_iload_n (dt dk_X8_passWeek 18 rfl) rfl ?_
    refine e_aload_n (dt dk_X8_passWeek 19 rfl) rfl ?_
    refine e_getR ci_X8 (dt dk_X8_passWeek 20 rfl) rfl (by decide) rfl fl_X8_18 ?_
    refine e_iload_n (dt dk_X8_passWeek 21 rfl) rfl ?_
    refine e_if (fun h8 => ?_)
    refine e_iald' (v := (M 11 (ix v1))) (dt dk_X8_passWeek 22 rfl) rfl h8 rfl ?_
    refine ev_callT (ca_SN ms_X9_uncaged (sp_X9_uncaged (f_X9_grown (M 9 (ix v1)) (M 10 (ix v1))) (M 11 (ix v1)) M) (dt dk_X8_passWeek 23 rfl) mn_X8_83 rfl rfl rfl (by decide) : Ca _ _ _ _ _ _ _ _ [.int v1, .ref 9] _ _) ?_
    show Ev _ _ _ _ _ _ 39 [some (.ref 8), some (.int v1), some (.int (f_X9_grown (M 9 (ix v1)) (M 10 (ix v1))))] [.int (f_X9_uncaged (f_X9_grown (M 9 (ix v1)) (M 10 (ix v1))) (M 11 (ix v1))), .int v1, .ref 9] M _
    refine e_if (fun h9 => ?_)
    refine e_iast' (dt dk_X8_passWeek 24 rfl) rfl h9 ?_
    refine e_aload_n (dt dk_X8_passWeek 25 rfl) rfl ?_
    refine e_dup (dt dk_X8_passWeek 26 rfl) rfl ?_
    refine e_getI (v := (M 8 7)) ci_X8 (dt dk_X8_passWeek 27 rfl) rfl (by decide) rfl fl_X8_40 rfl ?_
    refine e_iload_n (dt dk_X8_passWeek 28 rfl) rfl ?_
    refine e_aload_n (dt dk_X8_passWeek 29 rfl) rfl ?_
    refine e_getR ci_X8 (dt dk_X8_passWeek 30 rfl) rfl (by decide) rfl fl_X8_9 ?_
    refine e_iload_n (dt dk_X8_passWeek 31 rfl) rfl ?_
    refine e_if (fun h10 => ?_)
    refine e_iald' (v := ((up2 M 9 (ix v1) (f_X9_uncaged (f_X9_grown (M 9 (ix v1)) (M 10 (ix v1))) (M 11 (ix v1)))) 9 (ix v1))) (dt dk_X8_passWeek 32 rfl) rfl h10 rfl ?_
    refine e_isub (dt dk_X8_passWeek 33 rfl) ?_
    refine e_iadd (dt dk_X8_passWeek 34 rfl) ?_
    refine e_putI (ty := .int) ci_X8 (dt dk_X8_passWeek 35 rfl) rfl (by decide) rfl fl_X8_40 rfl (by decide +kernel) rfl rfl ?_
    refine e_iinc [some (.ref 8), some (.int (v1 + (1 : Int32))), some (.int (f_X9_grown (M 9 (ix v1)) (M 10 (ix v1))))] (dt dk_X8_passWeek 36 rfl) rfl rfl rfl rfl ?_
    refine e_goto 2 (dt dk_X8_passWeek 37 rfl) (by decide) ?_
    exact e_forget [true, true, false] [some (.ref 8), some (.int (v1 + (1 : Int32))), none] ⟨rfl, rfl⟩ (hK2 (v1 + (1 : Int32)) (up2 (up2 M 9 (ix v1) (f_X9_uncaged (f_X9_grown (M 9 (ix v1)) (M 10 (ix v1))) (M 11 (ix v1)))) 8 7 ((M 8 7) + ((f_X9_grown (M 9 (ix v1)) (M 10 (ix v1))) - ((up2 M 9 (ix v1) (f_X9_uncaged (f_X9_grown (M 9 (ix v1)) (M 10 (ix v1))) (M 11 (ix v1)))) 9 (ix v1))))))
def lp_X8_passWeek_8_2  : Nat → Int32 → Mem → Option Mem
  | 0 => fun _ _ => none
  | n + 1 => bd_X8_passWeek_8_2 (lp_X8_passWeek_8_2 n)
theorem ev_lp_X8_passWeek_8_2   : ∀ (n : Nat), ∀ (v1 : Int32) (M : Mem), Ev none wV RX8 cX8_passWeek none 2 2 [some (.ref 8), some (.int v1), none] [] M (lp_X8_passWeek_8_2 n v1 M)
  | 0 => fun _ _ => e_none
  | n + 1 => ev_bd_X8_passWeek_8_2 (lp_X8_passWeek_8_2 n) (ev_lp_X8_passWeek_8_2 n)
def f_X8_passWeek_8  (M : Mem) : Option Mem :=
  (lp_X8_passWeek_8_2 FU (0 : Int32) M)
set_option maxRecDepth 20000 in
set_option maxHeartbeats 2000000 in
theorem sp_X8_passWeek_8  (M : Mem) : SpO wV yX8_passWeek cX8_passWeek 3 none 2 [.ref 8] M (f_X8_passWeek_8 M) := by
  refine sp_of (L := [some (.ref 8), none, none]) rfl (by decide +kernel) rfl rfl ?_
  unfold f_X8_passWeek_8
  refine e_iconst (v := (0 : Int32)) (dt dk_X8_passWeek 0 rfl) (by decide) ?_
  refine e_istore_n [some (.ref 8), some (.int (0 : Int32)), none] (dt dk_X8_passWeek 1 rfl) rfl rfl rfl ?_
  exact e_forget [true, true, false] [some (.ref 8), some (.int (0 : Int32)), none] ⟨rfl, rfl⟩ (ev_lp_X8_passWeek_8_2 FU (0 : Int32) M)
-- X8_take_8_17 (W, depth 3)
def f_X8_take_8_17  (M : Mem) : Option Mem :=
  (if (f_X9_isHouse (M 17 1)) = 0 then some M else (if (M 17 0) = (33 : Int32) then if inb (M 17 1) 8 then if inb (M 17 1) 8 then if inb (M 17 1) 8 then some (up2 (up2 M 9 (ix (M 17 1)) ((M 9 (ix (M 17 1))) / (2 : Int32))) 12 (ix (M 17 1)) (3 : Int32)) else none else none else none else if (M 17 0) = (43 : Int32) then if inb (M 17 1) 8 then if inb (M 17 1) 8 then some (up2 M 10 (ix (M 17 1)) ((M 10 (ix (M 17 1))) + (1 : Int32))) else none else none else if (M 17 0) = (45 : Int32) then if inb (M 17 1) 8 then if inb (M 17 1) 8 then some (up2 M 10 (ix (M 17 1)) ((M 10 (ix (M 17 1))) - (1 : Int32))) else none else none else if (M 17 0) = (94 : Int32) then if inb (M 17 1) 8 then if inb (M 17 1) 8 then some (up2 (up2 M 11 (ix (M 17 1)) ((M 11 (ix (M 17 1))) + (1 : Int32))) 8 6 ((M 8 6) - (1 : Int32))) else none else none else if (M 17 0) = (95 : Int32) then if inb (M 17 1) 8 then if inb (M 17 1) 8 then some (up2 (up2 M 11 (ix (M 17 1)) ((M 11 (ix (M 17 1))) - (1 : Int32))) 8 6 (minI (99 : Int32) ((M 8 6) + (1 : Int32)))) else none else none else if (M 17 0) = (111 : Int32) then ((f_X8_turnHole_8 (M 17 1) (M 17 2) M)).bind fun q19 => some q19 else ((f_X8_passWeek_8 M)).bind fun q20 => some q20))
set_option maxRecDepth 20000 in
set_option maxHeartbeats 2000000 in
theorem sp_X8_take_8_17  (M : Mem) : SpO wV yX8_take cX8_take 3 none 3 [.ref 8, .ref 17] M (f_X8_take_8_17 M) := by
  refine sp_of (L := [some (.ref 8), some (.ref 17), none]) rfl (by decide +kernel) rfl rfl ?_
  unfold f_X8_take_8_17
  refine e_aload_n (dt dk_X8_take 0 rfl) rfl ?_
  refine e_getI (v := (M 17 1)) ci_X0 (dt dk_X8_take 1 rfl) rfl (by decide) rfl fl_X8_56 rfl ?_
  refine e_istore_n [some (.ref 8), some (.ref 17), some (.int (M 17 1))] (dt dk_X8_take 2 rfl) rfl rfl rfl ?_
  refine e_iload_n (dt dk_X8_take 3 rfl) rfl ?_
  refine ev_callT (ca_SN ms_X9_isHouse (sp_X9_isHouse (M 17 1) M) (dt dk_X8_take 4 rfl) mn_X8_46 rfl rfl rfl (by decide) : Ca _ _ _ _ _ _ _ _ [] _ _) ?_
  show Ev _ _ _ _ _ _ 9 [some (.ref 8), some (.ref 17), some (.int (M 17 1))] [.int (f_X9_isHouse (M 17 1))] M _
  refine e_if_ne 13 (dt dk_X8_take 5 rfl) (by decide) (fun h1 => ?_) (fun h1 => ?_)
  · exact e_vret (dt dk_X8_take 6 rfl) rfl rfl
  · refine e_aload_n (dt dk_X8_take 7 rfl) rfl ?_
    refine e_getI (v := (M 17 0)) ci_X0 (dt dk_X8_take 8 rfl) rfl (by decide) rfl fl_X8_61 rfl ?_
    refine e_split (fun h2 => ?_) (fun h2 => ?_)
    · refine e_lookup (off := 136) 153 (dt dk_X8_take 9 rfl) rfl (by rw [h2]; rfl) (by decide) ?_
      refine e_aload_n (dt dk_X8_take 60 rfl) rfl ?_
      refine e_getR ci_X8 (dt dk_X8_take 61 rfl) rfl (by decide) rfl fl_X8_9 ?_
      refine e_iload_n (dt dk_X8_take 62 rfl) rfl ?_
      refine e_dup2 (dt dk_X8_take 63 rfl) rfl rfl ?_
      refine e_if (fun h3 => ?_)
      refine e_iald' (v := (M 9 (ix (M 17 1)))) (dt dk_X8_take 64 rfl) rfl h3 rfl ?_
      refine e_iconst (v := (2 : Int32)) (dt dk_X8_take 65 rfl) (by decide) ?_
      refine e_idiv' (dt dk_X8_take 66 rfl) (by decide) ?_
      show Ev _ _ _ _ _ _ 162 [some (.ref 8), some (.ref 17), some (.int (M 17 1))] [.int ((M 9 (ix (M 17 1))) / (2 : Int32)), .int (M 17 1), .ref 9] M _
      refine e_if (fun h4 => ?_)
      refine e_iast' (dt dk_X8_take 67 rfl) rfl h4 ?_
      refine e_aload_n (dt dk_X8_take 68 rfl) rfl ?_
      refine e_getR ci_X8 (dt dk_X8_take 69 rfl) rfl (by decide) rfl fl_X8_21 ?_
      refine e_iload_n (dt dk_X8_take 70 rfl) rfl ?_
      refine e_iconst (v := (3 : Int32)) (dt dk_X8_take 71 rfl) (by decide) ?_
      refine e_if (fun h5 => ?_)
      refine e_iast' (dt dk_X8_take 72 rfl) rfl h5 ?_
      refine e_goto 189 (dt dk_X8_take 73 rfl) (by decide) ?_
      exact e_vret (dt dk_X8_take 82 rfl) rfl rfl
    · skip
      refine e_split (fun h6 => ?_) (fun h6 => ?_)
      · refine e_lookup (off := 59) 76 (dt dk_X8_take 9 rfl) rfl (by rw [h6]; rfl) (by decide) ?_
        refine e_aload_n (dt dk_X8_take 10 rfl) rfl ?_
        refine e_getR ci_X8 (dt dk_X8_take 11 rfl) rfl (by decide) rfl fl_X8_15 ?_
        refine e_iload_n (dt dk_X8_take 12 rfl) rfl ?_
        refine e_dup2 (dt dk_X8_take 13 rfl) rfl rfl ?_
        refine e_if (fun h7 => ?_)
        refine e_iald' (v := (M 10 (ix (M 17 1)))) (dt dk_X8_take 14 rfl) rfl h7 rfl ?_
        refine e_iconst (v := (1 : Int32)) (dt dk_X8_take 15 rfl) (by decide) ?_
        refine e_iadd (dt dk_X8_take 16 rfl) ?_
        refine e_if (fun h8 => ?_)
        refine e_iast' (dt dk_X8_take 17 rfl) rfl h8 ?_
        refine e_goto 189 (dt dk_X8_take 18 rfl) (by decide) ?_
        exact e_vret (dt dk_X8_take 82 rfl) rfl rfl
      · skip
        refine e_split (fun h9 => ?_) (fun h9 => ?_)
        · refine e_lookup (off := 72) 89 (dt dk_X8_take 9 rfl) rfl (by rw [h9]; rfl) (by decide) ?_
          refine e_aload_n (dt dk_X8_take 19 rfl) rfl ?_
          refine e_getR ci_X8 (dt dk_X8_take 20 rfl) rfl (by decide) rfl fl_X8_15 ?_
          refine e_iload_n (dt dk_X8_take 21 rfl) rfl ?_
          refine e_dup2 (dt dk_X8_take 22 rfl) rfl rfl ?_
          refine e_if (fun h10 => ?_)
          refine e_iald' (v := (M 10 (ix (M 17 1)))) (dt dk_X8_take 23 rfl) rfl h10 rfl ?_
          refine e_iconst (v := (1 : Int32)) (dt dk_X8_take 24 rfl) (by decide) ?_
          refine e_isub (dt dk_X8_take 25 rfl) ?_
          refine e_if (fun h11 => ?_)
          refine e_iast' (dt dk_X8_take 26 rfl) rfl h11 ?_
          refine e_goto 189 (dt dk_X8_take 27 rfl) (by decide) ?_
          exact e_vret (dt dk_X8_take 82 rfl) rfl rfl
        · skip
          refine e_split (fun h12 => ?_) (fun h12 => ?_)
          · refine e_lookup (off := 85) 102 (dt dk_X8_take 9 rfl) rfl (by rw [h12]; rfl) (by decide) ?_
            refine e_aload_n (dt dk_X8_take 28 rfl) rfl ?_
            refine e_getR ci_X8 (dt dk_X8_take 29 rfl) rfl (by decide) rfl fl_X8_18 ?_
            refine e_iload_n (dt dk_X8_take 30 rfl) rfl ?_
            refine e_dup2 (dt dk_X8_take 31 rfl) rfl rfl ?_
            refine e_if (fun h13 => ?_)
            refine e_iald' (v := (M 11 (ix (M 17 1)))) (dt dk_X8_take 32 rfl) rfl h13 rfl ?_
            refine e_iconst (v := (1 : Int32)) (dt dk_X8_take 33 rfl) (by decide) ?_
            refine e_iadd (dt dk_X8_take 34 rfl) ?_
            refine e_if (fun h14 => ?_)
            refine e_iast' (dt dk_X8_take 35 rfl) rfl h14 ?_
            refine e_aload_n (dt dk_X8_take 36 rfl) rfl ?_
            refine e_dup (dt dk_X8_take 37 rfl) rfl ?_
            refine e_getI (v := (M 8 6)) ci_X8 (dt dk_X8_take 38 rfl) rfl (by decide) rfl fl_X8_30 rfl ?_
            refine e_iconst (v := (1 : Int32)) (dt dk_X8_take 39 rfl) (by decide) ?_
            refine e_isub (dt dk_X8_take 40 rfl) ?_
            refine e_putI (ty := .int) ci_X8 (dt dk_X8_take 41 rfl) rfl (by decide) rfl fl_X8_30 rfl (by decide +kernel) rfl rfl ?_
            refine e_goto 189 (dt dk_X8_take 42 rfl) (by decide) ?_
            exact e_vret (dt dk_X8_take 82 rfl) rfl rfl
          · skip
            refine e_split (fun h15 => ?_) (fun h15 => ?_)
            · refine e_lookup (off := 108) 125 (dt dk_X8_take 9 rfl) rfl (by rw [h15]; rfl) (by decide) ?_
              refine e_aload_n (dt dk_X8_take 43 rfl) rfl ?_
              refine e_getR ci_X8 (dt dk_X8_take 44 rfl) rfl (by decide) rfl fl_X8_18 ?_
              refine e_iload_n (dt dk_X8_take 45 rfl) rfl ?_
              refine e_dup2 (dt dk_X8_take 46 rfl) rfl rfl ?_
              refine e_if (fun h16 => ?_)
              refine e_iald' (v := (M 11 (ix (M 17 1)))) (dt dk_X8_take 47 rfl) rfl h16 rfl ?_
              refine e_iconst (v := (1 : Int32)) (dt dk_X8_take 48 rfl) (by decide) ?_
              refine e_isub (dt dk_X8_take 49 rfl) ?_
              refine e_if (fun h17 => ?_)
              refine e_iast' (dt dk_X8_take 50 rfl) rfl h17 ?_
              refine e_aload_n (dt dk_X8_take 51 rfl) rfl ?_
              refine e_bipush (v := (99 : Int32)) (dt dk_X8_take 52 rfl) (by decide) ?_
              refine e_aload_n (dt dk_X8_take 53 rfl) rfl ?_
              refine e_getI (v := (M 8 6)) ci_X8 (dt dk_X8_take 54 rfl) rfl (by decide) rfl fl_X8_30 rfl ?_
              refine e_iconst (v := (1 : Int32)) (dt dk_X8_take 55 rfl) (by decide) ?_
              refine e_iadd (dt dk_X8_take 56 rfl) ?_
              refine e_min ok_min (dt dk_X8_take 57 rfl) ml_X8_67 rfl (by decide) ?_
              show Ev _ _ _ _ _ _ 147 [some (.ref 8), some (.ref 17), some (.int (M 17 1))] [.int (minI (99 : Int32) ((M 8 6) + (1 : Int32))), .ref 8] (up2 M 11 (ix (M 17 1)) ((M 11 (ix (M 17 1))) - (1 : Int32))) _
              refine e_putI (ty := .int) ci_X8 (dt dk_X8_take 58 rfl) rfl (by decide) rfl fl_X8_30 rfl (by decide +kernel) rfl rfl ?_
              refine e_goto 189 (dt dk_X8_take 59 rfl) (by decide) ?_
              exact e_vret (dt dk_X8_take 82 rfl) rfl rfl
            · skip
              refine e_split (fun h18 => ?_) (fun h18 => ?_)
              · refine e_lookup (off := 156) 173 (dt dk_X8_take 9 rfl) rfl (by rw [h18]; rfl) (by decide) ?_
                refine e_aload_n (dt dk_X8_take 74 rfl) rfl ?_
                refine e_iload_n (dt dk_X8_take 75 rfl) rfl ?_
                refine e_aload_n (dt dk_X8_take 76 rfl) rfl ?_
                refine e_getI (v := (M 17 2)) ci_X0 (dt dk_X8_take 77 rfl) rfl (by decide) rfl fl_X8_64 rfl ?_
                refine ev_call (ca_V (k := 8) mv_X8_turnHole (sp_X8_turnHole_8 (M 17 1) (M 17 2) M) (dt dk_X8_take 78 rfl) ml_X8_73 rfl rfl rfl rfl rfl (by decide) : Ca _ _ _ _ _ _ _ _ [] _ _) (fun q19 hq19 => ?_)
                show Ev _ _ _ _ _ _ 182 [some (.ref 8), some (.ref 17), some (.int (M 17 1))] [] q19 _
                refine e_goto 189 (dt dk_X8_take 79 rfl) (by decide) ?_
                exact e_vret (dt dk_X8_take 82 rfl) rfl rfl
              · skip
                refine e_lookup (off := 168) 185 (dt dk_X8_take 9 rfl) rfl ((lv_osw h2 rfl).trans <| (lv_osw h6 rfl).trans <| (lv_osw h9 rfl).trans <| (lv_osw h12 rfl).trans <| (lv_osw h15 rfl).trans <| (lv_osw h18 rfl).trans <| rfl) (by decide) ?_
                refine e_aload_n (dt dk_X8_take 80 rfl) rfl ?_
                refine ev_call (ca_V (k := 8) mv_X8_passWeek (sp_X8_passWeek_8 M) (dt dk_X8_take 81 rfl) ml_X8_77 rfl rfl rfl rfl rfl (by decide) : Ca _ _ _ _ _ _ _ _ [] _ _) (fun q20 hq20 => ?_)
                show Ev _ _ _ _ _ _ 189 [some (.ref 8), some (.ref 17), some (.int (M 17 1))] [] q20 _
                exact e_vret (dt dk_X8_take 82 rfl) rfl rfl
-- X7_noteRid_18 (W, depth 0)
def bd_X7_noteRid_18_22  (K22 : Int32 → Int32 → Mem → Option Mem) (v2 : Int32) (v3 : Int32) (M : Mem) : Option Mem :=
  (if v3 < 0 then some M else (if ((v2 >>> (v3 &&& 31)) &&& (1 : Int32)) = (1 : Int32) then (K22 v2 (v3 + (-1 : Int32)) (up2 M 18 4 v3)) else (K22 v2 (v3 + (-1 : Int32)) M)))
set_option maxRecDepth 20000 in
set_option maxHeartbeats 2000000 in
theorem ev_bd_X7_noteRid_18_22  (K22 : Int32 → Int32 → Mem → Option Mem)  (hK22 : ∀ (v2 : Int32) (v3 : Int32) (M : Mem), Ev none wV RX7 cX7_noteRid none 0 22 [some (.ref 18), none, some (.int v2), some (.int v3)] [] M (K22 v2 v3 M)) (v2 : Int32) (v3 : Int32) (M : Mem) : Ev none wV RX7 cX7_noteRid none 0 22 [some (.ref 18), none, some (.int v2), some (.int v3)] [] M (bd_X7_noteRid_18_22 K22 v2 v3 M) := by
  unfold bd_X7_noteRid_18_22
  refine e_iload_n (dt dk_X7_noteRid 12 rfl) rfl ?_
  refine e_if_lt 46 (dt dk_X7_noteRid 13 rfl) (by decide) (fun h3 => ?_) (fun h3 => ?_)
  · exact e_vret (dt dk_X7_noteRid 26 rfl) rfl rfl
  · refine e_iload_n (dt dk_X7_noteRid 14 rfl) rfl ?_
    refine e_iload_n (dt dk_X7_noteRid 15 rfl) rfl ?_
    refine e_ishr (dt dk_X7_noteRid 16 rfl) ?_
    refine e_iconst (v := (1 : Int32)) (dt dk_X7_noteRid 17 rfl) (by decide) ?_
    refine e_iand (dt dk_X7_noteRid 18 rfl) ?_
    refine e_iconst (v := (1 : Int32)) (dt dk_X7_noteRid 19 rfl) (by decide) ?_
    refine e_icmp_ne 40 (dt dk_X7_noteRid 20 rfl) (by decide) (fun h4 => ?_) (fun h4 => ?_)
    · refine e_aload_n (dt dk_X7_noteRid 21 rfl) rfl ?_
      refine e_iload_n (dt dk_X7_noteRid 22 rfl) rfl ?_
      refine e_putI (ty := .int) ci_X7 (dt dk_X7_noteRid 23 rfl) rfl (by decide) rfl fl_X7_21 rfl (by decide +kernel) rfl rfl ?_
      refine e_iinc [some (.ref 18), none, some (.int v2), some (.int (v3 + (-1 : Int32)))] (dt dk_X7_noteRid 24 rfl) rfl rfl rfl rfl ?_
      refine e_goto 22 (dt dk_X7_noteRid 25 rfl) (by decide) ?_
      exact e_forget [true, false, true, true] [some (.ref 18), none, some (.int v2), some (.int (v3 + (-1 : Int32)))] ⟨rfl, rfl⟩ (hK22 v2 (v3 + (-1 : Int32)) (up2 M 18 4 v3))
    · refine e_iinc [some (.ref 18), none, some (.int v2), some (.int (v3 + (-1 : Int32)))] (dt dk_X7_noteRid 24 rfl) rfl rfl rfl rfl ?_
      refine e_goto 22 (dt dk_X7_noteRid 25 rfl) (by decide) ?_
      exact e_forget [true, false, true, true] [some (.ref 18), none, some (.int v2), some (.int (v3 + (-1 : Int32)))] ⟨rfl, rfl⟩ (hK22 v2 (v3 + (-1 : Int32)) M)
def lp_X7_noteRid_18_22  : Nat → Int32 → Int32 → Mem → Option Mem
  | 0 => fun _ _ _ => none
  | n + 1 => bd_X7_noteRid_18_22 (lp_X7_noteRid_18_22 n)
theorem ev_lp_X7_noteRid_18_22   : ∀ (n : Nat), ∀ (v2 : Int32) (v3 : Int32) (M : Mem), Ev none wV RX7 cX7_noteRid none 0 22 [some (.ref 18), none, some (.int v2), some (.int v3)] [] M (lp_X7_noteRid_18_22 n v2 v3 M)
  | 0 => fun _ _ _ => e_none
  | n + 1 => ev_bd_X7_noteRid_18_22 (lp_X7_noteRid_18_22 n) (ev_lp_X7_noteRid_18_22 n)
def f_X7_noteRid_18 (v1 : Int32) (v2 : Int32) (M : Mem) : Option Mem :=
  (if v2 = 0 then some M else (if (M 18 3) = (-6 : Int32) then (lp_X7_noteRid_18_22 FU v2 (7 : Int32) (up2 M 18 3 v1)) else some M))
set_option maxRecDepth 20000 in
set_option maxHeartbeats 2000000 in
theorem sp_X7_noteRid_18 (v1 : Int32) (v2 : Int32) (M : Mem) : SpO wV yX7_noteRid cX7_noteRid 4 none 0 [.ref 18, .int v1, .int v2] M (f_X7_noteRid_18 v1 v2 M) := by
  refine sp_of (L := [some (.ref 18), some (.int v1), some (.int v2), none]) rfl (by decide +kernel) rfl rfl ?_
  unfold f_X7_noteRid_18
  refine e_iload_n (dt dk_X7_noteRid 0 rfl) rfl ?_
  refine e_if_eq 13 (dt dk_X7_noteRid 1 rfl) (by decide) (fun h1 => ?_) (fun h1 => ?_)
  · exact e_vret (dt dk_X7_noteRid 6 rfl) rfl rfl
  · refine e_aload_n (dt dk_X7_noteRid 2 rfl) rfl ?_
    refine e_getI (v := (M 18 3)) ci_X7 (dt dk_X7_noteRid 3 rfl) rfl (by decide) rfl fl_X7_18 rfl ?_
    refine e_bipush (v := (-6 : Int32)) (dt dk_X7_noteRid 4 rfl) (by decide) ?_
    refine e_icmp_eq 14 (dt dk_X7_noteRid 5 rfl) (by decide) (fun h2 => ?_) (fun h2 => ?_)
    · refine e_aload_n (dt dk_X7_noteRid 7 rfl) rfl ?_
      refine e_iload_n (dt dk_X7_noteRid 8 rfl) rfl ?_
      refine e_putI (ty := .int) ci_X7 (dt dk_X7_noteRid 9 rfl) rfl (by decide) rfl fl_X7_18 rfl (by decide +kernel) rfl rfl ?_
      refine e_bipush (v := (7 : Int32)) (dt dk_X7_noteRid 10 rfl) (by decide) ?_
      refine e_istore_n [some (.ref 18), some (.int v1), some (.int v2), some (.int (7 : Int32))] (dt dk_X7_noteRid 11 rfl) rfl rfl rfl ?_
      exact e_forget [true, false, true, true] [some (.ref 18), none, some (.int v2), some (.int (7 : Int32))] ⟨rfl, rfl⟩ (ev_lp_X7_noteRid_18_22 FU v2 (7 : Int32) (up2 M 18 3 v1))
    · exact e_vret (dt dk_X7_noteRid 6 rfl) rfl rfl
-- X7_follow_18_15_17_8 (W, depth 4)
def bd_X7_follow_18_15_17_8_41  (K41 : Int32 → Int32 → Int32 → Mem → Option Mem) (v4 : Int32) (v5 : Int32) (v6 : Int32) (M : Mem) : Option Mem :=
  (if (60 : Int32) ≤ v6 then some M else (if (M 15 1) ≤ v4 then some M else ((f_X0_read_17_15 v4 M)).bind fun q4 => ((f_X8_whyNot_8_17 q4.2)).bind fun r5 => (if r5 = 0 then ((f_X8_take_8_17 q4.2)).bind fun q7 => ((f_X8_clearHouses_8 q7)).bind fun r8 => ((f_X7_noteRid_18 v6 (r8 &&& (v5 ^^^ (-1 : Int32))) q7)).bind fun q9 => (K41 q4.1 r8 (v6 + (1 : Int32)) (up2 q9 18 0 ((q9 18 0) + (1 : Int32)))) else some (up2 (up2 q4.2 18 1 v6) 18 2 r5))))
set_option maxRecDepth 20000 in
set_option maxHeartbeats 2000000 in
theorem ev_bd_X7_follow_18_15_17_8_41  (K41 : Int32 → Int32 → Int32 → Mem → Option Mem)  (hK41 : ∀ (v4 : Int32) (v5 : Int32) (v6 : Int32) (M : Mem), Ev none wV RX7 cX7_follow none 4 41 [some (.ref 18), some (.ref 15), some (.ref 17), some (.ref 8), some (.int v4), some (.int v5), some (.int v6), none, none] [] M (K41 v4 v5 v6 M)) (v4 : Int32) (v5 : Int32) (v6 : Int32) (M : Mem) : Ev none wV RX7 cX7_follow none 4 41 [some (.ref 18), some (.ref 15), some (.ref 17), some (.ref 8), some (.int v4), some (.int v5), some (.int v6), none, none] [] M (bd_X7_follow_18_15_17_8_41 K41 v4 v5 v6 M) := by
  unfold bd_X7_follow_18_15_17_8_41
  refine e_iload (dt dk_X7_follow 22 rfl) rfl ?_
  refine e_bipush (v := (60 : Int32)) (dt dk_X7_follow 23 rfl) (by decide) ?_
  refine e_icmp_ge 135 (dt dk_X7_follow 24 rfl) (by decide) (fun h2 => ?_) (fun h2 => ?_)
  · exact e_vret (dt dk_X7_follow 71 rfl) rfl rfl
  · refine e_iload (dt dk_X7_follow 25 rfl) rfl ?_
    refine e_aload_n (dt dk_X7_follow 26 rfl) rfl ?_
    refine e_getI (v := (M 15 1)) ci_X5 (dt dk_X7_follow 27 rfl) rfl (by decide) rfl fl_X7_33 rfl ?_
    refine e_icmp_ge 135 (dt dk_X7_follow 28 rfl) (by decide) (fun h3 => ?_) (fun h3 => ?_)
    · exact e_vret (dt dk_X7_follow 71 rfl) rfl rfl
    · refine e_aload_n (dt dk_X7_follow 29 rfl) rfl ?_
      refine e_aload_n (dt dk_X7_follow 30 rfl) rfl ?_
      refine e_iload (dt dk_X7_follow 31 rfl) rfl ?_
      refine ev_call (ca_V (k := 17) mv_X0_read (sp_X0_read_17_15 v4 M) (dt dk_X7_follow 32 rfl) ml_X7_38 rfl rfl rfl rfl rfl (by decide) : Ca _ _ _ _ _ _ _ _ [] _ _) (fun q4 hq4 => ?_)
      show Ev _ _ _ _ _ _ 64 [some (.ref 18), some (.ref 15), some (.ref 17), some (.ref 8), some (.int v4), some (.int v5), some (.int v6), none, none] [.int q4.1] q4.2 _
      refine e_istore [some (.ref 18), some (.ref 15), some (.ref 17), some (.ref 8), some (.int q4.1), some (.int v5), some (.int v6), none, none] (dt dk_X7_follow 33 rfl) rfl rfl rfl ?_
      refine e_aload_n (dt dk_X7_follow 34 rfl) rfl ?_
      refine e_aload_n (dt dk_X7_follow 35 rfl) rfl ?_
      refine ev_call (ca_V (k := 8) mv_X8_whyNot (sp_X8_whyNot_8_17 q4.2) (dt dk_X7_follow 36 rfl) ml_X7_44 rfl rfl rfl rfl rfl (by decide) : Ca _ _ _ _ _ _ _ _ [] _ _) (fun r5 hr5 => ?_)
      show Ev _ _ _ _ _ _ 71 [some (.ref 18), some (.ref 15), some (.ref 17), some (.ref 8), some (.int q4.1), some (.int v5), some (.int v6), none, none] [.int r5] q4.2 _
      refine e_istore [some (.ref 18), some (.ref 15), some (.ref 17), some (.ref 8), some (.int q4.1), some (.int v5), some (.int v6), some (.int r5), none] (dt dk_X7_follow 37 rfl) rfl rfl rfl ?_
      refine e_iload (dt dk_X7_follow 38 rfl) rfl ?_
      refine e_if_eq 91 (dt dk_X7_follow 39 rfl) (by decide) (fun h6 => ?_) (fun h6 => ?_)
      · refine e_aload_n (dt dk_X7_follow 47 rfl) rfl ?_
        refine e_aload_n (dt dk_X7_follow 48 rfl) rfl ?_
        refine ev_call (ca_V (k := 8) mv_X8_take (sp_X8_take_8_17 q4.2) (dt dk_X7_follow 49 rfl) ml_X7_48 rfl rfl rfl rfl rfl (by decide) : Ca _ _ _ _ _ _ _ _ [] _ _) (fun q7 hq7 => ?_)
        show Ev _ _ _ _ _ _ 96 [some (.ref 18), some (.ref 15), some (.ref 17), some (.ref 8), some (.int q4.1), some (.int v5), some (.int v6), some (.int r5), none] [] q7 _
        refine e_aload_n (dt dk_X7_follow 50 rfl) rfl ?_
        refine ev_call (ca_V (k := 8) mv_X8_clearHouses (sp_X8_clearHouses_8 q7) (dt dk_X7_follow 51 rfl) ml_X7_24 rfl rfl rfl rfl rfl (by decide) : Ca _ _ _ _ _ _ _ _ [] _ _) (fun r8 hr8 => ?_)
        show Ev _ _ _ _ _ _ 100 [some (.ref 18), some (.ref 15), some (.ref 17), some (.ref 8), some (.int q4.1), some (.int v5), some (.int v6), some (.int r5), none] [.int r8] q7 _
        refine e_istore [some (.ref 18), some (.ref 15), some (.ref 17), some (.ref 8), some (.int q4.1), some (.int v5), some (.int v6), some (.int r5), some (.int r8)] (dt dk_X7_follow 52 rfl) rfl rfl rfl ?_
        refine e_aload_n (dt dk_X7_follow 53 rfl) rfl ?_
        refine e_iload (dt dk_X7_follow 54 rfl) rfl ?_
        refine e_iload (dt dk_X7_follow 55 rfl) rfl ?_
        refine e_iload (dt dk_X7_follow 56 rfl) rfl ?_
        refine e_iconst (v := (-1 : Int32)) (dt dk_X7_follow 57 rfl) (by decide) ?_
        refine e_ixor (dt dk_X7_follow 58 rfl) ?_
        refine e_iand (dt dk_X7_follow 59 rfl) ?_
        refine ev_call (ca_V (k := 18) mv_X7_noteRid (sp_X7_noteRid_18 v6 (r8 &&& (v5 ^^^ (-1 : Int32))) q7) (dt dk_X7_follow 60 rfl) ml_X7_52 rfl rfl rfl rfl rfl (by decide) : Ca _ _ _ _ _ _ _ _ [] _ _) (fun q9 hq9 => ?_)
        show Ev _ _ _ _ _ _ 115 [some (.ref 18), some (.ref 15), some (.ref 17), some (.ref 8), some (.int q4.1), some (.int v5), some (.int v6), some (.int r5), some (.int r8)] [] q9 _
        refine e_iload (dt dk_X7_follow 61 rfl) rfl ?_
        refine e_istore [some (.ref 18), some (.ref 15), some (.ref 17), some (.ref 8), some (.int q4.1), some (.int r8), some (.int v6), some (.int r5), some (.int r8)] (dt dk_X7_follow 62 rfl) rfl rfl rfl ?_
        refine e_aload_n (dt dk_X7_follow 63 rfl) rfl ?_
        refine e_dup (dt dk_X7_follow 64 rfl) rfl ?_
        refine e_getI (v := (q9 18 0)) ci_X7 (dt dk_X7_follow 65 rfl) rfl (by decide) rfl fl_X7_30 rfl ?_
        refine e_iconst (v := (1 : Int32)) (dt dk_X7_follow 66 rfl) (by decide) ?_
        refine e_iadd (dt dk_X7_follow 67 rfl) ?_
        refine e_putI (ty := .int) ci_X7 (dt dk_X7_follow 68 rfl) rfl (by decide) rfl fl_X7_30 rfl (by decide +kernel) rfl rfl ?_
        refine e_iinc [some (.ref 18), some (.ref 15), some (.ref 17), some (.ref 8), some (.int q4.1), some (.int r8), some (.int (v6 + (1 : Int32))), some (.int r5), some (.int r8)] (dt dk_X7_follow 69 rfl) rfl rfl rfl rfl ?_
        refine e_goto 41 (dt dk_X7_follow 70 rfl) (by decide) ?_
        exact e_forget [true, true, true, true, true, true, true, false, false] [some (.ref 18), some (.ref 15), some (.ref 17), some (.ref 8), some (.int q4.1), some (.int r8), some (.int (v6 + (1 : Int32))), none, none] ⟨rfl, rfl⟩ (hK41 q4.1 r8 (v6 + (1 : Int32)) (up2 q9 18 0 ((q9 18 0) + (1 : Int32))))
      · refine e_aload_n (dt dk_X7_follow 40 rfl) rfl ?_
        refine e_iload (dt dk_X7_follow 41 rfl) rfl ?_
        refine e_putI (ty := .int) ci_X7 (dt dk_X7_follow 42 rfl) rfl (by decide) rfl fl_X7_9 rfl (by decide +kernel) rfl rfl ?_
        refine e_aload_n (dt dk_X7_follow 43 rfl) rfl ?_
        refine e_iload (dt dk_X7_follow 44 rfl) rfl ?_
        refine e_putI (ty := .int) ci_X7 (dt dk_X7_follow 45 rfl) rfl (by decide) rfl fl_X7_15 rfl (by decide +kernel) rfl rfl ?_
        exact e_vret (dt dk_X7_follow 46 rfl) rfl rfl
def lp_X7_follow_18_15_17_8_41  : Nat → Int32 → Int32 → Int32 → Mem → Option Mem
  | 0 => fun _ _ _ _ => none
  | n + 1 => bd_X7_follow_18_15_17_8_41 (lp_X7_follow_18_15_17_8_41 n)
theorem ev_lp_X7_follow_18_15_17_8_41   : ∀ (n : Nat), ∀ (v4 : Int32) (v5 : Int32) (v6 : Int32) (M : Mem), Ev none wV RX7 cX7_follow none 4 41 [some (.ref 18), some (.ref 15), some (.ref 17), some (.ref 8), some (.int v4), some (.int v5), some (.int v6), none, none] [] M (lp_X7_follow_18_15_17_8_41 n v4 v5 v6 M)
  | 0 => fun _ _ _ _ => e_none
  | n + 1 => ev_bd_X7_follow_18_15_17_8_41 (lp_X7_follow_18_15_17_8_41 n) (ev_lp_X7_follow_18_15_17_8_41 n)
def f_X7_follow_18_15_17_8  (M : Mem) : Option Mem :=
  ((f_X8_clearHouses_8 (up2 (up2 (up2 (up2 M 18 1 (-6 : Int32)) 18 2 (-6 : Int32)) 18 3 (-6 : Int32)) 18 4 (-6 : Int32)))).bind fun r1 => (lp_X7_follow_18_15_17_8_41 FU (0 : Int32) r1 (0 : Int32) (up2 (up2 (up2 (up2 (up2 M 18 1 (-6 : Int32)) 18 2 (-6 : Int32)) 18 3 (-6 : Int32)) 18 4 (-6 : Int32)) 18 0 (0 : Int32)))
set_option maxRecDepth 20000 in
set_option maxHeartbeats 2000000 in
theorem sp_X7_follow_18_15_17_8  (M : Mem) : SpO wV yX7_follow cX7_follow 9 none 4 [.ref 18, .ref 15, .ref 17, .ref 8] M (f_X7_follow_18_15_17_8 M) := by
  refine sp_of (L := [some (.ref 18), some (.ref 15), some (.ref 17), some (.ref 8), none, none, none, none, none]) rfl (by decide +kernel) rfl rfl ?_
  unfold f_X7_follow_18_15_17_8
  refine e_aload_n (dt dk_X7_follow 0 rfl) rfl ?_
  refine e_bipush (v := (-6 : Int32)) (dt dk_X7_follow 1 rfl) (by decide) ?_
  refine e_putI (ty := .int) ci_X7 (dt dk_X7_follow 2 rfl) rfl (by decide) rfl fl_X7_9 rfl (by decide +kernel) rfl rfl ?_
  refine e_aload_n (dt dk_X7_follow 3 rfl) rfl ?_
  refine e_bipush (v := (-6 : Int32)) (dt dk_X7_follow 4 rfl) (by decide) ?_
  refine e_putI (ty := .int) ci_X7 (dt dk_X7_follow 5 rfl) rfl (by decide) rfl fl_X7_15 rfl (by decide +kernel) rfl rfl ?_
  refine e_aload_n (dt dk_X7_follow 6 rfl) rfl ?_
  refine e_bipush (v := (-6 : Int32)) (dt dk_X7_follow 7 rfl) (by decide) ?_
  refine e_putI (ty := .int) ci_X7 (dt dk_X7_follow 8 rfl) rfl (by decide) rfl fl_X7_18 rfl (by decide +kernel) rfl rfl ?_
  refine e_aload_n (dt dk_X7_follow 9 rfl) rfl ?_
  refine e_bipush (v := (-6 : Int32)) (dt dk_X7_follow 10 rfl) (by decide) ?_
  refine e_putI (ty := .int) ci_X7 (dt dk_X7_follow 11 rfl) rfl (by decide) rfl fl_X7_21 rfl (by decide +kernel) rfl rfl ?_
  refine e_iconst (v := (0 : Int32)) (dt dk_X7_follow 12 rfl) (by decide) ?_
  refine e_istore [some (.ref 18), some (.ref 15), some (.ref 17), some (.ref 8), some (.int (0 : Int32)), none, none, none, none] (dt dk_X7_follow 13 rfl) rfl rfl rfl ?_
  refine e_aload_n (dt dk_X7_follow 14 rfl) rfl ?_
  refine ev_call (ca_V (k := 8) mv_X8_clearHouses (sp_X8_clearHouses_8 (up2 (up2 (up2 (up2 M 18 1 (-6 : Int32)) 18 2 (-6 : Int32)) 18 3 (-6 : Int32)) 18 4 (-6 : Int32))) (dt dk_X7_follow 15 rfl) ml_X7_24 rfl rfl rfl rfl rfl (by decide) : Ca _ _ _ _ _ _ _ _ [] _ _) (fun r1 hr1 => ?_)
  show Ev _ _ _ _ _ _ 31 [some (.ref 18), some (.ref 15), some (.ref 17), some (.ref 8), some (.int (0 : Int32)), none, none, none, none] [.int r1] (up2 (up2 (up2 (up2 M 18 1 (-6 : Int32)) 18 2 (-6 : Int32)) 18 3 (-6 : Int32)) 18 4 (-6 : Int32)) _
  refine e_istore [some (.ref 18), some (.ref 15), some (.ref 17), some (.ref 8), some (.int (0 : Int32)), some (.int r1), none, none, none] (dt dk_X7_follow 16 rfl) rfl rfl rfl ?_
  refine e_aload_n (dt dk_X7_follow 17 rfl) rfl ?_
  refine e_iconst (v := (0 : Int32)) (dt dk_X7_follow 18 rfl) (by decide) ?_
  refine e_putI (ty := .int) ci_X7 (dt dk_X7_follow 19 rfl) rfl (by decide) rfl fl_X7_30 rfl (by decide +kernel) rfl rfl ?_
  refine e_iconst (v := (0 : Int32)) (dt dk_X7_follow 20 rfl) (by decide) ?_
  refine e_istore [some (.ref 18), some (.ref 15), some (.ref 17), some (.ref 8), some (.int (0 : Int32)), some (.int r1), some (.int (0 : Int32)), none, none] (dt dk_X7_follow 21 rfl) rfl rfl rfl ?_
  exact e_forget [true, true, true, true, true, true, true, false, false] [some (.ref 18), some (.ref 15), some (.ref 17), some (.ref 8), some (.int (0 : Int32)), some (.int r1), some (.int (0 : Int32)), none, none] ⟨rfl, rfl⟩ (ev_lp_X7_follow_18_15_17_8_41 FU (0 : Int32) r1 (0 : Int32) (up2 (up2 (up2 (up2 (up2 M 18 1 (-6 : Int32)) 18 2 (-6 : Int32)) 18 3 (-6 : Int32)) 18 4 (-6 : Int32)) 18 0 (0 : Int32)))
-- X8_ofHouse_8 (R, depth 1)
def f_X8_ofHouse_8 (v1 : Int32) (v2 : Int32) (M : Mem) : Option Int32 :=
  (if (f_X9_isHouse v1) = 0 then some (-1 : Int32) else (if v2 = (0 : Int32) then if inb v1 8 then some (M 9 (ix v1)) else none else if v2 = (1 : Int32) then if inb v1 8 then some (M 10 (ix v1)) else none else if v2 = (2 : Int32) then if inb v1 8 then some (M 11 (ix v1)) else none else if inb v1 8 then some (M 12 (ix v1)) else none))
set_option maxRecDepth 20000 in
set_option maxHeartbeats 2000000 in
theorem sp_X8_ofHouse_8 (v1 : Int32) (v2 : Int32) (M : Mem) : SpO (wR M) yX8_ofHouse cX8_ofHouse 3 (some .int) 1 [.ref 8, .int v1, .int v2] M (f_X8_ofHouse_8 v1 v2 M) := by
  refine sp_of (L := [some (.ref 8), some (.int v1), some (.int v2)]) rfl (by decide +kernel) rfl rfl ?_
  unfold f_X8_ofHouse_8
  refine e_iload_n (dt dk_X8_ofHouse 0 rfl) rfl ?_
  refine ev_callT (ca_SN ms_X9_isHouse (sp_X9_isHouse v1 M) (dt dk_X8_ofHouse 1 rfl) mn_X8_46 rfl rfl rfl (by decide) : Ca _ _ _ _ _ _ _ _ [] _ _) ?_
  show Ev _ _ _ _ _ _ 4 [some (.ref 8), some (.int v1), some (.int v2)] [.int (f_X9_isHouse v1)] M _
  refine e_if_ne 9 (dt dk_X8_ofHouse 2 rfl) (by decide) (fun h1 => ?_) (fun h1 => ?_)
  · refine e_iconst (v := (-1 : Int32)) (dt dk_X8_ofHouse 3 rfl) (by decide) ?_
    exact e_iret (dt dk_X8_ofHouse 4 rfl) rfl rfl rfl
  · refine e_iload_n (dt dk_X8_ofHouse 5 rfl) rfl ?_
    refine e_split (fun h2 => ?_) (fun h2 => ?_)
    · refine e_tableIn 36 (dt dk_X8_ofHouse 6 rfl) (by rw [h2]; decide) (by rw [h2]; decide) (by rw [h2]; rfl) (by decide) ?_
      refine e_aload_n (dt dk_X8_ofHouse 7 rfl) rfl ?_
      refine e_getR ci_X8 (dt dk_X8_ofHouse 8 rfl) rfl (by decide) rfl fl_X8_9 ?_
      refine e_iload_n (dt dk_X8_ofHouse 9 rfl) rfl ?_
      refine e_if (fun h3 => ?_)
      refine e_iald' (v := (M 9 (ix v1))) (dt dk_X8_ofHouse 10 rfl) rfl h3 rfl ?_
      exact e_iret (dt dk_X8_ofHouse 11 rfl) rfl rfl rfl
    · skip
      refine e_split (fun h4 => ?_) (fun h4 => ?_)
      · refine e_tableIn 43 (dt dk_X8_ofHouse 6 rfl) (by rw [h4]; decide) (by rw [h4]; decide) (by rw [h4]; rfl) (by decide) ?_
        refine e_aload_n (dt dk_X8_ofHouse 12 rfl) rfl ?_
        refine e_getR ci_X8 (dt dk_X8_ofHouse 13 rfl) rfl (by decide) rfl fl_X8_15 ?_
        refine e_iload_n (dt dk_X8_ofHouse 14 rfl) rfl ?_
        refine e_if (fun h5 => ?_)
        refine e_iald' (v := (M 10 (ix v1))) (dt dk_X8_ofHouse 15 rfl) rfl h5 rfl ?_
        exact e_iret (dt dk_X8_ofHouse 16 rfl) rfl rfl rfl
      · skip
        refine e_split (fun h6 => ?_) (fun h6 => ?_)
        · refine e_tableIn 50 (dt dk_X8_ofHouse 6 rfl) (by rw [h6]; decide) (by rw [h6]; decide) (by rw [h6]; rfl) (by decide) ?_
          refine e_aload_n (dt dk_X8_ofHouse 17 rfl) rfl ?_
          refine e_getR ci_X8 (dt dk_X8_ofHouse 18 rfl) rfl (by decide) rfl fl_X8_18 ?_
          refine e_iload_n (dt dk_X8_ofHouse 19 rfl) rfl ?_
          refine e_if (fun h7 => ?_)
          refine e_iald' (v := (M 11 (ix v1))) (dt dk_X8_ofHouse 20 rfl) rfl h7 rfl ?_
          exact e_iret (dt dk_X8_ofHouse 21 rfl) rfl rfl rfl
        · skip
          refine e_tableOut 57 (dt dk_X8_ofHouse 6 rfl) (sw_out 2 (by simp only [List.range, List.range.loop, List.all_cons, List.all_nil]; simp [h2, h4, h6])) (by decide) ?_
          refine e_aload_n (dt dk_X8_ofHouse 22 rfl) rfl ?_
          refine e_getR ci_X8 (dt dk_X8_ofHouse 23 rfl) rfl (by decide) rfl fl_X8_21 ?_
          refine e_iload_n (dt dk_X8_ofHouse 24 rfl) rfl ?_
          refine e_if (fun h8 => ?_)
          refine e_iald' (v := (M 12 (ix v1))) (dt dk_X8_ofHouse 25 rfl) rfl h8 rfl ?_
          exact e_iret (dt dk_X8_ofHouse 26 rfl) rfl rfl rfl
-- X8_allDoubts_8 (R, depth 0)
def bd_X8_allDoubts_8_4 (M : Mem)  (K4 : Int32 → Int32 → Option Int32) (v1 : Int32) (v2 : Int32) : Option Int32 :=
  (if (8 : Int32) ≤ v2 then some v1 else if inb v2 8 then (K4 (v1 + (M 9 (ix v2))) (v2 + (1 : Int32))) else none)
set_option maxRecDepth 20000 in
set_option maxHeartbeats 2000000 in
theorem ev_bd_X8_allDoubts_8_4 (M : Mem)  (K4 : Int32 → Int32 → Option Int32)  (hK4 : ∀ (v1 : Int32) (v2 : Int32), Ev none (wR M) RX8 cX8_allDoubts (some .int) 0 4 [some (.ref 8), some (.int v1), some (.int v2)] [] M (K4 v1 v2)) (v1 : Int32) (v2 : Int32) : Ev none (wR M) RX8 cX8_allDoubts (some .int) 0 4 [some (.ref 8), some (.int v1), some (.int v2)] [] M (bd_X8_allDoubts_8_4 M K4 v1 v2) := by
  unfold bd_X8_allDoubts_8_4
  refine e_iload_n (dt dk_X8_allDoubts 4 rfl) rfl ?_
  refine e_bipush (v := (8 : Int32)) (dt dk_X8_allDoubts 5 rfl) (by decide) ?_
  refine e_icmp_ge 25 (dt dk_X8_allDoubts 6 rfl) (by decide) (fun h1 => ?_) (fun h1 => ?_)
  · refine e_iload_n (dt dk_X8_allDoubts 16 rfl) rfl ?_
    exact e_iret (dt dk_X8_allDoubts 17 rfl) rfl rfl rfl
  · refine e_iload_n (dt dk_X8_allDoubts 7 rfl) rfl ?_
    refine e_aload_n (dt dk_X8_allDoubts 8 rfl) rfl ?_
    refine e_getR ci_X8 (dt dk_X8_allDoubts 9 rfl) rfl (by decide) rfl fl_X8_9 ?_
    refine e_iload_n (dt dk_X8_allDoubts 10 rfl) rfl ?_
    refine e_if (fun h2 => ?_)
    refine e_iald' (v := (M 9 (ix v2))) (dt dk_X8_allDoubts 11 rfl) rfl h2 rfl ?_
    refine e_iadd (dt dk_X8_allDoubts 12 rfl) ?_
    refine e_istore_n [some (.ref 8), some (.int (v1 + (M 9 (ix v2)))), some (.int v2)] (dt dk_X8_allDoubts 13 rfl) rfl rfl rfl ?_
    refine e_iinc [some (.ref 8), some (.int (v1 + (M 9 (ix v2)))), some (.int (v2 + (1 : Int32)))] (dt dk_X8_allDoubts 14 rfl) rfl rfl rfl rfl ?_
    refine e_goto 4 (dt dk_X8_allDoubts 15 rfl) (by decide) ?_
    exact e_forget [true, true, true] [some (.ref 8), some (.int (v1 + (M 9 (ix v2)))), some (.int (v2 + (1 : Int32)))] ⟨rfl, rfl⟩ (hK4 (v1 + (M 9 (ix v2))) (v2 + (1 : Int32)))
def lp_X8_allDoubts_8_4 (M : Mem)  : Nat → Int32 → Int32 → Option Int32
  | 0 => fun _ _ => none
  | n + 1 => bd_X8_allDoubts_8_4 M (lp_X8_allDoubts_8_4 M n)
theorem ev_lp_X8_allDoubts_8_4 (M : Mem)   : ∀ (n : Nat), ∀ (v1 : Int32) (v2 : Int32), Ev none (wR M) RX8 cX8_allDoubts (some .int) 0 4 [some (.ref 8), some (.int v1), some (.int v2)] [] M (lp_X8_allDoubts_8_4 M n v1 v2)
  | 0 => fun _ _ => e_none
  | n + 1 => ev_bd_X8_allDoubts_8_4 M (lp_X8_allDoubts_8_4 M n) (ev_lp_X8_allDoubts_8_4 M n)
def f_X8_allDoubts_8  (M : Mem) : Option Int32 :=
  (lp_X8_allDoubts_8_4 M FU (0 : Int32) (0 : Int32))
set_option maxRecDepth 20000 in
set_option maxHeartbeats 2000000 in
theorem sp_X8_allDoubts_8  (M : Mem) : SpO (wR M) yX8_allDoubts cX8_allDoubts 3 (some .int) 0 [.ref 8] M (f_X8_allDoubts_8 M) := by
  refine sp_of (L := [some (.ref 8), none, none]) rfl (by decide +kernel) rfl rfl ?_
  unfold f_X8_allDoubts_8
  refine e_iconst (v := (0 : Int32)) (dt dk_X8_allDoubts 0 rfl) (by decide) ?_
  refine e_istore_n [some (.ref 8), some (.int (0 : Int32)), none] (dt dk_X8_allDoubts 1 rfl) rfl rfl rfl ?_
  refine e_iconst (v := (0 : Int32)) (dt dk_X8_allDoubts 2 rfl) (by decide) ?_
  refine e_istore_n [some (.ref 8), some (.int (0 : Int32)), some (.int (0 : Int32))] (dt dk_X8_allDoubts 3 rfl) rfl rfl rfl ?_
  exact e_forget [true, true, true] [some (.ref 8), some (.int (0 : Int32)), some (.int (0 : Int32))] ⟨rfl, rfl⟩ (ev_lp_X8_allDoubts_8_4 M FU (0 : Int32) (0 : Int32))
-- X8_become_1_8 (W, depth 1)
def f_X8_become_1_8  (M : Mem) : Option Mem :=
  some (up2 (up2 (up2 (upA (upA (upA (upA (upA M 2 (va_cpy (M 9) (M 2) 0 0 8)) 3 (va_cpy (M 10) (M 3) 0 0 8)) 4 (va_cpy (M 11) (M 4) 0 0 8)) 5 (va_cpy (M 12) (M 5) 0 0 8)) 6 (va_cpy (M 13) (M 6) 0 0 8)) 1 6 (M 8 6)) 1 7 (M 8 7)) 1 8 (M 8 8))
set_option maxRecDepth 20000 in
set_option maxHeartbeats 2000000 in
theorem sp_X8_become_1_8  (M : Mem) : SpO wV yX8_become cX8_become 2 none 1 [.ref 1, .ref 8] M (f_X8_become_1_8 M) := by
  refine sp_of (L := [some (.ref 1), some (.ref 8)]) rfl (by decide +kernel) rfl rfl ?_
  unfold f_X8_become_1_8
  refine e_aload_n (dt dk_X8_become 0 rfl) rfl ?_
  refine e_getR ci_X8 (dt dk_X8_become 1 rfl) rfl (by decide) rfl fl_X8_9 ?_
  refine e_iconst (v := (0 : Int32)) (dt dk_X8_become 2 rfl) (by decide) ?_
  refine e_aload_n (dt dk_X8_become 3 rfl) rfl ?_
  refine e_getR ci_X8 (dt dk_X8_become 4 rfl) rfl (by decide) rfl fl_X8_9 ?_
  refine e_iconst (v := (0 : Int32)) (dt dk_X8_become 5 rfl) (by decide) ?_
  refine e_bipush (v := (8 : Int32)) (dt dk_X8_become 6 rfl) (by decide) ?_
  refine e_copy ok_copy (dt dk_X8_become 7 rfl) ml_X8_34 rfl rfl (by decide) (by decide) (by decide) (by decide) (by decide) rfl (by decide) ?_
  show Ev _ _ _ _ _ _ 15 [some (.ref 1), some (.ref 8)] [] (upA M 2 (va_cpy (M 9) (M 2) 0 0 8)) _
  refine e_aload_n (dt dk_X8_become 8 rfl) rfl ?_
  refine e_getR ci_X8 (dt dk_X8_become 9 rfl) rfl (by decide) rfl fl_X8_15 ?_
  refine e_iconst (v := (0 : Int32)) (dt dk_X8_become 10 rfl) (by decide) ?_
  refine e_aload_n (dt dk_X8_become 11 rfl) rfl ?_
  refine e_getR ci_X8 (dt dk_X8_become 12 rfl) rfl (by decide) rfl fl_X8_15 ?_
  refine e_iconst (v := (0 : Int32)) (dt dk_X8_become 13 rfl) (by decide) ?_
  refine e_bipush (v := (8 : Int32)) (dt dk_X8_become 14 rfl) (by decide) ?_
  refine e_copy ok_copy (dt dk_X8_become 15 rfl) ml_X8_34 rfl rfl (by decide) (by decide) (by decide) (by decide) (by decide) rfl (by decide) ?_
  show Ev _ _ _ _ _ _ 30 [some (.ref 1), some (.ref 8)] [] (upA (upA M 2 (va_cpy (M 9) (M 2) 0 0 8)) 3 (va_cpy (M 10) (M 3) 0 0 8)) _
  refine e_aload_n (dt dk_X8_become 16 rfl) rfl ?_
  refine e_getR ci_X8 (dt dk_X8_become 17 rfl) rfl (by decide) rfl fl_X8_18 ?_
  refine e_iconst (v := (0 : Int32)) (dt dk_X8_become 18 rfl) (by decide) ?_
  refine e_aload_n (dt dk_X8_become 19 rfl) rfl ?_
  refine e_getR ci_X8 (dt dk_X8_become 20 rfl) rfl (by decide) rfl fl_X8_18 ?_
  refine e_iconst (v := (0 : Int32)) (dt dk_X8_become 21 rfl) (by decide) ?_
  refine e_bipush (v := (8 : Int32)) (dt dk_X8_become 22 rfl) (by decide) ?_
  refine e_copy ok_copy (dt dk_X8_become 23 rfl) ml_X8_34 rfl rfl (by decide) (by decide) (by decide) (by decide) (by decide) rfl (by decide) ?_
  show Ev _ _ _ _ _ _ 45 [some (.ref 1), some (.ref 8)] [] (upA (upA (upA M 2 (va_cpy (M 9) (M 2) 0 0 8)) 3 (va_cpy (M 10) (M 3) 0 0 8)) 4 (va_cpy (M 11) (M 4) 0 0 8)) _
  refine e_aload_n (dt dk_X8_become 24 rfl) rfl ?_
  refine e_getR ci_X8 (dt dk_X8_become 25 rfl) rfl (by decide) rfl fl_X8_21 ?_
  refine e_iconst (v := (0 : Int32)) (dt dk_X8_become 26 rfl) (by decide) ?_
  refine e_aload_n (dt dk_X8_become 27 rfl) rfl ?_
  refine e_getR ci_X8 (dt dk_X8_become 28 rfl) rfl (by decide) rfl fl_X8_21 ?_
  refine e_iconst (v := (0 : Int32)) (dt dk_X8_become 29 rfl) (by decide) ?_
  refine e_bipush (v := (8 : Int32)) (dt dk_X8_become 30 rfl) (by decide) ?_
  refine e_copy ok_copy (dt dk_X8_become 31 rfl) ml_X8_34 rfl rfl (by decide) (by decide) (by decide) (by decide) (by decide) rfl (by decide) ?_
  show Ev _ _ _ _ _ _ 60 [some (.ref 1), some (.ref 8)] [] (upA (upA (upA (upA M 2 (va_cpy (M 9) (M 2) 0 0 8)) 3 (va_cpy (M 10) (M 3) 0 0 8)) 4 (va_cpy (M 11) (M 4) 0 0 8)) 5 (va_cpy (M 12) (M 5) 0 0 8)) _
  refine e_aload_n (dt dk_X8_become 32 rfl) rfl ?_
  refine e_getR ci_X8 (dt dk_X8_become 33 rfl) rfl (by decide) rfl fl_X8_24 ?_
  refine e_iconst (v := (0 : Int32)) (dt dk_X8_become 34 rfl) (by decide) ?_
  refine e_aload_n (dt dk_X8_become 35 rfl) rfl ?_
  refine e_getR ci_X8 (dt dk_X8_become 36 rfl) rfl (by decide) rfl fl_X8_24 ?_
  refine e_iconst (v := (0 : Int32)) (dt dk_X8_become 37 rfl) (by decide) ?_
  refine e_bipush (v := (8 : Int32)) (dt dk_X8_become 38 rfl) (by decide) ?_
  refine e_copy ok_copy (dt dk_X8_become 39 rfl) ml_X8_34 rfl rfl (by decide) (by decide) (by decide) (by decide) (by decide) rfl (by decide) ?_
  show Ev _ _ _ _ _ _ 75 [some (.ref 1), some (.ref 8)] [] (upA (upA (upA (upA (upA M 2 (va_cpy (M 9) (M 2) 0 0 8)) 3 (va_cpy (M 10) (M 3) 0 0 8)) 4 (va_cpy (M 11) (M 4) 0 0 8)) 5 (va_cpy (M 12) (M 5) 0 0 8)) 6 (va_cpy (M 13) (M 6) 0 0 8)) _
  refine e_aload_n (dt dk_X8_become 40 rfl) rfl ?_
  refine e_aload_n (dt dk_X8_become 41 rfl) rfl ?_
  refine e_getI (v := (M 8 6)) ci_X8 (dt dk_X8_become 42 rfl) rfl (by decide) rfl fl_X8_30 rfl ?_
  refine e_putI (ty := .int) ci_X8 (dt dk_X8_become 43 rfl) rfl (by decide) rfl fl_X8_30 rfl (by decide +kernel) rfl rfl ?_
  refine e_aload_n (dt dk_X8_become 44 rfl) rfl ?_
  refine e_aload_n (dt dk_X8_become 45 rfl) rfl ?_
  refine e_getI (v := (M 8 7)) ci_X8 (dt dk_X8_become 46 rfl) rfl (by decide) rfl fl_X8_40 rfl ?_
  refine e_putI (ty := .int) ci_X8 (dt dk_X8_become 47 rfl) rfl (by decide) rfl fl_X8_40 rfl (by decide +kernel) rfl rfl ?_
  refine e_aload_n (dt dk_X8_become 48 rfl) rfl ?_
  refine e_aload_n (dt dk_X8_become 49 rfl) rfl ?_
  refine e_getI (v := (M 8 8)) ci_X8 (dt dk_X8_become 50 rfl) rfl (by decide) rfl fl_X8_43 rfl ?_
  refine e_putI (ty := .int) ci_X8 (dt dk_X8_become 51 rfl) rfl (by decide) rfl fl_X8_43 rfl (by decide +kernel) rfl rfl ?_
  exact e_vret (dt dk_X8_become 52 rfl) rfl rfl
-- X8_holesAllMeet_1 (R, depth 0)
def bd_X8_holesAllMeet_1_2 (M : Mem)  (K2 : Int32 → Int32 → Option Int32) (v1 : Int32) (v2 : Int32) : Option Int32 :=
  (if (8 : Int32) ≤ v2 then some (1 : Int32) else (if ((v1 >>> (v2 &&& 31)) &&& (1 : Int32)) = 0 then if inb v2 8 then (if ((M 6 (ix v2)) &&& (v1 ^^^ (-1 : Int32))) = 0 then (K2 v1 (v2 + (1 : Int32))) else some (0 : Int32)) else none else (K2 v1 (v2 + (1 : Int32)))))
set_option maxRecDepth 20000 in
set_option maxHeartbeats 2000000 in
theorem ev_bd_X8_holesAllMeet_1_2 (M : Mem)  (K2 : Int32 → Int32 → Option Int32)  (hK2 : ∀ (v1 : Int32) (v2 : Int32), Ev none (wR M) RX8 cX8_holesAllMeet (some .boolean) 0 2 [some (.ref 1), some (.int v1), some (.int v2)] [] M (K2 v1 v2)) (v1 : Int32) (v2 : Int32) : Ev none (wR M) RX8 cX8_holesAllMeet (some .boolean) 0 2 [some (.ref 1), some (.int v1), some (.int v2)] [] M (bd_X8_holesAllMeet_1_2 M K2 v1 v2) := by
  unfold bd_X8_holesAllMeet_1_2
  refine e_iload_n (dt dk_X8_holesAllMeet 2 rfl) rfl ?_
  refine e_bipush (v := (8 : Int32)) (dt dk_X8_holesAllMeet 3 rfl) (by decide) ?_
  refine e_icmp_ge 37 (dt dk_X8_holesAllMeet 4 rfl) (by decide) (fun h1 => ?_) (fun h1 => ?_)
  · refine e_iconst (v := (1 : Int32)) (dt dk_X8_holesAllMeet 24 rfl) (by decide) ?_
    exact e_iret (dt dk_X8_holesAllMeet 25 rfl) rfl rfl rfl
  · refine e_iload_n (dt dk_X8_holesAllMeet 5 rfl) rfl ?_
    refine e_iload_n (dt dk_X8_holesAllMeet 6 rfl) rfl ?_
    refine e_ishr (dt dk_X8_holesAllMeet 7 rfl) ?_
    refine e_iconst (v := (1 : Int32)) (dt dk_X8_holesAllMeet 8 rfl) (by decide) ?_
    refine e_iand (dt dk_X8_holesAllMeet 9 rfl) ?_
    refine e_if_ne 31 (dt dk_X8_holesAllMeet 10 rfl) (by decide) (fun h2 => ?_) (fun h2 => ?_)
    · refine e_aload_n (dt dk_X8_holesAllMeet 11 rfl) rfl ?_
      refine e_getR ci_X8 (dt dk_X8_holesAllMeet 12 rfl) rfl (by decide) rfl fl_X8_24 ?_
      refine e_iload_n (dt dk_X8_holesAllMeet 13 rfl) rfl ?_
      refine e_if (fun h3 => ?_)
      refine e_iald' (v := (M 6 (ix v2))) (dt dk_X8_holesAllMeet 14 rfl) rfl h3 rfl ?_
      refine e_iload_n (dt dk_X8_holesAllMeet 15 rfl) rfl ?_
      refine e_iconst (v := (-1 : Int32)) (dt dk_X8_holesAllMeet 16 rfl) (by decide) ?_
      refine e_ixor (dt dk_X8_holesAllMeet 17 rfl) ?_
      refine e_iand (dt dk_X8_holesAllMeet 18 rfl) ?_
      refine e_if_eq 31 (dt dk_X8_holesAllMeet 19 rfl) (by decide) (fun h4 => ?_) (fun h4 => ?_)
      · refine e_iinc [some (.ref 1), some (.int v1), some (.int (v2 + (1 : Int32)))] (dt dk_X8_holesAllMeet 22 rfl) rfl rfl rfl rfl ?_
        refine e_goto 2 (dt dk_X8_holesAllMeet 23 rfl) (by decide) ?_
        exact e_forget [true, true, true] [some (.ref 1), some (.int v1), some (.int (v2 + (1 : Int32)))] ⟨rfl, rfl⟩ (hK2 v1 (v2 + (1 : Int32)))
      · refine e_iconst (v := (0 : Int32)) (dt dk_X8_holesAllMeet 20 rfl) (by decide) ?_
        exact e_iret (dt dk_X8_holesAllMeet 21 rfl) rfl rfl rfl
    · refine e_iinc [some (.ref 1), some (.int v1), some (.int (v2 + (1 : Int32)))] (dt dk_X8_holesAllMeet 22 rfl) rfl rfl rfl rfl ?_
      refine e_goto 2 (dt dk_X8_holesAllMeet 23 rfl) (by decide) ?_
      exact e_forget [true, true, true] [some (.ref 1), some (.int v1), some (.int (v2 + (1 : Int32)))] ⟨rfl, rfl⟩ (hK2 v1 (v2 + (1 : Int32)))
def lp_X8_holesAllMeet_1_2 (M : Mem)  : Nat → Int32 → Int32 → Option Int32
  | 0 => fun _ _ => none
  | n + 1 => bd_X8_holesAllMeet_1_2 M (lp_X8_holesAllMeet_1_2 M n)
theorem ev_lp_X8_holesAllMeet_1_2 (M : Mem)   : ∀ (n : Nat), ∀ (v1 : Int32) (v2 : Int32), Ev none (wR M) RX8 cX8_holesAllMeet (some .boolean) 0 2 [some (.ref 1), some (.int v1), some (.int v2)] [] M (lp_X8_holesAllMeet_1_2 M n v1 v2)
  | 0 => fun _ _ => e_none
  | n + 1 => ev_bd_X8_holesAllMeet_1_2 M (lp_X8_holesAllMeet_1_2 M n) (ev_lp_X8_holesAllMeet_1_2 M n)
def f_X8_holesAllMeet_1 (v1 : Int32) (M : Mem) : Option Int32 :=
  (lp_X8_holesAllMeet_1_2 M FU v1 (0 : Int32))
set_option maxRecDepth 20000 in
set_option maxHeartbeats 2000000 in
theorem sp_X8_holesAllMeet_1 (v1 : Int32) (M : Mem) : SpO (wR M) yX8_holesAllMeet cX8_holesAllMeet 3 (some .boolean) 0 [.ref 1, .int v1] M (f_X8_holesAllMeet_1 v1 M) := by
  refine sp_of (L := [some (.ref 1), some (.int v1), none]) rfl (by decide +kernel) rfl rfl ?_
  unfold f_X8_holesAllMeet_1
  refine e_iconst (v := (0 : Int32)) (dt dk_X8_holesAllMeet 0 rfl) (by decide) ?_
  refine e_istore_n [some (.ref 1), some (.int v1), some (.int (0 : Int32))] (dt dk_X8_holesAllMeet 1 rfl) rfl rfl rfl ?_
  exact e_forget [true, true, true] [some (.ref 1), some (.int v1), some (.int (0 : Int32))] ⟨rfl, rfl⟩ (ev_lp_X8_holesAllMeet_1_2 M FU v1 (0 : Int32))
-- X2_offer_25 (W, depth 0)
def lb_X2_offer_25_30  (v1 : Int32) (v2 : Int32) (v3 : Int32) (M : Mem) : Option Mem :=
  if inb v1 100 then if inb v1 100 then some (up2 (up2 M 26 (ix v1) v2) 27 (ix v1) v3) else none else none
set_option maxRecDepth 20000 in
set_option maxHeartbeats 2000000 in
theorem ev_lb_X2_offer_25_30   (v1 : Int32) (v2 : Int32) (v3 : Int32) (M : Mem) : Ev none wV RX2 cX2_offer none 0 30 [some (.ref 25), some (.int v1), some (.int v2), some (.int v3)] [] M (lb_X2_offer_25_30 v1 v2 v3 M) := by
  unfold lb_X2_offer_25_30
  refine e_aload_n (dt dk_X2_offer 18 rfl) rfl ?_
  refine e_getR ci_X2 (dt dk_X2_offer 19 rfl) rfl (by decide) rfl fl_X2_11 ?_
  refine e_iload_n (dt dk_X2_offer 20 rfl) rfl ?_
  refine e_iload_n (dt dk_X2_offer 21 rfl) rfl ?_
  refine e_if (fun h3 => ?_)
  refine e_iast' (dt dk_X2_offer 22 rfl) rfl h3 ?_
  refine e_aload_n (dt dk_X2_offer 23 rfl) rfl ?_
  refine e_getR ci_X2 (dt dk_X2_offer 24 rfl) rfl (by decide) rfl fl_X2_15 ?_
  refine e_iload_n (dt dk_X2_offer 25 rfl) rfl ?_
  refine e_iload_n (dt dk_X2_offer 26 rfl) rfl ?_
  refine e_if (fun h4 => ?_)
  refine e_iast' (dt dk_X2_offer 27 rfl) rfl h4 ?_
  exact e_vret (dt dk_X2_offer 28 rfl) rfl rfl
def f_X2_offer_25 (v1 : Int32) (v2 : Int32) (v3 : Int32) (M : Mem) : Option Mem :=
  if inb v1 100 then (if (M 26 (ix v1)) < v2 then (lb_X2_offer_25_30 v1 v2 v3 M) else if inb v1 100 then (if v2 = (M 26 (ix v1)) then if inb v1 100 then (if (M 27 (ix v1)) ≤ v3 then some M else (lb_X2_offer_25_30 v1 v2 v3 M)) else none else some M) else none) else none
set_option maxRecDepth 20000 in
set_option maxHeartbeats 2000000 in
theorem sp_X2_offer_25 (v1 : Int32) (v2 : Int32) (v3 : Int32) (M : Mem) : SpO wV yX2_offer cX2_offer 4 none 0 [.ref 25, .int v1, .int v2, .int v3] M (f_X2_offer_25 v1 v2 v3 M) := by
  refine sp_of (L := [some (.ref 25), some (.int v1), some (.int v2), some (.int v3)]) rfl (by decide +kernel) rfl rfl ?_
  unfold f_X2_offer_25
  refine e_iload_n (dt dk_X2_offer 0 rfl) rfl ?_
  refine e_aload_n (dt dk_X2_offer 1 rfl) rfl ?_
  refine e_getR ci_X2 (dt dk_X2_offer 2 rfl) rfl (by decide) rfl fl_X2_11 ?_
  refine e_iload_n (dt dk_X2_offer 3 rfl) rfl ?_
  refine e_if (fun h1 => ?_)
  refine e_iald' (v := (M 26 (ix v1))) (dt dk_X2_offer 4 rfl) rfl h1 rfl ?_
  refine e_icmp_gt 30 (dt dk_X2_offer 5 rfl) (by decide) (fun h2 => ?_) (fun h2 => ?_)
  · exact e_forget [true, true, true, true] [some (.ref 25), some (.int v1), some (.int v2), some (.int v3)] ⟨rfl, rfl⟩ (ev_lb_X2_offer_25_30 v1 v2 v3 M)
  · refine e_iload_n (dt dk_X2_offer 6 rfl) rfl ?_
    refine e_aload_n (dt dk_X2_offer 7 rfl) rfl ?_
    refine e_getR ci_X2 (dt dk_X2_offer 8 rfl) rfl (by decide) rfl fl_X2_11 ?_
    refine e_iload_n (dt dk_X2_offer 9 rfl) rfl ?_
    refine e_if (fun h5 => ?_)
    refine e_iald' (v := (M 26 (ix v1))) (dt dk_X2_offer 10 rfl) rfl h5 rfl ?_
    refine e_icmp_ne 44 (dt dk_X2_offer 11 rfl) (by decide) (fun h6 => ?_) (fun h6 => ?_)
    · refine e_iload_n (dt dk_X2_offer 12 rfl) rfl ?_
      refine e_aload_n (dt dk_X2_offer 13 rfl) rfl ?_
      refine e_getR ci_X2 (dt dk_X2_offer 14 rfl) rfl (by decide) rfl fl_X2_15 ?_
      refine e_iload_n (dt dk_X2_offer 15 rfl) rfl ?_
      refine e_if (fun h7 => ?_)
      refine e_iald' (v := (M 27 (ix v1))) (dt dk_X2_offer 16 rfl) rfl h7 rfl ?_
      refine e_icmp_ge 44 (dt dk_X2_offer 17 rfl) (by decide) (fun h8 => ?_) (fun h8 => ?_)
      · exact e_vret (dt dk_X2_offer 28 rfl) rfl rfl
      · exact e_forget [true, true, true, true] [some (.ref 25), some (.int v1), some (.int v2), some (.int v3)] ⟨rfl, rfl⟩ (ev_lb_X2_offer_25_30 v1 v2 v3 M)
    · exact e_vret (dt dk_X2_offer 28 rfl) rfl rfl
-- X2_compare_25 (W, depth 1)
def f_X2_compare_25 (v1 : Int32) (v2 : Int32) (v3 : Int32) (M : Mem) : Option Mem :=
  (if (f_X9_within v1 (11 : Int32) (99 : Int32)) = 0 then some M else if inb (v1 - (1 : Int32)) 100 then if inb v1 100 then if inb (v1 - (1 : Int32)) 100 then if inb v1 100 then if inb (v1 - (10 : Int32)) 100 then if inb (v1 - (10 : Int32)) 100 then ((f_X2_offer_25 v1 ((up2 M 26 (ix v1) (M 26 (ix (v1 - (1 : Int32))))) 26 (ix (v1 - (10 : Int32)))) ((up2 (up2 M 26 (ix v1) (M 26 (ix (v1 - (1 : Int32))))) 27 (ix v1) (M 27 (ix (v1 - (1 : Int32))))) 27 (ix (v1 - (10 : Int32)))) (up2 (up2 M 26 (ix v1) (M 26 (ix (v1 - (1 : Int32))))) 27 (ix v1) (M 27 (ix (v1 - (1 : Int32))))))).bind fun q8 => if inb ((v1 - (10 : Int32)) - (1 : Int32)) 100 then (if v2 = v3 then (if (f_X9_within (q8 26 (ix ((v1 - (10 : Int32)) - (1 : Int32)))) (0 : Int32) (8 : Int32)) = 0 then some q8 else if inb (q8 26 (ix ((v1 - (10 : Int32)) - (1 : Int32)))) 10 then if inb ((v1 - (10 : Int32)) - (1 : Int32)) 100 then ((f_X2_offer_25 v1 ((q8 26 (ix ((v1 - (10 : Int32)) - (1 : Int32)))) + (1 : Int32)) ((v2 * (tensF (ix (q8 26 (ix ((v1 - (10 : Int32)) - (1 : Int32))))))) + (q8 27 (ix ((v1 - (10 : Int32)) - (1 : Int32))))) q8)).bind fun q14 => some q14 else none else none) else some q8) else none else none else none else none else none else none else none)
set_option maxRecDepth 20000 in
set_option maxHeartbeats 2000000 in
theorem sp_X2_compare_25 (v1 : Int32) (v2 : Int32) (v3 : Int32) (M : Mem) : SpO wV yX2_compare cX2_compare 5 none 1 [.ref 25, .int v1, .int v2, .int v3] M (f_X2_compare_25 v1 v2 v3 M) := by
  refine sp_of (L := [some (.ref 25), some (.int v1), some (.int v2), some (.int v3), none]) rfl (by decide +kernel) rfl rfl ?_
  unfold f_X2_compare_25
  refine e_iload_n (dt dk_X2_compare 0 rfl) rfl ?_
  refine e_bipush (v := (11 : Int32)) (dt dk_X2_compare 1 rfl) (by decide) ?_
  refine e_bipush (v := (99 : Int32)) (dt dk_X2_compare 2 rfl) (by decide) ?_
  refine ev_callT (ca_SN ms_X9_within (sp_X9_within v1 (11 : Int32) (99 : Int32) M) (dt dk_X2_compare 3 rfl) mn_X2_29 rfl rfl rfl (by decide) : Ca _ _ _ _ _ _ _ _ [] _ _) ?_
  show Ev _ _ _ _ _ _ 8 [some (.ref 25), some (.int v1), some (.int v2), some (.int v3), none] [.int (f_X9_within v1 (11 : Int32) (99 : Int32))] M _
  refine e_if_ne 12 (dt dk_X2_compare 4 rfl) (by decide) (fun h1 => ?_) (fun h1 => ?_)
  · exact e_vret (dt dk_X2_compare 5 rfl) rfl rfl
  · refine e_aload_n (dt dk_X2_compare 6 rfl) rfl ?_
    refine e_getR ci_X2 (dt dk_X2_compare 7 rfl) rfl (by decide) rfl fl_X2_11 ?_
    refine e_iload_n (dt dk_X2_compare 8 rfl) rfl ?_
    refine e_aload_n (dt dk_X2_compare 9 rfl) rfl ?_
    refine e_getR ci_X2 (dt dk_X2_compare 10 rfl) rfl (by decide) rfl fl_X2_11 ?_
    refine e_iload_n (dt dk_X2_compare 11 rfl) rfl ?_
    refine e_iconst (v := (1 : Int32)) (dt dk_X2_compare 12 rfl) (by decide) ?_
    refine e_isub (dt dk_X2_compare 13 rfl) ?_
    refine e_if (fun h2 => ?_)
    refine e_iald' (v := (M 26 (ix (v1 - (1 : Int32))))) (dt dk_X2_compare 14 rfl) rfl h2 rfl ?_
    refine e_if (fun h3 => ?_)
    refine e_iast' (dt dk_X2_compare 15 rfl) rfl h3 ?_
    refine e_aload_n (dt dk_X2_compare 16 rfl) rfl ?_
    refine e_getR ci_X2 (dt dk_X2_compare 17 rfl) rfl (by decide) rfl fl_X2_15 ?_
    refine e_iload_n (dt dk_X2_compare 18 rfl) rfl ?_
    refine e_aload_n (dt dk_X2_compare 19 rfl) rfl ?_
    refine e_getR ci_X2 (dt dk_X2_compare 20 rfl) rfl (by decide) rfl fl_X2_15 ?_
    refine e_iload_n (dt dk_X2_compare 21 rfl) rfl ?_
    refine e_iconst (v := (1 : Int32)) (dt dk_X2_compare 22 rfl) (by decide) ?_
    refine e_isub (dt dk_X2_compare 23 rfl) ?_
    refine e_if (fun h4 => ?_)
    refine e_iald' (v := (M 27 (ix (v1 - (1 : Int32))))) (dt dk_X2_compare 24 rfl) rfl h4 rfl ?_
    refine e_if (fun h5 => ?_)
    refine e_iast' (dt dk_X2_compare 25 rfl) rfl h5 ?_
    refine e_aload_n (dt dk_X2_compare 26 rfl) rfl ?_
    refine e_iload_n (dt dk_X2_compare 27 rfl) rfl ?_
    refine e_aload_n (dt dk_X2_compare 28 rfl) rfl ?_
    refine e_getR ci_X2 (dt dk_X2_compare 29 rfl) rfl (by decide) rfl fl_X2_11 ?_
    refine e_iload_n (dt dk_X2_compare 30 rfl) rfl ?_
    refine e_bipush (v := (10 : Int32)) (dt dk_X2_compare 31 rfl) (by decide) ?_
    refine e_isub (dt dk_X2_compare 32 rfl) ?_
    refine e_if (fun h6 => ?_)
    refine e_iald' (v := ((up2 M 26 (ix v1) (M 26 (ix (v1 - (1 : Int32))))) 26 (ix (v1 - (10 : Int32))))) (dt dk_X2_compare 33 rfl) rfl h6 rfl ?_
    refine e_aload_n (dt dk_X2_compare 34 rfl) rfl ?_
    refine e_getR ci_X2 (dt dk_X2_compare 35 rfl) rfl (by decide) rfl fl_X2_15 ?_
    refine e_iload_n (dt dk_X2_compare 36 rfl) rfl ?_
    refine e_bipush (v := (10 : Int32)) (dt dk_X2_compare 37 rfl) (by decide) ?_
    refine e_isub (dt dk_X2_compare 38 rfl) ?_
    refine e_if (fun h7 => ?_)
    refine e_iald' (v := ((up2 (up2 M 26 (ix v1) (M 26 (ix (v1 - (1 : Int32))))) 27 (ix v1) (M 27 (ix (v1 - (1 : Int32))))) 27 (ix (v1 - (10 : Int32))))) (dt dk_X2_compare 39 rfl) rfl h7 rfl ?_
    refine ev_call (ca_V (k := 25) mv_X2_offer (sp_X2_offer_25 v1 ((up2 M 26 (ix v1) (M 26 (ix (v1 - (1 : Int32))))) 26 (ix (v1 - (10 : Int32)))) ((up2 (up2 M 26 (ix v1) (M 26 (ix (v1 - (1 : Int32))))) 27 (ix v1) (M 27 (ix (v1 - (1 : Int32))))) 27 (ix (v1 - (10 : Int32)))) (up2 (up2 M 26 (ix v1) (M 26 (ix (v1 - (1 : Int32))))) 27 (ix v1) (M 27 (ix (v1 - (1 : Int32)))))) (dt dk_X2_compare 40 rfl) ml_X2_33 rfl rfl rfl rfl rfl (by decide) : Ca _ _ _ _ _ _ _ _ [] _ _) (fun q8 hq8 => ?_)
    show Ev _ _ _ _ _ _ 63 [some (.ref 25), some (.int v1), some (.int v2), some (.int v3), none] [] q8 _
    refine e_aload_n (dt dk_X2_compare 41 rfl) rfl ?_
    refine e_getR ci_X2 (dt dk_X2_compare 42 rfl) rfl (by decide) rfl fl_X2_11 ?_
    refine e_iload_n (dt dk_X2_compare 43 rfl) rfl ?_
    refine e_bipush (v := (10 : Int32)) (dt dk_X2_compare 44 rfl) (by decide) ?_
    refine e_isub (dt dk_X2_compare 45 rfl) ?_
    refine e_iconst (v := (1 : Int32)) (dt dk_X2_compare 46 rfl) (by decide) ?_
    refine e_isub (dt dk_X2_compare 47 rfl) ?_
    refine e_if (fun h9 => ?_)
    refine e_iald' (v := (q8 26 (ix ((v1 - (10 : Int32)) - (1 : Int32))))) (dt dk_X2_compare 48 rfl) rfl h9 rfl ?_
    refine e_istore [some (.ref 25), some (.int v1), some (.int v2), some (.int v3), some (.int (q8 26 (ix ((v1 - (10 : Int32)) - (1 : Int32)))))] (dt dk_X2_compare 49 rfl) rfl rfl rfl ?_
    refine e_iload_n (dt dk_X2_compare 50 rfl) rfl ?_
    refine e_iload_n (dt dk_X2_compare 51 rfl) rfl ?_
    refine e_icmp_ne 121 (dt dk_X2_compare 52 rfl) (by decide) (fun h10 => ?_) (fun h10 => ?_)
    · refine e_iload (dt dk_X2_compare 53 rfl) rfl ?_
      refine e_iconst (v := (0 : Int32)) (dt dk_X2_compare 54 rfl) (by decide) ?_
      refine e_bipush (v := (8 : Int32)) (dt dk_X2_compare 55 rfl) (by decide) ?_
      refine ev_callT (ca_SN ms_X9_within (sp_X9_within (q8 26 (ix ((v1 - (10 : Int32)) - (1 : Int32)))) (0 : Int32) (8 : Int32) q8) (dt dk_X2_compare 56 rfl) mn_X2_29 rfl rfl rfl (by decide) : Ca _ _ _ _ _ _ _ _ [] _ _) ?_
      show Ev _ _ _ _ _ _ 89 [some (.ref 25), some (.int v1), some (.int v2), some (.int v3), some (.int (q8 26 (ix ((v1 - (10 : Int32)) - (1 : Int32)))))] [.int (f_X9_within (q8 26 (ix ((v1 - (10 : Int32)) - (1 : Int32)))) (0 : Int32) (8 : Int32))] q8 _
      refine e_if_eq 121 (dt dk_X2_compare 57 rfl) (by decide) (fun h11 => ?_) (fun h11 => ?_)
      · exact e_vret (dt dk_X2_compare 78 rfl) rfl rfl
      · refine e_aload_n (dt dk_X2_compare 58 rfl) rfl ?_
        refine e_iload_n (dt dk_X2_compare 59 rfl) rfl ?_
        refine e_iload (dt dk_X2_compare 60 rfl) rfl ?_
        refine e_iconst (v := (1 : Int32)) (dt dk_X2_compare 61 rfl) (by decide) ?_
        refine e_iadd (dt dk_X2_compare 62 rfl) ?_
        refine e_iload_n (dt dk_X2_compare 63 rfl) rfl ?_
        refine e_getsTN (dt dk_X2_compare 64 rfl) fn_X2_36 ?_
        refine e_iload (dt dk_X2_compare 65 rfl) rfl ?_
        refine e_if (fun h12 => ?_)
        refine e_iaT' (dt dk_X2_compare 66 rfl) h12 ?_
        refine e_imul (dt dk_X2_compare 67 rfl) ?_
        refine e_aload_n (dt dk_X2_compare 68 rfl) rfl ?_
        refine e_getR ci_X2 (dt dk_X2_compare 69 rfl) rfl (by decide) rfl fl_X2_15 ?_
        refine e_iload_n (dt dk_X2_compare 70 rfl) rfl ?_
        refine e_bipush (v := (10 : Int32)) (dt dk_X2_compare 71 rfl) (by decide) ?_
        refine e_isub (dt dk_X2_compare 72 rfl) ?_
        refine e_iconst (v := (1 : Int32)) (dt dk_X2_compare 73 rfl) (by decide) ?_
        refine e_isub (dt dk_X2_compare 74 rfl) ?_
        refine e_if (fun h13 => ?_)
        refine e_iald' (v := (q8 27 (ix ((v1 - (10 : Int32)) - (1 : Int32))))) (dt dk_X2_compare 75 rfl) rfl h13 rfl ?_
        refine e_iadd (dt dk_X2_compare 76 rfl) ?_
        refine ev_call (ca_V (k := 25) mv_X2_offer (sp_X2_offer_25 v1 ((q8 26 (ix ((v1 - (10 : Int32)) - (1 : Int32)))) + (1 : Int32)) ((v2 * (tensF (ix (q8 26 (ix ((v1 - (10 : Int32)) - (1 : Int32))))))) + (q8 27 (ix ((v1 - (10 : Int32)) - (1 : Int32))))) q8) (dt dk_X2_compare 77 rfl) ml_X2_33 rfl rfl rfl rfl rfl (by decide) : Ca _ _ _ _ _ _ _ _ [] _ _) (fun q14 hq14 => ?_)
        show Ev _ _ _ _ _ _ 121 [some (.ref 25), some (.int v1), some (.int v2), some (.int v3), some (.int (q8 26 (ix ((v1 - (10 : Int32)) - (1 : Int32)))))] [] q14 _
        exact e_vret (dt dk_X2_compare 78 rfl) rfl rfl
    · exact e_vret (dt dk_X2_compare 78 rfl) rfl rfl
-- X2_listen_25 (W, depth 2)
def lb_X2_listen_25_86  (v3 : Int32) (M : Mem) : Option Mem :=
  (if (f_X9_within v3 (1 : Int32) (9 : Int32)) = 0 then some (up2 (up2 M 25 2 (0 : Int32)) 25 3 (0 : Int32)) else if inb (((10 : Int32) * v3) + v3) 100 then if inb (((10 : Int32) * v3) + v3) 100 then some (up2 (up2 (up2 (up2 M 25 2 (0 : Int32)) 25 3 (0 : Int32)) 25 2 (M 26 (ix (((10 : Int32) * v3) + v3)))) 25 3 (M 27 (ix (((10 : Int32) * v3) + v3)))) else none else none)
set_option maxRecDepth 20000 in
set_option maxHeartbeats 2000000 in
theorem ev_lb_X2_listen_25_86   (v3 : Int32) (M : Mem) : Ev none wV RX2 cX2_listen none 2 86 [some (.ref 25), none, none, some (.int v3), none, none, none, none] [] M (lb_X2_listen_25_86 v3 M) := by
  unfold lb_X2_listen_25_86
  refine e_aload_n (dt dk_X2_listen 45 rfl) rfl ?_
  refine e_iconst (v := (0 : Int32)) (dt dk_X2_listen 46 rfl) (by decide) ?_
  refine e_putI (ty := .int) ci_X2 (dt dk_X2_listen 47 rfl) rfl (by decide) rfl fl_X2_22 rfl (by decide +kernel) rfl rfl ?_
  refine e_aload_n (dt dk_X2_listen 48 rfl) rfl ?_
  refine e_iconst (v := (0 : Int32)) (dt dk_X2_listen 49 rfl) (by decide) ?_
  refine e_putI (ty := .int) ci_X2 (dt dk_X2_listen 50 rfl) rfl (by decide) rfl fl_X2_26 rfl (by decide +kernel) rfl rfl ?_
  refine e_iload_n (dt dk_X2_listen 51 rfl) rfl ?_
  refine e_iconst (v := (1 : Int32)) (dt dk_X2_listen 52 rfl) (by decide) ?_
  refine e_bipush (v := (9 : Int32)) (dt dk_X2_listen 53 rfl) (by decide) ?_
  refine ev_callT (ca_SN ms_X9_within (sp_X9_within v3 (1 : Int32) (9 : Int32) (up2 (up2 M 25 2 (0 : Int32)) 25 3 (0 : Int32))) (dt dk_X2_listen 54 rfl) mn_X2_29 rfl rfl rfl (by decide) : Ca _ _ _ _ _ _ _ _ [] _ _) ?_
  show Ev _ _ _ _ _ _ 103 [some (.ref 25), none, none, some (.int v3), none, none, none, none] [.int (f_X9_within v3 (1 : Int32) (9 : Int32))] (up2 (up2 M 25 2 (0 : Int32)) 25 3 (0 : Int32)) _
  refine e_if_eq 136 (dt dk_X2_listen 55 rfl) (by decide) (fun h2 => ?_) (fun h2 => ?_)
  · exact e_vret (dt dk_X2_listen 76 rfl) rfl rfl
  · refine e_aload_n (dt dk_X2_listen 56 rfl) rfl ?_
    refine e_aload_n (dt dk_X2_listen 57 rfl) rfl ?_
    refine e_getR ci_X2 (dt dk_X2_listen 58 rfl) rfl (by decide) rfl fl_X2_11 ?_
    refine e_bipush (v := (10 : Int32)) (dt dk_X2_listen 59 rfl) (by decide) ?_
    refine e_iload_n (dt dk_X2_listen 60 rfl) rfl ?_
    refine e_imul (dt dk_X2_listen 61 rfl) ?_
    refine e_iload_n (dt dk_X2_listen 62 rfl) rfl ?_
    refine e_iadd (dt dk_X2_listen 63 rfl) ?_
    refine e_if (fun h3 => ?_)
    refine e_iald' (v := (M 26 (ix (((10 : Int32) * v3) + v3)))) (dt dk_X2_listen 64 rfl) rfl h3 rfl ?_
    refine e_putI (ty := .int) ci_X2 (dt dk_X2_listen 65 rfl) rfl (by decide) rfl fl_X2_22 rfl (by decide +kernel) rfl rfl ?_
    refine e_aload_n (dt dk_X2_listen 66 rfl) rfl ?_
    refine e_aload_n (dt dk_X2_listen 67 rfl) rfl ?_
    refine e_getR ci_X2 (dt dk_X2_listen 68 rfl) rfl (by decide) rfl fl_X2_15 ?_
    refine e_bipush (v := (10 : Int32)) (dt dk_X2_listen 69 rfl) (by decide) ?_
    refine e_iload_n (dt dk_X2_listen 70 rfl) rfl ?_
    refine e_imul (dt dk_X2_listen 71 rfl) ?_
    refine e_iload_n (dt dk_X2_listen 72 rfl) rfl ?_
    refine e_iadd (dt dk_X2_listen 73 rfl) ?_
    refine e_if (fun h4 => ?_)
    refine e_iald' (v := (M 27 (ix (((10 : Int32) * v3) + v3)))) (dt dk_X2_listen 74 rfl) rfl h4 rfl ?_
    refine e_putI (ty := .int) ci_X2 (dt dk_X2_listen 75 rfl) rfl (by decide) rfl fl_X2_26 rfl (by decide +kernel) rfl rfl ?_
    exact e_vret (dt dk_X2_listen 76 rfl) rfl rfl
def lb_X2_listen_25_73 (K6 : Int32 → Int32 → Int32 → Int32 → Mem → Option Mem) (v2 : Int32) (v3 : Int32) (v4 : Int32) (v5 : Int32) (M : Mem) : Option Mem :=
  (K6 v2 v3 (v4 / (10 : Int32)) (v5 + (1 : Int32)) M)
set_option maxRecDepth 20000 in
set_option maxHeartbeats 2000000 in
theorem ev_lb_X2_listen_25_73 (K6 : Int32 → Int32 → Int32 → Int32 → Mem → Option Mem) (hK6 : ∀ (v2 : Int32) (v3 : Int32) (v4 : Int32) (v5 : Int32) (M : Mem), Ev none wV RX2 cX2_listen none 2 6 [some (.ref 25), none, some (.int v2), some (.int v3), some (.int v4), some (.int v5), none, none] [] M (K6 v2 v3 v4 v5 M)) (v2 : Int32) (v3 : Int32) (v4 : Int32) (v5 : Int32) (M : Mem) : Ev none wV RX2 cX2_listen none 2 73 [some (.ref 25), none, some (.int v2), some (.int v3), some (.int v4), some (.int v5), none, none] [] M (lb_X2_listen_25_73 K6 v2 v3 v4 v5 M) := by
  unfold lb_X2_listen_25_73
  refine e_iload (dt dk_X2_listen 39 rfl) rfl ?_
  refine e_bipush (v := (10 : Int32)) (dt dk_X2_listen 40 rfl) (by decide) ?_
  refine e_idiv' (dt dk_X2_listen 41 rfl) (by decide) ?_
  show Ev _ _ _ _ _ _ 78 [some (.ref 25), none, some (.int v2), some (.int v3), some (.int v4), some (.int v5), none, none] [.int (v4 / (10 : Int32))] M _
  refine e_istore [some (.ref 25), none, some (.int v2), some (.int v3), some (.int (v4 / (10 : Int32))), some (.int v5), none, none] (dt dk_X2_listen 42 rfl) rfl rfl rfl ?_
  refine e_iinc [some (.ref 25), none, some (.int v2), some (.int v3), some (.int (v4 / (10 : Int32))), some (.int (v5 + (1 : Int32))), none, none] (dt dk_X2_listen 43 rfl) rfl rfl rfl rfl ?_
  refine e_goto 6 (dt dk_X2_listen 44 rfl) (by decide) ?_
  exact e_forget [true, false, true, true, true, true, false, false] [some (.ref 25), none, some (.int v2), some (.int v3), some (.int (v4 / (10 : Int32))), some (.int (v5 + (1 : Int32))), none, none] ⟨rfl, rfl⟩ (hK6 v2 v3 (v4 / (10 : Int32)) (v5 + (1 : Int32)) M)
def bd_X2_listen_25_25 (K6 : Int32 → Int32 → Int32 → Int32 → Mem → Option Mem) (K25 : Int32 → Int32 → Int32 → Int32 → Int32 → Int32 → Mem → Option Mem) (v2 : Int32) (v3 : Int32) (v4 : Int32) (v5 : Int32) (v6 : Int32) (v7 : Int32) (M : Mem) : Option Mem :=
  (if v3 < v7 then (lb_X2_listen_25_73 K6 v2 v3 v4 v5 M) else (if (10 : Int32) ≤ v7 then (lb_X2_listen_25_73 K6 v2 v3 v4 v5 M) else ((f_X2_compare_25 (((10 : Int32) * v5) + v7) (remI v4 (10 : Int32)) (remI v6 (10 : Int32)) M)).bind fun q8 => (K25 v2 v3 v4 v5 (v6 / (10 : Int32)) (v7 + (1 : Int32)) q8)))
set_option maxRecDepth 20000 in
set_option maxHeartbeats 2000000 in
theorem ev_bd_X2_listen_25_25 (K6 : Int32 → Int32 → Int32 → Int32 → Mem → Option Mem) (K25 : Int32 → Int32 → Int32 → Int32 → Int32 → Int32 → Mem → Option Mem) (hK6 : ∀ (v2 : Int32) (v3 : Int32) (v4 : Int32) (v5 : Int32) (M : Mem), Ev none wV RX2 cX2_listen none 2 6 [some (.ref 25), none, some (.int v2), some (.int v3), some (.int v4), some (.int v5), none, none] [] M (K6 v2 v3 v4 v5 M)) (hK25 : ∀ (v2 : Int32) (v3 : Int32) (v4 : Int32) (v5 : Int32) (v6 : Int32) (v7 : Int32) (M : Mem), Ev none wV RX2 cX2_listen none 2 25 [some (.ref 25), none, some (.int v2), some (.int v3), some (.int v4), some (.int v5), some (.int v6), some (.int v7)] [] M (K25 v2 v3 v4 v5 v6 v7 M)) (v2 : Int32) (v3 : Int32) (v4 : Int32) (v5 : Int32) (v6 : Int32) (v7 : Int32) (M : Mem) : Ev none wV RX2 cX2_listen none 2 25 [some (.ref 25), none, some (.int v2), some (.int v3), some (.int v4), some (.int v5), some (.int v6), some (.int v7)] [] M (bd_X2_listen_25_25 K6 K25 v2 v3 v4 v5 v6 v7 M) := by
  unfold bd_X2_listen_25_25
  refine e_iload (dt dk_X2_listen 14 rfl) rfl ?_
  refine e_iload_n (dt dk_X2_listen 15 rfl) rfl ?_
  refine e_icmp_gt 73 (dt dk_X2_listen 16 rfl) (by decide) (fun h6 => ?_) (fun h6 => ?_)
  · exact e_forget [true, false, true, true, true, true, false, false] [some (.ref 25), none, some (.int v2), some (.int v3), some (.int v4), some (.int v5), none, none] ⟨rfl, rfl⟩ (ev_lb_X2_listen_25_73 K6 hK6 v2 v3 v4 v5 M)
  · refine e_iload (dt dk_X2_listen 17 rfl) rfl ?_
    refine e_bipush (v := (10 : Int32)) (dt dk_X2_listen 18 rfl) (by decide) ?_
    refine e_icmp_ge 73 (dt dk_X2_listen 19 rfl) (by decide) (fun h7 => ?_) (fun h7 => ?_)
    · exact e_forget [true, false, true, true, true, true, false, false] [some (.ref 25), none, some (.int v2), some (.int v3), some (.int v4), some (.int v5), none, none] ⟨rfl, rfl⟩ (ev_lb_X2_listen_25_73 K6 hK6 v2 v3 v4 v5 M)
    · refine e_aload_n (dt dk_X2_listen 20 rfl) rfl ?_
      refine e_bipush (v := (10 : Int32)) (dt dk_X2_listen 21 rfl) (by decide) ?_
      refine e_iload (dt dk_X2_listen 22 rfl) rfl ?_
      refine e_imul (dt dk_X2_listen 23 rfl) ?_
      refine e_iload (dt dk_X2_listen 24 rfl) rfl ?_
      refine e_iadd (dt dk_X2_listen 25 rfl) ?_
      refine e_iload (dt dk_X2_listen 26 rfl) rfl ?_
      refine e_bipush (v := (10 : Int32)) (dt dk_X2_listen 27 rfl) (by decide) ?_
      refine e_irem' (dt dk_X2_listen 28 rfl) (by decide) ?_
      show Ev _ _ _ _ _ _ 52 [some (.ref 25), none, some (.int v2), some (.int v3), some (.int v4), some (.int v5), some (.int v6), some (.int v7)] [.int (remI v4 (10 : Int32)), .int (((10 : Int32) * v5) + v7), .ref 25] M _
      refine e_iload (dt dk_X2_listen 29 rfl) rfl ?_
      refine e_bipush (v := (10 : Int32)) (dt dk_X2_listen 30 rfl) (by decide) ?_
      refine e_irem' (dt dk_X2_listen 31 rfl) (by decide) ?_
      show Ev _ _ _ _ _ _ 57 [some (.ref 25), none, some (.int v2), some (.int v3), some (.int v4), some (.int v5), some (.int v6), some (.int v7)] [.int (remI v6 (10 : Int32)), .int (remI v4 (10 : Int32)), .int (((10 : Int32) * v5) + v7), .ref 25] M _
      refine ev_call (ca_V (k := 25) mv_X2_compare (sp_X2_compare_25 (((10 : Int32) * v5) + v7) (remI v4 (10 : Int32)) (remI v6 (10 : Int32)) M) (dt dk_X2_listen 32 rfl) ml_X2_18 rfl rfl rfl rfl rfl (by decide) : Ca _ _ _ _ _ _ _ _ [] _ _) (fun q8 hq8 => ?_)
      show Ev _ _ _ _ _ _ 60 [some (.ref 25), none, some (.int v2), some (.int v3), some (.int v4), some (.int v5), some (.int v6), some (.int v7)] [] q8 _
      refine e_iload (dt dk_X2_listen 33 rfl) rfl ?_
      refine e_bipush (v := (10 : Int32)) (dt dk_X2_listen 34 rfl) (by decide) ?_
      refine e_idiv' (dt dk_X2_listen 35 rfl) (by decide) ?_
      show Ev _ _ _ _ _ _ 65 [some (.ref 25), none, some (.int v2), some (.int v3), some (.int v4), some (.int v5), some (.int v6), some (.int v7)] [.int (v6 / (10 : Int32))] q8 _
      refine e_istore [some (.ref 25), none, some (.int v2), some (.int v3), some (.int v4), some (.int v5), some (.int (v6 / (10 : Int32))), some (.int v7)] (dt dk_X2_listen 36 rfl) rfl rfl rfl ?_
      refine e_iinc [some (.ref 25), none, some (.int v2), some (.int v3), some (.int v4), some (.int v5), some (.int (v6 / (10 : Int32))), some (.int (v7 + (1 : Int32)))] (dt dk_X2_listen 37 rfl) rfl rfl rfl rfl ?_
      refine e_goto 25 (dt dk_X2_listen 38 rfl) (by decide) ?_
      exact e_forget [true, false, true, true, true, true, true, true] [some (.ref 25), none, some (.int v2), some (.int v3), some (.int v4), some (.int v5), some (.int (v6 / (10 : Int32))), some (.int (v7 + (1 : Int32)))] ⟨rfl, rfl⟩ (hK25 v2 v3 v4 v5 (v6 / (10 : Int32)) (v7 + (1 : Int32)) q8)
def lp_X2_listen_25_25 (K6 : Int32 → Int32 → Int32 → Int32 → Mem → Option Mem) : Nat → Int32 → Int32 → Int32 → Int32 → Int32 → Int32 → Mem → Option Mem
  | 0 => fun _ _ _ _ _ _ _ => none
  | n + 1 => bd_X2_listen_25_25 K6 (lp_X2_listen_25_25 K6 n)
theorem ev_lp_X2_listen_25_25 (K6 : Int32 → Int32 → Int32 → Int32 → Mem → Option Mem) (hK6 : ∀ (v2 : Int32) (v3 : Int32) (v4 : Int32) (v5 : Int32) (M : Mem), Ev none wV RX2 cX2_listen none 2 6 [some (.ref 25), none, some (.int v2), some (.int v3), some (.int v4), some (.int v5), none, none] [] M (K6 v2 v3 v4 v5 M)) : ∀ (n : Nat), ∀ (v2 : Int32) (v3 : Int32) (v4 : Int32) (v5 : Int32) (v6 : Int32) (v7 : Int32) (M : Mem), Ev none wV RX2 cX2_listen none 2 25 [some (.ref 25), none, some (.int v2), some (.int v3), some (.int v4), some (.int v5), some (.int v6), some (.int v7)] [] M (lp_X2_listen_25_25 K6 n v2 v3 v4 v5 v6 v7 M)
  | 0 => fun _ _ _ _ _ _ _ => e_none
  | n + 1 => ev_bd_X2_listen_25_25 K6 (lp_X2_listen_25_25 K6 n) hK6 (ev_lp_X2_listen_25_25 K6 hK6 n)
def bd_X2_listen_25_6  (K6 : Int32 → Int32 → Int32 → Int32 → Mem → Option Mem) (v2 : Int32) (v3 : Int32) (v4 : Int32) (v5 : Int32) (M : Mem) : Option Mem :=
  (if v3 < v5 then (lb_X2_listen_25_86 v3 M) else (if (10 : Int32) ≤ v5 then (lb_X2_listen_25_86 v3 M) else (lp_X2_listen_25_25 K6 FU v2 v3 v4 v5 v2 (1 : Int32) M)))
set_option maxRecDepth 20000 in
set_option maxHeartbeats 2000000 in
theorem ev_bd_X2_listen_25_6  (K6 : Int32 → Int32 → Int32 → Int32 → Mem → Option Mem)  (hK6 : ∀ (v2 : Int32) (v3 : Int32) (v4 : Int32) (v5 : Int32) (M : Mem), Ev none wV RX2 cX2_listen none 2 6 [some (.ref 25), none, some (.int v2), some (.int v3), some (.int v4), some (.int v5), none, none] [] M (K6 v2 v3 v4 v5 M)) (v2 : Int32) (v3 : Int32) (v4 : Int32) (v5 : Int32) (M : Mem) : Ev none wV RX2 cX2_listen none 2 6 [some (.ref 25), none, some (.int v2), some (.int v3), some (.int v4), some (.int v5), none, none] [] M (bd_X2_listen_25_6 K6 v2 v3 v4 v5 M) := by
  unfold bd_X2_listen_25_6
  refine e_iload (dt dk_X2_listen 4 rfl) rfl ?_
  refine e_iload_n (dt dk_X2_listen 5 rfl) rfl ?_
  refine e_icmp_gt 86 (dt dk_X2_listen 6 rfl) (by decide) (fun h1 => ?_) (fun h1 => ?_)
  · exact e_forget [true, false, false, true, false, false, false, false] [some (.ref 25), none, none, some (.int v3), none, none, none, none] ⟨rfl, rfl⟩ (ev_lb_X2_listen_25_86 v3 M)
  · refine e_iload (dt dk_X2_listen 7 rfl) rfl ?_
    refine e_bipush (v := (10 : Int32)) (dt dk_X2_listen 8 rfl) (by decide) ?_
    refine e_icmp_ge 86 (dt dk_X2_listen 9 rfl) (by decide) (fun h5 => ?_) (fun h5 => ?_)
    · exact e_forget [true, false, false, true, false, false, false, false] [some (.ref 25), none, none, some (.int v3), none, none, none, none] ⟨rfl, rfl⟩ (ev_lb_X2_listen_25_86 v3 M)
    · refine e_iload_n (dt dk_X2_listen 10 rfl) rfl ?_
      refine e_istore [some (.ref 25), none, some (.int v2), some (.int v3), some (.int v4), some (.int v5), some (.int v2), none] (dt dk_X2_listen 11 rfl) rfl rfl rfl ?_
      refine e_iconst (v := (1 : Int32)) (dt dk_X2_listen 12 rfl) (by decide) ?_
      refine e_istore [some (.ref 25), none, some (.int v2), some (.int v3), some (.int v4), some (.int v5), some (.int v2), some (.int (1 : Int32))] (dt dk_X2_listen 13 rfl) rfl rfl rfl ?_
      exact e_forget [true, false, true, true, true, true, true, true] [some (.ref 25), none, some (.int v2), some (.int v3), some (.int v4), some (.int v5), some (.int v2), some (.int (1 : Int32))] ⟨rfl, rfl⟩ (ev_lp_X2_listen_25_25 K6 hK6 FU v2 v3 v4 v5 v2 (1 : Int32) M)
def lp_X2_listen_25_6  : Nat → Int32 → Int32 → Int32 → Int32 → Mem → Option Mem
  | 0 => fun _ _ _ _ _ => none
  | n + 1 => bd_X2_listen_25_6 (lp_X2_listen_25_6 n)
theorem ev_lp_X2_listen_25_6   : ∀ (n : Nat), ∀ (v2 : Int32) (v3 : Int32) (v4 : Int32) (v5 : Int32) (M : Mem), Ev none wV RX2 cX2_listen none 2 6 [some (.ref 25), none, some (.int v2), some (.int v3), some (.int v4), some (.int v5), none, none] [] M (lp_X2_listen_25_6 n v2 v3 v4 v5 M)
  | 0 => fun _ _ _ _ _ => e_none
  | n + 1 => ev_bd_X2_listen_25_6 (lp_X2_listen_25_6 n) (ev_lp_X2_listen_25_6 n)
def f_X2_listen_25 (v1 : Int32) (v2 : Int32) (v3 : Int32) (M : Mem) : Option Mem :=
  (lp_X2_listen_25_6 FU v2 v3 v1 (1 : Int32) M)
set_option maxRecDepth 20000 in
set_option maxHeartbeats 2000000 in
theorem sp_X2_listen_25 (v1 : Int32) (v2 : Int32) (v3 : Int32) (M : Mem) : SpO wV yX2_listen cX2_listen 8 none 2 [.ref 25, .int v1, .int v2, .int v3] M (f_X2_listen_25 v1 v2 v3 M) := by
  refine sp_of (L := [some (.ref 25), some (.int v1), some (.int v2), some (.int v3), none, none, none, none]) rfl (by decide +kernel) rfl rfl ?_
  unfold f_X2_listen_25
  refine e_iload_n (dt dk_X2_listen 0 rfl) rfl ?_
  refine e_istore [some (.ref 25), some (.int v1), some (.int v2), some (.int v3), some (.int v1), none, none, none] (dt dk_X2_listen 1 rfl) rfl rfl rfl ?_
  refine e_iconst (v := (1 : Int32)) (dt dk_X2_listen 2 rfl) (by decide) ?_
  refine e_istore [some (.ref 25), some (.int v1), some (.int v2), some (.int v3), some (.int v1), some (.int (1 : Int32)), none, none] (dt dk_X2_listen 3 rfl) rfl rfl rfl ?_
  exact e_forget [true, false, true, true, true, true, false, false] [some (.ref 25), none, some (.int v2), some (.int v3), some (.int v1), some (.int (1 : Int32)), none, none] ⟨rfl, rfl⟩ (ev_lp_X2_listen_25_6 FU v2 v3 v1 (1 : Int32) M)
-- X6_add_19 (W, depth 1)
def lb_X6_add_19_52  (v1 : Int32) (s0 : Int32) (s1 : Int32) (M : Mem) : Option (Int32 × Mem) :=
  if inb s1 41 then some ((1 : Int32), (up2 (up2 (up2 M 20 (ix s1) s0) 19 2 (maxI (M 19 2) v1)) 19 1 ((M 19 1) + (1 : Int32)))) else none
set_option maxRecDepth 20000 in
set_option maxHeartbeats 2000000 in
theorem ev_lb_X6_add_19_52   (v1 : Int32) (s0 : Int32) (s1 : Int32) (M : Mem) : Ev none wI RX6 cX6_add (some .boolean) 1 52 [some (.ref 19), some (.int v1), none] [.int s0, .int s1, .ref 20] M (lb_X6_add_19_52 v1 s0 s1 M) := by
  unfold lb_X6_add_19_52
  refine e_if (fun h5 => ?_)
  refine e_iast' (dt dk_X6_add 29 rfl) rfl h5 ?_
  refine e_aload_n (dt dk_X6_add 30 rfl) rfl ?_
  refine e_aload_n (dt dk_X6_add 31 rfl) rfl ?_
  refine e_getI (v := (M 19 2)) ci_X6 (dt dk_X6_add 32 rfl) rfl (by decide) rfl fl_X6_21 rfl ?_
  refine e_iload_n (dt dk_X6_add 33 rfl) rfl ?_
  refine e_max ok_max (dt dk_X6_add 34 rfl) ml_X6_38 rfl (by decide) ?_
  show Ev _ _ _ _ _ _ 62 [some (.ref 19), some (.int v1), none] [.int (maxI (M 19 2) v1), .ref 19] (up2 M 20 (ix s1) s0) _
  refine e_putI (ty := .int) ci_X6 (dt dk_X6_add 35 rfl) rfl (by decide) rfl fl_X6_21 rfl (by decide +kernel) rfl rfl ?_
  refine e_aload_n (dt dk_X6_add 36 rfl) rfl ?_
  refine e_dup (dt dk_X6_add 37 rfl) rfl ?_
  refine e_getI (v := (M 19 1)) ci_X6 (dt dk_X6_add 38 rfl) rfl (by decide) rfl fl_X6_25 rfl ?_
  refine e_iconst (v := (1 : Int32)) (dt dk_X6_add 39 rfl) (by decide) ?_
  refine e_iadd (dt dk_X6_add 40 rfl) ?_
  refine e_putI (ty := .int) ci_X6 (dt dk_X6_add 41 rfl) rfl (by decide) rfl fl_X6_25 rfl (by decide +kernel) rfl rfl ?_
  refine e_iconst (v := (1 : Int32)) (dt dk_X6_add 42 rfl) (by decide) ?_
  exact e_iret (dt dk_X6_add 43 rfl) rfl rfl rfl
def f_X6_add_19 (v1 : Int32) (v2 : Int32) (M : Mem) : Option (Int32 × Mem) :=
  (if (8 : Int32) ≤ (M 19 1) then some ((0 : Int32), M) else (if (f_X9_within v1 (0 : Int32) (40 : Int32)) = 0 then some ((0 : Int32), M) else if inb v1 41 then (if (M 20 (ix v1)) = (-1 : Int32) then (lb_X6_add_19_52 v1 v2 v1 M) else if inb v1 41 then (if (M 20 (ix v1)) = v2 then (lb_X6_add_19_52 v1 v2 v1 M) else (lb_X6_add_19_52 v1 (-2 : Int32) v1 M)) else none) else none))
set_option maxRecDepth 20000 in
set_option maxHeartbeats 2000000 in
theorem sp_X6_add_19 (v1 : Int32) (v2 : Int32) (M : Mem) : SpO wI yX6_add cX6_add 3 (some .boolean) 1 [.ref 19, .int v1, .int v2] M (f_X6_add_19 v1 v2 M) := by
  refine sp_of (L := [some (.ref 19), some (.int v1), some (.int v2)]) rfl (by decide +kernel) rfl rfl ?_
  unfold f_X6_add_19
  refine e_aload_n (dt dk_X6_add 0 rfl) rfl ?_
  refine e_getI (v := (M 19 1)) ci_X6 (dt dk_X6_add 1 rfl) rfl (by decide) rfl fl_X6_25 rfl ?_
  refine e_bipush (v := (8 : Int32)) (dt dk_X6_add 2 rfl) (by decide) ?_
  refine e_icmp_ge 19 (dt dk_X6_add 3 rfl) (by decide) (fun h1 => ?_) (fun h1 => ?_)
  · refine e_iconst (v := (0 : Int32)) (dt dk_X6_add 9 rfl) (by decide) ?_
    exact e_iret (dt dk_X6_add 10 rfl) rfl rfl rfl
  · refine e_iload_n (dt dk_X6_add 4 rfl) rfl ?_
    refine e_iconst (v := (0 : Int32)) (dt dk_X6_add 5 rfl) (by decide) ?_
    refine e_bipush (v := (40 : Int32)) (dt dk_X6_add 6 rfl) (by decide) ?_
    refine ev_callT (ca_SN ms_X9_within (sp_X9_within v1 (0 : Int32) (40 : Int32) M) (dt dk_X6_add 7 rfl) mn_X6_34 rfl rfl rfl (by decide) : Ca _ _ _ _ _ _ _ _ [] _ _) ?_
    show Ev _ _ _ _ _ _ 16 [some (.ref 19), some (.int v1), some (.int v2)] [.int (f_X9_within v1 (0 : Int32) (40 : Int32))] M _
    refine e_if_ne 21 (dt dk_X6_add 8 rfl) (by decide) (fun h2 => ?_) (fun h2 => ?_)
    · refine e_iconst (v := (0 : Int32)) (dt dk_X6_add 9 rfl) (by decide) ?_
      exact e_iret (dt dk_X6_add 10 rfl) rfl rfl rfl
    · refine e_aload_n (dt dk_X6_add 11 rfl) rfl ?_
      refine e_getR ci_X6 (dt dk_X6_add 12 rfl) rfl (by decide) rfl fl_X6_9 ?_
      refine e_iload_n (dt dk_X6_add 13 rfl) rfl ?_
      refine e_aload_n (dt dk_X6_add 14 rfl) rfl ?_
      refine e_getR ci_X6 (dt dk_X6_add 15 rfl) rfl (by decide) rfl fl_X6_9 ?_
      refine e_iload_n (dt dk_X6_add 16 rfl) rfl ?_
      refine e_if (fun h3 => ?_)
      refine e_iald' (v := (M 20 (ix v1))) (dt dk_X6_add 17 rfl) rfl h3 rfl ?_
      refine e_iconst (v := (-1 : Int32)) (dt dk_X6_add 18 rfl) (by decide) ?_
      refine e_icmp_eq 46 (dt dk_X6_add 19 rfl) (by decide) (fun h4 => ?_) (fun h4 => ?_)
      · refine e_iload_n (dt dk_X6_add 26 rfl) rfl ?_
        refine e_goto 52 (dt dk_X6_add 27 rfl) (by decide) ?_
        exact e_forget [true, true, false] [some (.ref 19), some (.int v1), none] ⟨rfl, rfl⟩ (ev_lb_X6_add_19_52 v1 v2 v1 M)
      · refine e_aload_n (dt dk_X6_add 20 rfl) rfl ?_
        refine e_getR ci_X6 (dt dk_X6_add 21 rfl) rfl (by decide) rfl fl_X6_9 ?_
        refine e_iload_n (dt dk_X6_add 22 rfl) rfl ?_
        refine e_if (fun h6 => ?_)
        refine e_iald' (v := (M 20 (ix v1))) (dt dk_X6_add 23 rfl) rfl h6 rfl ?_
        refine e_iload_n (dt dk_X6_add 24 rfl) rfl ?_
        refine e_icmp_ne 50 (dt dk_X6_add 25 rfl) (by decide) (fun h7 => ?_) (fun h7 => ?_)
        · refine e_iload_n (dt dk_X6_add 26 rfl) rfl ?_
          refine e_goto 52 (dt dk_X6_add 27 rfl) (by decide) ?_
          exact e_forget [true, true, false] [some (.ref 19), some (.int v1), none] ⟨rfl, rfl⟩ (ev_lb_X6_add_19_52 v1 v2 v1 M)
        · refine e_bipush (v := (-2 : Int32)) (dt dk_X6_add 28 rfl) (by decide) ?_
          exact e_forget [true, true, false] [some (.ref 19), some (.int v1), none] ⟨rfl, rfl⟩ (ev_lb_X6_add_19_52 v1 (-2 : Int32) v1 M)
-- J7_fill_53178_20 (W, depth 0)
def bd_J7_fill_53178_20_5  (K5 : Int32 → Int32 → Int32 → Mem → Option Mem) (v1 : Int32) (v2 : Int32) (v3 : Int32) (M : Mem) : Option Mem :=
  (if v3 ≤ v2 then some M else if inb v2 41 then (K5 v1 (v2 + (1 : Int32)) v3 (up2 M 20 (ix v2) v1)) else none)
set_option maxRecDepth 20000 in
set_option maxHeartbeats 2000000 in
theorem ev_bd_J7_fill_53178_20_5  (K5 : Int32 → Int32 → Int32 → Mem → Option Mem)  (hK5 : ∀ (v1 : Int32) (v2 : Int32) (v3 : Int32) (M : Mem), Ev none wV RJ7 cJ7_fill_53178 none 0 5 [some (.ref 20), some (.int v1), some (.int v2), some (.int v3)] [] M (K5 v1 v2 v3 M)) (v1 : Int32) (v2 : Int32) (v3 : Int32) (M : Mem) : Ev none wV RJ7 cJ7_fill_53178 none 0 5 [some (.ref 20), some (.int v1), some (.int v2), some (.int v3)] [] M (bd_J7_fill_53178_20_5 K5 v1 v2 v3 M) := by
  unfold bd_J7_fill_53178_20_5
  refine e_iload_n (dt dk_J7_fill_53178 5 rfl) rfl ?_
  refine e_iload_n (dt dk_J7_fill_53178 6 rfl) rfl ?_
  refine e_icmp_ge 20 (dt dk_J7_fill_53178 7 rfl) (by decide) (fun h1 => ?_) (fun h1 => ?_)
  · exact e_vret (dt dk_J7_fill_53178 14 rfl) rfl rfl
  · refine e_aload_n (dt dk_J7_fill_53178 8 rfl) rfl ?_
    refine e_iload_n (dt dk_J7_fill_53178 9 rfl) rfl ?_
    refine e_iload_n (dt dk_J7_fill_53178 10 rfl) rfl ?_
    refine e_if (fun h2 => ?_)
    refine e_iast' (dt dk_J7_fill_53178 11 rfl) rfl h2 ?_
    refine e_iinc [some (.ref 20), some (.int v1), some (.int (v2 + (1 : Int32))), some (.int v3)] (dt dk_J7_fill_53178 12 rfl) rfl rfl rfl rfl ?_
    refine e_goto 5 (dt dk_J7_fill_53178 13 rfl) (by decide) ?_
    exact e_forget [true, true, true, true] [some (.ref 20), some (.int v1), some (.int (v2 + (1 : Int32))), some (.int v3)] ⟨rfl, rfl⟩ (hK5 v1 (v2 + (1 : Int32)) v3 (up2 M 20 (ix v2) v1))
def lp_J7_fill_53178_20_5  : Nat → Int32 → Int32 → Int32 → Mem → Option Mem
  | 0 => fun _ _ _ _ => none
  | n + 1 => bd_J7_fill_53178_20_5 (lp_J7_fill_53178_20_5 n)
theorem ev_lp_J7_fill_53178_20_5   : ∀ (n : Nat), ∀ (v1 : Int32) (v2 : Int32) (v3 : Int32) (M : Mem), Ev none wV RJ7 cJ7_fill_53178 none 0 5 [some (.ref 20), some (.int v1), some (.int v2), some (.int v3)] [] M (lp_J7_fill_53178_20_5 n v1 v2 v3 M)
  | 0 => fun _ _ _ _ => e_none
  | n + 1 => ev_bd_J7_fill_53178_20_5 (lp_J7_fill_53178_20_5 n) (ev_lp_J7_fill_53178_20_5 n)
def f_J7_fill_53178_20 (v1 : Int32) (M : Mem) : Option Mem :=
  (lp_J7_fill_53178_20_5 FU v1 (0 : Int32) (41 : Int32) M)
set_option maxRecDepth 20000 in
set_option maxHeartbeats 2000000 in
theorem sp_J7_fill_53178_20 (v1 : Int32) (M : Mem) : SpO wV yJ7_fill_53178 cJ7_fill_53178 4 none 0 [.ref 20, .int v1] M (f_J7_fill_53178_20 v1 M) := by
  refine sp_of (L := [some (.ref 20), some (.int v1), none, none]) rfl (by decide +kernel) rfl rfl ?_
  unfold f_J7_fill_53178_20
  refine e_iconst (v := (0 : Int32)) (dt dk_J7_fill_53178 0 rfl) (by decide) ?_
  refine e_istore_n [some (.ref 20), some (.int v1), some (.int (0 : Int32)), none] (dt dk_J7_fill_53178 1 rfl) rfl rfl rfl ?_
  refine e_aload_n (dt dk_J7_fill_53178 2 rfl) rfl ?_
  refine e_len (v := (41 : Int32)) (dt dk_J7_fill_53178 3 rfl) rfl (by decide) ?_
  refine e_istore_n [some (.ref 20), some (.int v1), some (.int (0 : Int32)), some (.int (41 : Int32))] (dt dk_J7_fill_53178 4 rfl) rfl rfl rfl ?_
  exact e_forget [true, true, true, true] [some (.ref 20), some (.int v1), some (.int (0 : Int32)), some (.int (41 : Int32))] ⟨rfl, rfl⟩ (ev_lp_J7_fill_53178_20_5 FU v1 (0 : Int32) (41 : Int32) M)
-- X6_clear_19 (W, depth 1)
def f_X6_clear_19  (M : Mem) : Option Mem :=
  ((f_J7_fill_53178_20 (-1 : Int32) M)).bind fun q1 => some (up2 (up2 q1 19 1 (0 : Int32)) 19 2 (-1 : Int32))
set_option maxRecDepth 20000 in
set_option maxHeartbeats 2000000 in
theorem sp_X6_clear_19  (M : Mem) : SpO wV yX6_clear cX6_clear 1 none 1 [.ref 19] M (f_X6_clear_19 M) := by
  refine sp_of (L := [some (.ref 19)]) rfl (by decide +kernel) rfl rfl ?_
  unfold f_X6_clear_19
  refine e_aload_n (dt dk_X6_clear 0 rfl) rfl ?_
  refine e_getR ci_X6 (dt dk_X6_clear 1 rfl) rfl (by decide) rfl fl_X6_9 ?_
  refine e_iconst (v := (-1 : Int32)) (dt dk_X6_clear 2 rfl) (by decide) ?_
  refine ev_call (ca_S ms_J7_fill_53178 (sp_J7_fill_53178_20 (-1 : Int32) M) (dt dk_X6_clear 3 rfl) ml_X6_15 rfl rfl rfl (by decide) : Ca _ _ _ _ _ _ _ _ [] _ _) (fun q1 hq1 => ?_)
  show Ev _ _ _ _ _ _ 8 [some (.ref 19)] [] q1 _
  refine e_aload_n (dt dk_X6_clear 4 rfl) rfl ?_
  refine e_iconst (v := (0 : Int32)) (dt dk_X6_clear 5 rfl) (by decide) ?_
  refine e_putI (ty := .int) ci_X6 (dt dk_X6_clear 6 rfl) rfl (by decide) rfl fl_X6_25 rfl (by decide +kernel) rfl rfl ?_
  refine e_aload_n (dt dk_X6_clear 7 rfl) rfl ?_
  refine e_iconst (v := (-1 : Int32)) (dt dk_X6_clear 8 rfl) (by decide) ?_
  refine e_putI (ty := .int) ci_X6 (dt dk_X6_clear 9 rfl) rfl (by decide) rfl fl_X6_21 rfl (by decide +kernel) rfl rfl ?_
  exact e_vret (dt dk_X6_clear 10 rfl) rfl rfl
-- X6_agree_19 (R, depth 2)
def lb_X6_agree_19_45 (M : Mem) (K5 : Int32 → Int32 → Int32 → Option Int32) (v2 : Int32) (v3 : Int32) (v4 : Int32) : Option Int32 :=
  (K5 v2 (f_X9_grown v3 v2) (v4 + (1 : Int32)))
set_option maxRecDepth 20000 in
set_option maxHeartbeats 2000000 in
theorem ev_lb_X6_agree_19_45 (M : Mem) (K5 : Int32 → Int32 → Int32 → Option Int32) (hK5 : ∀ (v2 : Int32) (v3 : Int32) (v4 : Int32), Ev none (wR M) RX6 cX6_agree (some .boolean) 2 5 [some (.ref 19), none, some (.int v2), some (.int v3), some (.int v4)] [] M (K5 v2 v3 v4)) (v2 : Int32) (v3 : Int32) (v4 : Int32) : Ev none (wR M) RX6 cX6_agree (some .boolean) 2 45 [some (.ref 19), none, some (.int v2), some (.int v3), some (.int v4)] [] M (lb_X6_agree_19_45 M K5 v2 v3 v4) := by
  unfold lb_X6_agree_19_45
  refine e_iload_n (dt dk_X6_agree 25 rfl) rfl ?_
  refine e_iload_n (dt dk_X6_agree 26 rfl) rfl ?_
  refine ev_callT (ca_SN ms_X9_grown (sp_X9_grown v3 v2 M) (dt dk_X6_agree 27 rfl) mn_X6_44 rfl rfl rfl (by decide) : Ca _ _ _ _ _ _ _ _ [] _ _) ?_
  show Ev _ _ _ _ _ _ 50 [some (.ref 19), none, some (.int v2), some (.int v3), some (.int v4)] [.int (f_X9_grown v3 v2)] M _
  refine e_istore_n [some (.ref 19), none, some (.int v2), some (.int (f_X9_grown v3 v2)), some (.int v4)] (dt dk_X6_agree 28 rfl) rfl rfl rfl ?_
  refine e_iinc [some (.ref 19), none, some (.int v2), some (.int (f_X9_grown v3 v2)), some (.int (v4 + (1 : Int32)))] (dt dk_X6_agree 29 rfl) rfl rfl rfl rfl ?_
  refine e_goto 5 (dt dk_X6_agree 30 rfl) (by decide) ?_
  exact e_forget [true, false, true, true, true] [some (.ref 19), none, some (.int v2), some (.int (f_X9_grown v3 v2)), some (.int (v4 + (1 : Int32)))] ⟨rfl, rfl⟩ (hK5 v2 (f_X9_grown v3 v2) (v4 + (1 : Int32)))
def bd_X6_agree_19_5 (M : Mem)  (K5 : Int32 → Int32 → Int32 → Option Int32) (v2 : Int32) (v3 : Int32) (v4 : Int32) : Option Int32 :=
  (if (M 19 2) < v4 then some (1 : Int32) else (if (40 : Int32) < v4 then some (1 : Int32) else if inb v4 41 then (if (M 20 (ix v4)) = (-1 : Int32) then (lb_X6_agree_19_45 M K5 v2 v3 v4) else if inb v4 41 then (if (M 20 (ix v4)) = v3 then (lb_X6_agree_19_45 M K5 v2 v3 v4) else some (0 : Int32)) else none) else none))
set_option maxRecDepth 20000 in
set_option maxHeartbeats 2000000 in
theorem ev_bd_X6_agree_19_5 (M : Mem)  (K5 : Int32 → Int32 → Int32 → Option Int32)  (hK5 : ∀ (v2 : Int32) (v3 : Int32) (v4 : Int32), Ev none (wR M) RX6 cX6_agree (some .boolean) 2 5 [some (.ref 19), none, some (.int v2), some (.int v3), some (.int v4)] [] M (K5 v2 v3 v4)) (v2 : Int32) (v3 : Int32) (v4 : Int32) : Ev none (wR M) RX6 cX6_agree (some .boolean) 2 5 [some (.ref 19), none, some (.int v2), some (.int v3), some (.int v4)] [] M (bd_X6_agree_19_5 M K5 v2 v3 v4) := by
  unfold bd_X6_agree_19_5
  refine e_iload (dt dk_X6_agree 4 rfl) rfl ?_
  refine e_aload_n (dt dk_X6_agree 5 rfl) rfl ?_
  refine e_getI (v := (M 19 2)) ci_X6 (dt dk_X6_agree 6 rfl) rfl (by decide) rfl fl_X6_21 rfl ?_
  refine e_icmp_gt 57 (dt dk_X6_agree 7 rfl) (by decide) (fun h1 => ?_) (fun h1 => ?_)
  · refine e_iconst (v := (1 : Int32)) (dt dk_X6_agree 31 rfl) (by decide) ?_
    exact e_iret (dt dk_X6_agree 32 rfl) rfl rfl rfl
  · refine e_iload (dt dk_X6_agree 8 rfl) rfl ?_
    refine e_bipush (v := (40 : Int32)) (dt dk_X6_agree 9 rfl) (by decide) ?_
    refine e_icmp_gt 57 (dt dk_X6_agree 10 rfl) (by decide) (fun h2 => ?_) (fun h2 => ?_)
    · refine e_iconst (v := (1 : Int32)) (dt dk_X6_agree 31 rfl) (by decide) ?_
      exact e_iret (dt dk_X6_agree 32 rfl) rfl rfl rfl
    · refine e_aload_n (dt dk_X6_agree 11 rfl) rfl ?_
      refine e_getR ci_X6 (dt dk_X6_agree 12 rfl) rfl (by decide) rfl fl_X6_9 ?_
      refine e_iload (dt dk_X6_agree 13 rfl) rfl ?_
      refine e_if (fun h3 => ?_)
      refine e_iald' (v := (M 20 (ix v4))) (dt dk_X6_agree 14 rfl) rfl h3 rfl ?_
      refine e_iconst (v := (-1 : Int32)) (dt dk_X6_agree 15 rfl) (by decide) ?_
      refine e_icmp_eq 45 (dt dk_X6_agree 16 rfl) (by decide) (fun h4 => ?_) (fun h4 => ?_)
      · exact e_forget [true, false, true, true, true] [some (.ref 19), none, some (.int v2), some (.int v3), some (.int v4)] ⟨rfl, rfl⟩ (ev_lb_X6_agree_19_45 M K5 hK5 v2 v3 v4)
      · refine e_aload_n (dt dk_X6_agree 17 rfl) rfl ?_
        refine e_getR ci_X6 (dt dk_X6_agree 18 rfl) rfl (by decide) rfl fl_X6_9 ?_
        refine e_iload (dt dk_X6_agree 19 rfl) rfl ?_
        refine e_if (fun h5 => ?_)
        refine e_iald' (v := (M 20 (ix v4))) (dt dk_X6_agree 20 rfl) rfl h5 rfl ?_
        refine e_iload_n (dt dk_X6_agree 21 rfl) rfl ?_
        refine e_icmp_eq 45 (dt dk_X6_agree 22 rfl) (by decide) (fun h6 => ?_) (fun h6 => ?_)
        · exact e_forget [true, false, true, true, true] [some (.ref 19), none, some (.int v2), some (.int v3), some (.int v4)] ⟨rfl, rfl⟩ (ev_lb_X6_agree_19_45 M K5 hK5 v2 v3 v4)
        · refine e_iconst (v := (0 : Int32)) (dt dk_X6_agree 23 rfl) (by decide) ?_
          exact e_iret (dt dk_X6_agree 24 rfl) rfl rfl rfl
def lp_X6_agree_19_5 (M : Mem)  : Nat → Int32 → Int32 → Int32 → Option Int32
  | 0 => fun _ _ _ => none
  | n + 1 => bd_X6_agree_19_5 M (lp_X6_agree_19_5 M n)
theorem ev_lp_X6_agree_19_5 (M : Mem)   : ∀ (n : Nat), ∀ (v2 : Int32) (v3 : Int32) (v4 : Int32), Ev none (wR M) RX6 cX6_agree (some .boolean) 2 5 [some (.ref 19), none, some (.int v2), some (.int v3), some (.int v4)] [] M (lp_X6_agree_19_5 M n v2 v3 v4)
  | 0 => fun _ _ _ => e_none
  | n + 1 => ev_bd_X6_agree_19_5 M (lp_X6_agree_19_5 M n) (ev_lp_X6_agree_19_5 M n)
def f_X6_agree_19 (v1 : Int32) (v2 : Int32) (M : Mem) : Option Int32 :=
  (lp_X6_agree_19_5 M FU v2 v1 (0 : Int32))
set_option maxRecDepth 20000 in
set_option maxHeartbeats 2000000 in
theorem sp_X6_agree_19 (v1 : Int32) (v2 : Int32) (M : Mem) : SpO (wR M) yX6_agree cX6_agree 5 (some .boolean) 2 [.ref 19, .int v1, .int v2] M (f_X6_agree_19 v1 v2 M) := by
  refine sp_of (L := [some (.ref 19), some (.int v1), some (.int v2), none, none]) rfl (by decide +kernel) rfl rfl ?_
  unfold f_X6_agree_19
  refine e_iload_n (dt dk_X6_agree 0 rfl) rfl ?_
  refine e_istore_n [some (.ref 19), some (.int v1), some (.int v2), some (.int v1), none] (dt dk_X6_agree 1 rfl) rfl rfl rfl ?_
  refine e_iconst (v := (0 : Int32)) (dt dk_X6_agree 2 rfl) (by decide) ?_
  refine e_istore [some (.ref 19), some (.int v1), some (.int v2), some (.int v1), some (.int (0 : Int32))] (dt dk_X6_agree 3 rfl) rfl rfl rfl ?_
  exact e_forget [true, false, true, true, true] [some (.ref 19), none, some (.int v2), some (.int v1), some (.int (0 : Int32))] ⟨rfl, rfl⟩ (ev_lp_X6_agree_19_5 M FU v2 v1 (0 : Int32))
-- X1_gather_21_19 (W, depth 3)
def bd_X1_gather_21_19_15 (K7 : Int32 → Mem → Option Mem) (K15 : Int32 → Int32 → Mem → Option Mem) (v2 : Int32) (v3 : Int32) (M : Mem) : Option Mem :=
  (if (9 : Int32) < v3 then (K7 (v2 + (1 : Int32)) M) else (if (90 : Int32) ≤ (M 21 3) then (K15 v2 (v3 + (1 : Int32)) M) else ((f_X6_agree_19 v2 v3 M)).bind fun r4 => (if r4 = 0 then (K15 v2 (v3 + (1 : Int32)) M) else if inb (M 21 3) 90 then if inb (M 21 3) 90 then (K15 v2 (v3 + (1 : Int32)) (up2 (up2 (up2 M 22 (ix (M 21 3)) v2) 23 (ix (M 21 3)) v3) 21 3 ((M 21 3) + (1 : Int32)))) else none else none)))
set_option maxRecDepth 20000 in
set_option maxHeartbeats 2000000 in
theorem ev_bd_X1_gather_21_19_15 (K7 : Int32 → Mem → Option Mem) (K15 : Int32 → Int32 → Mem → Option Mem) (hK7 : ∀ (v2 : Int32) (M : Mem), Ev none wV RX1 cX1_gather none 3 7 [some (.ref 21), some (.ref 19), some (.int v2), none] [] M (K7 v2 M)) (hK15 : ∀ (v2 : Int32) (v3 : Int32) (M : Mem), Ev none wV RX1 cX1_gather none 3 15 [some (.ref 21), some (.ref 19), some (.int v2), some (.int v3)] [] M (K15 v2 v3 M)) (v2 : Int32) (v3 : Int32) (M : Mem) : Ev none wV RX1 cX1_gather none 3 15 [some (.ref 21), some (.ref 19), some (.int v2), some (.int v3)] [] M (bd_X1_gather_21_19_15 K7 K15 v2 v3 M) := by
  unfold bd_X1_gather_21_19_15
  refine e_iload_n (dt dk_X1_gather 10 rfl) rfl ?_
  refine e_bipush (v := (9 : Int32)) (dt dk_X1_gather 11 rfl) (by decide) ?_
  refine e_icmp_gt 75 (dt dk_X1_gather 12 rfl) (by decide) (fun h2 => ?_) (fun h2 => ?_)
  · refine e_iinc [some (.ref 21), some (.ref 19), some (.int (v2 + (1 : Int32))), some (.int v3)] (dt dk_X1_gather 42 rfl) rfl rfl rfl rfl ?_
    refine e_goto 7 (dt dk_X1_gather 43 rfl) (by decide) ?_
    exact e_forget [true, true, true, false] [some (.ref 21), some (.ref 19), some (.int (v2 + (1 : Int32))), none] ⟨rfl, rfl⟩ (hK7 (v2 + (1 : Int32)) M)
  · refine e_aload_n (dt dk_X1_gather 13 rfl) rfl ?_
    refine e_getI (v := (M 21 3)) ci_X1 (dt dk_X1_gather 14 rfl) rfl (by decide) rfl fl_X1_32 rfl ?_
    refine e_bipush (v := (90 : Int32)) (dt dk_X1_gather 15 rfl) (by decide) ?_
    refine e_icmp_ge 69 (dt dk_X1_gather 16 rfl) (by decide) (fun h3 => ?_) (fun h3 => ?_)
    · refine e_iinc [some (.ref 21), some (.ref 19), some (.int v2), some (.int (v3 + (1 : Int32)))] (dt dk_X1_gather 40 rfl) rfl rfl rfl rfl ?_
      refine e_goto 15 (dt dk_X1_gather 41 rfl) (by decide) ?_
      exact e_forget [true, true, true, true] [some (.ref 21), some (.ref 19), some (.int v2), some (.int (v3 + (1 : Int32)))] ⟨rfl, rfl⟩ (hK15 v2 (v3 + (1 : Int32)) M)
    · refine e_aload_n (dt dk_X1_gather 17 rfl) rfl ?_
      refine e_iload_n (dt dk_X1_gather 18 rfl) rfl ?_
      refine e_iload_n (dt dk_X1_gather 19 rfl) rfl ?_
      refine ev_call (ca_V (k := 19) mv_X6_agree (sp_X6_agree_19 v2 v3 M) (dt dk_X1_gather 20 rfl) ml_X1_42 rfl rfl rfl rfl rfl (by decide) : Ca _ _ _ _ _ _ _ _ [] _ _) (fun r4 hr4 => ?_)
      show Ev _ _ _ _ _ _ 36 [some (.ref 21), some (.ref 19), some (.int v2), some (.int v3)] [.int r4] M _
      refine e_if_eq 69 (dt dk_X1_gather 21 rfl) (by decide) (fun h5 => ?_) (fun h5 => ?_)
      · refine e_iinc [some (.ref 21), some (.ref 19), some (.int v2), some (.int (v3 + (1 : Int32)))] (dt dk_X1_gather 40 rfl) rfl rfl rfl rfl ?_
        refine e_goto 15 (dt dk_X1_gather 41 rfl) (by decide) ?_
        exact e_forget [true, true, true, true] [some (.ref 21), some (.ref 19), some (.int v2), some (.int (v3 + (1 : Int32)))] ⟨rfl, rfl⟩ (hK15 v2 (v3 + (1 : Int32)) M)
      · refine e_aload_n (dt dk_X1_gather 22 rfl) rfl ?_
        refine e_getR ci_X1 (dt dk_X1_gather 23 rfl) rfl (by decide) rfl fl_X1_9 ?_
        refine e_aload_n (dt dk_X1_gather 24 rfl) rfl ?_
        refine e_getI (v := (M 21 3)) ci_X1 (dt dk_X1_gather 25 rfl) rfl (by decide) rfl fl_X1_32 rfl ?_
        refine e_iload_n (dt dk_X1_gather 26 rfl) rfl ?_
        refine e_if (fun h6 => ?_)
        refine e_iast' (dt dk_X1_gather 27 rfl) rfl h6 ?_
        refine e_aload_n (dt dk_X1_gather 28 rfl) rfl ?_
        refine e_getR ci_X1 (dt dk_X1_gather 29 rfl) rfl (by decide) rfl fl_X1_15 ?_
        refine e_aload_n (dt dk_X1_gather 30 rfl) rfl ?_
        refine e_getI (v := (M 21 3)) ci_X1 (dt dk_X1_gather 31 rfl) rfl (by decide) rfl fl_X1_32 rfl ?_
        refine e_iload_n (dt dk_X1_gather 32 rfl) rfl ?_
        refine e_if (fun h7 => ?_)
        refine e_iast' (dt dk_X1_gather 33 rfl) rfl h7 ?_
        refine e_aload_n (dt dk_X1_gather 34 rfl) rfl ?_
        refine e_dup (dt dk_X1_gather 35 rfl) rfl ?_
        refine e_getI (v := (M 21 3)) ci_X1 (dt dk_X1_gather 36 rfl) rfl (by decide) rfl fl_X1_32 rfl ?_
        refine e_iconst (v := (1 : Int32)) (dt dk_X1_gather 37 rfl) (by decide) ?_
        refine e_iadd (dt dk_X1_gather 38 rfl) ?_
        refine e_putI (ty := .int) ci_X1 (dt dk_X1_gather 39 rfl) rfl (by decide) rfl fl_X1_32 rfl (by decide +kernel) rfl rfl ?_
        refine e_iinc [some (.ref 21), some (.ref 19), some (.int v2), some (.int (v3 + (1 : Int32)))] (dt dk_X1_gather 40 rfl) rfl rfl rfl rfl ?_
        refine e_goto 15 (dt dk_X1_gather 41 rfl) (by decide) ?_
        exact e_forget [true, true, true, true] [some (.ref 21), some (.ref 19), some (.int v2), some (.int (v3 + (1 : Int32)))] ⟨rfl, rfl⟩ (hK15 v2 (v3 + (1 : Int32)) (up2 (up2 (up2 M 22 (ix (M 21 3)) v2) 23 (ix (M 21 3)) v3) 21 3 ((M 21 3) + (1 : Int32))))
def lp_X1_gather_21_19_15 (K7 : Int32 → Mem → Option Mem) : Nat → Int32 → Int32 → Mem → Option Mem
  | 0 => fun _ _ _ => none
  | n + 1 => bd_X1_gather_21_19_15 K7 (lp_X1_gather_21_19_15 K7 n)
theorem ev_lp_X1_gather_21_19_15 (K7 : Int32 → Mem → Option Mem) (hK7 : ∀ (v2 : Int32) (M : Mem), Ev none wV RX1 cX1_gather none 3 7 [some (.ref 21), some (.ref 19), some (.int v2), none] [] M (K7 v2 M)) : ∀ (n : Nat), ∀ (v2 : Int32) (v3 : Int32) (M : Mem), Ev none wV RX1 cX1_gather none 3 15 [some (.ref 21), some (.ref 19), some (.int v2), some (.int v3)] [] M (lp_X1_gather_21_19_15 K7 n v2 v3 M)
  | 0 => fun _ _ _ => e_none
  | n + 1 => ev_bd_X1_gather_21_19_15 K7 (lp_X1_gather_21_19_15 K7 n) hK7 (ev_lp_X1_gather_21_19_15 K7 hK7 n)
def bd_X1_gather_21_19_7  (K7 : Int32 → Mem → Option Mem) (v2 : Int32) (M : Mem) : Option Mem :=
  (if (9 : Int32) < v2 then some M else (lp_X1_gather_21_19_15 K7 FU v2 (0 : Int32) M))
set_option maxRecDepth 20000 in
set_option maxHeartbeats 2000000 in
theorem ev_bd_X1_gather_21_19_7  (K7 : Int32 → Mem → Option Mem)  (hK7 : ∀ (v2 : Int32) (M : Mem), Ev none wV RX1 cX1_gather none 3 7 [some (.ref 21), some (.ref 19), some (.int v2), none] [] M (K7 v2 M)) (v2 : Int32) (M : Mem) : Ev none wV RX1 cX1_gather none 3 7 [some (.ref 21), some (.ref 19), some (.int v2), none] [] M (bd_X1_gather_21_19_7 K7 v2 M) := by
  unfold bd_X1_gather_21_19_7
  refine e_iload_n (dt dk_X1_gather 5 rfl) rfl ?_
  refine e_bipush (v := (9 : Int32)) (dt dk_X1_gather 6 rfl) (by decide) ?_
  refine e_icmp_gt 81 (dt dk_X1_gather 7 rfl) (by decide) (fun h1 => ?_) (fun h1 => ?_)
  · exact e_vret (dt dk_X1_gather 44 rfl) rfl rfl
  · refine e_iconst (v := (0 : Int32)) (dt dk_X1_gather 8 rfl) (by decide) ?_
    refine e_istore_n [some (.ref 21), some (.ref 19), some (.int v2), some (.int (0 : Int32))] (dt dk_X1_gather 9 rfl) rfl rfl rfl ?_
    exact e_forget [true, true, true, true] [some (.ref 21), some (.ref 19), some (.int v2), some (.int (0 : Int32))] ⟨rfl, rfl⟩ (ev_lp_X1_gather_21_19_15 K7 hK7 FU v2 (0 : Int32) M)
def lp_X1_gather_21_19_7  : Nat → Int32 → Mem → Option Mem
  | 0 => fun _ _ => none
  | n + 1 => bd_X1_gather_21_19_7 (lp_X1_gather_21_19_7 n)
theorem ev_lp_X1_gather_21_19_7   : ∀ (n : Nat), ∀ (v2 : Int32) (M : Mem), Ev none wV RX1 cX1_gather none 3 7 [some (.ref 21), some (.ref 19), some (.int v2), none] [] M (lp_X1_gather_21_19_7 n v2 M)
  | 0 => fun _ _ => e_none
  | n + 1 => ev_bd_X1_gather_21_19_7 (lp_X1_gather_21_19_7 n) (ev_lp_X1_gather_21_19_7 n)
def f_X1_gather_21_19  (M : Mem) : Option Mem :=
  (lp_X1_gather_21_19_7 FU (1 : Int32) (up2 M 21 3 (0 : Int32)))
set_option maxRecDepth 20000 in
set_option maxHeartbeats 2000000 in
theorem sp_X1_gather_21_19  (M : Mem) : SpO wV yX1_gather cX1_gather 4 none 3 [.ref 21, .ref 19] M (f_X1_gather_21_19 M) := by
  refine sp_of (L := [some (.ref 21), some (.ref 19), none, none]) rfl (by decide +kernel) rfl rfl ?_
  unfold f_X1_gather_21_19
  refine e_aload_n (dt dk_X1_gather 0 rfl) rfl ?_
  refine e_iconst (v := (0 : Int32)) (dt dk_X1_gather 1 rfl) (by decide) ?_
  refine e_putI (ty := .int) ci_X1 (dt dk_X1_gather 2 rfl) rfl (by decide) rfl fl_X1_32 rfl (by decide +kernel) rfl rfl ?_
  refine e_iconst (v := (1 : Int32)) (dt dk_X1_gather 3 rfl) (by decide) ?_
  refine e_istore_n [some (.ref 21), some (.ref 19), some (.int (1 : Int32)), none] (dt dk_X1_gather 4 rfl) rfl rfl rfl ?_
  exact e_forget [true, true, true, false] [some (.ref 21), some (.ref 19), some (.int (1 : Int32)), none] ⟨rfl, rfl⟩ (ev_lp_X1_gather_21_19_7 FU (1 : Int32) (up2 M 21 3 (0 : Int32)))
-- J7_fill_53178_24 (W, depth 0)
def bd_J7_fill_53178_24_5  (K5 : Int32 → Int32 → Int32 → Mem → Option Mem) (v1 : Int32) (v2 : Int32) (v3 : Int32) (M : Mem) : Option Mem :=
  (if v3 ≤ v2 then some M else if inb v2 100 then (K5 v1 (v2 + (1 : Int32)) v3 (up2 M 24 (ix v2) v1)) else none)
set_option maxRecDepth 20000 in
set_option maxHeartbeats 2000000 in
theorem ev_bd_J7_fill_53178_24_5  (K5 : Int32 → Int32 → Int32 → Mem → Option Mem)  (hK5 : ∀ (v1 : Int32) (v2 : Int32) (v3 : Int32) (M : Mem), Ev none wV RJ7 cJ7_fill_53178 none 0 5 [some (.ref 24), some (.int v1), some (.int v2), some (.int v3)] [] M (K5 v1 v2 v3 M)) (v1 : Int32) (v2 : Int32) (v3 : Int32) (M : Mem) : Ev none wV RJ7 cJ7_fill_53178 none 0 5 [some (.ref 24), some (.int v1), some (.int v2), some (.int v3)] [] M (bd_J7_fill_53178_24_5 K5 v1 v2 v3 M) := by
  unfold bd_J7_fill_53178_24_5
  refine e_iload_n (dt dk_J7_fill_53178 5 rfl) rfl ?_
  refine e_iload_n (dt dk_J7_fill_53178 6 rfl) rfl ?_
  refine e_icmp_ge 20 (dt dk_J7_fill_53178 7 rfl) (by decide) (fun h1 => ?_) (fun h1 => ?_)
  · exact e_vret (dt dk_J7_fill_53178 14 rfl) rfl rfl
  · refine e_aload_n (dt dk_J7_fill_53178 8 rfl) rfl ?_
    refine e_iload_n (dt dk_J7_fill_53178 9 rfl) rfl ?_
    refine e_iload_n (dt dk_J7_fill_53178 10 rfl) rfl ?_
    refine e_if (fun h2 => ?_)
    refine e_iast' (dt dk_J7_fill_53178 11 rfl) rfl h2 ?_
    refine e_iinc [some (.ref 24), some (.int v1), some (.int (v2 + (1 : Int32))), some (.int v3)] (dt dk_J7_fill_53178 12 rfl) rfl rfl rfl rfl ?_
    refine e_goto 5 (dt dk_J7_fill_53178 13 rfl) (by decide) ?_
    exact e_forget [true, true, true, true] [some (.ref 24), some (.int v1), some (.int (v2 + (1 : Int32))), some (.int v3)] ⟨rfl, rfl⟩ (hK5 v1 (v2 + (1 : Int32)) v3 (up2 M 24 (ix v2) v1))
def lp_J7_fill_53178_24_5  : Nat → Int32 → Int32 → Int32 → Mem → Option Mem
  | 0 => fun _ _ _ _ => none
  | n + 1 => bd_J7_fill_53178_24_5 (lp_J7_fill_53178_24_5 n)
theorem ev_lp_J7_fill_53178_24_5   : ∀ (n : Nat), ∀ (v1 : Int32) (v2 : Int32) (v3 : Int32) (M : Mem), Ev none wV RJ7 cJ7_fill_53178 none 0 5 [some (.ref 24), some (.int v1), some (.int v2), some (.int v3)] [] M (lp_J7_fill_53178_24_5 n v1 v2 v3 M)
  | 0 => fun _ _ _ _ => e_none
  | n + 1 => ev_bd_J7_fill_53178_24_5 (lp_J7_fill_53178_24_5 n) (ev_lp_J7_fill_53178_24_5 n)
def f_J7_fill_53178_24 (v1 : Int32) (M : Mem) : Option Mem :=
  (lp_J7_fill_53178_24_5 FU v1 (0 : Int32) (100 : Int32) M)
set_option maxRecDepth 20000 in
set_option maxHeartbeats 2000000 in
theorem sp_J7_fill_53178_24 (v1 : Int32) (M : Mem) : SpO wV yJ7_fill_53178 cJ7_fill_53178 4 none 0 [.ref 24, .int v1] M (f_J7_fill_53178_24 v1 M) := by
  refine sp_of (L := [some (.ref 24), some (.int v1), none, none]) rfl (by decide +kernel) rfl rfl ?_
  unfold f_J7_fill_53178_24
  refine e_iconst (v := (0 : Int32)) (dt dk_J7_fill_53178 0 rfl) (by decide) ?_
  refine e_istore_n [some (.ref 24), some (.int v1), some (.int (0 : Int32)), none] (dt dk_J7_fill_53178 1 rfl) rfl rfl rfl ?_
  refine e_aload_n (dt dk_J7_fill_53178 2 rfl) rfl ?_
  refine e_len (v := (100 : Int32)) (dt dk_J7_fill_53178 3 rfl) rfl (by decide) ?_
  refine e_istore_n [some (.ref 24), some (.int v1), some (.int (0 : Int32)), some (.int (100 : Int32))] (dt dk_J7_fill_53178 4 rfl) rfl rfl rfl ?_
  exact e_forget [true, true, true, true] [some (.ref 24), some (.int v1), some (.int (0 : Int32)), some (.int (100 : Int32))] ⟨rfl, rfl⟩ (ev_lp_J7_fill_53178_24_5 FU v1 (0 : Int32) (100 : Int32) M)
-- X1_mostAlike_21 (W, depth 1)
def bd_X1_mostAlike_21_12  (K12 : Int32 → Int32 → Mem → Option (Int32 × Mem)) (v1 : Int32) (v2 : Int32) (M : Mem) : Option (Int32 × Mem) :=
  (if (M 21 3) ≤ v2 then some (v1, M) else if inb v2 90 then (if (f_X9_within (M 22 (ix v2)) (0 : Int32) (99 : Int32)) = 0 then (K12 v1 (v2 + (1 : Int32)) M) else if inb (M 22 (ix v2)) 100 then if inb (M 22 (ix v2)) 100 then if inb (M 22 (ix v2)) 100 then (K12 (maxI v1 ((up2 M 24 (ix (M 22 (ix v2))) ((M 24 (ix (M 22 (ix v2)))) + (1 : Int32))) 24 (ix (M 22 (ix v2))))) (v2 + (1 : Int32)) (up2 M 24 (ix (M 22 (ix v2))) ((M 24 (ix (M 22 (ix v2)))) + (1 : Int32)))) else none else none else none) else none)
set_option maxRecDepth 20000 in
set_option maxHeartbeats 2000000 in
theorem ev_bd_X1_mostAlike_21_12  (K12 : Int32 → Int32 → Mem → Option (Int32 × Mem))  (hK12 : ∀ (v1 : Int32) (v2 : Int32) (M : Mem), Ev none wI RX1 cX1_mostAlike (some .int) 1 12 [some (.ref 21), some (.int v1), some (.int v2), none] [] M (K12 v1 v2 M)) (v1 : Int32) (v2 : Int32) (M : Mem) : Ev none wI RX1 cX1_mostAlike (some .int) 1 12 [some (.ref 21), some (.int v1), some (.int v2), none] [] M (bd_X1_mostAlike_21_12 K12 v1 v2 M) := by
  unfold bd_X1_mostAlike_21_12
  refine e_iload_n (dt dk_X1_mostAlike 8 rfl) rfl ?_
  refine e_aload_n (dt dk_X1_mostAlike 9 rfl) rfl ?_
  refine e_getI (v := (M 21 3)) ci_X1 (dt dk_X1_mostAlike 10 rfl) rfl (by decide) rfl fl_X1_32 rfl ?_
  refine e_icmp_ge 64 (dt dk_X1_mostAlike 11 rfl) (by decide) (fun h2 => ?_) (fun h2 => ?_)
  · refine e_iload_n (dt dk_X1_mostAlike 39 rfl) rfl ?_
    exact e_iret (dt dk_X1_mostAlike 40 rfl) rfl rfl rfl
  · refine e_aload_n (dt dk_X1_mostAlike 12 rfl) rfl ?_
    refine e_getR ci_X1 (dt dk_X1_mostAlike 13 rfl) rfl (by decide) rfl fl_X1_9 ?_
    refine e_iload_n (dt dk_X1_mostAlike 14 rfl) rfl ?_
    refine e_if (fun h3 => ?_)
    refine e_iald' (v := (M 22 (ix v2))) (dt dk_X1_mostAlike 15 rfl) rfl h3 rfl ?_
    refine e_istore_n [some (.ref 21), some (.int v1), some (.int v2), some (.int (M 22 (ix v2)))] (dt dk_X1_mostAlike 16 rfl) rfl rfl rfl ?_
    refine e_iload_n (dt dk_X1_mostAlike 17 rfl) rfl ?_
    refine e_iconst (v := (0 : Int32)) (dt dk_X1_mostAlike 18 rfl) (by decide) ?_
    refine e_bipush (v := (99 : Int32)) (dt dk_X1_mostAlike 19 rfl) (by decide) ?_
    refine ev_callT (ca_SN ms_X9_within (sp_X9_within (M 22 (ix v2)) (0 : Int32) (99 : Int32) M) (dt dk_X1_mostAlike 20 rfl) mn_X1_54 rfl rfl rfl (by decide) : Ca _ _ _ _ _ _ _ _ [] _ _) ?_
    show Ev _ _ _ _ _ _ 34 [some (.ref 21), some (.int v1), some (.int v2), some (.int (M 22 (ix v2)))] [.int (f_X9_within (M 22 (ix v2)) (0 : Int32) (99 : Int32))] M _
    refine e_if_eq 58 (dt dk_X1_mostAlike 21 rfl) (by decide) (fun h4 => ?_) (fun h4 => ?_)
    · refine e_iinc [some (.ref 21), some (.int v1), some (.int (v2 + (1 : Int32))), some (.int (M 22 (ix v2)))] (dt dk_X1_mostAlike 37 rfl) rfl rfl rfl rfl ?_
      refine e_goto 12 (dt dk_X1_mostAlike 38 rfl) (by decide) ?_
      exact e_forget [true, true, true, false] [some (.ref 21), some (.int v1), some (.int (v2 + (1 : Int32))), none] ⟨rfl, rfl⟩ (hK12 v1 (v2 + (1 : Int32)) M)
    · refine e_aload_n (dt dk_X1_mostAlike 22 rfl) rfl ?_
      refine e_getR ci_X1 (dt dk_X1_mostAlike 23 rfl) rfl (by decide) rfl fl_X1_18 ?_
      refine e_iload_n (dt dk_X1_mostAlike 24 rfl) rfl ?_
      refine e_dup2 (dt dk_X1_mostAlike 25 rfl) rfl rfl ?_
      refine e_if (fun h5 => ?_)
      refine e_iald' (v := (M 24 (ix (M 22 (ix v2))))) (dt dk_X1_mostAlike 26 rfl) rfl h5 rfl ?_
      refine e_iconst (v := (1 : Int32)) (dt dk_X1_mostAlike 27 rfl) (by decide) ?_
      refine e_iadd (dt dk_X1_mostAlike 28 rfl) ?_
      refine e_if (fun h6 => ?_)
      refine e_iast' (dt dk_X1_mostAlike 29 rfl) rfl h6 ?_
      refine e_iload_n (dt dk_X1_mostAlike 30 rfl) rfl ?_
      refine e_aload_n (dt dk_X1_mostAlike 31 rfl) rfl ?_
      refine e_getR ci_X1 (dt dk_X1_mostAlike 32 rfl) rfl (by decide) rfl fl_X1_18 ?_
      refine e_iload_n (dt dk_X1_mostAlike 33 rfl) rfl ?_
      refine e_if (fun h7 => ?_)
      refine e_iald' (v := ((up2 M 24 (ix (M 22 (ix v2))) ((M 24 (ix (M 22 (ix v2)))) + (1 : Int32))) 24 (ix (M 22 (ix v2))))) (dt dk_X1_mostAlike 34 rfl) rfl h7 rfl ?_
      refine e_max ok_max (dt dk_X1_mostAlike 35 rfl) ml_X1_58 rfl (by decide) ?_
      show Ev _ _ _ _ _ _ 57 [some (.ref 21), some (.int v1), some (.int v2), some (.int (M 22 (ix v2)))] [.int (maxI v1 ((up2 M 24 (ix (M 22 (ix v2))) ((M 24 (ix (M 22 (ix v2)))) + (1 : Int32))) 24 (ix (M 22 (ix v2)))))] (up2 M 24 (ix (M 22 (ix v2))) ((M 24 (ix (M 22 (ix v2)))) + (1 : Int32))) _
      refine e_istore_n [some (.ref 21), some (.int (maxI v1 ((up2 M 24 (ix (M 22 (ix v2))) ((M 24 (ix (M 22 (ix v2)))) + (1 : Int32))) 24 (ix (M 22 (ix v2)))))), some (.int v2), some (.int (M 22 (ix v2)))] (dt dk_X1_mostAlike 36 rfl) rfl rfl rfl ?_
      refine e_iinc [some (.ref 21), some (.int (maxI v1 ((up2 M 24 (ix (M 22 (ix v2))) ((M 24 (ix (M 22 (ix v2)))) + (1 : Int32))) 24 (ix (M 22 (ix v2)))))), some (.int (v2 + (1 : Int32))), some (.int (M 22 (ix v2)))] (dt dk_X1_mostAlike 37 rfl) rfl rfl rfl rfl ?_
      refine e_goto 12 (dt dk_X1_mostAlike 38 rfl) (by decide) ?_
      exact e_forget [true, true, true, false] [some (.ref 21), some (.int (maxI v1 ((up2 M 24 (ix (M 22 (ix v2))) ((M 24 (ix (M 22 (ix v2)))) + (1 : Int32))) 24 (ix (M 22 (ix v2)))))), some (.int (v2 + (1 : Int32))), none] ⟨rfl, rfl⟩ (hK12 (maxI v1 ((up2 M 24 (ix (M 22 (ix v2))) ((M 24 (ix (M 22 (ix v2)))) + (1 : Int32))) 24 (ix (M 22 (ix v2))))) (v2 + (1 : Int32)) (up2 M 24 (ix (M 22 (ix v2))) ((M 24 (ix (M 22 (ix v2)))) + (1 : Int32))))
def lp_X1_mostAlike_21_12  : Nat → Int32 → Int32 → Mem → Option (Int32 × Mem)
  | 0 => fun _ _ _ => none
  | n + 1 => bd_X1_mostAlike_21_12 (lp_X1_mostAlike_21_12 n)
theorem ev_lp_X1_mostAlike_21_12   : ∀ (n : Nat), ∀ (v1 : Int32) (v2 : Int32) (M : Mem), Ev none wI RX1 cX1_mostAlike (some .int) 1 12 [some (.ref 21), some (.int v1), some (.int v2), none] [] M (lp_X1_mostAlike_21_12 n v1 v2 M)
  | 0 => fun _ _ _ => e_none
  | n + 1 => ev_bd_X1_mostAlike_21_12 (lp_X1_mostAlike_21_12 n) (ev_lp_X1_mostAlike_21_12 n)
def f_X1_mostAlike_21  (M : Mem) : Option (Int32 × Mem) :=
  ((f_J7_fill_53178_24 (0 : Int32) M)).bind fun q1 => (lp_X1_mostAlike_21_12 FU (0 : Int32) (0 : Int32) q1)
set_option maxRecDepth 20000 in
set_option maxHeartbeats 2000000 in
theorem sp_X1_mostAlike_21  (M : Mem) : SpO wI yX1_mostAlike cX1_mostAlike 4 (some .int) 1 [.ref 21] M (f_X1_mostAlike_21 M) := by
  refine sp_of (L := [some (.ref 21), none, none, none]) rfl (by decide +kernel) rfl rfl ?_
  unfold f_X1_mostAlike_21
  refine e_aload_n (dt dk_X1_mostAlike 0 rfl) rfl ?_
  refine e_getR ci_X1 (dt dk_X1_mostAlike 1 rfl) rfl (by decide) rfl fl_X1_18 ?_
  refine e_iconst (v := (0 : Int32)) (dt dk_X1_mostAlike 2 rfl) (by decide) ?_
  refine ev_call (ca_S ms_J7_fill_53178 (sp_J7_fill_53178_24 (0 : Int32) M) (dt dk_X1_mostAlike 3 rfl) ml_X1_48 rfl rfl rfl (by decide) : Ca _ _ _ _ _ _ _ _ [] _ _) (fun q1 hq1 => ?_)
  show Ev _ _ _ _ _ _ 8 [some (.ref 21), none, none, none] [] q1 _
  refine e_iconst (v := (0 : Int32)) (dt dk_X1_mostAlike 4 rfl) (by decide) ?_
  refine e_istore_n [some (.ref 21), some (.int (0 : Int32)), none, none] (dt dk_X1_mostAlike 5 rfl) rfl rfl rfl ?_
  refine e_iconst (v := (0 : Int32)) (dt dk_X1_mostAlike 6 rfl) (by decide) ?_
  refine e_istore_n [some (.ref 21), some (.int (0 : Int32)), some (.int (0 : Int32)), none] (dt dk_X1_mostAlike 7 rfl) rfl rfl rfl ?_
  exact e_forget [true, true, true, false] [some (.ref 21), some (.int (0 : Int32)), some (.int (0 : Int32)), none] ⟨rfl, rfl⟩ (ev_lp_X1_mostAlike_21_12 FU (0 : Int32) (0 : Int32) q1)
-- X1_breedAll_21 (W, depth 2)
def bd_X1_breedAll_21_2  (K2 : Int32 → Mem → Option Mem) (v1 : Int32) (M : Mem) : Option Mem :=
  (if (M 21 3) ≤ v1 then some M else if inb v1 90 then if inb v1 90 then if inb v1 90 then (K2 (v1 + (1 : Int32)) (up2 M 22 (ix v1) (f_X9_grown (M 22 (ix v1)) (M 23 (ix v1))))) else none else none else none)
set_option maxRecDepth 20000 in
set_option maxHeartbeats 2000000 in
theorem ev_bd_X1_breedAll_21_2  (K2 : Int32 → Mem → Option Mem)  (hK2 : ∀ (v1 : Int32) (M : Mem), Ev none wV RX1 cX1_breedAll none 2 2 [some (.ref 21), some (.int v1)] [] M (K2 v1 M)) (v1 : Int32) (M : Mem) : Ev none wV RX1 cX1_breedAll none 2 2 [some (.ref 21), some (.int v1)] [] M (bd_X1_breedAll_21_2 K2 v1 M) := by
  unfold bd_X1_breedAll_21_2
  refine e_iload_n (dt dk_X1_breedAll 2 rfl) rfl ?_
  refine e_aload_n (dt dk_X1_breedAll 3 rfl) rfl ?_
  refine e_getI (v := (M 21 3)) ci_X1 (dt dk_X1_breedAll 4 rfl) rfl (by decide) rfl fl_X1_32 rfl ?_
  refine e_icmp_ge 37 (dt dk_X1_breedAll 5 rfl) (by decide) (fun h1 => ?_) (fun h1 => ?_)
  · exact e_vret (dt dk_X1_breedAll 21 rfl) rfl rfl
  · refine e_aload_n (dt dk_X1_breedAll 6 rfl) rfl ?_
    refine e_getR ci_X1 (dt dk_X1_breedAll 7 rfl) rfl (by decide) rfl fl_X1_9 ?_
    refine e_iload_n (dt dk_X1_breedAll 8 rfl) rfl ?_
    refine e_aload_n (dt dk_X1_breedAll 9 rfl) rfl ?_
    refine e_getR ci_X1 (dt dk_X1_breedAll 10 rfl) rfl (by decide) rfl fl_X1_9 ?_
    refine e_iload_n (dt dk_X1_breedAll 11 rfl) rfl ?_
    refine e_if (fun h2 => ?_)
    refine e_iald' (v := (M 22 (ix v1))) (dt dk_X1_breedAll 12 rfl) rfl h2 rfl ?_
    refine e_aload_n (dt dk_X1_breedAll 13 rfl) rfl ?_
    refine e_getR ci_X1 (dt dk_X1_breedAll 14 rfl) rfl (by decide) rfl fl_X1_15 ?_
    refine e_iload_n (dt dk_X1_breedAll 15 rfl) rfl ?_
    refine e_if (fun h3 => ?_)
    refine e_iald' (v := (M 23 (ix v1))) (dt dk_X1_breedAll 16 rfl) rfl h3 rfl ?_
    refine ev_callT (ca_SN ms_X9_grown (sp_X9_grown (M 22 (ix v1)) (M 23 (ix v1)) M) (dt dk_X1_breedAll 17 rfl) mn_X1_64 rfl rfl rfl (by decide) : Ca _ _ _ _ _ _ _ _ [.int v1, .ref 22] _ _) ?_
    show Ev _ _ _ _ _ _ 30 [some (.ref 21), some (.int v1)] [.int (f_X9_grown (M 22 (ix v1)) (M 23 (ix v1))), .int v1, .ref 22] M _
    refine e_if (fun h4 => ?_)
    refine e_iast' (dt dk_X1_breedAll 18 rfl) rfl h4 ?_
    refine e_iinc [some (.ref 21), some (.int (v1 + (1 : Int32)))] (dt dk_X1_breedAll 19 rfl) rfl rfl rfl rfl ?_
    refine e_goto 2 (dt dk_X1_breedAll 20 rfl) (by decide) ?_
    exact e_forget [true, true] [some (.ref 21), some (.int (v1 + (1 : Int32)))] ⟨rfl, rfl⟩ (hK2 (v1 + (1 : Int32)) (up2 M 22 (ix v1) (f_X9_grown (M 22 (ix v1)) (M 23 (ix v1)))))
def lp_X1_breedAll_21_2  : Nat → Int32 → Mem → Option Mem
  | 0 => fun _ _ => none
  | n + 1 => bd_X1_breedAll_21_2 (lp_X1_breedAll_21_2 n)
theorem ev_lp_X1_breedAll_21_2   : ∀ (n : Nat), ∀ (v1 : Int32) (M : Mem), Ev none wV RX1 cX1_breedAll none 2 2 [some (.ref 21), some (.int v1)] [] M (lp_X1_breedAll_21_2 n v1 M)
  | 0 => fun _ _ => e_none
  | n + 1 => ev_bd_X1_breedAll_21_2 (lp_X1_breedAll_21_2 n) (ev_lp_X1_breedAll_21_2 n)
def f_X1_breedAll_21  (M : Mem) : Option Mem :=
  (lp_X1_breedAll_21_2 FU (0 : Int32) M)
set_option maxRecDepth 20000 in
set_option maxHeartbeats 2000000 in
theorem sp_X1_breedAll_21  (M : Mem) : SpO wV yX1_breedAll cX1_breedAll 2 none 2 [.ref 21] M (f_X1_breedAll_21 M) := by
  refine sp_of (L := [some (.ref 21), none]) rfl (by decide +kernel) rfl rfl ?_
  unfold f_X1_breedAll_21
  refine e_iconst (v := (0 : Int32)) (dt dk_X1_breedAll 0 rfl) (by decide) ?_
  refine e_istore_n [some (.ref 21), some (.int (0 : Int32))] (dt dk_X1_breedAll 1 rfl) rfl rfl rfl ?_
  exact e_forget [true, true] [some (.ref 21), some (.int (0 : Int32))] ⟨rfl, rfl⟩ (ev_lp_X1_breedAll_21_2 FU (0 : Int32) M)
-- X1_weigh_21_19 (W, depth 4)
def lb_X1_weigh_21_19_64 (K19 : Int32 → Mem → Option Mem) (v2 : Int32) (M : Mem) : Option Mem :=
  ((f_X1_breedAll_21 M)).bind fun q6 => (K19 (v2 + (1 : Int32)) q6)
set_option maxRecDepth 20000 in
set_option maxHeartbeats 2000000 in
theorem ev_lb_X1_weigh_21_19_64 (K19 : Int32 → Mem → Option Mem) (hK19 : ∀ (v2 : Int32) (M : Mem), Ev none wV RX1 cX1_weigh none 4 19 [some (.ref 21), none, some (.int v2), none] [] M (K19 v2 M)) (v2 : Int32) (M : Mem) : Ev none wV RX1 cX1_weigh none 4 64 [some (.ref 21), none, some (.int v2), none] [] M (lb_X1_weigh_21_19_64 K19 v2 M) := by
  unfold lb_X1_weigh_21_19_64
  refine e_aload_n (dt dk_X1_weigh 34 rfl) rfl ?_
  refine ev_call (ca_V (k := 21) mv_X1_breedAll (sp_X1_breedAll_21 M) (dt dk_X1_weigh 35 rfl) ml_X1_39 rfl rfl rfl rfl rfl (by decide) : Ca _ _ _ _ _ _ _ _ [] _ _) (fun q6 hq6 => ?_)
  show Ev _ _ _ _ _ _ 68 [some (.ref 21), none, some (.int v2), none] [] q6 _
  refine e_iinc [some (.ref 21), none, some (.int (v2 + (1 : Int32))), none] (dt dk_X1_weigh 36 rfl) rfl rfl rfl rfl ?_
  refine e_goto 19 (dt dk_X1_weigh 37 rfl) (by decide) ?_
  exact e_forget [true, false, true, false] [some (.ref 21), none, some (.int (v2 + (1 : Int32))), none] ⟨rfl, rfl⟩ (hK19 (v2 + (1 : Int32)) q6)
def lb_X1_weigh_21_19_54 (K19 : Int32 → Mem → Option Mem) (v2 : Int32) (v3 : Int32) (M : Mem) : Option Mem :=
  (lb_X1_weigh_21_19_64 K19 v2 (up2 (up2 M 21 4 v2) 21 5 v3))
set_option maxRecDepth 20000 in
set_option maxHeartbeats 2000000 in
theorem ev_lb_X1_weigh_21_19_54 (K19 : Int32 → Mem → Option Mem) (hK19 : ∀ (v2 : Int32) (M : Mem), Ev none wV RX1 cX1_weigh none 4 19 [some (.ref 21), none, some (.int v2), none] [] M (K19 v2 M)) (v2 : Int32) (v3 : Int32) (M : Mem) : Ev none wV RX1 cX1_weigh none 4 54 [some (.ref 21), none, some (.int v2), some (.int v3)] [] M (lb_X1_weigh_21_19_54 K19 v2 v3 M) := by
  unfold lb_X1_weigh_21_19_54
  refine e_aload_n (dt dk_X1_weigh 28 rfl) rfl ?_
  refine e_iload_n (dt dk_X1_weigh 29 rfl) rfl ?_
  refine e_putI (ty := .int) ci_X1 (dt dk_X1_weigh 30 rfl) rfl (by decide) rfl fl_X1_25 rfl (by decide +kernel) rfl rfl ?_
  refine e_aload_n (dt dk_X1_weigh 31 rfl) rfl ?_
  refine e_iload_n (dt dk_X1_weigh 32 rfl) rfl ?_
  refine e_putI (ty := .int) ci_X1 (dt dk_X1_weigh 33 rfl) rfl (by decide) rfl fl_X1_29 rfl (by decide +kernel) rfl rfl ?_
  exact e_forget [true, false, true, false] [some (.ref 21), none, some (.int v2), none] ⟨rfl, rfl⟩ (ev_lb_X1_weigh_21_19_64 K19 hK19 v2 (up2 (up2 M 21 4 v2) 21 5 v3))
def bd_X1_weigh_21_19_19  (K19 : Int32 → Mem → Option Mem) (v2 : Int32) (M : Mem) : Option Mem :=
  (if (40 : Int32) < v2 then some M else (if (M 21 3) ≤ 0 then some M else ((f_X1_mostAlike_21 M)).bind fun q4 => (if (q4.2 21 4) = (-6 : Int32) then (lb_X1_weigh_21_19_54 K19 v2 q4.1 q4.2) else (if (q4.2 21 5) ≤ q4.1 then (lb_X1_weigh_21_19_64 K19 v2 q4.2) else (lb_X1_weigh_21_19_54 K19 v2 q4.1 q4.2)))))
set_option maxRecDepth 20000 in
set_option maxHeartbeats 2000000 in
theorem ev_bd_X1_weigh_21_19_19  (K19 : Int32 → Mem → Option Mem)  (hK19 : ∀ (v2 : Int32) (M : Mem), Ev none wV RX1 cX1_weigh none 4 19 [some (.ref 21), none, some (.int v2), none] [] M (K19 v2 M)) (v2 : Int32) (M : Mem) : Ev none wV RX1 cX1_weigh none 4 19 [some (.ref 21), none, some (.int v2), none] [] M (bd_X1_weigh_21_19_19 K19 v2 M) := by
  unfold bd_X1_weigh_21_19_19
  refine e_iload_n (dt dk_X1_weigh 11 rfl) rfl ?_
  refine e_bipush (v := (40 : Int32)) (dt dk_X1_weigh 12 rfl) (by decide) ?_
  refine e_icmp_gt 74 (dt dk_X1_weigh 13 rfl) (by decide) (fun h2 => ?_) (fun h2 => ?_)
  · exact e_vret (dt dk_X1_weigh 38 rfl) rfl rfl
  · refine e_aload_n (dt dk_X1_weigh 14 rfl) rfl ?_
    refine e_getI (v := (M 21 3)) ci_X1 (dt dk_X1_weigh 15 rfl) rfl (by decide) rfl fl_X1_32 rfl ?_
    refine e_if_le 74 (dt dk_X1_weigh 16 rfl) (by decide) (fun h3 => ?_) (fun h3 => ?_)
    · exact e_vret (dt dk_X1_weigh 38 rfl) rfl rfl
    · refine e_aload_n (dt dk_X1_weigh 17 rfl) rfl ?_
      refine ev_call (ca_V (k := 21) mv_X1_mostAlike (sp_X1_mostAlike_21 M) (dt dk_X1_weigh 18 rfl) ml_X1_35 rfl rfl rfl rfl rfl (by decide) : Ca _ _ _ _ _ _ _ _ [] _ _) (fun q4 hq4 => ?_)
      show Ev _ _ _ _ _ _ 36 [some (.ref 21), none, some (.int v2), none] [.int q4.1] q4.2 _
      refine e_istore_n [some (.ref 21), none, some (.int v2), some (.int q4.1)] (dt dk_X1_weigh 19 rfl) rfl rfl rfl ?_
      refine e_aload_n (dt dk_X1_weigh 20 rfl) rfl ?_
      refine e_getI (v := (q4.2 21 4)) ci_X1 (dt dk_X1_weigh 21 rfl) rfl (by decide) rfl fl_X1_25 rfl ?_
      refine e_bipush (v := (-6 : Int32)) (dt dk_X1_weigh 22 rfl) (by decide) ?_
      refine e_icmp_eq 54 (dt dk_X1_weigh 23 rfl) (by decide) (fun h5 => ?_) (fun h5 => ?_)
      · exact e_forget [true, false, true, true] [some (.ref 21), none, some (.int v2), some (.int q4.1)] ⟨rfl, rfl⟩ (ev_lb_X1_weigh_21_19_54 K19 hK19 v2 q4.1 q4.2)
      · refine e_iload_n (dt dk_X1_weigh 24 rfl) rfl ?_
        refine e_aload_n (dt dk_X1_weigh 25 rfl) rfl ?_
        refine e_getI (v := (q4.2 21 5)) ci_X1 (dt dk_X1_weigh 26 rfl) rfl (by decide) rfl fl_X1_29 rfl ?_
        refine e_icmp_ge 64 (dt dk_X1_weigh 27 rfl) (by decide) (fun h7 => ?_) (fun h7 => ?_)
        · exact e_forget [true, false, true, false] [some (.ref 21), none, some (.int v2), none] ⟨rfl, rfl⟩ (ev_lb_X1_weigh_21_19_64 K19 hK19 v2 q4.2)
        · exact e_forget [true, false, true, true] [some (.ref 21), none, some (.int v2), some (.int q4.1)] ⟨rfl, rfl⟩ (ev_lb_X1_weigh_21_19_54 K19 hK19 v2 q4.1 q4.2)
def lp_X1_weigh_21_19_19  : Nat → Int32 → Mem → Option Mem
  | 0 => fun _ _ => none
  | n + 1 => bd_X1_weigh_21_19_19 (lp_X1_weigh_21_19_19 n)
theorem ev_lp_X1_weigh_21_19_19   : ∀ (n : Nat), ∀ (v2 : Int32) (M : Mem), Ev none wV RX1 cX1_weigh none 4 19 [some (.ref 21), none, some (.int v2), none] [] M (lp_X1_weigh_21_19_19 n v2 M)
  | 0 => fun _ _ => e_none
  | n + 1 => ev_bd_X1_weigh_21_19_19 (lp_X1_weigh_21_19_19 n) (ev_lp_X1_weigh_21_19_19 n)
def f_X1_weigh_21_19  (M : Mem) : Option Mem :=
  ((f_X1_gather_21_19 M)).bind fun q1 => (lp_X1_weigh_21_19_19 FU (0 : Int32) (up2 (up2 q1 21 4 (-6 : Int32)) 21 5 (-6 : Int32)))
set_option maxRecDepth 20000 in
set_option maxHeartbeats 2000000 in
theorem sp_X1_weigh_21_19  (M : Mem) : SpO wV yX1_weigh cX1_weigh 4 none 4 [.ref 21, .ref 19] M (f_X1_weigh_21_19 M) := by
  refine sp_of (L := [some (.ref 21), some (.ref 19), none, none]) rfl (by decide +kernel) rfl rfl ?_
  unfold f_X1_weigh_21_19
  refine e_aload_n (dt dk_X1_weigh 0 rfl) rfl ?_
  refine e_aload_n (dt dk_X1_weigh 1 rfl) rfl ?_
  refine ev_call (ca_V (k := 21) mv_X1_gather (sp_X1_gather_21_19 M) (dt dk_X1_weigh 2 rfl) ml_X1_21 rfl rfl rfl rfl rfl (by decide) : Ca _ _ _ _ _ _ _ _ [] _ _) (fun q1 hq1 => ?_)
  show Ev _ _ _ _ _ _ 5 [some (.ref 21), some (.ref 19), none, none] [] q1 _
  refine e_aload_n (dt dk_X1_weigh 3 rfl) rfl ?_
  refine e_bipush (v := (-6 : Int32)) (dt dk_X1_weigh 4 rfl) (by decide) ?_
  refine e_putI (ty := .int) ci_X1 (dt dk_X1_weigh 5 rfl) rfl (by decide) rfl fl_X1_25 rfl (by decide +kernel) rfl rfl ?_
  refine e_aload_n (dt dk_X1_weigh 6 rfl) rfl ?_
  refine e_bipush (v := (-6 : Int32)) (dt dk_X1_weigh 7 rfl) (by decide) ?_
  refine e_putI (ty := .int) ci_X1 (dt dk_X1_weigh 8 rfl) rfl (by decide) rfl fl_X1_29 rfl (by decide +kernel) rfl rfl ?_
  refine e_iconst (v := (0 : Int32)) (dt dk_X1_weigh 9 rfl) (by decide) ?_
  refine e_istore_n [some (.ref 21), some (.ref 19), some (.int (0 : Int32)), none] (dt dk_X1_weigh 10 rfl) rfl rfl rfl ?_
  exact e_forget [true, false, true, false] [some (.ref 21), none, some (.int (0 : Int32)), none] ⟨rfl, rfl⟩ (ev_lp_X1_weigh_21_19_19 FU (0 : Int32) (up2 (up2 q1 21 4 (-6 : Int32)) 21 5 (-6 : Int32)))
-- X3_shutIn_28 (W, depth 0)
def bd_X3_shutIn_28_19 (K2 : Int32 → Mem → Option Mem) (K19 : Int32 → Int32 → Mem → Option Mem) (v1 : Int32) (v2 : Int32) (M : Mem) : Option Mem :=
  (if (8 : Int32) ≤ v2 then (K2 (v1 + (1 : Int32)) M) else if inb v2 8 then if inb v1 8 then (if ((M 29 (ix v2)) &&& ((M 30 (ix v1)) ^^^ (-1 : Int32))) = 0 then if inb v1 8 then if inb v1 8 then (K19 v1 (v2 + (1 : Int32)) (up2 M 31 (ix v1) ((M 31 (ix v1)) ||| ((1 : Int32) <<< (v2 &&& 31))))) else none else none else (K19 v1 (v2 + (1 : Int32)) M)) else none else none)
set_option maxRecDepth 20000 in
set_option maxHeartbeats 2000000 in
theorem ev_bd_X3_shutIn_28_19 (K2 : Int32 → Mem → Option Mem) (K19 : Int32 → Int32 → Mem → Option Mem) (hK2 : ∀ (v1 : Int32) (M : Mem), Ev none wV RX3 cX3_shutIn none 0 2 [some (.ref 28), some (.int v1), none] [] M (K2 v1 M)) (hK19 : ∀ (v1 : Int32) (v2 : Int32) (M : Mem), Ev none wV RX3 cX3_shutIn none 0 19 [some (.ref 28), some (.int v1), some (.int v2)] [] M (K19 v1 v2 M)) (v1 : Int32) (v2 : Int32) (M : Mem) : Ev none wV RX3 cX3_shutIn none 0 19 [some (.ref 28), some (.int v1), some (.int v2)] [] M (bd_X3_shutIn_28_19 K2 K19 v1 v2 M) := by
  unfold bd_X3_shutIn_28_19
  refine e_iload_n (dt dk_X3_shutIn 14 rfl) rfl ?_
  refine e_bipush (v := (8 : Int32)) (dt dk_X3_shutIn 15 rfl) (by decide) ?_
  refine e_icmp_ge 61 (dt dk_X3_shutIn 16 rfl) (by decide) (fun h3 => ?_) (fun h3 => ?_)
  · refine e_iinc [some (.ref 28), some (.int (v1 + (1 : Int32))), some (.int v2)] (dt dk_X3_shutIn 41 rfl) rfl rfl rfl rfl ?_
    refine e_goto 2 (dt dk_X3_shutIn 42 rfl) (by decide) ?_
    exact e_forget [true, true, false] [some (.ref 28), some (.int (v1 + (1 : Int32))), none] ⟨rfl, rfl⟩ (hK2 (v1 + (1 : Int32)) M)
  · refine e_aload_n (dt dk_X3_shutIn 17 rfl) rfl ?_
    refine e_getR ci_X3 (dt dk_X3_shutIn 18 rfl) rfl (by decide) rfl fl_X3_9 ?_
    refine e_iload_n (dt dk_X3_shutIn 19 rfl) rfl ?_
    refine e_if (fun h4 => ?_)
    refine e_iald' (v := (M 29 (ix v2))) (dt dk_X3_shutIn 20 rfl) rfl h4 rfl ?_
    refine e_aload_n (dt dk_X3_shutIn 21 rfl) rfl ?_
    refine e_getR ci_X3 (dt dk_X3_shutIn 22 rfl) rfl (by decide) rfl fl_X3_15 ?_
    refine e_iload_n (dt dk_X3_shutIn 23 rfl) rfl ?_
    refine e_if (fun h5 => ?_)
    refine e_iald' (v := (M 30 (ix v1))) (dt dk_X3_shutIn 24 rfl) rfl h5 rfl ?_
    refine e_iconst (v := (-1 : Int32)) (dt dk_X3_shutIn 25 rfl) (by decide) ?_
    refine e_ixor (dt dk_X3_shutIn 26 rfl) ?_
    refine e_iand (dt dk_X3_shutIn 27 rfl) ?_
    refine e_if_ne 55 (dt dk_X3_shutIn 28 rfl) (by decide) (fun h6 => ?_) (fun h6 => ?_)
    · refine e_aload_n (dt dk_X3_shutIn 29 rfl) rfl ?_
      refine e_getR ci_X3 (dt dk_X3_shutIn 30 rfl) rfl (by decide) rfl fl_X3_18 ?_
      refine e_iload_n (dt dk_X3_shutIn 31 rfl) rfl ?_
      refine e_dup2 (dt dk_X3_shutIn 32 rfl) rfl rfl ?_
      refine e_if (fun h7 => ?_)
      refine e_iald' (v := (M 31 (ix v1))) (dt dk_X3_shutIn 33 rfl) rfl h7 rfl ?_
      refine e_iconst (v := (1 : Int32)) (dt dk_X3_shutIn 34 rfl) (by decide) ?_
      refine e_iload_n (dt dk_X3_shutIn 35 rfl) rfl ?_
      refine e_ishl (dt dk_X3_shutIn 36 rfl) ?_
      refine e_ior (dt dk_X3_shutIn 37 rfl) ?_
      refine e_if (fun h8 => ?_)
      refine e_iast' (dt dk_X3_shutIn 38 rfl) rfl h8 ?_
      refine e_iinc [some (.ref 28), some (.int v1), some (.int (v2 + (1 : Int32)))] (dt dk_X3_shutIn 39 rfl) rfl rfl rfl rfl ?_
      refine e_goto 19 (dt dk_X3_shutIn 40 rfl) (by decide) ?_
      exact e_forget [true, true, true] [some (.ref 28), some (.int v1), some (.int (v2 + (1 : Int32)))] ⟨rfl, rfl⟩ (hK19 v1 (v2 + (1 : Int32)) (up2 M 31 (ix v1) ((M 31 (ix v1)) ||| ((1 : Int32) <<< (v2 &&& 31)))))
    · refine e_iinc [some (.ref 28), some (.int v1), some (.int (v2 + (1 : Int32)))] (dt dk_X3_shutIn 39 rfl) rfl rfl rfl rfl ?_
      refine e_goto 19 (dt dk_X3_shutIn 40 rfl) (by decide) ?_
      exact e_forget [true, true, true] [some (.ref 28), some (.int v1), some (.int (v2 + (1 : Int32)))] ⟨rfl, rfl⟩ (hK19 v1 (v2 + (1 : Int32)) M)
def lp_X3_shutIn_28_19 (K2 : Int32 → Mem → Option Mem) : Nat → Int32 → Int32 → Mem → Option Mem
  | 0 => fun _ _ _ => none
  | n + 1 => bd_X3_shutIn_28_19 K2 (lp_X3_shutIn_28_19 K2 n)
theorem ev_lp_X3_shutIn_28_19 (K2 : Int32 → Mem → Option Mem) (hK2 : ∀ (v1 : Int32) (M : Mem), Ev none wV RX3 cX3_shutIn none 0 2 [some (.ref 28), some (.int v1), none] [] M (K2 v1 M)) : ∀ (n : Nat), ∀ (v1 : Int32) (v2 : Int32) (M : Mem), Ev none wV RX3 cX3_shutIn none 0 19 [some (.ref 28), some (.int v1), some (.int v2)] [] M (lp_X3_shutIn_28_19 K2 n v1 v2 M)
  | 0 => fun _ _ _ => e_none
  | n + 1 => ev_bd_X3_shutIn_28_19 K2 (lp_X3_shutIn_28_19 K2 n) hK2 (ev_lp_X3_shutIn_28_19 K2 hK2 n)
def bd_X3_shutIn_28_2  (K2 : Int32 → Mem → Option Mem) (v1 : Int32) (M : Mem) : Option Mem :=
  (if (8 : Int32) ≤ v1 then some M else if inb v1 8 then (lp_X3_shutIn_28_19 K2 FU v1 (0 : Int32) (up2 M 31 (ix v1) ((1 : Int32) <<< (v1 &&& 31)))) else none)
set_option maxRecDepth 20000 in
set_option maxHeartbeats 2000000 in
theorem ev_bd_X3_shutIn_28_2  (K2 : Int32 → Mem → Option Mem)  (hK2 : ∀ (v1 : Int32) (M : Mem), Ev none wV RX3 cX3_shutIn none 0 2 [some (.ref 28), some (.int v1), none] [] M (K2 v1 M)) (v1 : Int32) (M : Mem) : Ev none wV RX3 cX3_shutIn none 0 2 [some (.ref 28), some (.int v1), none] [] M (bd_X3_shutIn_28_2 K2 v1 M) := by
  unfold bd_X3_shutIn_28_2
  refine e_iload_n (dt dk_X3_shutIn 2 rfl) rfl ?_
  refine e_bipush (v := (8 : Int32)) (dt dk_X3_shutIn 3 rfl) (by decide) ?_
  refine e_icmp_ge 67 (dt dk_X3_shutIn 4 rfl) (by decide) (fun h1 => ?_) (fun h1 => ?_)
  · exact e_vret (dt dk_X3_shutIn 43 rfl) rfl rfl
  · refine e_aload_n (dt dk_X3_shutIn 5 rfl) rfl ?_
    refine e_getR ci_X3 (dt dk_X3_shutIn 6 rfl) rfl (by decide) rfl fl_X3_18 ?_
    refine e_iload_n (dt dk_X3_shutIn 7 rfl) rfl ?_
    refine e_iconst (v := (1 : Int32)) (dt dk_X3_shutIn 8 rfl) (by decide) ?_
    refine e_iload_n (dt dk_X3_shutIn 9 rfl) rfl ?_
    refine e_ishl (dt dk_X3_shutIn 10 rfl) ?_
    refine e_if (fun h2 => ?_)
    refine e_iast' (dt dk_X3_shutIn 11 rfl) rfl h2 ?_
    refine e_iconst (v := (0 : Int32)) (dt dk_X3_shutIn 12 rfl) (by decide) ?_
    refine e_istore_n [some (.ref 28), some (.int v1), some (.int (0 : Int32))] (dt dk_X3_shutIn 13 rfl) rfl rfl rfl ?_
    exact e_forget [true, true, true] [some (.ref 28), some (.int v1), some (.int (0 : Int32))] ⟨rfl, rfl⟩ (ev_lp_X3_shutIn_28_19 K2 hK2 FU v1 (0 : Int32) (up2 M 31 (ix v1) ((1 : Int32) <<< (v1 &&& 31))))
def lp_X3_shutIn_28_2  : Nat → Int32 → Mem → Option Mem
  | 0 => fun _ _ => none
  | n + 1 => bd_X3_shutIn_28_2 (lp_X3_shutIn_28_2 n)
theorem ev_lp_X3_shutIn_28_2   : ∀ (n : Nat), ∀ (v1 : Int32) (M : Mem), Ev none wV RX3 cX3_shutIn none 0 2 [some (.ref 28), some (.int v1), none] [] M (lp_X3_shutIn_28_2 n v1 M)
  | 0 => fun _ _ => e_none
  | n + 1 => ev_bd_X3_shutIn_28_2 (lp_X3_shutIn_28_2 n) (ev_lp_X3_shutIn_28_2 n)
def f_X3_shutIn_28  (M : Mem) : Option Mem :=
  (lp_X3_shutIn_28_2 FU (0 : Int32) M)
set_option maxRecDepth 20000 in
set_option maxHeartbeats 2000000 in
theorem sp_X3_shutIn_28  (M : Mem) : SpO wV yX3_shutIn cX3_shutIn 3 none 0 [.ref 28] M (f_X3_shutIn_28 M) := by
  refine sp_of (L := [some (.ref 28), none, none]) rfl (by decide +kernel) rfl rfl ?_
  unfold f_X3_shutIn_28
  refine e_iconst (v := (0 : Int32)) (dt dk_X3_shutIn 0 rfl) (by decide) ?_
  refine e_istore_n [some (.ref 28), some (.int (0 : Int32)), none] (dt dk_X3_shutIn 1 rfl) rfl rfl rfl ?_
  exact e_forget [true, true, false] [some (.ref 28), some (.int (0 : Int32)), none] ⟨rfl, rfl⟩ (ev_lp_X3_shutIn_28_2 FU (0 : Int32) M)
-- X3_firstGoing_28 (R, depth 0)
def bd_X3_firstGoing_28_2 (M : Mem)  (K2 : Int32 → Int32 → Int32 → Option Int32) (v1 : Int32) (v2 : Int32) (v3 : Int32) : Option Int32 :=
  (if (8 : Int32) ≤ v3 then some (-6 : Int32) else if inb v1 8 then (if (((M 29 (ix v1)) >>> (v3 &&& 31)) &&& (1 : Int32)) = (1 : Int32) then if inb v3 8 then (if (((M 31 (ix v3)) >>> (v2 &&& 31)) &&& (1 : Int32)) = (1 : Int32) then some v3 else (K2 v1 v2 (v3 + (1 : Int32)))) else none else (K2 v1 v2 (v3 + (1 : Int32)))) else none)
set_option maxRecDepth 20000 in
set_option maxHeartbeats 2000000 in
theorem ev_bd_X3_firstGoing_28_2 (M : Mem)  (K2 : Int32 → Int32 → Int32 → Option Int32)  (hK2 : ∀ (v1 : Int32) (v2 : Int32) (v3 : Int32), Ev none (wR M) RX3 cX3_firstGoing (some .int) 0 2 [some (.ref 28), some (.int v1), some (.int v2), some (.int v3)] [] M (K2 v1 v2 v3)) (v1 : Int32) (v2 : Int32) (v3 : Int32) : Ev none (wR M) RX3 cX3_firstGoing (some .int) 0 2 [some (.ref 28), some (.int v1), some (.int v2), some (.int v3)] [] M (bd_X3_firstGoing_28_2 M K2 v1 v2 v3) := by
  unfold bd_X3_firstGoing_28_2
  refine e_iload_n (dt dk_X3_firstGoing 2 rfl) rfl ?_
  refine e_bipush (v := (8 : Int32)) (dt dk_X3_firstGoing 3 rfl) (by decide) ?_
  refine e_icmp_ge 44 (dt dk_X3_firstGoing 4 rfl) (by decide) (fun h1 => ?_) (fun h1 => ?_)
  · refine e_bipush (v := (-6 : Int32)) (dt dk_X3_firstGoing 29 rfl) (by decide) ?_
    exact e_iret (dt dk_X3_firstGoing 30 rfl) rfl rfl rfl
  · refine e_aload_n (dt dk_X3_firstGoing 5 rfl) rfl ?_
    refine e_getR ci_X3 (dt dk_X3_firstGoing 6 rfl) rfl (by decide) rfl fl_X3_9 ?_
    refine e_iload_n (dt dk_X3_firstGoing 7 rfl) rfl ?_
    refine e_if (fun h2 => ?_)
    refine e_iald' (v := (M 29 (ix v1))) (dt dk_X3_firstGoing 8 rfl) rfl h2 rfl ?_
    refine e_iload_n (dt dk_X3_firstGoing 9 rfl) rfl ?_
    refine e_ishr (dt dk_X3_firstGoing 10 rfl) ?_
    refine e_iconst (v := (1 : Int32)) (dt dk_X3_firstGoing 11 rfl) (by decide) ?_
    refine e_iand (dt dk_X3_firstGoing 12 rfl) ?_
    refine e_iconst (v := (1 : Int32)) (dt dk_X3_firstGoing 13 rfl) (by decide) ?_
    refine e_icmp_ne 38 (dt dk_X3_firstGoing 14 rfl) (by decide) (fun h3 => ?_) (fun h3 => ?_)
    · refine e_aload_n (dt dk_X3_firstGoing 15 rfl) rfl ?_
      refine e_getR ci_X3 (dt dk_X3_firstGoing 16 rfl) rfl (by decide) rfl fl_X3_18 ?_
      refine e_iload_n (dt dk_X3_firstGoing 17 rfl) rfl ?_
      refine e_if (fun h4 => ?_)
      refine e_iald' (v := (M 31 (ix v3))) (dt dk_X3_firstGoing 18 rfl) rfl h4 rfl ?_
      refine e_iload_n (dt dk_X3_firstGoing 19 rfl) rfl ?_
      refine e_ishr (dt dk_X3_firstGoing 20 rfl) ?_
      refine e_iconst (v := (1 : Int32)) (dt dk_X3_firstGoing 21 rfl) (by decide) ?_
      refine e_iand (dt dk_X3_firstGoing 22 rfl) ?_
      refine e_iconst (v := (1 : Int32)) (dt dk_X3_firstGoing 23 rfl) (by decide) ?_
      refine e_icmp_ne 38 (dt dk_X3_firstGoing 24 rfl) (by decide) (fun h5 => ?_) (fun h5 => ?_)
      · refine e_iload_n (dt dk_X3_firstGoing 25 rfl) rfl ?_
        exact e_iret (dt dk_X3_firstGoing 26 rfl) rfl rfl rfl
      · refine e_iinc [some (.ref 28), some (.int v1), some (.int v2), some (.int (v3 + (1 : Int32)))] (dt dk_X3_firstGoing 27 rfl) rfl rfl rfl rfl ?_
        refine e_goto 2 (dt dk_X3_firstGoing 28 rfl) (by decide) ?_
        exact e_forget [true, true, true, true] [some (.ref 28), some (.int v1), some (.int v2), some (.int (v3 + (1 : Int32)))] ⟨rfl, rfl⟩ (hK2 v1 v2 (v3 + (1 : Int32)))
    · refine e_iinc [some (.ref 28), some (.int v1), some (.int v2), some (.int (v3 + (1 : Int32)))] (dt dk_X3_firstGoing 27 rfl) rfl rfl rfl rfl ?_
      refine e_goto 2 (dt dk_X3_firstGoing 28 rfl) (by decide) ?_
      exact e_forget [true, true, true, true] [some (.ref 28), some (.int v1), some (.int v2), some (.int (v3 + (1 : Int32)))] ⟨rfl, rfl⟩ (hK2 v1 v2 (v3 + (1 : Int32)))
def lp_X3_firstGoing_28_2 (M : Mem)  : Nat → Int32 → Int32 → Int32 → Option Int32
  | 0 => fun _ _ _ => none
  | n + 1 => bd_X3_firstGoing_28_2 M (lp_X3_firstGoing_28_2 M n)
theorem ev_lp_X3_firstGoing_28_2 (M : Mem)   : ∀ (n : Nat), ∀ (v1 : Int32) (v2 : Int32) (v3 : Int32), Ev none (wR M) RX3 cX3_firstGoing (some .int) 0 2 [some (.ref 28), some (.int v1), some (.int v2), some (.int v3)] [] M (lp_X3_firstGoing_28_2 M n v1 v2 v3)
  | 0 => fun _ _ _ => e_none
  | n + 1 => ev_bd_X3_firstGoing_28_2 M (lp_X3_firstGoing_28_2 M n) (ev_lp_X3_firstGoing_28_2 M n)
def f_X3_firstGoing_28 (v1 : Int32) (v2 : Int32) (M : Mem) : Option Int32 :=
  (lp_X3_firstGoing_28_2 M FU v1 v2 (0 : Int32))
set_option maxRecDepth 20000 in
set_option maxHeartbeats 2000000 in
theorem sp_X3_firstGoing_28 (v1 : Int32) (v2 : Int32) (M : Mem) : SpO (wR M) yX3_firstGoing cX3_firstGoing 4 (some .int) 0 [.ref 28, .int v1, .int v2] M (f_X3_firstGoing_28 v1 v2 M) := by
  refine sp_of (L := [some (.ref 28), some (.int v1), some (.int v2), none]) rfl (by decide +kernel) rfl rfl ?_
  unfold f_X3_firstGoing_28
  refine e_iconst (v := (0 : Int32)) (dt dk_X3_firstGoing 0 rfl) (by decide) ?_
  refine e_istore_n [some (.ref 28), some (.int v1), some (.int v2), some (.int (0 : Int32))] (dt dk_X3_firstGoing 1 rfl) rfl rfl rfl ?_
  exact e_forget [true, true, true, true] [some (.ref 28), some (.int v1), some (.int v2), some (.int (0 : Int32))] ⟨rfl, rfl⟩ (ev_lp_X3_firstGoing_28_2 M FU v1 v2 (0 : Int32))
-- X3_widen_28 (W, depth 0)
def lb_X3_widen_28_74 (K4 : Int32 → Int32 → Mem → Option (Int32 × Mem)) (v2 : Int32) (v3 : Int32) (s0 : Int32) (s1 : Int32) (M : Mem) : Option (Int32 × Mem) :=
  if inb v2 8 then (K4 (s1 ||| s0) (v2 + (1 : Int32)) (up2 M 30 (ix v2) v3)) else none
set_option maxRecDepth 20000 in
set_option maxHeartbeats 2000000 in
theorem ev_lb_X3_widen_28_74 (K4 : Int32 → Int32 → Mem → Option (Int32 × Mem)) (hK4 : ∀ (v1 : Int32) (v2 : Int32) (M : Mem), Ev none wI RX3 cX3_widen (some .boolean) 0 4 [some (.ref 28), some (.int v1), some (.int v2), none, none] [] M (K4 v1 v2 M)) (v2 : Int32) (v3 : Int32) (s0 : Int32) (s1 : Int32) (M : Mem) : Ev none wI RX3 cX3_widen (some .boolean) 0 74 [some (.ref 28), none, some (.int v2), some (.int v3), none] [.int s0, .int s1] M (lb_X3_widen_28_74 K4 v2 v3 s0 s1 M) := by
  unfold lb_X3_widen_28_74
  refine e_ior (dt dk_X3_widen 46 rfl) ?_
  refine e_istore_n [some (.ref 28), some (.int (s1 ||| s0)), some (.int v2), some (.int v3), none] (dt dk_X3_widen 47 rfl) rfl rfl rfl ?_
  refine e_aload_n (dt dk_X3_widen 48 rfl) rfl ?_
  refine e_getR ci_X3 (dt dk_X3_widen 49 rfl) rfl (by decide) rfl fl_X3_15 ?_
  refine e_iload_n (dt dk_X3_widen 50 rfl) rfl ?_
  refine e_iload_n (dt dk_X3_widen 51 rfl) rfl ?_
  refine e_if (fun h6 => ?_)
  refine e_iast' (dt dk_X3_widen 52 rfl) rfl h6 ?_
  refine e_iinc [some (.ref 28), some (.int (s1 ||| s0)), some (.int (v2 + (1 : Int32))), some (.int v3), none] (dt dk_X3_widen 53 rfl) rfl rfl rfl rfl ?_
  refine e_goto 4 (dt dk_X3_widen 54 rfl) (by decide) ?_
  exact e_forget [true, true, true, false, false] [some (.ref 28), some (.int (s1 ||| s0)), some (.int (v2 + (1 : Int32))), none, none] ⟨rfl, rfl⟩ (hK4 (s1 ||| s0) (v2 + (1 : Int32)) (up2 M 30 (ix v2) v3))
def bd_X3_widen_28_20 (K4 : Int32 → Int32 → Mem → Option (Int32 × Mem)) (K20 : Int32 → Int32 → Int32 → Int32 → Mem → Option (Int32 × Mem)) (v1 : Int32) (v2 : Int32) (v3 : Int32) (v4 : Int32) (M : Mem) : Option (Int32 × Mem) :=
  (if (8 : Int32) ≤ v4 then if inb v2 8 then (if v3 = (M 30 (ix v2)) then (lb_X3_widen_28_74 K4 v2 v3 (0 : Int32) v1 M) else (lb_X3_widen_28_74 K4 v2 v3 (1 : Int32) v1 M)) else none else if inb v2 8 then (if (((M 29 (ix v2)) >>> (v4 &&& 31)) &&& (1 : Int32)) = (1 : Int32) then if inb v4 8 then (K20 v1 v2 (v3 ||| (M 31 (ix v4))) (v4 + (1 : Int32)) M) else none else (K20 v1 v2 v3 (v4 + (1 : Int32)) M)) else none)
set_option maxRecDepth 20000 in
set_option maxHeartbeats 2000000 in
theorem ev_bd_X3_widen_28_20 (K4 : Int32 → Int32 → Mem → Option (Int32 × Mem)) (K20 : Int32 → Int32 → Int32 → Int32 → Mem → Option (Int32 × Mem)) (hK4 : ∀ (v1 : Int32) (v2 : Int32) (M : Mem), Ev none wI RX3 cX3_widen (some .boolean) 0 4 [some (.ref 28), some (.int v1), some (.int v2), none, none] [] M (K4 v1 v2 M)) (hK20 : ∀ (v1 : Int32) (v2 : Int32) (v3 : Int32) (v4 : Int32) (M : Mem), Ev none wI RX3 cX3_widen (some .boolean) 0 20 [some (.ref 28), some (.int v1), some (.int v2), some (.int v3), some (.int v4)] [] M (K20 v1 v2 v3 v4 M)) (v1 : Int32) (v2 : Int32) (v3 : Int32) (v4 : Int32) (M : Mem) : Ev none wI RX3 cX3_widen (some .boolean) 0 20 [some (.ref 28), some (.int v1), some (.int v2), some (.int v3), some (.int v4)] [] M (bd_X3_widen_28_20 K4 K20 v1 v2 v3 v4 M) := by
  unfold bd_X3_widen_28_20
  refine e_iload (dt dk_X3_widen 14 rfl) rfl ?_
  refine e_bipush (v := (8 : Int32)) (dt dk_X3_widen 15 rfl) (by decide) ?_
  refine e_icmp_ge 58 (dt dk_X3_widen 16 rfl) (by decide) (fun h3 => ?_) (fun h3 => ?_)
  · refine e_iload_n (dt dk_X3_widen 36 rfl) rfl ?_
    refine e_iload_n (dt dk_X3_widen 37 rfl) rfl ?_
    refine e_aload_n (dt dk_X3_widen 38 rfl) rfl ?_
    refine e_getR ci_X3 (dt dk_X3_widen 39 rfl) rfl (by decide) rfl fl_X3_15 ?_
    refine e_iload_n (dt dk_X3_widen 40 rfl) rfl ?_
    refine e_if (fun h4 => ?_)
    refine e_iald' (v := (M 30 (ix v2))) (dt dk_X3_widen 41 rfl) rfl h4 rfl ?_
    refine e_icmp_eq 73 (dt dk_X3_widen 42 rfl) (by decide) (fun h5 => ?_) (fun h5 => ?_)
    · refine e_iconst (v := (0 : Int32)) (dt dk_X3_widen 45 rfl) (by decide) ?_
      exact e_forget [true, false, true, true, false] [some (.ref 28), none, some (.int v2), some (.int v3), none] ⟨rfl, rfl⟩ (ev_lb_X3_widen_28_74 K4 hK4 v2 v3 (0 : Int32) v1 M)
    · refine e_iconst (v := (1 : Int32)) (dt dk_X3_widen 43 rfl) (by decide) ?_
      refine e_goto 74 (dt dk_X3_widen 44 rfl) (by decide) ?_
      exact e_forget [true, false, true, true, false] [some (.ref 28), none, some (.int v2), some (.int v3), none] ⟨rfl, rfl⟩ (ev_lb_X3_widen_28_74 K4 hK4 v2 v3 (1 : Int32) v1 M)
  · refine e_aload_n (dt dk_X3_widen 17 rfl) rfl ?_
    refine e_getR ci_X3 (dt dk_X3_widen 18 rfl) rfl (by decide) rfl fl_X3_9 ?_
    refine e_iload_n (dt dk_X3_widen 19 rfl) rfl ?_
    refine e_if (fun h7 => ?_)
    refine e_iald' (v := (M 29 (ix v2))) (dt dk_X3_widen 20 rfl) rfl h7 rfl ?_
    refine e_iload (dt dk_X3_widen 21 rfl) rfl ?_
    refine e_ishr (dt dk_X3_widen 22 rfl) ?_
    refine e_iconst (v := (1 : Int32)) (dt dk_X3_widen 23 rfl) (by decide) ?_
    refine e_iand (dt dk_X3_widen 24 rfl) ?_
    refine e_iconst (v := (1 : Int32)) (dt dk_X3_widen 25 rfl) (by decide) ?_
    refine e_icmp_ne 52 (dt dk_X3_widen 26 rfl) (by decide) (fun h8 => ?_) (fun h8 => ?_)
    · refine e_iload_n (dt dk_X3_widen 27 rfl) rfl ?_
      refine e_aload_n (dt dk_X3_widen 28 rfl) rfl ?_
      refine e_getR ci_X3 (dt dk_X3_widen 29 rfl) rfl (by decide) rfl fl_X3_18 ?_
      refine e_iload (dt dk_X3_widen 30 rfl) rfl ?_
      refine e_if (fun h9 => ?_)
      refine e_iald' (v := (M 31 (ix v4))) (dt dk_X3_widen 31 rfl) rfl h9 rfl ?_
      refine e_ior (dt dk_X3_widen 32 rfl) ?_
      refine e_istore_n [some (.ref 28), some (.int v1), some (.int v2), some (.int (v3 ||| (M 31 (ix v4)))), some (.int v4)] (dt dk_X3_widen 33 rfl) rfl rfl rfl ?_
      refine e_iinc [some (.ref 28), some (.int v1), some (.int v2), some (.int (v3 ||| (M 31 (ix v4)))), some (.int (v4 + (1 : Int32)))] (dt dk_X3_widen 34 rfl) rfl rfl rfl rfl ?_
      refine e_goto 20 (dt dk_X3_widen 35 rfl) (by decide) ?_
      exact e_forget [true, true, true, true, true] [some (.ref 28), some (.int v1), some (.int v2), some (.int (v3 ||| (M 31 (ix v4)))), some (.int (v4 + (1 : Int32)))] ⟨rfl, rfl⟩ (hK20 v1 v2 (v3 ||| (M 31 (ix v4))) (v4 + (1 : Int32)) M)
    · refine e_iinc [some (.ref 28), some (.int v1), some (.int v2), some (.int v3), some (.int (v4 + (1 : Int32)))] (dt dk_X3_widen 34 rfl) rfl rfl rfl rfl ?_
      refine e_goto 20 (dt dk_X3_widen 35 rfl) (by decide) ?_
      exact e_forget [true, true, true, true, true] [some (.ref 28), some (.int v1), some (.int v2), some (.int v3), some (.int (v4 + (1 : Int32)))] ⟨rfl, rfl⟩ (hK20 v1 v2 v3 (v4 + (1 : Int32)) M)
def lp_X3_widen_28_20 (K4 : Int32 → Int32 → Mem → Option (Int32 × Mem)) : Nat → Int32 → Int32 → Int32 → Int32 → Mem → Option (Int32 × Mem)
  | 0 => fun _ _ _ _ _ => none
  | n + 1 => bd_X3_widen_28_20 K4 (lp_X3_widen_28_20 K4 n)
theorem ev_lp_X3_widen_28_20 (K4 : Int32 → Int32 → Mem → Option (Int32 × Mem)) (hK4 : ∀ (v1 : Int32) (v2 : Int32) (M : Mem), Ev none wI RX3 cX3_widen (some .boolean) 0 4 [some (.ref 28), some (.int v1), some (.int v2), none, none] [] M (K4 v1 v2 M)) : ∀ (n : Nat), ∀ (v1 : Int32) (v2 : Int32) (v3 : Int32) (v4 : Int32) (M : Mem), Ev none wI RX3 cX3_widen (some .boolean) 0 20 [some (.ref 28), some (.int v1), some (.int v2), some (.int v3), some (.int v4)] [] M (lp_X3_widen_28_20 K4 n v1 v2 v3 v4 M)
  | 0 => fun _ _ _ _ _ => e_none
  | n + 1 => ev_bd_X3_widen_28_20 K4 (lp_X3_widen_28_20 K4 n) hK4 (ev_lp_X3_widen_28_20 K4 hK4 n)
def bd_X3_widen_28_4  (K4 : Int32 → Int32 → Mem → Option (Int32 × Mem)) (v1 : Int32) (v2 : Int32) (M : Mem) : Option (Int32 × Mem) :=
  (if (8 : Int32) ≤ v2 then (if v1 = 0 ∨ v1 = 1 then some (v1, M) else none) else if inb v2 8 then (lp_X3_widen_28_20 K4 FU v1 v2 (M 30 (ix v2)) (0 : Int32) M) else none)
set_option maxRecDepth 20000 in
set_option maxHeartbeats 2000000 in
theorem ev_bd_X3_widen_28_4  (K4 : Int32 → Int32 → Mem → Option (Int32 × Mem))  (hK4 : ∀ (v1 : Int32) (v2 : Int32) (M : Mem), Ev none wI RX3 cX3_widen (some .boolean) 0 4 [some (.ref 28), some (.int v1), some (.int v2), none, none] [] M (K4 v1 v2 M)) (v1 : Int32) (v2 : Int32) (M : Mem) : Ev none wI RX3 cX3_widen (some .boolean) 0 4 [some (.ref 28), some (.int v1), some (.int v2), none, none] [] M (bd_X3_widen_28_4 K4 v1 v2 M) := by
  unfold bd_X3_widen_28_4
  refine e_iload_n (dt dk_X3_widen 4 rfl) rfl ?_
  refine e_bipush (v := (8 : Int32)) (dt dk_X3_widen 5 rfl) (by decide) ?_
  refine e_icmp_ge 89 (dt dk_X3_widen 6 rfl) (by decide) (fun h1 => ?_) (fun h1 => ?_)
  · refine e_iload_n (dt dk_X3_widen 55 rfl) rfl ?_
    exact e_zret (dt dk_X3_widen 56 rfl) rfl rfl
  · refine e_aload_n (dt dk_X3_widen 7 rfl) rfl ?_
    refine e_getR ci_X3 (dt dk_X3_widen 8 rfl) rfl (by decide) rfl fl_X3_15 ?_
    refine e_iload_n (dt dk_X3_widen 9 rfl) rfl ?_
    refine e_if (fun h2 => ?_)
    refine e_iald' (v := (M 30 (ix v2))) (dt dk_X3_widen 10 rfl) rfl h2 rfl ?_
    refine e_istore_n [some (.ref 28), some (.int v1), some (.int v2), some (.int (M 30 (ix v2))), none] (dt dk_X3_widen 11 rfl) rfl rfl rfl ?_
    refine e_iconst (v := (0 : Int32)) (dt dk_X3_widen 12 rfl) (by decide) ?_
    refine e_istore [some (.ref 28), some (.int v1), some (.int v2), some (.int (M 30 (ix v2))), some (.int (0 : Int32))] (dt dk_X3_widen 13 rfl) rfl rfl rfl ?_
    exact e_forget [true, true, true, true, true] [some (.ref 28), some (.int v1), some (.int v2), some (.int (M 30 (ix v2))), some (.int (0 : Int32))] ⟨rfl, rfl⟩ (ev_lp_X3_widen_28_20 K4 hK4 FU v1 v2 (M 30 (ix v2)) (0 : Int32) M)
def lp_X3_widen_28_4  : Nat → Int32 → Int32 → Mem → Option (Int32 × Mem)
  | 0 => fun _ _ _ => none
  | n + 1 => bd_X3_widen_28_4 (lp_X3_widen_28_4 n)
theorem ev_lp_X3_widen_28_4   : ∀ (n : Nat), ∀ (v1 : Int32) (v2 : Int32) (M : Mem), Ev none wI RX3 cX3_widen (some .boolean) 0 4 [some (.ref 28), some (.int v1), some (.int v2), none, none] [] M (lp_X3_widen_28_4 n v1 v2 M)
  | 0 => fun _ _ _ => e_none
  | n + 1 => ev_bd_X3_widen_28_4 (lp_X3_widen_28_4 n) (ev_lp_X3_widen_28_4 n)
def f_X3_widen_28  (M : Mem) : Option (Int32 × Mem) :=
  (lp_X3_widen_28_4 FU (0 : Int32) (0 : Int32) M)
set_option maxRecDepth 20000 in
set_option maxHeartbeats 2000000 in
theorem sp_X3_widen_28  (M : Mem) : SpO wI yX3_widen cX3_widen 5 (some .boolean) 0 [.ref 28] M (f_X3_widen_28 M) := by
  refine sp_of (L := [some (.ref 28), none, none, none, none]) rfl (by decide +kernel) rfl rfl ?_
  unfold f_X3_widen_28
  refine e_iconst (v := (0 : Int32)) (dt dk_X3_widen 0 rfl) (by decide) ?_
  refine e_istore_n [some (.ref 28), some (.int (0 : Int32)), none, none, none] (dt dk_X3_widen 1 rfl) rfl rfl rfl ?_
  refine e_iconst (v := (0 : Int32)) (dt dk_X3_widen 2 rfl) (by decide) ?_
  refine e_istore_n [some (.ref 28), some (.int (0 : Int32)), some (.int (0 : Int32)), none, none] (dt dk_X3_widen 3 rfl) rfl rfl rfl ?_
  exact e_forget [true, true, true, false, false] [some (.ref 28), some (.int (0 : Int32)), some (.int (0 : Int32)), none, none] ⟨rfl, rfl⟩ (ev_lp_X3_widen_28_4 FU (0 : Int32) (0 : Int32) M)
-- X3_follow_28_6 (W, depth 1)
def lb_X3_follow_28_6_127 (K77 : Int32 → Int32 → Int32 → Int32 → Mem → Option Mem) (v2 : Int32) (v3 : Int32) (v5 : Int32) (M : Mem) : Option Mem :=
  ((f_X3_widen_28 M)).bind fun q9 => (K77 v2 v3 q9.1 (v5 + (1 : Int32)) q9.2)
set_option maxRecDepth 20000 in
set_option maxHeartbeats 2000000 in
theorem ev_lb_X3_follow_28_6_127 (K77 : Int32 → Int32 → Int32 → Int32 → Mem → Option Mem) (hK77 : ∀ (v2 : Int32) (v3 : Int32) (v4 : Int32) (v5 : Int32) (M : Mem), Ev none wV RX3 cX3_follow none 1 77 [some (.ref 28), none, some (.int v2), some (.int v3), some (.int v4), some (.int v5)] [] M (K77 v2 v3 v4 v5 M)) (v2 : Int32) (v3 : Int32) (v5 : Int32) (M : Mem) : Ev none wV RX3 cX3_follow none 1 127 [some (.ref 28), none, some (.int v2), some (.int v3), none, some (.int v5)] [] M (lb_X3_follow_28_6_127 K77 v2 v3 v5 M) := by
  unfold lb_X3_follow_28_6_127
  refine e_aload_n (dt dk_X3_follow 68 rfl) rfl ?_
  refine ev_call (ca_V (k := 28) mv_X3_widen (sp_X3_widen_28 M) (dt dk_X3_follow 69 rfl) ml_X3_35 rfl rfl rfl rfl rfl (by decide) : Ca _ _ _ _ _ _ _ _ [] _ _) (fun q9 hq9 => ?_)
  show Ev _ _ _ _ _ _ 131 [some (.ref 28), none, some (.int v2), some (.int v3), none, some (.int v5)] [.int q9.1] q9.2 _
  refine e_istore [some (.ref 28), none, some (.int v2), some (.int v3), some (.int q9.1), some (.int v5)] (dt dk_X3_follow 70 rfl) rfl rfl rfl ?_
  refine e_iinc [some (.ref 28), none, some (.int v2), some (.int v3), some (.int q9.1), some (.int (v5 + (1 : Int32)))] (dt dk_X3_follow 71 rfl) rfl rfl rfl rfl ?_
  refine e_goto 77 (dt dk_X3_follow 72 rfl) (by decide) ?_
  exact e_forget [true, false, true, true, true, true] [some (.ref 28), none, some (.int v2), some (.int v3), some (.int q9.1), some (.int (v5 + (1 : Int32)))] ⟨rfl, rfl⟩ (hK77 v2 v3 q9.1 (v5 + (1 : Int32)) q9.2)
def bd_X3_follow_28_6_77  (K77 : Int32 → Int32 → Int32 → Int32 → Mem → Option Mem) (v2 : Int32) (v3 : Int32) (v4 : Int32) (v5 : Int32) (M : Mem) : Option Mem :=
  (if (64 : Int32) < v5 then some M else (if (M 28 3) = (-6 : Int32) then (if v4 = 0 then some M else ((f_X3_shutIn_28 M)).bind fun q6 => ((f_X3_firstGoing_28 v2 v3 q6)).bind fun r7 => (if r7 = (-6 : Int32) then (lb_X3_follow_28_6_127 K77 v2 v3 v5 (up2 q6 28 4 r7)) else (lb_X3_follow_28_6_127 K77 v2 v3 v5 (up2 (up2 q6 28 4 r7) 28 3 v5)))) else some M))
set_option maxRecDepth 20000 in
set_option maxHeartbeats 2000000 in
theorem ev_bd_X3_follow_28_6_77  (K77 : Int32 → Int32 → Int32 → Int32 → Mem → Option Mem)  (hK77 : ∀ (v2 : Int32) (v3 : Int32) (v4 : Int32) (v5 : Int32) (M : Mem), Ev none wV RX3 cX3_follow none 1 77 [some (.ref 28), none, some (.int v2), some (.int v3), some (.int v4), some (.int v5)] [] M (K77 v2 v3 v4 v5 M)) (v2 : Int32) (v3 : Int32) (v4 : Int32) (v5 : Int32) (M : Mem) : Ev none wV RX3 cX3_follow none 1 77 [some (.ref 28), none, some (.int v2), some (.int v3), some (.int v4), some (.int v5)] [] M (bd_X3_follow_28_6_77 K77 v2 v3 v4 v5 M) := by
  unfold bd_X3_follow_28_6_77
  refine e_iload (dt dk_X3_follow 44 rfl) rfl ?_
  refine e_bipush (v := (64 : Int32)) (dt dk_X3_follow 45 rfl) (by decide) ?_
  refine e_icmp_gt 139 (dt dk_X3_follow 46 rfl) (by decide) (fun h3 => ?_) (fun h3 => ?_)
  · exact e_vret (dt dk_X3_follow 73 rfl) rfl rfl
  · refine e_aload_n (dt dk_X3_follow 47 rfl) rfl ?_
    refine e_getI (v := (M 28 3)) ci_X3 (dt dk_X3_follow 48 rfl) rfl (by decide) rfl fl_X3_21 rfl ?_
    refine e_bipush (v := (-6 : Int32)) (dt dk_X3_follow 49 rfl) (by decide) ?_
    refine e_icmp_ne 139 (dt dk_X3_follow 50 rfl) (by decide) (fun h4 => ?_) (fun h4 => ?_)
    · refine e_iload (dt dk_X3_follow 51 rfl) rfl ?_
      refine e_if_eq 139 (dt dk_X3_follow 52 rfl) (by decide) (fun h5 => ?_) (fun h5 => ?_)
      · exact e_vret (dt dk_X3_follow 73 rfl) rfl rfl
      · refine e_aload_n (dt dk_X3_follow 53 rfl) rfl ?_
        refine ev_call (ca_V (k := 28) mv_X3_shutIn (sp_X3_shutIn_28 M) (dt dk_X3_follow 54 rfl) ml_X3_28 rfl rfl rfl rfl rfl (by decide) : Ca _ _ _ _ _ _ _ _ [] _ _) (fun q6 hq6 => ?_)
        show Ev _ _ _ _ _ _ 102 [some (.ref 28), none, some (.int v2), some (.int v3), some (.int v4), some (.int v5)] [] q6 _
        refine e_aload_n (dt dk_X3_follow 55 rfl) rfl ?_
        refine e_aload_n (dt dk_X3_follow 56 rfl) rfl ?_
        refine e_iload_n (dt dk_X3_follow 57 rfl) rfl ?_
        refine e_iload_n (dt dk_X3_follow 58 rfl) rfl ?_
        refine ev_call (ca_V (k := 28) mv_X3_firstGoing (sp_X3_firstGoing_28 v2 v3 q6) (dt dk_X3_follow 59 rfl) ml_X3_31 rfl rfl rfl rfl rfl (by decide) : Ca _ _ _ _ _ _ _ _ [.ref 28] _ _) (fun r7 hr7 => ?_)
        show Ev _ _ _ _ _ _ 109 [some (.ref 28), none, some (.int v2), some (.int v3), some (.int v4), some (.int v5)] [.int r7, .ref 28] q6 _
        refine e_putI (ty := .int) ci_X3 (dt dk_X3_follow 60 rfl) rfl (by decide) rfl fl_X3_25 rfl (by decide +kernel) rfl rfl ?_
        refine e_aload_n (dt dk_X3_follow 61 rfl) rfl ?_
        refine e_getI (v := r7) ci_X3 (dt dk_X3_follow 62 rfl) rfl (by decide) rfl fl_X3_25 rfl ?_
        refine e_bipush (v := (-6 : Int32)) (dt dk_X3_follow 63 rfl) (by decide) ?_
        refine e_icmp_eq 127 (dt dk_X3_follow 64 rfl) (by decide) (fun h8 => ?_) (fun h8 => ?_)
        · exact e_forget [true, false, true, true, false, true] [some (.ref 28), none, some (.int v2), some (.int v3), none, some (.int v5)] ⟨rfl, rfl⟩ (ev_lb_X3_follow_28_6_127 K77 hK77 v2 v3 v5 (up2 q6 28 4 r7))
        · refine e_aload_n (dt dk_X3_follow 65 rfl) rfl ?_
          refine e_iload (dt dk_X3_follow 66 rfl) rfl ?_
          refine e_putI (ty := .int) ci_X3 (dt dk_X3_follow 67 rfl) rfl (by decide) rfl fl_X3_21 rfl (by decide +kernel) rfl rfl ?_
          exact e_forget [true, false, true, true, false, true] [some (.ref 28), none, some (.int v2), some (.int v3), none, some (.int v5)] ⟨rfl, rfl⟩ (ev_lb_X3_follow_28_6_127 K77 hK77 v2 v3 v5 (up2 (up2 q6 28 4 r7) 28 3 v5))
    · exact e_vret (dt dk_X3_follow 73 rfl) rfl rfl
def lp_X3_follow_28_6_77  : Nat → Int32 → Int32 → Int32 → Int32 → Mem → Option Mem
  | 0 => fun _ _ _ _ _ => none
  | n + 1 => bd_X3_follow_28_6_77 (lp_X3_follow_28_6_77 n)
theorem ev_lp_X3_follow_28_6_77   : ∀ (n : Nat), ∀ (v2 : Int32) (v3 : Int32) (v4 : Int32) (v5 : Int32) (M : Mem), Ev none wV RX3 cX3_follow none 1 77 [some (.ref 28), none, some (.int v2), some (.int v3), some (.int v4), some (.int v5)] [] M (lp_X3_follow_28_6_77 n v2 v3 v4 v5 M)
  | 0 => fun _ _ _ _ _ => e_none
  | n + 1 => ev_bd_X3_follow_28_6_77 (lp_X3_follow_28_6_77 n) (ev_lp_X3_follow_28_6_77 n)
def lb_X3_follow_28_6_71  (v2 : Int32) (v3 : Int32) (M : Mem) : Option Mem :=
  (lp_X3_follow_28_6_77 FU v2 v3 (1 : Int32) (1 : Int32) M)
set_option maxRecDepth 20000 in
set_option maxHeartbeats 2000000 in
theorem ev_lb_X3_follow_28_6_71   (v2 : Int32) (v3 : Int32) (M : Mem) : Ev none wV RX3 cX3_follow none 1 71 [some (.ref 28), none, some (.int v2), some (.int v3), none, none] [] M (lb_X3_follow_28_6_71 v2 v3 M) := by
  unfold lb_X3_follow_28_6_71
  refine e_iconst (v := (1 : Int32)) (dt dk_X3_follow 40 rfl) (by decide) ?_
  refine e_istore [some (.ref 28), none, some (.int v2), some (.int v3), some (.int (1 : Int32)), none] (dt dk_X3_follow 41 rfl) rfl rfl rfl ?_
  refine e_iconst (v := (1 : Int32)) (dt dk_X3_follow 42 rfl) (by decide) ?_
  refine e_istore [some (.ref 28), none, some (.int v2), some (.int v3), some (.int (1 : Int32)), some (.int (1 : Int32))] (dt dk_X3_follow 43 rfl) rfl rfl rfl ?_
  exact e_forget [true, false, true, true, true, true] [some (.ref 28), none, some (.int v2), some (.int v3), some (.int (1 : Int32)), some (.int (1 : Int32))] ⟨rfl, rfl⟩ (ev_lp_X3_follow_28_6_77 FU v2 v3 (1 : Int32) (1 : Int32) M)
def bd_X3_follow_28_6_24  (K24 : Int32 → Int32 → Int32 → Mem → Option Mem) (v2 : Int32) (v3 : Int32) (v4 : Int32) (M : Mem) : Option Mem :=
  (if (8 : Int32) ≤ v4 then (lb_X3_follow_28_6_71 v2 v3 M) else (if (8 : Int32) ≤ v4 then (lb_X3_follow_28_6_71 v2 v3 M) else if inb v4 8 then if inb v4 8 then if inb v4 8 then (K24 v2 v3 (v4 + (1 : Int32)) (up2 (up2 M 29 (ix v4) ((M 6 (ix v4)) ||| ((1 : Int32) <<< (v4 &&& 31)))) 30 (ix v4) ((1 : Int32) <<< (v4 &&& 31)))) else none else none else none))
set_option maxRecDepth 20000 in
set_option maxHeartbeats 2000000 in
theorem ev_bd_X3_follow_28_6_24  (K24 : Int32 → Int32 → Int32 → Mem → Option Mem)  (hK24 : ∀ (v2 : Int32) (v3 : Int32) (v4 : Int32) (M : Mem), Ev none wV RX3 cX3_follow none 1 24 [some (.ref 28), some (.ref 6), some (.int v2), some (.int v3), some (.int v4), none] [] M (K24 v2 v3 v4 M)) (v2 : Int32) (v3 : Int32) (v4 : Int32) (M : Mem) : Ev none wV RX3 cX3_follow none 1 24 [some (.ref 28), some (.ref 6), some (.int v2), some (.int v3), some (.int v4), none] [] M (bd_X3_follow_28_6_24 K24 v2 v3 v4 M) := by
  unfold bd_X3_follow_28_6_24
  refine e_iload (dt dk_X3_follow 13 rfl) rfl ?_
  refine e_bipush (v := (8 : Int32)) (dt dk_X3_follow 14 rfl) (by decide) ?_
  refine e_icmp_ge 71 (dt dk_X3_follow 15 rfl) (by decide) (fun h2 => ?_) (fun h2 => ?_)
  · exact e_forget [true, false, true, true, false, false] [some (.ref 28), none, some (.int v2), some (.int v3), none, none] ⟨rfl, rfl⟩ (ev_lb_X3_follow_28_6_71 v2 v3 M)
  · refine e_iload (dt dk_X3_follow 16 rfl) rfl ?_
    refine e_aload_n (dt dk_X3_follow 17 rfl) rfl ?_
    refine e_len (v := (8 : Int32)) (dt dk_X3_follow 18 rfl) rfl (by decide) ?_
    refine e_icmp_ge 71 (dt dk_X3_follow 19 rfl) (by decide) (fun h10 => ?_) (fun h10 => ?_)
    · exact e_forget [true, false, true, true, false, false] [some (.ref 28), none, some (.int v2), some (.int v3), none, none] ⟨rfl, rfl⟩ (ev_lb_X3_follow_28_6_71 v2 v3 M)
    · refine e_aload_n (dt dk_X3_follow 20 rfl) rfl ?_
      refine e_getR ci_X3 (dt dk_X3_follow 21 rfl) rfl (by decide) rfl fl_X3_9 ?_
      refine e_iload (dt dk_X3_follow 22 rfl) rfl ?_
      refine e_aload_n (dt dk_X3_follow 23 rfl) rfl ?_
      refine e_iload (dt dk_X3_follow 24 rfl) rfl ?_
      refine e_if (fun h11 => ?_)
      refine e_iald' (v := (M 6 (ix v4))) (dt dk_X3_follow 25 rfl) rfl h11 rfl ?_
      refine e_iconst (v := (1 : Int32)) (dt dk_X3_follow 26 rfl) (by decide) ?_
      refine e_iload (dt dk_X3_follow 27 rfl) rfl ?_
      refine e_ishl (dt dk_X3_follow 28 rfl) ?_
      refine e_ior (dt dk_X3_follow 29 rfl) ?_
      refine e_if (fun h12 => ?_)
      refine e_iast' (dt dk_X3_follow 30 rfl) rfl h12 ?_
      refine e_aload_n (dt dk_X3_follow 31 rfl) rfl ?_
      refine e_getR ci_X3 (dt dk_X3_follow 32 rfl) rfl (by decide) rfl fl_X3_15 ?_
      refine e_iload (dt dk_X3_follow 33 rfl) rfl ?_
      refine e_iconst (v := (1 : Int32)) (dt dk_X3_follow 34 rfl) (by decide) ?_
      refine e_iload (dt dk_X3_follow 35 rfl) rfl ?_
      refine e_ishl (dt dk_X3_follow 36 rfl) ?_
      refine e_if (fun h13 => ?_)
      refine e_iast' (dt dk_X3_follow 37 rfl) rfl h13 ?_
      refine e_iinc [some (.ref 28), some (.ref 6), some (.int v2), some (.int v3), some (.int (v4 + (1 : Int32))), none] (dt dk_X3_follow 38 rfl) rfl rfl rfl rfl ?_
      refine e_goto 24 (dt dk_X3_follow 39 rfl) (by decide) ?_
      exact e_forget [true, true, true, true, true, false] [some (.ref 28), some (.ref 6), some (.int v2), some (.int v3), some (.int (v4 + (1 : Int32))), none] ⟨rfl, rfl⟩ (hK24 v2 v3 (v4 + (1 : Int32)) (up2 (up2 M 29 (ix v4) ((M 6 (ix v4)) ||| ((1 : Int32) <<< (v4 &&& 31)))) 30 (ix v4) ((1 : Int32) <<< (v4 &&& 31))))
def lp_X3_follow_28_6_24  : Nat → Int32 → Int32 → Int32 → Mem → Option Mem
  | 0 => fun _ _ _ _ => none
  | n + 1 => bd_X3_follow_28_6_24 (lp_X3_follow_28_6_24 n)
theorem ev_lp_X3_follow_28_6_24   : ∀ (n : Nat), ∀ (v2 : Int32) (v3 : Int32) (v4 : Int32) (M : Mem), Ev none wV RX3 cX3_follow none 1 24 [some (.ref 28), some (.ref 6), some (.int v2), some (.int v3), some (.int v4), none] [] M (lp_X3_follow_28_6_24 n v2 v3 v4 M)
  | 0 => fun _ _ _ _ => e_none
  | n + 1 => ev_bd_X3_follow_28_6_24 (lp_X3_follow_28_6_24 n) (ev_lp_X3_follow_28_6_24 n)
def lb_X3_follow_28_6_12  (v2 : Int32) (v3 : Int32) (s0 : Int32) (M : Mem) : Option Mem :=
  (lp_X3_follow_28_6_24 FU v2 v3 (0 : Int32) (up2 (up2 M 28 3 s0) 28 4 (-6 : Int32)))
set_option maxRecDepth 20000 in
set_option maxHeartbeats 2000000 in
theorem ev_lb_X3_follow_28_6_12   (v2 : Int32) (v3 : Int32) (s0 : Int32) (M : Mem) : Ev none wV RX3 cX3_follow none 1 12 [some (.ref 28), some (.ref 6), some (.int v2), some (.int v3), none, none] [.int s0, .ref 28] M (lb_X3_follow_28_6_12 v2 v3 s0 M) := by
  unfold lb_X3_follow_28_6_12
  refine e_putI (ty := .int) ci_X3 (dt dk_X3_follow 7 rfl) rfl (by decide) rfl fl_X3_21 rfl (by decide +kernel) rfl rfl ?_
  refine e_aload_n (dt dk_X3_follow 8 rfl) rfl ?_
  refine e_bipush (v := (-6 : Int32)) (dt dk_X3_follow 9 rfl) (by decide) ?_
  refine e_putI (ty := .int) ci_X3 (dt dk_X3_follow 10 rfl) rfl (by decide) rfl fl_X3_25 rfl (by decide +kernel) rfl rfl ?_
  refine e_iconst (v := (0 : Int32)) (dt dk_X3_follow 11 rfl) (by decide) ?_
  refine e_istore [some (.ref 28), some (.ref 6), some (.int v2), some (.int v3), some (.int (0 : Int32)), none] (dt dk_X3_follow 12 rfl) rfl rfl rfl ?_
  exact e_forget [true, true, true, true, true, false] [some (.ref 28), some (.ref 6), some (.int v2), some (.int v3), some (.int (0 : Int32)), none] ⟨rfl, rfl⟩ (ev_lp_X3_follow_28_6_24 FU v2 v3 (0 : Int32) (up2 (up2 M 28 3 s0) 28 4 (-6 : Int32)))
def f_X3_follow_28_6 (v2 : Int32) (v3 : Int32) (M : Mem) : Option Mem :=
  (if v2 = v3 then (lb_X3_follow_28_6_12 v2 v3 (0 : Int32) M) else (lb_X3_follow_28_6_12 v2 v3 (-6 : Int32) M))
set_option maxRecDepth 20000 in
set_option maxHeartbeats 2000000 in
theorem sp_X3_follow_28_6 (v2 : Int32) (v3 : Int32) (M : Mem) : SpO wV yX3_follow cX3_follow 6 none 1 [.ref 28, .ref 6, .int v2, .int v3] M (f_X3_follow_28_6 v2 v3 M) := by
  refine sp_of (L := [some (.ref 28), some (.ref 6), some (.int v2), some (.int v3), none, none]) rfl (by decide +kernel) rfl rfl ?_
  unfold f_X3_follow_28_6
  refine e_aload_n (dt dk_X3_follow 0 rfl) rfl ?_
  refine e_iload_n (dt dk_X3_follow 1 rfl) rfl ?_
  refine e_iload_n (dt dk_X3_follow 2 rfl) rfl ?_
  refine e_icmp_ne 10 (dt dk_X3_follow 3 rfl) (by decide) (fun h1 => ?_) (fun h1 => ?_)
  · refine e_iconst (v := (0 : Int32)) (dt dk_X3_follow 4 rfl) (by decide) ?_
    refine e_goto 12 (dt dk_X3_follow 5 rfl) (by decide) ?_
    exact e_forget [true, true, true, true, false, false] [some (.ref 28), some (.ref 6), some (.int v2), some (.int v3), none, none] ⟨rfl, rfl⟩ (ev_lb_X3_follow_28_6_12 v2 v3 (0 : Int32) M)
  · refine e_bipush (v := (-6 : Int32)) (dt dk_X3_follow 6 rfl) (by decide) ?_
    exact e_forget [true, true, true, true, false, false] [some (.ref 28), some (.ref 6), some (.int v2), some (.int v3), none, none] ⟨rfl, rfl⟩ (ev_lb_X3_follow_28_6_12 v2 v3 (-6 : Int32) M)
-- X9_commonDivisor (R, depth 0)
def bd_X9_commonDivisor_9  (K9 : Int64 → Int64 → Int32 → Option Int64) (v4 : Int64) (v6 : Int64) (v8 : Int32) : Option Int64 :=
  (if (100 : Int32) ≤ v8 then some v4 else (if (lg_cmp v6 (0 : Int64)) = 0 then some v4 else if v6 = 0 then none else (K9 v6 (remL v4 v6) (v8 + (1 : Int32)))))
set_option maxRecDepth 20000 in
set_option maxHeartbeats 2000000 in
theorem ev_bd_X9_commonDivisor_9 (M : Mem)  (K9 : Int64 → Int64 → Int32 → Option Int64)  (hK9 : ∀ (v4 : Int64) (v6 : Int64) (v8 : Int32), Ev none (wL M) RX9 cX9_commonDivisor (some .long) 0 9 [none, none, none, none, some (.long v4), none, some (.long v6), none, some (.int v8), none, none] [] M (K9 v4 v6 v8)) (v4 : Int64) (v6 : Int64) (v8 : Int32) : Ev none (wL M) RX9 cX9_commonDivisor (some .long) 0 9 [none, none, none, none, some (.long v4), none, some (.long v6), none, some (.int v8), none, none] [] M (bd_X9_commonDivisor_9 K9 v4 v6 v8) := by
  unfold bd_X9_commonDivisor_9
  refine e_iload (dt dk_X9_commonDivisor 6 rfl) rfl ?_
  refine e_bipush (v := (100 : Int32)) (dt dk_X9_commonDivisor 7 rfl) (by decide) ?_
  refine e_icmp_ge 44 (dt dk_X9_commonDivisor 8 rfl) (by decide) (fun h1 => ?_) (fun h1 => ?_)
  · refine e_lload (dt dk_X9_commonDivisor 23 rfl) rfl ?_
    exact e_lret (dt dk_X9_commonDivisor 24 rfl) rfl rfl
  · refine e_lload (dt dk_X9_commonDivisor 9 rfl) rfl ?_
    refine e_lconst (v := (0 : Int64)) (dt dk_X9_commonDivisor 10 rfl) (by decide) ?_
    refine e_lcmp (dt dk_X9_commonDivisor 11 rfl) ?_
    refine e_if_eq 44 (dt dk_X9_commonDivisor 12 rfl) (by decide) (fun h2 => ?_) (fun h2 => ?_)
    · refine e_lload (dt dk_X9_commonDivisor 23 rfl) rfl ?_
      exact e_lret (dt dk_X9_commonDivisor 24 rfl) rfl rfl
    · refine e_lload (dt dk_X9_commonDivisor 13 rfl) rfl ?_
      refine e_lload (dt dk_X9_commonDivisor 14 rfl) rfl ?_
      refine e_lrem (dt dk_X9_commonDivisor 15 rfl) ?_
      show Ev _ _ _ _ _ _ 28 [none, none, none, none, some (.long v4), none, some (.long v6), none, some (.int v8), none, none] [.long (remL v4 v6)] M _
      refine e_lstore [none, none, none, none, some (.long v4), none, some (.long v6), none, some (.int v8), some (.long (remL v4 v6)), none] (dt dk_X9_commonDivisor 16 rfl) rfl rfl rfl ?_
      refine e_lload (dt dk_X9_commonDivisor 17 rfl) rfl ?_
      refine e_lstore [none, none, none, none, some (.long v6), none, some (.long v6), none, some (.int v8), some (.long (remL v4 v6)), none] (dt dk_X9_commonDivisor 18 rfl) rfl rfl rfl ?_
      refine e_lload (dt dk_X9_commonDivisor 19 rfl) rfl ?_
      refine e_lstore [none, none, none, none, some (.long v6), none, some (.long (remL v4 v6)), none, some (.int v8), some (.long (remL v4 v6)), none] (dt dk_X9_commonDivisor 20 rfl) rfl rfl rfl ?_
      refine e_iinc [none, none, none, none, some (.long v6), none, some (.long (remL v4 v6)), none, some (.int (v8 + (1 : Int32))), some (.long (remL v4 v6)), none] (dt dk_X9_commonDivisor 21 rfl) rfl rfl rfl rfl ?_
      refine e_goto 9 (dt dk_X9_commonDivisor 22 rfl) (by decide) ?_
      exact e_forget [false, false, false, false, true, false, true, false, true, false, false] [none, none, none, none, some (.long v6), none, some (.long (remL v4 v6)), none, some (.int (v8 + (1 : Int32))), none, none] ⟨rfl, rfl⟩ (hK9 v6 (remL v4 v6) (v8 + (1 : Int32)))
def lp_X9_commonDivisor_9  : Nat → Int64 → Int64 → Int32 → Option Int64
  | 0 => fun _ _ _ => none
  | n + 1 => bd_X9_commonDivisor_9 (lp_X9_commonDivisor_9 n)
theorem ev_lp_X9_commonDivisor_9 (M : Mem)   : ∀ (n : Nat), ∀ (v4 : Int64) (v6 : Int64) (v8 : Int32), Ev none (wL M) RX9 cX9_commonDivisor (some .long) 0 9 [none, none, none, none, some (.long v4), none, some (.long v6), none, some (.int v8), none, none] [] M (lp_X9_commonDivisor_9 n v4 v6 v8)
  | 0 => fun _ _ _ => e_none
  | n + 1 => ev_bd_X9_commonDivisor_9 M (lp_X9_commonDivisor_9 n) (ev_lp_X9_commonDivisor_9 M n)
def f_X9_commonDivisor (v0 : Int64) (v2 : Int64) : Option Int64 :=
  (lp_X9_commonDivisor_9 FU v0 v2 (0 : Int32))
set_option maxRecDepth 20000 in
set_option maxHeartbeats 2000000 in
theorem sp_X9_commonDivisor (v0 : Int64) (v2 : Int64) (M : Mem) : SpO (wL M) yX9_commonDivisor cX9_commonDivisor 11 (some .long) 0 [.long v0, .long v2] M (f_X9_commonDivisor v0 v2) := by
  refine sp_of (L := [some (.long v0), none, some (.long v2), none, none, none, none, none, none, none, none]) rfl (by decide +kernel) rfl rfl ?_
  unfold f_X9_commonDivisor
  refine e_lload_n (dt dk_X9_commonDivisor 0 rfl) rfl ?_
  refine e_lstore [some (.long v0), none, some (.long v2), none, some (.long v0), none, none, none, none, none, none] (dt dk_X9_commonDivisor 1 rfl) rfl rfl rfl ?_
  refine e_lload_n (dt dk_X9_commonDivisor 2 rfl) rfl ?_
  refine e_lstore [some (.long v0), none, some (.long v2), none, some (.long v0), none, some (.long v2), none, none, none, none] (dt dk_X9_commonDivisor 3 rfl) rfl rfl rfl ?_
  refine e_iconst (v := (0 : Int32)) (dt dk_X9_commonDivisor 4 rfl) (by decide) ?_
  refine e_istore [some (.long v0), none, some (.long v2), none, some (.long v0), none, some (.long v2), none, some (.int (0 : Int32)), none, none] (dt dk_X9_commonDivisor 5 rfl) rfl rfl rfl ?_
  exact e_forget [false, false, false, false, true, false, true, false, true, false, false] [none, none, none, none, some (.long v0), none, some (.long v2), none, some (.int (0 : Int32)), none, none] ⟨rfl, rfl⟩ (ev_lp_X9_commonDivisor_9 M FU v0 v2 (0 : Int32))
-- X9_power (R, depth 0)
def bd_X9_power_5  (K5 : Int64 → Int32 → Int64 → Int32 → Option Int64) (v0 : Int64) (v2 : Int32) (v3 : Int64) (v5 : Int32) : Option Int64 :=
  (if v2 ≤ v5 then some v3 else (K5 v0 v2 (v3 * v0) (v5 + (1 : Int32))))
set_option maxRecDepth 20000 in
set_option maxHeartbeats 2000000 in
theorem ev_bd_X9_power_5 (M : Mem)  (K5 : Int64 → Int32 → Int64 → Int32 → Option Int64)  (hK5 : ∀ (v0 : Int64) (v2 : Int32) (v3 : Int64) (v5 : Int32), Ev none (wL M) RX9 cX9_power (some .long) 0 5 [some (.long v0), none, some (.int v2), some (.long v3), none, some (.int v5)] [] M (K5 v0 v2 v3 v5)) (v0 : Int64) (v2 : Int32) (v3 : Int64) (v5 : Int32) : Ev none (wL M) RX9 cX9_power (some .long) 0 5 [some (.long v0), none, some (.int v2), some (.long v3), none, some (.int v5)] [] M (bd_X9_power_5 K5 v0 v2 v3 v5) := by
  unfold bd_X9_power_5
  refine e_iload (dt dk_X9_power 4 rfl) rfl ?_
  refine e_iload_n (dt dk_X9_power 5 rfl) rfl ?_
  refine e_icmp_ge 21 (dt dk_X9_power 6 rfl) (by decide) (fun h1 => ?_) (fun h1 => ?_)
  · refine e_lload_n (dt dk_X9_power 13 rfl) rfl ?_
    exact e_lret (dt dk_X9_power 14 rfl) rfl rfl
  · refine e_lload_n (dt dk_X9_power 7 rfl) rfl ?_
    refine e_lload_n (dt dk_X9_power 8 rfl) rfl ?_
    refine e_lmul (dt dk_X9_power 9 rfl) ?_
    refine e_lstore_n [some (.long v0), none, some (.int v2), some (.long (v3 * v0)), none, some (.int v5)] (dt dk_X9_power 10 rfl) rfl rfl rfl ?_
    refine e_iinc [some (.long v0), none, some (.int v2), some (.long (v3 * v0)), none, some (.int (v5 + (1 : Int32)))] (dt dk_X9_power 11 rfl) rfl rfl rfl rfl ?_
    refine e_goto 5 (dt dk_X9_power 12 rfl) (by decide) ?_
    exact e_forget [true, false, true, true, false, true] [some (.long v0), none, some (.int v2), some (.long (v3 * v0)), none, some (.int (v5 + (1 : Int32)))] ⟨rfl, rfl⟩ (hK5 v0 v2 (v3 * v0) (v5 + (1 : Int32)))
def lp_X9_power_5  : Nat → Int64 → Int32 → Int64 → Int32 → Option Int64
  | 0 => fun _ _ _ _ => none
  | n + 1 => bd_X9_power_5 (lp_X9_power_5 n)
theorem ev_lp_X9_power_5 (M : Mem)   : ∀ (n : Nat), ∀ (v0 : Int64) (v2 : Int32) (v3 : Int64) (v5 : Int32), Ev none (wL M) RX9 cX9_power (some .long) 0 5 [some (.long v0), none, some (.int v2), some (.long v3), none, some (.int v5)] [] M (lp_X9_power_5 n v0 v2 v3 v5)
  | 0 => fun _ _ _ _ => e_none
  | n + 1 => ev_bd_X9_power_5 M (lp_X9_power_5 n) (ev_lp_X9_power_5 M n)
def f_X9_power (v0 : Int64) (v2 : Int32) : Option Int64 :=
  (lp_X9_power_5 FU v0 v2 (1 : Int64) (0 : Int32))
set_option maxRecDepth 20000 in
set_option maxHeartbeats 2000000 in
theorem sp_X9_power (v0 : Int64) (v2 : Int32) (M : Mem) : SpO (wL M) yX9_power cX9_power 6 (some .long) 0 [.long v0, .int v2] M (f_X9_power v0 v2) := by
  refine sp_of (L := [some (.long v0), none, some (.int v2), none, none, none]) rfl (by decide +kernel) rfl rfl ?_
  unfold f_X9_power
  refine e_lconst (v := (1 : Int64)) (dt dk_X9_power 0 rfl) (by decide) ?_
  refine e_lstore_n [some (.long v0), none, some (.int v2), some (.long (1 : Int64)), none, none] (dt dk_X9_power 1 rfl) rfl rfl rfl ?_
  refine e_iconst (v := (0 : Int32)) (dt dk_X9_power 2 rfl) (by decide) ?_
  refine e_istore [some (.long v0), none, some (.int v2), some (.long (1 : Int64)), none, some (.int (0 : Int32))] (dt dk_X9_power 3 rfl) rfl rfl rfl ?_
  exact e_forget [true, false, true, true, false, true] [some (.long v0), none, some (.int v2), some (.long (1 : Int64)), none, some (.int (0 : Int32))] ⟨rfl, rfl⟩ (ev_lp_X9_power_5 M FU v0 v2 (1 : Int64) (0 : Int32))
-- J9_floorMod_7cf53 (R, depth 0)
def f_J9_floorMod_7cf53 (v0 : Int32) (v1 : Int32) : Option Int32 :=
  if v1 = 0 then none else (if 0 ≤ (v0 ^^^ v1) then some (remI v0 v1) else (if (remI v0 v1) = 0 then some (remI v0 v1) else some ((remI v0 v1) + v1)))
set_option maxRecDepth 20000 in
set_option maxHeartbeats 2000000 in
theorem sp_J9_floorMod_7cf53 (v0 : Int32) (v1 : Int32) (M : Mem) : SpO (wR M) yJ9_floorMod_7cf53 cJ9_floorMod_7cf53 3 (some .int) 0 [.int v0, .int v1] M (f_J9_floorMod_7cf53 v0 v1) := by
  refine sp_of (L := [some (.int v0), some (.int v1), none]) rfl (by decide +kernel) rfl rfl ?_
  unfold f_J9_floorMod_7cf53
  refine e_iload_n (dt dk_J9_floorMod_7cf53 0 rfl) rfl ?_
  refine e_iload_n (dt dk_J9_floorMod_7cf53 1 rfl) rfl ?_
  refine e_irem (dt dk_J9_floorMod_7cf53 2 rfl) ?_
  show Ev _ _ _ _ _ _ 3 [some (.int v0), some (.int v1), none] [.int (remI v0 v1)] M _
  refine e_istore_n [some (.int v0), some (.int v1), some (.int (remI v0 v1))] (dt dk_J9_floorMod_7cf53 3 rfl) rfl rfl rfl ?_
  refine e_iload_n (dt dk_J9_floorMod_7cf53 4 rfl) rfl ?_
  refine e_iload_n (dt dk_J9_floorMod_7cf53 5 rfl) rfl ?_
  refine e_ixor (dt dk_J9_floorMod_7cf53 6 rfl) ?_
  refine e_if_ge 18 (dt dk_J9_floorMod_7cf53 7 rfl) (by decide) (fun h1 => ?_) (fun h1 => ?_)
  · refine e_iload_n (dt dk_J9_floorMod_7cf53 14 rfl) rfl ?_
    exact e_iret (dt dk_J9_floorMod_7cf53 15 rfl) rfl rfl rfl
  · refine e_iload_n (dt dk_J9_floorMod_7cf53 8 rfl) rfl ?_
    refine e_if_eq 18 (dt dk_J9_floorMod_7cf53 9 rfl) (by decide) (fun h2 => ?_) (fun h2 => ?_)
    · refine e_iload_n (dt dk_J9_floorMod_7cf53 14 rfl) rfl ?_
      exact e_iret (dt dk_J9_floorMod_7cf53 15 rfl) rfl rfl rfl
    · refine e_iload_n (dt dk_J9_floorMod_7cf53 10 rfl) rfl ?_
      refine e_iload_n (dt dk_J9_floorMod_7cf53 11 rfl) rfl ?_
      refine e_iadd (dt dk_J9_floorMod_7cf53 12 rfl) ?_
      exact e_iret (dt dk_J9_floorMod_7cf53 13 rfl) rfl rfl rfl
-- X0_draw_17 (W, depth 1)
def f_X0_draw_17 (v1 : Int32) (M : Mem) : Option Mem :=
  ((f_J9_floorMod_7cf53 (v1 / (8 : Int32)) (8 : Int32))).bind fun r1 => if inb r1 8 then ((f_J9_floorMod_7cf53 v1 (8 : Int32))).bind fun r3 => ((f_J9_floorMod_7cf53 (v1 / (64 : Int32)) (8 : Int32))).bind fun r4 => (if (signF (ix r1)) = (33 : Int32) then (if (remI (v1 / (64 : Int32)) (4 : Int32)) = 0 then some (up2 (up2 (up2 M 17 0 (signF (ix r1))) 17 1 r3) 17 2 r4) else some (up2 (up2 (up2 (up2 M 17 0 (signF (ix r1))) 17 1 r3) 17 2 r4) 17 0 (0 : Int32))) else some (up2 (up2 (up2 M 17 0 (signF (ix r1))) 17 1 r3) 17 2 r4)) else none
set_option maxRecDepth 20000 in
set_option maxHeartbeats 2000000 in
theorem sp_X0_draw_17 (v1 : Int32) (M : Mem) : SpO wV yX0_draw cX0_draw 3 none 1 [.ref 17, .int v1] M (f_X0_draw_17 v1 M) := by
  refine sp_of (L := [some (.ref 17), some (.int v1), none]) rfl (by decide +kernel) rfl rfl ?_
  unfold f_X0_draw_17
  refine e_iload_n (dt dk_X0_draw 0 rfl) rfl ?_
  refine e_bipush (v := (64 : Int32)) (dt dk_X0_draw 1 rfl) (by decide) ?_
  refine e_idiv' (dt dk_X0_draw 2 rfl) (by decide) ?_
  show Ev _ _ _ _ _ _ 4 [some (.ref 17), some (.int v1), none] [.int (v1 / (64 : Int32))] M _
  refine e_istore_n [some (.ref 17), some (.int v1), some (.int (v1 / (64 : Int32)))] (dt dk_X0_draw 3 rfl) rfl rfl rfl ?_
  refine e_aload_n (dt dk_X0_draw 4 rfl) rfl ?_
  refine e_getsYN (dt dk_X0_draw 5 rfl) fn_X0_30 ?_
  refine e_iload_n (dt dk_X0_draw 6 rfl) rfl ?_
  refine e_bipush (v := (8 : Int32)) (dt dk_X0_draw 7 rfl) (by decide) ?_
  refine e_idiv' (dt dk_X0_draw 8 rfl) (by decide) ?_
  show Ev _ _ _ _ _ _ 13 [some (.ref 17), some (.int v1), some (.int (v1 / (64 : Int32)))] [.int (v1 / (8 : Int32)), .ref 76, .ref 17] M _
  refine e_getsYN (dt dk_X0_draw 9 rfl) fn_X0_30 ?_
  refine e_lenY (dt dk_X0_draw 10 rfl) ?_
  refine ev_call (ca_S ms_J9_floorMod_7cf53 (sp_J9_floorMod_7cf53 (v1 / (8 : Int32)) (8 : Int32) M) (dt dk_X0_draw 11 rfl) ml_X0_34 rfl rfl rfl (by decide) : Ca _ _ _ _ _ _ _ _ [.ref 76, .ref 17] _ _) (fun r1 hr1 => ?_)
  show Ev _ _ _ _ _ _ 20 [some (.ref 17), some (.int v1), some (.int (v1 / (64 : Int32)))] [.int r1, .ref 76, .ref 17] M _
  refine e_if (fun h2 => ?_)
  refine e_iaY' (dt dk_X0_draw 12 rfl) h2 ?_
  refine e_putI (ty := .int) ci_X0 (dt dk_X0_draw 13 rfl) rfl (by decide) rfl fl_X0_15 rfl (by decide +kernel) rfl rfl ?_
  refine e_aload_n (dt dk_X0_draw 14 rfl) rfl ?_
  refine e_iload_n (dt dk_X0_draw 15 rfl) rfl ?_
  refine e_bipush (v := (8 : Int32)) (dt dk_X0_draw 16 rfl) (by decide) ?_
  refine ev_call (ca_S ms_J9_floorMod_7cf53 (sp_J9_floorMod_7cf53 v1 (8 : Int32) (up2 M 17 0 (signF (ix r1)))) (dt dk_X0_draw 17 rfl) ml_X0_34 rfl rfl rfl (by decide) : Ca _ _ _ _ _ _ _ _ [.ref 17] _ _) (fun r3 hr3 => ?_)
  show Ev _ _ _ _ _ _ 31 [some (.ref 17), some (.int v1), some (.int (v1 / (64 : Int32)))] [.int r3, .ref 17] (up2 M 17 0 (signF (ix r1))) _
  refine e_putI (ty := .int) ci_X0 (dt dk_X0_draw 18 rfl) rfl (by decide) rfl fl_X0_21 rfl (by decide +kernel) rfl rfl ?_
  refine e_aload_n (dt dk_X0_draw 19 rfl) rfl ?_
  refine e_iload_n (dt dk_X0_draw 20 rfl) rfl ?_
  refine e_bipush (v := (8 : Int32)) (dt dk_X0_draw 21 rfl) (by decide) ?_
  refine ev_call (ca_S ms_J9_floorMod_7cf53 (sp_J9_floorMod_7cf53 (v1 / (64 : Int32)) (8 : Int32) (up2 (up2 M 17 0 (signF (ix r1))) 17 1 r3)) (dt dk_X0_draw 22 rfl) ml_X0_34 rfl rfl rfl (by decide) : Ca _ _ _ _ _ _ _ _ [.ref 17] _ _) (fun r4 hr4 => ?_)
  show Ev _ _ _ _ _ _ 41 [some (.ref 17), some (.int v1), some (.int (v1 / (64 : Int32)))] [.int r4, .ref 17] (up2 (up2 M 17 0 (signF (ix r1))) 17 1 r3) _
  refine e_putI (ty := .int) ci_X0 (dt dk_X0_draw 23 rfl) rfl (by decide) rfl fl_X0_24 rfl (by decide +kernel) rfl rfl ?_
  refine e_aload_n (dt dk_X0_draw 24 rfl) rfl ?_
  refine e_getI (v := (signF (ix r1))) ci_X0 (dt dk_X0_draw 25 rfl) rfl (by decide) rfl fl_X0_15 rfl ?_
  refine e_bipush (v := (33 : Int32)) (dt dk_X0_draw 26 rfl) (by decide) ?_
  refine e_icmp_ne 64 (dt dk_X0_draw 27 rfl) (by decide) (fun h5 => ?_) (fun h5 => ?_)
  · refine e_iload_n (dt dk_X0_draw 28 rfl) rfl ?_
    refine e_iconst (v := (4 : Int32)) (dt dk_X0_draw 29 rfl) (by decide) ?_
    refine e_irem' (dt dk_X0_draw 30 rfl) (by decide) ?_
    show Ev _ _ _ _ _ _ 56 [some (.ref 17), some (.int v1), some (.int (v1 / (64 : Int32)))] [.int (remI (v1 / (64 : Int32)) (4 : Int32))] (up2 (up2 (up2 M 17 0 (signF (ix r1))) 17 1 r3) 17 2 r4) _
    refine e_if_eq 64 (dt dk_X0_draw 31 rfl) (by decide) (fun h6 => ?_) (fun h6 => ?_)
    · exact e_vret (dt dk_X0_draw 35 rfl) rfl rfl
    · refine e_aload_n (dt dk_X0_draw 32 rfl) rfl ?_
      refine e_iconst (v := (0 : Int32)) (dt dk_X0_draw 33 rfl) (by decide) ?_
      refine e_putI (ty := .int) ci_X0 (dt dk_X0_draw 34 rfl) rfl (by decide) rfl fl_X0_15 rfl (by decide +kernel) rfl rfl ?_
      exact e_vret (dt dk_X0_draw 35 rfl) rfl rfl
  · exact e_vret (dt dk_X0_draw 35 rfl) rfl rfl
-- X8_become_34_1 (W, depth 1)
def f_X8_become_34_1  (M : Mem) : Option Mem :=
  some (up2 (up2 (up2 (upA (upA (upA (upA (upA M 35 (va_cpy (M 2) (M 35) 0 0 8)) 36 (va_cpy (M 3) (M 36) 0 0 8)) 37 (va_cpy (M 4) (M 37) 0 0 8)) 38 (va_cpy (M 5) (M 38) 0 0 8)) 39 (va_cpy (M 6) (M 39) 0 0 8)) 34 6 (M 1 6)) 34 7 (M 1 7)) 34 8 (M 1 8))
set_option maxRecDepth 20000 in
set_option maxHeartbeats 2000000 in
theorem sp_X8_become_34_1  (M : Mem) : SpO wV yX8_become cX8_become 2 none 1 [.ref 34, .ref 1] M (f_X8_become_34_1 M) := by
  refine sp_of (L := [some (.ref 34), some (.ref 1)]) rfl (by decide +kernel) rfl rfl ?_
  unfold f_X8_become_34_1
  refine e_aload_n (dt dk_X8_become 0 rfl) rfl ?_
  refine e_getR ci_X8 (dt dk_X8_become 1 rfl) rfl (by decide) rfl fl_X8_9 ?_
  refine e_iconst (v := (0 : Int32)) (dt dk_X8_become 2 rfl) (by decide) ?_
  refine e_aload_n (dt dk_X8_become 3 rfl) rfl ?_
  refine e_getR ci_X8 (dt dk_X8_become 4 rfl) rfl (by decide) rfl fl_X8_9 ?_
  refine e_iconst (v := (0 : Int32)) (dt dk_X8_become 5 rfl) (by decide) ?_
  refine e_bipush (v := (8 : Int32)) (dt dk_X8_become 6 rfl) (by decide) ?_
  refine e_copy ok_copy (dt dk_X8_become 7 rfl) ml_X8_34 rfl rfl (by decide) (by decide) (by decide) (by decide) (by decide) rfl (by decide) ?_
  show Ev _ _ _ _ _ _ 15 [some (.ref 34), some (.ref 1)] [] (upA M 35 (va_cpy (M 2) (M 35) 0 0 8)) _
  refine e_aload_n (dt dk_X8_become 8 rfl) rfl ?_
  refine e_getR ci_X8 (dt dk_X8_become 9 rfl) rfl (by decide) rfl fl_X8_15 ?_
  refine e_iconst (v := (0 : Int32)) (dt dk_X8_become 10 rfl) (by decide) ?_
  refine e_aload_n (dt dk_X8_become 11 rfl) rfl ?_
  refine e_getR ci_X8 (dt dk_X8_become 12 rfl) rfl (by decide) rfl fl_X8_15 ?_
  refine e_iconst (v := (0 : Int32)) (dt dk_X8_become 13 rfl) (by decide) ?_
  refine e_bipush (v := (8 : Int32)) (dt dk_X8_become 14 rfl) (by decide) ?_
  refine e_copy ok_copy (dt dk_X8_become 15 rfl) ml_X8_34 rfl rfl (by decide) (by decide) (by decide) (by decide) (by decide) rfl (by decide) ?_
  show Ev _ _ _ _ _ _ 30 [some (.ref 34), some (.ref 1)] [] (upA (upA M 35 (va_cpy (M 2) (M 35) 0 0 8)) 36 (va_cpy (M 3) (M 36) 0 0 8)) _
  refine e_aload_n (dt dk_X8_become 16 rfl) rfl ?_
  refine e_getR ci_X8 (dt dk_X8_become 17 rfl) rfl (by decide) rfl fl_X8_18 ?_
  refine e_iconst (v := (0 : Int32)) (dt dk_X8_become 18 rfl) (by decide) ?_
  refine e_aload_n (dt dk_X8_become 19 rfl) rfl ?_
  refine e_getR ci_X8 (dt dk_X8_become 20 rfl) rfl (by decide) rfl fl_X8_18 ?_
  refine e_iconst (v := (0 : Int32)) (dt dk_X8_become 21 rfl) (by decide) ?_
  refine e_bipush (v := (8 : Int32)) (dt dk_X8_become 22 rfl) (by decide) ?_
  refine e_copy ok_copy (dt dk_X8_become 23 rfl) ml_X8_34 rfl rfl (by decide) (by decide) (by decide) (by decide) (by decide) rfl (by decide) ?_
  show Ev _ _ _ _ _ _ 45 [some (.ref 34), some (.ref 1)] [] (upA (upA (upA M 35 (va_cpy (M 2) (M 35) 0 0 8)) 36 (va_cpy (M 3) (M 36) 0 0 8)) 37 (va_cpy (M 4) (M 37) 0 0 8)) _
  refine e_aload_n (dt dk_X8_become 24 rfl) rfl ?_
  refine e_getR ci_X8 (dt dk_X8_become 25 rfl) rfl (by decide) rfl fl_X8_21 ?_
  refine e_iconst (v := (0 : Int32)) (dt dk_X8_become 26 rfl) (by decide) ?_
  refine e_aload_n (dt dk_X8_become 27 rfl) rfl ?_
  refine e_getR ci_X8 (dt dk_X8_become 28 rfl) rfl (by decide) rfl fl_X8_21 ?_
  refine e_iconst (v := (0 : Int32)) (dt dk_X8_become 29 rfl) (by decide) ?_
  refine e_bipush (v := (8 : Int32)) (dt dk_X8_become 30 rfl) (by decide) ?_
  refine e_copy ok_copy (dt dk_X8_become 31 rfl) ml_X8_34 rfl rfl (by decide) (by decide) (by decide) (by decide) (by decide) rfl (by decide) ?_
  show Ev _ _ _ _ _ _ 60 [some (.ref 34), some (.ref 1)] [] (upA (upA (upA (upA M 35 (va_cpy (M 2) (M 35) 0 0 8)) 36 (va_cpy (M 3) (M 36) 0 0 8)) 37 (va_cpy (M 4) (M 37) 0 0 8)) 38 (va_cpy (M 5) (M 38) 0 0 8)) _
  refine e_aload_n (dt dk_X8_become 32 rfl) rfl ?_
  refine e_getR ci_X8 (dt dk_X8_become 33 rfl) rfl (by decide) rfl fl_X8_24 ?_
  refine e_iconst (v := (0 : Int32)) (dt dk_X8_become 34 rfl) (by decide) ?_
  refine e_aload_n (dt dk_X8_become 35 rfl) rfl ?_
  refine e_getR ci_X8 (dt dk_X8_become 36 rfl) rfl (by decide) rfl fl_X8_24 ?_
  refine e_iconst (v := (0 : Int32)) (dt dk_X8_become 37 rfl) (by decide) ?_
  refine e_bipush (v := (8 : Int32)) (dt dk_X8_become 38 rfl) (by decide) ?_
  refine e_copy ok_copy (dt dk_X8_become 39 rfl) ml_X8_34 rfl rfl (by decide) (by decide) (by decide) (by decide) (by decide) rfl (by decide) ?_
  show Ev _ _ _ _ _ _ 75 [some (.ref 34), some (.ref 1)] [] (upA (upA (upA (upA (upA M 35 (va_cpy (M 2) (M 35) 0 0 8)) 36 (va_cpy (M 3) (M 36) 0 0 8)) 37 (va_cpy (M 4) (M 37) 0 0 8)) 38 (va_cpy (M 5) (M 38) 0 0 8)) 39 (va_cpy (M 6) (M 39) 0 0 8)) _
  refine e_aload_n (dt dk_X8_become 40 rfl) rfl ?_
  refine e_aload_n (dt dk_X8_become 41 rfl) rfl ?_
  refine e_getI (v := (M 1 6)) ci_X8 (dt dk_X8_become 42 rfl) rfl (by decide) rfl fl_X8_30 rfl ?_
  refine e_putI (ty := .int) ci_X8 (dt dk_X8_become 43 rfl) rfl (by decide) rfl fl_X8_30 rfl (by decide +kernel) rfl rfl ?_
  refine e_aload_n (dt dk_X8_become 44 rfl) rfl ?_
  refine e_aload_n (dt dk_X8_become 45 rfl) rfl ?_
  refine e_getI (v := (M 1 7)) ci_X8 (dt dk_X8_become 46 rfl) rfl (by decide) rfl fl_X8_40 rfl ?_
  refine e_putI (ty := .int) ci_X8 (dt dk_X8_become 47 rfl) rfl (by decide) rfl fl_X8_40 rfl (by decide +kernel) rfl rfl ?_
  refine e_aload_n (dt dk_X8_become 48 rfl) rfl ?_
  refine e_aload_n (dt dk_X8_become 49 rfl) rfl ?_
  refine e_getI (v := (M 1 8)) ci_X8 (dt dk_X8_become 50 rfl) rfl (by decide) rfl fl_X8_43 rfl ?_
  refine e_putI (ty := .int) ci_X8 (dt dk_X8_become 51 rfl) rfl (by decide) rfl fl_X8_43 rfl (by decide +kernel) rfl rfl ?_
  exact e_vret (dt dk_X8_become 52 rfl) rfl rfl
-- X6_become_41_19 (W, depth 1)
def f_X6_become_41_19  (M : Mem) : Option Mem :=
  some (up2 (up2 (upA M 42 (va_cpy (M 20) (M 42) 0 0 41)) 41 1 (M 19 1)) 41 2 (M 19 2))
set_option maxRecDepth 20000 in
set_option maxHeartbeats 2000000 in
theorem sp_X6_become_41_19  (M : Mem) : SpO wV yX6_become cX6_become 2 none 1 [.ref 41, .ref 19] M (f_X6_become_41_19 M) := by
  refine sp_of (L := [some (.ref 41), some (.ref 19)]) rfl (by decide +kernel) rfl rfl ?_
  unfold f_X6_become_41_19
  refine e_aload_n (dt dk_X6_become 0 rfl) rfl ?_
  refine e_getR ci_X6 (dt dk_X6_become 1 rfl) rfl (by decide) rfl fl_X6_9 ?_
  refine e_iconst (v := (0 : Int32)) (dt dk_X6_become 2 rfl) (by decide) ?_
  refine e_aload_n (dt dk_X6_become 3 rfl) rfl ?_
  refine e_getR ci_X6 (dt dk_X6_become 4 rfl) rfl (by decide) rfl fl_X6_9 ?_
  refine e_iconst (v := (0 : Int32)) (dt dk_X6_become 5 rfl) (by decide) ?_
  refine e_bipush (v := (41 : Int32)) (dt dk_X6_become 6 rfl) (by decide) ?_
  refine e_copy ok_copy (dt dk_X6_become 7 rfl) ml_X6_28 rfl rfl (by decide) (by decide) (by decide) (by decide) (by decide) rfl (by decide) ?_
  show Ev _ _ _ _ _ _ 15 [some (.ref 41), some (.ref 19)] [] (upA M 42 (va_cpy (M 20) (M 42) 0 0 41)) _
  refine e_aload_n (dt dk_X6_become 8 rfl) rfl ?_
  refine e_aload_n (dt dk_X6_become 9 rfl) rfl ?_
  refine e_getI (v := (M 19 1)) ci_X6 (dt dk_X6_become 10 rfl) rfl (by decide) rfl fl_X6_25 rfl ?_
  refine e_putI (ty := .int) ci_X6 (dt dk_X6_become 11 rfl) rfl (by decide) rfl fl_X6_25 rfl (by decide +kernel) rfl rfl ?_
  refine e_aload_n (dt dk_X6_become 12 rfl) rfl ?_
  refine e_aload_n (dt dk_X6_become 13 rfl) rfl ?_
  refine e_getI (v := (M 19 2)) ci_X6 (dt dk_X6_become 14 rfl) rfl (by decide) rfl fl_X6_21 rfl ?_
  refine e_putI (ty := .int) ci_X6 (dt dk_X6_become 15 rfl) rfl (by decide) rfl fl_X6_21 rfl (by decide +kernel) rfl rfl ?_
  exact e_vret (dt dk_X6_become 16 rfl) rfl rfl
-- X6_become_51_19 (W, depth 1)
def f_X6_become_51_19  (M : Mem) : Option Mem :=
  some (up2 (up2 (upA M 52 (va_cpy (M 20) (M 52) 0 0 41)) 51 1 (M 19 1)) 51 2 (M 19 2))
set_option maxRecDepth 20000 in
set_option maxHeartbeats 2000000 in
theorem sp_X6_become_51_19  (M : Mem) : SpO wV yX6_become cX6_become 2 none 1 [.ref 51, .ref 19] M (f_X6_become_51_19 M) := by
  refine sp_of (L := [some (.ref 51), some (.ref 19)]) rfl (by decide +kernel) rfl rfl ?_
  unfold f_X6_become_51_19
  refine e_aload_n (dt dk_X6_become 0 rfl) rfl ?_
  refine e_getR ci_X6 (dt dk_X6_become 1 rfl) rfl (by decide) rfl fl_X6_9 ?_
  refine e_iconst (v := (0 : Int32)) (dt dk_X6_become 2 rfl) (by decide) ?_
  refine e_aload_n (dt dk_X6_become 3 rfl) rfl ?_
  refine e_getR ci_X6 (dt dk_X6_become 4 rfl) rfl (by decide) rfl fl_X6_9 ?_
  refine e_iconst (v := (0 : Int32)) (dt dk_X6_become 5 rfl) (by decide) ?_
  refine e_bipush (v := (41 : Int32)) (dt dk_X6_become 6 rfl) (by decide) ?_
  refine e_copy ok_copy (dt dk_X6_become 7 rfl) ml_X6_28 rfl rfl (by decide) (by decide) (by decide) (by decide) (by decide) rfl (by decide) ?_
  show Ev _ _ _ _ _ _ 15 [some (.ref 51), some (.ref 19)] [] (upA M 52 (va_cpy (M 20) (M 52) 0 0 41)) _
  refine e_aload_n (dt dk_X6_become 8 rfl) rfl ?_
  refine e_aload_n (dt dk_X6_become 9 rfl) rfl ?_
  refine e_getI (v := (M 19 1)) ci_X6 (dt dk_X6_become 10 rfl) rfl (by decide) rfl fl_X6_25 rfl ?_
  refine e_putI (ty := .int) ci_X6 (dt dk_X6_become 11 rfl) rfl (by decide) rfl fl_X6_25 rfl (by decide +kernel) rfl rfl ?_
  refine e_aload_n (dt dk_X6_become 12 rfl) rfl ?_
  refine e_aload_n (dt dk_X6_become 13 rfl) rfl ?_
  refine e_getI (v := (M 19 2)) ci_X6 (dt dk_X6_become 14 rfl) rfl (by decide) rfl fl_X6_21 rfl ?_
  refine e_putI (ty := .int) ci_X6 (dt dk_X6_become 15 rfl) rfl (by decide) rfl fl_X6_21 rfl (by decide +kernel) rfl rfl ?_
  exact e_vret (dt dk_X6_become 16 rfl) rfl rfl
-- X8_become_44_1 (W, depth 1)
def f_X8_become_44_1  (M : Mem) : Option Mem :=
  some (up2 (up2 (up2 (upA (upA (upA (upA (upA M 45 (va_cpy (M 2) (M 45) 0 0 8)) 46 (va_cpy (M 3) (M 46) 0 0 8)) 47 (va_cpy (M 4) (M 47) 0 0 8)) 48 (va_cpy (M 5) (M 48) 0 0 8)) 49 (va_cpy (M 6) (M 49) 0 0 8)) 44 6 (M 1 6)) 44 7 (M 1 7)) 44 8 (M 1 8))
set_option maxRecDepth 20000 in
set_option maxHeartbeats 2000000 in
theorem sp_X8_become_44_1  (M : Mem) : SpO wV yX8_become cX8_become 2 none 1 [.ref 44, .ref 1] M (f_X8_become_44_1 M) := by
  refine sp_of (L := [some (.ref 44), some (.ref 1)]) rfl (by decide +kernel) rfl rfl ?_
  unfold f_X8_become_44_1
  refine e_aload_n (dt dk_X8_become 0 rfl) rfl ?_
  refine e_getR ci_X8 (dt dk_X8_become 1 rfl) rfl (by decide) rfl fl_X8_9 ?_
  refine e_iconst (v := (0 : Int32)) (dt dk_X8_become 2 rfl) (by decide) ?_
  refine e_aload_n (dt dk_X8_become 3 rfl) rfl ?_
  refine e_getR ci_X8 (dt dk_X8_become 4 rfl) rfl (by decide) rfl fl_X8_9 ?_
  refine e_iconst (v := (0 : Int32)) (dt dk_X8_become 5 rfl) (by decide) ?_
  refine e_bipush (v := (8 : Int32)) (dt dk_X8_become 6 rfl) (by decide) ?_
  refine e_copy ok_copy (dt dk_X8_become 7 rfl) ml_X8_34 rfl rfl (by decide) (by decide) (by decide) (by decide) (by decide) rfl (by decide) ?_
  show Ev _ _ _ _ _ _ 15 [some (.ref 44), some (.ref 1)] [] (upA M 45 (va_cpy (M 2) (M 45) 0 0 8)) _
  refine e_aload_n (dt dk_X8_become 8 rfl) rfl ?_
  refine e_getR ci_X8 (dt dk_X8_become 9 rfl) rfl (by decide) rfl fl_X8_15 ?_
  refine e_iconst (v := (0 : Int32)) (dt dk_X8_become 10 rfl) (by decide) ?_
  refine e_aload_n (dt dk_X8_become 11 rfl) rfl ?_
  refine e_getR ci_X8 (dt dk_X8_become 12 rfl) rfl (by decide) rfl fl_X8_15 ?_
  refine e_iconst (v := (0 : Int32)) (dt dk_X8_become 13 rfl) (by decide) ?_
  refine e_bipush (v := (8 : Int32)) (dt dk_X8_become 14 rfl) (by decide) ?_
  refine e_copy ok_copy (dt dk_X8_become 15 rfl) ml_X8_34 rfl rfl (by decide) (by decide) (by decide) (by decide) (by decide) rfl (by decide) ?_
  show Ev _ _ _ _ _ _ 30 [some (.ref 44), some (.ref 1)] [] (upA (upA M 45 (va_cpy (M 2) (M 45) 0 0 8)) 46 (va_cpy (M 3) (M 46) 0 0 8)) _
  refine e_aload_n (dt dk_X8_become 16 rfl) rfl ?_
  refine e_getR ci_X8 (dt dk_X8_become 17 rfl) rfl (by decide) rfl fl_X8_18 ?_
  refine e_iconst (v := (0 : Int32)) (dt dk_X8_become 18 rfl) (by decide) ?_
  refine e_aload_n (dt dk_X8_become 19 rfl) rfl ?_
  refine e_getR ci_X8 (dt dk_X8_become 20 rfl) rfl (by decide) rfl fl_X8_18 ?_
  refine e_iconst (v := (0 : Int32)) (dt dk_X8_become 21 rfl) (by decide) ?_
  refine e_bipush (v := (8 : Int32)) (dt dk_X8_become 22 rfl) (by decide) ?_
  refine e_copy ok_copy (dt dk_X8_become 23 rfl) ml_X8_34 rfl rfl (by decide) (by decide) (by decide) (by decide) (by decide) rfl (by decide) ?_
  show Ev _ _ _ _ _ _ 45 [some (.ref 44), some (.ref 1)] [] (upA (upA (upA M 45 (va_cpy (M 2) (M 45) 0 0 8)) 46 (va_cpy (M 3) (M 46) 0 0 8)) 47 (va_cpy (M 4) (M 47) 0 0 8)) _
  refine e_aload_n (dt dk_X8_become 24 rfl) rfl ?_
  refine e_getR ci_X8 (dt dk_X8_become 25 rfl) rfl (by decide) rfl fl_X8_21 ?_
  refine e_iconst (v := (0 : Int32)) (dt dk_X8_become 26 rfl) (by decide) ?_
  refine e_aload_n (dt dk_X8_become 27 rfl) rfl ?_
  refine e_getR ci_X8 (dt dk_X8_become 28 rfl) rfl (by decide) rfl fl_X8_21 ?_
  refine e_iconst (v := (0 : Int32)) (dt dk_X8_become 29 rfl) (by decide) ?_
  refine e_bipush (v := (8 : Int32)) (dt dk_X8_become 30 rfl) (by decide) ?_
  refine e_copy ok_copy (dt dk_X8_become 31 rfl) ml_X8_34 rfl rfl (by decide) (by decide) (by decide) (by decide) (by decide) rfl (by decide) ?_
  show Ev _ _ _ _ _ _ 60 [some (.ref 44), some (.ref 1)] [] (upA (upA (upA (upA M 45 (va_cpy (M 2) (M 45) 0 0 8)) 46 (va_cpy (M 3) (M 46) 0 0 8)) 47 (va_cpy (M 4) (M 47) 0 0 8)) 48 (va_cpy (M 5) (M 48) 0 0 8)) _
  refine e_aload_n (dt dk_X8_become 32 rfl) rfl ?_
  refine e_getR ci_X8 (dt dk_X8_become 33 rfl) rfl (by decide) rfl fl_X8_24 ?_
  refine e_iconst (v := (0 : Int32)) (dt dk_X8_become 34 rfl) (by decide) ?_
  refine e_aload_n (dt dk_X8_become 35 rfl) rfl ?_
  refine e_getR ci_X8 (dt dk_X8_become 36 rfl) rfl (by decide) rfl fl_X8_24 ?_
  refine e_iconst (v := (0 : Int32)) (dt dk_X8_become 37 rfl) (by decide) ?_
  refine e_bipush (v := (8 : Int32)) (dt dk_X8_become 38 rfl) (by decide) ?_
  refine e_copy ok_copy (dt dk_X8_become 39 rfl) ml_X8_34 rfl rfl (by decide) (by decide) (by decide) (by decide) (by decide) rfl (by decide) ?_
  show Ev _ _ _ _ _ _ 75 [some (.ref 44), some (.ref 1)] [] (upA (upA (upA (upA (upA M 45 (va_cpy (M 2) (M 45) 0 0 8)) 46 (va_cpy (M 3) (M 46) 0 0 8)) 47 (va_cpy (M 4) (M 47) 0 0 8)) 48 (va_cpy (M 5) (M 48) 0 0 8)) 49 (va_cpy (M 6) (M 49) 0 0 8)) _
  refine e_aload_n (dt dk_X8_become 40 rfl) rfl ?_
  refine e_aload_n (dt dk_X8_become 41 rfl) rfl ?_
  refine e_getI (v := (M 1 6)) ci_X8 (dt dk_X8_become 42 rfl) rfl (by decide) rfl fl_X8_30 rfl ?_
  refine e_putI (ty := .int) ci_X8 (dt dk_X8_become 43 rfl) rfl (by decide) rfl fl_X8_30 rfl (by decide +kernel) rfl rfl ?_
  refine e_aload_n (dt dk_X8_become 44 rfl) rfl ?_
  refine e_aload_n (dt dk_X8_become 45 rfl) rfl ?_
  refine e_getI (v := (M 1 7)) ci_X8 (dt dk_X8_become 46 rfl) rfl (by decide) rfl fl_X8_40 rfl ?_
  refine e_putI (ty := .int) ci_X8 (dt dk_X8_become 47 rfl) rfl (by decide) rfl fl_X8_40 rfl (by decide +kernel) rfl rfl ?_
  refine e_aload_n (dt dk_X8_become 48 rfl) rfl ?_
  refine e_aload_n (dt dk_X8_become 49 rfl) rfl ?_
  refine e_getI (v := (M 1 8)) ci_X8 (dt dk_X8_become 50 rfl) rfl (by decide) rfl fl_X8_43 rfl ?_
  refine e_putI (ty := .int) ci_X8 (dt dk_X8_become 51 rfl) rfl (by decide) rfl fl_X8_43 rfl (by decide +kernel) rfl rfl ?_
  exact e_vret (dt dk_X8_become 52 rfl) rfl rfl
-- X8_become_1_34 (W, depth 1)
def f_X8_become_1_34  (M : Mem) : Option Mem :=
  some (up2 (up2 (up2 (upA (upA (upA (upA (upA M 2 (va_cpy (M 35) (M 2) 0 0 8)) 3 (va_cpy (M 36) (M 3) 0 0 8)) 4 (va_cpy (M 37) (M 4) 0 0 8)) 5 (va_cpy (M 38) (M 5) 0 0 8)) 6 (va_cpy (M 39) (M 6) 0 0 8)) 1 6 (M 34 6)) 1 7 (M 34 7)) 1 8 (M 34 8))
set_option maxRecDepth 20000 in
set_option maxHeartbeats 2000000 in
theorem sp_X8_become_1_34  (M : Mem) : SpO wV yX8_become cX8_become 2 none 1 [.ref 1, .ref 34] M (f_X8_become_1_34 M) := by
  refine sp_of (L := [some (.ref 1), some (.ref 34)]) rfl (by decide +kernel) rfl rfl ?_
  unfold f_X8_become_1_34
  refine e_aload_n (dt dk_X8_become 0 rfl) rfl ?_
  refine e_getR ci_X8 (dt dk_X8_become 1 rfl) rfl (by decide) rfl fl_X8_9 ?_
  refine e_iconst (v := (0 : Int32)) (dt dk_X8_become 2 rfl) (by decide) ?_
  refine e_aload_n (dt dk_X8_become 3 rfl) rfl ?_
  refine e_getR ci_X8 (dt dk_X8_become 4 rfl) rfl (by decide) rfl fl_X8_9 ?_
  refine e_iconst (v := (0 : Int32)) (dt dk_X8_become 5 rfl) (by decide) ?_
  refine e_bipush (v := (8 : Int32)) (dt dk_X8_become 6 rfl) (by decide) ?_
  refine e_copy ok_copy (dt dk_X8_become 7 rfl) ml_X8_34 rfl rfl (by decide) (by decide) (by decide) (by decide) (by decide) rfl (by decide) ?_
  show Ev _ _ _ _ _ _ 15 [some (.ref 1), some (.ref 34)] [] (upA M 2 (va_cpy (M 35) (M 2) 0 0 8)) _
  refine e_aload_n (dt dk_X8_become 8 rfl) rfl ?_
  refine e_getR ci_X8 (dt dk_X8_become 9 rfl) rfl (by decide) rfl fl_X8_15 ?_
  refine e_iconst (v := (0 : Int32)) (dt dk_X8_become 10 rfl) (by decide) ?_
  refine e_aload_n (dt dk_X8_become 11 rfl) rfl ?_
  refine e_getR ci_X8 (dt dk_X8_become 12 rfl) rfl (by decide) rfl fl_X8_15 ?_
  refine e_iconst (v := (0 : Int32)) (dt dk_X8_become 13 rfl) (by decide) ?_
  refine e_bipush (v := (8 : Int32)) (dt dk_X8_become 14 rfl) (by decide) ?_
  refine e_copy ok_copy (dt dk_X8_become 15 rfl) ml_X8_34 rfl rfl (by decide) (by decide) (by decide) (by decide) (by decide) rfl (by decide) ?_
  show Ev _ _ _ _ _ _ 30 [some (.ref 1), some (.ref 34)] [] (upA (upA M 2 (va_cpy (M 35) (M 2) 0 0 8)) 3 (va_cpy (M 36) (M 3) 0 0 8)) _
  refine e_aload_n (dt dk_X8_become 16 rfl) rfl ?_
  refine e_getR ci_X8 (dt dk_X8_become 17 rfl) rfl (by decide) rfl fl_X8_18 ?_
  refine e_iconst (v := (0 : Int32)) (dt dk_X8_become 18 rfl) (by decide) ?_
  refine e_aload_n (dt dk_X8_become 19 rfl) rfl ?_
  refine e_getR ci_X8 (dt dk_X8_become 20 rfl) rfl (by decide) rfl fl_X8_18 ?_
  refine e_iconst (v := (0 : Int32)) (dt dk_X8_become 21 rfl) (by decide) ?_
  refine e_bipush (v := (8 : Int32)) (dt dk_X8_become 22 rfl) (by decide) ?_
  refine e_copy ok_copy (dt dk_X8_become 23 rfl) ml_X8_34 rfl rfl (by decide) (by decide) (by decide) (by decide) (by decide) rfl (by decide) ?_
  show Ev _ _ _ _ _ _ 45 [some (.ref 1), some (.ref 34)] [] (upA (upA (upA M 2 (va_cpy (M 35) (M 2) 0 0 8)) 3 (va_cpy (M 36) (M 3) 0 0 8)) 4 (va_cpy (M 37) (M 4) 0 0 8)) _
  refine e_aload_n (dt dk_X8_become 24 rfl) rfl ?_
  refine e_getR ci_X8 (dt dk_X8_become 25 rfl) rfl (by decide) rfl fl_X8_21 ?_
  refine e_iconst (v := (0 : Int32)) (dt dk_X8_become 26 rfl) (by decide) ?_
  refine e_aload_n (dt dk_X8_become 27 rfl) rfl ?_
  refine e_getR ci_X8 (dt dk_X8_become 28 rfl) rfl (by decide) rfl fl_X8_21 ?_
  refine e_iconst (v := (0 : Int32)) (dt dk_X8_become 29 rfl) (by decide) ?_
  refine e_bipush (v := (8 : Int32)) (dt dk_X8_become 30 rfl) (by decide) ?_
  refine e_copy ok_copy (dt dk_X8_become 31 rfl) ml_X8_34 rfl rfl (by decide) (by decide) (by decide) (by decide) (by decide) rfl (by decide) ?_
  show Ev _ _ _ _ _ _ 60 [some (.ref 1), some (.ref 34)] [] (upA (upA (upA (upA M 2 (va_cpy (M 35) (M 2) 0 0 8)) 3 (va_cpy (M 36) (M 3) 0 0 8)) 4 (va_cpy (M 37) (M 4) 0 0 8)) 5 (va_cpy (M 38) (M 5) 0 0 8)) _
  refine e_aload_n (dt dk_X8_become 32 rfl) rfl ?_
  refine e_getR ci_X8 (dt dk_X8_become 33 rfl) rfl (by decide) rfl fl_X8_24 ?_
  refine e_iconst (v := (0 : Int32)) (dt dk_X8_become 34 rfl) (by decide) ?_
  refine e_aload_n (dt dk_X8_become 35 rfl) rfl ?_
  refine e_getR ci_X8 (dt dk_X8_become 36 rfl) rfl (by decide) rfl fl_X8_24 ?_
  refine e_iconst (v := (0 : Int32)) (dt dk_X8_become 37 rfl) (by decide) ?_
  refine e_bipush (v := (8 : Int32)) (dt dk_X8_become 38 rfl) (by decide) ?_
  refine e_copy ok_copy (dt dk_X8_become 39 rfl) ml_X8_34 rfl rfl (by decide) (by decide) (by decide) (by decide) (by decide) rfl (by decide) ?_
  show Ev _ _ _ _ _ _ 75 [some (.ref 1), some (.ref 34)] [] (upA (upA (upA (upA (upA M 2 (va_cpy (M 35) (M 2) 0 0 8)) 3 (va_cpy (M 36) (M 3) 0 0 8)) 4 (va_cpy (M 37) (M 4) 0 0 8)) 5 (va_cpy (M 38) (M 5) 0 0 8)) 6 (va_cpy (M 39) (M 6) 0 0 8)) _
  refine e_aload_n (dt dk_X8_become 40 rfl) rfl ?_
  refine e_aload_n (dt dk_X8_become 41 rfl) rfl ?_
  refine e_getI (v := (M 34 6)) ci_X8 (dt dk_X8_become 42 rfl) rfl (by decide) rfl fl_X8_30 rfl ?_
  refine e_putI (ty := .int) ci_X8 (dt dk_X8_become 43 rfl) rfl (by decide) rfl fl_X8_30 rfl (by decide +kernel) rfl rfl ?_
  refine e_aload_n (dt dk_X8_become 44 rfl) rfl ?_
  refine e_aload_n (dt dk_X8_become 45 rfl) rfl ?_
  refine e_getI (v := (M 34 7)) ci_X8 (dt dk_X8_become 46 rfl) rfl (by decide) rfl fl_X8_40 rfl ?_
  refine e_putI (ty := .int) ci_X8 (dt dk_X8_become 47 rfl) rfl (by decide) rfl fl_X8_40 rfl (by decide +kernel) rfl rfl ?_
  refine e_aload_n (dt dk_X8_become 48 rfl) rfl ?_
  refine e_aload_n (dt dk_X8_become 49 rfl) rfl ?_
  refine e_getI (v := (M 34 8)) ci_X8 (dt dk_X8_become 50 rfl) rfl (by decide) rfl fl_X8_43 rfl ?_
  refine e_putI (ty := .int) ci_X8 (dt dk_X8_become 51 rfl) rfl (by decide) rfl fl_X8_43 rfl (by decide +kernel) rfl rfl ?_
  exact e_vret (dt dk_X8_become 52 rfl) rfl rfl
-- X6_become_19_41 (W, depth 1)
def f_X6_become_19_41  (M : Mem) : Option Mem :=
  some (up2 (up2 (upA M 20 (va_cpy (M 42) (M 20) 0 0 41)) 19 1 (M 41 1)) 19 2 (M 41 2))
set_option maxRecDepth 20000 in
set_option maxHeartbeats 2000000 in
theorem sp_X6_become_19_41  (M : Mem) : SpO wV yX6_become cX6_become 2 none 1 [.ref 19, .ref 41] M (f_X6_become_19_41 M) := by
  refine sp_of (L := [some (.ref 19), some (.ref 41)]) rfl (by decide +kernel) rfl rfl ?_
  unfold f_X6_become_19_41
  refine e_aload_n (dt dk_X6_become 0 rfl) rfl ?_
  refine e_getR ci_X6 (dt dk_X6_become 1 rfl) rfl (by decide) rfl fl_X6_9 ?_
  refine e_iconst (v := (0 : Int32)) (dt dk_X6_become 2 rfl) (by decide) ?_
  refine e_aload_n (dt dk_X6_become 3 rfl) rfl ?_
  refine e_getR ci_X6 (dt dk_X6_become 4 rfl) rfl (by decide) rfl fl_X6_9 ?_
  refine e_iconst (v := (0 : Int32)) (dt dk_X6_become 5 rfl) (by decide) ?_
  refine e_bipush (v := (41 : Int32)) (dt dk_X6_become 6 rfl) (by decide) ?_
  refine e_copy ok_copy (dt dk_X6_become 7 rfl) ml_X6_28 rfl rfl (by decide) (by decide) (by decide) (by decide) (by decide) rfl (by decide) ?_
  show Ev _ _ _ _ _ _ 15 [some (.ref 19), some (.ref 41)] [] (upA M 20 (va_cpy (M 42) (M 20) 0 0 41)) _
  refine e_aload_n (dt dk_X6_become 8 rfl) rfl ?_
  refine e_aload_n (dt dk_X6_become 9 rfl) rfl ?_
  refine e_getI (v := (M 41 1)) ci_X6 (dt dk_X6_become 10 rfl) rfl (by decide) rfl fl_X6_25 rfl ?_
  refine e_putI (ty := .int) ci_X6 (dt dk_X6_become 11 rfl) rfl (by decide) rfl fl_X6_25 rfl (by decide +kernel) rfl rfl ?_
  refine e_aload_n (dt dk_X6_become 12 rfl) rfl ?_
  refine e_aload_n (dt dk_X6_become 13 rfl) rfl ?_
  refine e_getI (v := (M 41 2)) ci_X6 (dt dk_X6_become 14 rfl) rfl (by decide) rfl fl_X6_21 rfl ?_
  refine e_putI (ty := .int) ci_X6 (dt dk_X6_become 15 rfl) rfl (by decide) rfl fl_X6_21 rfl (by decide +kernel) rfl rfl ?_
  exact e_vret (dt dk_X6_become 16 rfl) rfl rfl
-- X6_become_19_51 (W, depth 1)
def f_X6_become_19_51  (M : Mem) : Option Mem :=
  some (up2 (up2 (upA M 20 (va_cpy (M 52) (M 20) 0 0 41)) 19 1 (M 51 1)) 19 2 (M 51 2))
set_option maxRecDepth 20000 in
set_option maxHeartbeats 2000000 in
theorem sp_X6_become_19_51  (M : Mem) : SpO wV yX6_become cX6_become 2 none 1 [.ref 19, .ref 51] M (f_X6_become_19_51 M) := by
  refine sp_of (L := [some (.ref 19), some (.ref 51)]) rfl (by decide +kernel) rfl rfl ?_
  unfold f_X6_become_19_51
  refine e_aload_n (dt dk_X6_become 0 rfl) rfl ?_
  refine e_getR ci_X6 (dt dk_X6_become 1 rfl) rfl (by decide) rfl fl_X6_9 ?_
  refine e_iconst (v := (0 : Int32)) (dt dk_X6_become 2 rfl) (by decide) ?_
  refine e_aload_n (dt dk_X6_become 3 rfl) rfl ?_
  refine e_getR ci_X6 (dt dk_X6_become 4 rfl) rfl (by decide) rfl fl_X6_9 ?_
  refine e_iconst (v := (0 : Int32)) (dt dk_X6_become 5 rfl) (by decide) ?_
  refine e_bipush (v := (41 : Int32)) (dt dk_X6_become 6 rfl) (by decide) ?_
  refine e_copy ok_copy (dt dk_X6_become 7 rfl) ml_X6_28 rfl rfl (by decide) (by decide) (by decide) (by decide) (by decide) rfl (by decide) ?_
  show Ev _ _ _ _ _ _ 15 [some (.ref 19), some (.ref 51)] [] (upA M 20 (va_cpy (M 52) (M 20) 0 0 41)) _
  refine e_aload_n (dt dk_X6_become 8 rfl) rfl ?_
  refine e_aload_n (dt dk_X6_become 9 rfl) rfl ?_
  refine e_getI (v := (M 51 1)) ci_X6 (dt dk_X6_become 10 rfl) rfl (by decide) rfl fl_X6_25 rfl ?_
  refine e_putI (ty := .int) ci_X6 (dt dk_X6_become 11 rfl) rfl (by decide) rfl fl_X6_25 rfl (by decide +kernel) rfl rfl ?_
  refine e_aload_n (dt dk_X6_become 12 rfl) rfl ?_
  refine e_aload_n (dt dk_X6_become 13 rfl) rfl ?_
  refine e_getI (v := (M 51 2)) ci_X6 (dt dk_X6_become 14 rfl) rfl (by decide) rfl fl_X6_21 rfl ?_
  refine e_putI (ty := .int) ci_X6 (dt dk_X6_become 15 rfl) rfl (by decide) rfl fl_X6_21 rfl (by decide +kernel) rfl rfl ?_
  exact e_vret (dt dk_X6_become 16 rfl) rfl rfl
-- X8_become_1_44 (W, depth 1)
def f_X8_become_1_44  (M : Mem) : Option Mem :=
  some (up2 (up2 (up2 (upA (upA (upA (upA (upA M 2 (va_cpy (M 45) (M 2) 0 0 8)) 3 (va_cpy (M 46) (M 3) 0 0 8)) 4 (va_cpy (M 47) (M 4) 0 0 8)) 5 (va_cpy (M 48) (M 5) 0 0 8)) 6 (va_cpy (M 49) (M 6) 0 0 8)) 1 6 (M 44 6)) 1 7 (M 44 7)) 1 8 (M 44 8))
set_option maxRecDepth 20000 in
set_option maxHeartbeats 2000000 in
theorem sp_X8_become_1_44  (M : Mem) : SpO wV yX8_become cX8_become 2 none 1 [.ref 1, .ref 44] M (f_X8_become_1_44 M) := by
  refine sp_of (L := [some (.ref 1), some (.ref 44)]) rfl (by decide +kernel) rfl rfl ?_
  unfold f_X8_become_1_44
  refine e_aload_n (dt dk_X8_become 0 rfl) rfl ?_
  refine e_getR ci_X8 (dt dk_X8_become 1 rfl) rfl (by decide) rfl fl_X8_9 ?_
  refine e_iconst (v := (0 : Int32)) (dt dk_X8_become 2 rfl) (by decide) ?_
  refine e_aload_n (dt dk_X8_become 3 rfl) rfl ?_
  refine e_getR ci_X8 (dt dk_X8_become 4 rfl) rfl (by decide) rfl fl_X8_9 ?_
  refine e_iconst (v := (0 : Int32)) (dt dk_X8_become 5 rfl) (by decide) ?_
  refine e_bipush (v := (8 : Int32)) (dt dk_X8_become 6 rfl) (by decide) ?_
  refine e_copy ok_copy (dt dk_X8_become 7 rfl) ml_X8_34 rfl rfl (by decide) (by decide) (by decide) (by decide) (by decide) rfl (by decide) ?_
  show Ev _ _ _ _ _ _ 15 [some (.ref 1), some (.ref 44)] [] (upA M 2 (va_cpy (M 45) (M 2) 0 0 8)) _
  refine e_aload_n (dt dk_X8_become 8 rfl) rfl ?_
  refine e_getR ci_X8 (dt dk_X8_become 9 rfl) rfl (by decide) rfl fl_X8_15 ?_
  refine e_iconst (v := (0 : Int32)) (dt dk_X8_become 10 rfl) (by decide) ?_
  refine e_aload_n (dt dk_X8_become 11 rfl) rfl ?_
  refine e_getR ci_X8 (dt dk_X8_become 12 rfl) rfl (by decide) rfl fl_X8_15 ?_
  refine e_iconst (v := (0 : Int32)) (dt dk_X8_become 13 rfl) (by decide) ?_
  refine e_bipush (v := (8 : Int32)) (dt dk_X8_become 14 rfl) (by decide) ?_
  refine e_copy ok_copy (dt dk_X8_become 15 rfl) ml_X8_34 rfl rfl (by decide) (by decide) (by decide) (by decide) (by decide) rfl (by decide) ?_
  show Ev _ _ _ _ _ _ 30 [some (.ref 1), some (.ref 44)] [] (upA (upA M 2 (va_cpy (M 45) (M 2) 0 0 8)) 3 (va_cpy (M 46) (M 3) 0 0 8)) _
  refine e_aload_n (dt dk_X8_become 16 rfl) rfl ?_
  refine e_getR ci_X8 (dt dk_X8_become 17 rfl) rfl (by decide) rfl fl_X8_18 ?_
  refine e_iconst (v := (0 : Int32)) (dt dk_X8_become 18 rfl) (by decide) ?_
  refine e_aload_n (dt dk_X8_become 19 rfl) rfl ?_
  refine e_getR ci_X8 (dt dk_X8_become 20 rfl) rfl (by decide) rfl fl_X8_18 ?_
  refine e_iconst (v := (0 : Int32)) (dt dk_X8_become 21 rfl) (by decide) ?_
  refine e_bipush (v := (8 : Int32)) (dt dk_X8_become 22 rfl) (by decide) ?_
  refine e_copy ok_copy (dt dk_X8_become 23 rfl) ml_X8_34 rfl rfl (by decide) (by decide) (by decide) (by decide) (by decide) rfl (by decide) ?_
  show Ev _ _ _ _ _ _ 45 [some (.ref 1), some (.ref 44)] [] (upA (upA (upA M 2 (va_cpy (M 45) (M 2) 0 0 8)) 3 (va_cpy (M 46) (M 3) 0 0 8)) 4 (va_cpy (M 47) (M 4) 0 0 8)) _
  refine e_aload_n (dt dk_X8_become 24 rfl) rfl ?_
  refine e_getR ci_X8 (dt dk_X8_become 25 rfl) rfl (by decide) rfl fl_X8_21 ?_
  refine e_iconst (v := (0 : Int32)) (dt dk_X8_become 26 rfl) (by decide) ?_
  refine e_aload_n (dt dk_X8_become 27 rfl) rfl ?_
  refine e_getR ci_X8 (dt dk_X8_become 28 rfl) rfl (by decide) rfl fl_X8_21 ?_
  refine e_iconst (v := (0 : Int32)) (dt dk_X8_become 29 rfl) (by decide) ?_
  refine e_bipush (v := (8 : Int32)) (dt dk_X8_become 30 rfl) (by decide) ?_
  refine e_copy ok_copy (dt dk_X8_become 31 rfl) ml_X8_34 rfl rfl (by decide) (by decide) (by decide) (by decide) (by decide) rfl (by decide) ?_
  show Ev _ _ _ _ _ _ 60 [some (.ref 1), some (.ref 44)] [] (upA (upA (upA (upA M 2 (va_cpy (M 45) (M 2) 0 0 8)) 3 (va_cpy (M 46) (M 3) 0 0 8)) 4 (va_cpy (M 47) (M 4) 0 0 8)) 5 (va_cpy (M 48) (M 5) 0 0 8)) _
  refine e_aload_n (dt dk_X8_become 32 rfl) rfl ?_
  refine e_getR ci_X8 (dt dk_X8_become 33 rfl) rfl (by decide) rfl fl_X8_24 ?_
  refine e_iconst (v := (0 : Int32)) (dt dk_X8_become 34 rfl) (by decide) ?_
  refine e_aload_n (dt dk_X8_become 35 rfl) rfl ?_
  refine e_getR ci_X8 (dt dk_X8_become 36 rfl) rfl (by decide) rfl fl_X8_24 ?_
  refine e_iconst (v := (0 : Int32)) (dt dk_X8_become 37 rfl) (by decide) ?_
  refine e_bipush (v := (8 : Int32)) (dt dk_X8_become 38 rfl) (by decide) ?_
  refine e_copy ok_copy (dt dk_X8_become 39 rfl) ml_X8_34 rfl rfl (by decide) (by decide) (by decide) (by decide) (by decide) rfl (by decide) ?_
  show Ev _ _ _ _ _ _ 75 [some (.ref 1), some (.ref 44)] [] (upA (upA (upA (upA (upA M 2 (va_cpy (M 45) (M 2) 0 0 8)) 3 (va_cpy (M 46) (M 3) 0 0 8)) 4 (va_cpy (M 47) (M 4) 0 0 8)) 5 (va_cpy (M 48) (M 5) 0 0 8)) 6 (va_cpy (M 49) (M 6) 0 0 8)) _
  refine e_aload_n (dt dk_X8_become 40 rfl) rfl ?_
  refine e_aload_n (dt dk_X8_become 41 rfl) rfl ?_
  refine e_getI (v := (M 44 6)) ci_X8 (dt dk_X8_become 42 rfl) rfl (by decide) rfl fl_X8_30 rfl ?_
  refine e_putI (ty := .int) ci_X8 (dt dk_X8_become 43 rfl) rfl (by decide) rfl fl_X8_30 rfl (by decide +kernel) rfl rfl ?_
  refine e_aload_n (dt dk_X8_become 44 rfl) rfl ?_
  refine e_aload_n (dt dk_X8_become 45 rfl) rfl ?_
  refine e_getI (v := (M 44 7)) ci_X8 (dt dk_X8_become 46 rfl) rfl (by decide) rfl fl_X8_40 rfl ?_
  refine e_putI (ty := .int) ci_X8 (dt dk_X8_become 47 rfl) rfl (by decide) rfl fl_X8_40 rfl (by decide +kernel) rfl rfl ?_
  refine e_aload_n (dt dk_X8_become 48 rfl) rfl ?_
  refine e_aload_n (dt dk_X8_become 49 rfl) rfl ?_
  refine e_getI (v := (M 44 8)) ci_X8 (dt dk_X8_become 50 rfl) rfl (by decide) rfl fl_X8_43 rfl ?_
  refine e_putI (ty := .int) ci_X8 (dt dk_X8_become 51 rfl) rfl (by decide) rfl fl_X8_43 rfl (by decide +kernel) rfl rfl ?_
  exact e_vret (dt dk_X8_become 52 rfl) rfl rfl
-- X8_clearHouses_1 (R, depth 0)
def bd_X8_clearHouses_1_4 (M : Mem)  (K4 : Int32 → Int32 → Option Int32) (v1 : Int32) (v2 : Int32) : Option Int32 :=
  (if (8 : Int32) ≤ v2 then some v1 else if inb v2 8 then (if (M 2 (ix v2)) = 0 then (K4 (v1 ||| ((1 : Int32) <<< (v2 &&& 31))) (v2 + (1 : Int32))) else (K4 v1 (v2 + (1 : Int32)))) else none)
set_option maxRecDepth 20000 in
set_option maxHeartbeats 2000000 in
theorem ev_bd_X8_clearHouses_1_4 (M : Mem)  (K4 : Int32 → Int32 → Option Int32)  (hK4 : ∀ (v1 : Int32) (v2 : Int32), Ev none (wR M) RX8 cX8_clearHouses (some .int) 0 4 [some (.ref 1), some (.int v1), some (.int v2)] [] M (K4 v1 v2)) (v1 : Int32) (v2 : Int32) : Ev none (wR M) RX8 cX8_clearHouses (some .int) 0 4 [some (.ref 1), some (.int v1), some (.int v2)] [] M (bd_X8_clearHouses_1_4 M K4 v1 v2) := by
  unfold bd_X8_clearHouses_1_4
  refine e_iload_n (dt dk_X8_clearHouses 4 rfl) rfl ?_
  refine e_bipush (v := (8 : Int32)) (dt dk_X8_clearHouses 5 rfl) (by decide) ?_
  refine e_icmp_ge 31 (dt dk_X8_clearHouses 6 rfl) (by decide) (fun h1 => ?_) (fun h1 => ?_)
  · refine e_iload_n (dt dk_X8_clearHouses 20 rfl) rfl ?_
    exact e_iret (dt dk_X8_clearHouses 21 rfl) rfl rfl rfl
  · refine e_aload_n (dt dk_X8_clearHouses 7 rfl) rfl ?_
    refine e_getR ci_X8 (dt dk_X8_clearHouses 8 rfl) rfl (by decide) rfl fl_X8_9 ?_
    refine e_iload_n (dt dk_X8_clearHouses 9 rfl) rfl ?_
    refine e_if (fun h2 => ?_)
    refine e_iald' (v := (M 2 (ix v2))) (dt dk_X8_clearHouses 10 rfl) rfl h2 rfl ?_
    refine e_if_ne 25 (dt dk_X8_clearHouses 11 rfl) (by decide) (fun h3 => ?_) (fun h3 => ?_)
    · refine e_iload_n (dt dk_X8_clearHouses 12 rfl) rfl ?_
      refine e_iconst (v := (1 : Int32)) (dt dk_X8_clearHouses 13 rfl) (by decide) ?_
      refine e_iload_n (dt dk_X8_clearHouses 14 rfl) rfl ?_
      refine e_ishl (dt dk_X8_clearHouses 15 rfl) ?_
      refine e_ior (dt dk_X8_clearHouses 16 rfl) ?_
      refine e_istore_n [some (.ref 1), some (.int (v1 ||| ((1 : Int32) <<< (v2 &&& 31)))), some (.int v2)] (dt dk_X8_clearHouses 17 rfl) rfl rfl rfl ?_
      refine e_iinc [some (.ref 1), some (.int (v1 ||| ((1 : Int32) <<< (v2 &&& 31)))), some (.int (v2 + (1 : Int32)))] (dt dk_X8_clearHouses 18 rfl) rfl rfl rfl rfl ?_
      refine e_goto 4 (dt dk_X8_clearHouses 19 rfl) (by decide) ?_
      exact e_forget [true, true, true] [some (.ref 1), some (.int (v1 ||| ((1 : Int32) <<< (v2 &&& 31)))), some (.int (v2 + (1 : Int32)))] ⟨rfl, rfl⟩ (hK4 (v1 ||| ((1 : Int32) <<< (v2 &&& 31))) (v2 + (1 : Int32)))
    · refine e_iinc [some (.ref 1), some (.int v1), some (.int (v2 + (1 : Int32)))] (dt dk_X8_clearHouses 18 rfl) rfl rfl rfl rfl ?_
      refine e_goto 4 (dt dk_X8_clearHouses 19 rfl) (by decide) ?_
      exact e_forget [true, true, true] [some (.ref 1), some (.int v1), some (.int (v2 + (1 : Int32)))] ⟨rfl, rfl⟩ (hK4 v1 (v2 + (1 : Int32)))
def lp_X8_clearHouses_1_4 (M : Mem)  : Nat → Int32 → Int32 → Option Int32
  | 0 => fun _ _ => none
  | n + 1 => bd_X8_clearHouses_1_4 M (lp_X8_clearHouses_1_4 M n)
theorem ev_lp_X8_clearHouses_1_4 (M : Mem)   : ∀ (n : Nat), ∀ (v1 : Int32) (v2 : Int32), Ev none (wR M) RX8 cX8_clearHouses (some .int) 0 4 [some (.ref 1), some (.int v1), some (.int v2)] [] M (lp_X8_clearHouses_1_4 M n v1 v2)
  | 0 => fun _ _ => e_none
  | n + 1 => ev_bd_X8_clearHouses_1_4 M (lp_X8_clearHouses_1_4 M n) (ev_lp_X8_clearHouses_1_4 M n)
def f_X8_clearHouses_1  (M : Mem) : Option Int32 :=
  (lp_X8_clearHouses_1_4 M FU (0 : Int32) (0 : Int32))
set_option maxRecDepth 20000 in
set_option maxHeartbeats 2000000 in
theorem sp_X8_clearHouses_1  (M : Mem) : SpO (wR M) yX8_clearHouses cX8_clearHouses 3 (some .int) 0 [.ref 1] M (f_X8_clearHouses_1 M) := by
  refine sp_of (L := [some (.ref 1), none, none]) rfl (by decide +kernel) rfl rfl ?_
  unfold f_X8_clearHouses_1
  refine e_iconst (v := (0 : Int32)) (dt dk_X8_clearHouses 0 rfl) (by decide) ?_
  refine e_istore_n [some (.ref 1), some (.int (0 : Int32)), none] (dt dk_X8_clearHouses 1 rfl) rfl rfl rfl ?_
  refine e_iconst (v := (0 : Int32)) (dt dk_X8_clearHouses 2 rfl) (by decide) ?_
  refine e_istore_n [some (.ref 1), some (.int (0 : Int32)), some (.int (0 : Int32))] (dt dk_X8_clearHouses 3 rfl) rfl rfl rfl ?_
  exact e_forget [true, true, true] [some (.ref 1), some (.int (0 : Int32)), some (.int (0 : Int32))] ⟨rfl, rfl⟩ (ev_lp_X8_clearHouses_1_4 M FU (0 : Int32) (0 : Int32))
-- X8_ofHouse_1 (R, depth 1)
def f_X8_ofHouse_1 (v1 : Int32) (v2 : Int32) (M : Mem) : Option Int32 :=
  (if (f_X9_isHouse v1) = 0 then some (-1 : Int32) else (if v2 = (0 : Int32) then if inb v1 8 then some (M 2 (ix v1)) else none else if v2 = (1 : Int32) then if inb v1 8 then some (M 3 (ix v1)) else none else if v2 = (2 : Int32) then if inb v1 8 then some (M 4 (ix v1)) else none else if inb v1 8 then some (M 5 (ix v1)) else none))
set_option maxRecDepth 20000 in
set_option maxHeartbeats 2000000 in
theorem sp_X8_ofHouse_1 (v1 : Int32) (v2 : Int32) (M : Mem) : SpO (wR M) yX8_ofHouse cX8_ofHouse 3 (some .int) 1 [.ref 1, .int v1, .int v2] M (f_X8_ofHouse_1 v1 v2 M) := by
  refine sp_of (L := [some (.ref 1), some (.int v1), some (.int v2)]) rfl (by decide +kernel) rfl rfl ?_
  unfold f_X8_ofHouse_1
  refine e_iload_n (dt dk_X8_ofHouse 0 rfl) rfl ?_
  refine ev_callT (ca_SN ms_X9_isHouse (sp_X9_isHouse v1 M) (dt dk_X8_ofHouse 1 rfl) mn_X8_46 rfl rfl rfl (by decide) : Ca _ _ _ _ _ _ _ _ [] _ _) ?_
  show Ev _ _ _ _ _ _ 4 [some (.ref 1), some (.int v1), some (.int v2)] [.int (f_X9_isHouse v1)] M _
  refine e_if_ne 9 (dt dk_X8_ofHouse 2 rfl) (by decide) (fun h1 => ?_) (fun h1 => ?_)
  · refine e_iconst (v := (-1 : Int32)) (dt dk_X8_ofHouse 3 rfl) (by decide) ?_
    exact e_iret (dt dk_X8_ofHouse 4 rfl) rfl rfl rfl
  · refine e_iload_n (dt dk_X8_ofHouse 5 rfl) rfl ?_
    refine e_split (fun h2 => ?_) (fun h2 => ?_)
    · refine e_tableIn 36 (dt dk_X8_ofHouse 6 rfl) (by rw [h2]; decide) (by rw [h2]; decide) (by rw [h2]; rfl) (by decide) ?_
      refine e_aload_n (dt dk_X8_ofHouse 7 rfl) rfl ?_
      refine e_getR ci_X8 (dt dk_X8_ofHouse 8 rfl) rfl (by decide) rfl fl_X8_9 ?_
      refine e_iload_n (dt dk_X8_ofHouse 9 rfl) rfl ?_
      refine e_if (fun h3 => ?_)
      refine e_iald' (v := (M 2 (ix v1))) (dt dk_X8_ofHouse 10 rfl) rfl h3 rfl ?_
      exact e_iret (dt dk_X8_ofHouse 11 rfl) rfl rfl rfl
    · skip
      refine e_split (fun h4 => ?_) (fun h4 => ?_)
      · refine e_tableIn 43 (dt dk_X8_ofHouse 6 rfl) (by rw [h4]; decide) (by rw [h4]; decide) (by rw [h4]; rfl) (by decide) ?_
        refine e_aload_n (dt dk_X8_ofHouse 12 rfl) rfl ?_
        refine e_getR ci_X8 (dt dk_X8_ofHouse 13 rfl) rfl (by decide) rfl fl_X8_15 ?_
        refine e_iload_n (dt dk_X8_ofHouse 14 rfl) rfl ?_
        refine e_if (fun h5 => ?_)
        refine e_iald' (v := (M 3 (ix v1))) (dt dk_X8_ofHouse 15 rfl) rfl h5 rfl ?_
        exact e_iret (dt dk_X8_ofHouse 16 rfl) rfl rfl rfl
      · skip
        refine e_split (fun h6 => ?_) (fun h6 => ?_)
        · refine e_tableIn 50 (dt dk_X8_ofHouse 6 rfl) (by rw [h6]; decide) (by rw [h6]; decide) (by rw [h6]; rfl) (by decide) ?_
          refine e_aload_n (dt dk_X8_ofHouse 17 rfl) rfl ?_
          refine e_getR ci_X8 (dt dk_X8_ofHouse 18 rfl) rfl (by decide) rfl fl_X8_18 ?_
          refine e_iload_n (dt dk_X8_ofHouse 19 rfl) rfl ?_
          refine e_if (fun h7 => ?_)
          refine e_iald' (v := (M 4 (ix v1))) (dt dk_X8_ofHouse 20 rfl) rfl h7 rfl ?_
          exact e_iret (dt dk_X8_ofHouse 21 rfl) rfl rfl rfl
        · skip
          refine e_tableOut 57 (dt dk_X8_ofHouse 6 rfl) (sw_out 2 (by simp only [List.range, List.range.loop, List.all_cons, List.all_nil]; simp [h2, h4, h6])) (by decide) ?_
          refine e_aload_n (dt dk_X8_ofHouse 22 rfl) rfl ?_
          refine e_getR ci_X8 (dt dk_X8_ofHouse 23 rfl) rfl (by decide) rfl fl_X8_21 ?_
          refine e_iload_n (dt dk_X8_ofHouse 24 rfl) rfl ?_
          refine e_if (fun h8 => ?_)
          refine e_iald' (v := (M 5 (ix v1))) (dt dk_X8_ofHouse 25 rfl) rfl h8 rfl ?_
          exact e_iret (dt dk_X8_ofHouse 26 rfl) rfl rfl rfl
