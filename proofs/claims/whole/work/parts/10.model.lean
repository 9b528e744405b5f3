-- X10_in (T, depth 0)
def fo_X10_in (v0 : Int64) (v2 : Int64) (v4 : Int64) : Option Int32 :=
  (if (lg_cmp v0 v2) < 0 then some (0 : Int32) else (if 0 < (lg_cmp v0 v4) then some (0 : Int32) else some (1 : Int32)))
def f_X10_in (v0 : Int64) (v2 : Int64) (v4 : Int64) : Int32 :=
  (if (lg_cmp v0 v2) < 0 then (0 : Int32) else (if 0 < (lg_cmp v0 v4) then (0 : Int32) else (1 : Int32)))
theorem fe_X10_in (v0 : Int64) (v2 : Int64) (v4 : Int64) : fo_X10_in v0 v2 v4 = some (f_X10_in v0 v2 v4) := by
  unfold fo_X10_in f_X10_in
  simp only [apply_ite some]
theorem fb_X10_in (v0 : Int64) (v2 : Int64) (v4 : Int64) : f_X10_in v0 v2 v4 = 0 ∨ f_X10_in v0 v2 v4 = 1 := by
  unfold f_X10_in
  (repeat' split) <;> first | exact Or.inl rfl | exact Or.inr rfl
set_option maxRecDepth 20000 in
set_option maxHeartbeats 2000000 in
theorem sp_X10_in (v0 : Int64) (v2 : Int64) (v4 : Int64) (M : Mem) : SpO (wR M) yX10_in cX10_in 6 (some .boolean) 0 [.long v0, .long v2, .long v4] M (some (f_X10_in v0 v2 v4)) := by
  rw [← fe_X10_in]
  refine sp_of (L := [some (.long v0), none, some (.long v2), none, some (.long v4), none]) rfl (by decide +kernel) rfl rfl ?_
  unfold fo_X10_in
  refine e_lload_n (dt dk_X10_in 0 rfl) rfl ?_
  refine e_lload_n (dt dk_X10_in 1 rfl) rfl ?_
  refine e_lcmp (dt dk_X10_in 2 rfl) ?_
  refine e_if_lt 17 (dt dk_X10_in 3 rfl) (by decide) (fun h1 => ?_) (fun h1 => ?_)
  · refine e_iconst (v := (0 : Int32)) (dt dk_X10_in 10 rfl) (by decide) ?_
    exact e_iret (dt dk_X10_in 11 rfl) rfl rfl rfl
  · refine e_lload_n (dt dk_X10_in 4 rfl) rfl ?_
    refine e_lload (dt dk_X10_in 5 rfl) rfl ?_
    refine e_lcmp (dt dk_X10_in 6 rfl) ?_
    refine e_if_gt 17 (dt dk_X10_in 7 rfl) (by decide) (fun h2 => ?_) (fun h2 => ?_)
    · refine e_iconst (v := (0 : Int32)) (dt dk_X10_in 10 rfl) (by decide) ?_
      exact e_iret (dt dk_X10_in 11 rfl) rfl rfl rfl
    · refine e_iconst (v := (1 : Int32)) (dt dk_X10_in 8 rfl) (by decide) ?_
      refine e_goto 18 (dt dk_X10_in 9 rfl) (by decide) ?_
      exact e_iret (dt dk_X10_in 11 rfl) rfl rfl rfl
-- X10_isHouse (T, depth 1)
def fo_X10_isHouse (v0 : Int32) : Option Int32 :=
  some (f_X10_in (Int32.toInt64 v0) (0 : Int64) (7 : Int64))
def f_X10_isHouse (v0 : Int32) : Int32 :=
  (f_X10_in (Int32.toInt64 v0) (0 : Int64) (7 : Int64))
theorem fe_X10_isHouse (v0 : Int32) : fo_X10_isHouse v0 = some (f_X10_isHouse v0) := by
  unfold fo_X10_isHouse f_X10_isHouse
  simp only [apply_ite some]
theorem fb_X10_isHouse (v0 : Int32) : f_X10_isHouse v0 = 0 ∨ f_X10_isHouse v0 = 1 := by
  unfold f_X10_isHouse
  exact fb_X10_in (Int32.toInt64 v0) (0 : Int64) (7 : Int64)
set_option maxRecDepth 20000 in
set_option maxHeartbeats 2000000 in
theorem sp_X10_isHouse (v0 : Int32) (M : Mem) : SpO (wR M) yX10_isHouse cX10_isHouse 1 (some .boolean) 1 [.int v0] M (some (f_X10_isHouse v0)) := by
  rw [← fe_X10_isHouse]
  refine sp_of (L := [some (.int v0)]) rfl (by decide +kernel) rfl rfl ?_
  unfold fo_X10_isHouse
  refine e_iload_n (dt dk_X10_isHouse 0 rfl) rfl ?_
  refine e_i2l (dt dk_X10_isHouse 1 rfl) ?_
  refine e_lconst (v := (0 : Int64)) (dt dk_X10_isHouse 2 rfl) (by decide) ?_
  refine e_ldc2 (v := (7 : Int64)) (dt dk_X10_isHouse 3 rfl) kl_X10_78 ?_
  refine ev_callT (ca_S ms_X10_in (sp_X10_in (Int32.toInt64 v0) (0 : Int64) (7 : Int64) M) (dt dk_X10_isHouse 4 rfl) ml_X10_80 rfl rfl rfl (by decide) : Ca _ _ _ _ _ _ _ _ [] _ _) ?_
  show Ev _ _ _ _ _ _ 9 [some (.int v0)] [.int (f_X10_in (Int32.toInt64 v0) (0 : Int64) (7 : Int64))] M _
  exact e_iret (dt dk_X10_isHouse 5 rfl) rfl (narrow_bool (fb_X10_in (Int32.toInt64 v0) (0 : Int64) (7 : Int64))) rfl
-- X10_house (W, depth 2)
def f_X10_house (v1 : Int32) (v2 : Int32) (v3 : Int32) (v4 : Int32) (v5 : Int32) (M : Mem) : Option (Int32 × Mem) :=
  (if (f_X10_isHouse v1) = 0 then some ((-1 : Int32), M) else (if (f_X10_in (Int32.toInt64 v2) (0 : Int64) (99 : Int64)) = 0 then some ((-2 : Int32), M) else (if (f_X10_in (Int32.toInt64 v3) (0 : Int64) (9 : Int64)) = 0 then some ((-2 : Int32), M) else (if (f_X10_in (Int32.toInt64 v4) (0 : Int64) (9 : Int64)) = 0 then some ((-2 : Int32), M) else (if (f_X10_in (Int32.toInt64 v5) (0 : Int64) (9 : Int64)) = 0 then some ((-2 : Int32), M) else if inb v1 8 then if inb v1 8 then if inb v1 8 then if inb v1 8 then if inb v1 8 then some ((M 54 (ix v1)), (up2 (up2 (up2 (up2 M 54 (ix v1) v2) 55 (ix v1) v3) 56 (ix v1) v4) 57 (ix v1) v5)) else none else none else none else none else none)))))
set_option maxRecDepth 20000 in
set_option maxHeartbeats 2000000 in
theorem sp_X10_house (v1 : Int32) (v2 : Int32) (v3 : Int32) (v4 : Int32) (v5 : Int32) (M : Mem) : SpO wI yX10_house cX10_house 7 (some .int) 2 [.ref 53, .int v1, .int v2, .int v3, .int v4, .int v5] M (f_X10_house v1 v2 v3 v4 v5 M) := by
  refine sp_of (L := [some (.ref 53), some (.int v1), some (.int v2), some (.int v3), some (.int v4), some (.int v5), none]) rfl (by decide +kernel) rfl rfl ?_
  unfold f_X10_house
  refine e_iload_n (dt dk_X10_house 0 rfl) rfl ?_
  refine ev_callT (ca_S ms_X10_isHouse (sp_X10_isHouse v1 M) (dt dk_X10_house 1 rfl) ml_X10_84 rfl rfl rfl (by decide) : Ca _ _ _ _ _ _ _ _ [] _ _) ?_
  show Ev _ _ _ _ _ _ 4 [some (.ref 53), some (.int v1), some (.int v2), some (.int v3), some (.int v4), some (.int v5), none] [.int (f_X10_isHouse v1)] M _
  refine e_if_ne 9 (dt dk_X10_house 2 rfl) (by decide) (fun h1 => ?_) (fun h1 => ?_)
  · refine e_iconst (v := (-1 : Int32)) (dt dk_X10_house 3 rfl) (by decide) ?_
    exact e_iret (dt dk_X10_house 4 rfl) rfl rfl rfl
  · refine e_iload_n (dt dk_X10_house 5 rfl) rfl ?_
    refine e_i2l (dt dk_X10_house 6 rfl) ?_
    refine e_lconst (v := (0 : Int64)) (dt dk_X10_house 7 rfl) (by decide) ?_
    refine e_ldc2 (v := (99 : Int64)) (dt dk_X10_house 8 rfl) kl_X10_88 ?_
    refine ev_callT (ca_S ms_X10_in (sp_X10_in (Int32.toInt64 v2) (0 : Int64) (99 : Int64) M) (dt dk_X10_house 9 rfl) ml_X10_80 rfl rfl rfl (by decide) : Ca _ _ _ _ _ _ _ _ [] _ _) ?_
    show Ev _ _ _ _ _ _ 18 [some (.ref 53), some (.int v1), some (.int v2), some (.int v3), some (.int v4), some (.int v5), none] [.int (f_X10_in (Int32.toInt64 v2) (0 : Int64) (99 : Int64))] M _
    refine e_if_eq 59 (dt dk_X10_house 10 rfl) (by decide) (fun h2 => ?_) (fun h2 => ?_)
    · refine e_bipush (v := (-2 : Int32)) (dt dk_X10_house 29 rfl) (by decide) ?_
      exact e_iret (dt dk_X10_house 30 rfl) rfl rfl rfl
    · refine e_iload_n (dt dk_X10_house 11 rfl) rfl ?_
      refine e_i2l (dt dk_X10_house 12 rfl) ?_
      refine e_lconst (v := (0 : Int64)) (dt dk_X10_house 13 rfl) (by decide) ?_
      refine e_ldc2 (v := (9 : Int64)) (dt dk_X10_house 14 rfl) kl_X10_90 ?_
      refine ev_callT (ca_S ms_X10_in (sp_X10_in (Int32.toInt64 v3) (0 : Int64) (9 : Int64) M) (dt dk_X10_house 15 rfl) ml_X10_80 rfl rfl rfl (by decide) : Ca _ _ _ _ _ _ _ _ [] _ _) ?_
      show Ev _ _ _ _ _ _ 30 [some (.ref 53), some (.int v1), some (.int v2), some (.int v3), some (.int v4), some (.int v5), none] [.int (f_X10_in (Int32.toInt64 v3) (0 : Int64) (9 : Int64))] M _
      refine e_if_eq 59 (dt dk_X10_house 16 rfl) (by decide) (fun h3 => ?_) (fun h3 => ?_)
      · refine e_bipush (v := (-2 : Int32)) (dt dk_X10_house 29 rfl) (by decide) ?_
        exact e_iret (dt dk_X10_house 30 rfl) rfl rfl rfl
      · refine e_iload (dt dk_X10_house 17 rfl) rfl ?_
        refine e_i2l (dt dk_X10_house 18 rfl) ?_
        refine e_lconst (v := (0 : Int64)) (dt dk_X10_house 19 rfl) (by decide) ?_
        refine e_ldc2 (v := (9 : Int64)) (dt dk_X10_house 20 rfl) kl_X10_90 ?_
        refine ev_callT (ca_S ms_X10_in (sp_X10_in (Int32.toInt64 v4) (0 : Int64) (9 : Int64) M) (dt dk_X10_house 21 rfl) ml_X10_80 rfl rfl rfl (by decide) : Ca _ _ _ _ _ _ _ _ [] _ _) ?_
        show Ev _ _ _ _ _ _ 43 [some (.ref 53), some (.int v1), some (.int v2), some (.int v3), some (.int v4), some (.int v5), none] [.int (f_X10_in (Int32.toInt64 v4) (0 : Int64) (9 : Int64))] M _
        refine e_if_eq 59 (dt dk_X10_house 22 rfl) (by decide) (fun h4 => ?_) (fun h4 => ?_)
        · refine e_bipush (v := (-2 : Int32)) (dt dk_X10_house 29 rfl) (by decide) ?_
          exact e_iret (dt dk_X10_house 30 rfl) rfl rfl rfl
        · refine e_iload (dt dk_X10_house 23 rfl) rfl ?_
          refine e_i2l (dt dk_X10_house 24 rfl) ?_
          refine e_lconst (v := (0 : Int64)) (dt dk_X10_house 25 rfl) (by decide) ?_
          refine e_ldc2 (v := (9 : Int64)) (dt dk_X10_house 26 rfl) kl_X10_90 ?_
          refine ev_callT (ca_S ms_X10_in (sp_X10_in (Int32.toInt64 v5) (0 : Int64) (9 : Int64) M) (dt dk_X10_house 27 rfl) ml_X10_80 rfl rfl rfl (by decide) : Ca _ _ _ _ _ _ _ _ [] _ _) ?_
          show Ev _ _ _ _ _ _ 56 [some (.ref 53), some (.int v1), some (.int v2), some (.int v3), some (.int v4), some (.int v5), none] [.int (f_X10_in (Int32.toInt64 v5) (0 : Int64) (9 : Int64))] M _
          refine e_if_ne 62 (dt dk_X10_house 28 rfl) (by decide) (fun h5 => ?_) (fun h5 => ?_)
          · refine e_bipush (v := (-2 : Int32)) (dt dk_X10_house 29 rfl) (by decide) ?_
            exact e_iret (dt dk_X10_house 30 rfl) rfl rfl rfl
          · refine e_aload_n (dt dk_X10_house 31 rfl) rfl ?_
            refine e_getR ci_X10 (dt dk_X10_house 32 rfl) rfl (by decide) rfl fl_X10_7 ?_
            refine e_iload_n (dt dk_X10_house 33 rfl) rfl ?_
            refine e_if (fun h6 => ?_)
            refine e_iald' (v := (M 54 (ix v1))) (dt dk_X10_house 34 rfl) rfl h6 rfl ?_
            refine e_istore [some (.ref 53), some (.int v1), some (.int v2), some (.int v3), some (.int v4), some (.int v5), some (.int (M 54 (ix v1)))] (dt dk_X10_house 35 rfl) rfl rfl rfl ?_
            refine e_aload_n (dt dk_X10_house 36 rfl) rfl ?_
            refine e_getR ci_X10 (dt dk_X10_house 37 rfl) rfl (by decide) rfl fl_X10_7 ?_
            refine e_iload_n (dt dk_X10_house 38 rfl) rfl ?_
            refine e_iload_n (dt dk_X10_house 39 rfl) rfl ?_
            refine e_if (fun h7 => ?_)
            refine e_iast' (dt dk_X10_house 40 rfl) rfl h7 ?_
            refine e_aload_n (dt dk_X10_house 41 rfl) rfl ?_
            refine e_getR ci_X10 (dt dk_X10_house 42 rfl) rfl (by decide) rfl fl_X10_13 ?_
            refine e_iload_n (dt dk_X10_house 43 rfl) rfl ?_
            refine e_iload_n (dt dk_X10_house 44 rfl) rfl ?_
            refine e_if (fun h8 => ?_)
            refine e_iast' (dt dk_X10_house 45 rfl) rfl h8 ?_
            refine e_aload_n (dt dk_X10_house 46 rfl) rfl ?_
            refine e_getR ci_X10 (dt dk_X10_house 47 rfl) rfl (by decide) rfl fl_X10_16 ?_
            refine e_iload_n (dt dk_X10_house 48 rfl) rfl ?_
            refine e_iload (dt dk_X10_house 49 rfl) rfl ?_
            refine e_if (fun h9 => ?_)
            refine e_iast' (dt dk_X10_house 50 rfl) rfl h9 ?_
            refine e_aload_n (dt dk_X10_house 51 rfl) rfl ?_
            refine e_getR ci_X10 (dt dk_X10_house 52 rfl) rfl (by decide) rfl fl_X10_19 ?_
            refine e_iload_n (dt dk_X10_house 53 rfl) rfl ?_
            refine e_iload (dt dk_X10_house 54 rfl) rfl ?_
            refine e_if (fun h10 => ?_)
            refine e_iast' (dt dk_X10_house 55 rfl) rfl h10 ?_
            refine e_iload (dt dk_X10_house 56 rfl) rfl ?_
            exact e_iret (dt dk_X10_house 57 rfl) rfl rfl rfl
-- X10_with (T, depth 0)
def fo_X10_with (v0 : Int32) (v1 : Int32) (v2 : Int32) : Option Int32 :=
  (if v2 = 0 then some (v0 &&& (((1 : Int32) <<< (v1 &&& 31)) ^^^ (-1 : Int32))) else some (v0 ||| ((1 : Int32) <<< (v1 &&& 31))))
def f_X10_with (v0 : Int32) (v1 : Int32) (v2 : Int32) : Int32 :=
  (if v2 = 0 then (v0 &&& (((1 : Int32) <<< (v1 &&& 31)) ^^^ (-1 : Int32))) else (v0 ||| ((1 : Int32) <<< (v1 &&& 31))))
theorem fe_X10_with (v0 : Int32) (v1 : Int32) (v2 : Int32) : fo_X10_with v0 v1 v2 = some (f_X10_with v0 v1 v2) := by
  unfold fo_X10_with f_X10_with
  simp only [apply_ite some]
set_option maxRecDepth 20000 in
set_option maxHeartbeats 2000000 in
theorem sp_X10_with (v0 : Int32) (v1 : Int32) (v2 : Int32) (M : Mem) : SpO (wR M) yX10_with cX10_with 3 (some .int) 0 [.int v0, .int v1, .int v2] M (some (f_X10_with v0 v1 v2)) := by
  rw [← fe_X10_with]
  refine sp_of (L := [some (.int v0), some (.int v1), some (.int v2)]) rfl (by decide +kernel) rfl rfl ?_
  unfold fo_X10_with
  refine e_iload_n (dt dk_X10_with 0 rfl) rfl ?_
  refine e_if_eq 12 (dt dk_X10_with 1 rfl) (by decide) (fun h1 => ?_) (fun h1 => ?_)
  · refine e_iload_n (dt dk_X10_with 8 rfl) rfl ?_
    refine e_iconst (v := (1 : Int32)) (dt dk_X10_with 9 rfl) (by decide) ?_
    refine e_iload_n (dt dk_X10_with 10 rfl) rfl ?_
    refine e_ishl (dt dk_X10_with 11 rfl) ?_
    refine e_iconst (v := (-1 : Int32)) (dt dk_X10_with 12 rfl) (by decide) ?_
    refine e_ixor (dt dk_X10_with 13 rfl) ?_
    refine e_iand (dt dk_X10_with 14 rfl) ?_
    exact e_iret (dt dk_X10_with 15 rfl) rfl rfl rfl
  · refine e_iload_n (dt dk_X10_with 2 rfl) rfl ?_
    refine e_iconst (v := (1 : Int32)) (dt dk_X10_with 3 rfl) (by decide) ?_
    refine e_iload_n (dt dk_X10_with 4 rfl) rfl ?_
    refine e_ishl (dt dk_X10_with 5 rfl) ?_
    refine e_ior (dt dk_X10_with 6 rfl) ?_
    refine e_goto 19 (dt dk_X10_with 7 rfl) (by decide) ?_
    exact e_iret (dt dk_X10_with 15 rfl) rfl rfl rfl
-- X10_bore (W, depth 1)
def f_X10_bore (v1 : Int32) (v2 : Int32) (v3 : Int32) (M : Mem) : Option Mem :=
  if inb v1 8 then if inb v1 8 then if inb v2 8 then if inb v2 8 then some (up2 (up2 M 58 (ix v1) (f_X10_with (M 58 (ix v1)) v2 v3)) 58 (ix v2) (f_X10_with ((up2 M 58 (ix v1) (f_X10_with (M 58 (ix v1)) v2 v3)) 58 (ix v2)) v1 v3)) else none else none else none else none
set_option maxRecDepth 20000 in
set_option maxHeartbeats 2000000 in
theorem sp_X10_bore (v1 : Int32) (v2 : Int32) (v3 : Int32) (M : Mem) : SpO wV yX10_bore cX10_bore 4 none 1 [.ref 53, .int v1, .int v2, .int v3] M (f_X10_bore v1 v2 v3 M) := by
  refine sp_of (L := [some (.ref 53), some (.int v1), some (.int v2), some (.int v3)]) rfl (by decide +kernel) rfl rfl ?_
  unfold f_X10_bore
  refine e_aload_n (dt dk_X10_bore 0 rfl) rfl ?_
  refine e_getR ci_X10 (dt dk_X10_bore 1 rfl) rfl (by decide) rfl fl_X10_22 ?_
  refine e_iload_n (dt dk_X10_bore 2 rfl) rfl ?_
  refine e_aload_n (dt dk_X10_bore 3 rfl) rfl ?_
  refine e_getR ci_X10 (dt dk_X10_bore 4 rfl) rfl (by decide) rfl fl_X10_22 ?_
  refine e_iload_n (dt dk_X10_bore 5 rfl) rfl ?_
  refine e_if (fun h1 => ?_)
  refine e_iald' (v := (M 58 (ix v1))) (dt dk_X10_bore 6 rfl) rfl h1 rfl ?_
  refine e_iload_n (dt dk_X10_bore 7 rfl) rfl ?_
  refine e_iload_n (dt dk_X10_bore 8 rfl) rfl ?_
  refine ev_callT (ca_S ms_X10_with (sp_X10_with (M 58 (ix v1)) v2 v3 M) (dt dk_X10_bore 9 rfl) ml_X10_92 rfl rfl rfl (by decide) : Ca _ _ _ _ _ _ _ _ [.int v1, .ref 58] _ _) ?_
  show Ev _ _ _ _ _ _ 16 [some (.ref 53), some (.int v1), some (.int v2), some (.int v3)] [.int (f_X10_with (M 58 (ix v1)) v2 v3), .int v1, .ref 58] M _
  refine e_if (fun h2 => ?_)
  refine e_iast' (dt dk_X10_bore 10 rfl) rfl h2 ?_
  refine e_aload_n (dt dk_X10_bore 11 rfl) rfl ?_
  refine e_getR ci_X10 (dt dk_X10_bore 12 rfl) rfl (by decide) rfl fl_X10_22 ?_
  refine e_iload_n (dt dk_X10_bore 13 rfl) rfl ?_
  refine e_aload_n (dt dk_X10_bore 14 rfl) rfl ?_
  refine e_getR ci_X10 (dt dk_X10_bore 15 rfl) rfl (by decide) rfl fl_X10_22 ?_
  refine e_iload_n (dt dk_X10_bore 16 rfl) rfl ?_
  refine e_if (fun h3 => ?_)
  refine e_iald' (v := ((up2 M 58 (ix v1) (f_X10_with (M 58 (ix v1)) v2 v3)) 58 (ix v2))) (dt dk_X10_bore 17 rfl) rfl h3 rfl ?_
  refine e_iload_n (dt dk_X10_bore 18 rfl) rfl ?_
  refine e_iload_n (dt dk_X10_bore 19 rfl) rfl ?_
  refine ev_callT (ca_S ms_X10_with (sp_X10_with ((up2 M 58 (ix v1) (f_X10_with (M 58 (ix v1)) v2 v3)) 58 (ix v2)) v1 v3 (up2 M 58 (ix v1) (f_X10_with (M 58 (ix v1)) v2 v3))) (dt dk_X10_bore 20 rfl) ml_X10_92 rfl rfl rfl (by decide) : Ca _ _ _ _ _ _ _ _ [.int v2, .ref 58] _ _) ?_
  show Ev _ _ _ _ _ _ 33 [some (.ref 53), some (.int v1), some (.int v2), some (.int v3)] [.int (f_X10_with ((up2 M 58 (ix v1) (f_X10_with (M 58 (ix v1)) v2 v3)) 58 (ix v2)) v1 v3), .int v2, .ref 58] (up2 M 58 (ix v1) (f_X10_with (M 58 (ix v1)) v2 v3)) _
  refine e_if (fun h4 => ?_)
  refine e_iast' (dt dk_X10_bore 21 rfl) rfl h4 ?_
  exact e_vret (dt dk_X10_bore 22 rfl) rfl rfl
-- X10_ones (R, depth 0)
def bd_X10_ones_4  (K4 : Int32 → Int32 → Option Int32) (v1 : Int32) (v2 : Int32) : Option Int32 :=
  (if v2 = 0 then some v1 else (K4 (v1 + (1 : Int32)) (v2 &&& (v2 - (1 : Int32)))))
set_option maxRecDepth 20000 in
set_option maxHeartbeats 2000000 in
theorem ev_bd_X10_ones_4 (M : Mem)  (K4 : Int32 → Int32 → Option Int32)  (hK4 : ∀ (v1 : Int32) (v2 : Int32), Ev none (wR M) RX10 cX10_ones (some .int) 0 4 [none, some (.int v1), some (.int v2)] [] M (K4 v1 v2)) (v1 : Int32) (v2 : Int32) : Ev none (wR M) RX10 cX10_ones (some .int) 0 4 [none, some (.int v1), some (.int v2)] [] M (bd_X10_ones_4 K4 v1 v2) := by
  unfold bd_X10_ones_4
  refine e_iload_n (dt dk_X10_ones 4 rfl) rfl ?_
  refine e_if_eq 20 (dt dk_X10_ones 5 rfl) (by decide) (fun h1 => ?_) (fun h1 => ?_)
  · refine e_iload_n (dt dk_X10_ones 14 rfl) rfl ?_
    exact e_iret (dt dk_X10_ones 15 rfl) rfl rfl rfl
  · refine e_iinc [none, some (.int (v1 + (1 : Int32))), some (.int v2)] (dt dk_X10_ones 6 rfl) rfl rfl rfl rfl ?_
    refine e_iload_n (dt dk_X10_ones 7 rfl) rfl ?_
    refine e_iload_n (dt dk_X10_ones 8 rfl) rfl ?_
    refine e_iconst (v := (1 : Int32)) (dt dk_X10_ones 9 rfl) (by decide) ?_
    refine e_isub (dt dk_X10_ones 10 rfl) ?_
    refine e_iand (dt dk_X10_ones 11 rfl) ?_
    refine e_istore_n [none, some (.int (v1 + (1 : Int32))), some (.int (v2 &&& (v2 - (1 : Int32))))] (dt dk_X10_ones 12 rfl) rfl rfl rfl ?_
    refine e_goto 4 (dt dk_X10_ones 13 rfl) (by decide) ?_
    exact e_forget [false, true, true] [none, some (.int (v1 + (1 : Int32))), some (.int (v2 &&& (v2 - (1 : Int32))))] ⟨rfl, rfl⟩ (hK4 (v1 + (1 : Int32)) (v2 &&& (v2 - (1 : Int32))))
def lp_X10_ones_4  : Nat → Int32 → Int32 → Option Int32
  | 0 => fun _ _ => none
  | n + 1 => bd_X10_ones_4 (lp_X10_ones_4 n)
theorem ev_lp_X10_ones_4 (M : Mem)   : ∀ (n : Nat), ∀ (v1 : Int32) (v2 : Int32), Ev none (wR M) RX10 cX10_ones (some .int) 0 4 [none, some (.int v1), some (.int v2)] [] M (lp_X10_ones_4 n v1 v2)
  | 0 => fun _ _ => e_none
  | n + 1 => ev_bd_X10_ones_4 M (lp_X10_ones_4 n) (ev_lp_X10_ones_4 M n)
def f_X10_ones (v0 : Int32) : Option Int32 :=
  (lp_X10_ones_4 FU (0 : Int32) v0)
set_option maxRecDepth 20000 in
set_option maxHeartbeats 2000000 in
theorem sp_X10_ones (v0 : Int32) (M : Mem) : SpO (wR M) yX10_ones cX10_ones 3 (some .int) 0 [.int v0] M (f_X10_ones v0) := by
  refine sp_of (L := [some (.int v0), none, none]) rfl (by decide +kernel) rfl rfl ?_
  unfold f_X10_ones
  refine e_iconst (v := (0 : Int32)) (dt dk_X10_ones 0 rfl) (by decide) ?_
  refine e_istore_n [some (.int v0), some (.int (0 : Int32)), none] (dt dk_X10_ones 1 rfl) rfl rfl rfl ?_
  refine e_iload_n (dt dk_X10_ones 2 rfl) rfl ?_
  refine e_istore_n [some (.int v0), some (.int (0 : Int32)), some (.int v0)] (dt dk_X10_ones 3 rfl) rfl rfl rfl ?_
  exact e_forget [false, true, true] [none, some (.int (0 : Int32)), some (.int v0)] ⟨rfl, rfl⟩ (ev_lp_X10_ones_4 M FU (0 : Int32) v0)
-- X10_hole (W, depth 2)
def bd_X10_hole_34  (K34 : Int32 → Int32 → Mem → Option (Int32 × Mem)) (v4 : Int32) (v5 : Int32) (M : Mem) : Option (Int32 × Mem) :=
  (if (8 : Int32) ≤ v5 then some ((v4 / (2 : Int32)), M) else if inb v5 8 then ((f_X10_ones (M 58 (ix v5)))).bind fun r7 => (K34 (v4 + r7) (v5 + (1 : Int32)) M) else none)
set_option maxRecDepth 20000 in
set_option maxHeartbeats 2000000 in
theorem ev_bd_X10_hole_34  (K34 : Int32 → Int32 → Mem → Option (Int32 × Mem))  (hK34 : ∀ (v4 : Int32) (v5 : Int32) (M : Mem), Ev none wI RX10 cX10_hole (some .int) 2 34 [some (.ref 53), none, none, none, some (.int v4), some (.int v5)] [] M (K34 v4 v5 M)) (v4 : Int32) (v5 : Int32) (M : Mem) : Ev none wI RX10 cX10_hole (some .int) 2 34 [some (.ref 53), none, none, none, some (.int v4), some (.int v5)] [] M (bd_X10_hole_34 K34 v4 v5 M) := by
  unfold bd_X10_hole_34
  refine e_iload (dt dk_X10_hole 20 rfl) rfl ?_
  refine e_bipush (v := (8 : Int32)) (dt dk_X10_hole 21 rfl) (by decide) ?_
  refine e_icmp_ge 62 (dt dk_X10_hole 22 rfl) (by decide) (fun h5 => ?_) (fun h5 => ?_)
  · refine e_iload (dt dk_X10_hole 33 rfl) rfl ?_
    refine e_iconst (v := (2 : Int32)) (dt dk_X10_hole 34 rfl) (by decide) ?_
    refine e_idiv' (dt dk_X10_hole 35 rfl) (by decide) ?_
    show Ev _ _ _ _ _ _ 66 [some (.ref 53), none, none, none, some (.int v4), some (.int v5)] [.int (v4 / (2 : Int32))] M _
    exact e_iret (dt dk_X10_hole 36 rfl) rfl rfl rfl
  · refine e_iload (dt dk_X10_hole 23 rfl) rfl ?_
    refine e_aload_n (dt dk_X10_hole 24 rfl) rfl ?_
    refine e_getR ci_X10 (dt dk_X10_hole 25 rfl) rfl (by decide) rfl fl_X10_22 ?_
    refine e_iload (dt dk_X10_hole 26 rfl) rfl ?_
    refine e_if (fun h6 => ?_)
    refine e_iald' (v := (M 58 (ix v5))) (dt dk_X10_hole 27 rfl) rfl h6 rfl ?_
    refine ev_call (ca_S ms_X10_ones (sp_X10_ones (M 58 (ix v5)) M) (dt dk_X10_hole 28 rfl) ml_X10_100 rfl rfl rfl (by decide) : Ca _ _ _ _ _ _ _ _ [.int v4] _ _) (fun r7 hr7 => ?_)
    show Ev _ _ _ _ _ _ 53 [some (.ref 53), none, none, none, some (.int v4), some (.int v5)] [.int r7, .int v4] M _
    refine e_iadd (dt dk_X10_hole 29 rfl) ?_
    refine e_istore [some (.ref 53), none, none, none, some (.int (v4 + r7)), some (.int v5)] (dt dk_X10_hole 30 rfl) rfl rfl rfl ?_
    refine e_iinc [some (.ref 53), none, none, none, some (.int (v4 + r7)), some (.int (v5 + (1 : Int32)))] (dt dk_X10_hole 31 rfl) rfl rfl rfl rfl ?_
    refine e_goto 34 (dt dk_X10_hole 32 rfl) (by decide) ?_
    exact e_forget [true, false, false, false, true, true] [some (.ref 53), none, none, none, some (.int (v4 + r7)), some (.int (v5 + (1 : Int32)))] ⟨rfl, rfl⟩ (hK34 (v4 + r7) (v5 + (1 : Int32)) M)
def lp_X10_hole_34  : Nat → Int32 → Int32 → Mem → Option (Int32 × Mem)
  | 0 => fun _ _ _ => none
  | n + 1 => bd_X10_hole_34 (lp_X10_hole_34 n)
theorem ev_lp_X10_hole_34   : ∀ (n : Nat), ∀ (v4 : Int32) (v5 : Int32) (M : Mem), Ev none wI RX10 cX10_hole (some .int) 2 34 [some (.ref 53), none, none, none, some (.int v4), some (.int v5)] [] M (lp_X10_hole_34 n v4 v5 M)
  | 0 => fun _ _ _ => e_none
  | n + 1 => ev_bd_X10_hole_34 (lp_X10_hole_34 n) (ev_lp_X10_hole_34 n)
def f_X10_hole (v1 : Int32) (v2 : Int32) (v3 : Int32) (M : Mem) : Option (Int32 × Mem) :=
  (if (f_X10_isHouse v1) = 0 then some ((-1 : Int32), M) else (if (f_X10_isHouse v2) = 0 then some ((-1 : Int32), M) else (if v1 = v2 then some ((-1 : Int32), M) else ((f_X10_bore v1 v2 v3 M)).bind fun q4 => (lp_X10_hole_34 FU (0 : Int32) (0 : Int32) q4))))
set_option maxRecDepth 20000 in
set_option maxHeartbeats 2000000 in
theorem sp_X10_hole (v1 : Int32) (v2 : Int32) (v3 : Int32) (M : Mem) : SpO wI yX10_hole cX10_hole 6 (some .int) 2 [.ref 53, .int v1, .int v2, .int v3] M (f_X10_hole v1 v2 v3 M) := by
  refine sp_of (L := [some (.ref 53), some (.int v1), some (.int v2), some (.int v3), none, none]) rfl (by decide +kernel) rfl rfl ?_
  unfold f_X10_hole
  refine e_iload_n (dt dk_X10_hole 0 rfl) rfl ?_
  refine ev_callT (ca_S ms_X10_isHouse (sp_X10_isHouse v1 M) (dt dk_X10_hole 1 rfl) ml_X10_84 rfl rfl rfl (by decide) : Ca _ _ _ _ _ _ _ _ [] _ _) ?_
  show Ev _ _ _ _ _ _ 4 [some (.ref 53), some (.int v1), some (.int v2), some (.int v3), none, none] [.int (f_X10_isHouse v1)] M _
  refine e_if_eq 19 (dt dk_X10_hole 2 rfl) (by decide) (fun h1 => ?_) (fun h1 => ?_)
  · refine e_iconst (v := (-1 : Int32)) (dt dk_X10_hole 9 rfl) (by decide) ?_
    exact e_iret (dt dk_X10_hole 10 rfl) rfl rfl rfl
  · refine e_iload_n (dt dk_X10_hole 3 rfl) rfl ?_
    refine ev_callT (ca_S ms_X10_isHouse (sp_X10_isHouse v2 M) (dt dk_X10_hole 4 rfl) ml_X10_84 rfl rfl rfl (by decide) : Ca _ _ _ _ _ _ _ _ [] _ _) ?_
    show Ev _ _ _ _ _ _ 11 [some (.ref 53), some (.int v1), some (.int v2), some (.int v3), none, none] [.int (f_X10_isHouse v2)] M _
    refine e_if_eq 19 (dt dk_X10_hole 5 rfl) (by decide) (fun h2 => ?_) (fun h2 => ?_)
    · refine e_iconst (v := (-1 : Int32)) (dt dk_X10_hole 9 rfl) (by decide) ?_
      exact e_iret (dt dk_X10_hole 10 rfl) rfl rfl rfl
    · refine e_iload_n (dt dk_X10_hole 6 rfl) rfl ?_
      refine e_iload_n (dt dk_X10_hole 7 rfl) rfl ?_
      refine e_icmp_ne 21 (dt dk_X10_hole 8 rfl) (by decide) (fun h3 => ?_) (fun h3 => ?_)
      · refine e_iconst (v := (-1 : Int32)) (dt dk_X10_hole 9 rfl) (by decide) ?_
        exact e_iret (dt dk_X10_hole 10 rfl) rfl rfl rfl
      · refine e_aload_n (dt dk_X10_hole 11 rfl) rfl ?_
        refine e_iload_n (dt dk_X10_hole 12 rfl) rfl ?_
        refine e_iload_n (dt dk_X10_hole 13 rfl) rfl ?_
        refine e_iload_n (dt dk_X10_hole 14 rfl) rfl ?_
        refine ev_call (ca_V (k := 53) mv_X10_bore (sp_X10_bore v1 v2 v3 M) (dt dk_X10_hole 15 rfl) ml_X10_96 rfl rfl rfl rfl rfl (by decide) : Ca _ _ _ _ _ _ _ _ [] _ _) (fun q4 hq4 => ?_)
        show Ev _ _ _ _ _ _ 28 [some (.ref 53), some (.int v1), some (.int v2), some (.int v3), none, none] [] q4 _
        refine e_iconst (v := (0 : Int32)) (dt dk_X10_hole 16 rfl) (by decide) ?_
        refine e_istore [some (.ref 53), some (.int v1), some (.int v2), some (.int v3), some (.int (0 : Int32)), none] (dt dk_X10_hole 17 rfl) rfl rfl rfl ?_
        refine e_iconst (v := (0 : Int32)) (dt dk_X10_hole 18 rfl) (by decide) ?_
        refine e_istore [some (.ref 53), some (.int v1), some (.int v2), some (.int v3), some (.int (0 : Int32)), some (.int (0 : Int32))] (dt dk_X10_hole 19 rfl) rfl rfl rfl ?_
        exact e_forget [true, false, false, false, true, true] [some (.ref 53), none, none, none, some (.int (0 : Int32)), some (.int (0 : Int32))] ⟨rfl, rfl⟩ (ev_lp_X10_hole_34 FU (0 : Int32) (0 : Int32) q4)
-- X10_bag (W, depth 1)
def f_X10_bag (v1 : Int32) (M : Mem) : Option (Int32 × Mem) :=
  (if (f_X10_in (Int32.toInt64 v1) (0 : Int64) (99 : Int64)) = 0 then some ((-2 : Int32), M) else some ((M 53 5), (up2 M 53 5 v1)))
set_option maxRecDepth 20000 in
set_option maxHeartbeats 2000000 in
theorem sp_X10_bag (v1 : Int32) (M : Mem) : SpO wI yX10_bag cX10_bag 3 (some .int) 1 [.ref 53, .int v1] M (f_X10_bag v1 M) := by
  refine sp_of (L := [some (.ref 53), some (.int v1), none]) rfl (by decide +kernel) rfl rfl ?_
  unfold f_X10_bag
  refine e_iload_n (dt dk_X10_bag 0 rfl) rfl ?_
  refine e_i2l (dt dk_X10_bag 1 rfl) ?_
  refine e_lconst (v := (0 : Int64)) (dt dk_X10_bag 2 rfl) (by decide) ?_
  refine e_ldc2 (v := (99 : Int64)) (dt dk_X10_bag 3 rfl) kl_X10_88 ?_
  refine ev_callT (ca_S ms_X10_in (sp_X10_in (Int32.toInt64 v1) (0 : Int64) (99 : Int64) M) (dt dk_X10_bag 4 rfl) ml_X10_80 rfl rfl rfl (by decide) : Ca _ _ _ _ _ _ _ _ [] _ _) ?_
  show Ev _ _ _ _ _ _ 9 [some (.ref 53), some (.int v1), none] [.int (f_X10_in (Int32.toInt64 v1) (0 : Int64) (99 : Int64))] M _
  refine e_if_ne 15 (dt dk_X10_bag 5 rfl) (by decide) (fun h1 => ?_) (fun h1 => ?_)
  · refine e_bipush (v := (-2 : Int32)) (dt dk_X10_bag 6 rfl) (by decide) ?_
    exact e_iret (dt dk_X10_bag 7 rfl) rfl rfl rfl
  · refine e_aload_n (dt dk_X10_bag 8 rfl) rfl ?_
    refine e_getI (v := (M 53 5)) ci_X10 (dt dk_X10_bag 9 rfl) rfl (by decide) rfl fl_X10_74 rfl ?_
    refine e_istore_n [some (.ref 53), some (.int v1), some (.int (M 53 5))] (dt dk_X10_bag 10 rfl) rfl rfl rfl ?_
    refine e_aload_n (dt dk_X10_bag 11 rfl) rfl ?_
    refine e_iload_n (dt dk_X10_bag 12 rfl) rfl ?_
    refine e_putI (ty := .int) ci_X10 (dt dk_X10_bag 13 rfl) rfl (by decide) rfl fl_X10_74 rfl (by decide +kernel) rfl rfl ?_
    refine e_iload_n (dt dk_X10_bag 14 rfl) rfl ?_
    exact e_iret (dt dk_X10_bag 15 rfl) rfl rfl rfl
-- X10_say (W, depth 1)
def f_X10_say (v1 : Int32) (M : Mem) : Option (Int32 × Mem) :=
  (if (f_X10_in (Int32.toInt64 v1) (33 : Int64) (126 : Int64)) = 0 then some ((-2 : Int32), M) else (if (M 53 12) = (60 : Int32) then some ((-4 : Int32), M) else if inb (M 53 12) 60 then some (((M 53 12) + (1 : Int32)), (up2 (up2 M 61 (ix (M 53 12)) v1) 53 12 ((M 53 12) + (1 : Int32)))) else none))
set_option maxRecDepth 20000 in
set_option maxHeartbeats 2000000 in
theorem sp_X10_say (v1 : Int32) (M : Mem) : SpO wI yX10_say cX10_say 2 (some .int) 1 [.ref 53, .int v1] M (f_X10_say v1 M) := by
  refine sp_of (L := [some (.ref 53), some (.int v1)]) rfl (by decide +kernel) rfl rfl ?_
  unfold f_X10_say
  refine e_iload_n (dt dk_X10_say 0 rfl) rfl ?_
  refine e_i2l (dt dk_X10_say 1 rfl) ?_
  refine e_ldc2 (v := (33 : Int64)) (dt dk_X10_say 2 rfl) kl_X10_104 ?_
  refine e_ldc2 (v := (126 : Int64)) (dt dk_X10_say 3 rfl) kl_X10_106 ?_
  refine ev_callT (ca_S ms_X10_in (sp_X10_in (Int32.toInt64 v1) (33 : Int64) (126 : Int64) M) (dt dk_X10_say 4 rfl) ml_X10_80 rfl rfl rfl (by decide) : Ca _ _ _ _ _ _ _ _ [] _ _) ?_
  show Ev _ _ _ _ _ _ 11 [some (.ref 53), some (.int v1)] [.int (f_X10_in (Int32.toInt64 v1) (33 : Int64) (126 : Int64))] M _
  refine e_if_ne 17 (dt dk_X10_say 5 rfl) (by decide) (fun h1 => ?_) (fun h1 => ?_)
  · refine e_bipush (v := (-2 : Int32)) (dt dk_X10_say 6 rfl) (by decide) ?_
    exact e_iret (dt dk_X10_say 7 rfl) rfl rfl rfl
  · refine e_aload_n (dt dk_X10_say 8 rfl) rfl ?_
    refine e_getI (v := (M 53 12)) ci_X10 (dt dk_X10_say 9 rfl) rfl (by decide) rfl fl_X10_108 rfl ?_
    refine e_bipush (v := (60 : Int32)) (dt dk_X10_say 10 rfl) (by decide) ?_
    refine e_icmp_ne 29 (dt dk_X10_say 11 rfl) (by decide) (fun h2 => ?_) (fun h2 => ?_)
    · refine e_bipush (v := (-4 : Int32)) (dt dk_X10_say 12 rfl) (by decide) ?_
      exact e_iret (dt dk_X10_say 13 rfl) rfl rfl rfl
    · refine e_aload_n (dt dk_X10_say 14 rfl) rfl ?_
      refine e_getR ci_X10 (dt dk_X10_say 15 rfl) rfl (by decide) rfl fl_X10_31 ?_
      refine e_aload_n (dt dk_X10_say 16 rfl) rfl ?_
      refine e_getI (v := (M 53 12)) ci_X10 (dt dk_X10_say 17 rfl) rfl (by decide) rfl fl_X10_108 rfl ?_
      refine e_iload_n (dt dk_X10_say 18 rfl) rfl ?_
      refine e_if (fun h3 => ?_)
      refine e_iast' (dt dk_X10_say 19 rfl) rfl h3 ?_
      refine e_aload_n (dt dk_X10_say 20 rfl) rfl ?_
      refine e_dup (dt dk_X10_say 21 rfl) rfl ?_
      refine e_getI (v := (M 53 12)) ci_X10 (dt dk_X10_say 22 rfl) rfl (by decide) rfl fl_X10_108 rfl ?_
      refine e_iconst (v := (1 : Int32)) (dt dk_X10_say 23 rfl) (by decide) ?_
      refine e_iadd (dt dk_X10_say 24 rfl) ?_
      refine e_putI (ty := .int) ci_X10 (dt dk_X10_say 25 rfl) rfl (by decide) rfl fl_X10_108 rfl (by decide +kernel) rfl rfl ?_
      refine e_aload_n (dt dk_X10_say 26 rfl) rfl ?_
      refine e_getI (v := ((M 53 12) + (1 : Int32))) ci_X10 (dt dk_X10_say 27 rfl) rfl (by decide) rfl fl_X10_108 rfl ?_
      exact e_iret (dt dk_X10_say 28 rfl) rfl rfl rfl
-- X10_wipe (W, depth 0)
def f_X10_wipe  (M : Mem) : Option (Int32 × Mem) :=
  some ((M 53 12), (up2 M 53 12 (0 : Int32)))
set_option maxRecDepth 20000 in
set_option maxHeartbeats 2000000 in
theorem sp_X10_wipe  (M : Mem) : SpO wI yX10_wipe cX10_wipe 2 (some .int) 0 [.ref 53] M (f_X10_wipe M) := by
  refine sp_of (L := [some (.ref 53), none]) rfl (by decide +kernel) rfl rfl ?_
  unfold f_X10_wipe
  refine e_aload_n (dt dk_X10_wipe 0 rfl) rfl ?_
  refine e_getI (v := (M 53 12)) ci_X10 (dt dk_X10_wipe 1 rfl) rfl (by decide) rfl fl_X10_108 rfl ?_
  refine e_istore_n [some (.ref 53), some (.int (M 53 12))] (dt dk_X10_wipe 2 rfl) rfl rfl rfl ?_
  refine e_aload_n (dt dk_X10_wipe 3 rfl) rfl ?_
  refine e_iconst (v := (0 : Int32)) (dt dk_X10_wipe 4 rfl) (by decide) ?_
  refine e_putI (ty := .int) ci_X10 (dt dk_X10_wipe 5 rfl) rfl (by decide) rfl fl_X10_108 rfl (by decide +kernel) rfl rfl ?_
  refine e_iload_n (dt dk_X10_wipe 6 rfl) rfl ?_
  exact e_iret (dt dk_X10_wipe 7 rfl) rfl rfl rfl
-- X10_isName (T, depth 1)
def fo_X10_isName (v0 : Int32) : Option Int32 :=
  some (f_X10_in (Int32.toInt64 v0) (65 : Int64) (72 : Int64))
def f_X10_isName (v0 : Int32) : Int32 :=
  (f_X10_in (Int32.toInt64 v0) (65 : Int64) (72 : Int64))
theorem fe_X10_isName (v0 : Int32) : fo_X10_isName v0 = some (f_X10_isName v0) := by
  unfold fo_X10_isName f_X10_isName
  simp only [apply_ite some]
theorem fb_X10_isName (v0 : Int32) : f_X10_isName v0 = 0 ∨ f_X10_isName v0 = 1 := by
  unfold f_X10_isName
  exact fb_X10_in (Int32.toInt64 v0) (65 : Int64) (72 : Int64)
set_option maxRecDepth 20000 in
set_option maxHeartbeats 2000000 in
theorem sp_X10_isName (v0 : Int32) (M : Mem) : SpO (wR M) yX10_isName cX10_isName 1 (some .boolean) 1 [.int v0] M (some (f_X10_isName v0)) := by
  rw [← fe_X10_isName]
  refine sp_of (L := [some (.int v0)]) rfl (by decide +kernel) rfl rfl ?_
  unfold fo_X10_isName
  refine e_iload_n (dt dk_X10_isName 0 rfl) rfl ?_
  refine e_i2l (dt dk_X10_isName 1 rfl) ?_
  refine e_ldc2 (v := (65 : Int64)) (dt dk_X10_isName 2 rfl) kl_X10_114 ?_
  refine e_ldc2 (v := (72 : Int64)) (dt dk_X10_isName 3 rfl) kl_X10_116 ?_
  refine ev_callT (ca_S ms_X10_in (sp_X10_in (Int32.toInt64 v0) (65 : Int64) (72 : Int64) M) (dt dk_X10_isName 4 rfl) ml_X10_80 rfl rfl rfl (by decide) : Ca _ _ _ _ _ _ _ _ [] _ _) ?_
  show Ev _ _ _ _ _ _ 11 [some (.int v0)] [.int (f_X10_in (Int32.toInt64 v0) (65 : Int64) (72 : Int64))] M _
  exact e_iret (dt dk_X10_isName 5 rfl) rfl (narrow_bool (fb_X10_in (Int32.toInt64 v0) (65 : Int64) (72 : Int64))) rfl
-- X10_close (W, depth 0)
def f_X10_close (v1 : Int32) (M : Mem) : Option (Int32 × Mem) :=
  if inb (M 53 16) 60 then some ((0 : Int32), (up2 (up2 M 62 (ix (M 53 16)) v1) 53 16 ((M 53 16) + (1 : Int32)))) else none
set_option maxRecDepth 20000 in
set_option maxHeartbeats 2000000 in
theorem sp_X10_close (v1 : Int32) (M : Mem) : SpO wI yX10_close cX10_close 2 (some .int) 0 [.ref 53, .int v1] M (f_X10_close v1 M) := by
  refine sp_of (L := [some (.ref 53), some (.int v1)]) rfl (by decide +kernel) rfl rfl ?_
  unfold f_X10_close
  refine e_aload_n (dt dk_X10_close 0 rfl) rfl ?_
  refine e_getR ci_X10 (dt dk_X10_close 1 rfl) rfl (by decide) rfl fl_X10_34 ?_
  refine e_aload_n (dt dk_X10_close 2 rfl) rfl ?_
  refine e_getI (v := (M 53 16)) ci_X10 (dt dk_X10_close 3 rfl) rfl (by decide) rfl fl_X10_111 rfl ?_
  refine e_iload_n (dt dk_X10_close 4 rfl) rfl ?_
  refine e_if (fun h1 => ?_)
  refine e_iast' (dt dk_X10_close 5 rfl) rfl h1 ?_
  refine e_aload_n (dt dk_X10_close 6 rfl) rfl ?_
  refine e_dup (dt dk_X10_close 7 rfl) rfl ?_
  refine e_getI (v := (M 53 16)) ci_X10 (dt dk_X10_close 8 rfl) rfl (by decide) rfl fl_X10_111 rfl ?_
  refine e_iconst (v := (1 : Int32)) (dt dk_X10_close 9 rfl) (by decide) ?_
  refine e_iadd (dt dk_X10_close 10 rfl) ?_
  refine e_putI (ty := .int) ci_X10 (dt dk_X10_close 11 rfl) rfl (by decide) rfl fl_X10_111 rfl (by decide +kernel) rfl rfl ?_
  refine e_iconst (v := (0 : Int32)) (dt dk_X10_close 12 rfl) (by decide) ?_
  exact e_iret (dt dk_X10_close 13 rfl) rfl rfl rfl
-- X10_end (W, depth 2)
def f_X10_end (v1 : Int32) (v2 : Int32) (M : Mem) : Option (Int32 × Mem) :=
  (if (f_X10_isName v2) = 0 then some ((-6 : Int32), M) else (if v1 = (2 : Int32) then if inb (M 53 16) 60 then some ((3 : Int32), (up2 M 63 (ix (M 53 16)) (v2 - (65 : Int32)))) else none else if inb (M 53 16) 60 then ((f_X10_close (5 : Int32) (up2 M 64 (ix (M 53 16)) (v2 - (65 : Int32))))).bind fun q4 => some (q4.1, q4.2) else none))
set_option maxRecDepth 20000 in
set_option maxHeartbeats 2000000 in
theorem sp_X10_end (v1 : Int32) (v2 : Int32) (M : Mem) : SpO wI yX10_end cX10_end 3 (some .int) 2 [.ref 53, .int v1, .int v2] M (f_X10_end v1 v2 M) := by
  refine sp_of (L := [some (.ref 53), some (.int v1), some (.int v2)]) rfl (by decide +kernel) rfl rfl ?_
  unfold f_X10_end
  refine e_iload_n (dt dk_X10_end 0 rfl) rfl ?_
  refine ev_callT (ca_S ms_X10_isName (sp_X10_isName v2 M) (dt dk_X10_end 1 rfl) ml_X10_118 rfl rfl rfl (by decide) : Ca _ _ _ _ _ _ _ _ [] _ _) ?_
  show Ev _ _ _ _ _ _ 4 [some (.ref 53), some (.int v1), some (.int v2)] [.int (f_X10_isName v2)] M _
  refine e_if_ne 10 (dt dk_X10_end 2 rfl) (by decide) (fun h1 => ?_) (fun h1 => ?_)
  · refine e_bipush (v := (-6 : Int32)) (dt dk_X10_end 3 rfl) (by decide) ?_
    exact e_iret (dt dk_X10_end 4 rfl) rfl rfl rfl
  · refine e_iload_n (dt dk_X10_end 5 rfl) rfl ?_
    refine e_iconst (v := (2 : Int32)) (dt dk_X10_end 6 rfl) (by decide) ?_
    refine e_icmp_ne 30 (dt dk_X10_end 7 rfl) (by decide) (fun h2 => ?_) (fun h2 => ?_)
    · refine e_aload_n (dt dk_X10_end 8 rfl) rfl ?_
      refine e_getR ci_X10 (dt dk_X10_end 9 rfl) rfl (by decide) rfl fl_X10_37 ?_
      refine e_aload_n (dt dk_X10_end 10 rfl) rfl ?_
      refine e_getI (v := (M 53 16)) ci_X10 (dt dk_X10_end 11 rfl) rfl (by decide) rfl fl_X10_111 rfl ?_
      refine e_iload_n (dt dk_X10_end 12 rfl) rfl ?_
      refine e_bipush (v := (65 : Int32)) (dt dk_X10_end 13 rfl) (by decide) ?_
      refine e_isub (dt dk_X10_end 14 rfl) ?_
      refine e_if (fun h5 => ?_)
      refine e_iast' (dt dk_X10_end 15 rfl) rfl h5 ?_
      refine e_iconst (v := (3 : Int32)) (dt dk_X10_end 16 rfl) (by decide) ?_
      exact e_iret (dt dk_X10_end 17 rfl) rfl rfl rfl
    · refine e_aload_n (dt dk_X10_end 18 rfl) rfl ?_
      refine e_getR ci_X10 (dt dk_X10_end 19 rfl) rfl (by decide) rfl fl_X10_40 ?_
      refine e_aload_n (dt dk_X10_end 20 rfl) rfl ?_
      refine e_getI (v := (M 53 16)) ci_X10 (dt dk_X10_end 21 rfl) rfl (by decide) rfl fl_X10_111 rfl ?_
      refine e_iload_n (dt dk_X10_end 22 rfl) rfl ?_
      refine e_bipush (v := (65 : Int32)) (dt dk_X10_end 23 rfl) (by decide) ?_
      refine e_isub (dt dk_X10_end 24 rfl) ?_
      refine e_if (fun h3 => ?_)
      refine e_iast' (dt dk_X10_end 25 rfl) rfl h3 ?_
      refine e_aload_n (dt dk_X10_end 26 rfl) rfl ?_
      refine e_iconst (v := (5 : Int32)) (dt dk_X10_end 27 rfl) (by decide) ?_
      refine ev_call (ca_V (k := 53) mv_X10_close (sp_X10_close (5 : Int32) (up2 M 64 (ix (M 53 16)) (v2 - (65 : Int32)))) (dt dk_X10_end 28 rfl) ml_X10_121 rfl rfl rfl rfl rfl (by decide) : Ca _ _ _ _ _ _ _ _ [] _ _) (fun q4 hq4 => ?_)
      show Ev _ _ _ _ _ _ 48 [some (.ref 53), some (.int v1), some (.int v2)] [.int q4.1] q4.2 _
      exact e_iret (dt dk_X10_end 29 rfl) rfl rfl rfl
-- X10_deed (W, depth 1)
def f_X10_deed (v1 : Int32) (M : Mem) : Option (Int32 × Mem) :=
  (if v1 = (33 : Int32) then ((f_X10_close (4 : Int32) M)).bind fun q2 => some (q2.1, q2.2) else if v1 = (43 : Int32) then ((f_X10_close (0 : Int32) M)).bind fun q4 => some (q4.1, q4.2) else if v1 = (45 : Int32) then ((f_X10_close (1 : Int32) M)).bind fun q6 => some (q6.1, q6.2) else if v1 = (94 : Int32) then ((f_X10_close (2 : Int32) M)).bind fun q8 => some (q8.1, q8.2) else if v1 = (95 : Int32) then ((f_X10_close (3 : Int32) M)).bind fun q10 => some (q10.1, q10.2) else some ((-6 : Int32), M))
set_option maxRecDepth 20000 in
set_option maxHeartbeats 2000000 in
theorem sp_X10_deed (v1 : Int32) (M : Mem) : SpO wI yX10_deed cX10_deed 2 (some .int) 1 [.ref 53, .int v1] M (f_X10_deed v1 M) := by
  refine sp_of (L := [some (.ref 53), some (.int v1)]) rfl (by decide +kernel) rfl rfl ?_
  unfold f_X10_deed
  refine e_iload_n (dt dk_X10_deed 0 rfl) rfl ?_
  refine e_split (fun h1 => ?_) (fun h1 => ?_)
  · refine e_lookup (off := 75) 76 (dt dk_X10_deed 1 rfl) rfl (by rw [h1]; rfl) (by decide) ?_
    refine e_aload_n (dt dk_X10_deed 18 rfl) rfl ?_
    refine e_iconst (v := (4 : Int32)) (dt dk_X10_deed 19 rfl) (by decide) ?_
    refine ev_call (ca_V (k := 53) mv_X10_close (sp_X10_close (4 : Int32) M) (dt dk_X10_deed 20 rfl) ml_X10_121 rfl rfl rfl rfl rfl (by decide) : Ca _ _ _ _ _ _ _ _ [] _ _) (fun q2 hq2 => ?_)
    show Ev _ _ _ _ _ _ 81 [some (.ref 53), some (.int v1)] [.int q2.1] q2.2 _
    exact e_iret (dt dk_X10_deed 21 rfl) rfl rfl rfl
  · skip
    refine e_split (fun h3 => ?_) (fun h3 => ?_)
    · refine e_lookup (off := 51) 52 (dt dk_X10_deed 1 rfl) rfl (by rw [h3]; rfl) (by decide) ?_
      refine e_aload_n (dt dk_X10_deed 2 rfl) rfl ?_
      refine e_iconst (v := (0 : Int32)) (dt dk_X10_deed 3 rfl) (by decide) ?_
      refine ev_call (ca_V (k := 53) mv_X10_close (sp_X10_close (0 : Int32) M) (dt dk_X10_deed 4 rfl) ml_X10_121 rfl rfl rfl rfl rfl (by decide) : Ca _ _ _ _ _ _ _ _ [] _ _) (fun q4 hq4 => ?_)
      show Ev _ _ _ _ _ _ 57 [some (.ref 53), some (.int v1)] [.int q4.1] q4.2 _
      exact e_iret (dt dk_X10_deed 5 rfl) rfl rfl rfl
    · skip
      refine e_split (fun h5 => ?_) (fun h5 => ?_)
      · refine e_lookup (off := 57) 58 (dt dk_X10_deed 1 rfl) rfl (by rw [h5]; rfl) (by decide) ?_
        refine e_aload_n (dt dk_X10_deed 6 rfl) rfl ?_
        refine e_iconst (v := (1 : Int32)) (dt dk_X10_deed 7 rfl) (by decide) ?_
        refine ev_call (ca_V (k := 53) mv_X10_close (sp_X10_close (1 : Int32) M) (dt dk_X10_deed 8 rfl) ml_X10_121 rfl rfl rfl rfl rfl (by decide) : Ca _ _ _ _ _ _ _ _ [] _ _) (fun q6 hq6 => ?_)
        show Ev _ _ _ _ _ _ 63 [some (.ref 53), some (.int v1)] [.int q6.1] q6.2 _
        exact e_iret (dt dk_X10_deed 9 rfl) rfl rfl rfl
      · skip
        refine e_split (fun h7 => ?_) (fun h7 => ?_)
        · refine e_lookup (off := 63) 64 (dt dk_X10_deed 1 rfl) rfl (by rw [h7]; rfl) (by decide) ?_
          refine e_aload_n (dt dk_X10_deed 10 rfl) rfl ?_
          refine e_iconst (v := (2 : Int32)) (dt dk_X10_deed 11 rfl) (by decide) ?_
          refine ev_call (ca_V (k := 53) mv_X10_close (sp_X10_close (2 : Int32) M) (dt dk_X10_deed 12 rfl) ml_X10_121 rfl rfl rfl rfl rfl (by decide) : Ca _ _ _ _ _ _ _ _ [] _ _) (fun q8 hq8 => ?_)
          show Ev _ _ _ _ _ _ 69 [some (.ref 53), some (.int v1)] [.int q8.1] q8.2 _
          exact e_iret (dt dk_X10_deed 13 rfl) rfl rfl rfl
        · skip
          refine e_split (fun h9 => ?_) (fun h9 => ?_)
          · refine e_lookup (off := 69) 70 (dt dk_X10_deed 1 rfl) rfl (by rw [h9]; rfl) (by decide) ?_
            refine e_aload_n (dt dk_X10_deed 14 rfl) rfl ?_
            refine e_iconst (v := (3 : Int32)) (dt dk_X10_deed 15 rfl) (by decide) ?_
            refine ev_call (ca_V (k := 53) mv_X10_close (sp_X10_close (3 : Int32) M) (dt dk_X10_deed 16 rfl) ml_X10_121 rfl rfl rfl rfl rfl (by decide) : Ca _ _ _ _ _ _ _ _ [] _ _) (fun q10 hq10 => ?_)
            show Ev _ _ _ _ _ _ 75 [some (.ref 53), some (.int v1)] [.int q10.1] q10.2 _
            exact e_iret (dt dk_X10_deed 17 rfl) rfl rfl rfl
          · skip
            refine e_lookup (off := 81) 82 (dt dk_X10_deed 1 rfl) rfl ((lv_osw h1 rfl).trans <| (lv_osw h3 rfl).trans <| (lv_osw h5 rfl).trans <| (lv_osw h7 rfl).trans <| (lv_osw h9 rfl).trans <| rfl) (by decide) ?_
            refine e_bipush (v := (-6 : Int32)) (dt dk_X10_deed 22 rfl) (by decide) ?_
            exact e_iret (dt dk_X10_deed 23 rfl) rfl rfl rfl
-- X10_begin (W, depth 2)
def lb_X10_begin_23  (v1 : Int32) (s0 : Int32) (s1 : Int32) (M : Mem) : Option (Int32 × Mem) :=
  if inb s1 60 then if inb (M 53 16) 60 then (if (f_X10_isName v1) = 0 then (if v1 = (111 : Int32) then some ((2 : Int32), (up2 (up2 M 63 (ix s1) s0) 64 (ix (M 53 16)) (0 : Int32))) else (if v1 = (46 : Int32) then ((f_X10_close (6 : Int32) (up2 (up2 M 63 (ix s1) s0) 64 (ix (M 53 16)) (0 : Int32)))).bind fun q7 => some (q7.1, q7.2) else some ((-6 : Int32), (up2 (up2 M 63 (ix s1) s0) 64 (ix (M 53 16)) (0 : Int32))))) else some ((1 : Int32), (up2 (up2 M 63 (ix s1) s0) 64 (ix (M 53 16)) (0 : Int32)))) else none else none
set_option maxRecDepth 20000 in
set_option maxHeartbeats 2000000 in
theorem ev_lb_X10_begin_23   (v1 : Int32) (s0 : Int32) (s1 : Int32) (M : Mem) : Ev none wI RX10 cX10_begin (some .int) 2 23 [some (.ref 53), some (.int v1)] [.int s0, .int s1, .ref 63] M (lb_X10_begin_23 v1 s0 s1 M) := by
  unfold lb_X10_begin_23
  refine e_if (fun h2 => ?_)
  refine e_iast' (dt dk_X10_begin 12 rfl) rfl h2 ?_
  refine e_aload_n (dt dk_X10_begin 13 rfl) rfl ?_
  refine e_getR ci_X10 (dt dk_X10_begin 14 rfl) rfl (by decide) rfl fl_X10_40 ?_
  refine e_aload_n (dt dk_X10_begin 15 rfl) rfl ?_
  refine e_getI (v := (M 53 16)) ci_X10 (dt dk_X10_begin 16 rfl) rfl (by decide) rfl fl_X10_111 rfl ?_
  refine e_iconst (v := (0 : Int32)) (dt dk_X10_begin 17 rfl) (by decide) ?_
  refine e_if (fun h3 => ?_)
  refine e_iast' (dt dk_X10_begin 18 rfl) rfl h3 ?_
  refine e_iload_n (dt dk_X10_begin 19 rfl) rfl ?_
  refine ev_callT (ca_S ms_X10_isName (sp_X10_isName v1 (up2 (up2 M 63 (ix s1) s0) 64 (ix (M 53 16)) (0 : Int32))) (dt dk_X10_begin 20 rfl) ml_X10_118 rfl rfl rfl (by decide) : Ca _ _ _ _ _ _ _ _ [] _ _) ?_
  show Ev _ _ _ _ _ _ 38 [some (.ref 53), some (.int v1)] [.int (f_X10_isName v1)] (up2 (up2 M 63 (ix s1) s0) 64 (ix (M 53 16)) (0 : Int32)) _
  refine e_if_eq 45 (dt dk_X10_begin 21 rfl) (by decide) (fun h4 => ?_) (fun h4 => ?_)
  · refine e_iload_n (dt dk_X10_begin 24 rfl) rfl ?_
    refine e_bipush (v := (111 : Int32)) (dt dk_X10_begin 25 rfl) (by decide) ?_
    refine e_icmp_ne 55 (dt dk_X10_begin 26 rfl) (by decide) (fun h5 => ?_) (fun h5 => ?_)
    · refine e_iconst (v := (2 : Int32)) (dt dk_X10_begin 27 rfl) (by decide) ?_
      refine e_goto 72 (dt dk_X10_begin 28 rfl) (by decide) ?_
      exact e_iret (dt dk_X10_begin 37 rfl) rfl rfl rfl
    · refine e_iload_n (dt dk_X10_begin 29 rfl) rfl ?_
      refine e_bipush (v := (46 : Int32)) (dt dk_X10_begin 30 rfl) (by decide) ?_
      refine e_icmp_ne 70 (dt dk_X10_begin 31 rfl) (by decide) (fun h6 => ?_) (fun h6 => ?_)
      · refine e_aload_n (dt dk_X10_begin 32 rfl) rfl ?_
        refine e_bipush (v := (6 : Int32)) (dt dk_X10_begin 33 rfl) (by decide) ?_
        refine ev_call (ca_V (k := 53) mv_X10_close (sp_X10_close (6 : Int32) (up2 (up2 M 63 (ix s1) s0) 64 (ix (M 53 16)) (0 : Int32))) (dt dk_X10_begin 34 rfl) ml_X10_121 rfl rfl rfl rfl rfl (by decide) : Ca _ _ _ _ _ _ _ _ [] _ _) (fun q7 hq7 => ?_)
        show Ev _ _ _ _ _ _ 67 [some (.ref 53), some (.int v1)] [.int q7.1] q7.2 _
        refine e_goto 72 (dt dk_X10_begin 35 rfl) (by decide) ?_
        exact e_iret (dt dk_X10_begin 37 rfl) rfl rfl rfl
      · refine e_bipush (v := (-6 : Int32)) (dt dk_X10_begin 36 rfl) (by decide) ?_
        exact e_iret (dt dk_X10_begin 37 rfl) rfl rfl rfl
  · refine e_iconst (v := (1 : Int32)) (dt dk_X10_begin 22 rfl) (by decide) ?_
    refine e_goto 72 (dt dk_X10_begin 23 rfl) (by decide) ?_
    exact e_iret (dt dk_X10_begin 37 rfl) rfl rfl rfl
def f_X10_begin (v1 : Int32) (M : Mem) : Option (Int32 × Mem) :=
  (if (f_X10_isName v1) = 0 then (lb_X10_begin_23 v1 (0 : Int32) (M 53 16) M) else (lb_X10_begin_23 v1 (v1 - (65 : Int32)) (M 53 16) M))
set_option maxRecDepth 20000 in
set_option maxHeartbeats 2000000 in
theorem sp_X10_begin (v1 : Int32) (M : Mem) : SpO wI yX10_begin cX10_begin 2 (some .int) 2 [.ref 53, .int v1] M (f_X10_begin v1 M) := by
  refine sp_of (L := [some (.ref 53), some (.int v1)]) rfl (by decide +kernel) rfl rfl ?_
  unfold f_X10_begin
  refine e_aload_n (dt dk_X10_begin 0 rfl) rfl ?_
  refine e_getR ci_X10 (dt dk_X10_begin 1 rfl) rfl (by decide) rfl fl_X10_37 ?_
  refine e_aload_n (dt dk_X10_begin 2 rfl) rfl ?_
  refine e_getI (v := (M 53 16)) ci_X10 (dt dk_X10_begin 3 rfl) rfl (by decide) rfl fl_X10_111 rfl ?_
  refine e_iload_n (dt dk_X10_begin 4 rfl) rfl ?_
  refine ev_callT (ca_S ms_X10_isName (sp_X10_isName v1 M) (dt dk_X10_begin 5 rfl) ml_X10_118 rfl rfl rfl (by decide) : Ca _ _ _ _ _ _ _ _ [.int (M 53 16), .ref 63] _ _) ?_
  show Ev _ _ _ _ _ _ 12 [some (.ref 53), some (.int v1)] [.int (f_X10_isName v1), .int (M 53 16), .ref 63] M _
  refine e_if_eq 22 (dt dk_X10_begin 6 rfl) (by decide) (fun h1 => ?_) (fun h1 => ?_)
  · refine e_iconst (v := (0 : Int32)) (dt dk_X10_begin 11 rfl) (by decide) ?_
    exact e_forget [true, true] [some (.ref 53), some (.int v1)] ⟨rfl, rfl⟩ (ev_lb_X10_begin_23 v1 (0 : Int32) (M 53 16) M)
  · refine e_iload_n (dt dk_X10_begin 7 rfl) rfl ?_
    refine e_bipush (v := (65 : Int32)) (dt dk_X10_begin 8 rfl) (by decide) ?_
    refine e_isub (dt dk_X10_begin 9 rfl) ?_
    refine e_goto 23 (dt dk_X10_begin 10 rfl) (by decide) ?_
    exact e_forget [true, true] [some (.ref 53), some (.int v1)] ⟨rfl, rfl⟩ (ev_lb_X10_begin_23 v1 (v1 - (65 : Int32)) (M 53 16) M)
-- X10_fault (W, depth 3)
def lb_X10_fault_63 (K9 : Int32 → Int32 → Mem → Option (Int32 × Mem)) (v2 : Int32) (s0 : Int32) (M : Mem) : Option (Int32 × Mem) :=
  (if 0 ≤ s0 then (K9 s0 (v2 + (1 : Int32)) M) else some (v2, M))
set_option maxRecDepth 20000 in
set_option maxHeartbeats 2000000 in
theorem ev_lb_X10_fault_63 (K9 : Int32 → Int32 → Mem → Option (Int32 × Mem)) (hK9 : ∀ (v1 : Int32) (v2 : Int32) (M : Mem), Ev none wI RX10 cX10_fault (some .int) 3 9 [some (.ref 53), some (.int v1), some (.int v2)] [] M (K9 v1 v2 M)) (v2 : Int32) (s0 : Int32) (M : Mem) : Ev none wI RX10 cX10_fault (some .int) 3 63 [some (.ref 53), none, some (.int v2)] [.int s0] M (lb_X10_fault_63 K9 v2 s0 M) := by
  unfold lb_X10_fault_63
  refine e_istore_n [some (.ref 53), some (.int s0), some (.int v2)] (dt dk_X10_fault 37 rfl) rfl rfl rfl ?_
  refine e_iload_n (dt dk_X10_fault 38 rfl) rfl ?_
  refine e_if_ge 70 (dt dk_X10_fault 39 rfl) (by decide) (fun h7 => ?_) (fun h7 => ?_)
  · refine e_iinc [some (.ref 53), some (.int s0), some (.int (v2 + (1 : Int32)))] (dt dk_X10_fault 42 rfl) rfl rfl rfl rfl ?_
    refine e_goto 9 (dt dk_X10_fault 43 rfl) (by decide) ?_
    exact e_forget [true, true, true] [some (.ref 53), some (.int s0), some (.int (v2 + (1 : Int32)))] ⟨rfl, rfl⟩ (hK9 s0 (v2 + (1 : Int32)) M)
  · refine e_iload_n (dt dk_X10_fault 40 rfl) rfl ?_
    exact e_iret (dt dk_X10_fault 41 rfl) rfl rfl rfl
def bd_X10_fault_9  (K9 : Int32 → Int32 → Mem → Option (Int32 × Mem)) (v1 : Int32) (v2 : Int32) (M : Mem) : Option (Int32 × Mem) :=
  (if (M 53 12) ≤ v2 then (if v1 = 0 then some ((-6 : Int32), M) else some ((M 53 12), M)) else (if v1 = 0 then if inb v2 60 then ((f_X10_begin (M 61 (ix v2)) M)).bind fun q11 => (lb_X10_fault_63 K9 v2 q11.1 q11.2) else none else (if v1 = (1 : Int32) then if inb v2 60 then ((f_X10_deed (M 61 (ix v2)) M)).bind fun q9 => (lb_X10_fault_63 K9 v2 q9.1 q9.2) else none else if inb v2 60 then ((f_X10_end v1 (M 61 (ix v2)) M)).bind fun q6 => (lb_X10_fault_63 K9 v2 q6.1 q6.2) else none)))
set_option maxRecDepth 20000 in
set_option maxHeartbeats 2000000 in
theorem ev_bd_X10_fault_9  (K9 : Int32 → Int32 → Mem → Option (Int32 × Mem))  (hK9 : ∀ (v1 : Int32) (v2 : Int32) (M : Mem), Ev none wI RX10 cX10_fault (some .int) 3 9 [some (.ref 53), some (.int v1), some (.int v2)] [] M (K9 v1 v2 M)) (v1 : Int32) (v2 : Int32) (M : Mem) : Ev none wI RX10 cX10_fault (some .int) 3 9 [some (.ref 53), some (.int v1), some (.int v2)] [] M (bd_X10_fault_9 K9 v1 v2 M) := by
  unfold bd_X10_fault_9
  refine e_iload_n (dt dk_X10_fault 7 rfl) rfl ?_
  refine e_aload_n (dt dk_X10_fault 8 rfl) rfl ?_
  refine e_getI (v := (M 53 12)) ci_X10 (dt dk_X10_fault 9 rfl) rfl (by decide) rfl fl_X10_108 rfl ?_
  refine e_icmp_ge 76 (dt dk_X10_fault 10 rfl) (by decide) (fun h1 => ?_) (fun h1 => ?_)
  · refine e_iload_n (dt dk_X10_fault 44 rfl) rfl ?_
    refine e_if_ne 85 (dt dk_X10_fault 45 rfl) (by decide) (fun h2 => ?_) (fun h2 => ?_)
    · refine e_bipush (v := (-6 : Int32)) (dt dk_X10_fault 46 rfl) (by decide) ?_
      refine e_goto 89 (dt dk_X10_fault 47 rfl) (by decide) ?_
      exact e_iret (dt dk_X10_fault 50 rfl) rfl rfl rfl
    · refine e_aload_n (dt dk_X10_fault 48 rfl) rfl ?_
      refine e_getI (v := (M 53 12)) ci_X10 (dt dk_X10_fault 49 rfl) rfl (by decide) rfl fl_X10_108 rfl ?_
      exact e_iret (dt dk_X10_fault 50 rfl) rfl rfl rfl
  · refine e_iload_n (dt dk_X10_fault 11 rfl) rfl ?_
    refine e_if_ne 34 (dt dk_X10_fault 12 rfl) (by decide) (fun h3 => ?_) (fun h3 => ?_)
    · refine e_aload_n (dt dk_X10_fault 13 rfl) rfl ?_
      refine e_aload_n (dt dk_X10_fault 14 rfl) rfl ?_
      refine e_getR ci_X10 (dt dk_X10_fault 15 rfl) rfl (by decide) rfl fl_X10_31 ?_
      refine e_iload_n (dt dk_X10_fault 16 rfl) rfl ?_
      refine e_if (fun h10 => ?_)
      refine e_iald' (v := (M 61 (ix v2))) (dt dk_X10_fault 17 rfl) rfl h10 rfl ?_
      refine ev_call (ca_V (k := 53) mv_X10_begin (sp_X10_begin (M 61 (ix v2)) M) (dt dk_X10_fault 18 rfl) ml_X10_124 rfl rfl rfl rfl rfl (by decide) : Ca _ _ _ _ _ _ _ _ [] _ _) (fun q11 hq11 => ?_)
      show Ev _ _ _ _ _ _ 31 [some (.ref 53), some (.int v1), some (.int v2)] [.int q11.1] q11.2 _
      refine e_goto 63 (dt dk_X10_fault 19 rfl) (by decide) ?_
      exact e_forget [true, false, true] [some (.ref 53), none, some (.int v2)] ⟨rfl, rfl⟩ (ev_lb_X10_fault_63 K9 hK9 v2 q11.1 q11.2)
    · refine e_iload_n (dt dk_X10_fault 20 rfl) rfl ?_
      refine e_iconst (v := (1 : Int32)) (dt dk_X10_fault 21 rfl) (by decide) ?_
      refine e_icmp_ne 52 (dt dk_X10_fault 22 rfl) (by decide) (fun h4 => ?_) (fun h4 => ?_)
      · refine e_aload_n (dt dk_X10_fault 23 rfl) rfl ?_
        refine e_aload_n (dt dk_X10_fault 24 rfl) rfl ?_
        refine e_getR ci_X10 (dt dk_X10_fault 25 rfl) rfl (by decide) rfl fl_X10_31 ?_
        refine e_iload_n (dt dk_X10_fault 26 rfl) rfl ?_
        refine e_if (fun h8 => ?_)
        refine e_iald' (v := (M 61 (ix v2))) (dt dk_X10_fault 27 rfl) rfl h8 rfl ?_
        refine ev_call (ca_V (k := 53) mv_X10_deed (sp_X10_deed (M 61 (ix v2)) M) (dt dk_X10_fault 28 rfl) ml_X10_127 rfl rfl rfl rfl rfl (by decide) : Ca _ _ _ _ _ _ _ _ [] _ _) (fun q9 hq9 => ?_)
        show Ev _ _ _ _ _ _ 49 [some (.ref 53), some (.int v1), some (.int v2)] [.int q9.1] q9.2 _
        refine e_goto 63 (dt dk_X10_fault 29 rfl) (by decide) ?_
        exact e_forget [true, false, true] [some (.ref 53), none, some (.int v2)] ⟨rfl, rfl⟩ (ev_lb_X10_fault_63 K9 hK9 v2 q9.1 q9.2)
      · refine e_aload_n (dt dk_X10_fault 30 rfl) rfl ?_
        refine e_iload_n (dt dk_X10_fault 31 rfl) rfl ?_
        refine e_aload_n (dt dk_X10_fault 32 rfl) rfl ?_
        refine e_getR ci_X10 (dt dk_X10_fault 33 rfl) rfl (by decide) rfl fl_X10_31 ?_
        refine e_iload_n (dt dk_X10_fault 34 rfl) rfl ?_
        refine e_if (fun h5 => ?_)
        refine e_iald' (v := (M 61 (ix v2))) (dt dk_X10_fault 35 rfl) rfl h5 rfl ?_
        refine ev_call (ca_V (k := 53) mv_X10_end (sp_X10_end v1 (M 61 (ix v2)) M) (dt dk_X10_fault 36 rfl) ml_X10_130 rfl rfl rfl rfl rfl (by decide) : Ca _ _ _ _ _ _ _ _ [] _ _) (fun q6 hq6 => ?_)
        show Ev _ _ _ _ _ _ 63 [some (.ref 53), some (.int v1), some (.int v2)] [.int q6.1] q6.2 _
        exact e_forget [true, false, true] [some (.ref 53), none, some (.int v2)] ⟨rfl, rfl⟩ (ev_lb_X10_fault_63 K9 hK9 v2 q6.1 q6.2)
def lp_X10_fault_9  : Nat → Int32 → Int32 → Mem → Option (Int32 × Mem)
  | 0 => fun _ _ _ => none
  | n + 1 => bd_X10_fault_9 (lp_X10_fault_9 n)
theorem ev_lp_X10_fault_9   : ∀ (n : Nat), ∀ (v1 : Int32) (v2 : Int32) (M : Mem), Ev none wI RX10 cX10_fault (some .int) 3 9 [some (.ref 53), some (.int v1), some (.int v2)] [] M (lp_X10_fault_9 n v1 v2 M)
  | 0 => fun _ _ _ => e_none
  | n + 1 => ev_bd_X10_fault_9 (lp_X10_fault_9 n) (ev_lp_X10_fault_9 n)
def f_X10_fault  (M : Mem) : Option (Int32 × Mem) :=
  (lp_X10_fault_9 FU (0 : Int32) (0 : Int32) (up2 M 53 16 (0 : Int32)))
set_option maxRecDepth 20000 in
set_option maxHeartbeats 2000000 in
theorem sp_X10_fault  (M : Mem) : SpO wI yX10_fault cX10_fault 3 (some .int) 3 [.ref 53] M (f_X10_fault M) := by
  refine sp_of (L := [some (.ref 53), none, none]) rfl (by decide +kernel) rfl rfl ?_
  unfold f_X10_fault
  refine e_aload_n (dt dk_X10_fault 0 rfl) rfl ?_
  refine e_iconst (v := (0 : Int32)) (dt dk_X10_fault 1 rfl) (by decide) ?_
  refine e_putI (ty := .int) ci_X10 (dt dk_X10_fault 2 rfl) rfl (by decide) rfl fl_X10_111 rfl (by decide +kernel) rfl rfl ?_
  refine e_iconst (v := (0 : Int32)) (dt dk_X10_fault 3 rfl) (by decide) ?_
  refine e_istore_n [some (.ref 53), some (.int (0 : Int32)), none] (dt dk_X10_fault 4 rfl) rfl rfl rfl ?_
  refine e_iconst (v := (0 : Int32)) (dt dk_X10_fault 5 rfl) (by decide) ?_
  refine e_istore_n [some (.ref 53), some (.int (0 : Int32)), some (.int (0 : Int32))] (dt dk_X10_fault 6 rfl) rfl rfl rfl ?_
  exact e_forget [true, true, true] [some (.ref 53), some (.int (0 : Int32)), some (.int (0 : Int32))] ⟨rfl, rfl⟩ (ev_lp_X10_fault_9 FU (0 : Int32) (0 : Int32) (up2 M 53 16 (0 : Int32)))
-- X10_keepNow (W, depth 0)
def bd_X10_keepNow_2  (K2 : Int32 → Mem → Option Mem) (v1 : Int32) (M : Mem) : Option Mem :=
  (if (8 : Int32) ≤ v1 then some (up2 (up2 (up2 M 66 (ix (40 : Int32)) (M 53 5)) 66 (ix (41 : Int32)) (M 53 6)) 66 (ix (42 : Int32)) (M 53 7)) else if inb v1 8 then if inb v1 43 then if inb v1 8 then if inb ((8 : Int32) + v1) 43 then if inb v1 8 then if inb ((16 : Int32) + v1) 43 then if inb v1 8 then if inb ((24 : Int32) + v1) 43 then if inb v1 8 then if inb ((32 : Int32) + v1) 43 then (K2 (v1 + (1 : Int32)) (up2 (up2 (up2 (up2 (up2 M 66 (ix v1) (M 54 (ix v1))) 66 (ix ((8 : Int32) + v1)) (M 55 (ix v1))) 66 (ix ((16 : Int32) + v1)) (M 56 (ix v1))) 66 (ix ((24 : Int32) + v1)) (M 57 (ix v1))) 66 (ix ((32 : Int32) + v1)) (M 58 (ix v1)))) else none else none else none else none else none else none else none else none else none else none)
set_option maxRecDepth 20000 in
set_option maxHeartbeats 2000000 in
theorem ev_bd_X10_keepNow_2  (K2 : Int32 → Mem → Option Mem)  (hK2 : ∀ (v1 : Int32) (M : Mem), Ev none wV RX10 cX10_keepNow none 0 2 [some (.ref 53), some (.int v1)] [] M (K2 v1 M)) (v1 : Int32) (M : Mem) : Ev none wV RX10 cX10_keepNow none 0 2 [some (.ref 53), some (.int v1)] [] M (bd_X10_keepNow_2 K2 v1 M) := by
  unfold bd_X10_keepNow_2
  refine e_iload_n (dt dk_X10_keepNow 2 rfl) rfl ?_
  refine e_bipush (v := (8 : Int32)) (dt dk_X10_keepNow 3 rfl) (by decide) ?_
  refine e_icmp_ge 86 (dt dk_X10_keepNow 4 rfl) (by decide) (fun h1 => ?_) (fun h1 => ?_)
  · refine e_aload_n (dt dk_X10_keepNow 55 rfl) rfl ?_
    refine e_getR ci_X10 (dt dk_X10_keepNow 56 rfl) rfl (by decide) rfl fl_X10_46 ?_
    refine e_bipush (v := (40 : Int32)) (dt dk_X10_keepNow 57 rfl) (by decide) ?_
    refine e_aload_n (dt dk_X10_keepNow 58 rfl) rfl ?_
    refine e_getI (v := (M 53 5)) ci_X10 (dt dk_X10_keepNow 59 rfl) rfl (by decide) rfl fl_X10_74 rfl ?_
    refine e_iast' (dt dk_X10_keepNow 60 rfl) rfl (by decide) ?_
    refine e_aload_n (dt dk_X10_keepNow 61 rfl) rfl ?_
    refine e_getR ci_X10 (dt dk_X10_keepNow 62 rfl) rfl (by decide) rfl fl_X10_46 ?_
    refine e_bipush (v := (41 : Int32)) (dt dk_X10_keepNow 63 rfl) (by decide) ?_
    refine e_aload_n (dt dk_X10_keepNow 64 rfl) rfl ?_
    refine e_getI (v := (M 53 6)) ci_X10 (dt dk_X10_keepNow 65 rfl) rfl (by decide) rfl fl_X10_143 rfl ?_
    refine e_iast' (dt dk_X10_keepNow 66 rfl) rfl (by decide) ?_
    refine e_aload_n (dt dk_X10_keepNow 67 rfl) rfl ?_
    refine e_getR ci_X10 (dt dk_X10_keepNow 68 rfl) rfl (by decide) rfl fl_X10_46 ?_
    refine e_bipush (v := (42 : Int32)) (dt dk_X10_keepNow 69 rfl) (by decide) ?_
    refine e_aload_n (dt dk_X10_keepNow 70 rfl) rfl ?_
    refine e_getI (v := (M 53 7)) ci_X10 (dt dk_X10_keepNow 71 rfl) rfl (by decide) rfl fl_X10_134 rfl ?_
    refine e_iast' (dt dk_X10_keepNow 72 rfl) rfl (by decide) ?_
    exact e_vret (dt dk_X10_keepNow 73 rfl) rfl rfl
  · refine e_aload_n (dt dk_X10_keepNow 5 rfl) rfl ?_
    refine e_getR ci_X10 (dt dk_X10_keepNow 6 rfl) rfl (by decide) rfl fl_X10_46 ?_
    refine e_iload_n (dt dk_X10_keepNow 7 rfl) rfl ?_
    refine e_aload_n (dt dk_X10_keepNow 8 rfl) rfl ?_
    refine e_getR ci_X10 (dt dk_X10_keepNow 9 rfl) rfl (by decide) rfl fl_X10_7 ?_
    refine e_iload_n (dt dk_X10_keepNow 10 rfl) rfl ?_
    refine e_if (fun h2 => ?_)
    refine e_iald' (v := (M 54 (ix v1))) (dt dk_X10_keepNow 11 rfl) rfl h2 rfl ?_
    refine e_if (fun h3 => ?_)
    refine e_iast' (dt dk_X10_keepNow 12 rfl) rfl h3 ?_
    refine e_aload_n (dt dk_X10_keepNow 13 rfl) rfl ?_
    refine e_getR ci_X10 (dt dk_X10_keepNow 14 rfl) rfl (by decide) rfl fl_X10_46 ?_
    refine e_bipush (v := (8 : Int32)) (dt dk_X10_keepNow 15 rfl) (by decide) ?_
    refine e_iload_n (dt dk_X10_keepNow 16 rfl) rfl ?_
    refine e_iadd (dt dk_X10_keepNow 17 rfl) ?_
    refine e_aload_n (dt dk_X10_keepNow 18 rfl) rfl ?_
    refine e_getR ci_X10 (dt dk_X10_keepNow 19 rfl) rfl (by decide) rfl fl_X10_13 ?_
    refine e_iload_n (dt dk_X10_keepNow 20 rfl) rfl ?_
    refine e_if (fun h4 => ?_)
    refine e_iald' (v := (M 55 (ix v1))) (dt dk_X10_keepNow 21 rfl) rfl h4 rfl ?_
    refine e_if (fun h5 => ?_)
    refine e_iast' (dt dk_X10_keepNow 22 rfl) rfl h5 ?_
    refine e_aload_n (dt dk_X10_keepNow 23 rfl) rfl ?_
    refine e_getR ci_X10 (dt dk_X10_keepNow 24 rfl) rfl (by decide) rfl fl_X10_46 ?_
    refine e_bipush (v := (16 : Int32)) (dt dk_X10_keepNow 25 rfl) (by decide) ?_
    refine e_iload_n (dt dk_X10_keepNow 26 rfl) rfl ?_
    refine e_iadd (dt dk_X10_keepNow 27 rfl) ?_
    refine e_aload_n (dt dk_X10_keepNow 28 rfl) rfl ?_
    refine e_getR ci_X10 (dt dk_X10_keepNow 29 rfl) rfl (by decide) rfl fl_X10_16 ?_
    refine e_iload_n (dt dk_X10_keepNow 30 rfl) rfl ?_
    refine e_if (fun h6 => ?_)
    refine e_iald' (v := (M 56 (ix v1))) (dt dk_X10_keepNow 31 rfl) rfl h6 rfl ?_
    refine e_if (fun h7 => ?_)
    refine e_iast' (dt dk_X10_keepNow 32 rfl) rfl h7 ?_
    refine e_aload_n (dt dk_X10_keepNow 33 rfl) rfl ?_
    refine e_getR ci_X10 (dt dk_X10_keepNow 34 rfl) rfl (by decide) rfl fl_X10_46 ?_
    refine e_bipush (v := (24 : Int32)) (dt dk_X10_keepNow 35 rfl) (by decide) ?_
    refine e_iload_n (dt dk_X10_keepNow 36 rfl) rfl ?_
    refine e_iadd (dt dk_X10_keepNow 37 rfl) ?_
    refine e_aload_n (dt dk_X10_keepNow 38 rfl) rfl ?_
    refine e_getR ci_X10 (dt dk_X10_keepNow 39 rfl) rfl (by decide) rfl fl_X10_19 ?_
    refine e_iload_n (dt dk_X10_keepNow 40 rfl) rfl ?_
    refine e_if (fun h8 => ?_)
    refine e_iald' (v := (M 57 (ix v1))) (dt dk_X10_keepNow 41 rfl) rfl h8 rfl ?_
    refine e_if (fun h9 => ?_)
    refine e_iast' (dt dk_X10_keepNow 42 rfl) rfl h9 ?_
    refine e_aload_n (dt dk_X10_keepNow 43 rfl) rfl ?_
    refine e_getR ci_X10 (dt dk_X10_keepNow 44 rfl) rfl (by decide) rfl fl_X10_46 ?_
    refine e_bipush (v := (32 : Int32)) (dt dk_X10_keepNow 45 rfl) (by decide) ?_
    refine e_iload_n (dt dk_X10_keepNow 46 rfl) rfl ?_
    refine e_iadd (dt dk_X10_keepNow 47 rfl) ?_
    refine e_aload_n (dt dk_X10_keepNow 48 rfl) rfl ?_
    refine e_getR ci_X10 (dt dk_X10_keepNow 49 rfl) rfl (by decide) rfl fl_X10_22 ?_
    refine e_iload_n (dt dk_X10_keepNow 50 rfl) rfl ?_
    refine e_if (fun h10 => ?_)
    refine e_iald' (v := (M 58 (ix v1))) (dt dk_X10_keepNow 51 rfl) rfl h10 rfl ?_
    refine e_if (fun h11 => ?_)
    refine e_iast' (dt dk_X10_keepNow 52 rfl) rfl h11 ?_
    refine e_iinc [some (.ref 53), some (.int (v1 + (1 : Int32)))] (dt dk_X10_keepNow 53 rfl) rfl rfl rfl rfl ?_
    refine e_goto 2 (dt dk_X10_keepNow 54 rfl) (by decide) ?_
    exact e_forget [true, true] [some (.ref 53), some (.int (v1 + (1 : Int32)))] ⟨rfl, rfl⟩ (hK2 (v1 + (1 : Int32)) (up2 (up2 (up2 (up2 (up2 M 66 (ix v1) (M 54 (ix v1))) 66 (ix ((8 : Int32) + v1)) (M 55 (ix v1))) 66 (ix ((16 : Int32) + v1)) (M 56 (ix v1))) 66 (ix ((24 : Int32) + v1)) (M 57 (ix v1))) 66 (ix ((32 : Int32) + v1)) (M 58 (ix v1))))
def lp_X10_keepNow_2  : Nat → Int32 → Mem → Option Mem
  | 0 => fun _ _ => none
  | n + 1 => bd_X10_keepNow_2 (lp_X10_keepNow_2 n)
theorem ev_lp_X10_keepNow_2   : ∀ (n : Nat), ∀ (v1 : Int32) (M : Mem), Ev none wV RX10 cX10_keepNow none 0 2 [some (.ref 53), some (.int v1)] [] M (lp_X10_keepNow_2 n v1 M)
  | 0 => fun _ _ => e_none
  | n + 1 => ev_bd_X10_keepNow_2 (lp_X10_keepNow_2 n) (ev_lp_X10_keepNow_2 n)
def f_X10_keepNow  (M : Mem) : Option Mem :=
  (lp_X10_keepNow_2 FU (0 : Int32) M)
set_option maxRecDepth 20000 in
set_option maxHeartbeats 2000000 in
theorem sp_X10_keepNow  (M : Mem) : SpO wV yX10_keepNow cX10_keepNow 2 none 0 [.ref 53] M (f_X10_keepNow M) := by
  refine sp_of (L := [some (.ref 53), none]) rfl (by decide +kernel) rfl rfl ?_
  unfold f_X10_keepNow
  refine e_iconst (v := (0 : Int32)) (dt dk_X10_keepNow 0 rfl) (by decide) ?_
  refine e_istore_n [some (.ref 53), some (.int (0 : Int32))] (dt dk_X10_keepNow 1 rfl) rfl rfl rfl ?_
  exact e_forget [true, true] [some (.ref 53), some (.int (0 : Int32))] ⟨rfl, rfl⟩ (ev_lp_X10_keepNow_2 FU (0 : Int32) M)
-- X10_whyNot (R, depth 0)
def f_X10_whyNot (v1 : Int32) (v2 : Int32) (v3 : Int32) (M : Mem) : Option Int32 :=
  (if v1 = (0 : Int32) then if inb v2 8 then (if (M 55 (ix v2)) = (9 : Int32) then some (1 : Int32) else some (0 : Int32)) else none else if v1 = (1 : Int32) then if inb v2 8 then (if (M 55 (ix v2)) = 0 then some (1 : Int32) else some (0 : Int32)) else none else if v1 = (2 : Int32) then if inb v2 8 then (if (M 56 (ix v2)) = (9 : Int32) then some (1 : Int32) else (if (M 53 5) = 0 then some (2 : Int32) else some (0 : Int32))) else none else if v1 = (3 : Int32) then if inb v2 8 then (if (M 56 (ix v2)) = 0 then some (1 : Int32) else some (0 : Int32)) else none else if v1 = (4 : Int32) then if inb v2 8 then (if (M 54 (ix v2)) = 0 then some (3 : Int32) else some (0 : Int32)) else none else if v1 = (5 : Int32) then (if v2 = v3 then some (4 : Int32) else some (0 : Int32)) else (if (M 53 7) = (99 : Int32) then some (5 : Int32) else some (0 : Int32)))
set_option maxRecDepth 20000 in
set_option maxHeartbeats 2000000 in
theorem sp_X10_whyNot (v1 : Int32) (v2 : Int32) (v3 : Int32) (M : Mem) : SpO (wR M) yX10_whyNot cX10_whyNot 4 (some .int) 0 [.ref 53, .int v1, .int v2, .int v3] M (f_X10_whyNot v1 v2 v3 M) := by
  refine sp_of (L := [some (.ref 53), some (.int v1), some (.int v2), some (.int v3)]) rfl (by decide +kernel) rfl rfl ?_
  unfold f_X10_whyNot
  refine e_iload_n (dt dk_X10_whyNot 0 rfl) rfl ?_
  refine e_split (fun h1 => ?_) (fun h1 => ?_)
  · refine e_tableIn 40 (dt dk_X10_whyNot 1 rfl) (by rw [h1]; decide) (by rw [h1]; decide) (by rw [h1]; rfl) (by decide) ?_
    refine e_aload_n (dt dk_X10_whyNot 2 rfl) rfl ?_
    refine e_getR ci_X10 (dt dk_X10_whyNot 3 rfl) rfl (by decide) rfl fl_X10_13 ?_
    refine e_iload_n (dt dk_X10_whyNot 4 rfl) rfl ?_
    refine e_if (fun h2 => ?_)
    refine e_iald' (v := (M 55 (ix v2))) (dt dk_X10_whyNot 5 rfl) rfl h2 rfl ?_
    refine e_bipush (v := (9 : Int32)) (dt dk_X10_whyNot 6 rfl) (by decide) ?_
    refine e_icmp_ne 55 (dt dk_X10_whyNot 7 rfl) (by decide) (fun h3 => ?_) (fun h3 => ?_)
    · refine e_iconst (v := (1 : Int32)) (dt dk_X10_whyNot 8 rfl) (by decide) ?_
      refine e_goto 56 (dt dk_X10_whyNot 9 rfl) (by decide) ?_
      exact e_iret (dt dk_X10_whyNot 11 rfl) rfl rfl rfl
    · refine e_iconst (v := (0 : Int32)) (dt dk_X10_whyNot 10 rfl) (by decide) ?_
      exact e_iret (dt dk_X10_whyNot 11 rfl) rfl rfl rfl
  · skip
    refine e_split (fun h4 => ?_) (fun h4 => ?_)
    · refine e_tableIn 57 (dt dk_X10_whyNot 1 rfl) (by rw [h4]; decide) (by rw [h4]; decide) (by rw [h4]; rfl) (by decide) ?_
      refine e_aload_n (dt dk_X10_whyNot 12 rfl) rfl ?_
      refine e_getR ci_X10 (dt dk_X10_whyNot 13 rfl) rfl (by decide) rfl fl_X10_13 ?_
      refine e_iload_n (dt dk_X10_whyNot 14 rfl) rfl ?_
      refine e_if (fun h5 => ?_)
      refine e_iald' (v := (M 55 (ix v2))) (dt dk_X10_whyNot 15 rfl) rfl h5 rfl ?_
      refine e_if_ne 70 (dt dk_X10_whyNot 16 rfl) (by decide) (fun h6 => ?_) (fun h6 => ?_)
      · refine e_iconst (v := (1 : Int32)) (dt dk_X10_whyNot 17 rfl) (by decide) ?_
        refine e_goto 71 (dt dk_X10_whyNot 18 rfl) (by decide) ?_
        exact e_iret (dt dk_X10_whyNot 20 rfl) rfl rfl rfl
      · refine e_iconst (v := (0 : Int32)) (dt dk_X10_whyNot 19 rfl) (by decide) ?_
        exact e_iret (dt dk_X10_whyNot 20 rfl) rfl rfl rfl
    · skip
      refine e_split (fun h7 => ?_) (fun h7 => ?_)
      · refine e_tableIn 72 (dt dk_X10_whyNot 1 rfl) (by rw [h7]; decide) (by rw [h7]; decide) (by rw [h7]; rfl) (by decide) ?_
        refine e_aload_n (dt dk_X10_whyNot 21 rfl) rfl ?_
        refine e_getR ci_X10 (dt dk_X10_whyNot 22 rfl) rfl (by decide) rfl fl_X10_16 ?_
        refine e_iload_n (dt dk_X10_whyNot 23 rfl) rfl ?_
        refine e_if (fun h8 => ?_)
        refine e_iald' (v := (M 56 (ix v2))) (dt dk_X10_whyNot 24 rfl) rfl h8 rfl ?_
        refine e_bipush (v := (9 : Int32)) (dt dk_X10_whyNot 25 rfl) (by decide) ?_
        refine e_icmp_ne 87 (dt dk_X10_whyNot 26 rfl) (by decide) (fun h9 => ?_) (fun h9 => ?_)
        · refine e_iconst (v := (1 : Int32)) (dt dk_X10_whyNot 27 rfl) (by decide) ?_
          refine e_goto 99 (dt dk_X10_whyNot 28 rfl) (by decide) ?_
          exact e_iret (dt dk_X10_whyNot 35 rfl) rfl rfl rfl
        · refine e_aload_n (dt dk_X10_whyNot 29 rfl) rfl ?_
          refine e_getI (v := (M 53 5)) ci_X10 (dt dk_X10_whyNot 30 rfl) rfl (by decide) rfl fl_X10_74 rfl ?_
          refine e_if_ne 98 (dt dk_X10_whyNot 31 rfl) (by decide) (fun h10 => ?_) (fun h10 => ?_)
          · refine e_iconst (v := (2 : Int32)) (dt dk_X10_whyNot 32 rfl) (by decide) ?_
            refine e_goto 99 (dt dk_X10_whyNot 33 rfl) (by decide) ?_
            exact e_iret (dt dk_X10_whyNot 35 rfl) rfl rfl rfl
          · refine e_iconst (v := (0 : Int32)) (dt dk_X10_whyNot 34 rfl) (by decide) ?_
            exact e_iret (dt dk_X10_whyNot 35 rfl) rfl rfl rfl
      · skip
        refine e_split (fun h11 => ?_) (fun h11 => ?_)
        · refine e_tableIn 100 (dt dk_X10_whyNot 1 rfl) (by rw [h11]; decide) (by rw [h11]; decide) (by rw [h11]; rfl) (by decide) ?_
          refine e_aload_n (dt dk_X10_whyNot 36 rfl) rfl ?_
          refine e_getR ci_X10 (dt dk_X10_whyNot 37 rfl) rfl (by decide) rfl fl_X10_16 ?_
          refine e_iload_n (dt dk_X10_whyNot 38 rfl) rfl ?_
          refine e_if (fun h12 => ?_)
          refine e_iald' (v := (M 56 (ix v2))) (dt dk_X10_whyNot 39 rfl) rfl h12 rfl ?_
          refine e_if_ne 113 (dt dk_X10_whyNot 40 rfl) (by decide) (fun h13 => ?_) (fun h13 => ?_)
          · refine e_iconst (v := (1 : Int32)) (dt dk_X10_whyNot 41 rfl) (by decide) ?_
            refine e_goto 114 (dt dk_X10_whyNot 42 rfl) (by decide) ?_
            exact e_iret (dt dk_X10_whyNot 44 rfl) rfl rfl rfl
          · refine e_iconst (v := (0 : Int32)) (dt dk_X10_whyNot 43 rfl) (by decide) ?_
            exact e_iret (dt dk_X10_whyNot 44 rfl) rfl rfl rfl
        · skip
          refine e_split (fun h14 => ?_) (fun h14 => ?_)
          · refine e_tableIn 115 (dt dk_X10_whyNot 1 rfl) (by rw [h14]; decide) (by rw [h14]; decide) (by rw [h14]; rfl) (by decide) ?_
            refine e_aload_n (dt dk_X10_whyNot 45 rfl) rfl ?_
            refine e_getR ci_X10 (dt dk_X10_whyNot 46 rfl) rfl (by decide) rfl fl_X10_7 ?_
            refine e_iload_n (dt dk_X10_whyNot 47 rfl) rfl ?_
            refine e_if (fun h15 => ?_)
            refine e_iald' (v := (M 54 (ix v2))) (dt dk_X10_whyNot 48 rfl) rfl h15 rfl ?_
            refine e_if_ne 128 (dt dk_X10_whyNot 49 rfl) (by decide) (fun h16 => ?_) (fun h16 => ?_)
            · refine e_iconst (v := (3 : Int32)) (dt dk_X10_whyNot 50 rfl) (by decide) ?_
              refine e_goto 129 (dt dk_X10_whyNot 51 rfl) (by decide) ?_
              exact e_iret (dt dk_X10_whyNot 53 rfl) rfl rfl rfl
            · refine e_iconst (v := (0 : Int32)) (dt dk_X10_whyNot 52 rfl) (by decide) ?_
              exact e_iret (dt dk_X10_whyNot 53 rfl) rfl rfl rfl
          · skip
            refine e_split (fun h17 => ?_) (fun h17 => ?_)
            · refine e_tableIn 130 (dt dk_X10_whyNot 1 rfl) (by rw [h17]; decide) (by rw [h17]; decide) (by rw [h17]; rfl) (by decide) ?_
              refine e_iload_n (dt dk_X10_whyNot 54 rfl) rfl ?_
              refine e_iload_n (dt dk_X10_whyNot 55 rfl) rfl ?_
              refine e_icmp_ne 139 (dt dk_X10_whyNot 56 rfl) (by decide) (fun h18 => ?_) (fun h18 => ?_)
              · refine e_iconst (v := (4 : Int32)) (dt dk_X10_whyNot 57 rfl) (by decide) ?_
                refine e_goto 140 (dt dk_X10_whyNot 58 rfl) (by decide) ?_
                exact e_iret (dt dk_X10_whyNot 60 rfl) rfl rfl rfl
              · refine e_iconst (v := (0 : Int32)) (dt dk_X10_whyNot 59 rfl) (by decide) ?_
                exact e_iret (dt dk_X10_whyNot 60 rfl) rfl rfl rfl
            · skip
              refine e_tableOut 141 (dt dk_X10_whyNot 1 rfl) (sw_out 5 (by simp only [List.range, List.range.loop, List.all_cons, List.all_nil]; simp [h1, h4, h7, h11, h14, h17])) (by decide) ?_
              refine e_aload_n (dt dk_X10_whyNot 61 rfl) rfl ?_
              refine e_getI (v := (M 53 7)) ci_X10 (dt dk_X10_whyNot 62 rfl) rfl (by decide) rfl fl_X10_134 rfl ?_
              refine e_bipush (v := (99 : Int32)) (dt dk_X10_whyNot 63 rfl) (by decide) ?_
              refine e_icmp_ne 154 (dt dk_X10_whyNot 64 rfl) (by decide) (fun h19 => ?_) (fun h19 => ?_)
              · refine e_iconst (v := (5 : Int32)) (dt dk_X10_whyNot 65 rfl) (by decide) ?_
                refine e_goto 155 (dt dk_X10_whyNot 66 rfl) (by decide) ?_
                exact e_iret (dt dk_X10_whyNot 68 rfl) rfl rfl rfl
              · refine e_iconst (v := (0 : Int32)) (dt dk_X10_whyNot 67 rfl) (by decide) ?_
                exact e_iret (dt dk_X10_whyNot 68 rfl) rfl rfl rfl
-- X10_clear (R, depth 0)
def lb_X10_clear_27 (M : Mem) (K4 : Int32 → Int32 → Option Int32) (v2 : Int32) (s0 : Int32) (s1 : Int32) : Option Int32 :=
  (K4 (s1 ||| s0) (v2 + (1 : Int32)))
set_option maxRecDepth 20000 in
set_option maxHeartbeats 2000000 in
theorem ev_lb_X10_clear_27 (M : Mem) (K4 : Int32 → Int32 → Option Int32) (hK4 : ∀ (v1 : Int32) (v2 : Int32), Ev none (wR M) RX10 cX10_clear (some .int) 0 4 [some (.ref 53), some (.int v1), some (.int v2)] [] M (K4 v1 v2)) (v2 : Int32) (s0 : Int32) (s1 : Int32) : Ev none (wR M) RX10 cX10_clear (some .int) 0 27 [some (.ref 53), none, some (.int v2)] [.int s0, .int s1] M (lb_X10_clear_27 M K4 v2 s0 s1) := by
  unfold lb_X10_clear_27
  refine e_ior (dt dk_X10_clear 18 rfl) ?_
  refine e_istore_n [some (.ref 53), some (.int (s1 ||| s0)), some (.int v2)] (dt dk_X10_clear 19 rfl) rfl rfl rfl ?_
  refine e_iinc [some (.ref 53), some (.int (s1 ||| s0)), some (.int (v2 + (1 : Int32)))] (dt dk_X10_clear 20 rfl) rfl rfl rfl rfl ?_
  refine e_goto 4 (dt dk_X10_clear 21 rfl) (by decide) ?_
  exact e_forget [true, true, true] [some (.ref 53), some (.int (s1 ||| s0)), some (.int (v2 + (1 : Int32)))] ⟨rfl, rfl⟩ (hK4 (s1 ||| s0) (v2 + (1 : Int32)))
def bd_X10_clear_4 (M : Mem)  (K4 : Int32 → Int32 → Option Int32) (v1 : Int32) (v2 : Int32) : Option Int32 :=
  (if (8 : Int32) ≤ v2 then some v1 else if inb v2 8 then (if (M 54 (ix v2)) = 0 then (lb_X10_clear_27 M K4 v2 ((1 : Int32) <<< (v2 &&& 31)) v1) else (lb_X10_clear_27 M K4 v2 (0 : Int32) v1)) else none)
set_option maxRecDepth 20000 in
set_option maxHeartbeats 2000000 in
theorem ev_bd_X10_clear_4 (M : Mem)  (K4 : Int32 → Int32 → Option Int32)  (hK4 : ∀ (v1 : Int32) (v2 : Int32), Ev none (wR M) RX10 cX10_clear (some .int) 0 4 [some (.ref 53), some (.int v1), some (.int v2)] [] M (K4 v1 v2)) (v1 : Int32) (v2 : Int32) : Ev none (wR M) RX10 cX10_clear (some .int) 0 4 [some (.ref 53), some (.int v1), some (.int v2)] [] M (bd_X10_clear_4 M K4 v1 v2) := by
  unfold bd_X10_clear_4
  refine e_iload_n (dt dk_X10_clear 4 rfl) rfl ?_
  refine e_bipush (v := (8 : Int32)) (dt dk_X10_clear 5 rfl) (by decide) ?_
  refine e_icmp_ge 35 (dt dk_X10_clear 6 rfl) (by decide) (fun h1 => ?_) (fun h1 => ?_)
  · refine e_iload_n (dt dk_X10_clear 22 rfl) rfl ?_
    exact e_iret (dt dk_X10_clear 23 rfl) rfl rfl rfl
  · refine e_iload_n (dt dk_X10_clear 7 rfl) rfl ?_
    refine e_aload_n (dt dk_X10_clear 8 rfl) rfl ?_
    refine e_getR ci_X10 (dt dk_X10_clear 9 rfl) rfl (by decide) rfl fl_X10_7 ?_
    refine e_iload_n (dt dk_X10_clear 10 rfl) rfl ?_
    refine e_if (fun h2 => ?_)
    refine e_iald' (v := (M 54 (ix v2))) (dt dk_X10_clear 11 rfl) rfl h2 rfl ?_
    refine e_if_ne 26 (dt dk_X10_clear 12 rfl) (by decide) (fun h3 => ?_) (fun h3 => ?_)
    · refine e_iconst (v := (1 : Int32)) (dt dk_X10_clear 13 rfl) (by decide) ?_
      refine e_iload_n (dt dk_X10_clear 14 rfl) rfl ?_
      refine e_ishl (dt dk_X10_clear 15 rfl) ?_
      refine e_goto 27 (dt dk_X10_clear 16 rfl) (by decide) ?_
      exact e_forget [true, false, true] [some (.ref 53), none, some (.int v2)] ⟨rfl, rfl⟩ (ev_lb_X10_clear_27 M K4 hK4 v2 ((1 : Int32) <<< (v2 &&& 31)) v1)
    · refine e_iconst (v := (0 : Int32)) (dt dk_X10_clear 17 rfl) (by decide) ?_
      exact e_forget [true, false, true] [some (.ref 53), none, some (.int v2)] ⟨rfl, rfl⟩ (ev_lb_X10_clear_27 M K4 hK4 v2 (0 : Int32) v1)
def lp_X10_clear_4 (M : Mem)  : Nat → Int32 → Int32 → Option Int32
  | 0 => fun _ _ => none
  | n + 1 => bd_X10_clear_4 M (lp_X10_clear_4 M n)
theorem ev_lp_X10_clear_4 (M : Mem)   : ∀ (n : Nat), ∀ (v1 : Int32) (v2 : Int32), Ev none (wR M) RX10 cX10_clear (some .int) 0 4 [some (.ref 53), some (.int v1), some (.int v2)] [] M (lp_X10_clear_4 M n v1 v2)
  | 0 => fun _ _ => e_none
  | n + 1 => ev_bd_X10_clear_4 M (lp_X10_clear_4 M n) (ev_lp_X10_clear_4 M n)
def f_X10_clear  (M : Mem) : Option Int32 :=
  (lp_X10_clear_4 M FU (0 : Int32) (0 : Int32))
set_option maxRecDepth 20000 in
set_option maxHeartbeats 2000000 in
theorem sp_X10_clear  (M : Mem) : SpO (wR M) yX10_clear cX10_clear 3 (some .int) 0 [.ref 53] M (f_X10_clear M) := by
  refine sp_of (L := [some (.ref 53), none, none]) rfl (by decide +kernel) rfl rfl ?_
  unfold f_X10_clear
  refine e_iconst (v := (0 : Int32)) (dt dk_X10_clear 0 rfl) (by decide) ?_
  refine e_istore_n [some (.ref 53), some (.int (0 : Int32)), none] (dt dk_X10_clear 1 rfl) rfl rfl rfl ?_
  refine e_iconst (v := (0 : Int32)) (dt dk_X10_clear 2 rfl) (by decide) ?_
  refine e_istore_n [some (.ref 53), some (.int (0 : Int32)), some (.int (0 : Int32))] (dt dk_X10_clear 3 rfl) rfl rfl rfl ?_
  exact e_forget [true, true, true] [some (.ref 53), some (.int (0 : Int32)), some (.int (0 : Int32))] ⟨rfl, rfl⟩ (ev_lp_X10_clear_4 M FU (0 : Int32) (0 : Int32))
-- X10_less (T, depth 0)
def fo_X10_less (v0 : Int32) (v1 : Int32) : Option Int32 :=
  (if v1 ≤ v0 then some v1 else some v0)
def f_X10_less (v0 : Int32) (v1 : Int32) : Int32 :=
  (if v1 ≤ v0 then v1 else v0)
theorem fe_X10_less (v0 : Int32) (v1 : Int32) : fo_X10_less v0 v1 = some (f_X10_less v0 v1) := by
  unfold fo_X10_less f_X10_less
  simp only [apply_ite some]
set_option maxRecDepth 20000 in
set_option maxHeartbeats 2000000 in
theorem sp_X10_less (v0 : Int32) (v1 : Int32) (M : Mem) : SpO (wR M) yX10_less cX10_less 2 (some .int) 0 [.int v0, .int v1] M (some (f_X10_less v0 v1)) := by
  rw [← fe_X10_less]
  refine sp_of (L := [some (.int v0), some (.int v1)]) rfl (by decide +kernel) rfl rfl ?_
  unfold fo_X10_less
  refine e_iload_n (dt dk_X10_less 0 rfl) rfl ?_
  refine e_iload_n (dt dk_X10_less 1 rfl) rfl ?_
  refine e_icmp_ge 9 (dt dk_X10_less 2 rfl) (by decide) (fun h1 => ?_) (fun h1 => ?_)
  · refine e_iload_n (dt dk_X10_less 5 rfl) rfl ?_
    exact e_iret (dt dk_X10_less 6 rfl) rfl rfl rfl
  · refine e_iload_n (dt dk_X10_less 3 rfl) rfl ?_
    refine e_goto 10 (dt dk_X10_less 4 rfl) (by decide) ?_
    exact e_iret (dt dk_X10_less 6 rfl) rfl rfl rfl
-- X10_has (T, depth 0)
def fo_X10_has (v0 : Int32) (v1 : Int32) : Option Int32 :=
  (if ((v0 >>> (v1 &&& 31)) &&& (1 : Int32)) = (1 : Int32) then some (1 : Int32) else some (0 : Int32))
def f_X10_has (v0 : Int32) (v1 : Int32) : Int32 :=
  (if ((v0 >>> (v1 &&& 31)) &&& (1 : Int32)) = (1 : Int32) then (1 : Int32) else (0 : Int32))
theorem fe_X10_has (v0 : Int32) (v1 : Int32) : fo_X10_has v0 v1 = some (f_X10_has v0 v1) := by
  unfold fo_X10_has f_X10_has
  simp only [apply_ite some]
theorem fb_X10_has (v0 : Int32) (v1 : Int32) : f_X10_has v0 v1 = 0 ∨ f_X10_has v0 v1 = 1 := by
  unfold f_X10_has
  (repeat' split) <;> first | exact Or.inl rfl | exact Or.inr rfl
set_option maxRecDepth 20000 in
set_option maxHeartbeats 2000000 in
theorem sp_X10_has (v0 : Int32) (v1 : Int32) (M : Mem) : SpO (wR M) yX10_has cX10_has 2 (some .boolean) 0 [.int v0, .int v1] M (some (f_X10_has v0 v1)) := by
  rw [← fe_X10_has]
  refine sp_of (L := [some (.int v0), some (.int v1)]) rfl (by decide +kernel) rfl rfl ?_
  unfold fo_X10_has
  refine e_iload_n (dt dk_X10_has 0 rfl) rfl ?_
  refine e_iload_n (dt dk_X10_has 1 rfl) rfl ?_
  refine e_ishr (dt dk_X10_has 2 rfl) ?_
  refine e_iconst (v := (1 : Int32)) (dt dk_X10_has 3 rfl) (by decide) ?_
  refine e_iand (dt dk_X10_has 4 rfl) ?_
  refine e_iconst (v := (1 : Int32)) (dt dk_X10_has 5 rfl) (by decide) ?_
  refine e_icmp_ne 13 (dt dk_X10_has 6 rfl) (by decide) (fun h1 => ?_) (fun h1 => ?_)
  · refine e_iconst (v := (1 : Int32)) (dt dk_X10_has 7 rfl) (by decide) ?_
    refine e_goto 14 (dt dk_X10_has 8 rfl) (by decide) ?_
    exact e_iret (dt dk_X10_has 10 rfl) rfl rfl rfl
  · refine e_iconst (v := (0 : Int32)) (dt dk_X10_has 9 rfl) (by decide) ?_
    exact e_iret (dt dk_X10_has 10 rfl) rfl rfl rfl
-- X10_grown (T, depth 1)
def fo_X10_grown (v0 : Int32) (v1 : Int32) : Option Int32 :=
  some (f_X10_less (99 : Int32) (v0 + (f_X10_less v0 v1)))
def f_X10_grown (v0 : Int32) (v1 : Int32) : Int32 :=
  (f_X10_less (99 : Int32) (v0 + (f_X10_less v0 v1)))
theorem fe_X10_grown (v0 : Int32) (v1 : Int32) : fo_X10_grown v0 v1 = some (f_X10_grown v0 v1) := by
  unfold fo_X10_grown f_X10_grown
  simp only [apply_ite some]
set_option maxRecDepth 20000 in
set_option maxHeartbeats 2000000 in
theorem sp_X10_grown (v0 : Int32) (v1 : Int32) (M : Mem) : SpO (wR M) yX10_grown cX10_grown 2 (some .int) 1 [.int v0, .int v1] M (some (f_X10_grown v0 v1)) := by
  rw [← fe_X10_grown]
  refine sp_of (L := [some (.int v0), some (.int v1)]) rfl (by decide +kernel) rfl rfl ?_
  unfold fo_X10_grown
  refine e_bipush (v := (99 : Int32)) (dt dk_X10_grown 0 rfl) (by decide) ?_
  refine e_iload_n (dt dk_X10_grown 1 rfl) rfl ?_
  refine e_iload_n (dt dk_X10_grown 2 rfl) rfl ?_
  refine e_iload_n (dt dk_X10_grown 3 rfl) rfl ?_
  refine ev_callT (ca_S ms_X10_less (sp_X10_less v0 v1 M) (dt dk_X10_grown 4 rfl) ml_X10_137 rfl rfl rfl (by decide) : Ca _ _ _ _ _ _ _ _ [.int v0, .int (99 : Int32)] _ _) ?_
  show Ev _ _ _ _ _ _ 8 [some (.int v0), some (.int v1)] [.int (f_X10_less v0 v1), .int v0, .int (99 : Int32)] M _
  refine e_iadd (dt dk_X10_grown 5 rfl) ?_
  refine ev_callT (ca_S ms_X10_less (sp_X10_less (99 : Int32) (v0 + (f_X10_less v0 v1)) M) (dt dk_X10_grown 6 rfl) ml_X10_137 rfl rfl rfl (by decide) : Ca _ _ _ _ _ _ _ _ [] _ _) ?_
  show Ev _ _ _ _ _ _ 12 [some (.int v0), some (.int v1)] [.int (f_X10_less (99 : Int32) (v0 + (f_X10_less v0 v1)))] M _
  exact e_iret (dt dk_X10_grown 7 rfl) rfl rfl rfl
-- X10_breed (W, depth 2)
def bd_X10_breed_2  (K2 : Int32 → Mem → Option Mem) (v1 : Int32) (M : Mem) : Option Mem :=
  (if (8 : Int32) ≤ v1 then some M else if inb v1 8 then if inb v1 8 then if inb v1 8 then if inb v1 8 then (K2 (v1 + (1 : Int32)) (up2 (up2 (up2 M 54 (ix v1) ((f_X10_grown (M 54 (ix v1)) (M 55 (ix v1))) - (f_X10_less (f_X10_grown (M 54 (ix v1)) (M 55 (ix v1))) (M 56 (ix v1))))) 53 6 ((M 53 6) + (f_X10_less (f_X10_grown (M 54 (ix v1)) (M 55 (ix v1))) (M 56 (ix v1))))) 53 17 ((M 53 17) + (f_X10_less (f_X10_grown (M 54 (ix v1)) (M 55 (ix v1))) (M 56 (ix v1)))))) else none else none else none else none)
set_option maxRecDepth 20000 in
set_option maxHeartbeats 2000000 in
theorem ev_bd_X10_breed_2  (K2 : Int32 → Mem → Option Mem)  (hK2 : ∀ (v1 : Int32) (M : Mem), Ev none wV RX10 cX10_breed none 2 2 [some (.ref 53), some (.int v1), none, none] [] M (K2 v1 M)) (v1 : Int32) (M : Mem) : Ev none wV RX10 cX10_breed none 2 2 [some (.ref 53), some (.int v1), none, none] [] M (bd_X10_breed_2 K2 v1 M) := by
  unfold bd_X10_breed_2
  refine e_iload_n (dt dk_X10_breed 2 rfl) rfl ?_
  refine e_bipush (v := (8 : Int32)) (dt dk_X10_breed 3 rfl) (by decide) ?_
  refine e_icmp_ge 70 (dt dk_X10_breed 4 rfl) (by decide) (fun h1 => ?_) (fun h1 => ?_)
  · exact e_vret (dt dk_X10_breed 43 rfl) rfl rfl
  · refine e_aload_n (dt dk_X10_breed 5 rfl) rfl ?_
    refine e_getR ci_X10 (dt dk_X10_breed 6 rfl) rfl (by decide) rfl fl_X10_7 ?_
    refine e_iload_n (dt dk_X10_breed 7 rfl) rfl ?_
    refine e_if (fun h2 => ?_)
    refine e_iald' (v := (M 54 (ix v1))) (dt dk_X10_breed 8 rfl) rfl h2 rfl ?_
    refine e_aload_n (dt dk_X10_breed 9 rfl) rfl ?_
    refine e_getR ci_X10 (dt dk_X10_breed 10 rfl) rfl (by decide) rfl fl_X10_13 ?_
    refine e_iload_n (dt dk_X10_breed 11 rfl) rfl ?_
    refine e_if (fun h3 => ?_)
    refine e_iald' (v := (M 55 (ix v1))) (dt dk_X10_breed 12 rfl) rfl h3 rfl ?_
    refine ev_callT (ca_S ms_X10_grown (sp_X10_grown (M 54 (ix v1)) (M 55 (ix v1)) M) (dt dk_X10_breed 13 rfl) ml_X10_140 rfl rfl rfl (by decide) : Ca _ _ _ _ _ _ _ _ [] _ _) ?_
    show Ev _ _ _ _ _ _ 23 [some (.ref 53), some (.int v1), none, none] [.int (f_X10_grown (M 54 (ix v1)) (M 55 (ix v1)))] M _
    refine e_istore_n [some (.ref 53), some (.int v1), some (.int (f_X10_grown (M 54 (ix v1)) (M 55 (ix v1)))), none] (dt dk_X10_breed 14 rfl) rfl rfl rfl ?_
    refine e_iload_n (dt dk_X10_breed 15 rfl) rfl ?_
    refine e_aload_n (dt dk_X10_breed 16 rfl) rfl ?_
    refine e_getR ci_X10 (dt dk_X10_breed 17 rfl) rfl (by decide) rfl fl_X10_16 ?_
    refine e_iload_n (dt dk_X10_breed 18 rfl) rfl ?_
    refine e_if (fun h4 => ?_)
    refine e_iald' (v := (M 56 (ix v1))) (dt dk_X10_breed 19 rfl) rfl h4 rfl ?_
    refine ev_callT (ca_S ms_X10_less (sp_X10_less (f_X10_grown (M 54 (ix v1)) (M 55 (ix v1))) (M 56 (ix v1)) M) (dt dk_X10_breed 20 rfl) ml_X10_137 rfl rfl rfl (by decide) : Ca _ _ _ _ _ _ _ _ [] _ _) ?_
    show Ev _ _ _ _ _ _ 34 [some (.ref 53), some (.int v1), some (.int (f_X10_grown (M 54 (ix v1)) (M 55 (ix v1)))), none] [.int (f_X10_less (f_X10_grown (M 54 (ix v1)) (M 55 (ix v1))) (M 56 (ix v1)))] M _
    refine e_istore_n [some (.ref 53), some (.int v1), some (.int (f_X10_grown (M 54 (ix v1)) (M 55 (ix v1)))), some (.int (f_X10_less (f_X10_grown (M 54 (ix v1)) (M 55 (ix v1))) (M 56 (ix v1))))] (dt dk_X10_breed 21 rfl) rfl rfl rfl ?_
    refine e_aload_n (dt dk_X10_breed 22 rfl) rfl ?_
    refine e_getR ci_X10 (dt dk_X10_breed 23 rfl) rfl (by decide) rfl fl_X10_7 ?_
    refine e_iload_n (dt dk_X10_breed 24 rfl) rfl ?_
    refine e_iload_n (dt dk_X10_breed 25 rfl) rfl ?_
    refine e_iload_n (dt dk_X10_breed 26 rfl) rfl ?_
    refine e_isub (dt dk_X10_breed 27 rfl) ?_
    refine e_if (fun h5 => ?_)
    refine e_iast' (dt dk_X10_breed 28 rfl) rfl h5 ?_
    refine e_aload_n (dt dk_X10_breed 29 rfl) rfl ?_
    refine e_dup (dt dk_X10_breed 30 rfl) rfl ?_
    refine e_getI (v := (M 53 6)) ci_X10 (dt dk_X10_breed 31 rfl) rfl (by decide) rfl fl_X10_143 rfl ?_
    refine e_iload_n (dt dk_X10_breed 32 rfl) rfl ?_
    refine e_iadd (dt dk_X10_breed 33 rfl) ?_
    refine e_putI (ty := .int) ci_X10 (dt dk_X10_breed 34 rfl) rfl (by decide) rfl fl_X10_143 rfl (by decide +kernel) rfl rfl ?_
    refine e_aload_n (dt dk_X10_breed 35 rfl) rfl ?_
    refine e_dup (dt dk_X10_breed 36 rfl) rfl ?_
    refine e_getI (v := (M 53 17)) ci_X10 (dt dk_X10_breed 37 rfl) rfl (by decide) rfl fl_X10_146 rfl ?_
    refine e_iload_n (dt dk_X10_breed 38 rfl) rfl ?_
    refine e_iadd (dt dk_X10_breed 39 rfl) ?_
    refine e_putI (ty := .int) ci_X10 (dt dk_X10_breed 40 rfl) rfl (by decide) rfl fl_X10_146 rfl (by decide +kernel) rfl rfl ?_
    refine e_iinc [some (.ref 53), some (.int (v1 + (1 : Int32))), some (.int (f_X10_grown (M 54 (ix v1)) (M 55 (ix v1)))), some (.int (f_X10_less (f_X10_grown (M 54 (ix v1)) (M 55 (ix v1))) (M 56 (ix v1))))] (dt dk_X10_breed 41 rfl) rfl rfl rfl rfl ?_
    refine e_goto 2 (dt dk_X10_breed 42 rfl) (by decide) ?_
    exact e_forget [true, true, false, false] [some (.ref 53), some (.int (v1 + (1 : Int32))), none, none] ⟨rfl, rfl⟩ (hK2 (v1 + (1 : Int32)) (up2 (up2 (up2 M 54 (ix v1) ((f_X10_grown (M 54 (ix v1)) (M 55 (ix v1))) - (f_X10_less (f_X10_grown (M 54 (ix v1)) (M 55 (ix v1))) (M 56 (ix v1))))) 53 6 ((M 53 6) + (f_X10_less (f_X10_grown (M 54 (ix v1)) (M 55 (ix v1))) (M 56 (ix v1))))) 53 17 ((M 53 17) + (f_X10_less (f_X10_grown (M 54 (ix v1)) (M 55 (ix v1))) (M 56 (ix v1))))))
def lp_X10_breed_2  : Nat → Int32 → Mem → Option Mem
  | 0 => fun _ _ => none
  | n + 1 => bd_X10_breed_2 (lp_X10_breed_2 n)
theorem ev_lp_X10_breed_2   : ∀ (n : Nat), ∀ (v1 : Int32) (M : Mem), Ev none wV RX10 cX10_breed none 2 2 [some (.ref 53), some (.int v1), none, none] [] M (lp_X10_breed_2 n v1 M)
  | 0 => fun _ _ => e_none
  | n + 1 => ev_bd_X10_breed_2 (lp_X10_breed_2 n) (ev_lp_X10_breed_2 n)
def f_X10_breed  (M : Mem) : Option Mem :=
  (lp_X10_breed_2 FU (0 : Int32) M)
set_option maxRecDepth 20000 in
set_option maxHeartbeats 2000000 in
theorem sp_X10_breed  (M : Mem) : SpO wV yX10_breed cX10_breed 4 none 2 [.ref 53] M (f_X10_breed M) := by
  refine sp_of (L := [some (.ref 53), none, none, none]) rfl (by decide +kernel) rfl rfl ?_
  unfold f_X10_breed
  refine e_iconst (v := (0 : Int32)) (dt dk_X10_breed 0 rfl) (by decide) ?_
  refine e_istore_n [some (.ref 53), some (.int (0 : Int32)), none, none] (dt dk_X10_breed 1 rfl) rfl rfl rfl ?_
  exact e_forget [true, true, false, false] [some (.ref 53), some (.int (0 : Int32)), none, none] ⟨rfl, rfl⟩ (ev_lp_X10_breed_2 FU (0 : Int32) M)
-- X10_goal (R, depth 1)
def lb_X10_goal_46 (M : Mem) (K6 : Int32 → Int32 → Int32 → Option Int32) (v1 : Int32) (v2 : Int32) (v3 : Int32) : Option Int32 :=
  (K6 v1 v2 (v3 + (-1 : Int32)))
set_option maxRecDepth 20000 in
set_option maxHeartbeats 2000000 in
theorem ev_lb_X10_goal_46 (M : Mem) (K6 : Int32 → Int32 → Int32 → Option Int32) (hK6 : ∀ (v1 : Int32) (v2 : Int32) (v3 : Int32), Ev none (wR M) RX10 cX10_goal (some .int) 1 6 [some (.ref 53), some (.int v1), some (.int v2), some (.int v3)] [] M (K6 v1 v2 v3)) (v1 : Int32) (v2 : Int32) (v3 : Int32) : Ev none (wR M) RX10 cX10_goal (some .int) 1 46 [some (.ref 53), some (.int v1), some (.int v2), some (.int v3)] [] M (lb_X10_goal_46 M K6 v1 v2 v3) := by
  unfold lb_X10_goal_46
  refine e_iload_n (dt dk_X10_goal 26 rfl) rfl ?_
  refine e_istore_n [some (.ref 53), some (.int v1), some (.int v2), some (.int v3)] (dt dk_X10_goal 27 rfl) rfl rfl rfl ?_
  refine e_iinc [some (.ref 53), some (.int v1), some (.int v2), some (.int (v3 + (-1 : Int32)))] (dt dk_X10_goal 28 rfl) rfl rfl rfl rfl ?_
  refine e_goto 6 (dt dk_X10_goal 29 rfl) (by decide) ?_
  exact e_forget [true, true, true, true] [some (.ref 53), some (.int v1), some (.int v2), some (.int (v3 + (-1 : Int32)))] ⟨rfl, rfl⟩ (hK6 v1 v2 (v3 + (-1 : Int32)))
def bd_X10_goal_6 (M : Mem)  (K6 : Int32 → Int32 → Int32 → Option Int32) (v1 : Int32) (v2 : Int32) (v3 : Int32) : Option Int32 :=
  (if v3 < 0 then some v2 else if inb v1 8 then (if (f_X10_has (M 58 (ix v1)) v3) = 0 then (lb_X10_goal_46 M K6 v1 v2 v3) else (if v2 < 0 then (K6 v1 v3 (v3 + (-1 : Int32))) else if inb v3 8 then if inb v2 8 then (if (M 54 (ix v2)) < (M 54 (ix v3)) then (lb_X10_goal_46 M K6 v1 v2 v3) else (K6 v1 v3 (v3 + (-1 : Int32)))) else none else none)) else none)
set_option maxRecDepth 20000 in
set_option maxHeartbeats 2000000 in
theorem ev_bd_X10_goal_6 (M : Mem)  (K6 : Int32 → Int32 → Int32 → Option Int32)  (hK6 : ∀ (v1 : Int32) (v2 : Int32) (v3 : Int32), Ev none (wR M) RX10 cX10_goal (some .int) 1 6 [some (.ref 53), some (.int v1), some (.int v2), some (.int v3)] [] M (K6 v1 v2 v3)) (v1 : Int32) (v2 : Int32) (v3 : Int32) : Ev none (wR M) RX10 cX10_goal (some .int) 1 6 [some (.ref 53), some (.int v1), some (.int v2), some (.int v3)] [] M (bd_X10_goal_6 M K6 v1 v2 v3) := by
  unfold bd_X10_goal_6
  refine e_iload_n (dt dk_X10_goal 4 rfl) rfl ?_
  refine e_if_lt 54 (dt dk_X10_goal 5 rfl) (by decide) (fun h1 => ?_) (fun h1 => ?_)
  · refine e_iload_n (dt dk_X10_goal 30 rfl) rfl ?_
    exact e_iret (dt dk_X10_goal 31 rfl) rfl rfl rfl
  · refine e_aload_n (dt dk_X10_goal 6 rfl) rfl ?_
    refine e_getR ci_X10 (dt dk_X10_goal 7 rfl) rfl (by decide) rfl fl_X10_22 ?_
    refine e_iload_n (dt dk_X10_goal 8 rfl) rfl ?_
    refine e_if (fun h2 => ?_)
    refine e_iald' (v := (M 58 (ix v1))) (dt dk_X10_goal 9 rfl) rfl h2 rfl ?_
    refine e_iload_n (dt dk_X10_goal 10 rfl) rfl ?_
    refine ev_callT (ca_S ms_X10_has (sp_X10_has (M 58 (ix v1)) v3 M) (dt dk_X10_goal 11 rfl) ml_X10_149 rfl rfl rfl (by decide) : Ca _ _ _ _ _ _ _ _ [] _ _) ?_
    show Ev _ _ _ _ _ _ 20 [some (.ref 53), some (.int v1), some (.int v2), some (.int v3)] [.int (f_X10_has (M 58 (ix v1)) v3)] M _
    refine e_if_eq 46 (dt dk_X10_goal 12 rfl) (by decide) (fun h3 => ?_) (fun h3 => ?_)
    · exact e_forget [true, true, true, true] [some (.ref 53), some (.int v1), some (.int v2), some (.int v3)] ⟨rfl, rfl⟩ (ev_lb_X10_goal_46 M K6 hK6 v1 v2 v3)
    · refine e_iload_n (dt dk_X10_goal 13 rfl) rfl ?_
      refine e_if_lt 42 (dt dk_X10_goal 14 rfl) (by decide) (fun h4 => ?_) (fun h4 => ?_)
      · refine e_iload_n (dt dk_X10_goal 24 rfl) rfl ?_
        refine e_goto 47 (dt dk_X10_goal 25 rfl) (by decide) ?_
        refine e_istore_n [some (.ref 53), some (.int v1), some (.int v3), some (.int v3)] (dt dk_X10_goal 27 rfl) rfl rfl rfl ?_
        refine e_iinc [some (.ref 53), some (.int v1), some (.int v3), some (.int (v3 + (-1 : Int32)))] (dt dk_X10_goal 28 rfl) rfl rfl rfl rfl ?_
        refine e_goto 6 (dt dk_X10_goal 29 rfl) (by decide) ?_
        exact e_forget [true, true, true, true] [some (.ref 53), some (.int v1), some (.int v3), some (.int (v3 + (-1 : Int32)))] ⟨rfl, rfl⟩ (hK6 v1 v3 (v3 + (-1 : Int32)))
      · refine e_aload_n (dt dk_X10_goal 15 rfl) rfl ?_
        refine e_getR ci_X10 (dt dk_X10_goal 16 rfl) rfl (by decide) rfl fl_X10_7 ?_
        refine e_iload_n (dt dk_X10_goal 17 rfl) rfl ?_
        refine e_if (fun h5 => ?_)
        refine e_iald' (v := (M 54 (ix v3))) (dt dk_X10_goal 18 rfl) rfl h5 rfl ?_
        refine e_aload_n (dt dk_X10_goal 19 rfl) rfl ?_
        refine e_getR ci_X10 (dt dk_X10_goal 20 rfl) rfl (by decide) rfl fl_X10_7 ?_
        refine e_iload_n (dt dk_X10_goal 21 rfl) rfl ?_
        refine e_if (fun h6 => ?_)
        refine e_iald' (v := (M 54 (ix v2))) (dt dk_X10_goal 22 rfl) rfl h6 rfl ?_
        refine e_icmp_gt 46 (dt dk_X10_goal 23 rfl) (by decide) (fun h7 => ?_) (fun h7 => ?_)
        · exact e_forget [true, true, true, true] [some (.ref 53), some (.int v1), some (.int v2), some (.int v3)] ⟨rfl, rfl⟩ (ev_lb_X10_goal_46 M K6 hK6 v1 v2 v3)
        · refine e_iload_n (dt dk_X10_goal 24 rfl) rfl ?_
          refine e_goto 47 (dt dk_X10_goal 25 rfl) (by decide) ?_
          refine e_istore_n [some (.ref 53), some (.int v1), some (.int v3), some (.int v3)] (dt dk_X10_goal 27 rfl) rfl rfl rfl ?_
          refine e_iinc [some (.ref 53), some (.int v1), some (.int v3), some (.int (v3 + (-1 : Int32)))] (dt dk_X10_goal 28 rfl) rfl rfl rfl rfl ?_
          refine e_goto 6 (dt dk_X10_goal 29 rfl) (by decide) ?_
          exact e_forget [true, true, true, true] [some (.ref 53), some (.int v1), some (.int v3), some (.int (v3 + (-1 : Int32)))] ⟨rfl, rfl⟩ (hK6 v1 v3 (v3 + (-1 : Int32)))
def lp_X10_goal_6 (M : Mem)  : Nat → Int32 → Int32 → Int32 → Option Int32
  | 0 => fun _ _ _ => none
  | n + 1 => bd_X10_goal_6 M (lp_X10_goal_6 M n)
theorem ev_lp_X10_goal_6 (M : Mem)   : ∀ (n : Nat), ∀ (v1 : Int32) (v2 : Int32) (v3 : Int32), Ev none (wR M) RX10 cX10_goal (some .int) 1 6 [some (.ref 53), some (.int v1), some (.int v2), some (.int v3)] [] M (lp_X10_goal_6 M n v1 v2 v3)
  | 0 => fun _ _ _ => e_none
  | n + 1 => ev_bd_X10_goal_6 M (lp_X10_goal_6 M n) (ev_lp_X10_goal_6 M n)
def f_X10_goal (v1 : Int32) (M : Mem) : Option Int32 :=
  (lp_X10_goal_6 M FU v1 (-6 : Int32) (7 : Int32))
set_option maxRecDepth 20000 in
set_option maxHeartbeats 2000000 in
theorem sp_X10_goal (v1 : Int32) (M : Mem) : SpO (wR M) yX10_goal cX10_goal 4 (some .int) 1 [.ref 53, .int v1] M (f_X10_goal v1 M) := by
  refine sp_of (L := [some (.ref 53), some (.int v1), none, none]) rfl (by decide +kernel) rfl rfl ?_
  unfold f_X10_goal
  refine e_bipush (v := (-6 : Int32)) (dt dk_X10_goal 0 rfl) (by decide) ?_
  refine e_istore_n [some (.ref 53), some (.int v1), some (.int (-6 : Int32)), none] (dt dk_X10_goal 1 rfl) rfl rfl rfl ?_
  refine e_bipush (v := (7 : Int32)) (dt dk_X10_goal 2 rfl) (by decide) ?_
  refine e_istore_n [some (.ref 53), some (.int v1), some (.int (-6 : Int32)), some (.int (7 : Int32))] (dt dk_X10_goal 3 rfl) rfl rfl rfl ?_
  exact e_forget [true, true, true, true] [some (.ref 53), some (.int v1), some (.int (-6 : Int32)), some (.int (7 : Int32))] ⟨rfl, rfl⟩ (ev_lp_X10_goal_6 M FU v1 (-6 : Int32) (7 : Int32))
-- X10_go (W, depth 2)
def bd_X10_go_106  (K106 : Int32 → Mem → Option Mem) (v1 : Int32) (M : Mem) : Option Mem :=
  (if (8 : Int32) ≤ v1 then some M else if inb v1 8 then if inb v1 8 then if inb v1 8 then if inb v1 8 then (if (M 57 (ix v1)) ≤ 0 then if inb v1 8 then (K106 (v1 + (1 : Int32)) (up2 (up2 M 54 (ix v1) (f_X10_less (99 : Int32) ((M 54 (ix v1)) + (M 65 (ix v1))))) 57 (ix v1) (0 : Int32))) else none else if inb v1 8 then if inb v1 8 then (K106 (v1 + (1 : Int32)) (up2 (up2 M 54 (ix v1) (f_X10_less (99 : Int32) ((M 54 (ix v1)) + (M 65 (ix v1))))) 57 (ix v1) ((M 57 (ix v1)) - (1 : Int32)))) else none else none) else none else none else none else none)
set_option maxRecDepth 20000 in
set_option maxHeartbeats 2000000 in
theorem ev_bd_X10_go_106  (K106 : Int32 → Mem → Option Mem)  (hK106 : ∀ (v1 : Int32) (M : Mem), Ev none wV RX10 cX10_go none 2 106 [some (.ref 53), some (.int v1), none, none] [] M (K106 v1 M)) (v1 : Int32) (M : Mem) : Ev none wV RX10 cX10_go none 2 106 [some (.ref 53), some (.int v1), none, none] [] M (bd_X10_go_106 K106 v1 M) := by
  unfold bd_X10_go_106
  refine e_iload_n (dt dk_X10_go 65 rfl) rfl ?_
  refine e_bipush (v := (8 : Int32)) (dt dk_X10_go 66 rfl) (by decide) ?_
  refine e_icmp_ge 169 (dt dk_X10_go 67 rfl) (by decide) (fun h3 => ?_) (fun h3 => ?_)
  · exact e_vret (dt dk_X10_go 102 rfl) rfl rfl
  · refine e_aload_n (dt dk_X10_go 68 rfl) rfl ?_
    refine e_getR ci_X10 (dt dk_X10_go 69 rfl) rfl (by decide) rfl fl_X10_7 ?_
    refine e_iload_n (dt dk_X10_go 70 rfl) rfl ?_
    refine e_bipush (v := (99 : Int32)) (dt dk_X10_go 71 rfl) (by decide) ?_
    refine e_aload_n (dt dk_X10_go 72 rfl) rfl ?_
    refine e_getR ci_X10 (dt dk_X10_go 73 rfl) rfl (by decide) rfl fl_X10_7 ?_
    refine e_iload_n (dt dk_X10_go 74 rfl) rfl ?_
    refine e_if (fun h4 => ?_)
    refine e_iald' (v := (M 54 (ix v1))) (dt dk_X10_go 75 rfl) rfl h4 rfl ?_
    refine e_aload_n (dt dk_X10_go 76 rfl) rfl ?_
    refine e_getR ci_X10 (dt dk_X10_go 77 rfl) rfl (by decide) rfl fl_X10_43 ?_
    refine e_iload_n (dt dk_X10_go 78 rfl) rfl ?_
    refine e_if (fun h5 => ?_)
    refine e_iald' (v := (M 65 (ix v1))) (dt dk_X10_go 79 rfl) rfl h5 rfl ?_
    refine e_iadd (dt dk_X10_go 80 rfl) ?_
    refine ev_callT (ca_S ms_X10_less (sp_X10_less (99 : Int32) ((M 54 (ix v1)) + (M 65 (ix v1))) M) (dt dk_X10_go 81 rfl) ml_X10_137 rfl rfl rfl (by decide) : Ca _ _ _ _ _ _ _ _ [.int v1, .ref 54] _ _) ?_
    show Ev _ _ _ _ _ _ 135 [some (.ref 53), some (.int v1), none, none] [.int (f_X10_less (99 : Int32) ((M 54 (ix v1)) + (M 65 (ix v1)))), .int v1, .ref 54] M _
    refine e_if (fun h6 => ?_)
    refine e_iast' (dt dk_X10_go 82 rfl) rfl h6 ?_
    refine e_aload_n (dt dk_X10_go 83 rfl) rfl ?_
    refine e_getR ci_X10 (dt dk_X10_go 84 rfl) rfl (by decide) rfl fl_X10_19 ?_
    refine e_iload_n (dt dk_X10_go 85 rfl) rfl ?_
    refine e_aload_n (dt dk_X10_go 86 rfl) rfl ?_
    refine e_getR ci_X10 (dt dk_X10_go 87 rfl) rfl (by decide) rfl fl_X10_19 ?_
    refine e_iload_n (dt dk_X10_go 88 rfl) rfl ?_
    refine e_if (fun h7 => ?_)
    refine e_iald' (v := (M 57 (ix v1))) (dt dk_X10_go 89 rfl) rfl h7 rfl ?_
    refine e_if_le 161 (dt dk_X10_go 90 rfl) (by decide) (fun h8 => ?_) (fun h8 => ?_)
    · refine e_iconst (v := (0 : Int32)) (dt dk_X10_go 98 rfl) (by decide) ?_
      refine e_if (fun h9 => ?_)
      refine e_iast' (dt dk_X10_go 99 rfl) rfl h9 ?_
      refine e_iinc [some (.ref 53), some (.int (v1 + (1 : Int32))), none, none] (dt dk_X10_go 100 rfl) rfl rfl rfl rfl ?_
      refine e_goto 106 (dt dk_X10_go 101 rfl) (by decide) ?_
      exact e_forget [true, true, false, false] [some (.ref 53), some (.int (v1 + (1 : Int32))), none, none] ⟨rfl, rfl⟩ (hK106 (v1 + (1 : Int32)) (up2 (up2 M 54 (ix v1) (f_X10_less (99 : Int32) ((M 54 (ix v1)) + (M 65 (ix v1))))) 57 (ix v1) (0 : Int32)))
    · refine e_aload_n (dt dk_X10_go 91 rfl) rfl ?_
      refine e_getR ci_X10 (dt dk_X10_go 92 rfl) rfl (by decide) rfl fl_X10_19 ?_
      refine e_iload_n (dt dk_X10_go 93 rfl) rfl ?_
      refine e_if (fun h10 => ?_)
      refine e_iald' (v := (M 57 (ix v1))) (dt dk_X10_go 94 rfl) rfl h10 rfl ?_
      refine e_iconst (v := (1 : Int32)) (dt dk_X10_go 95 rfl) (by decide) ?_
      refine e_isub (dt dk_X10_go 96 rfl) ?_
      refine e_goto 162 (dt dk_X10_go 97 rfl) (by decide) ?_
      refine e_if (fun h11 => ?_)
      refine e_iast' (dt dk_X10_go 99 rfl) rfl h11 ?_
      refine e_iinc [some (.ref 53), some (.int (v1 + (1 : Int32))), none, none] (dt dk_X10_go 100 rfl) rfl rfl rfl rfl ?_
      refine e_goto 106 (dt dk_X10_go 101 rfl) (by decide) ?_
      exact e_forget [true, true, false, false] [some (.ref 53), some (.int (v1 + (1 : Int32))), none, none] ⟨rfl, rfl⟩ (hK106 (v1 + (1 : Int32)) (up2 (up2 M 54 (ix v1) (f_X10_less (99 : Int32) ((M 54 (ix v1)) + (M 65 (ix v1))))) 57 (ix v1) ((M 57 (ix v1)) - (1 : Int32))))
def lp_X10_go_106  : Nat → Int32 → Mem → Option Mem
  | 0 => fun _ _ => none
  | n + 1 => bd_X10_go_106 (lp_X10_go_106 n)
theorem ev_lp_X10_go_106   : ∀ (n : Nat), ∀ (v1 : Int32) (M : Mem), Ev none wV RX10 cX10_go none 2 106 [some (.ref 53), some (.int v1), none, none] [] M (lp_X10_go_106 n v1 M)
  | 0 => fun _ _ => e_none
  | n + 1 => ev_bd_X10_go_106 (lp_X10_go_106 n) (ev_lp_X10_go_106 n)
def lb_X10_go_63 (K23 : Int32 → Mem → Option Mem) (v1 : Int32) (s0 : Int32) (M : Mem) : Option Mem :=
  ((f_X10_goal v1 M)).bind fun r14 => (if s0 = 0 then (K23 (v1 + (1 : Int32)) M) else (if r14 < 0 then (K23 (v1 + (1 : Int32)) M) else if inb v1 8 then if inb v1 8 then if inb r14 8 then if inb r14 8 then (K23 (v1 + (1 : Int32)) (up2 (up2 M 65 (ix v1) ((M 65 (ix v1)) - (1 : Int32))) 65 (ix r14) (((up2 M 65 (ix v1) ((M 65 (ix v1)) - (1 : Int32))) 65 (ix r14)) + (1 : Int32)))) else none else none else none else none))
set_option maxRecDepth 20000 in
set_option maxHeartbeats 2000000 in
theorem ev_lb_X10_go_63 (K23 : Int32 → Mem → Option Mem) (hK23 : ∀ (v1 : Int32) (M : Mem), Ev none wV RX10 cX10_go none 2 23 [some (.ref 53), some (.int v1), none, none] [] M (K23 v1 M)) (v1 : Int32) (s0 : Int32) (M : Mem) : Ev none wV RX10 cX10_go none 2 63 [some (.ref 53), some (.int v1), none, none] [.int s0] M (lb_X10_go_63 K23 v1 s0 M) := by
  unfold lb_X10_go_63
  refine e_istore_n [some (.ref 53), some (.int v1), some (.int s0), none] (dt dk_X10_go 36 rfl) rfl rfl rfl ?_
  refine e_aload_n (dt dk_X10_go 37 rfl) rfl ?_
  refine e_iload_n (dt dk_X10_go 38 rfl) rfl ?_
  refine ev_call (ca_V (k := 53) mv_X10_goal (sp_X10_goal v1 M) (dt dk_X10_go 39 rfl) ml_X10_153 rfl rfl rfl rfl rfl (by decide) : Ca _ _ _ _ _ _ _ _ [] _ _) (fun r14 hr14 => ?_)
  show Ev _ _ _ _ _ _ 69 [some (.ref 53), some (.int v1), some (.int s0), none] [.int r14] M _
  refine e_istore_n [some (.ref 53), some (.int v1), some (.int s0), some (.int r14)] (dt dk_X10_go 40 rfl) rfl rfl rfl ?_
  refine e_iload_n (dt dk_X10_go 41 rfl) rfl ?_
  refine e_if_eq 98 (dt dk_X10_go 42 rfl) (by decide) (fun h15 => ?_) (fun h15 => ?_)
  · refine e_iinc [some (.ref 53), some (.int (v1 + (1 : Int32))), some (.int s0), some (.int r14)] (dt dk_X10_go 61 rfl) rfl rfl rfl rfl ?_
    refine e_goto 23 (dt dk_X10_go 62 rfl) (by decide) ?_
    exact e_forget [true, true, false, false] [some (.ref 53), some (.int (v1 + (1 : Int32))), none, none] ⟨rfl, rfl⟩ (hK23 (v1 + (1 : Int32)) M)
  · refine e_iload_n (dt dk_X10_go 43 rfl) rfl ?_
    refine e_if_lt 98 (dt dk_X10_go 44 rfl) (by decide) (fun h16 => ?_) (fun h16 => ?_)
    · refine e_iinc [some (.ref 53), some (.int (v1 + (1 : Int32))), some (.int s0), some (.int r14)] (dt dk_X10_go 61 rfl) rfl rfl rfl rfl ?_
      refine e_goto 23 (dt dk_X10_go 62 rfl) (by decide) ?_
      exact e_forget [true, true, false, false] [some (.ref 53), some (.int (v1 + (1 : Int32))), none, none] ⟨rfl, rfl⟩ (hK23 (v1 + (1 : Int32)) M)
    · refine e_aload_n (dt dk_X10_go 45 rfl) rfl ?_
      refine e_getR ci_X10 (dt dk_X10_go 46 rfl) rfl (by decide) rfl fl_X10_43 ?_
      refine e_iload_n (dt dk_X10_go 47 rfl) rfl ?_
      refine e_dup2 (dt dk_X10_go 48 rfl) rfl rfl ?_
      refine e_if (fun h17 => ?_)
      refine e_iald' (v := (M 65 (ix v1))) (dt dk_X10_go 49 rfl) rfl h17 rfl ?_
      refine e_iconst (v := (1 : Int32)) (dt dk_X10_go 50 rfl) (by decide) ?_
      refine e_isub (dt dk_X10_go 51 rfl) ?_
      refine e_if (fun h18 => ?_)
      refine e_iast' (dt dk_X10_go 52 rfl) rfl h18 ?_
      refine e_aload_n (dt dk_X10_go 53 rfl) rfl ?_
      refine e_getR ci_X10 (dt dk_X10_go 54 rfl) rfl (by decide) rfl fl_X10_43 ?_
      refine e_iload_n (dt dk_X10_go 55 rfl) rfl ?_
      refine e_dup2 (dt dk_X10_go 56 rfl) rfl rfl ?_
      refine e_if (fun h19 => ?_)
      refine e_iald' (v := ((up2 M 65 (ix v1) ((M 65 (ix v1)) - (1 : Int32))) 65 (ix r14))) (dt dk_X10_go 57 rfl) rfl h19 rfl ?_
      refine e_iconst (v := (1 : Int32)) (dt dk_X10_go 58 rfl) (by decide) ?_
      refine e_iadd (dt dk_X10_go 59 rfl) ?_
      refine e_if (fun h20 => ?_)
      refine e_iast' (dt dk_X10_go 60 rfl) rfl h20 ?_
      refine e_iinc [some (.ref 53), some (.int (v1 + (1 : Int32))), some (.int s0), some (.int r14)] (dt dk_X10_go 61 rfl) rfl rfl rfl rfl ?_
      refine e_goto 23 (dt dk_X10_go 62 rfl) (by decide) ?_
      exact e_forget [true, true, false, false] [some (.ref 53), some (.int (v1 + (1 : Int32))), none, none] ⟨rfl, rfl⟩ (hK23 (v1 + (1 : Int32)) (up2 (up2 M 65 (ix v1) ((M 65 (ix v1)) - (1 : Int32))) 65 (ix r14) (((up2 M 65 (ix v1) ((M 65 (ix v1)) - (1 : Int32))) 65 (ix r14)) + (1 : Int32))))
def lb_X10_go_62 (K23 : Int32 → Mem → Option Mem) (v1 : Int32) (M : Mem) : Option Mem :=
  (lb_X10_go_63 K23 v1 (0 : Int32) M)
set_option maxRecDepth 20000 in
set_option maxHeartbeats 2000000 in
theorem ev_lb_X10_go_62 (K23 : Int32 → Mem → Option Mem) (hK23 : ∀ (v1 : Int32) (M : Mem), Ev none wV RX10 cX10_go none 2 23 [some (.ref 53), some (.int v1), none, none] [] M (K23 v1 M)) (v1 : Int32) (M : Mem) : Ev none wV RX10 cX10_go none 2 62 [some (.ref 53), some (.int v1), none, none] [] M (lb_X10_go_62 K23 v1 M) := by
  unfold lb_X10_go_62
  refine e_iconst (v := (0 : Int32)) (dt dk_X10_go 35 rfl) (by decide) ?_
  exact e_forget [true, true, false, false] [some (.ref 53), some (.int v1), none, none] ⟨rfl, rfl⟩ (ev_lb_X10_go_63 K23 hK23 v1 (0 : Int32) M)
def bd_X10_go_23  (K23 : Int32 → Mem → Option Mem) (v1 : Int32) (M : Mem) : Option Mem :=
  (if (8 : Int32) ≤ v1 then (lp_X10_go_106 FU (0 : Int32) M) else if inb v1 8 then (if (10 : Int32) ≤ (M 54 (ix v1)) then (lb_X10_go_63 K23 v1 (1 : Int32) M) else if inb v1 8 then (if (M 57 (ix v1)) ≤ 0 then (lb_X10_go_62 K23 v1 M) else if inb v1 8 then (if (M 54 (ix v1)) ≤ 0 then (lb_X10_go_62 K23 v1 M) else (lb_X10_go_63 K23 v1 (1 : Int32) M)) else none) else none) else none)
set_option maxRecDepth 20000 in
set_option maxHeartbeats 2000000 in
theorem ev_bd_X10_go_23  (K23 : Int32 → Mem → Option Mem)  (hK23 : ∀ (v1 : Int32) (M : Mem), Ev none wV RX10 cX10_go none 2 23 [some (.ref 53), some (.int v1), none, none] [] M (K23 v1 M)) (v1 : Int32) (M : Mem) : Ev none wV RX10 cX10_go none 2 23 [some (.ref 53), some (.int v1), none, none] [] M (bd_X10_go_23 K23 v1 M) := by
  unfold bd_X10_go_23
  refine e_iload_n (dt dk_X10_go 14 rfl) rfl ?_
  refine e_bipush (v := (8 : Int32)) (dt dk_X10_go 15 rfl) (by decide) ?_
  refine e_icmp_ge 104 (dt dk_X10_go 16 rfl) (by decide) (fun h2 => ?_) (fun h2 => ?_)
  · refine e_iconst (v := (0 : Int32)) (dt dk_X10_go 63 rfl) (by decide) ?_
    refine e_istore_n [some (.ref 53), some (.int (0 : Int32)), none, none] (dt dk_X10_go 64 rfl) rfl rfl rfl ?_
    exact e_forget [true, true, false, false] [some (.ref 53), some (.int (0 : Int32)), none, none] ⟨rfl, rfl⟩ (ev_lp_X10_go_106 FU (0 : Int32) M)
  · refine e_aload_n (dt dk_X10_go 17 rfl) rfl ?_
    refine e_getR ci_X10 (dt dk_X10_go 18 rfl) rfl (by decide) rfl fl_X10_7 ?_
    refine e_iload_n (dt dk_X10_go 19 rfl) rfl ?_
    refine e_if (fun h12 => ?_)
    refine e_iald' (v := (M 54 (ix v1))) (dt dk_X10_go 20 rfl) rfl h12 rfl ?_
    refine e_bipush (v := (10 : Int32)) (dt dk_X10_go 21 rfl) (by decide) ?_
    refine e_icmp_ge 58 (dt dk_X10_go 22 rfl) (by decide) (fun h13 => ?_) (fun h13 => ?_)
    · refine e_iconst (v := (1 : Int32)) (dt dk_X10_go 33 rfl) (by decide) ?_
      refine e_goto 63 (dt dk_X10_go 34 rfl) (by decide) ?_
      exact e_forget [true, true, false, false] [some (.ref 53), some (.int v1), none, none] ⟨rfl, rfl⟩ (ev_lb_X10_go_63 K23 hK23 v1 (1 : Int32) M)
    · refine e_aload_n (dt dk_X10_go 23 rfl) rfl ?_
      refine e_getR ci_X10 (dt dk_X10_go 24 rfl) rfl (by decide) rfl fl_X10_19 ?_
      refine e_iload_n (dt dk_X10_go 25 rfl) rfl ?_
      refine e_if (fun h21 => ?_)
      refine e_iald' (v := (M 57 (ix v1))) (dt dk_X10_go 26 rfl) rfl h21 rfl ?_
      refine e_if_le 62 (dt dk_X10_go 27 rfl) (by decide) (fun h22 => ?_) (fun h22 => ?_)
      · exact e_forget [true, true, false, false] [some (.ref 53), some (.int v1), none, none] ⟨rfl, rfl⟩ (ev_lb_X10_go_62 K23 hK23 v1 M)
      · refine e_aload_n (dt dk_X10_go 28 rfl) rfl ?_
        refine e_getR ci_X10 (dt dk_X10_go 29 rfl) rfl (by decide) rfl fl_X10_7 ?_
        refine e_iload_n (dt dk_X10_go 30 rfl) rfl ?_
        refine e_if (fun h23 => ?_)
        refine e_iald' (v := (M 54 (ix v1))) (dt dk_X10_go 31 rfl) rfl h23 rfl ?_
        refine e_if_le 62 (dt dk_X10_go 32 rfl) (by decide) (fun h24 => ?_) (fun h24 => ?_)
        · exact e_forget [true, true, false, false] [some (.ref 53), some (.int v1), none, none] ⟨rfl, rfl⟩ (ev_lb_X10_go_62 K23 hK23 v1 M)
        · refine e_iconst (v := (1 : Int32)) (dt dk_X10_go 33 rfl) (by decide) ?_
          refine e_goto 63 (dt dk_X10_go 34 rfl) (by decide) ?_
          exact e_forget [true, true, false, false] [some (.ref 53), some (.int v1), none, none] ⟨rfl, rfl⟩ (ev_lb_X10_go_63 K23 hK23 v1 (1 : Int32) M)
def lp_X10_go_23  : Nat → Int32 → Mem → Option Mem
  | 0 => fun _ _ => none
  | n + 1 => bd_X10_go_23 (lp_X10_go_23 n)
theorem ev_lp_X10_go_23   : ∀ (n : Nat), ∀ (v1 : Int32) (M : Mem), Ev none wV RX10 cX10_go none 2 23 [some (.ref 53), some (.int v1), none, none] [] M (lp_X10_go_23 n v1 M)
  | 0 => fun _ _ => e_none
  | n + 1 => ev_bd_X10_go_23 (lp_X10_go_23 n) (ev_lp_X10_go_23 n)
def bd_X10_go_2  (K2 : Int32 → Mem → Option Mem) (v1 : Int32) (M : Mem) : Option Mem :=
  (if (8 : Int32) ≤ v1 then (lp_X10_go_23 FU (0 : Int32) M) else if inb v1 8 then (K2 (v1 + (1 : Int32)) (up2 M 65 (ix v1) (0 : Int32))) else none)
set_option maxRecDepth 20000 in
set_option maxHeartbeats 2000000 in
theorem ev_bd_X10_go_2  (K2 : Int32 → Mem → Option Mem)  (hK2 : ∀ (v1 : Int32) (M : Mem), Ev none wV RX10 cX10_go none 2 2 [some (.ref 53), some (.int v1), none, none] [] M (K2 v1 M)) (v1 : Int32) (M : Mem) : Ev none wV RX10 cX10_go none 2 2 [some (.ref 53), some (.int v1), none, none] [] M (bd_X10_go_2 K2 v1 M) := by
  unfold bd_X10_go_2
  refine e_iload_n (dt dk_X10_go 2 rfl) rfl ?_
  refine e_bipush (v := (8 : Int32)) (dt dk_X10_go 3 rfl) (by decide) ?_
  refine e_icmp_ge 21 (dt dk_X10_go 4 rfl) (by decide) (fun h1 => ?_) (fun h1 => ?_)
  · refine e_iconst (v := (0 : Int32)) (dt dk_X10_go 12 rfl) (by decide) ?_
    refine e_istore_n [some (.ref 53), some (.int (0 : Int32)), none, none] (dt dk_X10_go 13 rfl) rfl rfl rfl ?_
    exact e_forget [true, true, false, false] [some (.ref 53), some (.int (0 : Int32)), none, none] ⟨rfl, rfl⟩ (ev_lp_X10_go_23 FU (0 : Int32) M)
  · refine e_aload_n (dt dk_X10_go 5 rfl) rfl ?_
    refine e_getR ci_X10 (dt dk_X10_go 6 rfl) rfl (by decide) rfl fl_X10_43 ?_
    refine e_iload_n (dt dk_X10_go 7 rfl) rfl ?_
    refine e_iconst (v := (0 : Int32)) (dt dk_X10_go 8 rfl) (by decide) ?_
    refine e_if (fun h25 => ?_)
    refine e_iast' (dt dk_X10_go 9 rfl) rfl h25 ?_
    refine e_iinc [some (.ref 53), some (.int (v1 + (1 : Int32))), none, none] (dt dk_X10_go 10 rfl) rfl rfl rfl rfl ?_
    refine e_goto 2 (dt dk_X10_go 11 rfl) (by decide) ?_
    exact e_forget [true, true, false, false] [some (.ref 53), some (.int (v1 + (1 : Int32))), none, none] ⟨rfl, rfl⟩ (hK2 (v1 + (1 : Int32)) (up2 M 65 (ix v1) (0 : Int32)))
def lp_X10_go_2  : Nat → Int32 → Mem → Option Mem
  | 0 => fun _ _ => none
  | n + 1 => bd_X10_go_2 (lp_X10_go_2 n)
theorem ev_lp_X10_go_2   : ∀ (n : Nat), ∀ (v1 : Int32) (M : Mem), Ev none wV RX10 cX10_go none 2 2 [some (.ref 53), some (.int v1), none, none] [] M (lp_X10_go_2 n v1 M)
  | 0 => fun _ _ => e_none
  | n + 1 => ev_bd_X10_go_2 (lp_X10_go_2 n) (ev_lp_X10_go_2 n)
def f_X10_go  (M : Mem) : Option Mem :=
  (lp_X10_go_2 FU (0 : Int32) M)
set_option maxRecDepth 20000 in
set_option maxHeartbeats 2000000 in
theorem sp_X10_go  (M : Mem) : SpO wV yX10_go cX10_go 4 none 2 [.ref 53] M (f_X10_go M) := by
  refine sp_of (L := [some (.ref 53), none, none, none]) rfl (by decide +kernel) rfl rfl ?_
  unfold f_X10_go
  refine e_iconst (v := (0 : Int32)) (dt dk_X10_go 0 rfl) (by decide) ?_
  refine e_istore_n [some (.ref 53), some (.int (0 : Int32)), none, none] (dt dk_X10_go 1 rfl) rfl rfl rfl ?_
  exact e_forget [true, true, false, false] [some (.ref 53), some (.int (0 : Int32)), none, none] ⟨rfl, rfl⟩ (ev_lp_X10_go_2 FU (0 : Int32) M)
-- X10_happen (W, depth 3)
def lb_X10_happen_158  (s0 : Int32) (s1 : Int32) (s2 : Int32) (M : Mem) : Option Mem :=
  ((f_X10_bore s2 s1 s0 M)).bind fun q20 => some q20
set_option maxRecDepth 20000 in
set_option maxHeartbeats 2000000 in
theorem ev_lb_X10_happen_158   (s0 : Int32) (s1 : Int32) (s2 : Int32) (M : Mem) : Ev none wV RX10 cX10_happen none 3 158 [none, none, none, none] [.int s0, .int s1, .int s2, .ref 53] M (lb_X10_happen_158 s0 s1 s2 M) := by
  unfold lb_X10_happen_158
  refine ev_call (ca_V (k := 53) mv_X10_bore (sp_X10_bore s2 s1 s0 M) (dt dk_X10_happen 79 rfl) ml_X10_96 rfl rfl rfl rfl rfl (by decide) : Ca _ _ _ _ _ _ _ _ [] _ _) (fun q20 hq20 => ?_)
  show Ev _ _ _ _ _ _ 161 [none, none, none, none] [] q20 _
  refine e_goto 182 (dt dk_X10_happen 80 rfl) (by decide) ?_
  exact e_vret (dt dk_X10_happen 91 rfl) rfl rfl
def f_X10_happen (v1 : Int32) (v2 : Int32) (v3 : Int32) (M : Mem) : Option Mem :=
  (if v1 = (0 : Int32) then if inb v2 8 then if inb v2 8 then some (up2 M 55 (ix v2) ((M 55 (ix v2)) + (1 : Int32))) else none else none else if v1 = (1 : Int32) then if inb v2 8 then if inb v2 8 then some (up2 M 55 (ix v2) ((M 55 (ix v2)) - (1 : Int32))) else none else none else if v1 = (2 : Int32) then if inb v2 8 then if inb v2 8 then some (up2 (up2 M 56 (ix v2) ((M 56 (ix v2)) + (1 : Int32))) 53 5 ((M 53 5) - (1 : Int32))) else none else none else if v1 = (3 : Int32) then if inb v2 8 then if inb v2 8 then some (up2 (up2 M 56 (ix v2) ((M 56 (ix v2)) - (1 : Int32))) 53 5 (f_X10_less (99 : Int32) ((M 53 5) + (1 : Int32)))) else none else none else if v1 = (4 : Int32) then if inb v2 8 then if inb v2 8 then if inb v2 8 then some (up2 (up2 M 54 (ix v2) ((M 54 (ix v2)) / (2 : Int32))) 57 (ix v2) (3 : Int32)) else none else none else none else if v1 = (5 : Int32) then if inb v2 8 then (if (f_X10_has (M 58 (ix v2)) v3) = 0 then (lb_X10_happen_158 (1 : Int32) v3 v2 M) else (lb_X10_happen_158 (0 : Int32) v3 v2 M)) else none else ((f_X10_breed M)).bind fun q21 => ((f_X10_go q21)).bind fun q22 => some (up2 q22 53 7 ((q22 53 7) + (1 : Int32))))
set_option maxRecDepth 20000 in
set_option maxHeartbeats 2000000 in
theorem sp_X10_happen (v1 : Int32) (v2 : Int32) (v3 : Int32) (M : Mem) : SpO wV yX10_happen cX10_happen 4 none 3 [.ref 53, .int v1, .int v2, .int v3] M (f_X10_happen v1 v2 v3 M) := by
  refine sp_of (L := [some (.ref 53), some (.int v1), some (.int v2), some (.int v3)]) rfl (by decide +kernel) rfl rfl ?_
  unfold f_X10_happen
  refine e_iload_n (dt dk_X10_happen 0 rfl) rfl ?_
  refine e_split (fun h1 => ?_) (fun h1 => ?_)
  · refine e_tableIn 40 (dt dk_X10_happen 1 rfl) (by rw [h1]; decide) (by rw [h1]; decide) (by rw [h1]; rfl) (by decide) ?_
    refine e_aload_n (dt dk_X10_happen 2 rfl) rfl ?_
    refine e_getR ci_X10 (dt dk_X10_happen 3 rfl) rfl (by decide) rfl fl_X10_13 ?_
    refine e_iload_n (dt dk_X10_happen 4 rfl) rfl ?_
    refine e_dup2 (dt dk_X10_happen 5 rfl) rfl rfl ?_
    refine e_if (fun h2 => ?_)
    refine e_iald' (v := (M 55 (ix v2))) (dt dk_X10_happen 6 rfl) rfl h2 rfl ?_
    refine e_iconst (v := (1 : Int32)) (dt dk_X10_happen 7 rfl) (by decide) ?_
    refine e_iadd (dt dk_X10_happen 8 rfl) ?_
    refine e_if (fun h3 => ?_)
    refine e_iast' (dt dk_X10_happen 9 rfl) rfl h3 ?_
    refine e_goto 182 (dt dk_X10_happen 10 rfl) (by decide) ?_
    exact e_vret (dt dk_X10_happen 91 rfl) rfl rfl
  · skip
    refine e_split (fun h4 => ?_) (fun h4 => ?_)
    · refine e_tableIn 53 (dt dk_X10_happen 1 rfl) (by rw [h4]; decide) (by rw [h4]; decide) (by rw [h4]; rfl) (by decide) ?_
      refine e_aload_n (dt dk_X10_happen 11 rfl) rfl ?_
      refine e_getR ci_X10 (dt dk_X10_happen 12 rfl) rfl (by decide) rfl fl_X10_13 ?_
      refine e_iload_n (dt dk_X10_happen 13 rfl) rfl ?_
      refine e_dup2 (dt dk_X10_happen 14 rfl) rfl rfl ?_
      refine e_if (fun h5 => ?_)
      refine e_iald' (v := (M 55 (ix v2))) (dt dk_X10_happen 15 rfl) rfl h5 rfl ?_
      refine e_iconst (v := (1 : Int32)) (dt dk_X10_happen 16 rfl) (by decide) ?_
      refine e_isub (dt dk_X10_happen 17 rfl) ?_
      refine e_if (fun h6 => ?_)
      refine e_iast' (dt dk_X10_happen 18 rfl) rfl h6 ?_
      refine e_goto 182 (dt dk_X10_happen 19 rfl) (by decide) ?_
      exact e_vret (dt dk_X10_happen 91 rfl) rfl rfl
    · skip
      refine e_split (fun h7 => ?_) (fun h7 => ?_)
      · refine e_tableIn 66 (dt dk_X10_happen 1 rfl) (by rw [h7]; decide) (by rw [h7]; decide) (by rw [h7]; rfl) (by decide) ?_
        refine e_aload_n (dt dk_X10_happen 20 rfl) rfl ?_
        refine e_getR ci_X10 (dt dk_X10_happen 21 rfl) rfl (by decide) rfl fl_X10_16 ?_
        refine e_iload_n (dt dk_X10_happen 22 rfl) rfl ?_
        refine e_dup2 (dt dk_X10_happen 23 rfl) rfl rfl ?_
        refine e_if (fun h8 => ?_)
        refine e_iald' (v := (M 56 (ix v2))) (dt dk_X10_happen 24 rfl) rfl h8 rfl ?_
        refine e_iconst (v := (1 : Int32)) (dt dk_X10_happen 25 rfl) (by decide) ?_
        refine e_iadd (dt dk_X10_happen 26 rfl) ?_
        refine e_if (fun h9 => ?_)
        refine e_iast' (dt dk_X10_happen 27 rfl) rfl h9 ?_
        refine e_aload_n (dt dk_X10_happen 28 rfl) rfl ?_
        refine e_dup (dt dk_X10_happen 29 rfl) rfl ?_
        refine e_getI (v := (M 53 5)) ci_X10 (dt dk_X10_happen 30 rfl) rfl (by decide) rfl fl_X10_74 rfl ?_
        refine e_iconst (v := (1 : Int32)) (dt dk_X10_happen 31 rfl) (by decide) ?_
        refine e_isub (dt dk_X10_happen 32 rfl) ?_
        refine e_putI (ty := .int) ci_X10 (dt dk_X10_happen 33 rfl) rfl (by decide) rfl fl_X10_74 rfl (by decide +kernel) rfl rfl ?_
        refine e_goto 182 (dt dk_X10_happen 34 rfl) (by decide) ?_
        exact e_vret (dt dk_X10_happen 91 rfl) rfl rfl
      · skip
        refine e_split (fun h10 => ?_) (fun h10 => ?_)
        · refine e_tableIn 89 (dt dk_X10_happen 1 rfl) (by rw [h10]; decide) (by rw [h10]; decide) (by rw [h10]; rfl) (by decide) ?_
          refine e_aload_n (dt dk_X10_happen 35 rfl) rfl ?_
          refine e_getR ci_X10 (dt dk_X10_happen 36 rfl) rfl (by decide) rfl fl_X10_16 ?_
          refine e_iload_n (dt dk_X10_happen 37 rfl) rfl ?_
          refine e_dup2 (dt dk_X10_happen 38 rfl) rfl rfl ?_
          refine e_if (fun h11 => ?_)
          refine e_iald' (v := (M 56 (ix v2))) (dt dk_X10_happen 39 rfl) rfl h11 rfl ?_
          refine e_iconst (v := (1 : Int32)) (dt dk_X10_happen 40 rfl) (by decide) ?_
          refine e_isub (dt dk_X10_happen 41 rfl) ?_
          refine e_if (fun h12 => ?_)
          refine e_iast' (dt dk_X10_happen 42 rfl) rfl h12 ?_
          refine e_aload_n (dt dk_X10_happen 43 rfl) rfl ?_
          refine e_bipush (v := (99 : Int32)) (dt dk_X10_happen 44 rfl) (by decide) ?_
          refine e_aload_n (dt dk_X10_happen 45 rfl) rfl ?_
          refine e_getI (v := (M 53 5)) ci_X10 (dt dk_X10_happen 46 rfl) rfl (by decide) rfl fl_X10_74 rfl ?_
          refine e_iconst (v := (1 : Int32)) (dt dk_X10_happen 47 rfl) (by decide) ?_
          refine e_iadd (dt dk_X10_happen 48 rfl) ?_
          refine ev_callT (ca_S ms_X10_less (sp_X10_less (99 : Int32) ((M 53 5) + (1 : Int32)) (up2 M 56 (ix v2) ((M 56 (ix v2)) - (1 : Int32)))) (dt dk_X10_happen 49 rfl) ml_X10_137 rfl rfl rfl (by decide) : Ca _ _ _ _ _ _ _ _ [.ref 53] _ _) ?_
          show Ev _ _ _ _ _ _ 111 [some (.ref 53), some (.int v1), some (.int v2), some (.int v3)] [.int (f_X10_less (99 : Int32) ((M 53 5) + (1 : Int32))), .ref 53] (up2 M 56 (ix v2) ((M 56 (ix v2)) - (1 : Int32))) _
          refine e_putI (ty := .int) ci_X10 (dt dk_X10_happen 50 rfl) rfl (by decide) rfl fl_X10_74 rfl (by decide +kernel) rfl rfl ?_
          refine e_goto 182 (dt dk_X10_happen 51 rfl) (by decide) ?_
          exact e_vret (dt dk_X10_happen 91 rfl) rfl rfl
        · skip
          refine e_split (fun h13 => ?_) (fun h13 => ?_)
          · refine e_tableIn 117 (dt dk_X10_happen 1 rfl) (by rw [h13]; decide) (by rw [h13]; decide) (by rw [h13]; rfl) (by decide) ?_
            refine e_aload_n (dt dk_X10_happen 52 rfl) rfl ?_
            refine e_getR ci_X10 (dt dk_X10_happen 53 rfl) rfl (by decide) rfl fl_X10_7 ?_
            refine e_iload_n (dt dk_X10_happen 54 rfl) rfl ?_
            refine e_dup2 (dt dk_X10_happen 55 rfl) rfl rfl ?_
            refine e_if (fun h14 => ?_)
            refine e_iald' (v := (M 54 (ix v2))) (dt dk_X10_happen 56 rfl) rfl h14 rfl ?_
            refine e_iconst (v := (2 : Int32)) (dt dk_X10_happen 57 rfl) (by decide) ?_
            refine e_idiv' (dt dk_X10_happen 58 rfl) (by decide) ?_
            show Ev _ _ _ _ _ _ 126 [some (.ref 53), some (.int v1), some (.int v2), some (.int v3)] [.int ((M 54 (ix v2)) / (2 : Int32)), .int v2, .ref 54] M _
            refine e_if (fun h15 => ?_)
            refine e_iast' (dt dk_X10_happen 59 rfl) rfl h15 ?_
            refine e_aload_n (dt dk_X10_happen 60 rfl) rfl ?_
            refine e_getR ci_X10 (dt dk_X10_happen 61 rfl) rfl (by decide) rfl fl_X10_19 ?_
            refine e_iload_n (dt dk_X10_happen 62 rfl) rfl ?_
            refine e_iconst (v := (3 : Int32)) (dt dk_X10_happen 63 rfl) (by decide) ?_
            refine e_if (fun h16 => ?_)
            refine e_iast' (dt dk_X10_happen 64 rfl) rfl h16 ?_
            refine e_goto 182 (dt dk_X10_happen 65 rfl) (by decide) ?_
            exact e_vret (dt dk_X10_happen 91 rfl) rfl rfl
          · skip
            refine e_split (fun h17 => ?_) (fun h17 => ?_)
            · refine e_tableIn 137 (dt dk_X10_happen 1 rfl) (by rw [h17]; decide) (by rw [h17]; decide) (by rw [h17]; rfl) (by decide) ?_
              refine e_aload_n (dt dk_X10_happen 66 rfl) rfl ?_
              refine e_iload_n (dt dk_X10_happen 67 rfl) rfl ?_
              refine e_iload_n (dt dk_X10_happen 68 rfl) rfl ?_
              refine e_aload_n (dt dk_X10_happen 69 rfl) rfl ?_
              refine e_getR ci_X10 (dt dk_X10_happen 70 rfl) rfl (by decide) rfl fl_X10_22 ?_
              refine e_iload_n (dt dk_X10_happen 71 rfl) rfl ?_
              refine e_if (fun h18 => ?_)
              refine e_iald' (v := (M 58 (ix v2))) (dt dk_X10_happen 72 rfl) rfl h18 rfl ?_
              refine e_iload_n (dt dk_X10_happen 73 rfl) rfl ?_
              refine ev_callT (ca_S ms_X10_has (sp_X10_has (M 58 (ix v2)) v3 M) (dt dk_X10_happen 74 rfl) ml_X10_149 rfl rfl rfl (by decide) : Ca _ _ _ _ _ _ _ _ [.int v3, .int v2, .ref 53] _ _) ?_
              show Ev _ _ _ _ _ _ 150 [some (.ref 53), some (.int v1), some (.int v2), some (.int v3)] [.int (f_X10_has (M 58 (ix v2)) v3), .int v3, .int v2, .ref 53] M _
              refine e_if_ne 157 (dt dk_X10_happen 75 rfl) (by decide) (fun h19 => ?_) (fun h19 => ?_)
              · refine e_iconst (v := (1 : Int32)) (dt dk_X10_happen 76 rfl) (by decide) ?_
                refine e_goto 158 (dt dk_X10_happen 77 rfl) (by decide) ?_
                exact e_forget [false, false, false, false] [none, none, none, none] ⟨rfl, rfl⟩ (ev_lb_X10_happen_158 (1 : Int32) v3 v2 M)
              · refine e_iconst (v := (0 : Int32)) (dt dk_X10_happen 78 rfl) (by decide) ?_
                exact e_forget [false, false, false, false] [none, none, none, none] ⟨rfl, rfl⟩ (ev_lb_X10_happen_158 (0 : Int32) v3 v2 M)
            · skip
              refine e_tableOut 164 (dt dk_X10_happen 1 rfl) (sw_out 5 (by simp only [List.range, List.range.loop, List.all_cons, List.all_nil]; simp [h1, h4, h7, h10, h13, h17])) (by decide) ?_
              refine e_aload_n (dt dk_X10_happen 81 rfl) rfl ?_
              refine ev_call (ca_V (k := 53) mv_X10_breed (sp_X10_breed M) (dt dk_X10_happen 82 rfl) ml_X10_156 rfl rfl rfl rfl rfl (by decide) : Ca _ _ _ _ _ _ _ _ [] _ _) (fun q21 hq21 => ?_)
              show Ev _ _ _ _ _ _ 168 [some (.ref 53), some (.int v1), some (.int v2), some (.int v3)] [] q21 _
              refine e_aload_n (dt dk_X10_happen 83 rfl) rfl ?_
              refine ev_call (ca_V (k := 53) mv_X10_go (sp_X10_go q21) (dt dk_X10_happen 84 rfl) ml_X10_159 rfl rfl rfl rfl rfl (by decide) : Ca _ _ _ _ _ _ _ _ [] _ _) (fun q22 hq22 => ?_)
              show Ev _ _ _ _ _ _ 172 [some (.ref 53), some (.int v1), some (.int v2), some (.int v3)] [] q22 _
              refine e_aload_n (dt dk_X10_happen 85 rfl) rfl ?_
              refine e_dup (dt dk_X10_happen 86 rfl) rfl ?_
              refine e_getI (v := (q22 53 7)) ci_X10 (dt dk_X10_happen 87 rfl) rfl (by decide) rfl fl_X10_134 rfl ?_
              refine e_iconst (v := (1 : Int32)) (dt dk_X10_happen 88 rfl) (by decide) ?_
              refine e_iadd (dt dk_X10_happen 89 rfl) ?_
              refine e_putI (ty := .int) ci_X10 (dt dk_X10_happen 90 rfl) rfl (by decide) rfl fl_X10_134 rfl (by decide +kernel) rfl rfl ?_
              exact e_vret (dt dk_X10_happen 91 rfl) rfl rfl
-- X10_leastOf (R, depth 1)
def bd_X10_leastOf_6  (K6 : Int32 → Int32 → Int32 → Option Int32) (v0 : Int32) (v1 : Int32) (v2 : Int32) : Option Int32 :=
  (if v2 < 0 then some v1 else (if (f_X10_has v0 v2) = 0 then (K6 v0 v1 (v2 + (-1 : Int32))) else (K6 v0 v2 (v2 + (-1 : Int32)))))
set_option maxRecDepth 20000 in
set_option maxHeartbeats 2000000 in
theorem ev_bd_X10_leastOf_6 (M : Mem)  (K6 : Int32 → Int32 → Int32 → Option Int32)  (hK6 : ∀ (v0 : Int32) (v1 : Int32) (v2 : Int32), Ev none (wR M) RX10 cX10_leastOf (some .int) 1 6 [some (.int v0), some (.int v1), some (.int v2)] [] M (K6 v0 v1 v2)) (v0 : Int32) (v1 : Int32) (v2 : Int32) : Ev none (wR M) RX10 cX10_leastOf (some .int) 1 6 [some (.int v0), some (.int v1), some (.int v2)] [] M (bd_X10_leastOf_6 K6 v0 v1 v2) := by
  unfold bd_X10_leastOf_6
  refine e_iload_n (dt dk_X10_leastOf 4 rfl) rfl ?_
  refine e_if_lt 30 (dt dk_X10_leastOf 5 rfl) (by decide) (fun h1 => ?_) (fun h1 => ?_)
  · refine e_iload_n (dt dk_X10_leastOf 16 rfl) rfl ?_
    exact e_iret (dt dk_X10_leastOf 17 rfl) rfl rfl rfl
  · refine e_iload_n (dt dk_X10_leastOf 6 rfl) rfl ?_
    refine e_iload_n (dt dk_X10_leastOf 7 rfl) rfl ?_
    refine ev_callT (ca_S ms_X10_has (sp_X10_has v0 v2 M) (dt dk_X10_leastOf 8 rfl) ml_X10_149 rfl rfl rfl (by decide) : Ca _ _ _ _ _ _ _ _ [] _ _) ?_
    show Ev _ _ _ _ _ _ 15 [some (.int v0), some (.int v1), some (.int v2)] [.int (f_X10_has v0 v2)] M _
    refine e_if_eq 22 (dt dk_X10_leastOf 9 rfl) (by decide) (fun h2 => ?_) (fun h2 => ?_)
    · refine e_iload_n (dt dk_X10_leastOf 12 rfl) rfl ?_
      refine e_istore_n [some (.int v0), some (.int v1), some (.int v2)] (dt dk_X10_leastOf 13 rfl) rfl rfl rfl ?_
      refine e_iinc [some (.int v0), some (.int v1), some (.int (v2 + (-1 : Int32)))] (dt dk_X10_leastOf 14 rfl) rfl rfl rfl rfl ?_
      refine e_goto 6 (dt dk_X10_leastOf 15 rfl) (by decide) ?_
      exact e_forget [true, true, true] [some (.int v0), some (.int v1), some (.int (v2 + (-1 : Int32)))] ⟨rfl, rfl⟩ (hK6 v0 v1 (v2 + (-1 : Int32)))
    · refine e_iload_n (dt dk_X10_leastOf 10 rfl) rfl ?_
      refine e_goto 23 (dt dk_X10_leastOf 11 rfl) (by decide) ?_
      refine e_istore_n [some (.int v0), some (.int v2), some (.int v2)] (dt dk_X10_leastOf 13 rfl) rfl rfl rfl ?_
      refine e_iinc [some (.int v0), some (.int v2), some (.int (v2 + (-1 : Int32)))] (dt dk_X10_leastOf 14 rfl) rfl rfl rfl rfl ?_
      refine e_goto 6 (dt dk_X10_leastOf 15 rfl) (by decide) ?_
      exact e_forget [true, true, true] [some (.int v0), some (.int v2), some (.int (v2 + (-1 : Int32)))] ⟨rfl, rfl⟩ (hK6 v0 v2 (v2 + (-1 : Int32)))
def lp_X10_leastOf_6  : Nat → Int32 → Int32 → Int32 → Option Int32
  | 0 => fun _ _ _ => none
  | n + 1 => bd_X10_leastOf_6 (lp_X10_leastOf_6 n)
theorem ev_lp_X10_leastOf_6 (M : Mem)   : ∀ (n : Nat), ∀ (v0 : Int32) (v1 : Int32) (v2 : Int32), Ev none (wR M) RX10 cX10_leastOf (some .int) 1 6 [some (.int v0), some (.int v1), some (.int v2)] [] M (lp_X10_leastOf_6 n v0 v1 v2)
  | 0 => fun _ _ _ => e_none
  | n + 1 => ev_bd_X10_leastOf_6 M (lp_X10_leastOf_6 n) (ev_lp_X10_leastOf_6 M n)
def f_X10_leastOf (v0 : Int32) : Option Int32 :=
  (lp_X10_leastOf_6 FU v0 (-6 : Int32) (7 : Int32))
set_option maxRecDepth 20000 in
set_option maxHeartbeats 2000000 in
theorem sp_X10_leastOf (v0 : Int32) (M : Mem) : SpO (wR M) yX10_leastOf cX10_leastOf 3 (some .int) 1 [.int v0] M (f_X10_leastOf v0) := by
  refine sp_of (L := [some (.int v0), none, none]) rfl (by decide +kernel) rfl rfl ?_
  unfold f_X10_leastOf
  refine e_bipush (v := (-6 : Int32)) (dt dk_X10_leastOf 0 rfl) (by decide) ?_
  refine e_istore_n [some (.int v0), some (.int (-6 : Int32)), none] (dt dk_X10_leastOf 1 rfl) rfl rfl rfl ?_
  refine e_bipush (v := (7 : Int32)) (dt dk_X10_leastOf 2 rfl) (by decide) ?_
  refine e_istore_n [some (.int v0), some (.int (-6 : Int32)), some (.int (7 : Int32))] (dt dk_X10_leastOf 3 rfl) rfl rfl rfl ?_
  exact e_forget [true, true, true] [some (.int v0), some (.int (-6 : Int32)), some (.int (7 : Int32))] ⟨rfl, rfl⟩ (ev_lp_X10_leastOf_6 M FU v0 (-6 : Int32) (7 : Int32))
-- X10_goOne (W, depth 4)
def f_X10_goOne (v1 : Int32) (M : Mem) : Option Mem :=
  ((f_X10_clear M)).bind fun r1 => if inb v1 60 then if inb v1 60 then if inb v1 60 then ((f_X10_happen (M 62 (ix v1)) (M 63 (ix v1)) (M 64 (ix v1)) M)).bind fun q5 => ((f_X10_clear q5)).bind fun r6 => (if (r6 &&& (r1 ^^^ (-1 : Int32))) = 0 then some q5 else (if 0 ≤ (q5 53 22) then some q5 else ((f_X10_leastOf (r6 &&& (r1 ^^^ (-1 : Int32))))).bind fun r9 => some (up2 (up2 q5 53 22 v1) 53 23 r9))) else none else none else none
set_option maxRecDepth 20000 in
set_option maxHeartbeats 2000000 in
theorem sp_X10_goOne (v1 : Int32) (M : Mem) : SpO wV yX10_goOne cX10_goOne 4 none 4 [.ref 53, .int v1] M (f_X10_goOne v1 M) := by
  refine sp_of (L := [some (.ref 53), some (.int v1), none, none]) rfl (by decide +kernel) rfl rfl ?_
  unfold f_X10_goOne
  refine e_aload_n (dt dk_X10_goOne 0 rfl) rfl ?_
  refine ev_call (ca_V (k := 53) mv_X10_clear (sp_X10_clear M) (dt dk_X10_goOne 1 rfl) ml_X10_162 rfl rfl rfl rfl rfl (by decide) : Ca _ _ _ _ _ _ _ _ [] _ _) (fun r1 hr1 => ?_)
  show Ev _ _ _ _ _ _ 4 [some (.ref 53), some (.int v1), none, none] [.int r1] M _
  refine e_istore_n [some (.ref 53), some (.int v1), some (.int r1), none] (dt dk_X10_goOne 2 rfl) rfl rfl rfl ?_
  refine e_aload_n (dt dk_X10_goOne 3 rfl) rfl ?_
  refine e_aload_n (dt dk_X10_goOne 4 rfl) rfl ?_
  refine e_getR ci_X10 (dt dk_X10_goOne 5 rfl) rfl (by decide) rfl fl_X10_34 ?_
  refine e_iload_n (dt dk_X10_goOne 6 rfl) rfl ?_
  refine e_if (fun h2 => ?_)
  refine e_iald' (v := (M 62 (ix v1))) (dt dk_X10_goOne 7 rfl) rfl h2 rfl ?_
  refine e_aload_n (dt dk_X10_goOne 8 rfl) rfl ?_
  refine e_getR ci_X10 (dt dk_X10_goOne 9 rfl) rfl (by decide) rfl fl_X10_37 ?_
  refine e_iload_n (dt dk_X10_goOne 10 rfl) rfl ?_
  refine e_if (fun h3 => ?_)
  refine e_iald' (v := (M 63 (ix v1))) (dt dk_X10_goOne 11 rfl) rfl h3 rfl ?_
  refine e_aload_n (dt dk_X10_goOne 12 rfl) rfl ?_
  refine e_getR ci_X10 (dt dk_X10_goOne 13 rfl) rfl (by decide) rfl fl_X10_40 ?_
  refine e_iload_n (dt dk_X10_goOne 14 rfl) rfl ?_
  refine e_if (fun h4 => ?_)
  refine e_iald' (v := (M 64 (ix v1))) (dt dk_X10_goOne 15 rfl) rfl h4 rfl ?_
  refine ev_call (ca_V (k := 53) mv_X10_happen (sp_X10_happen (M 62 (ix v1)) (M 63 (ix v1)) (M 64 (ix v1)) M) (dt dk_X10_goOne 16 rfl) ml_X10_166 rfl rfl rfl rfl rfl (by decide) : Ca _ _ _ _ _ _ _ _ [] _ _) (fun q5 hq5 => ?_)
  show Ev _ _ _ _ _ _ 27 [some (.ref 53), some (.int v1), some (.int r1), none] [] q5 _
  refine e_aload_n (dt dk_X10_goOne 17 rfl) rfl ?_
  refine ev_call (ca_V (k := 53) mv_X10_clear (sp_X10_clear q5) (dt dk_X10_goOne 18 rfl) ml_X10_162 rfl rfl rfl rfl rfl (by decide) : Ca _ _ _ _ _ _ _ _ [] _ _) (fun r6 hr6 => ?_)
  show Ev _ _ _ _ _ _ 31 [some (.ref 53), some (.int v1), some (.int r1), none] [.int r6] q5 _
  refine e_iload_n (dt dk_X10_goOne 19 rfl) rfl ?_
  refine e_iconst (v := (-1 : Int32)) (dt dk_X10_goOne 20 rfl) (by decide) ?_
  refine e_ixor (dt dk_X10_goOne 21 rfl) ?_
  refine e_iand (dt dk_X10_goOne 22 rfl) ?_
  refine e_istore_n [some (.ref 53), some (.int v1), some (.int r1), some (.int (r6 &&& (r1 ^^^ (-1 : Int32))))] (dt dk_X10_goOne 23 rfl) rfl rfl rfl ?_
  refine e_iload_n (dt dk_X10_goOne 24 rfl) rfl ?_
  refine e_if_eq 60 (dt dk_X10_goOne 25 rfl) (by decide) (fun h7 => ?_) (fun h7 => ?_)
  · exact e_vret (dt dk_X10_goOne 36 rfl) rfl rfl
  · refine e_aload_n (dt dk_X10_goOne 26 rfl) rfl ?_
    refine e_getI (v := (q5 53 22)) ci_X10 (dt dk_X10_goOne 27 rfl) rfl (by decide) rfl fl_X10_170 rfl ?_
    refine e_if_ge 60 (dt dk_X10_goOne 28 rfl) (by decide) (fun h8 => ?_) (fun h8 => ?_)
    · exact e_vret (dt dk_X10_goOne 36 rfl) rfl rfl
    · refine e_aload_n (dt dk_X10_goOne 29 rfl) rfl ?_
      refine e_iload_n (dt dk_X10_goOne 30 rfl) rfl ?_
      refine e_putI (ty := .int) ci_X10 (dt dk_X10_goOne 31 rfl) rfl (by decide) rfl fl_X10_170 rfl (by decide +kernel) rfl rfl ?_
      refine e_aload_n (dt dk_X10_goOne 32 rfl) rfl ?_
      refine e_iload_n (dt dk_X10_goOne 33 rfl) rfl ?_
      refine ev_call (ca_S ms_X10_leastOf (sp_X10_leastOf (r6 &&& (r1 ^^^ (-1 : Int32))) (up2 q5 53 22 v1)) (dt dk_X10_goOne 34 rfl) ml_X10_173 rfl rfl rfl (by decide) : Ca _ _ _ _ _ _ _ _ [.ref 53] _ _) (fun r9 hr9 => ?_)
      show Ev _ _ _ _ _ _ 57 [some (.ref 53), some (.int v1), some (.int r1), some (.int (r6 &&& (r1 ^^^ (-1 : Int32))))] [.int r9, .ref 53] (up2 q5 53 22 v1) _
      refine e_putI (ty := .int) ci_X10 (dt dk_X10_goOne 35 rfl) rfl (by decide) rfl fl_X10_176 rfl (by decide +kernel) rfl rfl ?_
      exact e_vret (dt dk_X10_goOne 36 rfl) rfl rfl
-- X10_goWeeks (W, depth 5)
def lb_X10_goWeeks_94 (K31 : Int32 → Mem → Option Mem) (v1 : Int32) (v2 : Int32) (s0 : Int32) (M : Mem) : Option Mem :=
  (if v2 = 0 then ((f_X10_goOne v1 (up2 M 53 21 s0))).bind fun q10 => (K31 (v1 + (1 : Int32)) q10) else (K31 (v1 + (1 : Int32)) (up2 M 53 21 s0)))
set_option maxRecDepth 20000 in
set_option maxHeartbeats 2000000 in
theorem ev_lb_X10_goWeeks_94 (K31 : Int32 → Mem → Option Mem) (hK31 : ∀ (v1 : Int32) (M : Mem), Ev none wV RX10 cX10_goWeeks none 5 31 [some (.ref 53), some (.int v1), none] [] M (K31 v1 M)) (v1 : Int32) (v2 : Int32) (s0 : Int32) (M : Mem) : Ev none wV RX10 cX10_goWeeks none 5 94 [some (.ref 53), some (.int v1), some (.int v2)] [.int s0, .ref 53] M (lb_X10_goWeeks_94 K31 v1 v2 s0 M) := by
  unfold lb_X10_goWeeks_94
  refine e_putI (ty := .int) ci_X10 (dt dk_X10_goWeeks 52 rfl) rfl (by decide) rfl fl_X10_182 rfl (by decide +kernel) rfl rfl ?_
  refine e_iload_n (dt dk_X10_goWeeks 53 rfl) rfl ?_
  refine e_if_ne 106 (dt dk_X10_goWeeks 54 rfl) (by decide) (fun h9 => ?_) (fun h9 => ?_)
  · refine e_aload_n (dt dk_X10_goWeeks 55 rfl) rfl ?_
    refine e_iload_n (dt dk_X10_goWeeks 56 rfl) rfl ?_
    refine ev_call (ca_V (k := 53) mv_X10_goOne (sp_X10_goOne v1 (up2 M 53 21 s0)) (dt dk_X10_goWeeks 57 rfl) ml_X10_189 rfl rfl rfl rfl rfl (by decide) : Ca _ _ _ _ _ _ _ _ [] _ _) (fun q10 hq10 => ?_)
    show Ev _ _ _ _ _ _ 106 [some (.ref 53), some (.int v1), some (.int v2)] [] q10 _
    refine e_iinc [some (.ref 53), some (.int (v1 + (1 : Int32))), some (.int v2)] (dt dk_X10_goWeeks 58 rfl) rfl rfl rfl rfl ?_
    refine e_goto 31 (dt dk_X10_goWeeks 59 rfl) (by decide) ?_
    exact e_forget [true, true, false] [some (.ref 53), some (.int (v1 + (1 : Int32))), none] ⟨rfl, rfl⟩ (hK31 (v1 + (1 : Int32)) q10)
  · refine e_iinc [some (.ref 53), some (.int (v1 + (1 : Int32))), some (.int v2)] (dt dk_X10_goWeeks 58 rfl) rfl rfl rfl rfl ?_
    refine e_goto 31 (dt dk_X10_goWeeks 59 rfl) (by decide) ?_
    exact e_forget [true, true, false] [some (.ref 53), some (.int (v1 + (1 : Int32))), none] ⟨rfl, rfl⟩ (hK31 (v1 + (1 : Int32)) (up2 M 53 21 s0))
def lb_X10_goWeeks_80 (K31 : Int32 → Mem → Option Mem) (v1 : Int32) (v2 : Int32) (s0 : Int32) (M : Mem) : Option Mem :=
  (if v2 ≤ 0 then (lb_X10_goWeeks_94 K31 v1 v2 (-6 : Int32) (up2 M 53 20 s0)) else (lb_X10_goWeeks_94 K31 v1 v2 v2 (up2 M 53 20 s0)))
set_option maxRecDepth 20000 in
set_option maxHeartbeats 2000000 in
theorem ev_lb_X10_goWeeks_80 (K31 : Int32 → Mem → Option Mem) (hK31 : ∀ (v1 : Int32) (M : Mem), Ev none wV RX10 cX10_goWeeks none 5 31 [some (.ref 53), some (.int v1), none] [] M (K31 v1 M)) (v1 : Int32) (v2 : Int32) (s0 : Int32) (M : Mem) : Ev none wV RX10 cX10_goWeeks none 5 80 [some (.ref 53), some (.int v1), some (.int v2)] [.int s0, .ref 53] M (lb_X10_goWeeks_80 K31 v1 v2 s0 M) := by
  unfold lb_X10_goWeeks_80
  refine e_putI (ty := .int) ci_X10 (dt dk_X10_goWeeks 45 rfl) rfl (by decide) rfl fl_X10_179 rfl (by decide +kernel) rfl rfl ?_
  refine e_aload_n (dt dk_X10_goWeeks 46 rfl) rfl ?_
  refine e_iload_n (dt dk_X10_goWeeks 47 rfl) rfl ?_
  refine e_if_le 92 (dt dk_X10_goWeeks 48 rfl) (by decide) (fun h8 => ?_) (fun h8 => ?_)
  · refine e_bipush (v := (-6 : Int32)) (dt dk_X10_goWeeks 51 rfl) (by decide) ?_
    exact e_forget [true, true, true] [some (.ref 53), some (.int v1), some (.int v2)] ⟨rfl, rfl⟩ (ev_lb_X10_goWeeks_94 K31 hK31 v1 v2 (-6 : Int32) (up2 M 53 20 s0))
  · refine e_iload_n (dt dk_X10_goWeeks 49 rfl) rfl ?_
    refine e_goto 94 (dt dk_X10_goWeeks 50 rfl) (by decide) ?_
    exact e_forget [true, true, true] [some (.ref 53), some (.int v1), some (.int v2)] ⟨rfl, rfl⟩ (ev_lb_X10_goWeeks_94 K31 hK31 v1 v2 v2 (up2 M 53 20 s0))
def bd_X10_goWeeks_31  (K31 : Int32 → Mem → Option Mem) (v1 : Int32) (M : Mem) : Option Mem :=
  (if (M 53 16) ≤ v1 then some M else (if 0 ≤ (M 53 20) then some M else if inb v1 60 then if inb v1 60 then if inb v1 60 then ((f_X10_whyNot (M 62 (ix v1)) (M 63 (ix v1)) (M 64 (ix v1)) M)).bind fun r6 => (if r6 ≤ 0 then (lb_X10_goWeeks_80 K31 v1 r6 (-6 : Int32) M) else (lb_X10_goWeeks_80 K31 v1 r6 v1 M)) else none else none else none))
set_option maxRecDepth 20000 in
set_option maxHeartbeats 2000000 in
theorem ev_bd_X10_goWeeks_31  (K31 : Int32 → Mem → Option Mem)  (hK31 : ∀ (v1 : Int32) (M : Mem), Ev none wV RX10 cX10_goWeeks none 5 31 [some (.ref 53), some (.int v1), none] [] M (K31 v1 M)) (v1 : Int32) (M : Mem) : Ev none wV RX10 cX10_goWeeks none 5 31 [some (.ref 53), some (.int v1), none] [] M (bd_X10_goWeeks_31 K31 v1 M) := by
  unfold bd_X10_goWeeks_31
  refine e_iload_n (dt dk_X10_goWeeks 17 rfl) rfl ?_
  refine e_aload_n (dt dk_X10_goWeeks 18 rfl) rfl ?_
  refine e_getI (v := (M 53 16)) ci_X10 (dt dk_X10_goWeeks 19 rfl) rfl (by decide) rfl fl_X10_111 rfl ?_
  refine e_icmp_ge 112 (dt dk_X10_goWeeks 20 rfl) (by decide) (fun h1 => ?_) (fun h1 => ?_)
  · exact e_vret (dt dk_X10_goWeeks 60 rfl) rfl rfl
  · refine e_aload_n (dt dk_X10_goWeeks 21 rfl) rfl ?_
    refine e_getI (v := (M 53 20)) ci_X10 (dt dk_X10_goWeeks 22 rfl) rfl (by decide) rfl fl_X10_179 rfl ?_
    refine e_if_ge 112 (dt dk_X10_goWeeks 23 rfl) (by decide) (fun h2 => ?_) (fun h2 => ?_)
    · exact e_vret (dt dk_X10_goWeeks 60 rfl) rfl rfl
    · refine e_aload_n (dt dk_X10_goWeeks 24 rfl) rfl ?_
      refine e_aload_n (dt dk_X10_goWeeks 25 rfl) rfl ?_
      refine e_getR ci_X10 (dt dk_X10_goWeeks 26 rfl) rfl (by decide) rfl fl_X10_34 ?_
      refine e_iload_n (dt dk_X10_goWeeks 27 rfl) rfl ?_
      refine e_if (fun h3 => ?_)
      refine e_iald' (v := (M 62 (ix v1))) (dt dk_X10_goWeeks 28 rfl) rfl h3 rfl ?_
      refine e_aload_n (dt dk_X10_goWeeks 29 rfl) rfl ?_
      refine e_getR ci_X10 (dt dk_X10_goWeeks 30 rfl) rfl (by decide) rfl fl_X10_37 ?_
      refine e_iload_n (dt dk_X10_goWeeks 31 rfl) rfl ?_
      refine e_if (fun h4 => ?_)
      refine e_iald' (v := (M 63 (ix v1))) (dt dk_X10_goWeeks 32 rfl) rfl h4 rfl ?_
      refine e_aload_n (dt dk_X10_goWeeks 33 rfl) rfl ?_
      refine e_getR ci_X10 (dt dk_X10_goWeeks 34 rfl) rfl (by decide) rfl fl_X10_40 ?_
      refine e_iload_n (dt dk_X10_goWeeks 35 rfl) rfl ?_
      refine e_if (fun h5 => ?_)
      refine e_iald' (v := (M 64 (ix v1))) (dt dk_X10_goWeeks 36 rfl) rfl h5 rfl ?_
      refine ev_call (ca_V (k := 53) mv_X10_whyNot (sp_X10_whyNot (M 62 (ix v1)) (M 63 (ix v1)) (M 64 (ix v1)) M) (dt dk_X10_goWeeks 37 rfl) ml_X10_185 rfl rfl rfl rfl rfl (by decide) : Ca _ _ _ _ _ _ _ _ [] _ _) (fun r6 hr6 => ?_)
      show Ev _ _ _ _ _ _ 68 [some (.ref 53), some (.int v1), none] [.int r6] M _
      refine e_istore_n [some (.ref 53), some (.int v1), some (.int r6)] (dt dk_X10_goWeeks 38 rfl) rfl rfl rfl ?_
      refine e_aload_n (dt dk_X10_goWeeks 39 rfl) rfl ?_
      refine e_iload_n (dt dk_X10_goWeeks 40 rfl) rfl ?_
      refine e_if_le 78 (dt dk_X10_goWeeks 41 rfl) (by decide) (fun h7 => ?_) (fun h7 => ?_)
      · refine e_bipush (v := (-6 : Int32)) (dt dk_X10_goWeeks 44 rfl) (by decide) ?_
        exact e_forget [true, true, true] [some (.ref 53), some (.int v1), some (.int r6)] ⟨rfl, rfl⟩ (ev_lb_X10_goWeeks_80 K31 hK31 v1 r6 (-6 : Int32) M)
      · refine e_iload_n (dt dk_X10_goWeeks 42 rfl) rfl ?_
        refine e_goto 80 (dt dk_X10_goWeeks 43 rfl) (by decide) ?_
        exact e_forget [true, true, true] [some (.ref 53), some (.int v1), some (.int r6)] ⟨rfl, rfl⟩ (ev_lb_X10_goWeeks_80 K31 hK31 v1 r6 v1 M)
def lp_X10_goWeeks_31  : Nat → Int32 → Mem → Option Mem
  | 0 => fun _ _ => none
  | n + 1 => bd_X10_goWeeks_31 (lp_X10_goWeeks_31 n)
theorem ev_lp_X10_goWeeks_31   : ∀ (n : Nat), ∀ (v1 : Int32) (M : Mem), Ev none wV RX10 cX10_goWeeks none 5 31 [some (.ref 53), some (.int v1), none] [] M (lp_X10_goWeeks_31 n v1 M)
  | 0 => fun _ _ => e_none
  | n + 1 => ev_bd_X10_goWeeks_31 (lp_X10_goWeeks_31 n) (ev_lp_X10_goWeeks_31 n)
def f_X10_goWeeks  (M : Mem) : Option Mem :=
  (lp_X10_goWeeks_31 FU (0 : Int32) (up2 (up2 (up2 (up2 (up2 M 53 20 (-6 : Int32)) 53 21 (-6 : Int32)) 53 22 (-6 : Int32)) 53 23 (-6 : Int32)) 53 17 (0 : Int32)))
set_option maxRecDepth 20000 in
set_option maxHeartbeats 2000000 in
theorem sp_X10_goWeeks  (M : Mem) : SpO wV yX10_goWeeks cX10_goWeeks 3 none 5 [.ref 53] M (f_X10_goWeeks M) := by
  refine sp_of (L := [some (.ref 53), none, none]) rfl (by decide +kernel) rfl rfl ?_
  unfold f_X10_goWeeks
  refine e_aload_n (dt dk_X10_goWeeks 0 rfl) rfl ?_
  refine e_bipush (v := (-6 : Int32)) (dt dk_X10_goWeeks 1 rfl) (by decide) ?_
  refine e_putI (ty := .int) ci_X10 (dt dk_X10_goWeeks 2 rfl) rfl (by decide) rfl fl_X10_179 rfl (by decide +kernel) rfl rfl ?_
  refine e_aload_n (dt dk_X10_goWeeks 3 rfl) rfl ?_
  refine e_bipush (v := (-6 : Int32)) (dt dk_X10_goWeeks 4 rfl) (by decide) ?_
  refine e_putI (ty := .int) ci_X10 (dt dk_X10_goWeeks 5 rfl) rfl (by decide) rfl fl_X10_182 rfl (by decide +kernel) rfl rfl ?_
  refine e_aload_n (dt dk_X10_goWeeks 6 rfl) rfl ?_
  refine e_bipush (v := (-6 : Int32)) (dt dk_X10_goWeeks 7 rfl) (by decide) ?_
  refine e_putI (ty := .int) ci_X10 (dt dk_X10_goWeeks 8 rfl) rfl (by decide) rfl fl_X10_170 rfl (by decide +kernel) rfl rfl ?_
  refine e_aload_n (dt dk_X10_goWeeks 9 rfl) rfl ?_
  refine e_bipush (v := (-6 : Int32)) (dt dk_X10_goWeeks 10 rfl) (by decide) ?_
  refine e_putI (ty := .int) ci_X10 (dt dk_X10_goWeeks 11 rfl) rfl (by decide) rfl fl_X10_176 rfl (by decide +kernel) rfl rfl ?_
  refine e_aload_n (dt dk_X10_goWeeks 12 rfl) rfl ?_
  refine e_iconst (v := (0 : Int32)) (dt dk_X10_goWeeks 13 rfl) (by decide) ?_
  refine e_putI (ty := .int) ci_X10 (dt dk_X10_goWeeks 14 rfl) rfl (by decide) rfl fl_X10_146 rfl (by decide +kernel) rfl rfl ?_
  refine e_iconst (v := (0 : Int32)) (dt dk_X10_goWeeks 15 rfl) (by decide) ?_
  refine e_istore_n [some (.ref 53), some (.int (0 : Int32)), none] (dt dk_X10_goWeeks 16 rfl) rfl rfl rfl ?_
  exact e_forget [true, true, false] [some (.ref 53), some (.int (0 : Int32)), none] ⟨rfl, rfl⟩ (ev_lp_X10_goWeeks_31 FU (0 : Int32) (up2 (up2 (up2 (up2 (up2 M 53 20 (-6 : Int32)) 53 21 (-6 : Int32)) 53 22 (-6 : Int32)) 53 23 (-6 : Int32)) 53 17 (0 : Int32)))
-- X10_refusal (W, depth 6)
def f_X10_refusal  (M : Mem) : Option (Int32 × Mem) :=
  ((f_X10_keepNow M)).bind fun q1 => ((f_X10_fault q1)).bind fun q2 => (if q2.1 < 0 then ((f_X10_goWeeks q2.2)).bind fun q4 => (if (q4 53 20) < 0 then some ((-6 : Int32), q4) else some ((-3 : Int32), q4)) else some ((-5 : Int32), q2.2))
set_option maxRecDepth 20000 in
set_option maxHeartbeats 2000000 in
theorem sp_X10_refusal  (M : Mem) : SpO wI yX10_refusal cX10_refusal 1 (some .int) 6 [.ref 53] M (f_X10_refusal M) := by
  refine sp_of (L := [some (.ref 53)]) rfl (by decide +kernel) rfl rfl ?_
  unfold f_X10_refusal
  refine e_aload_n (dt dk_X10_refusal 0 rfl) rfl ?_
  refine ev_call (ca_V (k := 53) mv_X10_keepNow (sp_X10_keepNow M) (dt dk_X10_refusal 1 rfl) ml_X10_193 rfl rfl rfl rfl rfl (by decide) : Ca _ _ _ _ _ _ _ _ [] _ _) (fun q1 hq1 => ?_)
  show Ev _ _ _ _ _ _ 4 [some (.ref 53)] [] q1 _
  refine e_aload_n (dt dk_X10_refusal 2 rfl) rfl ?_
  refine ev_call (ca_V (k := 53) mv_X10_fault (sp_X10_fault q1) (dt dk_X10_refusal 3 rfl) ml_X10_196 rfl rfl rfl rfl rfl (by decide) : Ca _ _ _ _ _ _ _ _ [] _ _) (fun q2 hq2 => ?_)
  show Ev _ _ _ _ _ _ 8 [some (.ref 53)] [.int q2.1] q2.2 _
  refine e_if_lt 14 (dt dk_X10_refusal 4 rfl) (by decide) (fun h3 => ?_) (fun h3 => ?_)
  · refine e_aload_n (dt dk_X10_refusal 7 rfl) rfl ?_
    refine ev_call (ca_V (k := 53) mv_X10_goWeeks (sp_X10_goWeeks q2.2) (dt dk_X10_refusal 8 rfl) ml_X10_199 rfl rfl rfl rfl rfl (by decide) : Ca _ _ _ _ _ _ _ _ [] _ _) (fun q4 hq4 => ?_)
    show Ev _ _ _ _ _ _ 18 [some (.ref 53)] [] q4 _
    refine e_aload_n (dt dk_X10_refusal 9 rfl) rfl ?_
    refine e_getI (v := (q4 53 20)) ci_X10 (dt dk_X10_refusal 10 rfl) rfl (by decide) rfl fl_X10_179 rfl ?_
    refine e_if_lt 30 (dt dk_X10_refusal 11 rfl) (by decide) (fun h5 => ?_) (fun h5 => ?_)
    · refine e_bipush (v := (-6 : Int32)) (dt dk_X10_refusal 14 rfl) (by decide) ?_
      exact e_iret (dt dk_X10_refusal 15 rfl) rfl rfl rfl
    · refine e_bipush (v := (-3 : Int32)) (dt dk_X10_refusal 12 rfl) (by decide) ?_
      refine e_goto 32 (dt dk_X10_refusal 13 rfl) (by decide) ?_
      exact e_iret (dt dk_X10_refusal 15 rfl) rfl rfl rfl
  · refine e_bipush (v := (-5 : Int32)) (dt dk_X10_refusal 5 rfl) (by decide) ?_
    exact e_iret (dt dk_X10_refusal 6 rfl) rfl rfl rfl
-- X10_back (W, depth 0)
def bd_X10_back_2  (K2 : Int32 → Int32 → Mem → Option (Int32 × Mem)) (v1 : Int32) (v2 : Int32) (M : Mem) : Option (Int32 × Mem) :=
  (if (8 : Int32) ≤ v2 then some (v1, (up2 (up2 (up2 M 53 5 (M 66 (ix (40 : Int32)))) 53 6 (M 66 (ix (41 : Int32)))) 53 7 (M 66 (ix (42 : Int32))))) else if inb v2 43 then if inb v2 8 then if inb ((8 : Int32) + v2) 43 then if inb v2 8 then if inb ((16 : Int32) + v2) 43 then if inb v2 8 then if inb ((24 : Int32) + v2) 43 then if inb v2 8 then if inb ((32 : Int32) + v2) 43 then if inb v2 8 then (K2 v1 (v2 + (1 : Int32)) (up2 (up2 (up2 (up2 (up2 M 54 (ix v2) (M 66 (ix v2))) 55 (ix v2) (M 66 (ix ((8 : Int32) + v2)))) 56 (ix v2) (M 66 (ix ((16 : Int32) + v2)))) 57 (ix v2) (M 66 (ix ((24 : Int32) + v2)))) 58 (ix v2) (M 66 (ix ((32 : Int32) + v2))))) else none else none else none else none else none else none else none else none else none else none)
set_option maxRecDepth 20000 in
set_option maxHeartbeats 2000000 in
theorem ev_bd_X10_back_2  (K2 : Int32 → Int32 → Mem → Option (Int32 × Mem))  (hK2 : ∀ (v1 : Int32) (v2 : Int32) (M : Mem), Ev none wI RX10 cX10_back (some .int) 0 2 [some (.ref 53), some (.int v1), some (.int v2)] [] M (K2 v1 v2 M)) (v1 : Int32) (v2 : Int32) (M : Mem) : Ev none wI RX10 cX10_back (some .int) 0 2 [some (.ref 53), some (.int v1), some (.int v2)] [] M (bd_X10_back_2 K2 v1 v2 M) := by
  unfold bd_X10_back_2
  refine e_iload_n (dt dk_X10_back 2 rfl) rfl ?_
  refine e_bipush (v := (8 : Int32)) (dt dk_X10_back 3 rfl) (by decide) ?_
  refine e_icmp_ge 86 (dt dk_X10_back 4 rfl) (by decide) (fun h1 => ?_) (fun h1 => ?_)
  · refine e_aload_n (dt dk_X10_back 55 rfl) rfl ?_
    refine e_aload_n (dt dk_X10_back 56 rfl) rfl ?_
    refine e_getR ci_X10 (dt dk_X10_back 57 rfl) rfl (by decide) rfl fl_X10_46 ?_
    refine e_bipush (v := (40 : Int32)) (dt dk_X10_back 58 rfl) (by decide) ?_
    refine e_iald' (v := (M 66 (ix (40 : Int32)))) (dt dk_X10_back 59 rfl) rfl (by decide) rfl ?_
    refine e_putI (ty := .int) ci_X10 (dt dk_X10_back 60 rfl) rfl (by decide) rfl fl_X10_74 rfl (by decide +kernel) rfl rfl ?_
    refine e_aload_n (dt dk_X10_back 61 rfl) rfl ?_
    refine e_aload_n (dt dk_X10_back 62 rfl) rfl ?_
    refine e_getR ci_X10 (dt dk_X10_back 63 rfl) rfl (by decide) rfl fl_X10_46 ?_
    refine e_bipush (v := (41 : Int32)) (dt dk_X10_back 64 rfl) (by decide) ?_
    refine e_iald' (v := (M 66 (ix (41 : Int32)))) (dt dk_X10_back 65 rfl) rfl (by decide) rfl ?_
    refine e_putI (ty := .int) ci_X10 (dt dk_X10_back 66 rfl) rfl (by decide) rfl fl_X10_143 rfl (by decide +kernel) rfl rfl ?_
    refine e_aload_n (dt dk_X10_back 67 rfl) rfl ?_
    refine e_aload_n (dt dk_X10_back 68 rfl) rfl ?_
    refine e_getR ci_X10 (dt dk_X10_back 69 rfl) rfl (by decide) rfl fl_X10_46 ?_
    refine e_bipush (v := (42 : Int32)) (dt dk_X10_back 70 rfl) (by decide) ?_
    refine e_iald' (v := (M 66 (ix (42 : Int32)))) (dt dk_X10_back 71 rfl) rfl (by decide) rfl ?_
    refine e_putI (ty := .int) ci_X10 (dt dk_X10_back 72 rfl) rfl (by decide) rfl fl_X10_134 rfl (by decide +kernel) rfl rfl ?_
    refine e_iload_n (dt dk_X10_back 73 rfl) rfl ?_
    exact e_iret (dt dk_X10_back 74 rfl) rfl rfl rfl
  · refine e_aload_n (dt dk_X10_back 5 rfl) rfl ?_
    refine e_getR ci_X10 (dt dk_X10_back 6 rfl) rfl (by decide) rfl fl_X10_7 ?_
    refine e_iload_n (dt dk_X10_back 7 rfl) rfl ?_
    refine e_aload_n (dt dk_X10_back 8 rfl) rfl ?_
    refine e_getR ci_X10 (dt dk_X10_back 9 rfl) rfl (by decide) rfl fl_X10_46 ?_
    refine e_iload_n (dt dk_X10_back 10 rfl) rfl ?_
    refine e_if (fun h2 => ?_)
    refine e_iald' (v := (M 66 (ix v2))) (dt dk_X10_back 11 rfl) rfl h2 rfl ?_
    refine e_if (fun h3 => ?_)
    refine e_iast' (dt dk_X10_back 12 rfl) rfl h3 ?_
    refine e_aload_n (dt dk_X10_back 13 rfl) rfl ?_
    refine e_getR ci_X10 (dt dk_X10_back 14 rfl) rfl (by decide) rfl fl_X10_13 ?_
    refine e_iload_n (dt dk_X10_back 15 rfl) rfl ?_
    refine e_aload_n (dt dk_X10_back 16 rfl) rfl ?_
    refine e_getR ci_X10 (dt dk_X10_back 17 rfl) rfl (by decide) rfl fl_X10_46 ?_
    refine e_bipush (v := (8 : Int32)) (dt dk_X10_back 18 rfl) (by decide) ?_
    refine e_iload_n (dt dk_X10_back 19 rfl) rfl ?_
    refine e_iadd (dt dk_X10_back 20 rfl) ?_
    refine e_if (fun h4 => ?_)
    refine e_iald' (v := (M 66 (ix ((8 : Int32) + v2)))) (dt dk_X10_back 21 rfl) rfl h4 rfl ?_
    refine e_if (fun h5 => ?_)
    refine e_iast' (dt dk_X10_back 22 rfl) rfl h5 ?_
    refine e_aload_n (dt dk_X10_back 23 rfl) rfl ?_
    refine e_getR ci_X10 (dt dk_X10_back 24 rfl) rfl (by decide) rfl fl_X10_16 ?_
    refine e_iload_n (dt dk_X10_back 25 rfl) rfl ?_
    refine e_aload_n (dt dk_X10_back 26 rfl) rfl ?_
    refine e_getR ci_X10 (dt dk_X10_back 27 rfl) rfl (by decide) rfl fl_X10_46 ?_
    refine e_bipush (v := (16 : Int32)) (dt dk_X10_back 28 rfl) (by decide) ?_
    refine e_iload_n (dt dk_X10_back 29 rfl) rfl ?_
    refine e_iadd (dt dk_X10_back 30 rfl) ?_
    refine e_if (fun h6 => ?_)
    refine e_iald' (v := (M 66 (ix ((16 : Int32) + v2)))) (dt dk_X10_back 31 rfl) rfl h6 rfl ?_
    refine e_if (fun h7 => ?_)
    refine e_iast' (dt dk_X10_back 32 rfl) rfl h7 ?_
    refine e_aload_n (dt dk_X10_back 33 rfl) rfl ?_
    refine e_getR ci_X10 (dt dk_X10_back 34 rfl) rfl (by decide) rfl fl_X10_19 ?_
    refine e_iload_n (dt dk_X10_back 35 rfl) rfl ?_
    refine e_aload_n (dt dk_X10_back 36 rfl) rfl ?_
    refine e_getR ci_X10 (dt dk_X10_back 37 rfl) rfl (by decide) rfl fl_X10_46 ?_
    refine e_bipush (v := (24 : Int32)) (dt dk_X10_back 38 rfl) (by decide) ?_
    refine e_iload_n (dt dk_X10_back 39 rfl) rfl ?_
    refine e_iadd (dt dk_X10_back 40 rfl) ?_
    refine e_if (fun h8 => ?_)
    refine e_iald' (v := (M 66 (ix ((24 : Int32) + v2)))) (dt dk_X10_back 41 rfl) rfl h8 rfl ?_
    refine e_if (fun h9 => ?_)
    refine e_iast' (dt dk_X10_back 42 rfl) rfl h9 ?_
    refine e_aload_n (dt dk_X10_back 43 rfl) rfl ?_
    refine e_getR ci_X10 (dt dk_X10_back 44 rfl) rfl (by decide) rfl fl_X10_22 ?_
    refine e_iload_n (dt dk_X10_back 45 rfl) rfl ?_
    refine e_aload_n (dt dk_X10_back 46 rfl) rfl ?_
    refine e_getR ci_X10 (dt dk_X10_back 47 rfl) rfl (by decide) rfl fl_X10_46 ?_
    refine e_bipush (v := (32 : Int32)) (dt dk_X10_back 48 rfl) (by decide) ?_
    refine e_iload_n (dt dk_X10_back 49 rfl) rfl ?_
    refine e_iadd (dt dk_X10_back 50 rfl) ?_
    refine e_if (fun h10 => ?_)
    refine e_iald' (v := (M 66 (ix ((32 : Int32) + v2)))) (dt dk_X10_back 51 rfl) rfl h10 rfl ?_
    refine e_if (fun h11 => ?_)
    refine e_iast' (dt dk_X10_back 52 rfl) rfl h11 ?_
    refine e_iinc [some (.ref 53), some (.int v1), some (.int (v2 + (1 : Int32)))] (dt dk_X10_back 53 rfl) rfl rfl rfl rfl ?_
    refine e_goto 2 (dt dk_X10_back 54 rfl) (by decide) ?_
    exact e_forget [true, true, true] [some (.ref 53), some (.int v1), some (.int (v2 + (1 : Int32)))] ⟨rfl, rfl⟩ (hK2 v1 (v2 + (1 : Int32)) (up2 (up2 (up2 (up2 (up2 M 54 (ix v2) (M 66 (ix v2))) 55 (ix v2) (M 66 (ix ((8 : Int32) + v2)))) 56 (ix v2) (M 66 (ix ((16 : Int32) + v2)))) 57 (ix v2) (M 66 (ix ((24 : Int32) + v2)))) 58 (ix v2) (M 66 (ix ((32 : Int32) + v2)))))
def lp_X10_back_2  : Nat → Int32 → Int32 → Mem → Option (Int32 × Mem)
  | 0 => fun _ _ _ => none
  | n + 1 => bd_X10_back_2 (lp_X10_back_2 n)
theorem ev_lp_X10_back_2   : ∀ (n : Nat), ∀ (v1 : Int32) (v2 : Int32) (M : Mem), Ev none wI RX10 cX10_back (some .int) 0 2 [some (.ref 53), some (.int v1), some (.int v2)] [] M (lp_X10_back_2 n v1 v2 M)
  | 0 => fun _ _ _ => e_none
  | n + 1 => ev_bd_X10_back_2 (lp_X10_back_2 n) (ev_lp_X10_back_2 n)
def f_X10_back (v1 : Int32) (M : Mem) : Option (Int32 × Mem) :=
  (lp_X10_back_2 FU v1 (0 : Int32) M)
set_option maxRecDepth 20000 in
set_option maxHeartbeats 2000000 in
theorem sp_X10_back (v1 : Int32) (M : Mem) : SpO wI yX10_back cX10_back 3 (some .int) 0 [.ref 53, .int v1] M (f_X10_back v1 M) := by
  refine sp_of (L := [some (.ref 53), some (.int v1), none]) rfl (by decide +kernel) rfl rfl ?_
  unfold f_X10_back
  refine e_iconst (v := (0 : Int32)) (dt dk_X10_back 0 rfl) (by decide) ?_
  refine e_istore_n [some (.ref 53), some (.int v1), some (.int (0 : Int32))] (dt dk_X10_back 1 rfl) rfl rfl rfl ?_
  exact e_forget [true, true, true] [some (.ref 53), some (.int v1), some (.int (0 : Int32))] ⟨rfl, rfl⟩ (ev_lp_X10_back_2 FU v1 (0 : Int32) M)
-- X10_judge (W, depth 7)
def lb_X10_judge_43  (v1 : Int32) (M : Mem) : Option (Int32 × Mem) :=
  (if v1 = 0 then some ((M 53 20), M) else (if v1 = (1 : Int32) then some ((M 53 21), M) else some ((M 53 17), M)))
set_option maxRecDepth 20000 in
set_option maxHeartbeats 2000000 in
theorem ev_lb_X10_judge_43   (v1 : Int32) (M : Mem) : Ev none wI RX10 cX10_judge (some .int) 7 43 [some (.ref 53), some (.int v1), none] [] M (lb_X10_judge_43 v1 M) := by
  unfold lb_X10_judge_43
  refine e_iload_n (dt dk_X10_judge 24 rfl) rfl ?_
  refine e_if_ne 54 (dt dk_X10_judge 25 rfl) (by decide) (fun h6 => ?_) (fun h6 => ?_)
  · refine e_aload_n (dt dk_X10_judge 26 rfl) rfl ?_
    refine e_getI (v := (M 53 20)) ci_X10 (dt dk_X10_judge 27 rfl) rfl (by decide) rfl fl_X10_179 rfl ?_
    refine e_goto 70 (dt dk_X10_judge 28 rfl) (by decide) ?_
    exact e_iret (dt dk_X10_judge 37 rfl) rfl rfl rfl
  · refine e_iload_n (dt dk_X10_judge 29 rfl) rfl ?_
    refine e_iconst (v := (1 : Int32)) (dt dk_X10_judge 30 rfl) (by decide) ?_
    refine e_icmp_ne 66 (dt dk_X10_judge 31 rfl) (by decide) (fun h7 => ?_) (fun h7 => ?_)
    · refine e_aload_n (dt dk_X10_judge 32 rfl) rfl ?_
      refine e_getI (v := (M 53 21)) ci_X10 (dt dk_X10_judge 33 rfl) rfl (by decide) rfl fl_X10_182 rfl ?_
      refine e_goto 70 (dt dk_X10_judge 34 rfl) (by decide) ?_
      exact e_iret (dt dk_X10_judge 37 rfl) rfl rfl rfl
    · refine e_aload_n (dt dk_X10_judge 35 rfl) rfl ?_
      refine e_getI (v := (M 53 17)) ci_X10 (dt dk_X10_judge 36 rfl) rfl (by decide) rfl fl_X10_146 rfl ?_
      exact e_iret (dt dk_X10_judge 37 rfl) rfl rfl rfl
def f_X10_judge (v1 : Int32) (M : Mem) : Option (Int32 × Mem) :=
  (if (f_X10_in (Int32.toInt64 v1) (0 : Int64) (2 : Int64)) = 0 then some ((-2 : Int32), M) else ((f_X10_refusal M)).bind fun q2 => ((f_X10_back q2.1 q2.2)).bind fun q3 => (if q3.1 = (-5 : Int32) then some (q3.1, q3.2) else (if v1 ≤ (1 : Int32) then (lb_X10_judge_43 v1 q3.2) else (if q3.1 = (-3 : Int32) then some (q3.1, q3.2) else (lb_X10_judge_43 v1 q3.2)))))
set_option maxRecDepth 20000 in
set_option maxHeartbeats 2000000 in
theorem sp_X10_judge (v1 : Int32) (M : Mem) : SpO wI yX10_judge cX10_judge 3 (some .int) 7 [.ref 53, .int v1] M (f_X10_judge v1 M) := by
  refine sp_of (L := [some (.ref 53), some (.int v1), none]) rfl (by decide +kernel) rfl rfl ?_
  unfold f_X10_judge
  refine e_iload_n (dt dk_X10_judge 0 rfl) rfl ?_
  refine e_i2l (dt dk_X10_judge 1 rfl) ?_
  refine e_lconst (v := (0 : Int64)) (dt dk_X10_judge 2 rfl) (by decide) ?_
  refine e_ldc2 (v := (2 : Int64)) (dt dk_X10_judge 3 rfl) kl_X10_202 ?_
  refine ev_callT (ca_S ms_X10_in (sp_X10_in (Int32.toInt64 v1) (0 : Int64) (2 : Int64) M) (dt dk_X10_judge 4 rfl) ml_X10_80 rfl rfl rfl (by decide) : Ca _ _ _ _ _ _ _ _ [] _ _) ?_
  show Ev _ _ _ _ _ _ 9 [some (.ref 53), some (.int v1), none] [.int (f_X10_in (Int32.toInt64 v1) (0 : Int64) (2 : Int64))] M _
  refine e_if_ne 15 (dt dk_X10_judge 5 rfl) (by decide) (fun h1 => ?_) (fun h1 => ?_)
  · refine e_bipush (v := (-2 : Int32)) (dt dk_X10_judge 6 rfl) (by decide) ?_
    exact e_iret (dt dk_X10_judge 7 rfl) rfl rfl rfl
  · refine e_aload_n (dt dk_X10_judge 8 rfl) rfl ?_
    refine e_aload_n (dt dk_X10_judge 9 rfl) rfl ?_
    refine ev_call (ca_V (k := 53) mv_X10_refusal (sp_X10_refusal M) (dt dk_X10_judge 10 rfl) ml_X10_204 rfl rfl rfl rfl rfl (by decide) : Ca _ _ _ _ _ _ _ _ [.ref 53] _ _) (fun q2 hq2 => ?_)
    show Ev _ _ _ _ _ _ 20 [some (.ref 53), some (.int v1), none] [.int q2.1, .ref 53] q2.2 _
    refine ev_call (ca_V (k := 53) mv_X10_back (sp_X10_back q2.1 q2.2) (dt dk_X10_judge 11 rfl) ml_X10_207 rfl rfl rfl rfl rfl (by decide) : Ca _ _ _ _ _ _ _ _ [] _ _) (fun q3 hq3 => ?_)
    show Ev _ _ _ _ _ _ 23 [some (.ref 53), some (.int v1), none] [.int q3.1] q3.2 _
    refine e_istore_n [some (.ref 53), some (.int v1), some (.int q3.1)] (dt dk_X10_judge 12 rfl) rfl rfl rfl ?_
    refine e_iload_n (dt dk_X10_judge 13 rfl) rfl ?_
    refine e_bipush (v := (-5 : Int32)) (dt dk_X10_judge 14 rfl) (by decide) ?_
    refine e_icmp_eq 41 (dt dk_X10_judge 15 rfl) (by decide) (fun h4 => ?_) (fun h4 => ?_)
    · refine e_iload_n (dt dk_X10_judge 22 rfl) rfl ?_
      exact e_iret (dt dk_X10_judge 23 rfl) rfl rfl rfl
    · refine e_iload_n (dt dk_X10_judge 16 rfl) rfl ?_
      refine e_iconst (v := (1 : Int32)) (dt dk_X10_judge 17 rfl) (by decide) ?_
      refine e_icmp_le 43 (dt dk_X10_judge 18 rfl) (by decide) (fun h5 => ?_) (fun h5 => ?_)
      · exact e_forget [true, true, false] [some (.ref 53), some (.int v1), none] ⟨rfl, rfl⟩ (ev_lb_X10_judge_43 v1 q3.2)
      · refine e_iload_n (dt dk_X10_judge 19 rfl) rfl ?_
        refine e_bipush (v := (-3 : Int32)) (dt dk_X10_judge 20 rfl) (by decide) ?_
        refine e_icmp_ne 43 (dt dk_X10_judge 21 rfl) (by decide) (fun h8 => ?_) (fun h8 => ?_)
        · refine e_iload_n (dt dk_X10_judge 22 rfl) rfl ?_
          exact e_iret (dt dk_X10_judge 23 rfl) rfl rfl rfl
        · exact e_forget [true, true, false] [some (.ref 53), some (.int v1), none] ⟨rfl, rfl⟩ (ev_lb_X10_judge_43 v1 q3.2)
-- X10_ofHouse (R, depth 0)
def f_X10_ofHouse (v1 : Int32) (v2 : Int32) (M : Mem) : Option Int32 :=
  (if v2 = 0 then if inb v1 8 then some (M 54 (ix v1)) else none else (if v2 = (1 : Int32) then if inb v1 8 then some (M 55 (ix v1)) else none else (if v2 = (2 : Int32) then if inb v1 8 then some (M 56 (ix v1)) else none else if inb v1 8 then some (M 57 (ix v1)) else none)))
set_option maxRecDepth 20000 in
set_option maxHeartbeats 2000000 in
theorem sp_X10_ofHouse (v1 : Int32) (v2 : Int32) (M : Mem) : SpO (wR M) yX10_ofHouse cX10_ofHouse 3 (some .int) 0 [.ref 53, .int v1, .int v2] M (f_X10_ofHouse v1 v2 M) := by
  refine sp_of (L := [some (.ref 53), some (.int v1), some (.int v2)]) rfl (by decide +kernel) rfl rfl ?_
  unfold f_X10_ofHouse
  refine e_iload_n (dt dk_X10_ofHouse 0 rfl) rfl ?_
  refine e_if_ne 13 (dt dk_X10_ofHouse 1 rfl) (by decide) (fun h1 => ?_) (fun h1 => ?_)
  · refine e_aload_n (dt dk_X10_ofHouse 2 rfl) rfl ?_
    refine e_getR ci_X10 (dt dk_X10_ofHouse 3 rfl) rfl (by decide) rfl fl_X10_7 ?_
    refine e_iload_n (dt dk_X10_ofHouse 4 rfl) rfl ?_
    refine e_if (fun h7 => ?_)
    refine e_iald' (v := (M 54 (ix v1))) (dt dk_X10_ofHouse 5 rfl) rfl h7 rfl ?_
    refine e_goto 47 (dt dk_X10_ofHouse 6 rfl) (by decide) ?_
    exact e_iret (dt dk_X10_ofHouse 27 rfl) rfl rfl rfl
  · refine e_iload_n (dt dk_X10_ofHouse 7 rfl) rfl ?_
    refine e_iconst (v := (1 : Int32)) (dt dk_X10_ofHouse 8 rfl) (by decide) ?_
    refine e_icmp_ne 27 (dt dk_X10_ofHouse 9 rfl) (by decide) (fun h2 => ?_) (fun h2 => ?_)
    · refine e_aload_n (dt dk_X10_ofHouse 10 rfl) rfl ?_
      refine e_getR ci_X10 (dt dk_X10_ofHouse 11 rfl) rfl (by decide) rfl fl_X10_13 ?_
      refine e_iload_n (dt dk_X10_ofHouse 12 rfl) rfl ?_
      refine e_if (fun h6 => ?_)
      refine e_iald' (v := (M 55 (ix v1))) (dt dk_X10_ofHouse 13 rfl) rfl h6 rfl ?_
      refine e_goto 47 (dt dk_X10_ofHouse 14 rfl) (by decide) ?_
      exact e_iret (dt dk_X10_ofHouse 27 rfl) rfl rfl rfl
    · refine e_iload_n (dt dk_X10_ofHouse 15 rfl) rfl ?_
      refine e_iconst (v := (2 : Int32)) (dt dk_X10_ofHouse 16 rfl) (by decide) ?_
      refine e_icmp_ne 41 (dt dk_X10_ofHouse 17 rfl) (by decide) (fun h3 => ?_) (fun h3 => ?_)
      · refine e_aload_n (dt dk_X10_ofHouse 18 rfl) rfl ?_
        refine e_getR ci_X10 (dt dk_X10_ofHouse 19 rfl) rfl (by decide) rfl fl_X10_16 ?_
        refine e_iload_n (dt dk_X10_ofHouse 20 rfl) rfl ?_
        refine e_if (fun h5 => ?_)
        refine e_iald' (v := (M 56 (ix v1))) (dt dk_X10_ofHouse 21 rfl) rfl h5 rfl ?_
        refine e_goto 47 (dt dk_X10_ofHouse 22 rfl) (by decide) ?_
        exact e_iret (dt dk_X10_ofHouse 27 rfl) rfl rfl rfl
      · refine e_aload_n (dt dk_X10_ofHouse 23 rfl) rfl ?_
        refine e_getR ci_X10 (dt dk_X10_ofHouse 24 rfl) rfl (by decide) rfl fl_X10_19 ?_
        refine e_iload_n (dt dk_X10_ofHouse 25 rfl) rfl ?_
        refine e_if (fun h4 => ?_)
        refine e_iald' (v := (M 57 (ix v1))) (dt dk_X10_ofHouse 26 rfl) rfl h4 rfl ?_
        exact e_iret (dt dk_X10_ofHouse 27 rfl) rfl rfl rfl
-- X10_behind (W, depth 7)
def lb_X10_behind_46  (s0 : Int32) (M : Mem) : Option (Int32 × Mem) :=
  ((f_X10_back s0 M)).bind fun q6 => some (q6.1, q6.2)
set_option maxRecDepth 20000 in
set_option maxHeartbeats 2000000 in
theorem ev_lb_X10_behind_46   (s0 : Int32) (M : Mem) : Ev none wI RX10 cX10_behind (some .int) 7 46 [none, none, none, none] [.int s0, .ref 53] M (lb_X10_behind_46 s0 M) := by
  unfold lb_X10_behind_46
  refine ev_call (ca_V (k := 53) mv_X10_back (sp_X10_back s0 M) (dt dk_X10_behind 26 rfl) ml_X10_207 rfl rfl rfl rfl rfl (by decide) : Ca _ _ _ _ _ _ _ _ [] _ _) (fun q6 hq6 => ?_)
  show Ev _ _ _ _ _ _ 49 [none, none, none, none] [.int q6.1] q6.2 _
  exact e_iret (dt dk_X10_behind 27 rfl) rfl rfl rfl
def f_X10_behind (v1 : Int32) (v2 : Int32) (M : Mem) : Option (Int32 × Mem) :=
  (if (f_X10_isHouse v1) = 0 then some ((-1 : Int32), M) else (if (f_X10_in (Int32.toInt64 v2) (0 : Int64) (3 : Int64)) = 0 then some ((-2 : Int32), M) else ((f_X10_refusal M)).bind fun q3 => (if q3.1 = (-6 : Int32) then ((f_X10_ofHouse v1 v2 q3.2)).bind fun r5 => (lb_X10_behind_46 r5 q3.2) else (lb_X10_behind_46 q3.1 q3.2))))
set_option maxRecDepth 20000 in
set_option maxHeartbeats 2000000 in
theorem sp_X10_behind (v1 : Int32) (v2 : Int32) (M : Mem) : SpO wI yX10_behind cX10_behind 4 (some .int) 7 [.ref 53, .int v1, .int v2] M (f_X10_behind v1 v2 M) := by
  refine sp_of (L := [some (.ref 53), some (.int v1), some (.int v2), none]) rfl (by decide +kernel) rfl rfl ?_
  unfold f_X10_behind
  refine e_iload_n (dt dk_X10_behind 0 rfl) rfl ?_
  refine ev_callT (ca_S ms_X10_isHouse (sp_X10_isHouse v1 M) (dt dk_X10_behind 1 rfl) ml_X10_84 rfl rfl rfl (by decide) : Ca _ _ _ _ _ _ _ _ [] _ _) ?_
  show Ev _ _ _ _ _ _ 4 [some (.ref 53), some (.int v1), some (.int v2), none] [.int (f_X10_isHouse v1)] M _
  refine e_if_ne 9 (dt dk_X10_behind 2 rfl) (by decide) (fun h1 => ?_) (fun h1 => ?_)
  · refine e_iconst (v := (-1 : Int32)) (dt dk_X10_behind 3 rfl) (by decide) ?_
    exact e_iret (dt dk_X10_behind 4 rfl) rfl rfl rfl
  · refine e_iload_n (dt dk_X10_behind 5 rfl) rfl ?_
    refine e_i2l (dt dk_X10_behind 6 rfl) ?_
    refine e_lconst (v := (0 : Int64)) (dt dk_X10_behind 7 rfl) (by decide) ?_
    refine e_ldc2 (v := (3 : Int64)) (dt dk_X10_behind 8 rfl) kl_X10_210 ?_
    refine ev_callT (ca_S ms_X10_in (sp_X10_in (Int32.toInt64 v2) (0 : Int64) (3 : Int64) M) (dt dk_X10_behind 9 rfl) ml_X10_80 rfl rfl rfl (by decide) : Ca _ _ _ _ _ _ _ _ [] _ _) ?_
    show Ev _ _ _ _ _ _ 18 [some (.ref 53), some (.int v1), some (.int v2), none] [.int (f_X10_in (Int32.toInt64 v2) (0 : Int64) (3 : Int64))] M _
    refine e_if_ne 24 (dt dk_X10_behind 10 rfl) (by decide) (fun h2 => ?_) (fun h2 => ?_)
    · refine e_bipush (v := (-2 : Int32)) (dt dk_X10_behind 11 rfl) (by decide) ?_
      exact e_iret (dt dk_X10_behind 12 rfl) rfl rfl rfl
    · refine e_aload_n (dt dk_X10_behind 13 rfl) rfl ?_
      refine ev_call (ca_V (k := 53) mv_X10_refusal (sp_X10_refusal M) (dt dk_X10_behind 14 rfl) ml_X10_204 rfl rfl rfl rfl rfl (by decide) : Ca _ _ _ _ _ _ _ _ [] _ _) (fun q3 hq3 => ?_)
      show Ev _ _ _ _ _ _ 28 [some (.ref 53), some (.int v1), some (.int v2), none] [.int q3.1] q3.2 _
      refine e_istore_n [some (.ref 53), some (.int v1), some (.int v2), some (.int q3.1)] (dt dk_X10_behind 15 rfl) rfl rfl rfl ?_
      refine e_aload_n (dt dk_X10_behind 16 rfl) rfl ?_
      refine e_iload_n (dt dk_X10_behind 17 rfl) rfl ?_
      refine e_bipush (v := (-6 : Int32)) (dt dk_X10_behind 18 rfl) (by decide) ?_
      refine e_icmp_eq 40 (dt dk_X10_behind 19 rfl) (by decide) (fun h4 => ?_) (fun h4 => ?_)
      · refine e_aload_n (dt dk_X10_behind 22 rfl) rfl ?_
        refine e_iload_n (dt dk_X10_behind 23 rfl) rfl ?_
        refine e_iload_n (dt dk_X10_behind 24 rfl) rfl ?_
        refine ev_call (ca_V (k := 53) mv_X10_ofHouse (sp_X10_ofHouse v1 v2 q3.2) (dt dk_X10_behind 25 rfl) ml_X10_212 rfl rfl rfl rfl rfl (by decide) : Ca _ _ _ _ _ _ _ _ [.ref 53] _ _) (fun r5 hr5 => ?_)
        show Ev _ _ _ _ _ _ 46 [some (.ref 53), some (.int v1), some (.int v2), some (.int q3.1)] [.int r5, .ref 53] q3.2 _
        exact e_forget [false, false, false, false] [none, none, none, none] ⟨rfl, rfl⟩ (ev_lb_X10_behind_46 r5 q3.2)
      · refine e_iload_n (dt dk_X10_behind 20 rfl) rfl ?_
        refine e_goto 46 (dt dk_X10_behind 21 rfl) (by decide) ?_
        exact e_forget [false, false, false, false] [none, none, none, none] ⟨rfl, rfl⟩ (ev_lb_X10_behind_46 q3.1 q3.2)
-- X10_allDoubts (R, depth 0)
def bd_X10_allDoubts_4 (M : Mem)  (K4 : Int32 → Int32 → Option Int32) (v1 : Int32) (v2 : Int32) : Option Int32 :=
  (if (8 : Int32) ≤ v2 then some v1 else if inb v2 8 then (K4 (v1 + (M 54 (ix v2))) (v2 + (1 : Int32))) else none)
set_option maxRecDepth 20000 in
set_option maxHeartbeats 2000000 in
theorem ev_bd_X10_allDoubts_4 (M : Mem)  (K4 : Int32 → Int32 → Option Int32)  (hK4 : ∀ (v1 : Int32) (v2 : Int32), Ev none (wR M) RX10 cX10_allDoubts (some .int) 0 4 [some (.ref 53), some (.int v1), some (.int v2)] [] M (K4 v1 v2)) (v1 : Int32) (v2 : Int32) : Ev none (wR M) RX10 cX10_allDoubts (some .int) 0 4 [some (.ref 53), some (.int v1), some (.int v2)] [] M (bd_X10_allDoubts_4 M K4 v1 v2) := by
  unfold bd_X10_allDoubts_4
  refine e_iload_n (dt dk_X10_allDoubts 4 rfl) rfl ?_
  refine e_bipush (v := (8 : Int32)) (dt dk_X10_allDoubts 5 rfl) (by decide) ?_
  refine e_icmp_ge 25 (dt dk_X10_allDoubts 6 rfl) (by decide) (fun h1 => ?_) (fun h1 => ?_)
  · refine e_iload_n (dt dk_X10_allDoubts 16 rfl) rfl ?_
    exact e_iret (dt dk_X10_allDoubts 17 rfl) rfl rfl rfl
  · refine e_iload_n (dt dk_X10_allDoubts 7 rfl) rfl ?_
    refine e_aload_n (dt dk_X10_allDoubts 8 rfl) rfl ?_
    refine e_getR ci_X10 (dt dk_X10_allDoubts 9 rfl) rfl (by decide) rfl fl_X10_7 ?_
    refine e_iload_n (dt dk_X10_allDoubts 10 rfl) rfl ?_
    refine e_if (fun h2 => ?_)
    refine e_iald' (v := (M 54 (ix v2))) (dt dk_X10_allDoubts 11 rfl) rfl h2 rfl ?_
    refine e_iadd (dt dk_X10_allDoubts 12 rfl) ?_
    refine e_istore_n [some (.ref 53), some (.int (v1 + (M 54 (ix v2)))), some (.int v2)] (dt dk_X10_allDoubts 13 rfl) rfl rfl rfl ?_
    refine e_iinc [some (.ref 53), some (.int (v1 + (M 54 (ix v2)))), some (.int (v2 + (1 : Int32)))] (dt dk_X10_allDoubts 14 rfl) rfl rfl rfl rfl ?_
    refine e_goto 4 (dt dk_X10_allDoubts 15 rfl) (by decide) ?_
    exact e_forget [true, true, true] [some (.ref 53), some (.int (v1 + (M 54 (ix v2)))), some (.int (v2 + (1 : Int32)))] ⟨rfl, rfl⟩ (hK4 (v1 + (M 54 (ix v2))) (v2 + (1 : Int32)))
def lp_X10_allDoubts_4 (M : Mem)  : Nat → Int32 → Int32 → Option Int32
  | 0 => fun _ _ => none
  | n + 1 => bd_X10_allDoubts_4 M (lp_X10_allDoubts_4 M n)
theorem ev_lp_X10_allDoubts_4 (M : Mem)   : ∀ (n : Nat), ∀ (v1 : Int32) (v2 : Int32), Ev none (wR M) RX10 cX10_allDoubts (some .int) 0 4 [some (.ref 53), some (.int v1), some (.int v2)] [] M (lp_X10_allDoubts_4 M n v1 v2)
  | 0 => fun _ _ => e_none
  | n + 1 => ev_bd_X10_allDoubts_4 M (lp_X10_allDoubts_4 M n) (ev_lp_X10_allDoubts_4 M n)
def f_X10_allDoubts  (M : Mem) : Option Int32 :=
  (lp_X10_allDoubts_4 M FU (0 : Int32) (0 : Int32))
set_option maxRecDepth 20000 in
set_option maxHeartbeats 2000000 in
theorem sp_X10_allDoubts  (M : Mem) : SpO (wR M) yX10_allDoubts cX10_allDoubts 3 (some .int) 0 [.ref 53] M (f_X10_allDoubts M) := by
  refine sp_of (L := [some (.ref 53), none, none]) rfl (by decide +kernel) rfl rfl ?_
  unfold f_X10_allDoubts
  refine e_iconst (v := (0 : Int32)) (dt dk_X10_allDoubts 0 rfl) (by decide) ?_
  refine e_istore_n [some (.ref 53), some (.int (0 : Int32)), none] (dt dk_X10_allDoubts 1 rfl) rfl rfl rfl ?_
  refine e_iconst (v := (0 : Int32)) (dt dk_X10_allDoubts 2 rfl) (by decide) ?_
  refine e_istore_n [some (.ref 53), some (.int (0 : Int32)), some (.int (0 : Int32))] (dt dk_X10_allDoubts 3 rfl) rfl rfl rfl ?_
  exact e_forget [true, true, true] [some (.ref 53), some (.int (0 : Int32)), some (.int (0 : Int32))] ⟨rfl, rfl⟩ (ev_lp_X10_allDoubts_4 M FU (0 : Int32) (0 : Int32))
-- X10_ofTown (R, depth 1)
def f_X10_ofTown (v1 : Int32) (M : Mem) : Option Int32 :=
  (if v1 = (0 : Int32) then ((f_X10_allDoubts M)).bind fun r2 => some r2 else if v1 = (1 : Int32) then some (M 53 5) else if v1 = (2 : Int32) then some (M 53 6) else if v1 = (3 : Int32) then some (M 53 7) else ((f_X10_clear M)).bind fun r6 => some r6)
set_option maxRecDepth 20000 in
set_option maxHeartbeats 2000000 in
theorem sp_X10_ofTown (v1 : Int32) (M : Mem) : SpO (wR M) yX10_ofTown cX10_ofTown 2 (some .int) 1 [.ref 53, .int v1] M (f_X10_ofTown v1 M) := by
  refine sp_of (L := [some (.ref 53), some (.int v1)]) rfl (by decide +kernel) rfl rfl ?_
  unfold f_X10_ofTown
  refine e_iload_n (dt dk_X10_ofTown 0 rfl) rfl ?_
  refine e_split (fun h1 => ?_) (fun h1 => ?_)
  · refine e_tableIn 32 (dt dk_X10_ofTown 1 rfl) (by rw [h1]; decide) (by rw [h1]; decide) (by rw [h1]; rfl) (by decide) ?_
    refine e_aload_n (dt dk_X10_ofTown 2 rfl) rfl ?_
    refine ev_call (ca_V (k := 53) mv_X10_allDoubts (sp_X10_allDoubts M) (dt dk_X10_ofTown 3 rfl) ml_X10_215 rfl rfl rfl rfl rfl (by decide) : Ca _ _ _ _ _ _ _ _ [] _ _) (fun r2 hr2 => ?_)
    show Ev _ _ _ _ _ _ 36 [some (.ref 53), some (.int v1)] [.int r2] M _
    exact e_iret (dt dk_X10_ofTown 4 rfl) rfl rfl rfl
  · skip
    refine e_split (fun h3 => ?_) (fun h3 => ?_)
    · refine e_tableIn 37 (dt dk_X10_ofTown 1 rfl) (by rw [h3]; decide) (by rw [h3]; decide) (by rw [h3]; rfl) (by decide) ?_
      refine e_aload_n (dt dk_X10_ofTown 5 rfl) rfl ?_
      refine e_getI (v := (M 53 5)) ci_X10 (dt dk_X10_ofTown 6 rfl) rfl (by decide) rfl fl_X10_74 rfl ?_
      exact e_iret (dt dk_X10_ofTown 7 rfl) rfl rfl rfl
    · skip
      refine e_split (fun h4 => ?_) (fun h4 => ?_)
      · refine e_tableIn 42 (dt dk_X10_ofTown 1 rfl) (by rw [h4]; decide) (by rw [h4]; decide) (by rw [h4]; rfl) (by decide) ?_
        refine e_aload_n (dt dk_X10_ofTown 8 rfl) rfl ?_
        refine e_getI (v := (M 53 6)) ci_X10 (dt dk_X10_ofTown 9 rfl) rfl (by decide) rfl fl_X10_143 rfl ?_
        exact e_iret (dt dk_X10_ofTown 10 rfl) rfl rfl rfl
      · skip
        refine e_split (fun h5 => ?_) (fun h5 => ?_)
        · refine e_tableIn 47 (dt dk_X10_ofTown 1 rfl) (by rw [h5]; decide) (by rw [h5]; decide) (by rw [h5]; rfl) (by decide) ?_
          refine e_aload_n (dt dk_X10_ofTown 11 rfl) rfl ?_
          refine e_getI (v := (M 53 7)) ci_X10 (dt dk_X10_ofTown 12 rfl) rfl (by decide) rfl fl_X10_134 rfl ?_
          exact e_iret (dt dk_X10_ofTown 13 rfl) rfl rfl rfl
        · skip
          refine e_tableOut 52 (dt dk_X10_ofTown 1 rfl) (sw_out 3 (by simp only [List.range, List.range.loop, List.all_cons, List.all_nil]; simp [h1, h3, h4, h5])) (by decide) ?_
          refine e_aload_n (dt dk_X10_ofTown 14 rfl) rfl ?_
          refine ev_call (ca_V (k := 53) mv_X10_clear (sp_X10_clear M) (dt dk_X10_ofTown 15 rfl) ml_X10_162 rfl rfl rfl rfl rfl (by decide) : Ca _ _ _ _ _ _ _ _ [] _ _) (fun r6 hr6 => ?_)
          show Ev _ _ _ _ _ _ 56 [some (.ref 53), some (.int v1)] [.int r6] M _
          exact e_iret (dt dk_X10_ofTown 16 rfl) rfl rfl rfl
-- X10_town (W, depth 7)
def lb_X10_town_36  (s0 : Int32) (M : Mem) : Option (Int32 × Mem) :=
  ((f_X10_back s0 M)).bind fun q5 => some (q5.1, q5.2)
set_option maxRecDepth 20000 in
set_option maxHeartbeats 2000000 in
theorem ev_lb_X10_town_36   (s0 : Int32) (M : Mem) : Ev none wI RX10 cX10_town (some .int) 7 36 [none, none, none] [.int s0, .ref 53] M (lb_X10_town_36 s0 M) := by
  unfold lb_X10_town_36
  refine ev_call (ca_V (k := 53) mv_X10_back (sp_X10_back s0 M) (dt dk_X10_town 20 rfl) ml_X10_207 rfl rfl rfl rfl rfl (by decide) : Ca _ _ _ _ _ _ _ _ [] _ _) (fun q5 hq5 => ?_)
  show Ev _ _ _ _ _ _ 39 [none, none, none] [.int q5.1] q5.2 _
  exact e_iret (dt dk_X10_town 21 rfl) rfl rfl rfl
def f_X10_town (v1 : Int32) (M : Mem) : Option (Int32 × Mem) :=
  (if (f_X10_in (Int32.toInt64 v1) (0 : Int64) (4 : Int64)) = 0 then some ((-2 : Int32), M) else ((f_X10_refusal M)).bind fun q2 => (if q2.1 = (-6 : Int32) then ((f_X10_ofTown v1 q2.2)).bind fun r4 => (lb_X10_town_36 r4 q2.2) else (lb_X10_town_36 q2.1 q2.2)))
set_option maxRecDepth 20000 in
set_option maxHeartbeats 2000000 in
theorem sp_X10_town (v1 : Int32) (M : Mem) : SpO wI yX10_town cX10_town 3 (some .int) 7 [.ref 53, .int v1] M (f_X10_town v1 M) := by
  refine sp_of (L := [some (.ref 53), some (.int v1), none]) rfl (by decide +kernel) rfl rfl ?_
  unfold f_X10_town
  refine e_iload_n (dt dk_X10_town 0 rfl) rfl ?_
  refine e_i2l (dt dk_X10_town 1 rfl) ?_
  refine e_lconst (v := (0 : Int64)) (dt dk_X10_town 2 rfl) (by decide) ?_
  refine e_ldc2 (v := (4 : Int64)) (dt dk_X10_town 3 rfl) kl_X10_218 ?_
  refine ev_callT (ca_S ms_X10_in (sp_X10_in (Int32.toInt64 v1) (0 : Int64) (4 : Int64) M) (dt dk_X10_town 4 rfl) ml_X10_80 rfl rfl rfl (by decide) : Ca _ _ _ _ _ _ _ _ [] _ _) ?_
  show Ev _ _ _ _ _ _ 9 [some (.ref 53), some (.int v1), none] [.int (f_X10_in (Int32.toInt64 v1) (0 : Int64) (4 : Int64))] M _
  refine e_if_ne 15 (dt dk_X10_town 5 rfl) (by decide) (fun h1 => ?_) (fun h1 => ?_)
  · refine e_bipush (v := (-2 : Int32)) (dt dk_X10_town 6 rfl) (by decide) ?_
    exact e_iret (dt dk_X10_town 7 rfl) rfl rfl rfl
  · refine e_aload_n (dt dk_X10_town 8 rfl) rfl ?_
    refine ev_call (ca_V (k := 53) mv_X10_refusal (sp_X10_refusal M) (dt dk_X10_town 9 rfl) ml_X10_204 rfl rfl rfl rfl rfl (by decide) : Ca _ _ _ _ _ _ _ _ [] _ _) (fun q2 hq2 => ?_)
    show Ev _ _ _ _ _ _ 19 [some (.ref 53), some (.int v1), none] [.int q2.1] q2.2 _
    refine e_istore_n [some (.ref 53), some (.int v1), some (.int q2.1)] (dt dk_X10_town 10 rfl) rfl rfl rfl ?_
    refine e_aload_n (dt dk_X10_town 11 rfl) rfl ?_
    refine e_iload_n (dt dk_X10_town 12 rfl) rfl ?_
    refine e_bipush (v := (-6 : Int32)) (dt dk_X10_town 13 rfl) (by decide) ?_
    refine e_icmp_eq 31 (dt dk_X10_town 14 rfl) (by decide) (fun h3 => ?_) (fun h3 => ?_)
    · refine e_aload_n (dt dk_X10_town 17 rfl) rfl ?_
      refine e_iload_n (dt dk_X10_town 18 rfl) rfl ?_
      refine ev_call (ca_V (k := 53) mv_X10_ofTown (sp_X10_ofTown v1 q2.2) (dt dk_X10_town 19 rfl) ml_X10_220 rfl rfl rfl rfl rfl (by decide) : Ca _ _ _ _ _ _ _ _ [.ref 53] _ _) (fun r4 hr4 => ?_)
      show Ev _ _ _ _ _ _ 36 [some (.ref 53), some (.int v1), some (.int q2.1)] [.int r4, .ref 53] q2.2 _
      exact e_forget [false, false, false] [none, none, none] ⟨rfl, rfl⟩ (ev_lb_X10_town_36 r4 q2.2)
    · refine e_iload_n (dt dk_X10_town 15 rfl) rfl ?_
      refine e_goto 36 (dt dk_X10_town 16 rfl) (by decide) ?_
      exact e_forget [false, false, false] [none, none, none] ⟨rfl, rfl⟩ (ev_lb_X10_town_36 q2.1 q2.2)
-- X10_rid (W, depth 7)
def f_X10_rid (v1 : Int32) (M : Mem) : Option (Int32 × Mem) :=
  (if (f_X10_in (Int32.toInt64 v1) (0 : Int64) (1 : Int64)) = 0 then some ((-2 : Int32), M) else ((f_X10_refusal M)).bind fun q2 => ((f_X10_back q2.1 q2.2)).bind fun q3 => (if q3.1 = (-6 : Int32) then (if v1 = 0 then some ((q3.2 53 22), q3.2) else some ((q3.2 53 23), q3.2)) else some (q3.1, q3.2)))
set_option maxRecDepth 20000 in
set_option maxHeartbeats 2000000 in
theorem sp_X10_rid (v1 : Int32) (M : Mem) : SpO wI yX10_rid cX10_rid 3 (some .int) 7 [.ref 53, .int v1] M (f_X10_rid v1 M) := by
  refine sp_of (L := [some (.ref 53), some (.int v1), none]) rfl (by decide +kernel) rfl rfl ?_
  unfold f_X10_rid
  refine e_iload_n (dt dk_X10_rid 0 rfl) rfl ?_
  refine e_i2l (dt dk_X10_rid 1 rfl) ?_
  refine e_lconst (v := (0 : Int64)) (dt dk_X10_rid 2 rfl) (by decide) ?_
  refine e_lconst (v := (1 : Int64)) (dt dk_X10_rid 3 rfl) (by decide) ?_
  refine ev_callT (ca_S ms_X10_in (sp_X10_in (Int32.toInt64 v1) (0 : Int64) (1 : Int64) M) (dt dk_X10_rid 4 rfl) ml_X10_80 rfl rfl rfl (by decide) : Ca _ _ _ _ _ _ _ _ [] _ _) ?_
  show Ev _ _ _ _ _ _ 7 [some (.ref 53), some (.int v1), none] [.int (f_X10_in (Int32.toInt64 v1) (0 : Int64) (1 : Int64))] M _
  refine e_if_ne 13 (dt dk_X10_rid 5 rfl) (by decide) (fun h1 => ?_) (fun h1 => ?_)
  · refine e_bipush (v := (-2 : Int32)) (dt dk_X10_rid 6 rfl) (by decide) ?_
    exact e_iret (dt dk_X10_rid 7 rfl) rfl rfl rfl
  · refine e_aload_n (dt dk_X10_rid 8 rfl) rfl ?_
    refine e_aload_n (dt dk_X10_rid 9 rfl) rfl ?_
    refine ev_call (ca_V (k := 53) mv_X10_refusal (sp_X10_refusal M) (dt dk_X10_rid 10 rfl) ml_X10_204 rfl rfl rfl rfl rfl (by decide) : Ca _ _ _ _ _ _ _ _ [.ref 53] _ _) (fun q2 hq2 => ?_)
    show Ev _ _ _ _ _ _ 18 [some (.ref 53), some (.int v1), none] [.int q2.1, .ref 53] q2.2 _
    refine ev_call (ca_V (k := 53) mv_X10_back (sp_X10_back q2.1 q2.2) (dt dk_X10_rid 11 rfl) ml_X10_207 rfl rfl rfl rfl rfl (by decide) : Ca _ _ _ _ _ _ _ _ [] _ _) (fun q3 hq3 => ?_)
    show Ev _ _ _ _ _ _ 21 [some (.ref 53), some (.int v1), none] [.int q3.1] q3.2 _
    refine e_istore_n [some (.ref 53), some (.int v1), some (.int q3.1)] (dt dk_X10_rid 12 rfl) rfl rfl rfl ?_
    refine e_iload_n (dt dk_X10_rid 13 rfl) rfl ?_
    refine e_bipush (v := (-6 : Int32)) (dt dk_X10_rid 14 rfl) (by decide) ?_
    refine e_icmp_eq 32 (dt dk_X10_rid 15 rfl) (by decide) (fun h4 => ?_) (fun h4 => ?_)
    · refine e_iload_n (dt dk_X10_rid 18 rfl) rfl ?_
      refine e_if_ne 43 (dt dk_X10_rid 19 rfl) (by decide) (fun h5 => ?_) (fun h5 => ?_)
      · refine e_aload_n (dt dk_X10_rid 20 rfl) rfl ?_
        refine e_getI (v := (q3.2 53 22)) ci_X10 (dt dk_X10_rid 21 rfl) rfl (by decide) rfl fl_X10_170 rfl ?_
        refine e_goto 47 (dt dk_X10_rid 22 rfl) (by decide) ?_
        exact e_iret (dt dk_X10_rid 25 rfl) rfl rfl rfl
      · refine e_aload_n (dt dk_X10_rid 23 rfl) rfl ?_
        refine e_getI (v := (q3.2 53 23)) ci_X10 (dt dk_X10_rid 24 rfl) rfl (by decide) rfl fl_X10_176 rfl ?_
        exact e_iret (dt dk_X10_rid 25 rfl) rfl rfl rfl
    · refine e_iload_n (dt dk_X10_rid 16 rfl) rfl ?_
      refine e_goto 47 (dt dk_X10_rid 17 rfl) (by decide) ?_
      exact e_iret (dt dk_X10_rid 25 rfl) rfl rfl rfl
-- X10_done (W, depth 7)
def f_X10_done  (M : Mem) : Option (Int32 × Mem) :=
  ((f_X10_refusal M)).bind fun q1 => (if q1.1 = (-6 : Int32) then some ((q1.2 53 16), (up2 q1.2 53 12 (0 : Int32))) else ((f_X10_back q1.1 q1.2)).bind fun q3 => some (q3.1, q3.2))
set_option maxRecDepth 20000 in
set_option maxHeartbeats 2000000 in
theorem sp_X10_done  (M : Mem) : SpO wI yX10_done cX10_done 2 (some .int) 7 [.ref 53] M (f_X10_done M) := by
  refine sp_of (L := [some (.ref 53), none]) rfl (by decide +kernel) rfl rfl ?_
  unfold f_X10_done
  refine e_aload_n (dt dk_X10_done 0 rfl) rfl ?_
  refine ev_call (ca_V (k := 53) mv_X10_refusal (sp_X10_refusal M) (dt dk_X10_done 1 rfl) ml_X10_204 rfl rfl rfl rfl rfl (by decide) : Ca _ _ _ _ _ _ _ _ [] _ _) (fun q1 hq1 => ?_)
  show Ev _ _ _ _ _ _ 4 [some (.ref 53), none] [.int q1.1] q1.2 _
  refine e_istore_n [some (.ref 53), some (.int q1.1)] (dt dk_X10_done 2 rfl) rfl rfl rfl ?_
  refine e_iload_n (dt dk_X10_done 3 rfl) rfl ?_
  refine e_bipush (v := (-6 : Int32)) (dt dk_X10_done 4 rfl) (by decide) ?_
  refine e_icmp_eq 17 (dt dk_X10_done 5 rfl) (by decide) (fun h2 => ?_) (fun h2 => ?_)
  · refine e_aload_n (dt dk_X10_done 10 rfl) rfl ?_
    refine e_iconst (v := (0 : Int32)) (dt dk_X10_done 11 rfl) (by decide) ?_
    refine e_putI (ty := .int) ci_X10 (dt dk_X10_done 12 rfl) rfl (by decide) rfl fl_X10_108 rfl (by decide +kernel) rfl rfl ?_
    refine e_aload_n (dt dk_X10_done 13 rfl) rfl ?_
    refine e_getI (v := (q1.2 53 16)) ci_X10 (dt dk_X10_done 14 rfl) rfl (by decide) rfl fl_X10_111 rfl ?_
    exact e_iret (dt dk_X10_done 15 rfl) rfl rfl rfl
  · refine e_aload_n (dt dk_X10_done 6 rfl) rfl ?_
    refine e_iload_n (dt dk_X10_done 7 rfl) rfl ?_
    refine ev_call (ca_V (k := 53) mv_X10_back (sp_X10_back q1.1 q1.2) (dt dk_X10_done 8 rfl) ml_X10_207 rfl rfl rfl rfl rfl (by decide) : Ca _ _ _ _ _ _ _ _ [] _ _) (fun q3 hq3 => ?_)
    show Ev _ _ _ _ _ _ 16 [some (.ref 53), some (.int q1.1)] [.int q3.1] q3.2 _
    exact e_iret (dt dk_X10_done 9 rfl) rfl rfl rfl
-- X10_alone (R, depth 2)
def bd_X10_alone_69  (K69 : Int32 → Int32 → Int32 → Int32 → Int32 → Option Int32) (v2 : Int32) (v3 : Int32) (v5 : Int32) (v6 : Int32) (v7 : Int32) : Option Int32 :=
  (if (200 : Int32) ≤ v7 then some (-6 : Int32) else (if v6 = v5 then some v7 else (K69 v2 v3 v5 ((f_X10_grown v6 v2) - (f_X10_less (f_X10_grown v6 v2) v3)) (v7 + (1 : Int32)))))
set_option maxRecDepth 20000 in
set_option maxHeartbeats 2000000 in
theorem ev_bd_X10_alone_69 (M : Mem)  (K69 : Int32 → Int32 → Int32 → Int32 → Int32 → Option Int32)  (hK69 : ∀ (v2 : Int32) (v3 : Int32) (v5 : Int32) (v6 : Int32) (v7 : Int32), Ev none (wR M) RX10 cX10_alone (some .int) 2 69 [none, none, some (.int v2), some (.int v3), none, some (.int v5), some (.int v6), some (.int v7), none] [] M (K69 v2 v3 v5 v6 v7)) (v2 : Int32) (v3 : Int32) (v5 : Int32) (v6 : Int32) (v7 : Int32) : Ev none (wR M) RX10 cX10_alone (some .int) 2 69 [none, none, some (.int v2), some (.int v3), none, some (.int v5), some (.int v6), some (.int v7), none] [] M (bd_X10_alone_69 K69 v2 v3 v5 v6 v7) := by
  unfold bd_X10_alone_69
  refine e_iload (dt dk_X10_alone 36 rfl) rfl ?_
  refine e_sipush (v := (200 : Int32)) (dt dk_X10_alone 37 rfl) (by decide) ?_
  refine e_icmp_ge 112 (dt dk_X10_alone 38 rfl) (by decide) (fun h6 => ?_) (fun h6 => ?_)
  · refine e_bipush (v := (-6 : Int32)) (dt dk_X10_alone 56 rfl) (by decide) ?_
    exact e_iret (dt dk_X10_alone 57 rfl) rfl rfl rfl
  · refine e_iload (dt dk_X10_alone 39 rfl) rfl ?_
    refine e_iload (dt dk_X10_alone 40 rfl) rfl ?_
    refine e_icmp_ne 87 (dt dk_X10_alone 41 rfl) (by decide) (fun h7 => ?_) (fun h7 => ?_)
    · refine e_iload (dt dk_X10_alone 42 rfl) rfl ?_
      exact e_iret (dt dk_X10_alone 43 rfl) rfl rfl rfl
    · refine e_iload (dt dk_X10_alone 44 rfl) rfl ?_
      refine e_iload_n (dt dk_X10_alone 45 rfl) rfl ?_
      refine ev_callT (ca_S ms_X10_grown (sp_X10_grown v6 v2 M) (dt dk_X10_alone 46 rfl) ml_X10_140 rfl rfl rfl (by decide) : Ca _ _ _ _ _ _ _ _ [] _ _) ?_
      show Ev _ _ _ _ _ _ 93 [none, none, some (.int v2), some (.int v3), none, some (.int v5), some (.int v6), some (.int v7), none] [.int (f_X10_grown v6 v2)] M _
      refine e_istore [none, none, some (.int v2), some (.int v3), none, some (.int v5), some (.int v6), some (.int v7), some (.int (f_X10_grown v6 v2))] (dt dk_X10_alone 47 rfl) rfl rfl rfl ?_
      refine e_iload (dt dk_X10_alone 48 rfl) rfl ?_
      refine e_iload (dt dk_X10_alone 49 rfl) rfl ?_
      refine e_iload_n (dt dk_X10_alone 50 rfl) rfl ?_
      refine ev_callT (ca_S ms_X10_less (sp_X10_less (f_X10_grown v6 v2) v3 M) (dt dk_X10_alone 51 rfl) ml_X10_137 rfl rfl rfl (by decide) : Ca _ _ _ _ _ _ _ _ [.int (f_X10_grown v6 v2)] _ _) ?_
      show Ev _ _ _ _ _ _ 103 [none, none, some (.int v2), some (.int v3), none, some (.int v5), some (.int v6), some (.int v7), some (.int (f_X10_grown v6 v2))] [.int (f_X10_less (f_X10_grown v6 v2) v3), .int (f_X10_grown v6 v2)] M _
      refine e_isub (dt dk_X10_alone 52 rfl) ?_
      refine e_istore [none, none, some (.int v2), some (.int v3), none, some (.int v5), some (.int ((f_X10_grown v6 v2) - (f_X10_less (f_X10_grown v6 v2) v3))), some (.int v7), some (.int (f_X10_grown v6 v2))] (dt dk_X10_alone 53 rfl) rfl rfl rfl ?_
      refine e_iinc [none, none, some (.int v2), some (.int v3), none, some (.int v5), some (.int ((f_X10_grown v6 v2) - (f_X10_less (f_X10_grown v6 v2) v3))), some (.int (v7 + (1 : Int32))), some (.int (f_X10_grown v6 v2))] (dt dk_X10_alone 54 rfl) rfl rfl rfl rfl ?_
      refine e_goto 69 (dt dk_X10_alone 55 rfl) (by decide) ?_
      exact e_forget [false, false, true, true, false, true, true, true, false] [none, none, some (.int v2), some (.int v3), none, some (.int v5), some (.int ((f_X10_grown v6 v2) - (f_X10_less (f_X10_grown v6 v2) v3))), some (.int (v7 + (1 : Int32))), none] ⟨rfl, rfl⟩ (hK69 v2 v3 v5 ((f_X10_grown v6 v2) - (f_X10_less (f_X10_grown v6 v2) v3)) (v7 + (1 : Int32)))
def lp_X10_alone_69  : Nat → Int32 → Int32 → Int32 → Int32 → Int32 → Option Int32
  | 0 => fun _ _ _ _ _ => none
  | n + 1 => bd_X10_alone_69 (lp_X10_alone_69 n)
theorem ev_lp_X10_alone_69 (M : Mem)   : ∀ (n : Nat), ∀ (v2 : Int32) (v3 : Int32) (v5 : Int32) (v6 : Int32) (v7 : Int32), Ev none (wR M) RX10 cX10_alone (some .int) 2 69 [none, none, some (.int v2), some (.int v3), none, some (.int v5), some (.int v6), some (.int v7), none] [] M (lp_X10_alone_69 n v2 v3 v5 v6 v7)
  | 0 => fun _ _ _ _ _ => e_none
  | n + 1 => ev_bd_X10_alone_69 M (lp_X10_alone_69 n) (ev_lp_X10_alone_69 M n)
def lb_X10_alone_61  (v1 : Int32) (v2 : Int32) (v3 : Int32) (s0 : Int32) : Option Int32 :=
  (lp_X10_alone_69 FU v2 v3 s0 v1 (0 : Int32))
set_option maxRecDepth 20000 in
set_option maxHeartbeats 2000000 in
theorem ev_lb_X10_alone_61 (M : Mem)   (v1 : Int32) (v2 : Int32) (v3 : Int32) (s0 : Int32) : Ev none (wR M) RX10 cX10_alone (some .int) 2 61 [none, some (.int v1), some (.int v2), some (.int v3), none, none, none, none, none] [.int s0] M (lb_X10_alone_61 v1 v2 v3 s0) := by
  unfold lb_X10_alone_61
  refine e_istore [none, some (.int v1), some (.int v2), some (.int v3), none, some (.int s0), none, none, none] (dt dk_X10_alone 31 rfl) rfl rfl rfl ?_
  refine e_iload_n (dt dk_X10_alone 32 rfl) rfl ?_
  refine e_istore [none, some (.int v1), some (.int v2), some (.int v3), none, some (.int s0), some (.int v1), none, none] (dt dk_X10_alone 33 rfl) rfl rfl rfl ?_
  refine e_iconst (v := (0 : Int32)) (dt dk_X10_alone 34 rfl) (by decide) ?_
  refine e_istore [none, some (.int v1), some (.int v2), some (.int v3), none, some (.int s0), some (.int v1), some (.int (0 : Int32)), none] (dt dk_X10_alone 35 rfl) rfl rfl rfl ?_
  exact e_forget [false, false, true, true, false, true, true, true, false] [none, none, some (.int v2), some (.int v3), none, some (.int s0), some (.int v1), some (.int (0 : Int32)), none] ⟨rfl, rfl⟩ (ev_lp_X10_alone_69 M FU v2 v3 s0 v1 (0 : Int32))
def f_X10_alone (v1 : Int32) (v2 : Int32) (v3 : Int32) (v4 : Int32) : Option Int32 :=
  (if (f_X10_in (Int32.toInt64 v1) (0 : Int64) (99 : Int64)) = 0 then some (-2 : Int32) else (if (f_X10_in (Int32.toInt64 v2) (0 : Int64) (9 : Int64)) = 0 then some (-2 : Int32) else (if (f_X10_in (Int32.toInt64 v3) (0 : Int64) (9 : Int64)) = 0 then some (-2 : Int32) else (if (f_X10_in (Int32.toInt64 v4) (0 : Int64) (1 : Int64)) = 0 then some (-2 : Int32) else (if v4 = 0 then (lb_X10_alone_61 v1 v2 v3 (0 : Int32)) else (lb_X10_alone_61 v1 v2 v3 (99 : Int32)))))))
set_option maxRecDepth 20000 in
set_option maxHeartbeats 2000000 in
theorem sp_X10_alone (v1 : Int32) (v2 : Int32) (v3 : Int32) (v4 : Int32) (M : Mem) : SpO (wR M) yX10_alone cX10_alone 9 (some .int) 2 [.ref 53, .int v1, .int v2, .int v3, .int v4] M (f_X10_alone v1 v2 v3 v4) := by
  refine sp_of (L := [some (.ref 53), some (.int v1), some (.int v2), some (.int v3), some (.int v4), none, none, none, none]) rfl (by decide +kernel) rfl rfl ?_
  unfold f_X10_alone
  refine e_iload_n (dt dk_X10_alone 0 rfl) rfl ?_
  refine e_i2l (dt dk_X10_alone 1 rfl) ?_
  refine e_lconst (v := (0 : Int64)) (dt dk_X10_alone 2 rfl) (by decide) ?_
  refine e_ldc2 (v := (99 : Int64)) (dt dk_X10_alone 3 rfl) kl_X10_88 ?_
  refine ev_callT (ca_S ms_X10_in (sp_X10_in (Int32.toInt64 v1) (0 : Int64) (99 : Int64) M) (dt dk_X10_alone 4 rfl) ml_X10_80 rfl rfl rfl (by decide) : Ca _ _ _ _ _ _ _ _ [] _ _) ?_
  show Ev _ _ _ _ _ _ 9 [some (.ref 53), some (.int v1), some (.int v2), some (.int v3), some (.int v4), none, none, none, none] [.int (f_X10_in (Int32.toInt64 v1) (0 : Int64) (99 : Int64))] M _
  refine e_if_eq 47 (dt dk_X10_alone 5 rfl) (by decide) (fun h1 => ?_) (fun h1 => ?_)
  · refine e_bipush (v := (-2 : Int32)) (dt dk_X10_alone 24 rfl) (by decide) ?_
    exact e_iret (dt dk_X10_alone 25 rfl) rfl rfl rfl
  · refine e_iload_n (dt dk_X10_alone 6 rfl) rfl ?_
    refine e_i2l (dt dk_X10_alone 7 rfl) ?_
    refine e_lconst (v := (0 : Int64)) (dt dk_X10_alone 8 rfl) (by decide) ?_
    refine e_ldc2 (v := (9 : Int64)) (dt dk_X10_alone 9 rfl) kl_X10_90 ?_
    refine ev_callT (ca_S ms_X10_in (sp_X10_in (Int32.toInt64 v2) (0 : Int64) (9 : Int64) M) (dt dk_X10_alone 10 rfl) ml_X10_80 rfl rfl rfl (by decide) : Ca _ _ _ _ _ _ _ _ [] _ _) ?_
    show Ev _ _ _ _ _ _ 21 [some (.ref 53), some (.int v1), some (.int v2), some (.int v3), some (.int v4), none, none, none, none] [.int (f_X10_in (Int32.toInt64 v2) (0 : Int64) (9 : Int64))] M _
    refine e_if_eq 47 (dt dk_X10_alone 11 rfl) (by decide) (fun h2 => ?_) (fun h2 => ?_)
    · refine e_bipush (v := (-2 : Int32)) (dt dk_X10_alone 24 rfl) (by decide) ?_
      exact e_iret (dt dk_X10_alone 25 rfl) rfl rfl rfl
    · refine e_iload_n (dt dk_X10_alone 12 rfl) rfl ?_
      refine e_i2l (dt dk_X10_alone 13 rfl) ?_
      refine e_lconst (v := (0 : Int64)) (dt dk_X10_alone 14 rfl) (by decide) ?_
      refine e_ldc2 (v := (9 : Int64)) (dt dk_X10_alone 15 rfl) kl_X10_90 ?_
      refine ev_callT (ca_S ms_X10_in (sp_X10_in (Int32.toInt64 v3) (0 : Int64) (9 : Int64) M) (dt dk_X10_alone 16 rfl) ml_X10_80 rfl rfl rfl (by decide) : Ca _ _ _ _ _ _ _ _ [] _ _) ?_
      show Ev _ _ _ _ _ _ 33 [some (.ref 53), some (.int v1), some (.int v2), some (.int v3), some (.int v4), none, none, none, none] [.int (f_X10_in (Int32.toInt64 v3) (0 : Int64) (9 : Int64))] M _
      refine e_if_eq 47 (dt dk_X10_alone 17 rfl) (by decide) (fun h3 => ?_) (fun h3 => ?_)
      · refine e_bipush (v := (-2 : Int32)) (dt dk_X10_alone 24 rfl) (by decide) ?_
        exact e_iret (dt dk_X10_alone 25 rfl) rfl rfl rfl
      · refine e_iload (dt dk_X10_alone 18 rfl) rfl ?_
        refine e_i2l (dt dk_X10_alone 19 rfl) ?_
        refine e_lconst (v := (0 : Int64)) (dt dk_X10_alone 20 rfl) (by decide) ?_
        refine e_lconst (v := (1 : Int64)) (dt dk_X10_alone 21 rfl) (by decide) ?_
        refine ev_callT (ca_S ms_X10_in (sp_X10_in (Int32.toInt64 v4) (0 : Int64) (1 : Int64) M) (dt dk_X10_alone 22 rfl) ml_X10_80 rfl rfl rfl (by decide) : Ca _ _ _ _ _ _ _ _ [] _ _) ?_
        show Ev _ _ _ _ _ _ 44 [some (.ref 53), some (.int v1), some (.int v2), some (.int v3), some (.int v4), none, none, none, none] [.int (f_X10_in (Int32.toInt64 v4) (0 : Int64) (1 : Int64))] M _
        refine e_if_ne 50 (dt dk_X10_alone 23 rfl) (by decide) (fun h4 => ?_) (fun h4 => ?_)
        · refine e_bipush (v := (-2 : Int32)) (dt dk_X10_alone 24 rfl) (by decide) ?_
          exact e_iret (dt dk_X10_alone 25 rfl) rfl rfl rfl
        · refine e_iload (dt dk_X10_alone 26 rfl) rfl ?_
          refine e_if_ne 59 (dt dk_X10_alone 27 rfl) (by decide) (fun h5 => ?_) (fun h5 => ?_)
          · refine e_iconst (v := (0 : Int32)) (dt dk_X10_alone 28 rfl) (by decide) ?_
            refine e_goto 61 (dt dk_X10_alone 29 rfl) (by decide) ?_
            exact e_forget [false, true, true, true, false, false, false, false, false] [none, some (.int v1), some (.int v2), some (.int v3), none, none, none, none, none] ⟨rfl, rfl⟩ (ev_lb_X10_alone_61 M v1 v2 v3 (0 : Int32))
          · refine e_bipush (v := (99 : Int32)) (dt dk_X10_alone 30 rfl) (by decide) ?_
            exact e_forget [false, true, true, true, false, false, false, false, false] [none, some (.int v1), some (.int v2), some (.int v3), none, none, none, none, none] ⟨rfl, rfl⟩ (ev_lb_X10_alone_61 M v1 v2 v3 (99 : Int32))
-- X10_isWatched (R, depth 1)
def lb_X10_isWatched_39 (M : Mem) (K4 : Int32 → Int32 → Int32 → Option Int32) (v1 : Int32) (v3 : Int32) : Option Int32 :=
  (K4 v1 (0 : Int32) (v3 + (1 : Int32)))
set_option maxRecDepth 20000 in
set_option maxHeartbeats 2000000 in
theorem ev_lb_X10_isWatched_39 (M : Mem) (K4 : Int32 → Int32 → Int32 → Option Int32) (hK4 : ∀ (v1 : Int32) (v2 : Int32) (v3 : Int32), Ev none (wR M) RX10 cX10_isWatched (some .boolean) 1 4 [some (.ref 53), some (.int v1), some (.int v2), some (.int v3)] [] M (K4 v1 v2 v3)) (v1 : Int32) (v3 : Int32) : Ev none (wR M) RX10 cX10_isWatched (some .boolean) 1 39 [some (.ref 53), some (.int v1), none, some (.int v3)] [] M (lb_X10_isWatched_39 M K4 v1 v3) := by
  unfold lb_X10_isWatched_39
  refine e_iconst (v := (0 : Int32)) (dt dk_X10_isWatched 24 rfl) (by decide) ?_
  refine e_istore_n [some (.ref 53), some (.int v1), some (.int (0 : Int32)), some (.int v3)] (dt dk_X10_isWatched 25 rfl) rfl rfl rfl ?_
  refine e_iinc [some (.ref 53), some (.int v1), some (.int (0 : Int32)), some (.int (v3 + (1 : Int32)))] (dt dk_X10_isWatched 26 rfl) rfl rfl rfl rfl ?_
  refine e_goto 4 (dt dk_X10_isWatched 27 rfl) (by decide) ?_
  exact e_forget [true, true, true, true] [some (.ref 53), some (.int v1), some (.int (0 : Int32)), some (.int (v3 + (1 : Int32)))] ⟨rfl, rfl⟩ (hK4 v1 (0 : Int32) (v3 + (1 : Int32)))
def bd_X10_isWatched_4 (M : Mem)  (K4 : Int32 → Int32 → Int32 → Option Int32) (v1 : Int32) (v2 : Int32) (v3 : Int32) : Option Int32 :=
  (if (8 : Int32) ≤ v3 then (if v2 = 0 ∨ v2 = 1 then some v2 else none) else (if v2 = 0 then (lb_X10_isWatched_39 M K4 v1 v3) else (if (f_X10_has v1 v3) = 0 then if inb v3 8 then (if ((M 58 (ix v3)) &&& (v1 ^^^ (-1 : Int32))) = 0 then (K4 v1 (1 : Int32) (v3 + (1 : Int32))) else (lb_X10_isWatched_39 M K4 v1 v3)) else none else (K4 v1 (1 : Int32) (v3 + (1 : Int32))))))
set_option maxRecDepth 20000 in
set_option maxHeartbeats 2000000 in
theorem ev_bd_X10_isWatched_4 (M : Mem)  (K4 : Int32 → Int32 → Int32 → Option Int32)  (hK4 : ∀ (v1 : Int32) (v2 : Int32) (v3 : Int32), Ev none (wR M) RX10 cX10_isWatched (some .boolean) 1 4 [some (.ref 53), some (.int v1), some (.int v2), some (.int v3)] [] M (K4 v1 v2 v3)) (v1 : Int32) (v2 : Int32) (v3 : Int32) : Ev none (wR M) RX10 cX10_isWatched (some .boolean) 1 4 [some (.ref 53), some (.int v1), some (.int v2), some (.int v3)] [] M (bd_X10_isWatched_4 M K4 v1 v2 v3) := by
  unfold bd_X10_isWatched_4
  refine e_iload_n (dt dk_X10_isWatched 4 rfl) rfl ?_
  refine e_bipush (v := (8 : Int32)) (dt dk_X10_isWatched 5 rfl) (by decide) ?_
  refine e_icmp_ge 47 (dt dk_X10_isWatched 6 rfl) (by decide) (fun h1 => ?_) (fun h1 => ?_)
  · refine e_iload_n (dt dk_X10_isWatched 28 rfl) rfl ?_
    exact e_zret (dt dk_X10_isWatched 29 rfl) rfl rfl
  · refine e_iload_n (dt dk_X10_isWatched 7 rfl) rfl ?_
    refine e_if_eq 39 (dt dk_X10_isWatched 8 rfl) (by decide) (fun h2 => ?_) (fun h2 => ?_)
    · exact e_forget [true, true, false, true] [some (.ref 53), some (.int v1), none, some (.int v3)] ⟨rfl, rfl⟩ (ev_lb_X10_isWatched_39 M K4 hK4 v1 v3)
    · refine e_iload_n (dt dk_X10_isWatched 9 rfl) rfl ?_
      refine e_iload_n (dt dk_X10_isWatched 10 rfl) rfl ?_
      refine ev_callT (ca_S ms_X10_has (sp_X10_has v1 v3 M) (dt dk_X10_isWatched 11 rfl) ml_X10_149 rfl rfl rfl (by decide) : Ca _ _ _ _ _ _ _ _ [] _ _) ?_
      show Ev _ _ _ _ _ _ 19 [some (.ref 53), some (.int v1), some (.int v2), some (.int v3)] [.int (f_X10_has v1 v3)] M _
      refine e_if_ne 35 (dt dk_X10_isWatched 12 rfl) (by decide) (fun h3 => ?_) (fun h3 => ?_)
      · refine e_aload_n (dt dk_X10_isWatched 13 rfl) rfl ?_
        refine e_getR ci_X10 (dt dk_X10_isWatched 14 rfl) rfl (by decide) rfl fl_X10_22 ?_
        refine e_iload_n (dt dk_X10_isWatched 15 rfl) rfl ?_
        refine e_if (fun h4 => ?_)
        refine e_iald' (v := (M 58 (ix v3))) (dt dk_X10_isWatched 16 rfl) rfl h4 rfl ?_
        refine e_iload_n (dt dk_X10_isWatched 17 rfl) rfl ?_
        refine e_iconst (v := (-1 : Int32)) (dt dk_X10_isWatched 18 rfl) (by decide) ?_
        refine e_ixor (dt dk_X10_isWatched 19 rfl) ?_
        refine e_iand (dt dk_X10_isWatched 20 rfl) ?_
        refine e_if_ne 39 (dt dk_X10_isWatched 21 rfl) (by decide) (fun h5 => ?_) (fun h5 => ?_)
        · refine e_iconst (v := (1 : Int32)) (dt dk_X10_isWatched 22 rfl) (by decide) ?_
          refine e_goto 40 (dt dk_X10_isWatched 23 rfl) (by decide) ?_
          refine e_istore_n [some (.ref 53), some (.int v1), some (.int (1 : Int32)), some (.int v3)] (dt dk_X10_isWatched 25 rfl) rfl rfl rfl ?_
          refine e_iinc [some (.ref 53), some (.int v1), some (.int (1 : Int32)), some (.int (v3 + (1 : Int32)))] (dt dk_X10_isWatched 26 rfl) rfl rfl rfl rfl ?_
          refine e_goto 4 (dt dk_X10_isWatched 27 rfl) (by decide) ?_
          exact e_forget [true, true, true, true] [some (.ref 53), some (.int v1), some (.int (1 : Int32)), some (.int (v3 + (1 : Int32)))] ⟨rfl, rfl⟩ (hK4 v1 (1 : Int32) (v3 + (1 : Int32)))
        · exact e_forget [true, true, false, true] [some (.ref 53), some (.int v1), none, some (.int v3)] ⟨rfl, rfl⟩ (ev_lb_X10_isWatched_39 M K4 hK4 v1 v3)
      · refine e_iconst (v := (1 : Int32)) (dt dk_X10_isWatched 22 rfl) (by decide) ?_
        refine e_goto 40 (dt dk_X10_isWatched 23 rfl) (by decide) ?_
        refine e_istore_n [some (.ref 53), some (.int v1), some (.int (1 : Int32)), some (.int v3)] (dt dk_X10_isWatched 25 rfl) rfl rfl rfl ?_
        refine e_iinc [some (.ref 53), some (.int v1), some (.int (1 : Int32)), some (.int (v3 + (1 : Int32)))] (dt dk_X10_isWatched 26 rfl) rfl rfl rfl rfl ?_
        refine e_goto 4 (dt dk_X10_isWatched 27 rfl) (by decide) ?_
        exact e_forget [true, true, true, true] [some (.ref 53), some (.int v1), some (.int (1 : Int32)), some (.int (v3 + (1 : Int32)))] ⟨rfl, rfl⟩ (hK4 v1 (1 : Int32) (v3 + (1 : Int32)))
def lp_X10_isWatched_4 (M : Mem)  : Nat → Int32 → Int32 → Int32 → Option Int32
  | 0 => fun _ _ _ => none
  | n + 1 => bd_X10_isWatched_4 M (lp_X10_isWatched_4 M n)
theorem ev_lp_X10_isWatched_4 (M : Mem)   : ∀ (n : Nat), ∀ (v1 : Int32) (v2 : Int32) (v3 : Int32), Ev none (wR M) RX10 cX10_isWatched (some .boolean) 1 4 [some (.ref 53), some (.int v1), some (.int v2), some (.int v3)] [] M (lp_X10_isWatched_4 M n v1 v2 v3)
  | 0 => fun _ _ _ => e_none
  | n + 1 => ev_bd_X10_isWatched_4 M (lp_X10_isWatched_4 M n) (ev_lp_X10_isWatched_4 M n)
def f_X10_isWatched (v1 : Int32) (M : Mem) : Option Int32 :=
  (lp_X10_isWatched_4 M FU v1 (1 : Int32) (0 : Int32))
set_option maxRecDepth 20000 in
set_option maxHeartbeats 2000000 in
theorem sp_X10_isWatched (v1 : Int32) (M : Mem) : SpO (wR M) yX10_isWatched cX10_isWatched 4 (some .boolean) 1 [.ref 53, .int v1] M (f_X10_isWatched v1 M) := by
  refine sp_of (L := [some (.ref 53), some (.int v1), none, none]) rfl (by decide +kernel) rfl rfl ?_
  unfold f_X10_isWatched
  refine e_iconst (v := (1 : Int32)) (dt dk_X10_isWatched 0 rfl) (by decide) ?_
  refine e_istore_n [some (.ref 53), some (.int v1), some (.int (1 : Int32)), none] (dt dk_X10_isWatched 1 rfl) rfl rfl rfl ?_
  refine e_iconst (v := (0 : Int32)) (dt dk_X10_isWatched 2 rfl) (by decide) ?_
  refine e_istore_n [some (.ref 53), some (.int v1), some (.int (1 : Int32)), some (.int (0 : Int32))] (dt dk_X10_isWatched 3 rfl) rfl rfl rfl ?_
  exact e_forget [true, true, true, true] [some (.ref 53), some (.int v1), some (.int (1 : Int32)), some (.int (0 : Int32))] ⟨rfl, rfl⟩ (ev_lp_X10_isWatched_4 M FU v1 (1 : Int32) (0 : Int32))
-- X10_terriers (R, depth 2)
def lb_X10_terriers_48 (M : Mem) (K21 : Int32 → Int32 → Int32 → Option Int32) (v1 : Int32) (v2 : Int32) (v3 : Int32) : Option Int32 :=
  (K21 v1 v2 (v3 + (-1 : Int32)))
set_option maxRecDepth 20000 in
set_option maxHeartbeats 2000000 in
theorem ev_lb_X10_terriers_48 (M : Mem) (K21 : Int32 → Int32 → Int32 → Option Int32) (hK21 : ∀ (v1 : Int32) (v2 : Int32) (v3 : Int32), Ev none (wR M) RX10 cX10_terriers (some .int) 2 21 [some (.ref 53), some (.int v1), some (.int v2), some (.int v3)] [] M (K21 v1 v2 v3)) (v1 : Int32) (v2 : Int32) (v3 : Int32) : Ev none (wR M) RX10 cX10_terriers (some .int) 2 48 [some (.ref 53), some (.int v1), some (.int v2), some (.int v3)] [] M (lb_X10_terriers_48 M K21 v1 v2 v3) := by
  unfold lb_X10_terriers_48
  refine e_iload_n (dt dk_X10_terriers 25 rfl) rfl ?_
  refine e_istore_n [some (.ref 53), some (.int v1), some (.int v2), some (.int v3)] (dt dk_X10_terriers 26 rfl) rfl rfl rfl ?_
  refine e_iinc [some (.ref 53), some (.int v1), some (.int v2), some (.int (v3 + (-1 : Int32)))] (dt dk_X10_terriers 27 rfl) rfl rfl rfl rfl ?_
  refine e_goto 21 (dt dk_X10_terriers 28 rfl) (by decide) ?_
  exact e_forget [true, true, true, true] [some (.ref 53), some (.int v1), some (.int v2), some (.int (v3 + (-1 : Int32)))] ⟨rfl, rfl⟩ (hK21 v1 v2 (v3 + (-1 : Int32)))
def bd_X10_terriers_21 (M : Mem)  (K21 : Int32 → Int32 → Int32 → Option Int32) (v1 : Int32) (v2 : Int32) (v3 : Int32) : Option Int32 :=
  (if v3 < 0 then (if v1 = 0 then ((f_X10_ones v2)).bind fun r4 => some r4 else some v2) else ((f_X10_ones v3)).bind fun r5 => ((f_X10_ones v2)).bind fun r6 => (if r6 < r5 then (lb_X10_terriers_48 M K21 v1 v2 v3) else ((f_X10_isWatched v3 M)).bind fun r8 => (if r8 = 0 then (lb_X10_terriers_48 M K21 v1 v2 v3) else (K21 v1 v3 (v3 + (-1 : Int32))))))
set_option maxRecDepth 20000 in
set_option maxHeartbeats 2000000 in
theorem ev_bd_X10_terriers_21 (M : Mem)  (K21 : Int32 → Int32 → Int32 → Option Int32)  (hK21 : ∀ (v1 : Int32) (v2 : Int32) (v3 : Int32), Ev none (wR M) RX10 cX10_terriers (some .int) 2 21 [some (.ref 53), some (.int v1), some (.int v2), some (.int v3)] [] M (K21 v1 v2 v3)) (v1 : Int32) (v2 : Int32) (v3 : Int32) : Ev none (wR M) RX10 cX10_terriers (some .int) 2 21 [some (.ref 53), some (.int v1), some (.int v2), some (.int v3)] [] M (bd_X10_terriers_21 M K21 v1 v2 v3) := by
  unfold bd_X10_terriers_21
  refine e_iload_n (dt dk_X10_terriers 12 rfl) rfl ?_
  refine e_if_lt 56 (dt dk_X10_terriers 13 rfl) (by decide) (fun h2 => ?_) (fun h2 => ?_)
  · refine e_iload_n (dt dk_X10_terriers 29 rfl) rfl ?_
    refine e_if_ne 67 (dt dk_X10_terriers 30 rfl) (by decide) (fun h3 => ?_) (fun h3 => ?_)
    · refine e_iload_n (dt dk_X10_terriers 31 rfl) rfl ?_
      refine ev_call (ca_S ms_X10_ones (sp_X10_ones v2 M) (dt dk_X10_terriers 32 rfl) ml_X10_100 rfl rfl rfl (by decide) : Ca _ _ _ _ _ _ _ _ [] _ _) (fun r4 hr4 => ?_)
      show Ev _ _ _ _ _ _ 64 [some (.ref 53), some (.int v1), some (.int v2), some (.int v3)] [.int r4] M _
      refine e_goto 68 (dt dk_X10_terriers 33 rfl) (by decide) ?_
      exact e_iret (dt dk_X10_terriers 35 rfl) rfl rfl rfl
    · refine e_iload_n (dt dk_X10_terriers 34 rfl) rfl ?_
      exact e_iret (dt dk_X10_terriers 35 rfl) rfl rfl rfl
  · refine e_iload_n (dt dk_X10_terriers 14 rfl) rfl ?_
    refine ev_call (ca_S ms_X10_ones (sp_X10_ones v3 M) (dt dk_X10_terriers 15 rfl) ml_X10_100 rfl rfl rfl (by decide) : Ca _ _ _ _ _ _ _ _ [] _ _) (fun r5 hr5 => ?_)
    show Ev _ _ _ _ _ _ 29 [some (.ref 53), some (.int v1), some (.int v2), some (.int v3)] [.int r5] M _
    refine e_iload_n (dt dk_X10_terriers 16 rfl) rfl ?_
    refine ev_call (ca_S ms_X10_ones (sp_X10_ones v2 M) (dt dk_X10_terriers 17 rfl) ml_X10_100 rfl rfl rfl (by decide) : Ca _ _ _ _ _ _ _ _ [.int r5] _ _) (fun r6 hr6 => ?_)
    show Ev _ _ _ _ _ _ 33 [some (.ref 53), some (.int v1), some (.int v2), some (.int v3)] [.int r6, .int r5] M _
    refine e_icmp_gt 48 (dt dk_X10_terriers 18 rfl) (by decide) (fun h7 => ?_) (fun h7 => ?_)
    · exact e_forget [true, true, true, true] [some (.ref 53), some (.int v1), some (.int v2), some (.int v3)] ⟨rfl, rfl⟩ (ev_lb_X10_terriers_48 M K21 hK21 v1 v2 v3)
    · refine e_aload_n (dt dk_X10_terriers 19 rfl) rfl ?_
      refine e_iload_n (dt dk_X10_terriers 20 rfl) rfl ?_
      refine ev_call (ca_V (k := 53) mv_X10_isWatched (sp_X10_isWatched v3 M) (dt dk_X10_terriers 21 rfl) ml_X10_223 rfl rfl rfl rfl rfl (by decide) : Ca _ _ _ _ _ _ _ _ [] _ _) (fun r8 hr8 => ?_)
      show Ev _ _ _ _ _ _ 41 [some (.ref 53), some (.int v1), some (.int v2), some (.int v3)] [.int r8] M _
      refine e_if_eq 48 (dt dk_X10_terriers 22 rfl) (by decide) (fun h9 => ?_) (fun h9 => ?_)
      · exact e_forget [true, true, true, true] [some (.ref 53), some (.int v1), some (.int v2), some (.int v3)] ⟨rfl, rfl⟩ (ev_lb_X10_terriers_48 M K21 hK21 v1 v2 v3)
      · refine e_iload_n (dt dk_X10_terriers 23 rfl) rfl ?_
        refine e_goto 49 (dt dk_X10_terriers 24 rfl) (by decide) ?_
        refine e_istore_n [some (.ref 53), some (.int v1), some (.int v3), some (.int v3)] (dt dk_X10_terriers 26 rfl) rfl rfl rfl ?_
        refine e_iinc [some (.ref 53), some (.int v1), some (.int v3), some (.int (v3 + (-1 : Int32)))] (dt dk_X10_terriers 27 rfl) rfl rfl rfl rfl ?_
        refine e_goto 21 (dt dk_X10_terriers 28 rfl) (by decide) ?_
        exact e_forget [true, true, true, true] [some (.ref 53), some (.int v1), some (.int v3), some (.int (v3 + (-1 : Int32)))] ⟨rfl, rfl⟩ (hK21 v1 v3 (v3 + (-1 : Int32)))
def lp_X10_terriers_21 (M : Mem)  : Nat → Int32 → Int32 → Int32 → Option Int32
  | 0 => fun _ _ _ => none
  | n + 1 => bd_X10_terriers_21 M (lp_X10_terriers_21 M n)
theorem ev_lp_X10_terriers_21 (M : Mem)   : ∀ (n : Nat), ∀ (v1 : Int32) (v2 : Int32) (v3 : Int32), Ev none (wR M) RX10 cX10_terriers (some .int) 2 21 [some (.ref 53), some (.int v1), some (.int v2), some (.int v3)] [] M (lp_X10_terriers_21 M n v1 v2 v3)
  | 0 => fun _ _ _ => e_none
  | n + 1 => ev_bd_X10_terriers_21 M (lp_X10_terriers_21 M n) (ev_lp_X10_terriers_21 M n)
def f_X10_terriers (v1 : Int32) (M : Mem) : Option Int32 :=
  (if (f_X10_in (Int32.toInt64 v1) (0 : Int64) (1 : Int64)) = 0 then some (-2 : Int32) else (lp_X10_terriers_21 M FU v1 (255 : Int32) (254 : Int32)))
set_option maxRecDepth 20000 in
set_option maxHeartbeats 2000000 in
theorem sp_X10_terriers (v1 : Int32) (M : Mem) : SpO (wR M) yX10_terriers cX10_terriers 4 (some .int) 2 [.ref 53, .int v1] M (f_X10_terriers v1 M) := by
  refine sp_of (L := [some (.ref 53), some (.int v1), none, none]) rfl (by decide +kernel) rfl rfl ?_
  unfold f_X10_terriers
  refine e_iload_n (dt dk_X10_terriers 0 rfl) rfl ?_
  refine e_i2l (dt dk_X10_terriers 1 rfl) ?_
  refine e_lconst (v := (0 : Int64)) (dt dk_X10_terriers 2 rfl) (by decide) ?_
  refine e_lconst (v := (1 : Int64)) (dt dk_X10_terriers 3 rfl) (by decide) ?_
  refine ev_callT (ca_S ms_X10_in (sp_X10_in (Int32.toInt64 v1) (0 : Int64) (1 : Int64) M) (dt dk_X10_terriers 4 rfl) ml_X10_80 rfl rfl rfl (by decide) : Ca _ _ _ _ _ _ _ _ [] _ _) ?_
  show Ev _ _ _ _ _ _ 7 [some (.ref 53), some (.int v1), none, none] [.int (f_X10_in (Int32.toInt64 v1) (0 : Int64) (1 : Int64))] M _
  refine e_if_ne 13 (dt dk_X10_terriers 5 rfl) (by decide) (fun h1 => ?_) (fun h1 => ?_)
  · refine e_bipush (v := (-2 : Int32)) (dt dk_X10_terriers 6 rfl) (by decide) ?_
    exact e_iret (dt dk_X10_terriers 7 rfl) rfl rfl rfl
  · refine e_sipush (v := (255 : Int32)) (dt dk_X10_terriers 8 rfl) (by decide) ?_
    refine e_istore_n [some (.ref 53), some (.int v1), some (.int (255 : Int32)), none] (dt dk_X10_terriers 9 rfl) rfl rfl rfl ?_
    refine e_sipush (v := (254 : Int32)) (dt dk_X10_terriers 10 rfl) (by decide) ?_
    refine e_istore_n [some (.ref 53), some (.int v1), some (.int (255 : Int32)), some (.int (254 : Int32))] (dt dk_X10_terriers 11 rfl) rfl rfl rfl ?_
    exact e_forget [true, true, true, true] [some (.ref 53), some (.int v1), some (.int (255 : Int32)), some (.int (254 : Int32))] ⟨rfl, rfl⟩ (ev_lp_X10_terriers_21 M FU v1 (255 : Int32) (254 : Int32))
-- X10_isRow (R, depth 0)
def bd_X10_isRow_4  (K4 : Int32 → Int32 → Int32 → Int32 → Option Int32) (v0 : Int32) (v1 : Int32) (v2 : Int32) (v3 : Int32) : Option Int32 :=
  (if v1 ≤ v3 then (if v0 < 0 then some (0 : Int32) else (if v2 = 0 then some (1 : Int32) else some (0 : Int32))) else (K4 v0 v1 (v2 / (10 : Int32)) (v3 + (1 : Int32))))
set_option maxRecDepth 20000 in
set_option maxHeartbeats 2000000 in
theorem ev_bd_X10_isRow_4 (M : Mem)  (K4 : Int32 → Int32 → Int32 → Int32 → Option Int32)  (hK4 : ∀ (v0 : Int32) (v1 : Int32) (v2 : Int32) (v3 : Int32), Ev none (wR M) RX10 cX10_isRow (some .boolean) 0 4 [some (.int v0), some (.int v1), some (.int v2), some (.int v3)] [] M (K4 v0 v1 v2 v3)) (v0 : Int32) (v1 : Int32) (v2 : Int32) (v3 : Int32) : Ev none (wR M) RX10 cX10_isRow (some .boolean) 0 4 [some (.int v0), some (.int v1), some (.int v2), some (.int v3)] [] M (bd_X10_isRow_4 K4 v0 v1 v2 v3) := by
  unfold bd_X10_isRow_4
  refine e_iload_n (dt dk_X10_isRow 4 rfl) rfl ?_
  refine e_iload_n (dt dk_X10_isRow 5 rfl) rfl ?_
  refine e_icmp_ge 20 (dt dk_X10_isRow 6 rfl) (by decide) (fun h1 => ?_) (fun h1 => ?_)
  · refine e_iload_n (dt dk_X10_isRow 13 rfl) rfl ?_
    refine e_if_lt 32 (dt dk_X10_isRow 14 rfl) (by decide) (fun h2 => ?_) (fun h2 => ?_)
    · refine e_iconst (v := (0 : Int32)) (dt dk_X10_isRow 19 rfl) (by decide) ?_
      exact e_iret (dt dk_X10_isRow 20 rfl) rfl rfl rfl
    · refine e_iload_n (dt dk_X10_isRow 15 rfl) rfl ?_
      refine e_if_ne 32 (dt dk_X10_isRow 16 rfl) (by decide) (fun h3 => ?_) (fun h3 => ?_)
      · refine e_iconst (v := (1 : Int32)) (dt dk_X10_isRow 17 rfl) (by decide) ?_
        refine e_goto 33 (dt dk_X10_isRow 18 rfl) (by decide) ?_
        exact e_iret (dt dk_X10_isRow 20 rfl) rfl rfl rfl
      · refine e_iconst (v := (0 : Int32)) (dt dk_X10_isRow 19 rfl) (by decide) ?_
        exact e_iret (dt dk_X10_isRow 20 rfl) rfl rfl rfl
  · refine e_iload_n (dt dk_X10_isRow 7 rfl) rfl ?_
    refine e_bipush (v := (10 : Int32)) (dt dk_X10_isRow 8 rfl) (by decide) ?_
    refine e_idiv' (dt dk_X10_isRow 9 rfl) (by decide) ?_
    show Ev _ _ _ _ _ _ 13 [some (.int v0), some (.int v1), some (.int v2), some (.int v3)] [.int (v2 / (10 : Int32))] M _
    refine e_istore_n [some (.int v0), some (.int v1), some (.int (v2 / (10 : Int32))), some (.int v3)] (dt dk_X10_isRow 10 rfl) rfl rfl rfl ?_
    refine e_iinc [some (.int v0), some (.int v1), some (.int (v2 / (10 : Int32))), some (.int (v3 + (1 : Int32)))] (dt dk_X10_isRow 11 rfl) rfl rfl rfl rfl ?_
    refine e_goto 4 (dt dk_X10_isRow 12 rfl) (by decide) ?_
    exact e_forget [true, true, true, true] [some (.int v0), some (.int v1), some (.int (v2 / (10 : Int32))), some (.int (v3 + (1 : Int32)))] ⟨rfl, rfl⟩ (hK4 v0 v1 (v2 / (10 : Int32)) (v3 + (1 : Int32)))
def lp_X10_isRow_4  : Nat → Int32 → Int32 → Int32 → Int32 → Option Int32
  | 0 => fun _ _ _ _ => none
  | n + 1 => bd_X10_isRow_4 (lp_X10_isRow_4 n)
theorem ev_lp_X10_isRow_4 (M : Mem)   : ∀ (n : Nat), ∀ (v0 : Int32) (v1 : Int32) (v2 : Int32) (v3 : Int32), Ev none (wR M) RX10 cX10_isRow (some .boolean) 0 4 [some (.int v0), some (.int v1), some (.int v2), some (.int v3)] [] M (lp_X10_isRow_4 n v0 v1 v2 v3)
  | 0 => fun _ _ _ _ => e_none
  | n + 1 => ev_bd_X10_isRow_4 M (lp_X10_isRow_4 n) (ev_lp_X10_isRow_4 M n)
def f_X10_isRow (v0 : Int32) (v1 : Int32) : Option Int32 :=
  (lp_X10_isRow_4 FU v0 v1 v0 (0 : Int32))
set_option maxRecDepth 20000 in
set_option maxHeartbeats 2000000 in
theorem sp_X10_isRow (v0 : Int32) (v1 : Int32) (M : Mem) : SpO (wR M) yX10_isRow cX10_isRow 4 (some .boolean) 0 [.int v0, .int v1] M (f_X10_isRow v0 v1) := by
  refine sp_of (L := [some (.int v0), some (.int v1), none, none]) rfl (by decide +kernel) rfl rfl ?_
  unfold f_X10_isRow
  refine e_iload_n (dt dk_X10_isRow 0 rfl) rfl ?_
  refine e_istore_n [some (.int v0), some (.int v1), some (.int v0), none] (dt dk_X10_isRow 1 rfl) rfl rfl rfl ?_
  refine e_iconst (v := (0 : Int32)) (dt dk_X10_isRow 2 rfl) (by decide) ?_
  refine e_istore_n [some (.int v0), some (.int v1), some (.int v0), some (.int (0 : Int32))] (dt dk_X10_isRow 3 rfl) rfl rfl rfl ?_
  exact e_forget [true, true, true, true] [some (.int v0), some (.int v1), some (.int v0), some (.int (0 : Int32))] ⟨rfl, rfl⟩ (ev_lp_X10_isRow_4 M FU v0 v1 v0 (0 : Int32))
-- X10_inOne (R, depth 0)
def bd_X10_inOne_8 (M : Mem)  (K8 : Int32 → Int32 → Int32 → Int32 → Option Int32) (v2 : Int32) (v3 : Int32) (v4 : Int32) (v5 : Int32) : Option Int32 :=
  (if v5 < v2 then some v4 else if inb v5 9 then (if (M 67 (ix v5)) = v3 then (K8 v2 v3 v5 (v5 + (-1 : Int32))) else (K8 v2 v3 v4 (v5 + (-1 : Int32)))) else none)
set_option maxRecDepth 20000 in
set_option maxHeartbeats 2000000 in
theorem ev_bd_X10_inOne_8 (M : Mem)  (K8 : Int32 → Int32 → Int32 → Int32 → Option Int32)  (hK8 : ∀ (v2 : Int32) (v3 : Int32) (v4 : Int32) (v5 : Int32), Ev none (wR M) RX10 cX10_inOne (some .int) 0 8 [some (.ref 53), none, some (.int v2), some (.int v3), some (.int v4), some (.int v5)] [] M (K8 v2 v3 v4 v5)) (v2 : Int32) (v3 : Int32) (v4 : Int32) (v5 : Int32) : Ev none (wR M) RX10 cX10_inOne (some .int) 0 8 [some (.ref 53), none, some (.int v2), some (.int v3), some (.int v4), some (.int v5)] [] M (bd_X10_inOne_8 M K8 v2 v3 v4 v5) := by
  unfold bd_X10_inOne_8
  refine e_iload (dt dk_X10_inOne 6 rfl) rfl ?_
  refine e_iload_n (dt dk_X10_inOne 7 rfl) rfl ?_
  refine e_icmp_lt 40 (dt dk_X10_inOne 8 rfl) (by decide) (fun h1 => ?_) (fun h1 => ?_)
  · refine e_iload (dt dk_X10_inOne 21 rfl) rfl ?_
    exact e_iret (dt dk_X10_inOne 22 rfl) rfl rfl rfl
  · refine e_aload_n (dt dk_X10_inOne 9 rfl) rfl ?_
    refine e_getR ci_X10 (dt dk_X10_inOne 10 rfl) rfl (by decide) rfl fl_X10_49 ?_
    refine e_iload (dt dk_X10_inOne 11 rfl) rfl ?_
    refine e_if (fun h2 => ?_)
    refine e_iald' (v := (M 67 (ix v5))) (dt dk_X10_inOne 12 rfl) rfl h2 rfl ?_
    refine e_iload_n (dt dk_X10_inOne 13 rfl) rfl ?_
    refine e_icmp_ne 30 (dt dk_X10_inOne 14 rfl) (by decide) (fun h3 => ?_) (fun h3 => ?_)
    · refine e_iload (dt dk_X10_inOne 15 rfl) rfl ?_
      refine e_goto 32 (dt dk_X10_inOne 16 rfl) (by decide) ?_
      refine e_istore [some (.ref 53), none, some (.int v2), some (.int v3), some (.int v5), some (.int v5)] (dt dk_X10_inOne 18 rfl) rfl rfl rfl ?_
      refine e_iinc [some (.ref 53), none, some (.int v2), some (.int v3), some (.int v5), some (.int (v5 + (-1 : Int32)))] (dt dk_X10_inOne 19 rfl) rfl rfl rfl rfl ?_
      refine e_goto 8 (dt dk_X10_inOne 20 rfl) (by decide) ?_
      exact e_forget [true, false, true, true, true, true] [some (.ref 53), none, some (.int v2), some (.int v3), some (.int v5), some (.int (v5 + (-1 : Int32)))] ⟨rfl, rfl⟩ (hK8 v2 v3 v5 (v5 + (-1 : Int32)))
    · refine e_iload (dt dk_X10_inOne 17 rfl) rfl ?_
      refine e_istore [some (.ref 53), none, some (.int v2), some (.int v3), some (.int v4), some (.int v5)] (dt dk_X10_inOne 18 rfl) rfl rfl rfl ?_
      refine e_iinc [some (.ref 53), none, some (.int v2), some (.int v3), some (.int v4), some (.int (v5 + (-1 : Int32)))] (dt dk_X10_inOne 19 rfl) rfl rfl rfl rfl ?_
      refine e_goto 8 (dt dk_X10_inOne 20 rfl) (by decide) ?_
      exact e_forget [true, false, true, true, true, true] [some (.ref 53), none, some (.int v2), some (.int v3), some (.int v4), some (.int (v5 + (-1 : Int32)))] ⟨rfl, rfl⟩ (hK8 v2 v3 v4 (v5 + (-1 : Int32)))
def lp_X10_inOne_8 (M : Mem)  : Nat → Int32 → Int32 → Int32 → Int32 → Option Int32
  | 0 => fun _ _ _ _ => none
  | n + 1 => bd_X10_inOne_8 M (lp_X10_inOne_8 M n)
theorem ev_lp_X10_inOne_8 (M : Mem)   : ∀ (n : Nat), ∀ (v2 : Int32) (v3 : Int32) (v4 : Int32) (v5 : Int32), Ev none (wR M) RX10 cX10_inOne (some .int) 0 8 [some (.ref 53), none, some (.int v2), some (.int v3), some (.int v4), some (.int v5)] [] M (lp_X10_inOne_8 M n v2 v3 v4 v5)
  | 0 => fun _ _ _ _ => e_none
  | n + 1 => ev_bd_X10_inOne_8 M (lp_X10_inOne_8 M n) (ev_lp_X10_inOne_8 M n)
def f_X10_inOne (v1 : Int32) (v2 : Int32) (v3 : Int32) (M : Mem) : Option Int32 :=
  (lp_X10_inOne_8 M FU v2 v3 v1 (v1 - (1 : Int32)))
set_option maxRecDepth 20000 in
set_option maxHeartbeats 2000000 in
theorem sp_X10_inOne (v1 : Int32) (v2 : Int32) (v3 : Int32) (M : Mem) : SpO (wR M) yX10_inOne cX10_inOne 6 (some .int) 0 [.ref 53, .int v1, .int v2, .int v3] M (f_X10_inOne v1 v2 v3 M) := by
  refine sp_of (L := [some (.ref 53), some (.int v1), some (.int v2), some (.int v3), none, none]) rfl (by decide +kernel) rfl rfl ?_
  unfold f_X10_inOne
  refine e_iload_n (dt dk_X10_inOne 0 rfl) rfl ?_
  refine e_istore [some (.ref 53), some (.int v1), some (.int v2), some (.int v3), some (.int v1), none] (dt dk_X10_inOne 1 rfl) rfl rfl rfl ?_
  refine e_iload_n (dt dk_X10_inOne 2 rfl) rfl ?_
  refine e_iconst (v := (1 : Int32)) (dt dk_X10_inOne 3 rfl) (by decide) ?_
  refine e_isub (dt dk_X10_inOne 4 rfl) ?_
  refine e_istore [some (.ref 53), some (.int v1), some (.int v2), some (.int v3), some (.int v1), some (.int (v1 - (1 : Int32)))] (dt dk_X10_inOne 5 rfl) rfl rfl rfl ?_
  exact e_forget [true, false, true, true, true, true] [some (.ref 53), none, some (.int v2), some (.int v3), some (.int v1), some (.int (v1 - (1 : Int32)))] ⟨rfl, rfl⟩ (ev_lp_X10_inOne_8 M FU v2 v3 v1 (v1 - (1 : Int32)))
-- X10_inTwo (R, depth 0)
def bd_X10_inTwo_8 (M : Mem)  (K8 : Int32 → Int32 → Int32 → Int32 → Option Int32) (v2 : Int32) (v3 : Int32) (v4 : Int32) (v5 : Int32) : Option Int32 :=
  (if v5 < v2 then some v4 else if inb v5 9 then (if (M 68 (ix v5)) = v3 then (K8 v2 v3 v5 (v5 + (-1 : Int32))) else (K8 v2 v3 v4 (v5 + (-1 : Int32)))) else none)
set_option maxRecDepth 20000 in
set_option maxHeartbeats 2000000 in
theorem ev_bd_X10_inTwo_8 (M : Mem)  (K8 : Int32 → Int32 → Int32 → Int32 → Option Int32)  (hK8 : ∀ (v2 : Int32) (v3 : Int32) (v4 : Int32) (v5 : Int32), Ev none (wR M) RX10 cX10_inTwo (some .int) 0 8 [some (.ref 53), none, some (.int v2), some (.int v3), some (.int v4), some (.int v5)] [] M (K8 v2 v3 v4 v5)) (v2 : Int32) (v3 : Int32) (v4 : Int32) (v5 : Int32) : Ev none (wR M) RX10 cX10_inTwo (some .int) 0 8 [some (.ref 53), none, some (.int v2), some (.int v3), some (.int v4), some (.int v5)] [] M (bd_X10_inTwo_8 M K8 v2 v3 v4 v5) := by
  unfold bd_X10_inTwo_8
  refine e_iload (dt dk_X10_inTwo 6 rfl) rfl ?_
  refine e_iload_n (dt dk_X10_inTwo 7 rfl) rfl ?_
  refine e_icmp_lt 40 (dt dk_X10_inTwo 8 rfl) (by decide) (fun h1 => ?_) (fun h1 => ?_)
  · refine e_iload (dt dk_X10_inTwo 21 rfl) rfl ?_
    exact e_iret (dt dk_X10_inTwo 22 rfl) rfl rfl rfl
  · refine e_aload_n (dt dk_X10_inTwo 9 rfl) rfl ?_
    refine e_getR ci_X10 (dt dk_X10_inTwo 10 rfl) rfl (by decide) rfl fl_X10_52 ?_
    refine e_iload (dt dk_X10_inTwo 11 rfl) rfl ?_
    refine e_if (fun h2 => ?_)
    refine e_iald' (v := (M 68 (ix v5))) (dt dk_X10_inTwo 12 rfl) rfl h2 rfl ?_
    refine e_iload_n (dt dk_X10_inTwo 13 rfl) rfl ?_
    refine e_icmp_ne 30 (dt dk_X10_inTwo 14 rfl) (by decide) (fun h3 => ?_) (fun h3 => ?_)
    · refine e_iload (dt dk_X10_inTwo 15 rfl) rfl ?_
      refine e_goto 32 (dt dk_X10_inTwo 16 rfl) (by decide) ?_
      refine e_istore [some (.ref 53), none, some (.int v2), some (.int v3), some (.int v5), some (.int v5)] (dt dk_X10_inTwo 18 rfl) rfl rfl rfl ?_
      refine e_iinc [some (.ref 53), none, some (.int v2), some (.int v3), some (.int v5), some (.int (v5 + (-1 : Int32)))] (dt dk_X10_inTwo 19 rfl) rfl rfl rfl rfl ?_
      refine e_goto 8 (dt dk_X10_inTwo 20 rfl) (by decide) ?_
      exact e_forget [true, false, true, true, true, true] [some (.ref 53), none, some (.int v2), some (.int v3), some (.int v5), some (.int (v5 + (-1 : Int32)))] ⟨rfl, rfl⟩ (hK8 v2 v3 v5 (v5 + (-1 : Int32)))
    · refine e_iload (dt dk_X10_inTwo 17 rfl) rfl ?_
      refine e_istore [some (.ref 53), none, some (.int v2), some (.int v3), some (.int v4), some (.int v5)] (dt dk_X10_inTwo 18 rfl) rfl rfl rfl ?_
      refine e_iinc [some (.ref 53), none, some (.int v2), some (.int v3), some (.int v4), some (.int (v5 + (-1 : Int32)))] (dt dk_X10_inTwo 19 rfl) rfl rfl rfl rfl ?_
      refine e_goto 8 (dt dk_X10_inTwo 20 rfl) (by decide) ?_
      exact e_forget [true, false, true, true, true, true] [some (.ref 53), none, some (.int v2), some (.int v3), some (.int v4), some (.int (v5 + (-1 : Int32)))] ⟨rfl, rfl⟩ (hK8 v2 v3 v4 (v5 + (-1 : Int32)))
def lp_X10_inTwo_8 (M : Mem)  : Nat → Int32 → Int32 → Int32 → Int32 → Option Int32
  | 0 => fun _ _ _ _ => none
  | n + 1 => bd_X10_inTwo_8 M (lp_X10_inTwo_8 M n)
theorem ev_lp_X10_inTwo_8 (M : Mem)   : ∀ (n : Nat), ∀ (v2 : Int32) (v3 : Int32) (v4 : Int32) (v5 : Int32), Ev none (wR M) RX10 cX10_inTwo (some .int) 0 8 [some (.ref 53), none, some (.int v2), some (.int v3), some (.int v4), some (.int v5)] [] M (lp_X10_inTwo_8 M n v2 v3 v4 v5)
  | 0 => fun _ _ _ _ => e_none
  | n + 1 => ev_bd_X10_inTwo_8 M (lp_X10_inTwo_8 M n) (ev_lp_X10_inTwo_8 M n)
def f_X10_inTwo (v1 : Int32) (v2 : Int32) (v3 : Int32) (M : Mem) : Option Int32 :=
  (lp_X10_inTwo_8 M FU v2 v3 v1 (v1 - (1 : Int32)))
set_option maxRecDepth 20000 in
set_option maxHeartbeats 2000000 in
theorem sp_X10_inTwo (v1 : Int32) (v2 : Int32) (v3 : Int32) (M : Mem) : SpO (wR M) yX10_inTwo cX10_inTwo 6 (some .int) 0 [.ref 53, .int v1, .int v2, .int v3] M (f_X10_inTwo v1 v2 v3 M) := by
  refine sp_of (L := [some (.ref 53), some (.int v1), some (.int v2), some (.int v3), none, none]) rfl (by decide +kernel) rfl rfl ?_
  unfold f_X10_inTwo
  refine e_iload_n (dt dk_X10_inTwo 0 rfl) rfl ?_
  refine e_istore [some (.ref 53), some (.int v1), some (.int v2), some (.int v3), some (.int v1), none] (dt dk_X10_inTwo 1 rfl) rfl rfl rfl ?_
  refine e_iload_n (dt dk_X10_inTwo 2 rfl) rfl ?_
  refine e_iconst (v := (1 : Int32)) (dt dk_X10_inTwo 3 rfl) (by decide) ?_
  refine e_isub (dt dk_X10_inTwo 4 rfl) ?_
  refine e_istore [some (.ref 53), some (.int v1), some (.int v2), some (.int v3), some (.int v1), some (.int (v1 - (1 : Int32)))] (dt dk_X10_inTwo 5 rfl) rfl rfl rfl ?_
  exact e_forget [true, false, true, true, true, true] [some (.ref 53), none, some (.int v2), some (.int v3), some (.int v1), some (.int (v1 - (1 : Int32)))] ⟨rfl, rfl⟩ (ev_lp_X10_inTwo_8 M FU v2 v3 v1 (v1 - (1 : Int32)))
-- X10_leastRow (R, depth 1)
def lb_X10_leastRow_95 (M : Mem) (K15 : Int32 → Int32 → Int32 → Int32 → Int32 → Option Int32) (K28 : Int32 → Int32 → Int32 → Int32 → Int32 → Int32 → Int32 → Option Int32) (v1 : Int32) (v2 : Int32) (v3 : Int32) (v4 : Int32) (v5 : Int32) (v6 : Int32) (v7 : Int32) (s0 : Int32) : Option Int32 :=
  (if s0 = 0 then (K28 v1 v2 v3 v4 v5 v6 (v7 + (-1 : Int32))) else (K28 v1 v2 v3 v4 v5 v7 (v7 + (-1 : Int32))))
set_option maxRecDepth 20000 in
set_option maxHeartbeats 2000000 in
theorem ev_lb_X10_leastRow_95 (M : Mem) (K15 : Int32 → Int32 → Int32 → Int32 → Int32 → Option Int32) (K28 : Int32 → Int32 → Int32 → Int32 → Int32 → Int32 → Int32 → Option Int32) (hK15 : ∀ (v1 : Int32) (v2 : Int32) (v3 : Int32) (v4 : Int32) (v5 : Int32), Ev none (wR M) RX10 cX10_leastRow (some .int) 1 15 [some (.ref 53), some (.int v1), some (.int v2), some (.int v3), some (.int v4), some (.int v5), none, none, none, none, none] [] M (K15 v1 v2 v3 v4 v5)) (hK28 : ∀ (v1 : Int32) (v2 : Int32) (v3 : Int32) (v4 : Int32) (v5 : Int32) (v6 : Int32) (v7 : Int32), Ev none (wR M) RX10 cX10_leastRow (some .int) 1 28 [some (.ref 53), some (.int v1), some (.int v2), some (.int v3), some (.int v4), some (.int v5), some (.int v6), some (.int v7), none, none, none] [] M (K28 v1 v2 v3 v4 v5 v6 v7)) (v1 : Int32) (v2 : Int32) (v3 : Int32) (v4 : Int32) (v5 : Int32) (v6 : Int32) (v7 : Int32) (s0 : Int32) : Ev none (wR M) RX10 cX10_leastRow (some .int) 1 95 [some (.ref 53), some (.int v1), some (.int v2), some (.int v3), some (.int v4), some (.int v5), some (.int v6), some (.int v7), none, none, none] [.int s0] M (lb_X10_leastRow_95 M K15 K28 v1 v2 v3 v4 v5 v6 v7 s0) := by
  unfold lb_X10_leastRow_95
  refine e_istore [some (.ref 53), some (.int v1), some (.int v2), some (.int v3), some (.int v4), some (.int v5), some (.int v6), some (.int v7), none, none, some (.int s0)] (dt dk_X10_leastRow 56 rfl) rfl rfl rfl ?_
  refine e_iload (dt dk_X10_leastRow 57 rfl) rfl ?_
  refine e_if_eq 107 (dt dk_X10_leastRow 58 rfl) (by decide) (fun h8 => ?_) (fun h8 => ?_)
  · refine e_iload (dt dk_X10_leastRow 61 rfl) rfl ?_
    refine e_istore [some (.ref 53), some (.int v1), some (.int v2), some (.int v3), some (.int v4), some (.int v5), some (.int v6), some (.int v7), none, none, some (.int s0)] (dt dk_X10_leastRow 62 rfl) rfl rfl rfl ?_
    refine e_iinc [some (.ref 53), some (.int v1), some (.int v2), some (.int v3), some (.int v4), some (.int v5), some (.int v6), some (.int (v7 + (-1 : Int32))), none, none, some (.int s0)] (dt dk_X10_leastRow 63 rfl) rfl rfl rfl rfl ?_
    refine e_goto 28 (dt dk_X10_leastRow 64 rfl) (by decide) ?_
    exact e_forget [true, true, true, true, true, true, true, true, false, false, false] [some (.ref 53), some (.int v1), some (.int v2), some (.int v3), some (.int v4), some (.int v5), some (.int v6), some (.int (v7 + (-1 : Int32))), none, none, none] ⟨rfl, rfl⟩ (hK28 v1 v2 v3 v4 v5 v6 (v7 + (-1 : Int32)))
  · refine e_iload (dt dk_X10_leastRow 59 rfl) rfl ?_
    refine e_goto 109 (dt dk_X10_leastRow 60 rfl) (by decide) ?_
    refine e_istore [some (.ref 53), some (.int v1), some (.int v2), some (.int v3), some (.int v4), some (.int v5), some (.int v7), some (.int v7), none, none, some (.int s0)] (dt dk_X10_leastRow 62 rfl) rfl rfl rfl ?_
    refine e_iinc [some (.ref 53), some (.int v1), some (.int v2), some (.int v3), some (.int v4), some (.int v5), some (.int v7), some (.int (v7 + (-1 : Int32))), none, none, some (.int s0)] (dt dk_X10_leastRow 63 rfl) rfl rfl rfl rfl ?_
    refine e_goto 28 (dt dk_X10_leastRow 64 rfl) (by decide) ?_
    exact e_forget [true, true, true, true, true, true, true, true, false, false, false] [some (.ref 53), some (.int v1), some (.int v2), some (.int v3), some (.int v4), some (.int v5), some (.int v7), some (.int (v7 + (-1 : Int32))), none, none, none] ⟨rfl, rfl⟩ (hK28 v1 v2 v3 v4 v5 v7 (v7 + (-1 : Int32)))
def lb_X10_leastRow_94 (M : Mem) (K15 : Int32 → Int32 → Int32 → Int32 → Int32 → Option Int32) (K28 : Int32 → Int32 → Int32 → Int32 → Int32 → Int32 → Int32 → Option Int32) (v1 : Int32) (v2 : Int32) (v3 : Int32) (v4 : Int32) (v5 : Int32) (v6 : Int32) (v7 : Int32) : Option Int32 :=
  (lb_X10_leastRow_95 M K15 K28 v1 v2 v3 v4 v5 v6 v7 (0 : Int32))
set_option maxRecDepth 20000 in
set_option maxHeartbeats 2000000 in
theorem ev_lb_X10_leastRow_94 (M : Mem) (K15 : Int32 → Int32 → Int32 → Int32 → Int32 → Option Int32) (K28 : Int32 → Int32 → Int32 → Int32 → Int32 → Int32 → Int32 → Option Int32) (hK15 : ∀ (v1 : Int32) (v2 : Int32) (v3 : Int32) (v4 : Int32) (v5 : Int32), Ev none (wR M) RX10 cX10_leastRow (some .int) 1 15 [some (.ref 53), some (.int v1), some (.int v2), some (.int v3), some (.int v4), some (.int v5), none, none, none, none, none] [] M (K15 v1 v2 v3 v4 v5)) (hK28 : ∀ (v1 : Int32) (v2 : Int32) (v3 : Int32) (v4 : Int32) (v5 : Int32) (v6 : Int32) (v7 : Int32), Ev none (wR M) RX10 cX10_leastRow (some .int) 1 28 [some (.ref 53), some (.int v1), some (.int v2), some (.int v3), some (.int v4), some (.int v5), some (.int v6), some (.int v7), none, none, none] [] M (K28 v1 v2 v3 v4 v5 v6 v7)) (v1 : Int32) (v2 : Int32) (v3 : Int32) (v4 : Int32) (v5 : Int32) (v6 : Int32) (v7 : Int32) : Ev none (wR M) RX10 cX10_leastRow (some .int) 1 94 [some (.ref 53), some (.int v1), some (.int v2), some (.int v3), some (.int v4), some (.int v5), some (.int v6), some (.int v7), none, none, none] [] M (lb_X10_leastRow_94 M K15 K28 v1 v2 v3 v4 v5 v6 v7) := by
  unfold lb_X10_leastRow_94
  refine e_iconst (v := (0 : Int32)) (dt dk_X10_leastRow 55 rfl) (by decide) ?_
  exact e_forget [true, true, true, true, true, true, true, true, false, false, false] [some (.ref 53), some (.int v1), some (.int v2), some (.int v3), some (.int v4), some (.int v5), some (.int v6), some (.int v7), none, none, none] ⟨rfl, rfl⟩ (ev_lb_X10_leastRow_95 M K15 K28 hK15 hK28 v1 v2 v3 v4 v5 v6 v7 (0 : Int32))
def bd_X10_leastRow_28 (M : Mem) (K15 : Int32 → Int32 → Int32 → Int32 → Int32 → Option Int32) (K28 : Int32 → Int32 → Int32 → Int32 → Int32 → Int32 → Int32 → Option Int32) (v1 : Int32) (v2 : Int32) (v3 : Int32) (v4 : Int32) (v5 : Int32) (v6 : Int32) (v7 : Int32) : Option Int32 :=
  (if v7 < 0 then ((f_X10_inOne v1 v3 v6 M)).bind fun r3 => ((f_X10_inTwo v1 v4 v6 M)).bind fun r4 => (K15 v1 (((10 : Int32) * v2) + v6) (r3 + (1 : Int32)) (r4 + (1 : Int32)) (v5 + (-1 : Int32))) else ((f_X10_inOne v1 v3 v7 M)).bind fun r5 => ((f_X10_inTwo v1 v4 v7 M)).bind fun r6 => (if v1 ≤ r5 then (lb_X10_leastRow_94 M K15 K28 v1 v2 v3 v4 v5 v6 v7) else (if v1 ≤ r6 then (lb_X10_leastRow_94 M K15 K28 v1 v2 v3 v4 v5 v6 v7) else if inb ((((10 : Int32) * (r5 + (1 : Int32))) + r6) + (1 : Int32)) 100 then (if (M 69 (ix ((((10 : Int32) * (r5 + (1 : Int32))) + r6) + (1 : Int32)))) = (v5 - (1 : Int32)) then (lb_X10_leastRow_95 M K15 K28 v1 v2 v3 v4 v5 v6 v7 (1 : Int32)) else (lb_X10_leastRow_94 M K15 K28 v1 v2 v3 v4 v5 v6 v7)) else none)))
set_option maxRecDepth 20000 in
set_option maxHeartbeats 2000000 in
theorem ev_bd_X10_leastRow_28 (M : Mem) (K15 : Int32 → Int32 → Int32 → Int32 → Int32 → Option Int32) (K28 : Int32 → Int32 → Int32 → Int32 → Int32 → Int32 → Int32 → Option Int32) (hK15 : ∀ (v1 : Int32) (v2 : Int32) (v3 : Int32) (v4 : Int32) (v5 : Int32), Ev none (wR M) RX10 cX10_leastRow (some .int) 1 15 [some (.ref 53), some (.int v1), some (.int v2), some (.int v3), some (.int v4), some (.int v5), none, none, none, none, none] [] M (K15 v1 v2 v3 v4 v5)) (hK28 : ∀ (v1 : Int32) (v2 : Int32) (v3 : Int32) (v4 : Int32) (v5 : Int32) (v6 : Int32) (v7 : Int32), Ev none (wR M) RX10 cX10_leastRow (some .int) 1 28 [some (.ref 53), some (.int v1), some (.int v2), some (.int v3), some (.int v4), some (.int v5), some (.int v6), some (.int v7), none, none, none] [] M (K28 v1 v2 v3 v4 v5 v6 v7)) (v1 : Int32) (v2 : Int32) (v3 : Int32) (v4 : Int32) (v5 : Int32) (v6 : Int32) (v7 : Int32) : Ev none (wR M) RX10 cX10_leastRow (some .int) 1 28 [some (.ref 53), some (.int v1), some (.int v2), some (.int v3), some (.int v4), some (.int v5), some (.int v6), some (.int v7), none, none, none] [] M (bd_X10_leastRow_28 M K15 K28 v1 v2 v3 v4 v5 v6 v7) := by
  unfold bd_X10_leastRow_28
  refine e_iload (dt dk_X10_leastRow 17 rfl) rfl ?_
  refine e_if_lt 117 (dt dk_X10_leastRow 18 rfl) (by decide) (fun h2 => ?_) (fun h2 => ?_)
  · refine e_bipush (v := (10 : Int32)) (dt dk_X10_leastRow 65 rfl) (by decide) ?_
    refine e_iload_n (dt dk_X10_leastRow 66 rfl) rfl ?_
    refine e_imul (dt dk_X10_leastRow 67 rfl) ?_
    refine e_iload (dt dk_X10_leastRow 68 rfl) rfl ?_
    refine e_iadd (dt dk_X10_leastRow 69 rfl) ?_
    refine e_istore_n [some (.ref 53), some (.int v1), some (.int (((10 : Int32) * v2) + v6)), some (.int v3), some (.int v4), some (.int v5), some (.int v6), some (.int v7), none, none, none] (dt dk_X10_leastRow 70 rfl) rfl rfl rfl ?_
    refine e_aload_n (dt dk_X10_leastRow 71 rfl) rfl ?_
    refine e_iload_n (dt dk_X10_leastRow 72 rfl) rfl ?_
    refine e_iload_n (dt dk_X10_leastRow 73 rfl) rfl ?_
    refine e_iload (dt dk_X10_leastRow 74 rfl) rfl ?_
    refine ev_call (ca_V (k := 53) mv_X10_inOne (sp_X10_inOne v1 v3 v6 M) (dt dk_X10_leastRow 75 rfl) ml_X10_226 rfl rfl rfl rfl rfl (by decide) : Ca _ _ _ _ _ _ _ _ [] _ _) (fun r3 hr3 => ?_)
    show Ev _ _ _ _ _ _ 133 [some (.ref 53), some (.int v1), some (.int (((10 : Int32) * v2) + v6)), some (.int v3), some (.int v4), some (.int v5), some (.int v6), some (.int v7), none, none, none] [.int r3] M _
    refine e_iconst (v := (1 : Int32)) (dt dk_X10_leastRow 76 rfl) (by decide) ?_
    refine e_iadd (dt dk_X10_leastRow 77 rfl) ?_
    refine e_istore_n [some (.ref 53), some (.int v1), some (.int (((10 : Int32) * v2) + v6)), some (.int (r3 + (1 : Int32))), some (.int v4), some (.int v5), some (.int v6), some (.int v7), none, none, none] (dt dk_X10_leastRow 78 rfl) rfl rfl rfl ?_
    refine e_aload_n (dt dk_X10_leastRow 79 rfl) rfl ?_
    refine e_iload_n (dt dk_X10_leastRow 80 rfl) rfl ?_
    refine e_iload (dt dk_X10_leastRow 81 rfl) rfl ?_
    refine e_iload (dt dk_X10_leastRow 82 rfl) rfl ?_
    refine ev_call (ca_V (k := 53) mv_X10_inTwo (sp_X10_inTwo v1 v4 v6 M) (dt dk_X10_leastRow 83 rfl) ml_X10_229 rfl rfl rfl rfl rfl (by decide) : Ca _ _ _ _ _ _ _ _ [] _ _) (fun r4 hr4 => ?_)
    show Ev _ _ _ _ _ _ 145 [some (.ref 53), some (.int v1), some (.int (((10 : Int32) * v2) + v6)), some (.int (r3 + (1 : Int32))), some (.int v4), some (.int v5), some (.int v6), some (.int v7), none, none, none] [.int r4] M _
    refine e_iconst (v := (1 : Int32)) (dt dk_X10_leastRow 84 rfl) (by decide) ?_
    refine e_iadd (dt dk_X10_leastRow 85 rfl) ?_
    refine e_istore [some (.ref 53), some (.int v1), some (.int (((10 : Int32) * v2) + v6)), some (.int (r3 + (1 : Int32))), some (.int (r4 + (1 : Int32))), some (.int v5), some (.int v6), some (.int v7), none, none, none] (dt dk_X10_leastRow 86 rfl) rfl rfl rfl ?_
    refine e_iinc [some (.ref 53), some (.int v1), some (.int (((10 : Int32) * v2) + v6)), some (.int (r3 + (1 : Int32))), some (.int (r4 + (1 : Int32))), some (.int (v5 + (-1 : Int32))), some (.int v6), some (.int v7), none, none, none] (dt dk_X10_leastRow 87 rfl) rfl rfl rfl rfl ?_
    refine e_goto 15 (dt dk_X10_leastRow 88 rfl) (by decide) ?_
    exact e_forget [true, true, true, true, true, true, false, false, false, false, false] [some (.ref 53), some (.int v1), some (.int (((10 : Int32) * v2) + v6)), some (.int (r3 + (1 : Int32))), some (.int (r4 + (1 : Int32))), some (.int (v5 + (-1 : Int32))), none, none, none, none, none] ⟨rfl, rfl⟩ (hK15 v1 (((10 : Int32) * v2) + v6) (r3 + (1 : Int32)) (r4 + (1 : Int32)) (v5 + (-1 : Int32)))
  · refine e_aload_n (dt dk_X10_leastRow 19 rfl) rfl ?_
    refine e_iload_n (dt dk_X10_leastRow 20 rfl) rfl ?_
    refine e_iload_n (dt dk_X10_leastRow 21 rfl) rfl ?_
    refine e_iload (dt dk_X10_leastRow 22 rfl) rfl ?_
    refine ev_call (ca_V (k := 53) mv_X10_inOne (sp_X10_inOne v1 v3 v7 M) (dt dk_X10_leastRow 23 rfl) ml_X10_226 rfl rfl rfl rfl rfl (by decide) : Ca _ _ _ _ _ _ _ _ [] _ _) (fun r5 hr5 => ?_)
    show Ev _ _ _ _ _ _ 41 [some (.ref 53), some (.int v1), some (.int v2), some (.int v3), some (.int v4), some (.int v5), some (.int v6), some (.int v7), none, none, none] [.int r5] M _
    refine e_istore [some (.ref 53), some (.int v1), some (.int v2), some (.int v3), some (.int v4), some (.int v5), some (.int v6), some (.int v7), some (.int r5), none, none] (dt dk_X10_leastRow 24 rfl) rfl rfl rfl ?_
    refine e_aload_n (dt dk_X10_leastRow 25 rfl) rfl ?_
    refine e_iload_n (dt dk_X10_leastRow 26 rfl) rfl ?_
    refine e_iload (dt dk_X10_leastRow 27 rfl) rfl ?_
    refine e_iload (dt dk_X10_leastRow 28 rfl) rfl ?_
    refine ev_call (ca_V (k := 53) mv_X10_inTwo (sp_X10_inTwo v1 v4 v7 M) (dt dk_X10_leastRow 29 rfl) ml_X10_229 rfl rfl rfl rfl rfl (by decide) : Ca _ _ _ _ _ _ _ _ [] _ _) (fun r6 hr6 => ?_)
    show Ev _ _ _ _ _ _ 52 [some (.ref 53), some (.int v1), some (.int v2), some (.int v3), some (.int v4), some (.int v5), some (.int v6), some (.int v7), some (.int r5), none, none] [.int r6] M _
    refine e_istore [some (.ref 53), some (.int v1), some (.int v2), some (.int v3), some (.int v4), some (.int v5), some (.int v6), some (.int v7), some (.int r5), some (.int r6), none] (dt dk_X10_leastRow 30 rfl) rfl rfl rfl ?_
    refine e_iload (dt dk_X10_leastRow 31 rfl) rfl ?_
    refine e_iload_n (dt dk_X10_leastRow 32 rfl) rfl ?_
    refine e_icmp_ge 94 (dt dk_X10_leastRow 33 rfl) (by decide) (fun h7 => ?_) (fun h7 => ?_)
    · exact e_forget [true, true, true, true, true, true, true, true, false, false, false] [some (.ref 53), some (.int v1), some (.int v2), some (.int v3), some (.int v4), some (.int v5), some (.int v6), some (.int v7), none, none, none] ⟨rfl, rfl⟩ (ev_lb_X10_leastRow_94 M K15 K28 hK15 hK28 v1 v2 v3 v4 v5 v6 v7)
    · refine e_iload (dt dk_X10_leastRow 34 rfl) rfl ?_
      refine e_iload_n (dt dk_X10_leastRow 35 rfl) rfl ?_
      refine e_icmp_ge 94 (dt dk_X10_leastRow 36 rfl) (by decide) (fun h9 => ?_) (fun h9 => ?_)
      · exact e_forget [true, true, true, true, true, true, true, true, false, false, false] [some (.ref 53), some (.int v1), some (.int v2), some (.int v3), some (.int v4), some (.int v5), some (.int v6), some (.int v7), none, none, none] ⟨rfl, rfl⟩ (ev_lb_X10_leastRow_94 M K15 K28 hK15 hK28 v1 v2 v3 v4 v5 v6 v7)
      · refine e_aload_n (dt dk_X10_leastRow 37 rfl) rfl ?_
        refine e_getR ci_X10 (dt dk_X10_leastRow 38 rfl) rfl (by decide) rfl fl_X10_55 ?_
        refine e_bipush (v := (10 : Int32)) (dt dk_X10_leastRow 39 rfl) (by decide) ?_
        refine e_iload (dt dk_X10_leastRow 40 rfl) rfl ?_
        refine e_iconst (v := (1 : Int32)) (dt dk_X10_leastRow 41 rfl) (by decide) ?_
        refine e_iadd (dt dk_X10_leastRow 42 rfl) ?_
        refine e_imul (dt dk_X10_leastRow 43 rfl) ?_
        refine e_iload (dt dk_X10_leastRow 44 rfl) rfl ?_
        refine e_iadd (dt dk_X10_leastRow 45 rfl) ?_
        refine e_iconst (v := (1 : Int32)) (dt dk_X10_leastRow 46 rfl) (by decide) ?_
        refine e_iadd (dt dk_X10_leastRow 47 rfl) ?_
        refine e_if (fun h10 => ?_)
        refine e_iald' (v := (M 69 (ix ((((10 : Int32) * (r5 + (1 : Int32))) + r6) + (1 : Int32))))) (dt dk_X10_leastRow 48 rfl) rfl h10 rfl ?_
        refine e_iload (dt dk_X10_leastRow 49 rfl) rfl ?_
        refine e_iconst (v := (1 : Int32)) (dt dk_X10_leastRow 50 rfl) (by decide) ?_
        refine e_isub (dt dk_X10_leastRow 51 rfl) ?_
        refine e_icmp_ne 94 (dt dk_X10_leastRow 52 rfl) (by decide) (fun h11 => ?_) (fun h11 => ?_)
        · refine e_iconst (v := (1 : Int32)) (dt dk_X10_leastRow 53 rfl) (by decide) ?_
          refine e_goto 95 (dt dk_X10_leastRow 54 rfl) (by decide) ?_
          exact e_forget [true, true, true, true, true, true, true, true, false, false, false] [some (.ref 53), some (.int v1), some (.int v2), some (.int v3), some (.int v4), some (.int v5), some (.int v6), some (.int v7), none, none, none] ⟨rfl, rfl⟩ (ev_lb_X10_leastRow_95 M K15 K28 hK15 hK28 v1 v2 v3 v4 v5 v6 v7 (1 : Int32))
        · exact e_forget [true, true, true, true, true, true, true, true, false, false, false] [some (.ref 53), some (.int v1), some (.int v2), some (.int v3), some (.int v4), some (.int v5), some (.int v6), some (.int v7), none, none, none] ⟨rfl, rfl⟩ (ev_lb_X10_leastRow_94 M K15 K28 hK15 hK28 v1 v2 v3 v4 v5 v6 v7)
def lp_X10_leastRow_28 (M : Mem) (K15 : Int32 → Int32 → Int32 → Int32 → Int32 → Option Int32) : Nat → Int32 → Int32 → Int32 → Int32 → Int32 → Int32 → Int32 → Option Int32
  | 0 => fun _ _ _ _ _ _ _ => none
  | n + 1 => bd_X10_leastRow_28 M K15 (lp_X10_leastRow_28 M K15 n)
theorem ev_lp_X10_leastRow_28 (M : Mem) (K15 : Int32 → Int32 → Int32 → Int32 → Int32 → Option Int32) (hK15 : ∀ (v1 : Int32) (v2 : Int32) (v3 : Int32) (v4 : Int32) (v5 : Int32), Ev none (wR M) RX10 cX10_leastRow (some .int) 1 15 [some (.ref 53), some (.int v1), some (.int v2), some (.int v3), some (.int v4), some (.int v5), none, none, none, none, none] [] M (K15 v1 v2 v3 v4 v5)) : ∀ (n : Nat), ∀ (v1 : Int32) (v2 : Int32) (v3 : Int32) (v4 : Int32) (v5 : Int32) (v6 : Int32) (v7 : Int32), Ev none (wR M) RX10 cX10_leastRow (some .int) 1 28 [some (.ref 53), some (.int v1), some (.int v2), some (.int v3), some (.int v4), some (.int v5), some (.int v6), some (.int v7), none, none, none] [] M (lp_X10_leastRow_28 M K15 n v1 v2 v3 v4 v5 v6 v7)
  | 0 => fun _ _ _ _ _ _ _ => e_none
  | n + 1 => ev_bd_X10_leastRow_28 M K15 (lp_X10_leastRow_28 M K15 n) hK15 (ev_lp_X10_leastRow_28 M K15 hK15 n)
def bd_X10_leastRow_15 (M : Mem)  (K15 : Int32 → Int32 → Int32 → Int32 → Int32 → Option Int32) (v1 : Int32) (v2 : Int32) (v3 : Int32) (v4 : Int32) (v5 : Int32) : Option Int32 :=
  (if v5 ≤ 0 then some v2 else (lp_X10_leastRow_28 M K15 FU v1 v2 v3 v4 v5 (-6 : Int32) (9 : Int32)))
set_option maxRecDepth 20000 in
set_option maxHeartbeats 2000000 in
theorem ev_bd_X10_leastRow_15 (M : Mem)  (K15 : Int32 → Int32 → Int32 → Int32 → Int32 → Option Int32)  (hK15 : ∀ (v1 : Int32) (v2 : Int32) (v3 : Int32) (v4 : Int32) (v5 : Int32), Ev none (wR M) RX10 cX10_leastRow (some .int) 1 15 [some (.ref 53), some (.int v1), some (.int v2), some (.int v3), some (.int v4), some (.int v5), none, none, none, none, none] [] M (K15 v1 v2 v3 v4 v5)) (v1 : Int32) (v2 : Int32) (v3 : Int32) (v4 : Int32) (v5 : Int32) : Ev none (wR M) RX10 cX10_leastRow (some .int) 1 15 [some (.ref 53), some (.int v1), some (.int v2), some (.int v3), some (.int v4), some (.int v5), none, none, none, none, none] [] M (bd_X10_leastRow_15 M K15 v1 v2 v3 v4 v5) := by
  unfold bd_X10_leastRow_15
  refine e_iload (dt dk_X10_leastRow 11 rfl) rfl ?_
  refine e_if_le 155 (dt dk_X10_leastRow 12 rfl) (by decide) (fun h1 => ?_) (fun h1 => ?_)
  · refine e_iload_n (dt dk_X10_leastRow 89 rfl) rfl ?_
    exact e_iret (dt dk_X10_leastRow 90 rfl) rfl rfl rfl
  · refine e_bipush (v := (-6 : Int32)) (dt dk_X10_leastRow 13 rfl) (by decide) ?_
    refine e_istore [some (.ref 53), some (.int v1), some (.int v2), some (.int v3), some (.int v4), some (.int v5), some (.int (-6 : Int32)), none, none, none, none] (dt dk_X10_leastRow 14 rfl) rfl rfl rfl ?_
    refine e_bipush (v := (9 : Int32)) (dt dk_X10_leastRow 15 rfl) (by decide) ?_
    refine e_istore [some (.ref 53), some (.int v1), some (.int v2), some (.int v3), some (.int v4), some (.int v5), some (.int (-6 : Int32)), some (.int (9 : Int32)), none, none, none] (dt dk_X10_leastRow 16 rfl) rfl rfl rfl ?_
    exact e_forget [true, true, true, true, true, true, true, true, false, false, false] [some (.ref 53), some (.int v1), some (.int v2), some (.int v3), some (.int v4), some (.int v5), some (.int (-6 : Int32)), some (.int (9 : Int32)), none, none, none] ⟨rfl, rfl⟩ (ev_lp_X10_leastRow_28 M K15 hK15 FU v1 v2 v3 v4 v5 (-6 : Int32) (9 : Int32))
def lp_X10_leastRow_15 (M : Mem)  : Nat → Int32 → Int32 → Int32 → Int32 → Int32 → Option Int32
  | 0 => fun _ _ _ _ _ => none
  | n + 1 => bd_X10_leastRow_15 M (lp_X10_leastRow_15 M n)
theorem ev_lp_X10_leastRow_15 (M : Mem)   : ∀ (n : Nat), ∀ (v1 : Int32) (v2 : Int32) (v3 : Int32) (v4 : Int32) (v5 : Int32), Ev none (wR M) RX10 cX10_leastRow (some .int) 1 15 [some (.ref 53), some (.int v1), some (.int v2), some (.int v3), some (.int v4), some (.int v5), none, none, none, none, none] [] M (lp_X10_leastRow_15 M n v1 v2 v3 v4 v5)
  | 0 => fun _ _ _ _ _ => e_none
  | n + 1 => ev_bd_X10_leastRow_15 M (lp_X10_leastRow_15 M n) (ev_lp_X10_leastRow_15 M n)
def f_X10_leastRow (v1 : Int32) (M : Mem) : Option Int32 :=
  (lp_X10_leastRow_15 M FU v1 (0 : Int32) (0 : Int32) (0 : Int32) (M 69 (ix (0 : Int32))))
set_option maxRecDepth 20000 in
set_option maxHeartbeats 2000000 in
theorem sp_X10_leastRow (v1 : Int32) (M : Mem) : SpO (wR M) yX10_leastRow cX10_leastRow 11 (some .int) 1 [.ref 53, .int v1] M (f_X10_leastRow v1 M) := by
  refine sp_of (L := [some (.ref 53), some (.int v1), none, none, none, none, none, none, none, none, none]) rfl (by decide +kernel) rfl rfl ?_
  unfold f_X10_leastRow
  refine e_iconst (v := (0 : Int32)) (dt dk_X10_leastRow 0 rfl) (by decide) ?_
  refine e_istore_n [some (.ref 53), some (.int v1), some (.int (0 : Int32)), none, none, none, none, none, none, none, none] (dt dk_X10_leastRow 1 rfl) rfl rfl rfl ?_
  refine e_iconst (v := (0 : Int32)) (dt dk_X10_leastRow 2 rfl) (by decide) ?_
  refine e_istore_n [some (.ref 53), some (.int v1), some (.int (0 : Int32)), some (.int (0 : Int32)), none, none, none, none, none, none, none] (dt dk_X10_leastRow 3 rfl) rfl rfl rfl ?_
  refine e_iconst (v := (0 : Int32)) (dt dk_X10_leastRow 4 rfl) (by decide) ?_
  refine e_istore [some (.ref 53), some (.int v1), some (.int (0 : Int32)), some (.int (0 : Int32)), some (.int (0 : Int32)), none, none, none, none, none, none] (dt dk_X10_leastRow 5 rfl) rfl rfl rfl ?_
  refine e_aload_n (dt dk_X10_leastRow 6 rfl) rfl ?_
  refine e_getR ci_X10 (dt dk_X10_leastRow 7 rfl) rfl (by decide) rfl fl_X10_55 ?_
  refine e_iconst (v := (0 : Int32)) (dt dk_X10_leastRow 8 rfl) (by decide) ?_
  refine e_iald' (v := (M 69 (ix (0 : Int32)))) (dt dk_X10_leastRow 9 rfl) rfl (by decide) rfl ?_
  refine e_istore [some (.ref 53), some (.int v1), some (.int (0 : Int32)), some (.int (0 : Int32)), some (.int (0 : Int32)), some (.int (M 69 (ix (0 : Int32)))), none, none, none, none, none] (dt dk_X10_leastRow 10 rfl) rfl rfl rfl ?_
  exact e_forget [true, true, true, true, true, true, false, false, false, false, false] [some (.ref 53), some (.int v1), some (.int (0 : Int32)), some (.int (0 : Int32)), some (.int (0 : Int32)), some (.int (M 69 (ix (0 : Int32)))), none, none, none, none, none] ⟨rfl, rfl⟩ (ev_lp_X10_leastRow_15 M FU v1 (0 : Int32) (0 : Int32) (0 : Int32) (M 69 (ix (0 : Int32))))
-- X10_lengthFrom (R, depth 0)
def lb_X10_lengthFrom_94 (M : Mem)  (v6 : Int32) (s0 : Int32) : Option Int32 :=
  (if s0 ≤ v6 then some v6 else some s0)
set_option maxRecDepth 20000 in
set_option maxHeartbeats 2000000 in
theorem ev_lb_X10_lengthFrom_94 (M : Mem)   (v6 : Int32) (s0 : Int32) : Ev none (wR M) RX10 cX10_lengthFrom (some .int) 0 94 [none, none, none, none, none, none, some (.int v6), none] [.int s0] M (lb_X10_lengthFrom_94 M v6 s0) := by
  unfold lb_X10_lengthFrom_94
  refine e_istore [none, none, none, none, none, none, some (.int v6), some (.int s0)] (dt dk_X10_lengthFrom 62 rfl) rfl rfl rfl ?_
  refine e_iload (dt dk_X10_lengthFrom 63 rfl) rfl ?_
  refine e_iload (dt dk_X10_lengthFrom 64 rfl) rfl ?_
  refine e_icmp_le 108 (dt dk_X10_lengthFrom 65 rfl) (by decide) (fun h9 => ?_) (fun h9 => ?_)
  · refine e_iload (dt dk_X10_lengthFrom 68 rfl) rfl ?_
    exact e_iret (dt dk_X10_lengthFrom 69 rfl) rfl rfl rfl
  · refine e_iload (dt dk_X10_lengthFrom 66 rfl) rfl ?_
    refine e_goto 110 (dt dk_X10_lengthFrom 67 rfl) (by decide) ?_
    exact e_iret (dt dk_X10_lengthFrom 69 rfl) rfl rfl rfl
def lb_X10_lengthFrom_56 (M : Mem)  (v2 : Int32) (v3 : Int32) (s0 : Int32) : Option Int32 :=
  if inb v2 9 then if inb v3 9 then (if (M 67 (ix v2)) = (M 68 (ix v3)) then if inb ((((10 : Int32) * (v2 + (1 : Int32))) + v3) + (1 : Int32)) 100 then (lb_X10_lengthFrom_94 M s0 ((1 : Int32) + (M 69 (ix ((((10 : Int32) * (v2 + (1 : Int32))) + v3) + (1 : Int32)))))) else none else (lb_X10_lengthFrom_94 M s0 (0 : Int32))) else none else none
set_option maxRecDepth 20000 in
set_option maxHeartbeats 2000000 in
theorem ev_lb_X10_lengthFrom_56 (M : Mem)   (v2 : Int32) (v3 : Int32) (s0 : Int32) : Ev none (wR M) RX10 cX10_lengthFrom (some .int) 0 56 [some (.ref 53), none, some (.int v2), some (.int v3), none, none, none, none] [.int s0] M (lb_X10_lengthFrom_56 M v2 v3 s0) := by
  unfold lb_X10_lengthFrom_56
  refine e_istore [some (.ref 53), none, some (.int v2), some (.int v3), none, none, some (.int s0), none] (dt dk_X10_lengthFrom 36 rfl) rfl rfl rfl ?_
  refine e_aload_n (dt dk_X10_lengthFrom 37 rfl) rfl ?_
  refine e_getR ci_X10 (dt dk_X10_lengthFrom 38 rfl) rfl (by decide) rfl fl_X10_49 ?_
  refine e_iload_n (dt dk_X10_lengthFrom 39 rfl) rfl ?_
  refine e_if (fun h6 => ?_)
  refine e_iald' (v := (M 67 (ix v2))) (dt dk_X10_lengthFrom 40 rfl) rfl h6 rfl ?_
  refine e_aload_n (dt dk_X10_lengthFrom 41 rfl) rfl ?_
  refine e_getR ci_X10 (dt dk_X10_lengthFrom 42 rfl) rfl (by decide) rfl fl_X10_52 ?_
  refine e_iload_n (dt dk_X10_lengthFrom 43 rfl) rfl ?_
  refine e_if (fun h7 => ?_)
  refine e_iald' (v := (M 68 (ix v3))) (dt dk_X10_lengthFrom 44 rfl) rfl h7 rfl ?_
  refine e_icmp_ne 93 (dt dk_X10_lengthFrom 45 rfl) (by decide) (fun h8 => ?_) (fun h8 => ?_)
  · refine e_iconst (v := (1 : Int32)) (dt dk_X10_lengthFrom 46 rfl) (by decide) ?_
    refine e_aload_n (dt dk_X10_lengthFrom 47 rfl) rfl ?_
    refine e_getR ci_X10 (dt dk_X10_lengthFrom 48 rfl) rfl (by decide) rfl fl_X10_55 ?_
    refine e_bipush (v := (10 : Int32)) (dt dk_X10_lengthFrom 49 rfl) (by decide) ?_
    refine e_iload_n (dt dk_X10_lengthFrom 50 rfl) rfl ?_
    refine e_iconst (v := (1 : Int32)) (dt dk_X10_lengthFrom 51 rfl) (by decide) ?_
    refine e_iadd (dt dk_X10_lengthFrom 52 rfl) ?_
    refine e_imul (dt dk_X10_lengthFrom 53 rfl) ?_
    refine e_iload_n (dt dk_X10_lengthFrom 54 rfl) rfl ?_
    refine e_iadd (dt dk_X10_lengthFrom 55 rfl) ?_
    refine e_iconst (v := (1 : Int32)) (dt dk_X10_lengthFrom 56 rfl) (by decide) ?_
    refine e_iadd (dt dk_X10_lengthFrom 57 rfl) ?_
    refine e_if (fun h10 => ?_)
    refine e_iald' (v := (M 69 (ix ((((10 : Int32) * (v2 + (1 : Int32))) + v3) + (1 : Int32))))) (dt dk_X10_lengthFrom 58 rfl) rfl h10 rfl ?_
    refine e_iadd (dt dk_X10_lengthFrom 59 rfl) ?_
    refine e_goto 94 (dt dk_X10_lengthFrom 60 rfl) (by decide) ?_
    exact e_forget [false, false, false, false, false, false, true, false] [none, none, none, none, none, none, some (.int s0), none] ⟨rfl, rfl⟩ (ev_lb_X10_lengthFrom_94 M s0 ((1 : Int32) + (M 69 (ix ((((10 : Int32) * (v2 + (1 : Int32))) + v3) + (1 : Int32))))))
  · refine e_iconst (v := (0 : Int32)) (dt dk_X10_lengthFrom 61 rfl) (by decide) ?_
    exact e_forget [false, false, false, false, false, false, true, false] [none, none, none, none, none, none, some (.int s0), none] ⟨rfl, rfl⟩ (ev_lb_X10_lengthFrom_94 M s0 (0 : Int32))
def f_X10_lengthFrom (v1 : Int32) (v2 : Int32) (v3 : Int32) (M : Mem) : Option Int32 :=
  (if v2 = v1 then some (0 : Int32) else (if v3 = v1 then some (0 : Int32) else if inb (((10 : Int32) * (v2 + (1 : Int32))) + v3) 100 then if inb ((((10 : Int32) * v2) + v3) + (1 : Int32)) 100 then (if (M 69 (ix (((10 : Int32) * (v2 + (1 : Int32))) + v3))) ≤ (M 69 (ix ((((10 : Int32) * v2) + v3) + (1 : Int32)))) then (lb_X10_lengthFrom_56 M v2 v3 (M 69 (ix ((((10 : Int32) * v2) + v3) + (1 : Int32))))) else (lb_X10_lengthFrom_56 M v2 v3 (M 69 (ix (((10 : Int32) * (v2 + (1 : Int32))) + v3))))) else none else none))
set_option maxRecDepth 20000 in
set_option maxHeartbeats 2000000 in
theorem sp_X10_lengthFrom (v1 : Int32) (v2 : Int32) (v3 : Int32) (M : Mem) : SpO (wR M) yX10_lengthFrom cX10_lengthFrom 8 (some .int) 0 [.ref 53, .int v1, .int v2, .int v3] M (f_X10_lengthFrom v1 v2 v3 M) := by
  refine sp_of (L := [some (.ref 53), some (.int v1), some (.int v2), some (.int v3), none, none, none, none]) rfl (by decide +kernel) rfl rfl ?_
  unfold f_X10_lengthFrom
  refine e_iload_n (dt dk_X10_lengthFrom 0 rfl) rfl ?_
  refine e_iload_n (dt dk_X10_lengthFrom 1 rfl) rfl ?_
  refine e_icmp_eq 10 (dt dk_X10_lengthFrom 2 rfl) (by decide) (fun h1 => ?_) (fun h1 => ?_)
  · refine e_iconst (v := (0 : Int32)) (dt dk_X10_lengthFrom 6 rfl) (by decide) ?_
    exact e_iret (dt dk_X10_lengthFrom 7 rfl) rfl rfl rfl
  · refine e_iload_n (dt dk_X10_lengthFrom 3 rfl) rfl ?_
    refine e_iload_n (dt dk_X10_lengthFrom 4 rfl) rfl ?_
    refine e_icmp_ne 12 (dt dk_X10_lengthFrom 5 rfl) (by decide) (fun h2 => ?_) (fun h2 => ?_)
    · refine e_iconst (v := (0 : Int32)) (dt dk_X10_lengthFrom 6 rfl) (by decide) ?_
      exact e_iret (dt dk_X10_lengthFrom 7 rfl) rfl rfl rfl
    · refine e_aload_n (dt dk_X10_lengthFrom 8 rfl) rfl ?_
      refine e_getR ci_X10 (dt dk_X10_lengthFrom 9 rfl) rfl (by decide) rfl fl_X10_55 ?_
      refine e_bipush (v := (10 : Int32)) (dt dk_X10_lengthFrom 10 rfl) (by decide) ?_
      refine e_iload_n (dt dk_X10_lengthFrom 11 rfl) rfl ?_
      refine e_iconst (v := (1 : Int32)) (dt dk_X10_lengthFrom 12 rfl) (by decide) ?_
      refine e_iadd (dt dk_X10_lengthFrom 13 rfl) ?_
      refine e_imul (dt dk_X10_lengthFrom 14 rfl) ?_
      refine e_iload_n (dt dk_X10_lengthFrom 15 rfl) rfl ?_
      refine e_iadd (dt dk_X10_lengthFrom 16 rfl) ?_
      refine e_if (fun h3 => ?_)
      refine e_iald' (v := (M 69 (ix (((10 : Int32) * (v2 + (1 : Int32))) + v3)))) (dt dk_X10_lengthFrom 17 rfl) rfl h3 rfl ?_
      refine e_istore [some (.ref 53), some (.int v1), some (.int v2), some (.int v3), some (.int (M 69 (ix (((10 : Int32) * (v2 + (1 : Int32))) + v3)))), none, none, none] (dt dk_X10_lengthFrom 18 rfl) rfl rfl rfl ?_
      refine e_aload_n (dt dk_X10_lengthFrom 19 rfl) rfl ?_
      refine e_getR ci_X10 (dt dk_X10_lengthFrom 20 rfl) rfl (by decide) rfl fl_X10_55 ?_
      refine e_bipush (v := (10 : Int32)) (dt dk_X10_lengthFrom 21 rfl) (by decide) ?_
      refine e_iload_n (dt dk_X10_lengthFrom 22 rfl) rfl ?_
      refine e_imul (dt dk_X10_lengthFrom 23 rfl) ?_
      refine e_iload_n (dt dk_X10_lengthFrom 24 rfl) rfl ?_
      refine e_iadd (dt dk_X10_lengthFrom 25 rfl) ?_
      refine e_iconst (v := (1 : Int32)) (dt dk_X10_lengthFrom 26 rfl) (by decide) ?_
      refine e_iadd (dt dk_X10_lengthFrom 27 rfl) ?_
      refine e_if (fun h4 => ?_)
      refine e_iald' (v := (M 69 (ix ((((10 : Int32) * v2) + v3) + (1 : Int32))))) (dt dk_X10_lengthFrom 28 rfl) rfl h4 rfl ?_
      refine e_istore [some (.ref 53), some (.int v1), some (.int v2), some (.int v3), some (.int (M 69 (ix (((10 : Int32) * (v2 + (1 : Int32))) + v3)))), some (.int (M 69 (ix ((((10 : Int32) * v2) + v3) + (1 : Int32))))), none, none] (dt dk_X10_lengthFrom 29 rfl) rfl rfl rfl ?_
      refine e_iload (dt dk_X10_lengthFrom 30 rfl) rfl ?_
      refine e_iload (dt dk_X10_lengthFrom 31 rfl) rfl ?_
      refine e_icmp_le 54 (dt dk_X10_lengthFrom 32 rfl) (by decide) (fun h5 => ?_) (fun h5 => ?_)
      · refine e_iload (dt dk_X10_lengthFrom 35 rfl) rfl ?_
        exact e_forget [true, false, true, true, false, false, false, false] [some (.ref 53), none, some (.int v2), some (.int v3), none, none, none, none] ⟨rfl, rfl⟩ (ev_lb_X10_lengthFrom_56 M v2 v3 (M 69 (ix ((((10 : Int32) * v2) + v3) + (1 : Int32)))))
      · refine e_iload (dt dk_X10_lengthFrom 33 rfl) rfl ?_
        refine e_goto 56 (dt dk_X10_lengthFrom 34 rfl) (by decide) ?_
        exact e_forget [true, false, true, true, false, false, false, false] [some (.ref 53), none, some (.int v2), some (.int v3), none, none, none, none] ⟨rfl, rfl⟩ (ev_lb_X10_lengthFrom_56 M v2 v3 (M 69 (ix (((10 : Int32) * (v2 + (1 : Int32))) + v3))))
-- X10_digit (R, depth 0)
def bd_X10_digit_7  (K7 : Int32 → Int32 → Int32 → Option Int32) (v2 : Int32) (v3 : Int32) (v4 : Int32) : Option Int32 :=
  (if v4 ≤ v2 then some (remI v3 (10 : Int32)) else (K7 v2 (v3 / (10 : Int32)) (v4 + (-1 : Int32))))
set_option maxRecDepth 20000 in
set_option maxHeartbeats 2000000 in
theorem ev_bd_X10_digit_7 (M : Mem)  (K7 : Int32 → Int32 → Int32 → Option Int32)  (hK7 : ∀ (v2 : Int32) (v3 : Int32) (v4 : Int32), Ev none (wR M) RX10 cX10_digit (some .int) 0 7 [none, none, some (.int v2), some (.int v3), some (.int v4)] [] M (K7 v2 v3 v4)) (v2 : Int32) (v3 : Int32) (v4 : Int32) : Ev none (wR M) RX10 cX10_digit (some .int) 0 7 [none, none, some (.int v2), some (.int v3), some (.int v4)] [] M (bd_X10_digit_7 K7 v2 v3 v4) := by
  unfold bd_X10_digit_7
  refine e_iload (dt dk_X10_digit 6 rfl) rfl ?_
  refine e_iload_n (dt dk_X10_digit 7 rfl) rfl ?_
  refine e_icmp_le 24 (dt dk_X10_digit 8 rfl) (by decide) (fun h1 => ?_) (fun h1 => ?_)
  · refine e_iload_n (dt dk_X10_digit 15 rfl) rfl ?_
    refine e_bipush (v := (10 : Int32)) (dt dk_X10_digit 16 rfl) (by decide) ?_
    refine e_irem' (dt dk_X10_digit 17 rfl) (by decide) ?_
    show Ev _ _ _ _ _ _ 28 [none, none, some (.int v2), some (.int v3), some (.int v4)] [.int (remI v3 (10 : Int32))] M _
    exact e_iret (dt dk_X10_digit 18 rfl) rfl rfl rfl
  · refine e_iload_n (dt dk_X10_digit 9 rfl) rfl ?_
    refine e_bipush (v := (10 : Int32)) (dt dk_X10_digit 10 rfl) (by decide) ?_
    refine e_idiv' (dt dk_X10_digit 11 rfl) (by decide) ?_
    show Ev _ _ _ _ _ _ 17 [none, none, some (.int v2), some (.int v3), some (.int v4)] [.int (v3 / (10 : Int32))] M _
    refine e_istore_n [none, none, some (.int v2), some (.int (v3 / (10 : Int32))), some (.int v4)] (dt dk_X10_digit 12 rfl) rfl rfl rfl ?_
    refine e_iinc [none, none, some (.int v2), some (.int (v3 / (10 : Int32))), some (.int (v4 + (-1 : Int32)))] (dt dk_X10_digit 13 rfl) rfl rfl rfl rfl ?_
    refine e_goto 7 (dt dk_X10_digit 14 rfl) (by decide) ?_
    exact e_forget [false, false, true, true, true] [none, none, some (.int v2), some (.int (v3 / (10 : Int32))), some (.int (v4 + (-1 : Int32)))] ⟨rfl, rfl⟩ (hK7 v2 (v3 / (10 : Int32)) (v4 + (-1 : Int32)))
def lp_X10_digit_7  : Nat → Int32 → Int32 → Int32 → Option Int32
  | 0 => fun _ _ _ => none
  | n + 1 => bd_X10_digit_7 (lp_X10_digit_7 n)
theorem ev_lp_X10_digit_7 (M : Mem)   : ∀ (n : Nat), ∀ (v2 : Int32) (v3 : Int32) (v4 : Int32), Ev none (wR M) RX10 cX10_digit (some .int) 0 7 [none, none, some (.int v2), some (.int v3), some (.int v4)] [] M (lp_X10_digit_7 n v2 v3 v4)
  | 0 => fun _ _ _ => e_none
  | n + 1 => ev_bd_X10_digit_7 M (lp_X10_digit_7 n) (ev_lp_X10_digit_7 M n)
def f_X10_digit (v0 : Int32) (v1 : Int32) (v2 : Int32) : Option Int32 :=
  (lp_X10_digit_7 FU v2 v0 (v1 - (1 : Int32)))
set_option maxRecDepth 20000 in
set_option maxHeartbeats 2000000 in
theorem sp_X10_digit (v0 : Int32) (v1 : Int32) (v2 : Int32) (M : Mem) : SpO (wR M) yX10_digit cX10_digit 5 (some .int) 0 [.int v0, .int v1, .int v2] M (f_X10_digit v0 v1 v2) := by
  refine sp_of (L := [some (.int v0), some (.int v1), some (.int v2), none, none]) rfl (by decide +kernel) rfl rfl ?_
  unfold f_X10_digit
  refine e_iload_n (dt dk_X10_digit 0 rfl) rfl ?_
  refine e_istore_n [some (.int v0), some (.int v1), some (.int v2), some (.int v0), none] (dt dk_X10_digit 1 rfl) rfl rfl rfl ?_
  refine e_iload_n (dt dk_X10_digit 2 rfl) rfl ?_
  refine e_iconst (v := (1 : Int32)) (dt dk_X10_digit 3 rfl) (by decide) ?_
  refine e_isub (dt dk_X10_digit 4 rfl) ?_
  refine e_istore [some (.int v0), some (.int v1), some (.int v2), some (.int v0), some (.int (v1 - (1 : Int32)))] (dt dk_X10_digit 5 rfl) rfl rfl rfl ?_
  exact e_forget [false, false, true, true, true] [none, none, some (.int v2), some (.int v0), some (.int (v1 - (1 : Int32)))] ⟨rfl, rfl⟩ (ev_lp_X10_digit_7 M FU v2 v0 (v1 - (1 : Int32)))
-- X10_heard (W, depth 2)
def bd_X10_heard_96 (K88 : Int32 → Int32 → Int32 → Mem → Option (Int32 × Mem)) (K96 : Int32 → Int32 → Int32 → Int32 → Mem → Option (Int32 × Mem)) (v3 : Int32) (v4 : Int32) (v5 : Int32) (v6 : Int32) (M : Mem) : Option (Int32 × Mem) :=
  (if v6 < 0 then (K88 v3 v4 (v5 + (-1 : Int32)) M) else ((f_X10_lengthFrom v3 v5 v6 M)).bind fun r12 => if inb (((10 : Int32) * v5) + v6) 100 then (K96 v3 v4 v5 (v6 + (-1 : Int32)) (up2 M 69 (ix (((10 : Int32) * v5) + v6)) r12)) else none)
set_option maxRecDepth 20000 in
set_option maxHeartbeats 2000000 in
theorem ev_bd_X10_heard_96 (K88 : Int32 → Int32 → Int32 → Mem → Option (Int32 × Mem)) (K96 : Int32 → Int32 → Int32 → Int32 → Mem → Option (Int32 × Mem)) (hK88 : ∀ (v3 : Int32) (v4 : Int32) (v5 : Int32) (M : Mem), Ev none wI RX10 cX10_heard (some .int) 2 88 [some (.ref 53), none, none, some (.int v3), some (.int v4), some (.int v5), none] [] M (K88 v3 v4 v5 M)) (hK96 : ∀ (v3 : Int32) (v4 : Int32) (v5 : Int32) (v6 : Int32) (M : Mem), Ev none wI RX10 cX10_heard (some .int) 2 96 [some (.ref 53), none, none, some (.int v3), some (.int v4), some (.int v5), some (.int v6)] [] M (K96 v3 v4 v5 v6 M)) (v3 : Int32) (v4 : Int32) (v5 : Int32) (v6 : Int32) (M : Mem) : Ev none wI RX10 cX10_heard (some .int) 2 96 [some (.ref 53), none, none, some (.int v3), some (.int v4), some (.int v5), some (.int v6)] [] M (bd_X10_heard_96 K88 K96 v3 v4 v5 v6 M) := by
  unfold bd_X10_heard_96
  refine e_iload (dt dk_X10_heard 51 rfl) rfl ?_
  refine e_if_lt 129 (dt dk_X10_heard 52 rfl) (by decide) (fun h11 => ?_) (fun h11 => ?_)
  · refine e_iinc [some (.ref 53), none, none, some (.int v3), some (.int v4), some (.int (v5 + (-1 : Int32))), some (.int v6)] (dt dk_X10_heard 68 rfl) rfl rfl rfl rfl ?_
    refine e_goto 88 (dt dk_X10_heard 69 rfl) (by decide) ?_
    exact e_forget [true, false, false, true, true, true, false] [some (.ref 53), none, none, some (.int v3), some (.int v4), some (.int (v5 + (-1 : Int32))), none] ⟨rfl, rfl⟩ (hK88 v3 v4 (v5 + (-1 : Int32)) M)
  · refine e_aload_n (dt dk_X10_heard 53 rfl) rfl ?_
    refine e_getR ci_X10 (dt dk_X10_heard 54 rfl) rfl (by decide) rfl fl_X10_55 ?_
    refine e_bipush (v := (10 : Int32)) (dt dk_X10_heard 55 rfl) (by decide) ?_
    refine e_iload (dt dk_X10_heard 56 rfl) rfl ?_
    refine e_imul (dt dk_X10_heard 57 rfl) ?_
    refine e_iload (dt dk_X10_heard 58 rfl) rfl ?_
    refine e_iadd (dt dk_X10_heard 59 rfl) ?_
    refine e_aload_n (dt dk_X10_heard 60 rfl) rfl ?_
    refine e_iload_n (dt dk_X10_heard 61 rfl) rfl ?_
    refine e_iload (dt dk_X10_heard 62 rfl) rfl ?_
    refine e_iload (dt dk_X10_heard 63 rfl) rfl ?_
    refine ev_call (ca_V (k := 53) mv_X10_lengthFrom (sp_X10_lengthFrom v3 v5 v6 M) (dt dk_X10_heard 64 rfl) ml_X10_238 rfl rfl rfl rfl rfl (by decide) : Ca _ _ _ _ _ _ _ _ [.int (((10 : Int32) * v5) + v6), .ref 69] _ _) (fun r12 hr12 => ?_)
    show Ev _ _ _ _ _ _ 122 [some (.ref 53), none, none, some (.int v3), some (.int v4), some (.int v5), some (.int v6)] [.int r12, .int (((10 : Int32) * v5) + v6), .ref 69] M _
    refine e_if (fun h13 => ?_)
    refine e_iast' (dt dk_X10_heard 65 rfl) rfl h13 ?_
    refine e_iinc [some (.ref 53), none, none, some (.int v3), some (.int v4), some (.int v5), some (.int (v6 + (-1 : Int32)))] (dt dk_X10_heard 66 rfl) rfl rfl rfl rfl ?_
    refine e_goto 96 (dt dk_X10_heard 67 rfl) (by decide) ?_
    exact e_forget [true, false, false, true, true, true, true] [some (.ref 53), none, none, some (.int v3), some (.int v4), some (.int v5), some (.int (v6 + (-1 : Int32)))] ⟨rfl, rfl⟩ (hK96 v3 v4 v5 (v6 + (-1 : Int32)) (up2 M 69 (ix (((10 : Int32) * v5) + v6)) r12))
def lp_X10_heard_96 (K88 : Int32 → Int32 → Int32 → Mem → Option (Int32 × Mem)) : Nat → Int32 → Int32 → Int32 → Int32 → Mem → Option (Int32 × Mem)
  | 0 => fun _ _ _ _ _ => none
  | n + 1 => bd_X10_heard_96 K88 (lp_X10_heard_96 K88 n)
theorem ev_lp_X10_heard_96 (K88 : Int32 → Int32 → Int32 → Mem → Option (Int32 × Mem)) (hK88 : ∀ (v3 : Int32) (v4 : Int32) (v5 : Int32) (M : Mem), Ev none wI RX10 cX10_heard (some .int) 2 88 [some (.ref 53), none, none, some (.int v3), some (.int v4), some (.int v5), none] [] M (K88 v3 v4 v5 M)) : ∀ (n : Nat), ∀ (v3 : Int32) (v4 : Int32) (v5 : Int32) (v6 : Int32) (M : Mem), Ev none wI RX10 cX10_heard (some .int) 2 96 [some (.ref 53), none, none, some (.int v3), some (.int v4), some (.int v5), some (.int v6)] [] M (lp_X10_heard_96 K88 n v3 v4 v5 v6 M)
  | 0 => fun _ _ _ _ _ => e_none
  | n + 1 => ev_bd_X10_heard_96 K88 (lp_X10_heard_96 K88 n) hK88 (ev_lp_X10_heard_96 K88 hK88 n)
def bd_X10_heard_88  (K88 : Int32 → Int32 → Int32 → Mem → Option (Int32 × Mem)) (v3 : Int32) (v4 : Int32) (v5 : Int32) (M : Mem) : Option (Int32 × Mem) :=
  (if v5 < 0 then (if v4 = 0 then some ((M 69 (ix (0 : Int32))), M) else ((f_X10_leastRow v3 M)).bind fun r10 => some (r10, M)) else (lp_X10_heard_96 K88 FU v3 v4 v5 v3 M))
set_option maxRecDepth 20000 in
set_option maxHeartbeats 2000000 in
theorem ev_bd_X10_heard_88  (K88 : Int32 → Int32 → Int32 → Mem → Option (Int32 × Mem))  (hK88 : ∀ (v3 : Int32) (v4 : Int32) (v5 : Int32) (M : Mem), Ev none wI RX10 cX10_heard (some .int) 2 88 [some (.ref 53), none, none, some (.int v3), some (.int v4), some (.int v5), none] [] M (K88 v3 v4 v5 M)) (v3 : Int32) (v4 : Int32) (v5 : Int32) (M : Mem) : Ev none wI RX10 cX10_heard (some .int) 2 88 [some (.ref 53), none, none, some (.int v3), some (.int v4), some (.int v5), none] [] M (bd_X10_heard_88 K88 v3 v4 v5 M) := by
  unfold bd_X10_heard_88
  refine e_iload (dt dk_X10_heard 47 rfl) rfl ?_
  refine e_if_lt 135 (dt dk_X10_heard 48 rfl) (by decide) (fun h8 => ?_) (fun h8 => ?_)
  · refine e_iload (dt dk_X10_heard 70 rfl) rfl ?_
    refine e_if_ne 149 (dt dk_X10_heard 71 rfl) (by decide) (fun h9 => ?_) (fun h9 => ?_)
    · refine e_aload_n (dt dk_X10_heard 72 rfl) rfl ?_
      refine e_getR ci_X10 (dt dk_X10_heard 73 rfl) rfl (by decide) rfl fl_X10_55 ?_
      refine e_iconst (v := (0 : Int32)) (dt dk_X10_heard 74 rfl) (by decide) ?_
      refine e_iald' (v := (M 69 (ix (0 : Int32)))) (dt dk_X10_heard 75 rfl) rfl (by decide) rfl ?_
      refine e_goto 154 (dt dk_X10_heard 76 rfl) (by decide) ?_
      exact e_iret (dt dk_X10_heard 80 rfl) rfl rfl rfl
    · refine e_aload_n (dt dk_X10_heard 77 rfl) rfl ?_
      refine e_iload_n (dt dk_X10_heard 78 rfl) rfl ?_
      refine ev_call (ca_V (k := 53) mv_X10_leastRow (sp_X10_leastRow v3 M) (dt dk_X10_heard 79 rfl) ml_X10_241 rfl rfl rfl rfl rfl (by decide) : Ca _ _ _ _ _ _ _ _ [] _ _) (fun r10 hr10 => ?_)
      show Ev _ _ _ _ _ _ 154 [some (.ref 53), none, none, some (.int v3), some (.int v4), some (.int v5), none] [.int r10] M _
      exact e_iret (dt dk_X10_heard 80 rfl) rfl rfl rfl
  · refine e_iload_n (dt dk_X10_heard 49 rfl) rfl ?_
    refine e_istore [some (.ref 53), none, none, some (.int v3), some (.int v4), some (.int v5), some (.int v3)] (dt dk_X10_heard 50 rfl) rfl rfl rfl ?_
    exact e_forget [true, false, false, true, true, true, true] [some (.ref 53), none, none, some (.int v3), some (.int v4), some (.int v5), some (.int v3)] ⟨rfl, rfl⟩ (ev_lp_X10_heard_96 K88 hK88 FU v3 v4 v5 v3 M)
def lp_X10_heard_88  : Nat → Int32 → Int32 → Int32 → Mem → Option (Int32 × Mem)
  | 0 => fun _ _ _ _ => none
  | n + 1 => bd_X10_heard_88 (lp_X10_heard_88 n)
theorem ev_lp_X10_heard_88   : ∀ (n : Nat), ∀ (v3 : Int32) (v4 : Int32) (v5 : Int32) (M : Mem), Ev none wI RX10 cX10_heard (some .int) 2 88 [some (.ref 53), none, none, some (.int v3), some (.int v4), some (.int v5), none] [] M (lp_X10_heard_88 n v3 v4 v5 M)
  | 0 => fun _ _ _ _ => e_none
  | n + 1 => ev_bd_X10_heard_88 (lp_X10_heard_88 n) (ev_lp_X10_heard_88 n)
def bd_X10_heard_45  (K45 : Int32 → Int32 → Int32 → Int32 → Int32 → Mem → Option (Int32 × Mem)) (v1 : Int32) (v2 : Int32) (v3 : Int32) (v4 : Int32) (v5 : Int32) (M : Mem) : Option (Int32 × Mem) :=
  (if v3 ≤ v5 then (lp_X10_heard_88 FU v3 v4 v3 M) else ((f_X10_digit v1 v3 v5)).bind fun r14 => if inb v5 9 then ((f_X10_digit v2 v3 v5)).bind fun r16 => if inb v5 9 then (K45 v1 v2 v3 v4 (v5 + (1 : Int32)) (up2 (up2 M 67 (ix v5) r14) 68 (ix v5) r16)) else none else none)
set_option maxRecDepth 20000 in
set_option maxHeartbeats 2000000 in
theorem ev_bd_X10_heard_45  (K45 : Int32 → Int32 → Int32 → Int32 → Int32 → Mem → Option (Int32 × Mem))  (hK45 : ∀ (v1 : Int32) (v2 : Int32) (v3 : Int32) (v4 : Int32) (v5 : Int32) (M : Mem), Ev none wI RX10 cX10_heard (some .int) 2 45 [some (.ref 53), some (.int v1), some (.int v2), some (.int v3), some (.int v4), some (.int v5), none] [] M (K45 v1 v2 v3 v4 v5 M)) (v1 : Int32) (v2 : Int32) (v3 : Int32) (v4 : Int32) (v5 : Int32) (M : Mem) : Ev none wI RX10 cX10_heard (some .int) 2 45 [some (.ref 53), some (.int v1), some (.int v2), some (.int v3), some (.int v4), some (.int v5), none] [] M (bd_X10_heard_45 K45 v1 v2 v3 v4 v5 M) := by
  unfold bd_X10_heard_45
  refine e_iload (dt dk_X10_heard 24 rfl) rfl ?_
  refine e_iload_n (dt dk_X10_heard 25 rfl) rfl ?_
  refine e_icmp_ge 85 (dt dk_X10_heard 26 rfl) (by decide) (fun h7 => ?_) (fun h7 => ?_)
  · refine e_iload_n (dt dk_X10_heard 45 rfl) rfl ?_
    refine e_istore [some (.ref 53), some (.int v1), some (.int v2), some (.int v3), some (.int v4), some (.int v3), none] (dt dk_X10_heard 46 rfl) rfl rfl rfl ?_
    exact e_forget [true, false, false, true, true, true, false] [some (.ref 53), none, none, some (.int v3), some (.int v4), some (.int v3), none] ⟨rfl, rfl⟩ (ev_lp_X10_heard_88 FU v3 v4 v3 M)
  · refine e_aload_n (dt dk_X10_heard 27 rfl) rfl ?_
    refine e_getR ci_X10 (dt dk_X10_heard 28 rfl) rfl (by decide) rfl fl_X10_49 ?_
    refine e_iload (dt dk_X10_heard 29 rfl) rfl ?_
    refine e_iload_n (dt dk_X10_heard 30 rfl) rfl ?_
    refine e_iload_n (dt dk_X10_heard 31 rfl) rfl ?_
    refine e_iload (dt dk_X10_heard 32 rfl) rfl ?_
    refine ev_call (ca_S ms_X10_digit (sp_X10_digit v1 v3 v5 M) (dt dk_X10_heard 33 rfl) ml_X10_235 rfl rfl rfl (by decide) : Ca _ _ _ _ _ _ _ _ [.int v5, .ref 67] _ _) (fun r14 hr14 => ?_)
    show Ev _ _ _ _ _ _ 64 [some (.ref 53), some (.int v1), some (.int v2), some (.int v3), some (.int v4), some (.int v5), none] [.int r14, .int v5, .ref 67] M _
    refine e_if (fun h15 => ?_)
    refine e_iast' (dt dk_X10_heard 34 rfl) rfl h15 ?_
    refine e_aload_n (dt dk_X10_heard 35 rfl) rfl ?_
    refine e_getR ci_X10 (dt dk_X10_heard 36 rfl) rfl (by decide) rfl fl_X10_52 ?_
    refine e_iload (dt dk_X10_heard 37 rfl) rfl ?_
    refine e_iload_n (dt dk_X10_heard 38 rfl) rfl ?_
    refine e_iload_n (dt dk_X10_heard 39 rfl) rfl ?_
    refine e_iload (dt dk_X10_heard 40 rfl) rfl ?_
    refine ev_call (ca_S ms_X10_digit (sp_X10_digit v2 v3 v5 (up2 M 67 (ix v5) r14)) (dt dk_X10_heard 41 rfl) ml_X10_235 rfl rfl rfl (by decide) : Ca _ _ _ _ _ _ _ _ [.int v5, .ref 68] _ _) (fun r16 hr16 => ?_)
    show Ev _ _ _ _ _ _ 78 [some (.ref 53), some (.int v1), some (.int v2), some (.int v3), some (.int v4), some (.int v5), none] [.int r16, .int v5, .ref 68] (up2 M 67 (ix v5) r14) _
    refine e_if (fun h17 => ?_)
    refine e_iast' (dt dk_X10_heard 42 rfl) rfl h17 ?_
    refine e_iinc [some (.ref 53), some (.int v1), some (.int v2), some (.int v3), some (.int v4), some (.int (v5 + (1 : Int32))), none] (dt dk_X10_heard 43 rfl) rfl rfl rfl rfl ?_
    refine e_goto 45 (dt dk_X10_heard 44 rfl) (by decide) ?_
    exact e_forget [true, true, true, true, true, true, false] [some (.ref 53), some (.int v1), some (.int v2), some (.int v3), some (.int v4), some (.int (v5 + (1 : Int32))), none] ⟨rfl, rfl⟩ (hK45 v1 v2 v3 v4 (v5 + (1 : Int32)) (up2 (up2 M 67 (ix v5) r14) 68 (ix v5) r16))
def lp_X10_heard_45  : Nat → Int32 → Int32 → Int32 → Int32 → Int32 → Mem → Option (Int32 × Mem)
  | 0 => fun _ _ _ _ _ _ => none
  | n + 1 => bd_X10_heard_45 (lp_X10_heard_45 n)
theorem ev_lp_X10_heard_45   : ∀ (n : Nat), ∀ (v1 : Int32) (v2 : Int32) (v3 : Int32) (v4 : Int32) (v5 : Int32) (M : Mem), Ev none wI RX10 cX10_heard (some .int) 2 45 [some (.ref 53), some (.int v1), some (.int v2), some (.int v3), some (.int v4), some (.int v5), none] [] M (lp_X10_heard_45 n v1 v2 v3 v4 v5 M)
  | 0 => fun _ _ _ _ _ _ => e_none
  | n + 1 => ev_bd_X10_heard_45 (lp_X10_heard_45 n) (ev_lp_X10_heard_45 n)
def f_X10_heard (v1 : Int32) (v2 : Int32) (v3 : Int32) (v4 : Int32) (M : Mem) : Option (Int32 × Mem) :=
  (if (f_X10_in (Int32.toInt64 v3) (1 : Int64) (9 : Int64)) = 0 then some ((-2 : Int32), M) else ((f_X10_isRow v1 v3)).bind fun r2 => (if r2 = 0 then some ((-2 : Int32), M) else ((f_X10_isRow v2 v3)).bind fun r4 => (if r4 = 0 then some ((-2 : Int32), M) else (if (f_X10_in (Int32.toInt64 v4) (0 : Int64) (1 : Int64)) = 0 then some ((-2 : Int32), M) else (lp_X10_heard_45 FU v1 v2 v3 v4 (0 : Int32) M)))))
set_option maxRecDepth 20000 in
set_option maxHeartbeats 2000000 in
theorem sp_X10_heard (v1 : Int32) (v2 : Int32) (v3 : Int32) (v4 : Int32) (M : Mem) : SpO wI yX10_heard cX10_heard 7 (some .int) 2 [.ref 53, .int v1, .int v2, .int v3, .int v4] M (f_X10_heard v1 v2 v3 v4 M) := by
  refine sp_of (L := [some (.ref 53), some (.int v1), some (.int v2), some (.int v3), some (.int v4), none, none]) rfl (by decide +kernel) rfl rfl ?_
  unfold f_X10_heard
  refine e_iload_n (dt dk_X10_heard 0 rfl) rfl ?_
  refine e_i2l (dt dk_X10_heard 1 rfl) ?_
  refine e_lconst (v := (1 : Int64)) (dt dk_X10_heard 2 rfl) (by decide) ?_
  refine e_ldc2 (v := (9 : Int64)) (dt dk_X10_heard 3 rfl) kl_X10_90 ?_
  refine ev_callT (ca_S ms_X10_in (sp_X10_in (Int32.toInt64 v3) (1 : Int64) (9 : Int64) M) (dt dk_X10_heard 4 rfl) ml_X10_80 rfl rfl rfl (by decide) : Ca _ _ _ _ _ _ _ _ [] _ _) ?_
  show Ev _ _ _ _ _ _ 9 [some (.ref 53), some (.int v1), some (.int v2), some (.int v3), some (.int v4), none, none] [.int (f_X10_in (Int32.toInt64 v3) (1 : Int64) (9 : Int64))] M _
  refine e_if_eq 39 (dt dk_X10_heard 5 rfl) (by decide) (fun h1 => ?_) (fun h1 => ?_)
  · refine e_bipush (v := (-2 : Int32)) (dt dk_X10_heard 20 rfl) (by decide) ?_
    exact e_iret (dt dk_X10_heard 21 rfl) rfl rfl rfl
  · refine e_iload_n (dt dk_X10_heard 6 rfl) rfl ?_
    refine e_iload_n (dt dk_X10_heard 7 rfl) rfl ?_
    refine ev_call (ca_S ms_X10_isRow (sp_X10_isRow v1 v3 M) (dt dk_X10_heard 8 rfl) ml_X10_232 rfl rfl rfl (by decide) : Ca _ _ _ _ _ _ _ _ [] _ _) (fun r2 hr2 => ?_)
    show Ev _ _ _ _ _ _ 17 [some (.ref 53), some (.int v1), some (.int v2), some (.int v3), some (.int v4), none, none] [.int r2] M _
    refine e_if_eq 39 (dt dk_X10_heard 9 rfl) (by decide) (fun h3 => ?_) (fun h3 => ?_)
    · refine e_bipush (v := (-2 : Int32)) (dt dk_X10_heard 20 rfl) (by decide) ?_
      exact e_iret (dt dk_X10_heard 21 rfl) rfl rfl rfl
    · refine e_iload_n (dt dk_X10_heard 10 rfl) rfl ?_
      refine e_iload_n (dt dk_X10_heard 11 rfl) rfl ?_
      refine ev_call (ca_S ms_X10_isRow (sp_X10_isRow v2 v3 M) (dt dk_X10_heard 12 rfl) ml_X10_232 rfl rfl rfl (by decide) : Ca _ _ _ _ _ _ _ _ [] _ _) (fun r4 hr4 => ?_)
      show Ev _ _ _ _ _ _ 25 [some (.ref 53), some (.int v1), some (.int v2), some (.int v3), some (.int v4), none, none] [.int r4] M _
      refine e_if_eq 39 (dt dk_X10_heard 13 rfl) (by decide) (fun h5 => ?_) (fun h5 => ?_)
      · refine e_bipush (v := (-2 : Int32)) (dt dk_X10_heard 20 rfl) (by decide) ?_
        exact e_iret (dt dk_X10_heard 21 rfl) rfl rfl rfl
      · refine e_iload (dt dk_X10_heard 14 rfl) rfl ?_
        refine e_i2l (dt dk_X10_heard 15 rfl) ?_
        refine e_lconst (v := (0 : Int64)) (dt dk_X10_heard 16 rfl) (by decide) ?_
        refine e_lconst (v := (1 : Int64)) (dt dk_X10_heard 17 rfl) (by decide) ?_
        refine ev_callT (ca_S ms_X10_in (sp_X10_in (Int32.toInt64 v4) (0 : Int64) (1 : Int64) M) (dt dk_X10_heard 18 rfl) ml_X10_80 rfl rfl rfl (by decide) : Ca _ _ _ _ _ _ _ _ [] _ _) ?_
        show Ev _ _ _ _ _ _ 36 [some (.ref 53), some (.int v1), some (.int v2), some (.int v3), some (.int v4), none, none] [.int (f_X10_in (Int32.toInt64 v4) (0 : Int64) (1 : Int64))] M _
        refine e_if_ne 42 (dt dk_X10_heard 19 rfl) (by decide) (fun h6 => ?_) (fun h6 => ?_)
        · refine e_bipush (v := (-2 : Int32)) (dt dk_X10_heard 20 rfl) (by decide) ?_
          exact e_iret (dt dk_X10_heard 21 rfl) rfl rfl rfl
        · refine e_iconst (v := (0 : Int32)) (dt dk_X10_heard 22 rfl) (by decide) ?_
          refine e_istore [some (.ref 53), some (.int v1), some (.int v2), some (.int v3), some (.int v4), some (.int (0 : Int32)), none] (dt dk_X10_heard 23 rfl) rfl rfl rfl ?_
          exact e_forget [true, true, true, true, true, true, false] [some (.ref 53), some (.int v1), some (.int v2), some (.int v3), some (.int v4), some (.int (0 : Int32)), none] ⟨rfl, rfl⟩ (ev_lp_X10_heard_45 FU v1 v2 v3 v4 (0 : Int32) M)
-- X10_gnawed (W, depth 1)
def f_X10_gnawed (v1 : Int32) (v2 : Int32) (M : Mem) : Option (Int32 × Mem) :=
  (if (f_X10_in (Int32.toInt64 v1) (0 : Int64) (40 : Int64)) = 0 then some ((-2 : Int32), M) else (if (f_X10_in (Int32.toInt64 v2) (0 : Int64) (99 : Int64)) = 0 then some ((-2 : Int32), M) else (if (M 53 10) = (8 : Int32) then some ((-4 : Int32), M) else if inb (M 53 10) 8 then if inb (M 53 10) 8 then some (((M 53 10) + (1 : Int32)), (up2 (up2 (up2 M 59 (ix (M 53 10)) v1) 60 (ix (M 53 10)) v2) 53 10 ((M 53 10) + (1 : Int32)))) else none else none)))
set_option maxRecDepth 20000 in
set_option maxHeartbeats 2000000 in
theorem sp_X10_gnawed (v1 : Int32) (v2 : Int32) (M : Mem) : SpO wI yX10_gnawed cX10_gnawed 3 (some .int) 1 [.ref 53, .int v1, .int v2] M (f_X10_gnawed v1 v2 M) := by
  refine sp_of (L := [some (.ref 53), some (.int v1), some (.int v2)]) rfl (by decide +kernel) rfl rfl ?_
  unfold f_X10_gnawed
  refine e_iload_n (dt dk_X10_gnawed 0 rfl) rfl ?_
  refine e_i2l (dt dk_X10_gnawed 1 rfl) ?_
  refine e_lconst (v := (0 : Int64)) (dt dk_X10_gnawed 2 rfl) (by decide) ?_
  refine e_ldc2 (v := (40 : Int64)) (dt dk_X10_gnawed 3 rfl) kl_X10_244 ?_
  refine ev_callT (ca_S ms_X10_in (sp_X10_in (Int32.toInt64 v1) (0 : Int64) (40 : Int64) M) (dt dk_X10_gnawed 4 rfl) ml_X10_80 rfl rfl rfl (by decide) : Ca _ _ _ _ _ _ _ _ [] _ _) ?_
  show Ev _ _ _ _ _ _ 9 [some (.ref 53), some (.int v1), some (.int v2)] [.int (f_X10_in (Int32.toInt64 v1) (0 : Int64) (40 : Int64))] M _
  refine e_if_eq 24 (dt dk_X10_gnawed 5 rfl) (by decide) (fun h1 => ?_) (fun h1 => ?_)
  · refine e_bipush (v := (-2 : Int32)) (dt dk_X10_gnawed 12 rfl) (by decide) ?_
    exact e_iret (dt dk_X10_gnawed 13 rfl) rfl rfl rfl
  · refine e_iload_n (dt dk_X10_gnawed 6 rfl) rfl ?_
    refine e_i2l (dt dk_X10_gnawed 7 rfl) ?_
    refine e_lconst (v := (0 : Int64)) (dt dk_X10_gnawed 8 rfl) (by decide) ?_
    refine e_ldc2 (v := (99 : Int64)) (dt dk_X10_gnawed 9 rfl) kl_X10_88 ?_
    refine ev_callT (ca_S ms_X10_in (sp_X10_in (Int32.toInt64 v2) (0 : Int64) (99 : Int64) M) (dt dk_X10_gnawed 10 rfl) ml_X10_80 rfl rfl rfl (by decide) : Ca _ _ _ _ _ _ _ _ [] _ _) ?_
    show Ev _ _ _ _ _ _ 21 [some (.ref 53), some (.int v1), some (.int v2)] [.int (f_X10_in (Int32.toInt64 v2) (0 : Int64) (99 : Int64))] M _
    refine e_if_ne 27 (dt dk_X10_gnawed 11 rfl) (by decide) (fun h2 => ?_) (fun h2 => ?_)
    · refine e_bipush (v := (-2 : Int32)) (dt dk_X10_gnawed 12 rfl) (by decide) ?_
      exact e_iret (dt dk_X10_gnawed 13 rfl) rfl rfl rfl
    · refine e_aload_n (dt dk_X10_gnawed 14 rfl) rfl ?_
      refine e_getI (v := (M 53 10)) ci_X10 (dt dk_X10_gnawed 15 rfl) rfl (by decide) rfl fl_X10_246 rfl ?_
      refine e_bipush (v := (8 : Int32)) (dt dk_X10_gnawed 16 rfl) (by decide) ?_
      refine e_icmp_ne 39 (dt dk_X10_gnawed 17 rfl) (by decide) (fun h3 => ?_) (fun h3 => ?_)
      · refine e_bipush (v := (-4 : Int32)) (dt dk_X10_gnawed 18 rfl) (by decide) ?_
        exact e_iret (dt dk_X10_gnawed 19 rfl) rfl rfl rfl
      · refine e_aload_n (dt dk_X10_gnawed 20 rfl) rfl ?_
        refine e_getR ci_X10 (dt dk_X10_gnawed 21 rfl) rfl (by decide) rfl fl_X10_25 ?_
        refine e_aload_n (dt dk_X10_gnawed 22 rfl) rfl ?_
        refine e_getI (v := (M 53 10)) ci_X10 (dt dk_X10_gnawed 23 rfl) rfl (by decide) rfl fl_X10_246 rfl ?_
        refine e_iload_n (dt dk_X10_gnawed 24 rfl) rfl ?_
        refine e_if (fun h4 => ?_)
        refine e_iast' (dt dk_X10_gnawed 25 rfl) rfl h4 ?_
        refine e_aload_n (dt dk_X10_gnawed 26 rfl) rfl ?_
        refine e_getR ci_X10 (dt dk_X10_gnawed 27 rfl) rfl (by decide) rfl fl_X10_28 ?_
        refine e_aload_n (dt dk_X10_gnawed 28 rfl) rfl ?_
        refine e_getI (v := (M 53 10)) ci_X10 (dt dk_X10_gnawed 29 rfl) rfl (by decide) rfl fl_X10_246 rfl ?_
        refine e_iload_n (dt dk_X10_gnawed 30 rfl) rfl ?_
        refine e_if (fun h5 => ?_)
        refine e_iast' (dt dk_X10_gnawed 31 rfl) rfl h5 ?_
        refine e_aload_n (dt dk_X10_gnawed 32 rfl) rfl ?_
        refine e_dup (dt dk_X10_gnawed 33 rfl) rfl ?_
        refine e_getI (v := (M 53 10)) ci_X10 (dt dk_X10_gnawed 34 rfl) rfl (by decide) rfl fl_X10_246 rfl ?_
        refine e_iconst (v := (1 : Int32)) (dt dk_X10_gnawed 35 rfl) (by decide) ?_
        refine e_iadd (dt dk_X10_gnawed 36 rfl) ?_
        refine e_putI (ty := .int) ci_X10 (dt dk_X10_gnawed 37 rfl) rfl (by decide) rfl fl_X10_246 rfl (by decide +kernel) rfl rfl ?_
        refine e_aload_n (dt dk_X10_gnawed 38 rfl) rfl ?_
        refine e_getI (v := ((M 53 10) + (1 : Int32))) ci_X10 (dt dk_X10_gnawed 39 rfl) rfl (by decide) rfl fl_X10_246 rfl ?_
        exact e_iret (dt dk_X10_gnawed 40 rfl) rfl rfl rfl
-- X10_forget (W, depth 0)
def f_X10_forget  (M : Mem) : Option (Int32 × Mem) :=
  some ((M 53 10), (up2 M 53 10 (0 : Int32)))
set_option maxRecDepth 20000 in
set_option maxHeartbeats 2000000 in
theorem sp_X10_forget  (M : Mem) : SpO wI yX10_forget cX10_forget 2 (some .int) 0 [.ref 53] M (f_X10_forget M) := by
  refine sp_of (L := [some (.ref 53), none]) rfl (by decide +kernel) rfl rfl ?_
  unfold f_X10_forget
  refine e_aload_n (dt dk_X10_forget 0 rfl) rfl ?_
  refine e_getI (v := (M 53 10)) ci_X10 (dt dk_X10_forget 1 rfl) rfl (by decide) rfl fl_X10_246 rfl ?_
  refine e_istore_n [some (.ref 53), some (.int (M 53 10))] (dt dk_X10_forget 2 rfl) rfl rfl rfl ?_
  refine e_aload_n (dt dk_X10_forget 3 rfl) rfl ?_
  refine e_iconst (v := (0 : Int32)) (dt dk_X10_forget 4 rfl) (by decide) ?_
  refine e_putI (ty := .int) ci_X10 (dt dk_X10_forget 5 rfl) rfl (by decide) rfl fl_X10_246 rfl (by decide +kernel) rfl rfl ?_
  refine e_iload_n (dt dk_X10_forget 6 rfl) rfl ?_
  exact e_iret (dt dk_X10_forget 7 rfl) rfl rfl rfl
-- X10_bred (R, depth 2)
def bd_X10_bred_7  (K7 : Int32 → Int32 → Int32 → Int32 → Option Int32) (v0 : Int32) (v1 : Int32) (v2 : Int32) (v3 : Int32) : Option Int32 :=
  (if v1 ≤ v3 then some v2 else (K7 v0 v1 (f_X10_grown v2 (remI v0 (10 : Int32))) (v3 + (1 : Int32))))
set_option maxRecDepth 20000 in
set_option maxHeartbeats 2000000 in
theorem ev_bd_X10_bred_7 (M : Mem)  (K7 : Int32 → Int32 → Int32 → Int32 → Option Int32)  (hK7 : ∀ (v0 : Int32) (v1 : Int32) (v2 : Int32) (v3 : Int32), Ev none (wR M) RX10 cX10_bred (some .int) 2 7 [some (.int v0), some (.int v1), some (.int v2), some (.int v3)] [] M (K7 v0 v1 v2 v3)) (v0 : Int32) (v1 : Int32) (v2 : Int32) (v3 : Int32) : Ev none (wR M) RX10 cX10_bred (some .int) 2 7 [some (.int v0), some (.int v1), some (.int v2), some (.int v3)] [] M (bd_X10_bred_7 K7 v0 v1 v2 v3) := by
  unfold bd_X10_bred_7
  refine e_iload_n (dt dk_X10_bred 6 rfl) rfl ?_
  refine e_iload_n (dt dk_X10_bred 7 rfl) rfl ?_
  refine e_icmp_ge 27 (dt dk_X10_bred 8 rfl) (by decide) (fun h1 => ?_) (fun h1 => ?_)
  · refine e_iload_n (dt dk_X10_bred 17 rfl) rfl ?_
    exact e_iret (dt dk_X10_bred 18 rfl) rfl rfl rfl
  · refine e_iload_n (dt dk_X10_bred 9 rfl) rfl ?_
    refine e_iload_n (dt dk_X10_bred 10 rfl) rfl ?_
    refine e_bipush (v := (10 : Int32)) (dt dk_X10_bred 11 rfl) (by decide) ?_
    refine e_irem' (dt dk_X10_bred 12 rfl) (by decide) ?_
    show Ev _ _ _ _ _ _ 17 [some (.int v0), some (.int v1), some (.int v2), some (.int v3)] [.int (remI v0 (10 : Int32)), .int v2] M _
    refine ev_callT (ca_S ms_X10_grown (sp_X10_grown v2 (remI v0 (10 : Int32)) M) (dt dk_X10_bred 13 rfl) ml_X10_140 rfl rfl rfl (by decide) : Ca _ _ _ _ _ _ _ _ [] _ _) ?_
    show Ev _ _ _ _ _ _ 20 [some (.int v0), some (.int v1), some (.int v2), some (.int v3)] [.int (f_X10_grown v2 (remI v0 (10 : Int32)))] M _
    refine e_istore_n [some (.int v0), some (.int v1), some (.int (f_X10_grown v2 (remI v0 (10 : Int32)))), some (.int v3)] (dt dk_X10_bred 14 rfl) rfl rfl rfl ?_
    refine e_iinc [some (.int v0), some (.int v1), some (.int (f_X10_grown v2 (remI v0 (10 : Int32)))), some (.int (v3 + (1 : Int32)))] (dt dk_X10_bred 15 rfl) rfl rfl rfl rfl ?_
    refine e_goto 7 (dt dk_X10_bred 16 rfl) (by decide) ?_
    exact e_forget [true, true, true, true] [some (.int v0), some (.int v1), some (.int (f_X10_grown v2 (remI v0 (10 : Int32)))), some (.int (v3 + (1 : Int32)))] ⟨rfl, rfl⟩ (hK7 v0 v1 (f_X10_grown v2 (remI v0 (10 : Int32))) (v3 + (1 : Int32)))
def lp_X10_bred_7  : Nat → Int32 → Int32 → Int32 → Int32 → Option Int32
  | 0 => fun _ _ _ _ => none
  | n + 1 => bd_X10_bred_7 (lp_X10_bred_7 n)
theorem ev_lp_X10_bred_7 (M : Mem)   : ∀ (n : Nat), ∀ (v0 : Int32) (v1 : Int32) (v2 : Int32) (v3 : Int32), Ev none (wR M) RX10 cX10_bred (some .int) 2 7 [some (.int v0), some (.int v1), some (.int v2), some (.int v3)] [] M (lp_X10_bred_7 n v0 v1 v2 v3)
  | 0 => fun _ _ _ _ => e_none
  | n + 1 => ev_bd_X10_bred_7 M (lp_X10_bred_7 n) (ev_lp_X10_bred_7 M n)
def f_X10_bred (v0 : Int32) (v1 : Int32) : Option Int32 :=
  (lp_X10_bred_7 FU v0 v1 (v0 / (10 : Int32)) (0 : Int32))
set_option maxRecDepth 20000 in
set_option maxHeartbeats 2000000 in
theorem sp_X10_bred (v0 : Int32) (v1 : Int32) (M : Mem) : SpO (wR M) yX10_bred cX10_bred 4 (some .int) 2 [.int v0, .int v1] M (f_X10_bred v0 v1) := by
  refine sp_of (L := [some (.int v0), some (.int v1), none, none]) rfl (by decide +kernel) rfl rfl ?_
  unfold f_X10_bred
  refine e_iload_n (dt dk_X10_bred 0 rfl) rfl ?_
  refine e_bipush (v := (10 : Int32)) (dt dk_X10_bred 1 rfl) (by decide) ?_
  refine e_idiv' (dt dk_X10_bred 2 rfl) (by decide) ?_
  show Ev _ _ _ _ _ _ 4 [some (.int v0), some (.int v1), none, none] [.int (v0 / (10 : Int32))] M _
  refine e_istore_n [some (.int v0), some (.int v1), some (.int (v0 / (10 : Int32))), none] (dt dk_X10_bred 3 rfl) rfl rfl rfl ?_
  refine e_iconst (v := (0 : Int32)) (dt dk_X10_bred 4 rfl) (by decide) ?_
  refine e_istore_n [some (.int v0), some (.int v1), some (.int (v0 / (10 : Int32))), some (.int (0 : Int32))] (dt dk_X10_bred 5 rfl) rfl rfl rfl ?_
  exact e_forget [true, true, true, true] [some (.int v0), some (.int v1), some (.int (v0 / (10 : Int32))), some (.int (0 : Int32))] ⟨rfl, rfl⟩ (ev_lp_X10_bred_7 M FU v0 v1 (v0 / (10 : Int32)) (0 : Int32))
-- X10_isFit (R, depth 3)
def lb_X10_isFit_39 (M : Mem) (K4 : Int32 → Int32 → Int32 → Option Int32) (v1 : Int32) (v3 : Int32) : Option Int32 :=
  (K4 v1 (0 : Int32) (v3 + (1 : Int32)))
set_option maxRecDepth 20000 in
set_option maxHeartbeats 2000000 in
theorem ev_lb_X10_isFit_39 (M : Mem) (K4 : Int32 → Int32 → Int32 → Option Int32) (hK4 : ∀ (v1 : Int32) (v2 : Int32) (v3 : Int32), Ev none (wR M) RX10 cX10_isFit (some .boolean) 3 4 [some (.ref 53), some (.int v1), some (.int v2), some (.int v3)] [] M (K4 v1 v2 v3)) (v1 : Int32) (v3 : Int32) : Ev none (wR M) RX10 cX10_isFit (some .boolean) 3 39 [some (.ref 53), some (.int v1), none, some (.int v3)] [] M (lb_X10_isFit_39 M K4 v1 v3) := by
  unfold lb_X10_isFit_39
  refine e_iconst (v := (0 : Int32)) (dt dk_X10_isFit 23 rfl) (by decide) ?_
  refine e_istore_n [some (.ref 53), some (.int v1), some (.int (0 : Int32)), some (.int v3)] (dt dk_X10_isFit 24 rfl) rfl rfl rfl ?_
  refine e_iinc [some (.ref 53), some (.int v1), some (.int (0 : Int32)), some (.int (v3 + (1 : Int32)))] (dt dk_X10_isFit 25 rfl) rfl rfl rfl rfl ?_
  refine e_goto 4 (dt dk_X10_isFit 26 rfl) (by decide) ?_
  exact e_forget [true, true, true, true] [some (.ref 53), some (.int v1), some (.int (0 : Int32)), some (.int (v3 + (1 : Int32)))] ⟨rfl, rfl⟩ (hK4 v1 (0 : Int32) (v3 + (1 : Int32)))
def bd_X10_isFit_4 (M : Mem)  (K4 : Int32 → Int32 → Int32 → Option Int32) (v1 : Int32) (v2 : Int32) (v3 : Int32) : Option Int32 :=
  (if (M 53 10) ≤ v3 then (if v2 = 0 ∨ v2 = 1 then some v2 else none) else (if v2 = 0 then (lb_X10_isFit_39 M K4 v1 v3) else if inb v3 8 then ((f_X10_bred v1 (M 59 (ix v3)))).bind fun r4 => if inb v3 8 then (if r4 = (M 60 (ix v3)) then (K4 v1 (1 : Int32) (v3 + (1 : Int32))) else (lb_X10_isFit_39 M K4 v1 v3)) else none else none))
set_option maxRecDepth 20000 in
set_option maxHeartbeats 2000000 in
theorem ev_bd_X10_isFit_4 (M : Mem)  (K4 : Int32 → Int32 → Int32 → Option Int32)  (hK4 : ∀ (v1 : Int32) (v2 : Int32) (v3 : Int32), Ev none (wR M) RX10 cX10_isFit (some .boolean) 3 4 [some (.ref 53), some (.int v1), some (.int v2), some (.int v3)] [] M (K4 v1 v2 v3)) (v1 : Int32) (v2 : Int32) (v3 : Int32) : Ev none (wR M) RX10 cX10_isFit (some .boolean) 3 4 [some (.ref 53), some (.int v1), some (.int v2), some (.int v3)] [] M (bd_X10_isFit_4 M K4 v1 v2 v3) := by
  unfold bd_X10_isFit_4
  refine e_iload_n (dt dk_X10_isFit 4 rfl) rfl ?_
  refine e_aload_n (dt dk_X10_isFit 5 rfl) rfl ?_
  refine e_getI (v := (M 53 10)) ci_X10 (dt dk_X10_isFit 6 rfl) rfl (by decide) rfl fl_X10_246 rfl ?_
  refine e_icmp_ge 47 (dt dk_X10_isFit 7 rfl) (by decide) (fun h1 => ?_) (fun h1 => ?_)
  · refine e_iload_n (dt dk_X10_isFit 27 rfl) rfl ?_
    exact e_zret (dt dk_X10_isFit 28 rfl) rfl rfl
  · refine e_iload_n (dt dk_X10_isFit 8 rfl) rfl ?_
    refine e_if_eq 39 (dt dk_X10_isFit 9 rfl) (by decide) (fun h2 => ?_) (fun h2 => ?_)
    · exact e_forget [true, true, false, true] [some (.ref 53), some (.int v1), none, some (.int v3)] ⟨rfl, rfl⟩ (ev_lb_X10_isFit_39 M K4 hK4 v1 v3)
    · refine e_iload_n (dt dk_X10_isFit 10 rfl) rfl ?_
      refine e_aload_n (dt dk_X10_isFit 11 rfl) rfl ?_
      refine e_getR ci_X10 (dt dk_X10_isFit 12 rfl) rfl (by decide) rfl fl_X10_25 ?_
      refine e_iload_n (dt dk_X10_isFit 13 rfl) rfl ?_
      refine e_if (fun h3 => ?_)
      refine e_iald' (v := (M 59 (ix v3))) (dt dk_X10_isFit 14 rfl) rfl h3 rfl ?_
      refine ev_call (ca_S ms_X10_bred (sp_X10_bred v1 (M 59 (ix v3)) M) (dt dk_X10_isFit 15 rfl) ml_X10_249 rfl rfl rfl (by decide) : Ca _ _ _ _ _ _ _ _ [] _ _) (fun r4 hr4 => ?_)
      show Ev _ _ _ _ _ _ 26 [some (.ref 53), some (.int v1), some (.int v2), some (.int v3)] [.int r4] M _
      refine e_aload_n (dt dk_X10_isFit 16 rfl) rfl ?_
      refine e_getR ci_X10 (dt dk_X10_isFit 17 rfl) rfl (by decide) rfl fl_X10_28 ?_
      refine e_iload_n (dt dk_X10_isFit 18 rfl) rfl ?_
      refine e_if (fun h5 => ?_)
      refine e_iald' (v := (M 60 (ix v3))) (dt dk_X10_isFit 19 rfl) rfl h5 rfl ?_
      refine e_icmp_ne 39 (dt dk_X10_isFit 20 rfl) (by decide) (fun h6 => ?_) (fun h6 => ?_)
      · refine e_iconst (v := (1 : Int32)) (dt dk_X10_isFit 21 rfl) (by decide) ?_
        refine e_goto 40 (dt dk_X10_isFit 22 rfl) (by decide) ?_
        refine e_istore_n [some (.ref 53), some (.int v1), some (.int (1 : Int32)), some (.int v3)] (dt dk_X10_isFit 24 rfl) rfl rfl rfl ?_
        refine e_iinc [some (.ref 53), some (.int v1), some (.int (1 : Int32)), some (.int (v3 + (1 : Int32)))] (dt dk_X10_isFit 25 rfl) rfl rfl rfl rfl ?_
        refine e_goto 4 (dt dk_X10_isFit 26 rfl) (by decide) ?_
        exact e_forget [true, true, true, true] [some (.ref 53), some (.int v1), some (.int (1 : Int32)), some (.int (v3 + (1 : Int32)))] ⟨rfl, rfl⟩ (hK4 v1 (1 : Int32) (v3 + (1 : Int32)))
      · exact e_forget [true, true, false, true] [some (.ref 53), some (.int v1), none, some (.int v3)] ⟨rfl, rfl⟩ (ev_lb_X10_isFit_39 M K4 hK4 v1 v3)
def lp_X10_isFit_4 (M : Mem)  : Nat → Int32 → Int32 → Int32 → Option Int32
  | 0 => fun _ _ _ => none
  | n + 1 => bd_X10_isFit_4 M (lp_X10_isFit_4 M n)
theorem ev_lp_X10_isFit_4 (M : Mem)   : ∀ (n : Nat), ∀ (v1 : Int32) (v2 : Int32) (v3 : Int32), Ev none (wR M) RX10 cX10_isFit (some .boolean) 3 4 [some (.ref 53), some (.int v1), some (.int v2), some (.int v3)] [] M (lp_X10_isFit_4 M n v1 v2 v3)
  | 0 => fun _ _ _ => e_none
  | n + 1 => ev_bd_X10_isFit_4 M (lp_X10_isFit_4 M n) (ev_lp_X10_isFit_4 M n)
def f_X10_isFit (v1 : Int32) (M : Mem) : Option Int32 :=
  (lp_X10_isFit_4 M FU v1 (1 : Int32) (0 : Int32))
set_option maxRecDepth 20000 in
set_option maxHeartbeats 2000000 in
theorem sp_X10_isFit (v1 : Int32) (M : Mem) : SpO (wR M) yX10_isFit cX10_isFit 4 (some .boolean) 3 [.ref 53, .int v1] M (f_X10_isFit v1 M) := by
  refine sp_of (L := [some (.ref 53), some (.int v1), none, none]) rfl (by decide +kernel) rfl rfl ?_
  unfold f_X10_isFit
  refine e_iconst (v := (1 : Int32)) (dt dk_X10_isFit 0 rfl) (by decide) ?_
  refine e_istore_n [some (.ref 53), some (.int v1), some (.int (1 : Int32)), none] (dt dk_X10_isFit 1 rfl) rfl rfl rfl ?_
  refine e_iconst (v := (0 : Int32)) (dt dk_X10_isFit 2 rfl) (by decide) ?_
  refine e_istore_n [some (.ref 53), some (.int v1), some (.int (1 : Int32)), some (.int (0 : Int32))] (dt dk_X10_isFit 3 rfl) rfl rfl rfl ?_
  exact e_forget [true, true, true, true] [some (.ref 53), some (.int v1), some (.int (1 : Int32)), some (.int (0 : Int32))] ⟨rfl, rfl⟩ (ev_lp_X10_isFit_4 M FU v1 (1 : Int32) (0 : Int32))
-- X10_fits (R, depth 4)
def bd_X10_fits_5 (M : Mem)  (K5 : Int32 → Int32 → Int32 → Option Int32) (v1 : Int32) (v2 : Int32) (v3 : Int32) : Option Int32 :=
  (if (100 : Int32) ≤ v3 then (if v1 = (-1 : Int32) then some v2 else some (-6 : Int32)) else ((f_X10_isFit v3 M)).bind fun r3 => (if r3 = 0 then (K5 v1 v2 (v3 + (1 : Int32))) else (if v2 = v1 then some v3 else (K5 v1 (v2 + (1 : Int32)) (v3 + (1 : Int32))))))
set_option maxRecDepth 20000 in
set_option maxHeartbeats 2000000 in
theorem ev_bd_X10_fits_5 (M : Mem)  (K5 : Int32 → Int32 → Int32 → Option Int32)  (hK5 : ∀ (v1 : Int32) (v2 : Int32) (v3 : Int32), Ev none (wR M) RX10 cX10_fits (some .int) 4 5 [some (.ref 53), some (.int v1), some (.int v2), some (.int v3)] [] M (K5 v1 v2 v3)) (v1 : Int32) (v2 : Int32) (v3 : Int32) : Ev none (wR M) RX10 cX10_fits (some .int) 4 5 [some (.ref 53), some (.int v1), some (.int v2), some (.int v3)] [] M (bd_X10_fits_5 M K5 v1 v2 v3) := by
  unfold bd_X10_fits_5
  refine e_iload_n (dt dk_X10_fits 4 rfl) rfl ?_
  refine e_bipush (v := (100 : Int32)) (dt dk_X10_fits 5 rfl) (by decide) ?_
  refine e_icmp_ge 35 (dt dk_X10_fits 6 rfl) (by decide) (fun h1 => ?_) (fun h1 => ?_)
  · refine e_iload_n (dt dk_X10_fits 19 rfl) rfl ?_
    refine e_iconst (v := (-1 : Int32)) (dt dk_X10_fits 20 rfl) (by decide) ?_
    refine e_icmp_ne 44 (dt dk_X10_fits 21 rfl) (by decide) (fun h2 => ?_) (fun h2 => ?_)
    · refine e_iload_n (dt dk_X10_fits 22 rfl) rfl ?_
      refine e_goto 46 (dt dk_X10_fits 23 rfl) (by decide) ?_
      exact e_iret (dt dk_X10_fits 25 rfl) rfl rfl rfl
    · refine e_bipush (v := (-6 : Int32)) (dt dk_X10_fits 24 rfl) (by decide) ?_
      exact e_iret (dt dk_X10_fits 25 rfl) rfl rfl rfl
  · refine e_aload_n (dt dk_X10_fits 7 rfl) rfl ?_
    refine e_iload_n (dt dk_X10_fits 8 rfl) rfl ?_
    refine ev_call (ca_V (k := 53) mv_X10_isFit (sp_X10_isFit v3 M) (dt dk_X10_fits 9 rfl) ml_X10_252 rfl rfl rfl rfl rfl (by decide) : Ca _ _ _ _ _ _ _ _ [] _ _) (fun r3 hr3 => ?_)
    show Ev _ _ _ _ _ _ 16 [some (.ref 53), some (.int v1), some (.int v2), some (.int v3)] [.int r3] M _
    refine e_if_eq 29 (dt dk_X10_fits 10 rfl) (by decide) (fun h4 => ?_) (fun h4 => ?_)
    · refine e_iinc [some (.ref 53), some (.int v1), some (.int v2), some (.int (v3 + (1 : Int32)))] (dt dk_X10_fits 17 rfl) rfl rfl rfl rfl ?_
      refine e_goto 5 (dt dk_X10_fits 18 rfl) (by decide) ?_
      exact e_forget [true, true, true, true] [some (.ref 53), some (.int v1), some (.int v2), some (.int (v3 + (1 : Int32)))] ⟨rfl, rfl⟩ (hK5 v1 v2 (v3 + (1 : Int32)))
    · refine e_iload_n (dt dk_X10_fits 11 rfl) rfl ?_
      refine e_iload_n (dt dk_X10_fits 12 rfl) rfl ?_
      refine e_icmp_ne 26 (dt dk_X10_fits 13 rfl) (by decide) (fun h5 => ?_) (fun h5 => ?_)
      · refine e_iload_n (dt dk_X10_fits 14 rfl) rfl ?_
        exact e_iret (dt dk_X10_fits 15 rfl) rfl rfl rfl
      · refine e_iinc [some (.ref 53), some (.int v1), some (.int (v2 + (1 : Int32))), some (.int v3)] (dt dk_X10_fits 16 rfl) rfl rfl rfl rfl ?_
        refine e_iinc [some (.ref 53), some (.int v1), some (.int (v2 + (1 : Int32))), some (.int (v3 + (1 : Int32)))] (dt dk_X10_fits 17 rfl) rfl rfl rfl rfl ?_
        refine e_goto 5 (dt dk_X10_fits 18 rfl) (by decide) ?_
        exact e_forget [true, true, true, true] [some (.ref 53), some (.int v1), some (.int (v2 + (1 : Int32))), some (.int (v3 + (1 : Int32)))] ⟨rfl, rfl⟩ (hK5 v1 (v2 + (1 : Int32)) (v3 + (1 : Int32)))
def lp_X10_fits_5 (M : Mem)  : Nat → Int32 → Int32 → Int32 → Option Int32
  | 0 => fun _ _ _ => none
  | n + 1 => bd_X10_fits_5 M (lp_X10_fits_5 M n)
theorem ev_lp_X10_fits_5 (M : Mem)   : ∀ (n : Nat), ∀ (v1 : Int32) (v2 : Int32) (v3 : Int32), Ev none (wR M) RX10 cX10_fits (some .int) 4 5 [some (.ref 53), some (.int v1), some (.int v2), some (.int v3)] [] M (lp_X10_fits_5 M n v1 v2 v3)
  | 0 => fun _ _ _ => e_none
  | n + 1 => ev_bd_X10_fits_5 M (lp_X10_fits_5 M n) (ev_lp_X10_fits_5 M n)
def f_X10_fits (v1 : Int32) (M : Mem) : Option Int32 :=
  (lp_X10_fits_5 M FU v1 (0 : Int32) (10 : Int32))
set_option maxRecDepth 20000 in
set_option maxHeartbeats 2000000 in
theorem sp_X10_fits (v1 : Int32) (M : Mem) : SpO (wR M) yX10_fits cX10_fits 4 (some .int) 4 [.ref 53, .int v1] M (f_X10_fits v1 M) := by
  refine sp_of (L := [some (.ref 53), some (.int v1), none, none]) rfl (by decide +kernel) rfl rfl ?_
  unfold f_X10_fits
  refine e_iconst (v := (0 : Int32)) (dt dk_X10_fits 0 rfl) (by decide) ?_
  refine e_istore_n [some (.ref 53), some (.int v1), some (.int (0 : Int32)), none] (dt dk_X10_fits 1 rfl) rfl rfl rfl ?_
  refine e_bipush (v := (10 : Int32)) (dt dk_X10_fits 2 rfl) (by decide) ?_
  refine e_istore_n [some (.ref 53), some (.int v1), some (.int (0 : Int32)), some (.int (10 : Int32))] (dt dk_X10_fits 3 rfl) rfl rfl rfl ?_
  exact e_forget [true, true, true, true] [some (.ref 53), some (.int v1), some (.int (0 : Int32)), some (.int (10 : Int32))] ⟨rfl, rfl⟩ (ev_lp_X10_fits_5 M FU v1 (0 : Int32) (10 : Int32))
-- X10_mostLeft (W, depth 4)
def bd_X10_mostLeft_26  (K26 : Int32 → Int32 → Int32 → Mem → Option (Int32 × Mem)) (v1 : Int32) (v2 : Int32) (v3 : Int32) (M : Mem) : Option (Int32 × Mem) :=
  (if (100 : Int32) ≤ v3 then some (v2, M) else ((f_X10_isFit v3 M)).bind fun r3 => (if r3 = 0 then (K26 v1 v2 (v3 + (1 : Int32)) M) else ((f_X10_bred v3 v1)).bind fun r5 => if inb r5 100 then if inb r5 100 then if inb r5 100 then (if ((up2 M 70 (ix r5) ((M 70 (ix r5)) + (1 : Int32))) 70 (ix r5)) ≤ v2 then (K26 v1 v2 (v3 + (1 : Int32)) (up2 M 70 (ix r5) ((M 70 (ix r5)) + (1 : Int32)))) else if inb r5 100 then (K26 v1 ((up2 M 70 (ix r5) ((M 70 (ix r5)) + (1 : Int32))) 70 (ix r5)) (v3 + (1 : Int32)) (up2 M 70 (ix r5) ((M 70 (ix r5)) + (1 : Int32)))) else none) else none else none else none))
set_option maxRecDepth 20000 in
set_option maxHeartbeats 2000000 in
theorem ev_bd_X10_mostLeft_26  (K26 : Int32 → Int32 → Int32 → Mem → Option (Int32 × Mem))  (hK26 : ∀ (v1 : Int32) (v2 : Int32) (v3 : Int32) (M : Mem), Ev none wI RX10 cX10_mostLeft (some .int) 4 26 [some (.ref 53), some (.int v1), some (.int v2), some (.int v3), none] [] M (K26 v1 v2 v3 M)) (v1 : Int32) (v2 : Int32) (v3 : Int32) (M : Mem) : Ev none wI RX10 cX10_mostLeft (some .int) 4 26 [some (.ref 53), some (.int v1), some (.int v2), some (.int v3), none] [] M (bd_X10_mostLeft_26 K26 v1 v2 v3 M) := by
  unfold bd_X10_mostLeft_26
  refine e_iload_n (dt dk_X10_mostLeft 16 rfl) rfl ?_
  refine e_bipush (v := (100 : Int32)) (dt dk_X10_mostLeft 17 rfl) (by decide) ?_
  refine e_icmp_ge 87 (dt dk_X10_mostLeft 18 rfl) (by decide) (fun h2 => ?_) (fun h2 => ?_)
  · refine e_iload_n (dt dk_X10_mostLeft 50 rfl) rfl ?_
    exact e_iret (dt dk_X10_mostLeft 51 rfl) rfl rfl rfl
  · refine e_aload_n (dt dk_X10_mostLeft 19 rfl) rfl ?_
    refine e_iload_n (dt dk_X10_mostLeft 20 rfl) rfl ?_
    refine ev_call (ca_V (k := 53) mv_X10_isFit (sp_X10_isFit v3 M) (dt dk_X10_mostLeft 21 rfl) ml_X10_252 rfl rfl rfl rfl rfl (by decide) : Ca _ _ _ _ _ _ _ _ [] _ _) (fun r3 hr3 => ?_)
    show Ev _ _ _ _ _ _ 37 [some (.ref 53), some (.int v1), some (.int v2), some (.int v3), none] [.int r3] M _
    refine e_if_eq 81 (dt dk_X10_mostLeft 22 rfl) (by decide) (fun h4 => ?_) (fun h4 => ?_)
    · refine e_iinc [some (.ref 53), some (.int v1), some (.int v2), some (.int (v3 + (1 : Int32))), none] (dt dk_X10_mostLeft 48 rfl) rfl rfl rfl rfl ?_
      refine e_goto 26 (dt dk_X10_mostLeft 49 rfl) (by decide) ?_
      exact e_forget [true, true, true, true, false] [some (.ref 53), some (.int v1), some (.int v2), some (.int (v3 + (1 : Int32))), none] ⟨rfl, rfl⟩ (hK26 v1 v2 (v3 + (1 : Int32)) M)
    · refine e_iload_n (dt dk_X10_mostLeft 23 rfl) rfl ?_
      refine e_iload_n (dt dk_X10_mostLeft 24 rfl) rfl ?_
      refine ev_call (ca_S ms_X10_bred (sp_X10_bred v3 v1 M) (dt dk_X10_mostLeft 25 rfl) ml_X10_249 rfl rfl rfl (by decide) : Ca _ _ _ _ _ _ _ _ [] _ _) (fun r5 hr5 => ?_)
      show Ev _ _ _ _ _ _ 45 [some (.ref 53), some (.int v1), some (.int v2), some (.int v3), none] [.int r5] M _
      refine e_istore [some (.ref 53), some (.int v1), some (.int v2), some (.int v3), some (.int r5)] (dt dk_X10_mostLeft 26 rfl) rfl rfl rfl ?_
      refine e_aload_n (dt dk_X10_mostLeft 27 rfl) rfl ?_
      refine e_getR ci_X10 (dt dk_X10_mostLeft 28 rfl) rfl (by decide) rfl fl_X10_58 ?_
      refine e_iload (dt dk_X10_mostLeft 29 rfl) rfl ?_
      refine e_dup2 (dt dk_X10_mostLeft 30 rfl) rfl rfl ?_
      refine e_if (fun h6 => ?_)
      refine e_iald' (v := (M 70 (ix r5))) (dt dk_X10_mostLeft 31 rfl) rfl h6 rfl ?_
      refine e_iconst (v := (1 : Int32)) (dt dk_X10_mostLeft 32 rfl) (by decide) ?_
      refine e_iadd (dt dk_X10_mostLeft 33 rfl) ?_
      refine e_if (fun h7 => ?_)
      refine e_iast' (dt dk_X10_mostLeft 34 rfl) rfl h7 ?_
      refine e_aload_n (dt dk_X10_mostLeft 35 rfl) rfl ?_
      refine e_getR ci_X10 (dt dk_X10_mostLeft 36 rfl) rfl (by decide) rfl fl_X10_58 ?_
      refine e_iload (dt dk_X10_mostLeft 37 rfl) rfl ?_
      refine e_if (fun h8 => ?_)
      refine e_iald' (v := ((up2 M 70 (ix r5) ((M 70 (ix r5)) + (1 : Int32))) 70 (ix r5))) (dt dk_X10_mostLeft 38 rfl) rfl h8 rfl ?_
      refine e_iload_n (dt dk_X10_mostLeft 39 rfl) rfl ?_
      refine e_icmp_le 79 (dt dk_X10_mostLeft 40 rfl) (by decide) (fun h9 => ?_) (fun h9 => ?_)
      · refine e_iload_n (dt dk_X10_mostLeft 46 rfl) rfl ?_
        refine e_istore_n [some (.ref 53), some (.int v1), some (.int v2), some (.int v3), some (.int r5)] (dt dk_X10_mostLeft 47 rfl) rfl rfl rfl ?_
        refine e_iinc [some (.ref 53), some (.int v1), some (.int v2), some (.int (v3 + (1 : Int32))), some (.int r5)] (dt dk_X10_mostLeft 48 rfl) rfl rfl rfl rfl ?_
        refine e_goto 26 (dt dk_X10_mostLeft 49 rfl) (by decide) ?_
        exact e_forget [true, true, true, true, false] [some (.ref 53), some (.int v1), some (.int v2), some (.int (v3 + (1 : Int32))), none] ⟨rfl, rfl⟩ (hK26 v1 v2 (v3 + (1 : Int32)) (up2 M 70 (ix r5) ((M 70 (ix r5)) + (1 : Int32))))
      · refine e_aload_n (dt dk_X10_mostLeft 41 rfl) rfl ?_
        refine e_getR ci_X10 (dt dk_X10_mostLeft 42 rfl) rfl (by decide) rfl fl_X10_58 ?_
        refine e_iload (dt dk_X10_mostLeft 43 rfl) rfl ?_
        refine e_if (fun h10 => ?_)
        refine e_iald' (v := ((up2 M 70 (ix r5) ((M 70 (ix r5)) + (1 : Int32))) 70 (ix r5))) (dt dk_X10_mostLeft 44 rfl) rfl h10 rfl ?_
        refine e_goto 80 (dt dk_X10_mostLeft 45 rfl) (by decide) ?_
        refine e_istore_n [some (.ref 53), some (.int v1), some (.int ((up2 M 70 (ix r5) ((M 70 (ix r5)) + (1 : Int32))) 70 (ix r5))), some (.int v3), some (.int r5)] (dt dk_X10_mostLeft 47 rfl) rfl rfl rfl ?_
        refine e_iinc [some (.ref 53), some (.int v1), some (.int ((up2 M 70 (ix r5) ((M 70 (ix r5)) + (1 : Int32))) 70 (ix r5))), some (.int (v3 + (1 : Int32))), some (.int r5)] (dt dk_X10_mostLeft 48 rfl) rfl rfl rfl rfl ?_
        refine e_goto 26 (dt dk_X10_mostLeft 49 rfl) (by decide) ?_
        exact e_forget [true, true, true, true, false] [some (.ref 53), some (.int v1), some (.int ((up2 M 70 (ix r5) ((M 70 (ix r5)) + (1 : Int32))) 70 (ix r5))), some (.int (v3 + (1 : Int32))), none] ⟨rfl, rfl⟩ (hK26 v1 ((up2 M 70 (ix r5) ((M 70 (ix r5)) + (1 : Int32))) 70 (ix r5)) (v3 + (1 : Int32)) (up2 M 70 (ix r5) ((M 70 (ix r5)) + (1 : Int32))))
def lp_X10_mostLeft_26  : Nat → Int32 → Int32 → Int32 → Mem → Option (Int32 × Mem)
  | 0 => fun _ _ _ _ => none
  | n + 1 => bd_X10_mostLeft_26 (lp_X10_mostLeft_26 n)
theorem ev_lp_X10_mostLeft_26   : ∀ (n : Nat), ∀ (v1 : Int32) (v2 : Int32) (v3 : Int32) (M : Mem), Ev none wI RX10 cX10_mostLeft (some .int) 4 26 [some (.ref 53), some (.int v1), some (.int v2), some (.int v3), none] [] M (lp_X10_mostLeft_26 n v1 v2 v3 M)
  | 0 => fun _ _ _ _ => e_none
  | n + 1 => ev_bd_X10_mostLeft_26 (lp_X10_mostLeft_26 n) (ev_lp_X10_mostLeft_26 n)
def bd_X10_mostLeft_4  (K4 : Int32 → Int32 → Int32 → Mem → Option (Int32 × Mem)) (v1 : Int32) (v2 : Int32) (v3 : Int32) (M : Mem) : Option (Int32 × Mem) :=
  (if (100 : Int32) ≤ v3 then (lp_X10_mostLeft_26 FU v1 v2 (10 : Int32) M) else if inb v3 100 then (K4 v1 v2 (v3 + (1 : Int32)) (up2 M 70 (ix v3) (0 : Int32))) else none)
set_option maxRecDepth 20000 in
set_option maxHeartbeats 2000000 in
theorem ev_bd_X10_mostLeft_4  (K4 : Int32 → Int32 → Int32 → Mem → Option (Int32 × Mem))  (hK4 : ∀ (v1 : Int32) (v2 : Int32) (v3 : Int32) (M : Mem), Ev none wI RX10 cX10_mostLeft (some .int) 4 4 [some (.ref 53), some (.int v1), some (.int v2), some (.int v3), none] [] M (K4 v1 v2 v3 M)) (v1 : Int32) (v2 : Int32) (v3 : Int32) (M : Mem) : Ev none wI RX10 cX10_mostLeft (some .int) 4 4 [some (.ref 53), some (.int v1), some (.int v2), some (.int v3), none] [] M (bd_X10_mostLeft_4 K4 v1 v2 v3 M) := by
  unfold bd_X10_mostLeft_4
  refine e_iload_n (dt dk_X10_mostLeft 4 rfl) rfl ?_
  refine e_bipush (v := (100 : Int32)) (dt dk_X10_mostLeft 5 rfl) (by decide) ?_
  refine e_icmp_ge 23 (dt dk_X10_mostLeft 6 rfl) (by decide) (fun h1 => ?_) (fun h1 => ?_)
  · refine e_bipush (v := (10 : Int32)) (dt dk_X10_mostLeft 14 rfl) (by decide) ?_
    refine e_istore_n [some (.ref 53), some (.int v1), some (.int v2), some (.int (10 : Int32)), none] (dt dk_X10_mostLeft 15 rfl) rfl rfl rfl ?_
    exact e_forget [true, true, true, true, false] [some (.ref 53), some (.int v1), some (.int v2), some (.int (10 : Int32)), none] ⟨rfl, rfl⟩ (ev_lp_X10_mostLeft_26 FU v1 v2 (10 : Int32) M)
  · refine e_aload_n (dt dk_X10_mostLeft 7 rfl) rfl ?_
    refine e_getR ci_X10 (dt dk_X10_mostLeft 8 rfl) rfl (by decide) rfl fl_X10_58 ?_
    refine e_iload_n (dt dk_X10_mostLeft 9 rfl) rfl ?_
    refine e_iconst (v := (0 : Int32)) (dt dk_X10_mostLeft 10 rfl) (by decide) ?_
    refine e_if (fun h11 => ?_)
    refine e_iast' (dt dk_X10_mostLeft 11 rfl) rfl h11 ?_
    refine e_iinc [some (.ref 53), some (.int v1), some (.int v2), some (.int (v3 + (1 : Int32))), none] (dt dk_X10_mostLeft 12 rfl) rfl rfl rfl rfl ?_
    refine e_goto 4 (dt dk_X10_mostLeft 13 rfl) (by decide) ?_
    exact e_forget [true, true, true, true, false] [some (.ref 53), some (.int v1), some (.int v2), some (.int (v3 + (1 : Int32))), none] ⟨rfl, rfl⟩ (hK4 v1 v2 (v3 + (1 : Int32)) (up2 M 70 (ix v3) (0 : Int32)))
def lp_X10_mostLeft_4  : Nat → Int32 → Int32 → Int32 → Mem → Option (Int32 × Mem)
  | 0 => fun _ _ _ _ => none
  | n + 1 => bd_X10_mostLeft_4 (lp_X10_mostLeft_4 n)
theorem ev_lp_X10_mostLeft_4   : ∀ (n : Nat), ∀ (v1 : Int32) (v2 : Int32) (v3 : Int32) (M : Mem), Ev none wI RX10 cX10_mostLeft (some .int) 4 4 [some (.ref 53), some (.int v1), some (.int v2), some (.int v3), none] [] M (lp_X10_mostLeft_4 n v1 v2 v3 M)
  | 0 => fun _ _ _ _ => e_none
  | n + 1 => ev_bd_X10_mostLeft_4 (lp_X10_mostLeft_4 n) (ev_lp_X10_mostLeft_4 n)
def f_X10_mostLeft (v1 : Int32) (M : Mem) : Option (Int32 × Mem) :=
  (lp_X10_mostLeft_4 FU v1 (0 : Int32) (0 : Int32) M)
set_option maxRecDepth 20000 in
set_option maxHeartbeats 2000000 in
theorem sp_X10_mostLeft (v1 : Int32) (M : Mem) : SpO wI yX10_mostLeft cX10_mostLeft 5 (some .int) 4 [.ref 53, .int v1] M (f_X10_mostLeft v1 M) := by
  refine sp_of (L := [some (.ref 53), some (.int v1), none, none, none]) rfl (by decide +kernel) rfl rfl ?_
  unfold f_X10_mostLeft
  refine e_iconst (v := (0 : Int32)) (dt dk_X10_mostLeft 0 rfl) (by decide) ?_
  refine e_istore_n [some (.ref 53), some (.int v1), some (.int (0 : Int32)), none, none] (dt dk_X10_mostLeft 1 rfl) rfl rfl rfl ?_
  refine e_iconst (v := (0 : Int32)) (dt dk_X10_mostLeft 2 rfl) (by decide) ?_
  refine e_istore_n [some (.ref 53), some (.int v1), some (.int (0 : Int32)), some (.int (0 : Int32)), none] (dt dk_X10_mostLeft 3 rfl) rfl rfl rfl ?_
  exact e_forget [true, true, true, true, false] [some (.ref 53), some (.int v1), some (.int (0 : Int32)), some (.int (0 : Int32)), none] ⟨rfl, rfl⟩ (ev_lp_X10_mostLeft_4 FU v1 (0 : Int32) (0 : Int32) M)
-- X10_ask (W, depth 5)
def lb_X10_ask_51 (K24 : Int32 → Int32 → Int32 → Int32 → Mem → Option (Int32 × Mem)) (v1 : Int32) (v3 : Int32) (v4 : Int32) (v5 : Int32) (s0 : Int32) (M : Mem) : Option (Int32 × Mem) :=
  (K24 v1 s0 (f_X10_less v3 v5) (v4 + (1 : Int32)) M)
set_option maxRecDepth 20000 in
set_option maxHeartbeats 2000000 in
theorem ev_lb_X10_ask_51 (K24 : Int32 → Int32 → Int32 → Int32 → Mem → Option (Int32 × Mem)) (hK24 : ∀ (v1 : Int32) (v2 : Int32) (v3 : Int32) (v4 : Int32) (M : Mem), Ev none wI RX10 cX10_ask (some .int) 5 24 [some (.ref 53), some (.int v1), some (.int v2), some (.int v3), some (.int v4), none] [] M (K24 v1 v2 v3 v4 M)) (v1 : Int32) (v3 : Int32) (v4 : Int32) (v5 : Int32) (s0 : Int32) (M : Mem) : Ev none wI RX10 cX10_ask (some .int) 5 51 [some (.ref 53), some (.int v1), none, some (.int v3), some (.int v4), some (.int v5)] [.int s0] M (lb_X10_ask_51 K24 v1 v3 v4 v5 s0 M) := by
  unfold lb_X10_ask_51
  refine e_istore_n [some (.ref 53), some (.int v1), some (.int s0), some (.int v3), some (.int v4), some (.int v5)] (dt dk_X10_ask 29 rfl) rfl rfl rfl ?_
  refine e_iload_n (dt dk_X10_ask 30 rfl) rfl ?_
  refine e_iload (dt dk_X10_ask 31 rfl) rfl ?_
  refine ev_callT (ca_S ms_X10_less (sp_X10_less v3 v5 M) (dt dk_X10_ask 32 rfl) ml_X10_137 rfl rfl rfl (by decide) : Ca _ _ _ _ _ _ _ _ [] _ _) ?_
  show Ev _ _ _ _ _ _ 58 [some (.ref 53), some (.int v1), some (.int s0), some (.int v3), some (.int v4), some (.int v5)] [.int (f_X10_less v3 v5)] M _
  refine e_istore_n [some (.ref 53), some (.int v1), some (.int s0), some (.int (f_X10_less v3 v5)), some (.int v4), some (.int v5)] (dt dk_X10_ask 33 rfl) rfl rfl rfl ?_
  refine e_iinc [some (.ref 53), some (.int v1), some (.int s0), some (.int (f_X10_less v3 v5)), some (.int (v4 + (1 : Int32))), some (.int v5)] (dt dk_X10_ask 34 rfl) rfl rfl rfl rfl ?_
  refine e_goto 24 (dt dk_X10_ask 35 rfl) (by decide) ?_
  exact e_forget [true, true, true, true, true, false] [some (.ref 53), some (.int v1), some (.int s0), some (.int (f_X10_less v3 v5)), some (.int (v4 + (1 : Int32))), none] ⟨rfl, rfl⟩ (hK24 v1 s0 (f_X10_less v3 v5) (v4 + (1 : Int32)) M)
def bd_X10_ask_24  (K24 : Int32 → Int32 → Int32 → Int32 → Mem → Option (Int32 × Mem)) (v1 : Int32) (v2 : Int32) (v3 : Int32) (v4 : Int32) (M : Mem) : Option (Int32 × Mem) :=
  (if (40 : Int32) < v4 then (if v3 = 0 then some ((-6 : Int32), M) else (if v1 = 0 then some (v2, M) else some (v3, M))) else ((f_X10_mostLeft v4 M)).bind fun q6 => (if v3 ≤ q6.1 then (lb_X10_ask_51 K24 v1 v3 v4 q6.1 v2 q6.2) else (lb_X10_ask_51 K24 v1 v3 v4 q6.1 v4 q6.2)))
set_option maxRecDepth 20000 in
set_option maxHeartbeats 2000000 in
theorem ev_bd_X10_ask_24  (K24 : Int32 → Int32 → Int32 → Int32 → Mem → Option (Int32 × Mem))  (hK24 : ∀ (v1 : Int32) (v2 : Int32) (v3 : Int32) (v4 : Int32) (M : Mem), Ev none wI RX10 cX10_ask (some .int) 5 24 [some (.ref 53), some (.int v1), some (.int v2), some (.int v3), some (.int v4), none] [] M (K24 v1 v2 v3 v4 M)) (v1 : Int32) (v2 : Int32) (v3 : Int32) (v4 : Int32) (M : Mem) : Ev none wI RX10 cX10_ask (some .int) 5 24 [some (.ref 53), some (.int v1), some (.int v2), some (.int v3), some (.int v4), none] [] M (bd_X10_ask_24 K24 v1 v2 v3 v4 M) := by
  unfold bd_X10_ask_24
  refine e_iload (dt dk_X10_ask 16 rfl) rfl ?_
  refine e_bipush (v := (40 : Int32)) (dt dk_X10_ask 17 rfl) (by decide) ?_
  refine e_icmp_gt 65 (dt dk_X10_ask 18 rfl) (by decide) (fun h3 => ?_) (fun h3 => ?_)
  · refine e_iload_n (dt dk_X10_ask 36 rfl) rfl ?_
    refine e_if_ne 74 (dt dk_X10_ask 37 rfl) (by decide) (fun h4 => ?_) (fun h4 => ?_)
    · refine e_bipush (v := (-6 : Int32)) (dt dk_X10_ask 38 rfl) (by decide) ?_
      refine e_goto 83 (dt dk_X10_ask 39 rfl) (by decide) ?_
      exact e_iret (dt dk_X10_ask 45 rfl) rfl rfl rfl
    · refine e_iload_n (dt dk_X10_ask 40 rfl) rfl ?_
      refine e_if_ne 82 (dt dk_X10_ask 41 rfl) (by decide) (fun h5 => ?_) (fun h5 => ?_)
      · refine e_iload_n (dt dk_X10_ask 42 rfl) rfl ?_
        refine e_goto 83 (dt dk_X10_ask 43 rfl) (by decide) ?_
        exact e_iret (dt dk_X10_ask 45 rfl) rfl rfl rfl
      · refine e_iload_n (dt dk_X10_ask 44 rfl) rfl ?_
        exact e_iret (dt dk_X10_ask 45 rfl) rfl rfl rfl
  · refine e_aload_n (dt dk_X10_ask 19 rfl) rfl ?_
    refine e_iload (dt dk_X10_ask 20 rfl) rfl ?_
    refine ev_call (ca_V (k := 53) mv_X10_mostLeft (sp_X10_mostLeft v4 M) (dt dk_X10_ask 21 rfl) ml_X10_255 rfl rfl rfl rfl rfl (by decide) : Ca _ _ _ _ _ _ _ _ [] _ _) (fun q6 hq6 => ?_)
    show Ev _ _ _ _ _ _ 37 [some (.ref 53), some (.int v1), some (.int v2), some (.int v3), some (.int v4), none] [.int q6.1] q6.2 _
    refine e_istore [some (.ref 53), some (.int v1), some (.int v2), some (.int v3), some (.int v4), some (.int q6.1)] (dt dk_X10_ask 22 rfl) rfl rfl rfl ?_
    refine e_iload (dt dk_X10_ask 23 rfl) rfl ?_
    refine e_iload_n (dt dk_X10_ask 24 rfl) rfl ?_
    refine e_icmp_ge 50 (dt dk_X10_ask 25 rfl) (by decide) (fun h7 => ?_) (fun h7 => ?_)
    · refine e_iload_n (dt dk_X10_ask 28 rfl) rfl ?_
      exact e_forget [true, true, false, true, true, true] [some (.ref 53), some (.int v1), none, some (.int v3), some (.int v4), some (.int q6.1)] ⟨rfl, rfl⟩ (ev_lb_X10_ask_51 K24 hK24 v1 v3 v4 q6.1 v2 q6.2)
    · refine e_iload (dt dk_X10_ask 26 rfl) rfl ?_
      refine e_goto 51 (dt dk_X10_ask 27 rfl) (by decide) ?_
      exact e_forget [true, true, false, true, true, true] [some (.ref 53), some (.int v1), none, some (.int v3), some (.int v4), some (.int q6.1)] ⟨rfl, rfl⟩ (ev_lb_X10_ask_51 K24 hK24 v1 v3 v4 q6.1 v4 q6.2)
def lp_X10_ask_24  : Nat → Int32 → Int32 → Int32 → Int32 → Mem → Option (Int32 × Mem)
  | 0 => fun _ _ _ _ _ => none
  | n + 1 => bd_X10_ask_24 (lp_X10_ask_24 n)
theorem ev_lp_X10_ask_24   : ∀ (n : Nat), ∀ (v1 : Int32) (v2 : Int32) (v3 : Int32) (v4 : Int32) (M : Mem), Ev none wI RX10 cX10_ask (some .int) 5 24 [some (.ref 53), some (.int v1), some (.int v2), some (.int v3), some (.int v4), none] [] M (lp_X10_ask_24 n v1 v2 v3 v4 M)
  | 0 => fun _ _ _ _ _ => e_none
  | n + 1 => ev_bd_X10_ask_24 (lp_X10_ask_24 n) (ev_lp_X10_ask_24 n)
def f_X10_ask (v1 : Int32) (M : Mem) : Option (Int32 × Mem) :=
  (if (f_X10_in (Int32.toInt64 v1) (0 : Int64) (1 : Int64)) = 0 then some ((-2 : Int32), M) else ((f_X10_mostLeft (0 : Int32) M)).bind fun q2 => (lp_X10_ask_24 FU v1 (0 : Int32) q2.1 (1 : Int32) q2.2))
set_option maxRecDepth 20000 in
set_option maxHeartbeats 2000000 in
theorem sp_X10_ask (v1 : Int32) (M : Mem) : SpO wI yX10_ask cX10_ask 6 (some .int) 5 [.ref 53, .int v1] M (f_X10_ask v1 M) := by
  refine sp_of (L := [some (.ref 53), some (.int v1), none, none, none, none]) rfl (by decide +kernel) rfl rfl ?_
  unfold f_X10_ask
  refine e_iload_n (dt dk_X10_ask 0 rfl) rfl ?_
  refine e_i2l (dt dk_X10_ask 1 rfl) ?_
  refine e_lconst (v := (0 : Int64)) (dt dk_X10_ask 2 rfl) (by decide) ?_
  refine e_lconst (v := (1 : Int64)) (dt dk_X10_ask 3 rfl) (by decide) ?_
  refine ev_callT (ca_S ms_X10_in (sp_X10_in (Int32.toInt64 v1) (0 : Int64) (1 : Int64) M) (dt dk_X10_ask 4 rfl) ml_X10_80 rfl rfl rfl (by decide) : Ca _ _ _ _ _ _ _ _ [] _ _) ?_
  show Ev _ _ _ _ _ _ 7 [some (.ref 53), some (.int v1), none, none, none, none] [.int (f_X10_in (Int32.toInt64 v1) (0 : Int64) (1 : Int64))] M _
  refine e_if_ne 13 (dt dk_X10_ask 5 rfl) (by decide) (fun h1 => ?_) (fun h1 => ?_)
  · refine e_bipush (v := (-2 : Int32)) (dt dk_X10_ask 6 rfl) (by decide) ?_
    exact e_iret (dt dk_X10_ask 7 rfl) rfl rfl rfl
  · refine e_iconst (v := (0 : Int32)) (dt dk_X10_ask 8 rfl) (by decide) ?_
    refine e_istore_n [some (.ref 53), some (.int v1), some (.int (0 : Int32)), none, none, none] (dt dk_X10_ask 9 rfl) rfl rfl rfl ?_
    refine e_aload_n (dt dk_X10_ask 10 rfl) rfl ?_
    refine e_iconst (v := (0 : Int32)) (dt dk_X10_ask 11 rfl) (by decide) ?_
    refine ev_call (ca_V (k := 53) mv_X10_mostLeft (sp_X10_mostLeft (0 : Int32) M) (dt dk_X10_ask 12 rfl) ml_X10_255 rfl rfl rfl rfl rfl (by decide) : Ca _ _ _ _ _ _ _ _ [] _ _) (fun q2 hq2 => ?_)
    show Ev _ _ _ _ _ _ 20 [some (.ref 53), some (.int v1), some (.int (0 : Int32)), none, none, none] [.int q2.1] q2.2 _
    refine e_istore_n [some (.ref 53), some (.int v1), some (.int (0 : Int32)), some (.int q2.1), none, none] (dt dk_X10_ask 13 rfl) rfl rfl rfl ?_
    refine e_iconst (v := (1 : Int32)) (dt dk_X10_ask 14 rfl) (by decide) ?_
    refine e_istore [some (.ref 53), some (.int v1), some (.int (0 : Int32)), some (.int q2.1), some (.int (1 : Int32)), none] (dt dk_X10_ask 15 rfl) rfl rfl rfl ?_
    exact e_forget [true, true, true, true, true, false] [some (.ref 53), some (.int v1), some (.int (0 : Int32)), some (.int q2.1), some (.int (1 : Int32)), none] ⟨rfl, rfl⟩ (ev_lp_X10_ask_24 FU v1 (0 : Int32) q2.1 (1 : Int32) q2.2)
-- X10_isSure (R, depth 1)
def lb_X10_isSure_76 (M : Mem) (K6 : Int32 → Int32 → Int32 → Int32 → Int32 → Option Int32) (v1 : Int32) (v2 : Int32) (v3 : Int32) (v5 : Int32) : Option Int32 :=
  (K6 v1 v2 v3 (0 : Int32) (v5 + (1 : Int32)))
set_option maxRecDepth 20000 in
set_option maxHeartbeats 2000000 in
theorem ev_lb_X10_isSure_76 (M : Mem) (K6 : Int32 → Int32 → Int32 → Int32 → Int32 → Option Int32) (hK6 : ∀ (v1 : Int32) (v2 : Int32) (v3 : Int32) (v4 : Int32) (v5 : Int32), Ev none (wR M) RX10 cX10_isSure (some .boolean) 1 6 [some (.ref 53), some (.int v1), some (.int v2), some (.int v3), some (.int v4), some (.int v5), none] [] M (K6 v1 v2 v3 v4 v5)) (v1 : Int32) (v2 : Int32) (v3 : Int32) (v5 : Int32) : Ev none (wR M) RX10 cX10_isSure (some .boolean) 1 76 [some (.ref 53), some (.int v1), some (.int v2), some (.int v3), none, some (.int v5), none] [] M (lb_X10_isSure_76 M K6 v1 v2 v3 v5) := by
  unfold lb_X10_isSure_76
  refine e_iconst (v := (0 : Int32)) (dt dk_X10_isSure 41 rfl) (by decide) ?_
  refine e_istore [some (.ref 53), some (.int v1), some (.int v2), some (.int v3), some (.int (0 : Int32)), some (.int v5), none] (dt dk_X10_isSure 42 rfl) rfl rfl rfl ?_
  refine e_iinc [some (.ref 53), some (.int v1), some (.int v2), some (.int v3), some (.int (0 : Int32)), some (.int (v5 + (1 : Int32))), none] (dt dk_X10_isSure 43 rfl) rfl rfl rfl rfl ?_
  refine e_goto 6 (dt dk_X10_isSure 44 rfl) (by decide) ?_
  exact e_forget [true, true, true, true, true, true, false] [some (.ref 53), some (.int v1), some (.int v2), some (.int v3), some (.int (0 : Int32)), some (.int (v5 + (1 : Int32))), none] ⟨rfl, rfl⟩ (hK6 v1 v2 v3 (0 : Int32) (v5 + (1 : Int32)))
def lb_X10_isSure_38 (M : Mem) (K6 : Int32 → Int32 → Int32 → Int32 → Int32 → Option Int32) (v1 : Int32) (v2 : Int32) (v3 : Int32) (v4 : Int32) (v5 : Int32) (s0 : Int32) : Option Int32 :=
  (if v4 = 0 then (lb_X10_isSure_76 M K6 v1 v2 v3 v5) else (if s0 = 0 then (K6 v1 v2 v3 (1 : Int32) (v5 + (1 : Int32))) else if inb (((8 : Int32) * v1) + v5) 64 then (if (f_X10_in (Int32.toInt64 (M 71 (ix (((8 : Int32) * v1) + v5)))) (0 : Int64) (Int32.toInt64 v3)) = 0 then (lb_X10_isSure_76 M K6 v1 v2 v3 v5) else (K6 v1 v2 v3 (1 : Int32) (v5 + (1 : Int32)))) else none))
set_option maxRecDepth 20000 in
set_option maxHeartbeats 2000000 in
theorem ev_lb_X10_isSure_38 (M : Mem) (K6 : Int32 → Int32 → Int32 → Int32 → Int32 → Option Int32) (hK6 : ∀ (v1 : Int32) (v2 : Int32) (v3 : Int32) (v4 : Int32) (v5 : Int32), Ev none (wR M) RX10 cX10_isSure (some .boolean) 1 6 [some (.ref 53), some (.int v1), some (.int v2), some (.int v3), some (.int v4), some (.int v5), none] [] M (K6 v1 v2 v3 v4 v5)) (v1 : Int32) (v2 : Int32) (v3 : Int32) (v4 : Int32) (v5 : Int32) (s0 : Int32) : Ev none (wR M) RX10 cX10_isSure (some .boolean) 1 38 [some (.ref 53), some (.int v1), some (.int v2), some (.int v3), some (.int v4), some (.int v5), none] [.int s0] M (lb_X10_isSure_38 M K6 v1 v2 v3 v4 v5 s0) := by
  unfold lb_X10_isSure_38
  refine e_istore [some (.ref 53), some (.int v1), some (.int v2), some (.int v3), some (.int v4), some (.int v5), some (.int s0)] (dt dk_X10_isSure 20 rfl) rfl rfl rfl ?_
  refine e_iload (dt dk_X10_isSure 21 rfl) rfl ?_
  refine e_if_eq 76 (dt dk_X10_isSure 22 rfl) (by decide) (fun h5 => ?_) (fun h5 => ?_)
  · exact e_forget [true, true, true, true, false, true, false] [some (.ref 53), some (.int v1), some (.int v2), some (.int v3), none, some (.int v5), none] ⟨rfl, rfl⟩ (ev_lb_X10_isSure_76 M K6 hK6 v1 v2 v3 v5)
  · refine e_iload (dt dk_X10_isSure 23 rfl) rfl ?_
    refine e_if_eq 72 (dt dk_X10_isSure 24 rfl) (by decide) (fun h6 => ?_) (fun h6 => ?_)
    · refine e_iconst (v := (1 : Int32)) (dt dk_X10_isSure 39 rfl) (by decide) ?_
      refine e_goto 77 (dt dk_X10_isSure 40 rfl) (by decide) ?_
      refine e_istore [some (.ref 53), some (.int v1), some (.int v2), some (.int v3), some (.int (1 : Int32)), some (.int v5), some (.int s0)] (dt dk_X10_isSure 42 rfl) rfl rfl rfl ?_
      refine e_iinc [some (.ref 53), some (.int v1), some (.int v2), some (.int v3), some (.int (1 : Int32)), some (.int (v5 + (1 : Int32))), some (.int s0)] (dt dk_X10_isSure 43 rfl) rfl rfl rfl rfl ?_
      refine e_goto 6 (dt dk_X10_isSure 44 rfl) (by decide) ?_
      exact e_forget [true, true, true, true, true, true, false] [some (.ref 53), some (.int v1), some (.int v2), some (.int v3), some (.int (1 : Int32)), some (.int (v5 + (1 : Int32))), none] ⟨rfl, rfl⟩ (hK6 v1 v2 v3 (1 : Int32) (v5 + (1 : Int32)))
    · refine e_aload_n (dt dk_X10_isSure 25 rfl) rfl ?_
      refine e_getR ci_X10 (dt dk_X10_isSure 26 rfl) rfl (by decide) rfl fl_X10_61 ?_
      refine e_bipush (v := (8 : Int32)) (dt dk_X10_isSure 27 rfl) (by decide) ?_
      refine e_iload_n (dt dk_X10_isSure 28 rfl) rfl ?_
      refine e_imul (dt dk_X10_isSure 29 rfl) ?_
      refine e_iload (dt dk_X10_isSure 30 rfl) rfl ?_
      refine e_iadd (dt dk_X10_isSure 31 rfl) ?_
      refine e_if (fun h7 => ?_)
      refine e_iald' (v := (M 71 (ix (((8 : Int32) * v1) + v5)))) (dt dk_X10_isSure 32 rfl) rfl h7 rfl ?_
      refine e_i2l (dt dk_X10_isSure 33 rfl) ?_
      refine e_lconst (v := (0 : Int64)) (dt dk_X10_isSure 34 rfl) (by decide) ?_
      refine e_iload_n (dt dk_X10_isSure 35 rfl) rfl ?_
      refine e_i2l (dt dk_X10_isSure 36 rfl) ?_
      refine ev_callT (ca_S ms_X10_in (sp_X10_in (Int32.toInt64 (M 71 (ix (((8 : Int32) * v1) + v5)))) (0 : Int64) (Int32.toInt64 v3) M) (dt dk_X10_isSure 37 rfl) ml_X10_80 rfl rfl rfl (by decide) : Ca _ _ _ _ _ _ _ _ [] _ _) ?_
      show Ev _ _ _ _ _ _ 69 [some (.ref 53), some (.int v1), some (.int v2), some (.int v3), some (.int v4), some (.int v5), some (.int s0)] [.int (f_X10_in (Int32.toInt64 (M 71 (ix (((8 : Int32) * v1) + v5)))) (0 : Int64) (Int32.toInt64 v3))] M _
      refine e_if_eq 76 (dt dk_X10_isSure 38 rfl) (by decide) (fun h8 => ?_) (fun h8 => ?_)
      · exact e_forget [true, true, true, true, false, true, false] [some (.ref 53), some (.int v1), some (.int v2), some (.int v3), none, some (.int v5), none] ⟨rfl, rfl⟩ (ev_lb_X10_isSure_76 M K6 hK6 v1 v2 v3 v5)
      · refine e_iconst (v := (1 : Int32)) (dt dk_X10_isSure 39 rfl) (by decide) ?_
        refine e_goto 77 (dt dk_X10_isSure 40 rfl) (by decide) ?_
        refine e_istore [some (.ref 53), some (.int v1), some (.int v2), some (.int v3), some (.int (1 : Int32)), some (.int v5), some (.int s0)] (dt dk_X10_isSure 42 rfl) rfl rfl rfl ?_
        refine e_iinc [some (.ref 53), some (.int v1), some (.int v2), some (.int v3), some (.int (1 : Int32)), some (.int (v5 + (1 : Int32))), some (.int s0)] (dt dk_X10_isSure 43 rfl) rfl rfl rfl rfl ?_
        refine e_goto 6 (dt dk_X10_isSure 44 rfl) (by decide) ?_
        exact e_forget [true, true, true, true, true, true, false] [some (.ref 53), some (.int v1), some (.int v2), some (.int v3), some (.int (1 : Int32)), some (.int (v5 + (1 : Int32))), none] ⟨rfl, rfl⟩ (hK6 v1 v2 v3 (1 : Int32) (v5 + (1 : Int32)))
def bd_X10_isSure_6 (M : Mem)  (K6 : Int32 → Int32 → Int32 → Int32 → Int32 → Option Int32) (v1 : Int32) (v2 : Int32) (v3 : Int32) (v4 : Int32) (v5 : Int32) : Option Int32 :=
  (if (8 : Int32) ≤ v5 then (if v1 = v2 then some (1 : Int32) else (if v4 = 0 then some (0 : Int32) else some (1 : Int32))) else (if v5 = v2 then (lb_X10_isSure_38 M K6 v1 v2 v3 v4 v5 (1 : Int32)) else if inb v2 8 then (if (f_X10_has (M 58 (ix v2)) v5) = 0 then (lb_X10_isSure_38 M K6 v1 v2 v3 v4 v5 (0 : Int32)) else (lb_X10_isSure_38 M K6 v1 v2 v3 v4 v5 (1 : Int32))) else none))
set_option maxRecDepth 20000 in
set_option maxHeartbeats 2000000 in
theorem ev_bd_X10_isSure_6 (M : Mem)  (K6 : Int32 → Int32 → Int32 → Int32 → Int32 → Option Int32)  (hK6 : ∀ (v1 : Int32) (v2 : Int32) (v3 : Int32) (v4 : Int32) (v5 : Int32), Ev none (wR M) RX10 cX10_isSure (some .boolean) 1 6 [some (.ref 53), some (.int v1), some (.int v2), some (.int v3), some (.int v4), some (.int v5), none] [] M (K6 v1 v2 v3 v4 v5)) (v1 : Int32) (v2 : Int32) (v3 : Int32) (v4 : Int32) (v5 : Int32) : Ev none (wR M) RX10 cX10_isSure (some .boolean) 1 6 [some (.ref 53), some (.int v1), some (.int v2), some (.int v3), some (.int v4), some (.int v5), none] [] M (bd_X10_isSure_6 M K6 v1 v2 v3 v4 v5) := by
  unfold bd_X10_isSure_6
  refine e_iload (dt dk_X10_isSure 4 rfl) rfl ?_
  refine e_bipush (v := (8 : Int32)) (dt dk_X10_isSure 5 rfl) (by decide) ?_
  refine e_icmp_ge 85 (dt dk_X10_isSure 6 rfl) (by decide) (fun h1 => ?_) (fun h1 => ?_)
  · refine e_iload_n (dt dk_X10_isSure 45 rfl) rfl ?_
    refine e_iload_n (dt dk_X10_isSure 46 rfl) rfl ?_
    refine e_icmp_eq 95 (dt dk_X10_isSure 47 rfl) (by decide) (fun h2 => ?_) (fun h2 => ?_)
    · refine e_iconst (v := (1 : Int32)) (dt dk_X10_isSure 50 rfl) (by decide) ?_
      refine e_goto 100 (dt dk_X10_isSure 51 rfl) (by decide) ?_
      exact e_iret (dt dk_X10_isSure 53 rfl) rfl rfl rfl
    · refine e_iload (dt dk_X10_isSure 48 rfl) rfl ?_
      refine e_if_eq 99 (dt dk_X10_isSure 49 rfl) (by decide) (fun h3 => ?_) (fun h3 => ?_)
      · refine e_iconst (v := (0 : Int32)) (dt dk_X10_isSure 52 rfl) (by decide) ?_
        exact e_iret (dt dk_X10_isSure 53 rfl) rfl rfl rfl
      · refine e_iconst (v := (1 : Int32)) (dt dk_X10_isSure 50 rfl) (by decide) ?_
        refine e_goto 100 (dt dk_X10_isSure 51 rfl) (by decide) ?_
        exact e_iret (dt dk_X10_isSure 53 rfl) rfl rfl rfl
  · refine e_iload (dt dk_X10_isSure 7 rfl) rfl ?_
    refine e_iload_n (dt dk_X10_isSure 8 rfl) rfl ?_
    refine e_icmp_eq 33 (dt dk_X10_isSure 9 rfl) (by decide) (fun h4 => ?_) (fun h4 => ?_)
    · refine e_iconst (v := (1 : Int32)) (dt dk_X10_isSure 17 rfl) (by decide) ?_
      refine e_goto 38 (dt dk_X10_isSure 18 rfl) (by decide) ?_
      exact e_forget [true, true, true, true, true, true, false] [some (.ref 53), some (.int v1), some (.int v2), some (.int v3), some (.int v4), some (.int v5), none] ⟨rfl, rfl⟩ (ev_lb_X10_isSure_38 M K6 hK6 v1 v2 v3 v4 v5 (1 : Int32))
    · refine e_aload_n (dt dk_X10_isSure 10 rfl) rfl ?_
      refine e_getR ci_X10 (dt dk_X10_isSure 11 rfl) rfl (by decide) rfl fl_X10_22 ?_
      refine e_iload_n (dt dk_X10_isSure 12 rfl) rfl ?_
      refine e_if (fun h9 => ?_)
      refine e_iald' (v := (M 58 (ix v2))) (dt dk_X10_isSure 13 rfl) rfl h9 rfl ?_
      refine e_iload (dt dk_X10_isSure 14 rfl) rfl ?_
      refine ev_callT (ca_S ms_X10_has (sp_X10_has (M 58 (ix v2)) v5 M) (dt dk_X10_isSure 15 rfl) ml_X10_149 rfl rfl rfl (by decide) : Ca _ _ _ _ _ _ _ _ [] _ _) ?_
      show Ev _ _ _ _ _ _ 30 [some (.ref 53), some (.int v1), some (.int v2), some (.int v3), some (.int v4), some (.int v5), none] [.int (f_X10_has (M 58 (ix v2)) v5)] M _
      refine e_if_eq 37 (dt dk_X10_isSure 16 rfl) (by decide) (fun h10 => ?_) (fun h10 => ?_)
      · refine e_iconst (v := (0 : Int32)) (dt dk_X10_isSure 19 rfl) (by decide) ?_
        exact e_forget [true, true, true, true, true, true, false] [some (.ref 53), some (.int v1), some (.int v2), some (.int v3), some (.int v4), some (.int v5), none] ⟨rfl, rfl⟩ (ev_lb_X10_isSure_38 M K6 hK6 v1 v2 v3 v4 v5 (0 : Int32))
      · refine e_iconst (v := (1 : Int32)) (dt dk_X10_isSure 17 rfl) (by decide) ?_
        refine e_goto 38 (dt dk_X10_isSure 18 rfl) (by decide) ?_
        exact e_forget [true, true, true, true, true, true, false] [some (.ref 53), some (.int v1), some (.int v2), some (.int v3), some (.int v4), some (.int v5), none] ⟨rfl, rfl⟩ (ev_lb_X10_isSure_38 M K6 hK6 v1 v2 v3 v4 v5 (1 : Int32))
def lp_X10_isSure_6 (M : Mem)  : Nat → Int32 → Int32 → Int32 → Int32 → Int32 → Option Int32
  | 0 => fun _ _ _ _ _ => none
  | n + 1 => bd_X10_isSure_6 M (lp_X10_isSure_6 M n)
theorem ev_lp_X10_isSure_6 (M : Mem)   : ∀ (n : Nat), ∀ (v1 : Int32) (v2 : Int32) (v3 : Int32) (v4 : Int32) (v5 : Int32), Ev none (wR M) RX10 cX10_isSure (some .boolean) 1 6 [some (.ref 53), some (.int v1), some (.int v2), some (.int v3), some (.int v4), some (.int v5), none] [] M (lp_X10_isSure_6 M n v1 v2 v3 v4 v5)
  | 0 => fun _ _ _ _ _ => e_none
  | n + 1 => ev_bd_X10_isSure_6 M (lp_X10_isSure_6 M n) (ev_lp_X10_isSure_6 M n)
def f_X10_isSure (v1 : Int32) (v2 : Int32) (v3 : Int32) (M : Mem) : Option Int32 :=
  (lp_X10_isSure_6 M FU v1 v2 v3 (1 : Int32) (0 : Int32))
set_option maxRecDepth 20000 in
set_option maxHeartbeats 2000000 in
theorem sp_X10_isSure (v1 : Int32) (v2 : Int32) (v3 : Int32) (M : Mem) : SpO (wR M) yX10_isSure cX10_isSure 7 (some .boolean) 1 [.ref 53, .int v1, .int v2, .int v3] M (f_X10_isSure v1 v2 v3 M) := by
  refine sp_of (L := [some (.ref 53), some (.int v1), some (.int v2), some (.int v3), none, none, none]) rfl (by decide +kernel) rfl rfl ?_
  unfold f_X10_isSure
  refine e_iconst (v := (1 : Int32)) (dt dk_X10_isSure 0 rfl) (by decide) ?_
  refine e_istore [some (.ref 53), some (.int v1), some (.int v2), some (.int v3), some (.int (1 : Int32)), none, none] (dt dk_X10_isSure 1 rfl) rfl rfl rfl ?_
  refine e_iconst (v := (0 : Int32)) (dt dk_X10_isSure 2 rfl) (by decide) ?_
  refine e_istore [some (.ref 53), some (.int v1), some (.int v2), some (.int v3), some (.int (1 : Int32)), some (.int (0 : Int32)), none] (dt dk_X10_isSure 3 rfl) rfl rfl rfl ?_
  exact e_forget [true, true, true, true, true, true, false] [some (.ref 53), some (.int v1), some (.int v2), some (.int v3), some (.int (1 : Int32)), some (.int (0 : Int32)), none] ⟨rfl, rfl⟩ (ev_lp_X10_isSure_6 M FU v1 v2 v3 (1 : Int32) (0 : Int32))
-- X10_sureGoing (R, depth 2)
def lb_X10_sureGoing_61 (M : Mem) (K8 : Int32 → Int32 → Int32 → Int32 → Int32 → Option Int32) (v1 : Int32) (v2 : Int32) (v3 : Int32) (v4 : Int32) (v5 : Int32) : Option Int32 :=
  (K8 v1 v2 v3 v4 (v5 + (-1 : Int32)))
set_option maxRecDepth 20000 in
set_option maxHeartbeats 2000000 in
theorem ev_lb_X10_sureGoing_61 (M : Mem) (K8 : Int32 → Int32 → Int32 → Int32 → Int32 → Option Int32) (hK8 : ∀ (v1 : Int32) (v2 : Int32) (v3 : Int32) (v4 : Int32) (v5 : Int32), Ev none (wR M) RX10 cX10_sureGoing (some .int) 2 8 [some (.ref 53), some (.int v1), some (.int v2), some (.int v3), some (.int v4), some (.int v5), none] [] M (K8 v1 v2 v3 v4 v5)) (v1 : Int32) (v2 : Int32) (v3 : Int32) (v4 : Int32) (v5 : Int32) : Ev none (wR M) RX10 cX10_sureGoing (some .int) 2 61 [some (.ref 53), some (.int v1), some (.int v2), some (.int v3), some (.int v4), some (.int v5), none] [] M (lb_X10_sureGoing_61 M K8 v1 v2 v3 v4 v5) := by
  unfold lb_X10_sureGoing_61
  refine e_iload (dt dk_X10_sureGoing 30 rfl) rfl ?_
  refine e_istore [some (.ref 53), some (.int v1), some (.int v2), some (.int v3), some (.int v4), some (.int v5), none] (dt dk_X10_sureGoing 31 rfl) rfl rfl rfl ?_
  refine e_iinc [some (.ref 53), some (.int v1), some (.int v2), some (.int v3), some (.int v4), some (.int (v5 + (-1 : Int32))), none] (dt dk_X10_sureGoing 32 rfl) rfl rfl rfl rfl ?_
  refine e_goto 8 (dt dk_X10_sureGoing 33 rfl) (by decide) ?_
  exact e_forget [true, true, true, true, true, true, false] [some (.ref 53), some (.int v1), some (.int v2), some (.int v3), some (.int v4), some (.int (v5 + (-1 : Int32))), none] ⟨rfl, rfl⟩ (hK8 v1 v2 v3 v4 (v5 + (-1 : Int32)))
def lb_X10_sureGoing_38 (M : Mem) (K8 : Int32 → Int32 → Int32 → Int32 → Int32 → Option Int32) (v1 : Int32) (v2 : Int32) (v3 : Int32) (v4 : Int32) (v5 : Int32) (s0 : Int32) : Option Int32 :=
  (if s0 = 0 then (lb_X10_sureGoing_61 M K8 v1 v2 v3 v4 v5) else ((f_X10_isSure v5 v2 v3 M)).bind fun r4 => (if r4 = 0 then (lb_X10_sureGoing_61 M K8 v1 v2 v3 v4 v5) else (K8 v1 v2 v3 v5 (v5 + (-1 : Int32)))))
set_option maxRecDepth 20000 in
set_option maxHeartbeats 2000000 in
theorem ev_lb_X10_sureGoing_38 (M : Mem) (K8 : Int32 → Int32 → Int32 → Int32 → Int32 → Option Int32) (hK8 : ∀ (v1 : Int32) (v2 : Int32) (v3 : Int32) (v4 : Int32) (v5 : Int32), Ev none (wR M) RX10 cX10_sureGoing (some .int) 2 8 [some (.ref 53), some (.int v1), some (.int v2), some (.int v3), some (.int v4), some (.int v5), none] [] M (K8 v1 v2 v3 v4 v5)) (v1 : Int32) (v2 : Int32) (v3 : Int32) (v4 : Int32) (v5 : Int32) (s0 : Int32) : Ev none (wR M) RX10 cX10_sureGoing (some .int) 2 38 [some (.ref 53), some (.int v1), some (.int v2), some (.int v3), some (.int v4), some (.int v5), none] [.int s0] M (lb_X10_sureGoing_38 M K8 v1 v2 v3 v4 v5 s0) := by
  unfold lb_X10_sureGoing_38
  refine e_istore [some (.ref 53), some (.int v1), some (.int v2), some (.int v3), some (.int v4), some (.int v5), some (.int s0)] (dt dk_X10_sureGoing 19 rfl) rfl rfl rfl ?_
  refine e_iload (dt dk_X10_sureGoing 20 rfl) rfl ?_
  refine e_if_eq 61 (dt dk_X10_sureGoing 21 rfl) (by decide) (fun h3 => ?_) (fun h3 => ?_)
  · exact e_forget [true, true, true, true, true, true, false] [some (.ref 53), some (.int v1), some (.int v2), some (.int v3), some (.int v4), some (.int v5), none] ⟨rfl, rfl⟩ (ev_lb_X10_sureGoing_61 M K8 hK8 v1 v2 v3 v4 v5)
  · refine e_aload_n (dt dk_X10_sureGoing 22 rfl) rfl ?_
    refine e_iload (dt dk_X10_sureGoing 23 rfl) rfl ?_
    refine e_iload_n (dt dk_X10_sureGoing 24 rfl) rfl ?_
    refine e_iload_n (dt dk_X10_sureGoing 25 rfl) rfl ?_
    refine ev_call (ca_V (k := 53) mv_X10_isSure (sp_X10_isSure v5 v2 v3 M) (dt dk_X10_sureGoing 26 rfl) ml_X10_258 rfl rfl rfl rfl rfl (by decide) : Ca _ _ _ _ _ _ _ _ [] _ _) (fun r4 hr4 => ?_)
    show Ev _ _ _ _ _ _ 53 [some (.ref 53), some (.int v1), some (.int v2), some (.int v3), some (.int v4), some (.int v5), some (.int s0)] [.int r4] M _
    refine e_if_eq 61 (dt dk_X10_sureGoing 27 rfl) (by decide) (fun h5 => ?_) (fun h5 => ?_)
    · exact e_forget [true, true, true, true, true, true, false] [some (.ref 53), some (.int v1), some (.int v2), some (.int v3), some (.int v4), some (.int v5), none] ⟨rfl, rfl⟩ (ev_lb_X10_sureGoing_61 M K8 hK8 v1 v2 v3 v4 v5)
    · refine e_iload (dt dk_X10_sureGoing 28 rfl) rfl ?_
      refine e_goto 63 (dt dk_X10_sureGoing 29 rfl) (by decide) ?_
      refine e_istore [some (.ref 53), some (.int v1), some (.int v2), some (.int v3), some (.int v5), some (.int v5), some (.int s0)] (dt dk_X10_sureGoing 31 rfl) rfl rfl rfl ?_
      refine e_iinc [some (.ref 53), some (.int v1), some (.int v2), some (.int v3), some (.int v5), some (.int (v5 + (-1 : Int32))), some (.int s0)] (dt dk_X10_sureGoing 32 rfl) rfl rfl rfl rfl ?_
      refine e_goto 8 (dt dk_X10_sureGoing 33 rfl) (by decide) ?_
      exact e_forget [true, true, true, true, true, true, false] [some (.ref 53), some (.int v1), some (.int v2), some (.int v3), some (.int v5), some (.int (v5 + (-1 : Int32))), none] ⟨rfl, rfl⟩ (hK8 v1 v2 v3 v5 (v5 + (-1 : Int32)))
def bd_X10_sureGoing_8 (M : Mem)  (K8 : Int32 → Int32 → Int32 → Int32 → Int32 → Option Int32) (v1 : Int32) (v2 : Int32) (v3 : Int32) (v4 : Int32) (v5 : Int32) : Option Int32 :=
  (if v5 < 0 then some v4 else (if v5 = v1 then (lb_X10_sureGoing_38 M K8 v1 v2 v3 v4 v5 (1 : Int32)) else if inb v1 8 then (if (f_X10_has (M 58 (ix v1)) v5) = 0 then (lb_X10_sureGoing_38 M K8 v1 v2 v3 v4 v5 (0 : Int32)) else (lb_X10_sureGoing_38 M K8 v1 v2 v3 v4 v5 (1 : Int32))) else none))
set_option maxRecDepth 20000 in
set_option maxHeartbeats 2000000 in
theorem ev_bd_X10_sureGoing_8 (M : Mem)  (K8 : Int32 → Int32 → Int32 → Int32 → Int32 → Option Int32)  (hK8 : ∀ (v1 : Int32) (v2 : Int32) (v3 : Int32) (v4 : Int32) (v5 : Int32), Ev none (wR M) RX10 cX10_sureGoing (some .int) 2 8 [some (.ref 53), some (.int v1), some (.int v2), some (.int v3), some (.int v4), some (.int v5), none] [] M (K8 v1 v2 v3 v4 v5)) (v1 : Int32) (v2 : Int32) (v3 : Int32) (v4 : Int32) (v5 : Int32) : Ev none (wR M) RX10 cX10_sureGoing (some .int) 2 8 [some (.ref 53), some (.int v1), some (.int v2), some (.int v3), some (.int v4), some (.int v5), none] [] M (bd_X10_sureGoing_8 M K8 v1 v2 v3 v4 v5) := by
  unfold bd_X10_sureGoing_8
  refine e_iload (dt dk_X10_sureGoing 4 rfl) rfl ?_
  refine e_if_lt 71 (dt dk_X10_sureGoing 5 rfl) (by decide) (fun h1 => ?_) (fun h1 => ?_)
  · refine e_iload (dt dk_X10_sureGoing 34 rfl) rfl ?_
    exact e_iret (dt dk_X10_sureGoing 35 rfl) rfl rfl rfl
  · refine e_iload (dt dk_X10_sureGoing 6 rfl) rfl ?_
    refine e_iload_n (dt dk_X10_sureGoing 7 rfl) rfl ?_
    refine e_icmp_eq 33 (dt dk_X10_sureGoing 8 rfl) (by decide) (fun h2 => ?_) (fun h2 => ?_)
    · refine e_iconst (v := (1 : Int32)) (dt dk_X10_sureGoing 16 rfl) (by decide) ?_
      refine e_goto 38 (dt dk_X10_sureGoing 17 rfl) (by decide) ?_
      exact e_forget [true, true, true, true, true, true, false] [some (.ref 53), some (.int v1), some (.int v2), some (.int v3), some (.int v4), some (.int v5), none] ⟨rfl, rfl⟩ (ev_lb_X10_sureGoing_38 M K8 hK8 v1 v2 v3 v4 v5 (1 : Int32))
    · refine e_aload_n (dt dk_X10_sureGoing 9 rfl) rfl ?_
      refine e_getR ci_X10 (dt dk_X10_sureGoing 10 rfl) rfl (by decide) rfl fl_X10_22 ?_
      refine e_iload_n (dt dk_X10_sureGoing 11 rfl) rfl ?_
      refine e_if (fun h6 => ?_)
      refine e_iald' (v := (M 58 (ix v1))) (dt dk_X10_sureGoing 12 rfl) rfl h6 rfl ?_
      refine e_iload (dt dk_X10_sureGoing 13 rfl) rfl ?_
      refine ev_callT (ca_S ms_X10_has (sp_X10_has (M 58 (ix v1)) v5 M) (dt dk_X10_sureGoing 14 rfl) ml_X10_149 rfl rfl rfl (by decide) : Ca _ _ _ _ _ _ _ _ [] _ _) ?_
      show Ev _ _ _ _ _ _ 30 [some (.ref 53), some (.int v1), some (.int v2), some (.int v3), some (.int v4), some (.int v5), none] [.int (f_X10_has (M 58 (ix v1)) v5)] M _
      refine e_if_eq 37 (dt dk_X10_sureGoing 15 rfl) (by decide) (fun h7 => ?_) (fun h7 => ?_)
      · refine e_iconst (v := (0 : Int32)) (dt dk_X10_sureGoing 18 rfl) (by decide) ?_
        exact e_forget [true, true, true, true, true, true, false] [some (.ref 53), some (.int v1), some (.int v2), some (.int v3), some (.int v4), some (.int v5), none] ⟨rfl, rfl⟩ (ev_lb_X10_sureGoing_38 M K8 hK8 v1 v2 v3 v4 v5 (0 : Int32))
      · refine e_iconst (v := (1 : Int32)) (dt dk_X10_sureGoing 16 rfl) (by decide) ?_
        refine e_goto 38 (dt dk_X10_sureGoing 17 rfl) (by decide) ?_
        exact e_forget [true, true, true, true, true, true, false] [some (.ref 53), some (.int v1), some (.int v2), some (.int v3), some (.int v4), some (.int v5), none] ⟨rfl, rfl⟩ (ev_lb_X10_sureGoing_38 M K8 hK8 v1 v2 v3 v4 v5 (1 : Int32))
def lp_X10_sureGoing_8 (M : Mem)  : Nat → Int32 → Int32 → Int32 → Int32 → Int32 → Option Int32
  | 0 => fun _ _ _ _ _ => none
  | n + 1 => bd_X10_sureGoing_8 M (lp_X10_sureGoing_8 M n)
theorem ev_lp_X10_sureGoing_8 (M : Mem)   : ∀ (n : Nat), ∀ (v1 : Int32) (v2 : Int32) (v3 : Int32) (v4 : Int32) (v5 : Int32), Ev none (wR M) RX10 cX10_sureGoing (some .int) 2 8 [some (.ref 53), some (.int v1), some (.int v2), some (.int v3), some (.int v4), some (.int v5), none] [] M (lp_X10_sureGoing_8 M n v1 v2 v3 v4 v5)
  | 0 => fun _ _ _ _ _ => e_none
  | n + 1 => ev_bd_X10_sureGoing_8 M (lp_X10_sureGoing_8 M n) (ev_lp_X10_sureGoing_8 M n)
def f_X10_sureGoing (v1 : Int32) (v2 : Int32) (v3 : Int32) (M : Mem) : Option Int32 :=
  (lp_X10_sureGoing_8 M FU v1 v2 v3 (-6 : Int32) (7 : Int32))
set_option maxRecDepth 20000 in
set_option maxHeartbeats 2000000 in
theorem sp_X10_sureGoing (v1 : Int32) (v2 : Int32) (v3 : Int32) (M : Mem) : SpO (wR M) yX10_sureGoing cX10_sureGoing 7 (some .int) 2 [.ref 53, .int v1, .int v2, .int v3] M (f_X10_sureGoing v1 v2 v3 M) := by
  refine sp_of (L := [some (.ref 53), some (.int v1), some (.int v2), some (.int v3), none, none, none]) rfl (by decide +kernel) rfl rfl ?_
  unfold f_X10_sureGoing
  refine e_bipush (v := (-6 : Int32)) (dt dk_X10_sureGoing 0 rfl) (by decide) ?_
  refine e_istore [some (.ref 53), some (.int v1), some (.int v2), some (.int v3), some (.int (-6 : Int32)), none, none] (dt dk_X10_sureGoing 1 rfl) rfl rfl rfl ?_
  refine e_bipush (v := (7 : Int32)) (dt dk_X10_sureGoing 2 rfl) (by decide) ?_
  refine e_istore [some (.ref 53), some (.int v1), some (.int v2), some (.int v3), some (.int (-6 : Int32)), some (.int (7 : Int32)), none] (dt dk_X10_sureGoing 3 rfl) rfl rfl rfl ?_
  exact e_forget [true, true, true, true, true, true, false] [some (.ref 53), some (.int v1), some (.int v2), some (.int v3), some (.int (-6 : Int32)), some (.int (7 : Int32)), none] ⟨rfl, rfl⟩ (ev_lp_X10_sureGoing_8 M FU v1 v2 v3 (-6 : Int32) (7 : Int32))
-- X10_oneGoingMore (W, depth 3)
def bd_X10_oneGoingMore_88  (K88 : Int32 → Int32 → Mem → Option (Int32 × Mem)) (v2 : Int32) (v3 : Int32) (M : Mem) : Option (Int32 × Mem) :=
  (if (64 : Int32) ≤ v3 then (if v2 = 0 ∨ v2 = 1 then some (v2, M) else none) else if inb v3 64 then if inb v3 64 then (K88 v2 (v3 + (1 : Int32)) (up2 M 71 (ix v3) (M 72 (ix v3)))) else none else none)
set_option maxRecDepth 20000 in
set_option maxHeartbeats 2000000 in
theorem ev_bd_X10_oneGoingMore_88  (K88 : Int32 → Int32 → Mem → Option (Int32 × Mem))  (hK88 : ∀ (v2 : Int32) (v3 : Int32) (M : Mem), Ev none wI RX10 cX10_oneGoingMore (some .boolean) 3 88 [some (.ref 53), none, some (.int v2), some (.int v3), none] [] M (K88 v2 v3 M)) (v2 : Int32) (v3 : Int32) (M : Mem) : Ev none wI RX10 cX10_oneGoingMore (some .boolean) 3 88 [some (.ref 53), none, some (.int v2), some (.int v3), none] [] M (bd_X10_oneGoingMore_88 K88 v2 v3 M) := by
  unfold bd_X10_oneGoingMore_88
  refine e_iload_n (dt dk_X10_oneGoingMore 52 rfl) rfl ?_
  refine e_bipush (v := (64 : Int32)) (dt dk_X10_oneGoingMore 53 rfl) (by decide) ?_
  refine e_icmp_ge 112 (dt dk_X10_oneGoingMore 54 rfl) (by decide) (fun h2 => ?_) (fun h2 => ?_)
  · refine e_iload_n (dt dk_X10_oneGoingMore 65 rfl) rfl ?_
    exact e_zret (dt dk_X10_oneGoingMore 66 rfl) rfl rfl
  · refine e_aload_n (dt dk_X10_oneGoingMore 55 rfl) rfl ?_
    refine e_getR ci_X10 (dt dk_X10_oneGoingMore 56 rfl) rfl (by decide) rfl fl_X10_61 ?_
    refine e_iload_n (dt dk_X10_oneGoingMore 57 rfl) rfl ?_
    refine e_aload_n (dt dk_X10_oneGoingMore 58 rfl) rfl ?_
    refine e_getR ci_X10 (dt dk_X10_oneGoingMore 59 rfl) rfl (by decide) rfl fl_X10_64 ?_
    refine e_iload_n (dt dk_X10_oneGoingMore 60 rfl) rfl ?_
    refine e_if (fun h3 => ?_)
    refine e_iald' (v := (M 72 (ix v3))) (dt dk_X10_oneGoingMore 61 rfl) rfl h3 rfl ?_
    refine e_if (fun h4 => ?_)
    refine e_iast' (dt dk_X10_oneGoingMore 62 rfl) rfl h4 ?_
    refine e_iinc [some (.ref 53), none, some (.int v2), some (.int (v3 + (1 : Int32))), none] (dt dk_X10_oneGoingMore 63 rfl) rfl rfl rfl rfl ?_
    refine e_goto 88 (dt dk_X10_oneGoingMore 64 rfl) (by decide) ?_
    exact e_forget [true, false, true, true, false] [some (.ref 53), none, some (.int v2), some (.int (v3 + (1 : Int32))), none] ⟨rfl, rfl⟩ (hK88 v2 (v3 + (1 : Int32)) (up2 M 71 (ix v3) (M 72 (ix v3))))
def lp_X10_oneGoingMore_88  : Nat → Int32 → Int32 → Mem → Option (Int32 × Mem)
  | 0 => fun _ _ _ => none
  | n + 1 => bd_X10_oneGoingMore_88 (lp_X10_oneGoingMore_88 n)
theorem ev_lp_X10_oneGoingMore_88   : ∀ (n : Nat), ∀ (v2 : Int32) (v3 : Int32) (M : Mem), Ev none wI RX10 cX10_oneGoingMore (some .boolean) 3 88 [some (.ref 53), none, some (.int v2), some (.int v3), none] [] M (lp_X10_oneGoingMore_88 n v2 v3 M)
  | 0 => fun _ _ _ => e_none
  | n + 1 => ev_bd_X10_oneGoingMore_88 (lp_X10_oneGoingMore_88 n) (ev_lp_X10_oneGoingMore_88 n)
def lb_X10_oneGoingMore_64 (K4 : Int32 → Int32 → Int32 → Mem → Option (Int32 × Mem)) (v1 : Int32) (v2 : Int32) (v3 : Int32) (v4 : Int32) (s0 : Int32) (s1 : Int32) (M : Mem) : Option (Int32 × Mem) :=
  if inb s1 64 then (if v2 = 0 then (if v4 = 0 then (K4 v1 (0 : Int32) (v3 + (1 : Int32)) (up2 M 72 (ix s1) s0)) else (K4 v1 (1 : Int32) (v3 + (1 : Int32)) (up2 M 72 (ix s1) s0))) else (K4 v1 (1 : Int32) (v3 + (1 : Int32)) (up2 M 72 (ix s1) s0))) else none
set_option maxRecDepth 20000 in
set_option maxHeartbeats 2000000 in
theorem ev_lb_X10_oneGoingMore_64 (K4 : Int32 → Int32 → Int32 → Mem → Option (Int32 × Mem)) (hK4 : ∀ (v1 : Int32) (v2 : Int32) (v3 : Int32) (M : Mem), Ev none wI RX10 cX10_oneGoingMore (some .boolean) 3 4 [some (.ref 53), some (.int v1), some (.int v2), some (.int v3), none] [] M (K4 v1 v2 v3 M)) (v1 : Int32) (v2 : Int32) (v3 : Int32) (v4 : Int32) (s0 : Int32) (s1 : Int32) (M : Mem) : Ev none wI RX10 cX10_oneGoingMore (some .boolean) 3 64 [some (.ref 53), some (.int v1), some (.int v2), some (.int v3), some (.int v4)] [.int s0, .int s1, .ref 72] M (lb_X10_oneGoingMore_64 K4 v1 v2 v3 v4 s0 s1 M) := by
  unfold lb_X10_oneGoingMore_64
  refine e_if (fun h9 => ?_)
  refine e_iast' (dt dk_X10_oneGoingMore 39 rfl) rfl h9 ?_
  refine e_iload_n (dt dk_X10_oneGoingMore 40 rfl) rfl ?_
  refine e_if_ne 74 (dt dk_X10_oneGoingMore 41 rfl) (by decide) (fun h10 => ?_) (fun h10 => ?_)
  · refine e_iload (dt dk_X10_oneGoingMore 42 rfl) rfl ?_
    refine e_if_eq 78 (dt dk_X10_oneGoingMore 43 rfl) (by decide) (fun h11 => ?_) (fun h11 => ?_)
    · refine e_iconst (v := (0 : Int32)) (dt dk_X10_oneGoingMore 46 rfl) (by decide) ?_
      refine e_istore_n [some (.ref 53), some (.int v1), some (.int (0 : Int32)), some (.int v3), some (.int v4)] (dt dk_X10_oneGoingMore 47 rfl) rfl rfl rfl ?_
      refine e_iinc [some (.ref 53), some (.int v1), some (.int (0 : Int32)), some (.int (v3 + (1 : Int32))), some (.int v4)] (dt dk_X10_oneGoingMore 48 rfl) rfl rfl rfl rfl ?_
      refine e_goto 4 (dt dk_X10_oneGoingMore 49 rfl) (by decide) ?_
      exact e_forget [true, true, true, true, false] [some (.ref 53), some (.int v1), some (.int (0 : Int32)), some (.int (v3 + (1 : Int32))), none] ⟨rfl, rfl⟩ (hK4 v1 (0 : Int32) (v3 + (1 : Int32)) (up2 M 72 (ix s1) s0))
    · refine e_iconst (v := (1 : Int32)) (dt dk_X10_oneGoingMore 44 rfl) (by decide) ?_
      refine e_goto 79 (dt dk_X10_oneGoingMore 45 rfl) (by decide) ?_
      refine e_istore_n [some (.ref 53), some (.int v1), some (.int (1 : Int32)), some (.int v3), some (.int v4)] (dt dk_X10_oneGoingMore 47 rfl) rfl rfl rfl ?_
      refine e_iinc [some (.ref 53), some (.int v1), some (.int (1 : Int32)), some (.int (v3 + (1 : Int32))), some (.int v4)] (dt dk_X10_oneGoingMore 48 rfl) rfl rfl rfl rfl ?_
      refine e_goto 4 (dt dk_X10_oneGoingMore 49 rfl) (by decide) ?_
      exact e_forget [true, true, true, true, false] [some (.ref 53), some (.int v1), some (.int (1 : Int32)), some (.int (v3 + (1 : Int32))), none] ⟨rfl, rfl⟩ (hK4 v1 (1 : Int32) (v3 + (1 : Int32)) (up2 M 72 (ix s1) s0))
  · refine e_iconst (v := (1 : Int32)) (dt dk_X10_oneGoingMore 44 rfl) (by decide) ?_
    refine e_goto 79 (dt dk_X10_oneGoingMore 45 rfl) (by decide) ?_
    refine e_istore_n [some (.ref 53), some (.int v1), some (.int (1 : Int32)), some (.int v3), some (.int v4)] (dt dk_X10_oneGoingMore 47 rfl) rfl rfl rfl ?_
    refine e_iinc [some (.ref 53), some (.int v1), some (.int (1 : Int32)), some (.int (v3 + (1 : Int32))), some (.int v4)] (dt dk_X10_oneGoingMore 48 rfl) rfl rfl rfl rfl ?_
    refine e_goto 4 (dt dk_X10_oneGoingMore 49 rfl) (by decide) ?_
    exact e_forget [true, true, true, true, false] [some (.ref 53), some (.int v1), some (.int (1 : Int32)), some (.int (v3 + (1 : Int32))), none] ⟨rfl, rfl⟩ (hK4 v1 (1 : Int32) (v3 + (1 : Int32)) (up2 M 72 (ix s1) s0))
def lb_X10_oneGoingMore_42 (K4 : Int32 → Int32 → Int32 → Mem → Option (Int32 × Mem)) (v1 : Int32) (v2 : Int32) (v3 : Int32) (s0 : Int32) (M : Mem) : Option (Int32 × Mem) :=
  (if s0 = 0 then if inb v3 64 then (lb_X10_oneGoingMore_64 K4 v1 v2 v3 s0 (M 71 (ix v3)) v3 M) else none else (lb_X10_oneGoingMore_64 K4 v1 v2 v3 s0 v1 v3 M))
set_option maxRecDepth 20000 in
set_option maxHeartbeats 2000000 in
theorem ev_lb_X10_oneGoingMore_42 (K4 : Int32 → Int32 → Int32 → Mem → Option (Int32 × Mem)) (hK4 : ∀ (v1 : Int32) (v2 : Int32) (v3 : Int32) (M : Mem), Ev none wI RX10 cX10_oneGoingMore (some .boolean) 3 4 [some (.ref 53), some (.int v1), some (.int v2), some (.int v3), none] [] M (K4 v1 v2 v3 M)) (v1 : Int32) (v2 : Int32) (v3 : Int32) (s0 : Int32) (M : Mem) : Ev none wI RX10 cX10_oneGoingMore (some .boolean) 3 42 [some (.ref 53), some (.int v1), some (.int v2), some (.int v3), none] [.int s0] M (lb_X10_oneGoingMore_42 K4 v1 v2 v3 s0 M) := by
  unfold lb_X10_oneGoingMore_42
  refine e_istore [some (.ref 53), some (.int v1), some (.int v2), some (.int v3), some (.int s0)] (dt dk_X10_oneGoingMore 27 rfl) rfl rfl rfl ?_
  refine e_aload_n (dt dk_X10_oneGoingMore 28 rfl) rfl ?_
  refine e_getR ci_X10 (dt dk_X10_oneGoingMore 29 rfl) rfl (by decide) rfl fl_X10_64 ?_
  refine e_iload_n (dt dk_X10_oneGoingMore 30 rfl) rfl ?_
  refine e_iload (dt dk_X10_oneGoingMore 31 rfl) rfl ?_
  refine e_if_eq 58 (dt dk_X10_oneGoingMore 32 rfl) (by decide) (fun h7 => ?_) (fun h7 => ?_)
  · refine e_aload_n (dt dk_X10_oneGoingMore 35 rfl) rfl ?_
    refine e_getR ci_X10 (dt dk_X10_oneGoingMore 36 rfl) rfl (by decide) rfl fl_X10_61 ?_
    refine e_iload_n (dt dk_X10_oneGoingMore 37 rfl) rfl ?_
    refine e_if (fun h8 => ?_)
    refine e_iald' (v := (M 71 (ix v3))) (dt dk_X10_oneGoingMore 38 rfl) rfl h8 rfl ?_
    exact e_forget [true, true, true, true, true] [some (.ref 53), some (.int v1), some (.int v2), some (.int v3), some (.int s0)] ⟨rfl, rfl⟩ (ev_lb_X10_oneGoingMore_64 K4 hK4 v1 v2 v3 s0 (M 71 (ix v3)) v3 M)
  · refine e_iload_n (dt dk_X10_oneGoingMore 33 rfl) rfl ?_
    refine e_goto 64 (dt dk_X10_oneGoingMore 34 rfl) (by decide) ?_
    exact e_forget [true, true, true, true, true] [some (.ref 53), some (.int v1), some (.int v2), some (.int v3), some (.int s0)] ⟨rfl, rfl⟩ (ev_lb_X10_oneGoingMore_64 K4 hK4 v1 v2 v3 s0 v1 v3 M)
def lb_X10_oneGoingMore_41 (K4 : Int32 → Int32 → Int32 → Mem → Option (Int32 × Mem)) (v1 : Int32) (v2 : Int32) (v3 : Int32) (M : Mem) : Option (Int32 × Mem) :=
  (lb_X10_oneGoingMore_42 K4 v1 v2 v3 (0 : Int32) M)
set_option maxRecDepth 20000 in
set_option maxHeartbeats 2000000 in
theorem ev_lb_X10_oneGoingMore_41 (K4 : Int32 → Int32 → Int32 → Mem → Option (Int32 × Mem)) (hK4 : ∀ (v1 : Int32) (v2 : Int32) (v3 : Int32) (M : Mem), Ev none wI RX10 cX10_oneGoingMore (some .boolean) 3 4 [some (.ref 53), some (.int v1), some (.int v2), some (.int v3), none] [] M (K4 v1 v2 v3 M)) (v1 : Int32) (v2 : Int32) (v3 : Int32) (M : Mem) : Ev none wI RX10 cX10_oneGoingMore (some .boolean) 3 41 [some (.ref 53), some (.int v1), some (.int v2), some (.int v3), none] [] M (lb_X10_oneGoingMore_41 K4 v1 v2 v3 M) := by
  unfold lb_X10_oneGoingMore_41
  refine e_iconst (v := (0 : Int32)) (dt dk_X10_oneGoingMore 26 rfl) (by decide) ?_
  exact e_forget [true, true, true, true, false] [some (.ref 53), some (.int v1), some (.int v2), some (.int v3), none] ⟨rfl, rfl⟩ (ev_lb_X10_oneGoingMore_42 K4 hK4 v1 v2 v3 (0 : Int32) M)
def bd_X10_oneGoingMore_4  (K4 : Int32 → Int32 → Int32 → Mem → Option (Int32 × Mem)) (v1 : Int32) (v2 : Int32) (v3 : Int32) (M : Mem) : Option (Int32 × Mem) :=
  (if (64 : Int32) ≤ v3 then (lp_X10_oneGoingMore_88 FU v2 (0 : Int32) M) else if inb v3 64 then (if 0 ≤ (M 71 (ix v3)) then (lb_X10_oneGoingMore_41 K4 v1 v2 v3 M) else ((f_X10_sureGoing (v3 / (8 : Int32)) (remI v3 (8 : Int32)) (v1 - (1 : Int32)) M)).bind fun r12 => (if r12 < 0 then (lb_X10_oneGoingMore_41 K4 v1 v2 v3 M) else (lb_X10_oneGoingMore_42 K4 v1 v2 v3 (1 : Int32) M))) else none)
set_option maxRecDepth 20000 in
set_option maxHeartbeats 2000000 in
theorem ev_bd_X10_oneGoingMore_4  (K4 : Int32 → Int32 → Int32 → Mem → Option (Int32 × Mem))  (hK4 : ∀ (v1 : Int32) (v2 : Int32) (v3 : Int32) (M : Mem), Ev none wI RX10 cX10_oneGoingMore (some .boolean) 3 4 [some (.ref 53), some (.int v1), some (.int v2), some (.int v3), none] [] M (K4 v1 v2 v3 M)) (v1 : Int32) (v2 : Int32) (v3 : Int32) (M : Mem) : Ev none wI RX10 cX10_oneGoingMore (some .boolean) 3 4 [some (.ref 53), some (.int v1), some (.int v2), some (.int v3), none] [] M (bd_X10_oneGoingMore_4 K4 v1 v2 v3 M) := by
  unfold bd_X10_oneGoingMore_4
  refine e_iload_n (dt dk_X10_oneGoingMore 4 rfl) rfl ?_
  refine e_bipush (v := (64 : Int32)) (dt dk_X10_oneGoingMore 5 rfl) (by decide) ?_
  refine e_icmp_ge 86 (dt dk_X10_oneGoingMore 6 rfl) (by decide) (fun h1 => ?_) (fun h1 => ?_)
  · refine e_iconst (v := (0 : Int32)) (dt dk_X10_oneGoingMore 50 rfl) (by decide) ?_
    refine e_istore_n [some (.ref 53), some (.int v1), some (.int v2), some (.int (0 : Int32)), none] (dt dk_X10_oneGoingMore 51 rfl) rfl rfl rfl ?_
    exact e_forget [true, false, true, true, false] [some (.ref 53), none, some (.int v2), some (.int (0 : Int32)), none] ⟨rfl, rfl⟩ (ev_lp_X10_oneGoingMore_88 FU v2 (0 : Int32) M)
  · refine e_aload_n (dt dk_X10_oneGoingMore 7 rfl) rfl ?_
    refine e_getR ci_X10 (dt dk_X10_oneGoingMore 8 rfl) rfl (by decide) rfl fl_X10_61 ?_
    refine e_iload_n (dt dk_X10_oneGoingMore 9 rfl) rfl ?_
    refine e_if (fun h5 => ?_)
    refine e_iald' (v := (M 71 (ix v3))) (dt dk_X10_oneGoingMore 10 rfl) rfl h5 rfl ?_
    refine e_if_ge 41 (dt dk_X10_oneGoingMore 11 rfl) (by decide) (fun h6 => ?_) (fun h6 => ?_)
    · exact e_forget [true, true, true, true, false] [some (.ref 53), some (.int v1), some (.int v2), some (.int v3), none] ⟨rfl, rfl⟩ (ev_lb_X10_oneGoingMore_41 K4 hK4 v1 v2 v3 M)
    · refine e_aload_n (dt dk_X10_oneGoingMore 12 rfl) rfl ?_
      refine e_iload_n (dt dk_X10_oneGoingMore 13 rfl) rfl ?_
      refine e_bipush (v := (8 : Int32)) (dt dk_X10_oneGoingMore 14 rfl) (by decide) ?_
      refine e_idiv' (dt dk_X10_oneGoingMore 15 rfl) (by decide) ?_
      show Ev _ _ _ _ _ _ 24 [some (.ref 53), some (.int v1), some (.int v2), some (.int v3), none] [.int (v3 / (8 : Int32)), .ref 53] M _
      refine e_iload_n (dt dk_X10_oneGoingMore 16 rfl) rfl ?_
      refine e_bipush (v := (8 : Int32)) (dt dk_X10_oneGoingMore 17 rfl) (by decide) ?_
      refine e_irem' (dt dk_X10_oneGoingMore 18 rfl) (by decide) ?_
      show Ev _ _ _ _ _ _ 28 [some (.ref 53), some (.int v1), some (.int v2), some (.int v3), none] [.int (remI v3 (8 : Int32)), .int (v3 / (8 : Int32)), .ref 53] M _
      refine e_iload_n (dt dk_X10_oneGoingMore 19 rfl) rfl ?_
      refine e_iconst (v := (1 : Int32)) (dt dk_X10_oneGoingMore 20 rfl) (by decide) ?_
      refine e_isub (dt dk_X10_oneGoingMore 21 rfl) ?_
      refine ev_call (ca_V (k := 53) mv_X10_sureGoing (sp_X10_sureGoing (v3 / (8 : Int32)) (remI v3 (8 : Int32)) (v1 - (1 : Int32)) M) (dt dk_X10_oneGoingMore 22 rfl) ml_X10_262 rfl rfl rfl rfl rfl (by decide) : Ca _ _ _ _ _ _ _ _ [] _ _) (fun r12 hr12 => ?_)
      show Ev _ _ _ _ _ _ 34 [some (.ref 53), some (.int v1), some (.int v2), some (.int v3), none] [.int r12] M _
      refine e_if_lt 41 (dt dk_X10_oneGoingMore 23 rfl) (by decide) (fun h13 => ?_) (fun h13 => ?_)
      · exact e_forget [true, true, true, true, false] [some (.ref 53), some (.int v1), some (.int v2), some (.int v3), none] ⟨rfl, rfl⟩ (ev_lb_X10_oneGoingMore_41 K4 hK4 v1 v2 v3 M)
      · refine e_iconst (v := (1 : Int32)) (dt dk_X10_oneGoingMore 24 rfl) (by decide) ?_
        refine e_goto 42 (dt dk_X10_oneGoingMore 25 rfl) (by decide) ?_
        exact e_forget [true, true, true, true, false] [some (.ref 53), some (.int v1), some (.int v2), some (.int v3), none] ⟨rfl, rfl⟩ (ev_lb_X10_oneGoingMore_42 K4 hK4 v1 v2 v3 (1 : Int32) M)
def lp_X10_oneGoingMore_4  : Nat → Int32 → Int32 → Int32 → Mem → Option (Int32 × Mem)
  | 0 => fun _ _ _ _ => none
  | n + 1 => bd_X10_oneGoingMore_4 (lp_X10_oneGoingMore_4 n)
theorem ev_lp_X10_oneGoingMore_4   : ∀ (n : Nat), ∀ (v1 : Int32) (v2 : Int32) (v3 : Int32) (M : Mem), Ev none wI RX10 cX10_oneGoingMore (some .boolean) 3 4 [some (.ref 53), some (.int v1), some (.int v2), some (.int v3), none] [] M (lp_X10_oneGoingMore_4 n v1 v2 v3 M)
  | 0 => fun _ _ _ _ => e_none
  | n + 1 => ev_bd_X10_oneGoingMore_4 (lp_X10_oneGoingMore_4 n) (ev_lp_X10_oneGoingMore_4 n)
def f_X10_oneGoingMore (v1 : Int32) (M : Mem) : Option (Int32 × Mem) :=
  (lp_X10_oneGoingMore_4 FU v1 (0 : Int32) (0 : Int32) M)
set_option maxRecDepth 20000 in
set_option maxHeartbeats 2000000 in
theorem sp_X10_oneGoingMore (v1 : Int32) (M : Mem) : SpO wI yX10_oneGoingMore cX10_oneGoingMore 5 (some .boolean) 3 [.ref 53, .int v1] M (f_X10_oneGoingMore v1 M) := by
  refine sp_of (L := [some (.ref 53), some (.int v1), none, none, none]) rfl (by decide +kernel) rfl rfl ?_
  unfold f_X10_oneGoingMore
  refine e_iconst (v := (0 : Int32)) (dt dk_X10_oneGoingMore 0 rfl) (by decide) ?_
  refine e_istore_n [some (.ref 53), some (.int v1), some (.int (0 : Int32)), none, none] (dt dk_X10_oneGoingMore 1 rfl) rfl rfl rfl ?_
  refine e_iconst (v := (0 : Int32)) (dt dk_X10_oneGoingMore 2 rfl) (by decide) ?_
  refine e_istore_n [some (.ref 53), some (.int v1), some (.int (0 : Int32)), some (.int (0 : Int32)), none] (dt dk_X10_oneGoingMore 3 rfl) rfl rfl rfl ?_
  exact e_forget [true, true, true, true, false] [some (.ref 53), some (.int v1), some (.int (0 : Int32)), some (.int (0 : Int32)), none] ⟨rfl, rfl⟩ (ev_lp_X10_oneGoingMore_4 FU v1 (0 : Int32) (0 : Int32) M)
-- X10_chase (W, depth 4)
def bd_X10_chase_77  (K77 : Int32 → Int32 → Int32 → Int32 → Int32 → Mem → Option (Int32 × Mem)) (v1 : Int32) (v2 : Int32) (v3 : Int32) (v4 : Int32) (v5 : Int32) (M : Mem) : Option (Int32 × Mem) :=
  (if v4 = 0 then if inb (((8 : Int32) * v1) + v2) 64 then (if v3 = 0 then some ((M 71 (ix (((8 : Int32) * v1) + v2))), M) else (if (1 : Int32) ≤ (M 71 (ix (((8 : Int32) * v1) + v2))) then ((f_X10_sureGoing v1 v2 ((M 71 (ix (((8 : Int32) * v1) + v2))) - (1 : Int32)) M)).bind fun r9 => some (r9, M) else some ((-6 : Int32), M))) else none else ((f_X10_oneGoingMore v5 M)).bind fun q10 => (K77 v1 v2 v3 q10.1 (v5 + (1 : Int32)) q10.2))
set_option maxRecDepth 20000 in
set_option maxHeartbeats 2000000 in
theorem ev_bd_X10_chase_77  (K77 : Int32 → Int32 → Int32 → Int32 → Int32 → Mem → Option (Int32 × Mem))  (hK77 : ∀ (v1 : Int32) (v2 : Int32) (v3 : Int32) (v4 : Int32) (v5 : Int32) (M : Mem), Ev none wI RX10 cX10_chase (some .int) 4 77 [some (.ref 53), some (.int v1), some (.int v2), some (.int v3), some (.int v4), some (.int v5)] [] M (K77 v1 v2 v3 v4 v5 M)) (v1 : Int32) (v2 : Int32) (v3 : Int32) (v4 : Int32) (v5 : Int32) (M : Mem) : Ev none wI RX10 cX10_chase (some .int) 4 77 [some (.ref 53), some (.int v1), some (.int v2), some (.int v3), some (.int v4), some (.int v5)] [] M (bd_X10_chase_77 K77 v1 v2 v3 v4 v5 M) := by
  unfold bd_X10_chase_77
  refine e_iload (dt dk_X10_chase 41 rfl) rfl ?_
  refine e_if_eq 96 (dt dk_X10_chase 42 rfl) (by decide) (fun h5 => ?_) (fun h5 => ?_)
  · refine e_aload_n (dt dk_X10_chase 49 rfl) rfl ?_
    refine e_getR ci_X10 (dt dk_X10_chase 50 rfl) rfl (by decide) rfl fl_X10_61 ?_
    refine e_bipush (v := (8 : Int32)) (dt dk_X10_chase 51 rfl) (by decide) ?_
    refine e_iload_n (dt dk_X10_chase 52 rfl) rfl ?_
    refine e_imul (dt dk_X10_chase 53 rfl) ?_
    refine e_iload_n (dt dk_X10_chase 54 rfl) rfl ?_
    refine e_iadd (dt dk_X10_chase 55 rfl) ?_
    refine e_if (fun h6 => ?_)
    refine e_iald' (v := (M 71 (ix (((8 : Int32) * v1) + v2)))) (dt dk_X10_chase 56 rfl) rfl h6 rfl ?_
    refine e_istore [some (.ref 53), some (.int v1), some (.int v2), some (.int v3), some (.int v4), some (.int (M 71 (ix (((8 : Int32) * v1) + v2))))] (dt dk_X10_chase 57 rfl) rfl rfl rfl ?_
    refine e_iload_n (dt dk_X10_chase 58 rfl) rfl ?_
    refine e_if_ne 118 (dt dk_X10_chase 59 rfl) (by decide) (fun h7 => ?_) (fun h7 => ?_)
    · refine e_iload (dt dk_X10_chase 60 rfl) rfl ?_
      refine e_goto 139 (dt dk_X10_chase 61 rfl) (by decide) ?_
      exact e_iret (dt dk_X10_chase 74 rfl) rfl rfl rfl
    · refine e_iload (dt dk_X10_chase 62 rfl) rfl ?_
      refine e_iconst (v := (1 : Int32)) (dt dk_X10_chase 63 rfl) (by decide) ?_
      refine e_icmp_ge 129 (dt dk_X10_chase 64 rfl) (by decide) (fun h8 => ?_) (fun h8 => ?_)
      · refine e_aload_n (dt dk_X10_chase 67 rfl) rfl ?_
        refine e_iload_n (dt dk_X10_chase 68 rfl) rfl ?_
        refine e_iload_n (dt dk_X10_chase 69 rfl) rfl ?_
        refine e_iload (dt dk_X10_chase 70 rfl) rfl ?_
        refine e_iconst (v := (1 : Int32)) (dt dk_X10_chase 71 rfl) (by decide) ?_
        refine e_isub (dt dk_X10_chase 72 rfl) ?_
        refine ev_call (ca_V (k := 53) mv_X10_sureGoing (sp_X10_sureGoing v1 v2 ((M 71 (ix (((8 : Int32) * v1) + v2))) - (1 : Int32)) M) (dt dk_X10_chase 73 rfl) ml_X10_262 rfl rfl rfl rfl rfl (by decide) : Ca _ _ _ _ _ _ _ _ [] _ _) (fun r9 hr9 => ?_)
        show Ev _ _ _ _ _ _ 139 [some (.ref 53), some (.int v1), some (.int v2), some (.int v3), some (.int v4), some (.int (M 71 (ix (((8 : Int32) * v1) + v2))))] [.int r9] M _
        exact e_iret (dt dk_X10_chase 74 rfl) rfl rfl rfl
      · refine e_bipush (v := (-6 : Int32)) (dt dk_X10_chase 65 rfl) (by decide) ?_
        refine e_goto 139 (dt dk_X10_chase 66 rfl) (by decide) ?_
        exact e_iret (dt dk_X10_chase 74 rfl) rfl rfl rfl
  · refine e_aload_n (dt dk_X10_chase 43 rfl) rfl ?_
    refine e_iload (dt dk_X10_chase 44 rfl) rfl ?_
    refine ev_call (ca_V (k := 53) mv_X10_oneGoingMore (sp_X10_oneGoingMore v5 M) (dt dk_X10_chase 45 rfl) ml_X10_265 rfl rfl rfl rfl rfl (by decide) : Ca _ _ _ _ _ _ _ _ [] _ _) (fun q10 hq10 => ?_)
    show Ev _ _ _ _ _ _ 88 [some (.ref 53), some (.int v1), some (.int v2), some (.int v3), some (.int v4), some (.int v5)] [.int q10.1] q10.2 _
    refine e_istore [some (.ref 53), some (.int v1), some (.int v2), some (.int v3), some (.int q10.1), some (.int v5)] (dt dk_X10_chase 46 rfl) rfl rfl rfl ?_
    refine e_iinc [some (.ref 53), some (.int v1), some (.int v2), some (.int v3), some (.int q10.1), some (.int (v5 + (1 : Int32)))] (dt dk_X10_chase 47 rfl) rfl rfl rfl rfl ?_
    refine e_goto 77 (dt dk_X10_chase 48 rfl) (by decide) ?_
    exact e_forget [true, true, true, true, true, true] [some (.ref 53), some (.int v1), some (.int v2), some (.int v3), some (.int q10.1), some (.int (v5 + (1 : Int32)))] ⟨rfl, rfl⟩ (hK77 v1 v2 v3 q10.1 (v5 + (1 : Int32)) q10.2)
def lp_X10_chase_77  : Nat → Int32 → Int32 → Int32 → Int32 → Int32 → Mem → Option (Int32 × Mem)
  | 0 => fun _ _ _ _ _ _ => none
  | n + 1 => bd_X10_chase_77 (lp_X10_chase_77 n)
theorem ev_lp_X10_chase_77   : ∀ (n : Nat), ∀ (v1 : Int32) (v2 : Int32) (v3 : Int32) (v4 : Int32) (v5 : Int32) (M : Mem), Ev none wI RX10 cX10_chase (some .int) 4 77 [some (.ref 53), some (.int v1), some (.int v2), some (.int v3), some (.int v4), some (.int v5)] [] M (lp_X10_chase_77 n v1 v2 v3 v4 v5 M)
  | 0 => fun _ _ _ _ _ _ => e_none
  | n + 1 => ev_bd_X10_chase_77 (lp_X10_chase_77 n) (ev_lp_X10_chase_77 n)
def bd_X10_chase_32  (K32 : Int32 → Int32 → Int32 → Int32 → Mem → Option (Int32 × Mem)) (v1 : Int32) (v2 : Int32) (v3 : Int32) (v4 : Int32) (M : Mem) : Option (Int32 × Mem) :=
  (if (64 : Int32) ≤ v4 then (lp_X10_chase_77 FU v1 v2 v3 (1 : Int32) (1 : Int32) M) else (if (v4 / (8 : Int32)) = (remI v4 (8 : Int32)) then if inb v4 64 then (K32 v1 v2 v3 (v4 + (1 : Int32)) (up2 M 71 (ix v4) (0 : Int32))) else none else if inb v4 64 then (K32 v1 v2 v3 (v4 + (1 : Int32)) (up2 M 71 (ix v4) (-6 : Int32))) else none))
set_option maxRecDepth 20000 in
set_option maxHeartbeats 2000000 in
theorem ev_bd_X10_chase_32  (K32 : Int32 → Int32 → Int32 → Int32 → Mem → Option (Int32 × Mem))  (hK32 : ∀ (v1 : Int32) (v2 : Int32) (v3 : Int32) (v4 : Int32) (M : Mem), Ev none wI RX10 cX10_chase (some .int) 4 32 [some (.ref 53), some (.int v1), some (.int v2), some (.int v3), some (.int v4), none] [] M (K32 v1 v2 v3 v4 M)) (v1 : Int32) (v2 : Int32) (v3 : Int32) (v4 : Int32) (M : Mem) : Ev none wI RX10 cX10_chase (some .int) 4 32 [some (.ref 53), some (.int v1), some (.int v2), some (.int v3), some (.int v4), none] [] M (bd_X10_chase_32 K32 v1 v2 v3 v4 M) := by
  unfold bd_X10_chase_32
  refine e_iload (dt dk_X10_chase 18 rfl) rfl ?_
  refine e_bipush (v := (64 : Int32)) (dt dk_X10_chase 19 rfl) (by decide) ?_
  refine e_icmp_ge 71 (dt dk_X10_chase 20 rfl) (by decide) (fun h4 => ?_) (fun h4 => ?_)
  · refine e_iconst (v := (1 : Int32)) (dt dk_X10_chase 37 rfl) (by decide) ?_
    refine e_istore [some (.ref 53), some (.int v1), some (.int v2), some (.int v3), some (.int (1 : Int32)), none] (dt dk_X10_chase 38 rfl) rfl rfl rfl ?_
    refine e_iconst (v := (1 : Int32)) (dt dk_X10_chase 39 rfl) (by decide) ?_
    refine e_istore [some (.ref 53), some (.int v1), some (.int v2), some (.int v3), some (.int (1 : Int32)), some (.int (1 : Int32))] (dt dk_X10_chase 40 rfl) rfl rfl rfl ?_
    exact e_forget [true, true, true, true, true, true] [some (.ref 53), some (.int v1), some (.int v2), some (.int v3), some (.int (1 : Int32)), some (.int (1 : Int32))] ⟨rfl, rfl⟩ (ev_lp_X10_chase_77 FU v1 v2 v3 (1 : Int32) (1 : Int32) M)
  · refine e_aload_n (dt dk_X10_chase 21 rfl) rfl ?_
    refine e_getR ci_X10 (dt dk_X10_chase 22 rfl) rfl (by decide) rfl fl_X10_61 ?_
    refine e_iload (dt dk_X10_chase 23 rfl) rfl ?_
    refine e_iload (dt dk_X10_chase 24 rfl) rfl ?_
    refine e_bipush (v := (8 : Int32)) (dt dk_X10_chase 25 rfl) (by decide) ?_
    refine e_idiv' (dt dk_X10_chase 26 rfl) (by decide) ?_
    show Ev _ _ _ _ _ _ 50 [some (.ref 53), some (.int v1), some (.int v2), some (.int v3), some (.int v4), none] [.int (v4 / (8 : Int32)), .int v4, .ref 71] M _
    refine e_iload (dt dk_X10_chase 27 rfl) rfl ?_
    refine e_bipush (v := (8 : Int32)) (dt dk_X10_chase 28 rfl) (by decide) ?_
    refine e_irem' (dt dk_X10_chase 29 rfl) (by decide) ?_
    show Ev _ _ _ _ _ _ 55 [some (.ref 53), some (.int v1), some (.int v2), some (.int v3), some (.int v4), none] [.int (remI v4 (8 : Int32)), .int (v4 / (8 : Int32)), .int v4, .ref 71] M _
    refine e_icmp_ne 62 (dt dk_X10_chase 30 rfl) (by decide) (fun h11 => ?_) (fun h11 => ?_)
    · refine e_iconst (v := (0 : Int32)) (dt dk_X10_chase 31 rfl) (by decide) ?_
      refine e_goto 64 (dt dk_X10_chase 32 rfl) (by decide) ?_
      refine e_if (fun h13 => ?_)
      refine e_iast' (dt dk_X10_chase 34 rfl) rfl h13 ?_
      refine e_iinc [some (.ref 53), some (.int v1), some (.int v2), some (.int v3), some (.int (v4 + (1 : Int32))), none] (dt dk_X10_chase 35 rfl) rfl rfl rfl rfl ?_
      refine e_goto 32 (dt dk_X10_chase 36 rfl) (by decide) ?_
      exact e_forget [true, true, true, true, true, false] [some (.ref 53), some (.int v1), some (.int v2), some (.int v3), some (.int (v4 + (1 : Int32))), none] ⟨rfl, rfl⟩ (hK32 v1 v2 v3 (v4 + (1 : Int32)) (up2 M 71 (ix v4) (0 : Int32)))
    · refine e_bipush (v := (-6 : Int32)) (dt dk_X10_chase 33 rfl) (by decide) ?_
      refine e_if (fun h12 => ?_)
      refine e_iast' (dt dk_X10_chase 34 rfl) rfl h12 ?_
      refine e_iinc [some (.ref 53), some (.int v1), some (.int v2), some (.int v3), some (.int (v4 + (1 : Int32))), none] (dt dk_X10_chase 35 rfl) rfl rfl rfl rfl ?_
      refine e_goto 32 (dt dk_X10_chase 36 rfl) (by decide) ?_
      exact e_forget [true, true, true, true, true, false] [some (.ref 53), some (.int v1), some (.int v2), some (.int v3), some (.int (v4 + (1 : Int32))), none] ⟨rfl, rfl⟩ (hK32 v1 v2 v3 (v4 + (1 : Int32)) (up2 M 71 (ix v4) (-6 : Int32)))
def lp_X10_chase_32  : Nat → Int32 → Int32 → Int32 → Int32 → Mem → Option (Int32 × Mem)
  | 0 => fun _ _ _ _ _ => none
  | n + 1 => bd_X10_chase_32 (lp_X10_chase_32 n)
theorem ev_lp_X10_chase_32   : ∀ (n : Nat), ∀ (v1 : Int32) (v2 : Int32) (v3 : Int32) (v4 : Int32) (M : Mem), Ev none wI RX10 cX10_chase (some .int) 4 32 [some (.ref 53), some (.int v1), some (.int v2), some (.int v3), some (.int v4), none] [] M (lp_X10_chase_32 n v1 v2 v3 v4 M)
  | 0 => fun _ _ _ _ _ => e_none
  | n + 1 => ev_bd_X10_chase_32 (lp_X10_chase_32 n) (ev_lp_X10_chase_32 n)
def f_X10_chase (v1 : Int32) (v2 : Int32) (v3 : Int32) (M : Mem) : Option (Int32 × Mem) :=
  (if (f_X10_isHouse v1) = 0 then some ((-1 : Int32), M) else (if (f_X10_isHouse v2) = 0 then some ((-1 : Int32), M) else (if (f_X10_in (Int32.toInt64 v3) (0 : Int64) (1 : Int64)) = 0 then some ((-2 : Int32), M) else (lp_X10_chase_32 FU v1 v2 v3 (0 : Int32) M))))
set_option maxRecDepth 20000 in
set_option maxHeartbeats 2000000 in
theorem sp_X10_chase (v1 : Int32) (v2 : Int32) (v3 : Int32) (M : Mem) : SpO wI yX10_chase cX10_chase 6 (some .int) 4 [.ref 53, .int v1, .int v2, .int v3] M (f_X10_chase v1 v2 v3 M) := by
  refine sp_of (L := [some (.ref 53), some (.int v1), some (.int v2), some (.int v3), none, none]) rfl (by decide +kernel) rfl rfl ?_
  unfold f_X10_chase
  refine e_iload_n (dt dk_X10_chase 0 rfl) rfl ?_
  refine ev_callT (ca_S ms_X10_isHouse (sp_X10_isHouse v1 M) (dt dk_X10_chase 1 rfl) ml_X10_84 rfl rfl rfl (by decide) : Ca _ _ _ _ _ _ _ _ [] _ _) ?_
  show Ev _ _ _ _ _ _ 4 [some (.ref 53), some (.int v1), some (.int v2), some (.int v3), none, none] [.int (f_X10_isHouse v1)] M _
  refine e_if_eq 14 (dt dk_X10_chase 2 rfl) (by decide) (fun h1 => ?_) (fun h1 => ?_)
  · refine e_iconst (v := (-1 : Int32)) (dt dk_X10_chase 6 rfl) (by decide) ?_
    exact e_iret (dt dk_X10_chase 7 rfl) rfl rfl rfl
  · refine e_iload_n (dt dk_X10_chase 3 rfl) rfl ?_
    refine ev_callT (ca_S ms_X10_isHouse (sp_X10_isHouse v2 M) (dt dk_X10_chase 4 rfl) ml_X10_84 rfl rfl rfl (by decide) : Ca _ _ _ _ _ _ _ _ [] _ _) ?_
    show Ev _ _ _ _ _ _ 11 [some (.ref 53), some (.int v1), some (.int v2), some (.int v3), none, none] [.int (f_X10_isHouse v2)] M _
    refine e_if_ne 16 (dt dk_X10_chase 5 rfl) (by decide) (fun h2 => ?_) (fun h2 => ?_)
    · refine e_iconst (v := (-1 : Int32)) (dt dk_X10_chase 6 rfl) (by decide) ?_
      exact e_iret (dt dk_X10_chase 7 rfl) rfl rfl rfl
    · refine e_iload_n (dt dk_X10_chase 8 rfl) rfl ?_
      refine e_i2l (dt dk_X10_chase 9 rfl) ?_
      refine e_lconst (v := (0 : Int64)) (dt dk_X10_chase 10 rfl) (by decide) ?_
      refine e_lconst (v := (1 : Int64)) (dt dk_X10_chase 11 rfl) (by decide) ?_
      refine ev_callT (ca_S ms_X10_in (sp_X10_in (Int32.toInt64 v3) (0 : Int64) (1 : Int64) M) (dt dk_X10_chase 12 rfl) ml_X10_80 rfl rfl rfl (by decide) : Ca _ _ _ _ _ _ _ _ [] _ _) ?_
      show Ev _ _ _ _ _ _ 23 [some (.ref 53), some (.int v1), some (.int v2), some (.int v3), none, none] [.int (f_X10_in (Int32.toInt64 v3) (0 : Int64) (1 : Int64))] M _
      refine e_if_ne 29 (dt dk_X10_chase 13 rfl) (by decide) (fun h3 => ?_) (fun h3 => ?_)
      · refine e_bipush (v := (-2 : Int32)) (dt dk_X10_chase 14 rfl) (by decide) ?_
        exact e_iret (dt dk_X10_chase 15 rfl) rfl rfl rfl
      · refine e_iconst (v := (0 : Int32)) (dt dk_X10_chase 16 rfl) (by decide) ?_
        refine e_istore [some (.ref 53), some (.int v1), some (.int v2), some (.int v3), some (.int (0 : Int32)), none] (dt dk_X10_chase 17 rfl) rfl rfl rfl ?_
        exact e_forget [true, true, true, true, true, false] [some (.ref 53), some (.int v1), some (.int v2), some (.int v3), some (.int (0 : Int32)), none] ⟨rfl, rfl⟩ (ev_lp_X10_chase_32 FU v1 v2 v3 (0 : Int32) M)
-- X10_power (R, depth 0)
def bd_X10_power_5  (K5 : Int64 → Int32 → Int64 → Int32 → Option Int64) (v0 : Int64) (v2 : Int32) (v3 : Int64) (v5 : Int32) : Option Int64 :=
  (if v2 ≤ v5 then some v3 else (K5 v0 v2 (v3 * v0) (v5 + (1 : Int32))))
set_option maxRecDepth 20000 in
set_option maxHeartbeats 2000000 in
theorem ev_bd_X10_power_5 (M : Mem)  (K5 : Int64 → Int32 → Int64 → Int32 → Option Int64)  (hK5 : ∀ (v0 : Int64) (v2 : Int32) (v3 : Int64) (v5 : Int32), Ev none (wL M) RX10 cX10_power (some .long) 0 5 [some (.long v0), none, some (.int v2), some (.long v3), none, some (.int v5)] [] M (K5 v0 v2 v3 v5)) (v0 : Int64) (v2 : Int32) (v3 : Int64) (v5 : Int32) : Ev none (wL M) RX10 cX10_power (some .long) 0 5 [some (.long v0), none, some (.int v2), some (.long v3), none, some (.int v5)] [] M (bd_X10_power_5 K5 v0 v2 v3 v5) := by
  unfold bd_X10_power_5
  refine e_iload (dt dk_X10_power 4 rfl) rfl ?_
  refine e_iload_n (dt dk_X10_power 5 rfl) rfl ?_
  refine e_icmp_ge 21 (dt dk_X10_power 6 rfl) (by decide) (fun h1 => ?_) (fun h1 => ?_)
  · refine e_lload_n (dt dk_X10_power 13 rfl) rfl ?_
    exact e_lret (dt dk_X10_power 14 rfl) rfl rfl
  · refine e_lload_n (dt dk_X10_power 7 rfl) rfl ?_
    refine e_lload_n (dt dk_X10_power 8 rfl) rfl ?_
    refine e_lmul (dt dk_X10_power 9 rfl) ?_
    refine e_lstore_n [some (.long v0), none, some (.int v2), some (.long (v3 * v0)), none, some (.int v5)] (dt dk_X10_power 10 rfl) rfl rfl rfl ?_
    refine e_iinc [some (.long v0), none, some (.int v2), some (.long (v3 * v0)), none, some (.int (v5 + (1 : Int32)))] (dt dk_X10_power 11 rfl) rfl rfl rfl rfl ?_
    refine e_goto 5 (dt dk_X10_power 12 rfl) (by decide) ?_
    exact e_forget [true, false, true, true, false, true] [some (.long v0), none, some (.int v2), some (.long (v3 * v0)), none, some (.int (v5 + (1 : Int32)))] ⟨rfl, rfl⟩ (hK5 v0 v2 (v3 * v0) (v5 + (1 : Int32)))
def lp_X10_power_5  : Nat → Int64 → Int32 → Int64 → Int32 → Option Int64
  | 0 => fun _ _ _ _ => none
  | n + 1 => bd_X10_power_5 (lp_X10_power_5 n)
theorem ev_lp_X10_power_5 (M : Mem)   : ∀ (n : Nat), ∀ (v0 : Int64) (v2 : Int32) (v3 : Int64) (v5 : Int32), Ev none (wL M) RX10 cX10_power (some .long) 0 5 [some (.long v0), none, some (.int v2), some (.long v3), none, some (.int v5)] [] M (lp_X10_power_5 n v0 v2 v3 v5)
  | 0 => fun _ _ _ _ => e_none
  | n + 1 => ev_bd_X10_power_5 M (lp_X10_power_5 n) (ev_lp_X10_power_5 M n)
def f_X10_power (v0 : Int64) (v2 : Int32) : Option Int64 :=
  (lp_X10_power_5 FU v0 v2 (1 : Int64) (0 : Int32))
set_option maxRecDepth 20000 in
set_option maxHeartbeats 2000000 in
theorem sp_X10_power (v0 : Int64) (v2 : Int32) (M : Mem) : SpO (wL M) yX10_power cX10_power 6 (some .long) 0 [.long v0, .int v2] M (f_X10_power v0 v2) := by
  refine sp_of (L := [some (.long v0), none, some (.int v2), none, none, none]) rfl (by decide +kernel) rfl rfl ?_
  unfold f_X10_power
  refine e_lconst (v := (1 : Int64)) (dt dk_X10_power 0 rfl) (by decide) ?_
  refine e_lstore_n [some (.long v0), none, some (.int v2), some (.long (1 : Int64)), none, none] (dt dk_X10_power 1 rfl) rfl rfl rfl ?_
  refine e_iconst (v := (0 : Int32)) (dt dk_X10_power 2 rfl) (by decide) ?_
  refine e_istore [some (.long v0), none, some (.int v2), some (.long (1 : Int64)), none, some (.int (0 : Int32))] (dt dk_X10_power 3 rfl) rfl rfl rfl ?_
  exact e_forget [true, false, true, true, false, true] [some (.long v0), none, some (.int v2), some (.long (1 : Int64)), none, some (.int (0 : Int32))] ⟨rfl, rfl⟩ (ev_lp_X10_power_5 M FU v0 v2 (1 : Int64) (0 : Int32))
-- X10_size (T, depth 0)
def fo_X10_size (v0 : Int64) : Option Int64 :=
  (if 0 ≤ (lg_cmp v0 (0 : Int64)) then some v0 else some (-v0))
def f_X10_size (v0 : Int64) : Int64 :=
  (if 0 ≤ (lg_cmp v0 (0 : Int64)) then v0 else (-v0))
theorem fe_X10_size (v0 : Int64) : fo_X10_size v0 = some (f_X10_size v0) := by
  unfold fo_X10_size f_X10_size
  simp only [apply_ite some]
set_option maxRecDepth 20000 in
set_option maxHeartbeats 2000000 in
theorem sp_X10_size (v0 : Int64) (M : Mem) : SpO (wL M) yX10_size cX10_size 2 (some .long) 0 [.long v0] M (some (f_X10_size v0)) := by
  rw [← fe_X10_size]
  refine sp_of (L := [some (.long v0), none]) rfl (by decide +kernel) rfl rfl ?_
  unfold fo_X10_size
  refine e_lload_n (dt dk_X10_size 0 rfl) rfl ?_
  refine e_lconst (v := (0 : Int64)) (dt dk_X10_size 1 rfl) (by decide) ?_
  refine e_lcmp (dt dk_X10_size 2 rfl) ?_
  refine e_if_ge 11 (dt dk_X10_size 3 rfl) (by decide) (fun h1 => ?_) (fun h1 => ?_)
  · refine e_lload_n (dt dk_X10_size 7 rfl) rfl ?_
    exact e_lret (dt dk_X10_size 8 rfl) rfl rfl
  · refine e_lload_n (dt dk_X10_size 4 rfl) rfl ?_
    refine e_lneg (dt dk_X10_size 5 rfl) ?_
    refine e_goto 12 (dt dk_X10_size 6 rfl) (by decide) ?_
    exact e_lret (dt dk_X10_size 8 rfl) rfl rfl
-- X10_lowest (R, depth 0)
def bd_X10_lowest_6  (K6 : Int64 → Int64 → Int32 → Int64 → Int64 → Option Int64) (v0 : Int64) (v2 : Int64) (v4 : Int32) (v5 : Int64) (v7 : Int64) : Option Int64 :=
  (if (lg_cmp v7 (0 : Int64)) = 0 then (if v4 = 0 then if v5 = 0 then none else some (v0 / v5) else if v5 = 0 then none else some (v2 / v5)) else if v7 = 0 then none else (K6 v0 v2 v4 v7 (remL v5 v7)))
set_option maxRecDepth 20000 in
set_option maxHeartbeats 2000000 in
theorem ev_bd_X10_lowest_6 (M : Mem)  (K6 : Int64 → Int64 → Int32 → Int64 → Int64 → Option Int64)  (hK6 : ∀ (v0 : Int64) (v2 : Int64) (v4 : Int32) (v5 : Int64) (v7 : Int64), Ev none (wL M) RX10 cX10_lowest (some .long) 0 6 [some (.long v0), none, some (.long v2), none, some (.int v4), some (.long v5), none, some (.long v7), none, none, none] [] M (K6 v0 v2 v4 v5 v7)) (v0 : Int64) (v2 : Int64) (v4 : Int32) (v5 : Int64) (v7 : Int64) : Ev none (wL M) RX10 cX10_lowest (some .long) 0 6 [some (.long v0), none, some (.long v2), none, some (.int v4), some (.long v5), none, some (.long v7), none, none, none] [] M (bd_X10_lowest_6 K6 v0 v2 v4 v5 v7) := by
  unfold bd_X10_lowest_6
  refine e_lload (dt dk_X10_lowest 4 rfl) rfl ?_
  refine e_lconst (v := (0 : Int64)) (dt dk_X10_lowest 5 rfl) (by decide) ?_
  refine e_lcmp (dt dk_X10_lowest 6 rfl) ?_
  refine e_if_eq 31 (dt dk_X10_lowest 7 rfl) (by decide) (fun h1 => ?_) (fun h1 => ?_)
  · refine e_iload (dt dk_X10_lowest 17 rfl) rfl ?_
    refine e_if_ne 43 (dt dk_X10_lowest 18 rfl) (by decide) (fun h2 => ?_) (fun h2 => ?_)
    · refine e_lload_n (dt dk_X10_lowest 19 rfl) rfl ?_
      refine e_lload (dt dk_X10_lowest 20 rfl) rfl ?_
      refine e_ldiv (dt dk_X10_lowest 21 rfl) ?_
      show Ev _ _ _ _ _ _ 40 [some (.long v0), none, some (.long v2), none, some (.int v4), some (.long v5), none, some (.long v7), none, none, none] [.long (v0 / v5)] M _
      refine e_goto 47 (dt dk_X10_lowest 22 rfl) (by decide) ?_
      exact e_lret (dt dk_X10_lowest 26 rfl) rfl rfl
    · refine e_lload_n (dt dk_X10_lowest 23 rfl) rfl ?_
      refine e_lload (dt dk_X10_lowest 24 rfl) rfl ?_
      refine e_ldiv (dt dk_X10_lowest 25 rfl) ?_
      show Ev _ _ _ _ _ _ 47 [some (.long v0), none, some (.long v2), none, some (.int v4), some (.long v5), none, some (.long v7), none, none, none] [.long (v2 / v5)] M _
      exact e_lret (dt dk_X10_lowest 26 rfl) rfl rfl
  · refine e_lload (dt dk_X10_lowest 8 rfl) rfl ?_
    refine e_lload (dt dk_X10_lowest 9 rfl) rfl ?_
    refine e_lrem (dt dk_X10_lowest 10 rfl) ?_
    show Ev _ _ _ _ _ _ 18 [some (.long v0), none, some (.long v2), none, some (.int v4), some (.long v5), none, some (.long v7), none, none, none] [.long (remL v5 v7)] M _
    refine e_lstore [some (.long v0), none, some (.long v2), none, some (.int v4), some (.long v5), none, some (.long v7), none, some (.long (remL v5 v7)), none] (dt dk_X10_lowest 11 rfl) rfl rfl rfl ?_
    refine e_lload (dt dk_X10_lowest 12 rfl) rfl ?_
    refine e_lstore [some (.long v0), none, some (.long v2), none, some (.int v4), some (.long v7), none, some (.long v7), none, some (.long (remL v5 v7)), none] (dt dk_X10_lowest 13 rfl) rfl rfl rfl ?_
    refine e_lload (dt dk_X10_lowest 14 rfl) rfl ?_
    refine e_lstore [some (.long v0), none, some (.long v2), none, some (.int v4), some (.long v7), none, some (.long (remL v5 v7)), none, some (.long (remL v5 v7)), none] (dt dk_X10_lowest 15 rfl) rfl rfl rfl ?_
    refine e_goto 6 (dt dk_X10_lowest 16 rfl) (by decide) ?_
    exact e_forget [true, false, true, false, true, true, false, true, false, false, false] [some (.long v0), none, some (.long v2), none, some (.int v4), some (.long v7), none, some (.long (remL v5 v7)), none, none, none] ⟨rfl, rfl⟩ (hK6 v0 v2 v4 v7 (remL v5 v7))
def lp_X10_lowest_6  : Nat → Int64 → Int64 → Int32 → Int64 → Int64 → Option Int64
  | 0 => fun _ _ _ _ _ => none
  | n + 1 => bd_X10_lowest_6 (lp_X10_lowest_6 n)
theorem ev_lp_X10_lowest_6 (M : Mem)   : ∀ (n : Nat), ∀ (v0 : Int64) (v2 : Int64) (v4 : Int32) (v5 : Int64) (v7 : Int64), Ev none (wL M) RX10 cX10_lowest (some .long) 0 6 [some (.long v0), none, some (.long v2), none, some (.int v4), some (.long v5), none, some (.long v7), none, none, none] [] M (lp_X10_lowest_6 n v0 v2 v4 v5 v7)
  | 0 => fun _ _ _ _ _ => e_none
  | n + 1 => ev_bd_X10_lowest_6 M (lp_X10_lowest_6 n) (ev_lp_X10_lowest_6 M n)
def f_X10_lowest (v0 : Int64) (v2 : Int64) (v4 : Int32) : Option Int64 :=
  (lp_X10_lowest_6 FU v0 v2 v4 v2 v0)
set_option maxRecDepth 20000 in
set_option maxHeartbeats 2000000 in
theorem sp_X10_lowest (v0 : Int64) (v2 : Int64) (v4 : Int32) (M : Mem) : SpO (wL M) yX10_lowest cX10_lowest 11 (some .long) 0 [.long v0, .long v2, .int v4] M (f_X10_lowest v0 v2 v4) := by
  refine sp_of (L := [some (.long v0), none, some (.long v2), none, some (.int v4), none, none, none, none, none, none]) rfl (by decide +kernel) rfl rfl ?_
  unfold f_X10_lowest
  refine e_lload_n (dt dk_X10_lowest 0 rfl) rfl ?_
  refine e_lstore [some (.long v0), none, some (.long v2), none, some (.int v4), some (.long v2), none, none, none, none, none] (dt dk_X10_lowest 1 rfl) rfl rfl rfl ?_
  refine e_lload_n (dt dk_X10_lowest 2 rfl) rfl ?_
  refine e_lstore [some (.long v0), none, some (.long v2), none, some (.int v4), some (.long v2), none, some (.long v0), none, none, none] (dt dk_X10_lowest 3 rfl) rfl rfl rfl ?_
  exact e_forget [true, false, true, false, true, true, false, true, false, false, false] [some (.long v0), none, some (.long v2), none, some (.int v4), some (.long v2), none, some (.long v0), none, none, none] ⟨rfl, rfl⟩ (ev_lp_X10_lowest_6 M FU v0 v2 v4 v2 v0)
-- X10_ever (R, depth 1)
def f_X10_ever (v1 : Int32) (v2 : Int32) (v3 : Int32) (v4 : Int32) : Option Int64 :=
  (if (f_X10_in (Int32.toInt64 v1) (1 : Int64) (16 : Int64)) = 0 then some (-1000000000000000002 : Int64) else (if (f_X10_in (Int32.toInt64 v2) (0 : Int64) (Int32.toInt64 v1)) = 0 then some (-1000000000000000002 : Int64) else (if (f_X10_in (Int32.toInt64 v3) (1 : Int64) (9 : Int64)) = 0 then some (-1000000000000000002 : Int64) else (if (f_X10_in (Int32.toInt64 v4) (0 : Int64) (1 : Int64)) = 0 then some (-1000000000000000002 : Int64) else (if v3 = (5 : Int32) then ((f_X10_lowest (Int32.toInt64 (v1 - v2)) (Int32.toInt64 v1) v4)).bind fun r12 => some r12 else ((f_X10_power ((10 : Int64) - (Int32.toInt64 v3)) v2)).bind fun r6 => ((f_X10_power (Int32.toInt64 v3) (v1 - v2))).bind fun r7 => ((f_X10_power ((10 : Int64) - (Int32.toInt64 v3)) v1)).bind fun r8 => ((f_X10_power (Int32.toInt64 v3) v1)).bind fun r9 => ((f_X10_power ((10 : Int64) - (Int32.toInt64 v3)) v1)).bind fun r10 => ((f_X10_lowest (f_X10_size ((r6 * r7) - r8)) (f_X10_size (r9 - r10)) v4)).bind fun r11 => some r11)))))
set_option maxRecDepth 20000 in
set_option maxHeartbeats 2000000 in
theorem sp_X10_ever (v1 : Int32) (v2 : Int32) (v3 : Int32) (v4 : Int32) (M : Mem) : SpO (wL M) yX10_ever cX10_ever 11 (some .long) 1 [.ref 53, .int v1, .int v2, .int v3, .int v4] M (f_X10_ever v1 v2 v3 v4) := by
  refine sp_of (L := [some (.ref 53), some (.int v1), some (.int v2), some (.int v3), some (.int v4), none, none, none, none, none, none]) rfl (by decide +kernel) rfl rfl ?_
  unfold f_X10_ever
  refine e_iload_n (dt dk_X10_ever 0 rfl) rfl ?_
  refine e_i2l (dt dk_X10_ever 1 rfl) ?_
  refine e_lconst (v := (1 : Int64)) (dt dk_X10_ever 2 rfl) (by decide) ?_
  refine e_ldc2 (v := (16 : Int64)) (dt dk_X10_ever 3 rfl) kl_X10_268 ?_
  refine ev_callT (ca_S ms_X10_in (sp_X10_in (Int32.toInt64 v1) (1 : Int64) (16 : Int64) M) (dt dk_X10_ever 4 rfl) ml_X10_80 rfl rfl rfl (by decide) : Ca _ _ _ _ _ _ _ _ [] _ _) ?_
  show Ev _ _ _ _ _ _ 9 [some (.ref 53), some (.int v1), some (.int v2), some (.int v3), some (.int v4), none, none, none, none, none, none] [.int (f_X10_in (Int32.toInt64 v1) (1 : Int64) (16 : Int64))] M _
  refine e_if_eq 46 (dt dk_X10_ever 5 rfl) (by decide) (fun h1 => ?_) (fun h1 => ?_)
  · refine e_ldc2 (v := (-1000000000000000002 : Int64)) (dt dk_X10_ever 25 rfl) kl_X10_270 ?_
    exact e_lret (dt dk_X10_ever 26 rfl) rfl rfl
  · refine e_iload_n (dt dk_X10_ever 6 rfl) rfl ?_
    refine e_i2l (dt dk_X10_ever 7 rfl) ?_
    refine e_lconst (v := (0 : Int64)) (dt dk_X10_ever 8 rfl) (by decide) ?_
    refine e_iload_n (dt dk_X10_ever 9 rfl) rfl ?_
    refine e_i2l (dt dk_X10_ever 10 rfl) ?_
    refine ev_callT (ca_S ms_X10_in (sp_X10_in (Int32.toInt64 v2) (0 : Int64) (Int32.toInt64 v1) M) (dt dk_X10_ever 11 rfl) ml_X10_80 rfl rfl rfl (by decide) : Ca _ _ _ _ _ _ _ _ [] _ _) ?_
    show Ev _ _ _ _ _ _ 20 [some (.ref 53), some (.int v1), some (.int v2), some (.int v3), some (.int v4), none, none, none, none, none, none] [.int (f_X10_in (Int32.toInt64 v2) (0 : Int64) (Int32.toInt64 v1))] M _
    refine e_if_eq 46 (dt dk_X10_ever 12 rfl) (by decide) (fun h2 => ?_) (fun h2 => ?_)
    · refine e_ldc2 (v := (-1000000000000000002 : Int64)) (dt dk_X10_ever 25 rfl) kl_X10_270 ?_
      exact e_lret (dt dk_X10_ever 26 rfl) rfl rfl
    · refine e_iload_n (dt dk_X10_ever 13 rfl) rfl ?_
      refine e_i2l (dt dk_X10_ever 14 rfl) ?_
      refine e_lconst (v := (1 : Int64)) (dt dk_X10_ever 15 rfl) (by decide) ?_
      refine e_ldc2 (v := (9 : Int64)) (dt dk_X10_ever 16 rfl) kl_X10_90 ?_
      refine ev_callT (ca_S ms_X10_in (sp_X10_in (Int32.toInt64 v3) (1 : Int64) (9 : Int64) M) (dt dk_X10_ever 17 rfl) ml_X10_80 rfl rfl rfl (by decide) : Ca _ _ _ _ _ _ _ _ [] _ _) ?_
      show Ev _ _ _ _ _ _ 32 [some (.ref 53), some (.int v1), some (.int v2), some (.int v3), some (.int v4), none, none, none, none, none, none] [.int (f_X10_in (Int32.toInt64 v3) (1 : Int64) (9 : Int64))] M _
      refine e_if_eq 46 (dt dk_X10_ever 18 rfl) (by decide) (fun h3 => ?_) (fun h3 => ?_)
      · refine e_ldc2 (v := (-1000000000000000002 : Int64)) (dt dk_X10_ever 25 rfl) kl_X10_270 ?_
        exact e_lret (dt dk_X10_ever 26 rfl) rfl rfl
      · refine e_iload (dt dk_X10_ever 19 rfl) rfl ?_
        refine e_i2l (dt dk_X10_ever 20 rfl) ?_
        refine e_lconst (v := (0 : Int64)) (dt dk_X10_ever 21 rfl) (by decide) ?_
        refine e_lconst (v := (1 : Int64)) (dt dk_X10_ever 22 rfl) (by decide) ?_
        refine ev_callT (ca_S ms_X10_in (sp_X10_in (Int32.toInt64 v4) (0 : Int64) (1 : Int64) M) (dt dk_X10_ever 23 rfl) ml_X10_80 rfl rfl rfl (by decide) : Ca _ _ _ _ _ _ _ _ [] _ _) ?_
        show Ev _ _ _ _ _ _ 43 [some (.ref 53), some (.int v1), some (.int v2), some (.int v3), some (.int v4), none, none, none, none, none, none] [.int (f_X10_in (Int32.toInt64 v4) (0 : Int64) (1 : Int64))] M _
        refine e_if_ne 50 (dt dk_X10_ever 24 rfl) (by decide) (fun h4 => ?_) (fun h4 => ?_)
        · refine e_ldc2 (v := (-1000000000000000002 : Int64)) (dt dk_X10_ever 25 rfl) kl_X10_270 ?_
          exact e_lret (dt dk_X10_ever 26 rfl) rfl rfl
        · refine e_iload_n (dt dk_X10_ever 27 rfl) rfl ?_
          refine e_iconst (v := (5 : Int32)) (dt dk_X10_ever 28 rfl) (by decide) ?_
          refine e_icmp_ne 67 (dt dk_X10_ever 29 rfl) (by decide) (fun h5 => ?_) (fun h5 => ?_)
          · refine e_iload_n (dt dk_X10_ever 30 rfl) rfl ?_
            refine e_iload_n (dt dk_X10_ever 31 rfl) rfl ?_
            refine e_isub (dt dk_X10_ever 32 rfl) ?_
            refine e_i2l (dt dk_X10_ever 33 rfl) ?_
            refine e_iload_n (dt dk_X10_ever 34 rfl) rfl ?_
            refine e_i2l (dt dk_X10_ever 35 rfl) ?_
            refine e_iload (dt dk_X10_ever 36 rfl) rfl ?_
            refine ev_call (ca_S ms_X10_lowest (sp_X10_lowest (Int32.toInt64 (v1 - v2)) (Int32.toInt64 v1) v4 M) (dt dk_X10_ever 37 rfl) ml_X10_272 rfl rfl rfl (by decide) : Ca _ _ _ _ _ _ _ _ [] _ _) (fun r12 hr12 => ?_)
            show Ev _ _ _ _ _ _ 66 [some (.ref 53), some (.int v1), some (.int v2), some (.int v3), some (.int v4), none, none, none, none, none, none] [.long r12] M _
            exact e_lret (dt dk_X10_ever 38 rfl) rfl rfl
          · refine e_ldc2 (v := (10 : Int64)) (dt dk_X10_ever 39 rfl) kl_X10_276 ?_
            refine e_iload_n (dt dk_X10_ever 40 rfl) rfl ?_
            refine e_i2l (dt dk_X10_ever 41 rfl) ?_
            refine e_lsub (dt dk_X10_ever 42 rfl) ?_
            refine e_lstore [some (.ref 53), some (.int v1), some (.int v2), some (.int v3), some (.int v4), some (.long ((10 : Int64) - (Int32.toInt64 v3))), none, none, none, none, none] (dt dk_X10_ever 43 rfl) rfl rfl rfl ?_
            refine e_lload (dt dk_X10_ever 44 rfl) rfl ?_
            refine e_iload_n (dt dk_X10_ever 45 rfl) rfl ?_
            refine ev_call (ca_S ms_X10_power (sp_X10_power ((10 : Int64) - (Int32.toInt64 v3)) v2 M) (dt dk_X10_ever 46 rfl) ml_X10_278 rfl rfl rfl (by decide) : Ca _ _ _ _ _ _ _ _ [] _ _) (fun r6 hr6 => ?_)
            show Ev _ _ _ _ _ _ 81 [some (.ref 53), some (.int v1), some (.int v2), some (.int v3), some (.int v4), some (.long ((10 : Int64) - (Int32.toInt64 v3))), none, none, none, none, none] [.long r6] M _
            refine e_iload_n (dt dk_X10_ever 47 rfl) rfl ?_
            refine e_i2l (dt dk_X10_ever 48 rfl) ?_
            refine e_iload_n (dt dk_X10_ever 49 rfl) rfl ?_
            refine e_iload_n (dt dk_X10_ever 50 rfl) rfl ?_
            refine e_isub (dt dk_X10_ever 51 rfl) ?_
            refine ev_call (ca_S ms_X10_power (sp_X10_power (Int32.toInt64 v3) (v1 - v2) M) (dt dk_X10_ever 52 rfl) ml_X10_278 rfl rfl rfl (by decide) : Ca _ _ _ _ _ _ _ _ [.long r6] _ _) (fun r7 hr7 => ?_)
            show Ev _ _ _ _ _ _ 89 [some (.ref 53), some (.int v1), some (.int v2), some (.int v3), some (.int v4), some (.long ((10 : Int64) - (Int32.toInt64 v3))), none, none, none, none, none] [.long r7, .long r6] M _
            refine e_lmul (dt dk_X10_ever 53 rfl) ?_
            refine e_lload (dt dk_X10_ever 54 rfl) rfl ?_
            refine e_iload_n (dt dk_X10_ever 55 rfl) rfl ?_
            refine ev_call (ca_S ms_X10_power (sp_X10_power ((10 : Int64) - (Int32.toInt64 v3)) v1 M) (dt dk_X10_ever 56 rfl) ml_X10_278 rfl rfl rfl (by decide) : Ca _ _ _ _ _ _ _ _ [.long (r6 * r7)] _ _) (fun r8 hr8 => ?_)
            show Ev _ _ _ _ _ _ 96 [some (.ref 53), some (.int v1), some (.int v2), some (.int v3), some (.int v4), some (.long ((10 : Int64) - (Int32.toInt64 v3))), none, none, none, none, none] [.long r8, .long (r6 * r7)] M _
            refine e_lsub (dt dk_X10_ever 57 rfl) ?_
            refine e_lstore [some (.ref 53), some (.int v1), some (.int v2), some (.int v3), some (.int v4), some (.long ((10 : Int64) - (Int32.toInt64 v3))), none, some (.long ((r6 * r7) - r8)), none, none, none] (dt dk_X10_ever 58 rfl) rfl rfl rfl ?_
            refine e_iload_n (dt dk_X10_ever 59 rfl) rfl ?_
            refine e_i2l (dt dk_X10_ever 60 rfl) ?_
            refine e_iload_n (dt dk_X10_ever 61 rfl) rfl ?_
            refine ev_call (ca_S ms_X10_power (sp_X10_power (Int32.toInt64 v3) v1 M) (dt dk_X10_ever 62 rfl) ml_X10_278 rfl rfl rfl (by decide) : Ca _ _ _ _ _ _ _ _ [] _ _) (fun r9 hr9 => ?_)
            show Ev _ _ _ _ _ _ 105 [some (.ref 53), some (.int v1), some (.int v2), some (.int v3), some (.int v4), some (.long ((10 : Int64) - (Int32.toInt64 v3))), none, some (.long ((r6 * r7) - r8)), none, none, none] [.long r9] M _
            refine e_lload (dt dk_X10_ever 63 rfl) rfl ?_
            refine e_iload_n (dt dk_X10_ever 64 rfl) rfl ?_
            refine ev_call (ca_S ms_X10_power (sp_X10_power ((10 : Int64) - (Int32.toInt64 v3)) v1 M) (dt dk_X10_ever 65 rfl) ml_X10_278 rfl rfl rfl (by decide) : Ca _ _ _ _ _ _ _ _ [.long r9] _ _) (fun r10 hr10 => ?_)
            show Ev _ _ _ _ _ _ 111 [some (.ref 53), some (.int v1), some (.int v2), some (.int v3), some (.int v4), some (.long ((10 : Int64) - (Int32.toInt64 v3))), none, some (.long ((r6 * r7) - r8)), none, none, none] [.long r10, .long r9] M _
            refine e_lsub (dt dk_X10_ever 66 rfl) ?_
            refine e_lstore [some (.ref 53), some (.int v1), some (.int v2), some (.int v3), some (.int v4), some (.long ((10 : Int64) - (Int32.toInt64 v3))), none, some (.long ((r6 * r7) - r8)), none, some (.long (r9 - r10)), none] (dt dk_X10_ever 67 rfl) rfl rfl rfl ?_
            refine e_lload (dt dk_X10_ever 68 rfl) rfl ?_
            refine ev_callT (ca_S ms_X10_size (sp_X10_size ((r6 * r7) - r8) M) (dt dk_X10_ever 69 rfl) ml_X10_282 rfl rfl rfl (by decide) : Ca _ _ _ _ _ _ _ _ [] _ _) ?_
            show Ev _ _ _ _ _ _ 119 [some (.ref 53), some (.int v1), some (.int v2), some (.int v3), some (.int v4), some (.long ((10 : Int64) - (Int32.toInt64 v3))), none, some (.long ((r6 * r7) - r8)), none, some (.long (r9 - r10)), none] [.long (f_X10_size ((r6 * r7) - r8))] M _
            refine e_lload (dt dk_X10_ever 70 rfl) rfl ?_
            refine ev_callT (ca_S ms_X10_size (sp_X10_size (r9 - r10) M) (dt dk_X10_ever 71 rfl) ml_X10_282 rfl rfl rfl (by decide) : Ca _ _ _ _ _ _ _ _ [.long (f_X10_size ((r6 * r7) - r8))] _ _) ?_
            show Ev _ _ _ _ _ _ 124 [some (.ref 53), some (.int v1), some (.int v2), some (.int v3), some (.int v4), some (.long ((10 : Int64) - (Int32.toInt64 v3))), none, some (.long ((r6 * r7) - r8)), none, some (.long (r9 - r10)), none] [.long (f_X10_size (r9 - r10)), .long (f_X10_size ((r6 * r7) - r8))] M _
            refine e_iload (dt dk_X10_ever 72 rfl) rfl ?_
            refine ev_call (ca_S ms_X10_lowest (sp_X10_lowest (f_X10_size ((r6 * r7) - r8)) (f_X10_size (r9 - r10)) v4 M) (dt dk_X10_ever 73 rfl) ml_X10_272 rfl rfl rfl (by decide) : Ca _ _ _ _ _ _ _ _ [] _ _) (fun r11 hr11 => ?_)
            show Ev _ _ _ _ _ _ 129 [some (.ref 53), some (.int v1), some (.int v2), some (.int v3), some (.int v4), some (.long ((10 : Int64) - (Int32.toInt64 v3))), none, some (.long ((r6 * r7) - r8)), none, some (.long (r9 - r10)), none] [.long r11] M _
            exact e_lret (dt dk_X10_ever 74 rfl) rfl rfl
-- X10_actBy (T, depth 0)
def fo_X10_actBy (v0 : Int32) : Option Int32 :=
  (if (6 : Int32) ≤ v0 then some (6 : Int32) else some v0)
def f_X10_actBy (v0 : Int32) : Int32 :=
  (if (6 : Int32) ≤ v0 then (6 : Int32) else v0)
theorem fe_X10_actBy (v0 : Int32) : fo_X10_actBy v0 = some (f_X10_actBy v0) := by
  unfold fo_X10_actBy f_X10_actBy
  simp only [apply_ite some]
set_option maxRecDepth 20000 in
set_option maxHeartbeats 2000000 in
theorem sp_X10_actBy (v0 : Int32) (M : Mem) : SpO (wR M) yX10_actBy cX10_actBy 1 (some .int) 0 [.int v0] M (some (f_X10_actBy v0)) := by
  rw [← fe_X10_actBy]
  refine sp_of (L := [some (.int v0)]) rfl (by decide +kernel) rfl rfl ?_
  unfold fo_X10_actBy
  refine e_iload_n (dt dk_X10_actBy 0 rfl) rfl ?_
  refine e_bipush (v := (6 : Int32)) (dt dk_X10_actBy 1 rfl) (by decide) ?_
  refine e_icmp_ge 10 (dt dk_X10_actBy 2 rfl) (by decide) (fun h1 => ?_) (fun h1 => ?_)
  · refine e_bipush (v := (6 : Int32)) (dt dk_X10_actBy 5 rfl) (by decide) ?_
    exact e_iret (dt dk_X10_actBy 6 rfl) rfl rfl rfl
  · refine e_iload_n (dt dk_X10_actBy 3 rfl) rfl ?_
    refine e_goto 12 (dt dk_X10_actBy 4 rfl) (by decide) ?_
    exact e_iret (dt dk_X10_actBy 6 rfl) rfl rfl rfl
-- X10_year (W, depth 4)
def lb_X10_year_190  (s0 : Int32) (M : Mem) : Option (Int32 × Mem) :=
  ((f_X10_back s0 M)).bind fun q10 => some (q10.1, q10.2)
set_option maxRecDepth 20000 in
set_option maxHeartbeats 2000000 in
theorem ev_lb_X10_year_190   (s0 : Int32) (M : Mem) : Ev none wI RX10 cX10_year (some .int) 4 190 [none, none, none, none, none, none, none, none, none] [.int s0, .ref 53] M (lb_X10_year_190 s0 M) := by
  unfold lb_X10_year_190
  refine ev_call (ca_V (k := 53) mv_X10_back (sp_X10_back s0 M) (dt dk_X10_year 99 rfl) ml_X10_207 rfl rfl rfl rfl rfl (by decide) : Ca _ _ _ _ _ _ _ _ [] _ _) (fun q10 hq10 => ?_)
  show Ev _ _ _ _ _ _ 193 [none, none, none, none, none, none, none, none, none] [.int q10.1] q10.2 _
  exact e_iret (dt dk_X10_year 100 rfl) rfl rfl rfl
def lb_X10_year_111 (K49 : Int32 → Int32 → Int32 → Int32 → Mem → Option (Int32 × Mem)) (v2 : Int32) (v3 : Int32) (v4 : Int32) (v5 : Int32) (v6 : Int32) (v7 : Int32) (s0 : Int32) (M : Mem) : Option (Int32 × Mem) :=
  (if s0 = 0 then (K49 v2 v3 v4 (v5 + (1 : Int32)) M) else ((f_X10_whyNot v6 (remI v4 (8 : Int32)) (remI v7 (8 : Int32)) M)).bind fun r14 => (if r14 = 0 then ((f_X10_happen v6 (remI v4 (8 : Int32)) (remI v7 (8 : Int32)) M)).bind fun q16 => (K49 v2 v3 v4 (v5 + (1 : Int32)) q16) else (K49 v2 v3 v4 (v5 + (1 : Int32)) M)))
set_option maxRecDepth 20000 in
set_option maxHeartbeats 2000000 in
theorem ev_lb_X10_year_111 (K49 : Int32 → Int32 → Int32 → Int32 → Mem → Option (Int32 × Mem)) (hK49 : ∀ (v2 : Int32) (v3 : Int32) (v4 : Int32) (v5 : Int32) (M : Mem), Ev none wI RX10 cX10_year (some .int) 4 49 [some (.ref 53), none, some (.int v2), some (.int v3), some (.int v4), some (.int v5), none, none, none] [] M (K49 v2 v3 v4 v5 M)) (v2 : Int32) (v3 : Int32) (v4 : Int32) (v5 : Int32) (v6 : Int32) (v7 : Int32) (s0 : Int32) (M : Mem) : Ev none wI RX10 cX10_year (some .int) 4 111 [some (.ref 53), none, some (.int v2), some (.int v3), some (.int v4), some (.int v5), some (.int v6), some (.int v7), none] [.int s0] M (lb_X10_year_111 K49 v2 v3 v4 v5 v6 v7 s0 M) := by
  unfold lb_X10_year_111
  refine e_istore [some (.ref 53), none, some (.int v2), some (.int v3), some (.int v4), some (.int v5), some (.int v6), some (.int v7), some (.int s0)] (dt dk_X10_year 60 rfl) rfl rfl rfl ?_
  refine e_iload (dt dk_X10_year 61 rfl) rfl ?_
  refine e_if_eq 153 (dt dk_X10_year 62 rfl) (by decide) (fun h13 => ?_) (fun h13 => ?_)
  · refine e_iinc [some (.ref 53), none, some (.int v2), some (.int v3), some (.int v4), some (.int (v5 + (1 : Int32))), some (.int v6), some (.int v7), some (.int s0)] (dt dk_X10_year 82 rfl) rfl rfl rfl rfl ?_
    refine e_goto 49 (dt dk_X10_year 83 rfl) (by decide) ?_
    exact e_forget [true, false, true, true, true, true, false, false, false] [some (.ref 53), none, some (.int v2), some (.int v3), some (.int v4), some (.int (v5 + (1 : Int32))), none, none, none] ⟨rfl, rfl⟩ (hK49 v2 v3 v4 (v5 + (1 : Int32)) M)
  · refine e_aload_n (dt dk_X10_year 63 rfl) rfl ?_
    refine e_iload (dt dk_X10_year 64 rfl) rfl ?_
    refine e_iload (dt dk_X10_year 65 rfl) rfl ?_
    refine e_bipush (v := (8 : Int32)) (dt dk_X10_year 66 rfl) (by decide) ?_
    refine e_irem' (dt dk_X10_year 67 rfl) (by decide) ?_
    show Ev _ _ _ _ _ _ 126 [some (.ref 53), none, some (.int v2), some (.int v3), some (.int v4), some (.int v5), some (.int v6), some (.int v7), some (.int s0)] [.int (remI v4 (8 : Int32)), .int v6, .ref 53] M _
    refine e_iload (dt dk_X10_year 68 rfl) rfl ?_
    refine e_bipush (v := (8 : Int32)) (dt dk_X10_year 69 rfl) (by decide) ?_
    refine e_irem' (dt dk_X10_year 70 rfl) (by decide) ?_
    show Ev _ _ _ _ _ _ 131 [some (.ref 53), none, some (.int v2), some (.int v3), some (.int v4), some (.int v5), some (.int v6), some (.int v7), some (.int s0)] [.int (remI v7 (8 : Int32)), .int (remI v4 (8 : Int32)), .int v6, .ref 53] M _
    refine ev_call (ca_V (k := 53) mv_X10_whyNot (sp_X10_whyNot v6 (remI v4 (8 : Int32)) (remI v7 (8 : Int32)) M) (dt dk_X10_year 71 rfl) ml_X10_185 rfl rfl rfl rfl rfl (by decide) : Ca _ _ _ _ _ _ _ _ [] _ _) (fun r14 hr14 => ?_)
    show Ev _ _ _ _ _ _ 134 [some (.ref 53), none, some (.int v2), some (.int v3), some (.int v4), some (.int v5), some (.int v6), some (.int v7), some (.int s0)] [.int r14] M _
    refine e_if_ne 153 (dt dk_X10_year 72 rfl) (by decide) (fun h15 => ?_) (fun h15 => ?_)
    · refine e_aload_n (dt dk_X10_year 73 rfl) rfl ?_
      refine e_iload (dt dk_X10_year 74 rfl) rfl ?_
      refine e_iload (dt dk_X10_year 75 rfl) rfl ?_
      refine e_bipush (v := (8 : Int32)) (dt dk_X10_year 76 rfl) (by decide) ?_
      refine e_irem' (dt dk_X10_year 77 rfl) (by decide) ?_
      show Ev _ _ _ _ _ _ 145 [some (.ref 53), none, some (.int v2), some (.int v3), some (.int v4), some (.int v5), some (.int v6), some (.int v7), some (.int s0)] [.int (remI v4 (8 : Int32)), .int v6, .ref 53] M _
      refine e_iload (dt dk_X10_year 78 rfl) rfl ?_
      refine e_bipush (v := (8 : Int32)) (dt dk_X10_year 79 rfl) (by decide) ?_
      refine e_irem' (dt dk_X10_year 80 rfl) (by decide) ?_
      show Ev _ _ _ _ _ _ 150 [some (.ref 53), none, some (.int v2), some (.int v3), some (.int v4), some (.int v5), some (.int v6), some (.int v7), some (.int s0)] [.int (remI v7 (8 : Int32)), .int (remI v4 (8 : Int32)), .int v6, .ref 53] M _
      refine ev_call (ca_V (k := 53) mv_X10_happen (sp_X10_happen v6 (remI v4 (8 : Int32)) (remI v7 (8 : Int32)) M) (dt dk_X10_year 81 rfl) ml_X10_166 rfl rfl rfl rfl rfl (by decide) : Ca _ _ _ _ _ _ _ _ [] _ _) (fun q16 hq16 => ?_)
      show Ev _ _ _ _ _ _ 153 [some (.ref 53), none, some (.int v2), some (.int v3), some (.int v4), some (.int v5), some (.int v6), some (.int v7), some (.int s0)] [] q16 _
      refine e_iinc [some (.ref 53), none, some (.int v2), some (.int v3), some (.int v4), some (.int (v5 + (1 : Int32))), some (.int v6), some (.int v7), some (.int s0)] (dt dk_X10_year 82 rfl) rfl rfl rfl rfl ?_
      refine e_goto 49 (dt dk_X10_year 83 rfl) (by decide) ?_
      exact e_forget [true, false, true, true, true, true, false, false, false] [some (.ref 53), none, some (.int v2), some (.int v3), some (.int v4), some (.int (v5 + (1 : Int32))), none, none, none] ⟨rfl, rfl⟩ (hK49 v2 v3 v4 (v5 + (1 : Int32)) q16)
    · refine e_iinc [some (.ref 53), none, some (.int v2), some (.int v3), some (.int v4), some (.int (v5 + (1 : Int32))), some (.int v6), some (.int v7), some (.int s0)] (dt dk_X10_year 82 rfl) rfl rfl rfl rfl ?_
      refine e_goto 49 (dt dk_X10_year 83 rfl) (by decide) ?_
      exact e_forget [true, false, true, true, true, true, false, false, false] [some (.ref 53), none, some (.int v2), some (.int v3), some (.int v4), some (.int (v5 + (1 : Int32))), none, none, none] ⟨rfl, rfl⟩ (hK49 v2 v3 v4 (v5 + (1 : Int32)) M)
def bd_X10_year_49  (K49 : Int32 → Int32 → Int32 → Int32 → Mem → Option (Int32 × Mem)) (v2 : Int32) (v3 : Int32) (v4 : Int32) (v5 : Int32) (M : Mem) : Option (Int32 × Mem) :=
  (if v2 ≤ v5 then (if v3 = 0 then ((f_X10_allDoubts M)).bind fun r11 => (lb_X10_year_190 r11 M) else (if v3 = (1 : Int32) then (lb_X10_year_190 (M 53 6) M) else ((f_X10_clear M)).bind fun r8 => ((f_X10_ones r8)).bind fun r9 => (lb_X10_year_190 r9 M))) else (if (f_X10_actBy (remI ((Int64.toInt32 (remL (((75 : Int64) * (Int32.toInt64 v4)) + (74 : Int64)) (65537 : Int64))) / (8 : Int32)) (8 : Int32))) = (4 : Int32) then (if (remI ((Int64.toInt32 (remL (((75 : Int64) * (Int32.toInt64 v4)) + (74 : Int64)) (65537 : Int64))) / (64 : Int32)) (4 : Int32)) = 0 then (lb_X10_year_111 K49 v2 v3 (Int64.toInt32 (remL (((75 : Int64) * (Int32.toInt64 v4)) + (74 : Int64)) (65537 : Int64))) v5 (f_X10_actBy (remI ((Int64.toInt32 (remL (((75 : Int64) * (Int32.toInt64 v4)) + (74 : Int64)) (65537 : Int64))) / (8 : Int32)) (8 : Int32))) ((Int64.toInt32 (remL (((75 : Int64) * (Int32.toInt64 v4)) + (74 : Int64)) (65537 : Int64))) / (64 : Int32)) (1 : Int32) M) else (lb_X10_year_111 K49 v2 v3 (Int64.toInt32 (remL (((75 : Int64) * (Int32.toInt64 v4)) + (74 : Int64)) (65537 : Int64))) v5 (f_X10_actBy (remI ((Int64.toInt32 (remL (((75 : Int64) * (Int32.toInt64 v4)) + (74 : Int64)) (65537 : Int64))) / (8 : Int32)) (8 : Int32))) ((Int64.toInt32 (remL (((75 : Int64) * (Int32.toInt64 v4)) + (74 : Int64)) (65537 : Int64))) / (64 : Int32)) (0 : Int32) M)) else (lb_X10_year_111 K49 v2 v3 (Int64.toInt32 (remL (((75 : Int64) * (Int32.toInt64 v4)) + (74 : Int64)) (65537 : Int64))) v5 (f_X10_actBy (remI ((Int64.toInt32 (remL (((75 : Int64) * (Int32.toInt64 v4)) + (74 : Int64)) (65537 : Int64))) / (8 : Int32)) (8 : Int32))) ((Int64.toInt32 (remL (((75 : Int64) * (Int32.toInt64 v4)) + (74 : Int64)) (65537 : Int64))) / (64 : Int32)) (1 : Int32) M)))
set_option maxRecDepth 20000 in
set_option maxHeartbeats 2000000 in
theorem ev_bd_X10_year_49  (K49 : Int32 → Int32 → Int32 → Int32 → Mem → Option (Int32 × Mem))  (hK49 : ∀ (v2 : Int32) (v3 : Int32) (v4 : Int32) (v5 : Int32) (M : Mem), Ev none wI RX10 cX10_year (some .int) 4 49 [some (.ref 53), none, some (.int v2), some (.int v3), some (.int v4), some (.int v5), none, none, none] [] M (K49 v2 v3 v4 v5 M)) (v2 : Int32) (v3 : Int32) (v4 : Int32) (v5 : Int32) (M : Mem) : Ev none wI RX10 cX10_year (some .int) 4 49 [some (.ref 53), none, some (.int v2), some (.int v3), some (.int v4), some (.int v5), none, none, none] [] M (bd_X10_year_49 K49 v2 v3 v4 v5 M) := by
  unfold bd_X10_year_49
  refine e_iload (dt dk_X10_year 26 rfl) rfl ?_
  refine e_iload_n (dt dk_X10_year 27 rfl) rfl ?_
  refine e_icmp_ge 159 (dt dk_X10_year 28 rfl) (by decide) (fun h5 => ?_) (fun h5 => ?_)
  · refine e_aload_n (dt dk_X10_year 84 rfl) rfl ?_
    refine e_iload_n (dt dk_X10_year 85 rfl) rfl ?_
    refine e_if_ne 171 (dt dk_X10_year 86 rfl) (by decide) (fun h6 => ?_) (fun h6 => ?_)
    · refine e_aload_n (dt dk_X10_year 87 rfl) rfl ?_
      refine ev_call (ca_V (k := 53) mv_X10_allDoubts (sp_X10_allDoubts M) (dt dk_X10_year 88 rfl) ml_X10_215 rfl rfl rfl rfl rfl (by decide) : Ca _ _ _ _ _ _ _ _ [.ref 53] _ _) (fun r11 hr11 => ?_)
      show Ev _ _ _ _ _ _ 168 [some (.ref 53), none, some (.int v2), some (.int v3), some (.int v4), some (.int v5), none, none, none] [.int r11, .ref 53] M _
      refine e_goto 190 (dt dk_X10_year 89 rfl) (by decide) ?_
      exact e_forget [false, false, false, false, false, false, false, false, false] [none, none, none, none, none, none, none, none, none] ⟨rfl, rfl⟩ (ev_lb_X10_year_190 r11 M)
    · refine e_iload_n (dt dk_X10_year 90 rfl) rfl ?_
      refine e_iconst (v := (1 : Int32)) (dt dk_X10_year 91 rfl) (by decide) ?_
      refine e_icmp_ne 183 (dt dk_X10_year 92 rfl) (by decide) (fun h7 => ?_) (fun h7 => ?_)
      · refine e_aload_n (dt dk_X10_year 93 rfl) rfl ?_
        refine e_getI (v := (M 53 6)) ci_X10 (dt dk_X10_year 94 rfl) rfl (by decide) rfl fl_X10_143 rfl ?_
        refine e_goto 190 (dt dk_X10_year 95 rfl) (by decide) ?_
        exact e_forget [false, false, false, false, false, false, false, false, false] [none, none, none, none, none, none, none, none, none] ⟨rfl, rfl⟩ (ev_lb_X10_year_190 (M 53 6) M)
      · refine e_aload_n (dt dk_X10_year 96 rfl) rfl ?_
        refine ev_call (ca_V (k := 53) mv_X10_clear (sp_X10_clear M) (dt dk_X10_year 97 rfl) ml_X10_162 rfl rfl rfl rfl rfl (by decide) : Ca _ _ _ _ _ _ _ _ [.ref 53] _ _) (fun r8 hr8 => ?_)
        show Ev _ _ _ _ _ _ 187 [some (.ref 53), none, some (.int v2), some (.int v3), some (.int v4), some (.int v5), none, none, none] [.int r8, .ref 53] M _
        refine ev_call (ca_S ms_X10_ones (sp_X10_ones r8 M) (dt dk_X10_year 98 rfl) ml_X10_100 rfl rfl rfl (by decide) : Ca _ _ _ _ _ _ _ _ [.ref 53] _ _) (fun r9 hr9 => ?_)
        show Ev _ _ _ _ _ _ 190 [some (.ref 53), none, some (.int v2), some (.int v3), some (.int v4), some (.int v5), none, none, none] [.int r9, .ref 53] M _
        exact e_forget [false, false, false, false, false, false, false, false, false] [none, none, none, none, none, none, none, none, none] ⟨rfl, rfl⟩ (ev_lb_X10_year_190 r9 M)
  · refine e_ldc2 (v := (75 : Int64)) (dt dk_X10_year 29 rfl) kl_X10_288 ?_
    refine e_iload (dt dk_X10_year 30 rfl) rfl ?_
    refine e_i2l (dt dk_X10_year 31 rfl) ?_
    refine e_lmul (dt dk_X10_year 32 rfl) ?_
    refine e_ldc2 (v := (74 : Int64)) (dt dk_X10_year 33 rfl) kl_X10_290 ?_
    refine e_ladd (dt dk_X10_year 34 rfl) ?_
    refine e_ldc2 (v := (65537 : Int64)) (dt dk_X10_year 35 rfl) kl_X10_292 ?_
    refine e_lrem' (dt dk_X10_year 36 rfl) (by decide) ?_
    show Ev _ _ _ _ _ _ 70 [some (.ref 53), none, some (.int v2), some (.int v3), some (.int v4), some (.int v5), none, none, none] [.long (remL (((75 : Int64) * (Int32.toInt64 v4)) + (74 : Int64)) (65537 : Int64))] M _
    refine e_l2i (dt dk_X10_year 37 rfl) ?_
    refine e_istore [some (.ref 53), none, some (.int v2), some (.int v3), some (.int (Int64.toInt32 (remL (((75 : Int64) * (Int32.toInt64 v4)) + (74 : Int64)) (65537 : Int64)))), some (.int v5), none, none, none] (dt dk_X10_year 38 rfl) rfl rfl rfl ?_
    refine e_iload (dt dk_X10_year 39 rfl) rfl ?_
    refine e_bipush (v := (8 : Int32)) (dt dk_X10_year 40 rfl) (by decide) ?_
    refine e_idiv' (dt dk_X10_year 41 rfl) (by decide) ?_
    show Ev _ _ _ _ _ _ 78 [some (.ref 53), none, some (.int v2), some (.int v3), some (.int (Int64.toInt32 (remL (((75 : Int64) * (Int32.toInt64 v4)) + (74 : Int64)) (65537 : Int64)))), some (.int v5), none, none, none] [.int ((Int64.toInt32 (remL (((75 : Int64) * (Int32.toInt64 v4)) + (74 : Int64)) (65537 : Int64))) / (8 : Int32))] M _
    refine e_bipush (v := (8 : Int32)) (dt dk_X10_year 42 rfl) (by decide) ?_
    refine e_irem' (dt dk_X10_year 43 rfl) (by decide) ?_
    show Ev _ _ _ _ _ _ 81 [some (.ref 53), none, some (.int v2), some (.int v3), some (.int (Int64.toInt32 (remL (((75 : Int64) * (Int32.toInt64 v4)) + (74 : Int64)) (65537 : Int64)))), some (.int v5), none, none, none] [.int (remI ((Int64.toInt32 (remL (((75 : Int64) * (Int32.toInt64 v4)) + (74 : Int64)) (65537 : Int64))) / (8 : Int32)) (8 : Int32))] M _
    refine ev_callT (ca_S ms_X10_actBy (sp_X10_actBy (remI ((Int64.toInt32 (remL (((75 : Int64) * (Int32.toInt64 v4)) + (74 : Int64)) (65537 : Int64))) / (8 : Int32)) (8 : Int32)) M) (dt dk_X10_year 44 rfl) ml_X10_294 rfl rfl rfl (by decide) : Ca _ _ _ _ _ _ _ _ [] _ _) ?_
    show Ev _ _ _ _ _ _ 84 [some (.ref 53), none, some (.int v2), some (.int v3), some (.int (Int64.toInt32 (remL (((75 : Int64) * (Int32.toInt64 v4)) + (74 : Int64)) (65537 : Int64)))), some (.int v5), none, none, none] [.int (f_X10_actBy (remI ((Int64.toInt32 (remL (((75 : Int64) * (Int32.toInt64 v4)) + (74 : Int64)) (65537 : Int64))) / (8 : Int32)) (8 : Int32)))] M _
    refine e_istore [some (.ref 53), none, some (.int v2), some (.int v3), some (.int (Int64.toInt32 (remL (((75 : Int64) * (Int32.toInt64 v4)) + (74 : Int64)) (65537 : Int64)))), some (.int v5), some (.int (f_X10_actBy (remI ((Int64.toInt32 (remL (((75 : Int64) * (Int32.toInt64 v4)) + (74 : Int64)) (65537 : Int64))) / (8 : Int32)) (8 : Int32)))), none, none] (dt dk_X10_year 45 rfl) rfl rfl rfl ?_
    refine e_iload (dt dk_X10_year 46 rfl) rfl ?_
    refine e_bipush (v := (64 : Int32)) (dt dk_X10_year 47 rfl) (by decide) ?_
    refine e_idiv' (dt dk_X10_year 48 rfl) (by decide) ?_
    show Ev _ _ _ _ _ _ 91 [some (.ref 53), none, some (.int v2), some (.int v3), some (.int (Int64.toInt32 (remL (((75 : Int64) * (Int32.toInt64 v4)) + (74 : Int64)) (65537 : Int64)))), some (.int v5), some (.int (f_X10_actBy (remI ((Int64.toInt32 (remL (((75 : Int64) * (Int32.toInt64 v4)) + (74 : Int64)) (65537 : Int64))) / (8 : Int32)) (8 : Int32)))), none, none] [.int ((Int64.toInt32 (remL (((75 : Int64) * (Int32.toInt64 v4)) + (74 : Int64)) (65537 : Int64))) / (64 : Int32))] M _
    refine e_istore [some (.ref 53), none, some (.int v2), some (.int v3), some (.int (Int64.toInt32 (remL (((75 : Int64) * (Int32.toInt64 v4)) + (74 : Int64)) (65537 : Int64)))), some (.int v5), some (.int (f_X10_actBy (remI ((Int64.toInt32 (remL (((75 : Int64) * (Int32.toInt64 v4)) + (74 : Int64)) (65537 : Int64))) / (8 : Int32)) (8 : Int32)))), some (.int ((Int64.toInt32 (remL (((75 : Int64) * (Int32.toInt64 v4)) + (74 : Int64)) (65537 : Int64))) / (64 : Int32))), none] (dt dk_X10_year 49 rfl) rfl rfl rfl ?_
    refine e_iload (dt dk_X10_year 50 rfl) rfl ?_
    refine e_iconst (v := (4 : Int32)) (dt dk_X10_year 51 rfl) (by decide) ?_
    refine e_icmp_ne 106 (dt dk_X10_year 52 rfl) (by decide) (fun h12 => ?_) (fun h12 => ?_)
    · refine e_iload (dt dk_X10_year 53 rfl) rfl ?_
      refine e_iconst (v := (4 : Int32)) (dt dk_X10_year 54 rfl) (by decide) ?_
      refine e_irem' (dt dk_X10_year 55 rfl) (by decide) ?_
      show Ev _ _ _ _ _ _ 103 [some (.ref 53), none, some (.int v2), some (.int v3), some (.int (Int64.toInt32 (remL (((75 : Int64) * (Int32.toInt64 v4)) + (74 : Int64)) (65537 : Int64)))), some (.int v5), some (.int (f_X10_actBy (remI ((Int64.toInt32 (remL (((75 : Int64) * (Int32.toInt64 v4)) + (74 : Int64)) (65537 : Int64))) / (8 : Int32)) (8 : Int32)))), some (.int ((Int64.toInt32 (remL (((75 : Int64) * (Int32.toInt64 v4)) + (74 : Int64)) (65537 : Int64))) / (64 : Int32))), none] [.int (remI ((Int64.toInt32 (remL (((75 : Int64) * (Int32.toInt64 v4)) + (74 : Int64)) (65537 : Int64))) / (64 : Int32)) (4 : Int32))] M _
      refine e_if_ne 110 (dt dk_X10_year 56 rfl) (by decide) (fun h17 => ?_) (fun h17 => ?_)
      · refine e_iconst (v := (1 : Int32)) (dt dk_X10_year 57 rfl) (by decide) ?_
        refine e_goto 111 (dt dk_X10_year 58 rfl) (by decide) ?_
        exact e_forget [true, false, true, true, true, true, true, true, false] [some (.ref 53), none, some (.int v2), some (.int v3), some (.int (Int64.toInt32 (remL (((75 : Int64) * (Int32.toInt64 v4)) + (74 : Int64)) (65537 : Int64)))), some (.int v5), some (.int (f_X10_actBy (remI ((Int64.toInt32 (remL (((75 : Int64) * (Int32.toInt64 v4)) + (74 : Int64)) (65537 : Int64))) / (8 : Int32)) (8 : Int32)))), some (.int ((Int64.toInt32 (remL (((75 : Int64) * (Int32.toInt64 v4)) + (74 : Int64)) (65537 : Int64))) / (64 : Int32))), none] ⟨rfl, rfl⟩ (ev_lb_X10_year_111 K49 hK49 v2 v3 (Int64.toInt32 (remL (((75 : Int64) * (Int32.toInt64 v4)) + (74 : Int64)) (65537 : Int64))) v5 (f_X10_actBy (remI ((Int64.toInt32 (remL (((75 : Int64) * (Int32.toInt64 v4)) + (74 : Int64)) (65537 : Int64))) / (8 : Int32)) (8 : Int32))) ((Int64.toInt32 (remL (((75 : Int64) * (Int32.toInt64 v4)) + (74 : Int64)) (65537 : Int64))) / (64 : Int32)) (1 : Int32) M)
      · refine e_iconst (v := (0 : Int32)) (dt dk_X10_year 59 rfl) (by decide) ?_
        exact e_forget [true, false, true, true, true, true, true, true, false] [some (.ref 53), none, some (.int v2), some (.int v3), some (.int (Int64.toInt32 (remL (((75 : Int64) * (Int32.toInt64 v4)) + (74 : Int64)) (65537 : Int64)))), some (.int v5), some (.int (f_X10_actBy (remI ((Int64.toInt32 (remL (((75 : Int64) * (Int32.toInt64 v4)) + (74 : Int64)) (65537 : Int64))) / (8 : Int32)) (8 : Int32)))), some (.int ((Int64.toInt32 (remL (((75 : Int64) * (Int32.toInt64 v4)) + (74 : Int64)) (65537 : Int64))) / (64 : Int32))), none] ⟨rfl, rfl⟩ (ev_lb_X10_year_111 K49 hK49 v2 v3 (Int64.toInt32 (remL (((75 : Int64) * (Int32.toInt64 v4)) + (74 : Int64)) (65537 : Int64))) v5 (f_X10_actBy (remI ((Int64.toInt32 (remL (((75 : Int64) * (Int32.toInt64 v4)) + (74 : Int64)) (65537 : Int64))) / (8 : Int32)) (8 : Int32))) ((Int64.toInt32 (remL (((75 : Int64) * (Int32.toInt64 v4)) + (74 : Int64)) (65537 : Int64))) / (64 : Int32)) (0 : Int32) M)
    · refine e_iconst (v := (1 : Int32)) (dt dk_X10_year 57 rfl) (by decide) ?_
      refine e_goto 111 (dt dk_X10_year 58 rfl) (by decide) ?_
      exact e_forget [true, false, true, true, true, true, true, true, false] [some (.ref 53), none, some (.int v2), some (.int v3), some (.int (Int64.toInt32 (remL (((75 : Int64) * (Int32.toInt64 v4)) + (74 : Int64)) (65537 : Int64)))), some (.int v5), some (.int (f_X10_actBy (remI ((Int64.toInt32 (remL (((75 : Int64) * (Int32.toInt64 v4)) + (74 : Int64)) (65537 : Int64))) / (8 : Int32)) (8 : Int32)))), some (.int ((Int64.toInt32 (remL (((75 : Int64) * (Int32.toInt64 v4)) + (74 : Int64)) (65537 : Int64))) / (64 : Int32))), none] ⟨rfl, rfl⟩ (ev_lb_X10_year_111 K49 hK49 v2 v3 (Int64.toInt32 (remL (((75 : Int64) * (Int32.toInt64 v4)) + (74 : Int64)) (65537 : Int64))) v5 (f_X10_actBy (remI ((Int64.toInt32 (remL (((75 : Int64) * (Int32.toInt64 v4)) + (74 : Int64)) (65537 : Int64))) / (8 : Int32)) (8 : Int32))) ((Int64.toInt32 (remL (((75 : Int64) * (Int32.toInt64 v4)) + (74 : Int64)) (65537 : Int64))) / (64 : Int32)) (1 : Int32) M)
def lp_X10_year_49  : Nat → Int32 → Int32 → Int32 → Int32 → Mem → Option (Int32 × Mem)
  | 0 => fun _ _ _ _ _ => none
  | n + 1 => bd_X10_year_49 (lp_X10_year_49 n)
theorem ev_lp_X10_year_49   : ∀ (n : Nat), ∀ (v2 : Int32) (v3 : Int32) (v4 : Int32) (v5 : Int32) (M : Mem), Ev none wI RX10 cX10_year (some .int) 4 49 [some (.ref 53), none, some (.int v2), some (.int v3), some (.int v4), some (.int v5), none, none, none] [] M (lp_X10_year_49 n v2 v3 v4 v5 M)
  | 0 => fun _ _ _ _ _ => e_none
  | n + 1 => ev_bd_X10_year_49 (lp_X10_year_49 n) (ev_lp_X10_year_49 n)
def f_X10_year (v1 : Int32) (v2 : Int32) (v3 : Int32) (M : Mem) : Option (Int32 × Mem) :=
  (if (f_X10_in (Int32.toInt64 v1) (0 : Int64) (9999 : Int64)) = 0 then some ((-2 : Int32), M) else (if (f_X10_in (Int32.toInt64 v2) (1 : Int64) (99 : Int64)) = 0 then some ((-2 : Int32), M) else (if (f_X10_in (Int32.toInt64 v3) (0 : Int64) (2 : Int64)) = 0 then some ((-2 : Int32), M) else ((f_X10_keepNow M)).bind fun q4 => (lp_X10_year_49 FU v2 v3 v1 (0 : Int32) q4))))
set_option maxRecDepth 20000 in
set_option maxHeartbeats 2000000 in
theorem sp_X10_year (v1 : Int32) (v2 : Int32) (v3 : Int32) (M : Mem) : SpO wI yX10_year cX10_year 9 (some .int) 4 [.ref 53, .int v1, .int v2, .int v3] M (f_X10_year v1 v2 v3 M) := by
  refine sp_of (L := [some (.ref 53), some (.int v1), some (.int v2), some (.int v3), none, none, none, none, none]) rfl (by decide +kernel) rfl rfl ?_
  unfold f_X10_year
  refine e_iload_n (dt dk_X10_year 0 rfl) rfl ?_
  refine e_i2l (dt dk_X10_year 1 rfl) ?_
  refine e_lconst (v := (0 : Int64)) (dt dk_X10_year 2 rfl) (by decide) ?_
  refine e_ldc2 (v := (9999 : Int64)) (dt dk_X10_year 3 rfl) kl_X10_286 ?_
  refine ev_callT (ca_S ms_X10_in (sp_X10_in (Int32.toInt64 v1) (0 : Int64) (9999 : Int64) M) (dt dk_X10_year 4 rfl) ml_X10_80 rfl rfl rfl (by decide) : Ca _ _ _ _ _ _ _ _ [] _ _) ?_
  show Ev _ _ _ _ _ _ 9 [some (.ref 53), some (.int v1), some (.int v2), some (.int v3), none, none, none, none, none] [.int (f_X10_in (Int32.toInt64 v1) (0 : Int64) (9999 : Int64))] M _
  refine e_if_eq 36 (dt dk_X10_year 5 rfl) (by decide) (fun h1 => ?_) (fun h1 => ?_)
  · refine e_bipush (v := (-2 : Int32)) (dt dk_X10_year 18 rfl) (by decide) ?_
    exact e_iret (dt dk_X10_year 19 rfl) rfl rfl rfl
  · refine e_iload_n (dt dk_X10_year 6 rfl) rfl ?_
    refine e_i2l (dt dk_X10_year 7 rfl) ?_
    refine e_lconst (v := (1 : Int64)) (dt dk_X10_year 8 rfl) (by decide) ?_
    refine e_ldc2 (v := (99 : Int64)) (dt dk_X10_year 9 rfl) kl_X10_88 ?_
    refine ev_callT (ca_S ms_X10_in (sp_X10_in (Int32.toInt64 v2) (1 : Int64) (99 : Int64) M) (dt dk_X10_year 10 rfl) ml_X10_80 rfl rfl rfl (by decide) : Ca _ _ _ _ _ _ _ _ [] _ _) ?_
    show Ev _ _ _ _ _ _ 21 [some (.ref 53), some (.int v1), some (.int v2), some (.int v3), none, none, none, none, none] [.int (f_X10_in (Int32.toInt64 v2) (1 : Int64) (99 : Int64))] M _
    refine e_if_eq 36 (dt dk_X10_year 11 rfl) (by decide) (fun h2 => ?_) (fun h2 => ?_)
    · refine e_bipush (v := (-2 : Int32)) (dt dk_X10_year 18 rfl) (by decide) ?_
      exact e_iret (dt dk_X10_year 19 rfl) rfl rfl rfl
    · refine e_iload_n (dt dk_X10_year 12 rfl) rfl ?_
      refine e_i2l (dt dk_X10_year 13 rfl) ?_
      refine e_lconst (v := (0 : Int64)) (dt dk_X10_year 14 rfl) (by decide) ?_
      refine e_ldc2 (v := (2 : Int64)) (dt dk_X10_year 15 rfl) kl_X10_202 ?_
      refine ev_callT (ca_S ms_X10_in (sp_X10_in (Int32.toInt64 v3) (0 : Int64) (2 : Int64) M) (dt dk_X10_year 16 rfl) ml_X10_80 rfl rfl rfl (by decide) : Ca _ _ _ _ _ _ _ _ [] _ _) ?_
      show Ev _ _ _ _ _ _ 33 [some (.ref 53), some (.int v1), some (.int v2), some (.int v3), none, none, none, none, none] [.int (f_X10_in (Int32.toInt64 v3) (0 : Int64) (2 : Int64))] M _
      refine e_if_ne 39 (dt dk_X10_year 17 rfl) (by decide) (fun h3 => ?_) (fun h3 => ?_)
      · refine e_bipush (v := (-2 : Int32)) (dt dk_X10_year 18 rfl) (by decide) ?_
        exact e_iret (dt dk_X10_year 19 rfl) rfl rfl rfl
      · refine e_aload_n (dt dk_X10_year 20 rfl) rfl ?_
        refine ev_call (ca_V (k := 53) mv_X10_keepNow (sp_X10_keepNow M) (dt dk_X10_year 21 rfl) ml_X10_193 rfl rfl rfl rfl rfl (by decide) : Ca _ _ _ _ _ _ _ _ [] _ _) (fun q4 hq4 => ?_)
        show Ev _ _ _ _ _ _ 43 [some (.ref 53), some (.int v1), some (.int v2), some (.int v3), none, none, none, none, none] [] q4 _
        refine e_iload_n (dt dk_X10_year 22 rfl) rfl ?_
        refine e_istore [some (.ref 53), some (.int v1), some (.int v2), some (.int v3), some (.int v1), none, none, none, none] (dt dk_X10_year 23 rfl) rfl rfl rfl ?_
        refine e_iconst (v := (0 : Int32)) (dt dk_X10_year 24 rfl) (by decide) ?_
        refine e_istore [some (.ref 53), some (.int v1), some (.int v2), some (.int v3), some (.int v1), some (.int (0 : Int32)), none, none, none] (dt dk_X10_year 25 rfl) rfl rfl rfl ?_
        exact e_forget [true, false, true, true, true, true, false, false, false] [some (.ref 53), none, some (.int v2), some (.int v3), some (.int v1), some (.int (0 : Int32)), none, none, none] ⟨rfl, rfl⟩ (ev_lp_X10_year_49 FU v2 v3 v1 (0 : Int32) q4)
-- X10_pass (W, depth 0)
def lb_X10_pass_20  (s0 : Int32) (M : Mem) : Option (Int32 × Mem) :=
  if inb (M 53 32) 140 then some (s0, (up2 (up2 M 73 (ix (M 53 32)) s0) 53 32 ((M 53 32) + (1 : Int32)))) else none
set_option maxRecDepth 20000 in
set_option maxHeartbeats 2000000 in
theorem ev_lb_X10_pass_20   (s0 : Int32) (M : Mem) : Ev none wI RX10 cX10_pass (some .int) 0 20 [some (.ref 53), none, none] [.int s0] M (lb_X10_pass_20 s0 M) := by
  unfold lb_X10_pass_20
  refine e_istore_n [some (.ref 53), none, some (.int s0)] (dt dk_X10_pass 10 rfl) rfl rfl rfl ?_
  refine e_aload_n (dt dk_X10_pass 11 rfl) rfl ?_
  refine e_getR ci_X10 (dt dk_X10_pass 12 rfl) rfl (by decide) rfl fl_X10_67 ?_
  refine e_aload_n (dt dk_X10_pass 13 rfl) rfl ?_
  refine e_getI (v := (M 53 32)) ci_X10 (dt dk_X10_pass 14 rfl) rfl (by decide) rfl fl_X10_301 rfl ?_
  refine e_iload_n (dt dk_X10_pass 15 rfl) rfl ?_
  refine e_if (fun h3 => ?_)
  refine e_iast' (dt dk_X10_pass 16 rfl) rfl h3 ?_
  refine e_aload_n (dt dk_X10_pass 17 rfl) rfl ?_
  refine e_dup (dt dk_X10_pass 18 rfl) rfl ?_
  refine e_getI (v := (M 53 32)) ci_X10 (dt dk_X10_pass 19 rfl) rfl (by decide) rfl fl_X10_301 rfl ?_
  refine e_iconst (v := (1 : Int32)) (dt dk_X10_pass 20 rfl) (by decide) ?_
  refine e_iadd (dt dk_X10_pass 21 rfl) ?_
  refine e_putI (ty := .int) ci_X10 (dt dk_X10_pass 22 rfl) rfl (by decide) rfl fl_X10_301 rfl (by decide +kernel) rfl rfl ?_
  refine e_iload_n (dt dk_X10_pass 23 rfl) rfl ?_
  exact e_iret (dt dk_X10_pass 24 rfl) rfl rfl rfl
def f_X10_pass (v1 : Int32) (M : Mem) : Option (Int32 × Mem) :=
  (if (M 53 33) = 0 then if inb (M 53 32) 140 then (lb_X10_pass_20 (M 73 (ix (M 53 32))) M) else none else (lb_X10_pass_20 v1 M))
set_option maxRecDepth 20000 in
set_option maxHeartbeats 2000000 in
theorem sp_X10_pass (v1 : Int32) (M : Mem) : SpO wI yX10_pass cX10_pass 3 (some .int) 0 [.ref 53, .int v1] M (f_X10_pass v1 M) := by
  refine sp_of (L := [some (.ref 53), some (.int v1), none]) rfl (by decide +kernel) rfl rfl ?_
  unfold f_X10_pass
  refine e_aload_n (dt dk_X10_pass 0 rfl) rfl ?_
  refine e_getI (v := (M 53 33)) ci_X10 (dt dk_X10_pass 1 rfl) rfl (by decide) rfl fl_X10_297 rfl ?_
  refine e_if_eq 11 (dt dk_X10_pass 2 rfl) (by decide) (fun h1 => ?_) (fun h1 => ?_)
  · refine e_aload_n (dt dk_X10_pass 5 rfl) rfl ?_
    refine e_getR ci_X10 (dt dk_X10_pass 6 rfl) rfl (by decide) rfl fl_X10_67 ?_
    refine e_aload_n (dt dk_X10_pass 7 rfl) rfl ?_
    refine e_getI (v := (M 53 32)) ci_X10 (dt dk_X10_pass 8 rfl) rfl (by decide) rfl fl_X10_301 rfl ?_
    refine e_if (fun h2 => ?_)
    refine e_iald' (v := (M 73 (ix (M 53 32)))) (dt dk_X10_pass 9 rfl) rfl h2 rfl ?_
    exact e_forget [true, false, false] [some (.ref 53), none, none] ⟨rfl, rfl⟩ (ev_lb_X10_pass_20 (M 73 (ix (M 53 32))) M)
  · refine e_iload_n (dt dk_X10_pass 3 rfl) rfl ?_
    refine e_goto 20 (dt dk_X10_pass 4 rfl) (by decide) ?_
    exact e_forget [true, false, false] [some (.ref 53), none, none] ⟨rfl, rfl⟩ (ev_lb_X10_pass_20 v1 M)
-- X10_passRow_54 (W, depth 1)
def bd_X10_passRow_54_2  (K2 : Int32 → Int32 → Mem → Option Mem) (v2 : Int32) (v3 : Int32) (M : Mem) : Option Mem :=
  (if v2 ≤ v3 then some M else if inb v3 8 then ((f_X10_pass (M 54 (ix v3)) M)).bind fun q3 => if inb v3 8 then (K2 v2 (v3 + (1 : Int32)) (up2 q3.2 54 (ix v3) q3.1)) else none else none)
set_option maxRecDepth 20000 in
set_option maxHeartbeats 2000000 in
theorem ev_bd_X10_passRow_54_2  (K2 : Int32 → Int32 → Mem → Option Mem)  (hK2 : ∀ (v2 : Int32) (v3 : Int32) (M : Mem), Ev none wV RX10 cX10_passRow none 1 2 [some (.ref 53), some (.ref 54), some (.int v2), some (.int v3)] [] M (K2 v2 v3 M)) (v2 : Int32) (v3 : Int32) (M : Mem) : Ev none wV RX10 cX10_passRow none 1 2 [some (.ref 53), some (.ref 54), some (.int v2), some (.int v3)] [] M (bd_X10_passRow_54_2 K2 v2 v3 M) := by
  unfold bd_X10_passRow_54_2
  refine e_iload_n (dt dk_X10_passRow 2 rfl) rfl ?_
  refine e_iload_n (dt dk_X10_passRow 3 rfl) rfl ?_
  refine e_icmp_ge 23 (dt dk_X10_passRow 4 rfl) (by decide) (fun h1 => ?_) (fun h1 => ?_)
  · exact e_vret (dt dk_X10_passRow 15 rfl) rfl rfl
  · refine e_aload_n (dt dk_X10_passRow 5 rfl) rfl ?_
    refine e_iload_n (dt dk_X10_passRow 6 rfl) rfl ?_
    refine e_aload_n (dt dk_X10_passRow 7 rfl) rfl ?_
    refine e_aload_n (dt dk_X10_passRow 8 rfl) rfl ?_
    refine e_iload_n (dt dk_X10_passRow 9 rfl) rfl ?_
    refine e_if (fun h2 => ?_)
    refine e_iald' (v := (M 54 (ix v3))) (dt dk_X10_passRow 10 rfl) rfl h2 rfl ?_
    refine ev_call (ca_V (k := 53) mv_X10_pass (sp_X10_pass (M 54 (ix v3)) M) (dt dk_X10_passRow 11 rfl) ml_X10_304 rfl rfl rfl rfl rfl (by decide) : Ca _ _ _ _ _ _ _ _ [.int v3, .ref 54] _ _) (fun q3 hq3 => ?_)
    show Ev _ _ _ _ _ _ 16 [some (.ref 53), some (.ref 54), some (.int v2), some (.int v3)] [.int q3.1, .int v3, .ref 54] q3.2 _
    refine e_if (fun h4 => ?_)
    refine e_iast' (dt dk_X10_passRow 12 rfl) rfl h4 ?_
    refine e_iinc [some (.ref 53), some (.ref 54), some (.int v2), some (.int (v3 + (1 : Int32)))] (dt dk_X10_passRow 13 rfl) rfl rfl rfl rfl ?_
    refine e_goto 2 (dt dk_X10_passRow 14 rfl) (by decide) ?_
    exact e_forget [true, true, true, true] [some (.ref 53), some (.ref 54), some (.int v2), some (.int (v3 + (1 : Int32)))] ⟨rfl, rfl⟩ (hK2 v2 (v3 + (1 : Int32)) (up2 q3.2 54 (ix v3) q3.1))
def lp_X10_passRow_54_2  : Nat → Int32 → Int32 → Mem → Option Mem
  | 0 => fun _ _ _ => none
  | n + 1 => bd_X10_passRow_54_2 (lp_X10_passRow_54_2 n)
theorem ev_lp_X10_passRow_54_2   : ∀ (n : Nat), ∀ (v2 : Int32) (v3 : Int32) (M : Mem), Ev none wV RX10 cX10_passRow none 1 2 [some (.ref 53), some (.ref 54), some (.int v2), some (.int v3)] [] M (lp_X10_passRow_54_2 n v2 v3 M)
  | 0 => fun _ _ _ => e_none
  | n + 1 => ev_bd_X10_passRow_54_2 (lp_X10_passRow_54_2 n) (ev_lp_X10_passRow_54_2 n)
def f_X10_passRow_54 (v2 : Int32) (M : Mem) : Option Mem :=
  (lp_X10_passRow_54_2 FU v2 (0 : Int32) M)
set_option maxRecDepth 20000 in
set_option maxHeartbeats 2000000 in
theorem sp_X10_passRow_54 (v2 : Int32) (M : Mem) : SpO wV yX10_passRow cX10_passRow 4 none 1 [.ref 53, .ref 54, .int v2] M (f_X10_passRow_54 v2 M) := by
  refine sp_of (L := [some (.ref 53), some (.ref 54), some (.int v2), none]) rfl (by decide +kernel) rfl rfl ?_
  unfold f_X10_passRow_54
  refine e_iconst (v := (0 : Int32)) (dt dk_X10_passRow 0 rfl) (by decide) ?_
  refine e_istore_n [some (.ref 53), some (.ref 54), some (.int v2), some (.int (0 : Int32))] (dt dk_X10_passRow 1 rfl) rfl rfl rfl ?_
  exact e_forget [true, true, true, true] [some (.ref 53), some (.ref 54), some (.int v2), some (.int (0 : Int32))] ⟨rfl, rfl⟩ (ev_lp_X10_passRow_54_2 FU v2 (0 : Int32) M)
-- X10_passRow_55 (W, depth 1)
def bd_X10_passRow_55_2  (K2 : Int32 → Int32 → Mem → Option Mem) (v2 : Int32) (v3 : Int32) (M : Mem) : Option Mem :=
  (if v2 ≤ v3 then some M else if inb v3 8 then ((f_X10_pass (M 55 (ix v3)) M)).bind fun q3 => if inb v3 8 then (K2 v2 (v3 + (1 : Int32)) (up2 q3.2 55 (ix v3) q3.1)) else none else none)
set_option maxRecDepth 20000 in
set_option maxHeartbeats 2000000 in
theorem ev_bd_X10_passRow_55_2  (K2 : Int32 → Int32 → Mem → Option Mem)  (hK2 : ∀ (v2 : Int32) (v3 : Int32) (M : Mem), Ev none wV RX10 cX10_passRow none 1 2 [some (.ref 53), some (.ref 55), some (.int v2), some (.int v3)] [] M (K2 v2 v3 M)) (v2 : Int32) (v3 : Int32) (M : Mem) : Ev none wV RX10 cX10_passRow none 1 2 [some (.ref 53), some (.ref 55), some (.int v2), some (.int v3)] [] M (bd_X10_passRow_55_2 K2 v2 v3 M) := by
  unfold bd_X10_passRow_55_2
  refine e_iload_n (dt dk_X10_passRow 2 rfl) rfl ?_
  refine e_iload_n (dt dk_X10_passRow 3 rfl) rfl ?_
  refine e_icmp_ge 23 (dt dk_X10_passRow 4 rfl) (by decide) (fun h1 => ?_) (fun h1 => ?_)
  · exact e_vret (dt dk_X10_passRow 15 rfl) rfl rfl
  · refine e_aload_n (dt dk_X10_passRow 5 rfl) rfl ?_
    refine e_iload_n (dt dk_X10_passRow 6 rfl) rfl ?_
    refine e_aload_n (dt dk_X10_passRow 7 rfl) rfl ?_
    refine e_aload_n (dt dk_X10_passRow 8 rfl) rfl ?_
    refine e_iload_n (dt dk_X10_passRow 9 rfl) rfl ?_
    refine e_if (fun h2 => ?_)
    refine e_iald' (v := (M 55 (ix v3))) (dt dk_X10_passRow 10 rfl) rfl h2 rfl ?_
    refine ev_call (ca_V (k := 53) mv_X10_pass (sp_X10_pass (M 55 (ix v3)) M) (dt dk_X10_passRow 11 rfl) ml_X10_304 rfl rfl rfl rfl rfl (by decide) : Ca _ _ _ _ _ _ _ _ [.int v3, .ref 55] _ _) (fun q3 hq3 => ?_)
    show Ev _ _ _ _ _ _ 16 [some (.ref 53), some (.ref 55), some (.int v2), some (.int v3)] [.int q3.1, .int v3, .ref 55] q3.2 _
    refine e_if (fun h4 => ?_)
    refine e_iast' (dt dk_X10_passRow 12 rfl) rfl h4 ?_
    refine e_iinc [some (.ref 53), some (.ref 55), some (.int v2), some (.int (v3 + (1 : Int32)))] (dt dk_X10_passRow 13 rfl) rfl rfl rfl rfl ?_
    refine e_goto 2 (dt dk_X10_passRow 14 rfl) (by decide) ?_
    exact e_forget [true, true, true, true] [some (.ref 53), some (.ref 55), some (.int v2), some (.int (v3 + (1 : Int32)))] ⟨rfl, rfl⟩ (hK2 v2 (v3 + (1 : Int32)) (up2 q3.2 55 (ix v3) q3.1))
def lp_X10_passRow_55_2  : Nat → Int32 → Int32 → Mem → Option Mem
  | 0 => fun _ _ _ => none
  | n + 1 => bd_X10_passRow_55_2 (lp_X10_passRow_55_2 n)
theorem ev_lp_X10_passRow_55_2   : ∀ (n : Nat), ∀ (v2 : Int32) (v3 : Int32) (M : Mem), Ev none wV RX10 cX10_passRow none 1 2 [some (.ref 53), some (.ref 55), some (.int v2), some (.int v3)] [] M (lp_X10_passRow_55_2 n v2 v3 M)
  | 0 => fun _ _ _ => e_none
  | n + 1 => ev_bd_X10_passRow_55_2 (lp_X10_passRow_55_2 n) (ev_lp_X10_passRow_55_2 n)
def f_X10_passRow_55 (v2 : Int32) (M : Mem) : Option Mem :=
  (lp_X10_passRow_55_2 FU v2 (0 : Int32) M)
set_option maxRecDepth 20000 in
set_option maxHeartbeats 2000000 in
theorem sp_X10_passRow_55 (v2 : Int32) (M : Mem) : SpO wV yX10_passRow cX10_passRow 4 none 1 [.ref 53, .ref 55, .int v2] M (f_X10_passRow_55 v2 M) := by
  refine sp_of (L := [some (.ref 53), some (.ref 55), some (.int v2), none]) rfl (by decide +kernel) rfl rfl ?_
  unfold f_X10_passRow_55
  refine e_iconst (v := (0 : Int32)) (dt dk_X10_passRow 0 rfl) (by decide) ?_
  refine e_istore_n [some (.ref 53), some (.ref 55), some (.int v2), some (.int (0 : Int32))] (dt dk_X10_passRow 1 rfl) rfl rfl rfl ?_
  exact e_forget [true, true, true, true] [some (.ref 53), some (.ref 55), some (.int v2), some (.int (0 : Int32))] ⟨rfl, rfl⟩ (ev_lp_X10_passRow_55_2 FU v2 (0 : Int32) M)
-- X10_passRow_56 (W, depth 1)
def bd_X10_passRow_56_2  (K2 : Int32 → Int32 → Mem → Option Mem) (v2 : Int32) (v3 : Int32) (M : Mem) : Option Mem :=
  (if v2 ≤ v3 then some M else if inb v3 8 then ((f_X10_pass (M 56 (ix v3)) M)).bind fun q3 => if inb v3 8 then (K2 v2 (v3 + (1 : Int32)) (up2 q3.2 56 (ix v3) q3.1)) else none else none)
set_option maxRecDepth 20000 in
set_option maxHeartbeats 2000000 in
theorem ev_bd_X10_passRow_56_2  (K2 : Int32 → Int32 → Mem → Option Mem)  (hK2 : ∀ (v2 : Int32) (v3 : Int32) (M : Mem), Ev none wV RX10 cX10_passRow none 1 2 [some (.ref 53), some (.ref 56), some (.int v2), some (.int v3)] [] M (K2 v2 v3 M)) (v2 : Int32) (v3 : Int32) (M : Mem) : Ev none wV RX10 cX10_passRow none 1 2 [some (.ref 53), some (.ref 56), some (.int v2), some (.int v3)] [] M (bd_X10_passRow_56_2 K2 v2 v3 M) := by
  unfold bd_X10_passRow_56_2
  refine e_iload_n (dt dk_X10_passRow 2 rfl) rfl ?_
  refine e_iload_n (dt dk_X10_passRow 3 rfl) rfl ?_
  refine e_icmp_ge 23 (dt dk_X10_passRow 4 rfl) (by decide) (fun h1 => ?_) (fun h1 => ?_)
  · exact e_vret (dt dk_X10_passRow 15 rfl) rfl rfl
  · refine e_aload_n (dt dk_X10_passRow 5 rfl) rfl ?_
    refine e_iload_n (dt dk_X10_passRow 6 rfl) rfl ?_
    refine e_aload_n (dt dk_X10_passRow 7 rfl) rfl ?_
    refine e_aload_n (dt dk_X10_passRow 8 rfl) rfl ?_
    refine e_iload_n (dt dk_X10_passRow 9 rfl) rfl ?_
    refine e_if (fun h2 => ?_)
    refine e_iald' (v := (M 56 (ix v3))) (dt dk_X10_passRow 10 rfl) rfl h2 rfl ?_
    refine ev_call (ca_V (k := 53) mv_X10_pass (sp_X10_pass (M 56 (ix v3)) M) (dt dk_X10_passRow 11 rfl) ml_X10_304 rfl rfl rfl rfl rfl (by decide) : Ca _ _ _ _ _ _ _ _ [.int v3, .ref 56] _ _) (fun q3 hq3 => ?_)
    show Ev _ _ _ _ _ _ 16 [some (.ref 53), some (.ref 56), some (.int v2), some (.int v3)] [.int q3.1, .int v3, .ref 56] q3.2 _
    refine e_if (fun h4 => ?_)
    refine e_iast' (dt dk_X10_passRow 12 rfl) rfl h4 ?_
    refine e_iinc [some (.ref 53), some (.ref 56), some (.int v2), some (.int (v3 + (1 : Int32)))] (dt dk_X10_passRow 13 rfl) rfl rfl rfl rfl ?_
    refine e_goto 2 (dt dk_X10_passRow 14 rfl) (by decide) ?_
    exact e_forget [true, true, true, true] [some (.ref 53), some (.ref 56), some (.int v2), some (.int (v3 + (1 : Int32)))] ⟨rfl, rfl⟩ (hK2 v2 (v3 + (1 : Int32)) (up2 q3.2 56 (ix v3) q3.1))
def lp_X10_passRow_56_2  : Nat → Int32 → Int32 → Mem → Option Mem
  | 0 => fun _ _ _ => none
  | n + 1 => bd_X10_passRow_56_2 (lp_X10_passRow_56_2 n)
theorem ev_lp_X10_passRow_56_2   : ∀ (n : Nat), ∀ (v2 : Int32) (v3 : Int32) (M : Mem), Ev none wV RX10 cX10_passRow none 1 2 [some (.ref 53), some (.ref 56), some (.int v2), some (.int v3)] [] M (lp_X10_passRow_56_2 n v2 v3 M)
  | 0 => fun _ _ _ => e_none
  | n + 1 => ev_bd_X10_passRow_56_2 (lp_X10_passRow_56_2 n) (ev_lp_X10_passRow_56_2 n)
def f_X10_passRow_56 (v2 : Int32) (M : Mem) : Option Mem :=
  (lp_X10_passRow_56_2 FU v2 (0 : Int32) M)
set_option maxRecDepth 20000 in
set_option maxHeartbeats 2000000 in
theorem sp_X10_passRow_56 (v2 : Int32) (M : Mem) : SpO wV yX10_passRow cX10_passRow 4 none 1 [.ref 53, .ref 56, .int v2] M (f_X10_passRow_56 v2 M) := by
  refine sp_of (L := [some (.ref 53), some (.ref 56), some (.int v2), none]) rfl (by decide +kernel) rfl rfl ?_
  unfold f_X10_passRow_56
  refine e_iconst (v := (0 : Int32)) (dt dk_X10_passRow 0 rfl) (by decide) ?_
  refine e_istore_n [some (.ref 53), some (.ref 56), some (.int v2), some (.int (0 : Int32))] (dt dk_X10_passRow 1 rfl) rfl rfl rfl ?_
  exact e_forget [true, true, true, true] [some (.ref 53), some (.ref 56), some (.int v2), some (.int (0 : Int32))] ⟨rfl, rfl⟩ (ev_lp_X10_passRow_56_2 FU v2 (0 : Int32) M)
-- X10_passRow_57 (W, depth 1)
def bd_X10_passRow_57_2  (K2 : Int32 → Int32 → Mem → Option Mem) (v2 : Int32) (v3 : Int32) (M : Mem) : Option Mem :=
  (if v2 ≤ v3 then some M else if inb v3 8 then ((f_X10_pass (M 57 (ix v3)) M)).bind fun q3 => if inb v3 8 then (K2 v2 (v3 + (1 : Int32)) (up2 q3.2 57 (ix v3) q3.1)) else none else none)
set_option maxRecDepth 20000 in
set_option maxHeartbeats 2000000 in
theorem ev_bd_X10_passRow_57_2  (K2 : Int32 → Int32 → Mem → Option Mem)  (hK2 : ∀ (v2 : Int32) (v3 : Int32) (M : Mem), Ev none wV RX10 cX10_passRow none 1 2 [some (.ref 53), some (.ref 57), some (.int v2), some (.int v3)] [] M (K2 v2 v3 M)) (v2 : Int32) (v3 : Int32) (M : Mem) : Ev none wV RX10 cX10_passRow none 1 2 [some (.ref 53), some (.ref 57), some (.int v2), some (.int v3)] [] M (bd_X10_passRow_57_2 K2 v2 v3 M) := by
  unfold bd_X10_passRow_57_2
  refine e_iload_n (dt dk_X10_passRow 2 rfl) rfl ?_
  refine e_iload_n (dt dk_X10_passRow 3 rfl) rfl ?_
  refine e_icmp_ge 23 (dt dk_X10_passRow 4 rfl) (by decide) (fun h1 => ?_) (fun h1 => ?_)
  · exact e_vret (dt dk_X10_passRow 15 rfl) rfl rfl
  · refine e_aload_n (dt dk_X10_passRow 5 rfl) rfl ?_
    refine e_iload_n (dt dk_X10_passRow 6 rfl) rfl ?_
    refine e_aload_n (dt dk_X10_passRow 7 rfl) rfl ?_
    refine e_aload_n (dt dk_X10_passRow 8 rfl) rfl ?_
    refine e_iload_n (dt dk_X10_passRow 9 rfl) rfl ?_
    refine e_if (fun h2 => ?_)
    refine e_iald' (v := (M 57 (ix v3))) (dt dk_X10_passRow 10 rfl) rfl h2 rfl ?_
    refine ev_call (ca_V (k := 53) mv_X10_pass (sp_X10_pass (M 57 (ix v3)) M) (dt dk_X10_passRow 11 rfl) ml_X10_304 rfl rfl rfl rfl rfl (by decide) : Ca _ _ _ _ _ _ _ _ [.int v3, .ref 57] _ _) (fun q3 hq3 => ?_)
    show Ev _ _ _ _ _ _ 16 [some (.ref 53), some (.ref 57), some (.int v2), some (.int v3)] [.int q3.1, .int v3, .ref 57] q3.2 _
    refine e_if (fun h4 => ?_)
    refine e_iast' (dt dk_X10_passRow 12 rfl) rfl h4 ?_
    refine e_iinc [some (.ref 53), some (.ref 57), some (.int v2), some (.int (v3 + (1 : Int32)))] (dt dk_X10_passRow 13 rfl) rfl rfl rfl rfl ?_
    refine e_goto 2 (dt dk_X10_passRow 14 rfl) (by decide) ?_
    exact e_forget [true, true, true, true] [some (.ref 53), some (.ref 57), some (.int v2), some (.int (v3 + (1 : Int32)))] ⟨rfl, rfl⟩ (hK2 v2 (v3 + (1 : Int32)) (up2 q3.2 57 (ix v3) q3.1))
def lp_X10_passRow_57_2  : Nat → Int32 → Int32 → Mem → Option Mem
  | 0 => fun _ _ _ => none
  | n + 1 => bd_X10_passRow_57_2 (lp_X10_passRow_57_2 n)
theorem ev_lp_X10_passRow_57_2   : ∀ (n : Nat), ∀ (v2 : Int32) (v3 : Int32) (M : Mem), Ev none wV RX10 cX10_passRow none 1 2 [some (.ref 53), some (.ref 57), some (.int v2), some (.int v3)] [] M (lp_X10_passRow_57_2 n v2 v3 M)
  | 0 => fun _ _ _ => e_none
  | n + 1 => ev_bd_X10_passRow_57_2 (lp_X10_passRow_57_2 n) (ev_lp_X10_passRow_57_2 n)
def f_X10_passRow_57 (v2 : Int32) (M : Mem) : Option Mem :=
  (lp_X10_passRow_57_2 FU v2 (0 : Int32) M)
set_option maxRecDepth 20000 in
set_option maxHeartbeats 2000000 in
theorem sp_X10_passRow_57 (v2 : Int32) (M : Mem) : SpO wV yX10_passRow cX10_passRow 4 none 1 [.ref 53, .ref 57, .int v2] M (f_X10_passRow_57 v2 M) := by
  refine sp_of (L := [some (.ref 53), some (.ref 57), some (.int v2), none]) rfl (by decide +kernel) rfl rfl ?_
  unfold f_X10_passRow_57
  refine e_iconst (v := (0 : Int32)) (dt dk_X10_passRow 0 rfl) (by decide) ?_
  refine e_istore_n [some (.ref 53), some (.ref 57), some (.int v2), some (.int (0 : Int32))] (dt dk_X10_passRow 1 rfl) rfl rfl rfl ?_
  exact e_forget [true, true, true, true] [some (.ref 53), some (.ref 57), some (.int v2), some (.int (0 : Int32))] ⟨rfl, rfl⟩ (ev_lp_X10_passRow_57_2 FU v2 (0 : Int32) M)
-- X10_passRow_58 (W, depth 1)
def bd_X10_passRow_58_2  (K2 : Int32 → Int32 → Mem → Option Mem) (v2 : Int32) (v3 : Int32) (M : Mem) : Option Mem :=
  (if v2 ≤ v3 then some M else if inb v3 8 then ((f_X10_pass (M 58 (ix v3)) M)).bind fun q3 => if inb v3 8 then (K2 v2 (v3 + (1 : Int32)) (up2 q3.2 58 (ix v3) q3.1)) else none else none)
set_option maxRecDepth 20000 in
set_option maxHeartbeats 2000000 in
theorem ev_bd_X10_passRow_58_2  (K2 : Int32 → Int32 → Mem → Option Mem)  (hK2 : ∀ (v2 : Int32) (v3 : Int32) (M : Mem), Ev none wV RX10 cX10_passRow none 1 2 [some (.ref 53), some (.ref 58), some (.int v2), some (.int v3)] [] M (K2 v2 v3 M)) (v2 : Int32) (v3 : Int32) (M : Mem) : Ev none wV RX10 cX10_passRow none 1 2 [some (.ref 53), some (.ref 58), some (.int v2), some (.int v3)] [] M (bd_X10_passRow_58_2 K2 v2 v3 M) := by
  unfold bd_X10_passRow_58_2
  refine e_iload_n (dt dk_X10_passRow 2 rfl) rfl ?_
  refine e_iload_n (dt dk_X10_passRow 3 rfl) rfl ?_
  refine e_icmp_ge 23 (dt dk_X10_passRow 4 rfl) (by decide) (fun h1 => ?_) (fun h1 => ?_)
  · exact e_vret (dt dk_X10_passRow 15 rfl) rfl rfl
  · refine e_aload_n (dt dk_X10_passRow 5 rfl) rfl ?_
    refine e_iload_n (dt dk_X10_passRow 6 rfl) rfl ?_
    refine e_aload_n (dt dk_X10_passRow 7 rfl) rfl ?_
    refine e_aload_n (dt dk_X10_passRow 8 rfl) rfl ?_
    refine e_iload_n (dt dk_X10_passRow 9 rfl) rfl ?_
    refine e_if (fun h2 => ?_)
    refine e_iald' (v := (M 58 (ix v3))) (dt dk_X10_passRow 10 rfl) rfl h2 rfl ?_
    refine ev_call (ca_V (k := 53) mv_X10_pass (sp_X10_pass (M 58 (ix v3)) M) (dt dk_X10_passRow 11 rfl) ml_X10_304 rfl rfl rfl rfl rfl (by decide) : Ca _ _ _ _ _ _ _ _ [.int v3, .ref 58] _ _) (fun q3 hq3 => ?_)
    show Ev _ _ _ _ _ _ 16 [some (.ref 53), some (.ref 58), some (.int v2), some (.int v3)] [.int q3.1, .int v3, .ref 58] q3.2 _
    refine e_if (fun h4 => ?_)
    refine e_iast' (dt dk_X10_passRow 12 rfl) rfl h4 ?_
    refine e_iinc [some (.ref 53), some (.ref 58), some (.int v2), some (.int (v3 + (1 : Int32)))] (dt dk_X10_passRow 13 rfl) rfl rfl rfl rfl ?_
    refine e_goto 2 (dt dk_X10_passRow 14 rfl) (by decide) ?_
    exact e_forget [true, true, true, true] [some (.ref 53), some (.ref 58), some (.int v2), some (.int (v3 + (1 : Int32)))] ⟨rfl, rfl⟩ (hK2 v2 (v3 + (1 : Int32)) (up2 q3.2 58 (ix v3) q3.1))
def lp_X10_passRow_58_2  : Nat → Int32 → Int32 → Mem → Option Mem
  | 0 => fun _ _ _ => none
  | n + 1 => bd_X10_passRow_58_2 (lp_X10_passRow_58_2 n)
theorem ev_lp_X10_passRow_58_2   : ∀ (n : Nat), ∀ (v2 : Int32) (v3 : Int32) (M : Mem), Ev none wV RX10 cX10_passRow none 1 2 [some (.ref 53), some (.ref 58), some (.int v2), some (.int v3)] [] M (lp_X10_passRow_58_2 n v2 v3 M)
  | 0 => fun _ _ _ => e_none
  | n + 1 => ev_bd_X10_passRow_58_2 (lp_X10_passRow_58_2 n) (ev_lp_X10_passRow_58_2 n)
def f_X10_passRow_58 (v2 : Int32) (M : Mem) : Option Mem :=
  (lp_X10_passRow_58_2 FU v2 (0 : Int32) M)
set_option maxRecDepth 20000 in
set_option maxHeartbeats 2000000 in
theorem sp_X10_passRow_58 (v2 : Int32) (M : Mem) : SpO wV yX10_passRow cX10_passRow 4 none 1 [.ref 53, .ref 58, .int v2] M (f_X10_passRow_58 v2 M) := by
  refine sp_of (L := [some (.ref 53), some (.ref 58), some (.int v2), none]) rfl (by decide +kernel) rfl rfl ?_
  unfold f_X10_passRow_58
  refine e_iconst (v := (0 : Int32)) (dt dk_X10_passRow 0 rfl) (by decide) ?_
  refine e_istore_n [some (.ref 53), some (.ref 58), some (.int v2), some (.int (0 : Int32))] (dt dk_X10_passRow 1 rfl) rfl rfl rfl ?_
  exact e_forget [true, true, true, true] [some (.ref 53), some (.ref 58), some (.int v2), some (.int (0 : Int32))] ⟨rfl, rfl⟩ (ev_lp_X10_passRow_58_2 FU v2 (0 : Int32) M)
-- X10_passRow_59 (W, depth 1)
def bd_X10_passRow_59_2  (K2 : Int32 → Int32 → Mem → Option Mem) (v2 : Int32) (v3 : Int32) (M : Mem) : Option Mem :=
  (if v2 ≤ v3 then some M else if inb v3 8 then ((f_X10_pass (M 59 (ix v3)) M)).bind fun q3 => if inb v3 8 then (K2 v2 (v3 + (1 : Int32)) (up2 q3.2 59 (ix v3) q3.1)) else none else none)
set_option maxRecDepth 20000 in
set_option maxHeartbeats 2000000 in
theorem ev_bd_X10_passRow_59_2  (K2 : Int32 → Int32 → Mem → Option Mem)  (hK2 : ∀ (v2 : Int32) (v3 : Int32) (M : Mem), Ev none wV RX10 cX10_passRow none 1 2 [some (.ref 53), some (.ref 59), some (.int v2), some (.int v3)] [] M (K2 v2 v3 M)) (v2 : Int32) (v3 : Int32) (M : Mem) : Ev none wV RX10 cX10_passRow none 1 2 [some (.ref 53), some (.ref 59), some (.int v2), some (.int v3)] [] M (bd_X10_passRow_59_2 K2 v2 v3 M) := by
  unfold bd_X10_passRow_59_2
  refine e_iload_n (dt dk_X10_passRow 2 rfl) rfl ?_
  refine e_iload_n (dt dk_X10_passRow 3 rfl) rfl ?_
  refine e_icmp_ge 23 (dt dk_X10_passRow 4 rfl) (by decide) (fun h1 => ?_) (fun h1 => ?_)
  · exact e_vret (dt dk_X10_passRow 15 rfl) rfl rfl
  · refine e_aload_n (dt dk_X10_passRow 5 rfl) rfl ?_
    refine e_iload_n (dt dk_X10_passRow 6 rfl) rfl ?_
    refine e_aload_n (dt dk_X10_passRow 7 rfl) rfl ?_
    refine e_aload_n (dt dk_X10_passRow 8 rfl) rfl ?_
    refine e_iload_n (dt dk_X10_passRow 9 rfl) rfl ?_
    refine e_if (fun h2 => ?_)
    refine e_iald' (v := (M 59 (ix v3))) (dt dk_X10_passRow 10 rfl) rfl h2 rfl ?_
    refine ev_call (ca_V (k := 53) mv_X10_pass (sp_X10_pass (M 59 (ix v3)) M) (dt dk_X10_passRow 11 rfl) ml_X10_304 rfl rfl rfl rfl rfl (by decide) : Ca _ _ _ _ _ _ _ _ [.int v3, .ref 59] _ _) (fun q3 hq3 => ?_)
    show Ev _ _ _ _ _ _ 16 [some (.ref 53), some (.ref 59), some (.int v2), some (.int v3)] [.int q3.1, .int v3, .ref 59] q3.2 _
    refine e_if (fun h4 => ?_)
    refine e_iast' (dt dk_X10_passRow 12 rfl) rfl h4 ?_
    refine e_iinc [some (.ref 53), some (.ref 59), some (.int v2), some (.int (v3 + (1 : Int32)))] (dt dk_X10_passRow 13 rfl) rfl rfl rfl rfl ?_
    refine e_goto 2 (dt dk_X10_passRow 14 rfl) (by decide) ?_
    exact e_forget [true, true, true, true] [some (.ref 53), some (.ref 59), some (.int v2), some (.int (v3 + (1 : Int32)))] ⟨rfl, rfl⟩ (hK2 v2 (v3 + (1 : Int32)) (up2 q3.2 59 (ix v3) q3.1))
def lp_X10_passRow_59_2  : Nat → Int32 → Int32 → Mem → Option Mem
  | 0 => fun _ _ _ => none
  | n + 1 => bd_X10_passRow_59_2 (lp_X10_passRow_59_2 n)
theorem ev_lp_X10_passRow_59_2   : ∀ (n : Nat), ∀ (v2 : Int32) (v3 : Int32) (M : Mem), Ev none wV RX10 cX10_passRow none 1 2 [some (.ref 53), some (.ref 59), some (.int v2), some (.int v3)] [] M (lp_X10_passRow_59_2 n v2 v3 M)
  | 0 => fun _ _ _ => e_none
  | n + 1 => ev_bd_X10_passRow_59_2 (lp_X10_passRow_59_2 n) (ev_lp_X10_passRow_59_2 n)
def f_X10_passRow_59 (v2 : Int32) (M : Mem) : Option Mem :=
  (lp_X10_passRow_59_2 FU v2 (0 : Int32) M)
set_option maxRecDepth 20000 in
set_option maxHeartbeats 2000000 in
theorem sp_X10_passRow_59 (v2 : Int32) (M : Mem) : SpO wV yX10_passRow cX10_passRow 4 none 1 [.ref 53, .ref 59, .int v2] M (f_X10_passRow_59 v2 M) := by
  refine sp_of (L := [some (.ref 53), some (.ref 59), some (.int v2), none]) rfl (by decide +kernel) rfl rfl ?_
  unfold f_X10_passRow_59
  refine e_iconst (v := (0 : Int32)) (dt dk_X10_passRow 0 rfl) (by decide) ?_
  refine e_istore_n [some (.ref 53), some (.ref 59), some (.int v2), some (.int (0 : Int32))] (dt dk_X10_passRow 1 rfl) rfl rfl rfl ?_
  exact e_forget [true, true, true, true] [some (.ref 53), some (.ref 59), some (.int v2), some (.int (0 : Int32))] ⟨rfl, rfl⟩ (ev_lp_X10_passRow_59_2 FU v2 (0 : Int32) M)
-- X10_passRow_60 (W, depth 1)
def bd_X10_passRow_60_2  (K2 : Int32 → Int32 → Mem → Option Mem) (v2 : Int32) (v3 : Int32) (M : Mem) : Option Mem :=
  (if v2 ≤ v3 then some M else if inb v3 8 then ((f_X10_pass (M 60 (ix v3)) M)).bind fun q3 => if inb v3 8 then (K2 v2 (v3 + (1 : Int32)) (up2 q3.2 60 (ix v3) q3.1)) else none else none)
set_option maxRecDepth 20000 in
set_option maxHeartbeats 2000000 in
theorem ev_bd_X10_passRow_60_2  (K2 : Int32 → Int32 → Mem → Option Mem)  (hK2 : ∀ (v2 : Int32) (v3 : Int32) (M : Mem), Ev none wV RX10 cX10_passRow none 1 2 [some (.ref 53), some (.ref 60), some (.int v2), some (.int v3)] [] M (K2 v2 v3 M)) (v2 : Int32) (v3 : Int32) (M : Mem) : Ev none wV RX10 cX10_passRow none 1 2 [some (.ref 53), some (.ref 60), some (.int v2), some (.int v3)] [] M (bd_X10_passRow_60_2 K2 v2 v3 M) := by
  unfold bd_X10_passRow_60_2
  refine e_iload_n (dt dk_X10_passRow 2 rfl) rfl ?_
  refine e_iload_n (dt dk_X10_passRow 3 rfl) rfl ?_
  refine e_icmp_ge 23 (dt dk_X10_passRow 4 rfl) (by decide) (fun h1 => ?_) (fun h1 => ?_)
  · exact e_vret (dt dk_X10_passRow 15 rfl) rfl rfl
  · refine e_aload_n (dt dk_X10_passRow 5 rfl) rfl ?_
    refine e_iload_n (dt dk_X10_passRow 6 rfl) rfl ?_
    refine e_aload_n (dt dk_X10_passRow 7 rfl) rfl ?_
    refine e_aload_n (dt dk_X10_passRow 8 rfl) rfl ?_
    refine e_iload_n (dt dk_X10_passRow 9 rfl) rfl ?_
    refine e_if (fun h2 => ?_)
    refine e_iald' (v := (M 60 (ix v3))) (dt dk_X10_passRow 10 rfl) rfl h2 rfl ?_
    refine ev_call (ca_V (k := 53) mv_X10_pass (sp_X10_pass (M 60 (ix v3)) M) (dt dk_X10_passRow 11 rfl) ml_X10_304 rfl rfl rfl rfl rfl (by decide) : Ca _ _ _ _ _ _ _ _ [.int v3, .ref 60] _ _) (fun q3 hq3 => ?_)
    show Ev _ _ _ _ _ _ 16 [some (.ref 53), some (.ref 60), some (.int v2), some (.int v3)] [.int q3.1, .int v3, .ref 60] q3.2 _
    refine e_if (fun h4 => ?_)
    refine e_iast' (dt dk_X10_passRow 12 rfl) rfl h4 ?_
    refine e_iinc [some (.ref 53), some (.ref 60), some (.int v2), some (.int (v3 + (1 : Int32)))] (dt dk_X10_passRow 13 rfl) rfl rfl rfl rfl ?_
    refine e_goto 2 (dt dk_X10_passRow 14 rfl) (by decide) ?_
    exact e_forget [true, true, true, true] [some (.ref 53), some (.ref 60), some (.int v2), some (.int (v3 + (1 : Int32)))] ⟨rfl, rfl⟩ (hK2 v2 (v3 + (1 : Int32)) (up2 q3.2 60 (ix v3) q3.1))
def lp_X10_passRow_60_2  : Nat → Int32 → Int32 → Mem → Option Mem
  | 0 => fun _ _ _ => none
  | n + 1 => bd_X10_passRow_60_2 (lp_X10_passRow_60_2 n)
theorem ev_lp_X10_passRow_60_2   : ∀ (n : Nat), ∀ (v2 : Int32) (v3 : Int32) (M : Mem), Ev none wV RX10 cX10_passRow none 1 2 [some (.ref 53), some (.ref 60), some (.int v2), some (.int v3)] [] M (lp_X10_passRow_60_2 n v2 v3 M)
  | 0 => fun _ _ _ => e_none
  | n + 1 => ev_bd_X10_passRow_60_2 (lp_X10_passRow_60_2 n) (ev_lp_X10_passRow_60_2 n)
def f_X10_passRow_60 (v2 : Int32) (M : Mem) : Option Mem :=
  (lp_X10_passRow_60_2 FU v2 (0 : Int32) M)
set_option maxRecDepth 20000 in
set_option maxHeartbeats 2000000 in
theorem sp_X10_passRow_60 (v2 : Int32) (M : Mem) : SpO wV yX10_passRow cX10_passRow 4 none 1 [.ref 53, .ref 60, .int v2] M (f_X10_passRow_60 v2 M) := by
  refine sp_of (L := [some (.ref 53), some (.ref 60), some (.int v2), none]) rfl (by decide +kernel) rfl rfl ?_
  unfold f_X10_passRow_60
  refine e_iconst (v := (0 : Int32)) (dt dk_X10_passRow 0 rfl) (by decide) ?_
  refine e_istore_n [some (.ref 53), some (.ref 60), some (.int v2), some (.int (0 : Int32))] (dt dk_X10_passRow 1 rfl) rfl rfl rfl ?_
  exact e_forget [true, true, true, true] [some (.ref 53), some (.ref 60), some (.int v2), some (.int (0 : Int32))] ⟨rfl, rfl⟩ (ev_lp_X10_passRow_60_2 FU v2 (0 : Int32) M)
-- X10_passAll (W, depth 2)
def f_X10_passAll  (M : Mem) : Option Mem :=
  ((f_X10_pass (M 53 5) M)).bind fun q1 => ((f_X10_pass (q1.2 53 6) (up2 q1.2 53 5 q1.1))).bind fun q2 => ((f_X10_pass (q2.2 53 7) (up2 q2.2 53 6 q2.1))).bind fun q3 => ((f_X10_pass (q3.2 53 10) (up2 q3.2 53 7 q3.1))).bind fun q4 => ((f_X10_passRow_54 (8 : Int32) (up2 q4.2 53 10 q4.1))).bind fun q5 => ((f_X10_passRow_55 (8 : Int32) q5)).bind fun q6 => ((f_X10_passRow_56 (8 : Int32) q6)).bind fun q7 => ((f_X10_passRow_57 (8 : Int32) q7)).bind fun q8 => ((f_X10_passRow_58 (8 : Int32) q8)).bind fun q9 => ((f_X10_passRow_59 (8 : Int32) q9)).bind fun q10 => ((f_X10_passRow_60 (8 : Int32) q10)).bind fun q11 => some q11
set_option maxRecDepth 20000 in
set_option maxHeartbeats 2000000 in
theorem sp_X10_passAll  (M : Mem) : SpO wV yX10_passAll cX10_passAll 1 none 2 [.ref 53] M (f_X10_passAll M) := by
  refine sp_of (L := [some (.ref 53)]) rfl (by decide +kernel) rfl rfl ?_
  unfold f_X10_passAll
  refine e_aload_n (dt dk_X10_passAll 0 rfl) rfl ?_
  refine e_aload_n (dt dk_X10_passAll 1 rfl) rfl ?_
  refine e_aload_n (dt dk_X10_passAll 2 rfl) rfl ?_
  refine e_getI (v := (M 53 5)) ci_X10 (dt dk_X10_passAll 3 rfl) rfl (by decide) rfl fl_X10_74 rfl ?_
  refine ev_call (ca_V (k := 53) mv_X10_pass (sp_X10_pass (M 53 5) M) (dt dk_X10_passAll 4 rfl) ml_X10_304 rfl rfl rfl rfl rfl (by decide) : Ca _ _ _ _ _ _ _ _ [.ref 53] _ _) (fun q1 hq1 => ?_)
  show Ev _ _ _ _ _ _ 9 [some (.ref 53)] [.int q1.1, .ref 53] q1.2 _
  refine e_putI (ty := .int) ci_X10 (dt dk_X10_passAll 5 rfl) rfl (by decide) rfl fl_X10_74 rfl (by decide +kernel) rfl rfl ?_
  refine e_aload_n (dt dk_X10_passAll 6 rfl) rfl ?_
  refine e_aload_n (dt dk_X10_passAll 7 rfl) rfl ?_
  refine e_aload_n (dt dk_X10_passAll 8 rfl) rfl ?_
  refine e_getI (v := (q1.2 53 6)) ci_X10 (dt dk_X10_passAll 9 rfl) rfl (by decide) rfl fl_X10_143 rfl ?_
  refine ev_call (ca_V (k := 53) mv_X10_pass (sp_X10_pass (q1.2 53 6) (up2 q1.2 53 5 q1.1)) (dt dk_X10_passAll 10 rfl) ml_X10_304 rfl rfl rfl rfl rfl (by decide) : Ca _ _ _ _ _ _ _ _ [.ref 53] _ _) (fun q2 hq2 => ?_)
  show Ev _ _ _ _ _ _ 21 [some (.ref 53)] [.int q2.1, .ref 53] q2.2 _
  refine e_putI (ty := .int) ci_X10 (dt dk_X10_passAll 11 rfl) rfl (by decide) rfl fl_X10_143 rfl (by decide +kernel) rfl rfl ?_
  refine e_aload_n (dt dk_X10_passAll 12 rfl) rfl ?_
  refine e_aload_n (dt dk_X10_passAll 13 rfl) rfl ?_
  refine e_aload_n (dt dk_X10_passAll 14 rfl) rfl ?_
  refine e_getI (v := (q2.2 53 7)) ci_X10 (dt dk_X10_passAll 15 rfl) rfl (by decide) rfl fl_X10_134 rfl ?_
  refine ev_call (ca_V (k := 53) mv_X10_pass (sp_X10_pass (q2.2 53 7) (up2 q2.2 53 6 q2.1)) (dt dk_X10_passAll 16 rfl) ml_X10_304 rfl rfl rfl rfl rfl (by decide) : Ca _ _ _ _ _ _ _ _ [.ref 53] _ _) (fun q3 hq3 => ?_)
  show Ev _ _ _ _ _ _ 33 [some (.ref 53)] [.int q3.1, .ref 53] q3.2 _
  refine e_putI (ty := .int) ci_X10 (dt dk_X10_passAll 17 rfl) rfl (by decide) rfl fl_X10_134 rfl (by decide +kernel) rfl rfl ?_
  refine e_aload_n (dt dk_X10_passAll 18 rfl) rfl ?_
  refine e_aload_n (dt dk_X10_passAll 19 rfl) rfl ?_
  refine e_aload_n (dt dk_X10_passAll 20 rfl) rfl ?_
  refine e_getI (v := (q3.2 53 10)) ci_X10 (dt dk_X10_passAll 21 rfl) rfl (by decide) rfl fl_X10_246 rfl ?_
  refine ev_call (ca_V (k := 53) mv_X10_pass (sp_X10_pass (q3.2 53 10) (up2 q3.2 53 7 q3.1)) (dt dk_X10_passAll 22 rfl) ml_X10_304 rfl rfl rfl rfl rfl (by decide) : Ca _ _ _ _ _ _ _ _ [.ref 53] _ _) (fun q4 hq4 => ?_)
  show Ev _ _ _ _ _ _ 45 [some (.ref 53)] [.int q4.1, .ref 53] q4.2 _
  refine e_putI (ty := .int) ci_X10 (dt dk_X10_passAll 23 rfl) rfl (by decide) rfl fl_X10_246 rfl (by decide +kernel) rfl rfl ?_
  refine e_aload_n (dt dk_X10_passAll 24 rfl) rfl ?_
  refine e_aload_n (dt dk_X10_passAll 25 rfl) rfl ?_
  refine e_getR ci_X10 (dt dk_X10_passAll 26 rfl) rfl (by decide) rfl fl_X10_7 ?_
  refine e_bipush (v := (8 : Int32)) (dt dk_X10_passAll 27 rfl) (by decide) ?_
  refine ev_call (ca_V (k := 53) mv_X10_passRow (sp_X10_passRow_54 (8 : Int32) (up2 q4.2 53 10 q4.1)) (dt dk_X10_passAll 28 rfl) ml_X10_307 rfl rfl rfl rfl rfl (by decide) : Ca _ _ _ _ _ _ _ _ [] _ _) (fun q5 hq5 => ?_)
  show Ev _ _ _ _ _ _ 58 [some (.ref 53)] [] q5 _
  refine e_aload_n (dt dk_X10_passAll 29 rfl) rfl ?_
  refine e_aload_n (dt dk_X10_passAll 30 rfl) rfl ?_
  refine e_getR ci_X10 (dt dk_X10_passAll 31 rfl) rfl (by decide) rfl fl_X10_13 ?_
  refine e_bipush (v := (8 : Int32)) (dt dk_X10_passAll 32 rfl) (by decide) ?_
  refine ev_call (ca_V (k := 53) mv_X10_passRow (sp_X10_passRow_55 (8 : Int32) q5) (dt dk_X10_passAll 33 rfl) ml_X10_307 rfl rfl rfl rfl rfl (by decide) : Ca _ _ _ _ _ _ _ _ [] _ _) (fun q6 hq6 => ?_)
  show Ev _ _ _ _ _ _ 68 [some (.ref 53)] [] q6 _
  refine e_aload_n (dt dk_X10_passAll 34 rfl) rfl ?_
  refine e_aload_n (dt dk_X10_passAll 35 rfl) rfl ?_
  refine e_getR ci_X10 (dt dk_X10_passAll 36 rfl) rfl (by decide) rfl fl_X10_16 ?_
  refine e_bipush (v := (8 : Int32)) (dt dk_X10_passAll 37 rfl) (by decide) ?_
  refine ev_call (ca_V (k := 53) mv_X10_passRow (sp_X10_passRow_56 (8 : Int32) q6) (dt dk_X10_passAll 38 rfl) ml_X10_307 rfl rfl rfl rfl rfl (by decide) : Ca _ _ _ _ _ _ _ _ [] _ _) (fun q7 hq7 => ?_)
  show Ev _ _ _ _ _ _ 78 [some (.ref 53)] [] q7 _
  refine e_aload_n (dt dk_X10_passAll 39 rfl) rfl ?_
  refine e_aload_n (dt dk_X10_passAll 40 rfl) rfl ?_
  refine e_getR ci_X10 (dt dk_X10_passAll 41 rfl) rfl (by decide) rfl fl_X10_19 ?_
  refine e_bipush (v := (8 : Int32)) (dt dk_X10_passAll 42 rfl) (by decide) ?_
  refine ev_call (ca_V (k := 53) mv_X10_passRow (sp_X10_passRow_57 (8 : Int32) q7) (dt dk_X10_passAll 43 rfl) ml_X10_307 rfl rfl rfl rfl rfl (by decide) : Ca _ _ _ _ _ _ _ _ [] _ _) (fun q8 hq8 => ?_)
  show Ev _ _ _ _ _ _ 88 [some (.ref 53)] [] q8 _
  refine e_aload_n (dt dk_X10_passAll 44 rfl) rfl ?_
  refine e_aload_n (dt dk_X10_passAll 45 rfl) rfl ?_
  refine e_getR ci_X10 (dt dk_X10_passAll 46 rfl) rfl (by decide) rfl fl_X10_22 ?_
  refine e_bipush (v := (8 : Int32)) (dt dk_X10_passAll 47 rfl) (by decide) ?_
  refine ev_call (ca_V (k := 53) mv_X10_passRow (sp_X10_passRow_58 (8 : Int32) q8) (dt dk_X10_passAll 48 rfl) ml_X10_307 rfl rfl rfl rfl rfl (by decide) : Ca _ _ _ _ _ _ _ _ [] _ _) (fun q9 hq9 => ?_)
  show Ev _ _ _ _ _ _ 98 [some (.ref 53)] [] q9 _
  refine e_aload_n (dt dk_X10_passAll 49 rfl) rfl ?_
  refine e_aload_n (dt dk_X10_passAll 50 rfl) rfl ?_
  refine e_getR ci_X10 (dt dk_X10_passAll 51 rfl) rfl (by decide) rfl fl_X10_25 ?_
  refine e_bipush (v := (8 : Int32)) (dt dk_X10_passAll 52 rfl) (by decide) ?_
  refine ev_call (ca_V (k := 53) mv_X10_passRow (sp_X10_passRow_59 (8 : Int32) q9) (dt dk_X10_passAll 53 rfl) ml_X10_307 rfl rfl rfl rfl rfl (by decide) : Ca _ _ _ _ _ _ _ _ [] _ _) (fun q10 hq10 => ?_)
  show Ev _ _ _ _ _ _ 108 [some (.ref 53)] [] q10 _
  refine e_aload_n (dt dk_X10_passAll 54 rfl) rfl ?_
  refine e_aload_n (dt dk_X10_passAll 55 rfl) rfl ?_
  refine e_getR ci_X10 (dt dk_X10_passAll 56 rfl) rfl (by decide) rfl fl_X10_28 ?_
  refine e_bipush (v := (8 : Int32)) (dt dk_X10_passAll 57 rfl) (by decide) ?_
  refine ev_call (ca_V (k := 53) mv_X10_passRow (sp_X10_passRow_60 (8 : Int32) q10) (dt dk_X10_passAll 58 rfl) ml_X10_307 rfl rfl rfl rfl rfl (by decide) : Ca _ _ _ _ _ _ _ _ [] _ _) (fun q11 hq11 => ?_)
  show Ev _ _ _ _ _ _ 118 [some (.ref 53)] [] q11 _
  exact e_vret (dt dk_X10_passAll 59 rfl) rfl rfl
-- X10_image (W, depth 3)
def f_X10_image (v1 : Int32) (M : Mem) : Option (Int32 × Mem) :=
  (if (f_X10_in (Int32.toInt64 v1) (0 : Int64) (1 : Int64)) = 0 then some ((-2 : Int32), M) else ((f_X10_passAll (up2 (up2 M 53 32 ((70 : Int32) * v1)) 53 33 (1 : Int32)))).bind fun q2 => if inb v1 2 then some ((1 : Int32), (up2 q2 74 (ix v1) (1 : Int32))) else none)
set_option maxRecDepth 20000 in
set_option maxHeartbeats 2000000 in
theorem sp_X10_image (v1 : Int32) (M : Mem) : SpO wI yX10_image cX10_image 2 (some .int) 3 [.ref 53, .int v1] M (f_X10_image v1 M) := by
  refine sp_of (L := [some (.ref 53), some (.int v1)]) rfl (by decide +kernel) rfl rfl ?_
  unfold f_X10_image
  refine e_iload_n (dt dk_X10_image 0 rfl) rfl ?_
  refine e_i2l (dt dk_X10_image 1 rfl) ?_
  refine e_lconst (v := (0 : Int64)) (dt dk_X10_image 2 rfl) (by decide) ?_
  refine e_lconst (v := (1 : Int64)) (dt dk_X10_image 3 rfl) (by decide) ?_
  refine ev_callT (ca_S ms_X10_in (sp_X10_in (Int32.toInt64 v1) (0 : Int64) (1 : Int64) M) (dt dk_X10_image 4 rfl) ml_X10_80 rfl rfl rfl (by decide) : Ca _ _ _ _ _ _ _ _ [] _ _) ?_
  show Ev _ _ _ _ _ _ 7 [some (.ref 53), some (.int v1)] [.int (f_X10_in (Int32.toInt64 v1) (0 : Int64) (1 : Int64))] M _
  refine e_if_ne 13 (dt dk_X10_image 5 rfl) (by decide) (fun h1 => ?_) (fun h1 => ?_)
  · refine e_bipush (v := (-2 : Int32)) (dt dk_X10_image 6 rfl) (by decide) ?_
    exact e_iret (dt dk_X10_image 7 rfl) rfl rfl rfl
  · refine e_aload_n (dt dk_X10_image 8 rfl) rfl ?_
    refine e_bipush (v := (70 : Int32)) (dt dk_X10_image 9 rfl) (by decide) ?_
    refine e_iload_n (dt dk_X10_image 10 rfl) rfl ?_
    refine e_imul (dt dk_X10_image 11 rfl) ?_
    refine e_putI (ty := .int) ci_X10 (dt dk_X10_image 12 rfl) rfl (by decide) rfl fl_X10_301 rfl (by decide +kernel) rfl rfl ?_
    refine e_aload_n (dt dk_X10_image 13 rfl) rfl ?_
    refine e_iconst (v := (1 : Int32)) (dt dk_X10_image 14 rfl) (by decide) ?_
    refine e_putI (ty := .boolean) ci_X10 (dt dk_X10_image 15 rfl) rfl (by decide) rfl fl_X10_297 rfl (by decide +kernel) rfl rfl ?_
    refine e_aload_n (dt dk_X10_image 16 rfl) rfl ?_
    refine ev_call (ca_V (k := 53) mv_X10_passAll (sp_X10_passAll (up2 (up2 M 53 32 ((70 : Int32) * v1)) 53 33 (1 : Int32))) (dt dk_X10_image 17 rfl) ml_X10_311 rfl rfl rfl rfl rfl (by decide) : Ca _ _ _ _ _ _ _ _ [] _ _) (fun q2 hq2 => ?_)
    show Ev _ _ _ _ _ _ 30 [some (.ref 53), some (.int v1)] [] q2 _
    refine e_aload_n (dt dk_X10_image 18 rfl) rfl ?_
    refine e_getR ci_X10 (dt dk_X10_image 19 rfl) rfl (by decide) rfl fl_X10_70 ?_
    refine e_iload_n (dt dk_X10_image 20 rfl) rfl ?_
    refine e_iconst (v := (1 : Int32)) (dt dk_X10_image 21 rfl) (by decide) ?_
    refine e_if (fun h3 => ?_)
    refine e_zast' (dt dk_X10_image 22 rfl) rfl h3 rfl ?_
    refine e_iconst (v := (1 : Int32)) (dt dk_X10_image 23 rfl) (by decide) ?_
    exact e_iret (dt dk_X10_image 24 rfl) rfl rfl rfl
-- X10_restore (W, depth 3)
def f_X10_restore (v1 : Int32) (M : Mem) : Option (Int32 × Mem) :=
  (if (f_X10_in (Int32.toInt64 v1) (0 : Int64) (1 : Int64)) = 0 then some ((-2 : Int32), M) else if inb v1 2 then (if (M 74 (ix v1)) = 0 then some ((-3 : Int32), M) else ((f_X10_passAll (up2 (up2 M 53 32 ((70 : Int32) * v1)) 53 33 (0 : Int32)))).bind fun q4 => some ((1 : Int32), q4)) else none)
set_option maxRecDepth 20000 in
set_option maxHeartbeats 2000000 in
theorem sp_X10_restore (v1 : Int32) (M : Mem) : SpO wI yX10_restore cX10_restore 2 (some .int) 3 [.ref 53, .int v1] M (f_X10_restore v1 M) := by
  refine sp_of (L := [some (.ref 53), some (.int v1)]) rfl (by decide +kernel) rfl rfl ?_
  unfold f_X10_restore
  refine e_iload_n (dt dk_X10_restore 0 rfl) rfl ?_
  refine e_i2l (dt dk_X10_restore 1 rfl) ?_
  refine e_lconst (v := (0 : Int64)) (dt dk_X10_restore 2 rfl) (by decide) ?_
  refine e_lconst (v := (1 : Int64)) (dt dk_X10_restore 3 rfl) (by decide) ?_
  refine ev_callT (ca_S ms_X10_in (sp_X10_in (Int32.toInt64 v1) (0 : Int64) (1 : Int64) M) (dt dk_X10_restore 4 rfl) ml_X10_80 rfl rfl rfl (by decide) : Ca _ _ _ _ _ _ _ _ [] _ _) ?_
  show Ev _ _ _ _ _ _ 7 [some (.ref 53), some (.int v1)] [.int (f_X10_in (Int32.toInt64 v1) (0 : Int64) (1 : Int64))] M _
  refine e_if_ne 13 (dt dk_X10_restore 5 rfl) (by decide) (fun h1 => ?_) (fun h1 => ?_)
  · refine e_bipush (v := (-2 : Int32)) (dt dk_X10_restore 6 rfl) (by decide) ?_
    exact e_iret (dt dk_X10_restore 7 rfl) rfl rfl rfl
  · refine e_aload_n (dt dk_X10_restore 8 rfl) rfl ?_
    refine e_getR ci_X10 (dt dk_X10_restore 9 rfl) rfl (by decide) rfl fl_X10_70 ?_
    refine e_iload_n (dt dk_X10_restore 10 rfl) rfl ?_
    refine e_if (fun h2 => ?_)
    refine e_zald' (v := (M 74 (ix v1))) (dt dk_X10_restore 11 rfl) rfl h2 rfl ?_
    refine e_if_ne 25 (dt dk_X10_restore 12 rfl) (by decide) (fun h3 => ?_) (fun h3 => ?_)
    · refine e_bipush (v := (-3 : Int32)) (dt dk_X10_restore 13 rfl) (by decide) ?_
      exact e_iret (dt dk_X10_restore 14 rfl) rfl rfl rfl
    · refine e_aload_n (dt dk_X10_restore 15 rfl) rfl ?_
      refine e_bipush (v := (70 : Int32)) (dt dk_X10_restore 16 rfl) (by decide) ?_
      refine e_iload_n (dt dk_X10_restore 17 rfl) rfl ?_
      refine e_imul (dt dk_X10_restore 18 rfl) ?_
      refine e_putI (ty := .int) ci_X10 (dt dk_X10_restore 19 rfl) rfl (by decide) rfl fl_X10_301 rfl (by decide +kernel) rfl rfl ?_
      refine e_aload_n (dt dk_X10_restore 20 rfl) rfl ?_
      refine e_iconst (v := (0 : Int32)) (dt dk_X10_restore 21 rfl) (by decide) ?_
      refine e_putI (ty := .boolean) ci_X10 (dt dk_X10_restore 22 rfl) rfl (by decide) rfl fl_X10_297 rfl (by decide +kernel) rfl rfl ?_
      refine e_aload_n (dt dk_X10_restore 23 rfl) rfl ?_
      refine ev_call (ca_V (k := 53) mv_X10_passAll (sp_X10_passAll (up2 (up2 M 53 32 ((70 : Int32) * v1)) 53 33 (0 : Int32))) (dt dk_X10_restore 24 rfl) ml_X10_311 rfl rfl rfl rfl rfl (by decide) : Ca _ _ _ _ _ _ _ _ [] _ _) (fun q4 hq4 => ?_)
      show Ev _ _ _ _ _ _ 42 [some (.ref 53), some (.int v1)] [] q4 _
      refine e_iconst (v := (1 : Int32)) (dt dk_X10_restore 25 rfl) (by decide) ?_
      exact e_iret (dt dk_X10_restore 26 rfl) rfl rfl rfl
-- X10_told (R, depth 1)
def f_X10_told (v1 : Int32) (M : Mem) : Option Int32 :=
  (if (f_X10_in (Int32.toInt64 v1) (100 : Int64) (179 : Int64)) = 0 then (if (f_X10_in (Int32.toInt64 v1) (10 : Int64) (17 : Int64)) = 0 then (if v1 = (0 : Int32) then some (M 53 12) else if v1 = (1 : Int32) then ((f_X10_clear M)).bind fun r5 => some r5 else if v1 = (2 : Int32) then some (M 53 5) else if v1 = (3 : Int32) then some (M 53 6) else if v1 = (4 : Int32) then some (M 53 7) else if v1 = (5 : Int32) then some (M 53 10) else some (-2 : Int32)) else if inb (v1 - (10 : Int32)) 8 then some (M 58 (ix (v1 - (10 : Int32)))) else none) else (if (4 : Int32) ≤ (remI v1 (10 : Int32)) then some (-2 : Int32) else ((f_X10_ofHouse ((v1 - (100 : Int32)) / (10 : Int32)) (remI v1 (10 : Int32)) M)).bind fun r12 => some r12))
set_option maxRecDepth 20000 in
set_option maxHeartbeats 2000000 in
theorem sp_X10_told (v1 : Int32) (M : Mem) : SpO (wR M) yX10_told cX10_told 2 (some .int) 1 [.ref 53, .int v1] M (f_X10_told v1 M) := by
  refine sp_of (L := [some (.ref 53), some (.int v1)]) rfl (by decide +kernel) rfl rfl ?_
  unfold f_X10_told
  refine e_iload_n (dt dk_X10_told 0 rfl) rfl ?_
  refine e_i2l (dt dk_X10_told 1 rfl) ?_
  refine e_ldc2 (v := (100 : Int64)) (dt dk_X10_told 2 rfl) kl_X10_314 ?_
  refine e_ldc2 (v := (179 : Int64)) (dt dk_X10_told 3 rfl) kl_X10_316 ?_
  refine ev_callT (ca_S ms_X10_in (sp_X10_in (Int32.toInt64 v1) (100 : Int64) (179 : Int64) M) (dt dk_X10_told 4 rfl) ml_X10_80 rfl rfl rfl (by decide) : Ca _ _ _ _ _ _ _ _ [] _ _) ?_
  show Ev _ _ _ _ _ _ 11 [some (.ref 53), some (.int v1)] [.int (f_X10_in (Int32.toInt64 v1) (100 : Int64) (179 : Int64))] M _
  refine e_if_eq 43 (dt dk_X10_told 5 rfl) (by decide) (fun h1 => ?_) (fun h1 => ?_)
  · refine e_iload_n (dt dk_X10_told 24 rfl) rfl ?_
    refine e_i2l (dt dk_X10_told 25 rfl) ?_
    refine e_ldc2 (v := (10 : Int64)) (dt dk_X10_told 26 rfl) kl_X10_276 ?_
    refine e_ldc2 (v := (17 : Int64)) (dt dk_X10_told 27 rfl) kl_X10_318 ?_
    refine ev_callT (ca_S ms_X10_in (sp_X10_in (Int32.toInt64 v1) (10 : Int64) (17 : Int64) M) (dt dk_X10_told 28 rfl) ml_X10_80 rfl rfl rfl (by decide) : Ca _ _ _ _ _ _ _ _ [] _ _) ?_
    show Ev _ _ _ _ _ _ 54 [some (.ref 53), some (.int v1)] [.int (f_X10_in (Int32.toInt64 v1) (10 : Int64) (17 : Int64))] M _
    refine e_if_eq 67 (dt dk_X10_told 29 rfl) (by decide) (fun h2 => ?_) (fun h2 => ?_)
    · refine e_iload_n (dt dk_X10_told 37 rfl) rfl ?_
      refine e_split (fun h3 => ?_) (fun h3 => ?_)
      · refine e_tableIn 108 (dt dk_X10_told 38 rfl) (by rw [h3]; decide) (by rw [h3]; decide) (by rw [h3]; rfl) (by decide) ?_
        refine e_aload_n (dt dk_X10_told 39 rfl) rfl ?_
        refine e_getI (v := (M 53 12)) ci_X10 (dt dk_X10_told 40 rfl) rfl (by decide) rfl fl_X10_108 rfl ?_
        exact e_iret (dt dk_X10_told 41 rfl) rfl rfl rfl
      · skip
        refine e_split (fun h4 => ?_) (fun h4 => ?_)
        · refine e_tableIn 113 (dt dk_X10_told 38 rfl) (by rw [h4]; decide) (by rw [h4]; decide) (by rw [h4]; rfl) (by decide) ?_
          refine e_aload_n (dt dk_X10_told 42 rfl) rfl ?_
          refine ev_call (ca_V (k := 53) mv_X10_clear (sp_X10_clear M) (dt dk_X10_told 43 rfl) ml_X10_162 rfl rfl rfl rfl rfl (by decide) : Ca _ _ _ _ _ _ _ _ [] _ _) (fun r5 hr5 => ?_)
          show Ev _ _ _ _ _ _ 117 [some (.ref 53), some (.int v1)] [.int r5] M _
          exact e_iret (dt dk_X10_told 44 rfl) rfl rfl rfl
        · skip
          refine e_split (fun h6 => ?_) (fun h6 => ?_)
          · refine e_tableIn 118 (dt dk_X10_told 38 rfl) (by rw [h6]; decide) (by rw [h6]; decide) (by rw [h6]; rfl) (by decide) ?_
            refine e_aload_n (dt dk_X10_told 45 rfl) rfl ?_
            refine e_getI (v := (M 53 5)) ci_X10 (dt dk_X10_told 46 rfl) rfl (by decide) rfl fl_X10_74 rfl ?_
            exact e_iret (dt dk_X10_told 47 rfl) rfl rfl rfl
          · skip
            refine e_split (fun h7 => ?_) (fun h7 => ?_)
            · refine e_tableIn 123 (dt dk_X10_told 38 rfl) (by rw [h7]; decide) (by rw [h7]; decide) (by rw [h7]; rfl) (by decide) ?_
              refine e_aload_n (dt dk_X10_told 48 rfl) rfl ?_
              refine e_getI (v := (M 53 6)) ci_X10 (dt dk_X10_told 49 rfl) rfl (by decide) rfl fl_X10_143 rfl ?_
              exact e_iret (dt dk_X10_told 50 rfl) rfl rfl rfl
            · skip
              refine e_split (fun h8 => ?_) (fun h8 => ?_)
              · refine e_tableIn 128 (dt dk_X10_told 38 rfl) (by rw [h8]; decide) (by rw [h8]; decide) (by rw [h8]; rfl) (by decide) ?_
                refine e_aload_n (dt dk_X10_told 51 rfl) rfl ?_
                refine e_getI (v := (M 53 7)) ci_X10 (dt dk_X10_told 52 rfl) rfl (by decide) rfl fl_X10_134 rfl ?_
                exact e_iret (dt dk_X10_told 53 rfl) rfl rfl rfl
              · skip
                refine e_split (fun h9 => ?_) (fun h9 => ?_)
                · refine e_tableIn 133 (dt dk_X10_told 38 rfl) (by rw [h9]; decide) (by rw [h9]; decide) (by rw [h9]; rfl) (by decide) ?_
                  refine e_aload_n (dt dk_X10_told 54 rfl) rfl ?_
                  refine e_getI (v := (M 53 10)) ci_X10 (dt dk_X10_told 55 rfl) rfl (by decide) rfl fl_X10_246 rfl ?_
                  exact e_iret (dt dk_X10_told 56 rfl) rfl rfl rfl
                · skip
                  refine e_tableOut 138 (dt dk_X10_told 38 rfl) (sw_out 5 (by simp only [List.range, List.range.loop, List.all_cons, List.all_nil]; simp [h3, h4, h6, h7, h8, h9])) (by decide) ?_
                  refine e_bipush (v := (-2 : Int32)) (dt dk_X10_told 57 rfl) (by decide) ?_
                  exact e_iret (dt dk_X10_told 58 rfl) rfl rfl rfl
    · refine e_aload_n (dt dk_X10_told 30 rfl) rfl ?_
      refine e_getR ci_X10 (dt dk_X10_told 31 rfl) rfl (by decide) rfl fl_X10_22 ?_
      refine e_iload_n (dt dk_X10_told 32 rfl) rfl ?_
      refine e_bipush (v := (10 : Int32)) (dt dk_X10_told 33 rfl) (by decide) ?_
      refine e_isub (dt dk_X10_told 34 rfl) ?_
      refine e_if (fun h10 => ?_)
      refine e_iald' (v := (M 58 (ix (v1 - (10 : Int32))))) (dt dk_X10_told 35 rfl) rfl h10 rfl ?_
      exact e_iret (dt dk_X10_told 36 rfl) rfl rfl rfl
  · refine e_iload_n (dt dk_X10_told 6 rfl) rfl ?_
    refine e_bipush (v := (10 : Int32)) (dt dk_X10_told 7 rfl) (by decide) ?_
    refine e_irem' (dt dk_X10_told 8 rfl) (by decide) ?_
    show Ev _ _ _ _ _ _ 18 [some (.ref 53), some (.int v1)] [.int (remI v1 (10 : Int32))] M _
    refine e_iconst (v := (4 : Int32)) (dt dk_X10_told 9 rfl) (by decide) ?_
    refine e_icmp_ge 40 (dt dk_X10_told 10 rfl) (by decide) (fun h11 => ?_) (fun h11 => ?_)
    · refine e_bipush (v := (-2 : Int32)) (dt dk_X10_told 22 rfl) (by decide) ?_
      exact e_iret (dt dk_X10_told 23 rfl) rfl rfl rfl
    · refine e_aload_n (dt dk_X10_told 11 rfl) rfl ?_
      refine e_iload_n (dt dk_X10_told 12 rfl) rfl ?_
      refine e_bipush (v := (100 : Int32)) (dt dk_X10_told 13 rfl) (by decide) ?_
      refine e_isub (dt dk_X10_told 14 rfl) ?_
      refine e_bipush (v := (10 : Int32)) (dt dk_X10_told 15 rfl) (by decide) ?_
      refine e_idiv' (dt dk_X10_told 16 rfl) (by decide) ?_
      show Ev _ _ _ _ _ _ 30 [some (.ref 53), some (.int v1)] [.int ((v1 - (100 : Int32)) / (10 : Int32)), .ref 53] M _
      refine e_iload_n (dt dk_X10_told 17 rfl) rfl ?_
      refine e_bipush (v := (10 : Int32)) (dt dk_X10_told 18 rfl) (by decide) ?_
      refine e_irem' (dt dk_X10_told 19 rfl) (by decide) ?_
      show Ev _ _ _ _ _ _ 34 [some (.ref 53), some (.int v1)] [.int (remI v1 (10 : Int32)), .int ((v1 - (100 : Int32)) / (10 : Int32)), .ref 53] M _
      refine ev_call (ca_V (k := 53) mv_X10_ofHouse (sp_X10_ofHouse ((v1 - (100 : Int32)) / (10 : Int32)) (remI v1 (10 : Int32)) M) (dt dk_X10_told 20 rfl) ml_X10_212 rfl rfl rfl rfl rfl (by decide) : Ca _ _ _ _ _ _ _ _ [] _ _) (fun r12 hr12 => ?_)
      show Ev _ _ _ _ _ _ 37 [some (.ref 53), some (.int v1)] [.int r12] M _
      refine e_goto 42 (dt dk_X10_told 21 rfl) (by decide) ?_
      exact e_iret (dt dk_X10_told 23 rfl) rfl rfl rfl
