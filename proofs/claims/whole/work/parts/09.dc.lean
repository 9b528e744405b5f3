-- X9_house (W, depth 1)
def f_X9_house (v1 : Int32) (v2 : Int32) (v3 : Int32) (v4 : Int32) (v5 : Int32) (M : Mem) : Option (Int32 × Mem) :=
  (if (f_X9_isHouse v1) = 0 then some ((-1 : Int32), M) else (if (f_X9_within v2 (0 : Int32) (99 : Int32)) = 0 then some ((-2 : Int32), M) else (if (f_X9_within v3 (0 : Int32) (9 : Int32)) = 0 then some ((-2 : Int32), M) else (if (f_X9_within v4 (0 : Int32) (9 : Int32)) = 0 then some ((-2 : Int32), M) else (if (f_X9_within v5 (0 : Int32) (9 : Int32)) = 0 then some ((-2 : Int32), M) else if inb v1 8 then if inb v1 8 then if inb v1 8 then if inb v1 8 then if inb v1 8 then some ((M 2 (ix v1)), (up2 (up2 (up2 (up2 M 2 (ix v1) v2) 3 (ix v1) v3) 4 (ix v1) v4) 5 (ix v1) v5)) else none else none else none else none else none)))))
set_option maxRecDepth 20000 in
set_option maxHeartbeats 2000000 in
theorem sp_X9_house (v1 : Int32) (v2 : Int32) (v3 : Int32) (v4 : Int32) (v5 : Int32) (M : Mem) : SpO wI yX9_house cX9_house 7 (some .int) 1 [.ref 0, .int v1, .int v2, .int v3, .int v4, .int v5] M (f_X9_house v1 v2 v3 v4 v5 M) := by
  refine sp_of (L := [some (.ref 0), some (.int v1), some (.int v2), some (.int v3), some (.int v4), some (.int v5), none]) rfl (by decide +kernel) rfl rfl ?_
  unfold f_X9_house
  refine e_iload_n (dt dk_X9_house 0 rfl) rfl ?_
  refine ev_callT (ca_S ms_X9_isHouse (sp_X9_isHouse v1 M) (dt dk_X9_house 1 rfl) ml_X9_75 rfl rfl rfl (by decide) : Ca _ _ _ _ _ _ _ _ [] _ _) ?_
  show Ev _ _ _ _ _ _ 4 [some (.ref 0), some (.int v1), some (.int v2), some (.int v3), some (.int v4), some (.int v5), none] [.int (f_X9_isHouse v1)] M _
  refine e_if_ne 9 (dt dk_X9_house 2 rfl) (by decide) (fun h1 => ?_) (fun h1 => ?_)
  · refine e_iconst (v := (-1 : Int32)) (dt dk_X9_house 3 rfl) (by decide) ?_
    exact e_iret (dt dk_X9_house 4 rfl) rfl rfl rfl
  · refine e_iload_n (dt dk_X9_house 5 rfl) rfl ?_
    refine e_iconst (v := (0 : Int32)) (dt dk_X9_house 6 rfl) (by decide) ?_
    refine e_bipush (v := (99 : Int32)) (dt dk_X9_house 7 rfl) (by decide) ?_
    refine ev_callT (ca_S ms_X9_within (sp_X9_within v2 (0 : Int32) (99 : Int32) M) (dt dk_X9_house 8 rfl) ml_X9_79 rfl rfl rfl (by decide) : Ca _ _ _ _ _ _ _ _ [] _ _) ?_
    show Ev _ _ _ _ _ _ 16 [some (.ref 0), some (.int v1), some (.int v2), some (.int v3), some (.int v4), some (.int v5), none] [.int (f_X9_within v2 (0 : Int32) (99 : Int32))] M _
    refine e_if_eq 51 (dt dk_X9_house 9 rfl) (by decide) (fun h2 => ?_) (fun h2 => ?_)
    · refine e_bipush (v := (-2 : Int32)) (dt dk_X9_house 25 rfl) (by decide) ?_
      exact e_iret (dt dk_X9_house 26 rfl) rfl rfl rfl
    · refine e_iload_n (dt dk_X9_house 10 rfl) rfl ?_
      refine e_iconst (v := (0 : Int32)) (dt dk_X9_house 11 rfl) (by decide) ?_
      refine e_bipush (v := (9 : Int32)) (dt dk_X9_house 12 rfl) (by decide) ?_
      refine ev_callT (ca_S ms_X9_within (sp_X9_within v3 (0 : Int32) (9 : Int32) M) (dt dk_X9_house 13 rfl) ml_X9_79 rfl rfl rfl (by decide) : Ca _ _ _ _ _ _ _ _ [] _ _) ?_
      show Ev _ _ _ _ _ _ 26 [some (.ref 0), some (.int v1), some (.int v2), some (.int v3), some (.int v4), some (.int v5), none] [.int (f_X9_within v3 (0 : Int32) (9 : Int32))] M _
      refine e_if_eq 51 (dt dk_X9_house 14 rfl) (by decide) (fun h3 => ?_) (fun h3 => ?_)
      · refine e_bipush (v := (-2 : Int32)) (dt dk_X9_house 25 rfl) (by decide) ?_
        exact e_iret (dt dk_X9_house 26 rfl) rfl rfl rfl
      · refine e_iload (dt dk_X9_house 15 rfl) rfl ?_
        refine e_iconst (v := (0 : Int32)) (dt dk_X9_house 16 rfl) (by decide) ?_
        refine e_bipush (v := (9 : Int32)) (dt dk_X9_house 17 rfl) (by decide) ?_
        refine ev_callT (ca_S ms_X9_within (sp_X9_within v4 (0 : Int32) (9 : Int32) M) (dt dk_X9_house 18 rfl) ml_X9_79 rfl rfl rfl (by decide) : Ca _ _ _ _ _ _ _ _ [] _ _) ?_
        show Ev _ _ _ _ _ _ 37 [some (.ref 0), some (.int v1), some (.int v2), some (.int v3), some (.int v4), some (.int v5), none] [.int (f_X9_within v4 (0 : Int32) (9 : Int32))] M _
        refine e_if_eq 51 (dt dk_X9_house 19 rfl) (by decide) (fun h4 => ?_) (fun h4 => ?_)
        · refine e_bipush (v := (-2 : Int32)) (dt dk_X9_house 25 rfl) (by decide) ?_
          exact e_iret (dt dk_X9_house 26 rfl) rfl rfl rfl
        · refine e_iload (dt dk_X9_house 20 rfl) rfl ?_
          refine e_iconst (v := (0 : Int32)) (dt dk_X9_house 21 rfl) (by decide) ?_
          refine e_bipush (v := (9 : Int32)) (dt dk_X9_house 22 rfl) (by decide) ?_
          refine ev_callT (ca_S ms_X9_within (sp_X9_within v5 (0 : Int32) (9 : Int32) M) (dt dk_X9_house 23 rfl) ml_X9_79 rfl rfl rfl (by decide) : Ca _ _ _ _ _ _ _ _ [] _ _) ?_
          show Ev _ _ _ _ _ _ 48 [some (.ref 0), some (.int v1), some (.int v2), some (.int v3), some (.int v4), some (.int v5), none] [.int (f_X9_within v5 (0 : Int32) (9 : Int32))] M _
          refine e_if_ne 54 (dt dk_X9_house 24 rfl) (by decide) (fun h5 => ?_) (fun h5 => ?_)
          · refine e_bipush (v := (-2 : Int32)) (dt dk_X9_house 25 rfl) (by decide) ?_
            exact e_iret (dt dk_X9_house 26 rfl) rfl rfl rfl
          · refine e_aload_n (dt dk_X9_house 27 rfl) rfl ?_
            refine e_getR ci_X9 (dt dk_X9_house 28 rfl) rfl (by decide) rfl fl_X9_10 ?_
            refine e_getR ci_X8 (dt dk_X9_house 29 rfl) rfl (by decide) rfl fl_X9_83 ?_
            refine e_iload_n (dt dk_X9_house 30 rfl) rfl ?_
            refine e_if (fun h6 => ?_)
            refine e_iald' (v := (M 2 (ix v1))) (dt dk_X9_house 31 rfl) rfl h6 rfl ?_
            refine e_istore [some (.ref 0), some (.int v1), some (.int v2), some (.int v3), some (.int v4), some (.int v5), some (.int (M 2 (ix v1)))] (dt dk_X9_house 32 rfl) rfl rfl rfl ?_
            refine e_aload_n (dt dk_X9_house 33 rfl) rfl ?_
            refine e_getR ci_X9 (dt dk_X9_house 34 rfl) rfl (by decide) rfl fl_X9_10 ?_
            refine e_getR ci_X8 (dt dk_X9_house 35 rfl) rfl (by decide) rfl fl_X9_83 ?_
            refine e_iload_n (dt dk_X9_house 36 rfl) rfl ?_
            refine e_iload_n (dt dk_X9_house 37 rfl) rfl ?_
            refine e_if (fun h7 => ?_)
            refine e_iast' (dt dk_X9_house 38 rfl) rfl h7 ?_
            refine e_aload_n (dt dk_X9_house 39 rfl) rfl ?_
            refine e_getR ci_X9 (dt dk_X9_house 40 rfl) rfl (by decide) rfl fl_X9_10 ?_
            refine e_getR ci_X8 (dt dk_X9_house 41 rfl) rfl (by decide) rfl fl_X9_87 ?_
            refine e_iload_n (dt dk_X9_house 42 rfl) rfl ?_
            refine e_iload_n (dt dk_X9_house 43 rfl) rfl ?_
            refine e_if (fun h8 => ?_)
            refine e_iast' (dt dk_X9_house 44 rfl) rfl h8 ?_
            refine e_aload_n (dt dk_X9_house 45 rfl) rfl ?_
            refine e_getR ci_X9 (dt dk_X9_house 46 rfl) rfl (by decide) rfl fl_X9_10 ?_
            refine e_getR ci_X8 (dt dk_X9_house 47 rfl) rfl (by decide) rfl fl_X9_90 ?_
            refine e_iload_n (dt dk_X9_house 48 rfl) rfl ?_
            refine e_iload (dt dk_X9_house 49 rfl) rfl ?_
            refine e_if (fun h9 => ?_)
            refine e_iast' (dt dk_X9_house 50 rfl) rfl h9 ?_
            refine e_aload_n (dt dk_X9_house 51 rfl) rfl ?_
            refine e_getR ci_X9 (dt dk_X9_house 52 rfl) rfl (by decide) rfl fl_X9_10 ?_
            refine e_getR ci_X8 (dt dk_X9_house 53 rfl) rfl (by decide) rfl fl_X9_93 ?_
            refine e_iload_n (dt dk_X9_house 54 rfl) rfl ?_
            refine e_iload (dt dk_X9_house 55 rfl) rfl ?_
            refine e_if (fun h10 => ?_)
            refine e_iast' (dt dk_X9_house 56 rfl) rfl h10 ?_
            refine e_iload (dt dk_X9_house 57 rfl) rfl ?_
            exact e_iret (dt dk_X9_house 58 rfl) rfl rfl rfl
-- X9_hole (W, depth 2)
def lb_X9_hole_43   (M : Mem) : Option (Int32 × Mem) :=
  ((f_X8_countHoles_1 M)).bind fun r6 => some (r6, M)
set_option maxRecDepth 20000 in
set_option maxHeartbeats 2000000 in
theorem ev_lb_X9_hole_43    (M : Mem) : Ev none wI RX9 cX9_hole (some .int) 2 43 [some (.ref 0), none, none, none] [] M (lb_X9_hole_43 M) := by
  unfold lb_X9_hole_43
  refine e_aload_n (dt dk_X9_hole 23 rfl) rfl ?_
  refine e_getR ci_X9 (dt dk_X9_hole 24 rfl) rfl (by decide) rfl fl_X9_10 ?_
  refine ev_call (ca_V (k := 1) mv_X8_countHoles (sp_X8_countHoles_1 M) (dt dk_X9_hole 25 rfl) ml_X9_104 rfl rfl rfl rfl rfl (by decide) : Ca _ _ _ _ _ _ _ _ [] _ _) (fun r6 hr6 => ?_)
  show Ev _ _ _ _ _ _ 50 [some (.ref 0), none, none, none] [.int r6] M _
  exact e_iret (dt dk_X9_hole 26 rfl) rfl rfl rfl
def f_X9_hole (v1 : Int32) (v2 : Int32) (v3 : Int32) (M : Mem) : Option (Int32 × Mem) :=
  (if (f_X9_isHouse v1) = 0 then some ((-1 : Int32), M) else (if (f_X9_isHouse v2) = 0 then some ((-1 : Int32), M) else (if v1 = v2 then some ((-1 : Int32), M) else ((f_X8_hasHole_1 v1 v2 M)).bind fun r4 => (if r4 = v3 then (lb_X9_hole_43 M) else ((f_X8_turnHole_1 v1 v2 M)).bind fun q7 => (lb_X9_hole_43 q7)))))
set_option maxRecDepth 20000 in
set_option maxHeartbeats 2000000 in
theorem sp_X9_hole (v1 : Int32) (v2 : Int32) (v3 : Int32) (M : Mem) : SpO wI yX9_hole cX9_hole 4 (some .int) 2 [.ref 0, .int v1, .int v2, .int v3] M (f_X9_hole v1 v2 v3 M) := by
  refine sp_of (L := [some (.ref 0), some (.int v1), some (.int v2), some (.int v3)]) rfl (by decide +kernel) rfl rfl ?_
  unfold f_X9_hole
  refine e_iload_n (dt dk_X9_hole 0 rfl) rfl ?_
  refine ev_callT (ca_S ms_X9_isHouse (sp_X9_isHouse v1 M) (dt dk_X9_hole 1 rfl) ml_X9_75 rfl rfl rfl (by decide) : Ca _ _ _ _ _ _ _ _ [] _ _) ?_
  show Ev _ _ _ _ _ _ 4 [some (.ref 0), some (.int v1), some (.int v2), some (.int v3)] [.int (f_X9_isHouse v1)] M _
  refine e_if_eq 19 (dt dk_X9_hole 2 rfl) (by decide) (fun h1 => ?_) (fun h1 => ?_)
  · refine e_iconst (v := (-1 : Int32)) (dt dk_X9_hole 9 rfl) (by decide) ?_
    exact e_iret (dt dk_X9_hole 10 rfl) rfl rfl rfl
  · refine e_iload_n (dt dk_X9_hole 3 rfl) rfl ?_
    refine ev_callT (ca_S ms_X9_isHouse (sp_X9_isHouse v2 M) (dt dk_X9_hole 4 rfl) ml_X9_75 rfl rfl rfl (by decide) : Ca _ _ _ _ _ _ _ _ [] _ _) ?_
    show Ev _ _ _ _ _ _ 11 [some (.ref 0), some (.int v1), some (.int v2), some (.int v3)] [.int (f_X9_isHouse v2)] M _
    refine e_if_eq 19 (dt dk_X9_hole 5 rfl) (by decide) (fun h2 => ?_) (fun h2 => ?_)
    · refine e_iconst (v := (-1 : Int32)) (dt dk_X9_hole 9 rfl) (by decide) ?_
      exact e_iret (dt dk_X9_hole 10 rfl) rfl rfl rfl
    · refine e_iload_n (dt dk_X9_hole 6 rfl) rfl ?_
      refine e_iload_n (dt dk_X9_hole 7 rfl) rfl ?_
      refine e_icmp_ne 21 (dt dk_X9_hole 8 rfl) (by decide) (fun h3 => ?_) (fun h3 => ?_)
      · refine e_iconst (v := (-1 : Int32)) (dt dk_X9_hole 9 rfl) (by decide) ?_
        exact e_iret (dt dk_X9_hole 10 rfl) rfl rfl rfl
      · refine e_aload_n (dt dk_X9_hole 11 rfl) rfl ?_
        refine e_getR ci_X9 (dt dk_X9_hole 12 rfl) rfl (by decide) rfl fl_X9_10 ?_
        refine e_iload_n (dt dk_X9_hole 13 rfl) rfl ?_
        refine e_iload_n (dt dk_X9_hole 14 rfl) rfl ?_
        refine ev_call (ca_V (k := 1) mv_X8_hasHole (sp_X8_hasHole_1 v1 v2 M) (dt dk_X9_hole 15 rfl) ml_X9_96 rfl rfl rfl rfl rfl (by decide) : Ca _ _ _ _ _ _ _ _ [] _ _) (fun r4 hr4 => ?_)
        show Ev _ _ _ _ _ _ 30 [some (.ref 0), some (.int v1), some (.int v2), some (.int v3)] [.int r4] M _
        refine e_iload_n (dt dk_X9_hole 16 rfl) rfl ?_
        refine e_icmp_eq 43 (dt dk_X9_hole 17 rfl) (by decide) (fun h5 => ?_) (fun h5 => ?_)
        · exact e_forget [true, false, false, false] [some (.ref 0), none, none, none] ⟨rfl, rfl⟩ (ev_lb_X9_hole_43 M)
        · refine e_aload_n (dt dk_X9_hole 18 rfl) rfl ?_
          refine e_getR ci_X9 (dt dk_X9_hole 19 rfl) rfl (by decide) rfl fl_X9_10 ?_
          refine e_iload_n (dt dk_X9_hole 20 rfl) rfl ?_
          refine e_iload_n (dt dk_X9_hole 21 rfl) rfl ?_
          refine ev_call (ca_V (k := 1) mv_X8_turnHole (sp_X8_turnHole_1 v1 v2 M) (dt dk_X9_hole 22 rfl) ml_X9_100 rfl rfl rfl rfl rfl (by decide) : Ca _ _ _ _ _ _ _ _ [] _ _) (fun q7 hq7 => ?_)
          show Ev _ _ _ _ _ _ 43 [some (.ref 0), some (.int v1), some (.int v2), some (.int v3)] [] q7 _
          exact e_forget [true, false, false, false] [some (.ref 0), none, none, none] ⟨rfl, rfl⟩ (ev_lb_X9_hole_43 q7)
-- X9_bag (W, depth 1)
def f_X9_bag (v1 : Int32) (M : Mem) : Option (Int32 × Mem) :=
  (if (f_X9_within v1 (0 : Int32) (99 : Int32)) = 0 then some ((-2 : Int32), M) else some ((M 1 6), (up2 M 1 6 v1)))
set_option maxRecDepth 20000 in
set_option maxHeartbeats 2000000 in
theorem sp_X9_bag (v1 : Int32) (M : Mem) : SpO wI yX9_bag cX9_bag 3 (some .int) 1 [.ref 0, .int v1] M (f_X9_bag v1 M) := by
  refine sp_of (L := [some (.ref 0), some (.int v1), none]) rfl (by decide +kernel) rfl rfl ?_
  unfold f_X9_bag
  refine e_iload_n (dt dk_X9_bag 0 rfl) rfl ?_
  refine e_iconst (v := (0 : Int32)) (dt dk_X9_bag 1 rfl) (by decide) ?_
  refine e_bipush (v := (99 : Int32)) (dt dk_X9_bag 2 rfl) (by decide) ?_
  refine ev_callT (ca_S ms_X9_within (sp_X9_within v1 (0 : Int32) (99 : Int32) M) (dt dk_X9_bag 3 rfl) ml_X9_79 rfl rfl rfl (by decide) : Ca _ _ _ _ _ _ _ _ [] _ _) ?_
  show Ev _ _ _ _ _ _ 7 [some (.ref 0), some (.int v1), none] [.int (f_X9_within v1 (0 : Int32) (99 : Int32))] M _
  refine e_if_ne 13 (dt dk_X9_bag 4 rfl) (by decide) (fun h1 => ?_) (fun h1 => ?_)
  · refine e_bipush (v := (-2 : Int32)) (dt dk_X9_bag 5 rfl) (by decide) ?_
    exact e_iret (dt dk_X9_bag 6 rfl) rfl rfl rfl
  · refine e_aload_n (dt dk_X9_bag 7 rfl) rfl ?_
    refine e_getR ci_X9 (dt dk_X9_bag 8 rfl) rfl (by decide) rfl fl_X9_10 ?_
    refine e_getI (v := (M 1 6)) ci_X8 (dt dk_X9_bag 9 rfl) rfl (by decide) rfl fl_X9_108 rfl ?_
    refine e_istore_n [some (.ref 0), some (.int v1), some (.int (M 1 6))] (dt dk_X9_bag 10 rfl) rfl rfl rfl ?_
    refine e_aload_n (dt dk_X9_bag 11 rfl) rfl ?_
    refine e_getR ci_X9 (dt dk_X9_bag 12 rfl) rfl (by decide) rfl fl_X9_10 ?_
    refine e_iload_n (dt dk_X9_bag 13 rfl) rfl ?_
    refine e_putI (ty := .int) ci_X8 (dt dk_X9_bag 14 rfl) rfl (by decide) rfl fl_X9_108 rfl (by decide +kernel) rfl rfl ?_
    refine e_iload_n (dt dk_X9_bag 15 rfl) rfl ?_
    exact e_iret (dt dk_X9_bag 16 rfl) rfl rfl rfl
-- X9_say (W, depth 1)
def f_X9_say (v1 : Int32) (M : Mem) : Option (Int32 × Mem) :=
  (if (f_X9_within v1 (33 : Int32) (126 : Int32)) = 0 then some ((-2 : Int32), M) else ((f_X5_add_15 v1 M)).bind fun q2 => (if q2.1 = 0 then some ((-4 : Int32), q2.2) else some ((q2.2 15 1), q2.2)))
set_option maxRecDepth 20000 in
set_option maxHeartbeats 2000000 in
theorem sp_X9_say (v1 : Int32) (M : Mem) : SpO wI yX9_say cX9_say 2 (some .int) 1 [.ref 0, .int v1] M (f_X9_say v1 M) := by
  refine sp_of (L := [some (.ref 0), some (.int v1)]) rfl (by decide +kernel) rfl rfl ?_
  unfold f_X9_say
  refine e_iload_n (dt dk_X9_say 0 rfl) rfl ?_
  refine e_bipush (v := (33 : Int32)) (dt dk_X9_say 1 rfl) (by decide) ?_
  refine e_bipush (v := (126 : Int32)) (dt dk_X9_say 2 rfl) (by decide) ?_
  refine ev_callT (ca_S ms_X9_within (sp_X9_within v1 (33 : Int32) (126 : Int32) M) (dt dk_X9_say 3 rfl) ml_X9_79 rfl rfl rfl (by decide) : Ca _ _ _ _ _ _ _ _ [] _ _) ?_
  show Ev _ _ _ _ _ _ 8 [some (.ref 0), some (.int v1)] [.int (f_X9_within v1 (33 : Int32) (126 : Int32))] M _
  refine e_if_ne 14 (dt dk_X9_say 4 rfl) (by decide) (fun h1 => ?_) (fun h1 => ?_)
  · refine e_bipush (v := (-2 : Int32)) (dt dk_X9_say 5 rfl) (by decide) ?_
    exact e_iret (dt dk_X9_say 6 rfl) rfl rfl rfl
  · refine e_aload_n (dt dk_X9_say 7 rfl) rfl ?_
    refine e_getR ci_X9 (dt dk_X9_say 8 rfl) rfl (by decide) rfl fl_X9_22 ?_
    refine e_iload_n (dt dk_X9_say 9 rfl) rfl ?_
    refine ev_call (ca_V (k := 15) mv_X5_add (sp_X5_add_15 v1 M) (dt dk_X9_say 10 rfl) ml_X9_112 rfl rfl rfl rfl rfl (by decide) : Ca _ _ _ _ _ _ _ _ [] _ _) (fun q2 hq2 => ?_)
    show Ev _ _ _ _ _ _ 22 [some (.ref 0), some (.int v1)] [.int q2.1] q2.2 _
    refine e_if_eq 35 (dt dk_X9_say 11 rfl) (by decide) (fun h3 => ?_) (fun h3 => ?_)
    · refine e_bipush (v := (-4 : Int32)) (dt dk_X9_say 16 rfl) (by decide) ?_
      exact e_iret (dt dk_X9_say 17 rfl) rfl rfl rfl
    · refine e_aload_n (dt dk_X9_say 12 rfl) rfl ?_
      refine e_getR ci_X9 (dt dk_X9_say 13 rfl) rfl (by decide) rfl fl_X9_22 ?_
      refine e_getI (v := (q2.2 15 1)) ci_X5 (dt dk_X9_say 14 rfl) rfl (by decide) rfl fl_X9_115 rfl ?_
      refine e_goto 37 (dt dk_X9_say 15 rfl) (by decide) ?_
      exact e_iret (dt dk_X9_say 17 rfl) rfl rfl rfl
-- X9_wipe (W, depth 0)
def f_X9_wipe  (M : Mem) : Option (Int32 × Mem) :=
  some ((M 15 1), (up2 M 15 1 (0 : Int32)))
set_option maxRecDepth 20000 in
set_option maxHeartbeats 2000000 in
theorem sp_X9_wipe  (M : Mem) : SpO wI yX9_wipe cX9_wipe 2 (some .int) 0 [.ref 0] M (f_X9_wipe M) := by
  refine sp_of (L := [some (.ref 0), none]) rfl (by decide +kernel) rfl rfl ?_
  unfold f_X9_wipe
  refine e_aload_n (dt dk_X9_wipe 0 rfl) rfl ?_
  refine e_getR ci_X9 (dt dk_X9_wipe 1 rfl) rfl (by decide) rfl fl_X9_22 ?_
  refine e_getI (v := (M 15 1)) ci_X5 (dt dk_X9_wipe 2 rfl) rfl (by decide) rfl fl_X9_115 rfl ?_
  refine e_istore_n [some (.ref 0), some (.int (M 15 1))] (dt dk_X9_wipe 3 rfl) rfl rfl rfl ?_
  refine e_aload_n (dt dk_X9_wipe 4 rfl) rfl ?_
  refine e_getR ci_X9 (dt dk_X9_wipe 5 rfl) rfl (by decide) rfl fl_X9_22 ?_
  refine e_iconst (v := (0 : Int32)) (dt dk_X9_wipe 6 rfl) (by decide) ?_
  refine e_putI (ty := .int) ci_X5 (dt dk_X9_wipe 7 rfl) rfl (by decide) rfl fl_X9_115 rfl (by decide +kernel) rfl rfl ?_
  refine e_iload_n (dt dk_X9_wipe 8 rfl) rfl ?_
  exact e_iret (dt dk_X9_wipe 9 rfl) rfl rfl rfl
-- X9_fault (R, depth 4)
def f_X9_fault  (M : Mem) : Option Int32 :=
  ((f_X5_faultPlace_15 M)).bind fun r1 => some r1
set_option maxRecDepth 20000 in
set_option maxHeartbeats 2000000 in
theorem sp_X9_fault  (M : Mem) : SpO (wR M) yX9_fault cX9_fault 1 (some .int) 4 [.ref 0] M (f_X9_fault M) := by
  refine sp_of (L := [some (.ref 0)]) rfl (by decide +kernel) rfl rfl ?_
  unfold f_X9_fault
  refine e_aload_n (dt dk_X9_fault 0 rfl) rfl ?_
  refine e_getR ci_X9 (dt dk_X9_fault 1 rfl) rfl (by decide) rfl fl_X9_22 ?_
  refine ev_call (ca_V (k := 15) mv_X5_faultPlace (sp_X5_faultPlace_15 M) (dt dk_X9_fault 2 rfl) ml_X9_118 rfl rfl rfl rfl rfl (by decide) : Ca _ _ _ _ _ _ _ _ [] _ _) (fun r1 hr1 => ?_)
  show Ev _ _ _ _ _ _ 7 [some (.ref 0)] [.int r1] M _
  exact e_iret (dt dk_X9_fault 3 rfl) rfl rfl rfl
-- X9_tryPad (W, depth 5)
def f_X9_tryPad  (M : Mem) : Option (Int32 × Mem) :=
  ((f_X5_faultPlace_15 M)).bind fun r1 => (if r1 = (-6 : Int32) then ((f_X8_become_8_1 M)).bind fun q3 => ((f_X7_follow_18_15_17_8 q3)).bind fun q4 => (if (q4 18 1) = (-6 : Int32) then some ((0 : Int32), q4) else some ((-3 : Int32), q4)) else some ((-5 : Int32), M))
set_option maxRecDepth 20000 in
set_option maxHeartbeats 2000000 in
theorem sp_X9_tryPad  (M : Mem) : SpO wI yX9_tryPad cX9_tryPad 1 (some .int) 5 [.ref 0] M (f_X9_tryPad M) := by
  refine sp_of (L := [some (.ref 0)]) rfl (by decide +kernel) rfl rfl ?_
  unfold f_X9_tryPad
  refine e_aload_n (dt dk_X9_tryPad 0 rfl) rfl ?_
  refine e_getR ci_X9 (dt dk_X9_tryPad 1 rfl) rfl (by decide) rfl fl_X9_22 ?_
  refine ev_call (ca_V (k := 15) mv_X5_faultPlace (sp_X5_faultPlace_15 M) (dt dk_X9_tryPad 2 rfl) ml_X9_118 rfl rfl rfl rfl rfl (by decide) : Ca _ _ _ _ _ _ _ _ [] _ _) (fun r1 hr1 => ?_)
  show Ev _ _ _ _ _ _ 7 [some (.ref 0)] [.int r1] M _
  refine e_bipush (v := (-6 : Int32)) (dt dk_X9_tryPad 3 rfl) (by decide) ?_
  refine e_icmp_eq 15 (dt dk_X9_tryPad 4 rfl) (by decide) (fun h2 => ?_) (fun h2 => ?_)
  · refine e_aload_n (dt dk_X9_tryPad 7 rfl) rfl ?_
    refine e_getR ci_X9 (dt dk_X9_tryPad 8 rfl) rfl (by decide) rfl fl_X9_16 ?_
    refine e_aload_n (dt dk_X9_tryPad 9 rfl) rfl ?_
    refine e_getR ci_X9 (dt dk_X9_tryPad 10 rfl) rfl (by decide) rfl fl_X9_10 ?_
    refine ev_call (ca_V (k := 8) mv_X8_become (sp_X8_become_8_1 M) (dt dk_X9_tryPad 11 rfl) ml_X9_152 rfl rfl rfl rfl rfl (by decide) : Ca _ _ _ _ _ _ _ _ [] _ _) (fun q3 hq3 => ?_)
    show Ev _ _ _ _ _ _ 26 [some (.ref 0)] [] q3 _
    refine e_aload_n (dt dk_X9_tryPad 12 rfl) rfl ?_
    refine e_getR ci_X9 (dt dk_X9_tryPad 13 rfl) rfl (by decide) rfl fl_X9_36 ?_
    refine e_aload_n (dt dk_X9_tryPad 14 rfl) rfl ?_
    refine e_getR ci_X9 (dt dk_X9_tryPad 15 rfl) rfl (by decide) rfl fl_X9_22 ?_
    refine e_aload_n (dt dk_X9_tryPad 16 rfl) rfl ?_
    refine e_getR ci_X9 (dt dk_X9_tryPad 17 rfl) rfl (by decide) rfl fl_X9_29 ?_
    refine e_aload_n (dt dk_X9_tryPad 18 rfl) rfl ?_
    refine e_getR ci_X9 (dt dk_X9_tryPad 19 rfl) rfl (by decide) rfl fl_X9_16 ?_
    refine ev_call (ca_V (k := 18) mv_X7_follow (sp_X7_follow_18_15_17_8 q3) (dt dk_X9_tryPad 20 rfl) ml_X9_159 rfl rfl rfl rfl rfl (by decide) : Ca _ _ _ _ _ _ _ _ [] _ _) (fun q4 hq4 => ?_)
    show Ev _ _ _ _ _ _ 45 [some (.ref 0)] [] q4 _
    refine e_aload_n (dt dk_X9_tryPad 21 rfl) rfl ?_
    refine e_getR ci_X9 (dt dk_X9_tryPad 22 rfl) rfl (by decide) rfl fl_X9_36 ?_
    refine e_getI (v := (q4 18 1)) ci_X7 (dt dk_X9_tryPad 23 rfl) rfl (by decide) rfl fl_X9_124 rfl ?_
    refine e_bipush (v := (-6 : Int32)) (dt dk_X9_tryPad 24 rfl) (by decide) ?_
    refine e_icmp_ne 61 (dt dk_X9_tryPad 25 rfl) (by decide) (fun h5 => ?_) (fun h5 => ?_)
    · refine e_iconst (v := (0 : Int32)) (dt dk_X9_tryPad 26 rfl) (by decide) ?_
      refine e_goto 63 (dt dk_X9_tryPad 27 rfl) (by decide) ?_
      exact e_iret (dt dk_X9_tryPad 29 rfl) rfl rfl rfl
    · refine e_bipush (v := (-3 : Int32)) (dt dk_X9_tryPad 28 rfl) (by decide) ?_
      exact e_iret (dt dk_X9_tryPad 29 rfl) rfl rfl rfl
  · refine e_bipush (v := (-5 : Int32)) (dt dk_X9_tryPad 5 rfl) (by decide) ?_
    exact e_iret (dt dk_X9_tryPad 6 rfl) rfl rfl rfl
-- X9_judge (W, depth 6)
def f_X9_judge (v1 : Int32) (M : Mem) : Option (Int32 × Mem) :=
  (if (f_X9_within v1 (0 : Int32) (2 : Int32)) = 0 then some ((-2 : Int32), M) else ((f_X9_tryPad M)).bind fun q2 => (if q2.1 = (-5 : Int32) then some ((-5 : Int32), q2.2) else (if v1 = (0 : Int32) then some ((q2.2 18 1), q2.2) else if v1 = (1 : Int32) then some ((q2.2 18 2), q2.2) else (if q2.1 = (-3 : Int32) then some ((-3 : Int32), q2.2) else some (((q2.2 8 7) - (q2.2 1 7)), q2.2)))))
set_option maxRecDepth 20000 in
set_option maxHeartbeats 2000000 in
theorem sp_X9_judge (v1 : Int32) (M : Mem) : SpO wI yX9_judge cX9_judge 3 (some .int) 6 [.ref 0, .int v1] M (f_X9_judge v1 M) := by
  refine sp_of (L := [some (.ref 0), some (.int v1), none]) rfl (by decide +kernel) rfl rfl ?_
  unfold f_X9_judge
  refine e_iload_n (dt dk_X9_judge 0 rfl) rfl ?_
  refine e_iconst (v := (0 : Int32)) (dt dk_X9_judge 1 rfl) (by decide) ?_
  refine e_iconst (v := (2 : Int32)) (dt dk_X9_judge 2 rfl) (by decide) ?_
  refine ev_callT (ca_S ms_X9_within (sp_X9_within v1 (0 : Int32) (2 : Int32) M) (dt dk_X9_judge 3 rfl) ml_X9_79 rfl rfl rfl (by decide) : Ca _ _ _ _ _ _ _ _ [] _ _) ?_
  show Ev _ _ _ _ _ _ 6 [some (.ref 0), some (.int v1), none] [.int (f_X9_within v1 (0 : Int32) (2 : Int32))] M _
  refine e_if_ne 12 (dt dk_X9_judge 4 rfl) (by decide) (fun h1 => ?_) (fun h1 => ?_)
  · refine e_bipush (v := (-2 : Int32)) (dt dk_X9_judge 5 rfl) (by decide) ?_
    exact e_iret (dt dk_X9_judge 6 rfl) rfl rfl rfl
  · refine e_aload_n (dt dk_X9_judge 7 rfl) rfl ?_
    refine ev_call (ca_V (k := 0) mv_X9_tryPad (sp_X9_tryPad M) (dt dk_X9_judge 8 rfl) ml_X9_121 rfl rfl rfl rfl rfl (by decide) : Ca _ _ _ _ _ _ _ _ [] _ _) (fun q2 hq2 => ?_)
    show Ev _ _ _ _ _ _ 16 [some (.ref 0), some (.int v1), none] [.int q2.1] q2.2 _
    refine e_istore_n [some (.ref 0), some (.int v1), some (.int q2.1)] (dt dk_X9_judge 9 rfl) rfl rfl rfl ?_
    refine e_iload_n (dt dk_X9_judge 10 rfl) rfl ?_
    refine e_bipush (v := (-5 : Int32)) (dt dk_X9_judge 11 rfl) (by decide) ?_
    refine e_icmp_ne 26 (dt dk_X9_judge 12 rfl) (by decide) (fun h3 => ?_) (fun h3 => ?_)
    · refine e_bipush (v := (-5 : Int32)) (dt dk_X9_judge 13 rfl) (by decide) ?_
      exact e_iret (dt dk_X9_judge 14 rfl) rfl rfl rfl
    · refine e_iload_n (dt dk_X9_judge 15 rfl) rfl ?_
      refine e_split (fun h4 => ?_) (fun h4 => ?_)
      · refine e_lookup (off := 25) 52 (dt dk_X9_judge 16 rfl) rfl (by rw [h4]; rfl) (by decide) ?_
        refine e_aload_n (dt dk_X9_judge 17 rfl) rfl ?_
        refine e_getR ci_X9 (dt dk_X9_judge 18 rfl) rfl (by decide) rfl fl_X9_36 ?_
        refine e_getI (v := (q2.2 18 1)) ci_X7 (dt dk_X9_judge 19 rfl) rfl (by decide) rfl fl_X9_124 rfl ?_
        exact e_iret (dt dk_X9_judge 20 rfl) rfl rfl rfl
      · skip
        refine e_split (fun h5 => ?_) (fun h5 => ?_)
        · refine e_lookup (off := 33) 60 (dt dk_X9_judge 16 rfl) rfl (by rw [h5]; rfl) (by decide) ?_
          refine e_aload_n (dt dk_X9_judge 21 rfl) rfl ?_
          refine e_getR ci_X9 (dt dk_X9_judge 22 rfl) rfl (by decide) rfl fl_X9_36 ?_
          refine e_getI (v := (q2.2 18 2)) ci_X7 (dt dk_X9_judge 23 rfl) rfl (by decide) rfl fl_X9_127 rfl ?_
          exact e_iret (dt dk_X9_judge 24 rfl) rfl rfl rfl
        · skip
          refine e_lookup (off := 41) 68 (dt dk_X9_judge 16 rfl) rfl ((lv_osw h4 rfl).trans <| (lv_osw h5 rfl).trans <| rfl) (by decide) ?_
          refine e_iload_n (dt dk_X9_judge 25 rfl) rfl ?_
          refine e_bipush (v := (-3 : Int32)) (dt dk_X9_judge 26 rfl) (by decide) ?_
          refine e_icmp_ne 79 (dt dk_X9_judge 27 rfl) (by decide) (fun h6 => ?_) (fun h6 => ?_)
          · refine e_bipush (v := (-3 : Int32)) (dt dk_X9_judge 28 rfl) (by decide) ?_
            refine e_goto 94 (dt dk_X9_judge 29 rfl) (by decide) ?_
            exact e_iret (dt dk_X9_judge 37 rfl) rfl rfl rfl
          · refine e_aload_n (dt dk_X9_judge 30 rfl) rfl ?_
            refine e_getR ci_X9 (dt dk_X9_judge 31 rfl) rfl (by decide) rfl fl_X9_16 ?_
            refine e_getI (v := (q2.2 8 7)) ci_X8 (dt dk_X9_judge 32 rfl) rfl (by decide) rfl fl_X9_130 rfl ?_
            refine e_aload_n (dt dk_X9_judge 33 rfl) rfl ?_
            refine e_getR ci_X9 (dt dk_X9_judge 34 rfl) rfl (by decide) rfl fl_X9_10 ?_
            refine e_getI (v := (q2.2 1 7)) ci_X8 (dt dk_X9_judge 35 rfl) rfl (by decide) rfl fl_X9_130 rfl ?_
            refine e_isub (dt dk_X9_judge 36 rfl) ?_
            exact e_iret (dt dk_X9_judge 37 rfl) rfl rfl rfl
-- X9_behind (W, depth 6)
def f_X9_behind (v1 : Int32) (v2 : Int32) (M : Mem) : Option (Int32 × Mem) :=
  (if (f_X9_isHouse v1) = 0 then some ((-1 : Int32), M) else (if (f_X9_within v2 (0 : Int32) (3 : Int32)) = 0 then some ((-2 : Int32), M) else ((f_X9_tryPad M)).bind fun q3 => (if q3.1 = 0 then ((f_X8_ofHouse_8 v1 v2 q3.2)).bind fun r5 => some (r5, q3.2) else some (q3.1, q3.2))))
set_option maxRecDepth 20000 in
set_option maxHeartbeats 2000000 in
theorem sp_X9_behind (v1 : Int32) (v2 : Int32) (M : Mem) : SpO wI yX9_behind cX9_behind 4 (some .int) 6 [.ref 0, .int v1, .int v2] M (f_X9_behind v1 v2 M) := by
  refine sp_of (L := [some (.ref 0), some (.int v1), some (.int v2), none]) rfl (by decide +kernel) rfl rfl ?_
  unfold f_X9_behind
  refine e_iload_n (dt dk_X9_behind 0 rfl) rfl ?_
  refine ev_callT (ca_S ms_X9_isHouse (sp_X9_isHouse v1 M) (dt dk_X9_behind 1 rfl) ml_X9_75 rfl rfl rfl (by decide) : Ca _ _ _ _ _ _ _ _ [] _ _) ?_
  show Ev _ _ _ _ _ _ 4 [some (.ref 0), some (.int v1), some (.int v2), none] [.int (f_X9_isHouse v1)] M _
  refine e_if_ne 9 (dt dk_X9_behind 2 rfl) (by decide) (fun h1 => ?_) (fun h1 => ?_)
  · refine e_iconst (v := (-1 : Int32)) (dt dk_X9_behind 3 rfl) (by decide) ?_
    exact e_iret (dt dk_X9_behind 4 rfl) rfl rfl rfl
  · refine e_iload_n (dt dk_X9_behind 5 rfl) rfl ?_
    refine e_iconst (v := (0 : Int32)) (dt dk_X9_behind 6 rfl) (by decide) ?_
    refine e_iconst (v := (3 : Int32)) (dt dk_X9_behind 7 rfl) (by decide) ?_
    refine ev_callT (ca_S ms_X9_within (sp_X9_within v2 (0 : Int32) (3 : Int32) M) (dt dk_X9_behind 8 rfl) ml_X9_79 rfl rfl rfl (by decide) : Ca _ _ _ _ _ _ _ _ [] _ _) ?_
    show Ev _ _ _ _ _ _ 15 [some (.ref 0), some (.int v1), some (.int v2), none] [.int (f_X9_within v2 (0 : Int32) (3 : Int32))] M _
    refine e_if_ne 21 (dt dk_X9_behind 9 rfl) (by decide) (fun h2 => ?_) (fun h2 => ?_)
    · refine e_bipush (v := (-2 : Int32)) (dt dk_X9_behind 10 rfl) (by decide) ?_
      exact e_iret (dt dk_X9_behind 11 rfl) rfl rfl rfl
    · refine e_aload_n (dt dk_X9_behind 12 rfl) rfl ?_
      refine ev_call (ca_V (k := 0) mv_X9_tryPad (sp_X9_tryPad M) (dt dk_X9_behind 13 rfl) ml_X9_121 rfl rfl rfl rfl rfl (by decide) : Ca _ _ _ _ _ _ _ _ [] _ _) (fun q3 hq3 => ?_)
      show Ev _ _ _ _ _ _ 25 [some (.ref 0), some (.int v1), some (.int v2), none] [.int q3.1] q3.2 _
      refine e_istore_n [some (.ref 0), some (.int v1), some (.int v2), some (.int q3.1)] (dt dk_X9_behind 14 rfl) rfl rfl rfl ?_
      refine e_iload_n (dt dk_X9_behind 15 rfl) rfl ?_
      refine e_if_eq 34 (dt dk_X9_behind 16 rfl) (by decide) (fun h4 => ?_) (fun h4 => ?_)
      · refine e_aload_n (dt dk_X9_behind 19 rfl) rfl ?_
        refine e_getR ci_X9 (dt dk_X9_behind 20 rfl) rfl (by decide) rfl fl_X9_16 ?_
        refine e_iload_n (dt dk_X9_behind 21 rfl) rfl ?_
        refine e_iload_n (dt dk_X9_behind 22 rfl) rfl ?_
        refine ev_call (ca_V (k := 8) mv_X8_ofHouse (sp_X8_ofHouse_8 v1 v2 q3.2) (dt dk_X9_behind 23 rfl) ml_X9_133 rfl rfl rfl rfl rfl (by decide) : Ca _ _ _ _ _ _ _ _ [] _ _) (fun r5 hr5 => ?_)
        show Ev _ _ _ _ _ _ 43 [some (.ref 0), some (.int v1), some (.int v2), some (.int q3.1)] [.int r5] q3.2 _
        exact e_iret (dt dk_X9_behind 24 rfl) rfl rfl rfl
      · refine e_iload_n (dt dk_X9_behind 17 rfl) rfl ?_
        refine e_goto 43 (dt dk_X9_behind 18 rfl) (by decide) ?_
        exact e_iret (dt dk_X9_behind 24 rfl) rfl rfl rfl
-- X9_town (W, depth 6)
def f_X9_town (v1 : Int32) (M : Mem) : Option (Int32 × Mem) :=
  (if (f_X9_within v1 (0 : Int32) (4 : Int32)) = 0 then some ((-2 : Int32), M) else ((f_X9_tryPad M)).bind fun q2 => (if q2.1 = 0 then (if v1 = (0 : Int32) then ((f_X8_allDoubts_8 q2.2)).bind fun r5 => some (r5, q2.2) else if v1 = (1 : Int32) then some ((q2.2 8 6), q2.2) else if v1 = (2 : Int32) then some ((q2.2 8 7), q2.2) else if v1 = (3 : Int32) then some ((q2.2 8 8), q2.2) else ((f_X8_clearHouses_8 q2.2)).bind fun r9 => some (r9, q2.2)) else some (q2.1, q2.2)))
set_option maxRecDepth 20000 in
set_option maxHeartbeats 2000000 in
theorem sp_X9_town (v1 : Int32) (M : Mem) : SpO wI yX9_town cX9_town 3 (some .int) 6 [.ref 0, .int v1] M (f_X9_town v1 M) := by
  refine sp_of (L := [some (.ref 0), some (.int v1), none]) rfl (by decide +kernel) rfl rfl ?_
  unfold f_X9_town
  refine e_iload_n (dt dk_X9_town 0 rfl) rfl ?_
  refine e_iconst (v := (0 : Int32)) (dt dk_X9_town 1 rfl) (by decide) ?_
  refine e_iconst (v := (4 : Int32)) (dt dk_X9_town 2 rfl) (by decide) ?_
  refine ev_callT (ca_S ms_X9_within (sp_X9_within v1 (0 : Int32) (4 : Int32) M) (dt dk_X9_town 3 rfl) ml_X9_79 rfl rfl rfl (by decide) : Ca _ _ _ _ _ _ _ _ [] _ _) ?_
  show Ev _ _ _ _ _ _ 6 [some (.ref 0), some (.int v1), none] [.int (f_X9_within v1 (0 : Int32) (4 : Int32))] M _
  refine e_if_ne 12 (dt dk_X9_town 4 rfl) (by decide) (fun h1 => ?_) (fun h1 => ?_)
  · refine e_bipush (v := (-2 : Int32)) (dt dk_X9_town 5 rfl) (by decide) ?_
    exact e_iret (dt dk_X9_town 6 rfl) rfl rfl rfl
  · refine e_aload_n (dt dk_X9_town 7 rfl) rfl ?_
    refine ev_call (ca_V (k := 0) mv_X9_tryPad (sp_X9_tryPad M) (dt dk_X9_town 8 rfl) ml_X9_121 rfl rfl rfl rfl rfl (by decide) : Ca _ _ _ _ _ _ _ _ [] _ _) (fun q2 hq2 => ?_)
    show Ev _ _ _ _ _ _ 16 [some (.ref 0), some (.int v1), none] [.int q2.1] q2.2 _
    refine e_istore_n [some (.ref 0), some (.int v1), some (.int q2.1)] (dt dk_X9_town 9 rfl) rfl rfl rfl ?_
    refine e_iload_n (dt dk_X9_town 10 rfl) rfl ?_
    refine e_if_eq 23 (dt dk_X9_town 11 rfl) (by decide) (fun h3 => ?_) (fun h3 => ?_)
    · refine e_iload_n (dt dk_X9_town 14 rfl) rfl ?_
      refine e_split (fun h4 => ?_) (fun h4 => ?_)
      · refine e_tableIn 56 (dt dk_X9_town 15 rfl) (by rw [h4]; decide) (by rw [h4]; decide) (by rw [h4]; rfl) (by decide) ?_
        refine e_aload_n (dt dk_X9_town 16 rfl) rfl ?_
        refine e_getR ci_X9 (dt dk_X9_town 17 rfl) rfl (by decide) rfl fl_X9_16 ?_
        refine ev_call (ca_V (k := 8) mv_X8_allDoubts (sp_X8_allDoubts_8 q2.2) (dt dk_X9_town 18 rfl) ml_X9_137 rfl rfl rfl rfl rfl (by decide) : Ca _ _ _ _ _ _ _ _ [] _ _) (fun r5 hr5 => ?_)
        show Ev _ _ _ _ _ _ 63 [some (.ref 0), some (.int v1), some (.int q2.1)] [.int r5] q2.2 _
        exact e_iret (dt dk_X9_town 19 rfl) rfl rfl rfl
      · skip
        refine e_split (fun h6 => ?_) (fun h6 => ?_)
        · refine e_tableIn 64 (dt dk_X9_town 15 rfl) (by rw [h6]; decide) (by rw [h6]; decide) (by rw [h6]; rfl) (by decide) ?_
          refine e_aload_n (dt dk_X9_town 20 rfl) rfl ?_
          refine e_getR ci_X9 (dt dk_X9_town 21 rfl) rfl (by decide) rfl fl_X9_16 ?_
          refine e_getI (v := (q2.2 8 6)) ci_X8 (dt dk_X9_town 22 rfl) rfl (by decide) rfl fl_X9_108 rfl ?_
          exact e_iret (dt dk_X9_town 23 rfl) rfl rfl rfl
        · skip
          refine e_split (fun h7 => ?_) (fun h7 => ?_)
          · refine e_tableIn 72 (dt dk_X9_town 15 rfl) (by rw [h7]; decide) (by rw [h7]; decide) (by rw [h7]; rfl) (by decide) ?_
            refine e_aload_n (dt dk_X9_town 24 rfl) rfl ?_
            refine e_getR ci_X9 (dt dk_X9_town 25 rfl) rfl (by decide) rfl fl_X9_16 ?_
            refine e_getI (v := (q2.2 8 7)) ci_X8 (dt dk_X9_town 26 rfl) rfl (by decide) rfl fl_X9_130 rfl ?_
            exact e_iret (dt dk_X9_town 27 rfl) rfl rfl rfl
          · skip
            refine e_split (fun h8 => ?_) (fun h8 => ?_)
            · refine e_tableIn 80 (dt dk_X9_town 15 rfl) (by rw [h8]; decide) (by rw [h8]; decide) (by rw [h8]; rfl) (by decide) ?_
              refine e_aload_n (dt dk_X9_town 28 rfl) rfl ?_
              refine e_getR ci_X9 (dt dk_X9_town 29 rfl) rfl (by decide) rfl fl_X9_16 ?_
              refine e_getI (v := (q2.2 8 8)) ci_X8 (dt dk_X9_town 30 rfl) rfl (by decide) rfl fl_X9_140 rfl ?_
              exact e_iret (dt dk_X9_town 31 rfl) rfl rfl rfl
            · skip
              refine e_tableOut 88 (dt dk_X9_town 15 rfl) (sw_out 3 (by simp only [List.range, List.range.loop, List.all_cons, List.all_nil]; simp [h4, h6, h7, h8])) (by decide) ?_
              refine e_aload_n (dt dk_X9_town 32 rfl) rfl ?_
              refine e_getR ci_X9 (dt dk_X9_town 33 rfl) rfl (by decide) rfl fl_X9_16 ?_
              refine ev_call (ca_V (k := 8) mv_X8_clearHouses (sp_X8_clearHouses_8 q2.2) (dt dk_X9_town 34 rfl) ml_X9_143 rfl rfl rfl rfl rfl (by decide) : Ca _ _ _ _ _ _ _ _ [] _ _) (fun r9 hr9 => ?_)
              show Ev _ _ _ _ _ _ 95 [some (.ref 0), some (.int v1), some (.int q2.1)] [.int r9] q2.2 _
              exact e_iret (dt dk_X9_town 35 rfl) rfl rfl rfl
    · refine e_iload_n (dt dk_X9_town 12 rfl) rfl ?_
      exact e_iret (dt dk_X9_town 13 rfl) rfl rfl rfl
-- X9_rid (W, depth 6)
def f_X9_rid (v1 : Int32) (M : Mem) : Option (Int32 × Mem) :=
  (if (f_X9_within v1 (0 : Int32) (1 : Int32)) = 0 then some ((-2 : Int32), M) else ((f_X9_tryPad M)).bind fun q2 => (if q2.1 = 0 then (if v1 = 0 then some ((q2.2 18 3), q2.2) else some ((q2.2 18 4), q2.2)) else some (q2.1, q2.2)))
set_option maxRecDepth 20000 in
set_option maxHeartbeats 2000000 in
theorem sp_X9_rid (v1 : Int32) (M : Mem) : SpO wI yX9_rid cX9_rid 3 (some .int) 6 [.ref 0, .int v1] M (f_X9_rid v1 M) := by
  refine sp_of (L := [some (.ref 0), some (.int v1), none]) rfl (by decide +kernel) rfl rfl ?_
  unfold f_X9_rid
  refine e_iload_n (dt dk_X9_rid 0 rfl) rfl ?_
  refine e_iconst (v := (0 : Int32)) (dt dk_X9_rid 1 rfl) (by decide) ?_
  refine e_iconst (v := (1 : Int32)) (dt dk_X9_rid 2 rfl) (by decide) ?_
  refine ev_callT (ca_S ms_X9_within (sp_X9_within v1 (0 : Int32) (1 : Int32) M) (dt dk_X9_rid 3 rfl) ml_X9_79 rfl rfl rfl (by decide) : Ca _ _ _ _ _ _ _ _ [] _ _) ?_
  show Ev _ _ _ _ _ _ 6 [some (.ref 0), some (.int v1), none] [.int (f_X9_within v1 (0 : Int32) (1 : Int32))] M _
  refine e_if_ne 12 (dt dk_X9_rid 4 rfl) (by decide) (fun h1 => ?_) (fun h1 => ?_)
  · refine e_bipush (v := (-2 : Int32)) (dt dk_X9_rid 5 rfl) (by decide) ?_
    exact e_iret (dt dk_X9_rid 6 rfl) rfl rfl rfl
  · refine e_aload_n (dt dk_X9_rid 7 rfl) rfl ?_
    refine ev_call (ca_V (k := 0) mv_X9_tryPad (sp_X9_tryPad M) (dt dk_X9_rid 8 rfl) ml_X9_121 rfl rfl rfl rfl rfl (by decide) : Ca _ _ _ _ _ _ _ _ [] _ _) (fun q2 hq2 => ?_)
    show Ev _ _ _ _ _ _ 16 [some (.ref 0), some (.int v1), none] [.int q2.1] q2.2 _
    refine e_istore_n [some (.ref 0), some (.int v1), some (.int q2.1)] (dt dk_X9_rid 9 rfl) rfl rfl rfl ?_
    refine e_iload_n (dt dk_X9_rid 10 rfl) rfl ?_
    refine e_if_eq 23 (dt dk_X9_rid 11 rfl) (by decide) (fun h3 => ?_) (fun h3 => ?_)
    · refine e_iload_n (dt dk_X9_rid 14 rfl) rfl ?_
      refine e_if_ne 37 (dt dk_X9_rid 15 rfl) (by decide) (fun h4 => ?_) (fun h4 => ?_)
      · refine e_aload_n (dt dk_X9_rid 16 rfl) rfl ?_
        refine e_getR ci_X9 (dt dk_X9_rid 17 rfl) rfl (by decide) rfl fl_X9_36 ?_
        refine e_getI (v := (q2.2 18 3)) ci_X7 (dt dk_X9_rid 18 rfl) rfl (by decide) rfl fl_X9_146 rfl ?_
        refine e_goto 44 (dt dk_X9_rid 19 rfl) (by decide) ?_
        exact e_iret (dt dk_X9_rid 23 rfl) rfl rfl rfl
      · refine e_aload_n (dt dk_X9_rid 20 rfl) rfl ?_
        refine e_getR ci_X9 (dt dk_X9_rid 21 rfl) rfl (by decide) rfl fl_X9_36 ?_
        refine e_getI (v := (q2.2 18 4)) ci_X7 (dt dk_X9_rid 22 rfl) rfl (by decide) rfl fl_X9_149 rfl ?_
        exact e_iret (dt dk_X9_rid 23 rfl) rfl rfl rfl
    · refine e_iload_n (dt dk_X9_rid 12 rfl) rfl ?_
      exact e_iret (dt dk_X9_rid 13 rfl) rfl rfl rfl
-- X9_done (W, depth 6)
def f_X9_done  (M : Mem) : Option (Int32 × Mem) :=
  ((f_X9_tryPad M)).bind fun q1 => (if q1.1 = 0 then ((f_X8_become_1_8 q1.2)).bind fun q3 => some ((q3 18 0), (up2 q3 15 1 (0 : Int32))) else some (q1.1, q1.2))
set_option maxRecDepth 20000 in
set_option maxHeartbeats 2000000 in
theorem sp_X9_done  (M : Mem) : SpO wI yX9_done cX9_done 2 (some .int) 6 [.ref 0] M (f_X9_done M) := by
  refine sp_of (L := [some (.ref 0), none]) rfl (by decide +kernel) rfl rfl ?_
  unfold f_X9_done
  refine e_aload_n (dt dk_X9_done 0 rfl) rfl ?_
  refine ev_call (ca_V (k := 0) mv_X9_tryPad (sp_X9_tryPad M) (dt dk_X9_done 1 rfl) ml_X9_121 rfl rfl rfl rfl rfl (by decide) : Ca _ _ _ _ _ _ _ _ [] _ _) (fun q1 hq1 => ?_)
  show Ev _ _ _ _ _ _ 4 [some (.ref 0), none] [.int q1.1] q1.2 _
  refine e_istore_n [some (.ref 0), some (.int q1.1)] (dt dk_X9_done 2 rfl) rfl rfl rfl ?_
  refine e_iload_n (dt dk_X9_done 3 rfl) rfl ?_
  refine e_if_eq 11 (dt dk_X9_done 4 rfl) (by decide) (fun h2 => ?_) (fun h2 => ?_)
  · refine e_aload_n (dt dk_X9_done 7 rfl) rfl ?_
    refine e_getR ci_X9 (dt dk_X9_done 8 rfl) rfl (by decide) rfl fl_X9_10 ?_
    refine e_aload_n (dt dk_X9_done 9 rfl) rfl ?_
    refine e_getR ci_X9 (dt dk_X9_done 10 rfl) rfl (by decide) rfl fl_X9_16 ?_
    refine ev_call (ca_V (k := 1) mv_X8_become (sp_X8_become_1_8 q1.2) (dt dk_X9_done 11 rfl) ml_X9_152 rfl rfl rfl rfl rfl (by decide) : Ca _ _ _ _ _ _ _ _ [] _ _) (fun q3 hq3 => ?_)
    show Ev _ _ _ _ _ _ 22 [some (.ref 0), some (.int q1.1)] [] q3 _
    refine e_aload_n (dt dk_X9_done 12 rfl) rfl ?_
    refine e_getR ci_X9 (dt dk_X9_done 13 rfl) rfl (by decide) rfl fl_X9_22 ?_
    refine e_iconst (v := (0 : Int32)) (dt dk_X9_done 14 rfl) (by decide) ?_
    refine e_putI (ty := .int) ci_X5 (dt dk_X9_done 15 rfl) rfl (by decide) rfl fl_X9_115 rfl (by decide +kernel) rfl rfl ?_
    refine e_aload_n (dt dk_X9_done 16 rfl) rfl ?_
    refine e_getR ci_X9 (dt dk_X9_done 17 rfl) rfl (by decide) rfl fl_X9_36 ?_
    refine e_getI (v := (q3 18 0)) ci_X7 (dt dk_X9_done 18 rfl) rfl (by decide) rfl fl_X9_156 rfl ?_
    exact e_iret (dt dk_X9_done 19 rfl) rfl rfl rfl
  · refine e_iload_n (dt dk_X9_done 5 rfl) rfl ?_
    exact e_iret (dt dk_X9_done 6 rfl) rfl rfl rfl
-- X9_alone (R, depth 2)
def bd_X9_alone_62  (K62 : Int32 → Int32 → Int32 → Int32 → Int32 → Option Int32) (v2 : Int32) (v3 : Int32) (v5 : Int32) (v6 : Int32) (v7 : Int32) : Option Int32 :=
  (if (99 : Int32) < v7 then some (-6 : Int32) else (if v6 = v5 then some v7 else (K62 v2 v3 v5 (f_X9_uncaged (f_X9_grown v6 v2) v3) (v7 + (1 : Int32)))))
set_option maxRecDepth 20000 in
set_option maxHeartbeats 2000000 in
theorem ev_bd_X9_alone_62 (M : Mem)  (K62 : Int32 → Int32 → Int32 → Int32 → Int32 → Option Int32)  (hK62 : ∀ (v2 : Int32) (v3 : Int32) (v5 : Int32) (v6 : Int32) (v7 : Int32), Ev none (wR M) RX9 cX9_alone (some .int) 2 62 [none, none, some (.int v2), some (.int v3), none, some (.int v5), some (.int v6), some (.int v7)] [] M (K62 v2 v3 v5 v6 v7)) (v2 : Int32) (v3 : Int32) (v5 : Int32) (v6 : Int32) (v7 : Int32) : Ev none (wR M) RX9 cX9_alone (some .int) 2 62 [none, none, some (.int v2), some (.int v3), none, some (.int v5), some (.int v6), some (.int v7)] [] M (bd_X9_alone_62 K62 v2 v3 v5 v6 v7) := by
  unfold bd_X9_alone_62
  refine e_iload (dt dk_X9_alone 32 rfl) rfl ?_
  refine e_bipush (v := (99 : Int32)) (dt dk_X9_alone 33 rfl) (by decide) ?_
  refine e_icmp_gt 97 (dt dk_X9_alone 34 rfl) (by decide) (fun h6 => ?_) (fun h6 => ?_)
  · refine e_bipush (v := (-6 : Int32)) (dt dk_X9_alone 48 rfl) (by decide) ?_
    exact e_iret (dt dk_X9_alone 49 rfl) rfl rfl rfl
  · refine e_iload (dt dk_X9_alone 35 rfl) rfl ?_
    refine e_iload (dt dk_X9_alone 36 rfl) rfl ?_
    refine e_icmp_ne 79 (dt dk_X9_alone 37 rfl) (by decide) (fun h7 => ?_) (fun h7 => ?_)
    · refine e_iload (dt dk_X9_alone 38 rfl) rfl ?_
      exact e_iret (dt dk_X9_alone 39 rfl) rfl rfl rfl
    · refine e_iload (dt dk_X9_alone 40 rfl) rfl ?_
      refine e_iload_n (dt dk_X9_alone 41 rfl) rfl ?_
      refine ev_callT (ca_S ms_X9_grown (sp_X9_grown v6 v2 M) (dt dk_X9_alone 42 rfl) ml_X9_163 rfl rfl rfl (by decide) : Ca _ _ _ _ _ _ _ _ [] _ _) ?_
      show Ev _ _ _ _ _ _ 85 [none, none, some (.int v2), some (.int v3), none, some (.int v5), some (.int v6), some (.int v7)] [.int (f_X9_grown v6 v2)] M _
      refine e_iload_n (dt dk_X9_alone 43 rfl) rfl ?_
      refine ev_callT (ca_S ms_X9_uncaged (sp_X9_uncaged (f_X9_grown v6 v2) v3 M) (dt dk_X9_alone 44 rfl) ml_X9_166 rfl rfl rfl (by decide) : Ca _ _ _ _ _ _ _ _ [] _ _) ?_
      show Ev _ _ _ _ _ _ 89 [none, none, some (.int v2), some (.int v3), none, some (.int v5), some (.int v6), some (.int v7)] [.int (f_X9_uncaged (f_X9_grown v6 v2) v3)] M _
      refine e_istore [none, none, some (.int v2), some (.int v3), none, some (.int v5), some (.int (f_X9_uncaged (f_X9_grown v6 v2) v3)), some (.int v7)] (dt dk_X9_alone 45 rfl) rfl rfl rfl ?_
      refine e_iinc [none, none, some (.int v2), some (.int v3), none, some (.int v5), some (.int (f_X9_uncaged (f_X9_grown v6 v2) v3)), some (.int (v7 + (1 : Int32)))] (dt dk_X9_alone 46 rfl) rfl rfl rfl rfl ?_
      refine e_goto 62 (dt dk_X9_alone 47 rfl) (by decide) ?_
      exact e_forget [false, false, true, true, false, true, true, true] [none, none, some (.int v2), some (.int v3), none, some (.int v5), some (.int (f_X9_uncaged (f_X9_grown v6 v2) v3)), some (.int (v7 + (1 : Int32)))] ⟨rfl, rfl⟩ (hK62 v2 v3 v5 (f_X9_uncaged (f_X9_grown v6 v2) v3) (v7 + (1 : Int32)))
def lp_X9_alone_62  : Nat → Int32 → Int32 → Int32 → Int32 → Int32 → Option Int32
  | 0 => fun _ _ _ _ _ => none
  | n + 1 => bd_X9_alone_62 (lp_X9_alone_62 n)
theorem ev_lp_X9_alone_62 (M : Mem)   : ∀ (n : Nat), ∀ (v2 : Int32) (v3 : Int32) (v5 : Int32) (v6 : Int32) (v7 : Int32), Ev none (wR M) RX9 cX9_alone (some .int) 2 62 [none, none, some (.int v2), some (.int v3), none, some (.int v5), some (.int v6), some (.int v7)] [] M (lp_X9_alone_62 n v2 v3 v5 v6 v7)
  | 0 => fun _ _ _ _ _ => e_none
  | n + 1 => ev_bd_X9_alone_62 M (lp_X9_alone_62 n) (ev_lp_X9_alone_62 M n)
def lb_X9_alone_54  (v1 : Int32) (v2 : Int32) (v3 : Int32) (s0 : Int32) : Option Int32 :=
  (lp_X9_alone_62 FU v2 v3 s0 v1 (0 : Int32))
set_option maxRecDepth 20000 in
set_option maxHeartbeats 2000000 in
theorem ev_lb_X9_alone_54 (M : Mem)   (v1 : Int32) (v2 : Int32) (v3 : Int32) (s0 : Int32) : Ev none (wR M) RX9 cX9_alone (some .int) 2 54 [none, some (.int v1), some (.int v2), some (.int v3), none, none, none, none] [.int s0] M (lb_X9_alone_54 v1 v2 v3 s0) := by
  unfold lb_X9_alone_54
  refine e_istore [none, some (.int v1), some (.int v2), some (.int v3), none, some (.int s0), none, none] (dt dk_X9_alone 27 rfl) rfl rfl rfl ?_
  refine e_iload_n (dt dk_X9_alone 28 rfl) rfl ?_
  refine e_istore [none, some (.int v1), some (.int v2), some (.int v3), none, some (.int s0), some (.int v1), none] (dt dk_X9_alone 29 rfl) rfl rfl rfl ?_
  refine e_iconst (v := (0 : Int32)) (dt dk_X9_alone 30 rfl) (by decide) ?_
  refine e_istore [none, some (.int v1), some (.int v2), some (.int v3), none, some (.int s0), some (.int v1), some (.int (0 : Int32))] (dt dk_X9_alone 31 rfl) rfl rfl rfl ?_
  exact e_forget [false, false, true, true, false, true, true, true] [none, none, some (.int v2), some (.int v3), none, some (.int s0), some (.int v1), some (.int (0 : Int32))] ⟨rfl, rfl⟩ (ev_lp_X9_alone_62 M FU v2 v3 s0 v1 (0 : Int32))
def f_X9_alone (v1 : Int32) (v2 : Int32) (v3 : Int32) (v4 : Int32) : Option Int32 :=
  (if (f_X9_within v1 (0 : Int32) (99 : Int32)) = 0 then some (-2 : Int32) else (if (f_X9_within v2 (0 : Int32) (9 : Int32)) = 0 then some (-2 : Int32) else (if (f_X9_within v3 (0 : Int32) (9 : Int32)) = 0 then some (-2 : Int32) else (if (f_X9_within v4 (0 : Int32) (1 : Int32)) = 0 then some (-2 : Int32) else (if v4 = 0 then (lb_X9_alone_54 v1 v2 v3 (0 : Int32)) else (lb_X9_alone_54 v1 v2 v3 (99 : Int32)))))))
set_option maxRecDepth 20000 in
set_option maxHeartbeats 2000000 in
theorem sp_X9_alone (v1 : Int32) (v2 : Int32) (v3 : Int32) (v4 : Int32) (M : Mem) : SpO (wR M) yX9_alone cX9_alone 8 (some .int) 2 [.ref 0, .int v1, .int v2, .int v3, .int v4] M (f_X9_alone v1 v2 v3 v4) := by
  refine sp_of (L := [some (.ref 0), some (.int v1), some (.int v2), some (.int v3), some (.int v4), none, none, none]) rfl (by decide +kernel) rfl rfl ?_
  unfold f_X9_alone
  refine e_iload_n (dt dk_X9_alone 0 rfl) rfl ?_
  refine e_iconst (v := (0 : Int32)) (dt dk_X9_alone 1 rfl) (by decide) ?_
  refine e_bipush (v := (99 : Int32)) (dt dk_X9_alone 2 rfl) (by decide) ?_
  refine ev_callT (ca_S ms_X9_within (sp_X9_within v1 (0 : Int32) (99 : Int32) M) (dt dk_X9_alone 3 rfl) ml_X9_79 rfl rfl rfl (by decide) : Ca _ _ _ _ _ _ _ _ [] _ _) ?_
  show Ev _ _ _ _ _ _ 7 [some (.ref 0), some (.int v1), some (.int v2), some (.int v3), some (.int v4), none, none, none] [.int (f_X9_within v1 (0 : Int32) (99 : Int32))] M _
  refine e_if_eq 40 (dt dk_X9_alone 4 rfl) (by decide) (fun h1 => ?_) (fun h1 => ?_)
  · refine e_bipush (v := (-2 : Int32)) (dt dk_X9_alone 20 rfl) (by decide) ?_
    exact e_iret (dt dk_X9_alone 21 rfl) rfl rfl rfl
  · refine e_iload_n (dt dk_X9_alone 5 rfl) rfl ?_
    refine e_iconst (v := (0 : Int32)) (dt dk_X9_alone 6 rfl) (by decide) ?_
    refine e_bipush (v := (9 : Int32)) (dt dk_X9_alone 7 rfl) (by decide) ?_
    refine ev_callT (ca_S ms_X9_within (sp_X9_within v2 (0 : Int32) (9 : Int32) M) (dt dk_X9_alone 8 rfl) ml_X9_79 rfl rfl rfl (by decide) : Ca _ _ _ _ _ _ _ _ [] _ _) ?_
    show Ev _ _ _ _ _ _ 17 [some (.ref 0), some (.int v1), some (.int v2), some (.int v3), some (.int v4), none, none, none] [.int (f_X9_within v2 (0 : Int32) (9 : Int32))] M _
    refine e_if_eq 40 (dt dk_X9_alone 9 rfl) (by decide) (fun h2 => ?_) (fun h2 => ?_)
    · refine e_bipush (v := (-2 : Int32)) (dt dk_X9_alone 20 rfl) (by decide) ?_
      exact e_iret (dt dk_X9_alone 21 rfl) rfl rfl rfl
    · refine e_iload_n (dt dk_X9_alone 10 rfl) rfl ?_
      refine e_iconst (v := (0 : Int32)) (dt dk_X9_alone 11 rfl) (by decide) ?_
      refine e_bipush (v := (9 : Int32)) (dt dk_X9_alone 12 rfl) (by decide) ?_
      refine ev_callT (ca_S ms_X9_within (sp_X9_within v3 (0 : Int32) (9 : Int32) M) (dt dk_X9_alone 13 rfl) ml_X9_79 rfl rfl rfl (by decide) : Ca _ _ _ _ _ _ _ _ [] _ _) ?_
      show Ev _ _ _ _ _ _ 27 [some (.ref 0), some (.int v1), some (.int v2), some (.int v3), some (.int v4), none, none, none] [.int (f_X9_within v3 (0 : Int32) (9 : Int32))] M _
      refine e_if_eq 40 (dt dk_X9_alone 14 rfl) (by decide) (fun h3 => ?_) (fun h3 => ?_)
      · refine e_bipush (v := (-2 : Int32)) (dt dk_X9_alone 20 rfl) (by decide) ?_
        exact e_iret (dt dk_X9_alone 21 rfl) rfl rfl rfl
      · refine e_iload (dt dk_X9_alone 15 rfl) rfl ?_
        refine e_iconst (v := (0 : Int32)) (dt dk_X9_alone 16 rfl) (by decide) ?_
        refine e_iconst (v := (1 : Int32)) (dt dk_X9_alone 17 rfl) (by decide) ?_
        refine ev_callT (ca_S ms_X9_within (sp_X9_within v4 (0 : Int32) (1 : Int32) M) (dt dk_X9_alone 18 rfl) ml_X9_79 rfl rfl rfl (by decide) : Ca _ _ _ _ _ _ _ _ [] _ _) ?_
        show Ev _ _ _ _ _ _ 37 [some (.ref 0), some (.int v1), some (.int v2), some (.int v3), some (.int v4), none, none, none] [.int (f_X9_within v4 (0 : Int32) (1 : Int32))] M _
        refine e_if_ne 43 (dt dk_X9_alone 19 rfl) (by decide) (fun h4 => ?_) (fun h4 => ?_)
        · refine e_bipush (v := (-2 : Int32)) (dt dk_X9_alone 20 rfl) (by decide) ?_
          exact e_iret (dt dk_X9_alone 21 rfl) rfl rfl rfl
        · refine e_iload (dt dk_X9_alone 22 rfl) rfl ?_
          refine e_if_ne 52 (dt dk_X9_alone 23 rfl) (by decide) (fun h5 => ?_) (fun h5 => ?_)
          · refine e_iconst (v := (0 : Int32)) (dt dk_X9_alone 24 rfl) (by decide) ?_
            refine e_goto 54 (dt dk_X9_alone 25 rfl) (by decide) ?_
            exact e_forget [false, true, true, true, false, false, false, false] [none, some (.int v1), some (.int v2), some (.int v3), none, none, none, none] ⟨rfl, rfl⟩ (ev_lb_X9_alone_54 M v1 v2 v3 (0 : Int32))
          · refine e_bipush (v := (99 : Int32)) (dt dk_X9_alone 26 rfl) (by decide) ?_
            exact e_forget [false, true, true, true, false, false, false, false] [none, some (.int v1), some (.int v2), some (.int v3), none, none, none, none] ⟨rfl, rfl⟩ (ev_lb_X9_alone_54 M v1 v2 v3 (99 : Int32))
-- X9_terriers (R, depth 1)
def bd_X9_terriers_20 (M : Mem)  (K20 : Int32 → Int32 → Int32 → Int32 → Option Int32) (v1 : Int32) (v2 : Int32) (v3 : Int32) (v4 : Int32) : Option Int32 :=
  (if (256 : Int32) ≤ v4 then (if v1 = 0 then some v2 else some v3) else (if v2 ≤ (f_J6_bitCount_0f7a4 v4) then (K20 v1 v2 v3 (v4 + (1 : Int32))) else ((f_X8_holesAllMeet_1 v4 M)).bind fun r5 => (if r5 = 0 then (K20 v1 v2 v3 (v4 + (1 : Int32))) else (K20 v1 (f_J6_bitCount_0f7a4 v4) v4 (v4 + (1 : Int32))))))
set_option maxRecDepth 20000 in
set_option maxHeartbeats 2000000 in
theorem ev_bd_X9_terriers_20 (M : Mem)  (K20 : Int32 → Int32 → Int32 → Int32 → Option Int32)  (hK20 : ∀ (v1 : Int32) (v2 : Int32) (v3 : Int32) (v4 : Int32), Ev none (wR M) RX9 cX9_terriers (some .int) 1 20 [some (.ref 0), some (.int v1), some (.int v2), some (.int v3), some (.int v4), none] [] M (K20 v1 v2 v3 v4)) (v1 : Int32) (v2 : Int32) (v3 : Int32) (v4 : Int32) : Ev none (wR M) RX9 cX9_terriers (some .int) 1 20 [some (.ref 0), some (.int v1), some (.int v2), some (.int v3), some (.int v4), none] [] M (bd_X9_terriers_20 M K20 v1 v2 v3 v4) := by
  unfold bd_X9_terriers_20
  refine e_iload (dt dk_X9_terriers 13 rfl) rfl ?_
  refine e_sipush (v := (256 : Int32)) (dt dk_X9_terriers 14 rfl) (by decide) ?_
  refine e_icmp_ge 65 (dt dk_X9_terriers 15 rfl) (by decide) (fun h2 => ?_) (fun h2 => ?_)
  · refine e_iload_n (dt dk_X9_terriers 33 rfl) rfl ?_
    refine e_if_ne 73 (dt dk_X9_terriers 34 rfl) (by decide) (fun h3 => ?_) (fun h3 => ?_)
    · refine e_iload_n (dt dk_X9_terriers 35 rfl) rfl ?_
      refine e_goto 74 (dt dk_X9_terriers 36 rfl) (by decide) ?_
      exact e_iret (dt dk_X9_terriers 38 rfl) rfl rfl rfl
    · refine e_iload_n (dt dk_X9_terriers 37 rfl) rfl ?_
      exact e_iret (dt dk_X9_terriers 38 rfl) rfl rfl rfl
  · refine e_iload (dt dk_X9_terriers 16 rfl) rfl ?_
    refine ev_callT (ca_S ms_J6_bitCount_0f7a4 (sp_J6_bitCount_0f7a4 v4 M) (dt dk_X9_terriers 17 rfl) ml_X9_169 rfl rfl rfl (by decide) : Ca _ _ _ _ _ _ _ _ [] _ _) ?_
    show Ev _ _ _ _ _ _ 33 [some (.ref 0), some (.int v1), some (.int v2), some (.int v3), some (.int v4), none] [.int (f_J6_bitCount_0f7a4 v4)] M _
    refine e_istore [some (.ref 0), some (.int v1), some (.int v2), some (.int v3), some (.int v4), some (.int (f_J6_bitCount_0f7a4 v4))] (dt dk_X9_terriers 18 rfl) rfl rfl rfl ?_
    refine e_iload (dt dk_X9_terriers 19 rfl) rfl ?_
    refine e_iload_n (dt dk_X9_terriers 20 rfl) rfl ?_
    refine e_icmp_ge 59 (dt dk_X9_terriers 21 rfl) (by decide) (fun h4 => ?_) (fun h4 => ?_)
    · refine e_iinc [some (.ref 0), some (.int v1), some (.int v2), some (.int v3), some (.int (v4 + (1 : Int32))), some (.int (f_J6_bitCount_0f7a4 v4))] (dt dk_X9_terriers 31 rfl) rfl rfl rfl rfl ?_
      refine e_goto 20 (dt dk_X9_terriers 32 rfl) (by decide) ?_
      exact e_forget [true, true, true, true, true, false] [some (.ref 0), some (.int v1), some (.int v2), some (.int v3), some (.int (v4 + (1 : Int32))), none] ⟨rfl, rfl⟩ (hK20 v1 v2 v3 (v4 + (1 : Int32)))
    · refine e_aload_n (dt dk_X9_terriers 22 rfl) rfl ?_
      refine e_getR ci_X9 (dt dk_X9_terriers 23 rfl) rfl (by decide) rfl fl_X9_10 ?_
      refine e_iload (dt dk_X9_terriers 24 rfl) rfl ?_
      refine ev_call (ca_V (k := 1) mv_X8_holesAllMeet (sp_X8_holesAllMeet_1 v4 M) (dt dk_X9_terriers 25 rfl) ml_X9_175 rfl rfl rfl rfl rfl (by decide) : Ca _ _ _ _ _ _ _ _ [] _ _) (fun r5 hr5 => ?_)
      show Ev _ _ _ _ _ _ 50 [some (.ref 0), some (.int v1), some (.int v2), some (.int v3), some (.int v4), some (.int (f_J6_bitCount_0f7a4 v4))] [.int r5] M _
      refine e_if_eq 59 (dt dk_X9_terriers 26 rfl) (by decide) (fun h6 => ?_) (fun h6 => ?_)
      · refine e_iinc [some (.ref 0), some (.int v1), some (.int v2), some (.int v3), some (.int (v4 + (1 : Int32))), some (.int (f_J6_bitCount_0f7a4 v4))] (dt dk_X9_terriers 31 rfl) rfl rfl rfl rfl ?_
        refine e_goto 20 (dt dk_X9_terriers 32 rfl) (by decide) ?_
        exact e_forget [true, true, true, true, true, false] [some (.ref 0), some (.int v1), some (.int v2), some (.int v3), some (.int (v4 + (1 : Int32))), none] ⟨rfl, rfl⟩ (hK20 v1 v2 v3 (v4 + (1 : Int32)))
      · refine e_iload (dt dk_X9_terriers 27 rfl) rfl ?_
        refine e_istore_n [some (.ref 0), some (.int v1), some (.int (f_J6_bitCount_0f7a4 v4)), some (.int v3), some (.int v4), some (.int (f_J6_bitCount_0f7a4 v4))] (dt dk_X9_terriers 28 rfl) rfl rfl rfl ?_
        refine e_iload (dt dk_X9_terriers 29 rfl) rfl ?_
        refine e_istore_n [some (.ref 0), some (.int v1), some (.int (f_J6_bitCount_0f7a4 v4)), some (.int v4), some (.int v4), some (.int (f_J6_bitCount_0f7a4 v4))] (dt dk_X9_terriers 30 rfl) rfl rfl rfl ?_
        refine e_iinc [some (.ref 0), some (.int v1), some (.int (f_J6_bitCount_0f7a4 v4)), some (.int v4), some (.int (v4 + (1 : Int32))), some (.int (f_J6_bitCount_0f7a4 v4))] (dt dk_X9_terriers 31 rfl) rfl rfl rfl rfl ?_
        refine e_goto 20 (dt dk_X9_terriers 32 rfl) (by decide) ?_
        exact e_forget [true, true, true, true, true, false] [some (.ref 0), some (.int v1), some (.int (f_J6_bitCount_0f7a4 v4)), some (.int v4), some (.int (v4 + (1 : Int32))), none] ⟨rfl, rfl⟩ (hK20 v1 (f_J6_bitCount_0f7a4 v4) v4 (v4 + (1 : Int32)))
def lp_X9_terriers_20 (M : Mem)  : Nat → Int32 → Int32 → Int32 → Int32 → Option Int32
  | 0 => fun _ _ _ _ => none
  | n + 1 => bd_X9_terriers_20 M (lp_X9_terriers_20 M n)
theorem ev_lp_X9_terriers_20 (M : Mem)   : ∀ (n : Nat), ∀ (v1 : Int32) (v2 : Int32) (v3 : Int32) (v4 : Int32), Ev none (wR M) RX9 cX9_terriers (some .int) 1 20 [some (.ref 0), some (.int v1), some (.int v2), some (.int v3), some (.int v4), none] [] M (lp_X9_terriers_20 M n v1 v2 v3 v4)
  | 0 => fun _ _ _ _ => e_none
  | n + 1 => ev_bd_X9_terriers_20 M (lp_X9_terriers_20 M n) (ev_lp_X9_terriers_20 M n)
def f_X9_terriers (v1 : Int32) (M : Mem) : Option Int32 :=
  (if (f_X9_within v1 (0 : Int32) (1 : Int32)) = 0 then some (-2 : Int32) else (lp_X9_terriers_20 M FU v1 (9 : Int32) (0 : Int32) (0 : Int32)))
set_option maxRecDepth 20000 in
set_option maxHeartbeats 2000000 in
theorem sp_X9_terriers (v1 : Int32) (M : Mem) : SpO (wR M) yX9_terriers cX9_terriers 6 (some .int) 1 [.ref 0, .int v1] M (f_X9_terriers v1 M) := by
  refine sp_of (L := [some (.ref 0), some (.int v1), none, none, none, none]) rfl (by decide +kernel) rfl rfl ?_
  unfold f_X9_terriers
  refine e_iload_n (dt dk_X9_terriers 0 rfl) rfl ?_
  refine e_iconst (v := (0 : Int32)) (dt dk_X9_terriers 1 rfl) (by decide) ?_
  refine e_iconst (v := (1 : Int32)) (dt dk_X9_terriers 2 rfl) (by decide) ?_
  refine ev_callT (ca_S ms_X9_within (sp_X9_within v1 (0 : Int32) (1 : Int32) M) (dt dk_X9_terriers 3 rfl) ml_X9_79 rfl rfl rfl (by decide) : Ca _ _ _ _ _ _ _ _ [] _ _) ?_
  show Ev _ _ _ _ _ _ 6 [some (.ref 0), some (.int v1), none, none, none, none] [.int (f_X9_within v1 (0 : Int32) (1 : Int32))] M _
  refine e_if_ne 12 (dt dk_X9_terriers 4 rfl) (by decide) (fun h1 => ?_) (fun h1 => ?_)
  · refine e_bipush (v := (-2 : Int32)) (dt dk_X9_terriers 5 rfl) (by decide) ?_
    exact e_iret (dt dk_X9_terriers 6 rfl) rfl rfl rfl
  · refine e_bipush (v := (9 : Int32)) (dt dk_X9_terriers 7 rfl) (by decide) ?_
    refine e_istore_n [some (.ref 0), some (.int v1), some (.int (9 : Int32)), none, none, none] (dt dk_X9_terriers 8 rfl) rfl rfl rfl ?_
    refine e_iconst (v := (0 : Int32)) (dt dk_X9_terriers 9 rfl) (by decide) ?_
    refine e_istore_n [some (.ref 0), some (.int v1), some (.int (9 : Int32)), some (.int (0 : Int32)), none, none] (dt dk_X9_terriers 10 rfl) rfl rfl rfl ?_
    refine e_iconst (v := (0 : Int32)) (dt dk_X9_terriers 11 rfl) (by decide) ?_
    refine e_istore [some (.ref 0), some (.int v1), some (.int (9 : Int32)), some (.int (0 : Int32)), some (.int (0 : Int32)), none] (dt dk_X9_terriers 12 rfl) rfl rfl rfl ?_
    exact e_forget [true, true, true, true, true, false] [some (.ref 0), some (.int v1), some (.int (9 : Int32)), some (.int (0 : Int32)), some (.int (0 : Int32)), none] ⟨rfl, rfl⟩ (ev_lp_X9_terriers_20 M FU v1 (9 : Int32) (0 : Int32) (0 : Int32))
-- X9_heard (W, depth 3)
def f_X9_heard (v1 : Int32) (v2 : Int32) (v3 : Int32) (v4 : Int32) (M : Mem) : Option (Int32 × Mem) :=
  (if (f_X9_within v3 (1 : Int32) (9 : Int32)) = 0 then some ((-2 : Int32), M) else (if (f_X9_within v4 (0 : Int32) (1 : Int32)) = 0 then some ((-2 : Int32), M) else if inb v3 10 then (if (f_X9_within v1 (0 : Int32) ((tensF (ix v3)) - (1 : Int32))) = 0 then some ((-2 : Int32), M) else (if (f_X9_within v2 (0 : Int32) ((tensF (ix v3)) - (1 : Int32))) = 0 then some ((-2 : Int32), M) else ((f_X2_listen_25 v1 v2 v3 M)).bind fun q6 => (if v4 = 0 then some ((q6 25 2), q6) else some ((q6 25 3), q6)))) else none))
set_option maxRecDepth 20000 in
set_option maxHeartbeats 2000000 in
theorem sp_X9_heard (v1 : Int32) (v2 : Int32) (v3 : Int32) (v4 : Int32) (M : Mem) : SpO wI yX9_heard cX9_heard 6 (some .int) 3 [.ref 0, .int v1, .int v2, .int v3, .int v4] M (f_X9_heard v1 v2 v3 v4 M) := by
  refine sp_of (L := [some (.ref 0), some (.int v1), some (.int v2), some (.int v3), some (.int v4), none]) rfl (by decide +kernel) rfl rfl ?_
  unfold f_X9_heard
  refine e_iload_n (dt dk_X9_heard 0 rfl) rfl ?_
  refine e_iconst (v := (1 : Int32)) (dt dk_X9_heard 1 rfl) (by decide) ?_
  refine e_bipush (v := (9 : Int32)) (dt dk_X9_heard 2 rfl) (by decide) ?_
  refine ev_callT (ca_S ms_X9_within (sp_X9_within v3 (1 : Int32) (9 : Int32) M) (dt dk_X9_heard 3 rfl) ml_X9_79 rfl rfl rfl (by decide) : Ca _ _ _ _ _ _ _ _ [] _ _) ?_
  show Ev _ _ _ _ _ _ 7 [some (.ref 0), some (.int v1), some (.int v2), some (.int v3), some (.int v4), none] [.int (f_X9_within v3 (1 : Int32) (9 : Int32))] M _
  refine e_if_eq 20 (dt dk_X9_heard 4 rfl) (by decide) (fun h1 => ?_) (fun h1 => ?_)
  · refine e_bipush (v := (-2 : Int32)) (dt dk_X9_heard 10 rfl) (by decide) ?_
    exact e_iret (dt dk_X9_heard 11 rfl) rfl rfl rfl
  · refine e_iload (dt dk_X9_heard 5 rfl) rfl ?_
    refine e_iconst (v := (0 : Int32)) (dt dk_X9_heard 6 rfl) (by decide) ?_
    refine e_iconst (v := (1 : Int32)) (dt dk_X9_heard 7 rfl) (by decide) ?_
    refine ev_callT (ca_S ms_X9_within (sp_X9_within v4 (0 : Int32) (1 : Int32) M) (dt dk_X9_heard 8 rfl) ml_X9_79 rfl rfl rfl (by decide) : Ca _ _ _ _ _ _ _ _ [] _ _) ?_
    show Ev _ _ _ _ _ _ 17 [some (.ref 0), some (.int v1), some (.int v2), some (.int v3), some (.int v4), none] [.int (f_X9_within v4 (0 : Int32) (1 : Int32))] M _
    refine e_if_ne 23 (dt dk_X9_heard 9 rfl) (by decide) (fun h2 => ?_) (fun h2 => ?_)
    · refine e_bipush (v := (-2 : Int32)) (dt dk_X9_heard 10 rfl) (by decide) ?_
      exact e_iret (dt dk_X9_heard 11 rfl) rfl rfl rfl
    · refine e_getsT (dt dk_X9_heard 12 rfl) fl_X9_178 ?_
      refine e_iload_n (dt dk_X9_heard 13 rfl) rfl ?_
      refine e_if (fun h3 => ?_)
      refine e_iaT' (dt dk_X9_heard 14 rfl) h3 ?_
      refine e_iconst (v := (1 : Int32)) (dt dk_X9_heard 15 rfl) (by decide) ?_
      refine e_isub (dt dk_X9_heard 16 rfl) ?_
      refine e_istore [some (.ref 0), some (.int v1), some (.int v2), some (.int v3), some (.int v4), some (.int ((tensF (ix v3)) - (1 : Int32)))] (dt dk_X9_heard 17 rfl) rfl rfl rfl ?_
      refine e_iload_n (dt dk_X9_heard 18 rfl) rfl ?_
      refine e_iconst (v := (0 : Int32)) (dt dk_X9_heard 19 rfl) (by decide) ?_
      refine e_iload (dt dk_X9_heard 20 rfl) rfl ?_
      refine ev_callT (ca_S ms_X9_within (sp_X9_within v1 (0 : Int32) ((tensF (ix v3)) - (1 : Int32)) M) (dt dk_X9_heard 21 rfl) ml_X9_79 rfl rfl rfl (by decide) : Ca _ _ _ _ _ _ _ _ [] _ _) ?_
      show Ev _ _ _ _ _ _ 39 [some (.ref 0), some (.int v1), some (.int v2), some (.int v3), some (.int v4), some (.int ((tensF (ix v3)) - (1 : Int32)))] [.int (f_X9_within v1 (0 : Int32) ((tensF (ix v3)) - (1 : Int32)))] M _
      refine e_if_eq 52 (dt dk_X9_heard 22 rfl) (by decide) (fun h4 => ?_) (fun h4 => ?_)
      · refine e_bipush (v := (-2 : Int32)) (dt dk_X9_heard 28 rfl) (by decide) ?_
        exact e_iret (dt dk_X9_heard 29 rfl) rfl rfl rfl
      · refine e_iload_n (dt dk_X9_heard 23 rfl) rfl ?_
        refine e_iconst (v := (0 : Int32)) (dt dk_X9_heard 24 rfl) (by decide) ?_
        refine e_iload (dt dk_X9_heard 25 rfl) rfl ?_
        refine ev_callT (ca_S ms_X9_within (sp_X9_within v2 (0 : Int32) ((tensF (ix v3)) - (1 : Int32)) M) (dt dk_X9_heard 26 rfl) ml_X9_79 rfl rfl rfl (by decide) : Ca _ _ _ _ _ _ _ _ [] _ _) ?_
        show Ev _ _ _ _ _ _ 49 [some (.ref 0), some (.int v1), some (.int v2), some (.int v3), some (.int v4), some (.int ((tensF (ix v3)) - (1 : Int32)))] [.int (f_X9_within v2 (0 : Int32) ((tensF (ix v3)) - (1 : Int32)))] M _
        refine e_if_ne 55 (dt dk_X9_heard 27 rfl) (by decide) (fun h5 => ?_) (fun h5 => ?_)
        · refine e_bipush (v := (-2 : Int32)) (dt dk_X9_heard 28 rfl) (by decide) ?_
          exact e_iret (dt dk_X9_heard 29 rfl) rfl rfl rfl
        · refine e_aload_n (dt dk_X9_heard 30 rfl) rfl ?_
          refine e_getR ci_X9 (dt dk_X9_heard 31 rfl) rfl (by decide) rfl fl_X9_57 ?_
          refine e_iload_n (dt dk_X9_heard 32 rfl) rfl ?_
          refine e_iload_n (dt dk_X9_heard 33 rfl) rfl ?_
          refine e_iload_n (dt dk_X9_heard 34 rfl) rfl ?_
          refine ev_call (ca_V (k := 25) mv_X2_listen (sp_X2_listen_25 v1 v2 v3 M) (dt dk_X9_heard 35 rfl) ml_X9_181 rfl rfl rfl rfl rfl (by decide) : Ca _ _ _ _ _ _ _ _ [] _ _) (fun q6 hq6 => ?_)
          show Ev _ _ _ _ _ _ 65 [some (.ref 0), some (.int v1), some (.int v2), some (.int v3), some (.int v4), some (.int ((tensF (ix v3)) - (1 : Int32)))] [] q6 _
          refine e_iload (dt dk_X9_heard 36 rfl) rfl ?_
          refine e_if_ne 80 (dt dk_X9_heard 37 rfl) (by decide) (fun h7 => ?_) (fun h7 => ?_)
          · refine e_aload_n (dt dk_X9_heard 38 rfl) rfl ?_
            refine e_getR ci_X9 (dt dk_X9_heard 39 rfl) rfl (by decide) rfl fl_X9_57 ?_
            refine e_getI (v := (q6 25 2)) ci_X2 (dt dk_X9_heard 40 rfl) rfl (by decide) rfl fl_X9_185 rfl ?_
            refine e_goto 87 (dt dk_X9_heard 41 rfl) (by decide) ?_
            exact e_iret (dt dk_X9_heard 45 rfl) rfl rfl rfl
          · refine e_aload_n (dt dk_X9_heard 42 rfl) rfl ?_
            refine e_getR ci_X9 (dt dk_X9_heard 43 rfl) rfl (by decide) rfl fl_X9_57 ?_
            refine e_getI (v := (q6 25 3)) ci_X2 (dt dk_X9_heard 44 rfl) rfl (by decide) rfl fl_X9_188 rfl ?_
            exact e_iret (dt dk_X9_heard 45 rfl) rfl rfl rfl
-- X9_gnawed (W, depth 2)
def f_X9_gnawed (v1 : Int32) (v2 : Int32) (M : Mem) : Option (Int32 × Mem) :=
  (if (f_X9_within v1 (0 : Int32) (40 : Int32)) = 0 then some ((-2 : Int32), M) else (if (f_X9_within v2 (0 : Int32) (99 : Int32)) = 0 then some ((-2 : Int32), M) else ((f_X6_add_19 v1 v2 M)).bind fun q3 => (if q3.1 = 0 then some ((-4 : Int32), q3.2) else some ((q3.2 19 1), q3.2))))
set_option maxRecDepth 20000 in
set_option maxHeartbeats 2000000 in
theorem sp_X9_gnawed (v1 : Int32) (v2 : Int32) (M : Mem) : SpO wI yX9_gnawed cX9_gnawed 3 (some .int) 2 [.ref 0, .int v1, .int v2] M (f_X9_gnawed v1 v2 M) := by
  refine sp_of (L := [some (.ref 0), some (.int v1), some (.int v2)]) rfl (by decide +kernel) rfl rfl ?_
  unfold f_X9_gnawed
  refine e_iload_n (dt dk_X9_gnawed 0 rfl) rfl ?_
  refine e_iconst (v := (0 : Int32)) (dt dk_X9_gnawed 1 rfl) (by decide) ?_
  refine e_bipush (v := (40 : Int32)) (dt dk_X9_gnawed 2 rfl) (by decide) ?_
  refine ev_callT (ca_S ms_X9_within (sp_X9_within v1 (0 : Int32) (40 : Int32) M) (dt dk_X9_gnawed 3 rfl) ml_X9_79 rfl rfl rfl (by decide) : Ca _ _ _ _ _ _ _ _ [] _ _) ?_
  show Ev _ _ _ _ _ _ 7 [some (.ref 0), some (.int v1), some (.int v2)] [.int (f_X9_within v1 (0 : Int32) (40 : Int32))] M _
  refine e_if_eq 20 (dt dk_X9_gnawed 4 rfl) (by decide) (fun h1 => ?_) (fun h1 => ?_)
  · refine e_bipush (v := (-2 : Int32)) (dt dk_X9_gnawed 10 rfl) (by decide) ?_
    exact e_iret (dt dk_X9_gnawed 11 rfl) rfl rfl rfl
  · refine e_iload_n (dt dk_X9_gnawed 5 rfl) rfl ?_
    refine e_iconst (v := (0 : Int32)) (dt dk_X9_gnawed 6 rfl) (by decide) ?_
    refine e_bipush (v := (99 : Int32)) (dt dk_X9_gnawed 7 rfl) (by decide) ?_
    refine ev_callT (ca_S ms_X9_within (sp_X9_within v2 (0 : Int32) (99 : Int32) M) (dt dk_X9_gnawed 8 rfl) ml_X9_79 rfl rfl rfl (by decide) : Ca _ _ _ _ _ _ _ _ [] _ _) ?_
    show Ev _ _ _ _ _ _ 17 [some (.ref 0), some (.int v1), some (.int v2)] [.int (f_X9_within v2 (0 : Int32) (99 : Int32))] M _
    refine e_if_ne 23 (dt dk_X9_gnawed 9 rfl) (by decide) (fun h2 => ?_) (fun h2 => ?_)
    · refine e_bipush (v := (-2 : Int32)) (dt dk_X9_gnawed 10 rfl) (by decide) ?_
      exact e_iret (dt dk_X9_gnawed 11 rfl) rfl rfl rfl
    · refine e_aload_n (dt dk_X9_gnawed 12 rfl) rfl ?_
      refine e_getR ci_X9 (dt dk_X9_gnawed 13 rfl) rfl (by decide) rfl fl_X9_43 ?_
      refine e_iload_n (dt dk_X9_gnawed 14 rfl) rfl ?_
      refine e_iload_n (dt dk_X9_gnawed 15 rfl) rfl ?_
      refine ev_call (ca_V (k := 19) mv_X6_add (sp_X6_add_19 v1 v2 M) (dt dk_X9_gnawed 16 rfl) ml_X9_191 rfl rfl rfl rfl rfl (by decide) : Ca _ _ _ _ _ _ _ _ [] _ _) (fun q3 hq3 => ?_)
      show Ev _ _ _ _ _ _ 32 [some (.ref 0), some (.int v1), some (.int v2)] [.int q3.1] q3.2 _
      refine e_if_eq 45 (dt dk_X9_gnawed 17 rfl) (by decide) (fun h4 => ?_) (fun h4 => ?_)
      · refine e_bipush (v := (-4 : Int32)) (dt dk_X9_gnawed 22 rfl) (by decide) ?_
        exact e_iret (dt dk_X9_gnawed 23 rfl) rfl rfl rfl
      · refine e_aload_n (dt dk_X9_gnawed 18 rfl) rfl ?_
        refine e_getR ci_X9 (dt dk_X9_gnawed 19 rfl) rfl (by decide) rfl fl_X9_43 ?_
        refine e_getI (v := (q3.2 19 1)) ci_X6 (dt dk_X9_gnawed 20 rfl) rfl (by decide) rfl fl_X9_193 rfl ?_
        refine e_goto 47 (dt dk_X9_gnawed 21 rfl) (by decide) ?_
        exact e_iret (dt dk_X9_gnawed 23 rfl) rfl rfl rfl
-- X9_forget (W, depth 2)
def f_X9_forget  (M : Mem) : Option (Int32 × Mem) :=
  ((f_X6_clear_19 M)).bind fun q1 => some ((M 19 1), q1)
set_option maxRecDepth 20000 in
set_option maxHeartbeats 2000000 in
theorem sp_X9_forget  (M : Mem) : SpO wI yX9_forget cX9_forget 2 (some .int) 2 [.ref 0] M (f_X9_forget M) := by
  refine sp_of (L := [some (.ref 0), none]) rfl (by decide +kernel) rfl rfl ?_
  unfold f_X9_forget
  refine e_aload_n (dt dk_X9_forget 0 rfl) rfl ?_
  refine e_getR ci_X9 (dt dk_X9_forget 1 rfl) rfl (by decide) rfl fl_X9_43 ?_
  refine e_getI (v := (M 19 1)) ci_X6 (dt dk_X9_forget 2 rfl) rfl (by decide) rfl fl_X9_193 rfl ?_
  refine e_istore_n [some (.ref 0), some (.int (M 19 1))] (dt dk_X9_forget 3 rfl) rfl rfl rfl ?_
  refine e_aload_n (dt dk_X9_forget 4 rfl) rfl ?_
  refine e_getR ci_X9 (dt dk_X9_forget 5 rfl) rfl (by decide) rfl fl_X9_43 ?_
  refine ev_call (ca_V (k := 19) mv_X6_clear (sp_X6_clear_19 M) (dt dk_X9_forget 6 rfl) ml_X9_194 rfl rfl rfl rfl rfl (by decide) : Ca _ _ _ _ _ _ _ _ [] _ _) (fun q1 hq1 => ?_)
  show Ev _ _ _ _ _ _ 15 [some (.ref 0), some (.int (M 19 1))] [] q1 _
  refine e_iload_n (dt dk_X9_forget 7 rfl) rfl ?_
  exact e_iret (dt dk_X9_forget 8 rfl) rfl rfl rfl
-- X9_fits (R, depth 3)
def bd_X9_fits_21 (M : Mem) (K12 : Int32 → Int32 → Int32 → Option Int32) (K21 : Int32 → Int32 → Int32 → Int32 → Option Int32) (v1 : Int32) (v2 : Int32) (v3 : Int32) (v4 : Int32) : Option Int32 :=
  (if (9 : Int32) < v4 then (K12 v1 v2 (v3 + (1 : Int32))) else ((f_X6_agree_19 v3 v4 M)).bind fun r5 => (if r5 = 0 then (K21 v1 v2 v3 (v4 + (1 : Int32))) else (if v2 = v1 then some (((10 : Int32) * v3) + v4) else (K21 v1 (v2 + (1 : Int32)) v3 (v4 + (1 : Int32))))))
set_option maxRecDepth 20000 in
set_option maxHeartbeats 2000000 in
theorem ev_bd_X9_fits_21 (M : Mem) (K12 : Int32 → Int32 → Int32 → Option Int32) (K21 : Int32 → Int32 → Int32 → Int32 → Option Int32) (hK12 : ∀ (v1 : Int32) (v2 : Int32) (v3 : Int32), Ev none (wR M) RX9 cX9_fits (some .int) 3 12 [some (.ref 0), some (.int v1), some (.int v2), some (.int v3), none] [] M (K12 v1 v2 v3)) (hK21 : ∀ (v1 : Int32) (v2 : Int32) (v3 : Int32) (v4 : Int32), Ev none (wR M) RX9 cX9_fits (some .int) 3 21 [some (.ref 0), some (.int v1), some (.int v2), some (.int v3), some (.int v4)] [] M (K21 v1 v2 v3 v4)) (v1 : Int32) (v2 : Int32) (v3 : Int32) (v4 : Int32) : Ev none (wR M) RX9 cX9_fits (some .int) 3 21 [some (.ref 0), some (.int v1), some (.int v2), some (.int v3), some (.int v4)] [] M (bd_X9_fits_21 M K12 K21 v1 v2 v3 v4) := by
  unfold bd_X9_fits_21
  refine e_iload (dt dk_X9_fits 14 rfl) rfl ?_
  refine e_bipush (v := (9 : Int32)) (dt dk_X9_fits 15 rfl) (by decide) ?_
  refine e_icmp_gt 63 (dt dk_X9_fits 16 rfl) (by decide) (fun h4 => ?_) (fun h4 => ?_)
  · refine e_iinc [some (.ref 0), some (.int v1), some (.int v2), some (.int (v3 + (1 : Int32))), some (.int v4)] (dt dk_X9_fits 35 rfl) rfl rfl rfl rfl ?_
    refine e_goto 12 (dt dk_X9_fits 36 rfl) (by decide) ?_
    exact e_forget [true, true, true, true, false] [some (.ref 0), some (.int v1), some (.int v2), some (.int (v3 + (1 : Int32))), none] ⟨rfl, rfl⟩ (hK12 v1 v2 (v3 + (1 : Int32)))
  · refine e_aload_n (dt dk_X9_fits 17 rfl) rfl ?_
    refine e_getR ci_X9 (dt dk_X9_fits 18 rfl) rfl (by decide) rfl fl_X9_43 ?_
    refine e_iload_n (dt dk_X9_fits 19 rfl) rfl ?_
    refine e_iload (dt dk_X9_fits 20 rfl) rfl ?_
    refine ev_call (ca_V (k := 19) mv_X6_agree (sp_X6_agree_19 v3 v4 M) (dt dk_X9_fits 21 rfl) ml_X9_197 rfl rfl rfl rfl rfl (by decide) : Ca _ _ _ _ _ _ _ _ [] _ _) (fun r5 hr5 => ?_)
    show Ev _ _ _ _ _ _ 38 [some (.ref 0), some (.int v1), some (.int v2), some (.int v3), some (.int v4)] [.int r5] M _
    refine e_if_eq 57 (dt dk_X9_fits 22 rfl) (by decide) (fun h6 => ?_) (fun h6 => ?_)
    · refine e_iinc [some (.ref 0), some (.int v1), some (.int v2), some (.int v3), some (.int (v4 + (1 : Int32)))] (dt dk_X9_fits 33 rfl) rfl rfl rfl rfl ?_
      refine e_goto 21 (dt dk_X9_fits 34 rfl) (by decide) ?_
      exact e_forget [true, true, true, true, true] [some (.ref 0), some (.int v1), some (.int v2), some (.int v3), some (.int (v4 + (1 : Int32)))] ⟨rfl, rfl⟩ (hK21 v1 v2 v3 (v4 + (1 : Int32)))
    · refine e_iload_n (dt dk_X9_fits 23 rfl) rfl ?_
      refine e_iload_n (dt dk_X9_fits 24 rfl) rfl ?_
      refine e_icmp_ne 54 (dt dk_X9_fits 25 rfl) (by decide) (fun h7 => ?_) (fun h7 => ?_)
      · refine e_bipush (v := (10 : Int32)) (dt dk_X9_fits 26 rfl) (by decide) ?_
        refine e_iload_n (dt dk_X9_fits 27 rfl) rfl ?_
        refine e_imul (dt dk_X9_fits 28 rfl) ?_
        refine e_iload (dt dk_X9_fits 29 rfl) rfl ?_
        refine e_iadd (dt dk_X9_fits 30 rfl) ?_
        exact e_iret (dt dk_X9_fits 31 rfl) rfl rfl rfl
      · refine e_iinc [some (.ref 0), some (.int v1), some (.int (v2 + (1 : Int32))), some (.int v3), some (.int v4)] (dt dk_X9_fits 32 rfl) rfl rfl rfl rfl ?_
        refine e_iinc [some (.ref 0), some (.int v1), some (.int (v2 + (1 : Int32))), some (.int v3), some (.int (v4 + (1 : Int32)))] (dt dk_X9_fits 33 rfl) rfl rfl rfl rfl ?_
        refine e_goto 21 (dt dk_X9_fits 34 rfl) (by decide) ?_
        exact e_forget [true, true, true, true, true] [some (.ref 0), some (.int v1), some (.int (v2 + (1 : Int32))), some (.int v3), some (.int (v4 + (1 : Int32)))] ⟨rfl, rfl⟩ (hK21 v1 (v2 + (1 : Int32)) v3 (v4 + (1 : Int32)))
def lp_X9_fits_21 (M : Mem) (K12 : Int32 → Int32 → Int32 → Option Int32) : Nat → Int32 → Int32 → Int32 → Int32 → Option Int32
  | 0 => fun _ _ _ _ => none
  | n + 1 => bd_X9_fits_21 M K12 (lp_X9_fits_21 M K12 n)
theorem ev_lp_X9_fits_21 (M : Mem) (K12 : Int32 → Int32 → Int32 → Option Int32) (hK12 : ∀ (v1 : Int32) (v2 : Int32) (v3 : Int32), Ev none (wR M) RX9 cX9_fits (some .int) 3 12 [some (.ref 0), some (.int v1), some (.int v2), some (.int v3), none] [] M (K12 v1 v2 v3)) : ∀ (n : Nat), ∀ (v1 : Int32) (v2 : Int32) (v3 : Int32) (v4 : Int32), Ev none (wR M) RX9 cX9_fits (some .int) 3 21 [some (.ref 0), some (.int v1), some (.int v2), some (.int v3), some (.int v4)] [] M (lp_X9_fits_21 M K12 n v1 v2 v3 v4)
  | 0 => fun _ _ _ _ => e_none
  | n + 1 => ev_bd_X9_fits_21 M K12 (lp_X9_fits_21 M K12 n) hK12 (ev_lp_X9_fits_21 M K12 hK12 n)
def bd_X9_fits_12 (M : Mem)  (K12 : Int32 → Int32 → Int32 → Option Int32) (v1 : Int32) (v2 : Int32) (v3 : Int32) : Option Int32 :=
  (if (9 : Int32) < v3 then (if v1 = (-1 : Int32) then some v2 else some (-6 : Int32)) else (lp_X9_fits_21 M K12 FU v1 v2 v3 (0 : Int32)))
set_option maxRecDepth 20000 in
set_option maxHeartbeats 2000000 in
theorem ev_bd_X9_fits_12 (M : Mem)  (K12 : Int32 → Int32 → Int32 → Option Int32)  (hK12 : ∀ (v1 : Int32) (v2 : Int32) (v3 : Int32), Ev none (wR M) RX9 cX9_fits (some .int) 3 12 [some (.ref 0), some (.int v1), some (.int v2), some (.int v3), none] [] M (K12 v1 v2 v3)) (v1 : Int32) (v2 : Int32) (v3 : Int32) : Ev none (wR M) RX9 cX9_fits (some .int) 3 12 [some (.ref 0), some (.int v1), some (.int v2), some (.int v3), none] [] M (bd_X9_fits_12 M K12 v1 v2 v3) := by
  unfold bd_X9_fits_12
  refine e_iload_n (dt dk_X9_fits 9 rfl) rfl ?_
  refine e_bipush (v := (9 : Int32)) (dt dk_X9_fits 10 rfl) (by decide) ?_
  refine e_icmp_gt 69 (dt dk_X9_fits 11 rfl) (by decide) (fun h2 => ?_) (fun h2 => ?_)
  · refine e_iload_n (dt dk_X9_fits 37 rfl) rfl ?_
    refine e_iconst (v := (-1 : Int32)) (dt dk_X9_fits 38 rfl) (by decide) ?_
    refine e_icmp_ne 78 (dt dk_X9_fits 39 rfl) (by decide) (fun h3 => ?_) (fun h3 => ?_)
    · refine e_iload_n (dt dk_X9_fits 40 rfl) rfl ?_
      refine e_goto 80 (dt dk_X9_fits 41 rfl) (by decide) ?_
      exact e_iret (dt dk_X9_fits 43 rfl) rfl rfl rfl
    · refine e_bipush (v := (-6 : Int32)) (dt dk_X9_fits 42 rfl) (by decide) ?_
      exact e_iret (dt dk_X9_fits 43 rfl) rfl rfl rfl
  · refine e_iconst (v := (0 : Int32)) (dt dk_X9_fits 12 rfl) (by decide) ?_
    refine e_istore [some (.ref 0), some (.int v1), some (.int v2), some (.int v3), some (.int (0 : Int32))] (dt dk_X9_fits 13 rfl) rfl rfl rfl ?_
    exact e_forget [true, true, true, true, true] [some (.ref 0), some (.int v1), some (.int v2), some (.int v3), some (.int (0 : Int32))] ⟨rfl, rfl⟩ (ev_lp_X9_fits_21 M K12 hK12 FU v1 v2 v3 (0 : Int32))
def lp_X9_fits_12 (M : Mem)  : Nat → Int32 → Int32 → Int32 → Option Int32
  | 0 => fun _ _ _ => none
  | n + 1 => bd_X9_fits_12 M (lp_X9_fits_12 M n)
theorem ev_lp_X9_fits_12 (M : Mem)   : ∀ (n : Nat), ∀ (v1 : Int32) (v2 : Int32) (v3 : Int32), Ev none (wR M) RX9 cX9_fits (some .int) 3 12 [some (.ref 0), some (.int v1), some (.int v2), some (.int v3), none] [] M (lp_X9_fits_12 M n v1 v2 v3)
  | 0 => fun _ _ _ => e_none
  | n + 1 => ev_bd_X9_fits_12 M (lp_X9_fits_12 M n) (ev_lp_X9_fits_12 M n)
def f_X9_fits (v1 : Int32) (M : Mem) : Option Int32 :=
  (if (-1 : Int32) ≤ v1 then (lp_X9_fits_12 M FU v1 (0 : Int32) (1 : Int32)) else some (-6 : Int32))
set_option maxRecDepth 20000 in
set_option maxHeartbeats 2000000 in
theorem sp_X9_fits (v1 : Int32) (M : Mem) : SpO (wR M) yX9_fits cX9_fits 5 (some .int) 3 [.ref 0, .int v1] M (f_X9_fits v1 M) := by
  refine sp_of (L := [some (.ref 0), some (.int v1), none, none, none]) rfl (by decide +kernel) rfl rfl ?_
  unfold f_X9_fits
  refine e_iload_n (dt dk_X9_fits 0 rfl) rfl ?_
  refine e_iconst (v := (-1 : Int32)) (dt dk_X9_fits 1 rfl) (by decide) ?_
  refine e_icmp_ge 8 (dt dk_X9_fits 2 rfl) (by decide) (fun h1 => ?_) (fun h1 => ?_)
  · refine e_iconst (v := (0 : Int32)) (dt dk_X9_fits 5 rfl) (by decide) ?_
    refine e_istore_n [some (.ref 0), some (.int v1), some (.int (0 : Int32)), none, none] (dt dk_X9_fits 6 rfl) rfl rfl rfl ?_
    refine e_iconst (v := (1 : Int32)) (dt dk_X9_fits 7 rfl) (by decide) ?_
    refine e_istore_n [some (.ref 0), some (.int v1), some (.int (0 : Int32)), some (.int (1 : Int32)), none] (dt dk_X9_fits 8 rfl) rfl rfl rfl ?_
    exact e_forget [true, true, true, true, false] [some (.ref 0), some (.int v1), some (.int (0 : Int32)), some (.int (1 : Int32)), none] ⟨rfl, rfl⟩ (ev_lp_X9_fits_12 M FU v1 (0 : Int32) (1 : Int32))
  · refine e_bipush (v := (-6 : Int32)) (dt dk_X9_fits 3 rfl) (by decide) ?_
    exact e_iret (dt dk_X9_fits 4 rfl) rfl rfl rfl
-- X9_ask (W, depth 5)
def f_X9_ask (v1 : Int32) (M : Mem) : Option (Int32 × Mem) :=
  (if (f_X9_within v1 (0 : Int32) (1 : Int32)) = 0 then some ((-2 : Int32), M) else ((f_X1_weigh_21_19 M)).bind fun q2 => (if v1 = 0 then some ((q2 21 4), q2) else some ((q2 21 5), q2)))
set_option maxRecDepth 20000 in
set_option maxHeartbeats 2000000 in
theorem sp_X9_ask (v1 : Int32) (M : Mem) : SpO wI yX9_ask cX9_ask 2 (some .int) 5 [.ref 0, .int v1] M (f_X9_ask v1 M) := by
  refine sp_of (L := [some (.ref 0), some (.int v1)]) rfl (by decide +kernel) rfl rfl ?_
  unfold f_X9_ask
  refine e_iload_n (dt dk_X9_ask 0 rfl) rfl ?_
  refine e_iconst (v := (0 : Int32)) (dt dk_X9_ask 1 rfl) (by decide) ?_
  refine e_iconst (v := (1 : Int32)) (dt dk_X9_ask 2 rfl) (by decide) ?_
  refine ev_callT (ca_S ms_X9_within (sp_X9_within v1 (0 : Int32) (1 : Int32) M) (dt dk_X9_ask 3 rfl) ml_X9_79 rfl rfl rfl (by decide) : Ca _ _ _ _ _ _ _ _ [] _ _) ?_
  show Ev _ _ _ _ _ _ 6 [some (.ref 0), some (.int v1)] [.int (f_X9_within v1 (0 : Int32) (1 : Int32))] M _
  refine e_if_ne 12 (dt dk_X9_ask 4 rfl) (by decide) (fun h1 => ?_) (fun h1 => ?_)
  · refine e_bipush (v := (-2 : Int32)) (dt dk_X9_ask 5 rfl) (by decide) ?_
    exact e_iret (dt dk_X9_ask 6 rfl) rfl rfl rfl
  · refine e_aload_n (dt dk_X9_ask 7 rfl) rfl ?_
    refine e_getR ci_X9 (dt dk_X9_ask 8 rfl) rfl (by decide) rfl fl_X9_50 ?_
    refine e_aload_n (dt dk_X9_ask 9 rfl) rfl ?_
    refine e_getR ci_X9 (dt dk_X9_ask 10 rfl) rfl (by decide) rfl fl_X9_43 ?_
    refine ev_call (ca_V (k := 21) mv_X1_weigh (sp_X1_weigh_21_19 M) (dt dk_X9_ask 11 rfl) ml_X9_200 rfl rfl rfl rfl rfl (by decide) : Ca _ _ _ _ _ _ _ _ [] _ _) (fun q2 hq2 => ?_)
    show Ev _ _ _ _ _ _ 23 [some (.ref 0), some (.int v1)] [] q2 _
    refine e_iload_n (dt dk_X9_ask 12 rfl) rfl ?_
    refine e_if_ne 37 (dt dk_X9_ask 13 rfl) (by decide) (fun h3 => ?_) (fun h3 => ?_)
    · refine e_aload_n (dt dk_X9_ask 14 rfl) rfl ?_
      refine e_getR ci_X9 (dt dk_X9_ask 15 rfl) rfl (by decide) rfl fl_X9_50 ?_
      refine e_getI (v := (q2 21 4)) ci_X1 (dt dk_X9_ask 16 rfl) rfl (by decide) rfl fl_X9_204 rfl ?_
      refine e_goto 44 (dt dk_X9_ask 17 rfl) (by decide) ?_
      exact e_iret (dt dk_X9_ask 21 rfl) rfl rfl rfl
    · refine e_aload_n (dt dk_X9_ask 18 rfl) rfl ?_
      refine e_getR ci_X9 (dt dk_X9_ask 19 rfl) rfl (by decide) rfl fl_X9_50 ?_
      refine e_getI (v := (q2 21 5)) ci_X1 (dt dk_X9_ask 20 rfl) rfl (by decide) rfl fl_X9_205 rfl ?_
      exact e_iret (dt dk_X9_ask 21 rfl) rfl rfl rfl
-- X9_chase (W, depth 2)
def f_X9_chase (v1 : Int32) (v2 : Int32) (v3 : Int32) (M : Mem) : Option (Int32 × Mem) :=
  (if (f_X9_isHouse v1) = 0 then some ((-1 : Int32), M) else (if (f_X9_isHouse v2) = 0 then some ((-1 : Int32), M) else (if (f_X9_within v3 (0 : Int32) (1 : Int32)) = 0 then some ((-2 : Int32), M) else ((f_X3_follow_28_6 v1 v2 M)).bind fun q4 => (if v3 = 0 then some ((q4 28 3), q4) else some ((q4 28 4), q4)))))
set_option maxRecDepth 20000 in
set_option maxHeartbeats 2000000 in
theorem sp_X9_chase (v1 : Int32) (v2 : Int32) (v3 : Int32) (M : Mem) : SpO wI yX9_chase cX9_chase 4 (some .int) 2 [.ref 0, .int v1, .int v2, .int v3] M (f_X9_chase v1 v2 v3 M) := by
  refine sp_of (L := [some (.ref 0), some (.int v1), some (.int v2), some (.int v3)]) rfl (by decide +kernel) rfl rfl ?_
  unfold f_X9_chase
  refine e_iload_n (dt dk_X9_chase 0 rfl) rfl ?_
  refine ev_callT (ca_S ms_X9_isHouse (sp_X9_isHouse v1 M) (dt dk_X9_chase 1 rfl) ml_X9_75 rfl rfl rfl (by decide) : Ca _ _ _ _ _ _ _ _ [] _ _) ?_
  show Ev _ _ _ _ _ _ 4 [some (.ref 0), some (.int v1), some (.int v2), some (.int v3)] [.int (f_X9_isHouse v1)] M _
  refine e_if_eq 14 (dt dk_X9_chase 2 rfl) (by decide) (fun h1 => ?_) (fun h1 => ?_)
  · refine e_iconst (v := (-1 : Int32)) (dt dk_X9_chase 6 rfl) (by decide) ?_
    exact e_iret (dt dk_X9_chase 7 rfl) rfl rfl rfl
  · refine e_iload_n (dt dk_X9_chase 3 rfl) rfl ?_
    refine ev_callT (ca_S ms_X9_isHouse (sp_X9_isHouse v2 M) (dt dk_X9_chase 4 rfl) ml_X9_75 rfl rfl rfl (by decide) : Ca _ _ _ _ _ _ _ _ [] _ _) ?_
    show Ev _ _ _ _ _ _ 11 [some (.ref 0), some (.int v1), some (.int v2), some (.int v3)] [.int (f_X9_isHouse v2)] M _
    refine e_if_ne 16 (dt dk_X9_chase 5 rfl) (by decide) (fun h2 => ?_) (fun h2 => ?_)
    · refine e_iconst (v := (-1 : Int32)) (dt dk_X9_chase 6 rfl) (by decide) ?_
      exact e_iret (dt dk_X9_chase 7 rfl) rfl rfl rfl
    · refine e_iload_n (dt dk_X9_chase 8 rfl) rfl ?_
      refine e_iconst (v := (0 : Int32)) (dt dk_X9_chase 9 rfl) (by decide) ?_
      refine e_iconst (v := (1 : Int32)) (dt dk_X9_chase 10 rfl) (by decide) ?_
      refine ev_callT (ca_S ms_X9_within (sp_X9_within v3 (0 : Int32) (1 : Int32) M) (dt dk_X9_chase 11 rfl) ml_X9_79 rfl rfl rfl (by decide) : Ca _ _ _ _ _ _ _ _ [] _ _) ?_
      show Ev _ _ _ _ _ _ 22 [some (.ref 0), some (.int v1), some (.int v2), some (.int v3)] [.int (f_X9_within v3 (0 : Int32) (1 : Int32))] M _
      refine e_if_ne 28 (dt dk_X9_chase 12 rfl) (by decide) (fun h3 => ?_) (fun h3 => ?_)
      · refine e_bipush (v := (-2 : Int32)) (dt dk_X9_chase 13 rfl) (by decide) ?_
        exact e_iret (dt dk_X9_chase 14 rfl) rfl rfl rfl
      · refine e_aload_n (dt dk_X9_chase 15 rfl) rfl ?_
        refine e_getR ci_X9 (dt dk_X9_chase 16 rfl) rfl (by decide) rfl fl_X9_64 ?_
        refine e_aload_n (dt dk_X9_chase 17 rfl) rfl ?_
        refine e_getR ci_X9 (dt dk_X9_chase 18 rfl) rfl (by decide) rfl fl_X9_10 ?_
        refine e_getR ci_X8 (dt dk_X9_chase 19 rfl) rfl (by decide) rfl fl_X9_208 ?_
        refine e_iload_n (dt dk_X9_chase 20 rfl) rfl ?_
        refine e_iload_n (dt dk_X9_chase 21 rfl) rfl ?_
        refine ev_call (ca_V (k := 28) mv_X3_follow (sp_X3_follow_28_6 v1 v2 M) (dt dk_X9_chase 22 rfl) ml_X9_211 rfl rfl rfl rfl rfl (by decide) : Ca _ _ _ _ _ _ _ _ [] _ _) (fun q4 hq4 => ?_)
        show Ev _ _ _ _ _ _ 44 [some (.ref 0), some (.int v1), some (.int v2), some (.int v3)] [] q4 _
        refine e_iload_n (dt dk_X9_chase 23 rfl) rfl ?_
        refine e_if_ne 58 (dt dk_X9_chase 24 rfl) (by decide) (fun h5 => ?_) (fun h5 => ?_)
        · refine e_aload_n (dt dk_X9_chase 25 rfl) rfl ?_
          refine e_getR ci_X9 (dt dk_X9_chase 26 rfl) rfl (by decide) rfl fl_X9_64 ?_
          refine e_getI (v := (q4 28 3)) ci_X3 (dt dk_X9_chase 27 rfl) rfl (by decide) rfl fl_X9_214 rfl ?_
          refine e_goto 65 (dt dk_X9_chase 28 rfl) (by decide) ?_
          exact e_iret (dt dk_X9_chase 32 rfl) rfl rfl rfl
        · refine e_aload_n (dt dk_X9_chase 29 rfl) rfl ?_
          refine e_getR ci_X9 (dt dk_X9_chase 30 rfl) rfl (by decide) rfl fl_X9_64 ?_
          refine e_getI (v := (q4 28 4)) ci_X3 (dt dk_X9_chase 31 rfl) rfl (by decide) rfl fl_X9_217 rfl ?_
          exact e_iret (dt dk_X9_chase 32 rfl) rfl rfl rfl
-- X9_ever (R, depth 1)
def lb_X9_ever_144  (v4 : Int32) (v9 : Int64) (v11 : Int64) (v13 : Int64) : Option Int64 :=
  (if v4 = 0 then if v13 = 0 then none else some (v9 / v13) else if v13 = 0 then none else some (v11 / v13))
set_option maxRecDepth 20000 in
set_option maxHeartbeats 2000000 in
theorem ev_lb_X9_ever_144 (M : Mem)   (v4 : Int32) (v9 : Int64) (v11 : Int64) (v13 : Int64) : Ev none (wL M) RX9 cX9_ever (some .long) 1 144 [none, none, none, none, some (.int v4), none, none, none, none, some (.long v9), none, some (.long v11), none, some (.long v13), none] [] M (lb_X9_ever_144 v4 v9 v11 v13) := by
  unfold lb_X9_ever_144
  refine e_iload (dt dk_X9_ever 80 rfl) rfl ?_
  refine e_if_ne 154 (dt dk_X9_ever 81 rfl) (by decide) (fun h8 => ?_) (fun h8 => ?_)
  · refine e_lload (dt dk_X9_ever 82 rfl) rfl ?_
    refine e_goto 156 (dt dk_X9_ever 83 rfl) (by decide) ?_
    refine e_lload (dt dk_X9_ever 85 rfl) rfl ?_
    refine e_ldiv (dt dk_X9_ever 86 rfl) ?_
    show Ev _ _ _ _ _ _ 159 [none, none, none, none, some (.int v4), none, none, none, none, some (.long v9), none, some (.long v11), none, some (.long v13), none] [.long (v9 / v13)] M _
    exact e_lret (dt dk_X9_ever 87 rfl) rfl rfl
  · refine e_lload (dt dk_X9_ever 84 rfl) rfl ?_
    refine e_lload (dt dk_X9_ever 85 rfl) rfl ?_
    refine e_ldiv (dt dk_X9_ever 86 rfl) ?_
    show Ev _ _ _ _ _ _ 159 [none, none, none, none, some (.int v4), none, none, none, none, some (.long v9), none, some (.long v11), none, some (.long v13), none] [.long (v11 / v13)] M _
    exact e_lret (dt dk_X9_ever 87 rfl) rfl rfl
def lb_X9_ever_111  (v4 : Int32) (v9 : Int64) (v11 : Int64) : Option Int64 :=
  ((f_X9_commonDivisor (absL v9) (absL v11))).bind fun r6 => (if 0 ≤ (lg_cmp r6 (1 : Int64)) then (lb_X9_ever_144 v4 (absL v9) (absL v11) r6) else (lb_X9_ever_144 v4 (absL v9) (absL v11) (1 : Int64)))
set_option maxRecDepth 20000 in
set_option maxHeartbeats 2000000 in
theorem ev_lb_X9_ever_111 (M : Mem)   (v4 : Int32) (v9 : Int64) (v11 : Int64) : Ev none (wL M) RX9 cX9_ever (some .long) 1 111 [none, none, none, none, some (.int v4), none, none, none, none, some (.long v9), none, some (.long v11), none, none, none] [] M (lb_X9_ever_111 v4 v9 v11) := by
  unfold lb_X9_ever_111
  refine e_lload (dt dk_X9_ever 64 rfl) rfl ?_
  refine e_absl ok_abs (dt dk_X9_ever 65 rfl) ml_X9_226 rfl (by decide) ?_
  show Ev _ _ _ _ _ _ 116 [none, none, none, none, some (.int v4), none, none, none, none, some (.long v9), none, some (.long v11), none, none, none] [.long (absL v9)] M _
  refine e_lstore [none, none, none, none, some (.int v4), none, none, none, none, some (.long (absL v9)), none, some (.long v11), none, none, none] (dt dk_X9_ever 66 rfl) rfl rfl rfl ?_
  refine e_lload (dt dk_X9_ever 67 rfl) rfl ?_
  refine e_absl ok_abs (dt dk_X9_ever 68 rfl) ml_X9_226 rfl (by decide) ?_
  show Ev _ _ _ _ _ _ 123 [none, none, none, none, some (.int v4), none, none, none, none, some (.long (absL v9)), none, some (.long v11), none, none, none] [.long (absL v11)] M _
  refine e_lstore [none, none, none, none, some (.int v4), none, none, none, none, some (.long (absL v9)), none, some (.long (absL v11)), none, none, none] (dt dk_X9_ever 69 rfl) rfl rfl rfl ?_
  refine e_lload (dt dk_X9_ever 70 rfl) rfl ?_
  refine e_lload (dt dk_X9_ever 71 rfl) rfl ?_
  refine ev_call (ca_S ms_X9_commonDivisor (sp_X9_commonDivisor (absL v9) (absL v11) M) (dt dk_X9_ever 72 rfl) ml_X9_232 rfl rfl rfl (by decide) : Ca _ _ _ _ _ _ _ _ [] _ _) (fun r6 hr6 => ?_)
  show Ev _ _ _ _ _ _ 132 [none, none, none, none, some (.int v4), none, none, none, none, some (.long (absL v9)), none, some (.long (absL v11)), none, none, none] [.long r6] M _
  refine e_lstore [none, none, none, none, some (.int v4), none, none, none, none, some (.long (absL v9)), none, some (.long (absL v11)), none, some (.long r6), none] (dt dk_X9_ever 73 rfl) rfl rfl rfl ?_
  refine e_lload (dt dk_X9_ever 74 rfl) rfl ?_
  refine e_lconst (v := (1 : Int64)) (dt dk_X9_ever 75 rfl) (by decide) ?_
  refine e_lcmp (dt dk_X9_ever 76 rfl) ?_
  refine e_if_ge 144 (dt dk_X9_ever 77 rfl) (by decide) (fun h7 => ?_) (fun h7 => ?_)
  · exact e_forget [false, false, false, false, true, false, false, false, false, true, false, true, false, true, false] [none, none, none, none, some (.int v4), none, none, none, none, some (.long (absL v9)), none, some (.long (absL v11)), none, some (.long r6), none] ⟨rfl, rfl⟩ (ev_lb_X9_ever_144 M v4 (absL v9) (absL v11) r6)
  · refine e_lconst (v := (1 : Int64)) (dt dk_X9_ever 78 rfl) (by decide) ?_
    refine e_lstore [none, none, none, none, some (.int v4), none, none, none, none, some (.long (absL v9)), none, some (.long (absL v11)), none, some (.long (1 : Int64)), none] (dt dk_X9_ever 79 rfl) rfl rfl rfl ?_
    exact e_forget [false, false, false, false, true, false, false, false, false, true, false, true, false, true, false] [none, none, none, none, some (.int v4), none, none, none, none, some (.long (absL v9)), none, some (.long (absL v11)), none, some (.long (1 : Int64)), none] ⟨rfl, rfl⟩ (ev_lb_X9_ever_144 M v4 (absL v9) (absL v11) (1 : Int64))
def f_X9_ever (v1 : Int32) (v2 : Int32) (v3 : Int32) (v4 : Int32) : Option Int64 :=
  (if (f_X9_within v1 (1 : Int32) (16 : Int32)) = 0 then some (-1000000000000000002 : Int64) else (if (f_X9_within v2 (0 : Int32) v1) = 0 then some (-1000000000000000002 : Int64) else (if (f_X9_within v3 (1 : Int32) (9 : Int32)) = 0 then some (-1000000000000000002 : Int64) else (if (f_X9_within v4 (0 : Int32) (1 : Int32)) = 0 then some (-1000000000000000002 : Int64) else (if (lg_cmp (Int32.toInt64 v3) (Int32.toInt64 ((10 : Int32) - v3))) = 0 then (lb_X9_ever_111 v4 (Int32.toInt64 (v1 - v2)) (Int32.toInt64 v1)) else ((f_X9_power (Int32.toInt64 ((10 : Int32) - v3)) v2)).bind fun r9 => ((f_X9_power (Int32.toInt64 v3) (v1 - v2))).bind fun r10 => ((f_X9_power (Int32.toInt64 ((10 : Int32) - v3)) v1)).bind fun r11 => ((f_X9_power (Int32.toInt64 v3) v1)).bind fun r12 => ((f_X9_power (Int32.toInt64 ((10 : Int32) - v3)) v1)).bind fun r13 => (lb_X9_ever_111 v4 ((r9 * r10) - r11) (r12 - r13)))))))
set_option maxRecDepth 20000 in
set_option maxHeartbeats 2000000 in
theorem sp_X9_ever (v1 : Int32) (v2 : Int32) (v3 : Int32) (v4 : Int32) (M : Mem) : SpO (wL M) yX9_ever cX9_ever 15 (some .long) 1 [.ref 0, .int v1, .int v2, .int v3, .int v4] M (f_X9_ever v1 v2 v3 v4) := by
  refine sp_of (L := [some (.ref 0), some (.int v1), some (.int v2), some (.int v3), some (.int v4), none, none, none, none, none, none, none, none, none, none]) rfl (by decide +kernel) rfl rfl ?_
  unfold f_X9_ever
  refine e_iload_n (dt dk_X9_ever 0 rfl) rfl ?_
  refine e_iconst (v := (1 : Int32)) (dt dk_X9_ever 1 rfl) (by decide) ?_
  refine e_bipush (v := (16 : Int32)) (dt dk_X9_ever 2 rfl) (by decide) ?_
  refine ev_callT (ca_S ms_X9_within (sp_X9_within v1 (1 : Int32) (16 : Int32) M) (dt dk_X9_ever 3 rfl) ml_X9_79 rfl rfl rfl (by decide) : Ca _ _ _ _ _ _ _ _ [] _ _) ?_
  show Ev _ _ _ _ _ _ 7 [some (.ref 0), some (.int v1), some (.int v2), some (.int v3), some (.int v4), none, none, none, none, none, none, none, none, none, none] [.int (f_X9_within v1 (1 : Int32) (16 : Int32))] M _
  refine e_if_eq 39 (dt dk_X9_ever 4 rfl) (by decide) (fun h1 => ?_) (fun h1 => ?_)
  · refine e_ldc2 (v := (-1000000000000000002 : Int64)) (dt dk_X9_ever 20 rfl) kl_X9_220 ?_
    exact e_lret (dt dk_X9_ever 21 rfl) rfl rfl
  · refine e_iload_n (dt dk_X9_ever 5 rfl) rfl ?_
    refine e_iconst (v := (0 : Int32)) (dt dk_X9_ever 6 rfl) (by decide) ?_
    refine e_iload_n (dt dk_X9_ever 7 rfl) rfl ?_
    refine ev_callT (ca_S ms_X9_within (sp_X9_within v2 (0 : Int32) v1 M) (dt dk_X9_ever 8 rfl) ml_X9_79 rfl rfl rfl (by decide) : Ca _ _ _ _ _ _ _ _ [] _ _) ?_
    show Ev _ _ _ _ _ _ 16 [some (.ref 0), some (.int v1), some (.int v2), some (.int v3), some (.int v4), none, none, none, none, none, none, none, none, none, none] [.int (f_X9_within v2 (0 : Int32) v1)] M _
    refine e_if_eq 39 (dt dk_X9_ever 9 rfl) (by decide) (fun h2 => ?_) (fun h2 => ?_)
    · refine e_ldc2 (v := (-1000000000000000002 : Int64)) (dt dk_X9_ever 20 rfl) kl_X9_220 ?_
      exact e_lret (dt dk_X9_ever 21 rfl) rfl rfl
    · refine e_iload_n (dt dk_X9_ever 10 rfl) rfl ?_
      refine e_iconst (v := (1 : Int32)) (dt dk_X9_ever 11 rfl) (by decide) ?_
      refine e_bipush (v := (9 : Int32)) (dt dk_X9_ever 12 rfl) (by decide) ?_
      refine ev_callT (ca_S ms_X9_within (sp_X9_within v3 (1 : Int32) (9 : Int32) M) (dt dk_X9_ever 13 rfl) ml_X9_79 rfl rfl rfl (by decide) : Ca _ _ _ _ _ _ _ _ [] _ _) ?_
      show Ev _ _ _ _ _ _ 26 [some (.ref 0), some (.int v1), some (.int v2), some (.int v3), some (.int v4), none, none, none, none, none, none, none, none, none, none] [.int (f_X9_within v3 (1 : Int32) (9 : Int32))] M _
      refine e_if_eq 39 (dt dk_X9_ever 14 rfl) (by decide) (fun h3 => ?_) (fun h3 => ?_)
      · refine e_ldc2 (v := (-1000000000000000002 : Int64)) (dt dk_X9_ever 20 rfl) kl_X9_220 ?_
        exact e_lret (dt dk_X9_ever 21 rfl) rfl rfl
      · refine e_iload (dt dk_X9_ever 15 rfl) rfl ?_
        refine e_iconst (v := (0 : Int32)) (dt dk_X9_ever 16 rfl) (by decide) ?_
        refine e_iconst (v := (1 : Int32)) (dt dk_X9_ever 17 rfl) (by decide) ?_
        refine ev_callT (ca_S ms_X9_within (sp_X9_within v4 (0 : Int32) (1 : Int32) M) (dt dk_X9_ever 18 rfl) ml_X9_79 rfl rfl rfl (by decide) : Ca _ _ _ _ _ _ _ _ [] _ _) ?_
        show Ev _ _ _ _ _ _ 36 [some (.ref 0), some (.int v1), some (.int v2), some (.int v3), some (.int v4), none, none, none, none, none, none, none, none, none, none] [.int (f_X9_within v4 (0 : Int32) (1 : Int32))] M _
        refine e_if_ne 43 (dt dk_X9_ever 19 rfl) (by decide) (fun h4 => ?_) (fun h4 => ?_)
        · refine e_ldc2 (v := (-1000000000000000002 : Int64)) (dt dk_X9_ever 20 rfl) kl_X9_220 ?_
          exact e_lret (dt dk_X9_ever 21 rfl) rfl rfl
        · refine e_iload_n (dt dk_X9_ever 22 rfl) rfl ?_
          refine e_i2l (dt dk_X9_ever 23 rfl) ?_
          refine e_lstore [some (.ref 0), some (.int v1), some (.int v2), some (.int v3), some (.int v4), some (.long (Int32.toInt64 v3)), none, none, none, none, none, none, none, none, none] (dt dk_X9_ever 24 rfl) rfl rfl rfl ?_
          refine e_bipush (v := (10 : Int32)) (dt dk_X9_ever 25 rfl) (by decide) ?_
          refine e_iload_n (dt dk_X9_ever 26 rfl) rfl ?_
          refine e_isub (dt dk_X9_ever 27 rfl) ?_
          refine e_i2l (dt dk_X9_ever 28 rfl) ?_
          refine e_lstore [some (.ref 0), some (.int v1), some (.int v2), some (.int v3), some (.int v4), some (.long (Int32.toInt64 v3)), none, some (.long (Int32.toInt64 ((10 : Int32) - v3))), none, none, none, none, none, none, none] (dt dk_X9_ever 29 rfl) rfl rfl rfl ?_
          refine e_iload_n (dt dk_X9_ever 30 rfl) rfl ?_
          refine e_iload_n (dt dk_X9_ever 31 rfl) rfl ?_
          refine e_isub (dt dk_X9_ever 32 rfl) ?_
          refine e_i2l (dt dk_X9_ever 33 rfl) ?_
          refine e_lstore [some (.ref 0), some (.int v1), some (.int v2), some (.int v3), some (.int v4), some (.long (Int32.toInt64 v3)), none, some (.long (Int32.toInt64 ((10 : Int32) - v3))), none, some (.long (Int32.toInt64 (v1 - v2))), none, none, none, none, none] (dt dk_X9_ever 34 rfl) rfl rfl rfl ?_
          refine e_iload_n (dt dk_X9_ever 35 rfl) rfl ?_
          refine e_i2l (dt dk_X9_ever 36 rfl) ?_
          refine e_lstore [some (.ref 0), some (.int v1), some (.int v2), some (.int v3), some (.int v4), some (.long (Int32.toInt64 v3)), none, some (.long (Int32.toInt64 ((10 : Int32) - v3))), none, some (.long (Int32.toInt64 (v1 - v2))), none, some (.long (Int32.toInt64 v1)), none, none, none] (dt dk_X9_ever 37 rfl) rfl rfl rfl ?_
          refine e_lload (dt dk_X9_ever 38 rfl) rfl ?_
          refine e_lload (dt dk_X9_ever 39 rfl) rfl ?_
          refine e_lcmp (dt dk_X9_ever 40 rfl) ?_
          refine e_if_eq 111 (dt dk_X9_ever 41 rfl) (by decide) (fun h5 => ?_) (fun h5 => ?_)
          · exact e_forget [false, false, false, false, true, false, false, false, false, true, false, true, false, false, false] [none, none, none, none, some (.int v4), none, none, none, none, some (.long (Int32.toInt64 (v1 - v2))), none, some (.long (Int32.toInt64 v1)), none, none, none] ⟨rfl, rfl⟩ (ev_lb_X9_ever_111 M v4 (Int32.toInt64 (v1 - v2)) (Int32.toInt64 v1))
          · refine e_lload (dt dk_X9_ever 42 rfl) rfl ?_
            refine e_iload_n (dt dk_X9_ever 43 rfl) rfl ?_
            refine ev_call (ca_S ms_X9_power (sp_X9_power (Int32.toInt64 ((10 : Int32) - v3)) v2 M) (dt dk_X9_ever 44 rfl) ml_X9_222 rfl rfl rfl (by decide) : Ca _ _ _ _ _ _ _ _ [] _ _) (fun r9 hr9 => ?_)
            show Ev _ _ _ _ _ _ 78 [some (.ref 0), some (.int v1), some (.int v2), some (.int v3), some (.int v4), some (.long (Int32.toInt64 v3)), none, some (.long (Int32.toInt64 ((10 : Int32) - v3))), none, some (.long (Int32.toInt64 (v1 - v2))), none, some (.long (Int32.toInt64 v1)), none, none, none] [.long r9] M _
            refine e_lload (dt dk_X9_ever 45 rfl) rfl ?_
            refine e_iload_n (dt dk_X9_ever 46 rfl) rfl ?_
            refine e_iload_n (dt dk_X9_ever 47 rfl) rfl ?_
            refine e_isub (dt dk_X9_ever 48 rfl) ?_
            refine ev_call (ca_S ms_X9_power (sp_X9_power (Int32.toInt64 v3) (v1 - v2) M) (dt dk_X9_ever 49 rfl) ml_X9_222 rfl rfl rfl (by decide) : Ca _ _ _ _ _ _ _ _ [.long r9] _ _) (fun r10 hr10 => ?_)
            show Ev _ _ _ _ _ _ 86 [some (.ref 0), some (.int v1), some (.int v2), some (.int v3), some (.int v4), some (.long (Int32.toInt64 v3)), none, some (.long (Int32.toInt64 ((10 : Int32) - v3))), none, some (.long (Int32.toInt64 (v1 - v2))), none, some (.long (Int32.toInt64 v1)), none, none, none] [.long r10, .long r9] M _
            refine e_lmul (dt dk_X9_ever 50 rfl) ?_
            refine e_lload (dt dk_X9_ever 51 rfl) rfl ?_
            refine e_iload_n (dt dk_X9_ever 52 rfl) rfl ?_
            refine ev_call (ca_S ms_X9_power (sp_X9_power (Int32.toInt64 ((10 : Int32) - v3)) v1 M) (dt dk_X9_ever 53 rfl) ml_X9_222 rfl rfl rfl (by decide) : Ca _ _ _ _ _ _ _ _ [.long (r9 * r10)] _ _) (fun r11 hr11 => ?_)
            show Ev _ _ _ _ _ _ 93 [some (.ref 0), some (.int v1), some (.int v2), some (.int v3), some (.int v4), some (.long (Int32.toInt64 v3)), none, some (.long (Int32.toInt64 ((10 : Int32) - v3))), none, some (.long (Int32.toInt64 (v1 - v2))), none, some (.long (Int32.toInt64 v1)), none, none, none] [.long r11, .long (r9 * r10)] M _
            refine e_lsub (dt dk_X9_ever 54 rfl) ?_
            refine e_lstore [some (.ref 0), some (.int v1), some (.int v2), some (.int v3), some (.int v4), some (.long (Int32.toInt64 v3)), none, some (.long (Int32.toInt64 ((10 : Int32) - v3))), none, some (.long ((r9 * r10) - r11)), none, some (.long (Int32.toInt64 v1)), none, none, none] (dt dk_X9_ever 55 rfl) rfl rfl rfl ?_
            refine e_lload (dt dk_X9_ever 56 rfl) rfl ?_
            refine e_iload_n (dt dk_X9_ever 57 rfl) rfl ?_
            refine ev_call (ca_S ms_X9_power (sp_X9_power (Int32.toInt64 v3) v1 M) (dt dk_X9_ever 58 rfl) ml_X9_222 rfl rfl rfl (by decide) : Ca _ _ _ _ _ _ _ _ [] _ _) (fun r12 hr12 => ?_)
            show Ev _ _ _ _ _ _ 102 [some (.ref 0), some (.int v1), some (.int v2), some (.int v3), some (.int v4), some (.long (Int32.toInt64 v3)), none, some (.long (Int32.toInt64 ((10 : Int32) - v3))), none, some (.long ((r9 * r10) - r11)), none, some (.long (Int32.toInt64 v1)), none, none, none] [.long r12] M _
            refine e_lload (dt dk_X9_ever 59 rfl) rfl ?_
            refine e_iload_n (dt dk_X9_ever 60 rfl) rfl ?_
            refine ev_call (ca_S ms_X9_power (sp_X9_power (Int32.toInt64 ((10 : Int32) - v3)) v1 M) (dt dk_X9_ever 61 rfl) ml_X9_222 rfl rfl rfl (by decide) : Ca _ _ _ _ _ _ _ _ [.long r12] _ _) (fun r13 hr13 => ?_)
            show Ev _ _ _ _ _ _ 108 [some (.ref 0), some (.int v1), some (.int v2), some (.int v3), some (.int v4), some (.long (Int32.toInt64 v3)), none, some (.long (Int32.toInt64 ((10 : Int32) - v3))), none, some (.long ((r9 * r10) - r11)), none, some (.long (Int32.toInt64 v1)), none, none, none] [.long r13, .long r12] M _
            refine e_lsub (dt dk_X9_ever 62 rfl) ?_
            refine e_lstore [some (.ref 0), some (.int v1), some (.int v2), some (.int v3), some (.int v4), some (.long (Int32.toInt64 v3)), none, some (.long (Int32.toInt64 ((10 : Int32) - v3))), none, some (.long ((r9 * r10) - r11)), none, some (.long (r12 - r13)), none, none, none] (dt dk_X9_ever 63 rfl) rfl rfl rfl ?_
            exact e_forget [false, false, false, false, true, false, false, false, false, true, false, true, false, false, false] [none, none, none, none, some (.int v4), none, none, none, none, some (.long ((r9 * r10) - r11)), none, some (.long (r12 - r13)), none, none, none] ⟨rfl, rfl⟩ (ev_lb_X9_ever_111 M v4 ((r9 * r10) - r11) (r12 - r13))
-- X9_year (W, depth 4)
def bd_X9_year_50  (K50 : Int32 → Int32 → Int32 → Int32 → Mem → Option (Int32 × Mem)) (v2 : Int32) (v3 : Int32) (v4 : Int32) (v5 : Int32) (M : Mem) : Option (Int32 × Mem) :=
  (if v2 ≤ v5 then (if v3 = (0 : Int32) then ((f_X8_allDoubts_8 M)).bind fun r7 => some (r7, M) else if v3 = (1 : Int32) then some ((M 8 7), M) else ((f_X8_clearHouses_8 M)).bind fun r9 => some ((f_J6_bitCount_0f7a4 r9), M)) else ((f_X0_draw_17 (remI (((75 : Int32) * v4) + (74 : Int32)) (65537 : Int32)) M)).bind fun q10 => (if (q10 17 0) = 0 then (K50 v2 v3 (remI (((75 : Int32) * v4) + (74 : Int32)) (65537 : Int32)) (v5 + (1 : Int32)) q10) else ((f_X8_whyNot_8_17 q10)).bind fun r12 => (if r12 = 0 then ((f_X8_take_8_17 q10)).bind fun q14 => (K50 v2 v3 (remI (((75 : Int32) * v4) + (74 : Int32)) (65537 : Int32)) (v5 + (1 : Int32)) q14) else (K50 v2 v3 (remI (((75 : Int32) * v4) + (74 : Int32)) (65537 : Int32)) (v5 + (1 : Int32)) q10))))
set_option maxRecDepth 20000 in
set_option maxHeartbeats 2000000 in
theorem ev_bd_X9_year_50  (K50 : Int32 → Int32 → Int32 → Int32 → Mem → Option (Int32 × Mem))  (hK50 : ∀ (v2 : Int32) (v3 : Int32) (v4 : Int32) (v5 : Int32) (M : Mem), Ev none wI RX9 cX9_year (some .int) 4 50 [some (.ref 0), none, some (.int v2), some (.int v3), some (.int v4), some (.int v5)] [] M (K50 v2 v3 v4 v5 M)) (v2 : Int32) (v3 : Int32) (v4 : Int32) (v5 : Int32) (M : Mem) : Ev none wI RX9 cX9_year (some .int) 4 50 [some (.ref 0), none, some (.int v2), some (.int v3), some (.int v4), some (.int v5)] [] M (bd_X9_year_50 K50 v2 v3 v4 v5 M) := by
  unfold bd_X9_year_50
  refine e_iload (dt dk_X9_year 26 rfl) rfl ?_
  refine e_iload_n (dt dk_X9_year 27 rfl) rfl ?_
  refine e_icmp_ge 119 (dt dk_X9_year 28 rfl) (by decide) (fun h5 => ?_) (fun h5 => ?_)
  · refine e_iload_n (dt dk_X9_year 58 rfl) rfl ?_
    refine e_split (fun h6 => ?_) (fun h6 => ?_)
    · refine e_lookup (off := 28) 148 (dt dk_X9_year 59 rfl) rfl (by rw [h6]; rfl) (by decide) ?_
      refine e_aload_n (dt dk_X9_year 60 rfl) rfl ?_
      refine e_getR ci_X9 (dt dk_X9_year 61 rfl) rfl (by decide) rfl fl_X9_16 ?_
      refine ev_call (ca_V (k := 8) mv_X8_allDoubts (sp_X8_allDoubts_8 M) (dt dk_X9_year 62 rfl) ml_X9_137 rfl rfl rfl rfl rfl (by decide) : Ca _ _ _ _ _ _ _ _ [] _ _) (fun r7 hr7 => ?_)
      show Ev _ _ _ _ _ _ 155 [some (.ref 0), none, some (.int v2), some (.int v3), some (.int v4), some (.int v5)] [.int r7] M _
      exact e_iret (dt dk_X9_year 63 rfl) rfl rfl rfl
    · skip
      refine e_split (fun h8 => ?_) (fun h8 => ?_)
      · refine e_lookup (off := 36) 156 (dt dk_X9_year 59 rfl) rfl (by rw [h8]; rfl) (by decide) ?_
        refine e_aload_n (dt dk_X9_year 64 rfl) rfl ?_
        refine e_getR ci_X9 (dt dk_X9_year 65 rfl) rfl (by decide) rfl fl_X9_16 ?_
        refine e_getI (v := (M 8 7)) ci_X8 (dt dk_X9_year 66 rfl) rfl (by decide) rfl fl_X9_130 rfl ?_
        exact e_iret (dt dk_X9_year 67 rfl) rfl rfl rfl
      · skip
        refine e_lookup (off := 44) 164 (dt dk_X9_year 59 rfl) rfl ((lv_osw h6 rfl).trans <| (lv_osw h8 rfl).trans <| rfl) (by decide) ?_
        refine e_aload_n (dt dk_X9_year 68 rfl) rfl ?_
        refine e_getR ci_X9 (dt dk_X9_year 69 rfl) rfl (by decide) rfl fl_X9_16 ?_
        refine ev_call (ca_V (k := 8) mv_X8_clearHouses (sp_X8_clearHouses_8 M) (dt dk_X9_year 70 rfl) ml_X9_143 rfl rfl rfl rfl rfl (by decide) : Ca _ _ _ _ _ _ _ _ [] _ _) (fun r9 hr9 => ?_)
        show Ev _ _ _ _ _ _ 171 [some (.ref 0), none, some (.int v2), some (.int v3), some (.int v4), some (.int v5)] [.int r9] M _
        refine ev_callT (ca_S ms_J6_bitCount_0f7a4 (sp_J6_bitCount_0f7a4 r9 M) (dt dk_X9_year 71 rfl) ml_X9_169 rfl rfl rfl (by decide) : Ca _ _ _ _ _ _ _ _ [] _ _) ?_
        show Ev _ _ _ _ _ _ 174 [some (.ref 0), none, some (.int v2), some (.int v3), some (.int v4), some (.int v5)] [.int (f_J6_bitCount_0f7a4 r9)] M _
        exact e_iret (dt dk_X9_year 72 rfl) rfl rfl rfl
  · refine e_bipush (v := (75 : Int32)) (dt dk_X9_year 29 rfl) (by decide) ?_
    refine e_iload (dt dk_X9_year 30 rfl) rfl ?_
    refine e_imul (dt dk_X9_year 31 rfl) ?_
    refine e_bipush (v := (74 : Int32)) (dt dk_X9_year 32 rfl) (by decide) ?_
    refine e_iadd (dt dk_X9_year 33 rfl) ?_
    refine e_ldc (v := (65537 : Int32)) (dt dk_X9_year 34 rfl) kc_X9_236 ?_
    refine e_irem' (dt dk_X9_year 35 rfl) (by decide) ?_
    show Ev _ _ _ _ _ _ 67 [some (.ref 0), none, some (.int v2), some (.int v3), some (.int v4), some (.int v5)] [.int (remI (((75 : Int32) * v4) + (74 : Int32)) (65537 : Int32))] M _
    refine e_istore [some (.ref 0), none, some (.int v2), some (.int v3), some (.int (remI (((75 : Int32) * v4) + (74 : Int32)) (65537 : Int32))), some (.int v5)] (dt dk_X9_year 36 rfl) rfl rfl rfl ?_
    refine e_aload_n (dt dk_X9_year 37 rfl) rfl ?_
    refine e_getR ci_X9 (dt dk_X9_year 38 rfl) rfl (by decide) rfl fl_X9_29 ?_
    refine e_iload (dt dk_X9_year 39 rfl) rfl ?_
    refine ev_call (ca_V (k := 17) mv_X0_draw (sp_X0_draw_17 (remI (((75 : Int32) * v4) + (74 : Int32)) (65537 : Int32)) M) (dt dk_X9_year 40 rfl) ml_X9_237 rfl rfl rfl rfl rfl (by decide) : Ca _ _ _ _ _ _ _ _ [] _ _) (fun q10 hq10 => ?_)
    show Ev _ _ _ _ _ _ 78 [some (.ref 0), none, some (.int v2), some (.int v3), some (.int (remI (((75 : Int32) * v4) + (74 : Int32)) (65537 : Int32))), some (.int v5)] [] q10 _
    refine e_aload_n (dt dk_X9_year 41 rfl) rfl ?_
    refine e_getR ci_X9 (dt dk_X9_year 42 rfl) rfl (by decide) rfl fl_X9_29 ?_
    refine e_getI (v := (q10 17 0)) ci_X0 (dt dk_X9_year 43 rfl) rfl (by decide) rfl fl_X9_241 rfl ?_
    refine e_if_eq 113 (dt dk_X9_year 44 rfl) (by decide) (fun h11 => ?_) (fun h11 => ?_)
    · refine e_iinc [some (.ref 0), none, some (.int v2), some (.int v3), some (.int (remI (((75 : Int32) * v4) + (74 : Int32)) (65537 : Int32))), some (.int (v5 + (1 : Int32)))] (dt dk_X9_year 56 rfl) rfl rfl rfl rfl ?_
      refine e_goto 50 (dt dk_X9_year 57 rfl) (by decide) ?_
      exact e_forget [true, false, true, true, true, true] [some (.ref 0), none, some (.int v2), some (.int v3), some (.int (remI (((75 : Int32) * v4) + (74 : Int32)) (65537 : Int32))), some (.int (v5 + (1 : Int32)))] ⟨rfl, rfl⟩ (hK50 v2 v3 (remI (((75 : Int32) * v4) + (74 : Int32)) (65537 : Int32)) (v5 + (1 : Int32)) q10)
    · refine e_aload_n (dt dk_X9_year 45 rfl) rfl ?_
      refine e_getR ci_X9 (dt dk_X9_year 46 rfl) rfl (by decide) rfl fl_X9_16 ?_
      refine e_aload_n (dt dk_X9_year 47 rfl) rfl ?_
      refine e_getR ci_X9 (dt dk_X9_year 48 rfl) rfl (by decide) rfl fl_X9_29 ?_
      refine ev_call (ca_V (k := 8) mv_X8_whyNot (sp_X8_whyNot_8_17 q10) (dt dk_X9_year 49 rfl) ml_X9_244 rfl rfl rfl rfl rfl (by decide) : Ca _ _ _ _ _ _ _ _ [] _ _) (fun r12 hr12 => ?_)
      show Ev _ _ _ _ _ _ 99 [some (.ref 0), none, some (.int v2), some (.int v3), some (.int (remI (((75 : Int32) * v4) + (74 : Int32)) (65537 : Int32))), some (.int v5)] [.int r12] q10 _
      refine e_if_ne 113 (dt dk_X9_year 50 rfl) (by decide) (fun h13 => ?_) (fun h13 => ?_)
      · refine e_aload_n (dt dk_X9_year 51 rfl) rfl ?_
        refine e_getR ci_X9 (dt dk_X9_year 52 rfl) rfl (by decide) rfl fl_X9_16 ?_
        refine e_aload_n (dt dk_X9_year 53 rfl) rfl ?_
        refine e_getR ci_X9 (dt dk_X9_year 54 rfl) rfl (by decide) rfl fl_X9_29 ?_
        refine ev_call (ca_V (k := 8) mv_X8_take (sp_X8_take_8_17 q10) (dt dk_X9_year 55 rfl) ml_X9_248 rfl rfl rfl rfl rfl (by decide) : Ca _ _ _ _ _ _ _ _ [] _ _) (fun q14 hq14 => ?_)
        show Ev _ _ _ _ _ _ 113 [some (.ref 0), none, some (.int v2), some (.int v3), some (.int (remI (((75 : Int32) * v4) + (74 : Int32)) (65537 : Int32))), some (.int v5)] [] q14 _
        refine e_iinc [some (.ref 0), none, some (.int v2), some (.int v3), some (.int (remI (((75 : Int32) * v4) + (74 : Int32)) (65537 : Int32))), some (.int (v5 + (1 : Int32)))] (dt dk_X9_year 56 rfl) rfl rfl rfl rfl ?_
        refine e_goto 50 (dt dk_X9_year 57 rfl) (by decide) ?_
        exact e_forget [true, false, true, true, true, true] [some (.ref 0), none, some (.int v2), some (.int v3), some (.int (remI (((75 : Int32) * v4) + (74 : Int32)) (65537 : Int32))), some (.int (v5 + (1 : Int32)))] ⟨rfl, rfl⟩ (hK50 v2 v3 (remI (((75 : Int32) * v4) + (74 : Int32)) (65537 : Int32)) (v5 + (1 : Int32)) q14)
      · refine e_iinc [some (.ref 0), none, some (.int v2), some (.int v3), some (.int (remI (((75 : Int32) * v4) + (74 : Int32)) (65537 : Int32))), some (.int (v5 + (1 : Int32)))] (dt dk_X9_year 56 rfl) rfl rfl rfl rfl ?_
        refine e_goto 50 (dt dk_X9_year 57 rfl) (by decide) ?_
        exact e_forget [true, false, true, true, true, true] [some (.ref 0), none, some (.int v2), some (.int v3), some (.int (remI (((75 : Int32) * v4) + (74 : Int32)) (65537 : Int32))), some (.int (v5 + (1 : Int32)))] ⟨rfl, rfl⟩ (hK50 v2 v3 (remI (((75 : Int32) * v4) + (74 : Int32)) (65537 : Int32)) (v5 + (1 : Int32)) q10)
def lp_X9_year_50  : Nat → Int32 → Int32 → Int32 → Int32 → Mem → Option (Int32 × Mem)
  | 0 => fun _ _ _ _ _ => none
  | n + 1 => bd_X9_year_50 (lp_X9_year_50 n)
theorem ev_lp_X9_year_50   : ∀ (n : Nat), ∀ (v2 : Int32) (v3 : Int32) (v4 : Int32) (v5 : Int32) (M : Mem), Ev none wI RX9 cX9_year (some .int) 4 50 [some (.ref 0), none, some (.int v2), some (.int v3), some (.int v4), some (.int v5)] [] M (lp_X9_year_50 n v2 v3 v4 v5 M)
  | 0 => fun _ _ _ _ _ => e_none
  | n + 1 => ev_bd_X9_year_50 (lp_X9_year_50 n) (ev_lp_X9_year_50 n)
def f_X9_year (v1 : Int32) (v2 : Int32) (v3 : Int32) (M : Mem) : Option (Int32 × Mem) :=
  (if (f_X9_within v1 (0 : Int32) (9999 : Int32)) = 0 then some ((-2 : Int32), M) else (if (f_X9_within v2 (1 : Int32) (99 : Int32)) = 0 then some ((-2 : Int32), M) else (if (f_X9_within v3 (0 : Int32) (2 : Int32)) = 0 then some ((-2 : Int32), M) else ((f_X8_become_8_1 M)).bind fun q4 => (lp_X9_year_50 FU v2 v3 v1 (0 : Int32) q4))))
set_option maxRecDepth 20000 in
set_option maxHeartbeats 2000000 in
theorem sp_X9_year (v1 : Int32) (v2 : Int32) (v3 : Int32) (M : Mem) : SpO wI yX9_year cX9_year 6 (some .int) 4 [.ref 0, .int v1, .int v2, .int v3] M (f_X9_year v1 v2 v3 M) := by
  refine sp_of (L := [some (.ref 0), some (.int v1), some (.int v2), some (.int v3), none, none]) rfl (by decide +kernel) rfl rfl ?_
  unfold f_X9_year
  refine e_iload_n (dt dk_X9_year 0 rfl) rfl ?_
  refine e_iconst (v := (0 : Int32)) (dt dk_X9_year 1 rfl) (by decide) ?_
  refine e_sipush (v := (9999 : Int32)) (dt dk_X9_year 2 rfl) (by decide) ?_
  refine ev_callT (ca_S ms_X9_within (sp_X9_within v1 (0 : Int32) (9999 : Int32) M) (dt dk_X9_year 3 rfl) ml_X9_79 rfl rfl rfl (by decide) : Ca _ _ _ _ _ _ _ _ [] _ _) ?_
  show Ev _ _ _ _ _ _ 8 [some (.ref 0), some (.int v1), some (.int v2), some (.int v3), none, none] [.int (f_X9_within v1 (0 : Int32) (9999 : Int32))] M _
  refine e_if_eq 30 (dt dk_X9_year 4 rfl) (by decide) (fun h1 => ?_) (fun h1 => ?_)
  · refine e_bipush (v := (-2 : Int32)) (dt dk_X9_year 15 rfl) (by decide) ?_
    exact e_iret (dt dk_X9_year 16 rfl) rfl rfl rfl
  · refine e_iload_n (dt dk_X9_year 5 rfl) rfl ?_
    refine e_iconst (v := (1 : Int32)) (dt dk_X9_year 6 rfl) (by decide) ?_
    refine e_bipush (v := (99 : Int32)) (dt dk_X9_year 7 rfl) (by decide) ?_
    refine ev_callT (ca_S ms_X9_within (sp_X9_within v2 (1 : Int32) (99 : Int32) M) (dt dk_X9_year 8 rfl) ml_X9_79 rfl rfl rfl (by decide) : Ca _ _ _ _ _ _ _ _ [] _ _) ?_
    show Ev _ _ _ _ _ _ 18 [some (.ref 0), some (.int v1), some (.int v2), some (.int v3), none, none] [.int (f_X9_within v2 (1 : Int32) (99 : Int32))] M _
    refine e_if_eq 30 (dt dk_X9_year 9 rfl) (by decide) (fun h2 => ?_) (fun h2 => ?_)
    · refine e_bipush (v := (-2 : Int32)) (dt dk_X9_year 15 rfl) (by decide) ?_
      exact e_iret (dt dk_X9_year 16 rfl) rfl rfl rfl
    · refine e_iload_n (dt dk_X9_year 10 rfl) rfl ?_
      refine e_iconst (v := (0 : Int32)) (dt dk_X9_year 11 rfl) (by decide) ?_
      refine e_iconst (v := (2 : Int32)) (dt dk_X9_year 12 rfl) (by decide) ?_
      refine ev_callT (ca_S ms_X9_within (sp_X9_within v3 (0 : Int32) (2 : Int32) M) (dt dk_X9_year 13 rfl) ml_X9_79 rfl rfl rfl (by decide) : Ca _ _ _ _ _ _ _ _ [] _ _) ?_
      show Ev _ _ _ _ _ _ 27 [some (.ref 0), some (.int v1), some (.int v2), some (.int v3), none, none] [.int (f_X9_within v3 (0 : Int32) (2 : Int32))] M _
      refine e_if_ne 33 (dt dk_X9_year 14 rfl) (by decide) (fun h3 => ?_) (fun h3 => ?_)
      · refine e_bipush (v := (-2 : Int32)) (dt dk_X9_year 15 rfl) (by decide) ?_
        exact e_iret (dt dk_X9_year 16 rfl) rfl rfl rfl
      · refine e_aload_n (dt dk_X9_year 17 rfl) rfl ?_
        refine e_getR ci_X9 (dt dk_X9_year 18 rfl) rfl (by decide) rfl fl_X9_16 ?_
        refine e_aload_n (dt dk_X9_year 19 rfl) rfl ?_
        refine e_getR ci_X9 (dt dk_X9_year 20 rfl) rfl (by decide) rfl fl_X9_10 ?_
        refine ev_call (ca_V (k := 8) mv_X8_become (sp_X8_become_8_1 M) (dt dk_X9_year 21 rfl) ml_X9_152 rfl rfl rfl rfl rfl (by decide) : Ca _ _ _ _ _ _ _ _ [] _ _) (fun q4 hq4 => ?_)
        show Ev _ _ _ _ _ _ 44 [some (.ref 0), some (.int v1), some (.int v2), some (.int v3), none, none] [] q4 _
        refine e_iload_n (dt dk_X9_year 22 rfl) rfl ?_
        refine e_istore [some (.ref 0), some (.int v1), some (.int v2), some (.int v3), some (.int v1), none] (dt dk_X9_year 23 rfl) rfl rfl rfl ?_
        refine e_iconst (v := (0 : Int32)) (dt dk_X9_year 24 rfl) (by decide) ?_
        refine e_istore [some (.ref 0), some (.int v1), some (.int v2), some (.int v3), some (.int v1), some (.int (0 : Int32))] (dt dk_X9_year 25 rfl) rfl rfl rfl ?_
        exact e_forget [true, false, true, true, true, true] [some (.ref 0), none, some (.int v2), some (.int v3), some (.int v1), some (.int (0 : Int32))] ⟨rfl, rfl⟩ (ev_lp_X9_year_50 FU v2 v3 v1 (0 : Int32) q4)
-- X9_image (W, depth 2)
def f_X9_image (v1 : Int32) (M : Mem) : Option (Int32 × Mem) :=
  (if (f_X9_within v1 (0 : Int32) (1 : Int32)) = 0 then some ((-2 : Int32), M) else (if v1 = 0 then ((f_X8_become_34_1 M)).bind fun q4 => (if v1 = 0 then ((f_X6_become_41_19 q4)).bind fun q7 => (if v1 = 0 then some ((1 : Int32), (up2 q7 33 2 (1 : Int32))) else if v1 = 1 then some ((1 : Int32), (up2 q7 43 2 (1 : Int32))) else none) else if v1 = 1 then ((f_X6_become_51_19 q4)).bind fun q10 => (if v1 = 0 then some ((1 : Int32), (up2 q10 33 2 (1 : Int32))) else if v1 = 1 then some ((1 : Int32), (up2 q10 43 2 (1 : Int32))) else none) else none) else if v1 = 1 then ((f_X8_become_44_1 M)).bind fun q13 => (if v1 = 0 then ((f_X6_become_41_19 q13)).bind fun q16 => (if v1 = 0 then some ((1 : Int32), (up2 q16 33 2 (1 : Int32))) else if v1 = 1 then some ((1 : Int32), (up2 q16 43 2 (1 : Int32))) else none) else if v1 = 1 then ((f_X6_become_51_19 q13)).bind fun q19 => (if v1 = 0 then some ((1 : Int32), (up2 q19 33 2 (1 : Int32))) else if v1 = 1 then some ((1 : Int32), (up2 q19 43 2 (1 : Int32))) else none) else none) else none))
set_option maxRecDepth 20000 in
set_option maxHeartbeats 2000000 in
theorem sp_X9_image (v1 : Int32) (M : Mem) : SpO wI yX9_image cX9_image 2 (some .int) 2 [.ref 0, .int v1] M (f_X9_image v1 M) := by
  refine sp_of (L := [some (.ref 0), some (.int v1)]) rfl (by decide +kernel) rfl rfl ?_
  unfold f_X9_image
  refine e_iload_n (dt dk_X9_image 0 rfl) rfl ?_
  refine e_iconst (v := (0 : Int32)) (dt dk_X9_image 1 rfl) (by decide) ?_
  refine e_iconst (v := (1 : Int32)) (dt dk_X9_image 2 rfl) (by decide) ?_
  refine ev_callT (ca_S ms_X9_within (sp_X9_within v1 (0 : Int32) (1 : Int32) M) (dt dk_X9_image 3 rfl) ml_X9_79 rfl rfl rfl (by decide) : Ca _ _ _ _ _ _ _ _ [] _ _) ?_
  show Ev _ _ _ _ _ _ 6 [some (.ref 0), some (.int v1)] [.int (f_X9_within v1 (0 : Int32) (1 : Int32))] M _
  refine e_if_ne 12 (dt dk_X9_image 4 rfl) (by decide) (fun h1 => ?_) (fun h1 => ?_)
  · refine e_bipush (v := (-2 : Int32)) (dt dk_X9_image 5 rfl) (by decide) ?_
    exact e_iret (dt dk_X9_image 6 rfl) rfl rfl rfl
  · refine e_aload_n (dt dk_X9_image 7 rfl) rfl ?_
    refine e_getR ci_X9 (dt dk_X9_image 8 rfl) rfl (by decide) rfl fl_X9_70 ?_
    refine e_iload_n (dt dk_X9_image 9 rfl) rfl ?_
    refine e_split (fun h2 => ?_) (fun h2 => ?_)
    · refine e_aald (dt dk_X9_image 10 rfl) rfl (by rw [h2]; decide) (by rw [h2]; rfl) ?_
      refine e_getR ci_X4 (dt dk_X9_image 11 rfl) rfl (by decide) rfl fl_X9_252 ?_
      refine e_aload_n (dt dk_X9_image 12 rfl) rfl ?_
      refine e_getR ci_X9 (dt dk_X9_image 13 rfl) rfl (by decide) rfl fl_X9_10 ?_
      refine ev_call (ca_V (k := 34) mv_X8_become (sp_X8_become_34_1 M) (dt dk_X9_image 14 rfl) ml_X9_152 rfl rfl rfl rfl rfl (by decide) : Ca _ _ _ _ _ _ _ _ [] _ _) (fun q4 hq4 => ?_)
      show Ev _ _ _ _ _ _ 28 [some (.ref 0), some (.int v1)] [] q4 _
      refine e_aload_n (dt dk_X9_image 15 rfl) rfl ?_
      refine e_getR ci_X9 (dt dk_X9_image 16 rfl) rfl (by decide) rfl fl_X9_70 ?_
      refine e_iload_n (dt dk_X9_image 17 rfl) rfl ?_
      refine e_split (fun h5 => ?_) (fun h5 => ?_)
      · refine e_aald (dt dk_X9_image 18 rfl) rfl (by rw [h5]; decide) (by rw [h5]; rfl) ?_
        refine e_getR ci_X4 (dt dk_X9_image 19 rfl) rfl (by decide) rfl fl_X9_255 ?_
        refine e_aload_n (dt dk_X9_image 20 rfl) rfl ?_
        refine e_getR ci_X9 (dt dk_X9_image 21 rfl) rfl (by decide) rfl fl_X9_43 ?_
        refine ev_call (ca_V (k := 41) mv_X6_become (sp_X6_become_41_19 q4) (dt dk_X9_image 22 rfl) ml_X9_256 rfl rfl rfl rfl rfl (by decide) : Ca _ _ _ _ _ _ _ _ [] _ _) (fun q7 hq7 => ?_)
        show Ev _ _ _ _ _ _ 44 [some (.ref 0), some (.int v1)] [] q7 _
        refine e_aload_n (dt dk_X9_image 23 rfl) rfl ?_
        refine e_getR ci_X9 (dt dk_X9_image 24 rfl) rfl (by decide) rfl fl_X9_70 ?_
        refine e_iload_n (dt dk_X9_image 25 rfl) rfl ?_
        refine e_split (fun h8 => ?_) (fun h8 => ?_)
        · refine e_aald (dt dk_X9_image 26 rfl) rfl (by rw [h8]; decide) (by rw [h8]; rfl) ?_
          refine e_iconst (v := (1 : Int32)) (dt dk_X9_image 27 rfl) (by decide) ?_
          refine e_putI (ty := .boolean) ci_X4 (dt dk_X9_image 28 rfl) rfl (by decide) rfl fl_X9_258 rfl (by decide +kernel) rfl rfl ?_
          refine e_iconst (v := (1 : Int32)) (dt dk_X9_image 29 rfl) (by decide) ?_
          exact e_iret (dt dk_X9_image 30 rfl) rfl rfl rfl
        · refine e_split (fun h9 => ?_) (fun _ => e_none)
          refine e_aald (dt dk_X9_image 26 rfl) rfl (by rw [h9]; decide) (by rw [h9]; rfl) ?_
          refine e_iconst (v := (1 : Int32)) (dt dk_X9_image 27 rfl) (by decide) ?_
          refine e_putI (ty := .boolean) ci_X4 (dt dk_X9_image 28 rfl) rfl (by decide) rfl fl_X9_258 rfl (by decide +kernel) rfl rfl ?_
          refine e_iconst (v := (1 : Int32)) (dt dk_X9_image 29 rfl) (by decide) ?_
          exact e_iret (dt dk_X9_image 30 rfl) rfl rfl rfl
      · refine e_split (fun h6 => ?_) (fun _ => e_none)
        refine e_aald (dt dk_X9_image 18 rfl) rfl (by rw [h6]; decide) (by rw [h6]; rfl) ?_
        refine e_getR ci_X4 (dt dk_X9_image 19 rfl) rfl (by decide) rfl fl_X9_255 ?_
        refine e_aload_n (dt dk_X9_image 20 rfl) rfl ?_
        refine e_getR ci_X9 (dt dk_X9_image 21 rfl) rfl (by decide) rfl fl_X9_43 ?_
        refine ev_call (ca_V (k := 51) mv_X6_become (sp_X6_become_51_19 q4) (dt dk_X9_image 22 rfl) ml_X9_256 rfl rfl rfl rfl rfl (by decide) : Ca _ _ _ _ _ _ _ _ [] _ _) (fun q10 hq10 => ?_)
        show Ev _ _ _ _ _ _ 44 [some (.ref 0), some (.int v1)] [] q10 _
        refine e_aload_n (dt dk_X9_image 23 rfl) rfl ?_
        refine e_getR ci_X9 (dt dk_X9_image 24 rfl) rfl (by decide) rfl fl_X9_70 ?_
        refine e_iload_n (dt dk_X9_image 25 rfl) rfl ?_
        refine e_split (fun h11 => ?_) (fun h11 => ?_)
        · refine e_aald (dt dk_X9_image 26 rfl) rfl (by rw [h11]; decide) (by rw [h11]; rfl) ?_
          refine e_iconst (v := (1 : Int32)) (dt dk_X9_image 27 rfl) (by decide) ?_
          refine e_putI (ty := .boolean) ci_X4 (dt dk_X9_image 28 rfl) rfl (by decide) rfl fl_X9_258 rfl (by decide +kernel) rfl rfl ?_
          refine e_iconst (v := (1 : Int32)) (dt dk_X9_image 29 rfl) (by decide) ?_
          exact e_iret (dt dk_X9_image 30 rfl) rfl rfl rfl
        · refine e_split (fun h12 => ?_) (fun _ => e_none)
          refine e_aald (dt dk_X9_image 26 rfl) rfl (by rw [h12]; decide) (by rw [h12]; rfl) ?_
          refine e_iconst (v := (1 : Int32)) (dt dk_X9_image 27 rfl) (by decide) ?_
          refine e_putI (ty := .boolean) ci_X4 (dt dk_X9_image 28 rfl) rfl (by decide) rfl fl_X9_258 rfl (by decide +kernel) rfl rfl ?_
          refine e_iconst (v := (1 : Int32)) (dt dk_X9_image 29 rfl) (by decide) ?_
          exact e_iret (dt dk_X9_image 30 rfl) rfl rfl rfl
    · refine e_split (fun h3 => ?_) (fun _ => e_none)
      refine e_aald (dt dk_X9_image 10 rfl) rfl (by rw [h3]; decide) (by rw [h3]; rfl) ?_
      refine e_getR ci_X4 (dt dk_X9_image 11 rfl) rfl (by decide) rfl fl_X9_252 ?_
      refine e_aload_n (dt dk_X9_image 12 rfl) rfl ?_
      refine e_getR ci_X9 (dt dk_X9_image 13 rfl) rfl (by decide) rfl fl_X9_10 ?_
      refine ev_call (ca_V (k := 44) mv_X8_become (sp_X8_become_44_1 M) (dt dk_X9_image 14 rfl) ml_X9_152 rfl rfl rfl rfl rfl (by decide) : Ca _ _ _ _ _ _ _ _ [] _ _) (fun q13 hq13 => ?_)
      show Ev _ _ _ _ _ _ 28 [some (.ref 0), some (.int v1)] [] q13 _
      refine e_aload_n (dt dk_X9_image 15 rfl) rfl ?_
      refine e_getR ci_X9 (dt dk_X9_image 16 rfl) rfl (by decide) rfl fl_X9_70 ?_
      refine e_iload_n (dt dk_X9_image 17 rfl) rfl ?_
      refine e_split (fun h14 => ?_) (fun h14 => ?_)
      · refine e_aald (dt dk_X9_image 18 rfl) rfl (by rw [h14]; decide) (by rw [h14]; rfl) ?_
        refine e_getR ci_X4 (dt dk_X9_image 19 rfl) rfl (by decide) rfl fl_X9_255 ?_
        refine e_aload_n (dt dk_X9_image 20 rfl) rfl ?_
        refine e_getR ci_X9 (dt dk_X9_image 21 rfl) rfl (by decide) rfl fl_X9_43 ?_
        refine ev_call (ca_V (k := 41) mv_X6_become (sp_X6_become_41_19 q13) (dt dk_X9_image 22 rfl) ml_X9_256 rfl rfl rfl rfl rfl (by decide) : Ca _ _ _ _ _ _ _ _ [] _ _) (fun q16 hq16 => ?_)
        show Ev _ _ _ _ _ _ 44 [some (.ref 0), some (.int v1)] [] q16 _
        refine e_aload_n (dt dk_X9_image 23 rfl) rfl ?_
        refine e_getR ci_X9 (dt dk_X9_image 24 rfl) rfl (by decide) rfl fl_X9_70 ?_
        refine e_iload_n (dt dk_X9_image 25 rfl) rfl ?_
        refine e_split (fun h17 => ?_) (fun h17 => ?_)
        · refine e_aald (dt dk_X9_image 26 rfl) rfl (by rw [h17]; decide) (by rw [h17]; rfl) ?_
          refine e_iconst (v := (1 : Int32)) (dt dk_X9_image 27 rfl) (by decide) ?_
          refine e_putI (ty := .boolean) ci_X4 (dt dk_X9_image 28 rfl) rfl (by decide) rfl fl_X9_258 rfl (by decide +kernel) rfl rfl ?_
          refine e_iconst (v := (1 : Int32)) (dt dk_X9_image 29 rfl) (by decide) ?_
          exact e_iret (dt dk_X9_image 30 rfl) rfl rfl rfl
        · refine e_split (fun h18 => ?_) (fun _ => e_none)
          refine e_aald (dt dk_X9_image 26 rfl) rfl (by rw [h18]; decide) (by rw [h18]; rfl) ?_
          refine e_iconst (v := (1 : Int32)) (dt dk_X9_image 27 rfl) (by decide) ?_
          refine e_putI (ty := .boolean) ci_X4 (dt dk_X9_image 28 rfl) rfl (by decide) rfl fl_X9_258 rfl (by decide +kernel) rfl rfl ?_
          refine e_iconst (v := (1 : Int32)) (dt dk_X9_image 29 rfl) (by decide) ?_
          exact e_iret (dt dk_X9_image 30 rfl) rfl rfl rfl
      · refine e_split (fun h15 => ?_) (fun _ => e_none)
        refine e_aald (dt dk_X9_image 18 rfl) rfl (by rw [h15]; decide) (by rw [h15]; rfl) ?_
        refine e_getR ci_X4 (dt dk_X9_image 19 rfl) rfl (by decide) rfl fl_X9_255 ?_
        refine e_aload_n (dt dk_X9_image 20 rfl) rfl ?_
        refine e_getR ci_X9 (dt dk_X9_image 21 rfl) rfl (by decide) rfl fl_X9_43 ?_
        refine ev_call (ca_V (k := 51) mv_X6_become (sp_X6_become_51_19 q13) (dt dk_X9_image 22 rfl) ml_X9_256 rfl rfl rfl rfl rfl (by decide) : Ca _ _ _ _ _ _ _ _ [] _ _) (fun q19 hq19 => ?_)
        show Ev _ _ _ _ _ _ 44 [some (.ref 0), some (.int v1)] [] q19 _
        refine e_aload_n (dt dk_X9_image 23 rfl) rfl ?_
        refine e_getR ci_X9 (dt dk_X9_image 24 rfl) rfl (by decide) rfl fl_X9_70 ?_
        refine e_iload_n (dt dk_X9_image 25 rfl) rfl ?_
        refine e_split (fun h20 => ?_) (fun h20 => ?_)
        · refine e_aald (dt dk_X9_image 26 rfl) rfl (by rw [h20]; decide) (by rw [h20]; rfl) ?_
          refine e_iconst (v := (1 : Int32)) (dt dk_X9_image 27 rfl) (by decide) ?_
          refine e_putI (ty := .boolean) ci_X4 (dt dk_X9_image 28 rfl) rfl (by decide) rfl fl_X9_258 rfl (by decide +kernel) rfl rfl ?_
          refine e_iconst (v := (1 : Int32)) (dt dk_X9_image 29 rfl) (by decide) ?_
          exact e_iret (dt dk_X9_image 30 rfl) rfl rfl rfl
        · refine e_split (fun h21 => ?_) (fun _ => e_none)
          refine e_aald (dt dk_X9_image 26 rfl) rfl (by rw [h21]; decide) (by rw [h21]; rfl) ?_
          refine e_iconst (v := (1 : Int32)) (dt dk_X9_image 27 rfl) (by decide) ?_
          refine e_putI (ty := .boolean) ci_X4 (dt dk_X9_image 28 rfl) rfl (by decide) rfl fl_X9_258 rfl (by decide +kernel) rfl rfl ?_
          refine e_iconst (v := (1 : Int32)) (dt dk_X9_image 29 rfl) (by decide) ?_
          exact e_iret (dt dk_X9_image 30 rfl) rfl rfl rfl
-- X9_restore (W, depth 2)
def f_X9_restore (v1 : Int32) (M : Mem) : Option (Int32 × Mem) :=
  (if (f_X9_within v1 (0 : Int32) (1 : Int32)) = 0 then some ((-2 : Int32), M) else (if v1 = 0 then (if (M 33 2) = 0 then some ((-3 : Int32), M) else (if v1 = 0 then ((f_X8_become_1_34 M)).bind fun q7 => (if v1 = 0 then ((f_X6_become_19_41 q7)).bind fun q10 => some ((1 : Int32), q10) else if v1 = 1 then ((f_X6_become_19_51 q7)).bind fun q11 => some ((1 : Int32), q11) else none) else if v1 = 1 then ((f_X8_become_1_44 M)).bind fun q12 => (if v1 = 0 then ((f_X6_become_19_41 q12)).bind fun q15 => some ((1 : Int32), q15) else if v1 = 1 then ((f_X6_become_19_51 q12)).bind fun q16 => some ((1 : Int32), q16) else none) else none)) else if v1 = 1 then (if (M 43 2) = 0 then some ((-3 : Int32), M) else (if v1 = 0 then ((f_X8_become_1_34 M)).bind fun q20 => (if v1 = 0 then ((f_X6_become_19_41 q20)).bind fun q23 => some ((1 : Int32), q23) else if v1 = 1 then ((f_X6_become_19_51 q20)).bind fun q24 => some ((1 : Int32), q24) else none) else if v1 = 1 then ((f_X8_become_1_44 M)).bind fun q25 => (if v1 = 0 then ((f_X6_become_19_41 q25)).bind fun q28 => some ((1 : Int32), q28) else if v1 = 1 then ((f_X6_become_19_51 q25)).bind fun q29 => some ((1 : Int32), q29) else none) else none)) else none))
set_option maxRecDepth 20000 in
set_option maxHeartbeats 2000000 in
theorem sp_X9_restore (v1 : Int32) (M : Mem) : SpO wI yX9_restore cX9_restore 2 (some .int) 2 [.ref 0, .int v1] M (f_X9_restore v1 M) := by
  refine sp_of (L := [some (.ref 0), some (.int v1)]) rfl (by decide +kernel) rfl rfl ?_
  unfold f_X9_restore
  refine e_iload_n (dt dk_X9_restore 0 rfl) rfl ?_
  refine e_iconst (v := (0 : Int32)) (dt dk_X9_restore 1 rfl) (by decide) ?_
  refine e_iconst (v := (1 : Int32)) (dt dk_X9_restore 2 rfl) (by decide) ?_
  refine ev_callT (ca_S ms_X9_within (sp_X9_within v1 (0 : Int32) (1 : Int32) M) (dt dk_X9_restore 3 rfl) ml_X9_79 rfl rfl rfl (by decide) : Ca _ _ _ _ _ _ _ _ [] _ _) ?_
  show Ev _ _ _ _ _ _ 6 [some (.ref 0), some (.int v1)] [.int (f_X9_within v1 (0 : Int32) (1 : Int32))] M _
  refine e_if_ne 12 (dt dk_X9_restore 4 rfl) (by decide) (fun h1 => ?_) (fun h1 => ?_)
  · refine e_bipush (v := (-2 : Int32)) (dt dk_X9_restore 5 rfl) (by decide) ?_
    exact e_iret (dt dk_X9_restore 6 rfl) rfl rfl rfl
  · refine e_aload_n (dt dk_X9_restore 7 rfl) rfl ?_
    refine e_getR ci_X9 (dt dk_X9_restore 8 rfl) rfl (by decide) rfl fl_X9_70 ?_
    refine e_iload_n (dt dk_X9_restore 9 rfl) rfl ?_
    refine e_split (fun h2 => ?_) (fun h2 => ?_)
    · refine e_aald (dt dk_X9_restore 10 rfl) rfl (by rw [h2]; decide) (by rw [h2]; rfl) ?_
      refine e_getI (v := (M 33 2)) ci_X4 (dt dk_X9_restore 11 rfl) rfl (by decide) rfl fl_X9_258 rfl ?_
      refine e_if_ne 27 (dt dk_X9_restore 12 rfl) (by decide) (fun h4 => ?_) (fun h4 => ?_)
      · refine e_bipush (v := (-3 : Int32)) (dt dk_X9_restore 13 rfl) (by decide) ?_
        exact e_iret (dt dk_X9_restore 14 rfl) rfl rfl rfl
      · refine e_aload_n (dt dk_X9_restore 15 rfl) rfl ?_
        refine e_getR ci_X9 (dt dk_X9_restore 16 rfl) rfl (by decide) rfl fl_X9_10 ?_
        refine e_aload_n (dt dk_X9_restore 17 rfl) rfl ?_
        refine e_getR ci_X9 (dt dk_X9_restore 18 rfl) rfl (by decide) rfl fl_X9_70 ?_
        refine e_iload_n (dt dk_X9_restore 19 rfl) rfl ?_
        refine e_split (fun h5 => ?_) (fun h5 => ?_)
        · refine e_aald (dt dk_X9_restore 20 rfl) rfl (by rw [h5]; decide) (by rw [h5]; rfl) ?_
          refine e_getR ci_X4 (dt dk_X9_restore 21 rfl) rfl (by decide) rfl fl_X9_252 ?_
          refine ev_call (ca_V (k := 1) mv_X8_become (sp_X8_become_1_34 M) (dt dk_X9_restore 22 rfl) ml_X9_152 rfl rfl rfl rfl rfl (by decide) : Ca _ _ _ _ _ _ _ _ [] _ _) (fun q7 hq7 => ?_)
          show Ev _ _ _ _ _ _ 43 [some (.ref 0), some (.int v1)] [] q7 _
          refine e_aload_n (dt dk_X9_restore 23 rfl) rfl ?_
          refine e_getR ci_X9 (dt dk_X9_restore 24 rfl) rfl (by decide) rfl fl_X9_43 ?_
          refine e_aload_n (dt dk_X9_restore 25 rfl) rfl ?_
          refine e_getR ci_X9 (dt dk_X9_restore 26 rfl) rfl (by decide) rfl fl_X9_70 ?_
          refine e_iload_n (dt dk_X9_restore 27 rfl) rfl ?_
          refine e_split (fun h8 => ?_) (fun h8 => ?_)
          · refine e_aald (dt dk_X9_restore 28 rfl) rfl (by rw [h8]; decide) (by rw [h8]; rfl) ?_
            refine e_getR ci_X4 (dt dk_X9_restore 29 rfl) rfl (by decide) rfl fl_X9_255 ?_
            refine ev_call (ca_V (k := 19) mv_X6_become (sp_X6_become_19_41 q7) (dt dk_X9_restore 30 rfl) ml_X9_256 rfl rfl rfl rfl rfl (by decide) : Ca _ _ _ _ _ _ _ _ [] _ _) (fun q10 hq10 => ?_)
            show Ev _ _ _ _ _ _ 59 [some (.ref 0), some (.int v1)] [] q10 _
            refine e_iconst (v := (1 : Int32)) (dt dk_X9_restore 31 rfl) (by decide) ?_
            exact e_iret (dt dk_X9_restore 32 rfl) rfl rfl rfl
          · refine e_split (fun h9 => ?_) (fun _ => e_none)
            refine e_aald (dt dk_X9_restore 28 rfl) rfl (by rw [h9]; decide) (by rw [h9]; rfl) ?_
            refine e_getR ci_X4 (dt dk_X9_restore 29 rfl) rfl (by decide) rfl fl_X9_255 ?_
            refine ev_call (ca_V (k := 19) mv_X6_become (sp_X6_become_19_51 q7) (dt dk_X9_restore 30 rfl) ml_X9_256 rfl rfl rfl rfl rfl (by decide) : Ca _ _ _ _ _ _ _ _ [] _ _) (fun q11 hq11 => ?_)
            show Ev _ _ _ _ _ _ 59 [some (.ref 0), some (.int v1)] [] q11 _
            refine e_iconst (v := (1 : Int32)) (dt dk_X9_restore 31 rfl) (by decide) ?_
            exact e_iret (dt dk_X9_restore 32 rfl) rfl rfl rfl
        · refine e_split (fun h6 => ?_) (fun _ => e_none)
          refine e_aald (dt dk_X9_restore 20 rfl) rfl (by rw [h6]; decide) (by rw [h6]; rfl) ?_
          refine e_getR ci_X4 (dt dk_X9_restore 21 rfl) rfl (by decide) rfl fl_X9_252 ?_
          refine ev_call (ca_V (k := 1) mv_X8_become (sp_X8_become_1_44 M) (dt dk_X9_restore 22 rfl) ml_X9_152 rfl rfl rfl rfl rfl (by decide) : Ca _ _ _ _ _ _ _ _ [] _ _) (fun q12 hq12 => ?_)
          show Ev _ _ _ _ _ _ 43 [some (.ref 0), some (.int v1)] [] q12 _
          refine e_aload_n (dt dk_X9_restore 23 rfl) rfl ?_
          refine e_getR ci_X9 (dt dk_X9_restore 24 rfl) rfl (by decide) rfl fl_X9_43 ?_
          refine e_aload_n (dt dk_X9_restore 25 rfl) rfl ?_
          refine e_getR ci_X9 (dt dk_X9_restore 26 rfl) rfl (by decide) rfl fl_X9_70 ?_
          refine e_iload_n (dt dk_X9_restore 27 rfl) rfl ?_
          refine e_split (fun h13 => ?_) (fun h13 => ?_)
          · refine e_aald (dt dk_X9_restore 28 rfl) rfl (by rw [h13]; decide) (by rw [h13]; rfl) ?_
            refine e_getR ci_X4 (dt dk_X9_restore 29 rfl) rfl (by decide) rfl fl_X9_255 ?_
            refine ev_call (ca_V (k := 19) mv_X6_become (sp_X6_become_19_41 q12) (dt dk_X9_restore 30 rfl) ml_X9_256 rfl rfl rfl rfl rfl (by decide) : Ca _ _ _ _ _ _ _ _ [] _ _) (fun q15 hq15 => ?_)
            show Ev _ _ _ _ _ _ 59 [some (.ref 0), some (.int v1)] [] q15 _
            refine e_iconst (v := (1 : Int32)) (dt dk_X9_restore 31 rfl) (by decide) ?_
            exact e_iret (dt dk_X9_restore 32 rfl) rfl rfl rfl
          · refine e_split (fun h14 => ?_) (fun _ => e_none)
            refine e_aald (dt dk_X9_restore 28 rfl) rfl (by rw [h14]; decide) (by rw [h14]; rfl) ?_
            refine e_getR ci_X4 (dt dk_X9_restore 29 rfl) rfl (by decide) rfl fl_X9_255 ?_
            refine ev_call (ca_V (k := 19) mv_X6_become (sp_X6_become_19_51 q12) (dt dk_X9_restore 30 rfl) ml_X9_256 rfl rfl rfl rfl rfl (by decide) : Ca _ _ _ _ _ _ _ _ [] _ _) (fun q16 hq16 => ?_)
            show Ev _ _ _ _ _ _ 59 [some (.ref 0), some (.int v1)] [] q16 _
            refine e_iconst (v := (1 : Int32)) (dt dk_X9_restore 31 rfl) (by decide) ?_
            exact e_iret (dt dk_X9_restore 32 rfl) rfl rfl rfl
    · refine e_split (fun h3 => ?_) (fun _ => e_none)
      refine e_aald (dt dk_X9_restore 10 rfl) rfl (by rw [h3]; decide) (by rw [h3]; rfl) ?_
      refine e_getI (v := (M 43 2)) ci_X4 (dt dk_X9_restore 11 rfl) rfl (by decide) rfl fl_X9_258 rfl ?_
      refine e_if_ne 27 (dt dk_X9_restore 12 rfl) (by decide) (fun h17 => ?_) (fun h17 => ?_)
      · refine e_bipush (v := (-3 : Int32)) (dt dk_X9_restore 13 rfl) (by decide) ?_
        exact e_iret (dt dk_X9_restore 14 rfl) rfl rfl rfl
      · refine e_aload_n (dt dk_X9_restore 15 rfl) rfl ?_
        refine e_getR ci_X9 (dt dk_X9_restore 16 rfl) rfl (by decide) rfl fl_X9_10 ?_
        refine e_aload_n (dt dk_X9_restore 17 rfl) rfl ?_
        refine e_getR ci_X9 (dt dk_X9_restore 18 rfl) rfl (by decide) rfl fl_X9_70 ?_
        refine e_iload_n (dt dk_X9_restore 19 rfl) rfl ?_
        refine e_split (fun h18 => ?_) (fun h18 => ?_)
        · refine e_aald (dt dk_X9_restore 20 rfl) rfl (by rw [h18]; decide) (by rw [h18]; rfl) ?_
          refine e_getR ci_X4 (dt dk_X9_restore 21 rfl) rfl (by decide) rfl fl_X9_252 ?_
          refine ev_call (ca_V (k := 1) mv_X8_become (sp_X8_become_1_34 M) (dt dk_X9_restore 22 rfl) ml_X9_152 rfl rfl rfl rfl rfl (by decide) : Ca _ _ _ _ _ _ _ _ [] _ _) (fun q20 hq20 => ?_)
          show Ev _ _ _ _ _ _ 43 [some (.ref 0), some (.int v1)] [] q20 _
          refine e_aload_n (dt dk_X9_restore 23 rfl) rfl ?_
          refine e_getR ci_X9 (dt dk_X9_restore 24 rfl) rfl (by decide) rfl fl_X9_43 ?_
          refine e_aload_n (dt dk_X9_restore 25 rfl) rfl ?_
          refine e_getR ci_X9 (dt dk_X9_restore 26 rfl) rfl (by decide) rfl fl_X9_70 ?_
          refine e_iload_n (dt dk_X9_restore 27 rfl) rfl ?_
          refine e_split (fun h21 => ?_) (fun h21 => ?_)
          · refine e_aald (dt dk_X9_restore 28 rfl) rfl (by rw [h21]; decide) (by rw [h21]; rfl) ?_
            refine e_getR ci_X4 (dt dk_X9_restore 29 rfl) rfl (by decide) rfl fl_X9_255 ?_
            refine ev_call (ca_V (k := 19) mv_X6_become (sp_X6_become_19_41 q20) (dt dk_X9_restore 30 rfl) ml_X9_256 rfl rfl rfl rfl rfl (by decide) : Ca _ _ _ _ _ _ _ _ [] _ _) (fun q23 hq23 => ?_)
            show Ev _ _ _ _ _ _ 59 [some (.ref 0), some (.int v1)] [] q23 _
            refine e_iconst (v := (1 : Int32)) (dt dk_X9_restore 31 rfl) (by decide) ?_
            exact e_iret (dt dk_X9_restore 32 rfl) rfl rfl rfl
          · refine e_split (fun h22 => ?_) (fun _ => e_none)
            refine e_aald (dt dk_X9_restore 28 rfl) rfl (by rw [h22]; decide) (by rw [h22]; rfl) ?_
            refine e_getR ci_X4 (dt dk_X9_restore 29 rfl) rfl (by decide) rfl fl_X9_255 ?_
            refine ev_call (ca_V (k := 19) mv_X6_become (sp_X6_become_19_51 q20) (dt dk_X9_restore 30 rfl) ml_X9_256 rfl rfl rfl rfl rfl (by decide) : Ca _ _ _ _ _ _ _ _ [] _ _) (fun q24 hq24 => ?_)
            show Ev _ _ _ _ _ _ 59 [some (.ref 0), some (.int v1)] [] q24 _
            refine e_iconst (v := (1 : Int32)) (dt dk_X9_restore 31 rfl) (by decide) ?_
            exact e_iret (dt dk_X9_restore 32 rfl) rfl rfl rfl
        · refine e_split (fun h19 => ?_) (fun _ => e_none)
          refine e_aald (dt dk_X9_restore 20 rfl) rfl (by rw [h19]; decide) (by rw [h19]; rfl) ?_
          refine e_getR ci_X4 (dt dk_X9_restore 21 rfl) rfl (by decide) rfl fl_X9_252 ?_
          refine ev_call (ca_V (k := 1) mv_X8_become (sp_X8_become_1_44 M) (dt dk_X9_restore 22 rfl) ml_X9_152 rfl rfl rfl rfl rfl (by decide) : Ca _ _ _ _ _ _ _ _ [] _ _) (fun q25 hq25 => ?_)
          show Ev _ _ _ _ _ _ 43 [some (.ref 0), some (.int v1)] [] q25 _
          refine e_aload_n (dt dk_X9_restore 23 rfl) rfl ?_
          refine e_getR ci_X9 (dt dk_X9_restore 24 rfl) rfl (by decide) rfl fl_X9_43 ?_
          refine e_aload_n (dt dk_X9_restore 25 rfl) rfl ?_
          refine e_getR ci_X9 (dt dk_X9_restore 26 rfl) rfl (by decide) rfl fl_X9_70 ?_
          refine e_iload_n (dt dk_X9_restore 27 rfl) rfl ?_
          refine e_split (fun h26 => ?_) (fun h26 => ?_)
          · refine e_aald (dt dk_X9_restore 28 rfl) rfl (by rw [h26]; decide) (by rw [h26]; rfl) ?_
            refine e_getR ci_X4 (dt dk_X9_restore 29 rfl) rfl (by decide) rfl fl_X9_255 ?_
            refine ev_call (ca_V (k := 19) mv_X6_become (sp_X6_become_19_41 q25) (dt dk_X9_restore 30 rfl) ml_X9_256 rfl rfl rfl rfl rfl (by decide) : Ca _ _ _ _ _ _ _ _ [] _ _) (fun q28 hq28 => ?_)
            show Ev _ _ _ _ _ _ 59 [some (.ref 0), some (.int v1)] [] q28 _
            refine e_iconst (v := (1 : Int32)) (dt dk_X9_restore 31 rfl) (by decide) ?_
            exact e_iret (dt dk_X9_restore 32 rfl) rfl rfl rfl
          · refine e_split (fun h27 => ?_) (fun _ => e_none)
            refine e_aald (dt dk_X9_restore 28 rfl) rfl (by rw [h27]; decide) (by rw [h27]; rfl) ?_
            refine e_getR ci_X4 (dt dk_X9_restore 29 rfl) rfl (by decide) rfl fl_X9_255 ?_
            refine ev_call (ca_V (k := 19) mv_X6_become (sp_X6_become_19_51 q25) (dt dk_X9_restore 30 rfl) ml_X9_256 rfl rfl rfl rfl rfl (by decide) : Ca _ _ _ _ _ _ _ _ [] _ _) (fun q29 hq29 => ?_)
            show Ev _ _ _ _ _ _ 59 [some (.ref 0), some (.int v1)] [] q29 _
            refine e_iconst (v := (1 : Int32)) (dt dk_X9_restore 31 rfl) (by decide) ?_
            exact e_iret (dt dk_X9_restore 32 rfl) rfl rfl rfl
-- X9_told (R, depth 2)
def f_X9_told (v1 : Int32) (M : Mem) : Option Int32 :=
  (if (f_X9_within v1 (10 : Int32) (17 : Int32)) = 0 then (if (f_X9_within v1 (100 : Int32) (179 : Int32)) = 0 then (if v1 = (0 : Int32) then some (M 15 1) else if v1 = (1 : Int32) then ((f_X8_clearHouses_1 M)).bind fun r5 => some r5 else if v1 = (2 : Int32) then some (M 1 6) else if v1 = (3 : Int32) then some (M 1 7) else if v1 = (4 : Int32) then some (M 1 8) else if v1 = (5 : Int32) then some (M 19 1) else some (-2 : Int32)) else (if (3 : Int32) < (remI v1 (10 : Int32)) then some (-2 : Int32) else ((f_X8_ofHouse_1 ((v1 - (100 : Int32)) / (10 : Int32)) (remI v1 (10 : Int32)) M)).bind fun r11 => some r11)) else if inb (v1 - (10 : Int32)) 8 then some (M 6 (ix (v1 - (10 : Int32)))) else none)
set_option maxRecDepth 20000 in
set_option maxHeartbeats 2000000 in
theorem sp_X9_told (v1 : Int32) (M : Mem) : SpO (wR M) yX9_told cX9_told 3 (some .int) 2 [.ref 0, .int v1] M (f_X9_told v1 M) := by
  refine sp_of (L := [some (.ref 0), some (.int v1), none]) rfl (by decide +kernel) rfl rfl ?_
  unfold f_X9_told
  refine e_iload_n (dt dk_X9_told 0 rfl) rfl ?_
  refine e_bipush (v := (10 : Int32)) (dt dk_X9_told 1 rfl) (by decide) ?_
  refine e_bipush (v := (17 : Int32)) (dt dk_X9_told 2 rfl) (by decide) ?_
  refine ev_callT (ca_S ms_X9_within (sp_X9_within v1 (10 : Int32) (17 : Int32) M) (dt dk_X9_told 3 rfl) ml_X9_79 rfl rfl rfl (by decide) : Ca _ _ _ _ _ _ _ _ [] _ _) ?_
  show Ev _ _ _ _ _ _ 8 [some (.ref 0), some (.int v1), none] [.int (f_X9_within v1 (10 : Int32) (17 : Int32))] M _
  refine e_if_eq 24 (dt dk_X9_told 4 rfl) (by decide) (fun h1 => ?_) (fun h1 => ?_)
  · refine e_iload_n (dt dk_X9_told 13 rfl) rfl ?_
    refine e_bipush (v := (100 : Int32)) (dt dk_X9_told 14 rfl) (by decide) ?_
    refine e_sipush (v := (179 : Int32)) (dt dk_X9_told 15 rfl) (by decide) ?_
    refine ev_callT (ca_S ms_X9_within (sp_X9_within v1 (100 : Int32) (179 : Int32) M) (dt dk_X9_told 16 rfl) ml_X9_79 rfl rfl rfl (by decide) : Ca _ _ _ _ _ _ _ _ [] _ _) ?_
    show Ev _ _ _ _ _ _ 33 [some (.ref 0), some (.int v1), none] [.int (f_X9_within v1 (100 : Int32) (179 : Int32))] M _
    refine e_if_eq 67 (dt dk_X9_told 17 rfl) (by decide) (fun h2 => ?_) (fun h2 => ?_)
    · refine e_iload_n (dt dk_X9_told 37 rfl) rfl ?_
      refine e_split (fun h3 => ?_) (fun h3 => ?_)
      · refine e_tableIn 108 (dt dk_X9_told 38 rfl) (by rw [h3]; decide) (by rw [h3]; decide) (by rw [h3]; rfl) (by decide) ?_
        refine e_aload_n (dt dk_X9_told 39 rfl) rfl ?_
        refine e_getR ci_X9 (dt dk_X9_told 40 rfl) rfl (by decide) rfl fl_X9_22 ?_
        refine e_getI (v := (M 15 1)) ci_X5 (dt dk_X9_told 41 rfl) rfl (by decide) rfl fl_X9_115 rfl ?_
        exact e_iret (dt dk_X9_told 42 rfl) rfl rfl rfl
      · skip
        refine e_split (fun h4 => ?_) (fun h4 => ?_)
        · refine e_tableIn 116 (dt dk_X9_told 38 rfl) (by rw [h4]; decide) (by rw [h4]; decide) (by rw [h4]; rfl) (by decide) ?_
          refine e_aload_n (dt dk_X9_told 43 rfl) rfl ?_
          refine e_getR ci_X9 (dt dk_X9_told 44 rfl) rfl (by decide) rfl fl_X9_10 ?_
          refine ev_call (ca_V (k := 1) mv_X8_clearHouses (sp_X8_clearHouses_1 M) (dt dk_X9_told 45 rfl) ml_X9_143 rfl rfl rfl rfl rfl (by decide) : Ca _ _ _ _ _ _ _ _ [] _ _) (fun r5 hr5 => ?_)
          show Ev _ _ _ _ _ _ 123 [some (.ref 0), some (.int v1), none] [.int r5] M _
          exact e_iret (dt dk_X9_told 46 rfl) rfl rfl rfl
        · skip
          refine e_split (fun h6 => ?_) (fun h6 => ?_)
          · refine e_tableIn 124 (dt dk_X9_told 38 rfl) (by rw [h6]; decide) (by rw [h6]; decide) (by rw [h6]; rfl) (by decide) ?_
            refine e_aload_n (dt dk_X9_told 47 rfl) rfl ?_
            refine e_getR ci_X9 (dt dk_X9_told 48 rfl) rfl (by decide) rfl fl_X9_10 ?_
            refine e_getI (v := (M 1 6)) ci_X8 (dt dk_X9_told 49 rfl) rfl (by decide) rfl fl_X9_108 rfl ?_
            exact e_iret (dt dk_X9_told 50 rfl) rfl rfl rfl
          · skip
            refine e_split (fun h7 => ?_) (fun h7 => ?_)
            · refine e_tableIn 132 (dt dk_X9_told 38 rfl) (by rw [h7]; decide) (by rw [h7]; decide) (by rw [h7]; rfl) (by decide) ?_
              refine e_aload_n (dt dk_X9_told 51 rfl) rfl ?_
              refine e_getR ci_X9 (dt dk_X9_told 52 rfl) rfl (by decide) rfl fl_X9_10 ?_
              refine e_getI (v := (M 1 7)) ci_X8 (dt dk_X9_told 53 rfl) rfl (by decide) rfl fl_X9_130 rfl ?_
              exact e_iret (dt dk_X9_told 54 rfl) rfl rfl rfl
            · skip
              refine e_split (fun h8 => ?_) (fun h8 => ?_)
              · refine e_tableIn 140 (dt dk_X9_told 38 rfl) (by rw [h8]; decide) (by rw [h8]; decide) (by rw [h8]; rfl) (by decide) ?_
                refine e_aload_n (dt dk_X9_told 55 rfl) rfl ?_
                refine e_getR ci_X9 (dt dk_X9_told 56 rfl) rfl (by decide) rfl fl_X9_10 ?_
                refine e_getI (v := (M 1 8)) ci_X8 (dt dk_X9_told 57 rfl) rfl (by decide) rfl fl_X9_140 rfl ?_
                exact e_iret (dt dk_X9_told 58 rfl) rfl rfl rfl
              · skip
                refine e_split (fun h9 => ?_) (fun h9 => ?_)
                · refine e_tableIn 148 (dt dk_X9_told 38 rfl) (by rw [h9]; decide) (by rw [h9]; decide) (by rw [h9]; rfl) (by decide) ?_
                  refine e_aload_n (dt dk_X9_told 59 rfl) rfl ?_
                  refine e_getR ci_X9 (dt dk_X9_told 60 rfl) rfl (by decide) rfl fl_X9_43 ?_
                  refine e_getI (v := (M 19 1)) ci_X6 (dt dk_X9_told 61 rfl) rfl (by decide) rfl fl_X9_193 rfl ?_
                  exact e_iret (dt dk_X9_told 62 rfl) rfl rfl rfl
                · skip
                  refine e_tableOut 156 (dt dk_X9_told 38 rfl) (sw_out 5 (by simp only [List.range, List.range.loop, List.all_cons, List.all_nil]; simp [h3, h4, h6, h7, h8, h9])) (by decide) ?_
                  refine e_bipush (v := (-2 : Int32)) (dt dk_X9_told 63 rfl) (by decide) ?_
                  exact e_iret (dt dk_X9_told 64 rfl) rfl rfl rfl
    · refine e_iload_n (dt dk_X9_told 18 rfl) rfl ?_
      refine e_bipush (v := (10 : Int32)) (dt dk_X9_told 19 rfl) (by decide) ?_
      refine e_irem' (dt dk_X9_told 20 rfl) (by decide) ?_
      show Ev _ _ _ _ _ _ 40 [some (.ref 0), some (.int v1), none] [.int (remI v1 (10 : Int32))] M _
      refine e_istore_n [some (.ref 0), some (.int v1), some (.int (remI v1 (10 : Int32)))] (dt dk_X9_told 21 rfl) rfl rfl rfl ?_
      refine e_iload_n (dt dk_X9_told 22 rfl) rfl ?_
      refine e_iconst (v := (3 : Int32)) (dt dk_X9_told 23 rfl) (by decide) ?_
      refine e_icmp_gt 64 (dt dk_X9_told 24 rfl) (by decide) (fun h10 => ?_) (fun h10 => ?_)
      · refine e_bipush (v := (-2 : Int32)) (dt dk_X9_told 35 rfl) (by decide) ?_
        exact e_iret (dt dk_X9_told 36 rfl) rfl rfl rfl
      · refine e_aload_n (dt dk_X9_told 25 rfl) rfl ?_
        refine e_getR ci_X9 (dt dk_X9_told 26 rfl) rfl (by decide) rfl fl_X9_10 ?_
        refine e_iload_n (dt dk_X9_told 27 rfl) rfl ?_
        refine e_bipush (v := (100 : Int32)) (dt dk_X9_told 28 rfl) (by decide) ?_
        refine e_isub (dt dk_X9_told 29 rfl) ?_
        refine e_bipush (v := (10 : Int32)) (dt dk_X9_told 30 rfl) (by decide) ?_
        refine e_idiv' (dt dk_X9_told 31 rfl) (by decide) ?_
        show Ev _ _ _ _ _ _ 57 [some (.ref 0), some (.int v1), some (.int (remI v1 (10 : Int32)))] [.int ((v1 - (100 : Int32)) / (10 : Int32)), .ref 1] M _
        refine e_iload_n (dt dk_X9_told 32 rfl) rfl ?_
        refine ev_call (ca_V (k := 1) mv_X8_ofHouse (sp_X8_ofHouse_1 ((v1 - (100 : Int32)) / (10 : Int32)) (remI v1 (10 : Int32)) M) (dt dk_X9_told 33 rfl) ml_X9_133 rfl rfl rfl rfl rfl (by decide) : Ca _ _ _ _ _ _ _ _ [] _ _) (fun r11 hr11 => ?_)
        show Ev _ _ _ _ _ _ 61 [some (.ref 0), some (.int v1), some (.int (remI v1 (10 : Int32)))] [.int r11] M _
        refine e_goto 66 (dt dk_X9_told 34 rfl) (by decide) ?_
        exact e_iret (dt dk_X9_told 36 rfl) rfl rfl rfl
  · refine e_aload_n (dt dk_X9_told 5 rfl) rfl ?_
    refine e_getR ci_X9 (dt dk_X9_told 6 rfl) rfl (by decide) rfl fl_X9_10 ?_
    refine e_getR ci_X8 (dt dk_X9_told 7 rfl) rfl (by decide) rfl fl_X9_208 ?_
    refine e_iload_n (dt dk_X9_told 8 rfl) rfl ?_
    refine e_bipush (v := (10 : Int32)) (dt dk_X9_told 9 rfl) (by decide) ?_
    refine e_isub (dt dk_X9_told 10 rfl) ?_
    refine e_if (fun h12 => ?_)
    refine e_iald' (v := (M 6 (ix (v1 - (10 : Int32))))) (dt dk_X9_told 11 rfl) rfl h12 rfl ?_
    exact e_iret (dt dk_X9_told 12 rfl) rfl rfl rfl
