def resX4 (tI tZ tG : ClassId) (ad : Nat → Nat) : va_W := (ad 0, .inr (4, [.ref (ad 1), .ref (ad 8), .int 0])) :: (resX8 tI tZ tG (sh ad 1) ++ resX6 tI tZ tG (sh ad 8))
set_option maxHeartbeats 4000000 in
set_option maxRecDepth 100000 in
theorem spc_X4 : SpC yX4_init cX4_init 1 2 4 9 101 [.null, .null, .int 0] resX4 := by
  refine spc_of rfl rfl (by decide) rfl ?_
  intro l D tI tZ tG base pre h p e s m below meth c ls hC hin hr hlocks hl hW
  refine lv_aload_n hC.1 hC.2.1 (dt dk_X4_init 0 rfl) rfl (lv_at hl 0 rfl) ?_
  refine b_obj hC (dt dk_X4_init 1 rfl) bw_m_X4_1 bw_oi bw_oc hl.1 (by decide) (by decide) ?_
  refine lv_aload_n hC.1 hC.2.1 (dt dk_X4_init 2 rfl) rfl (lv_at hl 0 rfl) ?_
  refine b_mkN hC ci_X8 fs_X8 spc_X8 mi_X8 (dt dk_X4_init 3 rfl) (dt dk_X4_init 4 rfl) (dt dk_X4_init 5 rfl) bw_c_X4_7 bw_ins_X8 bw_ini_X8 bw_n_X4_9 (by decide) (by decide) (Nat.le_of_ble_eq_true rfl) (Nat.le_of_ble_eq_true rfl) hl.1 rfl hW (fun a1 H locs hW => ?_)
  have hW : Wo D base (pre ++ ((h, .inr (4, [.null, .null, .int 0])) :: resX8 tI tZ tG a1)) s.heap H _ := hW
  refine b_putF (ty := tyX4 0) hC hin hW ci_X4 0 0 rfl (dt dk_X4_init 6 rfl) (by decide) bw_f_X4_10 rfl rfl (tyX4_ok 0 (by decide)) rfl rfl (Nat.le_of_ble_eq_true rfl) (fun H locs hW => ?_)
  have hW : Wo D base (pre ++ ((h, .inr (4, [.ref (a1 0), .null, .int 0])) :: resX8 tI tZ tG a1)) s.heap H _ := hW
  refine lv_aload_n hC.1 hC.2.1 (dt dk_X4_init 7 rfl) rfl (lv_at hl 0 rfl) ?_
  refine b_mk hC ci_X6 fs_X6 spc_X6 mi_X6 (dt dk_X4_init 8 rfl) (dt dk_X4_init 9 rfl) (dt dk_X4_init 10 rfl) bw_c_X4_16 bw_ins_X6 bw_ini_X6 bw_n_X4_18 (by decide) (by decide) (Nat.le_of_ble_eq_true rfl) (Nat.le_of_ble_eq_true rfl) hl.1 rfl hW (fun a2 H locs hW => ?_)
  have hW : Wo D base (pre ++ ((h, .inr (4, [.ref (a1 0), .null, .int 0])) :: (resX8 tI tZ tG a1 ++ resX6 tI tZ tG a2))) s.heap H _ := hW
  refine b_putF (ty := tyX4 1) hC hin hW ci_X4 0 1 rfl (dt dk_X4_init 11 rfl) (by decide) bw_f_X4_19 rfl rfl (tyX4_ok 1 (by decide)) rfl rfl (Nat.le_of_ble_eq_true rfl) (fun H locs hW => ?_)
  have hW : Wo D base (pre ++ ((h, .inr (4, [.ref (a1 0), .ref (a2 0), .int 0])) :: (resX8 tI tZ tG a1 ++ resX6 tI tZ tG a2))) s.heap H _ := hW
  exact b_ret hC hr hlocks (fun k => ([h, a1 0, a1 1, a1 2, a1 3, a1 4, a1 5, a1 6, a2 0, a2 1] : List Nat).getD k 0) rfl hW (dt dk_X4_init 12 rfl)
def resX9 (tI tZ tG : ClassId) (ad : Nat → Nat) : va_W := (ad 0, .inr (9, [.ref (ad 1), .ref (ad 8), .ref (ad 15), .ref (ad 17), .ref (ad 18), .ref (ad 19), .ref (ad 21), .ref (ad 25), .ref (ad 28), .ref (ad 32)])) :: (((((((((((resX8 tI tZ tG (sh ad 1) ++ resX8 tI tZ tG (sh ad 8)) ++ resX5 tI tZ tG (sh ad 15)) ++ resX0 tI tZ tG (sh ad 17)) ++ resX7 tI tZ tG (sh ad 18)) ++ resX6 tI tZ tG (sh ad 19)) ++ resX1 tI tZ tG (sh ad 21)) ++ resX2 tI tZ tG (sh ad 25)) ++ resX3 tI tZ tG (sh ad 28)) ++ [(ad 32, .inl (tG, 2, .inr (.inr (.inr (.inr (fun i => (([some 33, some 43] : List (Option Nat)).getD i none).map ad))))))]) ++ resX4 tI tZ tG (sh ad 33)) ++ resX4 tI tZ tG (sh ad 43))
theorem imgs_eq (ad : Nat → Nat) {a b : Nat} (ha : ad 33 = a) (hb : ad 43 = b) : va_up (va_up (fun _ => none) (Int32.toNatClampNeg 0) (some a)) (Int32.toNatClampNeg 1) (some b) = fun i => (([some 33, some 43] : List (Option Nat)).getD i none).map ad := by
  subst ha
  subst hb
  funext i
  match i with
  | 0 => rfl
  | 1 => rfl
  | i + 2 => rfl
set_option maxHeartbeats 4000000 in
set_option maxRecDepth 100000 in
theorem spc_X9 : SpC yX9_init cX9_init 2 3 9 52 957 [.null, .null, .null, .null, .null, .null, .null, .null, .null, .null] resX9 := by
  refine spc_of rfl rfl (by decide) rfl ?_
  intro l D tI tZ tG base pre h p e s m below meth c ls hC hin hr hlocks hl hW
  refine lv_aload_n hC.1 hC.2.1 (dt dk_X9_init 0 rfl) rfl (lv_at hl 0 rfl) ?_
  refine b_obj hC (dt dk_X9_init 1 rfl) bw_m_X9_1 bw_oi bw_oc hl.1 (by decide) (by decide) ?_
  refine lv_aload_n hC.1 hC.2.1 (dt dk_X9_init 2 rfl) rfl (lv_at hl 0 rfl) ?_
  refine b_mkN hC ci_X8 fs_X8 spc_X8 mi_X8 (dt dk_X9_init 3 rfl) (dt dk_X9_init 4 rfl) (dt dk_X9_init 5 rfl) bw_c_X9_7 bw_ins_X8 bw_ini_X8 bw_n_X9_9 (by decide) (by decide) (Nat.le_of_ble_eq_true rfl) (Nat.le_of_ble_eq_true rfl) hl.1 rfl hW (fun a1 H locs hW => ?_)
  have hW : Wo D base (pre ++ ((h, .inr (9, [.null, .null, .null, .null, .null, .null, .null, .null, .null, .null])) :: resX8 tI tZ tG a1)) s.heap H _ := hW
  refine b_putF (ty := tyX9 0) hC hin hW ci_X9 0 0 rfl (dt dk_X9_init 6 rfl) (by decide) bw_f_X9_10 rfl rfl (tyX9_ok 0 (by decide)) rfl rfl (Nat.le_of_ble_eq_true rfl) (fun H locs hW => ?_)
  have hW : Wo D base (pre ++ ((h, .inr (9, [.ref (a1 0), .null, .null, .null, .null, .null, .null, .null, .null, .null])) :: resX8 tI tZ tG a1)) s.heap H _ := hW
  refine lv_aload_n hC.1 hC.2.1 (dt dk_X9_init 7 rfl) rfl (lv_at hl 0 rfl) ?_
  refine b_mkN hC ci_X8 fs_X8 spc_X8 mi_X8 (dt dk_X9_init 8 rfl) (dt dk_X9_init 9 rfl) (dt dk_X9_init 10 rfl) bw_c_X9_7 bw_ins_X8 bw_ini_X8 bw_n_X9_9 (by decide) (by decide) (Nat.le_of_ble_eq_true rfl) (Nat.le_of_ble_eq_true rfl) hl.1 rfl hW (fun a2 H locs hW => ?_)
  have hW : Wo D base (pre ++ ((h, .inr (9, [.ref (a1 0), .null, .null, .null, .null, .null, .null, .null, .null, .null])) :: (resX8 tI tZ tG a1 ++ resX8 tI tZ tG a2))) s.heap H _ := hW
  refine b_putF (ty := tyX9 1) hC hin hW ci_X9 0 1 rfl (dt dk_X9_init 11 rfl) (by decide) bw_f_X9_16 rfl rfl (tyX9_ok 1 (by decide)) rfl rfl (Nat.le_of_ble_eq_true rfl) (fun H locs hW => ?_)
  have hW : Wo D base (pre ++ ((h, .inr (9, [.ref (a1 0), .ref (a2 0), .null, .null, .null, .null, .null, .null, .null, .null])) :: (resX8 tI tZ tG a1 ++ resX8 tI tZ tG a2))) s.heap H _ := hW
  refine lv_aload_n hC.1 hC.2.1 (dt dk_X9_init 12 rfl) rfl (lv_at hl 0 rfl) ?_
  refine b_mkN hC ci_X5 fs_X5 spc_X5 mi_X5 (dt dk_X9_init 13 rfl) (dt dk_X9_init 14 rfl) (dt dk_X9_init 15 rfl) bw_c_X9_19 bw_ins_X5 bw_ini_X5 bw_n_X9_21 (by decide) (by decide) (Nat.le_of_ble_eq_true rfl) (Nat.le_of_ble_eq_true rfl) hl.1 rfl hW (fun a3 H locs hW => ?_)
  have hW : Wo D base (pre ++ ((h, .inr (9, [.ref (a1 0), .ref (a2 0), .null, .null, .null, .null, .null, .null, .null, .null])) :: ((resX8 tI tZ tG a1 ++ resX8 tI tZ tG a2) ++ resX5 tI tZ tG a3))) s.heap H _ := hW
  refine b_putF (ty := tyX9 2) hC hin hW ci_X9 0 2 rfl (dt dk_X9_init 16 rfl) (by decide) bw_f_X9_22 rfl rfl (tyX9_ok 2 (by decide)) rfl rfl (Nat.le_of_ble_eq_true rfl) (fun H locs hW => ?_)
  have hW : Wo D base (pre ++ ((h, .inr (9, [.ref (a1 0), .ref (a2 0), .ref (a3 0), .null, .null, .null, .null, .null, .null, .null])) :: ((resX8 tI tZ tG a1 ++ resX8 tI tZ tG a2) ++ resX5 tI tZ tG a3))) s.heap H _ := hW
  refine lv_aload_n hC.1 hC.2.1 (dt dk_X9_init 17 rfl) rfl (lv_at hl 0 rfl) ?_
  refine b_mkN hC ci_X0 fs_X0 spc_X0 mi_X0 (dt dk_X9_init 18 rfl) (dt dk_X9_init 19 rfl) (dt dk_X9_init 20 rfl) bw_c_X9_26 bw_ins_X0 bw_ini_X0 bw_n_X9_28 (by decide) (by decide) (Nat.le_of_ble_eq_true rfl) (Nat.le_of_ble_eq_true rfl) hl.1 rfl hW (fun a4 H locs hW => ?_)
  have hW : Wo D base (pre ++ ((h, .inr (9, [.ref (a1 0), .ref (a2 0), .ref (a3 0), .null, .null, .null, .null, .null, .null, .null])) :: (((resX8 tI tZ tG a1 ++ resX8 tI tZ tG a2) ++ resX5 tI tZ tG a3) ++ resX0 tI tZ tG a4))) s.heap H _ := hW
  refine b_putF (ty := tyX9 3) hC hin hW ci_X9 0 3 rfl (dt dk_X9_init 21 rfl) (by decide) bw_f_X9_29 rfl rfl (tyX9_ok 3 (by decide)) rfl rfl (Nat.le_of_ble_eq_true rfl) (fun H locs hW => ?_)
  have hW : Wo D base (pre ++ ((h, .inr (9, [.ref (a1 0), .ref (a2 0), .ref (a3 0), .ref (a4 0), .null, .null, .null, .null, .null, .null])) :: (((resX8 tI tZ tG a1 ++ resX8 tI tZ tG a2) ++ resX5 tI tZ tG a3) ++ resX0 tI tZ tG a4))) s.heap H _ := hW
  refine lv_aload_n hC.1 hC.2.1 (dt dk_X9_init 22 rfl) rfl (lv_at hl 0 rfl) ?_
  refine b_mkN hC ci_X7 fs_X7 spc_X7 mi_X7 (dt dk_X9_init 23 rfl) (dt dk_X9_init 24 rfl) (dt dk_X9_init 25 rfl) bw_c_X9_33 bw_ins_X7 bw_ini_X7 bw_n_X9_35 (by decide) (by decide) (Nat.le_of_ble_eq_true rfl) (Nat.le_of_ble_eq_true rfl) hl.1 rfl hW (fun a5 H locs hW => ?_)
  have hW : Wo D base (pre ++ ((h, .inr (9, [.ref (a1 0), .ref (a2 0), .ref (a3 0), .ref (a4 0), .null, .null, .null, .null, .null, .null])) :: ((((resX8 tI tZ tG a1 ++ resX8 tI tZ tG a2) ++ resX5 tI tZ tG a3) ++ resX0 tI tZ tG a4) ++ resX7 tI tZ tG a5))) s.heap H _ := hW
  refine b_putF (ty := tyX9 4) hC hin hW ci_X9 0 4 rfl (dt dk_X9_init 26 rfl) (by decide) bw_f_X9_36 rfl rfl (tyX9_ok 4 (by decide)) rfl rfl (Nat.le_of_ble_eq_true rfl) (fun H locs hW => ?_)
  have hW : Wo D base (pre ++ ((h, .inr (9, [.ref (a1 0), .ref (a2 0), .ref (a3 0), .ref (a4 0), .ref (a5 0), .null, .null, .null, .null, .null])) :: ((((resX8 tI tZ tG a1 ++ resX8 tI tZ tG a2) ++ resX5 tI tZ tG a3) ++ resX0 tI tZ tG a4) ++ resX7 tI tZ tG a5))) s.heap H _ := hW
  refine lv_aload_n hC.1 hC.2.1 (dt dk_X9_init 27 rfl) rfl (lv_at hl 0 rfl) ?_
  refine b_mk hC ci_X6 fs_X6 spc_X6 mi_X6 (dt dk_X9_init 28 rfl) (dt dk_X9_init 29 rfl) (dt dk_X9_init 30 rfl) bw_c_X9_40 bw_ins_X6 bw_ini_X6 bw_n_X9_42 (by decide) (by decide) (Nat.le_of_ble_eq_true rfl) (Nat.le_of_ble_eq_true rfl) hl.1 rfl hW (fun a6 H locs hW => ?_)
  have hW : Wo D base (pre ++ ((h, .inr (9, [.ref (a1 0), .ref (a2 0), .ref (a3 0), .ref (a4 0), .ref (a5 0), .null, .null, .null, .null, .null])) :: (((((resX8 tI tZ tG a1 ++ resX8 tI tZ tG a2) ++ resX5 tI tZ tG a3) ++ resX0 tI tZ tG a4) ++ resX7 tI tZ tG a5) ++ resX6 tI tZ tG a6))) s.heap H _ := hW
  refine b_putF (ty := tyX9 5) hC hin hW ci_X9 0 5 rfl (dt dk_X9_init 31 rfl) (by decide) bw_f_X9_43 rfl rfl (tyX9_ok 5 (by decide)) rfl rfl (Nat.le_of_ble_eq_true rfl) (fun H locs hW => ?_)
  have hW : Wo D base (pre ++ ((h, .inr (9, [.ref (a1 0), .ref (a2 0), .ref (a3 0), .ref (a4 0), .ref (a5 0), .ref (a6 0), .null, .null, .null, .null])) :: (((((resX8 tI tZ tG a1 ++ resX8 tI tZ tG a2) ++ resX5 tI tZ tG a3) ++ resX0 tI tZ tG a4) ++ resX7 tI tZ tG a5) ++ resX6 tI tZ tG a6))) s.heap H _ := hW
  refine lv_aload_n hC.1 hC.2.1 (dt dk_X9_init 32 rfl) rfl (lv_at hl 0 rfl) ?_
  refine b_mkN hC ci_X1 fs_X1 spc_X1 mi_X1 (dt dk_X9_init 33 rfl) (dt dk_X9_init 34 rfl) (dt dk_X9_init 35 rfl) bw_c_X9_47 bw_ins_X1 bw_ini_X1 bw_n_X9_49 (by decide) (by decide) (Nat.le_of_ble_eq_true rfl) (Nat.le_of_ble_eq_true rfl) hl.1 rfl hW (fun a7 H locs hW => ?_)
  have hW : Wo D base (pre ++ ((h, .inr (9, [.ref (a1 0), .ref (a2 0), .ref (a3 0), .ref (a4 0), .ref (a5 0), .ref (a6 0), .null, .null, .null, .null])) :: ((((((resX8 tI tZ tG a1 ++ resX8 tI tZ tG a2) ++ resX5 tI tZ tG a3) ++ resX0 tI tZ tG a4) ++ resX7 tI tZ tG a5) ++ resX6 tI tZ tG a6) ++ resX1 tI tZ tG a7))) s.heap H _ := hW
  refine b_putF (ty := tyX9 6) hC hin hW ci_X9 0 6 rfl (dt dk_X9_init 36 rfl) (by decide) bw_f_X9_50 rfl rfl (tyX9_ok 6 (by decide)) rfl rfl (Nat.le_of_ble_eq_true rfl) (fun H locs hW => ?_)
  have hW : Wo D base (pre ++ ((h, .inr (9, [.ref (a1 0), .ref (a2 0), .ref (a3 0), .ref (a4 0), .ref (a5 0), .ref (a6 0), .ref (a7 0), .null, .null, .null])) :: ((((((resX8 tI tZ tG a1 ++ resX8 tI tZ tG a2) ++ resX5 tI tZ tG a3) ++ resX0 tI tZ tG a4) ++ resX7 tI tZ tG a5) ++ resX6 tI tZ tG a6) ++ resX1 tI tZ tG a7))) s.heap H _ := hW
  refine lv_aload_n hC.1 hC.2.1 (dt dk_X9_init 37 rfl) rfl (lv_at hl 0 rfl) ?_
  refine b_mkN hC ci_X2 fs_X2 spc_X2 mi_X2 (dt dk_X9_init 38 rfl) (dt dk_X9_init 39 rfl) (dt dk_X9_init 40 rfl) bw_c_X9_54 bw_ins_X2 bw_ini_X2 bw_n_X9_56 (by decide) (by decide) (Nat.le_of_ble_eq_true rfl) (Nat.le_of_ble_eq_true rfl) hl.1 rfl hW (fun a8 H locs hW => ?_)
  have hW : Wo D base (pre ++ ((h, .inr (9, [.ref (a1 0), .ref (a2 0), .ref (a3 0), .ref (a4 0), .ref (a5 0), .ref (a6 0), .ref (a7 0), .null, .null, .null])) :: (((((((resX8 tI tZ tG a1 ++ resX8 tI tZ tG a2) ++ resX5 tI tZ tG a3) ++ resX0 tI tZ tG a4) ++ resX7 tI tZ tG a5) ++ resX6 tI tZ tG a6) ++ resX1 tI tZ tG a7) ++ resX2 tI tZ tG a8))) s.heap H _ := hW
  refine b_putF (ty := tyX9 7) hC hin hW ci_X9 0 7 rfl (dt dk_X9_init 41 rfl) (by decide) bw_f_X9_57 rfl rfl (tyX9_ok 7 (by decide)) rfl rfl (Nat.le_of_ble_eq_true rfl) (fun H locs hW => ?_)
  have hW : Wo D base (pre ++ ((h, .inr (9, [.ref (a1 0), .ref (a2 0), .ref (a3 0), .ref (a4 0), .ref (a5 0), .ref (a6 0), .ref (a7 0), .ref (a8 0), .null, .null])) :: (((((((resX8 tI tZ tG a1 ++ resX8 tI tZ tG a2) ++ resX5 tI tZ tG a3) ++ resX0 tI tZ tG a4) ++ resX7 tI tZ tG a5) ++ resX6 tI tZ tG a6) ++ resX1 tI tZ tG a7) ++ resX2 tI tZ tG a8))) s.heap H _ := hW
  refine lv_aload_n hC.1 hC.2.1 (dt dk_X9_init 42 rfl) rfl (lv_at hl 0 rfl) ?_
  refine b_mkN hC ci_X3 fs_X3 spc_X3 mi_X3 (dt dk_X9_init 43 rfl) (dt dk_X9_init 44 rfl) (dt dk_X9_init 45 rfl) bw_c_X9_61 bw_ins_X3 bw_ini_X3 bw_n_X9_63 (by decide) (by decide) (Nat.le_of_ble_eq_true rfl) (Nat.le_of_ble_eq_true rfl) hl.1 rfl hW (fun a9 H locs hW => ?_)
  have hW : Wo D base (pre ++ ((h, .inr (9, [.ref (a1 0), .ref (a2 0), .ref (a3 0), .ref (a4 0), .ref (a5 0), .ref (a6 0), .ref (a7 0), .ref (a8 0), .null, .null])) :: ((((((((resX8 tI tZ tG a1 ++ resX8 tI tZ tG a2) ++ resX5 tI tZ tG a3) ++ resX0 tI tZ tG a4) ++ resX7 tI tZ tG a5) ++ resX6 tI tZ tG a6) ++ resX1 tI tZ tG a7) ++ resX2 tI tZ tG a8) ++ resX3 tI tZ tG a9))) s.heap H _ := hW
  refine b_putF (ty := tyX9 8) hC hin hW ci_X9 0 8 rfl (dt dk_X9_init 46 rfl) (by decide) bw_f_X9_64 rfl rfl (tyX9_ok 8 (by decide)) rfl rfl (Nat.le_of_ble_eq_true rfl) (fun H locs hW => ?_)
  have hW : Wo D base (pre ++ ((h, .inr (9, [.ref (a1 0), .ref (a2 0), .ref (a3 0), .ref (a4 0), .ref (a5 0), .ref (a6 0), .ref (a7 0), .ref (a8 0), .ref (a9 0), .null])) :: ((((((((resX8 tI tZ tG a1 ++ resX8 tI tZ tG a2) ++ resX5 tI tZ tG a3) ++ resX0 tI tZ tG a4) ++ resX7 tI tZ tG a5) ++ resX6 tI tZ tG a6) ++ resX1 tI tZ tG a7) ++ resX2 tI tZ tG a8) ++ resX3 tI tZ tG a9))) s.heap H _ := hW
  refine lv_aload_n hC.1 hC.2.1 (dt dk_X9_init 47 rfl) rfl (lv_at hl 0 rfl) ?_
  refine lv_iconst (v := (2 : Int32)) hC.1 hC.2.1 (dt dk_X9_init 48 rfl) (by decide) ?_
  refine b_newG hC hW 2 (dt dk_X9_init 49 rfl) bw_c_X9_68 (by decide) (by decide) rfl (Nat.le_of_ble_eq_true rfl) (Nat.le_of_ble_eq_true rfl) (fun q10 H hW => ?_)
  have hW : Wo D base (pre ++ ((h, .inr (9, [.ref (a1 0), .ref (a2 0), .ref (a3 0), .ref (a4 0), .ref (a5 0), .ref (a6 0), .ref (a7 0), .ref (a8 0), .ref (a9 0), .null])) :: (((((((((resX8 tI tZ tG a1 ++ resX8 tI tZ tG a2) ++ resX5 tI tZ tG a3) ++ resX0 tI tZ tG a4) ++ resX7 tI tZ tG a5) ++ resX6 tI tZ tG a6) ++ resX1 tI tZ tG a7) ++ resX2 tI tZ tG a8) ++ resX3 tI tZ tG a9) ++ [(q10, .inl (tG, 2, .inr (.inr (.inr (.inr (fun _ => none))))))]))) s.heap H _ := hW
  refine b_putF (ty := tyX9 9) hC hin hW ci_X9 0 9 rfl (dt dk_X9_init 50 rfl) (by decide) bw_f_X9_70 rfl rfl (tyX9_ok 9 (by decide)) rfl rfl (Nat.le_of_ble_eq_true rfl) (fun H locs hW => ?_)
  have hW : Wo D base (pre ++ ((h, .inr (9, [.ref (a1 0), .ref (a2 0), .ref (a3 0), .ref (a4 0), .ref (a5 0), .ref (a6 0), .ref (a7 0), .ref (a8 0), .ref (a9 0), .ref (q10)])) :: (((((((((resX8 tI tZ tG a1 ++ resX8 tI tZ tG a2) ++ resX5 tI tZ tG a3) ++ resX0 tI tZ tG a4) ++ resX7 tI tZ tG a5) ++ resX6 tI tZ tG a6) ++ resX1 tI tZ tG a7) ++ resX2 tI tZ tG a8) ++ resX3 tI tZ tG a9) ++ [(q10, .inl (tG, 2, .inr (.inr (.inr (.inr (fun _ => none))))))]))) s.heap H _ := hW
  refine lv_iconst (v := (0 : Int32)) hC.1 hC.2.1 (dt dk_X9_init 51 rfl) (by decide) ?_
  refine lv_istore_n (lv' := [(1, .int 0), (0, .ref h)]) hC.1 hC.2.1 (dt dk_X9_init 52 rfl) rfl hl (by decide) rfl (fun ls hl => ?_)
  refine lv_iload_n hC.1 hC.2.1 (dt dk_X9_init 53 rfl) rfl (lv_at hl 0 rfl) ?_
  refine lv_iconst (v := (2 : Int32)) hC.1 hC.2.1 (dt dk_X9_init 54 rfl) (by decide) ?_
  refine lv_icmp_ge (tgt := 137) hC.1 hC.2.1 (dt dk_X9_init 55 rfl) (by decide) (fun z => absurd z (by decide)) (fun _ => ?_)
  refine lv_aload_n hC.1 hC.2.1 (dt dk_X9_init 56 rfl) rfl (lv_at hl 1 rfl) ?_
  refine b_get (v := .ref (q10)) hC hW ci_X9 0 9 rfl (dt dk_X9_init 57 rfl) (by decide) bw_f_X9_70 rfl ?_
  refine lv_iload_n hC.1 hC.2.1 (dt dk_X9_init 58 rfl) rfl (lv_at hl 0 rfl) ?_
  refine b_mkN hC ci_X4 fs_X4 spc_X4 mi_X4 (dt dk_X9_init 59 rfl) (dt dk_X9_init 60 rfl) (dt dk_X9_init 61 rfl) bw_c_X9_68 bw_ins_X4 bw_ini_X4 bw_n_X9_74 (by decide) (by decide) (Nat.le_of_ble_eq_true rfl) (Nat.le_of_ble_eq_true rfl) hl.1 rfl hW (fun a11 H locs hW => ?_)
  have hW : Wo D base (pre ++ ((h, .inr (9, [.ref (a1 0), .ref (a2 0), .ref (a3 0), .ref (a4 0), .ref (a5 0), .ref (a6 0), .ref (a7 0), .ref (a8 0), .ref (a9 0), .ref (q10)])) :: ((((((((((resX8 tI tZ tG a1 ++ resX8 tI tZ tG a2) ++ resX5 tI tZ tG a3) ++ resX0 tI tZ tG a4) ++ resX7 tI tZ tG a5) ++ resX6 tI tZ tG a6) ++ resX1 tI tZ tG a7) ++ resX2 tI tZ tG a8) ++ resX3 tI tZ tG a9) ++ [(q10, .inl (tG, 2, .inr (.inr (.inr (.inr (fun _ => none))))))]) ++ resX4 tI tZ tG a11))) s.heap H _ := hW
  refine b_astq (i := 0) hC hW 32 33 rfl rfl (inb_in (by decide)) (dt dk_X9_init 62 rfl) (fun H locs hW => ?_)
  have hW : Wo D base (pre ++ ((h, .inr (9, [.ref (a1 0), .ref (a2 0), .ref (a3 0), .ref (a4 0), .ref (a5 0), .ref (a6 0), .ref (a7 0), .ref (a8 0), .ref (a9 0), .ref (q10)])) :: ((((((((((resX8 tI tZ tG a1 ++ resX8 tI tZ tG a2) ++ resX5 tI tZ tG a3) ++ resX0 tI tZ tG a4) ++ resX7 tI tZ tG a5) ++ resX6 tI tZ tG a6) ++ resX1 tI tZ tG a7) ++ resX2 tI tZ tG a8) ++ resX3 tI tZ tG a9) ++ [(q10, .inl (tG, 2, .inr (.inr (.inr (.inr (va_up (fun _ => none) (Int32.toNatClampNeg 0) (some (a11 0))))))))]) ++ resX4 tI tZ tG a11))) s.heap H _ := hW
  refine lv_iinc (v := 1) (lv' := [(1, .int 1), (0, .ref h)]) hC.1 hC.2.1 (dt dk_X9_init 63 rfl) hl (k := 0) rfl (by decide) (by decide) rfl (fun ls hl => ?_)
  refine lv_goto (tgt := 113) hC.1 hC.2.1 (dt dk_X9_init 64 rfl) (by decide) ?_
  refine lv_iload_n hC.1 hC.2.1 (dt dk_X9_init 53 rfl) rfl (lv_at hl 0 rfl) ?_
  refine lv_iconst (v := (2 : Int32)) hC.1 hC.2.1 (dt dk_X9_init 54 rfl) (by decide) ?_
  refine lv_icmp_ge (tgt := 137) hC.1 hC.2.1 (dt dk_X9_init 55 rfl) (by decide) (fun z => absurd z (by decide)) (fun _ => ?_)
  refine lv_aload_n hC.1 hC.2.1 (dt dk_X9_init 56 rfl) rfl (lv_at hl 1 rfl) ?_
  refine b_get (v := .ref (q10)) hC hW ci_X9 0 9 rfl (dt dk_X9_init 57 rfl) (by decide) bw_f_X9_70 rfl ?_
  refine lv_iload_n hC.1 hC.2.1 (dt dk_X9_init 58 rfl) rfl (lv_at hl 0 rfl) ?_
  refine b_mkN hC ci_X4 fs_X4 spc_X4 mi_X4 (dt dk_X9_init 59 rfl) (dt dk_X9_init 60 rfl) (dt dk_X9_init 61 rfl) bw_c_X9_68 bw_ins_X4 bw_ini_X4 bw_n_X9_74 (by decide) (by decide) (Nat.le_of_ble_eq_true rfl) (Nat.le_of_ble_eq_true rfl) hl.1 rfl hW (fun a12 H locs hW => ?_)
  have hW : Wo D base (pre ++ ((h, .inr (9, [.ref (a1 0), .ref (a2 0), .ref (a3 0), .ref (a4 0), .ref (a5 0), .ref (a6 0), .ref (a7 0), .ref (a8 0), .ref (a9 0), .ref (q10)])) :: (((((((((((resX8 tI tZ tG a1 ++ resX8 tI tZ tG a2) ++ resX5 tI tZ tG a3) ++ resX0 tI tZ tG a4) ++ resX7 tI tZ tG a5) ++ resX6 tI tZ tG a6) ++ resX1 tI tZ tG a7) ++ resX2 tI tZ tG a8) ++ resX3 tI tZ tG a9) ++ [(q10, .inl (tG, 2, .inr (.inr (.inr (.inr (va_up (fun _ => none) (Int32.toNatClampNeg 0) (some (a11 0))))))))]) ++ resX4 tI tZ tG a11) ++ resX4 tI tZ tG a12))) s.heap H _ := hW
  refine b_astq (i := 1) hC hW 32 43 rfl rfl (inb_in (by decide)) (dt dk_X9_init 62 rfl) (fun H locs hW => ?_)
  have hW : Wo D base (pre ++ ((h, .inr (9, [.ref (a1 0), .ref (a2 0), .ref (a3 0), .ref (a4 0), .ref (a5 0), .ref (a6 0), .ref (a7 0), .ref (a8 0), .ref (a9 0), .ref (q10)])) :: (((((((((((resX8 tI tZ tG a1 ++ resX8 tI tZ tG a2) ++ resX5 tI tZ tG a3) ++ resX0 tI tZ tG a4) ++ resX7 tI tZ tG a5) ++ resX6 tI tZ tG a6) ++ resX1 tI tZ tG a7) ++ resX2 tI tZ tG a8) ++ resX3 tI tZ tG a9) ++ [(q10, .inl (tG, 2, .inr (.inr (.inr (.inr (va_up (va_up (fun _ => none) (Int32.toNatClampNeg 0) (some (a11 0))) (Int32.toNatClampNeg 1) (some (a12 0))))))))]) ++ resX4 tI tZ tG a11) ++ resX4 tI tZ tG a12))) s.heap H _ := hW
  refine lv_iinc (v := 2) (lv' := [(1, .int 2), (0, .ref h)]) hC.1 hC.2.1 (dt dk_X9_init 63 rfl) hl (k := 0) rfl (by decide) (by decide) rfl (fun ls hl => ?_)
  refine lv_goto (tgt := 113) hC.1 hC.2.1 (dt dk_X9_init 64 rfl) (by decide) ?_
  refine lv_iload_n hC.1 hC.2.1 (dt dk_X9_init 53 rfl) rfl (lv_at hl 0 rfl) ?_
  refine lv_iconst (v := (2 : Int32)) hC.1 hC.2.1 (dt dk_X9_init 54 rfl) (by decide) ?_
  refine lv_icmp_ge (tgt := 137) hC.1 hC.2.1 (dt dk_X9_init 55 rfl) (by decide) (fun _ => ?_) (fun z => absurd (by decide) z)
  rw [imgs_eq (a := a11 0) (b := a12 0) (fun k => ([h, a1 0, a1 1, a1 2, a1 3, a1 4, a1 5, a1 6, a2 0, a2 1, a2 2, a2 3, a2 4, a2 5, a2 6, a3 0, a3 1, a4 0, a5 0, a6 0, a6 1, a7 0, a7 1, a7 2, a7 3, a8 0, a8 1, a8 2, a9 0, a9 1, a9 2, a9 3, q10, a11 0, a11 1, a11 2, a11 3, a11 4, a11 5, a11 6, a11 7, a11 8, a11 9, a12 0, a12 1, a12 2, a12 3, a12 4, a12 5, a12 6, a12 7, a12 8, a12 9] : List Nat).getD k 0) rfl rfl] at hW
  exact b_ret hC hr hlocks (fun k => ([h, a1 0, a1 1, a1 2, a1 3, a1 4, a1 5, a1 6, a2 0, a2 1, a2 2, a2 3, a2 4, a2 5, a2 6, a3 0, a3 1, a4 0, a5 0, a6 0, a6 1, a7 0, a7 1, a7 2, a7 3, a8 0, a8 1, a8 2, a9 0, a9 1, a9 2, a9 3, q10, a11 0, a11 1, a11 2, a11 3, a11 4, a11 5, a11 6, a11 7, a11 8, a11 9, a12 0, a12 1, a12 2, a12 3, a12 4, a12 5, a12 6, a12 7, a12 8, a12 9] : List Nat).getD k 0) rfl hW (dt dk_X9_init 65 rfl)
