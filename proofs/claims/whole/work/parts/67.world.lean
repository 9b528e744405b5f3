def adL (a1 a2 : Nat → Nat) (t y b : Nat) : Nat → Nat := fun k => if k < 53 then a1 k else if k < 75 then a2 (k - 53) else if k = 75 then t else if k = 76 then y else b
theorem adL_1 {a1 a2 : Nat → Nat} {t y b k : Nat} (h : k < 53) : adL a1 a2 t y b k = a1 k := if_pos h
theorem adL_2 {a1 a2 : Nat → Nat} {t y b k : Nat} (h : k < 22) : adL a1 a2 t y b (53 + k) = a2 k := by
  show (if 53 + k < 53 then _ else if 53 + k < 75 then a2 (53 + k - 53) else _) = _
  rw [if_neg (by omega), if_pos (by omega), Nat.add_sub_cancel_left]
set_option maxHeartbeats 1000000 in
set_option maxRecDepth 10000 in
theorem wk_0 (tI tZ tG : ClassId) (a1 a2 : Nat → Nat) (t y b : Nat) : (resX9 tI tZ tG a1)[0]? = some (adL a1 a2 t y b 0, ce tI tZ tG (adL a1 a2 t y b) (M00 0) (12, 10, [some 1, some 8, some 15, some 17, some 18, some 19, some 21, some 25, some 28, some 32])) := by
  show _ = some (adL a1 a2 t y b 0, (Sum.inr (9, List.mapIdx (fv (adL a1 a2 t y b) (M00 0)) [some 1, some 8, some 15, some 17, some 18, some 19, some 21, some 25, some 28, some 32]) : va_E))
  simp only [List.mapIdx_cons, List.mapIdx_nil]
  rfl
set_option maxHeartbeats 1000000 in
set_option maxRecDepth 10000 in
theorem wk_1 (tI tZ tG : ClassId) (a1 a2 : Nat → Nat) (t y b : Nat) : (resX9 tI tZ tG a1)[1]? = some (adL a1 a2 t y b 1, ce tI tZ tG (adL a1 a2 t y b) (M00 1) (11, 9, [some 2, some 3, some 4, some 5, some 6, some 7, none, none, none])) := by
  show _ = some (adL a1 a2 t y b 1, (Sum.inr (8, List.mapIdx (fv (adL a1 a2 t y b) (M00 1)) [some 2, some 3, some 4, some 5, some 6, some 7, none, none, none]) : va_E))
  simp only [List.mapIdx_cons, List.mapIdx_nil]
  rfl
set_option maxHeartbeats 1000000 in
set_option maxRecDepth 10000 in
theorem wk_2 (tI tZ tG : ClassId) (a1 a2 : Nat → Nat) (t y b : Nat) : (resX9 tI tZ tG a1)[2]? = some (adL a1 a2 t y b 2, ce tI tZ tG (adL a1 a2 t y b) (M00 2) (0, 8, [])) := by
  rw [show M00 2 = fun _ => 0 from rfl]
  rfl
set_option maxHeartbeats 1000000 in
set_option maxRecDepth 10000 in
theorem wk_3 (tI tZ tG : ClassId) (a1 a2 : Nat → Nat) (t y b : Nat) : (resX9 tI tZ tG a1)[3]? = some (adL a1 a2 t y b 3, ce tI tZ tG (adL a1 a2 t y b) (M00 3) (0, 8, [])) := by
  rw [show M00 3 = fun _ => 0 from rfl]
  rfl
set_option maxHeartbeats 1000000 in
set_option maxRecDepth 10000 in
theorem wk_4 (tI tZ tG : ClassId) (a1 a2 : Nat → Nat) (t y b : Nat) : (resX9 tI tZ tG a1)[4]? = some (adL a1 a2 t y b 4, ce tI tZ tG (adL a1 a2 t y b) (M00 4) (0, 8, [])) := by
  rw [show M00 4 = fun _ => 0 from rfl]
  rfl
set_option maxHeartbeats 1000000 in
set_option maxRecDepth 10000 in
theorem wk_5 (tI tZ tG : ClassId) (a1 a2 : Nat → Nat) (t y b : Nat) : (resX9 tI tZ tG a1)[5]? = some (adL a1 a2 t y b 5, ce tI tZ tG (adL a1 a2 t y b) (M00 5) (0, 8, [])) := by
  rw [show M00 5 = fun _ => 0 from rfl]
  rfl
set_option maxHeartbeats 1000000 in
set_option maxRecDepth 10000 in
theorem wk_6 (tI tZ tG : ClassId) (a1 a2 : Nat → Nat) (t y b : Nat) : (resX9 tI tZ tG a1)[6]? = some (adL a1 a2 t y b 6, ce tI tZ tG (adL a1 a2 t y b) (M00 6) (0, 8, [])) := by
  rw [show M00 6 = fun _ => 0 from rfl]
  rfl
set_option maxHeartbeats 1000000 in
set_option maxRecDepth 10000 in
theorem wk_7 (tI tZ tG : ClassId) (a1 a2 : Nat → Nat) (t y b : Nat) : (resX9 tI tZ tG a1)[7]? = some (adL a1 a2 t y b 7, ce tI tZ tG (adL a1 a2 t y b) (M00 7) (0, 8, [])) := by
  rw [show M00 7 = fun _ => 0 from rfl]
  rfl
set_option maxHeartbeats 1000000 in
set_option maxRecDepth 10000 in
theorem wk_8 (tI tZ tG : ClassId) (a1 a2 : Nat → Nat) (t y b : Nat) : (resX9 tI tZ tG a1)[8]? = some (adL a1 a2 t y b 8, ce tI tZ tG (adL a1 a2 t y b) (M00 8) (11, 9, [some 9, some 10, some 11, some 12, some 13, some 14, none, none, none])) := by
  show _ = some (adL a1 a2 t y b 8, (Sum.inr (8, List.mapIdx (fv (adL a1 a2 t y b) (M00 8)) [some 9, some 10, some 11, some 12, some 13, some 14, none, none, none]) : va_E))
  simp only [List.mapIdx_cons, List.mapIdx_nil]
  rfl
set_option maxHeartbeats 1000000 in
set_option maxRecDepth 10000 in
theorem wk_9 (tI tZ tG : ClassId) (a1 a2 : Nat → Nat) (t y b : Nat) : (resX9 tI tZ tG a1)[9]? = some (adL a1 a2 t y b 9, ce tI tZ tG (adL a1 a2 t y b) (M00 9) (0, 8, [])) := by
  rw [show M00 9 = fun _ => 0 from rfl]
  rfl
set_option maxHeartbeats 1000000 in
set_option maxRecDepth 10000 in
theorem wk_10 (tI tZ tG : ClassId) (a1 a2 : Nat → Nat) (t y b : Nat) : (resX9 tI tZ tG a1)[10]? = some (adL a1 a2 t y b 10, ce tI tZ tG (adL a1 a2 t y b) (M00 10) (0, 8, [])) := by
  rw [show M00 10 = fun _ => 0 from rfl]
  rfl
set_option maxHeartbeats 1000000 in
set_option maxRecDepth 10000 in
theorem wk_11 (tI tZ tG : ClassId) (a1 a2 : Nat → Nat) (t y b : Nat) : (resX9 tI tZ tG a1)[11]? = some (adL a1 a2 t y b 11, ce tI tZ tG (adL a1 a2 t y b) (M00 11) (0, 8, [])) := by
  rw [show M00 11 = fun _ => 0 from rfl]
  rfl
set_option maxHeartbeats 1000000 in
set_option maxRecDepth 10000 in
theorem wk_12 (tI tZ tG : ClassId) (a1 a2 : Nat → Nat) (t y b : Nat) : (resX9 tI tZ tG a1)[12]? = some (adL a1 a2 t y b 12, ce tI tZ tG (adL a1 a2 t y b) (M00 12) (0, 8, [])) := by
  rw [show M00 12 = fun _ => 0 from rfl]
  rfl
set_option maxHeartbeats 1000000 in
set_option maxRecDepth 10000 in
theorem wk_13 (tI tZ tG : ClassId) (a1 a2 : Nat → Nat) (t y b : Nat) : (resX9 tI tZ tG a1)[13]? = some (adL a1 a2 t y b 13, ce tI tZ tG (adL a1 a2 t y b) (M00 13) (0, 8, [])) := by
  rw [show M00 13 = fun _ => 0 from rfl]
  rfl
set_option maxHeartbeats 1000000 in
set_option maxRecDepth 10000 in
theorem wk_14 (tI tZ tG : ClassId) (a1 a2 : Nat → Nat) (t y b : Nat) : (resX9 tI tZ tG a1)[14]? = some (adL a1 a2 t y b 14, ce tI tZ tG (adL a1 a2 t y b) (M00 14) (0, 8, [])) := by
  rw [show M00 14 = fun _ => 0 from rfl]
  rfl
set_option maxHeartbeats 1000000 in
set_option maxRecDepth 10000 in
theorem wk_15 (tI tZ tG : ClassId) (a1 a2 : Nat → Nat) (t y b : Nat) : (resX9 tI tZ tG a1)[15]? = some (adL a1 a2 t y b 15, ce tI tZ tG (adL a1 a2 t y b) (M00 15) (8, 2, [some 16, none])) := by
  show _ = some (adL a1 a2 t y b 15, (Sum.inr (5, List.mapIdx (fv (adL a1 a2 t y b) (M00 15)) [some 16, none]) : va_E))
  simp only [List.mapIdx_cons, List.mapIdx_nil]
  rfl
set_option maxHeartbeats 1000000 in
set_option maxRecDepth 10000 in
theorem wk_16 (tI tZ tG : ClassId) (a1 a2 : Nat → Nat) (t y b : Nat) : (resX9 tI tZ tG a1)[16]? = some (adL a1 a2 t y b 16, ce tI tZ tG (adL a1 a2 t y b) (M00 16) (0, 60, [])) := by
  rw [show M00 16 = fun _ => 0 from rfl]
  rfl
set_option maxHeartbeats 1000000 in
set_option maxRecDepth 10000 in
theorem wk_17 (tI tZ tG : ClassId) (a1 a2 : Nat → Nat) (t y b : Nat) : (resX9 tI tZ tG a1)[17]? = some (adL a1 a2 t y b 17, ce tI tZ tG (adL a1 a2 t y b) (M00 17) (3, 3, [none, none, none])) := by
  show _ = some (adL a1 a2 t y b 17, (Sum.inr (0, List.mapIdx (fv (adL a1 a2 t y b) (M00 17)) [none, none, none]) : va_E))
  simp only [List.mapIdx_cons, List.mapIdx_nil]
  rfl
set_option maxHeartbeats 1000000 in
set_option maxRecDepth 10000 in
theorem wk_18 (tI tZ tG : ClassId) (a1 a2 : Nat → Nat) (t y b : Nat) : (resX9 tI tZ tG a1)[18]? = some (adL a1 a2 t y b 18, ce tI tZ tG (adL a1 a2 t y b) (M00 18) (10, 5, [none, none, none, none, none])) := by
  show _ = some (adL a1 a2 t y b 18, (Sum.inr (7, List.mapIdx (fv (adL a1 a2 t y b) (M00 18)) [none, none, none, none, none]) : va_E))
  simp only [List.mapIdx_cons, List.mapIdx_nil]
  rfl
set_option maxHeartbeats 1000000 in
set_option maxRecDepth 10000 in
theorem wk_19 (tI tZ tG : ClassId) (a1 a2 : Nat → Nat) (t y b : Nat) : (resX9 tI tZ tG a1)[19]? = some (adL a1 a2 t y b 19, ce tI tZ tG (adL a1 a2 t y b) (M00 19) (9, 3, [some 20, none, none])) := by
  show _ = some (adL a1 a2 t y b 19, (Sum.inr (6, List.mapIdx (fv (adL a1 a2 t y b) (M00 19)) [some 20, none, none]) : va_E))
  simp only [List.mapIdx_cons, List.mapIdx_nil]
  rfl
set_option maxHeartbeats 1000000 in
set_option maxRecDepth 10000 in
theorem wk_20 (tI tZ tG : ClassId) (a1 a2 : Nat → Nat) (t y b : Nat) : (resX9 tI tZ tG a1)[20]? = some (adL a1 a2 t y b 20, ce tI tZ tG (adL a1 a2 t y b) (M00 20) (0, 41, [])) := by
  rw [show M00 20 = fun j => if j < 41 then -1 else 0 from rfl]
  rfl
set_option maxHeartbeats 1000000 in
set_option maxRecDepth 10000 in
theorem wk_21 (tI tZ tG : ClassId) (a1 a2 : Nat → Nat) (t y b : Nat) : (resX9 tI tZ tG a1)[21]? = some (adL a1 a2 t y b 21, ce tI tZ tG (adL a1 a2 t y b) (M00 21) (4, 6, [some 22, some 23, some 24, none, none, none])) := by
  show _ = some (adL a1 a2 t y b 21, (Sum.inr (1, List.mapIdx (fv (adL a1 a2 t y b) (M00 21)) [some 22, some 23, some 24, none, none, none]) : va_E))
  simp only [List.mapIdx_cons, List.mapIdx_nil]
  rfl
set_option maxHeartbeats 1000000 in
set_option maxRecDepth 10000 in
theorem wk_22 (tI tZ tG : ClassId) (a1 a2 : Nat → Nat) (t y b : Nat) : (resX9 tI tZ tG a1)[22]? = some (adL a1 a2 t y b 22, ce tI tZ tG (adL a1 a2 t y b) (M00 22) (0, 90, [])) := by
  rw [show M00 22 = fun _ => 0 from rfl]
  rfl
set_option maxHeartbeats 1000000 in
set_option maxRecDepth 10000 in
theorem wk_23 (tI tZ tG : ClassId) (a1 a2 : Nat → Nat) (t y b : Nat) : (resX9 tI tZ tG a1)[23]? = some (adL a1 a2 t y b 23, ce tI tZ tG (adL a1 a2 t y b) (M00 23) (0, 90, [])) := by
  rw [show M00 23 = fun _ => 0 from rfl]
  rfl
set_option maxHeartbeats 1000000 in
set_option maxRecDepth 10000 in
theorem wk_24 (tI tZ tG : ClassId) (a1 a2 : Nat → Nat) (t y b : Nat) : (resX9 tI tZ tG a1)[24]? = some (adL a1 a2 t y b 24, ce tI tZ tG (adL a1 a2 t y b) (M00 24) (0, 100, [])) := by
  rw [show M00 24 = fun _ => 0 from rfl]
  rfl
set_option maxHeartbeats 1000000 in
set_option maxRecDepth 10000 in
theorem wk_25 (tI tZ tG : ClassId) (a1 a2 : Nat → Nat) (t y b : Nat) : (resX9 tI tZ tG a1)[25]? = some (adL a1 a2 t y b 25, ce tI tZ tG (adL a1 a2 t y b) (M00 25) (5, 4, [some 26, some 27, none, none])) := by
  show _ = some (adL a1 a2 t y b 25, (Sum.inr (2, List.mapIdx (fv (adL a1 a2 t y b) (M00 25)) [some 26, some 27, none, none]) : va_E))
  simp only [List.mapIdx_cons, List.mapIdx_nil]
  rfl
set_option maxHeartbeats 1000000 in
set_option maxRecDepth 10000 in
theorem wk_26 (tI tZ tG : ClassId) (a1 a2 : Nat → Nat) (t y b : Nat) : (resX9 tI tZ tG a1)[26]? = some (adL a1 a2 t y b 26, ce tI tZ tG (adL a1 a2 t y b) (M00 26) (0, 100, [])) := by
  rw [show M00 26 = fun _ => 0 from rfl]
  rfl
set_option maxHeartbeats 1000000 in
set_option maxRecDepth 10000 in
theorem wk_27 (tI tZ tG : ClassId) (a1 a2 : Nat → Nat) (t y b : Nat) : (resX9 tI tZ tG a1)[27]? = some (adL a1 a2 t y b 27, ce tI tZ tG (adL a1 a2 t y b) (M00 27) (0, 100, [])) := by
  rw [show M00 27 = fun _ => 0 from rfl]
  rfl
set_option maxHeartbeats 1000000 in
set_option maxRecDepth 10000 in
theorem wk_28 (tI tZ tG : ClassId) (a1 a2 : Nat → Nat) (t y b : Nat) : (resX9 tI tZ tG a1)[28]? = some (adL a1 a2 t y b 28, ce tI tZ tG (adL a1 a2 t y b) (M00 28) (6, 5, [some 29, some 30, some 31, none, none])) := by
  show _ = some (adL a1 a2 t y b 28, (Sum.inr (3, List.mapIdx (fv (adL a1 a2 t y b) (M00 28)) [some 29, some 30, some 31, none, none]) : va_E))
  simp only [List.mapIdx_cons, List.mapIdx_nil]
  rfl
set_option maxHeartbeats 1000000 in
set_option maxRecDepth 10000 in
theorem wk_29 (tI tZ tG : ClassId) (a1 a2 : Nat → Nat) (t y b : Nat) : (resX9 tI tZ tG a1)[29]? = some (adL a1 a2 t y b 29, ce tI tZ tG (adL a1 a2 t y b) (M00 29) (0, 8, [])) := by
  rw [show M00 29 = fun _ => 0 from rfl]
  rfl
set_option maxHeartbeats 1000000 in
set_option maxRecDepth 10000 in
theorem wk_30 (tI tZ tG : ClassId) (a1 a2 : Nat → Nat) (t y b : Nat) : (resX9 tI tZ tG a1)[30]? = some (adL a1 a2 t y b 30, ce tI tZ tG (adL a1 a2 t y b) (M00 30) (0, 8, [])) := by
  rw [show M00 30 = fun _ => 0 from rfl]
  rfl
set_option maxHeartbeats 1000000 in
set_option maxRecDepth 10000 in
theorem wk_31 (tI tZ tG : ClassId) (a1 a2 : Nat → Nat) (t y b : Nat) : (resX9 tI tZ tG a1)[31]? = some (adL a1 a2 t y b 31, ce tI tZ tG (adL a1 a2 t y b) (M00 31) (0, 8, [])) := by
  rw [show M00 31 = fun _ => 0 from rfl]
  rfl
set_option maxHeartbeats 1000000 in
set_option maxRecDepth 10000 in
theorem wk_32 (tI tZ tG : ClassId) (a1 a2 : Nat → Nat) (t y b : Nat) : (resX9 tI tZ tG a1)[32]? = some (adL a1 a2 t y b 32, ce tI tZ tG (adL a1 a2 t y b) (M00 32) (2, 2, [some 33, some 43])) := by
  have hg : (fun i => (([some 33, some 43] : List (Option Nat)).getD i none).map a1) = fun i => (([some 33, some 43] : List (Option Nat)).getD i none).map (adL a1 a2 t y b) := by
    funext i
    match i with
    | 0 => rfl
    | 1 => rfl
    | i + 2 => rfl
  show some (a1 32, (Sum.inl (tG, 2, .inr (.inr (.inr (.inr (fun i => (([some 33, some 43] : List (Option Nat)).getD i none).map a1))))) : va_E)) = _
  rw [hg]
  rfl
set_option maxHeartbeats 1000000 in
set_option maxRecDepth 10000 in
theorem wk_33 (tI tZ tG : ClassId) (a1 a2 : Nat → Nat) (t y b : Nat) : (resX9 tI tZ tG a1)[33]? = some (adL a1 a2 t y b 33, ce tI tZ tG (adL a1 a2 t y b) (M00 33) (7, 3, [some 34, some 41, none])) := by
  show _ = some (adL a1 a2 t y b 33, (Sum.inr (4, List.mapIdx (fv (adL a1 a2 t y b) (M00 33)) [some 34, some 41, none]) : va_E))
  simp only [List.mapIdx_cons, List.mapIdx_nil]
  rfl
set_option maxHeartbeats 1000000 in
set_option maxRecDepth 10000 in
theorem wk_34 (tI tZ tG : ClassId) (a1 a2 : Nat → Nat) (t y b : Nat) : (resX9 tI tZ tG a1)[34]? = some (adL a1 a2 t y b 34, ce tI tZ tG (adL a1 a2 t y b) (M00 34) (11, 9, [some 35, some 36, some 37, some 38, some 39, some 40, none, none, none])) := by
  show _ = some (adL a1 a2 t y b 34, (Sum.inr (8, List.mapIdx (fv (adL a1 a2 t y b) (M00 34)) [some 35, some 36, some 37, some 38, some 39, some 40, none, none, none]) : va_E))
  simp only [List.mapIdx_cons, List.mapIdx_nil]
  rfl
set_option maxHeartbeats 1000000 in
set_option maxRecDepth 10000 in
theorem wk_35 (tI tZ tG : ClassId) (a1 a2 : Nat → Nat) (t y b : Nat) : (resX9 tI tZ tG a1)[35]? = some (adL a1 a2 t y b 35, ce tI tZ tG (adL a1 a2 t y b) (M00 35) (0, 8, [])) := by
  rw [show M00 35 = fun _ => 0 from rfl]
  rfl
set_option maxHeartbeats 1000000 in
set_option maxRecDepth 10000 in
theorem wk_36 (tI tZ tG : ClassId) (a1 a2 : Nat → Nat) (t y b : Nat) : (resX9 tI tZ tG a1)[36]? = some (adL a1 a2 t y b 36, ce tI tZ tG (adL a1 a2 t y b) (M00 36) (0, 8, [])) := by
  rw [show M00 36 = fun _ => 0 from rfl]
  rfl
set_option maxHeartbeats 1000000 in
set_option maxRecDepth 10000 in
theorem wk_37 (tI tZ tG : ClassId) (a1 a2 : Nat → Nat) (t y b : Nat) : (resX9 tI tZ tG a1)[37]? = some (adL a1 a2 t y b 37, ce tI tZ tG (adL a1 a2 t y b) (M00 37) (0, 8, [])) := by
  rw [show M00 37 = fun _ => 0 from rfl]
  rfl
set_option maxHeartbeats 1000000 in
set_option maxRecDepth 10000 in
theorem wk_38 (tI tZ tG : ClassId) (a1 a2 : Nat → Nat) (t y b : Nat) : (resX9 tI tZ tG a1)[38]? = some (adL a1 a2 t y b 38, ce tI tZ tG (adL a1 a2 t y b) (M00 38) (0, 8, [])) := by
  rw [show M00 38 = fun _ => 0 from rfl]
  rfl
set_option maxHeartbeats 1000000 in
set_option maxRecDepth 10000 in
theorem wk_39 (tI tZ tG : ClassId) (a1 a2 : Nat → Nat) (t y b : Nat) : (resX9 tI tZ tG a1)[39]? = some (adL a1 a2 t y b 39, ce tI tZ tG (adL a1 a2 t y b) (M00 39) (0, 8, [])) := by
  rw [show M00 39 = fun _ => 0 from rfl]
  rfl
set_option maxHeartbeats 1000000 in
set_option maxRecDepth 10000 in
theorem wk_40 (tI tZ tG : ClassId) (a1 a2 : Nat → Nat) (t y b : Nat) : (resX9 tI tZ tG a1)[40]? = some (adL a1 a2 t y b 40, ce tI tZ tG (adL a1 a2 t y b) (M00 40) (0, 8, [])) := by
  rw [show M00 40 = fun _ => 0 from rfl]
  rfl
set_option maxHeartbeats 1000000 in
set_option maxRecDepth 10000 in
theorem wk_41 (tI tZ tG : ClassId) (a1 a2 : Nat → Nat) (t y b : Nat) : (resX9 tI tZ tG a1)[41]? = some (adL a1 a2 t y b 41, ce tI tZ tG (adL a1 a2 t y b) (M00 41) (9, 3, [some 42, none, none])) := by
  show _ = some (adL a1 a2 t y b 41, (Sum.inr (6, List.mapIdx (fv (adL a1 a2 t y b) (M00 41)) [some 42, none, none]) : va_E))
  simp only [List.mapIdx_cons, List.mapIdx_nil]
  rfl
set_option maxHeartbeats 1000000 in
set_option maxRecDepth 10000 in
theorem wk_42 (tI tZ tG : ClassId) (a1 a2 : Nat → Nat) (t y b : Nat) : (resX9 tI tZ tG a1)[42]? = some (adL a1 a2 t y b 42, ce tI tZ tG (adL a1 a2 t y b) (M00 42) (0, 41, [])) := by
  rw [show M00 42 = fun j => if j < 41 then -1 else 0 from rfl]
  rfl
set_option maxHeartbeats 1000000 in
set_option maxRecDepth 10000 in
theorem wk_43 (tI tZ tG : ClassId) (a1 a2 : Nat → Nat) (t y b : Nat) : (resX9 tI tZ tG a1)[43]? = some (adL a1 a2 t y b 43, ce tI tZ tG (adL a1 a2 t y b) (M00 43) (7, 3, [some 44, some 51, none])) := by
  show _ = some (adL a1 a2 t y b 43, (Sum.inr (4, List.mapIdx (fv (adL a1 a2 t y b) (M00 43)) [some 44, some 51, none]) : va_E))
  simp only [List.mapIdx_cons, List.mapIdx_nil]
  rfl
set_option maxHeartbeats 1000000 in
set_option maxRecDepth 10000 in
theorem wk_44 (tI tZ tG : ClassId) (a1 a2 : Nat → Nat) (t y b : Nat) : (resX9 tI tZ tG a1)[44]? = some (adL a1 a2 t y b 44, ce tI tZ tG (adL a1 a2 t y b) (M00 44) (11, 9, [some 45, some 46, some 47, some 48, some 49, some 50, none, none, none])) := by
  show _ = some (adL a1 a2 t y b 44, (Sum.inr (8, List.mapIdx (fv (adL a1 a2 t y b) (M00 44)) [some 45, some 46, some 47, some 48, some 49, some 50, none, none, none]) : va_E))
  simp only [List.mapIdx_cons, List.mapIdx_nil]
  rfl
set_option maxHeartbeats 1000000 in
set_option maxRecDepth 10000 in
theorem wk_45 (tI tZ tG : ClassId) (a1 a2 : Nat → Nat) (t y b : Nat) : (resX9 tI tZ tG a1)[45]? = some (adL a1 a2 t y b 45, ce tI tZ tG (adL a1 a2 t y b) (M00 45) (0, 8, [])) := by
  rw [show M00 45 = fun _ => 0 from rfl]
  rfl
set_option maxHeartbeats 1000000 in
set_option maxRecDepth 10000 in
theorem wk_46 (tI tZ tG : ClassId) (a1 a2 : Nat → Nat) (t y b : Nat) : (resX9 tI tZ tG a1)[46]? = some (adL a1 a2 t y b 46, ce tI tZ tG (adL a1 a2 t y b) (M00 46) (0, 8, [])) := by
  rw [show M00 46 = fun _ => 0 from rfl]
  rfl
set_option maxHeartbeats 1000000 in
set_option maxRecDepth 10000 in
theorem wk_47 (tI tZ tG : ClassId) (a1 a2 : Nat → Nat) (t y b : Nat) : (resX9 tI tZ tG a1)[47]? = some (adL a1 a2 t y b 47, ce tI tZ tG (adL a1 a2 t y b) (M00 47) (0, 8, [])) := by
  rw [show M00 47 = fun _ => 0 from rfl]
  rfl
set_option maxHeartbeats 1000000 in
set_option maxRecDepth 10000 in
theorem wk_48 (tI tZ tG : ClassId) (a1 a2 : Nat → Nat) (t y b : Nat) : (resX9 tI tZ tG a1)[48]? = some (adL a1 a2 t y b 48, ce tI tZ tG (adL a1 a2 t y b) (M00 48) (0, 8, [])) := by
  rw [show M00 48 = fun _ => 0 from rfl]
  rfl
set_option maxHeartbeats 1000000 in
set_option maxRecDepth 10000 in
theorem wk_49 (tI tZ tG : ClassId) (a1 a2 : Nat → Nat) (t y b : Nat) : (resX9 tI tZ tG a1)[49]? = some (adL a1 a2 t y b 49, ce tI tZ tG (adL a1 a2 t y b) (M00 49) (0, 8, [])) := by
  rw [show M00 49 = fun _ => 0 from rfl]
  rfl
set_option maxHeartbeats 1000000 in
set_option maxRecDepth 10000 in
theorem wk_50 (tI tZ tG : ClassId) (a1 a2 : Nat → Nat) (t y b : Nat) : (resX9 tI tZ tG a1)[50]? = some (adL a1 a2 t y b 50, ce tI tZ tG (adL a1 a2 t y b) (M00 50) (0, 8, [])) := by
  rw [show M00 50 = fun _ => 0 from rfl]
  rfl
set_option maxHeartbeats 1000000 in
set_option maxRecDepth 10000 in
theorem wk_51 (tI tZ tG : ClassId) (a1 a2 : Nat → Nat) (t y b : Nat) : (resX9 tI tZ tG a1)[51]? = some (adL a1 a2 t y b 51, ce tI tZ tG (adL a1 a2 t y b) (M00 51) (9, 3, [some 52, none, none])) := by
  show _ = some (adL a1 a2 t y b 51, (Sum.inr (6, List.mapIdx (fv (adL a1 a2 t y b) (M00 51)) [some 52, none, none]) : va_E))
  simp only [List.mapIdx_cons, List.mapIdx_nil]
  rfl
set_option maxHeartbeats 1000000 in
set_option maxRecDepth 10000 in
theorem wk_52 (tI tZ tG : ClassId) (a1 a2 : Nat → Nat) (t y b : Nat) : (resX9 tI tZ tG a1)[52]? = some (adL a1 a2 t y b 52, ce tI tZ tG (adL a1 a2 t y b) (M00 52) (0, 41, [])) := by
  rw [show M00 52 = fun j => if j < 41 then -1 else 0 from rfl]
  rfl
set_option maxHeartbeats 1000000 in
set_option maxRecDepth 10000 in
theorem wk_53 (tI tZ tG : ClassId) (a1 a2 : Nat → Nat) (t y b : Nat) : (resX10 tI tZ tG a2)[0]? = some (adL a1 a2 t y b 53, ce tI tZ tG (adL a1 a2 t y b) (M00 53) (13, 34, [some 54, some 55, some 56, some 57, some 58, none, none, none, some 59, some 60, none, some 61, none, some 62, some 63, some 64, none, none, some 65, some 66, none, none, none, none, some 67, some 68, some 69, some 70, some 71, some 72, some 73, some 74, none, none])) := by
  show _ = some (adL a1 a2 t y b 53, (Sum.inr (10, List.mapIdx (fv (adL a1 a2 t y b) (M00 53)) [some 54, some 55, some 56, some 57, some 58, none, none, none, some 59, some 60, none, some 61, none, some 62, some 63, some 64, none, none, some 65, some 66, none, none, none, none, some 67, some 68, some 69, some 70, some 71, some 72, some 73, some 74, none, none]) : va_E))
  simp only [List.mapIdx_cons, List.mapIdx_nil]
  rfl
set_option maxHeartbeats 1000000 in
set_option maxRecDepth 10000 in
theorem wk_54 (tI tZ tG : ClassId) (a1 a2 : Nat → Nat) (t y b : Nat) : (resX10 tI tZ tG a2)[1]? = some (adL a1 a2 t y b 54, ce tI tZ tG (adL a1 a2 t y b) (M00 54) (0, 8, [])) := by
  rw [show M00 54 = fun _ => 0 from rfl]
  rfl
set_option maxHeartbeats 1000000 in
set_option maxRecDepth 10000 in
theorem wk_55 (tI tZ tG : ClassId) (a1 a2 : Nat → Nat) (t y b : Nat) : (resX10 tI tZ tG a2)[2]? = some (adL a1 a2 t y b 55, ce tI tZ tG (adL a1 a2 t y b) (M00 55) (0, 8, [])) := by
  rw [show M00 55 = fun _ => 0 from rfl]
  rfl
set_option maxHeartbeats 1000000 in
set_option maxRecDepth 10000 in
theorem wk_56 (tI tZ tG : ClassId) (a1 a2 : Nat → Nat) (t y b : Nat) : (resX10 tI tZ tG a2)[3]? = some (adL a1 a2 t y b 56, ce tI tZ tG (adL a1 a2 t y b) (M00 56) (0, 8, [])) := by
  rw [show M00 56 = fun _ => 0 from rfl]
  rfl
set_option maxHeartbeats 1000000 in
set_option maxRecDepth 10000 in
theorem wk_57 (tI tZ tG : ClassId) (a1 a2 : Nat → Nat) (t y b : Nat) : (resX10 tI tZ tG a2)[4]? = some (adL a1 a2 t y b 57, ce tI tZ tG (adL a1 a2 t y b) (M00 57) (0, 8, [])) := by
  rw [show M00 57 = fun _ => 0 from rfl]
  rfl
set_option maxHeartbeats 1000000 in
set_option maxRecDepth 10000 in
theorem wk_58 (tI tZ tG : ClassId) (a1 a2 : Nat → Nat) (t y b : Nat) : (resX10 tI tZ tG a2)[5]? = some (adL a1 a2 t y b 58, ce tI tZ tG (adL a1 a2 t y b) (M00 58) (0, 8, [])) := by
  rw [show M00 58 = fun _ => 0 from rfl]
  rfl
set_option maxHeartbeats 1000000 in
set_option maxRecDepth 10000 in
theorem wk_59 (tI tZ tG : ClassId) (a1 a2 : Nat → Nat) (t y b : Nat) : (resX10 tI tZ tG a2)[6]? = some (adL a1 a2 t y b 59, ce tI tZ tG (adL a1 a2 t y b) (M00 59) (0, 8, [])) := by
  rw [show M00 59 = fun _ => 0 from rfl]
  rfl
set_option maxHeartbeats 1000000 in
set_option maxRecDepth 10000 in
theorem wk_60 (tI tZ tG : ClassId) (a1 a2 : Nat → Nat) (t y b : Nat) : (resX10 tI tZ tG a2)[7]? = some (adL a1 a2 t y b 60, ce tI tZ tG (adL a1 a2 t y b) (M00 60) (0, 8, [])) := by
  rw [show M00 60 = fun _ => 0 from rfl]
  rfl
set_option maxHeartbeats 1000000 in
set_option maxRecDepth 10000 in
theorem wk_61 (tI tZ tG : ClassId) (a1 a2 : Nat → Nat) (t y b : Nat) : (resX10 tI tZ tG a2)[8]? = some (adL a1 a2 t y b 61, ce tI tZ tG (adL a1 a2 t y b) (M00 61) (0, 60, [])) := by
  rw [show M00 61 = fun _ => 0 from rfl]
  rfl
set_option maxHeartbeats 1000000 in
set_option maxRecDepth 10000 in
theorem wk_62 (tI tZ tG : ClassId) (a1 a2 : Nat → Nat) (t y b : Nat) : (resX10 tI tZ tG a2)[9]? = some (adL a1 a2 t y b 62, ce tI tZ tG (adL a1 a2 t y b) (M00 62) (0, 60, [])) := by
  rw [show M00 62 = fun _ => 0 from rfl]
  rfl
set_option maxHeartbeats 1000000 in
set_option maxRecDepth 10000 in
theorem wk_63 (tI tZ tG : ClassId) (a1 a2 : Nat → Nat) (t y b : Nat) : (resX10 tI tZ tG a2)[10]? = some (adL a1 a2 t y b 63, ce tI tZ tG (adL a1 a2 t y b) (M00 63) (0, 60, [])) := by
  rw [show M00 63 = fun _ => 0 from rfl]
  rfl
set_option maxHeartbeats 1000000 in
set_option maxRecDepth 10000 in
theorem wk_64 (tI tZ tG : ClassId) (a1 a2 : Nat → Nat) (t y b : Nat) : (resX10 tI tZ tG a2)[11]? = some (adL a1 a2 t y b 64, ce tI tZ tG (adL a1 a2 t y b) (M00 64) (0, 60, [])) := by
  rw [show M00 64 = fun _ => 0 from rfl]
  rfl
set_option maxHeartbeats 1000000 in
set_option maxRecDepth 10000 in
theorem wk_65 (tI tZ tG : ClassId) (a1 a2 : Nat → Nat) (t y b : Nat) : (resX10 tI tZ tG a2)[12]? = some (adL a1 a2 t y b 65, ce tI tZ tG (adL a1 a2 t y b) (M00 65) (0, 8, [])) := by
  rw [show M00 65 = fun _ => 0 from rfl]
  rfl
set_option maxHeartbeats 1000000 in
set_option maxRecDepth 10000 in
theorem wk_66 (tI tZ tG : ClassId) (a1 a2 : Nat → Nat) (t y b : Nat) : (resX10 tI tZ tG a2)[13]? = some (adL a1 a2 t y b 66, ce tI tZ tG (adL a1 a2 t y b) (M00 66) (0, 43, [])) := by
  rw [show M00 66 = fun _ => 0 from rfl]
  rfl
set_option maxHeartbeats 1000000 in
set_option maxRecDepth 10000 in
theorem wk_67 (tI tZ tG : ClassId) (a1 a2 : Nat → Nat) (t y b : Nat) : (resX10 tI tZ tG a2)[14]? = some (adL a1 a2 t y b 67, ce tI tZ tG (adL a1 a2 t y b) (M00 67) (0, 9, [])) := by
  rw [show M00 67 = fun _ => 0 from rfl]
  rfl
set_option maxHeartbeats 1000000 in
set_option maxRecDepth 10000 in
theorem wk_68 (tI tZ tG : ClassId) (a1 a2 : Nat → Nat) (t y b : Nat) : (resX10 tI tZ tG a2)[15]? = some (adL a1 a2 t y b 68, ce tI tZ tG (adL a1 a2 t y b) (M00 68) (0, 9, [])) := by
  rw [show M00 68 = fun _ => 0 from rfl]
  rfl
set_option maxHeartbeats 1000000 in
set_option maxRecDepth 10000 in
theorem wk_69 (tI tZ tG : ClassId) (a1 a2 : Nat → Nat) (t y b : Nat) : (resX10 tI tZ tG a2)[16]? = some (adL a1 a2 t y b 69, ce tI tZ tG (adL a1 a2 t y b) (M00 69) (0, 100, [])) := by
  rw [show M00 69 = fun _ => 0 from rfl]
  rfl
set_option maxHeartbeats 1000000 in
set_option maxRecDepth 10000 in
theorem wk_70 (tI tZ tG : ClassId) (a1 a2 : Nat → Nat) (t y b : Nat) : (resX10 tI tZ tG a2)[17]? = some (adL a1 a2 t y b 70, ce tI tZ tG (adL a1 a2 t y b) (M00 70) (0, 100, [])) := by
  rw [show M00 70 = fun _ => 0 from rfl]
  rfl
set_option maxHeartbeats 1000000 in
set_option maxRecDepth 10000 in
theorem wk_71 (tI tZ tG : ClassId) (a1 a2 : Nat → Nat) (t y b : Nat) : (resX10 tI tZ tG a2)[18]? = some (adL a1 a2 t y b 71, ce tI tZ tG (adL a1 a2 t y b) (M00 71) (0, 64, [])) := by
  rw [show M00 71 = fun _ => 0 from rfl]
  rfl
set_option maxHeartbeats 1000000 in
set_option maxRecDepth 10000 in
theorem wk_72 (tI tZ tG : ClassId) (a1 a2 : Nat → Nat) (t y b : Nat) : (resX10 tI tZ tG a2)[19]? = some (adL a1 a2 t y b 72, ce tI tZ tG (adL a1 a2 t y b) (M00 72) (0, 64, [])) := by
  rw [show M00 72 = fun _ => 0 from rfl]
  rfl
set_option maxHeartbeats 1000000 in
set_option maxRecDepth 10000 in
theorem wk_73 (tI tZ tG : ClassId) (a1 a2 : Nat → Nat) (t y b : Nat) : (resX10 tI tZ tG a2)[20]? = some (adL a1 a2 t y b 73, ce tI tZ tG (adL a1 a2 t y b) (M00 73) (0, 140, [])) := by
  rw [show M00 73 = fun _ => 0 from rfl]
  rfl
set_option maxHeartbeats 1000000 in
set_option maxRecDepth 10000 in
theorem wk_74 (tI tZ tG : ClassId) (a1 a2 : Nat → Nat) (t y b : Nat) : (resX10 tI tZ tG a2)[21]? = some (adL a1 a2 t y b 74, ce tI tZ tG (adL a1 a2 t y b) (M00 74) (1, 2, [])) := by
  rw [show M00 74 = fun _ => 0 from rfl]
  rfl
theorem len9 (tI tZ tG : ClassId) (a : Nat → Nat) : (resX9 tI tZ tG a).length = 53 := rfl
theorem len10 (tI tZ tG : ClassId) (a : Nat → Nat) : (resX10 tI tZ tG a).length = 22 := rfl
theorem w9 (tI tZ tG : ClassId) (a1 a2 : Nat → Nat) (t y b : Nat) : ∀ k, k < 53 → ∃ q, shl[k]? = some q ∧ (resX9 tI tZ tG a1)[k]? = some (adL a1 a2 t y b k, ce tI tZ tG (adL a1 a2 t y b) (M00 k) q) := by
  intro k hk
  match k, hk with
  | 0, _ => exact ⟨_, rfl, wk_0 tI tZ tG a1 a2 t y b⟩
  | 1, _ => exact ⟨_, rfl, wk_1 tI tZ tG a1 a2 t y b⟩
  | 2, _ => exact ⟨_, rfl, wk_2 tI tZ tG a1 a2 t y b⟩
  | 3, _ => exact ⟨_, rfl, wk_3 tI tZ tG a1 a2 t y b⟩
  | 4, _ => exact ⟨_, rfl, wk_4 tI tZ tG a1 a2 t y b⟩
  | 5, _ => exact ⟨_, rfl, wk_5 tI tZ tG a1 a2 t y b⟩
  | 6, _ => exact ⟨_, rfl, wk_6 tI tZ tG a1 a2 t y b⟩
  | 7, _ => exact ⟨_, rfl, wk_7 tI tZ tG a1 a2 t y b⟩
  | 8, _ => exact ⟨_, rfl, wk_8 tI tZ tG a1 a2 t y b⟩
  | 9, _ => exact ⟨_, rfl, wk_9 tI tZ tG a1 a2 t y b⟩
  | 10, _ => exact ⟨_, rfl, wk_10 tI tZ tG a1 a2 t y b⟩
  | 11, _ => exact ⟨_, rfl, wk_11 tI tZ tG a1 a2 t y b⟩
  | 12, _ => exact ⟨_, rfl, wk_12 tI tZ tG a1 a2 t y b⟩
  | 13, _ => exact ⟨_, rfl, wk_13 tI tZ tG a1 a2 t y b⟩
  | 14, _ => exact ⟨_, rfl, wk_14 tI tZ tG a1 a2 t y b⟩
  | 15, _ => exact ⟨_, rfl, wk_15 tI tZ tG a1 a2 t y b⟩
  | 16, _ => exact ⟨_, rfl, wk_16 tI tZ tG a1 a2 t y b⟩
  | 17, _ => exact ⟨_, rfl, wk_17 tI tZ tG a1 a2 t y b⟩
  | 18, _ => exact ⟨_, rfl, wk_18 tI tZ tG a1 a2 t y b⟩
  | 19, _ => exact ⟨_, rfl, wk_19 tI tZ tG a1 a2 t y b⟩
  | 20, _ => exact ⟨_, rfl, wk_20 tI tZ tG a1 a2 t y b⟩
  | 21, _ => exact ⟨_, rfl, wk_21 tI tZ tG a1 a2 t y b⟩
  | 22, _ => exact ⟨_, rfl, wk_22 tI tZ tG a1 a2 t y b⟩
  | 23, _ => exact ⟨_, rfl, wk_23 tI tZ tG a1 a2 t y b⟩
  | 24, _ => exact ⟨_, rfl, wk_24 tI tZ tG a1 a2 t y b⟩
  | 25, _ => exact ⟨_, rfl, wk_25 tI tZ tG a1 a2 t y b⟩
  | 26, _ => exact ⟨_, rfl, wk_26 tI tZ tG a1 a2 t y b⟩
  | 27, _ => exact ⟨_, rfl, wk_27 tI tZ tG a1 a2 t y b⟩
  | 28, _ => exact ⟨_, rfl, wk_28 tI tZ tG a1 a2 t y b⟩
  | 29, _ => exact ⟨_, rfl, wk_29 tI tZ tG a1 a2 t y b⟩
  | 30, _ => exact ⟨_, rfl, wk_30 tI tZ tG a1 a2 t y b⟩
  | 31, _ => exact ⟨_, rfl, wk_31 tI tZ tG a1 a2 t y b⟩
  | 32, _ => exact ⟨_, rfl, wk_32 tI tZ tG a1 a2 t y b⟩
  | 33, _ => exact ⟨_, rfl, wk_33 tI tZ tG a1 a2 t y b⟩
  | 34, _ => exact ⟨_, rfl, wk_34 tI tZ tG a1 a2 t y b⟩
  | 35, _ => exact ⟨_, rfl, wk_35 tI tZ tG a1 a2 t y b⟩
  | 36, _ => exact ⟨_, rfl, wk_36 tI tZ tG a1 a2 t y b⟩
  | 37, _ => exact ⟨_, rfl, wk_37 tI tZ tG a1 a2 t y b⟩
  | 38, _ => exact ⟨_, rfl, wk_38 tI tZ tG a1 a2 t y b⟩
  | 39, _ => exact ⟨_, rfl, wk_39 tI tZ tG a1 a2 t y b⟩
  | 40, _ => exact ⟨_, rfl, wk_40 tI tZ tG a1 a2 t y b⟩
  | 41, _ => exact ⟨_, rfl, wk_41 tI tZ tG a1 a2 t y b⟩
  | 42, _ => exact ⟨_, rfl, wk_42 tI tZ tG a1 a2 t y b⟩
  | 43, _ => exact ⟨_, rfl, wk_43 tI tZ tG a1 a2 t y b⟩
  | 44, _ => exact ⟨_, rfl, wk_44 tI tZ tG a1 a2 t y b⟩
  | 45, _ => exact ⟨_, rfl, wk_45 tI tZ tG a1 a2 t y b⟩
  | 46, _ => exact ⟨_, rfl, wk_46 tI tZ tG a1 a2 t y b⟩
  | 47, _ => exact ⟨_, rfl, wk_47 tI tZ tG a1 a2 t y b⟩
  | 48, _ => exact ⟨_, rfl, wk_48 tI tZ tG a1 a2 t y b⟩
  | 49, _ => exact ⟨_, rfl, wk_49 tI tZ tG a1 a2 t y b⟩
  | 50, _ => exact ⟨_, rfl, wk_50 tI tZ tG a1 a2 t y b⟩
  | 51, _ => exact ⟨_, rfl, wk_51 tI tZ tG a1 a2 t y b⟩
  | 52, _ => exact ⟨_, rfl, wk_52 tI tZ tG a1 a2 t y b⟩
  | k + 53, h => exact absurd h (by omega)
theorem w10 (tI tZ tG : ClassId) (a1 a2 : Nat → Nat) (t y b : Nat) : ∀ k, k < 22 → ∃ q, shl[53 + k]? = some q ∧ (resX10 tI tZ tG a2)[k]? = some (adL a1 a2 t y b (53 + k), ce tI tZ tG (adL a1 a2 t y b) (M00 (53 + k)) q) := by
  intro k hk
  match k, hk with
  | 0, _ => exact ⟨_, rfl, wk_53 tI tZ tG a1 a2 t y b⟩
  | 1, _ => exact ⟨_, rfl, wk_54 tI tZ tG a1 a2 t y b⟩
  | 2, _ => exact ⟨_, rfl, wk_55 tI tZ tG a1 a2 t y b⟩
  | 3, _ => exact ⟨_, rfl, wk_56 tI tZ tG a1 a2 t y b⟩
  | 4, _ => exact ⟨_, rfl, wk_57 tI tZ tG a1 a2 t y b⟩
  | 5, _ => exact ⟨_, rfl, wk_58 tI tZ tG a1 a2 t y b⟩
  | 6, _ => exact ⟨_, rfl, wk_59 tI tZ tG a1 a2 t y b⟩
  | 7, _ => exact ⟨_, rfl, wk_60 tI tZ tG a1 a2 t y b⟩
  | 8, _ => exact ⟨_, rfl, wk_61 tI tZ tG a1 a2 t y b⟩
  | 9, _ => exact ⟨_, rfl, wk_62 tI tZ tG a1 a2 t y b⟩
  | 10, _ => exact ⟨_, rfl, wk_63 tI tZ tG a1 a2 t y b⟩
  | 11, _ => exact ⟨_, rfl, wk_64 tI tZ tG a1 a2 t y b⟩
  | 12, _ => exact ⟨_, rfl, wk_65 tI tZ tG a1 a2 t y b⟩
  | 13, _ => exact ⟨_, rfl, wk_66 tI tZ tG a1 a2 t y b⟩
  | 14, _ => exact ⟨_, rfl, wk_67 tI tZ tG a1 a2 t y b⟩
  | 15, _ => exact ⟨_, rfl, wk_68 tI tZ tG a1 a2 t y b⟩
  | 16, _ => exact ⟨_, rfl, wk_69 tI tZ tG a1 a2 t y b⟩
  | 17, _ => exact ⟨_, rfl, wk_70 tI tZ tG a1 a2 t y b⟩
  | 18, _ => exact ⟨_, rfl, wk_71 tI tZ tG a1 a2 t y b⟩
  | 19, _ => exact ⟨_, rfl, wk_72 tI tZ tG a1 a2 t y b⟩
  | 20, _ => exact ⟨_, rfl, wk_73 tI tZ tG a1 a2 t y b⟩
  | 21, _ => exact ⟨_, rfl, wk_74 tI tZ tG a1 a2 t y b⟩
  | k + 22, h => exact absurd h (by omega)
theorem world0 (tI tZ tG : ClassId) (a1 a2 : Nat → Nat) (t y b : Nat) : resX9 tI tZ tG a1 ++ resX10 tI tZ tG a2 = cw tI tZ tG (adL a1 a2 t y b) M00 := by
  apply List.ext_getElem?
  intro k
  by_cases h1 : k < 53
  · obtain ⟨q, e1, e2⟩ := w9 tI tZ tG a1 a2 t y b k h1
    rw [List.getElem?_append_left (by rw [len9]; exact h1), e2, cw_get e1]
  · by_cases h2 : k < 75
    · obtain ⟨j, rfl⟩ : ∃ j, k = 53 + j := ⟨k - 53, by omega⟩
      obtain ⟨q, e1, e2⟩ := w10 tI tZ tG a1 a2 t y b j (by omega)
      rw [List.getElem?_append_right (by rw [len9]; omega), len9, Nat.add_sub_cancel_left, e2, cw_get e1]
    · rw [List.getElem?_eq_none (by rw [List.length_append, len9, len10]; omega), List.getElem?_eq_none (by unfold cw; rw [List.length_mapIdx, shl_len]; omega)]
