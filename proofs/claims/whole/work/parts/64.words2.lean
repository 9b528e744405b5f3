theorem bw_oi : Cond.instanceMethod Lib.objectInit ∈ lw_good := mem_good 67 (by decide +kernel)
theorem bw_oc : Cond.code Lib.objectInit ⟨#[0xb1]⟩ 1 none ∈ lw_good := mem_good 68 (by decide +kernel)
theorem bw_aI : Cond.arrayClass .int ∈ lw_good := mem_good 111 (by decide +kernel)
theorem bw_aZ : Cond.arrayClass .boolean ∈ lw_good := mem_good 751 (by decide +kernel)
theorem mi_X0 : MI yX0_init cX0_init 1 := ⟨mem_good 130 (by decide +kernel), mem_good 49 (by decide +kernel), mem_good 131 (by decide +kernel), rfl, ⟨by decide, by decide, by decide +kernel⟩, by decide⟩
theorem bw_ins_X0 : Cond.instantiable RX0 3 ∈ lw_good := mem_good 128 (by decide +kernel)
theorem bw_ini_X0 : Cond.initialized RX0 ∈ lw_good := mem_good 49 (by decide +kernel)
theorem fs_X0 : ∀ j, j < 3 → defaultValue (tyX0 j) = vp_V [.int 0, .int 0, .int 0] j := by decide +kernel
theorem mi_X1 : MI yX1_init cX1_init 1 := ⟨mem_good 197 (by decide +kernel), mem_good 53 (by decide +kernel), mem_good 198 (by decide +kernel), rfl, ⟨by decide, by decide, by decide +kernel⟩, by decide⟩
theorem bw_ins_X1 : Cond.instantiable RX1 6 ∈ lw_good := mem_good 195 (by decide +kernel)
theorem bw_ini_X1 : Cond.initialized RX1 ∈ lw_good := mem_good 53 (by decide +kernel)
theorem fs_X1 : ∀ j, j < 6 → defaultValue (tyX1 j) = vp_V [.null, .null, .null, .int 0, .int 0, .int 0] j := by decide +kernel
theorem mi_X2 : MI yX2_init cX2_init 1 := ⟨mem_good 224 (by decide +kernel), mem_good 54 (by decide +kernel), mem_good 225 (by decide +kernel), rfl, ⟨by decide, by decide, by decide +kernel⟩, by decide⟩
theorem bw_ins_X2 : Cond.instantiable RX2 4 ∈ lw_good := mem_good 222 (by decide +kernel)
theorem bw_ini_X2 : Cond.initialized RX2 ∈ lw_good := mem_good 54 (by decide +kernel)
theorem fs_X2 : ∀ j, j < 4 → defaultValue (tyX2 j) = vp_V [.null, .null, .int 0, .int 0] j := by decide +kernel
theorem mi_X3 : MI yX3_init cX3_init 1 := ⟨mem_good 245 (by decide +kernel), mem_good 55 (by decide +kernel), mem_good 246 (by decide +kernel), rfl, ⟨by decide, by decide, by decide +kernel⟩, by decide⟩
theorem bw_ins_X3 : Cond.instantiable RX3 5 ∈ lw_good := mem_good 243 (by decide +kernel)
theorem bw_ini_X3 : Cond.initialized RX3 ∈ lw_good := mem_good 55 (by decide +kernel)
theorem fs_X3 : ∀ j, j < 5 → defaultValue (tyX3 j) = vp_V [.null, .null, .null, .int 0, .int 0] j := by decide +kernel
theorem mi_X4 : MI yX4_init cX4_init 1 := ⟨mem_good 270 (by decide +kernel), mem_good 56 (by decide +kernel), mem_good 271 (by decide +kernel), rfl, ⟨by decide, by decide, by decide +kernel⟩, by decide⟩
theorem bw_ins_X4 : Cond.instantiable RX4 3 ∈ lw_good := mem_good 268 (by decide +kernel)
theorem bw_ini_X4 : Cond.initialized RX4 ∈ lw_good := mem_good 56 (by decide +kernel)
theorem fs_X4 : ∀ j, j < 3 → defaultValue (tyX4 j) = vp_V [.null, .null, .int 0] j := by decide +kernel
theorem mi_X5 : MI yX5_init cX5_init 1 := ⟨mem_good 115 (by decide +kernel), mem_good 48 (by decide +kernel), mem_good 116 (by decide +kernel), rfl, ⟨by decide, by decide, by decide +kernel⟩, by decide⟩
theorem bw_ins_X5 : Cond.instantiable RX5 2 ∈ lw_good := mem_good 113 (by decide +kernel)
theorem bw_ini_X5 : Cond.initialized RX5 ∈ lw_good := mem_good 48 (by decide +kernel)
theorem fs_X5 : ∀ j, j < 2 → defaultValue (tyX5 j) = vp_V [.null, .int 0] j := by decide +kernel
theorem mi_X6 : MI yX6_init cX6_init 1 := ⟨mem_good 177 (by decide +kernel), mem_good 51 (by decide +kernel), mem_good 178 (by decide +kernel), rfl, ⟨by decide, by decide, by decide +kernel⟩, by decide⟩
theorem bw_ins_X6 : Cond.instantiable RX6 3 ∈ lw_good := mem_good 175 (by decide +kernel)
theorem bw_ini_X6 : Cond.initialized RX6 ∈ lw_good := mem_good 51 (by decide +kernel)
theorem fs_X6 : ∀ j, j < 3 → defaultValue (tyX6 j) = vp_V [.null, .int 0, .int 0] j := by decide +kernel
theorem mi_X7 : MI yX7_init cX7_init 1 := ⟨mem_good 150 (by decide +kernel), mem_good 50 (by decide +kernel), mem_good 151 (by decide +kernel), rfl, ⟨by decide, by decide, by decide +kernel⟩, by decide⟩
theorem bw_ins_X7 : Cond.instantiable RX7 5 ∈ lw_good := mem_good 148 (by decide +kernel)
theorem bw_ini_X7 : Cond.initialized RX7 ∈ lw_good := mem_good 50 (by decide +kernel)
theorem fs_X7 : ∀ j, j < 5 → defaultValue (tyX7 j) = vp_V [.int 0, .int 0, .int 0, .int 0, .int 0] j := by decide +kernel
theorem mi_X8 : MI yX8_init cX8_init 1 := ⟨mem_good 72 (by decide +kernel), mem_good 47 (by decide +kernel), mem_good 73 (by decide +kernel), rfl, ⟨by decide, by decide, by decide +kernel⟩, by decide⟩
theorem bw_ins_X8 : Cond.instantiable RX8 9 ∈ lw_good := mem_good 70 (by decide +kernel)
theorem bw_ini_X8 : Cond.initialized RX8 ∈ lw_good := mem_good 47 (by decide +kernel)
theorem fs_X8 : ∀ j, j < 9 → defaultValue (tyX8 j) = vp_V [.null, .null, .null, .null, .null, .null, .int 0, .int 0, .int 0] j := by decide +kernel
theorem mi_X9 : MI yX9_init cX9_init 2 := ⟨mem_good 64 (by decide +kernel), mem_good 46 (by decide +kernel), mem_good 65 (by decide +kernel), rfl, ⟨by decide, by decide, by decide +kernel⟩, by decide⟩
theorem bw_ins_X9 : Cond.instantiable RX9 10 ∈ lw_good := mem_good 62 (by decide +kernel)
theorem bw_ini_X9 : Cond.initialized RX9 ∈ lw_good := mem_good 46 (by decide +kernel)
theorem fs_X9 : ∀ j, j < 10 → defaultValue (tyX9 j) = vp_V [.null, .null, .null, .null, .null, .null, .null, .null, .null, .null] j := by decide +kernel
theorem mi_X10 : MI yX10_init cX10_init 1 := ⟨mem_good 645 (by decide +kernel), mem_good 57 (by decide +kernel), mem_good 646 (by decide +kernel), rfl, ⟨by decide, by decide, by decide +kernel⟩, by decide⟩
theorem bw_ins_X10 : Cond.instantiable RX10 34 ∈ lw_good := mem_good 643 (by decide +kernel)
theorem bw_ini_X10 : Cond.initialized RX10 ∈ lw_good := mem_good 57 (by decide +kernel)
theorem fs_X10 : ∀ j, j < 34 → defaultValue (tyX10 j) = vp_V [.null, .null, .null, .null, .null, .int 0, .int 0, .int 0, .null, .null, .int 0, .null, .int 0, .null, .null, .null, .int 0, .int 0, .null, .null, .int 0, .int 0, .int 0, .int 0, .null, .null, .null, .null, .null, .null, .null, .null, .int 0, .int 0] j := by decide +kernel
def tb_X0_init : List (Nat × Instr × Nat) := [(0, .aload_n 0, 1), (1, .invokespecial 3, 3), (4, .return_, 1)]
set_option maxRecDepth 100000 in
theorem dk_X0_init : dec_ok cX0_init tb_X0_init = true := by decide +kernel
theorem bw_m_X0_3 : Cond.methodLink RX0 3 Lib.objectInit ∈ lw_good := mem_good 132 (by decide +kernel)
def tb_X1_init : List (Nat × Instr × Nat) := [(0, .aload_n 0, 1), (1, .invokespecial 3, 3), (4, .aload_n 0, 1), (5, .bipush 90, 2), (7, .newarray .int, 2), (9, .putfield 9, 3), (12, .aload_n 0, 1), (13, .bipush 90, 2), (15, .newarray .int, 2), (17, .putfield 15, 3), (20, .aload_n 0, 1), (21, .bipush 100, 2), (23, .newarray .int, 2), (25, .putfield 18, 3), (28, .return_, 1)]
set_option maxRecDepth 100000 in
theorem dk_X1_init : dec_ok cX1_init tb_X1_init = true := by decide +kernel
theorem bw_m_X1_3 : Cond.methodLink RX1 3 Lib.objectInit ∈ lw_good := mem_good 199 (by decide +kernel)
theorem bw_f_X1_9 : Cond.fieldLink RX1 9 (TX1 0).1 (TX1 0).2.1 (TX1 0).2.2.1 ∈ lw_good := mem_good 200 (by decide +kernel)
theorem bw_f_X1_15 : Cond.fieldLink RX1 15 (TX1 1).1 (TX1 1).2.1 (TX1 1).2.2.1 ∈ lw_good := mem_good 201 (by decide +kernel)
theorem bw_f_X1_18 : Cond.fieldLink RX1 18 (TX1 2).1 (TX1 2).2.1 (TX1 2).2.2.1 ∈ lw_good := mem_good 202 (by decide +kernel)
def tb_X2_init : List (Nat × Instr × Nat) := [(0, .aload_n 0, 1), (1, .invokespecial 3, 3), (4, .aload_n 0, 1), (5, .bipush 100, 2), (7, .newarray .int, 2), (9, .putfield 11, 3), (12, .aload_n 0, 1), (13, .bipush 100, 2), (15, .newarray .int, 2), (17, .putfield 15, 3), (20, .return_, 1)]
set_option maxRecDepth 100000 in
theorem dk_X2_init : dec_ok cX2_init tb_X2_init = true := by decide +kernel
theorem bw_m_X2_3 : Cond.methodLink RX2 3 Lib.objectInit ∈ lw_good := mem_good 226 (by decide +kernel)
theorem bw_f_X2_11 : Cond.fieldLink RX2 11 (TX2 0).1 (TX2 0).2.1 (TX2 0).2.2.1 ∈ lw_good := mem_good 227 (by decide +kernel)
theorem bw_f_X2_15 : Cond.fieldLink RX2 15 (TX2 1).1 (TX2 1).2.1 (TX2 1).2.2.1 ∈ lw_good := mem_good 228 (by decide +kernel)
def tb_X3_init : List (Nat × Instr × Nat) := [(0, .aload_n 0, 1), (1, .invokespecial 3, 3), (4, .aload_n 0, 1), (5, .bipush 8, 2), (7, .newarray .int, 2), (9, .putfield 9, 3), (12, .aload_n 0, 1), (13, .bipush 8, 2), (15, .newarray .int, 2), (17, .putfield 15, 3), (20, .aload_n 0, 1), (21, .bipush 8, 2), (23, .newarray .int, 2), (25, .putfield 18, 3), (28, .return_, 1)]
set_option maxRecDepth 100000 in
theorem dk_X3_init : dec_ok cX3_init tb_X3_init = true := by decide +kernel
theorem bw_m_X3_3 : Cond.methodLink RX3 3 Lib.objectInit ∈ lw_good := mem_good 247 (by decide +kernel)
theorem bw_f_X3_9 : Cond.fieldLink RX3 9 (TX3 0).1 (TX3 0).2.1 (TX3 0).2.2.1 ∈ lw_good := mem_good 248 (by decide +kernel)
theorem bw_f_X3_15 : Cond.fieldLink RX3 15 (TX3 1).1 (TX3 1).2.1 (TX3 1).2.2.1 ∈ lw_good := mem_good 249 (by decide +kernel)
theorem bw_f_X3_18 : Cond.fieldLink RX3 18 (TX3 2).1 (TX3 2).2.1 (TX3 2).2.2.1 ∈ lw_good := mem_good 250 (by decide +kernel)
def tb_X5_init : List (Nat × Instr × Nat) := [(0, .aload_n 0, 1), (1, .invokespecial 3, 3), (4, .aload_n 0, 1), (5, .bipush 60, 2), (7, .newarray .int, 2), (9, .putfield 9, 3), (12, .return_, 1)]
set_option maxRecDepth 100000 in
theorem dk_X5_init : dec_ok cX5_init tb_X5_init = true := by decide +kernel
theorem bw_m_X5_3 : Cond.methodLink RX5 3 Lib.objectInit ∈ lw_good := mem_good 117 (by decide +kernel)
theorem bw_f_X5_9 : Cond.fieldLink RX5 9 (TX5 0).1 (TX5 0).2.1 (TX5 0).2.2.1 ∈ lw_good := mem_good 118 (by decide +kernel)
def tb_X6_init : List (Nat × Instr × Nat) := [(0, .aload_n 0, 1), (1, .invokespecial 3, 3), (4, .aload_n 0, 1), (5, .bipush 41, 2), (7, .newarray .int, 2), (9, .putfield 9, 3), (12, .aload_n 0, 1), (13, .getfield 9, 3), (16, .iconst (-1), 1), (17, .invokestatic 15, 3), (20, .aload_n 0, 1), (21, .iconst (-1), 1), (22, .putfield 21, 3), (25, .return_, 1)]
set_option maxRecDepth 100000 in
theorem dk_X6_init : dec_ok cX6_init tb_X6_init = true := by decide +kernel
theorem bw_m_X6_3 : Cond.methodLink RX6 3 Lib.objectInit ∈ lw_good := mem_good 179 (by decide +kernel)
theorem bw_f_X6_9 : Cond.fieldLink RX6 9 (TX6 0).1 (TX6 0).2.1 (TX6 0).2.2.1 ∈ lw_good := mem_good 183 (by decide +kernel)
theorem bw_f_X6_21 : Cond.fieldLink RX6 21 (TX6 2).1 (TX6 2).2.1 (TX6 2).2.2.1 ∈ lw_good := mem_good 186 (by decide +kernel)
def tb_X7_init : List (Nat × Instr × Nat) := [(0, .aload_n 0, 1), (1, .invokespecial 3, 3), (4, .return_, 1)]
set_option maxRecDepth 100000 in
theorem dk_X7_init : dec_ok cX7_init tb_X7_init = true := by decide +kernel
theorem bw_m_X7_3 : Cond.methodLink RX7 3 Lib.objectInit ∈ lw_good := mem_good 152 (by decide +kernel)
def tb_X8_init : List (Nat × Instr × Nat) := [(0, .aload_n 0, 1), (1, .invokespecial 3, 3), (4, .aload_n 0, 1), (5, .bipush 8, 2), (7, .newarray .int, 2), (9, .putfield 9, 3), (12, .aload_n 0, 1), (13, .bipush 8, 2), (15, .newarray .int, 2), (17, .putfield 15, 3), (20, .aload_n 0, 1), (21, .bipush 8, 2), (23, .newarray .int, 2), (25, .putfield 18, 3), (28, .aload_n 0, 1), (29, .bipush 8, 2), (31, .newarray .int, 2), (33, .putfield 21, 3), (36, .aload_n 0, 1), (37, .bipush 8, 2), (39, .newarray .int, 2), (41, .putfield 24, 3), (44, .aload_n 0, 1), (45, .bipush 8, 2), (47, .newarray .int, 2), (49, .putfield 27, 3), (52, .aload_n 0, 1), (53, .bipush 9, 2), (55, .putfield 30, 3), (58, .return_, 1)]
set_option maxRecDepth 100000 in
theorem dk_X8_init : dec_ok cX8_init tb_X8_init = true := by decide +kernel
theorem bw_m_X8_3 : Cond.methodLink RX8 3 Lib.objectInit ∈ lw_good := mem_good 74 (by decide +kernel)
theorem bw_f_X8_9 : Cond.fieldLink RX8 9 (TX8 0).1 (TX8 0).2.1 (TX8 0).2.2.1 ∈ lw_good := mem_good 75 (by decide +kernel)
theorem bw_f_X8_15 : Cond.fieldLink RX8 15 (TX8 1).1 (TX8 1).2.1 (TX8 1).2.2.1 ∈ lw_good := mem_good 77 (by decide +kernel)
theorem bw_f_X8_18 : Cond.fieldLink RX8 18 (TX8 2).1 (TX8 2).2.1 (TX8 2).2.2.1 ∈ lw_good := mem_good 79 (by decide +kernel)
theorem bw_f_X8_21 : Cond.fieldLink RX8 21 (TX8 3).1 (TX8 3).2.1 (TX8 3).2.2.1 ∈ lw_good := mem_good 81 (by decide +kernel)
theorem bw_f_X8_24 : Cond.fieldLink RX8 24 (TX8 4).1 (TX8 4).2.1 (TX8 4).2.2.1 ∈ lw_good := mem_good 83 (by decide +kernel)
theorem bw_f_X8_27 : Cond.fieldLink RX8 27 (TX8 5).1 (TX8 5).2.1 (TX8 5).2.2.1 ∈ lw_good := mem_good 85 (by decide +kernel)
theorem bw_f_X8_30 : Cond.fieldLink RX8 30 (TX8 6).1 (TX8 6).2.1 (TX8 6).2.2.1 ∈ lw_good := mem_good 86 (by decide +kernel)
def tb_X10_init : List (Nat × Instr × Nat) := [(0, .aload_n 0, 1), (1, .invokespecial 1, 3), (4, .aload_n 0, 1), (5, .bipush 8, 2), (7, .newarray .int, 2), (9, .putfield 7, 3), (12, .aload_n 0, 1), (13, .bipush 8, 2), (15, .newarray .int, 2), (17, .putfield 13, 3), (20, .aload_n 0, 1), (21, .bipush 8, 2), (23, .newarray .int, 2), (25, .putfield 16, 3), (28, .aload_n 0, 1), (29, .bipush 8, 2), (31, .newarray .int, 2), (33, .putfield 19, 3), (36, .aload_n 0, 1), (37, .bipush 8, 2), (39, .newarray .int, 2), (41, .putfield 22, 3), (44, .aload_n 0, 1), (45, .bipush 8, 2), (47, .newarray .int, 2), (49, .putfield 25, 3), (52, .aload_n 0, 1), (53, .bipush 8, 2), (55, .newarray .int, 2), (57, .putfield 28, 3), (60, .aload_n 0, 1), (61, .bipush 60, 2), (63, .newarray .int, 2), (65, .putfield 31, 3), (68, .aload_n 0, 1), (69, .bipush 60, 2), (71, .newarray .int, 2), (73, .putfield 34, 3), (76, .aload_n 0, 1), (77, .bipush 60, 2), (79, .newarray .int, 2), (81, .putfield 37, 3), (84, .aload_n 0, 1), (85, .bipush 60, 2), (87, .newarray .int, 2), (89, .putfield 40, 3), (92, .aload_n 0, 1), (93, .bipush 8, 2), (95, .newarray .int, 2), (97, .putfield 43, 3), (100, .aload_n 0, 1), (101, .bipush 43, 2), (103, .newarray .int, 2), (105, .putfield 46, 3), (108, .aload_n 0, 1), (109, .bipush 9, 2), (111, .newarray .int, 2), (113, .putfield 49, 3), (116, .aload_n 0, 1), (117, .bipush 9, 2), (119, .newarray .int, 2), (121, .putfield 52, 3), (124, .aload_n 0, 1), (125, .bipush 100, 2), (127, .newarray .int, 2), (129, .putfield 55, 3), (132, .aload_n 0, 1), (133, .bipush 100, 2), (135, .newarray .int, 2), (137, .putfield 58, 3), (140, .aload_n 0, 1), (141, .bipush 64, 2), (143, .newarray .int, 2), (145, .putfield 61, 3), (148, .aload_n 0, 1), (149, .bipush 64, 2), (151, .newarray .int, 2), (153, .putfield 64, 3), (156, .aload_n 0, 1), (157, .sipush 140, 3), (160, .newarray .int, 2), (162, .putfield 67, 3), (165, .aload_n 0, 1), (166, .iconst 2, 1), (167, .newarray .boolean, 2), (169, .putfield 70, 3), (172, .aload_n 0, 1), (173, .bipush 9, 2), (175, .putfield 74, 3), (178, .return_, 1)]
set_option maxRecDepth 100000 in
theorem dk_X10_init : dec_ok cX10_init tb_X10_init = true := by decide +kernel
theorem bw_m_X10_1 : Cond.methodLink RX10 1 Lib.objectInit ∈ lw_good := mem_good 647 (by decide +kernel)
theorem bw_f_X10_7 : Cond.fieldLink RX10 7 (TX10 0).1 (TX10 0).2.1 (TX10 0).2.2.1 ∈ lw_good := mem_good 648 (by decide +kernel)
theorem bw_f_X10_13 : Cond.fieldLink RX10 13 (TX10 1).1 (TX10 1).2.1 (TX10 1).2.2.1 ∈ lw_good := mem_good 649 (by decide +kernel)
theorem bw_f_X10_16 : Cond.fieldLink RX10 16 (TX10 2).1 (TX10 2).2.1 (TX10 2).2.2.1 ∈ lw_good := mem_good 650 (by decide +kernel)
theorem bw_f_X10_19 : Cond.fieldLink RX10 19 (TX10 3).1 (TX10 3).2.1 (TX10 3).2.2.1 ∈ lw_good := mem_good 651 (by decide +kernel)
theorem bw_f_X10_22 : Cond.fieldLink RX10 22 (TX10 4).1 (TX10 4).2.1 (TX10 4).2.2.1 ∈ lw_good := mem_good 652 (by decide +kernel)
theorem bw_f_X10_25 : Cond.fieldLink RX10 25 (TX10 8).1 (TX10 8).2.1 (TX10 8).2.2.1 ∈ lw_good := mem_good 656 (by decide +kernel)
theorem bw_f_X10_28 : Cond.fieldLink RX10 28 (TX10 9).1 (TX10 9).2.1 (TX10 9).2.2.1 ∈ lw_good := mem_good 657 (by decide +kernel)
theorem bw_f_X10_31 : Cond.fieldLink RX10 31 (TX10 11).1 (TX10 11).2.1 (TX10 11).2.2.1 ∈ lw_good := mem_good 659 (by decide +kernel)
theorem bw_f_X10_34 : Cond.fieldLink RX10 34 (TX10 13).1 (TX10 13).2.1 (TX10 13).2.2.1 ∈ lw_good := mem_good 661 (by decide +kernel)
theorem bw_f_X10_37 : Cond.fieldLink RX10 37 (TX10 14).1 (TX10 14).2.1 (TX10 14).2.2.1 ∈ lw_good := mem_good 662 (by decide +kernel)
theorem bw_f_X10_40 : Cond.fieldLink RX10 40 (TX10 15).1 (TX10 15).2.1 (TX10 15).2.2.1 ∈ lw_good := mem_good 663 (by decide +kernel)
theorem bw_f_X10_43 : Cond.fieldLink RX10 43 (TX10 18).1 (TX10 18).2.1 (TX10 18).2.2.1 ∈ lw_good := mem_good 666 (by decide +kernel)
theorem bw_f_X10_46 : Cond.fieldLink RX10 46 (TX10 19).1 (TX10 19).2.1 (TX10 19).2.2.1 ∈ lw_good := mem_good 667 (by decide +kernel)
theorem bw_f_X10_49 : Cond.fieldLink RX10 49 (TX10 24).1 (TX10 24).2.1 (TX10 24).2.2.1 ∈ lw_good := mem_good 672 (by decide +kernel)
theorem bw_f_X10_52 : Cond.fieldLink RX10 52 (TX10 25).1 (TX10 25).2.1 (TX10 25).2.2.1 ∈ lw_good := mem_good 673 (by decide +kernel)
theorem bw_f_X10_55 : Cond.fieldLink RX10 55 (TX10 26).1 (TX10 26).2.1 (TX10 26).2.2.1 ∈ lw_good := mem_good 674 (by decide +kernel)
theorem bw_f_X10_58 : Cond.fieldLink RX10 58 (TX10 27).1 (TX10 27).2.1 (TX10 27).2.2.1 ∈ lw_good := mem_good 675 (by decide +kernel)
theorem bw_f_X10_61 : Cond.fieldLink RX10 61 (TX10 28).1 (TX10 28).2.1 (TX10 28).2.2.1 ∈ lw_good := mem_good 676 (by decide +kernel)
theorem bw_f_X10_64 : Cond.fieldLink RX10 64 (TX10 29).1 (TX10 29).2.1 (TX10 29).2.2.1 ∈ lw_good := mem_good 677 (by decide +kernel)
theorem bw_f_X10_67 : Cond.fieldLink RX10 67 (TX10 30).1 (TX10 30).2.1 (TX10 30).2.2.1 ∈ lw_good := mem_good 678 (by decide +kernel)
theorem bw_f_X10_70 : Cond.fieldLink RX10 70 (TX10 31).1 (TX10 31).2.1 (TX10 31).2.2.1 ∈ lw_good := mem_good 679 (by decide +kernel)
theorem bw_f_X10_74 : Cond.fieldLink RX10 74 (TX10 5).1 (TX10 5).2.1 (TX10 5).2.2.1 ∈ lw_good := mem_good 653 (by decide +kernel)
def tb_X4_init : List (Nat × Instr × Nat) := [(0, .aload_n 0, 1), (1, .invokespecial 1, 3), (4, .aload_n 0, 1), (5, .new 7, 3), (8, .dup, 1), (9, .invokespecial 9, 3), (12, .putfield 10, 3), (15, .aload_n 0, 1), (16, .new 16, 3), (19, .dup, 1), (20, .invokespecial 18, 3), (23, .putfield 19, 3), (26, .return_, 1)]
set_option maxRecDepth 100000 in
theorem dk_X4_init : dec_ok cX4_init tb_X4_init = true := by decide +kernel
theorem bw_m_X4_1 : Cond.methodLink RX4 1 Lib.objectInit ∈ lw_good := mem_good 272 (by decide +kernel)
theorem bw_c_X4_7 : Cond.classLink RX4 7 RX8 ∈ lw_good := mem_good 273 (by decide +kernel)
theorem bw_n_X4_9 : Cond.methodLinkNest RX4 9 yX8_init "DoubtCatcher" ∈ lw_nest := mem_nest 274 (by decide +kernel)
theorem bw_f_X4_10 : Cond.fieldLink RX4 10 (TX4 0).1 (TX4 0).2.1 (TX4 0).2.2.1 ∈ lw_good := mem_good 277 (by decide +kernel)
theorem bw_c_X4_16 : Cond.classLink RX4 16 RX6 ∈ lw_good := mem_good 275 (by decide +kernel)
theorem bw_n_X4_18 : Cond.methodLink RX4 18 yX6_init ∈ lw_good := mem_good 276 (by decide +kernel)
theorem bw_f_X4_19 : Cond.fieldLink RX4 19 (TX4 1).1 (TX4 1).2.1 (TX4 1).2.2.1 ∈ lw_good := mem_good 279 (by decide +kernel)
def tb_X9_init : List (Nat × Instr × Nat) := [(0, .aload_n 0, 1), (1, .invokespecial 1, 3), (4, .aload_n 0, 1), (5, .new 7, 3), (8, .dup, 1), (9, .invokespecial 9, 3), (12, .putfield 10, 3), (15, .aload_n 0, 1), (16, .new 7, 3), (19, .dup, 1), (20, .invokespecial 9, 3), (23, .putfield 16, 3), (26, .aload_n 0, 1), (27, .new 19, 3), (30, .dup, 1), (31, .invokespecial 21, 3), (34, .putfield 22, 3), (37, .aload_n 0, 1), (38, .new 26, 3), (41, .dup, 1), (42, .invokespecial 28, 3), (45, .putfield 29, 3), (48, .aload_n 0, 1), (49, .new 33, 3), (52, .dup, 1), (53, .invokespecial 35, 3), (56, .putfield 36, 3), (59, .aload_n 0, 1), (60, .new 40, 3), (63, .dup, 1), (64, .invokespecial 42, 3), (67, .putfield 43, 3), (70, .aload_n 0, 1), (71, .new 47, 3), (74, .dup, 1), (75, .invokespecial 49, 3), (78, .putfield 50, 3), (81, .aload_n 0, 1), (82, .new 54, 3), (85, .dup, 1), (86, .invokespecial 56, 3), (89, .putfield 57, 3), (92, .aload_n 0, 1), (93, .new 61, 3), (96, .dup, 1), (97, .invokespecial 63, 3), (100, .putfield 64, 3), (103, .aload_n 0, 1), (104, .iconst 2, 1), (105, .anewarray 68, 3), (108, .putfield 70, 3), (111, .iconst 0, 1), (112, .istore_n 1, 1), (113, .iload_n 1, 1), (114, .iconst 2, 1), (115, .if_icmp .ge 22, 3), (118, .aload_n 0, 1), (119, .getfield 70, 3), (122, .iload_n 1, 1), (123, .new 68, 3), (126, .dup, 1), (127, .invokespecial 74, 3), (130, .aastore, 1), (131, .iinc 1 1, 3), (134, .goto (-21), 3), (137, .return_, 1)]
set_option maxRecDepth 100000 in
theorem dk_X9_init : dec_ok cX9_init tb_X9_init = true := by decide +kernel
theorem bw_m_X9_1 : Cond.methodLink RX9 1 Lib.objectInit ∈ lw_good := mem_good 66 (by decide +kernel)
theorem bw_c_X9_7 : Cond.classLink RX9 7 RX8 ∈ lw_good := mem_good 69 (by decide +kernel)
theorem bw_n_X9_9 : Cond.methodLinkNest RX9 9 yX8_init "DoubtCatcher" ∈ lw_nest := mem_nest 71 (by decide +kernel)
theorem bw_f_X9_10 : Cond.fieldLink RX9 10 (TX9 0).1 (TX9 0).2.1 (TX9 0).2.2.1 ∈ lw_good := mem_good 289 (by decide +kernel)
theorem bw_f_X9_16 : Cond.fieldLink RX9 16 (TX9 1).1 (TX9 1).2.1 (TX9 1).2.2.1 ∈ lw_good := mem_good 290 (by decide +kernel)
theorem bw_c_X9_19 : Cond.classLink RX9 19 RX5 ∈ lw_good := mem_good 112 (by decide +kernel)
theorem bw_n_X9_21 : Cond.methodLinkNest RX9 21 yX5_init "DoubtCatcher" ∈ lw_nest := mem_nest 114 (by decide +kernel)
theorem bw_f_X9_22 : Cond.fieldLink RX9 22 (TX9 2).1 (TX9 2).2.1 (TX9 2).2.2.1 ∈ lw_good := mem_good 291 (by decide +kernel)
theorem bw_c_X9_26 : Cond.classLink RX9 26 RX0 ∈ lw_good := mem_good 127 (by decide +kernel)
theorem bw_n_X9_28 : Cond.methodLinkNest RX9 28 yX0_init "DoubtCatcher" ∈ lw_nest := mem_nest 129 (by decide +kernel)
theorem bw_f_X9_29 : Cond.fieldLink RX9 29 (TX9 3).1 (TX9 3).2.1 (TX9 3).2.2.1 ∈ lw_good := mem_good 292 (by decide +kernel)
theorem bw_c_X9_33 : Cond.classLink RX9 33 RX7 ∈ lw_good := mem_good 147 (by decide +kernel)
theorem bw_n_X9_35 : Cond.methodLinkNest RX9 35 yX7_init "DoubtCatcher" ∈ lw_nest := mem_nest 149 (by decide +kernel)
theorem bw_f_X9_36 : Cond.fieldLink RX9 36 (TX9 4).1 (TX9 4).2.1 (TX9 4).2.2.1 ∈ lw_good := mem_good 293 (by decide +kernel)
theorem bw_c_X9_40 : Cond.classLink RX9 40 RX6 ∈ lw_good := mem_good 174 (by decide +kernel)
theorem bw_n_X9_42 : Cond.methodLink RX9 42 yX6_init ∈ lw_good := mem_good 176 (by decide +kernel)
theorem bw_f_X9_43 : Cond.fieldLink RX9 43 (TX9 5).1 (TX9 5).2.1 (TX9 5).2.2.1 ∈ lw_good := mem_good 294 (by decide +kernel)
theorem bw_c_X9_47 : Cond.classLink RX9 47 RX1 ∈ lw_good := mem_good 194 (by decide +kernel)
theorem bw_n_X9_49 : Cond.methodLinkNest RX9 49 yX1_init "DoubtCatcher" ∈ lw_nest := mem_nest 196 (by decide +kernel)
theorem bw_f_X9_50 : Cond.fieldLink RX9 50 (TX9 6).1 (TX9 6).2.1 (TX9 6).2.2.1 ∈ lw_good := mem_good 295 (by decide +kernel)
theorem bw_c_X9_54 : Cond.classLink RX9 54 RX2 ∈ lw_good := mem_good 221 (by decide +kernel)
theorem bw_n_X9_56 : Cond.methodLinkNest RX9 56 yX2_init "DoubtCatcher" ∈ lw_nest := mem_nest 223 (by decide +kernel)
theorem bw_f_X9_57 : Cond.fieldLink RX9 57 (TX9 7).1 (TX9 7).2.1 (TX9 7).2.2.1 ∈ lw_good := mem_good 296 (by decide +kernel)
theorem bw_c_X9_61 : Cond.classLink RX9 61 RX3 ∈ lw_good := mem_good 242 (by decide +kernel)
theorem bw_n_X9_63 : Cond.methodLinkNest RX9 63 yX3_init "DoubtCatcher" ∈ lw_nest := mem_nest 244 (by decide +kernel)
theorem bw_f_X9_64 : Cond.fieldLink RX9 64 (TX9 8).1 (TX9 8).2.1 (TX9 8).2.2.1 ∈ lw_good := mem_good 297 (by decide +kernel)
theorem bw_c_X9_68 : Cond.classLink RX9 68 RX4 ∈ lw_good := mem_good 266 (by decide +kernel)
theorem bw_f_X9_70 : Cond.fieldLink RX9 70 (TX9 9).1 (TX9 9).2.1 (TX9 9).2.2.1 ∈ lw_good := mem_good 298 (by decide +kernel)
theorem bw_n_X9_74 : Cond.methodLinkNest RX9 74 yX4_init "DoubtCatcher" ∈ lw_nest := mem_nest 269 (by decide +kernel)
theorem bw_c_L_7 : Cond.classLink RL 7 RX9 ∈ lw_good := mem_good 61 (by decide +kernel)
theorem bw_c_L_10 : Cond.classLink RL 10 RX10 ∈ lw_good := mem_good 642 (by decide +kernel)
theorem bw_n_L_9 : Cond.methodLink RL 9 yX9_init ∈ lw_good := mem_good 63 (by decide +kernel)
theorem bw_n_L_12 : Cond.methodLink RL 12 yX10_init ∈ lw_good := mem_good 644 (by decide +kernel)
