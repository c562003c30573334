set_option maxRecDepth 20000 in
theorem ggX9_init_X5_init : GoodIn wsX9_init wsX5_init := goodIn_r _ [54, 55, 2, 3, 56, 57, 151, 152] rfl (by decide +kernel)
set_option maxRecDepth 20000 in
theorem gX9_init_X5_init : GoodIn wsX9_init (wsX5_init) := ggX9_init_X5_init
set_option maxRecDepth 20000 in
theorem ggX9_init_X1_init : GoodIn wsX9_init wsX1_init := goodIn_r _ [59, 60, 2, 3, 8, 61, 62, 63, 64, 65, 66, 67, 68, 153, 154, 155, 156, 157, 158, 159, 160] rfl (by decide +kernel)
set_option maxRecDepth 20000 in
theorem gX9_init_X1_init_n37 : GoodIn wsX9_init (wsX1_init) := ggX9_init_X1_init
set_option maxRecDepth 20000 in
theorem ggX9_init_X7_init : GoodIn wsX9_init wsX7_init := goodIn_r _ [70, 71, 2, 3, 8, 72, 73, 4, 74, 75, 76, 161, 162, 163, 164, 165] rfl (by decide +kernel)
set_option maxRecDepth 20000 in
theorem gX9_init_X7_init_n44 : GoodIn wsX9_init (wsX7_init) := ggX9_init_X7_init
set_option maxRecDepth 20000 in
theorem ggX9_init_X0_init : GoodIn wsX9_init wsX0_init := goodIn_r _ [78, 79, 2, 3, 8, 80, 81, 166, 167] rfl (by decide +kernel)
set_option maxRecDepth 20000 in
theorem gX9_init_X0_init_n54 : GoodIn wsX9_init (wsX0_init) := ggX9_init_X0_init
set_option maxRecDepth 20000 in
theorem ggX9_init_X4_init : GoodIn wsX9_init wsX4_init := goodIn_r _ [84, 85, 2, 3, 4, 86, 87, 88, 168, 169, 170] rfl (by decide +kernel)
set_option maxRecDepth 20000 in
theorem gX9_init_X4_init : GoodIn wsX9_init (wsX4_init) := ggX9_init_X4_init
set_option maxRecDepth 20000 in
theorem ggX9_init_X2_init : GoodIn wsX9_init wsX2_init := goodIn_r _ [91, 92, 2, 3, 4, 93, 94, 95, 96, 97, 98, 99, 171, 172, 173, 174, 175, 176, 177] rfl (by decide +kernel)
set_option maxRecDepth 20000 in
theorem gX9_init_X2_init : GoodIn wsX9_init (wsX2_init) := ggX9_init_X2_init
set_option maxRecDepth 20000 in
theorem ggX9_init_X3_init : GoodIn wsX9_init wsX3_init := goodIn_r _ [102, 103, 2, 3, 4, 104, 105, 106, 107, 108, 109, 178, 179, 180, 181, 182, 183] rfl (by decide +kernel)
set_option maxRecDepth 20000 in
theorem gX9_init_X3_init : GoodIn wsX9_init (wsX3_init) := ggX9_init_X3_init
set_option maxRecDepth 20000 in
theorem ggX9_init_X6_init : GoodIn wsX9_init wsX6_init := goodIn_r _ [112, 113, 2, 3, 4, 114, 115, 116, 117, 118, 119, 120, 37, 38, 121, 122, 101, 102, 103, 104, 105, 106, 107, 108, 109, 184, 185, 186, 187, 188, 189, 190, 178, 179, 180, 181, 182, 183] rfl (by decide +kernel)
set_option maxRecDepth 20000 in
theorem gX9_init_X6_init : GoodIn wsX9_init (wsX6_init) := ggX9_init_X6_init
set_option maxRecDepth 20000 in
theorem ggX9_init_X8_init : GoodIn wsX9_init wsX8_init := goodIn_r _ [124, 125, 2, 3, 4, 126, 127, 128, 129, 130, 131, 191, 192, 193, 194, 195, 196] rfl (by decide +kernel)
set_option maxRecDepth 20000 in
theorem gX9_init_X8_init_n115 : GoodIn wsX9_init (wsX8_init) := ggX9_init_X8_init
def zT_X9_init_0 : List (Nat × Instr × Nat) := [(0, .aload_n 0, 1), (1, .invokespecial 1, 3), (4, .aload_n 0, 1), (5, .sipush 512, 3), (8, .newarray .byte, 2), (10, .putfield 9, 3), (13, .aload_n 0, 1), (14, .bipush 16, 2), (16, .anewarray 13, 3), (19, .putfield 15, 3), (22, .aload_n 0, 1), (23, .iconst 3, 1), (24, .newarray .int, 2), (26, .putfield 19, 3), (29, .aload_n 0, 1), (30, .new 23, 3), (33, .dup, 1), (34, .sipush 1111, 3), (37, .invokespecial 25, 3), (40, .putfield 28, 3), (43, .aload_n 0, 1), (44, .new 23, 3), (47, .dup, 1), (48, .sipush 2222, 3), (51, .invokespecial 25, 3), (54, .putfield 32, 3), (57, .aload_n 0, 1), (58, .new 35, 3), (61, .dup, 1), (62, .invokespecial 37, 3), (65, .putfield 38, 3), (68, .aload_n 0, 1), (69, .new 42, 3), (72, .dup, 1), (73, .invokespecial 44, 3), (76, .putfield 45, 3), (79, .aload_n 0, 1), (80, .new 42, 3), (83, .dup, 1), (84, .invokespecial 44, 3), (87, .putfield 49, 3), (90, .aload_n 0, 1), (91, .new 52, 3), (94, .dup, 1), (95, .invokespecial 54, 3), (98, .putfield 55, 3), (101, .aload_n 0, 1), (102, .new 59, 3), (105, .dup, 1), (106, .aload_n 0, 1), (107, .getfield 55, 3), (110, .invokespecial 61, 3), (113, .putfield 64, 3), (116, .aload_n 0, 1), (117, .new 68, 3), (120, .dup, 1), (121, .aload_n 0, 1), (122, .getfield 55, 3), (125, .aload_n 0, 1), (126, .getfield 64, 3), (129, .invokespecial 70, 3), (132, .putfield 73, 3), (135, .aload_n 0, 1), (136, .new 77, 3)]
theorem zt_X9_init_0 : zdt cX9_init zT_X9_init_0 = true := by decide +kernel
def zT_X9_init_1 : List (Nat × Instr × Nat) := [(139, .dup, 1), (140, .aload_n 0, 1), (141, .getfield 45, 3), (144, .invokespecial 79, 3), (147, .putfield 82, 3), (150, .aload_n 0, 1), (151, .new 86, 3), (154, .dup, 1), (155, .aload_n 0, 1), (156, .getfield 55, 3), (159, .aload_n 0, 1), (160, .getfield 64, 3), (163, .aload_n 0, 1), (164, .getfield 73, 3), (167, .aload_n 0, 1), (168, .getfield 45, 3), (171, .invokespecial 88, 3), (174, .putfield 91, 3), (177, .aload_n 0, 1), (178, .bipush 68, 2), (180, .newarray .byte, 2), (182, .putfield 95, 3), (185, .aload_n 0, 1), (186, .bipush 80, 2), (188, .newarray .byte, 2), (190, .putfield 98, 3), (193, .aload_n 0, 1), (194, .iconst 0, 1), (195, .putfield 101, 3), (198, .aload_n 0, 1), (199, .iconst 0, 1), (200, .putfield 105, 3), (203, .aload_n 0, 1), (204, .iconst 0, 1), (205, .putfield 108, 3), (208, .aload_n 0, 1), (209, .iconst 0, 1), (210, .putfield 111, 3), (213, .iconst 0, 1), (214, .istore_n 1, 1), (215, .iload_n 1, 1), (216, .bipush 16, 2), (218, .if_icmp .ge 22, 3), (221, .aload_n 0, 1), (222, .getfield 15, 3), (225, .iload_n 1, 1), (226, .new 13, 3), (229, .dup, 1), (230, .invokespecial 115, 3), (233, .aastore, 1), (234, .iinc 1 1, 3), (237, .goto (-22), 3), (240, .return_, 1)]
theorem zt_X9_init_1 : zdt cX9_init zT_X9_init_1 = true := by decide +kernel
set_option maxRecDepth 20000 in
theorem ggX9_power_X1_forgetAll : GoodIn wsX9_power wsX1_forgetAll := goodIn_r _ [12, 13, 14, 15, 16, 17, 18, 19, 11, 20, 21, 22, 23, 24, 25, 26, 58, 59, 60, 61, 62, 63, 64, 65] rfl (by decide +kernel)
set_option maxRecDepth 20000 in
theorem gX9_power_X1_forgetAll : GoodIn wsX9_power (wsV RX9 116 RX1 yX1_forgetAll wsX1_forgetAll) := goodIn_app (goodIn_of _ (by decide +kernel)) ggX9_power_X1_forgetAll
set_option maxRecDepth 20000 in
theorem ggX9_power_X3_forget : GoodIn wsX9_power wsX3_forget := goodIn_r _ [31, 32, 33, 34, 35, 36, 25, 37, 66, 67, 68, 69, 70, 71] rfl (by decide +kernel)
set_option maxRecDepth 20000 in
theorem gX9_power_X3_forget : GoodIn wsX9_power (wsV RX9 119 RX3 yX3_forget wsX3_forget) := goodIn_app (goodIn_of _ (by decide +kernel)) ggX9_power_X3_forget
set_option maxRecDepth 20000 in
theorem ggX9_power_J7_fill_031fb : GoodIn wsX9_power wsJ7_fill_031fb := goodIn_r _ [37] rfl (by decide +kernel)
set_option maxRecDepth 20000 in
theorem gX9_power_J7_fill_031fb : GoodIn wsX9_power (va_wsS RX9 122 yJ7_fill_031fb wsJ7_fill_031fb) := goodIn_app (goodIn_of _ (by decide +kernel)) ggX9_power_J7_fill_031fb
def zT_X9_power_0 : List (Nat × Instr × Nat) := [(0, .aload_n 0, 1), (1, .getfield 38, 3), (4, .invokevirtual 116, 3), (7, .aload_n 0, 1), (8, .getfield 82, 3), (11, .invokevirtual 119, 3), (14, .aload_n 0, 1), (15, .iconst 0, 1), (16, .putfield 111, 3), (19, .aload_n 0, 1), (20, .iconst 0, 1), (21, .putfield 101, 3), (24, .iload_n 1, 1), (25, .ifCond .eq 26, 3), (28, .aload_n 0, 1), (29, .getfield 9, 3), (32, .iconst 0, 1), (33, .invokestatic 122, 3), (36, .aload_n 0, 1), (37, .iconst 0, 1), (38, .putfield 105, 3), (41, .aload_n 0, 1), (42, .iconst 0, 1), (43, .putfield 108, 3), (46, .aload_n 0, 1), (47, .iconst 1, 1), (48, .putfield 101, 3), (51, .aload_n 0, 1), (52, .getfield 101, 3), (55, .ireturn, 1)]
theorem zt_X9_power_0 : zdt cX9_power zT_X9_power_0 = true := by decide +kernel
set_option maxRecDepth 20000 in
theorem ggX9_selfTestStep_X6_comesRight : GoodIn wsX9_selfTestStep wsX6_comesRight := goodIn_r _ [9, 10, 11, 12, 13, 14, 15, 16, 17, 18, 8, 19, 20, 21, 22, 23, 24, 25, 26, 27, 28, 29, 30, 31, 32, 33, 34, 35, 36, 37, 38, 39, 40, 41, 42, 43, 44, 45, 46, 47, 48, 49, 50, 51, 52, 53, 54, 55, 56, 57, 58, 59, 60, 61, 62, 63, 64, 65, 66, 67, 68, 69, 70, 71, 72, 73, 74, 75, 76, 77, 78, 79, 80, 81, 82, 83, 84, 85, 86, 87, 88, 89, 90, 91, 92, 93, 94, 95, 96, 97, 98, 99, 100, 101, 102, 103, 104, 105, 106, 107, 108, 109, 110, 111, 112, 113, 114, 115, 116, 117, 118, 119, 120, 121, 122, 123, 124, 125, 126, 127, 128, 129, 130, 131, 132, 133, 134, 135, 136, 137, 138, 139, 140, 141, 142, 143, 144, 145, 146, 147, 148, 149, 150, 151, 152, 153, 154, 155, 156, 157, 158, 159, 160, 161, 162, 163, 164, 165, 166, 167, 168, 169, 170, 171, 172, 173, 174, 175, 176, 177, 178, 179, 180, 181, 182, 183, 184, 185, 186, 187, 188, 189, 190, 191, 192, 193, 194, 195, 196, 197, 198, 199, 200, 201, 202, 203, 204, 205, 206, 207, 208, 209, 210, 211, 212, 213, 214, 215, 216, 217, 218, 219, 220, 221, 222, 223, 224, 225, 226, 227, 228, 229, 230, 231, 232, 233, 234, 235, 236, 237, 238, 239, 240, 241, 242, 243, 244, 245, 246, 247, 248, 249, 250, 251, 252, 253, 254, 255, 256, 257, 258, 259, 260, 261, 262, 263, 264, 265, 266, 267, 268, 269, 270, 271, 272, 273, 274, 275, 276, 277, 278, 279, 280, 281, 282, 283, 284, 285, 286, 287, 288, 289, 314, 315, 316, 317, 318, 319, 320, 321, 322, 323, 324, 325, 326, 327, 328, 329, 330, 331, 332, 333, 334, 335, 336, 337, 338, 339, 340, 341, 342, 343, 344, 345, 346, 347] rfl (by decide +kernel)
set_option maxRecDepth 20000 in
theorem gX9_selfTestStep_X6_comesRight : GoodIn wsX9_selfTestStep (wsV RX9 128 RX6 yX6_comesRight wsX6_comesRight) := goodIn_app (goodIn_of _ (by decide +kernel)) ggX9_selfTestStep_X6_comesRight
set_option maxRecDepth 20000 in
theorem ggX9_selfTestStep_X9_takeTestResult : GoodIn wsX9_selfTestStep wsX9_takeTestResult := goodIn_r _ [293, 294, 1, 3, 295, 296, 297, 298, 299, 300, 301, 302, 303, 304, 305, 306, 307, 308, 309, 310, 311, 312, 313] rfl (by decide +kernel)
set_option maxRecDepth 20000 in
theorem gX9_selfTestStep_X9_takeTestResult : GoodIn wsX9_selfTestStep (wsV RX9 132 RX9 yX9_takeTestResult wsX9_takeTestResult) := goodIn_app (goodIn_of _ (by decide +kernel)) ggX9_selfTestStep_X9_takeTestResult
def zT_X9_selfTestStep_0 : List (Nat × Instr × Nat) := [(0, .iload_n 1, 1), (1, .ifCond .lt 25, 3), (4, .iload_n 1, 1), (5, .bipush 10, 2), (7, .if_icmp .gt 19, 3), (10, .aload_n 0, 1), (11, .getfield 101, 3), (14, .iconst 1, 1), (15, .if_icmp .eq 14, 3), (18, .aload_n 0, 1), (19, .getfield 101, 3), (22, .iconst 5, 1), (23, .if_icmp .eq 6, 3), (26, .bipush (-2), 2), (28, .ireturn, 1), (29, .iconst 0, 1), (30, .istore_n 2, 1), (31, .iload_n 2, 1), (32, .iload_n 1, 1), (33, .if_icmp .ge 54, 3), (36, .aload_n 0, 1), (37, .getfield 101, 3), (40, .iconst 1, 1), (41, .if_icmp .ne 46, 3), (44, .aload_n 0, 1), (45, .getfield 108, 3), (48, .aload_n 0, 1), (49, .getfield 105, 3), (52, .ishr, 1), (53, .iconst 1, 1), (54, .iand, 1), (55, .iconst 1, 1), (56, .if_icmp .ne 7, 3), (59, .iconst 1, 1), (60, .goto 4, 3), (63, .iconst 0, 1), (64, .istore_n 3, 1), (65, .aload_n 0, 1), (66, .aload_n 0, 1), (67, .getfield 91, 3), (70, .aload_n 0, 1), (71, .getfield 105, 3), (74, .iload_n 3, 1), (75, .invokevirtual 128, 3), (78, .invokevirtual 132, 3), (81, .iinc 2 1, 3), (84, .goto (-53), 3), (87, .aload_n 0, 1), (88, .getfield 101, 3), (91, .iconst 5, 1), (92, .if_icmp .ne 7, 3), (95, .iconst (-1), 1), (96, .goto 10, 3), (99, .bipush 10, 2), (101, .aload_n 0, 1), (102, .getfield 105, 3), (105, .isub, 1), (106, .ireturn, 1)]
theorem zt_X9_selfTestStep_0 : zdt cX9_selfTestStep zT_X9_selfTestStep_0 = true := by decide +kernel
def zT_X9_takeTestResult_0 : List (Nat × Instr × Nat) := [(0, .iload_n 1, 1), (1, .ifCond .ne 19, 3), (4, .aload_n 0, 1), (5, .getfield 19, 3), (8, .iconst 2, 1), (9, .dup2, 1), (10, .iaload, 1), (11, .iconst 1, 1), (12, .iadd, 1), (13, .iastore, 1), (14, .aload_n 0, 1), (15, .iconst 5, 1), (16, .putfield 101, 3), (19, .return_, 1), (20, .aload_n 0, 1), (21, .dup, 1), (22, .getfield 105, 3), (25, .iconst 1, 1), (26, .iadd, 1), (27, .putfield 105, 3), (30, .aload_n 0, 1), (31, .getfield 105, 3), (34, .bipush 10, 2), (36, .if_icmp .ne 8, 3), (39, .aload_n 0, 1), (40, .iconst 2, 1), (41, .putfield 101, 3), (44, .return_, 1)]
theorem zt_X9_takeTestResult_0 : zdt cX9_takeTestResult zT_X9_takeTestResult_0 = true := by decide +kernel
def zT_X9_fault_0 : List (Nat × Instr × Nat) := [(0, .iload_n 1, 1), (1, .ifCond .lt 9, 3), (4, .iload_n 1, 1), (5, .bipush 10, 2), (7, .if_icmp .lt 13, 3), (10, .new 136, 3), (13, .dup, 1), (14, .ldc 138, 2), (16, .invokespecial 140, 3), (19, .athrow, 1), (20, .aload_n 0, 1), (21, .dup, 1), (22, .getfield 108, 3), (25, .iconst 1, 1), (26, .iload_n 1, 1), (27, .ishl, 1), (28, .ior, 1), (29, .putfield 108, 3), (32, .return_, 1)]
theorem zt_X9_fault_0 : zdt cX9_fault zT_X9_fault_0 = true := by decide +kernel
set_option maxRecDepth 20000 in
theorem ggX9_poke_X9_inBuffer : GoodIn wsX9_poke wsX9_inBuffer := goodIn_r _ [10] rfl (by decide +kernel)
set_option maxRecDepth 20000 in
theorem gX9_poke_X9_inBuffer : GoodIn wsX9_poke (va_wsS RX9 148 yX9_inBuffer wsX9_inBuffer) := goodIn_app (goodIn_of _ (by decide +kernel)) ggX9_poke_X9_inBuffer
def zT_X9_poke_0 : List (Nat × Instr × Nat) := [(0, .aload_n 0, 1), (1, .getfield 101, 3), (4, .ifCond .ne 13, 3), (7, .new 143, 3), (10, .dup, 1), (11, .ldc 145, 2), (13, .invokespecial 147, 3), (16, .athrow, 1), (17, .iload 4, 2), (19, .iconst 1, 1), (20, .if_icmp .lt 19, 3), (23, .iload 4, 2), (25, .bipush 8, 2), (27, .if_icmp .gt 12, 3), (30, .iload_n 1, 1), (31, .iload 4, 2), (33, .invokestatic 148, 3), (36, .ifCond .ne 13, 3), (39, .new 136, 3), (42, .dup, 1), (43, .ldc 152, 2), (45, .invokespecial 140, 3), (48, .athrow, 1), (49, .iconst 0, 1), (50, .istore 5, 2), (52, .iload 5, 2), (54, .iload 4, 2), (56, .if_icmp .ge 32, 3), (59, .aload_n 0, 1), (60, .getfield 9, 3), (63, .iload_n 1, 1), (64, .iload 5, 2), (66, .iadd, 1), (67, .lload_n 2, 1), (68, .bipush 8, 2), (70, .iload 4, 2), (72, .iconst 1, 1), (73, .isub, 1), (74, .iload 5, 2), (76, .isub, 1), (77, .imul, 1), (78, .lushr, 1), (79, .l2i, 1), (80, .i2b, 1), (81, .bastore, 1), (82, .iinc 5 1, 3), (85, .goto (-33), 3), (88, .return_, 1)]
theorem zt_X9_poke_0 : zdt cX9_poke zT_X9_poke_0 = true := by decide +kernel
set_option maxRecDepth 20000 in
theorem ggX9_peek_X9_inBuffer : GoodIn wsX9_peek wsX9_inBuffer := goodIn_r _ [7] rfl (by decide +kernel)
set_option maxRecDepth 20000 in
theorem gX9_peek_X9_inBuffer : GoodIn wsX9_peek (va_wsS RX9 148 yX9_inBuffer wsX9_inBuffer) := goodIn_app (goodIn_of _ (by decide +kernel)) ggX9_peek_X9_inBuffer
set_option maxRecDepth 20000 in
theorem ggX9_peek_X9_loggedIn : GoodIn wsX9_peek wsX9_loggedIn := goodIn_r _ [11, 12, 20, 21, 22, 23, 24, 25, 26, 27, 28, 29, 30, 31, 32, 33, 34, 35, 36, 37, 38] rfl (by decide +kernel)
set_option maxRecDepth 20000 in
theorem gX9_peek_X9_loggedIn : GoodIn wsX9_peek (wsV RX9 154 RX9 yX9_loggedIn wsX9_loggedIn) := goodIn_app (goodIn_of _ (by decide +kernel)) ggX9_peek_X9_loggedIn
set_option maxRecDepth 20000 in
theorem ggX9_peek_X9_longAt : GoodIn wsX9_peek wsX9_longAt := goodIn_r _ [15, 16, 17, 18, 6, 19] rfl (by decide +kernel)
set_option maxRecDepth 20000 in
theorem gX9_peek_X9_longAt : GoodIn wsX9_peek (va_wsS RX9 158 yX9_longAt wsX9_longAt) := goodIn_app (goodIn_of _ (by decide +kernel)) ggX9_peek_X9_longAt
def zT_X9_peek_0 : List (Nat × Instr × Nat) := [(0, .iload_n 1, 1), (1, .bipush 8, 2), (3, .invokestatic 148, 3), (6, .ifCond .ne 13, 3), (9, .new 136, 3), (12, .dup, 1), (13, .ldc 152, 2), (15, .invokespecial 140, 3), (18, .athrow, 1), (19, .aload_n 0, 1), (20, .invokevirtual 154, 3), (23, .ifCond .eq 14, 3), (26, .aload_n 0, 1), (27, .getfield 9, 3), (30, .iload_n 1, 1), (31, .invokestatic 158, 3), (34, .goto 4, 3), (37, .lconst 0, 1), (38, .lreturn, 1)]
theorem zt_X9_peek_0 : zdt cX9_peek zT_X9_peek_0 = true := by decide +kernel
set_option maxRecDepth 20000 in
theorem ggX9_login_X9_loginAnswer : GoodIn wsX9_login wsX9_loginAnswer := goodIn_r _ [5, 6, 7, 8, 4, 9, 10, 11, 12, 13, 14, 15, 16, 17, 18, 19, 20, 21, 22, 28, 29, 30, 31, 32, 33, 34, 35, 36, 37, 38, 39, 40, 41, 42, 43, 44, 45, 46, 47, 48] rfl (by decide +kernel)
set_option maxRecDepth 20000 in
theorem gX9_login_X9_loginAnswer : GoodIn wsX9_login (wsV RX9 162 RX9 yX9_loginAnswer wsX9_loginAnswer) := goodIn_app (goodIn_of _ (by decide +kernel)) ggX9_login_X9_loginAnswer
set_option maxRecDepth 20000 in
theorem ggX9_login_X9_counted : GoodIn wsX9_login wsX9_counted := goodIn_r _ [26, 27, 28, 29, 30, 31, 32, 33, 34, 35, 36, 37, 38, 39, 40, 41, 42, 43, 44, 45, 46] rfl (by decide +kernel)
set_option maxRecDepth 20000 in
theorem gX9_login_X9_counted : GoodIn wsX9_login (wsV RX9 166 RX9 yX9_counted wsX9_counted) := goodIn_app (goodIn_of _ (by decide +kernel)) ggX9_login_X9_counted
def zT_X9_login_0 : List (Nat × Instr × Nat) := [(0, .aload_n 0, 1), (1, .aload_n 0, 1), (2, .iload_n 1, 1), (3, .iload_n 2, 1), (4, .invokevirtual 162, 3), (7, .invokevirtual 166, 3), (10, .ireturn, 1)]
theorem zt_X9_login_0 : zdt cX9_login zT_X9_login_0 = true := by decide +kernel
set_option maxRecDepth 20000 in
theorem ggX9_loginAnswer_X9_isRole : GoodIn wsX9_loginAnswer wsX9_isRole := goodIn_r _ [5] rfl (by decide +kernel)
set_option maxRecDepth 20000 in
theorem gX9_loginAnswer_X9_isRole : GoodIn wsX9_loginAnswer (va_wsS RX9 170 yX9_isRole wsX9_isRole) := goodIn_app (goodIn_of _ (by decide +kernel)) ggX9_loginAnswer_X9_isRole
set_option maxRecDepth 20000 in
theorem ggX9_loginAnswer_X9_pinOf : GoodIn wsX9_loginAnswer wsX9_pinOf := goodIn_r _ [9, 10, 11, 19, 20, 21, 22, 23, 24, 25, 26, 27, 28, 29, 30, 31, 32, 33, 34, 35, 36, 37] rfl (by decide +kernel)
set_option maxRecDepth 20000 in
theorem gX9_loginAnswer_X9_pinOf : GoodIn wsX9_loginAnswer (wsV RX9 174 RX9 yX9_pinOf wsX9_pinOf) := goodIn_app (goodIn_of _ (by decide +kernel)) ggX9_loginAnswer_X9_pinOf
set_option maxRecDepth 20000 in
theorem ggX9_loginAnswer_X5_opens : GoodIn wsX9_loginAnswer wsX5_opens := goodIn_r _ [16, 17, 18, 38, 39] rfl (by decide +kernel)
set_option maxRecDepth 20000 in
theorem gX9_loginAnswer_X5_opens : GoodIn wsX9_loginAnswer (wsV RX9 178 RX5 yX5_opens wsX5_opens) := goodIn_app (goodIn_of _ (by decide +kernel)) ggX9_loginAnswer_X5_opens
def zT_X9_loginAnswer_0 : List (Nat × Instr × Nat) := [(0, .aload_n 0, 1), (1, .getfield 101, 3), (4, .iconst 2, 1), (5, .if_icmp .eq 5, 3), (8, .iconst (-1), 1), (9, .ireturn, 1), (10, .iload_n 1, 1), (11, .invokestatic 170, 3), (14, .ifCond .ne 6, 3), (17, .bipush (-2), 2), (19, .ireturn, 1), (20, .aload_n 0, 1), (21, .iload_n 1, 1), (22, .invokevirtual 174, 3), (25, .iload_n 2, 1), (26, .invokevirtual 178, 3), (29, .ifCond .ne 6, 3), (32, .bipush (-10), 2), (34, .ireturn, 1), (35, .aload_n 0, 1), (36, .iload_n 1, 1), (37, .iconst 1, 1), (38, .if_icmp .ne 7, 3), (41, .iconst 3, 1), (42, .goto 4, 3), (45, .iconst 4, 1), (46, .putfield 101, 3), (49, .iconst 0, 1), (50, .ireturn, 1)]
theorem zt_X9_loginAnswer_0 : zdt cX9_loginAnswer zT_X9_loginAnswer_0 = true := by decide +kernel
set_option maxRecDepth 20000 in
theorem ggX9_logout_X9_loggedIn : GoodIn wsX9_logout wsX9_loggedIn := goodIn_r _ [7, 8, 14, 15, 16, 17, 18, 19, 20, 21, 22, 23, 24, 25, 26, 27, 28, 29, 30, 31, 32] rfl (by decide +kernel)
set_option maxRecDepth 20000 in
theorem gX9_logout_X9_loggedIn : GoodIn wsX9_logout (wsV RX9 154 RX9 yX9_loggedIn wsX9_loggedIn) := goodIn_app (goodIn_of _ (by decide +kernel)) ggX9_logout_X9_loggedIn
set_option maxRecDepth 20000 in
theorem ggX9_logout_X9_endLogin : GoodIn wsX9_logout wsX9_endLogin := goodIn_r _ [12, 8, 13, 14, 15, 16, 17, 18, 19, 20, 21, 22, 23, 24, 25, 26, 27, 28, 29, 30, 31, 32] rfl (by decide +kernel)
set_option maxRecDepth 20000 in
theorem gX9_logout_X9_endLogin : GoodIn wsX9_logout (wsV RX9 183 RX9 yX9_endLogin wsX9_endLogin) := goodIn_app (goodIn_of _ (by decide +kernel)) ggX9_logout_X9_endLogin
def zT_X9_logout_0 : List (Nat × Instr × Nat) := [(0, .aload_n 0, 1), (1, .invokevirtual 154, 3), (4, .ifCond .ne 13, 3), (7, .new 143, 3), (10, .dup, 1), (11, .ldc 181, 2), (13, .invokespecial 147, 3), (16, .athrow, 1), (17, .aload_n 0, 1), (18, .invokevirtual 183, 3), (21, .return_, 1)]
theorem zt_X9_logout_0 : zdt cX9_logout zT_X9_logout_0 = true := by decide +kernel
def zT_X9_endLogin_0 : List (Nat × Instr × Nat) := [(0, .aload_n 0, 1), (1, .iconst 2, 1), (2, .putfield 101, 3), (5, .aload_n 0, 1), (6, .iconst 0, 1), (7, .putfield 111, 3), (10, .return_, 1)]
theorem zt_X9_endLogin_0 : zdt cX9_endLogin zT_X9_endLogin_0 = true := by decide +kernel
set_option maxRecDepth 20000 in
theorem ggX9_setPin_X9_setPinAnswer : GoodIn wsX9_setPin wsX9_setPinAnswer := goodIn_r _ [5, 6, 7, 8, 9, 10, 4, 11, 12, 13, 14, 15, 16, 17, 18, 19, 20, 21, 22, 23, 24, 25, 26, 27, 33, 34, 35, 36, 37, 38, 39, 40, 41, 42, 43, 44, 45, 46, 47, 48, 49, 50, 51, 52, 53] rfl (by decide +kernel)
set_option maxRecDepth 20000 in
theorem gX9_setPin_X9_setPinAnswer : GoodIn wsX9_setPin (wsV RX9 186 RX9 yX9_setPinAnswer wsX9_setPinAnswer) := goodIn_app (goodIn_of _ (by decide +kernel)) ggX9_setPin_X9_setPinAnswer
set_option maxRecDepth 20000 in
theorem ggX9_setPin_X9_counted : GoodIn wsX9_setPin wsX9_counted := goodIn_r _ [31, 32, 33, 34, 35, 36, 37, 38, 39, 40, 41, 42, 43, 44, 45, 46, 47, 48, 49, 50, 51] rfl (by decide +kernel)
set_option maxRecDepth 20000 in
theorem gX9_setPin_X9_counted : GoodIn wsX9_setPin (wsV RX9 166 RX9 yX9_counted wsX9_counted) := goodIn_app (goodIn_of _ (by decide +kernel)) ggX9_setPin_X9_counted
def zT_X9_setPin_0 : List (Nat × Instr × Nat) := [(0, .aload_n 0, 1), (1, .aload_n 0, 1), (2, .iload_n 1, 1), (3, .iload_n 2, 1), (4, .invokevirtual 186, 3), (7, .invokevirtual 166, 3), (10, .ireturn, 1)]
theorem zt_X9_setPin_0 : zdt cX9_setPin zT_X9_setPin_0 = true := by decide +kernel
set_option maxRecDepth 20000 in
theorem ggX9_setPinAnswer_X9_loggedIn : GoodIn wsX9_setPinAnswer wsX9_loggedIn := goodIn_r _ [7, 2, 24, 25, 26, 27, 28, 29, 30, 31, 32, 33, 34, 35, 36, 37, 38, 39, 40, 41, 42] rfl (by decide +kernel)
set_option maxRecDepth 20000 in
theorem gX9_setPinAnswer_X9_loggedIn : GoodIn wsX9_setPinAnswer (wsV RX9 154 RX9 yX9_loggedIn wsX9_loggedIn) := goodIn_app (goodIn_of _ (by decide +kernel)) ggX9_setPinAnswer_X9_loggedIn
set_option maxRecDepth 20000 in
theorem ggX9_setPinAnswer_X9_isRole : GoodIn wsX9_setPinAnswer wsX9_isRole := goodIn_r _ [10] rfl (by decide +kernel)
set_option maxRecDepth 20000 in
theorem gX9_setPinAnswer_X9_isRole : GoodIn wsX9_setPinAnswer (va_wsS RX9 170 yX9_isRole wsX9_isRole) := goodIn_app (goodIn_of _ (by decide +kernel)) ggX9_setPinAnswer_X9_isRole
set_option maxRecDepth 20000 in
theorem ggX9_setPinAnswer_X9_pinOf : GoodIn wsX9_setPinAnswer wsX9_pinOf := goodIn_r _ [14, 15, 16, 24, 25, 26, 27, 28, 29, 30, 31, 32, 33, 34, 35, 36, 37, 38, 39, 40, 41, 42] rfl (by decide +kernel)
set_option maxRecDepth 20000 in
theorem gX9_setPinAnswer_X9_pinOf : GoodIn wsX9_setPinAnswer (wsV RX9 174 RX9 yX9_pinOf wsX9_pinOf) := goodIn_app (goodIn_of _ (by decide +kernel)) ggX9_setPinAnswer_X9_pinOf
set_option maxRecDepth 20000 in
theorem ggX9_setPinAnswer_X5_renew : GoodIn wsX9_setPinAnswer wsX5_renew := goodIn_r _ [21, 22, 23, 43, 44] rfl (by decide +kernel)
set_option maxRecDepth 20000 in
theorem gX9_setPinAnswer_X5_renew : GoodIn wsX9_setPinAnswer (wsV RX9 190 RX5 yX5_renew wsX5_renew) := goodIn_app (goodIn_of _ (by decide +kernel)) ggX9_setPinAnswer_X5_renew
def zT_X9_setPinAnswer_0 : List (Nat × Instr × Nat) := [(0, .aload_n 0, 1), (1, .invokevirtual 154, 3), (4, .ifCond .ne 5, 3), (7, .iconst (-1), 1), (8, .ireturn, 1), (9, .iload_n 1, 1), (10, .invokestatic 170, 3), (13, .ifCond .eq 13, 3), (16, .iload_n 2, 1), (17, .ifCond .lt 9, 3), (20, .iload_n 2, 1), (21, .ldc 189, 2), (23, .if_icmp .le 6, 3), (26, .bipush (-2), 2), (28, .ireturn, 1), (29, .aload_n 0, 1), (30, .getfield 101, 3), (33, .iconst 3, 1), (34, .if_icmp .eq 6, 3), (37, .bipush (-3), 2), (39, .ireturn, 1), (40, .aload_n 0, 1), (41, .iload_n 1, 1), (42, .invokevirtual 174, 3), (45, .iload_n 2, 1), (46, .invokevirtual 190, 3), (49, .iconst 0, 1), (50, .ireturn, 1)]
theorem zt_X9_setPinAnswer_0 : zdt cX9_setPinAnswer zT_X9_setPinAnswer_0 = true := by decide +kernel
set_option maxRecDepth 20000 in
theorem ggX9_entropy_X1_accepts : GoodIn wsX9_entropy wsX1_accepts := goodIn_r _ [9, 10, 11, 12, 13, 14, 15, 16, 17, 8, 18, 19, 20, 21, 22, 23, 24, 25, 45, 46, 47, 48, 49, 50, 51, 52] rfl (by decide +kernel)
set_option maxRecDepth 20000 in
theorem gX9_entropy_X1_accepts : GoodIn wsX9_entropy (wsV RX9 193 RX1 yX1_accepts wsX1_accepts) := goodIn_app (goodIn_of _ (by decide +kernel)) ggX9_entropy_X1_accepts
def zT_X9_entropy_0 : List (Nat × Instr × Nat) := [(0, .aload_n 0, 1), (1, .getfield 101, 3), (4, .ifCond .ne 13, 3), (7, .new 143, 3), (10, .dup, 1), (11, .ldc 145, 2), (13, .invokespecial 147, 3), (16, .athrow, 1), (17, .aload_n 0, 1), (18, .getfield 38, 3), (21, .iload_n 1, 1), (22, .invokevirtual 193, 3), (25, .ifCond .eq 7, 3), (28, .iconst 1, 1), (29, .goto 4, 3), (32, .iconst 0, 1), (33, .ireturn, 1)]
theorem zt_X9_entropy_0 : zdt cX9_entropy zT_X9_entropy_0 = true := by decide +kernel
def zT_X9_state_0 : List (Nat × Instr × Nat) := [(0, .aload_n 0, 1), (1, .getfield 101, 3), (4, .ireturn, 1)]
theorem zt_X9_state_0 : zdt cX9_state zT_X9_state_0 = true := by decide +kernel
set_option maxRecDepth 20000 in
theorem ggX9_slotInfo_X9_isSlot : GoodIn wsX9_slotInfo wsX9_isSlot := goodIn_r _ [12] rfl (by decide +kernel)
set_option maxRecDepth 20000 in
theorem gX9_slotInfo_X9_isSlot : GoodIn wsX9_slotInfo (va_wsS RX9 196 yX9_isSlot wsX9_isSlot) := goodIn_app (goodIn_of _ (by decide +kernel)) ggX9_slotInfo_X9_isSlot
set_option maxRecDepth 20000 in
theorem ggX9_slotInfo_X8_isEmpty : GoodIn wsX9_slotInfo wsX8_isEmpty := goodIn_r _ [17, 18, 38, 39, 40, 41, 42, 43] rfl (by decide +kernel)
set_option maxRecDepth 20000 in
theorem gX9_slotInfo_X8_isEmpty : GoodIn wsX9_slotInfo (wsV RX9 201 RX8 yX8_isEmpty wsX8_isEmpty) := goodIn_app (goodIn_of _ (by decide +kernel)) ggX9_slotInfo_X8_isEmpty
def zT_X9_slotInfo_0 : List (Nat × Instr × Nat) := [(0, .iload_n 1, 1), (1, .invokestatic 196, 3), (4, .ifCond .eq 12, 3), (7, .iload_n 2, 1), (8, .ifCond .lt 8, 3), (11, .iload_n 2, 1), (12, .iconst 4, 1), (13, .if_icmp .le 13, 3), (16, .new 136, 3), (19, .dup, 1), (20, .ldc 199, 2), (22, .invokespecial 140, 3), (25, .athrow, 1), (26, .aload_n 0, 1), (27, .getfield 15, 3), (30, .iload_n 1, 1), (31, .aaload, 1), (32, .astore_n 3, 1), (33, .aload_n 3, 1), (34, .invokevirtual 201, 3), (37, .ifCond .eq 5, 3), (40, .iconst (-1), 1), (41, .ireturn, 1), (42, .iload_n 2, 1), (43, .tableswitch 49 0 3 #[29, 34, 39, 44], 29), (72, .aload_n 3, 1), (73, .getfield 204, 3), (76, .ireturn, 1), (77, .aload_n 3, 1), (78, .getfield 207, 3), (81, .ireturn, 1), (82, .aload_n 3, 1), (83, .getfield 210, 3), (86, .ireturn, 1), (87, .aload_n 3, 1), (88, .getfield 213, 3), (91, .ireturn, 1), (92, .aload_n 3, 1), (93, .getfield 216, 3), (96, .ireturn, 1)]
theorem zt_X9_slotInfo_0 : zdt cX9_slotInfo zT_X9_slotInfo_0 = true := by decide +kernel
set_option maxRecDepth 20000 in
theorem ggX9_zeroise_X9_zeroiseAnswer : GoodIn wsX9_zeroise wsX9_zeroiseAnswer := goodIn_r _ [5, 6, 7, 8, 9, 4, 10, 11, 12, 13, 14, 15, 16, 17, 18, 19, 20, 21, 22, 23, 24, 25, 26, 27, 28, 29, 30, 31, 32, 33, 34, 35, 36, 37, 38, 44, 45, 46, 47, 48, 49, 50, 51, 52, 53, 54, 55, 56, 57, 58, 59, 60, 61, 62, 63, 64, 65, 66, 67, 68] rfl (by decide +kernel)
set_option maxRecDepth 20000 in
theorem gX9_zeroise_X9_zeroiseAnswer : GoodIn wsX9_zeroise (wsV RX9 219 RX9 yX9_zeroiseAnswer wsX9_zeroiseAnswer) := goodIn_app (goodIn_of _ (by decide +kernel)) ggX9_zeroise_X9_zeroiseAnswer
set_option maxRecDepth 20000 in
theorem ggX9_zeroise_X9_counted : GoodIn wsX9_zeroise wsX9_counted := goodIn_r _ [42, 43, 44, 45, 46, 47, 48, 49, 50, 51, 52, 53, 54, 55, 56, 57, 58, 59, 60, 61, 62] rfl (by decide +kernel)
set_option maxRecDepth 20000 in
theorem gX9_zeroise_X9_counted : GoodIn wsX9_zeroise (wsV RX9 166 RX9 yX9_counted wsX9_counted) := goodIn_app (goodIn_of _ (by decide +kernel)) ggX9_zeroise_X9_counted
def zT_X9_zeroise_0 : List (Nat × Instr × Nat) := [(0, .aload_n 0, 1), (1, .aload_n 0, 1), (2, .iload_n 1, 1), (3, .invokevirtual 219, 3), (6, .invokevirtual 166, 3), (9, .ireturn, 1)]
theorem zt_X9_zeroise_0 : zdt cX9_zeroise zT_X9_zeroise_0 = true := by decide +kernel
set_option maxRecDepth 20000 in
theorem ggX9_zeroiseAnswer_X9_loggedIn : GoodIn wsX9_zeroiseAnswer wsX9_loggedIn := goodIn_r _ [6, 7, 35, 36, 37, 38, 39, 40, 41, 42, 43, 44, 45, 46, 47, 48, 49, 50, 51, 52, 53] rfl (by decide +kernel)
set_option maxRecDepth 20000 in
theorem gX9_zeroiseAnswer_X9_loggedIn : GoodIn wsX9_zeroiseAnswer (wsV RX9 154 RX9 yX9_loggedIn wsX9_loggedIn) := goodIn_app (goodIn_of _ (by decide +kernel)) ggX9_zeroiseAnswer_X9_loggedIn
set_option maxRecDepth 20000 in
theorem ggX9_zeroiseAnswer_X9_isSlot : GoodIn wsX9_zeroiseAnswer wsX9_isSlot := goodIn_r _ [10] rfl (by decide +kernel)
set_option maxRecDepth 20000 in
theorem gX9_zeroiseAnswer_X9_isSlot : GoodIn wsX9_zeroiseAnswer (va_wsS RX9 196 yX9_isSlot wsX9_isSlot) := goodIn_app (goodIn_of _ (by decide +kernel)) ggX9_zeroiseAnswer_X9_isSlot
set_option maxRecDepth 20000 in
theorem ggX9_zeroiseAnswer_X9_isForeign : GoodIn wsX9_zeroiseAnswer wsX9_isForeign := goodIn_r _ [14, 15, 16, 17, 18, 19, 20, 21, 22, 23, 24, 5, 25, 7, 54, 55, 56, 57, 58, 59, 35, 36, 37, 38, 39, 40, 41, 42, 43, 44, 45, 46, 47, 48, 49, 50, 51, 52, 53] rfl (by decide +kernel)
set_option maxRecDepth 20000 in
theorem gX9_zeroiseAnswer_X9_isForeign : GoodIn wsX9_zeroiseAnswer (wsV RX9 222 RX9 yX9_isForeign wsX9_isForeign) := goodIn_app (goodIn_of _ (by decide +kernel)) ggX9_zeroiseAnswer_X9_isForeign
set_option maxRecDepth 20000 in
theorem ggX9_zeroiseAnswer_X8_isEmpty : GoodIn wsX9_zeroiseAnswer wsX8_isEmpty := goodIn_r _ [20, 21, 54, 55, 56, 57, 58, 59] rfl (by decide +kernel)
set_option maxRecDepth 20000 in
theorem gX9_zeroiseAnswer_X8_isEmpty : GoodIn wsX9_zeroiseAnswer (wsV RX9 201 RX8 yX8_isEmpty wsX8_isEmpty) := goodIn_app (goodIn_of _ (by decide +kernel)) ggX9_zeroiseAnswer_X8_isEmpty
set_option maxRecDepth 20000 in
theorem ggX9_zeroiseAnswer_X8_clear : GoodIn wsX9_zeroiseAnswer wsX8_clear := goodIn_r _ [29, 21, 30, 31, 32, 33, 34, 54, 55, 56, 57, 58, 59] rfl (by decide +kernel)
set_option maxRecDepth 20000 in
theorem gX9_zeroiseAnswer_X8_clear : GoodIn wsX9_zeroiseAnswer (wsV RX9 226 RX8 yX8_clear wsX8_clear) := goodIn_app (goodIn_of _ (by decide +kernel)) ggX9_zeroiseAnswer_X8_clear
def zT_X9_zeroiseAnswer_0 : List (Nat × Instr × Nat) := [(0, .aload_n 0, 1), (1, .invokevirtual 154, 3), (4, .ifCond .ne 5, 3), (7, .iconst (-1), 1), (8, .ireturn, 1), (9, .iload_n 1, 1), (10, .invokestatic 196, 3), (13, .ifCond .ne 6, 3), (16, .bipush (-2), 2), (18, .ireturn, 1), (19, .aload_n 0, 1), (20, .aload_n 0, 1), (21, .getfield 15, 3), (24, .iload_n 1, 1), (25, .aaload, 1), (26, .invokevirtual 222, 3), (29, .ifCond .eq 6, 3), (32, .bipush (-3), 2), (34, .ireturn, 1), (35, .aload_n 0, 1), (36, .getfield 15, 3), (39, .iload_n 1, 1), (40, .aaload, 1), (41, .invokevirtual 201, 3), (44, .ifCond .eq 6, 3), (47, .bipush (-4), 2), (49, .ireturn, 1), (50, .aload_n 0, 1), (51, .getfield 15, 3), (54, .iload_n 1, 1), (55, .aaload, 1), (56, .invokevirtual 226, 3), (59, .iconst 0, 1), (60, .ireturn, 1)]
theorem zt_X9_zeroiseAnswer_0 : zdt cX9_zeroiseAnswer zT_X9_zeroiseAnswer_0 = true := by decide +kernel
set_option maxRecDepth 20000 in
theorem ggX9_zeroiseAll_X8_clear : GoodIn wsX9_zeroiseAll wsX8_clear := goodIn_r _ [10, 11, 12, 13, 14, 15, 16, 73, 74, 75, 76, 77, 78] rfl (by decide +kernel)
set_option maxRecDepth 20000 in
theorem gX9_zeroiseAll_X8_clear : GoodIn wsX9_zeroiseAll (wsV RX9 226 RX8 yX8_clear wsX8_clear) := goodIn_app (goodIn_of _ (by decide +kernel)) ggX9_zeroiseAll_X8_clear
set_option maxRecDepth 20000 in
theorem ggX9_zeroiseAll_X5_renew : GoodIn wsX9_zeroiseAll wsX5_renew := goodIn_r _ [21, 22, 23, 79, 80] rfl (by decide +kernel)
set_option maxRecDepth 20000 in
theorem gX9_zeroiseAll_X5_renew : GoodIn wsX9_zeroiseAll (wsV RX9 190 RX5 yX5_renew wsX5_renew) := goodIn_app (goodIn_of _ (by decide +kernel)) ggX9_zeroiseAll_X5_renew
set_option maxRecDepth 20000 in
theorem ggX9_zeroiseAll_X3_forget : GoodIn wsX9_zeroiseAll wsX3_forget := goodIn_r _ [28, 29, 30, 31, 32, 14, 15, 16, 81, 82, 83, 84, 85, 86] rfl (by decide +kernel)
set_option maxRecDepth 20000 in
theorem gX9_zeroiseAll_X3_forget : GoodIn wsX9_zeroiseAll (wsV RX9 119 RX3 yX3_forget wsX3_forget) := goodIn_app (goodIn_of _ (by decide +kernel)) ggX9_zeroiseAll_X3_forget
set_option maxRecDepth 20000 in
theorem ggX9_zeroiseAll_X1_forgetKept : GoodIn wsX9_zeroiseAll wsX1_forgetKept := goodIn_r _ [37, 38, 39, 40, 41, 15, 42, 87, 88, 89, 90, 91, 92, 93, 94] rfl (by decide +kernel)
set_option maxRecDepth 20000 in
theorem gX9_zeroiseAll_X1_forgetKept : GoodIn wsX9_zeroiseAll (wsV RX9 229 RX1 yX1_forgetKept wsX1_forgetKept) := goodIn_app (goodIn_of _ (by decide +kernel)) ggX9_zeroiseAll_X1_forgetKept
set_option maxRecDepth 20000 in
theorem ggX9_zeroiseAll_X9_loggedIn : GoodIn wsX9_zeroiseAll wsX9_loggedIn := goodIn_r _ [47, 48, 54, 55, 56, 57, 58, 59, 60, 61, 62, 63, 64, 65, 66, 67, 68, 69, 70, 71, 72] rfl (by decide +kernel)
set_option maxRecDepth 20000 in
theorem gX9_zeroiseAll_X9_loggedIn : GoodIn wsX9_zeroiseAll (wsV RX9 154 RX9 yX9_loggedIn wsX9_loggedIn) := goodIn_app (goodIn_of _ (by decide +kernel)) ggX9_zeroiseAll_X9_loggedIn
set_option maxRecDepth 20000 in
theorem ggX9_zeroiseAll_X9_endLogin : GoodIn wsX9_zeroiseAll wsX9_endLogin := goodIn_r _ [52, 48, 53, 54, 55, 56, 57, 58, 59, 60, 61, 62, 63, 64, 65, 66, 67, 68, 69, 70, 71, 72] rfl (by decide +kernel)
set_option maxRecDepth 20000 in
theorem gX9_zeroiseAll_X9_endLogin : GoodIn wsX9_zeroiseAll (wsV RX9 183 RX9 yX9_endLogin wsX9_endLogin) := goodIn_app (goodIn_of _ (by decide +kernel)) ggX9_zeroiseAll_X9_endLogin
def zT_X9_zeroiseAll_0 : List (Nat × Instr × Nat) := [(0, .iconst 0, 1), (1, .istore_n 1, 1), (2, .iload_n 1, 1), (3, .bipush 16, 2), (5, .if_icmp .ge 18, 3), (8, .aload_n 0, 1), (9, .getfield 15, 3), (12, .iload_n 1, 1), (13, .aaload, 1), (14, .invokevirtual 226, 3), (17, .iinc 1 1, 3), (20, .goto (-18), 3), (23, .aload_n 0, 1), (24, .getfield 28, 3), (27, .sipush 1111, 3), (30, .invokevirtual 190, 3), (33, .aload_n 0, 1), (34, .getfield 32, 3), (37, .sipush 2222, 3), (40, .invokevirtual 190, 3), (43, .aload_n 0, 1), (44, .getfield 82, 3), (47, .invokevirtual 119, 3), (50, .aload_n 0, 1), (51, .getfield 38, 3), (54, .invokevirtual 229, 3), (57, .aload_n 0, 1), (58, .invokevirtual 154, 3), (61, .ifCond .eq 7, 3), (64, .aload_n 0, 1), (65, .invokevirtual 183, 3), (68, .return_, 1)]
theorem zt_X9_zeroiseAll_0 : zdt cX9_zeroiseAll zT_X9_zeroiseAll_0 = true := by decide +kernel
set_option maxRecDepth 20000 in
theorem ggX9_load_X9_newKeyRefusal : GoodIn wsX9_load wsX9_newKeyRefusal := goodIn_r _ [7, 8, 9, 1, 10, 11, 12, 6, 13, 14, 15, 16, 17, 18, 19, 20, 21, 22, 23, 24, 25, 26, 27, 28, 29, 30, 31, 32, 33, 34, 35, 36, 37, 56, 57, 58, 59, 60, 61, 62, 63, 64, 65, 66, 67, 68, 69, 70, 71, 72, 73, 74, 75, 76, 77, 78, 79, 80] rfl (by decide +kernel)
set_option maxRecDepth 20000 in
theorem gX9_load_X9_newKeyRefusal : GoodIn wsX9_load (wsV RX9 232 RX9 yX9_newKeyRefusal wsX9_newKeyRefusal) := goodIn_app (goodIn_of _ (by decide +kernel)) ggX9_load_X9_newKeyRefusal
set_option maxRecDepth 20000 in
theorem ggX9_load_X8_fill : GoodIn wsX9_load wsX8_fill := goodIn_r _ [41, 34, 42, 43, 44, 45, 46, 47, 48, 49, 50, 75, 76, 77, 78, 79, 80] rfl (by decide +kernel)
set_option maxRecDepth 20000 in
theorem gX9_load_X8_fill : GoodIn wsX9_load (wsV RX9 236 RX8 yX8_fill wsX8_fill) := goodIn_app (goodIn_of _ (by decide +kernel)) ggX9_load_X8_fill
set_option maxRecDepth 20000 in
theorem ggX9_load_X9_counted : GoodIn wsX9_load wsX9_counted := goodIn_r _ [54, 55, 56, 57, 58, 59, 60, 61, 62, 63, 64, 65, 66, 67, 68, 69, 70, 71, 72, 73, 74] rfl (by decide +kernel)
set_option maxRecDepth 20000 in
theorem gX9_load_X9_counted : GoodIn wsX9_load (wsV RX9 166 RX9 yX9_counted wsX9_counted) := goodIn_app (goodIn_of _ (by decide +kernel)) ggX9_load_X9_counted
def zT_X9_load_0 : List (Nat × Instr × Nat) := [(0, .aload_n 0, 1), (1, .iload_n 1, 1), (2, .iload_n 2, 1), (3, .iload_n 3, 1), (4, .iload 4, 2), (6, .iload 5, 2), (8, .iload 6, 2), (10, .invokevirtual 232, 3), (13, .istore 7, 2), (15, .iload 7, 2), (17, .ifCond .ne 25, 3), (20, .aload_n 0, 1), (21, .getfield 15, 3), (24, .iload_n 1, 1), (25, .aaload, 1), (26, .iload_n 2, 1), (27, .iload_n 3, 1), (28, .iload 4, 2), (30, .iload 5, 2), (32, .aload_n 0, 1), (33, .getfield 9, 3), (36, .iconst 0, 1), (37, .iload 6, 2), (39, .invokevirtual 236, 3), (42, .aload_n 0, 1), (43, .iload 7, 2), (45, .invokevirtual 166, 3), (48, .ireturn, 1)]
theorem zt_X9_load_0 : zdt cX9_load zT_X9_load_0 = true := by decide +kernel
set_option maxRecDepth 20000 in
theorem ggX9_make_X9_newKeyRefusal : GoodIn wsX9_make wsX9_newKeyRefusal := goodIn_r _ [7, 8, 9, 2, 10, 11, 12, 6, 13, 14, 15, 16, 17, 18, 19, 20, 21, 22, 23, 24, 25, 26, 27, 28, 29, 30, 31, 32, 33, 34, 35, 36, 37, 158, 159, 160, 161, 162, 163, 164, 165, 166, 167, 168, 169, 170, 171, 172, 173, 174, 175, 176, 177, 178, 179, 180, 181, 182] rfl (by decide +kernel)
set_option maxRecDepth 20000 in
theorem gX9_make_X9_newKeyRefusal : GoodIn wsX9_make (wsV RX9 232 RX9 yX9_newKeyRefusal wsX9_newKeyRefusal) := goodIn_app (goodIn_of _ (by decide +kernel)) ggX9_make_X9_newKeyRefusal
set_option maxRecDepth 20000 in
theorem ggX9_make_X9_drawn : GoodIn wsX9_make wsX9_drawn := goodIn_r _ [41, 42, 43, 1, 44, 45, 46, 47, 48, 49, 50, 51, 52, 53, 54, 55, 56, 57, 58, 59, 60, 61, 62, 63, 64, 65, 66, 67, 68, 69, 6, 70, 71, 72, 73, 74, 75, 76, 77, 78, 79, 80, 81, 82, 83, 84, 85, 86, 87, 88, 89, 90, 91, 92, 93, 94, 95, 96, 97, 98, 99, 100, 101, 102, 103, 104, 105, 106, 107, 108, 109, 110, 111, 112, 113, 114, 115, 116, 117, 118, 119, 120, 121, 122, 123, 124, 125, 126, 127, 128, 129, 130, 131, 132, 133, 134, 135, 136, 137, 138, 139, 140, 141, 142, 158, 159, 160, 161, 162, 163, 164, 165, 166, 167, 168, 169, 170, 171, 172, 173, 174, 175, 176, 183, 184, 185, 186, 187, 188, 189, 190, 191, 192, 193, 194, 195, 196, 197, 198, 199, 200, 201, 202, 203, 204, 205] rfl (by decide +kernel)
set_option maxRecDepth 20000 in
theorem gX9_make_X9_drawn : GoodIn wsX9_make (wsV RX9 239 RX9 yX9_drawn wsX9_drawn) := goodIn_app (goodIn_of _ (by decide +kernel)) ggX9_make_X9_drawn
set_option maxRecDepth 20000 in
theorem ggX9_make_X8_fill : GoodIn wsX9_make wsX8_fill := goodIn_r _ [146, 34, 147, 148, 149, 150, 151, 152, 47, 48, 49, 177, 178, 179, 180, 181, 182] rfl (by decide +kernel)
set_option maxRecDepth 20000 in
theorem gX9_make_X8_fill : GoodIn wsX9_make (wsV RX9 236 RX8 yX8_fill wsX8_fill) := goodIn_app (goodIn_of _ (by decide +kernel)) ggX9_make_X8_fill
set_option maxRecDepth 20000 in
theorem ggX9_make_X9_forgetSecret : GoodIn wsX9_make wsX9_forgetSecret := goodIn_r _ [133, 1, 134, 78, 79, 80, 158, 159, 160, 161, 162, 163, 164, 165, 166, 167, 168, 169, 170, 171, 172, 173, 174, 175, 176] rfl (by decide +kernel)
set_option maxRecDepth 20000 in
theorem gX9_make_X9_forgetSecret : GoodIn wsX9_make (wsV RX9 243 RX9 yX9_forgetSecret wsX9_forgetSecret) := goodIn_app (goodIn_of _ (by decide +kernel)) ggX9_make_X9_forgetSecret
set_option maxRecDepth 20000 in
theorem ggX9_make_X9_counted : GoodIn wsX9_make wsX9_counted := goodIn_r _ [156, 157, 158, 159, 160, 161, 162, 163, 164, 165, 166, 167, 168, 169, 170, 171, 172, 173, 174, 175, 176] rfl (by decide +kernel)
set_option maxRecDepth 20000 in
theorem gX9_make_X9_counted : GoodIn wsX9_make (wsV RX9 166 RX9 yX9_counted wsX9_counted) := goodIn_app (goodIn_of _ (by decide +kernel)) ggX9_make_X9_counted
def zT_X9_make_0 : List (Nat × Instr × Nat) := [(0, .aload_n 0, 1), (1, .iload_n 1, 1), (2, .iload_n 2, 1), (3, .iload_n 3, 1), (4, .iload 4, 2), (6, .iload 5, 2), (8, .iload 6, 2), (10, .invokevirtual 232, 3), (13, .istore 7, 2), (15, .iload 7, 2), (17, .ifCond .ne 26, 3), (20, .aload_n 0, 1), (21, .aload_n 0, 1), (22, .getfield 98, 3), (25, .iconst 0, 1), (26, .iload 6, 2), (28, .iconst 0, 1), (29, .invokevirtual 239, 3), (32, .ifCond .eq 7, 3), (35, .iconst 0, 1), (36, .goto 5, 3), (39, .bipush (-8), 2), (41, .istore 7, 2), (43, .iload 7, 2), (45, .ifCond .ne 29, 3), (48, .aload_n 0, 1), (49, .getfield 15, 3), (52, .iload_n 1, 1), (53, .aaload, 1), (54, .iload_n 2, 1), (55, .iload_n 3, 1), (56, .iload 4, 2), (58, .iload 5, 2), (60, .aload_n 0, 1), (61, .getfield 98, 3), (64, .iconst 0, 1), (65, .iload 6, 2), (67, .invokevirtual 236, 3), (70, .aload_n 0, 1), (71, .invokevirtual 243, 3), (74, .aload_n 0, 1), (75, .iload 7, 2), (77, .invokevirtual 166, 3), (80, .ireturn, 1)]
theorem zt_X9_make_0 : zdt cX9_make zT_X9_make_0 = true := by decide +kernel
set_option maxRecDepth 20000 in
theorem ggX9_newKeyRefusal_X9_loggedIn : GoodIn wsX9_newKeyRefusal wsX9_loggedIn := goodIn_r _ [8, 2, 33, 34, 35, 36, 37, 38, 39, 40, 41, 42, 43, 44, 45, 46, 47, 48, 49, 50, 51] rfl (by decide +kernel)
set_option maxRecDepth 20000 in
theorem gX9_newKeyRefusal_X9_loggedIn : GoodIn wsX9_newKeyRefusal (wsV RX9 154 RX9 yX9_loggedIn wsX9_loggedIn) := goodIn_app (goodIn_of _ (by decide +kernel)) ggX9_newKeyRefusal_X9_loggedIn
set_option maxRecDepth 20000 in
theorem ggX9_newKeyRefusal_X9_isSlot : GoodIn wsX9_newKeyRefusal wsX9_isSlot := goodIn_r _ [11] rfl (by decide +kernel)
set_option maxRecDepth 20000 in
theorem gX9_newKeyRefusal_X9_isSlot : GoodIn wsX9_newKeyRefusal (va_wsS RX9 196 yX9_isSlot wsX9_isSlot) := goodIn_app (goodIn_of _ (by decide +kernel)) ggX9_newKeyRefusal_X9_isSlot
set_option maxRecDepth 20000 in
theorem ggX9_newKeyRefusal_X9_isKind : GoodIn wsX9_newKeyRefusal wsX9_isKind := goodIn_r _ [14] rfl (by decide +kernel)
set_option maxRecDepth 20000 in
theorem gX9_newKeyRefusal_X9_isKind : GoodIn wsX9_newKeyRefusal (va_wsS RX9 246 yX9_isKind wsX9_isKind) := goodIn_app (goodIn_of _ (by decide +kernel)) ggX9_newKeyRefusal_X9_isKind
set_option maxRecDepth 20000 in
theorem ggX9_newKeyRefusal_X9_isUsage : GoodIn wsX9_newKeyRefusal wsX9_isUsage := goodIn_r _ [17] rfl (by decide +kernel)
set_option maxRecDepth 20000 in
theorem gX9_newKeyRefusal_X9_isUsage : GoodIn wsX9_newKeyRefusal (va_wsS RX9 249 yX9_isUsage wsX9_isUsage) := goodIn_app (goodIn_of _ (by decide +kernel)) ggX9_newKeyRefusal_X9_isUsage
set_option maxRecDepth 20000 in
theorem ggX9_newKeyRefusal_X9_isRole : GoodIn wsX9_newKeyRefusal wsX9_isRole := goodIn_r _ [20] rfl (by decide +kernel)
set_option maxRecDepth 20000 in
theorem gX9_newKeyRefusal_X9_isRole : GoodIn wsX9_newKeyRefusal (va_wsS RX9 170 yX9_isRole wsX9_isRole) := goodIn_app (goodIn_of _ (by decide +kernel)) ggX9_newKeyRefusal_X9_isRole
set_option maxRecDepth 20000 in
theorem ggX9_newKeyRefusal_X9_isKeyLength : GoodIn wsX9_newKeyRefusal wsX9_isKeyLength := goodIn_r _ [23] rfl (by decide +kernel)
set_option maxRecDepth 20000 in
theorem gX9_newKeyRefusal_X9_isKeyLength : GoodIn wsX9_newKeyRefusal (va_wsS RX9 253 yX9_isKeyLength wsX9_isKeyLength) := goodIn_app (goodIn_of _ (by decide +kernel)) ggX9_newKeyRefusal_X9_isKeyLength
set_option maxRecDepth 20000 in
theorem ggX9_newKeyRefusal_X8_isEmpty : GoodIn wsX9_newKeyRefusal wsX8_isEmpty := goodIn_r _ [28, 29, 52, 53, 54, 55, 56, 57] rfl (by decide +kernel)
set_option maxRecDepth 20000 in
theorem gX9_newKeyRefusal_X8_isEmpty : GoodIn wsX9_newKeyRefusal (wsV RX9 201 RX8 yX8_isEmpty wsX8_isEmpty) := goodIn_app (goodIn_of _ (by decide +kernel)) ggX9_newKeyRefusal_X8_isEmpty
set_option maxRecDepth 20000 in
theorem ggX9_newKeyRefusal_X9_lengthFits : GoodIn wsX9_newKeyRefusal wsX9_lengthFits := goodIn_r _ [32, 21, 22, 7, 23] rfl (by decide +kernel)
set_option maxRecDepth 20000 in
theorem gX9_newKeyRefusal_X9_lengthFits : GoodIn wsX9_newKeyRefusal (va_wsS RX9 256 yX9_lengthFits wsX9_lengthFits) := goodIn_app (goodIn_of _ (by decide +kernel)) ggX9_newKeyRefusal_X9_lengthFits
def zT_X9_newKeyRefusal_0 : List (Nat × Instr × Nat) := [(0, .aload_n 0, 1), (1, .invokevirtual 154, 3), (4, .ifCond .ne 5, 3), (7, .iconst (-1), 1), (8, .ireturn, 1), (9, .iload_n 1, 1), (10, .invokestatic 196, 3), (13, .ifCond .eq 25, 3), (16, .iload_n 2, 1), (17, .invokestatic 246, 3), (20, .ifCond .eq 18, 3), (23, .iload_n 3, 1), (24, .invokestatic 249, 3), (27, .ifCond .eq 11, 3), (30, .iload 4, 2), (32, .invokestatic 170, 3), (35, .ifCond .ne 6, 3), (38, .bipush (-2), 2), (40, .ireturn, 1), (41, .iload 5, 2), (43, .iconst (-1), 1), (44, .if_icmp .lt 18, 3), (47, .iload 5, 2), (49, .ldc 252, 2), (51, .if_icmp .gt 11, 3), (54, .iload 6, 2), (56, .invokestatic 253, 3), (59, .ifCond .ne 6, 3), (62, .bipush (-2), 2), (64, .ireturn, 1), (65, .aload_n 0, 1), (66, .getfield 101, 3), (69, .iconst 3, 1), (70, .if_icmp .eq 6, 3), (73, .bipush (-3), 2), (75, .ireturn, 1), (76, .aload_n 0, 1), (77, .getfield 15, 3), (80, .iload_n 1, 1), (81, .aaload, 1), (82, .invokevirtual 201, 3), (85, .ifCond .ne 6, 3), (88, .bipush (-4), 2), (90, .ireturn, 1), (91, .iload_n 2, 1), (92, .iload 6, 2), (94, .invokestatic 256, 3), (97, .ifCond .eq 7, 3), (100, .iconst 0, 1), (101, .goto 5, 3), (104, .bipush (-5), 2), (106, .ireturn, 1)]
theorem zt_X9_newKeyRefusal_0 : zdt cX9_newKeyRefusal zT_X9_newKeyRefusal_0 = true := by decide +kernel
set_option maxRecDepth 20000 in
theorem ggX9_derive_X9_deriveRefusal : GoodIn wsX9_derive wsX9_deriveRefusal := goodIn_r _ [7, 1, 8, 9, 10, 11, 12, 6, 13, 14, 15, 16, 17, 18, 19, 20, 21, 22, 23, 24, 25, 26, 27, 28, 29, 30, 31, 32, 33, 34, 35, 36, 37, 38, 39, 40, 41, 42, 43, 44, 45, 46, 47, 48, 49, 134, 135, 136, 137, 138, 139, 140, 141, 142, 143, 144, 145, 146, 147, 148, 149, 150, 151, 152, 153, 154, 155, 156, 157, 158] rfl (by decide +kernel)
set_option maxRecDepth 20000 in
theorem gX9_derive_X9_deriveRefusal : GoodIn wsX9_derive (wsV RX9 259 RX9 yX9_deriveRefusal wsX9_deriveRefusal) := goodIn_app (goodIn_of _ (by decide +kernel)) ggX9_derive_X9_deriveRefusal
set_option maxRecDepth 20000 in
theorem ggX9_derive_X8_takeUse : GoodIn wsX9_derive wsX8_takeUse := goodIn_r _ [53, 54, 153, 154, 155, 156, 157, 158] rfl (by decide +kernel)
set_option maxRecDepth 20000 in
theorem gX9_derive_X8_takeUse : GoodIn wsX9_derive (wsV RX9 262 RX8 yX8_takeUse wsX8_takeUse) := goodIn_app (goodIn_of _ (by decide +kernel)) ggX9_derive_X8_takeUse
set_option maxRecDepth 20000 in
theorem ggX9_derive_X9_deriveBytes : GoodIn wsX9_derive wsX9_deriveBytes := goodIn_r _ [58, 59, 60, 61, 62, 63, 64, 65, 66, 67, 2, 68, 69, 6, 70, 71, 72, 73, 74, 75, 76, 77, 78, 79, 80, 81, 82, 83, 84, 85, 86, 87, 88, 89, 90, 91, 92, 93, 94, 95, 96, 97, 98, 99, 100, 101, 102, 103, 104, 105, 106, 107, 108, 109, 110, 111, 112, 113, 134, 135, 136, 137, 138, 139, 140, 141, 142, 143, 144, 145, 146, 147, 148, 149, 150, 151, 152, 153, 154, 155, 156, 157, 158, 159, 160, 161, 162, 163, 164, 165, 166, 167] rfl (by decide +kernel)
set_option maxRecDepth 20000 in
theorem gX9_derive_X9_deriveBytes : GoodIn wsX9_derive (wsV RX9 265 RX9 yX9_deriveBytes wsX9_deriveBytes) := goodIn_app (goodIn_of _ (by decide +kernel)) ggX9_derive_X9_deriveBytes
set_option maxRecDepth 20000 in
theorem ggX9_derive_X9_holder : GoodIn wsX9_derive wsX9_holder := goodIn_r _ [41, 14, 134, 135, 136, 137, 138, 139, 140, 141, 142, 143, 144, 145, 146, 147, 148, 149, 150, 151, 152] rfl (by decide +kernel)
set_option maxRecDepth 20000 in
theorem gX9_derive_X9_holder : GoodIn wsX9_derive (wsV RX9 269 RX9 yX9_holder wsX9_holder) := goodIn_app (goodIn_of _ (by decide +kernel)) ggX9_derive_X9_holder
set_option maxRecDepth 20000 in
theorem ggX9_derive_X8_fill : GoodIn wsX9_derive wsX8_fill := goodIn_r _ [117, 37, 49, 118, 54, 119, 120, 121, 62, 63, 64, 153, 154, 155, 156, 157, 158] rfl (by decide +kernel)
set_option maxRecDepth 20000 in
theorem gX9_derive_X8_fill : GoodIn wsX9_derive (wsV RX9 236 RX8 yX8_fill wsX8_fill) := goodIn_app (goodIn_of _ (by decide +kernel)) ggX9_derive_X8_fill
set_option maxRecDepth 20000 in
theorem ggX9_derive_X9_forgetSecret : GoodIn wsX9_derive wsX9_forgetSecret := goodIn_r _ [125, 2, 126, 127, 106, 128, 134, 135, 136, 137, 138, 139, 140, 141, 142, 143, 144, 145, 146, 147, 148, 149, 150, 151, 152] rfl (by decide +kernel)
set_option maxRecDepth 20000 in
theorem gX9_derive_X9_forgetSecret : GoodIn wsX9_derive (wsV RX9 243 RX9 yX9_forgetSecret wsX9_forgetSecret) := goodIn_app (goodIn_of _ (by decide +kernel)) ggX9_derive_X9_forgetSecret
set_option maxRecDepth 20000 in
theorem ggX9_derive_X9_counted : GoodIn wsX9_derive wsX9_counted := goodIn_r _ [132, 133, 134, 135, 136, 137, 138, 139, 140, 141, 142, 143, 144, 145, 146, 147, 148, 149, 150, 151, 152] rfl (by decide +kernel)
set_option maxRecDepth 20000 in
theorem gX9_derive_X9_counted : GoodIn wsX9_derive (wsV RX9 166 RX9 yX9_counted wsX9_counted) := goodIn_app (goodIn_of _ (by decide +kernel)) ggX9_derive_X9_counted
def zT_X9_derive_0 : List (Nat × Instr × Nat) := [(0, .aload_n 0, 1), (1, .iload_n 1, 1), (2, .iload_n 2, 1), (3, .iload_n 3, 1), (4, .iload 4, 2), (6, .iload 5, 2), (8, .iload 6, 2), (10, .invokevirtual 259, 3), (13, .istore 7, 2), (15, .iload 7, 2), (17, .ifCond .ne 54, 3), (20, .aload_n 0, 1), (21, .getfield 15, 3), (24, .iload_n 2, 1), (25, .aaload, 1), (26, .invokevirtual 262, 3), (29, .aload_n 0, 1), (30, .aload_n 0, 1), (31, .getfield 15, 3), (34, .iload_n 2, 1), (35, .aaload, 1), (36, .iload 5, 2), (38, .iload 6, 2), (40, .invokevirtual 265, 3), (43, .aload_n 0, 1), (44, .getfield 15, 3), (47, .iload_n 1, 1), (48, .aaload, 1), (49, .iload_n 3, 1), (50, .iload 4, 2), (52, .aload_n 0, 1), (53, .invokevirtual 269, 3), (56, .iconst (-1), 1), (57, .aload_n 0, 1), (58, .getfield 98, 3), (61, .iconst 0, 1), (62, .iload 5, 2), (64, .invokevirtual 236, 3), (67, .aload_n 0, 1), (68, .invokevirtual 243, 3), (71, .aload_n 0, 1), (72, .iload 7, 2), (74, .invokevirtual 166, 3), (77, .ireturn, 1)]
theorem zt_X9_derive_0 : zdt cX9_derive zT_X9_derive_0 = true := by decide +kernel
set_option maxRecDepth 20000 in
theorem ggX9_deriveRefusal_X9_loggedIn : GoodIn wsX9_deriveRefusal wsX9_loggedIn := goodIn_r _ [8, 9, 45, 46, 47, 48, 49, 50, 51, 52, 53, 54, 55, 56, 57, 58, 59, 60, 61, 62, 63] rfl (by decide +kernel)
set_option maxRecDepth 20000 in
theorem gX9_deriveRefusal_X9_loggedIn : GoodIn wsX9_deriveRefusal (wsV RX9 154 RX9 yX9_loggedIn wsX9_loggedIn) := goodIn_app (goodIn_of _ (by decide +kernel)) ggX9_deriveRefusal_X9_loggedIn
set_option maxRecDepth 20000 in
theorem ggX9_deriveRefusal_X9_isSlot : GoodIn wsX9_deriveRefusal wsX9_isSlot := goodIn_r _ [12] rfl (by decide +kernel)
set_option maxRecDepth 20000 in
theorem gX9_deriveRefusal_X9_isSlot : GoodIn wsX9_deriveRefusal (va_wsS RX9 196 yX9_isSlot wsX9_isSlot) := goodIn_app (goodIn_of _ (by decide +kernel)) ggX9_deriveRefusal_X9_isSlot
set_option maxRecDepth 20000 in
theorem ggX9_deriveRefusal_X9_isKind : GoodIn wsX9_deriveRefusal wsX9_isKind := goodIn_r _ [15] rfl (by decide +kernel)
set_option maxRecDepth 20000 in
theorem gX9_deriveRefusal_X9_isKind : GoodIn wsX9_deriveRefusal (va_wsS RX9 246 yX9_isKind wsX9_isKind) := goodIn_app (goodIn_of _ (by decide +kernel)) ggX9_deriveRefusal_X9_isKind
set_option maxRecDepth 20000 in
theorem ggX9_deriveRefusal_X9_isUsage : GoodIn wsX9_deriveRefusal wsX9_isUsage := goodIn_r _ [18] rfl (by decide +kernel)
set_option maxRecDepth 20000 in
theorem gX9_deriveRefusal_X9_isUsage : GoodIn wsX9_deriveRefusal (va_wsS RX9 249 yX9_isUsage wsX9_isUsage) := goodIn_app (goodIn_of _ (by decide +kernel)) ggX9_deriveRefusal_X9_isUsage
set_option maxRecDepth 20000 in
theorem ggX9_deriveRefusal_X9_isKeyLength : GoodIn wsX9_deriveRefusal wsX9_isKeyLength := goodIn_r _ [21] rfl (by decide +kernel)
set_option maxRecDepth 20000 in
theorem gX9_deriveRefusal_X9_isKeyLength : GoodIn wsX9_deriveRefusal (va_wsS RX9 253 yX9_isKeyLength wsX9_isKeyLength) := goodIn_app (goodIn_of _ (by decide +kernel)) ggX9_deriveRefusal_X9_isKeyLength
set_option maxRecDepth 20000 in
theorem ggX9_deriveRefusal_X9_isForeign : GoodIn wsX9_deriveRefusal wsX9_isForeign := goodIn_r _ [25, 26, 27, 28, 29, 30, 31, 32, 33, 34, 35, 7, 36, 9, 64, 65, 66, 67, 68, 69, 45, 46, 47, 48, 49, 50, 51, 52, 53, 54, 55, 56, 57, 58, 59, 60, 61, 62, 63] rfl (by decide +kernel)
set_option maxRecDepth 20000 in
theorem gX9_deriveRefusal_X9_isForeign : GoodIn wsX9_deriveRefusal (wsV RX9 222 RX9 yX9_isForeign wsX9_isForeign) := goodIn_app (goodIn_of _ (by decide +kernel)) ggX9_deriveRefusal_X9_isForeign
set_option maxRecDepth 20000 in
theorem ggX9_deriveRefusal_X8_isEmpty : GoodIn wsX9_deriveRefusal wsX8_isEmpty := goodIn_r _ [31, 32, 64, 65, 66, 67, 68, 69] rfl (by decide +kernel)
set_option maxRecDepth 20000 in
theorem gX9_deriveRefusal_X8_isEmpty : GoodIn wsX9_deriveRefusal (wsV RX9 201 RX8 yX8_isEmpty wsX8_isEmpty) := goodIn_app (goodIn_of _ (by decide +kernel)) ggX9_deriveRefusal_X8_isEmpty
set_option maxRecDepth 20000 in
theorem ggX9_deriveRefusal_X9_lengthFits : GoodIn wsX9_deriveRefusal wsX9_lengthFits := goodIn_r _ [39, 19, 20, 7, 21] rfl (by decide +kernel)
set_option maxRecDepth 20000 in
theorem gX9_deriveRefusal_X9_lengthFits : GoodIn wsX9_deriveRefusal (va_wsS RX9 256 yX9_lengthFits wsX9_lengthFits) := goodIn_app (goodIn_of _ (by decide +kernel)) ggX9_deriveRefusal_X9_lengthFits
set_option maxRecDepth 20000 in
theorem ggX9_deriveRefusal_X8_allows : GoodIn wsX9_deriveRefusal wsX8_allows := goodIn_r _ [43, 44, 64, 65, 66, 67, 68, 69] rfl (by decide +kernel)
set_option maxRecDepth 20000 in
theorem gX9_deriveRefusal_X8_allows : GoodIn wsX9_deriveRefusal (wsV RX9 273 RX8 yX8_allows wsX8_allows) := goodIn_app (goodIn_of _ (by decide +kernel)) ggX9_deriveRefusal_X8_allows
def zT_X9_deriveRefusal_0 : List (Nat × Instr × Nat) := [(0, .aload_n 0, 1), (1, .invokevirtual 154, 3), (4, .ifCond .ne 5, 3), (7, .iconst (-1), 1), (8, .ireturn, 1), (9, .iload_n 1, 1), (10, .invokestatic 196, 3), (13, .ifCond .eq 25, 3), (16, .iload_n 2, 1), (17, .invokestatic 196, 3), (20, .ifCond .eq 18, 3), (23, .iload_n 3, 1), (24, .invokestatic 246, 3), (27, .ifCond .eq 11, 3), (30, .iload 4, 2), (32, .invokestatic 249, 3), (35, .ifCond .ne 6, 3), (38, .bipush (-2), 2), (40, .ireturn, 1), (41, .iload 5, 2), (43, .invokestatic 253, 3), (46, .ifCond .eq 15, 3), (49, .iload 6, 2), (51, .ifCond .lt 10, 3), (54, .iload 6, 2), (56, .bipush 64, 2), (58, .if_icmp .le 6, 3), (61, .bipush (-2), 2), (63, .ireturn, 1), (64, .aload_n 0, 1), (65, .getfield 15, 3), (68, .iload_n 2, 1), (69, .aaload, 1), (70, .astore 7, 2), (72, .aload_n 0, 1), (73, .aload 7, 2), (75, .invokevirtual 222, 3), (78, .ifCond .eq 6, 3), (81, .bipush (-3), 2), (83, .ireturn, 1), (84, .aload 7, 2), (86, .invokevirtual 201, 3), (89, .ifCond .ne 15, 3), (92, .aload_n 0, 1), (93, .getfield 15, 3), (96, .iload_n 1, 1), (97, .aaload, 1), (98, .invokevirtual 201, 3), (101, .ifCond .ne 6, 3), (104, .bipush (-4), 2), (106, .ireturn, 1), (107, .aload 7, 2), (109, .getfield 204, 3), (112, .iconst 2, 1), (113, .if_icmp .ne 12, 3), (116, .iload_n 3, 1), (117, .iload 5, 2), (119, .invokestatic 256, 3), (122, .ifCond .ne 6, 3), (125, .bipush (-5), 2), (127, .ireturn, 1), (128, .aload 7, 2), (130, .bipush 8, 2), (132, .invokevirtual 273, 3)]
theorem zt_X9_deriveRefusal_0 : zdt cX9_deriveRefusal zT_X9_deriveRefusal_0 = true := by decide +kernel
def zT_X9_deriveRefusal_1 : List (Nat × Instr × Nat) := [(135, .ifCond .ne 6, 3), (138, .bipush (-6), 2), (140, .ireturn, 1), (141, .aload 7, 2), (143, .getfield 216, 3), (146, .ifCond .ne 8, 3), (149, .bipush (-7), 2), (151, .goto 4, 3), (154, .iconst 0, 1), (155, .ireturn, 1)]
theorem zt_X9_deriveRefusal_1 : zdt cX9_deriveRefusal zT_X9_deriveRefusal_1 = true := by decide +kernel
set_option maxRecDepth 20000 in
theorem ggX9_deriveBytes_X9_putInt : GoodIn wsX9_deriveBytes wsX9_putInt := goodIn_r _ [14] rfl (by decide +kernel)
set_option maxRecDepth 20000 in
theorem gX9_deriveBytes_X9_putInt : GoodIn wsX9_deriveBytes (va_wsS RX9 282 yX9_putInt wsX9_putInt) := goodIn_app (goodIn_of _ (by decide +kernel)) ggX9_deriveBytes_X9_putInt
set_option maxRecDepth 20000 in
theorem ggX9_deriveBytes_X7_mac : GoodIn wsX9_deriveBytes wsX7_mac := goodIn_r _ [19, 20, 21, 22, 23, 18, 24, 25, 26, 27, 4, 5, 6, 28, 29, 30, 31, 32, 33, 34, 35, 36, 37, 38, 39, 40, 41, 42, 43, 44, 45, 46, 47, 48, 49, 50, 51, 52, 53, 54, 55, 56, 57, 12, 13, 14, 83, 84, 85, 86, 87, 88, 89, 90, 91] rfl (by decide +kernel)
set_option maxRecDepth 20000 in
theorem gX9_deriveBytes_X7_mac : GoodIn wsX9_deriveBytes (wsV RX9 289 RX7 yX7_mac wsX7_mac) := goodIn_app (goodIn_of _ (by decide +kernel)) ggX9_deriveBytes_X7_mac
def zT_X9_deriveBytes_0 : List (Nat × Instr × Nat) := [(0, .aload_n 0, 1), (1, .getfield 9, 3), (4, .iconst 0, 1), (5, .aload_n 0, 1), (6, .getfield 95, 3), (9, .iconst 4, 1), (10, .iload_n 3, 1), (11, .invokestatic 276, 3), (14, .iconst 0, 1), (15, .istore 4, 2), (17, .iload 4, 2), (19, .iload_n 2, 1), (20, .if_icmp .ge 53, 3), (23, .aload_n 0, 1), (24, .getfield 95, 3), (27, .iconst 0, 1), (28, .iload 4, 2), (30, .bipush 32, 2), (32, .idiv, 1), (33, .iconst 1, 1), (34, .iadd, 1), (35, .invokestatic 282, 3), (38, .aload_n 0, 1), (39, .getfield 45, 3), (42, .aload_n 1, 1), (43, .getfield 286, 3), (46, .aload_n 1, 1), (47, .getfield 207, 3), (50, .aload_n 0, 1), (51, .getfield 95, 3), (54, .iconst 0, 1), (55, .iconst 4, 1), (56, .iload_n 3, 1), (57, .iadd, 1), (58, .aload_n 0, 1), (59, .getfield 98, 3), (62, .iload 4, 2), (64, .invokevirtual 289, 3), (67, .iinc 4 32, 3), (70, .goto (-53), 3), (73, .return_, 1)]
theorem zt_X9_deriveBytes_0 : zdt cX9_deriveBytes zT_X9_deriveBytes_0 = true := by decide +kernel
set_option maxRecDepth 20000 in
theorem ggX9_wrap_X9_wrapAnswer : GoodIn wsX9_wrap wsX9_wrapAnswer := goodIn_r _ [5, 6, 7, 8, 9, 4, 10, 11, 12, 13, 14, 15, 16, 17, 18, 19, 20, 21, 22, 23, 24, 25, 26, 27, 28, 29, 30, 31, 32, 33, 34, 35, 36, 37, 38, 39, 40, 41, 42, 43, 44, 45, 46, 47, 48, 49, 50, 51, 52, 53, 54, 55, 56, 57, 58, 59, 60, 61, 62, 63, 64, 65, 66, 67, 68, 69, 70, 71, 72, 73, 74, 75, 76, 77, 78, 79, 80, 81, 82, 83, 84, 85, 86, 87, 88, 89, 90, 91, 92, 93, 94, 95, 96, 97, 98, 99, 100, 101, 102, 103, 104, 105, 106, 107, 108, 109, 110, 111, 112, 113, 114, 115, 116, 117, 118, 119, 120, 126, 127, 128, 129, 130, 131, 132, 133, 134, 135, 136, 137, 138, 139, 140, 141, 142, 143, 144, 145, 146, 147, 148, 149, 150, 151, 152, 153, 154, 155, 156, 157, 158, 159] rfl (by decide +kernel)
set_option maxRecDepth 20000 in
theorem gX9_wrap_X9_wrapAnswer : GoodIn wsX9_wrap (wsV RX9 293 RX9 yX9_wrapAnswer wsX9_wrapAnswer) := goodIn_app (goodIn_of _ (by decide +kernel)) ggX9_wrap_X9_wrapAnswer
set_option maxRecDepth 20000 in
theorem ggX9_wrap_X9_counted : GoodIn wsX9_wrap wsX9_counted := goodIn_r _ [124, 125, 126, 127, 128, 129, 130, 131, 132, 133, 134, 135, 136, 137, 138, 139, 140, 141, 142, 143, 144] rfl (by decide +kernel)
set_option maxRecDepth 20000 in
theorem gX9_wrap_X9_counted : GoodIn wsX9_wrap (wsV RX9 166 RX9 yX9_counted wsX9_counted) := goodIn_app (goodIn_of _ (by decide +kernel)) ggX9_wrap_X9_counted
def zT_X9_wrap_0 : List (Nat × Instr × Nat) := [(0, .aload_n 0, 1), (1, .aload_n 0, 1), (2, .iload_n 1, 1), (3, .iload_n 2, 1), (4, .invokevirtual 293, 3), (7, .invokevirtual 166, 3), (10, .ireturn, 1)]
theorem zt_X9_wrap_0 : zdt cX9_wrap zT_X9_wrap_0 = true := by decide +kernel
set_option maxRecDepth 20000 in
theorem ggX9_wrapAnswer_X9_loggedIn : GoodIn wsX9_wrapAnswer wsX9_loggedIn := goodIn_r _ [6, 7, 117, 118, 119, 120, 121, 122, 123, 124, 125, 126, 127, 128, 129, 130, 131, 132, 133, 134, 135] rfl (by decide +kernel)
set_option maxRecDepth 20000 in
theorem gX9_wrapAnswer_X9_loggedIn : GoodIn wsX9_wrapAnswer (wsV RX9 154 RX9 yX9_loggedIn wsX9_loggedIn) := goodIn_app (goodIn_of _ (by decide +kernel)) ggX9_wrapAnswer_X9_loggedIn
set_option maxRecDepth 20000 in
theorem ggX9_wrapAnswer_X9_isSlot : GoodIn wsX9_wrapAnswer wsX9_isSlot := goodIn_r _ [10] rfl (by decide +kernel)
set_option maxRecDepth 20000 in
theorem gX9_wrapAnswer_X9_isSlot : GoodIn wsX9_wrapAnswer (va_wsS RX9 196 yX9_isSlot wsX9_isSlot) := goodIn_app (goodIn_of _ (by decide +kernel)) ggX9_wrapAnswer_X9_isSlot
set_option maxRecDepth 20000 in
theorem ggX9_wrapAnswer_X9_wrapKeysRefusal : GoodIn wsX9_wrapAnswer wsX9_wrapKeysRefusal := goodIn_r _ [14, 15, 16, 17, 18, 19, 20, 5, 21, 22, 23, 24, 25, 26, 27, 28, 29, 30, 31, 32, 7, 33, 34, 35, 36, 37, 136, 137, 138, 139, 140, 141, 117, 118, 119, 120, 121, 122, 123, 124, 125, 126, 127, 128, 129, 130, 131, 132, 133, 134, 135] rfl (by decide +kernel)
set_option maxRecDepth 20000 in
theorem gX9_wrapAnswer_X9_wrapKeysRefusal : GoodIn wsX9_wrapAnswer (wsV RX9 296 RX9 yX9_wrapKeysRefusal wsX9_wrapKeysRefusal) := goodIn_app (goodIn_of _ (by decide +kernel)) ggX9_wrapAnswer_X9_wrapKeysRefusal
set_option maxRecDepth 20000 in
theorem ggX9_wrapAnswer_X9_wrapBytes : GoodIn wsX9_wrapAnswer wsX9_wrapBytes := goodIn_r _ [41, 16, 42, 15, 43, 22, 44, 45, 46, 47, 48, 49, 50, 51, 52, 53, 54, 26, 55, 56, 57, 58, 59, 60, 61, 62, 63, 64, 65, 66, 67, 68, 69, 70, 71, 72, 73, 74, 75, 76, 77, 5, 78, 79, 80, 81, 82, 83, 84, 85, 86, 87, 88, 89, 90, 91, 92, 93, 94, 95, 96, 97, 98, 99, 100, 101, 102, 103, 104, 105, 106, 107, 108, 109, 110, 111, 112, 113, 114, 115, 116, 136, 137, 138, 139, 140, 141, 117, 118, 119, 120, 121, 122, 123, 124, 125, 126, 127, 128, 129, 130, 131, 132, 133, 134, 135, 142, 143, 144, 145, 146, 147, 148, 149, 150] rfl (by decide +kernel)
set_option maxRecDepth 20000 in
theorem gX9_wrapAnswer_X9_wrapBytes : GoodIn wsX9_wrapAnswer (wsV RX9 300 RX9 yX9_wrapBytes wsX9_wrapBytes) := goodIn_app (goodIn_of _ (by decide +kernel)) ggX9_wrapAnswer_X9_wrapBytes
def zT_X9_wrapAnswer_0 : List (Nat × Instr × Nat) := [(0, .aload_n 0, 1), (1, .invokevirtual 154, 3), (4, .ifCond .ne 5, 3), (7, .iconst (-1), 1), (8, .ireturn, 1), (9, .iload_n 1, 1), (10, .invokestatic 196, 3), (13, .ifCond .eq 15, 3), (16, .iload_n 2, 1), (17, .invokestatic 196, 3), (20, .ifCond .eq 8, 3), (23, .iload_n 1, 1), (24, .iload_n 2, 1), (25, .if_icmp .ne 6, 3), (28, .bipush (-2), 2), (30, .ireturn, 1), (31, .aload_n 0, 1), (32, .aload_n 0, 1), (33, .getfield 15, 3), (36, .iload_n 1, 1), (37, .aaload, 1), (38, .aload_n 0, 1), (39, .getfield 15, 3), (42, .iload_n 2, 1), (43, .aaload, 1), (44, .invokevirtual 296, 3), (47, .istore_n 3, 1), (48, .iload_n 3, 1), (49, .ifCond .eq 5, 3), (52, .iload_n 3, 1), (53, .ireturn, 1), (54, .aload_n 0, 1), (55, .aload_n 0, 1), (56, .getfield 15, 3), (59, .iload_n 1, 1), (60, .aaload, 1), (61, .aload_n 0, 1), (62, .getfield 15, 3), (65, .iload_n 2, 1), (66, .aaload, 1), (67, .invokevirtual 300, 3), (70, .ireturn, 1)]
theorem zt_X9_wrapAnswer_0 : zdt cX9_wrapAnswer zT_X9_wrapAnswer_0 = true := by decide +kernel
set_option maxRecDepth 20000 in
theorem ggX9_wrapKeysRefusal_X9_isForeign : GoodIn wsX9_wrapKeysRefusal wsX9_isForeign := goodIn_r _ [8, 9, 10, 11, 12, 13, 14, 15, 16, 17, 18, 7, 19, 20, 26, 27, 28, 29, 30, 31, 32, 33, 34, 35, 36, 37, 38, 39, 40, 41, 42, 43, 44, 45, 46, 47, 48, 49, 50] rfl (by decide +kernel)
set_option maxRecDepth 20000 in
theorem gX9_wrapKeysRefusal_X9_isForeign : GoodIn wsX9_wrapKeysRefusal (wsV RX9 222 RX9 yX9_isForeign wsX9_isForeign) := goodIn_app (goodIn_of _ (by decide +kernel)) ggX9_wrapKeysRefusal_X9_isForeign
set_option maxRecDepth 20000 in
theorem ggX9_wrapKeysRefusal_X8_isEmpty : GoodIn wsX9_wrapKeysRefusal wsX8_isEmpty := goodIn_r _ [14, 15, 26, 27, 28, 29, 30, 31] rfl (by decide +kernel)
set_option maxRecDepth 20000 in
theorem gX9_wrapKeysRefusal_X8_isEmpty : GoodIn wsX9_wrapKeysRefusal (wsV RX9 201 RX8 yX8_isEmpty wsX8_isEmpty) := goodIn_app (goodIn_of _ (by decide +kernel)) ggX9_wrapKeysRefusal_X8_isEmpty
set_option maxRecDepth 20000 in
theorem ggX9_wrapKeysRefusal_X8_allows : GoodIn wsX9_wrapKeysRefusal wsX8_allows := goodIn_r _ [24, 25, 26, 27, 28, 29, 30, 31] rfl (by decide +kernel)
set_option maxRecDepth 20000 in
theorem gX9_wrapKeysRefusal_X8_allows : GoodIn wsX9_wrapKeysRefusal (wsV RX9 273 RX8 yX8_allows wsX8_allows) := goodIn_app (goodIn_of _ (by decide +kernel)) ggX9_wrapKeysRefusal_X8_allows
def zT_X9_wrapKeysRefusal_0 : List (Nat × Instr × Nat) := [(0, .aload_n 0, 1), (1, .aload_n 1, 1), (2, .invokevirtual 222, 3), (5, .ifCond .ne 11, 3), (8, .aload_n 0, 1), (9, .aload_n 2, 1), (10, .invokevirtual 222, 3), (13, .ifCond .eq 6, 3), (16, .bipush (-3), 2), (18, .ireturn, 1), (19, .aload_n 1, 1), (20, .invokevirtual 201, 3), (23, .ifCond .ne 10, 3), (26, .aload_n 2, 1), (27, .invokevirtual 201, 3), (30, .ifCond .eq 6, 3), (33, .bipush (-4), 2), (35, .ireturn, 1), (36, .aload_n 2, 1), (37, .getfield 204, 3), (40, .iconst 1, 1), (41, .if_icmp .ne 13, 3), (44, .aload_n 1, 1), (45, .getfield 207, 3), (48, .bipush 8, 2), (50, .irem, 1), (51, .ifCond .eq 6, 3), (54, .bipush (-5), 2), (56, .ireturn, 1), (57, .aload_n 2, 1), (58, .bipush 16, 2), (60, .invokevirtual 273, 3), (63, .ifCond .eq 12, 3), (66, .aload_n 1, 1), (67, .bipush 32, 2), (69, .invokevirtual 273, 3), (72, .ifCond .ne 6, 3), (75, .bipush (-6), 2), (77, .ireturn, 1), (78, .aload_n 1, 1), (79, .getfield 216, 3), (82, .ifCond .eq 10, 3), (85, .aload_n 2, 1), (86, .getfield 216, 3), (89, .ifCond .ne 8, 3), (92, .bipush (-7), 2), (94, .goto 4, 3), (97, .iconst 0, 1), (98, .ireturn, 1)]
theorem zt_X9_wrapKeysRefusal_0 : zdt cX9_wrapKeysRefusal zT_X9_wrapKeysRefusal_0 = true := by decide +kernel
set_option maxRecDepth 20000 in
theorem ggX9_wrapBytes_X8_takeUse : GoodIn wsX9_wrapBytes wsX8_takeUse := goodIn_r _ [18, 19, 81, 82, 83, 84, 85, 86] rfl (by decide +kernel)
set_option maxRecDepth 20000 in
theorem gX9_wrapBytes_X8_takeUse : GoodIn wsX9_wrapBytes (wsV RX9 262 RX8 yX8_takeUse wsX8_takeUse) := goodIn_app (goodIn_of _ (by decide +kernel)) ggX9_wrapBytes_X8_takeUse
set_option maxRecDepth 20000 in
theorem ggX9_wrapBytes_J7_fill_eb02e : GoodIn wsX9_wrapBytes wsJ7_fill_eb02e := goodIn_r _ [23, 24, 25, 22, 26, 27, 28, 29, 106, 107, 108, 109] rfl (by decide +kernel)
set_option maxRecDepth 20000 in
theorem gX9_wrapBytes_J7_fill_eb02e : GoodIn wsX9_wrapBytes (va_wsS RX9 303 yJ7_fill_eb02e wsJ7_fill_eb02e) := goodIn_app (goodIn_of _ (by decide +kernel)) ggX9_wrapBytes_J7_fill_eb02e
set_option maxRecDepth 20000 in
theorem ggX9_wrapBytes_X0_setKey : GoodIn wsX9_wrapBytes wsX0_setKey := goodIn_r _ [34, 35, 36, 37, 38, 39, 40, 41, 42, 43, 44, 33, 45, 46, 110, 111] rfl (by decide +kernel)
set_option maxRecDepth 20000 in
theorem gX9_wrapBytes_X0_setKey : GoodIn wsX9_wrapBytes (wsV RX9 306 RX0 yX0_setKey wsX0_setKey) := goodIn_app (goodIn_of _ (by decide +kernel)) ggX9_wrapBytes_X0_setKey
set_option maxRecDepth 20000 in
theorem ggX9_wrapBytes_X4_wrapIn : GoodIn wsX9_wrapBytes wsX4_wrapIn := goodIn_r _ [51, 52, 53, 54, 8, 9, 10, 55, 56, 41, 57, 58, 59, 60, 61, 62, 63, 33, 64, 36, 35, 40, 42, 43, 44, 45, 46, 65, 66, 67, 68, 69, 70, 71, 72, 73, 112, 113, 114, 110, 111] rfl (by decide +kernel)
set_option maxRecDepth 20000 in
theorem gX9_wrapBytes_X4_wrapIn : GoodIn wsX9_wrapBytes (wsV RX9 310 RX4 yX4_wrapIn wsX4_wrapIn) := goodIn_app (goodIn_of _ (by decide +kernel)) ggX9_wrapBytes_X4_wrapIn
set_option maxRecDepth 20000 in
theorem ggX9_wrapBytes_X9_forgetSecret : GoodIn wsX9_wrapBytes wsX9_forgetSecret := goodIn_r _ [77, 2, 78, 79, 22, 80, 87, 88, 89, 90, 91, 92, 93, 94, 95, 96, 97, 98, 99, 100, 101, 102, 103, 104, 105] rfl (by decide +kernel)
set_option maxRecDepth 20000 in
theorem gX9_wrapBytes_X9_forgetSecret : GoodIn wsX9_wrapBytes (wsV RX9 243 RX9 yX9_forgetSecret wsX9_forgetSecret) := goodIn_app (goodIn_of _ (by decide +kernel)) ggX9_wrapBytes_X9_forgetSecret
def zT_X9_wrapBytes_0 : List (Nat × Instr × Nat) := [(0, .aload_n 1, 1), (1, .invokevirtual 262, 3), (4, .aload_n 2, 1), (5, .invokevirtual 262, 3), (8, .aload_n 1, 1), (9, .getfield 207, 3), (12, .bipush 16, 2), (14, .iadd, 1), (15, .istore_n 3, 1), (16, .aload_n 0, 1), (17, .getfield 98, 3), (20, .bipush 8, 2), (22, .aload_n 1, 1), (23, .getfield 204, 3), (26, .i2b, 1), (27, .bastore, 1), (28, .aload_n 0, 1), (29, .getfield 98, 3), (32, .bipush 9, 2), (34, .aload_n 1, 1), (35, .getfield 210, 3), (38, .i2b, 1), (39, .bastore, 1), (40, .aload_n 0, 1), (41, .getfield 98, 3), (44, .bipush 10, 2), (46, .aload_n 1, 1), (47, .getfield 213, 3), (50, .i2b, 1), (51, .bastore, 1), (52, .aload_n 0, 1), (53, .getfield 98, 3), (56, .bipush 11, 2), (58, .bipush 16, 2), (60, .iconst 0, 1), (61, .invokestatic 303, 3), (64, .aload_n 1, 1), (65, .getfield 286, 3), (68, .iconst 0, 1), (69, .aload_n 0, 1), (70, .getfield 98, 3), (73, .bipush 16, 2), (75, .aload_n 1, 1), (76, .getfield 207, 3), (79, .invokestatic 276, 3), (82, .aload_n 0, 1), (83, .getfield 55, 3), (86, .aload_n 2, 1), (87, .getfield 286, 3), (90, .aload_n 2, 1), (91, .getfield 207, 3), (94, .invokevirtual 306, 3), (97, .aload_n 0, 1), (98, .getfield 64, 3), (101, .aload_n 0, 1), (102, .getfield 98, 3), (105, .iload_n 3, 1), (106, .invokevirtual 310, 3), (109, .aload_n 0, 1), (110, .getfield 98, 3), (113, .iconst 0, 1), (114, .aload_n 0, 1), (115, .getfield 9, 3), (118, .iconst 0, 1)]
theorem zt_X9_wrapBytes_0 : zdt cX9_wrapBytes zT_X9_wrapBytes_0 = true := by decide +kernel
def zT_X9_wrapBytes_1 : List (Nat × Instr × Nat) := [(119, .iload_n 3, 1), (120, .invokestatic 276, 3), (123, .aload_n 0, 1), (124, .invokevirtual 243, 3), (127, .iload_n 3, 1), (128, .ireturn, 1)]
theorem zt_X9_wrapBytes_1 : zdt cX9_wrapBytes zT_X9_wrapBytes_1 = true := by decide +kernel
set_option maxRecDepth 20000 in
theorem ggX9_unwrap_X9_unwrapAnswer : GoodIn wsX9_unwrap wsX9_unwrapAnswer := goodIn_r _ [5, 6, 7, 8, 9, 4, 10, 11, 12, 13, 14, 15, 16, 17, 18, 19, 20, 21, 22, 23, 24, 25, 26, 27, 28, 29, 30, 31, 32, 33, 34, 35, 36, 37, 38, 39, 40, 41, 42, 43, 44, 45, 46, 47, 48, 49, 50, 51, 52, 53, 54, 55, 56, 57, 58, 59, 60, 61, 62, 63, 64, 65, 66, 67, 68, 69, 70, 71, 72, 73, 74, 75, 76, 77, 78, 79, 80, 81, 82, 83, 84, 85, 86, 87, 88, 89, 90, 91, 92, 93, 94, 95, 96, 97, 98, 99, 100, 101, 102, 103, 104, 105, 106, 107, 108, 109, 110, 111, 112, 113, 114, 115, 116, 117, 118, 119, 120, 121, 122, 123, 124, 125, 126, 127, 128, 129, 130, 131, 132, 133, 134, 135, 136, 137, 138, 139, 140, 141, 142, 143, 144, 150, 151, 152, 153, 154, 155, 156, 157, 158, 159, 160, 161, 162, 163, 164, 165, 166, 167, 168, 169, 170, 171, 172, 173, 174, 175, 176, 177, 178, 179] rfl (by decide +kernel)
set_option maxRecDepth 20000 in
theorem gX9_unwrap_X9_unwrapAnswer : GoodIn wsX9_unwrap (wsV RX9 313 RX9 yX9_unwrapAnswer wsX9_unwrapAnswer) := goodIn_app (goodIn_of _ (by decide +kernel)) ggX9_unwrap_X9_unwrapAnswer
set_option maxRecDepth 20000 in
theorem ggX9_unwrap_X9_counted : GoodIn wsX9_unwrap wsX9_counted := goodIn_r _ [148, 149, 150, 151, 152, 153, 154, 155, 156, 157, 158, 159, 160, 161, 162, 163, 164, 165, 166, 167, 168] rfl (by decide +kernel)
set_option maxRecDepth 20000 in
theorem gX9_unwrap_X9_counted : GoodIn wsX9_unwrap (wsV RX9 166 RX9 yX9_counted wsX9_counted) := goodIn_app (goodIn_of _ (by decide +kernel)) ggX9_unwrap_X9_counted
def zT_X9_unwrap_0 : List (Nat × Instr × Nat) := [(0, .aload_n 0, 1), (1, .aload_n 0, 1), (2, .iload_n 1, 1), (3, .iload_n 2, 1), (4, .iload_n 3, 1), (5, .invokevirtual 313, 3), (8, .invokevirtual 166, 3), (11, .ireturn, 1)]
theorem zt_X9_unwrap_0 : zdt cX9_unwrap zT_X9_unwrap_0 = true := by decide +kernel
set_option maxRecDepth 20000 in
theorem ggX9_unwrapAnswer_X9_loggedIn : GoodIn wsX9_unwrapAnswer wsX9_loggedIn := goodIn_r _ [6, 7, 141, 142, 143, 144, 145, 146, 147, 148, 149, 150, 151, 152, 153, 154, 155, 156, 157, 158, 159] rfl (by decide +kernel)
set_option maxRecDepth 20000 in
theorem gX9_unwrapAnswer_X9_loggedIn : GoodIn wsX9_unwrapAnswer (wsV RX9 154 RX9 yX9_loggedIn wsX9_loggedIn) := goodIn_app (goodIn_of _ (by decide +kernel)) ggX9_unwrapAnswer_X9_loggedIn
set_option maxRecDepth 20000 in
theorem ggX9_unwrapAnswer_X9_isSlot : GoodIn wsX9_unwrapAnswer wsX9_isSlot := goodIn_r _ [10] rfl (by decide +kernel)
set_option maxRecDepth 20000 in
theorem gX9_unwrapAnswer_X9_isSlot : GoodIn wsX9_unwrapAnswer (va_wsS RX9 196 yX9_isSlot wsX9_isSlot) := goodIn_app (goodIn_of _ (by decide +kernel)) ggX9_unwrapAnswer_X9_isSlot
set_option maxRecDepth 20000 in
theorem ggX9_unwrapAnswer_X9_isForeign : GoodIn wsX9_unwrapAnswer wsX9_isForeign := goodIn_r _ [14, 15, 16, 17, 18, 19, 20, 21, 22, 23, 24, 5, 25, 7, 160, 161, 162, 163, 164, 165, 141, 142, 143, 144, 145, 146, 147, 148, 149, 150, 151, 152, 153, 154, 155, 156, 157, 158, 159] rfl (by decide +kernel)
set_option maxRecDepth 20000 in
theorem gX9_unwrapAnswer_X9_isForeign : GoodIn wsX9_unwrapAnswer (wsV RX9 222 RX9 yX9_isForeign wsX9_isForeign) := goodIn_app (goodIn_of _ (by decide +kernel)) ggX9_unwrapAnswer_X9_isForeign
set_option maxRecDepth 20000 in
theorem ggX9_unwrapAnswer_X8_isEmpty : GoodIn wsX9_unwrapAnswer wsX8_isEmpty := goodIn_r _ [20, 21, 160, 161, 162, 163, 164, 165] rfl (by decide +kernel)
set_option maxRecDepth 20000 in
theorem gX9_unwrapAnswer_X8_isEmpty : GoodIn wsX9_unwrapAnswer (wsV RX9 201 RX8 yX8_isEmpty wsX8_isEmpty) := goodIn_app (goodIn_of _ (by decide +kernel)) ggX9_unwrapAnswer_X8_isEmpty
set_option maxRecDepth 20000 in
theorem ggX9_unwrapAnswer_X9_keyRefusal : GoodIn wsX9_unwrapAnswer wsX9_keyRefusal := goodIn_r _ [29, 30, 31, 11, 12, 13, 5, 14, 15, 16, 17, 18, 19, 20, 21, 22, 23, 24, 25, 7, 32, 33, 34, 35, 36, 160, 161, 162, 163, 164, 165, 141, 142, 143, 144, 145, 146, 147, 148, 149, 150, 151, 152, 153, 154, 155, 156, 157, 158, 159] rfl (by decide +kernel)
set_option maxRecDepth 20000 in
theorem gX9_unwrapAnswer_X9_keyRefusal : GoodIn wsX9_unwrapAnswer (wsV RX9 317 RX9 yX9_keyRefusal wsX9_keyRefusal) := goodIn_app (goodIn_of _ (by decide +kernel)) ggX9_unwrapAnswer_X9_keyRefusal
set_option maxRecDepth 20000 in
theorem ggX9_unwrapAnswer_X9_unwrapBytes : GoodIn wsX9_unwrapAnswer wsX9_unwrapBytes := goodIn_r _ [40, 41, 42, 43, 44, 45, 46, 47, 48, 49, 50, 51, 52, 53, 19, 54, 55, 56, 57, 58, 59, 60, 61, 62, 63, 64, 65, 66, 5, 67, 68, 69, 70, 71, 72, 73, 74, 75, 76, 77, 78, 79, 80, 81, 82, 83, 84, 85, 86, 87, 88, 89, 90, 91, 92, 93, 94, 95, 96, 97, 98, 99, 100, 101, 102, 103, 104, 105, 106, 107, 108, 109, 110, 111, 112, 113, 114, 115, 116, 117, 118, 119, 120, 121, 122, 123, 124, 22, 23, 24, 25, 7, 125, 126, 127, 128, 21, 36, 129, 130, 131, 132, 133, 134, 135, 136, 137, 138, 139, 140, 141, 142, 143, 144, 145, 146, 147, 148, 149, 150, 151, 152, 153, 154, 155, 156, 157, 158, 159, 160, 161, 162, 163, 164, 165, 166, 167, 168, 169, 170] rfl (by decide +kernel)
set_option maxRecDepth 20000 in
theorem gX9_unwrapAnswer_X9_unwrapBytes : GoodIn wsX9_unwrapAnswer (wsV RX9 321 RX9 yX9_unwrapBytes wsX9_unwrapBytes) := goodIn_app (goodIn_of _ (by decide +kernel)) ggX9_unwrapAnswer_X9_unwrapBytes
def zT_X9_unwrapAnswer_0 : List (Nat × Instr × Nat) := [(0, .aload_n 0, 1), (1, .invokevirtual 154, 3), (4, .ifCond .ne 5, 3), (7, .iconst (-1), 1), (8, .ireturn, 1), (9, .iload_n 1, 1), (10, .invokestatic 196, 3), (13, .ifCond .eq 10, 3), (16, .iload_n 2, 1), (17, .invokestatic 196, 3), (20, .ifCond .ne 6, 3), (23, .bipush (-2), 2), (25, .ireturn, 1), (26, .iload_n 3, 1), (27, .bipush 24, 2), (29, .if_icmp .lt 16, 3), (32, .iload_n 3, 1), (33, .bipush 80, 2), (35, .if_icmp .gt 10, 3), (38, .iload_n 3, 1), (39, .bipush 8, 2), (41, .irem, 1), (42, .ifCond .eq 6, 3), (45, .bipush (-2), 2), (47, .ireturn, 1), (48, .aload_n 0, 1), (49, .getfield 15, 3), (52, .iload_n 2, 1), (53, .aaload, 1), (54, .astore 4, 2), (56, .aload_n 0, 1), (57, .aload 4, 2), (59, .invokevirtual 222, 3), (62, .ifCond .eq 6, 3), (65, .bipush (-3), 2), (67, .ireturn, 1), (68, .aload_n 0, 1), (69, .getfield 15, 3), (72, .iload_n 1, 1), (73, .aaload, 1), (74, .invokevirtual 201, 3), (77, .ifCond .ne 6, 3), (80, .bipush (-4), 2), (82, .ireturn, 1), (83, .aload_n 0, 1), (84, .aload 4, 2), (86, .iconst 1, 1), (87, .bipush 16, 2), (89, .invokevirtual 317, 3), (92, .istore 5, 2), (94, .iload 5, 2), (96, .ifCond .eq 6, 3), (99, .iload 5, 2), (101, .ireturn, 1), (102, .aload_n 0, 1), (103, .aload_n 0, 1), (104, .getfield 15, 3), (107, .iload_n 1, 1), (108, .aaload, 1), (109, .aload 4, 2), (111, .iload_n 3, 1), (112, .invokevirtual 321, 3), (115, .ireturn, 1)]
theorem zt_X9_unwrapAnswer_0 : zdt cX9_unwrapAnswer zT_X9_unwrapAnswer_0 = true := by decide +kernel
