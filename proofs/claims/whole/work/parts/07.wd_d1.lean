set_option maxRecDepth 20000 in
theorem ggX9_unwrapBytes_X8_takeUse : GoodIn wsX9_unwrapBytes wsX8_takeUse := goodIn_r _ [15, 16, 129, 130, 131, 132, 133, 134] rfl (by decide +kernel)
set_option maxRecDepth 20000 in
theorem gX9_unwrapBytes_X8_takeUse : GoodIn wsX9_unwrapBytes (wsV RX9 262 RX8 yX8_takeUse wsX8_takeUse) := goodIn_app (goodIn_of _ (by decide +kernel)) ggX9_unwrapBytes_X8_takeUse
set_option maxRecDepth 20000 in
theorem ggX9_unwrapBytes_X0_setKey : GoodIn wsX9_unwrapBytes wsX0_setKey := goodIn_r _ [21, 22, 23, 24, 25, 26, 27, 28, 29, 30, 31, 20, 32, 33, 135, 136] rfl (by decide +kernel)
set_option maxRecDepth 20000 in
theorem gX9_unwrapBytes_X0_setKey : GoodIn wsX9_unwrapBytes (wsV RX9 306 RX0 yX0_setKey wsX0_setKey) := goodIn_app (goodIn_of _ (by decide +kernel)) ggX9_unwrapBytes_X0_setKey
set_option maxRecDepth 20000 in
theorem ggX9_unwrapBytes_X4_wrapOut : GoodIn wsX9_unwrapBytes wsX4_wrapOut := goodIn_r _ [38, 39, 40, 4, 5, 6, 41, 42, 43, 28, 44, 45, 46, 27, 29, 47, 48, 49, 50, 51, 52, 53, 54, 20, 55, 22, 23, 56, 57, 58, 59, 60, 61, 62, 63, 64, 65, 66, 67, 68, 137, 138, 139, 135, 136] rfl (by decide +kernel)
set_option maxRecDepth 20000 in
theorem gX9_unwrapBytes_X4_wrapOut : GoodIn wsX9_unwrapBytes (wsV RX9 325 RX4 yX4_wrapOut wsX4_wrapOut) := goodIn_app (goodIn_of _ (by decide +kernel)) ggX9_unwrapBytes_X4_wrapOut
set_option maxRecDepth 20000 in
theorem ggX9_unwrapBytes_X9_isWrappedHead : GoodIn wsX9_unwrapBytes wsX9_isWrappedHead := goodIn_r _ [71, 72, 73, 28, 74, 75, 76, 77, 78, 79, 80, 81, 82, 83, 84, 85, 86] rfl (by decide +kernel)
set_option maxRecDepth 20000 in
theorem gX9_unwrapBytes_X9_isWrappedHead : GoodIn wsX9_unwrapBytes (va_wsS RX9 329 yX9_isWrappedHead wsX9_isWrappedHead) := goodIn_app (goodIn_of _ (by decide +kernel)) ggX9_unwrapBytes_X9_isWrappedHead
set_option maxRecDepth 20000 in
theorem ggX9_unwrapBytes_X9_holder : GoodIn wsX9_unwrapBytes wsX9_holder := goodIn_r _ [90, 91, 110, 111, 112, 113, 114, 115, 116, 117, 118, 119, 120, 121, 122, 123, 124, 125, 126, 127, 128] rfl (by decide +kernel)
set_option maxRecDepth 20000 in
theorem gX9_unwrapBytes_X9_holder : GoodIn wsX9_unwrapBytes (wsV RX9 269 RX9 yX9_holder wsX9_holder) := goodIn_app (goodIn_of _ (by decide +kernel)) ggX9_unwrapBytes_X9_holder
set_option maxRecDepth 20000 in
theorem ggX9_unwrapBytes_X8_fill : GoodIn wsX9_unwrapBytes wsX8_fill := goodIn_r _ [95, 96, 97, 98, 16, 99, 100, 101, 4, 5, 6, 129, 130, 131, 132, 133, 134] rfl (by decide +kernel)
set_option maxRecDepth 20000 in
theorem gX9_unwrapBytes_X8_fill : GoodIn wsX9_unwrapBytes (wsV RX9 236 RX8 yX8_fill wsX8_fill) := goodIn_app (goodIn_of _ (by decide +kernel)) ggX9_unwrapBytes_X8_fill
set_option maxRecDepth 20000 in
theorem ggX9_unwrapBytes_X9_forgetSecret : GoodIn wsX9_unwrapBytes wsX9_forgetSecret := goodIn_r _ [105, 2, 106, 107, 108, 109, 110, 111, 112, 113, 114, 115, 116, 117, 118, 119, 120, 121, 122, 123, 124, 125, 126, 127, 128] rfl (by decide +kernel)
set_option maxRecDepth 20000 in
theorem gX9_unwrapBytes_X9_forgetSecret : GoodIn wsX9_unwrapBytes (wsV RX9 243 RX9 yX9_forgetSecret wsX9_forgetSecret) := goodIn_app (goodIn_of _ (by decide +kernel)) ggX9_unwrapBytes_X9_forgetSecret
def zT_X9_unwrapBytes_0 : List (Nat × Instr × Nat) := [(0, .aload_n 2, 1), (1, .invokevirtual 262, 3), (4, .aload_n 0, 1), (5, .getfield 9, 3), (8, .iconst 0, 1), (9, .aload_n 0, 1), (10, .getfield 98, 3), (13, .iconst 0, 1), (14, .iload_n 3, 1), (15, .invokestatic 276, 3), (18, .aload_n 0, 1), (19, .getfield 55, 3), (22, .aload_n 2, 1), (23, .getfield 286, 3), (26, .aload_n 2, 1), (27, .getfield 207, 3), (30, .invokevirtual 306, 3), (33, .aload_n 0, 1), (34, .getfield 64, 3), (37, .aload_n 0, 1), (38, .getfield 98, 3), (41, .iload_n 3, 1), (42, .invokevirtual 325, 3), (45, .ifCond .eq 21, 3), (48, .aload_n 0, 1), (49, .getfield 98, 3), (52, .iload_n 3, 1), (53, .bipush 16, 2), (55, .isub, 1), (56, .invokestatic 329, 3), (59, .ifCond .eq 7, 3), (62, .iconst 1, 1), (63, .goto 4, 3), (66, .iconst 0, 1), (67, .istore 4, 2), (69, .iload 4, 2), (71, .ifCond .eq 36, 3), (74, .aload_n 1, 1), (75, .aload_n 0, 1), (76, .getfield 98, 3), (79, .bipush 8, 2), (81, .baload, 1), (82, .aload_n 0, 1), (83, .getfield 98, 3), (86, .bipush 9, 2), (88, .baload, 1), (89, .aload_n 0, 1), (90, .invokevirtual 269, 3), (93, .iconst (-1), 1), (94, .aload_n 0, 1), (95, .getfield 98, 3), (98, .bipush 16, 2), (100, .iload_n 3, 1), (101, .bipush 16, 2), (103, .isub, 1), (104, .invokevirtual 236, 3), (107, .aload_n 0, 1), (108, .invokevirtual 243, 3), (111, .iload 4, 2), (113, .ifCond .eq 7, 3), (116, .iconst 0, 1), (117, .goto 5, 3), (120, .bipush (-9), 2), (122, .ireturn, 1)]
theorem zt_X9_unwrapBytes_0 : zdt cX9_unwrapBytes zT_X9_unwrapBytes_0 = true := by decide +kernel
set_option maxRecDepth 20000 in
theorem ggX9_isWrappedHead_X9_isKind : GoodIn wsX9_isWrappedHead wsX9_isKind := goodIn_r _ [4] rfl (by decide +kernel)
set_option maxRecDepth 20000 in
theorem gX9_isWrappedHead_X9_isKind : GoodIn wsX9_isWrappedHead (va_wsS RX9 246 yX9_isKind wsX9_isKind) := goodIn_app (goodIn_of _ (by decide +kernel)) ggX9_isWrappedHead_X9_isKind
set_option maxRecDepth 20000 in
theorem ggX9_isWrappedHead_X9_lengthFits : GoodIn wsX9_isWrappedHead wsX9_lengthFits := goodIn_r _ [7, 8, 9, 3, 10] rfl (by decide +kernel)
set_option maxRecDepth 20000 in
theorem gX9_isWrappedHead_X9_lengthFits : GoodIn wsX9_isWrappedHead (va_wsS RX9 256 yX9_lengthFits wsX9_lengthFits) := goodIn_app (goodIn_of _ (by decide +kernel)) ggX9_isWrappedHead_X9_lengthFits
set_option maxRecDepth 20000 in
theorem ggX9_isWrappedHead_X9_isUsage : GoodIn wsX9_isWrappedHead wsX9_isUsage := goodIn_r _ [13] rfl (by decide +kernel)
set_option maxRecDepth 20000 in
theorem gX9_isWrappedHead_X9_isUsage : GoodIn wsX9_isWrappedHead (va_wsS RX9 249 yX9_isUsage wsX9_isUsage) := goodIn_app (goodIn_of _ (by decide +kernel)) ggX9_isWrappedHead_X9_isUsage
set_option maxRecDepth 20000 in
theorem ggX9_isWrappedHead_X9_isRole : GoodIn wsX9_isWrappedHead wsX9_isRole := goodIn_r _ [16] rfl (by decide +kernel)
set_option maxRecDepth 20000 in
theorem gX9_isWrappedHead_X9_isRole : GoodIn wsX9_isWrappedHead (va_wsS RX9 170 yX9_isRole wsX9_isRole) := goodIn_app (goodIn_of _ (by decide +kernel)) ggX9_isWrappedHead_X9_isRole
def zT_X9_isWrappedHead_0 : List (Nat × Instr × Nat) := [(0, .iconst 1, 1), (1, .istore_n 2, 1), (2, .bipush 11, 2), (4, .istore_n 3, 1), (5, .iload_n 3, 1), (6, .bipush 16, 2), (8, .if_icmp .ge 25, 3), (11, .iload_n 2, 1), (12, .ifCond .eq 13, 3), (15, .aload_n 0, 1), (16, .iload_n 3, 1), (17, .baload, 1), (18, .ifCond .ne 7, 3), (21, .iconst 1, 1), (22, .goto 4, 3), (25, .iconst 0, 1), (26, .istore_n 2, 1), (27, .iinc 3 1, 3), (30, .goto (-25), 3), (33, .iload_n 2, 1), (34, .ifCond .eq 58, 3), (37, .aload_n 0, 1), (38, .bipush 8, 2), (40, .baload, 1), (41, .invokestatic 246, 3), (44, .ifCond .eq 48, 3), (47, .aload_n 0, 1), (48, .bipush 8, 2), (50, .baload, 1), (51, .iload_n 1, 1), (52, .invokestatic 256, 3), (55, .ifCond .eq 37, 3), (58, .aload_n 0, 1), (59, .bipush 9, 2), (61, .baload, 1), (62, .invokestatic 249, 3), (65, .ifCond .eq 27, 3), (68, .aload_n 0, 1), (69, .bipush 9, 2), (71, .baload, 1), (72, .bipush 32, 2), (74, .iand, 1), (75, .ifCond .eq 17, 3), (78, .aload_n 0, 1), (79, .bipush 10, 2), (81, .baload, 1), (82, .invokestatic 170, 3), (85, .ifCond .eq 7, 3), (88, .iconst 1, 1), (89, .goto 4, 3), (92, .iconst 0, 1), (93, .ireturn, 1)]
theorem zt_X9_isWrappedHead_0 : zdt cX9_isWrappedHead zT_X9_isWrappedHead_0 = true := by decide +kernel
set_option maxRecDepth 20000 in
theorem ggX9_run_X9_runRefusal : GoodIn wsX9_run wsX9_runRefusal := goodIn_r _ [5, 6, 7, 8, 9, 4, 10, 11, 12, 13, 14, 15, 16, 17, 18, 19, 20, 21, 22, 23, 24, 25, 26, 27, 28, 29, 30, 31, 32, 33, 34, 35, 36, 37, 38, 39, 40, 41, 42, 43, 44, 45, 46, 47, 48, 49, 315, 316, 317, 318, 319, 320, 321, 322, 323, 324, 325, 326, 327, 328, 329, 330, 331, 332, 333, 334, 335, 336, 337, 338, 339] rfl (by decide +kernel)
set_option maxRecDepth 20000 in
theorem gX9_run_X9_runRefusal : GoodIn wsX9_run (wsV RX9 332 RX9 yX9_runRefusal wsX9_runRefusal) := goodIn_app (goodIn_of _ (by decide +kernel)) ggX9_run_X9_runRefusal
set_option maxRecDepth 20000 in
theorem ggX9_run_X9_served : GoodIn wsX9_run wsX9_served := goodIn_r _ [53, 54, 55, 6, 56, 57, 58, 59, 60, 61, 62, 63, 64, 65, 66, 67, 68, 69, 70, 71, 72, 73, 74, 75, 76, 77, 78, 79, 80, 81, 82, 83, 84, 85, 86, 87, 88, 89, 90, 91, 92, 93, 94, 95, 96, 4, 97, 98, 99, 100, 101, 102, 103, 104, 105, 106, 107, 108, 109, 110, 111, 112, 113, 114, 115, 116, 117, 118, 119, 120, 121, 122, 123, 124, 125, 126, 127, 128, 129, 130, 131, 132, 133, 134, 135, 136, 137, 138, 139, 140, 141, 142, 143, 144, 145, 146, 147, 148, 149, 150, 151, 152, 153, 154, 155, 156, 157, 158, 159, 160, 161, 162, 163, 164, 165, 166, 167, 168, 169, 38, 170, 171, 172, 173, 174, 175, 176, 177, 178, 179, 180, 181, 182, 183, 184, 185, 186, 187, 188, 189, 190, 191, 192, 193, 194, 195, 196, 197, 198, 199, 200, 201, 202, 203, 204, 205, 206, 207, 208, 209, 210, 211, 212, 213, 214, 215, 216, 217, 218, 219, 220, 221, 222, 223, 224, 225, 226, 227, 228, 229, 230, 231, 232, 233, 234, 235, 236, 237, 238, 239, 240, 241, 242, 243, 244, 245, 246, 247, 248, 249, 250, 251, 252, 253, 254, 255, 256, 257, 258, 259, 260, 261, 262, 263, 264, 265, 266, 267, 268, 269, 270, 271, 272, 273, 274, 275, 276, 277, 278, 279, 280, 281, 282, 283, 284, 285, 286, 287, 288, 289, 290, 291, 292, 293, 294, 295, 296, 297, 298, 299, 300, 301, 302, 303, 304, 305, 306, 307, 308, 309, 315, 316, 317, 318, 319, 320, 321, 322, 323, 324, 325, 326, 327, 328, 329, 330, 331, 332, 333, 334, 335, 336, 337, 338, 339, 340, 341, 342, 343, 344, 345, 346, 347, 348, 349, 350, 351, 352, 353, 354, 355, 356, 357, 358, 359, 360, 361, 362, 363, 364, 365, 366, 367, 368, 369, 370, 371, 372, 373, 374] rfl (by decide +kernel)
set_option maxRecDepth 20000 in
theorem gX9_run_X9_served : GoodIn wsX9_run (wsV RX9 336 RX9 yX9_served wsX9_served) := goodIn_app (goodIn_of _ (by decide +kernel)) ggX9_run_X9_served
set_option maxRecDepth 20000 in
theorem ggX9_run_X9_counted : GoodIn wsX9_run wsX9_counted := goodIn_r _ [313, 314, 315, 316, 317, 318, 319, 320, 321, 322, 323, 324, 325, 326, 327, 328, 329, 330, 331, 332, 333] rfl (by decide +kernel)
set_option maxRecDepth 20000 in
theorem gX9_run_X9_counted : GoodIn wsX9_run (wsV RX9 166 RX9 yX9_counted wsX9_counted) := goodIn_app (goodIn_of _ (by decide +kernel)) ggX9_run_X9_counted
def zT_X9_run_0 : List (Nat × Instr × Nat) := [(0, .aload_n 0, 1), (1, .iload_n 1, 1), (2, .iload_n 2, 1), (3, .iload_n 3, 1), (4, .iload 4, 2), (6, .iload 5, 2), (8, .invokevirtual 332, 3), (11, .istore 6, 2), (13, .iload 6, 2), (15, .ifCond .ne 16, 3), (18, .aload_n 0, 1), (19, .iload_n 1, 1), (20, .iload_n 2, 1), (21, .iload_n 3, 1), (22, .iload 4, 2), (24, .iload 5, 2), (26, .invokevirtual 336, 3), (29, .istore 6, 2), (31, .aload_n 0, 1), (32, .iload 6, 2), (34, .invokevirtual 166, 3), (37, .ireturn, 1)]
theorem zt_X9_run_0 : zdt cX9_run zT_X9_run_0 = true := by decide +kernel
set_option maxRecDepth 20000 in
theorem ggX9_runRefusal_X9_loggedIn : GoodIn wsX9_runRefusal wsX9_loggedIn := goodIn_r _ [6, 7, 46, 47, 48, 49, 50, 51, 52, 53, 54, 55, 56, 57, 58, 59, 60, 61, 62, 63, 64] rfl (by decide +kernel)
set_option maxRecDepth 20000 in
theorem gX9_runRefusal_X9_loggedIn : GoodIn wsX9_runRefusal (wsV RX9 154 RX9 yX9_loggedIn wsX9_loggedIn) := goodIn_app (goodIn_of _ (by decide +kernel)) ggX9_runRefusal_X9_loggedIn
set_option maxRecDepth 20000 in
theorem ggX9_runRefusal_X9_placesFit : GoodIn wsX9_runRefusal wsX9_placesFit := goodIn_r _ [10, 11, 12, 5, 13] rfl (by decide +kernel)
set_option maxRecDepth 20000 in
theorem gX9_runRefusal_X9_placesFit : GoodIn wsX9_runRefusal (va_wsS RX9 339 yX9_placesFit wsX9_placesFit) := goodIn_app (goodIn_of _ (by decide +kernel)) ggX9_runRefusal_X9_placesFit
set_option maxRecDepth 20000 in
theorem ggX9_runRefusal_X9_isSlot : GoodIn wsX9_runRefusal wsX9_isSlot := goodIn_r _ [16] rfl (by decide +kernel)
set_option maxRecDepth 20000 in
theorem gX9_runRefusal_X9_isSlot : GoodIn wsX9_runRefusal (va_wsS RX9 196 yX9_isSlot wsX9_isSlot) := goodIn_app (goodIn_of _ (by decide +kernel)) ggX9_runRefusal_X9_isSlot
set_option maxRecDepth 20000 in
theorem ggX9_runRefusal_X9_bitFor : GoodIn wsX9_runRefusal wsX9_bitFor := goodIn_r _ [19] rfl (by decide +kernel)
set_option maxRecDepth 20000 in
theorem gX9_runRefusal_X9_bitFor : GoodIn wsX9_runRefusal (va_wsS RX9 343 yX9_bitFor wsX9_bitFor) := goodIn_app (goodIn_of _ (by decide +kernel)) ggX9_runRefusal_X9_bitFor
set_option maxRecDepth 20000 in
theorem ggX9_runRefusal_X9_keyRefusal : GoodIn wsX9_runRefusal wsX9_keyRefusal := goodIn_r _ [23, 24, 25, 26, 27, 28, 5, 29, 30, 31, 32, 33, 34, 35, 36, 37, 38, 39, 40, 7, 41, 42, 43, 44, 45, 65, 66, 67, 68, 69, 70, 46, 47, 48, 49, 50, 51, 52, 53, 54, 55, 56, 57, 58, 59, 60, 61, 62, 63, 64] rfl (by decide +kernel)
set_option maxRecDepth 20000 in
theorem gX9_runRefusal_X9_keyRefusal : GoodIn wsX9_runRefusal (wsV RX9 317 RX9 yX9_keyRefusal wsX9_keyRefusal) := goodIn_app (goodIn_of _ (by decide +kernel)) ggX9_runRefusal_X9_keyRefusal
def zT_X9_runRefusal_0 : List (Nat × Instr × Nat) := [(0, .aload_n 0, 1), (1, .invokevirtual 154, 3), (4, .ifCond .ne 5, 3), (7, .iconst (-1), 1), (8, .ireturn, 1), (9, .iload_n 1, 1), (10, .bipush 9, 2), (12, .if_icmp .eq 9, 3), (15, .iload_n 1, 1), (16, .bipush 11, 2), (18, .if_icmp .ne 7, 3), (21, .iconst 1, 1), (22, .goto 4, 3), (25, .iconst 0, 1), (26, .istore 6, 2), (28, .iload_n 1, 1), (29, .iload_n 3, 1), (30, .iload 4, 2), (32, .iload 5, 2), (34, .invokestatic 339, 3), (37, .ifCond .eq 15, 3), (40, .iload 6, 2), (42, .ifCond .ne 13, 3), (45, .iload_n 2, 1), (46, .invokestatic 196, 3), (49, .ifCond .ne 6, 3), (52, .bipush (-2), 2), (54, .ireturn, 1), (55, .iload 6, 2), (57, .ifCond .eq 5, 3), (60, .iconst 0, 1), (61, .ireturn, 1), (62, .aload_n 0, 1), (63, .aload_n 0, 1), (64, .getfield 15, 3), (67, .iload_n 2, 1), (68, .aaload, 1), (69, .iload_n 1, 1), (70, .bipush 10, 2), (72, .if_icmp .ne 7, 3), (75, .iconst 2, 1), (76, .goto 4, 3), (79, .iconst 1, 1), (80, .iload_n 1, 1), (81, .invokestatic 343, 3), (84, .invokevirtual 317, 3), (87, .ireturn, 1)]
theorem zt_X9_runRefusal_0 : zdt cX9_runRefusal zT_X9_runRefusal_0 = true := by decide +kernel
set_option maxRecDepth 20000 in
theorem ggX9_placesFit_X9_inBuffer : GoodIn wsX9_placesFit wsX9_inBuffer := goodIn_r _ [4] rfl (by decide +kernel)
set_option maxRecDepth 20000 in
theorem gX9_placesFit_X9_inBuffer : GoodIn wsX9_placesFit (va_wsS RX9 148 yX9_inBuffer wsX9_inBuffer) := goodIn_app (goodIn_of _ (by decide +kernel)) ggX9_placesFit_X9_inBuffer
def zT_X9_placesFit_0 : List (Nat × Instr × Nat) := [(0, .iload_n 1, 1), (1, .iload_n 2, 1), (2, .invokestatic 148, 3), (5, .ifCond .eq 13, 3), (8, .iload_n 3, 1), (9, .ifCond .lt 9, 3), (12, .iload_n 3, 1), (13, .bipush 64, 2), (15, .if_icmp .le 5, 3), (18, .iconst 0, 1), (19, .ireturn, 1), (20, .iload_n 0, 1), (21, .tableswitch 208 1 11 #[59, 59, 76, 76, 99, 115, 140, 157, 176, 176, 195], 59), (80, .iload_n 3, 1), (81, .ifCond .ne 14, 3), (84, .iload_n 2, 1), (85, .bipush 16, 2), (87, .irem, 1), (88, .ifCond .ne 7, 3), (91, .iconst 1, 1), (92, .goto 4, 3), (95, .iconst 0, 1), (96, .ireturn, 1), (97, .iload_n 3, 1), (98, .ifCond .ne 20, 3), (101, .iload_n 2, 1), (102, .bipush 16, 2), (104, .irem, 1), (105, .ifCond .ne 13, 3), (108, .iload_n 2, 1), (109, .bipush 16, 2), (111, .if_icmp .lt 7, 3), (114, .iconst 1, 1), (115, .goto 4, 3), (118, .iconst 0, 1), (119, .ireturn, 1), (120, .iload_n 3, 1), (121, .ifCond .ne 13, 3), (124, .iload_n 2, 1), (125, .bipush 16, 2), (127, .if_icmp .lt 7, 3), (130, .iconst 1, 1), (131, .goto 4, 3), (134, .iconst 0, 1), (135, .ireturn, 1), (136, .iload_n 2, 1), (137, .bipush 12, 2), (139, .iload_n 3, 1), (140, .iadd, 1), (141, .if_icmp .lt 18, 3), (144, .iload_n 1, 1), (145, .iload_n 2, 1), (146, .bipush 16, 2), (148, .iadd, 1), (149, .invokestatic 148, 3), (152, .ifCond .eq 7, 3), (155, .iconst 1, 1), (156, .goto 4, 3), (159, .iconst 0, 1), (160, .ireturn, 1), (161, .iload_n 2, 1), (162, .bipush 12, 2), (164, .iload_n 3, 1), (165, .iadd, 1)]
theorem zt_X9_placesFit_0 : zdt cX9_placesFit zT_X9_placesFit_0 = true := by decide +kernel
def zT_X9_placesFit_1 : List (Nat × Instr × Nat) := [(166, .bipush 16, 2), (168, .iadd, 1), (169, .if_icmp .lt 7, 3), (172, .iconst 1, 1), (173, .goto 4, 3), (176, .iconst 0, 1), (177, .ireturn, 1), (178, .iload_n 3, 1), (179, .ifCond .ne 16, 3), (182, .iload_n 1, 1), (183, .bipush 16, 2), (185, .invokestatic 148, 3), (188, .ifCond .eq 7, 3), (191, .iconst 1, 1), (192, .goto 4, 3), (195, .iconst 0, 1), (196, .ireturn, 1), (197, .iload_n 3, 1), (198, .ifCond .ne 16, 3), (201, .iload_n 1, 1), (202, .bipush 32, 2), (204, .invokestatic 148, 3), (207, .ifCond .eq 7, 3), (210, .iconst 1, 1), (211, .goto 4, 3), (214, .iconst 0, 1), (215, .ireturn, 1), (216, .iload_n 2, 1), (217, .sipush 256, 3), (220, .if_icmp .gt 7, 3), (223, .iconst 1, 1), (224, .goto 4, 3), (227, .iconst 0, 1), (228, .ireturn, 1), (229, .iconst 0, 1), (230, .ireturn, 1)]
theorem zt_X9_placesFit_1 : zdt cX9_placesFit zT_X9_placesFit_1 = true := by decide +kernel
def zT_X9_bitFor_0 : List (Nat × Instr × Nat) := [(0, .iload_n 0, 1), (1, .tableswitch 55 2 10 #[51, 55, 51, 55, 55, 51, 53, 55, 53], 51), (52, .iconst 2, 1), (53, .ireturn, 1), (54, .iconst 4, 1), (55, .ireturn, 1), (56, .iconst 1, 1), (57, .ireturn, 1)]
theorem zt_X9_bitFor_0 : zdt cX9_bitFor zT_X9_bitFor_0 = true := by decide +kernel
set_option maxRecDepth 20000 in
theorem ggX9_served_X7_begin : GoodIn wsX9_served wsX7_begin := goodIn_r _ [11, 12, 13, 14, 15, 16, 17, 18, 19, 285, 286, 287, 288, 289] rfl (by decide +kernel)
set_option maxRecDepth 20000 in
theorem gX9_served_X7_begin : GoodIn wsX9_served (wsV RX9 346 RX7 yX7_begin wsX7_begin) := goodIn_app (goodIn_of _ (by decide +kernel)) ggX9_served_X7_begin
set_option maxRecDepth 20000 in
theorem ggX9_served_X7_take : GoodIn wsX9_served wsX7_take := goodIn_r _ [23, 18, 24, 19, 25, 26, 27, 10, 28, 13, 29, 285, 286, 287, 288, 289] rfl (by decide +kernel)
set_option maxRecDepth 20000 in
theorem gX9_served_X7_take : GoodIn wsX9_served (wsV RX9 349 RX7 yX7_take wsX7_take) := goodIn_app (goodIn_of _ (by decide +kernel)) ggX9_served_X7_take
set_option maxRecDepth 20000 in
theorem ggX9_served_X7_end : GoodIn wsX9_served wsX7_end := goodIn_r _ [33, 18, 24, 19, 13, 34, 35, 36, 37, 38, 39, 40, 41, 42, 43, 25, 26, 27, 10, 28, 29, 44, 45, 46, 285, 286, 287, 288, 289, 290, 291, 292, 293] rfl (by decide +kernel)
set_option maxRecDepth 20000 in
theorem gX9_served_X7_end : GoodIn wsX9_served (wsV RX9 352 RX7 yX7_end wsX7_end) := goodIn_app (goodIn_of _ (by decide +kernel)) ggX9_served_X7_end
set_option maxRecDepth 20000 in
theorem ggX9_served_X9_drawn : GoodIn wsX9_served wsX9_drawn := goodIn_r _ [50, 51, 52, 53, 2, 54, 55, 15, 16, 17, 56, 57, 58, 59, 60, 61, 62, 63, 64, 65, 66, 67, 68, 69, 70, 71, 72, 73, 74, 44, 45, 46, 75, 76, 77, 78, 79, 80, 81, 82, 36, 83, 84, 85, 86, 87, 88, 89, 90, 91, 92, 93, 10, 94, 95, 96, 8, 9, 11, 12, 13, 14, 18, 19, 97, 98, 99, 100, 24, 25, 26, 27, 28, 29, 101, 21, 22, 23, 102, 31, 32, 33, 34, 35, 37, 38, 39, 40, 41, 42, 43, 103, 104, 105, 106, 107, 108, 109, 110, 111, 112, 113, 114, 115, 260, 261, 262, 263, 264, 265, 266, 267, 268, 269, 270, 271, 272, 273, 274, 275, 276, 277, 278, 294, 295, 296, 297, 298, 299, 300, 301, 302, 303, 304, 305, 306, 307, 285, 286, 287, 288, 289, 290, 291, 292, 293] rfl (by decide +kernel)
set_option maxRecDepth 20000 in
theorem gX9_served_X9_drawn : GoodIn wsX9_served (wsV RX9 239 RX9 yX9_drawn wsX9_drawn) := goodIn_app (goodIn_of _ (by decide +kernel)) ggX9_served_X9_drawn
set_option maxRecDepth 20000 in
theorem ggX9_served_X8_takeUse : GoodIn wsX9_served wsX8_takeUse := goodIn_r _ [120, 121, 279, 280, 281, 282, 283, 284] rfl (by decide +kernel)
set_option maxRecDepth 20000 in
theorem gX9_served_X8_takeUse : GoodIn wsX9_served (wsV RX9 262 RX8 yX8_takeUse wsX8_takeUse) := goodIn_app (goodIn_of _ (by decide +kernel)) ggX9_served_X8_takeUse
set_option maxRecDepth 20000 in
theorem ggX9_served_X7_mac : GoodIn wsX9_served wsX7_mac := goodIn_r _ [94, 95, 96, 8, 9, 10, 11, 12, 13, 14, 15, 16, 17, 18, 19, 97, 98, 99, 100, 24, 25, 26, 27, 28, 29, 101, 21, 22, 23, 102, 31, 32, 33, 34, 35, 36, 37, 38, 39, 40, 41, 42, 43, 44, 45, 46, 285, 286, 287, 288, 289, 290, 291, 292, 293] rfl (by decide +kernel)
set_option maxRecDepth 20000 in
theorem gX9_served_X7_mac : GoodIn wsX9_served (wsV RX9 289 RX7 yX7_mac wsX7_mac) := goodIn_app (goodIn_of _ (by decide +kernel)) ggX9_served_X7_mac
set_option maxRecDepth 20000 in
theorem ggX9_served_X0_setKey : GoodIn wsX9_served wsX0_setKey := goodIn_r _ [127, 128, 129, 130, 131, 132, 133, 45, 134, 135, 136, 126, 137, 138, 308, 309] rfl (by decide +kernel)
set_option maxRecDepth 20000 in
theorem gX9_served_X0_setKey : GoodIn wsX9_served (wsV RX9 306 RX0 yX0_setKey wsX0_setKey) := goodIn_app (goodIn_of _ (by decide +kernel)) ggX9_served_X0_setKey
set_option maxRecDepth 20000 in
theorem ggX9_served_X9_servedByAes : GoodIn wsX9_served wsX9_servedByAes := goodIn_r _ [142, 143, 2, 144, 145, 146, 147, 148, 149, 150, 151, 152, 153, 126, 154, 129, 128, 133, 45, 134, 135, 136, 137, 138, 155, 156, 157, 158, 159, 44, 46, 160, 161, 162, 163, 164, 165, 166, 167, 168, 169, 170, 171, 172, 173, 174, 175, 176, 177, 178, 179, 180, 181, 182, 183, 184, 185, 186, 187, 188, 189, 190, 191, 15, 16, 17, 192, 193, 194, 195, 196, 197, 113, 114, 115, 198, 199, 200, 201, 202, 203, 204, 205, 206, 207, 208, 209, 210, 211, 212, 213, 214, 215, 216, 217, 218, 219, 220, 221, 222, 223, 224, 82, 36, 83, 225, 226, 227, 228, 229, 230, 231, 232, 233, 234, 235, 236, 237, 238, 239, 240, 241, 242, 243, 244, 245, 246, 247, 248, 249, 250, 251, 252, 253, 254, 255, 256, 257, 258, 259, 260, 261, 262, 263, 264, 265, 266, 267, 268, 269, 270, 271, 272, 273, 274, 275, 276, 277, 278, 310, 311, 312, 308, 309, 313, 314, 315, 316, 317, 318, 319] rfl (by decide +kernel)
set_option maxRecDepth 20000 in
theorem gX9_served_X9_servedByAes : GoodIn wsX9_served (wsV RX9 355 RX9 yX9_servedByAes wsX9_servedByAes) := goodIn_app (goodIn_of _ (by decide +kernel)) ggX9_served_X9_servedByAes
def zT_X9_served_0 : List (Nat × Instr × Nat) := [(0, .iload_n 1, 1), (1, .tableswitch 136 9 11 #[27, 87, 63], 27), (28, .aload_n 0, 1), (29, .getfield 45, 3), (32, .invokevirtual 346, 3), (35, .aload_n 0, 1), (36, .getfield 45, 3), (39, .aload_n 0, 1), (40, .getfield 9, 3), (43, .iload_n 3, 1), (44, .iload 4, 2), (46, .invokevirtual 349, 3), (49, .aload_n 0, 1), (50, .getfield 45, 3), (53, .aload_n 0, 1), (54, .getfield 9, 3), (57, .iload_n 3, 1), (58, .invokevirtual 352, 3), (61, .bipush 32, 2), (63, .ireturn, 1), (64, .aload_n 0, 1), (65, .aload_n 0, 1), (66, .getfield 9, 3), (69, .iload_n 3, 1), (70, .iload 4, 2), (72, .iload 5, 2), (74, .invokevirtual 239, 3), (77, .ifCond .eq 8, 3), (80, .iload 4, 2), (82, .goto 5, 3), (85, .bipush (-8), 2), (87, .ireturn, 1), (88, .aload_n 0, 1), (89, .getfield 15, 3), (92, .iload_n 2, 1), (93, .aaload, 1), (94, .invokevirtual 262, 3), (97, .aload_n 0, 1), (98, .getfield 45, 3), (101, .aload_n 0, 1), (102, .getfield 15, 3), (105, .iload_n 2, 1), (106, .aaload, 1), (107, .getfield 286, 3), (110, .aload_n 0, 1), (111, .getfield 15, 3), (114, .iload_n 2, 1), (115, .aaload, 1), (116, .getfield 207, 3), (119, .aload_n 0, 1), (120, .getfield 9, 3), (123, .iload_n 3, 1), (124, .iload 4, 2), (126, .aload_n 0, 1), (127, .getfield 9, 3), (130, .iload_n 3, 1), (131, .invokevirtual 289, 3), (134, .bipush 32, 2), (136, .ireturn, 1), (137, .aload_n 0, 1), (138, .getfield 15, 3), (141, .iload_n 2, 1), (142, .aaload, 1), (143, .invokevirtual 262, 3)]
theorem zt_X9_served_0 : zdt cX9_served zT_X9_served_0 = true := by decide +kernel
def zT_X9_served_1 : List (Nat × Instr × Nat) := [(146, .aload_n 0, 1), (147, .getfield 55, 3), (150, .aload_n 0, 1), (151, .getfield 15, 3), (154, .iload_n 2, 1), (155, .aaload, 1), (156, .getfield 286, 3), (159, .aload_n 0, 1), (160, .getfield 15, 3), (163, .iload_n 2, 1), (164, .aaload, 1), (165, .getfield 207, 3), (168, .invokevirtual 306, 3), (171, .aload_n 0, 1), (172, .iload_n 1, 1), (173, .iload_n 3, 1), (174, .iload 4, 2), (176, .iload 5, 2), (178, .invokevirtual 355, 3), (181, .ireturn, 1)]
theorem zt_X9_served_1 : zdt cX9_served zT_X9_served_1 = true := by decide +kernel
set_option maxRecDepth 20000 in
theorem ggX9_servedByAes_X4_ecbSeal : GoodIn wsX9_servedByAes wsX4_ecbSeal := goodIn_r _ [8, 9, 10, 11, 12, 13, 14, 15, 16, 17, 18, 19, 20, 21, 22, 23, 24, 25, 26, 27, 28, 29, 30, 159, 160, 161, 162, 163] rfl (by decide +kernel)
set_option maxRecDepth 20000 in
theorem gX9_servedByAes_X4_ecbSeal : GoodIn wsX9_servedByAes (wsV RX9 359 RX4 yX4_ecbSeal wsX4_ecbSeal) := goodIn_app (goodIn_of _ (by decide +kernel)) ggX9_servedByAes_X4_ecbSeal
set_option maxRecDepth 20000 in
theorem ggX9_servedByAes_X4_ecbOpen : GoodIn wsX9_servedByAes wsX4_ecbOpen := goodIn_r _ [34, 9, 35, 36, 37, 13, 38, 16, 15, 17, 18, 19, 39, 40, 41, 42, 43, 44, 45, 46, 28, 24, 25, 26, 27, 29, 30, 159, 160, 161, 162, 163] rfl (by decide +kernel)
set_option maxRecDepth 20000 in
theorem gX9_servedByAes_X4_ecbOpen : GoodIn wsX9_servedByAes (wsV RX9 362 RX4 yX4_ecbOpen wsX4_ecbOpen) := goodIn_app (goodIn_of _ (by decide +kernel)) ggX9_servedByAes_X4_ecbOpen
set_option maxRecDepth 20000 in
theorem ggX9_servedByAes_X4_cbcSeal : GoodIn wsX9_servedByAes wsX4_cbcSeal := goodIn_r _ [50, 9, 51, 18, 52, 10, 11, 12, 13, 14, 15, 16, 17, 19, 20, 21, 22, 23, 24, 25, 26, 27, 28, 29, 30, 159, 160, 161, 162, 163] rfl (by decide +kernel)
set_option maxRecDepth 20000 in
theorem gX9_servedByAes_X4_cbcSeal : GoodIn wsX9_servedByAes (wsV RX9 365 RX4 yX4_cbcSeal wsX4_cbcSeal) := goodIn_app (goodIn_of _ (by decide +kernel)) ggX9_servedByAes_X4_cbcSeal
set_option maxRecDepth 20000 in
theorem ggX9_servedByAes_X4_cbcOpen : GoodIn wsX9_servedByAes wsX4_cbcOpen := goodIn_r _ [56, 9, 35, 36, 37, 13, 38, 16, 15, 17, 18, 19, 39, 40, 41, 42, 43, 44, 45, 46, 28, 24, 25, 26, 27, 29, 30, 51, 52, 159, 160, 161, 162, 163] rfl (by decide +kernel)
set_option maxRecDepth 20000 in
theorem gX9_servedByAes_X4_cbcOpen : GoodIn wsX9_servedByAes (wsV RX9 368 RX4 yX4_cbcOpen wsX4_cbcOpen) := goodIn_app (goodIn_of _ (by decide +kernel)) ggX9_servedByAes_X4_cbcOpen
set_option maxRecDepth 20000 in
theorem ggX9_servedByAes_X4_addStream : GoodIn wsX9_servedByAes wsX4_addStream := goodIn_r _ [60, 61, 62, 63, 64, 65, 66, 67, 68, 7, 69, 70, 9, 71, 72, 73, 74, 10, 11, 12, 13, 14, 15, 16, 17, 18, 19, 20, 21, 22, 23, 24, 25, 26, 27, 28, 29, 30, 51, 52, 75, 76, 77, 78, 159, 160, 161, 162, 163] rfl (by decide +kernel)
set_option maxRecDepth 20000 in
theorem gX9_servedByAes_X4_addStream : GoodIn wsX9_servedByAes (wsV RX9 371 RX4 yX4_addStream wsX4_addStream) := goodIn_app (goodIn_of _ (by decide +kernel)) ggX9_servedByAes_X4_addStream
set_option maxRecDepth 20000 in
theorem ggX9_servedByAes_X2_sealText : GoodIn wsX9_servedByAes wsX2_sealText := goodIn_r _ [83, 84, 85, 86, 63, 64, 65, 87, 88, 89, 7, 90, 61, 62, 29, 18, 30, 66, 67, 68, 69, 70, 9, 71, 72, 73, 74, 10, 11, 12, 13, 14, 15, 16, 17, 19, 20, 21, 22, 23, 24, 25, 26, 27, 28, 51, 52, 75, 76, 77, 78, 91, 92, 93, 82, 94, 95, 96, 97, 98, 99, 100, 101, 102, 103, 104, 105, 106, 107, 108, 109, 110, 111, 112, 113, 114, 115, 116, 117, 118, 119, 120, 121, 122, 123, 124, 164, 165, 166, 167, 168, 169, 170, 159, 160, 161, 162, 163] rfl (by decide +kernel)
set_option maxRecDepth 20000 in
theorem gX9_servedByAes_X2_sealText : GoodIn wsX9_servedByAes (wsV RX9 375 RX2 yX2_sealText wsX2_sealText) := goodIn_app (goodIn_of _ (by decide +kernel)) ggX9_servedByAes_X2_sealText
set_option maxRecDepth 20000 in
theorem ggX9_servedByAes_X2_openText : GoodIn wsX9_servedByAes wsX2_openText := goodIn_r _ [128, 85, 84, 91, 92, 93, 82, 94, 95, 96, 97, 98, 99, 100, 86, 63, 64, 65, 101, 102, 103, 104, 105, 11, 12, 13, 14, 15, 16, 17, 18, 19, 20, 21, 22, 23, 24, 25, 26, 27, 28, 29, 30, 106, 107, 108, 109, 110, 111, 112, 113, 114, 115, 116, 117, 118, 119, 120, 121, 122, 123, 124, 129, 130, 87, 88, 89, 7, 90, 61, 62, 66, 67, 68, 69, 70, 9, 71, 72, 73, 74, 10, 51, 52, 75, 76, 77, 78, 164, 165, 166, 167, 168, 169, 170, 162, 163, 159, 160, 161] rfl (by decide +kernel)
set_option maxRecDepth 20000 in
theorem gX9_servedByAes_X2_openText : GoodIn wsX9_servedByAes (wsV RX9 378 RX2 yX2_openText wsX2_openText) := goodIn_app (goodIn_of _ (by decide +kernel)) ggX9_servedByAes_X2_openText
set_option maxRecDepth 20000 in
theorem ggX9_servedByAes_X4_cmac : GoodIn wsX9_servedByAes wsX4_cmac := goodIn_r _ [134, 70, 9, 61, 62, 63, 64, 65, 135, 102, 103, 104, 10, 11, 12, 13, 14, 15, 16, 17, 18, 19, 20, 21, 22, 23, 24, 25, 26, 27, 28, 29, 30, 136, 137, 138, 7, 139, 106, 107, 108, 109, 122, 123, 124, 51, 52, 159, 160, 161, 162, 163] rfl (by decide +kernel)
set_option maxRecDepth 20000 in
theorem gX9_servedByAes_X4_cmac : GoodIn wsX9_servedByAes (wsV RX9 381 RX4 yX4_cmac wsX4_cmac) := goodIn_app (goodIn_of _ (by decide +kernel)) ggX9_servedByAes_X4_cmac
def zT_X9_servedByAes_0 : List (Nat × Instr × Nat) := [(0, .iload_n 1, 1), (1, .tableswitch 188 1 7 #[43, 58, 73, 88, 103, 125, 151], 43), (44, .aload_n 0, 1), (45, .getfield 64, 3), (48, .aload_n 0, 1), (49, .getfield 9, 3), (52, .iload_n 2, 1), (53, .iload_n 3, 1), (54, .invokevirtual 359, 3), (57, .iload_n 3, 1), (58, .ireturn, 1), (59, .aload_n 0, 1), (60, .getfield 64, 3), (63, .aload_n 0, 1), (64, .getfield 9, 3), (67, .iload_n 2, 1), (68, .iload_n 3, 1), (69, .invokevirtual 362, 3), (72, .iload_n 3, 1), (73, .ireturn, 1), (74, .aload_n 0, 1), (75, .getfield 64, 3), (78, .aload_n 0, 1), (79, .getfield 9, 3), (82, .iload_n 2, 1), (83, .iload_n 3, 1), (84, .invokevirtual 365, 3), (87, .iload_n 3, 1), (88, .ireturn, 1), (89, .aload_n 0, 1), (90, .getfield 64, 3), (93, .aload_n 0, 1), (94, .getfield 9, 3), (97, .iload_n 2, 1), (98, .iload_n 3, 1), (99, .invokevirtual 368, 3), (102, .iload_n 3, 1), (103, .ireturn, 1), (104, .aload_n 0, 1), (105, .getfield 64, 3), (108, .aload_n 0, 1), (109, .getfield 9, 3), (112, .iload_n 2, 1), (113, .iload_n 2, 1), (114, .bipush 16, 2), (116, .iadd, 1), (117, .iload_n 3, 1), (118, .bipush 16, 2), (120, .isub, 1), (121, .invokevirtual 371, 3), (124, .iload_n 3, 1), (125, .ireturn, 1), (126, .aload_n 0, 1), (127, .getfield 73, 3), (130, .aload_n 0, 1), (131, .getfield 9, 3), (134, .iload_n 2, 1), (135, .iload 4, 2), (137, .iload_n 3, 1), (138, .bipush 12, 2), (140, .isub, 1), (141, .iload 4, 2), (143, .isub, 1), (144, .invokevirtual 375, 3)]
theorem zt_X9_servedByAes_0 : zdt cX9_servedByAes zT_X9_servedByAes_0 = true := by decide +kernel
def zT_X9_servedByAes_1 : List (Nat × Instr × Nat) := [(147, .iload_n 3, 1), (148, .bipush 16, 2), (150, .iadd, 1), (151, .ireturn, 1), (152, .aload_n 0, 1), (153, .getfield 73, 3), (156, .aload_n 0, 1), (157, .getfield 9, 3), (160, .iload_n 2, 1), (161, .iload 4, 2), (163, .iload_n 3, 1), (164, .bipush 12, 2), (166, .isub, 1), (167, .iload 4, 2), (169, .isub, 1), (170, .bipush 16, 2), (172, .isub, 1), (173, .invokevirtual 378, 3), (176, .ifCond .eq 10, 3), (179, .iload_n 3, 1), (180, .bipush 16, 2), (182, .isub, 1), (183, .goto 5, 3), (186, .bipush (-9), 2), (188, .ireturn, 1), (189, .aload_n 0, 1), (190, .getfield 64, 3), (193, .aload_n 0, 1), (194, .getfield 9, 3), (197, .iload_n 2, 1), (198, .iload_n 3, 1), (199, .aload_n 0, 1), (200, .getfield 9, 3), (203, .iload_n 2, 1), (204, .invokevirtual 381, 3), (207, .bipush 16, 2), (209, .ireturn, 1)]
theorem zt_X9_servedByAes_1 : zdt cX9_servedByAes zT_X9_servedByAes_1 = true := by decide +kernel
set_option maxRecDepth 20000 in
theorem ggX9_hash_X9_hashAnswer : GoodIn wsX9_hash wsX9_hashAnswer := goodIn_r _ [5, 6, 7, 8, 9, 10, 11, 12, 4, 13, 14, 15, 16, 17, 18, 19, 20, 21, 22, 23, 24, 25, 26, 27, 28, 29, 30, 31, 32, 33, 34, 35, 36, 37, 38, 39, 40, 41, 42, 43, 44, 45, 46, 47, 48, 49, 50, 51, 52, 53, 54, 55, 56, 57, 58, 59, 60, 66, 67, 68, 69, 70, 71, 72, 73, 74, 75, 76, 77, 78, 79, 80, 81, 82, 83, 84, 85, 86, 87, 88, 89, 90, 91, 92, 93] rfl (by decide +kernel)
set_option maxRecDepth 20000 in
theorem gX9_hash_X9_hashAnswer : GoodIn wsX9_hash (wsV RX9 385 RX9 yX9_hashAnswer wsX9_hashAnswer) := goodIn_app (goodIn_of _ (by decide +kernel)) ggX9_hash_X9_hashAnswer
set_option maxRecDepth 20000 in
theorem ggX9_hash_X9_counted : GoodIn wsX9_hash wsX9_counted := goodIn_r _ [64, 65, 66, 67, 68, 69, 70, 71, 72, 73, 74, 75, 76, 77, 78, 79, 80, 81, 82, 83, 84] rfl (by decide +kernel)
set_option maxRecDepth 20000 in
theorem gX9_hash_X9_counted : GoodIn wsX9_hash (wsV RX9 166 RX9 yX9_counted wsX9_counted) := goodIn_app (goodIn_of _ (by decide +kernel)) ggX9_hash_X9_counted
def zT_X9_hash_0 : List (Nat × Instr × Nat) := [(0, .aload_n 0, 1), (1, .aload_n 0, 1), (2, .iload_n 1, 1), (3, .iload_n 2, 1), (4, .iload_n 3, 1), (5, .invokevirtual 385, 3), (8, .invokevirtual 166, 3), (11, .ireturn, 1)]
theorem zt_X9_hash_0 : zdt cX9_hash zT_X9_hash_0 = true := by decide +kernel
set_option maxRecDepth 20000 in
theorem ggX9_hashAnswer_X9_loggedIn : GoodIn wsX9_hashAnswer wsX9_loggedIn := goodIn_r _ [9, 10, 57, 58, 59, 60, 61, 62, 63, 64, 65, 66, 67, 68, 69, 70, 71, 72, 73, 74, 75] rfl (by decide +kernel)
set_option maxRecDepth 20000 in
theorem gX9_hashAnswer_X9_loggedIn : GoodIn wsX9_hashAnswer (wsV RX9 154 RX9 yX9_loggedIn wsX9_loggedIn) := goodIn_app (goodIn_of _ (by decide +kernel)) ggX9_hashAnswer_X9_loggedIn
set_option maxRecDepth 20000 in
theorem ggX9_hashAnswer_X9_inBuffer : GoodIn wsX9_hashAnswer wsX9_inBuffer := goodIn_r _ [13] rfl (by decide +kernel)
set_option maxRecDepth 20000 in
theorem gX9_hashAnswer_X9_inBuffer : GoodIn wsX9_hashAnswer (va_wsS RX9 148 yX9_inBuffer wsX9_inBuffer) := goodIn_app (goodIn_of _ (by decide +kernel)) ggX9_hashAnswer_X9_inBuffer
set_option maxRecDepth 20000 in
theorem ggX9_hashAnswer_X7_begin : GoodIn wsX9_hashAnswer wsX7_begin := goodIn_r _ [18, 19, 20, 21, 22, 23, 24, 25, 26, 76, 77, 78, 79, 80] rfl (by decide +kernel)
set_option maxRecDepth 20000 in
theorem gX9_hashAnswer_X7_begin : GoodIn wsX9_hashAnswer (wsV RX9 346 RX7 yX7_begin wsX7_begin) := goodIn_app (goodIn_of _ (by decide +kernel)) ggX9_hashAnswer_X7_begin
set_option maxRecDepth 20000 in
theorem ggX9_hashAnswer_X7_take : GoodIn wsX9_hashAnswer wsX7_take := goodIn_r _ [30, 25, 31, 26, 32, 33, 34, 17, 35, 20, 36, 76, 77, 78, 79, 80] rfl (by decide +kernel)
set_option maxRecDepth 20000 in
theorem gX9_hashAnswer_X7_take : GoodIn wsX9_hashAnswer (wsV RX9 349 RX7 yX7_take wsX7_take) := goodIn_app (goodIn_of _ (by decide +kernel)) ggX9_hashAnswer_X7_take
set_option maxRecDepth 20000 in
theorem ggX9_hashAnswer_X7_copyFrom : GoodIn wsX9_hashAnswer wsX7_copyFrom := goodIn_r _ [40, 20, 21, 22, 23, 24, 31, 25, 26, 76, 77, 78, 79, 80] rfl (by decide +kernel)
set_option maxRecDepth 20000 in
theorem gX9_hashAnswer_X7_copyFrom : GoodIn wsX9_hashAnswer (wsV RX9 388 RX7 yX7_copyFrom wsX7_copyFrom) := goodIn_app (goodIn_of _ (by decide +kernel)) ggX9_hashAnswer_X7_copyFrom
set_option maxRecDepth 20000 in
theorem ggX9_hashAnswer_X7_end : GoodIn wsX9_hashAnswer wsX7_end := goodIn_r _ [44, 25, 31, 26, 20, 45, 46, 47, 48, 49, 50, 51, 52, 53, 54, 32, 33, 34, 17, 35, 36, 55, 8, 56, 76, 77, 78, 79, 80, 81, 82, 83, 84] rfl (by decide +kernel)
set_option maxRecDepth 20000 in
theorem gX9_hashAnswer_X7_end : GoodIn wsX9_hashAnswer (wsV RX9 352 RX7 yX7_end wsX7_end) := goodIn_app (goodIn_of _ (by decide +kernel)) ggX9_hashAnswer_X7_end
def zT_X9_hashAnswer_0 : List (Nat × Instr × Nat) := [(0, .aload_n 0, 1), (1, .invokevirtual 154, 3), (4, .ifCond .ne 5, 3), (7, .iconst (-1), 1), (8, .ireturn, 1), (9, .iload_n 1, 1), (10, .ifCond .lt 35, 3), (13, .iload_n 1, 1), (14, .iconst 2, 1), (15, .if_icmp .gt 30, 3), (18, .iload_n 1, 1), (19, .iconst 1, 1), (20, .if_icmp .ne 11, 3), (23, .iload_n 2, 1), (24, .iload_n 3, 1), (25, .invokestatic 148, 3), (28, .ifCond .eq 17, 3), (31, .iload_n 1, 1), (32, .iconst 2, 1), (33, .if_icmp .ne 15, 3), (36, .iload_n 2, 1), (37, .bipush 32, 2), (39, .invokestatic 148, 3), (42, .ifCond .ne 6, 3), (45, .bipush (-2), 2), (47, .ireturn, 1), (48, .iload_n 1, 1), (49, .ifCond .ne 17, 3), (52, .aload_n 0, 1), (53, .getfield 49, 3), (56, .invokevirtual 346, 3), (59, .aload_n 0, 1), (60, .iconst 1, 1), (61, .putfield 111, 3), (64, .iconst 0, 1), (65, .ireturn, 1), (66, .aload_n 0, 1), (67, .getfield 111, 3), (70, .ifCond .ne 6, 3), (73, .bipush (-4), 2), (75, .ireturn, 1), (76, .iload_n 1, 1), (77, .iconst 1, 1), (78, .if_icmp .ne 18, 3), (81, .aload_n 0, 1), (82, .getfield 49, 3), (85, .aload_n 0, 1), (86, .getfield 9, 3), (89, .iload_n 2, 1), (90, .iload_n 3, 1), (91, .invokevirtual 349, 3), (94, .iload_n 3, 1), (95, .ireturn, 1), (96, .aload_n 0, 1), (97, .getfield 45, 3), (100, .aload_n 0, 1), (101, .getfield 49, 3), (104, .invokevirtual 388, 3), (107, .aload_n 0, 1), (108, .getfield 45, 3), (111, .aload_n 0, 1), (112, .getfield 9, 3), (115, .iload_n 2, 1), (116, .invokevirtual 352, 3)]
theorem zt_X9_hashAnswer_0 : zdt cX9_hashAnswer zT_X9_hashAnswer_0 = true := by decide +kernel
def zT_X9_hashAnswer_1 : List (Nat × Instr × Nat) := [(119, .bipush 32, 2), (121, .ireturn, 1)]
theorem zt_X9_hashAnswer_1 : zdt cX9_hashAnswer zT_X9_hashAnswer_1 = true := by decide +kernel
def zT_X9_counter_0 : List (Nat × Instr × Nat) := [(0, .iload_n 1, 1), (1, .ifCond .lt 12, 3), (4, .iload_n 1, 1), (5, .aload_n 0, 1), (6, .getfield 19, 3), (9, .arraylength, 1), (10, .if_icmp .lt 14, 3), (13, .new 136, 3), (16, .dup, 1), (17, .ldc_w 391, 3), (20, .invokespecial 140, 3), (23, .athrow, 1), (24, .aload_n 0, 1), (25, .getfield 19, 3), (28, .iload_n 1, 1), (29, .iaload, 1), (30, .ireturn, 1)]
theorem zt_X9_counter_0 : zdt cX9_counter zT_X9_counter_0 = true := by decide +kernel
set_option maxRecDepth 20000 in
theorem ggX9_same_X9_isSlot : GoodIn wsX9_same wsX9_isSlot := goodIn_r _ [10] rfl (by decide +kernel)
set_option maxRecDepth 20000 in
theorem gX9_same_X9_isSlot : GoodIn wsX9_same (va_wsS RX9 196 yX9_isSlot wsX9_isSlot) := goodIn_app (goodIn_of _ (by decide +kernel)) ggX9_same_X9_isSlot
set_option maxRecDepth 20000 in
theorem ggX9_same_X8_isEmpty : GoodIn wsX9_same wsX8_isEmpty := goodIn_r _ [15, 16, 39, 40, 41, 42, 43, 44] rfl (by decide +kernel)
set_option maxRecDepth 20000 in
theorem gX9_same_X8_isEmpty : GoodIn wsX9_same (wsV RX9 201 RX8 yX8_isEmpty wsX8_isEmpty) := goodIn_app (goodIn_of _ (by decide +kernel)) ggX9_same_X8_isEmpty
set_option maxRecDepth 20000 in
theorem ggX9_same_X9_alike : GoodIn wsX9_same wsX9_alike := goodIn_r _ [19] rfl (by decide +kernel)
set_option maxRecDepth 20000 in
theorem gX9_same_X9_alike : GoodIn wsX9_same (va_wsS RX9 395 yX9_alike wsX9_alike) := goodIn_app (goodIn_of _ (by decide +kernel)) ggX9_same_X9_alike
def zT_X9_same_0 : List (Nat × Instr × Nat) := [(0, .iload_n 1, 1), (1, .invokestatic 196, 3), (4, .ifCond .ne 14, 3), (7, .new 136, 3), (10, .dup, 1), (11, .ldc_w 393, 3), (14, .invokespecial 140, 3), (17, .athrow, 1), (18, .aload_n 0, 1), (19, .getfield 15, 3), (22, .iload_n 1, 1), (23, .aaload, 1), (24, .astore_n 3, 1), (25, .aload_n 3, 1), (26, .invokevirtual 201, 3), (29, .ifCond .ne 32, 3), (32, .iload_n 2, 1), (33, .aload_n 3, 1), (34, .getfield 207, 3), (37, .if_icmp .ne 24, 3), (40, .aload_n 3, 1), (41, .getfield 286, 3), (44, .iconst 0, 1), (45, .aload_n 0, 1), (46, .getfield 9, 3), (49, .iconst 0, 1), (50, .iload_n 2, 1), (51, .invokestatic 395, 3), (54, .ifCond .eq 7, 3), (57, .iconst 1, 1), (58, .goto 4, 3), (61, .iconst 0, 1), (62, .ireturn, 1)]
theorem zt_X9_same_0 : zdt cX9_same zT_X9_same_0 = true := by decide +kernel
def zT_X9_counted_0 : List (Nat × Instr × Nat) := [(0, .aload_n 0, 1), (1, .getfield 19, 3), (4, .iload_n 1, 1), (5, .ifCond .ge 7, 3), (8, .iconst 1, 1), (9, .goto 4, 3), (12, .iconst 0, 1), (13, .dup2, 1), (14, .iaload, 1), (15, .iconst 1, 1), (16, .iadd, 1), (17, .iastore, 1), (18, .iload_n 1, 1), (19, .ireturn, 1)]
theorem zt_X9_counted_0 : zdt cX9_counted zT_X9_counted_0 = true := by decide +kernel
def zT_X9_loggedIn_0 : List (Nat × Instr × Nat) := [(0, .aload_n 0, 1), (1, .getfield 101, 3), (4, .iconst 3, 1), (5, .if_icmp .eq 11, 3), (8, .aload_n 0, 1), (9, .getfield 101, 3), (12, .iconst 4, 1), (13, .if_icmp .ne 7, 3), (16, .iconst 1, 1), (17, .goto 4, 3), (20, .iconst 0, 1), (21, .ireturn, 1)]
theorem zt_X9_loggedIn_0 : zdt cX9_loggedIn zT_X9_loggedIn_0 = true := by decide +kernel
def zT_X9_holder_0 : List (Nat × Instr × Nat) := [(0, .aload_n 0, 1), (1, .getfield 101, 3), (4, .iconst 3, 1), (5, .if_icmp .ne 7, 3), (8, .iconst 1, 1), (9, .goto 4, 3), (12, .iconst 2, 1), (13, .ireturn, 1)]
theorem zt_X9_holder_0 : zdt cX9_holder zT_X9_holder_0 = true := by decide +kernel
def zT_X9_pinOf_0 : List (Nat × Instr × Nat) := [(0, .iload_n 1, 1), (1, .iconst 1, 1), (2, .if_icmp .ne 10, 3), (5, .aload_n 0, 1), (6, .getfield 28, 3), (9, .goto 7, 3), (12, .aload_n 0, 1), (13, .getfield 32, 3), (16, .areturn, 1)]
theorem zt_X9_pinOf_0 : zdt cX9_pinOf zT_X9_pinOf_0 = true := by decide +kernel
set_option maxRecDepth 20000 in
theorem ggX9_isForeign_X8_isEmpty : GoodIn wsX9_isForeign wsX8_isEmpty := goodIn_r _ [6, 7, 14, 15, 16, 17, 18, 19] rfl (by decide +kernel)
set_option maxRecDepth 20000 in
theorem gX9_isForeign_X8_isEmpty : GoodIn wsX9_isForeign (wsV RX9 201 RX8 yX8_isEmpty wsX8_isEmpty) := goodIn_app (goodIn_of _ (by decide +kernel)) ggX9_isForeign_X8_isEmpty
set_option maxRecDepth 20000 in
theorem ggX9_isForeign_X9_holder : GoodIn wsX9_isForeign wsX9_holder := goodIn_r _ [12, 13, 20, 21, 22, 23, 24, 25, 26, 27, 28, 29, 30, 31, 32, 33, 34, 35, 36, 37, 38] rfl (by decide +kernel)
set_option maxRecDepth 20000 in
theorem gX9_isForeign_X9_holder : GoodIn wsX9_isForeign (wsV RX9 269 RX9 yX9_holder wsX9_holder) := goodIn_app (goodIn_of _ (by decide +kernel)) ggX9_isForeign_X9_holder
def zT_X9_isForeign_0 : List (Nat × Instr × Nat) := [(0, .aload_n 1, 1), (1, .invokevirtual 201, 3), (4, .ifCond .ne 18, 3), (7, .aload_n 1, 1), (8, .getfield 213, 3), (11, .aload_n 0, 1), (12, .invokevirtual 269, 3), (15, .if_icmp .eq 7, 3), (18, .iconst 1, 1), (19, .goto 4, 3), (22, .iconst 0, 1), (23, .ireturn, 1)]
theorem zt_X9_isForeign_0 : zdt cX9_isForeign zT_X9_isForeign_0 = true := by decide +kernel
set_option maxRecDepth 20000 in
theorem ggX9_keyRefusal_X9_isForeign : GoodIn wsX9_keyRefusal wsX9_isForeign := goodIn_r _ [7, 8, 9, 10, 11, 12, 13, 14, 15, 16, 17, 6, 18, 19, 25, 26, 27, 28, 29, 30, 31, 32, 33, 34, 35, 36, 37, 38, 39, 40, 41, 42, 43, 44, 45, 46, 47, 48, 49] rfl (by decide +kernel)
set_option maxRecDepth 20000 in
theorem gX9_keyRefusal_X9_isForeign : GoodIn wsX9_keyRefusal (wsV RX9 222 RX9 yX9_isForeign wsX9_isForeign) := goodIn_app (goodIn_of _ (by decide +kernel)) ggX9_keyRefusal_X9_isForeign
set_option maxRecDepth 20000 in
theorem ggX9_keyRefusal_X8_isEmpty : GoodIn wsX9_keyRefusal wsX8_isEmpty := goodIn_r _ [13, 14, 25, 26, 27, 28, 29, 30] rfl (by decide +kernel)
set_option maxRecDepth 20000 in
theorem gX9_keyRefusal_X8_isEmpty : GoodIn wsX9_keyRefusal (wsV RX9 201 RX8 yX8_isEmpty wsX8_isEmpty) := goodIn_app (goodIn_of _ (by decide +kernel)) ggX9_keyRefusal_X8_isEmpty
set_option maxRecDepth 20000 in
theorem ggX9_keyRefusal_X8_allows : GoodIn wsX9_keyRefusal wsX8_allows := goodIn_r _ [23, 24, 25, 26, 27, 28, 29, 30] rfl (by decide +kernel)
set_option maxRecDepth 20000 in
theorem gX9_keyRefusal_X8_allows : GoodIn wsX9_keyRefusal (wsV RX9 273 RX8 yX8_allows wsX8_allows) := goodIn_app (goodIn_of _ (by decide +kernel)) ggX9_keyRefusal_X8_allows
def zT_X9_keyRefusal_0 : List (Nat × Instr × Nat) := [(0, .aload_n 0, 1), (1, .aload_n 1, 1), (2, .invokevirtual 222, 3), (5, .ifCond .eq 6, 3), (8, .bipush (-3), 2), (10, .ireturn, 1), (11, .aload_n 1, 1), (12, .invokevirtual 201, 3), (15, .ifCond .eq 6, 3), (18, .bipush (-4), 2), (20, .ireturn, 1), (21, .aload_n 1, 1), (22, .getfield 204, 3), (25, .iload_n 2, 1), (26, .if_icmp .eq 6, 3), (29, .bipush (-5), 2), (31, .ireturn, 1), (32, .aload_n 1, 1), (33, .iload_n 3, 1), (34, .invokevirtual 273, 3), (37, .ifCond .ne 6, 3), (40, .bipush (-6), 2), (42, .ireturn, 1), (43, .aload_n 1, 1), (44, .getfield 216, 3), (47, .ifCond .ne 8, 3), (50, .bipush (-7), 2), (52, .goto 4, 3), (55, .iconst 0, 1), (56, .ireturn, 1)]
theorem zt_X9_keyRefusal_0 : zdt cX9_keyRefusal zT_X9_keyRefusal_0 = true := by decide +kernel
set_option maxRecDepth 20000 in
theorem ggX9_drawn_X3_wordsNeeded : GoodIn wsX9_drawn wsX3_wordsNeeded := goodIn_r _ [14, 15, 16, 123, 124, 125, 126, 127, 128] rfl (by decide +kernel)
set_option maxRecDepth 20000 in
theorem gX9_drawn_X3_wordsNeeded : GoodIn wsX9_drawn (wsV RX9 399 RX3 yX3_wordsNeeded wsX3_wordsNeeded) := goodIn_app (goodIn_of _ (by decide +kernel)) ggX9_drawn_X3_wordsNeeded
set_option maxRecDepth 20000 in
theorem ggX9_drawn_X1_canGive : GoodIn wsX9_drawn wsX1_canGive := goodIn_r _ [21, 22, 23, 129, 130, 131, 132, 133, 134, 135, 136] rfl (by decide +kernel)
set_option maxRecDepth 20000 in
theorem gX9_drawn_X1_canGive : GoodIn wsX9_drawn (wsV RX9 402 RX1 yX1_canGive wsX1_canGive) := goodIn_app (goodIn_of _ (by decide +kernel)) ggX9_drawn_X1_canGive
set_option maxRecDepth 20000 in
theorem ggX9_drawn_X1_give : GoodIn wsX9_drawn wsX1_give := goodIn_r _ [27, 28, 23, 29, 30, 31, 129, 130, 131, 132, 133, 134, 135, 136] rfl (by decide +kernel)
set_option maxRecDepth 20000 in
theorem gX9_drawn_X1_give : GoodIn wsX9_drawn (wsV RX9 405 RX1 yX1_give wsX1_give) := goodIn_app (goodIn_of _ (by decide +kernel)) ggX9_drawn_X1_give
set_option maxRecDepth 20000 in
theorem ggX9_drawn_X3_feed : GoodIn wsX9_drawn wsX3_feed := goodIn_r _ [35, 15, 36, 37, 16, 38, 39, 40, 41, 42, 43, 44, 13, 45, 46, 47, 7, 8, 9, 48, 49, 50, 51, 52, 53, 54, 55, 56, 57, 58, 59, 60, 61, 62, 63, 64, 65, 66, 67, 68, 69, 70, 71, 72, 73, 74, 75, 76, 77, 78, 79, 80, 81, 82, 83, 84, 85, 86, 87, 88, 89, 90, 29, 30, 31, 123, 124, 125, 126, 127, 128, 137, 138, 139, 140, 141, 142, 143, 144, 145] rfl (by decide +kernel)
set_option maxRecDepth 20000 in
theorem gX9_drawn_X3_feed : GoodIn wsX9_drawn (wsV RX9 409 RX3 yX3_feed wsX3_feed) := goodIn_app (goodIn_of _ (by decide +kernel)) ggX9_drawn_X3_feed
set_option maxRecDepth 20000 in
theorem ggX9_drawn_X9_forgetSecret : GoodIn wsX9_drawn wsX9_forgetSecret := goodIn_r _ [94, 3, 95, 39, 40, 41, 104, 105, 106, 107, 108, 109, 110, 111, 112, 113, 114, 115, 116, 117, 118, 119, 120, 121, 122] rfl (by decide +kernel)
set_option maxRecDepth 20000 in
theorem gX9_drawn_X9_forgetSecret : GoodIn wsX9_drawn (wsV RX9 243 RX9 yX9_forgetSecret wsX9_forgetSecret) := goodIn_app (goodIn_of _ (by decide +kernel)) ggX9_drawn_X9_forgetSecret
set_option maxRecDepth 20000 in
theorem ggX9_drawn_X3_answer : GoodIn wsX9_drawn wsX3_answer := goodIn_r _ [99, 48, 36, 37, 100, 101, 102, 103, 47, 7, 8, 9, 16, 42, 43, 44, 13, 45, 46, 49, 50, 51, 52, 53, 54, 55, 56, 57, 58, 59, 60, 61, 62, 63, 64, 65, 66, 67, 68, 69, 70, 71, 72, 73, 74, 75, 76, 77, 78, 79, 80, 81, 82, 83, 40, 84, 85, 86, 87, 88, 89, 90, 29, 30, 31, 123, 124, 125, 126, 127, 128, 137, 138, 139, 140, 141, 142, 143, 144, 145] rfl (by decide +kernel)
set_option maxRecDepth 20000 in
theorem gX9_drawn_X3_answer : GoodIn wsX9_drawn (wsV RX9 412 RX3 yX3_answer wsX3_answer) := goodIn_app (goodIn_of _ (by decide +kernel)) ggX9_drawn_X3_answer
def zT_X9_drawn_0 : List (Nat × Instr × Nat) := [(0, .aload_n 0, 1), (1, .getfield 82, 3), (4, .invokevirtual 399, 3), (7, .istore 5, 2), (9, .aload_n 0, 1), (10, .getfield 38, 3), (13, .iload 5, 2), (15, .invokevirtual 402, 3), (18, .ifCond .ne 5, 3), (21, .iconst 0, 1), (22, .ireturn, 1), (23, .aload_n 0, 1), (24, .getfield 38, 3), (27, .iload 5, 2), (29, .aload_n 0, 1), (30, .getfield 98, 3), (33, .invokevirtual 405, 3), (36, .aload_n 0, 1), (37, .getfield 82, 3), (40, .aload_n 0, 1), (41, .getfield 98, 3), (44, .iconst 4, 1), (45, .iload 5, 2), (47, .imul, 1), (48, .invokevirtual 409, 3), (51, .aload_n 0, 1), (52, .invokevirtual 243, 3), (55, .aload_n 0, 1), (56, .getfield 9, 3), (59, .iconst 0, 1), (60, .aload_n 0, 1), (61, .getfield 95, 3), (64, .iconst 0, 1), (65, .iload 4, 2), (67, .invokestatic 276, 3), (70, .aload_n 0, 1), (71, .getfield 82, 3), (74, .aload_n 0, 1), (75, .getfield 95, 3), (78, .iload 4, 2), (80, .aload_n 1, 1), (81, .iload_n 2, 1), (82, .iload_n 3, 1), (83, .invokevirtual 412, 3), (86, .iconst 1, 1), (87, .ireturn, 1)]
theorem zt_X9_drawn_0 : zdt cX9_drawn zT_X9_drawn_0 = true := by decide +kernel
set_option maxRecDepth 20000 in
theorem ggX9_forgetSecret_J7_fill_031fb : GoodIn wsX9_forgetSecret wsJ7_fill_031fb := goodIn_r _ [5] rfl (by decide +kernel)
set_option maxRecDepth 20000 in
theorem gX9_forgetSecret_J7_fill_031fb : GoodIn wsX9_forgetSecret (va_wsS RX9 122 yJ7_fill_031fb wsJ7_fill_031fb) := goodIn_app (goodIn_of _ (by decide +kernel)) ggX9_forgetSecret_J7_fill_031fb
def zT_X9_forgetSecret_0 : List (Nat × Instr × Nat) := [(0, .aload_n 0, 1), (1, .getfield 98, 3), (4, .iconst 0, 1), (5, .invokestatic 122, 3), (8, .return_, 1)]
theorem zt_X9_forgetSecret_0 : zdt cX9_forgetSecret zT_X9_forgetSecret_0 = true := by decide +kernel
def zT_X9_inBuffer_0 : List (Nat × Instr × Nat) := [(0, .iload_n 0, 1), (1, .ifCond .lt 27, 3), (4, .iload_n 0, 1), (5, .sipush 512, 3), (8, .if_icmp .gt 20, 3), (11, .iload_n 1, 1), (12, .ifCond .lt 16, 3), (15, .iload_n 1, 1), (16, .sipush 512, 3), (19, .iload_n 0, 1), (20, .isub, 1), (21, .if_icmp .gt 7, 3), (24, .iconst 1, 1), (25, .goto 4, 3), (28, .iconst 0, 1), (29, .ireturn, 1)]
theorem zt_X9_inBuffer_0 : zdt cX9_inBuffer zT_X9_inBuffer_0 = true := by decide +kernel
def zT_X9_isSlot_0 : List (Nat × Instr × Nat) := [(0, .iload_n 0, 1), (1, .ifCond .lt 13, 3), (4, .iload_n 0, 1), (5, .bipush 16, 2), (7, .if_icmp .ge 7, 3), (10, .iconst 1, 1), (11, .goto 4, 3), (14, .iconst 0, 1), (15, .ireturn, 1)]
theorem zt_X9_isSlot_0 : zdt cX9_isSlot zT_X9_isSlot_0 = true := by decide +kernel
def zT_X9_isRole_0 : List (Nat × Instr × Nat) := [(0, .iload_n 0, 1), (1, .iconst 1, 1), (2, .if_icmp .eq 8, 3), (5, .iload_n 0, 1), (6, .iconst 2, 1), (7, .if_icmp .ne 7, 3), (10, .iconst 1, 1), (11, .goto 4, 3), (14, .iconst 0, 1), (15, .ireturn, 1)]
theorem zt_X9_isRole_0 : zdt cX9_isRole zT_X9_isRole_0 = true := by decide +kernel
def zT_X9_isKind_0 : List (Nat × Instr × Nat) := [(0, .iload_n 0, 1), (1, .iconst 1, 1), (2, .if_icmp .eq 8, 3), (5, .iload_n 0, 1), (6, .iconst 2, 1), (7, .if_icmp .ne 7, 3), (10, .iconst 1, 1), (11, .goto 4, 3), (14, .iconst 0, 1), (15, .ireturn, 1)]
theorem zt_X9_isKind_0 : zdt cX9_isKind zT_X9_isKind_0 = true := by decide +kernel
def zT_X9_isUsage_0 : List (Nat × Instr × Nat) := [(0, .iload_n 0, 1), (1, .ifCond .lt 13, 3), (4, .iload_n 0, 1), (5, .bipush 63, 2), (7, .if_icmp .gt 7, 3), (10, .iconst 1, 1), (11, .goto 4, 3), (14, .iconst 0, 1), (15, .ireturn, 1)]
theorem zt_X9_isUsage_0 : zdt cX9_isUsage zT_X9_isUsage_0 = true := by decide +kernel
def zT_X9_isKeyLength_0 : List (Nat × Instr × Nat) := [(0, .iload_n 0, 1), (1, .iconst 1, 1), (2, .if_icmp .lt 13, 3), (5, .iload_n 0, 1), (6, .bipush 64, 2), (8, .if_icmp .gt 7, 3), (11, .iconst 1, 1), (12, .goto 4, 3), (15, .iconst 0, 1), (16, .ireturn, 1)]
theorem zt_X9_isKeyLength_0 : zdt cX9_isKeyLength zT_X9_isKeyLength_0 = true := by decide +kernel
set_option maxRecDepth 20000 in
theorem ggX9_lengthFits_X9_isKeyLength : GoodIn wsX9_lengthFits wsX9_isKeyLength := goodIn_r _ [4] rfl (by decide +kernel)
set_option maxRecDepth 20000 in
theorem gX9_lengthFits_X9_isKeyLength : GoodIn wsX9_lengthFits (va_wsS RX9 253 yX9_isKeyLength wsX9_isKeyLength) := goodIn_app (goodIn_of _ (by decide +kernel)) ggX9_lengthFits_X9_isKeyLength
def zT_X9_lengthFits_0 : List (Nat × Instr × Nat) := [(0, .iload_n 0, 1), (1, .iconst 1, 1), (2, .if_icmp .ne 23, 3), (5, .iload_n 1, 1), (6, .bipush 16, 2), (8, .if_icmp .eq 9, 3), (11, .iload_n 1, 1), (12, .bipush 32, 2), (14, .if_icmp .ne 7, 3), (17, .iconst 1, 1), (18, .goto 11, 3), (21, .iconst 0, 1), (22, .goto 7, 3), (25, .iload_n 1, 1), (26, .invokestatic 253, 3), (29, .ireturn, 1)]
theorem zt_X9_lengthFits_0 : zdt cX9_lengthFits zT_X9_lengthFits_0 = true := by decide +kernel
def zT_X9_intAt_0 : List (Nat × Instr × Nat) := [(0, .aload_n 0, 1), (1, .iload_n 1, 1), (2, .baload, 1), (3, .bipush 24, 2), (5, .ishl, 1), (6, .aload_n 0, 1), (7, .iload_n 1, 1), (8, .iconst 1, 1), (9, .iadd, 1), (10, .baload, 1), (11, .sipush 255, 3), (14, .iand, 1), (15, .bipush 16, 2), (17, .ishl, 1), (18, .ior, 1), (19, .aload_n 0, 1), (20, .iload_n 1, 1), (21, .iconst 2, 1), (22, .iadd, 1), (23, .baload, 1), (24, .sipush 255, 3), (27, .iand, 1), (28, .bipush 8, 2), (30, .ishl, 1), (31, .ior, 1), (32, .aload_n 0, 1), (33, .iload_n 1, 1), (34, .iconst 3, 1), (35, .iadd, 1), (36, .baload, 1), (37, .sipush 255, 3), (40, .iand, 1), (41, .ior, 1), (42, .ireturn, 1)]
theorem zt_X9_intAt_0 : zdt cX9_intAt zT_X9_intAt_0 = true := by decide +kernel
def zT_X9_putInt_0 : List (Nat × Instr × Nat) := [(0, .aload_n 0, 1), (1, .iload_n 1, 1), (2, .iload_n 2, 1), (3, .bipush 24, 2), (5, .iushr, 1), (6, .i2b, 1), (7, .bastore, 1), (8, .aload_n 0, 1), (9, .iload_n 1, 1), (10, .iconst 1, 1), (11, .iadd, 1), (12, .iload_n 2, 1), (13, .bipush 16, 2), (15, .iushr, 1), (16, .i2b, 1), (17, .bastore, 1), (18, .aload_n 0, 1), (19, .iload_n 1, 1), (20, .iconst 2, 1), (21, .iadd, 1), (22, .iload_n 2, 1), (23, .bipush 8, 2), (25, .iushr, 1), (26, .i2b, 1), (27, .bastore, 1), (28, .aload_n 0, 1), (29, .iload_n 1, 1), (30, .iconst 3, 1), (31, .iadd, 1), (32, .iload_n 2, 1), (33, .i2b, 1), (34, .bastore, 1), (35, .return_, 1)]
theorem zt_X9_putInt_0 : zdt cX9_putInt zT_X9_putInt_0 = true := by decide +kernel
set_option maxRecDepth 20000 in
theorem ggX9_longAt_X9_intAt : GoodIn wsX9_longAt wsX9_intAt := goodIn_r _ [5] rfl (by decide +kernel)
set_option maxRecDepth 20000 in
theorem gX9_longAt_X9_intAt : GoodIn wsX9_longAt (va_wsS RX9 416 yX9_intAt wsX9_intAt) := goodIn_app (goodIn_of _ (by decide +kernel)) ggX9_longAt_X9_intAt
def zT_X9_longAt_0 : List (Nat × Instr × Nat) := [(0, .aload_n 0, 1), (1, .iload_n 1, 1), (2, .invokestatic 416, 3), (5, .i2l, 1), (6, .bipush 32, 2), (8, .lshl, 1), (9, .aload_n 0, 1), (10, .iload_n 1, 1), (11, .iconst 4, 1), (12, .iadd, 1), (13, .invokestatic 416, 3), (16, .i2l, 1), (17, .ldc2_w 420, 3), (20, .land, 1), (21, .lor, 1), (22, .lreturn, 1)]
theorem zt_X9_longAt_0 : zdt cX9_longAt zT_X9_longAt_0 = true := by decide +kernel
set_option maxRecDepth 20000 in
theorem ggX9_putLong_X9_putInt : GoodIn wsX9_putLong wsX9_putInt := goodIn_r _ [4] rfl (by decide +kernel)
set_option maxRecDepth 20000 in
theorem gX9_putLong_X9_putInt : GoodIn wsX9_putLong (va_wsS RX9 282 yX9_putInt wsX9_putInt) := goodIn_app (goodIn_of _ (by decide +kernel)) ggX9_putLong_X9_putInt
def zT_X9_putLong_0 : List (Nat × Instr × Nat) := [(0, .aload_n 0, 1), (1, .iload_n 1, 1), (2, .lload_n 2, 1), (3, .bipush 32, 2), (5, .lushr, 1), (6, .l2i, 1), (7, .invokestatic 282, 3), (10, .aload_n 0, 1), (11, .iload_n 1, 1), (12, .iconst 4, 1), (13, .iadd, 1), (14, .lload_n 2, 1), (15, .l2i, 1), (16, .invokestatic 282, 3), (19, .return_, 1)]
theorem zt_X9_putLong_0 : zdt cX9_putLong zT_X9_putLong_0 = true := by decide +kernel
def zT_X9_alike_0 : List (Nat × Instr × Nat) := [(0, .iconst 0, 1), (1, .istore 5, 2), (3, .iconst 0, 1), (4, .istore 6, 2), (6, .iload 6, 2), (8, .iload 4, 2), (10, .if_icmp .ge 27, 3), (13, .iload 5, 2), (15, .aload_n 0, 1), (16, .iload_n 1, 1), (17, .iload 6, 2), (19, .iadd, 1), (20, .baload, 1), (21, .aload_n 2, 1), (22, .iload_n 3, 1), (23, .iload 6, 2), (25, .iadd, 1), (26, .baload, 1), (27, .ixor, 1), (28, .ior, 1), (29, .istore 5, 2), (31, .iinc 6 1, 3), (34, .goto (-28), 3), (37, .iload 5, 2), (39, .ifCond .ne 7, 3), (42, .iconst 1, 1), (43, .goto 4, 3), (46, .iconst 0, 1), (47, .ireturn, 1)]
theorem zt_X9_alike_0 : zdt cX9_alike zT_X9_alike_0 = true := by decide +kernel
def zT_X9_xorBytes_0 : List (Nat × Instr × Nat) := [(0, .iconst 0, 1), (1, .istore 5, 2), (3, .iload 5, 2), (5, .iload 4, 2), (7, .if_icmp .ge 25, 3), (10, .aload_n 2, 1), (11, .iload_n 3, 1), (12, .iload 5, 2), (14, .iadd, 1), (15, .dup2, 1), (16, .baload, 1), (17, .aload_n 0, 1), (18, .iload_n 1, 1), (19, .iload 5, 2), (21, .iadd, 1), (22, .baload, 1), (23, .ixor, 1), (24, .i2b, 1), (25, .bastore, 1), (26, .iinc 5 1, 3), (29, .goto (-26), 3), (32, .return_, 1)]
theorem zt_X9_xorBytes_0 : zdt cX9_xorBytes zT_X9_xorBytes_0 = true := by decide +kernel
