def zT_X4_init_0 : List (Nat × Instr × Nat) := [(0, .aload_n 0, 1), (1, .invokespecial 3, 3), (4, .aload_n 0, 1), (5, .bipush 16, 2), (7, .newarray .byte, 2), (9, .putfield 9, 3), (12, .aload_n 0, 1), (13, .bipush 16, 2), (15, .newarray .byte, 2), (17, .putfield 15, 3), (20, .aload_n 0, 1), (21, .aload_n 1, 1), (22, .putfield 18, 3), (25, .return_, 1)]
theorem zt_X4_init_0 : zdt cX4_init zT_X4_init_0 = true := by decide +kernel
set_option maxRecDepth 20000 in
theorem ggX4_ecbSeal_X0_encrypt : GoodIn wsX4_ecbSeal wsX0_encrypt := goodIn_r _ [6, 7, 8, 9, 10, 11, 12, 13, 5, 14, 15, 16, 17, 18, 19, 20, 21, 22, 26, 27] rfl (by decide +kernel)
set_option maxRecDepth 20000 in
theorem gX4_ecbSeal_X0_encrypt : GoodIn wsX4_ecbSeal (wsV RX4 22 RX0 yX0_encrypt wsX0_encrypt) := goodIn_app (goodIn_of _ (by decide +kernel)) ggX4_ecbSeal_X0_encrypt
def zT_X4_ecbSeal_0 : List (Nat × Instr × Nat) := [(0, .iconst 0, 1), (1, .istore 4, 2), (3, .iload 4, 2), (5, .iload_n 3, 1), (6, .if_icmp .ge 21, 3), (9, .aload_n 0, 1), (10, .getfield 18, 3), (13, .aload_n 1, 1), (14, .iload_n 2, 1), (15, .iload 4, 2), (17, .iadd, 1), (18, .invokevirtual 22, 3), (21, .iinc 4 16, 3), (24, .goto (-21), 3), (27, .return_, 1)]
theorem zt_X4_ecbSeal_0 : zdt cX4_ecbSeal zT_X4_ecbSeal_0 = true := by decide +kernel
set_option maxRecDepth 20000 in
theorem ggX4_ecbOpen_X0_decrypt : GoodIn wsX4_ecbOpen wsX0_decrypt := goodIn_r _ [6, 7, 8, 9, 10, 11, 12, 13, 5, 14, 15, 16, 17, 18, 19, 20, 21, 22, 23, 24, 25, 26, 30, 31] rfl (by decide +kernel)
set_option maxRecDepth 20000 in
theorem gX4_ecbOpen_X0_decrypt : GoodIn wsX4_ecbOpen (wsV RX4 28 RX0 yX0_decrypt wsX0_decrypt) := goodIn_app (goodIn_of _ (by decide +kernel)) ggX4_ecbOpen_X0_decrypt
def zT_X4_ecbOpen_0 : List (Nat × Instr × Nat) := [(0, .iconst 0, 1), (1, .istore 4, 2), (3, .iload 4, 2), (5, .iload_n 3, 1), (6, .if_icmp .ge 21, 3), (9, .aload_n 0, 1), (10, .getfield 18, 3), (13, .aload_n 1, 1), (14, .iload_n 2, 1), (15, .iload 4, 2), (17, .iadd, 1), (18, .invokevirtual 28, 3), (21, .iinc 4 16, 3), (24, .goto (-21), 3), (27, .return_, 1)]
theorem zt_X4_ecbOpen_0 : zdt cX4_ecbOpen zT_X4_ecbOpen_0 = true := by decide +kernel
set_option maxRecDepth 20000 in
theorem ggX4_cbcSeal_X9_xorBytes : GoodIn wsX4_cbcSeal wsX9_xorBytes := goodIn_r _ [4] rfl (by decide +kernel)
set_option maxRecDepth 20000 in
theorem gX4_cbcSeal_X9_xorBytes_n31 : GoodIn wsX4_cbcSeal (wsX9_xorBytes) := ggX4_cbcSeal_X9_xorBytes
set_option maxRecDepth 20000 in
theorem ggX4_cbcSeal_X0_encrypt : GoodIn wsX4_cbcSeal wsX0_encrypt := goodIn_r _ [9, 10, 11, 12, 3, 13, 14, 15, 8, 16, 17, 18, 19, 20, 21, 22, 23, 24, 28, 29] rfl (by decide +kernel)
set_option maxRecDepth 20000 in
theorem gX4_cbcSeal_X0_encrypt : GoodIn wsX4_cbcSeal (wsV RX4 22 RX0 yX0_encrypt wsX0_encrypt) := goodIn_app (goodIn_of _ (by decide +kernel)) ggX4_cbcSeal_X0_encrypt
def zT_X4_cbcSeal_0 : List (Nat × Instr × Nat) := [(0, .bipush 16, 2), (2, .istore 4, 2), (4, .iload 4, 2), (6, .iload_n 3, 1), (7, .if_icmp .ge 39, 3), (10, .aload_n 1, 1), (11, .iload_n 2, 1), (12, .iload 4, 2), (14, .iadd, 1), (15, .bipush 16, 2), (17, .isub, 1), (18, .aload_n 1, 1), (19, .iload_n 2, 1), (20, .iload 4, 2), (22, .iadd, 1), (23, .bipush 16, 2), (25, .invokestatic 31, 3), (28, .aload_n 0, 1), (29, .getfield 18, 3), (32, .aload_n 1, 1), (33, .iload_n 2, 1), (34, .iload 4, 2), (36, .iadd, 1), (37, .invokevirtual 22, 3), (40, .iinc 4 16, 3), (43, .goto (-39), 3), (46, .return_, 1)]
theorem zt_X4_cbcSeal_0 : zdt cX4_cbcSeal zT_X4_cbcSeal_0 = true := by decide +kernel
set_option maxRecDepth 20000 in
theorem ggX4_cbcOpen_X0_decrypt : GoodIn wsX4_cbcOpen wsX0_decrypt := goodIn_r _ [6, 7, 8, 9, 10, 11, 12, 13, 5, 14, 15, 16, 17, 18, 19, 20, 21, 22, 23, 24, 25, 26, 32, 33] rfl (by decide +kernel)
set_option maxRecDepth 20000 in
theorem gX4_cbcOpen_X0_decrypt : GoodIn wsX4_cbcOpen (wsV RX4 28 RX0 yX0_decrypt wsX0_decrypt) := goodIn_app (goodIn_of _ (by decide +kernel)) ggX4_cbcOpen_X0_decrypt
set_option maxRecDepth 20000 in
theorem ggX4_cbcOpen_X9_xorBytes : GoodIn wsX4_cbcOpen wsX9_xorBytes := goodIn_r _ [28] rfl (by decide +kernel)
set_option maxRecDepth 20000 in
theorem gX4_cbcOpen_X9_xorBytes_n31 : GoodIn wsX4_cbcOpen (wsX9_xorBytes) := ggX4_cbcOpen_X9_xorBytes
def zT_X4_cbcOpen_0 : List (Nat × Instr × Nat) := [(0, .iload_n 3, 1), (1, .bipush 16, 2), (3, .isub, 1), (4, .istore 4, 2), (6, .iload 4, 2), (8, .ifCond .le 39, 3), (11, .aload_n 0, 1), (12, .getfield 18, 3), (15, .aload_n 1, 1), (16, .iload_n 2, 1), (17, .iload 4, 2), (19, .iadd, 1), (20, .invokevirtual 28, 3), (23, .aload_n 1, 1), (24, .iload_n 2, 1), (25, .iload 4, 2), (27, .iadd, 1), (28, .bipush 16, 2), (30, .isub, 1), (31, .aload_n 1, 1), (32, .iload_n 2, 1), (33, .iload 4, 2), (35, .iadd, 1), (36, .bipush 16, 2), (38, .invokestatic 31, 3), (41, .iinc 4 (-16), 3), (44, .goto (-38), 3), (47, .return_, 1)]
theorem zt_X4_cbcOpen_0 : zdt cX4_cbcOpen zT_X4_cbcOpen_0 = true := by decide +kernel
set_option maxRecDepth 20000 in
theorem ggX4_addStream_X4_addStreamOfBlock : GoodIn wsX4_addStream wsX4_addStreamOfBlock := goodIn_r _ [10, 1, 11, 2, 3, 4, 5, 12, 13, 14, 15, 16, 17, 18, 19, 20, 21, 22, 23, 24, 25, 26, 27, 28, 29, 30, 31, 32, 33, 34, 35, 36, 37, 38, 39, 40, 41, 42, 9, 43, 44, 45, 46, 47, 48] rfl (by decide +kernel)
set_option maxRecDepth 20000 in
theorem gX4_addStream_X4_addStreamOfBlock : GoodIn wsX4_addStream (wsV RX4 41 RX4 yX4_addStreamOfBlock wsX4_addStreamOfBlock) := goodIn_app (goodIn_of _ (by decide +kernel)) ggX4_addStream_X4_addStreamOfBlock
def zT_X4_addStream_0 : List (Nat × Instr × Nat) := [(0, .aload_n 1, 1), (1, .iload_n 2, 1), (2, .aload_n 0, 1), (3, .getfield 9, 3), (6, .iconst 0, 1), (7, .bipush 16, 2), (9, .invokestatic 35, 3), (12, .aload_n 0, 1), (13, .aload_n 1, 1), (14, .iload_n 3, 1), (15, .iload 4, 2), (17, .invokevirtual 41, 3), (20, .return_, 1)]
theorem zt_X4_addStream_0 : zdt cX4_addStream zT_X4_addStream_0 = true := by decide +kernel
set_option maxRecDepth 20000 in
theorem ggX4_addNonceStream_X9_putInt : GoodIn wsX4_addNonceStream wsX9_putInt := goodIn_r _ [8] rfl (by decide +kernel)
set_option maxRecDepth 20000 in
theorem gX4_addNonceStream_X9_putInt_n45 : GoodIn wsX4_addNonceStream (wsX9_putInt) := ggX4_addNonceStream_X9_putInt
set_option maxRecDepth 20000 in
theorem ggX4_addNonceStream_X4_addStreamOfBlock : GoodIn wsX4_addNonceStream wsX4_addStreamOfBlock := goodIn_r _ [13, 1, 14, 2, 3, 4, 5, 15, 16, 17, 18, 19, 20, 21, 22, 23, 24, 25, 26, 27, 7, 28, 29, 30, 31, 32, 33, 34, 35, 36, 37, 6, 8, 38, 39, 40, 41, 42, 12, 43, 44, 45, 46, 47, 48] rfl (by decide +kernel)
set_option maxRecDepth 20000 in
theorem gX4_addNonceStream_X4_addStreamOfBlock : GoodIn wsX4_addNonceStream (wsV RX4 41 RX4 yX4_addStreamOfBlock wsX4_addStreamOfBlock) := goodIn_app (goodIn_of _ (by decide +kernel)) ggX4_addNonceStream_X4_addStreamOfBlock
def zT_X4_addNonceStream_0 : List (Nat × Instr × Nat) := [(0, .aload_n 1, 1), (1, .iload_n 2, 1), (2, .aload_n 0, 1), (3, .getfield 9, 3), (6, .iconst 0, 1), (7, .bipush 12, 2), (9, .invokestatic 35, 3), (12, .aload_n 0, 1), (13, .getfield 9, 3), (16, .bipush 12, 2), (18, .iconst 2, 1), (19, .invokestatic 45, 3), (22, .aload_n 0, 1), (23, .aload_n 1, 1), (24, .iload_n 3, 1), (25, .iload 4, 2), (27, .invokevirtual 41, 3), (30, .return_, 1)]
theorem zt_X4_addNonceStream_0 : zdt cX4_addNonceStream zT_X4_addNonceStream_0 = true := by decide +kernel
set_option maxRecDepth 20000 in
theorem ggX4_addStreamOfBlock_X0_encrypt : GoodIn wsX4_addStreamOfBlock wsX0_encrypt := goodIn_r _ [16, 17, 18, 19, 20, 21, 22, 23, 15, 24, 25, 26, 27, 28, 29, 30, 31, 32, 43, 44] rfl (by decide +kernel)
set_option maxRecDepth 20000 in
theorem gX4_addStreamOfBlock_X0_encrypt : GoodIn wsX4_addStreamOfBlock (wsV RX4 22 RX0 yX0_encrypt wsX0_encrypt) := goodIn_app (goodIn_of _ (by decide +kernel)) ggX4_addStreamOfBlock_X0_encrypt
set_option maxRecDepth 20000 in
theorem ggX4_addStreamOfBlock_X9_xorBytes : GoodIn wsX4_addStreamOfBlock wsX9_xorBytes := goodIn_r _ [34] rfl (by decide +kernel)
set_option maxRecDepth 20000 in
theorem gX4_addStreamOfBlock_X9_xorBytes_n31 : GoodIn wsX4_addStreamOfBlock (wsX9_xorBytes) := ggX4_addStreamOfBlock_X9_xorBytes
set_option maxRecDepth 20000 in
theorem ggX4_addStreamOfBlock_X4_countUp : GoodIn wsX4_addStreamOfBlock wsX4_countUp := goodIn_r _ [39, 1, 40, 41, 42] rfl (by decide +kernel)
set_option maxRecDepth 20000 in
theorem gX4_addStreamOfBlock_X4_countUp : GoodIn wsX4_addStreamOfBlock (wsV RX4 54 RX4 yX4_countUp wsX4_countUp) := goodIn_app (goodIn_of _ (by decide +kernel)) ggX4_addStreamOfBlock_X4_countUp
def zT_X4_addStreamOfBlock_0 : List (Nat × Instr × Nat) := [(0, .iconst 0, 1), (1, .istore 4, 2), (3, .iload 4, 2), (5, .iload_n 3, 1), (6, .if_icmp .ge 62, 3), (9, .aload_n 0, 1), (10, .getfield 9, 3), (13, .iconst 0, 1), (14, .aload_n 0, 1), (15, .getfield 15, 3), (18, .iconst 0, 1), (19, .bipush 16, 2), (21, .invokestatic 35, 3), (24, .aload_n 0, 1), (25, .getfield 18, 3), (28, .aload_n 0, 1), (29, .getfield 15, 3), (32, .iconst 0, 1), (33, .invokevirtual 22, 3), (36, .aload_n 0, 1), (37, .getfield 15, 3), (40, .iconst 0, 1), (41, .aload_n 1, 1), (42, .iload_n 2, 1), (43, .iload 4, 2), (45, .iadd, 1), (46, .bipush 16, 2), (48, .iload_n 3, 1), (49, .iload 4, 2), (51, .isub, 1), (52, .invokestatic 48, 3), (55, .invokestatic 31, 3), (58, .aload_n 0, 1), (59, .invokevirtual 54, 3), (62, .iinc 4 16, 3), (65, .goto (-62), 3), (68, .return_, 1)]
theorem zt_X4_addStreamOfBlock_0 : zdt cX4_addStreamOfBlock zT_X4_addStreamOfBlock_0 = true := by decide +kernel
def zT_X4_countUp_0 : List (Nat × Instr × Nat) := [(0, .iconst 1, 1), (1, .istore_n 1, 1), (2, .bipush 15, 2), (4, .istore_n 2, 1), (5, .iload_n 2, 1), (6, .ifCond .lt 39, 3), (9, .iload_n 1, 1), (10, .ifCond .eq 35, 3), (13, .aload_n 0, 1), (14, .getfield 9, 3), (17, .iload_n 2, 1), (18, .dup2, 1), (19, .baload, 1), (20, .iconst 1, 1), (21, .iadd, 1), (22, .i2b, 1), (23, .bastore, 1), (24, .aload_n 0, 1), (25, .getfield 9, 3), (28, .iload_n 2, 1), (29, .baload, 1), (30, .ifCond .ne 7, 3), (33, .iconst 1, 1), (34, .goto 4, 3), (37, .iconst 0, 1), (38, .istore_n 1, 1), (39, .iinc 2 (-1), 3), (42, .goto (-37), 3), (45, .return_, 1)]
theorem zt_X4_countUp_0 : zdt cX4_countUp zT_X4_countUp_0 = true := by decide +kernel
set_option maxRecDepth 20000 in
theorem ggX4_cmac_J7_fill_031fb : GoodIn wsX4_cmac wsJ7_fill_031fb := goodIn_r _ [11] rfl (by decide +kernel)
set_option maxRecDepth 20000 in
theorem gX4_cmac_J7_fill_031fb : GoodIn wsX4_cmac (va_wsS RX4 57 yJ7_fill_031fb wsJ7_fill_031fb) := goodIn_app (goodIn_of _ (by decide +kernel)) ggX4_cmac_J7_fill_031fb
set_option maxRecDepth 20000 in
theorem ggX4_cmac_X0_encrypt : GoodIn wsX4_cmac wsX0_encrypt := goodIn_r _ [16, 17, 18, 19, 20, 21, 22, 23, 15, 24, 25, 26, 27, 28, 29, 30, 31, 32, 50, 51] rfl (by decide +kernel)
set_option maxRecDepth 20000 in
theorem gX4_cmac_X0_encrypt : GoodIn wsX4_cmac (wsV RX4 22 RX0 yX0_encrypt wsX0_encrypt) := goodIn_app (goodIn_of _ (by decide +kernel)) ggX4_cmac_X0_encrypt
set_option maxRecDepth 20000 in
theorem ggX4_cmac_X4_doublePad : GoodIn wsX4_cmac wsX4_doublePad := goodIn_r _ [37, 1, 38, 20, 39, 40, 41, 19, 21, 42, 43, 44, 31, 32, 47, 48, 49] rfl (by decide +kernel)
set_option maxRecDepth 20000 in
theorem gX4_cmac_X4_doublePad : GoodIn wsX4_cmac (wsV RX4 63 RX4 yX4_doublePad wsX4_doublePad) := goodIn_app (goodIn_of _ (by decide +kernel)) ggX4_cmac_X4_doublePad
set_option maxRecDepth 20000 in
theorem ggX4_cmac_X9_xorBytes : GoodIn wsX4_cmac wsX9_xorBytes := goodIn_r _ [46] rfl (by decide +kernel)
set_option maxRecDepth 20000 in
theorem gX4_cmac_X9_xorBytes_n31 : GoodIn wsX4_cmac (wsX9_xorBytes) := ggX4_cmac_X9_xorBytes
def zT_X4_cmac_0 : List (Nat × Instr × Nat) := [(0, .aload_n 0, 1), (1, .getfield 15, 3), (4, .iconst 0, 1), (5, .invokestatic 57, 3), (8, .aload_n 0, 1), (9, .getfield 18, 3), (12, .aload_n 0, 1), (13, .getfield 15, 3), (16, .iconst 0, 1), (17, .invokevirtual 22, 3), (20, .aload_n 0, 1), (21, .invokevirtual 63, 3), (24, .aload_n 0, 1), (25, .getfield 9, 3), (28, .iconst 0, 1), (29, .invokestatic 57, 3), (32, .iconst 0, 1), (33, .istore 6, 2), (35, .iload_n 3, 1), (36, .iload 6, 2), (38, .isub, 1), (39, .bipush 16, 2), (41, .if_icmp .le 36, 3), (44, .aload_n 1, 1), (45, .iload_n 2, 1), (46, .iload 6, 2), (48, .iadd, 1), (49, .aload_n 0, 1), (50, .getfield 9, 3), (53, .iconst 0, 1), (54, .bipush 16, 2), (56, .invokestatic 31, 3), (59, .aload_n 0, 1), (60, .getfield 18, 3), (63, .aload_n 0, 1), (64, .getfield 9, 3), (67, .iconst 0, 1), (68, .invokevirtual 22, 3), (71, .iinc 6 16, 3), (74, .goto (-39), 3), (77, .aload_n 1, 1), (78, .iload_n 2, 1), (79, .iload 6, 2), (81, .iadd, 1), (82, .aload_n 0, 1), (83, .getfield 9, 3), (86, .iconst 0, 1), (87, .iload_n 3, 1), (88, .iload 6, 2), (90, .isub, 1), (91, .invokestatic 31, 3), (94, .iload_n 3, 1), (95, .iload 6, 2), (97, .isub, 1), (98, .bipush 16, 2), (100, .if_icmp .ge 22, 3), (103, .aload_n 0, 1), (104, .invokevirtual 63, 3), (107, .aload_n 0, 1), (108, .getfield 9, 3), (111, .iload_n 3, 1), (112, .iload 6, 2), (114, .isub, 1), (115, .dup2, 1)]
theorem zt_X4_cmac_0 : zdt cX4_cmac zT_X4_cmac_0 = true := by decide +kernel
def zT_X4_cmac_1 : List (Nat × Instr × Nat) := [(116, .baload, 1), (117, .bipush (-128), 2), (119, .ixor, 1), (120, .i2b, 1), (121, .bastore, 1), (122, .aload_n 0, 1), (123, .getfield 15, 3), (126, .iconst 0, 1), (127, .aload_n 0, 1), (128, .getfield 9, 3), (131, .iconst 0, 1), (132, .bipush 16, 2), (134, .invokestatic 31, 3), (137, .aload_n 0, 1), (138, .getfield 18, 3), (141, .aload_n 0, 1), (142, .getfield 9, 3), (145, .iconst 0, 1), (146, .invokevirtual 22, 3), (149, .aload_n 0, 1), (150, .getfield 9, 3), (153, .iconst 0, 1), (154, .aload 4, 2), (156, .iload 5, 2), (158, .bipush 16, 2), (160, .invokestatic 35, 3), (163, .return_, 1)]
theorem zt_X4_cmac_1 : zdt cX4_cmac zT_X4_cmac_1 = true := by decide +kernel
set_option maxRecDepth 20000 in
theorem ggX4_doublePad_X9_longAt : GoodIn wsX4_doublePad wsX9_longAt := goodIn_r _ [4, 5, 6, 7, 3, 8] rfl (by decide +kernel)
set_option maxRecDepth 20000 in
theorem gX4_doublePad_X9_longAt_n66 : GoodIn wsX4_doublePad (wsX9_longAt) := ggX4_doublePad_X9_longAt
set_option maxRecDepth 20000 in
theorem ggX4_doublePad_X9_putLong : GoodIn wsX4_doublePad wsX9_putLong := goodIn_r _ [10, 11, 12, 3, 13] rfl (by decide +kernel)
set_option maxRecDepth 20000 in
theorem gX4_doublePad_X9_putLong_n70 : GoodIn wsX4_doublePad (wsX9_putLong) := ggX4_doublePad_X9_putLong
def zT_X4_doublePad_0 : List (Nat × Instr × Nat) := [(0, .aload_n 0, 1), (1, .getfield 15, 3), (4, .iconst 0, 1), (5, .invokestatic 66, 3), (8, .lstore_n 1, 1), (9, .aload_n 0, 1), (10, .getfield 15, 3), (13, .bipush 8, 2), (15, .invokestatic 66, 3), (18, .lstore_n 3, 1), (19, .aload_n 0, 1), (20, .getfield 15, 3), (23, .iconst 0, 1), (24, .lload_n 1, 1), (25, .iconst 1, 1), (26, .lshl, 1), (27, .lload_n 3, 1), (28, .bipush 63, 2), (30, .lushr, 1), (31, .lor, 1), (32, .invokestatic 70, 3), (35, .aload_n 0, 1), (36, .getfield 15, 3), (39, .bipush 8, 2), (41, .lload_n 3, 1), (42, .iconst 1, 1), (43, .lshl, 1), (44, .lload_n 1, 1), (45, .lconst 0, 1), (46, .lcmp, 1), (47, .ifCond .ge 9, 3), (50, .sipush 135, 3), (53, .goto 4, 3), (56, .iconst 0, 1), (57, .i2l, 1), (58, .lxor, 1), (59, .invokestatic 70, 3), (62, .return_, 1)]
theorem zt_X4_doublePad_0 : zdt cX4_doublePad zT_X4_doublePad_0 = true := by decide +kernel
set_option maxRecDepth 20000 in
theorem ggX4_wrapIn_X9_putLong : GoodIn wsX4_wrapIn wsX9_putLong := goodIn_r _ [10, 11, 12, 9, 13] rfl (by decide +kernel)
set_option maxRecDepth 20000 in
theorem gX4_wrapIn_X9_putLong_n70 : GoodIn wsX4_wrapIn (wsX9_putLong) := ggX4_wrapIn_X9_putLong
set_option maxRecDepth 20000 in
theorem ggX4_wrapIn_X0_encrypt : GoodIn wsX4_wrapIn wsX0_encrypt := goodIn_r _ [18, 19, 20, 21, 9, 22, 23, 24, 17, 25, 26, 27, 28, 29, 30, 31, 12, 13, 39, 40] rfl (by decide +kernel)
set_option maxRecDepth 20000 in
theorem gX4_wrapIn_X0_encrypt : GoodIn wsX4_wrapIn (wsV RX4 22 RX0 yX0_encrypt wsX0_encrypt) := goodIn_app (goodIn_of _ (by decide +kernel)) ggX4_wrapIn_X0_encrypt
set_option maxRecDepth 20000 in
theorem ggX4_wrapIn_X9_longAt : GoodIn wsX4_wrapIn wsX9_longAt := goodIn_r _ [33, 34, 35, 21, 9, 22] rfl (by decide +kernel)
set_option maxRecDepth 20000 in
theorem gX4_wrapIn_X9_longAt_n66 : GoodIn wsX4_wrapIn (wsX9_longAt) := ggX4_wrapIn_X9_longAt
def zT_X4_wrapIn_0 : List (Nat × Instr × Nat) := [(0, .aload_n 0, 1), (1, .getfield 9, 3), (4, .iconst 0, 1), (5, .ldc2_w 74, 3), (8, .invokestatic 70, 3), (11, .iconst 0, 1), (12, .istore_n 3, 1), (13, .iconst 0, 1), (14, .istore 4, 2), (16, .iload 4, 2), (18, .bipush 6, 2), (20, .if_icmp .ge 87, 3), (23, .bipush 8, 2), (25, .istore 5, 2), (27, .iload 5, 2), (29, .iload_n 2, 1), (30, .if_icmp .ge 71, 3), (33, .iinc 3 1, 3), (36, .aload_n 1, 1), (37, .iload 5, 2), (39, .aload_n 0, 1), (40, .getfield 9, 3), (43, .bipush 8, 2), (45, .bipush 8, 2), (47, .invokestatic 35, 3), (50, .aload_n 0, 1), (51, .getfield 18, 3), (54, .aload_n 0, 1), (55, .getfield 9, 3), (58, .iconst 0, 1), (59, .invokevirtual 22, 3), (62, .aload_n 0, 1), (63, .getfield 9, 3), (66, .iconst 0, 1), (67, .aload_n 0, 1), (68, .getfield 9, 3), (71, .iconst 0, 1), (72, .invokestatic 66, 3), (75, .iload_n 3, 1), (76, .i2l, 1), (77, .lxor, 1), (78, .invokestatic 70, 3), (81, .aload_n 0, 1), (82, .getfield 9, 3), (85, .bipush 8, 2), (87, .aload_n 1, 1), (88, .iload 5, 2), (90, .bipush 8, 2), (92, .invokestatic 35, 3), (95, .iinc 5 8, 3), (98, .goto (-71), 3), (101, .iinc 4 1, 3), (104, .goto (-88), 3), (107, .aload_n 0, 1), (108, .getfield 9, 3), (111, .iconst 0, 1), (112, .aload_n 1, 1), (113, .iconst 0, 1), (114, .bipush 8, 2), (116, .invokestatic 35, 3), (119, .return_, 1)]
theorem zt_X4_wrapIn_0 : zdt cX4_wrapIn zT_X4_wrapIn_0 = true := by decide +kernel
set_option maxRecDepth 20000 in
theorem ggX4_wrapOut_X9_longAt : GoodIn wsX4_wrapOut wsX9_longAt := goodIn_r _ [10, 11, 12, 13, 9, 14] rfl (by decide +kernel)
set_option maxRecDepth 20000 in
theorem gX4_wrapOut_X9_longAt_n66 : GoodIn wsX4_wrapOut (wsX9_longAt) := ggX4_wrapOut_X9_longAt
set_option maxRecDepth 20000 in
theorem ggX4_wrapOut_X9_putLong : GoodIn wsX4_wrapOut wsX9_putLong := goodIn_r _ [16, 17, 18, 9, 19] rfl (by decide +kernel)
set_option maxRecDepth 20000 in
theorem gX4_wrapOut_X9_putLong_n70 : GoodIn wsX4_wrapOut (wsX9_putLong) := ggX4_wrapOut_X9_putLong
set_option maxRecDepth 20000 in
theorem ggX4_wrapOut_X0_decrypt : GoodIn wsX4_wrapOut wsX0_decrypt := goodIn_r _ [24, 25, 26, 13, 9, 14, 27, 28, 23, 29, 30, 31, 32, 33, 34, 35, 36, 37, 38, 39, 18, 19, 43, 44] rfl (by decide +kernel)
set_option maxRecDepth 20000 in
theorem gX4_wrapOut_X0_decrypt : GoodIn wsX4_wrapOut (wsV RX4 28 RX0 yX0_decrypt wsX0_decrypt) := goodIn_app (goodIn_of _ (by decide +kernel)) ggX4_wrapOut_X0_decrypt
def zT_X4_wrapOut_0 : List (Nat × Instr × Nat) := [(0, .aload_n 1, 1), (1, .iconst 0, 1), (2, .aload_n 0, 1), (3, .getfield 9, 3), (6, .iconst 0, 1), (7, .bipush 8, 2), (9, .invokestatic 35, 3), (12, .bipush 6, 2), (14, .iload_n 2, 1), (15, .bipush 8, 2), (17, .idiv, 1), (18, .iconst 1, 1), (19, .isub, 1), (20, .imul, 1), (21, .istore_n 3, 1), (22, .iconst 0, 1), (23, .istore 4, 2), (25, .iload 4, 2), (27, .bipush 6, 2), (29, .if_icmp .ge 88, 3), (32, .iload_n 2, 1), (33, .bipush 8, 2), (35, .isub, 1), (36, .istore 5, 2), (38, .iload 5, 2), (40, .ifCond .le 71, 3), (43, .aload_n 0, 1), (44, .getfield 9, 3), (47, .iconst 0, 1), (48, .aload_n 0, 1), (49, .getfield 9, 3), (52, .iconst 0, 1), (53, .invokestatic 66, 3), (56, .iload_n 3, 1), (57, .i2l, 1), (58, .lxor, 1), (59, .invokestatic 70, 3), (62, .aload_n 1, 1), (63, .iload 5, 2), (65, .aload_n 0, 1), (66, .getfield 9, 3), (69, .bipush 8, 2), (71, .bipush 8, 2), (73, .invokestatic 35, 3), (76, .aload_n 0, 1), (77, .getfield 18, 3), (80, .aload_n 0, 1), (81, .getfield 9, 3), (84, .iconst 0, 1), (85, .invokevirtual 28, 3), (88, .aload_n 0, 1), (89, .getfield 9, 3), (92, .bipush 8, 2), (94, .aload_n 1, 1), (95, .iload 5, 2), (97, .bipush 8, 2), (99, .invokestatic 35, 3), (102, .iinc 3 (-1), 3), (105, .iinc 5 (-8), 3), (108, .goto (-70), 3), (111, .iinc 4 1, 3), (114, .goto (-89), 3), (117, .aload_n 0, 1), (118, .getfield 9, 3)]
theorem zt_X4_wrapOut_0 : zdt cX4_wrapOut zT_X4_wrapOut_0 = true := by decide +kernel
def zT_X4_wrapOut_1 : List (Nat × Instr × Nat) := [(121, .iconst 0, 1), (122, .invokestatic 66, 3), (125, .ldc2_w 74, 3), (128, .lcmp, 1), (129, .ifCond .ne 7, 3), (132, .iconst 1, 1), (133, .goto 4, 3), (136, .iconst 0, 1), (137, .ireturn, 1)]
theorem zt_X4_wrapOut_1 : zdt cX4_wrapOut zT_X4_wrapOut_1 = true := by decide +kernel
def zT_X5_init_0 : List (Nat × Instr × Nat) := [(0, .aload_n 0, 1), (1, .invokespecial 1, 3), (4, .aload_n 0, 1), (5, .iconst 0, 1), (6, .putfield 7, 3), (9, .aload_n 0, 1), (10, .iload_n 1, 1), (11, .putfield 13, 3), (14, .return_, 1)]
theorem zt_X5_init_0 : zdt cX5_init zT_X5_init_0 = true := by decide +kernel
def zT_X5_opens_0 : List (Nat × Instr × Nat) := [(0, .aload_n 0, 1), (1, .getfield 7, 3), (4, .iconst 3, 1), (5, .if_icmp .ne 5, 3), (8, .iconst 0, 1), (9, .ireturn, 1), (10, .aload_n 0, 1), (11, .iload_n 1, 1), (12, .aload_n 0, 1), (13, .getfield 13, 3), (16, .if_icmp .ne 7, 3), (19, .iconst 0, 1), (20, .goto 9, 3), (23, .aload_n 0, 1), (24, .getfield 7, 3), (27, .iconst 1, 1), (28, .iadd, 1), (29, .putfield 7, 3), (32, .iload_n 1, 1), (33, .aload_n 0, 1), (34, .getfield 13, 3), (37, .if_icmp .ne 7, 3), (40, .iconst 1, 1), (41, .goto 4, 3), (44, .iconst 0, 1), (45, .ireturn, 1)]
theorem zt_X5_opens_0 : zdt cX5_opens zT_X5_opens_0 = true := by decide +kernel
def zT_X5_renew_0 : List (Nat × Instr × Nat) := [(0, .aload_n 0, 1), (1, .iload_n 1, 1), (2, .putfield 13, 3), (5, .aload_n 0, 1), (6, .iconst 0, 1), (7, .putfield 7, 3), (10, .return_, 1)]
theorem zt_X5_renew_0 : zdt cX5_renew zT_X5_renew_0 = true := by decide +kernel
set_option maxRecDepth 20000 in
theorem ggX6_init_X3_init : GoodIn wsX6_init wsX3_init := goodIn_r _ [17, 18, 2, 3, 4, 19, 20, 21, 22, 23, 24, 32, 33, 34, 35, 36, 37] rfl (by decide +kernel)
set_option maxRecDepth 20000 in
theorem gX6_init_X3_init : GoodIn wsX6_init (wsX3_init) := ggX6_init_X3_init
def zT_X6_init_0 : List (Nat × Instr × Nat) := [(0, .aload_n 0, 1), (1, .invokespecial 3, 3), (4, .aload_n 0, 1), (5, .bipush 32, 2), (7, .newarray .byte, 2), (9, .putfield 9, 3), (12, .aload_n 0, 1), (13, .bipush 64, 2), (15, .newarray .byte, 2), (17, .putfield 15, 3), (20, .aload_n 0, 1), (21, .aload_n 1, 1), (22, .putfield 18, 3), (25, .aload_n 0, 1), (26, .aload_n 2, 1), (27, .putfield 22, 3), (30, .aload_n 0, 1), (31, .aload_n 3, 1), (32, .putfield 26, 3), (35, .aload_n 0, 1), (36, .aload 4, 2), (38, .putfield 30, 3), (41, .aload_n 0, 1), (42, .new 34, 3), (45, .dup, 1), (46, .aload 4, 2), (48, .invokespecial 36, 3), (51, .putfield 39, 3), (54, .return_, 1)]
theorem zt_X6_init_0 : zdt cX6_init zT_X6_init_0 = true := by decide +kernel
set_option maxRecDepth 20000 in
theorem ggX6_comesRight_X6_aesRight : GoodIn wsX6_comesRight wsX6_aesRight := goodIn_r _ [11, 12, 13, 6, 14, 15, 16, 17, 10, 18, 5, 19, 20, 21, 22, 23, 24, 25, 26, 27, 28, 29, 30, 31, 32, 33, 34, 35, 36, 37, 38, 39, 40, 41, 42, 43, 44, 45, 46, 47, 48, 49, 50, 51, 52, 53, 54, 55, 56, 57, 58, 59, 60, 61, 62, 63, 64, 65, 66, 67, 68, 69, 70, 71, 72, 73, 282, 283, 284, 285, 286, 287, 288, 289, 290] rfl (by decide +kernel)
set_option maxRecDepth 20000 in
theorem gX6_comesRight_X6_aesRight : GoodIn wsX6_comesRight (wsV RX6 47 RX6 yX6_aesRight wsX6_aesRight) := goodIn_app (goodIn_of _ (by decide +kernel)) ggX6_comesRight_X6_aesRight
set_option maxRecDepth 20000 in
theorem ggX6_comesRight_X6_cbcRight : GoodIn wsX6_comesRight wsX6_cbcRight := goodIn_r _ [77, 78, 12, 79, 6, 80, 81, 15, 16, 17, 10, 18, 5, 14, 19, 20, 21, 22, 23, 24, 25, 26, 27, 28, 29, 30, 31, 32, 33, 34, 35, 36, 37, 38, 39, 40, 41, 42, 43, 44, 82, 83, 84, 85, 86, 87, 88, 89, 90, 46, 47, 48, 49, 50, 51, 52, 53, 54, 55, 56, 57, 58, 59, 60, 61, 282, 283, 284, 285, 286, 287, 288, 289, 290, 291, 292, 293] rfl (by decide +kernel)
set_option maxRecDepth 20000 in
theorem gX6_comesRight_X6_cbcRight : GoodIn wsX6_comesRight (wsV RX6 54 RX6 yX6_cbcRight wsX6_cbcRight) := goodIn_app (goodIn_of _ (by decide +kernel)) ggX6_comesRight_X6_cbcRight
set_option maxRecDepth 20000 in
theorem ggX6_comesRight_X6_ctrRight : GoodIn wsX6_comesRight wsX6_ctrRight := goodIn_r _ [94, 78, 95, 79, 6, 80, 96, 15, 16, 17, 10, 18, 5, 14, 19, 20, 21, 22, 23, 24, 25, 26, 27, 28, 29, 30, 31, 32, 33, 34, 35, 36, 37, 38, 39, 40, 41, 42, 43, 44, 97, 98, 99, 85, 100, 101, 102, 103, 104, 105, 106, 107, 108, 109, 110, 87, 111, 112, 113, 114, 90, 46, 47, 48, 49, 50, 51, 52, 53, 88, 89, 115, 116, 117, 118, 54, 55, 56, 57, 58, 59, 60, 61, 282, 283, 284, 285, 286, 287, 288, 289, 290, 291, 292, 293] rfl (by decide +kernel)
set_option maxRecDepth 20000 in
theorem gX6_comesRight_X6_ctrRight : GoodIn wsX6_comesRight (wsV RX6 58 RX6 yX6_ctrRight wsX6_ctrRight) := goodIn_app (goodIn_of _ (by decide +kernel)) ggX6_comesRight_X6_ctrRight
set_option maxRecDepth 20000 in
theorem ggX6_comesRight_X6_gcmRight : GoodIn wsX6_comesRight wsX6_gcmRight := goodIn_r _ [122, 123, 6, 124, 125, 15, 16, 17, 10, 18, 5, 14, 19, 20, 21, 22, 23, 24, 25, 26, 27, 28, 29, 30, 31, 32, 33, 34, 35, 36, 37, 38, 39, 40, 126, 127, 128, 129, 130, 131, 132, 133, 134, 135, 136, 137, 103, 104, 105, 138, 139, 140, 85, 141, 101, 102, 106, 107, 108, 109, 110, 87, 111, 112, 113, 114, 90, 46, 47, 48, 49, 50, 51, 52, 53, 88, 89, 115, 116, 117, 118, 142, 143, 144, 145, 146, 147, 148, 149, 150, 151, 152, 153, 58, 59, 60, 61, 154, 155, 156, 157, 158, 159, 160, 161, 162, 163, 164, 165, 54, 55, 56, 57, 282, 283, 284, 285, 286, 287, 288, 289, 290, 294, 295, 296, 297, 298, 299, 300, 291, 292, 293] rfl (by decide +kernel)
set_option maxRecDepth 20000 in
theorem gX6_comesRight_X6_gcmRight : GoodIn wsX6_comesRight (wsV RX6 61 RX6 yX6_gcmRight wsX6_gcmRight) := goodIn_app (goodIn_of _ (by decide +kernel)) ggX6_comesRight_X6_gcmRight
set_option maxRecDepth 20000 in
theorem ggX6_comesRight_X6_cmacRight : GoodIn wsX6_comesRight wsX6_cmacRight := goodIn_r _ [169, 78, 79, 6, 80, 15, 16, 17, 10, 18, 5, 14, 19, 20, 21, 22, 23, 24, 25, 26, 27, 28, 29, 30, 31, 32, 33, 34, 35, 36, 37, 38, 39, 40, 41, 42, 43, 44, 170, 171, 172, 85, 173, 110, 87, 101, 102, 103, 104, 105, 174, 127, 128, 129, 90, 46, 47, 48, 49, 50, 51, 52, 53, 175, 176, 177, 178, 58, 59, 60, 61, 88, 89, 54, 55, 56, 57, 282, 283, 284, 285, 286, 287, 288, 289, 290, 291, 292, 293] rfl (by decide +kernel)
set_option maxRecDepth 20000 in
theorem gX6_comesRight_X6_cmacRight : GoodIn wsX6_comesRight (wsV RX6 67 RX6 yX6_cmacRight wsX6_cmacRight) := goodIn_app (goodIn_of _ (by decide +kernel)) ggX6_comesRight_X6_cmacRight
set_option maxRecDepth 20000 in
theorem ggX6_comesRight_X6_shaRight : GoodIn wsX6_comesRight wsX6_shaRight := goodIn_r _ [182, 183, 6, 184, 185, 41, 42, 43, 10, 44, 19, 20, 21, 22, 23, 24, 186, 187, 188, 189, 190, 191, 192, 193, 103, 104, 105, 194, 195, 196, 197, 198, 199, 200, 201, 202, 203, 204, 205, 206, 207, 208, 209, 210, 211, 128, 212, 213, 214, 215, 216, 217, 218, 54, 55, 56, 57, 58, 59, 60, 61, 35, 36, 282, 283, 284, 285, 286, 287, 288, 301, 302, 303, 304, 305, 306, 307, 308, 309] rfl (by decide +kernel)
set_option maxRecDepth 20000 in
theorem gX6_comesRight_X6_shaRight : GoodIn wsX6_comesRight (wsV RX6 73 RX6 yX6_shaRight wsX6_shaRight) := goodIn_app (goodIn_of _ (by decide +kernel)) ggX6_comesRight_X6_shaRight
set_option maxRecDepth 20000 in
theorem ggX6_comesRight_X6_hmacRight : GoodIn wsX6_comesRight wsX6_hmacRight := goodIn_r _ [222, 5, 223, 224, 6, 184, 225, 19, 20, 21, 22, 23, 24, 41, 42, 43, 10, 44, 226, 227, 228, 189, 229, 230, 231, 187, 188, 190, 191, 192, 193, 103, 104, 105, 194, 195, 232, 233, 234, 235, 200, 201, 202, 203, 204, 205, 236, 197, 198, 199, 237, 207, 208, 209, 210, 211, 128, 212, 213, 214, 215, 216, 217, 218, 54, 55, 56, 57, 58, 59, 60, 61, 35, 36, 282, 283, 284, 285, 286, 287, 288, 301, 302, 303, 304, 305, 306, 307, 308, 309] rfl (by decide +kernel)
set_option maxRecDepth 20000 in
theorem gX6_comesRight_X6_hmacRight : GoodIn wsX6_comesRight (wsV RX6 76 RX6 yX6_hmacRight wsX6_hmacRight) := goodIn_app (goodIn_of _ (by decide +kernel)) ggX6_comesRight_X6_hmacRight
set_option maxRecDepth 20000 in
theorem ggX6_comesRight_X6_wrapRight : GoodIn wsX6_comesRight wsX6_wrapRight := goodIn_r _ [241, 12, 13, 6, 80, 242, 15, 16, 17, 10, 18, 5, 14, 19, 20, 21, 22, 23, 24, 25, 26, 27, 28, 29, 30, 31, 32, 33, 34, 35, 36, 37, 38, 39, 40, 41, 42, 43, 44, 243, 244, 245, 85, 246, 101, 247, 102, 103, 104, 105, 87, 90, 46, 47, 48, 49, 50, 51, 52, 53, 58, 59, 60, 61, 54, 55, 56, 57, 282, 283, 284, 285, 286, 287, 288, 289, 290, 291, 292, 293] rfl (by decide +kernel)
set_option maxRecDepth 20000 in
theorem gX6_comesRight_X6_wrapRight : GoodIn wsX6_comesRight (wsV RX6 79 RX6 yX6_wrapRight wsX6_wrapRight) := goodIn_app (goodIn_of _ (by decide +kernel)) ggX6_comesRight_X6_wrapRight
set_option maxRecDepth 20000 in
theorem ggX6_comesRight_X6_drawOnce : GoodIn wsX6_comesRight wsX6_drawOnce := goodIn_r _ [251, 12, 13, 6, 252, 41, 42, 43, 10, 44, 19, 20, 21, 22, 23, 24, 253, 254, 255, 256, 257, 258, 259, 260, 261, 127, 128, 129, 262, 263, 264, 265, 266, 267, 268, 269, 270, 271, 272, 103, 104, 105, 273, 274, 227, 228, 189, 229, 230, 231, 187, 188, 190, 191, 192, 193, 194, 195, 232, 233, 234, 235, 200, 201, 202, 203, 204, 205, 236, 197, 198, 199, 237, 207, 208, 209, 210, 211, 212, 213, 214, 215, 216, 217, 218, 275, 276, 277, 278, 279, 112, 113, 114, 282, 283, 284, 285, 286, 287, 288, 310, 311, 312, 313, 314, 315, 301, 302, 303, 304, 305, 306, 307, 308, 309] rfl (by decide +kernel)
set_option maxRecDepth 20000 in
theorem gX6_comesRight_X6_drawOnce : GoodIn wsX6_comesRight (wsV RX6 82 RX6 yX6_drawOnce wsX6_drawOnce) := goodIn_app (goodIn_of _ (by decide +kernel)) ggX6_comesRight_X6_drawOnce
set_option maxRecDepth 20000 in
theorem ggX6_comesRight_X9_alike : GoodIn wsX6_comesRight wsX9_alike := goodIn_r _ [281] rfl (by decide +kernel)
set_option maxRecDepth 20000 in
theorem gX6_comesRight_X9_alike_n86 : GoodIn wsX6_comesRight (wsX9_alike) := ggX6_comesRight_X9_alike
def zT_X6_comesRight_0 : List (Nat × Instr × Nat) := [(0, .iload_n 2, 1), (1, .ifCond .eq 7, 3), (4, .iconst 1, 1), (5, .goto 4, 3), (8, .iconst 0, 1), (9, .istore_n 3, 1), (10, .iload_n 1, 1), (11, .tableswitch 138 0 8 #[49, 60, 71, 77, 83, 89, 120, 126, 132], 49), (60, .aload_n 0, 1), (61, .bipush 16, 2), (63, .getstatic 43, 3), (66, .iload_n 3, 1), (67, .invokevirtual 47, 3), (70, .ireturn, 1), (71, .aload_n 0, 1), (72, .bipush 32, 2), (74, .getstatic 51, 3), (77, .iload_n 3, 1), (78, .invokevirtual 47, 3), (81, .ireturn, 1), (82, .aload_n 0, 1), (83, .iload_n 3, 1), (84, .invokevirtual 54, 3), (87, .ireturn, 1), (88, .aload_n 0, 1), (89, .iload_n 3, 1), (90, .invokevirtual 58, 3), (93, .ireturn, 1), (94, .aload_n 0, 1), (95, .iload_n 3, 1), (96, .invokevirtual 61, 3), (99, .ireturn, 1), (100, .aload_n 0, 1), (101, .iconst 0, 1), (102, .getstatic 64, 3), (105, .iconst 0, 1), (106, .invokevirtual 67, 3), (109, .ifCond .eq 20, 3), (112, .aload_n 0, 1), (113, .bipush 16, 2), (115, .getstatic 70, 3), (118, .iload_n 3, 1), (119, .invokevirtual 67, 3), (122, .ifCond .eq 7, 3), (125, .iconst 1, 1), (126, .goto 4, 3), (129, .iconst 0, 1), (130, .ireturn, 1), (131, .aload_n 0, 1), (132, .iload_n 3, 1), (133, .invokevirtual 73, 3), (136, .ireturn, 1), (137, .aload_n 0, 1), (138, .iload_n 3, 1), (139, .invokevirtual 76, 3), (142, .ireturn, 1), (143, .aload_n 0, 1), (144, .iload_n 3, 1), (145, .invokevirtual 79, 3), (148, .ireturn, 1), (149, .aload_n 0, 1), (150, .iconst 0, 1), (151, .aload_n 0, 1), (152, .getfield 9, 3)]
theorem zt_X6_comesRight_0 : zdt cX6_comesRight zT_X6_comesRight_0 = true := by decide +kernel
def zT_X6_comesRight_1 : List (Nat × Instr × Nat) := [(155, .invokevirtual 82, 3), (158, .aload_n 0, 1), (159, .iload_n 3, 1), (160, .aload_n 0, 1), (161, .getfield 15, 3), (164, .invokevirtual 82, 3), (167, .aload_n 0, 1), (168, .getfield 9, 3), (171, .iconst 0, 1), (172, .aload_n 0, 1), (173, .getfield 15, 3), (176, .iconst 0, 1), (177, .bipush 32, 2), (179, .invokestatic 86, 3), (182, .ireturn, 1)]
theorem zt_X6_comesRight_1 : zdt cX6_comesRight zT_X6_comesRight_1 = true := by decide +kernel
set_option maxRecDepth 20000 in
theorem ggX6_aesRight_X6_setKey : GoodIn wsX6_aesRight wsX6_setKey := goodIn_r _ [9, 10, 4, 11, 12, 13, 14, 15, 16, 17, 18, 19, 20, 21, 22, 23, 24, 25, 26, 27, 28, 29, 30, 31, 32, 66, 67, 68, 69, 70, 71, 72, 73, 74] rfl (by decide +kernel)
set_option maxRecDepth 20000 in
theorem gX6_aesRight_X6_setKey : GoodIn wsX6_aesRight (wsV RX6 93 RX6 yX6_setKey wsX6_setKey) := goodIn_app (goodIn_of _ (by decide +kernel)) ggX6_aesRight_X6_setKey
set_option maxRecDepth 20000 in
theorem ggX6_aesRight_X6_put : GoodIn wsX6_aesRight wsX6_put := goodIn_r _ [36, 3, 11, 12, 13, 14, 15, 16, 66, 67, 68, 69, 70, 71, 72] rfl (by decide +kernel)
set_option maxRecDepth 20000 in
theorem gX6_aesRight_X6_put : GoodIn wsX6_aesRight (wsV RX6 100 RX6 yX6_put wsX6_put) := goodIn_app (goodIn_of _ (by decide +kernel)) ggX6_aesRight_X6_put
set_option maxRecDepth 20000 in
theorem ggX6_aesRight_X0_encrypt : GoodIn wsX6_aesRight wsX0_encrypt := goodIn_r _ [40, 23, 22, 27, 12, 28, 29, 30, 20, 31, 32, 41, 42, 43, 44, 45, 15, 16, 73, 74] rfl (by decide +kernel)
set_option maxRecDepth 20000 in
theorem gX6_aesRight_X0_encrypt : GoodIn wsX6_aesRight (wsV RX6 103 RX0 yX0_encrypt wsX0_encrypt) := goodIn_app (goodIn_of _ (by decide +kernel)) ggX6_aesRight_X0_encrypt
set_option maxRecDepth 20000 in
theorem ggX6_aesRight_X6_stands : GoodIn wsX6_aesRight wsX6_stands := goodIn_r _ [49, 3, 50, 12, 51, 52, 53, 27, 28, 66, 67, 68, 69, 70, 71, 72] rfl (by decide +kernel)
set_option maxRecDepth 20000 in
theorem gX6_aesRight_X6_stands : GoodIn wsX6_aesRight (wsV RX6 109 RX6 yX6_stands wsX6_stands) := goodIn_app (goodIn_of _ (by decide +kernel)) ggX6_aesRight_X6_stands
set_option maxRecDepth 20000 in
theorem ggX6_aesRight_X0_decrypt : GoodIn wsX6_aesRight wsX0_decrypt := goodIn_r _ [57, 22, 23, 27, 12, 28, 58, 59, 20, 60, 61, 62, 63, 64, 65, 45, 41, 42, 43, 44, 15, 16, 73, 74] rfl (by decide +kernel)
set_option maxRecDepth 20000 in
theorem gX6_aesRight_X0_decrypt : GoodIn wsX6_aesRight (wsV RX6 113 RX0 yX0_decrypt wsX0_decrypt) := goodIn_app (goodIn_of _ (by decide +kernel)) ggX6_aesRight_X0_decrypt
def zT_X6_aesRight_0 : List (Nat × Instr × Nat) := [(0, .aload_n 0, 1), (1, .getstatic 90, 3), (4, .iload_n 1, 1), (5, .invokevirtual 93, 3), (8, .aload_n 0, 1), (9, .getstatic 97, 3), (12, .iconst 0, 1), (13, .invokevirtual 100, 3), (16, .aload_n 0, 1), (17, .getfield 15, 3), (20, .iconst 0, 1), (21, .dup2, 1), (22, .baload, 1), (23, .iload_n 3, 1), (24, .ixor, 1), (25, .i2b, 1), (26, .bastore, 1), (27, .aload_n 0, 1), (28, .getfield 18, 3), (31, .aload_n 0, 1), (32, .getfield 15, 3), (35, .iconst 0, 1), (36, .invokevirtual 103, 3), (39, .aload_n 0, 1), (40, .aload_n 2, 1), (41, .iconst 0, 1), (42, .invokevirtual 109, 3), (45, .istore 4, 2), (47, .aload_n 0, 1), (48, .getfield 18, 3), (51, .aload_n 0, 1), (52, .getfield 15, 3), (55, .iconst 0, 1), (56, .invokevirtual 113, 3), (59, .iload 4, 2), (61, .ifCond .eq 18, 3), (64, .aload_n 0, 1), (65, .getstatic 97, 3), (68, .iconst 0, 1), (69, .invokevirtual 109, 3), (72, .ifCond .eq 7, 3), (75, .iconst 1, 1), (76, .goto 4, 3), (79, .iconst 0, 1), (80, .ireturn, 1)]
theorem zt_X6_aesRight_0 : zdt cX6_aesRight zT_X6_aesRight_0 = true := by decide +kernel
set_option maxRecDepth 20000 in
theorem ggX6_cbcRight_X6_setKey : GoodIn wsX6_cbcRight wsX6_setKey := goodIn_r _ [11, 12, 13, 14, 15, 16, 17, 18, 19, 20, 21, 22, 23, 24, 25, 26, 27, 28, 29, 30, 31, 32, 33, 34, 35, 65, 66, 67, 68, 69, 70, 71, 72, 73] rfl (by decide +kernel)
set_option maxRecDepth 20000 in
theorem gX6_cbcRight_X6_setKey : GoodIn wsX6_cbcRight (wsV RX6 93 RX6 yX6_setKey wsX6_setKey) := goodIn_app (goodIn_of _ (by decide +kernel)) ggX6_cbcRight_X6_setKey
set_option maxRecDepth 20000 in
theorem ggX6_cbcRight_X6_put : GoodIn wsX6_cbcRight wsX6_put := goodIn_r _ [39, 4, 14, 15, 16, 17, 18, 19, 65, 66, 67, 68, 69, 70, 71] rfl (by decide +kernel)
set_option maxRecDepth 20000 in
theorem gX6_cbcRight_X6_put : GoodIn wsX6_cbcRight (wsV RX6 100 RX6 yX6_put wsX6_put) := goodIn_app (goodIn_of _ (by decide +kernel)) ggX6_cbcRight_X6_put
set_option maxRecDepth 20000 in
theorem ggX6_cbcRight_X4_cbcSeal : GoodIn wsX6_cbcRight wsX4_cbcSeal := goodIn_r _ [44, 45, 46, 15, 47, 48, 49, 50, 23, 51, 26, 25, 30, 31, 32, 33, 34, 35, 52, 53, 54, 55, 56, 18, 19, 74, 75, 76, 72, 73] rfl (by decide +kernel)
set_option maxRecDepth 20000 in
theorem gX6_cbcRight_X4_cbcSeal : GoodIn wsX6_cbcRight (wsV RX6 122 RX4 yX4_cbcSeal wsX4_cbcSeal) := goodIn_app (goodIn_of _ (by decide +kernel)) ggX6_cbcRight_X4_cbcSeal
set_option maxRecDepth 20000 in
theorem ggX6_cbcRight_X6_stands : GoodIn wsX6_cbcRight wsX6_stands := goodIn_r _ [60, 4, 61, 15, 62, 63, 64, 30, 31, 65, 66, 67, 68, 69, 70, 71] rfl (by decide +kernel)
set_option maxRecDepth 20000 in
theorem gX6_cbcRight_X6_stands : GoodIn wsX6_cbcRight (wsV RX6 109 RX6 yX6_stands wsX6_stands) := goodIn_app (goodIn_of _ (by decide +kernel)) ggX6_cbcRight_X6_stands
def zT_X6_cbcRight_0 : List (Nat × Instr × Nat) := [(0, .aload_n 0, 1), (1, .getstatic 116, 3), (4, .bipush 16, 2), (6, .invokevirtual 93, 3), (9, .aload_n 0, 1), (10, .getstatic 90, 3), (13, .iconst 0, 1), (14, .invokevirtual 100, 3), (17, .aload_n 0, 1), (18, .getstatic 119, 3), (21, .bipush 16, 2), (23, .invokevirtual 100, 3), (26, .aload_n 0, 1), (27, .getfield 15, 3), (30, .bipush 16, 2), (32, .dup2, 1), (33, .baload, 1), (34, .iload_n 1, 1), (35, .ixor, 1), (36, .i2b, 1), (37, .bastore, 1), (38, .aload_n 0, 1), (39, .getfield 22, 3), (42, .aload_n 0, 1), (43, .getfield 15, 3), (46, .iconst 0, 1), (47, .bipush 48, 2), (49, .invokevirtual 122, 3), (52, .aload_n 0, 1), (53, .getstatic 128, 3), (56, .bipush 16, 2), (58, .invokevirtual 109, 3), (61, .ireturn, 1)]
theorem zt_X6_cbcRight_0 : zdt cX6_cbcRight zT_X6_cbcRight_0 = true := by decide +kernel
set_option maxRecDepth 20000 in
theorem ggX6_ctrRight_X6_setKey : GoodIn wsX6_ctrRight wsX6_setKey := goodIn_r _ [11, 12, 13, 14, 15, 16, 17, 18, 19, 20, 21, 22, 23, 24, 25, 26, 27, 28, 29, 30, 31, 32, 33, 34, 35, 83, 84, 85, 86, 87, 88, 89, 90, 91] rfl (by decide +kernel)
set_option maxRecDepth 20000 in
theorem gX6_ctrRight_X6_setKey : GoodIn wsX6_ctrRight (wsV RX6 93 RX6 yX6_setKey wsX6_setKey) := goodIn_app (goodIn_of _ (by decide +kernel)) ggX6_ctrRight_X6_setKey
set_option maxRecDepth 20000 in
theorem ggX6_ctrRight_X6_put : GoodIn wsX6_ctrRight wsX6_put := goodIn_r _ [39, 4, 14, 15, 16, 17, 18, 19, 83, 84, 85, 86, 87, 88, 89] rfl (by decide +kernel)
set_option maxRecDepth 20000 in
theorem gX6_ctrRight_X6_put : GoodIn wsX6_ctrRight (wsV RX6 100 RX6 yX6_put wsX6_put) := goodIn_app (goodIn_of _ (by decide +kernel)) ggX6_ctrRight_X6_put
set_option maxRecDepth 20000 in
theorem ggX6_ctrRight_X4_addStream : GoodIn wsX6_ctrRight wsX4_addStream := goodIn_r _ [44, 45, 46, 47, 48, 49, 50, 51, 52, 43, 53, 54, 55, 56, 57, 58, 59, 60, 61, 62, 23, 63, 26, 25, 30, 15, 31, 32, 33, 34, 35, 64, 65, 66, 67, 68, 18, 19, 69, 70, 71, 72, 73, 74, 92, 93, 94, 90, 91] rfl (by decide +kernel)
set_option maxRecDepth 20000 in
theorem gX6_ctrRight_X4_addStream : GoodIn wsX6_ctrRight (wsV RX6 134 RX4 yX4_addStream wsX4_addStream) := goodIn_app (goodIn_of _ (by decide +kernel)) ggX6_ctrRight_X4_addStream
set_option maxRecDepth 20000 in
theorem ggX6_ctrRight_X6_stands : GoodIn wsX6_ctrRight wsX6_stands := goodIn_r _ [78, 4, 79, 15, 80, 81, 82, 30, 31, 83, 84, 85, 86, 87, 88, 89] rfl (by decide +kernel)
set_option maxRecDepth 20000 in
theorem gX6_ctrRight_X6_stands : GoodIn wsX6_ctrRight (wsV RX6 109 RX6 yX6_stands wsX6_stands) := goodIn_app (goodIn_of _ (by decide +kernel)) ggX6_ctrRight_X6_stands
def zT_X6_ctrRight_0 : List (Nat × Instr × Nat) := [(0, .aload_n 0, 1), (1, .getstatic 116, 3), (4, .bipush 16, 2), (6, .invokevirtual 93, 3), (9, .aload_n 0, 1), (10, .getstatic 131, 3), (13, .iconst 0, 1), (14, .invokevirtual 100, 3), (17, .aload_n 0, 1), (18, .getstatic 119, 3), (21, .bipush 16, 2), (23, .invokevirtual 100, 3), (26, .aload_n 0, 1), (27, .getfield 15, 3), (30, .bipush 16, 2), (32, .dup2, 1), (33, .baload, 1), (34, .iload_n 1, 1), (35, .ixor, 1), (36, .i2b, 1), (37, .bastore, 1), (38, .aload_n 0, 1), (39, .getfield 22, 3), (42, .aload_n 0, 1), (43, .getfield 15, 3), (46, .iconst 0, 1), (47, .bipush 16, 2), (49, .bipush 32, 2), (51, .invokevirtual 134, 3), (54, .aload_n 0, 1), (55, .getstatic 138, 3), (58, .bipush 16, 2), (60, .invokevirtual 109, 3), (63, .ireturn, 1)]
theorem zt_X6_ctrRight_0 : zdt cX6_ctrRight zT_X6_ctrRight_0 = true := by decide +kernel
set_option maxRecDepth 20000 in
theorem ggX6_gcmRight_X6_setKey : GoodIn wsX6_gcmRight wsX6_setKey := goodIn_r _ [9, 10, 11, 12, 13, 14, 15, 16, 17, 18, 19, 20, 21, 22, 23, 24, 25, 26, 27, 28, 29, 30, 31, 32, 33, 113, 114, 115, 116, 117, 118, 119, 120, 121] rfl (by decide +kernel)
set_option maxRecDepth 20000 in
theorem gX6_gcmRight_X6_setKey : GoodIn wsX6_gcmRight (wsV RX6 93 RX6 yX6_setKey wsX6_setKey) := goodIn_app (goodIn_of _ (by decide +kernel)) ggX6_gcmRight_X6_setKey
set_option maxRecDepth 20000 in
theorem ggX6_gcmRight_J7_fill_031fb : GoodIn wsX6_gcmRight wsJ7_fill_031fb := goodIn_r _ [37] rfl (by decide +kernel)
set_option maxRecDepth 20000 in
theorem gX6_gcmRight_J7_fill_031fb : GoodIn wsX6_gcmRight (va_wsS RX6 144 yJ7_fill_031fb wsJ7_fill_031fb) := goodIn_app (goodIn_of _ (by decide +kernel)) ggX6_gcmRight_J7_fill_031fb
set_option maxRecDepth 20000 in
theorem ggX6_gcmRight_X2_sealText : GoodIn wsX6_gcmRight wsX2_sealText := goodIn_r _ [42, 43, 44, 45, 46, 47, 48, 49, 50, 51, 52, 53, 54, 55, 16, 13, 17, 56, 57, 58, 59, 60, 61, 62, 63, 64, 65, 66, 67, 68, 21, 69, 24, 23, 28, 29, 30, 31, 32, 33, 70, 71, 72, 73, 74, 75, 76, 77, 78, 79, 80, 81, 82, 83, 41, 84, 85, 86, 87, 88, 89, 90, 91, 35, 36, 37, 92, 93, 94, 95, 96, 97, 98, 99, 100, 101, 102, 103, 104, 105, 106, 107, 108, 12, 14, 15, 122, 123, 124, 125, 126, 127, 128, 129, 130, 131, 120, 121] rfl (by decide +kernel)
set_option maxRecDepth 20000 in
theorem gX6_gcmRight_X2_sealText : GoodIn wsX6_gcmRight (wsV RX6 150 RX2 yX2_sealText wsX2_sealText) := goodIn_app (goodIn_of _ (by decide +kernel)) ggX6_gcmRight_X2_sealText
set_option maxRecDepth 20000 in
theorem ggX6_gcmRight_X6_stands : GoodIn wsX6_gcmRight wsX6_stands := goodIn_r _ [112, 2, 93, 13, 94, 95, 96, 28, 29, 113, 114, 115, 116, 117, 118, 119] rfl (by decide +kernel)
set_option maxRecDepth 20000 in
theorem gX6_gcmRight_X6_stands : GoodIn wsX6_gcmRight (wsV RX6 109 RX6 yX6_stands wsX6_stands) := goodIn_app (goodIn_of _ (by decide +kernel)) ggX6_gcmRight_X6_stands
def zT_X6_gcmRight_0 : List (Nat × Instr × Nat) := [(0, .aload_n 0, 1), (1, .getstatic 141, 3), (4, .bipush 16, 2), (6, .invokevirtual 93, 3), (9, .aload_n 0, 1), (10, .getfield 15, 3), (13, .iconst 0, 1), (14, .invokestatic 144, 3), (17, .aload_n 0, 1), (18, .getfield 15, 3), (21, .bipush 12, 2), (23, .dup2, 1), (24, .baload, 1), (25, .iload_n 1, 1), (26, .ixor, 1), (27, .i2b, 1), (28, .bastore, 1), (29, .aload_n 0, 1), (30, .getfield 26, 3), (33, .aload_n 0, 1), (34, .getfield 15, 3), (37, .iconst 0, 1), (38, .iconst 0, 1), (39, .bipush 16, 2), (41, .invokevirtual 150, 3), (44, .aload_n 0, 1), (45, .getstatic 155, 3), (48, .bipush 12, 2), (50, .invokevirtual 109, 3), (53, .ireturn, 1)]
theorem zt_X6_gcmRight_0 : zdt cX6_gcmRight zT_X6_gcmRight_0 = true := by decide +kernel
set_option maxRecDepth 20000 in
theorem ggX6_cmacRight_X6_setKey : GoodIn wsX6_cmacRight wsX6_setKey := goodIn_r _ [9, 10, 11, 12, 13, 14, 15, 16, 17, 18, 19, 20, 21, 22, 23, 24, 25, 26, 27, 28, 29, 30, 31, 32, 33, 77, 78, 79, 80, 81, 82, 83, 84, 85] rfl (by decide +kernel)
set_option maxRecDepth 20000 in
theorem gX6_cmacRight_X6_setKey : GoodIn wsX6_cmacRight (wsV RX6 93 RX6 yX6_setKey wsX6_setKey) := goodIn_app (goodIn_of _ (by decide +kernel)) ggX6_cmacRight_X6_setKey
set_option maxRecDepth 20000 in
theorem ggX6_cmacRight_X6_put : GoodIn wsX6_cmacRight wsX6_put := goodIn_r _ [37, 3, 12, 13, 14, 15, 16, 17, 77, 78, 79, 80, 81, 82, 83] rfl (by decide +kernel)
set_option maxRecDepth 20000 in
theorem gX6_cmacRight_X6_put : GoodIn wsX6_cmacRight (wsV RX6 100 RX6 yX6_put wsX6_put) := goodIn_app (goodIn_of _ (by decide +kernel)) ggX6_cmacRight_X6_put
set_option maxRecDepth 20000 in
theorem ggX6_cmacRight_X4_cmac : GoodIn wsX6_cmacRight wsX4_cmac := goodIn_r _ [42, 43, 44, 45, 46, 47, 48, 49, 50, 51, 52, 53, 54, 55, 56, 21, 57, 24, 23, 28, 13, 29, 30, 31, 32, 33, 58, 59, 60, 61, 62, 16, 17, 63, 64, 65, 41, 66, 67, 68, 69, 70, 12, 14, 15, 71, 72, 86, 87, 88, 84, 85] rfl (by decide +kernel)
set_option maxRecDepth 20000 in
theorem gX6_cmacRight_X4_cmac : GoodIn wsX6_cmacRight (wsV RX6 158 RX4 yX4_cmac wsX4_cmac) := goodIn_app (goodIn_of _ (by decide +kernel)) ggX6_cmacRight_X4_cmac
set_option maxRecDepth 20000 in
theorem ggX6_cmacRight_X6_stands : GoodIn wsX6_cmacRight wsX6_stands := goodIn_r _ [76, 3, 67, 13, 68, 69, 70, 28, 29, 77, 78, 79, 80, 81, 82, 83] rfl (by decide +kernel)
set_option maxRecDepth 20000 in
theorem gX6_cmacRight_X6_stands : GoodIn wsX6_cmacRight (wsV RX6 109 RX6 yX6_stands wsX6_stands) := goodIn_app (goodIn_of _ (by decide +kernel)) ggX6_cmacRight_X6_stands
def zT_X6_cmacRight_0 : List (Nat × Instr × Nat) := [(0, .aload_n 0, 1), (1, .getstatic 116, 3), (4, .bipush 16, 2), (6, .invokevirtual 93, 3), (9, .aload_n 0, 1), (10, .getstatic 119, 3), (13, .iconst 0, 1), (14, .invokevirtual 100, 3), (17, .aload_n 0, 1), (18, .getfield 15, 3), (21, .iconst 0, 1), (22, .dup2, 1), (23, .baload, 1), (24, .iload_n 3, 1), (25, .ixor, 1), (26, .i2b, 1), (27, .bastore, 1), (28, .aload_n 0, 1), (29, .getfield 22, 3), (32, .aload_n 0, 1), (33, .getfield 15, 3), (36, .iconst 0, 1), (37, .iload_n 1, 1), (38, .aload_n 0, 1), (39, .getfield 15, 3), (42, .iconst 0, 1), (43, .invokevirtual 158, 3), (46, .aload_n 0, 1), (47, .aload_n 2, 1), (48, .iconst 0, 1), (49, .invokevirtual 109, 3), (52, .ireturn, 1)]
theorem zt_X6_cmacRight_0 : zdt cX6_cmacRight zT_X6_cmacRight_0 = true := by decide +kernel
set_option maxRecDepth 20000 in
theorem ggX6_shaRight_X6_put : GoodIn wsX6_shaRight wsX6_put := goodIn_r _ [9, 2, 10, 11, 12, 13, 14, 15, 63, 64, 65, 66, 67, 68, 69] rfl (by decide +kernel)
set_option maxRecDepth 20000 in
theorem gX6_shaRight_X6_put : GoodIn wsX6_shaRight (wsV RX6 100 RX6 yX6_put wsX6_put) := goodIn_app (goodIn_of _ (by decide +kernel)) ggX6_shaRight_X6_put
set_option maxRecDepth 20000 in
theorem ggX6_shaRight_X7_begin : GoodIn wsX6_shaRight wsX7_begin := goodIn_r _ [20, 21, 22, 23, 24, 25, 26, 27, 28, 70, 71, 72, 73, 74] rfl (by decide +kernel)
set_option maxRecDepth 20000 in
theorem gX6_shaRight_X7_begin : GoodIn wsX6_shaRight (wsV RX6 165 RX7 yX7_begin wsX7_begin) := goodIn_app (goodIn_of _ (by decide +kernel)) ggX6_shaRight_X7_begin
set_option maxRecDepth 20000 in
theorem ggX6_shaRight_X7_take : GoodIn wsX6_shaRight wsX7_take := goodIn_r _ [32, 27, 33, 28, 34, 35, 36, 19, 37, 22, 38, 70, 71, 72, 73, 74] rfl (by decide +kernel)
set_option maxRecDepth 20000 in
theorem gX6_shaRight_X7_take : GoodIn wsX6_shaRight (wsV RX6 170 RX7 yX7_take wsX7_take) := goodIn_app (goodIn_of _ (by decide +kernel)) ggX6_shaRight_X7_take
set_option maxRecDepth 20000 in
theorem ggX6_shaRight_X7_end : GoodIn wsX6_shaRight wsX7_end := goodIn_r _ [42, 27, 33, 28, 22, 43, 44, 45, 46, 47, 48, 49, 50, 51, 52, 34, 35, 36, 19, 37, 38, 14, 11, 15, 70, 71, 72, 73, 74, 75, 76, 77, 78] rfl (by decide +kernel)
set_option maxRecDepth 20000 in
theorem gX6_shaRight_X7_end : GoodIn wsX6_shaRight (wsV RX6 173 RX7 yX7_end wsX7_end) := goodIn_app (goodIn_of _ (by decide +kernel)) ggX6_shaRight_X7_end
set_option maxRecDepth 20000 in
theorem ggX6_shaRight_X6_stands : GoodIn wsX6_shaRight wsX6_stands := goodIn_r _ [56, 2, 57, 11, 58, 59, 60, 61, 62, 63, 64, 65, 66, 67, 68, 69] rfl (by decide +kernel)
set_option maxRecDepth 20000 in
theorem gX6_shaRight_X6_stands : GoodIn wsX6_shaRight (wsV RX6 109 RX6 yX6_stands wsX6_stands) := goodIn_app (goodIn_of _ (by decide +kernel)) ggX6_shaRight_X6_stands
def zT_X6_shaRight_0 : List (Nat × Instr × Nat) := [(0, .aload_n 0, 1), (1, .getstatic 162, 3), (4, .iconst 0, 1), (5, .invokevirtual 100, 3), (8, .aload_n 0, 1), (9, .getfield 15, 3), (12, .iconst 0, 1), (13, .dup2, 1), (14, .baload, 1), (15, .iload_n 1, 1), (16, .ixor, 1), (17, .i2b, 1), (18, .bastore, 1), (19, .aload_n 0, 1), (20, .getfield 30, 3), (23, .invokevirtual 165, 3), (26, .aload_n 0, 1), (27, .getfield 30, 3), (30, .aload_n 0, 1), (31, .getfield 15, 3), (34, .iconst 0, 1), (35, .iconst 3, 1), (36, .invokevirtual 170, 3), (39, .aload_n 0, 1), (40, .getfield 30, 3), (43, .aload_n 0, 1), (44, .getfield 15, 3), (47, .iconst 0, 1), (48, .invokevirtual 173, 3), (51, .aload_n 0, 1), (52, .getstatic 176, 3), (55, .iconst 0, 1), (56, .invokevirtual 109, 3), (59, .ireturn, 1)]
theorem zt_X6_shaRight_0 : zdt cX6_shaRight zT_X6_shaRight_0 = true := by decide +kernel
set_option maxRecDepth 20000 in
theorem ggX6_hmacRight_X9_putLong : GoodIn wsX6_hmacRight wsX9_putLong := goodIn_r _ [9, 10, 11, 8, 12] rfl (by decide +kernel)
set_option maxRecDepth 20000 in
theorem gX6_hmacRight_X9_putLong_n182 : GoodIn wsX6_hmacRight (wsX9_putLong) := ggX6_hmacRight_X9_putLong
set_option maxRecDepth 20000 in
theorem ggX6_hmacRight_X6_put : GoodIn wsX6_hmacRight wsX6_put := goodIn_r _ [17, 4, 7, 8, 9, 10, 11, 12, 74, 75, 76, 77, 78, 79, 80] rfl (by decide +kernel)
set_option maxRecDepth 20000 in
theorem gX6_hmacRight_X6_put : GoodIn wsX6_hmacRight (wsV RX6 100 RX6 yX6_put wsX6_put) := goodIn_app (goodIn_of _ (by decide +kernel)) ggX6_hmacRight_X6_put
set_option maxRecDepth 20000 in
theorem ggX6_hmacRight_X7_mac : GoodIn wsX6_hmacRight wsX7_mac := goodIn_r _ [22, 23, 24, 25, 26, 21, 27, 28, 29, 30, 31, 32, 33, 34, 35, 36, 37, 38, 39, 40, 41, 42, 43, 44, 45, 46, 47, 48, 49, 50, 51, 52, 53, 54, 55, 56, 57, 58, 59, 60, 61, 62, 63, 11, 8, 12, 81, 82, 83, 84, 85, 86, 87, 88, 89] rfl (by decide +kernel)
set_option maxRecDepth 20000 in
theorem gX6_hmacRight_X7_mac : GoodIn wsX6_hmacRight (wsV RX6 189 RX7 yX7_mac wsX7_mac) := goodIn_app (goodIn_of _ (by decide +kernel)) ggX6_hmacRight_X7_mac
set_option maxRecDepth 20000 in
theorem ggX6_hmacRight_X6_stands : GoodIn wsX6_hmacRight wsX6_stands := goodIn_r _ [67, 4, 68, 8, 69, 70, 71, 72, 73, 74, 75, 76, 77, 78, 79, 80] rfl (by decide +kernel)
set_option maxRecDepth 20000 in
theorem gX6_hmacRight_X6_stands : GoodIn wsX6_hmacRight (wsV RX6 109 RX6 yX6_stands wsX6_stands) := goodIn_app (goodIn_of _ (by decide +kernel)) ggX6_hmacRight_X6_stands
def zT_X6_hmacRight_0 : List (Nat × Instr × Nat) := [(0, .aload_n 0, 1), (1, .getfield 9, 3), (4, .iconst 0, 1), (5, .getstatic 179, 3), (8, .iconst 0, 1), (9, .laload, 1), (10, .invokestatic 182, 3), (13, .aload_n 0, 1), (14, .getstatic 186, 3), (17, .iconst 0, 1), (18, .invokevirtual 100, 3), (21, .aload_n 0, 1), (22, .getfield 15, 3), (25, .iconst 0, 1), (26, .dup2, 1), (27, .baload, 1), (28, .iload_n 1, 1), (29, .ixor, 1), (30, .i2b, 1), (31, .bastore, 1), (32, .aload_n 0, 1), (33, .getfield 30, 3), (36, .aload_n 0, 1), (37, .getfield 9, 3), (40, .iconst 4, 1), (41, .aload_n 0, 1), (42, .getfield 15, 3), (45, .iconst 0, 1), (46, .bipush 28, 2), (48, .aload_n 0, 1), (49, .getfield 15, 3), (52, .iconst 0, 1), (53, .invokevirtual 189, 3), (56, .aload_n 0, 1), (57, .getstatic 193, 3), (60, .iconst 0, 1), (61, .invokevirtual 109, 3), (64, .ireturn, 1)]
theorem zt_X6_hmacRight_0 : zdt cX6_hmacRight zT_X6_hmacRight_0 = true := by decide +kernel
set_option maxRecDepth 20000 in
theorem ggX6_wrapRight_X6_setKey : GoodIn wsX6_wrapRight wsX6_setKey := goodIn_r _ [10, 11, 12, 13, 14, 15, 16, 17, 18, 19, 20, 21, 22, 23, 24, 25, 26, 27, 28, 29, 30, 31, 32, 33, 34, 68, 69, 70, 71, 72, 73, 74, 75, 76] rfl (by decide +kernel)
set_option maxRecDepth 20000 in
theorem gX6_wrapRight_X6_setKey : GoodIn wsX6_wrapRight (wsV RX6 93 RX6 yX6_setKey wsX6_setKey) := goodIn_app (goodIn_of _ (by decide +kernel)) ggX6_wrapRight_X6_setKey
set_option maxRecDepth 20000 in
theorem ggX6_wrapRight_X6_put : GoodIn wsX6_wrapRight wsX6_put := goodIn_r _ [38, 3, 13, 14, 15, 16, 17, 18, 68, 69, 70, 71, 72, 73, 74] rfl (by decide +kernel)
set_option maxRecDepth 20000 in
theorem gX6_wrapRight_X6_put : GoodIn wsX6_wrapRight (wsV RX6 100 RX6 yX6_put wsX6_put) := goodIn_app (goodIn_of _ (by decide +kernel)) ggX6_wrapRight_X6_put
set_option maxRecDepth 20000 in
theorem ggX6_wrapRight_X4_wrapIn : GoodIn wsX6_wrapRight wsX4_wrapIn := goodIn_r _ [43, 44, 45, 46, 47, 48, 49, 50, 13, 14, 15, 16, 17, 18, 51, 52, 53, 22, 54, 25, 24, 29, 30, 31, 32, 33, 34, 55, 56, 57, 58, 59, 60, 61, 62, 63, 77, 78, 79, 75, 76] rfl (by decide +kernel)
set_option maxRecDepth 20000 in
theorem gX6_wrapRight_X4_wrapIn : GoodIn wsX6_wrapRight (wsV RX6 196 RX4 yX4_wrapIn wsX4_wrapIn) := goodIn_app (goodIn_of _ (by decide +kernel)) ggX6_wrapRight_X4_wrapIn
set_option maxRecDepth 20000 in
theorem ggX6_wrapRight_X6_stands : GoodIn wsX6_wrapRight wsX6_stands := goodIn_r _ [67, 3, 60, 14, 61, 62, 63, 29, 30, 68, 69, 70, 71, 72, 73, 74] rfl (by decide +kernel)
set_option maxRecDepth 20000 in
theorem gX6_wrapRight_X6_stands : GoodIn wsX6_wrapRight (wsV RX6 109 RX6 yX6_stands wsX6_stands) := goodIn_app (goodIn_of _ (by decide +kernel)) ggX6_wrapRight_X6_stands
def zT_X6_wrapRight_0 : List (Nat × Instr × Nat) := [(0, .aload_n 0, 1), (1, .getstatic 90, 3), (4, .bipush 16, 2), (6, .invokevirtual 93, 3), (9, .aload_n 0, 1), (10, .getstatic 97, 3), (13, .bipush 8, 2), (15, .invokevirtual 100, 3), (18, .aload_n 0, 1), (19, .getfield 15, 3), (22, .bipush 8, 2), (24, .dup2, 1), (25, .baload, 1), (26, .iload_n 1, 1), (27, .ixor, 1), (28, .i2b, 1), (29, .bastore, 1), (30, .aload_n 0, 1), (31, .getfield 22, 3), (34, .aload_n 0, 1), (35, .getfield 15, 3), (38, .bipush 24, 2), (40, .invokevirtual 196, 3), (43, .aload_n 0, 1), (44, .getstatic 199, 3), (47, .iconst 0, 1), (48, .invokevirtual 109, 3), (51, .ireturn, 1)]
theorem zt_X6_wrapRight_0 : zdt cX6_wrapRight zT_X6_wrapRight_0 = true := by decide +kernel
set_option maxRecDepth 20000 in
theorem ggX6_drawOnce_X6_put : GoodIn wsX6_drawOnce wsX6_put := goodIn_r _ [9, 3, 10, 11, 12, 13, 14, 15, 93, 94, 95, 96, 97, 98, 99] rfl (by decide +kernel)
set_option maxRecDepth 20000 in
theorem gX6_drawOnce_X6_put : GoodIn wsX6_drawOnce (wsV RX6 100 RX6 yX6_put wsX6_put) := goodIn_app (goodIn_of _ (by decide +kernel)) ggX6_drawOnce_X6_put
set_option maxRecDepth 20000 in
theorem ggX6_drawOnce_X3_forget : GoodIn wsX6_drawOnce wsX3_forget := goodIn_r _ [20, 21, 22, 23, 24, 25, 26, 27, 100, 101, 102, 103, 104, 105] rfl (by decide +kernel)
set_option maxRecDepth 20000 in
theorem gX6_drawOnce_X3_forget : GoodIn wsX6_drawOnce (wsV RX6 202 RX3 yX3_forget wsX3_forget) := goodIn_app (goodIn_of _ (by decide +kernel)) ggX6_drawOnce_X3_forget
set_option maxRecDepth 20000 in
theorem ggX6_drawOnce_X3_feed : GoodIn wsX6_drawOnce wsX3_feed := goodIn_r _ [31, 23, 21, 22, 32, 24, 25, 26, 27, 33, 34, 35, 19, 36, 37, 38, 39, 40, 41, 42, 43, 44, 45, 46, 47, 48, 49, 50, 51, 52, 53, 54, 55, 56, 57, 58, 59, 60, 61, 62, 63, 64, 65, 66, 67, 68, 69, 70, 71, 72, 73, 74, 75, 76, 77, 78, 79, 80, 81, 82, 83, 84, 14, 11, 15, 100, 101, 102, 103, 104, 105, 106, 107, 108, 109, 110, 111, 112, 113, 114] rfl (by decide +kernel)
set_option maxRecDepth 20000 in
theorem gX6_drawOnce_X3_feed : GoodIn wsX6_drawOnce (wsV RX6 205 RX3 yX3_feed wsX3_feed) := goodIn_app (goodIn_of _ (by decide +kernel)) ggX6_drawOnce_X3_feed
set_option maxRecDepth 20000 in
theorem ggX6_drawOnce_X3_answer : GoodIn wsX6_drawOnce wsX3_answer := goodIn_r _ [88, 42, 21, 22, 89, 90, 91, 92, 38, 39, 40, 41, 32, 33, 34, 35, 19, 36, 37, 43, 44, 45, 46, 47, 48, 49, 50, 51, 52, 53, 54, 55, 56, 57, 58, 59, 60, 61, 62, 63, 64, 65, 66, 67, 68, 69, 70, 71, 72, 73, 74, 75, 76, 77, 26, 78, 79, 80, 81, 82, 83, 84, 14, 11, 15, 100, 101, 102, 103, 104, 105, 106, 107, 108, 109, 110, 111, 112, 113, 114] rfl (by decide +kernel)
set_option maxRecDepth 20000 in
theorem gX6_drawOnce_X3_answer : GoodIn wsX6_drawOnce (wsV RX6 208 RX3 yX3_answer wsX3_answer) := goodIn_app (goodIn_of _ (by decide +kernel)) ggX6_drawOnce_X3_answer
def zT_X6_drawOnce_0 : List (Nat × Instr × Nat) := [(0, .aload_n 0, 1), (1, .getstatic 90, 3), (4, .iconst 0, 1), (5, .invokevirtual 100, 3), (8, .aload_n 0, 1), (9, .getstatic 97, 3), (12, .bipush 32, 2), (14, .invokevirtual 100, 3), (17, .aload_n 0, 1), (18, .getfield 15, 3), (21, .iconst 0, 1), (22, .dup2, 1), (23, .baload, 1), (24, .iload_n 1, 1), (25, .ixor, 1), (26, .i2b, 1), (27, .bastore, 1), (28, .aload_n 0, 1), (29, .getfield 39, 3), (32, .invokevirtual 202, 3), (35, .aload_n 0, 1), (36, .getfield 39, 3), (39, .aload_n 0, 1), (40, .getfield 15, 3), (43, .bipush 48, 2), (45, .invokevirtual 205, 3), (48, .aload_n 0, 1), (49, .getfield 39, 3), (52, .aload_n 0, 1), (53, .getfield 15, 3), (56, .iconst 0, 1), (57, .aload_n 2, 1), (58, .iconst 0, 1), (59, .bipush 32, 2), (61, .invokevirtual 208, 3), (64, .return_, 1)]
theorem zt_X6_drawOnce_0 : zdt cX6_drawOnce zT_X6_drawOnce_0 = true := by decide +kernel
set_option maxRecDepth 20000 in
theorem ggX6_setKey_X9_putLong : GoodIn wsX6_setKey wsX9_putLong := goodIn_r _ [5, 6, 7, 4, 8] rfl (by decide +kernel)
set_option maxRecDepth 20000 in
theorem gX6_setKey_X9_putLong_n182 : GoodIn wsX6_setKey (wsX9_putLong) := ggX6_setKey_X9_putLong
set_option maxRecDepth 20000 in
theorem ggX6_setKey_X0_setKey : GoodIn wsX6_setKey wsX0_setKey := goodIn_r _ [13, 14, 15, 16, 17, 18, 19, 4, 20, 21, 22, 12, 23, 24, 32, 33] rfl (by decide +kernel)
set_option maxRecDepth 20000 in
theorem gX6_setKey_X0_setKey : GoodIn wsX6_setKey (wsV RX6 212 RX0 yX0_setKey wsX0_setKey) := goodIn_app (goodIn_of _ (by decide +kernel)) ggX6_setKey_X0_setKey
def zT_X6_setKey_0 : List (Nat × Instr × Nat) := [(0, .iconst 0, 1), (1, .istore_n 3, 1), (2, .bipush 8, 2), (4, .iload_n 3, 1), (5, .imul, 1), (6, .iload_n 2, 1), (7, .if_icmp .ge 23, 3), (10, .aload_n 0, 1), (11, .getfield 9, 3), (14, .bipush 8, 2), (16, .iload_n 3, 1), (17, .imul, 1), (18, .aload_n 1, 1), (19, .iload_n 3, 1), (20, .laload, 1), (21, .invokestatic 182, 3), (24, .iinc 3 1, 3), (27, .goto (-25), 3), (30, .aload_n 0, 1), (31, .getfield 18, 3), (34, .aload_n 0, 1), (35, .getfield 9, 3), (38, .iload_n 2, 1), (39, .invokevirtual 212, 3), (42, .return_, 1)]
theorem zt_X6_setKey_0 : zdt cX6_setKey zT_X6_setKey_0 = true := by decide +kernel
set_option maxRecDepth 20000 in
theorem ggX6_put_X9_putLong : GoodIn wsX6_put wsX9_putLong := goodIn_r _ [4, 5, 6, 3, 7] rfl (by decide +kernel)
set_option maxRecDepth 20000 in
theorem gX6_put_X9_putLong_n182 : GoodIn wsX6_put (wsX9_putLong) := ggX6_put_X9_putLong
def zT_X6_put_0 : List (Nat × Instr × Nat) := [(0, .iconst 0, 1), (1, .istore_n 3, 1), (2, .iload_n 3, 1), (3, .aload_n 1, 1), (4, .arraylength, 1), (5, .if_icmp .ge 25, 3), (8, .aload_n 0, 1), (9, .getfield 15, 3), (12, .iload_n 2, 1), (13, .bipush 8, 2), (15, .iload_n 3, 1), (16, .imul, 1), (17, .iadd, 1), (18, .aload_n 1, 1), (19, .iload_n 3, 1), (20, .laload, 1), (21, .invokestatic 182, 3), (24, .iinc 3 1, 3), (27, .goto (-25), 3), (30, .return_, 1)]
theorem zt_X6_put_0 : zdt cX6_put zT_X6_put_0 = true := by decide +kernel
set_option maxRecDepth 20000 in
theorem ggX6_stands_X9_longAt : GoodIn wsX6_stands wsX9_longAt := goodIn_r _ [4, 5, 6, 7, 3, 8] rfl (by decide +kernel)
set_option maxRecDepth 20000 in
theorem gX6_stands_X9_longAt_n214 : GoodIn wsX6_stands (wsX9_longAt) := ggX6_stands_X9_longAt
def zT_X6_stands_0 : List (Nat × Instr × Nat) := [(0, .iconst 1, 1), (1, .istore_n 3, 1), (2, .iconst 0, 1), (3, .istore 4, 2), (5, .iload 4, 2), (7, .aload_n 1, 1), (8, .arraylength, 1), (9, .if_icmp .ge 41, 3), (12, .iload_n 3, 1), (13, .ifCond .eq 29, 3), (16, .aload_n 0, 1), (17, .getfield 15, 3), (20, .iload_n 2, 1), (21, .bipush 8, 2), (23, .iload 4, 2), (25, .imul, 1), (26, .iadd, 1), (27, .invokestatic 214, 3), (30, .aload_n 1, 1), (31, .iload 4, 2), (33, .laload, 1), (34, .lcmp, 1), (35, .ifCond .ne 7, 3), (38, .iconst 1, 1), (39, .goto 4, 3), (42, .iconst 0, 1), (43, .istore_n 3, 1), (44, .iinc 4 1, 3), (47, .goto (-42), 3), (50, .iload_n 3, 1), (51, .ireturn, 1)]
theorem zt_X6_stands_0 : zdt cX6_stands zT_X6_stands_0 = true := by decide +kernel
