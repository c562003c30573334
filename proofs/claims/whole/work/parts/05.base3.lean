theorem gNs_0 {U : State} (h : gNs U) : va_Nw (.methodLinkNest RX0 17 yX9_intAt "SealedModule") U := h 0 _ rfl
theorem gNs_1 {U : State} (h : gNs U) : va_Nw (.methodLinkNest RX0 34 yX9_putInt "SealedModule") U := h 1 _ rfl
theorem gNs_2 {U : State} (h : gNs U) : va_Nw (.methodLinkNest RX1 52 yX9_putInt "SealedModule") U := h 2 _ rfl
theorem gNs_3 {U : State} (h : gNs U) : va_Nw (.methodLinkNest RX2 51 yX9_alike "SealedModule") U := h 3 _ rfl
theorem gNs_4 {U : State} (h : gNs U) : va_Nw (.methodLinkNest RX2 67 yX9_longAt "SealedModule") U := h 4 _ rfl
theorem gNs_5 {U : State} (h : gNs U) : va_Nw (.methodLinkNest RX2 80 yX9_putInt "SealedModule") U := h 5 _ rfl
theorem gNs_6 {U : State} (h : gNs U) : va_Nw (.methodLinkNest RX2 83 yX9_putLong "SealedModule") U := h 6 _ rfl
theorem gNs_7 {U : State} (h : gNs U) : va_Nw (.methodLinkNest RX4 31 yX9_xorBytes "SealedModule") U := h 7 _ rfl
theorem gNs_8 {U : State} (h : gNs U) : va_Nw (.methodLinkNest RX4 45 yX9_putInt "SealedModule") U := h 8 _ rfl
theorem gNs_9 {U : State} (h : gNs U) : va_Nw (.methodLinkNest RX4 66 yX9_longAt "SealedModule") U := h 9 _ rfl
theorem gNs_10 {U : State} (h : gNs U) : va_Nw (.methodLinkNest RX4 70 yX9_putLong "SealedModule") U := h 10 _ rfl
theorem gNs_11 {U : State} (h : gNs U) : va_Nw (.methodLinkNest RX6 86 yX9_alike "SealedModule") U := h 11 _ rfl
theorem gNs_12 {U : State} (h : gNs U) : va_Nw (.methodLinkNest RX6 182 yX9_putLong "SealedModule") U := h 12 _ rfl
theorem gNs_13 {U : State} (h : gNs U) : va_Nw (.methodLinkNest RX6 214 yX9_longAt "SealedModule") U := h 13 _ rfl
theorem gNs_14 {U : State} (h : gNs U) : va_Nw (.methodLinkNest RX7 47 yX9_putInt "SealedModule") U := h 14 _ rfl
theorem gNs_15 {U : State} (h : gNs U) : va_Nw (.methodLinkNest RX9 37 yX1_init "SealedModule") U := h 15 _ rfl
theorem gNs_16 {U : State} (h : gNs U) : va_Nw (.methodLinkNest RX9 44 yX7_init "SealedModule") U := h 16 _ rfl
theorem gNs_17 {U : State} (h : gNs U) : va_Nw (.methodLinkNest RX9 54 yX0_init "SealedModule") U := h 17 _ rfl
theorem gNs_18 {U : State} (h : gNs U) : va_Nw (.methodLinkNest RX9 115 yX8_init "SealedModule") U := h 18 _ rfl
theorem gT_0 {tt : Nat → Nat} {A : Nat → Prop} {U : State} {H : Heap} (h : gT tt A U H) : va_Z RX0 "BOX" "[I" (.ref (tt 0)) A U H ∧ va_T .int (tt 0) 256 (fun j => .int (tb_BOX.getD j 0)) A U H := h 0 _ rfl
theorem gT_1 {tt : Nat → Nat} {A : Nat → Prop} {U : State} {H : Heap} (h : gT tt A U H) : va_Z RX0 "BOX_BACK" "[I" (.ref (tt 1)) A U H ∧ va_T .int (tt 1) 256 (fun j => .int (tb_BOX_BACK.getD j 0)) A U H := h 1 _ rfl
theorem gT_2 {tt : Nat → Nat} {A : Nat → Prop} {U : State} {H : Heap} (h : gT tt A U H) : va_Z RX7 "BEGINNING" "[I" (.ref (tt 2)) A U H ∧ va_T .int (tt 2) 8 (fun j => .int (tb_BEGINNING.getD j 0)) A U H := h 2 _ rfl
theorem gT_3 {tt : Nat → Nat} {A : Nat → Prop} {U : State} {H : Heap} (h : gT tt A U H) : va_Z RX7 "CONSTANTS" "[I" (.ref (tt 3)) A U H ∧ va_T .int (tt 3) 64 (fun j => .int (tb_CONSTANTS.getD j 0)) A U H := h 3 _ rfl
theorem gT_4 {tt : Nat → Nat} {A : Nat → Prop} {U : State} {H : Heap} (h : gT tt A U H) : va_Z RX6 "COUNTING_KEY" "[J" (.ref (tt 4)) A U H ∧ va_T .long (tt 4) 4 (fun j => .long (tb_COUNTING_KEY.getD j 0)) A U H := h 4 _ rfl
theorem gT_5 {tt : Nat → Nat} {A : Nat → Prop} {U : State} {H : Heap} (h : gT tt A U H) : va_Z RX6 "DOUBLED_DIGITS" "[J" (.ref (tt 5)) A U H ∧ va_T .long (tt 5) 2 (fun j => .long (tb_DOUBLED_DIGITS.getD j 0)) A U H := h 5 _ rfl
theorem gT_6 {tt : Nat → Nat} {A : Nat → Prop} {U : State} {H : Heap} (h : gT tt A U H) : va_Z RX6 "AES_128_ANSWER" "[J" (.ref (tt 6)) A U H ∧ va_T .long (tt 6) 2 (fun j => .long (tb_AES_128_ANSWER.getD j 0)) A U H := h 6 _ rfl
theorem gT_7 {tt : Nat → Nat} {A : Nat → Prop} {U : State} {H : Heap} (h : gT tt A U H) : va_Z RX6 "AES_256_ANSWER" "[J" (.ref (tt 7)) A U H ∧ va_T .long (tt 7) 2 (fun j => .long (tb_AES_256_ANSWER.getD j 0)) A U H := h 7 _ rfl
theorem gT_8 {tt : Nat → Nat} {A : Nat → Prop} {U : State} {H : Heap} (h : gT tt A U H) : va_Z RX6 "MODES_KEY" "[J" (.ref (tt 8)) A U H ∧ va_T .long (tt 8) 2 (fun j => .long (tb_MODES_KEY.getD j 0)) A U H := h 8 _ rfl
theorem gT_9 {tt : Nat → Nat} {A : Nat → Prop} {U : State} {H : Heap} (h : gT tt A U H) : va_Z RX6 "MODES_TEXT" "[J" (.ref (tt 9)) A U H ∧ va_T .long (tt 9) 4 (fun j => .long (tb_MODES_TEXT.getD j 0)) A U H := h 9 _ rfl
theorem gT_10 {tt : Nat → Nat} {A : Nat → Prop} {U : State} {H : Heap} (h : gT tt A U H) : va_Z RX6 "CBC_ANSWER" "[J" (.ref (tt 10)) A U H ∧ va_T .long (tt 10) 4 (fun j => .long (tb_CBC_ANSWER.getD j 0)) A U H := h 10 _ rfl
theorem gT_11 {tt : Nat → Nat} {A : Nat → Prop} {U : State} {H : Heap} (h : gT tt A U H) : va_Z RX6 "CTR_START" "[J" (.ref (tt 11)) A U H ∧ va_T .long (tt 11) 2 (fun j => .long (tb_CTR_START.getD j 0)) A U H := h 11 _ rfl
theorem gT_12 {tt : Nat → Nat} {A : Nat → Prop} {U : State} {H : Heap} (h : gT tt A U H) : va_Z RX6 "CTR_ANSWER" "[J" (.ref (tt 12)) A U H ∧ va_T .long (tt 12) 4 (fun j => .long (tb_CTR_ANSWER.getD j 0)) A U H := h 12 _ rfl
theorem gT_13 {tt : Nat → Nat} {A : Nat → Prop} {U : State} {H : Heap} (h : gT tt A U H) : va_Z RX6 "ZEROS" "[J" (.ref (tt 13)) A U H ∧ va_T .long (tt 13) 2 (fun j => .long (tb_ZEROS.getD j 0)) A U H := h 13 _ rfl
theorem gT_14 {tt : Nat → Nat} {A : Nat → Prop} {U : State} {H : Heap} (h : gT tt A U H) : va_Z RX6 "GCM_ANSWER" "[J" (.ref (tt 14)) A U H ∧ va_T .long (tt 14) 4 (fun j => .long (tb_GCM_ANSWER.getD j 0)) A U H := h 14 _ rfl
theorem gT_15 {tt : Nat → Nat} {A : Nat → Prop} {U : State} {H : Heap} (h : gT tt A U H) : va_Z RX6 "CMAC_OF_NOTHING" "[J" (.ref (tt 15)) A U H ∧ va_T .long (tt 15) 2 (fun j => .long (tb_CMAC_OF_NOTHING.getD j 0)) A U H := h 15 _ rfl
theorem gT_16 {tt : Nat → Nat} {A : Nat → Prop} {U : State} {H : Heap} (h : gT tt A U H) : va_Z RX6 "CMAC_OF_BLOCK" "[J" (.ref (tt 16)) A U H ∧ va_T .long (tt 16) 2 (fun j => .long (tb_CMAC_OF_BLOCK.getD j 0)) A U H := h 16 _ rfl
theorem gT_17 {tt : Nat → Nat} {A : Nat → Prop} {U : State} {H : Heap} (h : gT tt A U H) : va_Z RX6 "ABC" "[J" (.ref (tt 17)) A U H ∧ va_T .long (tt 17) 1 (fun j => .long (tb_ABC.getD j 0)) A U H := h 17 _ rfl
theorem gT_18 {tt : Nat → Nat} {A : Nat → Prop} {U : State} {H : Heap} (h : gT tt A U H) : va_Z RX6 "ABC_DIGEST" "[J" (.ref (tt 18)) A U H ∧ va_T .long (tt 18) 4 (fun j => .long (tb_ABC_DIGEST.getD j 0)) A U H := h 18 _ rfl
theorem gT_19 {tt : Nat → Nat} {A : Nat → Prop} {U : State} {H : Heap} (h : gT tt A U H) : va_Z RX6 "JEFE" "[J" (.ref (tt 19)) A U H ∧ va_T .long (tt 19) 1 (fun j => .long (tb_JEFE.getD j 0)) A U H := h 19 _ rfl
theorem gT_20 {tt : Nat → Nat} {A : Nat → Prop} {U : State} {H : Heap} (h : gT tt A U H) : va_Z RX6 "WHAT_DO_YA_WANT" "[J" (.ref (tt 20)) A U H ∧ va_T .long (tt 20) 4 (fun j => .long (tb_WHAT_DO_YA_WANT.getD j 0)) A U H := h 20 _ rfl
theorem gT_21 {tt : Nat → Nat} {A : Nat → Prop} {U : State} {H : Heap} (h : gT tt A U H) : va_Z RX6 "HMAC_ANSWER" "[J" (.ref (tt 21)) A U H ∧ va_T .long (tt 21) 4 (fun j => .long (tb_HMAC_ANSWER.getD j 0)) A U H := h 21 _ rfl
theorem gT_22 {tt : Nat → Nat} {A : Nat → Prop} {U : State} {H : Heap} (h : gT tt A U H) : va_Z RX6 "WRAP_ANSWER" "[J" (.ref (tt 22)) A U H ∧ va_T .long (tt 22) 3 (fun j => .long (tb_WRAP_ANSWER.getD j 0)) A U H := h 22 _ rfl
