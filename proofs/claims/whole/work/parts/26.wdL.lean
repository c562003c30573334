set_option maxRecDepth 20000 in
theorem ggL_fault_X9_fault : GoodIn wsL_fault wsX9_fault := goodIn_ca (goodIn_r _ [6, 7, 8, 9, 10, 11, 12, 13, 14, 15, 16, 17, 18, 19, 20, 21, 22, 23, 24, 25, 26, 27, 28] rfl (by decide +kernel)) (goodIn_sub (fun _ h => List.mem_cons_of_mem _ (List.mem_append_right _ h)) (by decide +kernel))
set_option maxRecDepth 20000 in
theorem gL_fault_X9_fault : GoodIn wsL_fault (wsV RL 7 RX9 yX9_fault wsX9_fault) := goodIn_app (goodIn_of _ (by decide +kernel)) ggL_fault_X9_fault
theorem dL_fault_0 : decode cL_fault 0 = .ok (.aload_n 0, 1) := by decide +kernel
theorem dL_fault_1 : decode cL_fault 1 = .ok (.iload_n 1, 1) := by decide +kernel
theorem dL_fault_2 : decode cL_fault 2 = .ok (.invokevirtual 7, 3) := by decide +kernel
theorem dL_fault_5 : decode cL_fault 5 = .ok (.goto 6, 3) := by decide +kernel
theorem dL_fault_8 : decode cL_fault 8 = .ok (.astore_n 2, 1) := by decide +kernel
theorem dL_fault_9 : decode cL_fault 9 = .ok (.iconst 1, 1) := by decide +kernel
theorem dL_fault_10 : decode cL_fault 10 = .ok (.ireturn, 1) := by decide +kernel
theorem dL_fault_11 : decode cL_fault 11 = .ok (.iconst 0, 1) := by decide +kernel
theorem dL_fault_12 : decode cL_fault 12 = .ok (.ireturn, 1) := by decide +kernel
set_option maxRecDepth 20000 in
theorem ggL_poke_X9_poke : GoodIn wsL_poke wsX9_poke := goodIn_ca (goodIn_ca (goodIn_r _ [6, 7, 8, 9, 10, 11, 12, 13, 14, 5, 15, 16, 17, 18, 19, 20, 21, 22, 23, 24, 25, 26, 27, 28, 29, 30, 31, 32, 33, 34] rfl (by decide +kernel)) (goodIn_sub (fun _ h => List.mem_cons_of_mem _ (List.mem_append_left _ (List.mem_append_right _ h))) (by decide +kernel))) (goodIn_sub (fun _ h => List.mem_cons_of_mem _ (List.mem_append_right _ h)) (by decide +kernel))
set_option maxRecDepth 20000 in
theorem gL_poke_X9_poke : GoodIn wsL_poke (wsV RL 15 RX9 yX9_poke wsX9_poke) := goodIn_app (goodIn_of _ (by decide +kernel)) ggL_poke_X9_poke
theorem dL_poke_0 : decode cL_poke 0 = .ok (.aload_n 0, 1) := by decide +kernel
theorem dL_poke_1 : decode cL_poke 1 = .ok (.iload_n 1, 1) := by decide +kernel
theorem dL_poke_2 : decode cL_poke 2 = .ok (.lload_n 2, 1) := by decide +kernel
theorem dL_poke_3 : decode cL_poke 3 = .ok (.iload 4, 2) := by decide +kernel
theorem dL_poke_5 : decode cL_poke 5 = .ok (.invokevirtual 15, 3) := by decide +kernel
theorem dL_poke_8 : decode cL_poke 8 = .ok (.goto 11, 3) := by decide +kernel
theorem dL_poke_11 : decode cL_poke 11 = .ok (.astore 5, 2) := by decide +kernel
theorem dL_poke_13 : decode cL_poke 13 = .ok (.iconst 1, 1) := by decide +kernel
theorem dL_poke_14 : decode cL_poke 14 = .ok (.ireturn, 1) := by decide +kernel
theorem dL_poke_15 : decode cL_poke 15 = .ok (.astore 5, 2) := by decide +kernel
theorem dL_poke_17 : decode cL_poke 17 = .ok (.iconst 2, 1) := by decide +kernel
theorem dL_poke_18 : decode cL_poke 18 = .ok (.ireturn, 1) := by decide +kernel
theorem dL_poke_19 : decode cL_poke 19 = .ok (.iconst 0, 1) := by decide +kernel
theorem dL_poke_20 : decode cL_poke 20 = .ok (.ireturn, 1) := by decide +kernel
set_option maxRecDepth 20000 in
theorem ggL_peek_X9_peek : GoodIn wsL_peek wsX9_peek := goodIn_ca (goodIn_r _ [6, 7, 8, 9, 10, 11, 5, 12, 13, 14, 15, 16, 17, 18, 19, 20, 21, 22, 23, 24, 25, 26, 27, 28, 29, 30, 31, 32, 33, 34, 35, 36, 37, 38, 39, 40, 41, 42, 43] rfl (by decide +kernel)) (goodIn_sub (fun _ h => List.mem_cons_of_mem _ (List.mem_append_right _ h)) (by decide +kernel))
set_option maxRecDepth 20000 in
theorem gL_peek_X9_peek : GoodIn wsL_peek (wsV RL 21 RX9 yX9_peek wsX9_peek) := goodIn_app (goodIn_of _ (by decide +kernel)) ggL_peek_X9_peek
theorem dL_peek_0 : decode cL_peek 0 = .ok (.aload_n 2, 1) := by decide +kernel
theorem dL_peek_1 : decode cL_peek 1 = .ok (.iconst 0, 1) := by decide +kernel
theorem dL_peek_2 : decode cL_peek 2 = .ok (.aload_n 0, 1) := by decide +kernel
theorem dL_peek_3 : decode cL_peek 3 = .ok (.iload_n 1, 1) := by decide +kernel
theorem dL_peek_4 : decode cL_peek 4 = .ok (.invokevirtual 21, 3) := by decide +kernel
theorem dL_peek_7 : decode cL_peek 7 = .ok (.lastore, 1) := by decide +kernel
theorem dL_peek_8 : decode cL_peek 8 = .ok (.goto 6, 3) := by decide +kernel
theorem dL_peek_11 : decode cL_peek 11 = .ok (.astore_n 3, 1) := by decide +kernel
theorem dL_peek_12 : decode cL_peek 12 = .ok (.iconst 1, 1) := by decide +kernel
theorem dL_peek_13 : decode cL_peek 13 = .ok (.ireturn, 1) := by decide +kernel
theorem dL_peek_14 : decode cL_peek 14 = .ok (.iconst 0, 1) := by decide +kernel
theorem dL_peek_15 : decode cL_peek 15 = .ok (.ireturn, 1) := by decide +kernel
set_option maxRecDepth 20000 in
theorem ggL_logout_X9_logout : GoodIn wsL_logout wsX9_logout := goodIn_ca (goodIn_r _ [6, 7, 8, 9, 10, 11, 5, 12, 13, 14, 15, 16, 17, 18, 19, 20, 21, 22, 23, 24, 25, 26, 27, 28, 29, 30, 31, 32, 33, 34, 35, 36, 37] rfl (by decide +kernel)) (goodIn_sub (fun _ h => List.mem_cons_of_mem _ (List.mem_append_right _ h)) (by decide +kernel))
set_option maxRecDepth 20000 in
theorem gL_logout_X9_logout : GoodIn wsL_logout (wsV RL 25 RX9 yX9_logout wsX9_logout) := goodIn_app (goodIn_of _ (by decide +kernel)) ggL_logout_X9_logout
theorem dL_logout_0 : decode cL_logout 0 = .ok (.aload_n 0, 1) := by decide +kernel
theorem dL_logout_1 : decode cL_logout 1 = .ok (.invokevirtual 25, 3) := by decide +kernel
theorem dL_logout_4 : decode cL_logout 4 = .ok (.goto 6, 3) := by decide +kernel
theorem dL_logout_7 : decode cL_logout 7 = .ok (.astore_n 1, 1) := by decide +kernel
theorem dL_logout_8 : decode cL_logout 8 = .ok (.iconst 1, 1) := by decide +kernel
theorem dL_logout_9 : decode cL_logout 9 = .ok (.ireturn, 1) := by decide +kernel
theorem dL_logout_10 : decode cL_logout 10 = .ok (.iconst 0, 1) := by decide +kernel
theorem dL_logout_11 : decode cL_logout 11 = .ok (.ireturn, 1) := by decide +kernel
set_option maxRecDepth 20000 in
theorem ggL_entropy_X9_entropy : GoodIn wsL_entropy wsX9_entropy := goodIn_ca (goodIn_r _ [6, 7, 8, 9, 10, 11, 12, 13, 14, 15, 16, 17, 18, 19, 20, 21, 22, 23, 24, 25, 26, 27, 28, 29, 30, 31, 32, 33, 34, 35, 36, 37, 38, 39, 40, 41, 42, 43, 44, 45, 46, 47, 48, 49, 50, 51, 52, 53, 54, 55, 56, 57, 58] rfl (by decide +kernel)) (goodIn_sub (fun _ h => List.mem_cons_of_mem _ (List.mem_append_right _ h)) (by decide +kernel))
set_option maxRecDepth 20000 in
theorem gL_entropy_X9_entropy : GoodIn wsL_entropy (wsV RL 28 RX9 yX9_entropy wsX9_entropy) := goodIn_app (goodIn_of _ (by decide +kernel)) ggL_entropy_X9_entropy
theorem dL_entropy_0 : decode cL_entropy 0 = .ok (.aload_n 2, 1) := by decide +kernel
theorem dL_entropy_1 : decode cL_entropy 1 = .ok (.iconst 0, 1) := by decide +kernel
theorem dL_entropy_2 : decode cL_entropy 2 = .ok (.aload_n 0, 1) := by decide +kernel
theorem dL_entropy_3 : decode cL_entropy 3 = .ok (.iload_n 1, 1) := by decide +kernel
theorem dL_entropy_4 : decode cL_entropy 4 = .ok (.invokevirtual 28, 3) := by decide +kernel
theorem dL_entropy_7 : decode cL_entropy 7 = .ok (.i2l, 1) := by decide +kernel
theorem dL_entropy_8 : decode cL_entropy 8 = .ok (.lastore, 1) := by decide +kernel
theorem dL_entropy_9 : decode cL_entropy 9 = .ok (.goto 6, 3) := by decide +kernel
theorem dL_entropy_12 : decode cL_entropy 12 = .ok (.astore_n 3, 1) := by decide +kernel
theorem dL_entropy_13 : decode cL_entropy 13 = .ok (.iconst 1, 1) := by decide +kernel
theorem dL_entropy_14 : decode cL_entropy 14 = .ok (.ireturn, 1) := by decide +kernel
theorem dL_entropy_15 : decode cL_entropy 15 = .ok (.iconst 0, 1) := by decide +kernel
theorem dL_entropy_16 : decode cL_entropy 16 = .ok (.ireturn, 1) := by decide +kernel
set_option maxRecDepth 20000 in
theorem ggL_slotInfo_X9_slotInfo : GoodIn wsL_slotInfo wsX9_slotInfo := goodIn_ca (goodIn_r _ [6, 7, 8, 9, 10, 11, 12, 13, 14, 15, 16, 5, 17, 18, 19, 20, 21, 22, 23, 24, 25, 26, 27, 28, 29, 30, 31, 32, 33, 34, 35, 36, 37, 38, 39, 40, 41, 42, 43, 44, 45, 46, 47, 48] rfl (by decide +kernel)) (goodIn_sub (fun _ h => List.mem_cons_of_mem _ (List.mem_append_right _ h)) (by decide +kernel))
set_option maxRecDepth 20000 in
theorem gL_slotInfo_X9_slotInfo : GoodIn wsL_slotInfo (wsV RL 32 RX9 yX9_slotInfo wsX9_slotInfo) := goodIn_app (goodIn_of _ (by decide +kernel)) ggL_slotInfo_X9_slotInfo
theorem dL_slotInfo_0 : decode cL_slotInfo 0 = .ok (.aload_n 3, 1) := by decide +kernel
theorem dL_slotInfo_1 : decode cL_slotInfo 1 = .ok (.iconst 0, 1) := by decide +kernel
theorem dL_slotInfo_2 : decode cL_slotInfo 2 = .ok (.aload_n 0, 1) := by decide +kernel
theorem dL_slotInfo_3 : decode cL_slotInfo 3 = .ok (.iload_n 1, 1) := by decide +kernel
theorem dL_slotInfo_4 : decode cL_slotInfo 4 = .ok (.iload_n 2, 1) := by decide +kernel
theorem dL_slotInfo_5 : decode cL_slotInfo 5 = .ok (.invokevirtual 32, 3) := by decide +kernel
theorem dL_slotInfo_8 : decode cL_slotInfo 8 = .ok (.i2l, 1) := by decide +kernel
theorem dL_slotInfo_9 : decode cL_slotInfo 9 = .ok (.lastore, 1) := by decide +kernel
theorem dL_slotInfo_10 : decode cL_slotInfo 10 = .ok (.goto 7, 3) := by decide +kernel
theorem dL_slotInfo_13 : decode cL_slotInfo 13 = .ok (.astore 4, 2) := by decide +kernel
theorem dL_slotInfo_15 : decode cL_slotInfo 15 = .ok (.iconst 1, 1) := by decide +kernel
theorem dL_slotInfo_16 : decode cL_slotInfo 16 = .ok (.ireturn, 1) := by decide +kernel
theorem dL_slotInfo_17 : decode cL_slotInfo 17 = .ok (.iconst 0, 1) := by decide +kernel
theorem dL_slotInfo_18 : decode cL_slotInfo 18 = .ok (.ireturn, 1) := by decide +kernel
set_option maxRecDepth 20000 in
theorem ggL_counter_X9_counter : GoodIn wsL_counter wsX9_counter := goodIn_ca (goodIn_r _ [6, 7, 8, 9, 10, 11, 12, 13, 14, 15, 16, 17, 18, 19, 20, 21, 22, 23, 24, 25, 26, 27, 28] rfl (by decide +kernel)) (goodIn_sub (fun _ h => List.mem_cons_of_mem _ (List.mem_append_right _ h)) (by decide +kernel))
set_option maxRecDepth 20000 in
theorem gL_counter_X9_counter : GoodIn wsL_counter (wsV RL 36 RX9 yX9_counter wsX9_counter) := goodIn_app (goodIn_of _ (by decide +kernel)) ggL_counter_X9_counter
theorem dL_counter_0 : decode cL_counter 0 = .ok (.aload_n 2, 1) := by decide +kernel
theorem dL_counter_1 : decode cL_counter 1 = .ok (.iconst 0, 1) := by decide +kernel
theorem dL_counter_2 : decode cL_counter 2 = .ok (.aload_n 0, 1) := by decide +kernel
theorem dL_counter_3 : decode cL_counter 3 = .ok (.iload_n 1, 1) := by decide +kernel
theorem dL_counter_4 : decode cL_counter 4 = .ok (.invokevirtual 36, 3) := by decide +kernel
theorem dL_counter_7 : decode cL_counter 7 = .ok (.i2l, 1) := by decide +kernel
theorem dL_counter_8 : decode cL_counter 8 = .ok (.lastore, 1) := by decide +kernel
theorem dL_counter_9 : decode cL_counter 9 = .ok (.goto 6, 3) := by decide +kernel
theorem dL_counter_12 : decode cL_counter 12 = .ok (.astore_n 3, 1) := by decide +kernel
theorem dL_counter_13 : decode cL_counter 13 = .ok (.iconst 1, 1) := by decide +kernel
theorem dL_counter_14 : decode cL_counter 14 = .ok (.ireturn, 1) := by decide +kernel
theorem dL_counter_15 : decode cL_counter 15 = .ok (.iconst 0, 1) := by decide +kernel
theorem dL_counter_16 : decode cL_counter 16 = .ok (.ireturn, 1) := by decide +kernel
set_option maxRecDepth 20000 in
theorem ggL_same_X9_same : GoodIn wsL_same wsX9_same := goodIn_ca (goodIn_r _ [6, 7, 8, 9, 10, 11, 12, 13, 14, 5, 15, 16, 17, 18, 19, 20, 21, 22, 23, 24, 25, 26, 27, 28, 29, 30, 31, 32, 33, 34, 35, 36, 37, 38, 39, 40, 41, 42, 43, 44, 45, 46, 47, 48, 49] rfl (by decide +kernel)) (goodIn_sub (fun _ h => List.mem_cons_of_mem _ (List.mem_append_right _ h)) (by decide +kernel))
set_option maxRecDepth 20000 in
theorem gL_same_X9_same : GoodIn wsL_same (wsV RL 39 RX9 yX9_same wsX9_same) := goodIn_app (goodIn_of _ (by decide +kernel)) ggL_same_X9_same
theorem dL_same_0 : decode cL_same 0 = .ok (.aload_n 3, 1) := by decide +kernel
theorem dL_same_1 : decode cL_same 1 = .ok (.iconst 0, 1) := by decide +kernel
theorem dL_same_2 : decode cL_same 2 = .ok (.aload_n 0, 1) := by decide +kernel
theorem dL_same_3 : decode cL_same 3 = .ok (.iload_n 1, 1) := by decide +kernel
theorem dL_same_4 : decode cL_same 4 = .ok (.iload_n 2, 1) := by decide +kernel
theorem dL_same_5 : decode cL_same 5 = .ok (.invokevirtual 39, 3) := by decide +kernel
theorem dL_same_8 : decode cL_same 8 = .ok (.ifCond .eq 7, 3) := by decide +kernel
theorem dL_same_11 : decode cL_same 11 = .ok (.lconst 1, 1) := by decide +kernel
theorem dL_same_12 : decode cL_same 12 = .ok (.goto 4, 3) := by decide +kernel
theorem dL_same_15 : decode cL_same 15 = .ok (.lconst 0, 1) := by decide +kernel
theorem dL_same_16 : decode cL_same 16 = .ok (.lastore, 1) := by decide +kernel
theorem dL_same_17 : decode cL_same 17 = .ok (.goto 7, 3) := by decide +kernel
theorem dL_same_20 : decode cL_same 20 = .ok (.astore 4, 2) := by decide +kernel
theorem dL_same_22 : decode cL_same 22 = .ok (.iconst 1, 1) := by decide +kernel
theorem dL_same_23 : decode cL_same 23 = .ok (.ireturn, 1) := by decide +kernel
theorem dL_same_24 : decode cL_same 24 = .ok (.iconst 0, 1) := by decide +kernel
theorem dL_same_25 : decode cL_same 25 = .ok (.ireturn, 1) := by decide +kernel
