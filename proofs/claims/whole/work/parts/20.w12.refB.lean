set_option maxHeartbeats 4000000 in
set_option maxRecDepth 100000 in
theorem c_X10_swap (l : Launch) (D : va_G) (cy : Nat → ClassId) (tt : Nat → Nat) (sz : Nat) (h0 : Nat) (hm : Nat → Nat) (p1 : Int32) (p2 : Int32) (c_total : Int64) (c_h : Nat → Int32) (c_message : Nat → Int32) (c_streamBlock : Nat → Int32) (c_streamHash : Nat → Int32) (c_taken : Nat → Int64) (c_thrown : Int32) (c_state : Int32) (c_test : Int32) (c_words : Int32) (c_ill : Int32) (c_before : Int32) (c_inRow : Int32) (c_first : Int32) (c_inWindow : Int32) (c_same : Int32) (c_made : Int32) (c_requests : Int32) (c_secrets : Int32) (c_rounds : Int32) (c_high : Int64) (c_low : Int64) (c_keyHigh : Int64) (c_keyLow : Int64) (c_total' : Int64) (c_h' : Nat → Int32) (c_message' : Nat → Int32) (c_streamBlock' : Nat → Int32) (c_streamHash' : Nat → Int32) (c_taken' : Nat → Int64) (hf : f_X10_swap p1 p2 c_total c_h c_message c_streamBlock c_streamHash c_taken = some (c_total', c_h', c_message', c_streamBlock', c_streamHash', c_taken')) : Met l yX10_swap wsX10_swap ({ frames := 0, cells := 0, slots := 0, locals := 0 }) (zPc D cy tt sz [.ref h0, .int p1, .int p2] ([(h0, .inr (12, zmo hm c_thrown c_state c_test c_words c_ill c_before c_inRow c_first c_inWindow c_same c_made c_requests c_total c_secrets c_rounds c_high c_low c_keyHigh c_keyLow)), ((hm 30), .inl (cy 1, 8, .inl c_h)), ((hm 33), .inl (cy 1, 64, .inl c_message)), ((hm 29), .inl (cy 1, 192, .inl c_streamBlock)), ((hm 28), .inl (cy 1, 24, .inl c_streamHash)), ((hm 27), .inl (cy 2, 3, .inr (.inl c_taken)))])) (zQ D none ([(h0, .inr (12, zmo hm c_thrown c_state c_test c_words c_ill c_before c_inRow c_first c_inWindow c_same c_made c_requests c_total' c_secrets c_rounds c_high c_low c_keyHigh c_keyLow)), ((hm 30), .inl (cy 1, 8, .inl c_h')), ((hm 33), .inl (cy 1, 64, .inl c_message')), ((hm 29), .inl (cy 1, 192, .inl c_streamBlock')), ((hm 28), .inl (cy 1, 24, .inl c_streamHash')), ((hm 27), .inl (cy 2, 3, .inr (.inl c_taken')))]) (va_A ([(h0, .inr (12, zmo hm c_thrown c_state c_test c_words c_ill c_before c_inRow c_first c_inWindow c_same c_made c_requests c_total c_secrets c_rounds c_high c_low c_keyHigh c_keyLow)), ((hm 30), .inl (cy 1, 8, .inl c_h)), ((hm 33), .inl (cy 1, 64, .inl c_message)), ((hm 29), .inl (cy 1, 192, .inl c_streamBlock)), ((hm 28), .inl (cy 1, 24, .inl c_streamHash)), ((hm 27), .inl (cy 2, 3, .inr (.inl c_taken)))]) sz)) 0 0 (va_A ([(h0, .inr (12, zmo hm c_thrown c_state c_test c_words c_ill c_before c_inRow c_first c_inWindow c_same c_made c_requests c_total c_secrets c_rounds c_high c_low c_keyHigh c_keyLow)), ((hm 30), .inl (cy 1, 8, .inl c_h)), ((hm 33), .inl (cy 1, 64, .inl c_message)), ((hm 29), .inl (cy 1, 192, .inl c_streamBlock)), ((hm 28), .inl (cy 1, 24, .inl c_streamHash)), ((hm 27), .inl (cy 2, 3, .inr (.inl c_taken)))]) sz) := by
  refine Met.ofW (cc := cX10_swap) (maxL := 4) (ret := none) (by decide) rfl ?_
  intro p e s m args below meth c s₁ B hml hv
  obtain ⟨rfl, rfl, hP, hD0, hE⟩ := hv
  have hx := B.exec
  have hb := B.bytes
  have hr := B.returns
  have hts := atoms_spec (ws := wsX10_swap) B.pre
  have hown : s.vm.findClass RX10 = some m.cls := findClass_of_methodNamed B.named
  have hlocks := B.notSynchronized
  clear B
  have hD := hD0.self (sz := s.heap.size)
  generalize hAe : va_A ([(h0, .inr (12, zmo hm c_thrown c_state c_test c_words c_ill c_before c_inRow c_first c_inWindow c_same c_made c_requests c_total c_secrets c_rounds c_high c_low c_keyHigh c_keyLow)), ((hm 30), .inl (cy 1, 8, .inl c_h)), ((hm 33), .inl (cy 1, 64, .inl c_message)), ((hm 29), .inl (cy 1, 192, .inl c_streamBlock)), ((hm 28), .inl (cy 1, 24, .inl c_streamHash)), ((hm 27), .inl (cy 2, 3, .inr (.inl c_taken)))]) s.heap.size = A at hD hE ⊢
  have hA : ∀ q : Nat, s.heap.size ≤ q → A q := fun q h => by rw [← hAe]; exact Or.inr h
  clear hAe hD0
  have hS : va_S A s.heap s.heap [] := va_S.rf
  have hK := hE.1
  have hw0 := hts (.fieldLink RX10 122 "SealedModuleModel" "taken" "[J") (by decide +kernel)
  have hw1 := hts (.fieldLink RX10 214 "SealedModuleModel" "total" "J") (by decide +kernel)
  have hw2 := hts (.fieldLink RX10 141 "SealedModuleModel" "message" "[I") (by decide +kernel)
  have hw3 := hts (.fieldLink RX10 129 "SealedModuleModel" "streamBlock" "[I") (by decide +kernel)
  have hw4 := hts (.fieldLink RX10 132 "SealedModuleModel" "h" "[I") (by decide +kernel)
  have hw5 := hts (.fieldLink RX10 126 "SealedModuleModel" "streamHash" "[I") (by decide +kernel)
  have hcX10 : ∀ w ∈ u_ws RX10 TX10 52, w ∈ wsX10_swap := (fun _ h => List.mem_cons_of_mem _ (List.mem_append_right _ h))
  have hl := lv_entry ([.ref h0, .int p1, .int p2]) (n := 4) (Nat.le_of_ble_eq_true rfl)
  rw [lg_entry_eq]
  generalize (lg_sl ([.ref h0, .int p1, .int p2]) ++ List.replicate (4 - (lg_sl ([.ref h0, .int p1, .int p2])).length) Slot.unset).toArray = ls at hl ⊢
  replace hl : lv_has ls 4 [(0, .ref h0), (1, .int p1), (2, .int p2)] := hl
  unfold f_X10_swap at hf
  refine zgo (fun GW hTo hFr => ?_)
  refine hFr _ _ _ ?_
  obtain ⟨H, hHe⟩ : ∃ H, H = s.heap := ⟨_, rfl⟩
  obtain ⟨locs, hLe⟩ : ∃ L : List Loc, L = [] := ⟨_, rfl⟩
  rw [← hHe] at hP
  replace hS : va_S A s.heap H locs := by rw [hHe, hLe]; exact hS
  refine zat hHe.symm hLe.symm ?_
  clear hHe hLe
  refine lv_iconst (pc := 0) (v := (0 : Int32)) hx hb (zdt_at zt_X10_swap_0 0 rfl) (by decide) ?_
  refine lv_istore_n (pc := 1) (lv' := [(3, .int (0 : Int32)), (0, .ref h0), (1, .int p1), (2, .int p2)]) hx hb (zdt_at zt_X10_swap_0 1 rfl) rfl hl (by decide) rfl ?_
  clear hl
  intro ls hl
  replace hf := zj_s hf
  obtain ⟨K_6, eK_6, hf⟩ := hf
  have kK_6 : ∀ (c_h_4 : Nat → Int32) (c_streamHash_5 : Nat → Int32) (H : Heap) (locs : List Loc) (ls : Array Slot), va_P D vwCl ([(h0, .inr (12, zmo hm c_thrown c_state c_test c_words c_ill c_before c_inRow c_first c_inWindow c_same c_made c_requests c_total c_secrets c_rounds c_high c_low c_keyHigh c_keyLow)), ((hm 30), .inl (cy 1, 8, .inl c_h_4)), ((hm 33), .inl (cy 1, 64, .inl c_message)), ((hm 29), .inl (cy 1, 192, .inl c_streamBlock)), ((hm 28), .inl (cy 1, 24, .inl c_streamHash_5)), ((hm 27), .inl (cy 2, 3, .inr (.inl c_taken)))]) H → va_D A ([(h0, .inr (12, zmo hm c_thrown c_state c_test c_words c_ill c_before c_inRow c_first c_inWindow c_same c_made c_requests c_total c_secrets c_rounds c_high c_low c_keyHigh c_keyLow)), ((hm 30), .inl (cy 1, 8, .inl c_h_4)), ((hm 33), .inl (cy 1, 64, .inl c_message)), ((hm 29), .inl (cy 1, 192, .inl c_streamBlock)), ((hm 28), .inl (cy 1, 24, .inl c_streamHash_5)), ((hm 27), .inl (cy 2, 3, .inr (.inl c_taken)))]) → va_S A s.heap H locs → lv_has ls 4 [(0, .ref h0), (1, .int p1), (2, .int p2)] → K_6 c_h_4 c_streamHash_5 = some (c_total', c_h', c_message', c_streamBlock', c_streamHash', c_taken') → GW H locs (F0 m 55 ls []) := by
    clear hf hl hP hD hS
    intro c_h_4 c_streamHash_5 H locs ls hP hD hS hl hf
    rw [eK_6] at hf
    clear eK_6
    refine hFr _ _ _ ?_
    refine lv_iconst (pc := 55) (v := (0 : Int32)) hx hb (zdt_at zt_X10_swap_0 34 rfl) (by decide) ?_
    refine lv_istore_n (pc := 56) (lv' := [(3, .int (0 : Int32)), (0, .ref h0), (1, .int p1), (2, .int p2)]) hx hb (zdt_at zt_X10_swap_0 35 rfl) rfl hl (by decide) rfl ?_
    clear hl
    intro ls hl
    replace hf := zj_s hf
    obtain ⟨K_12, eK_12, hf⟩ := hf
    have kK_12 : ∀ (c_message_10 : Nat → Int32) (c_streamBlock_11 : Nat → Int32) (H : Heap) (locs : List Loc) (ls : Array Slot), va_P D vwCl ([(h0, .inr (12, zmo hm c_thrown c_state c_test c_words c_ill c_before c_inRow c_first c_inWindow c_same c_made c_requests c_total c_secrets c_rounds c_high c_low c_keyHigh c_keyLow)), ((hm 30), .inl (cy 1, 8, .inl c_h_4)), ((hm 33), .inl (cy 1, 64, .inl c_message_10)), ((hm 29), .inl (cy 1, 192, .inl c_streamBlock_11)), ((hm 28), .inl (cy 1, 24, .inl c_streamHash_5)), ((hm 27), .inl (cy 2, 3, .inr (.inl c_taken)))]) H → va_D A ([(h0, .inr (12, zmo hm c_thrown c_state c_test c_words c_ill c_before c_inRow c_first c_inWindow c_same c_made c_requests c_total c_secrets c_rounds c_high c_low c_keyHigh c_keyLow)), ((hm 30), .inl (cy 1, 8, .inl c_h_4)), ((hm 33), .inl (cy 1, 64, .inl c_message_10)), ((hm 29), .inl (cy 1, 192, .inl c_streamBlock_11)), ((hm 28), .inl (cy 1, 24, .inl c_streamHash_5)), ((hm 27), .inl (cy 2, 3, .inr (.inl c_taken)))]) → va_S A s.heap H locs → lv_has ls 4 [(0, .ref h0), (1, .int p1), (2, .int p2)] → K_12 c_message_10 c_streamBlock_11 = some (c_total', c_h', c_message', c_streamBlock', c_streamHash', c_taken') → GW H locs (F0 m 110 ls []) := by
      clear hf hl hP hD hS
      intro c_message_10 c_streamBlock_11 H locs ls hP hD hS hl hf
      rw [eK_12] at hf
      clear eK_12
      refine hFr _ _ _ ?_
      refine lv_iload_n (pc := 110) hx hb (zdt_at zt_X10_swap_1 4 rfl) rfl (lv_at hl 2 rfl) ?_
      refine lv_if_eq (pc := 111) (tgt := 127) hx hb (zdt_at zt_X10_swap_1 5 rfl) (by decide) (fun cn_ => ?t_13) (fun cn_ => ?f_14)
      case t_13 =>
        replace hf := zt_s cn_ hf
        clear cn_
        refine lv_aload_n (pc := 127) hx hb (zdt_at zt_X10_swap_1 13 rfl) rfl (lv_at hl 0 rfl) ?_
        refine lv_aload_n (pc := 128) hx hb (zdt_at zt_X10_swap_1 14 rfl) rfl (lv_at hl 0 rfl) ?_
        refine va_get (pc := 129) (D := D) (ci := 12) (v := .ref (hm 27)) (C := RX10) (T := TX10) (N := 52) hx hb hts hcX10 hown hK hP 0 rfl rfl 27 (by decide) hw0 (fun _ h9 => h9) rfl (zdt_at zt_X10_swap_1 15 rfl) ?_
        refine lv_iload_n (pc := 132) hx hb (zdt_at zt_X10_swap_1 16 rfl) rfl (lv_at hl 1 rfl) ?_
        replace hf := zk_s hf
        refine va_lald (pc := 133) hx hb hK hP 5 2 rfl rfl hf.1 (zdt_at zt_X10_swap_1 17 rfl) ?_
        replace hf := hf.2
        refine lv_topl (fun x_15 e_ => ?_)
        replace hf := zn_s hf e_
        clear e_
        refine va_put (pc := 134) (D := D) (ci := 12) (v := .long x_15) (ty := .long) (C := RX10) (T := TX10) (N := 52) hx hb hts hcX10 tyX10 tyX10_ok nmX10 hown hK hP hD hS 0 rfl rfl 34 (by decide) hw1 (fun _ h9 => h9) rfl (by decide +kernel) rfl rfl (Nat.le_of_ble_eq_true rfl) (zdt_at zt_X10_swap_1 18 rfl) ?_
        clear hP hD hS
        intro H locs hP hD hS
        replace hP : va_P D vwCl ([(h0, .inr (12, zmo hm c_thrown c_state c_test c_words c_ill c_before c_inRow c_first c_inWindow c_same c_made c_requests x_15 c_secrets c_rounds c_high c_low c_keyHigh c_keyLow)), ((hm 30), .inl (cy 1, 8, .inl c_h_4)), ((hm 33), .inl (cy 1, 64, .inl c_message_10)), ((hm 29), .inl (cy 1, 192, .inl c_streamBlock_11)), ((hm 28), .inl (cy 1, 24, .inl c_streamHash_5)), ((hm 27), .inl (cy 2, 3, .inr (.inl c_taken)))]) H := hP
        replace hD : va_D A ([(h0, .inr (12, zmo hm c_thrown c_state c_test c_words c_ill c_before c_inRow c_first c_inWindow c_same c_made c_requests x_15 c_secrets c_rounds c_high c_low c_keyHigh c_keyLow)), ((hm 30), .inl (cy 1, 8, .inl c_h_4)), ((hm 33), .inl (cy 1, 64, .inl c_message_10)), ((hm 29), .inl (cy 1, 192, .inl c_streamBlock_11)), ((hm 28), .inl (cy 1, 24, .inl c_streamHash_5)), ((hm 27), .inl (cy 2, 3, .inr (.inl c_taken)))]) := hD
        cases hf
        exact W.vret (pc := 137) hx hb hr (fun t ht hW => ⟨rfl, ⟨by rw [ht]; exact hP, hD⟩, hS.F ht⟩) hS.2.2 (zdt_at zt_X10_swap_1 19 rfl)
      replace hf := ze_s cn_ hf
      clear cn_
      refine lv_aload_n (pc := 114) hx hb (zdt_at zt_X10_swap_1 6 rfl) rfl (lv_at hl 0 rfl) ?_
      refine va_get (pc := 115) (D := D) (ci := 12) (v := .ref (hm 27)) (C := RX10) (T := TX10) (N := 52) hx hb hts hcX10 hown hK hP 0 rfl rfl 27 (by decide) hw0 (fun _ h9 => h9) rfl (zdt_at zt_X10_swap_1 7 rfl) ?_
      refine lv_iload_n (pc := 118) hx hb (zdt_at zt_X10_swap_1 8 rfl) rfl (lv_at hl 1 rfl) ?_
      refine lv_aload_n (pc := 119) hx hb (zdt_at zt_X10_swap_1 9 rfl) rfl (lv_at hl 0 rfl) ?_
      refine va_get (pc := 120) (D := D) (ci := 12) (v := .long c_total) (C := RX10) (T := TX10) (N := 52) hx hb hts hcX10 hown hK hP 0 rfl rfl 34 (by decide) hw1 (fun _ h9 => h9) rfl (zdt_at zt_X10_swap_1 10 rfl) ?_
      replace hf := zk_s hf
      refine va_last (pc := 123) hx hb hK hP hD hS 5 2 rfl rfl hf.1 (zdt_at zt_X10_swap_1 11 rfl) ?_
      replace hf := hf.2
      clear hP hD hS
      intro H locs hP hD hS
      obtain ⟨c_taken_16, e_⟩ : ∃ q : Nat → Int64, q = (vp_updL c_taken p1.toNatClampNeg c_total) := ⟨_, rfl⟩
      replace hf := zn_s hf e_
      replace hP : va_P D vwCl ([(h0, .inr (12, zmo hm c_thrown c_state c_test c_words c_ill c_before c_inRow c_first c_inWindow c_same c_made c_requests c_total c_secrets c_rounds c_high c_low c_keyHigh c_keyLow)), ((hm 30), .inl (cy 1, 8, .inl c_h_4)), ((hm 33), .inl (cy 1, 64, .inl c_message_10)), ((hm 29), .inl (cy 1, 192, .inl c_streamBlock_11)), ((hm 28), .inl (cy 1, 24, .inl c_streamHash_5)), ((hm 27), .inl (cy 2, 3, .inr (.inl c_taken_16)))]) H := by rw [e_]; exact hP
      replace hD : va_D A ([(h0, .inr (12, zmo hm c_thrown c_state c_test c_words c_ill c_before c_inRow c_first c_inWindow c_same c_made c_requests c_total c_secrets c_rounds c_high c_low c_keyHigh c_keyLow)), ((hm 30), .inl (cy 1, 8, .inl c_h_4)), ((hm 33), .inl (cy 1, 64, .inl c_message_10)), ((hm 29), .inl (cy 1, 192, .inl c_streamBlock_11)), ((hm 28), .inl (cy 1, 24, .inl c_streamHash_5)), ((hm 27), .inl (cy 2, 3, .inr (.inl c_taken_16)))]) := by rw [e_]; exact hD
      clear e_
      refine lv_goto (pc := 124) (tgt := 137) hx hb (zdt_at zt_X10_swap_1 12 rfl) (by decide) ?_
      cases hf
      exact W.vret (pc := 137) hx hb hr (fun t ht hW => ⟨rfl, ⟨by rw [ht]; exact hP, hD⟩, hS.F ht⟩) hS.2.2 (zdt_at zt_X10_swap_1 19 rfl)
    clear eK_12
    refine hTo _ _ _ (zl_go (fun z => match z with | (i_7, c_message_8, c_streamBlock_9) => ∀ (H : Heap) (locs : List Loc) (ls : Array Slot), va_P D vwCl ([(h0, .inr (12, zmo hm c_thrown c_state c_test c_words c_ill c_before c_inRow c_first c_inWindow c_same c_made c_requests c_total c_secrets c_rounds c_high c_low c_keyHigh c_keyLow)), ((hm 30), .inl (cy 1, 8, .inl c_h_4)), ((hm 33), .inl (cy 1, 64, .inl c_message_8)), ((hm 29), .inl (cy 1, 192, .inl c_streamBlock_9)), ((hm 28), .inl (cy 1, 24, .inl c_streamHash_5)), ((hm 27), .inl (cy 2, 3, .inr (.inl c_taken)))]) H → va_D A ([(h0, .inr (12, zmo hm c_thrown c_state c_test c_words c_ill c_before c_inRow c_first c_inWindow c_same c_made c_requests c_total c_secrets c_rounds c_high c_low c_keyHigh c_keyLow)), ((hm 30), .inl (cy 1, 8, .inl c_h_4)), ((hm 33), .inl (cy 1, 64, .inl c_message_8)), ((hm 29), .inl (cy 1, 192, .inl c_streamBlock_9)), ((hm 28), .inl (cy 1, 24, .inl c_streamHash_5)), ((hm 27), .inl (cy 2, 3, .inr (.inl c_taken)))]) → va_S A s.heap H locs → lv_has ls 4 [(0, .ref h0), (1, .int p1), (2, .int p2), (3, .int i_7)] → GW H locs (F0 m 57 ls [])) hf ?_ H locs ls hP hD hS (lv_sub hl [1, 2, 3, 0] rfl))
    clear hf hl hP hD hS
    intro self_17 ihself_17 z hf
    obtain ⟨i_7, c_message_8, c_streamBlock_9⟩ := z
    intro H locs ls hP hD hS hl
    refine hFr _ _ _ ?_
    unfold b_X10_swap_57 at hf
    refine lv_iload_n (pc := 57) hx hb (zdt_at zt_X10_swap_0 36 rfl) rfl (lv_at hl 3 rfl) ?_
    refine lv_bipush (pc := 58) (v := (64 : Int32)) hx hb (zdt_at zt_X10_swap_0 37 rfl) (by decide) ?_
    refine lv_icmp_ge (pc := 60) (tgt := 110) hx hb (zdt_at zt_X10_swap_0 38 rfl) (by decide) (fun cn_ => ?t_18) (fun cn_ => ?f_19)
    case t_18 =>
      replace hf := zt_s cn_ hf
      clear cn_
      exact hTo _ _ _ (kK_12 _ _ H locs ls hP hD hS (lv_sub hl [0, 1, 2] rfl) hf)
    replace hf := ze_s cn_ hf
    clear cn_
    refine lv_iload_n (pc := 63) hx hb (zdt_at zt_X10_swap_0 39 rfl) rfl (lv_at hl 2 rfl) ?_
    refine lv_if_eq (pc := 64) (tgt := 87) hx hb (zdt_at zt_X10_swap_0 40 rfl) (by decide) (fun cn_ => ?t_20) (fun cn_ => ?f_21)
    case t_20 =>
      replace hf := zt_s cn_ hf
      clear cn_
      refine lv_aload_n (pc := 87) hx hb (zdt_at zt_X10_swap_0 54 rfl) rfl (lv_at hl 0 rfl) ?_
      refine va_get (pc := 88) (D := D) (ci := 12) (v := .ref (hm 33)) (C := RX10) (T := TX10) (N := 52) hx hb hts hcX10 hown hK hP 0 rfl rfl 33 (by decide) hw2 (fun _ h9 => h9) rfl (zdt_at zt_X10_swap_0 55 rfl) ?_
      refine lv_iload_n (pc := 91) hx hb (zdt_at zt_X10_swap_0 56 rfl) rfl (lv_at hl 3 rfl) ?_
      refine lv_aload_n (pc := 92) hx hb (zdt_at zt_X10_swap_0 57 rfl) rfl (lv_at hl 0 rfl) ?_
      refine va_get (pc := 93) (D := D) (ci := 12) (v := .ref (hm 29)) (C := RX10) (T := TX10) (N := 52) hx hb hts hcX10 hown hK hP 0 rfl rfl 29 (by decide) hw3 (fun _ h9 => h9) rfl (zdt_at zt_X10_swap_0 58 rfl) ?_
      refine lv_bipush (pc := 96) (v := (64 : Int32)) hx hb (zdt_at zt_X10_swap_0 59 rfl) (by decide) ?_
      refine lv_iload_n (pc := 98) hx hb (zdt_at zt_X10_swap_0 60 rfl) rfl (lv_at hl 1 rfl) ?_
      refine lv_imul (pc := 99) hx hb (zdt_at zt_X10_swap_0 61 rfl) ?_
      refine lv_iload_n (pc := 100) hx hb (zdt_at zt_X10_swap_0 62 rfl) rfl (lv_at hl 3 rfl) ?_
      refine lv_iadd (pc := 101) hx hb (zdt_at zt_X10_swap_0 63 rfl) ?_
      replace hf := zk_s hf
      refine va_iald (pc := 102) hx hb hK hP 3 1 rfl rfl hf.1 (zdt_at zt_X10_swap_1 0 rfl) ?_
      replace hf := hf.2
      replace hf := zk_s hf
      refine va_iast (pc := 103) hx hb hK hP hD hS 2 1 rfl rfl hf.1 (zdt_at zt_X10_swap_1 1 rfl) ?_
      replace hf := hf.2
      clear hP hD hS
      intro H locs hP hD hS
      obtain ⟨c_message_22, e_⟩ : ∃ q : Nat → Int32, q = (upd c_message_8 i_7.toNatClampNeg (c_streamBlock_9 (((64 : Int32) * p1) + i_7).toNatClampNeg)) := ⟨_, rfl⟩
      replace hf := zn_s hf e_
      replace hP : va_P D vwCl ([(h0, .inr (12, zmo hm c_thrown c_state c_test c_words c_ill c_before c_inRow c_first c_inWindow c_same c_made c_requests c_total c_secrets c_rounds c_high c_low c_keyHigh c_keyLow)), ((hm 30), .inl (cy 1, 8, .inl c_h_4)), ((hm 33), .inl (cy 1, 64, .inl c_message_22)), ((hm 29), .inl (cy 1, 192, .inl c_streamBlock_9)), ((hm 28), .inl (cy 1, 24, .inl c_streamHash_5)), ((hm 27), .inl (cy 2, 3, .inr (.inl c_taken)))]) H := by rw [e_]; exact hP
      replace hD : va_D A ([(h0, .inr (12, zmo hm c_thrown c_state c_test c_words c_ill c_before c_inRow c_first c_inWindow c_same c_made c_requests c_total c_secrets c_rounds c_high c_low c_keyHigh c_keyLow)), ((hm 30), .inl (cy 1, 8, .inl c_h_4)), ((hm 33), .inl (cy 1, 64, .inl c_message_22)), ((hm 29), .inl (cy 1, 192, .inl c_streamBlock_9)), ((hm 28), .inl (cy 1, 24, .inl c_streamHash_5)), ((hm 27), .inl (cy 2, 3, .inr (.inl c_taken)))]) := by rw [e_]; exact hD
      clear e_
      refine lv_iinc (pc := 104) (v := (i_7 + (1 : Int32))) (lv' := [(3, .int (i_7 + (1 : Int32))), (0, .ref h0), (1, .int p1), (2, .int p2)]) hx hb (zdt_at zt_X10_swap_1 2 rfl) hl (k := 3) rfl rfl (by decide) rfl ?_
      clear hl
      intro ls hl
      refine lv_goto (pc := 107) (tgt := 57) hx hb (zdt_at zt_X10_swap_1 3 rfl) (by decide) ?_
      exact hTo _ _ _ (ihself_17 _ hf H locs ls hP hD hS (lv_sub hl [1, 2, 3, 0] rfl))
    replace hf := ze_s cn_ hf
    clear cn_
    refine lv_aload_n (pc := 67) hx hb (zdt_at zt_X10_swap_0 41 rfl) rfl (lv_at hl 0 rfl) ?_
    refine va_get (pc := 68) (D := D) (ci := 12) (v := .ref (hm 29)) (C := RX10) (T := TX10) (N := 52) hx hb hts hcX10 hown hK hP 0 rfl rfl 29 (by decide) hw3 (fun _ h9 => h9) rfl (zdt_at zt_X10_swap_0 42 rfl) ?_
    refine lv_bipush (pc := 71) (v := (64 : Int32)) hx hb (zdt_at zt_X10_swap_0 43 rfl) (by decide) ?_
    refine lv_iload_n (pc := 73) hx hb (zdt_at zt_X10_swap_0 44 rfl) rfl (lv_at hl 1 rfl) ?_
    refine lv_imul (pc := 74) hx hb (zdt_at zt_X10_swap_0 45 rfl) ?_
    refine lv_iload_n (pc := 75) hx hb (zdt_at zt_X10_swap_0 46 rfl) rfl (lv_at hl 3 rfl) ?_
    refine lv_iadd (pc := 76) hx hb (zdt_at zt_X10_swap_0 47 rfl) ?_
    refine lv_aload_n (pc := 77) hx hb (zdt_at zt_X10_swap_0 48 rfl) rfl (lv_at hl 0 rfl) ?_
    refine va_get (pc := 78) (D := D) (ci := 12) (v := .ref (hm 33)) (C := RX10) (T := TX10) (N := 52) hx hb hts hcX10 hown hK hP 0 rfl rfl 33 (by decide) hw2 (fun _ h9 => h9) rfl (zdt_at zt_X10_swap_0 49 rfl) ?_
    refine lv_iload_n (pc := 81) hx hb (zdt_at zt_X10_swap_0 50 rfl) rfl (lv_at hl 3 rfl) ?_
    replace hf := zk_s hf
    refine va_iald (pc := 82) hx hb hK hP 2 1 rfl rfl hf.1 (zdt_at zt_X10_swap_0 51 rfl) ?_
    replace hf := hf.2
    replace hf := zk_s hf
    refine va_iast (pc := 83) hx hb hK hP hD hS 3 1 rfl rfl hf.1 (zdt_at zt_X10_swap_0 52 rfl) ?_
    replace hf := hf.2
    clear hP hD hS
    intro H locs hP hD hS
    obtain ⟨c_streamBlock_23, e_⟩ : ∃ q : Nat → Int32, q = (upd c_streamBlock_9 (((64 : Int32) * p1) + i_7).toNatClampNeg (c_message_8 i_7.toNatClampNeg)) := ⟨_, rfl⟩
    replace hf := zn_s hf e_
    replace hP : va_P D vwCl ([(h0, .inr (12, zmo hm c_thrown c_state c_test c_words c_ill c_before c_inRow c_first c_inWindow c_same c_made c_requests c_total c_secrets c_rounds c_high c_low c_keyHigh c_keyLow)), ((hm 30), .inl (cy 1, 8, .inl c_h_4)), ((hm 33), .inl (cy 1, 64, .inl c_message_8)), ((hm 29), .inl (cy 1, 192, .inl c_streamBlock_23)), ((hm 28), .inl (cy 1, 24, .inl c_streamHash_5)), ((hm 27), .inl (cy 2, 3, .inr (.inl c_taken)))]) H := by rw [e_]; exact hP
    replace hD : va_D A ([(h0, .inr (12, zmo hm c_thrown c_state c_test c_words c_ill c_before c_inRow c_first c_inWindow c_same c_made c_requests c_total c_secrets c_rounds c_high c_low c_keyHigh c_keyLow)), ((hm 30), .inl (cy 1, 8, .inl c_h_4)), ((hm 33), .inl (cy 1, 64, .inl c_message_8)), ((hm 29), .inl (cy 1, 192, .inl c_streamBlock_23)), ((hm 28), .inl (cy 1, 24, .inl c_streamHash_5)), ((hm 27), .inl (cy 2, 3, .inr (.inl c_taken)))]) := by rw [e_]; exact hD
    clear e_
    refine lv_goto (pc := 84) (tgt := 104) hx hb (zdt_at zt_X10_swap_0 53 rfl) (by decide) ?_
    refine lv_iinc (pc := 104) (v := (i_7 + (1 : Int32))) (lv' := [(3, .int (i_7 + (1 : Int32))), (0, .ref h0), (1, .int p1), (2, .int p2)]) hx hb (zdt_at zt_X10_swap_1 2 rfl) hl (k := 3) rfl rfl (by decide) rfl ?_
    clear hl
    intro ls hl
    refine lv_goto (pc := 107) (tgt := 57) hx hb (zdt_at zt_X10_swap_1 3 rfl) (by decide) ?_
    exact hTo _ _ _ (ihself_17 _ hf H locs ls hP hD hS (lv_sub hl [1, 2, 3, 0] rfl))
  clear eK_6
  refine hTo _ _ _ (zl_go (fun z => match z with | (i_1, c_h_2, c_streamHash_3) => ∀ (H : Heap) (locs : List Loc) (ls : Array Slot), va_P D vwCl ([(h0, .inr (12, zmo hm c_thrown c_state c_test c_words c_ill c_before c_inRow c_first c_inWindow c_same c_made c_requests c_total c_secrets c_rounds c_high c_low c_keyHigh c_keyLow)), ((hm 30), .inl (cy 1, 8, .inl c_h_2)), ((hm 33), .inl (cy 1, 64, .inl c_message)), ((hm 29), .inl (cy 1, 192, .inl c_streamBlock)), ((hm 28), .inl (cy 1, 24, .inl c_streamHash_3)), ((hm 27), .inl (cy 2, 3, .inr (.inl c_taken)))]) H → va_D A ([(h0, .inr (12, zmo hm c_thrown c_state c_test c_words c_ill c_before c_inRow c_first c_inWindow c_same c_made c_requests c_total c_secrets c_rounds c_high c_low c_keyHigh c_keyLow)), ((hm 30), .inl (cy 1, 8, .inl c_h_2)), ((hm 33), .inl (cy 1, 64, .inl c_message)), ((hm 29), .inl (cy 1, 192, .inl c_streamBlock)), ((hm 28), .inl (cy 1, 24, .inl c_streamHash_3)), ((hm 27), .inl (cy 2, 3, .inr (.inl c_taken)))]) → va_S A s.heap H locs → lv_has ls 4 [(0, .ref h0), (1, .int p1), (2, .int p2), (3, .int i_1)] → GW H locs (F0 m 2 ls [])) hf ?_ H locs ls hP hD hS (lv_sub hl [1, 2, 3, 0] rfl))
  clear hf hl hP hD hS
  intro self_24 ihself_24 z hf
  obtain ⟨i_1, c_h_2, c_streamHash_3⟩ := z
  intro H locs ls hP hD hS hl
  refine hFr _ _ _ ?_
  unfold b_X10_swap_2 at hf
  refine lv_iload_n (pc := 2) hx hb (zdt_at zt_X10_swap_0 2 rfl) rfl (lv_at hl 3 rfl) ?_
  refine lv_bipush (pc := 3) (v := (8 : Int32)) hx hb (zdt_at zt_X10_swap_0 3 rfl) (by decide) ?_
  refine lv_icmp_ge (pc := 5) (tgt := 55) hx hb (zdt_at zt_X10_swap_0 4 rfl) (by decide) (fun cn_ => ?t_25) (fun cn_ => ?f_26)
  case t_25 =>
    replace hf := zt_s cn_ hf
    clear cn_
    exact hTo _ _ _ (kK_6 _ _ H locs ls hP hD hS (lv_sub hl [0, 1, 2] rfl) hf)
  replace hf := ze_s cn_ hf
  clear cn_
  refine lv_iload_n (pc := 8) hx hb (zdt_at zt_X10_swap_0 5 rfl) rfl (lv_at hl 2 rfl) ?_
  refine lv_if_eq (pc := 9) (tgt := 32) hx hb (zdt_at zt_X10_swap_0 6 rfl) (by decide) (fun cn_ => ?t_27) (fun cn_ => ?f_28)
  case t_27 =>
    replace hf := zt_s cn_ hf
    clear cn_
    refine lv_aload_n (pc := 32) hx hb (zdt_at zt_X10_swap_0 20 rfl) rfl (lv_at hl 0 rfl) ?_
    refine va_get (pc := 33) (D := D) (ci := 12) (v := .ref (hm 30)) (C := RX10) (T := TX10) (N := 52) hx hb hts hcX10 hown hK hP 0 rfl rfl 30 (by decide) hw4 (fun _ h9 => h9) rfl (zdt_at zt_X10_swap_0 21 rfl) ?_
    refine lv_iload_n (pc := 36) hx hb (zdt_at zt_X10_swap_0 22 rfl) rfl (lv_at hl 3 rfl) ?_
    refine lv_aload_n (pc := 37) hx hb (zdt_at zt_X10_swap_0 23 rfl) rfl (lv_at hl 0 rfl) ?_
    refine va_get (pc := 38) (D := D) (ci := 12) (v := .ref (hm 28)) (C := RX10) (T := TX10) (N := 52) hx hb hts hcX10 hown hK hP 0 rfl rfl 28 (by decide) hw5 (fun _ h9 => h9) rfl (zdt_at zt_X10_swap_0 24 rfl) ?_
    refine lv_bipush (pc := 41) (v := (8 : Int32)) hx hb (zdt_at zt_X10_swap_0 25 rfl) (by decide) ?_
    refine lv_iload_n (pc := 43) hx hb (zdt_at zt_X10_swap_0 26 rfl) rfl (lv_at hl 1 rfl) ?_
    refine lv_imul (pc := 44) hx hb (zdt_at zt_X10_swap_0 27 rfl) ?_
    refine lv_iload_n (pc := 45) hx hb (zdt_at zt_X10_swap_0 28 rfl) rfl (lv_at hl 3 rfl) ?_
    refine lv_iadd (pc := 46) hx hb (zdt_at zt_X10_swap_0 29 rfl) ?_
    replace hf := zk_s hf
    refine va_iald (pc := 47) hx hb hK hP 4 1 rfl rfl hf.1 (zdt_at zt_X10_swap_0 30 rfl) ?_
    replace hf := hf.2
    replace hf := zk_s hf
    refine va_iast (pc := 48) hx hb hK hP hD hS 1 1 rfl rfl hf.1 (zdt_at zt_X10_swap_0 31 rfl) ?_
    replace hf := hf.2
    clear hP hD hS
    intro H locs hP hD hS
    obtain ⟨c_h_29, e_⟩ : ∃ q : Nat → Int32, q = (upd c_h_2 i_1.toNatClampNeg (c_streamHash_3 (((8 : Int32) * p1) + i_1).toNatClampNeg)) := ⟨_, rfl⟩
    replace hf := zn_s hf e_
    replace hP : va_P D vwCl ([(h0, .inr (12, zmo hm c_thrown c_state c_test c_words c_ill c_before c_inRow c_first c_inWindow c_same c_made c_requests c_total c_secrets c_rounds c_high c_low c_keyHigh c_keyLow)), ((hm 30), .inl (cy 1, 8, .inl c_h_29)), ((hm 33), .inl (cy 1, 64, .inl c_message)), ((hm 29), .inl (cy 1, 192, .inl c_streamBlock)), ((hm 28), .inl (cy 1, 24, .inl c_streamHash_3)), ((hm 27), .inl (cy 2, 3, .inr (.inl c_taken)))]) H := by rw [e_]; exact hP
    replace hD : va_D A ([(h0, .inr (12, zmo hm c_thrown c_state c_test c_words c_ill c_before c_inRow c_first c_inWindow c_same c_made c_requests c_total c_secrets c_rounds c_high c_low c_keyHigh c_keyLow)), ((hm 30), .inl (cy 1, 8, .inl c_h_29)), ((hm 33), .inl (cy 1, 64, .inl c_message)), ((hm 29), .inl (cy 1, 192, .inl c_streamBlock)), ((hm 28), .inl (cy 1, 24, .inl c_streamHash_3)), ((hm 27), .inl (cy 2, 3, .inr (.inl c_taken)))]) := by rw [e_]; exact hD
    clear e_
    refine lv_iinc (pc := 49) (v := (i_1 + (1 : Int32))) (lv' := [(3, .int (i_1 + (1 : Int32))), (0, .ref h0), (1, .int p1), (2, .int p2)]) hx hb (zdt_at zt_X10_swap_0 32 rfl) hl (k := 3) rfl rfl (by decide) rfl ?_
    clear hl
    intro ls hl
    refine lv_goto (pc := 52) (tgt := 2) hx hb (zdt_at zt_X10_swap_0 33 rfl) (by decide) ?_
    exact hTo _ _ _ (ihself_24 _ hf H locs ls hP hD hS (lv_sub hl [1, 2, 3, 0] rfl))
  replace hf := ze_s cn_ hf
  clear cn_
  refine lv_aload_n (pc := 12) hx hb (zdt_at zt_X10_swap_0 7 rfl) rfl (lv_at hl 0 rfl) ?_
  refine va_get (pc := 13) (D := D) (ci := 12) (v := .ref (hm 28)) (C := RX10) (T := TX10) (N := 52) hx hb hts hcX10 hown hK hP 0 rfl rfl 28 (by decide) hw5 (fun _ h9 => h9) rfl (zdt_at zt_X10_swap_0 8 rfl) ?_
  refine lv_bipush (pc := 16) (v := (8 : Int32)) hx hb (zdt_at zt_X10_swap_0 9 rfl) (by decide) ?_
  refine lv_iload_n (pc := 18) hx hb (zdt_at zt_X10_swap_0 10 rfl) rfl (lv_at hl 1 rfl) ?_
  refine lv_imul (pc := 19) hx hb (zdt_at zt_X10_swap_0 11 rfl) ?_
  refine lv_iload_n (pc := 20) hx hb (zdt_at zt_X10_swap_0 12 rfl) rfl (lv_at hl 3 rfl) ?_
  refine lv_iadd (pc := 21) hx hb (zdt_at zt_X10_swap_0 13 rfl) ?_
  refine lv_aload_n (pc := 22) hx hb (zdt_at zt_X10_swap_0 14 rfl) rfl (lv_at hl 0 rfl) ?_
  refine va_get (pc := 23) (D := D) (ci := 12) (v := .ref (hm 30)) (C := RX10) (T := TX10) (N := 52) hx hb hts hcX10 hown hK hP 0 rfl rfl 30 (by decide) hw4 (fun _ h9 => h9) rfl (zdt_at zt_X10_swap_0 15 rfl) ?_
  refine lv_iload_n (pc := 26) hx hb (zdt_at zt_X10_swap_0 16 rfl) rfl (lv_at hl 3 rfl) ?_
  replace hf := zk_s hf
  refine va_iald (pc := 27) hx hb hK hP 1 1 rfl rfl hf.1 (zdt_at zt_X10_swap_0 17 rfl) ?_
  replace hf := hf.2
  replace hf := zk_s hf
  refine va_iast (pc := 28) hx hb hK hP hD hS 4 1 rfl rfl hf.1 (zdt_at zt_X10_swap_0 18 rfl) ?_
  replace hf := hf.2
  clear hP hD hS
  intro H locs hP hD hS
  obtain ⟨c_streamHash_30, e_⟩ : ∃ q : Nat → Int32, q = (upd c_streamHash_3 (((8 : Int32) * p1) + i_1).toNatClampNeg (c_h_2 i_1.toNatClampNeg)) := ⟨_, rfl⟩
  replace hf := zn_s hf e_
  replace hP : va_P D vwCl ([(h0, .inr (12, zmo hm c_thrown c_state c_test c_words c_ill c_before c_inRow c_first c_inWindow c_same c_made c_requests c_total c_secrets c_rounds c_high c_low c_keyHigh c_keyLow)), ((hm 30), .inl (cy 1, 8, .inl c_h_2)), ((hm 33), .inl (cy 1, 64, .inl c_message)), ((hm 29), .inl (cy 1, 192, .inl c_streamBlock)), ((hm 28), .inl (cy 1, 24, .inl c_streamHash_30)), ((hm 27), .inl (cy 2, 3, .inr (.inl c_taken)))]) H := by rw [e_]; exact hP
  replace hD : va_D A ([(h0, .inr (12, zmo hm c_thrown c_state c_test c_words c_ill c_before c_inRow c_first c_inWindow c_same c_made c_requests c_total c_secrets c_rounds c_high c_low c_keyHigh c_keyLow)), ((hm 30), .inl (cy 1, 8, .inl c_h_2)), ((hm 33), .inl (cy 1, 64, .inl c_message)), ((hm 29), .inl (cy 1, 192, .inl c_streamBlock)), ((hm 28), .inl (cy 1, 24, .inl c_streamHash_30)), ((hm 27), .inl (cy 2, 3, .inr (.inl c_taken)))]) := by rw [e_]; exact hD
  clear e_
  refine lv_goto (pc := 29) (tgt := 49) hx hb (zdt_at zt_X10_swap_0 19 rfl) (by decide) ?_
  refine lv_iinc (pc := 49) (v := (i_1 + (1 : Int32))) (lv' := [(3, .int (i_1 + (1 : Int32))), (0, .ref h0), (1, .int p1), (2, .int p2)]) hx hb (zdt_at zt_X10_swap_0 32 rfl) hl (k := 3) rfl rfl (by decide) rfl ?_
  clear hl
  intro ls hl
  refine lv_goto (pc := 52) (tgt := 2) hx hb (zdt_at zt_X10_swap_0 33 rfl) (by decide) ?_
  exact hTo _ _ _ (ihself_24 _ hf H locs ls hP hD hS (lv_sub hl [1, 2, 3, 0] rfl))
set_option maxHeartbeats 4000000 in
set_option maxRecDepth 100000 in
theorem c_X10_beginMac (l : Launch) (D : va_G) (cy : Nat → ClassId) (tt : Nat → Nat) (sz : Nat) (h0 : Nat) (hm : Nat → Nat) (c_secrets : Int32) (c_total : Int64) (c_ROUND : Nat → Int32) (c_START : Nat → Int32) (c_h : Nat → Int32) (c_message : Nat → Int32) (c_secret : Nat → Int32) (c_w : Nat → Int32) (c_x : Nat → Int32) (c_thrown : Int32) (c_state : Int32) (c_test : Int32) (c_words : Int32) (c_ill : Int32) (c_before : Int32) (c_inRow : Int32) (c_first : Int32) (c_inWindow : Int32) (c_same : Int32) (c_made : Int32) (c_requests : Int32) (c_rounds : Int32) (c_high : Int64) (c_low : Int64) (c_keyHigh : Int64) (c_keyLow : Int64) (c_total' : Int64) (c_h' : Nat → Int32) (c_message' : Nat → Int32) (c_w' : Nat → Int32) (c_x' : Nat → Int32) (hf : f_X10_beginMac c_secrets c_total c_ROUND c_START c_h c_message c_secret c_w c_x = some (c_total', c_h', c_message', c_w', c_x')) : Met l yX10_beginMac wsX10_beginMac ({ frames := 3, cells := 0, slots := 0, locals := 66 }) (zPc D cy tt sz [.ref h0] ([(h0, .inr (12, zmo hm c_thrown c_state c_test c_words c_ill c_before c_inRow c_first c_inWindow c_same c_made c_requests c_total c_secrets c_rounds c_high c_low c_keyHigh c_keyLow)), ((hm 0), .inl (cy 1, 64, .inl c_ROUND)), ((hm 47), .inl (cy 1, 8, .inl c_START)), ((hm 30), .inl (cy 1, 8, .inl c_h)), ((hm 33), .inl (cy 1, 64, .inl c_message)), ((hm 37), .inl (cy 1, 64, .inl c_secret)), ((hm 31), .inl (cy 1, 64, .inl c_w)), ((hm 32), .inl (cy 1, 8, .inl c_x))])) (zQ D none ([(h0, .inr (12, zmo hm c_thrown c_state c_test c_words c_ill c_before c_inRow c_first c_inWindow c_same c_made c_requests c_total' c_secrets c_rounds c_high c_low c_keyHigh c_keyLow)), ((hm 0), .inl (cy 1, 64, .inl c_ROUND)), ((hm 47), .inl (cy 1, 8, .inl c_START)), ((hm 30), .inl (cy 1, 8, .inl c_h')), ((hm 33), .inl (cy 1, 64, .inl c_message')), ((hm 37), .inl (cy 1, 64, .inl c_secret)), ((hm 31), .inl (cy 1, 64, .inl c_w')), ((hm 32), .inl (cy 1, 8, .inl c_x'))]) (va_A ([(h0, .inr (12, zmo hm c_thrown c_state c_test c_words c_ill c_before c_inRow c_first c_inWindow c_same c_made c_requests c_total c_secrets c_rounds c_high c_low c_keyHigh c_keyLow)), ((hm 0), .inl (cy 1, 64, .inl c_ROUND)), ((hm 47), .inl (cy 1, 8, .inl c_START)), ((hm 30), .inl (cy 1, 8, .inl c_h)), ((hm 33), .inl (cy 1, 64, .inl c_message)), ((hm 37), .inl (cy 1, 64, .inl c_secret)), ((hm 31), .inl (cy 1, 64, .inl c_w)), ((hm 32), .inl (cy 1, 8, .inl c_x))]) sz)) 0 0 (va_A ([(h0, .inr (12, zmo hm c_thrown c_state c_test c_words c_ill c_before c_inRow c_first c_inWindow c_same c_made c_requests c_total c_secrets c_rounds c_high c_low c_keyHigh c_keyLow)), ((hm 0), .inl (cy 1, 64, .inl c_ROUND)), ((hm 47), .inl (cy 1, 8, .inl c_START)), ((hm 30), .inl (cy 1, 8, .inl c_h)), ((hm 33), .inl (cy 1, 64, .inl c_message)), ((hm 37), .inl (cy 1, 64, .inl c_secret)), ((hm 31), .inl (cy 1, 64, .inl c_w)), ((hm 32), .inl (cy 1, 8, .inl c_x))]) sz) := by
  refine Met.ofW (cc := cX10_beginMac) (maxL := 2) (ret := none) (by decide) rfl ?_
  intro p e s m args below meth c s₁ B hml hv
  obtain ⟨rfl, rfl, hP, hD0, hE⟩ := hv
  have hx := B.exec
  have hb := B.bytes
  have hr := B.returns
  have hts := atoms_spec (ws := wsX10_beginMac) B.pre
  have hown : s.vm.findClass RX10 = some m.cls := findClass_of_methodNamed B.named
  have hlocks := B.notSynchronized
  clear B
  have hD := hD0.self (sz := s.heap.size)
  generalize hAe : va_A ([(h0, .inr (12, zmo hm c_thrown c_state c_test c_words c_ill c_before c_inRow c_first c_inWindow c_same c_made c_requests c_total c_secrets c_rounds c_high c_low c_keyHigh c_keyLow)), ((hm 0), .inl (cy 1, 64, .inl c_ROUND)), ((hm 47), .inl (cy 1, 8, .inl c_START)), ((hm 30), .inl (cy 1, 8, .inl c_h)), ((hm 33), .inl (cy 1, 64, .inl c_message)), ((hm 37), .inl (cy 1, 64, .inl c_secret)), ((hm 31), .inl (cy 1, 64, .inl c_w)), ((hm 32), .inl (cy 1, 8, .inl c_x))]) s.heap.size = A at hD hE ⊢
  have hA : ∀ q : Nat, s.heap.size ≤ q → A q := fun q h => by rw [← hAe]; exact Or.inr h
  clear hAe hD0
  have hS : va_S A s.heap s.heap [] := va_S.rf
  have hK := hE.1
  have hw0 := hts (.fieldLink RX10 236 "SealedModuleModel" "secrets" "I") (by decide +kernel)
  have hw1 := hts (.fieldLink RX10 150 "SealedModuleModel" "secret" "[I") (by decide +kernel)
  have hcX10 : ∀ w ∈ u_ws RX10 TX10 52, w ∈ wsX10_beginMac := (fun _ h => List.mem_cons_of_mem _ (List.mem_append_right _ h))
  have hl := lv_entry ([.ref h0]) (n := 2) (Nat.le_of_ble_eq_true rfl)
  rw [lg_entry_eq]
  generalize (lg_sl ([.ref h0]) ++ List.replicate (2 - (lg_sl ([.ref h0])).length) Slot.unset).toArray = ls at hl ⊢
  replace hl : lv_has ls 2 [(0, .ref h0)] := hl
  unfold f_X10_beginMac at hf
  refine zgo (fun GW hTo hFr => ?_)
  refine hFr _ _ _ ?_
  obtain ⟨H, hHe⟩ : ∃ H, H = s.heap := ⟨_, rfl⟩
  obtain ⟨locs, hLe⟩ : ∃ L : List Loc, L = [] := ⟨_, rfl⟩
  rw [← hHe] at hP
  replace hS : va_S A s.heap H locs := by rw [hHe, hLe]; exact hS
  refine zat hHe.symm hLe.symm ?_
  clear hHe hLe
  refine lv_aload_n (pc := 0) hx hb (zdt_at zt_X10_beginMac_0 0 rfl) rfl (lv_at hl 0 rfl) ?_
  replace hf := zb_s hf
  obtain ⟨⟨c_total_1, c_h_2⟩, hc_, hf⟩ := hf
  refine zcn2 (pc := 1) (rv := none) (va_runV (As := []) (rest := []) ⟨hx, hb, hml, hown, hts⟩ (c_X10_start l D cy tt H.size h0 hm c_total c_START c_h c_thrown c_state c_test c_words c_ill c_before c_inRow c_first c_inWindow c_same c_made c_requests c_secrets c_rounds c_high c_low c_keyHigh c_keyLow c_total_1 c_h_2 hc_) (cwV 0 hts gX10_beginMac_X10_start rfl rfl rfl (by decide +kernel) ⟨Nat.le_of_ble_eq_true rfl, Nat.le_of_ble_eq_true rfl⟩) ⟨zblind, va_recv hK hP (ci := 12) (q0 := 0) rfl rfl, zpre hE hS (hP.sub [0, 2, 3] rfl) (hD.sub [0, 2, 3] (by decide) rfl) (va_free hD hS hA [0, 2, 3] rfl)⟩ rfl rfl hl.1 rfl (lv_room (Nat.le_of_ble_eq_true rfl)) (zdt_at zt_X10_beginMac_0 1 rfl) ⟨Nat.zero_le _, Nat.zero_le _⟩) hS hP hD (va_free hD hS hA [0, 2, 3] rfl) [0, 2, 3] rfl (by decide) rfl ?_
  clear hP hD hS hc_
  intro H locs hP hD hS
  replace hP : va_P D vwCl ([(h0, .inr (12, zmo hm c_thrown c_state c_test c_words c_ill c_before c_inRow c_first c_inWindow c_same c_made c_requests c_total_1 c_secrets c_rounds c_high c_low c_keyHigh c_keyLow)), ((hm 0), .inl (cy 1, 64, .inl c_ROUND)), ((hm 47), .inl (cy 1, 8, .inl c_START)), ((hm 30), .inl (cy 1, 8, .inl c_h_2)), ((hm 33), .inl (cy 1, 64, .inl c_message)), ((hm 37), .inl (cy 1, 64, .inl c_secret)), ((hm 31), .inl (cy 1, 64, .inl c_w)), ((hm 32), .inl (cy 1, 8, .inl c_x))]) H := hP
  replace hD : va_D A ([(h0, .inr (12, zmo hm c_thrown c_state c_test c_words c_ill c_before c_inRow c_first c_inWindow c_same c_made c_requests c_total_1 c_secrets c_rounds c_high c_low c_keyHigh c_keyLow)), ((hm 0), .inl (cy 1, 64, .inl c_ROUND)), ((hm 47), .inl (cy 1, 8, .inl c_START)), ((hm 30), .inl (cy 1, 8, .inl c_h_2)), ((hm 33), .inl (cy 1, 64, .inl c_message)), ((hm 37), .inl (cy 1, 64, .inl c_secret)), ((hm 31), .inl (cy 1, 64, .inl c_w)), ((hm 32), .inl (cy 1, 8, .inl c_x))]) := hD
  refine W.eq (g2 := F0 m 4 ls []) rfl ?_
  refine lv_iconst (pc := 4) (v := (0 : Int32)) hx hb (zdt_at zt_X10_beginMac_0 2 rfl) (by decide) ?_
  refine lv_istore_n (pc := 5) (lv' := [(1, .int (0 : Int32)), (0, .ref h0)]) hx hb (zdt_at zt_X10_beginMac_0 3 rfl) rfl hl (by decide) rfl ?_
  clear hl
  intro ls hl
  replace hf := zj_s hf
  obtain ⟨K_14, eK_14, hf⟩ := hf
  have kK_14 : ∀ (c_h_9 : Nat → Int32) (c_message_10 : Nat → Int32) (c_total_11 : Int64) (c_w_12 : Nat → Int32) (c_x_13 : Nat → Int32) (H : Heap) (locs : List Loc) (ls : Array Slot), va_P D vwCl ([(h0, .inr (12, zmo hm c_thrown c_state c_test c_words c_ill c_before c_inRow c_first c_inWindow c_same c_made c_requests c_total_11 c_secrets c_rounds c_high c_low c_keyHigh c_keyLow)), ((hm 0), .inl (cy 1, 64, .inl c_ROUND)), ((hm 47), .inl (cy 1, 8, .inl c_START)), ((hm 30), .inl (cy 1, 8, .inl c_h_9)), ((hm 33), .inl (cy 1, 64, .inl c_message_10)), ((hm 37), .inl (cy 1, 64, .inl c_secret)), ((hm 31), .inl (cy 1, 64, .inl c_w_12)), ((hm 32), .inl (cy 1, 8, .inl c_x_13))]) H → va_D A ([(h0, .inr (12, zmo hm c_thrown c_state c_test c_words c_ill c_before c_inRow c_first c_inWindow c_same c_made c_requests c_total_11 c_secrets c_rounds c_high c_low c_keyHigh c_keyLow)), ((hm 0), .inl (cy 1, 64, .inl c_ROUND)), ((hm 47), .inl (cy 1, 8, .inl c_START)), ((hm 30), .inl (cy 1, 8, .inl c_h_9)), ((hm 33), .inl (cy 1, 64, .inl c_message_10)), ((hm 37), .inl (cy 1, 64, .inl c_secret)), ((hm 31), .inl (cy 1, 64, .inl c_w_12)), ((hm 32), .inl (cy 1, 8, .inl c_x_13))]) → va_S A s.heap H locs → lv_has ls 2 [] → K_14 c_h_9 c_message_10 c_total_11 c_w_12 c_x_13 = some (c_total', c_h', c_message', c_w', c_x') → GW H locs (F0 m 43 ls []) := by
    clear hf hl hP hD hS
    intro c_h_9 c_message_10 c_total_11 c_w_12 c_x_13 H locs ls hP hD hS hl hf
    rw [eK_14] at hf
    clear eK_14
    refine hFr _ _ _ ?_
    cases hf
    exact W.vret (pc := 43) hx hb hr (fun t ht hW => ⟨rfl, ⟨by rw [ht]; exact hP, hD⟩, hS.F ht⟩) hS.2.2 (zdt_at zt_X10_beginMac_0 23 rfl)
  clear eK_14
  refine hTo _ _ _ (zl_go (fun z => match z with | (i_3, c_h_4, c_message_5, c_total_6, c_w_7, c_x_8) => ∀ (H : Heap) (locs : List Loc) (ls : Array Slot), va_P D vwCl ([(h0, .inr (12, zmo hm c_thrown c_state c_test c_words c_ill c_before c_inRow c_first c_inWindow c_same c_made c_requests c_total_6 c_secrets c_rounds c_high c_low c_keyHigh c_keyLow)), ((hm 0), .inl (cy 1, 64, .inl c_ROUND)), ((hm 47), .inl (cy 1, 8, .inl c_START)), ((hm 30), .inl (cy 1, 8, .inl c_h_4)), ((hm 33), .inl (cy 1, 64, .inl c_message_5)), ((hm 37), .inl (cy 1, 64, .inl c_secret)), ((hm 31), .inl (cy 1, 64, .inl c_w_7)), ((hm 32), .inl (cy 1, 8, .inl c_x_8))]) H → va_D A ([(h0, .inr (12, zmo hm c_thrown c_state c_test c_words c_ill c_before c_inRow c_first c_inWindow c_same c_made c_requests c_total_6 c_secrets c_rounds c_high c_low c_keyHigh c_keyLow)), ((hm 0), .inl (cy 1, 64, .inl c_ROUND)), ((hm 47), .inl (cy 1, 8, .inl c_START)), ((hm 30), .inl (cy 1, 8, .inl c_h_4)), ((hm 33), .inl (cy 1, 64, .inl c_message_5)), ((hm 37), .inl (cy 1, 64, .inl c_secret)), ((hm 31), .inl (cy 1, 64, .inl c_w_7)), ((hm 32), .inl (cy 1, 8, .inl c_x_8))]) → va_S A s.heap H locs → lv_has ls 2 [(0, .ref h0), (1, .int i_3)] → GW H locs (F0 m 6 ls [])) hf ?_ H locs ls hP hD hS (lv_sub hl [1, 0] rfl))
  clear hf hl hP hD hS
  intro self_15 ihself_15 z hf
  obtain ⟨i_3, c_h_4, c_message_5, c_total_6, c_w_7, c_x_8⟩ := z
  intro H locs ls hP hD hS hl
  refine hFr _ _ _ ?_
  unfold b_X10_beginMac_6 at hf
  refine lv_iload_n (pc := 6) hx hb (zdt_at zt_X10_beginMac_0 4 rfl) rfl (lv_at hl 1 rfl) ?_
  refine lv_bipush (pc := 7) (v := (64 : Int32)) hx hb (zdt_at zt_X10_beginMac_0 5 rfl) (by decide) ?_
  refine lv_icmp_ge (pc := 9) (tgt := 43) hx hb (zdt_at zt_X10_beginMac_0 6 rfl) (by decide) (fun cn_ => ?t_16) (fun cn_ => ?f_17)
  case t_16 =>
    replace hf := zt_s cn_ hf
    clear cn_
    exact hTo _ _ _ (kK_14 _ _ _ _ _ H locs ls hP hD hS (lv_sub hl [] rfl) hf)
  replace hf := ze_s cn_ hf
  clear cn_
  refine lv_aload_n (pc := 12) hx hb (zdt_at zt_X10_beginMac_0 7 rfl) rfl (lv_at hl 0 rfl) ?_
  refine lv_iload_n (pc := 13) hx hb (zdt_at zt_X10_beginMac_0 8 rfl) rfl (lv_at hl 1 rfl) ?_
  refine lv_aload_n (pc := 14) hx hb (zdt_at zt_X10_beginMac_0 9 rfl) rfl (lv_at hl 0 rfl) ?_
  refine va_get (pc := 15) (D := D) (ci := 12) (v := .int c_secrets) (C := RX10) (T := TX10) (N := 52) hx hb hts hcX10 hown hK hP 0 rfl rfl 38 (by decide) hw0 (fun _ h9 => h9) rfl (zdt_at zt_X10_beginMac_0 10 rfl) ?_
  refine lv_icmp_ge (pc := 18) (tgt := 30) hx hb (zdt_at zt_X10_beginMac_0 11 rfl) (by decide) (fun cn_ => ?t_18) (fun cn_ => ?f_19)
  case t_18 =>
    replace hf := zt_s cn_ hf
    clear cn_
    refine lv_iconst (pc := 30) (v := (0 : Int32)) hx hb (zdt_at zt_X10_beginMac_0 17 rfl) (by decide) ?_
    refine lv_bipush (pc := 31) (v := (54 : Int32)) hx hb (zdt_at zt_X10_beginMac_0 18 rfl) (by decide) ?_
    refine lv_ixor (pc := 33) hx hb (zdt_at zt_X10_beginMac_0 19 rfl) ?_
    replace hf := zb_s hf
    obtain ⟨⟨c_total_20, c_h_21, c_message_22, c_w_23, c_x_24⟩, hc_, hf⟩ := hf
    refine zcn2 (pc := 34) (rv := none) (va_runV (As := [.int ((0 : Int32) ^^^ (54 : Int32))]) (rest := []) ⟨hx, hb, hml, hown, hts⟩ (c_X10_say l D cy tt H.size h0 hm ((0 : Int32) ^^^ (54 : Int32)) c_total_6 c_ROUND c_h_4 c_message_5 c_w_7 c_x_8 c_thrown c_state c_test c_words c_ill c_before c_inRow c_first c_inWindow c_same c_made c_requests c_secrets c_rounds c_high c_low c_keyHigh c_keyLow c_total_20 c_h_21 c_message_22 c_w_23 c_x_24 hc_) (cwV 1 hts gX10_beginMac_X10_say rfl rfl rfl (by decide +kernel) ⟨Nat.le_of_ble_eq_true rfl, Nat.le_of_ble_eq_true rfl⟩) ⟨zblind, va_recv hK hP (ci := 12) (q0 := 0) rfl rfl, zpre hE hS (hP.sub [0, 1, 3, 4, 6, 7] rfl) (hD.sub [0, 1, 3, 4, 6, 7] (by decide) rfl) (va_free hD hS hA [0, 1, 3, 4, 6, 7] rfl)⟩ rfl rfl hl.1 rfl (lv_room (Nat.le_of_ble_eq_true rfl)) (zdt_at zt_X10_beginMac_0 20 rfl) ⟨Nat.zero_le _, Nat.zero_le _⟩) hS hP hD (va_free hD hS hA [0, 1, 3, 4, 6, 7] rfl) [0, 1, 3, 4, 6, 7] rfl (by decide) rfl ?_
    clear hP hD hS hc_
    intro H locs hP hD hS
    replace hP : va_P D vwCl ([(h0, .inr (12, zmo hm c_thrown c_state c_test c_words c_ill c_before c_inRow c_first c_inWindow c_same c_made c_requests c_total_20 c_secrets c_rounds c_high c_low c_keyHigh c_keyLow)), ((hm 0), .inl (cy 1, 64, .inl c_ROUND)), ((hm 47), .inl (cy 1, 8, .inl c_START)), ((hm 30), .inl (cy 1, 8, .inl c_h_21)), ((hm 33), .inl (cy 1, 64, .inl c_message_22)), ((hm 37), .inl (cy 1, 64, .inl c_secret)), ((hm 31), .inl (cy 1, 64, .inl c_w_23)), ((hm 32), .inl (cy 1, 8, .inl c_x_24))]) H := hP
    replace hD : va_D A ([(h0, .inr (12, zmo hm c_thrown c_state c_test c_words c_ill c_before c_inRow c_first c_inWindow c_same c_made c_requests c_total_20 c_secrets c_rounds c_high c_low c_keyHigh c_keyLow)), ((hm 0), .inl (cy 1, 64, .inl c_ROUND)), ((hm 47), .inl (cy 1, 8, .inl c_START)), ((hm 30), .inl (cy 1, 8, .inl c_h_21)), ((hm 33), .inl (cy 1, 64, .inl c_message_22)), ((hm 37), .inl (cy 1, 64, .inl c_secret)), ((hm 31), .inl (cy 1, 64, .inl c_w_23)), ((hm 32), .inl (cy 1, 8, .inl c_x_24))]) := hD
    refine W.eq (g2 := F0 m 37 ls []) rfl ?_
    refine lv_iinc (pc := 37) (v := (i_3 + (1 : Int32))) (lv' := [(1, .int (i_3 + (1 : Int32))), (0, .ref h0)]) hx hb (zdt_at zt_X10_beginMac_0 21 rfl) hl (k := 1) rfl rfl (by decide) rfl ?_
    clear hl
    intro ls hl
    refine lv_goto (pc := 40) (tgt := 6) hx hb (zdt_at zt_X10_beginMac_0 22 rfl) (by decide) ?_
    exact hTo _ _ _ (ihself_15 _ hf H locs ls hP hD hS (lv_sub hl [1, 0] rfl))
  replace hf := ze_s cn_ hf
  clear cn_
  refine lv_aload_n (pc := 21) hx hb (zdt_at zt_X10_beginMac_0 12 rfl) rfl (lv_at hl 0 rfl) ?_
  refine va_get (pc := 22) (D := D) (ci := 12) (v := .ref (hm 37)) (C := RX10) (T := TX10) (N := 52) hx hb hts hcX10 hown hK hP 0 rfl rfl 37 (by decide) hw1 (fun _ h9 => h9) rfl (zdt_at zt_X10_beginMac_0 13 rfl) ?_
  refine lv_iload_n (pc := 25) hx hb (zdt_at zt_X10_beginMac_0 14 rfl) rfl (lv_at hl 1 rfl) ?_
  replace hf := zk_s hf
  refine va_iald (pc := 26) hx hb hK hP 5 1 rfl rfl hf.1 (zdt_at zt_X10_beginMac_0 15 rfl) ?_
  replace hf := hf.2
  refine lv_goto (pc := 27) (tgt := 31) hx hb (zdt_at zt_X10_beginMac_0 16 rfl) (by decide) ?_
  refine lv_bipush (pc := 31) (v := (54 : Int32)) hx hb (zdt_at zt_X10_beginMac_0 18 rfl) (by decide) ?_
  refine lv_ixor (pc := 33) hx hb (zdt_at zt_X10_beginMac_0 19 rfl) ?_
  replace hf := zb_s hf
  obtain ⟨⟨c_total_25, c_h_26, c_message_27, c_w_28, c_x_29⟩, hc_, hf⟩ := hf
  refine zcn2 (pc := 34) (rv := none) (va_runV (As := [.int ((c_secret i_3.toNatClampNeg) ^^^ (54 : Int32))]) (rest := []) ⟨hx, hb, hml, hown, hts⟩ (c_X10_say l D cy tt H.size h0 hm ((c_secret i_3.toNatClampNeg) ^^^ (54 : Int32)) c_total_6 c_ROUND c_h_4 c_message_5 c_w_7 c_x_8 c_thrown c_state c_test c_words c_ill c_before c_inRow c_first c_inWindow c_same c_made c_requests c_secrets c_rounds c_high c_low c_keyHigh c_keyLow c_total_25 c_h_26 c_message_27 c_w_28 c_x_29 hc_) (cwV 1 hts gX10_beginMac_X10_say rfl rfl rfl (by decide +kernel) ⟨Nat.le_of_ble_eq_true rfl, Nat.le_of_ble_eq_true rfl⟩) ⟨zblind, va_recv hK hP (ci := 12) (q0 := 0) rfl rfl, zpre hE hS (hP.sub [0, 1, 3, 4, 6, 7] rfl) (hD.sub [0, 1, 3, 4, 6, 7] (by decide) rfl) (va_free hD hS hA [0, 1, 3, 4, 6, 7] rfl)⟩ rfl rfl hl.1 rfl (lv_room (Nat.le_of_ble_eq_true rfl)) (zdt_at zt_X10_beginMac_0 20 rfl) ⟨Nat.zero_le _, Nat.zero_le _⟩) hS hP hD (va_free hD hS hA [0, 1, 3, 4, 6, 7] rfl) [0, 1, 3, 4, 6, 7] rfl (by decide) rfl ?_
  clear hP hD hS hc_
  intro H locs hP hD hS
  replace hP : va_P D vwCl ([(h0, .inr (12, zmo hm c_thrown c_state c_test c_words c_ill c_before c_inRow c_first c_inWindow c_same c_made c_requests c_total_25 c_secrets c_rounds c_high c_low c_keyHigh c_keyLow)), ((hm 0), .inl (cy 1, 64, .inl c_ROUND)), ((hm 47), .inl (cy 1, 8, .inl c_START)), ((hm 30), .inl (cy 1, 8, .inl c_h_26)), ((hm 33), .inl (cy 1, 64, .inl c_message_27)), ((hm 37), .inl (cy 1, 64, .inl c_secret)), ((hm 31), .inl (cy 1, 64, .inl c_w_28)), ((hm 32), .inl (cy 1, 8, .inl c_x_29))]) H := hP
  replace hD : va_D A ([(h0, .inr (12, zmo hm c_thrown c_state c_test c_words c_ill c_before c_inRow c_first c_inWindow c_same c_made c_requests c_total_25 c_secrets c_rounds c_high c_low c_keyHigh c_keyLow)), ((hm 0), .inl (cy 1, 64, .inl c_ROUND)), ((hm 47), .inl (cy 1, 8, .inl c_START)), ((hm 30), .inl (cy 1, 8, .inl c_h_26)), ((hm 33), .inl (cy 1, 64, .inl c_message_27)), ((hm 37), .inl (cy 1, 64, .inl c_secret)), ((hm 31), .inl (cy 1, 64, .inl c_w_28)), ((hm 32), .inl (cy 1, 8, .inl c_x_29))]) := hD
  refine W.eq (g2 := F0 m 37 ls []) rfl ?_
  refine lv_iinc (pc := 37) (v := (i_3 + (1 : Int32))) (lv' := [(1, .int (i_3 + (1 : Int32))), (0, .ref h0)]) hx hb (zdt_at zt_X10_beginMac_0 21 rfl) hl (k := 1) rfl rfl (by decide) rfl ?_
  clear hl
  intro ls hl
  refine lv_goto (pc := 40) (tgt := 6) hx hb (zdt_at zt_X10_beginMac_0 22 rfl) (by decide) ?_
  exact hTo _ _ _ (ihself_15 _ hf H locs ls hP hD hS (lv_sub hl [1, 0] rfl))
set_option maxHeartbeats 4000000 in
set_option maxRecDepth 100000 in
theorem c_X10_endMac (l : Launch) (D : va_G) (cy : Nat → ClassId) (tt : Nat → Nat) (sz : Nat) (h0 : Nat) (hm : Nat → Nat) (c_secrets : Int32) (c_total : Int64) (c_ROUND : Nat → Int32) (c_START : Nat → Int32) (c_digest : Nat → Int32) (c_h : Nat → Int32) (c_inner : Nat → Int32) (c_message : Nat → Int32) (c_secret : Nat → Int32) (c_w : Nat → Int32) (c_x : Nat → Int32) (c_thrown : Int32) (c_state : Int32) (c_test : Int32) (c_words : Int32) (c_ill : Int32) (c_before : Int32) (c_inRow : Int32) (c_first : Int32) (c_inWindow : Int32) (c_same : Int32) (c_made : Int32) (c_requests : Int32) (c_rounds : Int32) (c_high : Int64) (c_low : Int64) (c_keyHigh : Int64) (c_keyLow : Int64) (c_total' : Int64) (c_digest' : Nat → Int32) (c_h' : Nat → Int32) (c_inner' : Nat → Int32) (c_message' : Nat → Int32) (c_w' : Nat → Int32) (c_x' : Nat → Int32) (hf : f_X10_endMac c_secrets c_total c_ROUND c_START c_digest c_h c_inner c_message c_secret c_w c_x = some (c_total', c_digest', c_h', c_inner', c_message', c_w', c_x')) : Met l yX10_endMac wsX10_endMac ({ frames := 4, cells := 0, slots := 0, locals := 89 }) (zPc D cy tt sz [.ref h0] ([(h0, .inr (12, zmo hm c_thrown c_state c_test c_words c_ill c_before c_inRow c_first c_inWindow c_same c_made c_requests c_total c_secrets c_rounds c_high c_low c_keyHigh c_keyLow)), ((hm 0), .inl (cy 1, 64, .inl c_ROUND)), ((hm 47), .inl (cy 1, 8, .inl c_START)), ((hm 35), .inl (cy 1, 32, .inl c_digest)), ((hm 30), .inl (cy 1, 8, .inl c_h)), ((hm 36), .inl (cy 1, 32, .inl c_inner)), ((hm 33), .inl (cy 1, 64, .inl c_message)), ((hm 37), .inl (cy 1, 64, .inl c_secret)), ((hm 31), .inl (cy 1, 64, .inl c_w)), ((hm 32), .inl (cy 1, 8, .inl c_x))])) (zQ D none ([(h0, .inr (12, zmo hm c_thrown c_state c_test c_words c_ill c_before c_inRow c_first c_inWindow c_same c_made c_requests c_total' c_secrets c_rounds c_high c_low c_keyHigh c_keyLow)), ((hm 0), .inl (cy 1, 64, .inl c_ROUND)), ((hm 47), .inl (cy 1, 8, .inl c_START)), ((hm 35), .inl (cy 1, 32, .inl c_digest')), ((hm 30), .inl (cy 1, 8, .inl c_h')), ((hm 36), .inl (cy 1, 32, .inl c_inner')), ((hm 33), .inl (cy 1, 64, .inl c_message')), ((hm 37), .inl (cy 1, 64, .inl c_secret)), ((hm 31), .inl (cy 1, 64, .inl c_w')), ((hm 32), .inl (cy 1, 8, .inl c_x'))]) (va_A ([(h0, .inr (12, zmo hm c_thrown c_state c_test c_words c_ill c_before c_inRow c_first c_inWindow c_same c_made c_requests c_total c_secrets c_rounds c_high c_low c_keyHigh c_keyLow)), ((hm 0), .inl (cy 1, 64, .inl c_ROUND)), ((hm 47), .inl (cy 1, 8, .inl c_START)), ((hm 35), .inl (cy 1, 32, .inl c_digest)), ((hm 30), .inl (cy 1, 8, .inl c_h)), ((hm 36), .inl (cy 1, 32, .inl c_inner)), ((hm 33), .inl (cy 1, 64, .inl c_message)), ((hm 37), .inl (cy 1, 64, .inl c_secret)), ((hm 31), .inl (cy 1, 64, .inl c_w)), ((hm 32), .inl (cy 1, 8, .inl c_x))]) sz)) 0 0 (va_A ([(h0, .inr (12, zmo hm c_thrown c_state c_test c_words c_ill c_before c_inRow c_first c_inWindow c_same c_made c_requests c_total c_secrets c_rounds c_high c_low c_keyHigh c_keyLow)), ((hm 0), .inl (cy 1, 64, .inl c_ROUND)), ((hm 47), .inl (cy 1, 8, .inl c_START)), ((hm 35), .inl (cy 1, 32, .inl c_digest)), ((hm 30), .inl (cy 1, 8, .inl c_h)), ((hm 36), .inl (cy 1, 32, .inl c_inner)), ((hm 33), .inl (cy 1, 64, .inl c_message)), ((hm 37), .inl (cy 1, 64, .inl c_secret)), ((hm 31), .inl (cy 1, 64, .inl c_w)), ((hm 32), .inl (cy 1, 8, .inl c_x))]) sz) := by
  refine Met.ofW (cc := cX10_endMac) (maxL := 2) (ret := none) (by decide) rfl ?_
  intro p e s m args below meth c s₁ B hml hv
  obtain ⟨rfl, rfl, hP, hD0, hE⟩ := hv
  have hx := B.exec
  have hb := B.bytes
  have hr := B.returns
  have hts := atoms_spec (ws := wsX10_endMac) B.pre
  have hown : s.vm.findClass RX10 = some m.cls := findClass_of_methodNamed B.named
  have hlocks := B.notSynchronized
  clear B
  have hD := hD0.self (sz := s.heap.size)
  generalize hAe : va_A ([(h0, .inr (12, zmo hm c_thrown c_state c_test c_words c_ill c_before c_inRow c_first c_inWindow c_same c_made c_requests c_total c_secrets c_rounds c_high c_low c_keyHigh c_keyLow)), ((hm 0), .inl (cy 1, 64, .inl c_ROUND)), ((hm 47), .inl (cy 1, 8, .inl c_START)), ((hm 35), .inl (cy 1, 32, .inl c_digest)), ((hm 30), .inl (cy 1, 8, .inl c_h)), ((hm 36), .inl (cy 1, 32, .inl c_inner)), ((hm 33), .inl (cy 1, 64, .inl c_message)), ((hm 37), .inl (cy 1, 64, .inl c_secret)), ((hm 31), .inl (cy 1, 64, .inl c_w)), ((hm 32), .inl (cy 1, 8, .inl c_x))]) s.heap.size = A at hD hE ⊢
  have hA : ∀ q : Nat, s.heap.size ≤ q → A q := fun q h => by rw [← hAe]; exact Or.inr h
  clear hAe hD0
  have hS : va_S A s.heap s.heap [] := va_S.rf
  have hK := hE.1
  have hw0 := hts (.fieldLink RX10 147 "SealedModuleModel" "inner" "[I") (by decide +kernel)
  have hw1 := hts (.fieldLink RX10 236 "SealedModuleModel" "secrets" "I") (by decide +kernel)
  have hw2 := hts (.fieldLink RX10 150 "SealedModuleModel" "secret" "[I") (by decide +kernel)
  have hw3 := hts (.fieldLink RX10 144 "SealedModuleModel" "digest" "[I") (by decide +kernel)
  have hcX10 : ∀ w ∈ u_ws RX10 TX10 52, w ∈ wsX10_endMac := (fun _ h => List.mem_cons_of_mem _ (List.mem_append_right _ h))
  have hl := lv_entry ([.ref h0]) (n := 2) (Nat.le_of_ble_eq_true rfl)
  rw [lg_entry_eq]
  generalize (lg_sl ([.ref h0]) ++ List.replicate (2 - (lg_sl ([.ref h0])).length) Slot.unset).toArray = ls at hl ⊢
  replace hl : lv_has ls 2 [(0, .ref h0)] := hl
  unfold f_X10_endMac at hf
  refine zgo (fun GW hTo hFr => ?_)
  refine hFr _ _ _ ?_
  obtain ⟨H, hHe⟩ : ∃ H, H = s.heap := ⟨_, rfl⟩
  obtain ⟨locs, hLe⟩ : ∃ L : List Loc, L = [] := ⟨_, rfl⟩
  rw [← hHe] at hP
  replace hS : va_S A s.heap H locs := by rw [hHe, hLe]; exact hS
  refine zat hHe.symm hLe.symm ?_
  clear hHe hLe
  refine lv_aload_n (pc := 0) hx hb (zdt_at zt_X10_endMac_0 0 rfl) rfl (lv_at hl 0 rfl) ?_
  replace hf := zb_s hf
  obtain ⟨⟨c_total_1, c_digest_2, c_h_3, c_message_4, c_w_5, c_x_6⟩, hc_, hf⟩ := hf
  refine zcn2 (pc := 1) (rv := none) (va_runV (As := []) (rest := []) ⟨hx, hb, hml, hown, hts⟩ (c_X10_finish l D cy tt H.size h0 hm c_total c_ROUND c_digest c_h c_message c_w c_x c_thrown c_state c_test c_words c_ill c_before c_inRow c_first c_inWindow c_same c_made c_requests c_secrets c_rounds c_high c_low c_keyHigh c_keyLow c_total_1 c_digest_2 c_h_3 c_message_4 c_w_5 c_x_6 hc_) (cwV 0 hts gX10_endMac_X10_finish rfl rfl rfl (by decide +kernel) ⟨Nat.le_of_ble_eq_true rfl, Nat.le_of_ble_eq_true rfl⟩) ⟨zblind, va_recv hK hP (ci := 12) (q0 := 0) rfl rfl, zpre hE hS (hP.sub [0, 1, 3, 4, 6, 8, 9] rfl) (hD.sub [0, 1, 3, 4, 6, 8, 9] (by decide) rfl) (va_free hD hS hA [0, 1, 3, 4, 6, 8, 9] rfl)⟩ rfl rfl hl.1 rfl (lv_room (Nat.le_of_ble_eq_true rfl)) (zdt_at zt_X10_endMac_0 1 rfl) ⟨Nat.zero_le _, Nat.zero_le _⟩) hS hP hD (va_free hD hS hA [0, 1, 3, 4, 6, 8, 9] rfl) [0, 1, 3, 4, 6, 8, 9] rfl (by decide) rfl ?_
  clear hP hD hS hc_
  intro H locs hP hD hS
  replace hP : va_P D vwCl ([(h0, .inr (12, zmo hm c_thrown c_state c_test c_words c_ill c_before c_inRow c_first c_inWindow c_same c_made c_requests c_total_1 c_secrets c_rounds c_high c_low c_keyHigh c_keyLow)), ((hm 0), .inl (cy 1, 64, .inl c_ROUND)), ((hm 47), .inl (cy 1, 8, .inl c_START)), ((hm 35), .inl (cy 1, 32, .inl c_digest_2)), ((hm 30), .inl (cy 1, 8, .inl c_h_3)), ((hm 36), .inl (cy 1, 32, .inl c_inner)), ((hm 33), .inl (cy 1, 64, .inl c_message_4)), ((hm 37), .inl (cy 1, 64, .inl c_secret)), ((hm 31), .inl (cy 1, 64, .inl c_w_5)), ((hm 32), .inl (cy 1, 8, .inl c_x_6))]) H := hP
  replace hD : va_D A ([(h0, .inr (12, zmo hm c_thrown c_state c_test c_words c_ill c_before c_inRow c_first c_inWindow c_same c_made c_requests c_total_1 c_secrets c_rounds c_high c_low c_keyHigh c_keyLow)), ((hm 0), .inl (cy 1, 64, .inl c_ROUND)), ((hm 47), .inl (cy 1, 8, .inl c_START)), ((hm 35), .inl (cy 1, 32, .inl c_digest_2)), ((hm 30), .inl (cy 1, 8, .inl c_h_3)), ((hm 36), .inl (cy 1, 32, .inl c_inner)), ((hm 33), .inl (cy 1, 64, .inl c_message_4)), ((hm 37), .inl (cy 1, 64, .inl c_secret)), ((hm 31), .inl (cy 1, 64, .inl c_w_5)), ((hm 32), .inl (cy 1, 8, .inl c_x_6))]) := hD
  refine W.eq (g2 := F0 m 4 ls []) rfl ?_
  refine lv_iconst (pc := 4) (v := (0 : Int32)) hx hb (zdt_at zt_X10_endMac_0 2 rfl) (by decide) ?_
  refine lv_istore_n (pc := 5) (lv' := [(1, .int (0 : Int32)), (0, .ref h0)]) hx hb (zdt_at zt_X10_endMac_0 3 rfl) rfl hl (by decide) rfl ?_
  clear hl
  intro ls hl
  replace hf := zj_s hf
  obtain ⟨K_10, eK_10, hf⟩ := hf
  have kK_10 : ∀ (c_inner_9 : Nat → Int32) (H : Heap) (locs : List Loc) (ls : Array Slot), va_P D vwCl ([(h0, .inr (12, zmo hm c_thrown c_state c_test c_words c_ill c_before c_inRow c_first c_inWindow c_same c_made c_requests c_total_1 c_secrets c_rounds c_high c_low c_keyHigh c_keyLow)), ((hm 0), .inl (cy 1, 64, .inl c_ROUND)), ((hm 47), .inl (cy 1, 8, .inl c_START)), ((hm 35), .inl (cy 1, 32, .inl c_digest_2)), ((hm 30), .inl (cy 1, 8, .inl c_h_3)), ((hm 36), .inl (cy 1, 32, .inl c_inner_9)), ((hm 33), .inl (cy 1, 64, .inl c_message_4)), ((hm 37), .inl (cy 1, 64, .inl c_secret)), ((hm 31), .inl (cy 1, 64, .inl c_w_5)), ((hm 32), .inl (cy 1, 8, .inl c_x_6))]) H → va_D A ([(h0, .inr (12, zmo hm c_thrown c_state c_test c_words c_ill c_before c_inRow c_first c_inWindow c_same c_made c_requests c_total_1 c_secrets c_rounds c_high c_low c_keyHigh c_keyLow)), ((hm 0), .inl (cy 1, 64, .inl c_ROUND)), ((hm 47), .inl (cy 1, 8, .inl c_START)), ((hm 35), .inl (cy 1, 32, .inl c_digest_2)), ((hm 30), .inl (cy 1, 8, .inl c_h_3)), ((hm 36), .inl (cy 1, 32, .inl c_inner_9)), ((hm 33), .inl (cy 1, 64, .inl c_message_4)), ((hm 37), .inl (cy 1, 64, .inl c_secret)), ((hm 31), .inl (cy 1, 64, .inl c_w_5)), ((hm 32), .inl (cy 1, 8, .inl c_x_6))]) → va_S A s.heap H locs → lv_has ls 2 [(0, .ref h0)] → K_10 c_inner_9 = some (c_total', c_digest', c_h', c_inner', c_message', c_w', c_x') → GW H locs (F0 m 30 ls []) := by
    clear hf hl hP hD hS
    intro c_inner_9 H locs ls hP hD hS hl hf
    rw [eK_10] at hf
    clear eK_10
    refine hFr _ _ _ ?_
    refine lv_aload_n (pc := 30) hx hb (zdt_at zt_X10_endMac_0 17 rfl) rfl (lv_at hl 0 rfl) ?_
    replace hf := zb_s hf
    obtain ⟨⟨c_total_11, c_h_12⟩, hc_, hf⟩ := hf
    refine zcn2 (pc := 31) (rv := none) (va_runV (As := []) (rest := []) ⟨hx, hb, hml, hown, hts⟩ (c_X10_start l D cy tt H.size h0 hm c_total_1 c_START c_h_3 c_thrown c_state c_test c_words c_ill c_before c_inRow c_first c_inWindow c_same c_made c_requests c_secrets c_rounds c_high c_low c_keyHigh c_keyLow c_total_11 c_h_12 hc_) (cwV 0 hts gX10_endMac_X10_start rfl rfl rfl (by decide +kernel) ⟨Nat.le_of_ble_eq_true rfl, Nat.le_of_ble_eq_true rfl⟩) ⟨zblind, va_recv hK hP (ci := 12) (q0 := 0) rfl rfl, zpre hE hS (hP.sub [0, 2, 4] rfl) (hD.sub [0, 2, 4] (by decide) rfl) (va_free hD hS hA [0, 2, 4] rfl)⟩ rfl rfl hl.1 rfl (lv_room (Nat.le_of_ble_eq_true rfl)) (zdt_at zt_X10_endMac_0 18 rfl) ⟨Nat.zero_le _, Nat.zero_le _⟩) hS hP hD (va_free hD hS hA [0, 2, 4] rfl) [0, 2, 4] rfl (by decide) rfl ?_
    clear hP hD hS hc_
    intro H locs hP hD hS
    replace hP : va_P D vwCl ([(h0, .inr (12, zmo hm c_thrown c_state c_test c_words c_ill c_before c_inRow c_first c_inWindow c_same c_made c_requests c_total_11 c_secrets c_rounds c_high c_low c_keyHigh c_keyLow)), ((hm 0), .inl (cy 1, 64, .inl c_ROUND)), ((hm 47), .inl (cy 1, 8, .inl c_START)), ((hm 35), .inl (cy 1, 32, .inl c_digest_2)), ((hm 30), .inl (cy 1, 8, .inl c_h_12)), ((hm 36), .inl (cy 1, 32, .inl c_inner_9)), ((hm 33), .inl (cy 1, 64, .inl c_message_4)), ((hm 37), .inl (cy 1, 64, .inl c_secret)), ((hm 31), .inl (cy 1, 64, .inl c_w_5)), ((hm 32), .inl (cy 1, 8, .inl c_x_6))]) H := hP
    replace hD : va_D A ([(h0, .inr (12, zmo hm c_thrown c_state c_test c_words c_ill c_before c_inRow c_first c_inWindow c_same c_made c_requests c_total_11 c_secrets c_rounds c_high c_low c_keyHigh c_keyLow)), ((hm 0), .inl (cy 1, 64, .inl c_ROUND)), ((hm 47), .inl (cy 1, 8, .inl c_START)), ((hm 35), .inl (cy 1, 32, .inl c_digest_2)), ((hm 30), .inl (cy 1, 8, .inl c_h_12)), ((hm 36), .inl (cy 1, 32, .inl c_inner_9)), ((hm 33), .inl (cy 1, 64, .inl c_message_4)), ((hm 37), .inl (cy 1, 64, .inl c_secret)), ((hm 31), .inl (cy 1, 64, .inl c_w_5)), ((hm 32), .inl (cy 1, 8, .inl c_x_6))]) := hD
    refine W.eq (g2 := F0 m 34 ls []) rfl ?_
    refine lv_iconst (pc := 34) (v := (0 : Int32)) hx hb (zdt_at zt_X10_endMac_0 19 rfl) (by decide) ?_
    refine lv_istore_n (pc := 35) (lv' := [(1, .int (0 : Int32)), (0, .ref h0)]) hx hb (zdt_at zt_X10_endMac_0 20 rfl) rfl hl (by decide) rfl ?_
    clear hl
    intro ls hl
    replace hf := zj_s hf
    obtain ⟨K_24, eK_24, hf⟩ := hf
    have kK_24 : ∀ (c_h_19 : Nat → Int32) (c_message_20 : Nat → Int32) (c_total_21 : Int64) (c_w_22 : Nat → Int32) (c_x_23 : Nat → Int32) (H : Heap) (locs : List Loc) (ls : Array Slot), va_P D vwCl ([(h0, .inr (12, zmo hm c_thrown c_state c_test c_words c_ill c_before c_inRow c_first c_inWindow c_same c_made c_requests c_total_21 c_secrets c_rounds c_high c_low c_keyHigh c_keyLow)), ((hm 0), .inl (cy 1, 64, .inl c_ROUND)), ((hm 47), .inl (cy 1, 8, .inl c_START)), ((hm 35), .inl (cy 1, 32, .inl c_digest_2)), ((hm 30), .inl (cy 1, 8, .inl c_h_19)), ((hm 36), .inl (cy 1, 32, .inl c_inner_9)), ((hm 33), .inl (cy 1, 64, .inl c_message_20)), ((hm 37), .inl (cy 1, 64, .inl c_secret)), ((hm 31), .inl (cy 1, 64, .inl c_w_22)), ((hm 32), .inl (cy 1, 8, .inl c_x_23))]) H → va_D A ([(h0, .inr (12, zmo hm c_thrown c_state c_test c_words c_ill c_before c_inRow c_first c_inWindow c_same c_made c_requests c_total_21 c_secrets c_rounds c_high c_low c_keyHigh c_keyLow)), ((hm 0), .inl (cy 1, 64, .inl c_ROUND)), ((hm 47), .inl (cy 1, 8, .inl c_START)), ((hm 35), .inl (cy 1, 32, .inl c_digest_2)), ((hm 30), .inl (cy 1, 8, .inl c_h_19)), ((hm 36), .inl (cy 1, 32, .inl c_inner_9)), ((hm 33), .inl (cy 1, 64, .inl c_message_20)), ((hm 37), .inl (cy 1, 64, .inl c_secret)), ((hm 31), .inl (cy 1, 64, .inl c_w_22)), ((hm 32), .inl (cy 1, 8, .inl c_x_23))]) → va_S A s.heap H locs → lv_has ls 2 [(0, .ref h0)] → K_24 c_h_19 c_message_20 c_total_21 c_w_22 c_x_23 = some (c_total', c_digest', c_h', c_inner', c_message', c_w', c_x') → GW H locs (F0 m 73 ls []) := by
      clear hf hl hP hD hS
      intro c_h_19 c_message_20 c_total_21 c_w_22 c_x_23 H locs ls hP hD hS hl hf
      rw [eK_24] at hf
      clear eK_24
      refine hFr _ _ _ ?_
      refine lv_iconst (pc := 73) (v := (0 : Int32)) hx hb (zdt_at zt_X10_endMac_0 40 rfl) (by decide) ?_
      refine lv_istore_n (pc := 74) (lv' := [(1, .int (0 : Int32)), (0, .ref h0)]) hx hb (zdt_at zt_X10_endMac_0 41 rfl) rfl hl (by decide) rfl ?_
      clear hl
      intro ls hl
      replace hf := zj_s hf
      obtain ⟨K_36, eK_36, hf⟩ := hf
      have kK_36 : ∀ (c_h_31 : Nat → Int32) (c_message_32 : Nat → Int32) (c_total_33 : Int64) (c_w_34 : Nat → Int32) (c_x_35 : Nat → Int32) (H : Heap) (locs : List Loc) (ls : Array Slot), va_P D vwCl ([(h0, .inr (12, zmo hm c_thrown c_state c_test c_words c_ill c_before c_inRow c_first c_inWindow c_same c_made c_requests c_total_33 c_secrets c_rounds c_high c_low c_keyHigh c_keyLow)), ((hm 0), .inl (cy 1, 64, .inl c_ROUND)), ((hm 47), .inl (cy 1, 8, .inl c_START)), ((hm 35), .inl (cy 1, 32, .inl c_digest_2)), ((hm 30), .inl (cy 1, 8, .inl c_h_31)), ((hm 36), .inl (cy 1, 32, .inl c_inner_9)), ((hm 33), .inl (cy 1, 64, .inl c_message_32)), ((hm 37), .inl (cy 1, 64, .inl c_secret)), ((hm 31), .inl (cy 1, 64, .inl c_w_34)), ((hm 32), .inl (cy 1, 8, .inl c_x_35))]) H → va_D A ([(h0, .inr (12, zmo hm c_thrown c_state c_test c_words c_ill c_before c_inRow c_first c_inWindow c_same c_made c_requests c_total_33 c_secrets c_rounds c_high c_low c_keyHigh c_keyLow)), ((hm 0), .inl (cy 1, 64, .inl c_ROUND)), ((hm 47), .inl (cy 1, 8, .inl c_START)), ((hm 35), .inl (cy 1, 32, .inl c_digest_2)), ((hm 30), .inl (cy 1, 8, .inl c_h_31)), ((hm 36), .inl (cy 1, 32, .inl c_inner_9)), ((hm 33), .inl (cy 1, 64, .inl c_message_32)), ((hm 37), .inl (cy 1, 64, .inl c_secret)), ((hm 31), .inl (cy 1, 64, .inl c_w_34)), ((hm 32), .inl (cy 1, 8, .inl c_x_35))]) → va_S A s.heap H locs → lv_has ls 2 [(0, .ref h0)] → K_36 c_h_31 c_message_32 c_total_33 c_w_34 c_x_35 = some (c_total', c_digest', c_h', c_inner', c_message', c_w', c_x') → GW H locs (F0 m 97 ls []) := by
        clear hf hl hP hD hS
        intro c_h_31 c_message_32 c_total_33 c_w_34 c_x_35 H locs ls hP hD hS hl hf
        rw [eK_36] at hf
        clear eK_36
        refine hFr _ _ _ ?_
        refine lv_aload_n (pc := 97) hx hb (zdt_at zt_X10_endMac_0 53 rfl) rfl (lv_at hl 0 rfl) ?_
        replace hf := zb_s hf
        obtain ⟨⟨c_total_37, c_digest_38, c_h_39, c_message_40, c_w_41, c_x_42⟩, hc_, hf⟩ := hf
        refine zcn2 (pc := 98) (rv := none) (va_runV (As := []) (rest := []) ⟨hx, hb, hml, hown, hts⟩ (c_X10_finish l D cy tt H.size h0 hm c_total_33 c_ROUND c_digest_2 c_h_31 c_message_32 c_w_34 c_x_35 c_thrown c_state c_test c_words c_ill c_before c_inRow c_first c_inWindow c_same c_made c_requests c_secrets c_rounds c_high c_low c_keyHigh c_keyLow c_total_37 c_digest_38 c_h_39 c_message_40 c_w_41 c_x_42 hc_) (cwV 0 hts gX10_endMac_X10_finish rfl rfl rfl (by decide +kernel) ⟨Nat.le_of_ble_eq_true rfl, Nat.le_of_ble_eq_true rfl⟩) ⟨zblind, va_recv hK hP (ci := 12) (q0 := 0) rfl rfl, zpre hE hS (hP.sub [0, 1, 3, 4, 6, 8, 9] rfl) (hD.sub [0, 1, 3, 4, 6, 8, 9] (by decide) rfl) (va_free hD hS hA [0, 1, 3, 4, 6, 8, 9] rfl)⟩ rfl rfl hl.1 rfl (lv_room (Nat.le_of_ble_eq_true rfl)) (zdt_at zt_X10_endMac_0 54 rfl) ⟨Nat.zero_le _, Nat.zero_le _⟩) hS hP hD (va_free hD hS hA [0, 1, 3, 4, 6, 8, 9] rfl) [0, 1, 3, 4, 6, 8, 9] rfl (by decide) rfl ?_
        clear hP hD hS hc_
        intro H locs hP hD hS
        replace hP : va_P D vwCl ([(h0, .inr (12, zmo hm c_thrown c_state c_test c_words c_ill c_before c_inRow c_first c_inWindow c_same c_made c_requests c_total_37 c_secrets c_rounds c_high c_low c_keyHigh c_keyLow)), ((hm 0), .inl (cy 1, 64, .inl c_ROUND)), ((hm 47), .inl (cy 1, 8, .inl c_START)), ((hm 35), .inl (cy 1, 32, .inl c_digest_38)), ((hm 30), .inl (cy 1, 8, .inl c_h_39)), ((hm 36), .inl (cy 1, 32, .inl c_inner_9)), ((hm 33), .inl (cy 1, 64, .inl c_message_40)), ((hm 37), .inl (cy 1, 64, .inl c_secret)), ((hm 31), .inl (cy 1, 64, .inl c_w_41)), ((hm 32), .inl (cy 1, 8, .inl c_x_42))]) H := hP
        replace hD : va_D A ([(h0, .inr (12, zmo hm c_thrown c_state c_test c_words c_ill c_before c_inRow c_first c_inWindow c_same c_made c_requests c_total_37 c_secrets c_rounds c_high c_low c_keyHigh c_keyLow)), ((hm 0), .inl (cy 1, 64, .inl c_ROUND)), ((hm 47), .inl (cy 1, 8, .inl c_START)), ((hm 35), .inl (cy 1, 32, .inl c_digest_38)), ((hm 30), .inl (cy 1, 8, .inl c_h_39)), ((hm 36), .inl (cy 1, 32, .inl c_inner_9)), ((hm 33), .inl (cy 1, 64, .inl c_message_40)), ((hm 37), .inl (cy 1, 64, .inl c_secret)), ((hm 31), .inl (cy 1, 64, .inl c_w_41)), ((hm 32), .inl (cy 1, 8, .inl c_x_42))]) := hD
        refine W.eq (g2 := F0 m 101 ls []) rfl ?_
        cases hf
        exact W.vret (pc := 101) hx hb hr (fun t ht hW => ⟨rfl, ⟨by rw [ht]; exact hP, hD⟩, hS.F ht⟩) hS.2.2 (zdt_at zt_X10_endMac_0 55 rfl)
      clear eK_36
      refine hTo _ _ _ (zl_go (fun z => match z with | (i_25, c_h_26, c_message_27, c_total_28, c_w_29, c_x_30) => ∀ (H : Heap) (locs : List Loc) (ls : Array Slot), va_P D vwCl ([(h0, .inr (12, zmo hm c_thrown c_state c_test c_words c_ill c_before c_inRow c_first c_inWindow c_same c_made c_requests c_total_28 c_secrets c_rounds c_high c_low c_keyHigh c_keyLow)), ((hm 0), .inl (cy 1, 64, .inl c_ROUND)), ((hm 47), .inl (cy 1, 8, .inl c_START)), ((hm 35), .inl (cy 1, 32, .inl c_digest_2)), ((hm 30), .inl (cy 1, 8, .inl c_h_26)), ((hm 36), .inl (cy 1, 32, .inl c_inner_9)), ((hm 33), .inl (cy 1, 64, .inl c_message_27)), ((hm 37), .inl (cy 1, 64, .inl c_secret)), ((hm 31), .inl (cy 1, 64, .inl c_w_29)), ((hm 32), .inl (cy 1, 8, .inl c_x_30))]) H → va_D A ([(h0, .inr (12, zmo hm c_thrown c_state c_test c_words c_ill c_before c_inRow c_first c_inWindow c_same c_made c_requests c_total_28 c_secrets c_rounds c_high c_low c_keyHigh c_keyLow)), ((hm 0), .inl (cy 1, 64, .inl c_ROUND)), ((hm 47), .inl (cy 1, 8, .inl c_START)), ((hm 35), .inl (cy 1, 32, .inl c_digest_2)), ((hm 30), .inl (cy 1, 8, .inl c_h_26)), ((hm 36), .inl (cy 1, 32, .inl c_inner_9)), ((hm 33), .inl (cy 1, 64, .inl c_message_27)), ((hm 37), .inl (cy 1, 64, .inl c_secret)), ((hm 31), .inl (cy 1, 64, .inl c_w_29)), ((hm 32), .inl (cy 1, 8, .inl c_x_30))]) → va_S A s.heap H locs → lv_has ls 2 [(0, .ref h0), (1, .int i_25)] → GW H locs (F0 m 75 ls [])) hf ?_ H locs ls hP hD hS (lv_sub hl [1, 0] rfl))
      clear hf hl hP hD hS
      intro self_43 ihself_43 z hf
      obtain ⟨i_25, c_h_26, c_message_27, c_total_28, c_w_29, c_x_30⟩ := z
      intro H locs ls hP hD hS hl
      refine hFr _ _ _ ?_
      unfold b_X10_endMac_75 at hf
      refine lv_iload_n (pc := 75) hx hb (zdt_at zt_X10_endMac_0 42 rfl) rfl (lv_at hl 1 rfl) ?_
      refine lv_bipush (pc := 76) (v := (32 : Int32)) hx hb (zdt_at zt_X10_endMac_0 43 rfl) (by decide) ?_
      refine lv_icmp_ge (pc := 78) (tgt := 97) hx hb (zdt_at zt_X10_endMac_0 44 rfl) (by decide) (fun cn_ => ?t_44) (fun cn_ => ?f_45)
      case t_44 =>
        replace hf := zt_s cn_ hf
        clear cn_
        exact hTo _ _ _ (kK_36 _ _ _ _ _ H locs ls hP hD hS (lv_sub hl [0] rfl) hf)
      replace hf := ze_s cn_ hf
      clear cn_
      refine lv_aload_n (pc := 81) hx hb (zdt_at zt_X10_endMac_0 45 rfl) rfl (lv_at hl 0 rfl) ?_
      refine lv_aload_n (pc := 82) hx hb (zdt_at zt_X10_endMac_0 46 rfl) rfl (lv_at hl 0 rfl) ?_
      refine va_get (pc := 83) (D := D) (ci := 12) (v := .ref (hm 36)) (C := RX10) (T := TX10) (N := 52) hx hb hts hcX10 hown hK hP 0 rfl rfl 36 (by decide) hw0 (fun _ h9 => h9) rfl (zdt_at zt_X10_endMac_0 47 rfl) ?_
      refine lv_iload_n (pc := 86) hx hb (zdt_at zt_X10_endMac_0 48 rfl) rfl (lv_at hl 1 rfl) ?_
      replace hf := zk_s hf
      refine va_iald (pc := 87) hx hb hK hP 5 1 rfl rfl hf.1 (zdt_at zt_X10_endMac_0 49 rfl) ?_
      replace hf := hf.2
      replace hf := zb_s hf
      obtain ⟨⟨c_total_46, c_h_47, c_message_48, c_w_49, c_x_50⟩, hc_, hf⟩ := hf
      refine zcn2 (pc := 88) (rv := none) (va_runV (As := [.int (c_inner_9 i_25.toNatClampNeg)]) (rest := []) ⟨hx, hb, hml, hown, hts⟩ (c_X10_say l D cy tt H.size h0 hm (c_inner_9 i_25.toNatClampNeg) c_total_28 c_ROUND c_h_26 c_message_27 c_w_29 c_x_30 c_thrown c_state c_test c_words c_ill c_before c_inRow c_first c_inWindow c_same c_made c_requests c_secrets c_rounds c_high c_low c_keyHigh c_keyLow c_total_46 c_h_47 c_message_48 c_w_49 c_x_50 hc_) (cwV 1 hts gX10_endMac_X10_say rfl rfl rfl (by decide +kernel) ⟨Nat.le_of_ble_eq_true rfl, Nat.le_of_ble_eq_true rfl⟩) ⟨zblind, va_recv hK hP (ci := 12) (q0 := 0) rfl rfl, zpre hE hS (hP.sub [0, 1, 4, 6, 8, 9] rfl) (hD.sub [0, 1, 4, 6, 8, 9] (by decide) rfl) (va_free hD hS hA [0, 1, 4, 6, 8, 9] rfl)⟩ rfl rfl hl.1 rfl (lv_room (Nat.le_of_ble_eq_true rfl)) (zdt_at zt_X10_endMac_0 50 rfl) ⟨Nat.zero_le _, Nat.zero_le _⟩) hS hP hD (va_free hD hS hA [0, 1, 4, 6, 8, 9] rfl) [0, 1, 4, 6, 8, 9] rfl (by decide) rfl ?_
      clear hP hD hS hc_
      intro H locs hP hD hS
      replace hP : va_P D vwCl ([(h0, .inr (12, zmo hm c_thrown c_state c_test c_words c_ill c_before c_inRow c_first c_inWindow c_same c_made c_requests c_total_46 c_secrets c_rounds c_high c_low c_keyHigh c_keyLow)), ((hm 0), .inl (cy 1, 64, .inl c_ROUND)), ((hm 47), .inl (cy 1, 8, .inl c_START)), ((hm 35), .inl (cy 1, 32, .inl c_digest_2)), ((hm 30), .inl (cy 1, 8, .inl c_h_47)), ((hm 36), .inl (cy 1, 32, .inl c_inner_9)), ((hm 33), .inl (cy 1, 64, .inl c_message_48)), ((hm 37), .inl (cy 1, 64, .inl c_secret)), ((hm 31), .inl (cy 1, 64, .inl c_w_49)), ((hm 32), .inl (cy 1, 8, .inl c_x_50))]) H := hP
      replace hD : va_D A ([(h0, .inr (12, zmo hm c_thrown c_state c_test c_words c_ill c_before c_inRow c_first c_inWindow c_same c_made c_requests c_total_46 c_secrets c_rounds c_high c_low c_keyHigh c_keyLow)), ((hm 0), .inl (cy 1, 64, .inl c_ROUND)), ((hm 47), .inl (cy 1, 8, .inl c_START)), ((hm 35), .inl (cy 1, 32, .inl c_digest_2)), ((hm 30), .inl (cy 1, 8, .inl c_h_47)), ((hm 36), .inl (cy 1, 32, .inl c_inner_9)), ((hm 33), .inl (cy 1, 64, .inl c_message_48)), ((hm 37), .inl (cy 1, 64, .inl c_secret)), ((hm 31), .inl (cy 1, 64, .inl c_w_49)), ((hm 32), .inl (cy 1, 8, .inl c_x_50))]) := hD
      refine W.eq (g2 := F0 m 91 ls []) rfl ?_
      refine lv_iinc (pc := 91) (v := (i_25 + (1 : Int32))) (lv' := [(1, .int (i_25 + (1 : Int32))), (0, .ref h0)]) hx hb (zdt_at zt_X10_endMac_0 51 rfl) hl (k := 1) rfl rfl (by decide) rfl ?_
      clear hl
      intro ls hl
      refine lv_goto (pc := 94) (tgt := 75) hx hb (zdt_at zt_X10_endMac_0 52 rfl) (by decide) ?_
      exact hTo _ _ _ (ihself_43 _ hf H locs ls hP hD hS (lv_sub hl [1, 0] rfl))
    clear eK_24
    refine hTo _ _ _ (zl_go (fun z => match z with | (i_13, c_h_14, c_message_15, c_total_16, c_w_17, c_x_18) => ∀ (H : Heap) (locs : List Loc) (ls : Array Slot), va_P D vwCl ([(h0, .inr (12, zmo hm c_thrown c_state c_test c_words c_ill c_before c_inRow c_first c_inWindow c_same c_made c_requests c_total_16 c_secrets c_rounds c_high c_low c_keyHigh c_keyLow)), ((hm 0), .inl (cy 1, 64, .inl c_ROUND)), ((hm 47), .inl (cy 1, 8, .inl c_START)), ((hm 35), .inl (cy 1, 32, .inl c_digest_2)), ((hm 30), .inl (cy 1, 8, .inl c_h_14)), ((hm 36), .inl (cy 1, 32, .inl c_inner_9)), ((hm 33), .inl (cy 1, 64, .inl c_message_15)), ((hm 37), .inl (cy 1, 64, .inl c_secret)), ((hm 31), .inl (cy 1, 64, .inl c_w_17)), ((hm 32), .inl (cy 1, 8, .inl c_x_18))]) H → va_D A ([(h0, .inr (12, zmo hm c_thrown c_state c_test c_words c_ill c_before c_inRow c_first c_inWindow c_same c_made c_requests c_total_16 c_secrets c_rounds c_high c_low c_keyHigh c_keyLow)), ((hm 0), .inl (cy 1, 64, .inl c_ROUND)), ((hm 47), .inl (cy 1, 8, .inl c_START)), ((hm 35), .inl (cy 1, 32, .inl c_digest_2)), ((hm 30), .inl (cy 1, 8, .inl c_h_14)), ((hm 36), .inl (cy 1, 32, .inl c_inner_9)), ((hm 33), .inl (cy 1, 64, .inl c_message_15)), ((hm 37), .inl (cy 1, 64, .inl c_secret)), ((hm 31), .inl (cy 1, 64, .inl c_w_17)), ((hm 32), .inl (cy 1, 8, .inl c_x_18))]) → va_S A s.heap H locs → lv_has ls 2 [(0, .ref h0), (1, .int i_13)] → GW H locs (F0 m 36 ls [])) hf ?_ H locs ls hP hD hS (lv_sub hl [1, 0] rfl))
    clear hf hl hP hD hS
    intro self_51 ihself_51 z hf
    obtain ⟨i_13, c_h_14, c_message_15, c_total_16, c_w_17, c_x_18⟩ := z
    intro H locs ls hP hD hS hl
    refine hFr _ _ _ ?_
    unfold b_X10_endMac_36 at hf
    refine lv_iload_n (pc := 36) hx hb (zdt_at zt_X10_endMac_0 21 rfl) rfl (lv_at hl 1 rfl) ?_
    refine lv_bipush (pc := 37) (v := (64 : Int32)) hx hb (zdt_at zt_X10_endMac_0 22 rfl) (by decide) ?_
    refine lv_icmp_ge (pc := 39) (tgt := 73) hx hb (zdt_at zt_X10_endMac_0 23 rfl) (by decide) (fun cn_ => ?t_52) (fun cn_ => ?f_53)
    case t_52 =>
      replace hf := zt_s cn_ hf
      clear cn_
      exact hTo _ _ _ (kK_24 _ _ _ _ _ H locs ls hP hD hS (lv_sub hl [0] rfl) hf)
    replace hf := ze_s cn_ hf
    clear cn_
    refine lv_aload_n (pc := 42) hx hb (zdt_at zt_X10_endMac_0 24 rfl) rfl (lv_at hl 0 rfl) ?_
    refine lv_iload_n (pc := 43) hx hb (zdt_at zt_X10_endMac_0 25 rfl) rfl (lv_at hl 1 rfl) ?_
    refine lv_aload_n (pc := 44) hx hb (zdt_at zt_X10_endMac_0 26 rfl) rfl (lv_at hl 0 rfl) ?_
    refine va_get (pc := 45) (D := D) (ci := 12) (v := .int c_secrets) (C := RX10) (T := TX10) (N := 52) hx hb hts hcX10 hown hK hP 0 rfl rfl 38 (by decide) hw1 (fun _ h9 => h9) rfl (zdt_at zt_X10_endMac_0 27 rfl) ?_
    refine lv_icmp_ge (pc := 48) (tgt := 60) hx hb (zdt_at zt_X10_endMac_0 28 rfl) (by decide) (fun cn_ => ?t_54) (fun cn_ => ?f_55)
    case t_54 =>
      replace hf := zt_s cn_ hf
      clear cn_
      refine lv_iconst (pc := 60) (v := (0 : Int32)) hx hb (zdt_at zt_X10_endMac_0 34 rfl) (by decide) ?_
      refine lv_bipush (pc := 61) (v := (92 : Int32)) hx hb (zdt_at zt_X10_endMac_0 35 rfl) (by decide) ?_
      refine lv_ixor (pc := 63) hx hb (zdt_at zt_X10_endMac_0 36 rfl) ?_
      replace hf := zb_s hf
      obtain ⟨⟨c_total_56, c_h_57, c_message_58, c_w_59, c_x_60⟩, hc_, hf⟩ := hf
      refine zcn2 (pc := 64) (rv := none) (va_runV (As := [.int ((0 : Int32) ^^^ (92 : Int32))]) (rest := []) ⟨hx, hb, hml, hown, hts⟩ (c_X10_say l D cy tt H.size h0 hm ((0 : Int32) ^^^ (92 : Int32)) c_total_16 c_ROUND c_h_14 c_message_15 c_w_17 c_x_18 c_thrown c_state c_test c_words c_ill c_before c_inRow c_first c_inWindow c_same c_made c_requests c_secrets c_rounds c_high c_low c_keyHigh c_keyLow c_total_56 c_h_57 c_message_58 c_w_59 c_x_60 hc_) (cwV 1 hts gX10_endMac_X10_say rfl rfl rfl (by decide +kernel) ⟨Nat.le_of_ble_eq_true rfl, Nat.le_of_ble_eq_true rfl⟩) ⟨zblind, va_recv hK hP (ci := 12) (q0 := 0) rfl rfl, zpre hE hS (hP.sub [0, 1, 4, 6, 8, 9] rfl) (hD.sub [0, 1, 4, 6, 8, 9] (by decide) rfl) (va_free hD hS hA [0, 1, 4, 6, 8, 9] rfl)⟩ rfl rfl hl.1 rfl (lv_room (Nat.le_of_ble_eq_true rfl)) (zdt_at zt_X10_endMac_0 37 rfl) ⟨Nat.zero_le _, Nat.zero_le _⟩) hS hP hD (va_free hD hS hA [0, 1, 4, 6, 8, 9] rfl) [0, 1, 4, 6, 8, 9] rfl (by decide) rfl ?_
      clear hP hD hS hc_
      intro H locs hP hD hS
      replace hP : va_P D vwCl ([(h0, .inr (12, zmo hm c_thrown c_state c_test c_words c_ill c_before c_inRow c_first c_inWindow c_same c_made c_requests c_total_56 c_secrets c_rounds c_high c_low c_keyHigh c_keyLow)), ((hm 0), .inl (cy 1, 64, .inl c_ROUND)), ((hm 47), .inl (cy 1, 8, .inl c_START)), ((hm 35), .inl (cy 1, 32, .inl c_digest_2)), ((hm 30), .inl (cy 1, 8, .inl c_h_57)), ((hm 36), .inl (cy 1, 32, .inl c_inner_9)), ((hm 33), .inl (cy 1, 64, .inl c_message_58)), ((hm 37), .inl (cy 1, 64, .inl c_secret)), ((hm 31), .inl (cy 1, 64, .inl c_w_59)), ((hm 32), .inl (cy 1, 8, .inl c_x_60))]) H := hP
      replace hD : va_D A ([(h0, .inr (12, zmo hm c_thrown c_state c_test c_words c_ill c_before c_inRow c_first c_inWindow c_same c_made c_requests c_total_56 c_secrets c_rounds c_high c_low c_keyHigh c_keyLow)), ((hm 0), .inl (cy 1, 64, .inl c_ROUND)), ((hm 47), .inl (cy 1, 8, .inl c_START)), ((hm 35), .inl (cy 1, 32, .inl c_digest_2)), ((hm 30), .inl (cy 1, 8, .inl c_h_57)), ((hm 36), .inl (cy 1, 32, .inl c_inner_9)), ((hm 33), .inl (cy 1, 64, .inl c_message_58)), ((hm 37), .inl (cy 1, 64, .inl c_secret)), ((hm 31), .inl (cy 1, 64, .inl c_w_59)), ((hm 32), .inl (cy 1, 8, .inl c_x_60))]) := hD
      refine W.eq (g2 := F0 m 67 ls []) rfl ?_
      refine lv_iinc (pc := 67) (v := (i_13 + (1 : Int32))) (lv' := [(1, .int (i_13 + (1 : Int32))), (0, .ref h0)]) hx hb (zdt_at zt_X10_endMac_0 38 rfl) hl (k := 1) rfl rfl (by decide) rfl ?_
      clear hl
      intro ls hl
      refine lv_goto (pc := 70) (tgt := 36) hx hb (zdt_at zt_X10_endMac_0 39 rfl) (by decide) ?_
      exact hTo _ _ _ (ihself_51 _ hf H locs ls hP hD hS (lv_sub hl [1, 0] rfl))
    replace hf := ze_s cn_ hf
    clear cn_
    refine lv_aload_n (pc := 51) hx hb (zdt_at zt_X10_endMac_0 29 rfl) rfl (lv_at hl 0 rfl) ?_
    refine va_get (pc := 52) (D := D) (ci := 12) (v := .ref (hm 37)) (C := RX10) (T := TX10) (N := 52) hx hb hts hcX10 hown hK hP 0 rfl rfl 37 (by decide) hw2 (fun _ h9 => h9) rfl (zdt_at zt_X10_endMac_0 30 rfl) ?_
    refine lv_iload_n (pc := 55) hx hb (zdt_at zt_X10_endMac_0 31 rfl) rfl (lv_at hl 1 rfl) ?_
    replace hf := zk_s hf
    refine va_iald (pc := 56) hx hb hK hP 7 1 rfl rfl hf.1 (zdt_at zt_X10_endMac_0 32 rfl) ?_
    replace hf := hf.2
    refine lv_goto (pc := 57) (tgt := 61) hx hb (zdt_at zt_X10_endMac_0 33 rfl) (by decide) ?_
    refine lv_bipush (pc := 61) (v := (92 : Int32)) hx hb (zdt_at zt_X10_endMac_0 35 rfl) (by decide) ?_
    refine lv_ixor (pc := 63) hx hb (zdt_at zt_X10_endMac_0 36 rfl) ?_
    replace hf := zb_s hf
    obtain ⟨⟨c_total_61, c_h_62, c_message_63, c_w_64, c_x_65⟩, hc_, hf⟩ := hf
    refine zcn2 (pc := 64) (rv := none) (va_runV (As := [.int ((c_secret i_13.toNatClampNeg) ^^^ (92 : Int32))]) (rest := []) ⟨hx, hb, hml, hown, hts⟩ (c_X10_say l D cy tt H.size h0 hm ((c_secret i_13.toNatClampNeg) ^^^ (92 : Int32)) c_total_16 c_ROUND c_h_14 c_message_15 c_w_17 c_x_18 c_thrown c_state c_test c_words c_ill c_before c_inRow c_first c_inWindow c_same c_made c_requests c_secrets c_rounds c_high c_low c_keyHigh c_keyLow c_total_61 c_h_62 c_message_63 c_w_64 c_x_65 hc_) (cwV 1 hts gX10_endMac_X10_say rfl rfl rfl (by decide +kernel) ⟨Nat.le_of_ble_eq_true rfl, Nat.le_of_ble_eq_true rfl⟩) ⟨zblind, va_recv hK hP (ci := 12) (q0 := 0) rfl rfl, zpre hE hS (hP.sub [0, 1, 4, 6, 8, 9] rfl) (hD.sub [0, 1, 4, 6, 8, 9] (by decide) rfl) (va_free hD hS hA [0, 1, 4, 6, 8, 9] rfl)⟩ rfl rfl hl.1 rfl (lv_room (Nat.le_of_ble_eq_true rfl)) (zdt_at zt_X10_endMac_0 37 rfl) ⟨Nat.zero_le _, Nat.zero_le _⟩) hS hP hD (va_free hD hS hA [0, 1, 4, 6, 8, 9] rfl) [0, 1, 4, 6, 8, 9] rfl (by decide) rfl ?_
    clear hP hD hS hc_
    intro H locs hP hD hS
    replace hP : va_P D vwCl ([(h0, .inr (12, zmo hm c_thrown c_state c_test c_words c_ill c_before c_inRow c_first c_inWindow c_same c_made c_requests c_total_61 c_secrets c_rounds c_high c_low c_keyHigh c_keyLow)), ((hm 0), .inl (cy 1, 64, .inl c_ROUND)), ((hm 47), .inl (cy 1, 8, .inl c_START)), ((hm 35), .inl (cy 1, 32, .inl c_digest_2)), ((hm 30), .inl (cy 1, 8, .inl c_h_62)), ((hm 36), .inl (cy 1, 32, .inl c_inner_9)), ((hm 33), .inl (cy 1, 64, .inl c_message_63)), ((hm 37), .inl (cy 1, 64, .inl c_secret)), ((hm 31), .inl (cy 1, 64, .inl c_w_64)), ((hm 32), .inl (cy 1, 8, .inl c_x_65))]) H := hP
    replace hD : va_D A ([(h0, .inr (12, zmo hm c_thrown c_state c_test c_words c_ill c_before c_inRow c_first c_inWindow c_same c_made c_requests c_total_61 c_secrets c_rounds c_high c_low c_keyHigh c_keyLow)), ((hm 0), .inl (cy 1, 64, .inl c_ROUND)), ((hm 47), .inl (cy 1, 8, .inl c_START)), ((hm 35), .inl (cy 1, 32, .inl c_digest_2)), ((hm 30), .inl (cy 1, 8, .inl c_h_62)), ((hm 36), .inl (cy 1, 32, .inl c_inner_9)), ((hm 33), .inl (cy 1, 64, .inl c_message_63)), ((hm 37), .inl (cy 1, 64, .inl c_secret)), ((hm 31), .inl (cy 1, 64, .inl c_w_64)), ((hm 32), .inl (cy 1, 8, .inl c_x_65))]) := hD
    refine W.eq (g2 := F0 m 67 ls []) rfl ?_
    refine lv_iinc (pc := 67) (v := (i_13 + (1 : Int32))) (lv' := [(1, .int (i_13 + (1 : Int32))), (0, .ref h0)]) hx hb (zdt_at zt_X10_endMac_0 38 rfl) hl (k := 1) rfl rfl (by decide) rfl ?_
    clear hl
    intro ls hl
    refine lv_goto (pc := 70) (tgt := 36) hx hb (zdt_at zt_X10_endMac_0 39 rfl) (by decide) ?_
    exact hTo _ _ _ (ihself_51 _ hf H locs ls hP hD hS (lv_sub hl [1, 0] rfl))
  clear eK_10
  refine hTo _ _ _ (zl_go (fun z => match z with | (i_7, c_inner_8) => ∀ (H : Heap) (locs : List Loc) (ls : Array Slot), va_P D vwCl ([(h0, .inr (12, zmo hm c_thrown c_state c_test c_words c_ill c_before c_inRow c_first c_inWindow c_same c_made c_requests c_total_1 c_secrets c_rounds c_high c_low c_keyHigh c_keyLow)), ((hm 0), .inl (cy 1, 64, .inl c_ROUND)), ((hm 47), .inl (cy 1, 8, .inl c_START)), ((hm 35), .inl (cy 1, 32, .inl c_digest_2)), ((hm 30), .inl (cy 1, 8, .inl c_h_3)), ((hm 36), .inl (cy 1, 32, .inl c_inner_8)), ((hm 33), .inl (cy 1, 64, .inl c_message_4)), ((hm 37), .inl (cy 1, 64, .inl c_secret)), ((hm 31), .inl (cy 1, 64, .inl c_w_5)), ((hm 32), .inl (cy 1, 8, .inl c_x_6))]) H → va_D A ([(h0, .inr (12, zmo hm c_thrown c_state c_test c_words c_ill c_before c_inRow c_first c_inWindow c_same c_made c_requests c_total_1 c_secrets c_rounds c_high c_low c_keyHigh c_keyLow)), ((hm 0), .inl (cy 1, 64, .inl c_ROUND)), ((hm 47), .inl (cy 1, 8, .inl c_START)), ((hm 35), .inl (cy 1, 32, .inl c_digest_2)), ((hm 30), .inl (cy 1, 8, .inl c_h_3)), ((hm 36), .inl (cy 1, 32, .inl c_inner_8)), ((hm 33), .inl (cy 1, 64, .inl c_message_4)), ((hm 37), .inl (cy 1, 64, .inl c_secret)), ((hm 31), .inl (cy 1, 64, .inl c_w_5)), ((hm 32), .inl (cy 1, 8, .inl c_x_6))]) → va_S A s.heap H locs → lv_has ls 2 [(0, .ref h0), (1, .int i_7)] → GW H locs (F0 m 6 ls [])) hf ?_ H locs ls hP hD hS (lv_sub hl [1, 0] rfl))
  clear hf hl hP hD hS
  intro self_66 ihself_66 z hf
  obtain ⟨i_7, c_inner_8⟩ := z
  intro H locs ls hP hD hS hl
  refine hFr _ _ _ ?_
  unfold b_X10_endMac_6 at hf
  refine lv_iload_n (pc := 6) hx hb (zdt_at zt_X10_endMac_0 4 rfl) rfl (lv_at hl 1 rfl) ?_
  refine lv_bipush (pc := 7) (v := (32 : Int32)) hx hb (zdt_at zt_X10_endMac_0 5 rfl) (by decide) ?_
  refine lv_icmp_ge (pc := 9) (tgt := 30) hx hb (zdt_at zt_X10_endMac_0 6 rfl) (by decide) (fun cn_ => ?t_67) (fun cn_ => ?f_68)
  case t_67 =>
    replace hf := zt_s cn_ hf
    clear cn_
    exact hTo _ _ _ (kK_10 _ H locs ls hP hD hS (lv_sub hl [0] rfl) hf)
  replace hf := ze_s cn_ hf
  clear cn_
  refine lv_aload_n (pc := 12) hx hb (zdt_at zt_X10_endMac_0 7 rfl) rfl (lv_at hl 0 rfl) ?_
  refine va_get (pc := 13) (D := D) (ci := 12) (v := .ref (hm 36)) (C := RX10) (T := TX10) (N := 52) hx hb hts hcX10 hown hK hP 0 rfl rfl 36 (by decide) hw0 (fun _ h9 => h9) rfl (zdt_at zt_X10_endMac_0 8 rfl) ?_
  refine lv_iload_n (pc := 16) hx hb (zdt_at zt_X10_endMac_0 9 rfl) rfl (lv_at hl 1 rfl) ?_
  refine lv_aload_n (pc := 17) hx hb (zdt_at zt_X10_endMac_0 10 rfl) rfl (lv_at hl 0 rfl) ?_
  refine va_get (pc := 18) (D := D) (ci := 12) (v := .ref (hm 35)) (C := RX10) (T := TX10) (N := 52) hx hb hts hcX10 hown hK hP 0 rfl rfl 35 (by decide) hw3 (fun _ h9 => h9) rfl (zdt_at zt_X10_endMac_0 11 rfl) ?_
  refine lv_iload_n (pc := 21) hx hb (zdt_at zt_X10_endMac_0 12 rfl) rfl (lv_at hl 1 rfl) ?_
  replace hf := zk_s hf
  refine va_iald (pc := 22) hx hb hK hP 3 1 rfl rfl hf.1 (zdt_at zt_X10_endMac_0 13 rfl) ?_
  replace hf := hf.2
  replace hf := zk_s hf
  refine va_iast (pc := 23) hx hb hK hP hD hS 5 1 rfl rfl hf.1 (zdt_at zt_X10_endMac_0 14 rfl) ?_
  replace hf := hf.2
  clear hP hD hS
  intro H locs hP hD hS
  obtain ⟨c_inner_69, e_⟩ : ∃ q : Nat → Int32, q = (upd c_inner_8 i_7.toNatClampNeg (c_digest_2 i_7.toNatClampNeg)) := ⟨_, rfl⟩
  replace hf := zn_s hf e_
  replace hP : va_P D vwCl ([(h0, .inr (12, zmo hm c_thrown c_state c_test c_words c_ill c_before c_inRow c_first c_inWindow c_same c_made c_requests c_total_1 c_secrets c_rounds c_high c_low c_keyHigh c_keyLow)), ((hm 0), .inl (cy 1, 64, .inl c_ROUND)), ((hm 47), .inl (cy 1, 8, .inl c_START)), ((hm 35), .inl (cy 1, 32, .inl c_digest_2)), ((hm 30), .inl (cy 1, 8, .inl c_h_3)), ((hm 36), .inl (cy 1, 32, .inl c_inner_69)), ((hm 33), .inl (cy 1, 64, .inl c_message_4)), ((hm 37), .inl (cy 1, 64, .inl c_secret)), ((hm 31), .inl (cy 1, 64, .inl c_w_5)), ((hm 32), .inl (cy 1, 8, .inl c_x_6))]) H := by rw [e_]; exact hP
  replace hD : va_D A ([(h0, .inr (12, zmo hm c_thrown c_state c_test c_words c_ill c_before c_inRow c_first c_inWindow c_same c_made c_requests c_total_1 c_secrets c_rounds c_high c_low c_keyHigh c_keyLow)), ((hm 0), .inl (cy 1, 64, .inl c_ROUND)), ((hm 47), .inl (cy 1, 8, .inl c_START)), ((hm 35), .inl (cy 1, 32, .inl c_digest_2)), ((hm 30), .inl (cy 1, 8, .inl c_h_3)), ((hm 36), .inl (cy 1, 32, .inl c_inner_69)), ((hm 33), .inl (cy 1, 64, .inl c_message_4)), ((hm 37), .inl (cy 1, 64, .inl c_secret)), ((hm 31), .inl (cy 1, 64, .inl c_w_5)), ((hm 32), .inl (cy 1, 8, .inl c_x_6))]) := by rw [e_]; exact hD
  clear e_
  refine lv_iinc (pc := 24) (v := (i_7 + (1 : Int32))) (lv' := [(1, .int (i_7 + (1 : Int32))), (0, .ref h0)]) hx hb (zdt_at zt_X10_endMac_0 15 rfl) hl (k := 1) rfl rfl (by decide) rfl ?_
  clear hl
  intro ls hl
  refine lv_goto (pc := 27) (tgt := 6) hx hb (zdt_at zt_X10_endMac_0 16 rfl) (by decide) ?_
  exact hTo _ _ _ (ihself_66 _ hf H locs ls hP hD hS (lv_sub hl [1, 0] rfl))
set_option maxHeartbeats 4000000 in
set_option maxRecDepth 100000 in
theorem c_X10_secretOf (l : Launch) (D : va_G) (cy : Nat → ClassId) (tt : Nat → Nat) (sz : Nat) (h0 : Nat) (hm : Nat → Nat) (p1 : Int32) (c_secrets : Int32) (c_keys : Nat → Int32) (c_length : Nat → Int32) (c_secret : Nat → Int32) (c_thrown : Int32) (c_state : Int32) (c_test : Int32) (c_words : Int32) (c_ill : Int32) (c_before : Int32) (c_inRow : Int32) (c_first : Int32) (c_inWindow : Int32) (c_same : Int32) (c_made : Int32) (c_requests : Int32) (c_total : Int64) (c_rounds : Int32) (c_high : Int64) (c_low : Int64) (c_keyHigh : Int64) (c_keyLow : Int64) (c_secrets' : Int32) (c_secret' : Nat → Int32) (hf : f_X10_secretOf p1 c_secrets c_keys c_length c_secret = some (c_secrets', c_secret')) : Met l yX10_secretOf wsX10_secretOf ({ frames := 0, cells := 0, slots := 0, locals := 0 }) (zPc D cy tt sz [.ref h0, .int p1] ([(h0, .inr (12, zmo hm c_thrown c_state c_test c_words c_ill c_before c_inRow c_first c_inWindow c_same c_made c_requests c_total c_secrets c_rounds c_high c_low c_keyHigh c_keyLow)), ((hm 14), .inl (cy 1, 1024, .inl c_keys)), ((hm 10), .inl (cy 1, 16, .inl c_length)), ((hm 37), .inl (cy 1, 64, .inl c_secret))])) (zQ D none ([(h0, .inr (12, zmo hm c_thrown c_state c_test c_words c_ill c_before c_inRow c_first c_inWindow c_same c_made c_requests c_total c_secrets' c_rounds c_high c_low c_keyHigh c_keyLow)), ((hm 14), .inl (cy 1, 1024, .inl c_keys)), ((hm 10), .inl (cy 1, 16, .inl c_length)), ((hm 37), .inl (cy 1, 64, .inl c_secret'))]) (va_A ([(h0, .inr (12, zmo hm c_thrown c_state c_test c_words c_ill c_before c_inRow c_first c_inWindow c_same c_made c_requests c_total c_secrets c_rounds c_high c_low c_keyHigh c_keyLow)), ((hm 14), .inl (cy 1, 1024, .inl c_keys)), ((hm 10), .inl (cy 1, 16, .inl c_length)), ((hm 37), .inl (cy 1, 64, .inl c_secret))]) sz)) 0 0 (va_A ([(h0, .inr (12, zmo hm c_thrown c_state c_test c_words c_ill c_before c_inRow c_first c_inWindow c_same c_made c_requests c_total c_secrets c_rounds c_high c_low c_keyHigh c_keyLow)), ((hm 14), .inl (cy 1, 1024, .inl c_keys)), ((hm 10), .inl (cy 1, 16, .inl c_length)), ((hm 37), .inl (cy 1, 64, .inl c_secret))]) sz) := by
  refine Met.ofW (cc := cX10_secretOf) (maxL := 3) (ret := none) (by decide) rfl ?_
  intro p e s m args below meth c s₁ B hml hv
  obtain ⟨rfl, rfl, hP, hD0, hE⟩ := hv
  have hx := B.exec
  have hb := B.bytes
  have hr := B.returns
  have hts := atoms_spec (ws := wsX10_secretOf) B.pre
  have hown : s.vm.findClass RX10 = some m.cls := findClass_of_methodNamed B.named
  have hlocks := B.notSynchronized
  clear B
  have hD := hD0.self (sz := s.heap.size)
  generalize hAe : va_A ([(h0, .inr (12, zmo hm c_thrown c_state c_test c_words c_ill c_before c_inRow c_first c_inWindow c_same c_made c_requests c_total c_secrets c_rounds c_high c_low c_keyHigh c_keyLow)), ((hm 14), .inl (cy 1, 1024, .inl c_keys)), ((hm 10), .inl (cy 1, 16, .inl c_length)), ((hm 37), .inl (cy 1, 64, .inl c_secret))]) s.heap.size = A at hD hE ⊢
  have hA : ∀ q : Nat, s.heap.size ≤ q → A q := fun q h => by rw [← hAe]; exact Or.inr h
  clear hAe hD0
  have hS : va_S A s.heap s.heap [] := va_S.rf
  have hK := hE.1
  have hw0 := hts (.fieldLink RX10 96 "SealedModuleModel" "length" "[I") (by decide +kernel)
  have hw1 := hts (.fieldLink RX10 236 "SealedModuleModel" "secrets" "I") (by decide +kernel)
  have hw2 := hts (.fieldLink RX10 150 "SealedModuleModel" "secret" "[I") (by decide +kernel)
  have hw3 := hts (.fieldLink RX10 108 "SealedModuleModel" "keys" "[I") (by decide +kernel)
  have hcX10 : ∀ w ∈ u_ws RX10 TX10 52, w ∈ wsX10_secretOf := (fun _ h => List.mem_cons_of_mem _ (List.mem_append_right _ h))
  have hl := lv_entry ([.ref h0, .int p1]) (n := 3) (Nat.le_of_ble_eq_true rfl)
  rw [lg_entry_eq]
  generalize (lg_sl ([.ref h0, .int p1]) ++ List.replicate (3 - (lg_sl ([.ref h0, .int p1])).length) Slot.unset).toArray = ls at hl ⊢
  replace hl : lv_has ls 3 [(0, .ref h0), (1, .int p1)] := hl
  unfold f_X10_secretOf at hf
  refine zgo (fun GW hTo hFr => ?_)
  refine hFr _ _ _ ?_
  obtain ⟨H, hHe⟩ : ∃ H, H = s.heap := ⟨_, rfl⟩
  obtain ⟨locs, hLe⟩ : ∃ L : List Loc, L = [] := ⟨_, rfl⟩
  rw [← hHe] at hP
  replace hS : va_S A s.heap H locs := by rw [hHe, hLe]; exact hS
  refine zat hHe.symm hLe.symm ?_
  clear hHe hLe
  refine lv_aload_n (pc := 0) hx hb (zdt_at zt_X10_secretOf_0 0 rfl) rfl (lv_at hl 0 rfl) ?_
  refine lv_aload_n (pc := 1) hx hb (zdt_at zt_X10_secretOf_0 1 rfl) rfl (lv_at hl 0 rfl) ?_
  refine va_get (pc := 2) (D := D) (ci := 12) (v := .ref (hm 10)) (C := RX10) (T := TX10) (N := 52) hx hb hts hcX10 hown hK hP 0 rfl rfl 10 (by decide) hw0 (fun _ h9 => h9) rfl (zdt_at zt_X10_secretOf_0 2 rfl) ?_
  refine lv_iload_n (pc := 5) hx hb (zdt_at zt_X10_secretOf_0 3 rfl) rfl (lv_at hl 1 rfl) ?_
  replace hf := zk_s hf
  refine va_iald (pc := 6) hx hb hK hP 2 1 rfl rfl hf.1 (zdt_at zt_X10_secretOf_0 4 rfl) ?_
  replace hf := hf.2
  refine lv_topi (fun x_1 e_ => ?_)
  replace hf := zn_s hf e_
  clear e_
  refine va_put (pc := 7) (D := D) (ci := 12) (v := .int x_1) (ty := .int) (C := RX10) (T := TX10) (N := 52) hx hb hts hcX10 tyX10 tyX10_ok nmX10 hown hK hP hD hS 0 rfl rfl 38 (by decide) hw1 (fun _ h9 => h9) rfl (by decide +kernel) rfl rfl (Nat.le_of_ble_eq_true rfl) (zdt_at zt_X10_secretOf_0 5 rfl) ?_
  clear hP hD hS
  intro H locs hP hD hS
  replace hP : va_P D vwCl ([(h0, .inr (12, zmo hm c_thrown c_state c_test c_words c_ill c_before c_inRow c_first c_inWindow c_same c_made c_requests c_total x_1 c_rounds c_high c_low c_keyHigh c_keyLow)), ((hm 14), .inl (cy 1, 1024, .inl c_keys)), ((hm 10), .inl (cy 1, 16, .inl c_length)), ((hm 37), .inl (cy 1, 64, .inl c_secret))]) H := hP
  replace hD : va_D A ([(h0, .inr (12, zmo hm c_thrown c_state c_test c_words c_ill c_before c_inRow c_first c_inWindow c_same c_made c_requests c_total x_1 c_rounds c_high c_low c_keyHigh c_keyLow)), ((hm 14), .inl (cy 1, 1024, .inl c_keys)), ((hm 10), .inl (cy 1, 16, .inl c_length)), ((hm 37), .inl (cy 1, 64, .inl c_secret))]) := hD
  refine lv_iconst (pc := 10) (v := (0 : Int32)) hx hb (zdt_at zt_X10_secretOf_0 6 rfl) (by decide) ?_
  refine lv_istore_n (pc := 11) (lv' := [(2, .int (0 : Int32)), (0, .ref h0), (1, .int p1)]) hx hb (zdt_at zt_X10_secretOf_0 7 rfl) rfl hl (by decide) rfl ?_
  clear hl
  intro ls hl
  replace hf := zj_s hf
  obtain ⟨K_5, eK_5, hf⟩ := hf
  have kK_5 : ∀ (c_secret_4 : Nat → Int32) (H : Heap) (locs : List Loc) (ls : Array Slot), va_P D vwCl ([(h0, .inr (12, zmo hm c_thrown c_state c_test c_words c_ill c_before c_inRow c_first c_inWindow c_same c_made c_requests c_total x_1 c_rounds c_high c_low c_keyHigh c_keyLow)), ((hm 14), .inl (cy 1, 1024, .inl c_keys)), ((hm 10), .inl (cy 1, 16, .inl c_length)), ((hm 37), .inl (cy 1, 64, .inl c_secret_4))]) H → va_D A ([(h0, .inr (12, zmo hm c_thrown c_state c_test c_words c_ill c_before c_inRow c_first c_inWindow c_same c_made c_requests c_total x_1 c_rounds c_high c_low c_keyHigh c_keyLow)), ((hm 14), .inl (cy 1, 1024, .inl c_keys)), ((hm 10), .inl (cy 1, 16, .inl c_length)), ((hm 37), .inl (cy 1, 64, .inl c_secret_4))]) → va_S A s.heap H locs → lv_has ls 3 [] → K_5 c_secret_4 = some (c_secrets', c_secret') → GW H locs (F0 m 43 ls []) := by
    clear hf hl hP hD hS
    intro c_secret_4 H locs ls hP hD hS hl hf
    rw [eK_5] at hf
    clear eK_5
    refine hFr _ _ _ ?_
    cases hf
    exact W.vret (pc := 43) hx hb hr (fun t ht hW => ⟨rfl, ⟨by rw [ht]; exact hP, hD⟩, hS.F ht⟩) hS.2.2 (zdt_at zt_X10_secretOf_0 26 rfl)
  clear eK_5
  refine hTo _ _ _ (zl_go (fun z => match z with | (i_2, c_secret_3) => ∀ (H : Heap) (locs : List Loc) (ls : Array Slot), va_P D vwCl ([(h0, .inr (12, zmo hm c_thrown c_state c_test c_words c_ill c_before c_inRow c_first c_inWindow c_same c_made c_requests c_total x_1 c_rounds c_high c_low c_keyHigh c_keyLow)), ((hm 14), .inl (cy 1, 1024, .inl c_keys)), ((hm 10), .inl (cy 1, 16, .inl c_length)), ((hm 37), .inl (cy 1, 64, .inl c_secret_3))]) H → va_D A ([(h0, .inr (12, zmo hm c_thrown c_state c_test c_words c_ill c_before c_inRow c_first c_inWindow c_same c_made c_requests c_total x_1 c_rounds c_high c_low c_keyHigh c_keyLow)), ((hm 14), .inl (cy 1, 1024, .inl c_keys)), ((hm 10), .inl (cy 1, 16, .inl c_length)), ((hm 37), .inl (cy 1, 64, .inl c_secret_3))]) → va_S A s.heap H locs → lv_has ls 3 [(0, .ref h0), (1, .int p1), (2, .int i_2)] → GW H locs (F0 m 12 ls [])) hf ?_ H locs ls hP hD hS (lv_sub hl [1, 2, 0] rfl))
  clear hf hl hP hD hS
  intro self_6 ihself_6 z hf
  obtain ⟨i_2, c_secret_3⟩ := z
  intro H locs ls hP hD hS hl
  refine hFr _ _ _ ?_
  unfold b_X10_secretOf_12 at hf
  refine lv_iload_n (pc := 12) hx hb (zdt_at zt_X10_secretOf_0 8 rfl) rfl (lv_at hl 2 rfl) ?_
  refine lv_aload_n (pc := 13) hx hb (zdt_at zt_X10_secretOf_0 9 rfl) rfl (lv_at hl 0 rfl) ?_
  refine va_get (pc := 14) (D := D) (ci := 12) (v := .int x_1) (C := RX10) (T := TX10) (N := 52) hx hb hts hcX10 hown hK hP 0 rfl rfl 38 (by decide) hw1 (fun _ h9 => h9) rfl (zdt_at zt_X10_secretOf_0 10 rfl) ?_
  refine lv_icmp_ge (pc := 17) (tgt := 43) hx hb (zdt_at zt_X10_secretOf_0 11 rfl) (by decide) (fun cn_ => ?t_7) (fun cn_ => ?f_8)
  case t_7 =>
    replace hf := zt_s cn_ hf
    clear cn_
    exact hTo _ _ _ (kK_5 _ H locs ls hP hD hS (lv_sub hl [] rfl) hf)
  replace hf := ze_s cn_ hf
  clear cn_
  refine lv_aload_n (pc := 20) hx hb (zdt_at zt_X10_secretOf_0 12 rfl) rfl (lv_at hl 0 rfl) ?_
  refine va_get (pc := 21) (D := D) (ci := 12) (v := .ref (hm 37)) (C := RX10) (T := TX10) (N := 52) hx hb hts hcX10 hown hK hP 0 rfl rfl 37 (by decide) hw2 (fun _ h9 => h9) rfl (zdt_at zt_X10_secretOf_0 13 rfl) ?_
  refine lv_iload_n (pc := 24) hx hb (zdt_at zt_X10_secretOf_0 14 rfl) rfl (lv_at hl 2 rfl) ?_
  refine lv_aload_n (pc := 25) hx hb (zdt_at zt_X10_secretOf_0 15 rfl) rfl (lv_at hl 0 rfl) ?_
  refine va_get (pc := 26) (D := D) (ci := 12) (v := .ref (hm 14)) (C := RX10) (T := TX10) (N := 52) hx hb hts hcX10 hown hK hP 0 rfl rfl 14 (by decide) hw3 (fun _ h9 => h9) rfl (zdt_at zt_X10_secretOf_0 16 rfl) ?_
  refine lv_bipush (pc := 29) (v := (64 : Int32)) hx hb (zdt_at zt_X10_secretOf_0 17 rfl) (by decide) ?_
  refine lv_iload_n (pc := 31) hx hb (zdt_at zt_X10_secretOf_0 18 rfl) rfl (lv_at hl 1 rfl) ?_
  refine lv_imul (pc := 32) hx hb (zdt_at zt_X10_secretOf_0 19 rfl) ?_
  refine lv_iload_n (pc := 33) hx hb (zdt_at zt_X10_secretOf_0 20 rfl) rfl (lv_at hl 2 rfl) ?_
  refine lv_iadd (pc := 34) hx hb (zdt_at zt_X10_secretOf_0 21 rfl) ?_
  replace hf := zk_s hf
  refine va_iald (pc := 35) hx hb hK hP 1 1 rfl rfl hf.1 (zdt_at zt_X10_secretOf_0 22 rfl) ?_
  replace hf := hf.2
  replace hf := zk_s hf
  refine va_iast (pc := 36) hx hb hK hP hD hS 3 1 rfl rfl hf.1 (zdt_at zt_X10_secretOf_0 23 rfl) ?_
  replace hf := hf.2
  clear hP hD hS
  intro H locs hP hD hS
  obtain ⟨c_secret_9, e_⟩ : ∃ q : Nat → Int32, q = (upd c_secret_3 i_2.toNatClampNeg (c_keys (((64 : Int32) * p1) + i_2).toNatClampNeg)) := ⟨_, rfl⟩
  replace hf := zn_s hf e_
  replace hP : va_P D vwCl ([(h0, .inr (12, zmo hm c_thrown c_state c_test c_words c_ill c_before c_inRow c_first c_inWindow c_same c_made c_requests c_total x_1 c_rounds c_high c_low c_keyHigh c_keyLow)), ((hm 14), .inl (cy 1, 1024, .inl c_keys)), ((hm 10), .inl (cy 1, 16, .inl c_length)), ((hm 37), .inl (cy 1, 64, .inl c_secret_9))]) H := by rw [e_]; exact hP
  replace hD : va_D A ([(h0, .inr (12, zmo hm c_thrown c_state c_test c_words c_ill c_before c_inRow c_first c_inWindow c_same c_made c_requests c_total x_1 c_rounds c_high c_low c_keyHigh c_keyLow)), ((hm 14), .inl (cy 1, 1024, .inl c_keys)), ((hm 10), .inl (cy 1, 16, .inl c_length)), ((hm 37), .inl (cy 1, 64, .inl c_secret_9))]) := by rw [e_]; exact hD
  clear e_
  refine lv_iinc (pc := 37) (v := (i_2 + (1 : Int32))) (lv' := [(2, .int (i_2 + (1 : Int32))), (0, .ref h0), (1, .int p1)]) hx hb (zdt_at zt_X10_secretOf_0 24 rfl) hl (k := 2) rfl rfl (by decide) rfl ?_
  clear hl
  intro ls hl
  refine lv_goto (pc := 40) (tgt := 12) hx hb (zdt_at zt_X10_secretOf_0 25 rfl) (by decide) ?_
  exact hTo _ _ _ (ihself_6 _ hf H locs ls hP hD hS (lv_sub hl [1, 2, 0] rfl))
set_option maxHeartbeats 4000000 in
set_option maxRecDepth 100000 in
theorem c_X10_secretK (l : Launch) (D : va_G) (cy : Nat → ClassId) (tt : Nat → Nat) (sz : Nat) (h0 : Nat) (hm : Nat → Nat) (c_secrets : Int32) (c_k : Nat → Int32) (c_secret : Nat → Int32) (c_thrown : Int32) (c_state : Int32) (c_test : Int32) (c_words : Int32) (c_ill : Int32) (c_before : Int32) (c_inRow : Int32) (c_first : Int32) (c_inWindow : Int32) (c_same : Int32) (c_made : Int32) (c_requests : Int32) (c_total : Int64) (c_rounds : Int32) (c_high : Int64) (c_low : Int64) (c_keyHigh : Int64) (c_keyLow : Int64) (c_secrets' : Int32) (c_secret' : Nat → Int32) (hf : f_X10_secretK c_secrets c_k c_secret = some (c_secrets', c_secret')) : Met l yX10_secretK wsX10_secretK ({ frames := 0, cells := 0, slots := 0, locals := 0 }) (zPc D cy tt sz [.ref h0] ([(h0, .inr (12, zmo hm c_thrown c_state c_test c_words c_ill c_before c_inRow c_first c_inWindow c_same c_made c_requests c_total c_secrets c_rounds c_high c_low c_keyHigh c_keyLow)), ((hm 25), .inl (cy 1, 32, .inl c_k)), ((hm 37), .inl (cy 1, 64, .inl c_secret))])) (zQ D none ([(h0, .inr (12, zmo hm c_thrown c_state c_test c_words c_ill c_before c_inRow c_first c_inWindow c_same c_made c_requests c_total c_secrets' c_rounds c_high c_low c_keyHigh c_keyLow)), ((hm 25), .inl (cy 1, 32, .inl c_k)), ((hm 37), .inl (cy 1, 64, .inl c_secret'))]) (va_A ([(h0, .inr (12, zmo hm c_thrown c_state c_test c_words c_ill c_before c_inRow c_first c_inWindow c_same c_made c_requests c_total c_secrets c_rounds c_high c_low c_keyHigh c_keyLow)), ((hm 25), .inl (cy 1, 32, .inl c_k)), ((hm 37), .inl (cy 1, 64, .inl c_secret))]) sz)) 0 0 (va_A ([(h0, .inr (12, zmo hm c_thrown c_state c_test c_words c_ill c_before c_inRow c_first c_inWindow c_same c_made c_requests c_total c_secrets c_rounds c_high c_low c_keyHigh c_keyLow)), ((hm 25), .inl (cy 1, 32, .inl c_k)), ((hm 37), .inl (cy 1, 64, .inl c_secret))]) sz) := by
  refine Met.ofW (cc := cX10_secretK) (maxL := 2) (ret := none) (by decide) rfl ?_
  intro p e s m args below meth c s₁ B hml hv
  obtain ⟨rfl, rfl, hP, hD0, hE⟩ := hv
  have hx := B.exec
  have hb := B.bytes
  have hr := B.returns
  have hts := atoms_spec (ws := wsX10_secretK) B.pre
  have hown : s.vm.findClass RX10 = some m.cls := findClass_of_methodNamed B.named
  have hlocks := B.notSynchronized
  clear B
  have hD := hD0.self (sz := s.heap.size)
  generalize hAe : va_A ([(h0, .inr (12, zmo hm c_thrown c_state c_test c_words c_ill c_before c_inRow c_first c_inWindow c_same c_made c_requests c_total c_secrets c_rounds c_high c_low c_keyHigh c_keyLow)), ((hm 25), .inl (cy 1, 32, .inl c_k)), ((hm 37), .inl (cy 1, 64, .inl c_secret))]) s.heap.size = A at hD hE ⊢
  have hA : ∀ q : Nat, s.heap.size ≤ q → A q := fun q h => by rw [← hAe]; exact Or.inr h
  clear hAe hD0
  have hS : va_S A s.heap s.heap [] := va_S.rf
  have hK := hE.1
  have hw0 := hts (.fieldLink RX10 236 "SealedModuleModel" "secrets" "I") (by decide +kernel)
  have hw1 := hts (.fieldLink RX10 150 "SealedModuleModel" "secret" "[I") (by decide +kernel)
  have hw2 := hts (.fieldLink RX10 114 "SealedModuleModel" "k" "[I") (by decide +kernel)
  have hcX10 : ∀ w ∈ u_ws RX10 TX10 52, w ∈ wsX10_secretK := (fun _ h => List.mem_cons_of_mem _ (List.mem_append_right _ h))
  have hl := lv_entry ([.ref h0]) (n := 2) (Nat.le_of_ble_eq_true rfl)
  rw [lg_entry_eq]
  generalize (lg_sl ([.ref h0]) ++ List.replicate (2 - (lg_sl ([.ref h0])).length) Slot.unset).toArray = ls at hl ⊢
  replace hl : lv_has ls 2 [(0, .ref h0)] := hl
  unfold f_X10_secretK at hf
  refine zgo (fun GW hTo hFr => ?_)
  refine hFr _ _ _ ?_
  obtain ⟨H, hHe⟩ : ∃ H, H = s.heap := ⟨_, rfl⟩
  obtain ⟨locs, hLe⟩ : ∃ L : List Loc, L = [] := ⟨_, rfl⟩
  rw [← hHe] at hP
  replace hS : va_S A s.heap H locs := by rw [hHe, hLe]; exact hS
  refine zat hHe.symm hLe.symm ?_
  clear hHe hLe
  refine lv_aload_n (pc := 0) hx hb (zdt_at zt_X10_secretK_0 0 rfl) rfl (lv_at hl 0 rfl) ?_
  refine lv_bipush (pc := 1) (v := (32 : Int32)) hx hb (zdt_at zt_X10_secretK_0 1 rfl) (by decide) ?_
  refine va_put (pc := 3) (D := D) (ci := 12) (v := .int (32 : Int32)) (ty := .int) (C := RX10) (T := TX10) (N := 52) hx hb hts hcX10 tyX10 tyX10_ok nmX10 hown hK hP hD hS 0 rfl rfl 38 (by decide) hw0 (fun _ h9 => h9) rfl (by decide +kernel) rfl rfl (Nat.le_of_ble_eq_true rfl) (zdt_at zt_X10_secretK_0 2 rfl) ?_
  clear hP hD hS
  intro H locs hP hD hS
  replace hP : va_P D vwCl ([(h0, .inr (12, zmo hm c_thrown c_state c_test c_words c_ill c_before c_inRow c_first c_inWindow c_same c_made c_requests c_total (32 : Int32) c_rounds c_high c_low c_keyHigh c_keyLow)), ((hm 25), .inl (cy 1, 32, .inl c_k)), ((hm 37), .inl (cy 1, 64, .inl c_secret))]) H := hP
  replace hD : va_D A ([(h0, .inr (12, zmo hm c_thrown c_state c_test c_words c_ill c_before c_inRow c_first c_inWindow c_same c_made c_requests c_total (32 : Int32) c_rounds c_high c_low c_keyHigh c_keyLow)), ((hm 25), .inl (cy 1, 32, .inl c_k)), ((hm 37), .inl (cy 1, 64, .inl c_secret))]) := hD
  refine lv_iconst (pc := 6) (v := (0 : Int32)) hx hb (zdt_at zt_X10_secretK_0 3 rfl) (by decide) ?_
  refine lv_istore_n (pc := 7) (lv' := [(1, .int (0 : Int32)), (0, .ref h0)]) hx hb (zdt_at zt_X10_secretK_0 4 rfl) rfl hl (by decide) rfl ?_
  clear hl
  intro ls hl
  replace hf := zj_s hf
  obtain ⟨K_4, eK_4, hf⟩ := hf
  have kK_4 : ∀ (c_secret_3 : Nat → Int32) (H : Heap) (locs : List Loc) (ls : Array Slot), va_P D vwCl ([(h0, .inr (12, zmo hm c_thrown c_state c_test c_words c_ill c_before c_inRow c_first c_inWindow c_same c_made c_requests c_total (32 : Int32) c_rounds c_high c_low c_keyHigh c_keyLow)), ((hm 25), .inl (cy 1, 32, .inl c_k)), ((hm 37), .inl (cy 1, 64, .inl c_secret_3))]) H → va_D A ([(h0, .inr (12, zmo hm c_thrown c_state c_test c_words c_ill c_before c_inRow c_first c_inWindow c_same c_made c_requests c_total (32 : Int32) c_rounds c_high c_low c_keyHigh c_keyLow)), ((hm 25), .inl (cy 1, 32, .inl c_k)), ((hm 37), .inl (cy 1, 64, .inl c_secret_3))]) → va_S A s.heap H locs → lv_has ls 2 [] → K_4 c_secret_3 = some (c_secrets', c_secret') → GW H locs (F0 m 32 ls []) := by
    clear hf hl hP hD hS
    intro c_secret_3 H locs ls hP hD hS hl hf
    rw [eK_4] at hf
    clear eK_4
    refine hFr _ _ _ ?_
    cases hf
    exact W.vret (pc := 32) hx hb hr (fun t ht hW => ⟨rfl, ⟨by rw [ht]; exact hP, hD⟩, hS.F ht⟩) hS.2.2 (zdt_at zt_X10_secretK_0 18 rfl)
  clear eK_4
  refine hTo _ _ _ (zl_go (fun z => match z with | (i_1, c_secret_2) => ∀ (H : Heap) (locs : List Loc) (ls : Array Slot), va_P D vwCl ([(h0, .inr (12, zmo hm c_thrown c_state c_test c_words c_ill c_before c_inRow c_first c_inWindow c_same c_made c_requests c_total (32 : Int32) c_rounds c_high c_low c_keyHigh c_keyLow)), ((hm 25), .inl (cy 1, 32, .inl c_k)), ((hm 37), .inl (cy 1, 64, .inl c_secret_2))]) H → va_D A ([(h0, .inr (12, zmo hm c_thrown c_state c_test c_words c_ill c_before c_inRow c_first c_inWindow c_same c_made c_requests c_total (32 : Int32) c_rounds c_high c_low c_keyHigh c_keyLow)), ((hm 25), .inl (cy 1, 32, .inl c_k)), ((hm 37), .inl (cy 1, 64, .inl c_secret_2))]) → va_S A s.heap H locs → lv_has ls 2 [(0, .ref h0), (1, .int i_1)] → GW H locs (F0 m 8 ls [])) hf ?_ H locs ls hP hD hS (lv_sub hl [1, 0] rfl))
  clear hf hl hP hD hS
  intro self_5 ihself_5 z hf
  obtain ⟨i_1, c_secret_2⟩ := z
  intro H locs ls hP hD hS hl
  refine hFr _ _ _ ?_
  unfold b_X10_secretK_8 at hf
  refine lv_iload_n (pc := 8) hx hb (zdt_at zt_X10_secretK_0 5 rfl) rfl (lv_at hl 1 rfl) ?_
  refine lv_bipush (pc := 9) (v := (32 : Int32)) hx hb (zdt_at zt_X10_secretK_0 6 rfl) (by decide) ?_
  refine lv_icmp_ge (pc := 11) (tgt := 32) hx hb (zdt_at zt_X10_secretK_0 7 rfl) (by decide) (fun cn_ => ?t_6) (fun cn_ => ?f_7)
  case t_6 =>
    replace hf := zt_s cn_ hf
    clear cn_
    exact hTo _ _ _ (kK_4 _ H locs ls hP hD hS (lv_sub hl [] rfl) hf)
  replace hf := ze_s cn_ hf
  clear cn_
  refine lv_aload_n (pc := 14) hx hb (zdt_at zt_X10_secretK_0 8 rfl) rfl (lv_at hl 0 rfl) ?_
  refine va_get (pc := 15) (D := D) (ci := 12) (v := .ref (hm 37)) (C := RX10) (T := TX10) (N := 52) hx hb hts hcX10 hown hK hP 0 rfl rfl 37 (by decide) hw1 (fun _ h9 => h9) rfl (zdt_at zt_X10_secretK_0 9 rfl) ?_
  refine lv_iload_n (pc := 18) hx hb (zdt_at zt_X10_secretK_0 10 rfl) rfl (lv_at hl 1 rfl) ?_
  refine lv_aload_n (pc := 19) hx hb (zdt_at zt_X10_secretK_0 11 rfl) rfl (lv_at hl 0 rfl) ?_
  refine va_get (pc := 20) (D := D) (ci := 12) (v := .ref (hm 25)) (C := RX10) (T := TX10) (N := 52) hx hb hts hcX10 hown hK hP 0 rfl rfl 25 (by decide) hw2 (fun _ h9 => h9) rfl (zdt_at zt_X10_secretK_0 12 rfl) ?_
  refine lv_iload_n (pc := 23) hx hb (zdt_at zt_X10_secretK_0 13 rfl) rfl (lv_at hl 1 rfl) ?_
  replace hf := zk_s hf
  refine va_iald (pc := 24) hx hb hK hP 1 1 rfl rfl hf.1 (zdt_at zt_X10_secretK_0 14 rfl) ?_
  replace hf := hf.2
  replace hf := zk_s hf
  refine va_iast (pc := 25) hx hb hK hP hD hS 2 1 rfl rfl hf.1 (zdt_at zt_X10_secretK_0 15 rfl) ?_
  replace hf := hf.2
  clear hP hD hS
  intro H locs hP hD hS
  obtain ⟨c_secret_8, e_⟩ : ∃ q : Nat → Int32, q = (upd c_secret_2 i_1.toNatClampNeg (c_k i_1.toNatClampNeg)) := ⟨_, rfl⟩
  replace hf := zn_s hf e_
  replace hP : va_P D vwCl ([(h0, .inr (12, zmo hm c_thrown c_state c_test c_words c_ill c_before c_inRow c_first c_inWindow c_same c_made c_requests c_total (32 : Int32) c_rounds c_high c_low c_keyHigh c_keyLow)), ((hm 25), .inl (cy 1, 32, .inl c_k)), ((hm 37), .inl (cy 1, 64, .inl c_secret_8))]) H := by rw [e_]; exact hP
  replace hD : va_D A ([(h0, .inr (12, zmo hm c_thrown c_state c_test c_words c_ill c_before c_inRow c_first c_inWindow c_same c_made c_requests c_total (32 : Int32) c_rounds c_high c_low c_keyHigh c_keyLow)), ((hm 25), .inl (cy 1, 32, .inl c_k)), ((hm 37), .inl (cy 1, 64, .inl c_secret_8))]) := by rw [e_]; exact hD
  clear e_
  refine lv_iinc (pc := 26) (v := (i_1 + (1 : Int32))) (lv' := [(1, .int (i_1 + (1 : Int32))), (0, .ref h0)]) hx hb (zdt_at zt_X10_secretK_0 16 rfl) hl (k := 1) rfl rfl (by decide) rfl ?_
  clear hl
  intro ls hl
  refine lv_goto (pc := 29) (tgt := 8) hx hb (zdt_at zt_X10_secretK_0 17 rfl) (by decide) ?_
  exact hTo _ _ _ (ihself_5 _ hf H locs ls hP hD hS (lv_sub hl [1, 0] rfl))
set_option maxHeartbeats 4000000 in
set_option maxRecDepth 100000 in
theorem c_X10_nextV (l : Launch) (D : va_G) (cy : Nat → ClassId) (tt : Nat → Nat) (sz : Nat) (h0 : Nat) (hm : Nat → Nat) (c_secrets : Int32) (c_total : Int64) (c_ROUND : Nat → Int32) (c_START : Nat → Int32) (c_digest : Nat → Int32) (c_h : Nat → Int32) (c_inner : Nat → Int32) (c_k : Nat → Int32) (c_message : Nat → Int32) (c_secret : Nat → Int32) (c_v : Nat → Int32) (c_w : Nat → Int32) (c_x : Nat → Int32) (c_thrown : Int32) (c_state : Int32) (c_test : Int32) (c_words : Int32) (c_ill : Int32) (c_before : Int32) (c_inRow : Int32) (c_first : Int32) (c_inWindow : Int32) (c_same : Int32) (c_made : Int32) (c_requests : Int32) (c_rounds : Int32) (c_high : Int64) (c_low : Int64) (c_keyHigh : Int64) (c_keyLow : Int64) (c_secrets' : Int32) (c_total' : Int64) (c_digest' : Nat → Int32) (c_h' : Nat → Int32) (c_inner' : Nat → Int32) (c_message' : Nat → Int32) (c_secret' : Nat → Int32) (c_v' : Nat → Int32) (c_w' : Nat → Int32) (c_x' : Nat → Int32) (hf : f_X10_nextV c_secrets c_total c_ROUND c_START c_digest c_h c_inner c_k c_message c_secret c_v c_w c_x = some (c_secrets', c_total', c_digest', c_h', c_inner', c_message', c_secret', c_v', c_w', c_x')) : Met l yX10_nextV wsX10_nextV ({ frames := 5, cells := 0, slots := 0, locals := 110 }) (zPc D cy tt sz [.ref h0] ([(h0, .inr (12, zmo hm c_thrown c_state c_test c_words c_ill c_before c_inRow c_first c_inWindow c_same c_made c_requests c_total c_secrets c_rounds c_high c_low c_keyHigh c_keyLow)), ((hm 0), .inl (cy 1, 64, .inl c_ROUND)), ((hm 47), .inl (cy 1, 8, .inl c_START)), ((hm 35), .inl (cy 1, 32, .inl c_digest)), ((hm 30), .inl (cy 1, 8, .inl c_h)), ((hm 36), .inl (cy 1, 32, .inl c_inner)), ((hm 25), .inl (cy 1, 32, .inl c_k)), ((hm 33), .inl (cy 1, 64, .inl c_message)), ((hm 37), .inl (cy 1, 64, .inl c_secret)), ((hm 26), .inl (cy 1, 32, .inl c_v)), ((hm 31), .inl (cy 1, 64, .inl c_w)), ((hm 32), .inl (cy 1, 8, .inl c_x))])) (zQ D none ([(h0, .inr (12, zmo hm c_thrown c_state c_test c_words c_ill c_before c_inRow c_first c_inWindow c_same c_made c_requests c_total' c_secrets' c_rounds c_high c_low c_keyHigh c_keyLow)), ((hm 0), .inl (cy 1, 64, .inl c_ROUND)), ((hm 47), .inl (cy 1, 8, .inl c_START)), ((hm 35), .inl (cy 1, 32, .inl c_digest')), ((hm 30), .inl (cy 1, 8, .inl c_h')), ((hm 36), .inl (cy 1, 32, .inl c_inner')), ((hm 25), .inl (cy 1, 32, .inl c_k)), ((hm 33), .inl (cy 1, 64, .inl c_message')), ((hm 37), .inl (cy 1, 64, .inl c_secret')), ((hm 26), .inl (cy 1, 32, .inl c_v')), ((hm 31), .inl (cy 1, 64, .inl c_w')), ((hm 32), .inl (cy 1, 8, .inl c_x'))]) (va_A ([(h0, .inr (12, zmo hm c_thrown c_state c_test c_words c_ill c_before c_inRow c_first c_inWindow c_same c_made c_requests c_total c_secrets c_rounds c_high c_low c_keyHigh c_keyLow)), ((hm 0), .inl (cy 1, 64, .inl c_ROUND)), ((hm 47), .inl (cy 1, 8, .inl c_START)), ((hm 35), .inl (cy 1, 32, .inl c_digest)), ((hm 30), .inl (cy 1, 8, .inl c_h)), ((hm 36), .inl (cy 1, 32, .inl c_inner)), ((hm 25), .inl (cy 1, 32, .inl c_k)), ((hm 33), .inl (cy 1, 64, .inl c_message)), ((hm 37), .inl (cy 1, 64, .inl c_secret)), ((hm 26), .inl (cy 1, 32, .inl c_v)), ((hm 31), .inl (cy 1, 64, .inl c_w)), ((hm 32), .inl (cy 1, 8, .inl c_x))]) sz)) 0 0 (va_A ([(h0, .inr (12, zmo hm c_thrown c_state c_test c_words c_ill c_before c_inRow c_first c_inWindow c_same c_made c_requests c_total c_secrets c_rounds c_high c_low c_keyHigh c_keyLow)), ((hm 0), .inl (cy 1, 64, .inl c_ROUND)), ((hm 47), .inl (cy 1, 8, .inl c_START)), ((hm 35), .inl (cy 1, 32, .inl c_digest)), ((hm 30), .inl (cy 1, 8, .inl c_h)), ((hm 36), .inl (cy 1, 32, .inl c_inner)), ((hm 25), .inl (cy 1, 32, .inl c_k)), ((hm 33), .inl (cy 1, 64, .inl c_message)), ((hm 37), .inl (cy 1, 64, .inl c_secret)), ((hm 26), .inl (cy 1, 32, .inl c_v)), ((hm 31), .inl (cy 1, 64, .inl c_w)), ((hm 32), .inl (cy 1, 8, .inl c_x))]) sz) := by
  refine Met.ofW (cc := cX10_nextV) (maxL := 2) (ret := none) (by decide) rfl ?_
  intro p e s m args below meth c s₁ B hml hv
  obtain ⟨rfl, rfl, hP, hD0, hE⟩ := hv
  have hx := B.exec
  have hb := B.bytes
  have hr := B.returns
  have hts := atoms_spec (ws := wsX10_nextV) B.pre
  have hown : s.vm.findClass RX10 = some m.cls := findClass_of_methodNamed B.named
  have hlocks := B.notSynchronized
  clear B
  have hD := hD0.self (sz := s.heap.size)
  generalize hAe : va_A ([(h0, .inr (12, zmo hm c_thrown c_state c_test c_words c_ill c_before c_inRow c_first c_inWindow c_same c_made c_requests c_total c_secrets c_rounds c_high c_low c_keyHigh c_keyLow)), ((hm 0), .inl (cy 1, 64, .inl c_ROUND)), ((hm 47), .inl (cy 1, 8, .inl c_START)), ((hm 35), .inl (cy 1, 32, .inl c_digest)), ((hm 30), .inl (cy 1, 8, .inl c_h)), ((hm 36), .inl (cy 1, 32, .inl c_inner)), ((hm 25), .inl (cy 1, 32, .inl c_k)), ((hm 33), .inl (cy 1, 64, .inl c_message)), ((hm 37), .inl (cy 1, 64, .inl c_secret)), ((hm 26), .inl (cy 1, 32, .inl c_v)), ((hm 31), .inl (cy 1, 64, .inl c_w)), ((hm 32), .inl (cy 1, 8, .inl c_x))]) s.heap.size = A at hD hE ⊢
  have hA : ∀ q : Nat, s.heap.size ≤ q → A q := fun q h => by rw [← hAe]; exact Or.inr h
  clear hAe hD0
  have hS : va_S A s.heap s.heap [] := va_S.rf
  have hK := hE.1
  have hw0 := hts (.fieldLink RX10 117 "SealedModuleModel" "v" "[I") (by decide +kernel)
  have hw1 := hts (.fieldLink RX10 144 "SealedModuleModel" "digest" "[I") (by decide +kernel)
  have hcX10 : ∀ w ∈ u_ws RX10 TX10 52, w ∈ wsX10_nextV := (fun _ h => List.mem_cons_of_mem _ (List.mem_append_right _ h))
  have hl := lv_entry ([.ref h0]) (n := 2) (Nat.le_of_ble_eq_true rfl)
  rw [lg_entry_eq]
  generalize (lg_sl ([.ref h0]) ++ List.replicate (2 - (lg_sl ([.ref h0])).length) Slot.unset).toArray = ls at hl ⊢
  replace hl : lv_has ls 2 [(0, .ref h0)] := hl
  unfold f_X10_nextV at hf
  refine zgo (fun GW hTo hFr => ?_)
  refine hFr _ _ _ ?_
  obtain ⟨H, hHe⟩ : ∃ H, H = s.heap := ⟨_, rfl⟩
  obtain ⟨locs, hLe⟩ : ∃ L : List Loc, L = [] := ⟨_, rfl⟩
  rw [← hHe] at hP
  replace hS : va_S A s.heap H locs := by rw [hHe, hLe]; exact hS
  refine zat hHe.symm hLe.symm ?_
  clear hHe hLe
  refine lv_aload_n (pc := 0) hx hb (zdt_at zt_X10_nextV_0 0 rfl) rfl (lv_at hl 0 rfl) ?_
  replace hf := zb_s hf
  obtain ⟨⟨c_secrets_1, c_secret_2⟩, hc_, hf⟩ := hf
  refine zcn2 (pc := 1) (rv := none) (va_runV (As := []) (rest := []) ⟨hx, hb, hml, hown, hts⟩ (c_X10_secretK l D cy tt H.size h0 hm c_secrets c_k c_secret c_thrown c_state c_test c_words c_ill c_before c_inRow c_first c_inWindow c_same c_made c_requests c_total c_rounds c_high c_low c_keyHigh c_keyLow c_secrets_1 c_secret_2 hc_) (cwV 0 hts gX10_nextV_X10_secretK rfl rfl rfl (by decide +kernel) ⟨Nat.le_of_ble_eq_true rfl, Nat.le_of_ble_eq_true rfl⟩) ⟨zblind, va_recv hK hP (ci := 12) (q0 := 0) rfl rfl, zpre hE hS (hP.sub [0, 6, 8] rfl) (hD.sub [0, 6, 8] (by decide) rfl) (va_free hD hS hA [0, 6, 8] rfl)⟩ rfl rfl hl.1 rfl (lv_room (Nat.le_of_ble_eq_true rfl)) (zdt_at zt_X10_nextV_0 1 rfl) ⟨Nat.zero_le _, Nat.zero_le _⟩) hS hP hD (va_free hD hS hA [0, 6, 8] rfl) [0, 6, 8] rfl (by decide) rfl ?_
  clear hP hD hS hc_
  intro H locs hP hD hS
  replace hP : va_P D vwCl ([(h0, .inr (12, zmo hm c_thrown c_state c_test c_words c_ill c_before c_inRow c_first c_inWindow c_same c_made c_requests c_total c_secrets_1 c_rounds c_high c_low c_keyHigh c_keyLow)), ((hm 0), .inl (cy 1, 64, .inl c_ROUND)), ((hm 47), .inl (cy 1, 8, .inl c_START)), ((hm 35), .inl (cy 1, 32, .inl c_digest)), ((hm 30), .inl (cy 1, 8, .inl c_h)), ((hm 36), .inl (cy 1, 32, .inl c_inner)), ((hm 25), .inl (cy 1, 32, .inl c_k)), ((hm 33), .inl (cy 1, 64, .inl c_message)), ((hm 37), .inl (cy 1, 64, .inl c_secret_2)), ((hm 26), .inl (cy 1, 32, .inl c_v)), ((hm 31), .inl (cy 1, 64, .inl c_w)), ((hm 32), .inl (cy 1, 8, .inl c_x))]) H := hP
  replace hD : va_D A ([(h0, .inr (12, zmo hm c_thrown c_state c_test c_words c_ill c_before c_inRow c_first c_inWindow c_same c_made c_requests c_total c_secrets_1 c_rounds c_high c_low c_keyHigh c_keyLow)), ((hm 0), .inl (cy 1, 64, .inl c_ROUND)), ((hm 47), .inl (cy 1, 8, .inl c_START)), ((hm 35), .inl (cy 1, 32, .inl c_digest)), ((hm 30), .inl (cy 1, 8, .inl c_h)), ((hm 36), .inl (cy 1, 32, .inl c_inner)), ((hm 25), .inl (cy 1, 32, .inl c_k)), ((hm 33), .inl (cy 1, 64, .inl c_message)), ((hm 37), .inl (cy 1, 64, .inl c_secret_2)), ((hm 26), .inl (cy 1, 32, .inl c_v)), ((hm 31), .inl (cy 1, 64, .inl c_w)), ((hm 32), .inl (cy 1, 8, .inl c_x))]) := hD
  refine W.eq (g2 := F0 m 4 ls []) rfl ?_
  refine lv_aload_n (pc := 4) hx hb (zdt_at zt_X10_nextV_0 2 rfl) rfl (lv_at hl 0 rfl) ?_
  replace hf := zb_s hf
  obtain ⟨⟨c_total_3, c_h_4, c_message_5, c_w_6, c_x_7⟩, hc_, hf⟩ := hf
  refine zcn2 (pc := 5) (rv := none) (va_runV (As := []) (rest := []) ⟨hx, hb, hml, hown, hts⟩ (c_X10_beginMac l D cy tt H.size h0 hm c_secrets_1 c_total c_ROUND c_START c_h c_message c_secret_2 c_w c_x c_thrown c_state c_test c_words c_ill c_before c_inRow c_first c_inWindow c_same c_made c_requests c_rounds c_high c_low c_keyHigh c_keyLow c_total_3 c_h_4 c_message_5 c_w_6 c_x_7 hc_) (cwV 0 hts gX10_nextV_X10_beginMac rfl rfl rfl (by decide +kernel) ⟨Nat.le_of_ble_eq_true rfl, Nat.le_of_ble_eq_true rfl⟩) ⟨zblind, va_recv hK hP (ci := 12) (q0 := 0) rfl rfl, zpre hE hS (hP.sub [0, 1, 2, 4, 7, 8, 10, 11] rfl) (hD.sub [0, 1, 2, 4, 7, 8, 10, 11] (by decide) rfl) (va_free hD hS hA [0, 1, 2, 4, 7, 8, 10, 11] rfl)⟩ rfl rfl hl.1 rfl (lv_room (Nat.le_of_ble_eq_true rfl)) (zdt_at zt_X10_nextV_0 3 rfl) ⟨Nat.zero_le _, Nat.zero_le _⟩) hS hP hD (va_free hD hS hA [0, 1, 2, 4, 7, 8, 10, 11] rfl) [0, 1, 2, 4, 7, 8, 10, 11] rfl (by decide) rfl ?_
  clear hP hD hS hc_
  intro H locs hP hD hS
  replace hP : va_P D vwCl ([(h0, .inr (12, zmo hm c_thrown c_state c_test c_words c_ill c_before c_inRow c_first c_inWindow c_same c_made c_requests c_total_3 c_secrets_1 c_rounds c_high c_low c_keyHigh c_keyLow)), ((hm 0), .inl (cy 1, 64, .inl c_ROUND)), ((hm 47), .inl (cy 1, 8, .inl c_START)), ((hm 35), .inl (cy 1, 32, .inl c_digest)), ((hm 30), .inl (cy 1, 8, .inl c_h_4)), ((hm 36), .inl (cy 1, 32, .inl c_inner)), ((hm 25), .inl (cy 1, 32, .inl c_k)), ((hm 33), .inl (cy 1, 64, .inl c_message_5)), ((hm 37), .inl (cy 1, 64, .inl c_secret_2)), ((hm 26), .inl (cy 1, 32, .inl c_v)), ((hm 31), .inl (cy 1, 64, .inl c_w_6)), ((hm 32), .inl (cy 1, 8, .inl c_x_7))]) H := hP
  replace hD : va_D A ([(h0, .inr (12, zmo hm c_thrown c_state c_test c_words c_ill c_before c_inRow c_first c_inWindow c_same c_made c_requests c_total_3 c_secrets_1 c_rounds c_high c_low c_keyHigh c_keyLow)), ((hm 0), .inl (cy 1, 64, .inl c_ROUND)), ((hm 47), .inl (cy 1, 8, .inl c_START)), ((hm 35), .inl (cy 1, 32, .inl c_digest)), ((hm 30), .inl (cy 1, 8, .inl c_h_4)), ((hm 36), .inl (cy 1, 32, .inl c_inner)), ((hm 25), .inl (cy 1, 32, .inl c_k)), ((hm 33), .inl (cy 1, 64, .inl c_message_5)), ((hm 37), .inl (cy 1, 64, .inl c_secret_2)), ((hm 26), .inl (cy 1, 32, .inl c_v)), ((hm 31), .inl (cy 1, 64, .inl c_w_6)), ((hm 32), .inl (cy 1, 8, .inl c_x_7))]) := hD
  refine W.eq (g2 := F0 m 8 ls []) rfl ?_
  refine lv_iconst (pc := 8) (v := (0 : Int32)) hx hb (zdt_at zt_X10_nextV_0 4 rfl) (by decide) ?_
  refine lv_istore_n (pc := 9) (lv' := [(1, .int (0 : Int32)), (0, .ref h0)]) hx hb (zdt_at zt_X10_nextV_0 5 rfl) rfl hl (by decide) rfl ?_
  clear hl
  intro ls hl
  replace hf := zj_s hf
  obtain ⟨K_19, eK_19, hf⟩ := hf
  have kK_19 : ∀ (c_h_14 : Nat → Int32) (c_message_15 : Nat → Int32) (c_total_16 : Int64) (c_w_17 : Nat → Int32) (c_x_18 : Nat → Int32) (H : Heap) (locs : List Loc) (ls : Array Slot), va_P D vwCl ([(h0, .inr (12, zmo hm c_thrown c_state c_test c_words c_ill c_before c_inRow c_first c_inWindow c_same c_made c_requests c_total_16 c_secrets_1 c_rounds c_high c_low c_keyHigh c_keyLow)), ((hm 0), .inl (cy 1, 64, .inl c_ROUND)), ((hm 47), .inl (cy 1, 8, .inl c_START)), ((hm 35), .inl (cy 1, 32, .inl c_digest)), ((hm 30), .inl (cy 1, 8, .inl c_h_14)), ((hm 36), .inl (cy 1, 32, .inl c_inner)), ((hm 25), .inl (cy 1, 32, .inl c_k)), ((hm 33), .inl (cy 1, 64, .inl c_message_15)), ((hm 37), .inl (cy 1, 64, .inl c_secret_2)), ((hm 26), .inl (cy 1, 32, .inl c_v)), ((hm 31), .inl (cy 1, 64, .inl c_w_17)), ((hm 32), .inl (cy 1, 8, .inl c_x_18))]) H → va_D A ([(h0, .inr (12, zmo hm c_thrown c_state c_test c_words c_ill c_before c_inRow c_first c_inWindow c_same c_made c_requests c_total_16 c_secrets_1 c_rounds c_high c_low c_keyHigh c_keyLow)), ((hm 0), .inl (cy 1, 64, .inl c_ROUND)), ((hm 47), .inl (cy 1, 8, .inl c_START)), ((hm 35), .inl (cy 1, 32, .inl c_digest)), ((hm 30), .inl (cy 1, 8, .inl c_h_14)), ((hm 36), .inl (cy 1, 32, .inl c_inner)), ((hm 25), .inl (cy 1, 32, .inl c_k)), ((hm 33), .inl (cy 1, 64, .inl c_message_15)), ((hm 37), .inl (cy 1, 64, .inl c_secret_2)), ((hm 26), .inl (cy 1, 32, .inl c_v)), ((hm 31), .inl (cy 1, 64, .inl c_w_17)), ((hm 32), .inl (cy 1, 8, .inl c_x_18))]) → va_S A s.heap H locs → lv_has ls 2 [(0, .ref h0)] → K_19 c_h_14 c_message_15 c_total_16 c_w_17 c_x_18 = some (c_secrets', c_total', c_digest', c_h', c_inner', c_message', c_secret', c_v', c_w', c_x') → GW H locs (F0 m 32 ls []) := by
    clear hf hl hP hD hS
    intro c_h_14 c_message_15 c_total_16 c_w_17 c_x_18 H locs ls hP hD hS hl hf
    rw [eK_19] at hf
    clear eK_19
    refine hFr _ _ _ ?_
    refine lv_aload_n (pc := 32) hx hb (zdt_at zt_X10_nextV_0 17 rfl) rfl (lv_at hl 0 rfl) ?_
    replace hf := zb_s hf
    obtain ⟨⟨c_total_20, c_digest_21, c_h_22, c_inner_23, c_message_24, c_w_25, c_x_26⟩, hc_, hf⟩ := hf
    refine zcn2 (pc := 33) (rv := none) (va_runV (As := []) (rest := []) ⟨hx, hb, hml, hown, hts⟩ (c_X10_endMac l D cy tt H.size h0 hm c_secrets_1 c_total_16 c_ROUND c_START c_digest c_h_14 c_inner c_message_15 c_secret_2 c_w_17 c_x_18 c_thrown c_state c_test c_words c_ill c_before c_inRow c_first c_inWindow c_same c_made c_requests c_rounds c_high c_low c_keyHigh c_keyLow c_total_20 c_digest_21 c_h_22 c_inner_23 c_message_24 c_w_25 c_x_26 hc_) (cwV 0 hts gX10_nextV_X10_endMac rfl rfl rfl (by decide +kernel) ⟨Nat.le_of_ble_eq_true rfl, Nat.le_of_ble_eq_true rfl⟩) ⟨zblind, va_recv hK hP (ci := 12) (q0 := 0) rfl rfl, zpre hE hS (hP.sub [0, 1, 2, 3, 4, 5, 7, 8, 10, 11] rfl) (hD.sub [0, 1, 2, 3, 4, 5, 7, 8, 10, 11] (by decide) rfl) (va_free hD hS hA [0, 1, 2, 3, 4, 5, 7, 8, 10, 11] rfl)⟩ rfl rfl hl.1 rfl (lv_room (Nat.le_of_ble_eq_true rfl)) (zdt_at zt_X10_nextV_0 18 rfl) ⟨Nat.zero_le _, Nat.zero_le _⟩) hS hP hD (va_free hD hS hA [0, 1, 2, 3, 4, 5, 7, 8, 10, 11] rfl) [0, 1, 2, 3, 4, 5, 7, 8, 10, 11] rfl (by decide) rfl ?_
    clear hP hD hS hc_
    intro H locs hP hD hS
    replace hP : va_P D vwCl ([(h0, .inr (12, zmo hm c_thrown c_state c_test c_words c_ill c_before c_inRow c_first c_inWindow c_same c_made c_requests c_total_20 c_secrets_1 c_rounds c_high c_low c_keyHigh c_keyLow)), ((hm 0), .inl (cy 1, 64, .inl c_ROUND)), ((hm 47), .inl (cy 1, 8, .inl c_START)), ((hm 35), .inl (cy 1, 32, .inl c_digest_21)), ((hm 30), .inl (cy 1, 8, .inl c_h_22)), ((hm 36), .inl (cy 1, 32, .inl c_inner_23)), ((hm 25), .inl (cy 1, 32, .inl c_k)), ((hm 33), .inl (cy 1, 64, .inl c_message_24)), ((hm 37), .inl (cy 1, 64, .inl c_secret_2)), ((hm 26), .inl (cy 1, 32, .inl c_v)), ((hm 31), .inl (cy 1, 64, .inl c_w_25)), ((hm 32), .inl (cy 1, 8, .inl c_x_26))]) H := hP
    replace hD : va_D A ([(h0, .inr (12, zmo hm c_thrown c_state c_test c_words c_ill c_before c_inRow c_first c_inWindow c_same c_made c_requests c_total_20 c_secrets_1 c_rounds c_high c_low c_keyHigh c_keyLow)), ((hm 0), .inl (cy 1, 64, .inl c_ROUND)), ((hm 47), .inl (cy 1, 8, .inl c_START)), ((hm 35), .inl (cy 1, 32, .inl c_digest_21)), ((hm 30), .inl (cy 1, 8, .inl c_h_22)), ((hm 36), .inl (cy 1, 32, .inl c_inner_23)), ((hm 25), .inl (cy 1, 32, .inl c_k)), ((hm 33), .inl (cy 1, 64, .inl c_message_24)), ((hm 37), .inl (cy 1, 64, .inl c_secret_2)), ((hm 26), .inl (cy 1, 32, .inl c_v)), ((hm 31), .inl (cy 1, 64, .inl c_w_25)), ((hm 32), .inl (cy 1, 8, .inl c_x_26))]) := hD
    refine W.eq (g2 := F0 m 36 ls []) rfl ?_
    refine lv_iconst (pc := 36) (v := (0 : Int32)) hx hb (zdt_at zt_X10_nextV_0 19 rfl) (by decide) ?_
    refine lv_istore_n (pc := 37) (lv' := [(1, .int (0 : Int32)), (0, .ref h0)]) hx hb (zdt_at zt_X10_nextV_0 20 rfl) rfl hl (by decide) rfl ?_
    clear hl
    intro ls hl
    replace hf := zj_s hf
    obtain ⟨K_30, eK_30, hf⟩ := hf
    have kK_30 : ∀ (c_v_29 : Nat → Int32) (H : Heap) (locs : List Loc) (ls : Array Slot), va_P D vwCl ([(h0, .inr (12, zmo hm c_thrown c_state c_test c_words c_ill c_before c_inRow c_first c_inWindow c_same c_made c_requests c_total_20 c_secrets_1 c_rounds c_high c_low c_keyHigh c_keyLow)), ((hm 0), .inl (cy 1, 64, .inl c_ROUND)), ((hm 47), .inl (cy 1, 8, .inl c_START)), ((hm 35), .inl (cy 1, 32, .inl c_digest_21)), ((hm 30), .inl (cy 1, 8, .inl c_h_22)), ((hm 36), .inl (cy 1, 32, .inl c_inner_23)), ((hm 25), .inl (cy 1, 32, .inl c_k)), ((hm 33), .inl (cy 1, 64, .inl c_message_24)), ((hm 37), .inl (cy 1, 64, .inl c_secret_2)), ((hm 26), .inl (cy 1, 32, .inl c_v_29)), ((hm 31), .inl (cy 1, 64, .inl c_w_25)), ((hm 32), .inl (cy 1, 8, .inl c_x_26))]) H → va_D A ([(h0, .inr (12, zmo hm c_thrown c_state c_test c_words c_ill c_before c_inRow c_first c_inWindow c_same c_made c_requests c_total_20 c_secrets_1 c_rounds c_high c_low c_keyHigh c_keyLow)), ((hm 0), .inl (cy 1, 64, .inl c_ROUND)), ((hm 47), .inl (cy 1, 8, .inl c_START)), ((hm 35), .inl (cy 1, 32, .inl c_digest_21)), ((hm 30), .inl (cy 1, 8, .inl c_h_22)), ((hm 36), .inl (cy 1, 32, .inl c_inner_23)), ((hm 25), .inl (cy 1, 32, .inl c_k)), ((hm 33), .inl (cy 1, 64, .inl c_message_24)), ((hm 37), .inl (cy 1, 64, .inl c_secret_2)), ((hm 26), .inl (cy 1, 32, .inl c_v_29)), ((hm 31), .inl (cy 1, 64, .inl c_w_25)), ((hm 32), .inl (cy 1, 8, .inl c_x_26))]) → va_S A s.heap H locs → lv_has ls 2 [] → K_30 c_v_29 = some (c_secrets', c_total', c_digest', c_h', c_inner', c_message', c_secret', c_v', c_w', c_x') → GW H locs (F0 m 62 ls []) := by
      clear hf hl hP hD hS
      intro c_v_29 H locs ls hP hD hS hl hf
      rw [eK_30] at hf
      clear eK_30
      refine hFr _ _ _ ?_
      cases hf
      exact W.vret (pc := 62) hx hb hr (fun t ht hW => ⟨rfl, ⟨by rw [ht]; exact hP, hD⟩, hS.F ht⟩) hS.2.2 (zdt_at zt_X10_nextV_0 34 rfl)
    clear eK_30
    refine hTo _ _ _ (zl_go (fun z => match z with | (i_27, c_v_28) => ∀ (H : Heap) (locs : List Loc) (ls : Array Slot), va_P D vwCl ([(h0, .inr (12, zmo hm c_thrown c_state c_test c_words c_ill c_before c_inRow c_first c_inWindow c_same c_made c_requests c_total_20 c_secrets_1 c_rounds c_high c_low c_keyHigh c_keyLow)), ((hm 0), .inl (cy 1, 64, .inl c_ROUND)), ((hm 47), .inl (cy 1, 8, .inl c_START)), ((hm 35), .inl (cy 1, 32, .inl c_digest_21)), ((hm 30), .inl (cy 1, 8, .inl c_h_22)), ((hm 36), .inl (cy 1, 32, .inl c_inner_23)), ((hm 25), .inl (cy 1, 32, .inl c_k)), ((hm 33), .inl (cy 1, 64, .inl c_message_24)), ((hm 37), .inl (cy 1, 64, .inl c_secret_2)), ((hm 26), .inl (cy 1, 32, .inl c_v_28)), ((hm 31), .inl (cy 1, 64, .inl c_w_25)), ((hm 32), .inl (cy 1, 8, .inl c_x_26))]) H → va_D A ([(h0, .inr (12, zmo hm c_thrown c_state c_test c_words c_ill c_before c_inRow c_first c_inWindow c_same c_made c_requests c_total_20 c_secrets_1 c_rounds c_high c_low c_keyHigh c_keyLow)), ((hm 0), .inl (cy 1, 64, .inl c_ROUND)), ((hm 47), .inl (cy 1, 8, .inl c_START)), ((hm 35), .inl (cy 1, 32, .inl c_digest_21)), ((hm 30), .inl (cy 1, 8, .inl c_h_22)), ((hm 36), .inl (cy 1, 32, .inl c_inner_23)), ((hm 25), .inl (cy 1, 32, .inl c_k)), ((hm 33), .inl (cy 1, 64, .inl c_message_24)), ((hm 37), .inl (cy 1, 64, .inl c_secret_2)), ((hm 26), .inl (cy 1, 32, .inl c_v_28)), ((hm 31), .inl (cy 1, 64, .inl c_w_25)), ((hm 32), .inl (cy 1, 8, .inl c_x_26))]) → va_S A s.heap H locs → lv_has ls 2 [(0, .ref h0), (1, .int i_27)] → GW H locs (F0 m 38 ls [])) hf ?_ H locs ls hP hD hS (lv_sub hl [1, 0] rfl))
    clear hf hl hP hD hS
    intro self_31 ihself_31 z hf
    obtain ⟨i_27, c_v_28⟩ := z
    intro H locs ls hP hD hS hl
    refine hFr _ _ _ ?_
    unfold b_X10_nextV_38 at hf
    refine lv_iload_n (pc := 38) hx hb (zdt_at zt_X10_nextV_0 21 rfl) rfl (lv_at hl 1 rfl) ?_
    refine lv_bipush (pc := 39) (v := (32 : Int32)) hx hb (zdt_at zt_X10_nextV_0 22 rfl) (by decide) ?_
    refine lv_icmp_ge (pc := 41) (tgt := 62) hx hb (zdt_at zt_X10_nextV_0 23 rfl) (by decide) (fun cn_ => ?t_32) (fun cn_ => ?f_33)
    case t_32 =>
      replace hf := zt_s cn_ hf
      clear cn_
      exact hTo _ _ _ (kK_30 _ H locs ls hP hD hS (lv_sub hl [] rfl) hf)
    replace hf := ze_s cn_ hf
    clear cn_
    refine lv_aload_n (pc := 44) hx hb (zdt_at zt_X10_nextV_0 24 rfl) rfl (lv_at hl 0 rfl) ?_
    refine va_get (pc := 45) (D := D) (ci := 12) (v := .ref (hm 26)) (C := RX10) (T := TX10) (N := 52) hx hb hts hcX10 hown hK hP 0 rfl rfl 26 (by decide) hw0 (fun _ h9 => h9) rfl (zdt_at zt_X10_nextV_0 25 rfl) ?_
    refine lv_iload_n (pc := 48) hx hb (zdt_at zt_X10_nextV_0 26 rfl) rfl (lv_at hl 1 rfl) ?_
    refine lv_aload_n (pc := 49) hx hb (zdt_at zt_X10_nextV_0 27 rfl) rfl (lv_at hl 0 rfl) ?_
    refine va_get (pc := 50) (D := D) (ci := 12) (v := .ref (hm 35)) (C := RX10) (T := TX10) (N := 52) hx hb hts hcX10 hown hK hP 0 rfl rfl 35 (by decide) hw1 (fun _ h9 => h9) rfl (zdt_at zt_X10_nextV_0 28 rfl) ?_
    refine lv_iload_n (pc := 53) hx hb (zdt_at zt_X10_nextV_0 29 rfl) rfl (lv_at hl 1 rfl) ?_
    replace hf := zk_s hf
    refine va_iald (pc := 54) hx hb hK hP 3 1 rfl rfl hf.1 (zdt_at zt_X10_nextV_0 30 rfl) ?_
    replace hf := hf.2
    replace hf := zk_s hf
    refine va_iast (pc := 55) hx hb hK hP hD hS 9 1 rfl rfl hf.1 (zdt_at zt_X10_nextV_0 31 rfl) ?_
    replace hf := hf.2
    clear hP hD hS
    intro H locs hP hD hS
    obtain ⟨c_v_34, e_⟩ : ∃ q : Nat → Int32, q = (upd c_v_28 i_27.toNatClampNeg (c_digest_21 i_27.toNatClampNeg)) := ⟨_, rfl⟩
    replace hf := zn_s hf e_
    replace hP : va_P D vwCl ([(h0, .inr (12, zmo hm c_thrown c_state c_test c_words c_ill c_before c_inRow c_first c_inWindow c_same c_made c_requests c_total_20 c_secrets_1 c_rounds c_high c_low c_keyHigh c_keyLow)), ((hm 0), .inl (cy 1, 64, .inl c_ROUND)), ((hm 47), .inl (cy 1, 8, .inl c_START)), ((hm 35), .inl (cy 1, 32, .inl c_digest_21)), ((hm 30), .inl (cy 1, 8, .inl c_h_22)), ((hm 36), .inl (cy 1, 32, .inl c_inner_23)), ((hm 25), .inl (cy 1, 32, .inl c_k)), ((hm 33), .inl (cy 1, 64, .inl c_message_24)), ((hm 37), .inl (cy 1, 64, .inl c_secret_2)), ((hm 26), .inl (cy 1, 32, .inl c_v_34)), ((hm 31), .inl (cy 1, 64, .inl c_w_25)), ((hm 32), .inl (cy 1, 8, .inl c_x_26))]) H := by rw [e_]; exact hP
    replace hD : va_D A ([(h0, .inr (12, zmo hm c_thrown c_state c_test c_words c_ill c_before c_inRow c_first c_inWindow c_same c_made c_requests c_total_20 c_secrets_1 c_rounds c_high c_low c_keyHigh c_keyLow)), ((hm 0), .inl (cy 1, 64, .inl c_ROUND)), ((hm 47), .inl (cy 1, 8, .inl c_START)), ((hm 35), .inl (cy 1, 32, .inl c_digest_21)), ((hm 30), .inl (cy 1, 8, .inl c_h_22)), ((hm 36), .inl (cy 1, 32, .inl c_inner_23)), ((hm 25), .inl (cy 1, 32, .inl c_k)), ((hm 33), .inl (cy 1, 64, .inl c_message_24)), ((hm 37), .inl (cy 1, 64, .inl c_secret_2)), ((hm 26), .inl (cy 1, 32, .inl c_v_34)), ((hm 31), .inl (cy 1, 64, .inl c_w_25)), ((hm 32), .inl (cy 1, 8, .inl c_x_26))]) := by rw [e_]; exact hD
    clear e_
    refine lv_iinc (pc := 56) (v := (i_27 + (1 : Int32))) (lv' := [(1, .int (i_27 + (1 : Int32))), (0, .ref h0)]) hx hb (zdt_at zt_X10_nextV_0 32 rfl) hl (k := 1) rfl rfl (by decide) rfl ?_
    clear hl
    intro ls hl
    refine lv_goto (pc := 59) (tgt := 38) hx hb (zdt_at zt_X10_nextV_0 33 rfl) (by decide) ?_
    exact hTo _ _ _ (ihself_31 _ hf H locs ls hP hD hS (lv_sub hl [1, 0] rfl))
  clear eK_19
  refine hTo _ _ _ (zl_go (fun z => match z with | (i_8, c_h_9, c_message_10, c_total_11, c_w_12, c_x_13) => ∀ (H : Heap) (locs : List Loc) (ls : Array Slot), va_P D vwCl ([(h0, .inr (12, zmo hm c_thrown c_state c_test c_words c_ill c_before c_inRow c_first c_inWindow c_same c_made c_requests c_total_11 c_secrets_1 c_rounds c_high c_low c_keyHigh c_keyLow)), ((hm 0), .inl (cy 1, 64, .inl c_ROUND)), ((hm 47), .inl (cy 1, 8, .inl c_START)), ((hm 35), .inl (cy 1, 32, .inl c_digest)), ((hm 30), .inl (cy 1, 8, .inl c_h_9)), ((hm 36), .inl (cy 1, 32, .inl c_inner)), ((hm 25), .inl (cy 1, 32, .inl c_k)), ((hm 33), .inl (cy 1, 64, .inl c_message_10)), ((hm 37), .inl (cy 1, 64, .inl c_secret_2)), ((hm 26), .inl (cy 1, 32, .inl c_v)), ((hm 31), .inl (cy 1, 64, .inl c_w_12)), ((hm 32), .inl (cy 1, 8, .inl c_x_13))]) H → va_D A ([(h0, .inr (12, zmo hm c_thrown c_state c_test c_words c_ill c_before c_inRow c_first c_inWindow c_same c_made c_requests c_total_11 c_secrets_1 c_rounds c_high c_low c_keyHigh c_keyLow)), ((hm 0), .inl (cy 1, 64, .inl c_ROUND)), ((hm 47), .inl (cy 1, 8, .inl c_START)), ((hm 35), .inl (cy 1, 32, .inl c_digest)), ((hm 30), .inl (cy 1, 8, .inl c_h_9)), ((hm 36), .inl (cy 1, 32, .inl c_inner)), ((hm 25), .inl (cy 1, 32, .inl c_k)), ((hm 33), .inl (cy 1, 64, .inl c_message_10)), ((hm 37), .inl (cy 1, 64, .inl c_secret_2)), ((hm 26), .inl (cy 1, 32, .inl c_v)), ((hm 31), .inl (cy 1, 64, .inl c_w_12)), ((hm 32), .inl (cy 1, 8, .inl c_x_13))]) → va_S A s.heap H locs → lv_has ls 2 [(0, .ref h0), (1, .int i_8)] → GW H locs (F0 m 10 ls [])) hf ?_ H locs ls hP hD hS (lv_sub hl [1, 0] rfl))
  clear hf hl hP hD hS
  intro self_35 ihself_35 z hf
  obtain ⟨i_8, c_h_9, c_message_10, c_total_11, c_w_12, c_x_13⟩ := z
  intro H locs ls hP hD hS hl
  refine hFr _ _ _ ?_
  unfold b_X10_nextV_10 at hf
  refine lv_iload_n (pc := 10) hx hb (zdt_at zt_X10_nextV_0 6 rfl) rfl (lv_at hl 1 rfl) ?_
  refine lv_bipush (pc := 11) (v := (32 : Int32)) hx hb (zdt_at zt_X10_nextV_0 7 rfl) (by decide) ?_
  refine lv_icmp_ge (pc := 13) (tgt := 32) hx hb (zdt_at zt_X10_nextV_0 8 rfl) (by decide) (fun cn_ => ?t_36) (fun cn_ => ?f_37)
  case t_36 =>
    replace hf := zt_s cn_ hf
    clear cn_
    exact hTo _ _ _ (kK_19 _ _ _ _ _ H locs ls hP hD hS (lv_sub hl [0] rfl) hf)
  replace hf := ze_s cn_ hf
  clear cn_
  refine lv_aload_n (pc := 16) hx hb (zdt_at zt_X10_nextV_0 9 rfl) rfl (lv_at hl 0 rfl) ?_
  refine lv_aload_n (pc := 17) hx hb (zdt_at zt_X10_nextV_0 10 rfl) rfl (lv_at hl 0 rfl) ?_
  refine va_get (pc := 18) (D := D) (ci := 12) (v := .ref (hm 26)) (C := RX10) (T := TX10) (N := 52) hx hb hts hcX10 hown hK hP 0 rfl rfl 26 (by decide) hw0 (fun _ h9 => h9) rfl (zdt_at zt_X10_nextV_0 11 rfl) ?_
  refine lv_iload_n (pc := 21) hx hb (zdt_at zt_X10_nextV_0 12 rfl) rfl (lv_at hl 1 rfl) ?_
  replace hf := zk_s hf
  refine va_iald (pc := 22) hx hb hK hP 9 1 rfl rfl hf.1 (zdt_at zt_X10_nextV_0 13 rfl) ?_
  replace hf := hf.2
  replace hf := zb_s hf
  obtain ⟨⟨c_total_38, c_h_39, c_message_40, c_w_41, c_x_42⟩, hc_, hf⟩ := hf
  refine zcn2 (pc := 23) (rv := none) (va_runV (As := [.int (c_v i_8.toNatClampNeg)]) (rest := []) ⟨hx, hb, hml, hown, hts⟩ (c_X10_say l D cy tt H.size h0 hm (c_v i_8.toNatClampNeg) c_total_11 c_ROUND c_h_9 c_message_10 c_w_12 c_x_13 c_thrown c_state c_test c_words c_ill c_before c_inRow c_first c_inWindow c_same c_made c_requests c_secrets_1 c_rounds c_high c_low c_keyHigh c_keyLow c_total_38 c_h_39 c_message_40 c_w_41 c_x_42 hc_) (cwV 1 hts gX10_nextV_X10_say rfl rfl rfl (by decide +kernel) ⟨Nat.le_of_ble_eq_true rfl, Nat.le_of_ble_eq_true rfl⟩) ⟨zblind, va_recv hK hP (ci := 12) (q0 := 0) rfl rfl, zpre hE hS (hP.sub [0, 1, 4, 7, 10, 11] rfl) (hD.sub [0, 1, 4, 7, 10, 11] (by decide) rfl) (va_free hD hS hA [0, 1, 4, 7, 10, 11] rfl)⟩ rfl rfl hl.1 rfl (lv_room (Nat.le_of_ble_eq_true rfl)) (zdt_at zt_X10_nextV_0 14 rfl) ⟨Nat.zero_le _, Nat.zero_le _⟩) hS hP hD (va_free hD hS hA [0, 1, 4, 7, 10, 11] rfl) [0, 1, 4, 7, 10, 11] rfl (by decide) rfl ?_
  clear hP hD hS hc_
  intro H locs hP hD hS
  replace hP : va_P D vwCl ([(h0, .inr (12, zmo hm c_thrown c_state c_test c_words c_ill c_before c_inRow c_first c_inWindow c_same c_made c_requests c_total_38 c_secrets_1 c_rounds c_high c_low c_keyHigh c_keyLow)), ((hm 0), .inl (cy 1, 64, .inl c_ROUND)), ((hm 47), .inl (cy 1, 8, .inl c_START)), ((hm 35), .inl (cy 1, 32, .inl c_digest)), ((hm 30), .inl (cy 1, 8, .inl c_h_39)), ((hm 36), .inl (cy 1, 32, .inl c_inner)), ((hm 25), .inl (cy 1, 32, .inl c_k)), ((hm 33), .inl (cy 1, 64, .inl c_message_40)), ((hm 37), .inl (cy 1, 64, .inl c_secret_2)), ((hm 26), .inl (cy 1, 32, .inl c_v)), ((hm 31), .inl (cy 1, 64, .inl c_w_41)), ((hm 32), .inl (cy 1, 8, .inl c_x_42))]) H := hP
  replace hD : va_D A ([(h0, .inr (12, zmo hm c_thrown c_state c_test c_words c_ill c_before c_inRow c_first c_inWindow c_same c_made c_requests c_total_38 c_secrets_1 c_rounds c_high c_low c_keyHigh c_keyLow)), ((hm 0), .inl (cy 1, 64, .inl c_ROUND)), ((hm 47), .inl (cy 1, 8, .inl c_START)), ((hm 35), .inl (cy 1, 32, .inl c_digest)), ((hm 30), .inl (cy 1, 8, .inl c_h_39)), ((hm 36), .inl (cy 1, 32, .inl c_inner)), ((hm 25), .inl (cy 1, 32, .inl c_k)), ((hm 33), .inl (cy 1, 64, .inl c_message_40)), ((hm 37), .inl (cy 1, 64, .inl c_secret_2)), ((hm 26), .inl (cy 1, 32, .inl c_v)), ((hm 31), .inl (cy 1, 64, .inl c_w_41)), ((hm 32), .inl (cy 1, 8, .inl c_x_42))]) := hD
  refine W.eq (g2 := F0 m 26 ls []) rfl ?_
  refine lv_iinc (pc := 26) (v := (i_8 + (1 : Int32))) (lv' := [(1, .int (i_8 + (1 : Int32))), (0, .ref h0)]) hx hb (zdt_at zt_X10_nextV_0 15 rfl) hl (k := 1) rfl rfl (by decide) rfl ?_
  clear hl
  intro ls hl
  refine lv_goto (pc := 29) (tgt := 10) hx hb (zdt_at zt_X10_nextV_0 16 rfl) (by decide) ?_
  exact hTo _ _ _ (ihself_35 _ hf H locs ls hP hD hS (lv_sub hl [1, 0] rfl))
set_option maxHeartbeats 4000000 in
set_option maxRecDepth 100000 in
theorem c_X10_update (l : Launch) (D : va_G) (cy : Nat → ClassId) (tt : Nat → Nat) (sz : Nat) (h0 : Nat) (hm : Nat → Nat) (p1 : Int32) (c_secrets : Int32) (c_total : Int64) (c_ROUND : Nat → Int32) (c_START : Nat → Int32) (c_digest : Nat → Int32) (c_h : Nat → Int32) (c_inner : Nat → Int32) (c_k : Nat → Int32) (c_message : Nat → Int32) (c_result : Nat → Int32) (c_secret : Nat → Int32) (c_v : Nat → Int32) (c_w : Nat → Int32) (c_x : Nat → Int32) (c_thrown : Int32) (c_state : Int32) (c_test : Int32) (c_words : Int32) (c_ill : Int32) (c_before : Int32) (c_inRow : Int32) (c_first : Int32) (c_inWindow : Int32) (c_same : Int32) (c_made : Int32) (c_requests : Int32) (c_rounds : Int32) (c_high : Int64) (c_low : Int64) (c_keyHigh : Int64) (c_keyLow : Int64) (c_secrets' : Int32) (c_total' : Int64) (c_digest' : Nat → Int32) (c_h' : Nat → Int32) (c_inner' : Nat → Int32) (c_k' : Nat → Int32) (c_message' : Nat → Int32) (c_secret' : Nat → Int32) (c_v' : Nat → Int32) (c_w' : Nat → Int32) (c_x' : Nat → Int32) (hf : f_X10_update p1 c_secrets c_total c_ROUND c_START c_digest c_h c_inner c_k c_message c_result c_secret c_v c_w c_x = some (c_secrets', c_total', c_digest', c_h', c_inner', c_k', c_message', c_secret', c_v', c_w', c_x')) : Met l yX10_update wsX10_update ({ frames := 6, cells := 0, slots := 0, locals := 131 }) (zPc D cy tt sz [.ref h0, .int p1] ([(h0, .inr (12, zmo hm c_thrown c_state c_test c_words c_ill c_before c_inRow c_first c_inWindow c_same c_made c_requests c_total c_secrets c_rounds c_high c_low c_keyHigh c_keyLow)), ((hm 0), .inl (cy 1, 64, .inl c_ROUND)), ((hm 47), .inl (cy 1, 8, .inl c_START)), ((hm 35), .inl (cy 1, 32, .inl c_digest)), ((hm 30), .inl (cy 1, 8, .inl c_h)), ((hm 36), .inl (cy 1, 32, .inl c_inner)), ((hm 25), .inl (cy 1, 32, .inl c_k)), ((hm 33), .inl (cy 1, 64, .inl c_message)), ((hm 45), .inl (cy 1, 600, .inl c_result)), ((hm 37), .inl (cy 1, 64, .inl c_secret)), ((hm 26), .inl (cy 1, 32, .inl c_v)), ((hm 31), .inl (cy 1, 64, .inl c_w)), ((hm 32), .inl (cy 1, 8, .inl c_x))])) (zQ D none ([(h0, .inr (12, zmo hm c_thrown c_state c_test c_words c_ill c_before c_inRow c_first c_inWindow c_same c_made c_requests c_total' c_secrets' c_rounds c_high c_low c_keyHigh c_keyLow)), ((hm 0), .inl (cy 1, 64, .inl c_ROUND)), ((hm 47), .inl (cy 1, 8, .inl c_START)), ((hm 35), .inl (cy 1, 32, .inl c_digest')), ((hm 30), .inl (cy 1, 8, .inl c_h')), ((hm 36), .inl (cy 1, 32, .inl c_inner')), ((hm 25), .inl (cy 1, 32, .inl c_k')), ((hm 33), .inl (cy 1, 64, .inl c_message')), ((hm 45), .inl (cy 1, 600, .inl c_result)), ((hm 37), .inl (cy 1, 64, .inl c_secret')), ((hm 26), .inl (cy 1, 32, .inl c_v')), ((hm 31), .inl (cy 1, 64, .inl c_w')), ((hm 32), .inl (cy 1, 8, .inl c_x'))]) (va_A ([(h0, .inr (12, zmo hm c_thrown c_state c_test c_words c_ill c_before c_inRow c_first c_inWindow c_same c_made c_requests c_total c_secrets c_rounds c_high c_low c_keyHigh c_keyLow)), ((hm 0), .inl (cy 1, 64, .inl c_ROUND)), ((hm 47), .inl (cy 1, 8, .inl c_START)), ((hm 35), .inl (cy 1, 32, .inl c_digest)), ((hm 30), .inl (cy 1, 8, .inl c_h)), ((hm 36), .inl (cy 1, 32, .inl c_inner)), ((hm 25), .inl (cy 1, 32, .inl c_k)), ((hm 33), .inl (cy 1, 64, .inl c_message)), ((hm 45), .inl (cy 1, 600, .inl c_result)), ((hm 37), .inl (cy 1, 64, .inl c_secret)), ((hm 26), .inl (cy 1, 32, .inl c_v)), ((hm 31), .inl (cy 1, 64, .inl c_w)), ((hm 32), .inl (cy 1, 8, .inl c_x))]) sz)) 0 0 (va_A ([(h0, .inr (12, zmo hm c_thrown c_state c_test c_words c_ill c_before c_inRow c_first c_inWindow c_same c_made c_requests c_total c_secrets c_rounds c_high c_low c_keyHigh c_keyLow)), ((hm 0), .inl (cy 1, 64, .inl c_ROUND)), ((hm 47), .inl (cy 1, 8, .inl c_START)), ((hm 35), .inl (cy 1, 32, .inl c_digest)), ((hm 30), .inl (cy 1, 8, .inl c_h)), ((hm 36), .inl (cy 1, 32, .inl c_inner)), ((hm 25), .inl (cy 1, 32, .inl c_k)), ((hm 33), .inl (cy 1, 64, .inl c_message)), ((hm 45), .inl (cy 1, 600, .inl c_result)), ((hm 37), .inl (cy 1, 64, .inl c_secret)), ((hm 26), .inl (cy 1, 32, .inl c_v)), ((hm 31), .inl (cy 1, 64, .inl c_w)), ((hm 32), .inl (cy 1, 8, .inl c_x))]) sz) := by
  refine Met.ofW (cc := cX10_update) (maxL := 4) (ret := none) (by decide) rfl ?_
  intro p e s m args below meth c s₁ B hml hv
  obtain ⟨rfl, rfl, hP, hD0, hE⟩ := hv
  have hx := B.exec
  have hb := B.bytes
  have hr := B.returns
  have hts := atoms_spec (ws := wsX10_update) B.pre
  have hown : s.vm.findClass RX10 = some m.cls := findClass_of_methodNamed B.named
  have hlocks := B.notSynchronized
  clear B
  have hD := hD0.self (sz := s.heap.size)
  generalize hAe : va_A ([(h0, .inr (12, zmo hm c_thrown c_state c_test c_words c_ill c_before c_inRow c_first c_inWindow c_same c_made c_requests c_total c_secrets c_rounds c_high c_low c_keyHigh c_keyLow)), ((hm 0), .inl (cy 1, 64, .inl c_ROUND)), ((hm 47), .inl (cy 1, 8, .inl c_START)), ((hm 35), .inl (cy 1, 32, .inl c_digest)), ((hm 30), .inl (cy 1, 8, .inl c_h)), ((hm 36), .inl (cy 1, 32, .inl c_inner)), ((hm 25), .inl (cy 1, 32, .inl c_k)), ((hm 33), .inl (cy 1, 64, .inl c_message)), ((hm 45), .inl (cy 1, 600, .inl c_result)), ((hm 37), .inl (cy 1, 64, .inl c_secret)), ((hm 26), .inl (cy 1, 32, .inl c_v)), ((hm 31), .inl (cy 1, 64, .inl c_w)), ((hm 32), .inl (cy 1, 8, .inl c_x))]) s.heap.size = A at hD hE ⊢
  have hA : ∀ q : Nat, s.heap.size ≤ q → A q := fun q h => by rw [← hAe]; exact Or.inr h
  clear hAe hD0
  have hS : va_S A s.heap s.heap [] := va_S.rf
  have hK := hE.1
  have hw0 := hts (.fieldLink RX10 114 "SealedModuleModel" "k" "[I") (by decide +kernel)
  have hw1 := hts (.fieldLink RX10 144 "SealedModuleModel" "digest" "[I") (by decide +kernel)
  have hw2 := hts (.fieldLink RX10 168 "SealedModuleModel" "result" "[I") (by decide +kernel)
  have hw3 := hts (.fieldLink RX10 117 "SealedModuleModel" "v" "[I") (by decide +kernel)
  have hcX10 : ∀ w ∈ u_ws RX10 TX10 52, w ∈ wsX10_update := (fun _ h => List.mem_cons_of_mem _ (List.mem_append_right _ h))
  have hl := lv_entry ([.ref h0, .int p1]) (n := 4) (Nat.le_of_ble_eq_true rfl)
  rw [lg_entry_eq]
  generalize (lg_sl ([.ref h0, .int p1]) ++ List.replicate (4 - (lg_sl ([.ref h0, .int p1])).length) Slot.unset).toArray = ls at hl ⊢
  replace hl : lv_has ls 4 [(0, .ref h0), (1, .int p1)] := hl
  unfold f_X10_update at hf
  refine zgo (fun GW hTo hFr => ?_)
  refine hFr _ _ _ ?_
  obtain ⟨H, hHe⟩ : ∃ H, H = s.heap := ⟨_, rfl⟩
  obtain ⟨locs, hLe⟩ : ∃ L : List Loc, L = [] := ⟨_, rfl⟩
  rw [← hHe] at hP
  replace hS : va_S A s.heap H locs := by rw [hHe, hLe]; exact hS
  refine zat hHe.symm hLe.symm ?_
  clear hHe hLe
  refine lv_iconst (pc := 0) (v := (0 : Int32)) hx hb (zdt_at zt_X10_update_0 0 rfl) (by decide) ?_
  refine lv_istore_n (pc := 1) (lv' := [(2, .int (0 : Int32)), (0, .ref h0), (1, .int p1)]) hx hb (zdt_at zt_X10_update_0 1 rfl) rfl hl (by decide) rfl ?_
  clear hl
  intro ls hl
  replace hf := zj_s hf
  obtain ⟨K_24, eK_24, hf⟩ := hf
  have kK_24 : ∀ (c_digest_13 : Nat → Int32) (c_h_14 : Nat → Int32) (c_inner_15 : Nat → Int32) (c_k_16 : Nat → Int32) (c_message_17 : Nat → Int32) (c_secret_18 : Nat → Int32) (c_secrets_19 : Int32) (c_total_20 : Int64) (c_v_21 : Nat → Int32) (c_w_22 : Nat → Int32) (c_x_23 : Nat → Int32) (H : Heap) (locs : List Loc) (ls : Array Slot), va_P D vwCl ([(h0, .inr (12, zmo hm c_thrown c_state c_test c_words c_ill c_before c_inRow c_first c_inWindow c_same c_made c_requests c_total_20 c_secrets_19 c_rounds c_high c_low c_keyHigh c_keyLow)), ((hm 0), .inl (cy 1, 64, .inl c_ROUND)), ((hm 47), .inl (cy 1, 8, .inl c_START)), ((hm 35), .inl (cy 1, 32, .inl c_digest_13)), ((hm 30), .inl (cy 1, 8, .inl c_h_14)), ((hm 36), .inl (cy 1, 32, .inl c_inner_15)), ((hm 25), .inl (cy 1, 32, .inl c_k_16)), ((hm 33), .inl (cy 1, 64, .inl c_message_17)), ((hm 45), .inl (cy 1, 600, .inl c_result)), ((hm 37), .inl (cy 1, 64, .inl c_secret_18)), ((hm 26), .inl (cy 1, 32, .inl c_v_21)), ((hm 31), .inl (cy 1, 64, .inl c_w_22)), ((hm 32), .inl (cy 1, 8, .inl c_x_23))]) H → va_D A ([(h0, .inr (12, zmo hm c_thrown c_state c_test c_words c_ill c_before c_inRow c_first c_inWindow c_same c_made c_requests c_total_20 c_secrets_19 c_rounds c_high c_low c_keyHigh c_keyLow)), ((hm 0), .inl (cy 1, 64, .inl c_ROUND)), ((hm 47), .inl (cy 1, 8, .inl c_START)), ((hm 35), .inl (cy 1, 32, .inl c_digest_13)), ((hm 30), .inl (cy 1, 8, .inl c_h_14)), ((hm 36), .inl (cy 1, 32, .inl c_inner_15)), ((hm 25), .inl (cy 1, 32, .inl c_k_16)), ((hm 33), .inl (cy 1, 64, .inl c_message_17)), ((hm 45), .inl (cy 1, 600, .inl c_result)), ((hm 37), .inl (cy 1, 64, .inl c_secret_18)), ((hm 26), .inl (cy 1, 32, .inl c_v_21)), ((hm 31), .inl (cy 1, 64, .inl c_w_22)), ((hm 32), .inl (cy 1, 8, .inl c_x_23))]) → va_S A s.heap H locs → lv_has ls 4 [] → K_24 c_digest_13 c_h_14 c_inner_15 c_k_16 c_message_17 c_secret_18 c_secrets_19 c_total_20 c_v_21 c_w_22 c_x_23 = some (c_secrets', c_total', c_digest', c_h', c_inner', c_k', c_message', c_secret', c_v', c_w', c_x') → GW H locs (F0 m 115 ls []) := by
    clear hf hl hP hD hS
    intro c_digest_13 c_h_14 c_inner_15 c_k_16 c_message_17 c_secret_18 c_secrets_19 c_total_20 c_v_21 c_w_22 c_x_23 H locs ls hP hD hS hl hf
    rw [eK_24] at hf
    clear eK_24
    refine hFr _ _ _ ?_
    cases hf
    exact W.vret (pc := 115) hx hb hr (fun t ht hW => ⟨rfl, ⟨by rw [ht]; exact hP, hD⟩, hS.F ht⟩) hS.2.2 (zdt_at zt_X10_update_0 63 rfl)
  clear eK_24
  refine hTo _ _ _ (zl_go (fun z => match z with | (i_1, c_digest_2, c_h_3, c_inner_4, c_k_5, c_message_6, c_secret_7, c_secrets_8, c_total_9, c_v_10, c_w_11, c_x_12) => ∀ (H : Heap) (locs : List Loc) (ls : Array Slot), va_P D vwCl ([(h0, .inr (12, zmo hm c_thrown c_state c_test c_words c_ill c_before c_inRow c_first c_inWindow c_same c_made c_requests c_total_9 c_secrets_8 c_rounds c_high c_low c_keyHigh c_keyLow)), ((hm 0), .inl (cy 1, 64, .inl c_ROUND)), ((hm 47), .inl (cy 1, 8, .inl c_START)), ((hm 35), .inl (cy 1, 32, .inl c_digest_2)), ((hm 30), .inl (cy 1, 8, .inl c_h_3)), ((hm 36), .inl (cy 1, 32, .inl c_inner_4)), ((hm 25), .inl (cy 1, 32, .inl c_k_5)), ((hm 33), .inl (cy 1, 64, .inl c_message_6)), ((hm 45), .inl (cy 1, 600, .inl c_result)), ((hm 37), .inl (cy 1, 64, .inl c_secret_7)), ((hm 26), .inl (cy 1, 32, .inl c_v_10)), ((hm 31), .inl (cy 1, 64, .inl c_w_11)), ((hm 32), .inl (cy 1, 8, .inl c_x_12))]) H → va_D A ([(h0, .inr (12, zmo hm c_thrown c_state c_test c_words c_ill c_before c_inRow c_first c_inWindow c_same c_made c_requests c_total_9 c_secrets_8 c_rounds c_high c_low c_keyHigh c_keyLow)), ((hm 0), .inl (cy 1, 64, .inl c_ROUND)), ((hm 47), .inl (cy 1, 8, .inl c_START)), ((hm 35), .inl (cy 1, 32, .inl c_digest_2)), ((hm 30), .inl (cy 1, 8, .inl c_h_3)), ((hm 36), .inl (cy 1, 32, .inl c_inner_4)), ((hm 25), .inl (cy 1, 32, .inl c_k_5)), ((hm 33), .inl (cy 1, 64, .inl c_message_6)), ((hm 45), .inl (cy 1, 600, .inl c_result)), ((hm 37), .inl (cy 1, 64, .inl c_secret_7)), ((hm 26), .inl (cy 1, 32, .inl c_v_10)), ((hm 31), .inl (cy 1, 64, .inl c_w_11)), ((hm 32), .inl (cy 1, 8, .inl c_x_12))]) → va_S A s.heap H locs → lv_has ls 4 [(0, .ref h0), (1, .int p1), (2, .int i_1)] → GW H locs (F0 m 2 ls [])) hf ?_ H locs ls hP hD hS (lv_sub hl [1, 2, 0] rfl))
  clear hf hl hP hD hS
  intro self_25 ihself_25 z hf
  obtain ⟨i_1, c_digest_2, c_h_3, c_inner_4, c_k_5, c_message_6, c_secret_7, c_secrets_8, c_total_9, c_v_10, c_w_11, c_x_12⟩ := z
  intro H locs ls hP hD hS hl
  refine hFr _ _ _ ?_
  unfold b_X10_update_2 at hf
  refine lv_iload_n (pc := 2) hx hb (zdt_at zt_X10_update_0 2 rfl) rfl (lv_at hl 2 rfl) ?_
  refine lv_iconst (pc := 3) (v := (2 : Int32)) hx hb (zdt_at zt_X10_update_0 3 rfl) (by decide) ?_
  refine lv_icmp_ge (pc := 4) (tgt := 115) hx hb (zdt_at zt_X10_update_0 4 rfl) (by decide) (fun cn_ => ?t_26) (fun cn_ => ?f_27)
  case t_26 =>
    replace hf := zt_s cn_ hf
    clear cn_
    exact hTo _ _ _ (kK_24 _ _ _ _ _ _ _ _ _ _ _ H locs ls hP hD hS (lv_sub hl [] rfl) hf)
  replace hf := ze_s cn_ hf
  clear cn_
  refine lv_iload_n (pc := 7) hx hb (zdt_at zt_X10_update_0 5 rfl) rfl (lv_at hl 2 rfl) ?_
  replace hf := zj_s hf
  obtain ⟨K_28, eK_28, hf⟩ := hf
  have kK_28 : ∀  (H : Heap) (locs : List Loc) (ls : Array Slot), va_P D vwCl ([(h0, .inr (12, zmo hm c_thrown c_state c_test c_words c_ill c_before c_inRow c_first c_inWindow c_same c_made c_requests c_total_9 c_secrets_8 c_rounds c_high c_low c_keyHigh c_keyLow)), ((hm 0), .inl (cy 1, 64, .inl c_ROUND)), ((hm 47), .inl (cy 1, 8, .inl c_START)), ((hm 35), .inl (cy 1, 32, .inl c_digest_2)), ((hm 30), .inl (cy 1, 8, .inl c_h_3)), ((hm 36), .inl (cy 1, 32, .inl c_inner_4)), ((hm 25), .inl (cy 1, 32, .inl c_k_5)), ((hm 33), .inl (cy 1, 64, .inl c_message_6)), ((hm 45), .inl (cy 1, 600, .inl c_result)), ((hm 37), .inl (cy 1, 64, .inl c_secret_7)), ((hm 26), .inl (cy 1, 32, .inl c_v_10)), ((hm 31), .inl (cy 1, 64, .inl c_w_11)), ((hm 32), .inl (cy 1, 8, .inl c_x_12))]) H → va_D A ([(h0, .inr (12, zmo hm c_thrown c_state c_test c_words c_ill c_before c_inRow c_first c_inWindow c_same c_made c_requests c_total_9 c_secrets_8 c_rounds c_high c_low c_keyHigh c_keyLow)), ((hm 0), .inl (cy 1, 64, .inl c_ROUND)), ((hm 47), .inl (cy 1, 8, .inl c_START)), ((hm 35), .inl (cy 1, 32, .inl c_digest_2)), ((hm 30), .inl (cy 1, 8, .inl c_h_3)), ((hm 36), .inl (cy 1, 32, .inl c_inner_4)), ((hm 25), .inl (cy 1, 32, .inl c_k_5)), ((hm 33), .inl (cy 1, 64, .inl c_message_6)), ((hm 45), .inl (cy 1, 600, .inl c_result)), ((hm 37), .inl (cy 1, 64, .inl c_secret_7)), ((hm 26), .inl (cy 1, 32, .inl c_v_10)), ((hm 31), .inl (cy 1, 64, .inl c_w_11)), ((hm 32), .inl (cy 1, 8, .inl c_x_12))]) → va_S A s.heap H locs → lv_has ls 4 [(0, .ref h0), (1, .int p1), (2, .int i_1)] → K_28 () = some (c_secrets', c_total', c_digest', c_h', c_inner', c_k', c_message', c_secret', c_v', c_w', c_x') → GW H locs (F0 m 15 ls []) := by
    clear hf hl hP hD hS
    intro  H locs ls hP hD hS hl hf
    rw [eK_28] at hf
    clear eK_28
    refine hFr _ _ _ ?_
    refine lv_aload_n (pc := 15) hx hb (zdt_at zt_X10_update_0 9 rfl) rfl (lv_at hl 0 rfl) ?_
    replace hf := zb_s hf
    obtain ⟨⟨c_secrets_29, c_secret_30⟩, hc_, hf⟩ := hf
    refine zcn2 (pc := 16) (rv := none) (va_runV (As := []) (rest := []) ⟨hx, hb, hml, hown, hts⟩ (c_X10_secretK l D cy tt H.size h0 hm c_secrets_8 c_k_5 c_secret_7 c_thrown c_state c_test c_words c_ill c_before c_inRow c_first c_inWindow c_same c_made c_requests c_total_9 c_rounds c_high c_low c_keyHigh c_keyLow c_secrets_29 c_secret_30 hc_) (cwV 0 hts gX10_update_X10_secretK rfl rfl rfl (by decide +kernel) ⟨Nat.le_of_ble_eq_true rfl, Nat.le_of_ble_eq_true rfl⟩) ⟨zblind, va_recv hK hP (ci := 12) (q0 := 0) rfl rfl, zpre hE hS (hP.sub [0, 6, 9] rfl) (hD.sub [0, 6, 9] (by decide) rfl) (va_free hD hS hA [0, 6, 9] rfl)⟩ rfl rfl hl.1 rfl (lv_room (Nat.le_of_ble_eq_true rfl)) (zdt_at zt_X10_update_0 10 rfl) ⟨Nat.zero_le _, Nat.zero_le _⟩) hS hP hD (va_free hD hS hA [0, 6, 9] rfl) [0, 6, 9] rfl (by decide) rfl ?_
    clear hP hD hS hc_
    intro H locs hP hD hS
    replace hP : va_P D vwCl ([(h0, .inr (12, zmo hm c_thrown c_state c_test c_words c_ill c_before c_inRow c_first c_inWindow c_same c_made c_requests c_total_9 c_secrets_29 c_rounds c_high c_low c_keyHigh c_keyLow)), ((hm 0), .inl (cy 1, 64, .inl c_ROUND)), ((hm 47), .inl (cy 1, 8, .inl c_START)), ((hm 35), .inl (cy 1, 32, .inl c_digest_2)), ((hm 30), .inl (cy 1, 8, .inl c_h_3)), ((hm 36), .inl (cy 1, 32, .inl c_inner_4)), ((hm 25), .inl (cy 1, 32, .inl c_k_5)), ((hm 33), .inl (cy 1, 64, .inl c_message_6)), ((hm 45), .inl (cy 1, 600, .inl c_result)), ((hm 37), .inl (cy 1, 64, .inl c_secret_30)), ((hm 26), .inl (cy 1, 32, .inl c_v_10)), ((hm 31), .inl (cy 1, 64, .inl c_w_11)), ((hm 32), .inl (cy 1, 8, .inl c_x_12))]) H := hP
    replace hD : va_D A ([(h0, .inr (12, zmo hm c_thrown c_state c_test c_words c_ill c_before c_inRow c_first c_inWindow c_same c_made c_requests c_total_9 c_secrets_29 c_rounds c_high c_low c_keyHigh c_keyLow)), ((hm 0), .inl (cy 1, 64, .inl c_ROUND)), ((hm 47), .inl (cy 1, 8, .inl c_START)), ((hm 35), .inl (cy 1, 32, .inl c_digest_2)), ((hm 30), .inl (cy 1, 8, .inl c_h_3)), ((hm 36), .inl (cy 1, 32, .inl c_inner_4)), ((hm 25), .inl (cy 1, 32, .inl c_k_5)), ((hm 33), .inl (cy 1, 64, .inl c_message_6)), ((hm 45), .inl (cy 1, 600, .inl c_result)), ((hm 37), .inl (cy 1, 64, .inl c_secret_30)), ((hm 26), .inl (cy 1, 32, .inl c_v_10)), ((hm 31), .inl (cy 1, 64, .inl c_w_11)), ((hm 32), .inl (cy 1, 8, .inl c_x_12))]) := hD
    refine W.eq (g2 := F0 m 19 ls []) rfl ?_
    refine lv_aload_n (pc := 19) hx hb (zdt_at zt_X10_update_0 11 rfl) rfl (lv_at hl 0 rfl) ?_
    replace hf := zb_s hf
    obtain ⟨⟨c_total_31, c_h_32, c_message_33, c_w_34, c_x_35⟩, hc_, hf⟩ := hf
    refine zcn2 (pc := 20) (rv := none) (va_runV (As := []) (rest := []) ⟨hx, hb, hml, hown, hts⟩ (c_X10_beginMac l D cy tt H.size h0 hm c_secrets_29 c_total_9 c_ROUND c_START c_h_3 c_message_6 c_secret_30 c_w_11 c_x_12 c_thrown c_state c_test c_words c_ill c_before c_inRow c_first c_inWindow c_same c_made c_requests c_rounds c_high c_low c_keyHigh c_keyLow c_total_31 c_h_32 c_message_33 c_w_34 c_x_35 hc_) (cwV 0 hts gX10_update_X10_beginMac rfl rfl rfl (by decide +kernel) ⟨Nat.le_of_ble_eq_true rfl, Nat.le_of_ble_eq_true rfl⟩) ⟨zblind, va_recv hK hP (ci := 12) (q0 := 0) rfl rfl, zpre hE hS (hP.sub [0, 1, 2, 4, 7, 9, 11, 12] rfl) (hD.sub [0, 1, 2, 4, 7, 9, 11, 12] (by decide) rfl) (va_free hD hS hA [0, 1, 2, 4, 7, 9, 11, 12] rfl)⟩ rfl rfl hl.1 rfl (lv_room (Nat.le_of_ble_eq_true rfl)) (zdt_at zt_X10_update_0 12 rfl) ⟨Nat.zero_le _, Nat.zero_le _⟩) hS hP hD (va_free hD hS hA [0, 1, 2, 4, 7, 9, 11, 12] rfl) [0, 1, 2, 4, 7, 9, 11, 12] rfl (by decide) rfl ?_
    clear hP hD hS hc_
    intro H locs hP hD hS
    replace hP : va_P D vwCl ([(h0, .inr (12, zmo hm c_thrown c_state c_test c_words c_ill c_before c_inRow c_first c_inWindow c_same c_made c_requests c_total_31 c_secrets_29 c_rounds c_high c_low c_keyHigh c_keyLow)), ((hm 0), .inl (cy 1, 64, .inl c_ROUND)), ((hm 47), .inl (cy 1, 8, .inl c_START)), ((hm 35), .inl (cy 1, 32, .inl c_digest_2)), ((hm 30), .inl (cy 1, 8, .inl c_h_32)), ((hm 36), .inl (cy 1, 32, .inl c_inner_4)), ((hm 25), .inl (cy 1, 32, .inl c_k_5)), ((hm 33), .inl (cy 1, 64, .inl c_message_33)), ((hm 45), .inl (cy 1, 600, .inl c_result)), ((hm 37), .inl (cy 1, 64, .inl c_secret_30)), ((hm 26), .inl (cy 1, 32, .inl c_v_10)), ((hm 31), .inl (cy 1, 64, .inl c_w_34)), ((hm 32), .inl (cy 1, 8, .inl c_x_35))]) H := hP
    replace hD : va_D A ([(h0, .inr (12, zmo hm c_thrown c_state c_test c_words c_ill c_before c_inRow c_first c_inWindow c_same c_made c_requests c_total_31 c_secrets_29 c_rounds c_high c_low c_keyHigh c_keyLow)), ((hm 0), .inl (cy 1, 64, .inl c_ROUND)), ((hm 47), .inl (cy 1, 8, .inl c_START)), ((hm 35), .inl (cy 1, 32, .inl c_digest_2)), ((hm 30), .inl (cy 1, 8, .inl c_h_32)), ((hm 36), .inl (cy 1, 32, .inl c_inner_4)), ((hm 25), .inl (cy 1, 32, .inl c_k_5)), ((hm 33), .inl (cy 1, 64, .inl c_message_33)), ((hm 45), .inl (cy 1, 600, .inl c_result)), ((hm 37), .inl (cy 1, 64, .inl c_secret_30)), ((hm 26), .inl (cy 1, 32, .inl c_v_10)), ((hm 31), .inl (cy 1, 64, .inl c_w_34)), ((hm 32), .inl (cy 1, 8, .inl c_x_35))]) := hD
    refine W.eq (g2 := F0 m 23 ls []) rfl ?_
    refine lv_iconst (pc := 23) (v := (0 : Int32)) hx hb (zdt_at zt_X10_update_0 13 rfl) (by decide) ?_
    refine lv_istore_n (pc := 24) (lv' := [(3, .int (0 : Int32)), (0, .ref h0), (1, .int p1), (2, .int i_1)]) hx hb (zdt_at zt_X10_update_0 14 rfl) rfl hl (by decide) rfl ?_
    clear hl
    intro ls hl
    replace hf := zj_s hf
    obtain ⟨K_47, eK_47, hf⟩ := hf
    have kK_47 : ∀ (c_h_42 : Nat → Int32) (c_message_43 : Nat → Int32) (c_total_44 : Int64) (c_w_45 : Nat → Int32) (c_x_46 : Nat → Int32) (H : Heap) (locs : List Loc) (ls : Array Slot), va_P D vwCl ([(h0, .inr (12, zmo hm c_thrown c_state c_test c_words c_ill c_before c_inRow c_first c_inWindow c_same c_made c_requests c_total_44 c_secrets_29 c_rounds c_high c_low c_keyHigh c_keyLow)), ((hm 0), .inl (cy 1, 64, .inl c_ROUND)), ((hm 47), .inl (cy 1, 8, .inl c_START)), ((hm 35), .inl (cy 1, 32, .inl c_digest_2)), ((hm 30), .inl (cy 1, 8, .inl c_h_42)), ((hm 36), .inl (cy 1, 32, .inl c_inner_4)), ((hm 25), .inl (cy 1, 32, .inl c_k_5)), ((hm 33), .inl (cy 1, 64, .inl c_message_43)), ((hm 45), .inl (cy 1, 600, .inl c_result)), ((hm 37), .inl (cy 1, 64, .inl c_secret_30)), ((hm 26), .inl (cy 1, 32, .inl c_v_10)), ((hm 31), .inl (cy 1, 64, .inl c_w_45)), ((hm 32), .inl (cy 1, 8, .inl c_x_46))]) H → va_D A ([(h0, .inr (12, zmo hm c_thrown c_state c_test c_words c_ill c_before c_inRow c_first c_inWindow c_same c_made c_requests c_total_44 c_secrets_29 c_rounds c_high c_low c_keyHigh c_keyLow)), ((hm 0), .inl (cy 1, 64, .inl c_ROUND)), ((hm 47), .inl (cy 1, 8, .inl c_START)), ((hm 35), .inl (cy 1, 32, .inl c_digest_2)), ((hm 30), .inl (cy 1, 8, .inl c_h_42)), ((hm 36), .inl (cy 1, 32, .inl c_inner_4)), ((hm 25), .inl (cy 1, 32, .inl c_k_5)), ((hm 33), .inl (cy 1, 64, .inl c_message_43)), ((hm 45), .inl (cy 1, 600, .inl c_result)), ((hm 37), .inl (cy 1, 64, .inl c_secret_30)), ((hm 26), .inl (cy 1, 32, .inl c_v_10)), ((hm 31), .inl (cy 1, 64, .inl c_w_45)), ((hm 32), .inl (cy 1, 8, .inl c_x_46))]) → va_S A s.heap H locs → lv_has ls 4 [(0, .ref h0), (1, .int p1), (2, .int i_1)] → K_47 c_h_42 c_message_43 c_total_44 c_w_45 c_x_46 = some (c_secrets', c_total', c_digest', c_h', c_inner', c_k', c_message', c_secret', c_v', c_w', c_x') → GW H locs (F0 m 47 ls []) := by
      clear hf hl hP hD hS
      intro c_h_42 c_message_43 c_total_44 c_w_45 c_x_46 H locs ls hP hD hS hl hf
      rw [eK_47] at hf
      clear eK_47
      refine hFr _ _ _ ?_
      refine lv_aload_n (pc := 47) hx hb (zdt_at zt_X10_update_0 26 rfl) rfl (lv_at hl 0 rfl) ?_
      refine lv_iload_n (pc := 48) hx hb (zdt_at zt_X10_update_0 27 rfl) rfl (lv_at hl 2 rfl) ?_
      replace hf := zb_s hf
      obtain ⟨⟨c_total_48, c_h_49, c_message_50, c_w_51, c_x_52⟩, hc_, hf⟩ := hf
      refine zcn2 (pc := 49) (rv := none) (va_runV (As := [.int i_1]) (rest := []) ⟨hx, hb, hml, hown, hts⟩ (c_X10_say l D cy tt H.size h0 hm i_1 c_total_44 c_ROUND c_h_42 c_message_43 c_w_45 c_x_46 c_thrown c_state c_test c_words c_ill c_before c_inRow c_first c_inWindow c_same c_made c_requests c_secrets_29 c_rounds c_high c_low c_keyHigh c_keyLow c_total_48 c_h_49 c_message_50 c_w_51 c_x_52 hc_) (cwV 1 hts gX10_update_X10_say rfl rfl rfl (by decide +kernel) ⟨Nat.le_of_ble_eq_true rfl, Nat.le_of_ble_eq_true rfl⟩) ⟨zblind, va_recv hK hP (ci := 12) (q0 := 0) rfl rfl, zpre hE hS (hP.sub [0, 1, 4, 7, 11, 12] rfl) (hD.sub [0, 1, 4, 7, 11, 12] (by decide) rfl) (va_free hD hS hA [0, 1, 4, 7, 11, 12] rfl)⟩ rfl rfl hl.1 rfl (lv_room (Nat.le_of_ble_eq_true rfl)) (zdt_at zt_X10_update_0 28 rfl) ⟨Nat.zero_le _, Nat.zero_le _⟩) hS hP hD (va_free hD hS hA [0, 1, 4, 7, 11, 12] rfl) [0, 1, 4, 7, 11, 12] rfl (by decide) rfl ?_
      clear hP hD hS hc_
      intro H locs hP hD hS
      replace hP : va_P D vwCl ([(h0, .inr (12, zmo hm c_thrown c_state c_test c_words c_ill c_before c_inRow c_first c_inWindow c_same c_made c_requests c_total_48 c_secrets_29 c_rounds c_high c_low c_keyHigh c_keyLow)), ((hm 0), .inl (cy 1, 64, .inl c_ROUND)), ((hm 47), .inl (cy 1, 8, .inl c_START)), ((hm 35), .inl (cy 1, 32, .inl c_digest_2)), ((hm 30), .inl (cy 1, 8, .inl c_h_49)), ((hm 36), .inl (cy 1, 32, .inl c_inner_4)), ((hm 25), .inl (cy 1, 32, .inl c_k_5)), ((hm 33), .inl (cy 1, 64, .inl c_message_50)), ((hm 45), .inl (cy 1, 600, .inl c_result)), ((hm 37), .inl (cy 1, 64, .inl c_secret_30)), ((hm 26), .inl (cy 1, 32, .inl c_v_10)), ((hm 31), .inl (cy 1, 64, .inl c_w_51)), ((hm 32), .inl (cy 1, 8, .inl c_x_52))]) H := hP
      replace hD : va_D A ([(h0, .inr (12, zmo hm c_thrown c_state c_test c_words c_ill c_before c_inRow c_first c_inWindow c_same c_made c_requests c_total_48 c_secrets_29 c_rounds c_high c_low c_keyHigh c_keyLow)), ((hm 0), .inl (cy 1, 64, .inl c_ROUND)), ((hm 47), .inl (cy 1, 8, .inl c_START)), ((hm 35), .inl (cy 1, 32, .inl c_digest_2)), ((hm 30), .inl (cy 1, 8, .inl c_h_49)), ((hm 36), .inl (cy 1, 32, .inl c_inner_4)), ((hm 25), .inl (cy 1, 32, .inl c_k_5)), ((hm 33), .inl (cy 1, 64, .inl c_message_50)), ((hm 45), .inl (cy 1, 600, .inl c_result)), ((hm 37), .inl (cy 1, 64, .inl c_secret_30)), ((hm 26), .inl (cy 1, 32, .inl c_v_10)), ((hm 31), .inl (cy 1, 64, .inl c_w_51)), ((hm 32), .inl (cy 1, 8, .inl c_x_52))]) := hD
      refine W.eq (g2 := F0 m 52 ls []) rfl ?_
      refine lv_iconst (pc := 52) (v := (0 : Int32)) hx hb (zdt_at zt_X10_update_0 29 rfl) (by decide) ?_
      refine lv_istore_n (pc := 53) (lv' := [(3, .int (0 : Int32)), (0, .ref h0), (1, .int p1), (2, .int i_1)]) hx hb (zdt_at zt_X10_update_0 30 rfl) rfl hl (by decide) rfl ?_
      clear hl
      intro ls hl
      replace hf := zj_s hf
      obtain ⟨K_64, eK_64, hf⟩ := hf
      have kK_64 : ∀ (c_h_59 : Nat → Int32) (c_message_60 : Nat → Int32) (c_total_61 : Int64) (c_w_62 : Nat → Int32) (c_x_63 : Nat → Int32) (H : Heap) (locs : List Loc) (ls : Array Slot), va_P D vwCl ([(h0, .inr (12, zmo hm c_thrown c_state c_test c_words c_ill c_before c_inRow c_first c_inWindow c_same c_made c_requests c_total_61 c_secrets_29 c_rounds c_high c_low c_keyHigh c_keyLow)), ((hm 0), .inl (cy 1, 64, .inl c_ROUND)), ((hm 47), .inl (cy 1, 8, .inl c_START)), ((hm 35), .inl (cy 1, 32, .inl c_digest_2)), ((hm 30), .inl (cy 1, 8, .inl c_h_59)), ((hm 36), .inl (cy 1, 32, .inl c_inner_4)), ((hm 25), .inl (cy 1, 32, .inl c_k_5)), ((hm 33), .inl (cy 1, 64, .inl c_message_60)), ((hm 45), .inl (cy 1, 600, .inl c_result)), ((hm 37), .inl (cy 1, 64, .inl c_secret_30)), ((hm 26), .inl (cy 1, 32, .inl c_v_10)), ((hm 31), .inl (cy 1, 64, .inl c_w_62)), ((hm 32), .inl (cy 1, 8, .inl c_x_63))]) H → va_D A ([(h0, .inr (12, zmo hm c_thrown c_state c_test c_words c_ill c_before c_inRow c_first c_inWindow c_same c_made c_requests c_total_61 c_secrets_29 c_rounds c_high c_low c_keyHigh c_keyLow)), ((hm 0), .inl (cy 1, 64, .inl c_ROUND)), ((hm 47), .inl (cy 1, 8, .inl c_START)), ((hm 35), .inl (cy 1, 32, .inl c_digest_2)), ((hm 30), .inl (cy 1, 8, .inl c_h_59)), ((hm 36), .inl (cy 1, 32, .inl c_inner_4)), ((hm 25), .inl (cy 1, 32, .inl c_k_5)), ((hm 33), .inl (cy 1, 64, .inl c_message_60)), ((hm 45), .inl (cy 1, 600, .inl c_result)), ((hm 37), .inl (cy 1, 64, .inl c_secret_30)), ((hm 26), .inl (cy 1, 32, .inl c_v_10)), ((hm 31), .inl (cy 1, 64, .inl c_w_62)), ((hm 32), .inl (cy 1, 8, .inl c_x_63))]) → va_S A s.heap H locs → lv_has ls 4 [(0, .ref h0), (1, .int p1), (2, .int i_1)] → K_64 c_h_59 c_message_60 c_total_61 c_w_62 c_x_63 = some (c_secrets', c_total', c_digest', c_h', c_inner', c_k', c_message', c_secret', c_v', c_w', c_x') → GW H locs (F0 m 75 ls []) := by
        clear hf hl hP hD hS
        intro c_h_59 c_message_60 c_total_61 c_w_62 c_x_63 H locs ls hP hD hS hl hf
        rw [eK_64] at hf
        clear eK_64
        refine hFr _ _ _ ?_
        refine lv_aload_n (pc := 75) hx hb (zdt_at zt_X10_update_0 42 rfl) rfl (lv_at hl 0 rfl) ?_
        replace hf := zb_s hf
        obtain ⟨⟨c_total_65, c_digest_66, c_h_67, c_inner_68, c_message_69, c_w_70, c_x_71⟩, hc_, hf⟩ := hf
        refine zcn2 (pc := 76) (rv := none) (va_runV (As := []) (rest := []) ⟨hx, hb, hml, hown, hts⟩ (c_X10_endMac l D cy tt H.size h0 hm c_secrets_29 c_total_61 c_ROUND c_START c_digest_2 c_h_59 c_inner_4 c_message_60 c_secret_30 c_w_62 c_x_63 c_thrown c_state c_test c_words c_ill c_before c_inRow c_first c_inWindow c_same c_made c_requests c_rounds c_high c_low c_keyHigh c_keyLow c_total_65 c_digest_66 c_h_67 c_inner_68 c_message_69 c_w_70 c_x_71 hc_) (cwV 0 hts gX10_update_X10_endMac rfl rfl rfl (by decide +kernel) ⟨Nat.le_of_ble_eq_true rfl, Nat.le_of_ble_eq_true rfl⟩) ⟨zblind, va_recv hK hP (ci := 12) (q0 := 0) rfl rfl, zpre hE hS (hP.sub [0, 1, 2, 3, 4, 5, 7, 9, 11, 12] rfl) (hD.sub [0, 1, 2, 3, 4, 5, 7, 9, 11, 12] (by decide) rfl) (va_free hD hS hA [0, 1, 2, 3, 4, 5, 7, 9, 11, 12] rfl)⟩ rfl rfl hl.1 rfl (lv_room (Nat.le_of_ble_eq_true rfl)) (zdt_at zt_X10_update_0 43 rfl) ⟨Nat.zero_le _, Nat.zero_le _⟩) hS hP hD (va_free hD hS hA [0, 1, 2, 3, 4, 5, 7, 9, 11, 12] rfl) [0, 1, 2, 3, 4, 5, 7, 9, 11, 12] rfl (by decide) rfl ?_
        clear hP hD hS hc_
        intro H locs hP hD hS
        replace hP : va_P D vwCl ([(h0, .inr (12, zmo hm c_thrown c_state c_test c_words c_ill c_before c_inRow c_first c_inWindow c_same c_made c_requests c_total_65 c_secrets_29 c_rounds c_high c_low c_keyHigh c_keyLow)), ((hm 0), .inl (cy 1, 64, .inl c_ROUND)), ((hm 47), .inl (cy 1, 8, .inl c_START)), ((hm 35), .inl (cy 1, 32, .inl c_digest_66)), ((hm 30), .inl (cy 1, 8, .inl c_h_67)), ((hm 36), .inl (cy 1, 32, .inl c_inner_68)), ((hm 25), .inl (cy 1, 32, .inl c_k_5)), ((hm 33), .inl (cy 1, 64, .inl c_message_69)), ((hm 45), .inl (cy 1, 600, .inl c_result)), ((hm 37), .inl (cy 1, 64, .inl c_secret_30)), ((hm 26), .inl (cy 1, 32, .inl c_v_10)), ((hm 31), .inl (cy 1, 64, .inl c_w_70)), ((hm 32), .inl (cy 1, 8, .inl c_x_71))]) H := hP
        replace hD : va_D A ([(h0, .inr (12, zmo hm c_thrown c_state c_test c_words c_ill c_before c_inRow c_first c_inWindow c_same c_made c_requests c_total_65 c_secrets_29 c_rounds c_high c_low c_keyHigh c_keyLow)), ((hm 0), .inl (cy 1, 64, .inl c_ROUND)), ((hm 47), .inl (cy 1, 8, .inl c_START)), ((hm 35), .inl (cy 1, 32, .inl c_digest_66)), ((hm 30), .inl (cy 1, 8, .inl c_h_67)), ((hm 36), .inl (cy 1, 32, .inl c_inner_68)), ((hm 25), .inl (cy 1, 32, .inl c_k_5)), ((hm 33), .inl (cy 1, 64, .inl c_message_69)), ((hm 45), .inl (cy 1, 600, .inl c_result)), ((hm 37), .inl (cy 1, 64, .inl c_secret_30)), ((hm 26), .inl (cy 1, 32, .inl c_v_10)), ((hm 31), .inl (cy 1, 64, .inl c_w_70)), ((hm 32), .inl (cy 1, 8, .inl c_x_71))]) := hD
        refine W.eq (g2 := F0 m 79 ls []) rfl ?_
        refine lv_iconst (pc := 79) (v := (0 : Int32)) hx hb (zdt_at zt_X10_update_0 44 rfl) (by decide) ?_
        refine lv_istore_n (pc := 80) (lv' := [(3, .int (0 : Int32)), (0, .ref h0), (1, .int p1), (2, .int i_1)]) hx hb (zdt_at zt_X10_update_0 45 rfl) rfl hl (by decide) rfl ?_
        clear hl
        intro ls hl
        replace hf := zj_s hf
        obtain ⟨K_75, eK_75, hf⟩ := hf
        have kK_75 : ∀ (c_k_74 : Nat → Int32) (H : Heap) (locs : List Loc) (ls : Array Slot), va_P D vwCl ([(h0, .inr (12, zmo hm c_thrown c_state c_test c_words c_ill c_before c_inRow c_first c_inWindow c_same c_made c_requests c_total_65 c_secrets_29 c_rounds c_high c_low c_keyHigh c_keyLow)), ((hm 0), .inl (cy 1, 64, .inl c_ROUND)), ((hm 47), .inl (cy 1, 8, .inl c_START)), ((hm 35), .inl (cy 1, 32, .inl c_digest_66)), ((hm 30), .inl (cy 1, 8, .inl c_h_67)), ((hm 36), .inl (cy 1, 32, .inl c_inner_68)), ((hm 25), .inl (cy 1, 32, .inl c_k_74)), ((hm 33), .inl (cy 1, 64, .inl c_message_69)), ((hm 45), .inl (cy 1, 600, .inl c_result)), ((hm 37), .inl (cy 1, 64, .inl c_secret_30)), ((hm 26), .inl (cy 1, 32, .inl c_v_10)), ((hm 31), .inl (cy 1, 64, .inl c_w_70)), ((hm 32), .inl (cy 1, 8, .inl c_x_71))]) H → va_D A ([(h0, .inr (12, zmo hm c_thrown c_state c_test c_words c_ill c_before c_inRow c_first c_inWindow c_same c_made c_requests c_total_65 c_secrets_29 c_rounds c_high c_low c_keyHigh c_keyLow)), ((hm 0), .inl (cy 1, 64, .inl c_ROUND)), ((hm 47), .inl (cy 1, 8, .inl c_START)), ((hm 35), .inl (cy 1, 32, .inl c_digest_66)), ((hm 30), .inl (cy 1, 8, .inl c_h_67)), ((hm 36), .inl (cy 1, 32, .inl c_inner_68)), ((hm 25), .inl (cy 1, 32, .inl c_k_74)), ((hm 33), .inl (cy 1, 64, .inl c_message_69)), ((hm 45), .inl (cy 1, 600, .inl c_result)), ((hm 37), .inl (cy 1, 64, .inl c_secret_30)), ((hm 26), .inl (cy 1, 32, .inl c_v_10)), ((hm 31), .inl (cy 1, 64, .inl c_w_70)), ((hm 32), .inl (cy 1, 8, .inl c_x_71))]) → va_S A s.heap H locs → lv_has ls 4 [(0, .ref h0), (1, .int p1), (2, .int i_1)] → K_75 c_k_74 = some (c_secrets', c_total', c_digest', c_h', c_inner', c_k', c_message', c_secret', c_v', c_w', c_x') → GW H locs (F0 m 105 ls []) := by
          clear hf hl hP hD hS
          intro c_k_74 H locs ls hP hD hS hl hf
          rw [eK_75] at hf
          clear eK_75
          refine hFr _ _ _ ?_
          refine lv_aload_n (pc := 105) hx hb (zdt_at zt_X10_update_0 59 rfl) rfl (lv_at hl 0 rfl) ?_
          replace hf := zb_s hf
          obtain ⟨⟨c_secrets_76, c_total_77, c_digest_78, c_h_79, c_inner_80, c_message_81, c_secret_82, c_v_83, c_w_84, c_x_85⟩, hc_, hf⟩ := hf
          refine zcn2 (pc := 106) (rv := none) (va_runV (As := []) (rest := []) ⟨hx, hb, hml, hown, hts⟩ (c_X10_nextV l D cy tt H.size h0 hm c_secrets_29 c_total_65 c_ROUND c_START c_digest_66 c_h_67 c_inner_68 c_k_74 c_message_69 c_secret_30 c_v_10 c_w_70 c_x_71 c_thrown c_state c_test c_words c_ill c_before c_inRow c_first c_inWindow c_same c_made c_requests c_rounds c_high c_low c_keyHigh c_keyLow c_secrets_76 c_total_77 c_digest_78 c_h_79 c_inner_80 c_message_81 c_secret_82 c_v_83 c_w_84 c_x_85 hc_) (cwV 0 hts gX10_update_X10_nextV rfl rfl rfl (by decide +kernel) ⟨Nat.le_of_ble_eq_true rfl, Nat.le_of_ble_eq_true rfl⟩) ⟨zblind, va_recv hK hP (ci := 12) (q0 := 0) rfl rfl, zpre hE hS (hP.sub [0, 1, 2, 3, 4, 5, 6, 7, 9, 10, 11, 12] rfl) (hD.sub [0, 1, 2, 3, 4, 5, 6, 7, 9, 10, 11, 12] (by decide) rfl) (va_free hD hS hA [0, 1, 2, 3, 4, 5, 6, 7, 9, 10, 11, 12] rfl)⟩ rfl rfl hl.1 rfl (lv_room (Nat.le_of_ble_eq_true rfl)) (zdt_at zt_X10_update_0 60 rfl) ⟨Nat.zero_le _, Nat.zero_le _⟩) hS hP hD (va_free hD hS hA [0, 1, 2, 3, 4, 5, 6, 7, 9, 10, 11, 12] rfl) [0, 1, 2, 3, 4, 5, 6, 7, 9, 10, 11, 12] rfl (by decide) rfl ?_
          clear hP hD hS hc_
          intro H locs hP hD hS
          replace hP : va_P D vwCl ([(h0, .inr (12, zmo hm c_thrown c_state c_test c_words c_ill c_before c_inRow c_first c_inWindow c_same c_made c_requests c_total_77 c_secrets_76 c_rounds c_high c_low c_keyHigh c_keyLow)), ((hm 0), .inl (cy 1, 64, .inl c_ROUND)), ((hm 47), .inl (cy 1, 8, .inl c_START)), ((hm 35), .inl (cy 1, 32, .inl c_digest_78)), ((hm 30), .inl (cy 1, 8, .inl c_h_79)), ((hm 36), .inl (cy 1, 32, .inl c_inner_80)), ((hm 25), .inl (cy 1, 32, .inl c_k_74)), ((hm 33), .inl (cy 1, 64, .inl c_message_81)), ((hm 45), .inl (cy 1, 600, .inl c_result)), ((hm 37), .inl (cy 1, 64, .inl c_secret_82)), ((hm 26), .inl (cy 1, 32, .inl c_v_83)), ((hm 31), .inl (cy 1, 64, .inl c_w_84)), ((hm 32), .inl (cy 1, 8, .inl c_x_85))]) H := hP
          replace hD : va_D A ([(h0, .inr (12, zmo hm c_thrown c_state c_test c_words c_ill c_before c_inRow c_first c_inWindow c_same c_made c_requests c_total_77 c_secrets_76 c_rounds c_high c_low c_keyHigh c_keyLow)), ((hm 0), .inl (cy 1, 64, .inl c_ROUND)), ((hm 47), .inl (cy 1, 8, .inl c_START)), ((hm 35), .inl (cy 1, 32, .inl c_digest_78)), ((hm 30), .inl (cy 1, 8, .inl c_h_79)), ((hm 36), .inl (cy 1, 32, .inl c_inner_80)), ((hm 25), .inl (cy 1, 32, .inl c_k_74)), ((hm 33), .inl (cy 1, 64, .inl c_message_81)), ((hm 45), .inl (cy 1, 600, .inl c_result)), ((hm 37), .inl (cy 1, 64, .inl c_secret_82)), ((hm 26), .inl (cy 1, 32, .inl c_v_83)), ((hm 31), .inl (cy 1, 64, .inl c_w_84)), ((hm 32), .inl (cy 1, 8, .inl c_x_85))]) := hD
          refine W.eq (g2 := F0 m 109 ls []) rfl ?_
          refine lv_iinc (pc := 109) (v := (i_1 + (1 : Int32))) (lv' := [(2, .int (i_1 + (1 : Int32))), (0, .ref h0), (1, .int p1)]) hx hb (zdt_at zt_X10_update_0 61 rfl) hl (k := 2) rfl rfl (by decide) rfl ?_
          clear hl
          intro ls hl
          refine lv_goto (pc := 112) (tgt := 2) hx hb (zdt_at zt_X10_update_0 62 rfl) (by decide) ?_
          exact hTo _ _ _ (ihself_25 _ hf H locs ls hP hD hS (lv_sub hl [1, 2, 0] rfl))
        clear eK_75
        refine hTo _ _ _ (zl_go (fun z => match z with | (i_72, c_k_73) => ∀ (H : Heap) (locs : List Loc) (ls : Array Slot), va_P D vwCl ([(h0, .inr (12, zmo hm c_thrown c_state c_test c_words c_ill c_before c_inRow c_first c_inWindow c_same c_made c_requests c_total_65 c_secrets_29 c_rounds c_high c_low c_keyHigh c_keyLow)), ((hm 0), .inl (cy 1, 64, .inl c_ROUND)), ((hm 47), .inl (cy 1, 8, .inl c_START)), ((hm 35), .inl (cy 1, 32, .inl c_digest_66)), ((hm 30), .inl (cy 1, 8, .inl c_h_67)), ((hm 36), .inl (cy 1, 32, .inl c_inner_68)), ((hm 25), .inl (cy 1, 32, .inl c_k_73)), ((hm 33), .inl (cy 1, 64, .inl c_message_69)), ((hm 45), .inl (cy 1, 600, .inl c_result)), ((hm 37), .inl (cy 1, 64, .inl c_secret_30)), ((hm 26), .inl (cy 1, 32, .inl c_v_10)), ((hm 31), .inl (cy 1, 64, .inl c_w_70)), ((hm 32), .inl (cy 1, 8, .inl c_x_71))]) H → va_D A ([(h0, .inr (12, zmo hm c_thrown c_state c_test c_words c_ill c_before c_inRow c_first c_inWindow c_same c_made c_requests c_total_65 c_secrets_29 c_rounds c_high c_low c_keyHigh c_keyLow)), ((hm 0), .inl (cy 1, 64, .inl c_ROUND)), ((hm 47), .inl (cy 1, 8, .inl c_START)), ((hm 35), .inl (cy 1, 32, .inl c_digest_66)), ((hm 30), .inl (cy 1, 8, .inl c_h_67)), ((hm 36), .inl (cy 1, 32, .inl c_inner_68)), ((hm 25), .inl (cy 1, 32, .inl c_k_73)), ((hm 33), .inl (cy 1, 64, .inl c_message_69)), ((hm 45), .inl (cy 1, 600, .inl c_result)), ((hm 37), .inl (cy 1, 64, .inl c_secret_30)), ((hm 26), .inl (cy 1, 32, .inl c_v_10)), ((hm 31), .inl (cy 1, 64, .inl c_w_70)), ((hm 32), .inl (cy 1, 8, .inl c_x_71))]) → va_S A s.heap H locs → lv_has ls 4 [(0, .ref h0), (1, .int p1), (2, .int i_1), (3, .int i_72)] → GW H locs (F0 m 81 ls [])) hf ?_ H locs ls hP hD hS (lv_sub hl [1, 2, 3, 0] rfl))
        clear hf hl hP hD hS
        intro self_86 ihself_86 z hf
        obtain ⟨i_72, c_k_73⟩ := z
        intro H locs ls hP hD hS hl
        refine hFr _ _ _ ?_
        unfold b_X10_update_81 at hf
        refine lv_iload_n (pc := 81) hx hb (zdt_at zt_X10_update_0 46 rfl) rfl (lv_at hl 3 rfl) ?_
        refine lv_bipush (pc := 82) (v := (32 : Int32)) hx hb (zdt_at zt_X10_update_0 47 rfl) (by decide) ?_
        refine lv_icmp_ge (pc := 84) (tgt := 105) hx hb (zdt_at zt_X10_update_0 48 rfl) (by decide) (fun cn_ => ?t_87) (fun cn_ => ?f_88)
        case t_87 =>
          replace hf := zt_s cn_ hf
          clear cn_
          exact hTo _ _ _ (kK_75 _ H locs ls hP hD hS (lv_sub hl [0, 1, 2] rfl) hf)
        replace hf := ze_s cn_ hf
        clear cn_
        refine lv_aload_n (pc := 87) hx hb (zdt_at zt_X10_update_0 49 rfl) rfl (lv_at hl 0 rfl) ?_
        refine va_get (pc := 88) (D := D) (ci := 12) (v := .ref (hm 25)) (C := RX10) (T := TX10) (N := 52) hx hb hts hcX10 hown hK hP 0 rfl rfl 25 (by decide) hw0 (fun _ h9 => h9) rfl (zdt_at zt_X10_update_0 50 rfl) ?_
        refine lv_iload_n (pc := 91) hx hb (zdt_at zt_X10_update_0 51 rfl) rfl (lv_at hl 3 rfl) ?_
        refine lv_aload_n (pc := 92) hx hb (zdt_at zt_X10_update_0 52 rfl) rfl (lv_at hl 0 rfl) ?_
        refine va_get (pc := 93) (D := D) (ci := 12) (v := .ref (hm 35)) (C := RX10) (T := TX10) (N := 52) hx hb hts hcX10 hown hK hP 0 rfl rfl 35 (by decide) hw1 (fun _ h9 => h9) rfl (zdt_at zt_X10_update_0 53 rfl) ?_
        refine lv_iload_n (pc := 96) hx hb (zdt_at zt_X10_update_0 54 rfl) rfl (lv_at hl 3 rfl) ?_
        replace hf := zk_s hf
        refine va_iald (pc := 97) hx hb hK hP 3 1 rfl rfl hf.1 (zdt_at zt_X10_update_0 55 rfl) ?_
        replace hf := hf.2
        replace hf := zk_s hf
        refine va_iast (pc := 98) hx hb hK hP hD hS 6 1 rfl rfl hf.1 (zdt_at zt_X10_update_0 56 rfl) ?_
        replace hf := hf.2
        clear hP hD hS
        intro H locs hP hD hS
        obtain ⟨c_k_89, e_⟩ : ∃ q : Nat → Int32, q = (upd c_k_73 i_72.toNatClampNeg (c_digest_66 i_72.toNatClampNeg)) := ⟨_, rfl⟩
        replace hf := zn_s hf e_
        replace hP : va_P D vwCl ([(h0, .inr (12, zmo hm c_thrown c_state c_test c_words c_ill c_before c_inRow c_first c_inWindow c_same c_made c_requests c_total_65 c_secrets_29 c_rounds c_high c_low c_keyHigh c_keyLow)), ((hm 0), .inl (cy 1, 64, .inl c_ROUND)), ((hm 47), .inl (cy 1, 8, .inl c_START)), ((hm 35), .inl (cy 1, 32, .inl c_digest_66)), ((hm 30), .inl (cy 1, 8, .inl c_h_67)), ((hm 36), .inl (cy 1, 32, .inl c_inner_68)), ((hm 25), .inl (cy 1, 32, .inl c_k_89)), ((hm 33), .inl (cy 1, 64, .inl c_message_69)), ((hm 45), .inl (cy 1, 600, .inl c_result)), ((hm 37), .inl (cy 1, 64, .inl c_secret_30)), ((hm 26), .inl (cy 1, 32, .inl c_v_10)), ((hm 31), .inl (cy 1, 64, .inl c_w_70)), ((hm 32), .inl (cy 1, 8, .inl c_x_71))]) H := by rw [e_]; exact hP
        replace hD : va_D A ([(h0, .inr (12, zmo hm c_thrown c_state c_test c_words c_ill c_before c_inRow c_first c_inWindow c_same c_made c_requests c_total_65 c_secrets_29 c_rounds c_high c_low c_keyHigh c_keyLow)), ((hm 0), .inl (cy 1, 64, .inl c_ROUND)), ((hm 47), .inl (cy 1, 8, .inl c_START)), ((hm 35), .inl (cy 1, 32, .inl c_digest_66)), ((hm 30), .inl (cy 1, 8, .inl c_h_67)), ((hm 36), .inl (cy 1, 32, .inl c_inner_68)), ((hm 25), .inl (cy 1, 32, .inl c_k_89)), ((hm 33), .inl (cy 1, 64, .inl c_message_69)), ((hm 45), .inl (cy 1, 600, .inl c_result)), ((hm 37), .inl (cy 1, 64, .inl c_secret_30)), ((hm 26), .inl (cy 1, 32, .inl c_v_10)), ((hm 31), .inl (cy 1, 64, .inl c_w_70)), ((hm 32), .inl (cy 1, 8, .inl c_x_71))]) := by rw [e_]; exact hD
        clear e_
        refine lv_iinc (pc := 99) (v := (i_72 + (1 : Int32))) (lv' := [(3, .int (i_72 + (1 : Int32))), (0, .ref h0), (1, .int p1), (2, .int i_1)]) hx hb (zdt_at zt_X10_update_0 57 rfl) hl (k := 3) rfl rfl (by decide) rfl ?_
        clear hl
        intro ls hl
        refine lv_goto (pc := 102) (tgt := 81) hx hb (zdt_at zt_X10_update_0 58 rfl) (by decide) ?_
        exact hTo _ _ _ (ihself_86 _ hf H locs ls hP hD hS (lv_sub hl [1, 2, 3, 0] rfl))
      clear eK_64
      refine hTo _ _ _ (zl_go (fun z => match z with | (i_53, c_h_54, c_message_55, c_total_56, c_w_57, c_x_58) => ∀ (H : Heap) (locs : List Loc) (ls : Array Slot), va_P D vwCl ([(h0, .inr (12, zmo hm c_thrown c_state c_test c_words c_ill c_before c_inRow c_first c_inWindow c_same c_made c_requests c_total_56 c_secrets_29 c_rounds c_high c_low c_keyHigh c_keyLow)), ((hm 0), .inl (cy 1, 64, .inl c_ROUND)), ((hm 47), .inl (cy 1, 8, .inl c_START)), ((hm 35), .inl (cy 1, 32, .inl c_digest_2)), ((hm 30), .inl (cy 1, 8, .inl c_h_54)), ((hm 36), .inl (cy 1, 32, .inl c_inner_4)), ((hm 25), .inl (cy 1, 32, .inl c_k_5)), ((hm 33), .inl (cy 1, 64, .inl c_message_55)), ((hm 45), .inl (cy 1, 600, .inl c_result)), ((hm 37), .inl (cy 1, 64, .inl c_secret_30)), ((hm 26), .inl (cy 1, 32, .inl c_v_10)), ((hm 31), .inl (cy 1, 64, .inl c_w_57)), ((hm 32), .inl (cy 1, 8, .inl c_x_58))]) H → va_D A ([(h0, .inr (12, zmo hm c_thrown c_state c_test c_words c_ill c_before c_inRow c_first c_inWindow c_same c_made c_requests c_total_56 c_secrets_29 c_rounds c_high c_low c_keyHigh c_keyLow)), ((hm 0), .inl (cy 1, 64, .inl c_ROUND)), ((hm 47), .inl (cy 1, 8, .inl c_START)), ((hm 35), .inl (cy 1, 32, .inl c_digest_2)), ((hm 30), .inl (cy 1, 8, .inl c_h_54)), ((hm 36), .inl (cy 1, 32, .inl c_inner_4)), ((hm 25), .inl (cy 1, 32, .inl c_k_5)), ((hm 33), .inl (cy 1, 64, .inl c_message_55)), ((hm 45), .inl (cy 1, 600, .inl c_result)), ((hm 37), .inl (cy 1, 64, .inl c_secret_30)), ((hm 26), .inl (cy 1, 32, .inl c_v_10)), ((hm 31), .inl (cy 1, 64, .inl c_w_57)), ((hm 32), .inl (cy 1, 8, .inl c_x_58))]) → va_S A s.heap H locs → lv_has ls 4 [(0, .ref h0), (1, .int p1), (2, .int i_1), (3, .int i_53)] → GW H locs (F0 m 54 ls [])) hf ?_ H locs ls hP hD hS (lv_sub hl [1, 2, 3, 0] rfl))
      clear hf hl hP hD hS
      intro self_90 ihself_90 z hf
      obtain ⟨i_53, c_h_54, c_message_55, c_total_56, c_w_57, c_x_58⟩ := z
      intro H locs ls hP hD hS hl
      refine hFr _ _ _ ?_
      unfold b_X10_update_54 at hf
      refine lv_iload_n (pc := 54) hx hb (zdt_at zt_X10_update_0 31 rfl) rfl (lv_at hl 3 rfl) ?_
      refine lv_iload_n (pc := 55) hx hb (zdt_at zt_X10_update_0 32 rfl) rfl (lv_at hl 1 rfl) ?_
      refine lv_icmp_ge (pc := 56) (tgt := 75) hx hb (zdt_at zt_X10_update_0 33 rfl) (by decide) (fun cn_ => ?t_91) (fun cn_ => ?f_92)
      case t_91 =>
        replace hf := zt_s cn_ hf
        clear cn_
        exact hTo _ _ _ (kK_64 _ _ _ _ _ H locs ls hP hD hS (lv_sub hl [0, 1, 2] rfl) hf)
      replace hf := ze_s cn_ hf
      clear cn_
      refine lv_aload_n (pc := 59) hx hb (zdt_at zt_X10_update_0 34 rfl) rfl (lv_at hl 0 rfl) ?_
      refine lv_aload_n (pc := 60) hx hb (zdt_at zt_X10_update_0 35 rfl) rfl (lv_at hl 0 rfl) ?_
      refine va_get (pc := 61) (D := D) (ci := 12) (v := .ref (hm 45)) (C := RX10) (T := TX10) (N := 52) hx hb hts hcX10 hown hK hP 0 rfl rfl 45 (by decide) hw2 (fun _ h9 => h9) rfl (zdt_at zt_X10_update_0 36 rfl) ?_
      refine lv_iload_n (pc := 64) hx hb (zdt_at zt_X10_update_0 37 rfl) rfl (lv_at hl 3 rfl) ?_
      replace hf := zk_s hf
      refine va_iald (pc := 65) hx hb hK hP 8 1 rfl rfl hf.1 (zdt_at zt_X10_update_0 38 rfl) ?_
      replace hf := hf.2
      replace hf := zb_s hf
      obtain ⟨⟨c_total_93, c_h_94, c_message_95, c_w_96, c_x_97⟩, hc_, hf⟩ := hf
      refine zcn2 (pc := 66) (rv := none) (va_runV (As := [.int (c_result i_53.toNatClampNeg)]) (rest := []) ⟨hx, hb, hml, hown, hts⟩ (c_X10_say l D cy tt H.size h0 hm (c_result i_53.toNatClampNeg) c_total_56 c_ROUND c_h_54 c_message_55 c_w_57 c_x_58 c_thrown c_state c_test c_words c_ill c_before c_inRow c_first c_inWindow c_same c_made c_requests c_secrets_29 c_rounds c_high c_low c_keyHigh c_keyLow c_total_93 c_h_94 c_message_95 c_w_96 c_x_97 hc_) (cwV 1 hts gX10_update_X10_say rfl rfl rfl (by decide +kernel) ⟨Nat.le_of_ble_eq_true rfl, Nat.le_of_ble_eq_true rfl⟩) ⟨zblind, va_recv hK hP (ci := 12) (q0 := 0) rfl rfl, zpre hE hS (hP.sub [0, 1, 4, 7, 11, 12] rfl) (hD.sub [0, 1, 4, 7, 11, 12] (by decide) rfl) (va_free hD hS hA [0, 1, 4, 7, 11, 12] rfl)⟩ rfl rfl hl.1 rfl (lv_room (Nat.le_of_ble_eq_true rfl)) (zdt_at zt_X10_update_0 39 rfl) ⟨Nat.zero_le _, Nat.zero_le _⟩) hS hP hD (va_free hD hS hA [0, 1, 4, 7, 11, 12] rfl) [0, 1, 4, 7, 11, 12] rfl (by decide) rfl ?_
      clear hP hD hS hc_
      intro H locs hP hD hS
      replace hP : va_P D vwCl ([(h0, .inr (12, zmo hm c_thrown c_state c_test c_words c_ill c_before c_inRow c_first c_inWindow c_same c_made c_requests c_total_93 c_secrets_29 c_rounds c_high c_low c_keyHigh c_keyLow)), ((hm 0), .inl (cy 1, 64, .inl c_ROUND)), ((hm 47), .inl (cy 1, 8, .inl c_START)), ((hm 35), .inl (cy 1, 32, .inl c_digest_2)), ((hm 30), .inl (cy 1, 8, .inl c_h_94)), ((hm 36), .inl (cy 1, 32, .inl c_inner_4)), ((hm 25), .inl (cy 1, 32, .inl c_k_5)), ((hm 33), .inl (cy 1, 64, .inl c_message_95)), ((hm 45), .inl (cy 1, 600, .inl c_result)), ((hm 37), .inl (cy 1, 64, .inl c_secret_30)), ((hm 26), .inl (cy 1, 32, .inl c_v_10)), ((hm 31), .inl (cy 1, 64, .inl c_w_96)), ((hm 32), .inl (cy 1, 8, .inl c_x_97))]) H := hP
      replace hD : va_D A ([(h0, .inr (12, zmo hm c_thrown c_state c_test c_words c_ill c_before c_inRow c_first c_inWindow c_same c_made c_requests c_total_93 c_secrets_29 c_rounds c_high c_low c_keyHigh c_keyLow)), ((hm 0), .inl (cy 1, 64, .inl c_ROUND)), ((hm 47), .inl (cy 1, 8, .inl c_START)), ((hm 35), .inl (cy 1, 32, .inl c_digest_2)), ((hm 30), .inl (cy 1, 8, .inl c_h_94)), ((hm 36), .inl (cy 1, 32, .inl c_inner_4)), ((hm 25), .inl (cy 1, 32, .inl c_k_5)), ((hm 33), .inl (cy 1, 64, .inl c_message_95)), ((hm 45), .inl (cy 1, 600, .inl c_result)), ((hm 37), .inl (cy 1, 64, .inl c_secret_30)), ((hm 26), .inl (cy 1, 32, .inl c_v_10)), ((hm 31), .inl (cy 1, 64, .inl c_w_96)), ((hm 32), .inl (cy 1, 8, .inl c_x_97))]) := hD
      refine W.eq (g2 := F0 m 69 ls []) rfl ?_
      refine lv_iinc (pc := 69) (v := (i_53 + (1 : Int32))) (lv' := [(3, .int (i_53 + (1 : Int32))), (0, .ref h0), (1, .int p1), (2, .int i_1)]) hx hb (zdt_at zt_X10_update_0 40 rfl) hl (k := 3) rfl rfl (by decide) rfl ?_
      clear hl
      intro ls hl
      refine lv_goto (pc := 72) (tgt := 54) hx hb (zdt_at zt_X10_update_0 41 rfl) (by decide) ?_
      exact hTo _ _ _ (ihself_90 _ hf H locs ls hP hD hS (lv_sub hl [1, 2, 3, 0] rfl))
    clear eK_47
    refine hTo _ _ _ (zl_go (fun z => match z with | (i_36, c_h_37, c_message_38, c_total_39, c_w_40, c_x_41) => ∀ (H : Heap) (locs : List Loc) (ls : Array Slot), va_P D vwCl ([(h0, .inr (12, zmo hm c_thrown c_state c_test c_words c_ill c_before c_inRow c_first c_inWindow c_same c_made c_requests c_total_39 c_secrets_29 c_rounds c_high c_low c_keyHigh c_keyLow)), ((hm 0), .inl (cy 1, 64, .inl c_ROUND)), ((hm 47), .inl (cy 1, 8, .inl c_START)), ((hm 35), .inl (cy 1, 32, .inl c_digest_2)), ((hm 30), .inl (cy 1, 8, .inl c_h_37)), ((hm 36), .inl (cy 1, 32, .inl c_inner_4)), ((hm 25), .inl (cy 1, 32, .inl c_k_5)), ((hm 33), .inl (cy 1, 64, .inl c_message_38)), ((hm 45), .inl (cy 1, 600, .inl c_result)), ((hm 37), .inl (cy 1, 64, .inl c_secret_30)), ((hm 26), .inl (cy 1, 32, .inl c_v_10)), ((hm 31), .inl (cy 1, 64, .inl c_w_40)), ((hm 32), .inl (cy 1, 8, .inl c_x_41))]) H → va_D A ([(h0, .inr (12, zmo hm c_thrown c_state c_test c_words c_ill c_before c_inRow c_first c_inWindow c_same c_made c_requests c_total_39 c_secrets_29 c_rounds c_high c_low c_keyHigh c_keyLow)), ((hm 0), .inl (cy 1, 64, .inl c_ROUND)), ((hm 47), .inl (cy 1, 8, .inl c_START)), ((hm 35), .inl (cy 1, 32, .inl c_digest_2)), ((hm 30), .inl (cy 1, 8, .inl c_h_37)), ((hm 36), .inl (cy 1, 32, .inl c_inner_4)), ((hm 25), .inl (cy 1, 32, .inl c_k_5)), ((hm 33), .inl (cy 1, 64, .inl c_message_38)), ((hm 45), .inl (cy 1, 600, .inl c_result)), ((hm 37), .inl (cy 1, 64, .inl c_secret_30)), ((hm 26), .inl (cy 1, 32, .inl c_v_10)), ((hm 31), .inl (cy 1, 64, .inl c_w_40)), ((hm 32), .inl (cy 1, 8, .inl c_x_41))]) → va_S A s.heap H locs → lv_has ls 4 [(0, .ref h0), (1, .int p1), (2, .int i_1), (3, .int i_36)] → GW H locs (F0 m 25 ls [])) hf ?_ H locs ls hP hD hS (lv_sub hl [1, 2, 3, 0] rfl))
    clear hf hl hP hD hS
    intro self_98 ihself_98 z hf
    obtain ⟨i_36, c_h_37, c_message_38, c_total_39, c_w_40, c_x_41⟩ := z
    intro H locs ls hP hD hS hl
    refine hFr _ _ _ ?_
    unfold b_X10_update_25 at hf
    refine lv_iload_n (pc := 25) hx hb (zdt_at zt_X10_update_0 15 rfl) rfl (lv_at hl 3 rfl) ?_
    refine lv_bipush (pc := 26) (v := (32 : Int32)) hx hb (zdt_at zt_X10_update_0 16 rfl) (by decide) ?_
    refine lv_icmp_ge (pc := 28) (tgt := 47) hx hb (zdt_at zt_X10_update_0 17 rfl) (by decide) (fun cn_ => ?t_99) (fun cn_ => ?f_100)
    case t_99 =>
      replace hf := zt_s cn_ hf
      clear cn_
      exact hTo _ _ _ (kK_47 _ _ _ _ _ H locs ls hP hD hS (lv_sub hl [0, 1, 2] rfl) hf)
    replace hf := ze_s cn_ hf
    clear cn_
    refine lv_aload_n (pc := 31) hx hb (zdt_at zt_X10_update_0 18 rfl) rfl (lv_at hl 0 rfl) ?_
    refine lv_aload_n (pc := 32) hx hb (zdt_at zt_X10_update_0 19 rfl) rfl (lv_at hl 0 rfl) ?_
    refine va_get (pc := 33) (D := D) (ci := 12) (v := .ref (hm 26)) (C := RX10) (T := TX10) (N := 52) hx hb hts hcX10 hown hK hP 0 rfl rfl 26 (by decide) hw3 (fun _ h9 => h9) rfl (zdt_at zt_X10_update_0 20 rfl) ?_
    refine lv_iload_n (pc := 36) hx hb (zdt_at zt_X10_update_0 21 rfl) rfl (lv_at hl 3 rfl) ?_
    replace hf := zk_s hf
    refine va_iald (pc := 37) hx hb hK hP 10 1 rfl rfl hf.1 (zdt_at zt_X10_update_0 22 rfl) ?_
    replace hf := hf.2
    replace hf := zb_s hf
    obtain ⟨⟨c_total_101, c_h_102, c_message_103, c_w_104, c_x_105⟩, hc_, hf⟩ := hf
    refine zcn2 (pc := 38) (rv := none) (va_runV (As := [.int (c_v_10 i_36.toNatClampNeg)]) (rest := []) ⟨hx, hb, hml, hown, hts⟩ (c_X10_say l D cy tt H.size h0 hm (c_v_10 i_36.toNatClampNeg) c_total_39 c_ROUND c_h_37 c_message_38 c_w_40 c_x_41 c_thrown c_state c_test c_words c_ill c_before c_inRow c_first c_inWindow c_same c_made c_requests c_secrets_29 c_rounds c_high c_low c_keyHigh c_keyLow c_total_101 c_h_102 c_message_103 c_w_104 c_x_105 hc_) (cwV 1 hts gX10_update_X10_say rfl rfl rfl (by decide +kernel) ⟨Nat.le_of_ble_eq_true rfl, Nat.le_of_ble_eq_true rfl⟩) ⟨zblind, va_recv hK hP (ci := 12) (q0 := 0) rfl rfl, zpre hE hS (hP.sub [0, 1, 4, 7, 11, 12] rfl) (hD.sub [0, 1, 4, 7, 11, 12] (by decide) rfl) (va_free hD hS hA [0, 1, 4, 7, 11, 12] rfl)⟩ rfl rfl hl.1 rfl (lv_room (Nat.le_of_ble_eq_true rfl)) (zdt_at zt_X10_update_0 23 rfl) ⟨Nat.zero_le _, Nat.zero_le _⟩) hS hP hD (va_free hD hS hA [0, 1, 4, 7, 11, 12] rfl) [0, 1, 4, 7, 11, 12] rfl (by decide) rfl ?_
    clear hP hD hS hc_
    intro H locs hP hD hS
    replace hP : va_P D vwCl ([(h0, .inr (12, zmo hm c_thrown c_state c_test c_words c_ill c_before c_inRow c_first c_inWindow c_same c_made c_requests c_total_101 c_secrets_29 c_rounds c_high c_low c_keyHigh c_keyLow)), ((hm 0), .inl (cy 1, 64, .inl c_ROUND)), ((hm 47), .inl (cy 1, 8, .inl c_START)), ((hm 35), .inl (cy 1, 32, .inl c_digest_2)), ((hm 30), .inl (cy 1, 8, .inl c_h_102)), ((hm 36), .inl (cy 1, 32, .inl c_inner_4)), ((hm 25), .inl (cy 1, 32, .inl c_k_5)), ((hm 33), .inl (cy 1, 64, .inl c_message_103)), ((hm 45), .inl (cy 1, 600, .inl c_result)), ((hm 37), .inl (cy 1, 64, .inl c_secret_30)), ((hm 26), .inl (cy 1, 32, .inl c_v_10)), ((hm 31), .inl (cy 1, 64, .inl c_w_104)), ((hm 32), .inl (cy 1, 8, .inl c_x_105))]) H := hP
    replace hD : va_D A ([(h0, .inr (12, zmo hm c_thrown c_state c_test c_words c_ill c_before c_inRow c_first c_inWindow c_same c_made c_requests c_total_101 c_secrets_29 c_rounds c_high c_low c_keyHigh c_keyLow)), ((hm 0), .inl (cy 1, 64, .inl c_ROUND)), ((hm 47), .inl (cy 1, 8, .inl c_START)), ((hm 35), .inl (cy 1, 32, .inl c_digest_2)), ((hm 30), .inl (cy 1, 8, .inl c_h_102)), ((hm 36), .inl (cy 1, 32, .inl c_inner_4)), ((hm 25), .inl (cy 1, 32, .inl c_k_5)), ((hm 33), .inl (cy 1, 64, .inl c_message_103)), ((hm 45), .inl (cy 1, 600, .inl c_result)), ((hm 37), .inl (cy 1, 64, .inl c_secret_30)), ((hm 26), .inl (cy 1, 32, .inl c_v_10)), ((hm 31), .inl (cy 1, 64, .inl c_w_104)), ((hm 32), .inl (cy 1, 8, .inl c_x_105))]) := hD
    refine W.eq (g2 := F0 m 41 ls []) rfl ?_
    refine lv_iinc (pc := 41) (v := (i_36 + (1 : Int32))) (lv' := [(3, .int (i_36 + (1 : Int32))), (0, .ref h0), (1, .int p1), (2, .int i_1)]) hx hb (zdt_at zt_X10_update_0 24 rfl) hl (k := 3) rfl rfl (by decide) rfl ?_
    clear hl
    intro ls hl
    refine lv_goto (pc := 44) (tgt := 25) hx hb (zdt_at zt_X10_update_0 25 rfl) (by decide) ?_
    exact hTo _ _ _ (ihself_98 _ hf H locs ls hP hD hS (lv_sub hl [1, 2, 3, 0] rfl))
  clear eK_28
  refine lv_if_eq (pc := 8) (tgt := 15) hx hb (zdt_at zt_X10_update_0 6 rfl) (by decide) (fun cn_ => ?t_106) (fun cn_ => ?f_107)
  case t_106 =>
    replace hf := zt_s cn_ hf
    clear cn_
    exact hTo _ _ _ (kK_28  H locs ls hP hD hS (lv_sub hl [0, 1, 2] rfl) hf)
  replace hf := ze_s cn_ hf
  clear cn_
  refine lv_iload_n (pc := 11) hx hb (zdt_at zt_X10_update_0 7 rfl) rfl (lv_at hl 1 rfl) ?_
  refine lv_if_le (pc := 12) (tgt := 115) hx hb (zdt_at zt_X10_update_0 8 rfl) (by decide) (fun cn_ => ?t_108) (fun cn_ => ?f_109)
  case t_108 =>
    replace hf := zt_s cn_ hf
    clear cn_
    exact hTo _ _ _ (kK_24 _ _ _ _ _ _ _ _ _ _ _ H locs ls hP hD hS (lv_sub hl [] rfl) hf)
  replace hf := ze_s cn_ hf
  clear cn_
  exact hTo _ _ _ (kK_28  H locs ls hP hD hS (lv_sub hl [0, 1, 2] rfl) hf)
set_option maxHeartbeats 4000000 in
set_option maxRecDepth 100000 in
theorem c_X10_useWords (l : Launch) (D : va_G) (cy : Nat → ClassId) (tt : Nat → Nat) (sz : Nat) (h0 : Nat) (hm : Nat → Nat) (p1 : Int32) (c_words : Int32) (c_result : Nat → Int32) (c_word : Nat → Int32) (c_thrown : Int32) (c_state : Int32) (c_test : Int32) (c_ill : Int32) (c_before : Int32) (c_inRow : Int32) (c_first : Int32) (c_inWindow : Int32) (c_same : Int32) (c_made : Int32) (c_requests : Int32) (c_total : Int64) (c_secrets : Int32) (c_rounds : Int32) (c_high : Int64) (c_low : Int64) (c_keyHigh : Int64) (c_keyLow : Int64) (c_words' : Int32) (c_result' : Nat → Int32) (c_word' : Nat → Int32) (hf : f_X10_useWords p1 c_words c_result c_word = some (c_words', c_result', c_word')) : Met l yX10_useWords wsX10_useWords ({ frames := 0, cells := 0, slots := 0, locals := 0 }) (zPc D cy tt sz [.ref h0, .int p1] ([(h0, .inr (12, zmo hm c_thrown c_state c_test c_words c_ill c_before c_inRow c_first c_inWindow c_same c_made c_requests c_total c_secrets c_rounds c_high c_low c_keyHigh c_keyLow)), ((hm 45), .inl (cy 1, 600, .inl c_result)), ((hm 16), .inl (cy 1, 64, .inl c_word))])) (zQ D none ([(h0, .inr (12, zmo hm c_thrown c_state c_test c_words' c_ill c_before c_inRow c_first c_inWindow c_same c_made c_requests c_total c_secrets c_rounds c_high c_low c_keyHigh c_keyLow)), ((hm 45), .inl (cy 1, 600, .inl c_result')), ((hm 16), .inl (cy 1, 64, .inl c_word'))]) (va_A ([(h0, .inr (12, zmo hm c_thrown c_state c_test c_words c_ill c_before c_inRow c_first c_inWindow c_same c_made c_requests c_total c_secrets c_rounds c_high c_low c_keyHigh c_keyLow)), ((hm 45), .inl (cy 1, 600, .inl c_result)), ((hm 16), .inl (cy 1, 64, .inl c_word))]) sz)) 0 0 (va_A ([(h0, .inr (12, zmo hm c_thrown c_state c_test c_words c_ill c_before c_inRow c_first c_inWindow c_same c_made c_requests c_total c_secrets c_rounds c_high c_low c_keyHigh c_keyLow)), ((hm 45), .inl (cy 1, 600, .inl c_result)), ((hm 16), .inl (cy 1, 64, .inl c_word))]) sz) := by
  refine Met.ofW (cc := cX10_useWords) (maxL := 3) (ret := none) (by decide) rfl ?_
  intro p e s m args below meth c s₁ B hml hv
  obtain ⟨rfl, rfl, hP, hD0, hE⟩ := hv
  have hx := B.exec
  have hb := B.bytes
  have hr := B.returns
  have hts := atoms_spec (ws := wsX10_useWords) B.pre
  have hown : s.vm.findClass RX10 = some m.cls := findClass_of_methodNamed B.named
  have hlocks := B.notSynchronized
  clear B
  have hD := hD0.self (sz := s.heap.size)
  generalize hAe : va_A ([(h0, .inr (12, zmo hm c_thrown c_state c_test c_words c_ill c_before c_inRow c_first c_inWindow c_same c_made c_requests c_total c_secrets c_rounds c_high c_low c_keyHigh c_keyLow)), ((hm 45), .inl (cy 1, 600, .inl c_result)), ((hm 16), .inl (cy 1, 64, .inl c_word))]) s.heap.size = A at hD hE ⊢
  have hA : ∀ q : Nat, s.heap.size ≤ q → A q := fun q h => by rw [← hAe]; exact Or.inr h
  clear hAe hD0
  have hS : va_S A s.heap s.heap [] := va_S.rf
  have hK := hE.1
  have hw0 := hts (.fieldLink RX10 254 "SealedModuleModel" "words" "I") (by decide +kernel)
  have hw1 := hts (.fieldLink RX10 111 "SealedModuleModel" "word" "[I") (by decide +kernel)
  have hw2 := hts (.fieldLink RX10 168 "SealedModuleModel" "result" "[I") (by decide +kernel)
  have hcX10 : ∀ w ∈ u_ws RX10 TX10 52, w ∈ wsX10_useWords := (fun _ h => List.mem_cons_of_mem _ (List.mem_append_right _ h))
  have hl := lv_entry ([.ref h0, .int p1]) (n := 3) (Nat.le_of_ble_eq_true rfl)
  rw [lg_entry_eq]
  generalize (lg_sl ([.ref h0, .int p1]) ++ List.replicate (3 - (lg_sl ([.ref h0, .int p1])).length) Slot.unset).toArray = ls at hl ⊢
  replace hl : lv_has ls 3 [(0, .ref h0), (1, .int p1)] := hl
  unfold f_X10_useWords at hf
  refine zgo (fun GW hTo hFr => ?_)
  refine hFr _ _ _ ?_
  obtain ⟨H, hHe⟩ : ∃ H, H = s.heap := ⟨_, rfl⟩
  obtain ⟨locs, hLe⟩ : ∃ L : List Loc, L = [] := ⟨_, rfl⟩
  rw [← hHe] at hP
  replace hS : va_S A s.heap H locs := by rw [hHe, hLe]; exact hS
  refine zat hHe.symm hLe.symm ?_
  clear hHe hLe
  refine lv_iconst (pc := 0) (v := (0 : Int32)) hx hb (zdt_at zt_X10_useWords_0 0 rfl) (by decide) ?_
  refine lv_istore_n (pc := 1) (lv' := [(2, .int (0 : Int32)), (0, .ref h0), (1, .int p1)]) hx hb (zdt_at zt_X10_useWords_0 1 rfl) rfl hl (by decide) rfl ?_
  clear hl
  intro ls hl
  replace hf := zj_s hf
  obtain ⟨K_4, eK_4, hf⟩ := hf
  have kK_4 : ∀ (c_result_3 : Nat → Int32) (H : Heap) (locs : List Loc) (ls : Array Slot), va_P D vwCl ([(h0, .inr (12, zmo hm c_thrown c_state c_test c_words c_ill c_before c_inRow c_first c_inWindow c_same c_made c_requests c_total c_secrets c_rounds c_high c_low c_keyHigh c_keyLow)), ((hm 45), .inl (cy 1, 600, .inl c_result_3)), ((hm 16), .inl (cy 1, 64, .inl c_word))]) H → va_D A ([(h0, .inr (12, zmo hm c_thrown c_state c_test c_words c_ill c_before c_inRow c_first c_inWindow c_same c_made c_requests c_total c_secrets c_rounds c_high c_low c_keyHigh c_keyLow)), ((hm 45), .inl (cy 1, 600, .inl c_result_3)), ((hm 16), .inl (cy 1, 64, .inl c_word))]) → va_S A s.heap H locs → lv_has ls 3 [(0, .ref h0), (1, .int p1)] → K_4 c_result_3 = some (c_words', c_result', c_word') → GW H locs (F0 m 43 ls []) := by
    clear hf hl hP hD hS
    intro c_result_3 H locs ls hP hD hS hl hf
    rw [eK_4] at hf
    clear eK_4
    refine hFr _ _ _ ?_
    refine lv_aload_n (pc := 43) hx hb (zdt_at zt_X10_useWords_0 29 rfl) rfl (lv_at hl 0 rfl) ?_
    refine lv_aload_n (pc := 44) hx hb (zdt_at zt_X10_useWords_0 30 rfl) rfl (lv_at hl 0 rfl) ?_
    refine va_get (pc := 45) (D := D) (ci := 12) (v := .int c_words) (C := RX10) (T := TX10) (N := 52) hx hb hts hcX10 hown hK hP 0 rfl rfl 15 (by decide) hw0 (fun _ h9 => h9) rfl (zdt_at zt_X10_useWords_0 31 rfl) ?_
    refine lv_iload_n (pc := 48) hx hb (zdt_at zt_X10_useWords_0 32 rfl) rfl (lv_at hl 1 rfl) ?_
    refine lv_isub (pc := 49) hx hb (zdt_at zt_X10_useWords_0 33 rfl) ?_
    refine lv_topi (fun x_5 e_ => ?_)
    replace hf := zn_s hf e_
    clear e_
    refine va_put (pc := 50) (D := D) (ci := 12) (v := .int x_5) (ty := .int) (C := RX10) (T := TX10) (N := 52) hx hb hts hcX10 tyX10 tyX10_ok nmX10 hown hK hP hD hS 0 rfl rfl 15 (by decide) hw0 (fun _ h9 => h9) rfl (by decide +kernel) rfl rfl (Nat.le_of_ble_eq_true rfl) (zdt_at zt_X10_useWords_0 34 rfl) ?_
    clear hP hD hS
    intro H locs hP hD hS
    replace hP : va_P D vwCl ([(h0, .inr (12, zmo hm c_thrown c_state c_test x_5 c_ill c_before c_inRow c_first c_inWindow c_same c_made c_requests c_total c_secrets c_rounds c_high c_low c_keyHigh c_keyLow)), ((hm 45), .inl (cy 1, 600, .inl c_result_3)), ((hm 16), .inl (cy 1, 64, .inl c_word))]) H := hP
    replace hD : va_D A ([(h0, .inr (12, zmo hm c_thrown c_state c_test x_5 c_ill c_before c_inRow c_first c_inWindow c_same c_made c_requests c_total c_secrets c_rounds c_high c_low c_keyHigh c_keyLow)), ((hm 45), .inl (cy 1, 600, .inl c_result_3)), ((hm 16), .inl (cy 1, 64, .inl c_word))]) := hD
    refine lv_iconst (pc := 53) (v := (0 : Int32)) hx hb (zdt_at zt_X10_useWords_0 35 rfl) (by decide) ?_
    refine lv_istore_n (pc := 54) (lv' := [(2, .int (0 : Int32)), (0, .ref h0), (1, .int p1)]) hx hb (zdt_at zt_X10_useWords_0 36 rfl) rfl hl (by decide) rfl ?_
    clear hl
    intro ls hl
    replace hf := zj_s hf
    obtain ⟨K_9, eK_9, hf⟩ := hf
    have kK_9 : ∀ (c_word_8 : Nat → Int32) (H : Heap) (locs : List Loc) (ls : Array Slot), va_P D vwCl ([(h0, .inr (12, zmo hm c_thrown c_state c_test x_5 c_ill c_before c_inRow c_first c_inWindow c_same c_made c_requests c_total c_secrets c_rounds c_high c_low c_keyHigh c_keyLow)), ((hm 45), .inl (cy 1, 600, .inl c_result_3)), ((hm 16), .inl (cy 1, 64, .inl c_word_8))]) H → va_D A ([(h0, .inr (12, zmo hm c_thrown c_state c_test x_5 c_ill c_before c_inRow c_first c_inWindow c_same c_made c_requests c_total c_secrets c_rounds c_high c_low c_keyHigh c_keyLow)), ((hm 45), .inl (cy 1, 600, .inl c_result_3)), ((hm 16), .inl (cy 1, 64, .inl c_word_8))]) → va_S A s.heap H locs → lv_has ls 3 [] → K_9 c_word_8 = some (c_words', c_result', c_word') → GW H locs (F0 m 83 ls []) := by
      clear hf hl hP hD hS
      intro c_word_8 H locs ls hP hD hS hl hf
      rw [eK_9] at hf
      clear eK_9
      refine hFr _ _ _ ?_
      cases hf
      exact W.vret (pc := 83) hx hb hr (fun t ht hW => ⟨rfl, ⟨by rw [ht]; exact hP, hD⟩, hS.F ht⟩) hS.2.2 (zdt_at zt_X10_useWords_0 53 rfl)
    clear eK_9
    refine hTo _ _ _ (zl_go (fun z => match z with | (i_6, c_word_7) => ∀ (H : Heap) (locs : List Loc) (ls : Array Slot), va_P D vwCl ([(h0, .inr (12, zmo hm c_thrown c_state c_test x_5 c_ill c_before c_inRow c_first c_inWindow c_same c_made c_requests c_total c_secrets c_rounds c_high c_low c_keyHigh c_keyLow)), ((hm 45), .inl (cy 1, 600, .inl c_result_3)), ((hm 16), .inl (cy 1, 64, .inl c_word_7))]) H → va_D A ([(h0, .inr (12, zmo hm c_thrown c_state c_test x_5 c_ill c_before c_inRow c_first c_inWindow c_same c_made c_requests c_total c_secrets c_rounds c_high c_low c_keyHigh c_keyLow)), ((hm 45), .inl (cy 1, 600, .inl c_result_3)), ((hm 16), .inl (cy 1, 64, .inl c_word_7))]) → va_S A s.heap H locs → lv_has ls 3 [(0, .ref h0), (1, .int p1), (2, .int i_6)] → GW H locs (F0 m 55 ls [])) hf ?_ H locs ls hP hD hS (lv_sub hl [1, 2, 0] rfl))
    clear hf hl hP hD hS
    intro self_10 ihself_10 z hf
    obtain ⟨i_6, c_word_7⟩ := z
    intro H locs ls hP hD hS hl
    refine hFr _ _ _ ?_
    unfold b_X10_useWords_55 at hf
    refine lv_iload_n (pc := 55) hx hb (zdt_at zt_X10_useWords_0 37 rfl) rfl (lv_at hl 2 rfl) ?_
    refine lv_aload_n (pc := 56) hx hb (zdt_at zt_X10_useWords_0 38 rfl) rfl (lv_at hl 0 rfl) ?_
    refine va_get (pc := 57) (D := D) (ci := 12) (v := .int x_5) (C := RX10) (T := TX10) (N := 52) hx hb hts hcX10 hown hK hP 0 rfl rfl 15 (by decide) hw0 (fun _ h9 => h9) rfl (zdt_at zt_X10_useWords_0 39 rfl) ?_
    refine lv_icmp_ge (pc := 60) (tgt := 83) hx hb (zdt_at zt_X10_useWords_0 40 rfl) (by decide) (fun cn_ => ?t_11) (fun cn_ => ?f_12)
    case t_11 =>
      replace hf := zt_s cn_ hf
      clear cn_
      exact hTo _ _ _ (kK_9 _ H locs ls hP hD hS (lv_sub hl [] rfl) hf)
    replace hf := ze_s cn_ hf
    clear cn_
    refine lv_aload_n (pc := 63) hx hb (zdt_at zt_X10_useWords_0 41 rfl) rfl (lv_at hl 0 rfl) ?_
    refine va_get (pc := 64) (D := D) (ci := 12) (v := .ref (hm 16)) (C := RX10) (T := TX10) (N := 52) hx hb hts hcX10 hown hK hP 0 rfl rfl 16 (by decide) hw1 (fun _ h9 => h9) rfl (zdt_at zt_X10_useWords_0 42 rfl) ?_
    refine lv_iload_n (pc := 67) hx hb (zdt_at zt_X10_useWords_0 43 rfl) rfl (lv_at hl 2 rfl) ?_
    refine lv_aload_n (pc := 68) hx hb (zdt_at zt_X10_useWords_0 44 rfl) rfl (lv_at hl 0 rfl) ?_
    refine va_get (pc := 69) (D := D) (ci := 12) (v := .ref (hm 16)) (C := RX10) (T := TX10) (N := 52) hx hb hts hcX10 hown hK hP 0 rfl rfl 16 (by decide) hw1 (fun _ h9 => h9) rfl (zdt_at zt_X10_useWords_0 45 rfl) ?_
    refine lv_iload_n (pc := 72) hx hb (zdt_at zt_X10_useWords_0 46 rfl) rfl (lv_at hl 2 rfl) ?_
    refine lv_iload_n (pc := 73) hx hb (zdt_at zt_X10_useWords_0 47 rfl) rfl (lv_at hl 1 rfl) ?_
    refine lv_iadd (pc := 74) hx hb (zdt_at zt_X10_useWords_0 48 rfl) ?_
    replace hf := zk_s hf
    refine va_iald (pc := 75) hx hb hK hP 2 1 rfl rfl hf.1 (zdt_at zt_X10_useWords_0 49 rfl) ?_
    replace hf := hf.2
    replace hf := zk_s hf
    refine va_iast (pc := 76) hx hb hK hP hD hS 2 1 rfl rfl hf.1 (zdt_at zt_X10_useWords_0 50 rfl) ?_
    replace hf := hf.2
    clear hP hD hS
    intro H locs hP hD hS
    obtain ⟨c_word_13, e_⟩ : ∃ q : Nat → Int32, q = (upd c_word_7 i_6.toNatClampNeg (c_word_7 (i_6 + p1).toNatClampNeg)) := ⟨_, rfl⟩
    replace hf := zn_s hf e_
    replace hP : va_P D vwCl ([(h0, .inr (12, zmo hm c_thrown c_state c_test x_5 c_ill c_before c_inRow c_first c_inWindow c_same c_made c_requests c_total c_secrets c_rounds c_high c_low c_keyHigh c_keyLow)), ((hm 45), .inl (cy 1, 600, .inl c_result_3)), ((hm 16), .inl (cy 1, 64, .inl c_word_13))]) H := by rw [e_]; exact hP
    replace hD : va_D A ([(h0, .inr (12, zmo hm c_thrown c_state c_test x_5 c_ill c_before c_inRow c_first c_inWindow c_same c_made c_requests c_total c_secrets c_rounds c_high c_low c_keyHigh c_keyLow)), ((hm 45), .inl (cy 1, 600, .inl c_result_3)), ((hm 16), .inl (cy 1, 64, .inl c_word_13))]) := by rw [e_]; exact hD
    clear e_
    refine lv_iinc (pc := 77) (v := (i_6 + (1 : Int32))) (lv' := [(2, .int (i_6 + (1 : Int32))), (0, .ref h0), (1, .int p1)]) hx hb (zdt_at zt_X10_useWords_0 51 rfl) hl (k := 2) rfl rfl (by decide) rfl ?_
    clear hl
    intro ls hl
    refine lv_goto (pc := 80) (tgt := 55) hx hb (zdt_at zt_X10_useWords_0 52 rfl) (by decide) ?_
    exact hTo _ _ _ (ihself_10 _ hf H locs ls hP hD hS (lv_sub hl [1, 2, 0] rfl))
  clear eK_4
  refine hTo _ _ _ (zl_go (fun z => match z with | (i_1, c_result_2) => ∀ (H : Heap) (locs : List Loc) (ls : Array Slot), va_P D vwCl ([(h0, .inr (12, zmo hm c_thrown c_state c_test c_words c_ill c_before c_inRow c_first c_inWindow c_same c_made c_requests c_total c_secrets c_rounds c_high c_low c_keyHigh c_keyLow)), ((hm 45), .inl (cy 1, 600, .inl c_result_2)), ((hm 16), .inl (cy 1, 64, .inl c_word))]) H → va_D A ([(h0, .inr (12, zmo hm c_thrown c_state c_test c_words c_ill c_before c_inRow c_first c_inWindow c_same c_made c_requests c_total c_secrets c_rounds c_high c_low c_keyHigh c_keyLow)), ((hm 45), .inl (cy 1, 600, .inl c_result_2)), ((hm 16), .inl (cy 1, 64, .inl c_word))]) → va_S A s.heap H locs → lv_has ls 3 [(0, .ref h0), (1, .int p1), (2, .int i_1)] → GW H locs (F0 m 2 ls [])) hf ?_ H locs ls hP hD hS (lv_sub hl [1, 2, 0] rfl))
  clear hf hl hP hD hS
  intro self_14 ihself_14 z hf
  obtain ⟨i_1, c_result_2⟩ := z
  intro H locs ls hP hD hS hl
  refine hFr _ _ _ ?_
  unfold b_X10_useWords_2 at hf
  refine lv_iload_n (pc := 2) hx hb (zdt_at zt_X10_useWords_0 2 rfl) rfl (lv_at hl 2 rfl) ?_
  refine lv_iconst (pc := 3) (v := (4 : Int32)) hx hb (zdt_at zt_X10_useWords_0 3 rfl) (by decide) ?_
  refine lv_iload_n (pc := 4) hx hb (zdt_at zt_X10_useWords_0 4 rfl) rfl (lv_at hl 1 rfl) ?_
  refine lv_imul (pc := 5) hx hb (zdt_at zt_X10_useWords_0 5 rfl) ?_
  refine lv_icmp_ge (pc := 6) (tgt := 43) hx hb (zdt_at zt_X10_useWords_0 6 rfl) (by decide) (fun cn_ => ?t_15) (fun cn_ => ?f_16)
  case t_15 =>
    replace hf := zt_s cn_ hf
    clear cn_
    exact hTo _ _ _ (kK_4 _ H locs ls hP hD hS (lv_sub hl [0, 1] rfl) hf)
  replace hf := ze_s cn_ hf
  clear cn_
  refine lv_aload_n (pc := 9) hx hb (zdt_at zt_X10_useWords_0 7 rfl) rfl (lv_at hl 0 rfl) ?_
  refine va_get (pc := 10) (D := D) (ci := 12) (v := .ref (hm 45)) (C := RX10) (T := TX10) (N := 52) hx hb hts hcX10 hown hK hP 0 rfl rfl 45 (by decide) hw2 (fun _ h9 => h9) rfl (zdt_at zt_X10_useWords_0 8 rfl) ?_
  refine lv_iload_n (pc := 13) hx hb (zdt_at zt_X10_useWords_0 9 rfl) rfl (lv_at hl 2 rfl) ?_
  refine lv_aload_n (pc := 14) hx hb (zdt_at zt_X10_useWords_0 10 rfl) rfl (lv_at hl 0 rfl) ?_
  refine va_get (pc := 15) (D := D) (ci := 12) (v := .ref (hm 16)) (C := RX10) (T := TX10) (N := 52) hx hb hts hcX10 hown hK hP 0 rfl rfl 16 (by decide) hw1 (fun _ h9 => h9) rfl (zdt_at zt_X10_useWords_0 11 rfl) ?_
  refine lv_iload_n (pc := 18) hx hb (zdt_at zt_X10_useWords_0 12 rfl) rfl (lv_at hl 2 rfl) ?_
  refine lv_iconst (pc := 19) (v := (4 : Int32)) hx hb (zdt_at zt_X10_useWords_0 13 rfl) (by decide) ?_
  replace hf := zk_s hf
  refine lv_idiv (pc := 20) hx hb (zdt_at zt_X10_useWords_0 14 rfl) hf.1 ?_
  replace hf := hf.2
  replace hf := zk_s hf
  refine va_iald (pc := 21) hx hb hK hP 2 1 rfl rfl hf.1 (zdt_at zt_X10_useWords_0 15 rfl) ?_
  replace hf := hf.2
  refine lv_bipush (pc := 22) (v := (24 : Int32)) hx hb (zdt_at zt_X10_useWords_0 16 rfl) (by decide) ?_
  refine lv_bipush (pc := 24) (v := (8 : Int32)) hx hb (zdt_at zt_X10_useWords_0 17 rfl) (by decide) ?_
  refine lv_iload_n (pc := 26) hx hb (zdt_at zt_X10_useWords_0 18 rfl) rfl (lv_at hl 2 rfl) ?_
  refine lv_iconst (pc := 27) (v := (4 : Int32)) hx hb (zdt_at zt_X10_useWords_0 19 rfl) (by decide) ?_
  replace hf := zk_s hf
  refine lv_irem (pc := 28) hx hb (zdt_at zt_X10_useWords_0 20 rfl) hf.1 ?_
  replace hf := hf.2
  refine lv_imul (pc := 29) hx hb (zdt_at zt_X10_useWords_0 21 rfl) ?_
  refine lv_isub (pc := 30) hx hb (zdt_at zt_X10_useWords_0 22 rfl) ?_
  refine lv_ishr (pc := 31) hx hb (zdt_at zt_X10_useWords_0 23 rfl) ?_
  refine lv_sipush (pc := 32) (v := (255 : Int32)) hx hb (zdt_at zt_X10_useWords_0 24 rfl) (by decide) ?_
  refine lv_iand (pc := 35) hx hb (zdt_at zt_X10_useWords_0 25 rfl) ?_
  replace hf := zk_s hf
  refine va_iast (pc := 36) hx hb hK hP hD hS 1 1 rfl rfl hf.1 (zdt_at zt_X10_useWords_0 26 rfl) ?_
  replace hf := hf.2
  clear hP hD hS
  intro H locs hP hD hS
  obtain ⟨c_result_17, e_⟩ : ∃ q : Nat → Int32, q = (upd c_result_2 i_1.toNatClampNeg (((c_word (i_1 / (4 : Int32)).toNatClampNeg) >>> (((24 : Int32) - ((8 : Int32) * (i_1 - i_1 / (4 : Int32) * (4 : Int32)))) &&& 31)) &&& (255 : Int32))) := ⟨_, rfl⟩
  replace hf := zn_s hf e_
  replace hP : va_P D vwCl ([(h0, .inr (12, zmo hm c_thrown c_state c_test c_words c_ill c_before c_inRow c_first c_inWindow c_same c_made c_requests c_total c_secrets c_rounds c_high c_low c_keyHigh c_keyLow)), ((hm 45), .inl (cy 1, 600, .inl c_result_17)), ((hm 16), .inl (cy 1, 64, .inl c_word))]) H := by rw [e_]; exact hP
  replace hD : va_D A ([(h0, .inr (12, zmo hm c_thrown c_state c_test c_words c_ill c_before c_inRow c_first c_inWindow c_same c_made c_requests c_total c_secrets c_rounds c_high c_low c_keyHigh c_keyLow)), ((hm 45), .inl (cy 1, 600, .inl c_result_17)), ((hm 16), .inl (cy 1, 64, .inl c_word))]) := by rw [e_]; exact hD
  clear e_
  refine lv_iinc (pc := 37) (v := (i_1 + (1 : Int32))) (lv' := [(2, .int (i_1 + (1 : Int32))), (0, .ref h0), (1, .int p1)]) hx hb (zdt_at zt_X10_useWords_0 27 rfl) hl (k := 2) rfl rfl (by decide) rfl ?_
  clear hl
  intro ls hl
  refine lv_goto (pc := 40) (tgt := 2) hx hb (zdt_at zt_X10_useWords_0 28 rfl) (by decide) ?_
  exact hTo _ _ _ (ihself_14 _ hf H locs ls hP hD hS (lv_sub hl [1, 2, 0] rfl))
set_option maxHeartbeats 4000000 in
set_option maxRecDepth 100000 in
theorem c_X10_canGenerate (l : Launch) (D : va_G) (cy : Nat → ClassId) (tt : Nat → Nat) (sz : Nat) (h0 : Nat) (hm : Nat → Nat) (c_ill : Int32) (c_made : Int32) (c_requests : Int32) (c_words : Int32) (c_thrown : Int32) (c_state : Int32) (c_test : Int32) (c_before : Int32) (c_inRow : Int32) (c_first : Int32) (c_inWindow : Int32) (c_same : Int32) (c_total : Int64) (c_secrets : Int32) (c_rounds : Int32) (c_high : Int64) (c_low : Int64) (c_keyHigh : Int64) (c_keyLow : Int64) (r_ : Int32) (hf : f_X10_canGenerate c_ill c_made c_requests c_words = some r_) : Met l yX10_canGenerate wsX10_canGenerate ({ frames := 0, cells := 0, slots := 0, locals := 0 }) (zPc D cy tt sz [.ref h0] ([(h0, .inr (12, zmo hm c_thrown c_state c_test c_words c_ill c_before c_inRow c_first c_inWindow c_same c_made c_requests c_total c_secrets c_rounds c_high c_low c_keyHigh c_keyLow))])) (fun _ st o t => o = .returned (some (.int r_)) ∧ t.heap = st.heap) 0 0 (fun _ => False) := by
  refine Met.ofW (cc := cX10_canGenerate) (maxL := 1) (ret := (some .boolean)) (by decide) rfl ?_
  intro p e s m args below meth c s₁ B hml hv
  obtain ⟨rfl, rfl, hP, hD0, hE⟩ := hv
  have hx := B.exec
  have hb := B.bytes
  have hr := B.returns
  have hts := atoms_spec (ws := wsX10_canGenerate) B.pre
  have hown : s.vm.findClass RX10 = some m.cls := findClass_of_methodNamed B.named
  have hlocks := B.notSynchronized
  clear B
  have hD := hD0.self (sz := s.heap.size)
  generalize hAe : va_A ([(h0, .inr (12, zmo hm c_thrown c_state c_test c_words c_ill c_before c_inRow c_first c_inWindow c_same c_made c_requests c_total c_secrets c_rounds c_high c_low c_keyHigh c_keyLow))]) s.heap.size = A at hD hE
  have hA : ∀ q : Nat, s.heap.size ≤ q → A q := fun q h => by rw [← hAe]; exact Or.inr h
  clear hAe hD0
  have hS : va_S A s.heap s.heap [] := va_S.rf
  have hK := hE.1
  have hw0 := hts (.fieldLink RX10 257 "SealedModuleModel" "ill" "Z") (by decide +kernel)
  have hw1 := hts (.fieldLink RX10 261 "SealedModuleModel" "made" "Z") (by decide +kernel)
  have hw2 := hts (.fieldLink RX10 254 "SealedModuleModel" "words" "I") (by decide +kernel)
  have hw3 := hts (.fieldLink RX10 264 "SealedModuleModel" "requests" "I") (by decide +kernel)
  have hcX10 : ∀ w ∈ u_ws RX10 TX10 52, w ∈ wsX10_canGenerate := (fun _ h => List.mem_cons_of_mem _ (List.mem_append_right _ h))
  have hl := lv_entry ([.ref h0]) (n := 1) (Nat.le_of_ble_eq_true rfl)
  rw [lg_entry_eq]
  generalize (lg_sl ([.ref h0]) ++ List.replicate (1 - (lg_sl ([.ref h0])).length) Slot.unset).toArray = ls at hl ⊢
  replace hl : lv_has ls 1 [(0, .ref h0)] := hl
  unfold f_X10_canGenerate at hf
  refine zgo (fun GW hTo hFr => ?_)
  refine hFr _ _ _ ?_
  refine lv_aload_n (pc := 0) hx hb (zdt_at zt_X10_canGenerate_0 0 rfl) rfl (lv_at hl 0 rfl) ?_
  refine va_get (pc := 1) (D := D) (ci := 12) (v := .int c_ill) (C := RX10) (T := TX10) (N := 52) hx hb hts hcX10 hown hK hP 0 rfl rfl 17 (by decide) hw0 (fun _ h9 => h9) rfl (zdt_at zt_X10_canGenerate_0 1 rfl) ?_
  refine lv_if_ne (pc := 4) (tgt := 48) hx hb (zdt_at zt_X10_canGenerate_0 2 rfl) (by decide) (fun cn_ => ?t_1) (fun cn_ => ?f_2)
  case t_1 =>
    replace hf := ze_s cn_ hf
    clear cn_
    refine lv_iconst (pc := 48) (v := (0 : Int32)) hx hb (zdt_at zt_X10_canGenerate_0 21 rfl) (by decide) ?_
    cases hf
    exact W.zret (pc := 49) hx hb hr rfl (fun t ht hW => ⟨rfl, ht⟩) (fun _ h => nomatch h) (zdt_at zt_X10_canGenerate_0 22 rfl)
  replace hf := zt_s cn_ hf
  clear cn_
  refine lv_aload_n (pc := 7) hx hb (zdt_at zt_X10_canGenerate_0 3 rfl) rfl (lv_at hl 0 rfl) ?_
  refine va_get (pc := 8) (D := D) (ci := 12) (v := .int c_made) (C := RX10) (T := TX10) (N := 52) hx hb hts hcX10 hown hK hP 0 rfl rfl 23 (by decide) hw1 (fun _ h9 => h9) rfl (zdt_at zt_X10_canGenerate_0 4 rfl) ?_
  refine lv_if_eq (pc := 11) (tgt := 35) hx hb (zdt_at zt_X10_canGenerate_0 5 rfl) (by decide) (fun cn_ => ?t_3) (fun cn_ => ?f_4)
  case t_3 =>
    replace hf := zt_s cn_ hf
    clear cn_
    refine lv_aload_n (pc := 35) hx hb (zdt_at zt_X10_canGenerate_0 15 rfl) rfl (lv_at hl 0 rfl) ?_
    refine va_get (pc := 36) (D := D) (ci := 12) (v := .int c_words) (C := RX10) (T := TX10) (N := 52) hx hb hts hcX10 hown hK hP 0 rfl rfl 15 (by decide) hw2 (fun _ h9 => h9) rfl (zdt_at zt_X10_canGenerate_0 16 rfl) ?_
    refine lv_bipush (pc := 39) (v := (12 : Int32)) hx hb (zdt_at zt_X10_canGenerate_0 17 rfl) (by decide) ?_
    refine lv_icmp_lt (pc := 41) (tgt := 48) hx hb (zdt_at zt_X10_canGenerate_0 18 rfl) (by decide) (fun cn_ => ?t_5) (fun cn_ => ?f_6)
    case t_5 =>
      replace hf := zt_s cn_ hf
      clear cn_
      refine lv_iconst (pc := 48) (v := (0 : Int32)) hx hb (zdt_at zt_X10_canGenerate_0 21 rfl) (by decide) ?_
      cases hf
      exact W.zret (pc := 49) hx hb hr rfl (fun t ht hW => ⟨rfl, ht⟩) (fun _ h => nomatch h) (zdt_at zt_X10_canGenerate_0 22 rfl)
    replace hf := ze_s cn_ hf
    clear cn_
    refine lv_iconst (pc := 44) (v := (1 : Int32)) hx hb (zdt_at zt_X10_canGenerate_0 19 rfl) (by decide) ?_
    refine lv_goto (pc := 45) (tgt := 49) hx hb (zdt_at zt_X10_canGenerate_0 20 rfl) (by decide) ?_
    cases hf
    exact W.zret (pc := 49) hx hb hr rfl (fun t ht hW => ⟨rfl, ht⟩) (fun _ h => nomatch h) (zdt_at zt_X10_canGenerate_0 22 rfl)
  replace hf := ze_s cn_ hf
  clear cn_
  refine lv_aload_n (pc := 14) hx hb (zdt_at zt_X10_canGenerate_0 6 rfl) rfl (lv_at hl 0 rfl) ?_
  refine va_get (pc := 15) (D := D) (ci := 12) (v := .int c_requests) (C := RX10) (T := TX10) (N := 52) hx hb hts hcX10 hown hK hP 0 rfl rfl 24 (by decide) hw3 (fun _ h9 => h9) rfl (zdt_at zt_X10_canGenerate_0 7 rfl) ?_
  refine lv_bipush (pc := 18) (v := (64 : Int32)) hx hb (zdt_at zt_X10_canGenerate_0 8 rfl) (by decide) ?_
  refine lv_icmp_lt (pc := 20) (tgt := 44) hx hb (zdt_at zt_X10_canGenerate_0 9 rfl) (by decide) (fun cn_ => ?t_7) (fun cn_ => ?f_8)
  case t_7 =>
    replace hf := zt_s cn_ hf
    clear cn_
    refine lv_iconst (pc := 44) (v := (1 : Int32)) hx hb (zdt_at zt_X10_canGenerate_0 19 rfl) (by decide) ?_
    refine lv_goto (pc := 45) (tgt := 49) hx hb (zdt_at zt_X10_canGenerate_0 20 rfl) (by decide) ?_
    cases hf
    exact W.zret (pc := 49) hx hb hr rfl (fun t ht hW => ⟨rfl, ht⟩) (fun _ h => nomatch h) (zdt_at zt_X10_canGenerate_0 22 rfl)
  replace hf := ze_s cn_ hf
  clear cn_
  refine lv_aload_n (pc := 23) hx hb (zdt_at zt_X10_canGenerate_0 10 rfl) rfl (lv_at hl 0 rfl) ?_
  refine va_get (pc := 24) (D := D) (ci := 12) (v := .int c_words) (C := RX10) (T := TX10) (N := 52) hx hb hts hcX10 hown hK hP 0 rfl rfl 15 (by decide) hw2 (fun _ h9 => h9) rfl (zdt_at zt_X10_canGenerate_0 11 rfl) ?_
  refine lv_bipush (pc := 27) (v := (8 : Int32)) hx hb (zdt_at zt_X10_canGenerate_0 12 rfl) (by decide) ?_
  refine lv_icmp_lt (pc := 29) (tgt := 48) hx hb (zdt_at zt_X10_canGenerate_0 13 rfl) (by decide) (fun cn_ => ?t_9) (fun cn_ => ?f_10)
  case t_9 =>
    replace hf := zt_s cn_ hf
    clear cn_
    refine lv_iconst (pc := 48) (v := (0 : Int32)) hx hb (zdt_at zt_X10_canGenerate_0 21 rfl) (by decide) ?_
    cases hf
    exact W.zret (pc := 49) hx hb hr rfl (fun t ht hW => ⟨rfl, ht⟩) (fun _ h => nomatch h) (zdt_at zt_X10_canGenerate_0 22 rfl)
  replace hf := ze_s cn_ hf
  clear cn_
  refine lv_goto (pc := 32) (tgt := 44) hx hb (zdt_at zt_X10_canGenerate_0 14 rfl) (by decide) ?_
  refine lv_iconst (pc := 44) (v := (1 : Int32)) hx hb (zdt_at zt_X10_canGenerate_0 19 rfl) (by decide) ?_
  refine lv_goto (pc := 45) (tgt := 49) hx hb (zdt_at zt_X10_canGenerate_0 20 rfl) (by decide) ?_
  cases hf
  exact W.zret (pc := 49) hx hb hr rfl (fun t ht hW => ⟨rfl, ht⟩) (fun _ h => nomatch h) (zdt_at zt_X10_canGenerate_0 22 rfl)
set_option maxHeartbeats 4000000 in
set_option maxRecDepth 100000 in
theorem c_X10_generate (l : Launch) (D : va_G) (cy : Nat → ClassId) (tt : Nat → Nat) (sz : Nat) (h0 : Nat) (hm : Nat → Nat) (p1 : Int32) (p2 : Int32) (c_made : Int32) (c_requests : Int32) (c_secrets : Int32) (c_total : Int64) (c_words : Int32) (c_ROUND : Nat → Int32) (c_START : Nat → Int32) (c_buffer : Nat → Int32) (c_digest : Nat → Int32) (c_h : Nat → Int32) (c_inner : Nat → Int32) (c_k : Nat → Int32) (c_message : Nat → Int32) (c_result : Nat → Int32) (c_secret : Nat → Int32) (c_v : Nat → Int32) (c_w : Nat → Int32) (c_word : Nat → Int32) (c_x : Nat → Int32) (c_thrown : Int32) (c_state : Int32) (c_test : Int32) (c_ill : Int32) (c_before : Int32) (c_inRow : Int32) (c_first : Int32) (c_inWindow : Int32) (c_same : Int32) (c_rounds : Int32) (c_high : Int64) (c_low : Int64) (c_keyHigh : Int64) (c_keyLow : Int64) (c_made' : Int32) (c_requests' : Int32) (c_secrets' : Int32) (c_total' : Int64) (c_words' : Int32) (c_digest' : Nat → Int32) (c_h' : Nat → Int32) (c_inner' : Nat → Int32) (c_k' : Nat → Int32) (c_message' : Nat → Int32) (c_result' : Nat → Int32) (c_secret' : Nat → Int32) (c_v' : Nat → Int32) (c_w' : Nat → Int32) (c_word' : Nat → Int32) (c_x' : Nat → Int32) (hf : f_X10_generate p1 p2 c_made c_requests c_secrets c_total c_words c_ROUND c_START c_buffer c_digest c_h c_inner c_k c_message c_result c_secret c_v c_w c_word c_x = some (c_made', c_requests', c_secrets', c_total', c_words', c_digest', c_h', c_inner', c_k', c_message', c_result', c_secret', c_v', c_w', c_word', c_x')) : Met l yX10_generate wsX10_generate ({ frames := 7, cells := 0, slots := 0, locals := 154 }) (zPc D cy tt sz [.ref h0, .int p1, .int p2] ([(h0, .inr (12, zmo hm c_thrown c_state c_test c_words c_ill c_before c_inRow c_first c_inWindow c_same c_made c_requests c_total c_secrets c_rounds c_high c_low c_keyHigh c_keyLow)), ((hm 0), .inl (cy 1, 64, .inl c_ROUND)), ((hm 47), .inl (cy 1, 8, .inl c_START)), ((hm 6), .inl (cy 1, 512, .inl c_buffer)), ((hm 35), .inl (cy 1, 32, .inl c_digest)), ((hm 30), .inl (cy 1, 8, .inl c_h)), ((hm 36), .inl (cy 1, 32, .inl c_inner)), ((hm 25), .inl (cy 1, 32, .inl c_k)), ((hm 33), .inl (cy 1, 64, .inl c_message)), ((hm 45), .inl (cy 1, 600, .inl c_result)), ((hm 37), .inl (cy 1, 64, .inl c_secret)), ((hm 26), .inl (cy 1, 32, .inl c_v)), ((hm 31), .inl (cy 1, 64, .inl c_w)), ((hm 16), .inl (cy 1, 64, .inl c_word)), ((hm 32), .inl (cy 1, 8, .inl c_x))])) (zQ D none ([(h0, .inr (12, zmo hm c_thrown c_state c_test c_words' c_ill c_before c_inRow c_first c_inWindow c_same c_made' c_requests' c_total' c_secrets' c_rounds c_high c_low c_keyHigh c_keyLow)), ((hm 0), .inl (cy 1, 64, .inl c_ROUND)), ((hm 47), .inl (cy 1, 8, .inl c_START)), ((hm 6), .inl (cy 1, 512, .inl c_buffer)), ((hm 35), .inl (cy 1, 32, .inl c_digest')), ((hm 30), .inl (cy 1, 8, .inl c_h')), ((hm 36), .inl (cy 1, 32, .inl c_inner')), ((hm 25), .inl (cy 1, 32, .inl c_k')), ((hm 33), .inl (cy 1, 64, .inl c_message')), ((hm 45), .inl (cy 1, 600, .inl c_result')), ((hm 37), .inl (cy 1, 64, .inl c_secret')), ((hm 26), .inl (cy 1, 32, .inl c_v')), ((hm 31), .inl (cy 1, 64, .inl c_w')), ((hm 16), .inl (cy 1, 64, .inl c_word')), ((hm 32), .inl (cy 1, 8, .inl c_x'))]) (va_A ([(h0, .inr (12, zmo hm c_thrown c_state c_test c_words c_ill c_before c_inRow c_first c_inWindow c_same c_made c_requests c_total c_secrets c_rounds c_high c_low c_keyHigh c_keyLow)), ((hm 0), .inl (cy 1, 64, .inl c_ROUND)), ((hm 47), .inl (cy 1, 8, .inl c_START)), ((hm 6), .inl (cy 1, 512, .inl c_buffer)), ((hm 35), .inl (cy 1, 32, .inl c_digest)), ((hm 30), .inl (cy 1, 8, .inl c_h)), ((hm 36), .inl (cy 1, 32, .inl c_inner)), ((hm 25), .inl (cy 1, 32, .inl c_k)), ((hm 33), .inl (cy 1, 64, .inl c_message)), ((hm 45), .inl (cy 1, 600, .inl c_result)), ((hm 37), .inl (cy 1, 64, .inl c_secret)), ((hm 26), .inl (cy 1, 32, .inl c_v)), ((hm 31), .inl (cy 1, 64, .inl c_w)), ((hm 16), .inl (cy 1, 64, .inl c_word)), ((hm 32), .inl (cy 1, 8, .inl c_x))]) sz)) 0 0 (va_A ([(h0, .inr (12, zmo hm c_thrown c_state c_test c_words c_ill c_before c_inRow c_first c_inWindow c_same c_made c_requests c_total c_secrets c_rounds c_high c_low c_keyHigh c_keyLow)), ((hm 0), .inl (cy 1, 64, .inl c_ROUND)), ((hm 47), .inl (cy 1, 8, .inl c_START)), ((hm 6), .inl (cy 1, 512, .inl c_buffer)), ((hm 35), .inl (cy 1, 32, .inl c_digest)), ((hm 30), .inl (cy 1, 8, .inl c_h)), ((hm 36), .inl (cy 1, 32, .inl c_inner)), ((hm 25), .inl (cy 1, 32, .inl c_k)), ((hm 33), .inl (cy 1, 64, .inl c_message)), ((hm 45), .inl (cy 1, 600, .inl c_result)), ((hm 37), .inl (cy 1, 64, .inl c_secret)), ((hm 26), .inl (cy 1, 32, .inl c_v)), ((hm 31), .inl (cy 1, 64, .inl c_w)), ((hm 16), .inl (cy 1, 64, .inl c_word)), ((hm 32), .inl (cy 1, 8, .inl c_x))]) sz) := by
  refine Met.ofW (cc := cX10_generate) (maxL := 4) (ret := none) (by decide) rfl ?_
  intro p e s m args below meth c s₁ B hml hv
  obtain ⟨rfl, rfl, hP, hD0, hE⟩ := hv
  have hx := B.exec
  have hb := B.bytes
  have hr := B.returns
  have hts := atoms_spec (ws := wsX10_generate) B.pre
  have hown : s.vm.findClass RX10 = some m.cls := findClass_of_methodNamed B.named
  have hlocks := B.notSynchronized
  clear B
  have hD := hD0.self (sz := s.heap.size)
  generalize hAe : va_A ([(h0, .inr (12, zmo hm c_thrown c_state c_test c_words c_ill c_before c_inRow c_first c_inWindow c_same c_made c_requests c_total c_secrets c_rounds c_high c_low c_keyHigh c_keyLow)), ((hm 0), .inl (cy 1, 64, .inl c_ROUND)), ((hm 47), .inl (cy 1, 8, .inl c_START)), ((hm 6), .inl (cy 1, 512, .inl c_buffer)), ((hm 35), .inl (cy 1, 32, .inl c_digest)), ((hm 30), .inl (cy 1, 8, .inl c_h)), ((hm 36), .inl (cy 1, 32, .inl c_inner)), ((hm 25), .inl (cy 1, 32, .inl c_k)), ((hm 33), .inl (cy 1, 64, .inl c_message)), ((hm 45), .inl (cy 1, 600, .inl c_result)), ((hm 37), .inl (cy 1, 64, .inl c_secret)), ((hm 26), .inl (cy 1, 32, .inl c_v)), ((hm 31), .inl (cy 1, 64, .inl c_w)), ((hm 16), .inl (cy 1, 64, .inl c_word)), ((hm 32), .inl (cy 1, 8, .inl c_x))]) s.heap.size = A at hD hE ⊢
  have hA : ∀ q : Nat, s.heap.size ≤ q → A q := fun q h => by rw [← hAe]; exact Or.inr h
  clear hAe hD0
  have hS : va_S A s.heap s.heap [] := va_S.rf
  have hK := hE.1
  have hw0 := hts (.fieldLink RX10 261 "SealedModuleModel" "made" "Z") (by decide +kernel)
  have hw1 := hts (.fieldLink RX10 264 "SealedModuleModel" "requests" "I") (by decide +kernel)
  have hw2 := hts (.fieldLink RX10 168 "SealedModuleModel" "result" "[I") (by decide +kernel)
  have hw3 := hts (.fieldLink RX10 117 "SealedModuleModel" "v" "[I") (by decide +kernel)
  have hw4 := hts (.fieldLink RX10 84 "SealedModuleModel" "buffer" "[I") (by decide +kernel)
  have hw5 := hts (.fieldLink RX10 114 "SealedModuleModel" "k" "[I") (by decide +kernel)
  have hcX10 : ∀ w ∈ u_ws RX10 TX10 52, w ∈ wsX10_generate := (fun _ h => List.mem_cons_of_mem _ (List.mem_append_right _ h))
  have hl := lv_entry ([.ref h0, .int p1, .int p2]) (n := 4) (Nat.le_of_ble_eq_true rfl)
  rw [lg_entry_eq]
  generalize (lg_sl ([.ref h0, .int p1, .int p2]) ++ List.replicate (4 - (lg_sl ([.ref h0, .int p1, .int p2])).length) Slot.unset).toArray = ls at hl ⊢
  replace hl : lv_has ls 4 [(0, .ref h0), (1, .int p1), (2, .int p2)] := hl
  unfold f_X10_generate at hf
  refine zgo (fun GW hTo hFr => ?_)
  refine hFr _ _ _ ?_
  obtain ⟨H, hHe⟩ : ∃ H, H = s.heap := ⟨_, rfl⟩
  obtain ⟨locs, hLe⟩ : ∃ L : List Loc, L = [] := ⟨_, rfl⟩
  rw [← hHe] at hP
  replace hS : va_S A s.heap H locs := by rw [hHe, hLe]; exact hS
  refine zat hHe.symm hLe.symm ?_
  clear hHe hLe
  refine lv_aload_n (pc := 0) hx hb (zdt_at zt_X10_generate_0 0 rfl) rfl (lv_at hl 0 rfl) ?_
  refine va_get (pc := 1) (D := D) (ci := 12) (v := .int c_made) (C := RX10) (T := TX10) (N := 52) hx hb hts hcX10 hown hK hP 0 rfl rfl 23 (by decide) hw0 (fun _ h9 => h9) rfl (zdt_at zt_X10_generate_0 1 rfl) ?_
  replace hf := zj_s hf
  obtain ⟨K_17, eK_17, hf⟩ := hf
  have kK_17 : ∀ (c_digest_1 : Nat → Int32) (c_h_2 : Nat → Int32) (c_inner_3 : Nat → Int32) (c_k_4 : Nat → Int32) (c_made_5 : Int32) (c_message_6 : Nat → Int32) (c_requests_7 : Int32) (c_result_8 : Nat → Int32) (c_secret_9 : Nat → Int32) (c_secrets_10 : Int32) (c_total_11 : Int64) (c_v_12 : Nat → Int32) (c_w_13 : Nat → Int32) (c_word_14 : Nat → Int32) (c_words_15 : Int32) (c_x_16 : Nat → Int32) (H : Heap) (locs : List Loc) (ls : Array Slot), va_P D vwCl ([(h0, .inr (12, zmo hm c_thrown c_state c_test c_words_15 c_ill c_before c_inRow c_first c_inWindow c_same c_made_5 c_requests_7 c_total_11 c_secrets_10 c_rounds c_high c_low c_keyHigh c_keyLow)), ((hm 0), .inl (cy 1, 64, .inl c_ROUND)), ((hm 47), .inl (cy 1, 8, .inl c_START)), ((hm 6), .inl (cy 1, 512, .inl c_buffer)), ((hm 35), .inl (cy 1, 32, .inl c_digest_1)), ((hm 30), .inl (cy 1, 8, .inl c_h_2)), ((hm 36), .inl (cy 1, 32, .inl c_inner_3)), ((hm 25), .inl (cy 1, 32, .inl c_k_4)), ((hm 33), .inl (cy 1, 64, .inl c_message_6)), ((hm 45), .inl (cy 1, 600, .inl c_result_8)), ((hm 37), .inl (cy 1, 64, .inl c_secret_9)), ((hm 26), .inl (cy 1, 32, .inl c_v_12)), ((hm 31), .inl (cy 1, 64, .inl c_w_13)), ((hm 16), .inl (cy 1, 64, .inl c_word_14)), ((hm 32), .inl (cy 1, 8, .inl c_x_16))]) H → va_D A ([(h0, .inr (12, zmo hm c_thrown c_state c_test c_words_15 c_ill c_before c_inRow c_first c_inWindow c_same c_made_5 c_requests_7 c_total_11 c_secrets_10 c_rounds c_high c_low c_keyHigh c_keyLow)), ((hm 0), .inl (cy 1, 64, .inl c_ROUND)), ((hm 47), .inl (cy 1, 8, .inl c_START)), ((hm 6), .inl (cy 1, 512, .inl c_buffer)), ((hm 35), .inl (cy 1, 32, .inl c_digest_1)), ((hm 30), .inl (cy 1, 8, .inl c_h_2)), ((hm 36), .inl (cy 1, 32, .inl c_inner_3)), ((hm 25), .inl (cy 1, 32, .inl c_k_4)), ((hm 33), .inl (cy 1, 64, .inl c_message_6)), ((hm 45), .inl (cy 1, 600, .inl c_result_8)), ((hm 37), .inl (cy 1, 64, .inl c_secret_9)), ((hm 26), .inl (cy 1, 32, .inl c_v_12)), ((hm 31), .inl (cy 1, 64, .inl c_w_13)), ((hm 16), .inl (cy 1, 64, .inl c_word_14)), ((hm 32), .inl (cy 1, 8, .inl c_x_16))]) → va_S A s.heap H locs → lv_has ls 4 [(0, .ref h0), (1, .int p1), (2, .int p2)] → K_17 c_digest_1 c_h_2 c_inner_3 c_k_4 c_made_5 c_message_6 c_requests_7 c_result_8 c_secret_9 c_secrets_10 c_total_11 c_v_12 c_w_13 c_word_14 c_words_15 c_x_16 = some (c_made', c_requests', c_secrets', c_total', c_words', c_digest', c_h', c_inner', c_k', c_message', c_result', c_secret', c_v', c_w', c_word', c_x') → GW H locs (F0 m 86 ls []) := by
    clear hf hl hP hD hS
    intro c_digest_1 c_h_2 c_inner_3 c_k_4 c_made_5 c_message_6 c_requests_7 c_result_8 c_secret_9 c_secrets_10 c_total_11 c_v_12 c_w_13 c_word_14 c_words_15 c_x_16 H locs ls hP hD hS hl hf
    rw [eK_17] at hf
    clear eK_17
    refine hFr _ _ _ ?_
    refine lv_iconst (pc := 86) (v := (0 : Int32)) hx hb (zdt_at zt_X10_generate_0 46 rfl) (by decide) ?_
    refine lv_istore_n (pc := 87) (lv' := [(3, .int (0 : Int32)), (0, .ref h0), (1, .int p1), (2, .int p2)]) hx hb (zdt_at zt_X10_generate_0 47 rfl) rfl hl (by decide) rfl ?_
    clear hl
    intro ls hl
    replace hf := zj_s hf
    obtain ⟨K_21, eK_21, hf⟩ := hf
    have kK_21 : ∀ (c_result_20 : Nat → Int32) (H : Heap) (locs : List Loc) (ls : Array Slot), va_P D vwCl ([(h0, .inr (12, zmo hm c_thrown c_state c_test c_words_15 c_ill c_before c_inRow c_first c_inWindow c_same c_made_5 c_requests_7 c_total_11 c_secrets_10 c_rounds c_high c_low c_keyHigh c_keyLow)), ((hm 0), .inl (cy 1, 64, .inl c_ROUND)), ((hm 47), .inl (cy 1, 8, .inl c_START)), ((hm 6), .inl (cy 1, 512, .inl c_buffer)), ((hm 35), .inl (cy 1, 32, .inl c_digest_1)), ((hm 30), .inl (cy 1, 8, .inl c_h_2)), ((hm 36), .inl (cy 1, 32, .inl c_inner_3)), ((hm 25), .inl (cy 1, 32, .inl c_k_4)), ((hm 33), .inl (cy 1, 64, .inl c_message_6)), ((hm 45), .inl (cy 1, 600, .inl c_result_20)), ((hm 37), .inl (cy 1, 64, .inl c_secret_9)), ((hm 26), .inl (cy 1, 32, .inl c_v_12)), ((hm 31), .inl (cy 1, 64, .inl c_w_13)), ((hm 16), .inl (cy 1, 64, .inl c_word_14)), ((hm 32), .inl (cy 1, 8, .inl c_x_16))]) H → va_D A ([(h0, .inr (12, zmo hm c_thrown c_state c_test c_words_15 c_ill c_before c_inRow c_first c_inWindow c_same c_made_5 c_requests_7 c_total_11 c_secrets_10 c_rounds c_high c_low c_keyHigh c_keyLow)), ((hm 0), .inl (cy 1, 64, .inl c_ROUND)), ((hm 47), .inl (cy 1, 8, .inl c_START)), ((hm 6), .inl (cy 1, 512, .inl c_buffer)), ((hm 35), .inl (cy 1, 32, .inl c_digest_1)), ((hm 30), .inl (cy 1, 8, .inl c_h_2)), ((hm 36), .inl (cy 1, 32, .inl c_inner_3)), ((hm 25), .inl (cy 1, 32, .inl c_k_4)), ((hm 33), .inl (cy 1, 64, .inl c_message_6)), ((hm 45), .inl (cy 1, 600, .inl c_result_20)), ((hm 37), .inl (cy 1, 64, .inl c_secret_9)), ((hm 26), .inl (cy 1, 32, .inl c_v_12)), ((hm 31), .inl (cy 1, 64, .inl c_w_13)), ((hm 16), .inl (cy 1, 64, .inl c_word_14)), ((hm 32), .inl (cy 1, 8, .inl c_x_16))]) → va_S A s.heap H locs → lv_has ls 4 [(0, .ref h0), (1, .int p1), (2, .int p2)] → K_21 c_result_20 = some (c_made', c_requests', c_secrets', c_total', c_words', c_digest', c_h', c_inner', c_k', c_message', c_result', c_secret', c_v', c_w', c_word', c_x') → GW H locs (F0 m 111 ls []) := by
      clear hf hl hP hD hS
      intro c_result_20 H locs ls hP hD hS hl hf
      rw [eK_21] at hf
      clear eK_21
      refine hFr _ _ _ ?_
      refine lv_iload_n (pc := 111) hx hb (zdt_at zt_X10_generate_0 61 rfl) rfl (lv_at hl 2 rfl) ?_
      replace hf := zj_s hf
      obtain ⟨K_33, eK_33, hf⟩ := hf
      have kK_33 : ∀ (c_digest_22 : Nat → Int32) (c_h_23 : Nat → Int32) (c_inner_24 : Nat → Int32) (c_k_25 : Nat → Int32) (c_message_26 : Nat → Int32) (c_secret_27 : Nat → Int32) (c_secrets_28 : Int32) (c_total_29 : Int64) (c_v_30 : Nat → Int32) (c_w_31 : Nat → Int32) (c_x_32 : Nat → Int32) (H : Heap) (locs : List Loc) (ls : Array Slot), va_P D vwCl ([(h0, .inr (12, zmo hm c_thrown c_state c_test c_words_15 c_ill c_before c_inRow c_first c_inWindow c_same c_made_5 c_requests_7 c_total_29 c_secrets_28 c_rounds c_high c_low c_keyHigh c_keyLow)), ((hm 0), .inl (cy 1, 64, .inl c_ROUND)), ((hm 47), .inl (cy 1, 8, .inl c_START)), ((hm 6), .inl (cy 1, 512, .inl c_buffer)), ((hm 35), .inl (cy 1, 32, .inl c_digest_22)), ((hm 30), .inl (cy 1, 8, .inl c_h_23)), ((hm 36), .inl (cy 1, 32, .inl c_inner_24)), ((hm 25), .inl (cy 1, 32, .inl c_k_25)), ((hm 33), .inl (cy 1, 64, .inl c_message_26)), ((hm 45), .inl (cy 1, 600, .inl c_result_20)), ((hm 37), .inl (cy 1, 64, .inl c_secret_27)), ((hm 26), .inl (cy 1, 32, .inl c_v_30)), ((hm 31), .inl (cy 1, 64, .inl c_w_31)), ((hm 16), .inl (cy 1, 64, .inl c_word_14)), ((hm 32), .inl (cy 1, 8, .inl c_x_32))]) H → va_D A ([(h0, .inr (12, zmo hm c_thrown c_state c_test c_words_15 c_ill c_before c_inRow c_first c_inWindow c_same c_made_5 c_requests_7 c_total_29 c_secrets_28 c_rounds c_high c_low c_keyHigh c_keyLow)), ((hm 0), .inl (cy 1, 64, .inl c_ROUND)), ((hm 47), .inl (cy 1, 8, .inl c_START)), ((hm 6), .inl (cy 1, 512, .inl c_buffer)), ((hm 35), .inl (cy 1, 32, .inl c_digest_22)), ((hm 30), .inl (cy 1, 8, .inl c_h_23)), ((hm 36), .inl (cy 1, 32, .inl c_inner_24)), ((hm 25), .inl (cy 1, 32, .inl c_k_25)), ((hm 33), .inl (cy 1, 64, .inl c_message_26)), ((hm 45), .inl (cy 1, 600, .inl c_result_20)), ((hm 37), .inl (cy 1, 64, .inl c_secret_27)), ((hm 26), .inl (cy 1, 32, .inl c_v_30)), ((hm 31), .inl (cy 1, 64, .inl c_w_31)), ((hm 16), .inl (cy 1, 64, .inl c_word_14)), ((hm 32), .inl (cy 1, 8, .inl c_x_32))]) → va_S A s.heap H locs → lv_has ls 4 [(0, .ref h0), (1, .int p1), (2, .int p2)] → K_33 c_digest_22 c_h_23 c_inner_24 c_k_25 c_message_26 c_secret_27 c_secrets_28 c_total_29 c_v_30 c_w_31 c_x_32 = some (c_made', c_requests', c_secrets', c_total', c_words', c_digest', c_h', c_inner', c_k', c_message', c_result', c_secret', c_v', c_w', c_word', c_x') → GW H locs (F0 m 120 ls []) := by
        clear hf hl hP hD hS
        intro c_digest_22 c_h_23 c_inner_24 c_k_25 c_message_26 c_secret_27 c_secrets_28 c_total_29 c_v_30 c_w_31 c_x_32 H locs ls hP hD hS hl hf
        rw [eK_33] at hf
        clear eK_33
        refine hFr _ _ _ ?_
        refine lv_iconst (pc := 120) (v := (0 : Int32)) hx hb (zdt_at zt_X10_generate_1 2 rfl) (by decide) ?_
        refine lv_istore_n (pc := 121) (lv' := [(3, .int (0 : Int32)), (0, .ref h0), (1, .int p1), (2, .int p2)]) hx hb (zdt_at zt_X10_generate_1 3 rfl) rfl hl (by decide) rfl ?_
        clear hl
        intro ls hl
        replace hf := zj_s hf
        obtain ⟨K_57, eK_57, hf⟩ := hf
        have kK_57 : ∀ (c_digest_46 : Nat → Int32) (c_h_47 : Nat → Int32) (c_inner_48 : Nat → Int32) (c_message_49 : Nat → Int32) (c_result_50 : Nat → Int32) (c_secret_51 : Nat → Int32) (c_secrets_52 : Int32) (c_total_53 : Int64) (c_v_54 : Nat → Int32) (c_w_55 : Nat → Int32) (c_x_56 : Nat → Int32) (H : Heap) (locs : List Loc) (ls : Array Slot), va_P D vwCl ([(h0, .inr (12, zmo hm c_thrown c_state c_test c_words_15 c_ill c_before c_inRow c_first c_inWindow c_same c_made_5 c_requests_7 c_total_53 c_secrets_52 c_rounds c_high c_low c_keyHigh c_keyLow)), ((hm 0), .inl (cy 1, 64, .inl c_ROUND)), ((hm 47), .inl (cy 1, 8, .inl c_START)), ((hm 6), .inl (cy 1, 512, .inl c_buffer)), ((hm 35), .inl (cy 1, 32, .inl c_digest_46)), ((hm 30), .inl (cy 1, 8, .inl c_h_47)), ((hm 36), .inl (cy 1, 32, .inl c_inner_48)), ((hm 25), .inl (cy 1, 32, .inl c_k_25)), ((hm 33), .inl (cy 1, 64, .inl c_message_49)), ((hm 45), .inl (cy 1, 600, .inl c_result_50)), ((hm 37), .inl (cy 1, 64, .inl c_secret_51)), ((hm 26), .inl (cy 1, 32, .inl c_v_54)), ((hm 31), .inl (cy 1, 64, .inl c_w_55)), ((hm 16), .inl (cy 1, 64, .inl c_word_14)), ((hm 32), .inl (cy 1, 8, .inl c_x_56))]) H → va_D A ([(h0, .inr (12, zmo hm c_thrown c_state c_test c_words_15 c_ill c_before c_inRow c_first c_inWindow c_same c_made_5 c_requests_7 c_total_53 c_secrets_52 c_rounds c_high c_low c_keyHigh c_keyLow)), ((hm 0), .inl (cy 1, 64, .inl c_ROUND)), ((hm 47), .inl (cy 1, 8, .inl c_START)), ((hm 6), .inl (cy 1, 512, .inl c_buffer)), ((hm 35), .inl (cy 1, 32, .inl c_digest_46)), ((hm 30), .inl (cy 1, 8, .inl c_h_47)), ((hm 36), .inl (cy 1, 32, .inl c_inner_48)), ((hm 25), .inl (cy 1, 32, .inl c_k_25)), ((hm 33), .inl (cy 1, 64, .inl c_message_49)), ((hm 45), .inl (cy 1, 600, .inl c_result_50)), ((hm 37), .inl (cy 1, 64, .inl c_secret_51)), ((hm 26), .inl (cy 1, 32, .inl c_v_54)), ((hm 31), .inl (cy 1, 64, .inl c_w_55)), ((hm 16), .inl (cy 1, 64, .inl c_word_14)), ((hm 32), .inl (cy 1, 8, .inl c_x_56))]) → va_S A s.heap H locs → lv_has ls 4 [(0, .ref h0), (2, .int p2)] → K_57 c_digest_46 c_h_47 c_inner_48 c_message_49 c_result_50 c_secret_51 c_secrets_52 c_total_53 c_v_54 c_w_55 c_x_56 = some (c_made', c_requests', c_secrets', c_total', c_words', c_digest', c_h', c_inner', c_k', c_message', c_result', c_secret', c_v', c_w', c_word', c_x') → GW H locs (F0 m 162 ls []) := by
          clear hf hl hP hD hS
          intro c_digest_46 c_h_47 c_inner_48 c_message_49 c_result_50 c_secret_51 c_secrets_52 c_total_53 c_v_54 c_w_55 c_x_56 H locs ls hP hD hS hl hf
          rw [eK_57] at hf
          clear eK_57
          refine hFr _ _ _ ?_
          refine lv_aload_n (pc := 162) hx hb (zdt_at zt_X10_generate_1 27 rfl) rfl (lv_at hl 0 rfl) ?_
          refine lv_iload_n (pc := 163) hx hb (zdt_at zt_X10_generate_1 28 rfl) rfl (lv_at hl 1 rfl) ?_
          replace hf := zb_s hf
          obtain ⟨⟨c_secrets_58, c_total_59, c_digest_60, c_h_61, c_inner_62, c_k_63, c_message_64, c_secret_65, c_v_66, c_w_67, c_x_68⟩, hc_, hf⟩ := hf
          refine zcn2 (pc := 164) (rv := none) (va_runV (As := [.int p2]) (rest := []) ⟨hx, hb, hml, hown, hts⟩ (c_X10_update l D cy tt H.size h0 hm p2 c_secrets_52 c_total_53 c_ROUND c_START c_digest_46 c_h_47 c_inner_48 c_k_25 c_message_49 c_result_50 c_secret_51 c_v_54 c_w_55 c_x_56 c_thrown c_state c_test c_words_15 c_ill c_before c_inRow c_first c_inWindow c_same c_made_5 c_requests_7 c_rounds c_high c_low c_keyHigh c_keyLow c_secrets_58 c_total_59 c_digest_60 c_h_61 c_inner_62 c_k_63 c_message_64 c_secret_65 c_v_66 c_w_67 c_x_68 hc_) (cwV 1 hts gX10_generate_X10_update rfl rfl rfl (by decide +kernel) ⟨Nat.le_of_ble_eq_true rfl, Nat.le_of_ble_eq_true rfl⟩) ⟨zblind, va_recv hK hP (ci := 12) (q0 := 0) rfl rfl, zpre hE hS (hP.sub [0, 1, 2, 4, 5, 6, 7, 8, 9, 10, 11, 12, 14] rfl) (hD.sub [0, 1, 2, 4, 5, 6, 7, 8, 9, 10, 11, 12, 14] (by decide) rfl) (va_free hD hS hA [0, 1, 2, 4, 5, 6, 7, 8, 9, 10, 11, 12, 14] rfl)⟩ rfl rfl hl.1 rfl (lv_room (Nat.le_of_ble_eq_true rfl)) (zdt_at zt_X10_generate_1 29 rfl) ⟨Nat.zero_le _, Nat.zero_le _⟩) hS hP hD (va_free hD hS hA [0, 1, 2, 4, 5, 6, 7, 8, 9, 10, 11, 12, 14] rfl) [0, 1, 2, 4, 5, 6, 7, 8, 9, 10, 11, 12, 14] rfl (by decide) rfl ?_
          clear hP hD hS hc_
          intro H locs hP hD hS
          replace hP : va_P D vwCl ([(h0, .inr (12, zmo hm c_thrown c_state c_test c_words_15 c_ill c_before c_inRow c_first c_inWindow c_same c_made_5 c_requests_7 c_total_59 c_secrets_58 c_rounds c_high c_low c_keyHigh c_keyLow)), ((hm 0), .inl (cy 1, 64, .inl c_ROUND)), ((hm 47), .inl (cy 1, 8, .inl c_START)), ((hm 6), .inl (cy 1, 512, .inl c_buffer)), ((hm 35), .inl (cy 1, 32, .inl c_digest_60)), ((hm 30), .inl (cy 1, 8, .inl c_h_61)), ((hm 36), .inl (cy 1, 32, .inl c_inner_62)), ((hm 25), .inl (cy 1, 32, .inl c_k_63)), ((hm 33), .inl (cy 1, 64, .inl c_message_64)), ((hm 45), .inl (cy 1, 600, .inl c_result_50)), ((hm 37), .inl (cy 1, 64, .inl c_secret_65)), ((hm 26), .inl (cy 1, 32, .inl c_v_66)), ((hm 31), .inl (cy 1, 64, .inl c_w_67)), ((hm 16), .inl (cy 1, 64, .inl c_word_14)), ((hm 32), .inl (cy 1, 8, .inl c_x_68))]) H := hP
          replace hD : va_D A ([(h0, .inr (12, zmo hm c_thrown c_state c_test c_words_15 c_ill c_before c_inRow c_first c_inWindow c_same c_made_5 c_requests_7 c_total_59 c_secrets_58 c_rounds c_high c_low c_keyHigh c_keyLow)), ((hm 0), .inl (cy 1, 64, .inl c_ROUND)), ((hm 47), .inl (cy 1, 8, .inl c_START)), ((hm 6), .inl (cy 1, 512, .inl c_buffer)), ((hm 35), .inl (cy 1, 32, .inl c_digest_60)), ((hm 30), .inl (cy 1, 8, .inl c_h_61)), ((hm 36), .inl (cy 1, 32, .inl c_inner_62)), ((hm 25), .inl (cy 1, 32, .inl c_k_63)), ((hm 33), .inl (cy 1, 64, .inl c_message_64)), ((hm 45), .inl (cy 1, 600, .inl c_result_50)), ((hm 37), .inl (cy 1, 64, .inl c_secret_65)), ((hm 26), .inl (cy 1, 32, .inl c_v_66)), ((hm 31), .inl (cy 1, 64, .inl c_w_67)), ((hm 16), .inl (cy 1, 64, .inl c_word_14)), ((hm 32), .inl (cy 1, 8, .inl c_x_68))]) := hD
          refine W.eq (g2 := F0 m 167 ls []) rfl ?_
          refine lv_aload_n (pc := 167) hx hb (zdt_at zt_X10_generate_1 30 rfl) rfl (lv_at hl 0 rfl) ?_
          refine lv_dup (pc := 168) hx hb (zdt_at zt_X10_generate_1 31 rfl) rfl ?_
          refine va_get (pc := 169) (D := D) (ci := 12) (v := .int c_requests_7) (C := RX10) (T := TX10) (N := 52) hx hb hts hcX10 hown hK hP 0 rfl rfl 24 (by decide) hw1 (fun _ h9 => h9) rfl (zdt_at zt_X10_generate_1 32 rfl) ?_
          refine lv_iconst (pc := 172) (v := (1 : Int32)) hx hb (zdt_at zt_X10_generate_1 33 rfl) (by decide) ?_
          refine lv_iadd (pc := 173) hx hb (zdt_at zt_X10_generate_1 34 rfl) ?_
          refine lv_topi (fun x_69 e_ => ?_)
          replace hf := zn_s hf e_
          clear e_
          refine va_put (pc := 174) (D := D) (ci := 12) (v := .int x_69) (ty := .int) (C := RX10) (T := TX10) (N := 52) hx hb hts hcX10 tyX10 tyX10_ok nmX10 hown hK hP hD hS 0 rfl rfl 24 (by decide) hw1 (fun _ h9 => h9) rfl (by decide +kernel) rfl rfl (Nat.le_of_ble_eq_true rfl) (zdt_at zt_X10_generate_1 35 rfl) ?_
          clear hP hD hS
          intro H locs hP hD hS
          replace hP : va_P D vwCl ([(h0, .inr (12, zmo hm c_thrown c_state c_test c_words_15 c_ill c_before c_inRow c_first c_inWindow c_same c_made_5 x_69 c_total_59 c_secrets_58 c_rounds c_high c_low c_keyHigh c_keyLow)), ((hm 0), .inl (cy 1, 64, .inl c_ROUND)), ((hm 47), .inl (cy 1, 8, .inl c_START)), ((hm 6), .inl (cy 1, 512, .inl c_buffer)), ((hm 35), .inl (cy 1, 32, .inl c_digest_60)), ((hm 30), .inl (cy 1, 8, .inl c_h_61)), ((hm 36), .inl (cy 1, 32, .inl c_inner_62)), ((hm 25), .inl (cy 1, 32, .inl c_k_63)), ((hm 33), .inl (cy 1, 64, .inl c_message_64)), ((hm 45), .inl (cy 1, 600, .inl c_result_50)), ((hm 37), .inl (cy 1, 64, .inl c_secret_65)), ((hm 26), .inl (cy 1, 32, .inl c_v_66)), ((hm 31), .inl (cy 1, 64, .inl c_w_67)), ((hm 16), .inl (cy 1, 64, .inl c_word_14)), ((hm 32), .inl (cy 1, 8, .inl c_x_68))]) H := hP
          replace hD : va_D A ([(h0, .inr (12, zmo hm c_thrown c_state c_test c_words_15 c_ill c_before c_inRow c_first c_inWindow c_same c_made_5 x_69 c_total_59 c_secrets_58 c_rounds c_high c_low c_keyHigh c_keyLow)), ((hm 0), .inl (cy 1, 64, .inl c_ROUND)), ((hm 47), .inl (cy 1, 8, .inl c_START)), ((hm 6), .inl (cy 1, 512, .inl c_buffer)), ((hm 35), .inl (cy 1, 32, .inl c_digest_60)), ((hm 30), .inl (cy 1, 8, .inl c_h_61)), ((hm 36), .inl (cy 1, 32, .inl c_inner_62)), ((hm 25), .inl (cy 1, 32, .inl c_k_63)), ((hm 33), .inl (cy 1, 64, .inl c_message_64)), ((hm 45), .inl (cy 1, 600, .inl c_result_50)), ((hm 37), .inl (cy 1, 64, .inl c_secret_65)), ((hm 26), .inl (cy 1, 32, .inl c_v_66)), ((hm 31), .inl (cy 1, 64, .inl c_w_67)), ((hm 16), .inl (cy 1, 64, .inl c_word_14)), ((hm 32), .inl (cy 1, 8, .inl c_x_68))]) := hD
          cases hf
          exact W.vret (pc := 177) hx hb hr (fun t ht hW => ⟨rfl, ⟨by rw [ht]; exact hP, hD⟩, hS.F ht⟩) hS.2.2 (zdt_at zt_X10_generate_1 36 rfl)
        clear eK_57
        refine hTo _ _ _ (zl_go (fun z => match z with | (i_34, c_digest_35, c_h_36, c_inner_37, c_message_38, c_result_39, c_secret_40, c_secrets_41, c_total_42, c_v_43, c_w_44, c_x_45) => ∀ (H : Heap) (locs : List Loc) (ls : Array Slot), va_P D vwCl ([(h0, .inr (12, zmo hm c_thrown c_state c_test c_words_15 c_ill c_before c_inRow c_first c_inWindow c_same c_made_5 c_requests_7 c_total_42 c_secrets_41 c_rounds c_high c_low c_keyHigh c_keyLow)), ((hm 0), .inl (cy 1, 64, .inl c_ROUND)), ((hm 47), .inl (cy 1, 8, .inl c_START)), ((hm 6), .inl (cy 1, 512, .inl c_buffer)), ((hm 35), .inl (cy 1, 32, .inl c_digest_35)), ((hm 30), .inl (cy 1, 8, .inl c_h_36)), ((hm 36), .inl (cy 1, 32, .inl c_inner_37)), ((hm 25), .inl (cy 1, 32, .inl c_k_25)), ((hm 33), .inl (cy 1, 64, .inl c_message_38)), ((hm 45), .inl (cy 1, 600, .inl c_result_39)), ((hm 37), .inl (cy 1, 64, .inl c_secret_40)), ((hm 26), .inl (cy 1, 32, .inl c_v_43)), ((hm 31), .inl (cy 1, 64, .inl c_w_44)), ((hm 16), .inl (cy 1, 64, .inl c_word_14)), ((hm 32), .inl (cy 1, 8, .inl c_x_45))]) H → va_D A ([(h0, .inr (12, zmo hm c_thrown c_state c_test c_words_15 c_ill c_before c_inRow c_first c_inWindow c_same c_made_5 c_requests_7 c_total_42 c_secrets_41 c_rounds c_high c_low c_keyHigh c_keyLow)), ((hm 0), .inl (cy 1, 64, .inl c_ROUND)), ((hm 47), .inl (cy 1, 8, .inl c_START)), ((hm 6), .inl (cy 1, 512, .inl c_buffer)), ((hm 35), .inl (cy 1, 32, .inl c_digest_35)), ((hm 30), .inl (cy 1, 8, .inl c_h_36)), ((hm 36), .inl (cy 1, 32, .inl c_inner_37)), ((hm 25), .inl (cy 1, 32, .inl c_k_25)), ((hm 33), .inl (cy 1, 64, .inl c_message_38)), ((hm 45), .inl (cy 1, 600, .inl c_result_39)), ((hm 37), .inl (cy 1, 64, .inl c_secret_40)), ((hm 26), .inl (cy 1, 32, .inl c_v_43)), ((hm 31), .inl (cy 1, 64, .inl c_w_44)), ((hm 16), .inl (cy 1, 64, .inl c_word_14)), ((hm 32), .inl (cy 1, 8, .inl c_x_45))]) → va_S A s.heap H locs → lv_has ls 4 [(0, .ref h0), (1, .int p1), (2, .int p2), (3, .int i_34)] → GW H locs (F0 m 122 ls [])) hf ?_ H locs ls hP hD hS (lv_sub hl [1, 2, 3, 0] rfl))
        clear hf hl hP hD hS
        intro self_70 ihself_70 z hf
        obtain ⟨i_34, c_digest_35, c_h_36, c_inner_37, c_message_38, c_result_39, c_secret_40, c_secrets_41, c_total_42, c_v_43, c_w_44, c_x_45⟩ := z
        intro H locs ls hP hD hS hl
        refine hFr _ _ _ ?_
        unfold b_X10_generate_122 at hf
        refine lv_iload_n (pc := 122) hx hb (zdt_at zt_X10_generate_1 4 rfl) rfl (lv_at hl 3 rfl) ?_
        refine lv_iload_n (pc := 123) hx hb (zdt_at zt_X10_generate_1 5 rfl) rfl (lv_at hl 1 rfl) ?_
        refine lv_icmp_ge (pc := 124) (tgt := 162) hx hb (zdt_at zt_X10_generate_1 6 rfl) (by decide) (fun cn_ => ?t_71) (fun cn_ => ?f_72)
        case t_71 =>
          replace hf := zt_s cn_ hf
          clear cn_
          exact hTo _ _ _ (kK_57 _ _ _ _ _ _ _ _ _ _ _ H locs ls hP hD hS (lv_sub hl [0, 2] rfl) hf)
        replace hf := ze_s cn_ hf
        clear cn_
        refine lv_iload_n (pc := 127) hx hb (zdt_at zt_X10_generate_1 7 rfl) rfl (lv_at hl 3 rfl) ?_
        refine lv_bipush (pc := 128) (v := (32 : Int32)) hx hb (zdt_at zt_X10_generate_1 8 rfl) (by decide) ?_
        replace hf := zk_s hf
        refine lv_irem (pc := 130) hx hb (zdt_at zt_X10_generate_1 9 rfl) hf.1 ?_
        replace hf := hf.2
        refine lv_if_ne (pc := 131) (tgt := 138) hx hb (zdt_at zt_X10_generate_1 10 rfl) (by decide) (fun cn_ => ?t_73) (fun cn_ => ?f_74)
        case t_73 =>
          replace hf := ze_s cn_ hf
          clear cn_
          refine lv_aload_n (pc := 138) hx hb (zdt_at zt_X10_generate_1 13 rfl) rfl (lv_at hl 0 rfl) ?_
          refine va_get (pc := 139) (D := D) (ci := 12) (v := .ref (hm 45)) (C := RX10) (T := TX10) (N := 52) hx hb hts hcX10 hown hK hP 0 rfl rfl 45 (by decide) hw2 (fun _ h9 => h9) rfl (zdt_at zt_X10_generate_1 14 rfl) ?_
          refine lv_bipush (pc := 142) (v := (64 : Int32)) hx hb (zdt_at zt_X10_generate_1 15 rfl) (by decide) ?_
          refine lv_iload_n (pc := 144) hx hb (zdt_at zt_X10_generate_1 16 rfl) rfl (lv_at hl 3 rfl) ?_
          refine lv_iadd (pc := 145) hx hb (zdt_at zt_X10_generate_1 17 rfl) ?_
          refine lv_aload_n (pc := 146) hx hb (zdt_at zt_X10_generate_1 18 rfl) rfl (lv_at hl 0 rfl) ?_
          refine va_get (pc := 147) (D := D) (ci := 12) (v := .ref (hm 26)) (C := RX10) (T := TX10) (N := 52) hx hb hts hcX10 hown hK hP 0 rfl rfl 26 (by decide) hw3 (fun _ h9 => h9) rfl (zdt_at zt_X10_generate_1 19 rfl) ?_
          refine lv_iload_n (pc := 150) hx hb (zdt_at zt_X10_generate_1 20 rfl) rfl (lv_at hl 3 rfl) ?_
          refine lv_bipush (pc := 151) (v := (32 : Int32)) hx hb (zdt_at zt_X10_generate_1 21 rfl) (by decide) ?_
          replace hf := zk_s hf
          refine lv_irem (pc := 153) hx hb (zdt_at zt_X10_generate_1 22 rfl) hf.1 ?_
          replace hf := hf.2
          replace hf := zk_s hf
          refine va_iald (pc := 154) hx hb hK hP 11 1 rfl rfl hf.1 (zdt_at zt_X10_generate_1 23 rfl) ?_
          replace hf := hf.2
          replace hf := zk_s hf
          refine va_iast (pc := 155) hx hb hK hP hD hS 9 1 rfl rfl hf.1 (zdt_at zt_X10_generate_1 24 rfl) ?_
          replace hf := hf.2
          clear hP hD hS
          intro H locs hP hD hS
          obtain ⟨c_result_75, e_⟩ : ∃ q : Nat → Int32, q = (upd c_result_39 ((64 : Int32) + i_34).toNatClampNeg (c_v_43 (i_34 - i_34 / (32 : Int32) * (32 : Int32)).toNatClampNeg)) := ⟨_, rfl⟩
          replace hf := zn_s hf e_
          replace hP : va_P D vwCl ([(h0, .inr (12, zmo hm c_thrown c_state c_test c_words_15 c_ill c_before c_inRow c_first c_inWindow c_same c_made_5 c_requests_7 c_total_42 c_secrets_41 c_rounds c_high c_low c_keyHigh c_keyLow)), ((hm 0), .inl (cy 1, 64, .inl c_ROUND)), ((hm 47), .inl (cy 1, 8, .inl c_START)), ((hm 6), .inl (cy 1, 512, .inl c_buffer)), ((hm 35), .inl (cy 1, 32, .inl c_digest_35)), ((hm 30), .inl (cy 1, 8, .inl c_h_36)), ((hm 36), .inl (cy 1, 32, .inl c_inner_37)), ((hm 25), .inl (cy 1, 32, .inl c_k_25)), ((hm 33), .inl (cy 1, 64, .inl c_message_38)), ((hm 45), .inl (cy 1, 600, .inl c_result_75)), ((hm 37), .inl (cy 1, 64, .inl c_secret_40)), ((hm 26), .inl (cy 1, 32, .inl c_v_43)), ((hm 31), .inl (cy 1, 64, .inl c_w_44)), ((hm 16), .inl (cy 1, 64, .inl c_word_14)), ((hm 32), .inl (cy 1, 8, .inl c_x_45))]) H := by rw [e_]; exact hP
          replace hD : va_D A ([(h0, .inr (12, zmo hm c_thrown c_state c_test c_words_15 c_ill c_before c_inRow c_first c_inWindow c_same c_made_5 c_requests_7 c_total_42 c_secrets_41 c_rounds c_high c_low c_keyHigh c_keyLow)), ((hm 0), .inl (cy 1, 64, .inl c_ROUND)), ((hm 47), .inl (cy 1, 8, .inl c_START)), ((hm 6), .inl (cy 1, 512, .inl c_buffer)), ((hm 35), .inl (cy 1, 32, .inl c_digest_35)), ((hm 30), .inl (cy 1, 8, .inl c_h_36)), ((hm 36), .inl (cy 1, 32, .inl c_inner_37)), ((hm 25), .inl (cy 1, 32, .inl c_k_25)), ((hm 33), .inl (cy 1, 64, .inl c_message_38)), ((hm 45), .inl (cy 1, 600, .inl c_result_75)), ((hm 37), .inl (cy 1, 64, .inl c_secret_40)), ((hm 26), .inl (cy 1, 32, .inl c_v_43)), ((hm 31), .inl (cy 1, 64, .inl c_w_44)), ((hm 16), .inl (cy 1, 64, .inl c_word_14)), ((hm 32), .inl (cy 1, 8, .inl c_x_45))]) := by rw [e_]; exact hD
          clear e_
          refine lv_iinc (pc := 156) (v := (i_34 + (1 : Int32))) (lv' := [(3, .int (i_34 + (1 : Int32))), (0, .ref h0), (1, .int p1), (2, .int p2)]) hx hb (zdt_at zt_X10_generate_1 25 rfl) hl (k := 3) rfl rfl (by decide) rfl ?_
          clear hl
          intro ls hl
          refine lv_goto (pc := 159) (tgt := 122) hx hb (zdt_at zt_X10_generate_1 26 rfl) (by decide) ?_
          exact hTo _ _ _ (ihself_70 _ hf H locs ls hP hD hS (lv_sub hl [1, 2, 3, 0] rfl))
        replace hf := zt_s cn_ hf
        clear cn_
        refine lv_aload_n (pc := 134) hx hb (zdt_at zt_X10_generate_1 11 rfl) rfl (lv_at hl 0 rfl) ?_
        replace hf := zb_s hf
        obtain ⟨⟨c_secrets_76, c_total_77, c_digest_78, c_h_79, c_inner_80, c_message_81, c_secret_82, c_v_83, c_w_84, c_x_85⟩, hc_, hf⟩ := hf
        refine zcn2 (pc := 135) (rv := none) (va_runV (As := []) (rest := []) ⟨hx, hb, hml, hown, hts⟩ (c_X10_nextV l D cy tt H.size h0 hm c_secrets_41 c_total_42 c_ROUND c_START c_digest_35 c_h_36 c_inner_37 c_k_25 c_message_38 c_secret_40 c_v_43 c_w_44 c_x_45 c_thrown c_state c_test c_words_15 c_ill c_before c_inRow c_first c_inWindow c_same c_made_5 c_requests_7 c_rounds c_high c_low c_keyHigh c_keyLow c_secrets_76 c_total_77 c_digest_78 c_h_79 c_inner_80 c_message_81 c_secret_82 c_v_83 c_w_84 c_x_85 hc_) (cwV 0 hts gX10_generate_X10_nextV rfl rfl rfl (by decide +kernel) ⟨Nat.le_of_ble_eq_true rfl, Nat.le_of_ble_eq_true rfl⟩) ⟨zblind, va_recv hK hP (ci := 12) (q0 := 0) rfl rfl, zpre hE hS (hP.sub [0, 1, 2, 4, 5, 6, 7, 8, 10, 11, 12, 14] rfl) (hD.sub [0, 1, 2, 4, 5, 6, 7, 8, 10, 11, 12, 14] (by decide) rfl) (va_free hD hS hA [0, 1, 2, 4, 5, 6, 7, 8, 10, 11, 12, 14] rfl)⟩ rfl rfl hl.1 rfl (lv_room (Nat.le_of_ble_eq_true rfl)) (zdt_at zt_X10_generate_1 12 rfl) ⟨Nat.zero_le _, Nat.zero_le _⟩) hS hP hD (va_free hD hS hA [0, 1, 2, 4, 5, 6, 7, 8, 10, 11, 12, 14] rfl) [0, 1, 2, 4, 5, 6, 7, 8, 10, 11, 12, 14] rfl (by decide) rfl ?_
        clear hP hD hS hc_
        intro H locs hP hD hS
        replace hP : va_P D vwCl ([(h0, .inr (12, zmo hm c_thrown c_state c_test c_words_15 c_ill c_before c_inRow c_first c_inWindow c_same c_made_5 c_requests_7 c_total_77 c_secrets_76 c_rounds c_high c_low c_keyHigh c_keyLow)), ((hm 0), .inl (cy 1, 64, .inl c_ROUND)), ((hm 47), .inl (cy 1, 8, .inl c_START)), ((hm 6), .inl (cy 1, 512, .inl c_buffer)), ((hm 35), .inl (cy 1, 32, .inl c_digest_78)), ((hm 30), .inl (cy 1, 8, .inl c_h_79)), ((hm 36), .inl (cy 1, 32, .inl c_inner_80)), ((hm 25), .inl (cy 1, 32, .inl c_k_25)), ((hm 33), .inl (cy 1, 64, .inl c_message_81)), ((hm 45), .inl (cy 1, 600, .inl c_result_39)), ((hm 37), .inl (cy 1, 64, .inl c_secret_82)), ((hm 26), .inl (cy 1, 32, .inl c_v_83)), ((hm 31), .inl (cy 1, 64, .inl c_w_84)), ((hm 16), .inl (cy 1, 64, .inl c_word_14)), ((hm 32), .inl (cy 1, 8, .inl c_x_85))]) H := hP
        replace hD : va_D A ([(h0, .inr (12, zmo hm c_thrown c_state c_test c_words_15 c_ill c_before c_inRow c_first c_inWindow c_same c_made_5 c_requests_7 c_total_77 c_secrets_76 c_rounds c_high c_low c_keyHigh c_keyLow)), ((hm 0), .inl (cy 1, 64, .inl c_ROUND)), ((hm 47), .inl (cy 1, 8, .inl c_START)), ((hm 6), .inl (cy 1, 512, .inl c_buffer)), ((hm 35), .inl (cy 1, 32, .inl c_digest_78)), ((hm 30), .inl (cy 1, 8, .inl c_h_79)), ((hm 36), .inl (cy 1, 32, .inl c_inner_80)), ((hm 25), .inl (cy 1, 32, .inl c_k_25)), ((hm 33), .inl (cy 1, 64, .inl c_message_81)), ((hm 45), .inl (cy 1, 600, .inl c_result_39)), ((hm 37), .inl (cy 1, 64, .inl c_secret_82)), ((hm 26), .inl (cy 1, 32, .inl c_v_83)), ((hm 31), .inl (cy 1, 64, .inl c_w_84)), ((hm 16), .inl (cy 1, 64, .inl c_word_14)), ((hm 32), .inl (cy 1, 8, .inl c_x_85))]) := hD
        refine W.eq (g2 := F0 m 138 ls []) rfl ?_
        refine lv_aload_n (pc := 138) hx hb (zdt_at zt_X10_generate_1 13 rfl) rfl (lv_at hl 0 rfl) ?_
        refine va_get (pc := 139) (D := D) (ci := 12) (v := .ref (hm 45)) (C := RX10) (T := TX10) (N := 52) hx hb hts hcX10 hown hK hP 0 rfl rfl 45 (by decide) hw2 (fun _ h9 => h9) rfl (zdt_at zt_X10_generate_1 14 rfl) ?_
        refine lv_bipush (pc := 142) (v := (64 : Int32)) hx hb (zdt_at zt_X10_generate_1 15 rfl) (by decide) ?_
        refine lv_iload_n (pc := 144) hx hb (zdt_at zt_X10_generate_1 16 rfl) rfl (lv_at hl 3 rfl) ?_
        refine lv_iadd (pc := 145) hx hb (zdt_at zt_X10_generate_1 17 rfl) ?_
        refine lv_aload_n (pc := 146) hx hb (zdt_at zt_X10_generate_1 18 rfl) rfl (lv_at hl 0 rfl) ?_
        refine va_get (pc := 147) (D := D) (ci := 12) (v := .ref (hm 26)) (C := RX10) (T := TX10) (N := 52) hx hb hts hcX10 hown hK hP 0 rfl rfl 26 (by decide) hw3 (fun _ h9 => h9) rfl (zdt_at zt_X10_generate_1 19 rfl) ?_
        refine lv_iload_n (pc := 150) hx hb (zdt_at zt_X10_generate_1 20 rfl) rfl (lv_at hl 3 rfl) ?_
        refine lv_bipush (pc := 151) (v := (32 : Int32)) hx hb (zdt_at zt_X10_generate_1 21 rfl) (by decide) ?_
        replace hf := zk_s hf
        refine lv_irem (pc := 153) hx hb (zdt_at zt_X10_generate_1 22 rfl) hf.1 ?_
        replace hf := hf.2
        replace hf := zk_s hf
        refine va_iald (pc := 154) hx hb hK hP 11 1 rfl rfl hf.1 (zdt_at zt_X10_generate_1 23 rfl) ?_
        replace hf := hf.2
        replace hf := zk_s hf
        refine va_iast (pc := 155) hx hb hK hP hD hS 9 1 rfl rfl hf.1 (zdt_at zt_X10_generate_1 24 rfl) ?_
        replace hf := hf.2
        clear hP hD hS
        intro H locs hP hD hS
        obtain ⟨c_result_86, e_⟩ : ∃ q : Nat → Int32, q = (upd c_result_39 ((64 : Int32) + i_34).toNatClampNeg (c_v_83 (i_34 - i_34 / (32 : Int32) * (32 : Int32)).toNatClampNeg)) := ⟨_, rfl⟩
        replace hf := zn_s hf e_
        replace hP : va_P D vwCl ([(h0, .inr (12, zmo hm c_thrown c_state c_test c_words_15 c_ill c_before c_inRow c_first c_inWindow c_same c_made_5 c_requests_7 c_total_77 c_secrets_76 c_rounds c_high c_low c_keyHigh c_keyLow)), ((hm 0), .inl (cy 1, 64, .inl c_ROUND)), ((hm 47), .inl (cy 1, 8, .inl c_START)), ((hm 6), .inl (cy 1, 512, .inl c_buffer)), ((hm 35), .inl (cy 1, 32, .inl c_digest_78)), ((hm 30), .inl (cy 1, 8, .inl c_h_79)), ((hm 36), .inl (cy 1, 32, .inl c_inner_80)), ((hm 25), .inl (cy 1, 32, .inl c_k_25)), ((hm 33), .inl (cy 1, 64, .inl c_message_81)), ((hm 45), .inl (cy 1, 600, .inl c_result_86)), ((hm 37), .inl (cy 1, 64, .inl c_secret_82)), ((hm 26), .inl (cy 1, 32, .inl c_v_83)), ((hm 31), .inl (cy 1, 64, .inl c_w_84)), ((hm 16), .inl (cy 1, 64, .inl c_word_14)), ((hm 32), .inl (cy 1, 8, .inl c_x_85))]) H := by rw [e_]; exact hP
        replace hD : va_D A ([(h0, .inr (12, zmo hm c_thrown c_state c_test c_words_15 c_ill c_before c_inRow c_first c_inWindow c_same c_made_5 c_requests_7 c_total_77 c_secrets_76 c_rounds c_high c_low c_keyHigh c_keyLow)), ((hm 0), .inl (cy 1, 64, .inl c_ROUND)), ((hm 47), .inl (cy 1, 8, .inl c_START)), ((hm 6), .inl (cy 1, 512, .inl c_buffer)), ((hm 35), .inl (cy 1, 32, .inl c_digest_78)), ((hm 30), .inl (cy 1, 8, .inl c_h_79)), ((hm 36), .inl (cy 1, 32, .inl c_inner_80)), ((hm 25), .inl (cy 1, 32, .inl c_k_25)), ((hm 33), .inl (cy 1, 64, .inl c_message_81)), ((hm 45), .inl (cy 1, 600, .inl c_result_86)), ((hm 37), .inl (cy 1, 64, .inl c_secret_82)), ((hm 26), .inl (cy 1, 32, .inl c_v_83)), ((hm 31), .inl (cy 1, 64, .inl c_w_84)), ((hm 16), .inl (cy 1, 64, .inl c_word_14)), ((hm 32), .inl (cy 1, 8, .inl c_x_85))]) := by rw [e_]; exact hD
        clear e_
        refine lv_iinc (pc := 156) (v := (i_34 + (1 : Int32))) (lv' := [(3, .int (i_34 + (1 : Int32))), (0, .ref h0), (1, .int p1), (2, .int p2)]) hx hb (zdt_at zt_X10_generate_1 25 rfl) hl (k := 3) rfl rfl (by decide) rfl ?_
        clear hl
        intro ls hl
        refine lv_goto (pc := 159) (tgt := 122) hx hb (zdt_at zt_X10_generate_1 26 rfl) (by decide) ?_
        exact hTo _ _ _ (ihself_70 _ hf H locs ls hP hD hS (lv_sub hl [1, 2, 3, 0] rfl))
      clear eK_33
      refine lv_if_le (pc := 112) (tgt := 120) hx hb (zdt_at zt_X10_generate_0 62 rfl) (by decide) (fun cn_ => ?t_87) (fun cn_ => ?f_88)
      case t_87 =>
        replace hf := zt_s cn_ hf
        clear cn_
        exact hTo _ _ _ (kK_33 _ _ _ _ _ _ _ _ _ _ _ H locs ls hP hD hS (lv_sub hl [0, 1, 2] rfl) hf)
      replace hf := ze_s cn_ hf
      clear cn_
      refine lv_aload_n (pc := 115) hx hb (zdt_at zt_X10_generate_0 63 rfl) rfl (lv_at hl 0 rfl) ?_
      refine lv_iload_n (pc := 116) hx hb (zdt_at zt_X10_generate_1 0 rfl) rfl (lv_at hl 2 rfl) ?_
      replace hf := zb_s hf
      obtain ⟨⟨c_secrets_89, c_total_90, c_digest_91, c_h_92, c_inner_93, c_k_94, c_message_95, c_secret_96, c_v_97, c_w_98, c_x_99⟩, hc_, hf⟩ := hf
      refine zcn2 (pc := 117) (rv := none) (va_runV (As := [.int p2]) (rest := []) ⟨hx, hb, hml, hown, hts⟩ (c_X10_update l D cy tt H.size h0 hm p2 c_secrets_10 c_total_11 c_ROUND c_START c_digest_1 c_h_2 c_inner_3 c_k_4 c_message_6 c_result_20 c_secret_9 c_v_12 c_w_13 c_x_16 c_thrown c_state c_test c_words_15 c_ill c_before c_inRow c_first c_inWindow c_same c_made_5 c_requests_7 c_rounds c_high c_low c_keyHigh c_keyLow c_secrets_89 c_total_90 c_digest_91 c_h_92 c_inner_93 c_k_94 c_message_95 c_secret_96 c_v_97 c_w_98 c_x_99 hc_) (cwV 1 hts gX10_generate_X10_update rfl rfl rfl (by decide +kernel) ⟨Nat.le_of_ble_eq_true rfl, Nat.le_of_ble_eq_true rfl⟩) ⟨zblind, va_recv hK hP (ci := 12) (q0 := 0) rfl rfl, zpre hE hS (hP.sub [0, 1, 2, 4, 5, 6, 7, 8, 9, 10, 11, 12, 14] rfl) (hD.sub [0, 1, 2, 4, 5, 6, 7, 8, 9, 10, 11, 12, 14] (by decide) rfl) (va_free hD hS hA [0, 1, 2, 4, 5, 6, 7, 8, 9, 10, 11, 12, 14] rfl)⟩ rfl rfl hl.1 rfl (lv_room (Nat.le_of_ble_eq_true rfl)) (zdt_at zt_X10_generate_1 1 rfl) ⟨Nat.zero_le _, Nat.zero_le _⟩) hS hP hD (va_free hD hS hA [0, 1, 2, 4, 5, 6, 7, 8, 9, 10, 11, 12, 14] rfl) [0, 1, 2, 4, 5, 6, 7, 8, 9, 10, 11, 12, 14] rfl (by decide) rfl ?_
      clear hP hD hS hc_
      intro H locs hP hD hS
      replace hP : va_P D vwCl ([(h0, .inr (12, zmo hm c_thrown c_state c_test c_words_15 c_ill c_before c_inRow c_first c_inWindow c_same c_made_5 c_requests_7 c_total_90 c_secrets_89 c_rounds c_high c_low c_keyHigh c_keyLow)), ((hm 0), .inl (cy 1, 64, .inl c_ROUND)), ((hm 47), .inl (cy 1, 8, .inl c_START)), ((hm 6), .inl (cy 1, 512, .inl c_buffer)), ((hm 35), .inl (cy 1, 32, .inl c_digest_91)), ((hm 30), .inl (cy 1, 8, .inl c_h_92)), ((hm 36), .inl (cy 1, 32, .inl c_inner_93)), ((hm 25), .inl (cy 1, 32, .inl c_k_94)), ((hm 33), .inl (cy 1, 64, .inl c_message_95)), ((hm 45), .inl (cy 1, 600, .inl c_result_20)), ((hm 37), .inl (cy 1, 64, .inl c_secret_96)), ((hm 26), .inl (cy 1, 32, .inl c_v_97)), ((hm 31), .inl (cy 1, 64, .inl c_w_98)), ((hm 16), .inl (cy 1, 64, .inl c_word_14)), ((hm 32), .inl (cy 1, 8, .inl c_x_99))]) H := hP
      replace hD : va_D A ([(h0, .inr (12, zmo hm c_thrown c_state c_test c_words_15 c_ill c_before c_inRow c_first c_inWindow c_same c_made_5 c_requests_7 c_total_90 c_secrets_89 c_rounds c_high c_low c_keyHigh c_keyLow)), ((hm 0), .inl (cy 1, 64, .inl c_ROUND)), ((hm 47), .inl (cy 1, 8, .inl c_START)), ((hm 6), .inl (cy 1, 512, .inl c_buffer)), ((hm 35), .inl (cy 1, 32, .inl c_digest_91)), ((hm 30), .inl (cy 1, 8, .inl c_h_92)), ((hm 36), .inl (cy 1, 32, .inl c_inner_93)), ((hm 25), .inl (cy 1, 32, .inl c_k_94)), ((hm 33), .inl (cy 1, 64, .inl c_message_95)), ((hm 45), .inl (cy 1, 600, .inl c_result_20)), ((hm 37), .inl (cy 1, 64, .inl c_secret_96)), ((hm 26), .inl (cy 1, 32, .inl c_v_97)), ((hm 31), .inl (cy 1, 64, .inl c_w_98)), ((hm 16), .inl (cy 1, 64, .inl c_word_14)), ((hm 32), .inl (cy 1, 8, .inl c_x_99))]) := hD
      refine W.eq (g2 := F0 m 120 ls []) rfl ?_
      exact hTo _ _ _ (kK_33 _ _ _ _ _ _ _ _ _ _ _ H locs ls hP hD hS (lv_sub hl [0, 1, 2] rfl) hf)
    clear eK_21
    refine hTo _ _ _ (zl_go (fun z => match z with | (i_18, c_result_19) => ∀ (H : Heap) (locs : List Loc) (ls : Array Slot), va_P D vwCl ([(h0, .inr (12, zmo hm c_thrown c_state c_test c_words_15 c_ill c_before c_inRow c_first c_inWindow c_same c_made_5 c_requests_7 c_total_11 c_secrets_10 c_rounds c_high c_low c_keyHigh c_keyLow)), ((hm 0), .inl (cy 1, 64, .inl c_ROUND)), ((hm 47), .inl (cy 1, 8, .inl c_START)), ((hm 6), .inl (cy 1, 512, .inl c_buffer)), ((hm 35), .inl (cy 1, 32, .inl c_digest_1)), ((hm 30), .inl (cy 1, 8, .inl c_h_2)), ((hm 36), .inl (cy 1, 32, .inl c_inner_3)), ((hm 25), .inl (cy 1, 32, .inl c_k_4)), ((hm 33), .inl (cy 1, 64, .inl c_message_6)), ((hm 45), .inl (cy 1, 600, .inl c_result_19)), ((hm 37), .inl (cy 1, 64, .inl c_secret_9)), ((hm 26), .inl (cy 1, 32, .inl c_v_12)), ((hm 31), .inl (cy 1, 64, .inl c_w_13)), ((hm 16), .inl (cy 1, 64, .inl c_word_14)), ((hm 32), .inl (cy 1, 8, .inl c_x_16))]) H → va_D A ([(h0, .inr (12, zmo hm c_thrown c_state c_test c_words_15 c_ill c_before c_inRow c_first c_inWindow c_same c_made_5 c_requests_7 c_total_11 c_secrets_10 c_rounds c_high c_low c_keyHigh c_keyLow)), ((hm 0), .inl (cy 1, 64, .inl c_ROUND)), ((hm 47), .inl (cy 1, 8, .inl c_START)), ((hm 6), .inl (cy 1, 512, .inl c_buffer)), ((hm 35), .inl (cy 1, 32, .inl c_digest_1)), ((hm 30), .inl (cy 1, 8, .inl c_h_2)), ((hm 36), .inl (cy 1, 32, .inl c_inner_3)), ((hm 25), .inl (cy 1, 32, .inl c_k_4)), ((hm 33), .inl (cy 1, 64, .inl c_message_6)), ((hm 45), .inl (cy 1, 600, .inl c_result_19)), ((hm 37), .inl (cy 1, 64, .inl c_secret_9)), ((hm 26), .inl (cy 1, 32, .inl c_v_12)), ((hm 31), .inl (cy 1, 64, .inl c_w_13)), ((hm 16), .inl (cy 1, 64, .inl c_word_14)), ((hm 32), .inl (cy 1, 8, .inl c_x_16))]) → va_S A s.heap H locs → lv_has ls 4 [(0, .ref h0), (1, .int p1), (2, .int p2), (3, .int i_18)] → GW H locs (F0 m 88 ls [])) hf ?_ H locs ls hP hD hS (lv_sub hl [1, 2, 3, 0] rfl))
    clear hf hl hP hD hS
    intro self_100 ihself_100 z hf
    obtain ⟨i_18, c_result_19⟩ := z
    intro H locs ls hP hD hS hl
    refine hFr _ _ _ ?_
    unfold b_X10_generate_88 at hf
    refine lv_iload_n (pc := 88) hx hb (zdt_at zt_X10_generate_0 48 rfl) rfl (lv_at hl 3 rfl) ?_
    refine lv_iload_n (pc := 89) hx hb (zdt_at zt_X10_generate_0 49 rfl) rfl (lv_at hl 2 rfl) ?_
    refine lv_icmp_ge (pc := 90) (tgt := 111) hx hb (zdt_at zt_X10_generate_0 50 rfl) (by decide) (fun cn_ => ?t_101) (fun cn_ => ?f_102)
    case t_101 =>
      replace hf := zt_s cn_ hf
      clear cn_
      exact hTo _ _ _ (kK_21 _ H locs ls hP hD hS (lv_sub hl [0, 1, 2] rfl) hf)
    replace hf := ze_s cn_ hf
    clear cn_
    refine lv_aload_n (pc := 93) hx hb (zdt_at zt_X10_generate_0 51 rfl) rfl (lv_at hl 0 rfl) ?_
    refine va_get (pc := 94) (D := D) (ci := 12) (v := .ref (hm 45)) (C := RX10) (T := TX10) (N := 52) hx hb hts hcX10 hown hK hP 0 rfl rfl 45 (by decide) hw2 (fun _ h9 => h9) rfl (zdt_at zt_X10_generate_0 52 rfl) ?_
    refine lv_iload_n (pc := 97) hx hb (zdt_at zt_X10_generate_0 53 rfl) rfl (lv_at hl 3 rfl) ?_
    refine lv_aload_n (pc := 98) hx hb (zdt_at zt_X10_generate_0 54 rfl) rfl (lv_at hl 0 rfl) ?_
    refine va_get (pc := 99) (D := D) (ci := 12) (v := .ref (hm 6)) (C := RX10) (T := TX10) (N := 52) hx hb hts hcX10 hown hK hP 0 rfl rfl 6 (by decide) hw4 (fun _ h9 => h9) rfl (zdt_at zt_X10_generate_0 55 rfl) ?_
    refine lv_iload_n (pc := 102) hx hb (zdt_at zt_X10_generate_0 56 rfl) rfl (lv_at hl 3 rfl) ?_
    replace hf := zk_s hf
    refine va_iald (pc := 103) hx hb hK hP 3 1 rfl rfl hf.1 (zdt_at zt_X10_generate_0 57 rfl) ?_
    replace hf := hf.2
    replace hf := zk_s hf
    refine va_iast (pc := 104) hx hb hK hP hD hS 9 1 rfl rfl hf.1 (zdt_at zt_X10_generate_0 58 rfl) ?_
    replace hf := hf.2
    clear hP hD hS
    intro H locs hP hD hS
    obtain ⟨c_result_103, e_⟩ : ∃ q : Nat → Int32, q = (upd c_result_19 i_18.toNatClampNeg (c_buffer i_18.toNatClampNeg)) := ⟨_, rfl⟩
    replace hf := zn_s hf e_
    replace hP : va_P D vwCl ([(h0, .inr (12, zmo hm c_thrown c_state c_test c_words_15 c_ill c_before c_inRow c_first c_inWindow c_same c_made_5 c_requests_7 c_total_11 c_secrets_10 c_rounds c_high c_low c_keyHigh c_keyLow)), ((hm 0), .inl (cy 1, 64, .inl c_ROUND)), ((hm 47), .inl (cy 1, 8, .inl c_START)), ((hm 6), .inl (cy 1, 512, .inl c_buffer)), ((hm 35), .inl (cy 1, 32, .inl c_digest_1)), ((hm 30), .inl (cy 1, 8, .inl c_h_2)), ((hm 36), .inl (cy 1, 32, .inl c_inner_3)), ((hm 25), .inl (cy 1, 32, .inl c_k_4)), ((hm 33), .inl (cy 1, 64, .inl c_message_6)), ((hm 45), .inl (cy 1, 600, .inl c_result_103)), ((hm 37), .inl (cy 1, 64, .inl c_secret_9)), ((hm 26), .inl (cy 1, 32, .inl c_v_12)), ((hm 31), .inl (cy 1, 64, .inl c_w_13)), ((hm 16), .inl (cy 1, 64, .inl c_word_14)), ((hm 32), .inl (cy 1, 8, .inl c_x_16))]) H := by rw [e_]; exact hP
    replace hD : va_D A ([(h0, .inr (12, zmo hm c_thrown c_state c_test c_words_15 c_ill c_before c_inRow c_first c_inWindow c_same c_made_5 c_requests_7 c_total_11 c_secrets_10 c_rounds c_high c_low c_keyHigh c_keyLow)), ((hm 0), .inl (cy 1, 64, .inl c_ROUND)), ((hm 47), .inl (cy 1, 8, .inl c_START)), ((hm 6), .inl (cy 1, 512, .inl c_buffer)), ((hm 35), .inl (cy 1, 32, .inl c_digest_1)), ((hm 30), .inl (cy 1, 8, .inl c_h_2)), ((hm 36), .inl (cy 1, 32, .inl c_inner_3)), ((hm 25), .inl (cy 1, 32, .inl c_k_4)), ((hm 33), .inl (cy 1, 64, .inl c_message_6)), ((hm 45), .inl (cy 1, 600, .inl c_result_103)), ((hm 37), .inl (cy 1, 64, .inl c_secret_9)), ((hm 26), .inl (cy 1, 32, .inl c_v_12)), ((hm 31), .inl (cy 1, 64, .inl c_w_13)), ((hm 16), .inl (cy 1, 64, .inl c_word_14)), ((hm 32), .inl (cy 1, 8, .inl c_x_16))]) := by rw [e_]; exact hD
    clear e_
    refine lv_iinc (pc := 105) (v := (i_18 + (1 : Int32))) (lv' := [(3, .int (i_18 + (1 : Int32))), (0, .ref h0), (1, .int p1), (2, .int p2)]) hx hb (zdt_at zt_X10_generate_0 59 rfl) hl (k := 3) rfl rfl (by decide) rfl ?_
    clear hl
    intro ls hl
    refine lv_goto (pc := 108) (tgt := 88) hx hb (zdt_at zt_X10_generate_0 60 rfl) (by decide) ?_
    exact hTo _ _ _ (ihself_100 _ hf H locs ls hP hD hS (lv_sub hl [1, 2, 3, 0] rfl))
  clear eK_17
  refine lv_if_ne (pc := 4) (tgt := 60) hx hb (zdt_at zt_X10_generate_0 2 rfl) (by decide) (fun cn_ => ?t_104) (fun cn_ => ?f_105)
  case t_104 =>
    replace hf := ze_s cn_ hf
    clear cn_
    refine lv_aload_n (pc := 60) hx hb (zdt_at zt_X10_generate_0 33 rfl) rfl (lv_at hl 0 rfl) ?_
    refine va_get (pc := 61) (D := D) (ci := 12) (v := .int c_requests) (C := RX10) (T := TX10) (N := 52) hx hb hts hcX10 hown hK hP 0 rfl rfl 24 (by decide) hw1 (fun _ h9 => h9) rfl (zdt_at zt_X10_generate_0 34 rfl) ?_
    refine lv_bipush (pc := 64) (v := (64 : Int32)) hx hb (zdt_at zt_X10_generate_0 35 rfl) (by decide) ?_
    refine lv_icmp_ne (pc := 66) (tgt := 86) hx hb (zdt_at zt_X10_generate_0 36 rfl) (by decide) (fun cn_ => ?t_106) (fun cn_ => ?f_107)
    case t_106 =>
      replace hf := ze_s cn_ hf
      clear cn_
      exact hTo _ _ _ (kK_17 _ _ _ _ _ _ _ _ _ _ _ _ _ _ _ _ H locs ls hP hD hS (lv_sub hl [0, 1, 2] rfl) hf)
    replace hf := zt_s cn_ hf
    clear cn_
    refine lv_aload_n (pc := 69) hx hb (zdt_at zt_X10_generate_0 37 rfl) rfl (lv_at hl 0 rfl) ?_
    refine lv_bipush (pc := 70) (v := (8 : Int32)) hx hb (zdt_at zt_X10_generate_0 38 rfl) (by decide) ?_
    replace hf := zb_s hf
    obtain ⟨⟨c_words_108, c_result_109, c_word_110⟩, hc_, hf⟩ := hf
    refine zcn2 (pc := 72) (rv := none) (va_runV (As := [.int (8 : Int32)]) (rest := []) ⟨hx, hb, hml, hown, hts⟩ (c_X10_useWords l D cy tt H.size h0 hm (8 : Int32) c_words c_result c_word c_thrown c_state c_test c_ill c_before c_inRow c_first c_inWindow c_same c_made c_requests c_total c_secrets c_rounds c_high c_low c_keyHigh c_keyLow c_words_108 c_result_109 c_word_110 hc_) (cwV 1 hts gX10_generate_X10_useWords rfl rfl rfl (by decide +kernel) ⟨Nat.le_of_ble_eq_true rfl, Nat.le_of_ble_eq_true rfl⟩) ⟨zblind, va_recv hK hP (ci := 12) (q0 := 0) rfl rfl, zpre hE hS (hP.sub [0, 9, 13] rfl) (hD.sub [0, 9, 13] (by decide) rfl) (va_free hD hS hA [0, 9, 13] rfl)⟩ rfl rfl hl.1 rfl (lv_room (Nat.le_of_ble_eq_true rfl)) (zdt_at zt_X10_generate_0 39 rfl) ⟨Nat.zero_le _, Nat.zero_le _⟩) hS hP hD (va_free hD hS hA [0, 9, 13] rfl) [0, 9, 13] rfl (by decide) rfl ?_
    clear hP hD hS hc_
    intro H locs hP hD hS
    replace hP : va_P D vwCl ([(h0, .inr (12, zmo hm c_thrown c_state c_test c_words_108 c_ill c_before c_inRow c_first c_inWindow c_same c_made c_requests c_total c_secrets c_rounds c_high c_low c_keyHigh c_keyLow)), ((hm 0), .inl (cy 1, 64, .inl c_ROUND)), ((hm 47), .inl (cy 1, 8, .inl c_START)), ((hm 6), .inl (cy 1, 512, .inl c_buffer)), ((hm 35), .inl (cy 1, 32, .inl c_digest)), ((hm 30), .inl (cy 1, 8, .inl c_h)), ((hm 36), .inl (cy 1, 32, .inl c_inner)), ((hm 25), .inl (cy 1, 32, .inl c_k)), ((hm 33), .inl (cy 1, 64, .inl c_message)), ((hm 45), .inl (cy 1, 600, .inl c_result_109)), ((hm 37), .inl (cy 1, 64, .inl c_secret)), ((hm 26), .inl (cy 1, 32, .inl c_v)), ((hm 31), .inl (cy 1, 64, .inl c_w)), ((hm 16), .inl (cy 1, 64, .inl c_word_110)), ((hm 32), .inl (cy 1, 8, .inl c_x))]) H := hP
    replace hD : va_D A ([(h0, .inr (12, zmo hm c_thrown c_state c_test c_words_108 c_ill c_before c_inRow c_first c_inWindow c_same c_made c_requests c_total c_secrets c_rounds c_high c_low c_keyHigh c_keyLow)), ((hm 0), .inl (cy 1, 64, .inl c_ROUND)), ((hm 47), .inl (cy 1, 8, .inl c_START)), ((hm 6), .inl (cy 1, 512, .inl c_buffer)), ((hm 35), .inl (cy 1, 32, .inl c_digest)), ((hm 30), .inl (cy 1, 8, .inl c_h)), ((hm 36), .inl (cy 1, 32, .inl c_inner)), ((hm 25), .inl (cy 1, 32, .inl c_k)), ((hm 33), .inl (cy 1, 64, .inl c_message)), ((hm 45), .inl (cy 1, 600, .inl c_result_109)), ((hm 37), .inl (cy 1, 64, .inl c_secret)), ((hm 26), .inl (cy 1, 32, .inl c_v)), ((hm 31), .inl (cy 1, 64, .inl c_w)), ((hm 16), .inl (cy 1, 64, .inl c_word_110)), ((hm 32), .inl (cy 1, 8, .inl c_x))]) := hD
    refine W.eq (g2 := F0 m 75 ls []) rfl ?_
    refine lv_aload_n (pc := 75) hx hb (zdt_at zt_X10_generate_0 40 rfl) rfl (lv_at hl 0 rfl) ?_
    refine lv_bipush (pc := 76) (v := (32 : Int32)) hx hb (zdt_at zt_X10_generate_0 41 rfl) (by decide) ?_
    replace hf := zb_s hf
    obtain ⟨⟨c_secrets_111, c_total_112, c_digest_113, c_h_114, c_inner_115, c_k_116, c_message_117, c_secret_118, c_v_119, c_w_120, c_x_121⟩, hc_, hf⟩ := hf
    refine zcn2 (pc := 78) (rv := none) (va_runV (As := [.int (32 : Int32)]) (rest := []) ⟨hx, hb, hml, hown, hts⟩ (c_X10_update l D cy tt H.size h0 hm (32 : Int32) c_secrets c_total c_ROUND c_START c_digest c_h c_inner c_k c_message c_result_109 c_secret c_v c_w c_x c_thrown c_state c_test c_words_108 c_ill c_before c_inRow c_first c_inWindow c_same c_made c_requests c_rounds c_high c_low c_keyHigh c_keyLow c_secrets_111 c_total_112 c_digest_113 c_h_114 c_inner_115 c_k_116 c_message_117 c_secret_118 c_v_119 c_w_120 c_x_121 hc_) (cwV 1 hts gX10_generate_X10_update rfl rfl rfl (by decide +kernel) ⟨Nat.le_of_ble_eq_true rfl, Nat.le_of_ble_eq_true rfl⟩) ⟨zblind, va_recv hK hP (ci := 12) (q0 := 0) rfl rfl, zpre hE hS (hP.sub [0, 1, 2, 4, 5, 6, 7, 8, 9, 10, 11, 12, 14] rfl) (hD.sub [0, 1, 2, 4, 5, 6, 7, 8, 9, 10, 11, 12, 14] (by decide) rfl) (va_free hD hS hA [0, 1, 2, 4, 5, 6, 7, 8, 9, 10, 11, 12, 14] rfl)⟩ rfl rfl hl.1 rfl (lv_room (Nat.le_of_ble_eq_true rfl)) (zdt_at zt_X10_generate_0 42 rfl) ⟨Nat.zero_le _, Nat.zero_le _⟩) hS hP hD (va_free hD hS hA [0, 1, 2, 4, 5, 6, 7, 8, 9, 10, 11, 12, 14] rfl) [0, 1, 2, 4, 5, 6, 7, 8, 9, 10, 11, 12, 14] rfl (by decide) rfl ?_
    clear hP hD hS hc_
    intro H locs hP hD hS
    replace hP : va_P D vwCl ([(h0, .inr (12, zmo hm c_thrown c_state c_test c_words_108 c_ill c_before c_inRow c_first c_inWindow c_same c_made c_requests c_total_112 c_secrets_111 c_rounds c_high c_low c_keyHigh c_keyLow)), ((hm 0), .inl (cy 1, 64, .inl c_ROUND)), ((hm 47), .inl (cy 1, 8, .inl c_START)), ((hm 6), .inl (cy 1, 512, .inl c_buffer)), ((hm 35), .inl (cy 1, 32, .inl c_digest_113)), ((hm 30), .inl (cy 1, 8, .inl c_h_114)), ((hm 36), .inl (cy 1, 32, .inl c_inner_115)), ((hm 25), .inl (cy 1, 32, .inl c_k_116)), ((hm 33), .inl (cy 1, 64, .inl c_message_117)), ((hm 45), .inl (cy 1, 600, .inl c_result_109)), ((hm 37), .inl (cy 1, 64, .inl c_secret_118)), ((hm 26), .inl (cy 1, 32, .inl c_v_119)), ((hm 31), .inl (cy 1, 64, .inl c_w_120)), ((hm 16), .inl (cy 1, 64, .inl c_word_110)), ((hm 32), .inl (cy 1, 8, .inl c_x_121))]) H := hP
    replace hD : va_D A ([(h0, .inr (12, zmo hm c_thrown c_state c_test c_words_108 c_ill c_before c_inRow c_first c_inWindow c_same c_made c_requests c_total_112 c_secrets_111 c_rounds c_high c_low c_keyHigh c_keyLow)), ((hm 0), .inl (cy 1, 64, .inl c_ROUND)), ((hm 47), .inl (cy 1, 8, .inl c_START)), ((hm 6), .inl (cy 1, 512, .inl c_buffer)), ((hm 35), .inl (cy 1, 32, .inl c_digest_113)), ((hm 30), .inl (cy 1, 8, .inl c_h_114)), ((hm 36), .inl (cy 1, 32, .inl c_inner_115)), ((hm 25), .inl (cy 1, 32, .inl c_k_116)), ((hm 33), .inl (cy 1, 64, .inl c_message_117)), ((hm 45), .inl (cy 1, 600, .inl c_result_109)), ((hm 37), .inl (cy 1, 64, .inl c_secret_118)), ((hm 26), .inl (cy 1, 32, .inl c_v_119)), ((hm 31), .inl (cy 1, 64, .inl c_w_120)), ((hm 16), .inl (cy 1, 64, .inl c_word_110)), ((hm 32), .inl (cy 1, 8, .inl c_x_121))]) := hD
    refine W.eq (g2 := F0 m 81 ls []) rfl ?_
    refine lv_aload_n (pc := 81) hx hb (zdt_at zt_X10_generate_0 43 rfl) rfl (lv_at hl 0 rfl) ?_
    refine lv_iconst (pc := 82) (v := (0 : Int32)) hx hb (zdt_at zt_X10_generate_0 44 rfl) (by decide) ?_
    refine va_put (pc := 83) (D := D) (ci := 12) (v := .int (0 : Int32)) (ty := .int) (C := RX10) (T := TX10) (N := 52) hx hb hts hcX10 tyX10 tyX10_ok nmX10 hown hK hP hD hS 0 rfl rfl 24 (by decide) hw1 (fun _ h9 => h9) rfl (by decide +kernel) rfl rfl (Nat.le_of_ble_eq_true rfl) (zdt_at zt_X10_generate_0 45 rfl) ?_
    clear hP hD hS
    intro H locs hP hD hS
    replace hP : va_P D vwCl ([(h0, .inr (12, zmo hm c_thrown c_state c_test c_words_108 c_ill c_before c_inRow c_first c_inWindow c_same c_made (0 : Int32) c_total_112 c_secrets_111 c_rounds c_high c_low c_keyHigh c_keyLow)), ((hm 0), .inl (cy 1, 64, .inl c_ROUND)), ((hm 47), .inl (cy 1, 8, .inl c_START)), ((hm 6), .inl (cy 1, 512, .inl c_buffer)), ((hm 35), .inl (cy 1, 32, .inl c_digest_113)), ((hm 30), .inl (cy 1, 8, .inl c_h_114)), ((hm 36), .inl (cy 1, 32, .inl c_inner_115)), ((hm 25), .inl (cy 1, 32, .inl c_k_116)), ((hm 33), .inl (cy 1, 64, .inl c_message_117)), ((hm 45), .inl (cy 1, 600, .inl c_result_109)), ((hm 37), .inl (cy 1, 64, .inl c_secret_118)), ((hm 26), .inl (cy 1, 32, .inl c_v_119)), ((hm 31), .inl (cy 1, 64, .inl c_w_120)), ((hm 16), .inl (cy 1, 64, .inl c_word_110)), ((hm 32), .inl (cy 1, 8, .inl c_x_121))]) H := hP
    replace hD : va_D A ([(h0, .inr (12, zmo hm c_thrown c_state c_test c_words_108 c_ill c_before c_inRow c_first c_inWindow c_same c_made (0 : Int32) c_total_112 c_secrets_111 c_rounds c_high c_low c_keyHigh c_keyLow)), ((hm 0), .inl (cy 1, 64, .inl c_ROUND)), ((hm 47), .inl (cy 1, 8, .inl c_START)), ((hm 6), .inl (cy 1, 512, .inl c_buffer)), ((hm 35), .inl (cy 1, 32, .inl c_digest_113)), ((hm 30), .inl (cy 1, 8, .inl c_h_114)), ((hm 36), .inl (cy 1, 32, .inl c_inner_115)), ((hm 25), .inl (cy 1, 32, .inl c_k_116)), ((hm 33), .inl (cy 1, 64, .inl c_message_117)), ((hm 45), .inl (cy 1, 600, .inl c_result_109)), ((hm 37), .inl (cy 1, 64, .inl c_secret_118)), ((hm 26), .inl (cy 1, 32, .inl c_v_119)), ((hm 31), .inl (cy 1, 64, .inl c_w_120)), ((hm 16), .inl (cy 1, 64, .inl c_word_110)), ((hm 32), .inl (cy 1, 8, .inl c_x_121))]) := hD
    exact hTo _ _ _ (kK_17 _ _ _ _ _ _ _ _ _ _ _ _ _ _ _ _ H locs ls hP hD hS (lv_sub hl [0, 1, 2] rfl) hf)
  replace hf := zt_s cn_ hf
  clear cn_
  refine lv_iconst (pc := 7) (v := (0 : Int32)) hx hb (zdt_at zt_X10_generate_0 3 rfl) (by decide) ?_
  refine lv_istore_n (pc := 8) (lv' := [(3, .int (0 : Int32)), (0, .ref h0), (1, .int p1), (2, .int p2)]) hx hb (zdt_at zt_X10_generate_0 4 rfl) rfl hl (by decide) rfl ?_
  clear hl
  intro ls hl
  replace hf := zj_s hf
  obtain ⟨K_127, eK_127, hf⟩ := hf
  have kK_127 : ∀ (c_k_125 : Nat → Int32) (c_v_126 : Nat → Int32) (H : Heap) (locs : List Loc) (ls : Array Slot), va_P D vwCl ([(h0, .inr (12, zmo hm c_thrown c_state c_test c_words c_ill c_before c_inRow c_first c_inWindow c_same c_made c_requests c_total c_secrets c_rounds c_high c_low c_keyHigh c_keyLow)), ((hm 0), .inl (cy 1, 64, .inl c_ROUND)), ((hm 47), .inl (cy 1, 8, .inl c_START)), ((hm 6), .inl (cy 1, 512, .inl c_buffer)), ((hm 35), .inl (cy 1, 32, .inl c_digest)), ((hm 30), .inl (cy 1, 8, .inl c_h)), ((hm 36), .inl (cy 1, 32, .inl c_inner)), ((hm 25), .inl (cy 1, 32, .inl c_k_125)), ((hm 33), .inl (cy 1, 64, .inl c_message)), ((hm 45), .inl (cy 1, 600, .inl c_result)), ((hm 37), .inl (cy 1, 64, .inl c_secret)), ((hm 26), .inl (cy 1, 32, .inl c_v_126)), ((hm 31), .inl (cy 1, 64, .inl c_w)), ((hm 16), .inl (cy 1, 64, .inl c_word)), ((hm 32), .inl (cy 1, 8, .inl c_x))]) H → va_D A ([(h0, .inr (12, zmo hm c_thrown c_state c_test c_words c_ill c_before c_inRow c_first c_inWindow c_same c_made c_requests c_total c_secrets c_rounds c_high c_low c_keyHigh c_keyLow)), ((hm 0), .inl (cy 1, 64, .inl c_ROUND)), ((hm 47), .inl (cy 1, 8, .inl c_START)), ((hm 6), .inl (cy 1, 512, .inl c_buffer)), ((hm 35), .inl (cy 1, 32, .inl c_digest)), ((hm 30), .inl (cy 1, 8, .inl c_h)), ((hm 36), .inl (cy 1, 32, .inl c_inner)), ((hm 25), .inl (cy 1, 32, .inl c_k_125)), ((hm 33), .inl (cy 1, 64, .inl c_message)), ((hm 45), .inl (cy 1, 600, .inl c_result)), ((hm 37), .inl (cy 1, 64, .inl c_secret)), ((hm 26), .inl (cy 1, 32, .inl c_v_126)), ((hm 31), .inl (cy 1, 64, .inl c_w)), ((hm 16), .inl (cy 1, 64, .inl c_word)), ((hm 32), .inl (cy 1, 8, .inl c_x))]) → va_S A s.heap H locs → lv_has ls 4 [(0, .ref h0), (1, .int p1), (2, .int p2)] → K_127 c_k_125 c_v_126 = some (c_made', c_requests', c_secrets', c_total', c_words', c_digest', c_h', c_inner', c_k', c_message', c_result', c_secret', c_v', c_w', c_word', c_x') → GW H locs (F0 m 35 ls []) := by
    clear hf hl hP hD hS
    intro c_k_125 c_v_126 H locs ls hP hD hS hl hf
    rw [eK_127] at hf
    clear eK_127
    refine hFr _ _ _ ?_
    refine lv_aload_n (pc := 35) hx hb (zdt_at zt_X10_generate_0 20 rfl) rfl (lv_at hl 0 rfl) ?_
    refine lv_bipush (pc := 36) (v := (12 : Int32)) hx hb (zdt_at zt_X10_generate_0 21 rfl) (by decide) ?_
    replace hf := zb_s hf
    obtain ⟨⟨c_words_128, c_result_129, c_word_130⟩, hc_, hf⟩ := hf
    refine zcn2 (pc := 38) (rv := none) (va_runV (As := [.int (12 : Int32)]) (rest := []) ⟨hx, hb, hml, hown, hts⟩ (c_X10_useWords l D cy tt H.size h0 hm (12 : Int32) c_words c_result c_word c_thrown c_state c_test c_ill c_before c_inRow c_first c_inWindow c_same c_made c_requests c_total c_secrets c_rounds c_high c_low c_keyHigh c_keyLow c_words_128 c_result_129 c_word_130 hc_) (cwV 1 hts gX10_generate_X10_useWords rfl rfl rfl (by decide +kernel) ⟨Nat.le_of_ble_eq_true rfl, Nat.le_of_ble_eq_true rfl⟩) ⟨zblind, va_recv hK hP (ci := 12) (q0 := 0) rfl rfl, zpre hE hS (hP.sub [0, 9, 13] rfl) (hD.sub [0, 9, 13] (by decide) rfl) (va_free hD hS hA [0, 9, 13] rfl)⟩ rfl rfl hl.1 rfl (lv_room (Nat.le_of_ble_eq_true rfl)) (zdt_at zt_X10_generate_0 22 rfl) ⟨Nat.zero_le _, Nat.zero_le _⟩) hS hP hD (va_free hD hS hA [0, 9, 13] rfl) [0, 9, 13] rfl (by decide) rfl ?_
    clear hP hD hS hc_
    intro H locs hP hD hS
    replace hP : va_P D vwCl ([(h0, .inr (12, zmo hm c_thrown c_state c_test c_words_128 c_ill c_before c_inRow c_first c_inWindow c_same c_made c_requests c_total c_secrets c_rounds c_high c_low c_keyHigh c_keyLow)), ((hm 0), .inl (cy 1, 64, .inl c_ROUND)), ((hm 47), .inl (cy 1, 8, .inl c_START)), ((hm 6), .inl (cy 1, 512, .inl c_buffer)), ((hm 35), .inl (cy 1, 32, .inl c_digest)), ((hm 30), .inl (cy 1, 8, .inl c_h)), ((hm 36), .inl (cy 1, 32, .inl c_inner)), ((hm 25), .inl (cy 1, 32, .inl c_k_125)), ((hm 33), .inl (cy 1, 64, .inl c_message)), ((hm 45), .inl (cy 1, 600, .inl c_result_129)), ((hm 37), .inl (cy 1, 64, .inl c_secret)), ((hm 26), .inl (cy 1, 32, .inl c_v_126)), ((hm 31), .inl (cy 1, 64, .inl c_w)), ((hm 16), .inl (cy 1, 64, .inl c_word_130)), ((hm 32), .inl (cy 1, 8, .inl c_x))]) H := hP
    replace hD : va_D A ([(h0, .inr (12, zmo hm c_thrown c_state c_test c_words_128 c_ill c_before c_inRow c_first c_inWindow c_same c_made c_requests c_total c_secrets c_rounds c_high c_low c_keyHigh c_keyLow)), ((hm 0), .inl (cy 1, 64, .inl c_ROUND)), ((hm 47), .inl (cy 1, 8, .inl c_START)), ((hm 6), .inl (cy 1, 512, .inl c_buffer)), ((hm 35), .inl (cy 1, 32, .inl c_digest)), ((hm 30), .inl (cy 1, 8, .inl c_h)), ((hm 36), .inl (cy 1, 32, .inl c_inner)), ((hm 25), .inl (cy 1, 32, .inl c_k_125)), ((hm 33), .inl (cy 1, 64, .inl c_message)), ((hm 45), .inl (cy 1, 600, .inl c_result_129)), ((hm 37), .inl (cy 1, 64, .inl c_secret)), ((hm 26), .inl (cy 1, 32, .inl c_v_126)), ((hm 31), .inl (cy 1, 64, .inl c_w)), ((hm 16), .inl (cy 1, 64, .inl c_word_130)), ((hm 32), .inl (cy 1, 8, .inl c_x))]) := hD
    refine W.eq (g2 := F0 m 41 ls []) rfl ?_
    refine lv_aload_n (pc := 41) hx hb (zdt_at zt_X10_generate_0 23 rfl) rfl (lv_at hl 0 rfl) ?_
    refine lv_bipush (pc := 42) (v := (48 : Int32)) hx hb (zdt_at zt_X10_generate_0 24 rfl) (by decide) ?_
    replace hf := zb_s hf
    obtain ⟨⟨c_secrets_131, c_total_132, c_digest_133, c_h_134, c_inner_135, c_k_136, c_message_137, c_secret_138, c_v_139, c_w_140, c_x_141⟩, hc_, hf⟩ := hf
    refine zcn2 (pc := 44) (rv := none) (va_runV (As := [.int (48 : Int32)]) (rest := []) ⟨hx, hb, hml, hown, hts⟩ (c_X10_update l D cy tt H.size h0 hm (48 : Int32) c_secrets c_total c_ROUND c_START c_digest c_h c_inner c_k_125 c_message c_result_129 c_secret c_v_126 c_w c_x c_thrown c_state c_test c_words_128 c_ill c_before c_inRow c_first c_inWindow c_same c_made c_requests c_rounds c_high c_low c_keyHigh c_keyLow c_secrets_131 c_total_132 c_digest_133 c_h_134 c_inner_135 c_k_136 c_message_137 c_secret_138 c_v_139 c_w_140 c_x_141 hc_) (cwV 1 hts gX10_generate_X10_update rfl rfl rfl (by decide +kernel) ⟨Nat.le_of_ble_eq_true rfl, Nat.le_of_ble_eq_true rfl⟩) ⟨zblind, va_recv hK hP (ci := 12) (q0 := 0) rfl rfl, zpre hE hS (hP.sub [0, 1, 2, 4, 5, 6, 7, 8, 9, 10, 11, 12, 14] rfl) (hD.sub [0, 1, 2, 4, 5, 6, 7, 8, 9, 10, 11, 12, 14] (by decide) rfl) (va_free hD hS hA [0, 1, 2, 4, 5, 6, 7, 8, 9, 10, 11, 12, 14] rfl)⟩ rfl rfl hl.1 rfl (lv_room (Nat.le_of_ble_eq_true rfl)) (zdt_at zt_X10_generate_0 25 rfl) ⟨Nat.zero_le _, Nat.zero_le _⟩) hS hP hD (va_free hD hS hA [0, 1, 2, 4, 5, 6, 7, 8, 9, 10, 11, 12, 14] rfl) [0, 1, 2, 4, 5, 6, 7, 8, 9, 10, 11, 12, 14] rfl (by decide) rfl ?_
    clear hP hD hS hc_
    intro H locs hP hD hS
    replace hP : va_P D vwCl ([(h0, .inr (12, zmo hm c_thrown c_state c_test c_words_128 c_ill c_before c_inRow c_first c_inWindow c_same c_made c_requests c_total_132 c_secrets_131 c_rounds c_high c_low c_keyHigh c_keyLow)), ((hm 0), .inl (cy 1, 64, .inl c_ROUND)), ((hm 47), .inl (cy 1, 8, .inl c_START)), ((hm 6), .inl (cy 1, 512, .inl c_buffer)), ((hm 35), .inl (cy 1, 32, .inl c_digest_133)), ((hm 30), .inl (cy 1, 8, .inl c_h_134)), ((hm 36), .inl (cy 1, 32, .inl c_inner_135)), ((hm 25), .inl (cy 1, 32, .inl c_k_136)), ((hm 33), .inl (cy 1, 64, .inl c_message_137)), ((hm 45), .inl (cy 1, 600, .inl c_result_129)), ((hm 37), .inl (cy 1, 64, .inl c_secret_138)), ((hm 26), .inl (cy 1, 32, .inl c_v_139)), ((hm 31), .inl (cy 1, 64, .inl c_w_140)), ((hm 16), .inl (cy 1, 64, .inl c_word_130)), ((hm 32), .inl (cy 1, 8, .inl c_x_141))]) H := hP
    replace hD : va_D A ([(h0, .inr (12, zmo hm c_thrown c_state c_test c_words_128 c_ill c_before c_inRow c_first c_inWindow c_same c_made c_requests c_total_132 c_secrets_131 c_rounds c_high c_low c_keyHigh c_keyLow)), ((hm 0), .inl (cy 1, 64, .inl c_ROUND)), ((hm 47), .inl (cy 1, 8, .inl c_START)), ((hm 6), .inl (cy 1, 512, .inl c_buffer)), ((hm 35), .inl (cy 1, 32, .inl c_digest_133)), ((hm 30), .inl (cy 1, 8, .inl c_h_134)), ((hm 36), .inl (cy 1, 32, .inl c_inner_135)), ((hm 25), .inl (cy 1, 32, .inl c_k_136)), ((hm 33), .inl (cy 1, 64, .inl c_message_137)), ((hm 45), .inl (cy 1, 600, .inl c_result_129)), ((hm 37), .inl (cy 1, 64, .inl c_secret_138)), ((hm 26), .inl (cy 1, 32, .inl c_v_139)), ((hm 31), .inl (cy 1, 64, .inl c_w_140)), ((hm 16), .inl (cy 1, 64, .inl c_word_130)), ((hm 32), .inl (cy 1, 8, .inl c_x_141))]) := hD
    refine W.eq (g2 := F0 m 47 ls []) rfl ?_
    refine lv_aload_n (pc := 47) hx hb (zdt_at zt_X10_generate_0 26 rfl) rfl (lv_at hl 0 rfl) ?_
    refine lv_iconst (pc := 48) (v := (1 : Int32)) hx hb (zdt_at zt_X10_generate_0 27 rfl) (by decide) ?_
    refine va_put (pc := 49) (D := D) (ci := 12) (v := .int (1 : Int32)) (ty := .boolean) (C := RX10) (T := TX10) (N := 52) hx hb hts hcX10 tyX10 tyX10_ok nmX10 hown hK hP hD hS 0 rfl rfl 23 (by decide) hw0 (fun _ h9 => h9) rfl (by decide +kernel) (by first | rfl | decide) (by first | rfl | decide) (Nat.le_of_ble_eq_true rfl) (zdt_at zt_X10_generate_0 28 rfl) ?_
    clear hP hD hS
    intro H locs hP hD hS
    replace hP : va_P D vwCl ([(h0, .inr (12, zmo hm c_thrown c_state c_test c_words_128 c_ill c_before c_inRow c_first c_inWindow c_same (1 : Int32) c_requests c_total_132 c_secrets_131 c_rounds c_high c_low c_keyHigh c_keyLow)), ((hm 0), .inl (cy 1, 64, .inl c_ROUND)), ((hm 47), .inl (cy 1, 8, .inl c_START)), ((hm 6), .inl (cy 1, 512, .inl c_buffer)), ((hm 35), .inl (cy 1, 32, .inl c_digest_133)), ((hm 30), .inl (cy 1, 8, .inl c_h_134)), ((hm 36), .inl (cy 1, 32, .inl c_inner_135)), ((hm 25), .inl (cy 1, 32, .inl c_k_136)), ((hm 33), .inl (cy 1, 64, .inl c_message_137)), ((hm 45), .inl (cy 1, 600, .inl c_result_129)), ((hm 37), .inl (cy 1, 64, .inl c_secret_138)), ((hm 26), .inl (cy 1, 32, .inl c_v_139)), ((hm 31), .inl (cy 1, 64, .inl c_w_140)), ((hm 16), .inl (cy 1, 64, .inl c_word_130)), ((hm 32), .inl (cy 1, 8, .inl c_x_141))]) H := hP
    replace hD : va_D A ([(h0, .inr (12, zmo hm c_thrown c_state c_test c_words_128 c_ill c_before c_inRow c_first c_inWindow c_same (1 : Int32) c_requests c_total_132 c_secrets_131 c_rounds c_high c_low c_keyHigh c_keyLow)), ((hm 0), .inl (cy 1, 64, .inl c_ROUND)), ((hm 47), .inl (cy 1, 8, .inl c_START)), ((hm 6), .inl (cy 1, 512, .inl c_buffer)), ((hm 35), .inl (cy 1, 32, .inl c_digest_133)), ((hm 30), .inl (cy 1, 8, .inl c_h_134)), ((hm 36), .inl (cy 1, 32, .inl c_inner_135)), ((hm 25), .inl (cy 1, 32, .inl c_k_136)), ((hm 33), .inl (cy 1, 64, .inl c_message_137)), ((hm 45), .inl (cy 1, 600, .inl c_result_129)), ((hm 37), .inl (cy 1, 64, .inl c_secret_138)), ((hm 26), .inl (cy 1, 32, .inl c_v_139)), ((hm 31), .inl (cy 1, 64, .inl c_w_140)), ((hm 16), .inl (cy 1, 64, .inl c_word_130)), ((hm 32), .inl (cy 1, 8, .inl c_x_141))]) := hD
    refine lv_aload_n (pc := 52) hx hb (zdt_at zt_X10_generate_0 29 rfl) rfl (lv_at hl 0 rfl) ?_
    refine lv_iconst (pc := 53) (v := (0 : Int32)) hx hb (zdt_at zt_X10_generate_0 30 rfl) (by decide) ?_
    refine va_put (pc := 54) (D := D) (ci := 12) (v := .int (0 : Int32)) (ty := .int) (C := RX10) (T := TX10) (N := 52) hx hb hts hcX10 tyX10 tyX10_ok nmX10 hown hK hP hD hS 0 rfl rfl 24 (by decide) hw1 (fun _ h9 => h9) rfl (by decide +kernel) rfl rfl (Nat.le_of_ble_eq_true rfl) (zdt_at zt_X10_generate_0 31 rfl) ?_
    clear hP hD hS
    intro H locs hP hD hS
    replace hP : va_P D vwCl ([(h0, .inr (12, zmo hm c_thrown c_state c_test c_words_128 c_ill c_before c_inRow c_first c_inWindow c_same (1 : Int32) (0 : Int32) c_total_132 c_secrets_131 c_rounds c_high c_low c_keyHigh c_keyLow)), ((hm 0), .inl (cy 1, 64, .inl c_ROUND)), ((hm 47), .inl (cy 1, 8, .inl c_START)), ((hm 6), .inl (cy 1, 512, .inl c_buffer)), ((hm 35), .inl (cy 1, 32, .inl c_digest_133)), ((hm 30), .inl (cy 1, 8, .inl c_h_134)), ((hm 36), .inl (cy 1, 32, .inl c_inner_135)), ((hm 25), .inl (cy 1, 32, .inl c_k_136)), ((hm 33), .inl (cy 1, 64, .inl c_message_137)), ((hm 45), .inl (cy 1, 600, .inl c_result_129)), ((hm 37), .inl (cy 1, 64, .inl c_secret_138)), ((hm 26), .inl (cy 1, 32, .inl c_v_139)), ((hm 31), .inl (cy 1, 64, .inl c_w_140)), ((hm 16), .inl (cy 1, 64, .inl c_word_130)), ((hm 32), .inl (cy 1, 8, .inl c_x_141))]) H := hP
    replace hD : va_D A ([(h0, .inr (12, zmo hm c_thrown c_state c_test c_words_128 c_ill c_before c_inRow c_first c_inWindow c_same (1 : Int32) (0 : Int32) c_total_132 c_secrets_131 c_rounds c_high c_low c_keyHigh c_keyLow)), ((hm 0), .inl (cy 1, 64, .inl c_ROUND)), ((hm 47), .inl (cy 1, 8, .inl c_START)), ((hm 6), .inl (cy 1, 512, .inl c_buffer)), ((hm 35), .inl (cy 1, 32, .inl c_digest_133)), ((hm 30), .inl (cy 1, 8, .inl c_h_134)), ((hm 36), .inl (cy 1, 32, .inl c_inner_135)), ((hm 25), .inl (cy 1, 32, .inl c_k_136)), ((hm 33), .inl (cy 1, 64, .inl c_message_137)), ((hm 45), .inl (cy 1, 600, .inl c_result_129)), ((hm 37), .inl (cy 1, 64, .inl c_secret_138)), ((hm 26), .inl (cy 1, 32, .inl c_v_139)), ((hm 31), .inl (cy 1, 64, .inl c_w_140)), ((hm 16), .inl (cy 1, 64, .inl c_word_130)), ((hm 32), .inl (cy 1, 8, .inl c_x_141))]) := hD
    refine lv_goto (pc := 57) (tgt := 86) hx hb (zdt_at zt_X10_generate_0 32 rfl) (by decide) ?_
    exact hTo _ _ _ (kK_17 _ _ _ _ _ _ _ _ _ _ _ _ _ _ _ _ H locs ls hP hD hS (lv_sub hl [0, 1, 2] rfl) hf)
  clear eK_127
  refine hTo _ _ _ (zl_go (fun z => match z with | (i_122, c_k_123, c_v_124) => ∀ (H : Heap) (locs : List Loc) (ls : Array Slot), va_P D vwCl ([(h0, .inr (12, zmo hm c_thrown c_state c_test c_words c_ill c_before c_inRow c_first c_inWindow c_same c_made c_requests c_total c_secrets c_rounds c_high c_low c_keyHigh c_keyLow)), ((hm 0), .inl (cy 1, 64, .inl c_ROUND)), ((hm 47), .inl (cy 1, 8, .inl c_START)), ((hm 6), .inl (cy 1, 512, .inl c_buffer)), ((hm 35), .inl (cy 1, 32, .inl c_digest)), ((hm 30), .inl (cy 1, 8, .inl c_h)), ((hm 36), .inl (cy 1, 32, .inl c_inner)), ((hm 25), .inl (cy 1, 32, .inl c_k_123)), ((hm 33), .inl (cy 1, 64, .inl c_message)), ((hm 45), .inl (cy 1, 600, .inl c_result)), ((hm 37), .inl (cy 1, 64, .inl c_secret)), ((hm 26), .inl (cy 1, 32, .inl c_v_124)), ((hm 31), .inl (cy 1, 64, .inl c_w)), ((hm 16), .inl (cy 1, 64, .inl c_word)), ((hm 32), .inl (cy 1, 8, .inl c_x))]) H → va_D A ([(h0, .inr (12, zmo hm c_thrown c_state c_test c_words c_ill c_before c_inRow c_first c_inWindow c_same c_made c_requests c_total c_secrets c_rounds c_high c_low c_keyHigh c_keyLow)), ((hm 0), .inl (cy 1, 64, .inl c_ROUND)), ((hm 47), .inl (cy 1, 8, .inl c_START)), ((hm 6), .inl (cy 1, 512, .inl c_buffer)), ((hm 35), .inl (cy 1, 32, .inl c_digest)), ((hm 30), .inl (cy 1, 8, .inl c_h)), ((hm 36), .inl (cy 1, 32, .inl c_inner)), ((hm 25), .inl (cy 1, 32, .inl c_k_123)), ((hm 33), .inl (cy 1, 64, .inl c_message)), ((hm 45), .inl (cy 1, 600, .inl c_result)), ((hm 37), .inl (cy 1, 64, .inl c_secret)), ((hm 26), .inl (cy 1, 32, .inl c_v_124)), ((hm 31), .inl (cy 1, 64, .inl c_w)), ((hm 16), .inl (cy 1, 64, .inl c_word)), ((hm 32), .inl (cy 1, 8, .inl c_x))]) → va_S A s.heap H locs → lv_has ls 4 [(0, .ref h0), (1, .int p1), (2, .int p2), (3, .int i_122)] → GW H locs (F0 m 9 ls [])) hf ?_ H locs ls hP hD hS (lv_sub hl [1, 2, 3, 0] rfl))
  clear hf hl hP hD hS
  intro self_142 ihself_142 z hf
  obtain ⟨i_122, c_k_123, c_v_124⟩ := z
  intro H locs ls hP hD hS hl
  refine hFr _ _ _ ?_
  unfold b_X10_generate_9 at hf
  refine lv_iload_n (pc := 9) hx hb (zdt_at zt_X10_generate_0 5 rfl) rfl (lv_at hl 3 rfl) ?_
  refine lv_bipush (pc := 10) (v := (32 : Int32)) hx hb (zdt_at zt_X10_generate_0 6 rfl) (by decide) ?_
  refine lv_icmp_ge (pc := 12) (tgt := 35) hx hb (zdt_at zt_X10_generate_0 7 rfl) (by decide) (fun cn_ => ?t_143) (fun cn_ => ?f_144)
  case t_143 =>
    replace hf := zt_s cn_ hf
    clear cn_
    exact hTo _ _ _ (kK_127 _ _ H locs ls hP hD hS (lv_sub hl [0, 1, 2] rfl) hf)
  replace hf := ze_s cn_ hf
  clear cn_
  refine lv_aload_n (pc := 15) hx hb (zdt_at zt_X10_generate_0 8 rfl) rfl (lv_at hl 0 rfl) ?_
  refine va_get (pc := 16) (D := D) (ci := 12) (v := .ref (hm 25)) (C := RX10) (T := TX10) (N := 52) hx hb hts hcX10 hown hK hP 0 rfl rfl 25 (by decide) hw5 (fun _ h9 => h9) rfl (zdt_at zt_X10_generate_0 9 rfl) ?_
  refine lv_iload_n (pc := 19) hx hb (zdt_at zt_X10_generate_0 10 rfl) rfl (lv_at hl 3 rfl) ?_
  refine lv_iconst (pc := 20) (v := (0 : Int32)) hx hb (zdt_at zt_X10_generate_0 11 rfl) (by decide) ?_
  replace hf := zk_s hf
  refine va_iast (pc := 21) hx hb hK hP hD hS 7 1 rfl rfl hf.1 (zdt_at zt_X10_generate_0 12 rfl) ?_
  replace hf := hf.2
  clear hP hD hS
  intro H locs hP hD hS
  obtain ⟨c_k_145, e_⟩ : ∃ q : Nat → Int32, q = (upd c_k_123 i_122.toNatClampNeg (0 : Int32)) := ⟨_, rfl⟩
  replace hf := zn_s hf e_
  replace hP : va_P D vwCl ([(h0, .inr (12, zmo hm c_thrown c_state c_test c_words c_ill c_before c_inRow c_first c_inWindow c_same c_made c_requests c_total c_secrets c_rounds c_high c_low c_keyHigh c_keyLow)), ((hm 0), .inl (cy 1, 64, .inl c_ROUND)), ((hm 47), .inl (cy 1, 8, .inl c_START)), ((hm 6), .inl (cy 1, 512, .inl c_buffer)), ((hm 35), .inl (cy 1, 32, .inl c_digest)), ((hm 30), .inl (cy 1, 8, .inl c_h)), ((hm 36), .inl (cy 1, 32, .inl c_inner)), ((hm 25), .inl (cy 1, 32, .inl c_k_145)), ((hm 33), .inl (cy 1, 64, .inl c_message)), ((hm 45), .inl (cy 1, 600, .inl c_result)), ((hm 37), .inl (cy 1, 64, .inl c_secret)), ((hm 26), .inl (cy 1, 32, .inl c_v_124)), ((hm 31), .inl (cy 1, 64, .inl c_w)), ((hm 16), .inl (cy 1, 64, .inl c_word)), ((hm 32), .inl (cy 1, 8, .inl c_x))]) H := by rw [e_]; exact hP
  replace hD : va_D A ([(h0, .inr (12, zmo hm c_thrown c_state c_test c_words c_ill c_before c_inRow c_first c_inWindow c_same c_made c_requests c_total c_secrets c_rounds c_high c_low c_keyHigh c_keyLow)), ((hm 0), .inl (cy 1, 64, .inl c_ROUND)), ((hm 47), .inl (cy 1, 8, .inl c_START)), ((hm 6), .inl (cy 1, 512, .inl c_buffer)), ((hm 35), .inl (cy 1, 32, .inl c_digest)), ((hm 30), .inl (cy 1, 8, .inl c_h)), ((hm 36), .inl (cy 1, 32, .inl c_inner)), ((hm 25), .inl (cy 1, 32, .inl c_k_145)), ((hm 33), .inl (cy 1, 64, .inl c_message)), ((hm 45), .inl (cy 1, 600, .inl c_result)), ((hm 37), .inl (cy 1, 64, .inl c_secret)), ((hm 26), .inl (cy 1, 32, .inl c_v_124)), ((hm 31), .inl (cy 1, 64, .inl c_w)), ((hm 16), .inl (cy 1, 64, .inl c_word)), ((hm 32), .inl (cy 1, 8, .inl c_x))]) := by rw [e_]; exact hD
  clear e_
  refine lv_aload_n (pc := 22) hx hb (zdt_at zt_X10_generate_0 13 rfl) rfl (lv_at hl 0 rfl) ?_
  refine va_get (pc := 23) (D := D) (ci := 12) (v := .ref (hm 26)) (C := RX10) (T := TX10) (N := 52) hx hb hts hcX10 hown hK hP 0 rfl rfl 26 (by decide) hw3 (fun _ h9 => h9) rfl (zdt_at zt_X10_generate_0 14 rfl) ?_
  refine lv_iload_n (pc := 26) hx hb (zdt_at zt_X10_generate_0 15 rfl) rfl (lv_at hl 3 rfl) ?_
  refine lv_iconst (pc := 27) (v := (1 : Int32)) hx hb (zdt_at zt_X10_generate_0 16 rfl) (by decide) ?_
  replace hf := zk_s hf
  refine va_iast (pc := 28) hx hb hK hP hD hS 11 1 rfl rfl hf.1 (zdt_at zt_X10_generate_0 17 rfl) ?_
  replace hf := hf.2
  clear hP hD hS
  intro H locs hP hD hS
  obtain ⟨c_v_146, e_⟩ : ∃ q : Nat → Int32, q = (upd c_v_124 i_122.toNatClampNeg (1 : Int32)) := ⟨_, rfl⟩
  replace hf := zn_s hf e_
  replace hP : va_P D vwCl ([(h0, .inr (12, zmo hm c_thrown c_state c_test c_words c_ill c_before c_inRow c_first c_inWindow c_same c_made c_requests c_total c_secrets c_rounds c_high c_low c_keyHigh c_keyLow)), ((hm 0), .inl (cy 1, 64, .inl c_ROUND)), ((hm 47), .inl (cy 1, 8, .inl c_START)), ((hm 6), .inl (cy 1, 512, .inl c_buffer)), ((hm 35), .inl (cy 1, 32, .inl c_digest)), ((hm 30), .inl (cy 1, 8, .inl c_h)), ((hm 36), .inl (cy 1, 32, .inl c_inner)), ((hm 25), .inl (cy 1, 32, .inl c_k_145)), ((hm 33), .inl (cy 1, 64, .inl c_message)), ((hm 45), .inl (cy 1, 600, .inl c_result)), ((hm 37), .inl (cy 1, 64, .inl c_secret)), ((hm 26), .inl (cy 1, 32, .inl c_v_146)), ((hm 31), .inl (cy 1, 64, .inl c_w)), ((hm 16), .inl (cy 1, 64, .inl c_word)), ((hm 32), .inl (cy 1, 8, .inl c_x))]) H := by rw [e_]; exact hP
  replace hD : va_D A ([(h0, .inr (12, zmo hm c_thrown c_state c_test c_words c_ill c_before c_inRow c_first c_inWindow c_same c_made c_requests c_total c_secrets c_rounds c_high c_low c_keyHigh c_keyLow)), ((hm 0), .inl (cy 1, 64, .inl c_ROUND)), ((hm 47), .inl (cy 1, 8, .inl c_START)), ((hm 6), .inl (cy 1, 512, .inl c_buffer)), ((hm 35), .inl (cy 1, 32, .inl c_digest)), ((hm 30), .inl (cy 1, 8, .inl c_h)), ((hm 36), .inl (cy 1, 32, .inl c_inner)), ((hm 25), .inl (cy 1, 32, .inl c_k_145)), ((hm 33), .inl (cy 1, 64, .inl c_message)), ((hm 45), .inl (cy 1, 600, .inl c_result)), ((hm 37), .inl (cy 1, 64, .inl c_secret)), ((hm 26), .inl (cy 1, 32, .inl c_v_146)), ((hm 31), .inl (cy 1, 64, .inl c_w)), ((hm 16), .inl (cy 1, 64, .inl c_word)), ((hm 32), .inl (cy 1, 8, .inl c_x))]) := by rw [e_]; exact hD
  clear e_
  refine lv_iinc (pc := 29) (v := (i_122 + (1 : Int32))) (lv' := [(3, .int (i_122 + (1 : Int32))), (0, .ref h0), (1, .int p1), (2, .int p2)]) hx hb (zdt_at zt_X10_generate_0 18 rfl) hl (k := 3) rfl rfl (by decide) rfl ?_
  clear hl
  intro ls hl
  refine lv_goto (pc := 32) (tgt := 9) hx hb (zdt_at zt_X10_generate_0 19 rfl) (by decide) ?_
  exact hTo _ _ _ (ihself_142 _ hf H locs ls hP hD hS (lv_sub hl [1, 2, 3, 0] rfl))
set_option maxHeartbeats 4000000 in
set_option maxRecDepth 100000 in
theorem c_X10_forget (l : Launch) (D : va_G) (cy : Nat → ClassId) (tt : Nat → Nat) (sz : Nat) (h0 : Nat) (hm : Nat → Nat) (c_made : Int32) (c_taken : Nat → Int64) (c_thrown : Int32) (c_state : Int32) (c_test : Int32) (c_words : Int32) (c_ill : Int32) (c_before : Int32) (c_inRow : Int32) (c_first : Int32) (c_inWindow : Int32) (c_same : Int32) (c_requests : Int32) (c_total : Int64) (c_secrets : Int32) (c_rounds : Int32) (c_high : Int64) (c_low : Int64) (c_keyHigh : Int64) (c_keyLow : Int64) (c_made' : Int32) (c_taken' : Nat → Int64) (hf : f_X10_forget c_made c_taken = some (c_made', c_taken')) : Met l yX10_forget wsX10_forget ({ frames := 0, cells := 0, slots := 0, locals := 0 }) (zPc D cy tt sz [.ref h0] ([(h0, .inr (12, zmo hm c_thrown c_state c_test c_words c_ill c_before c_inRow c_first c_inWindow c_same c_made c_requests c_total c_secrets c_rounds c_high c_low c_keyHigh c_keyLow)), ((hm 27), .inl (cy 2, 3, .inr (.inl c_taken)))])) (zQ D none ([(h0, .inr (12, zmo hm c_thrown c_state c_test c_words c_ill c_before c_inRow c_first c_inWindow c_same c_made' c_requests c_total c_secrets c_rounds c_high c_low c_keyHigh c_keyLow)), ((hm 27), .inl (cy 2, 3, .inr (.inl c_taken')))]) (va_A ([(h0, .inr (12, zmo hm c_thrown c_state c_test c_words c_ill c_before c_inRow c_first c_inWindow c_same c_made c_requests c_total c_secrets c_rounds c_high c_low c_keyHigh c_keyLow)), ((hm 27), .inl (cy 2, 3, .inr (.inl c_taken)))]) sz)) 0 0 (va_A ([(h0, .inr (12, zmo hm c_thrown c_state c_test c_words c_ill c_before c_inRow c_first c_inWindow c_same c_made c_requests c_total c_secrets c_rounds c_high c_low c_keyHigh c_keyLow)), ((hm 27), .inl (cy 2, 3, .inr (.inl c_taken)))]) sz) := by
  refine Met.ofW (cc := cX10_forget) (maxL := 1) (ret := none) (by decide) rfl ?_
  intro p e s m args below meth c s₁ B hml hv
  obtain ⟨rfl, rfl, hP, hD0, hE⟩ := hv
  have hx := B.exec
  have hb := B.bytes
  have hr := B.returns
  have hts := atoms_spec (ws := wsX10_forget) B.pre
  have hown : s.vm.findClass RX10 = some m.cls := findClass_of_methodNamed B.named
  have hlocks := B.notSynchronized
  clear B
  have hD := hD0.self (sz := s.heap.size)
  generalize hAe : va_A ([(h0, .inr (12, zmo hm c_thrown c_state c_test c_words c_ill c_before c_inRow c_first c_inWindow c_same c_made c_requests c_total c_secrets c_rounds c_high c_low c_keyHigh c_keyLow)), ((hm 27), .inl (cy 2, 3, .inr (.inl c_taken)))]) s.heap.size = A at hD hE ⊢
  have hA : ∀ q : Nat, s.heap.size ≤ q → A q := fun q h => by rw [← hAe]; exact Or.inr h
  clear hAe hD0
  have hS : va_S A s.heap s.heap [] := va_S.rf
  have hK := hE.1
  have hw0 := hts (.fieldLink RX10 261 "SealedModuleModel" "made" "Z") (by decide +kernel)
  have hw1 := hts (.fieldLink RX10 122 "SealedModuleModel" "taken" "[J") (by decide +kernel)
  have hw2 := hts (.constantLong RX10 120 (-1)) (by decide +kernel)
  have hcX10 : ∀ w ∈ u_ws RX10 TX10 52, w ∈ wsX10_forget := (fun _ h => List.mem_cons_of_mem _ (List.mem_append_right _ h))
  have hl := lv_entry ([.ref h0]) (n := 1) (Nat.le_of_ble_eq_true rfl)
  rw [lg_entry_eq]
  generalize (lg_sl ([.ref h0]) ++ List.replicate (1 - (lg_sl ([.ref h0])).length) Slot.unset).toArray = ls at hl ⊢
  replace hl : lv_has ls 1 [(0, .ref h0)] := hl
  unfold f_X10_forget at hf
  refine zgo (fun GW hTo hFr => ?_)
  refine hFr _ _ _ ?_
  obtain ⟨H, hHe⟩ : ∃ H, H = s.heap := ⟨_, rfl⟩
  obtain ⟨locs, hLe⟩ : ∃ L : List Loc, L = [] := ⟨_, rfl⟩
  rw [← hHe] at hP
  replace hS : va_S A s.heap H locs := by rw [hHe, hLe]; exact hS
  refine zat hHe.symm hLe.symm ?_
  clear hHe hLe
  refine lv_aload_n (pc := 0) hx hb (zdt_at zt_X10_forget_0 0 rfl) rfl (lv_at hl 0 rfl) ?_
  refine lv_iconst (pc := 1) (v := (0 : Int32)) hx hb (zdt_at zt_X10_forget_0 1 rfl) (by decide) ?_
  refine va_put (pc := 2) (D := D) (ci := 12) (v := .int (0 : Int32)) (ty := .boolean) (C := RX10) (T := TX10) (N := 52) hx hb hts hcX10 tyX10 tyX10_ok nmX10 hown hK hP hD hS 0 rfl rfl 23 (by decide) hw0 (fun _ h9 => h9) rfl (by decide +kernel) (by first | rfl | decide) (by first | rfl | decide) (Nat.le_of_ble_eq_true rfl) (zdt_at zt_X10_forget_0 2 rfl) ?_
  clear hP hD hS
  intro H locs hP hD hS
  replace hP : va_P D vwCl ([(h0, .inr (12, zmo hm c_thrown c_state c_test c_words c_ill c_before c_inRow c_first c_inWindow c_same (0 : Int32) c_requests c_total c_secrets c_rounds c_high c_low c_keyHigh c_keyLow)), ((hm 27), .inl (cy 2, 3, .inr (.inl c_taken)))]) H := hP
  replace hD : va_D A ([(h0, .inr (12, zmo hm c_thrown c_state c_test c_words c_ill c_before c_inRow c_first c_inWindow c_same (0 : Int32) c_requests c_total c_secrets c_rounds c_high c_low c_keyHigh c_keyLow)), ((hm 27), .inl (cy 2, 3, .inr (.inl c_taken)))]) := hD
  refine lv_aload_n (pc := 5) hx hb (zdt_at zt_X10_forget_0 3 rfl) rfl (lv_at hl 0 rfl) ?_
  refine va_get (pc := 6) (D := D) (ci := 12) (v := .ref (hm 27)) (C := RX10) (T := TX10) (N := 52) hx hb hts hcX10 hown hK hP 0 rfl rfl 27 (by decide) hw1 (fun _ h9 => h9) rfl (zdt_at zt_X10_forget_0 4 rfl) ?_
  refine lv_iconst (pc := 9) (v := (1 : Int32)) hx hb (zdt_at zt_X10_forget_0 5 rfl) (by decide) ?_
  refine lv_ldc2 (pc := 10) hx hb hown hw2 (zdt_at zt_X10_forget_0 6 rfl) ?_
  replace hf := zk_s hf
  refine va_last (pc := 13) hx hb hK hP hD hS 1 2 rfl rfl hf.1 (zdt_at zt_X10_forget_0 7 rfl) ?_
  replace hf := hf.2
  clear hP hD hS
  intro H locs hP hD hS
  obtain ⟨c_taken_1, e_⟩ : ∃ q : Nat → Int64, q = (vp_updL c_taken (1 : Int32).toNatClampNeg (-1 : Int64)) := ⟨_, rfl⟩
  replace hf := zn_s hf e_
  replace hP : va_P D vwCl ([(h0, .inr (12, zmo hm c_thrown c_state c_test c_words c_ill c_before c_inRow c_first c_inWindow c_same (0 : Int32) c_requests c_total c_secrets c_rounds c_high c_low c_keyHigh c_keyLow)), ((hm 27), .inl (cy 2, 3, .inr (.inl c_taken_1)))]) H := by rw [e_]; exact hP
  replace hD : va_D A ([(h0, .inr (12, zmo hm c_thrown c_state c_test c_words c_ill c_before c_inRow c_first c_inWindow c_same (0 : Int32) c_requests c_total c_secrets c_rounds c_high c_low c_keyHigh c_keyLow)), ((hm 27), .inl (cy 2, 3, .inr (.inl c_taken_1)))]) := by rw [e_]; exact hD
  clear e_
  refine lv_aload_n (pc := 14) hx hb (zdt_at zt_X10_forget_0 8 rfl) rfl (lv_at hl 0 rfl) ?_
  refine va_get (pc := 15) (D := D) (ci := 12) (v := .ref (hm 27)) (C := RX10) (T := TX10) (N := 52) hx hb hts hcX10 hown hK hP 0 rfl rfl 27 (by decide) hw1 (fun _ h9 => h9) rfl (zdt_at zt_X10_forget_0 9 rfl) ?_
  refine lv_iconst (pc := 18) (v := (2 : Int32)) hx hb (zdt_at zt_X10_forget_0 10 rfl) (by decide) ?_
  refine lv_ldc2 (pc := 19) hx hb hown hw2 (zdt_at zt_X10_forget_0 11 rfl) ?_
  replace hf := zk_s hf
  refine va_last (pc := 22) hx hb hK hP hD hS 1 2 rfl rfl hf.1 (zdt_at zt_X10_forget_0 12 rfl) ?_
  replace hf := hf.2
  clear hP hD hS
  intro H locs hP hD hS
  obtain ⟨c_taken_2, e_⟩ : ∃ q : Nat → Int64, q = (vp_updL c_taken_1 (2 : Int32).toNatClampNeg (-1 : Int64)) := ⟨_, rfl⟩
  replace hf := zn_s hf e_
  replace hP : va_P D vwCl ([(h0, .inr (12, zmo hm c_thrown c_state c_test c_words c_ill c_before c_inRow c_first c_inWindow c_same (0 : Int32) c_requests c_total c_secrets c_rounds c_high c_low c_keyHigh c_keyLow)), ((hm 27), .inl (cy 2, 3, .inr (.inl c_taken_2)))]) H := by rw [e_]; exact hP
  replace hD : va_D A ([(h0, .inr (12, zmo hm c_thrown c_state c_test c_words c_ill c_before c_inRow c_first c_inWindow c_same (0 : Int32) c_requests c_total c_secrets c_rounds c_high c_low c_keyHigh c_keyLow)), ((hm 27), .inl (cy 2, 3, .inr (.inl c_taken_2)))]) := by rw [e_]; exact hD
  clear e_
  cases hf
  exact W.vret (pc := 23) hx hb hr (fun t ht hW => ⟨rfl, ⟨by rw [ht]; exact hP, hD⟩, hS.F ht⟩) hS.2.2 (zdt_at zt_X10_forget_0 13 rfl)
set_option maxHeartbeats 4000000 in
set_option maxRecDepth 100000 in
theorem c_X10_power (l : Launch) (D : va_G) (cy : Nat → ClassId) (tt : Nat → Nat) (sz : Nat) (h0 : Nat) (hm : Nat → Nat) (p1 : Int32) (c_ill : Int32) (c_inRow : Int32) (c_inWindow : Int32) (c_made : Int32) (c_state : Int32) (c_test : Int32) (c_thrown : Int32) (c_words : Int32) (c_buffer : Nat → Int32) (c_faults : Nat → Int32) (c_taken : Nat → Int64) (c_before : Int32) (c_first : Int32) (c_same : Int32) (c_requests : Int32) (c_total : Int64) (c_secrets : Int32) (c_rounds : Int32) (c_high : Int64) (c_low : Int64) (c_keyHigh : Int64) (c_keyLow : Int64) (r_ : Int32) (c_ill' : Int32) (c_inRow' : Int32) (c_inWindow' : Int32) (c_made' : Int32) (c_state' : Int32) (c_test' : Int32) (c_thrown' : Int32) (c_words' : Int32) (c_buffer' : Nat → Int32) (c_faults' : Nat → Int32) (c_taken' : Nat → Int64) (hf : f_X10_power p1 c_ill c_inRow c_inWindow c_made c_state c_test c_thrown c_words c_buffer c_faults c_taken = some (r_, c_ill', c_inRow', c_inWindow', c_made', c_state', c_test', c_thrown', c_words', c_buffer', c_faults', c_taken')) : Met l yX10_power wsX10_power ({ frames := 1, cells := 0, slots := 0, locals := 20 }) (zPc D cy tt sz [.ref h0, .int p1] ([(h0, .inr (12, zmo hm c_thrown c_state c_test c_words c_ill c_before c_inRow c_first c_inWindow c_same c_made c_requests c_total c_secrets c_rounds c_high c_low c_keyHigh c_keyLow)), ((hm 6), .inl (cy 1, 512, .inl c_buffer)), ((hm 4), .inl (cy 3, 10, .inl c_faults)), ((hm 27), .inl (cy 2, 3, .inr (.inl c_taken)))])) (zQ D (some (.int r_)) ([(h0, .inr (12, zmo hm c_thrown' c_state' c_test' c_words' c_ill' c_before c_inRow' c_first c_inWindow' c_same c_made' c_requests c_total c_secrets c_rounds c_high c_low c_keyHigh c_keyLow)), ((hm 6), .inl (cy 1, 512, .inl c_buffer')), ((hm 4), .inl (cy 3, 10, .inl c_faults')), ((hm 27), .inl (cy 2, 3, .inr (.inl c_taken')))]) (va_A ([(h0, .inr (12, zmo hm c_thrown c_state c_test c_words c_ill c_before c_inRow c_first c_inWindow c_same c_made c_requests c_total c_secrets c_rounds c_high c_low c_keyHigh c_keyLow)), ((hm 6), .inl (cy 1, 512, .inl c_buffer)), ((hm 4), .inl (cy 3, 10, .inl c_faults)), ((hm 27), .inl (cy 2, 3, .inr (.inl c_taken)))]) sz)) 0 0 (va_A ([(h0, .inr (12, zmo hm c_thrown c_state c_test c_words c_ill c_before c_inRow c_first c_inWindow c_same c_made c_requests c_total c_secrets c_rounds c_high c_low c_keyHigh c_keyLow)), ((hm 6), .inl (cy 1, 512, .inl c_buffer)), ((hm 4), .inl (cy 3, 10, .inl c_faults)), ((hm 27), .inl (cy 2, 3, .inr (.inl c_taken)))]) sz) := by
  refine Met.ofW (cc := cX10_power) (maxL := 3) (ret := (some .int)) (by decide) rfl ?_
  intro p e s m args below meth c s₁ B hml hv
  obtain ⟨rfl, rfl, hP, hD0, hE⟩ := hv
  have hx := B.exec
  have hb := B.bytes
  have hr := B.returns
  have hts := atoms_spec (ws := wsX10_power) B.pre
  have hown : s.vm.findClass RX10 = some m.cls := findClass_of_methodNamed B.named
  have hlocks := B.notSynchronized
  clear B
  have hD := hD0.self (sz := s.heap.size)
  generalize hAe : va_A ([(h0, .inr (12, zmo hm c_thrown c_state c_test c_words c_ill c_before c_inRow c_first c_inWindow c_same c_made c_requests c_total c_secrets c_rounds c_high c_low c_keyHigh c_keyLow)), ((hm 6), .inl (cy 1, 512, .inl c_buffer)), ((hm 4), .inl (cy 3, 10, .inl c_faults)), ((hm 27), .inl (cy 2, 3, .inr (.inl c_taken)))]) s.heap.size = A at hD hE ⊢
  have hA : ∀ q : Nat, s.heap.size ≤ q → A q := fun q h => by rw [← hAe]; exact Or.inr h
  clear hAe hD0
  have hS : va_S A s.heap s.heap [] := va_S.rf
  have hK := hE.1
  have hw0 := hts (.fieldLink RX10 189 "SealedModuleModel" "thrown" "I") (by decide +kernel)
  have hw1 := hts (.fieldLink RX10 273 "SealedModuleModel" "state" "I") (by decide +kernel)
  have hw2 := hts (.fieldLink RX10 254 "SealedModuleModel" "words" "I") (by decide +kernel)
  have hw3 := hts (.fieldLink RX10 257 "SealedModuleModel" "ill" "Z") (by decide +kernel)
  have hw4 := hts (.fieldLink RX10 279 "SealedModuleModel" "inRow" "I") (by decide +kernel)
  have hw5 := hts (.fieldLink RX10 282 "SealedModuleModel" "inWindow" "I") (by decide +kernel)
  have hw6 := hts (.fieldLink RX10 285 "SealedModuleModel" "test" "I") (by decide +kernel)
  have hw7 := hts (.fieldLink RX10 84 "SealedModuleModel" "buffer" "[I") (by decide +kernel)
  have hw8 := hts (.fieldLink RX10 77 "SealedModuleModel" "faults" "[Z") (by decide +kernel)
  have hcX10 : ∀ w ∈ u_ws RX10 TX10 52, w ∈ wsX10_power := (fun _ h => List.mem_cons_of_mem _ (List.mem_append_right _ h))
  have hl := lv_entry ([.ref h0, .int p1]) (n := 3) (Nat.le_of_ble_eq_true rfl)
  rw [lg_entry_eq]
  generalize (lg_sl ([.ref h0, .int p1]) ++ List.replicate (3 - (lg_sl ([.ref h0, .int p1])).length) Slot.unset).toArray = ls at hl ⊢
  replace hl : lv_has ls 3 [(0, .ref h0), (1, .int p1)] := hl
  unfold f_X10_power at hf
  refine zgo (fun GW hTo hFr => ?_)
  refine hFr _ _ _ ?_
  obtain ⟨H, hHe⟩ : ∃ H, H = s.heap := ⟨_, rfl⟩
  obtain ⟨locs, hLe⟩ : ∃ L : List Loc, L = [] := ⟨_, rfl⟩
  rw [← hHe] at hP
  replace hS : va_S A s.heap H locs := by rw [hHe, hLe]; exact hS
  refine zat hHe.symm hLe.symm ?_
  clear hHe hLe
  refine lv_aload_n (pc := 0) hx hb (zdt_at zt_X10_power_0 0 rfl) rfl (lv_at hl 0 rfl) ?_
  refine lv_iconst (pc := 1) (v := (0 : Int32)) hx hb (zdt_at zt_X10_power_0 1 rfl) (by decide) ?_
  refine va_put (pc := 2) (D := D) (ci := 12) (v := .int (0 : Int32)) (ty := .int) (C := RX10) (T := TX10) (N := 52) hx hb hts hcX10 tyX10 tyX10_ok nmX10 hown hK hP hD hS 0 rfl rfl 1 (by decide) hw0 (fun _ h9 => h9) rfl (by decide +kernel) rfl rfl (Nat.le_of_ble_eq_true rfl) (zdt_at zt_X10_power_0 2 rfl) ?_
  clear hP hD hS
  intro H locs hP hD hS
  replace hP : va_P D vwCl ([(h0, .inr (12, zmo hm (0 : Int32) c_state c_test c_words c_ill c_before c_inRow c_first c_inWindow c_same c_made c_requests c_total c_secrets c_rounds c_high c_low c_keyHigh c_keyLow)), ((hm 6), .inl (cy 1, 512, .inl c_buffer)), ((hm 4), .inl (cy 3, 10, .inl c_faults)), ((hm 27), .inl (cy 2, 3, .inr (.inl c_taken)))]) H := hP
  replace hD : va_D A ([(h0, .inr (12, zmo hm (0 : Int32) c_state c_test c_words c_ill c_before c_inRow c_first c_inWindow c_same c_made c_requests c_total c_secrets c_rounds c_high c_low c_keyHigh c_keyLow)), ((hm 6), .inl (cy 1, 512, .inl c_buffer)), ((hm 4), .inl (cy 3, 10, .inl c_faults)), ((hm 27), .inl (cy 2, 3, .inr (.inl c_taken)))]) := hD
  refine lv_aload_n (pc := 5) hx hb (zdt_at zt_X10_power_0 3 rfl) rfl (lv_at hl 0 rfl) ?_
  refine lv_iload_n (pc := 6) hx hb (zdt_at zt_X10_power_0 4 rfl) rfl (lv_at hl 1 rfl) ?_
  replace hf := zj_s hf
  obtain ⟨K_2, eK_2, hf⟩ := hf
  have kK_2 : ∀ (v_1 : Int32) (H : Heap) (locs : List Loc) (ls : Array Slot), va_P D vwCl ([(h0, .inr (12, zmo hm (0 : Int32) c_state c_test c_words c_ill c_before c_inRow c_first c_inWindow c_same c_made c_requests c_total c_secrets c_rounds c_high c_low c_keyHigh c_keyLow)), ((hm 6), .inl (cy 1, 512, .inl c_buffer)), ((hm 4), .inl (cy 3, 10, .inl c_faults)), ((hm 27), .inl (cy 2, 3, .inr (.inl c_taken)))]) H → va_D A ([(h0, .inr (12, zmo hm (0 : Int32) c_state c_test c_words c_ill c_before c_inRow c_first c_inWindow c_same c_made c_requests c_total c_secrets c_rounds c_high c_low c_keyHigh c_keyLow)), ((hm 6), .inl (cy 1, 512, .inl c_buffer)), ((hm 4), .inl (cy 3, 10, .inl c_faults)), ((hm 27), .inl (cy 2, 3, .inr (.inl c_taken)))]) → va_S A s.heap H locs → lv_has ls 3 [(0, .ref h0), (1, .int p1)] → K_2 v_1 = some (r_, c_ill', c_inRow', c_inWindow', c_made', c_state', c_test', c_thrown', c_words', c_buffer', c_faults', c_taken') → GW H locs (F0 m 15 ls [.int v_1, .ref h0]) := by
    clear hf hl hP hD hS
    intro v_1 H locs ls hP hD hS hl hf
    rw [eK_2] at hf
    clear eK_2
    refine hFr _ _ _ ?_
    refine va_put (pc := 15) (D := D) (ci := 12) (v := .int v_1) (ty := .int) (C := RX10) (T := TX10) (N := 52) hx hb hts hcX10 tyX10 tyX10_ok nmX10 hown hK hP hD hS 0 rfl rfl 2 (by decide) hw1 (fun _ h9 => h9) rfl (by decide +kernel) rfl rfl (Nat.le_of_ble_eq_true rfl) (zdt_at zt_X10_power_0 9 rfl) ?_
    clear hP hD hS
    intro H locs hP hD hS
    replace hP : va_P D vwCl ([(h0, .inr (12, zmo hm (0 : Int32) v_1 c_test c_words c_ill c_before c_inRow c_first c_inWindow c_same c_made c_requests c_total c_secrets c_rounds c_high c_low c_keyHigh c_keyLow)), ((hm 6), .inl (cy 1, 512, .inl c_buffer)), ((hm 4), .inl (cy 3, 10, .inl c_faults)), ((hm 27), .inl (cy 2, 3, .inr (.inl c_taken)))]) H := hP
    replace hD : va_D A ([(h0, .inr (12, zmo hm (0 : Int32) v_1 c_test c_words c_ill c_before c_inRow c_first c_inWindow c_same c_made c_requests c_total c_secrets c_rounds c_high c_low c_keyHigh c_keyLow)), ((hm 6), .inl (cy 1, 512, .inl c_buffer)), ((hm 4), .inl (cy 3, 10, .inl c_faults)), ((hm 27), .inl (cy 2, 3, .inr (.inl c_taken)))]) := hD
    refine lv_aload_n (pc := 18) hx hb (zdt_at zt_X10_power_0 10 rfl) rfl (lv_at hl 0 rfl) ?_
    replace hf := zb_s hf
    obtain ⟨⟨c_made_3, c_taken_4⟩, hc_, hf⟩ := hf
    refine zcn2 (pc := 19) (rv := none) (va_runV (As := []) (rest := []) ⟨hx, hb, hml, hown, hts⟩ (c_X10_forget l D cy tt H.size h0 hm c_made c_taken (0 : Int32) v_1 c_test c_words c_ill c_before c_inRow c_first c_inWindow c_same c_requests c_total c_secrets c_rounds c_high c_low c_keyHigh c_keyLow c_made_3 c_taken_4 hc_) (cwV 0 hts gX10_power_X10_forget rfl rfl rfl (by decide +kernel) ⟨Nat.le_of_ble_eq_true rfl, Nat.le_of_ble_eq_true rfl⟩) ⟨zblind, va_recv hK hP (ci := 12) (q0 := 0) rfl rfl, zpre hE hS (hP.sub [0, 3] rfl) (hD.sub [0, 3] (by decide) rfl) (va_free hD hS hA [0, 3] rfl)⟩ rfl rfl hl.1 rfl (lv_room (Nat.le_of_ble_eq_true rfl)) (zdt_at zt_X10_power_0 11 rfl) ⟨Nat.zero_le _, Nat.zero_le _⟩) hS hP hD (va_free hD hS hA [0, 3] rfl) [0, 3] rfl (by decide) rfl ?_
    clear hP hD hS hc_
    intro H locs hP hD hS
    replace hP : va_P D vwCl ([(h0, .inr (12, zmo hm (0 : Int32) v_1 c_test c_words c_ill c_before c_inRow c_first c_inWindow c_same c_made_3 c_requests c_total c_secrets c_rounds c_high c_low c_keyHigh c_keyLow)), ((hm 6), .inl (cy 1, 512, .inl c_buffer)), ((hm 4), .inl (cy 3, 10, .inl c_faults)), ((hm 27), .inl (cy 2, 3, .inr (.inl c_taken_4)))]) H := hP
    replace hD : va_D A ([(h0, .inr (12, zmo hm (0 : Int32) v_1 c_test c_words c_ill c_before c_inRow c_first c_inWindow c_same c_made_3 c_requests c_total c_secrets c_rounds c_high c_low c_keyHigh c_keyLow)), ((hm 6), .inl (cy 1, 512, .inl c_buffer)), ((hm 4), .inl (cy 3, 10, .inl c_faults)), ((hm 27), .inl (cy 2, 3, .inr (.inl c_taken_4)))]) := hD
    refine W.eq (g2 := F0 m 22 ls []) rfl ?_
    refine lv_aload_n (pc := 22) hx hb (zdt_at zt_X10_power_0 12 rfl) rfl (lv_at hl 0 rfl) ?_
    refine lv_iconst (pc := 23) (v := (0 : Int32)) hx hb (zdt_at zt_X10_power_0 13 rfl) (by decide) ?_
    refine va_put (pc := 24) (D := D) (ci := 12) (v := .int (0 : Int32)) (ty := .int) (C := RX10) (T := TX10) (N := 52) hx hb hts hcX10 tyX10 tyX10_ok nmX10 hown hK hP hD hS 0 rfl rfl 15 (by decide) hw2 (fun _ h9 => h9) rfl (by decide +kernel) rfl rfl (Nat.le_of_ble_eq_true rfl) (zdt_at zt_X10_power_0 14 rfl) ?_
    clear hP hD hS
    intro H locs hP hD hS
    replace hP : va_P D vwCl ([(h0, .inr (12, zmo hm (0 : Int32) v_1 c_test (0 : Int32) c_ill c_before c_inRow c_first c_inWindow c_same c_made_3 c_requests c_total c_secrets c_rounds c_high c_low c_keyHigh c_keyLow)), ((hm 6), .inl (cy 1, 512, .inl c_buffer)), ((hm 4), .inl (cy 3, 10, .inl c_faults)), ((hm 27), .inl (cy 2, 3, .inr (.inl c_taken_4)))]) H := hP
    replace hD : va_D A ([(h0, .inr (12, zmo hm (0 : Int32) v_1 c_test (0 : Int32) c_ill c_before c_inRow c_first c_inWindow c_same c_made_3 c_requests c_total c_secrets c_rounds c_high c_low c_keyHigh c_keyLow)), ((hm 6), .inl (cy 1, 512, .inl c_buffer)), ((hm 4), .inl (cy 3, 10, .inl c_faults)), ((hm 27), .inl (cy 2, 3, .inr (.inl c_taken_4)))]) := hD
    refine lv_aload_n (pc := 27) hx hb (zdt_at zt_X10_power_0 15 rfl) rfl (lv_at hl 0 rfl) ?_
    refine lv_iconst (pc := 28) (v := (0 : Int32)) hx hb (zdt_at zt_X10_power_0 16 rfl) (by decide) ?_
    refine va_put (pc := 29) (D := D) (ci := 12) (v := .int (0 : Int32)) (ty := .boolean) (C := RX10) (T := TX10) (N := 52) hx hb hts hcX10 tyX10 tyX10_ok nmX10 hown hK hP hD hS 0 rfl rfl 17 (by decide) hw3 (fun _ h9 => h9) rfl (by decide +kernel) (by first | rfl | decide) (by first | rfl | decide) (Nat.le_of_ble_eq_true rfl) (zdt_at zt_X10_power_0 17 rfl) ?_
    clear hP hD hS
    intro H locs hP hD hS
    replace hP : va_P D vwCl ([(h0, .inr (12, zmo hm (0 : Int32) v_1 c_test (0 : Int32) (0 : Int32) c_before c_inRow c_first c_inWindow c_same c_made_3 c_requests c_total c_secrets c_rounds c_high c_low c_keyHigh c_keyLow)), ((hm 6), .inl (cy 1, 512, .inl c_buffer)), ((hm 4), .inl (cy 3, 10, .inl c_faults)), ((hm 27), .inl (cy 2, 3, .inr (.inl c_taken_4)))]) H := hP
    replace hD : va_D A ([(h0, .inr (12, zmo hm (0 : Int32) v_1 c_test (0 : Int32) (0 : Int32) c_before c_inRow c_first c_inWindow c_same c_made_3 c_requests c_total c_secrets c_rounds c_high c_low c_keyHigh c_keyLow)), ((hm 6), .inl (cy 1, 512, .inl c_buffer)), ((hm 4), .inl (cy 3, 10, .inl c_faults)), ((hm 27), .inl (cy 2, 3, .inr (.inl c_taken_4)))]) := hD
    refine lv_aload_n (pc := 32) hx hb (zdt_at zt_X10_power_0 18 rfl) rfl (lv_at hl 0 rfl) ?_
    refine lv_iconst (pc := 33) (v := (0 : Int32)) hx hb (zdt_at zt_X10_power_0 19 rfl) (by decide) ?_
    refine va_put (pc := 34) (D := D) (ci := 12) (v := .int (0 : Int32)) (ty := .int) (C := RX10) (T := TX10) (N := 52) hx hb hts hcX10 tyX10 tyX10_ok nmX10 hown hK hP hD hS 0 rfl rfl 19 (by decide) hw4 (fun _ h9 => h9) rfl (by decide +kernel) rfl rfl (Nat.le_of_ble_eq_true rfl) (zdt_at zt_X10_power_0 20 rfl) ?_
    clear hP hD hS
    intro H locs hP hD hS
    replace hP : va_P D vwCl ([(h0, .inr (12, zmo hm (0 : Int32) v_1 c_test (0 : Int32) (0 : Int32) c_before (0 : Int32) c_first c_inWindow c_same c_made_3 c_requests c_total c_secrets c_rounds c_high c_low c_keyHigh c_keyLow)), ((hm 6), .inl (cy 1, 512, .inl c_buffer)), ((hm 4), .inl (cy 3, 10, .inl c_faults)), ((hm 27), .inl (cy 2, 3, .inr (.inl c_taken_4)))]) H := hP
    replace hD : va_D A ([(h0, .inr (12, zmo hm (0 : Int32) v_1 c_test (0 : Int32) (0 : Int32) c_before (0 : Int32) c_first c_inWindow c_same c_made_3 c_requests c_total c_secrets c_rounds c_high c_low c_keyHigh c_keyLow)), ((hm 6), .inl (cy 1, 512, .inl c_buffer)), ((hm 4), .inl (cy 3, 10, .inl c_faults)), ((hm 27), .inl (cy 2, 3, .inr (.inl c_taken_4)))]) := hD
    refine lv_aload_n (pc := 37) hx hb (zdt_at zt_X10_power_0 21 rfl) rfl (lv_at hl 0 rfl) ?_
    refine lv_iconst (pc := 38) (v := (0 : Int32)) hx hb (zdt_at zt_X10_power_0 22 rfl) (by decide) ?_
    refine va_put (pc := 39) (D := D) (ci := 12) (v := .int (0 : Int32)) (ty := .int) (C := RX10) (T := TX10) (N := 52) hx hb hts hcX10 tyX10 tyX10_ok nmX10 hown hK hP hD hS 0 rfl rfl 21 (by decide) hw5 (fun _ h9 => h9) rfl (by decide +kernel) rfl rfl (Nat.le_of_ble_eq_true rfl) (zdt_at zt_X10_power_0 23 rfl) ?_
    clear hP hD hS
    intro H locs hP hD hS
    replace hP : va_P D vwCl ([(h0, .inr (12, zmo hm (0 : Int32) v_1 c_test (0 : Int32) (0 : Int32) c_before (0 : Int32) c_first (0 : Int32) c_same c_made_3 c_requests c_total c_secrets c_rounds c_high c_low c_keyHigh c_keyLow)), ((hm 6), .inl (cy 1, 512, .inl c_buffer)), ((hm 4), .inl (cy 3, 10, .inl c_faults)), ((hm 27), .inl (cy 2, 3, .inr (.inl c_taken_4)))]) H := hP
    replace hD : va_D A ([(h0, .inr (12, zmo hm (0 : Int32) v_1 c_test (0 : Int32) (0 : Int32) c_before (0 : Int32) c_first (0 : Int32) c_same c_made_3 c_requests c_total c_secrets c_rounds c_high c_low c_keyHigh c_keyLow)), ((hm 6), .inl (cy 1, 512, .inl c_buffer)), ((hm 4), .inl (cy 3, 10, .inl c_faults)), ((hm 27), .inl (cy 2, 3, .inr (.inl c_taken_4)))]) := hD
    refine lv_iload_n (pc := 42) hx hb (zdt_at zt_X10_power_0 24 rfl) rfl (lv_at hl 1 rfl) ?_
    refine lv_if_ne (pc := 43) (tgt := 51) hx hb (zdt_at zt_X10_power_0 25 rfl) (by decide) (fun cn_ => ?t_5) (fun cn_ => ?f_6)
    case f_6 =>
      replace hf := zt_s cn_ hf
      clear cn_
      refine lv_aload_n (pc := 46) hx hb (zdt_at zt_X10_power_0 26 rfl) rfl (lv_at hl 0 rfl) ?_
      refine va_get (pc := 47) (D := D) (ci := 12) (v := .int v_1) (C := RX10) (T := TX10) (N := 52) hx hb hts hcX10 hown hK hP 0 rfl rfl 2 (by decide) hw1 (fun _ h9 => h9) rfl (zdt_at zt_X10_power_0 27 rfl) ?_
      cases hf
      exact W.iret (pc := 50) hx hb hr (fun t ht hW => ⟨rfl, ⟨by rw [ht]; exact hP, hD⟩, hS.F ht⟩) hS.2.2 (zdt_at zt_X10_power_0 28 rfl)
    replace hf := ze_s cn_ hf
    clear cn_
    refine lv_aload_n (pc := 51) hx hb (zdt_at zt_X10_power_0 29 rfl) rfl (lv_at hl 0 rfl) ?_
    refine lv_iconst (pc := 52) (v := (0 : Int32)) hx hb (zdt_at zt_X10_power_0 30 rfl) (by decide) ?_
    refine va_put (pc := 53) (D := D) (ci := 12) (v := .int (0 : Int32)) (ty := .int) (C := RX10) (T := TX10) (N := 52) hx hb hts hcX10 tyX10 tyX10_ok nmX10 hown hK hP hD hS 0 rfl rfl 3 (by decide) hw6 (fun _ h9 => h9) rfl (by decide +kernel) rfl rfl (Nat.le_of_ble_eq_true rfl) (zdt_at zt_X10_power_0 31 rfl) ?_
    clear hP hD hS
    intro H locs hP hD hS
    replace hP : va_P D vwCl ([(h0, .inr (12, zmo hm (0 : Int32) v_1 (0 : Int32) (0 : Int32) (0 : Int32) c_before (0 : Int32) c_first (0 : Int32) c_same c_made_3 c_requests c_total c_secrets c_rounds c_high c_low c_keyHigh c_keyLow)), ((hm 6), .inl (cy 1, 512, .inl c_buffer)), ((hm 4), .inl (cy 3, 10, .inl c_faults)), ((hm 27), .inl (cy 2, 3, .inr (.inl c_taken_4)))]) H := hP
    replace hD : va_D A ([(h0, .inr (12, zmo hm (0 : Int32) v_1 (0 : Int32) (0 : Int32) (0 : Int32) c_before (0 : Int32) c_first (0 : Int32) c_same c_made_3 c_requests c_total c_secrets c_rounds c_high c_low c_keyHigh c_keyLow)), ((hm 6), .inl (cy 1, 512, .inl c_buffer)), ((hm 4), .inl (cy 3, 10, .inl c_faults)), ((hm 27), .inl (cy 2, 3, .inr (.inl c_taken_4)))]) := hD
    refine lv_iconst (pc := 56) (v := (0 : Int32)) hx hb (zdt_at zt_X10_power_0 32 rfl) (by decide) ?_
    refine lv_istore_n (pc := 57) (lv' := [(2, .int (0 : Int32)), (0, .ref h0), (1, .int p1)]) hx hb (zdt_at zt_X10_power_0 33 rfl) rfl hl (by decide) rfl ?_
    clear hl
    intro ls hl
    replace hf := zj_s hf
    obtain ⟨K_10, eK_10, hf⟩ := hf
    have kK_10 : ∀ (c_faults_9 : Nat → Int32) (H : Heap) (locs : List Loc) (ls : Array Slot), va_P D vwCl ([(h0, .inr (12, zmo hm (0 : Int32) v_1 (0 : Int32) (0 : Int32) (0 : Int32) c_before (0 : Int32) c_first (0 : Int32) c_same c_made_3 c_requests c_total c_secrets c_rounds c_high c_low c_keyHigh c_keyLow)), ((hm 6), .inl (cy 1, 512, .inl c_buffer)), ((hm 4), .inl (cy 3, 10, .inl c_faults_9)), ((hm 27), .inl (cy 2, 3, .inr (.inl c_taken_4)))]) H → va_D A ([(h0, .inr (12, zmo hm (0 : Int32) v_1 (0 : Int32) (0 : Int32) (0 : Int32) c_before (0 : Int32) c_first (0 : Int32) c_same c_made_3 c_requests c_total c_secrets c_rounds c_high c_low c_keyHigh c_keyLow)), ((hm 6), .inl (cy 1, 512, .inl c_buffer)), ((hm 4), .inl (cy 3, 10, .inl c_faults_9)), ((hm 27), .inl (cy 2, 3, .inr (.inl c_taken_4)))]) → va_S A s.heap H locs → lv_has ls 3 [(0, .ref h0)] → K_10 c_faults_9 = some (r_, c_ill', c_inRow', c_inWindow', c_made', c_state', c_test', c_thrown', c_words', c_buffer', c_faults', c_taken') → GW H locs (F0 m 77 ls []) := by
      clear hf hl hP hD hS
      intro c_faults_9 H locs ls hP hD hS hl hf
      rw [eK_10] at hf
      clear eK_10
      refine hFr _ _ _ ?_
      refine lv_iconst (pc := 77) (v := (0 : Int32)) hx hb (zdt_at zt_X10_power_0 44 rfl) (by decide) ?_
      refine lv_istore_n (pc := 78) (lv' := [(2, .int (0 : Int32)), (0, .ref h0)]) hx hb (zdt_at zt_X10_power_0 45 rfl) rfl hl (by decide) rfl ?_
      clear hl
      intro ls hl
      replace hf := zj_s hf
      obtain ⟨K_14, eK_14, hf⟩ := hf
      have kK_14 : ∀ (c_buffer_13 : Nat → Int32) (H : Heap) (locs : List Loc) (ls : Array Slot), va_P D vwCl ([(h0, .inr (12, zmo hm (0 : Int32) v_1 (0 : Int32) (0 : Int32) (0 : Int32) c_before (0 : Int32) c_first (0 : Int32) c_same c_made_3 c_requests c_total c_secrets c_rounds c_high c_low c_keyHigh c_keyLow)), ((hm 6), .inl (cy 1, 512, .inl c_buffer_13)), ((hm 4), .inl (cy 3, 10, .inl c_faults_9)), ((hm 27), .inl (cy 2, 3, .inr (.inl c_taken_4)))]) H → va_D A ([(h0, .inr (12, zmo hm (0 : Int32) v_1 (0 : Int32) (0 : Int32) (0 : Int32) c_before (0 : Int32) c_first (0 : Int32) c_same c_made_3 c_requests c_total c_secrets c_rounds c_high c_low c_keyHigh c_keyLow)), ((hm 6), .inl (cy 1, 512, .inl c_buffer_13)), ((hm 4), .inl (cy 3, 10, .inl c_faults_9)), ((hm 27), .inl (cy 2, 3, .inr (.inl c_taken_4)))]) → va_S A s.heap H locs → lv_has ls 3 [(0, .ref h0)] → K_14 c_buffer_13 = some (r_, c_ill', c_inRow', c_inWindow', c_made', c_state', c_test', c_thrown', c_words', c_buffer', c_faults', c_taken') → GW H locs (F0 m 99 ls []) := by
        clear hf hl hP hD hS
        intro c_buffer_13 H locs ls hP hD hS hl hf
        rw [eK_14] at hf
        clear eK_14
        refine hFr _ _ _ ?_
        refine lv_aload_n (pc := 99) hx hb (zdt_at zt_X10_power_0 56 rfl) rfl (lv_at hl 0 rfl) ?_
        refine va_get (pc := 100) (D := D) (ci := 12) (v := .int v_1) (C := RX10) (T := TX10) (N := 52) hx hb hts hcX10 hown hK hP 0 rfl rfl 2 (by decide) hw1 (fun _ h9 => h9) rfl (zdt_at zt_X10_power_0 57 rfl) ?_
        cases hf
        exact W.iret (pc := 103) hx hb hr (fun t ht hW => ⟨rfl, ⟨by rw [ht]; exact hP, hD⟩, hS.F ht⟩) hS.2.2 (zdt_at zt_X10_power_0 58 rfl)
      clear eK_14
      refine hTo _ _ _ (zl_go (fun z => match z with | (i_11, c_buffer_12) => ∀ (H : Heap) (locs : List Loc) (ls : Array Slot), va_P D vwCl ([(h0, .inr (12, zmo hm (0 : Int32) v_1 (0 : Int32) (0 : Int32) (0 : Int32) c_before (0 : Int32) c_first (0 : Int32) c_same c_made_3 c_requests c_total c_secrets c_rounds c_high c_low c_keyHigh c_keyLow)), ((hm 6), .inl (cy 1, 512, .inl c_buffer_12)), ((hm 4), .inl (cy 3, 10, .inl c_faults_9)), ((hm 27), .inl (cy 2, 3, .inr (.inl c_taken_4)))]) H → va_D A ([(h0, .inr (12, zmo hm (0 : Int32) v_1 (0 : Int32) (0 : Int32) (0 : Int32) c_before (0 : Int32) c_first (0 : Int32) c_same c_made_3 c_requests c_total c_secrets c_rounds c_high c_low c_keyHigh c_keyLow)), ((hm 6), .inl (cy 1, 512, .inl c_buffer_12)), ((hm 4), .inl (cy 3, 10, .inl c_faults_9)), ((hm 27), .inl (cy 2, 3, .inr (.inl c_taken_4)))]) → va_S A s.heap H locs → lv_has ls 3 [(0, .ref h0), (2, .int i_11)] → GW H locs (F0 m 79 ls [])) hf ?_ H locs ls hP hD hS (lv_sub hl [1, 0] rfl))
      clear hf hl hP hD hS
      intro self_15 ihself_15 z hf
      obtain ⟨i_11, c_buffer_12⟩ := z
      intro H locs ls hP hD hS hl
      refine hFr _ _ _ ?_
      unfold b_X10_power_79 at hf
      refine lv_iload_n (pc := 79) hx hb (zdt_at zt_X10_power_0 46 rfl) rfl (lv_at hl 1 rfl) ?_
      refine lv_sipush (pc := 80) (v := (512 : Int32)) hx hb (zdt_at zt_X10_power_0 47 rfl) (by decide) ?_
      refine lv_icmp_ge (pc := 83) (tgt := 99) hx hb (zdt_at zt_X10_power_0 48 rfl) (by decide) (fun cn_ => ?t_16) (fun cn_ => ?f_17)
      case t_16 =>
        replace hf := zt_s cn_ hf
        clear cn_
        exact hTo _ _ _ (kK_14 _ H locs ls hP hD hS (lv_sub hl [0] rfl) hf)
      replace hf := ze_s cn_ hf
      clear cn_
      refine lv_aload_n (pc := 86) hx hb (zdt_at zt_X10_power_0 49 rfl) rfl (lv_at hl 0 rfl) ?_
      refine va_get (pc := 87) (D := D) (ci := 12) (v := .ref (hm 6)) (C := RX10) (T := TX10) (N := 52) hx hb hts hcX10 hown hK hP 0 rfl rfl 6 (by decide) hw7 (fun _ h9 => h9) rfl (zdt_at zt_X10_power_0 50 rfl) ?_
      refine lv_iload_n (pc := 90) hx hb (zdt_at zt_X10_power_0 51 rfl) rfl (lv_at hl 1 rfl) ?_
      refine lv_iconst (pc := 91) (v := (0 : Int32)) hx hb (zdt_at zt_X10_power_0 52 rfl) (by decide) ?_
      replace hf := zk_s hf
      refine va_iast (pc := 92) hx hb hK hP hD hS 1 1 rfl rfl hf.1 (zdt_at zt_X10_power_0 53 rfl) ?_
      replace hf := hf.2
      clear hP hD hS
      intro H locs hP hD hS
      obtain ⟨c_buffer_18, e_⟩ : ∃ q : Nat → Int32, q = (upd c_buffer_12 i_11.toNatClampNeg (0 : Int32)) := ⟨_, rfl⟩
      replace hf := zn_s hf e_
      replace hP : va_P D vwCl ([(h0, .inr (12, zmo hm (0 : Int32) v_1 (0 : Int32) (0 : Int32) (0 : Int32) c_before (0 : Int32) c_first (0 : Int32) c_same c_made_3 c_requests c_total c_secrets c_rounds c_high c_low c_keyHigh c_keyLow)), ((hm 6), .inl (cy 1, 512, .inl c_buffer_18)), ((hm 4), .inl (cy 3, 10, .inl c_faults_9)), ((hm 27), .inl (cy 2, 3, .inr (.inl c_taken_4)))]) H := by rw [e_]; exact hP
      replace hD : va_D A ([(h0, .inr (12, zmo hm (0 : Int32) v_1 (0 : Int32) (0 : Int32) (0 : Int32) c_before (0 : Int32) c_first (0 : Int32) c_same c_made_3 c_requests c_total c_secrets c_rounds c_high c_low c_keyHigh c_keyLow)), ((hm 6), .inl (cy 1, 512, .inl c_buffer_18)), ((hm 4), .inl (cy 3, 10, .inl c_faults_9)), ((hm 27), .inl (cy 2, 3, .inr (.inl c_taken_4)))]) := by rw [e_]; exact hD
      clear e_
      refine lv_iinc (pc := 93) (v := (i_11 + (1 : Int32))) (lv' := [(2, .int (i_11 + (1 : Int32))), (0, .ref h0)]) hx hb (zdt_at zt_X10_power_0 54 rfl) hl (k := 1) rfl rfl (by decide) rfl ?_
      clear hl
      intro ls hl
      refine lv_goto (pc := 96) (tgt := 79) hx hb (zdt_at zt_X10_power_0 55 rfl) (by decide) ?_
      exact hTo _ _ _ (ihself_15 _ hf H locs ls hP hD hS (lv_sub hl [1, 0] rfl))
    clear eK_10
    refine hTo _ _ _ (zl_go (fun z => match z with | (i_7, c_faults_8) => ∀ (H : Heap) (locs : List Loc) (ls : Array Slot), va_P D vwCl ([(h0, .inr (12, zmo hm (0 : Int32) v_1 (0 : Int32) (0 : Int32) (0 : Int32) c_before (0 : Int32) c_first (0 : Int32) c_same c_made_3 c_requests c_total c_secrets c_rounds c_high c_low c_keyHigh c_keyLow)), ((hm 6), .inl (cy 1, 512, .inl c_buffer)), ((hm 4), .inl (cy 3, 10, .inl c_faults_8)), ((hm 27), .inl (cy 2, 3, .inr (.inl c_taken_4)))]) H → va_D A ([(h0, .inr (12, zmo hm (0 : Int32) v_1 (0 : Int32) (0 : Int32) (0 : Int32) c_before (0 : Int32) c_first (0 : Int32) c_same c_made_3 c_requests c_total c_secrets c_rounds c_high c_low c_keyHigh c_keyLow)), ((hm 6), .inl (cy 1, 512, .inl c_buffer)), ((hm 4), .inl (cy 3, 10, .inl c_faults_8)), ((hm 27), .inl (cy 2, 3, .inr (.inl c_taken_4)))]) → va_S A s.heap H locs → lv_has ls 3 [(0, .ref h0), (2, .int i_7)] → GW H locs (F0 m 58 ls [])) hf ?_ H locs ls hP hD hS (lv_sub hl [1, 0] rfl))
    clear hf hl hP hD hS
    intro self_19 ihself_19 z hf
    obtain ⟨i_7, c_faults_8⟩ := z
    intro H locs ls hP hD hS hl
    refine hFr _ _ _ ?_
    unfold b_X10_power_58 at hf
    refine lv_iload_n (pc := 58) hx hb (zdt_at zt_X10_power_0 34 rfl) rfl (lv_at hl 1 rfl) ?_
    refine lv_bipush (pc := 59) (v := (10 : Int32)) hx hb (zdt_at zt_X10_power_0 35 rfl) (by decide) ?_
    refine lv_icmp_ge (pc := 61) (tgt := 77) hx hb (zdt_at zt_X10_power_0 36 rfl) (by decide) (fun cn_ => ?t_20) (fun cn_ => ?f_21)
    case t_20 =>
      replace hf := zt_s cn_ hf
      clear cn_
      exact hTo _ _ _ (kK_10 _ H locs ls hP hD hS (lv_sub hl [0] rfl) hf)
    replace hf := ze_s cn_ hf
    clear cn_
    refine lv_aload_n (pc := 64) hx hb (zdt_at zt_X10_power_0 37 rfl) rfl (lv_at hl 0 rfl) ?_
    refine va_get (pc := 65) (D := D) (ci := 12) (v := .ref (hm 4)) (C := RX10) (T := TX10) (N := 52) hx hb hts hcX10 hown hK hP 0 rfl rfl 4 (by decide) hw8 (fun _ h9 => h9) rfl (zdt_at zt_X10_power_0 38 rfl) ?_
    refine lv_iload_n (pc := 68) hx hb (zdt_at zt_X10_power_0 39 rfl) rfl (lv_at hl 1 rfl) ?_
    refine lv_iconst (pc := 69) (v := (0 : Int32)) hx hb (zdt_at zt_X10_power_0 40 rfl) (by decide) ?_
    replace hf := zk_s hf
    refine va_zast (pc := 70) hx hb hK hP hD hS 2 3 rfl rfl hf.1 (zdt_at zt_X10_power_0 41 rfl) ?_
    replace hf := hf.2
    clear hP hD hS
    intro H locs hP hD hS
    obtain ⟨c_faults_22, e_⟩ : ∃ q : Nat → Int32, q = (upd c_faults_8 i_7.toNatClampNeg (vp_nar .boolean (0 : Int32))) := ⟨_, rfl⟩
    replace hf := zn_s hf e_
    replace hP : va_P D vwCl ([(h0, .inr (12, zmo hm (0 : Int32) v_1 (0 : Int32) (0 : Int32) (0 : Int32) c_before (0 : Int32) c_first (0 : Int32) c_same c_made_3 c_requests c_total c_secrets c_rounds c_high c_low c_keyHigh c_keyLow)), ((hm 6), .inl (cy 1, 512, .inl c_buffer)), ((hm 4), .inl (cy 3, 10, .inl c_faults_22)), ((hm 27), .inl (cy 2, 3, .inr (.inl c_taken_4)))]) H := by rw [e_]; exact hP
    replace hD : va_D A ([(h0, .inr (12, zmo hm (0 : Int32) v_1 (0 : Int32) (0 : Int32) (0 : Int32) c_before (0 : Int32) c_first (0 : Int32) c_same c_made_3 c_requests c_total c_secrets c_rounds c_high c_low c_keyHigh c_keyLow)), ((hm 6), .inl (cy 1, 512, .inl c_buffer)), ((hm 4), .inl (cy 3, 10, .inl c_faults_22)), ((hm 27), .inl (cy 2, 3, .inr (.inl c_taken_4)))]) := by rw [e_]; exact hD
    clear e_
    refine lv_iinc (pc := 71) (v := (i_7 + (1 : Int32))) (lv' := [(2, .int (i_7 + (1 : Int32))), (0, .ref h0)]) hx hb (zdt_at zt_X10_power_0 42 rfl) hl (k := 1) rfl rfl (by decide) rfl ?_
    clear hl
    intro ls hl
    refine lv_goto (pc := 74) (tgt := 58) hx hb (zdt_at zt_X10_power_0 43 rfl) (by decide) ?_
    exact hTo _ _ _ (ihself_19 _ hf H locs ls hP hD hS (lv_sub hl [1, 0] rfl))
  clear eK_2
  refine lv_if_eq (pc := 7) (tgt := 14) hx hb (zdt_at zt_X10_power_0 5 rfl) (by decide) (fun cn_ => ?t_23) (fun cn_ => ?f_24)
  case t_23 =>
    replace hf := zt_s cn_ hf
    clear cn_
    refine lv_iconst (pc := 14) (v := (0 : Int32)) hx hb (zdt_at zt_X10_power_0 8 rfl) (by decide) ?_
    exact hTo _ _ _ (kK_2 _ H locs ls hP hD hS (lv_sub hl [0, 1] rfl) hf)
  replace hf := ze_s cn_ hf
  clear cn_
  refine lv_iconst (pc := 10) (v := (1 : Int32)) hx hb (zdt_at zt_X10_power_0 6 rfl) (by decide) ?_
  refine lv_goto (pc := 11) (tgt := 15) hx hb (zdt_at zt_X10_power_0 7 rfl) (by decide) ?_
  exact hTo _ _ _ (kK_2 _ H locs ls hP hD hS (lv_sub hl [0, 1] rfl) hf)
set_option maxHeartbeats 4000000 in
set_option maxRecDepth 100000 in
theorem c_X10_selfTestStep (l : Launch) (D : va_G) (cy : Nat → ClassId) (tt : Nat → Nat) (sz : Nat) (h0 : Nat) (hm : Nat → Nat) (p1 : Int32) (c_state : Int32) (c_test : Int32) (c_thrown : Int32) (c_counters : Nat → Int32) (c_faults : Nat → Int32) (c_words : Int32) (c_ill : Int32) (c_before : Int32) (c_inRow : Int32) (c_first : Int32) (c_inWindow : Int32) (c_same : Int32) (c_made : Int32) (c_requests : Int32) (c_total : Int64) (c_secrets : Int32) (c_rounds : Int32) (c_high : Int64) (c_low : Int64) (c_keyHigh : Int64) (c_keyLow : Int64) (r_ : Int32) (c_state' : Int32) (c_test' : Int32) (c_thrown' : Int32) (c_counters' : Nat → Int32) (hf : f_X10_selfTestStep p1 c_state c_test c_thrown c_counters c_faults = some (r_, c_state', c_test', c_thrown', c_counters')) : Met l yX10_selfTestStep wsX10_selfTestStep ({ frames := 1, cells := 0, slots := 0, locals := 22 }) (zPc D cy tt sz [.ref h0, .int p1] ([(h0, .inr (12, zmo hm c_thrown c_state c_test c_words c_ill c_before c_inRow c_first c_inWindow c_same c_made c_requests c_total c_secrets c_rounds c_high c_low c_keyHigh c_keyLow)), ((hm 5), .inl (cy 1, 3, .inl c_counters)), ((hm 4), .inl (cy 3, 10, .inl c_faults))])) (zQ D (some (.int r_)) ([(h0, .inr (12, zmo hm c_thrown' c_state' c_test' c_words c_ill c_before c_inRow c_first c_inWindow c_same c_made c_requests c_total c_secrets c_rounds c_high c_low c_keyHigh c_keyLow)), ((hm 5), .inl (cy 1, 3, .inl c_counters')), ((hm 4), .inl (cy 3, 10, .inl c_faults))]) (va_A ([(h0, .inr (12, zmo hm c_thrown c_state c_test c_words c_ill c_before c_inRow c_first c_inWindow c_same c_made c_requests c_total c_secrets c_rounds c_high c_low c_keyHigh c_keyLow)), ((hm 5), .inl (cy 1, 3, .inl c_counters)), ((hm 4), .inl (cy 3, 10, .inl c_faults))]) sz)) 0 0 (va_A ([(h0, .inr (12, zmo hm c_thrown c_state c_test c_words c_ill c_before c_inRow c_first c_inWindow c_same c_made c_requests c_total c_secrets c_rounds c_high c_low c_keyHigh c_keyLow)), ((hm 5), .inl (cy 1, 3, .inl c_counters)), ((hm 4), .inl (cy 3, 10, .inl c_faults))]) sz) := by
  refine Met.ofW (cc := cX10_selfTestStep) (maxL := 3) (ret := (some .int)) (by decide) rfl ?_
  intro p e s m args below meth c s₁ B hml hv
  obtain ⟨rfl, rfl, hP, hD0, hE⟩ := hv
  have hx := B.exec
  have hb := B.bytes
  have hr := B.returns
  have hts := atoms_spec (ws := wsX10_selfTestStep) B.pre
  have hown : s.vm.findClass RX10 = some m.cls := findClass_of_methodNamed B.named
  have hlocks := B.notSynchronized
  clear B
  have hD := hD0.self (sz := s.heap.size)
  generalize hAe : va_A ([(h0, .inr (12, zmo hm c_thrown c_state c_test c_words c_ill c_before c_inRow c_first c_inWindow c_same c_made c_requests c_total c_secrets c_rounds c_high c_low c_keyHigh c_keyLow)), ((hm 5), .inl (cy 1, 3, .inl c_counters)), ((hm 4), .inl (cy 3, 10, .inl c_faults))]) s.heap.size = A at hD hE ⊢
  have hA : ∀ q : Nat, s.heap.size ≤ q → A q := fun q h => by rw [← hAe]; exact Or.inr h
  clear hAe hD0
  have hS : va_S A s.heap s.heap [] := va_S.rf
  have hK := hE.1
  have hw0 := hts (.fieldLink RX10 189 "SealedModuleModel" "thrown" "I") (by decide +kernel)
  have hw1 := hts (.fieldLink RX10 273 "SealedModuleModel" "state" "I") (by decide +kernel)
  have hw2 := hts (.fieldLink RX10 285 "SealedModuleModel" "test" "I") (by decide +kernel)
  have hw3 := hts (.fieldLink RX10 77 "SealedModuleModel" "faults" "[Z") (by decide +kernel)
  have hw4 := hts (.fieldLink RX10 81 "SealedModuleModel" "counters" "[I") (by decide +kernel)
  have hcX10 : ∀ w ∈ u_ws RX10 TX10 52, w ∈ wsX10_selfTestStep := (fun _ h => List.mem_cons_of_mem _ (List.mem_append_right _ h))
  have hl := lv_entry ([.ref h0, .int p1]) (n := 3) (Nat.le_of_ble_eq_true rfl)
  rw [lg_entry_eq]
  generalize (lg_sl ([.ref h0, .int p1]) ++ List.replicate (3 - (lg_sl ([.ref h0, .int p1])).length) Slot.unset).toArray = ls at hl ⊢
  replace hl : lv_has ls 3 [(0, .ref h0), (1, .int p1)] := hl
  unfold f_X10_selfTestStep at hf
  refine zgo (fun GW hTo hFr => ?_)
  refine hFr _ _ _ ?_
  obtain ⟨H, hHe⟩ : ∃ H, H = s.heap := ⟨_, rfl⟩
  obtain ⟨locs, hLe⟩ : ∃ L : List Loc, L = [] := ⟨_, rfl⟩
  rw [← hHe] at hP
  replace hS : va_S A s.heap H locs := by rw [hHe, hLe]; exact hS
  refine zat hHe.symm hLe.symm ?_
  clear hHe hLe
  refine lv_aload_n (pc := 0) hx hb (zdt_at zt_X10_selfTestStep_0 0 rfl) rfl (lv_at hl 0 rfl) ?_
  refine lv_iconst (pc := 1) (v := (0 : Int32)) hx hb (zdt_at zt_X10_selfTestStep_0 1 rfl) (by decide) ?_
  refine va_put (pc := 2) (D := D) (ci := 12) (v := .int (0 : Int32)) (ty := .int) (C := RX10) (T := TX10) (N := 52) hx hb hts hcX10 tyX10 tyX10_ok nmX10 hown hK hP hD hS 0 rfl rfl 1 (by decide) hw0 (fun _ h9 => h9) rfl (by decide +kernel) rfl rfl (Nat.le_of_ble_eq_true rfl) (zdt_at zt_X10_selfTestStep_0 2 rfl) ?_
  clear hP hD hS
  intro H locs hP hD hS
  replace hP : va_P D vwCl ([(h0, .inr (12, zmo hm (0 : Int32) c_state c_test c_words c_ill c_before c_inRow c_first c_inWindow c_same c_made c_requests c_total c_secrets c_rounds c_high c_low c_keyHigh c_keyLow)), ((hm 5), .inl (cy 1, 3, .inl c_counters)), ((hm 4), .inl (cy 3, 10, .inl c_faults))]) H := hP
  replace hD : va_D A ([(h0, .inr (12, zmo hm (0 : Int32) c_state c_test c_words c_ill c_before c_inRow c_first c_inWindow c_same c_made c_requests c_total c_secrets c_rounds c_high c_low c_keyHigh c_keyLow)), ((hm 5), .inl (cy 1, 3, .inl c_counters)), ((hm 4), .inl (cy 3, 10, .inl c_faults))]) := hD
  refine lv_iload_n (pc := 5) hx hb (zdt_at zt_X10_selfTestStep_0 3 rfl) rfl (lv_at hl 1 rfl) ?_
  refine lv_iconst (pc := 6) (v := (0 : Int32)) hx hb (zdt_at zt_X10_selfTestStep_0 4 rfl) (by decide) ?_
  refine lv_bipush (pc := 7) (v := (10 : Int32)) hx hb (zdt_at zt_X10_selfTestStep_0 5 rfl) (by decide) ?_
  replace hf := zb_s hf
  obtain ⟨r_1, hc_, hf⟩ := hf
  refine zcs (pc := 9) (rv := (some (.int r_1))) (va_runS (As := [.int p1, .int (0 : Int32), .int (10 : Int32)]) (rest := []) ⟨hx, hb, hml, hown, hts⟩ (c_X10_in l D cy tt H.size p1 (0 : Int32) (10 : Int32) r_1 hc_) (va_cwS 3 hts gX10_selfTestStep_X10_in rfl rfl rfl (by decide +kernel) ⟨Nat.le_of_ble_eq_true rfl, Nat.le_of_ble_eq_true rfl⟩) ⟨zblind, zpre hE hS (hP.sub [] rfl) (hD.sub [] (by decide) rfl) (va_free hD hS hA [] rfl)⟩ rfl rfl hl.1 rfl (lv_room (Nat.le_of_ble_eq_true rfl)) (zdt_at zt_X10_selfTestStep_0 6 rfl) ⟨Nat.zero_le _, Nat.zero_le _⟩) ?_
  clear hc_
  refine W.eq (g2 := F0 m 12 ls [.int r_1]) rfl ?_
  refine lv_if_eq (pc := 12) (tgt := 31) hx hb (zdt_at zt_X10_selfTestStep_0 7 rfl) (by decide) (fun cn_ => ?t_2) (fun cn_ => ?f_3)
  case t_2 =>
    replace hf := zt_s cn_ hf
    clear cn_
    refine lv_bipush (pc := 31) (v := (-2 : Int32)) hx hb (zdt_at zt_X10_selfTestStep_0 16 rfl) (by decide) ?_
    cases hf
    exact W.iret (pc := 33) hx hb hr (fun t ht hW => ⟨rfl, ⟨by rw [ht]; exact hP, hD⟩, hS.F ht⟩) hS.2.2 (zdt_at zt_X10_selfTestStep_0 17 rfl)
  replace hf := ze_s cn_ hf
  clear cn_
  refine lv_aload_n (pc := 15) hx hb (zdt_at zt_X10_selfTestStep_0 8 rfl) rfl (lv_at hl 0 rfl) ?_
  refine va_get (pc := 16) (D := D) (ci := 12) (v := .int c_state) (C := RX10) (T := TX10) (N := 52) hx hb hts hcX10 hown hK hP 0 rfl rfl 2 (by decide) hw1 (fun _ h9 => h9) rfl (zdt_at zt_X10_selfTestStep_0 9 rfl) ?_
  refine lv_iconst (pc := 19) (v := (1 : Int32)) hx hb (zdt_at zt_X10_selfTestStep_0 10 rfl) (by decide) ?_
  replace hf := zj_s hf
  obtain ⟨K_4, eK_4, hf⟩ := hf
  have kK_4 : ∀  (H : Heap) (locs : List Loc) (ls : Array Slot), va_P D vwCl ([(h0, .inr (12, zmo hm (0 : Int32) c_state c_test c_words c_ill c_before c_inRow c_first c_inWindow c_same c_made c_requests c_total c_secrets c_rounds c_high c_low c_keyHigh c_keyLow)), ((hm 5), .inl (cy 1, 3, .inl c_counters)), ((hm 4), .inl (cy 3, 10, .inl c_faults))]) H → va_D A ([(h0, .inr (12, zmo hm (0 : Int32) c_state c_test c_words c_ill c_before c_inRow c_first c_inWindow c_same c_made c_requests c_total c_secrets c_rounds c_high c_low c_keyHigh c_keyLow)), ((hm 5), .inl (cy 1, 3, .inl c_counters)), ((hm 4), .inl (cy 3, 10, .inl c_faults))]) → va_S A s.heap H locs → lv_has ls 3 [(0, .ref h0), (1, .int p1)] → K_4 () = some (r_, c_state', c_test', c_thrown', c_counters') → GW H locs (F0 m 34 ls []) := by
    clear hf hl hP hD hS
    intro  H locs ls hP hD hS hl hf
    rw [eK_4] at hf
    clear eK_4
    refine hFr _ _ _ ?_
    refine lv_iconst (pc := 34) (v := (0 : Int32)) hx hb (zdt_at zt_X10_selfTestStep_0 18 rfl) (by decide) ?_
    refine lv_istore_n (pc := 35) (lv' := [(2, .int (0 : Int32)), (0, .ref h0), (1, .int p1)]) hx hb (zdt_at zt_X10_selfTestStep_0 19 rfl) rfl hl (by decide) rfl ?_
    clear hl
    intro ls hl
    replace hf := zj_s hf
    obtain ⟨K_12, eK_12, hf⟩ := hf
    have kK_12 : ∀ (c_counters_9 : Nat → Int32) (c_state_10 : Int32) (c_test_11 : Int32) (H : Heap) (locs : List Loc) (ls : Array Slot), va_P D vwCl ([(h0, .inr (12, zmo hm (0 : Int32) c_state_10 c_test_11 c_words c_ill c_before c_inRow c_first c_inWindow c_same c_made c_requests c_total c_secrets c_rounds c_high c_low c_keyHigh c_keyLow)), ((hm 5), .inl (cy 1, 3, .inl c_counters_9)), ((hm 4), .inl (cy 3, 10, .inl c_faults))]) H → va_D A ([(h0, .inr (12, zmo hm (0 : Int32) c_state_10 c_test_11 c_words c_ill c_before c_inRow c_first c_inWindow c_same c_made c_requests c_total c_secrets c_rounds c_high c_low c_keyHigh c_keyLow)), ((hm 5), .inl (cy 1, 3, .inl c_counters_9)), ((hm 4), .inl (cy 3, 10, .inl c_faults))]) → va_S A s.heap H locs → lv_has ls 3 [(0, .ref h0)] → K_12 c_counters_9 c_state_10 c_test_11 = some (r_, c_state', c_test', c_thrown', c_counters') → GW H locs (F0 m 113 ls []) := by
      clear hf hl hP hD hS
      intro c_counters_9 c_state_10 c_test_11 H locs ls hP hD hS hl hf
      rw [eK_12] at hf
      clear eK_12
      refine hFr _ _ _ ?_
      refine lv_aload_n (pc := 113) hx hb (zdt_at zt_X10_selfTestStep_0 62 rfl) rfl (lv_at hl 0 rfl) ?_
      refine va_get (pc := 114) (D := D) (ci := 12) (v := .int c_state_10) (C := RX10) (T := TX10) (N := 52) hx hb hts hcX10 hown hK hP 0 rfl rfl 2 (by decide) hw1 (fun _ h9 => h9) rfl (zdt_at zt_X10_selfTestStep_0 63 rfl) ?_
      refine lv_iconst (pc := 117) (v := (5 : Int32)) hx hb (zdt_at zt_X10_selfTestStep_1 0 rfl) (by decide) ?_
      refine lv_icmp_ne (pc := 118) (tgt := 125) hx hb (zdt_at zt_X10_selfTestStep_1 1 rfl) (by decide) (fun cn_ => ?t_13) (fun cn_ => ?f_14)
      case f_14 =>
        replace hf := zt_s cn_ hf
        clear cn_
        refine lv_iconst (pc := 121) (v := (-1 : Int32)) hx hb (zdt_at zt_X10_selfTestStep_1 2 rfl) (by decide) ?_
        refine lv_goto (pc := 122) (tgt := 132) hx hb (zdt_at zt_X10_selfTestStep_1 3 rfl) (by decide) ?_
        cases hf
        exact W.iret (pc := 132) hx hb hr (fun t ht hW => ⟨rfl, ⟨by rw [ht]; exact hP, hD⟩, hS.F ht⟩) hS.2.2 (zdt_at zt_X10_selfTestStep_1 8 rfl)
      replace hf := ze_s cn_ hf
      clear cn_
      refine lv_bipush (pc := 125) (v := (10 : Int32)) hx hb (zdt_at zt_X10_selfTestStep_1 4 rfl) (by decide) ?_
      refine lv_aload_n (pc := 127) hx hb (zdt_at zt_X10_selfTestStep_1 5 rfl) rfl (lv_at hl 0 rfl) ?_
      refine va_get (pc := 128) (D := D) (ci := 12) (v := .int c_test_11) (C := RX10) (T := TX10) (N := 52) hx hb hts hcX10 hown hK hP 0 rfl rfl 3 (by decide) hw2 (fun _ h9 => h9) rfl (zdt_at zt_X10_selfTestStep_1 6 rfl) ?_
      refine lv_isub (pc := 131) hx hb (zdt_at zt_X10_selfTestStep_1 7 rfl) ?_
      cases hf
      exact W.iret (pc := 132) hx hb hr (fun t ht hW => ⟨rfl, ⟨by rw [ht]; exact hP, hD⟩, hS.F ht⟩) hS.2.2 (zdt_at zt_X10_selfTestStep_1 8 rfl)
    clear eK_12
    refine hTo _ _ _ (zl_go (fun z => match z with | (i_5, c_counters_6, c_state_7, c_test_8) => ∀ (H : Heap) (locs : List Loc) (ls : Array Slot), va_P D vwCl ([(h0, .inr (12, zmo hm (0 : Int32) c_state_7 c_test_8 c_words c_ill c_before c_inRow c_first c_inWindow c_same c_made c_requests c_total c_secrets c_rounds c_high c_low c_keyHigh c_keyLow)), ((hm 5), .inl (cy 1, 3, .inl c_counters_6)), ((hm 4), .inl (cy 3, 10, .inl c_faults))]) H → va_D A ([(h0, .inr (12, zmo hm (0 : Int32) c_state_7 c_test_8 c_words c_ill c_before c_inRow c_first c_inWindow c_same c_made c_requests c_total c_secrets c_rounds c_high c_low c_keyHigh c_keyLow)), ((hm 5), .inl (cy 1, 3, .inl c_counters_6)), ((hm 4), .inl (cy 3, 10, .inl c_faults))]) → va_S A s.heap H locs → lv_has ls 3 [(0, .ref h0), (1, .int p1), (2, .int i_5)] → GW H locs (F0 m 36 ls [])) hf ?_ H locs ls hP hD hS (lv_sub hl [1, 2, 0] rfl))
    clear hf hl hP hD hS
    intro self_15 ihself_15 z hf
    obtain ⟨i_5, c_counters_6, c_state_7, c_test_8⟩ := z
    intro H locs ls hP hD hS hl
    refine hFr _ _ _ ?_
    unfold b_X10_selfTestStep_36 at hf
    refine lv_iload_n (pc := 36) hx hb (zdt_at zt_X10_selfTestStep_0 20 rfl) rfl (lv_at hl 2 rfl) ?_
    refine lv_iload_n (pc := 37) hx hb (zdt_at zt_X10_selfTestStep_0 21 rfl) rfl (lv_at hl 1 rfl) ?_
    refine lv_icmp_ge (pc := 38) (tgt := 113) hx hb (zdt_at zt_X10_selfTestStep_0 22 rfl) (by decide) (fun cn_ => ?t_16) (fun cn_ => ?f_17)
    case t_16 =>
      replace hf := zt_s cn_ hf
      clear cn_
      exact hTo _ _ _ (kK_12 _ _ _ H locs ls hP hD hS (lv_sub hl [0] rfl) hf)
    replace hf := ze_s cn_ hf
    clear cn_
    refine lv_aload_n (pc := 41) hx hb (zdt_at zt_X10_selfTestStep_0 23 rfl) rfl (lv_at hl 0 rfl) ?_
    refine va_get (pc := 42) (D := D) (ci := 12) (v := .int c_state_7) (C := RX10) (T := TX10) (N := 52) hx hb hts hcX10 hown hK hP 0 rfl rfl 2 (by decide) hw1 (fun _ h9 => h9) rfl (zdt_at zt_X10_selfTestStep_0 24 rfl) ?_
    refine lv_iconst (pc := 45) (v := (1 : Int32)) hx hb (zdt_at zt_X10_selfTestStep_0 25 rfl) (by decide) ?_
    refine lv_icmp_ne (pc := 46) (tgt := 113) hx hb (zdt_at zt_X10_selfTestStep_0 26 rfl) (by decide) (fun cn_ => ?t_18) (fun cn_ => ?f_19)
    case t_18 =>
      replace hf := ze_s cn_ hf
      clear cn_
      exact hTo _ _ _ (kK_12 _ _ _ H locs ls hP hD hS (lv_sub hl [0] rfl) hf)
    replace hf := zt_s cn_ hf
    clear cn_
    refine lv_aload_n (pc := 49) hx hb (zdt_at zt_X10_selfTestStep_0 27 rfl) rfl (lv_at hl 0 rfl) ?_
    refine va_get (pc := 50) (D := D) (ci := 12) (v := .ref (hm 4)) (C := RX10) (T := TX10) (N := 52) hx hb hts hcX10 hown hK hP 0 rfl rfl 4 (by decide) hw3 (fun _ h9 => h9) rfl (zdt_at zt_X10_selfTestStep_0 28 rfl) ?_
    refine lv_aload_n (pc := 53) hx hb (zdt_at zt_X10_selfTestStep_0 29 rfl) rfl (lv_at hl 0 rfl) ?_
    refine va_get (pc := 54) (D := D) (ci := 12) (v := .int c_test_8) (C := RX10) (T := TX10) (N := 52) hx hb hts hcX10 hown hK hP 0 rfl rfl 3 (by decide) hw2 (fun _ h9 => h9) rfl (zdt_at zt_X10_selfTestStep_0 30 rfl) ?_
    replace hf := zk_s hf
    refine va_zald (pc := 57) hx hb hK hP 2 3 rfl rfl hf.1 (zdt_at zt_X10_selfTestStep_0 31 rfl) ?_
    replace hf := hf.2
    refine lv_if_eq (pc := 58) (tgt := 79) hx hb (zdt_at zt_X10_selfTestStep_0 32 rfl) (by decide) (fun cn_ => ?t_20) (fun cn_ => ?f_21)
    case f_21 =>
      replace hf := ze_s cn_ hf
      clear cn_
      refine lv_aload_n (pc := 61) hx hb (zdt_at zt_X10_selfTestStep_0 33 rfl) rfl (lv_at hl 0 rfl) ?_
      refine lv_iconst (pc := 62) (v := (5 : Int32)) hx hb (zdt_at zt_X10_selfTestStep_0 34 rfl) (by decide) ?_
      refine va_put (pc := 63) (D := D) (ci := 12) (v := .int (5 : Int32)) (ty := .int) (C := RX10) (T := TX10) (N := 52) hx hb hts hcX10 tyX10 tyX10_ok nmX10 hown hK hP hD hS 0 rfl rfl 2 (by decide) hw1 (fun _ h9 => h9) rfl (by decide +kernel) rfl rfl (Nat.le_of_ble_eq_true rfl) (zdt_at zt_X10_selfTestStep_0 35 rfl) ?_
      clear hP hD hS
      intro H locs hP hD hS
      replace hP : va_P D vwCl ([(h0, .inr (12, zmo hm (0 : Int32) (5 : Int32) c_test_8 c_words c_ill c_before c_inRow c_first c_inWindow c_same c_made c_requests c_total c_secrets c_rounds c_high c_low c_keyHigh c_keyLow)), ((hm 5), .inl (cy 1, 3, .inl c_counters_6)), ((hm 4), .inl (cy 3, 10, .inl c_faults))]) H := hP
      replace hD : va_D A ([(h0, .inr (12, zmo hm (0 : Int32) (5 : Int32) c_test_8 c_words c_ill c_before c_inRow c_first c_inWindow c_same c_made c_requests c_total c_secrets c_rounds c_high c_low c_keyHigh c_keyLow)), ((hm 5), .inl (cy 1, 3, .inl c_counters_6)), ((hm 4), .inl (cy 3, 10, .inl c_faults))]) := hD
      refine lv_aload_n (pc := 66) hx hb (zdt_at zt_X10_selfTestStep_0 36 rfl) rfl (lv_at hl 0 rfl) ?_
      refine va_get (pc := 67) (D := D) (ci := 12) (v := .ref (hm 5)) (C := RX10) (T := TX10) (N := 52) hx hb hts hcX10 hown hK hP 0 rfl rfl 5 (by decide) hw4 (fun _ h9 => h9) rfl (zdt_at zt_X10_selfTestStep_0 37 rfl) ?_
      refine lv_iconst (pc := 70) (v := (2 : Int32)) hx hb (zdt_at zt_X10_selfTestStep_0 38 rfl) (by decide) ?_
      refine lv_dup2_11 (pc := 71) hx hb (zdt_at zt_X10_selfTestStep_0 39 rfl) rfl rfl ?_
      replace hf := zk_s hf
      refine va_iald (pc := 72) hx hb hK hP 1 1 rfl rfl hf.1 (zdt_at zt_X10_selfTestStep_0 40 rfl) ?_
      replace hf := hf.2
      refine lv_iconst (pc := 73) (v := (1 : Int32)) hx hb (zdt_at zt_X10_selfTestStep_0 41 rfl) (by decide) ?_
      refine lv_iadd (pc := 74) hx hb (zdt_at zt_X10_selfTestStep_0 42 rfl) ?_
      replace hf := zk_s hf
      refine va_iast (pc := 75) hx hb hK hP hD hS 1 1 rfl rfl hf.1 (zdt_at zt_X10_selfTestStep_0 43 rfl) ?_
      replace hf := hf.2
      clear hP hD hS
      intro H locs hP hD hS
      obtain ⟨c_counters_25, e_⟩ : ∃ q : Nat → Int32, q = (upd c_counters_6 (2 : Int32).toNatClampNeg ((c_counters_6 (2 : Int32).toNatClampNeg) + (1 : Int32))) := ⟨_, rfl⟩
      replace hf := zn_s hf e_
      replace hP : va_P D vwCl ([(h0, .inr (12, zmo hm (0 : Int32) (5 : Int32) c_test_8 c_words c_ill c_before c_inRow c_first c_inWindow c_same c_made c_requests c_total c_secrets c_rounds c_high c_low c_keyHigh c_keyLow)), ((hm 5), .inl (cy 1, 3, .inl c_counters_25)), ((hm 4), .inl (cy 3, 10, .inl c_faults))]) H := by rw [e_]; exact hP
      replace hD : va_D A ([(h0, .inr (12, zmo hm (0 : Int32) (5 : Int32) c_test_8 c_words c_ill c_before c_inRow c_first c_inWindow c_same c_made c_requests c_total c_secrets c_rounds c_high c_low c_keyHigh c_keyLow)), ((hm 5), .inl (cy 1, 3, .inl c_counters_25)), ((hm 4), .inl (cy 3, 10, .inl c_faults))]) := by rw [e_]; exact hD
      clear e_
      refine lv_goto (pc := 76) (tgt := 107) hx hb (zdt_at zt_X10_selfTestStep_0 44 rfl) (by decide) ?_
      refine lv_iinc (pc := 107) (v := (i_5 + (1 : Int32))) (lv' := [(2, .int (i_5 + (1 : Int32))), (0, .ref h0), (1, .int p1)]) hx hb (zdt_at zt_X10_selfTestStep_0 60 rfl) hl (k := 2) rfl rfl (by decide) rfl ?_
      clear hl
      intro ls hl
      refine lv_goto (pc := 110) (tgt := 36) hx hb (zdt_at zt_X10_selfTestStep_0 61 rfl) (by decide) ?_
      exact hTo _ _ _ (ihself_15 _ hf H locs ls hP hD hS (lv_sub hl [1, 2, 0] rfl))
    replace hf := zt_s cn_ hf
    clear cn_
    refine lv_aload_n (pc := 79) hx hb (zdt_at zt_X10_selfTestStep_0 45 rfl) rfl (lv_at hl 0 rfl) ?_
    refine lv_dup (pc := 80) hx hb (zdt_at zt_X10_selfTestStep_0 46 rfl) rfl ?_
    refine va_get (pc := 81) (D := D) (ci := 12) (v := .int c_test_8) (C := RX10) (T := TX10) (N := 52) hx hb hts hcX10 hown hK hP 0 rfl rfl 3 (by decide) hw2 (fun _ h9 => h9) rfl (zdt_at zt_X10_selfTestStep_0 47 rfl) ?_
    refine lv_iconst (pc := 84) (v := (1 : Int32)) hx hb (zdt_at zt_X10_selfTestStep_0 48 rfl) (by decide) ?_
    refine lv_iadd (pc := 85) hx hb (zdt_at zt_X10_selfTestStep_0 49 rfl) ?_
    refine lv_topi (fun x_22 e_ => ?_)
    replace hf := zn_s hf e_
    clear e_
    refine va_put (pc := 86) (D := D) (ci := 12) (v := .int x_22) (ty := .int) (C := RX10) (T := TX10) (N := 52) hx hb hts hcX10 tyX10 tyX10_ok nmX10 hown hK hP hD hS 0 rfl rfl 3 (by decide) hw2 (fun _ h9 => h9) rfl (by decide +kernel) rfl rfl (Nat.le_of_ble_eq_true rfl) (zdt_at zt_X10_selfTestStep_0 50 rfl) ?_
    clear hP hD hS
    intro H locs hP hD hS
    replace hP : va_P D vwCl ([(h0, .inr (12, zmo hm (0 : Int32) c_state_7 x_22 c_words c_ill c_before c_inRow c_first c_inWindow c_same c_made c_requests c_total c_secrets c_rounds c_high c_low c_keyHigh c_keyLow)), ((hm 5), .inl (cy 1, 3, .inl c_counters_6)), ((hm 4), .inl (cy 3, 10, .inl c_faults))]) H := hP
    replace hD : va_D A ([(h0, .inr (12, zmo hm (0 : Int32) c_state_7 x_22 c_words c_ill c_before c_inRow c_first c_inWindow c_same c_made c_requests c_total c_secrets c_rounds c_high c_low c_keyHigh c_keyLow)), ((hm 5), .inl (cy 1, 3, .inl c_counters_6)), ((hm 4), .inl (cy 3, 10, .inl c_faults))]) := hD
    refine lv_aload_n (pc := 89) hx hb (zdt_at zt_X10_selfTestStep_0 51 rfl) rfl (lv_at hl 0 rfl) ?_
    refine lv_aload_n (pc := 90) hx hb (zdt_at zt_X10_selfTestStep_0 52 rfl) rfl (lv_at hl 0 rfl) ?_
    refine va_get (pc := 91) (D := D) (ci := 12) (v := .int x_22) (C := RX10) (T := TX10) (N := 52) hx hb hts hcX10 hown hK hP 0 rfl rfl 3 (by decide) hw2 (fun _ h9 => h9) rfl (zdt_at zt_X10_selfTestStep_0 53 rfl) ?_
    refine lv_bipush (pc := 94) (v := (10 : Int32)) hx hb (zdt_at zt_X10_selfTestStep_0 54 rfl) (by decide) ?_
    refine lv_icmp_ne (pc := 96) (tgt := 103) hx hb (zdt_at zt_X10_selfTestStep_0 55 rfl) (by decide) (fun cn_ => ?t_23) (fun cn_ => ?f_24)
    case t_23 =>
      replace hf := ze_s cn_ hf
      clear cn_
      refine lv_iconst (pc := 103) (v := (1 : Int32)) hx hb (zdt_at zt_X10_selfTestStep_0 58 rfl) (by decide) ?_
      refine va_put (pc := 104) (D := D) (ci := 12) (v := .int (1 : Int32)) (ty := .int) (C := RX10) (T := TX10) (N := 52) hx hb hts hcX10 tyX10 tyX10_ok nmX10 hown hK hP hD hS 0 rfl rfl 2 (by decide) hw1 (fun _ h9 => h9) rfl (by decide +kernel) rfl rfl (Nat.le_of_ble_eq_true rfl) (zdt_at zt_X10_selfTestStep_0 59 rfl) ?_
      clear hP hD hS
      intro H locs hP hD hS
      replace hP : va_P D vwCl ([(h0, .inr (12, zmo hm (0 : Int32) (1 : Int32) x_22 c_words c_ill c_before c_inRow c_first c_inWindow c_same c_made c_requests c_total c_secrets c_rounds c_high c_low c_keyHigh c_keyLow)), ((hm 5), .inl (cy 1, 3, .inl c_counters_6)), ((hm 4), .inl (cy 3, 10, .inl c_faults))]) H := hP
      replace hD : va_D A ([(h0, .inr (12, zmo hm (0 : Int32) (1 : Int32) x_22 c_words c_ill c_before c_inRow c_first c_inWindow c_same c_made c_requests c_total c_secrets c_rounds c_high c_low c_keyHigh c_keyLow)), ((hm 5), .inl (cy 1, 3, .inl c_counters_6)), ((hm 4), .inl (cy 3, 10, .inl c_faults))]) := hD
      refine lv_iinc (pc := 107) (v := (i_5 + (1 : Int32))) (lv' := [(2, .int (i_5 + (1 : Int32))), (0, .ref h0), (1, .int p1)]) hx hb (zdt_at zt_X10_selfTestStep_0 60 rfl) hl (k := 2) rfl rfl (by decide) rfl ?_
      clear hl
      intro ls hl
      refine lv_goto (pc := 110) (tgt := 36) hx hb (zdt_at zt_X10_selfTestStep_0 61 rfl) (by decide) ?_
      exact hTo _ _ _ (ihself_15 _ hf H locs ls hP hD hS (lv_sub hl [1, 2, 0] rfl))
    replace hf := zt_s cn_ hf
    clear cn_
    refine lv_iconst (pc := 99) (v := (2 : Int32)) hx hb (zdt_at zt_X10_selfTestStep_0 56 rfl) (by decide) ?_
    refine lv_goto (pc := 100) (tgt := 104) hx hb (zdt_at zt_X10_selfTestStep_0 57 rfl) (by decide) ?_
    refine va_put (pc := 104) (D := D) (ci := 12) (v := .int (2 : Int32)) (ty := .int) (C := RX10) (T := TX10) (N := 52) hx hb hts hcX10 tyX10 tyX10_ok nmX10 hown hK hP hD hS 0 rfl rfl 2 (by decide) hw1 (fun _ h9 => h9) rfl (by decide +kernel) rfl rfl (Nat.le_of_ble_eq_true rfl) (zdt_at zt_X10_selfTestStep_0 59 rfl) ?_
    clear hP hD hS
    intro H locs hP hD hS
    replace hP : va_P D vwCl ([(h0, .inr (12, zmo hm (0 : Int32) (2 : Int32) x_22 c_words c_ill c_before c_inRow c_first c_inWindow c_same c_made c_requests c_total c_secrets c_rounds c_high c_low c_keyHigh c_keyLow)), ((hm 5), .inl (cy 1, 3, .inl c_counters_6)), ((hm 4), .inl (cy 3, 10, .inl c_faults))]) H := hP
    replace hD : va_D A ([(h0, .inr (12, zmo hm (0 : Int32) (2 : Int32) x_22 c_words c_ill c_before c_inRow c_first c_inWindow c_same c_made c_requests c_total c_secrets c_rounds c_high c_low c_keyHigh c_keyLow)), ((hm 5), .inl (cy 1, 3, .inl c_counters_6)), ((hm 4), .inl (cy 3, 10, .inl c_faults))]) := hD
    refine lv_iinc (pc := 107) (v := (i_5 + (1 : Int32))) (lv' := [(2, .int (i_5 + (1 : Int32))), (0, .ref h0), (1, .int p1)]) hx hb (zdt_at zt_X10_selfTestStep_0 60 rfl) hl (k := 2) rfl rfl (by decide) rfl ?_
    clear hl
    intro ls hl
    refine lv_goto (pc := 110) (tgt := 36) hx hb (zdt_at zt_X10_selfTestStep_0 61 rfl) (by decide) ?_
    exact hTo _ _ _ (ihself_15 _ hf H locs ls hP hD hS (lv_sub hl [1, 2, 0] rfl))
  clear eK_4
  refine lv_icmp_eq (pc := 20) (tgt := 34) hx hb (zdt_at zt_X10_selfTestStep_0 11 rfl) (by decide) (fun cn_ => ?t_26) (fun cn_ => ?f_27)
  case t_26 =>
    replace hf := zt_s cn_ hf
    clear cn_
    exact hTo _ _ _ (kK_4  H locs ls hP hD hS (lv_sub hl [0, 1] rfl) hf)
  replace hf := ze_s cn_ hf
  clear cn_
  refine lv_aload_n (pc := 23) hx hb (zdt_at zt_X10_selfTestStep_0 12 rfl) rfl (lv_at hl 0 rfl) ?_
  refine va_get (pc := 24) (D := D) (ci := 12) (v := .int c_state) (C := RX10) (T := TX10) (N := 52) hx hb hts hcX10 hown hK hP 0 rfl rfl 2 (by decide) hw1 (fun _ h9 => h9) rfl (zdt_at zt_X10_selfTestStep_0 13 rfl) ?_
  refine lv_iconst (pc := 27) (v := (5 : Int32)) hx hb (zdt_at zt_X10_selfTestStep_0 14 rfl) (by decide) ?_
  refine lv_icmp_eq (pc := 28) (tgt := 34) hx hb (zdt_at zt_X10_selfTestStep_0 15 rfl) (by decide) (fun cn_ => ?t_28) (fun cn_ => ?f_29)
  case t_28 =>
    replace hf := zt_s cn_ hf
    clear cn_
    exact hTo _ _ _ (kK_4  H locs ls hP hD hS (lv_sub hl [0, 1] rfl) hf)
  replace hf := ze_s cn_ hf
  clear cn_
  refine lv_bipush (pc := 31) (v := (-2 : Int32)) hx hb (zdt_at zt_X10_selfTestStep_0 16 rfl) (by decide) ?_
  cases hf
  exact W.iret (pc := 33) hx hb hr (fun t ht hW => ⟨rfl, ⟨by rw [ht]; exact hP, hD⟩, hS.F ht⟩) hS.2.2 (zdt_at zt_X10_selfTestStep_0 17 rfl)
set_option maxHeartbeats 4000000 in
set_option maxRecDepth 100000 in
theorem c_X10_fault (l : Launch) (D : va_G) (cy : Nat → ClassId) (tt : Nat → Nat) (sz : Nat) (h0 : Nat) (hm : Nat → Nat) (p1 : Int32) (c_thrown : Int32) (c_faults : Nat → Int32) (c_state : Int32) (c_test : Int32) (c_words : Int32) (c_ill : Int32) (c_before : Int32) (c_inRow : Int32) (c_first : Int32) (c_inWindow : Int32) (c_same : Int32) (c_made : Int32) (c_requests : Int32) (c_total : Int64) (c_secrets : Int32) (c_rounds : Int32) (c_high : Int64) (c_low : Int64) (c_keyHigh : Int64) (c_keyLow : Int64) (c_thrown' : Int32) (c_faults' : Nat → Int32) (hf : f_X10_fault p1 c_thrown c_faults = some (c_thrown', c_faults')) : Met l yX10_fault wsX10_fault ({ frames := 1, cells := 0, slots := 0, locals := 22 }) (zPc D cy tt sz [.ref h0, .int p1] ([(h0, .inr (12, zmo hm c_thrown c_state c_test c_words c_ill c_before c_inRow c_first c_inWindow c_same c_made c_requests c_total c_secrets c_rounds c_high c_low c_keyHigh c_keyLow)), ((hm 4), .inl (cy 3, 10, .inl c_faults))])) (zQ D none ([(h0, .inr (12, zmo hm c_thrown' c_state c_test c_words c_ill c_before c_inRow c_first c_inWindow c_same c_made c_requests c_total c_secrets c_rounds c_high c_low c_keyHigh c_keyLow)), ((hm 4), .inl (cy 3, 10, .inl c_faults'))]) (va_A ([(h0, .inr (12, zmo hm c_thrown c_state c_test c_words c_ill c_before c_inRow c_first c_inWindow c_same c_made c_requests c_total c_secrets c_rounds c_high c_low c_keyHigh c_keyLow)), ((hm 4), .inl (cy 3, 10, .inl c_faults))]) sz)) 0 0 (va_A ([(h0, .inr (12, zmo hm c_thrown c_state c_test c_words c_ill c_before c_inRow c_first c_inWindow c_same c_made c_requests c_total c_secrets c_rounds c_high c_low c_keyHigh c_keyLow)), ((hm 4), .inl (cy 3, 10, .inl c_faults))]) sz) := by
  refine Met.ofW (cc := cX10_fault) (maxL := 2) (ret := none) (by decide) rfl ?_
  intro p e s m args below meth c s₁ B hml hv
  obtain ⟨rfl, rfl, hP, hD0, hE⟩ := hv
  have hx := B.exec
  have hb := B.bytes
  have hr := B.returns
  have hts := atoms_spec (ws := wsX10_fault) B.pre
  have hown : s.vm.findClass RX10 = some m.cls := findClass_of_methodNamed B.named
  have hlocks := B.notSynchronized
  clear B
  have hD := hD0.self (sz := s.heap.size)
  generalize hAe : va_A ([(h0, .inr (12, zmo hm c_thrown c_state c_test c_words c_ill c_before c_inRow c_first c_inWindow c_same c_made c_requests c_total c_secrets c_rounds c_high c_low c_keyHigh c_keyLow)), ((hm 4), .inl (cy 3, 10, .inl c_faults))]) s.heap.size = A at hD hE ⊢
  have hA : ∀ q : Nat, s.heap.size ≤ q → A q := fun q h => by rw [← hAe]; exact Or.inr h
  clear hAe hD0
  have hS : va_S A s.heap s.heap [] := va_S.rf
  have hK := hE.1
  have hw0 := hts (.fieldLink RX10 189 "SealedModuleModel" "thrown" "I") (by decide +kernel)
  have hw1 := hts (.fieldLink RX10 77 "SealedModuleModel" "faults" "[Z") (by decide +kernel)
  have hcX10 : ∀ w ∈ u_ws RX10 TX10 52, w ∈ wsX10_fault := (fun _ h => List.mem_cons_of_mem _ (List.mem_append_right _ h))
  have hl := lv_entry ([.ref h0, .int p1]) (n := 2) (Nat.le_of_ble_eq_true rfl)
  rw [lg_entry_eq]
  generalize (lg_sl ([.ref h0, .int p1]) ++ List.replicate (2 - (lg_sl ([.ref h0, .int p1])).length) Slot.unset).toArray = ls at hl ⊢
  replace hl : lv_has ls 2 [(0, .ref h0), (1, .int p1)] := hl
  unfold f_X10_fault at hf
  refine zgo (fun GW hTo hFr => ?_)
  refine hFr _ _ _ ?_
  obtain ⟨H, hHe⟩ : ∃ H, H = s.heap := ⟨_, rfl⟩
  obtain ⟨locs, hLe⟩ : ∃ L : List Loc, L = [] := ⟨_, rfl⟩
  rw [← hHe] at hP
  replace hS : va_S A s.heap H locs := by rw [hHe, hLe]; exact hS
  refine zat hHe.symm hLe.symm ?_
  clear hHe hLe
  refine lv_aload_n (pc := 0) hx hb (zdt_at zt_X10_fault_0 0 rfl) rfl (lv_at hl 0 rfl) ?_
  refine lv_iload_n (pc := 1) hx hb (zdt_at zt_X10_fault_0 1 rfl) rfl (lv_at hl 1 rfl) ?_
  refine lv_iconst (pc := 2) (v := (0 : Int32)) hx hb (zdt_at zt_X10_fault_0 2 rfl) (by decide) ?_
  refine lv_bipush (pc := 3) (v := (9 : Int32)) hx hb (zdt_at zt_X10_fault_0 3 rfl) (by decide) ?_
  replace hf := zb_s hf
  obtain ⟨r_1, hc_, hf⟩ := hf
  refine zcs (pc := 5) (rv := (some (.int r_1))) (va_runS (As := [.int p1, .int (0 : Int32), .int (9 : Int32)]) (rest := [.ref h0]) ⟨hx, hb, hml, hown, hts⟩ (c_X10_in l D cy tt H.size p1 (0 : Int32) (9 : Int32) r_1 hc_) (va_cwS 3 hts gX10_fault_X10_in rfl rfl rfl (by decide +kernel) ⟨Nat.le_of_ble_eq_true rfl, Nat.le_of_ble_eq_true rfl⟩) ⟨zblind, zpre hE hS (hP.sub [] rfl) (hD.sub [] (by decide) rfl) (va_free hD hS hA [] rfl)⟩ rfl rfl hl.1 rfl (lv_room (Nat.le_of_ble_eq_true rfl)) (zdt_at zt_X10_fault_0 4 rfl) ⟨Nat.zero_le _, Nat.zero_le _⟩) ?_
  clear hc_
  refine W.eq (g2 := F0 m 8 ls [.int r_1, .ref h0]) rfl ?_
  refine lv_if_eq (pc := 8) (tgt := 15) hx hb (zdt_at zt_X10_fault_0 5 rfl) (by decide) (fun cn_ => ?t_2) (fun cn_ => ?f_3)
  case t_2 =>
    replace hf := zt_s cn_ hf
    clear cn_
    refine lv_iconst (pc := 15) (v := (1 : Int32)) hx hb (zdt_at zt_X10_fault_0 8 rfl) (by decide) ?_
    refine va_put (pc := 16) (D := D) (ci := 12) (v := .int (1 : Int32)) (ty := .int) (C := RX10) (T := TX10) (N := 52) hx hb hts hcX10 tyX10 tyX10_ok nmX10 hown hK hP hD hS 0 rfl rfl 1 (by decide) hw0 (fun _ h9 => h9) rfl (by decide +kernel) rfl rfl (Nat.le_of_ble_eq_true rfl) (zdt_at zt_X10_fault_0 9 rfl) ?_
    clear hP hD hS
    intro H locs hP hD hS
    replace hP : va_P D vwCl ([(h0, .inr (12, zmo hm (1 : Int32) c_state c_test c_words c_ill c_before c_inRow c_first c_inWindow c_same c_made c_requests c_total c_secrets c_rounds c_high c_low c_keyHigh c_keyLow)), ((hm 4), .inl (cy 3, 10, .inl c_faults))]) H := hP
    replace hD : va_D A ([(h0, .inr (12, zmo hm (1 : Int32) c_state c_test c_words c_ill c_before c_inRow c_first c_inWindow c_same c_made c_requests c_total c_secrets c_rounds c_high c_low c_keyHigh c_keyLow)), ((hm 4), .inl (cy 3, 10, .inl c_faults))]) := hD
    refine lv_aload_n (pc := 19) hx hb (zdt_at zt_X10_fault_0 10 rfl) rfl (lv_at hl 0 rfl) ?_
    refine va_get (pc := 20) (D := D) (ci := 12) (v := .int (1 : Int32)) (C := RX10) (T := TX10) (N := 52) hx hb hts hcX10 hown hK hP 0 rfl rfl 1 (by decide) hw0 (fun _ h9 => h9) rfl (zdt_at zt_X10_fault_0 11 rfl) ?_
    refine lv_if_ne (pc := 23) (tgt := 33) hx hb (zdt_at zt_X10_fault_0 12 rfl) (by decide) (fun cn_ => ?t_4) (fun cn_ => ?f_5)
    case t_4 =>
      replace hf := ze_s cn_ hf
      clear cn_
      cases hf
      exact W.vret (pc := 33) hx hb hr (fun t ht hW => ⟨rfl, ⟨by rw [ht]; exact hP, hD⟩, hS.F ht⟩) hS.2.2 (zdt_at zt_X10_fault_0 18 rfl)
    replace hf := zt_s cn_ hf
    clear cn_
    refine lv_aload_n (pc := 26) hx hb (zdt_at zt_X10_fault_0 13 rfl) rfl (lv_at hl 0 rfl) ?_
    refine va_get (pc := 27) (D := D) (ci := 12) (v := .ref (hm 4)) (C := RX10) (T := TX10) (N := 52) hx hb hts hcX10 hown hK hP 0 rfl rfl 4 (by decide) hw1 (fun _ h9 => h9) rfl (zdt_at zt_X10_fault_0 14 rfl) ?_
    refine lv_iload_n (pc := 30) hx hb (zdt_at zt_X10_fault_0 15 rfl) rfl (lv_at hl 1 rfl) ?_
    refine lv_iconst (pc := 31) (v := (1 : Int32)) hx hb (zdt_at zt_X10_fault_0 16 rfl) (by decide) ?_
    replace hf := zk_s hf
    refine va_zast (pc := 32) hx hb hK hP hD hS 1 3 rfl rfl hf.1 (zdt_at zt_X10_fault_0 17 rfl) ?_
    replace hf := hf.2
    clear hP hD hS
    intro H locs hP hD hS
    obtain ⟨c_faults_6, e_⟩ : ∃ q : Nat → Int32, q = (upd c_faults p1.toNatClampNeg (vp_nar .boolean (1 : Int32))) := ⟨_, rfl⟩
    replace hf := zn_s hf e_
    replace hP : va_P D vwCl ([(h0, .inr (12, zmo hm (1 : Int32) c_state c_test c_words c_ill c_before c_inRow c_first c_inWindow c_same c_made c_requests c_total c_secrets c_rounds c_high c_low c_keyHigh c_keyLow)), ((hm 4), .inl (cy 3, 10, .inl c_faults_6))]) H := by rw [e_]; exact hP
    replace hD : va_D A ([(h0, .inr (12, zmo hm (1 : Int32) c_state c_test c_words c_ill c_before c_inRow c_first c_inWindow c_same c_made c_requests c_total c_secrets c_rounds c_high c_low c_keyHigh c_keyLow)), ((hm 4), .inl (cy 3, 10, .inl c_faults_6))]) := by rw [e_]; exact hD
    clear e_
    cases hf
    exact W.vret (pc := 33) hx hb hr (fun t ht hW => ⟨rfl, ⟨by rw [ht]; exact hP, hD⟩, hS.F ht⟩) hS.2.2 (zdt_at zt_X10_fault_0 18 rfl)
  replace hf := ze_s cn_ hf
  clear cn_
  refine lv_iconst (pc := 11) (v := (0 : Int32)) hx hb (zdt_at zt_X10_fault_0 6 rfl) (by decide) ?_
  refine lv_goto (pc := 12) (tgt := 16) hx hb (zdt_at zt_X10_fault_0 7 rfl) (by decide) ?_
  refine va_put (pc := 16) (D := D) (ci := 12) (v := .int (0 : Int32)) (ty := .int) (C := RX10) (T := TX10) (N := 52) hx hb hts hcX10 tyX10 tyX10_ok nmX10 hown hK hP hD hS 0 rfl rfl 1 (by decide) hw0 (fun _ h9 => h9) rfl (by decide +kernel) rfl rfl (Nat.le_of_ble_eq_true rfl) (zdt_at zt_X10_fault_0 9 rfl) ?_
  clear hP hD hS
  intro H locs hP hD hS
  replace hP : va_P D vwCl ([(h0, .inr (12, zmo hm (0 : Int32) c_state c_test c_words c_ill c_before c_inRow c_first c_inWindow c_same c_made c_requests c_total c_secrets c_rounds c_high c_low c_keyHigh c_keyLow)), ((hm 4), .inl (cy 3, 10, .inl c_faults))]) H := hP
  replace hD : va_D A ([(h0, .inr (12, zmo hm (0 : Int32) c_state c_test c_words c_ill c_before c_inRow c_first c_inWindow c_same c_made c_requests c_total c_secrets c_rounds c_high c_low c_keyHigh c_keyLow)), ((hm 4), .inl (cy 3, 10, .inl c_faults))]) := hD
  refine lv_aload_n (pc := 19) hx hb (zdt_at zt_X10_fault_0 10 rfl) rfl (lv_at hl 0 rfl) ?_
  refine va_get (pc := 20) (D := D) (ci := 12) (v := .int (0 : Int32)) (C := RX10) (T := TX10) (N := 52) hx hb hts hcX10 hown hK hP 0 rfl rfl 1 (by decide) hw0 (fun _ h9 => h9) rfl (zdt_at zt_X10_fault_0 11 rfl) ?_
  refine lv_if_ne (pc := 23) (tgt := 33) hx hb (zdt_at zt_X10_fault_0 12 rfl) (by decide) (fun cn_ => ?t_7) (fun cn_ => ?f_8)
  case t_7 =>
    replace hf := ze_s cn_ hf
    clear cn_
    cases hf
    exact W.vret (pc := 33) hx hb hr (fun t ht hW => ⟨rfl, ⟨by rw [ht]; exact hP, hD⟩, hS.F ht⟩) hS.2.2 (zdt_at zt_X10_fault_0 18 rfl)
  replace hf := zt_s cn_ hf
  clear cn_
  refine lv_aload_n (pc := 26) hx hb (zdt_at zt_X10_fault_0 13 rfl) rfl (lv_at hl 0 rfl) ?_
  refine va_get (pc := 27) (D := D) (ci := 12) (v := .ref (hm 4)) (C := RX10) (T := TX10) (N := 52) hx hb hts hcX10 hown hK hP 0 rfl rfl 4 (by decide) hw1 (fun _ h9 => h9) rfl (zdt_at zt_X10_fault_0 14 rfl) ?_
  refine lv_iload_n (pc := 30) hx hb (zdt_at zt_X10_fault_0 15 rfl) rfl (lv_at hl 1 rfl) ?_
  refine lv_iconst (pc := 31) (v := (1 : Int32)) hx hb (zdt_at zt_X10_fault_0 16 rfl) (by decide) ?_
  replace hf := zk_s hf
  refine va_zast (pc := 32) hx hb hK hP hD hS 1 3 rfl rfl hf.1 (zdt_at zt_X10_fault_0 17 rfl) ?_
  replace hf := hf.2
  clear hP hD hS
  intro H locs hP hD hS
  obtain ⟨c_faults_9, e_⟩ : ∃ q : Nat → Int32, q = (upd c_faults p1.toNatClampNeg (vp_nar .boolean (1 : Int32))) := ⟨_, rfl⟩
  replace hf := zn_s hf e_
  replace hP : va_P D vwCl ([(h0, .inr (12, zmo hm (0 : Int32) c_state c_test c_words c_ill c_before c_inRow c_first c_inWindow c_same c_made c_requests c_total c_secrets c_rounds c_high c_low c_keyHigh c_keyLow)), ((hm 4), .inl (cy 3, 10, .inl c_faults_9))]) H := by rw [e_]; exact hP
  replace hD : va_D A ([(h0, .inr (12, zmo hm (0 : Int32) c_state c_test c_words c_ill c_before c_inRow c_first c_inWindow c_same c_made c_requests c_total c_secrets c_rounds c_high c_low c_keyHigh c_keyLow)), ((hm 4), .inl (cy 3, 10, .inl c_faults_9))]) := by rw [e_]; exact hD
  clear e_
  cases hf
  exact W.vret (pc := 33) hx hb hr (fun t ht hW => ⟨rfl, ⟨by rw [ht]; exact hP, hD⟩, hS.F ht⟩) hS.2.2 (zdt_at zt_X10_fault_0 18 rfl)
set_option maxHeartbeats 4000000 in
set_option maxRecDepth 100000 in
theorem c_X10_poke (l : Launch) (D : va_G) (cy : Nat → ClassId) (tt : Nat → Nat) (sz : Nat) (h0 : Nat) (hm : Nat → Nat) (p1 : Int32) (p2 : Int64) (p3 : Int32) (c_state : Int32) (c_thrown : Int32) (c_buffer : Nat → Int32) (c_test : Int32) (c_words : Int32) (c_ill : Int32) (c_before : Int32) (c_inRow : Int32) (c_first : Int32) (c_inWindow : Int32) (c_same : Int32) (c_made : Int32) (c_requests : Int32) (c_total : Int64) (c_secrets : Int32) (c_rounds : Int32) (c_high : Int64) (c_low : Int64) (c_keyHigh : Int64) (c_keyLow : Int64) (c_thrown' : Int32) (c_buffer' : Nat → Int32) (hf : f_X10_poke p1 p2 p3 c_state c_thrown c_buffer = some (c_thrown', c_buffer')) : Met l yX10_poke wsX10_poke ({ frames := 1, cells := 0, slots := 0, locals := 22 }) (zPc D cy tt sz [.ref h0, .int p1, .long p2, .int p3] ([(h0, .inr (12, zmo hm c_thrown c_state c_test c_words c_ill c_before c_inRow c_first c_inWindow c_same c_made c_requests c_total c_secrets c_rounds c_high c_low c_keyHigh c_keyLow)), ((hm 6), .inl (cy 1, 512, .inl c_buffer))])) (zQ D none ([(h0, .inr (12, zmo hm c_thrown' c_state c_test c_words c_ill c_before c_inRow c_first c_inWindow c_same c_made c_requests c_total c_secrets c_rounds c_high c_low c_keyHigh c_keyLow)), ((hm 6), .inl (cy 1, 512, .inl c_buffer'))]) (va_A ([(h0, .inr (12, zmo hm c_thrown c_state c_test c_words c_ill c_before c_inRow c_first c_inWindow c_same c_made c_requests c_total c_secrets c_rounds c_high c_low c_keyHigh c_keyLow)), ((hm 6), .inl (cy 1, 512, .inl c_buffer))]) sz)) 0 0 (va_A ([(h0, .inr (12, zmo hm c_thrown c_state c_test c_words c_ill c_before c_inRow c_first c_inWindow c_same c_made c_requests c_total c_secrets c_rounds c_high c_low c_keyHigh c_keyLow)), ((hm 6), .inl (cy 1, 512, .inl c_buffer))]) sz) := by
  refine Met.ofW (cc := cX10_poke) (maxL := 6) (ret := none) (by decide) rfl ?_
  intro p e s m args below meth c s₁ B hml hv
  obtain ⟨rfl, rfl, hP, hD0, hE⟩ := hv
  have hx := B.exec
  have hb := B.bytes
  have hr := B.returns
  have hts := atoms_spec (ws := wsX10_poke) B.pre
  have hown : s.vm.findClass RX10 = some m.cls := findClass_of_methodNamed B.named
  have hlocks := B.notSynchronized
  clear B
  have hD := hD0.self (sz := s.heap.size)
  generalize hAe : va_A ([(h0, .inr (12, zmo hm c_thrown c_state c_test c_words c_ill c_before c_inRow c_first c_inWindow c_same c_made c_requests c_total c_secrets c_rounds c_high c_low c_keyHigh c_keyLow)), ((hm 6), .inl (cy 1, 512, .inl c_buffer))]) s.heap.size = A at hD hE ⊢
  have hA : ∀ q : Nat, s.heap.size ≤ q → A q := fun q h => by rw [← hAe]; exact Or.inr h
  clear hAe hD0
  have hS : va_S A s.heap s.heap [] := va_S.rf
  have hK := hE.1
  have hw0 := hts (.fieldLink RX10 273 "SealedModuleModel" "state" "I") (by decide +kernel)
  have hw1 := hts (.fieldLink RX10 189 "SealedModuleModel" "thrown" "I") (by decide +kernel)
  have hw2 := hts (.fieldLink RX10 84 "SealedModuleModel" "buffer" "[I") (by decide +kernel)
  have hw3 := hts (.constantLong RX10 292 (255)) (by decide +kernel)
  have hcX10 : ∀ w ∈ u_ws RX10 TX10 52, w ∈ wsX10_poke := (fun _ h => List.mem_cons_of_mem _ (List.mem_append_right _ h))
  have hl := lv_entry ([.ref h0, .int p1, .long p2, .int p3]) (n := 6) (Nat.le_of_ble_eq_true rfl)
  rw [lg_entry_eq]
  generalize (lg_sl ([.ref h0, .int p1, .long p2, .int p3]) ++ List.replicate (6 - (lg_sl ([.ref h0, .int p1, .long p2, .int p3])).length) Slot.unset).toArray = ls at hl ⊢
  replace hl : lv_has ls 6 [(0, .ref h0), (1, .int p1), (2, .long p2), (4, .int p3)] := hl
  unfold f_X10_poke at hf
  refine zgo (fun GW hTo hFr => ?_)
  refine hFr _ _ _ ?_
  obtain ⟨H, hHe⟩ : ∃ H, H = s.heap := ⟨_, rfl⟩
  obtain ⟨locs, hLe⟩ : ∃ L : List Loc, L = [] := ⟨_, rfl⟩
  rw [← hHe] at hP
  replace hS : va_S A s.heap H locs := by rw [hHe, hLe]; exact hS
  refine zat hHe.symm hLe.symm ?_
  clear hHe hLe
  refine lv_aload_n (pc := 0) hx hb (zdt_at zt_X10_poke_0 0 rfl) rfl (lv_at hl 0 rfl) ?_
  refine lv_aload_n (pc := 1) hx hb (zdt_at zt_X10_poke_0 1 rfl) rfl (lv_at hl 0 rfl) ?_
  refine va_get (pc := 2) (D := D) (ci := 12) (v := .int c_state) (C := RX10) (T := TX10) (N := 52) hx hb hts hcX10 hown hK hP 0 rfl rfl 2 (by decide) hw0 (fun _ h9 => h9) rfl (zdt_at zt_X10_poke_0 2 rfl) ?_
  replace hf := zj_s hf
  obtain ⟨K_2, eK_2, hf⟩ := hf
  have kK_2 : ∀ (v_1 : Int32) (H : Heap) (locs : List Loc) (ls : Array Slot), va_P D vwCl ([(h0, .inr (12, zmo hm c_thrown c_state c_test c_words c_ill c_before c_inRow c_first c_inWindow c_same c_made c_requests c_total c_secrets c_rounds c_high c_low c_keyHigh c_keyLow)), ((hm 6), .inl (cy 1, 512, .inl c_buffer))]) H → va_D A ([(h0, .inr (12, zmo hm c_thrown c_state c_test c_words c_ill c_before c_inRow c_first c_inWindow c_same c_made c_requests c_total c_secrets c_rounds c_high c_low c_keyHigh c_keyLow)), ((hm 6), .inl (cy 1, 512, .inl c_buffer))]) → va_S A s.heap H locs → lv_has ls 6 [(0, .ref h0), (1, .int p1), (2, .long p2), (4, .int p3)] → K_2 v_1 = some (c_thrown', c_buffer') → GW H locs (F0 m 42 ls [.int v_1, .ref h0]) := by
    clear hf hl hP hD hS
    intro v_1 H locs ls hP hD hS hl hf
    rw [eK_2] at hf
    clear eK_2
    refine hFr _ _ _ ?_
    refine va_put (pc := 42) (D := D) (ci := 12) (v := .int v_1) (ty := .int) (C := RX10) (T := TX10) (N := 52) hx hb hts hcX10 tyX10 tyX10_ok nmX10 hown hK hP hD hS 0 rfl rfl 1 (by decide) hw1 (fun _ h9 => h9) rfl (by decide +kernel) rfl rfl (Nat.le_of_ble_eq_true rfl) (zdt_at zt_X10_poke_0 21 rfl) ?_
    clear hP hD hS
    intro H locs hP hD hS
    replace hP : va_P D vwCl ([(h0, .inr (12, zmo hm v_1 c_state c_test c_words c_ill c_before c_inRow c_first c_inWindow c_same c_made c_requests c_total c_secrets c_rounds c_high c_low c_keyHigh c_keyLow)), ((hm 6), .inl (cy 1, 512, .inl c_buffer))]) H := hP
    replace hD : va_D A ([(h0, .inr (12, zmo hm v_1 c_state c_test c_words c_ill c_before c_inRow c_first c_inWindow c_same c_made c_requests c_total c_secrets c_rounds c_high c_low c_keyHigh c_keyLow)), ((hm 6), .inl (cy 1, 512, .inl c_buffer))]) := hD
    refine lv_iconst (pc := 45) (v := (0 : Int32)) hx hb (zdt_at zt_X10_poke_0 22 rfl) (by decide) ?_
    refine lv_istore (pc := 46) (lv' := [(5, .int (0 : Int32)), (0, .ref h0), (1, .int p1), (2, .long p2), (4, .int p3)]) hx hb (zdt_at zt_X10_poke_0 23 rfl) hl (by decide) rfl ?_
    clear hl
    intro ls hl
    replace hf := zj_s hf
    obtain ⟨K_6, eK_6, hf⟩ := hf
    have kK_6 : ∀ (c_buffer_5 : Nat → Int32) (H : Heap) (locs : List Loc) (ls : Array Slot), va_P D vwCl ([(h0, .inr (12, zmo hm v_1 c_state c_test c_words c_ill c_before c_inRow c_first c_inWindow c_same c_made c_requests c_total c_secrets c_rounds c_high c_low c_keyHigh c_keyLow)), ((hm 6), .inl (cy 1, 512, .inl c_buffer_5))]) H → va_D A ([(h0, .inr (12, zmo hm v_1 c_state c_test c_words c_ill c_before c_inRow c_first c_inWindow c_same c_made c_requests c_total c_secrets c_rounds c_high c_low c_keyHigh c_keyLow)), ((hm 6), .inl (cy 1, 512, .inl c_buffer_5))]) → va_S A s.heap H locs → lv_has ls 6 [] → K_6 c_buffer_5 = some (c_thrown', c_buffer') → GW H locs (F0 m 94 ls []) := by
      clear hf hl hP hD hS
      intro c_buffer_5 H locs ls hP hD hS hl hf
      rw [eK_6] at hf
      clear eK_6
      refine hFr _ _ _ ?_
      cases hf
      exact W.vret (pc := 94) hx hb hr (fun t ht hW => ⟨rfl, ⟨by rw [ht]; exact hP, hD⟩, hS.F ht⟩) hS.2.2 (zdt_at zt_X10_poke_0 50 rfl)
    clear eK_6
    refine hTo _ _ _ (zl_go (fun z => match z with | (i_3, c_buffer_4) => ∀ (H : Heap) (locs : List Loc) (ls : Array Slot), va_P D vwCl ([(h0, .inr (12, zmo hm v_1 c_state c_test c_words c_ill c_before c_inRow c_first c_inWindow c_same c_made c_requests c_total c_secrets c_rounds c_high c_low c_keyHigh c_keyLow)), ((hm 6), .inl (cy 1, 512, .inl c_buffer_4))]) H → va_D A ([(h0, .inr (12, zmo hm v_1 c_state c_test c_words c_ill c_before c_inRow c_first c_inWindow c_same c_made c_requests c_total c_secrets c_rounds c_high c_low c_keyHigh c_keyLow)), ((hm 6), .inl (cy 1, 512, .inl c_buffer_4))]) → va_S A s.heap H locs → lv_has ls 6 [(0, .ref h0), (1, .int p1), (2, .long p2), (4, .int p3), (5, .int i_3)] → GW H locs (F0 m 48 ls [])) hf ?_ H locs ls hP hD hS (lv_sub hl [1, 2, 3, 4, 0] rfl))
    clear hf hl hP hD hS
    intro self_7 ihself_7 z hf
    obtain ⟨i_3, c_buffer_4⟩ := z
    intro H locs ls hP hD hS hl
    refine hFr _ _ _ ?_
    unfold b_X10_poke_48 at hf
    refine lv_iload (pc := 48) hx hb (zdt_at zt_X10_poke_0 24 rfl) (lv_at hl 4 rfl) ?_
    refine lv_iload (pc := 50) hx hb (zdt_at zt_X10_poke_0 25 rfl) (lv_at hl 3 rfl) ?_
    refine lv_icmp_ge (pc := 52) (tgt := 94) hx hb (zdt_at zt_X10_poke_0 26 rfl) (by decide) (fun cn_ => ?t_8) (fun cn_ => ?f_9)
    case t_8 =>
      replace hf := zt_s cn_ hf
      clear cn_
      exact hTo _ _ _ (kK_6 _ H locs ls hP hD hS (lv_sub hl [] rfl) hf)
    replace hf := ze_s cn_ hf
    clear cn_
    refine lv_aload_n (pc := 55) hx hb (zdt_at zt_X10_poke_0 27 rfl) rfl (lv_at hl 0 rfl) ?_
    refine va_get (pc := 56) (D := D) (ci := 12) (v := .int v_1) (C := RX10) (T := TX10) (N := 52) hx hb hts hcX10 hown hK hP 0 rfl rfl 1 (by decide) hw1 (fun _ h9 => h9) rfl (zdt_at zt_X10_poke_0 28 rfl) ?_
    refine lv_if_ne (pc := 59) (tgt := 94) hx hb (zdt_at zt_X10_poke_0 29 rfl) (by decide) (fun cn_ => ?t_10) (fun cn_ => ?f_11)
    case t_10 =>
      replace hf := ze_s cn_ hf
      clear cn_
      exact hTo _ _ _ (kK_6 _ H locs ls hP hD hS (lv_sub hl [] rfl) hf)
    replace hf := zt_s cn_ hf
    clear cn_
    refine lv_aload_n (pc := 62) hx hb (zdt_at zt_X10_poke_0 30 rfl) rfl (lv_at hl 0 rfl) ?_
    refine va_get (pc := 63) (D := D) (ci := 12) (v := .ref (hm 6)) (C := RX10) (T := TX10) (N := 52) hx hb hts hcX10 hown hK hP 0 rfl rfl 6 (by decide) hw2 (fun _ h9 => h9) rfl (zdt_at zt_X10_poke_0 31 rfl) ?_
    refine lv_iload_n (pc := 66) hx hb (zdt_at zt_X10_poke_0 32 rfl) rfl (lv_at hl 1 rfl) ?_
    refine lv_iload (pc := 67) hx hb (zdt_at zt_X10_poke_0 33 rfl) (lv_at hl 4 rfl) ?_
    refine lv_iadd (pc := 69) hx hb (zdt_at zt_X10_poke_0 34 rfl) ?_
    refine lv_lload_n (pc := 70) hx hb (zdt_at zt_X10_poke_0 35 rfl) rfl (lv_at hl 2 rfl) ?_
    refine lv_bipush (pc := 71) (v := (8 : Int32)) hx hb (zdt_at zt_X10_poke_0 36 rfl) (by decide) ?_
    refine lv_iload (pc := 73) hx hb (zdt_at zt_X10_poke_0 37 rfl) (lv_at hl 3 rfl) ?_
    refine lv_iconst (pc := 75) (v := (1 : Int32)) hx hb (zdt_at zt_X10_poke_0 38 rfl) (by decide) ?_
    refine lv_isub (pc := 76) hx hb (zdt_at zt_X10_poke_0 39 rfl) ?_
    refine lv_iload (pc := 77) hx hb (zdt_at zt_X10_poke_0 40 rfl) (lv_at hl 4 rfl) ?_
    refine lv_isub (pc := 79) hx hb (zdt_at zt_X10_poke_0 41 rfl) ?_
    refine lv_imul (pc := 80) hx hb (zdt_at zt_X10_poke_0 42 rfl) ?_
    refine lv_lshr (pc := 81) hx hb (zdt_at zt_X10_poke_0 43 rfl) rfl ?_
    refine lv_ldc2 (pc := 82) hx hb hown hw3 (zdt_at zt_X10_poke_0 44 rfl) ?_
    refine lv_land (pc := 85) hx hb (zdt_at zt_X10_poke_0 45 rfl) ?_
    refine lv_l2i (pc := 86) hx hb (zdt_at zt_X10_poke_0 46 rfl) rfl ?_
    replace hf := zk_s hf
    refine va_iast (pc := 87) hx hb hK hP hD hS 1 1 rfl rfl hf.1 (zdt_at zt_X10_poke_0 47 rfl) ?_
    replace hf := hf.2
    clear hP hD hS
    intro H locs hP hD hS
    obtain ⟨c_buffer_12, e_⟩ : ∃ q : Nat → Int32, q = (upd c_buffer_4 (p1 + i_3).toNatClampNeg (((p2 >>> (((8 : Int32) * ((p3 - (1 : Int32)) - i_3)).toInt64 &&& 63)) &&& (255 : Int64)).toInt32)) := ⟨_, rfl⟩
    replace hf := zn_s hf e_
    replace hP : va_P D vwCl ([(h0, .inr (12, zmo hm v_1 c_state c_test c_words c_ill c_before c_inRow c_first c_inWindow c_same c_made c_requests c_total c_secrets c_rounds c_high c_low c_keyHigh c_keyLow)), ((hm 6), .inl (cy 1, 512, .inl c_buffer_12))]) H := by rw [e_]; exact hP
    replace hD : va_D A ([(h0, .inr (12, zmo hm v_1 c_state c_test c_words c_ill c_before c_inRow c_first c_inWindow c_same c_made c_requests c_total c_secrets c_rounds c_high c_low c_keyHigh c_keyLow)), ((hm 6), .inl (cy 1, 512, .inl c_buffer_12))]) := by rw [e_]; exact hD
    clear e_
    refine lv_iinc (pc := 88) (v := (i_3 + (1 : Int32))) (lv' := [(5, .int (i_3 + (1 : Int32))), (0, .ref h0), (1, .int p1), (2, .long p2), (4, .int p3)]) hx hb (zdt_at zt_X10_poke_0 48 rfl) hl (k := 4) rfl rfl (by decide) rfl ?_
    clear hl
    intro ls hl
    refine lv_goto (pc := 91) (tgt := 48) hx hb (zdt_at zt_X10_poke_0 49 rfl) (by decide) ?_
    exact hTo _ _ _ (ihself_7 _ hf H locs ls hP hD hS (lv_sub hl [1, 2, 3, 4, 0] rfl))
  clear eK_2
  refine lv_if_ne (pc := 5) (tgt := 12) hx hb (zdt_at zt_X10_poke_0 3 rfl) (by decide) (fun cn_ => ?t_13) (fun cn_ => ?f_14)
  case f_14 =>
    replace hf := zt_s cn_ hf
    clear cn_
    refine lv_iconst (pc := 8) (v := (2 : Int32)) hx hb (zdt_at zt_X10_poke_0 4 rfl) (by decide) ?_
    refine lv_goto (pc := 9) (tgt := 42) hx hb (zdt_at zt_X10_poke_0 5 rfl) (by decide) ?_
    exact hTo _ _ _ (kK_2 _ H locs ls hP hD hS (lv_sub hl [0, 1, 2, 3] rfl) hf)
  replace hf := ze_s cn_ hf
  clear cn_
  refine lv_iload (pc := 12) hx hb (zdt_at zt_X10_poke_0 6 rfl) (lv_at hl 3 rfl) ?_
  refine lv_iconst (pc := 14) (v := (1 : Int32)) hx hb (zdt_at zt_X10_poke_0 7 rfl) (by decide) ?_
  refine lv_bipush (pc := 15) (v := (8 : Int32)) hx hb (zdt_at zt_X10_poke_0 8 rfl) (by decide) ?_
  replace hf := zb_s hf
  obtain ⟨r_15, hc_, hf⟩ := hf
  refine zcs (pc := 17) (rv := (some (.int r_15))) (va_runS (As := [.int p3, .int (1 : Int32), .int (8 : Int32)]) (rest := [.ref h0]) ⟨hx, hb, hml, hown, hts⟩ (c_X10_in l D cy tt H.size p3 (1 : Int32) (8 : Int32) r_15 hc_) (va_cwS 3 hts gX10_poke_X10_in rfl rfl rfl (by decide +kernel) ⟨Nat.le_of_ble_eq_true rfl, Nat.le_of_ble_eq_true rfl⟩) ⟨zblind, zpre hE hS (hP.sub [] rfl) (hD.sub [] (by decide) rfl) (va_free hD hS hA [] rfl)⟩ rfl rfl hl.1 rfl (lv_room (Nat.le_of_ble_eq_true rfl)) (zdt_at zt_X10_poke_0 9 rfl) ⟨Nat.zero_le _, Nat.zero_le _⟩) ?_
  clear hc_
  refine W.eq (g2 := F0 m 20 ls [.int r_15, .ref h0]) rfl ?_
  replace hf := zj_s hf
  obtain ⟨K_16, eK_16, hf⟩ := hf
  have kK_16 : ∀  (H : Heap) (locs : List Loc) (ls : Array Slot), va_P D vwCl ([(h0, .inr (12, zmo hm c_thrown c_state c_test c_words c_ill c_before c_inRow c_first c_inWindow c_same c_made c_requests c_total c_secrets c_rounds c_high c_low c_keyHigh c_keyLow)), ((hm 6), .inl (cy 1, 512, .inl c_buffer))]) H → va_D A ([(h0, .inr (12, zmo hm c_thrown c_state c_test c_words c_ill c_before c_inRow c_first c_inWindow c_same c_made c_requests c_total c_secrets c_rounds c_high c_low c_keyHigh c_keyLow)), ((hm 6), .inl (cy 1, 512, .inl c_buffer))]) → va_S A s.heap H locs → lv_has ls 6 [(0, .ref h0), (1, .int p1), (2, .long p2), (4, .int p3)] → K_16 () = some (c_thrown', c_buffer') → GW H locs (F0 m 41 ls [.ref h0]) := by
    clear hf hl hP hD hS
    intro  H locs ls hP hD hS hl hf
    rw [eK_16] at hf
    clear eK_16
    refine hFr _ _ _ ?_
    refine lv_iconst (pc := 41) (v := (1 : Int32)) hx hb (zdt_at zt_X10_poke_0 20 rfl) (by decide) ?_
    exact hTo _ _ _ (kK_2 _ H locs ls hP hD hS (lv_sub hl [0, 1, 2, 3] rfl) hf)
  clear eK_16
  refine lv_if_eq (pc := 20) (tgt := 41) hx hb (zdt_at zt_X10_poke_0 10 rfl) (by decide) (fun cn_ => ?t_17) (fun cn_ => ?f_18)
  case t_17 =>
    replace hf := zt_s cn_ hf
    clear cn_
    exact hTo _ _ _ (kK_16  H locs ls hP hD hS (lv_sub hl [0, 1, 2, 3] rfl) hf)
  replace hf := ze_s cn_ hf
  clear cn_
  refine lv_iload_n (pc := 23) hx hb (zdt_at zt_X10_poke_0 11 rfl) rfl (lv_at hl 1 rfl) ?_
  refine lv_iconst (pc := 24) (v := (0 : Int32)) hx hb (zdt_at zt_X10_poke_0 12 rfl) (by decide) ?_
  refine lv_sipush (pc := 25) (v := (512 : Int32)) hx hb (zdt_at zt_X10_poke_0 13 rfl) (by decide) ?_
  refine lv_iload (pc := 28) hx hb (zdt_at zt_X10_poke_0 14 rfl) (lv_at hl 3 rfl) ?_
  refine lv_isub (pc := 30) hx hb (zdt_at zt_X10_poke_0 15 rfl) ?_
  replace hf := zb_s hf
  obtain ⟨r_19, hc_, hf⟩ := hf
  refine zcs (pc := 31) (rv := (some (.int r_19))) (va_runS (As := [.int p1, .int (0 : Int32), .int ((512 : Int32) - p3)]) (rest := [.ref h0]) ⟨hx, hb, hml, hown, hts⟩ (c_X10_in l D cy tt H.size p1 (0 : Int32) ((512 : Int32) - p3) r_19 hc_) (va_cwS 3 hts gX10_poke_X10_in rfl rfl rfl (by decide +kernel) ⟨Nat.le_of_ble_eq_true rfl, Nat.le_of_ble_eq_true rfl⟩) ⟨zblind, zpre hE hS (hP.sub [] rfl) (hD.sub [] (by decide) rfl) (va_free hD hS hA [] rfl)⟩ rfl rfl hl.1 rfl (lv_room (Nat.le_of_ble_eq_true rfl)) (zdt_at zt_X10_poke_0 16 rfl) ⟨Nat.zero_le _, Nat.zero_le _⟩) ?_
  clear hc_
  refine W.eq (g2 := F0 m 34 ls [.int r_19, .ref h0]) rfl ?_
  refine lv_if_eq (pc := 34) (tgt := 41) hx hb (zdt_at zt_X10_poke_0 17 rfl) (by decide) (fun cn_ => ?t_20) (fun cn_ => ?f_21)
  case t_20 =>
    replace hf := zt_s cn_ hf
    clear cn_
    exact hTo _ _ _ (kK_16  H locs ls hP hD hS (lv_sub hl [0, 1, 2, 3] rfl) hf)
  replace hf := ze_s cn_ hf
  clear cn_
  refine lv_iconst (pc := 37) (v := (0 : Int32)) hx hb (zdt_at zt_X10_poke_0 18 rfl) (by decide) ?_
  refine lv_goto (pc := 38) (tgt := 42) hx hb (zdt_at zt_X10_poke_0 19 rfl) (by decide) ?_
  exact hTo _ _ _ (kK_2 _ H locs ls hP hD hS (lv_sub hl [0, 1, 2, 3] rfl) hf)
set_option maxHeartbeats 4000000 in
set_option maxRecDepth 100000 in
theorem c_X10_isIn (l : Launch) (D : va_G) (cy : Nat → ClassId) (tt : Nat → Nat) (sz : Nat) (h0 : Nat) (hm : Nat → Nat) (c_state : Int32) (c_thrown : Int32) (c_test : Int32) (c_words : Int32) (c_ill : Int32) (c_before : Int32) (c_inRow : Int32) (c_first : Int32) (c_inWindow : Int32) (c_same : Int32) (c_made : Int32) (c_requests : Int32) (c_total : Int64) (c_secrets : Int32) (c_rounds : Int32) (c_high : Int64) (c_low : Int64) (c_keyHigh : Int64) (c_keyLow : Int64) (r_ : Int32) (hf : f_X10_isIn c_state = some r_) : Met l yX10_isIn wsX10_isIn ({ frames := 0, cells := 0, slots := 0, locals := 0 }) (zPc D cy tt sz [.ref h0] ([(h0, .inr (12, zmo hm c_thrown c_state c_test c_words c_ill c_before c_inRow c_first c_inWindow c_same c_made c_requests c_total c_secrets c_rounds c_high c_low c_keyHigh c_keyLow))])) (fun _ st o t => o = .returned (some (.int r_)) ∧ t.heap = st.heap) 0 0 (fun _ => False) := by
  refine Met.ofW (cc := cX10_isIn) (maxL := 1) (ret := (some .boolean)) (by decide) rfl ?_
  intro p e s m args below meth c s₁ B hml hv
  obtain ⟨rfl, rfl, hP, hD0, hE⟩ := hv
  have hx := B.exec
  have hb := B.bytes
  have hr := B.returns
  have hts := atoms_spec (ws := wsX10_isIn) B.pre
  have hown : s.vm.findClass RX10 = some m.cls := findClass_of_methodNamed B.named
  have hlocks := B.notSynchronized
  clear B
  have hD := hD0.self (sz := s.heap.size)
  generalize hAe : va_A ([(h0, .inr (12, zmo hm c_thrown c_state c_test c_words c_ill c_before c_inRow c_first c_inWindow c_same c_made c_requests c_total c_secrets c_rounds c_high c_low c_keyHigh c_keyLow))]) s.heap.size = A at hD hE
  have hA : ∀ q : Nat, s.heap.size ≤ q → A q := fun q h => by rw [← hAe]; exact Or.inr h
  clear hAe hD0
  have hS : va_S A s.heap s.heap [] := va_S.rf
  have hK := hE.1
  have hw0 := hts (.fieldLink RX10 273 "SealedModuleModel" "state" "I") (by decide +kernel)
  have hcX10 : ∀ w ∈ u_ws RX10 TX10 52, w ∈ wsX10_isIn := (fun _ h => List.mem_cons_of_mem _ (List.mem_append_right _ h))
  have hl := lv_entry ([.ref h0]) (n := 1) (Nat.le_of_ble_eq_true rfl)
  rw [lg_entry_eq]
  generalize (lg_sl ([.ref h0]) ++ List.replicate (1 - (lg_sl ([.ref h0])).length) Slot.unset).toArray = ls at hl ⊢
  replace hl : lv_has ls 1 [(0, .ref h0)] := hl
  unfold f_X10_isIn at hf
  refine zgo (fun GW hTo hFr => ?_)
  refine hFr _ _ _ ?_
  refine lv_aload_n (pc := 0) hx hb (zdt_at zt_X10_isIn_0 0 rfl) rfl (lv_at hl 0 rfl) ?_
  refine va_get (pc := 1) (D := D) (ci := 12) (v := .int c_state) (C := RX10) (T := TX10) (N := 52) hx hb hts hcX10 hown hK hP 0 rfl rfl 2 (by decide) hw0 (fun _ h9 => h9) rfl (zdt_at zt_X10_isIn_0 1 rfl) ?_
  refine lv_iconst (pc := 4) (v := (3 : Int32)) hx hb (zdt_at zt_X10_isIn_0 2 rfl) (by decide) ?_
  refine lv_icmp_eq (pc := 5) (tgt := 16) hx hb (zdt_at zt_X10_isIn_0 3 rfl) (by decide) (fun cn_ => ?t_1) (fun cn_ => ?f_2)
  case t_1 =>
    replace hf := zt_s cn_ hf
    clear cn_
    refine lv_iconst (pc := 16) (v := (1 : Int32)) hx hb (zdt_at zt_X10_isIn_0 8 rfl) (by decide) ?_
    refine lv_goto (pc := 17) (tgt := 21) hx hb (zdt_at zt_X10_isIn_0 9 rfl) (by decide) ?_
    cases hf
    exact W.zret (pc := 21) hx hb hr rfl (fun t ht hW => ⟨rfl, ht⟩) (fun _ h => nomatch h) (zdt_at zt_X10_isIn_0 11 rfl)
  replace hf := ze_s cn_ hf
  clear cn_
  refine lv_aload_n (pc := 8) hx hb (zdt_at zt_X10_isIn_0 4 rfl) rfl (lv_at hl 0 rfl) ?_
  refine va_get (pc := 9) (D := D) (ci := 12) (v := .int c_state) (C := RX10) (T := TX10) (N := 52) hx hb hts hcX10 hown hK hP 0 rfl rfl 2 (by decide) hw0 (fun _ h9 => h9) rfl (zdt_at zt_X10_isIn_0 5 rfl) ?_
  refine lv_iconst (pc := 12) (v := (4 : Int32)) hx hb (zdt_at zt_X10_isIn_0 6 rfl) (by decide) ?_
  refine lv_icmp_ne (pc := 13) (tgt := 20) hx hb (zdt_at zt_X10_isIn_0 7 rfl) (by decide) (fun cn_ => ?t_3) (fun cn_ => ?f_4)
  case t_3 =>
    replace hf := ze_s cn_ hf
    clear cn_
    refine lv_iconst (pc := 20) (v := (0 : Int32)) hx hb (zdt_at zt_X10_isIn_0 10 rfl) (by decide) ?_
    cases hf
    exact W.zret (pc := 21) hx hb hr rfl (fun t ht hW => ⟨rfl, ht⟩) (fun _ h => nomatch h) (zdt_at zt_X10_isIn_0 11 rfl)
  replace hf := zt_s cn_ hf
  clear cn_
  refine lv_iconst (pc := 16) (v := (1 : Int32)) hx hb (zdt_at zt_X10_isIn_0 8 rfl) (by decide) ?_
  refine lv_goto (pc := 17) (tgt := 21) hx hb (zdt_at zt_X10_isIn_0 9 rfl) (by decide) ?_
  cases hf
  exact W.zret (pc := 21) hx hb hr rfl (fun t ht hW => ⟨rfl, ht⟩) (fun _ h => nomatch h) (zdt_at zt_X10_isIn_0 11 rfl)
set_option maxHeartbeats 4000000 in
set_option maxRecDepth 100000 in
theorem c_X10_peek (l : Launch) (D : va_G) (cy : Nat → ClassId) (tt : Nat → Nat) (sz : Nat) (h0 : Nat) (hm : Nat → Nat) (p1 : Int32) (c_state : Int32) (c_thrown : Int32) (c_buffer : Nat → Int32) (c_test : Int32) (c_words : Int32) (c_ill : Int32) (c_before : Int32) (c_inRow : Int32) (c_first : Int32) (c_inWindow : Int32) (c_same : Int32) (c_made : Int32) (c_requests : Int32) (c_total : Int64) (c_secrets : Int32) (c_rounds : Int32) (c_high : Int64) (c_low : Int64) (c_keyHigh : Int64) (c_keyLow : Int64) (r_ : Int64) (c_thrown' : Int32) (hf : f_X10_peek p1 c_state c_thrown c_buffer = some (r_, c_thrown')) : Met l yX10_peek wsX10_peek ({ frames := 1, cells := 0, slots := 0, locals := 22 }) (zPc D cy tt sz [.ref h0, .int p1] ([(h0, .inr (12, zmo hm c_thrown c_state c_test c_words c_ill c_before c_inRow c_first c_inWindow c_same c_made c_requests c_total c_secrets c_rounds c_high c_low c_keyHigh c_keyLow)), ((hm 6), .inl (cy 1, 512, .inl c_buffer))])) (zQ D (some (.long r_)) ([(h0, .inr (12, zmo hm c_thrown' c_state c_test c_words c_ill c_before c_inRow c_first c_inWindow c_same c_made c_requests c_total c_secrets c_rounds c_high c_low c_keyHigh c_keyLow)), ((hm 6), .inl (cy 1, 512, .inl c_buffer))]) (va_A ([(h0, .inr (12, zmo hm c_thrown c_state c_test c_words c_ill c_before c_inRow c_first c_inWindow c_same c_made c_requests c_total c_secrets c_rounds c_high c_low c_keyHigh c_keyLow)), ((hm 6), .inl (cy 1, 512, .inl c_buffer))]) sz)) 0 0 (va_A ([(h0, .inr (12, zmo hm c_thrown c_state c_test c_words c_ill c_before c_inRow c_first c_inWindow c_same c_made c_requests c_total c_secrets c_rounds c_high c_low c_keyHigh c_keyLow)), ((hm 6), .inl (cy 1, 512, .inl c_buffer))]) sz) := by
  refine Met.ofW (cc := cX10_peek) (maxL := 5) (ret := (some .long)) (by decide) rfl ?_
  intro p e s m args below meth c s₁ B hml hv
  obtain ⟨rfl, rfl, hP, hD0, hE⟩ := hv
  have hx := B.exec
  have hb := B.bytes
  have hr := B.returns
  have hts := atoms_spec (ws := wsX10_peek) B.pre
  have hown : s.vm.findClass RX10 = some m.cls := findClass_of_methodNamed B.named
  have hlocks := B.notSynchronized
  clear B
  have hD := hD0.self (sz := s.heap.size)
  generalize hAe : va_A ([(h0, .inr (12, zmo hm c_thrown c_state c_test c_words c_ill c_before c_inRow c_first c_inWindow c_same c_made c_requests c_total c_secrets c_rounds c_high c_low c_keyHigh c_keyLow)), ((hm 6), .inl (cy 1, 512, .inl c_buffer))]) s.heap.size = A at hD hE ⊢
  have hA : ∀ q : Nat, s.heap.size ≤ q → A q := fun q h => by rw [← hAe]; exact Or.inr h
  clear hAe hD0
  have hS : va_S A s.heap s.heap [] := va_S.rf
  have hK := hE.1
  have hw0 := hts (.fieldLink RX10 189 "SealedModuleModel" "thrown" "I") (by decide +kernel)
  have hw1 := hts (.fieldLink RX10 84 "SealedModuleModel" "buffer" "[I") (by decide +kernel)
  have hcX10 : ∀ w ∈ u_ws RX10 TX10 52, w ∈ wsX10_peek := (fun _ h => List.mem_cons_of_mem _ (List.mem_append_right _ h))
  have hl := lv_entry ([.ref h0, .int p1]) (n := 5) (Nat.le_of_ble_eq_true rfl)
  rw [lg_entry_eq]
  generalize (lg_sl ([.ref h0, .int p1]) ++ List.replicate (5 - (lg_sl ([.ref h0, .int p1])).length) Slot.unset).toArray = ls at hl ⊢
  replace hl : lv_has ls 5 [(0, .ref h0), (1, .int p1)] := hl
  unfold f_X10_peek at hf
  refine zgo (fun GW hTo hFr => ?_)
  refine hFr _ _ _ ?_
  obtain ⟨H, hHe⟩ : ∃ H, H = s.heap := ⟨_, rfl⟩
  obtain ⟨locs, hLe⟩ : ∃ L : List Loc, L = [] := ⟨_, rfl⟩
  rw [← hHe] at hP
  replace hS : va_S A s.heap H locs := by rw [hHe, hLe]; exact hS
  refine zat hHe.symm hLe.symm ?_
  clear hHe hLe
  refine lv_aload_n (pc := 0) hx hb (zdt_at zt_X10_peek_0 0 rfl) rfl (lv_at hl 0 rfl) ?_
  refine lv_iload_n (pc := 1) hx hb (zdt_at zt_X10_peek_0 1 rfl) rfl (lv_at hl 1 rfl) ?_
  refine lv_iconst (pc := 2) (v := (0 : Int32)) hx hb (zdt_at zt_X10_peek_0 2 rfl) (by decide) ?_
  refine lv_sipush (pc := 3) (v := (504 : Int32)) hx hb (zdt_at zt_X10_peek_0 3 rfl) (by decide) ?_
  replace hf := zb_s hf
  obtain ⟨r_1, hc_, hf⟩ := hf
  refine zcs (pc := 6) (rv := (some (.int r_1))) (va_runS (As := [.int p1, .int (0 : Int32), .int (504 : Int32)]) (rest := [.ref h0]) ⟨hx, hb, hml, hown, hts⟩ (c_X10_in l D cy tt H.size p1 (0 : Int32) (504 : Int32) r_1 hc_) (va_cwS 3 hts gX10_peek_X10_in rfl rfl rfl (by decide +kernel) ⟨Nat.le_of_ble_eq_true rfl, Nat.le_of_ble_eq_true rfl⟩) ⟨zblind, zpre hE hS (hP.sub [] rfl) (hD.sub [] (by decide) rfl) (va_free hD hS hA [] rfl)⟩ rfl rfl hl.1 rfl (lv_room (Nat.le_of_ble_eq_true rfl)) (zdt_at zt_X10_peek_0 4 rfl) ⟨Nat.zero_le _, Nat.zero_le _⟩) ?_
  clear hc_
  refine W.eq (g2 := F0 m 9 ls [.int r_1, .ref h0]) rfl ?_
  replace hf := zj_s hf
  obtain ⟨K_3, eK_3, hf⟩ := hf
  have kK_3 : ∀ (v_2 : Int32) (H : Heap) (locs : List Loc) (ls : Array Slot), va_P D vwCl ([(h0, .inr (12, zmo hm c_thrown c_state c_test c_words c_ill c_before c_inRow c_first c_inWindow c_same c_made c_requests c_total c_secrets c_rounds c_high c_low c_keyHigh c_keyLow)), ((hm 6), .inl (cy 1, 512, .inl c_buffer))]) H → va_D A ([(h0, .inr (12, zmo hm c_thrown c_state c_test c_words c_ill c_before c_inRow c_first c_inWindow c_same c_made c_requests c_total c_secrets c_rounds c_high c_low c_keyHigh c_keyLow)), ((hm 6), .inl (cy 1, 512, .inl c_buffer))]) → va_S A s.heap H locs → lv_has ls 5 [(0, .ref h0), (1, .int p1)] → K_3 v_2 = some (r_, c_thrown') → GW H locs (F0 m 17 ls [.int v_2, .ref h0]) := by
    clear hf hl hP hD hS
    intro v_2 H locs ls hP hD hS hl hf
    rw [eK_3] at hf
    clear eK_3
    refine hFr _ _ _ ?_
    refine va_put (pc := 17) (D := D) (ci := 12) (v := .int v_2) (ty := .int) (C := RX10) (T := TX10) (N := 52) hx hb hts hcX10 tyX10 tyX10_ok nmX10 hown hK hP hD hS 0 rfl rfl 1 (by decide) hw0 (fun _ h9 => h9) rfl (by decide +kernel) rfl rfl (Nat.le_of_ble_eq_true rfl) (zdt_at zt_X10_peek_0 9 rfl) ?_
    clear hP hD hS
    intro H locs hP hD hS
    replace hP : va_P D vwCl ([(h0, .inr (12, zmo hm v_2 c_state c_test c_words c_ill c_before c_inRow c_first c_inWindow c_same c_made c_requests c_total c_secrets c_rounds c_high c_low c_keyHigh c_keyLow)), ((hm 6), .inl (cy 1, 512, .inl c_buffer))]) H := hP
    replace hD : va_D A ([(h0, .inr (12, zmo hm v_2 c_state c_test c_words c_ill c_before c_inRow c_first c_inWindow c_same c_made c_requests c_total c_secrets c_rounds c_high c_low c_keyHigh c_keyLow)), ((hm 6), .inl (cy 1, 512, .inl c_buffer))]) := hD
    refine lv_lconst (pc := 20) (v := (0 : Int64)) hx hb (zdt_at zt_X10_peek_0 10 rfl) (by decide) ?_
    refine lv_lstore_n (pc := 21) (lv' := [(2, .long (0 : Int64)), (0, .ref h0), (1, .int p1)]) hx hb (zdt_at zt_X10_peek_0 11 rfl) rfl hl (by decide) rfl ?_
    clear hl
    intro ls hl
    refine lv_iconst (pc := 22) (v := (0 : Int32)) hx hb (zdt_at zt_X10_peek_0 12 rfl) (by decide) ?_
    refine lv_istore (pc := 23) (lv' := [(4, .int (0 : Int32)), (2, .long (0 : Int64)), (0, .ref h0), (1, .int p1)]) hx hb (zdt_at zt_X10_peek_0 13 rfl) hl (by decide) rfl ?_
    clear hl
    intro ls hl
    replace hf := zj_s hf
    obtain ⟨K_7, eK_7, hf⟩ := hf
    have kK_7 : ∀ (v_6 : Int64) (H : Heap) (locs : List Loc) (ls : Array Slot), va_P D vwCl ([(h0, .inr (12, zmo hm v_2 c_state c_test c_words c_ill c_before c_inRow c_first c_inWindow c_same c_made c_requests c_total c_secrets c_rounds c_high c_low c_keyHigh c_keyLow)), ((hm 6), .inl (cy 1, 512, .inl c_buffer))]) H → va_D A ([(h0, .inr (12, zmo hm v_2 c_state c_test c_words c_ill c_before c_inRow c_first c_inWindow c_same c_made c_requests c_total c_secrets c_rounds c_high c_low c_keyHigh c_keyLow)), ((hm 6), .inl (cy 1, 512, .inl c_buffer))]) → va_S A s.heap H locs → lv_has ls 5 [(2, .long v_6)] → K_7 v_6 = some (r_, c_thrown') → GW H locs (F0 m 68 ls []) := by
      clear hf hl hP hD hS
      intro v_6 H locs ls hP hD hS hl hf
      rw [eK_7] at hf
      clear eK_7
      refine hFr _ _ _ ?_
      refine lv_lload_n (pc := 68) hx hb (zdt_at zt_X10_peek_0 37 rfl) rfl (lv_at hl 0 rfl) ?_
      cases hf
      exact W.lret (pc := 69) hx hb hr (fun t ht hW => ⟨rfl, ⟨by rw [ht]; exact hP, hD⟩, hS.F ht⟩) hS.2.2 (zdt_at zt_X10_peek_0 38 rfl)
    clear eK_7
    refine hTo _ _ _ (zl_go (fun z => match z with | (i_4, i_5) => ∀ (H : Heap) (locs : List Loc) (ls : Array Slot), va_P D vwCl ([(h0, .inr (12, zmo hm v_2 c_state c_test c_words c_ill c_before c_inRow c_first c_inWindow c_same c_made c_requests c_total c_secrets c_rounds c_high c_low c_keyHigh c_keyLow)), ((hm 6), .inl (cy 1, 512, .inl c_buffer))]) H → va_D A ([(h0, .inr (12, zmo hm v_2 c_state c_test c_words c_ill c_before c_inRow c_first c_inWindow c_same c_made c_requests c_total c_secrets c_rounds c_high c_low c_keyHigh c_keyLow)), ((hm 6), .inl (cy 1, 512, .inl c_buffer))]) → va_S A s.heap H locs → lv_has ls 5 [(0, .ref h0), (1, .int p1), (2, .long i_4), (4, .int i_5)] → GW H locs (F0 m 25 ls [])) hf ?_ H locs ls hP hD hS (lv_sub hl [2, 3, 1, 0] rfl))
    clear hf hl hP hD hS
    intro self_8 ihself_8 z hf
    obtain ⟨i_4, i_5⟩ := z
    intro H locs ls hP hD hS hl
    refine hFr _ _ _ ?_
    unfold b_X10_peek_25 at hf
    refine lv_iload (pc := 25) hx hb (zdt_at zt_X10_peek_0 14 rfl) (lv_at hl 3 rfl) ?_
    refine lv_bipush (pc := 27) (v := (8 : Int32)) hx hb (zdt_at zt_X10_peek_0 15 rfl) (by decide) ?_
    refine lv_icmp_ge (pc := 29) (tgt := 68) hx hb (zdt_at zt_X10_peek_0 16 rfl) (by decide) (fun cn_ => ?t_9) (fun cn_ => ?f_10)
    case t_9 =>
      replace hf := zt_s cn_ hf
      clear cn_
      exact hTo _ _ _ (kK_7 _ H locs ls hP hD hS (lv_sub hl [2] rfl) hf)
    replace hf := ze_s cn_ hf
    clear cn_
    refine lv_aload_n (pc := 32) hx hb (zdt_at zt_X10_peek_0 17 rfl) rfl (lv_at hl 0 rfl) ?_
    refine va_get (pc := 33) (D := D) (ci := 12) (v := .int v_2) (C := RX10) (T := TX10) (N := 52) hx hb hts hcX10 hown hK hP 0 rfl rfl 1 (by decide) hw0 (fun _ h9 => h9) rfl (zdt_at zt_X10_peek_0 18 rfl) ?_
    refine lv_if_ne (pc := 36) (tgt := 68) hx hb (zdt_at zt_X10_peek_0 19 rfl) (by decide) (fun cn_ => ?t_11) (fun cn_ => ?f_12)
    case t_11 =>
      replace hf := ze_s cn_ hf
      clear cn_
      exact hTo _ _ _ (kK_7 _ H locs ls hP hD hS (lv_sub hl [2] rfl) hf)
    replace hf := zt_s cn_ hf
    clear cn_
    refine lv_aload_n (pc := 39) hx hb (zdt_at zt_X10_peek_0 20 rfl) rfl (lv_at hl 0 rfl) ?_
    replace hf := zb_s hf
    obtain ⟨r_13, hc_, hf⟩ := hf
    refine zcs (pc := 40) (rv := (some (.int r_13))) (va_runV (As := []) (rest := []) ⟨hx, hb, hml, hown, hts⟩ (c_X10_isIn l D cy tt H.size h0 hm c_state v_2 c_test c_words c_ill c_before c_inRow c_first c_inWindow c_same c_made c_requests c_total c_secrets c_rounds c_high c_low c_keyHigh c_keyLow r_13 hc_) (cwV 0 hts gX10_peek_X10_isIn rfl rfl rfl (by decide +kernel) ⟨Nat.le_of_ble_eq_true rfl, Nat.le_of_ble_eq_true rfl⟩) ⟨zblind, va_recv hK hP (ci := 12) (q0 := 0) rfl rfl, zpre hE hS (hP.sub [0] rfl) (hD.sub [0] (by decide) rfl) (va_free hD hS hA [0] rfl)⟩ rfl rfl hl.1 rfl (lv_room (Nat.le_of_ble_eq_true rfl)) (zdt_at zt_X10_peek_0 21 rfl) ⟨Nat.zero_le _, Nat.zero_le _⟩) ?_
    clear hc_
    refine W.eq (g2 := F0 m 43 ls [.int r_13]) rfl ?_
    refine lv_if_eq (pc := 43) (tgt := 68) hx hb (zdt_at zt_X10_peek_0 22 rfl) (by decide) (fun cn_ => ?t_14) (fun cn_ => ?f_15)
    case t_14 =>
      replace hf := zt_s cn_ hf
      clear cn_
      exact hTo _ _ _ (kK_7 _ H locs ls hP hD hS (lv_sub hl [2] rfl) hf)
    replace hf := ze_s cn_ hf
    clear cn_
    refine lv_lload_n (pc := 46) hx hb (zdt_at zt_X10_peek_0 23 rfl) rfl (lv_at hl 2 rfl) ?_
    refine lv_bipush (pc := 47) (v := (8 : Int32)) hx hb (zdt_at zt_X10_peek_0 24 rfl) (by decide) ?_
    refine lv_lshl (pc := 49) hx hb (zdt_at zt_X10_peek_0 25 rfl) rfl ?_
    refine lv_aload_n (pc := 50) hx hb (zdt_at zt_X10_peek_0 26 rfl) rfl (lv_at hl 0 rfl) ?_
    refine va_get (pc := 51) (D := D) (ci := 12) (v := .ref (hm 6)) (C := RX10) (T := TX10) (N := 52) hx hb hts hcX10 hown hK hP 0 rfl rfl 6 (by decide) hw1 (fun _ h9 => h9) rfl (zdt_at zt_X10_peek_0 27 rfl) ?_
    refine lv_iload_n (pc := 54) hx hb (zdt_at zt_X10_peek_0 28 rfl) rfl (lv_at hl 1 rfl) ?_
    refine lv_iload (pc := 55) hx hb (zdt_at zt_X10_peek_0 29 rfl) (lv_at hl 3 rfl) ?_
    refine lv_iadd (pc := 57) hx hb (zdt_at zt_X10_peek_0 30 rfl) ?_
    replace hf := zk_s hf
    refine va_iald (pc := 58) hx hb hK hP 1 1 rfl rfl hf.1 (zdt_at zt_X10_peek_0 31 rfl) ?_
    replace hf := hf.2
    refine lv_i2l (pc := 59) hx hb (zdt_at zt_X10_peek_0 32 rfl) rfl ?_
    refine lv_lor (pc := 60) hx hb (zdt_at zt_X10_peek_0 33 rfl) ?_
    refine lv_topl (fun x_16 e_ => ?_)
    replace hf := zn_s hf e_
    clear e_
    refine lv_lstore_n (pc := 61) (lv' := [(2, .long x_16), (0, .ref h0), (1, .int p1), (4, .int i_5)]) hx hb (zdt_at zt_X10_peek_0 34 rfl) rfl hl (by decide) rfl ?_
    clear hl
    intro ls hl
    refine lv_iinc (pc := 62) (v := (i_5 + (1 : Int32))) (lv' := [(4, .int (i_5 + (1 : Int32))), (2, .long x_16), (0, .ref h0), (1, .int p1)]) hx hb (zdt_at zt_X10_peek_0 35 rfl) hl (k := 3) rfl rfl (by decide) rfl ?_
    clear hl
    intro ls hl
    refine lv_goto (pc := 65) (tgt := 25) hx hb (zdt_at zt_X10_peek_0 36 rfl) (by decide) ?_
    exact hTo _ _ _ (ihself_8 _ hf H locs ls hP hD hS (lv_sub hl [2, 3, 1, 0] rfl))
  clear eK_3
  refine lv_if_eq (pc := 9) (tgt := 16) hx hb (zdt_at zt_X10_peek_0 5 rfl) (by decide) (fun cn_ => ?t_17) (fun cn_ => ?f_18)
  case t_17 =>
    replace hf := zt_s cn_ hf
    clear cn_
    refine lv_iconst (pc := 16) (v := (1 : Int32)) hx hb (zdt_at zt_X10_peek_0 8 rfl) (by decide) ?_
    exact hTo _ _ _ (kK_3 _ H locs ls hP hD hS (lv_sub hl [0, 1] rfl) hf)
  replace hf := ze_s cn_ hf
  clear cn_
  refine lv_iconst (pc := 12) (v := (0 : Int32)) hx hb (zdt_at zt_X10_peek_0 6 rfl) (by decide) ?_
  refine lv_goto (pc := 13) (tgt := 17) hx hb (zdt_at zt_X10_peek_0 7 rfl) (by decide) ?_
  exact hTo _ _ _ (kK_3 _ H locs ls hP hD hS (lv_sub hl [0, 1] rfl) hf)
