set_option maxHeartbeats 4000000 in
set_option maxRecDepth 100000 in
theorem c_X10_derive (l : Launch) (D : va_G) (cy : Nat → ClassId) (tt : Nat → Nat) (sz : Nat) (h0 : Nat) (hm : Nat → Nat) (p1 : Int32) (p2 : Int32) (p3 : Int32) (p4 : Int32) (p5 : Int32) (p6 : Int32) (c_secrets : Int32) (c_state : Int32) (c_thrown : Int32) (c_total : Int64) (c_ROUND : Nat → Int32) (c_START : Nat → Int32) (c_buffer : Nat → Int32) (c_counters : Nat → Int32) (c_digest : Nat → Int32) (c_h : Nat → Int32) (c_holder : Nat → Int32) (c_inner : Nat → Int32) (c_keys : Nat → Int32) (c_kind : Nat → Int32) (c_length : Nat → Int32) (c_message : Nat → Int32) (c_secret : Nat → Int32) (c_usage : Nat → Int32) (c_uses : Nat → Int32) (c_w : Nat → Int32) (c_x : Nat → Int32) (c_test : Int32) (c_words : Int32) (c_ill : Int32) (c_before : Int32) (c_inRow : Int32) (c_first : Int32) (c_inWindow : Int32) (c_same : Int32) (c_made : Int32) (c_requests : Int32) (c_rounds : Int32) (c_high : Int64) (c_low : Int64) (c_keyHigh : Int64) (c_keyLow : Int64) (r_ : Int32) (c_secrets' : Int32) (c_thrown' : Int32) (c_total' : Int64) (c_counters' : Nat → Int32) (c_digest' : Nat → Int32) (c_h' : Nat → Int32) (c_holder' : Nat → Int32) (c_inner' : Nat → Int32) (c_keys' : Nat → Int32) (c_kind' : Nat → Int32) (c_length' : Nat → Int32) (c_message' : Nat → Int32) (c_secret' : Nat → Int32) (c_usage' : Nat → Int32) (c_uses' : Nat → Int32) (c_w' : Nat → Int32) (c_x' : Nat → Int32) (hf : f_X10_derive p1 p2 p3 p4 p5 p6 c_secrets c_state c_thrown c_total c_ROUND c_START c_buffer c_counters c_digest c_h c_holder c_inner c_keys c_kind c_length c_message c_secret c_usage c_uses c_w c_x = some (r_, c_secrets', c_thrown', c_total', c_counters', c_digest', c_h', c_holder', c_inner', c_keys', c_kind', c_length', c_message', c_secret', c_usage', c_uses', c_w', c_x')) : Met l yX10_derive wsX10_derive ({ frames := 5, cells := 0, slots := 0, locals := 110 }) (zPc D cy tt sz [.ref h0, .int p1, .int p2, .int p3, .int p4, .int p5, .int p6] ([(h0, .inr (12, zmo hm c_thrown c_state c_test c_words c_ill c_before c_inRow c_first c_inWindow c_same c_made c_requests c_total c_secrets c_rounds c_high c_low c_keyHigh c_keyLow)), ((hm 0), .inl (cy 1, 64, .inl c_ROUND)), ((hm 47), .inl (cy 1, 8, .inl c_START)), ((hm 6), .inl (cy 1, 512, .inl c_buffer)), ((hm 5), .inl (cy 1, 3, .inl c_counters)), ((hm 35), .inl (cy 1, 32, .inl c_digest)), ((hm 30), .inl (cy 1, 8, .inl c_h)), ((hm 12), .inl (cy 1, 16, .inl c_holder)), ((hm 36), .inl (cy 1, 32, .inl c_inner)), ((hm 14), .inl (cy 1, 1024, .inl c_keys)), ((hm 9), .inl (cy 1, 16, .inl c_kind)), ((hm 10), .inl (cy 1, 16, .inl c_length)), ((hm 33), .inl (cy 1, 64, .inl c_message)), ((hm 37), .inl (cy 1, 64, .inl c_secret)), ((hm 11), .inl (cy 1, 16, .inl c_usage)), ((hm 13), .inl (cy 1, 16, .inl c_uses)), ((hm 31), .inl (cy 1, 64, .inl c_w)), ((hm 32), .inl (cy 1, 8, .inl c_x))])) (zQ D (some (.int r_)) ([(h0, .inr (12, zmo hm c_thrown' c_state c_test c_words c_ill c_before c_inRow c_first c_inWindow c_same c_made c_requests c_total' c_secrets' c_rounds c_high c_low c_keyHigh c_keyLow)), ((hm 0), .inl (cy 1, 64, .inl c_ROUND)), ((hm 47), .inl (cy 1, 8, .inl c_START)), ((hm 6), .inl (cy 1, 512, .inl c_buffer)), ((hm 5), .inl (cy 1, 3, .inl c_counters')), ((hm 35), .inl (cy 1, 32, .inl c_digest')), ((hm 30), .inl (cy 1, 8, .inl c_h')), ((hm 12), .inl (cy 1, 16, .inl c_holder')), ((hm 36), .inl (cy 1, 32, .inl c_inner')), ((hm 14), .inl (cy 1, 1024, .inl c_keys')), ((hm 9), .inl (cy 1, 16, .inl c_kind')), ((hm 10), .inl (cy 1, 16, .inl c_length')), ((hm 33), .inl (cy 1, 64, .inl c_message')), ((hm 37), .inl (cy 1, 64, .inl c_secret')), ((hm 11), .inl (cy 1, 16, .inl c_usage')), ((hm 13), .inl (cy 1, 16, .inl c_uses')), ((hm 31), .inl (cy 1, 64, .inl c_w')), ((hm 32), .inl (cy 1, 8, .inl c_x'))]) (va_A ([(h0, .inr (12, zmo hm c_thrown c_state c_test c_words c_ill c_before c_inRow c_first c_inWindow c_same c_made c_requests c_total c_secrets c_rounds c_high c_low c_keyHigh c_keyLow)), ((hm 0), .inl (cy 1, 64, .inl c_ROUND)), ((hm 47), .inl (cy 1, 8, .inl c_START)), ((hm 6), .inl (cy 1, 512, .inl c_buffer)), ((hm 5), .inl (cy 1, 3, .inl c_counters)), ((hm 35), .inl (cy 1, 32, .inl c_digest)), ((hm 30), .inl (cy 1, 8, .inl c_h)), ((hm 12), .inl (cy 1, 16, .inl c_holder)), ((hm 36), .inl (cy 1, 32, .inl c_inner)), ((hm 14), .inl (cy 1, 1024, .inl c_keys)), ((hm 9), .inl (cy 1, 16, .inl c_kind)), ((hm 10), .inl (cy 1, 16, .inl c_length)), ((hm 33), .inl (cy 1, 64, .inl c_message)), ((hm 37), .inl (cy 1, 64, .inl c_secret)), ((hm 11), .inl (cy 1, 16, .inl c_usage)), ((hm 13), .inl (cy 1, 16, .inl c_uses)), ((hm 31), .inl (cy 1, 64, .inl c_w)), ((hm 32), .inl (cy 1, 8, .inl c_x))]) sz)) 0 0 (va_A ([(h0, .inr (12, zmo hm c_thrown c_state c_test c_words c_ill c_before c_inRow c_first c_inWindow c_same c_made c_requests c_total c_secrets c_rounds c_high c_low c_keyHigh c_keyLow)), ((hm 0), .inl (cy 1, 64, .inl c_ROUND)), ((hm 47), .inl (cy 1, 8, .inl c_START)), ((hm 6), .inl (cy 1, 512, .inl c_buffer)), ((hm 5), .inl (cy 1, 3, .inl c_counters)), ((hm 35), .inl (cy 1, 32, .inl c_digest)), ((hm 30), .inl (cy 1, 8, .inl c_h)), ((hm 12), .inl (cy 1, 16, .inl c_holder)), ((hm 36), .inl (cy 1, 32, .inl c_inner)), ((hm 14), .inl (cy 1, 1024, .inl c_keys)), ((hm 9), .inl (cy 1, 16, .inl c_kind)), ((hm 10), .inl (cy 1, 16, .inl c_length)), ((hm 33), .inl (cy 1, 64, .inl c_message)), ((hm 37), .inl (cy 1, 64, .inl c_secret)), ((hm 11), .inl (cy 1, 16, .inl c_usage)), ((hm 13), .inl (cy 1, 16, .inl c_uses)), ((hm 31), .inl (cy 1, 64, .inl c_w)), ((hm 32), .inl (cy 1, 8, .inl c_x))]) sz) := by
  refine Met.ofW (cc := cX10_derive) (maxL := 10) (ret := (some .int)) (by decide) rfl ?_
  intro p e s m args below meth c s₁ B hml hv
  obtain ⟨rfl, rfl, hP, hD0, hE⟩ := hv
  have hx := B.exec
  have hb := B.bytes
  have hr := B.returns
  have hts := atoms_spec (ws := wsX10_derive) B.pre
  have hown : s.vm.findClass RX10 = some m.cls := findClass_of_methodNamed B.named
  have hlocks := B.notSynchronized
  clear B
  have hD := hD0.self (sz := s.heap.size)
  generalize hAe : va_A ([(h0, .inr (12, zmo hm c_thrown c_state c_test c_words c_ill c_before c_inRow c_first c_inWindow c_same c_made c_requests c_total c_secrets c_rounds c_high c_low c_keyHigh c_keyLow)), ((hm 0), .inl (cy 1, 64, .inl c_ROUND)), ((hm 47), .inl (cy 1, 8, .inl c_START)), ((hm 6), .inl (cy 1, 512, .inl c_buffer)), ((hm 5), .inl (cy 1, 3, .inl c_counters)), ((hm 35), .inl (cy 1, 32, .inl c_digest)), ((hm 30), .inl (cy 1, 8, .inl c_h)), ((hm 12), .inl (cy 1, 16, .inl c_holder)), ((hm 36), .inl (cy 1, 32, .inl c_inner)), ((hm 14), .inl (cy 1, 1024, .inl c_keys)), ((hm 9), .inl (cy 1, 16, .inl c_kind)), ((hm 10), .inl (cy 1, 16, .inl c_length)), ((hm 33), .inl (cy 1, 64, .inl c_message)), ((hm 37), .inl (cy 1, 64, .inl c_secret)), ((hm 11), .inl (cy 1, 16, .inl c_usage)), ((hm 13), .inl (cy 1, 16, .inl c_uses)), ((hm 31), .inl (cy 1, 64, .inl c_w)), ((hm 32), .inl (cy 1, 8, .inl c_x))]) s.heap.size = A at hD hE ⊢
  have hA : ∀ q : Nat, s.heap.size ≤ q → A q := fun q h => by rw [← hAe]; exact Or.inr h
  clear hAe hD0
  have hS : va_S A s.heap s.heap [] := va_S.rf
  have hK := hE.1
  have hw0 := hts (.fieldLink RX10 189 "SealedModuleModel" "thrown" "I") (by decide +kernel)
  have hw1 := hts (.fieldLink RX10 93 "SealedModuleModel" "kind" "[I") (by decide +kernel)
  have hw2 := hts (.fieldLink RX10 99 "SealedModuleModel" "usage" "[I") (by decide +kernel)
  have hw3 := hts (.fieldLink RX10 105 "SealedModuleModel" "uses" "[I") (by decide +kernel)
  have hw4 := hts (.fieldLink RX10 108 "SealedModuleModel" "keys" "[I") (by decide +kernel)
  have hw5 := hts (.fieldLink RX10 144 "SealedModuleModel" "digest" "[I") (by decide +kernel)
  have hw6 := hts (.fieldLink RX10 84 "SealedModuleModel" "buffer" "[I") (by decide +kernel)
  have hcX10 : ∀ w ∈ u_ws RX10 TX10 52, w ∈ wsX10_derive := (fun _ h => List.mem_cons_of_mem _ (List.mem_append_right _ h))
  have hl := lv_entry ([.ref h0, .int p1, .int p2, .int p3, .int p4, .int p5, .int p6]) (n := 10) (Nat.le_of_ble_eq_true rfl)
  rw [lg_entry_eq]
  generalize (lg_sl ([.ref h0, .int p1, .int p2, .int p3, .int p4, .int p5, .int p6]) ++ List.replicate (10 - (lg_sl ([.ref h0, .int p1, .int p2, .int p3, .int p4, .int p5, .int p6])).length) Slot.unset).toArray = ls at hl ⊢
  replace hl : lv_has ls 10 [(0, .ref h0), (1, .int p1), (2, .int p2), (3, .int p3), (4, .int p4), (5, .int p5), (6, .int p6)] := hl
  unfold f_X10_derive at hf
  refine zgo (fun GW hTo hFr => ?_)
  refine hFr _ _ _ ?_
  obtain ⟨H, hHe⟩ : ∃ H, H = s.heap := ⟨_, rfl⟩
  obtain ⟨locs, hLe⟩ : ∃ L : List Loc, L = [] := ⟨_, rfl⟩
  rw [← hHe] at hP
  replace hS : va_S A s.heap H locs := by rw [hHe, hLe]; exact hS
  refine zat hHe.symm hLe.symm ?_
  clear hHe hLe
  refine lv_aload_n (pc := 0) hx hb (zdt_at zt_X10_derive_0 0 rfl) rfl (lv_at hl 0 rfl) ?_
  refine lv_iconst (pc := 1) (v := (0 : Int32)) hx hb (zdt_at zt_X10_derive_0 1 rfl) (by decide) ?_
  refine va_put (pc := 2) (D := D) (ci := 12) (v := .int (0 : Int32)) (ty := .int) (C := RX10) (T := TX10) (N := 52) hx hb hts hcX10 tyX10 tyX10_ok nmX10 hown hK hP hD hS 0 rfl rfl 1 (by decide) hw0 (fun _ h9 => h9) rfl (by decide +kernel) rfl rfl (Nat.le_of_ble_eq_true rfl) (zdt_at zt_X10_derive_0 2 rfl) ?_
  clear hP hD hS
  intro H locs hP hD hS
  replace hP : va_P D vwCl ([(h0, .inr (12, zmo hm (0 : Int32) c_state c_test c_words c_ill c_before c_inRow c_first c_inWindow c_same c_made c_requests c_total c_secrets c_rounds c_high c_low c_keyHigh c_keyLow)), ((hm 0), .inl (cy 1, 64, .inl c_ROUND)), ((hm 47), .inl (cy 1, 8, .inl c_START)), ((hm 6), .inl (cy 1, 512, .inl c_buffer)), ((hm 5), .inl (cy 1, 3, .inl c_counters)), ((hm 35), .inl (cy 1, 32, .inl c_digest)), ((hm 30), .inl (cy 1, 8, .inl c_h)), ((hm 12), .inl (cy 1, 16, .inl c_holder)), ((hm 36), .inl (cy 1, 32, .inl c_inner)), ((hm 14), .inl (cy 1, 1024, .inl c_keys)), ((hm 9), .inl (cy 1, 16, .inl c_kind)), ((hm 10), .inl (cy 1, 16, .inl c_length)), ((hm 33), .inl (cy 1, 64, .inl c_message)), ((hm 37), .inl (cy 1, 64, .inl c_secret)), ((hm 11), .inl (cy 1, 16, .inl c_usage)), ((hm 13), .inl (cy 1, 16, .inl c_uses)), ((hm 31), .inl (cy 1, 64, .inl c_w)), ((hm 32), .inl (cy 1, 8, .inl c_x))]) H := hP
  replace hD : va_D A ([(h0, .inr (12, zmo hm (0 : Int32) c_state c_test c_words c_ill c_before c_inRow c_first c_inWindow c_same c_made c_requests c_total c_secrets c_rounds c_high c_low c_keyHigh c_keyLow)), ((hm 0), .inl (cy 1, 64, .inl c_ROUND)), ((hm 47), .inl (cy 1, 8, .inl c_START)), ((hm 6), .inl (cy 1, 512, .inl c_buffer)), ((hm 5), .inl (cy 1, 3, .inl c_counters)), ((hm 35), .inl (cy 1, 32, .inl c_digest)), ((hm 30), .inl (cy 1, 8, .inl c_h)), ((hm 12), .inl (cy 1, 16, .inl c_holder)), ((hm 36), .inl (cy 1, 32, .inl c_inner)), ((hm 14), .inl (cy 1, 1024, .inl c_keys)), ((hm 9), .inl (cy 1, 16, .inl c_kind)), ((hm 10), .inl (cy 1, 16, .inl c_length)), ((hm 33), .inl (cy 1, 64, .inl c_message)), ((hm 37), .inl (cy 1, 64, .inl c_secret)), ((hm 11), .inl (cy 1, 16, .inl c_usage)), ((hm 13), .inl (cy 1, 16, .inl c_uses)), ((hm 31), .inl (cy 1, 64, .inl c_w)), ((hm 32), .inl (cy 1, 8, .inl c_x))]) := hD
  refine lv_aload_n (pc := 5) hx hb (zdt_at zt_X10_derive_0 3 rfl) rfl (lv_at hl 0 rfl) ?_
  replace hf := zb_s hf
  obtain ⟨r_1, hc_, hf⟩ := hf
  refine zcs (pc := 6) (rv := (some (.int r_1))) (va_runV (As := []) (rest := []) ⟨hx, hb, hml, hown, hts⟩ (c_X10_isIn l D cy tt H.size h0 hm c_state (0 : Int32) c_test c_words c_ill c_before c_inRow c_first c_inWindow c_same c_made c_requests c_total c_secrets c_rounds c_high c_low c_keyHigh c_keyLow r_1 hc_) (cwV 0 hts gX10_derive_X10_isIn rfl rfl rfl (by decide +kernel) ⟨Nat.le_of_ble_eq_true rfl, Nat.le_of_ble_eq_true rfl⟩) ⟨zblind, va_recv hK hP (ci := 12) (q0 := 0) rfl rfl, zpre hE hS (hP.sub [0] rfl) (hD.sub [0] (by decide) rfl) (va_free hD hS hA [0] rfl)⟩ rfl rfl hl.1 rfl (lv_room (Nat.le_of_ble_eq_true rfl)) (zdt_at zt_X10_derive_0 4 rfl) ⟨Nat.zero_le _, Nat.zero_le _⟩) ?_
  clear hc_
  refine W.eq (g2 := F0 m 9 ls [.int r_1]) rfl ?_
  refine lv_if_ne (pc := 9) (tgt := 18) hx hb (zdt_at zt_X10_derive_0 5 rfl) (by decide) (fun cn_ => ?t_2) (fun cn_ => ?f_3)
  case f_3 =>
    replace hf := zt_s cn_ hf
    clear cn_
    refine lv_aload_n (pc := 12) hx hb (zdt_at zt_X10_derive_0 6 rfl) rfl (lv_at hl 0 rfl) ?_
    refine lv_iconst (pc := 13) (v := (-1 : Int32)) hx hb (zdt_at zt_X10_derive_0 7 rfl) (by decide) ?_
    replace hf := zb_s hf
    obtain ⟨⟨r_164, c_counters_165⟩, hc_, hf⟩ := hf
    refine zcn2 (pc := 14) (rv := (some (.int r_164))) (va_runV (As := [.int (-1 : Int32)]) (rest := []) ⟨hx, hb, hml, hown, hts⟩ (c_X10_answer l D cy tt H.size h0 hm (-1 : Int32) c_counters (0 : Int32) c_state c_test c_words c_ill c_before c_inRow c_first c_inWindow c_same c_made c_requests c_total c_secrets c_rounds c_high c_low c_keyHigh c_keyLow r_164 c_counters_165 hc_) (cwV 1 hts gX10_derive_X10_answer rfl rfl rfl (by decide +kernel) ⟨Nat.le_of_ble_eq_true rfl, Nat.le_of_ble_eq_true rfl⟩) ⟨zblind, va_recv hK hP (ci := 12) (q0 := 0) rfl rfl, zpre hE hS (hP.sub [0, 4] rfl) (hD.sub [0, 4] (by decide) rfl) (va_free hD hS hA [0, 4] rfl)⟩ rfl rfl hl.1 rfl (lv_room (Nat.le_of_ble_eq_true rfl)) (zdt_at zt_X10_derive_0 8 rfl) ⟨Nat.zero_le _, Nat.zero_le _⟩) hS hP hD (va_free hD hS hA [0, 4] rfl) [0, 4] rfl (by decide) rfl ?_
    clear hP hD hS hc_
    intro H locs hP hD hS
    replace hP : va_P D vwCl ([(h0, .inr (12, zmo hm (0 : Int32) c_state c_test c_words c_ill c_before c_inRow c_first c_inWindow c_same c_made c_requests c_total c_secrets c_rounds c_high c_low c_keyHigh c_keyLow)), ((hm 0), .inl (cy 1, 64, .inl c_ROUND)), ((hm 47), .inl (cy 1, 8, .inl c_START)), ((hm 6), .inl (cy 1, 512, .inl c_buffer)), ((hm 5), .inl (cy 1, 3, .inl c_counters_165)), ((hm 35), .inl (cy 1, 32, .inl c_digest)), ((hm 30), .inl (cy 1, 8, .inl c_h)), ((hm 12), .inl (cy 1, 16, .inl c_holder)), ((hm 36), .inl (cy 1, 32, .inl c_inner)), ((hm 14), .inl (cy 1, 1024, .inl c_keys)), ((hm 9), .inl (cy 1, 16, .inl c_kind)), ((hm 10), .inl (cy 1, 16, .inl c_length)), ((hm 33), .inl (cy 1, 64, .inl c_message)), ((hm 37), .inl (cy 1, 64, .inl c_secret)), ((hm 11), .inl (cy 1, 16, .inl c_usage)), ((hm 13), .inl (cy 1, 16, .inl c_uses)), ((hm 31), .inl (cy 1, 64, .inl c_w)), ((hm 32), .inl (cy 1, 8, .inl c_x))]) H := hP
    replace hD : va_D A ([(h0, .inr (12, zmo hm (0 : Int32) c_state c_test c_words c_ill c_before c_inRow c_first c_inWindow c_same c_made c_requests c_total c_secrets c_rounds c_high c_low c_keyHigh c_keyLow)), ((hm 0), .inl (cy 1, 64, .inl c_ROUND)), ((hm 47), .inl (cy 1, 8, .inl c_START)), ((hm 6), .inl (cy 1, 512, .inl c_buffer)), ((hm 5), .inl (cy 1, 3, .inl c_counters_165)), ((hm 35), .inl (cy 1, 32, .inl c_digest)), ((hm 30), .inl (cy 1, 8, .inl c_h)), ((hm 12), .inl (cy 1, 16, .inl c_holder)), ((hm 36), .inl (cy 1, 32, .inl c_inner)), ((hm 14), .inl (cy 1, 1024, .inl c_keys)), ((hm 9), .inl (cy 1, 16, .inl c_kind)), ((hm 10), .inl (cy 1, 16, .inl c_length)), ((hm 33), .inl (cy 1, 64, .inl c_message)), ((hm 37), .inl (cy 1, 64, .inl c_secret)), ((hm 11), .inl (cy 1, 16, .inl c_usage)), ((hm 13), .inl (cy 1, 16, .inl c_uses)), ((hm 31), .inl (cy 1, 64, .inl c_w)), ((hm 32), .inl (cy 1, 8, .inl c_x))]) := hD
    refine W.eq (g2 := F0 m 17 ls [.int r_164]) rfl ?_
    cases hf
    exact W.iret (pc := 17) hx hb hr (fun t ht hW => ⟨rfl, ⟨by rw [ht]; exact hP, hD⟩, hS.F ht⟩) hS.2.2 (zdt_at zt_X10_derive_0 9 rfl)
  replace hf := ze_s cn_ hf
  clear cn_
  refine lv_iload_n (pc := 18) hx hb (zdt_at zt_X10_derive_0 10 rfl) rfl (lv_at hl 1 rfl) ?_
  refine lv_iconst (pc := 19) (v := (0 : Int32)) hx hb (zdt_at zt_X10_derive_0 11 rfl) (by decide) ?_
  refine lv_bipush (pc := 20) (v := (15 : Int32)) hx hb (zdt_at zt_X10_derive_0 12 rfl) (by decide) ?_
  replace hf := zb_s hf
  obtain ⟨r_4, hc_, hf⟩ := hf
  refine zcs (pc := 22) (rv := (some (.int r_4))) (va_runS (As := [.int p1, .int (0 : Int32), .int (15 : Int32)]) (rest := []) ⟨hx, hb, hml, hown, hts⟩ (c_X10_in l D cy tt H.size p1 (0 : Int32) (15 : Int32) r_4 hc_) (va_cwS 3 hts gX10_derive_X10_in rfl rfl rfl (by decide +kernel) ⟨Nat.le_of_ble_eq_true rfl, Nat.le_of_ble_eq_true rfl⟩) ⟨zblind, zpre hE hS (hP.sub [] rfl) (hD.sub [] (by decide) rfl) (va_free hD hS hA [] rfl)⟩ rfl rfl hl.1 rfl (lv_room (Nat.le_of_ble_eq_true rfl)) (zdt_at zt_X10_derive_0 13 rfl) ⟨Nat.zero_le _, Nat.zero_le _⟩) ?_
  clear hc_
  refine W.eq (g2 := F0 m 25 ls [.int r_4]) rfl ?_
  replace hf := zj_s hf
  obtain ⟨K_6, eK_6, hf⟩ := hf
  have kK_6 : ∀ (v_5 : Int32) (H : Heap) (locs : List Loc) (ls : Array Slot), va_P D vwCl ([(h0, .inr (12, zmo hm (0 : Int32) c_state c_test c_words c_ill c_before c_inRow c_first c_inWindow c_same c_made c_requests c_total c_secrets c_rounds c_high c_low c_keyHigh c_keyLow)), ((hm 0), .inl (cy 1, 64, .inl c_ROUND)), ((hm 47), .inl (cy 1, 8, .inl c_START)), ((hm 6), .inl (cy 1, 512, .inl c_buffer)), ((hm 5), .inl (cy 1, 3, .inl c_counters)), ((hm 35), .inl (cy 1, 32, .inl c_digest)), ((hm 30), .inl (cy 1, 8, .inl c_h)), ((hm 12), .inl (cy 1, 16, .inl c_holder)), ((hm 36), .inl (cy 1, 32, .inl c_inner)), ((hm 14), .inl (cy 1, 1024, .inl c_keys)), ((hm 9), .inl (cy 1, 16, .inl c_kind)), ((hm 10), .inl (cy 1, 16, .inl c_length)), ((hm 33), .inl (cy 1, 64, .inl c_message)), ((hm 37), .inl (cy 1, 64, .inl c_secret)), ((hm 11), .inl (cy 1, 16, .inl c_usage)), ((hm 13), .inl (cy 1, 16, .inl c_uses)), ((hm 31), .inl (cy 1, 64, .inl c_w)), ((hm 32), .inl (cy 1, 8, .inl c_x))]) H → va_D A ([(h0, .inr (12, zmo hm (0 : Int32) c_state c_test c_words c_ill c_before c_inRow c_first c_inWindow c_same c_made c_requests c_total c_secrets c_rounds c_high c_low c_keyHigh c_keyLow)), ((hm 0), .inl (cy 1, 64, .inl c_ROUND)), ((hm 47), .inl (cy 1, 8, .inl c_START)), ((hm 6), .inl (cy 1, 512, .inl c_buffer)), ((hm 5), .inl (cy 1, 3, .inl c_counters)), ((hm 35), .inl (cy 1, 32, .inl c_digest)), ((hm 30), .inl (cy 1, 8, .inl c_h)), ((hm 12), .inl (cy 1, 16, .inl c_holder)), ((hm 36), .inl (cy 1, 32, .inl c_inner)), ((hm 14), .inl (cy 1, 1024, .inl c_keys)), ((hm 9), .inl (cy 1, 16, .inl c_kind)), ((hm 10), .inl (cy 1, 16, .inl c_length)), ((hm 33), .inl (cy 1, 64, .inl c_message)), ((hm 37), .inl (cy 1, 64, .inl c_secret)), ((hm 11), .inl (cy 1, 16, .inl c_usage)), ((hm 13), .inl (cy 1, 16, .inl c_uses)), ((hm 31), .inl (cy 1, 64, .inl c_w)), ((hm 32), .inl (cy 1, 8, .inl c_x))]) → va_S A s.heap H locs → lv_has ls 10 [(0, .ref h0), (1, .int p1), (2, .int p2), (3, .int p3), (4, .int p4), (5, .int p5), (6, .int p6)] → K_6 v_5 = some (r_, c_secrets', c_thrown', c_total', c_counters', c_digest', c_h', c_holder', c_inner', c_keys', c_kind', c_length', c_message', c_secret', c_usage', c_uses', c_w', c_x') → GW H locs (F0 m 63 ls [.int v_5]) := by
    clear hf hl hP hD hS
    intro v_5 H locs ls hP hD hS hl hf
    rw [eK_6] at hf
    clear eK_6
    refine hFr _ _ _ ?_
    refine lv_istore (pc := 63) (lv' := [(7, .int v_5), (0, .ref h0), (1, .int p1), (2, .int p2), (3, .int p3), (4, .int p4), (5, .int p5), (6, .int p6)]) hx hb (zdt_at zt_X10_derive_0 33 rfl) hl (by decide) rfl ?_
    clear hl
    intro ls hl
    refine lv_iload (pc := 65) hx hb (zdt_at zt_X10_derive_0 34 rfl) (lv_at hl 0 rfl) ?_
    refine lv_if_eq (pc := 67) (tgt := 92) hx hb (zdt_at zt_X10_derive_0 35 rfl) (by decide) (fun cn_ => ?t_7) (fun cn_ => ?f_8)
    case t_7 =>
      replace hf := zt_s cn_ hf
      clear cn_
      refine lv_aload_n (pc := 92) hx hb (zdt_at zt_X10_derive_0 46 rfl) rfl (lv_at hl 1 rfl) ?_
      refine lv_bipush (pc := 93) (v := (-2 : Int32)) hx hb (zdt_at zt_X10_derive_0 47 rfl) (by decide) ?_
      replace hf := zb_s hf
      obtain ⟨⟨r_9, c_counters_10⟩, hc_, hf⟩ := hf
      refine zcn2 (pc := 95) (rv := (some (.int r_9))) (va_runV (As := [.int (-2 : Int32)]) (rest := []) ⟨hx, hb, hml, hown, hts⟩ (c_X10_answer l D cy tt H.size h0 hm (-2 : Int32) c_counters (0 : Int32) c_state c_test c_words c_ill c_before c_inRow c_first c_inWindow c_same c_made c_requests c_total c_secrets c_rounds c_high c_low c_keyHigh c_keyLow r_9 c_counters_10 hc_) (cwV 1 hts gX10_derive_X10_answer rfl rfl rfl (by decide +kernel) ⟨Nat.le_of_ble_eq_true rfl, Nat.le_of_ble_eq_true rfl⟩) ⟨zblind, va_recv hK hP (ci := 12) (q0 := 0) rfl rfl, zpre hE hS (hP.sub [0, 4] rfl) (hD.sub [0, 4] (by decide) rfl) (va_free hD hS hA [0, 4] rfl)⟩ rfl rfl hl.1 rfl (lv_room (Nat.le_of_ble_eq_true rfl)) (zdt_at zt_X10_derive_0 48 rfl) ⟨Nat.zero_le _, Nat.zero_le _⟩) hS hP hD (va_free hD hS hA [0, 4] rfl) [0, 4] rfl (by decide) rfl ?_
      clear hP hD hS hc_
      intro H locs hP hD hS
      replace hP : va_P D vwCl ([(h0, .inr (12, zmo hm (0 : Int32) c_state c_test c_words c_ill c_before c_inRow c_first c_inWindow c_same c_made c_requests c_total c_secrets c_rounds c_high c_low c_keyHigh c_keyLow)), ((hm 0), .inl (cy 1, 64, .inl c_ROUND)), ((hm 47), .inl (cy 1, 8, .inl c_START)), ((hm 6), .inl (cy 1, 512, .inl c_buffer)), ((hm 5), .inl (cy 1, 3, .inl c_counters_10)), ((hm 35), .inl (cy 1, 32, .inl c_digest)), ((hm 30), .inl (cy 1, 8, .inl c_h)), ((hm 12), .inl (cy 1, 16, .inl c_holder)), ((hm 36), .inl (cy 1, 32, .inl c_inner)), ((hm 14), .inl (cy 1, 1024, .inl c_keys)), ((hm 9), .inl (cy 1, 16, .inl c_kind)), ((hm 10), .inl (cy 1, 16, .inl c_length)), ((hm 33), .inl (cy 1, 64, .inl c_message)), ((hm 37), .inl (cy 1, 64, .inl c_secret)), ((hm 11), .inl (cy 1, 16, .inl c_usage)), ((hm 13), .inl (cy 1, 16, .inl c_uses)), ((hm 31), .inl (cy 1, 64, .inl c_w)), ((hm 32), .inl (cy 1, 8, .inl c_x))]) H := hP
      replace hD : va_D A ([(h0, .inr (12, zmo hm (0 : Int32) c_state c_test c_words c_ill c_before c_inRow c_first c_inWindow c_same c_made c_requests c_total c_secrets c_rounds c_high c_low c_keyHigh c_keyLow)), ((hm 0), .inl (cy 1, 64, .inl c_ROUND)), ((hm 47), .inl (cy 1, 8, .inl c_START)), ((hm 6), .inl (cy 1, 512, .inl c_buffer)), ((hm 5), .inl (cy 1, 3, .inl c_counters_10)), ((hm 35), .inl (cy 1, 32, .inl c_digest)), ((hm 30), .inl (cy 1, 8, .inl c_h)), ((hm 12), .inl (cy 1, 16, .inl c_holder)), ((hm 36), .inl (cy 1, 32, .inl c_inner)), ((hm 14), .inl (cy 1, 1024, .inl c_keys)), ((hm 9), .inl (cy 1, 16, .inl c_kind)), ((hm 10), .inl (cy 1, 16, .inl c_length)), ((hm 33), .inl (cy 1, 64, .inl c_message)), ((hm 37), .inl (cy 1, 64, .inl c_secret)), ((hm 11), .inl (cy 1, 16, .inl c_usage)), ((hm 13), .inl (cy 1, 16, .inl c_uses)), ((hm 31), .inl (cy 1, 64, .inl c_w)), ((hm 32), .inl (cy 1, 8, .inl c_x))]) := hD
      refine W.eq (g2 := F0 m 98 ls [.int r_9]) rfl ?_
      cases hf
      exact W.iret (pc := 98) hx hb hr (fun t ht hW => ⟨rfl, ⟨by rw [ht]; exact hP, hD⟩, hS.F ht⟩) hS.2.2 (zdt_at zt_X10_derive_0 49 rfl)
    replace hf := ze_s cn_ hf
    clear cn_
    refine lv_iload (pc := 70) hx hb (zdt_at zt_X10_derive_0 36 rfl) (lv_at hl 6 rfl) ?_
    refine lv_iconst (pc := 72) (v := (1 : Int32)) hx hb (zdt_at zt_X10_derive_0 37 rfl) (by decide) ?_
    refine lv_bipush (pc := 73) (v := (64 : Int32)) hx hb (zdt_at zt_X10_derive_0 38 rfl) (by decide) ?_
    replace hf := zb_s hf
    obtain ⟨r_11, hc_, hf⟩ := hf
    refine zcs (pc := 75) (rv := (some (.int r_11))) (va_runS (As := [.int p5, .int (1 : Int32), .int (64 : Int32)]) (rest := []) ⟨hx, hb, hml, hown, hts⟩ (c_X10_in l D cy tt H.size p5 (1 : Int32) (64 : Int32) r_11 hc_) (va_cwS 3 hts gX10_derive_X10_in rfl rfl rfl (by decide +kernel) ⟨Nat.le_of_ble_eq_true rfl, Nat.le_of_ble_eq_true rfl⟩) ⟨zblind, zpre hE hS (hP.sub [] rfl) (hD.sub [] (by decide) rfl) (va_free hD hS hA [] rfl)⟩ rfl rfl hl.1 rfl (lv_room (Nat.le_of_ble_eq_true rfl)) (zdt_at zt_X10_derive_0 39 rfl) ⟨Nat.zero_le _, Nat.zero_le _⟩) ?_
    clear hc_
    refine W.eq (g2 := F0 m 78 ls [.int r_11]) rfl ?_
    refine lv_if_eq (pc := 78) (tgt := 92) hx hb (zdt_at zt_X10_derive_0 40 rfl) (by decide) (fun cn_ => ?t_12) (fun cn_ => ?f_13)
    case t_12 =>
      replace hf := zt_s cn_ hf
      clear cn_
      refine lv_aload_n (pc := 92) hx hb (zdt_at zt_X10_derive_0 46 rfl) rfl (lv_at hl 1 rfl) ?_
      refine lv_bipush (pc := 93) (v := (-2 : Int32)) hx hb (zdt_at zt_X10_derive_0 47 rfl) (by decide) ?_
      replace hf := zb_s hf
      obtain ⟨⟨r_14, c_counters_15⟩, hc_, hf⟩ := hf
      refine zcn2 (pc := 95) (rv := (some (.int r_14))) (va_runV (As := [.int (-2 : Int32)]) (rest := []) ⟨hx, hb, hml, hown, hts⟩ (c_X10_answer l D cy tt H.size h0 hm (-2 : Int32) c_counters (0 : Int32) c_state c_test c_words c_ill c_before c_inRow c_first c_inWindow c_same c_made c_requests c_total c_secrets c_rounds c_high c_low c_keyHigh c_keyLow r_14 c_counters_15 hc_) (cwV 1 hts gX10_derive_X10_answer rfl rfl rfl (by decide +kernel) ⟨Nat.le_of_ble_eq_true rfl, Nat.le_of_ble_eq_true rfl⟩) ⟨zblind, va_recv hK hP (ci := 12) (q0 := 0) rfl rfl, zpre hE hS (hP.sub [0, 4] rfl) (hD.sub [0, 4] (by decide) rfl) (va_free hD hS hA [0, 4] rfl)⟩ rfl rfl hl.1 rfl (lv_room (Nat.le_of_ble_eq_true rfl)) (zdt_at zt_X10_derive_0 48 rfl) ⟨Nat.zero_le _, Nat.zero_le _⟩) hS hP hD (va_free hD hS hA [0, 4] rfl) [0, 4] rfl (by decide) rfl ?_
      clear hP hD hS hc_
      intro H locs hP hD hS
      replace hP : va_P D vwCl ([(h0, .inr (12, zmo hm (0 : Int32) c_state c_test c_words c_ill c_before c_inRow c_first c_inWindow c_same c_made c_requests c_total c_secrets c_rounds c_high c_low c_keyHigh c_keyLow)), ((hm 0), .inl (cy 1, 64, .inl c_ROUND)), ((hm 47), .inl (cy 1, 8, .inl c_START)), ((hm 6), .inl (cy 1, 512, .inl c_buffer)), ((hm 5), .inl (cy 1, 3, .inl c_counters_15)), ((hm 35), .inl (cy 1, 32, .inl c_digest)), ((hm 30), .inl (cy 1, 8, .inl c_h)), ((hm 12), .inl (cy 1, 16, .inl c_holder)), ((hm 36), .inl (cy 1, 32, .inl c_inner)), ((hm 14), .inl (cy 1, 1024, .inl c_keys)), ((hm 9), .inl (cy 1, 16, .inl c_kind)), ((hm 10), .inl (cy 1, 16, .inl c_length)), ((hm 33), .inl (cy 1, 64, .inl c_message)), ((hm 37), .inl (cy 1, 64, .inl c_secret)), ((hm 11), .inl (cy 1, 16, .inl c_usage)), ((hm 13), .inl (cy 1, 16, .inl c_uses)), ((hm 31), .inl (cy 1, 64, .inl c_w)), ((hm 32), .inl (cy 1, 8, .inl c_x))]) H := hP
      replace hD : va_D A ([(h0, .inr (12, zmo hm (0 : Int32) c_state c_test c_words c_ill c_before c_inRow c_first c_inWindow c_same c_made c_requests c_total c_secrets c_rounds c_high c_low c_keyHigh c_keyLow)), ((hm 0), .inl (cy 1, 64, .inl c_ROUND)), ((hm 47), .inl (cy 1, 8, .inl c_START)), ((hm 6), .inl (cy 1, 512, .inl c_buffer)), ((hm 5), .inl (cy 1, 3, .inl c_counters_15)), ((hm 35), .inl (cy 1, 32, .inl c_digest)), ((hm 30), .inl (cy 1, 8, .inl c_h)), ((hm 12), .inl (cy 1, 16, .inl c_holder)), ((hm 36), .inl (cy 1, 32, .inl c_inner)), ((hm 14), .inl (cy 1, 1024, .inl c_keys)), ((hm 9), .inl (cy 1, 16, .inl c_kind)), ((hm 10), .inl (cy 1, 16, .inl c_length)), ((hm 33), .inl (cy 1, 64, .inl c_message)), ((hm 37), .inl (cy 1, 64, .inl c_secret)), ((hm 11), .inl (cy 1, 16, .inl c_usage)), ((hm 13), .inl (cy 1, 16, .inl c_uses)), ((hm 31), .inl (cy 1, 64, .inl c_w)), ((hm 32), .inl (cy 1, 8, .inl c_x))]) := hD
      refine W.eq (g2 := F0 m 98 ls [.int r_14]) rfl ?_
      cases hf
      exact W.iret (pc := 98) hx hb hr (fun t ht hW => ⟨rfl, ⟨by rw [ht]; exact hP, hD⟩, hS.F ht⟩) hS.2.2 (zdt_at zt_X10_derive_0 49 rfl)
    replace hf := ze_s cn_ hf
    clear cn_
    refine lv_iload (pc := 81) hx hb (zdt_at zt_X10_derive_0 41 rfl) (lv_at hl 7 rfl) ?_
    refine lv_iconst (pc := 83) (v := (0 : Int32)) hx hb (zdt_at zt_X10_derive_0 42 rfl) (by decide) ?_
    refine lv_bipush (pc := 84) (v := (64 : Int32)) hx hb (zdt_at zt_X10_derive_0 43 rfl) (by decide) ?_
    replace hf := zb_s hf
    obtain ⟨r_16, hc_, hf⟩ := hf
    refine zcs (pc := 86) (rv := (some (.int r_16))) (va_runS (As := [.int p6, .int (0 : Int32), .int (64 : Int32)]) (rest := []) ⟨hx, hb, hml, hown, hts⟩ (c_X10_in l D cy tt H.size p6 (0 : Int32) (64 : Int32) r_16 hc_) (va_cwS 3 hts gX10_derive_X10_in rfl rfl rfl (by decide +kernel) ⟨Nat.le_of_ble_eq_true rfl, Nat.le_of_ble_eq_true rfl⟩) ⟨zblind, zpre hE hS (hP.sub [] rfl) (hD.sub [] (by decide) rfl) (va_free hD hS hA [] rfl)⟩ rfl rfl hl.1 rfl (lv_room (Nat.le_of_ble_eq_true rfl)) (zdt_at zt_X10_derive_0 44 rfl) ⟨Nat.zero_le _, Nat.zero_le _⟩) ?_
    clear hc_
    refine W.eq (g2 := F0 m 89 ls [.int r_16]) rfl ?_
    refine lv_if_ne (pc := 89) (tgt := 99) hx hb (zdt_at zt_X10_derive_0 45 rfl) (by decide) (fun cn_ => ?t_17) (fun cn_ => ?f_18)
    case f_18 =>
      replace hf := zt_s cn_ hf
      clear cn_
      refine lv_aload_n (pc := 92) hx hb (zdt_at zt_X10_derive_0 46 rfl) rfl (lv_at hl 1 rfl) ?_
      refine lv_bipush (pc := 93) (v := (-2 : Int32)) hx hb (zdt_at zt_X10_derive_0 47 rfl) (by decide) ?_
      replace hf := zb_s hf
      obtain ⟨⟨r_150, c_counters_151⟩, hc_, hf⟩ := hf
      refine zcn2 (pc := 95) (rv := (some (.int r_150))) (va_runV (As := [.int (-2 : Int32)]) (rest := []) ⟨hx, hb, hml, hown, hts⟩ (c_X10_answer l D cy tt H.size h0 hm (-2 : Int32) c_counters (0 : Int32) c_state c_test c_words c_ill c_before c_inRow c_first c_inWindow c_same c_made c_requests c_total c_secrets c_rounds c_high c_low c_keyHigh c_keyLow r_150 c_counters_151 hc_) (cwV 1 hts gX10_derive_X10_answer rfl rfl rfl (by decide +kernel) ⟨Nat.le_of_ble_eq_true rfl, Nat.le_of_ble_eq_true rfl⟩) ⟨zblind, va_recv hK hP (ci := 12) (q0 := 0) rfl rfl, zpre hE hS (hP.sub [0, 4] rfl) (hD.sub [0, 4] (by decide) rfl) (va_free hD hS hA [0, 4] rfl)⟩ rfl rfl hl.1 rfl (lv_room (Nat.le_of_ble_eq_true rfl)) (zdt_at zt_X10_derive_0 48 rfl) ⟨Nat.zero_le _, Nat.zero_le _⟩) hS hP hD (va_free hD hS hA [0, 4] rfl) [0, 4] rfl (by decide) rfl ?_
      clear hP hD hS hc_
      intro H locs hP hD hS
      replace hP : va_P D vwCl ([(h0, .inr (12, zmo hm (0 : Int32) c_state c_test c_words c_ill c_before c_inRow c_first c_inWindow c_same c_made c_requests c_total c_secrets c_rounds c_high c_low c_keyHigh c_keyLow)), ((hm 0), .inl (cy 1, 64, .inl c_ROUND)), ((hm 47), .inl (cy 1, 8, .inl c_START)), ((hm 6), .inl (cy 1, 512, .inl c_buffer)), ((hm 5), .inl (cy 1, 3, .inl c_counters_151)), ((hm 35), .inl (cy 1, 32, .inl c_digest)), ((hm 30), .inl (cy 1, 8, .inl c_h)), ((hm 12), .inl (cy 1, 16, .inl c_holder)), ((hm 36), .inl (cy 1, 32, .inl c_inner)), ((hm 14), .inl (cy 1, 1024, .inl c_keys)), ((hm 9), .inl (cy 1, 16, .inl c_kind)), ((hm 10), .inl (cy 1, 16, .inl c_length)), ((hm 33), .inl (cy 1, 64, .inl c_message)), ((hm 37), .inl (cy 1, 64, .inl c_secret)), ((hm 11), .inl (cy 1, 16, .inl c_usage)), ((hm 13), .inl (cy 1, 16, .inl c_uses)), ((hm 31), .inl (cy 1, 64, .inl c_w)), ((hm 32), .inl (cy 1, 8, .inl c_x))]) H := hP
      replace hD : va_D A ([(h0, .inr (12, zmo hm (0 : Int32) c_state c_test c_words c_ill c_before c_inRow c_first c_inWindow c_same c_made c_requests c_total c_secrets c_rounds c_high c_low c_keyHigh c_keyLow)), ((hm 0), .inl (cy 1, 64, .inl c_ROUND)), ((hm 47), .inl (cy 1, 8, .inl c_START)), ((hm 6), .inl (cy 1, 512, .inl c_buffer)), ((hm 5), .inl (cy 1, 3, .inl c_counters_151)), ((hm 35), .inl (cy 1, 32, .inl c_digest)), ((hm 30), .inl (cy 1, 8, .inl c_h)), ((hm 12), .inl (cy 1, 16, .inl c_holder)), ((hm 36), .inl (cy 1, 32, .inl c_inner)), ((hm 14), .inl (cy 1, 1024, .inl c_keys)), ((hm 9), .inl (cy 1, 16, .inl c_kind)), ((hm 10), .inl (cy 1, 16, .inl c_length)), ((hm 33), .inl (cy 1, 64, .inl c_message)), ((hm 37), .inl (cy 1, 64, .inl c_secret)), ((hm 11), .inl (cy 1, 16, .inl c_usage)), ((hm 13), .inl (cy 1, 16, .inl c_uses)), ((hm 31), .inl (cy 1, 64, .inl c_w)), ((hm 32), .inl (cy 1, 8, .inl c_x))]) := hD
      refine W.eq (g2 := F0 m 98 ls [.int r_150]) rfl ?_
      cases hf
      exact W.iret (pc := 98) hx hb hr (fun t ht hW => ⟨rfl, ⟨by rw [ht]; exact hP, hD⟩, hS.F ht⟩) hS.2.2 (zdt_at zt_X10_derive_0 49 rfl)
    replace hf := ze_s cn_ hf
    clear cn_
    refine lv_aload_n (pc := 99) hx hb (zdt_at zt_X10_derive_0 50 rfl) rfl (lv_at hl 1 rfl) ?_
    refine lv_iload_n (pc := 100) hx hb (zdt_at zt_X10_derive_0 51 rfl) rfl (lv_at hl 3 rfl) ?_
    replace hf := zb_s hf
    obtain ⟨r_19, hc_, hf⟩ := hf
    refine zcs (pc := 101) (rv := (some (.int r_19))) (va_runV (As := [.int p2]) (rest := []) ⟨hx, hb, hml, hown, hts⟩ (c_X10_isOthers l D cy tt H.size h0 hm p2 c_state c_holder c_kind (0 : Int32) c_test c_words c_ill c_before c_inRow c_first c_inWindow c_same c_made c_requests c_total c_secrets c_rounds c_high c_low c_keyHigh c_keyLow r_19 hc_) (cwV 1 hts gX10_derive_X10_isOthers rfl rfl rfl (by decide +kernel) ⟨Nat.le_of_ble_eq_true rfl, Nat.le_of_ble_eq_true rfl⟩) ⟨zblind, va_recv hK hP (ci := 12) (q0 := 0) rfl rfl, zpre hE hS (hP.sub [0, 7, 10] rfl) (hD.sub [0, 7, 10] (by decide) rfl) (va_free hD hS hA [0, 7, 10] rfl)⟩ rfl rfl hl.1 rfl (lv_room (Nat.le_of_ble_eq_true rfl)) (zdt_at zt_X10_derive_0 52 rfl) ⟨Nat.zero_le _, Nat.zero_le _⟩) ?_
    clear hc_
    refine W.eq (g2 := F0 m 104 ls [.int r_19]) rfl ?_
    refine lv_if_eq (pc := 104) (tgt := 114) hx hb (zdt_at zt_X10_derive_0 53 rfl) (by decide) (fun cn_ => ?t_20) (fun cn_ => ?f_21)
    case f_21 =>
      replace hf := ze_s cn_ hf
      clear cn_
      refine lv_aload_n (pc := 107) hx hb (zdt_at zt_X10_derive_0 54 rfl) rfl (lv_at hl 1 rfl) ?_
      refine lv_bipush (pc := 108) (v := (-3 : Int32)) hx hb (zdt_at zt_X10_derive_0 55 rfl) (by decide) ?_
      replace hf := zb_s hf
      obtain ⟨⟨r_148, c_counters_149⟩, hc_, hf⟩ := hf
      refine zcn2 (pc := 110) (rv := (some (.int r_148))) (va_runV (As := [.int (-3 : Int32)]) (rest := []) ⟨hx, hb, hml, hown, hts⟩ (c_X10_answer l D cy tt H.size h0 hm (-3 : Int32) c_counters (0 : Int32) c_state c_test c_words c_ill c_before c_inRow c_first c_inWindow c_same c_made c_requests c_total c_secrets c_rounds c_high c_low c_keyHigh c_keyLow r_148 c_counters_149 hc_) (cwV 1 hts gX10_derive_X10_answer rfl rfl rfl (by decide +kernel) ⟨Nat.le_of_ble_eq_true rfl, Nat.le_of_ble_eq_true rfl⟩) ⟨zblind, va_recv hK hP (ci := 12) (q0 := 0) rfl rfl, zpre hE hS (hP.sub [0, 4] rfl) (hD.sub [0, 4] (by decide) rfl) (va_free hD hS hA [0, 4] rfl)⟩ rfl rfl hl.1 rfl (lv_room (Nat.le_of_ble_eq_true rfl)) (zdt_at zt_X10_derive_0 56 rfl) ⟨Nat.zero_le _, Nat.zero_le _⟩) hS hP hD (va_free hD hS hA [0, 4] rfl) [0, 4] rfl (by decide) rfl ?_
      clear hP hD hS hc_
      intro H locs hP hD hS
      replace hP : va_P D vwCl ([(h0, .inr (12, zmo hm (0 : Int32) c_state c_test c_words c_ill c_before c_inRow c_first c_inWindow c_same c_made c_requests c_total c_secrets c_rounds c_high c_low c_keyHigh c_keyLow)), ((hm 0), .inl (cy 1, 64, .inl c_ROUND)), ((hm 47), .inl (cy 1, 8, .inl c_START)), ((hm 6), .inl (cy 1, 512, .inl c_buffer)), ((hm 5), .inl (cy 1, 3, .inl c_counters_149)), ((hm 35), .inl (cy 1, 32, .inl c_digest)), ((hm 30), .inl (cy 1, 8, .inl c_h)), ((hm 12), .inl (cy 1, 16, .inl c_holder)), ((hm 36), .inl (cy 1, 32, .inl c_inner)), ((hm 14), .inl (cy 1, 1024, .inl c_keys)), ((hm 9), .inl (cy 1, 16, .inl c_kind)), ((hm 10), .inl (cy 1, 16, .inl c_length)), ((hm 33), .inl (cy 1, 64, .inl c_message)), ((hm 37), .inl (cy 1, 64, .inl c_secret)), ((hm 11), .inl (cy 1, 16, .inl c_usage)), ((hm 13), .inl (cy 1, 16, .inl c_uses)), ((hm 31), .inl (cy 1, 64, .inl c_w)), ((hm 32), .inl (cy 1, 8, .inl c_x))]) H := hP
      replace hD : va_D A ([(h0, .inr (12, zmo hm (0 : Int32) c_state c_test c_words c_ill c_before c_inRow c_first c_inWindow c_same c_made c_requests c_total c_secrets c_rounds c_high c_low c_keyHigh c_keyLow)), ((hm 0), .inl (cy 1, 64, .inl c_ROUND)), ((hm 47), .inl (cy 1, 8, .inl c_START)), ((hm 6), .inl (cy 1, 512, .inl c_buffer)), ((hm 5), .inl (cy 1, 3, .inl c_counters_149)), ((hm 35), .inl (cy 1, 32, .inl c_digest)), ((hm 30), .inl (cy 1, 8, .inl c_h)), ((hm 12), .inl (cy 1, 16, .inl c_holder)), ((hm 36), .inl (cy 1, 32, .inl c_inner)), ((hm 14), .inl (cy 1, 1024, .inl c_keys)), ((hm 9), .inl (cy 1, 16, .inl c_kind)), ((hm 10), .inl (cy 1, 16, .inl c_length)), ((hm 33), .inl (cy 1, 64, .inl c_message)), ((hm 37), .inl (cy 1, 64, .inl c_secret)), ((hm 11), .inl (cy 1, 16, .inl c_usage)), ((hm 13), .inl (cy 1, 16, .inl c_uses)), ((hm 31), .inl (cy 1, 64, .inl c_w)), ((hm 32), .inl (cy 1, 8, .inl c_x))]) := hD
      refine W.eq (g2 := F0 m 113 ls [.int r_148]) rfl ?_
      cases hf
      exact W.iret (pc := 113) hx hb hr (fun t ht hW => ⟨rfl, ⟨by rw [ht]; exact hP, hD⟩, hS.F ht⟩) hS.2.2 (zdt_at zt_X10_derive_0 57 rfl)
    replace hf := zt_s cn_ hf
    clear cn_
    refine lv_aload_n (pc := 114) hx hb (zdt_at zt_X10_derive_0 58 rfl) rfl (lv_at hl 1 rfl) ?_
    refine va_get (pc := 115) (D := D) (ci := 12) (v := .ref (hm 9)) (C := RX10) (T := TX10) (N := 52) hx hb hts hcX10 hown hK hP 0 rfl rfl 9 (by decide) hw1 (fun _ h9 => h9) rfl (zdt_at zt_X10_derive_0 59 rfl) ?_
    refine lv_iload_n (pc := 118) hx hb (zdt_at zt_X10_derive_0 60 rfl) rfl (lv_at hl 3 rfl) ?_
    replace hf := zk_s hf
    refine va_iald (pc := 119) hx hb hK hP 10 1 rfl rfl hf.1 (zdt_at zt_X10_derive_0 61 rfl) ?_
    replace hf := hf.2
    refine lv_if_eq (pc := 120) (tgt := 132) hx hb (zdt_at zt_X10_derive_0 62 rfl) (by decide) (fun cn_ => ?t_22) (fun cn_ => ?f_23)
    case t_22 =>
      replace hf := zt_s cn_ hf
      clear cn_
      refine lv_aload_n (pc := 132) hx hb (zdt_at zt_X10_derive_1 4 rfl) rfl (lv_at hl 1 rfl) ?_
      refine lv_bipush (pc := 133) (v := (-4 : Int32)) hx hb (zdt_at zt_X10_derive_1 5 rfl) (by decide) ?_
      replace hf := zb_s hf
      obtain ⟨⟨r_24, c_counters_25⟩, hc_, hf⟩ := hf
      refine zcn2 (pc := 135) (rv := (some (.int r_24))) (va_runV (As := [.int (-4 : Int32)]) (rest := []) ⟨hx, hb, hml, hown, hts⟩ (c_X10_answer l D cy tt H.size h0 hm (-4 : Int32) c_counters (0 : Int32) c_state c_test c_words c_ill c_before c_inRow c_first c_inWindow c_same c_made c_requests c_total c_secrets c_rounds c_high c_low c_keyHigh c_keyLow r_24 c_counters_25 hc_) (cwV 1 hts gX10_derive_X10_answer rfl rfl rfl (by decide +kernel) ⟨Nat.le_of_ble_eq_true rfl, Nat.le_of_ble_eq_true rfl⟩) ⟨zblind, va_recv hK hP (ci := 12) (q0 := 0) rfl rfl, zpre hE hS (hP.sub [0, 4] rfl) (hD.sub [0, 4] (by decide) rfl) (va_free hD hS hA [0, 4] rfl)⟩ rfl rfl hl.1 rfl (lv_room (Nat.le_of_ble_eq_true rfl)) (zdt_at zt_X10_derive_1 6 rfl) ⟨Nat.zero_le _, Nat.zero_le _⟩) hS hP hD (va_free hD hS hA [0, 4] rfl) [0, 4] rfl (by decide) rfl ?_
      clear hP hD hS hc_
      intro H locs hP hD hS
      replace hP : va_P D vwCl ([(h0, .inr (12, zmo hm (0 : Int32) c_state c_test c_words c_ill c_before c_inRow c_first c_inWindow c_same c_made c_requests c_total c_secrets c_rounds c_high c_low c_keyHigh c_keyLow)), ((hm 0), .inl (cy 1, 64, .inl c_ROUND)), ((hm 47), .inl (cy 1, 8, .inl c_START)), ((hm 6), .inl (cy 1, 512, .inl c_buffer)), ((hm 5), .inl (cy 1, 3, .inl c_counters_25)), ((hm 35), .inl (cy 1, 32, .inl c_digest)), ((hm 30), .inl (cy 1, 8, .inl c_h)), ((hm 12), .inl (cy 1, 16, .inl c_holder)), ((hm 36), .inl (cy 1, 32, .inl c_inner)), ((hm 14), .inl (cy 1, 1024, .inl c_keys)), ((hm 9), .inl (cy 1, 16, .inl c_kind)), ((hm 10), .inl (cy 1, 16, .inl c_length)), ((hm 33), .inl (cy 1, 64, .inl c_message)), ((hm 37), .inl (cy 1, 64, .inl c_secret)), ((hm 11), .inl (cy 1, 16, .inl c_usage)), ((hm 13), .inl (cy 1, 16, .inl c_uses)), ((hm 31), .inl (cy 1, 64, .inl c_w)), ((hm 32), .inl (cy 1, 8, .inl c_x))]) H := hP
      replace hD : va_D A ([(h0, .inr (12, zmo hm (0 : Int32) c_state c_test c_words c_ill c_before c_inRow c_first c_inWindow c_same c_made c_requests c_total c_secrets c_rounds c_high c_low c_keyHigh c_keyLow)), ((hm 0), .inl (cy 1, 64, .inl c_ROUND)), ((hm 47), .inl (cy 1, 8, .inl c_START)), ((hm 6), .inl (cy 1, 512, .inl c_buffer)), ((hm 5), .inl (cy 1, 3, .inl c_counters_25)), ((hm 35), .inl (cy 1, 32, .inl c_digest)), ((hm 30), .inl (cy 1, 8, .inl c_h)), ((hm 12), .inl (cy 1, 16, .inl c_holder)), ((hm 36), .inl (cy 1, 32, .inl c_inner)), ((hm 14), .inl (cy 1, 1024, .inl c_keys)), ((hm 9), .inl (cy 1, 16, .inl c_kind)), ((hm 10), .inl (cy 1, 16, .inl c_length)), ((hm 33), .inl (cy 1, 64, .inl c_message)), ((hm 37), .inl (cy 1, 64, .inl c_secret)), ((hm 11), .inl (cy 1, 16, .inl c_usage)), ((hm 13), .inl (cy 1, 16, .inl c_uses)), ((hm 31), .inl (cy 1, 64, .inl c_w)), ((hm 32), .inl (cy 1, 8, .inl c_x))]) := hD
      refine W.eq (g2 := F0 m 138 ls [.int r_24]) rfl ?_
      cases hf
      exact W.iret (pc := 138) hx hb hr (fun t ht hW => ⟨rfl, ⟨by rw [ht]; exact hP, hD⟩, hS.F ht⟩) hS.2.2 (zdt_at zt_X10_derive_1 7 rfl)
    replace hf := ze_s cn_ hf
    clear cn_
    refine lv_aload_n (pc := 123) hx hb (zdt_at zt_X10_derive_0 63 rfl) rfl (lv_at hl 1 rfl) ?_
    refine va_get (pc := 124) (D := D) (ci := 12) (v := .ref (hm 9)) (C := RX10) (T := TX10) (N := 52) hx hb hts hcX10 hown hK hP 0 rfl rfl 9 (by decide) hw1 (fun _ h9 => h9) rfl (zdt_at zt_X10_derive_1 0 rfl) ?_
    refine lv_iload_n (pc := 127) hx hb (zdt_at zt_X10_derive_1 1 rfl) rfl (lv_at hl 2 rfl) ?_
    replace hf := zk_s hf
    refine va_iald (pc := 128) hx hb hK hP 10 1 rfl rfl hf.1 (zdt_at zt_X10_derive_1 2 rfl) ?_
    replace hf := hf.2
    refine lv_if_le (pc := 129) (tgt := 139) hx hb (zdt_at zt_X10_derive_1 3 rfl) (by decide) (fun cn_ => ?t_26) (fun cn_ => ?f_27)
    case f_27 =>
      replace hf := ze_s cn_ hf
      clear cn_
      refine lv_aload_n (pc := 132) hx hb (zdt_at zt_X10_derive_1 4 rfl) rfl (lv_at hl 1 rfl) ?_
      refine lv_bipush (pc := 133) (v := (-4 : Int32)) hx hb (zdt_at zt_X10_derive_1 5 rfl) (by decide) ?_
      replace hf := zb_s hf
      obtain ⟨⟨r_146, c_counters_147⟩, hc_, hf⟩ := hf
      refine zcn2 (pc := 135) (rv := (some (.int r_146))) (va_runV (As := [.int (-4 : Int32)]) (rest := []) ⟨hx, hb, hml, hown, hts⟩ (c_X10_answer l D cy tt H.size h0 hm (-4 : Int32) c_counters (0 : Int32) c_state c_test c_words c_ill c_before c_inRow c_first c_inWindow c_same c_made c_requests c_total c_secrets c_rounds c_high c_low c_keyHigh c_keyLow r_146 c_counters_147 hc_) (cwV 1 hts gX10_derive_X10_answer rfl rfl rfl (by decide +kernel) ⟨Nat.le_of_ble_eq_true rfl, Nat.le_of_ble_eq_true rfl⟩) ⟨zblind, va_recv hK hP (ci := 12) (q0 := 0) rfl rfl, zpre hE hS (hP.sub [0, 4] rfl) (hD.sub [0, 4] (by decide) rfl) (va_free hD hS hA [0, 4] rfl)⟩ rfl rfl hl.1 rfl (lv_room (Nat.le_of_ble_eq_true rfl)) (zdt_at zt_X10_derive_1 6 rfl) ⟨Nat.zero_le _, Nat.zero_le _⟩) hS hP hD (va_free hD hS hA [0, 4] rfl) [0, 4] rfl (by decide) rfl ?_
      clear hP hD hS hc_
      intro H locs hP hD hS
      replace hP : va_P D vwCl ([(h0, .inr (12, zmo hm (0 : Int32) c_state c_test c_words c_ill c_before c_inRow c_first c_inWindow c_same c_made c_requests c_total c_secrets c_rounds c_high c_low c_keyHigh c_keyLow)), ((hm 0), .inl (cy 1, 64, .inl c_ROUND)), ((hm 47), .inl (cy 1, 8, .inl c_START)), ((hm 6), .inl (cy 1, 512, .inl c_buffer)), ((hm 5), .inl (cy 1, 3, .inl c_counters_147)), ((hm 35), .inl (cy 1, 32, .inl c_digest)), ((hm 30), .inl (cy 1, 8, .inl c_h)), ((hm 12), .inl (cy 1, 16, .inl c_holder)), ((hm 36), .inl (cy 1, 32, .inl c_inner)), ((hm 14), .inl (cy 1, 1024, .inl c_keys)), ((hm 9), .inl (cy 1, 16, .inl c_kind)), ((hm 10), .inl (cy 1, 16, .inl c_length)), ((hm 33), .inl (cy 1, 64, .inl c_message)), ((hm 37), .inl (cy 1, 64, .inl c_secret)), ((hm 11), .inl (cy 1, 16, .inl c_usage)), ((hm 13), .inl (cy 1, 16, .inl c_uses)), ((hm 31), .inl (cy 1, 64, .inl c_w)), ((hm 32), .inl (cy 1, 8, .inl c_x))]) H := hP
      replace hD : va_D A ([(h0, .inr (12, zmo hm (0 : Int32) c_state c_test c_words c_ill c_before c_inRow c_first c_inWindow c_same c_made c_requests c_total c_secrets c_rounds c_high c_low c_keyHigh c_keyLow)), ((hm 0), .inl (cy 1, 64, .inl c_ROUND)), ((hm 47), .inl (cy 1, 8, .inl c_START)), ((hm 6), .inl (cy 1, 512, .inl c_buffer)), ((hm 5), .inl (cy 1, 3, .inl c_counters_147)), ((hm 35), .inl (cy 1, 32, .inl c_digest)), ((hm 30), .inl (cy 1, 8, .inl c_h)), ((hm 12), .inl (cy 1, 16, .inl c_holder)), ((hm 36), .inl (cy 1, 32, .inl c_inner)), ((hm 14), .inl (cy 1, 1024, .inl c_keys)), ((hm 9), .inl (cy 1, 16, .inl c_kind)), ((hm 10), .inl (cy 1, 16, .inl c_length)), ((hm 33), .inl (cy 1, 64, .inl c_message)), ((hm 37), .inl (cy 1, 64, .inl c_secret)), ((hm 11), .inl (cy 1, 16, .inl c_usage)), ((hm 13), .inl (cy 1, 16, .inl c_uses)), ((hm 31), .inl (cy 1, 64, .inl c_w)), ((hm 32), .inl (cy 1, 8, .inl c_x))]) := hD
      refine W.eq (g2 := F0 m 138 ls [.int r_146]) rfl ?_
      cases hf
      exact W.iret (pc := 138) hx hb hr (fun t ht hW => ⟨rfl, ⟨by rw [ht]; exact hP, hD⟩, hS.F ht⟩) hS.2.2 (zdt_at zt_X10_derive_1 7 rfl)
    replace hf := zt_s cn_ hf
    clear cn_
    refine lv_aload_n (pc := 139) hx hb (zdt_at zt_X10_derive_1 8 rfl) rfl (lv_at hl 1 rfl) ?_
    refine va_get (pc := 140) (D := D) (ci := 12) (v := .ref (hm 9)) (C := RX10) (T := TX10) (N := 52) hx hb hts hcX10 hown hK hP 0 rfl rfl 9 (by decide) hw1 (fun _ h9 => h9) rfl (zdt_at zt_X10_derive_1 9 rfl) ?_
    refine lv_iload_n (pc := 143) hx hb (zdt_at zt_X10_derive_1 10 rfl) rfl (lv_at hl 3 rfl) ?_
    replace hf := zk_s hf
    refine va_iald (pc := 144) hx hb hK hP 10 1 rfl rfl hf.1 (zdt_at zt_X10_derive_1 11 rfl) ?_
    replace hf := hf.2
    refine lv_iconst (pc := 145) (v := (2 : Int32)) hx hb (zdt_at zt_X10_derive_1 12 rfl) (by decide) ?_
    refine lv_icmp_ne (pc := 146) (tgt := 158) hx hb (zdt_at zt_X10_derive_1 13 rfl) (by decide) (fun cn_ => ?t_28) (fun cn_ => ?f_29)
    case t_28 =>
      replace hf := ze_s cn_ hf
      clear cn_
      refine lv_aload_n (pc := 158) hx hb (zdt_at zt_X10_derive_1 18 rfl) rfl (lv_at hl 1 rfl) ?_
      refine lv_bipush (pc := 159) (v := (-5 : Int32)) hx hb (zdt_at zt_X10_derive_1 19 rfl) (by decide) ?_
      replace hf := zb_s hf
      obtain ⟨⟨r_30, c_counters_31⟩, hc_, hf⟩ := hf
      refine zcn2 (pc := 161) (rv := (some (.int r_30))) (va_runV (As := [.int (-5 : Int32)]) (rest := []) ⟨hx, hb, hml, hown, hts⟩ (c_X10_answer l D cy tt H.size h0 hm (-5 : Int32) c_counters (0 : Int32) c_state c_test c_words c_ill c_before c_inRow c_first c_inWindow c_same c_made c_requests c_total c_secrets c_rounds c_high c_low c_keyHigh c_keyLow r_30 c_counters_31 hc_) (cwV 1 hts gX10_derive_X10_answer rfl rfl rfl (by decide +kernel) ⟨Nat.le_of_ble_eq_true rfl, Nat.le_of_ble_eq_true rfl⟩) ⟨zblind, va_recv hK hP (ci := 12) (q0 := 0) rfl rfl, zpre hE hS (hP.sub [0, 4] rfl) (hD.sub [0, 4] (by decide) rfl) (va_free hD hS hA [0, 4] rfl)⟩ rfl rfl hl.1 rfl (lv_room (Nat.le_of_ble_eq_true rfl)) (zdt_at zt_X10_derive_1 20 rfl) ⟨Nat.zero_le _, Nat.zero_le _⟩) hS hP hD (va_free hD hS hA [0, 4] rfl) [0, 4] rfl (by decide) rfl ?_
      clear hP hD hS hc_
      intro H locs hP hD hS
      replace hP : va_P D vwCl ([(h0, .inr (12, zmo hm (0 : Int32) c_state c_test c_words c_ill c_before c_inRow c_first c_inWindow c_same c_made c_requests c_total c_secrets c_rounds c_high c_low c_keyHigh c_keyLow)), ((hm 0), .inl (cy 1, 64, .inl c_ROUND)), ((hm 47), .inl (cy 1, 8, .inl c_START)), ((hm 6), .inl (cy 1, 512, .inl c_buffer)), ((hm 5), .inl (cy 1, 3, .inl c_counters_31)), ((hm 35), .inl (cy 1, 32, .inl c_digest)), ((hm 30), .inl (cy 1, 8, .inl c_h)), ((hm 12), .inl (cy 1, 16, .inl c_holder)), ((hm 36), .inl (cy 1, 32, .inl c_inner)), ((hm 14), .inl (cy 1, 1024, .inl c_keys)), ((hm 9), .inl (cy 1, 16, .inl c_kind)), ((hm 10), .inl (cy 1, 16, .inl c_length)), ((hm 33), .inl (cy 1, 64, .inl c_message)), ((hm 37), .inl (cy 1, 64, .inl c_secret)), ((hm 11), .inl (cy 1, 16, .inl c_usage)), ((hm 13), .inl (cy 1, 16, .inl c_uses)), ((hm 31), .inl (cy 1, 64, .inl c_w)), ((hm 32), .inl (cy 1, 8, .inl c_x))]) H := hP
      replace hD : va_D A ([(h0, .inr (12, zmo hm (0 : Int32) c_state c_test c_words c_ill c_before c_inRow c_first c_inWindow c_same c_made c_requests c_total c_secrets c_rounds c_high c_low c_keyHigh c_keyLow)), ((hm 0), .inl (cy 1, 64, .inl c_ROUND)), ((hm 47), .inl (cy 1, 8, .inl c_START)), ((hm 6), .inl (cy 1, 512, .inl c_buffer)), ((hm 5), .inl (cy 1, 3, .inl c_counters_31)), ((hm 35), .inl (cy 1, 32, .inl c_digest)), ((hm 30), .inl (cy 1, 8, .inl c_h)), ((hm 12), .inl (cy 1, 16, .inl c_holder)), ((hm 36), .inl (cy 1, 32, .inl c_inner)), ((hm 14), .inl (cy 1, 1024, .inl c_keys)), ((hm 9), .inl (cy 1, 16, .inl c_kind)), ((hm 10), .inl (cy 1, 16, .inl c_length)), ((hm 33), .inl (cy 1, 64, .inl c_message)), ((hm 37), .inl (cy 1, 64, .inl c_secret)), ((hm 11), .inl (cy 1, 16, .inl c_usage)), ((hm 13), .inl (cy 1, 16, .inl c_uses)), ((hm 31), .inl (cy 1, 64, .inl c_w)), ((hm 32), .inl (cy 1, 8, .inl c_x))]) := hD
      refine W.eq (g2 := F0 m 164 ls [.int r_30]) rfl ?_
      cases hf
      exact W.iret (pc := 164) hx hb hr (fun t ht hW => ⟨rfl, ⟨by rw [ht]; exact hP, hD⟩, hS.F ht⟩) hS.2.2 (zdt_at zt_X10_derive_1 21 rfl)
    replace hf := zt_s cn_ hf
    clear cn_
    refine lv_iload_n (pc := 149) hx hb (zdt_at zt_X10_derive_1 14 rfl) rfl (lv_at hl 4 rfl) ?_
    refine lv_iload (pc := 150) hx hb (zdt_at zt_X10_derive_1 15 rfl) (lv_at hl 6 rfl) ?_
    replace hf := zb_s hf
    obtain ⟨r_32, hc_, hf⟩ := hf
    refine zcs (pc := 152) (rv := (some (.int r_32))) (va_runS (As := [.int p3, .int p5]) (rest := []) ⟨hx, hb, hml, hown, hts⟩ (c_X10_isKey l D cy tt H.size p3 p5 r_32 hc_) (va_cwS 2 hts gX10_derive_X10_isKey rfl rfl rfl (by decide +kernel) ⟨Nat.le_of_ble_eq_true rfl, Nat.le_of_ble_eq_true rfl⟩) ⟨zblind, zpre hE hS (hP.sub [] rfl) (hD.sub [] (by decide) rfl) (va_free hD hS hA [] rfl)⟩ rfl rfl hl.1 rfl (lv_room (Nat.le_of_ble_eq_true rfl)) (zdt_at zt_X10_derive_1 16 rfl) ⟨Nat.zero_le _, Nat.zero_le _⟩) ?_
    clear hc_
    refine W.eq (g2 := F0 m 155 ls [.int r_32]) rfl ?_
    refine lv_if_ne (pc := 155) (tgt := 165) hx hb (zdt_at zt_X10_derive_1 17 rfl) (by decide) (fun cn_ => ?t_33) (fun cn_ => ?f_34)
    case f_34 =>
      replace hf := zt_s cn_ hf
      clear cn_
      refine lv_aload_n (pc := 158) hx hb (zdt_at zt_X10_derive_1 18 rfl) rfl (lv_at hl 1 rfl) ?_
      refine lv_bipush (pc := 159) (v := (-5 : Int32)) hx hb (zdt_at zt_X10_derive_1 19 rfl) (by decide) ?_
      replace hf := zb_s hf
      obtain ⟨⟨r_144, c_counters_145⟩, hc_, hf⟩ := hf
      refine zcn2 (pc := 161) (rv := (some (.int r_144))) (va_runV (As := [.int (-5 : Int32)]) (rest := []) ⟨hx, hb, hml, hown, hts⟩ (c_X10_answer l D cy tt H.size h0 hm (-5 : Int32) c_counters (0 : Int32) c_state c_test c_words c_ill c_before c_inRow c_first c_inWindow c_same c_made c_requests c_total c_secrets c_rounds c_high c_low c_keyHigh c_keyLow r_144 c_counters_145 hc_) (cwV 1 hts gX10_derive_X10_answer rfl rfl rfl (by decide +kernel) ⟨Nat.le_of_ble_eq_true rfl, Nat.le_of_ble_eq_true rfl⟩) ⟨zblind, va_recv hK hP (ci := 12) (q0 := 0) rfl rfl, zpre hE hS (hP.sub [0, 4] rfl) (hD.sub [0, 4] (by decide) rfl) (va_free hD hS hA [0, 4] rfl)⟩ rfl rfl hl.1 rfl (lv_room (Nat.le_of_ble_eq_true rfl)) (zdt_at zt_X10_derive_1 20 rfl) ⟨Nat.zero_le _, Nat.zero_le _⟩) hS hP hD (va_free hD hS hA [0, 4] rfl) [0, 4] rfl (by decide) rfl ?_
      clear hP hD hS hc_
      intro H locs hP hD hS
      replace hP : va_P D vwCl ([(h0, .inr (12, zmo hm (0 : Int32) c_state c_test c_words c_ill c_before c_inRow c_first c_inWindow c_same c_made c_requests c_total c_secrets c_rounds c_high c_low c_keyHigh c_keyLow)), ((hm 0), .inl (cy 1, 64, .inl c_ROUND)), ((hm 47), .inl (cy 1, 8, .inl c_START)), ((hm 6), .inl (cy 1, 512, .inl c_buffer)), ((hm 5), .inl (cy 1, 3, .inl c_counters_145)), ((hm 35), .inl (cy 1, 32, .inl c_digest)), ((hm 30), .inl (cy 1, 8, .inl c_h)), ((hm 12), .inl (cy 1, 16, .inl c_holder)), ((hm 36), .inl (cy 1, 32, .inl c_inner)), ((hm 14), .inl (cy 1, 1024, .inl c_keys)), ((hm 9), .inl (cy 1, 16, .inl c_kind)), ((hm 10), .inl (cy 1, 16, .inl c_length)), ((hm 33), .inl (cy 1, 64, .inl c_message)), ((hm 37), .inl (cy 1, 64, .inl c_secret)), ((hm 11), .inl (cy 1, 16, .inl c_usage)), ((hm 13), .inl (cy 1, 16, .inl c_uses)), ((hm 31), .inl (cy 1, 64, .inl c_w)), ((hm 32), .inl (cy 1, 8, .inl c_x))]) H := hP
      replace hD : va_D A ([(h0, .inr (12, zmo hm (0 : Int32) c_state c_test c_words c_ill c_before c_inRow c_first c_inWindow c_same c_made c_requests c_total c_secrets c_rounds c_high c_low c_keyHigh c_keyLow)), ((hm 0), .inl (cy 1, 64, .inl c_ROUND)), ((hm 47), .inl (cy 1, 8, .inl c_START)), ((hm 6), .inl (cy 1, 512, .inl c_buffer)), ((hm 5), .inl (cy 1, 3, .inl c_counters_145)), ((hm 35), .inl (cy 1, 32, .inl c_digest)), ((hm 30), .inl (cy 1, 8, .inl c_h)), ((hm 12), .inl (cy 1, 16, .inl c_holder)), ((hm 36), .inl (cy 1, 32, .inl c_inner)), ((hm 14), .inl (cy 1, 1024, .inl c_keys)), ((hm 9), .inl (cy 1, 16, .inl c_kind)), ((hm 10), .inl (cy 1, 16, .inl c_length)), ((hm 33), .inl (cy 1, 64, .inl c_message)), ((hm 37), .inl (cy 1, 64, .inl c_secret)), ((hm 11), .inl (cy 1, 16, .inl c_usage)), ((hm 13), .inl (cy 1, 16, .inl c_uses)), ((hm 31), .inl (cy 1, 64, .inl c_w)), ((hm 32), .inl (cy 1, 8, .inl c_x))]) := hD
      refine W.eq (g2 := F0 m 164 ls [.int r_144]) rfl ?_
      cases hf
      exact W.iret (pc := 164) hx hb hr (fun t ht hW => ⟨rfl, ⟨by rw [ht]; exact hP, hD⟩, hS.F ht⟩) hS.2.2 (zdt_at zt_X10_derive_1 21 rfl)
    replace hf := ze_s cn_ hf
    clear cn_
    refine lv_aload_n (pc := 165) hx hb (zdt_at zt_X10_derive_1 22 rfl) rfl (lv_at hl 1 rfl) ?_
    refine va_get (pc := 166) (D := D) (ci := 12) (v := .ref (hm 11)) (C := RX10) (T := TX10) (N := 52) hx hb hts hcX10 hown hK hP 0 rfl rfl 11 (by decide) hw2 (fun _ h9 => h9) rfl (zdt_at zt_X10_derive_1 23 rfl) ?_
    refine lv_iload_n (pc := 169) hx hb (zdt_at zt_X10_derive_1 24 rfl) rfl (lv_at hl 3 rfl) ?_
    replace hf := zk_s hf
    refine va_iald (pc := 170) hx hb hK hP 14 1 rfl rfl hf.1 (zdt_at zt_X10_derive_1 25 rfl) ?_
    replace hf := hf.2
    refine lv_bipush (pc := 171) (v := (8 : Int32)) hx hb (zdt_at zt_X10_derive_1 26 rfl) (by decide) ?_
    refine lv_iand (pc := 173) hx hb (zdt_at zt_X10_derive_1 27 rfl) ?_
    refine lv_if_ne (pc := 174) (tgt := 184) hx hb (zdt_at zt_X10_derive_1 28 rfl) (by decide) (fun cn_ => ?t_35) (fun cn_ => ?f_36)
    case f_36 =>
      replace hf := zt_s cn_ hf
      clear cn_
      refine lv_aload_n (pc := 177) hx hb (zdt_at zt_X10_derive_1 29 rfl) rfl (lv_at hl 1 rfl) ?_
      refine lv_bipush (pc := 178) (v := (-6 : Int32)) hx hb (zdt_at zt_X10_derive_1 30 rfl) (by decide) ?_
      replace hf := zb_s hf
      obtain ⟨⟨r_142, c_counters_143⟩, hc_, hf⟩ := hf
      refine zcn2 (pc := 180) (rv := (some (.int r_142))) (va_runV (As := [.int (-6 : Int32)]) (rest := []) ⟨hx, hb, hml, hown, hts⟩ (c_X10_answer l D cy tt H.size h0 hm (-6 : Int32) c_counters (0 : Int32) c_state c_test c_words c_ill c_before c_inRow c_first c_inWindow c_same c_made c_requests c_total c_secrets c_rounds c_high c_low c_keyHigh c_keyLow r_142 c_counters_143 hc_) (cwV 1 hts gX10_derive_X10_answer rfl rfl rfl (by decide +kernel) ⟨Nat.le_of_ble_eq_true rfl, Nat.le_of_ble_eq_true rfl⟩) ⟨zblind, va_recv hK hP (ci := 12) (q0 := 0) rfl rfl, zpre hE hS (hP.sub [0, 4] rfl) (hD.sub [0, 4] (by decide) rfl) (va_free hD hS hA [0, 4] rfl)⟩ rfl rfl hl.1 rfl (lv_room (Nat.le_of_ble_eq_true rfl)) (zdt_at zt_X10_derive_1 31 rfl) ⟨Nat.zero_le _, Nat.zero_le _⟩) hS hP hD (va_free hD hS hA [0, 4] rfl) [0, 4] rfl (by decide) rfl ?_
      clear hP hD hS hc_
      intro H locs hP hD hS
      replace hP : va_P D vwCl ([(h0, .inr (12, zmo hm (0 : Int32) c_state c_test c_words c_ill c_before c_inRow c_first c_inWindow c_same c_made c_requests c_total c_secrets c_rounds c_high c_low c_keyHigh c_keyLow)), ((hm 0), .inl (cy 1, 64, .inl c_ROUND)), ((hm 47), .inl (cy 1, 8, .inl c_START)), ((hm 6), .inl (cy 1, 512, .inl c_buffer)), ((hm 5), .inl (cy 1, 3, .inl c_counters_143)), ((hm 35), .inl (cy 1, 32, .inl c_digest)), ((hm 30), .inl (cy 1, 8, .inl c_h)), ((hm 12), .inl (cy 1, 16, .inl c_holder)), ((hm 36), .inl (cy 1, 32, .inl c_inner)), ((hm 14), .inl (cy 1, 1024, .inl c_keys)), ((hm 9), .inl (cy 1, 16, .inl c_kind)), ((hm 10), .inl (cy 1, 16, .inl c_length)), ((hm 33), .inl (cy 1, 64, .inl c_message)), ((hm 37), .inl (cy 1, 64, .inl c_secret)), ((hm 11), .inl (cy 1, 16, .inl c_usage)), ((hm 13), .inl (cy 1, 16, .inl c_uses)), ((hm 31), .inl (cy 1, 64, .inl c_w)), ((hm 32), .inl (cy 1, 8, .inl c_x))]) H := hP
      replace hD : va_D A ([(h0, .inr (12, zmo hm (0 : Int32) c_state c_test c_words c_ill c_before c_inRow c_first c_inWindow c_same c_made c_requests c_total c_secrets c_rounds c_high c_low c_keyHigh c_keyLow)), ((hm 0), .inl (cy 1, 64, .inl c_ROUND)), ((hm 47), .inl (cy 1, 8, .inl c_START)), ((hm 6), .inl (cy 1, 512, .inl c_buffer)), ((hm 5), .inl (cy 1, 3, .inl c_counters_143)), ((hm 35), .inl (cy 1, 32, .inl c_digest)), ((hm 30), .inl (cy 1, 8, .inl c_h)), ((hm 12), .inl (cy 1, 16, .inl c_holder)), ((hm 36), .inl (cy 1, 32, .inl c_inner)), ((hm 14), .inl (cy 1, 1024, .inl c_keys)), ((hm 9), .inl (cy 1, 16, .inl c_kind)), ((hm 10), .inl (cy 1, 16, .inl c_length)), ((hm 33), .inl (cy 1, 64, .inl c_message)), ((hm 37), .inl (cy 1, 64, .inl c_secret)), ((hm 11), .inl (cy 1, 16, .inl c_usage)), ((hm 13), .inl (cy 1, 16, .inl c_uses)), ((hm 31), .inl (cy 1, 64, .inl c_w)), ((hm 32), .inl (cy 1, 8, .inl c_x))]) := hD
      refine W.eq (g2 := F0 m 183 ls [.int r_142]) rfl ?_
      cases hf
      exact W.iret (pc := 183) hx hb hr (fun t ht hW => ⟨rfl, ⟨by rw [ht]; exact hP, hD⟩, hS.F ht⟩) hS.2.2 (zdt_at zt_X10_derive_1 32 rfl)
    replace hf := ze_s cn_ hf
    clear cn_
    refine lv_aload_n (pc := 184) hx hb (zdt_at zt_X10_derive_1 33 rfl) rfl (lv_at hl 1 rfl) ?_
    refine va_get (pc := 185) (D := D) (ci := 12) (v := .ref (hm 13)) (C := RX10) (T := TX10) (N := 52) hx hb hts hcX10 hown hK hP 0 rfl rfl 13 (by decide) hw3 (fun _ h9 => h9) rfl (zdt_at zt_X10_derive_1 34 rfl) ?_
    refine lv_iload_n (pc := 188) hx hb (zdt_at zt_X10_derive_1 35 rfl) rfl (lv_at hl 3 rfl) ?_
    replace hf := zk_s hf
    refine va_iald (pc := 189) hx hb hK hP 15 1 rfl rfl hf.1 (zdt_at zt_X10_derive_1 36 rfl) ?_
    replace hf := hf.2
    refine lv_if_ne (pc := 190) (tgt := 200) hx hb (zdt_at zt_X10_derive_1 37 rfl) (by decide) (fun cn_ => ?t_37) (fun cn_ => ?f_38)
    case f_38 =>
      replace hf := zt_s cn_ hf
      clear cn_
      refine lv_aload_n (pc := 193) hx hb (zdt_at zt_X10_derive_1 38 rfl) rfl (lv_at hl 1 rfl) ?_
      refine lv_bipush (pc := 194) (v := (-7 : Int32)) hx hb (zdt_at zt_X10_derive_1 39 rfl) (by decide) ?_
      replace hf := zb_s hf
      obtain ⟨⟨r_140, c_counters_141⟩, hc_, hf⟩ := hf
      refine zcn2 (pc := 196) (rv := (some (.int r_140))) (va_runV (As := [.int (-7 : Int32)]) (rest := []) ⟨hx, hb, hml, hown, hts⟩ (c_X10_answer l D cy tt H.size h0 hm (-7 : Int32) c_counters (0 : Int32) c_state c_test c_words c_ill c_before c_inRow c_first c_inWindow c_same c_made c_requests c_total c_secrets c_rounds c_high c_low c_keyHigh c_keyLow r_140 c_counters_141 hc_) (cwV 1 hts gX10_derive_X10_answer rfl rfl rfl (by decide +kernel) ⟨Nat.le_of_ble_eq_true rfl, Nat.le_of_ble_eq_true rfl⟩) ⟨zblind, va_recv hK hP (ci := 12) (q0 := 0) rfl rfl, zpre hE hS (hP.sub [0, 4] rfl) (hD.sub [0, 4] (by decide) rfl) (va_free hD hS hA [0, 4] rfl)⟩ rfl rfl hl.1 rfl (lv_room (Nat.le_of_ble_eq_true rfl)) (zdt_at zt_X10_derive_1 40 rfl) ⟨Nat.zero_le _, Nat.zero_le _⟩) hS hP hD (va_free hD hS hA [0, 4] rfl) [0, 4] rfl (by decide) rfl ?_
      clear hP hD hS hc_
      intro H locs hP hD hS
      replace hP : va_P D vwCl ([(h0, .inr (12, zmo hm (0 : Int32) c_state c_test c_words c_ill c_before c_inRow c_first c_inWindow c_same c_made c_requests c_total c_secrets c_rounds c_high c_low c_keyHigh c_keyLow)), ((hm 0), .inl (cy 1, 64, .inl c_ROUND)), ((hm 47), .inl (cy 1, 8, .inl c_START)), ((hm 6), .inl (cy 1, 512, .inl c_buffer)), ((hm 5), .inl (cy 1, 3, .inl c_counters_141)), ((hm 35), .inl (cy 1, 32, .inl c_digest)), ((hm 30), .inl (cy 1, 8, .inl c_h)), ((hm 12), .inl (cy 1, 16, .inl c_holder)), ((hm 36), .inl (cy 1, 32, .inl c_inner)), ((hm 14), .inl (cy 1, 1024, .inl c_keys)), ((hm 9), .inl (cy 1, 16, .inl c_kind)), ((hm 10), .inl (cy 1, 16, .inl c_length)), ((hm 33), .inl (cy 1, 64, .inl c_message)), ((hm 37), .inl (cy 1, 64, .inl c_secret)), ((hm 11), .inl (cy 1, 16, .inl c_usage)), ((hm 13), .inl (cy 1, 16, .inl c_uses)), ((hm 31), .inl (cy 1, 64, .inl c_w)), ((hm 32), .inl (cy 1, 8, .inl c_x))]) H := hP
      replace hD : va_D A ([(h0, .inr (12, zmo hm (0 : Int32) c_state c_test c_words c_ill c_before c_inRow c_first c_inWindow c_same c_made c_requests c_total c_secrets c_rounds c_high c_low c_keyHigh c_keyLow)), ((hm 0), .inl (cy 1, 64, .inl c_ROUND)), ((hm 47), .inl (cy 1, 8, .inl c_START)), ((hm 6), .inl (cy 1, 512, .inl c_buffer)), ((hm 5), .inl (cy 1, 3, .inl c_counters_141)), ((hm 35), .inl (cy 1, 32, .inl c_digest)), ((hm 30), .inl (cy 1, 8, .inl c_h)), ((hm 12), .inl (cy 1, 16, .inl c_holder)), ((hm 36), .inl (cy 1, 32, .inl c_inner)), ((hm 14), .inl (cy 1, 1024, .inl c_keys)), ((hm 9), .inl (cy 1, 16, .inl c_kind)), ((hm 10), .inl (cy 1, 16, .inl c_length)), ((hm 33), .inl (cy 1, 64, .inl c_message)), ((hm 37), .inl (cy 1, 64, .inl c_secret)), ((hm 11), .inl (cy 1, 16, .inl c_usage)), ((hm 13), .inl (cy 1, 16, .inl c_uses)), ((hm 31), .inl (cy 1, 64, .inl c_w)), ((hm 32), .inl (cy 1, 8, .inl c_x))]) := hD
      refine W.eq (g2 := F0 m 199 ls [.int r_140]) rfl ?_
      cases hf
      exact W.iret (pc := 199) hx hb hr (fun t ht hW => ⟨rfl, ⟨by rw [ht]; exact hP, hD⟩, hS.F ht⟩) hS.2.2 (zdt_at zt_X10_derive_1 41 rfl)
    replace hf := ze_s cn_ hf
    clear cn_
    refine lv_aload_n (pc := 200) hx hb (zdt_at zt_X10_derive_1 42 rfl) rfl (lv_at hl 1 rfl) ?_
    refine lv_iload_n (pc := 201) hx hb (zdt_at zt_X10_derive_1 43 rfl) rfl (lv_at hl 3 rfl) ?_
    replace hf := zb_s hf
    obtain ⟨c_uses_39, hc_, hf⟩ := hf
    refine zcn2 (pc := 202) (rv := none) (va_runV (As := [.int p2]) (rest := []) ⟨hx, hb, hml, hown, hts⟩ (c_X10_use l D cy tt H.size h0 hm p2 c_uses (0 : Int32) c_state c_test c_words c_ill c_before c_inRow c_first c_inWindow c_same c_made c_requests c_total c_secrets c_rounds c_high c_low c_keyHigh c_keyLow c_uses_39 hc_) (cwV 1 hts gX10_derive_X10_use rfl rfl rfl (by decide +kernel) ⟨Nat.le_of_ble_eq_true rfl, Nat.le_of_ble_eq_true rfl⟩) ⟨zblind, va_recv hK hP (ci := 12) (q0 := 0) rfl rfl, zpre hE hS (hP.sub [0, 15] rfl) (hD.sub [0, 15] (by decide) rfl) (va_free hD hS hA [0, 15] rfl)⟩ rfl rfl hl.1 rfl (lv_room (Nat.le_of_ble_eq_true rfl)) (zdt_at zt_X10_derive_1 44 rfl) ⟨Nat.zero_le _, Nat.zero_le _⟩) hS hP hD (va_free hD hS hA [0, 15] rfl) [0, 15] rfl (by decide) rfl ?_
    clear hP hD hS hc_
    intro H locs hP hD hS
    replace hP : va_P D vwCl ([(h0, .inr (12, zmo hm (0 : Int32) c_state c_test c_words c_ill c_before c_inRow c_first c_inWindow c_same c_made c_requests c_total c_secrets c_rounds c_high c_low c_keyHigh c_keyLow)), ((hm 0), .inl (cy 1, 64, .inl c_ROUND)), ((hm 47), .inl (cy 1, 8, .inl c_START)), ((hm 6), .inl (cy 1, 512, .inl c_buffer)), ((hm 5), .inl (cy 1, 3, .inl c_counters)), ((hm 35), .inl (cy 1, 32, .inl c_digest)), ((hm 30), .inl (cy 1, 8, .inl c_h)), ((hm 12), .inl (cy 1, 16, .inl c_holder)), ((hm 36), .inl (cy 1, 32, .inl c_inner)), ((hm 14), .inl (cy 1, 1024, .inl c_keys)), ((hm 9), .inl (cy 1, 16, .inl c_kind)), ((hm 10), .inl (cy 1, 16, .inl c_length)), ((hm 33), .inl (cy 1, 64, .inl c_message)), ((hm 37), .inl (cy 1, 64, .inl c_secret)), ((hm 11), .inl (cy 1, 16, .inl c_usage)), ((hm 13), .inl (cy 1, 16, .inl c_uses_39)), ((hm 31), .inl (cy 1, 64, .inl c_w)), ((hm 32), .inl (cy 1, 8, .inl c_x))]) H := hP
    replace hD : va_D A ([(h0, .inr (12, zmo hm (0 : Int32) c_state c_test c_words c_ill c_before c_inRow c_first c_inWindow c_same c_made c_requests c_total c_secrets c_rounds c_high c_low c_keyHigh c_keyLow)), ((hm 0), .inl (cy 1, 64, .inl c_ROUND)), ((hm 47), .inl (cy 1, 8, .inl c_START)), ((hm 6), .inl (cy 1, 512, .inl c_buffer)), ((hm 5), .inl (cy 1, 3, .inl c_counters)), ((hm 35), .inl (cy 1, 32, .inl c_digest)), ((hm 30), .inl (cy 1, 8, .inl c_h)), ((hm 12), .inl (cy 1, 16, .inl c_holder)), ((hm 36), .inl (cy 1, 32, .inl c_inner)), ((hm 14), .inl (cy 1, 1024, .inl c_keys)), ((hm 9), .inl (cy 1, 16, .inl c_kind)), ((hm 10), .inl (cy 1, 16, .inl c_length)), ((hm 33), .inl (cy 1, 64, .inl c_message)), ((hm 37), .inl (cy 1, 64, .inl c_secret)), ((hm 11), .inl (cy 1, 16, .inl c_usage)), ((hm 13), .inl (cy 1, 16, .inl c_uses_39)), ((hm 31), .inl (cy 1, 64, .inl c_w)), ((hm 32), .inl (cy 1, 8, .inl c_x))]) := hD
    refine W.eq (g2 := F0 m 205 ls []) rfl ?_
    refine lv_iconst (pc := 205) (v := (0 : Int32)) hx hb (zdt_at zt_X10_derive_1 45 rfl) (by decide) ?_
    refine lv_istore (pc := 206) (lv' := [(8, .int (0 : Int32)), (7, .int v_5), (0, .ref h0), (1, .int p1), (2, .int p2), (3, .int p3), (4, .int p4), (5, .int p5), (6, .int p6)]) hx hb (zdt_at zt_X10_derive_1 46 rfl) hl (by decide) rfl ?_
    clear hl
    intro ls hl
    replace hf := zj_s hf
    obtain ⟨K_61, eK_61, hf⟩ := hf
    have kK_61 : ∀ (c_digest_51 : Nat → Int32) (c_h_52 : Nat → Int32) (c_inner_53 : Nat → Int32) (c_keys_54 : Nat → Int32) (c_message_55 : Nat → Int32) (c_secret_56 : Nat → Int32) (c_secrets_57 : Int32) (c_total_58 : Int64) (c_w_59 : Nat → Int32) (c_x_60 : Nat → Int32) (H : Heap) (locs : List Loc) (ls : Array Slot), va_P D vwCl ([(h0, .inr (12, zmo hm (0 : Int32) c_state c_test c_words c_ill c_before c_inRow c_first c_inWindow c_same c_made c_requests c_total_58 c_secrets_57 c_rounds c_high c_low c_keyHigh c_keyLow)), ((hm 0), .inl (cy 1, 64, .inl c_ROUND)), ((hm 47), .inl (cy 1, 8, .inl c_START)), ((hm 6), .inl (cy 1, 512, .inl c_buffer)), ((hm 5), .inl (cy 1, 3, .inl c_counters)), ((hm 35), .inl (cy 1, 32, .inl c_digest_51)), ((hm 30), .inl (cy 1, 8, .inl c_h_52)), ((hm 12), .inl (cy 1, 16, .inl c_holder)), ((hm 36), .inl (cy 1, 32, .inl c_inner_53)), ((hm 14), .inl (cy 1, 1024, .inl c_keys_54)), ((hm 9), .inl (cy 1, 16, .inl c_kind)), ((hm 10), .inl (cy 1, 16, .inl c_length)), ((hm 33), .inl (cy 1, 64, .inl c_message_55)), ((hm 37), .inl (cy 1, 64, .inl c_secret_56)), ((hm 11), .inl (cy 1, 16, .inl c_usage)), ((hm 13), .inl (cy 1, 16, .inl c_uses_39)), ((hm 31), .inl (cy 1, 64, .inl c_w_59)), ((hm 32), .inl (cy 1, 8, .inl c_x_60))]) H → va_D A ([(h0, .inr (12, zmo hm (0 : Int32) c_state c_test c_words c_ill c_before c_inRow c_first c_inWindow c_same c_made c_requests c_total_58 c_secrets_57 c_rounds c_high c_low c_keyHigh c_keyLow)), ((hm 0), .inl (cy 1, 64, .inl c_ROUND)), ((hm 47), .inl (cy 1, 8, .inl c_START)), ((hm 6), .inl (cy 1, 512, .inl c_buffer)), ((hm 5), .inl (cy 1, 3, .inl c_counters)), ((hm 35), .inl (cy 1, 32, .inl c_digest_51)), ((hm 30), .inl (cy 1, 8, .inl c_h_52)), ((hm 12), .inl (cy 1, 16, .inl c_holder)), ((hm 36), .inl (cy 1, 32, .inl c_inner_53)), ((hm 14), .inl (cy 1, 1024, .inl c_keys_54)), ((hm 9), .inl (cy 1, 16, .inl c_kind)), ((hm 10), .inl (cy 1, 16, .inl c_length)), ((hm 33), .inl (cy 1, 64, .inl c_message_55)), ((hm 37), .inl (cy 1, 64, .inl c_secret_56)), ((hm 11), .inl (cy 1, 16, .inl c_usage)), ((hm 13), .inl (cy 1, 16, .inl c_uses_39)), ((hm 31), .inl (cy 1, 64, .inl c_w_59)), ((hm 32), .inl (cy 1, 8, .inl c_x_60))]) → va_S A s.heap H locs → lv_has ls 10 [(0, .ref h0), (1, .int p1), (3, .int p3), (4, .int p4), (5, .int p5)] → K_61 c_digest_51 c_h_52 c_inner_53 c_keys_54 c_message_55 c_secret_56 c_secrets_57 c_total_58 c_w_59 c_x_60 = some (r_, c_secrets', c_thrown', c_total', c_counters', c_digest', c_h', c_holder', c_inner', c_keys', c_kind', c_length', c_message', c_secret', c_usage', c_uses', c_w', c_x') → GW H locs (F0 m 322 ls []) := by
      clear hf hl hP hD hS
      intro c_digest_51 c_h_52 c_inner_53 c_keys_54 c_message_55 c_secret_56 c_secrets_57 c_total_58 c_w_59 c_x_60 H locs ls hP hD hS hl hf
      rw [eK_61] at hf
      clear eK_61
      refine hFr _ _ _ ?_
      refine lv_aload_n (pc := 322) hx hb (zdt_at zt_X10_derive_2 43 rfl) rfl (lv_at hl 0 rfl) ?_
      refine lv_iload_n (pc := 323) hx hb (zdt_at zt_X10_derive_2 44 rfl) rfl (lv_at hl 1 rfl) ?_
      refine lv_iload_n (pc := 324) hx hb (zdt_at zt_X10_derive_2 45 rfl) rfl (lv_at hl 2 rfl) ?_
      refine lv_iload (pc := 325) hx hb (zdt_at zt_X10_derive_2 46 rfl) (lv_at hl 3 rfl) ?_
      refine lv_aload_n (pc := 327) hx hb (zdt_at zt_X10_derive_2 47 rfl) rfl (lv_at hl 0 rfl) ?_
      replace hf := zb_s hf
      obtain ⟨r_62, hc_, hf⟩ := hf
      refine zcs (pc := 328) (rv := (some (.int r_62))) (va_runV (As := []) (rest := [.int p4, .int p3, .int p1, .ref h0]) ⟨hx, hb, hml, hown, hts⟩ (c_X10_role l D cy tt H.size h0 hm c_state (0 : Int32) c_test c_words c_ill c_before c_inRow c_first c_inWindow c_same c_made c_requests c_total_58 c_secrets_57 c_rounds c_high c_low c_keyHigh c_keyLow r_62 hc_) (cwV 0 hts gX10_derive_X10_role rfl rfl rfl (by decide +kernel) ⟨Nat.le_of_ble_eq_true rfl, Nat.le_of_ble_eq_true rfl⟩) ⟨zblind, va_recv hK hP (ci := 12) (q0 := 0) rfl rfl, zpre hE hS (hP.sub [0] rfl) (hD.sub [0] (by decide) rfl) (va_free hD hS hA [0] rfl)⟩ rfl rfl hl.1 rfl (lv_room (Nat.le_of_ble_eq_true rfl)) (zdt_at zt_X10_derive_2 48 rfl) ⟨Nat.zero_le _, Nat.zero_le _⟩) ?_
      clear hc_
      refine W.eq (g2 := F0 m 331 ls [.int r_62, .int p4, .int p3, .int p1, .ref h0]) rfl ?_
      refine lv_iconst (pc := 331) (v := (-1 : Int32)) hx hb (zdt_at zt_X10_derive_2 49 rfl) (by decide) ?_
      refine lv_iload (pc := 332) hx hb (zdt_at zt_X10_derive_2 50 rfl) (lv_at hl 4 rfl) ?_
      replace hf := zb_s hf
      obtain ⟨⟨c_holder_63, c_kind_64, c_length_65, c_usage_66, c_uses_67⟩, hc_, hf⟩ := hf
      refine zcn2 (pc := 334) (rv := none) (va_runV (As := [.int p1, .int p3, .int p4, .int r_62, .int (-1 : Int32), .int p5]) (rest := []) ⟨hx, hb, hml, hown, hts⟩ (c_X10_fill l D cy tt H.size h0 hm p1 p3 p4 r_62 (-1 : Int32) p5 c_holder c_kind c_length c_usage c_uses_39 (0 : Int32) c_state c_test c_words c_ill c_before c_inRow c_first c_inWindow c_same c_made c_requests c_total_58 c_secrets_57 c_rounds c_high c_low c_keyHigh c_keyLow c_holder_63 c_kind_64 c_length_65 c_usage_66 c_uses_67 hc_) (cwV 6 hts gX10_derive_X10_fill rfl rfl rfl (by decide +kernel) ⟨Nat.le_of_ble_eq_true rfl, Nat.le_of_ble_eq_true rfl⟩) ⟨zblind, va_recv hK hP (ci := 12) (q0 := 0) rfl rfl, zpre hE hS (hP.sub [0, 7, 10, 11, 14, 15] rfl) (hD.sub [0, 7, 10, 11, 14, 15] (by decide) rfl) (va_free hD hS hA [0, 7, 10, 11, 14, 15] rfl)⟩ rfl rfl hl.1 rfl (lv_room (Nat.le_of_ble_eq_true rfl)) (zdt_at zt_X10_derive_2 51 rfl) ⟨Nat.zero_le _, Nat.zero_le _⟩) hS hP hD (va_free hD hS hA [0, 7, 10, 11, 14, 15] rfl) [0, 7, 10, 11, 14, 15] rfl (by decide) rfl ?_
      clear hP hD hS hc_
      intro H locs hP hD hS
      replace hP : va_P D vwCl ([(h0, .inr (12, zmo hm (0 : Int32) c_state c_test c_words c_ill c_before c_inRow c_first c_inWindow c_same c_made c_requests c_total_58 c_secrets_57 c_rounds c_high c_low c_keyHigh c_keyLow)), ((hm 0), .inl (cy 1, 64, .inl c_ROUND)), ((hm 47), .inl (cy 1, 8, .inl c_START)), ((hm 6), .inl (cy 1, 512, .inl c_buffer)), ((hm 5), .inl (cy 1, 3, .inl c_counters)), ((hm 35), .inl (cy 1, 32, .inl c_digest_51)), ((hm 30), .inl (cy 1, 8, .inl c_h_52)), ((hm 12), .inl (cy 1, 16, .inl c_holder_63)), ((hm 36), .inl (cy 1, 32, .inl c_inner_53)), ((hm 14), .inl (cy 1, 1024, .inl c_keys_54)), ((hm 9), .inl (cy 1, 16, .inl c_kind_64)), ((hm 10), .inl (cy 1, 16, .inl c_length_65)), ((hm 33), .inl (cy 1, 64, .inl c_message_55)), ((hm 37), .inl (cy 1, 64, .inl c_secret_56)), ((hm 11), .inl (cy 1, 16, .inl c_usage_66)), ((hm 13), .inl (cy 1, 16, .inl c_uses_67)), ((hm 31), .inl (cy 1, 64, .inl c_w_59)), ((hm 32), .inl (cy 1, 8, .inl c_x_60))]) H := hP
      replace hD : va_D A ([(h0, .inr (12, zmo hm (0 : Int32) c_state c_test c_words c_ill c_before c_inRow c_first c_inWindow c_same c_made c_requests c_total_58 c_secrets_57 c_rounds c_high c_low c_keyHigh c_keyLow)), ((hm 0), .inl (cy 1, 64, .inl c_ROUND)), ((hm 47), .inl (cy 1, 8, .inl c_START)), ((hm 6), .inl (cy 1, 512, .inl c_buffer)), ((hm 5), .inl (cy 1, 3, .inl c_counters)), ((hm 35), .inl (cy 1, 32, .inl c_digest_51)), ((hm 30), .inl (cy 1, 8, .inl c_h_52)), ((hm 12), .inl (cy 1, 16, .inl c_holder_63)), ((hm 36), .inl (cy 1, 32, .inl c_inner_53)), ((hm 14), .inl (cy 1, 1024, .inl c_keys_54)), ((hm 9), .inl (cy 1, 16, .inl c_kind_64)), ((hm 10), .inl (cy 1, 16, .inl c_length_65)), ((hm 33), .inl (cy 1, 64, .inl c_message_55)), ((hm 37), .inl (cy 1, 64, .inl c_secret_56)), ((hm 11), .inl (cy 1, 16, .inl c_usage_66)), ((hm 13), .inl (cy 1, 16, .inl c_uses_67)), ((hm 31), .inl (cy 1, 64, .inl c_w_59)), ((hm 32), .inl (cy 1, 8, .inl c_x_60))]) := hD
      refine W.eq (g2 := F0 m 337 ls []) rfl ?_
      refine lv_aload_n (pc := 337) hx hb (zdt_at zt_X10_derive_2 52 rfl) rfl (lv_at hl 0 rfl) ?_
      refine lv_iconst (pc := 338) (v := (0 : Int32)) hx hb (zdt_at zt_X10_derive_2 53 rfl) (by decide) ?_
      replace hf := zb_s hf
      obtain ⟨⟨r_68, c_counters_69⟩, hc_, hf⟩ := hf
      refine zcn2 (pc := 339) (rv := (some (.int r_68))) (va_runV (As := [.int (0 : Int32)]) (rest := []) ⟨hx, hb, hml, hown, hts⟩ (c_X10_answer l D cy tt H.size h0 hm (0 : Int32) c_counters (0 : Int32) c_state c_test c_words c_ill c_before c_inRow c_first c_inWindow c_same c_made c_requests c_total_58 c_secrets_57 c_rounds c_high c_low c_keyHigh c_keyLow r_68 c_counters_69 hc_) (cwV 1 hts gX10_derive_X10_answer rfl rfl rfl (by decide +kernel) ⟨Nat.le_of_ble_eq_true rfl, Nat.le_of_ble_eq_true rfl⟩) ⟨zblind, va_recv hK hP (ci := 12) (q0 := 0) rfl rfl, zpre hE hS (hP.sub [0, 4] rfl) (hD.sub [0, 4] (by decide) rfl) (va_free hD hS hA [0, 4] rfl)⟩ rfl rfl hl.1 rfl (lv_room (Nat.le_of_ble_eq_true rfl)) (zdt_at zt_X10_derive_2 54 rfl) ⟨Nat.zero_le _, Nat.zero_le _⟩) hS hP hD (va_free hD hS hA [0, 4] rfl) [0, 4] rfl (by decide) rfl ?_
      clear hP hD hS hc_
      intro H locs hP hD hS
      replace hP : va_P D vwCl ([(h0, .inr (12, zmo hm (0 : Int32) c_state c_test c_words c_ill c_before c_inRow c_first c_inWindow c_same c_made c_requests c_total_58 c_secrets_57 c_rounds c_high c_low c_keyHigh c_keyLow)), ((hm 0), .inl (cy 1, 64, .inl c_ROUND)), ((hm 47), .inl (cy 1, 8, .inl c_START)), ((hm 6), .inl (cy 1, 512, .inl c_buffer)), ((hm 5), .inl (cy 1, 3, .inl c_counters_69)), ((hm 35), .inl (cy 1, 32, .inl c_digest_51)), ((hm 30), .inl (cy 1, 8, .inl c_h_52)), ((hm 12), .inl (cy 1, 16, .inl c_holder_63)), ((hm 36), .inl (cy 1, 32, .inl c_inner_53)), ((hm 14), .inl (cy 1, 1024, .inl c_keys_54)), ((hm 9), .inl (cy 1, 16, .inl c_kind_64)), ((hm 10), .inl (cy 1, 16, .inl c_length_65)), ((hm 33), .inl (cy 1, 64, .inl c_message_55)), ((hm 37), .inl (cy 1, 64, .inl c_secret_56)), ((hm 11), .inl (cy 1, 16, .inl c_usage_66)), ((hm 13), .inl (cy 1, 16, .inl c_uses_67)), ((hm 31), .inl (cy 1, 64, .inl c_w_59)), ((hm 32), .inl (cy 1, 8, .inl c_x_60))]) H := hP
      replace hD : va_D A ([(h0, .inr (12, zmo hm (0 : Int32) c_state c_test c_words c_ill c_before c_inRow c_first c_inWindow c_same c_made c_requests c_total_58 c_secrets_57 c_rounds c_high c_low c_keyHigh c_keyLow)), ((hm 0), .inl (cy 1, 64, .inl c_ROUND)), ((hm 47), .inl (cy 1, 8, .inl c_START)), ((hm 6), .inl (cy 1, 512, .inl c_buffer)), ((hm 5), .inl (cy 1, 3, .inl c_counters_69)), ((hm 35), .inl (cy 1, 32, .inl c_digest_51)), ((hm 30), .inl (cy 1, 8, .inl c_h_52)), ((hm 12), .inl (cy 1, 16, .inl c_holder_63)), ((hm 36), .inl (cy 1, 32, .inl c_inner_53)), ((hm 14), .inl (cy 1, 1024, .inl c_keys_54)), ((hm 9), .inl (cy 1, 16, .inl c_kind_64)), ((hm 10), .inl (cy 1, 16, .inl c_length_65)), ((hm 33), .inl (cy 1, 64, .inl c_message_55)), ((hm 37), .inl (cy 1, 64, .inl c_secret_56)), ((hm 11), .inl (cy 1, 16, .inl c_usage_66)), ((hm 13), .inl (cy 1, 16, .inl c_uses_67)), ((hm 31), .inl (cy 1, 64, .inl c_w_59)), ((hm 32), .inl (cy 1, 8, .inl c_x_60))]) := hD
      refine W.eq (g2 := F0 m 342 ls [.int r_68]) rfl ?_
      cases hf
      exact W.iret (pc := 342) hx hb hr (fun t ht hW => ⟨rfl, ⟨by rw [ht]; exact hP, hD⟩, hS.F ht⟩) hS.2.2 (zdt_at zt_X10_derive_2 55 rfl)
    clear eK_61
    refine hTo _ _ _ (zl_go (fun z => match z with | (i_40, c_digest_41, c_h_42, c_inner_43, c_keys_44, c_message_45, c_secret_46, c_secrets_47, c_total_48, c_w_49, c_x_50) => ∀ (H : Heap) (locs : List Loc) (ls : Array Slot), va_P D vwCl ([(h0, .inr (12, zmo hm (0 : Int32) c_state c_test c_words c_ill c_before c_inRow c_first c_inWindow c_same c_made c_requests c_total_48 c_secrets_47 c_rounds c_high c_low c_keyHigh c_keyLow)), ((hm 0), .inl (cy 1, 64, .inl c_ROUND)), ((hm 47), .inl (cy 1, 8, .inl c_START)), ((hm 6), .inl (cy 1, 512, .inl c_buffer)), ((hm 5), .inl (cy 1, 3, .inl c_counters)), ((hm 35), .inl (cy 1, 32, .inl c_digest_41)), ((hm 30), .inl (cy 1, 8, .inl c_h_42)), ((hm 12), .inl (cy 1, 16, .inl c_holder)), ((hm 36), .inl (cy 1, 32, .inl c_inner_43)), ((hm 14), .inl (cy 1, 1024, .inl c_keys_44)), ((hm 9), .inl (cy 1, 16, .inl c_kind)), ((hm 10), .inl (cy 1, 16, .inl c_length)), ((hm 33), .inl (cy 1, 64, .inl c_message_45)), ((hm 37), .inl (cy 1, 64, .inl c_secret_46)), ((hm 11), .inl (cy 1, 16, .inl c_usage)), ((hm 13), .inl (cy 1, 16, .inl c_uses_39)), ((hm 31), .inl (cy 1, 64, .inl c_w_49)), ((hm 32), .inl (cy 1, 8, .inl c_x_50))]) H → va_D A ([(h0, .inr (12, zmo hm (0 : Int32) c_state c_test c_words c_ill c_before c_inRow c_first c_inWindow c_same c_made c_requests c_total_48 c_secrets_47 c_rounds c_high c_low c_keyHigh c_keyLow)), ((hm 0), .inl (cy 1, 64, .inl c_ROUND)), ((hm 47), .inl (cy 1, 8, .inl c_START)), ((hm 6), .inl (cy 1, 512, .inl c_buffer)), ((hm 5), .inl (cy 1, 3, .inl c_counters)), ((hm 35), .inl (cy 1, 32, .inl c_digest_41)), ((hm 30), .inl (cy 1, 8, .inl c_h_42)), ((hm 12), .inl (cy 1, 16, .inl c_holder)), ((hm 36), .inl (cy 1, 32, .inl c_inner_43)), ((hm 14), .inl (cy 1, 1024, .inl c_keys_44)), ((hm 9), .inl (cy 1, 16, .inl c_kind)), ((hm 10), .inl (cy 1, 16, .inl c_length)), ((hm 33), .inl (cy 1, 64, .inl c_message_45)), ((hm 37), .inl (cy 1, 64, .inl c_secret_46)), ((hm 11), .inl (cy 1, 16, .inl c_usage)), ((hm 13), .inl (cy 1, 16, .inl c_uses_39)), ((hm 31), .inl (cy 1, 64, .inl c_w_49)), ((hm 32), .inl (cy 1, 8, .inl c_x_50))]) → va_S A s.heap H locs → lv_has ls 10 [(0, .ref h0), (1, .int p1), (2, .int p2), (3, .int p3), (4, .int p4), (5, .int p5), (6, .int p6), (8, .int i_40)] → GW H locs (F0 m 208 ls [])) hf ?_ H locs ls hP hD hS (lv_sub hl [2, 3, 4, 5, 6, 7, 8, 0] rfl))
    clear hf hl hP hD hS
    intro self_70 ihself_70 z hf
    obtain ⟨i_40, c_digest_41, c_h_42, c_inner_43, c_keys_44, c_message_45, c_secret_46, c_secrets_47, c_total_48, c_w_49, c_x_50⟩ := z
    intro H locs ls hP hD hS hl
    refine hFr _ _ _ ?_
    unfold b_X10_derive_208 at hf
    refine lv_iload (pc := 208) hx hb (zdt_at zt_X10_derive_1 47 rfl) (lv_at hl 7 rfl) ?_
    refine lv_iload (pc := 210) hx hb (zdt_at zt_X10_derive_1 48 rfl) (lv_at hl 5 rfl) ?_
    refine lv_icmp_ge (pc := 212) (tgt := 322) hx hb (zdt_at zt_X10_derive_1 49 rfl) (by decide) (fun cn_ => ?t_71) (fun cn_ => ?f_72)
    case t_71 =>
      replace hf := zt_s cn_ hf
      clear cn_
      exact hTo _ _ _ (kK_61 _ _ _ _ _ _ _ _ _ _ H locs ls hP hD hS (lv_sub hl [0, 1, 3, 4, 5] rfl) hf)
    replace hf := ze_s cn_ hf
    clear cn_
    refine lv_iload (pc := 215) hx hb (zdt_at zt_X10_derive_1 50 rfl) (lv_at hl 7 rfl) ?_
    refine lv_bipush (pc := 217) (v := (32 : Int32)) hx hb (zdt_at zt_X10_derive_1 51 rfl) (by decide) ?_
    replace hf := zk_s hf
    refine lv_irem (pc := 219) hx hb (zdt_at zt_X10_derive_1 52 rfl) hf.1 ?_
    replace hf := hf.2
    replace hf := zj_s hf
    obtain ⟨K_82, eK_82, hf⟩ := hf
    have kK_82 : ∀ (c_digest_73 : Nat → Int32) (c_h_74 : Nat → Int32) (c_inner_75 : Nat → Int32) (c_message_76 : Nat → Int32) (c_secret_77 : Nat → Int32) (c_secrets_78 : Int32) (c_total_79 : Int64) (c_w_80 : Nat → Int32) (c_x_81 : Nat → Int32) (H : Heap) (locs : List Loc) (ls : Array Slot), va_P D vwCl ([(h0, .inr (12, zmo hm (0 : Int32) c_state c_test c_words c_ill c_before c_inRow c_first c_inWindow c_same c_made c_requests c_total_79 c_secrets_78 c_rounds c_high c_low c_keyHigh c_keyLow)), ((hm 0), .inl (cy 1, 64, .inl c_ROUND)), ((hm 47), .inl (cy 1, 8, .inl c_START)), ((hm 6), .inl (cy 1, 512, .inl c_buffer)), ((hm 5), .inl (cy 1, 3, .inl c_counters)), ((hm 35), .inl (cy 1, 32, .inl c_digest_73)), ((hm 30), .inl (cy 1, 8, .inl c_h_74)), ((hm 12), .inl (cy 1, 16, .inl c_holder)), ((hm 36), .inl (cy 1, 32, .inl c_inner_75)), ((hm 14), .inl (cy 1, 1024, .inl c_keys_44)), ((hm 9), .inl (cy 1, 16, .inl c_kind)), ((hm 10), .inl (cy 1, 16, .inl c_length)), ((hm 33), .inl (cy 1, 64, .inl c_message_76)), ((hm 37), .inl (cy 1, 64, .inl c_secret_77)), ((hm 11), .inl (cy 1, 16, .inl c_usage)), ((hm 13), .inl (cy 1, 16, .inl c_uses_39)), ((hm 31), .inl (cy 1, 64, .inl c_w_80)), ((hm 32), .inl (cy 1, 8, .inl c_x_81))]) H → va_D A ([(h0, .inr (12, zmo hm (0 : Int32) c_state c_test c_words c_ill c_before c_inRow c_first c_inWindow c_same c_made c_requests c_total_79 c_secrets_78 c_rounds c_high c_low c_keyHigh c_keyLow)), ((hm 0), .inl (cy 1, 64, .inl c_ROUND)), ((hm 47), .inl (cy 1, 8, .inl c_START)), ((hm 6), .inl (cy 1, 512, .inl c_buffer)), ((hm 5), .inl (cy 1, 3, .inl c_counters)), ((hm 35), .inl (cy 1, 32, .inl c_digest_73)), ((hm 30), .inl (cy 1, 8, .inl c_h_74)), ((hm 12), .inl (cy 1, 16, .inl c_holder)), ((hm 36), .inl (cy 1, 32, .inl c_inner_75)), ((hm 14), .inl (cy 1, 1024, .inl c_keys_44)), ((hm 9), .inl (cy 1, 16, .inl c_kind)), ((hm 10), .inl (cy 1, 16, .inl c_length)), ((hm 33), .inl (cy 1, 64, .inl c_message_76)), ((hm 37), .inl (cy 1, 64, .inl c_secret_77)), ((hm 11), .inl (cy 1, 16, .inl c_usage)), ((hm 13), .inl (cy 1, 16, .inl c_uses_39)), ((hm 31), .inl (cy 1, 64, .inl c_w_80)), ((hm 32), .inl (cy 1, 8, .inl c_x_81))]) → va_S A s.heap H locs → lv_has ls 10 [(0, .ref h0), (1, .int p1), (2, .int p2), (3, .int p3), (4, .int p4), (5, .int p5), (6, .int p6), (8, .int i_40)] → K_82 c_digest_73 c_h_74 c_inner_75 c_message_76 c_secret_77 c_secrets_78 c_total_79 c_w_80 c_x_81 = some (r_, c_secrets', c_thrown', c_total', c_counters', c_digest', c_h', c_holder', c_inner', c_keys', c_kind', c_length', c_message', c_secret', c_usage', c_uses', c_w', c_x') → GW H locs (F0 m 294 ls []) := by
      clear hf hl hP hD hS
      intro c_digest_73 c_h_74 c_inner_75 c_message_76 c_secret_77 c_secrets_78 c_total_79 c_w_80 c_x_81 H locs ls hP hD hS hl hf
      rw [eK_82] at hf
      clear eK_82
      refine hFr _ _ _ ?_
      refine lv_aload_n (pc := 294) hx hb (zdt_at zt_X10_derive_2 27 rfl) rfl (lv_at hl 0 rfl) ?_
      refine va_get (pc := 295) (D := D) (ci := 12) (v := .ref (hm 14)) (C := RX10) (T := TX10) (N := 52) hx hb hts hcX10 hown hK hP 0 rfl rfl 14 (by decide) hw4 (fun _ h9 => h9) rfl (zdt_at zt_X10_derive_2 28 rfl) ?_
      refine lv_bipush (pc := 298) (v := (64 : Int32)) hx hb (zdt_at zt_X10_derive_2 29 rfl) (by decide) ?_
      refine lv_iload_n (pc := 300) hx hb (zdt_at zt_X10_derive_2 30 rfl) rfl (lv_at hl 1 rfl) ?_
      refine lv_imul (pc := 301) hx hb (zdt_at zt_X10_derive_2 31 rfl) ?_
      refine lv_iload (pc := 302) hx hb (zdt_at zt_X10_derive_2 32 rfl) (lv_at hl 7 rfl) ?_
      refine lv_iadd (pc := 304) hx hb (zdt_at zt_X10_derive_2 33 rfl) ?_
      refine lv_aload_n (pc := 305) hx hb (zdt_at zt_X10_derive_2 34 rfl) rfl (lv_at hl 0 rfl) ?_
      refine va_get (pc := 306) (D := D) (ci := 12) (v := .ref (hm 35)) (C := RX10) (T := TX10) (N := 52) hx hb hts hcX10 hown hK hP 0 rfl rfl 35 (by decide) hw5 (fun _ h9 => h9) rfl (zdt_at zt_X10_derive_2 35 rfl) ?_
      refine lv_iload (pc := 309) hx hb (zdt_at zt_X10_derive_2 36 rfl) (lv_at hl 7 rfl) ?_
      refine lv_bipush (pc := 311) (v := (32 : Int32)) hx hb (zdt_at zt_X10_derive_2 37 rfl) (by decide) ?_
      replace hf := zk_s hf
      refine lv_irem (pc := 313) hx hb (zdt_at zt_X10_derive_2 38 rfl) hf.1 ?_
      replace hf := hf.2
      replace hf := zk_s hf
      refine va_iald (pc := 314) hx hb hK hP 5 1 rfl rfl hf.1 (zdt_at zt_X10_derive_2 39 rfl) ?_
      replace hf := hf.2
      replace hf := zk_s hf
      refine va_iast (pc := 315) hx hb hK hP hD hS 9 1 rfl rfl hf.1 (zdt_at zt_X10_derive_2 40 rfl) ?_
      replace hf := hf.2
      clear hP hD hS
      intro H locs hP hD hS
      obtain ⟨c_keys_83, e_⟩ : ∃ q : Nat → Int32, q = (upd c_keys_44 (((64 : Int32) * p1) + i_40).toNatClampNeg (c_digest_73 (i_40 - i_40 / (32 : Int32) * (32 : Int32)).toNatClampNeg)) := ⟨_, rfl⟩
      replace hf := zn_s hf e_
      replace hP : va_P D vwCl ([(h0, .inr (12, zmo hm (0 : Int32) c_state c_test c_words c_ill c_before c_inRow c_first c_inWindow c_same c_made c_requests c_total_79 c_secrets_78 c_rounds c_high c_low c_keyHigh c_keyLow)), ((hm 0), .inl (cy 1, 64, .inl c_ROUND)), ((hm 47), .inl (cy 1, 8, .inl c_START)), ((hm 6), .inl (cy 1, 512, .inl c_buffer)), ((hm 5), .inl (cy 1, 3, .inl c_counters)), ((hm 35), .inl (cy 1, 32, .inl c_digest_73)), ((hm 30), .inl (cy 1, 8, .inl c_h_74)), ((hm 12), .inl (cy 1, 16, .inl c_holder)), ((hm 36), .inl (cy 1, 32, .inl c_inner_75)), ((hm 14), .inl (cy 1, 1024, .inl c_keys_83)), ((hm 9), .inl (cy 1, 16, .inl c_kind)), ((hm 10), .inl (cy 1, 16, .inl c_length)), ((hm 33), .inl (cy 1, 64, .inl c_message_76)), ((hm 37), .inl (cy 1, 64, .inl c_secret_77)), ((hm 11), .inl (cy 1, 16, .inl c_usage)), ((hm 13), .inl (cy 1, 16, .inl c_uses_39)), ((hm 31), .inl (cy 1, 64, .inl c_w_80)), ((hm 32), .inl (cy 1, 8, .inl c_x_81))]) H := by rw [e_]; exact hP
      replace hD : va_D A ([(h0, .inr (12, zmo hm (0 : Int32) c_state c_test c_words c_ill c_before c_inRow c_first c_inWindow c_same c_made c_requests c_total_79 c_secrets_78 c_rounds c_high c_low c_keyHigh c_keyLow)), ((hm 0), .inl (cy 1, 64, .inl c_ROUND)), ((hm 47), .inl (cy 1, 8, .inl c_START)), ((hm 6), .inl (cy 1, 512, .inl c_buffer)), ((hm 5), .inl (cy 1, 3, .inl c_counters)), ((hm 35), .inl (cy 1, 32, .inl c_digest_73)), ((hm 30), .inl (cy 1, 8, .inl c_h_74)), ((hm 12), .inl (cy 1, 16, .inl c_holder)), ((hm 36), .inl (cy 1, 32, .inl c_inner_75)), ((hm 14), .inl (cy 1, 1024, .inl c_keys_83)), ((hm 9), .inl (cy 1, 16, .inl c_kind)), ((hm 10), .inl (cy 1, 16, .inl c_length)), ((hm 33), .inl (cy 1, 64, .inl c_message_76)), ((hm 37), .inl (cy 1, 64, .inl c_secret_77)), ((hm 11), .inl (cy 1, 16, .inl c_usage)), ((hm 13), .inl (cy 1, 16, .inl c_uses_39)), ((hm 31), .inl (cy 1, 64, .inl c_w_80)), ((hm 32), .inl (cy 1, 8, .inl c_x_81))]) := by rw [e_]; exact hD
      clear e_
      refine lv_iinc (pc := 316) (v := (i_40 + (1 : Int32))) (lv' := [(8, .int (i_40 + (1 : Int32))), (0, .ref h0), (1, .int p1), (2, .int p2), (3, .int p3), (4, .int p4), (5, .int p5), (6, .int p6)]) hx hb (zdt_at zt_X10_derive_2 41 rfl) hl (k := 7) rfl rfl (by decide) rfl ?_
      clear hl
      intro ls hl
      refine lv_goto (pc := 319) (tgt := 208) hx hb (zdt_at zt_X10_derive_2 42 rfl) (by decide) ?_
      exact hTo _ _ _ (ihself_70 _ hf H locs ls hP hD hS (lv_sub hl [1, 2, 3, 4, 5, 6, 7, 0] rfl))
    clear eK_82
    refine lv_if_ne (pc := 220) (tgt := 294) hx hb (zdt_at zt_X10_derive_1 53 rfl) (by decide) (fun cn_ => ?t_84) (fun cn_ => ?f_85)
    case t_84 =>
      replace hf := ze_s cn_ hf
      clear cn_
      exact hTo _ _ _ (kK_82 _ _ _ _ _ _ _ _ _ H locs ls hP hD hS (lv_sub hl [0, 1, 2, 3, 4, 5, 6, 7] rfl) hf)
    replace hf := zt_s cn_ hf
    clear cn_
    refine lv_aload_n (pc := 223) hx hb (zdt_at zt_X10_derive_1 54 rfl) rfl (lv_at hl 0 rfl) ?_
    refine lv_iload_n (pc := 224) hx hb (zdt_at zt_X10_derive_1 55 rfl) rfl (lv_at hl 2 rfl) ?_
    replace hf := zb_s hf
    obtain ⟨⟨c_secrets_86, c_secret_87⟩, hc_, hf⟩ := hf
    refine zcn2 (pc := 225) (rv := none) (va_runV (As := [.int p2]) (rest := []) ⟨hx, hb, hml, hown, hts⟩ (c_X10_secretOf l D cy tt H.size h0 hm p2 c_secrets_47 c_keys_44 c_length c_secret_46 (0 : Int32) c_state c_test c_words c_ill c_before c_inRow c_first c_inWindow c_same c_made c_requests c_total_48 c_rounds c_high c_low c_keyHigh c_keyLow c_secrets_86 c_secret_87 hc_) (cwV 1 hts gX10_derive_X10_secretOf rfl rfl rfl (by decide +kernel) ⟨Nat.le_of_ble_eq_true rfl, Nat.le_of_ble_eq_true rfl⟩) ⟨zblind, va_recv hK hP (ci := 12) (q0 := 0) rfl rfl, zpre hE hS (hP.sub [0, 9, 11, 13] rfl) (hD.sub [0, 9, 11, 13] (by decide) rfl) (va_free hD hS hA [0, 9, 11, 13] rfl)⟩ rfl rfl hl.1 rfl (lv_room (Nat.le_of_ble_eq_true rfl)) (zdt_at zt_X10_derive_1 56 rfl) ⟨Nat.zero_le _, Nat.zero_le _⟩) hS hP hD (va_free hD hS hA [0, 9, 11, 13] rfl) [0, 9, 11, 13] rfl (by decide) rfl ?_
    clear hP hD hS hc_
    intro H locs hP hD hS
    replace hP : va_P D vwCl ([(h0, .inr (12, zmo hm (0 : Int32) c_state c_test c_words c_ill c_before c_inRow c_first c_inWindow c_same c_made c_requests c_total_48 c_secrets_86 c_rounds c_high c_low c_keyHigh c_keyLow)), ((hm 0), .inl (cy 1, 64, .inl c_ROUND)), ((hm 47), .inl (cy 1, 8, .inl c_START)), ((hm 6), .inl (cy 1, 512, .inl c_buffer)), ((hm 5), .inl (cy 1, 3, .inl c_counters)), ((hm 35), .inl (cy 1, 32, .inl c_digest_41)), ((hm 30), .inl (cy 1, 8, .inl c_h_42)), ((hm 12), .inl (cy 1, 16, .inl c_holder)), ((hm 36), .inl (cy 1, 32, .inl c_inner_43)), ((hm 14), .inl (cy 1, 1024, .inl c_keys_44)), ((hm 9), .inl (cy 1, 16, .inl c_kind)), ((hm 10), .inl (cy 1, 16, .inl c_length)), ((hm 33), .inl (cy 1, 64, .inl c_message_45)), ((hm 37), .inl (cy 1, 64, .inl c_secret_87)), ((hm 11), .inl (cy 1, 16, .inl c_usage)), ((hm 13), .inl (cy 1, 16, .inl c_uses_39)), ((hm 31), .inl (cy 1, 64, .inl c_w_49)), ((hm 32), .inl (cy 1, 8, .inl c_x_50))]) H := hP
    replace hD : va_D A ([(h0, .inr (12, zmo hm (0 : Int32) c_state c_test c_words c_ill c_before c_inRow c_first c_inWindow c_same c_made c_requests c_total_48 c_secrets_86 c_rounds c_high c_low c_keyHigh c_keyLow)), ((hm 0), .inl (cy 1, 64, .inl c_ROUND)), ((hm 47), .inl (cy 1, 8, .inl c_START)), ((hm 6), .inl (cy 1, 512, .inl c_buffer)), ((hm 5), .inl (cy 1, 3, .inl c_counters)), ((hm 35), .inl (cy 1, 32, .inl c_digest_41)), ((hm 30), .inl (cy 1, 8, .inl c_h_42)), ((hm 12), .inl (cy 1, 16, .inl c_holder)), ((hm 36), .inl (cy 1, 32, .inl c_inner_43)), ((hm 14), .inl (cy 1, 1024, .inl c_keys_44)), ((hm 9), .inl (cy 1, 16, .inl c_kind)), ((hm 10), .inl (cy 1, 16, .inl c_length)), ((hm 33), .inl (cy 1, 64, .inl c_message_45)), ((hm 37), .inl (cy 1, 64, .inl c_secret_87)), ((hm 11), .inl (cy 1, 16, .inl c_usage)), ((hm 13), .inl (cy 1, 16, .inl c_uses_39)), ((hm 31), .inl (cy 1, 64, .inl c_w_49)), ((hm 32), .inl (cy 1, 8, .inl c_x_50))]) := hD
    refine W.eq (g2 := F0 m 228 ls []) rfl ?_
    refine lv_aload_n (pc := 228) hx hb (zdt_at zt_X10_derive_1 57 rfl) rfl (lv_at hl 0 rfl) ?_
    replace hf := zb_s hf
    obtain ⟨⟨c_total_88, c_h_89, c_message_90, c_w_91, c_x_92⟩, hc_, hf⟩ := hf
    refine zcn2 (pc := 229) (rv := none) (va_runV (As := []) (rest := []) ⟨hx, hb, hml, hown, hts⟩ (c_X10_beginMac l D cy tt H.size h0 hm c_secrets_86 c_total_48 c_ROUND c_START c_h_42 c_message_45 c_secret_87 c_w_49 c_x_50 (0 : Int32) c_state c_test c_words c_ill c_before c_inRow c_first c_inWindow c_same c_made c_requests c_rounds c_high c_low c_keyHigh c_keyLow c_total_88 c_h_89 c_message_90 c_w_91 c_x_92 hc_) (cwV 0 hts gX10_derive_X10_beginMac rfl rfl rfl (by decide +kernel) ⟨Nat.le_of_ble_eq_true rfl, Nat.le_of_ble_eq_true rfl⟩) ⟨zblind, va_recv hK hP (ci := 12) (q0 := 0) rfl rfl, zpre hE hS (hP.sub [0, 1, 2, 6, 12, 13, 16, 17] rfl) (hD.sub [0, 1, 2, 6, 12, 13, 16, 17] (by decide) rfl) (va_free hD hS hA [0, 1, 2, 6, 12, 13, 16, 17] rfl)⟩ rfl rfl hl.1 rfl (lv_room (Nat.le_of_ble_eq_true rfl)) (zdt_at zt_X10_derive_1 58 rfl) ⟨Nat.zero_le _, Nat.zero_le _⟩) hS hP hD (va_free hD hS hA [0, 1, 2, 6, 12, 13, 16, 17] rfl) [0, 1, 2, 6, 12, 13, 16, 17] rfl (by decide) rfl ?_
    clear hP hD hS hc_
    intro H locs hP hD hS
    replace hP : va_P D vwCl ([(h0, .inr (12, zmo hm (0 : Int32) c_state c_test c_words c_ill c_before c_inRow c_first c_inWindow c_same c_made c_requests c_total_88 c_secrets_86 c_rounds c_high c_low c_keyHigh c_keyLow)), ((hm 0), .inl (cy 1, 64, .inl c_ROUND)), ((hm 47), .inl (cy 1, 8, .inl c_START)), ((hm 6), .inl (cy 1, 512, .inl c_buffer)), ((hm 5), .inl (cy 1, 3, .inl c_counters)), ((hm 35), .inl (cy 1, 32, .inl c_digest_41)), ((hm 30), .inl (cy 1, 8, .inl c_h_89)), ((hm 12), .inl (cy 1, 16, .inl c_holder)), ((hm 36), .inl (cy 1, 32, .inl c_inner_43)), ((hm 14), .inl (cy 1, 1024, .inl c_keys_44)), ((hm 9), .inl (cy 1, 16, .inl c_kind)), ((hm 10), .inl (cy 1, 16, .inl c_length)), ((hm 33), .inl (cy 1, 64, .inl c_message_90)), ((hm 37), .inl (cy 1, 64, .inl c_secret_87)), ((hm 11), .inl (cy 1, 16, .inl c_usage)), ((hm 13), .inl (cy 1, 16, .inl c_uses_39)), ((hm 31), .inl (cy 1, 64, .inl c_w_91)), ((hm 32), .inl (cy 1, 8, .inl c_x_92))]) H := hP
    replace hD : va_D A ([(h0, .inr (12, zmo hm (0 : Int32) c_state c_test c_words c_ill c_before c_inRow c_first c_inWindow c_same c_made c_requests c_total_88 c_secrets_86 c_rounds c_high c_low c_keyHigh c_keyLow)), ((hm 0), .inl (cy 1, 64, .inl c_ROUND)), ((hm 47), .inl (cy 1, 8, .inl c_START)), ((hm 6), .inl (cy 1, 512, .inl c_buffer)), ((hm 5), .inl (cy 1, 3, .inl c_counters)), ((hm 35), .inl (cy 1, 32, .inl c_digest_41)), ((hm 30), .inl (cy 1, 8, .inl c_h_89)), ((hm 12), .inl (cy 1, 16, .inl c_holder)), ((hm 36), .inl (cy 1, 32, .inl c_inner_43)), ((hm 14), .inl (cy 1, 1024, .inl c_keys_44)), ((hm 9), .inl (cy 1, 16, .inl c_kind)), ((hm 10), .inl (cy 1, 16, .inl c_length)), ((hm 33), .inl (cy 1, 64, .inl c_message_90)), ((hm 37), .inl (cy 1, 64, .inl c_secret_87)), ((hm 11), .inl (cy 1, 16, .inl c_usage)), ((hm 13), .inl (cy 1, 16, .inl c_uses_39)), ((hm 31), .inl (cy 1, 64, .inl c_w_91)), ((hm 32), .inl (cy 1, 8, .inl c_x_92))]) := hD
    refine W.eq (g2 := F0 m 232 ls []) rfl ?_
    refine lv_iconst (pc := 232) (v := (3 : Int32)) hx hb (zdt_at zt_X10_derive_1 59 rfl) (by decide) ?_
    refine lv_istore (pc := 233) (lv' := [(9, .int (3 : Int32)), (0, .ref h0), (1, .int p1), (2, .int p2), (3, .int p3), (4, .int p4), (5, .int p5), (6, .int p6), (8, .int i_40)]) hx hb (zdt_at zt_X10_derive_1 60 rfl) hl (by decide) rfl ?_
    clear hl
    intro ls hl
    replace hf := zj_s hf
    obtain ⟨K_104, eK_104, hf⟩ := hf
    have kK_104 : ∀ (c_h_99 : Nat → Int32) (c_message_100 : Nat → Int32) (c_total_101 : Int64) (c_w_102 : Nat → Int32) (c_x_103 : Nat → Int32) (H : Heap) (locs : List Loc) (ls : Array Slot), va_P D vwCl ([(h0, .inr (12, zmo hm (0 : Int32) c_state c_test c_words c_ill c_before c_inRow c_first c_inWindow c_same c_made c_requests c_total_101 c_secrets_86 c_rounds c_high c_low c_keyHigh c_keyLow)), ((hm 0), .inl (cy 1, 64, .inl c_ROUND)), ((hm 47), .inl (cy 1, 8, .inl c_START)), ((hm 6), .inl (cy 1, 512, .inl c_buffer)), ((hm 5), .inl (cy 1, 3, .inl c_counters)), ((hm 35), .inl (cy 1, 32, .inl c_digest_41)), ((hm 30), .inl (cy 1, 8, .inl c_h_99)), ((hm 12), .inl (cy 1, 16, .inl c_holder)), ((hm 36), .inl (cy 1, 32, .inl c_inner_43)), ((hm 14), .inl (cy 1, 1024, .inl c_keys_44)), ((hm 9), .inl (cy 1, 16, .inl c_kind)), ((hm 10), .inl (cy 1, 16, .inl c_length)), ((hm 33), .inl (cy 1, 64, .inl c_message_100)), ((hm 37), .inl (cy 1, 64, .inl c_secret_87)), ((hm 11), .inl (cy 1, 16, .inl c_usage)), ((hm 13), .inl (cy 1, 16, .inl c_uses_39)), ((hm 31), .inl (cy 1, 64, .inl c_w_102)), ((hm 32), .inl (cy 1, 8, .inl c_x_103))]) H → va_D A ([(h0, .inr (12, zmo hm (0 : Int32) c_state c_test c_words c_ill c_before c_inRow c_first c_inWindow c_same c_made c_requests c_total_101 c_secrets_86 c_rounds c_high c_low c_keyHigh c_keyLow)), ((hm 0), .inl (cy 1, 64, .inl c_ROUND)), ((hm 47), .inl (cy 1, 8, .inl c_START)), ((hm 6), .inl (cy 1, 512, .inl c_buffer)), ((hm 5), .inl (cy 1, 3, .inl c_counters)), ((hm 35), .inl (cy 1, 32, .inl c_digest_41)), ((hm 30), .inl (cy 1, 8, .inl c_h_99)), ((hm 12), .inl (cy 1, 16, .inl c_holder)), ((hm 36), .inl (cy 1, 32, .inl c_inner_43)), ((hm 14), .inl (cy 1, 1024, .inl c_keys_44)), ((hm 9), .inl (cy 1, 16, .inl c_kind)), ((hm 10), .inl (cy 1, 16, .inl c_length)), ((hm 33), .inl (cy 1, 64, .inl c_message_100)), ((hm 37), .inl (cy 1, 64, .inl c_secret_87)), ((hm 11), .inl (cy 1, 16, .inl c_usage)), ((hm 13), .inl (cy 1, 16, .inl c_uses_39)), ((hm 31), .inl (cy 1, 64, .inl c_w_102)), ((hm 32), .inl (cy 1, 8, .inl c_x_103))]) → va_S A s.heap H locs → lv_has ls 10 [(0, .ref h0), (1, .int p1), (2, .int p2), (3, .int p3), (4, .int p4), (5, .int p5), (6, .int p6), (8, .int i_40)] → K_104 c_h_99 c_message_100 c_total_101 c_w_102 c_x_103 = some (r_, c_secrets', c_thrown', c_total', c_counters', c_digest', c_h', c_holder', c_inner', c_keys', c_kind', c_length', c_message', c_secret', c_usage', c_uses', c_w', c_x') → GW H locs (F0 m 263 ls []) := by
      clear hf hl hP hD hS
      intro c_h_99 c_message_100 c_total_101 c_w_102 c_x_103 H locs ls hP hD hS hl hf
      rw [eK_104] at hf
      clear eK_104
      refine hFr _ _ _ ?_
      refine lv_iconst (pc := 263) (v := (0 : Int32)) hx hb (zdt_at zt_X10_derive_2 12 rfl) (by decide) ?_
      refine lv_istore (pc := 264) (lv' := [(9, .int (0 : Int32)), (0, .ref h0), (1, .int p1), (2, .int p2), (3, .int p3), (4, .int p4), (5, .int p5), (6, .int p6), (8, .int i_40)]) hx hb (zdt_at zt_X10_derive_2 13 rfl) hl (by decide) rfl ?_
      clear hl
      intro ls hl
      replace hf := zj_s hf
      obtain ⟨K_116, eK_116, hf⟩ := hf
      have kK_116 : ∀ (c_h_111 : Nat → Int32) (c_message_112 : Nat → Int32) (c_total_113 : Int64) (c_w_114 : Nat → Int32) (c_x_115 : Nat → Int32) (H : Heap) (locs : List Loc) (ls : Array Slot), va_P D vwCl ([(h0, .inr (12, zmo hm (0 : Int32) c_state c_test c_words c_ill c_before c_inRow c_first c_inWindow c_same c_made c_requests c_total_113 c_secrets_86 c_rounds c_high c_low c_keyHigh c_keyLow)), ((hm 0), .inl (cy 1, 64, .inl c_ROUND)), ((hm 47), .inl (cy 1, 8, .inl c_START)), ((hm 6), .inl (cy 1, 512, .inl c_buffer)), ((hm 5), .inl (cy 1, 3, .inl c_counters)), ((hm 35), .inl (cy 1, 32, .inl c_digest_41)), ((hm 30), .inl (cy 1, 8, .inl c_h_111)), ((hm 12), .inl (cy 1, 16, .inl c_holder)), ((hm 36), .inl (cy 1, 32, .inl c_inner_43)), ((hm 14), .inl (cy 1, 1024, .inl c_keys_44)), ((hm 9), .inl (cy 1, 16, .inl c_kind)), ((hm 10), .inl (cy 1, 16, .inl c_length)), ((hm 33), .inl (cy 1, 64, .inl c_message_112)), ((hm 37), .inl (cy 1, 64, .inl c_secret_87)), ((hm 11), .inl (cy 1, 16, .inl c_usage)), ((hm 13), .inl (cy 1, 16, .inl c_uses_39)), ((hm 31), .inl (cy 1, 64, .inl c_w_114)), ((hm 32), .inl (cy 1, 8, .inl c_x_115))]) H → va_D A ([(h0, .inr (12, zmo hm (0 : Int32) c_state c_test c_words c_ill c_before c_inRow c_first c_inWindow c_same c_made c_requests c_total_113 c_secrets_86 c_rounds c_high c_low c_keyHigh c_keyLow)), ((hm 0), .inl (cy 1, 64, .inl c_ROUND)), ((hm 47), .inl (cy 1, 8, .inl c_START)), ((hm 6), .inl (cy 1, 512, .inl c_buffer)), ((hm 5), .inl (cy 1, 3, .inl c_counters)), ((hm 35), .inl (cy 1, 32, .inl c_digest_41)), ((hm 30), .inl (cy 1, 8, .inl c_h_111)), ((hm 12), .inl (cy 1, 16, .inl c_holder)), ((hm 36), .inl (cy 1, 32, .inl c_inner_43)), ((hm 14), .inl (cy 1, 1024, .inl c_keys_44)), ((hm 9), .inl (cy 1, 16, .inl c_kind)), ((hm 10), .inl (cy 1, 16, .inl c_length)), ((hm 33), .inl (cy 1, 64, .inl c_message_112)), ((hm 37), .inl (cy 1, 64, .inl c_secret_87)), ((hm 11), .inl (cy 1, 16, .inl c_usage)), ((hm 13), .inl (cy 1, 16, .inl c_uses_39)), ((hm 31), .inl (cy 1, 64, .inl c_w_114)), ((hm 32), .inl (cy 1, 8, .inl c_x_115))]) → va_S A s.heap H locs → lv_has ls 10 [(0, .ref h0), (1, .int p1), (2, .int p2), (3, .int p3), (4, .int p4), (5, .int p5), (6, .int p6), (8, .int i_40)] → K_116 c_h_111 c_message_112 c_total_113 c_w_114 c_x_115 = some (r_, c_secrets', c_thrown', c_total', c_counters', c_digest', c_h', c_holder', c_inner', c_keys', c_kind', c_length', c_message', c_secret', c_usage', c_uses', c_w', c_x') → GW H locs (F0 m 290 ls []) := by
        clear hf hl hP hD hS
        intro c_h_111 c_message_112 c_total_113 c_w_114 c_x_115 H locs ls hP hD hS hl hf
        rw [eK_116] at hf
        clear eK_116
        refine hFr _ _ _ ?_
        refine lv_aload_n (pc := 290) hx hb (zdt_at zt_X10_derive_2 25 rfl) rfl (lv_at hl 0 rfl) ?_
        replace hf := zb_s hf
        obtain ⟨⟨c_total_117, c_digest_118, c_h_119, c_inner_120, c_message_121, c_w_122, c_x_123⟩, hc_, hf⟩ := hf
        refine zcn2 (pc := 291) (rv := none) (va_runV (As := []) (rest := []) ⟨hx, hb, hml, hown, hts⟩ (c_X10_endMac l D cy tt H.size h0 hm c_secrets_86 c_total_113 c_ROUND c_START c_digest_41 c_h_111 c_inner_43 c_message_112 c_secret_87 c_w_114 c_x_115 (0 : Int32) c_state c_test c_words c_ill c_before c_inRow c_first c_inWindow c_same c_made c_requests c_rounds c_high c_low c_keyHigh c_keyLow c_total_117 c_digest_118 c_h_119 c_inner_120 c_message_121 c_w_122 c_x_123 hc_) (cwV 0 hts gX10_derive_X10_endMac rfl rfl rfl (by decide +kernel) ⟨Nat.le_of_ble_eq_true rfl, Nat.le_of_ble_eq_true rfl⟩) ⟨zblind, va_recv hK hP (ci := 12) (q0 := 0) rfl rfl, zpre hE hS (hP.sub [0, 1, 2, 5, 6, 8, 12, 13, 16, 17] rfl) (hD.sub [0, 1, 2, 5, 6, 8, 12, 13, 16, 17] (by decide) rfl) (va_free hD hS hA [0, 1, 2, 5, 6, 8, 12, 13, 16, 17] rfl)⟩ rfl rfl hl.1 rfl (lv_room (Nat.le_of_ble_eq_true rfl)) (zdt_at zt_X10_derive_2 26 rfl) ⟨Nat.zero_le _, Nat.zero_le _⟩) hS hP hD (va_free hD hS hA [0, 1, 2, 5, 6, 8, 12, 13, 16, 17] rfl) [0, 1, 2, 5, 6, 8, 12, 13, 16, 17] rfl (by decide) rfl ?_
        clear hP hD hS hc_
        intro H locs hP hD hS
        replace hP : va_P D vwCl ([(h0, .inr (12, zmo hm (0 : Int32) c_state c_test c_words c_ill c_before c_inRow c_first c_inWindow c_same c_made c_requests c_total_117 c_secrets_86 c_rounds c_high c_low c_keyHigh c_keyLow)), ((hm 0), .inl (cy 1, 64, .inl c_ROUND)), ((hm 47), .inl (cy 1, 8, .inl c_START)), ((hm 6), .inl (cy 1, 512, .inl c_buffer)), ((hm 5), .inl (cy 1, 3, .inl c_counters)), ((hm 35), .inl (cy 1, 32, .inl c_digest_118)), ((hm 30), .inl (cy 1, 8, .inl c_h_119)), ((hm 12), .inl (cy 1, 16, .inl c_holder)), ((hm 36), .inl (cy 1, 32, .inl c_inner_120)), ((hm 14), .inl (cy 1, 1024, .inl c_keys_44)), ((hm 9), .inl (cy 1, 16, .inl c_kind)), ((hm 10), .inl (cy 1, 16, .inl c_length)), ((hm 33), .inl (cy 1, 64, .inl c_message_121)), ((hm 37), .inl (cy 1, 64, .inl c_secret_87)), ((hm 11), .inl (cy 1, 16, .inl c_usage)), ((hm 13), .inl (cy 1, 16, .inl c_uses_39)), ((hm 31), .inl (cy 1, 64, .inl c_w_122)), ((hm 32), .inl (cy 1, 8, .inl c_x_123))]) H := hP
        replace hD : va_D A ([(h0, .inr (12, zmo hm (0 : Int32) c_state c_test c_words c_ill c_before c_inRow c_first c_inWindow c_same c_made c_requests c_total_117 c_secrets_86 c_rounds c_high c_low c_keyHigh c_keyLow)), ((hm 0), .inl (cy 1, 64, .inl c_ROUND)), ((hm 47), .inl (cy 1, 8, .inl c_START)), ((hm 6), .inl (cy 1, 512, .inl c_buffer)), ((hm 5), .inl (cy 1, 3, .inl c_counters)), ((hm 35), .inl (cy 1, 32, .inl c_digest_118)), ((hm 30), .inl (cy 1, 8, .inl c_h_119)), ((hm 12), .inl (cy 1, 16, .inl c_holder)), ((hm 36), .inl (cy 1, 32, .inl c_inner_120)), ((hm 14), .inl (cy 1, 1024, .inl c_keys_44)), ((hm 9), .inl (cy 1, 16, .inl c_kind)), ((hm 10), .inl (cy 1, 16, .inl c_length)), ((hm 33), .inl (cy 1, 64, .inl c_message_121)), ((hm 37), .inl (cy 1, 64, .inl c_secret_87)), ((hm 11), .inl (cy 1, 16, .inl c_usage)), ((hm 13), .inl (cy 1, 16, .inl c_uses_39)), ((hm 31), .inl (cy 1, 64, .inl c_w_122)), ((hm 32), .inl (cy 1, 8, .inl c_x_123))]) := hD
        refine W.eq (g2 := F0 m 294 ls []) rfl ?_
        exact hTo _ _ _ (kK_82 _ _ _ _ _ _ _ _ _ H locs ls hP hD hS (lv_sub hl [0, 1, 2, 3, 4, 5, 6, 7] rfl) hf)
      clear eK_116
      refine hTo _ _ _ (zl_go (fun z => match z with | (i_105, c_h_106, c_message_107, c_total_108, c_w_109, c_x_110) => ∀ (H : Heap) (locs : List Loc) (ls : Array Slot), va_P D vwCl ([(h0, .inr (12, zmo hm (0 : Int32) c_state c_test c_words c_ill c_before c_inRow c_first c_inWindow c_same c_made c_requests c_total_108 c_secrets_86 c_rounds c_high c_low c_keyHigh c_keyLow)), ((hm 0), .inl (cy 1, 64, .inl c_ROUND)), ((hm 47), .inl (cy 1, 8, .inl c_START)), ((hm 6), .inl (cy 1, 512, .inl c_buffer)), ((hm 5), .inl (cy 1, 3, .inl c_counters)), ((hm 35), .inl (cy 1, 32, .inl c_digest_41)), ((hm 30), .inl (cy 1, 8, .inl c_h_106)), ((hm 12), .inl (cy 1, 16, .inl c_holder)), ((hm 36), .inl (cy 1, 32, .inl c_inner_43)), ((hm 14), .inl (cy 1, 1024, .inl c_keys_44)), ((hm 9), .inl (cy 1, 16, .inl c_kind)), ((hm 10), .inl (cy 1, 16, .inl c_length)), ((hm 33), .inl (cy 1, 64, .inl c_message_107)), ((hm 37), .inl (cy 1, 64, .inl c_secret_87)), ((hm 11), .inl (cy 1, 16, .inl c_usage)), ((hm 13), .inl (cy 1, 16, .inl c_uses_39)), ((hm 31), .inl (cy 1, 64, .inl c_w_109)), ((hm 32), .inl (cy 1, 8, .inl c_x_110))]) H → va_D A ([(h0, .inr (12, zmo hm (0 : Int32) c_state c_test c_words c_ill c_before c_inRow c_first c_inWindow c_same c_made c_requests c_total_108 c_secrets_86 c_rounds c_high c_low c_keyHigh c_keyLow)), ((hm 0), .inl (cy 1, 64, .inl c_ROUND)), ((hm 47), .inl (cy 1, 8, .inl c_START)), ((hm 6), .inl (cy 1, 512, .inl c_buffer)), ((hm 5), .inl (cy 1, 3, .inl c_counters)), ((hm 35), .inl (cy 1, 32, .inl c_digest_41)), ((hm 30), .inl (cy 1, 8, .inl c_h_106)), ((hm 12), .inl (cy 1, 16, .inl c_holder)), ((hm 36), .inl (cy 1, 32, .inl c_inner_43)), ((hm 14), .inl (cy 1, 1024, .inl c_keys_44)), ((hm 9), .inl (cy 1, 16, .inl c_kind)), ((hm 10), .inl (cy 1, 16, .inl c_length)), ((hm 33), .inl (cy 1, 64, .inl c_message_107)), ((hm 37), .inl (cy 1, 64, .inl c_secret_87)), ((hm 11), .inl (cy 1, 16, .inl c_usage)), ((hm 13), .inl (cy 1, 16, .inl c_uses_39)), ((hm 31), .inl (cy 1, 64, .inl c_w_109)), ((hm 32), .inl (cy 1, 8, .inl c_x_110))]) → va_S A s.heap H locs → lv_has ls 10 [(0, .ref h0), (1, .int p1), (2, .int p2), (3, .int p3), (4, .int p4), (5, .int p5), (6, .int p6), (8, .int i_40), (9, .int i_105)] → GW H locs (F0 m 266 ls [])) hf ?_ H locs ls hP hD hS (lv_sub hl [1, 2, 3, 4, 5, 6, 7, 8, 0] rfl))
      clear hf hl hP hD hS
      intro self_124 ihself_124 z hf
      obtain ⟨i_105, c_h_106, c_message_107, c_total_108, c_w_109, c_x_110⟩ := z
      intro H locs ls hP hD hS hl
      refine hFr _ _ _ ?_
      unfold b_X10_derive_266 at hf
      refine lv_iload (pc := 266) hx hb (zdt_at zt_X10_derive_2 14 rfl) (lv_at hl 8 rfl) ?_
      refine lv_iload (pc := 268) hx hb (zdt_at zt_X10_derive_2 15 rfl) (lv_at hl 6 rfl) ?_
      refine lv_icmp_ge (pc := 270) (tgt := 290) hx hb (zdt_at zt_X10_derive_2 16 rfl) (by decide) (fun cn_ => ?t_125) (fun cn_ => ?f_126)
      case t_125 =>
        replace hf := zt_s cn_ hf
        clear cn_
        exact hTo _ _ _ (kK_116 _ _ _ _ _ H locs ls hP hD hS (lv_sub hl [0, 1, 2, 3, 4, 5, 6, 7] rfl) hf)
      replace hf := ze_s cn_ hf
      clear cn_
      refine lv_aload_n (pc := 273) hx hb (zdt_at zt_X10_derive_2 17 rfl) rfl (lv_at hl 0 rfl) ?_
      refine lv_aload_n (pc := 274) hx hb (zdt_at zt_X10_derive_2 18 rfl) rfl (lv_at hl 0 rfl) ?_
      refine va_get (pc := 275) (D := D) (ci := 12) (v := .ref (hm 6)) (C := RX10) (T := TX10) (N := 52) hx hb hts hcX10 hown hK hP 0 rfl rfl 6 (by decide) hw6 (fun _ h9 => h9) rfl (zdt_at zt_X10_derive_2 19 rfl) ?_
      refine lv_iload (pc := 278) hx hb (zdt_at zt_X10_derive_2 20 rfl) (lv_at hl 8 rfl) ?_
      replace hf := zk_s hf
      refine va_iald (pc := 280) hx hb hK hP 3 1 rfl rfl hf.1 (zdt_at zt_X10_derive_2 21 rfl) ?_
      replace hf := hf.2
      replace hf := zb_s hf
      obtain ⟨⟨c_total_127, c_h_128, c_message_129, c_w_130, c_x_131⟩, hc_, hf⟩ := hf
      refine zcn2 (pc := 281) (rv := none) (va_runV (As := [.int (c_buffer i_105.toNatClampNeg)]) (rest := []) ⟨hx, hb, hml, hown, hts⟩ (c_X10_say l D cy tt H.size h0 hm (c_buffer i_105.toNatClampNeg) c_total_108 c_ROUND c_h_106 c_message_107 c_w_109 c_x_110 (0 : Int32) c_state c_test c_words c_ill c_before c_inRow c_first c_inWindow c_same c_made c_requests c_secrets_86 c_rounds c_high c_low c_keyHigh c_keyLow c_total_127 c_h_128 c_message_129 c_w_130 c_x_131 hc_) (cwV 1 hts gX10_derive_X10_say rfl rfl rfl (by decide +kernel) ⟨Nat.le_of_ble_eq_true rfl, Nat.le_of_ble_eq_true rfl⟩) ⟨zblind, va_recv hK hP (ci := 12) (q0 := 0) rfl rfl, zpre hE hS (hP.sub [0, 1, 6, 12, 16, 17] rfl) (hD.sub [0, 1, 6, 12, 16, 17] (by decide) rfl) (va_free hD hS hA [0, 1, 6, 12, 16, 17] rfl)⟩ rfl rfl hl.1 rfl (lv_room (Nat.le_of_ble_eq_true rfl)) (zdt_at zt_X10_derive_2 22 rfl) ⟨Nat.zero_le _, Nat.zero_le _⟩) hS hP hD (va_free hD hS hA [0, 1, 6, 12, 16, 17] rfl) [0, 1, 6, 12, 16, 17] rfl (by decide) rfl ?_
      clear hP hD hS hc_
      intro H locs hP hD hS
      replace hP : va_P D vwCl ([(h0, .inr (12, zmo hm (0 : Int32) c_state c_test c_words c_ill c_before c_inRow c_first c_inWindow c_same c_made c_requests c_total_127 c_secrets_86 c_rounds c_high c_low c_keyHigh c_keyLow)), ((hm 0), .inl (cy 1, 64, .inl c_ROUND)), ((hm 47), .inl (cy 1, 8, .inl c_START)), ((hm 6), .inl (cy 1, 512, .inl c_buffer)), ((hm 5), .inl (cy 1, 3, .inl c_counters)), ((hm 35), .inl (cy 1, 32, .inl c_digest_41)), ((hm 30), .inl (cy 1, 8, .inl c_h_128)), ((hm 12), .inl (cy 1, 16, .inl c_holder)), ((hm 36), .inl (cy 1, 32, .inl c_inner_43)), ((hm 14), .inl (cy 1, 1024, .inl c_keys_44)), ((hm 9), .inl (cy 1, 16, .inl c_kind)), ((hm 10), .inl (cy 1, 16, .inl c_length)), ((hm 33), .inl (cy 1, 64, .inl c_message_129)), ((hm 37), .inl (cy 1, 64, .inl c_secret_87)), ((hm 11), .inl (cy 1, 16, .inl c_usage)), ((hm 13), .inl (cy 1, 16, .inl c_uses_39)), ((hm 31), .inl (cy 1, 64, .inl c_w_130)), ((hm 32), .inl (cy 1, 8, .inl c_x_131))]) H := hP
      replace hD : va_D A ([(h0, .inr (12, zmo hm (0 : Int32) c_state c_test c_words c_ill c_before c_inRow c_first c_inWindow c_same c_made c_requests c_total_127 c_secrets_86 c_rounds c_high c_low c_keyHigh c_keyLow)), ((hm 0), .inl (cy 1, 64, .inl c_ROUND)), ((hm 47), .inl (cy 1, 8, .inl c_START)), ((hm 6), .inl (cy 1, 512, .inl c_buffer)), ((hm 5), .inl (cy 1, 3, .inl c_counters)), ((hm 35), .inl (cy 1, 32, .inl c_digest_41)), ((hm 30), .inl (cy 1, 8, .inl c_h_128)), ((hm 12), .inl (cy 1, 16, .inl c_holder)), ((hm 36), .inl (cy 1, 32, .inl c_inner_43)), ((hm 14), .inl (cy 1, 1024, .inl c_keys_44)), ((hm 9), .inl (cy 1, 16, .inl c_kind)), ((hm 10), .inl (cy 1, 16, .inl c_length)), ((hm 33), .inl (cy 1, 64, .inl c_message_129)), ((hm 37), .inl (cy 1, 64, .inl c_secret_87)), ((hm 11), .inl (cy 1, 16, .inl c_usage)), ((hm 13), .inl (cy 1, 16, .inl c_uses_39)), ((hm 31), .inl (cy 1, 64, .inl c_w_130)), ((hm 32), .inl (cy 1, 8, .inl c_x_131))]) := hD
      refine W.eq (g2 := F0 m 284 ls []) rfl ?_
      refine lv_iinc (pc := 284) (v := (i_105 + (1 : Int32))) (lv' := [(9, .int (i_105 + (1 : Int32))), (0, .ref h0), (1, .int p1), (2, .int p2), (3, .int p3), (4, .int p4), (5, .int p5), (6, .int p6), (8, .int i_40)]) hx hb (zdt_at zt_X10_derive_2 23 rfl) hl (k := 8) rfl rfl (by decide) rfl ?_
      clear hl
      intro ls hl
      refine lv_goto (pc := 287) (tgt := 266) hx hb (zdt_at zt_X10_derive_2 24 rfl) (by decide) ?_
      exact hTo _ _ _ (ihself_124 _ hf H locs ls hP hD hS (lv_sub hl [1, 2, 3, 4, 5, 6, 7, 8, 0] rfl))
    clear eK_104
    refine hTo _ _ _ (zl_go (fun z => match z with | (i_93, c_h_94, c_message_95, c_total_96, c_w_97, c_x_98) => ∀ (H : Heap) (locs : List Loc) (ls : Array Slot), va_P D vwCl ([(h0, .inr (12, zmo hm (0 : Int32) c_state c_test c_words c_ill c_before c_inRow c_first c_inWindow c_same c_made c_requests c_total_96 c_secrets_86 c_rounds c_high c_low c_keyHigh c_keyLow)), ((hm 0), .inl (cy 1, 64, .inl c_ROUND)), ((hm 47), .inl (cy 1, 8, .inl c_START)), ((hm 6), .inl (cy 1, 512, .inl c_buffer)), ((hm 5), .inl (cy 1, 3, .inl c_counters)), ((hm 35), .inl (cy 1, 32, .inl c_digest_41)), ((hm 30), .inl (cy 1, 8, .inl c_h_94)), ((hm 12), .inl (cy 1, 16, .inl c_holder)), ((hm 36), .inl (cy 1, 32, .inl c_inner_43)), ((hm 14), .inl (cy 1, 1024, .inl c_keys_44)), ((hm 9), .inl (cy 1, 16, .inl c_kind)), ((hm 10), .inl (cy 1, 16, .inl c_length)), ((hm 33), .inl (cy 1, 64, .inl c_message_95)), ((hm 37), .inl (cy 1, 64, .inl c_secret_87)), ((hm 11), .inl (cy 1, 16, .inl c_usage)), ((hm 13), .inl (cy 1, 16, .inl c_uses_39)), ((hm 31), .inl (cy 1, 64, .inl c_w_97)), ((hm 32), .inl (cy 1, 8, .inl c_x_98))]) H → va_D A ([(h0, .inr (12, zmo hm (0 : Int32) c_state c_test c_words c_ill c_before c_inRow c_first c_inWindow c_same c_made c_requests c_total_96 c_secrets_86 c_rounds c_high c_low c_keyHigh c_keyLow)), ((hm 0), .inl (cy 1, 64, .inl c_ROUND)), ((hm 47), .inl (cy 1, 8, .inl c_START)), ((hm 6), .inl (cy 1, 512, .inl c_buffer)), ((hm 5), .inl (cy 1, 3, .inl c_counters)), ((hm 35), .inl (cy 1, 32, .inl c_digest_41)), ((hm 30), .inl (cy 1, 8, .inl c_h_94)), ((hm 12), .inl (cy 1, 16, .inl c_holder)), ((hm 36), .inl (cy 1, 32, .inl c_inner_43)), ((hm 14), .inl (cy 1, 1024, .inl c_keys_44)), ((hm 9), .inl (cy 1, 16, .inl c_kind)), ((hm 10), .inl (cy 1, 16, .inl c_length)), ((hm 33), .inl (cy 1, 64, .inl c_message_95)), ((hm 37), .inl (cy 1, 64, .inl c_secret_87)), ((hm 11), .inl (cy 1, 16, .inl c_usage)), ((hm 13), .inl (cy 1, 16, .inl c_uses_39)), ((hm 31), .inl (cy 1, 64, .inl c_w_97)), ((hm 32), .inl (cy 1, 8, .inl c_x_98))]) → va_S A s.heap H locs → lv_has ls 10 [(0, .ref h0), (1, .int p1), (2, .int p2), (3, .int p3), (4, .int p4), (5, .int p5), (6, .int p6), (8, .int i_40), (9, .int i_93)] → GW H locs (F0 m 235 ls [])) hf ?_ H locs ls hP hD hS (lv_sub hl [1, 2, 3, 4, 5, 6, 7, 8, 0] rfl))
    clear hf hl hP hD hS
    intro self_132 ihself_132 z hf
    obtain ⟨i_93, c_h_94, c_message_95, c_total_96, c_w_97, c_x_98⟩ := z
    intro H locs ls hP hD hS hl
    refine hFr _ _ _ ?_
    unfold b_X10_derive_235 at hf
    refine lv_iload (pc := 235) hx hb (zdt_at zt_X10_derive_1 61 rfl) (lv_at hl 8 rfl) ?_
    refine lv_if_lt (pc := 237) (tgt := 263) hx hb (zdt_at zt_X10_derive_1 62 rfl) (by decide) (fun cn_ => ?t_133) (fun cn_ => ?f_134)
    case t_133 =>
      replace hf := zt_s cn_ hf
      clear cn_
      exact hTo _ _ _ (kK_104 _ _ _ _ _ H locs ls hP hD hS (lv_sub hl [0, 1, 2, 3, 4, 5, 6, 7] rfl) hf)
    replace hf := ze_s cn_ hf
    clear cn_
    refine lv_aload_n (pc := 240) hx hb (zdt_at zt_X10_derive_1 63 rfl) rfl (lv_at hl 0 rfl) ?_
    refine lv_iload (pc := 241) hx hb (zdt_at zt_X10_derive_2 0 rfl) (lv_at hl 7 rfl) ?_
    refine lv_bipush (pc := 243) (v := (32 : Int32)) hx hb (zdt_at zt_X10_derive_2 1 rfl) (by decide) ?_
    replace hf := zk_s hf
    refine lv_idiv (pc := 245) hx hb (zdt_at zt_X10_derive_2 2 rfl) hf.1 ?_
    replace hf := hf.2
    refine lv_iconst (pc := 246) (v := (1 : Int32)) hx hb (zdt_at zt_X10_derive_2 3 rfl) (by decide) ?_
    refine lv_iadd (pc := 247) hx hb (zdt_at zt_X10_derive_2 4 rfl) ?_
    refine lv_bipush (pc := 248) (v := (8 : Int32)) hx hb (zdt_at zt_X10_derive_2 5 rfl) (by decide) ?_
    refine lv_iload (pc := 250) hx hb (zdt_at zt_X10_derive_2 6 rfl) (lv_at hl 8 rfl) ?_
    refine lv_imul (pc := 252) hx hb (zdt_at zt_X10_derive_2 7 rfl) ?_
    refine lv_ishr (pc := 253) hx hb (zdt_at zt_X10_derive_2 8 rfl) ?_
    replace hf := zb_s hf
    obtain ⟨⟨c_total_135, c_h_136, c_message_137, c_w_138, c_x_139⟩, hc_, hf⟩ := hf
    refine zcn2 (pc := 254) (rv := none) (va_runV (As := [.int (((i_40 / (32 : Int32)) + (1 : Int32)) >>> (((8 : Int32) * i_93) &&& 31))]) (rest := []) ⟨hx, hb, hml, hown, hts⟩ (c_X10_say l D cy tt H.size h0 hm (((i_40 / (32 : Int32)) + (1 : Int32)) >>> (((8 : Int32) * i_93) &&& 31)) c_total_96 c_ROUND c_h_94 c_message_95 c_w_97 c_x_98 (0 : Int32) c_state c_test c_words c_ill c_before c_inRow c_first c_inWindow c_same c_made c_requests c_secrets_86 c_rounds c_high c_low c_keyHigh c_keyLow c_total_135 c_h_136 c_message_137 c_w_138 c_x_139 hc_) (cwV 1 hts gX10_derive_X10_say rfl rfl rfl (by decide +kernel) ⟨Nat.le_of_ble_eq_true rfl, Nat.le_of_ble_eq_true rfl⟩) ⟨zblind, va_recv hK hP (ci := 12) (q0 := 0) rfl rfl, zpre hE hS (hP.sub [0, 1, 6, 12, 16, 17] rfl) (hD.sub [0, 1, 6, 12, 16, 17] (by decide) rfl) (va_free hD hS hA [0, 1, 6, 12, 16, 17] rfl)⟩ rfl rfl hl.1 rfl (lv_room (Nat.le_of_ble_eq_true rfl)) (zdt_at zt_X10_derive_2 9 rfl) ⟨Nat.zero_le _, Nat.zero_le _⟩) hS hP hD (va_free hD hS hA [0, 1, 6, 12, 16, 17] rfl) [0, 1, 6, 12, 16, 17] rfl (by decide) rfl ?_
    clear hP hD hS hc_
    intro H locs hP hD hS
    replace hP : va_P D vwCl ([(h0, .inr (12, zmo hm (0 : Int32) c_state c_test c_words c_ill c_before c_inRow c_first c_inWindow c_same c_made c_requests c_total_135 c_secrets_86 c_rounds c_high c_low c_keyHigh c_keyLow)), ((hm 0), .inl (cy 1, 64, .inl c_ROUND)), ((hm 47), .inl (cy 1, 8, .inl c_START)), ((hm 6), .inl (cy 1, 512, .inl c_buffer)), ((hm 5), .inl (cy 1, 3, .inl c_counters)), ((hm 35), .inl (cy 1, 32, .inl c_digest_41)), ((hm 30), .inl (cy 1, 8, .inl c_h_136)), ((hm 12), .inl (cy 1, 16, .inl c_holder)), ((hm 36), .inl (cy 1, 32, .inl c_inner_43)), ((hm 14), .inl (cy 1, 1024, .inl c_keys_44)), ((hm 9), .inl (cy 1, 16, .inl c_kind)), ((hm 10), .inl (cy 1, 16, .inl c_length)), ((hm 33), .inl (cy 1, 64, .inl c_message_137)), ((hm 37), .inl (cy 1, 64, .inl c_secret_87)), ((hm 11), .inl (cy 1, 16, .inl c_usage)), ((hm 13), .inl (cy 1, 16, .inl c_uses_39)), ((hm 31), .inl (cy 1, 64, .inl c_w_138)), ((hm 32), .inl (cy 1, 8, .inl c_x_139))]) H := hP
    replace hD : va_D A ([(h0, .inr (12, zmo hm (0 : Int32) c_state c_test c_words c_ill c_before c_inRow c_first c_inWindow c_same c_made c_requests c_total_135 c_secrets_86 c_rounds c_high c_low c_keyHigh c_keyLow)), ((hm 0), .inl (cy 1, 64, .inl c_ROUND)), ((hm 47), .inl (cy 1, 8, .inl c_START)), ((hm 6), .inl (cy 1, 512, .inl c_buffer)), ((hm 5), .inl (cy 1, 3, .inl c_counters)), ((hm 35), .inl (cy 1, 32, .inl c_digest_41)), ((hm 30), .inl (cy 1, 8, .inl c_h_136)), ((hm 12), .inl (cy 1, 16, .inl c_holder)), ((hm 36), .inl (cy 1, 32, .inl c_inner_43)), ((hm 14), .inl (cy 1, 1024, .inl c_keys_44)), ((hm 9), .inl (cy 1, 16, .inl c_kind)), ((hm 10), .inl (cy 1, 16, .inl c_length)), ((hm 33), .inl (cy 1, 64, .inl c_message_137)), ((hm 37), .inl (cy 1, 64, .inl c_secret_87)), ((hm 11), .inl (cy 1, 16, .inl c_usage)), ((hm 13), .inl (cy 1, 16, .inl c_uses_39)), ((hm 31), .inl (cy 1, 64, .inl c_w_138)), ((hm 32), .inl (cy 1, 8, .inl c_x_139))]) := hD
    refine W.eq (g2 := F0 m 257 ls []) rfl ?_
    refine lv_iinc (pc := 257) (v := (i_93 + (-1 : Int32))) (lv' := [(9, .int (i_93 + (-1 : Int32))), (0, .ref h0), (1, .int p1), (2, .int p2), (3, .int p3), (4, .int p4), (5, .int p5), (6, .int p6), (8, .int i_40)]) hx hb (zdt_at zt_X10_derive_2 10 rfl) hl (k := 8) rfl rfl (by decide) rfl ?_
    clear hl
    intro ls hl
    refine lv_goto (pc := 260) (tgt := 235) hx hb (zdt_at zt_X10_derive_2 11 rfl) (by decide) ?_
    exact hTo _ _ _ (ihself_132 _ hf H locs ls hP hD hS (lv_sub hl [1, 2, 3, 4, 5, 6, 7, 8, 0] rfl))
  clear eK_6
  replace hf := zj_s hf
  obtain ⟨K_152, eK_152, hf⟩ := hf
  have kK_152 : ∀  (H : Heap) (locs : List Loc) (ls : Array Slot), va_P D vwCl ([(h0, .inr (12, zmo hm (0 : Int32) c_state c_test c_words c_ill c_before c_inRow c_first c_inWindow c_same c_made c_requests c_total c_secrets c_rounds c_high c_low c_keyHigh c_keyLow)), ((hm 0), .inl (cy 1, 64, .inl c_ROUND)), ((hm 47), .inl (cy 1, 8, .inl c_START)), ((hm 6), .inl (cy 1, 512, .inl c_buffer)), ((hm 5), .inl (cy 1, 3, .inl c_counters)), ((hm 35), .inl (cy 1, 32, .inl c_digest)), ((hm 30), .inl (cy 1, 8, .inl c_h)), ((hm 12), .inl (cy 1, 16, .inl c_holder)), ((hm 36), .inl (cy 1, 32, .inl c_inner)), ((hm 14), .inl (cy 1, 1024, .inl c_keys)), ((hm 9), .inl (cy 1, 16, .inl c_kind)), ((hm 10), .inl (cy 1, 16, .inl c_length)), ((hm 33), .inl (cy 1, 64, .inl c_message)), ((hm 37), .inl (cy 1, 64, .inl c_secret)), ((hm 11), .inl (cy 1, 16, .inl c_usage)), ((hm 13), .inl (cy 1, 16, .inl c_uses)), ((hm 31), .inl (cy 1, 64, .inl c_w)), ((hm 32), .inl (cy 1, 8, .inl c_x))]) H → va_D A ([(h0, .inr (12, zmo hm (0 : Int32) c_state c_test c_words c_ill c_before c_inRow c_first c_inWindow c_same c_made c_requests c_total c_secrets c_rounds c_high c_low c_keyHigh c_keyLow)), ((hm 0), .inl (cy 1, 64, .inl c_ROUND)), ((hm 47), .inl (cy 1, 8, .inl c_START)), ((hm 6), .inl (cy 1, 512, .inl c_buffer)), ((hm 5), .inl (cy 1, 3, .inl c_counters)), ((hm 35), .inl (cy 1, 32, .inl c_digest)), ((hm 30), .inl (cy 1, 8, .inl c_h)), ((hm 12), .inl (cy 1, 16, .inl c_holder)), ((hm 36), .inl (cy 1, 32, .inl c_inner)), ((hm 14), .inl (cy 1, 1024, .inl c_keys)), ((hm 9), .inl (cy 1, 16, .inl c_kind)), ((hm 10), .inl (cy 1, 16, .inl c_length)), ((hm 33), .inl (cy 1, 64, .inl c_message)), ((hm 37), .inl (cy 1, 64, .inl c_secret)), ((hm 11), .inl (cy 1, 16, .inl c_usage)), ((hm 13), .inl (cy 1, 16, .inl c_uses)), ((hm 31), .inl (cy 1, 64, .inl c_w)), ((hm 32), .inl (cy 1, 8, .inl c_x))]) → va_S A s.heap H locs → lv_has ls 10 [(0, .ref h0), (1, .int p1), (2, .int p2), (3, .int p3), (4, .int p4), (5, .int p5), (6, .int p6)] → K_152 () = some (r_, c_secrets', c_thrown', c_total', c_counters', c_digest', c_h', c_holder', c_inner', c_keys', c_kind', c_length', c_message', c_secret', c_usage', c_uses', c_w', c_x') → GW H locs (F0 m 62 ls []) := by
    clear hf hl hP hD hS
    intro  H locs ls hP hD hS hl hf
    rw [eK_152] at hf
    clear eK_152
    refine hFr _ _ _ ?_
    refine lv_iconst (pc := 62) (v := (0 : Int32)) hx hb (zdt_at zt_X10_derive_0 32 rfl) (by decide) ?_
    exact hTo _ _ _ (kK_6 _ H locs ls hP hD hS (lv_sub hl [0, 1, 2, 3, 4, 5, 6] rfl) hf)
  clear eK_152
  refine lv_if_eq (pc := 25) (tgt := 62) hx hb (zdt_at zt_X10_derive_0 14 rfl) (by decide) (fun cn_ => ?t_153) (fun cn_ => ?f_154)
  case t_153 =>
    replace hf := zt_s cn_ hf
    clear cn_
    exact hTo _ _ _ (kK_152  H locs ls hP hD hS (lv_sub hl [0, 1, 2, 3, 4, 5, 6] rfl) hf)
  replace hf := ze_s cn_ hf
  clear cn_
  refine lv_iload_n (pc := 28) hx hb (zdt_at zt_X10_derive_0 15 rfl) rfl (lv_at hl 2 rfl) ?_
  refine lv_iconst (pc := 29) (v := (0 : Int32)) hx hb (zdt_at zt_X10_derive_0 16 rfl) (by decide) ?_
  refine lv_bipush (pc := 30) (v := (15 : Int32)) hx hb (zdt_at zt_X10_derive_0 17 rfl) (by decide) ?_
  replace hf := zb_s hf
  obtain ⟨r_155, hc_, hf⟩ := hf
  refine zcs (pc := 32) (rv := (some (.int r_155))) (va_runS (As := [.int p2, .int (0 : Int32), .int (15 : Int32)]) (rest := []) ⟨hx, hb, hml, hown, hts⟩ (c_X10_in l D cy tt H.size p2 (0 : Int32) (15 : Int32) r_155 hc_) (va_cwS 3 hts gX10_derive_X10_in rfl rfl rfl (by decide +kernel) ⟨Nat.le_of_ble_eq_true rfl, Nat.le_of_ble_eq_true rfl⟩) ⟨zblind, zpre hE hS (hP.sub [] rfl) (hD.sub [] (by decide) rfl) (va_free hD hS hA [] rfl)⟩ rfl rfl hl.1 rfl (lv_room (Nat.le_of_ble_eq_true rfl)) (zdt_at zt_X10_derive_0 18 rfl) ⟨Nat.zero_le _, Nat.zero_le _⟩) ?_
  clear hc_
  refine W.eq (g2 := F0 m 35 ls [.int r_155]) rfl ?_
  refine lv_if_eq (pc := 35) (tgt := 62) hx hb (zdt_at zt_X10_derive_0 19 rfl) (by decide) (fun cn_ => ?t_156) (fun cn_ => ?f_157)
  case t_156 =>
    replace hf := zt_s cn_ hf
    clear cn_
    exact hTo _ _ _ (kK_152  H locs ls hP hD hS (lv_sub hl [0, 1, 2, 3, 4, 5, 6] rfl) hf)
  replace hf := ze_s cn_ hf
  clear cn_
  refine lv_iload_n (pc := 38) hx hb (zdt_at zt_X10_derive_0 20 rfl) rfl (lv_at hl 3 rfl) ?_
  refine lv_iconst (pc := 39) (v := (1 : Int32)) hx hb (zdt_at zt_X10_derive_0 21 rfl) (by decide) ?_
  refine lv_iconst (pc := 40) (v := (2 : Int32)) hx hb (zdt_at zt_X10_derive_0 22 rfl) (by decide) ?_
  replace hf := zb_s hf
  obtain ⟨r_158, hc_, hf⟩ := hf
  refine zcs (pc := 41) (rv := (some (.int r_158))) (va_runS (As := [.int p3, .int (1 : Int32), .int (2 : Int32)]) (rest := []) ⟨hx, hb, hml, hown, hts⟩ (c_X10_in l D cy tt H.size p3 (1 : Int32) (2 : Int32) r_158 hc_) (va_cwS 3 hts gX10_derive_X10_in rfl rfl rfl (by decide +kernel) ⟨Nat.le_of_ble_eq_true rfl, Nat.le_of_ble_eq_true rfl⟩) ⟨zblind, zpre hE hS (hP.sub [] rfl) (hD.sub [] (by decide) rfl) (va_free hD hS hA [] rfl)⟩ rfl rfl hl.1 rfl (lv_room (Nat.le_of_ble_eq_true rfl)) (zdt_at zt_X10_derive_0 23 rfl) ⟨Nat.zero_le _, Nat.zero_le _⟩) ?_
  clear hc_
  refine W.eq (g2 := F0 m 44 ls [.int r_158]) rfl ?_
  refine lv_if_eq (pc := 44) (tgt := 62) hx hb (zdt_at zt_X10_derive_0 24 rfl) (by decide) (fun cn_ => ?t_159) (fun cn_ => ?f_160)
  case t_159 =>
    replace hf := zt_s cn_ hf
    clear cn_
    exact hTo _ _ _ (kK_152  H locs ls hP hD hS (lv_sub hl [0, 1, 2, 3, 4, 5, 6] rfl) hf)
  replace hf := ze_s cn_ hf
  clear cn_
  refine lv_iload (pc := 47) hx hb (zdt_at zt_X10_derive_0 25 rfl) (lv_at hl 4 rfl) ?_
  refine lv_iconst (pc := 49) (v := (0 : Int32)) hx hb (zdt_at zt_X10_derive_0 26 rfl) (by decide) ?_
  refine lv_bipush (pc := 50) (v := (63 : Int32)) hx hb (zdt_at zt_X10_derive_0 27 rfl) (by decide) ?_
  replace hf := zb_s hf
  obtain ⟨r_161, hc_, hf⟩ := hf
  refine zcs (pc := 52) (rv := (some (.int r_161))) (va_runS (As := [.int p4, .int (0 : Int32), .int (63 : Int32)]) (rest := []) ⟨hx, hb, hml, hown, hts⟩ (c_X10_in l D cy tt H.size p4 (0 : Int32) (63 : Int32) r_161 hc_) (va_cwS 3 hts gX10_derive_X10_in rfl rfl rfl (by decide +kernel) ⟨Nat.le_of_ble_eq_true rfl, Nat.le_of_ble_eq_true rfl⟩) ⟨zblind, zpre hE hS (hP.sub [] rfl) (hD.sub [] (by decide) rfl) (va_free hD hS hA [] rfl)⟩ rfl rfl hl.1 rfl (lv_room (Nat.le_of_ble_eq_true rfl)) (zdt_at zt_X10_derive_0 28 rfl) ⟨Nat.zero_le _, Nat.zero_le _⟩) ?_
  clear hc_
  refine W.eq (g2 := F0 m 55 ls [.int r_161]) rfl ?_
  refine lv_if_eq (pc := 55) (tgt := 62) hx hb (zdt_at zt_X10_derive_0 29 rfl) (by decide) (fun cn_ => ?t_162) (fun cn_ => ?f_163)
  case t_162 =>
    replace hf := zt_s cn_ hf
    clear cn_
    exact hTo _ _ _ (kK_152  H locs ls hP hD hS (lv_sub hl [0, 1, 2, 3, 4, 5, 6] rfl) hf)
  replace hf := ze_s cn_ hf
  clear cn_
  refine lv_iconst (pc := 58) (v := (1 : Int32)) hx hb (zdt_at zt_X10_derive_0 30 rfl) (by decide) ?_
  refine lv_goto (pc := 59) (tgt := 63) hx hb (zdt_at zt_X10_derive_0 31 rfl) (by decide) ?_
  exact hTo _ _ _ (kK_6 _ H locs ls hP hD hS (lv_sub hl [0, 1, 2, 3, 4, 5, 6] rfl) hf)
set_option maxHeartbeats 4000000 in
set_option maxRecDepth 100000 in
theorem c_X10_wrap (l : Launch) (D : va_G) (cy : Nat → ClassId) (tt : Nat → Nat) (sz : Nat) (h0 : Nat) (hm : Nat → Nat) (p1 : Int32) (p2 : Int32) (c_rounds : Int32) (c_state : Int32) (c_thrown : Int32) (c_block : Nat → Int32) (c_box : Nat → Int32) (c_buffer : Nat → Int32) (c_counters : Nat → Int32) (c_holder : Nat → Int32) (c_keys : Nat → Int32) (c_kind : Nat → Int32) (c_length : Nat → Int32) (c_other : Nat → Int32) (c_result : Nat → Int32) (c_round : Nat → Int32) (c_usage : Nat → Int32) (c_uses : Nat → Int32) (c_test : Int32) (c_words : Int32) (c_ill : Int32) (c_before : Int32) (c_inRow : Int32) (c_first : Int32) (c_inWindow : Int32) (c_same : Int32) (c_made : Int32) (c_requests : Int32) (c_total : Int64) (c_secrets : Int32) (c_high : Int64) (c_low : Int64) (c_keyHigh : Int64) (c_keyLow : Int64) (r_ : Int32) (c_rounds' : Int32) (c_thrown' : Int32) (c_block' : Nat → Int32) (c_buffer' : Nat → Int32) (c_counters' : Nat → Int32) (c_other' : Nat → Int32) (c_result' : Nat → Int32) (c_round' : Nat → Int32) (c_uses' : Nat → Int32) (hf : f_X10_wrap p1 p2 c_rounds c_state c_thrown c_block c_box c_buffer c_counters c_holder c_keys c_kind c_length c_other c_result c_round c_usage c_uses = some (r_, c_rounds', c_thrown', c_block', c_buffer', c_counters', c_other', c_result', c_round', c_uses')) : Met l yX10_wrap wsX10_wrap ({ frames := 3, cells := 0, slots := 0, locals := 71 }) (zPc D cy tt sz [.ref h0, .int p1, .int p2] ([(h0, .inr (12, zmo hm c_thrown c_state c_test c_words c_ill c_before c_inRow c_first c_inWindow c_same c_made c_requests c_total c_secrets c_rounds c_high c_low c_keyHigh c_keyLow)), ((hm 43), .inl (cy 1, 16, .inl c_block)), ((hm 39), .inl (cy 1, 256, .inl c_box)), ((hm 6), .inl (cy 1, 512, .inl c_buffer)), ((hm 5), .inl (cy 1, 3, .inl c_counters)), ((hm 12), .inl (cy 1, 16, .inl c_holder)), ((hm 14), .inl (cy 1, 1024, .inl c_keys)), ((hm 9), .inl (cy 1, 16, .inl c_kind)), ((hm 10), .inl (cy 1, 16, .inl c_length)), ((hm 44), .inl (cy 1, 16, .inl c_other)), ((hm 45), .inl (cy 1, 600, .inl c_result)), ((hm 41), .inl (cy 1, 240, .inl c_round)), ((hm 11), .inl (cy 1, 16, .inl c_usage)), ((hm 13), .inl (cy 1, 16, .inl c_uses))])) (zQ D (some (.int r_)) ([(h0, .inr (12, zmo hm c_thrown' c_state c_test c_words c_ill c_before c_inRow c_first c_inWindow c_same c_made c_requests c_total c_secrets c_rounds' c_high c_low c_keyHigh c_keyLow)), ((hm 43), .inl (cy 1, 16, .inl c_block')), ((hm 39), .inl (cy 1, 256, .inl c_box)), ((hm 6), .inl (cy 1, 512, .inl c_buffer')), ((hm 5), .inl (cy 1, 3, .inl c_counters')), ((hm 12), .inl (cy 1, 16, .inl c_holder)), ((hm 14), .inl (cy 1, 1024, .inl c_keys)), ((hm 9), .inl (cy 1, 16, .inl c_kind)), ((hm 10), .inl (cy 1, 16, .inl c_length)), ((hm 44), .inl (cy 1, 16, .inl c_other')), ((hm 45), .inl (cy 1, 600, .inl c_result')), ((hm 41), .inl (cy 1, 240, .inl c_round')), ((hm 11), .inl (cy 1, 16, .inl c_usage)), ((hm 13), .inl (cy 1, 16, .inl c_uses'))]) (va_A ([(h0, .inr (12, zmo hm c_thrown c_state c_test c_words c_ill c_before c_inRow c_first c_inWindow c_same c_made c_requests c_total c_secrets c_rounds c_high c_low c_keyHigh c_keyLow)), ((hm 43), .inl (cy 1, 16, .inl c_block)), ((hm 39), .inl (cy 1, 256, .inl c_box)), ((hm 6), .inl (cy 1, 512, .inl c_buffer)), ((hm 5), .inl (cy 1, 3, .inl c_counters)), ((hm 12), .inl (cy 1, 16, .inl c_holder)), ((hm 14), .inl (cy 1, 1024, .inl c_keys)), ((hm 9), .inl (cy 1, 16, .inl c_kind)), ((hm 10), .inl (cy 1, 16, .inl c_length)), ((hm 44), .inl (cy 1, 16, .inl c_other)), ((hm 45), .inl (cy 1, 600, .inl c_result)), ((hm 41), .inl (cy 1, 240, .inl c_round)), ((hm 11), .inl (cy 1, 16, .inl c_usage)), ((hm 13), .inl (cy 1, 16, .inl c_uses))]) sz)) 0 0 (va_A ([(h0, .inr (12, zmo hm c_thrown c_state c_test c_words c_ill c_before c_inRow c_first c_inWindow c_same c_made c_requests c_total c_secrets c_rounds c_high c_low c_keyHigh c_keyLow)), ((hm 43), .inl (cy 1, 16, .inl c_block)), ((hm 39), .inl (cy 1, 256, .inl c_box)), ((hm 6), .inl (cy 1, 512, .inl c_buffer)), ((hm 5), .inl (cy 1, 3, .inl c_counters)), ((hm 12), .inl (cy 1, 16, .inl c_holder)), ((hm 14), .inl (cy 1, 1024, .inl c_keys)), ((hm 9), .inl (cy 1, 16, .inl c_kind)), ((hm 10), .inl (cy 1, 16, .inl c_length)), ((hm 44), .inl (cy 1, 16, .inl c_other)), ((hm 45), .inl (cy 1, 600, .inl c_result)), ((hm 41), .inl (cy 1, 240, .inl c_round)), ((hm 11), .inl (cy 1, 16, .inl c_usage)), ((hm 13), .inl (cy 1, 16, .inl c_uses))]) sz) := by
  refine Met.ofW (cc := cX10_wrap) (maxL := 7) (ret := (some .int)) (by decide) rfl ?_
  intro p e s m args below meth c s₁ B hml hv
  obtain ⟨rfl, rfl, hP, hD0, hE⟩ := hv
  have hx := B.exec
  have hb := B.bytes
  have hr := B.returns
  have hts := atoms_spec (ws := wsX10_wrap) B.pre
  have hown : s.vm.findClass RX10 = some m.cls := findClass_of_methodNamed B.named
  have hlocks := B.notSynchronized
  clear B
  have hD := hD0.self (sz := s.heap.size)
  generalize hAe : va_A ([(h0, .inr (12, zmo hm c_thrown c_state c_test c_words c_ill c_before c_inRow c_first c_inWindow c_same c_made c_requests c_total c_secrets c_rounds c_high c_low c_keyHigh c_keyLow)), ((hm 43), .inl (cy 1, 16, .inl c_block)), ((hm 39), .inl (cy 1, 256, .inl c_box)), ((hm 6), .inl (cy 1, 512, .inl c_buffer)), ((hm 5), .inl (cy 1, 3, .inl c_counters)), ((hm 12), .inl (cy 1, 16, .inl c_holder)), ((hm 14), .inl (cy 1, 1024, .inl c_keys)), ((hm 9), .inl (cy 1, 16, .inl c_kind)), ((hm 10), .inl (cy 1, 16, .inl c_length)), ((hm 44), .inl (cy 1, 16, .inl c_other)), ((hm 45), .inl (cy 1, 600, .inl c_result)), ((hm 41), .inl (cy 1, 240, .inl c_round)), ((hm 11), .inl (cy 1, 16, .inl c_usage)), ((hm 13), .inl (cy 1, 16, .inl c_uses))]) s.heap.size = A at hD hE ⊢
  have hA : ∀ q : Nat, s.heap.size ≤ q → A q := fun q h => by rw [← hAe]; exact Or.inr h
  clear hAe hD0
  have hS : va_S A s.heap s.heap [] := va_S.rf
  have hK := hE.1
  have hw0 := hts (.fieldLink RX10 189 "SealedModuleModel" "thrown" "I") (by decide +kernel)
  have hw1 := hts (.fieldLink RX10 93 "SealedModuleModel" "kind" "[I") (by decide +kernel)
  have hw2 := hts (.fieldLink RX10 96 "SealedModuleModel" "length" "[I") (by decide +kernel)
  have hw3 := hts (.fieldLink RX10 99 "SealedModuleModel" "usage" "[I") (by decide +kernel)
  have hw4 := hts (.fieldLink RX10 105 "SealedModuleModel" "uses" "[I") (by decide +kernel)
  have hw5 := hts (.fieldLink RX10 84 "SealedModuleModel" "buffer" "[I") (by decide +kernel)
  have hw6 := hts (.fieldLink RX10 168 "SealedModuleModel" "result" "[I") (by decide +kernel)
  have hw7 := hts (.fieldLink RX10 162 "SealedModuleModel" "block" "[I") (by decide +kernel)
  have hw8 := hts (.fieldLink RX10 108 "SealedModuleModel" "keys" "[I") (by decide +kernel)
  have hw9 := hts (.fieldLink RX10 102 "SealedModuleModel" "holder" "[I") (by decide +kernel)
  have hcX10 : ∀ w ∈ u_ws RX10 TX10 52, w ∈ wsX10_wrap := (fun _ h => List.mem_cons_of_mem _ (List.mem_append_right _ h))
  have hl := lv_entry ([.ref h0, .int p1, .int p2]) (n := 7) (Nat.le_of_ble_eq_true rfl)
  rw [lg_entry_eq]
  generalize (lg_sl ([.ref h0, .int p1, .int p2]) ++ List.replicate (7 - (lg_sl ([.ref h0, .int p1, .int p2])).length) Slot.unset).toArray = ls at hl ⊢
  replace hl : lv_has ls 7 [(0, .ref h0), (1, .int p1), (2, .int p2)] := hl
  unfold f_X10_wrap at hf
  refine zgo (fun GW hTo hFr => ?_)
  refine hFr _ _ _ ?_
  obtain ⟨H, hHe⟩ : ∃ H, H = s.heap := ⟨_, rfl⟩
  obtain ⟨locs, hLe⟩ : ∃ L : List Loc, L = [] := ⟨_, rfl⟩
  rw [← hHe] at hP
  replace hS : va_S A s.heap H locs := by rw [hHe, hLe]; exact hS
  refine zat hHe.symm hLe.symm ?_
  clear hHe hLe
  refine lv_aload_n (pc := 0) hx hb (zdt_at zt_X10_wrap_0 0 rfl) rfl (lv_at hl 0 rfl) ?_
  refine lv_iconst (pc := 1) (v := (0 : Int32)) hx hb (zdt_at zt_X10_wrap_0 1 rfl) (by decide) ?_
  refine va_put (pc := 2) (D := D) (ci := 12) (v := .int (0 : Int32)) (ty := .int) (C := RX10) (T := TX10) (N := 52) hx hb hts hcX10 tyX10 tyX10_ok nmX10 hown hK hP hD hS 0 rfl rfl 1 (by decide) hw0 (fun _ h9 => h9) rfl (by decide +kernel) rfl rfl (Nat.le_of_ble_eq_true rfl) (zdt_at zt_X10_wrap_0 2 rfl) ?_
  clear hP hD hS
  intro H locs hP hD hS
  replace hP : va_P D vwCl ([(h0, .inr (12, zmo hm (0 : Int32) c_state c_test c_words c_ill c_before c_inRow c_first c_inWindow c_same c_made c_requests c_total c_secrets c_rounds c_high c_low c_keyHigh c_keyLow)), ((hm 43), .inl (cy 1, 16, .inl c_block)), ((hm 39), .inl (cy 1, 256, .inl c_box)), ((hm 6), .inl (cy 1, 512, .inl c_buffer)), ((hm 5), .inl (cy 1, 3, .inl c_counters)), ((hm 12), .inl (cy 1, 16, .inl c_holder)), ((hm 14), .inl (cy 1, 1024, .inl c_keys)), ((hm 9), .inl (cy 1, 16, .inl c_kind)), ((hm 10), .inl (cy 1, 16, .inl c_length)), ((hm 44), .inl (cy 1, 16, .inl c_other)), ((hm 45), .inl (cy 1, 600, .inl c_result)), ((hm 41), .inl (cy 1, 240, .inl c_round)), ((hm 11), .inl (cy 1, 16, .inl c_usage)), ((hm 13), .inl (cy 1, 16, .inl c_uses))]) H := hP
  replace hD : va_D A ([(h0, .inr (12, zmo hm (0 : Int32) c_state c_test c_words c_ill c_before c_inRow c_first c_inWindow c_same c_made c_requests c_total c_secrets c_rounds c_high c_low c_keyHigh c_keyLow)), ((hm 43), .inl (cy 1, 16, .inl c_block)), ((hm 39), .inl (cy 1, 256, .inl c_box)), ((hm 6), .inl (cy 1, 512, .inl c_buffer)), ((hm 5), .inl (cy 1, 3, .inl c_counters)), ((hm 12), .inl (cy 1, 16, .inl c_holder)), ((hm 14), .inl (cy 1, 1024, .inl c_keys)), ((hm 9), .inl (cy 1, 16, .inl c_kind)), ((hm 10), .inl (cy 1, 16, .inl c_length)), ((hm 44), .inl (cy 1, 16, .inl c_other)), ((hm 45), .inl (cy 1, 600, .inl c_result)), ((hm 41), .inl (cy 1, 240, .inl c_round)), ((hm 11), .inl (cy 1, 16, .inl c_usage)), ((hm 13), .inl (cy 1, 16, .inl c_uses))]) := hD
  refine lv_aload_n (pc := 5) hx hb (zdt_at zt_X10_wrap_0 3 rfl) rfl (lv_at hl 0 rfl) ?_
  replace hf := zb_s hf
  obtain ⟨r_1, hc_, hf⟩ := hf
  refine zcs (pc := 6) (rv := (some (.int r_1))) (va_runV (As := []) (rest := []) ⟨hx, hb, hml, hown, hts⟩ (c_X10_isIn l D cy tt H.size h0 hm c_state (0 : Int32) c_test c_words c_ill c_before c_inRow c_first c_inWindow c_same c_made c_requests c_total c_secrets c_rounds c_high c_low c_keyHigh c_keyLow r_1 hc_) (cwV 0 hts gX10_wrap_X10_isIn rfl rfl rfl (by decide +kernel) ⟨Nat.le_of_ble_eq_true rfl, Nat.le_of_ble_eq_true rfl⟩) ⟨zblind, va_recv hK hP (ci := 12) (q0 := 0) rfl rfl, zpre hE hS (hP.sub [0] rfl) (hD.sub [0] (by decide) rfl) (va_free hD hS hA [0] rfl)⟩ rfl rfl hl.1 rfl (lv_room (Nat.le_of_ble_eq_true rfl)) (zdt_at zt_X10_wrap_0 4 rfl) ⟨Nat.zero_le _, Nat.zero_le _⟩) ?_
  clear hc_
  refine W.eq (g2 := F0 m 9 ls [.int r_1]) rfl ?_
  refine lv_if_ne (pc := 9) (tgt := 18) hx hb (zdt_at zt_X10_wrap_0 5 rfl) (by decide) (fun cn_ => ?t_2) (fun cn_ => ?f_3)
  case f_3 =>
    replace hf := zt_s cn_ hf
    clear cn_
    refine lv_aload_n (pc := 12) hx hb (zdt_at zt_X10_wrap_0 6 rfl) rfl (lv_at hl 0 rfl) ?_
    refine lv_iconst (pc := 13) (v := (-1 : Int32)) hx hb (zdt_at zt_X10_wrap_0 7 rfl) (by decide) ?_
    replace hf := zb_s hf
    obtain ⟨⟨r_146, c_counters_147⟩, hc_, hf⟩ := hf
    refine zcn2 (pc := 14) (rv := (some (.int r_146))) (va_runV (As := [.int (-1 : Int32)]) (rest := []) ⟨hx, hb, hml, hown, hts⟩ (c_X10_answer l D cy tt H.size h0 hm (-1 : Int32) c_counters (0 : Int32) c_state c_test c_words c_ill c_before c_inRow c_first c_inWindow c_same c_made c_requests c_total c_secrets c_rounds c_high c_low c_keyHigh c_keyLow r_146 c_counters_147 hc_) (cwV 1 hts gX10_wrap_X10_answer rfl rfl rfl (by decide +kernel) ⟨Nat.le_of_ble_eq_true rfl, Nat.le_of_ble_eq_true rfl⟩) ⟨zblind, va_recv hK hP (ci := 12) (q0 := 0) rfl rfl, zpre hE hS (hP.sub [0, 4] rfl) (hD.sub [0, 4] (by decide) rfl) (va_free hD hS hA [0, 4] rfl)⟩ rfl rfl hl.1 rfl (lv_room (Nat.le_of_ble_eq_true rfl)) (zdt_at zt_X10_wrap_0 8 rfl) ⟨Nat.zero_le _, Nat.zero_le _⟩) hS hP hD (va_free hD hS hA [0, 4] rfl) [0, 4] rfl (by decide) rfl ?_
    clear hP hD hS hc_
    intro H locs hP hD hS
    replace hP : va_P D vwCl ([(h0, .inr (12, zmo hm (0 : Int32) c_state c_test c_words c_ill c_before c_inRow c_first c_inWindow c_same c_made c_requests c_total c_secrets c_rounds c_high c_low c_keyHigh c_keyLow)), ((hm 43), .inl (cy 1, 16, .inl c_block)), ((hm 39), .inl (cy 1, 256, .inl c_box)), ((hm 6), .inl (cy 1, 512, .inl c_buffer)), ((hm 5), .inl (cy 1, 3, .inl c_counters_147)), ((hm 12), .inl (cy 1, 16, .inl c_holder)), ((hm 14), .inl (cy 1, 1024, .inl c_keys)), ((hm 9), .inl (cy 1, 16, .inl c_kind)), ((hm 10), .inl (cy 1, 16, .inl c_length)), ((hm 44), .inl (cy 1, 16, .inl c_other)), ((hm 45), .inl (cy 1, 600, .inl c_result)), ((hm 41), .inl (cy 1, 240, .inl c_round)), ((hm 11), .inl (cy 1, 16, .inl c_usage)), ((hm 13), .inl (cy 1, 16, .inl c_uses))]) H := hP
    replace hD : va_D A ([(h0, .inr (12, zmo hm (0 : Int32) c_state c_test c_words c_ill c_before c_inRow c_first c_inWindow c_same c_made c_requests c_total c_secrets c_rounds c_high c_low c_keyHigh c_keyLow)), ((hm 43), .inl (cy 1, 16, .inl c_block)), ((hm 39), .inl (cy 1, 256, .inl c_box)), ((hm 6), .inl (cy 1, 512, .inl c_buffer)), ((hm 5), .inl (cy 1, 3, .inl c_counters_147)), ((hm 12), .inl (cy 1, 16, .inl c_holder)), ((hm 14), .inl (cy 1, 1024, .inl c_keys)), ((hm 9), .inl (cy 1, 16, .inl c_kind)), ((hm 10), .inl (cy 1, 16, .inl c_length)), ((hm 44), .inl (cy 1, 16, .inl c_other)), ((hm 45), .inl (cy 1, 600, .inl c_result)), ((hm 41), .inl (cy 1, 240, .inl c_round)), ((hm 11), .inl (cy 1, 16, .inl c_usage)), ((hm 13), .inl (cy 1, 16, .inl c_uses))]) := hD
    refine W.eq (g2 := F0 m 17 ls [.int r_146]) rfl ?_
    cases hf
    exact W.iret (pc := 17) hx hb hr (fun t ht hW => ⟨rfl, ⟨by rw [ht]; exact hP, hD⟩, hS.F ht⟩) hS.2.2 (zdt_at zt_X10_wrap_0 9 rfl)
  replace hf := ze_s cn_ hf
  clear cn_
  refine lv_iload_n (pc := 18) hx hb (zdt_at zt_X10_wrap_0 10 rfl) rfl (lv_at hl 1 rfl) ?_
  refine lv_iconst (pc := 19) (v := (0 : Int32)) hx hb (zdt_at zt_X10_wrap_0 11 rfl) (by decide) ?_
  refine lv_bipush (pc := 20) (v := (15 : Int32)) hx hb (zdt_at zt_X10_wrap_0 12 rfl) (by decide) ?_
  replace hf := zb_s hf
  obtain ⟨r_4, hc_, hf⟩ := hf
  refine zcs (pc := 22) (rv := (some (.int r_4))) (va_runS (As := [.int p1, .int (0 : Int32), .int (15 : Int32)]) (rest := []) ⟨hx, hb, hml, hown, hts⟩ (c_X10_in l D cy tt H.size p1 (0 : Int32) (15 : Int32) r_4 hc_) (va_cwS 3 hts gX10_wrap_X10_in rfl rfl rfl (by decide +kernel) ⟨Nat.le_of_ble_eq_true rfl, Nat.le_of_ble_eq_true rfl⟩) ⟨zblind, zpre hE hS (hP.sub [] rfl) (hD.sub [] (by decide) rfl) (va_free hD hS hA [] rfl)⟩ rfl rfl hl.1 rfl (lv_room (Nat.le_of_ble_eq_true rfl)) (zdt_at zt_X10_wrap_0 13 rfl) ⟨Nat.zero_le _, Nat.zero_le _⟩) ?_
  clear hc_
  refine W.eq (g2 := F0 m 25 ls [.int r_4]) rfl ?_
  refine lv_if_eq (pc := 25) (tgt := 43) hx hb (zdt_at zt_X10_wrap_0 14 rfl) (by decide) (fun cn_ => ?t_5) (fun cn_ => ?f_6)
  case t_5 =>
    replace hf := zt_s cn_ hf
    clear cn_
    refine lv_aload_n (pc := 43) hx hb (zdt_at zt_X10_wrap_0 23 rfl) rfl (lv_at hl 0 rfl) ?_
    refine lv_bipush (pc := 44) (v := (-2 : Int32)) hx hb (zdt_at zt_X10_wrap_0 24 rfl) (by decide) ?_
    replace hf := zb_s hf
    obtain ⟨⟨r_7, c_counters_8⟩, hc_, hf⟩ := hf
    refine zcn2 (pc := 46) (rv := (some (.int r_7))) (va_runV (As := [.int (-2 : Int32)]) (rest := []) ⟨hx, hb, hml, hown, hts⟩ (c_X10_answer l D cy tt H.size h0 hm (-2 : Int32) c_counters (0 : Int32) c_state c_test c_words c_ill c_before c_inRow c_first c_inWindow c_same c_made c_requests c_total c_secrets c_rounds c_high c_low c_keyHigh c_keyLow r_7 c_counters_8 hc_) (cwV 1 hts gX10_wrap_X10_answer rfl rfl rfl (by decide +kernel) ⟨Nat.le_of_ble_eq_true rfl, Nat.le_of_ble_eq_true rfl⟩) ⟨zblind, va_recv hK hP (ci := 12) (q0 := 0) rfl rfl, zpre hE hS (hP.sub [0, 4] rfl) (hD.sub [0, 4] (by decide) rfl) (va_free hD hS hA [0, 4] rfl)⟩ rfl rfl hl.1 rfl (lv_room (Nat.le_of_ble_eq_true rfl)) (zdt_at zt_X10_wrap_0 25 rfl) ⟨Nat.zero_le _, Nat.zero_le _⟩) hS hP hD (va_free hD hS hA [0, 4] rfl) [0, 4] rfl (by decide) rfl ?_
    clear hP hD hS hc_
    intro H locs hP hD hS
    replace hP : va_P D vwCl ([(h0, .inr (12, zmo hm (0 : Int32) c_state c_test c_words c_ill c_before c_inRow c_first c_inWindow c_same c_made c_requests c_total c_secrets c_rounds c_high c_low c_keyHigh c_keyLow)), ((hm 43), .inl (cy 1, 16, .inl c_block)), ((hm 39), .inl (cy 1, 256, .inl c_box)), ((hm 6), .inl (cy 1, 512, .inl c_buffer)), ((hm 5), .inl (cy 1, 3, .inl c_counters_8)), ((hm 12), .inl (cy 1, 16, .inl c_holder)), ((hm 14), .inl (cy 1, 1024, .inl c_keys)), ((hm 9), .inl (cy 1, 16, .inl c_kind)), ((hm 10), .inl (cy 1, 16, .inl c_length)), ((hm 44), .inl (cy 1, 16, .inl c_other)), ((hm 45), .inl (cy 1, 600, .inl c_result)), ((hm 41), .inl (cy 1, 240, .inl c_round)), ((hm 11), .inl (cy 1, 16, .inl c_usage)), ((hm 13), .inl (cy 1, 16, .inl c_uses))]) H := hP
    replace hD : va_D A ([(h0, .inr (12, zmo hm (0 : Int32) c_state c_test c_words c_ill c_before c_inRow c_first c_inWindow c_same c_made c_requests c_total c_secrets c_rounds c_high c_low c_keyHigh c_keyLow)), ((hm 43), .inl (cy 1, 16, .inl c_block)), ((hm 39), .inl (cy 1, 256, .inl c_box)), ((hm 6), .inl (cy 1, 512, .inl c_buffer)), ((hm 5), .inl (cy 1, 3, .inl c_counters_8)), ((hm 12), .inl (cy 1, 16, .inl c_holder)), ((hm 14), .inl (cy 1, 1024, .inl c_keys)), ((hm 9), .inl (cy 1, 16, .inl c_kind)), ((hm 10), .inl (cy 1, 16, .inl c_length)), ((hm 44), .inl (cy 1, 16, .inl c_other)), ((hm 45), .inl (cy 1, 600, .inl c_result)), ((hm 41), .inl (cy 1, 240, .inl c_round)), ((hm 11), .inl (cy 1, 16, .inl c_usage)), ((hm 13), .inl (cy 1, 16, .inl c_uses))]) := hD
    refine W.eq (g2 := F0 m 49 ls [.int r_7]) rfl ?_
    cases hf
    exact W.iret (pc := 49) hx hb hr (fun t ht hW => ⟨rfl, ⟨by rw [ht]; exact hP, hD⟩, hS.F ht⟩) hS.2.2 (zdt_at zt_X10_wrap_0 26 rfl)
  replace hf := ze_s cn_ hf
  clear cn_
  refine lv_iload_n (pc := 28) hx hb (zdt_at zt_X10_wrap_0 15 rfl) rfl (lv_at hl 2 rfl) ?_
  refine lv_iconst (pc := 29) (v := (0 : Int32)) hx hb (zdt_at zt_X10_wrap_0 16 rfl) (by decide) ?_
  refine lv_bipush (pc := 30) (v := (15 : Int32)) hx hb (zdt_at zt_X10_wrap_0 17 rfl) (by decide) ?_
  replace hf := zb_s hf
  obtain ⟨r_9, hc_, hf⟩ := hf
  refine zcs (pc := 32) (rv := (some (.int r_9))) (va_runS (As := [.int p2, .int (0 : Int32), .int (15 : Int32)]) (rest := []) ⟨hx, hb, hml, hown, hts⟩ (c_X10_in l D cy tt H.size p2 (0 : Int32) (15 : Int32) r_9 hc_) (va_cwS 3 hts gX10_wrap_X10_in rfl rfl rfl (by decide +kernel) ⟨Nat.le_of_ble_eq_true rfl, Nat.le_of_ble_eq_true rfl⟩) ⟨zblind, zpre hE hS (hP.sub [] rfl) (hD.sub [] (by decide) rfl) (va_free hD hS hA [] rfl)⟩ rfl rfl hl.1 rfl (lv_room (Nat.le_of_ble_eq_true rfl)) (zdt_at zt_X10_wrap_0 18 rfl) ⟨Nat.zero_le _, Nat.zero_le _⟩) ?_
  clear hc_
  refine W.eq (g2 := F0 m 35 ls [.int r_9]) rfl ?_
  refine lv_if_eq (pc := 35) (tgt := 43) hx hb (zdt_at zt_X10_wrap_0 19 rfl) (by decide) (fun cn_ => ?t_10) (fun cn_ => ?f_11)
  case t_10 =>
    replace hf := zt_s cn_ hf
    clear cn_
    refine lv_aload_n (pc := 43) hx hb (zdt_at zt_X10_wrap_0 23 rfl) rfl (lv_at hl 0 rfl) ?_
    refine lv_bipush (pc := 44) (v := (-2 : Int32)) hx hb (zdt_at zt_X10_wrap_0 24 rfl) (by decide) ?_
    replace hf := zb_s hf
    obtain ⟨⟨r_12, c_counters_13⟩, hc_, hf⟩ := hf
    refine zcn2 (pc := 46) (rv := (some (.int r_12))) (va_runV (As := [.int (-2 : Int32)]) (rest := []) ⟨hx, hb, hml, hown, hts⟩ (c_X10_answer l D cy tt H.size h0 hm (-2 : Int32) c_counters (0 : Int32) c_state c_test c_words c_ill c_before c_inRow c_first c_inWindow c_same c_made c_requests c_total c_secrets c_rounds c_high c_low c_keyHigh c_keyLow r_12 c_counters_13 hc_) (cwV 1 hts gX10_wrap_X10_answer rfl rfl rfl (by decide +kernel) ⟨Nat.le_of_ble_eq_true rfl, Nat.le_of_ble_eq_true rfl⟩) ⟨zblind, va_recv hK hP (ci := 12) (q0 := 0) rfl rfl, zpre hE hS (hP.sub [0, 4] rfl) (hD.sub [0, 4] (by decide) rfl) (va_free hD hS hA [0, 4] rfl)⟩ rfl rfl hl.1 rfl (lv_room (Nat.le_of_ble_eq_true rfl)) (zdt_at zt_X10_wrap_0 25 rfl) ⟨Nat.zero_le _, Nat.zero_le _⟩) hS hP hD (va_free hD hS hA [0, 4] rfl) [0, 4] rfl (by decide) rfl ?_
    clear hP hD hS hc_
    intro H locs hP hD hS
    replace hP : va_P D vwCl ([(h0, .inr (12, zmo hm (0 : Int32) c_state c_test c_words c_ill c_before c_inRow c_first c_inWindow c_same c_made c_requests c_total c_secrets c_rounds c_high c_low c_keyHigh c_keyLow)), ((hm 43), .inl (cy 1, 16, .inl c_block)), ((hm 39), .inl (cy 1, 256, .inl c_box)), ((hm 6), .inl (cy 1, 512, .inl c_buffer)), ((hm 5), .inl (cy 1, 3, .inl c_counters_13)), ((hm 12), .inl (cy 1, 16, .inl c_holder)), ((hm 14), .inl (cy 1, 1024, .inl c_keys)), ((hm 9), .inl (cy 1, 16, .inl c_kind)), ((hm 10), .inl (cy 1, 16, .inl c_length)), ((hm 44), .inl (cy 1, 16, .inl c_other)), ((hm 45), .inl (cy 1, 600, .inl c_result)), ((hm 41), .inl (cy 1, 240, .inl c_round)), ((hm 11), .inl (cy 1, 16, .inl c_usage)), ((hm 13), .inl (cy 1, 16, .inl c_uses))]) H := hP
    replace hD : va_D A ([(h0, .inr (12, zmo hm (0 : Int32) c_state c_test c_words c_ill c_before c_inRow c_first c_inWindow c_same c_made c_requests c_total c_secrets c_rounds c_high c_low c_keyHigh c_keyLow)), ((hm 43), .inl (cy 1, 16, .inl c_block)), ((hm 39), .inl (cy 1, 256, .inl c_box)), ((hm 6), .inl (cy 1, 512, .inl c_buffer)), ((hm 5), .inl (cy 1, 3, .inl c_counters_13)), ((hm 12), .inl (cy 1, 16, .inl c_holder)), ((hm 14), .inl (cy 1, 1024, .inl c_keys)), ((hm 9), .inl (cy 1, 16, .inl c_kind)), ((hm 10), .inl (cy 1, 16, .inl c_length)), ((hm 44), .inl (cy 1, 16, .inl c_other)), ((hm 45), .inl (cy 1, 600, .inl c_result)), ((hm 41), .inl (cy 1, 240, .inl c_round)), ((hm 11), .inl (cy 1, 16, .inl c_usage)), ((hm 13), .inl (cy 1, 16, .inl c_uses))]) := hD
    refine W.eq (g2 := F0 m 49 ls [.int r_12]) rfl ?_
    cases hf
    exact W.iret (pc := 49) hx hb hr (fun t ht hW => ⟨rfl, ⟨by rw [ht]; exact hP, hD⟩, hS.F ht⟩) hS.2.2 (zdt_at zt_X10_wrap_0 26 rfl)
  replace hf := ze_s cn_ hf
  clear cn_
  refine lv_iload_n (pc := 38) hx hb (zdt_at zt_X10_wrap_0 20 rfl) rfl (lv_at hl 1 rfl) ?_
  refine lv_iload_n (pc := 39) hx hb (zdt_at zt_X10_wrap_0 21 rfl) rfl (lv_at hl 2 rfl) ?_
  refine lv_icmp_ne (pc := 40) (tgt := 50) hx hb (zdt_at zt_X10_wrap_0 22 rfl) (by decide) (fun cn_ => ?t_14) (fun cn_ => ?f_15)
  case f_15 =>
    replace hf := zt_s cn_ hf
    clear cn_
    refine lv_aload_n (pc := 43) hx hb (zdt_at zt_X10_wrap_0 23 rfl) rfl (lv_at hl 0 rfl) ?_
    refine lv_bipush (pc := 44) (v := (-2 : Int32)) hx hb (zdt_at zt_X10_wrap_0 24 rfl) (by decide) ?_
    replace hf := zb_s hf
    obtain ⟨⟨r_144, c_counters_145⟩, hc_, hf⟩ := hf
    refine zcn2 (pc := 46) (rv := (some (.int r_144))) (va_runV (As := [.int (-2 : Int32)]) (rest := []) ⟨hx, hb, hml, hown, hts⟩ (c_X10_answer l D cy tt H.size h0 hm (-2 : Int32) c_counters (0 : Int32) c_state c_test c_words c_ill c_before c_inRow c_first c_inWindow c_same c_made c_requests c_total c_secrets c_rounds c_high c_low c_keyHigh c_keyLow r_144 c_counters_145 hc_) (cwV 1 hts gX10_wrap_X10_answer rfl rfl rfl (by decide +kernel) ⟨Nat.le_of_ble_eq_true rfl, Nat.le_of_ble_eq_true rfl⟩) ⟨zblind, va_recv hK hP (ci := 12) (q0 := 0) rfl rfl, zpre hE hS (hP.sub [0, 4] rfl) (hD.sub [0, 4] (by decide) rfl) (va_free hD hS hA [0, 4] rfl)⟩ rfl rfl hl.1 rfl (lv_room (Nat.le_of_ble_eq_true rfl)) (zdt_at zt_X10_wrap_0 25 rfl) ⟨Nat.zero_le _, Nat.zero_le _⟩) hS hP hD (va_free hD hS hA [0, 4] rfl) [0, 4] rfl (by decide) rfl ?_
    clear hP hD hS hc_
    intro H locs hP hD hS
    replace hP : va_P D vwCl ([(h0, .inr (12, zmo hm (0 : Int32) c_state c_test c_words c_ill c_before c_inRow c_first c_inWindow c_same c_made c_requests c_total c_secrets c_rounds c_high c_low c_keyHigh c_keyLow)), ((hm 43), .inl (cy 1, 16, .inl c_block)), ((hm 39), .inl (cy 1, 256, .inl c_box)), ((hm 6), .inl (cy 1, 512, .inl c_buffer)), ((hm 5), .inl (cy 1, 3, .inl c_counters_145)), ((hm 12), .inl (cy 1, 16, .inl c_holder)), ((hm 14), .inl (cy 1, 1024, .inl c_keys)), ((hm 9), .inl (cy 1, 16, .inl c_kind)), ((hm 10), .inl (cy 1, 16, .inl c_length)), ((hm 44), .inl (cy 1, 16, .inl c_other)), ((hm 45), .inl (cy 1, 600, .inl c_result)), ((hm 41), .inl (cy 1, 240, .inl c_round)), ((hm 11), .inl (cy 1, 16, .inl c_usage)), ((hm 13), .inl (cy 1, 16, .inl c_uses))]) H := hP
    replace hD : va_D A ([(h0, .inr (12, zmo hm (0 : Int32) c_state c_test c_words c_ill c_before c_inRow c_first c_inWindow c_same c_made c_requests c_total c_secrets c_rounds c_high c_low c_keyHigh c_keyLow)), ((hm 43), .inl (cy 1, 16, .inl c_block)), ((hm 39), .inl (cy 1, 256, .inl c_box)), ((hm 6), .inl (cy 1, 512, .inl c_buffer)), ((hm 5), .inl (cy 1, 3, .inl c_counters_145)), ((hm 12), .inl (cy 1, 16, .inl c_holder)), ((hm 14), .inl (cy 1, 1024, .inl c_keys)), ((hm 9), .inl (cy 1, 16, .inl c_kind)), ((hm 10), .inl (cy 1, 16, .inl c_length)), ((hm 44), .inl (cy 1, 16, .inl c_other)), ((hm 45), .inl (cy 1, 600, .inl c_result)), ((hm 41), .inl (cy 1, 240, .inl c_round)), ((hm 11), .inl (cy 1, 16, .inl c_usage)), ((hm 13), .inl (cy 1, 16, .inl c_uses))]) := hD
    refine W.eq (g2 := F0 m 49 ls [.int r_144]) rfl ?_
    cases hf
    exact W.iret (pc := 49) hx hb hr (fun t ht hW => ⟨rfl, ⟨by rw [ht]; exact hP, hD⟩, hS.F ht⟩) hS.2.2 (zdt_at zt_X10_wrap_0 26 rfl)
  replace hf := ze_s cn_ hf
  clear cn_
  refine lv_aload_n (pc := 50) hx hb (zdt_at zt_X10_wrap_0 27 rfl) rfl (lv_at hl 0 rfl) ?_
  refine lv_iload_n (pc := 51) hx hb (zdt_at zt_X10_wrap_0 28 rfl) rfl (lv_at hl 1 rfl) ?_
  replace hf := zb_s hf
  obtain ⟨r_16, hc_, hf⟩ := hf
  refine zcs (pc := 52) (rv := (some (.int r_16))) (va_runV (As := [.int p1]) (rest := []) ⟨hx, hb, hml, hown, hts⟩ (c_X10_isOthers l D cy tt H.size h0 hm p1 c_state c_holder c_kind (0 : Int32) c_test c_words c_ill c_before c_inRow c_first c_inWindow c_same c_made c_requests c_total c_secrets c_rounds c_high c_low c_keyHigh c_keyLow r_16 hc_) (cwV 1 hts gX10_wrap_X10_isOthers rfl rfl rfl (by decide +kernel) ⟨Nat.le_of_ble_eq_true rfl, Nat.le_of_ble_eq_true rfl⟩) ⟨zblind, va_recv hK hP (ci := 12) (q0 := 0) rfl rfl, zpre hE hS (hP.sub [0, 5, 7] rfl) (hD.sub [0, 5, 7] (by decide) rfl) (va_free hD hS hA [0, 5, 7] rfl)⟩ rfl rfl hl.1 rfl (lv_room (Nat.le_of_ble_eq_true rfl)) (zdt_at zt_X10_wrap_0 29 rfl) ⟨Nat.zero_le _, Nat.zero_le _⟩) ?_
  clear hc_
  refine W.eq (g2 := F0 m 55 ls [.int r_16]) rfl ?_
  refine lv_if_ne (pc := 55) (tgt := 66) hx hb (zdt_at zt_X10_wrap_0 30 rfl) (by decide) (fun cn_ => ?t_17) (fun cn_ => ?f_18)
  case t_17 =>
    replace hf := ze_s cn_ hf
    clear cn_
    refine lv_aload_n (pc := 66) hx hb (zdt_at zt_X10_wrap_0 35 rfl) rfl (lv_at hl 0 rfl) ?_
    refine lv_bipush (pc := 67) (v := (-3 : Int32)) hx hb (zdt_at zt_X10_wrap_0 36 rfl) (by decide) ?_
    replace hf := zb_s hf
    obtain ⟨⟨r_19, c_counters_20⟩, hc_, hf⟩ := hf
    refine zcn2 (pc := 69) (rv := (some (.int r_19))) (va_runV (As := [.int (-3 : Int32)]) (rest := []) ⟨hx, hb, hml, hown, hts⟩ (c_X10_answer l D cy tt H.size h0 hm (-3 : Int32) c_counters (0 : Int32) c_state c_test c_words c_ill c_before c_inRow c_first c_inWindow c_same c_made c_requests c_total c_secrets c_rounds c_high c_low c_keyHigh c_keyLow r_19 c_counters_20 hc_) (cwV 1 hts gX10_wrap_X10_answer rfl rfl rfl (by decide +kernel) ⟨Nat.le_of_ble_eq_true rfl, Nat.le_of_ble_eq_true rfl⟩) ⟨zblind, va_recv hK hP (ci := 12) (q0 := 0) rfl rfl, zpre hE hS (hP.sub [0, 4] rfl) (hD.sub [0, 4] (by decide) rfl) (va_free hD hS hA [0, 4] rfl)⟩ rfl rfl hl.1 rfl (lv_room (Nat.le_of_ble_eq_true rfl)) (zdt_at zt_X10_wrap_0 37 rfl) ⟨Nat.zero_le _, Nat.zero_le _⟩) hS hP hD (va_free hD hS hA [0, 4] rfl) [0, 4] rfl (by decide) rfl ?_
    clear hP hD hS hc_
    intro H locs hP hD hS
    replace hP : va_P D vwCl ([(h0, .inr (12, zmo hm (0 : Int32) c_state c_test c_words c_ill c_before c_inRow c_first c_inWindow c_same c_made c_requests c_total c_secrets c_rounds c_high c_low c_keyHigh c_keyLow)), ((hm 43), .inl (cy 1, 16, .inl c_block)), ((hm 39), .inl (cy 1, 256, .inl c_box)), ((hm 6), .inl (cy 1, 512, .inl c_buffer)), ((hm 5), .inl (cy 1, 3, .inl c_counters_20)), ((hm 12), .inl (cy 1, 16, .inl c_holder)), ((hm 14), .inl (cy 1, 1024, .inl c_keys)), ((hm 9), .inl (cy 1, 16, .inl c_kind)), ((hm 10), .inl (cy 1, 16, .inl c_length)), ((hm 44), .inl (cy 1, 16, .inl c_other)), ((hm 45), .inl (cy 1, 600, .inl c_result)), ((hm 41), .inl (cy 1, 240, .inl c_round)), ((hm 11), .inl (cy 1, 16, .inl c_usage)), ((hm 13), .inl (cy 1, 16, .inl c_uses))]) H := hP
    replace hD : va_D A ([(h0, .inr (12, zmo hm (0 : Int32) c_state c_test c_words c_ill c_before c_inRow c_first c_inWindow c_same c_made c_requests c_total c_secrets c_rounds c_high c_low c_keyHigh c_keyLow)), ((hm 43), .inl (cy 1, 16, .inl c_block)), ((hm 39), .inl (cy 1, 256, .inl c_box)), ((hm 6), .inl (cy 1, 512, .inl c_buffer)), ((hm 5), .inl (cy 1, 3, .inl c_counters_20)), ((hm 12), .inl (cy 1, 16, .inl c_holder)), ((hm 14), .inl (cy 1, 1024, .inl c_keys)), ((hm 9), .inl (cy 1, 16, .inl c_kind)), ((hm 10), .inl (cy 1, 16, .inl c_length)), ((hm 44), .inl (cy 1, 16, .inl c_other)), ((hm 45), .inl (cy 1, 600, .inl c_result)), ((hm 41), .inl (cy 1, 240, .inl c_round)), ((hm 11), .inl (cy 1, 16, .inl c_usage)), ((hm 13), .inl (cy 1, 16, .inl c_uses))]) := hD
    refine W.eq (g2 := F0 m 72 ls [.int r_19]) rfl ?_
    cases hf
    exact W.iret (pc := 72) hx hb hr (fun t ht hW => ⟨rfl, ⟨by rw [ht]; exact hP, hD⟩, hS.F ht⟩) hS.2.2 (zdt_at zt_X10_wrap_0 38 rfl)
  replace hf := zt_s cn_ hf
  clear cn_
  refine lv_aload_n (pc := 58) hx hb (zdt_at zt_X10_wrap_0 31 rfl) rfl (lv_at hl 0 rfl) ?_
  refine lv_iload_n (pc := 59) hx hb (zdt_at zt_X10_wrap_0 32 rfl) rfl (lv_at hl 2 rfl) ?_
  replace hf := zb_s hf
  obtain ⟨r_21, hc_, hf⟩ := hf
  refine zcs (pc := 60) (rv := (some (.int r_21))) (va_runV (As := [.int p2]) (rest := []) ⟨hx, hb, hml, hown, hts⟩ (c_X10_isOthers l D cy tt H.size h0 hm p2 c_state c_holder c_kind (0 : Int32) c_test c_words c_ill c_before c_inRow c_first c_inWindow c_same c_made c_requests c_total c_secrets c_rounds c_high c_low c_keyHigh c_keyLow r_21 hc_) (cwV 1 hts gX10_wrap_X10_isOthers rfl rfl rfl (by decide +kernel) ⟨Nat.le_of_ble_eq_true rfl, Nat.le_of_ble_eq_true rfl⟩) ⟨zblind, va_recv hK hP (ci := 12) (q0 := 0) rfl rfl, zpre hE hS (hP.sub [0, 5, 7] rfl) (hD.sub [0, 5, 7] (by decide) rfl) (va_free hD hS hA [0, 5, 7] rfl)⟩ rfl rfl hl.1 rfl (lv_room (Nat.le_of_ble_eq_true rfl)) (zdt_at zt_X10_wrap_0 33 rfl) ⟨Nat.zero_le _, Nat.zero_le _⟩) ?_
  clear hc_
  refine W.eq (g2 := F0 m 63 ls [.int r_21]) rfl ?_
  refine lv_if_eq (pc := 63) (tgt := 73) hx hb (zdt_at zt_X10_wrap_0 34 rfl) (by decide) (fun cn_ => ?t_22) (fun cn_ => ?f_23)
  case f_23 =>
    replace hf := ze_s cn_ hf
    clear cn_
    refine lv_aload_n (pc := 66) hx hb (zdt_at zt_X10_wrap_0 35 rfl) rfl (lv_at hl 0 rfl) ?_
    refine lv_bipush (pc := 67) (v := (-3 : Int32)) hx hb (zdt_at zt_X10_wrap_0 36 rfl) (by decide) ?_
    replace hf := zb_s hf
    obtain ⟨⟨r_142, c_counters_143⟩, hc_, hf⟩ := hf
    refine zcn2 (pc := 69) (rv := (some (.int r_142))) (va_runV (As := [.int (-3 : Int32)]) (rest := []) ⟨hx, hb, hml, hown, hts⟩ (c_X10_answer l D cy tt H.size h0 hm (-3 : Int32) c_counters (0 : Int32) c_state c_test c_words c_ill c_before c_inRow c_first c_inWindow c_same c_made c_requests c_total c_secrets c_rounds c_high c_low c_keyHigh c_keyLow r_142 c_counters_143 hc_) (cwV 1 hts gX10_wrap_X10_answer rfl rfl rfl (by decide +kernel) ⟨Nat.le_of_ble_eq_true rfl, Nat.le_of_ble_eq_true rfl⟩) ⟨zblind, va_recv hK hP (ci := 12) (q0 := 0) rfl rfl, zpre hE hS (hP.sub [0, 4] rfl) (hD.sub [0, 4] (by decide) rfl) (va_free hD hS hA [0, 4] rfl)⟩ rfl rfl hl.1 rfl (lv_room (Nat.le_of_ble_eq_true rfl)) (zdt_at zt_X10_wrap_0 37 rfl) ⟨Nat.zero_le _, Nat.zero_le _⟩) hS hP hD (va_free hD hS hA [0, 4] rfl) [0, 4] rfl (by decide) rfl ?_
    clear hP hD hS hc_
    intro H locs hP hD hS
    replace hP : va_P D vwCl ([(h0, .inr (12, zmo hm (0 : Int32) c_state c_test c_words c_ill c_before c_inRow c_first c_inWindow c_same c_made c_requests c_total c_secrets c_rounds c_high c_low c_keyHigh c_keyLow)), ((hm 43), .inl (cy 1, 16, .inl c_block)), ((hm 39), .inl (cy 1, 256, .inl c_box)), ((hm 6), .inl (cy 1, 512, .inl c_buffer)), ((hm 5), .inl (cy 1, 3, .inl c_counters_143)), ((hm 12), .inl (cy 1, 16, .inl c_holder)), ((hm 14), .inl (cy 1, 1024, .inl c_keys)), ((hm 9), .inl (cy 1, 16, .inl c_kind)), ((hm 10), .inl (cy 1, 16, .inl c_length)), ((hm 44), .inl (cy 1, 16, .inl c_other)), ((hm 45), .inl (cy 1, 600, .inl c_result)), ((hm 41), .inl (cy 1, 240, .inl c_round)), ((hm 11), .inl (cy 1, 16, .inl c_usage)), ((hm 13), .inl (cy 1, 16, .inl c_uses))]) H := hP
    replace hD : va_D A ([(h0, .inr (12, zmo hm (0 : Int32) c_state c_test c_words c_ill c_before c_inRow c_first c_inWindow c_same c_made c_requests c_total c_secrets c_rounds c_high c_low c_keyHigh c_keyLow)), ((hm 43), .inl (cy 1, 16, .inl c_block)), ((hm 39), .inl (cy 1, 256, .inl c_box)), ((hm 6), .inl (cy 1, 512, .inl c_buffer)), ((hm 5), .inl (cy 1, 3, .inl c_counters_143)), ((hm 12), .inl (cy 1, 16, .inl c_holder)), ((hm 14), .inl (cy 1, 1024, .inl c_keys)), ((hm 9), .inl (cy 1, 16, .inl c_kind)), ((hm 10), .inl (cy 1, 16, .inl c_length)), ((hm 44), .inl (cy 1, 16, .inl c_other)), ((hm 45), .inl (cy 1, 600, .inl c_result)), ((hm 41), .inl (cy 1, 240, .inl c_round)), ((hm 11), .inl (cy 1, 16, .inl c_usage)), ((hm 13), .inl (cy 1, 16, .inl c_uses))]) := hD
    refine W.eq (g2 := F0 m 72 ls [.int r_142]) rfl ?_
    cases hf
    exact W.iret (pc := 72) hx hb hr (fun t ht hW => ⟨rfl, ⟨by rw [ht]; exact hP, hD⟩, hS.F ht⟩) hS.2.2 (zdt_at zt_X10_wrap_0 38 rfl)
  replace hf := zt_s cn_ hf
  clear cn_
  refine lv_aload_n (pc := 73) hx hb (zdt_at zt_X10_wrap_0 39 rfl) rfl (lv_at hl 0 rfl) ?_
  refine va_get (pc := 74) (D := D) (ci := 12) (v := .ref (hm 9)) (C := RX10) (T := TX10) (N := 52) hx hb hts hcX10 hown hK hP 0 rfl rfl 9 (by decide) hw1 (fun _ h9 => h9) rfl (zdt_at zt_X10_wrap_0 40 rfl) ?_
  refine lv_iload_n (pc := 77) hx hb (zdt_at zt_X10_wrap_0 41 rfl) rfl (lv_at hl 1 rfl) ?_
  replace hf := zk_s hf
  refine va_iald (pc := 78) hx hb hK hP 7 1 rfl rfl hf.1 (zdt_at zt_X10_wrap_0 42 rfl) ?_
  replace hf := hf.2
  refine lv_if_eq (pc := 79) (tgt := 91) hx hb (zdt_at zt_X10_wrap_0 43 rfl) (by decide) (fun cn_ => ?t_24) (fun cn_ => ?f_25)
  case t_24 =>
    replace hf := zt_s cn_ hf
    clear cn_
    refine lv_aload_n (pc := 91) hx hb (zdt_at zt_X10_wrap_0 49 rfl) rfl (lv_at hl 0 rfl) ?_
    refine lv_bipush (pc := 92) (v := (-4 : Int32)) hx hb (zdt_at zt_X10_wrap_0 50 rfl) (by decide) ?_
    replace hf := zb_s hf
    obtain ⟨⟨r_26, c_counters_27⟩, hc_, hf⟩ := hf
    refine zcn2 (pc := 94) (rv := (some (.int r_26))) (va_runV (As := [.int (-4 : Int32)]) (rest := []) ⟨hx, hb, hml, hown, hts⟩ (c_X10_answer l D cy tt H.size h0 hm (-4 : Int32) c_counters (0 : Int32) c_state c_test c_words c_ill c_before c_inRow c_first c_inWindow c_same c_made c_requests c_total c_secrets c_rounds c_high c_low c_keyHigh c_keyLow r_26 c_counters_27 hc_) (cwV 1 hts gX10_wrap_X10_answer rfl rfl rfl (by decide +kernel) ⟨Nat.le_of_ble_eq_true rfl, Nat.le_of_ble_eq_true rfl⟩) ⟨zblind, va_recv hK hP (ci := 12) (q0 := 0) rfl rfl, zpre hE hS (hP.sub [0, 4] rfl) (hD.sub [0, 4] (by decide) rfl) (va_free hD hS hA [0, 4] rfl)⟩ rfl rfl hl.1 rfl (lv_room (Nat.le_of_ble_eq_true rfl)) (zdt_at zt_X10_wrap_0 51 rfl) ⟨Nat.zero_le _, Nat.zero_le _⟩) hS hP hD (va_free hD hS hA [0, 4] rfl) [0, 4] rfl (by decide) rfl ?_
    clear hP hD hS hc_
    intro H locs hP hD hS
    replace hP : va_P D vwCl ([(h0, .inr (12, zmo hm (0 : Int32) c_state c_test c_words c_ill c_before c_inRow c_first c_inWindow c_same c_made c_requests c_total c_secrets c_rounds c_high c_low c_keyHigh c_keyLow)), ((hm 43), .inl (cy 1, 16, .inl c_block)), ((hm 39), .inl (cy 1, 256, .inl c_box)), ((hm 6), .inl (cy 1, 512, .inl c_buffer)), ((hm 5), .inl (cy 1, 3, .inl c_counters_27)), ((hm 12), .inl (cy 1, 16, .inl c_holder)), ((hm 14), .inl (cy 1, 1024, .inl c_keys)), ((hm 9), .inl (cy 1, 16, .inl c_kind)), ((hm 10), .inl (cy 1, 16, .inl c_length)), ((hm 44), .inl (cy 1, 16, .inl c_other)), ((hm 45), .inl (cy 1, 600, .inl c_result)), ((hm 41), .inl (cy 1, 240, .inl c_round)), ((hm 11), .inl (cy 1, 16, .inl c_usage)), ((hm 13), .inl (cy 1, 16, .inl c_uses))]) H := hP
    replace hD : va_D A ([(h0, .inr (12, zmo hm (0 : Int32) c_state c_test c_words c_ill c_before c_inRow c_first c_inWindow c_same c_made c_requests c_total c_secrets c_rounds c_high c_low c_keyHigh c_keyLow)), ((hm 43), .inl (cy 1, 16, .inl c_block)), ((hm 39), .inl (cy 1, 256, .inl c_box)), ((hm 6), .inl (cy 1, 512, .inl c_buffer)), ((hm 5), .inl (cy 1, 3, .inl c_counters_27)), ((hm 12), .inl (cy 1, 16, .inl c_holder)), ((hm 14), .inl (cy 1, 1024, .inl c_keys)), ((hm 9), .inl (cy 1, 16, .inl c_kind)), ((hm 10), .inl (cy 1, 16, .inl c_length)), ((hm 44), .inl (cy 1, 16, .inl c_other)), ((hm 45), .inl (cy 1, 600, .inl c_result)), ((hm 41), .inl (cy 1, 240, .inl c_round)), ((hm 11), .inl (cy 1, 16, .inl c_usage)), ((hm 13), .inl (cy 1, 16, .inl c_uses))]) := hD
    refine W.eq (g2 := F0 m 97 ls [.int r_26]) rfl ?_
    cases hf
    exact W.iret (pc := 97) hx hb hr (fun t ht hW => ⟨rfl, ⟨by rw [ht]; exact hP, hD⟩, hS.F ht⟩) hS.2.2 (zdt_at zt_X10_wrap_0 52 rfl)
  replace hf := ze_s cn_ hf
  clear cn_
  refine lv_aload_n (pc := 82) hx hb (zdt_at zt_X10_wrap_0 44 rfl) rfl (lv_at hl 0 rfl) ?_
  refine va_get (pc := 83) (D := D) (ci := 12) (v := .ref (hm 9)) (C := RX10) (T := TX10) (N := 52) hx hb hts hcX10 hown hK hP 0 rfl rfl 9 (by decide) hw1 (fun _ h9 => h9) rfl (zdt_at zt_X10_wrap_0 45 rfl) ?_
  refine lv_iload_n (pc := 86) hx hb (zdt_at zt_X10_wrap_0 46 rfl) rfl (lv_at hl 2 rfl) ?_
  replace hf := zk_s hf
  refine va_iald (pc := 87) hx hb hK hP 7 1 rfl rfl hf.1 (zdt_at zt_X10_wrap_0 47 rfl) ?_
  replace hf := hf.2
  refine lv_if_ne (pc := 88) (tgt := 98) hx hb (zdt_at zt_X10_wrap_0 48 rfl) (by decide) (fun cn_ => ?t_28) (fun cn_ => ?f_29)
  case f_29 =>
    replace hf := zt_s cn_ hf
    clear cn_
    refine lv_aload_n (pc := 91) hx hb (zdt_at zt_X10_wrap_0 49 rfl) rfl (lv_at hl 0 rfl) ?_
    refine lv_bipush (pc := 92) (v := (-4 : Int32)) hx hb (zdt_at zt_X10_wrap_0 50 rfl) (by decide) ?_
    replace hf := zb_s hf
    obtain ⟨⟨r_140, c_counters_141⟩, hc_, hf⟩ := hf
    refine zcn2 (pc := 94) (rv := (some (.int r_140))) (va_runV (As := [.int (-4 : Int32)]) (rest := []) ⟨hx, hb, hml, hown, hts⟩ (c_X10_answer l D cy tt H.size h0 hm (-4 : Int32) c_counters (0 : Int32) c_state c_test c_words c_ill c_before c_inRow c_first c_inWindow c_same c_made c_requests c_total c_secrets c_rounds c_high c_low c_keyHigh c_keyLow r_140 c_counters_141 hc_) (cwV 1 hts gX10_wrap_X10_answer rfl rfl rfl (by decide +kernel) ⟨Nat.le_of_ble_eq_true rfl, Nat.le_of_ble_eq_true rfl⟩) ⟨zblind, va_recv hK hP (ci := 12) (q0 := 0) rfl rfl, zpre hE hS (hP.sub [0, 4] rfl) (hD.sub [0, 4] (by decide) rfl) (va_free hD hS hA [0, 4] rfl)⟩ rfl rfl hl.1 rfl (lv_room (Nat.le_of_ble_eq_true rfl)) (zdt_at zt_X10_wrap_0 51 rfl) ⟨Nat.zero_le _, Nat.zero_le _⟩) hS hP hD (va_free hD hS hA [0, 4] rfl) [0, 4] rfl (by decide) rfl ?_
    clear hP hD hS hc_
    intro H locs hP hD hS
    replace hP : va_P D vwCl ([(h0, .inr (12, zmo hm (0 : Int32) c_state c_test c_words c_ill c_before c_inRow c_first c_inWindow c_same c_made c_requests c_total c_secrets c_rounds c_high c_low c_keyHigh c_keyLow)), ((hm 43), .inl (cy 1, 16, .inl c_block)), ((hm 39), .inl (cy 1, 256, .inl c_box)), ((hm 6), .inl (cy 1, 512, .inl c_buffer)), ((hm 5), .inl (cy 1, 3, .inl c_counters_141)), ((hm 12), .inl (cy 1, 16, .inl c_holder)), ((hm 14), .inl (cy 1, 1024, .inl c_keys)), ((hm 9), .inl (cy 1, 16, .inl c_kind)), ((hm 10), .inl (cy 1, 16, .inl c_length)), ((hm 44), .inl (cy 1, 16, .inl c_other)), ((hm 45), .inl (cy 1, 600, .inl c_result)), ((hm 41), .inl (cy 1, 240, .inl c_round)), ((hm 11), .inl (cy 1, 16, .inl c_usage)), ((hm 13), .inl (cy 1, 16, .inl c_uses))]) H := hP
    replace hD : va_D A ([(h0, .inr (12, zmo hm (0 : Int32) c_state c_test c_words c_ill c_before c_inRow c_first c_inWindow c_same c_made c_requests c_total c_secrets c_rounds c_high c_low c_keyHigh c_keyLow)), ((hm 43), .inl (cy 1, 16, .inl c_block)), ((hm 39), .inl (cy 1, 256, .inl c_box)), ((hm 6), .inl (cy 1, 512, .inl c_buffer)), ((hm 5), .inl (cy 1, 3, .inl c_counters_141)), ((hm 12), .inl (cy 1, 16, .inl c_holder)), ((hm 14), .inl (cy 1, 1024, .inl c_keys)), ((hm 9), .inl (cy 1, 16, .inl c_kind)), ((hm 10), .inl (cy 1, 16, .inl c_length)), ((hm 44), .inl (cy 1, 16, .inl c_other)), ((hm 45), .inl (cy 1, 600, .inl c_result)), ((hm 41), .inl (cy 1, 240, .inl c_round)), ((hm 11), .inl (cy 1, 16, .inl c_usage)), ((hm 13), .inl (cy 1, 16, .inl c_uses))]) := hD
    refine W.eq (g2 := F0 m 97 ls [.int r_140]) rfl ?_
    cases hf
    exact W.iret (pc := 97) hx hb hr (fun t ht hW => ⟨rfl, ⟨by rw [ht]; exact hP, hD⟩, hS.F ht⟩) hS.2.2 (zdt_at zt_X10_wrap_0 52 rfl)
  replace hf := ze_s cn_ hf
  clear cn_
  refine lv_aload_n (pc := 98) hx hb (zdt_at zt_X10_wrap_0 53 rfl) rfl (lv_at hl 0 rfl) ?_
  refine va_get (pc := 99) (D := D) (ci := 12) (v := .ref (hm 9)) (C := RX10) (T := TX10) (N := 52) hx hb hts hcX10 hown hK hP 0 rfl rfl 9 (by decide) hw1 (fun _ h9 => h9) rfl (zdt_at zt_X10_wrap_0 54 rfl) ?_
  refine lv_iload_n (pc := 102) hx hb (zdt_at zt_X10_wrap_0 55 rfl) rfl (lv_at hl 2 rfl) ?_
  replace hf := zk_s hf
  refine va_iald (pc := 103) hx hb hK hP 7 1 rfl rfl hf.1 (zdt_at zt_X10_wrap_0 56 rfl) ?_
  replace hf := hf.2
  refine lv_iconst (pc := 104) (v := (1 : Int32)) hx hb (zdt_at zt_X10_wrap_0 57 rfl) (by decide) ?_
  refine lv_icmp_ne (pc := 105) (tgt := 120) hx hb (zdt_at zt_X10_wrap_0 58 rfl) (by decide) (fun cn_ => ?t_30) (fun cn_ => ?f_31)
  case t_30 =>
    replace hf := ze_s cn_ hf
    clear cn_
    refine lv_aload_n (pc := 120) hx hb (zdt_at zt_X10_wrap_1 2 rfl) rfl (lv_at hl 0 rfl) ?_
    refine lv_bipush (pc := 121) (v := (-5 : Int32)) hx hb (zdt_at zt_X10_wrap_1 3 rfl) (by decide) ?_
    replace hf := zb_s hf
    obtain ⟨⟨r_32, c_counters_33⟩, hc_, hf⟩ := hf
    refine zcn2 (pc := 123) (rv := (some (.int r_32))) (va_runV (As := [.int (-5 : Int32)]) (rest := []) ⟨hx, hb, hml, hown, hts⟩ (c_X10_answer l D cy tt H.size h0 hm (-5 : Int32) c_counters (0 : Int32) c_state c_test c_words c_ill c_before c_inRow c_first c_inWindow c_same c_made c_requests c_total c_secrets c_rounds c_high c_low c_keyHigh c_keyLow r_32 c_counters_33 hc_) (cwV 1 hts gX10_wrap_X10_answer rfl rfl rfl (by decide +kernel) ⟨Nat.le_of_ble_eq_true rfl, Nat.le_of_ble_eq_true rfl⟩) ⟨zblind, va_recv hK hP (ci := 12) (q0 := 0) rfl rfl, zpre hE hS (hP.sub [0, 4] rfl) (hD.sub [0, 4] (by decide) rfl) (va_free hD hS hA [0, 4] rfl)⟩ rfl rfl hl.1 rfl (lv_room (Nat.le_of_ble_eq_true rfl)) (zdt_at zt_X10_wrap_1 4 rfl) ⟨Nat.zero_le _, Nat.zero_le _⟩) hS hP hD (va_free hD hS hA [0, 4] rfl) [0, 4] rfl (by decide) rfl ?_
    clear hP hD hS hc_
    intro H locs hP hD hS
    replace hP : va_P D vwCl ([(h0, .inr (12, zmo hm (0 : Int32) c_state c_test c_words c_ill c_before c_inRow c_first c_inWindow c_same c_made c_requests c_total c_secrets c_rounds c_high c_low c_keyHigh c_keyLow)), ((hm 43), .inl (cy 1, 16, .inl c_block)), ((hm 39), .inl (cy 1, 256, .inl c_box)), ((hm 6), .inl (cy 1, 512, .inl c_buffer)), ((hm 5), .inl (cy 1, 3, .inl c_counters_33)), ((hm 12), .inl (cy 1, 16, .inl c_holder)), ((hm 14), .inl (cy 1, 1024, .inl c_keys)), ((hm 9), .inl (cy 1, 16, .inl c_kind)), ((hm 10), .inl (cy 1, 16, .inl c_length)), ((hm 44), .inl (cy 1, 16, .inl c_other)), ((hm 45), .inl (cy 1, 600, .inl c_result)), ((hm 41), .inl (cy 1, 240, .inl c_round)), ((hm 11), .inl (cy 1, 16, .inl c_usage)), ((hm 13), .inl (cy 1, 16, .inl c_uses))]) H := hP
    replace hD : va_D A ([(h0, .inr (12, zmo hm (0 : Int32) c_state c_test c_words c_ill c_before c_inRow c_first c_inWindow c_same c_made c_requests c_total c_secrets c_rounds c_high c_low c_keyHigh c_keyLow)), ((hm 43), .inl (cy 1, 16, .inl c_block)), ((hm 39), .inl (cy 1, 256, .inl c_box)), ((hm 6), .inl (cy 1, 512, .inl c_buffer)), ((hm 5), .inl (cy 1, 3, .inl c_counters_33)), ((hm 12), .inl (cy 1, 16, .inl c_holder)), ((hm 14), .inl (cy 1, 1024, .inl c_keys)), ((hm 9), .inl (cy 1, 16, .inl c_kind)), ((hm 10), .inl (cy 1, 16, .inl c_length)), ((hm 44), .inl (cy 1, 16, .inl c_other)), ((hm 45), .inl (cy 1, 600, .inl c_result)), ((hm 41), .inl (cy 1, 240, .inl c_round)), ((hm 11), .inl (cy 1, 16, .inl c_usage)), ((hm 13), .inl (cy 1, 16, .inl c_uses))]) := hD
    refine W.eq (g2 := F0 m 126 ls [.int r_32]) rfl ?_
    cases hf
    exact W.iret (pc := 126) hx hb hr (fun t ht hW => ⟨rfl, ⟨by rw [ht]; exact hP, hD⟩, hS.F ht⟩) hS.2.2 (zdt_at zt_X10_wrap_1 5 rfl)
  replace hf := zt_s cn_ hf
  clear cn_
  refine lv_aload_n (pc := 108) hx hb (zdt_at zt_X10_wrap_0 59 rfl) rfl (lv_at hl 0 rfl) ?_
  refine va_get (pc := 109) (D := D) (ci := 12) (v := .ref (hm 10)) (C := RX10) (T := TX10) (N := 52) hx hb hts hcX10 hown hK hP 0 rfl rfl 10 (by decide) hw2 (fun _ h9 => h9) rfl (zdt_at zt_X10_wrap_0 60 rfl) ?_
  refine lv_iload_n (pc := 112) hx hb (zdt_at zt_X10_wrap_0 61 rfl) rfl (lv_at hl 1 rfl) ?_
  replace hf := zk_s hf
  refine va_iald (pc := 113) hx hb hK hP 8 1 rfl rfl hf.1 (zdt_at zt_X10_wrap_0 62 rfl) ?_
  replace hf := hf.2
  refine lv_bipush (pc := 114) (v := (8 : Int32)) hx hb (zdt_at zt_X10_wrap_0 63 rfl) (by decide) ?_
  replace hf := zk_s hf
  refine lv_irem (pc := 116) hx hb (zdt_at zt_X10_wrap_1 0 rfl) hf.1 ?_
  replace hf := hf.2
  refine lv_if_le (pc := 117) (tgt := 127) hx hb (zdt_at zt_X10_wrap_1 1 rfl) (by decide) (fun cn_ => ?t_34) (fun cn_ => ?f_35)
  case f_35 =>
    replace hf := ze_s cn_ hf
    clear cn_
    refine lv_aload_n (pc := 120) hx hb (zdt_at zt_X10_wrap_1 2 rfl) rfl (lv_at hl 0 rfl) ?_
    refine lv_bipush (pc := 121) (v := (-5 : Int32)) hx hb (zdt_at zt_X10_wrap_1 3 rfl) (by decide) ?_
    replace hf := zb_s hf
    obtain ⟨⟨r_138, c_counters_139⟩, hc_, hf⟩ := hf
    refine zcn2 (pc := 123) (rv := (some (.int r_138))) (va_runV (As := [.int (-5 : Int32)]) (rest := []) ⟨hx, hb, hml, hown, hts⟩ (c_X10_answer l D cy tt H.size h0 hm (-5 : Int32) c_counters (0 : Int32) c_state c_test c_words c_ill c_before c_inRow c_first c_inWindow c_same c_made c_requests c_total c_secrets c_rounds c_high c_low c_keyHigh c_keyLow r_138 c_counters_139 hc_) (cwV 1 hts gX10_wrap_X10_answer rfl rfl rfl (by decide +kernel) ⟨Nat.le_of_ble_eq_true rfl, Nat.le_of_ble_eq_true rfl⟩) ⟨zblind, va_recv hK hP (ci := 12) (q0 := 0) rfl rfl, zpre hE hS (hP.sub [0, 4] rfl) (hD.sub [0, 4] (by decide) rfl) (va_free hD hS hA [0, 4] rfl)⟩ rfl rfl hl.1 rfl (lv_room (Nat.le_of_ble_eq_true rfl)) (zdt_at zt_X10_wrap_1 4 rfl) ⟨Nat.zero_le _, Nat.zero_le _⟩) hS hP hD (va_free hD hS hA [0, 4] rfl) [0, 4] rfl (by decide) rfl ?_
    clear hP hD hS hc_
    intro H locs hP hD hS
    replace hP : va_P D vwCl ([(h0, .inr (12, zmo hm (0 : Int32) c_state c_test c_words c_ill c_before c_inRow c_first c_inWindow c_same c_made c_requests c_total c_secrets c_rounds c_high c_low c_keyHigh c_keyLow)), ((hm 43), .inl (cy 1, 16, .inl c_block)), ((hm 39), .inl (cy 1, 256, .inl c_box)), ((hm 6), .inl (cy 1, 512, .inl c_buffer)), ((hm 5), .inl (cy 1, 3, .inl c_counters_139)), ((hm 12), .inl (cy 1, 16, .inl c_holder)), ((hm 14), .inl (cy 1, 1024, .inl c_keys)), ((hm 9), .inl (cy 1, 16, .inl c_kind)), ((hm 10), .inl (cy 1, 16, .inl c_length)), ((hm 44), .inl (cy 1, 16, .inl c_other)), ((hm 45), .inl (cy 1, 600, .inl c_result)), ((hm 41), .inl (cy 1, 240, .inl c_round)), ((hm 11), .inl (cy 1, 16, .inl c_usage)), ((hm 13), .inl (cy 1, 16, .inl c_uses))]) H := hP
    replace hD : va_D A ([(h0, .inr (12, zmo hm (0 : Int32) c_state c_test c_words c_ill c_before c_inRow c_first c_inWindow c_same c_made c_requests c_total c_secrets c_rounds c_high c_low c_keyHigh c_keyLow)), ((hm 43), .inl (cy 1, 16, .inl c_block)), ((hm 39), .inl (cy 1, 256, .inl c_box)), ((hm 6), .inl (cy 1, 512, .inl c_buffer)), ((hm 5), .inl (cy 1, 3, .inl c_counters_139)), ((hm 12), .inl (cy 1, 16, .inl c_holder)), ((hm 14), .inl (cy 1, 1024, .inl c_keys)), ((hm 9), .inl (cy 1, 16, .inl c_kind)), ((hm 10), .inl (cy 1, 16, .inl c_length)), ((hm 44), .inl (cy 1, 16, .inl c_other)), ((hm 45), .inl (cy 1, 600, .inl c_result)), ((hm 41), .inl (cy 1, 240, .inl c_round)), ((hm 11), .inl (cy 1, 16, .inl c_usage)), ((hm 13), .inl (cy 1, 16, .inl c_uses))]) := hD
    refine W.eq (g2 := F0 m 126 ls [.int r_138]) rfl ?_
    cases hf
    exact W.iret (pc := 126) hx hb hr (fun t ht hW => ⟨rfl, ⟨by rw [ht]; exact hP, hD⟩, hS.F ht⟩) hS.2.2 (zdt_at zt_X10_wrap_1 5 rfl)
  replace hf := zt_s cn_ hf
  clear cn_
  refine lv_aload_n (pc := 127) hx hb (zdt_at zt_X10_wrap_1 6 rfl) rfl (lv_at hl 0 rfl) ?_
  refine va_get (pc := 128) (D := D) (ci := 12) (v := .ref (hm 11)) (C := RX10) (T := TX10) (N := 52) hx hb hts hcX10 hown hK hP 0 rfl rfl 11 (by decide) hw3 (fun _ h9 => h9) rfl (zdt_at zt_X10_wrap_1 7 rfl) ?_
  refine lv_iload_n (pc := 131) hx hb (zdt_at zt_X10_wrap_1 8 rfl) rfl (lv_at hl 2 rfl) ?_
  replace hf := zk_s hf
  refine va_iald (pc := 132) hx hb hK hP 12 1 rfl rfl hf.1 (zdt_at zt_X10_wrap_1 9 rfl) ?_
  replace hf := hf.2
  refine lv_bipush (pc := 133) (v := (16 : Int32)) hx hb (zdt_at zt_X10_wrap_1 10 rfl) (by decide) ?_
  refine lv_iand (pc := 135) hx hb (zdt_at zt_X10_wrap_1 11 rfl) ?_
  refine lv_if_eq (pc := 136) (tgt := 151) hx hb (zdt_at zt_X10_wrap_1 12 rfl) (by decide) (fun cn_ => ?t_36) (fun cn_ => ?f_37)
  case t_36 =>
    replace hf := zt_s cn_ hf
    clear cn_
    refine lv_aload_n (pc := 151) hx hb (zdt_at zt_X10_wrap_1 20 rfl) rfl (lv_at hl 0 rfl) ?_
    refine lv_bipush (pc := 152) (v := (-6 : Int32)) hx hb (zdt_at zt_X10_wrap_1 21 rfl) (by decide) ?_
    replace hf := zb_s hf
    obtain ⟨⟨r_38, c_counters_39⟩, hc_, hf⟩ := hf
    refine zcn2 (pc := 154) (rv := (some (.int r_38))) (va_runV (As := [.int (-6 : Int32)]) (rest := []) ⟨hx, hb, hml, hown, hts⟩ (c_X10_answer l D cy tt H.size h0 hm (-6 : Int32) c_counters (0 : Int32) c_state c_test c_words c_ill c_before c_inRow c_first c_inWindow c_same c_made c_requests c_total c_secrets c_rounds c_high c_low c_keyHigh c_keyLow r_38 c_counters_39 hc_) (cwV 1 hts gX10_wrap_X10_answer rfl rfl rfl (by decide +kernel) ⟨Nat.le_of_ble_eq_true rfl, Nat.le_of_ble_eq_true rfl⟩) ⟨zblind, va_recv hK hP (ci := 12) (q0 := 0) rfl rfl, zpre hE hS (hP.sub [0, 4] rfl) (hD.sub [0, 4] (by decide) rfl) (va_free hD hS hA [0, 4] rfl)⟩ rfl rfl hl.1 rfl (lv_room (Nat.le_of_ble_eq_true rfl)) (zdt_at zt_X10_wrap_1 22 rfl) ⟨Nat.zero_le _, Nat.zero_le _⟩) hS hP hD (va_free hD hS hA [0, 4] rfl) [0, 4] rfl (by decide) rfl ?_
    clear hP hD hS hc_
    intro H locs hP hD hS
    replace hP : va_P D vwCl ([(h0, .inr (12, zmo hm (0 : Int32) c_state c_test c_words c_ill c_before c_inRow c_first c_inWindow c_same c_made c_requests c_total c_secrets c_rounds c_high c_low c_keyHigh c_keyLow)), ((hm 43), .inl (cy 1, 16, .inl c_block)), ((hm 39), .inl (cy 1, 256, .inl c_box)), ((hm 6), .inl (cy 1, 512, .inl c_buffer)), ((hm 5), .inl (cy 1, 3, .inl c_counters_39)), ((hm 12), .inl (cy 1, 16, .inl c_holder)), ((hm 14), .inl (cy 1, 1024, .inl c_keys)), ((hm 9), .inl (cy 1, 16, .inl c_kind)), ((hm 10), .inl (cy 1, 16, .inl c_length)), ((hm 44), .inl (cy 1, 16, .inl c_other)), ((hm 45), .inl (cy 1, 600, .inl c_result)), ((hm 41), .inl (cy 1, 240, .inl c_round)), ((hm 11), .inl (cy 1, 16, .inl c_usage)), ((hm 13), .inl (cy 1, 16, .inl c_uses))]) H := hP
    replace hD : va_D A ([(h0, .inr (12, zmo hm (0 : Int32) c_state c_test c_words c_ill c_before c_inRow c_first c_inWindow c_same c_made c_requests c_total c_secrets c_rounds c_high c_low c_keyHigh c_keyLow)), ((hm 43), .inl (cy 1, 16, .inl c_block)), ((hm 39), .inl (cy 1, 256, .inl c_box)), ((hm 6), .inl (cy 1, 512, .inl c_buffer)), ((hm 5), .inl (cy 1, 3, .inl c_counters_39)), ((hm 12), .inl (cy 1, 16, .inl c_holder)), ((hm 14), .inl (cy 1, 1024, .inl c_keys)), ((hm 9), .inl (cy 1, 16, .inl c_kind)), ((hm 10), .inl (cy 1, 16, .inl c_length)), ((hm 44), .inl (cy 1, 16, .inl c_other)), ((hm 45), .inl (cy 1, 600, .inl c_result)), ((hm 41), .inl (cy 1, 240, .inl c_round)), ((hm 11), .inl (cy 1, 16, .inl c_usage)), ((hm 13), .inl (cy 1, 16, .inl c_uses))]) := hD
    refine W.eq (g2 := F0 m 157 ls [.int r_38]) rfl ?_
    cases hf
    exact W.iret (pc := 157) hx hb hr (fun t ht hW => ⟨rfl, ⟨by rw [ht]; exact hP, hD⟩, hS.F ht⟩) hS.2.2 (zdt_at zt_X10_wrap_1 23 rfl)
  replace hf := ze_s cn_ hf
  clear cn_
  refine lv_aload_n (pc := 139) hx hb (zdt_at zt_X10_wrap_1 13 rfl) rfl (lv_at hl 0 rfl) ?_
  refine va_get (pc := 140) (D := D) (ci := 12) (v := .ref (hm 11)) (C := RX10) (T := TX10) (N := 52) hx hb hts hcX10 hown hK hP 0 rfl rfl 11 (by decide) hw3 (fun _ h9 => h9) rfl (zdt_at zt_X10_wrap_1 14 rfl) ?_
  refine lv_iload_n (pc := 143) hx hb (zdt_at zt_X10_wrap_1 15 rfl) rfl (lv_at hl 1 rfl) ?_
  replace hf := zk_s hf
  refine va_iald (pc := 144) hx hb hK hP 12 1 rfl rfl hf.1 (zdt_at zt_X10_wrap_1 16 rfl) ?_
  replace hf := hf.2
  refine lv_bipush (pc := 145) (v := (32 : Int32)) hx hb (zdt_at zt_X10_wrap_1 17 rfl) (by decide) ?_
  refine lv_iand (pc := 147) hx hb (zdt_at zt_X10_wrap_1 18 rfl) ?_
  refine lv_if_ne (pc := 148) (tgt := 158) hx hb (zdt_at zt_X10_wrap_1 19 rfl) (by decide) (fun cn_ => ?t_40) (fun cn_ => ?f_41)
  case f_41 =>
    replace hf := zt_s cn_ hf
    clear cn_
    refine lv_aload_n (pc := 151) hx hb (zdt_at zt_X10_wrap_1 20 rfl) rfl (lv_at hl 0 rfl) ?_
    refine lv_bipush (pc := 152) (v := (-6 : Int32)) hx hb (zdt_at zt_X10_wrap_1 21 rfl) (by decide) ?_
    replace hf := zb_s hf
    obtain ⟨⟨r_136, c_counters_137⟩, hc_, hf⟩ := hf
    refine zcn2 (pc := 154) (rv := (some (.int r_136))) (va_runV (As := [.int (-6 : Int32)]) (rest := []) ⟨hx, hb, hml, hown, hts⟩ (c_X10_answer l D cy tt H.size h0 hm (-6 : Int32) c_counters (0 : Int32) c_state c_test c_words c_ill c_before c_inRow c_first c_inWindow c_same c_made c_requests c_total c_secrets c_rounds c_high c_low c_keyHigh c_keyLow r_136 c_counters_137 hc_) (cwV 1 hts gX10_wrap_X10_answer rfl rfl rfl (by decide +kernel) ⟨Nat.le_of_ble_eq_true rfl, Nat.le_of_ble_eq_true rfl⟩) ⟨zblind, va_recv hK hP (ci := 12) (q0 := 0) rfl rfl, zpre hE hS (hP.sub [0, 4] rfl) (hD.sub [0, 4] (by decide) rfl) (va_free hD hS hA [0, 4] rfl)⟩ rfl rfl hl.1 rfl (lv_room (Nat.le_of_ble_eq_true rfl)) (zdt_at zt_X10_wrap_1 22 rfl) ⟨Nat.zero_le _, Nat.zero_le _⟩) hS hP hD (va_free hD hS hA [0, 4] rfl) [0, 4] rfl (by decide) rfl ?_
    clear hP hD hS hc_
    intro H locs hP hD hS
    replace hP : va_P D vwCl ([(h0, .inr (12, zmo hm (0 : Int32) c_state c_test c_words c_ill c_before c_inRow c_first c_inWindow c_same c_made c_requests c_total c_secrets c_rounds c_high c_low c_keyHigh c_keyLow)), ((hm 43), .inl (cy 1, 16, .inl c_block)), ((hm 39), .inl (cy 1, 256, .inl c_box)), ((hm 6), .inl (cy 1, 512, .inl c_buffer)), ((hm 5), .inl (cy 1, 3, .inl c_counters_137)), ((hm 12), .inl (cy 1, 16, .inl c_holder)), ((hm 14), .inl (cy 1, 1024, .inl c_keys)), ((hm 9), .inl (cy 1, 16, .inl c_kind)), ((hm 10), .inl (cy 1, 16, .inl c_length)), ((hm 44), .inl (cy 1, 16, .inl c_other)), ((hm 45), .inl (cy 1, 600, .inl c_result)), ((hm 41), .inl (cy 1, 240, .inl c_round)), ((hm 11), .inl (cy 1, 16, .inl c_usage)), ((hm 13), .inl (cy 1, 16, .inl c_uses))]) H := hP
    replace hD : va_D A ([(h0, .inr (12, zmo hm (0 : Int32) c_state c_test c_words c_ill c_before c_inRow c_first c_inWindow c_same c_made c_requests c_total c_secrets c_rounds c_high c_low c_keyHigh c_keyLow)), ((hm 43), .inl (cy 1, 16, .inl c_block)), ((hm 39), .inl (cy 1, 256, .inl c_box)), ((hm 6), .inl (cy 1, 512, .inl c_buffer)), ((hm 5), .inl (cy 1, 3, .inl c_counters_137)), ((hm 12), .inl (cy 1, 16, .inl c_holder)), ((hm 14), .inl (cy 1, 1024, .inl c_keys)), ((hm 9), .inl (cy 1, 16, .inl c_kind)), ((hm 10), .inl (cy 1, 16, .inl c_length)), ((hm 44), .inl (cy 1, 16, .inl c_other)), ((hm 45), .inl (cy 1, 600, .inl c_result)), ((hm 41), .inl (cy 1, 240, .inl c_round)), ((hm 11), .inl (cy 1, 16, .inl c_usage)), ((hm 13), .inl (cy 1, 16, .inl c_uses))]) := hD
    refine W.eq (g2 := F0 m 157 ls [.int r_136]) rfl ?_
    cases hf
    exact W.iret (pc := 157) hx hb hr (fun t ht hW => ⟨rfl, ⟨by rw [ht]; exact hP, hD⟩, hS.F ht⟩) hS.2.2 (zdt_at zt_X10_wrap_1 23 rfl)
  replace hf := ze_s cn_ hf
  clear cn_
  refine lv_aload_n (pc := 158) hx hb (zdt_at zt_X10_wrap_1 24 rfl) rfl (lv_at hl 0 rfl) ?_
  refine va_get (pc := 159) (D := D) (ci := 12) (v := .ref (hm 13)) (C := RX10) (T := TX10) (N := 52) hx hb hts hcX10 hown hK hP 0 rfl rfl 13 (by decide) hw4 (fun _ h9 => h9) rfl (zdt_at zt_X10_wrap_1 25 rfl) ?_
  refine lv_iload_n (pc := 162) hx hb (zdt_at zt_X10_wrap_1 26 rfl) rfl (lv_at hl 1 rfl) ?_
  replace hf := zk_s hf
  refine va_iald (pc := 163) hx hb hK hP 13 1 rfl rfl hf.1 (zdt_at zt_X10_wrap_1 27 rfl) ?_
  replace hf := hf.2
  refine lv_if_eq (pc := 164) (tgt := 176) hx hb (zdt_at zt_X10_wrap_1 28 rfl) (by decide) (fun cn_ => ?t_42) (fun cn_ => ?f_43)
  case t_42 =>
    replace hf := zt_s cn_ hf
    clear cn_
    refine lv_aload_n (pc := 176) hx hb (zdt_at zt_X10_wrap_1 34 rfl) rfl (lv_at hl 0 rfl) ?_
    refine lv_bipush (pc := 177) (v := (-7 : Int32)) hx hb (zdt_at zt_X10_wrap_1 35 rfl) (by decide) ?_
    replace hf := zb_s hf
    obtain ⟨⟨r_44, c_counters_45⟩, hc_, hf⟩ := hf
    refine zcn2 (pc := 179) (rv := (some (.int r_44))) (va_runV (As := [.int (-7 : Int32)]) (rest := []) ⟨hx, hb, hml, hown, hts⟩ (c_X10_answer l D cy tt H.size h0 hm (-7 : Int32) c_counters (0 : Int32) c_state c_test c_words c_ill c_before c_inRow c_first c_inWindow c_same c_made c_requests c_total c_secrets c_rounds c_high c_low c_keyHigh c_keyLow r_44 c_counters_45 hc_) (cwV 1 hts gX10_wrap_X10_answer rfl rfl rfl (by decide +kernel) ⟨Nat.le_of_ble_eq_true rfl, Nat.le_of_ble_eq_true rfl⟩) ⟨zblind, va_recv hK hP (ci := 12) (q0 := 0) rfl rfl, zpre hE hS (hP.sub [0, 4] rfl) (hD.sub [0, 4] (by decide) rfl) (va_free hD hS hA [0, 4] rfl)⟩ rfl rfl hl.1 rfl (lv_room (Nat.le_of_ble_eq_true rfl)) (zdt_at zt_X10_wrap_1 36 rfl) ⟨Nat.zero_le _, Nat.zero_le _⟩) hS hP hD (va_free hD hS hA [0, 4] rfl) [0, 4] rfl (by decide) rfl ?_
    clear hP hD hS hc_
    intro H locs hP hD hS
    replace hP : va_P D vwCl ([(h0, .inr (12, zmo hm (0 : Int32) c_state c_test c_words c_ill c_before c_inRow c_first c_inWindow c_same c_made c_requests c_total c_secrets c_rounds c_high c_low c_keyHigh c_keyLow)), ((hm 43), .inl (cy 1, 16, .inl c_block)), ((hm 39), .inl (cy 1, 256, .inl c_box)), ((hm 6), .inl (cy 1, 512, .inl c_buffer)), ((hm 5), .inl (cy 1, 3, .inl c_counters_45)), ((hm 12), .inl (cy 1, 16, .inl c_holder)), ((hm 14), .inl (cy 1, 1024, .inl c_keys)), ((hm 9), .inl (cy 1, 16, .inl c_kind)), ((hm 10), .inl (cy 1, 16, .inl c_length)), ((hm 44), .inl (cy 1, 16, .inl c_other)), ((hm 45), .inl (cy 1, 600, .inl c_result)), ((hm 41), .inl (cy 1, 240, .inl c_round)), ((hm 11), .inl (cy 1, 16, .inl c_usage)), ((hm 13), .inl (cy 1, 16, .inl c_uses))]) H := hP
    replace hD : va_D A ([(h0, .inr (12, zmo hm (0 : Int32) c_state c_test c_words c_ill c_before c_inRow c_first c_inWindow c_same c_made c_requests c_total c_secrets c_rounds c_high c_low c_keyHigh c_keyLow)), ((hm 43), .inl (cy 1, 16, .inl c_block)), ((hm 39), .inl (cy 1, 256, .inl c_box)), ((hm 6), .inl (cy 1, 512, .inl c_buffer)), ((hm 5), .inl (cy 1, 3, .inl c_counters_45)), ((hm 12), .inl (cy 1, 16, .inl c_holder)), ((hm 14), .inl (cy 1, 1024, .inl c_keys)), ((hm 9), .inl (cy 1, 16, .inl c_kind)), ((hm 10), .inl (cy 1, 16, .inl c_length)), ((hm 44), .inl (cy 1, 16, .inl c_other)), ((hm 45), .inl (cy 1, 600, .inl c_result)), ((hm 41), .inl (cy 1, 240, .inl c_round)), ((hm 11), .inl (cy 1, 16, .inl c_usage)), ((hm 13), .inl (cy 1, 16, .inl c_uses))]) := hD
    refine W.eq (g2 := F0 m 182 ls [.int r_44]) rfl ?_
    cases hf
    exact W.iret (pc := 182) hx hb hr (fun t ht hW => ⟨rfl, ⟨by rw [ht]; exact hP, hD⟩, hS.F ht⟩) hS.2.2 (zdt_at zt_X10_wrap_1 37 rfl)
  replace hf := ze_s cn_ hf
  clear cn_
  refine lv_aload_n (pc := 167) hx hb (zdt_at zt_X10_wrap_1 29 rfl) rfl (lv_at hl 0 rfl) ?_
  refine va_get (pc := 168) (D := D) (ci := 12) (v := .ref (hm 13)) (C := RX10) (T := TX10) (N := 52) hx hb hts hcX10 hown hK hP 0 rfl rfl 13 (by decide) hw4 (fun _ h9 => h9) rfl (zdt_at zt_X10_wrap_1 30 rfl) ?_
  refine lv_iload_n (pc := 171) hx hb (zdt_at zt_X10_wrap_1 31 rfl) rfl (lv_at hl 2 rfl) ?_
  replace hf := zk_s hf
  refine va_iald (pc := 172) hx hb hK hP 13 1 rfl rfl hf.1 (zdt_at zt_X10_wrap_1 32 rfl) ?_
  replace hf := hf.2
  refine lv_if_ne (pc := 173) (tgt := 183) hx hb (zdt_at zt_X10_wrap_1 33 rfl) (by decide) (fun cn_ => ?t_46) (fun cn_ => ?f_47)
  case f_47 =>
    replace hf := zt_s cn_ hf
    clear cn_
    refine lv_aload_n (pc := 176) hx hb (zdt_at zt_X10_wrap_1 34 rfl) rfl (lv_at hl 0 rfl) ?_
    refine lv_bipush (pc := 177) (v := (-7 : Int32)) hx hb (zdt_at zt_X10_wrap_1 35 rfl) (by decide) ?_
    replace hf := zb_s hf
    obtain ⟨⟨r_134, c_counters_135⟩, hc_, hf⟩ := hf
    refine zcn2 (pc := 179) (rv := (some (.int r_134))) (va_runV (As := [.int (-7 : Int32)]) (rest := []) ⟨hx, hb, hml, hown, hts⟩ (c_X10_answer l D cy tt H.size h0 hm (-7 : Int32) c_counters (0 : Int32) c_state c_test c_words c_ill c_before c_inRow c_first c_inWindow c_same c_made c_requests c_total c_secrets c_rounds c_high c_low c_keyHigh c_keyLow r_134 c_counters_135 hc_) (cwV 1 hts gX10_wrap_X10_answer rfl rfl rfl (by decide +kernel) ⟨Nat.le_of_ble_eq_true rfl, Nat.le_of_ble_eq_true rfl⟩) ⟨zblind, va_recv hK hP (ci := 12) (q0 := 0) rfl rfl, zpre hE hS (hP.sub [0, 4] rfl) (hD.sub [0, 4] (by decide) rfl) (va_free hD hS hA [0, 4] rfl)⟩ rfl rfl hl.1 rfl (lv_room (Nat.le_of_ble_eq_true rfl)) (zdt_at zt_X10_wrap_1 36 rfl) ⟨Nat.zero_le _, Nat.zero_le _⟩) hS hP hD (va_free hD hS hA [0, 4] rfl) [0, 4] rfl (by decide) rfl ?_
    clear hP hD hS hc_
    intro H locs hP hD hS
    replace hP : va_P D vwCl ([(h0, .inr (12, zmo hm (0 : Int32) c_state c_test c_words c_ill c_before c_inRow c_first c_inWindow c_same c_made c_requests c_total c_secrets c_rounds c_high c_low c_keyHigh c_keyLow)), ((hm 43), .inl (cy 1, 16, .inl c_block)), ((hm 39), .inl (cy 1, 256, .inl c_box)), ((hm 6), .inl (cy 1, 512, .inl c_buffer)), ((hm 5), .inl (cy 1, 3, .inl c_counters_135)), ((hm 12), .inl (cy 1, 16, .inl c_holder)), ((hm 14), .inl (cy 1, 1024, .inl c_keys)), ((hm 9), .inl (cy 1, 16, .inl c_kind)), ((hm 10), .inl (cy 1, 16, .inl c_length)), ((hm 44), .inl (cy 1, 16, .inl c_other)), ((hm 45), .inl (cy 1, 600, .inl c_result)), ((hm 41), .inl (cy 1, 240, .inl c_round)), ((hm 11), .inl (cy 1, 16, .inl c_usage)), ((hm 13), .inl (cy 1, 16, .inl c_uses))]) H := hP
    replace hD : va_D A ([(h0, .inr (12, zmo hm (0 : Int32) c_state c_test c_words c_ill c_before c_inRow c_first c_inWindow c_same c_made c_requests c_total c_secrets c_rounds c_high c_low c_keyHigh c_keyLow)), ((hm 43), .inl (cy 1, 16, .inl c_block)), ((hm 39), .inl (cy 1, 256, .inl c_box)), ((hm 6), .inl (cy 1, 512, .inl c_buffer)), ((hm 5), .inl (cy 1, 3, .inl c_counters_135)), ((hm 12), .inl (cy 1, 16, .inl c_holder)), ((hm 14), .inl (cy 1, 1024, .inl c_keys)), ((hm 9), .inl (cy 1, 16, .inl c_kind)), ((hm 10), .inl (cy 1, 16, .inl c_length)), ((hm 44), .inl (cy 1, 16, .inl c_other)), ((hm 45), .inl (cy 1, 600, .inl c_result)), ((hm 41), .inl (cy 1, 240, .inl c_round)), ((hm 11), .inl (cy 1, 16, .inl c_usage)), ((hm 13), .inl (cy 1, 16, .inl c_uses))]) := hD
    refine W.eq (g2 := F0 m 182 ls [.int r_134]) rfl ?_
    cases hf
    exact W.iret (pc := 182) hx hb hr (fun t ht hW => ⟨rfl, ⟨by rw [ht]; exact hP, hD⟩, hS.F ht⟩) hS.2.2 (zdt_at zt_X10_wrap_1 37 rfl)
  replace hf := ze_s cn_ hf
  clear cn_
  refine lv_aload_n (pc := 183) hx hb (zdt_at zt_X10_wrap_1 38 rfl) rfl (lv_at hl 0 rfl) ?_
  refine lv_iload_n (pc := 184) hx hb (zdt_at zt_X10_wrap_1 39 rfl) rfl (lv_at hl 1 rfl) ?_
  replace hf := zb_s hf
  obtain ⟨c_uses_48, hc_, hf⟩ := hf
  refine zcn2 (pc := 185) (rv := none) (va_runV (As := [.int p1]) (rest := []) ⟨hx, hb, hml, hown, hts⟩ (c_X10_use l D cy tt H.size h0 hm p1 c_uses (0 : Int32) c_state c_test c_words c_ill c_before c_inRow c_first c_inWindow c_same c_made c_requests c_total c_secrets c_rounds c_high c_low c_keyHigh c_keyLow c_uses_48 hc_) (cwV 1 hts gX10_wrap_X10_use rfl rfl rfl (by decide +kernel) ⟨Nat.le_of_ble_eq_true rfl, Nat.le_of_ble_eq_true rfl⟩) ⟨zblind, va_recv hK hP (ci := 12) (q0 := 0) rfl rfl, zpre hE hS (hP.sub [0, 13] rfl) (hD.sub [0, 13] (by decide) rfl) (va_free hD hS hA [0, 13] rfl)⟩ rfl rfl hl.1 rfl (lv_room (Nat.le_of_ble_eq_true rfl)) (zdt_at zt_X10_wrap_1 40 rfl) ⟨Nat.zero_le _, Nat.zero_le _⟩) hS hP hD (va_free hD hS hA [0, 13] rfl) [0, 13] rfl (by decide) rfl ?_
  clear hP hD hS hc_
  intro H locs hP hD hS
  replace hP : va_P D vwCl ([(h0, .inr (12, zmo hm (0 : Int32) c_state c_test c_words c_ill c_before c_inRow c_first c_inWindow c_same c_made c_requests c_total c_secrets c_rounds c_high c_low c_keyHigh c_keyLow)), ((hm 43), .inl (cy 1, 16, .inl c_block)), ((hm 39), .inl (cy 1, 256, .inl c_box)), ((hm 6), .inl (cy 1, 512, .inl c_buffer)), ((hm 5), .inl (cy 1, 3, .inl c_counters)), ((hm 12), .inl (cy 1, 16, .inl c_holder)), ((hm 14), .inl (cy 1, 1024, .inl c_keys)), ((hm 9), .inl (cy 1, 16, .inl c_kind)), ((hm 10), .inl (cy 1, 16, .inl c_length)), ((hm 44), .inl (cy 1, 16, .inl c_other)), ((hm 45), .inl (cy 1, 600, .inl c_result)), ((hm 41), .inl (cy 1, 240, .inl c_round)), ((hm 11), .inl (cy 1, 16, .inl c_usage)), ((hm 13), .inl (cy 1, 16, .inl c_uses_48))]) H := hP
  replace hD : va_D A ([(h0, .inr (12, zmo hm (0 : Int32) c_state c_test c_words c_ill c_before c_inRow c_first c_inWindow c_same c_made c_requests c_total c_secrets c_rounds c_high c_low c_keyHigh c_keyLow)), ((hm 43), .inl (cy 1, 16, .inl c_block)), ((hm 39), .inl (cy 1, 256, .inl c_box)), ((hm 6), .inl (cy 1, 512, .inl c_buffer)), ((hm 5), .inl (cy 1, 3, .inl c_counters)), ((hm 12), .inl (cy 1, 16, .inl c_holder)), ((hm 14), .inl (cy 1, 1024, .inl c_keys)), ((hm 9), .inl (cy 1, 16, .inl c_kind)), ((hm 10), .inl (cy 1, 16, .inl c_length)), ((hm 44), .inl (cy 1, 16, .inl c_other)), ((hm 45), .inl (cy 1, 600, .inl c_result)), ((hm 41), .inl (cy 1, 240, .inl c_round)), ((hm 11), .inl (cy 1, 16, .inl c_usage)), ((hm 13), .inl (cy 1, 16, .inl c_uses_48))]) := hD
  refine W.eq (g2 := F0 m 188 ls []) rfl ?_
  refine lv_aload_n (pc := 188) hx hb (zdt_at zt_X10_wrap_1 41 rfl) rfl (lv_at hl 0 rfl) ?_
  refine lv_iload_n (pc := 189) hx hb (zdt_at zt_X10_wrap_1 42 rfl) rfl (lv_at hl 2 rfl) ?_
  replace hf := zb_s hf
  obtain ⟨c_uses_49, hc_, hf⟩ := hf
  refine zcn2 (pc := 190) (rv := none) (va_runV (As := [.int p2]) (rest := []) ⟨hx, hb, hml, hown, hts⟩ (c_X10_use l D cy tt H.size h0 hm p2 c_uses_48 (0 : Int32) c_state c_test c_words c_ill c_before c_inRow c_first c_inWindow c_same c_made c_requests c_total c_secrets c_rounds c_high c_low c_keyHigh c_keyLow c_uses_49 hc_) (cwV 1 hts gX10_wrap_X10_use rfl rfl rfl (by decide +kernel) ⟨Nat.le_of_ble_eq_true rfl, Nat.le_of_ble_eq_true rfl⟩) ⟨zblind, va_recv hK hP (ci := 12) (q0 := 0) rfl rfl, zpre hE hS (hP.sub [0, 13] rfl) (hD.sub [0, 13] (by decide) rfl) (va_free hD hS hA [0, 13] rfl)⟩ rfl rfl hl.1 rfl (lv_room (Nat.le_of_ble_eq_true rfl)) (zdt_at zt_X10_wrap_1 43 rfl) ⟨Nat.zero_le _, Nat.zero_le _⟩) hS hP hD (va_free hD hS hA [0, 13] rfl) [0, 13] rfl (by decide) rfl ?_
  clear hP hD hS hc_
  intro H locs hP hD hS
  replace hP : va_P D vwCl ([(h0, .inr (12, zmo hm (0 : Int32) c_state c_test c_words c_ill c_before c_inRow c_first c_inWindow c_same c_made c_requests c_total c_secrets c_rounds c_high c_low c_keyHigh c_keyLow)), ((hm 43), .inl (cy 1, 16, .inl c_block)), ((hm 39), .inl (cy 1, 256, .inl c_box)), ((hm 6), .inl (cy 1, 512, .inl c_buffer)), ((hm 5), .inl (cy 1, 3, .inl c_counters)), ((hm 12), .inl (cy 1, 16, .inl c_holder)), ((hm 14), .inl (cy 1, 1024, .inl c_keys)), ((hm 9), .inl (cy 1, 16, .inl c_kind)), ((hm 10), .inl (cy 1, 16, .inl c_length)), ((hm 44), .inl (cy 1, 16, .inl c_other)), ((hm 45), .inl (cy 1, 600, .inl c_result)), ((hm 41), .inl (cy 1, 240, .inl c_round)), ((hm 11), .inl (cy 1, 16, .inl c_usage)), ((hm 13), .inl (cy 1, 16, .inl c_uses_49))]) H := hP
  replace hD : va_D A ([(h0, .inr (12, zmo hm (0 : Int32) c_state c_test c_words c_ill c_before c_inRow c_first c_inWindow c_same c_made c_requests c_total c_secrets c_rounds c_high c_low c_keyHigh c_keyLow)), ((hm 43), .inl (cy 1, 16, .inl c_block)), ((hm 39), .inl (cy 1, 256, .inl c_box)), ((hm 6), .inl (cy 1, 512, .inl c_buffer)), ((hm 5), .inl (cy 1, 3, .inl c_counters)), ((hm 12), .inl (cy 1, 16, .inl c_holder)), ((hm 14), .inl (cy 1, 1024, .inl c_keys)), ((hm 9), .inl (cy 1, 16, .inl c_kind)), ((hm 10), .inl (cy 1, 16, .inl c_length)), ((hm 44), .inl (cy 1, 16, .inl c_other)), ((hm 45), .inl (cy 1, 600, .inl c_result)), ((hm 41), .inl (cy 1, 240, .inl c_round)), ((hm 11), .inl (cy 1, 16, .inl c_usage)), ((hm 13), .inl (cy 1, 16, .inl c_uses_49))]) := hD
  refine W.eq (g2 := F0 m 193 ls []) rfl ?_
  refine lv_bipush (pc := 193) (v := (8 : Int32)) hx hb (zdt_at zt_X10_wrap_1 44 rfl) (by decide) ?_
  refine lv_aload_n (pc := 195) hx hb (zdt_at zt_X10_wrap_1 45 rfl) rfl (lv_at hl 0 rfl) ?_
  refine va_get (pc := 196) (D := D) (ci := 12) (v := .ref (hm 10)) (C := RX10) (T := TX10) (N := 52) hx hb hts hcX10 hown hK hP 0 rfl rfl 10 (by decide) hw2 (fun _ h9 => h9) rfl (zdt_at zt_X10_wrap_1 46 rfl) ?_
  refine lv_iload_n (pc := 199) hx hb (zdt_at zt_X10_wrap_1 47 rfl) rfl (lv_at hl 1 rfl) ?_
  replace hf := zk_s hf
  refine va_iald (pc := 200) hx hb hK hP 8 1 rfl rfl hf.1 (zdt_at zt_X10_wrap_1 48 rfl) ?_
  replace hf := hf.2
  refine lv_iadd (pc := 201) hx hb (zdt_at zt_X10_wrap_1 49 rfl) ?_
  refine lv_bipush (pc := 202) (v := (8 : Int32)) hx hb (zdt_at zt_X10_wrap_1 50 rfl) (by decide) ?_
  replace hf := zk_s hf
  refine lv_idiv (pc := 204) hx hb (zdt_at zt_X10_wrap_1 51 rfl) hf.1 ?_
  replace hf := hf.2
  refine lv_topi (fun x_50 e_ => ?_)
  replace hf := zn_s hf e_
  clear e_
  refine lv_istore_n (pc := 205) (lv' := [(3, .int x_50), (0, .ref h0), (1, .int p1), (2, .int p2)]) hx hb (zdt_at zt_X10_wrap_1 52 rfl) rfl hl (by decide) rfl ?_
  clear hl
  intro ls hl
  refine lv_iconst (pc := 206) (v := (0 : Int32)) hx hb (zdt_at zt_X10_wrap_1 53 rfl) (by decide) ?_
  refine lv_istore (pc := 207) (lv' := [(4, .int (0 : Int32)), (3, .int x_50), (0, .ref h0), (1, .int p1), (2, .int p2)]) hx hb (zdt_at zt_X10_wrap_1 54 rfl) hl (by decide) rfl ?_
  clear hl
  intro ls hl
  replace hf := zj_s hf
  obtain ⟨K_54, eK_54, hf⟩ := hf
  have kK_54 : ∀ (c_result_53 : Nat → Int32) (H : Heap) (locs : List Loc) (ls : Array Slot), va_P D vwCl ([(h0, .inr (12, zmo hm (0 : Int32) c_state c_test c_words c_ill c_before c_inRow c_first c_inWindow c_same c_made c_requests c_total c_secrets c_rounds c_high c_low c_keyHigh c_keyLow)), ((hm 43), .inl (cy 1, 16, .inl c_block)), ((hm 39), .inl (cy 1, 256, .inl c_box)), ((hm 6), .inl (cy 1, 512, .inl c_buffer)), ((hm 5), .inl (cy 1, 3, .inl c_counters)), ((hm 12), .inl (cy 1, 16, .inl c_holder)), ((hm 14), .inl (cy 1, 1024, .inl c_keys)), ((hm 9), .inl (cy 1, 16, .inl c_kind)), ((hm 10), .inl (cy 1, 16, .inl c_length)), ((hm 44), .inl (cy 1, 16, .inl c_other)), ((hm 45), .inl (cy 1, 600, .inl c_result_53)), ((hm 41), .inl (cy 1, 240, .inl c_round)), ((hm 11), .inl (cy 1, 16, .inl c_usage)), ((hm 13), .inl (cy 1, 16, .inl c_uses_49))]) H → va_D A ([(h0, .inr (12, zmo hm (0 : Int32) c_state c_test c_words c_ill c_before c_inRow c_first c_inWindow c_same c_made c_requests c_total c_secrets c_rounds c_high c_low c_keyHigh c_keyLow)), ((hm 43), .inl (cy 1, 16, .inl c_block)), ((hm 39), .inl (cy 1, 256, .inl c_box)), ((hm 6), .inl (cy 1, 512, .inl c_buffer)), ((hm 5), .inl (cy 1, 3, .inl c_counters)), ((hm 12), .inl (cy 1, 16, .inl c_holder)), ((hm 14), .inl (cy 1, 1024, .inl c_keys)), ((hm 9), .inl (cy 1, 16, .inl c_kind)), ((hm 10), .inl (cy 1, 16, .inl c_length)), ((hm 44), .inl (cy 1, 16, .inl c_other)), ((hm 45), .inl (cy 1, 600, .inl c_result_53)), ((hm 41), .inl (cy 1, 240, .inl c_round)), ((hm 11), .inl (cy 1, 16, .inl c_usage)), ((hm 13), .inl (cy 1, 16, .inl c_uses_49))]) → va_S A s.heap H locs → lv_has ls 7 [(0, .ref h0), (1, .int p1), (2, .int p2), (3, .int x_50)] → K_54 c_result_53 = some (r_, c_rounds', c_thrown', c_block', c_buffer', c_counters', c_other', c_result', c_round', c_uses') → GW H locs (F0 m 232 ls []) := by
    clear hf hl hP hD hS
    intro c_result_53 H locs ls hP hD hS hl hf
    rw [eK_54] at hf
    clear eK_54
    refine hFr _ _ _ ?_
    refine lv_iconst (pc := 232) (v := (0 : Int32)) hx hb (zdt_at zt_X10_wrap_2 1 rfl) (by decide) ?_
    refine lv_istore (pc := 233) (lv' := [(4, .int (0 : Int32)), (0, .ref h0), (1, .int p1), (2, .int p2), (3, .int x_50)]) hx hb (zdt_at zt_X10_wrap_2 2 rfl) hl (by decide) rfl ?_
    clear hl
    intro ls hl
    replace hf := zj_s hf
    obtain ⟨K_58, eK_58, hf⟩ := hf
    have kK_58 : ∀ (c_result_57 : Nat → Int32) (H : Heap) (locs : List Loc) (ls : Array Slot), va_P D vwCl ([(h0, .inr (12, zmo hm (0 : Int32) c_state c_test c_words c_ill c_before c_inRow c_first c_inWindow c_same c_made c_requests c_total c_secrets c_rounds c_high c_low c_keyHigh c_keyLow)), ((hm 43), .inl (cy 1, 16, .inl c_block)), ((hm 39), .inl (cy 1, 256, .inl c_box)), ((hm 6), .inl (cy 1, 512, .inl c_buffer)), ((hm 5), .inl (cy 1, 3, .inl c_counters)), ((hm 12), .inl (cy 1, 16, .inl c_holder)), ((hm 14), .inl (cy 1, 1024, .inl c_keys)), ((hm 9), .inl (cy 1, 16, .inl c_kind)), ((hm 10), .inl (cy 1, 16, .inl c_length)), ((hm 44), .inl (cy 1, 16, .inl c_other)), ((hm 45), .inl (cy 1, 600, .inl c_result_57)), ((hm 41), .inl (cy 1, 240, .inl c_round)), ((hm 11), .inl (cy 1, 16, .inl c_usage)), ((hm 13), .inl (cy 1, 16, .inl c_uses_49))]) H → va_D A ([(h0, .inr (12, zmo hm (0 : Int32) c_state c_test c_words c_ill c_before c_inRow c_first c_inWindow c_same c_made c_requests c_total c_secrets c_rounds c_high c_low c_keyHigh c_keyLow)), ((hm 43), .inl (cy 1, 16, .inl c_block)), ((hm 39), .inl (cy 1, 256, .inl c_box)), ((hm 6), .inl (cy 1, 512, .inl c_buffer)), ((hm 5), .inl (cy 1, 3, .inl c_counters)), ((hm 12), .inl (cy 1, 16, .inl c_holder)), ((hm 14), .inl (cy 1, 1024, .inl c_keys)), ((hm 9), .inl (cy 1, 16, .inl c_kind)), ((hm 10), .inl (cy 1, 16, .inl c_length)), ((hm 44), .inl (cy 1, 16, .inl c_other)), ((hm 45), .inl (cy 1, 600, .inl c_result_57)), ((hm 41), .inl (cy 1, 240, .inl c_round)), ((hm 11), .inl (cy 1, 16, .inl c_usage)), ((hm 13), .inl (cy 1, 16, .inl c_uses_49))]) → va_S A s.heap H locs → lv_has ls 7 [(0, .ref h0), (1, .int p1), (2, .int p2), (3, .int x_50)] → K_58 c_result_57 = some (r_, c_rounds', c_thrown', c_block', c_buffer', c_counters', c_other', c_result', c_round', c_uses') → GW H locs (F0 m 303 ls []) := by
      clear hf hl hP hD hS
      intro c_result_57 H locs ls hP hD hS hl hf
      rw [eK_58] at hf
      clear eK_58
      refine hFr _ _ _ ?_
      refine lv_iconst (pc := 303) (v := (0 : Int32)) hx hb (zdt_at zt_X10_wrap_2 38 rfl) (by decide) ?_
      refine lv_istore (pc := 304) (lv' := [(4, .int (0 : Int32)), (0, .ref h0), (1, .int p1), (2, .int p2), (3, .int x_50)]) hx hb (zdt_at zt_X10_wrap_2 39 rfl) hl (by decide) rfl ?_
      clear hl
      intro ls hl
      replace hf := zj_s hf
      obtain ⟨K_62, eK_62, hf⟩ := hf
      have kK_62 : ∀ (c_result_61 : Nat → Int32) (H : Heap) (locs : List Loc) (ls : Array Slot), va_P D vwCl ([(h0, .inr (12, zmo hm (0 : Int32) c_state c_test c_words c_ill c_before c_inRow c_first c_inWindow c_same c_made c_requests c_total c_secrets c_rounds c_high c_low c_keyHigh c_keyLow)), ((hm 43), .inl (cy 1, 16, .inl c_block)), ((hm 39), .inl (cy 1, 256, .inl c_box)), ((hm 6), .inl (cy 1, 512, .inl c_buffer)), ((hm 5), .inl (cy 1, 3, .inl c_counters)), ((hm 12), .inl (cy 1, 16, .inl c_holder)), ((hm 14), .inl (cy 1, 1024, .inl c_keys)), ((hm 9), .inl (cy 1, 16, .inl c_kind)), ((hm 10), .inl (cy 1, 16, .inl c_length)), ((hm 44), .inl (cy 1, 16, .inl c_other)), ((hm 45), .inl (cy 1, 600, .inl c_result_61)), ((hm 41), .inl (cy 1, 240, .inl c_round)), ((hm 11), .inl (cy 1, 16, .inl c_usage)), ((hm 13), .inl (cy 1, 16, .inl c_uses_49))]) H → va_D A ([(h0, .inr (12, zmo hm (0 : Int32) c_state c_test c_words c_ill c_before c_inRow c_first c_inWindow c_same c_made c_requests c_total c_secrets c_rounds c_high c_low c_keyHigh c_keyLow)), ((hm 43), .inl (cy 1, 16, .inl c_block)), ((hm 39), .inl (cy 1, 256, .inl c_box)), ((hm 6), .inl (cy 1, 512, .inl c_buffer)), ((hm 5), .inl (cy 1, 3, .inl c_counters)), ((hm 12), .inl (cy 1, 16, .inl c_holder)), ((hm 14), .inl (cy 1, 1024, .inl c_keys)), ((hm 9), .inl (cy 1, 16, .inl c_kind)), ((hm 10), .inl (cy 1, 16, .inl c_length)), ((hm 44), .inl (cy 1, 16, .inl c_other)), ((hm 45), .inl (cy 1, 600, .inl c_result_61)), ((hm 41), .inl (cy 1, 240, .inl c_round)), ((hm 11), .inl (cy 1, 16, .inl c_usage)), ((hm 13), .inl (cy 1, 16, .inl c_uses_49))]) → va_S A s.heap H locs → lv_has ls 7 [(0, .ref h0), (2, .int p2), (3, .int x_50)] → K_62 c_result_61 = some (r_, c_rounds', c_thrown', c_block', c_buffer', c_counters', c_other', c_result', c_round', c_uses') → GW H locs (F0 m 345 ls []) := by
        clear hf hl hP hD hS
        intro c_result_61 H locs ls hP hD hS hl hf
        rw [eK_62] at hf
        clear eK_62
        refine hFr _ _ _ ?_
        refine lv_aload_n (pc := 345) hx hb (zdt_at zt_X10_wrap_2 62 rfl) rfl (lv_at hl 0 rfl) ?_
        refine lv_iload_n (pc := 346) hx hb (zdt_at zt_X10_wrap_2 63 rfl) rfl (lv_at hl 1 rfl) ?_
        replace hf := zb_s hf
        obtain ⟨⟨c_rounds_63, c_round_64⟩, hc_, hf⟩ := hf
        refine zcn2 (pc := 347) (rv := none) (va_runV (As := [.int p2]) (rest := []) ⟨hx, hb, hml, hown, hts⟩ (c_X10_schedule l D cy tt H.size h0 hm p2 c_rounds c_box c_keys c_length c_round (0 : Int32) c_state c_test c_words c_ill c_before c_inRow c_first c_inWindow c_same c_made c_requests c_total c_secrets c_high c_low c_keyHigh c_keyLow c_rounds_63 c_round_64 hc_) (cwV 1 hts gX10_wrap_X10_schedule rfl rfl rfl (by decide +kernel) ⟨Nat.le_of_ble_eq_true rfl, Nat.le_of_ble_eq_true rfl⟩) ⟨zblind, va_recv hK hP (ci := 12) (q0 := 0) rfl rfl, zpre hE hS (hP.sub [0, 2, 6, 8, 11] rfl) (hD.sub [0, 2, 6, 8, 11] (by decide) rfl) (va_free hD hS hA [0, 2, 6, 8, 11] rfl)⟩ rfl rfl hl.1 rfl (lv_room (Nat.le_of_ble_eq_true rfl)) (zdt_at zt_X10_wrap_3 0 rfl) ⟨Nat.zero_le _, Nat.zero_le _⟩) hS hP hD (va_free hD hS hA [0, 2, 6, 8, 11] rfl) [0, 2, 6, 8, 11] rfl (by decide) rfl ?_
        clear hP hD hS hc_
        intro H locs hP hD hS
        replace hP : va_P D vwCl ([(h0, .inr (12, zmo hm (0 : Int32) c_state c_test c_words c_ill c_before c_inRow c_first c_inWindow c_same c_made c_requests c_total c_secrets c_rounds_63 c_high c_low c_keyHigh c_keyLow)), ((hm 43), .inl (cy 1, 16, .inl c_block)), ((hm 39), .inl (cy 1, 256, .inl c_box)), ((hm 6), .inl (cy 1, 512, .inl c_buffer)), ((hm 5), .inl (cy 1, 3, .inl c_counters)), ((hm 12), .inl (cy 1, 16, .inl c_holder)), ((hm 14), .inl (cy 1, 1024, .inl c_keys)), ((hm 9), .inl (cy 1, 16, .inl c_kind)), ((hm 10), .inl (cy 1, 16, .inl c_length)), ((hm 44), .inl (cy 1, 16, .inl c_other)), ((hm 45), .inl (cy 1, 600, .inl c_result_61)), ((hm 41), .inl (cy 1, 240, .inl c_round_64)), ((hm 11), .inl (cy 1, 16, .inl c_usage)), ((hm 13), .inl (cy 1, 16, .inl c_uses_49))]) H := hP
        replace hD : va_D A ([(h0, .inr (12, zmo hm (0 : Int32) c_state c_test c_words c_ill c_before c_inRow c_first c_inWindow c_same c_made c_requests c_total c_secrets c_rounds_63 c_high c_low c_keyHigh c_keyLow)), ((hm 43), .inl (cy 1, 16, .inl c_block)), ((hm 39), .inl (cy 1, 256, .inl c_box)), ((hm 6), .inl (cy 1, 512, .inl c_buffer)), ((hm 5), .inl (cy 1, 3, .inl c_counters)), ((hm 12), .inl (cy 1, 16, .inl c_holder)), ((hm 14), .inl (cy 1, 1024, .inl c_keys)), ((hm 9), .inl (cy 1, 16, .inl c_kind)), ((hm 10), .inl (cy 1, 16, .inl c_length)), ((hm 44), .inl (cy 1, 16, .inl c_other)), ((hm 45), .inl (cy 1, 600, .inl c_result_61)), ((hm 41), .inl (cy 1, 240, .inl c_round_64)), ((hm 11), .inl (cy 1, 16, .inl c_usage)), ((hm 13), .inl (cy 1, 16, .inl c_uses_49))]) := hD
        refine W.eq (g2 := F0 m 350 ls []) rfl ?_
        refine lv_iconst (pc := 350) (v := (1 : Int32)) hx hb (zdt_at zt_X10_wrap_3 1 rfl) (by decide) ?_
        refine lv_istore (pc := 351) (lv' := [(4, .int (1 : Int32)), (0, .ref h0), (2, .int p2), (3, .int x_50)]) hx hb (zdt_at zt_X10_wrap_3 2 rfl) hl (by decide) rfl ?_
        clear hl
        intro ls hl
        replace hf := zj_s hf
        obtain ⟨K_72, eK_72, hf⟩ := hf
        have kK_72 : ∀ (c_block_69 : Nat → Int32) (c_other_70 : Nat → Int32) (c_result_71 : Nat → Int32) (H : Heap) (locs : List Loc) (ls : Array Slot), va_P D vwCl ([(h0, .inr (12, zmo hm (0 : Int32) c_state c_test c_words c_ill c_before c_inRow c_first c_inWindow c_same c_made c_requests c_total c_secrets c_rounds_63 c_high c_low c_keyHigh c_keyLow)), ((hm 43), .inl (cy 1, 16, .inl c_block_69)), ((hm 39), .inl (cy 1, 256, .inl c_box)), ((hm 6), .inl (cy 1, 512, .inl c_buffer)), ((hm 5), .inl (cy 1, 3, .inl c_counters)), ((hm 12), .inl (cy 1, 16, .inl c_holder)), ((hm 14), .inl (cy 1, 1024, .inl c_keys)), ((hm 9), .inl (cy 1, 16, .inl c_kind)), ((hm 10), .inl (cy 1, 16, .inl c_length)), ((hm 44), .inl (cy 1, 16, .inl c_other_70)), ((hm 45), .inl (cy 1, 600, .inl c_result_71)), ((hm 41), .inl (cy 1, 240, .inl c_round_64)), ((hm 11), .inl (cy 1, 16, .inl c_usage)), ((hm 13), .inl (cy 1, 16, .inl c_uses_49))]) H → va_D A ([(h0, .inr (12, zmo hm (0 : Int32) c_state c_test c_words c_ill c_before c_inRow c_first c_inWindow c_same c_made c_requests c_total c_secrets c_rounds_63 c_high c_low c_keyHigh c_keyLow)), ((hm 43), .inl (cy 1, 16, .inl c_block_69)), ((hm 39), .inl (cy 1, 256, .inl c_box)), ((hm 6), .inl (cy 1, 512, .inl c_buffer)), ((hm 5), .inl (cy 1, 3, .inl c_counters)), ((hm 12), .inl (cy 1, 16, .inl c_holder)), ((hm 14), .inl (cy 1, 1024, .inl c_keys)), ((hm 9), .inl (cy 1, 16, .inl c_kind)), ((hm 10), .inl (cy 1, 16, .inl c_length)), ((hm 44), .inl (cy 1, 16, .inl c_other_70)), ((hm 45), .inl (cy 1, 600, .inl c_result_71)), ((hm 41), .inl (cy 1, 240, .inl c_round_64)), ((hm 11), .inl (cy 1, 16, .inl c_usage)), ((hm 13), .inl (cy 1, 16, .inl c_uses_49))]) → va_S A s.heap H locs → lv_has ls 7 [(0, .ref h0), (3, .int x_50)] → K_72 c_block_69 c_other_70 c_result_71 = some (r_, c_rounds', c_thrown', c_block', c_buffer', c_counters', c_other', c_result', c_round', c_uses') → GW H locs (F0 m 503 ls []) := by
          clear hf hl hP hD hS
          intro c_block_69 c_other_70 c_result_71 H locs ls hP hD hS hl hf
          rw [eK_72] at hf
          clear eK_72
          refine hFr _ _ _ ?_
          refine lv_iconst (pc := 503) (v := (0 : Int32)) hx hb (zdt_at zt_X10_wrap_4 19 rfl) (by decide) ?_
          refine lv_istore (pc := 504) (lv' := [(4, .int (0 : Int32)), (0, .ref h0), (3, .int x_50)]) hx hb (zdt_at zt_X10_wrap_4 20 rfl) hl (by decide) rfl ?_
          clear hl
          intro ls hl
          replace hf := zj_s hf
          obtain ⟨K_76, eK_76, hf⟩ := hf
          have kK_76 : ∀ (c_buffer_75 : Nat → Int32) (H : Heap) (locs : List Loc) (ls : Array Slot), va_P D vwCl ([(h0, .inr (12, zmo hm (0 : Int32) c_state c_test c_words c_ill c_before c_inRow c_first c_inWindow c_same c_made c_requests c_total c_secrets c_rounds_63 c_high c_low c_keyHigh c_keyLow)), ((hm 43), .inl (cy 1, 16, .inl c_block_69)), ((hm 39), .inl (cy 1, 256, .inl c_box)), ((hm 6), .inl (cy 1, 512, .inl c_buffer_75)), ((hm 5), .inl (cy 1, 3, .inl c_counters)), ((hm 12), .inl (cy 1, 16, .inl c_holder)), ((hm 14), .inl (cy 1, 1024, .inl c_keys)), ((hm 9), .inl (cy 1, 16, .inl c_kind)), ((hm 10), .inl (cy 1, 16, .inl c_length)), ((hm 44), .inl (cy 1, 16, .inl c_other_70)), ((hm 45), .inl (cy 1, 600, .inl c_result_71)), ((hm 41), .inl (cy 1, 240, .inl c_round_64)), ((hm 11), .inl (cy 1, 16, .inl c_usage)), ((hm 13), .inl (cy 1, 16, .inl c_uses_49))]) H → va_D A ([(h0, .inr (12, zmo hm (0 : Int32) c_state c_test c_words c_ill c_before c_inRow c_first c_inWindow c_same c_made c_requests c_total c_secrets c_rounds_63 c_high c_low c_keyHigh c_keyLow)), ((hm 43), .inl (cy 1, 16, .inl c_block_69)), ((hm 39), .inl (cy 1, 256, .inl c_box)), ((hm 6), .inl (cy 1, 512, .inl c_buffer_75)), ((hm 5), .inl (cy 1, 3, .inl c_counters)), ((hm 12), .inl (cy 1, 16, .inl c_holder)), ((hm 14), .inl (cy 1, 1024, .inl c_keys)), ((hm 9), .inl (cy 1, 16, .inl c_kind)), ((hm 10), .inl (cy 1, 16, .inl c_length)), ((hm 44), .inl (cy 1, 16, .inl c_other_70)), ((hm 45), .inl (cy 1, 600, .inl c_result_71)), ((hm 41), .inl (cy 1, 240, .inl c_round_64)), ((hm 11), .inl (cy 1, 16, .inl c_usage)), ((hm 13), .inl (cy 1, 16, .inl c_uses_49))]) → va_S A s.heap H locs → lv_has ls 7 [(0, .ref h0), (3, .int x_50)] → K_76 c_buffer_75 = some (r_, c_rounds', c_thrown', c_block', c_buffer', c_counters', c_other', c_result', c_round', c_uses') → GW H locs (F0 m 538 ls []) := by
            clear hf hl hP hD hS
            intro c_buffer_75 H locs ls hP hD hS hl hf
            rw [eK_76] at hf
            clear eK_76
            refine hFr _ _ _ ?_
            refine lv_aload_n (pc := 538) hx hb (zdt_at zt_X10_wrap_4 38 rfl) rfl (lv_at hl 0 rfl) ?_
            refine lv_bipush (pc := 539) (v := (8 : Int32)) hx hb (zdt_at zt_X10_wrap_4 39 rfl) (by decide) ?_
            refine lv_bipush (pc := 541) (v := (8 : Int32)) hx hb (zdt_at zt_X10_wrap_4 40 rfl) (by decide) ?_
            refine lv_iload_n (pc := 543) hx hb (zdt_at zt_X10_wrap_4 41 rfl) rfl (lv_at hl 1 rfl) ?_
            refine lv_imul (pc := 544) hx hb (zdt_at zt_X10_wrap_4 42 rfl) ?_
            refine lv_iadd (pc := 545) hx hb (zdt_at zt_X10_wrap_4 43 rfl) ?_
            replace hf := zb_s hf
            obtain ⟨⟨r_77, c_counters_78⟩, hc_, hf⟩ := hf
            refine zcn2 (pc := 546) (rv := (some (.int r_77))) (va_runV (As := [.int ((8 : Int32) + ((8 : Int32) * x_50))]) (rest := []) ⟨hx, hb, hml, hown, hts⟩ (c_X10_answer l D cy tt H.size h0 hm ((8 : Int32) + ((8 : Int32) * x_50)) c_counters (0 : Int32) c_state c_test c_words c_ill c_before c_inRow c_first c_inWindow c_same c_made c_requests c_total c_secrets c_rounds_63 c_high c_low c_keyHigh c_keyLow r_77 c_counters_78 hc_) (cwV 1 hts gX10_wrap_X10_answer rfl rfl rfl (by decide +kernel) ⟨Nat.le_of_ble_eq_true rfl, Nat.le_of_ble_eq_true rfl⟩) ⟨zblind, va_recv hK hP (ci := 12) (q0 := 0) rfl rfl, zpre hE hS (hP.sub [0, 4] rfl) (hD.sub [0, 4] (by decide) rfl) (va_free hD hS hA [0, 4] rfl)⟩ rfl rfl hl.1 rfl (lv_room (Nat.le_of_ble_eq_true rfl)) (zdt_at zt_X10_wrap_4 44 rfl) ⟨Nat.zero_le _, Nat.zero_le _⟩) hS hP hD (va_free hD hS hA [0, 4] rfl) [0, 4] rfl (by decide) rfl ?_
            clear hP hD hS hc_
            intro H locs hP hD hS
            replace hP : va_P D vwCl ([(h0, .inr (12, zmo hm (0 : Int32) c_state c_test c_words c_ill c_before c_inRow c_first c_inWindow c_same c_made c_requests c_total c_secrets c_rounds_63 c_high c_low c_keyHigh c_keyLow)), ((hm 43), .inl (cy 1, 16, .inl c_block_69)), ((hm 39), .inl (cy 1, 256, .inl c_box)), ((hm 6), .inl (cy 1, 512, .inl c_buffer_75)), ((hm 5), .inl (cy 1, 3, .inl c_counters_78)), ((hm 12), .inl (cy 1, 16, .inl c_holder)), ((hm 14), .inl (cy 1, 1024, .inl c_keys)), ((hm 9), .inl (cy 1, 16, .inl c_kind)), ((hm 10), .inl (cy 1, 16, .inl c_length)), ((hm 44), .inl (cy 1, 16, .inl c_other_70)), ((hm 45), .inl (cy 1, 600, .inl c_result_71)), ((hm 41), .inl (cy 1, 240, .inl c_round_64)), ((hm 11), .inl (cy 1, 16, .inl c_usage)), ((hm 13), .inl (cy 1, 16, .inl c_uses_49))]) H := hP
            replace hD : va_D A ([(h0, .inr (12, zmo hm (0 : Int32) c_state c_test c_words c_ill c_before c_inRow c_first c_inWindow c_same c_made c_requests c_total c_secrets c_rounds_63 c_high c_low c_keyHigh c_keyLow)), ((hm 43), .inl (cy 1, 16, .inl c_block_69)), ((hm 39), .inl (cy 1, 256, .inl c_box)), ((hm 6), .inl (cy 1, 512, .inl c_buffer_75)), ((hm 5), .inl (cy 1, 3, .inl c_counters_78)), ((hm 12), .inl (cy 1, 16, .inl c_holder)), ((hm 14), .inl (cy 1, 1024, .inl c_keys)), ((hm 9), .inl (cy 1, 16, .inl c_kind)), ((hm 10), .inl (cy 1, 16, .inl c_length)), ((hm 44), .inl (cy 1, 16, .inl c_other_70)), ((hm 45), .inl (cy 1, 600, .inl c_result_71)), ((hm 41), .inl (cy 1, 240, .inl c_round_64)), ((hm 11), .inl (cy 1, 16, .inl c_usage)), ((hm 13), .inl (cy 1, 16, .inl c_uses_49))]) := hD
            refine W.eq (g2 := F0 m 549 ls [.int r_77]) rfl ?_
            cases hf
            exact W.iret (pc := 549) hx hb hr (fun t ht hW => ⟨rfl, ⟨by rw [ht]; exact hP, hD⟩, hS.F ht⟩) hS.2.2 (zdt_at zt_X10_wrap_4 45 rfl)
          clear eK_76
          refine hTo _ _ _ (zl_go (fun z => match z with | (i_73, c_buffer_74) => ∀ (H : Heap) (locs : List Loc) (ls : Array Slot), va_P D vwCl ([(h0, .inr (12, zmo hm (0 : Int32) c_state c_test c_words c_ill c_before c_inRow c_first c_inWindow c_same c_made c_requests c_total c_secrets c_rounds_63 c_high c_low c_keyHigh c_keyLow)), ((hm 43), .inl (cy 1, 16, .inl c_block_69)), ((hm 39), .inl (cy 1, 256, .inl c_box)), ((hm 6), .inl (cy 1, 512, .inl c_buffer_74)), ((hm 5), .inl (cy 1, 3, .inl c_counters)), ((hm 12), .inl (cy 1, 16, .inl c_holder)), ((hm 14), .inl (cy 1, 1024, .inl c_keys)), ((hm 9), .inl (cy 1, 16, .inl c_kind)), ((hm 10), .inl (cy 1, 16, .inl c_length)), ((hm 44), .inl (cy 1, 16, .inl c_other_70)), ((hm 45), .inl (cy 1, 600, .inl c_result_71)), ((hm 41), .inl (cy 1, 240, .inl c_round_64)), ((hm 11), .inl (cy 1, 16, .inl c_usage)), ((hm 13), .inl (cy 1, 16, .inl c_uses_49))]) H → va_D A ([(h0, .inr (12, zmo hm (0 : Int32) c_state c_test c_words c_ill c_before c_inRow c_first c_inWindow c_same c_made c_requests c_total c_secrets c_rounds_63 c_high c_low c_keyHigh c_keyLow)), ((hm 43), .inl (cy 1, 16, .inl c_block_69)), ((hm 39), .inl (cy 1, 256, .inl c_box)), ((hm 6), .inl (cy 1, 512, .inl c_buffer_74)), ((hm 5), .inl (cy 1, 3, .inl c_counters)), ((hm 12), .inl (cy 1, 16, .inl c_holder)), ((hm 14), .inl (cy 1, 1024, .inl c_keys)), ((hm 9), .inl (cy 1, 16, .inl c_kind)), ((hm 10), .inl (cy 1, 16, .inl c_length)), ((hm 44), .inl (cy 1, 16, .inl c_other_70)), ((hm 45), .inl (cy 1, 600, .inl c_result_71)), ((hm 41), .inl (cy 1, 240, .inl c_round_64)), ((hm 11), .inl (cy 1, 16, .inl c_usage)), ((hm 13), .inl (cy 1, 16, .inl c_uses_49))]) → va_S A s.heap H locs → lv_has ls 7 [(0, .ref h0), (3, .int x_50), (4, .int i_73)] → GW H locs (F0 m 506 ls [])) hf ?_ H locs ls hP hD hS (lv_sub hl [1, 2, 0] rfl))
          clear hf hl hP hD hS
          intro self_79 ihself_79 z hf
          obtain ⟨i_73, c_buffer_74⟩ := z
          intro H locs ls hP hD hS hl
          refine hFr _ _ _ ?_
          unfold b_X10_wrap_506 at hf
          refine lv_iload (pc := 506) hx hb (zdt_at zt_X10_wrap_4 21 rfl) (lv_at hl 2 rfl) ?_
          refine lv_bipush (pc := 508) (v := (8 : Int32)) hx hb (zdt_at zt_X10_wrap_4 22 rfl) (by decide) ?_
          refine lv_bipush (pc := 510) (v := (8 : Int32)) hx hb (zdt_at zt_X10_wrap_4 23 rfl) (by decide) ?_
          refine lv_iload_n (pc := 512) hx hb (zdt_at zt_X10_wrap_4 24 rfl) rfl (lv_at hl 1 rfl) ?_
          refine lv_imul (pc := 513) hx hb (zdt_at zt_X10_wrap_4 25 rfl) ?_
          refine lv_iadd (pc := 514) hx hb (zdt_at zt_X10_wrap_4 26 rfl) ?_
          refine lv_icmp_ge (pc := 515) (tgt := 538) hx hb (zdt_at zt_X10_wrap_4 27 rfl) (by decide) (fun cn_ => ?t_80) (fun cn_ => ?f_81)
          case t_80 =>
            replace hf := zt_s cn_ hf
            clear cn_
            exact hTo _ _ _ (kK_76 _ H locs ls hP hD hS (lv_sub hl [0, 1] rfl) hf)
          replace hf := ze_s cn_ hf
          clear cn_
          refine lv_aload_n (pc := 518) hx hb (zdt_at zt_X10_wrap_4 28 rfl) rfl (lv_at hl 0 rfl) ?_
          refine va_get (pc := 519) (D := D) (ci := 12) (v := .ref (hm 6)) (C := RX10) (T := TX10) (N := 52) hx hb hts hcX10 hown hK hP 0 rfl rfl 6 (by decide) hw5 (fun _ h9 => h9) rfl (zdt_at zt_X10_wrap_4 29 rfl) ?_
          refine lv_iload (pc := 522) hx hb (zdt_at zt_X10_wrap_4 30 rfl) (lv_at hl 2 rfl) ?_
          refine lv_aload_n (pc := 524) hx hb (zdt_at zt_X10_wrap_4 31 rfl) rfl (lv_at hl 0 rfl) ?_
          refine va_get (pc := 525) (D := D) (ci := 12) (v := .ref (hm 45)) (C := RX10) (T := TX10) (N := 52) hx hb hts hcX10 hown hK hP 0 rfl rfl 45 (by decide) hw6 (fun _ h9 => h9) rfl (zdt_at zt_X10_wrap_4 32 rfl) ?_
          refine lv_iload (pc := 528) hx hb (zdt_at zt_X10_wrap_4 33 rfl) (lv_at hl 2 rfl) ?_
          replace hf := zk_s hf
          refine va_iald (pc := 530) hx hb hK hP 10 1 rfl rfl hf.1 (zdt_at zt_X10_wrap_4 34 rfl) ?_
          replace hf := hf.2
          replace hf := zk_s hf
          refine va_iast (pc := 531) hx hb hK hP hD hS 3 1 rfl rfl hf.1 (zdt_at zt_X10_wrap_4 35 rfl) ?_
          replace hf := hf.2
          clear hP hD hS
          intro H locs hP hD hS
          obtain ⟨c_buffer_82, e_⟩ : ∃ q : Nat → Int32, q = (upd c_buffer_74 i_73.toNatClampNeg (c_result_71 i_73.toNatClampNeg)) := ⟨_, rfl⟩
          replace hf := zn_s hf e_
          replace hP : va_P D vwCl ([(h0, .inr (12, zmo hm (0 : Int32) c_state c_test c_words c_ill c_before c_inRow c_first c_inWindow c_same c_made c_requests c_total c_secrets c_rounds_63 c_high c_low c_keyHigh c_keyLow)), ((hm 43), .inl (cy 1, 16, .inl c_block_69)), ((hm 39), .inl (cy 1, 256, .inl c_box)), ((hm 6), .inl (cy 1, 512, .inl c_buffer_82)), ((hm 5), .inl (cy 1, 3, .inl c_counters)), ((hm 12), .inl (cy 1, 16, .inl c_holder)), ((hm 14), .inl (cy 1, 1024, .inl c_keys)), ((hm 9), .inl (cy 1, 16, .inl c_kind)), ((hm 10), .inl (cy 1, 16, .inl c_length)), ((hm 44), .inl (cy 1, 16, .inl c_other_70)), ((hm 45), .inl (cy 1, 600, .inl c_result_71)), ((hm 41), .inl (cy 1, 240, .inl c_round_64)), ((hm 11), .inl (cy 1, 16, .inl c_usage)), ((hm 13), .inl (cy 1, 16, .inl c_uses_49))]) H := by rw [e_]; exact hP
          replace hD : va_D A ([(h0, .inr (12, zmo hm (0 : Int32) c_state c_test c_words c_ill c_before c_inRow c_first c_inWindow c_same c_made c_requests c_total c_secrets c_rounds_63 c_high c_low c_keyHigh c_keyLow)), ((hm 43), .inl (cy 1, 16, .inl c_block_69)), ((hm 39), .inl (cy 1, 256, .inl c_box)), ((hm 6), .inl (cy 1, 512, .inl c_buffer_82)), ((hm 5), .inl (cy 1, 3, .inl c_counters)), ((hm 12), .inl (cy 1, 16, .inl c_holder)), ((hm 14), .inl (cy 1, 1024, .inl c_keys)), ((hm 9), .inl (cy 1, 16, .inl c_kind)), ((hm 10), .inl (cy 1, 16, .inl c_length)), ((hm 44), .inl (cy 1, 16, .inl c_other_70)), ((hm 45), .inl (cy 1, 600, .inl c_result_71)), ((hm 41), .inl (cy 1, 240, .inl c_round_64)), ((hm 11), .inl (cy 1, 16, .inl c_usage)), ((hm 13), .inl (cy 1, 16, .inl c_uses_49))]) := by rw [e_]; exact hD
          clear e_
          refine lv_iinc (pc := 532) (v := (i_73 + (1 : Int32))) (lv' := [(4, .int (i_73 + (1 : Int32))), (0, .ref h0), (3, .int x_50)]) hx hb (zdt_at zt_X10_wrap_4 36 rfl) hl (k := 2) rfl rfl (by decide) rfl ?_
          clear hl
          intro ls hl
          refine lv_goto (pc := 535) (tgt := 506) hx hb (zdt_at zt_X10_wrap_4 37 rfl) (by decide) ?_
          exact hTo _ _ _ (ihself_79 _ hf H locs ls hP hD hS (lv_sub hl [1, 2, 0] rfl))
        clear eK_72
        refine hTo _ _ _ (zl_go (fun z => match z with | (i_65, c_block_66, c_other_67, c_result_68) => ∀ (H : Heap) (locs : List Loc) (ls : Array Slot), va_P D vwCl ([(h0, .inr (12, zmo hm (0 : Int32) c_state c_test c_words c_ill c_before c_inRow c_first c_inWindow c_same c_made c_requests c_total c_secrets c_rounds_63 c_high c_low c_keyHigh c_keyLow)), ((hm 43), .inl (cy 1, 16, .inl c_block_66)), ((hm 39), .inl (cy 1, 256, .inl c_box)), ((hm 6), .inl (cy 1, 512, .inl c_buffer)), ((hm 5), .inl (cy 1, 3, .inl c_counters)), ((hm 12), .inl (cy 1, 16, .inl c_holder)), ((hm 14), .inl (cy 1, 1024, .inl c_keys)), ((hm 9), .inl (cy 1, 16, .inl c_kind)), ((hm 10), .inl (cy 1, 16, .inl c_length)), ((hm 44), .inl (cy 1, 16, .inl c_other_67)), ((hm 45), .inl (cy 1, 600, .inl c_result_68)), ((hm 41), .inl (cy 1, 240, .inl c_round_64)), ((hm 11), .inl (cy 1, 16, .inl c_usage)), ((hm 13), .inl (cy 1, 16, .inl c_uses_49))]) H → va_D A ([(h0, .inr (12, zmo hm (0 : Int32) c_state c_test c_words c_ill c_before c_inRow c_first c_inWindow c_same c_made c_requests c_total c_secrets c_rounds_63 c_high c_low c_keyHigh c_keyLow)), ((hm 43), .inl (cy 1, 16, .inl c_block_66)), ((hm 39), .inl (cy 1, 256, .inl c_box)), ((hm 6), .inl (cy 1, 512, .inl c_buffer)), ((hm 5), .inl (cy 1, 3, .inl c_counters)), ((hm 12), .inl (cy 1, 16, .inl c_holder)), ((hm 14), .inl (cy 1, 1024, .inl c_keys)), ((hm 9), .inl (cy 1, 16, .inl c_kind)), ((hm 10), .inl (cy 1, 16, .inl c_length)), ((hm 44), .inl (cy 1, 16, .inl c_other_67)), ((hm 45), .inl (cy 1, 600, .inl c_result_68)), ((hm 41), .inl (cy 1, 240, .inl c_round_64)), ((hm 11), .inl (cy 1, 16, .inl c_usage)), ((hm 13), .inl (cy 1, 16, .inl c_uses_49))]) → va_S A s.heap H locs → lv_has ls 7 [(0, .ref h0), (3, .int x_50), (4, .int i_65)] → GW H locs (F0 m 353 ls [])) hf ?_ H locs ls hP hD hS (lv_sub hl [1, 3, 0] rfl))
        clear hf hl hP hD hS
        intro self_83 ihself_83 z hf
        obtain ⟨i_65, c_block_66, c_other_67, c_result_68⟩ := z
        intro H locs ls hP hD hS hl
        refine hFr _ _ _ ?_
        unfold b_X10_wrap_353 at hf
        refine lv_iload (pc := 353) hx hb (zdt_at zt_X10_wrap_3 3 rfl) (lv_at hl 2 rfl) ?_
        refine lv_bipush (pc := 355) (v := (6 : Int32)) hx hb (zdt_at zt_X10_wrap_3 4 rfl) (by decide) ?_
        refine lv_iload_n (pc := 357) hx hb (zdt_at zt_X10_wrap_3 5 rfl) rfl (lv_at hl 1 rfl) ?_
        refine lv_imul (pc := 358) hx hb (zdt_at zt_X10_wrap_3 6 rfl) ?_
        refine lv_icmp_gt (pc := 359) (tgt := 503) hx hb (zdt_at zt_X10_wrap_3 7 rfl) (by decide) (fun cn_ => ?t_84) (fun cn_ => ?f_85)
        case t_84 =>
          replace hf := zt_s cn_ hf
          clear cn_
          exact hTo _ _ _ (kK_72 _ _ _ H locs ls hP hD hS (lv_sub hl [0, 1] rfl) hf)
        replace hf := ze_s cn_ hf
        clear cn_
        refine lv_bipush (pc := 362) (v := (8 : Int32)) hx hb (zdt_at zt_X10_wrap_3 8 rfl) (by decide) ?_
        refine lv_bipush (pc := 364) (v := (8 : Int32)) hx hb (zdt_at zt_X10_wrap_3 9 rfl) (by decide) ?_
        refine lv_iload (pc := 366) hx hb (zdt_at zt_X10_wrap_3 10 rfl) (lv_at hl 2 rfl) ?_
        refine lv_iconst (pc := 368) (v := (1 : Int32)) hx hb (zdt_at zt_X10_wrap_3 11 rfl) (by decide) ?_
        refine lv_isub (pc := 369) hx hb (zdt_at zt_X10_wrap_3 12 rfl) ?_
        refine lv_iload_n (pc := 370) hx hb (zdt_at zt_X10_wrap_3 13 rfl) rfl (lv_at hl 1 rfl) ?_
        replace hf := zk_s hf
        refine lv_irem (pc := 371) hx hb (zdt_at zt_X10_wrap_3 14 rfl) hf.1 ?_
        replace hf := hf.2
        refine lv_imul (pc := 372) hx hb (zdt_at zt_X10_wrap_3 15 rfl) ?_
        refine lv_iadd (pc := 373) hx hb (zdt_at zt_X10_wrap_3 16 rfl) ?_
        refine lv_topi (fun x_86 e_ => ?_)
        replace hf := zn_s hf e_
        clear e_
        refine lv_istore (pc := 374) (lv' := [(5, .int x_86), (0, .ref h0), (3, .int x_50), (4, .int i_65)]) hx hb (zdt_at zt_X10_wrap_3 17 rfl) hl (by decide) rfl ?_
        clear hl
        intro ls hl
        refine lv_iconst (pc := 376) (v := (0 : Int32)) hx hb (zdt_at zt_X10_wrap_3 18 rfl) (by decide) ?_
        refine lv_istore (pc := 377) (lv' := [(6, .int (0 : Int32)), (5, .int x_86), (0, .ref h0), (3, .int x_50), (4, .int i_65)]) hx hb (zdt_at zt_X10_wrap_3 19 rfl) hl (by decide) rfl ?_
        clear hl
        intro ls hl
        replace hf := zj_s hf
        obtain ⟨K_90, eK_90, hf⟩ := hf
        have kK_90 : ∀ (c_block_89 : Nat → Int32) (H : Heap) (locs : List Loc) (ls : Array Slot), va_P D vwCl ([(h0, .inr (12, zmo hm (0 : Int32) c_state c_test c_words c_ill c_before c_inRow c_first c_inWindow c_same c_made c_requests c_total c_secrets c_rounds_63 c_high c_low c_keyHigh c_keyLow)), ((hm 43), .inl (cy 1, 16, .inl c_block_89)), ((hm 39), .inl (cy 1, 256, .inl c_box)), ((hm 6), .inl (cy 1, 512, .inl c_buffer)), ((hm 5), .inl (cy 1, 3, .inl c_counters)), ((hm 12), .inl (cy 1, 16, .inl c_holder)), ((hm 14), .inl (cy 1, 1024, .inl c_keys)), ((hm 9), .inl (cy 1, 16, .inl c_kind)), ((hm 10), .inl (cy 1, 16, .inl c_length)), ((hm 44), .inl (cy 1, 16, .inl c_other_67)), ((hm 45), .inl (cy 1, 600, .inl c_result_68)), ((hm 41), .inl (cy 1, 240, .inl c_round_64)), ((hm 11), .inl (cy 1, 16, .inl c_usage)), ((hm 13), .inl (cy 1, 16, .inl c_uses_49))]) H → va_D A ([(h0, .inr (12, zmo hm (0 : Int32) c_state c_test c_words c_ill c_before c_inRow c_first c_inWindow c_same c_made c_requests c_total c_secrets c_rounds_63 c_high c_low c_keyHigh c_keyLow)), ((hm 43), .inl (cy 1, 16, .inl c_block_89)), ((hm 39), .inl (cy 1, 256, .inl c_box)), ((hm 6), .inl (cy 1, 512, .inl c_buffer)), ((hm 5), .inl (cy 1, 3, .inl c_counters)), ((hm 12), .inl (cy 1, 16, .inl c_holder)), ((hm 14), .inl (cy 1, 1024, .inl c_keys)), ((hm 9), .inl (cy 1, 16, .inl c_kind)), ((hm 10), .inl (cy 1, 16, .inl c_length)), ((hm 44), .inl (cy 1, 16, .inl c_other_67)), ((hm 45), .inl (cy 1, 600, .inl c_result_68)), ((hm 41), .inl (cy 1, 240, .inl c_round_64)), ((hm 11), .inl (cy 1, 16, .inl c_usage)), ((hm 13), .inl (cy 1, 16, .inl c_uses_49))]) → va_S A s.heap H locs → lv_has ls 7 [(0, .ref h0), (3, .int x_50), (4, .int i_65), (5, .int x_86)] → K_90 c_block_89 = some (r_, c_rounds', c_thrown', c_block', c_buffer', c_counters', c_other', c_result', c_round', c_uses') → GW H locs (F0 m 429 ls []) := by
          clear hf hl hP hD hS
          intro c_block_89 H locs ls hP hD hS hl hf
          rw [eK_90] at hf
          clear eK_90
          refine hFr _ _ _ ?_
          refine lv_aload_n (pc := 429) hx hb (zdt_at zt_X10_wrap_3 45 rfl) rfl (lv_at hl 0 rfl) ?_
          replace hf := zb_s hf
          obtain ⟨⟨c_block_91, c_other_92⟩, hc_, hf⟩ := hf
          refine zcn2 (pc := 430) (rv := none) (va_runV (As := []) (rest := []) ⟨hx, hb, hml, hown, hts⟩ (c_X10_seal l D cy tt H.size h0 hm c_rounds_63 c_block_89 c_box c_other_67 c_round_64 (0 : Int32) c_state c_test c_words c_ill c_before c_inRow c_first c_inWindow c_same c_made c_requests c_total c_secrets c_high c_low c_keyHigh c_keyLow c_block_91 c_other_92 hc_) (cwV 0 hts gX10_wrap_X10_seal rfl rfl rfl (by decide +kernel) ⟨Nat.le_of_ble_eq_true rfl, Nat.le_of_ble_eq_true rfl⟩) ⟨zblind, va_recv hK hP (ci := 12) (q0 := 0) rfl rfl, zpre hE hS (hP.sub [0, 1, 2, 9, 11] rfl) (hD.sub [0, 1, 2, 9, 11] (by decide) rfl) (va_free hD hS hA [0, 1, 2, 9, 11] rfl)⟩ rfl rfl hl.1 rfl (lv_room (Nat.le_of_ble_eq_true rfl)) (zdt_at zt_X10_wrap_3 46 rfl) ⟨Nat.zero_le _, Nat.zero_le _⟩) hS hP hD (va_free hD hS hA [0, 1, 2, 9, 11] rfl) [0, 1, 2, 9, 11] rfl (by decide) rfl ?_
          clear hP hD hS hc_
          intro H locs hP hD hS
          replace hP : va_P D vwCl ([(h0, .inr (12, zmo hm (0 : Int32) c_state c_test c_words c_ill c_before c_inRow c_first c_inWindow c_same c_made c_requests c_total c_secrets c_rounds_63 c_high c_low c_keyHigh c_keyLow)), ((hm 43), .inl (cy 1, 16, .inl c_block_91)), ((hm 39), .inl (cy 1, 256, .inl c_box)), ((hm 6), .inl (cy 1, 512, .inl c_buffer)), ((hm 5), .inl (cy 1, 3, .inl c_counters)), ((hm 12), .inl (cy 1, 16, .inl c_holder)), ((hm 14), .inl (cy 1, 1024, .inl c_keys)), ((hm 9), .inl (cy 1, 16, .inl c_kind)), ((hm 10), .inl (cy 1, 16, .inl c_length)), ((hm 44), .inl (cy 1, 16, .inl c_other_92)), ((hm 45), .inl (cy 1, 600, .inl c_result_68)), ((hm 41), .inl (cy 1, 240, .inl c_round_64)), ((hm 11), .inl (cy 1, 16, .inl c_usage)), ((hm 13), .inl (cy 1, 16, .inl c_uses_49))]) H := hP
          replace hD : va_D A ([(h0, .inr (12, zmo hm (0 : Int32) c_state c_test c_words c_ill c_before c_inRow c_first c_inWindow c_same c_made c_requests c_total c_secrets c_rounds_63 c_high c_low c_keyHigh c_keyLow)), ((hm 43), .inl (cy 1, 16, .inl c_block_91)), ((hm 39), .inl (cy 1, 256, .inl c_box)), ((hm 6), .inl (cy 1, 512, .inl c_buffer)), ((hm 5), .inl (cy 1, 3, .inl c_counters)), ((hm 12), .inl (cy 1, 16, .inl c_holder)), ((hm 14), .inl (cy 1, 1024, .inl c_keys)), ((hm 9), .inl (cy 1, 16, .inl c_kind)), ((hm 10), .inl (cy 1, 16, .inl c_length)), ((hm 44), .inl (cy 1, 16, .inl c_other_92)), ((hm 45), .inl (cy 1, 600, .inl c_result_68)), ((hm 41), .inl (cy 1, 240, .inl c_round_64)), ((hm 11), .inl (cy 1, 16, .inl c_usage)), ((hm 13), .inl (cy 1, 16, .inl c_uses_49))]) := hD
          refine W.eq (g2 := F0 m 433 ls []) rfl ?_
          refine lv_iconst (pc := 433) (v := (0 : Int32)) hx hb (zdt_at zt_X10_wrap_3 47 rfl) (by decide) ?_
          refine lv_istore (pc := 434) (lv' := [(6, .int (0 : Int32)), (0, .ref h0), (3, .int x_50), (4, .int i_65), (5, .int x_86)]) hx hb (zdt_at zt_X10_wrap_3 48 rfl) hl (by decide) rfl ?_
          clear hl
          intro ls hl
          replace hf := zj_s hf
          obtain ⟨K_96, eK_96, hf⟩ := hf
          have kK_96 : ∀ (c_result_95 : Nat → Int32) (H : Heap) (locs : List Loc) (ls : Array Slot), va_P D vwCl ([(h0, .inr (12, zmo hm (0 : Int32) c_state c_test c_words c_ill c_before c_inRow c_first c_inWindow c_same c_made c_requests c_total c_secrets c_rounds_63 c_high c_low c_keyHigh c_keyLow)), ((hm 43), .inl (cy 1, 16, .inl c_block_91)), ((hm 39), .inl (cy 1, 256, .inl c_box)), ((hm 6), .inl (cy 1, 512, .inl c_buffer)), ((hm 5), .inl (cy 1, 3, .inl c_counters)), ((hm 12), .inl (cy 1, 16, .inl c_holder)), ((hm 14), .inl (cy 1, 1024, .inl c_keys)), ((hm 9), .inl (cy 1, 16, .inl c_kind)), ((hm 10), .inl (cy 1, 16, .inl c_length)), ((hm 44), .inl (cy 1, 16, .inl c_other_92)), ((hm 45), .inl (cy 1, 600, .inl c_result_95)), ((hm 41), .inl (cy 1, 240, .inl c_round_64)), ((hm 11), .inl (cy 1, 16, .inl c_usage)), ((hm 13), .inl (cy 1, 16, .inl c_uses_49))]) H → va_D A ([(h0, .inr (12, zmo hm (0 : Int32) c_state c_test c_words c_ill c_before c_inRow c_first c_inWindow c_same c_made c_requests c_total c_secrets c_rounds_63 c_high c_low c_keyHigh c_keyLow)), ((hm 43), .inl (cy 1, 16, .inl c_block_91)), ((hm 39), .inl (cy 1, 256, .inl c_box)), ((hm 6), .inl (cy 1, 512, .inl c_buffer)), ((hm 5), .inl (cy 1, 3, .inl c_counters)), ((hm 12), .inl (cy 1, 16, .inl c_holder)), ((hm 14), .inl (cy 1, 1024, .inl c_keys)), ((hm 9), .inl (cy 1, 16, .inl c_kind)), ((hm 10), .inl (cy 1, 16, .inl c_length)), ((hm 44), .inl (cy 1, 16, .inl c_other_92)), ((hm 45), .inl (cy 1, 600, .inl c_result_95)), ((hm 41), .inl (cy 1, 240, .inl c_round_64)), ((hm 11), .inl (cy 1, 16, .inl c_usage)), ((hm 13), .inl (cy 1, 16, .inl c_uses_49))]) → va_S A s.heap H locs → lv_has ls 7 [(0, .ref h0), (3, .int x_50), (4, .int i_65)] → K_96 c_result_95 = some (r_, c_rounds', c_thrown', c_block', c_buffer', c_counters', c_other', c_result', c_round', c_uses') → GW H locs (F0 m 497 ls []) := by
            clear hf hl hP hD hS
            intro c_result_95 H locs ls hP hD hS hl hf
            rw [eK_96] at hf
            clear eK_96
            refine hFr _ _ _ ?_
            refine lv_iinc (pc := 497) (v := (i_65 + (1 : Int32))) (lv' := [(4, .int (i_65 + (1 : Int32))), (0, .ref h0), (3, .int x_50)]) hx hb (zdt_at zt_X10_wrap_4 17 rfl) hl (k := 2) rfl rfl (by decide) rfl ?_
            clear hl
            intro ls hl
            refine lv_goto (pc := 500) (tgt := 353) hx hb (zdt_at zt_X10_wrap_4 18 rfl) (by decide) ?_
            exact hTo _ _ _ (ihself_83 _ hf H locs ls hP hD hS (lv_sub hl [1, 2, 0] rfl))
          clear eK_96
          refine hTo _ _ _ (zl_go (fun z => match z with | (i_93, c_result_94) => ∀ (H : Heap) (locs : List Loc) (ls : Array Slot), va_P D vwCl ([(h0, .inr (12, zmo hm (0 : Int32) c_state c_test c_words c_ill c_before c_inRow c_first c_inWindow c_same c_made c_requests c_total c_secrets c_rounds_63 c_high c_low c_keyHigh c_keyLow)), ((hm 43), .inl (cy 1, 16, .inl c_block_91)), ((hm 39), .inl (cy 1, 256, .inl c_box)), ((hm 6), .inl (cy 1, 512, .inl c_buffer)), ((hm 5), .inl (cy 1, 3, .inl c_counters)), ((hm 12), .inl (cy 1, 16, .inl c_holder)), ((hm 14), .inl (cy 1, 1024, .inl c_keys)), ((hm 9), .inl (cy 1, 16, .inl c_kind)), ((hm 10), .inl (cy 1, 16, .inl c_length)), ((hm 44), .inl (cy 1, 16, .inl c_other_92)), ((hm 45), .inl (cy 1, 600, .inl c_result_94)), ((hm 41), .inl (cy 1, 240, .inl c_round_64)), ((hm 11), .inl (cy 1, 16, .inl c_usage)), ((hm 13), .inl (cy 1, 16, .inl c_uses_49))]) H → va_D A ([(h0, .inr (12, zmo hm (0 : Int32) c_state c_test c_words c_ill c_before c_inRow c_first c_inWindow c_same c_made c_requests c_total c_secrets c_rounds_63 c_high c_low c_keyHigh c_keyLow)), ((hm 43), .inl (cy 1, 16, .inl c_block_91)), ((hm 39), .inl (cy 1, 256, .inl c_box)), ((hm 6), .inl (cy 1, 512, .inl c_buffer)), ((hm 5), .inl (cy 1, 3, .inl c_counters)), ((hm 12), .inl (cy 1, 16, .inl c_holder)), ((hm 14), .inl (cy 1, 1024, .inl c_keys)), ((hm 9), .inl (cy 1, 16, .inl c_kind)), ((hm 10), .inl (cy 1, 16, .inl c_length)), ((hm 44), .inl (cy 1, 16, .inl c_other_92)), ((hm 45), .inl (cy 1, 600, .inl c_result_94)), ((hm 41), .inl (cy 1, 240, .inl c_round_64)), ((hm 11), .inl (cy 1, 16, .inl c_usage)), ((hm 13), .inl (cy 1, 16, .inl c_uses_49))]) → va_S A s.heap H locs → lv_has ls 7 [(0, .ref h0), (3, .int x_50), (4, .int i_65), (5, .int x_86), (6, .int i_93)] → GW H locs (F0 m 436 ls [])) hf ?_ H locs ls hP hD hS (lv_sub hl [1, 2, 3, 4, 0] rfl))
          clear hf hl hP hD hS
          intro self_97 ihself_97 z hf
          obtain ⟨i_93, c_result_94⟩ := z
          intro H locs ls hP hD hS hl
          refine hFr _ _ _ ?_
          unfold b_X10_wrap_436 at hf
          refine lv_iload (pc := 436) hx hb (zdt_at zt_X10_wrap_3 49 rfl) (lv_at hl 4 rfl) ?_
          refine lv_bipush (pc := 438) (v := (8 : Int32)) hx hb (zdt_at zt_X10_wrap_3 50 rfl) (by decide) ?_
          refine lv_icmp_ge (pc := 440) (tgt := 497) hx hb (zdt_at zt_X10_wrap_3 51 rfl) (by decide) (fun cn_ => ?t_98) (fun cn_ => ?f_99)
          case t_98 =>
            replace hf := zt_s cn_ hf
            clear cn_
            exact hTo _ _ _ (kK_96 _ H locs ls hP hD hS (lv_sub hl [0, 1, 2] rfl) hf)
          replace hf := ze_s cn_ hf
          clear cn_
          refine lv_aload_n (pc := 443) hx hb (zdt_at zt_X10_wrap_3 52 rfl) rfl (lv_at hl 0 rfl) ?_
          refine va_get (pc := 444) (D := D) (ci := 12) (v := .ref (hm 45)) (C := RX10) (T := TX10) (N := 52) hx hb hts hcX10 hown hK hP 0 rfl rfl 45 (by decide) hw6 (fun _ h9 => h9) rfl (zdt_at zt_X10_wrap_3 53 rfl) ?_
          refine lv_iload (pc := 447) hx hb (zdt_at zt_X10_wrap_3 54 rfl) (lv_at hl 4 rfl) ?_
          refine lv_aload_n (pc := 449) hx hb (zdt_at zt_X10_wrap_3 55 rfl) rfl (lv_at hl 0 rfl) ?_
          refine va_get (pc := 450) (D := D) (ci := 12) (v := .ref (hm 43)) (C := RX10) (T := TX10) (N := 52) hx hb hts hcX10 hown hK hP 0 rfl rfl 43 (by decide) hw7 (fun _ h9 => h9) rfl (zdt_at zt_X10_wrap_3 56 rfl) ?_
          refine lv_iload (pc := 453) hx hb (zdt_at zt_X10_wrap_3 57 rfl) (lv_at hl 4 rfl) ?_
          replace hf := zk_s hf
          refine va_iald (pc := 455) hx hb hK hP 1 1 rfl rfl hf.1 (zdt_at zt_X10_wrap_3 58 rfl) ?_
          replace hf := hf.2
          refine lv_iload (pc := 456) hx hb (zdt_at zt_X10_wrap_3 59 rfl) (lv_at hl 4 rfl) ?_
          refine lv_bipush (pc := 458) (v := (7 : Int32)) hx hb (zdt_at zt_X10_wrap_3 60 rfl) (by decide) ?_
          replace hf := zj_s hf
          obtain ⟨K_101, eK_101, hf⟩ := hf
          have kK_101 : ∀ (v_100 : Int32) (H : Heap) (locs : List Loc) (ls : Array Slot), va_P D vwCl ([(h0, .inr (12, zmo hm (0 : Int32) c_state c_test c_words c_ill c_before c_inRow c_first c_inWindow c_same c_made c_requests c_total c_secrets c_rounds_63 c_high c_low c_keyHigh c_keyLow)), ((hm 43), .inl (cy 1, 16, .inl c_block_91)), ((hm 39), .inl (cy 1, 256, .inl c_box)), ((hm 6), .inl (cy 1, 512, .inl c_buffer)), ((hm 5), .inl (cy 1, 3, .inl c_counters)), ((hm 12), .inl (cy 1, 16, .inl c_holder)), ((hm 14), .inl (cy 1, 1024, .inl c_keys)), ((hm 9), .inl (cy 1, 16, .inl c_kind)), ((hm 10), .inl (cy 1, 16, .inl c_length)), ((hm 44), .inl (cy 1, 16, .inl c_other_92)), ((hm 45), .inl (cy 1, 600, .inl c_result_94)), ((hm 41), .inl (cy 1, 240, .inl c_round_64)), ((hm 11), .inl (cy 1, 16, .inl c_usage)), ((hm 13), .inl (cy 1, 16, .inl c_uses_49))]) H → va_D A ([(h0, .inr (12, zmo hm (0 : Int32) c_state c_test c_words c_ill c_before c_inRow c_first c_inWindow c_same c_made c_requests c_total c_secrets c_rounds_63 c_high c_low c_keyHigh c_keyLow)), ((hm 43), .inl (cy 1, 16, .inl c_block_91)), ((hm 39), .inl (cy 1, 256, .inl c_box)), ((hm 6), .inl (cy 1, 512, .inl c_buffer)), ((hm 5), .inl (cy 1, 3, .inl c_counters)), ((hm 12), .inl (cy 1, 16, .inl c_holder)), ((hm 14), .inl (cy 1, 1024, .inl c_keys)), ((hm 9), .inl (cy 1, 16, .inl c_kind)), ((hm 10), .inl (cy 1, 16, .inl c_length)), ((hm 44), .inl (cy 1, 16, .inl c_other_92)), ((hm 45), .inl (cy 1, 600, .inl c_result_94)), ((hm 41), .inl (cy 1, 240, .inl c_round_64)), ((hm 11), .inl (cy 1, 16, .inl c_usage)), ((hm 13), .inl (cy 1, 16, .inl c_uses_49))]) → va_S A s.heap H locs → lv_has ls 7 [(0, .ref h0), (3, .int x_50), (4, .int i_65), (5, .int x_86), (6, .int i_93)] → K_101 v_100 = some (r_, c_rounds', c_thrown', c_block', c_buffer', c_counters', c_other', c_result', c_round', c_uses') → GW H locs (F0 m 469 ls [.int v_100, .int (c_block_91 i_93.toNatClampNeg), .int i_93, .ref (hm 45)]) := by
            clear hf hl hP hD hS
            intro v_100 H locs ls hP hD hS hl hf
            rw [eK_101] at hf
            clear eK_101
            refine hFr _ _ _ ?_
            refine lv_ixor (pc := 469) hx hb (zdt_at zt_X10_wrap_4 1 rfl) ?_
            replace hf := zk_s hf
            refine va_iast (pc := 470) hx hb hK hP hD hS 10 1 rfl rfl hf.1 (zdt_at zt_X10_wrap_4 2 rfl) ?_
            replace hf := hf.2
            clear hP hD hS
            intro H locs hP hD hS
            obtain ⟨c_result_102, e_⟩ : ∃ q : Nat → Int32, q = (upd c_result_94 i_93.toNatClampNeg ((c_block_91 i_93.toNatClampNeg) ^^^ v_100)) := ⟨_, rfl⟩
            replace hf := zn_s hf e_
            replace hP : va_P D vwCl ([(h0, .inr (12, zmo hm (0 : Int32) c_state c_test c_words c_ill c_before c_inRow c_first c_inWindow c_same c_made c_requests c_total c_secrets c_rounds_63 c_high c_low c_keyHigh c_keyLow)), ((hm 43), .inl (cy 1, 16, .inl c_block_91)), ((hm 39), .inl (cy 1, 256, .inl c_box)), ((hm 6), .inl (cy 1, 512, .inl c_buffer)), ((hm 5), .inl (cy 1, 3, .inl c_counters)), ((hm 12), .inl (cy 1, 16, .inl c_holder)), ((hm 14), .inl (cy 1, 1024, .inl c_keys)), ((hm 9), .inl (cy 1, 16, .inl c_kind)), ((hm 10), .inl (cy 1, 16, .inl c_length)), ((hm 44), .inl (cy 1, 16, .inl c_other_92)), ((hm 45), .inl (cy 1, 600, .inl c_result_102)), ((hm 41), .inl (cy 1, 240, .inl c_round_64)), ((hm 11), .inl (cy 1, 16, .inl c_usage)), ((hm 13), .inl (cy 1, 16, .inl c_uses_49))]) H := by rw [e_]; exact hP
            replace hD : va_D A ([(h0, .inr (12, zmo hm (0 : Int32) c_state c_test c_words c_ill c_before c_inRow c_first c_inWindow c_same c_made c_requests c_total c_secrets c_rounds_63 c_high c_low c_keyHigh c_keyLow)), ((hm 43), .inl (cy 1, 16, .inl c_block_91)), ((hm 39), .inl (cy 1, 256, .inl c_box)), ((hm 6), .inl (cy 1, 512, .inl c_buffer)), ((hm 5), .inl (cy 1, 3, .inl c_counters)), ((hm 12), .inl (cy 1, 16, .inl c_holder)), ((hm 14), .inl (cy 1, 1024, .inl c_keys)), ((hm 9), .inl (cy 1, 16, .inl c_kind)), ((hm 10), .inl (cy 1, 16, .inl c_length)), ((hm 44), .inl (cy 1, 16, .inl c_other_92)), ((hm 45), .inl (cy 1, 600, .inl c_result_102)), ((hm 41), .inl (cy 1, 240, .inl c_round_64)), ((hm 11), .inl (cy 1, 16, .inl c_usage)), ((hm 13), .inl (cy 1, 16, .inl c_uses_49))]) := by rw [e_]; exact hD
            clear e_
            refine lv_aload_n (pc := 471) hx hb (zdt_at zt_X10_wrap_4 3 rfl) rfl (lv_at hl 0 rfl) ?_
            refine va_get (pc := 472) (D := D) (ci := 12) (v := .ref (hm 45)) (C := RX10) (T := TX10) (N := 52) hx hb hts hcX10 hown hK hP 0 rfl rfl 45 (by decide) hw6 (fun _ h9 => h9) rfl (zdt_at zt_X10_wrap_4 4 rfl) ?_
            refine lv_iload (pc := 475) hx hb (zdt_at zt_X10_wrap_4 5 rfl) (lv_at hl 3 rfl) ?_
            refine lv_iload (pc := 477) hx hb (zdt_at zt_X10_wrap_4 6 rfl) (lv_at hl 4 rfl) ?_
            refine lv_iadd (pc := 479) hx hb (zdt_at zt_X10_wrap_4 7 rfl) ?_
            refine lv_aload_n (pc := 480) hx hb (zdt_at zt_X10_wrap_4 8 rfl) rfl (lv_at hl 0 rfl) ?_
            refine va_get (pc := 481) (D := D) (ci := 12) (v := .ref (hm 43)) (C := RX10) (T := TX10) (N := 52) hx hb hts hcX10 hown hK hP 0 rfl rfl 43 (by decide) hw7 (fun _ h9 => h9) rfl (zdt_at zt_X10_wrap_4 9 rfl) ?_
            refine lv_bipush (pc := 484) (v := (8 : Int32)) hx hb (zdt_at zt_X10_wrap_4 10 rfl) (by decide) ?_
            refine lv_iload (pc := 486) hx hb (zdt_at zt_X10_wrap_4 11 rfl) (lv_at hl 4 rfl) ?_
            refine lv_iadd (pc := 488) hx hb (zdt_at zt_X10_wrap_4 12 rfl) ?_
            replace hf := zk_s hf
            refine va_iald (pc := 489) hx hb hK hP 1 1 rfl rfl hf.1 (zdt_at zt_X10_wrap_4 13 rfl) ?_
            replace hf := hf.2
            replace hf := zk_s hf
            refine va_iast (pc := 490) hx hb hK hP hD hS 10 1 rfl rfl hf.1 (zdt_at zt_X10_wrap_4 14 rfl) ?_
            replace hf := hf.2
            clear hP hD hS
            intro H locs hP hD hS
            obtain ⟨c_result_103, e_⟩ : ∃ q : Nat → Int32, q = (upd c_result_102 (x_86 + i_93).toNatClampNeg (c_block_91 ((8 : Int32) + i_93).toNatClampNeg)) := ⟨_, rfl⟩
            replace hf := zn_s hf e_
            replace hP : va_P D vwCl ([(h0, .inr (12, zmo hm (0 : Int32) c_state c_test c_words c_ill c_before c_inRow c_first c_inWindow c_same c_made c_requests c_total c_secrets c_rounds_63 c_high c_low c_keyHigh c_keyLow)), ((hm 43), .inl (cy 1, 16, .inl c_block_91)), ((hm 39), .inl (cy 1, 256, .inl c_box)), ((hm 6), .inl (cy 1, 512, .inl c_buffer)), ((hm 5), .inl (cy 1, 3, .inl c_counters)), ((hm 12), .inl (cy 1, 16, .inl c_holder)), ((hm 14), .inl (cy 1, 1024, .inl c_keys)), ((hm 9), .inl (cy 1, 16, .inl c_kind)), ((hm 10), .inl (cy 1, 16, .inl c_length)), ((hm 44), .inl (cy 1, 16, .inl c_other_92)), ((hm 45), .inl (cy 1, 600, .inl c_result_103)), ((hm 41), .inl (cy 1, 240, .inl c_round_64)), ((hm 11), .inl (cy 1, 16, .inl c_usage)), ((hm 13), .inl (cy 1, 16, .inl c_uses_49))]) H := by rw [e_]; exact hP
            replace hD : va_D A ([(h0, .inr (12, zmo hm (0 : Int32) c_state c_test c_words c_ill c_before c_inRow c_first c_inWindow c_same c_made c_requests c_total c_secrets c_rounds_63 c_high c_low c_keyHigh c_keyLow)), ((hm 43), .inl (cy 1, 16, .inl c_block_91)), ((hm 39), .inl (cy 1, 256, .inl c_box)), ((hm 6), .inl (cy 1, 512, .inl c_buffer)), ((hm 5), .inl (cy 1, 3, .inl c_counters)), ((hm 12), .inl (cy 1, 16, .inl c_holder)), ((hm 14), .inl (cy 1, 1024, .inl c_keys)), ((hm 9), .inl (cy 1, 16, .inl c_kind)), ((hm 10), .inl (cy 1, 16, .inl c_length)), ((hm 44), .inl (cy 1, 16, .inl c_other_92)), ((hm 45), .inl (cy 1, 600, .inl c_result_103)), ((hm 41), .inl (cy 1, 240, .inl c_round_64)), ((hm 11), .inl (cy 1, 16, .inl c_usage)), ((hm 13), .inl (cy 1, 16, .inl c_uses_49))]) := by rw [e_]; exact hD
            clear e_
            refine lv_iinc (pc := 491) (v := (i_93 + (1 : Int32))) (lv' := [(6, .int (i_93 + (1 : Int32))), (0, .ref h0), (3, .int x_50), (4, .int i_65), (5, .int x_86)]) hx hb (zdt_at zt_X10_wrap_4 15 rfl) hl (k := 4) rfl rfl (by decide) rfl ?_
            clear hl
            intro ls hl
            refine lv_goto (pc := 494) (tgt := 436) hx hb (zdt_at zt_X10_wrap_4 16 rfl) (by decide) ?_
            exact hTo _ _ _ (ihself_97 _ hf H locs ls hP hD hS (lv_sub hl [1, 2, 3, 4, 0] rfl))
          clear eK_101
          refine lv_icmp_ne (pc := 460) (tgt := 468) hx hb (zdt_at zt_X10_wrap_3 61 rfl) (by decide) (fun cn_ => ?t_104) (fun cn_ => ?f_105)
          case t_104 =>
            replace hf := ze_s cn_ hf
            clear cn_
            refine lv_iconst (pc := 468) (v := (0 : Int32)) hx hb (zdt_at zt_X10_wrap_4 0 rfl) (by decide) ?_
            exact hTo _ _ _ (kK_101 _ H locs ls hP hD hS (lv_sub hl [0, 1, 2, 3, 4] rfl) hf)
          replace hf := zt_s cn_ hf
          clear cn_
          refine lv_iload (pc := 463) hx hb (zdt_at zt_X10_wrap_3 62 rfl) (lv_at hl 2 rfl) ?_
          refine lv_goto (pc := 465) (tgt := 469) hx hb (zdt_at zt_X10_wrap_3 63 rfl) (by decide) ?_
          exact hTo _ _ _ (kK_101 _ H locs ls hP hD hS (lv_sub hl [0, 1, 2, 3, 4] rfl) hf)
        clear eK_90
        refine hTo _ _ _ (zl_go (fun z => match z with | (i_87, c_block_88) => ∀ (H : Heap) (locs : List Loc) (ls : Array Slot), va_P D vwCl ([(h0, .inr (12, zmo hm (0 : Int32) c_state c_test c_words c_ill c_before c_inRow c_first c_inWindow c_same c_made c_requests c_total c_secrets c_rounds_63 c_high c_low c_keyHigh c_keyLow)), ((hm 43), .inl (cy 1, 16, .inl c_block_88)), ((hm 39), .inl (cy 1, 256, .inl c_box)), ((hm 6), .inl (cy 1, 512, .inl c_buffer)), ((hm 5), .inl (cy 1, 3, .inl c_counters)), ((hm 12), .inl (cy 1, 16, .inl c_holder)), ((hm 14), .inl (cy 1, 1024, .inl c_keys)), ((hm 9), .inl (cy 1, 16, .inl c_kind)), ((hm 10), .inl (cy 1, 16, .inl c_length)), ((hm 44), .inl (cy 1, 16, .inl c_other_67)), ((hm 45), .inl (cy 1, 600, .inl c_result_68)), ((hm 41), .inl (cy 1, 240, .inl c_round_64)), ((hm 11), .inl (cy 1, 16, .inl c_usage)), ((hm 13), .inl (cy 1, 16, .inl c_uses_49))]) H → va_D A ([(h0, .inr (12, zmo hm (0 : Int32) c_state c_test c_words c_ill c_before c_inRow c_first c_inWindow c_same c_made c_requests c_total c_secrets c_rounds_63 c_high c_low c_keyHigh c_keyLow)), ((hm 43), .inl (cy 1, 16, .inl c_block_88)), ((hm 39), .inl (cy 1, 256, .inl c_box)), ((hm 6), .inl (cy 1, 512, .inl c_buffer)), ((hm 5), .inl (cy 1, 3, .inl c_counters)), ((hm 12), .inl (cy 1, 16, .inl c_holder)), ((hm 14), .inl (cy 1, 1024, .inl c_keys)), ((hm 9), .inl (cy 1, 16, .inl c_kind)), ((hm 10), .inl (cy 1, 16, .inl c_length)), ((hm 44), .inl (cy 1, 16, .inl c_other_67)), ((hm 45), .inl (cy 1, 600, .inl c_result_68)), ((hm 41), .inl (cy 1, 240, .inl c_round_64)), ((hm 11), .inl (cy 1, 16, .inl c_usage)), ((hm 13), .inl (cy 1, 16, .inl c_uses_49))]) → va_S A s.heap H locs → lv_has ls 7 [(0, .ref h0), (3, .int x_50), (4, .int i_65), (5, .int x_86), (6, .int i_87)] → GW H locs (F0 m 379 ls [])) hf ?_ H locs ls hP hD hS (lv_sub hl [2, 3, 4, 1, 0] rfl))
        clear hf hl hP hD hS
        intro self_106 ihself_106 z hf
        obtain ⟨i_87, c_block_88⟩ := z
        intro H locs ls hP hD hS hl
        refine hFr _ _ _ ?_
        unfold b_X10_wrap_379 at hf
        refine lv_iload (pc := 379) hx hb (zdt_at zt_X10_wrap_3 20 rfl) (lv_at hl 4 rfl) ?_
        refine lv_bipush (pc := 381) (v := (16 : Int32)) hx hb (zdt_at zt_X10_wrap_3 21 rfl) (by decide) ?_
        refine lv_icmp_ge (pc := 383) (tgt := 429) hx hb (zdt_at zt_X10_wrap_3 22 rfl) (by decide) (fun cn_ => ?t_107) (fun cn_ => ?f_108)
        case t_107 =>
          replace hf := zt_s cn_ hf
          clear cn_
          exact hTo _ _ _ (kK_90 _ H locs ls hP hD hS (lv_sub hl [0, 1, 2, 3] rfl) hf)
        replace hf := ze_s cn_ hf
        clear cn_
        refine lv_aload_n (pc := 386) hx hb (zdt_at zt_X10_wrap_3 23 rfl) rfl (lv_at hl 0 rfl) ?_
        refine va_get (pc := 387) (D := D) (ci := 12) (v := .ref (hm 43)) (C := RX10) (T := TX10) (N := 52) hx hb hts hcX10 hown hK hP 0 rfl rfl 43 (by decide) hw7 (fun _ h9 => h9) rfl (zdt_at zt_X10_wrap_3 24 rfl) ?_
        refine lv_iload (pc := 390) hx hb (zdt_at zt_X10_wrap_3 25 rfl) (lv_at hl 4 rfl) ?_
        refine lv_iload (pc := 392) hx hb (zdt_at zt_X10_wrap_3 26 rfl) (lv_at hl 4 rfl) ?_
        refine lv_bipush (pc := 394) (v := (8 : Int32)) hx hb (zdt_at zt_X10_wrap_3 27 rfl) (by decide) ?_
        refine lv_icmp_ge (pc := 396) (tgt := 409) hx hb (zdt_at zt_X10_wrap_3 28 rfl) (by decide) (fun cn_ => ?t_109) (fun cn_ => ?f_110)
        case f_110 =>
          replace hf := ze_s cn_ hf
          clear cn_
          refine lv_aload_n (pc := 399) hx hb (zdt_at zt_X10_wrap_3 29 rfl) rfl (lv_at hl 0 rfl) ?_
          refine va_get (pc := 400) (D := D) (ci := 12) (v := .ref (hm 45)) (C := RX10) (T := TX10) (N := 52) hx hb hts hcX10 hown hK hP 0 rfl rfl 45 (by decide) hw6 (fun _ h9 => h9) rfl (zdt_at zt_X10_wrap_3 30 rfl) ?_
          refine lv_iload (pc := 403) hx hb (zdt_at zt_X10_wrap_3 31 rfl) (lv_at hl 4 rfl) ?_
          replace hf := zk_s hf
          refine va_iald (pc := 405) hx hb hK hP 10 1 rfl rfl hf.1 (zdt_at zt_X10_wrap_3 32 rfl) ?_
          replace hf := hf.2
          refine lv_goto (pc := 406) (tgt := 422) hx hb (zdt_at zt_X10_wrap_3 33 rfl) (by decide) ?_
          replace hf := zk_s hf
          refine va_iast (pc := 422) hx hb hK hP hD hS 1 1 rfl rfl hf.1 (zdt_at zt_X10_wrap_3 42 rfl) ?_
          replace hf := hf.2
          clear hP hD hS
          intro H locs hP hD hS
          obtain ⟨c_block_112, e_⟩ : ∃ q : Nat → Int32, q = (upd c_block_88 i_87.toNatClampNeg (c_result_68 i_87.toNatClampNeg)) := ⟨_, rfl⟩
          replace hf := zn_s hf e_
          replace hP : va_P D vwCl ([(h0, .inr (12, zmo hm (0 : Int32) c_state c_test c_words c_ill c_before c_inRow c_first c_inWindow c_same c_made c_requests c_total c_secrets c_rounds_63 c_high c_low c_keyHigh c_keyLow)), ((hm 43), .inl (cy 1, 16, .inl c_block_112)), ((hm 39), .inl (cy 1, 256, .inl c_box)), ((hm 6), .inl (cy 1, 512, .inl c_buffer)), ((hm 5), .inl (cy 1, 3, .inl c_counters)), ((hm 12), .inl (cy 1, 16, .inl c_holder)), ((hm 14), .inl (cy 1, 1024, .inl c_keys)), ((hm 9), .inl (cy 1, 16, .inl c_kind)), ((hm 10), .inl (cy 1, 16, .inl c_length)), ((hm 44), .inl (cy 1, 16, .inl c_other_67)), ((hm 45), .inl (cy 1, 600, .inl c_result_68)), ((hm 41), .inl (cy 1, 240, .inl c_round_64)), ((hm 11), .inl (cy 1, 16, .inl c_usage)), ((hm 13), .inl (cy 1, 16, .inl c_uses_49))]) H := by rw [e_]; exact hP
          replace hD : va_D A ([(h0, .inr (12, zmo hm (0 : Int32) c_state c_test c_words c_ill c_before c_inRow c_first c_inWindow c_same c_made c_requests c_total c_secrets c_rounds_63 c_high c_low c_keyHigh c_keyLow)), ((hm 43), .inl (cy 1, 16, .inl c_block_112)), ((hm 39), .inl (cy 1, 256, .inl c_box)), ((hm 6), .inl (cy 1, 512, .inl c_buffer)), ((hm 5), .inl (cy 1, 3, .inl c_counters)), ((hm 12), .inl (cy 1, 16, .inl c_holder)), ((hm 14), .inl (cy 1, 1024, .inl c_keys)), ((hm 9), .inl (cy 1, 16, .inl c_kind)), ((hm 10), .inl (cy 1, 16, .inl c_length)), ((hm 44), .inl (cy 1, 16, .inl c_other_67)), ((hm 45), .inl (cy 1, 600, .inl c_result_68)), ((hm 41), .inl (cy 1, 240, .inl c_round_64)), ((hm 11), .inl (cy 1, 16, .inl c_usage)), ((hm 13), .inl (cy 1, 16, .inl c_uses_49))]) := by rw [e_]; exact hD
          clear e_
          refine lv_iinc (pc := 423) (v := (i_87 + (1 : Int32))) (lv' := [(6, .int (i_87 + (1 : Int32))), (0, .ref h0), (3, .int x_50), (4, .int i_65), (5, .int x_86)]) hx hb (zdt_at zt_X10_wrap_3 43 rfl) hl (k := 4) rfl rfl (by decide) rfl ?_
          clear hl
          intro ls hl
          refine lv_goto (pc := 426) (tgt := 379) hx hb (zdt_at zt_X10_wrap_3 44 rfl) (by decide) ?_
          exact hTo _ _ _ (ihself_106 _ hf H locs ls hP hD hS (lv_sub hl [1, 2, 3, 4, 0] rfl))
        replace hf := zt_s cn_ hf
        clear cn_
        refine lv_aload_n (pc := 409) hx hb (zdt_at zt_X10_wrap_3 34 rfl) rfl (lv_at hl 0 rfl) ?_
        refine va_get (pc := 410) (D := D) (ci := 12) (v := .ref (hm 45)) (C := RX10) (T := TX10) (N := 52) hx hb hts hcX10 hown hK hP 0 rfl rfl 45 (by decide) hw6 (fun _ h9 => h9) rfl (zdt_at zt_X10_wrap_3 35 rfl) ?_
        refine lv_iload (pc := 413) hx hb (zdt_at zt_X10_wrap_3 36 rfl) (lv_at hl 3 rfl) ?_
        refine lv_iload (pc := 415) hx hb (zdt_at zt_X10_wrap_3 37 rfl) (lv_at hl 4 rfl) ?_
        refine lv_iadd (pc := 417) hx hb (zdt_at zt_X10_wrap_3 38 rfl) ?_
        refine lv_bipush (pc := 418) (v := (8 : Int32)) hx hb (zdt_at zt_X10_wrap_3 39 rfl) (by decide) ?_
        refine lv_isub (pc := 420) hx hb (zdt_at zt_X10_wrap_3 40 rfl) ?_
        replace hf := zk_s hf
        refine va_iald (pc := 421) hx hb hK hP 10 1 rfl rfl hf.1 (zdt_at zt_X10_wrap_3 41 rfl) ?_
        replace hf := hf.2
        replace hf := zk_s hf
        refine va_iast (pc := 422) hx hb hK hP hD hS 1 1 rfl rfl hf.1 (zdt_at zt_X10_wrap_3 42 rfl) ?_
        replace hf := hf.2
        clear hP hD hS
        intro H locs hP hD hS
        obtain ⟨c_block_111, e_⟩ : ∃ q : Nat → Int32, q = (upd c_block_88 i_87.toNatClampNeg (c_result_68 ((x_86 + i_87) - (8 : Int32)).toNatClampNeg)) := ⟨_, rfl⟩
        replace hf := zn_s hf e_
        replace hP : va_P D vwCl ([(h0, .inr (12, zmo hm (0 : Int32) c_state c_test c_words c_ill c_before c_inRow c_first c_inWindow c_same c_made c_requests c_total c_secrets c_rounds_63 c_high c_low c_keyHigh c_keyLow)), ((hm 43), .inl (cy 1, 16, .inl c_block_111)), ((hm 39), .inl (cy 1, 256, .inl c_box)), ((hm 6), .inl (cy 1, 512, .inl c_buffer)), ((hm 5), .inl (cy 1, 3, .inl c_counters)), ((hm 12), .inl (cy 1, 16, .inl c_holder)), ((hm 14), .inl (cy 1, 1024, .inl c_keys)), ((hm 9), .inl (cy 1, 16, .inl c_kind)), ((hm 10), .inl (cy 1, 16, .inl c_length)), ((hm 44), .inl (cy 1, 16, .inl c_other_67)), ((hm 45), .inl (cy 1, 600, .inl c_result_68)), ((hm 41), .inl (cy 1, 240, .inl c_round_64)), ((hm 11), .inl (cy 1, 16, .inl c_usage)), ((hm 13), .inl (cy 1, 16, .inl c_uses_49))]) H := by rw [e_]; exact hP
        replace hD : va_D A ([(h0, .inr (12, zmo hm (0 : Int32) c_state c_test c_words c_ill c_before c_inRow c_first c_inWindow c_same c_made c_requests c_total c_secrets c_rounds_63 c_high c_low c_keyHigh c_keyLow)), ((hm 43), .inl (cy 1, 16, .inl c_block_111)), ((hm 39), .inl (cy 1, 256, .inl c_box)), ((hm 6), .inl (cy 1, 512, .inl c_buffer)), ((hm 5), .inl (cy 1, 3, .inl c_counters)), ((hm 12), .inl (cy 1, 16, .inl c_holder)), ((hm 14), .inl (cy 1, 1024, .inl c_keys)), ((hm 9), .inl (cy 1, 16, .inl c_kind)), ((hm 10), .inl (cy 1, 16, .inl c_length)), ((hm 44), .inl (cy 1, 16, .inl c_other_67)), ((hm 45), .inl (cy 1, 600, .inl c_result_68)), ((hm 41), .inl (cy 1, 240, .inl c_round_64)), ((hm 11), .inl (cy 1, 16, .inl c_usage)), ((hm 13), .inl (cy 1, 16, .inl c_uses_49))]) := by rw [e_]; exact hD
        clear e_
        refine lv_iinc (pc := 423) (v := (i_87 + (1 : Int32))) (lv' := [(6, .int (i_87 + (1 : Int32))), (0, .ref h0), (3, .int x_50), (4, .int i_65), (5, .int x_86)]) hx hb (zdt_at zt_X10_wrap_3 43 rfl) hl (k := 4) rfl rfl (by decide) rfl ?_
        clear hl
        intro ls hl
        refine lv_goto (pc := 426) (tgt := 379) hx hb (zdt_at zt_X10_wrap_3 44 rfl) (by decide) ?_
        exact hTo _ _ _ (ihself_106 _ hf H locs ls hP hD hS (lv_sub hl [1, 2, 3, 4, 0] rfl))
      clear eK_62
      refine hTo _ _ _ (zl_go (fun z => match z with | (i_59, c_result_60) => ∀ (H : Heap) (locs : List Loc) (ls : Array Slot), va_P D vwCl ([(h0, .inr (12, zmo hm (0 : Int32) c_state c_test c_words c_ill c_before c_inRow c_first c_inWindow c_same c_made c_requests c_total c_secrets c_rounds c_high c_low c_keyHigh c_keyLow)), ((hm 43), .inl (cy 1, 16, .inl c_block)), ((hm 39), .inl (cy 1, 256, .inl c_box)), ((hm 6), .inl (cy 1, 512, .inl c_buffer)), ((hm 5), .inl (cy 1, 3, .inl c_counters)), ((hm 12), .inl (cy 1, 16, .inl c_holder)), ((hm 14), .inl (cy 1, 1024, .inl c_keys)), ((hm 9), .inl (cy 1, 16, .inl c_kind)), ((hm 10), .inl (cy 1, 16, .inl c_length)), ((hm 44), .inl (cy 1, 16, .inl c_other)), ((hm 45), .inl (cy 1, 600, .inl c_result_60)), ((hm 41), .inl (cy 1, 240, .inl c_round)), ((hm 11), .inl (cy 1, 16, .inl c_usage)), ((hm 13), .inl (cy 1, 16, .inl c_uses_49))]) H → va_D A ([(h0, .inr (12, zmo hm (0 : Int32) c_state c_test c_words c_ill c_before c_inRow c_first c_inWindow c_same c_made c_requests c_total c_secrets c_rounds c_high c_low c_keyHigh c_keyLow)), ((hm 43), .inl (cy 1, 16, .inl c_block)), ((hm 39), .inl (cy 1, 256, .inl c_box)), ((hm 6), .inl (cy 1, 512, .inl c_buffer)), ((hm 5), .inl (cy 1, 3, .inl c_counters)), ((hm 12), .inl (cy 1, 16, .inl c_holder)), ((hm 14), .inl (cy 1, 1024, .inl c_keys)), ((hm 9), .inl (cy 1, 16, .inl c_kind)), ((hm 10), .inl (cy 1, 16, .inl c_length)), ((hm 44), .inl (cy 1, 16, .inl c_other)), ((hm 45), .inl (cy 1, 600, .inl c_result_60)), ((hm 41), .inl (cy 1, 240, .inl c_round)), ((hm 11), .inl (cy 1, 16, .inl c_usage)), ((hm 13), .inl (cy 1, 16, .inl c_uses_49))]) → va_S A s.heap H locs → lv_has ls 7 [(0, .ref h0), (1, .int p1), (2, .int p2), (3, .int x_50), (4, .int i_59)] → GW H locs (F0 m 306 ls [])) hf ?_ H locs ls hP hD hS (lv_sub hl [1, 2, 3, 4, 0] rfl))
      clear hf hl hP hD hS
      intro self_113 ihself_113 z hf
      obtain ⟨i_59, c_result_60⟩ := z
      intro H locs ls hP hD hS hl
      refine hFr _ _ _ ?_
      unfold b_X10_wrap_306 at hf
      refine lv_iload (pc := 306) hx hb (zdt_at zt_X10_wrap_2 40 rfl) (lv_at hl 4 rfl) ?_
      refine lv_aload_n (pc := 308) hx hb (zdt_at zt_X10_wrap_2 41 rfl) rfl (lv_at hl 0 rfl) ?_
      refine va_get (pc := 309) (D := D) (ci := 12) (v := .ref (hm 10)) (C := RX10) (T := TX10) (N := 52) hx hb hts hcX10 hown hK hP 0 rfl rfl 10 (by decide) hw2 (fun _ h9 => h9) rfl (zdt_at zt_X10_wrap_2 42 rfl) ?_
      refine lv_iload_n (pc := 312) hx hb (zdt_at zt_X10_wrap_2 43 rfl) rfl (lv_at hl 1 rfl) ?_
      replace hf := zk_s hf
      refine va_iald (pc := 313) hx hb hK hP 8 1 rfl rfl hf.1 (zdt_at zt_X10_wrap_2 44 rfl) ?_
      replace hf := hf.2
      refine lv_icmp_ge (pc := 314) (tgt := 345) hx hb (zdt_at zt_X10_wrap_2 45 rfl) (by decide) (fun cn_ => ?t_114) (fun cn_ => ?f_115)
      case t_114 =>
        replace hf := zt_s cn_ hf
        clear cn_
        exact hTo _ _ _ (kK_62 _ H locs ls hP hD hS (lv_sub hl [0, 2, 3] rfl) hf)
      replace hf := ze_s cn_ hf
      clear cn_
      refine lv_aload_n (pc := 317) hx hb (zdt_at zt_X10_wrap_2 46 rfl) rfl (lv_at hl 0 rfl) ?_
      refine va_get (pc := 318) (D := D) (ci := 12) (v := .ref (hm 45)) (C := RX10) (T := TX10) (N := 52) hx hb hts hcX10 hown hK hP 0 rfl rfl 45 (by decide) hw6 (fun _ h9 => h9) rfl (zdt_at zt_X10_wrap_2 47 rfl) ?_
      refine lv_bipush (pc := 321) (v := (16 : Int32)) hx hb (zdt_at zt_X10_wrap_2 48 rfl) (by decide) ?_
      refine lv_iload (pc := 323) hx hb (zdt_at zt_X10_wrap_2 49 rfl) (lv_at hl 4 rfl) ?_
      refine lv_iadd (pc := 325) hx hb (zdt_at zt_X10_wrap_2 50 rfl) ?_
      refine lv_aload_n (pc := 326) hx hb (zdt_at zt_X10_wrap_2 51 rfl) rfl (lv_at hl 0 rfl) ?_
      refine va_get (pc := 327) (D := D) (ci := 12) (v := .ref (hm 14)) (C := RX10) (T := TX10) (N := 52) hx hb hts hcX10 hown hK hP 0 rfl rfl 14 (by decide) hw8 (fun _ h9 => h9) rfl (zdt_at zt_X10_wrap_2 52 rfl) ?_
      refine lv_bipush (pc := 330) (v := (64 : Int32)) hx hb (zdt_at zt_X10_wrap_2 53 rfl) (by decide) ?_
      refine lv_iload_n (pc := 332) hx hb (zdt_at zt_X10_wrap_2 54 rfl) rfl (lv_at hl 1 rfl) ?_
      refine lv_imul (pc := 333) hx hb (zdt_at zt_X10_wrap_2 55 rfl) ?_
      refine lv_iload (pc := 334) hx hb (zdt_at zt_X10_wrap_2 56 rfl) (lv_at hl 4 rfl) ?_
      refine lv_iadd (pc := 336) hx hb (zdt_at zt_X10_wrap_2 57 rfl) ?_
      replace hf := zk_s hf
      refine va_iald (pc := 337) hx hb hK hP 6 1 rfl rfl hf.1 (zdt_at zt_X10_wrap_2 58 rfl) ?_
      replace hf := hf.2
      replace hf := zk_s hf
      refine va_iast (pc := 338) hx hb hK hP hD hS 10 1 rfl rfl hf.1 (zdt_at zt_X10_wrap_2 59 rfl) ?_
      replace hf := hf.2
      clear hP hD hS
      intro H locs hP hD hS
      obtain ⟨c_result_116, e_⟩ : ∃ q : Nat → Int32, q = (upd c_result_60 ((16 : Int32) + i_59).toNatClampNeg (c_keys (((64 : Int32) * p1) + i_59).toNatClampNeg)) := ⟨_, rfl⟩
      replace hf := zn_s hf e_
      replace hP : va_P D vwCl ([(h0, .inr (12, zmo hm (0 : Int32) c_state c_test c_words c_ill c_before c_inRow c_first c_inWindow c_same c_made c_requests c_total c_secrets c_rounds c_high c_low c_keyHigh c_keyLow)), ((hm 43), .inl (cy 1, 16, .inl c_block)), ((hm 39), .inl (cy 1, 256, .inl c_box)), ((hm 6), .inl (cy 1, 512, .inl c_buffer)), ((hm 5), .inl (cy 1, 3, .inl c_counters)), ((hm 12), .inl (cy 1, 16, .inl c_holder)), ((hm 14), .inl (cy 1, 1024, .inl c_keys)), ((hm 9), .inl (cy 1, 16, .inl c_kind)), ((hm 10), .inl (cy 1, 16, .inl c_length)), ((hm 44), .inl (cy 1, 16, .inl c_other)), ((hm 45), .inl (cy 1, 600, .inl c_result_116)), ((hm 41), .inl (cy 1, 240, .inl c_round)), ((hm 11), .inl (cy 1, 16, .inl c_usage)), ((hm 13), .inl (cy 1, 16, .inl c_uses_49))]) H := by rw [e_]; exact hP
      replace hD : va_D A ([(h0, .inr (12, zmo hm (0 : Int32) c_state c_test c_words c_ill c_before c_inRow c_first c_inWindow c_same c_made c_requests c_total c_secrets c_rounds c_high c_low c_keyHigh c_keyLow)), ((hm 43), .inl (cy 1, 16, .inl c_block)), ((hm 39), .inl (cy 1, 256, .inl c_box)), ((hm 6), .inl (cy 1, 512, .inl c_buffer)), ((hm 5), .inl (cy 1, 3, .inl c_counters)), ((hm 12), .inl (cy 1, 16, .inl c_holder)), ((hm 14), .inl (cy 1, 1024, .inl c_keys)), ((hm 9), .inl (cy 1, 16, .inl c_kind)), ((hm 10), .inl (cy 1, 16, .inl c_length)), ((hm 44), .inl (cy 1, 16, .inl c_other)), ((hm 45), .inl (cy 1, 600, .inl c_result_116)), ((hm 41), .inl (cy 1, 240, .inl c_round)), ((hm 11), .inl (cy 1, 16, .inl c_usage)), ((hm 13), .inl (cy 1, 16, .inl c_uses_49))]) := by rw [e_]; exact hD
      clear e_
      refine lv_iinc (pc := 339) (v := (i_59 + (1 : Int32))) (lv' := [(4, .int (i_59 + (1 : Int32))), (0, .ref h0), (1, .int p1), (2, .int p2), (3, .int x_50)]) hx hb (zdt_at zt_X10_wrap_2 60 rfl) hl (k := 4) rfl rfl (by decide) rfl ?_
      clear hl
      intro ls hl
      refine lv_goto (pc := 342) (tgt := 306) hx hb (zdt_at zt_X10_wrap_2 61 rfl) (by decide) ?_
      exact hTo _ _ _ (ihself_113 _ hf H locs ls hP hD hS (lv_sub hl [1, 2, 3, 4, 0] rfl))
    clear eK_58
    refine hTo _ _ _ (zl_go (fun z => match z with | (i_55, c_result_56) => ∀ (H : Heap) (locs : List Loc) (ls : Array Slot), va_P D vwCl ([(h0, .inr (12, zmo hm (0 : Int32) c_state c_test c_words c_ill c_before c_inRow c_first c_inWindow c_same c_made c_requests c_total c_secrets c_rounds c_high c_low c_keyHigh c_keyLow)), ((hm 43), .inl (cy 1, 16, .inl c_block)), ((hm 39), .inl (cy 1, 256, .inl c_box)), ((hm 6), .inl (cy 1, 512, .inl c_buffer)), ((hm 5), .inl (cy 1, 3, .inl c_counters)), ((hm 12), .inl (cy 1, 16, .inl c_holder)), ((hm 14), .inl (cy 1, 1024, .inl c_keys)), ((hm 9), .inl (cy 1, 16, .inl c_kind)), ((hm 10), .inl (cy 1, 16, .inl c_length)), ((hm 44), .inl (cy 1, 16, .inl c_other)), ((hm 45), .inl (cy 1, 600, .inl c_result_56)), ((hm 41), .inl (cy 1, 240, .inl c_round)), ((hm 11), .inl (cy 1, 16, .inl c_usage)), ((hm 13), .inl (cy 1, 16, .inl c_uses_49))]) H → va_D A ([(h0, .inr (12, zmo hm (0 : Int32) c_state c_test c_words c_ill c_before c_inRow c_first c_inWindow c_same c_made c_requests c_total c_secrets c_rounds c_high c_low c_keyHigh c_keyLow)), ((hm 43), .inl (cy 1, 16, .inl c_block)), ((hm 39), .inl (cy 1, 256, .inl c_box)), ((hm 6), .inl (cy 1, 512, .inl c_buffer)), ((hm 5), .inl (cy 1, 3, .inl c_counters)), ((hm 12), .inl (cy 1, 16, .inl c_holder)), ((hm 14), .inl (cy 1, 1024, .inl c_keys)), ((hm 9), .inl (cy 1, 16, .inl c_kind)), ((hm 10), .inl (cy 1, 16, .inl c_length)), ((hm 44), .inl (cy 1, 16, .inl c_other)), ((hm 45), .inl (cy 1, 600, .inl c_result_56)), ((hm 41), .inl (cy 1, 240, .inl c_round)), ((hm 11), .inl (cy 1, 16, .inl c_usage)), ((hm 13), .inl (cy 1, 16, .inl c_uses_49))]) → va_S A s.heap H locs → lv_has ls 7 [(0, .ref h0), (1, .int p1), (2, .int p2), (3, .int x_50), (4, .int i_55)] → GW H locs (F0 m 235 ls [])) hf ?_ H locs ls hP hD hS (lv_sub hl [1, 2, 3, 4, 0] rfl))
    clear hf hl hP hD hS
    intro self_117 ihself_117 z hf
    obtain ⟨i_55, c_result_56⟩ := z
    intro H locs ls hP hD hS hl
    refine hFr _ _ _ ?_
    unfold b_X10_wrap_235 at hf
    refine lv_iload (pc := 235) hx hb (zdt_at zt_X10_wrap_2 3 rfl) (lv_at hl 4 rfl) ?_
    refine lv_bipush (pc := 237) (v := (8 : Int32)) hx hb (zdt_at zt_X10_wrap_2 4 rfl) (by decide) ?_
    refine lv_icmp_ge (pc := 239) (tgt := 303) hx hb (zdt_at zt_X10_wrap_2 5 rfl) (by decide) (fun cn_ => ?t_118) (fun cn_ => ?f_119)
    case t_118 =>
      replace hf := zt_s cn_ hf
      clear cn_
      exact hTo _ _ _ (kK_58 _ H locs ls hP hD hS (lv_sub hl [0, 1, 2, 3] rfl) hf)
    replace hf := ze_s cn_ hf
    clear cn_
    refine lv_aload_n (pc := 242) hx hb (zdt_at zt_X10_wrap_2 6 rfl) rfl (lv_at hl 0 rfl) ?_
    refine va_get (pc := 243) (D := D) (ci := 12) (v := .ref (hm 45)) (C := RX10) (T := TX10) (N := 52) hx hb hts hcX10 hown hK hP 0 rfl rfl 45 (by decide) hw6 (fun _ h9 => h9) rfl (zdt_at zt_X10_wrap_2 7 rfl) ?_
    refine lv_bipush (pc := 246) (v := (8 : Int32)) hx hb (zdt_at zt_X10_wrap_2 8 rfl) (by decide) ?_
    refine lv_iload (pc := 248) hx hb (zdt_at zt_X10_wrap_2 9 rfl) (lv_at hl 4 rfl) ?_
    refine lv_iadd (pc := 250) hx hb (zdt_at zt_X10_wrap_2 10 rfl) ?_
    refine lv_iload (pc := 251) hx hb (zdt_at zt_X10_wrap_2 11 rfl) (lv_at hl 4 rfl) ?_
    refine lv_if_ne (pc := 253) (tgt := 265) hx hb (zdt_at zt_X10_wrap_2 12 rfl) (by decide) (fun cn_ => ?t_120) (fun cn_ => ?f_121)
    case f_121 =>
      replace hf := zt_s cn_ hf
      clear cn_
      refine lv_aload_n (pc := 256) hx hb (zdt_at zt_X10_wrap_2 13 rfl) rfl (lv_at hl 0 rfl) ?_
      refine va_get (pc := 257) (D := D) (ci := 12) (v := .ref (hm 9)) (C := RX10) (T := TX10) (N := 52) hx hb hts hcX10 hown hK hP 0 rfl rfl 9 (by decide) hw1 (fun _ h9 => h9) rfl (zdt_at zt_X10_wrap_2 14 rfl) ?_
      refine lv_iload_n (pc := 260) hx hb (zdt_at zt_X10_wrap_2 15 rfl) rfl (lv_at hl 1 rfl) ?_
      replace hf := zk_s hf
      refine va_iald (pc := 261) hx hb hK hP 7 1 rfl rfl hf.1 (zdt_at zt_X10_wrap_2 16 rfl) ?_
      replace hf := hf.2
      refine lv_goto (pc := 262) (tgt := 296) hx hb (zdt_at zt_X10_wrap_2 17 rfl) (by decide) ?_
      replace hf := zk_s hf
      refine va_iast (pc := 296) hx hb hK hP hD hS 10 1 rfl rfl hf.1 (zdt_at zt_X10_wrap_2 35 rfl) ?_
      replace hf := hf.2
      clear hP hD hS
      intro H locs hP hD hS
      obtain ⟨c_result_129, e_⟩ : ∃ q : Nat → Int32, q = (upd c_result_56 ((8 : Int32) + i_55).toNatClampNeg (c_kind p1.toNatClampNeg)) := ⟨_, rfl⟩
      replace hf := zn_s hf e_
      replace hP : va_P D vwCl ([(h0, .inr (12, zmo hm (0 : Int32) c_state c_test c_words c_ill c_before c_inRow c_first c_inWindow c_same c_made c_requests c_total c_secrets c_rounds c_high c_low c_keyHigh c_keyLow)), ((hm 43), .inl (cy 1, 16, .inl c_block)), ((hm 39), .inl (cy 1, 256, .inl c_box)), ((hm 6), .inl (cy 1, 512, .inl c_buffer)), ((hm 5), .inl (cy 1, 3, .inl c_counters)), ((hm 12), .inl (cy 1, 16, .inl c_holder)), ((hm 14), .inl (cy 1, 1024, .inl c_keys)), ((hm 9), .inl (cy 1, 16, .inl c_kind)), ((hm 10), .inl (cy 1, 16, .inl c_length)), ((hm 44), .inl (cy 1, 16, .inl c_other)), ((hm 45), .inl (cy 1, 600, .inl c_result_129)), ((hm 41), .inl (cy 1, 240, .inl c_round)), ((hm 11), .inl (cy 1, 16, .inl c_usage)), ((hm 13), .inl (cy 1, 16, .inl c_uses_49))]) H := by rw [e_]; exact hP
      replace hD : va_D A ([(h0, .inr (12, zmo hm (0 : Int32) c_state c_test c_words c_ill c_before c_inRow c_first c_inWindow c_same c_made c_requests c_total c_secrets c_rounds c_high c_low c_keyHigh c_keyLow)), ((hm 43), .inl (cy 1, 16, .inl c_block)), ((hm 39), .inl (cy 1, 256, .inl c_box)), ((hm 6), .inl (cy 1, 512, .inl c_buffer)), ((hm 5), .inl (cy 1, 3, .inl c_counters)), ((hm 12), .inl (cy 1, 16, .inl c_holder)), ((hm 14), .inl (cy 1, 1024, .inl c_keys)), ((hm 9), .inl (cy 1, 16, .inl c_kind)), ((hm 10), .inl (cy 1, 16, .inl c_length)), ((hm 44), .inl (cy 1, 16, .inl c_other)), ((hm 45), .inl (cy 1, 600, .inl c_result_129)), ((hm 41), .inl (cy 1, 240, .inl c_round)), ((hm 11), .inl (cy 1, 16, .inl c_usage)), ((hm 13), .inl (cy 1, 16, .inl c_uses_49))]) := by rw [e_]; exact hD
      clear e_
      refine lv_iinc (pc := 297) (v := (i_55 + (1 : Int32))) (lv' := [(4, .int (i_55 + (1 : Int32))), (0, .ref h0), (1, .int p1), (2, .int p2), (3, .int x_50)]) hx hb (zdt_at zt_X10_wrap_2 36 rfl) hl (k := 4) rfl rfl (by decide) rfl ?_
      clear hl
      intro ls hl
      refine lv_goto (pc := 300) (tgt := 235) hx hb (zdt_at zt_X10_wrap_2 37 rfl) (by decide) ?_
      exact hTo _ _ _ (ihself_117 _ hf H locs ls hP hD hS (lv_sub hl [1, 2, 3, 4, 0] rfl))
    replace hf := ze_s cn_ hf
    clear cn_
    refine lv_iload (pc := 265) hx hb (zdt_at zt_X10_wrap_2 18 rfl) (lv_at hl 4 rfl) ?_
    refine lv_iconst (pc := 267) (v := (1 : Int32)) hx hb (zdt_at zt_X10_wrap_2 19 rfl) (by decide) ?_
    refine lv_icmp_ne (pc := 268) (tgt := 280) hx hb (zdt_at zt_X10_wrap_2 20 rfl) (by decide) (fun cn_ => ?t_122) (fun cn_ => ?f_123)
    case f_123 =>
      replace hf := zt_s cn_ hf
      clear cn_
      refine lv_aload_n (pc := 271) hx hb (zdt_at zt_X10_wrap_2 21 rfl) rfl (lv_at hl 0 rfl) ?_
      refine va_get (pc := 272) (D := D) (ci := 12) (v := .ref (hm 11)) (C := RX10) (T := TX10) (N := 52) hx hb hts hcX10 hown hK hP 0 rfl rfl 11 (by decide) hw3 (fun _ h9 => h9) rfl (zdt_at zt_X10_wrap_2 22 rfl) ?_
      refine lv_iload_n (pc := 275) hx hb (zdt_at zt_X10_wrap_2 23 rfl) rfl (lv_at hl 1 rfl) ?_
      replace hf := zk_s hf
      refine va_iald (pc := 276) hx hb hK hP 12 1 rfl rfl hf.1 (zdt_at zt_X10_wrap_2 24 rfl) ?_
      replace hf := hf.2
      refine lv_goto (pc := 277) (tgt := 296) hx hb (zdt_at zt_X10_wrap_2 25 rfl) (by decide) ?_
      replace hf := zk_s hf
      refine va_iast (pc := 296) hx hb hK hP hD hS 10 1 rfl rfl hf.1 (zdt_at zt_X10_wrap_2 35 rfl) ?_
      replace hf := hf.2
      clear hP hD hS
      intro H locs hP hD hS
      obtain ⟨c_result_128, e_⟩ : ∃ q : Nat → Int32, q = (upd c_result_56 ((8 : Int32) + i_55).toNatClampNeg (c_usage p1.toNatClampNeg)) := ⟨_, rfl⟩
      replace hf := zn_s hf e_
      replace hP : va_P D vwCl ([(h0, .inr (12, zmo hm (0 : Int32) c_state c_test c_words c_ill c_before c_inRow c_first c_inWindow c_same c_made c_requests c_total c_secrets c_rounds c_high c_low c_keyHigh c_keyLow)), ((hm 43), .inl (cy 1, 16, .inl c_block)), ((hm 39), .inl (cy 1, 256, .inl c_box)), ((hm 6), .inl (cy 1, 512, .inl c_buffer)), ((hm 5), .inl (cy 1, 3, .inl c_counters)), ((hm 12), .inl (cy 1, 16, .inl c_holder)), ((hm 14), .inl (cy 1, 1024, .inl c_keys)), ((hm 9), .inl (cy 1, 16, .inl c_kind)), ((hm 10), .inl (cy 1, 16, .inl c_length)), ((hm 44), .inl (cy 1, 16, .inl c_other)), ((hm 45), .inl (cy 1, 600, .inl c_result_128)), ((hm 41), .inl (cy 1, 240, .inl c_round)), ((hm 11), .inl (cy 1, 16, .inl c_usage)), ((hm 13), .inl (cy 1, 16, .inl c_uses_49))]) H := by rw [e_]; exact hP
      replace hD : va_D A ([(h0, .inr (12, zmo hm (0 : Int32) c_state c_test c_words c_ill c_before c_inRow c_first c_inWindow c_same c_made c_requests c_total c_secrets c_rounds c_high c_low c_keyHigh c_keyLow)), ((hm 43), .inl (cy 1, 16, .inl c_block)), ((hm 39), .inl (cy 1, 256, .inl c_box)), ((hm 6), .inl (cy 1, 512, .inl c_buffer)), ((hm 5), .inl (cy 1, 3, .inl c_counters)), ((hm 12), .inl (cy 1, 16, .inl c_holder)), ((hm 14), .inl (cy 1, 1024, .inl c_keys)), ((hm 9), .inl (cy 1, 16, .inl c_kind)), ((hm 10), .inl (cy 1, 16, .inl c_length)), ((hm 44), .inl (cy 1, 16, .inl c_other)), ((hm 45), .inl (cy 1, 600, .inl c_result_128)), ((hm 41), .inl (cy 1, 240, .inl c_round)), ((hm 11), .inl (cy 1, 16, .inl c_usage)), ((hm 13), .inl (cy 1, 16, .inl c_uses_49))]) := by rw [e_]; exact hD
      clear e_
      refine lv_iinc (pc := 297) (v := (i_55 + (1 : Int32))) (lv' := [(4, .int (i_55 + (1 : Int32))), (0, .ref h0), (1, .int p1), (2, .int p2), (3, .int x_50)]) hx hb (zdt_at zt_X10_wrap_2 36 rfl) hl (k := 4) rfl rfl (by decide) rfl ?_
      clear hl
      intro ls hl
      refine lv_goto (pc := 300) (tgt := 235) hx hb (zdt_at zt_X10_wrap_2 37 rfl) (by decide) ?_
      exact hTo _ _ _ (ihself_117 _ hf H locs ls hP hD hS (lv_sub hl [1, 2, 3, 4, 0] rfl))
    replace hf := ze_s cn_ hf
    clear cn_
    refine lv_iload (pc := 280) hx hb (zdt_at zt_X10_wrap_2 26 rfl) (lv_at hl 4 rfl) ?_
    refine lv_iconst (pc := 282) (v := (2 : Int32)) hx hb (zdt_at zt_X10_wrap_2 27 rfl) (by decide) ?_
    refine lv_icmp_ne (pc := 283) (tgt := 295) hx hb (zdt_at zt_X10_wrap_2 28 rfl) (by decide) (fun cn_ => ?t_124) (fun cn_ => ?f_125)
    case t_124 =>
      replace hf := ze_s cn_ hf
      clear cn_
      refine lv_iconst (pc := 295) (v := (0 : Int32)) hx hb (zdt_at zt_X10_wrap_2 34 rfl) (by decide) ?_
      replace hf := zk_s hf
      refine va_iast (pc := 296) hx hb hK hP hD hS 10 1 rfl rfl hf.1 (zdt_at zt_X10_wrap_2 35 rfl) ?_
      replace hf := hf.2
      clear hP hD hS
      intro H locs hP hD hS
      obtain ⟨c_result_126, e_⟩ : ∃ q : Nat → Int32, q = (upd c_result_56 ((8 : Int32) + i_55).toNatClampNeg (0 : Int32)) := ⟨_, rfl⟩
      replace hf := zn_s hf e_
      replace hP : va_P D vwCl ([(h0, .inr (12, zmo hm (0 : Int32) c_state c_test c_words c_ill c_before c_inRow c_first c_inWindow c_same c_made c_requests c_total c_secrets c_rounds c_high c_low c_keyHigh c_keyLow)), ((hm 43), .inl (cy 1, 16, .inl c_block)), ((hm 39), .inl (cy 1, 256, .inl c_box)), ((hm 6), .inl (cy 1, 512, .inl c_buffer)), ((hm 5), .inl (cy 1, 3, .inl c_counters)), ((hm 12), .inl (cy 1, 16, .inl c_holder)), ((hm 14), .inl (cy 1, 1024, .inl c_keys)), ((hm 9), .inl (cy 1, 16, .inl c_kind)), ((hm 10), .inl (cy 1, 16, .inl c_length)), ((hm 44), .inl (cy 1, 16, .inl c_other)), ((hm 45), .inl (cy 1, 600, .inl c_result_126)), ((hm 41), .inl (cy 1, 240, .inl c_round)), ((hm 11), .inl (cy 1, 16, .inl c_usage)), ((hm 13), .inl (cy 1, 16, .inl c_uses_49))]) H := by rw [e_]; exact hP
      replace hD : va_D A ([(h0, .inr (12, zmo hm (0 : Int32) c_state c_test c_words c_ill c_before c_inRow c_first c_inWindow c_same c_made c_requests c_total c_secrets c_rounds c_high c_low c_keyHigh c_keyLow)), ((hm 43), .inl (cy 1, 16, .inl c_block)), ((hm 39), .inl (cy 1, 256, .inl c_box)), ((hm 6), .inl (cy 1, 512, .inl c_buffer)), ((hm 5), .inl (cy 1, 3, .inl c_counters)), ((hm 12), .inl (cy 1, 16, .inl c_holder)), ((hm 14), .inl (cy 1, 1024, .inl c_keys)), ((hm 9), .inl (cy 1, 16, .inl c_kind)), ((hm 10), .inl (cy 1, 16, .inl c_length)), ((hm 44), .inl (cy 1, 16, .inl c_other)), ((hm 45), .inl (cy 1, 600, .inl c_result_126)), ((hm 41), .inl (cy 1, 240, .inl c_round)), ((hm 11), .inl (cy 1, 16, .inl c_usage)), ((hm 13), .inl (cy 1, 16, .inl c_uses_49))]) := by rw [e_]; exact hD
      clear e_
      refine lv_iinc (pc := 297) (v := (i_55 + (1 : Int32))) (lv' := [(4, .int (i_55 + (1 : Int32))), (0, .ref h0), (1, .int p1), (2, .int p2), (3, .int x_50)]) hx hb (zdt_at zt_X10_wrap_2 36 rfl) hl (k := 4) rfl rfl (by decide) rfl ?_
      clear hl
      intro ls hl
      refine lv_goto (pc := 300) (tgt := 235) hx hb (zdt_at zt_X10_wrap_2 37 rfl) (by decide) ?_
      exact hTo _ _ _ (ihself_117 _ hf H locs ls hP hD hS (lv_sub hl [1, 2, 3, 4, 0] rfl))
    replace hf := zt_s cn_ hf
    clear cn_
    refine lv_aload_n (pc := 286) hx hb (zdt_at zt_X10_wrap_2 29 rfl) rfl (lv_at hl 0 rfl) ?_
    refine va_get (pc := 287) (D := D) (ci := 12) (v := .ref (hm 12)) (C := RX10) (T := TX10) (N := 52) hx hb hts hcX10 hown hK hP 0 rfl rfl 12 (by decide) hw9 (fun _ h9 => h9) rfl (zdt_at zt_X10_wrap_2 30 rfl) ?_
    refine lv_iload_n (pc := 290) hx hb (zdt_at zt_X10_wrap_2 31 rfl) rfl (lv_at hl 1 rfl) ?_
    replace hf := zk_s hf
    refine va_iald (pc := 291) hx hb hK hP 5 1 rfl rfl hf.1 (zdt_at zt_X10_wrap_2 32 rfl) ?_
    replace hf := hf.2
    refine lv_goto (pc := 292) (tgt := 296) hx hb (zdt_at zt_X10_wrap_2 33 rfl) (by decide) ?_
    replace hf := zk_s hf
    refine va_iast (pc := 296) hx hb hK hP hD hS 10 1 rfl rfl hf.1 (zdt_at zt_X10_wrap_2 35 rfl) ?_
    replace hf := hf.2
    clear hP hD hS
    intro H locs hP hD hS
    obtain ⟨c_result_127, e_⟩ : ∃ q : Nat → Int32, q = (upd c_result_56 ((8 : Int32) + i_55).toNatClampNeg (c_holder p1.toNatClampNeg)) := ⟨_, rfl⟩
    replace hf := zn_s hf e_
    replace hP : va_P D vwCl ([(h0, .inr (12, zmo hm (0 : Int32) c_state c_test c_words c_ill c_before c_inRow c_first c_inWindow c_same c_made c_requests c_total c_secrets c_rounds c_high c_low c_keyHigh c_keyLow)), ((hm 43), .inl (cy 1, 16, .inl c_block)), ((hm 39), .inl (cy 1, 256, .inl c_box)), ((hm 6), .inl (cy 1, 512, .inl c_buffer)), ((hm 5), .inl (cy 1, 3, .inl c_counters)), ((hm 12), .inl (cy 1, 16, .inl c_holder)), ((hm 14), .inl (cy 1, 1024, .inl c_keys)), ((hm 9), .inl (cy 1, 16, .inl c_kind)), ((hm 10), .inl (cy 1, 16, .inl c_length)), ((hm 44), .inl (cy 1, 16, .inl c_other)), ((hm 45), .inl (cy 1, 600, .inl c_result_127)), ((hm 41), .inl (cy 1, 240, .inl c_round)), ((hm 11), .inl (cy 1, 16, .inl c_usage)), ((hm 13), .inl (cy 1, 16, .inl c_uses_49))]) H := by rw [e_]; exact hP
    replace hD : va_D A ([(h0, .inr (12, zmo hm (0 : Int32) c_state c_test c_words c_ill c_before c_inRow c_first c_inWindow c_same c_made c_requests c_total c_secrets c_rounds c_high c_low c_keyHigh c_keyLow)), ((hm 43), .inl (cy 1, 16, .inl c_block)), ((hm 39), .inl (cy 1, 256, .inl c_box)), ((hm 6), .inl (cy 1, 512, .inl c_buffer)), ((hm 5), .inl (cy 1, 3, .inl c_counters)), ((hm 12), .inl (cy 1, 16, .inl c_holder)), ((hm 14), .inl (cy 1, 1024, .inl c_keys)), ((hm 9), .inl (cy 1, 16, .inl c_kind)), ((hm 10), .inl (cy 1, 16, .inl c_length)), ((hm 44), .inl (cy 1, 16, .inl c_other)), ((hm 45), .inl (cy 1, 600, .inl c_result_127)), ((hm 41), .inl (cy 1, 240, .inl c_round)), ((hm 11), .inl (cy 1, 16, .inl c_usage)), ((hm 13), .inl (cy 1, 16, .inl c_uses_49))]) := by rw [e_]; exact hD
    clear e_
    refine lv_iinc (pc := 297) (v := (i_55 + (1 : Int32))) (lv' := [(4, .int (i_55 + (1 : Int32))), (0, .ref h0), (1, .int p1), (2, .int p2), (3, .int x_50)]) hx hb (zdt_at zt_X10_wrap_2 36 rfl) hl (k := 4) rfl rfl (by decide) rfl ?_
    clear hl
    intro ls hl
    refine lv_goto (pc := 300) (tgt := 235) hx hb (zdt_at zt_X10_wrap_2 37 rfl) (by decide) ?_
    exact hTo _ _ _ (ihself_117 _ hf H locs ls hP hD hS (lv_sub hl [1, 2, 3, 4, 0] rfl))
  clear eK_54
  refine hTo _ _ _ (zl_go (fun z => match z with | (i_51, c_result_52) => ∀ (H : Heap) (locs : List Loc) (ls : Array Slot), va_P D vwCl ([(h0, .inr (12, zmo hm (0 : Int32) c_state c_test c_words c_ill c_before c_inRow c_first c_inWindow c_same c_made c_requests c_total c_secrets c_rounds c_high c_low c_keyHigh c_keyLow)), ((hm 43), .inl (cy 1, 16, .inl c_block)), ((hm 39), .inl (cy 1, 256, .inl c_box)), ((hm 6), .inl (cy 1, 512, .inl c_buffer)), ((hm 5), .inl (cy 1, 3, .inl c_counters)), ((hm 12), .inl (cy 1, 16, .inl c_holder)), ((hm 14), .inl (cy 1, 1024, .inl c_keys)), ((hm 9), .inl (cy 1, 16, .inl c_kind)), ((hm 10), .inl (cy 1, 16, .inl c_length)), ((hm 44), .inl (cy 1, 16, .inl c_other)), ((hm 45), .inl (cy 1, 600, .inl c_result_52)), ((hm 41), .inl (cy 1, 240, .inl c_round)), ((hm 11), .inl (cy 1, 16, .inl c_usage)), ((hm 13), .inl (cy 1, 16, .inl c_uses_49))]) H → va_D A ([(h0, .inr (12, zmo hm (0 : Int32) c_state c_test c_words c_ill c_before c_inRow c_first c_inWindow c_same c_made c_requests c_total c_secrets c_rounds c_high c_low c_keyHigh c_keyLow)), ((hm 43), .inl (cy 1, 16, .inl c_block)), ((hm 39), .inl (cy 1, 256, .inl c_box)), ((hm 6), .inl (cy 1, 512, .inl c_buffer)), ((hm 5), .inl (cy 1, 3, .inl c_counters)), ((hm 12), .inl (cy 1, 16, .inl c_holder)), ((hm 14), .inl (cy 1, 1024, .inl c_keys)), ((hm 9), .inl (cy 1, 16, .inl c_kind)), ((hm 10), .inl (cy 1, 16, .inl c_length)), ((hm 44), .inl (cy 1, 16, .inl c_other)), ((hm 45), .inl (cy 1, 600, .inl c_result_52)), ((hm 41), .inl (cy 1, 240, .inl c_round)), ((hm 11), .inl (cy 1, 16, .inl c_usage)), ((hm 13), .inl (cy 1, 16, .inl c_uses_49))]) → va_S A s.heap H locs → lv_has ls 7 [(0, .ref h0), (1, .int p1), (2, .int p2), (3, .int x_50), (4, .int i_51)] → GW H locs (F0 m 209 ls [])) hf ?_ H locs ls hP hD hS (lv_sub hl [2, 3, 4, 1, 0] rfl))
  clear hf hl hP hD hS
  intro self_130 ihself_130 z hf
  obtain ⟨i_51, c_result_52⟩ := z
  intro H locs ls hP hD hS hl
  refine hFr _ _ _ ?_
  unfold b_X10_wrap_209 at hf
  refine lv_iload (pc := 209) hx hb (zdt_at zt_X10_wrap_1 55 rfl) (lv_at hl 4 rfl) ?_
  refine lv_bipush (pc := 211) (v := (8 : Int32)) hx hb (zdt_at zt_X10_wrap_1 56 rfl) (by decide) ?_
  refine lv_icmp_ge (pc := 213) (tgt := 232) hx hb (zdt_at zt_X10_wrap_1 57 rfl) (by decide) (fun cn_ => ?t_131) (fun cn_ => ?f_132)
  case t_131 =>
    replace hf := zt_s cn_ hf
    clear cn_
    exact hTo _ _ _ (kK_54 _ H locs ls hP hD hS (lv_sub hl [0, 1, 2, 3] rfl) hf)
  replace hf := ze_s cn_ hf
  clear cn_
  refine lv_aload_n (pc := 216) hx hb (zdt_at zt_X10_wrap_1 58 rfl) rfl (lv_at hl 0 rfl) ?_
  refine va_get (pc := 217) (D := D) (ci := 12) (v := .ref (hm 45)) (C := RX10) (T := TX10) (N := 52) hx hb hts hcX10 hown hK hP 0 rfl rfl 45 (by decide) hw6 (fun _ h9 => h9) rfl (zdt_at zt_X10_wrap_1 59 rfl) ?_
  refine lv_iload (pc := 220) hx hb (zdt_at zt_X10_wrap_1 60 rfl) (lv_at hl 4 rfl) ?_
  refine lv_sipush (pc := 222) (v := (166 : Int32)) hx hb (zdt_at zt_X10_wrap_1 61 rfl) (by decide) ?_
  replace hf := zk_s hf
  refine va_iast (pc := 225) hx hb hK hP hD hS 10 1 rfl rfl hf.1 (zdt_at zt_X10_wrap_1 62 rfl) ?_
  replace hf := hf.2
  clear hP hD hS
  intro H locs hP hD hS
  obtain ⟨c_result_133, e_⟩ : ∃ q : Nat → Int32, q = (upd c_result_52 i_51.toNatClampNeg (166 : Int32)) := ⟨_, rfl⟩
  replace hf := zn_s hf e_
  replace hP : va_P D vwCl ([(h0, .inr (12, zmo hm (0 : Int32) c_state c_test c_words c_ill c_before c_inRow c_first c_inWindow c_same c_made c_requests c_total c_secrets c_rounds c_high c_low c_keyHigh c_keyLow)), ((hm 43), .inl (cy 1, 16, .inl c_block)), ((hm 39), .inl (cy 1, 256, .inl c_box)), ((hm 6), .inl (cy 1, 512, .inl c_buffer)), ((hm 5), .inl (cy 1, 3, .inl c_counters)), ((hm 12), .inl (cy 1, 16, .inl c_holder)), ((hm 14), .inl (cy 1, 1024, .inl c_keys)), ((hm 9), .inl (cy 1, 16, .inl c_kind)), ((hm 10), .inl (cy 1, 16, .inl c_length)), ((hm 44), .inl (cy 1, 16, .inl c_other)), ((hm 45), .inl (cy 1, 600, .inl c_result_133)), ((hm 41), .inl (cy 1, 240, .inl c_round)), ((hm 11), .inl (cy 1, 16, .inl c_usage)), ((hm 13), .inl (cy 1, 16, .inl c_uses_49))]) H := by rw [e_]; exact hP
  replace hD : va_D A ([(h0, .inr (12, zmo hm (0 : Int32) c_state c_test c_words c_ill c_before c_inRow c_first c_inWindow c_same c_made c_requests c_total c_secrets c_rounds c_high c_low c_keyHigh c_keyLow)), ((hm 43), .inl (cy 1, 16, .inl c_block)), ((hm 39), .inl (cy 1, 256, .inl c_box)), ((hm 6), .inl (cy 1, 512, .inl c_buffer)), ((hm 5), .inl (cy 1, 3, .inl c_counters)), ((hm 12), .inl (cy 1, 16, .inl c_holder)), ((hm 14), .inl (cy 1, 1024, .inl c_keys)), ((hm 9), .inl (cy 1, 16, .inl c_kind)), ((hm 10), .inl (cy 1, 16, .inl c_length)), ((hm 44), .inl (cy 1, 16, .inl c_other)), ((hm 45), .inl (cy 1, 600, .inl c_result_133)), ((hm 41), .inl (cy 1, 240, .inl c_round)), ((hm 11), .inl (cy 1, 16, .inl c_usage)), ((hm 13), .inl (cy 1, 16, .inl c_uses_49))]) := by rw [e_]; exact hD
  clear e_
  refine lv_iinc (pc := 226) (v := (i_51 + (1 : Int32))) (lv' := [(4, .int (i_51 + (1 : Int32))), (0, .ref h0), (1, .int p1), (2, .int p2), (3, .int x_50)]) hx hb (zdt_at zt_X10_wrap_1 63 rfl) hl (k := 4) rfl rfl (by decide) rfl ?_
  clear hl
  intro ls hl
  refine lv_goto (pc := 229) (tgt := 209) hx hb (zdt_at zt_X10_wrap_2 0 rfl) (by decide) ?_
  exact hTo _ _ _ (ihself_130 _ hf H locs ls hP hD hS (lv_sub hl [1, 2, 3, 4, 0] rfl))
set_option maxHeartbeats 4000000 in
set_option maxRecDepth 100000 in
theorem c_X10_unwrap (l : Launch) (D : va_G) (cy : Nat → ClassId) (tt : Nat → Nat) (sz : Nat) (h0 : Nat) (hm : Nat → Nat) (p1 : Int32) (p2 : Int32) (p3 : Int32) (c_rounds : Int32) (c_state : Int32) (c_thrown : Int32) (c_back : Nat → Int32) (c_block : Nat → Int32) (c_box : Nat → Int32) (c_buffer : Nat → Int32) (c_counters : Nat → Int32) (c_holder : Nat → Int32) (c_keys : Nat → Int32) (c_kind : Nat → Int32) (c_length : Nat → Int32) (c_other : Nat → Int32) (c_result : Nat → Int32) (c_round : Nat → Int32) (c_usage : Nat → Int32) (c_uses : Nat → Int32) (c_test : Int32) (c_words : Int32) (c_ill : Int32) (c_before : Int32) (c_inRow : Int32) (c_first : Int32) (c_inWindow : Int32) (c_same : Int32) (c_made : Int32) (c_requests : Int32) (c_total : Int64) (c_secrets : Int32) (c_high : Int64) (c_low : Int64) (c_keyHigh : Int64) (c_keyLow : Int64) (r_ : Int32) (c_rounds' : Int32) (c_thrown' : Int32) (c_block' : Nat → Int32) (c_counters' : Nat → Int32) (c_holder' : Nat → Int32) (c_keys' : Nat → Int32) (c_kind' : Nat → Int32) (c_length' : Nat → Int32) (c_other' : Nat → Int32) (c_result' : Nat → Int32) (c_round' : Nat → Int32) (c_usage' : Nat → Int32) (c_uses' : Nat → Int32) (hf : f_X10_unwrap p1 p2 p3 c_rounds c_state c_thrown c_back c_block c_box c_buffer c_counters c_holder c_keys c_kind c_length c_other c_result c_round c_usage c_uses = some (r_, c_rounds', c_thrown', c_block', c_counters', c_holder', c_keys', c_kind', c_length', c_other', c_result', c_round', c_usage', c_uses')) : Met l yX10_unwrap wsX10_unwrap ({ frames := 3, cells := 0, slots := 0, locals := 71 }) (zPc D cy tt sz [.ref h0, .int p1, .int p2, .int p3] ([(h0, .inr (12, zmo hm c_thrown c_state c_test c_words c_ill c_before c_inRow c_first c_inWindow c_same c_made c_requests c_total c_secrets c_rounds c_high c_low c_keyHigh c_keyLow)), ((hm 40), .inl (cy 1, 256, .inl c_back)), ((hm 43), .inl (cy 1, 16, .inl c_block)), ((hm 39), .inl (cy 1, 256, .inl c_box)), ((hm 6), .inl (cy 1, 512, .inl c_buffer)), ((hm 5), .inl (cy 1, 3, .inl c_counters)), ((hm 12), .inl (cy 1, 16, .inl c_holder)), ((hm 14), .inl (cy 1, 1024, .inl c_keys)), ((hm 9), .inl (cy 1, 16, .inl c_kind)), ((hm 10), .inl (cy 1, 16, .inl c_length)), ((hm 44), .inl (cy 1, 16, .inl c_other)), ((hm 45), .inl (cy 1, 600, .inl c_result)), ((hm 41), .inl (cy 1, 240, .inl c_round)), ((hm 11), .inl (cy 1, 16, .inl c_usage)), ((hm 13), .inl (cy 1, 16, .inl c_uses))])) (zQ D (some (.int r_)) ([(h0, .inr (12, zmo hm c_thrown' c_state c_test c_words c_ill c_before c_inRow c_first c_inWindow c_same c_made c_requests c_total c_secrets c_rounds' c_high c_low c_keyHigh c_keyLow)), ((hm 40), .inl (cy 1, 256, .inl c_back)), ((hm 43), .inl (cy 1, 16, .inl c_block')), ((hm 39), .inl (cy 1, 256, .inl c_box)), ((hm 6), .inl (cy 1, 512, .inl c_buffer)), ((hm 5), .inl (cy 1, 3, .inl c_counters')), ((hm 12), .inl (cy 1, 16, .inl c_holder')), ((hm 14), .inl (cy 1, 1024, .inl c_keys')), ((hm 9), .inl (cy 1, 16, .inl c_kind')), ((hm 10), .inl (cy 1, 16, .inl c_length')), ((hm 44), .inl (cy 1, 16, .inl c_other')), ((hm 45), .inl (cy 1, 600, .inl c_result')), ((hm 41), .inl (cy 1, 240, .inl c_round')), ((hm 11), .inl (cy 1, 16, .inl c_usage')), ((hm 13), .inl (cy 1, 16, .inl c_uses'))]) (va_A ([(h0, .inr (12, zmo hm c_thrown c_state c_test c_words c_ill c_before c_inRow c_first c_inWindow c_same c_made c_requests c_total c_secrets c_rounds c_high c_low c_keyHigh c_keyLow)), ((hm 40), .inl (cy 1, 256, .inl c_back)), ((hm 43), .inl (cy 1, 16, .inl c_block)), ((hm 39), .inl (cy 1, 256, .inl c_box)), ((hm 6), .inl (cy 1, 512, .inl c_buffer)), ((hm 5), .inl (cy 1, 3, .inl c_counters)), ((hm 12), .inl (cy 1, 16, .inl c_holder)), ((hm 14), .inl (cy 1, 1024, .inl c_keys)), ((hm 9), .inl (cy 1, 16, .inl c_kind)), ((hm 10), .inl (cy 1, 16, .inl c_length)), ((hm 44), .inl (cy 1, 16, .inl c_other)), ((hm 45), .inl (cy 1, 600, .inl c_result)), ((hm 41), .inl (cy 1, 240, .inl c_round)), ((hm 11), .inl (cy 1, 16, .inl c_usage)), ((hm 13), .inl (cy 1, 16, .inl c_uses))]) sz)) 0 0 (va_A ([(h0, .inr (12, zmo hm c_thrown c_state c_test c_words c_ill c_before c_inRow c_first c_inWindow c_same c_made c_requests c_total c_secrets c_rounds c_high c_low c_keyHigh c_keyLow)), ((hm 40), .inl (cy 1, 256, .inl c_back)), ((hm 43), .inl (cy 1, 16, .inl c_block)), ((hm 39), .inl (cy 1, 256, .inl c_box)), ((hm 6), .inl (cy 1, 512, .inl c_buffer)), ((hm 5), .inl (cy 1, 3, .inl c_counters)), ((hm 12), .inl (cy 1, 16, .inl c_holder)), ((hm 14), .inl (cy 1, 1024, .inl c_keys)), ((hm 9), .inl (cy 1, 16, .inl c_kind)), ((hm 10), .inl (cy 1, 16, .inl c_length)), ((hm 44), .inl (cy 1, 16, .inl c_other)), ((hm 45), .inl (cy 1, 600, .inl c_result)), ((hm 41), .inl (cy 1, 240, .inl c_round)), ((hm 11), .inl (cy 1, 16, .inl c_usage)), ((hm 13), .inl (cy 1, 16, .inl c_uses))]) sz) := by
  refine Met.ofW (cc := cX10_unwrap) (maxL := 8) (ret := (some .int)) (by decide) rfl ?_
  intro p e s m args below meth c s₁ B hml hv
  obtain ⟨rfl, rfl, hP, hD0, hE⟩ := hv
  have hx := B.exec
  have hb := B.bytes
  have hr := B.returns
  have hts := atoms_spec (ws := wsX10_unwrap) B.pre
  have hown : s.vm.findClass RX10 = some m.cls := findClass_of_methodNamed B.named
  have hlocks := B.notSynchronized
  clear B
  have hD := hD0.self (sz := s.heap.size)
  generalize hAe : va_A ([(h0, .inr (12, zmo hm c_thrown c_state c_test c_words c_ill c_before c_inRow c_first c_inWindow c_same c_made c_requests c_total c_secrets c_rounds c_high c_low c_keyHigh c_keyLow)), ((hm 40), .inl (cy 1, 256, .inl c_back)), ((hm 43), .inl (cy 1, 16, .inl c_block)), ((hm 39), .inl (cy 1, 256, .inl c_box)), ((hm 6), .inl (cy 1, 512, .inl c_buffer)), ((hm 5), .inl (cy 1, 3, .inl c_counters)), ((hm 12), .inl (cy 1, 16, .inl c_holder)), ((hm 14), .inl (cy 1, 1024, .inl c_keys)), ((hm 9), .inl (cy 1, 16, .inl c_kind)), ((hm 10), .inl (cy 1, 16, .inl c_length)), ((hm 44), .inl (cy 1, 16, .inl c_other)), ((hm 45), .inl (cy 1, 600, .inl c_result)), ((hm 41), .inl (cy 1, 240, .inl c_round)), ((hm 11), .inl (cy 1, 16, .inl c_usage)), ((hm 13), .inl (cy 1, 16, .inl c_uses))]) s.heap.size = A at hD hE ⊢
  have hA : ∀ q : Nat, s.heap.size ≤ q → A q := fun q h => by rw [← hAe]; exact Or.inr h
  clear hAe hD0
  have hS : va_S A s.heap s.heap [] := va_S.rf
  have hK := hE.1
  have hw0 := hts (.fieldLink RX10 189 "SealedModuleModel" "thrown" "I") (by decide +kernel)
  have hw1 := hts (.fieldLink RX10 93 "SealedModuleModel" "kind" "[I") (by decide +kernel)
  have hw2 := hts (.fieldLink RX10 99 "SealedModuleModel" "usage" "[I") (by decide +kernel)
  have hw3 := hts (.fieldLink RX10 105 "SealedModuleModel" "uses" "[I") (by decide +kernel)
  have hw4 := hts (.fieldLink RX10 168 "SealedModuleModel" "result" "[I") (by decide +kernel)
  have hw5 := hts (.fieldLink RX10 108 "SealedModuleModel" "keys" "[I") (by decide +kernel)
  have hw6 := hts (.fieldLink RX10 162 "SealedModuleModel" "block" "[I") (by decide +kernel)
  have hw7 := hts (.fieldLink RX10 84 "SealedModuleModel" "buffer" "[I") (by decide +kernel)
  have hcX10 : ∀ w ∈ u_ws RX10 TX10 52, w ∈ wsX10_unwrap := (fun _ h => List.mem_cons_of_mem _ (List.mem_append_right _ h))
  have hl := lv_entry ([.ref h0, .int p1, .int p2, .int p3]) (n := 8) (Nat.le_of_ble_eq_true rfl)
  rw [lg_entry_eq]
  generalize (lg_sl ([.ref h0, .int p1, .int p2, .int p3]) ++ List.replicate (8 - (lg_sl ([.ref h0, .int p1, .int p2, .int p3])).length) Slot.unset).toArray = ls at hl ⊢
  replace hl : lv_has ls 8 [(0, .ref h0), (1, .int p1), (2, .int p2), (3, .int p3)] := hl
  unfold f_X10_unwrap at hf
  refine zgo (fun GW hTo hFr => ?_)
  refine hFr _ _ _ ?_
  obtain ⟨H, hHe⟩ : ∃ H, H = s.heap := ⟨_, rfl⟩
  obtain ⟨locs, hLe⟩ : ∃ L : List Loc, L = [] := ⟨_, rfl⟩
  rw [← hHe] at hP
  replace hS : va_S A s.heap H locs := by rw [hHe, hLe]; exact hS
  refine zat hHe.symm hLe.symm ?_
  clear hHe hLe
  refine lv_aload_n (pc := 0) hx hb (zdt_at zt_X10_unwrap_0 0 rfl) rfl (lv_at hl 0 rfl) ?_
  refine lv_iconst (pc := 1) (v := (0 : Int32)) hx hb (zdt_at zt_X10_unwrap_0 1 rfl) (by decide) ?_
  refine va_put (pc := 2) (D := D) (ci := 12) (v := .int (0 : Int32)) (ty := .int) (C := RX10) (T := TX10) (N := 52) hx hb hts hcX10 tyX10 tyX10_ok nmX10 hown hK hP hD hS 0 rfl rfl 1 (by decide) hw0 (fun _ h9 => h9) rfl (by decide +kernel) rfl rfl (Nat.le_of_ble_eq_true rfl) (zdt_at zt_X10_unwrap_0 2 rfl) ?_
  clear hP hD hS
  intro H locs hP hD hS
  replace hP : va_P D vwCl ([(h0, .inr (12, zmo hm (0 : Int32) c_state c_test c_words c_ill c_before c_inRow c_first c_inWindow c_same c_made c_requests c_total c_secrets c_rounds c_high c_low c_keyHigh c_keyLow)), ((hm 40), .inl (cy 1, 256, .inl c_back)), ((hm 43), .inl (cy 1, 16, .inl c_block)), ((hm 39), .inl (cy 1, 256, .inl c_box)), ((hm 6), .inl (cy 1, 512, .inl c_buffer)), ((hm 5), .inl (cy 1, 3, .inl c_counters)), ((hm 12), .inl (cy 1, 16, .inl c_holder)), ((hm 14), .inl (cy 1, 1024, .inl c_keys)), ((hm 9), .inl (cy 1, 16, .inl c_kind)), ((hm 10), .inl (cy 1, 16, .inl c_length)), ((hm 44), .inl (cy 1, 16, .inl c_other)), ((hm 45), .inl (cy 1, 600, .inl c_result)), ((hm 41), .inl (cy 1, 240, .inl c_round)), ((hm 11), .inl (cy 1, 16, .inl c_usage)), ((hm 13), .inl (cy 1, 16, .inl c_uses))]) H := hP
  replace hD : va_D A ([(h0, .inr (12, zmo hm (0 : Int32) c_state c_test c_words c_ill c_before c_inRow c_first c_inWindow c_same c_made c_requests c_total c_secrets c_rounds c_high c_low c_keyHigh c_keyLow)), ((hm 40), .inl (cy 1, 256, .inl c_back)), ((hm 43), .inl (cy 1, 16, .inl c_block)), ((hm 39), .inl (cy 1, 256, .inl c_box)), ((hm 6), .inl (cy 1, 512, .inl c_buffer)), ((hm 5), .inl (cy 1, 3, .inl c_counters)), ((hm 12), .inl (cy 1, 16, .inl c_holder)), ((hm 14), .inl (cy 1, 1024, .inl c_keys)), ((hm 9), .inl (cy 1, 16, .inl c_kind)), ((hm 10), .inl (cy 1, 16, .inl c_length)), ((hm 44), .inl (cy 1, 16, .inl c_other)), ((hm 45), .inl (cy 1, 600, .inl c_result)), ((hm 41), .inl (cy 1, 240, .inl c_round)), ((hm 11), .inl (cy 1, 16, .inl c_usage)), ((hm 13), .inl (cy 1, 16, .inl c_uses))]) := hD
  refine lv_aload_n (pc := 5) hx hb (zdt_at zt_X10_unwrap_0 3 rfl) rfl (lv_at hl 0 rfl) ?_
  replace hf := zb_s hf
  obtain ⟨r_1, hc_, hf⟩ := hf
  refine zcs (pc := 6) (rv := (some (.int r_1))) (va_runV (As := []) (rest := []) ⟨hx, hb, hml, hown, hts⟩ (c_X10_isIn l D cy tt H.size h0 hm c_state (0 : Int32) c_test c_words c_ill c_before c_inRow c_first c_inWindow c_same c_made c_requests c_total c_secrets c_rounds c_high c_low c_keyHigh c_keyLow r_1 hc_) (cwV 0 hts gX10_unwrap_X10_isIn rfl rfl rfl (by decide +kernel) ⟨Nat.le_of_ble_eq_true rfl, Nat.le_of_ble_eq_true rfl⟩) ⟨zblind, va_recv hK hP (ci := 12) (q0 := 0) rfl rfl, zpre hE hS (hP.sub [0] rfl) (hD.sub [0] (by decide) rfl) (va_free hD hS hA [0] rfl)⟩ rfl rfl hl.1 rfl (lv_room (Nat.le_of_ble_eq_true rfl)) (zdt_at zt_X10_unwrap_0 4 rfl) ⟨Nat.zero_le _, Nat.zero_le _⟩) ?_
  clear hc_
  refine W.eq (g2 := F0 m 9 ls [.int r_1]) rfl ?_
  refine lv_if_ne (pc := 9) (tgt := 18) hx hb (zdt_at zt_X10_unwrap_0 5 rfl) (by decide) (fun cn_ => ?t_2) (fun cn_ => ?f_3)
  case f_3 =>
    replace hf := zt_s cn_ hf
    clear cn_
    refine lv_aload_n (pc := 12) hx hb (zdt_at zt_X10_unwrap_0 6 rfl) rfl (lv_at hl 0 rfl) ?_
    refine lv_iconst (pc := 13) (v := (-1 : Int32)) hx hb (zdt_at zt_X10_unwrap_0 7 rfl) (by decide) ?_
    replace hf := zb_s hf
    obtain ⟨⟨r_151, c_counters_152⟩, hc_, hf⟩ := hf
    refine zcn2 (pc := 14) (rv := (some (.int r_151))) (va_runV (As := [.int (-1 : Int32)]) (rest := []) ⟨hx, hb, hml, hown, hts⟩ (c_X10_answer l D cy tt H.size h0 hm (-1 : Int32) c_counters (0 : Int32) c_state c_test c_words c_ill c_before c_inRow c_first c_inWindow c_same c_made c_requests c_total c_secrets c_rounds c_high c_low c_keyHigh c_keyLow r_151 c_counters_152 hc_) (cwV 1 hts gX10_unwrap_X10_answer rfl rfl rfl (by decide +kernel) ⟨Nat.le_of_ble_eq_true rfl, Nat.le_of_ble_eq_true rfl⟩) ⟨zblind, va_recv hK hP (ci := 12) (q0 := 0) rfl rfl, zpre hE hS (hP.sub [0, 5] rfl) (hD.sub [0, 5] (by decide) rfl) (va_free hD hS hA [0, 5] rfl)⟩ rfl rfl hl.1 rfl (lv_room (Nat.le_of_ble_eq_true rfl)) (zdt_at zt_X10_unwrap_0 8 rfl) ⟨Nat.zero_le _, Nat.zero_le _⟩) hS hP hD (va_free hD hS hA [0, 5] rfl) [0, 5] rfl (by decide) rfl ?_
    clear hP hD hS hc_
    intro H locs hP hD hS
    replace hP : va_P D vwCl ([(h0, .inr (12, zmo hm (0 : Int32) c_state c_test c_words c_ill c_before c_inRow c_first c_inWindow c_same c_made c_requests c_total c_secrets c_rounds c_high c_low c_keyHigh c_keyLow)), ((hm 40), .inl (cy 1, 256, .inl c_back)), ((hm 43), .inl (cy 1, 16, .inl c_block)), ((hm 39), .inl (cy 1, 256, .inl c_box)), ((hm 6), .inl (cy 1, 512, .inl c_buffer)), ((hm 5), .inl (cy 1, 3, .inl c_counters_152)), ((hm 12), .inl (cy 1, 16, .inl c_holder)), ((hm 14), .inl (cy 1, 1024, .inl c_keys)), ((hm 9), .inl (cy 1, 16, .inl c_kind)), ((hm 10), .inl (cy 1, 16, .inl c_length)), ((hm 44), .inl (cy 1, 16, .inl c_other)), ((hm 45), .inl (cy 1, 600, .inl c_result)), ((hm 41), .inl (cy 1, 240, .inl c_round)), ((hm 11), .inl (cy 1, 16, .inl c_usage)), ((hm 13), .inl (cy 1, 16, .inl c_uses))]) H := hP
    replace hD : va_D A ([(h0, .inr (12, zmo hm (0 : Int32) c_state c_test c_words c_ill c_before c_inRow c_first c_inWindow c_same c_made c_requests c_total c_secrets c_rounds c_high c_low c_keyHigh c_keyLow)), ((hm 40), .inl (cy 1, 256, .inl c_back)), ((hm 43), .inl (cy 1, 16, .inl c_block)), ((hm 39), .inl (cy 1, 256, .inl c_box)), ((hm 6), .inl (cy 1, 512, .inl c_buffer)), ((hm 5), .inl (cy 1, 3, .inl c_counters_152)), ((hm 12), .inl (cy 1, 16, .inl c_holder)), ((hm 14), .inl (cy 1, 1024, .inl c_keys)), ((hm 9), .inl (cy 1, 16, .inl c_kind)), ((hm 10), .inl (cy 1, 16, .inl c_length)), ((hm 44), .inl (cy 1, 16, .inl c_other)), ((hm 45), .inl (cy 1, 600, .inl c_result)), ((hm 41), .inl (cy 1, 240, .inl c_round)), ((hm 11), .inl (cy 1, 16, .inl c_usage)), ((hm 13), .inl (cy 1, 16, .inl c_uses))]) := hD
    refine W.eq (g2 := F0 m 17 ls [.int r_151]) rfl ?_
    cases hf
    exact W.iret (pc := 17) hx hb hr (fun t ht hW => ⟨rfl, ⟨by rw [ht]; exact hP, hD⟩, hS.F ht⟩) hS.2.2 (zdt_at zt_X10_unwrap_0 9 rfl)
  replace hf := ze_s cn_ hf
  clear cn_
  refine lv_iload_n (pc := 18) hx hb (zdt_at zt_X10_unwrap_0 10 rfl) rfl (lv_at hl 1 rfl) ?_
  refine lv_iconst (pc := 19) (v := (0 : Int32)) hx hb (zdt_at zt_X10_unwrap_0 11 rfl) (by decide) ?_
  refine lv_bipush (pc := 20) (v := (15 : Int32)) hx hb (zdt_at zt_X10_unwrap_0 12 rfl) (by decide) ?_
  replace hf := zb_s hf
  obtain ⟨r_4, hc_, hf⟩ := hf
  refine zcs (pc := 22) (rv := (some (.int r_4))) (va_runS (As := [.int p1, .int (0 : Int32), .int (15 : Int32)]) (rest := []) ⟨hx, hb, hml, hown, hts⟩ (c_X10_in l D cy tt H.size p1 (0 : Int32) (15 : Int32) r_4 hc_) (va_cwS 3 hts gX10_unwrap_X10_in rfl rfl rfl (by decide +kernel) ⟨Nat.le_of_ble_eq_true rfl, Nat.le_of_ble_eq_true rfl⟩) ⟨zblind, zpre hE hS (hP.sub [] rfl) (hD.sub [] (by decide) rfl) (va_free hD hS hA [] rfl)⟩ rfl rfl hl.1 rfl (lv_room (Nat.le_of_ble_eq_true rfl)) (zdt_at zt_X10_unwrap_0 13 rfl) ⟨Nat.zero_le _, Nat.zero_le _⟩) ?_
  clear hc_
  refine W.eq (g2 := F0 m 25 ls [.int r_4]) rfl ?_
  refine lv_if_eq (pc := 25) (tgt := 56) hx hb (zdt_at zt_X10_unwrap_0 14 rfl) (by decide) (fun cn_ => ?t_5) (fun cn_ => ?f_6)
  case t_5 =>
    replace hf := zt_s cn_ hf
    clear cn_
    refine lv_aload_n (pc := 56) hx hb (zdt_at zt_X10_unwrap_0 29 rfl) rfl (lv_at hl 0 rfl) ?_
    refine lv_bipush (pc := 57) (v := (-2 : Int32)) hx hb (zdt_at zt_X10_unwrap_0 30 rfl) (by decide) ?_
    replace hf := zb_s hf
    obtain ⟨⟨r_7, c_counters_8⟩, hc_, hf⟩ := hf
    refine zcn2 (pc := 59) (rv := (some (.int r_7))) (va_runV (As := [.int (-2 : Int32)]) (rest := []) ⟨hx, hb, hml, hown, hts⟩ (c_X10_answer l D cy tt H.size h0 hm (-2 : Int32) c_counters (0 : Int32) c_state c_test c_words c_ill c_before c_inRow c_first c_inWindow c_same c_made c_requests c_total c_secrets c_rounds c_high c_low c_keyHigh c_keyLow r_7 c_counters_8 hc_) (cwV 1 hts gX10_unwrap_X10_answer rfl rfl rfl (by decide +kernel) ⟨Nat.le_of_ble_eq_true rfl, Nat.le_of_ble_eq_true rfl⟩) ⟨zblind, va_recv hK hP (ci := 12) (q0 := 0) rfl rfl, zpre hE hS (hP.sub [0, 5] rfl) (hD.sub [0, 5] (by decide) rfl) (va_free hD hS hA [0, 5] rfl)⟩ rfl rfl hl.1 rfl (lv_room (Nat.le_of_ble_eq_true rfl)) (zdt_at zt_X10_unwrap_0 31 rfl) ⟨Nat.zero_le _, Nat.zero_le _⟩) hS hP hD (va_free hD hS hA [0, 5] rfl) [0, 5] rfl (by decide) rfl ?_
    clear hP hD hS hc_
    intro H locs hP hD hS
    replace hP : va_P D vwCl ([(h0, .inr (12, zmo hm (0 : Int32) c_state c_test c_words c_ill c_before c_inRow c_first c_inWindow c_same c_made c_requests c_total c_secrets c_rounds c_high c_low c_keyHigh c_keyLow)), ((hm 40), .inl (cy 1, 256, .inl c_back)), ((hm 43), .inl (cy 1, 16, .inl c_block)), ((hm 39), .inl (cy 1, 256, .inl c_box)), ((hm 6), .inl (cy 1, 512, .inl c_buffer)), ((hm 5), .inl (cy 1, 3, .inl c_counters_8)), ((hm 12), .inl (cy 1, 16, .inl c_holder)), ((hm 14), .inl (cy 1, 1024, .inl c_keys)), ((hm 9), .inl (cy 1, 16, .inl c_kind)), ((hm 10), .inl (cy 1, 16, .inl c_length)), ((hm 44), .inl (cy 1, 16, .inl c_other)), ((hm 45), .inl (cy 1, 600, .inl c_result)), ((hm 41), .inl (cy 1, 240, .inl c_round)), ((hm 11), .inl (cy 1, 16, .inl c_usage)), ((hm 13), .inl (cy 1, 16, .inl c_uses))]) H := hP
    replace hD : va_D A ([(h0, .inr (12, zmo hm (0 : Int32) c_state c_test c_words c_ill c_before c_inRow c_first c_inWindow c_same c_made c_requests c_total c_secrets c_rounds c_high c_low c_keyHigh c_keyLow)), ((hm 40), .inl (cy 1, 256, .inl c_back)), ((hm 43), .inl (cy 1, 16, .inl c_block)), ((hm 39), .inl (cy 1, 256, .inl c_box)), ((hm 6), .inl (cy 1, 512, .inl c_buffer)), ((hm 5), .inl (cy 1, 3, .inl c_counters_8)), ((hm 12), .inl (cy 1, 16, .inl c_holder)), ((hm 14), .inl (cy 1, 1024, .inl c_keys)), ((hm 9), .inl (cy 1, 16, .inl c_kind)), ((hm 10), .inl (cy 1, 16, .inl c_length)), ((hm 44), .inl (cy 1, 16, .inl c_other)), ((hm 45), .inl (cy 1, 600, .inl c_result)), ((hm 41), .inl (cy 1, 240, .inl c_round)), ((hm 11), .inl (cy 1, 16, .inl c_usage)), ((hm 13), .inl (cy 1, 16, .inl c_uses))]) := hD
    refine W.eq (g2 := F0 m 62 ls [.int r_7]) rfl ?_
    cases hf
    exact W.iret (pc := 62) hx hb hr (fun t ht hW => ⟨rfl, ⟨by rw [ht]; exact hP, hD⟩, hS.F ht⟩) hS.2.2 (zdt_at zt_X10_unwrap_0 32 rfl)
  replace hf := ze_s cn_ hf
  clear cn_
  refine lv_iload_n (pc := 28) hx hb (zdt_at zt_X10_unwrap_0 15 rfl) rfl (lv_at hl 2 rfl) ?_
  refine lv_iconst (pc := 29) (v := (0 : Int32)) hx hb (zdt_at zt_X10_unwrap_0 16 rfl) (by decide) ?_
  refine lv_bipush (pc := 30) (v := (15 : Int32)) hx hb (zdt_at zt_X10_unwrap_0 17 rfl) (by decide) ?_
  replace hf := zb_s hf
  obtain ⟨r_9, hc_, hf⟩ := hf
  refine zcs (pc := 32) (rv := (some (.int r_9))) (va_runS (As := [.int p2, .int (0 : Int32), .int (15 : Int32)]) (rest := []) ⟨hx, hb, hml, hown, hts⟩ (c_X10_in l D cy tt H.size p2 (0 : Int32) (15 : Int32) r_9 hc_) (va_cwS 3 hts gX10_unwrap_X10_in rfl rfl rfl (by decide +kernel) ⟨Nat.le_of_ble_eq_true rfl, Nat.le_of_ble_eq_true rfl⟩) ⟨zblind, zpre hE hS (hP.sub [] rfl) (hD.sub [] (by decide) rfl) (va_free hD hS hA [] rfl)⟩ rfl rfl hl.1 rfl (lv_room (Nat.le_of_ble_eq_true rfl)) (zdt_at zt_X10_unwrap_0 18 rfl) ⟨Nat.zero_le _, Nat.zero_le _⟩) ?_
  clear hc_
  refine W.eq (g2 := F0 m 35 ls [.int r_9]) rfl ?_
  refine lv_if_eq (pc := 35) (tgt := 56) hx hb (zdt_at zt_X10_unwrap_0 19 rfl) (by decide) (fun cn_ => ?t_10) (fun cn_ => ?f_11)
  case t_10 =>
    replace hf := zt_s cn_ hf
    clear cn_
    refine lv_aload_n (pc := 56) hx hb (zdt_at zt_X10_unwrap_0 29 rfl) rfl (lv_at hl 0 rfl) ?_
    refine lv_bipush (pc := 57) (v := (-2 : Int32)) hx hb (zdt_at zt_X10_unwrap_0 30 rfl) (by decide) ?_
    replace hf := zb_s hf
    obtain ⟨⟨r_12, c_counters_13⟩, hc_, hf⟩ := hf
    refine zcn2 (pc := 59) (rv := (some (.int r_12))) (va_runV (As := [.int (-2 : Int32)]) (rest := []) ⟨hx, hb, hml, hown, hts⟩ (c_X10_answer l D cy tt H.size h0 hm (-2 : Int32) c_counters (0 : Int32) c_state c_test c_words c_ill c_before c_inRow c_first c_inWindow c_same c_made c_requests c_total c_secrets c_rounds c_high c_low c_keyHigh c_keyLow r_12 c_counters_13 hc_) (cwV 1 hts gX10_unwrap_X10_answer rfl rfl rfl (by decide +kernel) ⟨Nat.le_of_ble_eq_true rfl, Nat.le_of_ble_eq_true rfl⟩) ⟨zblind, va_recv hK hP (ci := 12) (q0 := 0) rfl rfl, zpre hE hS (hP.sub [0, 5] rfl) (hD.sub [0, 5] (by decide) rfl) (va_free hD hS hA [0, 5] rfl)⟩ rfl rfl hl.1 rfl (lv_room (Nat.le_of_ble_eq_true rfl)) (zdt_at zt_X10_unwrap_0 31 rfl) ⟨Nat.zero_le _, Nat.zero_le _⟩) hS hP hD (va_free hD hS hA [0, 5] rfl) [0, 5] rfl (by decide) rfl ?_
    clear hP hD hS hc_
    intro H locs hP hD hS
    replace hP : va_P D vwCl ([(h0, .inr (12, zmo hm (0 : Int32) c_state c_test c_words c_ill c_before c_inRow c_first c_inWindow c_same c_made c_requests c_total c_secrets c_rounds c_high c_low c_keyHigh c_keyLow)), ((hm 40), .inl (cy 1, 256, .inl c_back)), ((hm 43), .inl (cy 1, 16, .inl c_block)), ((hm 39), .inl (cy 1, 256, .inl c_box)), ((hm 6), .inl (cy 1, 512, .inl c_buffer)), ((hm 5), .inl (cy 1, 3, .inl c_counters_13)), ((hm 12), .inl (cy 1, 16, .inl c_holder)), ((hm 14), .inl (cy 1, 1024, .inl c_keys)), ((hm 9), .inl (cy 1, 16, .inl c_kind)), ((hm 10), .inl (cy 1, 16, .inl c_length)), ((hm 44), .inl (cy 1, 16, .inl c_other)), ((hm 45), .inl (cy 1, 600, .inl c_result)), ((hm 41), .inl (cy 1, 240, .inl c_round)), ((hm 11), .inl (cy 1, 16, .inl c_usage)), ((hm 13), .inl (cy 1, 16, .inl c_uses))]) H := hP
    replace hD : va_D A ([(h0, .inr (12, zmo hm (0 : Int32) c_state c_test c_words c_ill c_before c_inRow c_first c_inWindow c_same c_made c_requests c_total c_secrets c_rounds c_high c_low c_keyHigh c_keyLow)), ((hm 40), .inl (cy 1, 256, .inl c_back)), ((hm 43), .inl (cy 1, 16, .inl c_block)), ((hm 39), .inl (cy 1, 256, .inl c_box)), ((hm 6), .inl (cy 1, 512, .inl c_buffer)), ((hm 5), .inl (cy 1, 3, .inl c_counters_13)), ((hm 12), .inl (cy 1, 16, .inl c_holder)), ((hm 14), .inl (cy 1, 1024, .inl c_keys)), ((hm 9), .inl (cy 1, 16, .inl c_kind)), ((hm 10), .inl (cy 1, 16, .inl c_length)), ((hm 44), .inl (cy 1, 16, .inl c_other)), ((hm 45), .inl (cy 1, 600, .inl c_result)), ((hm 41), .inl (cy 1, 240, .inl c_round)), ((hm 11), .inl (cy 1, 16, .inl c_usage)), ((hm 13), .inl (cy 1, 16, .inl c_uses))]) := hD
    refine W.eq (g2 := F0 m 62 ls [.int r_12]) rfl ?_
    cases hf
    exact W.iret (pc := 62) hx hb hr (fun t ht hW => ⟨rfl, ⟨by rw [ht]; exact hP, hD⟩, hS.F ht⟩) hS.2.2 (zdt_at zt_X10_unwrap_0 32 rfl)
  replace hf := ze_s cn_ hf
  clear cn_
  refine lv_iload_n (pc := 38) hx hb (zdt_at zt_X10_unwrap_0 20 rfl) rfl (lv_at hl 3 rfl) ?_
  refine lv_bipush (pc := 39) (v := (24 : Int32)) hx hb (zdt_at zt_X10_unwrap_0 21 rfl) (by decide) ?_
  refine lv_bipush (pc := 41) (v := (80 : Int32)) hx hb (zdt_at zt_X10_unwrap_0 22 rfl) (by decide) ?_
  replace hf := zb_s hf
  obtain ⟨r_14, hc_, hf⟩ := hf
  refine zcs (pc := 43) (rv := (some (.int r_14))) (va_runS (As := [.int p3, .int (24 : Int32), .int (80 : Int32)]) (rest := []) ⟨hx, hb, hml, hown, hts⟩ (c_X10_in l D cy tt H.size p3 (24 : Int32) (80 : Int32) r_14 hc_) (va_cwS 3 hts gX10_unwrap_X10_in rfl rfl rfl (by decide +kernel) ⟨Nat.le_of_ble_eq_true rfl, Nat.le_of_ble_eq_true rfl⟩) ⟨zblind, zpre hE hS (hP.sub [] rfl) (hD.sub [] (by decide) rfl) (va_free hD hS hA [] rfl)⟩ rfl rfl hl.1 rfl (lv_room (Nat.le_of_ble_eq_true rfl)) (zdt_at zt_X10_unwrap_0 23 rfl) ⟨Nat.zero_le _, Nat.zero_le _⟩) ?_
  clear hc_
  refine W.eq (g2 := F0 m 46 ls [.int r_14]) rfl ?_
  refine lv_if_eq (pc := 46) (tgt := 56) hx hb (zdt_at zt_X10_unwrap_0 24 rfl) (by decide) (fun cn_ => ?t_15) (fun cn_ => ?f_16)
  case t_15 =>
    replace hf := zt_s cn_ hf
    clear cn_
    refine lv_aload_n (pc := 56) hx hb (zdt_at zt_X10_unwrap_0 29 rfl) rfl (lv_at hl 0 rfl) ?_
    refine lv_bipush (pc := 57) (v := (-2 : Int32)) hx hb (zdt_at zt_X10_unwrap_0 30 rfl) (by decide) ?_
    replace hf := zb_s hf
    obtain ⟨⟨r_17, c_counters_18⟩, hc_, hf⟩ := hf
    refine zcn2 (pc := 59) (rv := (some (.int r_17))) (va_runV (As := [.int (-2 : Int32)]) (rest := []) ⟨hx, hb, hml, hown, hts⟩ (c_X10_answer l D cy tt H.size h0 hm (-2 : Int32) c_counters (0 : Int32) c_state c_test c_words c_ill c_before c_inRow c_first c_inWindow c_same c_made c_requests c_total c_secrets c_rounds c_high c_low c_keyHigh c_keyLow r_17 c_counters_18 hc_) (cwV 1 hts gX10_unwrap_X10_answer rfl rfl rfl (by decide +kernel) ⟨Nat.le_of_ble_eq_true rfl, Nat.le_of_ble_eq_true rfl⟩) ⟨zblind, va_recv hK hP (ci := 12) (q0 := 0) rfl rfl, zpre hE hS (hP.sub [0, 5] rfl) (hD.sub [0, 5] (by decide) rfl) (va_free hD hS hA [0, 5] rfl)⟩ rfl rfl hl.1 rfl (lv_room (Nat.le_of_ble_eq_true rfl)) (zdt_at zt_X10_unwrap_0 31 rfl) ⟨Nat.zero_le _, Nat.zero_le _⟩) hS hP hD (va_free hD hS hA [0, 5] rfl) [0, 5] rfl (by decide) rfl ?_
    clear hP hD hS hc_
    intro H locs hP hD hS
    replace hP : va_P D vwCl ([(h0, .inr (12, zmo hm (0 : Int32) c_state c_test c_words c_ill c_before c_inRow c_first c_inWindow c_same c_made c_requests c_total c_secrets c_rounds c_high c_low c_keyHigh c_keyLow)), ((hm 40), .inl (cy 1, 256, .inl c_back)), ((hm 43), .inl (cy 1, 16, .inl c_block)), ((hm 39), .inl (cy 1, 256, .inl c_box)), ((hm 6), .inl (cy 1, 512, .inl c_buffer)), ((hm 5), .inl (cy 1, 3, .inl c_counters_18)), ((hm 12), .inl (cy 1, 16, .inl c_holder)), ((hm 14), .inl (cy 1, 1024, .inl c_keys)), ((hm 9), .inl (cy 1, 16, .inl c_kind)), ((hm 10), .inl (cy 1, 16, .inl c_length)), ((hm 44), .inl (cy 1, 16, .inl c_other)), ((hm 45), .inl (cy 1, 600, .inl c_result)), ((hm 41), .inl (cy 1, 240, .inl c_round)), ((hm 11), .inl (cy 1, 16, .inl c_usage)), ((hm 13), .inl (cy 1, 16, .inl c_uses))]) H := hP
    replace hD : va_D A ([(h0, .inr (12, zmo hm (0 : Int32) c_state c_test c_words c_ill c_before c_inRow c_first c_inWindow c_same c_made c_requests c_total c_secrets c_rounds c_high c_low c_keyHigh c_keyLow)), ((hm 40), .inl (cy 1, 256, .inl c_back)), ((hm 43), .inl (cy 1, 16, .inl c_block)), ((hm 39), .inl (cy 1, 256, .inl c_box)), ((hm 6), .inl (cy 1, 512, .inl c_buffer)), ((hm 5), .inl (cy 1, 3, .inl c_counters_18)), ((hm 12), .inl (cy 1, 16, .inl c_holder)), ((hm 14), .inl (cy 1, 1024, .inl c_keys)), ((hm 9), .inl (cy 1, 16, .inl c_kind)), ((hm 10), .inl (cy 1, 16, .inl c_length)), ((hm 44), .inl (cy 1, 16, .inl c_other)), ((hm 45), .inl (cy 1, 600, .inl c_result)), ((hm 41), .inl (cy 1, 240, .inl c_round)), ((hm 11), .inl (cy 1, 16, .inl c_usage)), ((hm 13), .inl (cy 1, 16, .inl c_uses))]) := hD
    refine W.eq (g2 := F0 m 62 ls [.int r_17]) rfl ?_
    cases hf
    exact W.iret (pc := 62) hx hb hr (fun t ht hW => ⟨rfl, ⟨by rw [ht]; exact hP, hD⟩, hS.F ht⟩) hS.2.2 (zdt_at zt_X10_unwrap_0 32 rfl)
  replace hf := ze_s cn_ hf
  clear cn_
  refine lv_iload_n (pc := 49) hx hb (zdt_at zt_X10_unwrap_0 25 rfl) rfl (lv_at hl 3 rfl) ?_
  refine lv_bipush (pc := 50) (v := (8 : Int32)) hx hb (zdt_at zt_X10_unwrap_0 26 rfl) (by decide) ?_
  replace hf := zk_s hf
  refine lv_irem (pc := 52) hx hb (zdt_at zt_X10_unwrap_0 27 rfl) hf.1 ?_
  replace hf := hf.2
  refine lv_if_le (pc := 53) (tgt := 63) hx hb (zdt_at zt_X10_unwrap_0 28 rfl) (by decide) (fun cn_ => ?t_19) (fun cn_ => ?f_20)
  case f_20 =>
    replace hf := ze_s cn_ hf
    clear cn_
    refine lv_aload_n (pc := 56) hx hb (zdt_at zt_X10_unwrap_0 29 rfl) rfl (lv_at hl 0 rfl) ?_
    refine lv_bipush (pc := 57) (v := (-2 : Int32)) hx hb (zdt_at zt_X10_unwrap_0 30 rfl) (by decide) ?_
    replace hf := zb_s hf
    obtain ⟨⟨r_149, c_counters_150⟩, hc_, hf⟩ := hf
    refine zcn2 (pc := 59) (rv := (some (.int r_149))) (va_runV (As := [.int (-2 : Int32)]) (rest := []) ⟨hx, hb, hml, hown, hts⟩ (c_X10_answer l D cy tt H.size h0 hm (-2 : Int32) c_counters (0 : Int32) c_state c_test c_words c_ill c_before c_inRow c_first c_inWindow c_same c_made c_requests c_total c_secrets c_rounds c_high c_low c_keyHigh c_keyLow r_149 c_counters_150 hc_) (cwV 1 hts gX10_unwrap_X10_answer rfl rfl rfl (by decide +kernel) ⟨Nat.le_of_ble_eq_true rfl, Nat.le_of_ble_eq_true rfl⟩) ⟨zblind, va_recv hK hP (ci := 12) (q0 := 0) rfl rfl, zpre hE hS (hP.sub [0, 5] rfl) (hD.sub [0, 5] (by decide) rfl) (va_free hD hS hA [0, 5] rfl)⟩ rfl rfl hl.1 rfl (lv_room (Nat.le_of_ble_eq_true rfl)) (zdt_at zt_X10_unwrap_0 31 rfl) ⟨Nat.zero_le _, Nat.zero_le _⟩) hS hP hD (va_free hD hS hA [0, 5] rfl) [0, 5] rfl (by decide) rfl ?_
    clear hP hD hS hc_
    intro H locs hP hD hS
    replace hP : va_P D vwCl ([(h0, .inr (12, zmo hm (0 : Int32) c_state c_test c_words c_ill c_before c_inRow c_first c_inWindow c_same c_made c_requests c_total c_secrets c_rounds c_high c_low c_keyHigh c_keyLow)), ((hm 40), .inl (cy 1, 256, .inl c_back)), ((hm 43), .inl (cy 1, 16, .inl c_block)), ((hm 39), .inl (cy 1, 256, .inl c_box)), ((hm 6), .inl (cy 1, 512, .inl c_buffer)), ((hm 5), .inl (cy 1, 3, .inl c_counters_150)), ((hm 12), .inl (cy 1, 16, .inl c_holder)), ((hm 14), .inl (cy 1, 1024, .inl c_keys)), ((hm 9), .inl (cy 1, 16, .inl c_kind)), ((hm 10), .inl (cy 1, 16, .inl c_length)), ((hm 44), .inl (cy 1, 16, .inl c_other)), ((hm 45), .inl (cy 1, 600, .inl c_result)), ((hm 41), .inl (cy 1, 240, .inl c_round)), ((hm 11), .inl (cy 1, 16, .inl c_usage)), ((hm 13), .inl (cy 1, 16, .inl c_uses))]) H := hP
    replace hD : va_D A ([(h0, .inr (12, zmo hm (0 : Int32) c_state c_test c_words c_ill c_before c_inRow c_first c_inWindow c_same c_made c_requests c_total c_secrets c_rounds c_high c_low c_keyHigh c_keyLow)), ((hm 40), .inl (cy 1, 256, .inl c_back)), ((hm 43), .inl (cy 1, 16, .inl c_block)), ((hm 39), .inl (cy 1, 256, .inl c_box)), ((hm 6), .inl (cy 1, 512, .inl c_buffer)), ((hm 5), .inl (cy 1, 3, .inl c_counters_150)), ((hm 12), .inl (cy 1, 16, .inl c_holder)), ((hm 14), .inl (cy 1, 1024, .inl c_keys)), ((hm 9), .inl (cy 1, 16, .inl c_kind)), ((hm 10), .inl (cy 1, 16, .inl c_length)), ((hm 44), .inl (cy 1, 16, .inl c_other)), ((hm 45), .inl (cy 1, 600, .inl c_result)), ((hm 41), .inl (cy 1, 240, .inl c_round)), ((hm 11), .inl (cy 1, 16, .inl c_usage)), ((hm 13), .inl (cy 1, 16, .inl c_uses))]) := hD
    refine W.eq (g2 := F0 m 62 ls [.int r_149]) rfl ?_
    cases hf
    exact W.iret (pc := 62) hx hb hr (fun t ht hW => ⟨rfl, ⟨by rw [ht]; exact hP, hD⟩, hS.F ht⟩) hS.2.2 (zdt_at zt_X10_unwrap_0 32 rfl)
  replace hf := zt_s cn_ hf
  clear cn_
  refine lv_aload_n (pc := 63) hx hb (zdt_at zt_X10_unwrap_0 33 rfl) rfl (lv_at hl 0 rfl) ?_
  refine lv_iload_n (pc := 64) hx hb (zdt_at zt_X10_unwrap_0 34 rfl) rfl (lv_at hl 2 rfl) ?_
  replace hf := zb_s hf
  obtain ⟨r_21, hc_, hf⟩ := hf
  refine zcs (pc := 65) (rv := (some (.int r_21))) (va_runV (As := [.int p2]) (rest := []) ⟨hx, hb, hml, hown, hts⟩ (c_X10_isOthers l D cy tt H.size h0 hm p2 c_state c_holder c_kind (0 : Int32) c_test c_words c_ill c_before c_inRow c_first c_inWindow c_same c_made c_requests c_total c_secrets c_rounds c_high c_low c_keyHigh c_keyLow r_21 hc_) (cwV 1 hts gX10_unwrap_X10_isOthers rfl rfl rfl (by decide +kernel) ⟨Nat.le_of_ble_eq_true rfl, Nat.le_of_ble_eq_true rfl⟩) ⟨zblind, va_recv hK hP (ci := 12) (q0 := 0) rfl rfl, zpre hE hS (hP.sub [0, 6, 8] rfl) (hD.sub [0, 6, 8] (by decide) rfl) (va_free hD hS hA [0, 6, 8] rfl)⟩ rfl rfl hl.1 rfl (lv_room (Nat.le_of_ble_eq_true rfl)) (zdt_at zt_X10_unwrap_0 35 rfl) ⟨Nat.zero_le _, Nat.zero_le _⟩) ?_
  clear hc_
  refine W.eq (g2 := F0 m 68 ls [.int r_21]) rfl ?_
  refine lv_if_eq (pc := 68) (tgt := 78) hx hb (zdt_at zt_X10_unwrap_0 36 rfl) (by decide) (fun cn_ => ?t_22) (fun cn_ => ?f_23)
  case f_23 =>
    replace hf := ze_s cn_ hf
    clear cn_
    refine lv_aload_n (pc := 71) hx hb (zdt_at zt_X10_unwrap_0 37 rfl) rfl (lv_at hl 0 rfl) ?_
    refine lv_bipush (pc := 72) (v := (-3 : Int32)) hx hb (zdt_at zt_X10_unwrap_0 38 rfl) (by decide) ?_
    replace hf := zb_s hf
    obtain ⟨⟨r_147, c_counters_148⟩, hc_, hf⟩ := hf
    refine zcn2 (pc := 74) (rv := (some (.int r_147))) (va_runV (As := [.int (-3 : Int32)]) (rest := []) ⟨hx, hb, hml, hown, hts⟩ (c_X10_answer l D cy tt H.size h0 hm (-3 : Int32) c_counters (0 : Int32) c_state c_test c_words c_ill c_before c_inRow c_first c_inWindow c_same c_made c_requests c_total c_secrets c_rounds c_high c_low c_keyHigh c_keyLow r_147 c_counters_148 hc_) (cwV 1 hts gX10_unwrap_X10_answer rfl rfl rfl (by decide +kernel) ⟨Nat.le_of_ble_eq_true rfl, Nat.le_of_ble_eq_true rfl⟩) ⟨zblind, va_recv hK hP (ci := 12) (q0 := 0) rfl rfl, zpre hE hS (hP.sub [0, 5] rfl) (hD.sub [0, 5] (by decide) rfl) (va_free hD hS hA [0, 5] rfl)⟩ rfl rfl hl.1 rfl (lv_room (Nat.le_of_ble_eq_true rfl)) (zdt_at zt_X10_unwrap_0 39 rfl) ⟨Nat.zero_le _, Nat.zero_le _⟩) hS hP hD (va_free hD hS hA [0, 5] rfl) [0, 5] rfl (by decide) rfl ?_
    clear hP hD hS hc_
    intro H locs hP hD hS
    replace hP : va_P D vwCl ([(h0, .inr (12, zmo hm (0 : Int32) c_state c_test c_words c_ill c_before c_inRow c_first c_inWindow c_same c_made c_requests c_total c_secrets c_rounds c_high c_low c_keyHigh c_keyLow)), ((hm 40), .inl (cy 1, 256, .inl c_back)), ((hm 43), .inl (cy 1, 16, .inl c_block)), ((hm 39), .inl (cy 1, 256, .inl c_box)), ((hm 6), .inl (cy 1, 512, .inl c_buffer)), ((hm 5), .inl (cy 1, 3, .inl c_counters_148)), ((hm 12), .inl (cy 1, 16, .inl c_holder)), ((hm 14), .inl (cy 1, 1024, .inl c_keys)), ((hm 9), .inl (cy 1, 16, .inl c_kind)), ((hm 10), .inl (cy 1, 16, .inl c_length)), ((hm 44), .inl (cy 1, 16, .inl c_other)), ((hm 45), .inl (cy 1, 600, .inl c_result)), ((hm 41), .inl (cy 1, 240, .inl c_round)), ((hm 11), .inl (cy 1, 16, .inl c_usage)), ((hm 13), .inl (cy 1, 16, .inl c_uses))]) H := hP
    replace hD : va_D A ([(h0, .inr (12, zmo hm (0 : Int32) c_state c_test c_words c_ill c_before c_inRow c_first c_inWindow c_same c_made c_requests c_total c_secrets c_rounds c_high c_low c_keyHigh c_keyLow)), ((hm 40), .inl (cy 1, 256, .inl c_back)), ((hm 43), .inl (cy 1, 16, .inl c_block)), ((hm 39), .inl (cy 1, 256, .inl c_box)), ((hm 6), .inl (cy 1, 512, .inl c_buffer)), ((hm 5), .inl (cy 1, 3, .inl c_counters_148)), ((hm 12), .inl (cy 1, 16, .inl c_holder)), ((hm 14), .inl (cy 1, 1024, .inl c_keys)), ((hm 9), .inl (cy 1, 16, .inl c_kind)), ((hm 10), .inl (cy 1, 16, .inl c_length)), ((hm 44), .inl (cy 1, 16, .inl c_other)), ((hm 45), .inl (cy 1, 600, .inl c_result)), ((hm 41), .inl (cy 1, 240, .inl c_round)), ((hm 11), .inl (cy 1, 16, .inl c_usage)), ((hm 13), .inl (cy 1, 16, .inl c_uses))]) := hD
    refine W.eq (g2 := F0 m 77 ls [.int r_147]) rfl ?_
    cases hf
    exact W.iret (pc := 77) hx hb hr (fun t ht hW => ⟨rfl, ⟨by rw [ht]; exact hP, hD⟩, hS.F ht⟩) hS.2.2 (zdt_at zt_X10_unwrap_0 40 rfl)
  replace hf := zt_s cn_ hf
  clear cn_
  refine lv_aload_n (pc := 78) hx hb (zdt_at zt_X10_unwrap_0 41 rfl) rfl (lv_at hl 0 rfl) ?_
  refine va_get (pc := 79) (D := D) (ci := 12) (v := .ref (hm 9)) (C := RX10) (T := TX10) (N := 52) hx hb hts hcX10 hown hK hP 0 rfl rfl 9 (by decide) hw1 (fun _ h9 => h9) rfl (zdt_at zt_X10_unwrap_0 42 rfl) ?_
  refine lv_iload_n (pc := 82) hx hb (zdt_at zt_X10_unwrap_0 43 rfl) rfl (lv_at hl 2 rfl) ?_
  replace hf := zk_s hf
  refine va_iald (pc := 83) hx hb hK hP 8 1 rfl rfl hf.1 (zdt_at zt_X10_unwrap_0 44 rfl) ?_
  replace hf := hf.2
  refine lv_if_eq (pc := 84) (tgt := 96) hx hb (zdt_at zt_X10_unwrap_0 45 rfl) (by decide) (fun cn_ => ?t_24) (fun cn_ => ?f_25)
  case t_24 =>
    replace hf := zt_s cn_ hf
    clear cn_
    refine lv_aload_n (pc := 96) hx hb (zdt_at zt_X10_unwrap_0 51 rfl) rfl (lv_at hl 0 rfl) ?_
    refine lv_bipush (pc := 97) (v := (-4 : Int32)) hx hb (zdt_at zt_X10_unwrap_0 52 rfl) (by decide) ?_
    replace hf := zb_s hf
    obtain ⟨⟨r_26, c_counters_27⟩, hc_, hf⟩ := hf
    refine zcn2 (pc := 99) (rv := (some (.int r_26))) (va_runV (As := [.int (-4 : Int32)]) (rest := []) ⟨hx, hb, hml, hown, hts⟩ (c_X10_answer l D cy tt H.size h0 hm (-4 : Int32) c_counters (0 : Int32) c_state c_test c_words c_ill c_before c_inRow c_first c_inWindow c_same c_made c_requests c_total c_secrets c_rounds c_high c_low c_keyHigh c_keyLow r_26 c_counters_27 hc_) (cwV 1 hts gX10_unwrap_X10_answer rfl rfl rfl (by decide +kernel) ⟨Nat.le_of_ble_eq_true rfl, Nat.le_of_ble_eq_true rfl⟩) ⟨zblind, va_recv hK hP (ci := 12) (q0 := 0) rfl rfl, zpre hE hS (hP.sub [0, 5] rfl) (hD.sub [0, 5] (by decide) rfl) (va_free hD hS hA [0, 5] rfl)⟩ rfl rfl hl.1 rfl (lv_room (Nat.le_of_ble_eq_true rfl)) (zdt_at zt_X10_unwrap_0 53 rfl) ⟨Nat.zero_le _, Nat.zero_le _⟩) hS hP hD (va_free hD hS hA [0, 5] rfl) [0, 5] rfl (by decide) rfl ?_
    clear hP hD hS hc_
    intro H locs hP hD hS
    replace hP : va_P D vwCl ([(h0, .inr (12, zmo hm (0 : Int32) c_state c_test c_words c_ill c_before c_inRow c_first c_inWindow c_same c_made c_requests c_total c_secrets c_rounds c_high c_low c_keyHigh c_keyLow)), ((hm 40), .inl (cy 1, 256, .inl c_back)), ((hm 43), .inl (cy 1, 16, .inl c_block)), ((hm 39), .inl (cy 1, 256, .inl c_box)), ((hm 6), .inl (cy 1, 512, .inl c_buffer)), ((hm 5), .inl (cy 1, 3, .inl c_counters_27)), ((hm 12), .inl (cy 1, 16, .inl c_holder)), ((hm 14), .inl (cy 1, 1024, .inl c_keys)), ((hm 9), .inl (cy 1, 16, .inl c_kind)), ((hm 10), .inl (cy 1, 16, .inl c_length)), ((hm 44), .inl (cy 1, 16, .inl c_other)), ((hm 45), .inl (cy 1, 600, .inl c_result)), ((hm 41), .inl (cy 1, 240, .inl c_round)), ((hm 11), .inl (cy 1, 16, .inl c_usage)), ((hm 13), .inl (cy 1, 16, .inl c_uses))]) H := hP
    replace hD : va_D A ([(h0, .inr (12, zmo hm (0 : Int32) c_state c_test c_words c_ill c_before c_inRow c_first c_inWindow c_same c_made c_requests c_total c_secrets c_rounds c_high c_low c_keyHigh c_keyLow)), ((hm 40), .inl (cy 1, 256, .inl c_back)), ((hm 43), .inl (cy 1, 16, .inl c_block)), ((hm 39), .inl (cy 1, 256, .inl c_box)), ((hm 6), .inl (cy 1, 512, .inl c_buffer)), ((hm 5), .inl (cy 1, 3, .inl c_counters_27)), ((hm 12), .inl (cy 1, 16, .inl c_holder)), ((hm 14), .inl (cy 1, 1024, .inl c_keys)), ((hm 9), .inl (cy 1, 16, .inl c_kind)), ((hm 10), .inl (cy 1, 16, .inl c_length)), ((hm 44), .inl (cy 1, 16, .inl c_other)), ((hm 45), .inl (cy 1, 600, .inl c_result)), ((hm 41), .inl (cy 1, 240, .inl c_round)), ((hm 11), .inl (cy 1, 16, .inl c_usage)), ((hm 13), .inl (cy 1, 16, .inl c_uses))]) := hD
    refine W.eq (g2 := F0 m 102 ls [.int r_26]) rfl ?_
    cases hf
    exact W.iret (pc := 102) hx hb hr (fun t ht hW => ⟨rfl, ⟨by rw [ht]; exact hP, hD⟩, hS.F ht⟩) hS.2.2 (zdt_at zt_X10_unwrap_0 54 rfl)
  replace hf := ze_s cn_ hf
  clear cn_
  refine lv_aload_n (pc := 87) hx hb (zdt_at zt_X10_unwrap_0 46 rfl) rfl (lv_at hl 0 rfl) ?_
  refine va_get (pc := 88) (D := D) (ci := 12) (v := .ref (hm 9)) (C := RX10) (T := TX10) (N := 52) hx hb hts hcX10 hown hK hP 0 rfl rfl 9 (by decide) hw1 (fun _ h9 => h9) rfl (zdt_at zt_X10_unwrap_0 47 rfl) ?_
  refine lv_iload_n (pc := 91) hx hb (zdt_at zt_X10_unwrap_0 48 rfl) rfl (lv_at hl 1 rfl) ?_
  replace hf := zk_s hf
  refine va_iald (pc := 92) hx hb hK hP 8 1 rfl rfl hf.1 (zdt_at zt_X10_unwrap_0 49 rfl) ?_
  replace hf := hf.2
  refine lv_if_le (pc := 93) (tgt := 103) hx hb (zdt_at zt_X10_unwrap_0 50 rfl) (by decide) (fun cn_ => ?t_28) (fun cn_ => ?f_29)
  case f_29 =>
    replace hf := ze_s cn_ hf
    clear cn_
    refine lv_aload_n (pc := 96) hx hb (zdt_at zt_X10_unwrap_0 51 rfl) rfl (lv_at hl 0 rfl) ?_
    refine lv_bipush (pc := 97) (v := (-4 : Int32)) hx hb (zdt_at zt_X10_unwrap_0 52 rfl) (by decide) ?_
    replace hf := zb_s hf
    obtain ⟨⟨r_145, c_counters_146⟩, hc_, hf⟩ := hf
    refine zcn2 (pc := 99) (rv := (some (.int r_145))) (va_runV (As := [.int (-4 : Int32)]) (rest := []) ⟨hx, hb, hml, hown, hts⟩ (c_X10_answer l D cy tt H.size h0 hm (-4 : Int32) c_counters (0 : Int32) c_state c_test c_words c_ill c_before c_inRow c_first c_inWindow c_same c_made c_requests c_total c_secrets c_rounds c_high c_low c_keyHigh c_keyLow r_145 c_counters_146 hc_) (cwV 1 hts gX10_unwrap_X10_answer rfl rfl rfl (by decide +kernel) ⟨Nat.le_of_ble_eq_true rfl, Nat.le_of_ble_eq_true rfl⟩) ⟨zblind, va_recv hK hP (ci := 12) (q0 := 0) rfl rfl, zpre hE hS (hP.sub [0, 5] rfl) (hD.sub [0, 5] (by decide) rfl) (va_free hD hS hA [0, 5] rfl)⟩ rfl rfl hl.1 rfl (lv_room (Nat.le_of_ble_eq_true rfl)) (zdt_at zt_X10_unwrap_0 53 rfl) ⟨Nat.zero_le _, Nat.zero_le _⟩) hS hP hD (va_free hD hS hA [0, 5] rfl) [0, 5] rfl (by decide) rfl ?_
    clear hP hD hS hc_
    intro H locs hP hD hS
    replace hP : va_P D vwCl ([(h0, .inr (12, zmo hm (0 : Int32) c_state c_test c_words c_ill c_before c_inRow c_first c_inWindow c_same c_made c_requests c_total c_secrets c_rounds c_high c_low c_keyHigh c_keyLow)), ((hm 40), .inl (cy 1, 256, .inl c_back)), ((hm 43), .inl (cy 1, 16, .inl c_block)), ((hm 39), .inl (cy 1, 256, .inl c_box)), ((hm 6), .inl (cy 1, 512, .inl c_buffer)), ((hm 5), .inl (cy 1, 3, .inl c_counters_146)), ((hm 12), .inl (cy 1, 16, .inl c_holder)), ((hm 14), .inl (cy 1, 1024, .inl c_keys)), ((hm 9), .inl (cy 1, 16, .inl c_kind)), ((hm 10), .inl (cy 1, 16, .inl c_length)), ((hm 44), .inl (cy 1, 16, .inl c_other)), ((hm 45), .inl (cy 1, 600, .inl c_result)), ((hm 41), .inl (cy 1, 240, .inl c_round)), ((hm 11), .inl (cy 1, 16, .inl c_usage)), ((hm 13), .inl (cy 1, 16, .inl c_uses))]) H := hP
    replace hD : va_D A ([(h0, .inr (12, zmo hm (0 : Int32) c_state c_test c_words c_ill c_before c_inRow c_first c_inWindow c_same c_made c_requests c_total c_secrets c_rounds c_high c_low c_keyHigh c_keyLow)), ((hm 40), .inl (cy 1, 256, .inl c_back)), ((hm 43), .inl (cy 1, 16, .inl c_block)), ((hm 39), .inl (cy 1, 256, .inl c_box)), ((hm 6), .inl (cy 1, 512, .inl c_buffer)), ((hm 5), .inl (cy 1, 3, .inl c_counters_146)), ((hm 12), .inl (cy 1, 16, .inl c_holder)), ((hm 14), .inl (cy 1, 1024, .inl c_keys)), ((hm 9), .inl (cy 1, 16, .inl c_kind)), ((hm 10), .inl (cy 1, 16, .inl c_length)), ((hm 44), .inl (cy 1, 16, .inl c_other)), ((hm 45), .inl (cy 1, 600, .inl c_result)), ((hm 41), .inl (cy 1, 240, .inl c_round)), ((hm 11), .inl (cy 1, 16, .inl c_usage)), ((hm 13), .inl (cy 1, 16, .inl c_uses))]) := hD
    refine W.eq (g2 := F0 m 102 ls [.int r_145]) rfl ?_
    cases hf
    exact W.iret (pc := 102) hx hb hr (fun t ht hW => ⟨rfl, ⟨by rw [ht]; exact hP, hD⟩, hS.F ht⟩) hS.2.2 (zdt_at zt_X10_unwrap_0 54 rfl)
  replace hf := zt_s cn_ hf
  clear cn_
  refine lv_aload_n (pc := 103) hx hb (zdt_at zt_X10_unwrap_0 55 rfl) rfl (lv_at hl 0 rfl) ?_
  refine va_get (pc := 104) (D := D) (ci := 12) (v := .ref (hm 9)) (C := RX10) (T := TX10) (N := 52) hx hb hts hcX10 hown hK hP 0 rfl rfl 9 (by decide) hw1 (fun _ h9 => h9) rfl (zdt_at zt_X10_unwrap_0 56 rfl) ?_
  refine lv_iload_n (pc := 107) hx hb (zdt_at zt_X10_unwrap_0 57 rfl) rfl (lv_at hl 2 rfl) ?_
  replace hf := zk_s hf
  refine va_iald (pc := 108) hx hb hK hP 8 1 rfl rfl hf.1 (zdt_at zt_X10_unwrap_0 58 rfl) ?_
  replace hf := hf.2
  refine lv_iconst (pc := 109) (v := (1 : Int32)) hx hb (zdt_at zt_X10_unwrap_0 59 rfl) (by decide) ?_
  refine lv_icmp_eq (pc := 110) (tgt := 120) hx hb (zdt_at zt_X10_unwrap_0 60 rfl) (by decide) (fun cn_ => ?t_30) (fun cn_ => ?f_31)
  case f_31 =>
    replace hf := ze_s cn_ hf
    clear cn_
    refine lv_aload_n (pc := 113) hx hb (zdt_at zt_X10_unwrap_0 61 rfl) rfl (lv_at hl 0 rfl) ?_
    refine lv_bipush (pc := 114) (v := (-5 : Int32)) hx hb (zdt_at zt_X10_unwrap_0 62 rfl) (by decide) ?_
    replace hf := zb_s hf
    obtain ⟨⟨r_143, c_counters_144⟩, hc_, hf⟩ := hf
    refine zcn2 (pc := 116) (rv := (some (.int r_143))) (va_runV (As := [.int (-5 : Int32)]) (rest := []) ⟨hx, hb, hml, hown, hts⟩ (c_X10_answer l D cy tt H.size h0 hm (-5 : Int32) c_counters (0 : Int32) c_state c_test c_words c_ill c_before c_inRow c_first c_inWindow c_same c_made c_requests c_total c_secrets c_rounds c_high c_low c_keyHigh c_keyLow r_143 c_counters_144 hc_) (cwV 1 hts gX10_unwrap_X10_answer rfl rfl rfl (by decide +kernel) ⟨Nat.le_of_ble_eq_true rfl, Nat.le_of_ble_eq_true rfl⟩) ⟨zblind, va_recv hK hP (ci := 12) (q0 := 0) rfl rfl, zpre hE hS (hP.sub [0, 5] rfl) (hD.sub [0, 5] (by decide) rfl) (va_free hD hS hA [0, 5] rfl)⟩ rfl rfl hl.1 rfl (lv_room (Nat.le_of_ble_eq_true rfl)) (zdt_at zt_X10_unwrap_0 63 rfl) ⟨Nat.zero_le _, Nat.zero_le _⟩) hS hP hD (va_free hD hS hA [0, 5] rfl) [0, 5] rfl (by decide) rfl ?_
    clear hP hD hS hc_
    intro H locs hP hD hS
    replace hP : va_P D vwCl ([(h0, .inr (12, zmo hm (0 : Int32) c_state c_test c_words c_ill c_before c_inRow c_first c_inWindow c_same c_made c_requests c_total c_secrets c_rounds c_high c_low c_keyHigh c_keyLow)), ((hm 40), .inl (cy 1, 256, .inl c_back)), ((hm 43), .inl (cy 1, 16, .inl c_block)), ((hm 39), .inl (cy 1, 256, .inl c_box)), ((hm 6), .inl (cy 1, 512, .inl c_buffer)), ((hm 5), .inl (cy 1, 3, .inl c_counters_144)), ((hm 12), .inl (cy 1, 16, .inl c_holder)), ((hm 14), .inl (cy 1, 1024, .inl c_keys)), ((hm 9), .inl (cy 1, 16, .inl c_kind)), ((hm 10), .inl (cy 1, 16, .inl c_length)), ((hm 44), .inl (cy 1, 16, .inl c_other)), ((hm 45), .inl (cy 1, 600, .inl c_result)), ((hm 41), .inl (cy 1, 240, .inl c_round)), ((hm 11), .inl (cy 1, 16, .inl c_usage)), ((hm 13), .inl (cy 1, 16, .inl c_uses))]) H := hP
    replace hD : va_D A ([(h0, .inr (12, zmo hm (0 : Int32) c_state c_test c_words c_ill c_before c_inRow c_first c_inWindow c_same c_made c_requests c_total c_secrets c_rounds c_high c_low c_keyHigh c_keyLow)), ((hm 40), .inl (cy 1, 256, .inl c_back)), ((hm 43), .inl (cy 1, 16, .inl c_block)), ((hm 39), .inl (cy 1, 256, .inl c_box)), ((hm 6), .inl (cy 1, 512, .inl c_buffer)), ((hm 5), .inl (cy 1, 3, .inl c_counters_144)), ((hm 12), .inl (cy 1, 16, .inl c_holder)), ((hm 14), .inl (cy 1, 1024, .inl c_keys)), ((hm 9), .inl (cy 1, 16, .inl c_kind)), ((hm 10), .inl (cy 1, 16, .inl c_length)), ((hm 44), .inl (cy 1, 16, .inl c_other)), ((hm 45), .inl (cy 1, 600, .inl c_result)), ((hm 41), .inl (cy 1, 240, .inl c_round)), ((hm 11), .inl (cy 1, 16, .inl c_usage)), ((hm 13), .inl (cy 1, 16, .inl c_uses))]) := hD
    refine W.eq (g2 := F0 m 119 ls [.int r_143]) rfl ?_
    cases hf
    exact W.iret (pc := 119) hx hb hr (fun t ht hW => ⟨rfl, ⟨by rw [ht]; exact hP, hD⟩, hS.F ht⟩) hS.2.2 (zdt_at zt_X10_unwrap_1 0 rfl)
  replace hf := zt_s cn_ hf
  clear cn_
  refine lv_aload_n (pc := 120) hx hb (zdt_at zt_X10_unwrap_1 1 rfl) rfl (lv_at hl 0 rfl) ?_
  refine va_get (pc := 121) (D := D) (ci := 12) (v := .ref (hm 11)) (C := RX10) (T := TX10) (N := 52) hx hb hts hcX10 hown hK hP 0 rfl rfl 11 (by decide) hw2 (fun _ h9 => h9) rfl (zdt_at zt_X10_unwrap_1 2 rfl) ?_
  refine lv_iload_n (pc := 124) hx hb (zdt_at zt_X10_unwrap_1 3 rfl) rfl (lv_at hl 2 rfl) ?_
  replace hf := zk_s hf
  refine va_iald (pc := 125) hx hb hK hP 13 1 rfl rfl hf.1 (zdt_at zt_X10_unwrap_1 4 rfl) ?_
  replace hf := hf.2
  refine lv_bipush (pc := 126) (v := (16 : Int32)) hx hb (zdt_at zt_X10_unwrap_1 5 rfl) (by decide) ?_
  refine lv_iand (pc := 128) hx hb (zdt_at zt_X10_unwrap_1 6 rfl) ?_
  refine lv_if_ne (pc := 129) (tgt := 139) hx hb (zdt_at zt_X10_unwrap_1 7 rfl) (by decide) (fun cn_ => ?t_32) (fun cn_ => ?f_33)
  case f_33 =>
    replace hf := zt_s cn_ hf
    clear cn_
    refine lv_aload_n (pc := 132) hx hb (zdt_at zt_X10_unwrap_1 8 rfl) rfl (lv_at hl 0 rfl) ?_
    refine lv_bipush (pc := 133) (v := (-6 : Int32)) hx hb (zdt_at zt_X10_unwrap_1 9 rfl) (by decide) ?_
    replace hf := zb_s hf
    obtain ⟨⟨r_141, c_counters_142⟩, hc_, hf⟩ := hf
    refine zcn2 (pc := 135) (rv := (some (.int r_141))) (va_runV (As := [.int (-6 : Int32)]) (rest := []) ⟨hx, hb, hml, hown, hts⟩ (c_X10_answer l D cy tt H.size h0 hm (-6 : Int32) c_counters (0 : Int32) c_state c_test c_words c_ill c_before c_inRow c_first c_inWindow c_same c_made c_requests c_total c_secrets c_rounds c_high c_low c_keyHigh c_keyLow r_141 c_counters_142 hc_) (cwV 1 hts gX10_unwrap_X10_answer rfl rfl rfl (by decide +kernel) ⟨Nat.le_of_ble_eq_true rfl, Nat.le_of_ble_eq_true rfl⟩) ⟨zblind, va_recv hK hP (ci := 12) (q0 := 0) rfl rfl, zpre hE hS (hP.sub [0, 5] rfl) (hD.sub [0, 5] (by decide) rfl) (va_free hD hS hA [0, 5] rfl)⟩ rfl rfl hl.1 rfl (lv_room (Nat.le_of_ble_eq_true rfl)) (zdt_at zt_X10_unwrap_1 10 rfl) ⟨Nat.zero_le _, Nat.zero_le _⟩) hS hP hD (va_free hD hS hA [0, 5] rfl) [0, 5] rfl (by decide) rfl ?_
    clear hP hD hS hc_
    intro H locs hP hD hS
    replace hP : va_P D vwCl ([(h0, .inr (12, zmo hm (0 : Int32) c_state c_test c_words c_ill c_before c_inRow c_first c_inWindow c_same c_made c_requests c_total c_secrets c_rounds c_high c_low c_keyHigh c_keyLow)), ((hm 40), .inl (cy 1, 256, .inl c_back)), ((hm 43), .inl (cy 1, 16, .inl c_block)), ((hm 39), .inl (cy 1, 256, .inl c_box)), ((hm 6), .inl (cy 1, 512, .inl c_buffer)), ((hm 5), .inl (cy 1, 3, .inl c_counters_142)), ((hm 12), .inl (cy 1, 16, .inl c_holder)), ((hm 14), .inl (cy 1, 1024, .inl c_keys)), ((hm 9), .inl (cy 1, 16, .inl c_kind)), ((hm 10), .inl (cy 1, 16, .inl c_length)), ((hm 44), .inl (cy 1, 16, .inl c_other)), ((hm 45), .inl (cy 1, 600, .inl c_result)), ((hm 41), .inl (cy 1, 240, .inl c_round)), ((hm 11), .inl (cy 1, 16, .inl c_usage)), ((hm 13), .inl (cy 1, 16, .inl c_uses))]) H := hP
    replace hD : va_D A ([(h0, .inr (12, zmo hm (0 : Int32) c_state c_test c_words c_ill c_before c_inRow c_first c_inWindow c_same c_made c_requests c_total c_secrets c_rounds c_high c_low c_keyHigh c_keyLow)), ((hm 40), .inl (cy 1, 256, .inl c_back)), ((hm 43), .inl (cy 1, 16, .inl c_block)), ((hm 39), .inl (cy 1, 256, .inl c_box)), ((hm 6), .inl (cy 1, 512, .inl c_buffer)), ((hm 5), .inl (cy 1, 3, .inl c_counters_142)), ((hm 12), .inl (cy 1, 16, .inl c_holder)), ((hm 14), .inl (cy 1, 1024, .inl c_keys)), ((hm 9), .inl (cy 1, 16, .inl c_kind)), ((hm 10), .inl (cy 1, 16, .inl c_length)), ((hm 44), .inl (cy 1, 16, .inl c_other)), ((hm 45), .inl (cy 1, 600, .inl c_result)), ((hm 41), .inl (cy 1, 240, .inl c_round)), ((hm 11), .inl (cy 1, 16, .inl c_usage)), ((hm 13), .inl (cy 1, 16, .inl c_uses))]) := hD
    refine W.eq (g2 := F0 m 138 ls [.int r_141]) rfl ?_
    cases hf
    exact W.iret (pc := 138) hx hb hr (fun t ht hW => ⟨rfl, ⟨by rw [ht]; exact hP, hD⟩, hS.F ht⟩) hS.2.2 (zdt_at zt_X10_unwrap_1 11 rfl)
  replace hf := ze_s cn_ hf
  clear cn_
  refine lv_aload_n (pc := 139) hx hb (zdt_at zt_X10_unwrap_1 12 rfl) rfl (lv_at hl 0 rfl) ?_
  refine va_get (pc := 140) (D := D) (ci := 12) (v := .ref (hm 13)) (C := RX10) (T := TX10) (N := 52) hx hb hts hcX10 hown hK hP 0 rfl rfl 13 (by decide) hw3 (fun _ h9 => h9) rfl (zdt_at zt_X10_unwrap_1 13 rfl) ?_
  refine lv_iload_n (pc := 143) hx hb (zdt_at zt_X10_unwrap_1 14 rfl) rfl (lv_at hl 2 rfl) ?_
  replace hf := zk_s hf
  refine va_iald (pc := 144) hx hb hK hP 14 1 rfl rfl hf.1 (zdt_at zt_X10_unwrap_1 15 rfl) ?_
  replace hf := hf.2
  refine lv_if_ne (pc := 145) (tgt := 155) hx hb (zdt_at zt_X10_unwrap_1 16 rfl) (by decide) (fun cn_ => ?t_34) (fun cn_ => ?f_35)
  case f_35 =>
    replace hf := zt_s cn_ hf
    clear cn_
    refine lv_aload_n (pc := 148) hx hb (zdt_at zt_X10_unwrap_1 17 rfl) rfl (lv_at hl 0 rfl) ?_
    refine lv_bipush (pc := 149) (v := (-7 : Int32)) hx hb (zdt_at zt_X10_unwrap_1 18 rfl) (by decide) ?_
    replace hf := zb_s hf
    obtain ⟨⟨r_139, c_counters_140⟩, hc_, hf⟩ := hf
    refine zcn2 (pc := 151) (rv := (some (.int r_139))) (va_runV (As := [.int (-7 : Int32)]) (rest := []) ⟨hx, hb, hml, hown, hts⟩ (c_X10_answer l D cy tt H.size h0 hm (-7 : Int32) c_counters (0 : Int32) c_state c_test c_words c_ill c_before c_inRow c_first c_inWindow c_same c_made c_requests c_total c_secrets c_rounds c_high c_low c_keyHigh c_keyLow r_139 c_counters_140 hc_) (cwV 1 hts gX10_unwrap_X10_answer rfl rfl rfl (by decide +kernel) ⟨Nat.le_of_ble_eq_true rfl, Nat.le_of_ble_eq_true rfl⟩) ⟨zblind, va_recv hK hP (ci := 12) (q0 := 0) rfl rfl, zpre hE hS (hP.sub [0, 5] rfl) (hD.sub [0, 5] (by decide) rfl) (va_free hD hS hA [0, 5] rfl)⟩ rfl rfl hl.1 rfl (lv_room (Nat.le_of_ble_eq_true rfl)) (zdt_at zt_X10_unwrap_1 19 rfl) ⟨Nat.zero_le _, Nat.zero_le _⟩) hS hP hD (va_free hD hS hA [0, 5] rfl) [0, 5] rfl (by decide) rfl ?_
    clear hP hD hS hc_
    intro H locs hP hD hS
    replace hP : va_P D vwCl ([(h0, .inr (12, zmo hm (0 : Int32) c_state c_test c_words c_ill c_before c_inRow c_first c_inWindow c_same c_made c_requests c_total c_secrets c_rounds c_high c_low c_keyHigh c_keyLow)), ((hm 40), .inl (cy 1, 256, .inl c_back)), ((hm 43), .inl (cy 1, 16, .inl c_block)), ((hm 39), .inl (cy 1, 256, .inl c_box)), ((hm 6), .inl (cy 1, 512, .inl c_buffer)), ((hm 5), .inl (cy 1, 3, .inl c_counters_140)), ((hm 12), .inl (cy 1, 16, .inl c_holder)), ((hm 14), .inl (cy 1, 1024, .inl c_keys)), ((hm 9), .inl (cy 1, 16, .inl c_kind)), ((hm 10), .inl (cy 1, 16, .inl c_length)), ((hm 44), .inl (cy 1, 16, .inl c_other)), ((hm 45), .inl (cy 1, 600, .inl c_result)), ((hm 41), .inl (cy 1, 240, .inl c_round)), ((hm 11), .inl (cy 1, 16, .inl c_usage)), ((hm 13), .inl (cy 1, 16, .inl c_uses))]) H := hP
    replace hD : va_D A ([(h0, .inr (12, zmo hm (0 : Int32) c_state c_test c_words c_ill c_before c_inRow c_first c_inWindow c_same c_made c_requests c_total c_secrets c_rounds c_high c_low c_keyHigh c_keyLow)), ((hm 40), .inl (cy 1, 256, .inl c_back)), ((hm 43), .inl (cy 1, 16, .inl c_block)), ((hm 39), .inl (cy 1, 256, .inl c_box)), ((hm 6), .inl (cy 1, 512, .inl c_buffer)), ((hm 5), .inl (cy 1, 3, .inl c_counters_140)), ((hm 12), .inl (cy 1, 16, .inl c_holder)), ((hm 14), .inl (cy 1, 1024, .inl c_keys)), ((hm 9), .inl (cy 1, 16, .inl c_kind)), ((hm 10), .inl (cy 1, 16, .inl c_length)), ((hm 44), .inl (cy 1, 16, .inl c_other)), ((hm 45), .inl (cy 1, 600, .inl c_result)), ((hm 41), .inl (cy 1, 240, .inl c_round)), ((hm 11), .inl (cy 1, 16, .inl c_usage)), ((hm 13), .inl (cy 1, 16, .inl c_uses))]) := hD
    refine W.eq (g2 := F0 m 154 ls [.int r_139]) rfl ?_
    cases hf
    exact W.iret (pc := 154) hx hb hr (fun t ht hW => ⟨rfl, ⟨by rw [ht]; exact hP, hD⟩, hS.F ht⟩) hS.2.2 (zdt_at zt_X10_unwrap_1 20 rfl)
  replace hf := ze_s cn_ hf
  clear cn_
  refine lv_aload_n (pc := 155) hx hb (zdt_at zt_X10_unwrap_1 21 rfl) rfl (lv_at hl 0 rfl) ?_
  refine lv_iload_n (pc := 156) hx hb (zdt_at zt_X10_unwrap_1 22 rfl) rfl (lv_at hl 2 rfl) ?_
  replace hf := zb_s hf
  obtain ⟨c_uses_36, hc_, hf⟩ := hf
  refine zcn2 (pc := 157) (rv := none) (va_runV (As := [.int p2]) (rest := []) ⟨hx, hb, hml, hown, hts⟩ (c_X10_use l D cy tt H.size h0 hm p2 c_uses (0 : Int32) c_state c_test c_words c_ill c_before c_inRow c_first c_inWindow c_same c_made c_requests c_total c_secrets c_rounds c_high c_low c_keyHigh c_keyLow c_uses_36 hc_) (cwV 1 hts gX10_unwrap_X10_use rfl rfl rfl (by decide +kernel) ⟨Nat.le_of_ble_eq_true rfl, Nat.le_of_ble_eq_true rfl⟩) ⟨zblind, va_recv hK hP (ci := 12) (q0 := 0) rfl rfl, zpre hE hS (hP.sub [0, 14] rfl) (hD.sub [0, 14] (by decide) rfl) (va_free hD hS hA [0, 14] rfl)⟩ rfl rfl hl.1 rfl (lv_room (Nat.le_of_ble_eq_true rfl)) (zdt_at zt_X10_unwrap_1 23 rfl) ⟨Nat.zero_le _, Nat.zero_le _⟩) hS hP hD (va_free hD hS hA [0, 14] rfl) [0, 14] rfl (by decide) rfl ?_
  clear hP hD hS hc_
  intro H locs hP hD hS
  replace hP : va_P D vwCl ([(h0, .inr (12, zmo hm (0 : Int32) c_state c_test c_words c_ill c_before c_inRow c_first c_inWindow c_same c_made c_requests c_total c_secrets c_rounds c_high c_low c_keyHigh c_keyLow)), ((hm 40), .inl (cy 1, 256, .inl c_back)), ((hm 43), .inl (cy 1, 16, .inl c_block)), ((hm 39), .inl (cy 1, 256, .inl c_box)), ((hm 6), .inl (cy 1, 512, .inl c_buffer)), ((hm 5), .inl (cy 1, 3, .inl c_counters)), ((hm 12), .inl (cy 1, 16, .inl c_holder)), ((hm 14), .inl (cy 1, 1024, .inl c_keys)), ((hm 9), .inl (cy 1, 16, .inl c_kind)), ((hm 10), .inl (cy 1, 16, .inl c_length)), ((hm 44), .inl (cy 1, 16, .inl c_other)), ((hm 45), .inl (cy 1, 600, .inl c_result)), ((hm 41), .inl (cy 1, 240, .inl c_round)), ((hm 11), .inl (cy 1, 16, .inl c_usage)), ((hm 13), .inl (cy 1, 16, .inl c_uses_36))]) H := hP
  replace hD : va_D A ([(h0, .inr (12, zmo hm (0 : Int32) c_state c_test c_words c_ill c_before c_inRow c_first c_inWindow c_same c_made c_requests c_total c_secrets c_rounds c_high c_low c_keyHigh c_keyLow)), ((hm 40), .inl (cy 1, 256, .inl c_back)), ((hm 43), .inl (cy 1, 16, .inl c_block)), ((hm 39), .inl (cy 1, 256, .inl c_box)), ((hm 6), .inl (cy 1, 512, .inl c_buffer)), ((hm 5), .inl (cy 1, 3, .inl c_counters)), ((hm 12), .inl (cy 1, 16, .inl c_holder)), ((hm 14), .inl (cy 1, 1024, .inl c_keys)), ((hm 9), .inl (cy 1, 16, .inl c_kind)), ((hm 10), .inl (cy 1, 16, .inl c_length)), ((hm 44), .inl (cy 1, 16, .inl c_other)), ((hm 45), .inl (cy 1, 600, .inl c_result)), ((hm 41), .inl (cy 1, 240, .inl c_round)), ((hm 11), .inl (cy 1, 16, .inl c_usage)), ((hm 13), .inl (cy 1, 16, .inl c_uses_36))]) := hD
  refine W.eq (g2 := F0 m 160 ls []) rfl ?_
  refine lv_iload_n (pc := 160) hx hb (zdt_at zt_X10_unwrap_1 24 rfl) rfl (lv_at hl 3 rfl) ?_
  refine lv_bipush (pc := 161) (v := (8 : Int32)) hx hb (zdt_at zt_X10_unwrap_1 25 rfl) (by decide) ?_
  replace hf := zk_s hf
  refine lv_idiv (pc := 163) hx hb (zdt_at zt_X10_unwrap_1 26 rfl) hf.1 ?_
  replace hf := hf.2
  refine lv_iconst (pc := 164) (v := (1 : Int32)) hx hb (zdt_at zt_X10_unwrap_1 27 rfl) (by decide) ?_
  refine lv_isub (pc := 165) hx hb (zdt_at zt_X10_unwrap_1 28 rfl) ?_
  refine lv_topi (fun x_37 e_ => ?_)
  replace hf := zn_s hf e_
  clear e_
  refine lv_istore (pc := 166) (lv' := [(4, .int x_37), (0, .ref h0), (1, .int p1), (2, .int p2), (3, .int p3)]) hx hb (zdt_at zt_X10_unwrap_1 29 rfl) hl (by decide) rfl ?_
  clear hl
  intro ls hl
  refine lv_iconst (pc := 168) (v := (0 : Int32)) hx hb (zdt_at zt_X10_unwrap_1 30 rfl) (by decide) ?_
  refine lv_istore (pc := 169) (lv' := [(5, .int (0 : Int32)), (4, .int x_37), (0, .ref h0), (1, .int p1), (2, .int p2), (3, .int p3)]) hx hb (zdt_at zt_X10_unwrap_1 31 rfl) hl (by decide) rfl ?_
  clear hl
  intro ls hl
  replace hf := zj_s hf
  obtain ⟨K_41, eK_41, hf⟩ := hf
  have kK_41 : ∀ (c_result_40 : Nat → Int32) (H : Heap) (locs : List Loc) (ls : Array Slot), va_P D vwCl ([(h0, .inr (12, zmo hm (0 : Int32) c_state c_test c_words c_ill c_before c_inRow c_first c_inWindow c_same c_made c_requests c_total c_secrets c_rounds c_high c_low c_keyHigh c_keyLow)), ((hm 40), .inl (cy 1, 256, .inl c_back)), ((hm 43), .inl (cy 1, 16, .inl c_block)), ((hm 39), .inl (cy 1, 256, .inl c_box)), ((hm 6), .inl (cy 1, 512, .inl c_buffer)), ((hm 5), .inl (cy 1, 3, .inl c_counters)), ((hm 12), .inl (cy 1, 16, .inl c_holder)), ((hm 14), .inl (cy 1, 1024, .inl c_keys)), ((hm 9), .inl (cy 1, 16, .inl c_kind)), ((hm 10), .inl (cy 1, 16, .inl c_length)), ((hm 44), .inl (cy 1, 16, .inl c_other)), ((hm 45), .inl (cy 1, 600, .inl c_result_40)), ((hm 41), .inl (cy 1, 240, .inl c_round)), ((hm 11), .inl (cy 1, 16, .inl c_usage)), ((hm 13), .inl (cy 1, 16, .inl c_uses_36))]) H → va_D A ([(h0, .inr (12, zmo hm (0 : Int32) c_state c_test c_words c_ill c_before c_inRow c_first c_inWindow c_same c_made c_requests c_total c_secrets c_rounds c_high c_low c_keyHigh c_keyLow)), ((hm 40), .inl (cy 1, 256, .inl c_back)), ((hm 43), .inl (cy 1, 16, .inl c_block)), ((hm 39), .inl (cy 1, 256, .inl c_box)), ((hm 6), .inl (cy 1, 512, .inl c_buffer)), ((hm 5), .inl (cy 1, 3, .inl c_counters)), ((hm 12), .inl (cy 1, 16, .inl c_holder)), ((hm 14), .inl (cy 1, 1024, .inl c_keys)), ((hm 9), .inl (cy 1, 16, .inl c_kind)), ((hm 10), .inl (cy 1, 16, .inl c_length)), ((hm 44), .inl (cy 1, 16, .inl c_other)), ((hm 45), .inl (cy 1, 600, .inl c_result_40)), ((hm 41), .inl (cy 1, 240, .inl c_round)), ((hm 11), .inl (cy 1, 16, .inl c_usage)), ((hm 13), .inl (cy 1, 16, .inl c_uses_36))]) → va_S A s.heap H locs → lv_has ls 8 [(0, .ref h0), (1, .int p1), (2, .int p2), (3, .int p3), (4, .int x_37)] → K_41 c_result_40 = some (r_, c_rounds', c_thrown', c_block', c_counters', c_holder', c_keys', c_kind', c_length', c_other', c_result', c_round', c_usage', c_uses') → GW H locs (F0 m 197 ls []) := by
    clear hf hl hP hD hS
    intro c_result_40 H locs ls hP hD hS hl hf
    rw [eK_41] at hf
    clear eK_41
    refine hFr _ _ _ ?_
    refine lv_aload_n (pc := 197) hx hb (zdt_at zt_X10_unwrap_1 45 rfl) rfl (lv_at hl 0 rfl) ?_
    refine lv_iload_n (pc := 198) hx hb (zdt_at zt_X10_unwrap_1 46 rfl) rfl (lv_at hl 2 rfl) ?_
    replace hf := zb_s hf
    obtain ⟨⟨c_rounds_42, c_round_43⟩, hc_, hf⟩ := hf
    refine zcn2 (pc := 199) (rv := none) (va_runV (As := [.int p2]) (rest := []) ⟨hx, hb, hml, hown, hts⟩ (c_X10_schedule l D cy tt H.size h0 hm p2 c_rounds c_box c_keys c_length c_round (0 : Int32) c_state c_test c_words c_ill c_before c_inRow c_first c_inWindow c_same c_made c_requests c_total c_secrets c_high c_low c_keyHigh c_keyLow c_rounds_42 c_round_43 hc_) (cwV 1 hts gX10_unwrap_X10_schedule rfl rfl rfl (by decide +kernel) ⟨Nat.le_of_ble_eq_true rfl, Nat.le_of_ble_eq_true rfl⟩) ⟨zblind, va_recv hK hP (ci := 12) (q0 := 0) rfl rfl, zpre hE hS (hP.sub [0, 3, 7, 9, 12] rfl) (hD.sub [0, 3, 7, 9, 12] (by decide) rfl) (va_free hD hS hA [0, 3, 7, 9, 12] rfl)⟩ rfl rfl hl.1 rfl (lv_room (Nat.le_of_ble_eq_true rfl)) (zdt_at zt_X10_unwrap_1 47 rfl) ⟨Nat.zero_le _, Nat.zero_le _⟩) hS hP hD (va_free hD hS hA [0, 3, 7, 9, 12] rfl) [0, 3, 7, 9, 12] rfl (by decide) rfl ?_
    clear hP hD hS hc_
    intro H locs hP hD hS
    replace hP : va_P D vwCl ([(h0, .inr (12, zmo hm (0 : Int32) c_state c_test c_words c_ill c_before c_inRow c_first c_inWindow c_same c_made c_requests c_total c_secrets c_rounds_42 c_high c_low c_keyHigh c_keyLow)), ((hm 40), .inl (cy 1, 256, .inl c_back)), ((hm 43), .inl (cy 1, 16, .inl c_block)), ((hm 39), .inl (cy 1, 256, .inl c_box)), ((hm 6), .inl (cy 1, 512, .inl c_buffer)), ((hm 5), .inl (cy 1, 3, .inl c_counters)), ((hm 12), .inl (cy 1, 16, .inl c_holder)), ((hm 14), .inl (cy 1, 1024, .inl c_keys)), ((hm 9), .inl (cy 1, 16, .inl c_kind)), ((hm 10), .inl (cy 1, 16, .inl c_length)), ((hm 44), .inl (cy 1, 16, .inl c_other)), ((hm 45), .inl (cy 1, 600, .inl c_result_40)), ((hm 41), .inl (cy 1, 240, .inl c_round_43)), ((hm 11), .inl (cy 1, 16, .inl c_usage)), ((hm 13), .inl (cy 1, 16, .inl c_uses_36))]) H := hP
    replace hD : va_D A ([(h0, .inr (12, zmo hm (0 : Int32) c_state c_test c_words c_ill c_before c_inRow c_first c_inWindow c_same c_made c_requests c_total c_secrets c_rounds_42 c_high c_low c_keyHigh c_keyLow)), ((hm 40), .inl (cy 1, 256, .inl c_back)), ((hm 43), .inl (cy 1, 16, .inl c_block)), ((hm 39), .inl (cy 1, 256, .inl c_box)), ((hm 6), .inl (cy 1, 512, .inl c_buffer)), ((hm 5), .inl (cy 1, 3, .inl c_counters)), ((hm 12), .inl (cy 1, 16, .inl c_holder)), ((hm 14), .inl (cy 1, 1024, .inl c_keys)), ((hm 9), .inl (cy 1, 16, .inl c_kind)), ((hm 10), .inl (cy 1, 16, .inl c_length)), ((hm 44), .inl (cy 1, 16, .inl c_other)), ((hm 45), .inl (cy 1, 600, .inl c_result_40)), ((hm 41), .inl (cy 1, 240, .inl c_round_43)), ((hm 11), .inl (cy 1, 16, .inl c_usage)), ((hm 13), .inl (cy 1, 16, .inl c_uses_36))]) := hD
    refine W.eq (g2 := F0 m 202 ls []) rfl ?_
    refine lv_bipush (pc := 202) (v := (6 : Int32)) hx hb (zdt_at zt_X10_unwrap_1 48 rfl) (by decide) ?_
    refine lv_iload (pc := 204) hx hb (zdt_at zt_X10_unwrap_1 49 rfl) (lv_at hl 4 rfl) ?_
    refine lv_imul (pc := 206) hx hb (zdt_at zt_X10_unwrap_1 50 rfl) ?_
    refine lv_topi (fun x_44 e_ => ?_)
    replace hf := zn_s hf e_
    clear e_
    refine lv_istore (pc := 207) (lv' := [(5, .int x_44), (0, .ref h0), (1, .int p1), (2, .int p2), (3, .int p3), (4, .int x_37)]) hx hb (zdt_at zt_X10_unwrap_1 51 rfl) hl (by decide) rfl ?_
    clear hl
    intro ls hl
    replace hf := zj_s hf
    obtain ⟨K_52, eK_52, hf⟩ := hf
    have kK_52 : ∀ (c_block_49 : Nat → Int32) (c_other_50 : Nat → Int32) (c_result_51 : Nat → Int32) (H : Heap) (locs : List Loc) (ls : Array Slot), va_P D vwCl ([(h0, .inr (12, zmo hm (0 : Int32) c_state c_test c_words c_ill c_before c_inRow c_first c_inWindow c_same c_made c_requests c_total c_secrets c_rounds_42 c_high c_low c_keyHigh c_keyLow)), ((hm 40), .inl (cy 1, 256, .inl c_back)), ((hm 43), .inl (cy 1, 16, .inl c_block_49)), ((hm 39), .inl (cy 1, 256, .inl c_box)), ((hm 6), .inl (cy 1, 512, .inl c_buffer)), ((hm 5), .inl (cy 1, 3, .inl c_counters)), ((hm 12), .inl (cy 1, 16, .inl c_holder)), ((hm 14), .inl (cy 1, 1024, .inl c_keys)), ((hm 9), .inl (cy 1, 16, .inl c_kind)), ((hm 10), .inl (cy 1, 16, .inl c_length)), ((hm 44), .inl (cy 1, 16, .inl c_other_50)), ((hm 45), .inl (cy 1, 600, .inl c_result_51)), ((hm 41), .inl (cy 1, 240, .inl c_round_43)), ((hm 11), .inl (cy 1, 16, .inl c_usage)), ((hm 13), .inl (cy 1, 16, .inl c_uses_36))]) H → va_D A ([(h0, .inr (12, zmo hm (0 : Int32) c_state c_test c_words c_ill c_before c_inRow c_first c_inWindow c_same c_made c_requests c_total c_secrets c_rounds_42 c_high c_low c_keyHigh c_keyLow)), ((hm 40), .inl (cy 1, 256, .inl c_back)), ((hm 43), .inl (cy 1, 16, .inl c_block_49)), ((hm 39), .inl (cy 1, 256, .inl c_box)), ((hm 6), .inl (cy 1, 512, .inl c_buffer)), ((hm 5), .inl (cy 1, 3, .inl c_counters)), ((hm 12), .inl (cy 1, 16, .inl c_holder)), ((hm 14), .inl (cy 1, 1024, .inl c_keys)), ((hm 9), .inl (cy 1, 16, .inl c_kind)), ((hm 10), .inl (cy 1, 16, .inl c_length)), ((hm 44), .inl (cy 1, 16, .inl c_other_50)), ((hm 45), .inl (cy 1, 600, .inl c_result_51)), ((hm 41), .inl (cy 1, 240, .inl c_round_43)), ((hm 11), .inl (cy 1, 16, .inl c_usage)), ((hm 13), .inl (cy 1, 16, .inl c_uses_36))]) → va_S A s.heap H locs → lv_has ls 8 [(0, .ref h0), (1, .int p1), (3, .int p3)] → K_52 c_block_49 c_other_50 c_result_51 = some (r_, c_rounds', c_thrown', c_block', c_counters', c_holder', c_keys', c_kind', c_length', c_other', c_result', c_round', c_usage', c_uses') → GW H locs (F0 m 356 ls []) := by
      clear hf hl hP hD hS
      intro c_block_49 c_other_50 c_result_51 H locs ls hP hD hS hl hf
      rw [eK_52] at hf
      clear eK_52
      refine hFr _ _ _ ?_
      refine lv_aload_n (pc := 356) hx hb (zdt_at zt_X10_unwrap_3 1 rfl) rfl (lv_at hl 0 rfl) ?_
      refine va_get (pc := 357) (D := D) (ci := 12) (v := .ref (hm 45)) (C := RX10) (T := TX10) (N := 52) hx hb hts hcX10 hown hK hP 0 rfl rfl 45 (by decide) hw4 (fun _ h9 => h9) rfl (zdt_at zt_X10_unwrap_3 2 rfl) ?_
      refine lv_bipush (pc := 360) (v := (8 : Int32)) hx hb (zdt_at zt_X10_unwrap_3 3 rfl) (by decide) ?_
      replace hf := zk_s hf
      refine va_iald (pc := 362) hx hb hK hP 11 1 rfl rfl hf.1 (zdt_at zt_X10_unwrap_3 4 rfl) ?_
      replace hf := hf.2
      refine lv_iconst (pc := 363) (v := (1 : Int32)) hx hb (zdt_at zt_X10_unwrap_3 5 rfl) (by decide) ?_
      refine lv_iconst (pc := 364) (v := (2 : Int32)) hx hb (zdt_at zt_X10_unwrap_3 6 rfl) (by decide) ?_
      replace hf := zb_s hf
      obtain ⟨r_53, hc_, hf⟩ := hf
      refine zcs (pc := 365) (rv := (some (.int r_53))) (va_runS (As := [.int (c_result_51 (8 : Int32).toNatClampNeg), .int (1 : Int32), .int (2 : Int32)]) (rest := []) ⟨hx, hb, hml, hown, hts⟩ (c_X10_in l D cy tt H.size (c_result_51 (8 : Int32).toNatClampNeg) (1 : Int32) (2 : Int32) r_53 hc_) (va_cwS 3 hts gX10_unwrap_X10_in rfl rfl rfl (by decide +kernel) ⟨Nat.le_of_ble_eq_true rfl, Nat.le_of_ble_eq_true rfl⟩) ⟨zblind, zpre hE hS (hP.sub [] rfl) (hD.sub [] (by decide) rfl) (va_free hD hS hA [] rfl)⟩ rfl rfl hl.1 rfl (lv_room (Nat.le_of_ble_eq_true rfl)) (zdt_at zt_X10_unwrap_3 7 rfl) ⟨Nat.zero_le _, Nat.zero_le _⟩) ?_
      clear hc_
      refine W.eq (g2 := F0 m 368 ls [.int r_53]) rfl ?_
      replace hf := zj_s hf
      obtain ⟨K_55, eK_55, hf⟩ := hf
      have kK_55 : ∀ (v_54 : Int32) (H : Heap) (locs : List Loc) (ls : Array Slot), va_P D vwCl ([(h0, .inr (12, zmo hm (0 : Int32) c_state c_test c_words c_ill c_before c_inRow c_first c_inWindow c_same c_made c_requests c_total c_secrets c_rounds_42 c_high c_low c_keyHigh c_keyLow)), ((hm 40), .inl (cy 1, 256, .inl c_back)), ((hm 43), .inl (cy 1, 16, .inl c_block_49)), ((hm 39), .inl (cy 1, 256, .inl c_box)), ((hm 6), .inl (cy 1, 512, .inl c_buffer)), ((hm 5), .inl (cy 1, 3, .inl c_counters)), ((hm 12), .inl (cy 1, 16, .inl c_holder)), ((hm 14), .inl (cy 1, 1024, .inl c_keys)), ((hm 9), .inl (cy 1, 16, .inl c_kind)), ((hm 10), .inl (cy 1, 16, .inl c_length)), ((hm 44), .inl (cy 1, 16, .inl c_other_50)), ((hm 45), .inl (cy 1, 600, .inl c_result_51)), ((hm 41), .inl (cy 1, 240, .inl c_round_43)), ((hm 11), .inl (cy 1, 16, .inl c_usage)), ((hm 13), .inl (cy 1, 16, .inl c_uses_36))]) H → va_D A ([(h0, .inr (12, zmo hm (0 : Int32) c_state c_test c_words c_ill c_before c_inRow c_first c_inWindow c_same c_made c_requests c_total c_secrets c_rounds_42 c_high c_low c_keyHigh c_keyLow)), ((hm 40), .inl (cy 1, 256, .inl c_back)), ((hm 43), .inl (cy 1, 16, .inl c_block_49)), ((hm 39), .inl (cy 1, 256, .inl c_box)), ((hm 6), .inl (cy 1, 512, .inl c_buffer)), ((hm 5), .inl (cy 1, 3, .inl c_counters)), ((hm 12), .inl (cy 1, 16, .inl c_holder)), ((hm 14), .inl (cy 1, 1024, .inl c_keys)), ((hm 9), .inl (cy 1, 16, .inl c_kind)), ((hm 10), .inl (cy 1, 16, .inl c_length)), ((hm 44), .inl (cy 1, 16, .inl c_other_50)), ((hm 45), .inl (cy 1, 600, .inl c_result_51)), ((hm 41), .inl (cy 1, 240, .inl c_round_43)), ((hm 11), .inl (cy 1, 16, .inl c_usage)), ((hm 13), .inl (cy 1, 16, .inl c_uses_36))]) → va_S A s.heap H locs → lv_has ls 8 [(0, .ref h0), (1, .int p1), (3, .int p3)] → K_55 v_54 = some (r_, c_rounds', c_thrown', c_block', c_counters', c_holder', c_keys', c_kind', c_length', c_other', c_result', c_round', c_usage', c_uses') → GW H locs (F0 m 416 ls [.int v_54]) := by
        clear hf hl hP hD hS
        intro v_54 H locs ls hP hD hS hl hf
        rw [eK_55] at hf
        clear eK_55
        refine hFr _ _ _ ?_
        refine lv_istore (pc := 416) (lv' := [(5, .int v_54), (0, .ref h0), (1, .int p1), (3, .int p3)]) hx hb (zdt_at zt_X10_unwrap_3 33 rfl) hl (by decide) rfl ?_
        clear hl
        intro ls hl
        refine lv_iconst (pc := 418) (v := (0 : Int32)) hx hb (zdt_at zt_X10_unwrap_3 34 rfl) (by decide) ?_
        refine lv_istore (pc := 419) (lv' := [(6, .int (0 : Int32)), (5, .int v_54), (0, .ref h0), (1, .int p1), (3, .int p3)]) hx hb (zdt_at zt_X10_unwrap_3 35 rfl) hl (by decide) rfl ?_
        clear hl
        intro ls hl
        replace hf := zj_s hf
        obtain ⟨K_59, eK_59, hf⟩ := hf
        have kK_59 : ∀ (v_58 : Int32) (H : Heap) (locs : List Loc) (ls : Array Slot), va_P D vwCl ([(h0, .inr (12, zmo hm (0 : Int32) c_state c_test c_words c_ill c_before c_inRow c_first c_inWindow c_same c_made c_requests c_total c_secrets c_rounds_42 c_high c_low c_keyHigh c_keyLow)), ((hm 40), .inl (cy 1, 256, .inl c_back)), ((hm 43), .inl (cy 1, 16, .inl c_block_49)), ((hm 39), .inl (cy 1, 256, .inl c_box)), ((hm 6), .inl (cy 1, 512, .inl c_buffer)), ((hm 5), .inl (cy 1, 3, .inl c_counters)), ((hm 12), .inl (cy 1, 16, .inl c_holder)), ((hm 14), .inl (cy 1, 1024, .inl c_keys)), ((hm 9), .inl (cy 1, 16, .inl c_kind)), ((hm 10), .inl (cy 1, 16, .inl c_length)), ((hm 44), .inl (cy 1, 16, .inl c_other_50)), ((hm 45), .inl (cy 1, 600, .inl c_result_51)), ((hm 41), .inl (cy 1, 240, .inl c_round_43)), ((hm 11), .inl (cy 1, 16, .inl c_usage)), ((hm 13), .inl (cy 1, 16, .inl c_uses_36))]) H → va_D A ([(h0, .inr (12, zmo hm (0 : Int32) c_state c_test c_words c_ill c_before c_inRow c_first c_inWindow c_same c_made c_requests c_total c_secrets c_rounds_42 c_high c_low c_keyHigh c_keyLow)), ((hm 40), .inl (cy 1, 256, .inl c_back)), ((hm 43), .inl (cy 1, 16, .inl c_block_49)), ((hm 39), .inl (cy 1, 256, .inl c_box)), ((hm 6), .inl (cy 1, 512, .inl c_buffer)), ((hm 5), .inl (cy 1, 3, .inl c_counters)), ((hm 12), .inl (cy 1, 16, .inl c_holder)), ((hm 14), .inl (cy 1, 1024, .inl c_keys)), ((hm 9), .inl (cy 1, 16, .inl c_kind)), ((hm 10), .inl (cy 1, 16, .inl c_length)), ((hm 44), .inl (cy 1, 16, .inl c_other_50)), ((hm 45), .inl (cy 1, 600, .inl c_result_51)), ((hm 41), .inl (cy 1, 240, .inl c_round_43)), ((hm 11), .inl (cy 1, 16, .inl c_usage)), ((hm 13), .inl (cy 1, 16, .inl c_uses_36))]) → va_S A s.heap H locs → lv_has ls 8 [(0, .ref h0), (1, .int p1), (3, .int p3), (5, .int v_58)] → K_59 v_58 = some (r_, c_rounds', c_thrown', c_block', c_counters', c_holder', c_keys', c_kind', c_length', c_other', c_result', c_round', c_usage', c_uses') → GW H locs (F0 m 478 ls []) := by
          clear hf hl hP hD hS
          intro v_58 H locs ls hP hD hS hl hf
          rw [eK_59] at hf
          clear eK_59
          refine hFr _ _ _ ?_
          refine lv_iload (pc := 478) hx hb (zdt_at zt_X10_unwrap_3 63 rfl) (lv_at hl 3 rfl) ?_
          refine lv_if_eq (pc := 480) (tgt := 500) hx hb (zdt_at zt_X10_unwrap_4 0 rfl) (by decide) (fun cn_ => ?t_60) (fun cn_ => ?f_61)
          case t_60 =>
            replace hf := zt_s cn_ hf
            clear cn_
            refine lv_aload_n (pc := 500) hx hb (zdt_at zt_X10_unwrap_4 10 rfl) rfl (lv_at hl 0 rfl) ?_
            refine lv_bipush (pc := 501) (v := (-9 : Int32)) hx hb (zdt_at zt_X10_unwrap_4 11 rfl) (by decide) ?_
            replace hf := zb_s hf
            obtain ⟨⟨r_62, c_counters_63⟩, hc_, hf⟩ := hf
            refine zcn2 (pc := 503) (rv := (some (.int r_62))) (va_runV (As := [.int (-9 : Int32)]) (rest := []) ⟨hx, hb, hml, hown, hts⟩ (c_X10_answer l D cy tt H.size h0 hm (-9 : Int32) c_counters (0 : Int32) c_state c_test c_words c_ill c_before c_inRow c_first c_inWindow c_same c_made c_requests c_total c_secrets c_rounds_42 c_high c_low c_keyHigh c_keyLow r_62 c_counters_63 hc_) (cwV 1 hts gX10_unwrap_X10_answer rfl rfl rfl (by decide +kernel) ⟨Nat.le_of_ble_eq_true rfl, Nat.le_of_ble_eq_true rfl⟩) ⟨zblind, va_recv hK hP (ci := 12) (q0 := 0) rfl rfl, zpre hE hS (hP.sub [0, 5] rfl) (hD.sub [0, 5] (by decide) rfl) (va_free hD hS hA [0, 5] rfl)⟩ rfl rfl hl.1 rfl (lv_room (Nat.le_of_ble_eq_true rfl)) (zdt_at zt_X10_unwrap_4 12 rfl) ⟨Nat.zero_le _, Nat.zero_le _⟩) hS hP hD (va_free hD hS hA [0, 5] rfl) [0, 5] rfl (by decide) rfl ?_
            clear hP hD hS hc_
            intro H locs hP hD hS
            replace hP : va_P D vwCl ([(h0, .inr (12, zmo hm (0 : Int32) c_state c_test c_words c_ill c_before c_inRow c_first c_inWindow c_same c_made c_requests c_total c_secrets c_rounds_42 c_high c_low c_keyHigh c_keyLow)), ((hm 40), .inl (cy 1, 256, .inl c_back)), ((hm 43), .inl (cy 1, 16, .inl c_block_49)), ((hm 39), .inl (cy 1, 256, .inl c_box)), ((hm 6), .inl (cy 1, 512, .inl c_buffer)), ((hm 5), .inl (cy 1, 3, .inl c_counters_63)), ((hm 12), .inl (cy 1, 16, .inl c_holder)), ((hm 14), .inl (cy 1, 1024, .inl c_keys)), ((hm 9), .inl (cy 1, 16, .inl c_kind)), ((hm 10), .inl (cy 1, 16, .inl c_length)), ((hm 44), .inl (cy 1, 16, .inl c_other_50)), ((hm 45), .inl (cy 1, 600, .inl c_result_51)), ((hm 41), .inl (cy 1, 240, .inl c_round_43)), ((hm 11), .inl (cy 1, 16, .inl c_usage)), ((hm 13), .inl (cy 1, 16, .inl c_uses_36))]) H := hP
            replace hD : va_D A ([(h0, .inr (12, zmo hm (0 : Int32) c_state c_test c_words c_ill c_before c_inRow c_first c_inWindow c_same c_made c_requests c_total c_secrets c_rounds_42 c_high c_low c_keyHigh c_keyLow)), ((hm 40), .inl (cy 1, 256, .inl c_back)), ((hm 43), .inl (cy 1, 16, .inl c_block_49)), ((hm 39), .inl (cy 1, 256, .inl c_box)), ((hm 6), .inl (cy 1, 512, .inl c_buffer)), ((hm 5), .inl (cy 1, 3, .inl c_counters_63)), ((hm 12), .inl (cy 1, 16, .inl c_holder)), ((hm 14), .inl (cy 1, 1024, .inl c_keys)), ((hm 9), .inl (cy 1, 16, .inl c_kind)), ((hm 10), .inl (cy 1, 16, .inl c_length)), ((hm 44), .inl (cy 1, 16, .inl c_other_50)), ((hm 45), .inl (cy 1, 600, .inl c_result_51)), ((hm 41), .inl (cy 1, 240, .inl c_round_43)), ((hm 11), .inl (cy 1, 16, .inl c_usage)), ((hm 13), .inl (cy 1, 16, .inl c_uses_36))]) := hD
            refine W.eq (g2 := F0 m 506 ls [.int r_62]) rfl ?_
            cases hf
            exact W.iret (pc := 506) hx hb hr (fun t ht hW => ⟨rfl, ⟨by rw [ht]; exact hP, hD⟩, hS.F ht⟩) hS.2.2 (zdt_at zt_X10_unwrap_4 13 rfl)
          replace hf := ze_s cn_ hf
          clear cn_
          refine lv_aload_n (pc := 483) hx hb (zdt_at zt_X10_unwrap_4 1 rfl) rfl (lv_at hl 0 rfl) ?_
          refine va_get (pc := 484) (D := D) (ci := 12) (v := .ref (hm 45)) (C := RX10) (T := TX10) (N := 52) hx hb hts hcX10 hown hK hP 0 rfl rfl 45 (by decide) hw4 (fun _ h9 => h9) rfl (zdt_at zt_X10_unwrap_4 2 rfl) ?_
          refine lv_bipush (pc := 487) (v := (8 : Int32)) hx hb (zdt_at zt_X10_unwrap_4 3 rfl) (by decide) ?_
          replace hf := zk_s hf
          refine va_iald (pc := 489) hx hb hK hP 11 1 rfl rfl hf.1 (zdt_at zt_X10_unwrap_4 4 rfl) ?_
          replace hf := hf.2
          refine lv_iload_n (pc := 490) hx hb (zdt_at zt_X10_unwrap_4 5 rfl) rfl (lv_at hl 2 rfl) ?_
          refine lv_bipush (pc := 491) (v := (16 : Int32)) hx hb (zdt_at zt_X10_unwrap_4 6 rfl) (by decide) ?_
          refine lv_isub (pc := 493) hx hb (zdt_at zt_X10_unwrap_4 7 rfl) ?_
          replace hf := zb_s hf
          obtain ⟨r_64, hc_, hf⟩ := hf
          refine zcs (pc := 494) (rv := (some (.int r_64))) (va_runS (As := [.int (c_result_51 (8 : Int32).toNatClampNeg), .int (p3 - (16 : Int32))]) (rest := []) ⟨hx, hb, hml, hown, hts⟩ (c_X10_isKey l D cy tt H.size (c_result_51 (8 : Int32).toNatClampNeg) (p3 - (16 : Int32)) r_64 hc_) (va_cwS 2 hts gX10_unwrap_X10_isKey rfl rfl rfl (by decide +kernel) ⟨Nat.le_of_ble_eq_true rfl, Nat.le_of_ble_eq_true rfl⟩) ⟨zblind, zpre hE hS (hP.sub [] rfl) (hD.sub [] (by decide) rfl) (va_free hD hS hA [] rfl)⟩ rfl rfl hl.1 rfl (lv_room (Nat.le_of_ble_eq_true rfl)) (zdt_at zt_X10_unwrap_4 8 rfl) ⟨Nat.zero_le _, Nat.zero_le _⟩) ?_
          clear hc_
          refine W.eq (g2 := F0 m 497 ls [.int r_64]) rfl ?_
          refine lv_if_ne (pc := 497) (tgt := 507) hx hb (zdt_at zt_X10_unwrap_4 9 rfl) (by decide) (fun cn_ => ?t_65) (fun cn_ => ?f_66)
          case f_66 =>
            replace hf := zt_s cn_ hf
            clear cn_
            refine lv_aload_n (pc := 500) hx hb (zdt_at zt_X10_unwrap_4 10 rfl) rfl (lv_at hl 0 rfl) ?_
            refine lv_bipush (pc := 501) (v := (-9 : Int32)) hx hb (zdt_at zt_X10_unwrap_4 11 rfl) (by decide) ?_
            replace hf := zb_s hf
            obtain ⟨⟨r_83, c_counters_84⟩, hc_, hf⟩ := hf
            refine zcn2 (pc := 503) (rv := (some (.int r_83))) (va_runV (As := [.int (-9 : Int32)]) (rest := []) ⟨hx, hb, hml, hown, hts⟩ (c_X10_answer l D cy tt H.size h0 hm (-9 : Int32) c_counters (0 : Int32) c_state c_test c_words c_ill c_before c_inRow c_first c_inWindow c_same c_made c_requests c_total c_secrets c_rounds_42 c_high c_low c_keyHigh c_keyLow r_83 c_counters_84 hc_) (cwV 1 hts gX10_unwrap_X10_answer rfl rfl rfl (by decide +kernel) ⟨Nat.le_of_ble_eq_true rfl, Nat.le_of_ble_eq_true rfl⟩) ⟨zblind, va_recv hK hP (ci := 12) (q0 := 0) rfl rfl, zpre hE hS (hP.sub [0, 5] rfl) (hD.sub [0, 5] (by decide) rfl) (va_free hD hS hA [0, 5] rfl)⟩ rfl rfl hl.1 rfl (lv_room (Nat.le_of_ble_eq_true rfl)) (zdt_at zt_X10_unwrap_4 12 rfl) ⟨Nat.zero_le _, Nat.zero_le _⟩) hS hP hD (va_free hD hS hA [0, 5] rfl) [0, 5] rfl (by decide) rfl ?_
            clear hP hD hS hc_
            intro H locs hP hD hS
            replace hP : va_P D vwCl ([(h0, .inr (12, zmo hm (0 : Int32) c_state c_test c_words c_ill c_before c_inRow c_first c_inWindow c_same c_made c_requests c_total c_secrets c_rounds_42 c_high c_low c_keyHigh c_keyLow)), ((hm 40), .inl (cy 1, 256, .inl c_back)), ((hm 43), .inl (cy 1, 16, .inl c_block_49)), ((hm 39), .inl (cy 1, 256, .inl c_box)), ((hm 6), .inl (cy 1, 512, .inl c_buffer)), ((hm 5), .inl (cy 1, 3, .inl c_counters_84)), ((hm 12), .inl (cy 1, 16, .inl c_holder)), ((hm 14), .inl (cy 1, 1024, .inl c_keys)), ((hm 9), .inl (cy 1, 16, .inl c_kind)), ((hm 10), .inl (cy 1, 16, .inl c_length)), ((hm 44), .inl (cy 1, 16, .inl c_other_50)), ((hm 45), .inl (cy 1, 600, .inl c_result_51)), ((hm 41), .inl (cy 1, 240, .inl c_round_43)), ((hm 11), .inl (cy 1, 16, .inl c_usage)), ((hm 13), .inl (cy 1, 16, .inl c_uses_36))]) H := hP
            replace hD : va_D A ([(h0, .inr (12, zmo hm (0 : Int32) c_state c_test c_words c_ill c_before c_inRow c_first c_inWindow c_same c_made c_requests c_total c_secrets c_rounds_42 c_high c_low c_keyHigh c_keyLow)), ((hm 40), .inl (cy 1, 256, .inl c_back)), ((hm 43), .inl (cy 1, 16, .inl c_block_49)), ((hm 39), .inl (cy 1, 256, .inl c_box)), ((hm 6), .inl (cy 1, 512, .inl c_buffer)), ((hm 5), .inl (cy 1, 3, .inl c_counters_84)), ((hm 12), .inl (cy 1, 16, .inl c_holder)), ((hm 14), .inl (cy 1, 1024, .inl c_keys)), ((hm 9), .inl (cy 1, 16, .inl c_kind)), ((hm 10), .inl (cy 1, 16, .inl c_length)), ((hm 44), .inl (cy 1, 16, .inl c_other_50)), ((hm 45), .inl (cy 1, 600, .inl c_result_51)), ((hm 41), .inl (cy 1, 240, .inl c_round_43)), ((hm 11), .inl (cy 1, 16, .inl c_usage)), ((hm 13), .inl (cy 1, 16, .inl c_uses_36))]) := hD
            refine W.eq (g2 := F0 m 506 ls [.int r_83]) rfl ?_
            cases hf
            exact W.iret (pc := 506) hx hb hr (fun t ht hW => ⟨rfl, ⟨by rw [ht]; exact hP, hD⟩, hS.F ht⟩) hS.2.2 (zdt_at zt_X10_unwrap_4 13 rfl)
          replace hf := ze_s cn_ hf
          clear cn_
          refine lv_aload_n (pc := 507) hx hb (zdt_at zt_X10_unwrap_4 14 rfl) rfl (lv_at hl 0 rfl) ?_
          refine lv_iload_n (pc := 508) hx hb (zdt_at zt_X10_unwrap_4 15 rfl) rfl (lv_at hl 1 rfl) ?_
          refine lv_aload_n (pc := 509) hx hb (zdt_at zt_X10_unwrap_4 16 rfl) rfl (lv_at hl 0 rfl) ?_
          refine va_get (pc := 510) (D := D) (ci := 12) (v := .ref (hm 45)) (C := RX10) (T := TX10) (N := 52) hx hb hts hcX10 hown hK hP 0 rfl rfl 45 (by decide) hw4 (fun _ h9 => h9) rfl (zdt_at zt_X10_unwrap_4 17 rfl) ?_
          refine lv_bipush (pc := 513) (v := (8 : Int32)) hx hb (zdt_at zt_X10_unwrap_4 18 rfl) (by decide) ?_
          replace hf := zk_s hf
          refine va_iald (pc := 515) hx hb hK hP 11 1 rfl rfl hf.1 (zdt_at zt_X10_unwrap_4 19 rfl) ?_
          replace hf := hf.2
          refine lv_aload_n (pc := 516) hx hb (zdt_at zt_X10_unwrap_4 20 rfl) rfl (lv_at hl 0 rfl) ?_
          refine va_get (pc := 517) (D := D) (ci := 12) (v := .ref (hm 45)) (C := RX10) (T := TX10) (N := 52) hx hb hts hcX10 hown hK hP 0 rfl rfl 45 (by decide) hw4 (fun _ h9 => h9) rfl (zdt_at zt_X10_unwrap_4 21 rfl) ?_
          refine lv_bipush (pc := 520) (v := (9 : Int32)) hx hb (zdt_at zt_X10_unwrap_4 22 rfl) (by decide) ?_
          replace hf := zk_s hf
          refine va_iald (pc := 522) hx hb hK hP 11 1 rfl rfl hf.1 (zdt_at zt_X10_unwrap_4 23 rfl) ?_
          replace hf := hf.2
          refine lv_aload_n (pc := 523) hx hb (zdt_at zt_X10_unwrap_4 24 rfl) rfl (lv_at hl 0 rfl) ?_
          replace hf := zb_s hf
          obtain ⟨r_67, hc_, hf⟩ := hf
          refine zcs (pc := 524) (rv := (some (.int r_67))) (va_runV (As := []) (rest := [.int (c_result_51 (9 : Int32).toNatClampNeg), .int (c_result_51 (8 : Int32).toNatClampNeg), .int p1, .ref h0]) ⟨hx, hb, hml, hown, hts⟩ (c_X10_role l D cy tt H.size h0 hm c_state (0 : Int32) c_test c_words c_ill c_before c_inRow c_first c_inWindow c_same c_made c_requests c_total c_secrets c_rounds_42 c_high c_low c_keyHigh c_keyLow r_67 hc_) (cwV 0 hts gX10_unwrap_X10_role rfl rfl rfl (by decide +kernel) ⟨Nat.le_of_ble_eq_true rfl, Nat.le_of_ble_eq_true rfl⟩) ⟨zblind, va_recv hK hP (ci := 12) (q0 := 0) rfl rfl, zpre hE hS (hP.sub [0] rfl) (hD.sub [0] (by decide) rfl) (va_free hD hS hA [0] rfl)⟩ rfl rfl hl.1 rfl (lv_room (Nat.le_of_ble_eq_true rfl)) (zdt_at zt_X10_unwrap_4 25 rfl) ⟨Nat.zero_le _, Nat.zero_le _⟩) ?_
          clear hc_
          refine W.eq (g2 := F0 m 527 ls [.int r_67, .int (c_result_51 (9 : Int32).toNatClampNeg), .int (c_result_51 (8 : Int32).toNatClampNeg), .int p1, .ref h0]) rfl ?_
          refine lv_iconst (pc := 527) (v := (-1 : Int32)) hx hb (zdt_at zt_X10_unwrap_4 26 rfl) (by decide) ?_
          refine lv_iload_n (pc := 528) hx hb (zdt_at zt_X10_unwrap_4 27 rfl) rfl (lv_at hl 2 rfl) ?_
          refine lv_bipush (pc := 529) (v := (16 : Int32)) hx hb (zdt_at zt_X10_unwrap_4 28 rfl) (by decide) ?_
          refine lv_isub (pc := 531) hx hb (zdt_at zt_X10_unwrap_4 29 rfl) ?_
          replace hf := zb_s hf
          obtain ⟨⟨c_holder_68, c_kind_69, c_length_70, c_usage_71, c_uses_72⟩, hc_, hf⟩ := hf
          refine zcn2 (pc := 532) (rv := none) (va_runV (As := [.int p1, .int (c_result_51 (8 : Int32).toNatClampNeg), .int (c_result_51 (9 : Int32).toNatClampNeg), .int r_67, .int (-1 : Int32), .int (p3 - (16 : Int32))]) (rest := []) ⟨hx, hb, hml, hown, hts⟩ (c_X10_fill l D cy tt H.size h0 hm p1 (c_result_51 (8 : Int32).toNatClampNeg) (c_result_51 (9 : Int32).toNatClampNeg) r_67 (-1 : Int32) (p3 - (16 : Int32)) c_holder c_kind c_length c_usage c_uses_36 (0 : Int32) c_state c_test c_words c_ill c_before c_inRow c_first c_inWindow c_same c_made c_requests c_total c_secrets c_rounds_42 c_high c_low c_keyHigh c_keyLow c_holder_68 c_kind_69 c_length_70 c_usage_71 c_uses_72 hc_) (cwV 6 hts gX10_unwrap_X10_fill rfl rfl rfl (by decide +kernel) ⟨Nat.le_of_ble_eq_true rfl, Nat.le_of_ble_eq_true rfl⟩) ⟨zblind, va_recv hK hP (ci := 12) (q0 := 0) rfl rfl, zpre hE hS (hP.sub [0, 6, 8, 9, 13, 14] rfl) (hD.sub [0, 6, 8, 9, 13, 14] (by decide) rfl) (va_free hD hS hA [0, 6, 8, 9, 13, 14] rfl)⟩ rfl rfl hl.1 rfl (lv_room (Nat.le_of_ble_eq_true rfl)) (zdt_at zt_X10_unwrap_4 30 rfl) ⟨Nat.zero_le _, Nat.zero_le _⟩) hS hP hD (va_free hD hS hA [0, 6, 8, 9, 13, 14] rfl) [0, 6, 8, 9, 13, 14] rfl (by decide) rfl ?_
          clear hP hD hS hc_
          intro H locs hP hD hS
          replace hP : va_P D vwCl ([(h0, .inr (12, zmo hm (0 : Int32) c_state c_test c_words c_ill c_before c_inRow c_first c_inWindow c_same c_made c_requests c_total c_secrets c_rounds_42 c_high c_low c_keyHigh c_keyLow)), ((hm 40), .inl (cy 1, 256, .inl c_back)), ((hm 43), .inl (cy 1, 16, .inl c_block_49)), ((hm 39), .inl (cy 1, 256, .inl c_box)), ((hm 6), .inl (cy 1, 512, .inl c_buffer)), ((hm 5), .inl (cy 1, 3, .inl c_counters)), ((hm 12), .inl (cy 1, 16, .inl c_holder_68)), ((hm 14), .inl (cy 1, 1024, .inl c_keys)), ((hm 9), .inl (cy 1, 16, .inl c_kind_69)), ((hm 10), .inl (cy 1, 16, .inl c_length_70)), ((hm 44), .inl (cy 1, 16, .inl c_other_50)), ((hm 45), .inl (cy 1, 600, .inl c_result_51)), ((hm 41), .inl (cy 1, 240, .inl c_round_43)), ((hm 11), .inl (cy 1, 16, .inl c_usage_71)), ((hm 13), .inl (cy 1, 16, .inl c_uses_72))]) H := hP
          replace hD : va_D A ([(h0, .inr (12, zmo hm (0 : Int32) c_state c_test c_words c_ill c_before c_inRow c_first c_inWindow c_same c_made c_requests c_total c_secrets c_rounds_42 c_high c_low c_keyHigh c_keyLow)), ((hm 40), .inl (cy 1, 256, .inl c_back)), ((hm 43), .inl (cy 1, 16, .inl c_block_49)), ((hm 39), .inl (cy 1, 256, .inl c_box)), ((hm 6), .inl (cy 1, 512, .inl c_buffer)), ((hm 5), .inl (cy 1, 3, .inl c_counters)), ((hm 12), .inl (cy 1, 16, .inl c_holder_68)), ((hm 14), .inl (cy 1, 1024, .inl c_keys)), ((hm 9), .inl (cy 1, 16, .inl c_kind_69)), ((hm 10), .inl (cy 1, 16, .inl c_length_70)), ((hm 44), .inl (cy 1, 16, .inl c_other_50)), ((hm 45), .inl (cy 1, 600, .inl c_result_51)), ((hm 41), .inl (cy 1, 240, .inl c_round_43)), ((hm 11), .inl (cy 1, 16, .inl c_usage_71)), ((hm 13), .inl (cy 1, 16, .inl c_uses_72))]) := hD
          refine W.eq (g2 := F0 m 535 ls []) rfl ?_
          refine lv_iconst (pc := 535) (v := (0 : Int32)) hx hb (zdt_at zt_X10_unwrap_4 31 rfl) (by decide) ?_
          refine lv_istore (pc := 536) (lv' := [(6, .int (0 : Int32)), (0, .ref h0), (1, .int p1), (3, .int p3), (5, .int v_58)]) hx hb (zdt_at zt_X10_unwrap_4 32 rfl) hl (by decide) rfl ?_
          clear hl
          intro ls hl
          replace hf := zj_s hf
          obtain ⟨K_76, eK_76, hf⟩ := hf
          have kK_76 : ∀ (c_keys_75 : Nat → Int32) (H : Heap) (locs : List Loc) (ls : Array Slot), va_P D vwCl ([(h0, .inr (12, zmo hm (0 : Int32) c_state c_test c_words c_ill c_before c_inRow c_first c_inWindow c_same c_made c_requests c_total c_secrets c_rounds_42 c_high c_low c_keyHigh c_keyLow)), ((hm 40), .inl (cy 1, 256, .inl c_back)), ((hm 43), .inl (cy 1, 16, .inl c_block_49)), ((hm 39), .inl (cy 1, 256, .inl c_box)), ((hm 6), .inl (cy 1, 512, .inl c_buffer)), ((hm 5), .inl (cy 1, 3, .inl c_counters)), ((hm 12), .inl (cy 1, 16, .inl c_holder_68)), ((hm 14), .inl (cy 1, 1024, .inl c_keys_75)), ((hm 9), .inl (cy 1, 16, .inl c_kind_69)), ((hm 10), .inl (cy 1, 16, .inl c_length_70)), ((hm 44), .inl (cy 1, 16, .inl c_other_50)), ((hm 45), .inl (cy 1, 600, .inl c_result_51)), ((hm 41), .inl (cy 1, 240, .inl c_round_43)), ((hm 11), .inl (cy 1, 16, .inl c_usage_71)), ((hm 13), .inl (cy 1, 16, .inl c_uses_72))]) H → va_D A ([(h0, .inr (12, zmo hm (0 : Int32) c_state c_test c_words c_ill c_before c_inRow c_first c_inWindow c_same c_made c_requests c_total c_secrets c_rounds_42 c_high c_low c_keyHigh c_keyLow)), ((hm 40), .inl (cy 1, 256, .inl c_back)), ((hm 43), .inl (cy 1, 16, .inl c_block_49)), ((hm 39), .inl (cy 1, 256, .inl c_box)), ((hm 6), .inl (cy 1, 512, .inl c_buffer)), ((hm 5), .inl (cy 1, 3, .inl c_counters)), ((hm 12), .inl (cy 1, 16, .inl c_holder_68)), ((hm 14), .inl (cy 1, 1024, .inl c_keys_75)), ((hm 9), .inl (cy 1, 16, .inl c_kind_69)), ((hm 10), .inl (cy 1, 16, .inl c_length_70)), ((hm 44), .inl (cy 1, 16, .inl c_other_50)), ((hm 45), .inl (cy 1, 600, .inl c_result_51)), ((hm 41), .inl (cy 1, 240, .inl c_round_43)), ((hm 11), .inl (cy 1, 16, .inl c_usage_71)), ((hm 13), .inl (cy 1, 16, .inl c_uses_72))]) → va_S A s.heap H locs → lv_has ls 8 [(0, .ref h0)] → K_76 c_keys_75 = some (r_, c_rounds', c_thrown', c_block', c_counters', c_holder', c_keys', c_kind', c_length', c_other', c_result', c_round', c_usage', c_uses') → GW H locs (F0 m 575 ls []) := by
            clear hf hl hP hD hS
            intro c_keys_75 H locs ls hP hD hS hl hf
            rw [eK_76] at hf
            clear eK_76
            refine hFr _ _ _ ?_
            refine lv_aload_n (pc := 575) hx hb (zdt_at zt_X10_unwrap_4 54 rfl) rfl (lv_at hl 0 rfl) ?_
            refine lv_iconst (pc := 576) (v := (0 : Int32)) hx hb (zdt_at zt_X10_unwrap_4 55 rfl) (by decide) ?_
            replace hf := zb_s hf
            obtain ⟨⟨r_77, c_counters_78⟩, hc_, hf⟩ := hf
            refine zcn2 (pc := 577) (rv := (some (.int r_77))) (va_runV (As := [.int (0 : Int32)]) (rest := []) ⟨hx, hb, hml, hown, hts⟩ (c_X10_answer l D cy tt H.size h0 hm (0 : Int32) c_counters (0 : Int32) c_state c_test c_words c_ill c_before c_inRow c_first c_inWindow c_same c_made c_requests c_total c_secrets c_rounds_42 c_high c_low c_keyHigh c_keyLow r_77 c_counters_78 hc_) (cwV 1 hts gX10_unwrap_X10_answer rfl rfl rfl (by decide +kernel) ⟨Nat.le_of_ble_eq_true rfl, Nat.le_of_ble_eq_true rfl⟩) ⟨zblind, va_recv hK hP (ci := 12) (q0 := 0) rfl rfl, zpre hE hS (hP.sub [0, 5] rfl) (hD.sub [0, 5] (by decide) rfl) (va_free hD hS hA [0, 5] rfl)⟩ rfl rfl hl.1 rfl (lv_room (Nat.le_of_ble_eq_true rfl)) (zdt_at zt_X10_unwrap_4 56 rfl) ⟨Nat.zero_le _, Nat.zero_le _⟩) hS hP hD (va_free hD hS hA [0, 5] rfl) [0, 5] rfl (by decide) rfl ?_
            clear hP hD hS hc_
            intro H locs hP hD hS
            replace hP : va_P D vwCl ([(h0, .inr (12, zmo hm (0 : Int32) c_state c_test c_words c_ill c_before c_inRow c_first c_inWindow c_same c_made c_requests c_total c_secrets c_rounds_42 c_high c_low c_keyHigh c_keyLow)), ((hm 40), .inl (cy 1, 256, .inl c_back)), ((hm 43), .inl (cy 1, 16, .inl c_block_49)), ((hm 39), .inl (cy 1, 256, .inl c_box)), ((hm 6), .inl (cy 1, 512, .inl c_buffer)), ((hm 5), .inl (cy 1, 3, .inl c_counters_78)), ((hm 12), .inl (cy 1, 16, .inl c_holder_68)), ((hm 14), .inl (cy 1, 1024, .inl c_keys_75)), ((hm 9), .inl (cy 1, 16, .inl c_kind_69)), ((hm 10), .inl (cy 1, 16, .inl c_length_70)), ((hm 44), .inl (cy 1, 16, .inl c_other_50)), ((hm 45), .inl (cy 1, 600, .inl c_result_51)), ((hm 41), .inl (cy 1, 240, .inl c_round_43)), ((hm 11), .inl (cy 1, 16, .inl c_usage_71)), ((hm 13), .inl (cy 1, 16, .inl c_uses_72))]) H := hP
            replace hD : va_D A ([(h0, .inr (12, zmo hm (0 : Int32) c_state c_test c_words c_ill c_before c_inRow c_first c_inWindow c_same c_made c_requests c_total c_secrets c_rounds_42 c_high c_low c_keyHigh c_keyLow)), ((hm 40), .inl (cy 1, 256, .inl c_back)), ((hm 43), .inl (cy 1, 16, .inl c_block_49)), ((hm 39), .inl (cy 1, 256, .inl c_box)), ((hm 6), .inl (cy 1, 512, .inl c_buffer)), ((hm 5), .inl (cy 1, 3, .inl c_counters_78)), ((hm 12), .inl (cy 1, 16, .inl c_holder_68)), ((hm 14), .inl (cy 1, 1024, .inl c_keys_75)), ((hm 9), .inl (cy 1, 16, .inl c_kind_69)), ((hm 10), .inl (cy 1, 16, .inl c_length_70)), ((hm 44), .inl (cy 1, 16, .inl c_other_50)), ((hm 45), .inl (cy 1, 600, .inl c_result_51)), ((hm 41), .inl (cy 1, 240, .inl c_round_43)), ((hm 11), .inl (cy 1, 16, .inl c_usage_71)), ((hm 13), .inl (cy 1, 16, .inl c_uses_72))]) := hD
            refine W.eq (g2 := F0 m 580 ls [.int r_77]) rfl ?_
            cases hf
            exact W.iret (pc := 580) hx hb hr (fun t ht hW => ⟨rfl, ⟨by rw [ht]; exact hP, hD⟩, hS.F ht⟩) hS.2.2 (zdt_at zt_X10_unwrap_4 57 rfl)
          clear eK_76
          refine hTo _ _ _ (zl_go (fun z => match z with | (i_73, c_keys_74) => ∀ (H : Heap) (locs : List Loc) (ls : Array Slot), va_P D vwCl ([(h0, .inr (12, zmo hm (0 : Int32) c_state c_test c_words c_ill c_before c_inRow c_first c_inWindow c_same c_made c_requests c_total c_secrets c_rounds_42 c_high c_low c_keyHigh c_keyLow)), ((hm 40), .inl (cy 1, 256, .inl c_back)), ((hm 43), .inl (cy 1, 16, .inl c_block_49)), ((hm 39), .inl (cy 1, 256, .inl c_box)), ((hm 6), .inl (cy 1, 512, .inl c_buffer)), ((hm 5), .inl (cy 1, 3, .inl c_counters)), ((hm 12), .inl (cy 1, 16, .inl c_holder_68)), ((hm 14), .inl (cy 1, 1024, .inl c_keys_74)), ((hm 9), .inl (cy 1, 16, .inl c_kind_69)), ((hm 10), .inl (cy 1, 16, .inl c_length_70)), ((hm 44), .inl (cy 1, 16, .inl c_other_50)), ((hm 45), .inl (cy 1, 600, .inl c_result_51)), ((hm 41), .inl (cy 1, 240, .inl c_round_43)), ((hm 11), .inl (cy 1, 16, .inl c_usage_71)), ((hm 13), .inl (cy 1, 16, .inl c_uses_72))]) H → va_D A ([(h0, .inr (12, zmo hm (0 : Int32) c_state c_test c_words c_ill c_before c_inRow c_first c_inWindow c_same c_made c_requests c_total c_secrets c_rounds_42 c_high c_low c_keyHigh c_keyLow)), ((hm 40), .inl (cy 1, 256, .inl c_back)), ((hm 43), .inl (cy 1, 16, .inl c_block_49)), ((hm 39), .inl (cy 1, 256, .inl c_box)), ((hm 6), .inl (cy 1, 512, .inl c_buffer)), ((hm 5), .inl (cy 1, 3, .inl c_counters)), ((hm 12), .inl (cy 1, 16, .inl c_holder_68)), ((hm 14), .inl (cy 1, 1024, .inl c_keys_74)), ((hm 9), .inl (cy 1, 16, .inl c_kind_69)), ((hm 10), .inl (cy 1, 16, .inl c_length_70)), ((hm 44), .inl (cy 1, 16, .inl c_other_50)), ((hm 45), .inl (cy 1, 600, .inl c_result_51)), ((hm 41), .inl (cy 1, 240, .inl c_round_43)), ((hm 11), .inl (cy 1, 16, .inl c_usage_71)), ((hm 13), .inl (cy 1, 16, .inl c_uses_72))]) → va_S A s.heap H locs → lv_has ls 8 [(0, .ref h0), (1, .int p1), (3, .int p3), (6, .int i_73)] → GW H locs (F0 m 538 ls [])) hf ?_ H locs ls hP hD hS (lv_sub hl [1, 2, 3, 0] rfl))
          clear hf hl hP hD hS
          intro self_79 ihself_79 z hf
          obtain ⟨i_73, c_keys_74⟩ := z
          intro H locs ls hP hD hS hl
          refine hFr _ _ _ ?_
          unfold b_X10_unwrap_538 at hf
          refine lv_iload (pc := 538) hx hb (zdt_at zt_X10_unwrap_4 33 rfl) (lv_at hl 3 rfl) ?_
          refine lv_iload_n (pc := 540) hx hb (zdt_at zt_X10_unwrap_4 34 rfl) rfl (lv_at hl 2 rfl) ?_
          refine lv_bipush (pc := 541) (v := (16 : Int32)) hx hb (zdt_at zt_X10_unwrap_4 35 rfl) (by decide) ?_
          refine lv_isub (pc := 543) hx hb (zdt_at zt_X10_unwrap_4 36 rfl) ?_
          refine lv_icmp_ge (pc := 544) (tgt := 575) hx hb (zdt_at zt_X10_unwrap_4 37 rfl) (by decide) (fun cn_ => ?t_80) (fun cn_ => ?f_81)
          case t_80 =>
            replace hf := zt_s cn_ hf
            clear cn_
            exact hTo _ _ _ (kK_76 _ H locs ls hP hD hS (lv_sub hl [0] rfl) hf)
          replace hf := ze_s cn_ hf
          clear cn_
          refine lv_aload_n (pc := 547) hx hb (zdt_at zt_X10_unwrap_4 38 rfl) rfl (lv_at hl 0 rfl) ?_
          refine va_get (pc := 548) (D := D) (ci := 12) (v := .ref (hm 14)) (C := RX10) (T := TX10) (N := 52) hx hb hts hcX10 hown hK hP 0 rfl rfl 14 (by decide) hw5 (fun _ h9 => h9) rfl (zdt_at zt_X10_unwrap_4 39 rfl) ?_
          refine lv_bipush (pc := 551) (v := (64 : Int32)) hx hb (zdt_at zt_X10_unwrap_4 40 rfl) (by decide) ?_
          refine lv_iload_n (pc := 553) hx hb (zdt_at zt_X10_unwrap_4 41 rfl) rfl (lv_at hl 1 rfl) ?_
          refine lv_imul (pc := 554) hx hb (zdt_at zt_X10_unwrap_4 42 rfl) ?_
          refine lv_iload (pc := 555) hx hb (zdt_at zt_X10_unwrap_4 43 rfl) (lv_at hl 3 rfl) ?_
          refine lv_iadd (pc := 557) hx hb (zdt_at zt_X10_unwrap_4 44 rfl) ?_
          refine lv_aload_n (pc := 558) hx hb (zdt_at zt_X10_unwrap_4 45 rfl) rfl (lv_at hl 0 rfl) ?_
          refine va_get (pc := 559) (D := D) (ci := 12) (v := .ref (hm 45)) (C := RX10) (T := TX10) (N := 52) hx hb hts hcX10 hown hK hP 0 rfl rfl 45 (by decide) hw4 (fun _ h9 => h9) rfl (zdt_at zt_X10_unwrap_4 46 rfl) ?_
          refine lv_bipush (pc := 562) (v := (16 : Int32)) hx hb (zdt_at zt_X10_unwrap_4 47 rfl) (by decide) ?_
          refine lv_iload (pc := 564) hx hb (zdt_at zt_X10_unwrap_4 48 rfl) (lv_at hl 3 rfl) ?_
          refine lv_iadd (pc := 566) hx hb (zdt_at zt_X10_unwrap_4 49 rfl) ?_
          replace hf := zk_s hf
          refine va_iald (pc := 567) hx hb hK hP 11 1 rfl rfl hf.1 (zdt_at zt_X10_unwrap_4 50 rfl) ?_
          replace hf := hf.2
          replace hf := zk_s hf
          refine va_iast (pc := 568) hx hb hK hP hD hS 7 1 rfl rfl hf.1 (zdt_at zt_X10_unwrap_4 51 rfl) ?_
          replace hf := hf.2
          clear hP hD hS
          intro H locs hP hD hS
          obtain ⟨c_keys_82, e_⟩ : ∃ q : Nat → Int32, q = (upd c_keys_74 (((64 : Int32) * p1) + i_73).toNatClampNeg (c_result_51 ((16 : Int32) + i_73).toNatClampNeg)) := ⟨_, rfl⟩
          replace hf := zn_s hf e_
          replace hP : va_P D vwCl ([(h0, .inr (12, zmo hm (0 : Int32) c_state c_test c_words c_ill c_before c_inRow c_first c_inWindow c_same c_made c_requests c_total c_secrets c_rounds_42 c_high c_low c_keyHigh c_keyLow)), ((hm 40), .inl (cy 1, 256, .inl c_back)), ((hm 43), .inl (cy 1, 16, .inl c_block_49)), ((hm 39), .inl (cy 1, 256, .inl c_box)), ((hm 6), .inl (cy 1, 512, .inl c_buffer)), ((hm 5), .inl (cy 1, 3, .inl c_counters)), ((hm 12), .inl (cy 1, 16, .inl c_holder_68)), ((hm 14), .inl (cy 1, 1024, .inl c_keys_82)), ((hm 9), .inl (cy 1, 16, .inl c_kind_69)), ((hm 10), .inl (cy 1, 16, .inl c_length_70)), ((hm 44), .inl (cy 1, 16, .inl c_other_50)), ((hm 45), .inl (cy 1, 600, .inl c_result_51)), ((hm 41), .inl (cy 1, 240, .inl c_round_43)), ((hm 11), .inl (cy 1, 16, .inl c_usage_71)), ((hm 13), .inl (cy 1, 16, .inl c_uses_72))]) H := by rw [e_]; exact hP
          replace hD : va_D A ([(h0, .inr (12, zmo hm (0 : Int32) c_state c_test c_words c_ill c_before c_inRow c_first c_inWindow c_same c_made c_requests c_total c_secrets c_rounds_42 c_high c_low c_keyHigh c_keyLow)), ((hm 40), .inl (cy 1, 256, .inl c_back)), ((hm 43), .inl (cy 1, 16, .inl c_block_49)), ((hm 39), .inl (cy 1, 256, .inl c_box)), ((hm 6), .inl (cy 1, 512, .inl c_buffer)), ((hm 5), .inl (cy 1, 3, .inl c_counters)), ((hm 12), .inl (cy 1, 16, .inl c_holder_68)), ((hm 14), .inl (cy 1, 1024, .inl c_keys_82)), ((hm 9), .inl (cy 1, 16, .inl c_kind_69)), ((hm 10), .inl (cy 1, 16, .inl c_length_70)), ((hm 44), .inl (cy 1, 16, .inl c_other_50)), ((hm 45), .inl (cy 1, 600, .inl c_result_51)), ((hm 41), .inl (cy 1, 240, .inl c_round_43)), ((hm 11), .inl (cy 1, 16, .inl c_usage_71)), ((hm 13), .inl (cy 1, 16, .inl c_uses_72))]) := by rw [e_]; exact hD
          clear e_
          refine lv_iinc (pc := 569) (v := (i_73 + (1 : Int32))) (lv' := [(6, .int (i_73 + (1 : Int32))), (0, .ref h0), (1, .int p1), (3, .int p3)]) hx hb (zdt_at zt_X10_unwrap_4 52 rfl) hl (k := 3) rfl rfl (by decide) rfl ?_
          clear hl
          intro ls hl
          refine lv_goto (pc := 572) (tgt := 538) hx hb (zdt_at zt_X10_unwrap_4 53 rfl) (by decide) ?_
          exact hTo _ _ _ (ihself_79 _ hf H locs ls hP hD hS (lv_sub hl [1, 2, 3, 0] rfl))
        clear eK_59
        refine hTo _ _ _ (zl_go (fun z => match z with | (i_56, i_57) => ∀ (H : Heap) (locs : List Loc) (ls : Array Slot), va_P D vwCl ([(h0, .inr (12, zmo hm (0 : Int32) c_state c_test c_words c_ill c_before c_inRow c_first c_inWindow c_same c_made c_requests c_total c_secrets c_rounds_42 c_high c_low c_keyHigh c_keyLow)), ((hm 40), .inl (cy 1, 256, .inl c_back)), ((hm 43), .inl (cy 1, 16, .inl c_block_49)), ((hm 39), .inl (cy 1, 256, .inl c_box)), ((hm 6), .inl (cy 1, 512, .inl c_buffer)), ((hm 5), .inl (cy 1, 3, .inl c_counters)), ((hm 12), .inl (cy 1, 16, .inl c_holder)), ((hm 14), .inl (cy 1, 1024, .inl c_keys)), ((hm 9), .inl (cy 1, 16, .inl c_kind)), ((hm 10), .inl (cy 1, 16, .inl c_length)), ((hm 44), .inl (cy 1, 16, .inl c_other_50)), ((hm 45), .inl (cy 1, 600, .inl c_result_51)), ((hm 41), .inl (cy 1, 240, .inl c_round_43)), ((hm 11), .inl (cy 1, 16, .inl c_usage)), ((hm 13), .inl (cy 1, 16, .inl c_uses_36))]) H → va_D A ([(h0, .inr (12, zmo hm (0 : Int32) c_state c_test c_words c_ill c_before c_inRow c_first c_inWindow c_same c_made c_requests c_total c_secrets c_rounds_42 c_high c_low c_keyHigh c_keyLow)), ((hm 40), .inl (cy 1, 256, .inl c_back)), ((hm 43), .inl (cy 1, 16, .inl c_block_49)), ((hm 39), .inl (cy 1, 256, .inl c_box)), ((hm 6), .inl (cy 1, 512, .inl c_buffer)), ((hm 5), .inl (cy 1, 3, .inl c_counters)), ((hm 12), .inl (cy 1, 16, .inl c_holder)), ((hm 14), .inl (cy 1, 1024, .inl c_keys)), ((hm 9), .inl (cy 1, 16, .inl c_kind)), ((hm 10), .inl (cy 1, 16, .inl c_length)), ((hm 44), .inl (cy 1, 16, .inl c_other_50)), ((hm 45), .inl (cy 1, 600, .inl c_result_51)), ((hm 41), .inl (cy 1, 240, .inl c_round_43)), ((hm 11), .inl (cy 1, 16, .inl c_usage)), ((hm 13), .inl (cy 1, 16, .inl c_uses_36))]) → va_S A s.heap H locs → lv_has ls 8 [(0, .ref h0), (1, .int p1), (3, .int p3), (5, .int i_56), (6, .int i_57)] → GW H locs (F0 m 421 ls [])) hf ?_ H locs ls hP hD hS (lv_sub hl [2, 3, 4, 1, 0] rfl))
        clear hf hl hP hD hS
        intro self_85 ihself_85 z hf
        obtain ⟨i_56, i_57⟩ := z
        intro H locs ls hP hD hS hl
        refine hFr _ _ _ ?_
        unfold b_X10_unwrap_421 at hf
        refine lv_iload (pc := 421) hx hb (zdt_at zt_X10_unwrap_3 36 rfl) (lv_at hl 4 rfl) ?_
        refine lv_bipush (pc := 423) (v := (8 : Int32)) hx hb (zdt_at zt_X10_unwrap_3 37 rfl) (by decide) ?_
        refine lv_icmp_ge (pc := 425) (tgt := 478) hx hb (zdt_at zt_X10_unwrap_3 38 rfl) (by decide) (fun cn_ => ?t_86) (fun cn_ => ?f_87)
        case t_86 =>
          replace hf := zt_s cn_ hf
          clear cn_
          exact hTo _ _ _ (kK_59 _ H locs ls hP hD hS (lv_sub hl [0, 1, 2, 3] rfl) hf)
        replace hf := ze_s cn_ hf
        clear cn_
        refine lv_iload (pc := 428) hx hb (zdt_at zt_X10_unwrap_3 39 rfl) (lv_at hl 3 rfl) ?_
        refine lv_if_eq (pc := 430) (tgt := 469) hx hb (zdt_at zt_X10_unwrap_3 40 rfl) (by decide) (fun cn_ => ?t_88) (fun cn_ => ?f_89)
        case t_88 =>
          replace hf := zt_s cn_ hf
          clear cn_
          refine lv_iconst (pc := 469) (v := (0 : Int32)) hx hb (zdt_at zt_X10_unwrap_3 59 rfl) (by decide) ?_
          refine lv_istore (pc := 470) (lv' := [(5, .int (0 : Int32)), (0, .ref h0), (1, .int p1), (3, .int p3), (6, .int i_57)]) hx hb (zdt_at zt_X10_unwrap_3 60 rfl) hl (by decide) rfl ?_
          clear hl
          intro ls hl
          refine lv_iinc (pc := 472) (v := (i_57 + (1 : Int32))) (lv' := [(6, .int (i_57 + (1 : Int32))), (5, .int (0 : Int32)), (0, .ref h0), (1, .int p1), (3, .int p3)]) hx hb (zdt_at zt_X10_unwrap_3 61 rfl) hl (k := 4) rfl rfl (by decide) rfl ?_
          clear hl
          intro ls hl
          refine lv_goto (pc := 475) (tgt := 421) hx hb (zdt_at zt_X10_unwrap_3 62 rfl) (by decide) ?_
          exact hTo _ _ _ (ihself_85 _ hf H locs ls hP hD hS (lv_sub hl [2, 3, 4, 1, 0] rfl))
        replace hf := ze_s cn_ hf
        clear cn_
        refine lv_aload_n (pc := 433) hx hb (zdt_at zt_X10_unwrap_3 41 rfl) rfl (lv_at hl 0 rfl) ?_
        refine va_get (pc := 434) (D := D) (ci := 12) (v := .ref (hm 45)) (C := RX10) (T := TX10) (N := 52) hx hb hts hcX10 hown hK hP 0 rfl rfl 45 (by decide) hw4 (fun _ h9 => h9) rfl (zdt_at zt_X10_unwrap_3 42 rfl) ?_
        refine lv_iload (pc := 437) hx hb (zdt_at zt_X10_unwrap_3 43 rfl) (lv_at hl 4 rfl) ?_
        replace hf := zk_s hf
        refine va_iald (pc := 439) hx hb hK hP 11 1 rfl rfl hf.1 (zdt_at zt_X10_unwrap_3 44 rfl) ?_
        replace hf := hf.2
        refine lv_sipush (pc := 440) (v := (166 : Int32)) hx hb (zdt_at zt_X10_unwrap_3 45 rfl) (by decide) ?_
        refine lv_icmp_ne (pc := 443) (tgt := 469) hx hb (zdt_at zt_X10_unwrap_3 46 rfl) (by decide) (fun cn_ => ?t_90) (fun cn_ => ?f_91)
        case t_90 =>
          replace hf := ze_s cn_ hf
          clear cn_
          refine lv_iconst (pc := 469) (v := (0 : Int32)) hx hb (zdt_at zt_X10_unwrap_3 59 rfl) (by decide) ?_
          refine lv_istore (pc := 470) (lv' := [(5, .int (0 : Int32)), (0, .ref h0), (1, .int p1), (3, .int p3), (6, .int i_57)]) hx hb (zdt_at zt_X10_unwrap_3 60 rfl) hl (by decide) rfl ?_
          clear hl
          intro ls hl
          refine lv_iinc (pc := 472) (v := (i_57 + (1 : Int32))) (lv' := [(6, .int (i_57 + (1 : Int32))), (5, .int (0 : Int32)), (0, .ref h0), (1, .int p1), (3, .int p3)]) hx hb (zdt_at zt_X10_unwrap_3 61 rfl) hl (k := 4) rfl rfl (by decide) rfl ?_
          clear hl
          intro ls hl
          refine lv_goto (pc := 475) (tgt := 421) hx hb (zdt_at zt_X10_unwrap_3 62 rfl) (by decide) ?_
          exact hTo _ _ _ (ihself_85 _ hf H locs ls hP hD hS (lv_sub hl [2, 3, 4, 1, 0] rfl))
        replace hf := zt_s cn_ hf
        clear cn_
        refine lv_iload (pc := 446) hx hb (zdt_at zt_X10_unwrap_3 47 rfl) (lv_at hl 4 rfl) ?_
        refine lv_iconst (pc := 448) (v := (3 : Int32)) hx hb (zdt_at zt_X10_unwrap_3 48 rfl) (by decide) ?_
        refine lv_icmp_lt (pc := 449) (tgt := 465) hx hb (zdt_at zt_X10_unwrap_3 49 rfl) (by decide) (fun cn_ => ?t_92) (fun cn_ => ?f_93)
        case t_92 =>
          replace hf := zt_s cn_ hf
          clear cn_
          refine lv_iconst (pc := 465) (v := (1 : Int32)) hx hb (zdt_at zt_X10_unwrap_3 57 rfl) (by decide) ?_
          refine lv_goto (pc := 466) (tgt := 470) hx hb (zdt_at zt_X10_unwrap_3 58 rfl) (by decide) ?_
          refine lv_istore (pc := 470) (lv' := [(5, .int (1 : Int32)), (0, .ref h0), (1, .int p1), (3, .int p3), (6, .int i_57)]) hx hb (zdt_at zt_X10_unwrap_3 60 rfl) hl (by decide) rfl ?_
          clear hl
          intro ls hl
          refine lv_iinc (pc := 472) (v := (i_57 + (1 : Int32))) (lv' := [(6, .int (i_57 + (1 : Int32))), (5, .int (1 : Int32)), (0, .ref h0), (1, .int p1), (3, .int p3)]) hx hb (zdt_at zt_X10_unwrap_3 61 rfl) hl (k := 4) rfl rfl (by decide) rfl ?_
          clear hl
          intro ls hl
          refine lv_goto (pc := 475) (tgt := 421) hx hb (zdt_at zt_X10_unwrap_3 62 rfl) (by decide) ?_
          exact hTo _ _ _ (ihself_85 _ hf H locs ls hP hD hS (lv_sub hl [2, 3, 4, 1, 0] rfl))
        replace hf := ze_s cn_ hf
        clear cn_
        refine lv_aload_n (pc := 452) hx hb (zdt_at zt_X10_unwrap_3 50 rfl) rfl (lv_at hl 0 rfl) ?_
        refine va_get (pc := 453) (D := D) (ci := 12) (v := .ref (hm 45)) (C := RX10) (T := TX10) (N := 52) hx hb hts hcX10 hown hK hP 0 rfl rfl 45 (by decide) hw4 (fun _ h9 => h9) rfl (zdt_at zt_X10_unwrap_3 51 rfl) ?_
        refine lv_bipush (pc := 456) (v := (8 : Int32)) hx hb (zdt_at zt_X10_unwrap_3 52 rfl) (by decide) ?_
        refine lv_iload (pc := 458) hx hb (zdt_at zt_X10_unwrap_3 53 rfl) (lv_at hl 4 rfl) ?_
        refine lv_iadd (pc := 460) hx hb (zdt_at zt_X10_unwrap_3 54 rfl) ?_
        replace hf := zk_s hf
        refine va_iald (pc := 461) hx hb hK hP 11 1 rfl rfl hf.1 (zdt_at zt_X10_unwrap_3 55 rfl) ?_
        replace hf := hf.2
        refine lv_if_ne (pc := 462) (tgt := 469) hx hb (zdt_at zt_X10_unwrap_3 56 rfl) (by decide) (fun cn_ => ?t_94) (fun cn_ => ?f_95)
        case t_94 =>
          replace hf := ze_s cn_ hf
          clear cn_
          refine lv_iconst (pc := 469) (v := (0 : Int32)) hx hb (zdt_at zt_X10_unwrap_3 59 rfl) (by decide) ?_
          refine lv_istore (pc := 470) (lv' := [(5, .int (0 : Int32)), (0, .ref h0), (1, .int p1), (3, .int p3), (6, .int i_57)]) hx hb (zdt_at zt_X10_unwrap_3 60 rfl) hl (by decide) rfl ?_
          clear hl
          intro ls hl
          refine lv_iinc (pc := 472) (v := (i_57 + (1 : Int32))) (lv' := [(6, .int (i_57 + (1 : Int32))), (5, .int (0 : Int32)), (0, .ref h0), (1, .int p1), (3, .int p3)]) hx hb (zdt_at zt_X10_unwrap_3 61 rfl) hl (k := 4) rfl rfl (by decide) rfl ?_
          clear hl
          intro ls hl
          refine lv_goto (pc := 475) (tgt := 421) hx hb (zdt_at zt_X10_unwrap_3 62 rfl) (by decide) ?_
          exact hTo _ _ _ (ihself_85 _ hf H locs ls hP hD hS (lv_sub hl [2, 3, 4, 1, 0] rfl))
        replace hf := zt_s cn_ hf
        clear cn_
        refine lv_iconst (pc := 465) (v := (1 : Int32)) hx hb (zdt_at zt_X10_unwrap_3 57 rfl) (by decide) ?_
        refine lv_goto (pc := 466) (tgt := 470) hx hb (zdt_at zt_X10_unwrap_3 58 rfl) (by decide) ?_
        refine lv_istore (pc := 470) (lv' := [(5, .int (1 : Int32)), (0, .ref h0), (1, .int p1), (3, .int p3), (6, .int i_57)]) hx hb (zdt_at zt_X10_unwrap_3 60 rfl) hl (by decide) rfl ?_
        clear hl
        intro ls hl
        refine lv_iinc (pc := 472) (v := (i_57 + (1 : Int32))) (lv' := [(6, .int (i_57 + (1 : Int32))), (5, .int (1 : Int32)), (0, .ref h0), (1, .int p1), (3, .int p3)]) hx hb (zdt_at zt_X10_unwrap_3 61 rfl) hl (k := 4) rfl rfl (by decide) rfl ?_
        clear hl
        intro ls hl
        refine lv_goto (pc := 475) (tgt := 421) hx hb (zdt_at zt_X10_unwrap_3 62 rfl) (by decide) ?_
        exact hTo _ _ _ (ihself_85 _ hf H locs ls hP hD hS (lv_sub hl [2, 3, 4, 1, 0] rfl))
      clear eK_55
      replace hf := zj_s hf
      obtain ⟨K_96, eK_96, hf⟩ := hf
      have kK_96 : ∀  (H : Heap) (locs : List Loc) (ls : Array Slot), va_P D vwCl ([(h0, .inr (12, zmo hm (0 : Int32) c_state c_test c_words c_ill c_before c_inRow c_first c_inWindow c_same c_made c_requests c_total c_secrets c_rounds_42 c_high c_low c_keyHigh c_keyLow)), ((hm 40), .inl (cy 1, 256, .inl c_back)), ((hm 43), .inl (cy 1, 16, .inl c_block_49)), ((hm 39), .inl (cy 1, 256, .inl c_box)), ((hm 6), .inl (cy 1, 512, .inl c_buffer)), ((hm 5), .inl (cy 1, 3, .inl c_counters)), ((hm 12), .inl (cy 1, 16, .inl c_holder)), ((hm 14), .inl (cy 1, 1024, .inl c_keys)), ((hm 9), .inl (cy 1, 16, .inl c_kind)), ((hm 10), .inl (cy 1, 16, .inl c_length)), ((hm 44), .inl (cy 1, 16, .inl c_other_50)), ((hm 45), .inl (cy 1, 600, .inl c_result_51)), ((hm 41), .inl (cy 1, 240, .inl c_round_43)), ((hm 11), .inl (cy 1, 16, .inl c_usage)), ((hm 13), .inl (cy 1, 16, .inl c_uses_36))]) H → va_D A ([(h0, .inr (12, zmo hm (0 : Int32) c_state c_test c_words c_ill c_before c_inRow c_first c_inWindow c_same c_made c_requests c_total c_secrets c_rounds_42 c_high c_low c_keyHigh c_keyLow)), ((hm 40), .inl (cy 1, 256, .inl c_back)), ((hm 43), .inl (cy 1, 16, .inl c_block_49)), ((hm 39), .inl (cy 1, 256, .inl c_box)), ((hm 6), .inl (cy 1, 512, .inl c_buffer)), ((hm 5), .inl (cy 1, 3, .inl c_counters)), ((hm 12), .inl (cy 1, 16, .inl c_holder)), ((hm 14), .inl (cy 1, 1024, .inl c_keys)), ((hm 9), .inl (cy 1, 16, .inl c_kind)), ((hm 10), .inl (cy 1, 16, .inl c_length)), ((hm 44), .inl (cy 1, 16, .inl c_other_50)), ((hm 45), .inl (cy 1, 600, .inl c_result_51)), ((hm 41), .inl (cy 1, 240, .inl c_round_43)), ((hm 11), .inl (cy 1, 16, .inl c_usage)), ((hm 13), .inl (cy 1, 16, .inl c_uses_36))]) → va_S A s.heap H locs → lv_has ls 8 [(0, .ref h0), (1, .int p1), (3, .int p3)] → K_96 () = some (r_, c_rounds', c_thrown', c_block', c_counters', c_holder', c_keys', c_kind', c_length', c_other', c_result', c_round', c_usage', c_uses') → GW H locs (F0 m 415 ls []) := by
        clear hf hl hP hD hS
        intro  H locs ls hP hD hS hl hf
        rw [eK_96] at hf
        clear eK_96
        refine hFr _ _ _ ?_
        refine lv_iconst (pc := 415) (v := (0 : Int32)) hx hb (zdt_at zt_X10_unwrap_3 32 rfl) (by decide) ?_
        exact hTo _ _ _ (kK_55 _ H locs ls hP hD hS (lv_sub hl [0, 1, 2] rfl) hf)
      clear eK_96
      refine lv_if_eq (pc := 368) (tgt := 415) hx hb (zdt_at zt_X10_unwrap_3 8 rfl) (by decide) (fun cn_ => ?t_97) (fun cn_ => ?f_98)
      case t_97 =>
        replace hf := zt_s cn_ hf
        clear cn_
        exact hTo _ _ _ (kK_96  H locs ls hP hD hS (lv_sub hl [0, 1, 2] rfl) hf)
      replace hf := ze_s cn_ hf
      clear cn_
      refine lv_aload_n (pc := 371) hx hb (zdt_at zt_X10_unwrap_3 9 rfl) rfl (lv_at hl 0 rfl) ?_
      refine va_get (pc := 372) (D := D) (ci := 12) (v := .ref (hm 45)) (C := RX10) (T := TX10) (N := 52) hx hb hts hcX10 hown hK hP 0 rfl rfl 45 (by decide) hw4 (fun _ h9 => h9) rfl (zdt_at zt_X10_unwrap_3 10 rfl) ?_
      refine lv_bipush (pc := 375) (v := (9 : Int32)) hx hb (zdt_at zt_X10_unwrap_3 11 rfl) (by decide) ?_
      replace hf := zk_s hf
      refine va_iald (pc := 377) hx hb hK hP 11 1 rfl rfl hf.1 (zdt_at zt_X10_unwrap_3 12 rfl) ?_
      replace hf := hf.2
      refine lv_bipush (pc := 378) (v := (64 : Int32)) hx hb (zdt_at zt_X10_unwrap_3 13 rfl) (by decide) ?_
      refine lv_icmp_ge (pc := 380) (tgt := 415) hx hb (zdt_at zt_X10_unwrap_3 14 rfl) (by decide) (fun cn_ => ?t_99) (fun cn_ => ?f_100)
      case t_99 =>
        replace hf := zt_s cn_ hf
        clear cn_
        exact hTo _ _ _ (kK_96  H locs ls hP hD hS (lv_sub hl [0, 1, 2] rfl) hf)
      replace hf := ze_s cn_ hf
      clear cn_
      refine lv_aload_n (pc := 383) hx hb (zdt_at zt_X10_unwrap_3 15 rfl) rfl (lv_at hl 0 rfl) ?_
      refine va_get (pc := 384) (D := D) (ci := 12) (v := .ref (hm 45)) (C := RX10) (T := TX10) (N := 52) hx hb hts hcX10 hown hK hP 0 rfl rfl 45 (by decide) hw4 (fun _ h9 => h9) rfl (zdt_at zt_X10_unwrap_3 16 rfl) ?_
      refine lv_bipush (pc := 387) (v := (9 : Int32)) hx hb (zdt_at zt_X10_unwrap_3 17 rfl) (by decide) ?_
      replace hf := zk_s hf
      refine va_iald (pc := 389) hx hb hK hP 11 1 rfl rfl hf.1 (zdt_at zt_X10_unwrap_3 18 rfl) ?_
      replace hf := hf.2
      refine lv_bipush (pc := 390) (v := (32 : Int32)) hx hb (zdt_at zt_X10_unwrap_3 19 rfl) (by decide) ?_
      refine lv_iand (pc := 392) hx hb (zdt_at zt_X10_unwrap_3 20 rfl) ?_
      refine lv_if_le (pc := 393) (tgt := 415) hx hb (zdt_at zt_X10_unwrap_3 21 rfl) (by decide) (fun cn_ => ?t_101) (fun cn_ => ?f_102)
      case t_101 =>
        replace hf := zt_s cn_ hf
        clear cn_
        exact hTo _ _ _ (kK_96  H locs ls hP hD hS (lv_sub hl [0, 1, 2] rfl) hf)
      replace hf := ze_s cn_ hf
      clear cn_
      refine lv_aload_n (pc := 396) hx hb (zdt_at zt_X10_unwrap_3 22 rfl) rfl (lv_at hl 0 rfl) ?_
      refine va_get (pc := 397) (D := D) (ci := 12) (v := .ref (hm 45)) (C := RX10) (T := TX10) (N := 52) hx hb hts hcX10 hown hK hP 0 rfl rfl 45 (by decide) hw4 (fun _ h9 => h9) rfl (zdt_at zt_X10_unwrap_3 23 rfl) ?_
      refine lv_bipush (pc := 400) (v := (10 : Int32)) hx hb (zdt_at zt_X10_unwrap_3 24 rfl) (by decide) ?_
      replace hf := zk_s hf
      refine va_iald (pc := 402) hx hb hK hP 11 1 rfl rfl hf.1 (zdt_at zt_X10_unwrap_3 25 rfl) ?_
      replace hf := hf.2
      refine lv_iconst (pc := 403) (v := (1 : Int32)) hx hb (zdt_at zt_X10_unwrap_3 26 rfl) (by decide) ?_
      refine lv_iconst (pc := 404) (v := (2 : Int32)) hx hb (zdt_at zt_X10_unwrap_3 27 rfl) (by decide) ?_
      replace hf := zb_s hf
      obtain ⟨r_103, hc_, hf⟩ := hf
      refine zcs (pc := 405) (rv := (some (.int r_103))) (va_runS (As := [.int (c_result_51 (10 : Int32).toNatClampNeg), .int (1 : Int32), .int (2 : Int32)]) (rest := []) ⟨hx, hb, hml, hown, hts⟩ (c_X10_in l D cy tt H.size (c_result_51 (10 : Int32).toNatClampNeg) (1 : Int32) (2 : Int32) r_103 hc_) (va_cwS 3 hts gX10_unwrap_X10_in rfl rfl rfl (by decide +kernel) ⟨Nat.le_of_ble_eq_true rfl, Nat.le_of_ble_eq_true rfl⟩) ⟨zblind, zpre hE hS (hP.sub [] rfl) (hD.sub [] (by decide) rfl) (va_free hD hS hA [] rfl)⟩ rfl rfl hl.1 rfl (lv_room (Nat.le_of_ble_eq_true rfl)) (zdt_at zt_X10_unwrap_3 28 rfl) ⟨Nat.zero_le _, Nat.zero_le _⟩) ?_
      clear hc_
      refine W.eq (g2 := F0 m 408 ls [.int r_103]) rfl ?_
      refine lv_if_eq (pc := 408) (tgt := 415) hx hb (zdt_at zt_X10_unwrap_3 29 rfl) (by decide) (fun cn_ => ?t_104) (fun cn_ => ?f_105)
      case t_104 =>
        replace hf := zt_s cn_ hf
        clear cn_
        exact hTo _ _ _ (kK_96  H locs ls hP hD hS (lv_sub hl [0, 1, 2] rfl) hf)
      replace hf := ze_s cn_ hf
      clear cn_
      refine lv_iconst (pc := 411) (v := (1 : Int32)) hx hb (zdt_at zt_X10_unwrap_3 30 rfl) (by decide) ?_
      refine lv_goto (pc := 412) (tgt := 416) hx hb (zdt_at zt_X10_unwrap_3 31 rfl) (by decide) ?_
      exact hTo _ _ _ (kK_55 _ H locs ls hP hD hS (lv_sub hl [0, 1, 2] rfl) hf)
    clear eK_52
    refine hTo _ _ _ (zl_go (fun z => match z with | (i_45, c_block_46, c_other_47, c_result_48) => ∀ (H : Heap) (locs : List Loc) (ls : Array Slot), va_P D vwCl ([(h0, .inr (12, zmo hm (0 : Int32) c_state c_test c_words c_ill c_before c_inRow c_first c_inWindow c_same c_made c_requests c_total c_secrets c_rounds_42 c_high c_low c_keyHigh c_keyLow)), ((hm 40), .inl (cy 1, 256, .inl c_back)), ((hm 43), .inl (cy 1, 16, .inl c_block_46)), ((hm 39), .inl (cy 1, 256, .inl c_box)), ((hm 6), .inl (cy 1, 512, .inl c_buffer)), ((hm 5), .inl (cy 1, 3, .inl c_counters)), ((hm 12), .inl (cy 1, 16, .inl c_holder)), ((hm 14), .inl (cy 1, 1024, .inl c_keys)), ((hm 9), .inl (cy 1, 16, .inl c_kind)), ((hm 10), .inl (cy 1, 16, .inl c_length)), ((hm 44), .inl (cy 1, 16, .inl c_other_47)), ((hm 45), .inl (cy 1, 600, .inl c_result_48)), ((hm 41), .inl (cy 1, 240, .inl c_round_43)), ((hm 11), .inl (cy 1, 16, .inl c_usage)), ((hm 13), .inl (cy 1, 16, .inl c_uses_36))]) H → va_D A ([(h0, .inr (12, zmo hm (0 : Int32) c_state c_test c_words c_ill c_before c_inRow c_first c_inWindow c_same c_made c_requests c_total c_secrets c_rounds_42 c_high c_low c_keyHigh c_keyLow)), ((hm 40), .inl (cy 1, 256, .inl c_back)), ((hm 43), .inl (cy 1, 16, .inl c_block_46)), ((hm 39), .inl (cy 1, 256, .inl c_box)), ((hm 6), .inl (cy 1, 512, .inl c_buffer)), ((hm 5), .inl (cy 1, 3, .inl c_counters)), ((hm 12), .inl (cy 1, 16, .inl c_holder)), ((hm 14), .inl (cy 1, 1024, .inl c_keys)), ((hm 9), .inl (cy 1, 16, .inl c_kind)), ((hm 10), .inl (cy 1, 16, .inl c_length)), ((hm 44), .inl (cy 1, 16, .inl c_other_47)), ((hm 45), .inl (cy 1, 600, .inl c_result_48)), ((hm 41), .inl (cy 1, 240, .inl c_round_43)), ((hm 11), .inl (cy 1, 16, .inl c_usage)), ((hm 13), .inl (cy 1, 16, .inl c_uses_36))]) → va_S A s.heap H locs → lv_has ls 8 [(0, .ref h0), (1, .int p1), (3, .int p3), (4, .int x_37), (5, .int i_45)] → GW H locs (F0 m 209 ls [])) hf ?_ H locs ls hP hD hS (lv_sub hl [1, 2, 4, 5, 0] rfl))
    clear hf hl hP hD hS
    intro self_106 ihself_106 z hf
    obtain ⟨i_45, c_block_46, c_other_47, c_result_48⟩ := z
    intro H locs ls hP hD hS hl
    refine hFr _ _ _ ?_
    unfold b_X10_unwrap_209 at hf
    refine lv_iload (pc := 209) hx hb (zdt_at zt_X10_unwrap_1 52 rfl) (lv_at hl 4 rfl) ?_
    refine lv_if_le (pc := 211) (tgt := 356) hx hb (zdt_at zt_X10_unwrap_1 53 rfl) (by decide) (fun cn_ => ?t_107) (fun cn_ => ?f_108)
    case t_107 =>
      replace hf := zt_s cn_ hf
      clear cn_
      exact hTo _ _ _ (kK_52 _ _ _ H locs ls hP hD hS (lv_sub hl [0, 1, 2] rfl) hf)
    replace hf := ze_s cn_ hf
    clear cn_
    refine lv_bipush (pc := 214) (v := (8 : Int32)) hx hb (zdt_at zt_X10_unwrap_1 54 rfl) (by decide) ?_
    refine lv_bipush (pc := 216) (v := (8 : Int32)) hx hb (zdt_at zt_X10_unwrap_1 55 rfl) (by decide) ?_
    refine lv_iload (pc := 218) hx hb (zdt_at zt_X10_unwrap_1 56 rfl) (lv_at hl 4 rfl) ?_
    refine lv_iconst (pc := 220) (v := (1 : Int32)) hx hb (zdt_at zt_X10_unwrap_1 57 rfl) (by decide) ?_
    refine lv_isub (pc := 221) hx hb (zdt_at zt_X10_unwrap_1 58 rfl) ?_
    refine lv_iload (pc := 222) hx hb (zdt_at zt_X10_unwrap_1 59 rfl) (lv_at hl 3 rfl) ?_
    replace hf := zk_s hf
    refine lv_irem (pc := 224) hx hb (zdt_at zt_X10_unwrap_1 60 rfl) hf.1 ?_
    replace hf := hf.2
    refine lv_imul (pc := 225) hx hb (zdt_at zt_X10_unwrap_1 61 rfl) ?_
    refine lv_iadd (pc := 226) hx hb (zdt_at zt_X10_unwrap_1 62 rfl) ?_
    refine lv_topi (fun x_109 e_ => ?_)
    replace hf := zn_s hf e_
    clear e_
    refine lv_istore (pc := 227) (lv' := [(6, .int x_109), (0, .ref h0), (1, .int p1), (3, .int p3), (4, .int x_37), (5, .int i_45)]) hx hb (zdt_at zt_X10_unwrap_1 63 rfl) hl (by decide) rfl ?_
    clear hl
    intro ls hl
    refine lv_iconst (pc := 229) (v := (0 : Int32)) hx hb (zdt_at zt_X10_unwrap_2 0 rfl) (by decide) ?_
    refine lv_istore (pc := 230) (lv' := [(7, .int (0 : Int32)), (6, .int x_109), (0, .ref h0), (1, .int p1), (3, .int p3), (4, .int x_37), (5, .int i_45)]) hx hb (zdt_at zt_X10_unwrap_2 1 rfl) hl (by decide) rfl ?_
    clear hl
    intro ls hl
    replace hf := zj_s hf
    obtain ⟨K_113, eK_113, hf⟩ := hf
    have kK_113 : ∀ (c_block_112 : Nat → Int32) (H : Heap) (locs : List Loc) (ls : Array Slot), va_P D vwCl ([(h0, .inr (12, zmo hm (0 : Int32) c_state c_test c_words c_ill c_before c_inRow c_first c_inWindow c_same c_made c_requests c_total c_secrets c_rounds_42 c_high c_low c_keyHigh c_keyLow)), ((hm 40), .inl (cy 1, 256, .inl c_back)), ((hm 43), .inl (cy 1, 16, .inl c_block_112)), ((hm 39), .inl (cy 1, 256, .inl c_box)), ((hm 6), .inl (cy 1, 512, .inl c_buffer)), ((hm 5), .inl (cy 1, 3, .inl c_counters)), ((hm 12), .inl (cy 1, 16, .inl c_holder)), ((hm 14), .inl (cy 1, 1024, .inl c_keys)), ((hm 9), .inl (cy 1, 16, .inl c_kind)), ((hm 10), .inl (cy 1, 16, .inl c_length)), ((hm 44), .inl (cy 1, 16, .inl c_other_47)), ((hm 45), .inl (cy 1, 600, .inl c_result_48)), ((hm 41), .inl (cy 1, 240, .inl c_round_43)), ((hm 11), .inl (cy 1, 16, .inl c_usage)), ((hm 13), .inl (cy 1, 16, .inl c_uses_36))]) H → va_D A ([(h0, .inr (12, zmo hm (0 : Int32) c_state c_test c_words c_ill c_before c_inRow c_first c_inWindow c_same c_made c_requests c_total c_secrets c_rounds_42 c_high c_low c_keyHigh c_keyLow)), ((hm 40), .inl (cy 1, 256, .inl c_back)), ((hm 43), .inl (cy 1, 16, .inl c_block_112)), ((hm 39), .inl (cy 1, 256, .inl c_box)), ((hm 6), .inl (cy 1, 512, .inl c_buffer)), ((hm 5), .inl (cy 1, 3, .inl c_counters)), ((hm 12), .inl (cy 1, 16, .inl c_holder)), ((hm 14), .inl (cy 1, 1024, .inl c_keys)), ((hm 9), .inl (cy 1, 16, .inl c_kind)), ((hm 10), .inl (cy 1, 16, .inl c_length)), ((hm 44), .inl (cy 1, 16, .inl c_other_47)), ((hm 45), .inl (cy 1, 600, .inl c_result_48)), ((hm 41), .inl (cy 1, 240, .inl c_round_43)), ((hm 11), .inl (cy 1, 16, .inl c_usage)), ((hm 13), .inl (cy 1, 16, .inl c_uses_36))]) → va_S A s.heap H locs → lv_has ls 8 [(0, .ref h0), (1, .int p1), (3, .int p3), (4, .int x_37), (5, .int i_45), (6, .int x_109)] → K_113 c_block_112 = some (r_, c_rounds', c_thrown', c_block', c_counters', c_holder', c_keys', c_kind', c_length', c_other', c_result', c_round', c_usage', c_uses') → GW H locs (F0 m 296 ls []) := by
      clear hf hl hP hD hS
      intro c_block_112 H locs ls hP hD hS hl hf
      rw [eK_113] at hf
      clear eK_113
      refine hFr _ _ _ ?_
      refine lv_aload_n (pc := 296) hx hb (zdt_at zt_X10_unwrap_2 34 rfl) rfl (lv_at hl 0 rfl) ?_
      replace hf := zb_s hf
      obtain ⟨⟨c_block_114, c_other_115⟩, hc_, hf⟩ := hf
      refine zcn2 (pc := 297) (rv := none) (va_runV (As := []) (rest := []) ⟨hx, hb, hml, hown, hts⟩ (c_X10_unseal l D cy tt H.size h0 hm c_rounds_42 c_back c_block_112 c_other_47 c_round_43 (0 : Int32) c_state c_test c_words c_ill c_before c_inRow c_first c_inWindow c_same c_made c_requests c_total c_secrets c_high c_low c_keyHigh c_keyLow c_block_114 c_other_115 hc_) (cwV 0 hts gX10_unwrap_X10_unseal rfl rfl rfl (by decide +kernel) ⟨Nat.le_of_ble_eq_true rfl, Nat.le_of_ble_eq_true rfl⟩) ⟨zblind, va_recv hK hP (ci := 12) (q0 := 0) rfl rfl, zpre hE hS (hP.sub [0, 1, 2, 10, 12] rfl) (hD.sub [0, 1, 2, 10, 12] (by decide) rfl) (va_free hD hS hA [0, 1, 2, 10, 12] rfl)⟩ rfl rfl hl.1 rfl (lv_room (Nat.le_of_ble_eq_true rfl)) (zdt_at zt_X10_unwrap_2 35 rfl) ⟨Nat.zero_le _, Nat.zero_le _⟩) hS hP hD (va_free hD hS hA [0, 1, 2, 10, 12] rfl) [0, 1, 2, 10, 12] rfl (by decide) rfl ?_
      clear hP hD hS hc_
      intro H locs hP hD hS
      replace hP : va_P D vwCl ([(h0, .inr (12, zmo hm (0 : Int32) c_state c_test c_words c_ill c_before c_inRow c_first c_inWindow c_same c_made c_requests c_total c_secrets c_rounds_42 c_high c_low c_keyHigh c_keyLow)), ((hm 40), .inl (cy 1, 256, .inl c_back)), ((hm 43), .inl (cy 1, 16, .inl c_block_114)), ((hm 39), .inl (cy 1, 256, .inl c_box)), ((hm 6), .inl (cy 1, 512, .inl c_buffer)), ((hm 5), .inl (cy 1, 3, .inl c_counters)), ((hm 12), .inl (cy 1, 16, .inl c_holder)), ((hm 14), .inl (cy 1, 1024, .inl c_keys)), ((hm 9), .inl (cy 1, 16, .inl c_kind)), ((hm 10), .inl (cy 1, 16, .inl c_length)), ((hm 44), .inl (cy 1, 16, .inl c_other_115)), ((hm 45), .inl (cy 1, 600, .inl c_result_48)), ((hm 41), .inl (cy 1, 240, .inl c_round_43)), ((hm 11), .inl (cy 1, 16, .inl c_usage)), ((hm 13), .inl (cy 1, 16, .inl c_uses_36))]) H := hP
      replace hD : va_D A ([(h0, .inr (12, zmo hm (0 : Int32) c_state c_test c_words c_ill c_before c_inRow c_first c_inWindow c_same c_made c_requests c_total c_secrets c_rounds_42 c_high c_low c_keyHigh c_keyLow)), ((hm 40), .inl (cy 1, 256, .inl c_back)), ((hm 43), .inl (cy 1, 16, .inl c_block_114)), ((hm 39), .inl (cy 1, 256, .inl c_box)), ((hm 6), .inl (cy 1, 512, .inl c_buffer)), ((hm 5), .inl (cy 1, 3, .inl c_counters)), ((hm 12), .inl (cy 1, 16, .inl c_holder)), ((hm 14), .inl (cy 1, 1024, .inl c_keys)), ((hm 9), .inl (cy 1, 16, .inl c_kind)), ((hm 10), .inl (cy 1, 16, .inl c_length)), ((hm 44), .inl (cy 1, 16, .inl c_other_115)), ((hm 45), .inl (cy 1, 600, .inl c_result_48)), ((hm 41), .inl (cy 1, 240, .inl c_round_43)), ((hm 11), .inl (cy 1, 16, .inl c_usage)), ((hm 13), .inl (cy 1, 16, .inl c_uses_36))]) := hD
      refine W.eq (g2 := F0 m 300 ls []) rfl ?_
      refine lv_iconst (pc := 300) (v := (0 : Int32)) hx hb (zdt_at zt_X10_unwrap_2 36 rfl) (by decide) ?_
      refine lv_istore (pc := 301) (lv' := [(7, .int (0 : Int32)), (0, .ref h0), (1, .int p1), (3, .int p3), (4, .int x_37), (5, .int i_45), (6, .int x_109)]) hx hb (zdt_at zt_X10_unwrap_2 37 rfl) hl (by decide) rfl ?_
      clear hl
      intro ls hl
      replace hf := zj_s hf
      obtain ⟨K_119, eK_119, hf⟩ := hf
      have kK_119 : ∀ (c_result_118 : Nat → Int32) (H : Heap) (locs : List Loc) (ls : Array Slot), va_P D vwCl ([(h0, .inr (12, zmo hm (0 : Int32) c_state c_test c_words c_ill c_before c_inRow c_first c_inWindow c_same c_made c_requests c_total c_secrets c_rounds_42 c_high c_low c_keyHigh c_keyLow)), ((hm 40), .inl (cy 1, 256, .inl c_back)), ((hm 43), .inl (cy 1, 16, .inl c_block_114)), ((hm 39), .inl (cy 1, 256, .inl c_box)), ((hm 6), .inl (cy 1, 512, .inl c_buffer)), ((hm 5), .inl (cy 1, 3, .inl c_counters)), ((hm 12), .inl (cy 1, 16, .inl c_holder)), ((hm 14), .inl (cy 1, 1024, .inl c_keys)), ((hm 9), .inl (cy 1, 16, .inl c_kind)), ((hm 10), .inl (cy 1, 16, .inl c_length)), ((hm 44), .inl (cy 1, 16, .inl c_other_115)), ((hm 45), .inl (cy 1, 600, .inl c_result_118)), ((hm 41), .inl (cy 1, 240, .inl c_round_43)), ((hm 11), .inl (cy 1, 16, .inl c_usage)), ((hm 13), .inl (cy 1, 16, .inl c_uses_36))]) H → va_D A ([(h0, .inr (12, zmo hm (0 : Int32) c_state c_test c_words c_ill c_before c_inRow c_first c_inWindow c_same c_made c_requests c_total c_secrets c_rounds_42 c_high c_low c_keyHigh c_keyLow)), ((hm 40), .inl (cy 1, 256, .inl c_back)), ((hm 43), .inl (cy 1, 16, .inl c_block_114)), ((hm 39), .inl (cy 1, 256, .inl c_box)), ((hm 6), .inl (cy 1, 512, .inl c_buffer)), ((hm 5), .inl (cy 1, 3, .inl c_counters)), ((hm 12), .inl (cy 1, 16, .inl c_holder)), ((hm 14), .inl (cy 1, 1024, .inl c_keys)), ((hm 9), .inl (cy 1, 16, .inl c_kind)), ((hm 10), .inl (cy 1, 16, .inl c_length)), ((hm 44), .inl (cy 1, 16, .inl c_other_115)), ((hm 45), .inl (cy 1, 600, .inl c_result_118)), ((hm 41), .inl (cy 1, 240, .inl c_round_43)), ((hm 11), .inl (cy 1, 16, .inl c_usage)), ((hm 13), .inl (cy 1, 16, .inl c_uses_36))]) → va_S A s.heap H locs → lv_has ls 8 [(0, .ref h0), (1, .int p1), (3, .int p3), (4, .int x_37), (5, .int i_45)] → K_119 c_result_118 = some (r_, c_rounds', c_thrown', c_block', c_counters', c_holder', c_keys', c_kind', c_length', c_other', c_result', c_round', c_usage', c_uses') → GW H locs (F0 m 350 ls []) := by
        clear hf hl hP hD hS
        intro c_result_118 H locs ls hP hD hS hl hf
        rw [eK_119] at hf
        clear eK_119
        refine hFr _ _ _ ?_
        refine lv_iinc (pc := 350) (v := (i_45 + (-1 : Int32))) (lv' := [(5, .int (i_45 + (-1 : Int32))), (0, .ref h0), (1, .int p1), (3, .int p3), (4, .int x_37)]) hx hb (zdt_at zt_X10_unwrap_2 63 rfl) hl (k := 4) rfl rfl (by decide) rfl ?_
        clear hl
        intro ls hl
        refine lv_goto (pc := 353) (tgt := 209) hx hb (zdt_at zt_X10_unwrap_3 0 rfl) (by decide) ?_
        exact hTo _ _ _ (ihself_106 _ hf H locs ls hP hD hS (lv_sub hl [1, 2, 3, 4, 0] rfl))
      clear eK_119
      refine hTo _ _ _ (zl_go (fun z => match z with | (i_116, c_result_117) => ∀ (H : Heap) (locs : List Loc) (ls : Array Slot), va_P D vwCl ([(h0, .inr (12, zmo hm (0 : Int32) c_state c_test c_words c_ill c_before c_inRow c_first c_inWindow c_same c_made c_requests c_total c_secrets c_rounds_42 c_high c_low c_keyHigh c_keyLow)), ((hm 40), .inl (cy 1, 256, .inl c_back)), ((hm 43), .inl (cy 1, 16, .inl c_block_114)), ((hm 39), .inl (cy 1, 256, .inl c_box)), ((hm 6), .inl (cy 1, 512, .inl c_buffer)), ((hm 5), .inl (cy 1, 3, .inl c_counters)), ((hm 12), .inl (cy 1, 16, .inl c_holder)), ((hm 14), .inl (cy 1, 1024, .inl c_keys)), ((hm 9), .inl (cy 1, 16, .inl c_kind)), ((hm 10), .inl (cy 1, 16, .inl c_length)), ((hm 44), .inl (cy 1, 16, .inl c_other_115)), ((hm 45), .inl (cy 1, 600, .inl c_result_117)), ((hm 41), .inl (cy 1, 240, .inl c_round_43)), ((hm 11), .inl (cy 1, 16, .inl c_usage)), ((hm 13), .inl (cy 1, 16, .inl c_uses_36))]) H → va_D A ([(h0, .inr (12, zmo hm (0 : Int32) c_state c_test c_words c_ill c_before c_inRow c_first c_inWindow c_same c_made c_requests c_total c_secrets c_rounds_42 c_high c_low c_keyHigh c_keyLow)), ((hm 40), .inl (cy 1, 256, .inl c_back)), ((hm 43), .inl (cy 1, 16, .inl c_block_114)), ((hm 39), .inl (cy 1, 256, .inl c_box)), ((hm 6), .inl (cy 1, 512, .inl c_buffer)), ((hm 5), .inl (cy 1, 3, .inl c_counters)), ((hm 12), .inl (cy 1, 16, .inl c_holder)), ((hm 14), .inl (cy 1, 1024, .inl c_keys)), ((hm 9), .inl (cy 1, 16, .inl c_kind)), ((hm 10), .inl (cy 1, 16, .inl c_length)), ((hm 44), .inl (cy 1, 16, .inl c_other_115)), ((hm 45), .inl (cy 1, 600, .inl c_result_117)), ((hm 41), .inl (cy 1, 240, .inl c_round_43)), ((hm 11), .inl (cy 1, 16, .inl c_usage)), ((hm 13), .inl (cy 1, 16, .inl c_uses_36))]) → va_S A s.heap H locs → lv_has ls 8 [(0, .ref h0), (1, .int p1), (3, .int p3), (4, .int x_37), (5, .int i_45), (6, .int x_109), (7, .int i_116)] → GW H locs (F0 m 303 ls [])) hf ?_ H locs ls hP hD hS (lv_sub hl [1, 2, 3, 4, 5, 6, 0] rfl))
      clear hf hl hP hD hS
      intro self_120 ihself_120 z hf
      obtain ⟨i_116, c_result_117⟩ := z
      intro H locs ls hP hD hS hl
      refine hFr _ _ _ ?_
      unfold b_X10_unwrap_303 at hf
      refine lv_iload (pc := 303) hx hb (zdt_at zt_X10_unwrap_2 38 rfl) (lv_at hl 6 rfl) ?_
      refine lv_bipush (pc := 305) (v := (8 : Int32)) hx hb (zdt_at zt_X10_unwrap_2 39 rfl) (by decide) ?_
      refine lv_icmp_ge (pc := 307) (tgt := 350) hx hb (zdt_at zt_X10_unwrap_2 40 rfl) (by decide) (fun cn_ => ?t_121) (fun cn_ => ?f_122)
      case t_121 =>
        replace hf := zt_s cn_ hf
        clear cn_
        exact hTo _ _ _ (kK_119 _ H locs ls hP hD hS (lv_sub hl [0, 1, 2, 3, 4] rfl) hf)
      replace hf := ze_s cn_ hf
      clear cn_
      refine lv_aload_n (pc := 310) hx hb (zdt_at zt_X10_unwrap_2 41 rfl) rfl (lv_at hl 0 rfl) ?_
      refine va_get (pc := 311) (D := D) (ci := 12) (v := .ref (hm 45)) (C := RX10) (T := TX10) (N := 52) hx hb hts hcX10 hown hK hP 0 rfl rfl 45 (by decide) hw4 (fun _ h9 => h9) rfl (zdt_at zt_X10_unwrap_2 42 rfl) ?_
      refine lv_iload (pc := 314) hx hb (zdt_at zt_X10_unwrap_2 43 rfl) (lv_at hl 6 rfl) ?_
      refine lv_aload_n (pc := 316) hx hb (zdt_at zt_X10_unwrap_2 44 rfl) rfl (lv_at hl 0 rfl) ?_
      refine va_get (pc := 317) (D := D) (ci := 12) (v := .ref (hm 43)) (C := RX10) (T := TX10) (N := 52) hx hb hts hcX10 hown hK hP 0 rfl rfl 43 (by decide) hw6 (fun _ h9 => h9) rfl (zdt_at zt_X10_unwrap_2 45 rfl) ?_
      refine lv_iload (pc := 320) hx hb (zdt_at zt_X10_unwrap_2 46 rfl) (lv_at hl 6 rfl) ?_
      replace hf := zk_s hf
      refine va_iald (pc := 322) hx hb hK hP 2 1 rfl rfl hf.1 (zdt_at zt_X10_unwrap_2 47 rfl) ?_
      replace hf := hf.2
      replace hf := zk_s hf
      refine va_iast (pc := 323) hx hb hK hP hD hS 11 1 rfl rfl hf.1 (zdt_at zt_X10_unwrap_2 48 rfl) ?_
      replace hf := hf.2
      clear hP hD hS
      intro H locs hP hD hS
      obtain ⟨c_result_123, e_⟩ : ∃ q : Nat → Int32, q = (upd c_result_117 i_116.toNatClampNeg (c_block_114 i_116.toNatClampNeg)) := ⟨_, rfl⟩
      replace hf := zn_s hf e_
      replace hP : va_P D vwCl ([(h0, .inr (12, zmo hm (0 : Int32) c_state c_test c_words c_ill c_before c_inRow c_first c_inWindow c_same c_made c_requests c_total c_secrets c_rounds_42 c_high c_low c_keyHigh c_keyLow)), ((hm 40), .inl (cy 1, 256, .inl c_back)), ((hm 43), .inl (cy 1, 16, .inl c_block_114)), ((hm 39), .inl (cy 1, 256, .inl c_box)), ((hm 6), .inl (cy 1, 512, .inl c_buffer)), ((hm 5), .inl (cy 1, 3, .inl c_counters)), ((hm 12), .inl (cy 1, 16, .inl c_holder)), ((hm 14), .inl (cy 1, 1024, .inl c_keys)), ((hm 9), .inl (cy 1, 16, .inl c_kind)), ((hm 10), .inl (cy 1, 16, .inl c_length)), ((hm 44), .inl (cy 1, 16, .inl c_other_115)), ((hm 45), .inl (cy 1, 600, .inl c_result_123)), ((hm 41), .inl (cy 1, 240, .inl c_round_43)), ((hm 11), .inl (cy 1, 16, .inl c_usage)), ((hm 13), .inl (cy 1, 16, .inl c_uses_36))]) H := by rw [e_]; exact hP
      replace hD : va_D A ([(h0, .inr (12, zmo hm (0 : Int32) c_state c_test c_words c_ill c_before c_inRow c_first c_inWindow c_same c_made c_requests c_total c_secrets c_rounds_42 c_high c_low c_keyHigh c_keyLow)), ((hm 40), .inl (cy 1, 256, .inl c_back)), ((hm 43), .inl (cy 1, 16, .inl c_block_114)), ((hm 39), .inl (cy 1, 256, .inl c_box)), ((hm 6), .inl (cy 1, 512, .inl c_buffer)), ((hm 5), .inl (cy 1, 3, .inl c_counters)), ((hm 12), .inl (cy 1, 16, .inl c_holder)), ((hm 14), .inl (cy 1, 1024, .inl c_keys)), ((hm 9), .inl (cy 1, 16, .inl c_kind)), ((hm 10), .inl (cy 1, 16, .inl c_length)), ((hm 44), .inl (cy 1, 16, .inl c_other_115)), ((hm 45), .inl (cy 1, 600, .inl c_result_123)), ((hm 41), .inl (cy 1, 240, .inl c_round_43)), ((hm 11), .inl (cy 1, 16, .inl c_usage)), ((hm 13), .inl (cy 1, 16, .inl c_uses_36))]) := by rw [e_]; exact hD
      clear e_
      refine lv_aload_n (pc := 324) hx hb (zdt_at zt_X10_unwrap_2 49 rfl) rfl (lv_at hl 0 rfl) ?_
      refine va_get (pc := 325) (D := D) (ci := 12) (v := .ref (hm 45)) (C := RX10) (T := TX10) (N := 52) hx hb hts hcX10 hown hK hP 0 rfl rfl 45 (by decide) hw4 (fun _ h9 => h9) rfl (zdt_at zt_X10_unwrap_2 50 rfl) ?_
      refine lv_iload (pc := 328) hx hb (zdt_at zt_X10_unwrap_2 51 rfl) (lv_at hl 5 rfl) ?_
      refine lv_iload (pc := 330) hx hb (zdt_at zt_X10_unwrap_2 52 rfl) (lv_at hl 6 rfl) ?_
      refine lv_iadd (pc := 332) hx hb (zdt_at zt_X10_unwrap_2 53 rfl) ?_
      refine lv_aload_n (pc := 333) hx hb (zdt_at zt_X10_unwrap_2 54 rfl) rfl (lv_at hl 0 rfl) ?_
      refine va_get (pc := 334) (D := D) (ci := 12) (v := .ref (hm 43)) (C := RX10) (T := TX10) (N := 52) hx hb hts hcX10 hown hK hP 0 rfl rfl 43 (by decide) hw6 (fun _ h9 => h9) rfl (zdt_at zt_X10_unwrap_2 55 rfl) ?_
      refine lv_bipush (pc := 337) (v := (8 : Int32)) hx hb (zdt_at zt_X10_unwrap_2 56 rfl) (by decide) ?_
      refine lv_iload (pc := 339) hx hb (zdt_at zt_X10_unwrap_2 57 rfl) (lv_at hl 6 rfl) ?_
      refine lv_iadd (pc := 341) hx hb (zdt_at zt_X10_unwrap_2 58 rfl) ?_
      replace hf := zk_s hf
      refine va_iald (pc := 342) hx hb hK hP 2 1 rfl rfl hf.1 (zdt_at zt_X10_unwrap_2 59 rfl) ?_
      replace hf := hf.2
      replace hf := zk_s hf
      refine va_iast (pc := 343) hx hb hK hP hD hS 11 1 rfl rfl hf.1 (zdt_at zt_X10_unwrap_2 60 rfl) ?_
      replace hf := hf.2
      clear hP hD hS
      intro H locs hP hD hS
      obtain ⟨c_result_124, e_⟩ : ∃ q : Nat → Int32, q = (upd c_result_123 (x_109 + i_116).toNatClampNeg (c_block_114 ((8 : Int32) + i_116).toNatClampNeg)) := ⟨_, rfl⟩
      replace hf := zn_s hf e_
      replace hP : va_P D vwCl ([(h0, .inr (12, zmo hm (0 : Int32) c_state c_test c_words c_ill c_before c_inRow c_first c_inWindow c_same c_made c_requests c_total c_secrets c_rounds_42 c_high c_low c_keyHigh c_keyLow)), ((hm 40), .inl (cy 1, 256, .inl c_back)), ((hm 43), .inl (cy 1, 16, .inl c_block_114)), ((hm 39), .inl (cy 1, 256, .inl c_box)), ((hm 6), .inl (cy 1, 512, .inl c_buffer)), ((hm 5), .inl (cy 1, 3, .inl c_counters)), ((hm 12), .inl (cy 1, 16, .inl c_holder)), ((hm 14), .inl (cy 1, 1024, .inl c_keys)), ((hm 9), .inl (cy 1, 16, .inl c_kind)), ((hm 10), .inl (cy 1, 16, .inl c_length)), ((hm 44), .inl (cy 1, 16, .inl c_other_115)), ((hm 45), .inl (cy 1, 600, .inl c_result_124)), ((hm 41), .inl (cy 1, 240, .inl c_round_43)), ((hm 11), .inl (cy 1, 16, .inl c_usage)), ((hm 13), .inl (cy 1, 16, .inl c_uses_36))]) H := by rw [e_]; exact hP
      replace hD : va_D A ([(h0, .inr (12, zmo hm (0 : Int32) c_state c_test c_words c_ill c_before c_inRow c_first c_inWindow c_same c_made c_requests c_total c_secrets c_rounds_42 c_high c_low c_keyHigh c_keyLow)), ((hm 40), .inl (cy 1, 256, .inl c_back)), ((hm 43), .inl (cy 1, 16, .inl c_block_114)), ((hm 39), .inl (cy 1, 256, .inl c_box)), ((hm 6), .inl (cy 1, 512, .inl c_buffer)), ((hm 5), .inl (cy 1, 3, .inl c_counters)), ((hm 12), .inl (cy 1, 16, .inl c_holder)), ((hm 14), .inl (cy 1, 1024, .inl c_keys)), ((hm 9), .inl (cy 1, 16, .inl c_kind)), ((hm 10), .inl (cy 1, 16, .inl c_length)), ((hm 44), .inl (cy 1, 16, .inl c_other_115)), ((hm 45), .inl (cy 1, 600, .inl c_result_124)), ((hm 41), .inl (cy 1, 240, .inl c_round_43)), ((hm 11), .inl (cy 1, 16, .inl c_usage)), ((hm 13), .inl (cy 1, 16, .inl c_uses_36))]) := by rw [e_]; exact hD
      clear e_
      refine lv_iinc (pc := 344) (v := (i_116 + (1 : Int32))) (lv' := [(7, .int (i_116 + (1 : Int32))), (0, .ref h0), (1, .int p1), (3, .int p3), (4, .int x_37), (5, .int i_45), (6, .int x_109)]) hx hb (zdt_at zt_X10_unwrap_2 61 rfl) hl (k := 6) rfl rfl (by decide) rfl ?_
      clear hl
      intro ls hl
      refine lv_goto (pc := 347) (tgt := 303) hx hb (zdt_at zt_X10_unwrap_2 62 rfl) (by decide) ?_
      exact hTo _ _ _ (ihself_120 _ hf H locs ls hP hD hS (lv_sub hl [1, 2, 3, 4, 5, 6, 0] rfl))
    clear eK_113
    refine hTo _ _ _ (zl_go (fun z => match z with | (i_110, c_block_111) => ∀ (H : Heap) (locs : List Loc) (ls : Array Slot), va_P D vwCl ([(h0, .inr (12, zmo hm (0 : Int32) c_state c_test c_words c_ill c_before c_inRow c_first c_inWindow c_same c_made c_requests c_total c_secrets c_rounds_42 c_high c_low c_keyHigh c_keyLow)), ((hm 40), .inl (cy 1, 256, .inl c_back)), ((hm 43), .inl (cy 1, 16, .inl c_block_111)), ((hm 39), .inl (cy 1, 256, .inl c_box)), ((hm 6), .inl (cy 1, 512, .inl c_buffer)), ((hm 5), .inl (cy 1, 3, .inl c_counters)), ((hm 12), .inl (cy 1, 16, .inl c_holder)), ((hm 14), .inl (cy 1, 1024, .inl c_keys)), ((hm 9), .inl (cy 1, 16, .inl c_kind)), ((hm 10), .inl (cy 1, 16, .inl c_length)), ((hm 44), .inl (cy 1, 16, .inl c_other_47)), ((hm 45), .inl (cy 1, 600, .inl c_result_48)), ((hm 41), .inl (cy 1, 240, .inl c_round_43)), ((hm 11), .inl (cy 1, 16, .inl c_usage)), ((hm 13), .inl (cy 1, 16, .inl c_uses_36))]) H → va_D A ([(h0, .inr (12, zmo hm (0 : Int32) c_state c_test c_words c_ill c_before c_inRow c_first c_inWindow c_same c_made c_requests c_total c_secrets c_rounds_42 c_high c_low c_keyHigh c_keyLow)), ((hm 40), .inl (cy 1, 256, .inl c_back)), ((hm 43), .inl (cy 1, 16, .inl c_block_111)), ((hm 39), .inl (cy 1, 256, .inl c_box)), ((hm 6), .inl (cy 1, 512, .inl c_buffer)), ((hm 5), .inl (cy 1, 3, .inl c_counters)), ((hm 12), .inl (cy 1, 16, .inl c_holder)), ((hm 14), .inl (cy 1, 1024, .inl c_keys)), ((hm 9), .inl (cy 1, 16, .inl c_kind)), ((hm 10), .inl (cy 1, 16, .inl c_length)), ((hm 44), .inl (cy 1, 16, .inl c_other_47)), ((hm 45), .inl (cy 1, 600, .inl c_result_48)), ((hm 41), .inl (cy 1, 240, .inl c_round_43)), ((hm 11), .inl (cy 1, 16, .inl c_usage)), ((hm 13), .inl (cy 1, 16, .inl c_uses_36))]) → va_S A s.heap H locs → lv_has ls 8 [(0, .ref h0), (1, .int p1), (3, .int p3), (4, .int x_37), (5, .int i_45), (6, .int x_109), (7, .int i_110)] → GW H locs (F0 m 232 ls [])) hf ?_ H locs ls hP hD hS (lv_sub hl [2, 3, 4, 5, 6, 1, 0] rfl))
    clear hf hl hP hD hS
    intro self_125 ihself_125 z hf
    obtain ⟨i_110, c_block_111⟩ := z
    intro H locs ls hP hD hS hl
    refine hFr _ _ _ ?_
    unfold b_X10_unwrap_232 at hf
    refine lv_iload (pc := 232) hx hb (zdt_at zt_X10_unwrap_2 2 rfl) (lv_at hl 6 rfl) ?_
    refine lv_bipush (pc := 234) (v := (16 : Int32)) hx hb (zdt_at zt_X10_unwrap_2 3 rfl) (by decide) ?_
    refine lv_icmp_ge (pc := 236) (tgt := 296) hx hb (zdt_at zt_X10_unwrap_2 4 rfl) (by decide) (fun cn_ => ?t_126) (fun cn_ => ?f_127)
    case t_126 =>
      replace hf := zt_s cn_ hf
      clear cn_
      exact hTo _ _ _ (kK_113 _ H locs ls hP hD hS (lv_sub hl [0, 1, 2, 3, 4, 5] rfl) hf)
    replace hf := ze_s cn_ hf
    clear cn_
    refine lv_aload_n (pc := 239) hx hb (zdt_at zt_X10_unwrap_2 5 rfl) rfl (lv_at hl 0 rfl) ?_
    refine va_get (pc := 240) (D := D) (ci := 12) (v := .ref (hm 43)) (C := RX10) (T := TX10) (N := 52) hx hb hts hcX10 hown hK hP 0 rfl rfl 43 (by decide) hw6 (fun _ h9 => h9) rfl (zdt_at zt_X10_unwrap_2 6 rfl) ?_
    refine lv_iload (pc := 243) hx hb (zdt_at zt_X10_unwrap_2 7 rfl) (lv_at hl 6 rfl) ?_
    refine lv_iload (pc := 245) hx hb (zdt_at zt_X10_unwrap_2 8 rfl) (lv_at hl 6 rfl) ?_
    refine lv_bipush (pc := 247) (v := (8 : Int32)) hx hb (zdt_at zt_X10_unwrap_2 9 rfl) (by decide) ?_
    refine lv_icmp_ge (pc := 249) (tgt := 276) hx hb (zdt_at zt_X10_unwrap_2 10 rfl) (by decide) (fun cn_ => ?t_128) (fun cn_ => ?f_129)
    case t_128 =>
      replace hf := zt_s cn_ hf
      clear cn_
      refine lv_aload_n (pc := 276) hx hb (zdt_at zt_X10_unwrap_2 23 rfl) rfl (lv_at hl 0 rfl) ?_
      refine va_get (pc := 277) (D := D) (ci := 12) (v := .ref (hm 45)) (C := RX10) (T := TX10) (N := 52) hx hb hts hcX10 hown hK hP 0 rfl rfl 45 (by decide) hw4 (fun _ h9 => h9) rfl (zdt_at zt_X10_unwrap_2 24 rfl) ?_
      refine lv_iload (pc := 280) hx hb (zdt_at zt_X10_unwrap_2 25 rfl) (lv_at hl 5 rfl) ?_
      refine lv_iload (pc := 282) hx hb (zdt_at zt_X10_unwrap_2 26 rfl) (lv_at hl 6 rfl) ?_
      refine lv_iadd (pc := 284) hx hb (zdt_at zt_X10_unwrap_2 27 rfl) ?_
      refine lv_bipush (pc := 285) (v := (8 : Int32)) hx hb (zdt_at zt_X10_unwrap_2 28 rfl) (by decide) ?_
      refine lv_isub (pc := 287) hx hb (zdt_at zt_X10_unwrap_2 29 rfl) ?_
      replace hf := zk_s hf
      refine va_iald (pc := 288) hx hb hK hP 11 1 rfl rfl hf.1 (zdt_at zt_X10_unwrap_2 30 rfl) ?_
      replace hf := hf.2
      replace hf := zk_s hf
      refine va_iast (pc := 289) hx hb hK hP hD hS 2 1 rfl rfl hf.1 (zdt_at zt_X10_unwrap_2 31 rfl) ?_
      replace hf := hf.2
      clear hP hD hS
      intro H locs hP hD hS
      obtain ⟨c_block_130, e_⟩ : ∃ q : Nat → Int32, q = (upd c_block_111 i_110.toNatClampNeg (c_result_48 ((x_109 + i_110) - (8 : Int32)).toNatClampNeg)) := ⟨_, rfl⟩
      replace hf := zn_s hf e_
      replace hP : va_P D vwCl ([(h0, .inr (12, zmo hm (0 : Int32) c_state c_test c_words c_ill c_before c_inRow c_first c_inWindow c_same c_made c_requests c_total c_secrets c_rounds_42 c_high c_low c_keyHigh c_keyLow)), ((hm 40), .inl (cy 1, 256, .inl c_back)), ((hm 43), .inl (cy 1, 16, .inl c_block_130)), ((hm 39), .inl (cy 1, 256, .inl c_box)), ((hm 6), .inl (cy 1, 512, .inl c_buffer)), ((hm 5), .inl (cy 1, 3, .inl c_counters)), ((hm 12), .inl (cy 1, 16, .inl c_holder)), ((hm 14), .inl (cy 1, 1024, .inl c_keys)), ((hm 9), .inl (cy 1, 16, .inl c_kind)), ((hm 10), .inl (cy 1, 16, .inl c_length)), ((hm 44), .inl (cy 1, 16, .inl c_other_47)), ((hm 45), .inl (cy 1, 600, .inl c_result_48)), ((hm 41), .inl (cy 1, 240, .inl c_round_43)), ((hm 11), .inl (cy 1, 16, .inl c_usage)), ((hm 13), .inl (cy 1, 16, .inl c_uses_36))]) H := by rw [e_]; exact hP
      replace hD : va_D A ([(h0, .inr (12, zmo hm (0 : Int32) c_state c_test c_words c_ill c_before c_inRow c_first c_inWindow c_same c_made c_requests c_total c_secrets c_rounds_42 c_high c_low c_keyHigh c_keyLow)), ((hm 40), .inl (cy 1, 256, .inl c_back)), ((hm 43), .inl (cy 1, 16, .inl c_block_130)), ((hm 39), .inl (cy 1, 256, .inl c_box)), ((hm 6), .inl (cy 1, 512, .inl c_buffer)), ((hm 5), .inl (cy 1, 3, .inl c_counters)), ((hm 12), .inl (cy 1, 16, .inl c_holder)), ((hm 14), .inl (cy 1, 1024, .inl c_keys)), ((hm 9), .inl (cy 1, 16, .inl c_kind)), ((hm 10), .inl (cy 1, 16, .inl c_length)), ((hm 44), .inl (cy 1, 16, .inl c_other_47)), ((hm 45), .inl (cy 1, 600, .inl c_result_48)), ((hm 41), .inl (cy 1, 240, .inl c_round_43)), ((hm 11), .inl (cy 1, 16, .inl c_usage)), ((hm 13), .inl (cy 1, 16, .inl c_uses_36))]) := by rw [e_]; exact hD
      clear e_
      refine lv_iinc (pc := 290) (v := (i_110 + (1 : Int32))) (lv' := [(7, .int (i_110 + (1 : Int32))), (0, .ref h0), (1, .int p1), (3, .int p3), (4, .int x_37), (5, .int i_45), (6, .int x_109)]) hx hb (zdt_at zt_X10_unwrap_2 32 rfl) hl (k := 6) rfl rfl (by decide) rfl ?_
      clear hl
      intro ls hl
      refine lv_goto (pc := 293) (tgt := 232) hx hb (zdt_at zt_X10_unwrap_2 33 rfl) (by decide) ?_
      exact hTo _ _ _ (ihself_125 _ hf H locs ls hP hD hS (lv_sub hl [1, 2, 3, 4, 5, 6, 0] rfl))
    replace hf := ze_s cn_ hf
    clear cn_
    refine lv_aload_n (pc := 252) hx hb (zdt_at zt_X10_unwrap_2 11 rfl) rfl (lv_at hl 0 rfl) ?_
    refine va_get (pc := 253) (D := D) (ci := 12) (v := .ref (hm 45)) (C := RX10) (T := TX10) (N := 52) hx hb hts hcX10 hown hK hP 0 rfl rfl 45 (by decide) hw4 (fun _ h9 => h9) rfl (zdt_at zt_X10_unwrap_2 12 rfl) ?_
    refine lv_iload (pc := 256) hx hb (zdt_at zt_X10_unwrap_2 13 rfl) (lv_at hl 6 rfl) ?_
    replace hf := zk_s hf
    refine va_iald (pc := 258) hx hb hK hP 11 1 rfl rfl hf.1 (zdt_at zt_X10_unwrap_2 14 rfl) ?_
    replace hf := hf.2
    refine lv_iload (pc := 259) hx hb (zdt_at zt_X10_unwrap_2 15 rfl) (lv_at hl 6 rfl) ?_
    refine lv_bipush (pc := 261) (v := (7 : Int32)) hx hb (zdt_at zt_X10_unwrap_2 16 rfl) (by decide) ?_
    refine lv_icmp_ne (pc := 263) (tgt := 271) hx hb (zdt_at zt_X10_unwrap_2 17 rfl) (by decide) (fun cn_ => ?t_131) (fun cn_ => ?f_132)
    case t_131 =>
      replace hf := ze_s cn_ hf
      clear cn_
      refine lv_iconst (pc := 271) (v := (0 : Int32)) hx hb (zdt_at zt_X10_unwrap_2 20 rfl) (by decide) ?_
      refine lv_ixor (pc := 272) hx hb (zdt_at zt_X10_unwrap_2 21 rfl) ?_
      refine lv_goto (pc := 273) (tgt := 289) hx hb (zdt_at zt_X10_unwrap_2 22 rfl) (by decide) ?_
      replace hf := zk_s hf
      refine va_iast (pc := 289) hx hb hK hP hD hS 2 1 rfl rfl hf.1 (zdt_at zt_X10_unwrap_2 31 rfl) ?_
      replace hf := hf.2
      clear hP hD hS
      intro H locs hP hD hS
      obtain ⟨c_block_133, e_⟩ : ∃ q : Nat → Int32, q = (upd c_block_111 i_110.toNatClampNeg ((c_result_48 i_110.toNatClampNeg) ^^^ (0 : Int32))) := ⟨_, rfl⟩
      replace hf := zn_s hf e_
      replace hP : va_P D vwCl ([(h0, .inr (12, zmo hm (0 : Int32) c_state c_test c_words c_ill c_before c_inRow c_first c_inWindow c_same c_made c_requests c_total c_secrets c_rounds_42 c_high c_low c_keyHigh c_keyLow)), ((hm 40), .inl (cy 1, 256, .inl c_back)), ((hm 43), .inl (cy 1, 16, .inl c_block_133)), ((hm 39), .inl (cy 1, 256, .inl c_box)), ((hm 6), .inl (cy 1, 512, .inl c_buffer)), ((hm 5), .inl (cy 1, 3, .inl c_counters)), ((hm 12), .inl (cy 1, 16, .inl c_holder)), ((hm 14), .inl (cy 1, 1024, .inl c_keys)), ((hm 9), .inl (cy 1, 16, .inl c_kind)), ((hm 10), .inl (cy 1, 16, .inl c_length)), ((hm 44), .inl (cy 1, 16, .inl c_other_47)), ((hm 45), .inl (cy 1, 600, .inl c_result_48)), ((hm 41), .inl (cy 1, 240, .inl c_round_43)), ((hm 11), .inl (cy 1, 16, .inl c_usage)), ((hm 13), .inl (cy 1, 16, .inl c_uses_36))]) H := by rw [e_]; exact hP
      replace hD : va_D A ([(h0, .inr (12, zmo hm (0 : Int32) c_state c_test c_words c_ill c_before c_inRow c_first c_inWindow c_same c_made c_requests c_total c_secrets c_rounds_42 c_high c_low c_keyHigh c_keyLow)), ((hm 40), .inl (cy 1, 256, .inl c_back)), ((hm 43), .inl (cy 1, 16, .inl c_block_133)), ((hm 39), .inl (cy 1, 256, .inl c_box)), ((hm 6), .inl (cy 1, 512, .inl c_buffer)), ((hm 5), .inl (cy 1, 3, .inl c_counters)), ((hm 12), .inl (cy 1, 16, .inl c_holder)), ((hm 14), .inl (cy 1, 1024, .inl c_keys)), ((hm 9), .inl (cy 1, 16, .inl c_kind)), ((hm 10), .inl (cy 1, 16, .inl c_length)), ((hm 44), .inl (cy 1, 16, .inl c_other_47)), ((hm 45), .inl (cy 1, 600, .inl c_result_48)), ((hm 41), .inl (cy 1, 240, .inl c_round_43)), ((hm 11), .inl (cy 1, 16, .inl c_usage)), ((hm 13), .inl (cy 1, 16, .inl c_uses_36))]) := by rw [e_]; exact hD
      clear e_
      refine lv_iinc (pc := 290) (v := (i_110 + (1 : Int32))) (lv' := [(7, .int (i_110 + (1 : Int32))), (0, .ref h0), (1, .int p1), (3, .int p3), (4, .int x_37), (5, .int i_45), (6, .int x_109)]) hx hb (zdt_at zt_X10_unwrap_2 32 rfl) hl (k := 6) rfl rfl (by decide) rfl ?_
      clear hl
      intro ls hl
      refine lv_goto (pc := 293) (tgt := 232) hx hb (zdt_at zt_X10_unwrap_2 33 rfl) (by decide) ?_
      exact hTo _ _ _ (ihself_125 _ hf H locs ls hP hD hS (lv_sub hl [1, 2, 3, 4, 5, 6, 0] rfl))
    replace hf := zt_s cn_ hf
    clear cn_
    refine lv_iload (pc := 266) hx hb (zdt_at zt_X10_unwrap_2 18 rfl) (lv_at hl 4 rfl) ?_
    refine lv_goto (pc := 268) (tgt := 272) hx hb (zdt_at zt_X10_unwrap_2 19 rfl) (by decide) ?_
    refine lv_ixor (pc := 272) hx hb (zdt_at zt_X10_unwrap_2 21 rfl) ?_
    refine lv_goto (pc := 273) (tgt := 289) hx hb (zdt_at zt_X10_unwrap_2 22 rfl) (by decide) ?_
    replace hf := zk_s hf
    refine va_iast (pc := 289) hx hb hK hP hD hS 2 1 rfl rfl hf.1 (zdt_at zt_X10_unwrap_2 31 rfl) ?_
    replace hf := hf.2
    clear hP hD hS
    intro H locs hP hD hS
    obtain ⟨c_block_134, e_⟩ : ∃ q : Nat → Int32, q = (upd c_block_111 i_110.toNatClampNeg ((c_result_48 i_110.toNatClampNeg) ^^^ i_45)) := ⟨_, rfl⟩
    replace hf := zn_s hf e_
    replace hP : va_P D vwCl ([(h0, .inr (12, zmo hm (0 : Int32) c_state c_test c_words c_ill c_before c_inRow c_first c_inWindow c_same c_made c_requests c_total c_secrets c_rounds_42 c_high c_low c_keyHigh c_keyLow)), ((hm 40), .inl (cy 1, 256, .inl c_back)), ((hm 43), .inl (cy 1, 16, .inl c_block_134)), ((hm 39), .inl (cy 1, 256, .inl c_box)), ((hm 6), .inl (cy 1, 512, .inl c_buffer)), ((hm 5), .inl (cy 1, 3, .inl c_counters)), ((hm 12), .inl (cy 1, 16, .inl c_holder)), ((hm 14), .inl (cy 1, 1024, .inl c_keys)), ((hm 9), .inl (cy 1, 16, .inl c_kind)), ((hm 10), .inl (cy 1, 16, .inl c_length)), ((hm 44), .inl (cy 1, 16, .inl c_other_47)), ((hm 45), .inl (cy 1, 600, .inl c_result_48)), ((hm 41), .inl (cy 1, 240, .inl c_round_43)), ((hm 11), .inl (cy 1, 16, .inl c_usage)), ((hm 13), .inl (cy 1, 16, .inl c_uses_36))]) H := by rw [e_]; exact hP
    replace hD : va_D A ([(h0, .inr (12, zmo hm (0 : Int32) c_state c_test c_words c_ill c_before c_inRow c_first c_inWindow c_same c_made c_requests c_total c_secrets c_rounds_42 c_high c_low c_keyHigh c_keyLow)), ((hm 40), .inl (cy 1, 256, .inl c_back)), ((hm 43), .inl (cy 1, 16, .inl c_block_134)), ((hm 39), .inl (cy 1, 256, .inl c_box)), ((hm 6), .inl (cy 1, 512, .inl c_buffer)), ((hm 5), .inl (cy 1, 3, .inl c_counters)), ((hm 12), .inl (cy 1, 16, .inl c_holder)), ((hm 14), .inl (cy 1, 1024, .inl c_keys)), ((hm 9), .inl (cy 1, 16, .inl c_kind)), ((hm 10), .inl (cy 1, 16, .inl c_length)), ((hm 44), .inl (cy 1, 16, .inl c_other_47)), ((hm 45), .inl (cy 1, 600, .inl c_result_48)), ((hm 41), .inl (cy 1, 240, .inl c_round_43)), ((hm 11), .inl (cy 1, 16, .inl c_usage)), ((hm 13), .inl (cy 1, 16, .inl c_uses_36))]) := by rw [e_]; exact hD
    clear e_
    refine lv_iinc (pc := 290) (v := (i_110 + (1 : Int32))) (lv' := [(7, .int (i_110 + (1 : Int32))), (0, .ref h0), (1, .int p1), (3, .int p3), (4, .int x_37), (5, .int i_45), (6, .int x_109)]) hx hb (zdt_at zt_X10_unwrap_2 32 rfl) hl (k := 6) rfl rfl (by decide) rfl ?_
    clear hl
    intro ls hl
    refine lv_goto (pc := 293) (tgt := 232) hx hb (zdt_at zt_X10_unwrap_2 33 rfl) (by decide) ?_
    exact hTo _ _ _ (ihself_125 _ hf H locs ls hP hD hS (lv_sub hl [1, 2, 3, 4, 5, 6, 0] rfl))
  clear eK_41
  refine hTo _ _ _ (zl_go (fun z => match z with | (i_38, c_result_39) => ∀ (H : Heap) (locs : List Loc) (ls : Array Slot), va_P D vwCl ([(h0, .inr (12, zmo hm (0 : Int32) c_state c_test c_words c_ill c_before c_inRow c_first c_inWindow c_same c_made c_requests c_total c_secrets c_rounds c_high c_low c_keyHigh c_keyLow)), ((hm 40), .inl (cy 1, 256, .inl c_back)), ((hm 43), .inl (cy 1, 16, .inl c_block)), ((hm 39), .inl (cy 1, 256, .inl c_box)), ((hm 6), .inl (cy 1, 512, .inl c_buffer)), ((hm 5), .inl (cy 1, 3, .inl c_counters)), ((hm 12), .inl (cy 1, 16, .inl c_holder)), ((hm 14), .inl (cy 1, 1024, .inl c_keys)), ((hm 9), .inl (cy 1, 16, .inl c_kind)), ((hm 10), .inl (cy 1, 16, .inl c_length)), ((hm 44), .inl (cy 1, 16, .inl c_other)), ((hm 45), .inl (cy 1, 600, .inl c_result_39)), ((hm 41), .inl (cy 1, 240, .inl c_round)), ((hm 11), .inl (cy 1, 16, .inl c_usage)), ((hm 13), .inl (cy 1, 16, .inl c_uses_36))]) H → va_D A ([(h0, .inr (12, zmo hm (0 : Int32) c_state c_test c_words c_ill c_before c_inRow c_first c_inWindow c_same c_made c_requests c_total c_secrets c_rounds c_high c_low c_keyHigh c_keyLow)), ((hm 40), .inl (cy 1, 256, .inl c_back)), ((hm 43), .inl (cy 1, 16, .inl c_block)), ((hm 39), .inl (cy 1, 256, .inl c_box)), ((hm 6), .inl (cy 1, 512, .inl c_buffer)), ((hm 5), .inl (cy 1, 3, .inl c_counters)), ((hm 12), .inl (cy 1, 16, .inl c_holder)), ((hm 14), .inl (cy 1, 1024, .inl c_keys)), ((hm 9), .inl (cy 1, 16, .inl c_kind)), ((hm 10), .inl (cy 1, 16, .inl c_length)), ((hm 44), .inl (cy 1, 16, .inl c_other)), ((hm 45), .inl (cy 1, 600, .inl c_result_39)), ((hm 41), .inl (cy 1, 240, .inl c_round)), ((hm 11), .inl (cy 1, 16, .inl c_usage)), ((hm 13), .inl (cy 1, 16, .inl c_uses_36))]) → va_S A s.heap H locs → lv_has ls 8 [(0, .ref h0), (1, .int p1), (2, .int p2), (3, .int p3), (4, .int x_37), (5, .int i_38)] → GW H locs (F0 m 171 ls [])) hf ?_ H locs ls hP hD hS (lv_sub hl [2, 3, 4, 5, 1, 0] rfl))
  clear hf hl hP hD hS
  intro self_135 ihself_135 z hf
  obtain ⟨i_38, c_result_39⟩ := z
  intro H locs ls hP hD hS hl
  refine hFr _ _ _ ?_
  unfold b_X10_unwrap_171 at hf
  refine lv_iload (pc := 171) hx hb (zdt_at zt_X10_unwrap_1 32 rfl) (lv_at hl 5 rfl) ?_
  refine lv_iload_n (pc := 173) hx hb (zdt_at zt_X10_unwrap_1 33 rfl) rfl (lv_at hl 3 rfl) ?_
  refine lv_icmp_ge (pc := 174) (tgt := 197) hx hb (zdt_at zt_X10_unwrap_1 34 rfl) (by decide) (fun cn_ => ?t_136) (fun cn_ => ?f_137)
  case t_136 =>
    replace hf := zt_s cn_ hf
    clear cn_
    exact hTo _ _ _ (kK_41 _ H locs ls hP hD hS (lv_sub hl [0, 1, 2, 3, 4] rfl) hf)
  replace hf := ze_s cn_ hf
  clear cn_
  refine lv_aload_n (pc := 177) hx hb (zdt_at zt_X10_unwrap_1 35 rfl) rfl (lv_at hl 0 rfl) ?_
  refine va_get (pc := 178) (D := D) (ci := 12) (v := .ref (hm 45)) (C := RX10) (T := TX10) (N := 52) hx hb hts hcX10 hown hK hP 0 rfl rfl 45 (by decide) hw4 (fun _ h9 => h9) rfl (zdt_at zt_X10_unwrap_1 36 rfl) ?_
  refine lv_iload (pc := 181) hx hb (zdt_at zt_X10_unwrap_1 37 rfl) (lv_at hl 5 rfl) ?_
  refine lv_aload_n (pc := 183) hx hb (zdt_at zt_X10_unwrap_1 38 rfl) rfl (lv_at hl 0 rfl) ?_
  refine va_get (pc := 184) (D := D) (ci := 12) (v := .ref (hm 6)) (C := RX10) (T := TX10) (N := 52) hx hb hts hcX10 hown hK hP 0 rfl rfl 6 (by decide) hw7 (fun _ h9 => h9) rfl (zdt_at zt_X10_unwrap_1 39 rfl) ?_
  refine lv_iload (pc := 187) hx hb (zdt_at zt_X10_unwrap_1 40 rfl) (lv_at hl 5 rfl) ?_
  replace hf := zk_s hf
  refine va_iald (pc := 189) hx hb hK hP 4 1 rfl rfl hf.1 (zdt_at zt_X10_unwrap_1 41 rfl) ?_
  replace hf := hf.2
  replace hf := zk_s hf
  refine va_iast (pc := 190) hx hb hK hP hD hS 11 1 rfl rfl hf.1 (zdt_at zt_X10_unwrap_1 42 rfl) ?_
  replace hf := hf.2
  clear hP hD hS
  intro H locs hP hD hS
  obtain ⟨c_result_138, e_⟩ : ∃ q : Nat → Int32, q = (upd c_result_39 i_38.toNatClampNeg (c_buffer i_38.toNatClampNeg)) := ⟨_, rfl⟩
  replace hf := zn_s hf e_
  replace hP : va_P D vwCl ([(h0, .inr (12, zmo hm (0 : Int32) c_state c_test c_words c_ill c_before c_inRow c_first c_inWindow c_same c_made c_requests c_total c_secrets c_rounds c_high c_low c_keyHigh c_keyLow)), ((hm 40), .inl (cy 1, 256, .inl c_back)), ((hm 43), .inl (cy 1, 16, .inl c_block)), ((hm 39), .inl (cy 1, 256, .inl c_box)), ((hm 6), .inl (cy 1, 512, .inl c_buffer)), ((hm 5), .inl (cy 1, 3, .inl c_counters)), ((hm 12), .inl (cy 1, 16, .inl c_holder)), ((hm 14), .inl (cy 1, 1024, .inl c_keys)), ((hm 9), .inl (cy 1, 16, .inl c_kind)), ((hm 10), .inl (cy 1, 16, .inl c_length)), ((hm 44), .inl (cy 1, 16, .inl c_other)), ((hm 45), .inl (cy 1, 600, .inl c_result_138)), ((hm 41), .inl (cy 1, 240, .inl c_round)), ((hm 11), .inl (cy 1, 16, .inl c_usage)), ((hm 13), .inl (cy 1, 16, .inl c_uses_36))]) H := by rw [e_]; exact hP
  replace hD : va_D A ([(h0, .inr (12, zmo hm (0 : Int32) c_state c_test c_words c_ill c_before c_inRow c_first c_inWindow c_same c_made c_requests c_total c_secrets c_rounds c_high c_low c_keyHigh c_keyLow)), ((hm 40), .inl (cy 1, 256, .inl c_back)), ((hm 43), .inl (cy 1, 16, .inl c_block)), ((hm 39), .inl (cy 1, 256, .inl c_box)), ((hm 6), .inl (cy 1, 512, .inl c_buffer)), ((hm 5), .inl (cy 1, 3, .inl c_counters)), ((hm 12), .inl (cy 1, 16, .inl c_holder)), ((hm 14), .inl (cy 1, 1024, .inl c_keys)), ((hm 9), .inl (cy 1, 16, .inl c_kind)), ((hm 10), .inl (cy 1, 16, .inl c_length)), ((hm 44), .inl (cy 1, 16, .inl c_other)), ((hm 45), .inl (cy 1, 600, .inl c_result_138)), ((hm 41), .inl (cy 1, 240, .inl c_round)), ((hm 11), .inl (cy 1, 16, .inl c_usage)), ((hm 13), .inl (cy 1, 16, .inl c_uses_36))]) := by rw [e_]; exact hD
  clear e_
  refine lv_iinc (pc := 191) (v := (i_38 + (1 : Int32))) (lv' := [(5, .int (i_38 + (1 : Int32))), (0, .ref h0), (1, .int p1), (2, .int p2), (3, .int p3), (4, .int x_37)]) hx hb (zdt_at zt_X10_unwrap_1 43 rfl) hl (k := 5) rfl rfl (by decide) rfl ?_
  clear hl
  intro ls hl
  refine lv_goto (pc := 194) (tgt := 171) hx hb (zdt_at zt_X10_unwrap_1 44 rfl) (by decide) ?_
  exact hTo _ _ _ (ihself_135 _ hf H locs ls hP hD hS (lv_sub hl [1, 2, 3, 4, 5, 0] rfl))
