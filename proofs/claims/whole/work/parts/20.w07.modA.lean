set_option maxHeartbeats 4000000 in
set_option maxRecDepth 100000 in
theorem c_X9_power (l : Launch) (D : va_G) (cy : Nat → ClassId) (tt : Nat → Nat) (sz : Nat) (h0 : Nat) (h0_buffer : Nat) (h0_slots : Nat) (h0_counters : Nat) (h0_officerPin : Nat) (h0_userPin : Nat) (h0_words : Nat) (h0_sha : Nat) (h0_stream : Nat) (h0_aes : Nat) (h0_modes : Nat) (h0_gcm : Nat) (h0_generator : Nat) (h0_tests : Nat) (h0_message : Nat) (h0_secret : Nat) (h0_generator_key : Nat) (h0_generator_value : Nat) (h0_generator_message : Nat) (h0_words_kept : Nat) (p1 : Int32) (c_faults : Int32) (c_state : Int32) (c_streamBegun : Int32) (c_testsDone : Int32) (c_buffer : Nat → Int32) (c_generator_begun : Int32) (c_generator_key : Nat → Int32) (c_generator_value : Nat → Int32) (c_words_count : Int32) (c_words_healthy : Int32) (c_words_placeInWindow : Int32) (c_words_row : Int32) (c_words_timesInWindow : Int32) (c_words_kept : Nat → Int32) (c_generator_requests : Int32) (c_words_last : Int32) (c_words_first : Int32) (r_ : Int32) (c_faults' : Int32) (c_state' : Int32) (c_streamBegun' : Int32) (c_testsDone' : Int32) (c_buffer' : Nat → Int32) (c_generator_begun' : Int32) (c_generator_key' : Nat → Int32) (c_generator_value' : Nat → Int32) (c_words_count' : Int32) (c_words_healthy' : Int32) (c_words_placeInWindow' : Int32) (c_words_row' : Int32) (c_words_timesInWindow' : Int32) (c_words_kept' : Nat → Int32) (hf : f_X9_power p1 c_faults c_state c_streamBegun c_testsDone c_buffer c_generator_begun c_generator_key c_generator_value c_words_count c_words_healthy c_words_placeInWindow c_words_row c_words_timesInWindow c_words_kept = some (r_, c_faults', c_state', c_streamBegun', c_testsDone', c_buffer', c_generator_begun', c_generator_key', c_generator_value', c_words_count', c_words_healthy', c_words_placeInWindow', c_words_row', c_words_timesInWindow', c_words_kept')) : Met l yX9_power wsX9_power ({ frames := 3, cells := 0, slots := 0, locals := 63 }) (zPc D cy tt sz [.ref h0, .int p1] ([(h0, .inr (11, [.ref h0_buffer, .ref h0_slots, .ref h0_counters, .ref h0_officerPin, .ref h0_userPin, .ref h0_words, .ref h0_sha, .ref h0_stream, .ref h0_aes, .ref h0_modes, .ref h0_gcm, .ref h0_generator, .ref h0_tests, .ref h0_message, .ref h0_secret, .int c_state, .int c_testsDone, .int c_faults, .int c_streamBegun])), (h0_buffer, .inl (cy 0, 512, .inl c_buffer)), (h0_generator, .inr (5, [.ref h0_sha, .ref h0_generator_key, .ref h0_generator_value, .ref h0_generator_message, .int c_generator_begun, .int c_generator_requests])), (h0_generator_key, .inl (cy 0, 32, .inl c_generator_key)), (h0_generator_value, .inl (cy 0, 32, .inl c_generator_value)), (h0_words, .inr (3, [.ref h0_words_kept, .int c_words_count, .int c_words_healthy, .int c_words_last, .int c_words_row, .int c_words_first, .int c_words_placeInWindow, .int c_words_timesInWindow])), (h0_words_kept, .inl (cy 1, 64, .inl c_words_kept))])) (zQ D (some (.int r_)) ([(h0, .inr (11, [.ref h0_buffer, .ref h0_slots, .ref h0_counters, .ref h0_officerPin, .ref h0_userPin, .ref h0_words, .ref h0_sha, .ref h0_stream, .ref h0_aes, .ref h0_modes, .ref h0_gcm, .ref h0_generator, .ref h0_tests, .ref h0_message, .ref h0_secret, .int c_state', .int c_testsDone', .int c_faults', .int c_streamBegun'])), (h0_buffer, .inl (cy 0, 512, .inl c_buffer')), (h0_generator, .inr (5, [.ref h0_sha, .ref h0_generator_key, .ref h0_generator_value, .ref h0_generator_message, .int c_generator_begun', .int c_generator_requests])), (h0_generator_key, .inl (cy 0, 32, .inl c_generator_key')), (h0_generator_value, .inl (cy 0, 32, .inl c_generator_value')), (h0_words, .inr (3, [.ref h0_words_kept, .int c_words_count', .int c_words_healthy', .int c_words_last, .int c_words_row', .int c_words_first, .int c_words_placeInWindow', .int c_words_timesInWindow'])), (h0_words_kept, .inl (cy 1, 64, .inl c_words_kept'))]) (va_A ([(h0, .inr (11, [.ref h0_buffer, .ref h0_slots, .ref h0_counters, .ref h0_officerPin, .ref h0_userPin, .ref h0_words, .ref h0_sha, .ref h0_stream, .ref h0_aes, .ref h0_modes, .ref h0_gcm, .ref h0_generator, .ref h0_tests, .ref h0_message, .ref h0_secret, .int c_state, .int c_testsDone, .int c_faults, .int c_streamBegun])), (h0_buffer, .inl (cy 0, 512, .inl c_buffer)), (h0_generator, .inr (5, [.ref h0_sha, .ref h0_generator_key, .ref h0_generator_value, .ref h0_generator_message, .int c_generator_begun, .int c_generator_requests])), (h0_generator_key, .inl (cy 0, 32, .inl c_generator_key)), (h0_generator_value, .inl (cy 0, 32, .inl c_generator_value)), (h0_words, .inr (3, [.ref h0_words_kept, .int c_words_count, .int c_words_healthy, .int c_words_last, .int c_words_row, .int c_words_first, .int c_words_placeInWindow, .int c_words_timesInWindow])), (h0_words_kept, .inl (cy 1, 64, .inl c_words_kept))]) sz)) 0 0 (va_A ([(h0, .inr (11, [.ref h0_buffer, .ref h0_slots, .ref h0_counters, .ref h0_officerPin, .ref h0_userPin, .ref h0_words, .ref h0_sha, .ref h0_stream, .ref h0_aes, .ref h0_modes, .ref h0_gcm, .ref h0_generator, .ref h0_tests, .ref h0_message, .ref h0_secret, .int c_state, .int c_testsDone, .int c_faults, .int c_streamBegun])), (h0_buffer, .inl (cy 0, 512, .inl c_buffer)), (h0_generator, .inr (5, [.ref h0_sha, .ref h0_generator_key, .ref h0_generator_value, .ref h0_generator_message, .int c_generator_begun, .int c_generator_requests])), (h0_generator_key, .inl (cy 0, 32, .inl c_generator_key)), (h0_generator_value, .inl (cy 0, 32, .inl c_generator_value)), (h0_words, .inr (3, [.ref h0_words_kept, .int c_words_count, .int c_words_healthy, .int c_words_last, .int c_words_row, .int c_words_first, .int c_words_placeInWindow, .int c_words_timesInWindow])), (h0_words_kept, .inl (cy 1, 64, .inl c_words_kept))]) sz) := by
  refine Met.ofW (cc := cX9_power) (maxL := 2) (ret := (some .int)) (by decide) rfl ?_
  intro p e s m args below meth c s₁ B hml hv
  obtain ⟨rfl, rfl, hP, hD0, hE⟩ := hv
  have hx := B.exec
  have hb := B.bytes
  have hr := B.returns
  have hts := atoms_spec (ws := wsX9_power) B.pre
  have hown : s.vm.findClass RX9 = some m.cls := findClass_of_methodNamed B.named
  have hlocks := B.notSynchronized
  clear B
  have hD := hD0.self (sz := s.heap.size)
  generalize hAe : va_A ([(h0, .inr (11, [.ref h0_buffer, .ref h0_slots, .ref h0_counters, .ref h0_officerPin, .ref h0_userPin, .ref h0_words, .ref h0_sha, .ref h0_stream, .ref h0_aes, .ref h0_modes, .ref h0_gcm, .ref h0_generator, .ref h0_tests, .ref h0_message, .ref h0_secret, .int c_state, .int c_testsDone, .int c_faults, .int c_streamBegun])), (h0_buffer, .inl (cy 0, 512, .inl c_buffer)), (h0_generator, .inr (5, [.ref h0_sha, .ref h0_generator_key, .ref h0_generator_value, .ref h0_generator_message, .int c_generator_begun, .int c_generator_requests])), (h0_generator_key, .inl (cy 0, 32, .inl c_generator_key)), (h0_generator_value, .inl (cy 0, 32, .inl c_generator_value)), (h0_words, .inr (3, [.ref h0_words_kept, .int c_words_count, .int c_words_healthy, .int c_words_last, .int c_words_row, .int c_words_first, .int c_words_placeInWindow, .int c_words_timesInWindow])), (h0_words_kept, .inl (cy 1, 64, .inl c_words_kept))]) s.heap.size = A at hD hE ⊢
  have hA : ∀ q : Nat, s.heap.size ≤ q → A q := fun q h => by rw [← hAe]; exact Or.inr h
  clear hAe hD0
  have hS : va_S A s.heap s.heap [] := va_S.rf
  have hK := hE.1
  have hw0 := hts (.fieldLink RX9 38 "SealedModule" "words" "LSealedModule$Entropy;") (by decide +kernel)
  have hw1 := hts (.fieldLink RX9 82 "SealedModule" "generator" "LSealedModule$Generator;") (by decide +kernel)
  have hw2 := hts (.fieldLink RX9 111 "SealedModule" "streamBegun" "Z") (by decide +kernel)
  have hw3 := hts (.fieldLink RX9 101 "SealedModule" "state" "I") (by decide +kernel)
  have hw4 := hts (.fieldLink RX9 9 "SealedModule" "buffer" "[B") (by decide +kernel)
  have hw5 := hts (.fieldLink RX9 105 "SealedModule" "testsDone" "I") (by decide +kernel)
  have hw6 := hts (.fieldLink RX9 108 "SealedModule" "faults" "I") (by decide +kernel)
  have hcX9 : ∀ w ∈ u_ws RX9 TX9 19, w ∈ wsX9_power := (fun _ h => List.mem_cons_of_mem _ (List.mem_append_left _ (List.mem_append_left _ (List.mem_append_right _ h))))
  have hl := lv_entry ([.ref h0, .int p1]) (n := 2) (Nat.le_of_ble_eq_true rfl)
  rw [lg_entry_eq]
  generalize (lg_sl ([.ref h0, .int p1]) ++ List.replicate (2 - (lg_sl ([.ref h0, .int p1])).length) Slot.unset).toArray = ls at hl ⊢
  replace hl : lv_has ls 2 [(0, .ref h0), (1, .int p1)] := hl
  unfold f_X9_power at hf
  refine zgo (fun GW hTo hFr => ?_)
  refine hFr _ _ _ ?_
  obtain ⟨H, hHe⟩ : ∃ H, H = s.heap := ⟨_, rfl⟩
  obtain ⟨locs, hLe⟩ : ∃ L : List Loc, L = [] := ⟨_, rfl⟩
  rw [← hHe] at hP
  replace hS : va_S A s.heap H locs := by rw [hHe, hLe]; exact hS
  refine zat hHe.symm hLe.symm ?_
  clear hHe hLe
  refine lv_aload_n (pc := 0) hx hb (zdt_at zt_X9_power_0 0 rfl) rfl (lv_at hl 0 rfl) ?_
  refine va_get (pc := 1) (D := D) (ci := 11) (v := .ref h0_words) (C := RX9) (T := TX9) (N := 19) hx hb hts hcX9 hown hK hP 0 rfl rfl 5 (by decide) hw0 (fun _ h9 => h9) rfl (zdt_at zt_X9_power_0 1 rfl) ?_
  replace hf := zb_s hf
  obtain ⟨⟨c_words_count_1, c_words_healthy_2, c_words_placeInWindow_3, c_words_row_4, c_words_timesInWindow_5, c_words_kept_6⟩, hc_, hf⟩ := hf
  refine zcn2 (pc := 4) (rv := none) (va_runV (As := []) (rest := []) ⟨hx, hb, hml, hown, hts⟩ (c_X1_forgetAll l D cy tt H.size h0_words h0_words_kept c_words_count c_words_healthy c_words_placeInWindow c_words_row c_words_timesInWindow c_words_kept c_words_last c_words_first c_words_count_1 c_words_healthy_2 c_words_placeInWindow_3 c_words_row_4 c_words_timesInWindow_5 c_words_kept_6 hc_) (cwV 0 hts gX9_power_X1_forgetAll rfl rfl rfl (by decide +kernel) ⟨Nat.le_of_ble_eq_true rfl, Nat.le_of_ble_eq_true rfl⟩) ⟨zblind, va_recv hK hP (ci := 3) (q0 := 5) rfl rfl, zpre hE hS (hP.sub [5, 6] rfl) (hD.sub [5, 6] (by decide) rfl) (va_free hD hS hA [5, 6] rfl)⟩ rfl rfl hl.1 rfl (lv_room (Nat.le_of_ble_eq_true rfl)) (zdt_at zt_X9_power_0 2 rfl) ⟨Nat.zero_le _, Nat.zero_le _⟩) hS hP hD (va_free hD hS hA [5, 6] rfl) [5, 6] rfl (by decide) rfl ?_
  clear hP hD hS hc_
  intro H locs hP hD hS
  replace hP : va_P D vwCl ([(h0, .inr (11, [.ref h0_buffer, .ref h0_slots, .ref h0_counters, .ref h0_officerPin, .ref h0_userPin, .ref h0_words, .ref h0_sha, .ref h0_stream, .ref h0_aes, .ref h0_modes, .ref h0_gcm, .ref h0_generator, .ref h0_tests, .ref h0_message, .ref h0_secret, .int c_state, .int c_testsDone, .int c_faults, .int c_streamBegun])), (h0_buffer, .inl (cy 0, 512, .inl c_buffer)), (h0_generator, .inr (5, [.ref h0_sha, .ref h0_generator_key, .ref h0_generator_value, .ref h0_generator_message, .int c_generator_begun, .int c_generator_requests])), (h0_generator_key, .inl (cy 0, 32, .inl c_generator_key)), (h0_generator_value, .inl (cy 0, 32, .inl c_generator_value)), (h0_words, .inr (3, [.ref h0_words_kept, .int c_words_count_1, .int c_words_healthy_2, .int c_words_last, .int c_words_row_4, .int c_words_first, .int c_words_placeInWindow_3, .int c_words_timesInWindow_5])), (h0_words_kept, .inl (cy 1, 64, .inl c_words_kept_6))]) H := hP
  replace hD : va_D A ([(h0, .inr (11, [.ref h0_buffer, .ref h0_slots, .ref h0_counters, .ref h0_officerPin, .ref h0_userPin, .ref h0_words, .ref h0_sha, .ref h0_stream, .ref h0_aes, .ref h0_modes, .ref h0_gcm, .ref h0_generator, .ref h0_tests, .ref h0_message, .ref h0_secret, .int c_state, .int c_testsDone, .int c_faults, .int c_streamBegun])), (h0_buffer, .inl (cy 0, 512, .inl c_buffer)), (h0_generator, .inr (5, [.ref h0_sha, .ref h0_generator_key, .ref h0_generator_value, .ref h0_generator_message, .int c_generator_begun, .int c_generator_requests])), (h0_generator_key, .inl (cy 0, 32, .inl c_generator_key)), (h0_generator_value, .inl (cy 0, 32, .inl c_generator_value)), (h0_words, .inr (3, [.ref h0_words_kept, .int c_words_count_1, .int c_words_healthy_2, .int c_words_last, .int c_words_row_4, .int c_words_first, .int c_words_placeInWindow_3, .int c_words_timesInWindow_5])), (h0_words_kept, .inl (cy 1, 64, .inl c_words_kept_6))]) := hD
  refine W.eq (g2 := F0 m 7 ls []) rfl ?_
  refine lv_aload_n (pc := 7) hx hb (zdt_at zt_X9_power_0 3 rfl) rfl (lv_at hl 0 rfl) ?_
  refine va_get (pc := 8) (D := D) (ci := 11) (v := .ref h0_generator) (C := RX9) (T := TX9) (N := 19) hx hb hts hcX9 hown hK hP 0 rfl rfl 11 (by decide) hw1 (fun _ h9 => h9) rfl (zdt_at zt_X9_power_0 4 rfl) ?_
  replace hf := zb_s hf
  obtain ⟨⟨c_generator_begun_7, c_generator_key_8, c_generator_value_9⟩, hc_, hf⟩ := hf
  refine zcn2 (pc := 11) (rv := none) (va_runV (As := []) (rest := []) ⟨hx, hb, hml, hown, hts⟩ (c_X3_forget l D cy tt H.size h0_generator h0_sha h0_generator_key h0_generator_value h0_generator_message c_generator_begun c_generator_key c_generator_value c_generator_requests c_generator_begun_7 c_generator_key_8 c_generator_value_9 hc_) (cwV 0 hts gX9_power_X3_forget rfl rfl rfl (by decide +kernel) ⟨Nat.le_of_ble_eq_true rfl, Nat.le_of_ble_eq_true rfl⟩) ⟨zblind, va_recv hK hP (ci := 5) (q0 := 2) rfl rfl, zpre hE hS (hP.sub [2, 3, 4] rfl) (hD.sub [2, 3, 4] (by decide) rfl) (va_free hD hS hA [2, 3, 4] rfl)⟩ rfl rfl hl.1 rfl (lv_room (Nat.le_of_ble_eq_true rfl)) (zdt_at zt_X9_power_0 5 rfl) ⟨Nat.zero_le _, Nat.zero_le _⟩) hS hP hD (va_free hD hS hA [2, 3, 4] rfl) [2, 3, 4] rfl (by decide) rfl ?_
  clear hP hD hS hc_
  intro H locs hP hD hS
  replace hP : va_P D vwCl ([(h0, .inr (11, [.ref h0_buffer, .ref h0_slots, .ref h0_counters, .ref h0_officerPin, .ref h0_userPin, .ref h0_words, .ref h0_sha, .ref h0_stream, .ref h0_aes, .ref h0_modes, .ref h0_gcm, .ref h0_generator, .ref h0_tests, .ref h0_message, .ref h0_secret, .int c_state, .int c_testsDone, .int c_faults, .int c_streamBegun])), (h0_buffer, .inl (cy 0, 512, .inl c_buffer)), (h0_generator, .inr (5, [.ref h0_sha, .ref h0_generator_key, .ref h0_generator_value, .ref h0_generator_message, .int c_generator_begun_7, .int c_generator_requests])), (h0_generator_key, .inl (cy 0, 32, .inl c_generator_key_8)), (h0_generator_value, .inl (cy 0, 32, .inl c_generator_value_9)), (h0_words, .inr (3, [.ref h0_words_kept, .int c_words_count_1, .int c_words_healthy_2, .int c_words_last, .int c_words_row_4, .int c_words_first, .int c_words_placeInWindow_3, .int c_words_timesInWindow_5])), (h0_words_kept, .inl (cy 1, 64, .inl c_words_kept_6))]) H := hP
  replace hD : va_D A ([(h0, .inr (11, [.ref h0_buffer, .ref h0_slots, .ref h0_counters, .ref h0_officerPin, .ref h0_userPin, .ref h0_words, .ref h0_sha, .ref h0_stream, .ref h0_aes, .ref h0_modes, .ref h0_gcm, .ref h0_generator, .ref h0_tests, .ref h0_message, .ref h0_secret, .int c_state, .int c_testsDone, .int c_faults, .int c_streamBegun])), (h0_buffer, .inl (cy 0, 512, .inl c_buffer)), (h0_generator, .inr (5, [.ref h0_sha, .ref h0_generator_key, .ref h0_generator_value, .ref h0_generator_message, .int c_generator_begun_7, .int c_generator_requests])), (h0_generator_key, .inl (cy 0, 32, .inl c_generator_key_8)), (h0_generator_value, .inl (cy 0, 32, .inl c_generator_value_9)), (h0_words, .inr (3, [.ref h0_words_kept, .int c_words_count_1, .int c_words_healthy_2, .int c_words_last, .int c_words_row_4, .int c_words_first, .int c_words_placeInWindow_3, .int c_words_timesInWindow_5])), (h0_words_kept, .inl (cy 1, 64, .inl c_words_kept_6))]) := hD
  refine W.eq (g2 := F0 m 14 ls []) rfl ?_
  refine lv_aload_n (pc := 14) hx hb (zdt_at zt_X9_power_0 6 rfl) rfl (lv_at hl 0 rfl) ?_
  refine lv_iconst (pc := 15) (v := (0 : Int32)) hx hb (zdt_at zt_X9_power_0 7 rfl) (by decide) ?_
  refine va_put (pc := 16) (D := D) (ci := 11) (v := .int (0 : Int32)) (ty := .boolean) (C := RX9) (T := TX9) (N := 19) hx hb hts hcX9 tyX9 tyX9_ok nmX9 hown hK hP hD hS 0 rfl rfl 18 (by decide) hw2 (fun _ h9 => h9) rfl (by decide +kernel) (by first | rfl | decide) (by first | rfl | decide) (Nat.le_of_ble_eq_true rfl) (zdt_at zt_X9_power_0 8 rfl) ?_
  clear hP hD hS
  intro H locs hP hD hS
  replace hP : va_P D vwCl ([(h0, .inr (11, [.ref h0_buffer, .ref h0_slots, .ref h0_counters, .ref h0_officerPin, .ref h0_userPin, .ref h0_words, .ref h0_sha, .ref h0_stream, .ref h0_aes, .ref h0_modes, .ref h0_gcm, .ref h0_generator, .ref h0_tests, .ref h0_message, .ref h0_secret, .int c_state, .int c_testsDone, .int c_faults, .int (0 : Int32)])), (h0_buffer, .inl (cy 0, 512, .inl c_buffer)), (h0_generator, .inr (5, [.ref h0_sha, .ref h0_generator_key, .ref h0_generator_value, .ref h0_generator_message, .int c_generator_begun_7, .int c_generator_requests])), (h0_generator_key, .inl (cy 0, 32, .inl c_generator_key_8)), (h0_generator_value, .inl (cy 0, 32, .inl c_generator_value_9)), (h0_words, .inr (3, [.ref h0_words_kept, .int c_words_count_1, .int c_words_healthy_2, .int c_words_last, .int c_words_row_4, .int c_words_first, .int c_words_placeInWindow_3, .int c_words_timesInWindow_5])), (h0_words_kept, .inl (cy 1, 64, .inl c_words_kept_6))]) H := hP
  replace hD : va_D A ([(h0, .inr (11, [.ref h0_buffer, .ref h0_slots, .ref h0_counters, .ref h0_officerPin, .ref h0_userPin, .ref h0_words, .ref h0_sha, .ref h0_stream, .ref h0_aes, .ref h0_modes, .ref h0_gcm, .ref h0_generator, .ref h0_tests, .ref h0_message, .ref h0_secret, .int c_state, .int c_testsDone, .int c_faults, .int (0 : Int32)])), (h0_buffer, .inl (cy 0, 512, .inl c_buffer)), (h0_generator, .inr (5, [.ref h0_sha, .ref h0_generator_key, .ref h0_generator_value, .ref h0_generator_message, .int c_generator_begun_7, .int c_generator_requests])), (h0_generator_key, .inl (cy 0, 32, .inl c_generator_key_8)), (h0_generator_value, .inl (cy 0, 32, .inl c_generator_value_9)), (h0_words, .inr (3, [.ref h0_words_kept, .int c_words_count_1, .int c_words_healthy_2, .int c_words_last, .int c_words_row_4, .int c_words_first, .int c_words_placeInWindow_3, .int c_words_timesInWindow_5])), (h0_words_kept, .inl (cy 1, 64, .inl c_words_kept_6))]) := hD
  refine lv_aload_n (pc := 19) hx hb (zdt_at zt_X9_power_0 9 rfl) rfl (lv_at hl 0 rfl) ?_
  refine lv_iconst (pc := 20) (v := (0 : Int32)) hx hb (zdt_at zt_X9_power_0 10 rfl) (by decide) ?_
  refine va_put (pc := 21) (D := D) (ci := 11) (v := .int (0 : Int32)) (ty := .int) (C := RX9) (T := TX9) (N := 19) hx hb hts hcX9 tyX9 tyX9_ok nmX9 hown hK hP hD hS 0 rfl rfl 15 (by decide) hw3 (fun _ h9 => h9) rfl (by decide +kernel) rfl rfl (Nat.le_of_ble_eq_true rfl) (zdt_at zt_X9_power_0 11 rfl) ?_
  clear hP hD hS
  intro H locs hP hD hS
  replace hP : va_P D vwCl ([(h0, .inr (11, [.ref h0_buffer, .ref h0_slots, .ref h0_counters, .ref h0_officerPin, .ref h0_userPin, .ref h0_words, .ref h0_sha, .ref h0_stream, .ref h0_aes, .ref h0_modes, .ref h0_gcm, .ref h0_generator, .ref h0_tests, .ref h0_message, .ref h0_secret, .int (0 : Int32), .int c_testsDone, .int c_faults, .int (0 : Int32)])), (h0_buffer, .inl (cy 0, 512, .inl c_buffer)), (h0_generator, .inr (5, [.ref h0_sha, .ref h0_generator_key, .ref h0_generator_value, .ref h0_generator_message, .int c_generator_begun_7, .int c_generator_requests])), (h0_generator_key, .inl (cy 0, 32, .inl c_generator_key_8)), (h0_generator_value, .inl (cy 0, 32, .inl c_generator_value_9)), (h0_words, .inr (3, [.ref h0_words_kept, .int c_words_count_1, .int c_words_healthy_2, .int c_words_last, .int c_words_row_4, .int c_words_first, .int c_words_placeInWindow_3, .int c_words_timesInWindow_5])), (h0_words_kept, .inl (cy 1, 64, .inl c_words_kept_6))]) H := hP
  replace hD : va_D A ([(h0, .inr (11, [.ref h0_buffer, .ref h0_slots, .ref h0_counters, .ref h0_officerPin, .ref h0_userPin, .ref h0_words, .ref h0_sha, .ref h0_stream, .ref h0_aes, .ref h0_modes, .ref h0_gcm, .ref h0_generator, .ref h0_tests, .ref h0_message, .ref h0_secret, .int (0 : Int32), .int c_testsDone, .int c_faults, .int (0 : Int32)])), (h0_buffer, .inl (cy 0, 512, .inl c_buffer)), (h0_generator, .inr (5, [.ref h0_sha, .ref h0_generator_key, .ref h0_generator_value, .ref h0_generator_message, .int c_generator_begun_7, .int c_generator_requests])), (h0_generator_key, .inl (cy 0, 32, .inl c_generator_key_8)), (h0_generator_value, .inl (cy 0, 32, .inl c_generator_value_9)), (h0_words, .inr (3, [.ref h0_words_kept, .int c_words_count_1, .int c_words_healthy_2, .int c_words_last, .int c_words_row_4, .int c_words_first, .int c_words_placeInWindow_3, .int c_words_timesInWindow_5])), (h0_words_kept, .inl (cy 1, 64, .inl c_words_kept_6))]) := hD
  refine lv_iload_n (pc := 24) hx hb (zdt_at zt_X9_power_0 12 rfl) rfl (lv_at hl 1 rfl) ?_
  refine lv_if_eq (pc := 25) (tgt := 51) hx hb (zdt_at zt_X9_power_0 13 rfl) (by decide) (fun cn_ => ?t_10) (fun cn_ => ?f_11)
  case t_10 =>
    replace hf := zt_s cn_ hf
    clear cn_
    refine lv_aload_n (pc := 51) hx hb (zdt_at zt_X9_power_0 27 rfl) rfl (lv_at hl 0 rfl) ?_
    refine va_get (pc := 52) (D := D) (ci := 11) (v := .int (0 : Int32)) (C := RX9) (T := TX9) (N := 19) hx hb hts hcX9 hown hK hP 0 rfl rfl 15 (by decide) hw3 (fun _ h9 => h9) rfl (zdt_at zt_X9_power_0 28 rfl) ?_
    cases hf
    exact W.iret (pc := 55) hx hb hr (fun t ht hW => ⟨rfl, ⟨by rw [ht]; exact hP, hD⟩, hS.F ht⟩) hS.2.2 (zdt_at zt_X9_power_0 29 rfl)
  replace hf := ze_s cn_ hf
  clear cn_
  refine lv_aload_n (pc := 28) hx hb (zdt_at zt_X9_power_0 14 rfl) rfl (lv_at hl 0 rfl) ?_
  refine va_get (pc := 29) (D := D) (ci := 11) (v := .ref h0_buffer) (C := RX9) (T := TX9) (N := 19) hx hb hts hcX9 hown hK hP 0 rfl rfl 0 (by decide) hw4 (fun _ h9 => h9) rfl (zdt_at zt_X9_power_0 15 rfl) ?_
  refine lv_iconst (pc := 32) (v := (0 : Int32)) hx hb (zdt_at zt_X9_power_0 16 rfl) (by decide) ?_
  replace hf := zb_s hf
  obtain ⟨c_buffer_12, hc_, hf⟩ := hf
  refine zcn2 (pc := 33) (rv := none) (va_runS (As := [.ref h0_buffer, .int (0 : Int32)]) (rest := []) ⟨hx, hb, hml, hown, hts⟩ (c_J7_fill_031fb l D cy tt H.size h0_buffer 512 (0 : Int32) c_buffer c_buffer_12 hc_) (va_cwS 2 hts gX9_power_J7_fill_031fb rfl rfl rfl (by decide +kernel) ⟨Nat.le_of_ble_eq_true rfl, Nat.le_of_ble_eq_true rfl⟩) ⟨zblind, zpre hE hS (hP.sub [1] rfl) (hD.sub [1] (by decide) rfl) (va_free hD hS hA [1] rfl)⟩ rfl rfl hl.1 rfl (lv_room (Nat.le_of_ble_eq_true rfl)) (zdt_at zt_X9_power_0 17 rfl) ⟨Nat.zero_le _, Nat.zero_le _⟩) hS hP hD (va_free hD hS hA [1] rfl) [1] rfl (by decide) rfl ?_
  clear hP hD hS hc_
  intro H locs hP hD hS
  replace hP : va_P D vwCl ([(h0, .inr (11, [.ref h0_buffer, .ref h0_slots, .ref h0_counters, .ref h0_officerPin, .ref h0_userPin, .ref h0_words, .ref h0_sha, .ref h0_stream, .ref h0_aes, .ref h0_modes, .ref h0_gcm, .ref h0_generator, .ref h0_tests, .ref h0_message, .ref h0_secret, .int (0 : Int32), .int c_testsDone, .int c_faults, .int (0 : Int32)])), (h0_buffer, .inl (cy 0, 512, .inl c_buffer_12)), (h0_generator, .inr (5, [.ref h0_sha, .ref h0_generator_key, .ref h0_generator_value, .ref h0_generator_message, .int c_generator_begun_7, .int c_generator_requests])), (h0_generator_key, .inl (cy 0, 32, .inl c_generator_key_8)), (h0_generator_value, .inl (cy 0, 32, .inl c_generator_value_9)), (h0_words, .inr (3, [.ref h0_words_kept, .int c_words_count_1, .int c_words_healthy_2, .int c_words_last, .int c_words_row_4, .int c_words_first, .int c_words_placeInWindow_3, .int c_words_timesInWindow_5])), (h0_words_kept, .inl (cy 1, 64, .inl c_words_kept_6))]) H := hP
  replace hD : va_D A ([(h0, .inr (11, [.ref h0_buffer, .ref h0_slots, .ref h0_counters, .ref h0_officerPin, .ref h0_userPin, .ref h0_words, .ref h0_sha, .ref h0_stream, .ref h0_aes, .ref h0_modes, .ref h0_gcm, .ref h0_generator, .ref h0_tests, .ref h0_message, .ref h0_secret, .int (0 : Int32), .int c_testsDone, .int c_faults, .int (0 : Int32)])), (h0_buffer, .inl (cy 0, 512, .inl c_buffer_12)), (h0_generator, .inr (5, [.ref h0_sha, .ref h0_generator_key, .ref h0_generator_value, .ref h0_generator_message, .int c_generator_begun_7, .int c_generator_requests])), (h0_generator_key, .inl (cy 0, 32, .inl c_generator_key_8)), (h0_generator_value, .inl (cy 0, 32, .inl c_generator_value_9)), (h0_words, .inr (3, [.ref h0_words_kept, .int c_words_count_1, .int c_words_healthy_2, .int c_words_last, .int c_words_row_4, .int c_words_first, .int c_words_placeInWindow_3, .int c_words_timesInWindow_5])), (h0_words_kept, .inl (cy 1, 64, .inl c_words_kept_6))]) := hD
  refine W.eq (g2 := F0 m 36 ls []) rfl ?_
  refine lv_aload_n (pc := 36) hx hb (zdt_at zt_X9_power_0 18 rfl) rfl (lv_at hl 0 rfl) ?_
  refine lv_iconst (pc := 37) (v := (0 : Int32)) hx hb (zdt_at zt_X9_power_0 19 rfl) (by decide) ?_
  refine va_put (pc := 38) (D := D) (ci := 11) (v := .int (0 : Int32)) (ty := .int) (C := RX9) (T := TX9) (N := 19) hx hb hts hcX9 tyX9 tyX9_ok nmX9 hown hK hP hD hS 0 rfl rfl 16 (by decide) hw5 (fun _ h9 => h9) rfl (by decide +kernel) rfl rfl (Nat.le_of_ble_eq_true rfl) (zdt_at zt_X9_power_0 20 rfl) ?_
  clear hP hD hS
  intro H locs hP hD hS
  replace hP : va_P D vwCl ([(h0, .inr (11, [.ref h0_buffer, .ref h0_slots, .ref h0_counters, .ref h0_officerPin, .ref h0_userPin, .ref h0_words, .ref h0_sha, .ref h0_stream, .ref h0_aes, .ref h0_modes, .ref h0_gcm, .ref h0_generator, .ref h0_tests, .ref h0_message, .ref h0_secret, .int (0 : Int32), .int (0 : Int32), .int c_faults, .int (0 : Int32)])), (h0_buffer, .inl (cy 0, 512, .inl c_buffer_12)), (h0_generator, .inr (5, [.ref h0_sha, .ref h0_generator_key, .ref h0_generator_value, .ref h0_generator_message, .int c_generator_begun_7, .int c_generator_requests])), (h0_generator_key, .inl (cy 0, 32, .inl c_generator_key_8)), (h0_generator_value, .inl (cy 0, 32, .inl c_generator_value_9)), (h0_words, .inr (3, [.ref h0_words_kept, .int c_words_count_1, .int c_words_healthy_2, .int c_words_last, .int c_words_row_4, .int c_words_first, .int c_words_placeInWindow_3, .int c_words_timesInWindow_5])), (h0_words_kept, .inl (cy 1, 64, .inl c_words_kept_6))]) H := hP
  replace hD : va_D A ([(h0, .inr (11, [.ref h0_buffer, .ref h0_slots, .ref h0_counters, .ref h0_officerPin, .ref h0_userPin, .ref h0_words, .ref h0_sha, .ref h0_stream, .ref h0_aes, .ref h0_modes, .ref h0_gcm, .ref h0_generator, .ref h0_tests, .ref h0_message, .ref h0_secret, .int (0 : Int32), .int (0 : Int32), .int c_faults, .int (0 : Int32)])), (h0_buffer, .inl (cy 0, 512, .inl c_buffer_12)), (h0_generator, .inr (5, [.ref h0_sha, .ref h0_generator_key, .ref h0_generator_value, .ref h0_generator_message, .int c_generator_begun_7, .int c_generator_requests])), (h0_generator_key, .inl (cy 0, 32, .inl c_generator_key_8)), (h0_generator_value, .inl (cy 0, 32, .inl c_generator_value_9)), (h0_words, .inr (3, [.ref h0_words_kept, .int c_words_count_1, .int c_words_healthy_2, .int c_words_last, .int c_words_row_4, .int c_words_first, .int c_words_placeInWindow_3, .int c_words_timesInWindow_5])), (h0_words_kept, .inl (cy 1, 64, .inl c_words_kept_6))]) := hD
  refine lv_aload_n (pc := 41) hx hb (zdt_at zt_X9_power_0 21 rfl) rfl (lv_at hl 0 rfl) ?_
  refine lv_iconst (pc := 42) (v := (0 : Int32)) hx hb (zdt_at zt_X9_power_0 22 rfl) (by decide) ?_
  refine va_put (pc := 43) (D := D) (ci := 11) (v := .int (0 : Int32)) (ty := .int) (C := RX9) (T := TX9) (N := 19) hx hb hts hcX9 tyX9 tyX9_ok nmX9 hown hK hP hD hS 0 rfl rfl 17 (by decide) hw6 (fun _ h9 => h9) rfl (by decide +kernel) rfl rfl (Nat.le_of_ble_eq_true rfl) (zdt_at zt_X9_power_0 23 rfl) ?_
  clear hP hD hS
  intro H locs hP hD hS
  replace hP : va_P D vwCl ([(h0, .inr (11, [.ref h0_buffer, .ref h0_slots, .ref h0_counters, .ref h0_officerPin, .ref h0_userPin, .ref h0_words, .ref h0_sha, .ref h0_stream, .ref h0_aes, .ref h0_modes, .ref h0_gcm, .ref h0_generator, .ref h0_tests, .ref h0_message, .ref h0_secret, .int (0 : Int32), .int (0 : Int32), .int (0 : Int32), .int (0 : Int32)])), (h0_buffer, .inl (cy 0, 512, .inl c_buffer_12)), (h0_generator, .inr (5, [.ref h0_sha, .ref h0_generator_key, .ref h0_generator_value, .ref h0_generator_message, .int c_generator_begun_7, .int c_generator_requests])), (h0_generator_key, .inl (cy 0, 32, .inl c_generator_key_8)), (h0_generator_value, .inl (cy 0, 32, .inl c_generator_value_9)), (h0_words, .inr (3, [.ref h0_words_kept, .int c_words_count_1, .int c_words_healthy_2, .int c_words_last, .int c_words_row_4, .int c_words_first, .int c_words_placeInWindow_3, .int c_words_timesInWindow_5])), (h0_words_kept, .inl (cy 1, 64, .inl c_words_kept_6))]) H := hP
  replace hD : va_D A ([(h0, .inr (11, [.ref h0_buffer, .ref h0_slots, .ref h0_counters, .ref h0_officerPin, .ref h0_userPin, .ref h0_words, .ref h0_sha, .ref h0_stream, .ref h0_aes, .ref h0_modes, .ref h0_gcm, .ref h0_generator, .ref h0_tests, .ref h0_message, .ref h0_secret, .int (0 : Int32), .int (0 : Int32), .int (0 : Int32), .int (0 : Int32)])), (h0_buffer, .inl (cy 0, 512, .inl c_buffer_12)), (h0_generator, .inr (5, [.ref h0_sha, .ref h0_generator_key, .ref h0_generator_value, .ref h0_generator_message, .int c_generator_begun_7, .int c_generator_requests])), (h0_generator_key, .inl (cy 0, 32, .inl c_generator_key_8)), (h0_generator_value, .inl (cy 0, 32, .inl c_generator_value_9)), (h0_words, .inr (3, [.ref h0_words_kept, .int c_words_count_1, .int c_words_healthy_2, .int c_words_last, .int c_words_row_4, .int c_words_first, .int c_words_placeInWindow_3, .int c_words_timesInWindow_5])), (h0_words_kept, .inl (cy 1, 64, .inl c_words_kept_6))]) := hD
  refine lv_aload_n (pc := 46) hx hb (zdt_at zt_X9_power_0 24 rfl) rfl (lv_at hl 0 rfl) ?_
  refine lv_iconst (pc := 47) (v := (1 : Int32)) hx hb (zdt_at zt_X9_power_0 25 rfl) (by decide) ?_
  refine va_put (pc := 48) (D := D) (ci := 11) (v := .int (1 : Int32)) (ty := .int) (C := RX9) (T := TX9) (N := 19) hx hb hts hcX9 tyX9 tyX9_ok nmX9 hown hK hP hD hS 0 rfl rfl 15 (by decide) hw3 (fun _ h9 => h9) rfl (by decide +kernel) rfl rfl (Nat.le_of_ble_eq_true rfl) (zdt_at zt_X9_power_0 26 rfl) ?_
  clear hP hD hS
  intro H locs hP hD hS
  replace hP : va_P D vwCl ([(h0, .inr (11, [.ref h0_buffer, .ref h0_slots, .ref h0_counters, .ref h0_officerPin, .ref h0_userPin, .ref h0_words, .ref h0_sha, .ref h0_stream, .ref h0_aes, .ref h0_modes, .ref h0_gcm, .ref h0_generator, .ref h0_tests, .ref h0_message, .ref h0_secret, .int (1 : Int32), .int (0 : Int32), .int (0 : Int32), .int (0 : Int32)])), (h0_buffer, .inl (cy 0, 512, .inl c_buffer_12)), (h0_generator, .inr (5, [.ref h0_sha, .ref h0_generator_key, .ref h0_generator_value, .ref h0_generator_message, .int c_generator_begun_7, .int c_generator_requests])), (h0_generator_key, .inl (cy 0, 32, .inl c_generator_key_8)), (h0_generator_value, .inl (cy 0, 32, .inl c_generator_value_9)), (h0_words, .inr (3, [.ref h0_words_kept, .int c_words_count_1, .int c_words_healthy_2, .int c_words_last, .int c_words_row_4, .int c_words_first, .int c_words_placeInWindow_3, .int c_words_timesInWindow_5])), (h0_words_kept, .inl (cy 1, 64, .inl c_words_kept_6))]) H := hP
  replace hD : va_D A ([(h0, .inr (11, [.ref h0_buffer, .ref h0_slots, .ref h0_counters, .ref h0_officerPin, .ref h0_userPin, .ref h0_words, .ref h0_sha, .ref h0_stream, .ref h0_aes, .ref h0_modes, .ref h0_gcm, .ref h0_generator, .ref h0_tests, .ref h0_message, .ref h0_secret, .int (1 : Int32), .int (0 : Int32), .int (0 : Int32), .int (0 : Int32)])), (h0_buffer, .inl (cy 0, 512, .inl c_buffer_12)), (h0_generator, .inr (5, [.ref h0_sha, .ref h0_generator_key, .ref h0_generator_value, .ref h0_generator_message, .int c_generator_begun_7, .int c_generator_requests])), (h0_generator_key, .inl (cy 0, 32, .inl c_generator_key_8)), (h0_generator_value, .inl (cy 0, 32, .inl c_generator_value_9)), (h0_words, .inr (3, [.ref h0_words_kept, .int c_words_count_1, .int c_words_healthy_2, .int c_words_last, .int c_words_row_4, .int c_words_first, .int c_words_placeInWindow_3, .int c_words_timesInWindow_5])), (h0_words_kept, .inl (cy 1, 64, .inl c_words_kept_6))]) := hD
  refine lv_aload_n (pc := 51) hx hb (zdt_at zt_X9_power_0 27 rfl) rfl (lv_at hl 0 rfl) ?_
  refine va_get (pc := 52) (D := D) (ci := 11) (v := .int (1 : Int32)) (C := RX9) (T := TX9) (N := 19) hx hb hts hcX9 hown hK hP 0 rfl rfl 15 (by decide) hw3 (fun _ h9 => h9) rfl (zdt_at zt_X9_power_0 28 rfl) ?_
  cases hf
  exact W.iret (pc := 55) hx hb hr (fun t ht hW => ⟨rfl, ⟨by rw [ht]; exact hP, hD⟩, hS.F ht⟩) hS.2.2 (zdt_at zt_X9_power_0 29 rfl)
set_option maxHeartbeats 4000000 in
set_option maxRecDepth 100000 in
theorem c_X9_takeTestResult (l : Launch) (D : va_G) (cy : Nat → ClassId) (tt : Nat → Nat) (sz : Nat) (h0 : Nat) (h0_buffer : Nat) (h0_slots : Nat) (h0_counters : Nat) (h0_officerPin : Nat) (h0_userPin : Nat) (h0_words : Nat) (h0_sha : Nat) (h0_stream : Nat) (h0_aes : Nat) (h0_modes : Nat) (h0_gcm : Nat) (h0_generator : Nat) (h0_tests : Nat) (h0_message : Nat) (h0_secret : Nat) (p1 : Int32) (c_state : Int32) (c_testsDone : Int32) (c_counters : Nat → Int32) (c_faults : Int32) (c_streamBegun : Int32) (c_state' : Int32) (c_testsDone' : Int32) (c_counters' : Nat → Int32) (hf : f_X9_takeTestResult p1 c_state c_testsDone c_counters = some (c_state', c_testsDone', c_counters')) : Met l yX9_takeTestResult wsX9_takeTestResult ({ frames := 0, cells := 0, slots := 0, locals := 0 }) (zPc D cy tt sz [.ref h0, .int p1] ([(h0, .inr (11, [.ref h0_buffer, .ref h0_slots, .ref h0_counters, .ref h0_officerPin, .ref h0_userPin, .ref h0_words, .ref h0_sha, .ref h0_stream, .ref h0_aes, .ref h0_modes, .ref h0_gcm, .ref h0_generator, .ref h0_tests, .ref h0_message, .ref h0_secret, .int c_state, .int c_testsDone, .int c_faults, .int c_streamBegun])), (h0_counters, .inl (cy 1, 3, .inl c_counters))])) (zQ D none ([(h0, .inr (11, [.ref h0_buffer, .ref h0_slots, .ref h0_counters, .ref h0_officerPin, .ref h0_userPin, .ref h0_words, .ref h0_sha, .ref h0_stream, .ref h0_aes, .ref h0_modes, .ref h0_gcm, .ref h0_generator, .ref h0_tests, .ref h0_message, .ref h0_secret, .int c_state', .int c_testsDone', .int c_faults, .int c_streamBegun])), (h0_counters, .inl (cy 1, 3, .inl c_counters'))]) (va_A ([(h0, .inr (11, [.ref h0_buffer, .ref h0_slots, .ref h0_counters, .ref h0_officerPin, .ref h0_userPin, .ref h0_words, .ref h0_sha, .ref h0_stream, .ref h0_aes, .ref h0_modes, .ref h0_gcm, .ref h0_generator, .ref h0_tests, .ref h0_message, .ref h0_secret, .int c_state, .int c_testsDone, .int c_faults, .int c_streamBegun])), (h0_counters, .inl (cy 1, 3, .inl c_counters))]) sz)) 0 0 (va_A ([(h0, .inr (11, [.ref h0_buffer, .ref h0_slots, .ref h0_counters, .ref h0_officerPin, .ref h0_userPin, .ref h0_words, .ref h0_sha, .ref h0_stream, .ref h0_aes, .ref h0_modes, .ref h0_gcm, .ref h0_generator, .ref h0_tests, .ref h0_message, .ref h0_secret, .int c_state, .int c_testsDone, .int c_faults, .int c_streamBegun])), (h0_counters, .inl (cy 1, 3, .inl c_counters))]) sz) := by
  refine Met.ofW (cc := cX9_takeTestResult) (maxL := 2) (ret := none) (by decide) rfl ?_
  intro p e s m args below meth c s₁ B hml hv
  obtain ⟨rfl, rfl, hP, hD0, hE⟩ := hv
  have hx := B.exec
  have hb := B.bytes
  have hr := B.returns
  have hts := atoms_spec (ws := wsX9_takeTestResult) B.pre
  have hown : s.vm.findClass RX9 = some m.cls := findClass_of_methodNamed B.named
  have hlocks := B.notSynchronized
  clear B
  have hD := hD0.self (sz := s.heap.size)
  generalize hAe : va_A ([(h0, .inr (11, [.ref h0_buffer, .ref h0_slots, .ref h0_counters, .ref h0_officerPin, .ref h0_userPin, .ref h0_words, .ref h0_sha, .ref h0_stream, .ref h0_aes, .ref h0_modes, .ref h0_gcm, .ref h0_generator, .ref h0_tests, .ref h0_message, .ref h0_secret, .int c_state, .int c_testsDone, .int c_faults, .int c_streamBegun])), (h0_counters, .inl (cy 1, 3, .inl c_counters))]) s.heap.size = A at hD hE ⊢
  have hA : ∀ q : Nat, s.heap.size ≤ q → A q := fun q h => by rw [← hAe]; exact Or.inr h
  clear hAe hD0
  have hS : va_S A s.heap s.heap [] := va_S.rf
  have hK := hE.1
  have hw0 := hts (.fieldLink RX9 105 "SealedModule" "testsDone" "I") (by decide +kernel)
  have hw1 := hts (.fieldLink RX9 101 "SealedModule" "state" "I") (by decide +kernel)
  have hw2 := hts (.fieldLink RX9 19 "SealedModule" "counters" "[I") (by decide +kernel)
  have hcX9 : ∀ w ∈ u_ws RX9 TX9 19, w ∈ wsX9_takeTestResult := (fun _ h => List.mem_cons_of_mem _ (List.mem_append_right _ h))
  have hl := lv_entry ([.ref h0, .int p1]) (n := 2) (Nat.le_of_ble_eq_true rfl)
  rw [lg_entry_eq]
  generalize (lg_sl ([.ref h0, .int p1]) ++ List.replicate (2 - (lg_sl ([.ref h0, .int p1])).length) Slot.unset).toArray = ls at hl ⊢
  replace hl : lv_has ls 2 [(0, .ref h0), (1, .int p1)] := hl
  unfold f_X9_takeTestResult at hf
  refine zgo (fun GW hTo hFr => ?_)
  refine hFr _ _ _ ?_
  obtain ⟨H, hHe⟩ : ∃ H, H = s.heap := ⟨_, rfl⟩
  obtain ⟨locs, hLe⟩ : ∃ L : List Loc, L = [] := ⟨_, rfl⟩
  rw [← hHe] at hP
  replace hS : va_S A s.heap H locs := by rw [hHe, hLe]; exact hS
  refine zat hHe.symm hLe.symm ?_
  clear hHe hLe
  refine lv_iload_n (pc := 0) hx hb (zdt_at zt_X9_takeTestResult_0 0 rfl) rfl (lv_at hl 1 rfl) ?_
  refine lv_if_ne (pc := 1) (tgt := 20) hx hb (zdt_at zt_X9_takeTestResult_0 1 rfl) (by decide) (fun cn_ => ?t_1) (fun cn_ => ?f_2)
  case f_2 =>
    replace hf := zt_s cn_ hf
    clear cn_
    refine lv_aload_n (pc := 4) hx hb (zdt_at zt_X9_takeTestResult_0 2 rfl) rfl (lv_at hl 0 rfl) ?_
    refine va_get (pc := 5) (D := D) (ci := 11) (v := .ref h0_counters) (C := RX9) (T := TX9) (N := 19) hx hb hts hcX9 hown hK hP 0 rfl rfl 2 (by decide) hw2 (fun _ h9 => h9) rfl (zdt_at zt_X9_takeTestResult_0 3 rfl) ?_
    refine lv_iconst (pc := 8) (v := (2 : Int32)) hx hb (zdt_at zt_X9_takeTestResult_0 4 rfl) (by decide) ?_
    refine lv_dup2_11 (pc := 9) hx hb (zdt_at zt_X9_takeTestResult_0 5 rfl) rfl rfl ?_
    replace hf := zk_s hf
    refine va_iald (pc := 10) hx hb hK hP 1 1 rfl rfl hf.1 (zdt_at zt_X9_takeTestResult_0 6 rfl) ?_
    replace hf := hf.2
    refine lv_iconst (pc := 11) (v := (1 : Int32)) hx hb (zdt_at zt_X9_takeTestResult_0 7 rfl) (by decide) ?_
    refine lv_iadd (pc := 12) hx hb (zdt_at zt_X9_takeTestResult_0 8 rfl) ?_
    replace hf := zk_s hf
    refine va_iast (pc := 13) hx hb hK hP hD hS 1 1 rfl rfl hf.1 (zdt_at zt_X9_takeTestResult_0 9 rfl) ?_
    replace hf := hf.2
    clear hP hD hS
    intro H locs hP hD hS
    obtain ⟨c_counters_6, e_⟩ : ∃ q : Nat → Int32, q = (upd c_counters (2 : Int32).toNatClampNeg ((c_counters (2 : Int32).toNatClampNeg) + (1 : Int32))) := ⟨_, rfl⟩
    replace hf := zn_s hf e_
    replace hP : va_P D vwCl ([(h0, .inr (11, [.ref h0_buffer, .ref h0_slots, .ref h0_counters, .ref h0_officerPin, .ref h0_userPin, .ref h0_words, .ref h0_sha, .ref h0_stream, .ref h0_aes, .ref h0_modes, .ref h0_gcm, .ref h0_generator, .ref h0_tests, .ref h0_message, .ref h0_secret, .int c_state, .int c_testsDone, .int c_faults, .int c_streamBegun])), (h0_counters, .inl (cy 1, 3, .inl c_counters_6))]) H := by rw [e_]; exact hP
    replace hD : va_D A ([(h0, .inr (11, [.ref h0_buffer, .ref h0_slots, .ref h0_counters, .ref h0_officerPin, .ref h0_userPin, .ref h0_words, .ref h0_sha, .ref h0_stream, .ref h0_aes, .ref h0_modes, .ref h0_gcm, .ref h0_generator, .ref h0_tests, .ref h0_message, .ref h0_secret, .int c_state, .int c_testsDone, .int c_faults, .int c_streamBegun])), (h0_counters, .inl (cy 1, 3, .inl c_counters_6))]) := by rw [e_]; exact hD
    clear e_
    refine lv_aload_n (pc := 14) hx hb (zdt_at zt_X9_takeTestResult_0 10 rfl) rfl (lv_at hl 0 rfl) ?_
    refine lv_iconst (pc := 15) (v := (5 : Int32)) hx hb (zdt_at zt_X9_takeTestResult_0 11 rfl) (by decide) ?_
    refine va_put (pc := 16) (D := D) (ci := 11) (v := .int (5 : Int32)) (ty := .int) (C := RX9) (T := TX9) (N := 19) hx hb hts hcX9 tyX9 tyX9_ok nmX9 hown hK hP hD hS 0 rfl rfl 15 (by decide) hw1 (fun _ h9 => h9) rfl (by decide +kernel) rfl rfl (Nat.le_of_ble_eq_true rfl) (zdt_at zt_X9_takeTestResult_0 12 rfl) ?_
    clear hP hD hS
    intro H locs hP hD hS
    replace hP : va_P D vwCl ([(h0, .inr (11, [.ref h0_buffer, .ref h0_slots, .ref h0_counters, .ref h0_officerPin, .ref h0_userPin, .ref h0_words, .ref h0_sha, .ref h0_stream, .ref h0_aes, .ref h0_modes, .ref h0_gcm, .ref h0_generator, .ref h0_tests, .ref h0_message, .ref h0_secret, .int (5 : Int32), .int c_testsDone, .int c_faults, .int c_streamBegun])), (h0_counters, .inl (cy 1, 3, .inl c_counters_6))]) H := hP
    replace hD : va_D A ([(h0, .inr (11, [.ref h0_buffer, .ref h0_slots, .ref h0_counters, .ref h0_officerPin, .ref h0_userPin, .ref h0_words, .ref h0_sha, .ref h0_stream, .ref h0_aes, .ref h0_modes, .ref h0_gcm, .ref h0_generator, .ref h0_tests, .ref h0_message, .ref h0_secret, .int (5 : Int32), .int c_testsDone, .int c_faults, .int c_streamBegun])), (h0_counters, .inl (cy 1, 3, .inl c_counters_6))]) := hD
    cases hf
    exact W.vret (pc := 19) hx hb hr (fun t ht hW => ⟨rfl, ⟨by rw [ht]; exact hP, hD⟩, hS.F ht⟩) hS.2.2 (zdt_at zt_X9_takeTestResult_0 13 rfl)
  replace hf := ze_s cn_ hf
  clear cn_
  refine lv_aload_n (pc := 20) hx hb (zdt_at zt_X9_takeTestResult_0 14 rfl) rfl (lv_at hl 0 rfl) ?_
  refine lv_dup (pc := 21) hx hb (zdt_at zt_X9_takeTestResult_0 15 rfl) rfl ?_
  refine va_get (pc := 22) (D := D) (ci := 11) (v := .int c_testsDone) (C := RX9) (T := TX9) (N := 19) hx hb hts hcX9 hown hK hP 0 rfl rfl 16 (by decide) hw0 (fun _ h9 => h9) rfl (zdt_at zt_X9_takeTestResult_0 16 rfl) ?_
  refine lv_iconst (pc := 25) (v := (1 : Int32)) hx hb (zdt_at zt_X9_takeTestResult_0 17 rfl) (by decide) ?_
  refine lv_iadd (pc := 26) hx hb (zdt_at zt_X9_takeTestResult_0 18 rfl) ?_
  refine lv_topi (fun x_3 e_ => ?_)
  replace hf := zn_s hf e_
  clear e_
  refine va_put (pc := 27) (D := D) (ci := 11) (v := .int x_3) (ty := .int) (C := RX9) (T := TX9) (N := 19) hx hb hts hcX9 tyX9 tyX9_ok nmX9 hown hK hP hD hS 0 rfl rfl 16 (by decide) hw0 (fun _ h9 => h9) rfl (by decide +kernel) rfl rfl (Nat.le_of_ble_eq_true rfl) (zdt_at zt_X9_takeTestResult_0 19 rfl) ?_
  clear hP hD hS
  intro H locs hP hD hS
  replace hP : va_P D vwCl ([(h0, .inr (11, [.ref h0_buffer, .ref h0_slots, .ref h0_counters, .ref h0_officerPin, .ref h0_userPin, .ref h0_words, .ref h0_sha, .ref h0_stream, .ref h0_aes, .ref h0_modes, .ref h0_gcm, .ref h0_generator, .ref h0_tests, .ref h0_message, .ref h0_secret, .int c_state, .int x_3, .int c_faults, .int c_streamBegun])), (h0_counters, .inl (cy 1, 3, .inl c_counters))]) H := hP
  replace hD : va_D A ([(h0, .inr (11, [.ref h0_buffer, .ref h0_slots, .ref h0_counters, .ref h0_officerPin, .ref h0_userPin, .ref h0_words, .ref h0_sha, .ref h0_stream, .ref h0_aes, .ref h0_modes, .ref h0_gcm, .ref h0_generator, .ref h0_tests, .ref h0_message, .ref h0_secret, .int c_state, .int x_3, .int c_faults, .int c_streamBegun])), (h0_counters, .inl (cy 1, 3, .inl c_counters))]) := hD
  refine lv_aload_n (pc := 30) hx hb (zdt_at zt_X9_takeTestResult_0 20 rfl) rfl (lv_at hl 0 rfl) ?_
  refine va_get (pc := 31) (D := D) (ci := 11) (v := .int x_3) (C := RX9) (T := TX9) (N := 19) hx hb hts hcX9 hown hK hP 0 rfl rfl 16 (by decide) hw0 (fun _ h9 => h9) rfl (zdt_at zt_X9_takeTestResult_0 21 rfl) ?_
  refine lv_bipush (pc := 34) (v := (10 : Int32)) hx hb (zdt_at zt_X9_takeTestResult_0 22 rfl) (by decide) ?_
  refine lv_icmp_ne (pc := 36) (tgt := 44) hx hb (zdt_at zt_X9_takeTestResult_0 23 rfl) (by decide) (fun cn_ => ?t_4) (fun cn_ => ?f_5)
  case t_4 =>
    replace hf := ze_s cn_ hf
    clear cn_
    cases hf
    exact W.vret (pc := 44) hx hb hr (fun t ht hW => ⟨rfl, ⟨by rw [ht]; exact hP, hD⟩, hS.F ht⟩) hS.2.2 (zdt_at zt_X9_takeTestResult_0 27 rfl)
  replace hf := zt_s cn_ hf
  clear cn_
  refine lv_aload_n (pc := 39) hx hb (zdt_at zt_X9_takeTestResult_0 24 rfl) rfl (lv_at hl 0 rfl) ?_
  refine lv_iconst (pc := 40) (v := (2 : Int32)) hx hb (zdt_at zt_X9_takeTestResult_0 25 rfl) (by decide) ?_
  refine va_put (pc := 41) (D := D) (ci := 11) (v := .int (2 : Int32)) (ty := .int) (C := RX9) (T := TX9) (N := 19) hx hb hts hcX9 tyX9 tyX9_ok nmX9 hown hK hP hD hS 0 rfl rfl 15 (by decide) hw1 (fun _ h9 => h9) rfl (by decide +kernel) rfl rfl (Nat.le_of_ble_eq_true rfl) (zdt_at zt_X9_takeTestResult_0 26 rfl) ?_
  clear hP hD hS
  intro H locs hP hD hS
  replace hP : va_P D vwCl ([(h0, .inr (11, [.ref h0_buffer, .ref h0_slots, .ref h0_counters, .ref h0_officerPin, .ref h0_userPin, .ref h0_words, .ref h0_sha, .ref h0_stream, .ref h0_aes, .ref h0_modes, .ref h0_gcm, .ref h0_generator, .ref h0_tests, .ref h0_message, .ref h0_secret, .int (2 : Int32), .int x_3, .int c_faults, .int c_streamBegun])), (h0_counters, .inl (cy 1, 3, .inl c_counters))]) H := hP
  replace hD : va_D A ([(h0, .inr (11, [.ref h0_buffer, .ref h0_slots, .ref h0_counters, .ref h0_officerPin, .ref h0_userPin, .ref h0_words, .ref h0_sha, .ref h0_stream, .ref h0_aes, .ref h0_modes, .ref h0_gcm, .ref h0_generator, .ref h0_tests, .ref h0_message, .ref h0_secret, .int (2 : Int32), .int x_3, .int c_faults, .int c_streamBegun])), (h0_counters, .inl (cy 1, 3, .inl c_counters))]) := hD
  cases hf
  exact W.vret (pc := 44) hx hb hr (fun t ht hW => ⟨rfl, ⟨by rw [ht]; exact hP, hD⟩, hS.F ht⟩) hS.2.2 (zdt_at zt_X9_takeTestResult_0 27 rfl)
set_option maxHeartbeats 4000000 in
set_option maxRecDepth 100000 in
theorem c_X9_selfTestStep (l : Launch) (D : va_G) (cy : Nat → ClassId) (tt : Nat → Nat) (sz : Nat) (h0 : Nat) (h0_buffer : Nat) (h0_slots : Nat) (h0_counters : Nat) (h0_officerPin : Nat) (h0_userPin : Nat) (h0_words : Nat) (h0_sha : Nat) (h0_stream : Nat) (h0_aes : Nat) (h0_modes : Nat) (h0_gcm : Nat) (h0_generator : Nat) (h0_tests : Nat) (h0_message : Nat) (h0_secret : Nat) (h0_aes_keys : Nat) (h0_gcm_tag : Nat) (h0_modes_block : Nat) (h0_modes_pad : Nat) (h0_sha_sums : Nat) (h0_sha_schedule : Nat) (h0_sha_inner : Nat) (h0_tests_generator : Nat) (h0_tests_key : Nat) (h0_tests_work : Nat) (h0_tests_generator_key : Nat) (h0_tests_generator_value : Nat) (h0_tests_generator_message : Nat) (p1 : Int32) (c_faults : Int32) (c_state : Int32) (c_testsDone : Int32) (c_aes_rounds : Int32) (c_aes_keys : Nat → Int32) (c_counters : Nat → Int32) (c_gcm_keyHigh : Int64) (c_gcm_keyLow : Int64) (c_gcm_sumHigh : Int64) (c_gcm_sumLow : Int64) (c_gcm_tag : Nat → Int32) (c_modes_block : Nat → Int32) (c_modes_pad : Nat → Int32) (c_sha_filled : Int32) (c_sha_total : Int32) (c_sha_inner : Nat → Int32) (c_sha_schedule : Nat → Int32) (c_sha_sums : Nat → Int32) (c_tests_generator_begun : Int32) (c_tests_generator_requests : Int32) (c_tests_generator_key : Nat → Int32) (c_tests_generator_message : Nat → Int32) (c_tests_generator_value : Nat → Int32) (c_tests_key : Nat → Int32) (c_tests_work : Nat → Int32) (c_streamBegun : Int32) (r_ : Int32) (c_state' : Int32) (c_testsDone' : Int32) (c_aes_rounds' : Int32) (c_aes_keys' : Nat → Int32) (c_counters' : Nat → Int32) (c_gcm_keyHigh' : Int64) (c_gcm_keyLow' : Int64) (c_gcm_sumHigh' : Int64) (c_gcm_sumLow' : Int64) (c_gcm_tag' : Nat → Int32) (c_modes_block' : Nat → Int32) (c_modes_pad' : Nat → Int32) (c_sha_filled' : Int32) (c_sha_total' : Int32) (c_sha_inner' : Nat → Int32) (c_sha_schedule' : Nat → Int32) (c_sha_sums' : Nat → Int32) (c_tests_generator_begun' : Int32) (c_tests_generator_requests' : Int32) (c_tests_generator_key' : Nat → Int32) (c_tests_generator_message' : Nat → Int32) (c_tests_generator_value' : Nat → Int32) (c_tests_key' : Nat → Int32) (c_tests_work' : Nat → Int32) (hf : f_X9_selfTestStep p1 c_faults c_state c_testsDone c_aes_rounds c_aes_keys c_counters c_gcm_keyHigh c_gcm_keyLow c_gcm_sumHigh c_gcm_sumLow c_gcm_tag c_modes_block c_modes_pad c_sha_filled c_sha_total c_sha_inner c_sha_schedule c_sha_sums c_tests_generator_begun c_tests_generator_requests c_tests_generator_key c_tests_generator_message c_tests_generator_value c_tests_key c_tests_work = some (r_, c_state', c_testsDone', c_aes_rounds', c_aes_keys', c_counters', c_gcm_keyHigh', c_gcm_keyLow', c_gcm_sumHigh', c_gcm_sumLow', c_gcm_tag', c_modes_block', c_modes_pad', c_sha_filled', c_sha_total', c_sha_inner', c_sha_schedule', c_sha_sums', c_tests_generator_begun', c_tests_generator_requests', c_tests_generator_key', c_tests_generator_message', c_tests_generator_value', c_tests_key', c_tests_work')) : Met l yX9_selfTestStep wsX9_selfTestStep ({ frames := 8, cells := 0, slots := 0, locals := 206 }) (zPc D cy tt sz [.ref h0, .int p1] ([(h0, .inr (11, [.ref h0_buffer, .ref h0_slots, .ref h0_counters, .ref h0_officerPin, .ref h0_userPin, .ref h0_words, .ref h0_sha, .ref h0_stream, .ref h0_aes, .ref h0_modes, .ref h0_gcm, .ref h0_generator, .ref h0_tests, .ref h0_message, .ref h0_secret, .int c_state, .int c_testsDone, .int c_faults, .int c_streamBegun])), (h0_aes, .inr (2, [.ref h0_aes_keys, .int c_aes_rounds])), (h0_aes_keys, .inl (cy 1, 60, .inl c_aes_keys)), (h0_counters, .inl (cy 1, 3, .inl c_counters)), (h0_gcm, .inr (4, [.ref h0_aes, .ref h0_modes, .ref h0_gcm_tag, .long c_gcm_keyHigh, .long c_gcm_keyLow, .long c_gcm_sumHigh, .long c_gcm_sumLow])), (h0_gcm_tag, .inl (cy 0, 16, .inl c_gcm_tag)), (h0_modes, .inr (6, [.ref h0_aes, .ref h0_modes_block, .ref h0_modes_pad])), (h0_modes_block, .inl (cy 0, 16, .inl c_modes_block)), (h0_modes_pad, .inl (cy 0, 16, .inl c_modes_pad)), (h0_sha, .inr (9, [.ref h0_sha_sums, .ref h0_sha_schedule, .ref h0_sha_inner, .int c_sha_filled, .int c_sha_total])), (h0_sha_inner, .inl (cy 0, 32, .inl c_sha_inner)), (h0_sha_schedule, .inl (cy 1, 64, .inl c_sha_schedule)), (h0_sha_sums, .inl (cy 1, 8, .inl c_sha_sums)), (h0_tests, .inr (8, [.ref h0_aes, .ref h0_modes, .ref h0_gcm, .ref h0_sha, .ref h0_tests_generator, .ref h0_tests_key, .ref h0_tests_work])), (h0_tests_generator, .inr (5, [.ref h0_sha, .ref h0_tests_generator_key, .ref h0_tests_generator_value, .ref h0_tests_generator_message, .int c_tests_generator_begun, .int c_tests_generator_requests])), (h0_tests_generator_key, .inl (cy 0, 32, .inl c_tests_generator_key)), (h0_tests_generator_message, .inl (cy 0, 97, .inl c_tests_generator_message)), (h0_tests_generator_value, .inl (cy 0, 32, .inl c_tests_generator_value)), (h0_tests_key, .inl (cy 0, 32, .inl c_tests_key)), (h0_tests_work, .inl (cy 0, 64, .inl c_tests_work))])) (zQ D (some (.int r_)) ([(h0, .inr (11, [.ref h0_buffer, .ref h0_slots, .ref h0_counters, .ref h0_officerPin, .ref h0_userPin, .ref h0_words, .ref h0_sha, .ref h0_stream, .ref h0_aes, .ref h0_modes, .ref h0_gcm, .ref h0_generator, .ref h0_tests, .ref h0_message, .ref h0_secret, .int c_state', .int c_testsDone', .int c_faults, .int c_streamBegun])), (h0_aes, .inr (2, [.ref h0_aes_keys, .int c_aes_rounds'])), (h0_aes_keys, .inl (cy 1, 60, .inl c_aes_keys')), (h0_counters, .inl (cy 1, 3, .inl c_counters')), (h0_gcm, .inr (4, [.ref h0_aes, .ref h0_modes, .ref h0_gcm_tag, .long c_gcm_keyHigh', .long c_gcm_keyLow', .long c_gcm_sumHigh', .long c_gcm_sumLow'])), (h0_gcm_tag, .inl (cy 0, 16, .inl c_gcm_tag')), (h0_modes, .inr (6, [.ref h0_aes, .ref h0_modes_block, .ref h0_modes_pad])), (h0_modes_block, .inl (cy 0, 16, .inl c_modes_block')), (h0_modes_pad, .inl (cy 0, 16, .inl c_modes_pad')), (h0_sha, .inr (9, [.ref h0_sha_sums, .ref h0_sha_schedule, .ref h0_sha_inner, .int c_sha_filled', .int c_sha_total'])), (h0_sha_inner, .inl (cy 0, 32, .inl c_sha_inner')), (h0_sha_schedule, .inl (cy 1, 64, .inl c_sha_schedule')), (h0_sha_sums, .inl (cy 1, 8, .inl c_sha_sums')), (h0_tests, .inr (8, [.ref h0_aes, .ref h0_modes, .ref h0_gcm, .ref h0_sha, .ref h0_tests_generator, .ref h0_tests_key, .ref h0_tests_work])), (h0_tests_generator, .inr (5, [.ref h0_sha, .ref h0_tests_generator_key, .ref h0_tests_generator_value, .ref h0_tests_generator_message, .int c_tests_generator_begun', .int c_tests_generator_requests'])), (h0_tests_generator_key, .inl (cy 0, 32, .inl c_tests_generator_key')), (h0_tests_generator_message, .inl (cy 0, 97, .inl c_tests_generator_message')), (h0_tests_generator_value, .inl (cy 0, 32, .inl c_tests_generator_value')), (h0_tests_key, .inl (cy 0, 32, .inl c_tests_key')), (h0_tests_work, .inl (cy 0, 64, .inl c_tests_work'))]) (va_A ([(h0, .inr (11, [.ref h0_buffer, .ref h0_slots, .ref h0_counters, .ref h0_officerPin, .ref h0_userPin, .ref h0_words, .ref h0_sha, .ref h0_stream, .ref h0_aes, .ref h0_modes, .ref h0_gcm, .ref h0_generator, .ref h0_tests, .ref h0_message, .ref h0_secret, .int c_state, .int c_testsDone, .int c_faults, .int c_streamBegun])), (h0_aes, .inr (2, [.ref h0_aes_keys, .int c_aes_rounds])), (h0_aes_keys, .inl (cy 1, 60, .inl c_aes_keys)), (h0_counters, .inl (cy 1, 3, .inl c_counters)), (h0_gcm, .inr (4, [.ref h0_aes, .ref h0_modes, .ref h0_gcm_tag, .long c_gcm_keyHigh, .long c_gcm_keyLow, .long c_gcm_sumHigh, .long c_gcm_sumLow])), (h0_gcm_tag, .inl (cy 0, 16, .inl c_gcm_tag)), (h0_modes, .inr (6, [.ref h0_aes, .ref h0_modes_block, .ref h0_modes_pad])), (h0_modes_block, .inl (cy 0, 16, .inl c_modes_block)), (h0_modes_pad, .inl (cy 0, 16, .inl c_modes_pad)), (h0_sha, .inr (9, [.ref h0_sha_sums, .ref h0_sha_schedule, .ref h0_sha_inner, .int c_sha_filled, .int c_sha_total])), (h0_sha_inner, .inl (cy 0, 32, .inl c_sha_inner)), (h0_sha_schedule, .inl (cy 1, 64, .inl c_sha_schedule)), (h0_sha_sums, .inl (cy 1, 8, .inl c_sha_sums)), (h0_tests, .inr (8, [.ref h0_aes, .ref h0_modes, .ref h0_gcm, .ref h0_sha, .ref h0_tests_generator, .ref h0_tests_key, .ref h0_tests_work])), (h0_tests_generator, .inr (5, [.ref h0_sha, .ref h0_tests_generator_key, .ref h0_tests_generator_value, .ref h0_tests_generator_message, .int c_tests_generator_begun, .int c_tests_generator_requests])), (h0_tests_generator_key, .inl (cy 0, 32, .inl c_tests_generator_key)), (h0_tests_generator_message, .inl (cy 0, 97, .inl c_tests_generator_message)), (h0_tests_generator_value, .inl (cy 0, 32, .inl c_tests_generator_value)), (h0_tests_key, .inl (cy 0, 32, .inl c_tests_key)), (h0_tests_work, .inl (cy 0, 64, .inl c_tests_work))]) sz)) 0 0 (va_A ([(h0, .inr (11, [.ref h0_buffer, .ref h0_slots, .ref h0_counters, .ref h0_officerPin, .ref h0_userPin, .ref h0_words, .ref h0_sha, .ref h0_stream, .ref h0_aes, .ref h0_modes, .ref h0_gcm, .ref h0_generator, .ref h0_tests, .ref h0_message, .ref h0_secret, .int c_state, .int c_testsDone, .int c_faults, .int c_streamBegun])), (h0_aes, .inr (2, [.ref h0_aes_keys, .int c_aes_rounds])), (h0_aes_keys, .inl (cy 1, 60, .inl c_aes_keys)), (h0_counters, .inl (cy 1, 3, .inl c_counters)), (h0_gcm, .inr (4, [.ref h0_aes, .ref h0_modes, .ref h0_gcm_tag, .long c_gcm_keyHigh, .long c_gcm_keyLow, .long c_gcm_sumHigh, .long c_gcm_sumLow])), (h0_gcm_tag, .inl (cy 0, 16, .inl c_gcm_tag)), (h0_modes, .inr (6, [.ref h0_aes, .ref h0_modes_block, .ref h0_modes_pad])), (h0_modes_block, .inl (cy 0, 16, .inl c_modes_block)), (h0_modes_pad, .inl (cy 0, 16, .inl c_modes_pad)), (h0_sha, .inr (9, [.ref h0_sha_sums, .ref h0_sha_schedule, .ref h0_sha_inner, .int c_sha_filled, .int c_sha_total])), (h0_sha_inner, .inl (cy 0, 32, .inl c_sha_inner)), (h0_sha_schedule, .inl (cy 1, 64, .inl c_sha_schedule)), (h0_sha_sums, .inl (cy 1, 8, .inl c_sha_sums)), (h0_tests, .inr (8, [.ref h0_aes, .ref h0_modes, .ref h0_gcm, .ref h0_sha, .ref h0_tests_generator, .ref h0_tests_key, .ref h0_tests_work])), (h0_tests_generator, .inr (5, [.ref h0_sha, .ref h0_tests_generator_key, .ref h0_tests_generator_value, .ref h0_tests_generator_message, .int c_tests_generator_begun, .int c_tests_generator_requests])), (h0_tests_generator_key, .inl (cy 0, 32, .inl c_tests_generator_key)), (h0_tests_generator_message, .inl (cy 0, 97, .inl c_tests_generator_message)), (h0_tests_generator_value, .inl (cy 0, 32, .inl c_tests_generator_value)), (h0_tests_key, .inl (cy 0, 32, .inl c_tests_key)), (h0_tests_work, .inl (cy 0, 64, .inl c_tests_work))]) sz) := by
  refine Met.ofW (cc := cX9_selfTestStep) (maxL := 4) (ret := (some .int)) (by decide) rfl ?_
  intro p e s m args below meth c s₁ B hml hv
  obtain ⟨rfl, rfl, hP, hD0, hE⟩ := hv
  have hx := B.exec
  have hb := B.bytes
  have hr := B.returns
  have hts := atoms_spec (ws := wsX9_selfTestStep) B.pre
  have hown : s.vm.findClass RX9 = some m.cls := findClass_of_methodNamed B.named
  have hlocks := B.notSynchronized
  clear B
  have hD := hD0.self (sz := s.heap.size)
  generalize hAe : va_A ([(h0, .inr (11, [.ref h0_buffer, .ref h0_slots, .ref h0_counters, .ref h0_officerPin, .ref h0_userPin, .ref h0_words, .ref h0_sha, .ref h0_stream, .ref h0_aes, .ref h0_modes, .ref h0_gcm, .ref h0_generator, .ref h0_tests, .ref h0_message, .ref h0_secret, .int c_state, .int c_testsDone, .int c_faults, .int c_streamBegun])), (h0_aes, .inr (2, [.ref h0_aes_keys, .int c_aes_rounds])), (h0_aes_keys, .inl (cy 1, 60, .inl c_aes_keys)), (h0_counters, .inl (cy 1, 3, .inl c_counters)), (h0_gcm, .inr (4, [.ref h0_aes, .ref h0_modes, .ref h0_gcm_tag, .long c_gcm_keyHigh, .long c_gcm_keyLow, .long c_gcm_sumHigh, .long c_gcm_sumLow])), (h0_gcm_tag, .inl (cy 0, 16, .inl c_gcm_tag)), (h0_modes, .inr (6, [.ref h0_aes, .ref h0_modes_block, .ref h0_modes_pad])), (h0_modes_block, .inl (cy 0, 16, .inl c_modes_block)), (h0_modes_pad, .inl (cy 0, 16, .inl c_modes_pad)), (h0_sha, .inr (9, [.ref h0_sha_sums, .ref h0_sha_schedule, .ref h0_sha_inner, .int c_sha_filled, .int c_sha_total])), (h0_sha_inner, .inl (cy 0, 32, .inl c_sha_inner)), (h0_sha_schedule, .inl (cy 1, 64, .inl c_sha_schedule)), (h0_sha_sums, .inl (cy 1, 8, .inl c_sha_sums)), (h0_tests, .inr (8, [.ref h0_aes, .ref h0_modes, .ref h0_gcm, .ref h0_sha, .ref h0_tests_generator, .ref h0_tests_key, .ref h0_tests_work])), (h0_tests_generator, .inr (5, [.ref h0_sha, .ref h0_tests_generator_key, .ref h0_tests_generator_value, .ref h0_tests_generator_message, .int c_tests_generator_begun, .int c_tests_generator_requests])), (h0_tests_generator_key, .inl (cy 0, 32, .inl c_tests_generator_key)), (h0_tests_generator_message, .inl (cy 0, 97, .inl c_tests_generator_message)), (h0_tests_generator_value, .inl (cy 0, 32, .inl c_tests_generator_value)), (h0_tests_key, .inl (cy 0, 32, .inl c_tests_key)), (h0_tests_work, .inl (cy 0, 64, .inl c_tests_work))]) s.heap.size = A at hD hE ⊢
  have hA : ∀ q : Nat, s.heap.size ≤ q → A q := fun q h => by rw [← hAe]; exact Or.inr h
  clear hAe hD0
  have hS : va_S A s.heap s.heap [] := va_S.rf
  have hK := hE.1
  have hw0 := hts (.fieldLink RX9 101 "SealedModule" "state" "I") (by decide +kernel)
  have hw1 := hts (.fieldLink RX9 105 "SealedModule" "testsDone" "I") (by decide +kernel)
  have hw2 := hts (.fieldLink RX9 108 "SealedModule" "faults" "I") (by decide +kernel)
  have hw3 := hts (.fieldLink RX9 91 "SealedModule" "tests" "LSealedModule$SelfTests;") (by decide +kernel)
  have hcX9 : ∀ w ∈ u_ws RX9 TX9 19, w ∈ wsX9_selfTestStep := (fun _ h => List.mem_cons_of_mem _ (List.mem_append_left _ (List.mem_append_left _ (List.mem_append_left _ (List.mem_append_left _ (List.mem_append_left _ (List.mem_append_left _ (List.mem_append_left _ (List.mem_append_right _ h)))))))))
  have hl := lv_entry ([.ref h0, .int p1]) (n := 4) (Nat.le_of_ble_eq_true rfl)
  rw [lg_entry_eq]
  generalize (lg_sl ([.ref h0, .int p1]) ++ List.replicate (4 - (lg_sl ([.ref h0, .int p1])).length) Slot.unset).toArray = ls at hl ⊢
  replace hl : lv_has ls 4 [(0, .ref h0), (1, .int p1)] := hl
  unfold f_X9_selfTestStep at hf
  refine zgo (fun GW hTo hFr => ?_)
  refine hFr _ _ _ ?_
  obtain ⟨H, hHe⟩ : ∃ H, H = s.heap := ⟨_, rfl⟩
  obtain ⟨locs, hLe⟩ : ∃ L : List Loc, L = [] := ⟨_, rfl⟩
  rw [← hHe] at hP
  replace hS : va_S A s.heap H locs := by rw [hHe, hLe]; exact hS
  refine zat hHe.symm hLe.symm ?_
  clear hHe hLe
  refine lv_iload_n (pc := 0) hx hb (zdt_at zt_X9_selfTestStep_0 0 rfl) rfl (lv_at hl 1 rfl) ?_
  refine lv_if_lt (pc := 1) (tgt := 26) hx hb (zdt_at zt_X9_selfTestStep_0 1 rfl) (by decide) (fun cn_ => ?t_1) (fun cn_ => ?f_2)
  case t_1 =>
    replace hf := zt_s cn_ hf
    clear cn_
    refine lv_bipush (pc := 26) (v := (-2 : Int32)) hx hb (zdt_at zt_X9_selfTestStep_0 13 rfl) (by decide) ?_
    cases hf
    exact W.iret (pc := 28) hx hb hr (fun t ht hW => ⟨rfl, ⟨by rw [ht]; exact hP, hD⟩, hS.F ht⟩) hS.2.2 (zdt_at zt_X9_selfTestStep_0 14 rfl)
  replace hf := ze_s cn_ hf
  clear cn_
  refine lv_iload_n (pc := 4) hx hb (zdt_at zt_X9_selfTestStep_0 2 rfl) rfl (lv_at hl 1 rfl) ?_
  refine lv_bipush (pc := 5) (v := (10 : Int32)) hx hb (zdt_at zt_X9_selfTestStep_0 3 rfl) (by decide) ?_
  refine lv_icmp_gt (pc := 7) (tgt := 26) hx hb (zdt_at zt_X9_selfTestStep_0 4 rfl) (by decide) (fun cn_ => ?t_3) (fun cn_ => ?f_4)
  case t_3 =>
    replace hf := zt_s cn_ hf
    clear cn_
    refine lv_bipush (pc := 26) (v := (-2 : Int32)) hx hb (zdt_at zt_X9_selfTestStep_0 13 rfl) (by decide) ?_
    cases hf
    exact W.iret (pc := 28) hx hb hr (fun t ht hW => ⟨rfl, ⟨by rw [ht]; exact hP, hD⟩, hS.F ht⟩) hS.2.2 (zdt_at zt_X9_selfTestStep_0 14 rfl)
  replace hf := ze_s cn_ hf
  clear cn_
  refine lv_aload_n (pc := 10) hx hb (zdt_at zt_X9_selfTestStep_0 5 rfl) rfl (lv_at hl 0 rfl) ?_
  refine va_get (pc := 11) (D := D) (ci := 11) (v := .int c_state) (C := RX9) (T := TX9) (N := 19) hx hb hts hcX9 hown hK hP 0 rfl rfl 15 (by decide) hw0 (fun _ h9 => h9) rfl (zdt_at zt_X9_selfTestStep_0 6 rfl) ?_
  refine lv_iconst (pc := 14) (v := (1 : Int32)) hx hb (zdt_at zt_X9_selfTestStep_0 7 rfl) (by decide) ?_
  replace hf := zj_s hf
  obtain ⟨K_5, eK_5, hf⟩ := hf
  have kK_5 : ∀  (H : Heap) (locs : List Loc) (ls : Array Slot), va_P D vwCl ([(h0, .inr (11, [.ref h0_buffer, .ref h0_slots, .ref h0_counters, .ref h0_officerPin, .ref h0_userPin, .ref h0_words, .ref h0_sha, .ref h0_stream, .ref h0_aes, .ref h0_modes, .ref h0_gcm, .ref h0_generator, .ref h0_tests, .ref h0_message, .ref h0_secret, .int c_state, .int c_testsDone, .int c_faults, .int c_streamBegun])), (h0_aes, .inr (2, [.ref h0_aes_keys, .int c_aes_rounds])), (h0_aes_keys, .inl (cy 1, 60, .inl c_aes_keys)), (h0_counters, .inl (cy 1, 3, .inl c_counters)), (h0_gcm, .inr (4, [.ref h0_aes, .ref h0_modes, .ref h0_gcm_tag, .long c_gcm_keyHigh, .long c_gcm_keyLow, .long c_gcm_sumHigh, .long c_gcm_sumLow])), (h0_gcm_tag, .inl (cy 0, 16, .inl c_gcm_tag)), (h0_modes, .inr (6, [.ref h0_aes, .ref h0_modes_block, .ref h0_modes_pad])), (h0_modes_block, .inl (cy 0, 16, .inl c_modes_block)), (h0_modes_pad, .inl (cy 0, 16, .inl c_modes_pad)), (h0_sha, .inr (9, [.ref h0_sha_sums, .ref h0_sha_schedule, .ref h0_sha_inner, .int c_sha_filled, .int c_sha_total])), (h0_sha_inner, .inl (cy 0, 32, .inl c_sha_inner)), (h0_sha_schedule, .inl (cy 1, 64, .inl c_sha_schedule)), (h0_sha_sums, .inl (cy 1, 8, .inl c_sha_sums)), (h0_tests, .inr (8, [.ref h0_aes, .ref h0_modes, .ref h0_gcm, .ref h0_sha, .ref h0_tests_generator, .ref h0_tests_key, .ref h0_tests_work])), (h0_tests_generator, .inr (5, [.ref h0_sha, .ref h0_tests_generator_key, .ref h0_tests_generator_value, .ref h0_tests_generator_message, .int c_tests_generator_begun, .int c_tests_generator_requests])), (h0_tests_generator_key, .inl (cy 0, 32, .inl c_tests_generator_key)), (h0_tests_generator_message, .inl (cy 0, 97, .inl c_tests_generator_message)), (h0_tests_generator_value, .inl (cy 0, 32, .inl c_tests_generator_value)), (h0_tests_key, .inl (cy 0, 32, .inl c_tests_key)), (h0_tests_work, .inl (cy 0, 64, .inl c_tests_work))]) H → va_D A ([(h0, .inr (11, [.ref h0_buffer, .ref h0_slots, .ref h0_counters, .ref h0_officerPin, .ref h0_userPin, .ref h0_words, .ref h0_sha, .ref h0_stream, .ref h0_aes, .ref h0_modes, .ref h0_gcm, .ref h0_generator, .ref h0_tests, .ref h0_message, .ref h0_secret, .int c_state, .int c_testsDone, .int c_faults, .int c_streamBegun])), (h0_aes, .inr (2, [.ref h0_aes_keys, .int c_aes_rounds])), (h0_aes_keys, .inl (cy 1, 60, .inl c_aes_keys)), (h0_counters, .inl (cy 1, 3, .inl c_counters)), (h0_gcm, .inr (4, [.ref h0_aes, .ref h0_modes, .ref h0_gcm_tag, .long c_gcm_keyHigh, .long c_gcm_keyLow, .long c_gcm_sumHigh, .long c_gcm_sumLow])), (h0_gcm_tag, .inl (cy 0, 16, .inl c_gcm_tag)), (h0_modes, .inr (6, [.ref h0_aes, .ref h0_modes_block, .ref h0_modes_pad])), (h0_modes_block, .inl (cy 0, 16, .inl c_modes_block)), (h0_modes_pad, .inl (cy 0, 16, .inl c_modes_pad)), (h0_sha, .inr (9, [.ref h0_sha_sums, .ref h0_sha_schedule, .ref h0_sha_inner, .int c_sha_filled, .int c_sha_total])), (h0_sha_inner, .inl (cy 0, 32, .inl c_sha_inner)), (h0_sha_schedule, .inl (cy 1, 64, .inl c_sha_schedule)), (h0_sha_sums, .inl (cy 1, 8, .inl c_sha_sums)), (h0_tests, .inr (8, [.ref h0_aes, .ref h0_modes, .ref h0_gcm, .ref h0_sha, .ref h0_tests_generator, .ref h0_tests_key, .ref h0_tests_work])), (h0_tests_generator, .inr (5, [.ref h0_sha, .ref h0_tests_generator_key, .ref h0_tests_generator_value, .ref h0_tests_generator_message, .int c_tests_generator_begun, .int c_tests_generator_requests])), (h0_tests_generator_key, .inl (cy 0, 32, .inl c_tests_generator_key)), (h0_tests_generator_message, .inl (cy 0, 97, .inl c_tests_generator_message)), (h0_tests_generator_value, .inl (cy 0, 32, .inl c_tests_generator_value)), (h0_tests_key, .inl (cy 0, 32, .inl c_tests_key)), (h0_tests_work, .inl (cy 0, 64, .inl c_tests_work))]) → va_S A s.heap H locs → lv_has ls 4 [(0, .ref h0), (1, .int p1)] → K_5 () = some (r_, c_state', c_testsDone', c_aes_rounds', c_aes_keys', c_counters', c_gcm_keyHigh', c_gcm_keyLow', c_gcm_sumHigh', c_gcm_sumLow', c_gcm_tag', c_modes_block', c_modes_pad', c_sha_filled', c_sha_total', c_sha_inner', c_sha_schedule', c_sha_sums', c_tests_generator_begun', c_tests_generator_requests', c_tests_generator_key', c_tests_generator_message', c_tests_generator_value', c_tests_key', c_tests_work') → GW H locs (F0 m 29 ls []) := by
    clear hf hl hP hD hS
    intro  H locs ls hP hD hS hl hf
    rw [eK_5] at hf
    clear eK_5
    refine hFr _ _ _ ?_
    refine lv_iconst (pc := 29) (v := (0 : Int32)) hx hb (zdt_at zt_X9_selfTestStep_0 15 rfl) (by decide) ?_
    refine lv_istore_n (pc := 30) (lv' := [(2, .int (0 : Int32)), (0, .ref h0), (1, .int p1)]) hx hb (zdt_at zt_X9_selfTestStep_0 16 rfl) rfl hl (by decide) rfl ?_
    clear hl
    intro ls hl
    replace hf := zj_s hf
    obtain ⟨K_55, eK_55, hf⟩ := hf
    have kK_55 : ∀ (c_aes_keys_31 : Nat → Int32) (c_aes_rounds_32 : Int32) (c_counters_33 : Nat → Int32) (c_gcm_keyHigh_34 : Int64) (c_gcm_keyLow_35 : Int64) (c_gcm_sumHigh_36 : Int64) (c_gcm_sumLow_37 : Int64) (c_gcm_tag_38 : Nat → Int32) (c_modes_block_39 : Nat → Int32) (c_modes_pad_40 : Nat → Int32) (c_sha_filled_41 : Int32) (c_sha_inner_42 : Nat → Int32) (c_sha_schedule_43 : Nat → Int32) (c_sha_sums_44 : Nat → Int32) (c_sha_total_45 : Int32) (c_state_46 : Int32) (c_testsDone_47 : Int32) (c_tests_generator_begun_48 : Int32) (c_tests_generator_key_49 : Nat → Int32) (c_tests_generator_message_50 : Nat → Int32) (c_tests_generator_requests_51 : Int32) (c_tests_generator_value_52 : Nat → Int32) (c_tests_key_53 : Nat → Int32) (c_tests_work_54 : Nat → Int32) (H : Heap) (locs : List Loc) (ls : Array Slot), va_P D vwCl ([(h0, .inr (11, [.ref h0_buffer, .ref h0_slots, .ref h0_counters, .ref h0_officerPin, .ref h0_userPin, .ref h0_words, .ref h0_sha, .ref h0_stream, .ref h0_aes, .ref h0_modes, .ref h0_gcm, .ref h0_generator, .ref h0_tests, .ref h0_message, .ref h0_secret, .int c_state_46, .int c_testsDone_47, .int c_faults, .int c_streamBegun])), (h0_aes, .inr (2, [.ref h0_aes_keys, .int c_aes_rounds_32])), (h0_aes_keys, .inl (cy 1, 60, .inl c_aes_keys_31)), (h0_counters, .inl (cy 1, 3, .inl c_counters_33)), (h0_gcm, .inr (4, [.ref h0_aes, .ref h0_modes, .ref h0_gcm_tag, .long c_gcm_keyHigh_34, .long c_gcm_keyLow_35, .long c_gcm_sumHigh_36, .long c_gcm_sumLow_37])), (h0_gcm_tag, .inl (cy 0, 16, .inl c_gcm_tag_38)), (h0_modes, .inr (6, [.ref h0_aes, .ref h0_modes_block, .ref h0_modes_pad])), (h0_modes_block, .inl (cy 0, 16, .inl c_modes_block_39)), (h0_modes_pad, .inl (cy 0, 16, .inl c_modes_pad_40)), (h0_sha, .inr (9, [.ref h0_sha_sums, .ref h0_sha_schedule, .ref h0_sha_inner, .int c_sha_filled_41, .int c_sha_total_45])), (h0_sha_inner, .inl (cy 0, 32, .inl c_sha_inner_42)), (h0_sha_schedule, .inl (cy 1, 64, .inl c_sha_schedule_43)), (h0_sha_sums, .inl (cy 1, 8, .inl c_sha_sums_44)), (h0_tests, .inr (8, [.ref h0_aes, .ref h0_modes, .ref h0_gcm, .ref h0_sha, .ref h0_tests_generator, .ref h0_tests_key, .ref h0_tests_work])), (h0_tests_generator, .inr (5, [.ref h0_sha, .ref h0_tests_generator_key, .ref h0_tests_generator_value, .ref h0_tests_generator_message, .int c_tests_generator_begun_48, .int c_tests_generator_requests_51])), (h0_tests_generator_key, .inl (cy 0, 32, .inl c_tests_generator_key_49)), (h0_tests_generator_message, .inl (cy 0, 97, .inl c_tests_generator_message_50)), (h0_tests_generator_value, .inl (cy 0, 32, .inl c_tests_generator_value_52)), (h0_tests_key, .inl (cy 0, 32, .inl c_tests_key_53)), (h0_tests_work, .inl (cy 0, 64, .inl c_tests_work_54))]) H → va_D A ([(h0, .inr (11, [.ref h0_buffer, .ref h0_slots, .ref h0_counters, .ref h0_officerPin, .ref h0_userPin, .ref h0_words, .ref h0_sha, .ref h0_stream, .ref h0_aes, .ref h0_modes, .ref h0_gcm, .ref h0_generator, .ref h0_tests, .ref h0_message, .ref h0_secret, .int c_state_46, .int c_testsDone_47, .int c_faults, .int c_streamBegun])), (h0_aes, .inr (2, [.ref h0_aes_keys, .int c_aes_rounds_32])), (h0_aes_keys, .inl (cy 1, 60, .inl c_aes_keys_31)), (h0_counters, .inl (cy 1, 3, .inl c_counters_33)), (h0_gcm, .inr (4, [.ref h0_aes, .ref h0_modes, .ref h0_gcm_tag, .long c_gcm_keyHigh_34, .long c_gcm_keyLow_35, .long c_gcm_sumHigh_36, .long c_gcm_sumLow_37])), (h0_gcm_tag, .inl (cy 0, 16, .inl c_gcm_tag_38)), (h0_modes, .inr (6, [.ref h0_aes, .ref h0_modes_block, .ref h0_modes_pad])), (h0_modes_block, .inl (cy 0, 16, .inl c_modes_block_39)), (h0_modes_pad, .inl (cy 0, 16, .inl c_modes_pad_40)), (h0_sha, .inr (9, [.ref h0_sha_sums, .ref h0_sha_schedule, .ref h0_sha_inner, .int c_sha_filled_41, .int c_sha_total_45])), (h0_sha_inner, .inl (cy 0, 32, .inl c_sha_inner_42)), (h0_sha_schedule, .inl (cy 1, 64, .inl c_sha_schedule_43)), (h0_sha_sums, .inl (cy 1, 8, .inl c_sha_sums_44)), (h0_tests, .inr (8, [.ref h0_aes, .ref h0_modes, .ref h0_gcm, .ref h0_sha, .ref h0_tests_generator, .ref h0_tests_key, .ref h0_tests_work])), (h0_tests_generator, .inr (5, [.ref h0_sha, .ref h0_tests_generator_key, .ref h0_tests_generator_value, .ref h0_tests_generator_message, .int c_tests_generator_begun_48, .int c_tests_generator_requests_51])), (h0_tests_generator_key, .inl (cy 0, 32, .inl c_tests_generator_key_49)), (h0_tests_generator_message, .inl (cy 0, 97, .inl c_tests_generator_message_50)), (h0_tests_generator_value, .inl (cy 0, 32, .inl c_tests_generator_value_52)), (h0_tests_key, .inl (cy 0, 32, .inl c_tests_key_53)), (h0_tests_work, .inl (cy 0, 64, .inl c_tests_work_54))]) → va_S A s.heap H locs → lv_has ls 4 [(0, .ref h0)] → K_55 c_aes_keys_31 c_aes_rounds_32 c_counters_33 c_gcm_keyHigh_34 c_gcm_keyLow_35 c_gcm_sumHigh_36 c_gcm_sumLow_37 c_gcm_tag_38 c_modes_block_39 c_modes_pad_40 c_sha_filled_41 c_sha_inner_42 c_sha_schedule_43 c_sha_sums_44 c_sha_total_45 c_state_46 c_testsDone_47 c_tests_generator_begun_48 c_tests_generator_key_49 c_tests_generator_message_50 c_tests_generator_requests_51 c_tests_generator_value_52 c_tests_key_53 c_tests_work_54 = some (r_, c_state', c_testsDone', c_aes_rounds', c_aes_keys', c_counters', c_gcm_keyHigh', c_gcm_keyLow', c_gcm_sumHigh', c_gcm_sumLow', c_gcm_tag', c_modes_block', c_modes_pad', c_sha_filled', c_sha_total', c_sha_inner', c_sha_schedule', c_sha_sums', c_tests_generator_begun', c_tests_generator_requests', c_tests_generator_key', c_tests_generator_message', c_tests_generator_value', c_tests_key', c_tests_work') → GW H locs (F0 m 87 ls []) := by
      clear hf hl hP hD hS
      intro c_aes_keys_31 c_aes_rounds_32 c_counters_33 c_gcm_keyHigh_34 c_gcm_keyLow_35 c_gcm_sumHigh_36 c_gcm_sumLow_37 c_gcm_tag_38 c_modes_block_39 c_modes_pad_40 c_sha_filled_41 c_sha_inner_42 c_sha_schedule_43 c_sha_sums_44 c_sha_total_45 c_state_46 c_testsDone_47 c_tests_generator_begun_48 c_tests_generator_key_49 c_tests_generator_message_50 c_tests_generator_requests_51 c_tests_generator_value_52 c_tests_key_53 c_tests_work_54 H locs ls hP hD hS hl hf
      rw [eK_55] at hf
      clear eK_55
      refine hFr _ _ _ ?_
      refine lv_aload_n (pc := 87) hx hb (zdt_at zt_X9_selfTestStep_0 47 rfl) rfl (lv_at hl 0 rfl) ?_
      refine va_get (pc := 88) (D := D) (ci := 11) (v := .int c_state_46) (C := RX9) (T := TX9) (N := 19) hx hb hts hcX9 hown hK hP 0 rfl rfl 15 (by decide) hw0 (fun _ h9 => h9) rfl (zdt_at zt_X9_selfTestStep_0 48 rfl) ?_
      refine lv_iconst (pc := 91) (v := (5 : Int32)) hx hb (zdt_at zt_X9_selfTestStep_0 49 rfl) (by decide) ?_
      refine lv_icmp_ne (pc := 92) (tgt := 99) hx hb (zdt_at zt_X9_selfTestStep_0 50 rfl) (by decide) (fun cn_ => ?t_56) (fun cn_ => ?f_57)
      case f_57 =>
        replace hf := zt_s cn_ hf
        clear cn_
        refine lv_iconst (pc := 95) (v := (-1 : Int32)) hx hb (zdt_at zt_X9_selfTestStep_0 51 rfl) (by decide) ?_
        refine lv_goto (pc := 96) (tgt := 106) hx hb (zdt_at zt_X9_selfTestStep_0 52 rfl) (by decide) ?_
        cases hf
        exact W.iret (pc := 106) hx hb hr (fun t ht hW => ⟨rfl, ⟨by rw [ht]; exact hP, hD⟩, hS.F ht⟩) hS.2.2 (zdt_at zt_X9_selfTestStep_0 57 rfl)
      replace hf := ze_s cn_ hf
      clear cn_
      refine lv_bipush (pc := 99) (v := (10 : Int32)) hx hb (zdt_at zt_X9_selfTestStep_0 53 rfl) (by decide) ?_
      refine lv_aload_n (pc := 101) hx hb (zdt_at zt_X9_selfTestStep_0 54 rfl) rfl (lv_at hl 0 rfl) ?_
      refine va_get (pc := 102) (D := D) (ci := 11) (v := .int c_testsDone_47) (C := RX9) (T := TX9) (N := 19) hx hb hts hcX9 hown hK hP 0 rfl rfl 16 (by decide) hw1 (fun _ h9 => h9) rfl (zdt_at zt_X9_selfTestStep_0 55 rfl) ?_
      refine lv_isub (pc := 105) hx hb (zdt_at zt_X9_selfTestStep_0 56 rfl) ?_
      cases hf
      exact W.iret (pc := 106) hx hb hr (fun t ht hW => ⟨rfl, ⟨by rw [ht]; exact hP, hD⟩, hS.F ht⟩) hS.2.2 (zdt_at zt_X9_selfTestStep_0 57 rfl)
    clear eK_55
    refine hTo _ _ _ (zl_go (fun z => match z with | (i_6, c_aes_keys_7, c_aes_rounds_8, c_counters_9, c_gcm_keyHigh_10, c_gcm_keyLow_11, c_gcm_sumHigh_12, c_gcm_sumLow_13, c_gcm_tag_14, c_modes_block_15, c_modes_pad_16, c_sha_filled_17, c_sha_inner_18, c_sha_schedule_19, c_sha_sums_20, c_sha_total_21, c_state_22, c_testsDone_23, c_tests_generator_begun_24, c_tests_generator_key_25, c_tests_generator_message_26, c_tests_generator_requests_27, c_tests_generator_value_28, c_tests_key_29, c_tests_work_30) => ∀ (H : Heap) (locs : List Loc) (ls : Array Slot), va_P D vwCl ([(h0, .inr (11, [.ref h0_buffer, .ref h0_slots, .ref h0_counters, .ref h0_officerPin, .ref h0_userPin, .ref h0_words, .ref h0_sha, .ref h0_stream, .ref h0_aes, .ref h0_modes, .ref h0_gcm, .ref h0_generator, .ref h0_tests, .ref h0_message, .ref h0_secret, .int c_state_22, .int c_testsDone_23, .int c_faults, .int c_streamBegun])), (h0_aes, .inr (2, [.ref h0_aes_keys, .int c_aes_rounds_8])), (h0_aes_keys, .inl (cy 1, 60, .inl c_aes_keys_7)), (h0_counters, .inl (cy 1, 3, .inl c_counters_9)), (h0_gcm, .inr (4, [.ref h0_aes, .ref h0_modes, .ref h0_gcm_tag, .long c_gcm_keyHigh_10, .long c_gcm_keyLow_11, .long c_gcm_sumHigh_12, .long c_gcm_sumLow_13])), (h0_gcm_tag, .inl (cy 0, 16, .inl c_gcm_tag_14)), (h0_modes, .inr (6, [.ref h0_aes, .ref h0_modes_block, .ref h0_modes_pad])), (h0_modes_block, .inl (cy 0, 16, .inl c_modes_block_15)), (h0_modes_pad, .inl (cy 0, 16, .inl c_modes_pad_16)), (h0_sha, .inr (9, [.ref h0_sha_sums, .ref h0_sha_schedule, .ref h0_sha_inner, .int c_sha_filled_17, .int c_sha_total_21])), (h0_sha_inner, .inl (cy 0, 32, .inl c_sha_inner_18)), (h0_sha_schedule, .inl (cy 1, 64, .inl c_sha_schedule_19)), (h0_sha_sums, .inl (cy 1, 8, .inl c_sha_sums_20)), (h0_tests, .inr (8, [.ref h0_aes, .ref h0_modes, .ref h0_gcm, .ref h0_sha, .ref h0_tests_generator, .ref h0_tests_key, .ref h0_tests_work])), (h0_tests_generator, .inr (5, [.ref h0_sha, .ref h0_tests_generator_key, .ref h0_tests_generator_value, .ref h0_tests_generator_message, .int c_tests_generator_begun_24, .int c_tests_generator_requests_27])), (h0_tests_generator_key, .inl (cy 0, 32, .inl c_tests_generator_key_25)), (h0_tests_generator_message, .inl (cy 0, 97, .inl c_tests_generator_message_26)), (h0_tests_generator_value, .inl (cy 0, 32, .inl c_tests_generator_value_28)), (h0_tests_key, .inl (cy 0, 32, .inl c_tests_key_29)), (h0_tests_work, .inl (cy 0, 64, .inl c_tests_work_30))]) H → va_D A ([(h0, .inr (11, [.ref h0_buffer, .ref h0_slots, .ref h0_counters, .ref h0_officerPin, .ref h0_userPin, .ref h0_words, .ref h0_sha, .ref h0_stream, .ref h0_aes, .ref h0_modes, .ref h0_gcm, .ref h0_generator, .ref h0_tests, .ref h0_message, .ref h0_secret, .int c_state_22, .int c_testsDone_23, .int c_faults, .int c_streamBegun])), (h0_aes, .inr (2, [.ref h0_aes_keys, .int c_aes_rounds_8])), (h0_aes_keys, .inl (cy 1, 60, .inl c_aes_keys_7)), (h0_counters, .inl (cy 1, 3, .inl c_counters_9)), (h0_gcm, .inr (4, [.ref h0_aes, .ref h0_modes, .ref h0_gcm_tag, .long c_gcm_keyHigh_10, .long c_gcm_keyLow_11, .long c_gcm_sumHigh_12, .long c_gcm_sumLow_13])), (h0_gcm_tag, .inl (cy 0, 16, .inl c_gcm_tag_14)), (h0_modes, .inr (6, [.ref h0_aes, .ref h0_modes_block, .ref h0_modes_pad])), (h0_modes_block, .inl (cy 0, 16, .inl c_modes_block_15)), (h0_modes_pad, .inl (cy 0, 16, .inl c_modes_pad_16)), (h0_sha, .inr (9, [.ref h0_sha_sums, .ref h0_sha_schedule, .ref h0_sha_inner, .int c_sha_filled_17, .int c_sha_total_21])), (h0_sha_inner, .inl (cy 0, 32, .inl c_sha_inner_18)), (h0_sha_schedule, .inl (cy 1, 64, .inl c_sha_schedule_19)), (h0_sha_sums, .inl (cy 1, 8, .inl c_sha_sums_20)), (h0_tests, .inr (8, [.ref h0_aes, .ref h0_modes, .ref h0_gcm, .ref h0_sha, .ref h0_tests_generator, .ref h0_tests_key, .ref h0_tests_work])), (h0_tests_generator, .inr (5, [.ref h0_sha, .ref h0_tests_generator_key, .ref h0_tests_generator_value, .ref h0_tests_generator_message, .int c_tests_generator_begun_24, .int c_tests_generator_requests_27])), (h0_tests_generator_key, .inl (cy 0, 32, .inl c_tests_generator_key_25)), (h0_tests_generator_message, .inl (cy 0, 97, .inl c_tests_generator_message_26)), (h0_tests_generator_value, .inl (cy 0, 32, .inl c_tests_generator_value_28)), (h0_tests_key, .inl (cy 0, 32, .inl c_tests_key_29)), (h0_tests_work, .inl (cy 0, 64, .inl c_tests_work_30))]) → va_S A s.heap H locs → lv_has ls 4 [(0, .ref h0), (1, .int p1), (2, .int i_6)] → GW H locs (F0 m 31 ls [])) hf ?_ H locs ls hP hD hS (lv_sub hl [1, 2, 0] rfl))
    clear hf hl hP hD hS
    intro self_58 ihself_58 z hf
    obtain ⟨i_6, c_aes_keys_7, c_aes_rounds_8, c_counters_9, c_gcm_keyHigh_10, c_gcm_keyLow_11, c_gcm_sumHigh_12, c_gcm_sumLow_13, c_gcm_tag_14, c_modes_block_15, c_modes_pad_16, c_sha_filled_17, c_sha_inner_18, c_sha_schedule_19, c_sha_sums_20, c_sha_total_21, c_state_22, c_testsDone_23, c_tests_generator_begun_24, c_tests_generator_key_25, c_tests_generator_message_26, c_tests_generator_requests_27, c_tests_generator_value_28, c_tests_key_29, c_tests_work_30⟩ := z
    intro H locs ls hP hD hS hl
    refine hFr _ _ _ ?_
    unfold b_X9_selfTestStep_31 at hf
    refine lv_iload_n (pc := 31) hx hb (zdt_at zt_X9_selfTestStep_0 17 rfl) rfl (lv_at hl 2 rfl) ?_
    refine lv_iload_n (pc := 32) hx hb (zdt_at zt_X9_selfTestStep_0 18 rfl) rfl (lv_at hl 1 rfl) ?_
    refine lv_icmp_ge (pc := 33) (tgt := 87) hx hb (zdt_at zt_X9_selfTestStep_0 19 rfl) (by decide) (fun cn_ => ?t_59) (fun cn_ => ?f_60)
    case t_59 =>
      replace hf := zt_s cn_ hf
      clear cn_
      exact hTo _ _ _ (kK_55 _ _ _ _ _ _ _ _ _ _ _ _ _ _ _ _ _ _ _ _ _ _ _ _ H locs ls hP hD hS (lv_sub hl [0] rfl) hf)
    replace hf := ze_s cn_ hf
    clear cn_
    refine lv_aload_n (pc := 36) hx hb (zdt_at zt_X9_selfTestStep_0 20 rfl) rfl (lv_at hl 0 rfl) ?_
    refine va_get (pc := 37) (D := D) (ci := 11) (v := .int c_state_22) (C := RX9) (T := TX9) (N := 19) hx hb hts hcX9 hown hK hP 0 rfl rfl 15 (by decide) hw0 (fun _ h9 => h9) rfl (zdt_at zt_X9_selfTestStep_0 21 rfl) ?_
    refine lv_iconst (pc := 40) (v := (1 : Int32)) hx hb (zdt_at zt_X9_selfTestStep_0 22 rfl) (by decide) ?_
    refine lv_icmp_ne (pc := 41) (tgt := 87) hx hb (zdt_at zt_X9_selfTestStep_0 23 rfl) (by decide) (fun cn_ => ?t_61) (fun cn_ => ?f_62)
    case t_61 =>
      replace hf := ze_s cn_ hf
      clear cn_
      exact hTo _ _ _ (kK_55 _ _ _ _ _ _ _ _ _ _ _ _ _ _ _ _ _ _ _ _ _ _ _ _ H locs ls hP hD hS (lv_sub hl [0] rfl) hf)
    replace hf := zt_s cn_ hf
    clear cn_
    refine lv_aload_n (pc := 44) hx hb (zdt_at zt_X9_selfTestStep_0 24 rfl) rfl (lv_at hl 0 rfl) ?_
    refine va_get (pc := 45) (D := D) (ci := 11) (v := .int c_faults) (C := RX9) (T := TX9) (N := 19) hx hb hts hcX9 hown hK hP 0 rfl rfl 17 (by decide) hw2 (fun _ h9 => h9) rfl (zdt_at zt_X9_selfTestStep_0 25 rfl) ?_
    refine lv_aload_n (pc := 48) hx hb (zdt_at zt_X9_selfTestStep_0 26 rfl) rfl (lv_at hl 0 rfl) ?_
    refine va_get (pc := 49) (D := D) (ci := 11) (v := .int c_testsDone_23) (C := RX9) (T := TX9) (N := 19) hx hb hts hcX9 hown hK hP 0 rfl rfl 16 (by decide) hw1 (fun _ h9 => h9) rfl (zdt_at zt_X9_selfTestStep_0 27 rfl) ?_
    refine lv_ishr (pc := 52) hx hb (zdt_at zt_X9_selfTestStep_0 28 rfl) ?_
    refine lv_iconst (pc := 53) (v := (1 : Int32)) hx hb (zdt_at zt_X9_selfTestStep_0 29 rfl) (by decide) ?_
    refine lv_iand (pc := 54) hx hb (zdt_at zt_X9_selfTestStep_0 30 rfl) ?_
    refine lv_iconst (pc := 55) (v := (1 : Int32)) hx hb (zdt_at zt_X9_selfTestStep_0 31 rfl) (by decide) ?_
    refine lv_icmp_ne (pc := 56) (tgt := 63) hx hb (zdt_at zt_X9_selfTestStep_0 32 rfl) (by decide) (fun cn_ => ?t_63) (fun cn_ => ?f_64)
    case t_63 =>
      replace hf := ze_s cn_ hf
      clear cn_
      refine lv_iconst (pc := 63) (v := (0 : Int32)) hx hb (zdt_at zt_X9_selfTestStep_0 35 rfl) (by decide) ?_
      refine lv_istore_n (pc := 64) (lv' := [(3, .int (0 : Int32)), (0, .ref h0), (1, .int p1), (2, .int i_6)]) hx hb (zdt_at zt_X9_selfTestStep_0 36 rfl) rfl hl (by decide) rfl ?_
      clear hl
      intro ls hl
      refine lv_aload_n (pc := 65) hx hb (zdt_at zt_X9_selfTestStep_0 37 rfl) rfl (lv_at hl 1 rfl) ?_
      refine lv_aload_n (pc := 66) hx hb (zdt_at zt_X9_selfTestStep_0 38 rfl) rfl (lv_at hl 1 rfl) ?_
      refine va_get (pc := 67) (D := D) (ci := 11) (v := .ref h0_tests) (C := RX9) (T := TX9) (N := 19) hx hb hts hcX9 hown hK hP 0 rfl rfl 12 (by decide) hw3 (fun _ h9 => h9) rfl (zdt_at zt_X9_selfTestStep_0 39 rfl) ?_
      refine lv_aload_n (pc := 70) hx hb (zdt_at zt_X9_selfTestStep_0 40 rfl) rfl (lv_at hl 1 rfl) ?_
      refine va_get (pc := 71) (D := D) (ci := 11) (v := .int c_testsDone_23) (C := RX9) (T := TX9) (N := 19) hx hb hts hcX9 hown hK hP 0 rfl rfl 16 (by decide) hw1 (fun _ h9 => h9) rfl (zdt_at zt_X9_selfTestStep_0 41 rfl) ?_
      refine lv_iload_n (pc := 74) hx hb (zdt_at zt_X9_selfTestStep_0 42 rfl) rfl (lv_at hl 0 rfl) ?_
      replace hf := zb_s hf
      obtain ⟨⟨r_65, c_aes_rounds_66, c_aes_keys_67, c_gcm_keyHigh_68, c_gcm_keyLow_69, c_gcm_sumHigh_70, c_gcm_sumLow_71, c_gcm_tag_72, c_tests_generator_begun_73, c_tests_generator_requests_74, c_tests_generator_key_75, c_tests_generator_message_76, c_tests_generator_value_77, c_tests_key_78, c_modes_block_79, c_modes_pad_80, c_sha_filled_81, c_sha_total_82, c_sha_inner_83, c_sha_schedule_84, c_sha_sums_85, c_tests_work_86⟩, hc_, hf⟩ := hf
      refine zcn2 (pc := 75) (rv := (some (.int r_65))) (va_runV (As := [.int c_testsDone_23, .int (0 : Int32)]) (rest := [.ref h0]) ⟨hx, hb, hml, hown, hts⟩ (c_X6_comesRight l D cy tt H.size h0_tests h0_aes h0_modes h0_gcm h0_sha h0_tests_generator h0_tests_key h0_tests_work h0_aes_keys h0_gcm_tag h0_tests_generator_key h0_tests_generator_value h0_tests_generator_message h0_modes_block h0_modes_pad h0_sha_sums h0_sha_schedule h0_sha_inner c_testsDone_23 (0 : Int32) c_aes_rounds_8 c_aes_keys_7 c_gcm_keyHigh_10 c_gcm_keyLow_11 c_gcm_sumHigh_12 c_gcm_sumLow_13 c_gcm_tag_14 c_tests_generator_begun_24 c_tests_generator_requests_27 c_tests_generator_key_25 c_tests_generator_message_26 c_tests_generator_value_28 c_tests_key_29 c_modes_block_15 c_modes_pad_16 c_sha_filled_17 c_sha_total_21 c_sha_inner_18 c_sha_schedule_19 c_sha_sums_20 c_tests_work_30 r_65 c_aes_rounds_66 c_aes_keys_67 c_gcm_keyHigh_68 c_gcm_keyLow_69 c_gcm_sumHigh_70 c_gcm_sumLow_71 c_gcm_tag_72 c_tests_generator_begun_73 c_tests_generator_requests_74 c_tests_generator_key_75 c_tests_generator_message_76 c_tests_generator_value_77 c_tests_key_78 c_modes_block_79 c_modes_pad_80 c_sha_filled_81 c_sha_total_82 c_sha_inner_83 c_sha_schedule_84 c_sha_sums_85 c_tests_work_86 hc_) (cwV 2 hts gX9_selfTestStep_X6_comesRight rfl rfl rfl (by decide +kernel) ⟨Nat.le_of_ble_eq_true rfl, Nat.le_of_ble_eq_true rfl⟩) ⟨zblind, va_recv hK hP (ci := 8) (q0 := 13) rfl rfl, zpre hE hS (hP.sub [13, 1, 2, 4, 5, 14, 15, 16, 17, 18, 6, 7, 8, 9, 10, 11, 12, 19] rfl) (hD.sub [13, 1, 2, 4, 5, 14, 15, 16, 17, 18, 6, 7, 8, 9, 10, 11, 12, 19] (by decide) rfl) (va_free hD hS hA [13, 1, 2, 4, 5, 14, 15, 16, 17, 18, 6, 7, 8, 9, 10, 11, 12, 19] rfl)⟩ rfl rfl hl.1 rfl (lv_room (Nat.le_of_ble_eq_true rfl)) (zdt_at zt_X9_selfTestStep_0 43 rfl) ⟨Nat.zero_le _, Nat.zero_le _⟩) hS hP hD (va_free hD hS hA [13, 1, 2, 4, 5, 14, 15, 16, 17, 18, 6, 7, 8, 9, 10, 11, 12, 19] rfl) [13, 1, 2, 4, 5, 14, 15, 16, 17, 18, 6, 7, 8, 9, 10, 11, 12, 19] rfl (by decide) rfl ?_
      clear hP hD hS hc_
      intro H locs hP hD hS
      replace hP : va_P D vwCl ([(h0, .inr (11, [.ref h0_buffer, .ref h0_slots, .ref h0_counters, .ref h0_officerPin, .ref h0_userPin, .ref h0_words, .ref h0_sha, .ref h0_stream, .ref h0_aes, .ref h0_modes, .ref h0_gcm, .ref h0_generator, .ref h0_tests, .ref h0_message, .ref h0_secret, .int c_state_22, .int c_testsDone_23, .int c_faults, .int c_streamBegun])), (h0_aes, .inr (2, [.ref h0_aes_keys, .int c_aes_rounds_66])), (h0_aes_keys, .inl (cy 1, 60, .inl c_aes_keys_67)), (h0_counters, .inl (cy 1, 3, .inl c_counters_9)), (h0_gcm, .inr (4, [.ref h0_aes, .ref h0_modes, .ref h0_gcm_tag, .long c_gcm_keyHigh_68, .long c_gcm_keyLow_69, .long c_gcm_sumHigh_70, .long c_gcm_sumLow_71])), (h0_gcm_tag, .inl (cy 0, 16, .inl c_gcm_tag_72)), (h0_modes, .inr (6, [.ref h0_aes, .ref h0_modes_block, .ref h0_modes_pad])), (h0_modes_block, .inl (cy 0, 16, .inl c_modes_block_79)), (h0_modes_pad, .inl (cy 0, 16, .inl c_modes_pad_80)), (h0_sha, .inr (9, [.ref h0_sha_sums, .ref h0_sha_schedule, .ref h0_sha_inner, .int c_sha_filled_81, .int c_sha_total_82])), (h0_sha_inner, .inl (cy 0, 32, .inl c_sha_inner_83)), (h0_sha_schedule, .inl (cy 1, 64, .inl c_sha_schedule_84)), (h0_sha_sums, .inl (cy 1, 8, .inl c_sha_sums_85)), (h0_tests, .inr (8, [.ref h0_aes, .ref h0_modes, .ref h0_gcm, .ref h0_sha, .ref h0_tests_generator, .ref h0_tests_key, .ref h0_tests_work])), (h0_tests_generator, .inr (5, [.ref h0_sha, .ref h0_tests_generator_key, .ref h0_tests_generator_value, .ref h0_tests_generator_message, .int c_tests_generator_begun_73, .int c_tests_generator_requests_74])), (h0_tests_generator_key, .inl (cy 0, 32, .inl c_tests_generator_key_75)), (h0_tests_generator_message, .inl (cy 0, 97, .inl c_tests_generator_message_76)), (h0_tests_generator_value, .inl (cy 0, 32, .inl c_tests_generator_value_77)), (h0_tests_key, .inl (cy 0, 32, .inl c_tests_key_78)), (h0_tests_work, .inl (cy 0, 64, .inl c_tests_work_86))]) H := hP
      replace hD : va_D A ([(h0, .inr (11, [.ref h0_buffer, .ref h0_slots, .ref h0_counters, .ref h0_officerPin, .ref h0_userPin, .ref h0_words, .ref h0_sha, .ref h0_stream, .ref h0_aes, .ref h0_modes, .ref h0_gcm, .ref h0_generator, .ref h0_tests, .ref h0_message, .ref h0_secret, .int c_state_22, .int c_testsDone_23, .int c_faults, .int c_streamBegun])), (h0_aes, .inr (2, [.ref h0_aes_keys, .int c_aes_rounds_66])), (h0_aes_keys, .inl (cy 1, 60, .inl c_aes_keys_67)), (h0_counters, .inl (cy 1, 3, .inl c_counters_9)), (h0_gcm, .inr (4, [.ref h0_aes, .ref h0_modes, .ref h0_gcm_tag, .long c_gcm_keyHigh_68, .long c_gcm_keyLow_69, .long c_gcm_sumHigh_70, .long c_gcm_sumLow_71])), (h0_gcm_tag, .inl (cy 0, 16, .inl c_gcm_tag_72)), (h0_modes, .inr (6, [.ref h0_aes, .ref h0_modes_block, .ref h0_modes_pad])), (h0_modes_block, .inl (cy 0, 16, .inl c_modes_block_79)), (h0_modes_pad, .inl (cy 0, 16, .inl c_modes_pad_80)), (h0_sha, .inr (9, [.ref h0_sha_sums, .ref h0_sha_schedule, .ref h0_sha_inner, .int c_sha_filled_81, .int c_sha_total_82])), (h0_sha_inner, .inl (cy 0, 32, .inl c_sha_inner_83)), (h0_sha_schedule, .inl (cy 1, 64, .inl c_sha_schedule_84)), (h0_sha_sums, .inl (cy 1, 8, .inl c_sha_sums_85)), (h0_tests, .inr (8, [.ref h0_aes, .ref h0_modes, .ref h0_gcm, .ref h0_sha, .ref h0_tests_generator, .ref h0_tests_key, .ref h0_tests_work])), (h0_tests_generator, .inr (5, [.ref h0_sha, .ref h0_tests_generator_key, .ref h0_tests_generator_value, .ref h0_tests_generator_message, .int c_tests_generator_begun_73, .int c_tests_generator_requests_74])), (h0_tests_generator_key, .inl (cy 0, 32, .inl c_tests_generator_key_75)), (h0_tests_generator_message, .inl (cy 0, 97, .inl c_tests_generator_message_76)), (h0_tests_generator_value, .inl (cy 0, 32, .inl c_tests_generator_value_77)), (h0_tests_key, .inl (cy 0, 32, .inl c_tests_key_78)), (h0_tests_work, .inl (cy 0, 64, .inl c_tests_work_86))]) := hD
      refine W.eq (g2 := F0 m 78 ls [.int r_65, .ref h0]) rfl ?_
      replace hf := zb_s hf
      obtain ⟨⟨c_state_87, c_testsDone_88, c_counters_89⟩, hc_, hf⟩ := hf
      refine zcn2 (pc := 78) (rv := none) (va_runV (As := [.int r_65]) (rest := []) ⟨hx, hb, hml, hown, hts⟩ (c_X9_takeTestResult l D cy tt H.size h0 h0_buffer h0_slots h0_counters h0_officerPin h0_userPin h0_words h0_sha h0_stream h0_aes h0_modes h0_gcm h0_generator h0_tests h0_message h0_secret r_65 c_state_22 c_testsDone_23 c_counters_9 c_faults c_streamBegun c_state_87 c_testsDone_88 c_counters_89 hc_) (cwV 1 hts gX9_selfTestStep_X9_takeTestResult rfl rfl rfl (by decide +kernel) ⟨Nat.le_of_ble_eq_true rfl, Nat.le_of_ble_eq_true rfl⟩) ⟨zblind, va_recv hK hP (ci := 11) (q0 := 0) rfl rfl, zpre hE hS (hP.sub [0, 3] rfl) (hD.sub [0, 3] (by decide) rfl) (va_free hD hS hA [0, 3] rfl)⟩ rfl rfl hl.1 rfl (lv_room (Nat.le_of_ble_eq_true rfl)) (zdt_at zt_X9_selfTestStep_0 44 rfl) ⟨Nat.zero_le _, Nat.zero_le _⟩) hS hP hD (va_free hD hS hA [0, 3] rfl) [0, 3] rfl (by decide) rfl ?_
      clear hP hD hS hc_
      intro H locs hP hD hS
      replace hP : va_P D vwCl ([(h0, .inr (11, [.ref h0_buffer, .ref h0_slots, .ref h0_counters, .ref h0_officerPin, .ref h0_userPin, .ref h0_words, .ref h0_sha, .ref h0_stream, .ref h0_aes, .ref h0_modes, .ref h0_gcm, .ref h0_generator, .ref h0_tests, .ref h0_message, .ref h0_secret, .int c_state_87, .int c_testsDone_88, .int c_faults, .int c_streamBegun])), (h0_aes, .inr (2, [.ref h0_aes_keys, .int c_aes_rounds_66])), (h0_aes_keys, .inl (cy 1, 60, .inl c_aes_keys_67)), (h0_counters, .inl (cy 1, 3, .inl c_counters_89)), (h0_gcm, .inr (4, [.ref h0_aes, .ref h0_modes, .ref h0_gcm_tag, .long c_gcm_keyHigh_68, .long c_gcm_keyLow_69, .long c_gcm_sumHigh_70, .long c_gcm_sumLow_71])), (h0_gcm_tag, .inl (cy 0, 16, .inl c_gcm_tag_72)), (h0_modes, .inr (6, [.ref h0_aes, .ref h0_modes_block, .ref h0_modes_pad])), (h0_modes_block, .inl (cy 0, 16, .inl c_modes_block_79)), (h0_modes_pad, .inl (cy 0, 16, .inl c_modes_pad_80)), (h0_sha, .inr (9, [.ref h0_sha_sums, .ref h0_sha_schedule, .ref h0_sha_inner, .int c_sha_filled_81, .int c_sha_total_82])), (h0_sha_inner, .inl (cy 0, 32, .inl c_sha_inner_83)), (h0_sha_schedule, .inl (cy 1, 64, .inl c_sha_schedule_84)), (h0_sha_sums, .inl (cy 1, 8, .inl c_sha_sums_85)), (h0_tests, .inr (8, [.ref h0_aes, .ref h0_modes, .ref h0_gcm, .ref h0_sha, .ref h0_tests_generator, .ref h0_tests_key, .ref h0_tests_work])), (h0_tests_generator, .inr (5, [.ref h0_sha, .ref h0_tests_generator_key, .ref h0_tests_generator_value, .ref h0_tests_generator_message, .int c_tests_generator_begun_73, .int c_tests_generator_requests_74])), (h0_tests_generator_key, .inl (cy 0, 32, .inl c_tests_generator_key_75)), (h0_tests_generator_message, .inl (cy 0, 97, .inl c_tests_generator_message_76)), (h0_tests_generator_value, .inl (cy 0, 32, .inl c_tests_generator_value_77)), (h0_tests_key, .inl (cy 0, 32, .inl c_tests_key_78)), (h0_tests_work, .inl (cy 0, 64, .inl c_tests_work_86))]) H := hP
      replace hD : va_D A ([(h0, .inr (11, [.ref h0_buffer, .ref h0_slots, .ref h0_counters, .ref h0_officerPin, .ref h0_userPin, .ref h0_words, .ref h0_sha, .ref h0_stream, .ref h0_aes, .ref h0_modes, .ref h0_gcm, .ref h0_generator, .ref h0_tests, .ref h0_message, .ref h0_secret, .int c_state_87, .int c_testsDone_88, .int c_faults, .int c_streamBegun])), (h0_aes, .inr (2, [.ref h0_aes_keys, .int c_aes_rounds_66])), (h0_aes_keys, .inl (cy 1, 60, .inl c_aes_keys_67)), (h0_counters, .inl (cy 1, 3, .inl c_counters_89)), (h0_gcm, .inr (4, [.ref h0_aes, .ref h0_modes, .ref h0_gcm_tag, .long c_gcm_keyHigh_68, .long c_gcm_keyLow_69, .long c_gcm_sumHigh_70, .long c_gcm_sumLow_71])), (h0_gcm_tag, .inl (cy 0, 16, .inl c_gcm_tag_72)), (h0_modes, .inr (6, [.ref h0_aes, .ref h0_modes_block, .ref h0_modes_pad])), (h0_modes_block, .inl (cy 0, 16, .inl c_modes_block_79)), (h0_modes_pad, .inl (cy 0, 16, .inl c_modes_pad_80)), (h0_sha, .inr (9, [.ref h0_sha_sums, .ref h0_sha_schedule, .ref h0_sha_inner, .int c_sha_filled_81, .int c_sha_total_82])), (h0_sha_inner, .inl (cy 0, 32, .inl c_sha_inner_83)), (h0_sha_schedule, .inl (cy 1, 64, .inl c_sha_schedule_84)), (h0_sha_sums, .inl (cy 1, 8, .inl c_sha_sums_85)), (h0_tests, .inr (8, [.ref h0_aes, .ref h0_modes, .ref h0_gcm, .ref h0_sha, .ref h0_tests_generator, .ref h0_tests_key, .ref h0_tests_work])), (h0_tests_generator, .inr (5, [.ref h0_sha, .ref h0_tests_generator_key, .ref h0_tests_generator_value, .ref h0_tests_generator_message, .int c_tests_generator_begun_73, .int c_tests_generator_requests_74])), (h0_tests_generator_key, .inl (cy 0, 32, .inl c_tests_generator_key_75)), (h0_tests_generator_message, .inl (cy 0, 97, .inl c_tests_generator_message_76)), (h0_tests_generator_value, .inl (cy 0, 32, .inl c_tests_generator_value_77)), (h0_tests_key, .inl (cy 0, 32, .inl c_tests_key_78)), (h0_tests_work, .inl (cy 0, 64, .inl c_tests_work_86))]) := hD
      refine W.eq (g2 := F0 m 81 ls []) rfl ?_
      refine lv_iinc (pc := 81) (v := (i_6 + (1 : Int32))) (lv' := [(2, .int (i_6 + (1 : Int32))), (3, .int (0 : Int32)), (0, .ref h0), (1, .int p1)]) hx hb (zdt_at zt_X9_selfTestStep_0 45 rfl) hl (k := 3) rfl rfl (by decide) rfl ?_
      clear hl
      intro ls hl
      refine lv_goto (pc := 84) (tgt := 31) hx hb (zdt_at zt_X9_selfTestStep_0 46 rfl) (by decide) ?_
      exact hTo _ _ _ (ihself_58 _ hf H locs ls hP hD hS (lv_sub hl [2, 3, 0] rfl))
    replace hf := zt_s cn_ hf
    clear cn_
    refine lv_iconst (pc := 59) (v := (1 : Int32)) hx hb (zdt_at zt_X9_selfTestStep_0 33 rfl) (by decide) ?_
    refine lv_goto (pc := 60) (tgt := 64) hx hb (zdt_at zt_X9_selfTestStep_0 34 rfl) (by decide) ?_
    refine lv_istore_n (pc := 64) (lv' := [(3, .int (1 : Int32)), (0, .ref h0), (1, .int p1), (2, .int i_6)]) hx hb (zdt_at zt_X9_selfTestStep_0 36 rfl) rfl hl (by decide) rfl ?_
    clear hl
    intro ls hl
    refine lv_aload_n (pc := 65) hx hb (zdt_at zt_X9_selfTestStep_0 37 rfl) rfl (lv_at hl 1 rfl) ?_
    refine lv_aload_n (pc := 66) hx hb (zdt_at zt_X9_selfTestStep_0 38 rfl) rfl (lv_at hl 1 rfl) ?_
    refine va_get (pc := 67) (D := D) (ci := 11) (v := .ref h0_tests) (C := RX9) (T := TX9) (N := 19) hx hb hts hcX9 hown hK hP 0 rfl rfl 12 (by decide) hw3 (fun _ h9 => h9) rfl (zdt_at zt_X9_selfTestStep_0 39 rfl) ?_
    refine lv_aload_n (pc := 70) hx hb (zdt_at zt_X9_selfTestStep_0 40 rfl) rfl (lv_at hl 1 rfl) ?_
    refine va_get (pc := 71) (D := D) (ci := 11) (v := .int c_testsDone_23) (C := RX9) (T := TX9) (N := 19) hx hb hts hcX9 hown hK hP 0 rfl rfl 16 (by decide) hw1 (fun _ h9 => h9) rfl (zdt_at zt_X9_selfTestStep_0 41 rfl) ?_
    refine lv_iload_n (pc := 74) hx hb (zdt_at zt_X9_selfTestStep_0 42 rfl) rfl (lv_at hl 0 rfl) ?_
    replace hf := zb_s hf
    obtain ⟨⟨r_90, c_aes_rounds_91, c_aes_keys_92, c_gcm_keyHigh_93, c_gcm_keyLow_94, c_gcm_sumHigh_95, c_gcm_sumLow_96, c_gcm_tag_97, c_tests_generator_begun_98, c_tests_generator_requests_99, c_tests_generator_key_100, c_tests_generator_message_101, c_tests_generator_value_102, c_tests_key_103, c_modes_block_104, c_modes_pad_105, c_sha_filled_106, c_sha_total_107, c_sha_inner_108, c_sha_schedule_109, c_sha_sums_110, c_tests_work_111⟩, hc_, hf⟩ := hf
    refine zcn2 (pc := 75) (rv := (some (.int r_90))) (va_runV (As := [.int c_testsDone_23, .int (1 : Int32)]) (rest := [.ref h0]) ⟨hx, hb, hml, hown, hts⟩ (c_X6_comesRight l D cy tt H.size h0_tests h0_aes h0_modes h0_gcm h0_sha h0_tests_generator h0_tests_key h0_tests_work h0_aes_keys h0_gcm_tag h0_tests_generator_key h0_tests_generator_value h0_tests_generator_message h0_modes_block h0_modes_pad h0_sha_sums h0_sha_schedule h0_sha_inner c_testsDone_23 (1 : Int32) c_aes_rounds_8 c_aes_keys_7 c_gcm_keyHigh_10 c_gcm_keyLow_11 c_gcm_sumHigh_12 c_gcm_sumLow_13 c_gcm_tag_14 c_tests_generator_begun_24 c_tests_generator_requests_27 c_tests_generator_key_25 c_tests_generator_message_26 c_tests_generator_value_28 c_tests_key_29 c_modes_block_15 c_modes_pad_16 c_sha_filled_17 c_sha_total_21 c_sha_inner_18 c_sha_schedule_19 c_sha_sums_20 c_tests_work_30 r_90 c_aes_rounds_91 c_aes_keys_92 c_gcm_keyHigh_93 c_gcm_keyLow_94 c_gcm_sumHigh_95 c_gcm_sumLow_96 c_gcm_tag_97 c_tests_generator_begun_98 c_tests_generator_requests_99 c_tests_generator_key_100 c_tests_generator_message_101 c_tests_generator_value_102 c_tests_key_103 c_modes_block_104 c_modes_pad_105 c_sha_filled_106 c_sha_total_107 c_sha_inner_108 c_sha_schedule_109 c_sha_sums_110 c_tests_work_111 hc_) (cwV 2 hts gX9_selfTestStep_X6_comesRight rfl rfl rfl (by decide +kernel) ⟨Nat.le_of_ble_eq_true rfl, Nat.le_of_ble_eq_true rfl⟩) ⟨zblind, va_recv hK hP (ci := 8) (q0 := 13) rfl rfl, zpre hE hS (hP.sub [13, 1, 2, 4, 5, 14, 15, 16, 17, 18, 6, 7, 8, 9, 10, 11, 12, 19] rfl) (hD.sub [13, 1, 2, 4, 5, 14, 15, 16, 17, 18, 6, 7, 8, 9, 10, 11, 12, 19] (by decide) rfl) (va_free hD hS hA [13, 1, 2, 4, 5, 14, 15, 16, 17, 18, 6, 7, 8, 9, 10, 11, 12, 19] rfl)⟩ rfl rfl hl.1 rfl (lv_room (Nat.le_of_ble_eq_true rfl)) (zdt_at zt_X9_selfTestStep_0 43 rfl) ⟨Nat.zero_le _, Nat.zero_le _⟩) hS hP hD (va_free hD hS hA [13, 1, 2, 4, 5, 14, 15, 16, 17, 18, 6, 7, 8, 9, 10, 11, 12, 19] rfl) [13, 1, 2, 4, 5, 14, 15, 16, 17, 18, 6, 7, 8, 9, 10, 11, 12, 19] rfl (by decide) rfl ?_
    clear hP hD hS hc_
    intro H locs hP hD hS
    replace hP : va_P D vwCl ([(h0, .inr (11, [.ref h0_buffer, .ref h0_slots, .ref h0_counters, .ref h0_officerPin, .ref h0_userPin, .ref h0_words, .ref h0_sha, .ref h0_stream, .ref h0_aes, .ref h0_modes, .ref h0_gcm, .ref h0_generator, .ref h0_tests, .ref h0_message, .ref h0_secret, .int c_state_22, .int c_testsDone_23, .int c_faults, .int c_streamBegun])), (h0_aes, .inr (2, [.ref h0_aes_keys, .int c_aes_rounds_91])), (h0_aes_keys, .inl (cy 1, 60, .inl c_aes_keys_92)), (h0_counters, .inl (cy 1, 3, .inl c_counters_9)), (h0_gcm, .inr (4, [.ref h0_aes, .ref h0_modes, .ref h0_gcm_tag, .long c_gcm_keyHigh_93, .long c_gcm_keyLow_94, .long c_gcm_sumHigh_95, .long c_gcm_sumLow_96])), (h0_gcm_tag, .inl (cy 0, 16, .inl c_gcm_tag_97)), (h0_modes, .inr (6, [.ref h0_aes, .ref h0_modes_block, .ref h0_modes_pad])), (h0_modes_block, .inl (cy 0, 16, .inl c_modes_block_104)), (h0_modes_pad, .inl (cy 0, 16, .inl c_modes_pad_105)), (h0_sha, .inr (9, [.ref h0_sha_sums, .ref h0_sha_schedule, .ref h0_sha_inner, .int c_sha_filled_106, .int c_sha_total_107])), (h0_sha_inner, .inl (cy 0, 32, .inl c_sha_inner_108)), (h0_sha_schedule, .inl (cy 1, 64, .inl c_sha_schedule_109)), (h0_sha_sums, .inl (cy 1, 8, .inl c_sha_sums_110)), (h0_tests, .inr (8, [.ref h0_aes, .ref h0_modes, .ref h0_gcm, .ref h0_sha, .ref h0_tests_generator, .ref h0_tests_key, .ref h0_tests_work])), (h0_tests_generator, .inr (5, [.ref h0_sha, .ref h0_tests_generator_key, .ref h0_tests_generator_value, .ref h0_tests_generator_message, .int c_tests_generator_begun_98, .int c_tests_generator_requests_99])), (h0_tests_generator_key, .inl (cy 0, 32, .inl c_tests_generator_key_100)), (h0_tests_generator_message, .inl (cy 0, 97, .inl c_tests_generator_message_101)), (h0_tests_generator_value, .inl (cy 0, 32, .inl c_tests_generator_value_102)), (h0_tests_key, .inl (cy 0, 32, .inl c_tests_key_103)), (h0_tests_work, .inl (cy 0, 64, .inl c_tests_work_111))]) H := hP
    replace hD : va_D A ([(h0, .inr (11, [.ref h0_buffer, .ref h0_slots, .ref h0_counters, .ref h0_officerPin, .ref h0_userPin, .ref h0_words, .ref h0_sha, .ref h0_stream, .ref h0_aes, .ref h0_modes, .ref h0_gcm, .ref h0_generator, .ref h0_tests, .ref h0_message, .ref h0_secret, .int c_state_22, .int c_testsDone_23, .int c_faults, .int c_streamBegun])), (h0_aes, .inr (2, [.ref h0_aes_keys, .int c_aes_rounds_91])), (h0_aes_keys, .inl (cy 1, 60, .inl c_aes_keys_92)), (h0_counters, .inl (cy 1, 3, .inl c_counters_9)), (h0_gcm, .inr (4, [.ref h0_aes, .ref h0_modes, .ref h0_gcm_tag, .long c_gcm_keyHigh_93, .long c_gcm_keyLow_94, .long c_gcm_sumHigh_95, .long c_gcm_sumLow_96])), (h0_gcm_tag, .inl (cy 0, 16, .inl c_gcm_tag_97)), (h0_modes, .inr (6, [.ref h0_aes, .ref h0_modes_block, .ref h0_modes_pad])), (h0_modes_block, .inl (cy 0, 16, .inl c_modes_block_104)), (h0_modes_pad, .inl (cy 0, 16, .inl c_modes_pad_105)), (h0_sha, .inr (9, [.ref h0_sha_sums, .ref h0_sha_schedule, .ref h0_sha_inner, .int c_sha_filled_106, .int c_sha_total_107])), (h0_sha_inner, .inl (cy 0, 32, .inl c_sha_inner_108)), (h0_sha_schedule, .inl (cy 1, 64, .inl c_sha_schedule_109)), (h0_sha_sums, .inl (cy 1, 8, .inl c_sha_sums_110)), (h0_tests, .inr (8, [.ref h0_aes, .ref h0_modes, .ref h0_gcm, .ref h0_sha, .ref h0_tests_generator, .ref h0_tests_key, .ref h0_tests_work])), (h0_tests_generator, .inr (5, [.ref h0_sha, .ref h0_tests_generator_key, .ref h0_tests_generator_value, .ref h0_tests_generator_message, .int c_tests_generator_begun_98, .int c_tests_generator_requests_99])), (h0_tests_generator_key, .inl (cy 0, 32, .inl c_tests_generator_key_100)), (h0_tests_generator_message, .inl (cy 0, 97, .inl c_tests_generator_message_101)), (h0_tests_generator_value, .inl (cy 0, 32, .inl c_tests_generator_value_102)), (h0_tests_key, .inl (cy 0, 32, .inl c_tests_key_103)), (h0_tests_work, .inl (cy 0, 64, .inl c_tests_work_111))]) := hD
    refine W.eq (g2 := F0 m 78 ls [.int r_90, .ref h0]) rfl ?_
    replace hf := zb_s hf
    obtain ⟨⟨c_state_112, c_testsDone_113, c_counters_114⟩, hc_, hf⟩ := hf
    refine zcn2 (pc := 78) (rv := none) (va_runV (As := [.int r_90]) (rest := []) ⟨hx, hb, hml, hown, hts⟩ (c_X9_takeTestResult l D cy tt H.size h0 h0_buffer h0_slots h0_counters h0_officerPin h0_userPin h0_words h0_sha h0_stream h0_aes h0_modes h0_gcm h0_generator h0_tests h0_message h0_secret r_90 c_state_22 c_testsDone_23 c_counters_9 c_faults c_streamBegun c_state_112 c_testsDone_113 c_counters_114 hc_) (cwV 1 hts gX9_selfTestStep_X9_takeTestResult rfl rfl rfl (by decide +kernel) ⟨Nat.le_of_ble_eq_true rfl, Nat.le_of_ble_eq_true rfl⟩) ⟨zblind, va_recv hK hP (ci := 11) (q0 := 0) rfl rfl, zpre hE hS (hP.sub [0, 3] rfl) (hD.sub [0, 3] (by decide) rfl) (va_free hD hS hA [0, 3] rfl)⟩ rfl rfl hl.1 rfl (lv_room (Nat.le_of_ble_eq_true rfl)) (zdt_at zt_X9_selfTestStep_0 44 rfl) ⟨Nat.zero_le _, Nat.zero_le _⟩) hS hP hD (va_free hD hS hA [0, 3] rfl) [0, 3] rfl (by decide) rfl ?_
    clear hP hD hS hc_
    intro H locs hP hD hS
    replace hP : va_P D vwCl ([(h0, .inr (11, [.ref h0_buffer, .ref h0_slots, .ref h0_counters, .ref h0_officerPin, .ref h0_userPin, .ref h0_words, .ref h0_sha, .ref h0_stream, .ref h0_aes, .ref h0_modes, .ref h0_gcm, .ref h0_generator, .ref h0_tests, .ref h0_message, .ref h0_secret, .int c_state_112, .int c_testsDone_113, .int c_faults, .int c_streamBegun])), (h0_aes, .inr (2, [.ref h0_aes_keys, .int c_aes_rounds_91])), (h0_aes_keys, .inl (cy 1, 60, .inl c_aes_keys_92)), (h0_counters, .inl (cy 1, 3, .inl c_counters_114)), (h0_gcm, .inr (4, [.ref h0_aes, .ref h0_modes, .ref h0_gcm_tag, .long c_gcm_keyHigh_93, .long c_gcm_keyLow_94, .long c_gcm_sumHigh_95, .long c_gcm_sumLow_96])), (h0_gcm_tag, .inl (cy 0, 16, .inl c_gcm_tag_97)), (h0_modes, .inr (6, [.ref h0_aes, .ref h0_modes_block, .ref h0_modes_pad])), (h0_modes_block, .inl (cy 0, 16, .inl c_modes_block_104)), (h0_modes_pad, .inl (cy 0, 16, .inl c_modes_pad_105)), (h0_sha, .inr (9, [.ref h0_sha_sums, .ref h0_sha_schedule, .ref h0_sha_inner, .int c_sha_filled_106, .int c_sha_total_107])), (h0_sha_inner, .inl (cy 0, 32, .inl c_sha_inner_108)), (h0_sha_schedule, .inl (cy 1, 64, .inl c_sha_schedule_109)), (h0_sha_sums, .inl (cy 1, 8, .inl c_sha_sums_110)), (h0_tests, .inr (8, [.ref h0_aes, .ref h0_modes, .ref h0_gcm, .ref h0_sha, .ref h0_tests_generator, .ref h0_tests_key, .ref h0_tests_work])), (h0_tests_generator, .inr (5, [.ref h0_sha, .ref h0_tests_generator_key, .ref h0_tests_generator_value, .ref h0_tests_generator_message, .int c_tests_generator_begun_98, .int c_tests_generator_requests_99])), (h0_tests_generator_key, .inl (cy 0, 32, .inl c_tests_generator_key_100)), (h0_tests_generator_message, .inl (cy 0, 97, .inl c_tests_generator_message_101)), (h0_tests_generator_value, .inl (cy 0, 32, .inl c_tests_generator_value_102)), (h0_tests_key, .inl (cy 0, 32, .inl c_tests_key_103)), (h0_tests_work, .inl (cy 0, 64, .inl c_tests_work_111))]) H := hP
    replace hD : va_D A ([(h0, .inr (11, [.ref h0_buffer, .ref h0_slots, .ref h0_counters, .ref h0_officerPin, .ref h0_userPin, .ref h0_words, .ref h0_sha, .ref h0_stream, .ref h0_aes, .ref h0_modes, .ref h0_gcm, .ref h0_generator, .ref h0_tests, .ref h0_message, .ref h0_secret, .int c_state_112, .int c_testsDone_113, .int c_faults, .int c_streamBegun])), (h0_aes, .inr (2, [.ref h0_aes_keys, .int c_aes_rounds_91])), (h0_aes_keys, .inl (cy 1, 60, .inl c_aes_keys_92)), (h0_counters, .inl (cy 1, 3, .inl c_counters_114)), (h0_gcm, .inr (4, [.ref h0_aes, .ref h0_modes, .ref h0_gcm_tag, .long c_gcm_keyHigh_93, .long c_gcm_keyLow_94, .long c_gcm_sumHigh_95, .long c_gcm_sumLow_96])), (h0_gcm_tag, .inl (cy 0, 16, .inl c_gcm_tag_97)), (h0_modes, .inr (6, [.ref h0_aes, .ref h0_modes_block, .ref h0_modes_pad])), (h0_modes_block, .inl (cy 0, 16, .inl c_modes_block_104)), (h0_modes_pad, .inl (cy 0, 16, .inl c_modes_pad_105)), (h0_sha, .inr (9, [.ref h0_sha_sums, .ref h0_sha_schedule, .ref h0_sha_inner, .int c_sha_filled_106, .int c_sha_total_107])), (h0_sha_inner, .inl (cy 0, 32, .inl c_sha_inner_108)), (h0_sha_schedule, .inl (cy 1, 64, .inl c_sha_schedule_109)), (h0_sha_sums, .inl (cy 1, 8, .inl c_sha_sums_110)), (h0_tests, .inr (8, [.ref h0_aes, .ref h0_modes, .ref h0_gcm, .ref h0_sha, .ref h0_tests_generator, .ref h0_tests_key, .ref h0_tests_work])), (h0_tests_generator, .inr (5, [.ref h0_sha, .ref h0_tests_generator_key, .ref h0_tests_generator_value, .ref h0_tests_generator_message, .int c_tests_generator_begun_98, .int c_tests_generator_requests_99])), (h0_tests_generator_key, .inl (cy 0, 32, .inl c_tests_generator_key_100)), (h0_tests_generator_message, .inl (cy 0, 97, .inl c_tests_generator_message_101)), (h0_tests_generator_value, .inl (cy 0, 32, .inl c_tests_generator_value_102)), (h0_tests_key, .inl (cy 0, 32, .inl c_tests_key_103)), (h0_tests_work, .inl (cy 0, 64, .inl c_tests_work_111))]) := hD
    refine W.eq (g2 := F0 m 81 ls []) rfl ?_
    refine lv_iinc (pc := 81) (v := (i_6 + (1 : Int32))) (lv' := [(2, .int (i_6 + (1 : Int32))), (3, .int (1 : Int32)), (0, .ref h0), (1, .int p1)]) hx hb (zdt_at zt_X9_selfTestStep_0 45 rfl) hl (k := 3) rfl rfl (by decide) rfl ?_
    clear hl
    intro ls hl
    refine lv_goto (pc := 84) (tgt := 31) hx hb (zdt_at zt_X9_selfTestStep_0 46 rfl) (by decide) ?_
    exact hTo _ _ _ (ihself_58 _ hf H locs ls hP hD hS (lv_sub hl [2, 3, 0] rfl))
  clear eK_5
  refine lv_icmp_eq (pc := 15) (tgt := 29) hx hb (zdt_at zt_X9_selfTestStep_0 8 rfl) (by decide) (fun cn_ => ?t_115) (fun cn_ => ?f_116)
  case t_115 =>
    replace hf := zt_s cn_ hf
    clear cn_
    exact hTo _ _ _ (kK_5  H locs ls hP hD hS (lv_sub hl [0, 1] rfl) hf)
  replace hf := ze_s cn_ hf
  clear cn_
  refine lv_aload_n (pc := 18) hx hb (zdt_at zt_X9_selfTestStep_0 9 rfl) rfl (lv_at hl 0 rfl) ?_
  refine va_get (pc := 19) (D := D) (ci := 11) (v := .int c_state) (C := RX9) (T := TX9) (N := 19) hx hb hts hcX9 hown hK hP 0 rfl rfl 15 (by decide) hw0 (fun _ h9 => h9) rfl (zdt_at zt_X9_selfTestStep_0 10 rfl) ?_
  refine lv_iconst (pc := 22) (v := (5 : Int32)) hx hb (zdt_at zt_X9_selfTestStep_0 11 rfl) (by decide) ?_
  refine lv_icmp_eq (pc := 23) (tgt := 29) hx hb (zdt_at zt_X9_selfTestStep_0 12 rfl) (by decide) (fun cn_ => ?t_117) (fun cn_ => ?f_118)
  case t_117 =>
    replace hf := zt_s cn_ hf
    clear cn_
    exact hTo _ _ _ (kK_5  H locs ls hP hD hS (lv_sub hl [0, 1] rfl) hf)
  replace hf := ze_s cn_ hf
  clear cn_
  refine lv_bipush (pc := 26) (v := (-2 : Int32)) hx hb (zdt_at zt_X9_selfTestStep_0 13 rfl) (by decide) ?_
  cases hf
  exact W.iret (pc := 28) hx hb hr (fun t ht hW => ⟨rfl, ⟨by rw [ht]; exact hP, hD⟩, hS.F ht⟩) hS.2.2 (zdt_at zt_X9_selfTestStep_0 14 rfl)
set_option maxHeartbeats 4000000 in
set_option maxRecDepth 100000 in
theorem c_X9_fault (l : Launch) (D : va_G) (cy : Nat → ClassId) (tt : Nat → Nat) (sz : Nat) (h0 : Nat) (h0_buffer : Nat) (h0_slots : Nat) (h0_counters : Nat) (h0_officerPin : Nat) (h0_userPin : Nat) (h0_words : Nat) (h0_sha : Nat) (h0_stream : Nat) (h0_aes : Nat) (h0_modes : Nat) (h0_gcm : Nat) (h0_generator : Nat) (h0_tests : Nat) (h0_message : Nat) (h0_secret : Nat) (p1 : Int32) (c_faults : Int32) (c_state : Int32) (c_testsDone : Int32) (c_streamBegun : Int32) (c_faults' : Int32) (hf : f_X9_fault p1 c_faults = some c_faults') : Met l yX9_fault wsX9_fault ({ frames := 0, cells := 0, slots := 0, locals := 0 }) (zPc D cy tt sz [.ref h0, .int p1] ([(h0, .inr (11, [.ref h0_buffer, .ref h0_slots, .ref h0_counters, .ref h0_officerPin, .ref h0_userPin, .ref h0_words, .ref h0_sha, .ref h0_stream, .ref h0_aes, .ref h0_modes, .ref h0_gcm, .ref h0_generator, .ref h0_tests, .ref h0_message, .ref h0_secret, .int c_state, .int c_testsDone, .int c_faults, .int c_streamBegun]))])) (zQ D none ([(h0, .inr (11, [.ref h0_buffer, .ref h0_slots, .ref h0_counters, .ref h0_officerPin, .ref h0_userPin, .ref h0_words, .ref h0_sha, .ref h0_stream, .ref h0_aes, .ref h0_modes, .ref h0_gcm, .ref h0_generator, .ref h0_tests, .ref h0_message, .ref h0_secret, .int c_state, .int c_testsDone, .int c_faults', .int c_streamBegun]))]) (va_A ([(h0, .inr (11, [.ref h0_buffer, .ref h0_slots, .ref h0_counters, .ref h0_officerPin, .ref h0_userPin, .ref h0_words, .ref h0_sha, .ref h0_stream, .ref h0_aes, .ref h0_modes, .ref h0_gcm, .ref h0_generator, .ref h0_tests, .ref h0_message, .ref h0_secret, .int c_state, .int c_testsDone, .int c_faults, .int c_streamBegun]))]) sz)) 0 0 (va_A ([(h0, .inr (11, [.ref h0_buffer, .ref h0_slots, .ref h0_counters, .ref h0_officerPin, .ref h0_userPin, .ref h0_words, .ref h0_sha, .ref h0_stream, .ref h0_aes, .ref h0_modes, .ref h0_gcm, .ref h0_generator, .ref h0_tests, .ref h0_message, .ref h0_secret, .int c_state, .int c_testsDone, .int c_faults, .int c_streamBegun]))]) sz) := by
  refine Met.ofW (cc := cX9_fault) (maxL := 2) (ret := none) (by decide) rfl ?_
  intro p e s m args below meth c s₁ B hml hv
  obtain ⟨rfl, rfl, hP, hD0, hE⟩ := hv
  have hx := B.exec
  have hb := B.bytes
  have hr := B.returns
  have hts := atoms_spec (ws := wsX9_fault) B.pre
  have hown : s.vm.findClass RX9 = some m.cls := findClass_of_methodNamed B.named
  have hlocks := B.notSynchronized
  clear B
  have hD := hD0.self (sz := s.heap.size)
  generalize hAe : va_A ([(h0, .inr (11, [.ref h0_buffer, .ref h0_slots, .ref h0_counters, .ref h0_officerPin, .ref h0_userPin, .ref h0_words, .ref h0_sha, .ref h0_stream, .ref h0_aes, .ref h0_modes, .ref h0_gcm, .ref h0_generator, .ref h0_tests, .ref h0_message, .ref h0_secret, .int c_state, .int c_testsDone, .int c_faults, .int c_streamBegun]))]) s.heap.size = A at hD hE ⊢
  have hA : ∀ q : Nat, s.heap.size ≤ q → A q := fun q h => by rw [← hAe]; exact Or.inr h
  clear hAe hD0
  have hS : va_S A s.heap s.heap [] := va_S.rf
  have hK := hE.1
  have hw0 := hts (.fieldLink RX9 108 "SealedModule" "faults" "I") (by decide +kernel)
  have hcX9 : ∀ w ∈ u_ws RX9 TX9 19, w ∈ wsX9_fault := (fun _ h => List.mem_cons_of_mem _ (List.mem_append_left _ (List.mem_append_right _ h)))
  have hl := lv_entry ([.ref h0, .int p1]) (n := 2) (Nat.le_of_ble_eq_true rfl)
  rw [lg_entry_eq]
  generalize (lg_sl ([.ref h0, .int p1]) ++ List.replicate (2 - (lg_sl ([.ref h0, .int p1])).length) Slot.unset).toArray = ls at hl ⊢
  replace hl : lv_has ls 2 [(0, .ref h0), (1, .int p1)] := hl
  unfold f_X9_fault at hf
  refine zgo (fun GW hTo hFr => ?_)
  refine hFr _ _ _ ?_
  obtain ⟨H, hHe⟩ : ∃ H, H = s.heap := ⟨_, rfl⟩
  obtain ⟨locs, hLe⟩ : ∃ L : List Loc, L = [] := ⟨_, rfl⟩
  rw [← hHe] at hP
  replace hS : va_S A s.heap H locs := by rw [hHe, hLe]; exact hS
  refine zat hHe.symm hLe.symm ?_
  clear hHe hLe
  refine lv_iload_n (pc := 0) hx hb (zdt_at zt_X9_fault_0 0 rfl) rfl (lv_at hl 1 rfl) ?_
  refine lv_if_lt (pc := 1) (tgt := 10) hx hb (zdt_at zt_X9_fault_0 1 rfl) (by decide) (fun cn_ => ?t_1) (fun cn_ => ?f_2)
  case t_1 =>
    replace hf := zt_s cn_ hf
    clear cn_
    exact absurd hf (by simp)
  replace hf := ze_s cn_ hf
  clear cn_
  refine lv_iload_n (pc := 4) hx hb (zdt_at zt_X9_fault_0 2 rfl) rfl (lv_at hl 1 rfl) ?_
  refine lv_bipush (pc := 5) (v := (10 : Int32)) hx hb (zdt_at zt_X9_fault_0 3 rfl) (by decide) ?_
  refine lv_icmp_lt (pc := 7) (tgt := 20) hx hb (zdt_at zt_X9_fault_0 4 rfl) (by decide) (fun cn_ => ?t_3) (fun cn_ => ?f_4)
  case f_4 =>
    replace hf := ze_s cn_ hf
    clear cn_
    exact absurd hf (by simp)
  replace hf := zt_s cn_ hf
  clear cn_
  refine lv_aload_n (pc := 20) hx hb (zdt_at zt_X9_fault_0 10 rfl) rfl (lv_at hl 0 rfl) ?_
  refine lv_dup (pc := 21) hx hb (zdt_at zt_X9_fault_0 11 rfl) rfl ?_
  refine va_get (pc := 22) (D := D) (ci := 11) (v := .int c_faults) (C := RX9) (T := TX9) (N := 19) hx hb hts hcX9 hown hK hP 0 rfl rfl 17 (by decide) hw0 (fun _ h9 => h9) rfl (zdt_at zt_X9_fault_0 12 rfl) ?_
  refine lv_iconst (pc := 25) (v := (1 : Int32)) hx hb (zdt_at zt_X9_fault_0 13 rfl) (by decide) ?_
  refine lv_iload_n (pc := 26) hx hb (zdt_at zt_X9_fault_0 14 rfl) rfl (lv_at hl 1 rfl) ?_
  refine lv_ishl (pc := 27) hx hb (zdt_at zt_X9_fault_0 15 rfl) ?_
  refine lv_ior (pc := 28) hx hb (zdt_at zt_X9_fault_0 16 rfl) ?_
  refine lv_topi (fun x_5 e_ => ?_)
  replace hf := zn_s hf e_
  clear e_
  refine va_put (pc := 29) (D := D) (ci := 11) (v := .int x_5) (ty := .int) (C := RX9) (T := TX9) (N := 19) hx hb hts hcX9 tyX9 tyX9_ok nmX9 hown hK hP hD hS 0 rfl rfl 17 (by decide) hw0 (fun _ h9 => h9) rfl (by decide +kernel) rfl rfl (Nat.le_of_ble_eq_true rfl) (zdt_at zt_X9_fault_0 17 rfl) ?_
  clear hP hD hS
  intro H locs hP hD hS
  replace hP : va_P D vwCl ([(h0, .inr (11, [.ref h0_buffer, .ref h0_slots, .ref h0_counters, .ref h0_officerPin, .ref h0_userPin, .ref h0_words, .ref h0_sha, .ref h0_stream, .ref h0_aes, .ref h0_modes, .ref h0_gcm, .ref h0_generator, .ref h0_tests, .ref h0_message, .ref h0_secret, .int c_state, .int c_testsDone, .int x_5, .int c_streamBegun]))]) H := hP
  replace hD : va_D A ([(h0, .inr (11, [.ref h0_buffer, .ref h0_slots, .ref h0_counters, .ref h0_officerPin, .ref h0_userPin, .ref h0_words, .ref h0_sha, .ref h0_stream, .ref h0_aes, .ref h0_modes, .ref h0_gcm, .ref h0_generator, .ref h0_tests, .ref h0_message, .ref h0_secret, .int c_state, .int c_testsDone, .int x_5, .int c_streamBegun]))]) := hD
  cases hf
  exact W.vret (pc := 32) hx hb hr (fun t ht hW => ⟨rfl, ⟨by rw [ht]; exact hP, hD⟩, hS.F ht⟩) hS.2.2 (zdt_at zt_X9_fault_0 18 rfl)
set_option maxHeartbeats 4000000 in
set_option maxRecDepth 100000 in
theorem c_X9_poke (l : Launch) (D : va_G) (cy : Nat → ClassId) (tt : Nat → Nat) (sz : Nat) (h0 : Nat) (h0_buffer : Nat) (h0_slots : Nat) (h0_counters : Nat) (h0_officerPin : Nat) (h0_userPin : Nat) (h0_words : Nat) (h0_sha : Nat) (h0_stream : Nat) (h0_aes : Nat) (h0_modes : Nat) (h0_gcm : Nat) (h0_generator : Nat) (h0_tests : Nat) (h0_message : Nat) (h0_secret : Nat) (p1 : Int32) (p2 : Int64) (p3 : Int32) (c_state : Int32) (c_buffer : Nat → Int32) (c_testsDone : Int32) (c_faults : Int32) (c_streamBegun : Int32) (c_buffer' : Nat → Int32) (hf : f_X9_poke p1 p2 p3 c_state c_buffer = some c_buffer') : Met l yX9_poke wsX9_poke ({ frames := 1, cells := 0, slots := 0, locals := 21 }) (zPc D cy tt sz [.ref h0, .int p1, .long p2, .int p3] ([(h0, .inr (11, [.ref h0_buffer, .ref h0_slots, .ref h0_counters, .ref h0_officerPin, .ref h0_userPin, .ref h0_words, .ref h0_sha, .ref h0_stream, .ref h0_aes, .ref h0_modes, .ref h0_gcm, .ref h0_generator, .ref h0_tests, .ref h0_message, .ref h0_secret, .int c_state, .int c_testsDone, .int c_faults, .int c_streamBegun])), (h0_buffer, .inl (cy 0, 512, .inl c_buffer))])) (zQ D none ([(h0, .inr (11, [.ref h0_buffer, .ref h0_slots, .ref h0_counters, .ref h0_officerPin, .ref h0_userPin, .ref h0_words, .ref h0_sha, .ref h0_stream, .ref h0_aes, .ref h0_modes, .ref h0_gcm, .ref h0_generator, .ref h0_tests, .ref h0_message, .ref h0_secret, .int c_state, .int c_testsDone, .int c_faults, .int c_streamBegun])), (h0_buffer, .inl (cy 0, 512, .inl c_buffer'))]) (va_A ([(h0, .inr (11, [.ref h0_buffer, .ref h0_slots, .ref h0_counters, .ref h0_officerPin, .ref h0_userPin, .ref h0_words, .ref h0_sha, .ref h0_stream, .ref h0_aes, .ref h0_modes, .ref h0_gcm, .ref h0_generator, .ref h0_tests, .ref h0_message, .ref h0_secret, .int c_state, .int c_testsDone, .int c_faults, .int c_streamBegun])), (h0_buffer, .inl (cy 0, 512, .inl c_buffer))]) sz)) 0 0 (va_A ([(h0, .inr (11, [.ref h0_buffer, .ref h0_slots, .ref h0_counters, .ref h0_officerPin, .ref h0_userPin, .ref h0_words, .ref h0_sha, .ref h0_stream, .ref h0_aes, .ref h0_modes, .ref h0_gcm, .ref h0_generator, .ref h0_tests, .ref h0_message, .ref h0_secret, .int c_state, .int c_testsDone, .int c_faults, .int c_streamBegun])), (h0_buffer, .inl (cy 0, 512, .inl c_buffer))]) sz) := by
  refine Met.ofW (cc := cX9_poke) (maxL := 6) (ret := none) (by decide) rfl ?_
  intro p e s m args below meth c s₁ B hml hv
  obtain ⟨rfl, rfl, hP, hD0, hE⟩ := hv
  have hx := B.exec
  have hb := B.bytes
  have hr := B.returns
  have hts := atoms_spec (ws := wsX9_poke) B.pre
  have hown : s.vm.findClass RX9 = some m.cls := findClass_of_methodNamed B.named
  have hlocks := B.notSynchronized
  clear B
  have hD := hD0.self (sz := s.heap.size)
  generalize hAe : va_A ([(h0, .inr (11, [.ref h0_buffer, .ref h0_slots, .ref h0_counters, .ref h0_officerPin, .ref h0_userPin, .ref h0_words, .ref h0_sha, .ref h0_stream, .ref h0_aes, .ref h0_modes, .ref h0_gcm, .ref h0_generator, .ref h0_tests, .ref h0_message, .ref h0_secret, .int c_state, .int c_testsDone, .int c_faults, .int c_streamBegun])), (h0_buffer, .inl (cy 0, 512, .inl c_buffer))]) s.heap.size = A at hD hE ⊢
  have hA : ∀ q : Nat, s.heap.size ≤ q → A q := fun q h => by rw [← hAe]; exact Or.inr h
  clear hAe hD0
  have hS : va_S A s.heap s.heap [] := va_S.rf
  have hK := hE.1
  have hw0 := hts (.fieldLink RX9 101 "SealedModule" "state" "I") (by decide +kernel)
  have hw1 := hts (.fieldLink RX9 9 "SealedModule" "buffer" "[B") (by decide +kernel)
  have hcX9 : ∀ w ∈ u_ws RX9 TX9 19, w ∈ wsX9_poke := (fun _ h => List.mem_cons_of_mem _ (List.mem_append_left _ (List.mem_append_left _ (List.mem_append_right _ h))))
  have hl := lv_entry ([.ref h0, .int p1, .long p2, .int p3]) (n := 6) (Nat.le_of_ble_eq_true rfl)
  rw [lg_entry_eq]
  generalize (lg_sl ([.ref h0, .int p1, .long p2, .int p3]) ++ List.replicate (6 - (lg_sl ([.ref h0, .int p1, .long p2, .int p3])).length) Slot.unset).toArray = ls at hl ⊢
  replace hl : lv_has ls 6 [(0, .ref h0), (1, .int p1), (2, .long p2), (4, .int p3)] := hl
  unfold f_X9_poke at hf
  refine zgo (fun GW hTo hFr => ?_)
  refine hFr _ _ _ ?_
  obtain ⟨H, hHe⟩ : ∃ H, H = s.heap := ⟨_, rfl⟩
  obtain ⟨locs, hLe⟩ : ∃ L : List Loc, L = [] := ⟨_, rfl⟩
  rw [← hHe] at hP
  replace hS : va_S A s.heap H locs := by rw [hHe, hLe]; exact hS
  refine zat hHe.symm hLe.symm ?_
  clear hHe hLe
  refine lv_aload_n (pc := 0) hx hb (zdt_at zt_X9_poke_0 0 rfl) rfl (lv_at hl 0 rfl) ?_
  refine va_get (pc := 1) (D := D) (ci := 11) (v := .int c_state) (C := RX9) (T := TX9) (N := 19) hx hb hts hcX9 hown hK hP 0 rfl rfl 15 (by decide) hw0 (fun _ h9 => h9) rfl (zdt_at zt_X9_poke_0 1 rfl) ?_
  refine lv_if_ne (pc := 4) (tgt := 17) hx hb (zdt_at zt_X9_poke_0 2 rfl) (by decide) (fun cn_ => ?t_1) (fun cn_ => ?f_2)
  case f_2 =>
    replace hf := zt_s cn_ hf
    clear cn_
    exact absurd hf (by simp)
  replace hf := ze_s cn_ hf
  clear cn_
  refine lv_iload (pc := 17) hx hb (zdt_at zt_X9_poke_0 8 rfl) (lv_at hl 3 rfl) ?_
  refine lv_iconst (pc := 19) (v := (1 : Int32)) hx hb (zdt_at zt_X9_poke_0 9 rfl) (by decide) ?_
  refine lv_icmp_lt (pc := 20) (tgt := 39) hx hb (zdt_at zt_X9_poke_0 10 rfl) (by decide) (fun cn_ => ?t_3) (fun cn_ => ?f_4)
  case t_3 =>
    replace hf := zt_s cn_ hf
    clear cn_
    exact absurd hf (by simp)
  replace hf := ze_s cn_ hf
  clear cn_
  refine lv_iload (pc := 23) hx hb (zdt_at zt_X9_poke_0 11 rfl) (lv_at hl 3 rfl) ?_
  refine lv_bipush (pc := 25) (v := (8 : Int32)) hx hb (zdt_at zt_X9_poke_0 12 rfl) (by decide) ?_
  refine lv_icmp_gt (pc := 27) (tgt := 39) hx hb (zdt_at zt_X9_poke_0 13 rfl) (by decide) (fun cn_ => ?t_5) (fun cn_ => ?f_6)
  case t_5 =>
    replace hf := zt_s cn_ hf
    clear cn_
    exact absurd hf (by simp)
  replace hf := ze_s cn_ hf
  clear cn_
  refine lv_iload_n (pc := 30) hx hb (zdt_at zt_X9_poke_0 14 rfl) rfl (lv_at hl 1 rfl) ?_
  refine lv_iload (pc := 31) hx hb (zdt_at zt_X9_poke_0 15 rfl) (lv_at hl 3 rfl) ?_
  replace hf := zb_s hf
  obtain ⟨r_7, hc_, hf⟩ := hf
  refine zcs (pc := 33) (rv := (some (.int r_7))) (va_runS (As := [.int p1, .int p3]) (rest := []) ⟨hx, hb, hml, hown, hts⟩ (c_X9_inBuffer l D cy tt H.size p1 p3 r_7 hc_) (va_cwS 2 hts gX9_poke_X9_inBuffer rfl rfl rfl (by decide +kernel) ⟨Nat.le_of_ble_eq_true rfl, Nat.le_of_ble_eq_true rfl⟩) ⟨zblind, zpre hE hS (hP.sub [] rfl) (hD.sub [] (by decide) rfl) (va_free hD hS hA [] rfl)⟩ rfl rfl hl.1 rfl (lv_room (Nat.le_of_ble_eq_true rfl)) (zdt_at zt_X9_poke_0 16 rfl) ⟨Nat.zero_le _, Nat.zero_le _⟩) ?_
  clear hc_
  refine W.eq (g2 := F0 m 36 ls [.int r_7]) rfl ?_
  refine lv_if_ne (pc := 36) (tgt := 49) hx hb (zdt_at zt_X9_poke_0 17 rfl) (by decide) (fun cn_ => ?t_8) (fun cn_ => ?f_9)
  case f_9 =>
    replace hf := zt_s cn_ hf
    clear cn_
    exact absurd hf (by simp)
  replace hf := ze_s cn_ hf
  clear cn_
  refine lv_iconst (pc := 49) (v := (0 : Int32)) hx hb (zdt_at zt_X9_poke_0 23 rfl) (by decide) ?_
  refine lv_istore (pc := 50) (lv' := [(5, .int (0 : Int32)), (0, .ref h0), (1, .int p1), (2, .long p2), (4, .int p3)]) hx hb (zdt_at zt_X9_poke_0 24 rfl) hl (by decide) rfl ?_
  clear hl
  intro ls hl
  replace hf := zj_s hf
  obtain ⟨K_13, eK_13, hf⟩ := hf
  have kK_13 : ∀ (c_buffer_12 : Nat → Int32) (H : Heap) (locs : List Loc) (ls : Array Slot), va_P D vwCl ([(h0, .inr (11, [.ref h0_buffer, .ref h0_slots, .ref h0_counters, .ref h0_officerPin, .ref h0_userPin, .ref h0_words, .ref h0_sha, .ref h0_stream, .ref h0_aes, .ref h0_modes, .ref h0_gcm, .ref h0_generator, .ref h0_tests, .ref h0_message, .ref h0_secret, .int c_state, .int c_testsDone, .int c_faults, .int c_streamBegun])), (h0_buffer, .inl (cy 0, 512, .inl c_buffer_12))]) H → va_D A ([(h0, .inr (11, [.ref h0_buffer, .ref h0_slots, .ref h0_counters, .ref h0_officerPin, .ref h0_userPin, .ref h0_words, .ref h0_sha, .ref h0_stream, .ref h0_aes, .ref h0_modes, .ref h0_gcm, .ref h0_generator, .ref h0_tests, .ref h0_message, .ref h0_secret, .int c_state, .int c_testsDone, .int c_faults, .int c_streamBegun])), (h0_buffer, .inl (cy 0, 512, .inl c_buffer_12))]) → va_S A s.heap H locs → lv_has ls 6 [] → K_13 c_buffer_12 = some c_buffer' → GW H locs (F0 m 88 ls []) := by
    clear hf hl hP hD hS
    intro c_buffer_12 H locs ls hP hD hS hl hf
    rw [eK_13] at hf
    clear eK_13
    refine hFr _ _ _ ?_
    cases hf
    exact W.vret (pc := 88) hx hb hr (fun t ht hW => ⟨rfl, ⟨by rw [ht]; exact hP, hD⟩, hS.F ht⟩) hS.2.2 (zdt_at zt_X9_poke_0 47 rfl)
  clear eK_13
  refine hTo _ _ _ (zl_go (fun z => match z with | (i_10, c_buffer_11) => ∀ (H : Heap) (locs : List Loc) (ls : Array Slot), va_P D vwCl ([(h0, .inr (11, [.ref h0_buffer, .ref h0_slots, .ref h0_counters, .ref h0_officerPin, .ref h0_userPin, .ref h0_words, .ref h0_sha, .ref h0_stream, .ref h0_aes, .ref h0_modes, .ref h0_gcm, .ref h0_generator, .ref h0_tests, .ref h0_message, .ref h0_secret, .int c_state, .int c_testsDone, .int c_faults, .int c_streamBegun])), (h0_buffer, .inl (cy 0, 512, .inl c_buffer_11))]) H → va_D A ([(h0, .inr (11, [.ref h0_buffer, .ref h0_slots, .ref h0_counters, .ref h0_officerPin, .ref h0_userPin, .ref h0_words, .ref h0_sha, .ref h0_stream, .ref h0_aes, .ref h0_modes, .ref h0_gcm, .ref h0_generator, .ref h0_tests, .ref h0_message, .ref h0_secret, .int c_state, .int c_testsDone, .int c_faults, .int c_streamBegun])), (h0_buffer, .inl (cy 0, 512, .inl c_buffer_11))]) → va_S A s.heap H locs → lv_has ls 6 [(0, .ref h0), (1, .int p1), (2, .long p2), (4, .int p3), (5, .int i_10)] → GW H locs (F0 m 52 ls [])) hf ?_ H locs ls hP hD hS (lv_sub hl [1, 2, 3, 4, 0] rfl))
  clear hf hl hP hD hS
  intro self_14 ihself_14 z hf
  obtain ⟨i_10, c_buffer_11⟩ := z
  intro H locs ls hP hD hS hl
  refine hFr _ _ _ ?_
  unfold b_X9_poke_52 at hf
  refine lv_iload (pc := 52) hx hb (zdt_at zt_X9_poke_0 25 rfl) (lv_at hl 4 rfl) ?_
  refine lv_iload (pc := 54) hx hb (zdt_at zt_X9_poke_0 26 rfl) (lv_at hl 3 rfl) ?_
  refine lv_icmp_ge (pc := 56) (tgt := 88) hx hb (zdt_at zt_X9_poke_0 27 rfl) (by decide) (fun cn_ => ?t_15) (fun cn_ => ?f_16)
  case t_15 =>
    replace hf := zt_s cn_ hf
    clear cn_
    exact hTo _ _ _ (kK_13 _ H locs ls hP hD hS (lv_sub hl [] rfl) hf)
  replace hf := ze_s cn_ hf
  clear cn_
  refine lv_aload_n (pc := 59) hx hb (zdt_at zt_X9_poke_0 28 rfl) rfl (lv_at hl 0 rfl) ?_
  refine va_get (pc := 60) (D := D) (ci := 11) (v := .ref h0_buffer) (C := RX9) (T := TX9) (N := 19) hx hb hts hcX9 hown hK hP 0 rfl rfl 0 (by decide) hw1 (fun _ h9 => h9) rfl (zdt_at zt_X9_poke_0 29 rfl) ?_
  refine lv_iload_n (pc := 63) hx hb (zdt_at zt_X9_poke_0 30 rfl) rfl (lv_at hl 1 rfl) ?_
  refine lv_iload (pc := 64) hx hb (zdt_at zt_X9_poke_0 31 rfl) (lv_at hl 4 rfl) ?_
  refine lv_iadd (pc := 66) hx hb (zdt_at zt_X9_poke_0 32 rfl) ?_
  refine lv_lload_n (pc := 67) hx hb (zdt_at zt_X9_poke_0 33 rfl) rfl (lv_at hl 2 rfl) ?_
  refine lv_bipush (pc := 68) (v := (8 : Int32)) hx hb (zdt_at zt_X9_poke_0 34 rfl) (by decide) ?_
  refine lv_iload (pc := 70) hx hb (zdt_at zt_X9_poke_0 35 rfl) (lv_at hl 3 rfl) ?_
  refine lv_iconst (pc := 72) (v := (1 : Int32)) hx hb (zdt_at zt_X9_poke_0 36 rfl) (by decide) ?_
  refine lv_isub (pc := 73) hx hb (zdt_at zt_X9_poke_0 37 rfl) ?_
  refine lv_iload (pc := 74) hx hb (zdt_at zt_X9_poke_0 38 rfl) (lv_at hl 4 rfl) ?_
  refine lv_isub (pc := 76) hx hb (zdt_at zt_X9_poke_0 39 rfl) ?_
  refine lv_imul (pc := 77) hx hb (zdt_at zt_X9_poke_0 40 rfl) ?_
  refine lv_lushr (pc := 78) hx hb (zdt_at zt_X9_poke_0 41 rfl) rfl ?_
  refine lv_l2i (pc := 79) hx hb (zdt_at zt_X9_poke_0 42 rfl) rfl ?_
  refine lv_i2b (pc := 80) hx hb (zdt_at zt_X9_poke_0 43 rfl) rfl ?_
  replace hf := zk_s hf
  refine va_bast (pc := 81) hx hb hK hP hD hS 1 0 rfl rfl hf.1 (zdt_at zt_X9_poke_0 44 rfl) ?_
  replace hf := hf.2
  clear hP hD hS
  intro H locs hP hD hS
  obtain ⟨c_buffer_17, e_⟩ : ∃ q : Nat → Int32, q = (upd c_buffer_11 (p1 + i_10).toNatClampNeg (vp_nar .byte ((((p2.toUInt64 >>> (((8 : Int32) * ((p3 - (1 : Int32)) - i_10)).toInt64.toUInt64 &&& Int64.toUInt64 63)).toInt64).toInt32).toInt8.toInt32))) := ⟨_, rfl⟩
  replace hf := zn_s hf e_
  replace hP : va_P D vwCl ([(h0, .inr (11, [.ref h0_buffer, .ref h0_slots, .ref h0_counters, .ref h0_officerPin, .ref h0_userPin, .ref h0_words, .ref h0_sha, .ref h0_stream, .ref h0_aes, .ref h0_modes, .ref h0_gcm, .ref h0_generator, .ref h0_tests, .ref h0_message, .ref h0_secret, .int c_state, .int c_testsDone, .int c_faults, .int c_streamBegun])), (h0_buffer, .inl (cy 0, 512, .inl c_buffer_17))]) H := by rw [e_]; exact hP
  replace hD : va_D A ([(h0, .inr (11, [.ref h0_buffer, .ref h0_slots, .ref h0_counters, .ref h0_officerPin, .ref h0_userPin, .ref h0_words, .ref h0_sha, .ref h0_stream, .ref h0_aes, .ref h0_modes, .ref h0_gcm, .ref h0_generator, .ref h0_tests, .ref h0_message, .ref h0_secret, .int c_state, .int c_testsDone, .int c_faults, .int c_streamBegun])), (h0_buffer, .inl (cy 0, 512, .inl c_buffer_17))]) := by rw [e_]; exact hD
  clear e_
  refine lv_iinc (pc := 82) (v := (i_10 + (1 : Int32))) (lv' := [(5, .int (i_10 + (1 : Int32))), (0, .ref h0), (1, .int p1), (2, .long p2), (4, .int p3)]) hx hb (zdt_at zt_X9_poke_0 45 rfl) hl (k := 4) rfl rfl (by decide) rfl ?_
  clear hl
  intro ls hl
  refine lv_goto (pc := 85) (tgt := 52) hx hb (zdt_at zt_X9_poke_0 46 rfl) (by decide) ?_
  exact hTo _ _ _ (ihself_14 _ hf H locs ls hP hD hS (lv_sub hl [1, 2, 3, 4, 0] rfl))
set_option maxHeartbeats 4000000 in
set_option maxRecDepth 100000 in
theorem c_X9_loggedIn (l : Launch) (D : va_G) (cy : Nat → ClassId) (tt : Nat → Nat) (sz : Nat) (h0 : Nat) (h0_buffer : Nat) (h0_slots : Nat) (h0_counters : Nat) (h0_officerPin : Nat) (h0_userPin : Nat) (h0_words : Nat) (h0_sha : Nat) (h0_stream : Nat) (h0_aes : Nat) (h0_modes : Nat) (h0_gcm : Nat) (h0_generator : Nat) (h0_tests : Nat) (h0_message : Nat) (h0_secret : Nat) (c_state : Int32) (c_testsDone : Int32) (c_faults : Int32) (c_streamBegun : Int32) (r_ : Int32) (hf : f_X9_loggedIn c_state = some r_) : Met l yX9_loggedIn wsX9_loggedIn ({ frames := 0, cells := 0, slots := 0, locals := 0 }) (zPc D cy tt sz [.ref h0] ([(h0, .inr (11, [.ref h0_buffer, .ref h0_slots, .ref h0_counters, .ref h0_officerPin, .ref h0_userPin, .ref h0_words, .ref h0_sha, .ref h0_stream, .ref h0_aes, .ref h0_modes, .ref h0_gcm, .ref h0_generator, .ref h0_tests, .ref h0_message, .ref h0_secret, .int c_state, .int c_testsDone, .int c_faults, .int c_streamBegun]))])) (fun _ st o t => o = .returned (some (.int r_)) ∧ t.heap = st.heap) 0 0 (fun _ => False) := by
  refine Met.ofW (cc := cX9_loggedIn) (maxL := 1) (ret := (some .boolean)) (by decide) rfl ?_
  intro p e s m args below meth c s₁ B hml hv
  obtain ⟨rfl, rfl, hP, hD0, hE⟩ := hv
  have hx := B.exec
  have hb := B.bytes
  have hr := B.returns
  have hts := atoms_spec (ws := wsX9_loggedIn) B.pre
  have hown : s.vm.findClass RX9 = some m.cls := findClass_of_methodNamed B.named
  have hlocks := B.notSynchronized
  clear B
  have hD := hD0.self (sz := s.heap.size)
  generalize hAe : va_A ([(h0, .inr (11, [.ref h0_buffer, .ref h0_slots, .ref h0_counters, .ref h0_officerPin, .ref h0_userPin, .ref h0_words, .ref h0_sha, .ref h0_stream, .ref h0_aes, .ref h0_modes, .ref h0_gcm, .ref h0_generator, .ref h0_tests, .ref h0_message, .ref h0_secret, .int c_state, .int c_testsDone, .int c_faults, .int c_streamBegun]))]) s.heap.size = A at hD hE
  have hA : ∀ q : Nat, s.heap.size ≤ q → A q := fun q h => by rw [← hAe]; exact Or.inr h
  clear hAe hD0
  have hS : va_S A s.heap s.heap [] := va_S.rf
  have hK := hE.1
  have hw0 := hts (.fieldLink RX9 101 "SealedModule" "state" "I") (by decide +kernel)
  have hcX9 : ∀ w ∈ u_ws RX9 TX9 19, w ∈ wsX9_loggedIn := (fun _ h => List.mem_cons_of_mem _ (List.mem_append_right _ h))
  have hl := lv_entry ([.ref h0]) (n := 1) (Nat.le_of_ble_eq_true rfl)
  rw [lg_entry_eq]
  generalize (lg_sl ([.ref h0]) ++ List.replicate (1 - (lg_sl ([.ref h0])).length) Slot.unset).toArray = ls at hl ⊢
  replace hl : lv_has ls 1 [(0, .ref h0)] := hl
  unfold f_X9_loggedIn at hf
  refine zgo (fun GW hTo hFr => ?_)
  refine hFr _ _ _ ?_
  refine lv_aload_n (pc := 0) hx hb (zdt_at zt_X9_loggedIn_0 0 rfl) rfl (lv_at hl 0 rfl) ?_
  refine va_get (pc := 1) (D := D) (ci := 11) (v := .int c_state) (C := RX9) (T := TX9) (N := 19) hx hb hts hcX9 hown hK hP 0 rfl rfl 15 (by decide) hw0 (fun _ h9 => h9) rfl (zdt_at zt_X9_loggedIn_0 1 rfl) ?_
  refine lv_iconst (pc := 4) (v := (3 : Int32)) hx hb (zdt_at zt_X9_loggedIn_0 2 rfl) (by decide) ?_
  refine lv_icmp_eq (pc := 5) (tgt := 16) hx hb (zdt_at zt_X9_loggedIn_0 3 rfl) (by decide) (fun cn_ => ?t_1) (fun cn_ => ?f_2)
  case t_1 =>
    replace hf := zt_s cn_ hf
    clear cn_
    refine lv_iconst (pc := 16) (v := (1 : Int32)) hx hb (zdt_at zt_X9_loggedIn_0 8 rfl) (by decide) ?_
    refine lv_goto (pc := 17) (tgt := 21) hx hb (zdt_at zt_X9_loggedIn_0 9 rfl) (by decide) ?_
    cases hf
    exact W.zret (pc := 21) hx hb hr rfl (fun t ht hW => ⟨rfl, ht⟩) (fun _ h => nomatch h) (zdt_at zt_X9_loggedIn_0 11 rfl)
  replace hf := ze_s cn_ hf
  clear cn_
  refine lv_aload_n (pc := 8) hx hb (zdt_at zt_X9_loggedIn_0 4 rfl) rfl (lv_at hl 0 rfl) ?_
  refine va_get (pc := 9) (D := D) (ci := 11) (v := .int c_state) (C := RX9) (T := TX9) (N := 19) hx hb hts hcX9 hown hK hP 0 rfl rfl 15 (by decide) hw0 (fun _ h9 => h9) rfl (zdt_at zt_X9_loggedIn_0 5 rfl) ?_
  refine lv_iconst (pc := 12) (v := (4 : Int32)) hx hb (zdt_at zt_X9_loggedIn_0 6 rfl) (by decide) ?_
  refine lv_icmp_ne (pc := 13) (tgt := 20) hx hb (zdt_at zt_X9_loggedIn_0 7 rfl) (by decide) (fun cn_ => ?t_3) (fun cn_ => ?f_4)
  case t_3 =>
    replace hf := ze_s cn_ hf
    clear cn_
    refine lv_iconst (pc := 20) (v := (0 : Int32)) hx hb (zdt_at zt_X9_loggedIn_0 10 rfl) (by decide) ?_
    cases hf
    exact W.zret (pc := 21) hx hb hr rfl (fun t ht hW => ⟨rfl, ht⟩) (fun _ h => nomatch h) (zdt_at zt_X9_loggedIn_0 11 rfl)
  replace hf := zt_s cn_ hf
  clear cn_
  refine lv_iconst (pc := 16) (v := (1 : Int32)) hx hb (zdt_at zt_X9_loggedIn_0 8 rfl) (by decide) ?_
  refine lv_goto (pc := 17) (tgt := 21) hx hb (zdt_at zt_X9_loggedIn_0 9 rfl) (by decide) ?_
  cases hf
  exact W.zret (pc := 21) hx hb hr rfl (fun t ht hW => ⟨rfl, ht⟩) (fun _ h => nomatch h) (zdt_at zt_X9_loggedIn_0 11 rfl)
set_option maxHeartbeats 4000000 in
set_option maxRecDepth 100000 in
theorem c_X9_peek (l : Launch) (D : va_G) (cy : Nat → ClassId) (tt : Nat → Nat) (sz : Nat) (h0 : Nat) (h0_buffer : Nat) (h0_slots : Nat) (h0_counters : Nat) (h0_officerPin : Nat) (h0_userPin : Nat) (h0_words : Nat) (h0_sha : Nat) (h0_stream : Nat) (h0_aes : Nat) (h0_modes : Nat) (h0_gcm : Nat) (h0_generator : Nat) (h0_tests : Nat) (h0_message : Nat) (h0_secret : Nat) (p1 : Int32) (c_state : Int32) (c_buffer : Nat → Int32) (c_testsDone : Int32) (c_faults : Int32) (c_streamBegun : Int32) (r_ : Int64) (hf : f_X9_peek p1 c_state c_buffer = some r_) : Met l yX9_peek wsX9_peek ({ frames := 2, cells := 0, slots := 0, locals := 42 }) (zPc D cy tt sz [.ref h0, .int p1] ([(h0, .inr (11, [.ref h0_buffer, .ref h0_slots, .ref h0_counters, .ref h0_officerPin, .ref h0_userPin, .ref h0_words, .ref h0_sha, .ref h0_stream, .ref h0_aes, .ref h0_modes, .ref h0_gcm, .ref h0_generator, .ref h0_tests, .ref h0_message, .ref h0_secret, .int c_state, .int c_testsDone, .int c_faults, .int c_streamBegun])), (h0_buffer, .inl (cy 0, 512, .inl c_buffer))])) (fun _ st o t => o = .returned (some (.long r_)) ∧ t.heap = st.heap) 0 0 (fun _ => False) := by
  refine Met.ofW (cc := cX9_peek) (maxL := 2) (ret := (some .long)) (by decide) rfl ?_
  intro p e s m args below meth c s₁ B hml hv
  obtain ⟨rfl, rfl, hP, hD0, hE⟩ := hv
  have hx := B.exec
  have hb := B.bytes
  have hr := B.returns
  have hts := atoms_spec (ws := wsX9_peek) B.pre
  have hown : s.vm.findClass RX9 = some m.cls := findClass_of_methodNamed B.named
  have hlocks := B.notSynchronized
  clear B
  have hD := hD0.self (sz := s.heap.size)
  generalize hAe : va_A ([(h0, .inr (11, [.ref h0_buffer, .ref h0_slots, .ref h0_counters, .ref h0_officerPin, .ref h0_userPin, .ref h0_words, .ref h0_sha, .ref h0_stream, .ref h0_aes, .ref h0_modes, .ref h0_gcm, .ref h0_generator, .ref h0_tests, .ref h0_message, .ref h0_secret, .int c_state, .int c_testsDone, .int c_faults, .int c_streamBegun])), (h0_buffer, .inl (cy 0, 512, .inl c_buffer))]) s.heap.size = A at hD hE
  have hA : ∀ q : Nat, s.heap.size ≤ q → A q := fun q h => by rw [← hAe]; exact Or.inr h
  clear hAe hD0
  have hS : va_S A s.heap s.heap [] := va_S.rf
  have hK := hE.1
  have hw0 := hts (.fieldLink RX9 9 "SealedModule" "buffer" "[B") (by decide +kernel)
  have hcX9 : ∀ w ∈ u_ws RX9 TX9 19, w ∈ wsX9_peek := (fun _ h => List.mem_cons_of_mem _ (List.mem_append_left _ (List.mem_append_right _ h)))
  have hl := lv_entry ([.ref h0, .int p1]) (n := 2) (Nat.le_of_ble_eq_true rfl)
  rw [lg_entry_eq]
  generalize (lg_sl ([.ref h0, .int p1]) ++ List.replicate (2 - (lg_sl ([.ref h0, .int p1])).length) Slot.unset).toArray = ls at hl ⊢
  replace hl : lv_has ls 2 [(0, .ref h0), (1, .int p1)] := hl
  unfold f_X9_peek at hf
  refine zgo (fun GW hTo hFr => ?_)
  refine hFr _ _ _ ?_
  refine lv_iload_n (pc := 0) hx hb (zdt_at zt_X9_peek_0 0 rfl) rfl (lv_at hl 1 rfl) ?_
  refine lv_bipush (pc := 1) (v := (8 : Int32)) hx hb (zdt_at zt_X9_peek_0 1 rfl) (by decide) ?_
  replace hf := zb_s hf
  obtain ⟨r_1, hc_, hf⟩ := hf
  refine zcs (pc := 3) (rv := (some (.int r_1))) (va_runS (As := [.int p1, .int (8 : Int32)]) (rest := []) ⟨hx, hb, hml, hown, hts⟩ (c_X9_inBuffer l D cy tt s.heap.size p1 (8 : Int32) r_1 hc_) (va_cwS 2 hts gX9_peek_X9_inBuffer rfl rfl rfl (by decide +kernel) ⟨Nat.le_of_ble_eq_true rfl, Nat.le_of_ble_eq_true rfl⟩) ⟨zblind, zpre hE hS (hP.sub [] rfl) (hD.sub [] (by decide) rfl) (va_free hD hS hA [] rfl)⟩ rfl rfl hl.1 rfl (lv_room (Nat.le_of_ble_eq_true rfl)) (zdt_at zt_X9_peek_0 2 rfl) ⟨Nat.zero_le _, Nat.zero_le _⟩) ?_
  clear hc_
  refine W.eq (g2 := F0 m 6 ls [.int r_1]) rfl ?_
  refine lv_if_ne (pc := 6) (tgt := 19) hx hb (zdt_at zt_X9_peek_0 3 rfl) (by decide) (fun cn_ => ?t_2) (fun cn_ => ?f_3)
  case f_3 =>
    replace hf := zt_s cn_ hf
    clear cn_
    exact absurd hf (by simp)
  replace hf := ze_s cn_ hf
  clear cn_
  refine lv_aload_n (pc := 19) hx hb (zdt_at zt_X9_peek_0 9 rfl) rfl (lv_at hl 0 rfl) ?_
  replace hf := zb_s hf
  obtain ⟨r_4, hc_, hf⟩ := hf
  refine zcs (pc := 20) (rv := (some (.int r_4))) (va_runV (As := []) (rest := []) ⟨hx, hb, hml, hown, hts⟩ (c_X9_loggedIn l D cy tt s.heap.size h0 h0_buffer h0_slots h0_counters h0_officerPin h0_userPin h0_words h0_sha h0_stream h0_aes h0_modes h0_gcm h0_generator h0_tests h0_message h0_secret c_state c_testsDone c_faults c_streamBegun r_4 hc_) (cwV 0 hts gX9_peek_X9_loggedIn rfl rfl rfl (by decide +kernel) ⟨Nat.le_of_ble_eq_true rfl, Nat.le_of_ble_eq_true rfl⟩) ⟨zblind, va_recv hK hP (ci := 11) (q0 := 0) rfl rfl, zpre hE hS (hP.sub [0] rfl) (hD.sub [0] (by decide) rfl) (va_free hD hS hA [0] rfl)⟩ rfl rfl hl.1 rfl (lv_room (Nat.le_of_ble_eq_true rfl)) (zdt_at zt_X9_peek_0 10 rfl) ⟨Nat.zero_le _, Nat.zero_le _⟩) ?_
  clear hc_
  refine W.eq (g2 := F0 m 23 ls [.int r_4]) rfl ?_
  refine lv_if_eq (pc := 23) (tgt := 37) hx hb (zdt_at zt_X9_peek_0 11 rfl) (by decide) (fun cn_ => ?t_5) (fun cn_ => ?f_6)
  case t_5 =>
    replace hf := zt_s cn_ hf
    clear cn_
    refine lv_lconst (pc := 37) (v := (0 : Int64)) hx hb (zdt_at zt_X9_peek_0 17 rfl) (by decide) ?_
    cases hf
    exact W.lret (pc := 38) hx hb hr (fun t ht hW => ⟨rfl, ht⟩) (fun _ h => nomatch h) (zdt_at zt_X9_peek_0 18 rfl)
  replace hf := ze_s cn_ hf
  clear cn_
  refine lv_aload_n (pc := 26) hx hb (zdt_at zt_X9_peek_0 12 rfl) rfl (lv_at hl 0 rfl) ?_
  refine va_get (pc := 27) (D := D) (ci := 11) (v := .ref h0_buffer) (C := RX9) (T := TX9) (N := 19) hx hb hts hcX9 hown hK hP 0 rfl rfl 0 (by decide) hw0 (fun _ h9 => h9) rfl (zdt_at zt_X9_peek_0 13 rfl) ?_
  refine lv_iload_n (pc := 30) hx hb (zdt_at zt_X9_peek_0 14 rfl) rfl (lv_at hl 1 rfl) ?_
  replace hf := zb_s hf
  obtain ⟨r_7, hc_, hf⟩ := hf
  refine zcs (pc := 31) (rv := (some (.long r_7))) (va_runS (As := [.ref h0_buffer, .int p1]) (rest := []) ⟨hx, hb, hml, hown, hts⟩ (c_X9_longAt l D cy tt s.heap.size h0_buffer 512 p1 c_buffer r_7 hc_) (va_cwS 2 hts gX9_peek_X9_longAt rfl rfl rfl (by decide +kernel) ⟨Nat.le_of_ble_eq_true rfl, Nat.le_of_ble_eq_true rfl⟩) ⟨zblind, zpre hE hS (hP.sub [1] rfl) (hD.sub [1] (by decide) rfl) (va_free hD hS hA [1] rfl)⟩ rfl rfl hl.1 rfl (lv_room (Nat.le_of_ble_eq_true rfl)) (zdt_at zt_X9_peek_0 15 rfl) ⟨Nat.zero_le _, Nat.zero_le _⟩) ?_
  clear hc_
  refine W.eq (g2 := F0 m 34 ls [.long r_7]) rfl ?_
  refine lv_goto (pc := 34) (tgt := 38) hx hb (zdt_at zt_X9_peek_0 16 rfl) (by decide) ?_
  cases hf
  exact W.lret (pc := 38) hx hb hr (fun t ht hW => ⟨rfl, ht⟩) (fun _ h => nomatch h) (zdt_at zt_X9_peek_0 18 rfl)
set_option maxHeartbeats 4000000 in
set_option maxRecDepth 100000 in
theorem c_X9_pinOf (l : Launch) (D : va_G) (cy : Nat → ClassId) (tt : Nat → Nat) (sz : Nat) (h0 : Nat) (h0_buffer : Nat) (h0_slots : Nat) (h0_counters : Nat) (h0_officerPin : Nat) (h0_userPin : Nat) (h0_words : Nat) (h0_sha : Nat) (h0_stream : Nat) (h0_aes : Nat) (h0_modes : Nat) (h0_gcm : Nat) (h0_generator : Nat) (h0_tests : Nat) (h0_message : Nat) (h0_secret : Nat) (p1 : Int32) (c_state : Int32) (c_testsDone : Int32) (c_faults : Int32) (c_streamBegun : Int32) (r_ : Int32) (hf : f_X9_pinOf p1 = some r_) : Met l yX9_pinOf wsX9_pinOf ({ frames := 0, cells := 0, slots := 0, locals := 0 }) (zPc D cy tt sz [.ref h0, .int p1] ([(h0, .inr (11, [.ref h0_buffer, .ref h0_slots, .ref h0_counters, .ref h0_officerPin, .ref h0_userPin, .ref h0_words, .ref h0_sha, .ref h0_stream, .ref h0_aes, .ref h0_modes, .ref h0_gcm, .ref h0_generator, .ref h0_tests, .ref h0_message, .ref h0_secret, .int c_state, .int c_testsDone, .int c_faults, .int c_streamBegun]))])) (fun _ st o t => o = .returned (some (.ref (if r_ = 0 then h0_officerPin else h0_userPin))) ∧ t.heap = st.heap) 0 0 (fun _ => False) := by
  refine Met.ofW (cc := cX9_pinOf) (maxL := 2) (ret := (some (.object "SealedModule$Pin"))) (by decide) rfl ?_
  intro p e s m args below meth c s₁ B hml hv
  obtain ⟨rfl, rfl, hP, hD0, hE⟩ := hv
  have hx := B.exec
  have hb := B.bytes
  have hr := B.returns
  have hts := atoms_spec (ws := wsX9_pinOf) B.pre
  have hown : s.vm.findClass RX9 = some m.cls := findClass_of_methodNamed B.named
  have hlocks := B.notSynchronized
  clear B
  have hD := hD0.self (sz := s.heap.size)
  generalize hAe : va_A ([(h0, .inr (11, [.ref h0_buffer, .ref h0_slots, .ref h0_counters, .ref h0_officerPin, .ref h0_userPin, .ref h0_words, .ref h0_sha, .ref h0_stream, .ref h0_aes, .ref h0_modes, .ref h0_gcm, .ref h0_generator, .ref h0_tests, .ref h0_message, .ref h0_secret, .int c_state, .int c_testsDone, .int c_faults, .int c_streamBegun]))]) s.heap.size = A at hD hE
  have hA : ∀ q : Nat, s.heap.size ≤ q → A q := fun q h => by rw [← hAe]; exact Or.inr h
  clear hAe hD0
  have hS : va_S A s.heap s.heap [] := va_S.rf
  have hK := hE.1
  have hw0 := hts (.fieldLink RX9 32 "SealedModule" "userPin" "LSealedModule$Pin;") (by decide +kernel)
  have hw1 := hts (.fieldLink RX9 28 "SealedModule" "officerPin" "LSealedModule$Pin;") (by decide +kernel)
  have hcX9 : ∀ w ∈ u_ws RX9 TX9 19, w ∈ wsX9_pinOf := (fun _ h => List.mem_cons_of_mem _ (List.mem_append_right _ h))
  have hl := lv_entry ([.ref h0, .int p1]) (n := 2) (Nat.le_of_ble_eq_true rfl)
  rw [lg_entry_eq]
  generalize (lg_sl ([.ref h0, .int p1]) ++ List.replicate (2 - (lg_sl ([.ref h0, .int p1])).length) Slot.unset).toArray = ls at hl ⊢
  replace hl : lv_has ls 2 [(0, .ref h0), (1, .int p1)] := hl
  unfold f_X9_pinOf at hf
  refine zgo (fun GW hTo hFr => ?_)
  refine hFr _ _ _ ?_
  refine lv_iload_n (pc := 0) hx hb (zdt_at zt_X9_pinOf_0 0 rfl) rfl (lv_at hl 1 rfl) ?_
  refine lv_iconst (pc := 1) (v := (1 : Int32)) hx hb (zdt_at zt_X9_pinOf_0 1 rfl) (by decide) ?_
  refine lv_icmp_ne (pc := 2) (tgt := 12) hx hb (zdt_at zt_X9_pinOf_0 2 rfl) (by decide) (fun cn_ => ?t_1) (fun cn_ => ?f_2)
  case t_1 =>
    replace hf := ze_s cn_ hf
    clear cn_
    refine lv_aload_n (pc := 12) hx hb (zdt_at zt_X9_pinOf_0 6 rfl) rfl (lv_at hl 0 rfl) ?_
    refine va_get (pc := 13) (D := D) (ci := 11) (v := .ref h0_userPin) (C := RX9) (T := TX9) (N := 19) hx hb hts hcX9 hown hK hP 0 rfl rfl 4 (by decide) hw0 (fun _ h9 => h9) rfl (zdt_at zt_X9_pinOf_0 7 rfl) ?_
    cases hf
    refine W.aret (pc := 16) hx hb hr (Or.inl ⟨_, rfl⟩) (Or.inr ⟨_, rfl⟩) (fun t ht hW => ⟨by first | rfl | decide, ht⟩) (fun _ h => nomatch h) (zdt_at zt_X9_pinOf_0 8 rfl)
  replace hf := zt_s cn_ hf
  clear cn_
  refine lv_aload_n (pc := 5) hx hb (zdt_at zt_X9_pinOf_0 3 rfl) rfl (lv_at hl 0 rfl) ?_
  refine va_get (pc := 6) (D := D) (ci := 11) (v := .ref h0_officerPin) (C := RX9) (T := TX9) (N := 19) hx hb hts hcX9 hown hK hP 0 rfl rfl 3 (by decide) hw1 (fun _ h9 => h9) rfl (zdt_at zt_X9_pinOf_0 4 rfl) ?_
  refine lv_goto (pc := 9) (tgt := 16) hx hb (zdt_at zt_X9_pinOf_0 5 rfl) (by decide) ?_
  cases hf
  refine W.aret (pc := 16) hx hb hr (Or.inl ⟨_, rfl⟩) (Or.inr ⟨_, rfl⟩) (fun t ht hW => ⟨by first | rfl | decide, ht⟩) (fun _ h => nomatch h) (zdt_at zt_X9_pinOf_0 8 rfl)
set_option maxHeartbeats 4000000 in
set_option maxRecDepth 100000 in
theorem c_X9_loginAnswer (l : Launch) (D : va_G) (cy : Nat → ClassId) (tt : Nat → Nat) (sz : Nat) (h0 : Nat) (h0_buffer : Nat) (h0_slots : Nat) (h0_counters : Nat) (h0_officerPin : Nat) (h0_userPin : Nat) (h0_words : Nat) (h0_sha : Nat) (h0_stream : Nat) (h0_aes : Nat) (h0_modes : Nat) (h0_gcm : Nat) (h0_generator : Nat) (h0_tests : Nat) (h0_message : Nat) (h0_secret : Nat) (p1 : Int32) (p2 : Int32) (c_state : Int32) (c_officerPin_number : Int32) (c_officerPin_tries : Int32) (c_userPin_number : Int32) (c_userPin_tries : Int32) (c_testsDone : Int32) (c_faults : Int32) (c_streamBegun : Int32) (r_ : Int32) (c_state' : Int32) (c_officerPin_tries' : Int32) (c_userPin_tries' : Int32) (hf : f_X9_loginAnswer p1 p2 c_state c_officerPin_number c_officerPin_tries c_userPin_number c_userPin_tries = some (r_, c_state', c_officerPin_tries', c_userPin_tries')) : Met l yX9_loginAnswer wsX9_loginAnswer ({ frames := 1, cells := 0, slots := 0, locals := 21 }) (zPc D cy tt sz [.ref h0, .int p1, .int p2] ([(h0, .inr (11, [.ref h0_buffer, .ref h0_slots, .ref h0_counters, .ref h0_officerPin, .ref h0_userPin, .ref h0_words, .ref h0_sha, .ref h0_stream, .ref h0_aes, .ref h0_modes, .ref h0_gcm, .ref h0_generator, .ref h0_tests, .ref h0_message, .ref h0_secret, .int c_state, .int c_testsDone, .int c_faults, .int c_streamBegun])), (h0_officerPin, .inr (7, [.int c_officerPin_number, .int c_officerPin_tries])), (h0_userPin, .inr (7, [.int c_userPin_number, .int c_userPin_tries]))])) (zQ D (some (.int r_)) ([(h0, .inr (11, [.ref h0_buffer, .ref h0_slots, .ref h0_counters, .ref h0_officerPin, .ref h0_userPin, .ref h0_words, .ref h0_sha, .ref h0_stream, .ref h0_aes, .ref h0_modes, .ref h0_gcm, .ref h0_generator, .ref h0_tests, .ref h0_message, .ref h0_secret, .int c_state', .int c_testsDone, .int c_faults, .int c_streamBegun])), (h0_officerPin, .inr (7, [.int c_officerPin_number, .int c_officerPin_tries'])), (h0_userPin, .inr (7, [.int c_userPin_number, .int c_userPin_tries']))]) (va_A ([(h0, .inr (11, [.ref h0_buffer, .ref h0_slots, .ref h0_counters, .ref h0_officerPin, .ref h0_userPin, .ref h0_words, .ref h0_sha, .ref h0_stream, .ref h0_aes, .ref h0_modes, .ref h0_gcm, .ref h0_generator, .ref h0_tests, .ref h0_message, .ref h0_secret, .int c_state, .int c_testsDone, .int c_faults, .int c_streamBegun])), (h0_officerPin, .inr (7, [.int c_officerPin_number, .int c_officerPin_tries])), (h0_userPin, .inr (7, [.int c_userPin_number, .int c_userPin_tries]))]) sz)) 0 0 (va_A ([(h0, .inr (11, [.ref h0_buffer, .ref h0_slots, .ref h0_counters, .ref h0_officerPin, .ref h0_userPin, .ref h0_words, .ref h0_sha, .ref h0_stream, .ref h0_aes, .ref h0_modes, .ref h0_gcm, .ref h0_generator, .ref h0_tests, .ref h0_message, .ref h0_secret, .int c_state, .int c_testsDone, .int c_faults, .int c_streamBegun])), (h0_officerPin, .inr (7, [.int c_officerPin_number, .int c_officerPin_tries])), (h0_userPin, .inr (7, [.int c_userPin_number, .int c_userPin_tries]))]) sz) := by
  refine Met.ofW (cc := cX9_loginAnswer) (maxL := 3) (ret := (some .int)) (by decide) rfl ?_
  intro p e s m args below meth c s₁ B hml hv
  obtain ⟨rfl, rfl, hP, hD0, hE⟩ := hv
  have hx := B.exec
  have hb := B.bytes
  have hr := B.returns
  have hts := atoms_spec (ws := wsX9_loginAnswer) B.pre
  have hown : s.vm.findClass RX9 = some m.cls := findClass_of_methodNamed B.named
  have hlocks := B.notSynchronized
  clear B
  have hD := hD0.self (sz := s.heap.size)
  generalize hAe : va_A ([(h0, .inr (11, [.ref h0_buffer, .ref h0_slots, .ref h0_counters, .ref h0_officerPin, .ref h0_userPin, .ref h0_words, .ref h0_sha, .ref h0_stream, .ref h0_aes, .ref h0_modes, .ref h0_gcm, .ref h0_generator, .ref h0_tests, .ref h0_message, .ref h0_secret, .int c_state, .int c_testsDone, .int c_faults, .int c_streamBegun])), (h0_officerPin, .inr (7, [.int c_officerPin_number, .int c_officerPin_tries])), (h0_userPin, .inr (7, [.int c_userPin_number, .int c_userPin_tries]))]) s.heap.size = A at hD hE ⊢
  have hA : ∀ q : Nat, s.heap.size ≤ q → A q := fun q h => by rw [← hAe]; exact Or.inr h
  clear hAe hD0
  have hS : va_S A s.heap s.heap [] := va_S.rf
  have hK := hE.1
  have hw0 := hts (.fieldLink RX9 101 "SealedModule" "state" "I") (by decide +kernel)
  have hcX9 : ∀ w ∈ u_ws RX9 TX9 19, w ∈ wsX9_loginAnswer := (fun _ h => List.mem_cons_of_mem _ (List.mem_append_left _ (List.mem_append_right _ h)))
  have hl := lv_entry ([.ref h0, .int p1, .int p2]) (n := 3) (Nat.le_of_ble_eq_true rfl)
  rw [lg_entry_eq]
  generalize (lg_sl ([.ref h0, .int p1, .int p2]) ++ List.replicate (3 - (lg_sl ([.ref h0, .int p1, .int p2])).length) Slot.unset).toArray = ls at hl ⊢
  replace hl : lv_has ls 3 [(0, .ref h0), (1, .int p1), (2, .int p2)] := hl
  unfold f_X9_loginAnswer at hf
  refine zgo (fun GW hTo hFr => ?_)
  refine hFr _ _ _ ?_
  obtain ⟨H, hHe⟩ : ∃ H, H = s.heap := ⟨_, rfl⟩
  obtain ⟨locs, hLe⟩ : ∃ L : List Loc, L = [] := ⟨_, rfl⟩
  rw [← hHe] at hP
  replace hS : va_S A s.heap H locs := by rw [hHe, hLe]; exact hS
  refine zat hHe.symm hLe.symm ?_
  clear hHe hLe
  refine lv_aload_n (pc := 0) hx hb (zdt_at zt_X9_loginAnswer_0 0 rfl) rfl (lv_at hl 0 rfl) ?_
  refine va_get (pc := 1) (D := D) (ci := 11) (v := .int c_state) (C := RX9) (T := TX9) (N := 19) hx hb hts hcX9 hown hK hP 0 rfl rfl 15 (by decide) hw0 (fun _ h9 => h9) rfl (zdt_at zt_X9_loginAnswer_0 1 rfl) ?_
  refine lv_iconst (pc := 4) (v := (2 : Int32)) hx hb (zdt_at zt_X9_loginAnswer_0 2 rfl) (by decide) ?_
  refine lv_icmp_eq (pc := 5) (tgt := 10) hx hb (zdt_at zt_X9_loginAnswer_0 3 rfl) (by decide) (fun cn_ => ?t_1) (fun cn_ => ?f_2)
  case f_2 =>
    replace hf := ze_s cn_ hf
    clear cn_
    refine lv_iconst (pc := 8) (v := (-1 : Int32)) hx hb (zdt_at zt_X9_loginAnswer_0 4 rfl) (by decide) ?_
    cases hf
    exact W.iret (pc := 9) hx hb hr (fun t ht hW => ⟨rfl, ⟨by rw [ht]; exact hP, hD⟩, hS.F ht⟩) hS.2.2 (zdt_at zt_X9_loginAnswer_0 5 rfl)
  replace hf := zt_s cn_ hf
  clear cn_
  refine lv_iload_n (pc := 10) hx hb (zdt_at zt_X9_loginAnswer_0 6 rfl) rfl (lv_at hl 1 rfl) ?_
  replace hf := zb_s hf
  obtain ⟨r_3, hc_, hf⟩ := hf
  refine zcs (pc := 11) (rv := (some (.int r_3))) (va_runS (As := [.int p1]) (rest := []) ⟨hx, hb, hml, hown, hts⟩ (c_X9_isRole l D cy tt H.size p1 r_3 hc_) (va_cwS 1 hts gX9_loginAnswer_X9_isRole rfl rfl rfl (by decide +kernel) ⟨Nat.le_of_ble_eq_true rfl, Nat.le_of_ble_eq_true rfl⟩) ⟨zblind, zpre hE hS (hP.sub [] rfl) (hD.sub [] (by decide) rfl) (va_free hD hS hA [] rfl)⟩ rfl rfl hl.1 rfl (lv_room (Nat.le_of_ble_eq_true rfl)) (zdt_at zt_X9_loginAnswer_0 7 rfl) ⟨Nat.zero_le _, Nat.zero_le _⟩) ?_
  clear hc_
  refine W.eq (g2 := F0 m 14 ls [.int r_3]) rfl ?_
  refine lv_if_ne (pc := 14) (tgt := 20) hx hb (zdt_at zt_X9_loginAnswer_0 8 rfl) (by decide) (fun cn_ => ?t_4) (fun cn_ => ?f_5)
  case f_5 =>
    replace hf := zt_s cn_ hf
    clear cn_
    refine lv_bipush (pc := 17) (v := (-2 : Int32)) hx hb (zdt_at zt_X9_loginAnswer_0 9 rfl) (by decide) ?_
    cases hf
    exact W.iret (pc := 19) hx hb hr (fun t ht hW => ⟨rfl, ⟨by rw [ht]; exact hP, hD⟩, hS.F ht⟩) hS.2.2 (zdt_at zt_X9_loginAnswer_0 10 rfl)
  replace hf := ze_s cn_ hf
  clear cn_
  refine lv_aload_n (pc := 20) hx hb (zdt_at zt_X9_loginAnswer_0 11 rfl) rfl (lv_at hl 0 rfl) ?_
  refine lv_iload_n (pc := 21) hx hb (zdt_at zt_X9_loginAnswer_0 12 rfl) rfl (lv_at hl 1 rfl) ?_
  replace hf := zb_s hf
  obtain ⟨r_6, hc_, hf⟩ := hf
  refine zcs (pc := 22) (rv := (some (.ref (if r_6 = 0 then h0_officerPin else h0_userPin)))) (va_runV (As := [.int p1]) (rest := []) ⟨hx, hb, hml, hown, hts⟩ (c_X9_pinOf l D cy tt H.size h0 h0_buffer h0_slots h0_counters h0_officerPin h0_userPin h0_words h0_sha h0_stream h0_aes h0_modes h0_gcm h0_generator h0_tests h0_message h0_secret p1 c_state c_testsDone c_faults c_streamBegun r_6 hc_) (cwV 1 hts gX9_loginAnswer_X9_pinOf rfl rfl rfl (by decide +kernel) ⟨Nat.le_of_ble_eq_true rfl, Nat.le_of_ble_eq_true rfl⟩) ⟨zblind, va_recv hK hP (ci := 11) (q0 := 0) rfl rfl, zpre hE hS (hP.sub [0] rfl) (hD.sub [0] (by decide) rfl) (va_free hD hS hA [0] rfl)⟩ rfl rfl hl.1 rfl (lv_room (Nat.le_of_ble_eq_true rfl)) (zdt_at zt_X9_loginAnswer_0 13 rfl) ⟨Nat.zero_le _, Nat.zero_le _⟩) ?_
  clear hc_
  refine W.eq (g2 := F0 m 25 ls [.ref (if r_6 = 0 then h0_officerPin else h0_userPin)]) rfl ?_
  by_cases hq_ : r_6 = 0
  · replace hf := zt_s hq_ hf
    refine W.eq (g2 := F0 m 25 ls [.ref h0_officerPin]) (by rw [if_pos hq_]) ?_
    clear hq_
    refine lv_iload_n (pc := 25) hx hb (zdt_at zt_X9_loginAnswer_0 14 rfl) rfl (lv_at hl 2 rfl) ?_
    replace hf := zb_s hf
    obtain ⟨⟨r_7, c_officerPin_tries_8⟩, hc_, hf⟩ := hf
    refine zcn2 (pc := 26) (rv := (some (.int r_7))) (va_runV (As := [.int p2]) (rest := []) ⟨hx, hb, hml, hown, hts⟩ (c_X5_opens l D cy tt H.size h0_officerPin p2 c_officerPin_number c_officerPin_tries r_7 c_officerPin_tries_8 hc_) (cwV 1 hts gX9_loginAnswer_X5_opens rfl rfl rfl (by decide +kernel) ⟨Nat.le_of_ble_eq_true rfl, Nat.le_of_ble_eq_true rfl⟩) ⟨zblind, va_recv hK hP (ci := 7) (q0 := 1) rfl rfl, zpre hE hS (hP.sub [1] rfl) (hD.sub [1] (by decide) rfl) (va_free hD hS hA [1] rfl)⟩ rfl rfl hl.1 rfl (lv_room (Nat.le_of_ble_eq_true rfl)) (zdt_at zt_X9_loginAnswer_0 15 rfl) ⟨Nat.zero_le _, Nat.zero_le _⟩) hS hP hD (va_free hD hS hA [1] rfl) [1] rfl (by decide) rfl ?_
    clear hP hD hS hc_
    intro H locs hP hD hS
    replace hP : va_P D vwCl ([(h0, .inr (11, [.ref h0_buffer, .ref h0_slots, .ref h0_counters, .ref h0_officerPin, .ref h0_userPin, .ref h0_words, .ref h0_sha, .ref h0_stream, .ref h0_aes, .ref h0_modes, .ref h0_gcm, .ref h0_generator, .ref h0_tests, .ref h0_message, .ref h0_secret, .int c_state, .int c_testsDone, .int c_faults, .int c_streamBegun])), (h0_officerPin, .inr (7, [.int c_officerPin_number, .int c_officerPin_tries_8])), (h0_userPin, .inr (7, [.int c_userPin_number, .int c_userPin_tries]))]) H := hP
    replace hD : va_D A ([(h0, .inr (11, [.ref h0_buffer, .ref h0_slots, .ref h0_counters, .ref h0_officerPin, .ref h0_userPin, .ref h0_words, .ref h0_sha, .ref h0_stream, .ref h0_aes, .ref h0_modes, .ref h0_gcm, .ref h0_generator, .ref h0_tests, .ref h0_message, .ref h0_secret, .int c_state, .int c_testsDone, .int c_faults, .int c_streamBegun])), (h0_officerPin, .inr (7, [.int c_officerPin_number, .int c_officerPin_tries_8])), (h0_userPin, .inr (7, [.int c_userPin_number, .int c_userPin_tries]))]) := hD
    refine W.eq (g2 := F0 m 29 ls [.int r_7]) rfl ?_
    refine lv_if_ne (pc := 29) (tgt := 35) hx hb (zdt_at zt_X9_loginAnswer_0 16 rfl) (by decide) (fun cn_ => ?t_9) (fun cn_ => ?f_10)
    case f_10 =>
      replace hf := zt_s cn_ hf
      clear cn_
      refine lv_bipush (pc := 32) (v := (-10 : Int32)) hx hb (zdt_at zt_X9_loginAnswer_0 17 rfl) (by decide) ?_
      cases hf
      exact W.iret (pc := 34) hx hb hr (fun t ht hW => ⟨rfl, ⟨by rw [ht]; exact hP, hD⟩, hS.F ht⟩) hS.2.2 (zdt_at zt_X9_loginAnswer_0 18 rfl)
    replace hf := ze_s cn_ hf
    clear cn_
    refine lv_aload_n (pc := 35) hx hb (zdt_at zt_X9_loginAnswer_0 19 rfl) rfl (lv_at hl 0 rfl) ?_
    refine lv_iload_n (pc := 36) hx hb (zdt_at zt_X9_loginAnswer_0 20 rfl) rfl (lv_at hl 1 rfl) ?_
    refine lv_iconst (pc := 37) (v := (1 : Int32)) hx hb (zdt_at zt_X9_loginAnswer_0 21 rfl) (by decide) ?_
    refine lv_icmp_ne (pc := 38) (tgt := 45) hx hb (zdt_at zt_X9_loginAnswer_0 22 rfl) (by decide) (fun cn_ => ?t_11) (fun cn_ => ?f_12)
    case t_11 =>
      replace hf := ze_s cn_ hf
      clear cn_
      refine lv_iconst (pc := 45) (v := (4 : Int32)) hx hb (zdt_at zt_X9_loginAnswer_0 25 rfl) (by decide) ?_
      refine va_put (pc := 46) (D := D) (ci := 11) (v := .int (4 : Int32)) (ty := .int) (C := RX9) (T := TX9) (N := 19) hx hb hts hcX9 tyX9 tyX9_ok nmX9 hown hK hP hD hS 0 rfl rfl 15 (by decide) hw0 (fun _ h9 => h9) rfl (by decide +kernel) rfl rfl (Nat.le_of_ble_eq_true rfl) (zdt_at zt_X9_loginAnswer_0 26 rfl) ?_
      clear hP hD hS
      intro H locs hP hD hS
      replace hP : va_P D vwCl ([(h0, .inr (11, [.ref h0_buffer, .ref h0_slots, .ref h0_counters, .ref h0_officerPin, .ref h0_userPin, .ref h0_words, .ref h0_sha, .ref h0_stream, .ref h0_aes, .ref h0_modes, .ref h0_gcm, .ref h0_generator, .ref h0_tests, .ref h0_message, .ref h0_secret, .int (4 : Int32), .int c_testsDone, .int c_faults, .int c_streamBegun])), (h0_officerPin, .inr (7, [.int c_officerPin_number, .int c_officerPin_tries_8])), (h0_userPin, .inr (7, [.int c_userPin_number, .int c_userPin_tries]))]) H := hP
      replace hD : va_D A ([(h0, .inr (11, [.ref h0_buffer, .ref h0_slots, .ref h0_counters, .ref h0_officerPin, .ref h0_userPin, .ref h0_words, .ref h0_sha, .ref h0_stream, .ref h0_aes, .ref h0_modes, .ref h0_gcm, .ref h0_generator, .ref h0_tests, .ref h0_message, .ref h0_secret, .int (4 : Int32), .int c_testsDone, .int c_faults, .int c_streamBegun])), (h0_officerPin, .inr (7, [.int c_officerPin_number, .int c_officerPin_tries_8])), (h0_userPin, .inr (7, [.int c_userPin_number, .int c_userPin_tries]))]) := hD
      refine lv_iconst (pc := 49) (v := (0 : Int32)) hx hb (zdt_at zt_X9_loginAnswer_0 27 rfl) (by decide) ?_
      cases hf
      exact W.iret (pc := 50) hx hb hr (fun t ht hW => ⟨rfl, ⟨by rw [ht]; exact hP, hD⟩, hS.F ht⟩) hS.2.2 (zdt_at zt_X9_loginAnswer_0 28 rfl)
    replace hf := zt_s cn_ hf
    clear cn_
    refine lv_iconst (pc := 41) (v := (3 : Int32)) hx hb (zdt_at zt_X9_loginAnswer_0 23 rfl) (by decide) ?_
    refine lv_goto (pc := 42) (tgt := 46) hx hb (zdt_at zt_X9_loginAnswer_0 24 rfl) (by decide) ?_
    refine va_put (pc := 46) (D := D) (ci := 11) (v := .int (3 : Int32)) (ty := .int) (C := RX9) (T := TX9) (N := 19) hx hb hts hcX9 tyX9 tyX9_ok nmX9 hown hK hP hD hS 0 rfl rfl 15 (by decide) hw0 (fun _ h9 => h9) rfl (by decide +kernel) rfl rfl (Nat.le_of_ble_eq_true rfl) (zdt_at zt_X9_loginAnswer_0 26 rfl) ?_
    clear hP hD hS
    intro H locs hP hD hS
    replace hP : va_P D vwCl ([(h0, .inr (11, [.ref h0_buffer, .ref h0_slots, .ref h0_counters, .ref h0_officerPin, .ref h0_userPin, .ref h0_words, .ref h0_sha, .ref h0_stream, .ref h0_aes, .ref h0_modes, .ref h0_gcm, .ref h0_generator, .ref h0_tests, .ref h0_message, .ref h0_secret, .int (3 : Int32), .int c_testsDone, .int c_faults, .int c_streamBegun])), (h0_officerPin, .inr (7, [.int c_officerPin_number, .int c_officerPin_tries_8])), (h0_userPin, .inr (7, [.int c_userPin_number, .int c_userPin_tries]))]) H := hP
    replace hD : va_D A ([(h0, .inr (11, [.ref h0_buffer, .ref h0_slots, .ref h0_counters, .ref h0_officerPin, .ref h0_userPin, .ref h0_words, .ref h0_sha, .ref h0_stream, .ref h0_aes, .ref h0_modes, .ref h0_gcm, .ref h0_generator, .ref h0_tests, .ref h0_message, .ref h0_secret, .int (3 : Int32), .int c_testsDone, .int c_faults, .int c_streamBegun])), (h0_officerPin, .inr (7, [.int c_officerPin_number, .int c_officerPin_tries_8])), (h0_userPin, .inr (7, [.int c_userPin_number, .int c_userPin_tries]))]) := hD
    refine lv_iconst (pc := 49) (v := (0 : Int32)) hx hb (zdt_at zt_X9_loginAnswer_0 27 rfl) (by decide) ?_
    cases hf
    exact W.iret (pc := 50) hx hb hr (fun t ht hW => ⟨rfl, ⟨by rw [ht]; exact hP, hD⟩, hS.F ht⟩) hS.2.2 (zdt_at zt_X9_loginAnswer_0 28 rfl)
  replace hf := ze_s hq_ hf
  refine W.eq (g2 := F0 m 25 ls [.ref h0_userPin]) (by rw [if_neg hq_]) ?_
  clear hq_
  refine lv_iload_n (pc := 25) hx hb (zdt_at zt_X9_loginAnswer_0 14 rfl) rfl (lv_at hl 2 rfl) ?_
  replace hf := zb_s hf
  obtain ⟨⟨r_13, c_userPin_tries_14⟩, hc_, hf⟩ := hf
  refine zcn2 (pc := 26) (rv := (some (.int r_13))) (va_runV (As := [.int p2]) (rest := []) ⟨hx, hb, hml, hown, hts⟩ (c_X5_opens l D cy tt H.size h0_userPin p2 c_userPin_number c_userPin_tries r_13 c_userPin_tries_14 hc_) (cwV 1 hts gX9_loginAnswer_X5_opens rfl rfl rfl (by decide +kernel) ⟨Nat.le_of_ble_eq_true rfl, Nat.le_of_ble_eq_true rfl⟩) ⟨zblind, va_recv hK hP (ci := 7) (q0 := 2) rfl rfl, zpre hE hS (hP.sub [2] rfl) (hD.sub [2] (by decide) rfl) (va_free hD hS hA [2] rfl)⟩ rfl rfl hl.1 rfl (lv_room (Nat.le_of_ble_eq_true rfl)) (zdt_at zt_X9_loginAnswer_0 15 rfl) ⟨Nat.zero_le _, Nat.zero_le _⟩) hS hP hD (va_free hD hS hA [2] rfl) [2] rfl (by decide) rfl ?_
  clear hP hD hS hc_
  intro H locs hP hD hS
  replace hP : va_P D vwCl ([(h0, .inr (11, [.ref h0_buffer, .ref h0_slots, .ref h0_counters, .ref h0_officerPin, .ref h0_userPin, .ref h0_words, .ref h0_sha, .ref h0_stream, .ref h0_aes, .ref h0_modes, .ref h0_gcm, .ref h0_generator, .ref h0_tests, .ref h0_message, .ref h0_secret, .int c_state, .int c_testsDone, .int c_faults, .int c_streamBegun])), (h0_officerPin, .inr (7, [.int c_officerPin_number, .int c_officerPin_tries])), (h0_userPin, .inr (7, [.int c_userPin_number, .int c_userPin_tries_14]))]) H := hP
  replace hD : va_D A ([(h0, .inr (11, [.ref h0_buffer, .ref h0_slots, .ref h0_counters, .ref h0_officerPin, .ref h0_userPin, .ref h0_words, .ref h0_sha, .ref h0_stream, .ref h0_aes, .ref h0_modes, .ref h0_gcm, .ref h0_generator, .ref h0_tests, .ref h0_message, .ref h0_secret, .int c_state, .int c_testsDone, .int c_faults, .int c_streamBegun])), (h0_officerPin, .inr (7, [.int c_officerPin_number, .int c_officerPin_tries])), (h0_userPin, .inr (7, [.int c_userPin_number, .int c_userPin_tries_14]))]) := hD
  refine W.eq (g2 := F0 m 29 ls [.int r_13]) rfl ?_
  refine lv_if_ne (pc := 29) (tgt := 35) hx hb (zdt_at zt_X9_loginAnswer_0 16 rfl) (by decide) (fun cn_ => ?t_15) (fun cn_ => ?f_16)
  case f_16 =>
    replace hf := zt_s cn_ hf
    clear cn_
    refine lv_bipush (pc := 32) (v := (-10 : Int32)) hx hb (zdt_at zt_X9_loginAnswer_0 17 rfl) (by decide) ?_
    cases hf
    exact W.iret (pc := 34) hx hb hr (fun t ht hW => ⟨rfl, ⟨by rw [ht]; exact hP, hD⟩, hS.F ht⟩) hS.2.2 (zdt_at zt_X9_loginAnswer_0 18 rfl)
  replace hf := ze_s cn_ hf
  clear cn_
  refine lv_aload_n (pc := 35) hx hb (zdt_at zt_X9_loginAnswer_0 19 rfl) rfl (lv_at hl 0 rfl) ?_
  refine lv_iload_n (pc := 36) hx hb (zdt_at zt_X9_loginAnswer_0 20 rfl) rfl (lv_at hl 1 rfl) ?_
  refine lv_iconst (pc := 37) (v := (1 : Int32)) hx hb (zdt_at zt_X9_loginAnswer_0 21 rfl) (by decide) ?_
  refine lv_icmp_ne (pc := 38) (tgt := 45) hx hb (zdt_at zt_X9_loginAnswer_0 22 rfl) (by decide) (fun cn_ => ?t_17) (fun cn_ => ?f_18)
  case t_17 =>
    replace hf := ze_s cn_ hf
    clear cn_
    refine lv_iconst (pc := 45) (v := (4 : Int32)) hx hb (zdt_at zt_X9_loginAnswer_0 25 rfl) (by decide) ?_
    refine va_put (pc := 46) (D := D) (ci := 11) (v := .int (4 : Int32)) (ty := .int) (C := RX9) (T := TX9) (N := 19) hx hb hts hcX9 tyX9 tyX9_ok nmX9 hown hK hP hD hS 0 rfl rfl 15 (by decide) hw0 (fun _ h9 => h9) rfl (by decide +kernel) rfl rfl (Nat.le_of_ble_eq_true rfl) (zdt_at zt_X9_loginAnswer_0 26 rfl) ?_
    clear hP hD hS
    intro H locs hP hD hS
    replace hP : va_P D vwCl ([(h0, .inr (11, [.ref h0_buffer, .ref h0_slots, .ref h0_counters, .ref h0_officerPin, .ref h0_userPin, .ref h0_words, .ref h0_sha, .ref h0_stream, .ref h0_aes, .ref h0_modes, .ref h0_gcm, .ref h0_generator, .ref h0_tests, .ref h0_message, .ref h0_secret, .int (4 : Int32), .int c_testsDone, .int c_faults, .int c_streamBegun])), (h0_officerPin, .inr (7, [.int c_officerPin_number, .int c_officerPin_tries])), (h0_userPin, .inr (7, [.int c_userPin_number, .int c_userPin_tries_14]))]) H := hP
    replace hD : va_D A ([(h0, .inr (11, [.ref h0_buffer, .ref h0_slots, .ref h0_counters, .ref h0_officerPin, .ref h0_userPin, .ref h0_words, .ref h0_sha, .ref h0_stream, .ref h0_aes, .ref h0_modes, .ref h0_gcm, .ref h0_generator, .ref h0_tests, .ref h0_message, .ref h0_secret, .int (4 : Int32), .int c_testsDone, .int c_faults, .int c_streamBegun])), (h0_officerPin, .inr (7, [.int c_officerPin_number, .int c_officerPin_tries])), (h0_userPin, .inr (7, [.int c_userPin_number, .int c_userPin_tries_14]))]) := hD
    refine lv_iconst (pc := 49) (v := (0 : Int32)) hx hb (zdt_at zt_X9_loginAnswer_0 27 rfl) (by decide) ?_
    cases hf
    exact W.iret (pc := 50) hx hb hr (fun t ht hW => ⟨rfl, ⟨by rw [ht]; exact hP, hD⟩, hS.F ht⟩) hS.2.2 (zdt_at zt_X9_loginAnswer_0 28 rfl)
  replace hf := zt_s cn_ hf
  clear cn_
  refine lv_iconst (pc := 41) (v := (3 : Int32)) hx hb (zdt_at zt_X9_loginAnswer_0 23 rfl) (by decide) ?_
  refine lv_goto (pc := 42) (tgt := 46) hx hb (zdt_at zt_X9_loginAnswer_0 24 rfl) (by decide) ?_
  refine va_put (pc := 46) (D := D) (ci := 11) (v := .int (3 : Int32)) (ty := .int) (C := RX9) (T := TX9) (N := 19) hx hb hts hcX9 tyX9 tyX9_ok nmX9 hown hK hP hD hS 0 rfl rfl 15 (by decide) hw0 (fun _ h9 => h9) rfl (by decide +kernel) rfl rfl (Nat.le_of_ble_eq_true rfl) (zdt_at zt_X9_loginAnswer_0 26 rfl) ?_
  clear hP hD hS
  intro H locs hP hD hS
  replace hP : va_P D vwCl ([(h0, .inr (11, [.ref h0_buffer, .ref h0_slots, .ref h0_counters, .ref h0_officerPin, .ref h0_userPin, .ref h0_words, .ref h0_sha, .ref h0_stream, .ref h0_aes, .ref h0_modes, .ref h0_gcm, .ref h0_generator, .ref h0_tests, .ref h0_message, .ref h0_secret, .int (3 : Int32), .int c_testsDone, .int c_faults, .int c_streamBegun])), (h0_officerPin, .inr (7, [.int c_officerPin_number, .int c_officerPin_tries])), (h0_userPin, .inr (7, [.int c_userPin_number, .int c_userPin_tries_14]))]) H := hP
  replace hD : va_D A ([(h0, .inr (11, [.ref h0_buffer, .ref h0_slots, .ref h0_counters, .ref h0_officerPin, .ref h0_userPin, .ref h0_words, .ref h0_sha, .ref h0_stream, .ref h0_aes, .ref h0_modes, .ref h0_gcm, .ref h0_generator, .ref h0_tests, .ref h0_message, .ref h0_secret, .int (3 : Int32), .int c_testsDone, .int c_faults, .int c_streamBegun])), (h0_officerPin, .inr (7, [.int c_officerPin_number, .int c_officerPin_tries])), (h0_userPin, .inr (7, [.int c_userPin_number, .int c_userPin_tries_14]))]) := hD
  refine lv_iconst (pc := 49) (v := (0 : Int32)) hx hb (zdt_at zt_X9_loginAnswer_0 27 rfl) (by decide) ?_
  cases hf
  exact W.iret (pc := 50) hx hb hr (fun t ht hW => ⟨rfl, ⟨by rw [ht]; exact hP, hD⟩, hS.F ht⟩) hS.2.2 (zdt_at zt_X9_loginAnswer_0 28 rfl)
set_option maxHeartbeats 4000000 in
set_option maxRecDepth 100000 in
theorem c_X9_counted (l : Launch) (D : va_G) (cy : Nat → ClassId) (tt : Nat → Nat) (sz : Nat) (h0 : Nat) (h0_buffer : Nat) (h0_slots : Nat) (h0_counters : Nat) (h0_officerPin : Nat) (h0_userPin : Nat) (h0_words : Nat) (h0_sha : Nat) (h0_stream : Nat) (h0_aes : Nat) (h0_modes : Nat) (h0_gcm : Nat) (h0_generator : Nat) (h0_tests : Nat) (h0_message : Nat) (h0_secret : Nat) (p1 : Int32) (c_counters : Nat → Int32) (c_state : Int32) (c_testsDone : Int32) (c_faults : Int32) (c_streamBegun : Int32) (r_ : Int32) (c_counters' : Nat → Int32) (hf : f_X9_counted p1 c_counters = some (r_, c_counters')) : Met l yX9_counted wsX9_counted ({ frames := 0, cells := 0, slots := 0, locals := 0 }) (zPc D cy tt sz [.ref h0, .int p1] ([(h0, .inr (11, [.ref h0_buffer, .ref h0_slots, .ref h0_counters, .ref h0_officerPin, .ref h0_userPin, .ref h0_words, .ref h0_sha, .ref h0_stream, .ref h0_aes, .ref h0_modes, .ref h0_gcm, .ref h0_generator, .ref h0_tests, .ref h0_message, .ref h0_secret, .int c_state, .int c_testsDone, .int c_faults, .int c_streamBegun])), (h0_counters, .inl (cy 1, 3, .inl c_counters))])) (zQ D (some (.int r_)) ([(h0, .inr (11, [.ref h0_buffer, .ref h0_slots, .ref h0_counters, .ref h0_officerPin, .ref h0_userPin, .ref h0_words, .ref h0_sha, .ref h0_stream, .ref h0_aes, .ref h0_modes, .ref h0_gcm, .ref h0_generator, .ref h0_tests, .ref h0_message, .ref h0_secret, .int c_state, .int c_testsDone, .int c_faults, .int c_streamBegun])), (h0_counters, .inl (cy 1, 3, .inl c_counters'))]) (va_A ([(h0, .inr (11, [.ref h0_buffer, .ref h0_slots, .ref h0_counters, .ref h0_officerPin, .ref h0_userPin, .ref h0_words, .ref h0_sha, .ref h0_stream, .ref h0_aes, .ref h0_modes, .ref h0_gcm, .ref h0_generator, .ref h0_tests, .ref h0_message, .ref h0_secret, .int c_state, .int c_testsDone, .int c_faults, .int c_streamBegun])), (h0_counters, .inl (cy 1, 3, .inl c_counters))]) sz)) 0 0 (va_A ([(h0, .inr (11, [.ref h0_buffer, .ref h0_slots, .ref h0_counters, .ref h0_officerPin, .ref h0_userPin, .ref h0_words, .ref h0_sha, .ref h0_stream, .ref h0_aes, .ref h0_modes, .ref h0_gcm, .ref h0_generator, .ref h0_tests, .ref h0_message, .ref h0_secret, .int c_state, .int c_testsDone, .int c_faults, .int c_streamBegun])), (h0_counters, .inl (cy 1, 3, .inl c_counters))]) sz) := by
  refine Met.ofW (cc := cX9_counted) (maxL := 2) (ret := (some .int)) (by decide) rfl ?_
  intro p e s m args below meth c s₁ B hml hv
  obtain ⟨rfl, rfl, hP, hD0, hE⟩ := hv
  have hx := B.exec
  have hb := B.bytes
  have hr := B.returns
  have hts := atoms_spec (ws := wsX9_counted) B.pre
  have hown : s.vm.findClass RX9 = some m.cls := findClass_of_methodNamed B.named
  have hlocks := B.notSynchronized
  clear B
  have hD := hD0.self (sz := s.heap.size)
  generalize hAe : va_A ([(h0, .inr (11, [.ref h0_buffer, .ref h0_slots, .ref h0_counters, .ref h0_officerPin, .ref h0_userPin, .ref h0_words, .ref h0_sha, .ref h0_stream, .ref h0_aes, .ref h0_modes, .ref h0_gcm, .ref h0_generator, .ref h0_tests, .ref h0_message, .ref h0_secret, .int c_state, .int c_testsDone, .int c_faults, .int c_streamBegun])), (h0_counters, .inl (cy 1, 3, .inl c_counters))]) s.heap.size = A at hD hE ⊢
  have hA : ∀ q : Nat, s.heap.size ≤ q → A q := fun q h => by rw [← hAe]; exact Or.inr h
  clear hAe hD0
  have hS : va_S A s.heap s.heap [] := va_S.rf
  have hK := hE.1
  have hw0 := hts (.fieldLink RX9 19 "SealedModule" "counters" "[I") (by decide +kernel)
  have hcX9 : ∀ w ∈ u_ws RX9 TX9 19, w ∈ wsX9_counted := (fun _ h => List.mem_cons_of_mem _ (List.mem_append_right _ h))
  have hl := lv_entry ([.ref h0, .int p1]) (n := 2) (Nat.le_of_ble_eq_true rfl)
  rw [lg_entry_eq]
  generalize (lg_sl ([.ref h0, .int p1]) ++ List.replicate (2 - (lg_sl ([.ref h0, .int p1])).length) Slot.unset).toArray = ls at hl ⊢
  replace hl : lv_has ls 2 [(0, .ref h0), (1, .int p1)] := hl
  unfold f_X9_counted at hf
  refine zgo (fun GW hTo hFr => ?_)
  refine hFr _ _ _ ?_
  obtain ⟨H, hHe⟩ : ∃ H, H = s.heap := ⟨_, rfl⟩
  obtain ⟨locs, hLe⟩ : ∃ L : List Loc, L = [] := ⟨_, rfl⟩
  rw [← hHe] at hP
  replace hS : va_S A s.heap H locs := by rw [hHe, hLe]; exact hS
  refine zat hHe.symm hLe.symm ?_
  clear hHe hLe
  refine lv_aload_n (pc := 0) hx hb (zdt_at zt_X9_counted_0 0 rfl) rfl (lv_at hl 0 rfl) ?_
  refine va_get (pc := 1) (D := D) (ci := 11) (v := .ref h0_counters) (C := RX9) (T := TX9) (N := 19) hx hb hts hcX9 hown hK hP 0 rfl rfl 2 (by decide) hw0 (fun _ h9 => h9) rfl (zdt_at zt_X9_counted_0 1 rfl) ?_
  refine lv_iload_n (pc := 4) hx hb (zdt_at zt_X9_counted_0 2 rfl) rfl (lv_at hl 1 rfl) ?_
  refine lv_if_ge (pc := 5) (tgt := 12) hx hb (zdt_at zt_X9_counted_0 3 rfl) (by decide) (fun cn_ => ?t_1) (fun cn_ => ?f_2)
  case t_1 =>
    replace hf := zt_s cn_ hf
    clear cn_
    refine lv_iconst (pc := 12) (v := (0 : Int32)) hx hb (zdt_at zt_X9_counted_0 6 rfl) (by decide) ?_
    refine lv_dup2_11 (pc := 13) hx hb (zdt_at zt_X9_counted_0 7 rfl) rfl rfl ?_
    replace hf := zk_s hf
    refine va_iald (pc := 14) hx hb hK hP 1 1 rfl rfl hf.1 (zdt_at zt_X9_counted_0 8 rfl) ?_
    replace hf := hf.2
    refine lv_iconst (pc := 15) (v := (1 : Int32)) hx hb (zdt_at zt_X9_counted_0 9 rfl) (by decide) ?_
    refine lv_iadd (pc := 16) hx hb (zdt_at zt_X9_counted_0 10 rfl) ?_
    replace hf := zk_s hf
    refine va_iast (pc := 17) hx hb hK hP hD hS 1 1 rfl rfl hf.1 (zdt_at zt_X9_counted_0 11 rfl) ?_
    replace hf := hf.2
    clear hP hD hS
    intro H locs hP hD hS
    obtain ⟨c_counters_3, e_⟩ : ∃ q : Nat → Int32, q = (upd c_counters (0 : Int32).toNatClampNeg ((c_counters (0 : Int32).toNatClampNeg) + (1 : Int32))) := ⟨_, rfl⟩
    replace hf := zn_s hf e_
    replace hP : va_P D vwCl ([(h0, .inr (11, [.ref h0_buffer, .ref h0_slots, .ref h0_counters, .ref h0_officerPin, .ref h0_userPin, .ref h0_words, .ref h0_sha, .ref h0_stream, .ref h0_aes, .ref h0_modes, .ref h0_gcm, .ref h0_generator, .ref h0_tests, .ref h0_message, .ref h0_secret, .int c_state, .int c_testsDone, .int c_faults, .int c_streamBegun])), (h0_counters, .inl (cy 1, 3, .inl c_counters_3))]) H := by rw [e_]; exact hP
    replace hD : va_D A ([(h0, .inr (11, [.ref h0_buffer, .ref h0_slots, .ref h0_counters, .ref h0_officerPin, .ref h0_userPin, .ref h0_words, .ref h0_sha, .ref h0_stream, .ref h0_aes, .ref h0_modes, .ref h0_gcm, .ref h0_generator, .ref h0_tests, .ref h0_message, .ref h0_secret, .int c_state, .int c_testsDone, .int c_faults, .int c_streamBegun])), (h0_counters, .inl (cy 1, 3, .inl c_counters_3))]) := by rw [e_]; exact hD
    clear e_
    refine lv_iload_n (pc := 18) hx hb (zdt_at zt_X9_counted_0 12 rfl) rfl (lv_at hl 1 rfl) ?_
    cases hf
    exact W.iret (pc := 19) hx hb hr (fun t ht hW => ⟨rfl, ⟨by rw [ht]; exact hP, hD⟩, hS.F ht⟩) hS.2.2 (zdt_at zt_X9_counted_0 13 rfl)
  replace hf := ze_s cn_ hf
  clear cn_
  refine lv_iconst (pc := 8) (v := (1 : Int32)) hx hb (zdt_at zt_X9_counted_0 4 rfl) (by decide) ?_
  refine lv_goto (pc := 9) (tgt := 13) hx hb (zdt_at zt_X9_counted_0 5 rfl) (by decide) ?_
  refine lv_dup2_11 (pc := 13) hx hb (zdt_at zt_X9_counted_0 7 rfl) rfl rfl ?_
  replace hf := zk_s hf
  refine va_iald (pc := 14) hx hb hK hP 1 1 rfl rfl hf.1 (zdt_at zt_X9_counted_0 8 rfl) ?_
  replace hf := hf.2
  refine lv_iconst (pc := 15) (v := (1 : Int32)) hx hb (zdt_at zt_X9_counted_0 9 rfl) (by decide) ?_
  refine lv_iadd (pc := 16) hx hb (zdt_at zt_X9_counted_0 10 rfl) ?_
  replace hf := zk_s hf
  refine va_iast (pc := 17) hx hb hK hP hD hS 1 1 rfl rfl hf.1 (zdt_at zt_X9_counted_0 11 rfl) ?_
  replace hf := hf.2
  clear hP hD hS
  intro H locs hP hD hS
  obtain ⟨c_counters_4, e_⟩ : ∃ q : Nat → Int32, q = (upd c_counters (1 : Int32).toNatClampNeg ((c_counters (1 : Int32).toNatClampNeg) + (1 : Int32))) := ⟨_, rfl⟩
  replace hf := zn_s hf e_
  replace hP : va_P D vwCl ([(h0, .inr (11, [.ref h0_buffer, .ref h0_slots, .ref h0_counters, .ref h0_officerPin, .ref h0_userPin, .ref h0_words, .ref h0_sha, .ref h0_stream, .ref h0_aes, .ref h0_modes, .ref h0_gcm, .ref h0_generator, .ref h0_tests, .ref h0_message, .ref h0_secret, .int c_state, .int c_testsDone, .int c_faults, .int c_streamBegun])), (h0_counters, .inl (cy 1, 3, .inl c_counters_4))]) H := by rw [e_]; exact hP
  replace hD : va_D A ([(h0, .inr (11, [.ref h0_buffer, .ref h0_slots, .ref h0_counters, .ref h0_officerPin, .ref h0_userPin, .ref h0_words, .ref h0_sha, .ref h0_stream, .ref h0_aes, .ref h0_modes, .ref h0_gcm, .ref h0_generator, .ref h0_tests, .ref h0_message, .ref h0_secret, .int c_state, .int c_testsDone, .int c_faults, .int c_streamBegun])), (h0_counters, .inl (cy 1, 3, .inl c_counters_4))]) := by rw [e_]; exact hD
  clear e_
  refine lv_iload_n (pc := 18) hx hb (zdt_at zt_X9_counted_0 12 rfl) rfl (lv_at hl 1 rfl) ?_
  cases hf
  exact W.iret (pc := 19) hx hb hr (fun t ht hW => ⟨rfl, ⟨by rw [ht]; exact hP, hD⟩, hS.F ht⟩) hS.2.2 (zdt_at zt_X9_counted_0 13 rfl)
set_option maxHeartbeats 4000000 in
set_option maxRecDepth 100000 in
theorem c_X9_login (l : Launch) (D : va_G) (cy : Nat → ClassId) (tt : Nat → Nat) (sz : Nat) (h0 : Nat) (h0_buffer : Nat) (h0_slots : Nat) (h0_counters : Nat) (h0_officerPin : Nat) (h0_userPin : Nat) (h0_words : Nat) (h0_sha : Nat) (h0_stream : Nat) (h0_aes : Nat) (h0_modes : Nat) (h0_gcm : Nat) (h0_generator : Nat) (h0_tests : Nat) (h0_message : Nat) (h0_secret : Nat) (p1 : Int32) (p2 : Int32) (c_state : Int32) (c_counters : Nat → Int32) (c_officerPin_number : Int32) (c_officerPin_tries : Int32) (c_userPin_number : Int32) (c_userPin_tries : Int32) (c_testsDone : Int32) (c_faults : Int32) (c_streamBegun : Int32) (r_ : Int32) (c_state' : Int32) (c_counters' : Nat → Int32) (c_officerPin_tries' : Int32) (c_userPin_tries' : Int32) (hf : f_X9_login p1 p2 c_state c_counters c_officerPin_number c_officerPin_tries c_userPin_number c_userPin_tries = some (r_, c_state', c_counters', c_officerPin_tries', c_userPin_tries')) : Met l yX9_login wsX9_login ({ frames := 2, cells := 0, slots := 0, locals := 43 }) (zPc D cy tt sz [.ref h0, .int p1, .int p2] ([(h0, .inr (11, [.ref h0_buffer, .ref h0_slots, .ref h0_counters, .ref h0_officerPin, .ref h0_userPin, .ref h0_words, .ref h0_sha, .ref h0_stream, .ref h0_aes, .ref h0_modes, .ref h0_gcm, .ref h0_generator, .ref h0_tests, .ref h0_message, .ref h0_secret, .int c_state, .int c_testsDone, .int c_faults, .int c_streamBegun])), (h0_counters, .inl (cy 1, 3, .inl c_counters)), (h0_officerPin, .inr (7, [.int c_officerPin_number, .int c_officerPin_tries])), (h0_userPin, .inr (7, [.int c_userPin_number, .int c_userPin_tries]))])) (zQ D (some (.int r_)) ([(h0, .inr (11, [.ref h0_buffer, .ref h0_slots, .ref h0_counters, .ref h0_officerPin, .ref h0_userPin, .ref h0_words, .ref h0_sha, .ref h0_stream, .ref h0_aes, .ref h0_modes, .ref h0_gcm, .ref h0_generator, .ref h0_tests, .ref h0_message, .ref h0_secret, .int c_state', .int c_testsDone, .int c_faults, .int c_streamBegun])), (h0_counters, .inl (cy 1, 3, .inl c_counters')), (h0_officerPin, .inr (7, [.int c_officerPin_number, .int c_officerPin_tries'])), (h0_userPin, .inr (7, [.int c_userPin_number, .int c_userPin_tries']))]) (va_A ([(h0, .inr (11, [.ref h0_buffer, .ref h0_slots, .ref h0_counters, .ref h0_officerPin, .ref h0_userPin, .ref h0_words, .ref h0_sha, .ref h0_stream, .ref h0_aes, .ref h0_modes, .ref h0_gcm, .ref h0_generator, .ref h0_tests, .ref h0_message, .ref h0_secret, .int c_state, .int c_testsDone, .int c_faults, .int c_streamBegun])), (h0_counters, .inl (cy 1, 3, .inl c_counters)), (h0_officerPin, .inr (7, [.int c_officerPin_number, .int c_officerPin_tries])), (h0_userPin, .inr (7, [.int c_userPin_number, .int c_userPin_tries]))]) sz)) 0 0 (va_A ([(h0, .inr (11, [.ref h0_buffer, .ref h0_slots, .ref h0_counters, .ref h0_officerPin, .ref h0_userPin, .ref h0_words, .ref h0_sha, .ref h0_stream, .ref h0_aes, .ref h0_modes, .ref h0_gcm, .ref h0_generator, .ref h0_tests, .ref h0_message, .ref h0_secret, .int c_state, .int c_testsDone, .int c_faults, .int c_streamBegun])), (h0_counters, .inl (cy 1, 3, .inl c_counters)), (h0_officerPin, .inr (7, [.int c_officerPin_number, .int c_officerPin_tries])), (h0_userPin, .inr (7, [.int c_userPin_number, .int c_userPin_tries]))]) sz) := by
  refine Met.ofW (cc := cX9_login) (maxL := 3) (ret := (some .int)) (by decide) rfl ?_
  intro p e s m args below meth c s₁ B hml hv
  obtain ⟨rfl, rfl, hP, hD0, hE⟩ := hv
  have hx := B.exec
  have hb := B.bytes
  have hr := B.returns
  have hts := atoms_spec (ws := wsX9_login) B.pre
  have hown : s.vm.findClass RX9 = some m.cls := findClass_of_methodNamed B.named
  have hlocks := B.notSynchronized
  clear B
  have hD := hD0.self (sz := s.heap.size)
  generalize hAe : va_A ([(h0, .inr (11, [.ref h0_buffer, .ref h0_slots, .ref h0_counters, .ref h0_officerPin, .ref h0_userPin, .ref h0_words, .ref h0_sha, .ref h0_stream, .ref h0_aes, .ref h0_modes, .ref h0_gcm, .ref h0_generator, .ref h0_tests, .ref h0_message, .ref h0_secret, .int c_state, .int c_testsDone, .int c_faults, .int c_streamBegun])), (h0_counters, .inl (cy 1, 3, .inl c_counters)), (h0_officerPin, .inr (7, [.int c_officerPin_number, .int c_officerPin_tries])), (h0_userPin, .inr (7, [.int c_userPin_number, .int c_userPin_tries]))]) s.heap.size = A at hD hE ⊢
  have hA : ∀ q : Nat, s.heap.size ≤ q → A q := fun q h => by rw [← hAe]; exact Or.inr h
  clear hAe hD0
  have hS : va_S A s.heap s.heap [] := va_S.rf
  have hK := hE.1
  have hl := lv_entry ([.ref h0, .int p1, .int p2]) (n := 3) (Nat.le_of_ble_eq_true rfl)
  rw [lg_entry_eq]
  generalize (lg_sl ([.ref h0, .int p1, .int p2]) ++ List.replicate (3 - (lg_sl ([.ref h0, .int p1, .int p2])).length) Slot.unset).toArray = ls at hl ⊢
  replace hl : lv_has ls 3 [(0, .ref h0), (1, .int p1), (2, .int p2)] := hl
  unfold f_X9_login at hf
  refine zgo (fun GW hTo hFr => ?_)
  refine hFr _ _ _ ?_
  obtain ⟨H, hHe⟩ : ∃ H, H = s.heap := ⟨_, rfl⟩
  obtain ⟨locs, hLe⟩ : ∃ L : List Loc, L = [] := ⟨_, rfl⟩
  rw [← hHe] at hP
  replace hS : va_S A s.heap H locs := by rw [hHe, hLe]; exact hS
  refine zat hHe.symm hLe.symm ?_
  clear hHe hLe
  refine lv_aload_n (pc := 0) hx hb (zdt_at zt_X9_login_0 0 rfl) rfl (lv_at hl 0 rfl) ?_
  refine lv_aload_n (pc := 1) hx hb (zdt_at zt_X9_login_0 1 rfl) rfl (lv_at hl 0 rfl) ?_
  refine lv_iload_n (pc := 2) hx hb (zdt_at zt_X9_login_0 2 rfl) rfl (lv_at hl 1 rfl) ?_
  refine lv_iload_n (pc := 3) hx hb (zdt_at zt_X9_login_0 3 rfl) rfl (lv_at hl 2 rfl) ?_
  replace hf := zb_s hf
  obtain ⟨⟨r_1, c_state_2, c_officerPin_tries_3, c_userPin_tries_4⟩, hc_, hf⟩ := hf
  refine zcn2 (pc := 4) (rv := (some (.int r_1))) (va_runV (As := [.int p1, .int p2]) (rest := [.ref h0]) ⟨hx, hb, hml, hown, hts⟩ (c_X9_loginAnswer l D cy tt H.size h0 h0_buffer h0_slots h0_counters h0_officerPin h0_userPin h0_words h0_sha h0_stream h0_aes h0_modes h0_gcm h0_generator h0_tests h0_message h0_secret p1 p2 c_state c_officerPin_number c_officerPin_tries c_userPin_number c_userPin_tries c_testsDone c_faults c_streamBegun r_1 c_state_2 c_officerPin_tries_3 c_userPin_tries_4 hc_) (cwV 2 hts gX9_login_X9_loginAnswer rfl rfl rfl (by decide +kernel) ⟨Nat.le_of_ble_eq_true rfl, Nat.le_of_ble_eq_true rfl⟩) ⟨zblind, va_recv hK hP (ci := 11) (q0 := 0) rfl rfl, zpre hE hS (hP.sub [0, 2, 3] rfl) (hD.sub [0, 2, 3] (by decide) rfl) (va_free hD hS hA [0, 2, 3] rfl)⟩ rfl rfl hl.1 rfl (lv_room (Nat.le_of_ble_eq_true rfl)) (zdt_at zt_X9_login_0 4 rfl) ⟨Nat.zero_le _, Nat.zero_le _⟩) hS hP hD (va_free hD hS hA [0, 2, 3] rfl) [0, 2, 3] rfl (by decide) rfl ?_
  clear hP hD hS hc_
  intro H locs hP hD hS
  replace hP : va_P D vwCl ([(h0, .inr (11, [.ref h0_buffer, .ref h0_slots, .ref h0_counters, .ref h0_officerPin, .ref h0_userPin, .ref h0_words, .ref h0_sha, .ref h0_stream, .ref h0_aes, .ref h0_modes, .ref h0_gcm, .ref h0_generator, .ref h0_tests, .ref h0_message, .ref h0_secret, .int c_state_2, .int c_testsDone, .int c_faults, .int c_streamBegun])), (h0_counters, .inl (cy 1, 3, .inl c_counters)), (h0_officerPin, .inr (7, [.int c_officerPin_number, .int c_officerPin_tries_3])), (h0_userPin, .inr (7, [.int c_userPin_number, .int c_userPin_tries_4]))]) H := hP
  replace hD : va_D A ([(h0, .inr (11, [.ref h0_buffer, .ref h0_slots, .ref h0_counters, .ref h0_officerPin, .ref h0_userPin, .ref h0_words, .ref h0_sha, .ref h0_stream, .ref h0_aes, .ref h0_modes, .ref h0_gcm, .ref h0_generator, .ref h0_tests, .ref h0_message, .ref h0_secret, .int c_state_2, .int c_testsDone, .int c_faults, .int c_streamBegun])), (h0_counters, .inl (cy 1, 3, .inl c_counters)), (h0_officerPin, .inr (7, [.int c_officerPin_number, .int c_officerPin_tries_3])), (h0_userPin, .inr (7, [.int c_userPin_number, .int c_userPin_tries_4]))]) := hD
  refine W.eq (g2 := F0 m 7 ls [.int r_1, .ref h0]) rfl ?_
  replace hf := zb_s hf
  obtain ⟨⟨r_5, c_counters_6⟩, hc_, hf⟩ := hf
  refine zcn2 (pc := 7) (rv := (some (.int r_5))) (va_runV (As := [.int r_1]) (rest := []) ⟨hx, hb, hml, hown, hts⟩ (c_X9_counted l D cy tt H.size h0 h0_buffer h0_slots h0_counters h0_officerPin h0_userPin h0_words h0_sha h0_stream h0_aes h0_modes h0_gcm h0_generator h0_tests h0_message h0_secret r_1 c_counters c_state_2 c_testsDone c_faults c_streamBegun r_5 c_counters_6 hc_) (cwV 1 hts gX9_login_X9_counted rfl rfl rfl (by decide +kernel) ⟨Nat.le_of_ble_eq_true rfl, Nat.le_of_ble_eq_true rfl⟩) ⟨zblind, va_recv hK hP (ci := 11) (q0 := 0) rfl rfl, zpre hE hS (hP.sub [0, 1] rfl) (hD.sub [0, 1] (by decide) rfl) (va_free hD hS hA [0, 1] rfl)⟩ rfl rfl hl.1 rfl (lv_room (Nat.le_of_ble_eq_true rfl)) (zdt_at zt_X9_login_0 5 rfl) ⟨Nat.zero_le _, Nat.zero_le _⟩) hS hP hD (va_free hD hS hA [0, 1] rfl) [0, 1] rfl (by decide) rfl ?_
  clear hP hD hS hc_
  intro H locs hP hD hS
  replace hP : va_P D vwCl ([(h0, .inr (11, [.ref h0_buffer, .ref h0_slots, .ref h0_counters, .ref h0_officerPin, .ref h0_userPin, .ref h0_words, .ref h0_sha, .ref h0_stream, .ref h0_aes, .ref h0_modes, .ref h0_gcm, .ref h0_generator, .ref h0_tests, .ref h0_message, .ref h0_secret, .int c_state_2, .int c_testsDone, .int c_faults, .int c_streamBegun])), (h0_counters, .inl (cy 1, 3, .inl c_counters_6)), (h0_officerPin, .inr (7, [.int c_officerPin_number, .int c_officerPin_tries_3])), (h0_userPin, .inr (7, [.int c_userPin_number, .int c_userPin_tries_4]))]) H := hP
  replace hD : va_D A ([(h0, .inr (11, [.ref h0_buffer, .ref h0_slots, .ref h0_counters, .ref h0_officerPin, .ref h0_userPin, .ref h0_words, .ref h0_sha, .ref h0_stream, .ref h0_aes, .ref h0_modes, .ref h0_gcm, .ref h0_generator, .ref h0_tests, .ref h0_message, .ref h0_secret, .int c_state_2, .int c_testsDone, .int c_faults, .int c_streamBegun])), (h0_counters, .inl (cy 1, 3, .inl c_counters_6)), (h0_officerPin, .inr (7, [.int c_officerPin_number, .int c_officerPin_tries_3])), (h0_userPin, .inr (7, [.int c_userPin_number, .int c_userPin_tries_4]))]) := hD
  refine W.eq (g2 := F0 m 10 ls [.int r_5]) rfl ?_
  cases hf
  exact W.iret (pc := 10) hx hb hr (fun t ht hW => ⟨rfl, ⟨by rw [ht]; exact hP, hD⟩, hS.F ht⟩) hS.2.2 (zdt_at zt_X9_login_0 6 rfl)
