set_option maxHeartbeats 4000000 in
set_option maxRecDepth 100000 in
theorem Lt_fault (l_ : Launch) (hlt : l_.stackTraces = false) (tx : Nat → Nat) (D : va_G) (cy : Nat → ClassId) (tt : Nat → Nat) (sz : Nat) (h0 : Nat) (h0_buffer : Nat) (h0_slots : Nat) (h0_counters : Nat) (h0_officerPin : Nat) (h0_userPin : Nat) (h0_words : Nat) (h0_sha : Nat) (h0_stream : Nat) (h0_aes : Nat) (h0_modes : Nat) (h0_gcm : Nat) (h0_generator : Nat) (h0_tests : Nat) (h0_message : Nat) (h0_secret : Nat) (p1 : Int32) (c_faults : Int32) (c_state : Int32) (c_testsDone : Int32) (c_streamBegun : Int32) (hf : t_X9_fault p1 = some ()) : vx_Met l_ yL_fault wsL_fault ({ frames := 7, cells := 1, slots := 6, locals := 103 }) (fun a U => zPc D cy tt sz [.ref h0, .int p1] ([(h0, .inr (11, [.ref h0_buffer, .ref h0_slots, .ref h0_counters, .ref h0_officerPin, .ref h0_userPin, .ref h0_words, .ref h0_sha, .ref h0_stream, .ref h0_aes, .ref h0_modes, .ref h0_gcm, .ref h0_generator, .ref h0_tests, .ref h0_message, .ref h0_secret, .int c_state, .int c_testsDone, .int c_faults, .int c_streamBegun]))]) a U ∧ gX tx (va_A ([(h0, .inr (11, [.ref h0_buffer, .ref h0_slots, .ref h0_counters, .ref h0_officerPin, .ref h0_userPin, .ref h0_words, .ref h0_sha, .ref h0_stream, .ref h0_aes, .ref h0_modes, .ref h0_gcm, .ref h0_generator, .ref h0_tests, .ref h0_message, .ref h0_secret, .int c_state, .int c_testsDone, .int c_faults, .int c_streamBegun]))]) sz) U) (zQ D (some (.int 1)) ([(h0, .inr (11, [.ref h0_buffer, .ref h0_slots, .ref h0_counters, .ref h0_officerPin, .ref h0_userPin, .ref h0_words, .ref h0_sha, .ref h0_stream, .ref h0_aes, .ref h0_modes, .ref h0_gcm, .ref h0_generator, .ref h0_tests, .ref h0_message, .ref h0_secret, .int c_state, .int c_testsDone, .int c_faults, .int c_streamBegun]))]) (va_A ([(h0, .inr (11, [.ref h0_buffer, .ref h0_slots, .ref h0_counters, .ref h0_officerPin, .ref h0_userPin, .ref h0_words, .ref h0_sha, .ref h0_stream, .ref h0_aes, .ref h0_modes, .ref h0_gcm, .ref h0_generator, .ref h0_tests, .ref h0_message, .ref h0_secret, .int c_state, .int c_testsDone, .int c_faults, .int c_streamBegun]))]) sz)) (fun _ _ _ => False) 1 6 (va_A ([(h0, .inr (11, [.ref h0_buffer, .ref h0_slots, .ref h0_counters, .ref h0_officerPin, .ref h0_userPin, .ref h0_words, .ref h0_sha, .ref h0_stream, .ref h0_aes, .ref h0_modes, .ref h0_gcm, .ref h0_generator, .ref h0_tests, .ref h0_message, .ref h0_secret, .int c_state, .int c_testsDone, .int c_faults, .int c_streamBegun]))]) sz) := by
  refine vx_ofWH (cc := cL_fault) (maxL := 3) (ret := some .int) (by decide) rfl ?_
  intro p e s m args below meth c s₁ B hml hv
  obtain ⟨⟨rfl, rfl, hP, hD0, hE⟩, hX⟩ := hv
  have hx := B.exec
  have hb := B.bytes
  have hr := B.returns
  have hts := atoms_spec (ws := wsL_fault) B.pre
  have hown : s.vm.findClass RL = some m.cls := findClass_of_methodNamed B.named
  have htab := vx_table (x := yL_fault) B (hts _ List.mem_cons_self)
  have hlocks := B.notSynchronized
  clear B
  refine vx_ret ?_
  have hD := hD0.self (sz := s.heap.size)
  generalize hAe : va_A ([(h0, .inr (11, [.ref h0_buffer, .ref h0_slots, .ref h0_counters, .ref h0_officerPin, .ref h0_userPin, .ref h0_words, .ref h0_sha, .ref h0_stream, .ref h0_aes, .ref h0_modes, .ref h0_gcm, .ref h0_generator, .ref h0_tests, .ref h0_message, .ref h0_secret, .int c_state, .int c_testsDone, .int c_faults, .int c_streamBegun]))]) s.heap.size = A at hD hE hX ⊢
  have hA : ∀ q : Nat, s.heap.size ≤ q → A q := fun q h => by rw [← hAe]; exact Or.inr h
  clear hAe hD0
  have hS : va_S A s.heap s.heap [] := va_S.rf
  have hK := hE.1
  have hl := lv_entry ([.ref h0, .int p1]) (n := 3) (Nat.le_of_ble_eq_true rfl)
  rw [lg_entry_eq]
  generalize (lg_sl ([.ref h0, .int p1]) ++ List.replicate (3 - (lg_sl ([.ref h0, .int p1])).length) Slot.unset).toArray = ls at hl ⊢
  replace hl : lv_has ls 3 [(0, .ref h0), (1, .int p1)] := hl
  refine lv_aload_n (pc := 0) hx hb dL_fault_0 rfl (lv_at hl 0 rfl) ?_
  refine lv_iload_n (pc := 1) hx hb dL_fault_1 rfl (lv_at hl 1 rfl) ?_
  have hFc := (va_free (wc := ([(h0, .inr (11, [.ref h0_buffer, .ref h0_slots, .ref h0_counters, .ref h0_officerPin, .ref h0_userPin, .ref h0_words, .ref h0_sha, .ref h0_stream, .ref h0_aes, .ref h0_modes, .ref h0_gcm, .ref h0_generator, .ref h0_tests, .ref h0_message, .ref h0_secret, .int c_state, .int c_testsDone, .int c_faults, .int c_streamBegun]))])) hD hS hA [0] rfl)
  refine zthr (pc := 2) (rest := []) (vx_runV (As := [.int p1]) (rest := []) ⟨hx, hb, hml, hown, hts⟩ (t_c_X9_fault l_ hlt tx D cy tt s.heap.size h0 h0_buffer h0_slots h0_counters h0_officerPin h0_userPin h0_words h0_sha h0_stream h0_aes h0_modes h0_gcm h0_generator h0_tests h0_message h0_secret p1 c_faults c_state c_testsDone c_streamBegun hf) (cwV 1 hts gL_fault_X9_fault rfl rfl rfl (by decide +kernel) ⟨Nat.le_of_ble_eq_true rfl, Nat.le_of_ble_eq_true rfl⟩) ⟨zblindX, va_recv hK hP (ci := 11) (q0 := 0) rfl rfl, zpreX hE hX hS (hP.sub [0] rfl) (hD.sub [0] (by decide) rfl) hFc⟩ rfl rfl hl.1 rfl (lv_room (Nat.le_of_ble_eq_true rfl)) dL_fault_2 ⟨Nat.le_of_ble_eq_true rfl, Nat.le_of_ble_eq_true rfl⟩) hS hFc hP (fun ce q9 H locs hP_ hS_ _ hce hcv hcl => ?_)
  clear hFc
  refine zcatch1 (pc := 2) (own := RL) (name := "java/lang/IllegalArgumentException") (E := "java/lang/IllegalArgumentException") hown htab rfl (by decide) (hts (.classLink RL 13 "java/lang/IllegalArgumentException") (by decide +kernel)) (hX.2.2.1 _ _ (by decide +kernel)) hce hcv hcl ?_
  refine lv_astore_n (pc := 8) (lv' := [(2, .ref q9), (0, .ref h0), (1, .int p1)]) hx hb dL_fault_8 rfl hl (by decide) rfl ?_
  clear hl
  intro ls hl
  refine lv_iconst (pc := 9) (v := (1 : Int32)) hx hb dL_fault_9 (by decide) ?_
  exact W.iret (pc := 10) hx hb hr (fun t ht hW => ⟨rfl, ⟨by rw [ht]; exact hP_, hD⟩, hS_.F ht⟩) hS_.2.2 dL_fault_10
set_option maxHeartbeats 4000000 in
set_option maxRecDepth 100000 in
theorem Lt_counter (l_ : Launch) (hlt : l_.stackTraces = false) (tx : Nat → Nat) (D : va_G) (cy : Nat → ClassId) (tt : Nat → Nat) (sz : Nat) (h0 : Nat) (h0_buffer : Nat) (h0_slots : Nat) (h0_counters : Nat) (h0_officerPin : Nat) (h0_userPin : Nat) (h0_words : Nat) (h0_sha : Nat) (h0_stream : Nat) (h0_aes : Nat) (h0_modes : Nat) (h0_gcm : Nat) (h0_generator : Nat) (h0_tests : Nat) (h0_message : Nat) (h0_secret : Nat) (p1 : Int32) (c_counters : Nat → Int32) (c_state : Int32) (c_testsDone : Int32) (c_faults : Int32) (c_streamBegun : Int32) (hO : Nat) (hf : t_X9_counter p1 = some ()) : vx_Met l_ yL_counter wsL_counter ({ frames := 7, cells := 1, slots := 6, locals := 103 }) (fun a U => zPc D cy tt sz [.ref h0, .int p1, .ref hO] ([(h0, .inr (11, [.ref h0_buffer, .ref h0_slots, .ref h0_counters, .ref h0_officerPin, .ref h0_userPin, .ref h0_words, .ref h0_sha, .ref h0_stream, .ref h0_aes, .ref h0_modes, .ref h0_gcm, .ref h0_generator, .ref h0_tests, .ref h0_message, .ref h0_secret, .int c_state, .int c_testsDone, .int c_faults, .int c_streamBegun])), (h0_counters, .inl (cy 1, 3, .inl c_counters))]) a U ∧ gX tx (va_A ([(h0, .inr (11, [.ref h0_buffer, .ref h0_slots, .ref h0_counters, .ref h0_officerPin, .ref h0_userPin, .ref h0_words, .ref h0_sha, .ref h0_stream, .ref h0_aes, .ref h0_modes, .ref h0_gcm, .ref h0_generator, .ref h0_tests, .ref h0_message, .ref h0_secret, .int c_state, .int c_testsDone, .int c_faults, .int c_streamBegun])), (h0_counters, .inl (cy 1, 3, .inl c_counters))]) sz) U) (zQ D (some (.int 1)) ([(h0, .inr (11, [.ref h0_buffer, .ref h0_slots, .ref h0_counters, .ref h0_officerPin, .ref h0_userPin, .ref h0_words, .ref h0_sha, .ref h0_stream, .ref h0_aes, .ref h0_modes, .ref h0_gcm, .ref h0_generator, .ref h0_tests, .ref h0_message, .ref h0_secret, .int c_state, .int c_testsDone, .int c_faults, .int c_streamBegun])), (h0_counters, .inl (cy 1, 3, .inl c_counters))]) (va_A ([(h0, .inr (11, [.ref h0_buffer, .ref h0_slots, .ref h0_counters, .ref h0_officerPin, .ref h0_userPin, .ref h0_words, .ref h0_sha, .ref h0_stream, .ref h0_aes, .ref h0_modes, .ref h0_gcm, .ref h0_generator, .ref h0_tests, .ref h0_message, .ref h0_secret, .int c_state, .int c_testsDone, .int c_faults, .int c_streamBegun])), (h0_counters, .inl (cy 1, 3, .inl c_counters))]) sz)) (fun _ _ _ => False) 1 6 (va_A ([(h0, .inr (11, [.ref h0_buffer, .ref h0_slots, .ref h0_counters, .ref h0_officerPin, .ref h0_userPin, .ref h0_words, .ref h0_sha, .ref h0_stream, .ref h0_aes, .ref h0_modes, .ref h0_gcm, .ref h0_generator, .ref h0_tests, .ref h0_message, .ref h0_secret, .int c_state, .int c_testsDone, .int c_faults, .int c_streamBegun])), (h0_counters, .inl (cy 1, 3, .inl c_counters))]) sz) := by
  refine vx_ofWH (cc := cL_counter) (maxL := 4) (ret := some .int) (by decide) rfl ?_
  intro p e s m args below meth c s₁ B hml hv
  obtain ⟨⟨rfl, rfl, hP, hD0, hE⟩, hX⟩ := hv
  have hx := B.exec
  have hb := B.bytes
  have hr := B.returns
  have hts := atoms_spec (ws := wsL_counter) B.pre
  have hown : s.vm.findClass RL = some m.cls := findClass_of_methodNamed B.named
  have htab := vx_table (x := yL_fault) B (hts _ List.mem_cons_self)
  have hlocks := B.notSynchronized
  clear B
  refine vx_ret ?_
  have hD := hD0.self (sz := s.heap.size)
  generalize hAe : va_A ([(h0, .inr (11, [.ref h0_buffer, .ref h0_slots, .ref h0_counters, .ref h0_officerPin, .ref h0_userPin, .ref h0_words, .ref h0_sha, .ref h0_stream, .ref h0_aes, .ref h0_modes, .ref h0_gcm, .ref h0_generator, .ref h0_tests, .ref h0_message, .ref h0_secret, .int c_state, .int c_testsDone, .int c_faults, .int c_streamBegun])), (h0_counters, .inl (cy 1, 3, .inl c_counters))]) s.heap.size = A at hD hE hX ⊢
  have hA : ∀ q : Nat, s.heap.size ≤ q → A q := fun q h => by rw [← hAe]; exact Or.inr h
  clear hAe hD0
  have hS : va_S A s.heap s.heap [] := va_S.rf
  have hK := hE.1
  have hl := lv_entry ([.ref h0, .int p1, .ref hO]) (n := 4) (Nat.le_of_ble_eq_true rfl)
  rw [lg_entry_eq]
  generalize (lg_sl ([.ref h0, .int p1, .ref hO]) ++ List.replicate (4 - (lg_sl ([.ref h0, .int p1, .ref hO])).length) Slot.unset).toArray = ls at hl ⊢
  replace hl : lv_has ls 4 [(0, .ref h0), (1, .int p1), (2, .ref hO)] := hl
  refine lv_aload_n (pc := 0) hx hb dL_counter_0 rfl (lv_at hl 2 rfl) ?_
  refine lv_iconst (pc := 1) (v := (0 : Int32)) hx hb dL_counter_1 (by decide) ?_
  refine lv_aload_n (pc := 2) hx hb dL_counter_2 rfl (lv_at hl 0 rfl) ?_
  refine lv_iload_n (pc := 3) hx hb dL_counter_3 rfl (lv_at hl 1 rfl) ?_
  have hFc := (va_free (wc := ([(h0, .inr (11, [.ref h0_buffer, .ref h0_slots, .ref h0_counters, .ref h0_officerPin, .ref h0_userPin, .ref h0_words, .ref h0_sha, .ref h0_stream, .ref h0_aes, .ref h0_modes, .ref h0_gcm, .ref h0_generator, .ref h0_tests, .ref h0_message, .ref h0_secret, .int c_state, .int c_testsDone, .int c_faults, .int c_streamBegun])), (h0_counters, .inl (cy 1, 3, .inl c_counters))])) hD hS hA [0, 1] rfl)
  refine zthr (pc := 4) (rest := [.int (0 : Int32), .ref hO]) (vx_runV (As := [.int p1]) (rest := [.int (0 : Int32), .ref hO]) ⟨hx, hb, hml, hown, hts⟩ (t_c_X9_counter l_ hlt tx D cy tt s.heap.size h0 h0_buffer h0_slots h0_counters h0_officerPin h0_userPin h0_words h0_sha h0_stream h0_aes h0_modes h0_gcm h0_generator h0_tests h0_message h0_secret p1 c_counters c_state c_testsDone c_faults c_streamBegun hf) (cwV 1 hts gL_counter_X9_counter rfl rfl rfl (by decide +kernel) ⟨Nat.le_of_ble_eq_true rfl, Nat.le_of_ble_eq_true rfl⟩) ⟨zblindX, va_recv hK hP (ci := 11) (q0 := 0) rfl rfl, zpreX hE hX hS (hP.sub [0, 1] rfl) (hD.sub [0, 1] (by decide) rfl) hFc⟩ rfl rfl hl.1 rfl (lv_room (Nat.le_of_ble_eq_true rfl)) dL_counter_4 ⟨Nat.le_of_ble_eq_true rfl, Nat.le_of_ble_eq_true rfl⟩) hS hFc hP (fun ce q9 H locs hP_ hS_ _ hce hcv hcl => ?_)
  clear hFc
  refine zcatch1 (pc := 4) (own := RL) (name := "java/lang/IllegalArgumentException") (E := "java/lang/IllegalArgumentException") hown htab rfl (by decide) (hts (.classLink RL 13 "java/lang/IllegalArgumentException") (by decide +kernel)) (hX.2.2.1 _ _ (by decide +kernel)) hce hcv hcl ?_
  refine lv_astore_n (pc := 12) (lv' := [(3, .ref q9), (0, .ref h0), (1, .int p1), (2, .ref hO)]) hx hb dL_counter_12 rfl hl (by decide) rfl ?_
  clear hl
  intro ls hl
  refine lv_iconst (pc := 13) (v := (1 : Int32)) hx hb dL_counter_13 (by decide) ?_
  exact W.iret (pc := 14) hx hb hr (fun t ht hW => ⟨rfl, ⟨by rw [ht]; exact hP_, hD⟩, hS_.F ht⟩) hS_.2.2 dL_counter_14
set_option maxHeartbeats 4000000 in
set_option maxRecDepth 100000 in
theorem Lt_entropy (l_ : Launch) (hlt : l_.stackTraces = false) (tx : Nat → Nat) (D : va_G) (cy : Nat → ClassId) (tt : Nat → Nat) (sz : Nat) (h0 : Nat) (h0_buffer : Nat) (h0_slots : Nat) (h0_counters : Nat) (h0_officerPin : Nat) (h0_userPin : Nat) (h0_words : Nat) (h0_sha : Nat) (h0_stream : Nat) (h0_aes : Nat) (h0_modes : Nat) (h0_gcm : Nat) (h0_generator : Nat) (h0_tests : Nat) (h0_message : Nat) (h0_secret : Nat) (h0_words_kept : Nat) (p1 : Int32) (c_state : Int32) (c_words_count : Int32) (c_words_first : Int32) (c_words_healthy : Int32) (c_words_last : Int32) (c_words_placeInWindow : Int32) (c_words_row : Int32) (c_words_timesInWindow : Int32) (c_words_kept : Nat → Int32) (c_testsDone : Int32) (c_faults : Int32) (c_streamBegun : Int32) (hO : Nat) (hf : t_X9_entropy c_state = some ()) : vx_Met l_ yL_entropy wsL_entropy ({ frames := 7, cells := 1, slots := 6, locals := 103 }) (fun a U => zPc D cy tt sz [.ref h0, .int p1, .ref hO] ([(h0, .inr (11, [.ref h0_buffer, .ref h0_slots, .ref h0_counters, .ref h0_officerPin, .ref h0_userPin, .ref h0_words, .ref h0_sha, .ref h0_stream, .ref h0_aes, .ref h0_modes, .ref h0_gcm, .ref h0_generator, .ref h0_tests, .ref h0_message, .ref h0_secret, .int c_state, .int c_testsDone, .int c_faults, .int c_streamBegun])), (h0_words, .inr (3, [.ref h0_words_kept, .int c_words_count, .int c_words_healthy, .int c_words_last, .int c_words_row, .int c_words_first, .int c_words_placeInWindow, .int c_words_timesInWindow])), (h0_words_kept, .inl (cy 1, 64, .inl c_words_kept))]) a U ∧ gX tx (va_A ([(h0, .inr (11, [.ref h0_buffer, .ref h0_slots, .ref h0_counters, .ref h0_officerPin, .ref h0_userPin, .ref h0_words, .ref h0_sha, .ref h0_stream, .ref h0_aes, .ref h0_modes, .ref h0_gcm, .ref h0_generator, .ref h0_tests, .ref h0_message, .ref h0_secret, .int c_state, .int c_testsDone, .int c_faults, .int c_streamBegun])), (h0_words, .inr (3, [.ref h0_words_kept, .int c_words_count, .int c_words_healthy, .int c_words_last, .int c_words_row, .int c_words_first, .int c_words_placeInWindow, .int c_words_timesInWindow])), (h0_words_kept, .inl (cy 1, 64, .inl c_words_kept))]) sz) U) (zQ D (some (.int 1)) ([(h0, .inr (11, [.ref h0_buffer, .ref h0_slots, .ref h0_counters, .ref h0_officerPin, .ref h0_userPin, .ref h0_words, .ref h0_sha, .ref h0_stream, .ref h0_aes, .ref h0_modes, .ref h0_gcm, .ref h0_generator, .ref h0_tests, .ref h0_message, .ref h0_secret, .int c_state, .int c_testsDone, .int c_faults, .int c_streamBegun])), (h0_words, .inr (3, [.ref h0_words_kept, .int c_words_count, .int c_words_healthy, .int c_words_last, .int c_words_row, .int c_words_first, .int c_words_placeInWindow, .int c_words_timesInWindow])), (h0_words_kept, .inl (cy 1, 64, .inl c_words_kept))]) (va_A ([(h0, .inr (11, [.ref h0_buffer, .ref h0_slots, .ref h0_counters, .ref h0_officerPin, .ref h0_userPin, .ref h0_words, .ref h0_sha, .ref h0_stream, .ref h0_aes, .ref h0_modes, .ref h0_gcm, .ref h0_generator, .ref h0_tests, .ref h0_message, .ref h0_secret, .int c_state, .int c_testsDone, .int c_faults, .int c_streamBegun])), (h0_words, .inr (3, [.ref h0_words_kept, .int c_words_count, .int c_words_healthy, .int c_words_last, .int c_words_row, .int c_words_first, .int c_words_placeInWindow, .int c_words_timesInWindow])), (h0_words_kept, .inl (cy 1, 64, .inl c_words_kept))]) sz)) (fun _ _ _ => False) 1 6 (va_A ([(h0, .inr (11, [.ref h0_buffer, .ref h0_slots, .ref h0_counters, .ref h0_officerPin, .ref h0_userPin, .ref h0_words, .ref h0_sha, .ref h0_stream, .ref h0_aes, .ref h0_modes, .ref h0_gcm, .ref h0_generator, .ref h0_tests, .ref h0_message, .ref h0_secret, .int c_state, .int c_testsDone, .int c_faults, .int c_streamBegun])), (h0_words, .inr (3, [.ref h0_words_kept, .int c_words_count, .int c_words_healthy, .int c_words_last, .int c_words_row, .int c_words_first, .int c_words_placeInWindow, .int c_words_timesInWindow])), (h0_words_kept, .inl (cy 1, 64, .inl c_words_kept))]) sz) := by
  refine vx_ofWH (cc := cL_entropy) (maxL := 4) (ret := some .int) (by decide) rfl ?_
  intro p e s m args below meth c s₁ B hml hv
  obtain ⟨⟨rfl, rfl, hP, hD0, hE⟩, hX⟩ := hv
  have hx := B.exec
  have hb := B.bytes
  have hr := B.returns
  have hts := atoms_spec (ws := wsL_entropy) B.pre
  have hown : s.vm.findClass RL = some m.cls := findClass_of_methodNamed B.named
  have htab := vx_table (x := yL_fault) B (hts _ List.mem_cons_self)
  have hlocks := B.notSynchronized
  clear B
  refine vx_ret ?_
  have hD := hD0.self (sz := s.heap.size)
  generalize hAe : va_A ([(h0, .inr (11, [.ref h0_buffer, .ref h0_slots, .ref h0_counters, .ref h0_officerPin, .ref h0_userPin, .ref h0_words, .ref h0_sha, .ref h0_stream, .ref h0_aes, .ref h0_modes, .ref h0_gcm, .ref h0_generator, .ref h0_tests, .ref h0_message, .ref h0_secret, .int c_state, .int c_testsDone, .int c_faults, .int c_streamBegun])), (h0_words, .inr (3, [.ref h0_words_kept, .int c_words_count, .int c_words_healthy, .int c_words_last, .int c_words_row, .int c_words_first, .int c_words_placeInWindow, .int c_words_timesInWindow])), (h0_words_kept, .inl (cy 1, 64, .inl c_words_kept))]) s.heap.size = A at hD hE hX ⊢
  have hA : ∀ q : Nat, s.heap.size ≤ q → A q := fun q h => by rw [← hAe]; exact Or.inr h
  clear hAe hD0
  have hS : va_S A s.heap s.heap [] := va_S.rf
  have hK := hE.1
  have hl := lv_entry ([.ref h0, .int p1, .ref hO]) (n := 4) (Nat.le_of_ble_eq_true rfl)
  rw [lg_entry_eq]
  generalize (lg_sl ([.ref h0, .int p1, .ref hO]) ++ List.replicate (4 - (lg_sl ([.ref h0, .int p1, .ref hO])).length) Slot.unset).toArray = ls at hl ⊢
  replace hl : lv_has ls 4 [(0, .ref h0), (1, .int p1), (2, .ref hO)] := hl
  refine lv_aload_n (pc := 0) hx hb dL_entropy_0 rfl (lv_at hl 2 rfl) ?_
  refine lv_iconst (pc := 1) (v := (0 : Int32)) hx hb dL_entropy_1 (by decide) ?_
  refine lv_aload_n (pc := 2) hx hb dL_entropy_2 rfl (lv_at hl 0 rfl) ?_
  refine lv_iload_n (pc := 3) hx hb dL_entropy_3 rfl (lv_at hl 1 rfl) ?_
  have hFc := (va_free (wc := ([(h0, .inr (11, [.ref h0_buffer, .ref h0_slots, .ref h0_counters, .ref h0_officerPin, .ref h0_userPin, .ref h0_words, .ref h0_sha, .ref h0_stream, .ref h0_aes, .ref h0_modes, .ref h0_gcm, .ref h0_generator, .ref h0_tests, .ref h0_message, .ref h0_secret, .int c_state, .int c_testsDone, .int c_faults, .int c_streamBegun])), (h0_words, .inr (3, [.ref h0_words_kept, .int c_words_count, .int c_words_healthy, .int c_words_last, .int c_words_row, .int c_words_first, .int c_words_placeInWindow, .int c_words_timesInWindow])), (h0_words_kept, .inl (cy 1, 64, .inl c_words_kept))])) hD hS hA [0, 1, 2] rfl)
  refine zthr (pc := 4) (rest := [.int (0 : Int32), .ref hO]) (vx_runV (As := [.int p1]) (rest := [.int (0 : Int32), .ref hO]) ⟨hx, hb, hml, hown, hts⟩ (t_c_X9_entropy l_ hlt tx D cy tt s.heap.size h0 h0_buffer h0_slots h0_counters h0_officerPin h0_userPin h0_words h0_sha h0_stream h0_aes h0_modes h0_gcm h0_generator h0_tests h0_message h0_secret h0_words_kept p1 c_state c_words_count c_words_first c_words_healthy c_words_last c_words_placeInWindow c_words_row c_words_timesInWindow c_words_kept c_testsDone c_faults c_streamBegun hf) (cwV 1 hts gL_entropy_X9_entropy rfl rfl rfl (by decide +kernel) ⟨Nat.le_of_ble_eq_true rfl, Nat.le_of_ble_eq_true rfl⟩) ⟨zblindX, va_recv hK hP (ci := 11) (q0 := 0) rfl rfl, zpreX hE hX hS (hP.sub [0, 1, 2] rfl) (hD.sub [0, 1, 2] (by decide) rfl) hFc⟩ rfl rfl hl.1 rfl (lv_room (Nat.le_of_ble_eq_true rfl)) dL_entropy_4 ⟨Nat.le_of_ble_eq_true rfl, Nat.le_of_ble_eq_true rfl⟩) hS hFc hP (fun ce q9 H locs hP_ hS_ _ hce hcv hcl => ?_)
  clear hFc
  refine zcatch1 (pc := 4) (own := RL) (name := "java/lang/IllegalStateException") (E := "java/lang/IllegalStateException") hown htab rfl (by decide) (hts (.classLink RL 19 "java/lang/IllegalStateException") (by decide +kernel)) (hX.2.2.1 _ _ (by decide +kernel)) hce hcv hcl ?_
  refine lv_astore_n (pc := 12) (lv' := [(3, .ref q9), (0, .ref h0), (1, .int p1), (2, .ref hO)]) hx hb dL_entropy_12 rfl hl (by decide) rfl ?_
  clear hl
  intro ls hl
  refine lv_iconst (pc := 13) (v := (1 : Int32)) hx hb dL_entropy_13 (by decide) ?_
  exact W.iret (pc := 14) hx hb hr (fun t ht hW => ⟨rfl, ⟨by rw [ht]; exact hP_, hD⟩, hS_.F ht⟩) hS_.2.2 dL_entropy_14
