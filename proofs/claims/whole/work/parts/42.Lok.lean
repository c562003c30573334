theorem vp01 : vp_in (0 : Int32) 1 := by
  unfold vp_in
  decide
set_option maxHeartbeats 4000000 in
set_option maxRecDepth 100000 in
theorem Lo_fault (l : Launch) (D : va_G) (cy : Nat → ClassId) (tt : Nat → Nat) (sz : Nat) (h0 : Nat) (h0_buffer : Nat) (h0_slots : Nat) (h0_counters : Nat) (h0_officerPin : Nat) (h0_userPin : Nat) (h0_words : Nat) (h0_sha : Nat) (h0_stream : Nat) (h0_aes : Nat) (h0_modes : Nat) (h0_gcm : Nat) (h0_generator : Nat) (h0_tests : Nat) (h0_message : Nat) (h0_secret : Nat) (p1 : Int32) (c_faults : Int32) (c_state : Int32) (c_testsDone : Int32) (c_streamBegun : Int32) (c_faults' : Int32) (hf : f_X9_fault p1 c_faults = some c_faults') : vx_Met l yL_fault wsL_fault ({ frames := 1, cells := 0, slots := 0, locals := 21 }) (zPc D cy tt sz [.ref h0, .int p1] ([(h0, .inr (11, [.ref h0_buffer, .ref h0_slots, .ref h0_counters, .ref h0_officerPin, .ref h0_userPin, .ref h0_words, .ref h0_sha, .ref h0_stream, .ref h0_aes, .ref h0_modes, .ref h0_gcm, .ref h0_generator, .ref h0_tests, .ref h0_message, .ref h0_secret, .int c_state, .int c_testsDone, .int c_faults, .int c_streamBegun]))])) (zQ D (some (.int 0)) ([(h0, .inr (11, [.ref h0_buffer, .ref h0_slots, .ref h0_counters, .ref h0_officerPin, .ref h0_userPin, .ref h0_words, .ref h0_sha, .ref h0_stream, .ref h0_aes, .ref h0_modes, .ref h0_gcm, .ref h0_generator, .ref h0_tests, .ref h0_message, .ref h0_secret, .int c_state, .int c_testsDone, .int c_faults', .int c_streamBegun]))]) (va_A ([(h0, .inr (11, [.ref h0_buffer, .ref h0_slots, .ref h0_counters, .ref h0_officerPin, .ref h0_userPin, .ref h0_words, .ref h0_sha, .ref h0_stream, .ref h0_aes, .ref h0_modes, .ref h0_gcm, .ref h0_generator, .ref h0_tests, .ref h0_message, .ref h0_secret, .int c_state, .int c_testsDone, .int c_faults, .int c_streamBegun]))]) sz)) (fun _ _ _ => False) 0 0 (va_A ([(h0, .inr (11, [.ref h0_buffer, .ref h0_slots, .ref h0_counters, .ref h0_officerPin, .ref h0_userPin, .ref h0_words, .ref h0_sha, .ref h0_stream, .ref h0_aes, .ref h0_modes, .ref h0_gcm, .ref h0_generator, .ref h0_tests, .ref h0_message, .ref h0_secret, .int c_state, .int c_testsDone, .int c_faults, .int c_streamBegun]))]) sz) := by
  refine vx_ofWH (cc := cL_fault) (maxL := 3) (ret := some .int) (by decide) rfl ?_
  intro p e s m args below meth c s₁ B hml hv
  obtain ⟨rfl, rfl, hP, hD0, hE⟩ := hv
  have hx := B.exec
  have hb := B.bytes
  have hr := B.returns
  have hts := atoms_spec (ws := wsL_fault) B.pre
  have hown : s.vm.findClass RL = some m.cls := findClass_of_methodNamed B.named
  have hlocks := B.notSynchronized
  clear B
  refine vx_ret ?_
  have hD := hD0.self (sz := s.heap.size)
  generalize hAe : va_A ([(h0, .inr (11, [.ref h0_buffer, .ref h0_slots, .ref h0_counters, .ref h0_officerPin, .ref h0_userPin, .ref h0_words, .ref h0_sha, .ref h0_stream, .ref h0_aes, .ref h0_modes, .ref h0_gcm, .ref h0_generator, .ref h0_tests, .ref h0_message, .ref h0_secret, .int c_state, .int c_testsDone, .int c_faults, .int c_streamBegun]))]) s.heap.size = A at hD hE ⊢
  have hA : ∀ q : Nat, s.heap.size ≤ q → A q := fun q h => by rw [← hAe]; exact Or.inr h
  clear hAe hD0
  have hS : va_S A s.heap s.heap [] := va_S.rf
  have hK := hE.1
  have hl := lv_entry ([.ref h0, .int p1]) (n := 3) (Nat.le_of_ble_eq_true rfl)
  rw [lg_entry_eq]
  generalize (lg_sl ([.ref h0, .int p1]) ++ List.replicate (3 - (lg_sl ([.ref h0, .int p1])).length) Slot.unset).toArray = ls at hl ⊢
  replace hl : lv_has ls 3 [(0, .ref h0), (1, .int p1)] := hl
  refine lv_aload_n (pc := 0) hx hb dL_fault_0 rfl (lv_at hl 0 rfl) ?_
  refine lv_iload_n (pc := 1) hx hb dL_fault_1 rfl (lv_at hl 1 rfl) ?_
  refine zcn2 (pc := 2) (rv := none) (va_runV (As := [.int p1]) (rest := []) ⟨hx, hb, hml, hown, hts⟩ (c_X9_fault l D cy tt s.heap.size h0 h0_buffer h0_slots h0_counters h0_officerPin h0_userPin h0_words h0_sha h0_stream h0_aes h0_modes h0_gcm h0_generator h0_tests h0_message h0_secret p1 c_faults c_state c_testsDone c_streamBegun c_faults' hf) (cwV 1 hts gL_fault_X9_fault rfl rfl rfl (by decide +kernel) ⟨Nat.le_of_ble_eq_true rfl, Nat.le_of_ble_eq_true rfl⟩) ⟨zblind, va_recv hK hP (ci := 11) (q0 := 0) rfl rfl, zpre hE hS (hP.sub [0] rfl) (hD.sub [0] (by decide) rfl) (va_free hD hS hA [0] rfl)⟩ rfl rfl hl.1 rfl (lv_room (Nat.le_of_ble_eq_true rfl)) dL_fault_2 ⟨Nat.zero_le _, Nat.zero_le _⟩) hS hP hD (va_free hD hS hA [0] rfl) [0] rfl (by decide) rfl ?_
  clear hP hD hS
  intro H locs hP hD hS
  replace hP : va_P D vwCl ([(h0, .inr (11, [.ref h0_buffer, .ref h0_slots, .ref h0_counters, .ref h0_officerPin, .ref h0_userPin, .ref h0_words, .ref h0_sha, .ref h0_stream, .ref h0_aes, .ref h0_modes, .ref h0_gcm, .ref h0_generator, .ref h0_tests, .ref h0_message, .ref h0_secret, .int c_state, .int c_testsDone, .int c_faults', .int c_streamBegun]))]) H := hP
  replace hD : va_D A ([(h0, .inr (11, [.ref h0_buffer, .ref h0_slots, .ref h0_counters, .ref h0_officerPin, .ref h0_userPin, .ref h0_words, .ref h0_sha, .ref h0_stream, .ref h0_aes, .ref h0_modes, .ref h0_gcm, .ref h0_generator, .ref h0_tests, .ref h0_message, .ref h0_secret, .int c_state, .int c_testsDone, .int c_faults', .int c_streamBegun]))]) := hD
  refine W.eq (g2 := F0 m 5 ls []) rfl ?_
  refine lv_goto (pc := 5) (tgt := 11) hx hb dL_fault_5 (by decide) ?_
  refine lv_iconst (pc := 11) (v := (0 : Int32)) hx hb dL_fault_11 (by decide) ?_
  exact W.iret (pc := 12) hx hb hr (fun t ht hW => ⟨rfl, ⟨by rw [ht]; exact hP, hD⟩, hS.F ht⟩) hS.2.2 dL_fault_12
set_option maxHeartbeats 4000000 in
set_option maxRecDepth 100000 in
theorem Lo_poke (l : Launch) (D : va_G) (cy : Nat → ClassId) (tt : Nat → Nat) (sz : Nat) (h0 : Nat) (h0_buffer : Nat) (h0_slots : Nat) (h0_counters : Nat) (h0_officerPin : Nat) (h0_userPin : Nat) (h0_words : Nat) (h0_sha : Nat) (h0_stream : Nat) (h0_aes : Nat) (h0_modes : Nat) (h0_gcm : Nat) (h0_generator : Nat) (h0_tests : Nat) (h0_message : Nat) (h0_secret : Nat) (p1 : Int32) (p2 : Int64) (p3 : Int32) (c_state : Int32) (c_buffer : Nat → Int32) (c_testsDone : Int32) (c_faults : Int32) (c_streamBegun : Int32) (c_buffer' : Nat → Int32) (hf : f_X9_poke p1 p2 p3 c_state c_buffer = some c_buffer') : vx_Met l yL_poke wsL_poke ({ frames := 2, cells := 0, slots := 0, locals := 46 }) (zPc D cy tt sz [.ref h0, .int p1, .long p2, .int p3] ([(h0, .inr (11, [.ref h0_buffer, .ref h0_slots, .ref h0_counters, .ref h0_officerPin, .ref h0_userPin, .ref h0_words, .ref h0_sha, .ref h0_stream, .ref h0_aes, .ref h0_modes, .ref h0_gcm, .ref h0_generator, .ref h0_tests, .ref h0_message, .ref h0_secret, .int c_state, .int c_testsDone, .int c_faults, .int c_streamBegun])), (h0_buffer, .inl (cy 0, 512, .inl c_buffer))])) (zQ D (some (.int 0)) ([(h0, .inr (11, [.ref h0_buffer, .ref h0_slots, .ref h0_counters, .ref h0_officerPin, .ref h0_userPin, .ref h0_words, .ref h0_sha, .ref h0_stream, .ref h0_aes, .ref h0_modes, .ref h0_gcm, .ref h0_generator, .ref h0_tests, .ref h0_message, .ref h0_secret, .int c_state, .int c_testsDone, .int c_faults, .int c_streamBegun])), (h0_buffer, .inl (cy 0, 512, .inl c_buffer'))]) (va_A ([(h0, .inr (11, [.ref h0_buffer, .ref h0_slots, .ref h0_counters, .ref h0_officerPin, .ref h0_userPin, .ref h0_words, .ref h0_sha, .ref h0_stream, .ref h0_aes, .ref h0_modes, .ref h0_gcm, .ref h0_generator, .ref h0_tests, .ref h0_message, .ref h0_secret, .int c_state, .int c_testsDone, .int c_faults, .int c_streamBegun])), (h0_buffer, .inl (cy 0, 512, .inl c_buffer))]) sz)) (fun _ _ _ => False) 0 0 (va_A ([(h0, .inr (11, [.ref h0_buffer, .ref h0_slots, .ref h0_counters, .ref h0_officerPin, .ref h0_userPin, .ref h0_words, .ref h0_sha, .ref h0_stream, .ref h0_aes, .ref h0_modes, .ref h0_gcm, .ref h0_generator, .ref h0_tests, .ref h0_message, .ref h0_secret, .int c_state, .int c_testsDone, .int c_faults, .int c_streamBegun])), (h0_buffer, .inl (cy 0, 512, .inl c_buffer))]) sz) := by
  refine vx_ofWH (cc := cL_poke) (maxL := 6) (ret := some .int) (by decide) rfl ?_
  intro p e s m args below meth c s₁ B hml hv
  obtain ⟨rfl, rfl, hP, hD0, hE⟩ := hv
  have hx := B.exec
  have hb := B.bytes
  have hr := B.returns
  have hts := atoms_spec (ws := wsL_poke) B.pre
  have hown : s.vm.findClass RL = some m.cls := findClass_of_methodNamed B.named
  have hlocks := B.notSynchronized
  clear B
  refine vx_ret ?_
  have hD := hD0.self (sz := s.heap.size)
  generalize hAe : va_A ([(h0, .inr (11, [.ref h0_buffer, .ref h0_slots, .ref h0_counters, .ref h0_officerPin, .ref h0_userPin, .ref h0_words, .ref h0_sha, .ref h0_stream, .ref h0_aes, .ref h0_modes, .ref h0_gcm, .ref h0_generator, .ref h0_tests, .ref h0_message, .ref h0_secret, .int c_state, .int c_testsDone, .int c_faults, .int c_streamBegun])), (h0_buffer, .inl (cy 0, 512, .inl c_buffer))]) s.heap.size = A at hD hE ⊢
  have hA : ∀ q : Nat, s.heap.size ≤ q → A q := fun q h => by rw [← hAe]; exact Or.inr h
  clear hAe hD0
  have hS : va_S A s.heap s.heap [] := va_S.rf
  have hK := hE.1
  have hl := lv_entry ([.ref h0, .int p1, .long p2, .int p3]) (n := 6) (Nat.le_of_ble_eq_true rfl)
  rw [lg_entry_eq]
  generalize (lg_sl ([.ref h0, .int p1, .long p2, .int p3]) ++ List.replicate (6 - (lg_sl ([.ref h0, .int p1, .long p2, .int p3])).length) Slot.unset).toArray = ls at hl ⊢
  replace hl : lv_has ls 6 [(0, .ref h0), (1, .int p1), (2, .long p2), (4, .int p3)] := hl
  refine lv_aload_n (pc := 0) hx hb dL_poke_0 rfl (lv_at hl 0 rfl) ?_
  refine lv_iload_n (pc := 1) hx hb dL_poke_1 rfl (lv_at hl 1 rfl) ?_
  refine lv_lload_n (pc := 2) hx hb dL_poke_2 rfl (lv_at hl 2 rfl) ?_
  refine lv_iload (pc := 3) hx hb dL_poke_3 (lv_at hl 3 rfl) ?_
  refine zcn2 (pc := 5) (rv := none) (va_runV (As := [.int p1, .long p2, .int p3]) (rest := []) ⟨hx, hb, hml, hown, hts⟩ (c_X9_poke l D cy tt s.heap.size h0 h0_buffer h0_slots h0_counters h0_officerPin h0_userPin h0_words h0_sha h0_stream h0_aes h0_modes h0_gcm h0_generator h0_tests h0_message h0_secret p1 p2 p3 c_state c_buffer c_testsDone c_faults c_streamBegun c_buffer' hf) (cwV 3 hts gL_poke_X9_poke rfl rfl rfl (by decide +kernel) ⟨Nat.le_of_ble_eq_true rfl, Nat.le_of_ble_eq_true rfl⟩) ⟨zblind, va_recv hK hP (ci := 11) (q0 := 0) rfl rfl, zpre hE hS (hP.sub [0, 1] rfl) (hD.sub [0, 1] (by decide) rfl) (va_free hD hS hA [0, 1] rfl)⟩ rfl rfl hl.1 rfl (lv_room (Nat.le_of_ble_eq_true rfl)) dL_poke_5 ⟨Nat.zero_le _, Nat.zero_le _⟩) hS hP hD (va_free hD hS hA [0, 1] rfl) [0, 1] rfl (by decide) rfl ?_
  clear hP hD hS
  intro H locs hP hD hS
  replace hP : va_P D vwCl ([(h0, .inr (11, [.ref h0_buffer, .ref h0_slots, .ref h0_counters, .ref h0_officerPin, .ref h0_userPin, .ref h0_words, .ref h0_sha, .ref h0_stream, .ref h0_aes, .ref h0_modes, .ref h0_gcm, .ref h0_generator, .ref h0_tests, .ref h0_message, .ref h0_secret, .int c_state, .int c_testsDone, .int c_faults, .int c_streamBegun])), (h0_buffer, .inl (cy 0, 512, .inl c_buffer'))]) H := hP
  replace hD : va_D A ([(h0, .inr (11, [.ref h0_buffer, .ref h0_slots, .ref h0_counters, .ref h0_officerPin, .ref h0_userPin, .ref h0_words, .ref h0_sha, .ref h0_stream, .ref h0_aes, .ref h0_modes, .ref h0_gcm, .ref h0_generator, .ref h0_tests, .ref h0_message, .ref h0_secret, .int c_state, .int c_testsDone, .int c_faults, .int c_streamBegun])), (h0_buffer, .inl (cy 0, 512, .inl c_buffer'))]) := hD
  refine W.eq (g2 := F0 m 8 ls []) rfl ?_
  refine lv_goto (pc := 8) (tgt := 19) hx hb dL_poke_8 (by decide) ?_
  refine lv_iconst (pc := 19) (v := (0 : Int32)) hx hb dL_poke_19 (by decide) ?_
  exact W.iret (pc := 20) hx hb hr (fun t ht hW => ⟨rfl, ⟨by rw [ht]; exact hP, hD⟩, hS.F ht⟩) hS.2.2 dL_poke_20
set_option maxHeartbeats 4000000 in
set_option maxRecDepth 100000 in
theorem Lo_peek (l : Launch) (D : va_G) (cy : Nat → ClassId) (tt : Nat → Nat) (sz : Nat) (h0 : Nat) (h0_buffer : Nat) (h0_slots : Nat) (h0_counters : Nat) (h0_officerPin : Nat) (h0_userPin : Nat) (h0_words : Nat) (h0_sha : Nat) (h0_stream : Nat) (h0_aes : Nat) (h0_modes : Nat) (h0_gcm : Nat) (h0_generator : Nat) (h0_tests : Nat) (h0_message : Nat) (h0_secret : Nat) (p1 : Int32) (c_state : Int32) (c_buffer : Nat → Int32) (c_testsDone : Int32) (c_faults : Int32) (c_streamBegun : Int32) (r_ : Int64) (hO : Nat) (c_out : Nat → Int64) (hf : f_X9_peek p1 c_state c_buffer = some r_) : vx_Met l yL_peek wsL_peek ({ frames := 3, cells := 0, slots := 0, locals := 63 }) (zPc D cy tt sz [.ref h0, .int p1, .ref hO] ([(h0, .inr (11, [.ref h0_buffer, .ref h0_slots, .ref h0_counters, .ref h0_officerPin, .ref h0_userPin, .ref h0_words, .ref h0_sha, .ref h0_stream, .ref h0_aes, .ref h0_modes, .ref h0_gcm, .ref h0_generator, .ref h0_tests, .ref h0_message, .ref h0_secret, .int c_state, .int c_testsDone, .int c_faults, .int c_streamBegun])), (h0_buffer, .inl (cy 0, 512, .inl c_buffer)), (hO, .inl (cy 2, 1, .inr (.inl c_out)))])) (zQ D (some (.int 0)) ([(h0, .inr (11, [.ref h0_buffer, .ref h0_slots, .ref h0_counters, .ref h0_officerPin, .ref h0_userPin, .ref h0_words, .ref h0_sha, .ref h0_stream, .ref h0_aes, .ref h0_modes, .ref h0_gcm, .ref h0_generator, .ref h0_tests, .ref h0_message, .ref h0_secret, .int c_state, .int c_testsDone, .int c_faults, .int c_streamBegun])), (h0_buffer, .inl (cy 0, 512, .inl c_buffer)), (hO, .inl (cy 2, 1, .inr (.inl (vp_updL c_out (0 : Int32).toNatClampNeg r_))))]) (va_A ([(h0, .inr (11, [.ref h0_buffer, .ref h0_slots, .ref h0_counters, .ref h0_officerPin, .ref h0_userPin, .ref h0_words, .ref h0_sha, .ref h0_stream, .ref h0_aes, .ref h0_modes, .ref h0_gcm, .ref h0_generator, .ref h0_tests, .ref h0_message, .ref h0_secret, .int c_state, .int c_testsDone, .int c_faults, .int c_streamBegun])), (h0_buffer, .inl (cy 0, 512, .inl c_buffer)), (hO, .inl (cy 2, 1, .inr (.inl c_out)))]) sz)) (fun _ _ _ => False) 0 0 (va_A ([(h0, .inr (11, [.ref h0_buffer, .ref h0_slots, .ref h0_counters, .ref h0_officerPin, .ref h0_userPin, .ref h0_words, .ref h0_sha, .ref h0_stream, .ref h0_aes, .ref h0_modes, .ref h0_gcm, .ref h0_generator, .ref h0_tests, .ref h0_message, .ref h0_secret, .int c_state, .int c_testsDone, .int c_faults, .int c_streamBegun])), (h0_buffer, .inl (cy 0, 512, .inl c_buffer)), (hO, .inl (cy 2, 1, .inr (.inl c_out)))]) sz) := by
  refine vx_ofWH (cc := cL_peek) (maxL := 4) (ret := some .int) (by decide) rfl ?_
  intro p e s m args below meth c s₁ B hml hv
  obtain ⟨rfl, rfl, hP, hD0, hE⟩ := hv
  have hx := B.exec
  have hb := B.bytes
  have hr := B.returns
  have hts := atoms_spec (ws := wsL_peek) B.pre
  have hown : s.vm.findClass RL = some m.cls := findClass_of_methodNamed B.named
  have hlocks := B.notSynchronized
  clear B
  refine vx_ret ?_
  have hD := hD0.self (sz := s.heap.size)
  generalize hAe : va_A ([(h0, .inr (11, [.ref h0_buffer, .ref h0_slots, .ref h0_counters, .ref h0_officerPin, .ref h0_userPin, .ref h0_words, .ref h0_sha, .ref h0_stream, .ref h0_aes, .ref h0_modes, .ref h0_gcm, .ref h0_generator, .ref h0_tests, .ref h0_message, .ref h0_secret, .int c_state, .int c_testsDone, .int c_faults, .int c_streamBegun])), (h0_buffer, .inl (cy 0, 512, .inl c_buffer)), (hO, .inl (cy 2, 1, .inr (.inl c_out)))]) s.heap.size = A at hD hE ⊢
  have hA : ∀ q : Nat, s.heap.size ≤ q → A q := fun q h => by rw [← hAe]; exact Or.inr h
  clear hAe hD0
  have hS : va_S A s.heap s.heap [] := va_S.rf
  have hK := hE.1
  have hl := lv_entry ([.ref h0, .int p1, .ref hO]) (n := 4) (Nat.le_of_ble_eq_true rfl)
  rw [lg_entry_eq]
  generalize (lg_sl ([.ref h0, .int p1, .ref hO]) ++ List.replicate (4 - (lg_sl ([.ref h0, .int p1, .ref hO])).length) Slot.unset).toArray = ls at hl ⊢
  replace hl : lv_has ls 4 [(0, .ref h0), (1, .int p1), (2, .ref hO)] := hl
  refine lv_aload_n (pc := 0) hx hb dL_peek_0 rfl (lv_at hl 2 rfl) ?_
  refine lv_iconst (pc := 1) (v := (0 : Int32)) hx hb dL_peek_1 (by decide) ?_
  refine lv_aload_n (pc := 2) hx hb dL_peek_2 rfl (lv_at hl 0 rfl) ?_
  refine lv_iload_n (pc := 3) hx hb dL_peek_3 rfl (lv_at hl 1 rfl) ?_
  refine zcs (pc := 4) (rv := (some (.long r_))) (va_runV (As := [.int p1]) (rest := [.int (0 : Int32), .ref hO]) ⟨hx, hb, hml, hown, hts⟩ (c_X9_peek l D cy tt s.heap.size h0 h0_buffer h0_slots h0_counters h0_officerPin h0_userPin h0_words h0_sha h0_stream h0_aes h0_modes h0_gcm h0_generator h0_tests h0_message h0_secret p1 c_state c_buffer c_testsDone c_faults c_streamBegun r_ hf) (cwV 1 hts gL_peek_X9_peek rfl rfl rfl (by decide +kernel) ⟨Nat.le_of_ble_eq_true rfl, Nat.le_of_ble_eq_true rfl⟩) ⟨zblind, va_recv hK hP (ci := 11) (q0 := 0) rfl rfl, zpre hE hS (hP.sub [0, 1] rfl) (hD.sub [0, 1] (by decide) rfl) (va_free hD hS hA [0, 1] rfl)⟩ rfl rfl hl.1 rfl (lv_room (Nat.le_of_ble_eq_true rfl)) dL_peek_4 ⟨Nat.zero_le _, Nat.zero_le _⟩) ?_
  refine W.eq (g2 := F0 m 7 ls [.long r_, .int (0 : Int32), .ref hO]) rfl ?_
  refine va_last (pc := 7) hx hb hK hP hD hS 2 2 rfl rfl vp01 dL_peek_7 ?_
  clear hP hD hS
  intro H locs hP hD hS
  replace hP : va_P D vwCl ([(h0, .inr (11, [.ref h0_buffer, .ref h0_slots, .ref h0_counters, .ref h0_officerPin, .ref h0_userPin, .ref h0_words, .ref h0_sha, .ref h0_stream, .ref h0_aes, .ref h0_modes, .ref h0_gcm, .ref h0_generator, .ref h0_tests, .ref h0_message, .ref h0_secret, .int c_state, .int c_testsDone, .int c_faults, .int c_streamBegun])), (h0_buffer, .inl (cy 0, 512, .inl c_buffer)), (hO, .inl (cy 2, 1, .inr (.inl (vp_updL c_out (0 : Int32).toNatClampNeg r_))))]) H := hP
  replace hD : va_D A ([(h0, .inr (11, [.ref h0_buffer, .ref h0_slots, .ref h0_counters, .ref h0_officerPin, .ref h0_userPin, .ref h0_words, .ref h0_sha, .ref h0_stream, .ref h0_aes, .ref h0_modes, .ref h0_gcm, .ref h0_generator, .ref h0_tests, .ref h0_message, .ref h0_secret, .int c_state, .int c_testsDone, .int c_faults, .int c_streamBegun])), (h0_buffer, .inl (cy 0, 512, .inl c_buffer)), (hO, .inl (cy 2, 1, .inr (.inl (vp_updL c_out (0 : Int32).toNatClampNeg r_))))]) := hD
  refine lv_goto (pc := 8) (tgt := 14) hx hb dL_peek_8 (by decide) ?_
  refine lv_iconst (pc := 14) (v := (0 : Int32)) hx hb dL_peek_14 (by decide) ?_
  exact W.iret (pc := 15) hx hb hr (fun t ht hW => ⟨rfl, ⟨by rw [ht]; exact hP, hD⟩, hS.F ht⟩) hS.2.2 dL_peek_15
set_option maxHeartbeats 4000000 in
set_option maxRecDepth 100000 in
theorem Lo_logout (l : Launch) (D : va_G) (cy : Nat → ClassId) (tt : Nat → Nat) (sz : Nat) (h0 : Nat) (h0_buffer : Nat) (h0_slots : Nat) (h0_counters : Nat) (h0_officerPin : Nat) (h0_userPin : Nat) (h0_words : Nat) (h0_sha : Nat) (h0_stream : Nat) (h0_aes : Nat) (h0_modes : Nat) (h0_gcm : Nat) (h0_generator : Nat) (h0_tests : Nat) (h0_message : Nat) (h0_secret : Nat) (c_state : Int32) (c_streamBegun : Int32) (c_testsDone : Int32) (c_faults : Int32) (c_state' : Int32) (c_streamBegun' : Int32) (hf : f_X9_logout c_state c_streamBegun = some (c_state', c_streamBegun')) : vx_Met l yL_logout wsL_logout ({ frames := 2, cells := 0, slots := 0, locals := 40 }) (zPc D cy tt sz [.ref h0] ([(h0, .inr (11, [.ref h0_buffer, .ref h0_slots, .ref h0_counters, .ref h0_officerPin, .ref h0_userPin, .ref h0_words, .ref h0_sha, .ref h0_stream, .ref h0_aes, .ref h0_modes, .ref h0_gcm, .ref h0_generator, .ref h0_tests, .ref h0_message, .ref h0_secret, .int c_state, .int c_testsDone, .int c_faults, .int c_streamBegun]))])) (zQ D (some (.int 0)) ([(h0, .inr (11, [.ref h0_buffer, .ref h0_slots, .ref h0_counters, .ref h0_officerPin, .ref h0_userPin, .ref h0_words, .ref h0_sha, .ref h0_stream, .ref h0_aes, .ref h0_modes, .ref h0_gcm, .ref h0_generator, .ref h0_tests, .ref h0_message, .ref h0_secret, .int c_state', .int c_testsDone, .int c_faults, .int c_streamBegun']))]) (va_A ([(h0, .inr (11, [.ref h0_buffer, .ref h0_slots, .ref h0_counters, .ref h0_officerPin, .ref h0_userPin, .ref h0_words, .ref h0_sha, .ref h0_stream, .ref h0_aes, .ref h0_modes, .ref h0_gcm, .ref h0_generator, .ref h0_tests, .ref h0_message, .ref h0_secret, .int c_state, .int c_testsDone, .int c_faults, .int c_streamBegun]))]) sz)) (fun _ _ _ => False) 0 0 (va_A ([(h0, .inr (11, [.ref h0_buffer, .ref h0_slots, .ref h0_counters, .ref h0_officerPin, .ref h0_userPin, .ref h0_words, .ref h0_sha, .ref h0_stream, .ref h0_aes, .ref h0_modes, .ref h0_gcm, .ref h0_generator, .ref h0_tests, .ref h0_message, .ref h0_secret, .int c_state, .int c_testsDone, .int c_faults, .int c_streamBegun]))]) sz) := by
  refine vx_ofWH (cc := cL_logout) (maxL := 2) (ret := some .int) (by decide) rfl ?_
  intro p e s m args below meth c s₁ B hml hv
  obtain ⟨rfl, rfl, hP, hD0, hE⟩ := hv
  have hx := B.exec
  have hb := B.bytes
  have hr := B.returns
  have hts := atoms_spec (ws := wsL_logout) B.pre
  have hown : s.vm.findClass RL = some m.cls := findClass_of_methodNamed B.named
  have hlocks := B.notSynchronized
  clear B
  refine vx_ret ?_
  have hD := hD0.self (sz := s.heap.size)
  generalize hAe : va_A ([(h0, .inr (11, [.ref h0_buffer, .ref h0_slots, .ref h0_counters, .ref h0_officerPin, .ref h0_userPin, .ref h0_words, .ref h0_sha, .ref h0_stream, .ref h0_aes, .ref h0_modes, .ref h0_gcm, .ref h0_generator, .ref h0_tests, .ref h0_message, .ref h0_secret, .int c_state, .int c_testsDone, .int c_faults, .int c_streamBegun]))]) s.heap.size = A at hD hE ⊢
  have hA : ∀ q : Nat, s.heap.size ≤ q → A q := fun q h => by rw [← hAe]; exact Or.inr h
  clear hAe hD0
  have hS : va_S A s.heap s.heap [] := va_S.rf
  have hK := hE.1
  have hl := lv_entry ([.ref h0]) (n := 2) (Nat.le_of_ble_eq_true rfl)
  rw [lg_entry_eq]
  generalize (lg_sl ([.ref h0]) ++ List.replicate (2 - (lg_sl ([.ref h0])).length) Slot.unset).toArray = ls at hl ⊢
  replace hl : lv_has ls 2 [(0, .ref h0)] := hl
  refine lv_aload_n (pc := 0) hx hb dL_logout_0 rfl (lv_at hl 0 rfl) ?_
  refine zcn2 (pc := 1) (rv := none) (va_runV (As := []) (rest := []) ⟨hx, hb, hml, hown, hts⟩ (c_X9_logout l D cy tt s.heap.size h0 h0_buffer h0_slots h0_counters h0_officerPin h0_userPin h0_words h0_sha h0_stream h0_aes h0_modes h0_gcm h0_generator h0_tests h0_message h0_secret c_state c_streamBegun c_testsDone c_faults c_state' c_streamBegun' hf) (cwV 0 hts gL_logout_X9_logout rfl rfl rfl (by decide +kernel) ⟨Nat.le_of_ble_eq_true rfl, Nat.le_of_ble_eq_true rfl⟩) ⟨zblind, va_recv hK hP (ci := 11) (q0 := 0) rfl rfl, zpre hE hS (hP.sub [0] rfl) (hD.sub [0] (by decide) rfl) (va_free hD hS hA [0] rfl)⟩ rfl rfl hl.1 rfl (lv_room (Nat.le_of_ble_eq_true rfl)) dL_logout_1 ⟨Nat.zero_le _, Nat.zero_le _⟩) hS hP hD (va_free hD hS hA [0] rfl) [0] rfl (by decide) rfl ?_
  clear hP hD hS
  intro H locs hP hD hS
  replace hP : va_P D vwCl ([(h0, .inr (11, [.ref h0_buffer, .ref h0_slots, .ref h0_counters, .ref h0_officerPin, .ref h0_userPin, .ref h0_words, .ref h0_sha, .ref h0_stream, .ref h0_aes, .ref h0_modes, .ref h0_gcm, .ref h0_generator, .ref h0_tests, .ref h0_message, .ref h0_secret, .int c_state', .int c_testsDone, .int c_faults, .int c_streamBegun']))]) H := hP
  replace hD : va_D A ([(h0, .inr (11, [.ref h0_buffer, .ref h0_slots, .ref h0_counters, .ref h0_officerPin, .ref h0_userPin, .ref h0_words, .ref h0_sha, .ref h0_stream, .ref h0_aes, .ref h0_modes, .ref h0_gcm, .ref h0_generator, .ref h0_tests, .ref h0_message, .ref h0_secret, .int c_state', .int c_testsDone, .int c_faults, .int c_streamBegun']))]) := hD
  refine W.eq (g2 := F0 m 4 ls []) rfl ?_
  refine lv_goto (pc := 4) (tgt := 10) hx hb dL_logout_4 (by decide) ?_
  refine lv_iconst (pc := 10) (v := (0 : Int32)) hx hb dL_logout_10 (by decide) ?_
  exact W.iret (pc := 11) hx hb hr (fun t ht hW => ⟨rfl, ⟨by rw [ht]; exact hP, hD⟩, hS.F ht⟩) hS.2.2 dL_logout_11
set_option maxHeartbeats 4000000 in
set_option maxRecDepth 100000 in
theorem Lo_entropy (l : Launch) (D : va_G) (cy : Nat → ClassId) (tt : Nat → Nat) (sz : Nat) (h0 : Nat) (h0_buffer : Nat) (h0_slots : Nat) (h0_counters : Nat) (h0_officerPin : Nat) (h0_userPin : Nat) (h0_words : Nat) (h0_sha : Nat) (h0_stream : Nat) (h0_aes : Nat) (h0_modes : Nat) (h0_gcm : Nat) (h0_generator : Nat) (h0_tests : Nat) (h0_message : Nat) (h0_secret : Nat) (h0_words_kept : Nat) (p1 : Int32) (c_state : Int32) (c_words_count : Int32) (c_words_first : Int32) (c_words_healthy : Int32) (c_words_last : Int32) (c_words_placeInWindow : Int32) (c_words_row : Int32) (c_words_timesInWindow : Int32) (c_words_kept : Nat → Int32) (c_testsDone : Int32) (c_faults : Int32) (c_streamBegun : Int32) (r_ : Int32) (c_words_count' : Int32) (c_words_first' : Int32) (c_words_healthy' : Int32) (c_words_last' : Int32) (c_words_placeInWindow' : Int32) (c_words_row' : Int32) (c_words_timesInWindow' : Int32) (c_words_kept' : Nat → Int32) (hO : Nat) (c_out : Nat → Int64) (hf : f_X9_entropy p1 c_state c_words_count c_words_first c_words_healthy c_words_last c_words_placeInWindow c_words_row c_words_timesInWindow c_words_kept = some (r_, c_words_count', c_words_first', c_words_healthy', c_words_last', c_words_placeInWindow', c_words_row', c_words_timesInWindow', c_words_kept')) : vx_Met l yL_entropy wsL_entropy ({ frames := 3, cells := 0, slots := 0, locals := 63 }) (zPc D cy tt sz [.ref h0, .int p1, .ref hO] ([(h0, .inr (11, [.ref h0_buffer, .ref h0_slots, .ref h0_counters, .ref h0_officerPin, .ref h0_userPin, .ref h0_words, .ref h0_sha, .ref h0_stream, .ref h0_aes, .ref h0_modes, .ref h0_gcm, .ref h0_generator, .ref h0_tests, .ref h0_message, .ref h0_secret, .int c_state, .int c_testsDone, .int c_faults, .int c_streamBegun])), (h0_words, .inr (3, [.ref h0_words_kept, .int c_words_count, .int c_words_healthy, .int c_words_last, .int c_words_row, .int c_words_first, .int c_words_placeInWindow, .int c_words_timesInWindow])), (h0_words_kept, .inl (cy 1, 64, .inl c_words_kept)), (hO, .inl (cy 2, 1, .inr (.inl c_out)))])) (zQ D (some (.int 0)) ([(h0, .inr (11, [.ref h0_buffer, .ref h0_slots, .ref h0_counters, .ref h0_officerPin, .ref h0_userPin, .ref h0_words, .ref h0_sha, .ref h0_stream, .ref h0_aes, .ref h0_modes, .ref h0_gcm, .ref h0_generator, .ref h0_tests, .ref h0_message, .ref h0_secret, .int c_state, .int c_testsDone, .int c_faults, .int c_streamBegun])), (h0_words, .inr (3, [.ref h0_words_kept, .int c_words_count', .int c_words_healthy', .int c_words_last', .int c_words_row', .int c_words_first', .int c_words_placeInWindow', .int c_words_timesInWindow'])), (h0_words_kept, .inl (cy 1, 64, .inl c_words_kept')), (hO, .inl (cy 2, 1, .inr (.inl (vp_updL c_out (0 : Int32).toNatClampNeg (Int32.toInt64 r_)))))]) (va_A ([(h0, .inr (11, [.ref h0_buffer, .ref h0_slots, .ref h0_counters, .ref h0_officerPin, .ref h0_userPin, .ref h0_words, .ref h0_sha, .ref h0_stream, .ref h0_aes, .ref h0_modes, .ref h0_gcm, .ref h0_generator, .ref h0_tests, .ref h0_message, .ref h0_secret, .int c_state, .int c_testsDone, .int c_faults, .int c_streamBegun])), (h0_words, .inr (3, [.ref h0_words_kept, .int c_words_count, .int c_words_healthy, .int c_words_last, .int c_words_row, .int c_words_first, .int c_words_placeInWindow, .int c_words_timesInWindow])), (h0_words_kept, .inl (cy 1, 64, .inl c_words_kept)), (hO, .inl (cy 2, 1, .inr (.inl c_out)))]) sz)) (fun _ _ _ => False) 0 0 (va_A ([(h0, .inr (11, [.ref h0_buffer, .ref h0_slots, .ref h0_counters, .ref h0_officerPin, .ref h0_userPin, .ref h0_words, .ref h0_sha, .ref h0_stream, .ref h0_aes, .ref h0_modes, .ref h0_gcm, .ref h0_generator, .ref h0_tests, .ref h0_message, .ref h0_secret, .int c_state, .int c_testsDone, .int c_faults, .int c_streamBegun])), (h0_words, .inr (3, [.ref h0_words_kept, .int c_words_count, .int c_words_healthy, .int c_words_last, .int c_words_row, .int c_words_first, .int c_words_placeInWindow, .int c_words_timesInWindow])), (h0_words_kept, .inl (cy 1, 64, .inl c_words_kept)), (hO, .inl (cy 2, 1, .inr (.inl c_out)))]) sz) := by
  refine vx_ofWH (cc := cL_entropy) (maxL := 4) (ret := some .int) (by decide) rfl ?_
  intro p e s m args below meth c s₁ B hml hv
  obtain ⟨rfl, rfl, hP, hD0, hE⟩ := hv
  have hx := B.exec
  have hb := B.bytes
  have hr := B.returns
  have hts := atoms_spec (ws := wsL_entropy) B.pre
  have hown : s.vm.findClass RL = some m.cls := findClass_of_methodNamed B.named
  have hlocks := B.notSynchronized
  clear B
  refine vx_ret ?_
  have hD := hD0.self (sz := s.heap.size)
  generalize hAe : va_A ([(h0, .inr (11, [.ref h0_buffer, .ref h0_slots, .ref h0_counters, .ref h0_officerPin, .ref h0_userPin, .ref h0_words, .ref h0_sha, .ref h0_stream, .ref h0_aes, .ref h0_modes, .ref h0_gcm, .ref h0_generator, .ref h0_tests, .ref h0_message, .ref h0_secret, .int c_state, .int c_testsDone, .int c_faults, .int c_streamBegun])), (h0_words, .inr (3, [.ref h0_words_kept, .int c_words_count, .int c_words_healthy, .int c_words_last, .int c_words_row, .int c_words_first, .int c_words_placeInWindow, .int c_words_timesInWindow])), (h0_words_kept, .inl (cy 1, 64, .inl c_words_kept)), (hO, .inl (cy 2, 1, .inr (.inl c_out)))]) s.heap.size = A at hD hE ⊢
  have hA : ∀ q : Nat, s.heap.size ≤ q → A q := fun q h => by rw [← hAe]; exact Or.inr h
  clear hAe hD0
  have hS : va_S A s.heap s.heap [] := va_S.rf
  have hK := hE.1
  have hl := lv_entry ([.ref h0, .int p1, .ref hO]) (n := 4) (Nat.le_of_ble_eq_true rfl)
  rw [lg_entry_eq]
  generalize (lg_sl ([.ref h0, .int p1, .ref hO]) ++ List.replicate (4 - (lg_sl ([.ref h0, .int p1, .ref hO])).length) Slot.unset).toArray = ls at hl ⊢
  replace hl : lv_has ls 4 [(0, .ref h0), (1, .int p1), (2, .ref hO)] := hl
  refine lv_aload_n (pc := 0) hx hb dL_entropy_0 rfl (lv_at hl 2 rfl) ?_
  refine lv_iconst (pc := 1) (v := (0 : Int32)) hx hb dL_entropy_1 (by decide) ?_
  refine lv_aload_n (pc := 2) hx hb dL_entropy_2 rfl (lv_at hl 0 rfl) ?_
  refine lv_iload_n (pc := 3) hx hb dL_entropy_3 rfl (lv_at hl 1 rfl) ?_
  refine zcn2 (pc := 4) (rv := (some (.int r_))) (va_runV (As := [.int p1]) (rest := [.int (0 : Int32), .ref hO]) ⟨hx, hb, hml, hown, hts⟩ (c_X9_entropy l D cy tt s.heap.size h0 h0_buffer h0_slots h0_counters h0_officerPin h0_userPin h0_words h0_sha h0_stream h0_aes h0_modes h0_gcm h0_generator h0_tests h0_message h0_secret h0_words_kept p1 c_state c_words_count c_words_first c_words_healthy c_words_last c_words_placeInWindow c_words_row c_words_timesInWindow c_words_kept c_testsDone c_faults c_streamBegun r_ c_words_count' c_words_first' c_words_healthy' c_words_last' c_words_placeInWindow' c_words_row' c_words_timesInWindow' c_words_kept' hf) (cwV 1 hts gL_entropy_X9_entropy rfl rfl rfl (by decide +kernel) ⟨Nat.le_of_ble_eq_true rfl, Nat.le_of_ble_eq_true rfl⟩) ⟨zblind, va_recv hK hP (ci := 11) (q0 := 0) rfl rfl, zpre hE hS (hP.sub [0, 1, 2] rfl) (hD.sub [0, 1, 2] (by decide) rfl) (va_free hD hS hA [0, 1, 2] rfl)⟩ rfl rfl hl.1 rfl (lv_room (Nat.le_of_ble_eq_true rfl)) dL_entropy_4 ⟨Nat.zero_le _, Nat.zero_le _⟩) hS hP hD (va_free hD hS hA [0, 1, 2] rfl) [0, 1, 2] rfl (by decide) rfl ?_
  clear hP hD hS
  intro H locs hP hD hS
  replace hP : va_P D vwCl ([(h0, .inr (11, [.ref h0_buffer, .ref h0_slots, .ref h0_counters, .ref h0_officerPin, .ref h0_userPin, .ref h0_words, .ref h0_sha, .ref h0_stream, .ref h0_aes, .ref h0_modes, .ref h0_gcm, .ref h0_generator, .ref h0_tests, .ref h0_message, .ref h0_secret, .int c_state, .int c_testsDone, .int c_faults, .int c_streamBegun])), (h0_words, .inr (3, [.ref h0_words_kept, .int c_words_count', .int c_words_healthy', .int c_words_last', .int c_words_row', .int c_words_first', .int c_words_placeInWindow', .int c_words_timesInWindow'])), (h0_words_kept, .inl (cy 1, 64, .inl c_words_kept')), (hO, .inl (cy 2, 1, .inr (.inl c_out)))]) H := hP
  replace hD : va_D A ([(h0, .inr (11, [.ref h0_buffer, .ref h0_slots, .ref h0_counters, .ref h0_officerPin, .ref h0_userPin, .ref h0_words, .ref h0_sha, .ref h0_stream, .ref h0_aes, .ref h0_modes, .ref h0_gcm, .ref h0_generator, .ref h0_tests, .ref h0_message, .ref h0_secret, .int c_state, .int c_testsDone, .int c_faults, .int c_streamBegun])), (h0_words, .inr (3, [.ref h0_words_kept, .int c_words_count', .int c_words_healthy', .int c_words_last', .int c_words_row', .int c_words_first', .int c_words_placeInWindow', .int c_words_timesInWindow'])), (h0_words_kept, .inl (cy 1, 64, .inl c_words_kept')), (hO, .inl (cy 2, 1, .inr (.inl c_out)))]) := hD
  refine W.eq (g2 := F0 m 7 ls [.int r_, .int (0 : Int32), .ref hO]) rfl ?_
  refine lv_i2l (pc := 7) hx hb dL_entropy_7 rfl ?_
  refine va_last (pc := 8) hx hb hK hP hD hS 3 2 rfl rfl vp01 dL_entropy_8 ?_
  clear hP hD hS
  intro H locs hP hD hS
  replace hP : va_P D vwCl ([(h0, .inr (11, [.ref h0_buffer, .ref h0_slots, .ref h0_counters, .ref h0_officerPin, .ref h0_userPin, .ref h0_words, .ref h0_sha, .ref h0_stream, .ref h0_aes, .ref h0_modes, .ref h0_gcm, .ref h0_generator, .ref h0_tests, .ref h0_message, .ref h0_secret, .int c_state, .int c_testsDone, .int c_faults, .int c_streamBegun])), (h0_words, .inr (3, [.ref h0_words_kept, .int c_words_count', .int c_words_healthy', .int c_words_last', .int c_words_row', .int c_words_first', .int c_words_placeInWindow', .int c_words_timesInWindow'])), (h0_words_kept, .inl (cy 1, 64, .inl c_words_kept')), (hO, .inl (cy 2, 1, .inr (.inl (vp_updL c_out (0 : Int32).toNatClampNeg (Int32.toInt64 r_)))))]) H := hP
  replace hD : va_D A ([(h0, .inr (11, [.ref h0_buffer, .ref h0_slots, .ref h0_counters, .ref h0_officerPin, .ref h0_userPin, .ref h0_words, .ref h0_sha, .ref h0_stream, .ref h0_aes, .ref h0_modes, .ref h0_gcm, .ref h0_generator, .ref h0_tests, .ref h0_message, .ref h0_secret, .int c_state, .int c_testsDone, .int c_faults, .int c_streamBegun])), (h0_words, .inr (3, [.ref h0_words_kept, .int c_words_count', .int c_words_healthy', .int c_words_last', .int c_words_row', .int c_words_first', .int c_words_placeInWindow', .int c_words_timesInWindow'])), (h0_words_kept, .inl (cy 1, 64, .inl c_words_kept')), (hO, .inl (cy 2, 1, .inr (.inl (vp_updL c_out (0 : Int32).toNatClampNeg (Int32.toInt64 r_)))))]) := hD
  refine lv_goto (pc := 9) (tgt := 15) hx hb dL_entropy_9 (by decide) ?_
  refine lv_iconst (pc := 15) (v := (0 : Int32)) hx hb dL_entropy_15 (by decide) ?_
  exact W.iret (pc := 16) hx hb hr (fun t ht hW => ⟨rfl, ⟨by rw [ht]; exact hP, hD⟩, hS.F ht⟩) hS.2.2 dL_entropy_16
set_option maxHeartbeats 4000000 in
set_option maxRecDepth 100000 in
theorem Lo_slotInfo (l : Launch) (D : va_G) (cy : Nat → ClassId) (tt : Nat → Nat) (sz : Nat) (h0 : Nat) (h0_buffer : Nat) (h0_slots : Nat) (h0_counters : Nat) (h0_officerPin : Nat) (h0_userPin : Nat) (h0_words : Nat) (h0_sha : Nat) (h0_stream : Nat) (h0_aes : Nat) (h0_modes : Nat) (h0_gcm : Nat) (h0_generator : Nat) (h0_tests : Nat) (h0_message : Nat) (h0_secret : Nat) (hP_o : Nat → Nat) (hP_k : Nat → Nat) (p1 : Int32) (p2 : Int32) (cP_kind : Nat → Int32) (cP_length : Nat → Int32) (cP_role : Nat → Int32) (cP_usage : Nat → Int32) (cP_uses : Nat → Int32) (c_state : Int32) (c_testsDone : Int32) (c_faults : Int32) (c_streamBegun : Int32) (cPK : Nat → Nat → Int32) (r_ : Int32) (hO : Nat) (c_out : Nat → Int64) (hf : f_X9_slotInfo p1 p2 cP_kind cP_length cP_role cP_usage cP_uses = some r_) : vx_Met l yL_slotInfo wsL_slotInfo ({ frames := 2, cells := 0, slots := 0, locals := 43 }) (zPc D cy tt sz [.ref h0, .int p1, .int p2, .ref hO] ([(h0, .inr (11, [.ref h0_buffer, .ref h0_slots, .ref h0_counters, .ref h0_officerPin, .ref h0_userPin, .ref h0_words, .ref h0_sha, .ref h0_stream, .ref h0_aes, .ref h0_modes, .ref h0_gcm, .ref h0_generator, .ref h0_tests, .ref h0_message, .ref h0_secret, .int c_state, .int c_testsDone, .int c_faults, .int c_streamBegun])), (h0_slots, .inl (cy 4, 16, .inr (.inr (.inr (.inr (fun j => some (hP_o j))))))), (hO, .inl (cy 2, 1, .inr (.inl c_out)))] ++ zpl (cy 0) hP_o hP_k cP_kind cP_length cP_usage cP_role cP_uses cPK)) (zQ D (some (.int 0)) ([(h0, .inr (11, [.ref h0_buffer, .ref h0_slots, .ref h0_counters, .ref h0_officerPin, .ref h0_userPin, .ref h0_words, .ref h0_sha, .ref h0_stream, .ref h0_aes, .ref h0_modes, .ref h0_gcm, .ref h0_generator, .ref h0_tests, .ref h0_message, .ref h0_secret, .int c_state, .int c_testsDone, .int c_faults, .int c_streamBegun])), (h0_slots, .inl (cy 4, 16, .inr (.inr (.inr (.inr (fun j => some (hP_o j))))))), (hO, .inl (cy 2, 1, .inr (.inl (vp_updL c_out (0 : Int32).toNatClampNeg (Int32.toInt64 r_)))))] ++ zpl (cy 0) hP_o hP_k cP_kind cP_length cP_usage cP_role cP_uses cPK) (va_A ([(h0, .inr (11, [.ref h0_buffer, .ref h0_slots, .ref h0_counters, .ref h0_officerPin, .ref h0_userPin, .ref h0_words, .ref h0_sha, .ref h0_stream, .ref h0_aes, .ref h0_modes, .ref h0_gcm, .ref h0_generator, .ref h0_tests, .ref h0_message, .ref h0_secret, .int c_state, .int c_testsDone, .int c_faults, .int c_streamBegun])), (h0_slots, .inl (cy 4, 16, .inr (.inr (.inr (.inr (fun j => some (hP_o j))))))), (hO, .inl (cy 2, 1, .inr (.inl c_out)))] ++ zpl (cy 0) hP_o hP_k cP_kind cP_length cP_usage cP_role cP_uses cPK) sz)) (fun _ _ _ => False) 0 0 (va_A ([(h0, .inr (11, [.ref h0_buffer, .ref h0_slots, .ref h0_counters, .ref h0_officerPin, .ref h0_userPin, .ref h0_words, .ref h0_sha, .ref h0_stream, .ref h0_aes, .ref h0_modes, .ref h0_gcm, .ref h0_generator, .ref h0_tests, .ref h0_message, .ref h0_secret, .int c_state, .int c_testsDone, .int c_faults, .int c_streamBegun])), (h0_slots, .inl (cy 4, 16, .inr (.inr (.inr (.inr (fun j => some (hP_o j))))))), (hO, .inl (cy 2, 1, .inr (.inl c_out)))] ++ zpl (cy 0) hP_o hP_k cP_kind cP_length cP_usage cP_role cP_uses cPK) sz) := by
  refine vx_ofWH (cc := cL_slotInfo) (maxL := 5) (ret := some .int) (by decide) rfl ?_
  intro p e s m args below meth c s₁ B hml hv
  obtain ⟨rfl, rfl, hP, hD0, hE⟩ := hv
  have hx := B.exec
  have hb := B.bytes
  have hr := B.returns
  have hts := atoms_spec (ws := wsL_slotInfo) B.pre
  have hown : s.vm.findClass RL = some m.cls := findClass_of_methodNamed B.named
  have hlocks := B.notSynchronized
  clear B
  refine vx_ret ?_
  have hD := hD0.self (sz := s.heap.size)
  generalize hAe : va_A ([(h0, .inr (11, [.ref h0_buffer, .ref h0_slots, .ref h0_counters, .ref h0_officerPin, .ref h0_userPin, .ref h0_words, .ref h0_sha, .ref h0_stream, .ref h0_aes, .ref h0_modes, .ref h0_gcm, .ref h0_generator, .ref h0_tests, .ref h0_message, .ref h0_secret, .int c_state, .int c_testsDone, .int c_faults, .int c_streamBegun])), (h0_slots, .inl (cy 4, 16, .inr (.inr (.inr (.inr (fun j => some (hP_o j))))))), (hO, .inl (cy 2, 1, .inr (.inl c_out)))] ++ zpl (cy 0) hP_o hP_k cP_kind cP_length cP_usage cP_role cP_uses cPK) s.heap.size = A at hD hE ⊢
  have hA : ∀ q : Nat, s.heap.size ≤ q → A q := fun q h => by rw [← hAe]; exact Or.inr h
  clear hAe hD0
  have hS : va_S A s.heap s.heap [] := va_S.rf
  have hK := hE.1
  have hl := lv_entry ([.ref h0, .int p1, .int p2, .ref hO]) (n := 5) (Nat.le_of_ble_eq_true rfl)
  rw [lg_entry_eq]
  generalize (lg_sl ([.ref h0, .int p1, .int p2, .ref hO]) ++ List.replicate (5 - (lg_sl ([.ref h0, .int p1, .int p2, .ref hO])).length) Slot.unset).toArray = ls at hl ⊢
  replace hl : lv_has ls 5 [(0, .ref h0), (1, .int p1), (2, .int p2), (3, .ref hO)] := hl
  refine lv_aload_n (pc := 0) hx hb dL_slotInfo_0 rfl (lv_at hl 3 rfl) ?_
  refine lv_iconst (pc := 1) (v := (0 : Int32)) hx hb dL_slotInfo_1 (by decide) ?_
  refine lv_aload_n (pc := 2) hx hb dL_slotInfo_2 rfl (lv_at hl 0 rfl) ?_
  refine lv_iload_n (pc := 3) hx hb dL_slotInfo_3 rfl (lv_at hl 1 rfl) ?_
  refine lv_iload_n (pc := 4) hx hb dL_slotInfo_4 rfl (lv_at hl 2 rfl) ?_
  refine zcs (pc := 5) (rv := (some (.int r_))) (va_runV (As := [.int p1, .int p2]) (rest := [.int (0 : Int32), .ref hO]) ⟨hx, hb, hml, hown, hts⟩ (c_X9_slotInfo l D cy tt s.heap.size h0 h0_buffer h0_slots h0_counters h0_officerPin h0_userPin h0_words h0_sha h0_stream h0_aes h0_modes h0_gcm h0_generator h0_tests h0_message h0_secret hP_o hP_k p1 p2 cP_kind cP_length cP_role cP_usage cP_uses c_state c_testsDone c_faults c_streamBegun cPK r_ hf) (cwV 2 hts gL_slotInfo_X9_slotInfo rfl rfl rfl (by decide +kernel) ⟨Nat.le_of_ble_eq_true rfl, Nat.le_of_ble_eq_true rfl⟩) ⟨zblind, va_recv hK hP (ci := 11) (q0 := 0) rfl rfl, zpre hE hS (va_P.part (X := [(h0, .inr (11, [.ref h0_buffer, .ref h0_slots, .ref h0_counters, .ref h0_officerPin, .ref h0_userPin, .ref h0_words, .ref h0_sha, .ref h0_stream, .ref h0_aes, .ref h0_modes, .ref h0_gcm, .ref h0_generator, .ref h0_tests, .ref h0_message, .ref h0_secret, .int c_state, .int c_testsDone, .int c_faults, .int c_streamBegun])), (h0_slots, .inl (cy 4, 16, .inr (.inr (.inr (.inr (fun j => some (hP_o j))))))), (hO, .inl (cy 2, 1, .inr (.inl c_out)))]) hP [0, 1] rfl) (va_D.part (X := [(h0, .inr (11, [.ref h0_buffer, .ref h0_slots, .ref h0_counters, .ref h0_officerPin, .ref h0_userPin, .ref h0_words, .ref h0_sha, .ref h0_stream, .ref h0_aes, .ref h0_modes, .ref h0_gcm, .ref h0_generator, .ref h0_tests, .ref h0_message, .ref h0_secret, .int c_state, .int c_testsDone, .int c_faults, .int c_streamBegun])), (h0_slots, .inl (cy 4, 16, .inr (.inr (.inr (.inr (fun j => some (hP_o j))))))), (hO, .inl (cy 2, 1, .inr (.inl c_out)))]) hD [0, 1] (by decide) rfl) (va_freeP (X := [(h0, .inr (11, [.ref h0_buffer, .ref h0_slots, .ref h0_counters, .ref h0_officerPin, .ref h0_userPin, .ref h0_words, .ref h0_sha, .ref h0_stream, .ref h0_aes, .ref h0_modes, .ref h0_gcm, .ref h0_generator, .ref h0_tests, .ref h0_message, .ref h0_secret, .int c_state, .int c_testsDone, .int c_faults, .int c_streamBegun])), (h0_slots, .inl (cy 4, 16, .inr (.inr (.inr (.inr (fun j => some (hP_o j))))))), (hO, .inl (cy 2, 1, .inr (.inl c_out)))]) hD hS hA [0, 1] rfl)⟩ rfl rfl hl.1 rfl (lv_room (Nat.le_of_ble_eq_true rfl)) dL_slotInfo_5 ⟨Nat.zero_le _, Nat.zero_le _⟩) ?_
  refine W.eq (g2 := F0 m 8 ls [.int r_, .int (0 : Int32), .ref hO]) rfl ?_
  refine lv_i2l (pc := 8) hx hb dL_slotInfo_8 rfl ?_
  refine va_last (pc := 9) hx hb hK hP hD hS 2 2 rfl rfl vp01 dL_slotInfo_9 ?_
  clear hP hD hS
  intro H locs hP hD hS
  replace hP : va_P D vwCl ([(h0, .inr (11, [.ref h0_buffer, .ref h0_slots, .ref h0_counters, .ref h0_officerPin, .ref h0_userPin, .ref h0_words, .ref h0_sha, .ref h0_stream, .ref h0_aes, .ref h0_modes, .ref h0_gcm, .ref h0_generator, .ref h0_tests, .ref h0_message, .ref h0_secret, .int c_state, .int c_testsDone, .int c_faults, .int c_streamBegun])), (h0_slots, .inl (cy 4, 16, .inr (.inr (.inr (.inr (fun j => some (hP_o j))))))), (hO, .inl (cy 2, 1, .inr (.inl (vp_updL c_out (0 : Int32).toNatClampNeg (Int32.toInt64 r_)))))] ++ zpl (cy 0) hP_o hP_k cP_kind cP_length cP_usage cP_role cP_uses cPK) H := hP
  replace hD : va_D A ([(h0, .inr (11, [.ref h0_buffer, .ref h0_slots, .ref h0_counters, .ref h0_officerPin, .ref h0_userPin, .ref h0_words, .ref h0_sha, .ref h0_stream, .ref h0_aes, .ref h0_modes, .ref h0_gcm, .ref h0_generator, .ref h0_tests, .ref h0_message, .ref h0_secret, .int c_state, .int c_testsDone, .int c_faults, .int c_streamBegun])), (h0_slots, .inl (cy 4, 16, .inr (.inr (.inr (.inr (fun j => some (hP_o j))))))), (hO, .inl (cy 2, 1, .inr (.inl (vp_updL c_out (0 : Int32).toNatClampNeg (Int32.toInt64 r_)))))] ++ zpl (cy 0) hP_o hP_k cP_kind cP_length cP_usage cP_role cP_uses cPK) := hD
  refine lv_goto (pc := 10) (tgt := 17) hx hb dL_slotInfo_10 (by decide) ?_
  refine lv_iconst (pc := 17) (v := (0 : Int32)) hx hb dL_slotInfo_17 (by decide) ?_
  exact W.iret (pc := 18) hx hb hr (fun t ht hW => ⟨rfl, ⟨by rw [ht]; exact hP, hD⟩, hS.F ht⟩) hS.2.2 dL_slotInfo_18
set_option maxHeartbeats 4000000 in
set_option maxRecDepth 100000 in
theorem Lo_counter (l : Launch) (D : va_G) (cy : Nat → ClassId) (tt : Nat → Nat) (sz : Nat) (h0 : Nat) (h0_buffer : Nat) (h0_slots : Nat) (h0_counters : Nat) (h0_officerPin : Nat) (h0_userPin : Nat) (h0_words : Nat) (h0_sha : Nat) (h0_stream : Nat) (h0_aes : Nat) (h0_modes : Nat) (h0_gcm : Nat) (h0_generator : Nat) (h0_tests : Nat) (h0_message : Nat) (h0_secret : Nat) (p1 : Int32) (c_counters : Nat → Int32) (c_state : Int32) (c_testsDone : Int32) (c_faults : Int32) (c_streamBegun : Int32) (r_ : Int32) (hO : Nat) (c_out : Nat → Int64) (hf : f_X9_counter p1 c_counters = some r_) : vx_Met l yL_counter wsL_counter ({ frames := 1, cells := 0, slots := 0, locals := 21 }) (zPc D cy tt sz [.ref h0, .int p1, .ref hO] ([(h0, .inr (11, [.ref h0_buffer, .ref h0_slots, .ref h0_counters, .ref h0_officerPin, .ref h0_userPin, .ref h0_words, .ref h0_sha, .ref h0_stream, .ref h0_aes, .ref h0_modes, .ref h0_gcm, .ref h0_generator, .ref h0_tests, .ref h0_message, .ref h0_secret, .int c_state, .int c_testsDone, .int c_faults, .int c_streamBegun])), (h0_counters, .inl (cy 1, 3, .inl c_counters)), (hO, .inl (cy 2, 1, .inr (.inl c_out)))])) (zQ D (some (.int 0)) ([(h0, .inr (11, [.ref h0_buffer, .ref h0_slots, .ref h0_counters, .ref h0_officerPin, .ref h0_userPin, .ref h0_words, .ref h0_sha, .ref h0_stream, .ref h0_aes, .ref h0_modes, .ref h0_gcm, .ref h0_generator, .ref h0_tests, .ref h0_message, .ref h0_secret, .int c_state, .int c_testsDone, .int c_faults, .int c_streamBegun])), (h0_counters, .inl (cy 1, 3, .inl c_counters)), (hO, .inl (cy 2, 1, .inr (.inl (vp_updL c_out (0 : Int32).toNatClampNeg (Int32.toInt64 r_)))))]) (va_A ([(h0, .inr (11, [.ref h0_buffer, .ref h0_slots, .ref h0_counters, .ref h0_officerPin, .ref h0_userPin, .ref h0_words, .ref h0_sha, .ref h0_stream, .ref h0_aes, .ref h0_modes, .ref h0_gcm, .ref h0_generator, .ref h0_tests, .ref h0_message, .ref h0_secret, .int c_state, .int c_testsDone, .int c_faults, .int c_streamBegun])), (h0_counters, .inl (cy 1, 3, .inl c_counters)), (hO, .inl (cy 2, 1, .inr (.inl c_out)))]) sz)) (fun _ _ _ => False) 0 0 (va_A ([(h0, .inr (11, [.ref h0_buffer, .ref h0_slots, .ref h0_counters, .ref h0_officerPin, .ref h0_userPin, .ref h0_words, .ref h0_sha, .ref h0_stream, .ref h0_aes, .ref h0_modes, .ref h0_gcm, .ref h0_generator, .ref h0_tests, .ref h0_message, .ref h0_secret, .int c_state, .int c_testsDone, .int c_faults, .int c_streamBegun])), (h0_counters, .inl (cy 1, 3, .inl c_counters)), (hO, .inl (cy 2, 1, .inr (.inl c_out)))]) sz) := by
  refine vx_ofWH (cc := cL_counter) (maxL := 4) (ret := some .int) (by decide) rfl ?_
  intro p e s m args below meth c s₁ B hml hv
  obtain ⟨rfl, rfl, hP, hD0, hE⟩ := hv
  have hx := B.exec
  have hb := B.bytes
  have hr := B.returns
  have hts := atoms_spec (ws := wsL_counter) B.pre
  have hown : s.vm.findClass RL = some m.cls := findClass_of_methodNamed B.named
  have hlocks := B.notSynchronized
  clear B
  refine vx_ret ?_
  have hD := hD0.self (sz := s.heap.size)
  generalize hAe : va_A ([(h0, .inr (11, [.ref h0_buffer, .ref h0_slots, .ref h0_counters, .ref h0_officerPin, .ref h0_userPin, .ref h0_words, .ref h0_sha, .ref h0_stream, .ref h0_aes, .ref h0_modes, .ref h0_gcm, .ref h0_generator, .ref h0_tests, .ref h0_message, .ref h0_secret, .int c_state, .int c_testsDone, .int c_faults, .int c_streamBegun])), (h0_counters, .inl (cy 1, 3, .inl c_counters)), (hO, .inl (cy 2, 1, .inr (.inl c_out)))]) s.heap.size = A at hD hE ⊢
  have hA : ∀ q : Nat, s.heap.size ≤ q → A q := fun q h => by rw [← hAe]; exact Or.inr h
  clear hAe hD0
  have hS : va_S A s.heap s.heap [] := va_S.rf
  have hK := hE.1
  have hl := lv_entry ([.ref h0, .int p1, .ref hO]) (n := 4) (Nat.le_of_ble_eq_true rfl)
  rw [lg_entry_eq]
  generalize (lg_sl ([.ref h0, .int p1, .ref hO]) ++ List.replicate (4 - (lg_sl ([.ref h0, .int p1, .ref hO])).length) Slot.unset).toArray = ls at hl ⊢
  replace hl : lv_has ls 4 [(0, .ref h0), (1, .int p1), (2, .ref hO)] := hl
  refine lv_aload_n (pc := 0) hx hb dL_counter_0 rfl (lv_at hl 2 rfl) ?_
  refine lv_iconst (pc := 1) (v := (0 : Int32)) hx hb dL_counter_1 (by decide) ?_
  refine lv_aload_n (pc := 2) hx hb dL_counter_2 rfl (lv_at hl 0 rfl) ?_
  refine lv_iload_n (pc := 3) hx hb dL_counter_3 rfl (lv_at hl 1 rfl) ?_
  refine zcs (pc := 4) (rv := (some (.int r_))) (va_runV (As := [.int p1]) (rest := [.int (0 : Int32), .ref hO]) ⟨hx, hb, hml, hown, hts⟩ (c_X9_counter l D cy tt s.heap.size h0 h0_buffer h0_slots h0_counters h0_officerPin h0_userPin h0_words h0_sha h0_stream h0_aes h0_modes h0_gcm h0_generator h0_tests h0_message h0_secret p1 c_counters c_state c_testsDone c_faults c_streamBegun r_ hf) (cwV 1 hts gL_counter_X9_counter rfl rfl rfl (by decide +kernel) ⟨Nat.le_of_ble_eq_true rfl, Nat.le_of_ble_eq_true rfl⟩) ⟨zblind, va_recv hK hP (ci := 11) (q0 := 0) rfl rfl, zpre hE hS (hP.sub [0, 1] rfl) (hD.sub [0, 1] (by decide) rfl) (va_free hD hS hA [0, 1] rfl)⟩ rfl rfl hl.1 rfl (lv_room (Nat.le_of_ble_eq_true rfl)) dL_counter_4 ⟨Nat.zero_le _, Nat.zero_le _⟩) ?_
  refine W.eq (g2 := F0 m 7 ls [.int r_, .int (0 : Int32), .ref hO]) rfl ?_
  refine lv_i2l (pc := 7) hx hb dL_counter_7 rfl ?_
  refine va_last (pc := 8) hx hb hK hP hD hS 2 2 rfl rfl vp01 dL_counter_8 ?_
  clear hP hD hS
  intro H locs hP hD hS
  replace hP : va_P D vwCl ([(h0, .inr (11, [.ref h0_buffer, .ref h0_slots, .ref h0_counters, .ref h0_officerPin, .ref h0_userPin, .ref h0_words, .ref h0_sha, .ref h0_stream, .ref h0_aes, .ref h0_modes, .ref h0_gcm, .ref h0_generator, .ref h0_tests, .ref h0_message, .ref h0_secret, .int c_state, .int c_testsDone, .int c_faults, .int c_streamBegun])), (h0_counters, .inl (cy 1, 3, .inl c_counters)), (hO, .inl (cy 2, 1, .inr (.inl (vp_updL c_out (0 : Int32).toNatClampNeg (Int32.toInt64 r_)))))]) H := hP
  replace hD : va_D A ([(h0, .inr (11, [.ref h0_buffer, .ref h0_slots, .ref h0_counters, .ref h0_officerPin, .ref h0_userPin, .ref h0_words, .ref h0_sha, .ref h0_stream, .ref h0_aes, .ref h0_modes, .ref h0_gcm, .ref h0_generator, .ref h0_tests, .ref h0_message, .ref h0_secret, .int c_state, .int c_testsDone, .int c_faults, .int c_streamBegun])), (h0_counters, .inl (cy 1, 3, .inl c_counters)), (hO, .inl (cy 2, 1, .inr (.inl (vp_updL c_out (0 : Int32).toNatClampNeg (Int32.toInt64 r_)))))]) := hD
  refine lv_goto (pc := 9) (tgt := 15) hx hb dL_counter_9 (by decide) ?_
  refine lv_iconst (pc := 15) (v := (0 : Int32)) hx hb dL_counter_15 (by decide) ?_
  exact W.iret (pc := 16) hx hb hr (fun t ht hW => ⟨rfl, ⟨by rw [ht]; exact hP, hD⟩, hS.F ht⟩) hS.2.2 dL_counter_16
set_option maxHeartbeats 4000000 in
set_option maxRecDepth 100000 in
theorem Lo_same (l : Launch) (D : va_G) (cy : Nat → ClassId) (tt : Nat → Nat) (sz : Nat) (h0 : Nat) (h0_buffer : Nat) (h0_slots : Nat) (h0_counters : Nat) (h0_officerPin : Nat) (h0_userPin : Nat) (h0_words : Nat) (h0_sha : Nat) (h0_stream : Nat) (h0_aes : Nat) (h0_modes : Nat) (h0_gcm : Nat) (h0_generator : Nat) (h0_tests : Nat) (h0_message : Nat) (h0_secret : Nat) (hP_o : Nat → Nat) (hP_k : Nat → Nat) (p1 : Int32) (p2 : Int32) (c_buffer : Nat → Int32) (cP_kind : Nat → Int32) (cP_length : Nat → Int32) (cPK : Nat → Nat → Int32) (c_state : Int32) (c_testsDone : Int32) (c_faults : Int32) (c_streamBegun : Int32) (cP_usage : Nat → Int32) (cP_role : Nat → Int32) (cP_uses : Nat → Int32) (r_ : Int32) (hO : Nat) (c_out : Nat → Int64) (hf : f_X9_same p1 p2 c_buffer cP_kind cP_length cPK = some r_) : vx_Met l yL_same wsL_same ({ frames := 2, cells := 0, slots := 0, locals := 49 }) (zPc D cy tt sz [.ref h0, .int p1, .int p2, .ref hO] ([(h0, .inr (11, [.ref h0_buffer, .ref h0_slots, .ref h0_counters, .ref h0_officerPin, .ref h0_userPin, .ref h0_words, .ref h0_sha, .ref h0_stream, .ref h0_aes, .ref h0_modes, .ref h0_gcm, .ref h0_generator, .ref h0_tests, .ref h0_message, .ref h0_secret, .int c_state, .int c_testsDone, .int c_faults, .int c_streamBegun])), (h0_buffer, .inl (cy 0, 512, .inl c_buffer)), (h0_slots, .inl (cy 4, 16, .inr (.inr (.inr (.inr (fun j => some (hP_o j))))))), (hO, .inl (cy 2, 1, .inr (.inl c_out)))] ++ zpl (cy 0) hP_o hP_k cP_kind cP_length cP_usage cP_role cP_uses cPK)) (zQ D (some (.int 0)) ([(h0, .inr (11, [.ref h0_buffer, .ref h0_slots, .ref h0_counters, .ref h0_officerPin, .ref h0_userPin, .ref h0_words, .ref h0_sha, .ref h0_stream, .ref h0_aes, .ref h0_modes, .ref h0_gcm, .ref h0_generator, .ref h0_tests, .ref h0_message, .ref h0_secret, .int c_state, .int c_testsDone, .int c_faults, .int c_streamBegun])), (h0_buffer, .inl (cy 0, 512, .inl c_buffer)), (h0_slots, .inl (cy 4, 16, .inr (.inr (.inr (.inr (fun j => some (hP_o j))))))), (hO, .inl (cy 2, 1, .inr (.inl (vp_updL c_out (0 : Int32).toNatClampNeg (if r_ = 0 then (0 : Int64) else 1)))))] ++ zpl (cy 0) hP_o hP_k cP_kind cP_length cP_usage cP_role cP_uses cPK) (va_A ([(h0, .inr (11, [.ref h0_buffer, .ref h0_slots, .ref h0_counters, .ref h0_officerPin, .ref h0_userPin, .ref h0_words, .ref h0_sha, .ref h0_stream, .ref h0_aes, .ref h0_modes, .ref h0_gcm, .ref h0_generator, .ref h0_tests, .ref h0_message, .ref h0_secret, .int c_state, .int c_testsDone, .int c_faults, .int c_streamBegun])), (h0_buffer, .inl (cy 0, 512, .inl c_buffer)), (h0_slots, .inl (cy 4, 16, .inr (.inr (.inr (.inr (fun j => some (hP_o j))))))), (hO, .inl (cy 2, 1, .inr (.inl c_out)))] ++ zpl (cy 0) hP_o hP_k cP_kind cP_length cP_usage cP_role cP_uses cPK) sz)) (fun _ _ _ => False) 0 0 (va_A ([(h0, .inr (11, [.ref h0_buffer, .ref h0_slots, .ref h0_counters, .ref h0_officerPin, .ref h0_userPin, .ref h0_words, .ref h0_sha, .ref h0_stream, .ref h0_aes, .ref h0_modes, .ref h0_gcm, .ref h0_generator, .ref h0_tests, .ref h0_message, .ref h0_secret, .int c_state, .int c_testsDone, .int c_faults, .int c_streamBegun])), (h0_buffer, .inl (cy 0, 512, .inl c_buffer)), (h0_slots, .inl (cy 4, 16, .inr (.inr (.inr (.inr (fun j => some (hP_o j))))))), (hO, .inl (cy 2, 1, .inr (.inl c_out)))] ++ zpl (cy 0) hP_o hP_k cP_kind cP_length cP_usage cP_role cP_uses cPK) sz) := by
  refine vx_ofWH (cc := cL_same) (maxL := 5) (ret := some .int) (by decide) rfl ?_
  intro p e s m args below meth c s₁ B hml hv
  obtain ⟨rfl, rfl, hP, hD0, hE⟩ := hv
  have hx := B.exec
  have hb := B.bytes
  have hr := B.returns
  have hts := atoms_spec (ws := wsL_same) B.pre
  have hown : s.vm.findClass RL = some m.cls := findClass_of_methodNamed B.named
  have hlocks := B.notSynchronized
  clear B
  refine vx_ret ?_
  have hD := hD0.self (sz := s.heap.size)
  generalize hAe : va_A ([(h0, .inr (11, [.ref h0_buffer, .ref h0_slots, .ref h0_counters, .ref h0_officerPin, .ref h0_userPin, .ref h0_words, .ref h0_sha, .ref h0_stream, .ref h0_aes, .ref h0_modes, .ref h0_gcm, .ref h0_generator, .ref h0_tests, .ref h0_message, .ref h0_secret, .int c_state, .int c_testsDone, .int c_faults, .int c_streamBegun])), (h0_buffer, .inl (cy 0, 512, .inl c_buffer)), (h0_slots, .inl (cy 4, 16, .inr (.inr (.inr (.inr (fun j => some (hP_o j))))))), (hO, .inl (cy 2, 1, .inr (.inl c_out)))] ++ zpl (cy 0) hP_o hP_k cP_kind cP_length cP_usage cP_role cP_uses cPK) s.heap.size = A at hD hE ⊢
  have hA : ∀ q : Nat, s.heap.size ≤ q → A q := fun q h => by rw [← hAe]; exact Or.inr h
  clear hAe hD0
  have hS : va_S A s.heap s.heap [] := va_S.rf
  have hK := hE.1
  have hl := lv_entry ([.ref h0, .int p1, .int p2, .ref hO]) (n := 5) (Nat.le_of_ble_eq_true rfl)
  rw [lg_entry_eq]
  generalize (lg_sl ([.ref h0, .int p1, .int p2, .ref hO]) ++ List.replicate (5 - (lg_sl ([.ref h0, .int p1, .int p2, .ref hO])).length) Slot.unset).toArray = ls at hl ⊢
  replace hl : lv_has ls 5 [(0, .ref h0), (1, .int p1), (2, .int p2), (3, .ref hO)] := hl
  refine lv_aload_n (pc := 0) hx hb dL_same_0 rfl (lv_at hl 3 rfl) ?_
  refine lv_iconst (pc := 1) (v := (0 : Int32)) hx hb dL_same_1 (by decide) ?_
  refine lv_aload_n (pc := 2) hx hb dL_same_2 rfl (lv_at hl 0 rfl) ?_
  refine lv_iload_n (pc := 3) hx hb dL_same_3 rfl (lv_at hl 1 rfl) ?_
  refine lv_iload_n (pc := 4) hx hb dL_same_4 rfl (lv_at hl 2 rfl) ?_
  refine zcs (pc := 5) (rv := (some (.int r_))) (va_runV (As := [.int p1, .int p2]) (rest := [.int (0 : Int32), .ref hO]) ⟨hx, hb, hml, hown, hts⟩ (c_X9_same l D cy tt s.heap.size h0 h0_buffer h0_slots h0_counters h0_officerPin h0_userPin h0_words h0_sha h0_stream h0_aes h0_modes h0_gcm h0_generator h0_tests h0_message h0_secret hP_o hP_k p1 p2 c_buffer cP_kind cP_length cPK c_state c_testsDone c_faults c_streamBegun cP_usage cP_role cP_uses r_ hf) (cwV 2 hts gL_same_X9_same rfl rfl rfl (by decide +kernel) ⟨Nat.le_of_ble_eq_true rfl, Nat.le_of_ble_eq_true rfl⟩) ⟨zblind, va_recv hK hP (ci := 11) (q0 := 0) rfl rfl, zpre hE hS (va_P.part (X := [(h0, .inr (11, [.ref h0_buffer, .ref h0_slots, .ref h0_counters, .ref h0_officerPin, .ref h0_userPin, .ref h0_words, .ref h0_sha, .ref h0_stream, .ref h0_aes, .ref h0_modes, .ref h0_gcm, .ref h0_generator, .ref h0_tests, .ref h0_message, .ref h0_secret, .int c_state, .int c_testsDone, .int c_faults, .int c_streamBegun])), (h0_buffer, .inl (cy 0, 512, .inl c_buffer)), (h0_slots, .inl (cy 4, 16, .inr (.inr (.inr (.inr (fun j => some (hP_o j))))))), (hO, .inl (cy 2, 1, .inr (.inl c_out)))]) hP [0, 1, 2] rfl) (va_D.part (X := [(h0, .inr (11, [.ref h0_buffer, .ref h0_slots, .ref h0_counters, .ref h0_officerPin, .ref h0_userPin, .ref h0_words, .ref h0_sha, .ref h0_stream, .ref h0_aes, .ref h0_modes, .ref h0_gcm, .ref h0_generator, .ref h0_tests, .ref h0_message, .ref h0_secret, .int c_state, .int c_testsDone, .int c_faults, .int c_streamBegun])), (h0_buffer, .inl (cy 0, 512, .inl c_buffer)), (h0_slots, .inl (cy 4, 16, .inr (.inr (.inr (.inr (fun j => some (hP_o j))))))), (hO, .inl (cy 2, 1, .inr (.inl c_out)))]) hD [0, 1, 2] (by decide) rfl) (va_freeP (X := [(h0, .inr (11, [.ref h0_buffer, .ref h0_slots, .ref h0_counters, .ref h0_officerPin, .ref h0_userPin, .ref h0_words, .ref h0_sha, .ref h0_stream, .ref h0_aes, .ref h0_modes, .ref h0_gcm, .ref h0_generator, .ref h0_tests, .ref h0_message, .ref h0_secret, .int c_state, .int c_testsDone, .int c_faults, .int c_streamBegun])), (h0_buffer, .inl (cy 0, 512, .inl c_buffer)), (h0_slots, .inl (cy 4, 16, .inr (.inr (.inr (.inr (fun j => some (hP_o j))))))), (hO, .inl (cy 2, 1, .inr (.inl c_out)))]) hD hS hA [0, 1, 2] rfl)⟩ rfl rfl hl.1 rfl (lv_room (Nat.le_of_ble_eq_true rfl)) dL_same_5 ⟨Nat.zero_le _, Nat.zero_le _⟩) ?_
  refine W.eq (g2 := F0 m 8 ls [.int r_, .int (0 : Int32), .ref hO]) rfl ?_
  refine lv_if_eq (pc := 8) (tgt := 15) hx hb dL_same_8 (by decide) (fun hz => ?_) (fun hz => ?_)
  · refine lv_lconst (pc := 15) (v := (0 : Int64)) hx hb dL_same_15 (by decide) ?_
    refine va_last (pc := 16) hx hb hK hP hD hS 3 2 rfl rfl vp01 dL_same_16 ?_
    clear hP hD hS
    intro H locs hP hD hS
    replace hP : va_P D vwCl ([(h0, .inr (11, [.ref h0_buffer, .ref h0_slots, .ref h0_counters, .ref h0_officerPin, .ref h0_userPin, .ref h0_words, .ref h0_sha, .ref h0_stream, .ref h0_aes, .ref h0_modes, .ref h0_gcm, .ref h0_generator, .ref h0_tests, .ref h0_message, .ref h0_secret, .int c_state, .int c_testsDone, .int c_faults, .int c_streamBegun])), (h0_buffer, .inl (cy 0, 512, .inl c_buffer)), (h0_slots, .inl (cy 4, 16, .inr (.inr (.inr (.inr (fun j => some (hP_o j))))))), (hO, .inl (cy 2, 1, .inr (.inl (vp_updL c_out (0 : Int32).toNatClampNeg (if r_ = 0 then (0 : Int64) else 1)))))] ++ zpl (cy 0) hP_o hP_k cP_kind cP_length cP_usage cP_role cP_uses cPK) H := (by rw [if_pos hz]; exact hP)
    replace hD : va_D A ([(h0, .inr (11, [.ref h0_buffer, .ref h0_slots, .ref h0_counters, .ref h0_officerPin, .ref h0_userPin, .ref h0_words, .ref h0_sha, .ref h0_stream, .ref h0_aes, .ref h0_modes, .ref h0_gcm, .ref h0_generator, .ref h0_tests, .ref h0_message, .ref h0_secret, .int c_state, .int c_testsDone, .int c_faults, .int c_streamBegun])), (h0_buffer, .inl (cy 0, 512, .inl c_buffer)), (h0_slots, .inl (cy 4, 16, .inr (.inr (.inr (.inr (fun j => some (hP_o j))))))), (hO, .inl (cy 2, 1, .inr (.inl (vp_updL c_out (0 : Int32).toNatClampNeg (if r_ = 0 then (0 : Int64) else 1)))))] ++ zpl (cy 0) hP_o hP_k cP_kind cP_length cP_usage cP_role cP_uses cPK) := (by rw [if_pos hz]; exact hD)
    refine lv_goto (pc := 17) (tgt := 24) hx hb dL_same_17 (by decide) ?_
    refine lv_iconst (pc := 24) (v := (0 : Int32)) hx hb dL_same_24 (by decide) ?_
    exact W.iret (pc := 25) hx hb hr (fun t ht hW => ⟨rfl, ⟨by rw [ht]; exact hP, hD⟩, hS.F ht⟩) hS.2.2 dL_same_25
  · refine lv_lconst (pc := 11) (v := (1 : Int64)) hx hb dL_same_11 (by decide) ?_
    refine lv_goto (pc := 12) (tgt := 16) hx hb dL_same_12 (by decide) ?_
    refine va_last (pc := 16) hx hb hK hP hD hS 3 2 rfl rfl vp01 dL_same_16 ?_
    clear hP hD hS
    intro H locs hP hD hS
    replace hP : va_P D vwCl ([(h0, .inr (11, [.ref h0_buffer, .ref h0_slots, .ref h0_counters, .ref h0_officerPin, .ref h0_userPin, .ref h0_words, .ref h0_sha, .ref h0_stream, .ref h0_aes, .ref h0_modes, .ref h0_gcm, .ref h0_generator, .ref h0_tests, .ref h0_message, .ref h0_secret, .int c_state, .int c_testsDone, .int c_faults, .int c_streamBegun])), (h0_buffer, .inl (cy 0, 512, .inl c_buffer)), (h0_slots, .inl (cy 4, 16, .inr (.inr (.inr (.inr (fun j => some (hP_o j))))))), (hO, .inl (cy 2, 1, .inr (.inl (vp_updL c_out (0 : Int32).toNatClampNeg (if r_ = 0 then (0 : Int64) else 1)))))] ++ zpl (cy 0) hP_o hP_k cP_kind cP_length cP_usage cP_role cP_uses cPK) H := (by rw [if_neg hz]; exact hP)
    replace hD : va_D A ([(h0, .inr (11, [.ref h0_buffer, .ref h0_slots, .ref h0_counters, .ref h0_officerPin, .ref h0_userPin, .ref h0_words, .ref h0_sha, .ref h0_stream, .ref h0_aes, .ref h0_modes, .ref h0_gcm, .ref h0_generator, .ref h0_tests, .ref h0_message, .ref h0_secret, .int c_state, .int c_testsDone, .int c_faults, .int c_streamBegun])), (h0_buffer, .inl (cy 0, 512, .inl c_buffer)), (h0_slots, .inl (cy 4, 16, .inr (.inr (.inr (.inr (fun j => some (hP_o j))))))), (hO, .inl (cy 2, 1, .inr (.inl (vp_updL c_out (0 : Int32).toNatClampNeg (if r_ = 0 then (0 : Int64) else 1)))))] ++ zpl (cy 0) hP_o hP_k cP_kind cP_length cP_usage cP_role cP_uses cPK) := (by rw [if_neg hz]; exact hD)
    refine lv_goto (pc := 17) (tgt := 24) hx hb dL_same_17 (by decide) ?_
    refine lv_iconst (pc := 24) (v := (0 : Int32)) hx hb dL_same_24 (by decide) ?_
    exact W.iret (pc := 25) hx hb hr (fun t ht hW => ⟨rfl, ⟨by rw [ht]; exact hP, hD⟩, hS.F ht⟩) hS.2.2 dL_same_25
