noncomputable def t_X9_fault (p1 : Int32) : Option Unit :=
  if p1 < 0 then some () else if p1 < (10 : Int32) then none else some ()
set_option maxHeartbeats 4000000 in
set_option maxRecDepth 100000 in
theorem t_c_X9_fault (l_ : Launch) (hlt : l_.stackTraces = false) (tx : Nat → Nat) (D : va_G) (cy : Nat → ClassId) (tt : Nat → Nat) (sz : Nat) (h0 : Nat) (h0_buffer : Nat) (h0_slots : Nat) (h0_counters : Nat) (h0_officerPin : Nat) (h0_userPin : Nat) (h0_words : Nat) (h0_sha : Nat) (h0_stream : Nat) (h0_aes : Nat) (h0_modes : Nat) (h0_gcm : Nat) (h0_generator : Nat) (h0_tests : Nat) (h0_message : Nat) (h0_secret : Nat) (p1 : Int32) (c_faults : Int32) (c_state : Int32) (c_testsDone : Int32) (c_streamBegun : Int32) (hf : t_X9_fault p1 = some ()) : vx_Met l_ yX9_fault wsX9_fault ({ frames := 6, cells := 1, slots := 6, locals := 82 }) (fun a U => (zPc D cy tt sz [.ref h0, .int p1] ([(h0, .inr (11, [.ref h0_buffer, .ref h0_slots, .ref h0_counters, .ref h0_officerPin, .ref h0_userPin, .ref h0_words, .ref h0_sha, .ref h0_stream, .ref h0_aes, .ref h0_modes, .ref h0_gcm, .ref h0_generator, .ref h0_tests, .ref h0_message, .ref h0_secret, .int c_state, .int c_testsDone, .int c_faults, .int c_streamBegun]))])) a U ∧ gX tx (va_A ([(h0, .inr (11, [.ref h0_buffer, .ref h0_slots, .ref h0_counters, .ref h0_officerPin, .ref h0_userPin, .ref h0_words, .ref h0_sha, .ref h0_stream, .ref h0_aes, .ref h0_modes, .ref h0_gcm, .ref h0_generator, .ref h0_tests, .ref h0_message, .ref h0_secret, .int c_state, .int c_testsDone, .int c_faults, .int c_streamBegun]))]) sz) U) zNo (zXc "java/lang/IllegalArgumentException") 1 6 (va_A ([(h0, .inr (11, [.ref h0_buffer, .ref h0_slots, .ref h0_counters, .ref h0_officerPin, .ref h0_userPin, .ref h0_words, .ref h0_sha, .ref h0_stream, .ref h0_aes, .ref h0_modes, .ref h0_gcm, .ref h0_generator, .ref h0_tests, .ref h0_message, .ref h0_secret, .int c_state, .int c_testsDone, .int c_faults, .int c_streamBegun]))]) sz) := by
  refine vx_ofW (cc := cX9_fault) (maxL := 2) (ret := none) (by decide) rfl ?_
  intro p e s m args below meth c s₁ B hml htab hv
  obtain ⟨⟨rfl, rfl, hP, hD0, hE⟩, hX⟩ := hv
  have hx := B.exec
  have hb := B.bytes
  have hr := B.returns
  have hts := atoms_spec (ws := wsX9_fault) B.pre
  have hown : s.vm.findClass RX9 = some m.cls := findClass_of_methodNamed B.named
  have hlocks := B.notSynchronized
  clear B
  have hD := hD0.self (sz := s.heap.size)
  generalize hAe : va_A ([(h0, .inr (11, [.ref h0_buffer, .ref h0_slots, .ref h0_counters, .ref h0_officerPin, .ref h0_userPin, .ref h0_words, .ref h0_sha, .ref h0_stream, .ref h0_aes, .ref h0_modes, .ref h0_gcm, .ref h0_generator, .ref h0_tests, .ref h0_message, .ref h0_secret, .int c_state, .int c_testsDone, .int c_faults, .int c_streamBegun]))]) s.heap.size = A at hD hE hX ⊢
  have hA : ∀ q : Nat, s.heap.size ≤ q → A q := fun q h => by rw [← hAe]; exact Or.inr h
  clear hAe hD0
  have hS : va_S A s.heap s.heap [] := va_S.rf
  have hK := hE.1
  have hw0 := hts (.fieldLink RX9 108 "SealedModule" "faults" "I") (by decide +kernel)
  have hcX9 : ∀ w ∈ u_ws RX9 TX9 19, w ∈ wsX9_fault := (fun _ h => List.mem_cons_of_mem _ (List.mem_append_left _ (List.mem_append_right _ h)))
  have hl := lv_entry ([.ref h0, .int p1]) (n := 2) (Nat.le_of_ble_eq_true rfl)
  rw [lg_entry_eq]
  generalize (lg_sl ([.ref h0, .int p1]) ++ List.replicate (2 - (lg_sl ([.ref h0, .int p1])).length) Slot.unset).toArray = ls at hl ⊢
  replace hl : lv_has ls 2 [(0, .ref h0), (1, .int p1)] := hl
  unfold t_X9_fault at hf
  refine zgo (fun GW hTo hFr => ?_)
  refine hFr _ _ _ ?_
  obtain ⟨H, hHe⟩ : ∃ H, H = s.heap := ⟨_, rfl⟩
  obtain ⟨locs, hLe⟩ : ∃ L : List Loc, L = [] := ⟨_, rfl⟩
  rw [← hHe] at hP
  replace hS : va_S A s.heap H locs := by rw [hHe, hLe]; exact hS
  refine zat hHe.symm hLe.symm ?_
  refine lv_iload_n (pc := 0) hx hb (zdt_at zt_X9_fault_0 0 rfl) rfl (lv_at hl 1 rfl) ?_
  refine lv_if_lt (pc := 1) (tgt := 10) hx hb (zdt_at zt_X9_fault_0 1 rfl) (by decide) (fun cn_ => ?t_1) (fun cn_ => ?f_2)
  case t_1 =>
    replace hf := zt_s cn_ hf
    clear cn_
    exact vx_throwS (pc := 10) (ik := 136) (is := 138) (ic := 140) (sa := tx 0) (cls := "java/lang/IllegalArgumentException") (own := RX9) (names := ["java/lang/RuntimeException", "java/lang/Exception"]) hx hb hlt hown (by decide +kernel) (by decide +kernel) (hts (.classLink RX9 136 "java/lang/IllegalArgumentException") (by decide +kernel)) (hts (.initialized "java/lang/IllegalArgumentException") (by decide +kernel)) hX.2.2.2.1 (vx_hat (L := vx_atS RX9 140 "java/lang/IllegalArgumentException" ["java/lang/RuntimeException", "java/lang/Exception"]) (B := gXw) (fun w h => hts w (List.mem_cons_of_mem _ (List.mem_append_right _ h))) (fun w h => List.mem_append_left _ h) (fun w h => hX.2.2.1 _ w h)) (by decide +kernel) hX.1 hX.2.1 hS (by rw [hml]; exact hl.1) (zdt_at zt_X9_fault_0 5 rfl) (zdt_at zt_X9_fault_0 6 rfl) (zdt_at zt_X9_fault_0 7 rfl) (zdt_at zt_X9_fault_0 8 rfl) (zdt_at zt_X9_fault_0 9 rfl) (fun x hx9 => (htab x hx9).elim) (by decide) (by decide) (Nat.le_of_ble_eq_true rfl) (Nat.le_of_ble_eq_true rfl) hlocks (fun t _ h1 h2 => ⟨rfl, by rw [← hHe]; exact h1, by rw [← hHe]; exact h2⟩) (by rw [hLe]; exact fun _ h => nomatch h) (Nat.le_of_ble_eq_true rfl) (Nat.le_of_ble_eq_true rfl)
  replace hf := ze_s cn_ hf
  clear cn_
  refine lv_iload_n (pc := 4) hx hb (zdt_at zt_X9_fault_0 2 rfl) rfl (lv_at hl 1 rfl) ?_
  refine lv_bipush (pc := 5) (v := (10 : Int32)) hx hb (zdt_at zt_X9_fault_0 3 rfl) (by decide) ?_
  refine lv_icmp_lt (pc := 7) (tgt := 20) hx hb (zdt_at zt_X9_fault_0 4 rfl) (by decide) (fun cn_ => ?t_3) (fun cn_ => ?f_4)
  case f_4 =>
    replace hf := ze_s cn_ hf
    clear cn_
    exact vx_throwS (pc := 10) (ik := 136) (is := 138) (ic := 140) (sa := tx 0) (cls := "java/lang/IllegalArgumentException") (own := RX9) (names := ["java/lang/RuntimeException", "java/lang/Exception"]) hx hb hlt hown (by decide +kernel) (by decide +kernel) (hts (.classLink RX9 136 "java/lang/IllegalArgumentException") (by decide +kernel)) (hts (.initialized "java/lang/IllegalArgumentException") (by decide +kernel)) hX.2.2.2.1 (vx_hat (L := vx_atS RX9 140 "java/lang/IllegalArgumentException" ["java/lang/RuntimeException", "java/lang/Exception"]) (B := gXw) (fun w h => hts w (List.mem_cons_of_mem _ (List.mem_append_right _ h))) (fun w h => List.mem_append_left _ h) (fun w h => hX.2.2.1 _ w h)) (by decide +kernel) hX.1 hX.2.1 hS (by rw [hml]; exact hl.1) (zdt_at zt_X9_fault_0 5 rfl) (zdt_at zt_X9_fault_0 6 rfl) (zdt_at zt_X9_fault_0 7 rfl) (zdt_at zt_X9_fault_0 8 rfl) (zdt_at zt_X9_fault_0 9 rfl) (fun x hx9 => (htab x hx9).elim) (by decide) (by decide) (Nat.le_of_ble_eq_true rfl) (Nat.le_of_ble_eq_true rfl) hlocks (fun t _ h1 h2 => ⟨rfl, by rw [← hHe]; exact h1, by rw [← hHe]; exact h2⟩) (by rw [hLe]; exact fun _ h => nomatch h) (Nat.le_of_ble_eq_true rfl) (Nat.le_of_ble_eq_true rfl)
  replace hf := zt_s cn_ hf
  clear cn_
  exact absurd hf (by simp)
noncomputable def t_X9_counter (p1 : Int32) : Option Unit :=
  if p1 < 0 then some () else if p1 < (3 : Int32) then none else some ()
set_option maxHeartbeats 4000000 in
set_option maxRecDepth 100000 in
theorem t_c_X9_counter (l_ : Launch) (hlt : l_.stackTraces = false) (tx : Nat → Nat) (D : va_G) (cy : Nat → ClassId) (tt : Nat → Nat) (sz : Nat) (h0 : Nat) (h0_buffer : Nat) (h0_slots : Nat) (h0_counters : Nat) (h0_officerPin : Nat) (h0_userPin : Nat) (h0_words : Nat) (h0_sha : Nat) (h0_stream : Nat) (h0_aes : Nat) (h0_modes : Nat) (h0_gcm : Nat) (h0_generator : Nat) (h0_tests : Nat) (h0_message : Nat) (h0_secret : Nat) (p1 : Int32) (c_counters : Nat → Int32) (c_state : Int32) (c_testsDone : Int32) (c_faults : Int32) (c_streamBegun : Int32) (hf : t_X9_counter p1 = some ()) : vx_Met l_ yX9_counter wsX9_counter ({ frames := 6, cells := 1, slots := 6, locals := 82 }) (fun a U => (zPc D cy tt sz [.ref h0, .int p1] ([(h0, .inr (11, [.ref h0_buffer, .ref h0_slots, .ref h0_counters, .ref h0_officerPin, .ref h0_userPin, .ref h0_words, .ref h0_sha, .ref h0_stream, .ref h0_aes, .ref h0_modes, .ref h0_gcm, .ref h0_generator, .ref h0_tests, .ref h0_message, .ref h0_secret, .int c_state, .int c_testsDone, .int c_faults, .int c_streamBegun])), (h0_counters, .inl (cy 1, 3, .inl c_counters))])) a U ∧ gX tx (va_A ([(h0, .inr (11, [.ref h0_buffer, .ref h0_slots, .ref h0_counters, .ref h0_officerPin, .ref h0_userPin, .ref h0_words, .ref h0_sha, .ref h0_stream, .ref h0_aes, .ref h0_modes, .ref h0_gcm, .ref h0_generator, .ref h0_tests, .ref h0_message, .ref h0_secret, .int c_state, .int c_testsDone, .int c_faults, .int c_streamBegun])), (h0_counters, .inl (cy 1, 3, .inl c_counters))]) sz) U) zNo (zXc "java/lang/IllegalArgumentException") 1 6 (va_A ([(h0, .inr (11, [.ref h0_buffer, .ref h0_slots, .ref h0_counters, .ref h0_officerPin, .ref h0_userPin, .ref h0_words, .ref h0_sha, .ref h0_stream, .ref h0_aes, .ref h0_modes, .ref h0_gcm, .ref h0_generator, .ref h0_tests, .ref h0_message, .ref h0_secret, .int c_state, .int c_testsDone, .int c_faults, .int c_streamBegun])), (h0_counters, .inl (cy 1, 3, .inl c_counters))]) sz) := by
  refine vx_ofW (cc := cX9_counter) (maxL := 2) (ret := (some .int)) (by decide) rfl ?_
  intro p e s m args below meth c s₁ B hml htab hv
  obtain ⟨⟨rfl, rfl, hP, hD0, hE⟩, hX⟩ := hv
  have hx := B.exec
  have hb := B.bytes
  have hr := B.returns
  have hts := atoms_spec (ws := wsX9_counter) B.pre
  have hown : s.vm.findClass RX9 = some m.cls := findClass_of_methodNamed B.named
  have hlocks := B.notSynchronized
  clear B
  have hD := hD0.self (sz := s.heap.size)
  generalize hAe : va_A ([(h0, .inr (11, [.ref h0_buffer, .ref h0_slots, .ref h0_counters, .ref h0_officerPin, .ref h0_userPin, .ref h0_words, .ref h0_sha, .ref h0_stream, .ref h0_aes, .ref h0_modes, .ref h0_gcm, .ref h0_generator, .ref h0_tests, .ref h0_message, .ref h0_secret, .int c_state, .int c_testsDone, .int c_faults, .int c_streamBegun])), (h0_counters, .inl (cy 1, 3, .inl c_counters))]) s.heap.size = A at hD hE hX
  have hA : ∀ q : Nat, s.heap.size ≤ q → A q := fun q h => by rw [← hAe]; exact Or.inr h
  clear hAe hD0
  have hS : va_S A s.heap s.heap [] := va_S.rf
  have hK := hE.1
  have hw0 := hts (.fieldLink RX9 19 "SealedModule" "counters" "[I") (by decide +kernel)
  have hcX9 : ∀ w ∈ u_ws RX9 TX9 19, w ∈ wsX9_counter := (fun _ h => List.mem_cons_of_mem _ (List.mem_append_left _ (List.mem_append_right _ h)))
  have hl := lv_entry ([.ref h0, .int p1]) (n := 2) (Nat.le_of_ble_eq_true rfl)
  rw [lg_entry_eq]
  generalize (lg_sl ([.ref h0, .int p1]) ++ List.replicate (2 - (lg_sl ([.ref h0, .int p1])).length) Slot.unset).toArray = ls at hl ⊢
  replace hl : lv_has ls 2 [(0, .ref h0), (1, .int p1)] := hl
  unfold t_X9_counter at hf
  refine zgo (fun GW hTo hFr => ?_)
  refine hFr _ _ _ ?_
  refine lv_iload_n (pc := 0) hx hb (zdt_at zt_X9_counter_0 0 rfl) rfl (lv_at hl 1 rfl) ?_
  refine lv_if_lt (pc := 1) (tgt := 13) hx hb (zdt_at zt_X9_counter_0 1 rfl) (by decide) (fun cn_ => ?t_1) (fun cn_ => ?f_2)
  case t_1 =>
    replace hf := zt_s cn_ hf
    clear cn_
    exact vx_throwSW (pc := 13) (ik := 136) (is := 391) (ic := 140) (sa := tx 5) (cls := "java/lang/IllegalArgumentException") (own := RX9) (names := ["java/lang/RuntimeException", "java/lang/Exception"]) hx hb hlt hown (by decide +kernel) (by decide +kernel) (hts (.classLink RX9 136 "java/lang/IllegalArgumentException") (by decide +kernel)) (hts (.initialized "java/lang/IllegalArgumentException") (by decide +kernel)) hX.2.2.2.2.2.2.2.2.1 (vx_hat (L := vx_atS RX9 140 "java/lang/IllegalArgumentException" ["java/lang/RuntimeException", "java/lang/Exception"]) (B := gXw) (fun w h => hts w (List.mem_cons_of_mem _ (List.mem_append_right _ h))) (fun w h => List.mem_append_left _ h) (fun w h => hX.2.2.1 _ w h)) (by decide +kernel) hX.1 hX.2.1 hS (by rw [hml]; exact hl.1) (zdt_at zt_X9_counter_0 7 rfl) (zdt_at zt_X9_counter_0 8 rfl) (zdt_at zt_X9_counter_0 9 rfl) (zdt_at zt_X9_counter_0 10 rfl) (zdt_at zt_X9_counter_0 11 rfl) (fun x hx9 => (htab x hx9).elim) (by decide) (by decide) (Nat.le_of_ble_eq_true rfl) (Nat.le_of_ble_eq_true rfl) hlocks (fun t _ h1 h2 => ⟨rfl, h1, h2⟩) (fun _ h => nomatch h) (Nat.le_of_ble_eq_true rfl) (Nat.le_of_ble_eq_true rfl)
  replace hf := ze_s cn_ hf
  clear cn_
  refine lv_iload_n (pc := 4) hx hb (zdt_at zt_X9_counter_0 2 rfl) rfl (lv_at hl 1 rfl) ?_
  refine lv_aload_n (pc := 5) hx hb (zdt_at zt_X9_counter_0 3 rfl) rfl (lv_at hl 0 rfl) ?_
  refine va_get (pc := 6) (D := D) (ci := 11) (v := .ref h0_counters) (C := RX9) (T := TX9) (N := 19) hx hb hts hcX9 hown hK hP 0 rfl rfl 2 (by decide) hw0 (fun _ h9 => h9) rfl (zdt_at zt_X9_counter_0 4 rfl) ?_
  refine va_alen (pc := 9) hx hb hK hP 1 1 rfl rfl (v := (3 : Int32)) rfl (zdt_at zt_X9_counter_0 5 rfl) ?_
  refine lv_icmp_lt (pc := 10) (tgt := 24) hx hb (zdt_at zt_X9_counter_0 6 rfl) (by decide) (fun cn_ => ?t_3) (fun cn_ => ?f_4)
  case f_4 =>
    replace hf := ze_s cn_ hf
    clear cn_
    exact vx_throwSW (pc := 13) (ik := 136) (is := 391) (ic := 140) (sa := tx 5) (cls := "java/lang/IllegalArgumentException") (own := RX9) (names := ["java/lang/RuntimeException", "java/lang/Exception"]) hx hb hlt hown (by decide +kernel) (by decide +kernel) (hts (.classLink RX9 136 "java/lang/IllegalArgumentException") (by decide +kernel)) (hts (.initialized "java/lang/IllegalArgumentException") (by decide +kernel)) hX.2.2.2.2.2.2.2.2.1 (vx_hat (L := vx_atS RX9 140 "java/lang/IllegalArgumentException" ["java/lang/RuntimeException", "java/lang/Exception"]) (B := gXw) (fun w h => hts w (List.mem_cons_of_mem _ (List.mem_append_right _ h))) (fun w h => List.mem_append_left _ h) (fun w h => hX.2.2.1 _ w h)) (by decide +kernel) hX.1 hX.2.1 hS (by rw [hml]; exact hl.1) (zdt_at zt_X9_counter_0 7 rfl) (zdt_at zt_X9_counter_0 8 rfl) (zdt_at zt_X9_counter_0 9 rfl) (zdt_at zt_X9_counter_0 10 rfl) (zdt_at zt_X9_counter_0 11 rfl) (fun x hx9 => (htab x hx9).elim) (by decide) (by decide) (Nat.le_of_ble_eq_true rfl) (Nat.le_of_ble_eq_true rfl) hlocks (fun t _ h1 h2 => ⟨rfl, h1, h2⟩) (fun _ h => nomatch h) (Nat.le_of_ble_eq_true rfl) (Nat.le_of_ble_eq_true rfl)
  replace hf := zt_s cn_ hf
  clear cn_
  exact absurd hf (by simp)
noncomputable def t_X9_entropy (c_state : Int32) : Option Unit :=
  if c_state = 0 then some () else none
set_option maxHeartbeats 4000000 in
set_option maxRecDepth 100000 in
theorem t_c_X9_entropy (l_ : Launch) (hlt : l_.stackTraces = false) (tx : Nat → Nat) (D : va_G) (cy : Nat → ClassId) (tt : Nat → Nat) (sz : Nat) (h0 : Nat) (h0_buffer : Nat) (h0_slots : Nat) (h0_counters : Nat) (h0_officerPin : Nat) (h0_userPin : Nat) (h0_words : Nat) (h0_sha : Nat) (h0_stream : Nat) (h0_aes : Nat) (h0_modes : Nat) (h0_gcm : Nat) (h0_generator : Nat) (h0_tests : Nat) (h0_message : Nat) (h0_secret : Nat) (h0_words_kept : Nat) (p1 : Int32) (c_state : Int32) (c_words_count : Int32) (c_words_first : Int32) (c_words_healthy : Int32) (c_words_last : Int32) (c_words_placeInWindow : Int32) (c_words_row : Int32) (c_words_timesInWindow : Int32) (c_words_kept : Nat → Int32) (c_testsDone : Int32) (c_faults : Int32) (c_streamBegun : Int32) (hf : t_X9_entropy c_state = some ()) : vx_Met l_ yX9_entropy wsX9_entropy ({ frames := 6, cells := 1, slots := 6, locals := 82 }) (fun a U => (zPc D cy tt sz [.ref h0, .int p1] ([(h0, .inr (11, [.ref h0_buffer, .ref h0_slots, .ref h0_counters, .ref h0_officerPin, .ref h0_userPin, .ref h0_words, .ref h0_sha, .ref h0_stream, .ref h0_aes, .ref h0_modes, .ref h0_gcm, .ref h0_generator, .ref h0_tests, .ref h0_message, .ref h0_secret, .int c_state, .int c_testsDone, .int c_faults, .int c_streamBegun])), (h0_words, .inr (3, [.ref h0_words_kept, .int c_words_count, .int c_words_healthy, .int c_words_last, .int c_words_row, .int c_words_first, .int c_words_placeInWindow, .int c_words_timesInWindow])), (h0_words_kept, .inl (cy 1, 64, .inl c_words_kept))])) a U ∧ gX tx (va_A ([(h0, .inr (11, [.ref h0_buffer, .ref h0_slots, .ref h0_counters, .ref h0_officerPin, .ref h0_userPin, .ref h0_words, .ref h0_sha, .ref h0_stream, .ref h0_aes, .ref h0_modes, .ref h0_gcm, .ref h0_generator, .ref h0_tests, .ref h0_message, .ref h0_secret, .int c_state, .int c_testsDone, .int c_faults, .int c_streamBegun])), (h0_words, .inr (3, [.ref h0_words_kept, .int c_words_count, .int c_words_healthy, .int c_words_last, .int c_words_row, .int c_words_first, .int c_words_placeInWindow, .int c_words_timesInWindow])), (h0_words_kept, .inl (cy 1, 64, .inl c_words_kept))]) sz) U) zNo (zXc "java/lang/IllegalStateException") 1 6 (va_A ([(h0, .inr (11, [.ref h0_buffer, .ref h0_slots, .ref h0_counters, .ref h0_officerPin, .ref h0_userPin, .ref h0_words, .ref h0_sha, .ref h0_stream, .ref h0_aes, .ref h0_modes, .ref h0_gcm, .ref h0_generator, .ref h0_tests, .ref h0_message, .ref h0_secret, .int c_state, .int c_testsDone, .int c_faults, .int c_streamBegun])), (h0_words, .inr (3, [.ref h0_words_kept, .int c_words_count, .int c_words_healthy, .int c_words_last, .int c_words_row, .int c_words_first, .int c_words_placeInWindow, .int c_words_timesInWindow])), (h0_words_kept, .inl (cy 1, 64, .inl c_words_kept))]) sz) := by
  refine vx_ofW (cc := cX9_entropy) (maxL := 2) (ret := (some .int)) (by decide) rfl ?_
  intro p e s m args below meth c s₁ B hml htab hv
  obtain ⟨⟨rfl, rfl, hP, hD0, hE⟩, hX⟩ := hv
  have hx := B.exec
  have hb := B.bytes
  have hr := B.returns
  have hts := atoms_spec (ws := wsX9_entropy) B.pre
  have hown : s.vm.findClass RX9 = some m.cls := findClass_of_methodNamed B.named
  have hlocks := B.notSynchronized
  clear B
  have hD := hD0.self (sz := s.heap.size)
  generalize hAe : va_A ([(h0, .inr (11, [.ref h0_buffer, .ref h0_slots, .ref h0_counters, .ref h0_officerPin, .ref h0_userPin, .ref h0_words, .ref h0_sha, .ref h0_stream, .ref h0_aes, .ref h0_modes, .ref h0_gcm, .ref h0_generator, .ref h0_tests, .ref h0_message, .ref h0_secret, .int c_state, .int c_testsDone, .int c_faults, .int c_streamBegun])), (h0_words, .inr (3, [.ref h0_words_kept, .int c_words_count, .int c_words_healthy, .int c_words_last, .int c_words_row, .int c_words_first, .int c_words_placeInWindow, .int c_words_timesInWindow])), (h0_words_kept, .inl (cy 1, 64, .inl c_words_kept))]) s.heap.size = A at hD hE hX ⊢
  have hA : ∀ q : Nat, s.heap.size ≤ q → A q := fun q h => by rw [← hAe]; exact Or.inr h
  clear hAe hD0
  have hS : va_S A s.heap s.heap [] := va_S.rf
  have hK := hE.1
  have hw0 := hts (.fieldLink RX9 101 "SealedModule" "state" "I") (by decide +kernel)
  have hw1 := hts (.fieldLink RX9 38 "SealedModule" "words" "LSealedModule$Entropy;") (by decide +kernel)
  have hcX9 : ∀ w ∈ u_ws RX9 TX9 19, w ∈ wsX9_entropy := (fun _ h => List.mem_cons_of_mem _ (List.mem_append_left _ (List.mem_append_left _ (List.mem_append_right _ h))))
  have hl := lv_entry ([.ref h0, .int p1]) (n := 2) (Nat.le_of_ble_eq_true rfl)
  rw [lg_entry_eq]
  generalize (lg_sl ([.ref h0, .int p1]) ++ List.replicate (2 - (lg_sl ([.ref h0, .int p1])).length) Slot.unset).toArray = ls at hl ⊢
  replace hl : lv_has ls 2 [(0, .ref h0), (1, .int p1)] := hl
  unfold t_X9_entropy at hf
  refine zgo (fun GW hTo hFr => ?_)
  refine hFr _ _ _ ?_
  obtain ⟨H, hHe⟩ : ∃ H, H = s.heap := ⟨_, rfl⟩
  obtain ⟨locs, hLe⟩ : ∃ L : List Loc, L = [] := ⟨_, rfl⟩
  rw [← hHe] at hP
  replace hS : va_S A s.heap H locs := by rw [hHe, hLe]; exact hS
  refine zat hHe.symm hLe.symm ?_
  refine lv_aload_n (pc := 0) hx hb (zdt_at zt_X9_entropy_0 0 rfl) rfl (lv_at hl 0 rfl) ?_
  refine va_get (pc := 1) (D := D) (ci := 11) (v := .int c_state) (C := RX9) (T := TX9) (N := 19) hx hb hts hcX9 hown hK hP 0 rfl rfl 15 (by decide) hw0 (fun _ h9 => h9) rfl (zdt_at zt_X9_entropy_0 1 rfl) ?_
  refine lv_if_ne (pc := 4) (tgt := 17) hx hb (zdt_at zt_X9_entropy_0 2 rfl) (by decide) (fun cn_ => ?t_1) (fun cn_ => ?f_2)
  case f_2 =>
    replace hf := zt_s cn_ hf
    clear cn_
    exact vx_throwS (pc := 7) (ik := 143) (is := 145) (ic := 147) (sa := tx 1) (cls := "java/lang/IllegalStateException") (own := RX9) (names := ["java/lang/RuntimeException", "java/lang/Exception"]) hx hb hlt hown (by decide +kernel) (by decide +kernel) (hts (.classLink RX9 143 "java/lang/IllegalStateException") (by decide +kernel)) (hts (.initialized "java/lang/IllegalStateException") (by decide +kernel)) hX.2.2.2.2.1 (vx_hat (L := vx_atS RX9 147 "java/lang/IllegalStateException" ["java/lang/RuntimeException", "java/lang/Exception"]) (B := gXw) (fun w h => hts w (List.mem_cons_of_mem _ (List.mem_append_right _ h))) (fun w h => List.mem_append_right _ h) (fun w h => hX.2.2.1 _ w h)) (by decide +kernel) hX.1 hX.2.1 hS (by rw [hml]; exact hl.1) (zdt_at zt_X9_entropy_0 3 rfl) (zdt_at zt_X9_entropy_0 4 rfl) (zdt_at zt_X9_entropy_0 5 rfl) (zdt_at zt_X9_entropy_0 6 rfl) (zdt_at zt_X9_entropy_0 7 rfl) (fun x hx9 => (htab x hx9).elim) (by decide) (by decide) (Nat.le_of_ble_eq_true rfl) (Nat.le_of_ble_eq_true rfl) hlocks (fun t _ h1 h2 => ⟨rfl, by rw [← hHe]; exact h1, by rw [← hHe]; exact h2⟩) (by rw [hLe]; exact fun _ h => nomatch h) (Nat.le_of_ble_eq_true rfl) (Nat.le_of_ble_eq_true rfl)
  replace hf := ze_s cn_ hf
  clear cn_
  exact absurd hf (by simp)
