set_option maxHeartbeats 4000000 in
set_option maxRecDepth 100000 in
theorem c_X9_endLogin (l : Launch) (D : va_G) (cy : Nat → ClassId) (tt : Nat → Nat) (sz : Nat) (h0 : Nat) (h0_buffer : Nat) (h0_slots : Nat) (h0_counters : Nat) (h0_officerPin : Nat) (h0_userPin : Nat) (h0_words : Nat) (h0_sha : Nat) (h0_stream : Nat) (h0_aes : Nat) (h0_modes : Nat) (h0_gcm : Nat) (h0_generator : Nat) (h0_tests : Nat) (h0_message : Nat) (h0_secret : Nat) (c_state : Int32) (c_streamBegun : Int32) (c_testsDone : Int32) (c_faults : Int32) (c_state' : Int32) (c_streamBegun' : Int32) (hf : f_X9_endLogin c_state c_streamBegun = some (c_state', c_streamBegun')) : Met l yX9_endLogin wsX9_endLogin ({ frames := 0, cells := 0, slots := 0, locals := 0 }) (zPc D cy tt sz [.ref h0] ([(h0, .inr (11, [.ref h0_buffer, .ref h0_slots, .ref h0_counters, .ref h0_officerPin, .ref h0_userPin, .ref h0_words, .ref h0_sha, .ref h0_stream, .ref h0_aes, .ref h0_modes, .ref h0_gcm, .ref h0_generator, .ref h0_tests, .ref h0_message, .ref h0_secret, .int c_state, .int c_testsDone, .int c_faults, .int c_streamBegun]))])) (zQ D none ([(h0, .inr (11, [.ref h0_buffer, .ref h0_slots, .ref h0_counters, .ref h0_officerPin, .ref h0_userPin, .ref h0_words, .ref h0_sha, .ref h0_stream, .ref h0_aes, .ref h0_modes, .ref h0_gcm, .ref h0_generator, .ref h0_tests, .ref h0_message, .ref h0_secret, .int c_state', .int c_testsDone, .int c_faults, .int c_streamBegun']))]) (va_A ([(h0, .inr (11, [.ref h0_buffer, .ref h0_slots, .ref h0_counters, .ref h0_officerPin, .ref h0_userPin, .ref h0_words, .ref h0_sha, .ref h0_stream, .ref h0_aes, .ref h0_modes, .ref h0_gcm, .ref h0_generator, .ref h0_tests, .ref h0_message, .ref h0_secret, .int c_state, .int c_testsDone, .int c_faults, .int c_streamBegun]))]) sz)) 0 0 (va_A ([(h0, .inr (11, [.ref h0_buffer, .ref h0_slots, .ref h0_counters, .ref h0_officerPin, .ref h0_userPin, .ref h0_words, .ref h0_sha, .ref h0_stream, .ref h0_aes, .ref h0_modes, .ref h0_gcm, .ref h0_generator, .ref h0_tests, .ref h0_message, .ref h0_secret, .int c_state, .int c_testsDone, .int c_faults, .int c_streamBegun]))]) sz) := by
  refine Met.ofW (cc := cX9_endLogin) (maxL := 1) (ret := none) (by decide) rfl ?_
  intro p e s m args below meth c s₁ B hml hv
  obtain ⟨rfl, rfl, hP, hD0, hE⟩ := hv
  have hx := B.exec
  have hb := B.bytes
  have hr := B.returns
  have hts := atoms_spec (ws := wsX9_endLogin) B.pre
  have hown : s.vm.findClass RX9 = some m.cls := findClass_of_methodNamed B.named
  have hlocks := B.notSynchronized
  clear B
  have hD := hD0.self (sz := s.heap.size)
  generalize hAe : va_A ([(h0, .inr (11, [.ref h0_buffer, .ref h0_slots, .ref h0_counters, .ref h0_officerPin, .ref h0_userPin, .ref h0_words, .ref h0_sha, .ref h0_stream, .ref h0_aes, .ref h0_modes, .ref h0_gcm, .ref h0_generator, .ref h0_tests, .ref h0_message, .ref h0_secret, .int c_state, .int c_testsDone, .int c_faults, .int c_streamBegun]))]) s.heap.size = A at hD hE ⊢
  have hA : ∀ q : Nat, s.heap.size ≤ q → A q := fun q h => by rw [← hAe]; exact Or.inr h
  clear hAe hD0
  have hS : va_S A s.heap s.heap [] := va_S.rf
  have hK := hE.1
  have hw0 := hts (.fieldLink RX9 101 "SealedModule" "state" "I") (by decide +kernel)
  have hw1 := hts (.fieldLink RX9 111 "SealedModule" "streamBegun" "Z") (by decide +kernel)
  have hcX9 : ∀ w ∈ u_ws RX9 TX9 19, w ∈ wsX9_endLogin := (fun _ h => List.mem_cons_of_mem _ (List.mem_append_right _ h))
  have hl := lv_entry ([.ref h0]) (n := 1) (Nat.le_of_ble_eq_true rfl)
  rw [lg_entry_eq]
  generalize (lg_sl ([.ref h0]) ++ List.replicate (1 - (lg_sl ([.ref h0])).length) Slot.unset).toArray = ls at hl ⊢
  replace hl : lv_has ls 1 [(0, .ref h0)] := hl
  unfold f_X9_endLogin at hf
  refine zgo (fun GW hTo hFr => ?_)
  refine hFr _ _ _ ?_
  obtain ⟨H, hHe⟩ : ∃ H, H = s.heap := ⟨_, rfl⟩
  obtain ⟨locs, hLe⟩ : ∃ L : List Loc, L = [] := ⟨_, rfl⟩
  rw [← hHe] at hP
  replace hS : va_S A s.heap H locs := by rw [hHe, hLe]; exact hS
  refine zat hHe.symm hLe.symm ?_
  clear hHe hLe
  refine lv_aload_n (pc := 0) hx hb (zdt_at zt_X9_endLogin_0 0 rfl) rfl (lv_at hl 0 rfl) ?_
  refine lv_iconst (pc := 1) (v := (2 : Int32)) hx hb (zdt_at zt_X9_endLogin_0 1 rfl) (by decide) ?_
  refine va_put (pc := 2) (D := D) (ci := 11) (v := .int (2 : Int32)) (ty := .int) (C := RX9) (T := TX9) (N := 19) hx hb hts hcX9 tyX9 tyX9_ok nmX9 hown hK hP hD hS 0 rfl rfl 15 (by decide) hw0 (fun _ h9 => h9) rfl (by decide +kernel) rfl rfl (Nat.le_of_ble_eq_true rfl) (zdt_at zt_X9_endLogin_0 2 rfl) ?_
  clear hP hD hS
  intro H locs hP hD hS
  replace hP : va_P D vwCl ([(h0, .inr (11, [.ref h0_buffer, .ref h0_slots, .ref h0_counters, .ref h0_officerPin, .ref h0_userPin, .ref h0_words, .ref h0_sha, .ref h0_stream, .ref h0_aes, .ref h0_modes, .ref h0_gcm, .ref h0_generator, .ref h0_tests, .ref h0_message, .ref h0_secret, .int (2 : Int32), .int c_testsDone, .int c_faults, .int c_streamBegun]))]) H := hP
  replace hD : va_D A ([(h0, .inr (11, [.ref h0_buffer, .ref h0_slots, .ref h0_counters, .ref h0_officerPin, .ref h0_userPin, .ref h0_words, .ref h0_sha, .ref h0_stream, .ref h0_aes, .ref h0_modes, .ref h0_gcm, .ref h0_generator, .ref h0_tests, .ref h0_message, .ref h0_secret, .int (2 : Int32), .int c_testsDone, .int c_faults, .int c_streamBegun]))]) := hD
  refine lv_aload_n (pc := 5) hx hb (zdt_at zt_X9_endLogin_0 3 rfl) rfl (lv_at hl 0 rfl) ?_
  refine lv_iconst (pc := 6) (v := (0 : Int32)) hx hb (zdt_at zt_X9_endLogin_0 4 rfl) (by decide) ?_
  refine va_put (pc := 7) (D := D) (ci := 11) (v := .int (0 : Int32)) (ty := .boolean) (C := RX9) (T := TX9) (N := 19) hx hb hts hcX9 tyX9 tyX9_ok nmX9 hown hK hP hD hS 0 rfl rfl 18 (by decide) hw1 (fun _ h9 => h9) rfl (by decide +kernel) (by first | rfl | decide) (by first | rfl | decide) (Nat.le_of_ble_eq_true rfl) (zdt_at zt_X9_endLogin_0 5 rfl) ?_
  clear hP hD hS
  intro H locs hP hD hS
  replace hP : va_P D vwCl ([(h0, .inr (11, [.ref h0_buffer, .ref h0_slots, .ref h0_counters, .ref h0_officerPin, .ref h0_userPin, .ref h0_words, .ref h0_sha, .ref h0_stream, .ref h0_aes, .ref h0_modes, .ref h0_gcm, .ref h0_generator, .ref h0_tests, .ref h0_message, .ref h0_secret, .int (2 : Int32), .int c_testsDone, .int c_faults, .int (0 : Int32)]))]) H := hP
  replace hD : va_D A ([(h0, .inr (11, [.ref h0_buffer, .ref h0_slots, .ref h0_counters, .ref h0_officerPin, .ref h0_userPin, .ref h0_words, .ref h0_sha, .ref h0_stream, .ref h0_aes, .ref h0_modes, .ref h0_gcm, .ref h0_generator, .ref h0_tests, .ref h0_message, .ref h0_secret, .int (2 : Int32), .int c_testsDone, .int c_faults, .int (0 : Int32)]))]) := hD
  cases hf
  exact W.vret (pc := 10) hx hb hr (fun t ht hW => ⟨rfl, ⟨by rw [ht]; exact hP, hD⟩, hS.F ht⟩) hS.2.2 (zdt_at zt_X9_endLogin_0 6 rfl)
set_option maxHeartbeats 4000000 in
set_option maxRecDepth 100000 in
theorem c_X9_logout (l : Launch) (D : va_G) (cy : Nat → ClassId) (tt : Nat → Nat) (sz : Nat) (h0 : Nat) (h0_buffer : Nat) (h0_slots : Nat) (h0_counters : Nat) (h0_officerPin : Nat) (h0_userPin : Nat) (h0_words : Nat) (h0_sha : Nat) (h0_stream : Nat) (h0_aes : Nat) (h0_modes : Nat) (h0_gcm : Nat) (h0_generator : Nat) (h0_tests : Nat) (h0_message : Nat) (h0_secret : Nat) (c_state : Int32) (c_streamBegun : Int32) (c_testsDone : Int32) (c_faults : Int32) (c_state' : Int32) (c_streamBegun' : Int32) (hf : f_X9_logout c_state c_streamBegun = some (c_state', c_streamBegun')) : Met l yX9_logout wsX9_logout ({ frames := 1, cells := 0, slots := 0, locals := 20 }) (zPc D cy tt sz [.ref h0] ([(h0, .inr (11, [.ref h0_buffer, .ref h0_slots, .ref h0_counters, .ref h0_officerPin, .ref h0_userPin, .ref h0_words, .ref h0_sha, .ref h0_stream, .ref h0_aes, .ref h0_modes, .ref h0_gcm, .ref h0_generator, .ref h0_tests, .ref h0_message, .ref h0_secret, .int c_state, .int c_testsDone, .int c_faults, .int c_streamBegun]))])) (zQ D none ([(h0, .inr (11, [.ref h0_buffer, .ref h0_slots, .ref h0_counters, .ref h0_officerPin, .ref h0_userPin, .ref h0_words, .ref h0_sha, .ref h0_stream, .ref h0_aes, .ref h0_modes, .ref h0_gcm, .ref h0_generator, .ref h0_tests, .ref h0_message, .ref h0_secret, .int c_state', .int c_testsDone, .int c_faults, .int c_streamBegun']))]) (va_A ([(h0, .inr (11, [.ref h0_buffer, .ref h0_slots, .ref h0_counters, .ref h0_officerPin, .ref h0_userPin, .ref h0_words, .ref h0_sha, .ref h0_stream, .ref h0_aes, .ref h0_modes, .ref h0_gcm, .ref h0_generator, .ref h0_tests, .ref h0_message, .ref h0_secret, .int c_state, .int c_testsDone, .int c_faults, .int c_streamBegun]))]) sz)) 0 0 (va_A ([(h0, .inr (11, [.ref h0_buffer, .ref h0_slots, .ref h0_counters, .ref h0_officerPin, .ref h0_userPin, .ref h0_words, .ref h0_sha, .ref h0_stream, .ref h0_aes, .ref h0_modes, .ref h0_gcm, .ref h0_generator, .ref h0_tests, .ref h0_message, .ref h0_secret, .int c_state, .int c_testsDone, .int c_faults, .int c_streamBegun]))]) sz) := by
  refine Met.ofW (cc := cX9_logout) (maxL := 1) (ret := none) (by decide) rfl ?_
  intro p e s m args below meth c s₁ B hml hv
  obtain ⟨rfl, rfl, hP, hD0, hE⟩ := hv
  have hx := B.exec
  have hb := B.bytes
  have hr := B.returns
  have hts := atoms_spec (ws := wsX9_logout) B.pre
  have hown : s.vm.findClass RX9 = some m.cls := findClass_of_methodNamed B.named
  have hlocks := B.notSynchronized
  clear B
  have hD := hD0.self (sz := s.heap.size)
  generalize hAe : va_A ([(h0, .inr (11, [.ref h0_buffer, .ref h0_slots, .ref h0_counters, .ref h0_officerPin, .ref h0_userPin, .ref h0_words, .ref h0_sha, .ref h0_stream, .ref h0_aes, .ref h0_modes, .ref h0_gcm, .ref h0_generator, .ref h0_tests, .ref h0_message, .ref h0_secret, .int c_state, .int c_testsDone, .int c_faults, .int c_streamBegun]))]) s.heap.size = A at hD hE ⊢
  have hA : ∀ q : Nat, s.heap.size ≤ q → A q := fun q h => by rw [← hAe]; exact Or.inr h
  clear hAe hD0
  have hS : va_S A s.heap s.heap [] := va_S.rf
  have hK := hE.1
  have hl := lv_entry ([.ref h0]) (n := 1) (Nat.le_of_ble_eq_true rfl)
  rw [lg_entry_eq]
  generalize (lg_sl ([.ref h0]) ++ List.replicate (1 - (lg_sl ([.ref h0])).length) Slot.unset).toArray = ls at hl ⊢
  replace hl : lv_has ls 1 [(0, .ref h0)] := hl
  unfold f_X9_logout at hf
  refine zgo (fun GW hTo hFr => ?_)
  refine hFr _ _ _ ?_
  obtain ⟨H, hHe⟩ : ∃ H, H = s.heap := ⟨_, rfl⟩
  obtain ⟨locs, hLe⟩ : ∃ L : List Loc, L = [] := ⟨_, rfl⟩
  rw [← hHe] at hP
  replace hS : va_S A s.heap H locs := by rw [hHe, hLe]; exact hS
  refine zat hHe.symm hLe.symm ?_
  clear hHe hLe
  refine lv_aload_n (pc := 0) hx hb (zdt_at zt_X9_logout_0 0 rfl) rfl (lv_at hl 0 rfl) ?_
  replace hf := zb_s hf
  obtain ⟨r_1, hc_, hf⟩ := hf
  refine zcs (pc := 1) (rv := (some (.int r_1))) (va_runV (As := []) (rest := []) ⟨hx, hb, hml, hown, hts⟩ (c_X9_loggedIn l D cy tt H.size h0 h0_buffer h0_slots h0_counters h0_officerPin h0_userPin h0_words h0_sha h0_stream h0_aes h0_modes h0_gcm h0_generator h0_tests h0_message h0_secret c_state c_testsDone c_faults c_streamBegun r_1 hc_) (cwV 0 hts gX9_logout_X9_loggedIn rfl rfl rfl (by decide +kernel) ⟨Nat.le_of_ble_eq_true rfl, Nat.le_of_ble_eq_true rfl⟩) ⟨zblind, va_recv hK hP (ci := 11) (q0 := 0) rfl rfl, zpre hE hS (hP.sub [0] rfl) (hD.sub [0] (by decide) rfl) (va_free hD hS hA [0] rfl)⟩ rfl rfl hl.1 rfl (lv_room (Nat.le_of_ble_eq_true rfl)) (zdt_at zt_X9_logout_0 1 rfl) ⟨Nat.zero_le _, Nat.zero_le _⟩) ?_
  clear hc_
  refine W.eq (g2 := F0 m 4 ls [.int r_1]) rfl ?_
  refine lv_if_ne (pc := 4) (tgt := 17) hx hb (zdt_at zt_X9_logout_0 2 rfl) (by decide) (fun cn_ => ?t_2) (fun cn_ => ?f_3)
  case f_3 =>
    replace hf := zt_s cn_ hf
    clear cn_
    exact absurd hf (by simp)
  replace hf := ze_s cn_ hf
  clear cn_
  refine lv_aload_n (pc := 17) hx hb (zdt_at zt_X9_logout_0 8 rfl) rfl (lv_at hl 0 rfl) ?_
  replace hf := zb_s hf
  obtain ⟨⟨c_state_4, c_streamBegun_5⟩, hc_, hf⟩ := hf
  refine zcn2 (pc := 18) (rv := none) (va_runV (As := []) (rest := []) ⟨hx, hb, hml, hown, hts⟩ (c_X9_endLogin l D cy tt H.size h0 h0_buffer h0_slots h0_counters h0_officerPin h0_userPin h0_words h0_sha h0_stream h0_aes h0_modes h0_gcm h0_generator h0_tests h0_message h0_secret c_state c_streamBegun c_testsDone c_faults c_state_4 c_streamBegun_5 hc_) (cwV 0 hts gX9_logout_X9_endLogin rfl rfl rfl (by decide +kernel) ⟨Nat.le_of_ble_eq_true rfl, Nat.le_of_ble_eq_true rfl⟩) ⟨zblind, va_recv hK hP (ci := 11) (q0 := 0) rfl rfl, zpre hE hS (hP.sub [0] rfl) (hD.sub [0] (by decide) rfl) (va_free hD hS hA [0] rfl)⟩ rfl rfl hl.1 rfl (lv_room (Nat.le_of_ble_eq_true rfl)) (zdt_at zt_X9_logout_0 9 rfl) ⟨Nat.zero_le _, Nat.zero_le _⟩) hS hP hD (va_free hD hS hA [0] rfl) [0] rfl (by decide) rfl ?_
  clear hP hD hS hc_
  intro H locs hP hD hS
  replace hP : va_P D vwCl ([(h0, .inr (11, [.ref h0_buffer, .ref h0_slots, .ref h0_counters, .ref h0_officerPin, .ref h0_userPin, .ref h0_words, .ref h0_sha, .ref h0_stream, .ref h0_aes, .ref h0_modes, .ref h0_gcm, .ref h0_generator, .ref h0_tests, .ref h0_message, .ref h0_secret, .int c_state_4, .int c_testsDone, .int c_faults, .int c_streamBegun_5]))]) H := hP
  replace hD : va_D A ([(h0, .inr (11, [.ref h0_buffer, .ref h0_slots, .ref h0_counters, .ref h0_officerPin, .ref h0_userPin, .ref h0_words, .ref h0_sha, .ref h0_stream, .ref h0_aes, .ref h0_modes, .ref h0_gcm, .ref h0_generator, .ref h0_tests, .ref h0_message, .ref h0_secret, .int c_state_4, .int c_testsDone, .int c_faults, .int c_streamBegun_5]))]) := hD
  refine W.eq (g2 := F0 m 21 ls []) rfl ?_
  cases hf
  exact W.vret (pc := 21) hx hb hr (fun t ht hW => ⟨rfl, ⟨by rw [ht]; exact hP, hD⟩, hS.F ht⟩) hS.2.2 (zdt_at zt_X9_logout_0 10 rfl)
set_option maxHeartbeats 4000000 in
set_option maxRecDepth 100000 in
theorem c_X9_setPinAnswer (l : Launch) (D : va_G) (cy : Nat → ClassId) (tt : Nat → Nat) (sz : Nat) (h0 : Nat) (h0_buffer : Nat) (h0_slots : Nat) (h0_counters : Nat) (h0_officerPin : Nat) (h0_userPin : Nat) (h0_words : Nat) (h0_sha : Nat) (h0_stream : Nat) (h0_aes : Nat) (h0_modes : Nat) (h0_gcm : Nat) (h0_generator : Nat) (h0_tests : Nat) (h0_message : Nat) (h0_secret : Nat) (p1 : Int32) (p2 : Int32) (c_state : Int32) (c_officerPin_number : Int32) (c_officerPin_tries : Int32) (c_userPin_number : Int32) (c_userPin_tries : Int32) (c_testsDone : Int32) (c_faults : Int32) (c_streamBegun : Int32) (r_ : Int32) (c_officerPin_number' : Int32) (c_officerPin_tries' : Int32) (c_userPin_number' : Int32) (c_userPin_tries' : Int32) (hf : f_X9_setPinAnswer p1 p2 c_state c_officerPin_number c_officerPin_tries c_userPin_number c_userPin_tries = some (r_, c_officerPin_number', c_officerPin_tries', c_userPin_number', c_userPin_tries')) : Met l yX9_setPinAnswer wsX9_setPinAnswer ({ frames := 1, cells := 0, slots := 0, locals := 21 }) (zPc D cy tt sz [.ref h0, .int p1, .int p2] ([(h0, .inr (11, [.ref h0_buffer, .ref h0_slots, .ref h0_counters, .ref h0_officerPin, .ref h0_userPin, .ref h0_words, .ref h0_sha, .ref h0_stream, .ref h0_aes, .ref h0_modes, .ref h0_gcm, .ref h0_generator, .ref h0_tests, .ref h0_message, .ref h0_secret, .int c_state, .int c_testsDone, .int c_faults, .int c_streamBegun])), (h0_officerPin, .inr (7, [.int c_officerPin_number, .int c_officerPin_tries])), (h0_userPin, .inr (7, [.int c_userPin_number, .int c_userPin_tries]))])) (zQ D (some (.int r_)) ([(h0, .inr (11, [.ref h0_buffer, .ref h0_slots, .ref h0_counters, .ref h0_officerPin, .ref h0_userPin, .ref h0_words, .ref h0_sha, .ref h0_stream, .ref h0_aes, .ref h0_modes, .ref h0_gcm, .ref h0_generator, .ref h0_tests, .ref h0_message, .ref h0_secret, .int c_state, .int c_testsDone, .int c_faults, .int c_streamBegun])), (h0_officerPin, .inr (7, [.int c_officerPin_number', .int c_officerPin_tries'])), (h0_userPin, .inr (7, [.int c_userPin_number', .int c_userPin_tries']))]) (va_A ([(h0, .inr (11, [.ref h0_buffer, .ref h0_slots, .ref h0_counters, .ref h0_officerPin, .ref h0_userPin, .ref h0_words, .ref h0_sha, .ref h0_stream, .ref h0_aes, .ref h0_modes, .ref h0_gcm, .ref h0_generator, .ref h0_tests, .ref h0_message, .ref h0_secret, .int c_state, .int c_testsDone, .int c_faults, .int c_streamBegun])), (h0_officerPin, .inr (7, [.int c_officerPin_number, .int c_officerPin_tries])), (h0_userPin, .inr (7, [.int c_userPin_number, .int c_userPin_tries]))]) sz)) 0 0 (va_A ([(h0, .inr (11, [.ref h0_buffer, .ref h0_slots, .ref h0_counters, .ref h0_officerPin, .ref h0_userPin, .ref h0_words, .ref h0_sha, .ref h0_stream, .ref h0_aes, .ref h0_modes, .ref h0_gcm, .ref h0_generator, .ref h0_tests, .ref h0_message, .ref h0_secret, .int c_state, .int c_testsDone, .int c_faults, .int c_streamBegun])), (h0_officerPin, .inr (7, [.int c_officerPin_number, .int c_officerPin_tries])), (h0_userPin, .inr (7, [.int c_userPin_number, .int c_userPin_tries]))]) sz) := by
  refine Met.ofW (cc := cX9_setPinAnswer) (maxL := 3) (ret := (some .int)) (by decide) rfl ?_
  intro p e s m args below meth c s₁ B hml hv
  obtain ⟨rfl, rfl, hP, hD0, hE⟩ := hv
  have hx := B.exec
  have hb := B.bytes
  have hr := B.returns
  have hts := atoms_spec (ws := wsX9_setPinAnswer) B.pre
  have hown : s.vm.findClass RX9 = some m.cls := findClass_of_methodNamed B.named
  have hlocks := B.notSynchronized
  clear B
  have hD := hD0.self (sz := s.heap.size)
  generalize hAe : va_A ([(h0, .inr (11, [.ref h0_buffer, .ref h0_slots, .ref h0_counters, .ref h0_officerPin, .ref h0_userPin, .ref h0_words, .ref h0_sha, .ref h0_stream, .ref h0_aes, .ref h0_modes, .ref h0_gcm, .ref h0_generator, .ref h0_tests, .ref h0_message, .ref h0_secret, .int c_state, .int c_testsDone, .int c_faults, .int c_streamBegun])), (h0_officerPin, .inr (7, [.int c_officerPin_number, .int c_officerPin_tries])), (h0_userPin, .inr (7, [.int c_userPin_number, .int c_userPin_tries]))]) s.heap.size = A at hD hE ⊢
  have hA : ∀ q : Nat, s.heap.size ≤ q → A q := fun q h => by rw [← hAe]; exact Or.inr h
  clear hAe hD0
  have hS : va_S A s.heap s.heap [] := va_S.rf
  have hK := hE.1
  have hw0 := hts (.constant RX9 189 (999999)) (by decide +kernel)
  have hw1 := hts (.fieldLink RX9 101 "SealedModule" "state" "I") (by decide +kernel)
  have hcX9 : ∀ w ∈ u_ws RX9 TX9 19, w ∈ wsX9_setPinAnswer := (fun _ h => List.mem_cons_of_mem _ (List.mem_append_left _ (List.mem_append_right _ h)))
  have hl := lv_entry ([.ref h0, .int p1, .int p2]) (n := 3) (Nat.le_of_ble_eq_true rfl)
  rw [lg_entry_eq]
  generalize (lg_sl ([.ref h0, .int p1, .int p2]) ++ List.replicate (3 - (lg_sl ([.ref h0, .int p1, .int p2])).length) Slot.unset).toArray = ls at hl ⊢
  replace hl : lv_has ls 3 [(0, .ref h0), (1, .int p1), (2, .int p2)] := hl
  unfold f_X9_setPinAnswer at hf
  refine zgo (fun GW hTo hFr => ?_)
  refine hFr _ _ _ ?_
  obtain ⟨H, hHe⟩ : ∃ H, H = s.heap := ⟨_, rfl⟩
  obtain ⟨locs, hLe⟩ : ∃ L : List Loc, L = [] := ⟨_, rfl⟩
  rw [← hHe] at hP
  replace hS : va_S A s.heap H locs := by rw [hHe, hLe]; exact hS
  refine zat hHe.symm hLe.symm ?_
  clear hHe hLe
  refine lv_aload_n (pc := 0) hx hb (zdt_at zt_X9_setPinAnswer_0 0 rfl) rfl (lv_at hl 0 rfl) ?_
  replace hf := zb_s hf
  obtain ⟨r_1, hc_, hf⟩ := hf
  refine zcs (pc := 1) (rv := (some (.int r_1))) (va_runV (As := []) (rest := []) ⟨hx, hb, hml, hown, hts⟩ (c_X9_loggedIn l D cy tt H.size h0 h0_buffer h0_slots h0_counters h0_officerPin h0_userPin h0_words h0_sha h0_stream h0_aes h0_modes h0_gcm h0_generator h0_tests h0_message h0_secret c_state c_testsDone c_faults c_streamBegun r_1 hc_) (cwV 0 hts gX9_setPinAnswer_X9_loggedIn rfl rfl rfl (by decide +kernel) ⟨Nat.le_of_ble_eq_true rfl, Nat.le_of_ble_eq_true rfl⟩) ⟨zblind, va_recv hK hP (ci := 11) (q0 := 0) rfl rfl, zpre hE hS (hP.sub [0] rfl) (hD.sub [0] (by decide) rfl) (va_free hD hS hA [0] rfl)⟩ rfl rfl hl.1 rfl (lv_room (Nat.le_of_ble_eq_true rfl)) (zdt_at zt_X9_setPinAnswer_0 1 rfl) ⟨Nat.zero_le _, Nat.zero_le _⟩) ?_
  clear hc_
  refine W.eq (g2 := F0 m 4 ls [.int r_1]) rfl ?_
  refine lv_if_ne (pc := 4) (tgt := 9) hx hb (zdt_at zt_X9_setPinAnswer_0 2 rfl) (by decide) (fun cn_ => ?t_2) (fun cn_ => ?f_3)
  case f_3 =>
    replace hf := zt_s cn_ hf
    clear cn_
    refine lv_iconst (pc := 7) (v := (-1 : Int32)) hx hb (zdt_at zt_X9_setPinAnswer_0 3 rfl) (by decide) ?_
    cases hf
    exact W.iret (pc := 8) hx hb hr (fun t ht hW => ⟨rfl, ⟨by rw [ht]; exact hP, hD⟩, hS.F ht⟩) hS.2.2 (zdt_at zt_X9_setPinAnswer_0 4 rfl)
  replace hf := ze_s cn_ hf
  clear cn_
  refine lv_iload_n (pc := 9) hx hb (zdt_at zt_X9_setPinAnswer_0 5 rfl) rfl (lv_at hl 1 rfl) ?_
  replace hf := zb_s hf
  obtain ⟨r_4, hc_, hf⟩ := hf
  refine zcs (pc := 10) (rv := (some (.int r_4))) (va_runS (As := [.int p1]) (rest := []) ⟨hx, hb, hml, hown, hts⟩ (c_X9_isRole l D cy tt H.size p1 r_4 hc_) (va_cwS 1 hts gX9_setPinAnswer_X9_isRole rfl rfl rfl (by decide +kernel) ⟨Nat.le_of_ble_eq_true rfl, Nat.le_of_ble_eq_true rfl⟩) ⟨zblind, zpre hE hS (hP.sub [] rfl) (hD.sub [] (by decide) rfl) (va_free hD hS hA [] rfl)⟩ rfl rfl hl.1 rfl (lv_room (Nat.le_of_ble_eq_true rfl)) (zdt_at zt_X9_setPinAnswer_0 6 rfl) ⟨Nat.zero_le _, Nat.zero_le _⟩) ?_
  clear hc_
  refine W.eq (g2 := F0 m 13 ls [.int r_4]) rfl ?_
  refine lv_if_eq (pc := 13) (tgt := 26) hx hb (zdt_at zt_X9_setPinAnswer_0 7 rfl) (by decide) (fun cn_ => ?t_5) (fun cn_ => ?f_6)
  case t_5 =>
    replace hf := zt_s cn_ hf
    clear cn_
    refine lv_bipush (pc := 26) (v := (-2 : Int32)) hx hb (zdt_at zt_X9_setPinAnswer_0 13 rfl) (by decide) ?_
    cases hf
    exact W.iret (pc := 28) hx hb hr (fun t ht hW => ⟨rfl, ⟨by rw [ht]; exact hP, hD⟩, hS.F ht⟩) hS.2.2 (zdt_at zt_X9_setPinAnswer_0 14 rfl)
  replace hf := ze_s cn_ hf
  clear cn_
  refine lv_iload_n (pc := 16) hx hb (zdt_at zt_X9_setPinAnswer_0 8 rfl) rfl (lv_at hl 2 rfl) ?_
  refine lv_if_lt (pc := 17) (tgt := 26) hx hb (zdt_at zt_X9_setPinAnswer_0 9 rfl) (by decide) (fun cn_ => ?t_7) (fun cn_ => ?f_8)
  case t_7 =>
    replace hf := zt_s cn_ hf
    clear cn_
    refine lv_bipush (pc := 26) (v := (-2 : Int32)) hx hb (zdt_at zt_X9_setPinAnswer_0 13 rfl) (by decide) ?_
    cases hf
    exact W.iret (pc := 28) hx hb hr (fun t ht hW => ⟨rfl, ⟨by rw [ht]; exact hP, hD⟩, hS.F ht⟩) hS.2.2 (zdt_at zt_X9_setPinAnswer_0 14 rfl)
  replace hf := ze_s cn_ hf
  clear cn_
  refine lv_iload_n (pc := 20) hx hb (zdt_at zt_X9_setPinAnswer_0 10 rfl) rfl (lv_at hl 2 rfl) ?_
  refine lv_ldc (pc := 21) hx hb hown hw0 (zdt_at zt_X9_setPinAnswer_0 11 rfl) ?_
  refine lv_icmp_le (pc := 23) (tgt := 29) hx hb (zdt_at zt_X9_setPinAnswer_0 12 rfl) (by decide) (fun cn_ => ?t_9) (fun cn_ => ?f_10)
  case f_10 =>
    replace hf := ze_s cn_ hf
    clear cn_
    refine lv_bipush (pc := 26) (v := (-2 : Int32)) hx hb (zdt_at zt_X9_setPinAnswer_0 13 rfl) (by decide) ?_
    cases hf
    exact W.iret (pc := 28) hx hb hr (fun t ht hW => ⟨rfl, ⟨by rw [ht]; exact hP, hD⟩, hS.F ht⟩) hS.2.2 (zdt_at zt_X9_setPinAnswer_0 14 rfl)
  replace hf := zt_s cn_ hf
  clear cn_
  refine lv_aload_n (pc := 29) hx hb (zdt_at zt_X9_setPinAnswer_0 15 rfl) rfl (lv_at hl 0 rfl) ?_
  refine va_get (pc := 30) (D := D) (ci := 11) (v := .int c_state) (C := RX9) (T := TX9) (N := 19) hx hb hts hcX9 hown hK hP 0 rfl rfl 15 (by decide) hw1 (fun _ h9 => h9) rfl (zdt_at zt_X9_setPinAnswer_0 16 rfl) ?_
  refine lv_iconst (pc := 33) (v := (3 : Int32)) hx hb (zdt_at zt_X9_setPinAnswer_0 17 rfl) (by decide) ?_
  refine lv_icmp_eq (pc := 34) (tgt := 40) hx hb (zdt_at zt_X9_setPinAnswer_0 18 rfl) (by decide) (fun cn_ => ?t_11) (fun cn_ => ?f_12)
  case f_12 =>
    replace hf := ze_s cn_ hf
    clear cn_
    refine lv_bipush (pc := 37) (v := (-3 : Int32)) hx hb (zdt_at zt_X9_setPinAnswer_0 19 rfl) (by decide) ?_
    cases hf
    exact W.iret (pc := 39) hx hb hr (fun t ht hW => ⟨rfl, ⟨by rw [ht]; exact hP, hD⟩, hS.F ht⟩) hS.2.2 (zdt_at zt_X9_setPinAnswer_0 20 rfl)
  replace hf := zt_s cn_ hf
  clear cn_
  refine lv_aload_n (pc := 40) hx hb (zdt_at zt_X9_setPinAnswer_0 21 rfl) rfl (lv_at hl 0 rfl) ?_
  refine lv_iload_n (pc := 41) hx hb (zdt_at zt_X9_setPinAnswer_0 22 rfl) rfl (lv_at hl 1 rfl) ?_
  replace hf := zb_s hf
  obtain ⟨r_13, hc_, hf⟩ := hf
  refine zcs (pc := 42) (rv := (some (.ref (if r_13 = 0 then h0_officerPin else h0_userPin)))) (va_runV (As := [.int p1]) (rest := []) ⟨hx, hb, hml, hown, hts⟩ (c_X9_pinOf l D cy tt H.size h0 h0_buffer h0_slots h0_counters h0_officerPin h0_userPin h0_words h0_sha h0_stream h0_aes h0_modes h0_gcm h0_generator h0_tests h0_message h0_secret p1 c_state c_testsDone c_faults c_streamBegun r_13 hc_) (cwV 1 hts gX9_setPinAnswer_X9_pinOf rfl rfl rfl (by decide +kernel) ⟨Nat.le_of_ble_eq_true rfl, Nat.le_of_ble_eq_true rfl⟩) ⟨zblind, va_recv hK hP (ci := 11) (q0 := 0) rfl rfl, zpre hE hS (hP.sub [0] rfl) (hD.sub [0] (by decide) rfl) (va_free hD hS hA [0] rfl)⟩ rfl rfl hl.1 rfl (lv_room (Nat.le_of_ble_eq_true rfl)) (zdt_at zt_X9_setPinAnswer_0 23 rfl) ⟨Nat.zero_le _, Nat.zero_le _⟩) ?_
  clear hc_
  refine W.eq (g2 := F0 m 45 ls [.ref (if r_13 = 0 then h0_officerPin else h0_userPin)]) rfl ?_
  by_cases hq_ : r_13 = 0
  · replace hf := zt_s hq_ hf
    refine W.eq (g2 := F0 m 45 ls [.ref h0_officerPin]) (by rw [if_pos hq_]) ?_
    clear hq_
    refine lv_iload_n (pc := 45) hx hb (zdt_at zt_X9_setPinAnswer_0 24 rfl) rfl (lv_at hl 2 rfl) ?_
    replace hf := zb_s hf
    obtain ⟨⟨c_officerPin_number_14, c_officerPin_tries_15⟩, hc_, hf⟩ := hf
    refine zcn2 (pc := 46) (rv := none) (va_runV (As := [.int p2]) (rest := []) ⟨hx, hb, hml, hown, hts⟩ (c_X5_renew l D cy tt H.size h0_officerPin p2 c_officerPin_number c_officerPin_tries c_officerPin_number_14 c_officerPin_tries_15 hc_) (cwV 1 hts gX9_setPinAnswer_X5_renew rfl rfl rfl (by decide +kernel) ⟨Nat.le_of_ble_eq_true rfl, Nat.le_of_ble_eq_true rfl⟩) ⟨zblind, va_recv hK hP (ci := 7) (q0 := 1) rfl rfl, zpre hE hS (hP.sub [1] rfl) (hD.sub [1] (by decide) rfl) (va_free hD hS hA [1] rfl)⟩ rfl rfl hl.1 rfl (lv_room (Nat.le_of_ble_eq_true rfl)) (zdt_at zt_X9_setPinAnswer_0 25 rfl) ⟨Nat.zero_le _, Nat.zero_le _⟩) hS hP hD (va_free hD hS hA [1] rfl) [1] rfl (by decide) rfl ?_
    clear hP hD hS hc_
    intro H locs hP hD hS
    replace hP : va_P D vwCl ([(h0, .inr (11, [.ref h0_buffer, .ref h0_slots, .ref h0_counters, .ref h0_officerPin, .ref h0_userPin, .ref h0_words, .ref h0_sha, .ref h0_stream, .ref h0_aes, .ref h0_modes, .ref h0_gcm, .ref h0_generator, .ref h0_tests, .ref h0_message, .ref h0_secret, .int c_state, .int c_testsDone, .int c_faults, .int c_streamBegun])), (h0_officerPin, .inr (7, [.int c_officerPin_number_14, .int c_officerPin_tries_15])), (h0_userPin, .inr (7, [.int c_userPin_number, .int c_userPin_tries]))]) H := hP
    replace hD : va_D A ([(h0, .inr (11, [.ref h0_buffer, .ref h0_slots, .ref h0_counters, .ref h0_officerPin, .ref h0_userPin, .ref h0_words, .ref h0_sha, .ref h0_stream, .ref h0_aes, .ref h0_modes, .ref h0_gcm, .ref h0_generator, .ref h0_tests, .ref h0_message, .ref h0_secret, .int c_state, .int c_testsDone, .int c_faults, .int c_streamBegun])), (h0_officerPin, .inr (7, [.int c_officerPin_number_14, .int c_officerPin_tries_15])), (h0_userPin, .inr (7, [.int c_userPin_number, .int c_userPin_tries]))]) := hD
    refine W.eq (g2 := F0 m 49 ls []) rfl ?_
    refine lv_iconst (pc := 49) (v := (0 : Int32)) hx hb (zdt_at zt_X9_setPinAnswer_0 26 rfl) (by decide) ?_
    cases hf
    exact W.iret (pc := 50) hx hb hr (fun t ht hW => ⟨rfl, ⟨by rw [ht]; exact hP, hD⟩, hS.F ht⟩) hS.2.2 (zdt_at zt_X9_setPinAnswer_0 27 rfl)
  replace hf := ze_s hq_ hf
  refine W.eq (g2 := F0 m 45 ls [.ref h0_userPin]) (by rw [if_neg hq_]) ?_
  clear hq_
  refine lv_iload_n (pc := 45) hx hb (zdt_at zt_X9_setPinAnswer_0 24 rfl) rfl (lv_at hl 2 rfl) ?_
  replace hf := zb_s hf
  obtain ⟨⟨c_userPin_number_16, c_userPin_tries_17⟩, hc_, hf⟩ := hf
  refine zcn2 (pc := 46) (rv := none) (va_runV (As := [.int p2]) (rest := []) ⟨hx, hb, hml, hown, hts⟩ (c_X5_renew l D cy tt H.size h0_userPin p2 c_userPin_number c_userPin_tries c_userPin_number_16 c_userPin_tries_17 hc_) (cwV 1 hts gX9_setPinAnswer_X5_renew rfl rfl rfl (by decide +kernel) ⟨Nat.le_of_ble_eq_true rfl, Nat.le_of_ble_eq_true rfl⟩) ⟨zblind, va_recv hK hP (ci := 7) (q0 := 2) rfl rfl, zpre hE hS (hP.sub [2] rfl) (hD.sub [2] (by decide) rfl) (va_free hD hS hA [2] rfl)⟩ rfl rfl hl.1 rfl (lv_room (Nat.le_of_ble_eq_true rfl)) (zdt_at zt_X9_setPinAnswer_0 25 rfl) ⟨Nat.zero_le _, Nat.zero_le _⟩) hS hP hD (va_free hD hS hA [2] rfl) [2] rfl (by decide) rfl ?_
  clear hP hD hS hc_
  intro H locs hP hD hS
  replace hP : va_P D vwCl ([(h0, .inr (11, [.ref h0_buffer, .ref h0_slots, .ref h0_counters, .ref h0_officerPin, .ref h0_userPin, .ref h0_words, .ref h0_sha, .ref h0_stream, .ref h0_aes, .ref h0_modes, .ref h0_gcm, .ref h0_generator, .ref h0_tests, .ref h0_message, .ref h0_secret, .int c_state, .int c_testsDone, .int c_faults, .int c_streamBegun])), (h0_officerPin, .inr (7, [.int c_officerPin_number, .int c_officerPin_tries])), (h0_userPin, .inr (7, [.int c_userPin_number_16, .int c_userPin_tries_17]))]) H := hP
  replace hD : va_D A ([(h0, .inr (11, [.ref h0_buffer, .ref h0_slots, .ref h0_counters, .ref h0_officerPin, .ref h0_userPin, .ref h0_words, .ref h0_sha, .ref h0_stream, .ref h0_aes, .ref h0_modes, .ref h0_gcm, .ref h0_generator, .ref h0_tests, .ref h0_message, .ref h0_secret, .int c_state, .int c_testsDone, .int c_faults, .int c_streamBegun])), (h0_officerPin, .inr (7, [.int c_officerPin_number, .int c_officerPin_tries])), (h0_userPin, .inr (7, [.int c_userPin_number_16, .int c_userPin_tries_17]))]) := hD
  refine W.eq (g2 := F0 m 49 ls []) rfl ?_
  refine lv_iconst (pc := 49) (v := (0 : Int32)) hx hb (zdt_at zt_X9_setPinAnswer_0 26 rfl) (by decide) ?_
  cases hf
  exact W.iret (pc := 50) hx hb hr (fun t ht hW => ⟨rfl, ⟨by rw [ht]; exact hP, hD⟩, hS.F ht⟩) hS.2.2 (zdt_at zt_X9_setPinAnswer_0 27 rfl)
set_option maxHeartbeats 4000000 in
set_option maxRecDepth 100000 in
theorem c_X9_setPin (l : Launch) (D : va_G) (cy : Nat → ClassId) (tt : Nat → Nat) (sz : Nat) (h0 : Nat) (h0_buffer : Nat) (h0_slots : Nat) (h0_counters : Nat) (h0_officerPin : Nat) (h0_userPin : Nat) (h0_words : Nat) (h0_sha : Nat) (h0_stream : Nat) (h0_aes : Nat) (h0_modes : Nat) (h0_gcm : Nat) (h0_generator : Nat) (h0_tests : Nat) (h0_message : Nat) (h0_secret : Nat) (p1 : Int32) (p2 : Int32) (c_state : Int32) (c_counters : Nat → Int32) (c_officerPin_number : Int32) (c_officerPin_tries : Int32) (c_userPin_number : Int32) (c_userPin_tries : Int32) (c_testsDone : Int32) (c_faults : Int32) (c_streamBegun : Int32) (r_ : Int32) (c_counters' : Nat → Int32) (c_officerPin_number' : Int32) (c_officerPin_tries' : Int32) (c_userPin_number' : Int32) (c_userPin_tries' : Int32) (hf : f_X9_setPin p1 p2 c_state c_counters c_officerPin_number c_officerPin_tries c_userPin_number c_userPin_tries = some (r_, c_counters', c_officerPin_number', c_officerPin_tries', c_userPin_number', c_userPin_tries')) : Met l yX9_setPin wsX9_setPin ({ frames := 2, cells := 0, slots := 0, locals := 43 }) (zPc D cy tt sz [.ref h0, .int p1, .int p2] ([(h0, .inr (11, [.ref h0_buffer, .ref h0_slots, .ref h0_counters, .ref h0_officerPin, .ref h0_userPin, .ref h0_words, .ref h0_sha, .ref h0_stream, .ref h0_aes, .ref h0_modes, .ref h0_gcm, .ref h0_generator, .ref h0_tests, .ref h0_message, .ref h0_secret, .int c_state, .int c_testsDone, .int c_faults, .int c_streamBegun])), (h0_counters, .inl (cy 1, 3, .inl c_counters)), (h0_officerPin, .inr (7, [.int c_officerPin_number, .int c_officerPin_tries])), (h0_userPin, .inr (7, [.int c_userPin_number, .int c_userPin_tries]))])) (zQ D (some (.int r_)) ([(h0, .inr (11, [.ref h0_buffer, .ref h0_slots, .ref h0_counters, .ref h0_officerPin, .ref h0_userPin, .ref h0_words, .ref h0_sha, .ref h0_stream, .ref h0_aes, .ref h0_modes, .ref h0_gcm, .ref h0_generator, .ref h0_tests, .ref h0_message, .ref h0_secret, .int c_state, .int c_testsDone, .int c_faults, .int c_streamBegun])), (h0_counters, .inl (cy 1, 3, .inl c_counters')), (h0_officerPin, .inr (7, [.int c_officerPin_number', .int c_officerPin_tries'])), (h0_userPin, .inr (7, [.int c_userPin_number', .int c_userPin_tries']))]) (va_A ([(h0, .inr (11, [.ref h0_buffer, .ref h0_slots, .ref h0_counters, .ref h0_officerPin, .ref h0_userPin, .ref h0_words, .ref h0_sha, .ref h0_stream, .ref h0_aes, .ref h0_modes, .ref h0_gcm, .ref h0_generator, .ref h0_tests, .ref h0_message, .ref h0_secret, .int c_state, .int c_testsDone, .int c_faults, .int c_streamBegun])), (h0_counters, .inl (cy 1, 3, .inl c_counters)), (h0_officerPin, .inr (7, [.int c_officerPin_number, .int c_officerPin_tries])), (h0_userPin, .inr (7, [.int c_userPin_number, .int c_userPin_tries]))]) sz)) 0 0 (va_A ([(h0, .inr (11, [.ref h0_buffer, .ref h0_slots, .ref h0_counters, .ref h0_officerPin, .ref h0_userPin, .ref h0_words, .ref h0_sha, .ref h0_stream, .ref h0_aes, .ref h0_modes, .ref h0_gcm, .ref h0_generator, .ref h0_tests, .ref h0_message, .ref h0_secret, .int c_state, .int c_testsDone, .int c_faults, .int c_streamBegun])), (h0_counters, .inl (cy 1, 3, .inl c_counters)), (h0_officerPin, .inr (7, [.int c_officerPin_number, .int c_officerPin_tries])), (h0_userPin, .inr (7, [.int c_userPin_number, .int c_userPin_tries]))]) sz) := by
  refine Met.ofW (cc := cX9_setPin) (maxL := 3) (ret := (some .int)) (by decide) rfl ?_
  intro p e s m args below meth c s₁ B hml hv
  obtain ⟨rfl, rfl, hP, hD0, hE⟩ := hv
  have hx := B.exec
  have hb := B.bytes
  have hr := B.returns
  have hts := atoms_spec (ws := wsX9_setPin) B.pre
  have hown : s.vm.findClass RX9 = some m.cls := findClass_of_methodNamed B.named
  have hlocks := B.notSynchronized
  clear B
  have hD := hD0.self (sz := s.heap.size)
  generalize hAe : va_A ([(h0, .inr (11, [.ref h0_buffer, .ref h0_slots, .ref h0_counters, .ref h0_officerPin, .ref h0_userPin, .ref h0_words, .ref h0_sha, .ref h0_stream, .ref h0_aes, .ref h0_modes, .ref h0_gcm, .ref h0_generator, .ref h0_tests, .ref h0_message, .ref h0_secret, .int c_state, .int c_testsDone, .int c_faults, .int c_streamBegun])), (h0_counters, .inl (cy 1, 3, .inl c_counters)), (h0_officerPin, .inr (7, [.int c_officerPin_number, .int c_officerPin_tries])), (h0_userPin, .inr (7, [.int c_userPin_number, .int c_userPin_tries]))]) s.heap.size = A at hD hE ⊢
  have hA : ∀ q : Nat, s.heap.size ≤ q → A q := fun q h => by rw [← hAe]; exact Or.inr h
  clear hAe hD0
  have hS : va_S A s.heap s.heap [] := va_S.rf
  have hK := hE.1
  have hl := lv_entry ([.ref h0, .int p1, .int p2]) (n := 3) (Nat.le_of_ble_eq_true rfl)
  rw [lg_entry_eq]
  generalize (lg_sl ([.ref h0, .int p1, .int p2]) ++ List.replicate (3 - (lg_sl ([.ref h0, .int p1, .int p2])).length) Slot.unset).toArray = ls at hl ⊢
  replace hl : lv_has ls 3 [(0, .ref h0), (1, .int p1), (2, .int p2)] := hl
  unfold f_X9_setPin at hf
  refine zgo (fun GW hTo hFr => ?_)
  refine hFr _ _ _ ?_
  obtain ⟨H, hHe⟩ : ∃ H, H = s.heap := ⟨_, rfl⟩
  obtain ⟨locs, hLe⟩ : ∃ L : List Loc, L = [] := ⟨_, rfl⟩
  rw [← hHe] at hP
  replace hS : va_S A s.heap H locs := by rw [hHe, hLe]; exact hS
  refine zat hHe.symm hLe.symm ?_
  clear hHe hLe
  refine lv_aload_n (pc := 0) hx hb (zdt_at zt_X9_setPin_0 0 rfl) rfl (lv_at hl 0 rfl) ?_
  refine lv_aload_n (pc := 1) hx hb (zdt_at zt_X9_setPin_0 1 rfl) rfl (lv_at hl 0 rfl) ?_
  refine lv_iload_n (pc := 2) hx hb (zdt_at zt_X9_setPin_0 2 rfl) rfl (lv_at hl 1 rfl) ?_
  refine lv_iload_n (pc := 3) hx hb (zdt_at zt_X9_setPin_0 3 rfl) rfl (lv_at hl 2 rfl) ?_
  replace hf := zb_s hf
  obtain ⟨⟨r_1, c_officerPin_number_2, c_officerPin_tries_3, c_userPin_number_4, c_userPin_tries_5⟩, hc_, hf⟩ := hf
  refine zcn2 (pc := 4) (rv := (some (.int r_1))) (va_runV (As := [.int p1, .int p2]) (rest := [.ref h0]) ⟨hx, hb, hml, hown, hts⟩ (c_X9_setPinAnswer l D cy tt H.size h0 h0_buffer h0_slots h0_counters h0_officerPin h0_userPin h0_words h0_sha h0_stream h0_aes h0_modes h0_gcm h0_generator h0_tests h0_message h0_secret p1 p2 c_state c_officerPin_number c_officerPin_tries c_userPin_number c_userPin_tries c_testsDone c_faults c_streamBegun r_1 c_officerPin_number_2 c_officerPin_tries_3 c_userPin_number_4 c_userPin_tries_5 hc_) (cwV 2 hts gX9_setPin_X9_setPinAnswer rfl rfl rfl (by decide +kernel) ⟨Nat.le_of_ble_eq_true rfl, Nat.le_of_ble_eq_true rfl⟩) ⟨zblind, va_recv hK hP (ci := 11) (q0 := 0) rfl rfl, zpre hE hS (hP.sub [0, 2, 3] rfl) (hD.sub [0, 2, 3] (by decide) rfl) (va_free hD hS hA [0, 2, 3] rfl)⟩ rfl rfl hl.1 rfl (lv_room (Nat.le_of_ble_eq_true rfl)) (zdt_at zt_X9_setPin_0 4 rfl) ⟨Nat.zero_le _, Nat.zero_le _⟩) hS hP hD (va_free hD hS hA [0, 2, 3] rfl) [0, 2, 3] rfl (by decide) rfl ?_
  clear hP hD hS hc_
  intro H locs hP hD hS
  replace hP : va_P D vwCl ([(h0, .inr (11, [.ref h0_buffer, .ref h0_slots, .ref h0_counters, .ref h0_officerPin, .ref h0_userPin, .ref h0_words, .ref h0_sha, .ref h0_stream, .ref h0_aes, .ref h0_modes, .ref h0_gcm, .ref h0_generator, .ref h0_tests, .ref h0_message, .ref h0_secret, .int c_state, .int c_testsDone, .int c_faults, .int c_streamBegun])), (h0_counters, .inl (cy 1, 3, .inl c_counters)), (h0_officerPin, .inr (7, [.int c_officerPin_number_2, .int c_officerPin_tries_3])), (h0_userPin, .inr (7, [.int c_userPin_number_4, .int c_userPin_tries_5]))]) H := hP
  replace hD : va_D A ([(h0, .inr (11, [.ref h0_buffer, .ref h0_slots, .ref h0_counters, .ref h0_officerPin, .ref h0_userPin, .ref h0_words, .ref h0_sha, .ref h0_stream, .ref h0_aes, .ref h0_modes, .ref h0_gcm, .ref h0_generator, .ref h0_tests, .ref h0_message, .ref h0_secret, .int c_state, .int c_testsDone, .int c_faults, .int c_streamBegun])), (h0_counters, .inl (cy 1, 3, .inl c_counters)), (h0_officerPin, .inr (7, [.int c_officerPin_number_2, .int c_officerPin_tries_3])), (h0_userPin, .inr (7, [.int c_userPin_number_4, .int c_userPin_tries_5]))]) := hD
  refine W.eq (g2 := F0 m 7 ls [.int r_1, .ref h0]) rfl ?_
  replace hf := zb_s hf
  obtain ⟨⟨r_6, c_counters_7⟩, hc_, hf⟩ := hf
  refine zcn2 (pc := 7) (rv := (some (.int r_6))) (va_runV (As := [.int r_1]) (rest := []) ⟨hx, hb, hml, hown, hts⟩ (c_X9_counted l D cy tt H.size h0 h0_buffer h0_slots h0_counters h0_officerPin h0_userPin h0_words h0_sha h0_stream h0_aes h0_modes h0_gcm h0_generator h0_tests h0_message h0_secret r_1 c_counters c_state c_testsDone c_faults c_streamBegun r_6 c_counters_7 hc_) (cwV 1 hts gX9_setPin_X9_counted rfl rfl rfl (by decide +kernel) ⟨Nat.le_of_ble_eq_true rfl, Nat.le_of_ble_eq_true rfl⟩) ⟨zblind, va_recv hK hP (ci := 11) (q0 := 0) rfl rfl, zpre hE hS (hP.sub [0, 1] rfl) (hD.sub [0, 1] (by decide) rfl) (va_free hD hS hA [0, 1] rfl)⟩ rfl rfl hl.1 rfl (lv_room (Nat.le_of_ble_eq_true rfl)) (zdt_at zt_X9_setPin_0 5 rfl) ⟨Nat.zero_le _, Nat.zero_le _⟩) hS hP hD (va_free hD hS hA [0, 1] rfl) [0, 1] rfl (by decide) rfl ?_
  clear hP hD hS hc_
  intro H locs hP hD hS
  replace hP : va_P D vwCl ([(h0, .inr (11, [.ref h0_buffer, .ref h0_slots, .ref h0_counters, .ref h0_officerPin, .ref h0_userPin, .ref h0_words, .ref h0_sha, .ref h0_stream, .ref h0_aes, .ref h0_modes, .ref h0_gcm, .ref h0_generator, .ref h0_tests, .ref h0_message, .ref h0_secret, .int c_state, .int c_testsDone, .int c_faults, .int c_streamBegun])), (h0_counters, .inl (cy 1, 3, .inl c_counters_7)), (h0_officerPin, .inr (7, [.int c_officerPin_number_2, .int c_officerPin_tries_3])), (h0_userPin, .inr (7, [.int c_userPin_number_4, .int c_userPin_tries_5]))]) H := hP
  replace hD : va_D A ([(h0, .inr (11, [.ref h0_buffer, .ref h0_slots, .ref h0_counters, .ref h0_officerPin, .ref h0_userPin, .ref h0_words, .ref h0_sha, .ref h0_stream, .ref h0_aes, .ref h0_modes, .ref h0_gcm, .ref h0_generator, .ref h0_tests, .ref h0_message, .ref h0_secret, .int c_state, .int c_testsDone, .int c_faults, .int c_streamBegun])), (h0_counters, .inl (cy 1, 3, .inl c_counters_7)), (h0_officerPin, .inr (7, [.int c_officerPin_number_2, .int c_officerPin_tries_3])), (h0_userPin, .inr (7, [.int c_userPin_number_4, .int c_userPin_tries_5]))]) := hD
  refine W.eq (g2 := F0 m 10 ls [.int r_6]) rfl ?_
  cases hf
  exact W.iret (pc := 10) hx hb hr (fun t ht hW => ⟨rfl, ⟨by rw [ht]; exact hP, hD⟩, hS.F ht⟩) hS.2.2 (zdt_at zt_X9_setPin_0 6 rfl)
set_option maxHeartbeats 4000000 in
set_option maxRecDepth 100000 in
theorem c_X9_entropy (l : Launch) (D : va_G) (cy : Nat → ClassId) (tt : Nat → Nat) (sz : Nat) (h0 : Nat) (h0_buffer : Nat) (h0_slots : Nat) (h0_counters : Nat) (h0_officerPin : Nat) (h0_userPin : Nat) (h0_words : Nat) (h0_sha : Nat) (h0_stream : Nat) (h0_aes : Nat) (h0_modes : Nat) (h0_gcm : Nat) (h0_generator : Nat) (h0_tests : Nat) (h0_message : Nat) (h0_secret : Nat) (h0_words_kept : Nat) (p1 : Int32) (c_state : Int32) (c_words_count : Int32) (c_words_first : Int32) (c_words_healthy : Int32) (c_words_last : Int32) (c_words_placeInWindow : Int32) (c_words_row : Int32) (c_words_timesInWindow : Int32) (c_words_kept : Nat → Int32) (c_testsDone : Int32) (c_faults : Int32) (c_streamBegun : Int32) (r_ : Int32) (c_words_count' : Int32) (c_words_first' : Int32) (c_words_healthy' : Int32) (c_words_last' : Int32) (c_words_placeInWindow' : Int32) (c_words_row' : Int32) (c_words_timesInWindow' : Int32) (c_words_kept' : Nat → Int32) (hf : f_X9_entropy p1 c_state c_words_count c_words_first c_words_healthy c_words_last c_words_placeInWindow c_words_row c_words_timesInWindow c_words_kept = some (r_, c_words_count', c_words_first', c_words_healthy', c_words_last', c_words_placeInWindow', c_words_row', c_words_timesInWindow', c_words_kept')) : Met l yX9_entropy wsX9_entropy ({ frames := 2, cells := 0, slots := 0, locals := 42 }) (zPc D cy tt sz [.ref h0, .int p1] ([(h0, .inr (11, [.ref h0_buffer, .ref h0_slots, .ref h0_counters, .ref h0_officerPin, .ref h0_userPin, .ref h0_words, .ref h0_sha, .ref h0_stream, .ref h0_aes, .ref h0_modes, .ref h0_gcm, .ref h0_generator, .ref h0_tests, .ref h0_message, .ref h0_secret, .int c_state, .int c_testsDone, .int c_faults, .int c_streamBegun])), (h0_words, .inr (3, [.ref h0_words_kept, .int c_words_count, .int c_words_healthy, .int c_words_last, .int c_words_row, .int c_words_first, .int c_words_placeInWindow, .int c_words_timesInWindow])), (h0_words_kept, .inl (cy 1, 64, .inl c_words_kept))])) (zQ D (some (.int r_)) ([(h0, .inr (11, [.ref h0_buffer, .ref h0_slots, .ref h0_counters, .ref h0_officerPin, .ref h0_userPin, .ref h0_words, .ref h0_sha, .ref h0_stream, .ref h0_aes, .ref h0_modes, .ref h0_gcm, .ref h0_generator, .ref h0_tests, .ref h0_message, .ref h0_secret, .int c_state, .int c_testsDone, .int c_faults, .int c_streamBegun])), (h0_words, .inr (3, [.ref h0_words_kept, .int c_words_count', .int c_words_healthy', .int c_words_last', .int c_words_row', .int c_words_first', .int c_words_placeInWindow', .int c_words_timesInWindow'])), (h0_words_kept, .inl (cy 1, 64, .inl c_words_kept'))]) (va_A ([(h0, .inr (11, [.ref h0_buffer, .ref h0_slots, .ref h0_counters, .ref h0_officerPin, .ref h0_userPin, .ref h0_words, .ref h0_sha, .ref h0_stream, .ref h0_aes, .ref h0_modes, .ref h0_gcm, .ref h0_generator, .ref h0_tests, .ref h0_message, .ref h0_secret, .int c_state, .int c_testsDone, .int c_faults, .int c_streamBegun])), (h0_words, .inr (3, [.ref h0_words_kept, .int c_words_count, .int c_words_healthy, .int c_words_last, .int c_words_row, .int c_words_first, .int c_words_placeInWindow, .int c_words_timesInWindow])), (h0_words_kept, .inl (cy 1, 64, .inl c_words_kept))]) sz)) 0 0 (va_A ([(h0, .inr (11, [.ref h0_buffer, .ref h0_slots, .ref h0_counters, .ref h0_officerPin, .ref h0_userPin, .ref h0_words, .ref h0_sha, .ref h0_stream, .ref h0_aes, .ref h0_modes, .ref h0_gcm, .ref h0_generator, .ref h0_tests, .ref h0_message, .ref h0_secret, .int c_state, .int c_testsDone, .int c_faults, .int c_streamBegun])), (h0_words, .inr (3, [.ref h0_words_kept, .int c_words_count, .int c_words_healthy, .int c_words_last, .int c_words_row, .int c_words_first, .int c_words_placeInWindow, .int c_words_timesInWindow])), (h0_words_kept, .inl (cy 1, 64, .inl c_words_kept))]) sz) := by
  refine Met.ofW (cc := cX9_entropy) (maxL := 2) (ret := (some .int)) (by decide) rfl ?_
  intro p e s m args below meth c s₁ B hml hv
  obtain ⟨rfl, rfl, hP, hD0, hE⟩ := hv
  have hx := B.exec
  have hb := B.bytes
  have hr := B.returns
  have hts := atoms_spec (ws := wsX9_entropy) B.pre
  have hown : s.vm.findClass RX9 = some m.cls := findClass_of_methodNamed B.named
  have hlocks := B.notSynchronized
  clear B
  have hD := hD0.self (sz := s.heap.size)
  generalize hAe : va_A ([(h0, .inr (11, [.ref h0_buffer, .ref h0_slots, .ref h0_counters, .ref h0_officerPin, .ref h0_userPin, .ref h0_words, .ref h0_sha, .ref h0_stream, .ref h0_aes, .ref h0_modes, .ref h0_gcm, .ref h0_generator, .ref h0_tests, .ref h0_message, .ref h0_secret, .int c_state, .int c_testsDone, .int c_faults, .int c_streamBegun])), (h0_words, .inr (3, [.ref h0_words_kept, .int c_words_count, .int c_words_healthy, .int c_words_last, .int c_words_row, .int c_words_first, .int c_words_placeInWindow, .int c_words_timesInWindow])), (h0_words_kept, .inl (cy 1, 64, .inl c_words_kept))]) s.heap.size = A at hD hE ⊢
  have hA : ∀ q : Nat, s.heap.size ≤ q → A q := fun q h => by rw [← hAe]; exact Or.inr h
  clear hAe hD0
  have hS : va_S A s.heap s.heap [] := va_S.rf
  have hK := hE.1
  have hw0 := hts (.fieldLink RX9 101 "SealedModule" "state" "I") (by decide +kernel)
  have hw1 := hts (.fieldLink RX9 38 "SealedModule" "words" "LSealedModule$Entropy;") (by decide +kernel)
  have hcX9 : ∀ w ∈ u_ws RX9 TX9 19, w ∈ wsX9_entropy := (fun _ h => List.mem_cons_of_mem _ (List.mem_append_left _ (List.mem_append_left _ (List.mem_append_right _ h))))
  have hl := lv_entry ([.ref h0, .int p1]) (n := 2) (Nat.le_of_ble_eq_true rfl)
  rw [lg_entry_eq]
  generalize (lg_sl ([.ref h0, .int p1]) ++ List.replicate (2 - (lg_sl ([.ref h0, .int p1])).length) Slot.unset).toArray = ls at hl ⊢
  replace hl : lv_has ls 2 [(0, .ref h0), (1, .int p1)] := hl
  unfold f_X9_entropy at hf
  refine zgo (fun GW hTo hFr => ?_)
  refine hFr _ _ _ ?_
  obtain ⟨H, hHe⟩ : ∃ H, H = s.heap := ⟨_, rfl⟩
  obtain ⟨locs, hLe⟩ : ∃ L : List Loc, L = [] := ⟨_, rfl⟩
  rw [← hHe] at hP
  replace hS : va_S A s.heap H locs := by rw [hHe, hLe]; exact hS
  refine zat hHe.symm hLe.symm ?_
  clear hHe hLe
  refine lv_aload_n (pc := 0) hx hb (zdt_at zt_X9_entropy_0 0 rfl) rfl (lv_at hl 0 rfl) ?_
  refine va_get (pc := 1) (D := D) (ci := 11) (v := .int c_state) (C := RX9) (T := TX9) (N := 19) hx hb hts hcX9 hown hK hP 0 rfl rfl 15 (by decide) hw0 (fun _ h9 => h9) rfl (zdt_at zt_X9_entropy_0 1 rfl) ?_
  refine lv_if_ne (pc := 4) (tgt := 17) hx hb (zdt_at zt_X9_entropy_0 2 rfl) (by decide) (fun cn_ => ?t_1) (fun cn_ => ?f_2)
  case f_2 =>
    replace hf := zt_s cn_ hf
    clear cn_
    exact absurd hf (by simp)
  replace hf := ze_s cn_ hf
  clear cn_
  refine lv_aload_n (pc := 17) hx hb (zdt_at zt_X9_entropy_0 8 rfl) rfl (lv_at hl 0 rfl) ?_
  refine va_get (pc := 18) (D := D) (ci := 11) (v := .ref h0_words) (C := RX9) (T := TX9) (N := 19) hx hb hts hcX9 hown hK hP 0 rfl rfl 5 (by decide) hw1 (fun _ h9 => h9) rfl (zdt_at zt_X9_entropy_0 9 rfl) ?_
  refine lv_iload_n (pc := 21) hx hb (zdt_at zt_X9_entropy_0 10 rfl) rfl (lv_at hl 1 rfl) ?_
  replace hf := zb_s hf
  obtain ⟨⟨r_3, c_words_count_4, c_words_first_5, c_words_healthy_6, c_words_last_7, c_words_placeInWindow_8, c_words_row_9, c_words_timesInWindow_10, c_words_kept_11⟩, hc_, hf⟩ := hf
  refine zcn2 (pc := 22) (rv := (some (.int r_3))) (va_runV (As := [.int p1]) (rest := []) ⟨hx, hb, hml, hown, hts⟩ (c_X1_accepts l D cy tt H.size h0_words h0_words_kept p1 c_words_count c_words_first c_words_healthy c_words_last c_words_placeInWindow c_words_row c_words_timesInWindow c_words_kept r_3 c_words_count_4 c_words_first_5 c_words_healthy_6 c_words_last_7 c_words_placeInWindow_8 c_words_row_9 c_words_timesInWindow_10 c_words_kept_11 hc_) (cwV 1 hts gX9_entropy_X1_accepts rfl rfl rfl (by decide +kernel) ⟨Nat.le_of_ble_eq_true rfl, Nat.le_of_ble_eq_true rfl⟩) ⟨zblind, va_recv hK hP (ci := 3) (q0 := 1) rfl rfl, zpre hE hS (hP.sub [1, 2] rfl) (hD.sub [1, 2] (by decide) rfl) (va_free hD hS hA [1, 2] rfl)⟩ rfl rfl hl.1 rfl (lv_room (Nat.le_of_ble_eq_true rfl)) (zdt_at zt_X9_entropy_0 11 rfl) ⟨Nat.zero_le _, Nat.zero_le _⟩) hS hP hD (va_free hD hS hA [1, 2] rfl) [1, 2] rfl (by decide) rfl ?_
  clear hP hD hS hc_
  intro H locs hP hD hS
  replace hP : va_P D vwCl ([(h0, .inr (11, [.ref h0_buffer, .ref h0_slots, .ref h0_counters, .ref h0_officerPin, .ref h0_userPin, .ref h0_words, .ref h0_sha, .ref h0_stream, .ref h0_aes, .ref h0_modes, .ref h0_gcm, .ref h0_generator, .ref h0_tests, .ref h0_message, .ref h0_secret, .int c_state, .int c_testsDone, .int c_faults, .int c_streamBegun])), (h0_words, .inr (3, [.ref h0_words_kept, .int c_words_count_4, .int c_words_healthy_6, .int c_words_last_7, .int c_words_row_9, .int c_words_first_5, .int c_words_placeInWindow_8, .int c_words_timesInWindow_10])), (h0_words_kept, .inl (cy 1, 64, .inl c_words_kept_11))]) H := hP
  replace hD : va_D A ([(h0, .inr (11, [.ref h0_buffer, .ref h0_slots, .ref h0_counters, .ref h0_officerPin, .ref h0_userPin, .ref h0_words, .ref h0_sha, .ref h0_stream, .ref h0_aes, .ref h0_modes, .ref h0_gcm, .ref h0_generator, .ref h0_tests, .ref h0_message, .ref h0_secret, .int c_state, .int c_testsDone, .int c_faults, .int c_streamBegun])), (h0_words, .inr (3, [.ref h0_words_kept, .int c_words_count_4, .int c_words_healthy_6, .int c_words_last_7, .int c_words_row_9, .int c_words_first_5, .int c_words_placeInWindow_8, .int c_words_timesInWindow_10])), (h0_words_kept, .inl (cy 1, 64, .inl c_words_kept_11))]) := hD
  refine W.eq (g2 := F0 m 25 ls [.int r_3]) rfl ?_
  refine lv_if_eq (pc := 25) (tgt := 32) hx hb (zdt_at zt_X9_entropy_0 12 rfl) (by decide) (fun cn_ => ?t_12) (fun cn_ => ?f_13)
  case t_12 =>
    replace hf := zt_s cn_ hf
    clear cn_
    refine lv_iconst (pc := 32) (v := (0 : Int32)) hx hb (zdt_at zt_X9_entropy_0 15 rfl) (by decide) ?_
    cases hf
    exact W.iret (pc := 33) hx hb hr (fun t ht hW => ⟨rfl, ⟨by rw [ht]; exact hP, hD⟩, hS.F ht⟩) hS.2.2 (zdt_at zt_X9_entropy_0 16 rfl)
  replace hf := ze_s cn_ hf
  clear cn_
  refine lv_iconst (pc := 28) (v := (1 : Int32)) hx hb (zdt_at zt_X9_entropy_0 13 rfl) (by decide) ?_
  refine lv_goto (pc := 29) (tgt := 33) hx hb (zdt_at zt_X9_entropy_0 14 rfl) (by decide) ?_
  cases hf
  exact W.iret (pc := 33) hx hb hr (fun t ht hW => ⟨rfl, ⟨by rw [ht]; exact hP, hD⟩, hS.F ht⟩) hS.2.2 (zdt_at zt_X9_entropy_0 16 rfl)
set_option maxHeartbeats 4000000 in
set_option maxRecDepth 100000 in
theorem c_X9_state (l : Launch) (D : va_G) (cy : Nat → ClassId) (tt : Nat → Nat) (sz : Nat) (h0 : Nat) (h0_buffer : Nat) (h0_slots : Nat) (h0_counters : Nat) (h0_officerPin : Nat) (h0_userPin : Nat) (h0_words : Nat) (h0_sha : Nat) (h0_stream : Nat) (h0_aes : Nat) (h0_modes : Nat) (h0_gcm : Nat) (h0_generator : Nat) (h0_tests : Nat) (h0_message : Nat) (h0_secret : Nat) (c_state : Int32) (c_testsDone : Int32) (c_faults : Int32) (c_streamBegun : Int32) (r_ : Int32) (hf : f_X9_state c_state = some r_) : Met l yX9_state wsX9_state ({ frames := 0, cells := 0, slots := 0, locals := 0 }) (zPc D cy tt sz [.ref h0] ([(h0, .inr (11, [.ref h0_buffer, .ref h0_slots, .ref h0_counters, .ref h0_officerPin, .ref h0_userPin, .ref h0_words, .ref h0_sha, .ref h0_stream, .ref h0_aes, .ref h0_modes, .ref h0_gcm, .ref h0_generator, .ref h0_tests, .ref h0_message, .ref h0_secret, .int c_state, .int c_testsDone, .int c_faults, .int c_streamBegun]))])) (fun _ st o t => o = .returned (some (.int r_)) ∧ t.heap = st.heap) 0 0 (fun _ => False) := by
  refine Met.ofW (cc := cX9_state) (maxL := 1) (ret := (some .int)) (by decide) rfl ?_
  intro p e s m args below meth c s₁ B hml hv
  obtain ⟨rfl, rfl, hP, hD0, hE⟩ := hv
  have hx := B.exec
  have hb := B.bytes
  have hr := B.returns
  have hts := atoms_spec (ws := wsX9_state) B.pre
  have hown : s.vm.findClass RX9 = some m.cls := findClass_of_methodNamed B.named
  have hlocks := B.notSynchronized
  clear B
  have hD := hD0.self (sz := s.heap.size)
  generalize hAe : va_A ([(h0, .inr (11, [.ref h0_buffer, .ref h0_slots, .ref h0_counters, .ref h0_officerPin, .ref h0_userPin, .ref h0_words, .ref h0_sha, .ref h0_stream, .ref h0_aes, .ref h0_modes, .ref h0_gcm, .ref h0_generator, .ref h0_tests, .ref h0_message, .ref h0_secret, .int c_state, .int c_testsDone, .int c_faults, .int c_streamBegun]))]) s.heap.size = A at hD hE
  have hA : ∀ q : Nat, s.heap.size ≤ q → A q := fun q h => by rw [← hAe]; exact Or.inr h
  clear hAe hD0
  have hS : va_S A s.heap s.heap [] := va_S.rf
  have hK := hE.1
  have hw0 := hts (.fieldLink RX9 101 "SealedModule" "state" "I") (by decide +kernel)
  have hcX9 : ∀ w ∈ u_ws RX9 TX9 19, w ∈ wsX9_state := (fun _ h => List.mem_cons_of_mem _ (List.mem_append_right _ h))
  have hl := lv_entry ([.ref h0]) (n := 1) (Nat.le_of_ble_eq_true rfl)
  rw [lg_entry_eq]
  generalize (lg_sl ([.ref h0]) ++ List.replicate (1 - (lg_sl ([.ref h0])).length) Slot.unset).toArray = ls at hl ⊢
  replace hl : lv_has ls 1 [(0, .ref h0)] := hl
  unfold f_X9_state at hf
  refine zgo (fun GW hTo hFr => ?_)
  refine hFr _ _ _ ?_
  refine lv_aload_n (pc := 0) hx hb (zdt_at zt_X9_state_0 0 rfl) rfl (lv_at hl 0 rfl) ?_
  refine va_get (pc := 1) (D := D) (ci := 11) (v := .int c_state) (C := RX9) (T := TX9) (N := 19) hx hb hts hcX9 hown hK hP 0 rfl rfl 15 (by decide) hw0 (fun _ h9 => h9) rfl (zdt_at zt_X9_state_0 1 rfl) ?_
  cases hf
  exact W.iret (pc := 4) hx hb hr (fun t ht hW => ⟨rfl, ht⟩) (fun _ h => nomatch h) (zdt_at zt_X9_state_0 2 rfl)
set_option maxHeartbeats 4000000 in
set_option maxRecDepth 100000 in
theorem c_X9_slotInfo (l : Launch) (D : va_G) (cy : Nat → ClassId) (tt : Nat → Nat) (sz : Nat) (h0 : Nat) (h0_buffer : Nat) (h0_slots : Nat) (h0_counters : Nat) (h0_officerPin : Nat) (h0_userPin : Nat) (h0_words : Nat) (h0_sha : Nat) (h0_stream : Nat) (h0_aes : Nat) (h0_modes : Nat) (h0_gcm : Nat) (h0_generator : Nat) (h0_tests : Nat) (h0_message : Nat) (h0_secret : Nat) (hP_o : Nat → Nat) (hP_k : Nat → Nat) (p1 : Int32) (p2 : Int32) (cP_kind : Nat → Int32) (cP_length : Nat → Int32) (cP_role : Nat → Int32) (cP_usage : Nat → Int32) (cP_uses : Nat → Int32) (c_state : Int32) (c_testsDone : Int32) (c_faults : Int32) (c_streamBegun : Int32) (cPK : Nat → Nat → Int32) (r_ : Int32) (hf : f_X9_slotInfo p1 p2 cP_kind cP_length cP_role cP_usage cP_uses = some r_) : Met l yX9_slotInfo wsX9_slotInfo ({ frames := 1, cells := 0, slots := 0, locals := 20 }) (zPc D cy tt sz [.ref h0, .int p1, .int p2] ([(h0, .inr (11, [.ref h0_buffer, .ref h0_slots, .ref h0_counters, .ref h0_officerPin, .ref h0_userPin, .ref h0_words, .ref h0_sha, .ref h0_stream, .ref h0_aes, .ref h0_modes, .ref h0_gcm, .ref h0_generator, .ref h0_tests, .ref h0_message, .ref h0_secret, .int c_state, .int c_testsDone, .int c_faults, .int c_streamBegun])), (h0_slots, .inl (cy 4, 16, .inr (.inr (.inr (.inr (fun j => some (hP_o j)))))))] ++ zpl (cy 0) hP_o hP_k cP_kind cP_length cP_usage cP_role cP_uses cPK)) (fun _ st o t => o = .returned (some (.int r_)) ∧ t.heap = st.heap) 0 0 (fun _ => False) := by
  refine Met.ofW (cc := cX9_slotInfo) (maxL := 4) (ret := (some .int)) (by decide) rfl ?_
  intro p e s m args below meth c s₁ B hml hv
  obtain ⟨rfl, rfl, hP, hD0, hE⟩ := hv
  have hx := B.exec
  have hb := B.bytes
  have hr := B.returns
  have hts := atoms_spec (ws := wsX9_slotInfo) B.pre
  have hown : s.vm.findClass RX9 = some m.cls := findClass_of_methodNamed B.named
  have hlocks := B.notSynchronized
  clear B
  have hD := hD0.self (sz := s.heap.size)
  generalize hAe : va_A ([(h0, .inr (11, [.ref h0_buffer, .ref h0_slots, .ref h0_counters, .ref h0_officerPin, .ref h0_userPin, .ref h0_words, .ref h0_sha, .ref h0_stream, .ref h0_aes, .ref h0_modes, .ref h0_gcm, .ref h0_generator, .ref h0_tests, .ref h0_message, .ref h0_secret, .int c_state, .int c_testsDone, .int c_faults, .int c_streamBegun])), (h0_slots, .inl (cy 4, 16, .inr (.inr (.inr (.inr (fun j => some (hP_o j)))))))] ++ zpl (cy 0) hP_o hP_k cP_kind cP_length cP_usage cP_role cP_uses cPK) s.heap.size = A at hD hE
  have hA : ∀ q : Nat, s.heap.size ≤ q → A q := fun q h => by rw [← hAe]; exact Or.inr h
  clear hAe hD0
  have hS : va_S A s.heap s.heap [] := va_S.rf
  have hK := hE.1
  have hw0 := hts (.fieldLink RX9 15 "SealedModule" "slots" "[LSealedModule$Slot;") (by decide +kernel)
  have hw1 := hts (.fieldLink RX9 204 "SealedModule$Slot" "kind" "I") (by decide +kernel)
  have hw2 := hts (.fieldLink RX9 207 "SealedModule$Slot" "length" "I") (by decide +kernel)
  have hw3 := hts (.fieldLink RX9 210 "SealedModule$Slot" "usage" "I") (by decide +kernel)
  have hw4 := hts (.fieldLink RX9 213 "SealedModule$Slot" "role" "I") (by decide +kernel)
  have hw5 := hts (.fieldLink RX9 216 "SealedModule$Slot" "uses" "I") (by decide +kernel)
  have hcX9 : ∀ w ∈ u_ws RX9 TX9 19, w ∈ wsX9_slotInfo := (fun _ h => List.mem_cons_of_mem _ (List.mem_append_left _ (List.mem_append_left _ (List.mem_append_right _ h))))
  have hcX8 : ∀ w ∈ u_ws RX8 TX8 6, w ∈ wsX9_slotInfo := (fun _ h => List.mem_cons_of_mem _ (List.mem_append_left _ (List.mem_append_right _ h)))
  have hl := lv_entry ([.ref h0, .int p1, .int p2]) (n := 4) (Nat.le_of_ble_eq_true rfl)
  rw [lg_entry_eq]
  generalize (lg_sl ([.ref h0, .int p1, .int p2]) ++ List.replicate (4 - (lg_sl ([.ref h0, .int p1, .int p2])).length) Slot.unset).toArray = ls at hl ⊢
  replace hl : lv_has ls 4 [(0, .ref h0), (1, .int p1), (2, .int p2)] := hl
  unfold f_X9_slotInfo at hf
  refine zgo (fun GW hTo hFr => ?_)
  refine hFr _ _ _ ?_
  refine lv_iload_n (pc := 0) hx hb (zdt_at zt_X9_slotInfo_0 0 rfl) rfl (lv_at hl 1 rfl) ?_
  replace hf := zb_s hf
  obtain ⟨r_1, hc_, hf⟩ := hf
  refine zcs (pc := 1) (rv := (some (.int r_1))) (va_runS (As := [.int p1]) (rest := []) ⟨hx, hb, hml, hown, hts⟩ (c_X9_isSlot l D cy tt s.heap.size p1 r_1 hc_) (va_cwS 1 hts gX9_slotInfo_X9_isSlot rfl rfl rfl (by decide +kernel) ⟨Nat.le_of_ble_eq_true rfl, Nat.le_of_ble_eq_true rfl⟩) ⟨zblind, zpre hE hS (hP.sub [] rfl) (hD.sub [] (by decide) rfl) (va_free hD hS hA [] rfl)⟩ rfl rfl hl.1 rfl (lv_room (Nat.le_of_ble_eq_true rfl)) (zdt_at zt_X9_slotInfo_0 1 rfl) ⟨Nat.zero_le _, Nat.zero_le _⟩) ?_
  clear hc_
  refine W.eq (g2 := F0 m 4 ls [.int r_1]) rfl ?_
  refine lv_if_eq (pc := 4) (tgt := 16) hx hb (zdt_at zt_X9_slotInfo_0 2 rfl) (by decide) (fun cn_ => ?t_2) (fun cn_ => ?f_3)
  case t_2 =>
    replace hf := zt_s cn_ hf
    clear cn_
    exact absurd hf (by simp)
  replace hf := ze_s cn_ hf
  clear cn_
  refine lv_iload_n (pc := 7) hx hb (zdt_at zt_X9_slotInfo_0 3 rfl) rfl (lv_at hl 2 rfl) ?_
  refine lv_if_lt (pc := 8) (tgt := 16) hx hb (zdt_at zt_X9_slotInfo_0 4 rfl) (by decide) (fun cn_ => ?t_4) (fun cn_ => ?f_5)
  case t_4 =>
    replace hf := zt_s cn_ hf
    clear cn_
    exact absurd hf (by simp)
  replace hf := ze_s cn_ hf
  clear cn_
  refine lv_iload_n (pc := 11) hx hb (zdt_at zt_X9_slotInfo_0 5 rfl) rfl (lv_at hl 2 rfl) ?_
  refine lv_iconst (pc := 12) (v := (4 : Int32)) hx hb (zdt_at zt_X9_slotInfo_0 6 rfl) (by decide) ?_
  refine lv_icmp_le (pc := 13) (tgt := 26) hx hb (zdt_at zt_X9_slotInfo_0 7 rfl) (by decide) (fun cn_ => ?t_6) (fun cn_ => ?f_7)
  case f_7 =>
    replace hf := ze_s cn_ hf
    clear cn_
    exact absurd hf (by simp)
  replace hf := zt_s cn_ hf
  clear cn_
  refine lv_aload_n (pc := 26) hx hb (zdt_at zt_X9_slotInfo_0 13 rfl) rfl (lv_at hl 0 rfl) ?_
  refine va_get (pc := 27) (D := D) (ci := 11) (v := .ref h0_slots) (C := RX9) (T := TX9) (N := 19) hx hb hts hcX9 hown hK hP 0 rfl rfl 1 (by decide) hw0 (fun _ h9 => h9) rfl (zdt_at zt_X9_slotInfo_0 14 rfl) ?_
  refine lv_iload_n (pc := 30) hx hb (zdt_at zt_X9_slotInfo_0 15 rfl) rfl (lv_at hl 1 rfl) ?_
  replace hf := zk_s hf
  have hj_8 : p1.toNatClampNeg < 16 := Nat.not_le.mp fun q => hf.1 (Or.inr q)
  refine va_aldq (pc := 31) (C := RX8) hx hb hK hP 1 4 rfl rfl hf.1 (zdt_at zt_X9_slotInfo_0 16 rfl) ?_
  replace hf := hf.2
  refine lv_astore_n (pc := 32) (lv' := [(3, .ref (hP_o p1.toNatClampNeg)), (0, .ref h0), (1, .int p1), (2, .int p2)]) hx hb (zdt_at zt_X9_slotInfo_0 17 rfl) rfl hl (by decide) rfl ?_
  clear hl
  intro ls hl
  refine lv_aload_n (pc := 33) hx hb (zdt_at zt_X9_slotInfo_0 18 rfl) rfl (lv_at hl 0 rfl) ?_
  replace hf := zb_s hf
  obtain ⟨r_9, hc_, hf⟩ := hf
  refine zcs (pc := 34) (rv := (some (.int r_9))) (va_runV (As := []) (rest := []) ⟨hx, hb, hml, hown, hts⟩ (c_X8_isEmpty l D cy tt s.heap.size hP_o hP_k p1.toNatClampNeg cP_kind cP_length cP_usage cP_role cP_uses cPK r_9 hj_8 hc_) (cwV 0 hts gX9_slotInfo_X8_isEmpty rfl rfl rfl (by decide +kernel) ⟨Nat.le_of_ble_eq_true rfl, Nat.le_of_ble_eq_true rfl⟩) ⟨zblind, va_recv hK hP (ci := 10) (q0 := (2 + p1.toNatClampNeg)) rfl (zplO_get (X := [(h0, .inr (11, [.ref h0_buffer, .ref h0_slots, .ref h0_counters, .ref h0_officerPin, .ref h0_userPin, .ref h0_words, .ref h0_sha, .ref h0_stream, .ref h0_aes, .ref h0_modes, .ref h0_gcm, .ref h0_generator, .ref h0_tests, .ref h0_message, .ref h0_secret, .int c_state, .int c_testsDone, .int c_faults, .int c_streamBegun])), (h0_slots, .inl (cy 4, 16, .inr (.inr (.inr (.inr (fun j => some (hP_o j)))))))]) (n := 2) rfl hj_8), zpre hE hS (va_P.part (X := [(h0, .inr (11, [.ref h0_buffer, .ref h0_slots, .ref h0_counters, .ref h0_officerPin, .ref h0_userPin, .ref h0_words, .ref h0_sha, .ref h0_stream, .ref h0_aes, .ref h0_modes, .ref h0_gcm, .ref h0_generator, .ref h0_tests, .ref h0_message, .ref h0_secret, .int c_state, .int c_testsDone, .int c_faults, .int c_streamBegun])), (h0_slots, .inl (cy 4, 16, .inr (.inr (.inr (.inr (fun j => some (hP_o j)))))))]) hP [] rfl) (va_D.part (X := [(h0, .inr (11, [.ref h0_buffer, .ref h0_slots, .ref h0_counters, .ref h0_officerPin, .ref h0_userPin, .ref h0_words, .ref h0_sha, .ref h0_stream, .ref h0_aes, .ref h0_modes, .ref h0_gcm, .ref h0_generator, .ref h0_tests, .ref h0_message, .ref h0_secret, .int c_state, .int c_testsDone, .int c_faults, .int c_streamBegun])), (h0_slots, .inl (cy 4, 16, .inr (.inr (.inr (.inr (fun j => some (hP_o j)))))))]) hD [] (by decide) rfl) (va_freeP (X := [(h0, .inr (11, [.ref h0_buffer, .ref h0_slots, .ref h0_counters, .ref h0_officerPin, .ref h0_userPin, .ref h0_words, .ref h0_sha, .ref h0_stream, .ref h0_aes, .ref h0_modes, .ref h0_gcm, .ref h0_generator, .ref h0_tests, .ref h0_message, .ref h0_secret, .int c_state, .int c_testsDone, .int c_faults, .int c_streamBegun])), (h0_slots, .inl (cy 4, 16, .inr (.inr (.inr (.inr (fun j => some (hP_o j)))))))]) hD hS hA [] rfl)⟩ rfl rfl hl.1 rfl (lv_room (Nat.le_of_ble_eq_true rfl)) (zdt_at zt_X9_slotInfo_0 19 rfl) ⟨Nat.zero_le _, Nat.zero_le _⟩) ?_
  clear hc_
  refine W.eq (g2 := F0 m 37 ls [.int r_9]) rfl ?_
  refine lv_if_eq (pc := 37) (tgt := 42) hx hb (zdt_at zt_X9_slotInfo_0 20 rfl) (by decide) (fun cn_ => ?t_10) (fun cn_ => ?f_11)
  case f_11 =>
    replace hf := ze_s cn_ hf
    clear cn_
    refine lv_iconst (pc := 40) (v := (-1 : Int32)) hx hb (zdt_at zt_X9_slotInfo_0 21 rfl) (by decide) ?_
    cases hf
    exact W.iret (pc := 41) hx hb hr (fun t ht hW => ⟨rfl, ht⟩) (fun _ h => nomatch h) (zdt_at zt_X9_slotInfo_0 22 rfl)
  replace hf := zt_s cn_ hf
  clear cn_
  refine lv_iload_n (pc := 42) hx hb (zdt_at zt_X9_slotInfo_0 23 rfl) rfl (lv_at hl 3 rfl) ?_
  by_cases hs_12 : p2 = (0 : Int32)
  · replace hf := zt_s hs_12 hf
    refine lv_tableIn (pc := 43) (tgt := 72) (off := 29) hx hb (zdt_at zt_X9_slotInfo_0 24 rfl) (by rw [hs_12]; decide) (by rw [hs_12]; decide) (by rw [hs_12]; rfl) (by decide) ?_
    clear hs_12
    refine lv_aload_n (pc := 72) hx hb (zdt_at zt_X9_slotInfo_0 25 rfl) rfl (lv_at hl 0 rfl) ?_
    refine va_get (pc := 73) (D := D) (ci := 10) (v := .int (cP_kind p1.toNatClampNeg)) (C := RX8) (T := TX8) (N := 6) hx hb hts hcX8 hown hK hP (2 + p1.toNatClampNeg) (zplO_get (X := [(h0, .inr (11, [.ref h0_buffer, .ref h0_slots, .ref h0_counters, .ref h0_officerPin, .ref h0_userPin, .ref h0_words, .ref h0_sha, .ref h0_stream, .ref h0_aes, .ref h0_modes, .ref h0_gcm, .ref h0_generator, .ref h0_tests, .ref h0_message, .ref h0_secret, .int c_state, .int c_testsDone, .int c_faults, .int c_streamBegun])), (h0_slots, .inl (cy 4, 16, .inr (.inr (.inr (.inr (fun j => some (hP_o j)))))))]) (n := 2) rfl hj_8) rfl 1 (by decide) hw1 (fun _ h9 => h9) rfl (zdt_at zt_X9_slotInfo_0 26 rfl) ?_
    cases hf
    exact W.iret (pc := 76) hx hb hr (fun t ht hW => ⟨rfl, ht⟩) (fun _ h => nomatch h) (zdt_at zt_X9_slotInfo_0 27 rfl)
  replace hf := ze_s hs_12 hf
  by_cases hs_13 : p2 = (1 : Int32)
  · replace hf := zt_s hs_13 hf
    refine lv_tableIn (pc := 43) (tgt := 77) (off := 34) hx hb (zdt_at zt_X9_slotInfo_0 24 rfl) (by rw [hs_13]; decide) (by rw [hs_13]; decide) (by rw [hs_13]; rfl) (by decide) ?_
    clear hs_13
    refine lv_aload_n (pc := 77) hx hb (zdt_at zt_X9_slotInfo_0 28 rfl) rfl (lv_at hl 0 rfl) ?_
    refine va_get (pc := 78) (D := D) (ci := 10) (v := .int (cP_length p1.toNatClampNeg)) (C := RX8) (T := TX8) (N := 6) hx hb hts hcX8 hown hK hP (2 + p1.toNatClampNeg) (zplO_get (X := [(h0, .inr (11, [.ref h0_buffer, .ref h0_slots, .ref h0_counters, .ref h0_officerPin, .ref h0_userPin, .ref h0_words, .ref h0_sha, .ref h0_stream, .ref h0_aes, .ref h0_modes, .ref h0_gcm, .ref h0_generator, .ref h0_tests, .ref h0_message, .ref h0_secret, .int c_state, .int c_testsDone, .int c_faults, .int c_streamBegun])), (h0_slots, .inl (cy 4, 16, .inr (.inr (.inr (.inr (fun j => some (hP_o j)))))))]) (n := 2) rfl hj_8) rfl 2 (by decide) hw2 (fun _ h9 => h9) rfl (zdt_at zt_X9_slotInfo_0 29 rfl) ?_
    cases hf
    exact W.iret (pc := 81) hx hb hr (fun t ht hW => ⟨rfl, ht⟩) (fun _ h => nomatch h) (zdt_at zt_X9_slotInfo_0 30 rfl)
  replace hf := ze_s hs_13 hf
  by_cases hs_14 : p2 = (2 : Int32)
  · replace hf := zt_s hs_14 hf
    refine lv_tableIn (pc := 43) (tgt := 82) (off := 39) hx hb (zdt_at zt_X9_slotInfo_0 24 rfl) (by rw [hs_14]; decide) (by rw [hs_14]; decide) (by rw [hs_14]; rfl) (by decide) ?_
    clear hs_14
    refine lv_aload_n (pc := 82) hx hb (zdt_at zt_X9_slotInfo_0 31 rfl) rfl (lv_at hl 0 rfl) ?_
    refine va_get (pc := 83) (D := D) (ci := 10) (v := .int (cP_usage p1.toNatClampNeg)) (C := RX8) (T := TX8) (N := 6) hx hb hts hcX8 hown hK hP (2 + p1.toNatClampNeg) (zplO_get (X := [(h0, .inr (11, [.ref h0_buffer, .ref h0_slots, .ref h0_counters, .ref h0_officerPin, .ref h0_userPin, .ref h0_words, .ref h0_sha, .ref h0_stream, .ref h0_aes, .ref h0_modes, .ref h0_gcm, .ref h0_generator, .ref h0_tests, .ref h0_message, .ref h0_secret, .int c_state, .int c_testsDone, .int c_faults, .int c_streamBegun])), (h0_slots, .inl (cy 4, 16, .inr (.inr (.inr (.inr (fun j => some (hP_o j)))))))]) (n := 2) rfl hj_8) rfl 3 (by decide) hw3 (fun _ h9 => h9) rfl (zdt_at zt_X9_slotInfo_0 32 rfl) ?_
    cases hf
    exact W.iret (pc := 86) hx hb hr (fun t ht hW => ⟨rfl, ht⟩) (fun _ h => nomatch h) (zdt_at zt_X9_slotInfo_0 33 rfl)
  replace hf := ze_s hs_14 hf
  by_cases hs_15 : p2 = (3 : Int32)
  · replace hf := zt_s hs_15 hf
    refine lv_tableIn (pc := 43) (tgt := 87) (off := 44) hx hb (zdt_at zt_X9_slotInfo_0 24 rfl) (by rw [hs_15]; decide) (by rw [hs_15]; decide) (by rw [hs_15]; rfl) (by decide) ?_
    clear hs_15
    refine lv_aload_n (pc := 87) hx hb (zdt_at zt_X9_slotInfo_0 34 rfl) rfl (lv_at hl 0 rfl) ?_
    refine va_get (pc := 88) (D := D) (ci := 10) (v := .int (cP_role p1.toNatClampNeg)) (C := RX8) (T := TX8) (N := 6) hx hb hts hcX8 hown hK hP (2 + p1.toNatClampNeg) (zplO_get (X := [(h0, .inr (11, [.ref h0_buffer, .ref h0_slots, .ref h0_counters, .ref h0_officerPin, .ref h0_userPin, .ref h0_words, .ref h0_sha, .ref h0_stream, .ref h0_aes, .ref h0_modes, .ref h0_gcm, .ref h0_generator, .ref h0_tests, .ref h0_message, .ref h0_secret, .int c_state, .int c_testsDone, .int c_faults, .int c_streamBegun])), (h0_slots, .inl (cy 4, 16, .inr (.inr (.inr (.inr (fun j => some (hP_o j)))))))]) (n := 2) rfl hj_8) rfl 4 (by decide) hw4 (fun _ h9 => h9) rfl (zdt_at zt_X9_slotInfo_0 35 rfl) ?_
    cases hf
    exact W.iret (pc := 91) hx hb hr (fun t ht hW => ⟨rfl, ht⟩) (fun _ h => nomatch h) (zdt_at zt_X9_slotInfo_0 36 rfl)
  replace hf := ze_s hs_15 hf
  have kd_16 : GW s.heap [] (F0 m 92 ls []) := by
    refine hFr _ _ _ ?_
    refine lv_aload_n (pc := 92) hx hb (zdt_at zt_X9_slotInfo_0 37 rfl) rfl (lv_at hl 0 rfl) ?_
    refine va_get (pc := 93) (D := D) (ci := 10) (v := .int (cP_uses p1.toNatClampNeg)) (C := RX8) (T := TX8) (N := 6) hx hb hts hcX8 hown hK hP (2 + p1.toNatClampNeg) (zplO_get (X := [(h0, .inr (11, [.ref h0_buffer, .ref h0_slots, .ref h0_counters, .ref h0_officerPin, .ref h0_userPin, .ref h0_words, .ref h0_sha, .ref h0_stream, .ref h0_aes, .ref h0_modes, .ref h0_gcm, .ref h0_generator, .ref h0_tests, .ref h0_message, .ref h0_secret, .int c_state, .int c_testsDone, .int c_faults, .int c_streamBegun])), (h0_slots, .inl (cy 4, 16, .inr (.inr (.inr (.inr (fun j => some (hP_o j)))))))]) (n := 2) rfl hj_8) rfl 5 (by decide) hw5 (fun _ h9 => h9) rfl (zdt_at zt_X9_slotInfo_0 38 rfl) ?_
    cases hf
    exact W.iret (pc := 96) hx hb hr (fun t ht hW => ⟨rfl, ht⟩) (fun _ h => nomatch h) (zdt_at zt_X9_slotInfo_0 39 rfl)
  have n0_ : ¬ p2.toInt = 0 := lv_neT (k := (0 : Int32)) hs_12 (by decide)
  have n1_ : ¬ p2.toInt = 1 := lv_neT (k := (1 : Int32)) hs_13 (by decide)
  have n2_ : ¬ p2.toInt = 2 := lv_neT (k := (2 : Int32)) hs_14 (by decide)
  have n3_ : ¬ p2.toInt = 3 := lv_neT (k := (3 : Int32)) hs_15 (by decide)
  by_cases hr_ : p2.toInt < 0 ∨ 3 < p2.toInt
  · exact lv_tableOut (pc := 43) (tgt := 92) hx hb (zdt_at zt_X9_slotInfo_0 24 rfl) hr_ (by decide) (hTo _ _ _ kd_16)
  · exact absurd hr_ (by omega)
set_option maxHeartbeats 4000000 in
set_option maxRecDepth 100000 in
theorem c_X9_holder (l : Launch) (D : va_G) (cy : Nat → ClassId) (tt : Nat → Nat) (sz : Nat) (h0 : Nat) (h0_buffer : Nat) (h0_slots : Nat) (h0_counters : Nat) (h0_officerPin : Nat) (h0_userPin : Nat) (h0_words : Nat) (h0_sha : Nat) (h0_stream : Nat) (h0_aes : Nat) (h0_modes : Nat) (h0_gcm : Nat) (h0_generator : Nat) (h0_tests : Nat) (h0_message : Nat) (h0_secret : Nat) (c_state : Int32) (c_testsDone : Int32) (c_faults : Int32) (c_streamBegun : Int32) (r_ : Int32) (hf : f_X9_holder c_state = some r_) : Met l yX9_holder wsX9_holder ({ frames := 0, cells := 0, slots := 0, locals := 0 }) (zPc D cy tt sz [.ref h0] ([(h0, .inr (11, [.ref h0_buffer, .ref h0_slots, .ref h0_counters, .ref h0_officerPin, .ref h0_userPin, .ref h0_words, .ref h0_sha, .ref h0_stream, .ref h0_aes, .ref h0_modes, .ref h0_gcm, .ref h0_generator, .ref h0_tests, .ref h0_message, .ref h0_secret, .int c_state, .int c_testsDone, .int c_faults, .int c_streamBegun]))])) (fun _ st o t => o = .returned (some (.int r_)) ∧ t.heap = st.heap) 0 0 (fun _ => False) := by
  refine Met.ofW (cc := cX9_holder) (maxL := 1) (ret := (some .int)) (by decide) rfl ?_
  intro p e s m args below meth c s₁ B hml hv
  obtain ⟨rfl, rfl, hP, hD0, hE⟩ := hv
  have hx := B.exec
  have hb := B.bytes
  have hr := B.returns
  have hts := atoms_spec (ws := wsX9_holder) B.pre
  have hown : s.vm.findClass RX9 = some m.cls := findClass_of_methodNamed B.named
  have hlocks := B.notSynchronized
  clear B
  have hD := hD0.self (sz := s.heap.size)
  generalize hAe : va_A ([(h0, .inr (11, [.ref h0_buffer, .ref h0_slots, .ref h0_counters, .ref h0_officerPin, .ref h0_userPin, .ref h0_words, .ref h0_sha, .ref h0_stream, .ref h0_aes, .ref h0_modes, .ref h0_gcm, .ref h0_generator, .ref h0_tests, .ref h0_message, .ref h0_secret, .int c_state, .int c_testsDone, .int c_faults, .int c_streamBegun]))]) s.heap.size = A at hD hE
  have hA : ∀ q : Nat, s.heap.size ≤ q → A q := fun q h => by rw [← hAe]; exact Or.inr h
  clear hAe hD0
  have hS : va_S A s.heap s.heap [] := va_S.rf
  have hK := hE.1
  have hw0 := hts (.fieldLink RX9 101 "SealedModule" "state" "I") (by decide +kernel)
  have hcX9 : ∀ w ∈ u_ws RX9 TX9 19, w ∈ wsX9_holder := (fun _ h => List.mem_cons_of_mem _ (List.mem_append_right _ h))
  have hl := lv_entry ([.ref h0]) (n := 1) (Nat.le_of_ble_eq_true rfl)
  rw [lg_entry_eq]
  generalize (lg_sl ([.ref h0]) ++ List.replicate (1 - (lg_sl ([.ref h0])).length) Slot.unset).toArray = ls at hl ⊢
  replace hl : lv_has ls 1 [(0, .ref h0)] := hl
  unfold f_X9_holder at hf
  refine zgo (fun GW hTo hFr => ?_)
  refine hFr _ _ _ ?_
  refine lv_aload_n (pc := 0) hx hb (zdt_at zt_X9_holder_0 0 rfl) rfl (lv_at hl 0 rfl) ?_
  refine va_get (pc := 1) (D := D) (ci := 11) (v := .int c_state) (C := RX9) (T := TX9) (N := 19) hx hb hts hcX9 hown hK hP 0 rfl rfl 15 (by decide) hw0 (fun _ h9 => h9) rfl (zdt_at zt_X9_holder_0 1 rfl) ?_
  refine lv_iconst (pc := 4) (v := (3 : Int32)) hx hb (zdt_at zt_X9_holder_0 2 rfl) (by decide) ?_
  refine lv_icmp_ne (pc := 5) (tgt := 12) hx hb (zdt_at zt_X9_holder_0 3 rfl) (by decide) (fun cn_ => ?t_1) (fun cn_ => ?f_2)
  case t_1 =>
    replace hf := ze_s cn_ hf
    clear cn_
    refine lv_iconst (pc := 12) (v := (2 : Int32)) hx hb (zdt_at zt_X9_holder_0 6 rfl) (by decide) ?_
    cases hf
    exact W.iret (pc := 13) hx hb hr (fun t ht hW => ⟨rfl, ht⟩) (fun _ h => nomatch h) (zdt_at zt_X9_holder_0 7 rfl)
  replace hf := zt_s cn_ hf
  clear cn_
  refine lv_iconst (pc := 8) (v := (1 : Int32)) hx hb (zdt_at zt_X9_holder_0 4 rfl) (by decide) ?_
  refine lv_goto (pc := 9) (tgt := 13) hx hb (zdt_at zt_X9_holder_0 5 rfl) (by decide) ?_
  cases hf
  exact W.iret (pc := 13) hx hb hr (fun t ht hW => ⟨rfl, ht⟩) (fun _ h => nomatch h) (zdt_at zt_X9_holder_0 7 rfl)
set_option maxHeartbeats 4000000 in
set_option maxRecDepth 100000 in
theorem c_X9_isForeign (l : Launch) (D : va_G) (cy : Nat → ClassId) (tt : Nat → Nat) (sz : Nat) (h0 : Nat) (h0_buffer : Nat) (h0_slots : Nat) (h0_counters : Nat) (h0_officerPin : Nat) (h0_userPin : Nat) (h0_words : Nat) (h0_sha : Nat) (h0_stream : Nat) (h0_aes : Nat) (h0_modes : Nat) (h0_gcm : Nat) (h0_generator : Nat) (h0_tests : Nat) (h0_message : Nat) (h0_secret : Nat) (hP_o : Nat → Nat) (hP_k : Nat → Nat) (j1 : Nat) (c_state : Int32) (cP_kind : Nat → Int32) (cP_role : Nat → Int32) (c_testsDone : Int32) (c_faults : Int32) (c_streamBegun : Int32) (cP_length : Nat → Int32) (cP_usage : Nat → Int32) (cP_uses : Nat → Int32) (cPK : Nat → Nat → Int32) (r_ : Int32) (hj_j1 : j1 < 16) (hf : f_X9_isForeign j1 c_state cP_kind cP_role = some r_) : Met l yX9_isForeign wsX9_isForeign ({ frames := 1, cells := 0, slots := 0, locals := 20 }) (zPc D cy tt sz [.ref h0, .ref (hP_o j1)] ([(h0, .inr (11, [.ref h0_buffer, .ref h0_slots, .ref h0_counters, .ref h0_officerPin, .ref h0_userPin, .ref h0_words, .ref h0_sha, .ref h0_stream, .ref h0_aes, .ref h0_modes, .ref h0_gcm, .ref h0_generator, .ref h0_tests, .ref h0_message, .ref h0_secret, .int c_state, .int c_testsDone, .int c_faults, .int c_streamBegun]))] ++ zpl (cy 0) hP_o hP_k cP_kind cP_length cP_usage cP_role cP_uses cPK)) (fun _ st o t => o = .returned (some (.int r_)) ∧ t.heap = st.heap) 0 0 (fun _ => False) := by
  refine Met.ofW (cc := cX9_isForeign) (maxL := 2) (ret := (some .boolean)) (by decide) rfl ?_
  intro p e s m args below meth c s₁ B hml hv
  obtain ⟨rfl, rfl, hP, hD0, hE⟩ := hv
  have hx := B.exec
  have hb := B.bytes
  have hr := B.returns
  have hts := atoms_spec (ws := wsX9_isForeign) B.pre
  have hown : s.vm.findClass RX9 = some m.cls := findClass_of_methodNamed B.named
  have hlocks := B.notSynchronized
  clear B
  have hD := hD0.self (sz := s.heap.size)
  generalize hAe : va_A ([(h0, .inr (11, [.ref h0_buffer, .ref h0_slots, .ref h0_counters, .ref h0_officerPin, .ref h0_userPin, .ref h0_words, .ref h0_sha, .ref h0_stream, .ref h0_aes, .ref h0_modes, .ref h0_gcm, .ref h0_generator, .ref h0_tests, .ref h0_message, .ref h0_secret, .int c_state, .int c_testsDone, .int c_faults, .int c_streamBegun]))] ++ zpl (cy 0) hP_o hP_k cP_kind cP_length cP_usage cP_role cP_uses cPK) s.heap.size = A at hD hE
  have hA : ∀ q : Nat, s.heap.size ≤ q → A q := fun q h => by rw [← hAe]; exact Or.inr h
  clear hAe hD0
  have hS : va_S A s.heap s.heap [] := va_S.rf
  have hK := hE.1
  have hw0 := hts (.fieldLink RX9 213 "SealedModule$Slot" "role" "I") (by decide +kernel)
  have hcX8 : ∀ w ∈ u_ws RX8 TX8 6, w ∈ wsX9_isForeign := (fun _ h => List.mem_cons_of_mem _ (List.mem_append_left _ (List.mem_append_right _ h)))
  have hl := lv_entry ([.ref h0, .ref (hP_o j1)]) (n := 2) (Nat.le_of_ble_eq_true rfl)
  rw [lg_entry_eq]
  generalize (lg_sl ([.ref h0, .ref (hP_o j1)]) ++ List.replicate (2 - (lg_sl ([.ref h0, .ref (hP_o j1)])).length) Slot.unset).toArray = ls at hl ⊢
  replace hl : lv_has ls 2 [(0, .ref h0), (1, .ref (hP_o j1))] := hl
  unfold f_X9_isForeign at hf
  refine zgo (fun GW hTo hFr => ?_)
  refine hFr _ _ _ ?_
  refine lv_aload_n (pc := 0) hx hb (zdt_at zt_X9_isForeign_0 0 rfl) rfl (lv_at hl 1 rfl) ?_
  replace hf := zb_s hf
  obtain ⟨r_1, hc_, hf⟩ := hf
  refine zcs (pc := 1) (rv := (some (.int r_1))) (va_runV (As := []) (rest := []) ⟨hx, hb, hml, hown, hts⟩ (c_X8_isEmpty l D cy tt s.heap.size hP_o hP_k j1 cP_kind cP_length cP_usage cP_role cP_uses cPK r_1 hj_j1 hc_) (cwV 0 hts gX9_isForeign_X8_isEmpty rfl rfl rfl (by decide +kernel) ⟨Nat.le_of_ble_eq_true rfl, Nat.le_of_ble_eq_true rfl⟩) ⟨zblind, va_recv hK hP (ci := 10) (q0 := (1 + j1)) rfl (zplO_get (X := [(h0, .inr (11, [.ref h0_buffer, .ref h0_slots, .ref h0_counters, .ref h0_officerPin, .ref h0_userPin, .ref h0_words, .ref h0_sha, .ref h0_stream, .ref h0_aes, .ref h0_modes, .ref h0_gcm, .ref h0_generator, .ref h0_tests, .ref h0_message, .ref h0_secret, .int c_state, .int c_testsDone, .int c_faults, .int c_streamBegun]))]) (n := 1) rfl hj_j1), zpre hE hS (va_P.part (X := [(h0, .inr (11, [.ref h0_buffer, .ref h0_slots, .ref h0_counters, .ref h0_officerPin, .ref h0_userPin, .ref h0_words, .ref h0_sha, .ref h0_stream, .ref h0_aes, .ref h0_modes, .ref h0_gcm, .ref h0_generator, .ref h0_tests, .ref h0_message, .ref h0_secret, .int c_state, .int c_testsDone, .int c_faults, .int c_streamBegun]))]) hP [] rfl) (va_D.part (X := [(h0, .inr (11, [.ref h0_buffer, .ref h0_slots, .ref h0_counters, .ref h0_officerPin, .ref h0_userPin, .ref h0_words, .ref h0_sha, .ref h0_stream, .ref h0_aes, .ref h0_modes, .ref h0_gcm, .ref h0_generator, .ref h0_tests, .ref h0_message, .ref h0_secret, .int c_state, .int c_testsDone, .int c_faults, .int c_streamBegun]))]) hD [] (by decide) rfl) (va_freeP (X := [(h0, .inr (11, [.ref h0_buffer, .ref h0_slots, .ref h0_counters, .ref h0_officerPin, .ref h0_userPin, .ref h0_words, .ref h0_sha, .ref h0_stream, .ref h0_aes, .ref h0_modes, .ref h0_gcm, .ref h0_generator, .ref h0_tests, .ref h0_message, .ref h0_secret, .int c_state, .int c_testsDone, .int c_faults, .int c_streamBegun]))]) hD hS hA [] rfl)⟩ rfl rfl hl.1 rfl (lv_room (Nat.le_of_ble_eq_true rfl)) (zdt_at zt_X9_isForeign_0 1 rfl) ⟨Nat.zero_le _, Nat.zero_le _⟩) ?_
  clear hc_
  refine W.eq (g2 := F0 m 4 ls [.int r_1]) rfl ?_
  refine lv_if_ne (pc := 4) (tgt := 22) hx hb (zdt_at zt_X9_isForeign_0 2 rfl) (by decide) (fun cn_ => ?t_2) (fun cn_ => ?f_3)
  case t_2 =>
    replace hf := ze_s cn_ hf
    clear cn_
    refine lv_iconst (pc := 22) (v := (0 : Int32)) hx hb (zdt_at zt_X9_isForeign_0 10 rfl) (by decide) ?_
    cases hf
    exact W.zret (pc := 23) hx hb hr rfl (fun t ht hW => ⟨rfl, ht⟩) (fun _ h => nomatch h) (zdt_at zt_X9_isForeign_0 11 rfl)
  replace hf := zt_s cn_ hf
  clear cn_
  refine lv_aload_n (pc := 7) hx hb (zdt_at zt_X9_isForeign_0 3 rfl) rfl (lv_at hl 1 rfl) ?_
  refine va_get (pc := 8) (D := D) (ci := 10) (v := .int (cP_role j1)) (C := RX8) (T := TX8) (N := 6) hx hb hts hcX8 hown hK hP (1 + j1) (zplO_get (X := [(h0, .inr (11, [.ref h0_buffer, .ref h0_slots, .ref h0_counters, .ref h0_officerPin, .ref h0_userPin, .ref h0_words, .ref h0_sha, .ref h0_stream, .ref h0_aes, .ref h0_modes, .ref h0_gcm, .ref h0_generator, .ref h0_tests, .ref h0_message, .ref h0_secret, .int c_state, .int c_testsDone, .int c_faults, .int c_streamBegun]))]) (n := 1) rfl hj_j1) rfl 4 (by decide) hw0 (fun _ h9 => h9) rfl (zdt_at zt_X9_isForeign_0 4 rfl) ?_
  refine lv_aload_n (pc := 11) hx hb (zdt_at zt_X9_isForeign_0 5 rfl) rfl (lv_at hl 0 rfl) ?_
  replace hf := zb_s hf
  obtain ⟨r_4, hc_, hf⟩ := hf
  refine zcs (pc := 12) (rv := (some (.int r_4))) (va_runV (As := []) (rest := [.int (cP_role j1)]) ⟨hx, hb, hml, hown, hts⟩ (c_X9_holder l D cy tt s.heap.size h0 h0_buffer h0_slots h0_counters h0_officerPin h0_userPin h0_words h0_sha h0_stream h0_aes h0_modes h0_gcm h0_generator h0_tests h0_message h0_secret c_state c_testsDone c_faults c_streamBegun r_4 hc_) (cwV 0 hts gX9_isForeign_X9_holder rfl rfl rfl (by decide +kernel) ⟨Nat.le_of_ble_eq_true rfl, Nat.le_of_ble_eq_true rfl⟩) ⟨zblind, va_recv hK hP (ci := 11) (q0 := 0) rfl rfl, zpre hE hS (hP.sub [0] rfl) (hD.sub [0] (by decide) rfl) (va_free hD hS hA [0] rfl)⟩ rfl rfl hl.1 rfl (lv_room (Nat.le_of_ble_eq_true rfl)) (zdt_at zt_X9_isForeign_0 6 rfl) ⟨Nat.zero_le _, Nat.zero_le _⟩) ?_
  clear hc_
  refine W.eq (g2 := F0 m 15 ls [.int r_4, .int (cP_role j1)]) rfl ?_
  refine lv_icmp_eq (pc := 15) (tgt := 22) hx hb (zdt_at zt_X9_isForeign_0 7 rfl) (by decide) (fun cn_ => ?t_5) (fun cn_ => ?f_6)
  case t_5 =>
    replace hf := zt_s cn_ hf
    clear cn_
    refine lv_iconst (pc := 22) (v := (0 : Int32)) hx hb (zdt_at zt_X9_isForeign_0 10 rfl) (by decide) ?_
    cases hf
    exact W.zret (pc := 23) hx hb hr rfl (fun t ht hW => ⟨rfl, ht⟩) (fun _ h => nomatch h) (zdt_at zt_X9_isForeign_0 11 rfl)
  replace hf := ze_s cn_ hf
  clear cn_
  refine lv_iconst (pc := 18) (v := (1 : Int32)) hx hb (zdt_at zt_X9_isForeign_0 8 rfl) (by decide) ?_
  refine lv_goto (pc := 19) (tgt := 23) hx hb (zdt_at zt_X9_isForeign_0 9 rfl) (by decide) ?_
  cases hf
  exact W.zret (pc := 23) hx hb hr rfl (fun t ht hW => ⟨rfl, ht⟩) (fun _ h => nomatch h) (zdt_at zt_X9_isForeign_0 11 rfl)
set_option maxHeartbeats 4000000 in
set_option maxRecDepth 100000 in
theorem c_X9_zeroiseAnswer (l : Launch) (D : va_G) (cy : Nat → ClassId) (tt : Nat → Nat) (sz : Nat) (h0 : Nat) (h0_buffer : Nat) (h0_slots : Nat) (h0_counters : Nat) (h0_officerPin : Nat) (h0_userPin : Nat) (h0_words : Nat) (h0_sha : Nat) (h0_stream : Nat) (h0_aes : Nat) (h0_modes : Nat) (h0_gcm : Nat) (h0_generator : Nat) (h0_tests : Nat) (h0_message : Nat) (h0_secret : Nat) (hP_o : Nat → Nat) (hP_k : Nat → Nat) (p1 : Int32) (c_state : Int32) (cP_kind : Nat → Int32) (cP_role : Nat → Int32) (cPK : Nat → Nat → Int32) (c_testsDone : Int32) (c_faults : Int32) (c_streamBegun : Int32) (cP_length : Nat → Int32) (cP_usage : Nat → Int32) (cP_uses : Nat → Int32) (r_ : Int32) (cP_kind' : Nat → Int32) (cPK' : Nat → Nat → Int32) (hf : f_X9_zeroiseAnswer p1 c_state cP_kind cP_role cPK = some (r_, cP_kind', cPK')) : Met l yX9_zeroiseAnswer wsX9_zeroiseAnswer ({ frames := 2, cells := 0, slots := 0, locals := 43 }) (zPc D cy tt sz [.ref h0, .int p1] ([(h0, .inr (11, [.ref h0_buffer, .ref h0_slots, .ref h0_counters, .ref h0_officerPin, .ref h0_userPin, .ref h0_words, .ref h0_sha, .ref h0_stream, .ref h0_aes, .ref h0_modes, .ref h0_gcm, .ref h0_generator, .ref h0_tests, .ref h0_message, .ref h0_secret, .int c_state, .int c_testsDone, .int c_faults, .int c_streamBegun])), (h0_slots, .inl (cy 4, 16, .inr (.inr (.inr (.inr (fun j => some (hP_o j)))))))] ++ zpl (cy 0) hP_o hP_k cP_kind cP_length cP_usage cP_role cP_uses cPK)) (zQ D (some (.int r_)) ([(h0, .inr (11, [.ref h0_buffer, .ref h0_slots, .ref h0_counters, .ref h0_officerPin, .ref h0_userPin, .ref h0_words, .ref h0_sha, .ref h0_stream, .ref h0_aes, .ref h0_modes, .ref h0_gcm, .ref h0_generator, .ref h0_tests, .ref h0_message, .ref h0_secret, .int c_state, .int c_testsDone, .int c_faults, .int c_streamBegun])), (h0_slots, .inl (cy 4, 16, .inr (.inr (.inr (.inr (fun j => some (hP_o j)))))))] ++ zpl (cy 0) hP_o hP_k cP_kind' cP_length cP_usage cP_role cP_uses cPK') (va_A ([(h0, .inr (11, [.ref h0_buffer, .ref h0_slots, .ref h0_counters, .ref h0_officerPin, .ref h0_userPin, .ref h0_words, .ref h0_sha, .ref h0_stream, .ref h0_aes, .ref h0_modes, .ref h0_gcm, .ref h0_generator, .ref h0_tests, .ref h0_message, .ref h0_secret, .int c_state, .int c_testsDone, .int c_faults, .int c_streamBegun])), (h0_slots, .inl (cy 4, 16, .inr (.inr (.inr (.inr (fun j => some (hP_o j)))))))] ++ zpl (cy 0) hP_o hP_k cP_kind cP_length cP_usage cP_role cP_uses cPK) sz)) 0 0 (va_A ([(h0, .inr (11, [.ref h0_buffer, .ref h0_slots, .ref h0_counters, .ref h0_officerPin, .ref h0_userPin, .ref h0_words, .ref h0_sha, .ref h0_stream, .ref h0_aes, .ref h0_modes, .ref h0_gcm, .ref h0_generator, .ref h0_tests, .ref h0_message, .ref h0_secret, .int c_state, .int c_testsDone, .int c_faults, .int c_streamBegun])), (h0_slots, .inl (cy 4, 16, .inr (.inr (.inr (.inr (fun j => some (hP_o j)))))))] ++ zpl (cy 0) hP_o hP_k cP_kind cP_length cP_usage cP_role cP_uses cPK) sz) := by
  refine Met.ofW (cc := cX9_zeroiseAnswer) (maxL := 2) (ret := (some .int)) (by decide) rfl ?_
  intro p e s m args below meth c s₁ B hml hv
  obtain ⟨rfl, rfl, hP, hD0, hE⟩ := hv
  have hx := B.exec
  have hb := B.bytes
  have hr := B.returns
  have hts := atoms_spec (ws := wsX9_zeroiseAnswer) B.pre
  have hown : s.vm.findClass RX9 = some m.cls := findClass_of_methodNamed B.named
  have hlocks := B.notSynchronized
  clear B
  have hD := hD0.self (sz := s.heap.size)
  generalize hAe : va_A ([(h0, .inr (11, [.ref h0_buffer, .ref h0_slots, .ref h0_counters, .ref h0_officerPin, .ref h0_userPin, .ref h0_words, .ref h0_sha, .ref h0_stream, .ref h0_aes, .ref h0_modes, .ref h0_gcm, .ref h0_generator, .ref h0_tests, .ref h0_message, .ref h0_secret, .int c_state, .int c_testsDone, .int c_faults, .int c_streamBegun])), (h0_slots, .inl (cy 4, 16, .inr (.inr (.inr (.inr (fun j => some (hP_o j)))))))] ++ zpl (cy 0) hP_o hP_k cP_kind cP_length cP_usage cP_role cP_uses cPK) s.heap.size = A at hD hE ⊢
  have hA : ∀ q : Nat, s.heap.size ≤ q → A q := fun q h => by rw [← hAe]; exact Or.inr h
  clear hAe hD0
  have hS : va_S A s.heap s.heap [] := va_S.rf
  have hK := hE.1
  have hw0 := hts (.fieldLink RX9 15 "SealedModule" "slots" "[LSealedModule$Slot;") (by decide +kernel)
  have hcX9 : ∀ w ∈ u_ws RX9 TX9 19, w ∈ wsX9_zeroiseAnswer := (fun _ h => List.mem_cons_of_mem _ (List.mem_append_left _ (List.mem_append_right _ h)))
  have hl := lv_entry ([.ref h0, .int p1]) (n := 2) (Nat.le_of_ble_eq_true rfl)
  rw [lg_entry_eq]
  generalize (lg_sl ([.ref h0, .int p1]) ++ List.replicate (2 - (lg_sl ([.ref h0, .int p1])).length) Slot.unset).toArray = ls at hl ⊢
  replace hl : lv_has ls 2 [(0, .ref h0), (1, .int p1)] := hl
  unfold f_X9_zeroiseAnswer at hf
  refine zgo (fun GW hTo hFr => ?_)
  refine hFr _ _ _ ?_
  obtain ⟨H, hHe⟩ : ∃ H, H = s.heap := ⟨_, rfl⟩
  obtain ⟨locs, hLe⟩ : ∃ L : List Loc, L = [] := ⟨_, rfl⟩
  rw [← hHe] at hP
  replace hS : va_S A s.heap H locs := by rw [hHe, hLe]; exact hS
  refine zat hHe.symm hLe.symm ?_
  clear hHe hLe
  refine lv_aload_n (pc := 0) hx hb (zdt_at zt_X9_zeroiseAnswer_0 0 rfl) rfl (lv_at hl 0 rfl) ?_
  replace hf := zb_s hf
  obtain ⟨r_1, hc_, hf⟩ := hf
  refine zcs (pc := 1) (rv := (some (.int r_1))) (va_runV (As := []) (rest := []) ⟨hx, hb, hml, hown, hts⟩ (c_X9_loggedIn l D cy tt H.size h0 h0_buffer h0_slots h0_counters h0_officerPin h0_userPin h0_words h0_sha h0_stream h0_aes h0_modes h0_gcm h0_generator h0_tests h0_message h0_secret c_state c_testsDone c_faults c_streamBegun r_1 hc_) (cwV 0 hts gX9_zeroiseAnswer_X9_loggedIn rfl rfl rfl (by decide +kernel) ⟨Nat.le_of_ble_eq_true rfl, Nat.le_of_ble_eq_true rfl⟩) ⟨zblind, va_recv hK hP (ci := 11) (q0 := 0) rfl rfl, zpre hE hS (hP.sub [0] rfl) (hD.sub [0] (by decide) rfl) (va_free hD hS hA [0] rfl)⟩ rfl rfl hl.1 rfl (lv_room (Nat.le_of_ble_eq_true rfl)) (zdt_at zt_X9_zeroiseAnswer_0 1 rfl) ⟨Nat.zero_le _, Nat.zero_le _⟩) ?_
  clear hc_
  refine W.eq (g2 := F0 m 4 ls [.int r_1]) rfl ?_
  refine lv_if_ne (pc := 4) (tgt := 9) hx hb (zdt_at zt_X9_zeroiseAnswer_0 2 rfl) (by decide) (fun cn_ => ?t_2) (fun cn_ => ?f_3)
  case f_3 =>
    replace hf := zt_s cn_ hf
    clear cn_
    refine lv_iconst (pc := 7) (v := (-1 : Int32)) hx hb (zdt_at zt_X9_zeroiseAnswer_0 3 rfl) (by decide) ?_
    cases hf
    exact W.iret (pc := 8) hx hb hr (fun t ht hW => ⟨rfl, ⟨by rw [ht]; exact hP, hD⟩, hS.F ht⟩) hS.2.2 (zdt_at zt_X9_zeroiseAnswer_0 4 rfl)
  replace hf := ze_s cn_ hf
  clear cn_
  refine lv_iload_n (pc := 9) hx hb (zdt_at zt_X9_zeroiseAnswer_0 5 rfl) rfl (lv_at hl 1 rfl) ?_
  replace hf := zb_s hf
  obtain ⟨r_4, hc_, hf⟩ := hf
  refine zcs (pc := 10) (rv := (some (.int r_4))) (va_runS (As := [.int p1]) (rest := []) ⟨hx, hb, hml, hown, hts⟩ (c_X9_isSlot l D cy tt H.size p1 r_4 hc_) (va_cwS 1 hts gX9_zeroiseAnswer_X9_isSlot rfl rfl rfl (by decide +kernel) ⟨Nat.le_of_ble_eq_true rfl, Nat.le_of_ble_eq_true rfl⟩) ⟨zblind, zpre hE hS (hP.sub [] rfl) (hD.sub [] (by decide) rfl) (va_free hD hS hA [] rfl)⟩ rfl rfl hl.1 rfl (lv_room (Nat.le_of_ble_eq_true rfl)) (zdt_at zt_X9_zeroiseAnswer_0 6 rfl) ⟨Nat.zero_le _, Nat.zero_le _⟩) ?_
  clear hc_
  refine W.eq (g2 := F0 m 13 ls [.int r_4]) rfl ?_
  refine lv_if_ne (pc := 13) (tgt := 19) hx hb (zdt_at zt_X9_zeroiseAnswer_0 7 rfl) (by decide) (fun cn_ => ?t_5) (fun cn_ => ?f_6)
  case f_6 =>
    replace hf := zt_s cn_ hf
    clear cn_
    refine lv_bipush (pc := 16) (v := (-2 : Int32)) hx hb (zdt_at zt_X9_zeroiseAnswer_0 8 rfl) (by decide) ?_
    cases hf
    exact W.iret (pc := 18) hx hb hr (fun t ht hW => ⟨rfl, ⟨by rw [ht]; exact hP, hD⟩, hS.F ht⟩) hS.2.2 (zdt_at zt_X9_zeroiseAnswer_0 9 rfl)
  replace hf := ze_s cn_ hf
  clear cn_
  refine lv_aload_n (pc := 19) hx hb (zdt_at zt_X9_zeroiseAnswer_0 10 rfl) rfl (lv_at hl 0 rfl) ?_
  refine lv_aload_n (pc := 20) hx hb (zdt_at zt_X9_zeroiseAnswer_0 11 rfl) rfl (lv_at hl 0 rfl) ?_
  refine va_get (pc := 21) (D := D) (ci := 11) (v := .ref h0_slots) (C := RX9) (T := TX9) (N := 19) hx hb hts hcX9 hown hK hP 0 rfl rfl 1 (by decide) hw0 (fun _ h9 => h9) rfl (zdt_at zt_X9_zeroiseAnswer_0 12 rfl) ?_
  refine lv_iload_n (pc := 24) hx hb (zdt_at zt_X9_zeroiseAnswer_0 13 rfl) rfl (lv_at hl 1 rfl) ?_
  replace hf := zk_s hf
  have hj_7 : p1.toNatClampNeg < 16 := Nat.not_le.mp fun q => hf.1 (Or.inr q)
  refine va_aldq (pc := 25) (C := RX8) hx hb hK hP 1 4 rfl rfl hf.1 (zdt_at zt_X9_zeroiseAnswer_0 14 rfl) ?_
  replace hf := hf.2
  replace hf := zb_s hf
  obtain ⟨r_8, hc_, hf⟩ := hf
  refine zcs (pc := 26) (rv := (some (.int r_8))) (va_runV (As := [.ref (hP_o p1.toNatClampNeg)]) (rest := []) ⟨hx, hb, hml, hown, hts⟩ (c_X9_isForeign l D cy tt H.size h0 h0_buffer h0_slots h0_counters h0_officerPin h0_userPin h0_words h0_sha h0_stream h0_aes h0_modes h0_gcm h0_generator h0_tests h0_message h0_secret hP_o hP_k p1.toNatClampNeg c_state cP_kind cP_role c_testsDone c_faults c_streamBegun cP_length cP_usage cP_uses cPK r_8 hj_7 hc_) (cwV 1 hts gX9_zeroiseAnswer_X9_isForeign rfl rfl rfl (by decide +kernel) ⟨Nat.le_of_ble_eq_true rfl, Nat.le_of_ble_eq_true rfl⟩) ⟨zblind, va_recv hK hP (ci := 11) (q0 := 0) rfl rfl, zpre hE hS (va_P.part (X := [(h0, .inr (11, [.ref h0_buffer, .ref h0_slots, .ref h0_counters, .ref h0_officerPin, .ref h0_userPin, .ref h0_words, .ref h0_sha, .ref h0_stream, .ref h0_aes, .ref h0_modes, .ref h0_gcm, .ref h0_generator, .ref h0_tests, .ref h0_message, .ref h0_secret, .int c_state, .int c_testsDone, .int c_faults, .int c_streamBegun])), (h0_slots, .inl (cy 4, 16, .inr (.inr (.inr (.inr (fun j => some (hP_o j)))))))]) hP [0] rfl) (va_D.part (X := [(h0, .inr (11, [.ref h0_buffer, .ref h0_slots, .ref h0_counters, .ref h0_officerPin, .ref h0_userPin, .ref h0_words, .ref h0_sha, .ref h0_stream, .ref h0_aes, .ref h0_modes, .ref h0_gcm, .ref h0_generator, .ref h0_tests, .ref h0_message, .ref h0_secret, .int c_state, .int c_testsDone, .int c_faults, .int c_streamBegun])), (h0_slots, .inl (cy 4, 16, .inr (.inr (.inr (.inr (fun j => some (hP_o j)))))))]) hD [0] (by decide) rfl) (va_freeP (X := [(h0, .inr (11, [.ref h0_buffer, .ref h0_slots, .ref h0_counters, .ref h0_officerPin, .ref h0_userPin, .ref h0_words, .ref h0_sha, .ref h0_stream, .ref h0_aes, .ref h0_modes, .ref h0_gcm, .ref h0_generator, .ref h0_tests, .ref h0_message, .ref h0_secret, .int c_state, .int c_testsDone, .int c_faults, .int c_streamBegun])), (h0_slots, .inl (cy 4, 16, .inr (.inr (.inr (.inr (fun j => some (hP_o j)))))))]) hD hS hA [0] rfl)⟩ rfl rfl hl.1 rfl (lv_room (Nat.le_of_ble_eq_true rfl)) (zdt_at zt_X9_zeroiseAnswer_0 15 rfl) ⟨Nat.zero_le _, Nat.zero_le _⟩) ?_
  clear hc_
  refine W.eq (g2 := F0 m 29 ls [.int r_8]) rfl ?_
  refine lv_if_eq (pc := 29) (tgt := 35) hx hb (zdt_at zt_X9_zeroiseAnswer_0 16 rfl) (by decide) (fun cn_ => ?t_9) (fun cn_ => ?f_10)
  case f_10 =>
    replace hf := ze_s cn_ hf
    clear cn_
    refine lv_bipush (pc := 32) (v := (-3 : Int32)) hx hb (zdt_at zt_X9_zeroiseAnswer_0 17 rfl) (by decide) ?_
    cases hf
    exact W.iret (pc := 34) hx hb hr (fun t ht hW => ⟨rfl, ⟨by rw [ht]; exact hP, hD⟩, hS.F ht⟩) hS.2.2 (zdt_at zt_X9_zeroiseAnswer_0 18 rfl)
  replace hf := zt_s cn_ hf
  clear cn_
  refine lv_aload_n (pc := 35) hx hb (zdt_at zt_X9_zeroiseAnswer_0 19 rfl) rfl (lv_at hl 0 rfl) ?_
  refine va_get (pc := 36) (D := D) (ci := 11) (v := .ref h0_slots) (C := RX9) (T := TX9) (N := 19) hx hb hts hcX9 hown hK hP 0 rfl rfl 1 (by decide) hw0 (fun _ h9 => h9) rfl (zdt_at zt_X9_zeroiseAnswer_0 20 rfl) ?_
  refine lv_iload_n (pc := 39) hx hb (zdt_at zt_X9_zeroiseAnswer_0 21 rfl) rfl (lv_at hl 1 rfl) ?_
  replace hf := zk_s hf
  have hj_11 : p1.toNatClampNeg < 16 := Nat.not_le.mp fun q => hf.1 (Or.inr q)
  refine va_aldq (pc := 40) (C := RX8) hx hb hK hP 1 4 rfl rfl hf.1 (zdt_at zt_X9_zeroiseAnswer_0 22 rfl) ?_
  replace hf := hf.2
  replace hf := zb_s hf
  obtain ⟨r_12, hc_, hf⟩ := hf
  refine zcs (pc := 41) (rv := (some (.int r_12))) (va_runV (As := []) (rest := []) ⟨hx, hb, hml, hown, hts⟩ (c_X8_isEmpty l D cy tt H.size hP_o hP_k p1.toNatClampNeg cP_kind cP_length cP_usage cP_role cP_uses cPK r_12 hj_11 hc_) (cwV 0 hts gX9_zeroiseAnswer_X8_isEmpty rfl rfl rfl (by decide +kernel) ⟨Nat.le_of_ble_eq_true rfl, Nat.le_of_ble_eq_true rfl⟩) ⟨zblind, va_recv hK hP (ci := 10) (q0 := (2 + p1.toNatClampNeg)) rfl (zplO_get (X := [(h0, .inr (11, [.ref h0_buffer, .ref h0_slots, .ref h0_counters, .ref h0_officerPin, .ref h0_userPin, .ref h0_words, .ref h0_sha, .ref h0_stream, .ref h0_aes, .ref h0_modes, .ref h0_gcm, .ref h0_generator, .ref h0_tests, .ref h0_message, .ref h0_secret, .int c_state, .int c_testsDone, .int c_faults, .int c_streamBegun])), (h0_slots, .inl (cy 4, 16, .inr (.inr (.inr (.inr (fun j => some (hP_o j)))))))]) (n := 2) rfl hj_11), zpre hE hS (va_P.part (X := [(h0, .inr (11, [.ref h0_buffer, .ref h0_slots, .ref h0_counters, .ref h0_officerPin, .ref h0_userPin, .ref h0_words, .ref h0_sha, .ref h0_stream, .ref h0_aes, .ref h0_modes, .ref h0_gcm, .ref h0_generator, .ref h0_tests, .ref h0_message, .ref h0_secret, .int c_state, .int c_testsDone, .int c_faults, .int c_streamBegun])), (h0_slots, .inl (cy 4, 16, .inr (.inr (.inr (.inr (fun j => some (hP_o j)))))))]) hP [] rfl) (va_D.part (X := [(h0, .inr (11, [.ref h0_buffer, .ref h0_slots, .ref h0_counters, .ref h0_officerPin, .ref h0_userPin, .ref h0_words, .ref h0_sha, .ref h0_stream, .ref h0_aes, .ref h0_modes, .ref h0_gcm, .ref h0_generator, .ref h0_tests, .ref h0_message, .ref h0_secret, .int c_state, .int c_testsDone, .int c_faults, .int c_streamBegun])), (h0_slots, .inl (cy 4, 16, .inr (.inr (.inr (.inr (fun j => some (hP_o j)))))))]) hD [] (by decide) rfl) (va_freeP (X := [(h0, .inr (11, [.ref h0_buffer, .ref h0_slots, .ref h0_counters, .ref h0_officerPin, .ref h0_userPin, .ref h0_words, .ref h0_sha, .ref h0_stream, .ref h0_aes, .ref h0_modes, .ref h0_gcm, .ref h0_generator, .ref h0_tests, .ref h0_message, .ref h0_secret, .int c_state, .int c_testsDone, .int c_faults, .int c_streamBegun])), (h0_slots, .inl (cy 4, 16, .inr (.inr (.inr (.inr (fun j => some (hP_o j)))))))]) hD hS hA [] rfl)⟩ rfl rfl hl.1 rfl (lv_room (Nat.le_of_ble_eq_true rfl)) (zdt_at zt_X9_zeroiseAnswer_0 23 rfl) ⟨Nat.zero_le _, Nat.zero_le _⟩) ?_
  clear hc_
  refine W.eq (g2 := F0 m 44 ls [.int r_12]) rfl ?_
  refine lv_if_eq (pc := 44) (tgt := 50) hx hb (zdt_at zt_X9_zeroiseAnswer_0 24 rfl) (by decide) (fun cn_ => ?t_13) (fun cn_ => ?f_14)
  case f_14 =>
    replace hf := ze_s cn_ hf
    clear cn_
    refine lv_bipush (pc := 47) (v := (-4 : Int32)) hx hb (zdt_at zt_X9_zeroiseAnswer_0 25 rfl) (by decide) ?_
    cases hf
    exact W.iret (pc := 49) hx hb hr (fun t ht hW => ⟨rfl, ⟨by rw [ht]; exact hP, hD⟩, hS.F ht⟩) hS.2.2 (zdt_at zt_X9_zeroiseAnswer_0 26 rfl)
  replace hf := zt_s cn_ hf
  clear cn_
  refine lv_aload_n (pc := 50) hx hb (zdt_at zt_X9_zeroiseAnswer_0 27 rfl) rfl (lv_at hl 0 rfl) ?_
  refine va_get (pc := 51) (D := D) (ci := 11) (v := .ref h0_slots) (C := RX9) (T := TX9) (N := 19) hx hb hts hcX9 hown hK hP 0 rfl rfl 1 (by decide) hw0 (fun _ h9 => h9) rfl (zdt_at zt_X9_zeroiseAnswer_0 28 rfl) ?_
  refine lv_iload_n (pc := 54) hx hb (zdt_at zt_X9_zeroiseAnswer_0 29 rfl) rfl (lv_at hl 1 rfl) ?_
  replace hf := zk_s hf
  have hj_15 : p1.toNatClampNeg < 16 := Nat.not_le.mp fun q => hf.1 (Or.inr q)
  refine va_aldq (pc := 55) (C := RX8) hx hb hK hP 1 4 rfl rfl hf.1 (zdt_at zt_X9_zeroiseAnswer_0 30 rfl) ?_
  replace hf := hf.2
  replace hf := zb_s hf
  obtain ⟨⟨cP_kind_16, cPK_17⟩, hc_, hf⟩ := hf
  refine zcnP (pc := 56) (X := [(h0, .inr (11, [.ref h0_buffer, .ref h0_slots, .ref h0_counters, .ref h0_officerPin, .ref h0_userPin, .ref h0_words, .ref h0_sha, .ref h0_stream, .ref h0_aes, .ref h0_modes, .ref h0_gcm, .ref h0_generator, .ref h0_tests, .ref h0_message, .ref h0_secret, .int c_state, .int c_testsDone, .int c_faults, .int c_streamBegun])), (h0_slots, .inl (cy 4, 16, .inr (.inr (.inr (.inr (fun j => some (hP_o j)))))))]) (rv := none) (va_runV (As := []) (rest := []) ⟨hx, hb, hml, hown, hts⟩ (c_X8_clear l D cy tt H.size hP_o hP_k p1.toNatClampNeg cP_kind cPK cP_length cP_usage cP_role cP_uses cP_kind_16 cPK_17 hj_15 hc_) (cwV 0 hts gX9_zeroiseAnswer_X8_clear rfl rfl rfl (by decide +kernel) ⟨Nat.le_of_ble_eq_true rfl, Nat.le_of_ble_eq_true rfl⟩) ⟨zblind, va_recv hK hP (ci := 10) (q0 := (2 + p1.toNatClampNeg)) rfl (zplO_get (X := [(h0, .inr (11, [.ref h0_buffer, .ref h0_slots, .ref h0_counters, .ref h0_officerPin, .ref h0_userPin, .ref h0_words, .ref h0_sha, .ref h0_stream, .ref h0_aes, .ref h0_modes, .ref h0_gcm, .ref h0_generator, .ref h0_tests, .ref h0_message, .ref h0_secret, .int c_state, .int c_testsDone, .int c_faults, .int c_streamBegun])), (h0_slots, .inl (cy 4, 16, .inr (.inr (.inr (.inr (fun j => some (hP_o j)))))))]) (n := 2) rfl hj_15), zpre hE hS (va_P.part (X := [(h0, .inr (11, [.ref h0_buffer, .ref h0_slots, .ref h0_counters, .ref h0_officerPin, .ref h0_userPin, .ref h0_words, .ref h0_sha, .ref h0_stream, .ref h0_aes, .ref h0_modes, .ref h0_gcm, .ref h0_generator, .ref h0_tests, .ref h0_message, .ref h0_secret, .int c_state, .int c_testsDone, .int c_faults, .int c_streamBegun])), (h0_slots, .inl (cy 4, 16, .inr (.inr (.inr (.inr (fun j => some (hP_o j)))))))]) hP [] rfl) (va_D.part (X := [(h0, .inr (11, [.ref h0_buffer, .ref h0_slots, .ref h0_counters, .ref h0_officerPin, .ref h0_userPin, .ref h0_words, .ref h0_sha, .ref h0_stream, .ref h0_aes, .ref h0_modes, .ref h0_gcm, .ref h0_generator, .ref h0_tests, .ref h0_message, .ref h0_secret, .int c_state, .int c_testsDone, .int c_faults, .int c_streamBegun])), (h0_slots, .inl (cy 4, 16, .inr (.inr (.inr (.inr (fun j => some (hP_o j)))))))]) hD [] (by decide) rfl) (va_freeP (X := [(h0, .inr (11, [.ref h0_buffer, .ref h0_slots, .ref h0_counters, .ref h0_officerPin, .ref h0_userPin, .ref h0_words, .ref h0_sha, .ref h0_stream, .ref h0_aes, .ref h0_modes, .ref h0_gcm, .ref h0_generator, .ref h0_tests, .ref h0_message, .ref h0_secret, .int c_state, .int c_testsDone, .int c_faults, .int c_streamBegun])), (h0_slots, .inl (cy 4, 16, .inr (.inr (.inr (.inr (fun j => some (hP_o j)))))))]) hD hS hA [] rfl)⟩ rfl rfl hl.1 rfl (lv_room (Nat.le_of_ble_eq_true rfl)) (zdt_at zt_X9_zeroiseAnswer_0 31 rfl) ⟨Nat.zero_le _, Nat.zero_le _⟩) hS hP hD (va_freeP (X := [(h0, .inr (11, [.ref h0_buffer, .ref h0_slots, .ref h0_counters, .ref h0_officerPin, .ref h0_userPin, .ref h0_words, .ref h0_sha, .ref h0_stream, .ref h0_aes, .ref h0_modes, .ref h0_gcm, .ref h0_generator, .ref h0_tests, .ref h0_message, .ref h0_secret, .int c_state, .int c_testsDone, .int c_faults, .int c_streamBegun])), (h0_slots, .inl (cy 4, 16, .inr (.inr (.inr (.inr (fun j => some (hP_o j)))))))]) hD hS hA [] rfl) [] rfl (by decide) rfl rfl zpl_adr ?_
  clear hP hD hS hc_
  intro H locs hP hD hS
  replace hP : va_P D vwCl ([(h0, .inr (11, [.ref h0_buffer, .ref h0_slots, .ref h0_counters, .ref h0_officerPin, .ref h0_userPin, .ref h0_words, .ref h0_sha, .ref h0_stream, .ref h0_aes, .ref h0_modes, .ref h0_gcm, .ref h0_generator, .ref h0_tests, .ref h0_message, .ref h0_secret, .int c_state, .int c_testsDone, .int c_faults, .int c_streamBegun])), (h0_slots, .inl (cy 4, 16, .inr (.inr (.inr (.inr (fun j => some (hP_o j)))))))] ++ zpl (cy 0) hP_o hP_k cP_kind_16 cP_length cP_usage cP_role cP_uses cPK_17) H := hP
  replace hD : va_D A ([(h0, .inr (11, [.ref h0_buffer, .ref h0_slots, .ref h0_counters, .ref h0_officerPin, .ref h0_userPin, .ref h0_words, .ref h0_sha, .ref h0_stream, .ref h0_aes, .ref h0_modes, .ref h0_gcm, .ref h0_generator, .ref h0_tests, .ref h0_message, .ref h0_secret, .int c_state, .int c_testsDone, .int c_faults, .int c_streamBegun])), (h0_slots, .inl (cy 4, 16, .inr (.inr (.inr (.inr (fun j => some (hP_o j)))))))] ++ zpl (cy 0) hP_o hP_k cP_kind_16 cP_length cP_usage cP_role cP_uses cPK_17) := hD
  refine W.eq (g2 := F0 m 59 ls []) rfl ?_
  refine lv_iconst (pc := 59) (v := (0 : Int32)) hx hb (zdt_at zt_X9_zeroiseAnswer_0 32 rfl) (by decide) ?_
  cases hf
  exact W.iret (pc := 60) hx hb hr (fun t ht hW => ⟨rfl, ⟨by rw [ht]; exact hP, hD⟩, hS.F ht⟩) hS.2.2 (zdt_at zt_X9_zeroiseAnswer_0 33 rfl)
set_option maxHeartbeats 4000000 in
set_option maxRecDepth 100000 in
theorem c_X9_zeroise (l : Launch) (D : va_G) (cy : Nat → ClassId) (tt : Nat → Nat) (sz : Nat) (h0 : Nat) (h0_buffer : Nat) (h0_slots : Nat) (h0_counters : Nat) (h0_officerPin : Nat) (h0_userPin : Nat) (h0_words : Nat) (h0_sha : Nat) (h0_stream : Nat) (h0_aes : Nat) (h0_modes : Nat) (h0_gcm : Nat) (h0_generator : Nat) (h0_tests : Nat) (h0_message : Nat) (h0_secret : Nat) (hP_o : Nat → Nat) (hP_k : Nat → Nat) (p1 : Int32) (c_state : Int32) (c_counters : Nat → Int32) (cP_kind : Nat → Int32) (cP_role : Nat → Int32) (cPK : Nat → Nat → Int32) (c_testsDone : Int32) (c_faults : Int32) (c_streamBegun : Int32) (cP_length : Nat → Int32) (cP_usage : Nat → Int32) (cP_uses : Nat → Int32) (r_ : Int32) (c_counters' : Nat → Int32) (cP_kind' : Nat → Int32) (cPK' : Nat → Nat → Int32) (hf : f_X9_zeroise p1 c_state c_counters cP_kind cP_role cPK = some (r_, c_counters', cP_kind', cPK')) : Met l yX9_zeroise wsX9_zeroise ({ frames := 3, cells := 0, slots := 0, locals := 64 }) (zPc D cy tt sz [.ref h0, .int p1] ([(h0, .inr (11, [.ref h0_buffer, .ref h0_slots, .ref h0_counters, .ref h0_officerPin, .ref h0_userPin, .ref h0_words, .ref h0_sha, .ref h0_stream, .ref h0_aes, .ref h0_modes, .ref h0_gcm, .ref h0_generator, .ref h0_tests, .ref h0_message, .ref h0_secret, .int c_state, .int c_testsDone, .int c_faults, .int c_streamBegun])), (h0_counters, .inl (cy 1, 3, .inl c_counters)), (h0_slots, .inl (cy 4, 16, .inr (.inr (.inr (.inr (fun j => some (hP_o j)))))))] ++ zpl (cy 0) hP_o hP_k cP_kind cP_length cP_usage cP_role cP_uses cPK)) (zQ D (some (.int r_)) ([(h0, .inr (11, [.ref h0_buffer, .ref h0_slots, .ref h0_counters, .ref h0_officerPin, .ref h0_userPin, .ref h0_words, .ref h0_sha, .ref h0_stream, .ref h0_aes, .ref h0_modes, .ref h0_gcm, .ref h0_generator, .ref h0_tests, .ref h0_message, .ref h0_secret, .int c_state, .int c_testsDone, .int c_faults, .int c_streamBegun])), (h0_counters, .inl (cy 1, 3, .inl c_counters')), (h0_slots, .inl (cy 4, 16, .inr (.inr (.inr (.inr (fun j => some (hP_o j)))))))] ++ zpl (cy 0) hP_o hP_k cP_kind' cP_length cP_usage cP_role cP_uses cPK') (va_A ([(h0, .inr (11, [.ref h0_buffer, .ref h0_slots, .ref h0_counters, .ref h0_officerPin, .ref h0_userPin, .ref h0_words, .ref h0_sha, .ref h0_stream, .ref h0_aes, .ref h0_modes, .ref h0_gcm, .ref h0_generator, .ref h0_tests, .ref h0_message, .ref h0_secret, .int c_state, .int c_testsDone, .int c_faults, .int c_streamBegun])), (h0_counters, .inl (cy 1, 3, .inl c_counters)), (h0_slots, .inl (cy 4, 16, .inr (.inr (.inr (.inr (fun j => some (hP_o j)))))))] ++ zpl (cy 0) hP_o hP_k cP_kind cP_length cP_usage cP_role cP_uses cPK) sz)) 0 0 (va_A ([(h0, .inr (11, [.ref h0_buffer, .ref h0_slots, .ref h0_counters, .ref h0_officerPin, .ref h0_userPin, .ref h0_words, .ref h0_sha, .ref h0_stream, .ref h0_aes, .ref h0_modes, .ref h0_gcm, .ref h0_generator, .ref h0_tests, .ref h0_message, .ref h0_secret, .int c_state, .int c_testsDone, .int c_faults, .int c_streamBegun])), (h0_counters, .inl (cy 1, 3, .inl c_counters)), (h0_slots, .inl (cy 4, 16, .inr (.inr (.inr (.inr (fun j => some (hP_o j)))))))] ++ zpl (cy 0) hP_o hP_k cP_kind cP_length cP_usage cP_role cP_uses cPK) sz) := by
  refine Met.ofW (cc := cX9_zeroise) (maxL := 2) (ret := (some .int)) (by decide) rfl ?_
  intro p e s m args below meth c s₁ B hml hv
  obtain ⟨rfl, rfl, hP, hD0, hE⟩ := hv
  have hx := B.exec
  have hb := B.bytes
  have hr := B.returns
  have hts := atoms_spec (ws := wsX9_zeroise) B.pre
  have hown : s.vm.findClass RX9 = some m.cls := findClass_of_methodNamed B.named
  have hlocks := B.notSynchronized
  clear B
  have hD := hD0.self (sz := s.heap.size)
  generalize hAe : va_A ([(h0, .inr (11, [.ref h0_buffer, .ref h0_slots, .ref h0_counters, .ref h0_officerPin, .ref h0_userPin, .ref h0_words, .ref h0_sha, .ref h0_stream, .ref h0_aes, .ref h0_modes, .ref h0_gcm, .ref h0_generator, .ref h0_tests, .ref h0_message, .ref h0_secret, .int c_state, .int c_testsDone, .int c_faults, .int c_streamBegun])), (h0_counters, .inl (cy 1, 3, .inl c_counters)), (h0_slots, .inl (cy 4, 16, .inr (.inr (.inr (.inr (fun j => some (hP_o j)))))))] ++ zpl (cy 0) hP_o hP_k cP_kind cP_length cP_usage cP_role cP_uses cPK) s.heap.size = A at hD hE ⊢
  have hA : ∀ q : Nat, s.heap.size ≤ q → A q := fun q h => by rw [← hAe]; exact Or.inr h
  clear hAe hD0
  have hS : va_S A s.heap s.heap [] := va_S.rf
  have hK := hE.1
  have hl := lv_entry ([.ref h0, .int p1]) (n := 2) (Nat.le_of_ble_eq_true rfl)
  rw [lg_entry_eq]
  generalize (lg_sl ([.ref h0, .int p1]) ++ List.replicate (2 - (lg_sl ([.ref h0, .int p1])).length) Slot.unset).toArray = ls at hl ⊢
  replace hl : lv_has ls 2 [(0, .ref h0), (1, .int p1)] := hl
  unfold f_X9_zeroise at hf
  refine zgo (fun GW hTo hFr => ?_)
  refine hFr _ _ _ ?_
  obtain ⟨H, hHe⟩ : ∃ H, H = s.heap := ⟨_, rfl⟩
  obtain ⟨locs, hLe⟩ : ∃ L : List Loc, L = [] := ⟨_, rfl⟩
  rw [← hHe] at hP
  replace hS : va_S A s.heap H locs := by rw [hHe, hLe]; exact hS
  refine zat hHe.symm hLe.symm ?_
  clear hHe hLe
  refine lv_aload_n (pc := 0) hx hb (zdt_at zt_X9_zeroise_0 0 rfl) rfl (lv_at hl 0 rfl) ?_
  refine lv_aload_n (pc := 1) hx hb (zdt_at zt_X9_zeroise_0 1 rfl) rfl (lv_at hl 0 rfl) ?_
  refine lv_iload_n (pc := 2) hx hb (zdt_at zt_X9_zeroise_0 2 rfl) rfl (lv_at hl 1 rfl) ?_
  replace hf := zb_s hf
  obtain ⟨⟨r_1, cP_kind_2, cPK_3⟩, hc_, hf⟩ := hf
  refine zcnP (pc := 3) (X := [(h0, .inr (11, [.ref h0_buffer, .ref h0_slots, .ref h0_counters, .ref h0_officerPin, .ref h0_userPin, .ref h0_words, .ref h0_sha, .ref h0_stream, .ref h0_aes, .ref h0_modes, .ref h0_gcm, .ref h0_generator, .ref h0_tests, .ref h0_message, .ref h0_secret, .int c_state, .int c_testsDone, .int c_faults, .int c_streamBegun])), (h0_counters, .inl (cy 1, 3, .inl c_counters)), (h0_slots, .inl (cy 4, 16, .inr (.inr (.inr (.inr (fun j => some (hP_o j)))))))]) (rv := (some (.int r_1))) (va_runV (As := [.int p1]) (rest := [.ref h0]) ⟨hx, hb, hml, hown, hts⟩ (c_X9_zeroiseAnswer l D cy tt H.size h0 h0_buffer h0_slots h0_counters h0_officerPin h0_userPin h0_words h0_sha h0_stream h0_aes h0_modes h0_gcm h0_generator h0_tests h0_message h0_secret hP_o hP_k p1 c_state cP_kind cP_role cPK c_testsDone c_faults c_streamBegun cP_length cP_usage cP_uses r_1 cP_kind_2 cPK_3 hc_) (cwV 1 hts gX9_zeroise_X9_zeroiseAnswer rfl rfl rfl (by decide +kernel) ⟨Nat.le_of_ble_eq_true rfl, Nat.le_of_ble_eq_true rfl⟩) ⟨zblind, va_recv hK hP (ci := 11) (q0 := 0) rfl rfl, zpre hE hS (va_P.part (X := [(h0, .inr (11, [.ref h0_buffer, .ref h0_slots, .ref h0_counters, .ref h0_officerPin, .ref h0_userPin, .ref h0_words, .ref h0_sha, .ref h0_stream, .ref h0_aes, .ref h0_modes, .ref h0_gcm, .ref h0_generator, .ref h0_tests, .ref h0_message, .ref h0_secret, .int c_state, .int c_testsDone, .int c_faults, .int c_streamBegun])), (h0_counters, .inl (cy 1, 3, .inl c_counters)), (h0_slots, .inl (cy 4, 16, .inr (.inr (.inr (.inr (fun j => some (hP_o j)))))))]) hP [0, 2] rfl) (va_D.part (X := [(h0, .inr (11, [.ref h0_buffer, .ref h0_slots, .ref h0_counters, .ref h0_officerPin, .ref h0_userPin, .ref h0_words, .ref h0_sha, .ref h0_stream, .ref h0_aes, .ref h0_modes, .ref h0_gcm, .ref h0_generator, .ref h0_tests, .ref h0_message, .ref h0_secret, .int c_state, .int c_testsDone, .int c_faults, .int c_streamBegun])), (h0_counters, .inl (cy 1, 3, .inl c_counters)), (h0_slots, .inl (cy 4, 16, .inr (.inr (.inr (.inr (fun j => some (hP_o j)))))))]) hD [0, 2] (by decide) rfl) (va_freeP (X := [(h0, .inr (11, [.ref h0_buffer, .ref h0_slots, .ref h0_counters, .ref h0_officerPin, .ref h0_userPin, .ref h0_words, .ref h0_sha, .ref h0_stream, .ref h0_aes, .ref h0_modes, .ref h0_gcm, .ref h0_generator, .ref h0_tests, .ref h0_message, .ref h0_secret, .int c_state, .int c_testsDone, .int c_faults, .int c_streamBegun])), (h0_counters, .inl (cy 1, 3, .inl c_counters)), (h0_slots, .inl (cy 4, 16, .inr (.inr (.inr (.inr (fun j => some (hP_o j)))))))]) hD hS hA [0, 2] rfl)⟩ rfl rfl hl.1 rfl (lv_room (Nat.le_of_ble_eq_true rfl)) (zdt_at zt_X9_zeroise_0 3 rfl) ⟨Nat.zero_le _, Nat.zero_le _⟩) hS hP hD (va_freeP (X := [(h0, .inr (11, [.ref h0_buffer, .ref h0_slots, .ref h0_counters, .ref h0_officerPin, .ref h0_userPin, .ref h0_words, .ref h0_sha, .ref h0_stream, .ref h0_aes, .ref h0_modes, .ref h0_gcm, .ref h0_generator, .ref h0_tests, .ref h0_message, .ref h0_secret, .int c_state, .int c_testsDone, .int c_faults, .int c_streamBegun])), (h0_counters, .inl (cy 1, 3, .inl c_counters)), (h0_slots, .inl (cy 4, 16, .inr (.inr (.inr (.inr (fun j => some (hP_o j)))))))]) hD hS hA [0, 2] rfl) [0, 2] rfl (by decide) rfl rfl zpl_adr ?_
  clear hP hD hS hc_
  intro H locs hP hD hS
  replace hP : va_P D vwCl ([(h0, .inr (11, [.ref h0_buffer, .ref h0_slots, .ref h0_counters, .ref h0_officerPin, .ref h0_userPin, .ref h0_words, .ref h0_sha, .ref h0_stream, .ref h0_aes, .ref h0_modes, .ref h0_gcm, .ref h0_generator, .ref h0_tests, .ref h0_message, .ref h0_secret, .int c_state, .int c_testsDone, .int c_faults, .int c_streamBegun])), (h0_counters, .inl (cy 1, 3, .inl c_counters)), (h0_slots, .inl (cy 4, 16, .inr (.inr (.inr (.inr (fun j => some (hP_o j)))))))] ++ zpl (cy 0) hP_o hP_k cP_kind_2 cP_length cP_usage cP_role cP_uses cPK_3) H := hP
  replace hD : va_D A ([(h0, .inr (11, [.ref h0_buffer, .ref h0_slots, .ref h0_counters, .ref h0_officerPin, .ref h0_userPin, .ref h0_words, .ref h0_sha, .ref h0_stream, .ref h0_aes, .ref h0_modes, .ref h0_gcm, .ref h0_generator, .ref h0_tests, .ref h0_message, .ref h0_secret, .int c_state, .int c_testsDone, .int c_faults, .int c_streamBegun])), (h0_counters, .inl (cy 1, 3, .inl c_counters)), (h0_slots, .inl (cy 4, 16, .inr (.inr (.inr (.inr (fun j => some (hP_o j)))))))] ++ zpl (cy 0) hP_o hP_k cP_kind_2 cP_length cP_usage cP_role cP_uses cPK_3) := hD
  refine W.eq (g2 := F0 m 6 ls [.int r_1, .ref h0]) rfl ?_
  replace hf := zb_s hf
  obtain ⟨⟨r_4, c_counters_5⟩, hc_, hf⟩ := hf
  refine zcnQ (pc := 6) (X := [(h0, .inr (11, [.ref h0_buffer, .ref h0_slots, .ref h0_counters, .ref h0_officerPin, .ref h0_userPin, .ref h0_words, .ref h0_sha, .ref h0_stream, .ref h0_aes, .ref h0_modes, .ref h0_gcm, .ref h0_generator, .ref h0_tests, .ref h0_message, .ref h0_secret, .int c_state, .int c_testsDone, .int c_faults, .int c_streamBegun])), (h0_counters, .inl (cy 1, 3, .inl c_counters)), (h0_slots, .inl (cy 4, 16, .inr (.inr (.inr (.inr (fun j => some (hP_o j)))))))]) (rv := (some (.int r_4))) (va_runV (As := [.int r_1]) (rest := []) ⟨hx, hb, hml, hown, hts⟩ (c_X9_counted l D cy tt H.size h0 h0_buffer h0_slots h0_counters h0_officerPin h0_userPin h0_words h0_sha h0_stream h0_aes h0_modes h0_gcm h0_generator h0_tests h0_message h0_secret r_1 c_counters c_state c_testsDone c_faults c_streamBegun r_4 c_counters_5 hc_) (cwV 1 hts gX9_zeroise_X9_counted rfl rfl rfl (by decide +kernel) ⟨Nat.le_of_ble_eq_true rfl, Nat.le_of_ble_eq_true rfl⟩) ⟨zblind, va_recv hK hP (ci := 11) (q0 := 0) rfl rfl, zpre hE hS (hP.sub [0, 1] rfl) (hD.sub [0, 1] (by decide) rfl) (va_free hD hS hA [0, 1] rfl)⟩ rfl rfl hl.1 rfl (lv_room (Nat.le_of_ble_eq_true rfl)) (zdt_at zt_X9_zeroise_0 4 rfl) ⟨Nat.zero_le _, Nat.zero_le _⟩) hS hP hD (va_free hD hS hA [0, 1] rfl) [0, 1] rfl (by decide) rfl rfl ?_
  clear hP hD hS hc_
  intro H locs hP hD hS
  replace hP : va_P D vwCl ([(h0, .inr (11, [.ref h0_buffer, .ref h0_slots, .ref h0_counters, .ref h0_officerPin, .ref h0_userPin, .ref h0_words, .ref h0_sha, .ref h0_stream, .ref h0_aes, .ref h0_modes, .ref h0_gcm, .ref h0_generator, .ref h0_tests, .ref h0_message, .ref h0_secret, .int c_state, .int c_testsDone, .int c_faults, .int c_streamBegun])), (h0_counters, .inl (cy 1, 3, .inl c_counters_5)), (h0_slots, .inl (cy 4, 16, .inr (.inr (.inr (.inr (fun j => some (hP_o j)))))))] ++ zpl (cy 0) hP_o hP_k cP_kind_2 cP_length cP_usage cP_role cP_uses cPK_3) H := hP
  replace hD : va_D A ([(h0, .inr (11, [.ref h0_buffer, .ref h0_slots, .ref h0_counters, .ref h0_officerPin, .ref h0_userPin, .ref h0_words, .ref h0_sha, .ref h0_stream, .ref h0_aes, .ref h0_modes, .ref h0_gcm, .ref h0_generator, .ref h0_tests, .ref h0_message, .ref h0_secret, .int c_state, .int c_testsDone, .int c_faults, .int c_streamBegun])), (h0_counters, .inl (cy 1, 3, .inl c_counters_5)), (h0_slots, .inl (cy 4, 16, .inr (.inr (.inr (.inr (fun j => some (hP_o j)))))))] ++ zpl (cy 0) hP_o hP_k cP_kind_2 cP_length cP_usage cP_role cP_uses cPK_3) := hD
  refine W.eq (g2 := F0 m 9 ls [.int r_4]) rfl ?_
  cases hf
  exact W.iret (pc := 9) hx hb hr (fun t ht hW => ⟨rfl, ⟨by rw [ht]; exact hP, hD⟩, hS.F ht⟩) hS.2.2 (zdt_at zt_X9_zeroise_0 5 rfl)
set_option maxHeartbeats 4000000 in
set_option maxRecDepth 100000 in
theorem c_X9_zeroiseAll (l : Launch) (D : va_G) (cy : Nat → ClassId) (tt : Nat → Nat) (sz : Nat) (h0 : Nat) (h0_buffer : Nat) (h0_slots : Nat) (h0_counters : Nat) (h0_officerPin : Nat) (h0_userPin : Nat) (h0_words : Nat) (h0_sha : Nat) (h0_stream : Nat) (h0_aes : Nat) (h0_modes : Nat) (h0_gcm : Nat) (h0_generator : Nat) (h0_tests : Nat) (h0_message : Nat) (h0_secret : Nat) (h0_generator_key : Nat) (h0_generator_value : Nat) (h0_generator_message : Nat) (hP_o : Nat → Nat) (h0_words_kept : Nat) (hP_k : Nat → Nat) (c_state : Int32) (c_streamBegun : Int32) (c_generator_begun : Int32) (c_generator_key : Nat → Int32) (c_generator_value : Nat → Int32) (c_officerPin_number : Int32) (c_officerPin_tries : Int32) (c_userPin_number : Int32) (c_userPin_tries : Int32) (c_words_count : Int32) (c_words_kept : Nat → Int32) (cP_kind : Nat → Int32) (cPK : Nat → Nat → Int32) (c_testsDone : Int32) (c_faults : Int32) (c_generator_requests : Int32) (c_words_healthy : Int32) (c_words_last : Int32) (c_words_row : Int32) (c_words_first : Int32) (c_words_placeInWindow : Int32) (c_words_timesInWindow : Int32) (cP_length : Nat → Int32) (cP_usage : Nat → Int32) (cP_role : Nat → Int32) (cP_uses : Nat → Int32) (c_state' : Int32) (c_streamBegun' : Int32) (c_generator_begun' : Int32) (c_generator_key' : Nat → Int32) (c_generator_value' : Nat → Int32) (c_officerPin_number' : Int32) (c_officerPin_tries' : Int32) (c_userPin_number' : Int32) (c_userPin_tries' : Int32) (c_words_count' : Int32) (c_words_kept' : Nat → Int32) (cP_kind' : Nat → Int32) (cPK' : Nat → Nat → Int32) (hf : f_X9_zeroiseAll c_state c_streamBegun c_generator_begun c_generator_key c_generator_value c_officerPin_number c_officerPin_tries c_userPin_number c_userPin_tries c_words_count c_words_kept cP_kind cPK = some (c_state', c_streamBegun', c_generator_begun', c_generator_key', c_generator_value', c_officerPin_number', c_officerPin_tries', c_userPin_number', c_userPin_tries', c_words_count', c_words_kept', cP_kind', cPK')) : Met l yX9_zeroiseAll wsX9_zeroiseAll ({ frames := 2, cells := 0, slots := 0, locals := 43 }) (zPc D cy tt sz [.ref h0] ([(h0, .inr (11, [.ref h0_buffer, .ref h0_slots, .ref h0_counters, .ref h0_officerPin, .ref h0_userPin, .ref h0_words, .ref h0_sha, .ref h0_stream, .ref h0_aes, .ref h0_modes, .ref h0_gcm, .ref h0_generator, .ref h0_tests, .ref h0_message, .ref h0_secret, .int c_state, .int c_testsDone, .int c_faults, .int c_streamBegun])), (h0_generator, .inr (5, [.ref h0_sha, .ref h0_generator_key, .ref h0_generator_value, .ref h0_generator_message, .int c_generator_begun, .int c_generator_requests])), (h0_generator_key, .inl (cy 0, 32, .inl c_generator_key)), (h0_generator_value, .inl (cy 0, 32, .inl c_generator_value)), (h0_officerPin, .inr (7, [.int c_officerPin_number, .int c_officerPin_tries])), (h0_slots, .inl (cy 4, 16, .inr (.inr (.inr (.inr (fun j => some (hP_o j))))))), (h0_userPin, .inr (7, [.int c_userPin_number, .int c_userPin_tries])), (h0_words, .inr (3, [.ref h0_words_kept, .int c_words_count, .int c_words_healthy, .int c_words_last, .int c_words_row, .int c_words_first, .int c_words_placeInWindow, .int c_words_timesInWindow])), (h0_words_kept, .inl (cy 1, 64, .inl c_words_kept))] ++ zpl (cy 0) hP_o hP_k cP_kind cP_length cP_usage cP_role cP_uses cPK)) (zQ D none ([(h0, .inr (11, [.ref h0_buffer, .ref h0_slots, .ref h0_counters, .ref h0_officerPin, .ref h0_userPin, .ref h0_words, .ref h0_sha, .ref h0_stream, .ref h0_aes, .ref h0_modes, .ref h0_gcm, .ref h0_generator, .ref h0_tests, .ref h0_message, .ref h0_secret, .int c_state', .int c_testsDone, .int c_faults, .int c_streamBegun'])), (h0_generator, .inr (5, [.ref h0_sha, .ref h0_generator_key, .ref h0_generator_value, .ref h0_generator_message, .int c_generator_begun', .int c_generator_requests])), (h0_generator_key, .inl (cy 0, 32, .inl c_generator_key')), (h0_generator_value, .inl (cy 0, 32, .inl c_generator_value')), (h0_officerPin, .inr (7, [.int c_officerPin_number', .int c_officerPin_tries'])), (h0_slots, .inl (cy 4, 16, .inr (.inr (.inr (.inr (fun j => some (hP_o j))))))), (h0_userPin, .inr (7, [.int c_userPin_number', .int c_userPin_tries'])), (h0_words, .inr (3, [.ref h0_words_kept, .int c_words_count', .int c_words_healthy, .int c_words_last, .int c_words_row, .int c_words_first, .int c_words_placeInWindow, .int c_words_timesInWindow])), (h0_words_kept, .inl (cy 1, 64, .inl c_words_kept'))] ++ zpl (cy 0) hP_o hP_k cP_kind' cP_length cP_usage cP_role cP_uses cPK') (va_A ([(h0, .inr (11, [.ref h0_buffer, .ref h0_slots, .ref h0_counters, .ref h0_officerPin, .ref h0_userPin, .ref h0_words, .ref h0_sha, .ref h0_stream, .ref h0_aes, .ref h0_modes, .ref h0_gcm, .ref h0_generator, .ref h0_tests, .ref h0_message, .ref h0_secret, .int c_state, .int c_testsDone, .int c_faults, .int c_streamBegun])), (h0_generator, .inr (5, [.ref h0_sha, .ref h0_generator_key, .ref h0_generator_value, .ref h0_generator_message, .int c_generator_begun, .int c_generator_requests])), (h0_generator_key, .inl (cy 0, 32, .inl c_generator_key)), (h0_generator_value, .inl (cy 0, 32, .inl c_generator_value)), (h0_officerPin, .inr (7, [.int c_officerPin_number, .int c_officerPin_tries])), (h0_slots, .inl (cy 4, 16, .inr (.inr (.inr (.inr (fun j => some (hP_o j))))))), (h0_userPin, .inr (7, [.int c_userPin_number, .int c_userPin_tries])), (h0_words, .inr (3, [.ref h0_words_kept, .int c_words_count, .int c_words_healthy, .int c_words_last, .int c_words_row, .int c_words_first, .int c_words_placeInWindow, .int c_words_timesInWindow])), (h0_words_kept, .inl (cy 1, 64, .inl c_words_kept))] ++ zpl (cy 0) hP_o hP_k cP_kind cP_length cP_usage cP_role cP_uses cPK) sz)) 0 0 (va_A ([(h0, .inr (11, [.ref h0_buffer, .ref h0_slots, .ref h0_counters, .ref h0_officerPin, .ref h0_userPin, .ref h0_words, .ref h0_sha, .ref h0_stream, .ref h0_aes, .ref h0_modes, .ref h0_gcm, .ref h0_generator, .ref h0_tests, .ref h0_message, .ref h0_secret, .int c_state, .int c_testsDone, .int c_faults, .int c_streamBegun])), (h0_generator, .inr (5, [.ref h0_sha, .ref h0_generator_key, .ref h0_generator_value, .ref h0_generator_message, .int c_generator_begun, .int c_generator_requests])), (h0_generator_key, .inl (cy 0, 32, .inl c_generator_key)), (h0_generator_value, .inl (cy 0, 32, .inl c_generator_value)), (h0_officerPin, .inr (7, [.int c_officerPin_number, .int c_officerPin_tries])), (h0_slots, .inl (cy 4, 16, .inr (.inr (.inr (.inr (fun j => some (hP_o j))))))), (h0_userPin, .inr (7, [.int c_userPin_number, .int c_userPin_tries])), (h0_words, .inr (3, [.ref h0_words_kept, .int c_words_count, .int c_words_healthy, .int c_words_last, .int c_words_row, .int c_words_first, .int c_words_placeInWindow, .int c_words_timesInWindow])), (h0_words_kept, .inl (cy 1, 64, .inl c_words_kept))] ++ zpl (cy 0) hP_o hP_k cP_kind cP_length cP_usage cP_role cP_uses cPK) sz) := by
  refine Met.ofW (cc := cX9_zeroiseAll) (maxL := 2) (ret := none) (by decide) rfl ?_
  intro p e s m args below meth c s₁ B hml hv
  obtain ⟨rfl, rfl, hP, hD0, hE⟩ := hv
  have hx := B.exec
  have hb := B.bytes
  have hr := B.returns
  have hts := atoms_spec (ws := wsX9_zeroiseAll) B.pre
  have hown : s.vm.findClass RX9 = some m.cls := findClass_of_methodNamed B.named
  have hlocks := B.notSynchronized
  clear B
  have hD := hD0.self (sz := s.heap.size)
  generalize hAe : va_A ([(h0, .inr (11, [.ref h0_buffer, .ref h0_slots, .ref h0_counters, .ref h0_officerPin, .ref h0_userPin, .ref h0_words, .ref h0_sha, .ref h0_stream, .ref h0_aes, .ref h0_modes, .ref h0_gcm, .ref h0_generator, .ref h0_tests, .ref h0_message, .ref h0_secret, .int c_state, .int c_testsDone, .int c_faults, .int c_streamBegun])), (h0_generator, .inr (5, [.ref h0_sha, .ref h0_generator_key, .ref h0_generator_value, .ref h0_generator_message, .int c_generator_begun, .int c_generator_requests])), (h0_generator_key, .inl (cy 0, 32, .inl c_generator_key)), (h0_generator_value, .inl (cy 0, 32, .inl c_generator_value)), (h0_officerPin, .inr (7, [.int c_officerPin_number, .int c_officerPin_tries])), (h0_slots, .inl (cy 4, 16, .inr (.inr (.inr (.inr (fun j => some (hP_o j))))))), (h0_userPin, .inr (7, [.int c_userPin_number, .int c_userPin_tries])), (h0_words, .inr (3, [.ref h0_words_kept, .int c_words_count, .int c_words_healthy, .int c_words_last, .int c_words_row, .int c_words_first, .int c_words_placeInWindow, .int c_words_timesInWindow])), (h0_words_kept, .inl (cy 1, 64, .inl c_words_kept))] ++ zpl (cy 0) hP_o hP_k cP_kind cP_length cP_usage cP_role cP_uses cPK) s.heap.size = A at hD hE ⊢
  have hA : ∀ q : Nat, s.heap.size ≤ q → A q := fun q h => by rw [← hAe]; exact Or.inr h
  clear hAe hD0
  have hS : va_S A s.heap s.heap [] := va_S.rf
  have hK := hE.1
  have hw0 := hts (.fieldLink RX9 28 "SealedModule" "officerPin" "LSealedModule$Pin;") (by decide +kernel)
  have hw1 := hts (.fieldLink RX9 32 "SealedModule" "userPin" "LSealedModule$Pin;") (by decide +kernel)
  have hw2 := hts (.fieldLink RX9 82 "SealedModule" "generator" "LSealedModule$Generator;") (by decide +kernel)
  have hw3 := hts (.fieldLink RX9 38 "SealedModule" "words" "LSealedModule$Entropy;") (by decide +kernel)
  have hw4 := hts (.fieldLink RX9 15 "SealedModule" "slots" "[LSealedModule$Slot;") (by decide +kernel)
  have hcX9 : ∀ w ∈ u_ws RX9 TX9 19, w ∈ wsX9_zeroiseAll := (fun _ h => List.mem_cons_of_mem _ (List.mem_append_left _ (List.mem_append_left _ (List.mem_append_left _ (List.mem_append_left _ (List.mem_append_right _ h))))))
  have hl := lv_entry ([.ref h0]) (n := 2) (Nat.le_of_ble_eq_true rfl)
  rw [lg_entry_eq]
  generalize (lg_sl ([.ref h0]) ++ List.replicate (2 - (lg_sl ([.ref h0])).length) Slot.unset).toArray = ls at hl ⊢
  replace hl : lv_has ls 2 [(0, .ref h0)] := hl
  unfold f_X9_zeroiseAll at hf
  refine zgo (fun GW hTo hFr => ?_)
  refine hFr _ _ _ ?_
  obtain ⟨H, hHe⟩ : ∃ H, H = s.heap := ⟨_, rfl⟩
  obtain ⟨locs, hLe⟩ : ∃ L : List Loc, L = [] := ⟨_, rfl⟩
  rw [← hHe] at hP
  replace hS : va_S A s.heap H locs := by rw [hHe, hLe]; exact hS
  refine zat hHe.symm hLe.symm ?_
  clear hHe hLe
  refine lv_iconst (pc := 0) (v := (0 : Int32)) hx hb (zdt_at zt_X9_zeroiseAll_0 0 rfl) (by decide) ?_
  refine lv_istore_n (pc := 1) (lv' := [(1, .int (0 : Int32)), (0, .ref h0)]) hx hb (zdt_at zt_X9_zeroiseAll_0 1 rfl) rfl hl (by decide) rfl ?_
  clear hl
  intro ls hl
  replace hf := zj_s hf
  obtain ⟨K_6, eK_6, hf⟩ := hf
  have kK_6 : ∀ (cPK_4 : Nat → Nat → Int32) (cP_kind_5 : Nat → Int32) (H : Heap) (locs : List Loc) (ls : Array Slot), va_P D vwCl ([(h0, .inr (11, [.ref h0_buffer, .ref h0_slots, .ref h0_counters, .ref h0_officerPin, .ref h0_userPin, .ref h0_words, .ref h0_sha, .ref h0_stream, .ref h0_aes, .ref h0_modes, .ref h0_gcm, .ref h0_generator, .ref h0_tests, .ref h0_message, .ref h0_secret, .int c_state, .int c_testsDone, .int c_faults, .int c_streamBegun])), (h0_generator, .inr (5, [.ref h0_sha, .ref h0_generator_key, .ref h0_generator_value, .ref h0_generator_message, .int c_generator_begun, .int c_generator_requests])), (h0_generator_key, .inl (cy 0, 32, .inl c_generator_key)), (h0_generator_value, .inl (cy 0, 32, .inl c_generator_value)), (h0_officerPin, .inr (7, [.int c_officerPin_number, .int c_officerPin_tries])), (h0_slots, .inl (cy 4, 16, .inr (.inr (.inr (.inr (fun j => some (hP_o j))))))), (h0_userPin, .inr (7, [.int c_userPin_number, .int c_userPin_tries])), (h0_words, .inr (3, [.ref h0_words_kept, .int c_words_count, .int c_words_healthy, .int c_words_last, .int c_words_row, .int c_words_first, .int c_words_placeInWindow, .int c_words_timesInWindow])), (h0_words_kept, .inl (cy 1, 64, .inl c_words_kept))] ++ zpl (cy 0) hP_o hP_k cP_kind_5 cP_length cP_usage cP_role cP_uses cPK_4) H → va_D A ([(h0, .inr (11, [.ref h0_buffer, .ref h0_slots, .ref h0_counters, .ref h0_officerPin, .ref h0_userPin, .ref h0_words, .ref h0_sha, .ref h0_stream, .ref h0_aes, .ref h0_modes, .ref h0_gcm, .ref h0_generator, .ref h0_tests, .ref h0_message, .ref h0_secret, .int c_state, .int c_testsDone, .int c_faults, .int c_streamBegun])), (h0_generator, .inr (5, [.ref h0_sha, .ref h0_generator_key, .ref h0_generator_value, .ref h0_generator_message, .int c_generator_begun, .int c_generator_requests])), (h0_generator_key, .inl (cy 0, 32, .inl c_generator_key)), (h0_generator_value, .inl (cy 0, 32, .inl c_generator_value)), (h0_officerPin, .inr (7, [.int c_officerPin_number, .int c_officerPin_tries])), (h0_slots, .inl (cy 4, 16, .inr (.inr (.inr (.inr (fun j => some (hP_o j))))))), (h0_userPin, .inr (7, [.int c_userPin_number, .int c_userPin_tries])), (h0_words, .inr (3, [.ref h0_words_kept, .int c_words_count, .int c_words_healthy, .int c_words_last, .int c_words_row, .int c_words_first, .int c_words_placeInWindow, .int c_words_timesInWindow])), (h0_words_kept, .inl (cy 1, 64, .inl c_words_kept))] ++ zpl (cy 0) hP_o hP_k cP_kind_5 cP_length cP_usage cP_role cP_uses cPK_4) → va_S A s.heap H locs → lv_has ls 2 [(0, .ref h0)] → K_6 cPK_4 cP_kind_5 = some (c_state', c_streamBegun', c_generator_begun', c_generator_key', c_generator_value', c_officerPin_number', c_officerPin_tries', c_userPin_number', c_userPin_tries', c_words_count', c_words_kept', cP_kind', cPK') → GW H locs (F0 m 23 ls []) := by
    clear hf hl hP hD hS
    intro cPK_4 cP_kind_5 H locs ls hP hD hS hl hf
    rw [eK_6] at hf
    clear eK_6
    refine hFr _ _ _ ?_
    refine lv_aload_n (pc := 23) hx hb (zdt_at zt_X9_zeroiseAll_0 12 rfl) rfl (lv_at hl 0 rfl) ?_
    refine va_get (pc := 24) (D := D) (ci := 11) (v := .ref h0_officerPin) (C := RX9) (T := TX9) (N := 19) hx hb hts hcX9 hown hK hP 0 rfl rfl 3 (by decide) hw0 (fun _ h9 => h9) rfl (zdt_at zt_X9_zeroiseAll_0 13 rfl) ?_
    refine lv_sipush (pc := 27) (v := (1111 : Int32)) hx hb (zdt_at zt_X9_zeroiseAll_0 14 rfl) (by decide) ?_
    replace hf := zb_s hf
    obtain ⟨⟨c_officerPin_number_7, c_officerPin_tries_8⟩, hc_, hf⟩ := hf
    refine zcnQ (pc := 30) (X := [(h0, .inr (11, [.ref h0_buffer, .ref h0_slots, .ref h0_counters, .ref h0_officerPin, .ref h0_userPin, .ref h0_words, .ref h0_sha, .ref h0_stream, .ref h0_aes, .ref h0_modes, .ref h0_gcm, .ref h0_generator, .ref h0_tests, .ref h0_message, .ref h0_secret, .int c_state, .int c_testsDone, .int c_faults, .int c_streamBegun])), (h0_generator, .inr (5, [.ref h0_sha, .ref h0_generator_key, .ref h0_generator_value, .ref h0_generator_message, .int c_generator_begun, .int c_generator_requests])), (h0_generator_key, .inl (cy 0, 32, .inl c_generator_key)), (h0_generator_value, .inl (cy 0, 32, .inl c_generator_value)), (h0_officerPin, .inr (7, [.int c_officerPin_number, .int c_officerPin_tries])), (h0_slots, .inl (cy 4, 16, .inr (.inr (.inr (.inr (fun j => some (hP_o j))))))), (h0_userPin, .inr (7, [.int c_userPin_number, .int c_userPin_tries])), (h0_words, .inr (3, [.ref h0_words_kept, .int c_words_count, .int c_words_healthy, .int c_words_last, .int c_words_row, .int c_words_first, .int c_words_placeInWindow, .int c_words_timesInWindow])), (h0_words_kept, .inl (cy 1, 64, .inl c_words_kept))]) (rv := none) (va_runV (As := [.int (1111 : Int32)]) (rest := []) ⟨hx, hb, hml, hown, hts⟩ (c_X5_renew l D cy tt H.size h0_officerPin (1111 : Int32) c_officerPin_number c_officerPin_tries c_officerPin_number_7 c_officerPin_tries_8 hc_) (cwV 1 hts gX9_zeroiseAll_X5_renew rfl rfl rfl (by decide +kernel) ⟨Nat.le_of_ble_eq_true rfl, Nat.le_of_ble_eq_true rfl⟩) ⟨zblind, va_recv hK hP (ci := 7) (q0 := 4) rfl rfl, zpre hE hS (hP.sub [4] rfl) (hD.sub [4] (by decide) rfl) (va_free hD hS hA [4] rfl)⟩ rfl rfl hl.1 rfl (lv_room (Nat.le_of_ble_eq_true rfl)) (zdt_at zt_X9_zeroiseAll_0 15 rfl) ⟨Nat.zero_le _, Nat.zero_le _⟩) hS hP hD (va_free hD hS hA [4] rfl) [4] rfl (by decide) rfl rfl ?_
    clear hP hD hS hc_
    intro H locs hP hD hS
    replace hP : va_P D vwCl ([(h0, .inr (11, [.ref h0_buffer, .ref h0_slots, .ref h0_counters, .ref h0_officerPin, .ref h0_userPin, .ref h0_words, .ref h0_sha, .ref h0_stream, .ref h0_aes, .ref h0_modes, .ref h0_gcm, .ref h0_generator, .ref h0_tests, .ref h0_message, .ref h0_secret, .int c_state, .int c_testsDone, .int c_faults, .int c_streamBegun])), (h0_generator, .inr (5, [.ref h0_sha, .ref h0_generator_key, .ref h0_generator_value, .ref h0_generator_message, .int c_generator_begun, .int c_generator_requests])), (h0_generator_key, .inl (cy 0, 32, .inl c_generator_key)), (h0_generator_value, .inl (cy 0, 32, .inl c_generator_value)), (h0_officerPin, .inr (7, [.int c_officerPin_number_7, .int c_officerPin_tries_8])), (h0_slots, .inl (cy 4, 16, .inr (.inr (.inr (.inr (fun j => some (hP_o j))))))), (h0_userPin, .inr (7, [.int c_userPin_number, .int c_userPin_tries])), (h0_words, .inr (3, [.ref h0_words_kept, .int c_words_count, .int c_words_healthy, .int c_words_last, .int c_words_row, .int c_words_first, .int c_words_placeInWindow, .int c_words_timesInWindow])), (h0_words_kept, .inl (cy 1, 64, .inl c_words_kept))] ++ zpl (cy 0) hP_o hP_k cP_kind_5 cP_length cP_usage cP_role cP_uses cPK_4) H := hP
    replace hD : va_D A ([(h0, .inr (11, [.ref h0_buffer, .ref h0_slots, .ref h0_counters, .ref h0_officerPin, .ref h0_userPin, .ref h0_words, .ref h0_sha, .ref h0_stream, .ref h0_aes, .ref h0_modes, .ref h0_gcm, .ref h0_generator, .ref h0_tests, .ref h0_message, .ref h0_secret, .int c_state, .int c_testsDone, .int c_faults, .int c_streamBegun])), (h0_generator, .inr (5, [.ref h0_sha, .ref h0_generator_key, .ref h0_generator_value, .ref h0_generator_message, .int c_generator_begun, .int c_generator_requests])), (h0_generator_key, .inl (cy 0, 32, .inl c_generator_key)), (h0_generator_value, .inl (cy 0, 32, .inl c_generator_value)), (h0_officerPin, .inr (7, [.int c_officerPin_number_7, .int c_officerPin_tries_8])), (h0_slots, .inl (cy 4, 16, .inr (.inr (.inr (.inr (fun j => some (hP_o j))))))), (h0_userPin, .inr (7, [.int c_userPin_number, .int c_userPin_tries])), (h0_words, .inr (3, [.ref h0_words_kept, .int c_words_count, .int c_words_healthy, .int c_words_last, .int c_words_row, .int c_words_first, .int c_words_placeInWindow, .int c_words_timesInWindow])), (h0_words_kept, .inl (cy 1, 64, .inl c_words_kept))] ++ zpl (cy 0) hP_o hP_k cP_kind_5 cP_length cP_usage cP_role cP_uses cPK_4) := hD
    refine W.eq (g2 := F0 m 33 ls []) rfl ?_
    refine lv_aload_n (pc := 33) hx hb (zdt_at zt_X9_zeroiseAll_0 16 rfl) rfl (lv_at hl 0 rfl) ?_
    refine va_get (pc := 34) (D := D) (ci := 11) (v := .ref h0_userPin) (C := RX9) (T := TX9) (N := 19) hx hb hts hcX9 hown hK hP 0 rfl rfl 4 (by decide) hw1 (fun _ h9 => h9) rfl (zdt_at zt_X9_zeroiseAll_0 17 rfl) ?_
    refine lv_sipush (pc := 37) (v := (2222 : Int32)) hx hb (zdt_at zt_X9_zeroiseAll_0 18 rfl) (by decide) ?_
    replace hf := zb_s hf
    obtain ⟨⟨c_userPin_number_9, c_userPin_tries_10⟩, hc_, hf⟩ := hf
    refine zcnQ (pc := 40) (X := [(h0, .inr (11, [.ref h0_buffer, .ref h0_slots, .ref h0_counters, .ref h0_officerPin, .ref h0_userPin, .ref h0_words, .ref h0_sha, .ref h0_stream, .ref h0_aes, .ref h0_modes, .ref h0_gcm, .ref h0_generator, .ref h0_tests, .ref h0_message, .ref h0_secret, .int c_state, .int c_testsDone, .int c_faults, .int c_streamBegun])), (h0_generator, .inr (5, [.ref h0_sha, .ref h0_generator_key, .ref h0_generator_value, .ref h0_generator_message, .int c_generator_begun, .int c_generator_requests])), (h0_generator_key, .inl (cy 0, 32, .inl c_generator_key)), (h0_generator_value, .inl (cy 0, 32, .inl c_generator_value)), (h0_officerPin, .inr (7, [.int c_officerPin_number_7, .int c_officerPin_tries_8])), (h0_slots, .inl (cy 4, 16, .inr (.inr (.inr (.inr (fun j => some (hP_o j))))))), (h0_userPin, .inr (7, [.int c_userPin_number, .int c_userPin_tries])), (h0_words, .inr (3, [.ref h0_words_kept, .int c_words_count, .int c_words_healthy, .int c_words_last, .int c_words_row, .int c_words_first, .int c_words_placeInWindow, .int c_words_timesInWindow])), (h0_words_kept, .inl (cy 1, 64, .inl c_words_kept))]) (rv := none) (va_runV (As := [.int (2222 : Int32)]) (rest := []) ⟨hx, hb, hml, hown, hts⟩ (c_X5_renew l D cy tt H.size h0_userPin (2222 : Int32) c_userPin_number c_userPin_tries c_userPin_number_9 c_userPin_tries_10 hc_) (cwV 1 hts gX9_zeroiseAll_X5_renew rfl rfl rfl (by decide +kernel) ⟨Nat.le_of_ble_eq_true rfl, Nat.le_of_ble_eq_true rfl⟩) ⟨zblind, va_recv hK hP (ci := 7) (q0 := 6) rfl rfl, zpre hE hS (hP.sub [6] rfl) (hD.sub [6] (by decide) rfl) (va_free hD hS hA [6] rfl)⟩ rfl rfl hl.1 rfl (lv_room (Nat.le_of_ble_eq_true rfl)) (zdt_at zt_X9_zeroiseAll_0 19 rfl) ⟨Nat.zero_le _, Nat.zero_le _⟩) hS hP hD (va_free hD hS hA [6] rfl) [6] rfl (by decide) rfl rfl ?_
    clear hP hD hS hc_
    intro H locs hP hD hS
    replace hP : va_P D vwCl ([(h0, .inr (11, [.ref h0_buffer, .ref h0_slots, .ref h0_counters, .ref h0_officerPin, .ref h0_userPin, .ref h0_words, .ref h0_sha, .ref h0_stream, .ref h0_aes, .ref h0_modes, .ref h0_gcm, .ref h0_generator, .ref h0_tests, .ref h0_message, .ref h0_secret, .int c_state, .int c_testsDone, .int c_faults, .int c_streamBegun])), (h0_generator, .inr (5, [.ref h0_sha, .ref h0_generator_key, .ref h0_generator_value, .ref h0_generator_message, .int c_generator_begun, .int c_generator_requests])), (h0_generator_key, .inl (cy 0, 32, .inl c_generator_key)), (h0_generator_value, .inl (cy 0, 32, .inl c_generator_value)), (h0_officerPin, .inr (7, [.int c_officerPin_number_7, .int c_officerPin_tries_8])), (h0_slots, .inl (cy 4, 16, .inr (.inr (.inr (.inr (fun j => some (hP_o j))))))), (h0_userPin, .inr (7, [.int c_userPin_number_9, .int c_userPin_tries_10])), (h0_words, .inr (3, [.ref h0_words_kept, .int c_words_count, .int c_words_healthy, .int c_words_last, .int c_words_row, .int c_words_first, .int c_words_placeInWindow, .int c_words_timesInWindow])), (h0_words_kept, .inl (cy 1, 64, .inl c_words_kept))] ++ zpl (cy 0) hP_o hP_k cP_kind_5 cP_length cP_usage cP_role cP_uses cPK_4) H := hP
    replace hD : va_D A ([(h0, .inr (11, [.ref h0_buffer, .ref h0_slots, .ref h0_counters, .ref h0_officerPin, .ref h0_userPin, .ref h0_words, .ref h0_sha, .ref h0_stream, .ref h0_aes, .ref h0_modes, .ref h0_gcm, .ref h0_generator, .ref h0_tests, .ref h0_message, .ref h0_secret, .int c_state, .int c_testsDone, .int c_faults, .int c_streamBegun])), (h0_generator, .inr (5, [.ref h0_sha, .ref h0_generator_key, .ref h0_generator_value, .ref h0_generator_message, .int c_generator_begun, .int c_generator_requests])), (h0_generator_key, .inl (cy 0, 32, .inl c_generator_key)), (h0_generator_value, .inl (cy 0, 32, .inl c_generator_value)), (h0_officerPin, .inr (7, [.int c_officerPin_number_7, .int c_officerPin_tries_8])), (h0_slots, .inl (cy 4, 16, .inr (.inr (.inr (.inr (fun j => some (hP_o j))))))), (h0_userPin, .inr (7, [.int c_userPin_number_9, .int c_userPin_tries_10])), (h0_words, .inr (3, [.ref h0_words_kept, .int c_words_count, .int c_words_healthy, .int c_words_last, .int c_words_row, .int c_words_first, .int c_words_placeInWindow, .int c_words_timesInWindow])), (h0_words_kept, .inl (cy 1, 64, .inl c_words_kept))] ++ zpl (cy 0) hP_o hP_k cP_kind_5 cP_length cP_usage cP_role cP_uses cPK_4) := hD
    refine W.eq (g2 := F0 m 43 ls []) rfl ?_
    refine lv_aload_n (pc := 43) hx hb (zdt_at zt_X9_zeroiseAll_0 20 rfl) rfl (lv_at hl 0 rfl) ?_
    refine va_get (pc := 44) (D := D) (ci := 11) (v := .ref h0_generator) (C := RX9) (T := TX9) (N := 19) hx hb hts hcX9 hown hK hP 0 rfl rfl 11 (by decide) hw2 (fun _ h9 => h9) rfl (zdt_at zt_X9_zeroiseAll_0 21 rfl) ?_
    replace hf := zb_s hf
    obtain ⟨⟨c_generator_begun_11, c_generator_key_12, c_generator_value_13⟩, hc_, hf⟩ := hf
    refine zcnQ (pc := 47) (X := [(h0, .inr (11, [.ref h0_buffer, .ref h0_slots, .ref h0_counters, .ref h0_officerPin, .ref h0_userPin, .ref h0_words, .ref h0_sha, .ref h0_stream, .ref h0_aes, .ref h0_modes, .ref h0_gcm, .ref h0_generator, .ref h0_tests, .ref h0_message, .ref h0_secret, .int c_state, .int c_testsDone, .int c_faults, .int c_streamBegun])), (h0_generator, .inr (5, [.ref h0_sha, .ref h0_generator_key, .ref h0_generator_value, .ref h0_generator_message, .int c_generator_begun, .int c_generator_requests])), (h0_generator_key, .inl (cy 0, 32, .inl c_generator_key)), (h0_generator_value, .inl (cy 0, 32, .inl c_generator_value)), (h0_officerPin, .inr (7, [.int c_officerPin_number_7, .int c_officerPin_tries_8])), (h0_slots, .inl (cy 4, 16, .inr (.inr (.inr (.inr (fun j => some (hP_o j))))))), (h0_userPin, .inr (7, [.int c_userPin_number_9, .int c_userPin_tries_10])), (h0_words, .inr (3, [.ref h0_words_kept, .int c_words_count, .int c_words_healthy, .int c_words_last, .int c_words_row, .int c_words_first, .int c_words_placeInWindow, .int c_words_timesInWindow])), (h0_words_kept, .inl (cy 1, 64, .inl c_words_kept))]) (rv := none) (va_runV (As := []) (rest := []) ⟨hx, hb, hml, hown, hts⟩ (c_X3_forget l D cy tt H.size h0_generator h0_sha h0_generator_key h0_generator_value h0_generator_message c_generator_begun c_generator_key c_generator_value c_generator_requests c_generator_begun_11 c_generator_key_12 c_generator_value_13 hc_) (cwV 0 hts gX9_zeroiseAll_X3_forget rfl rfl rfl (by decide +kernel) ⟨Nat.le_of_ble_eq_true rfl, Nat.le_of_ble_eq_true rfl⟩) ⟨zblind, va_recv hK hP (ci := 5) (q0 := 1) rfl rfl, zpre hE hS (hP.sub [1, 2, 3] rfl) (hD.sub [1, 2, 3] (by decide) rfl) (va_free hD hS hA [1, 2, 3] rfl)⟩ rfl rfl hl.1 rfl (lv_room (Nat.le_of_ble_eq_true rfl)) (zdt_at zt_X9_zeroiseAll_0 22 rfl) ⟨Nat.zero_le _, Nat.zero_le _⟩) hS hP hD (va_free hD hS hA [1, 2, 3] rfl) [1, 2, 3] rfl (by decide) rfl rfl ?_
    clear hP hD hS hc_
    intro H locs hP hD hS
    replace hP : va_P D vwCl ([(h0, .inr (11, [.ref h0_buffer, .ref h0_slots, .ref h0_counters, .ref h0_officerPin, .ref h0_userPin, .ref h0_words, .ref h0_sha, .ref h0_stream, .ref h0_aes, .ref h0_modes, .ref h0_gcm, .ref h0_generator, .ref h0_tests, .ref h0_message, .ref h0_secret, .int c_state, .int c_testsDone, .int c_faults, .int c_streamBegun])), (h0_generator, .inr (5, [.ref h0_sha, .ref h0_generator_key, .ref h0_generator_value, .ref h0_generator_message, .int c_generator_begun_11, .int c_generator_requests])), (h0_generator_key, .inl (cy 0, 32, .inl c_generator_key_12)), (h0_generator_value, .inl (cy 0, 32, .inl c_generator_value_13)), (h0_officerPin, .inr (7, [.int c_officerPin_number_7, .int c_officerPin_tries_8])), (h0_slots, .inl (cy 4, 16, .inr (.inr (.inr (.inr (fun j => some (hP_o j))))))), (h0_userPin, .inr (7, [.int c_userPin_number_9, .int c_userPin_tries_10])), (h0_words, .inr (3, [.ref h0_words_kept, .int c_words_count, .int c_words_healthy, .int c_words_last, .int c_words_row, .int c_words_first, .int c_words_placeInWindow, .int c_words_timesInWindow])), (h0_words_kept, .inl (cy 1, 64, .inl c_words_kept))] ++ zpl (cy 0) hP_o hP_k cP_kind_5 cP_length cP_usage cP_role cP_uses cPK_4) H := hP
    replace hD : va_D A ([(h0, .inr (11, [.ref h0_buffer, .ref h0_slots, .ref h0_counters, .ref h0_officerPin, .ref h0_userPin, .ref h0_words, .ref h0_sha, .ref h0_stream, .ref h0_aes, .ref h0_modes, .ref h0_gcm, .ref h0_generator, .ref h0_tests, .ref h0_message, .ref h0_secret, .int c_state, .int c_testsDone, .int c_faults, .int c_streamBegun])), (h0_generator, .inr (5, [.ref h0_sha, .ref h0_generator_key, .ref h0_generator_value, .ref h0_generator_message, .int c_generator_begun_11, .int c_generator_requests])), (h0_generator_key, .inl (cy 0, 32, .inl c_generator_key_12)), (h0_generator_value, .inl (cy 0, 32, .inl c_generator_value_13)), (h0_officerPin, .inr (7, [.int c_officerPin_number_7, .int c_officerPin_tries_8])), (h0_slots, .inl (cy 4, 16, .inr (.inr (.inr (.inr (fun j => some (hP_o j))))))), (h0_userPin, .inr (7, [.int c_userPin_number_9, .int c_userPin_tries_10])), (h0_words, .inr (3, [.ref h0_words_kept, .int c_words_count, .int c_words_healthy, .int c_words_last, .int c_words_row, .int c_words_first, .int c_words_placeInWindow, .int c_words_timesInWindow])), (h0_words_kept, .inl (cy 1, 64, .inl c_words_kept))] ++ zpl (cy 0) hP_o hP_k cP_kind_5 cP_length cP_usage cP_role cP_uses cPK_4) := hD
    refine W.eq (g2 := F0 m 50 ls []) rfl ?_
    refine lv_aload_n (pc := 50) hx hb (zdt_at zt_X9_zeroiseAll_0 23 rfl) rfl (lv_at hl 0 rfl) ?_
    refine va_get (pc := 51) (D := D) (ci := 11) (v := .ref h0_words) (C := RX9) (T := TX9) (N := 19) hx hb hts hcX9 hown hK hP 0 rfl rfl 5 (by decide) hw3 (fun _ h9 => h9) rfl (zdt_at zt_X9_zeroiseAll_0 24 rfl) ?_
    replace hf := zb_s hf
    obtain ⟨⟨c_words_count_14, c_words_kept_15⟩, hc_, hf⟩ := hf
    refine zcnQ (pc := 54) (X := [(h0, .inr (11, [.ref h0_buffer, .ref h0_slots, .ref h0_counters, .ref h0_officerPin, .ref h0_userPin, .ref h0_words, .ref h0_sha, .ref h0_stream, .ref h0_aes, .ref h0_modes, .ref h0_gcm, .ref h0_generator, .ref h0_tests, .ref h0_message, .ref h0_secret, .int c_state, .int c_testsDone, .int c_faults, .int c_streamBegun])), (h0_generator, .inr (5, [.ref h0_sha, .ref h0_generator_key, .ref h0_generator_value, .ref h0_generator_message, .int c_generator_begun_11, .int c_generator_requests])), (h0_generator_key, .inl (cy 0, 32, .inl c_generator_key_12)), (h0_generator_value, .inl (cy 0, 32, .inl c_generator_value_13)), (h0_officerPin, .inr (7, [.int c_officerPin_number_7, .int c_officerPin_tries_8])), (h0_slots, .inl (cy 4, 16, .inr (.inr (.inr (.inr (fun j => some (hP_o j))))))), (h0_userPin, .inr (7, [.int c_userPin_number_9, .int c_userPin_tries_10])), (h0_words, .inr (3, [.ref h0_words_kept, .int c_words_count, .int c_words_healthy, .int c_words_last, .int c_words_row, .int c_words_first, .int c_words_placeInWindow, .int c_words_timesInWindow])), (h0_words_kept, .inl (cy 1, 64, .inl c_words_kept))]) (rv := none) (va_runV (As := []) (rest := []) ⟨hx, hb, hml, hown, hts⟩ (c_X1_forgetKept l D cy tt H.size h0_words h0_words_kept c_words_count c_words_kept c_words_healthy c_words_last c_words_row c_words_first c_words_placeInWindow c_words_timesInWindow c_words_count_14 c_words_kept_15 hc_) (cwV 0 hts gX9_zeroiseAll_X1_forgetKept rfl rfl rfl (by decide +kernel) ⟨Nat.le_of_ble_eq_true rfl, Nat.le_of_ble_eq_true rfl⟩) ⟨zblind, va_recv hK hP (ci := 3) (q0 := 7) rfl rfl, zpre hE hS (hP.sub [7, 8] rfl) (hD.sub [7, 8] (by decide) rfl) (va_free hD hS hA [7, 8] rfl)⟩ rfl rfl hl.1 rfl (lv_room (Nat.le_of_ble_eq_true rfl)) (zdt_at zt_X9_zeroiseAll_0 25 rfl) ⟨Nat.zero_le _, Nat.zero_le _⟩) hS hP hD (va_free hD hS hA [7, 8] rfl) [7, 8] rfl (by decide) rfl rfl ?_
    clear hP hD hS hc_
    intro H locs hP hD hS
    replace hP : va_P D vwCl ([(h0, .inr (11, [.ref h0_buffer, .ref h0_slots, .ref h0_counters, .ref h0_officerPin, .ref h0_userPin, .ref h0_words, .ref h0_sha, .ref h0_stream, .ref h0_aes, .ref h0_modes, .ref h0_gcm, .ref h0_generator, .ref h0_tests, .ref h0_message, .ref h0_secret, .int c_state, .int c_testsDone, .int c_faults, .int c_streamBegun])), (h0_generator, .inr (5, [.ref h0_sha, .ref h0_generator_key, .ref h0_generator_value, .ref h0_generator_message, .int c_generator_begun_11, .int c_generator_requests])), (h0_generator_key, .inl (cy 0, 32, .inl c_generator_key_12)), (h0_generator_value, .inl (cy 0, 32, .inl c_generator_value_13)), (h0_officerPin, .inr (7, [.int c_officerPin_number_7, .int c_officerPin_tries_8])), (h0_slots, .inl (cy 4, 16, .inr (.inr (.inr (.inr (fun j => some (hP_o j))))))), (h0_userPin, .inr (7, [.int c_userPin_number_9, .int c_userPin_tries_10])), (h0_words, .inr (3, [.ref h0_words_kept, .int c_words_count_14, .int c_words_healthy, .int c_words_last, .int c_words_row, .int c_words_first, .int c_words_placeInWindow, .int c_words_timesInWindow])), (h0_words_kept, .inl (cy 1, 64, .inl c_words_kept_15))] ++ zpl (cy 0) hP_o hP_k cP_kind_5 cP_length cP_usage cP_role cP_uses cPK_4) H := hP
    replace hD : va_D A ([(h0, .inr (11, [.ref h0_buffer, .ref h0_slots, .ref h0_counters, .ref h0_officerPin, .ref h0_userPin, .ref h0_words, .ref h0_sha, .ref h0_stream, .ref h0_aes, .ref h0_modes, .ref h0_gcm, .ref h0_generator, .ref h0_tests, .ref h0_message, .ref h0_secret, .int c_state, .int c_testsDone, .int c_faults, .int c_streamBegun])), (h0_generator, .inr (5, [.ref h0_sha, .ref h0_generator_key, .ref h0_generator_value, .ref h0_generator_message, .int c_generator_begun_11, .int c_generator_requests])), (h0_generator_key, .inl (cy 0, 32, .inl c_generator_key_12)), (h0_generator_value, .inl (cy 0, 32, .inl c_generator_value_13)), (h0_officerPin, .inr (7, [.int c_officerPin_number_7, .int c_officerPin_tries_8])), (h0_slots, .inl (cy 4, 16, .inr (.inr (.inr (.inr (fun j => some (hP_o j))))))), (h0_userPin, .inr (7, [.int c_userPin_number_9, .int c_userPin_tries_10])), (h0_words, .inr (3, [.ref h0_words_kept, .int c_words_count_14, .int c_words_healthy, .int c_words_last, .int c_words_row, .int c_words_first, .int c_words_placeInWindow, .int c_words_timesInWindow])), (h0_words_kept, .inl (cy 1, 64, .inl c_words_kept_15))] ++ zpl (cy 0) hP_o hP_k cP_kind_5 cP_length cP_usage cP_role cP_uses cPK_4) := hD
    refine W.eq (g2 := F0 m 57 ls []) rfl ?_
    refine lv_aload_n (pc := 57) hx hb (zdt_at zt_X9_zeroiseAll_0 26 rfl) rfl (lv_at hl 0 rfl) ?_
    replace hf := zb_s hf
    obtain ⟨r_16, hc_, hf⟩ := hf
    refine zcs (pc := 58) (rv := (some (.int r_16))) (va_runV (As := []) (rest := []) ⟨hx, hb, hml, hown, hts⟩ (c_X9_loggedIn l D cy tt H.size h0 h0_buffer h0_slots h0_counters h0_officerPin h0_userPin h0_words h0_sha h0_stream h0_aes h0_modes h0_gcm h0_generator h0_tests h0_message h0_secret c_state c_testsDone c_faults c_streamBegun r_16 hc_) (cwV 0 hts gX9_zeroiseAll_X9_loggedIn rfl rfl rfl (by decide +kernel) ⟨Nat.le_of_ble_eq_true rfl, Nat.le_of_ble_eq_true rfl⟩) ⟨zblind, va_recv hK hP (ci := 11) (q0 := 0) rfl rfl, zpre hE hS (hP.sub [0] rfl) (hD.sub [0] (by decide) rfl) (va_free hD hS hA [0] rfl)⟩ rfl rfl hl.1 rfl (lv_room (Nat.le_of_ble_eq_true rfl)) (zdt_at zt_X9_zeroiseAll_0 27 rfl) ⟨Nat.zero_le _, Nat.zero_le _⟩) ?_
    clear hc_
    refine W.eq (g2 := F0 m 61 ls [.int r_16]) rfl ?_
    refine lv_if_eq (pc := 61) (tgt := 68) hx hb (zdt_at zt_X9_zeroiseAll_0 28 rfl) (by decide) (fun cn_ => ?t_17) (fun cn_ => ?f_18)
    case t_17 =>
      replace hf := zt_s cn_ hf
      clear cn_
      cases hf
      exact W.vret (pc := 68) hx hb hr (fun t ht hW => ⟨rfl, ⟨by rw [ht]; exact hP, hD⟩, hS.F ht⟩) hS.2.2 (zdt_at zt_X9_zeroiseAll_0 31 rfl)
    replace hf := ze_s cn_ hf
    clear cn_
    refine lv_aload_n (pc := 64) hx hb (zdt_at zt_X9_zeroiseAll_0 29 rfl) rfl (lv_at hl 0 rfl) ?_
    replace hf := zb_s hf
    obtain ⟨⟨c_state_19, c_streamBegun_20⟩, hc_, hf⟩ := hf
    refine zcnQ (pc := 65) (X := [(h0, .inr (11, [.ref h0_buffer, .ref h0_slots, .ref h0_counters, .ref h0_officerPin, .ref h0_userPin, .ref h0_words, .ref h0_sha, .ref h0_stream, .ref h0_aes, .ref h0_modes, .ref h0_gcm, .ref h0_generator, .ref h0_tests, .ref h0_message, .ref h0_secret, .int c_state, .int c_testsDone, .int c_faults, .int c_streamBegun])), (h0_generator, .inr (5, [.ref h0_sha, .ref h0_generator_key, .ref h0_generator_value, .ref h0_generator_message, .int c_generator_begun_11, .int c_generator_requests])), (h0_generator_key, .inl (cy 0, 32, .inl c_generator_key_12)), (h0_generator_value, .inl (cy 0, 32, .inl c_generator_value_13)), (h0_officerPin, .inr (7, [.int c_officerPin_number_7, .int c_officerPin_tries_8])), (h0_slots, .inl (cy 4, 16, .inr (.inr (.inr (.inr (fun j => some (hP_o j))))))), (h0_userPin, .inr (7, [.int c_userPin_number_9, .int c_userPin_tries_10])), (h0_words, .inr (3, [.ref h0_words_kept, .int c_words_count_14, .int c_words_healthy, .int c_words_last, .int c_words_row, .int c_words_first, .int c_words_placeInWindow, .int c_words_timesInWindow])), (h0_words_kept, .inl (cy 1, 64, .inl c_words_kept_15))]) (rv := none) (va_runV (As := []) (rest := []) ⟨hx, hb, hml, hown, hts⟩ (c_X9_endLogin l D cy tt H.size h0 h0_buffer h0_slots h0_counters h0_officerPin h0_userPin h0_words h0_sha h0_stream h0_aes h0_modes h0_gcm h0_generator h0_tests h0_message h0_secret c_state c_streamBegun c_testsDone c_faults c_state_19 c_streamBegun_20 hc_) (cwV 0 hts gX9_zeroiseAll_X9_endLogin rfl rfl rfl (by decide +kernel) ⟨Nat.le_of_ble_eq_true rfl, Nat.le_of_ble_eq_true rfl⟩) ⟨zblind, va_recv hK hP (ci := 11) (q0 := 0) rfl rfl, zpre hE hS (hP.sub [0] rfl) (hD.sub [0] (by decide) rfl) (va_free hD hS hA [0] rfl)⟩ rfl rfl hl.1 rfl (lv_room (Nat.le_of_ble_eq_true rfl)) (zdt_at zt_X9_zeroiseAll_0 30 rfl) ⟨Nat.zero_le _, Nat.zero_le _⟩) hS hP hD (va_free hD hS hA [0] rfl) [0] rfl (by decide) rfl rfl ?_
    clear hP hD hS hc_
    intro H locs hP hD hS
    replace hP : va_P D vwCl ([(h0, .inr (11, [.ref h0_buffer, .ref h0_slots, .ref h0_counters, .ref h0_officerPin, .ref h0_userPin, .ref h0_words, .ref h0_sha, .ref h0_stream, .ref h0_aes, .ref h0_modes, .ref h0_gcm, .ref h0_generator, .ref h0_tests, .ref h0_message, .ref h0_secret, .int c_state_19, .int c_testsDone, .int c_faults, .int c_streamBegun_20])), (h0_generator, .inr (5, [.ref h0_sha, .ref h0_generator_key, .ref h0_generator_value, .ref h0_generator_message, .int c_generator_begun_11, .int c_generator_requests])), (h0_generator_key, .inl (cy 0, 32, .inl c_generator_key_12)), (h0_generator_value, .inl (cy 0, 32, .inl c_generator_value_13)), (h0_officerPin, .inr (7, [.int c_officerPin_number_7, .int c_officerPin_tries_8])), (h0_slots, .inl (cy 4, 16, .inr (.inr (.inr (.inr (fun j => some (hP_o j))))))), (h0_userPin, .inr (7, [.int c_userPin_number_9, .int c_userPin_tries_10])), (h0_words, .inr (3, [.ref h0_words_kept, .int c_words_count_14, .int c_words_healthy, .int c_words_last, .int c_words_row, .int c_words_first, .int c_words_placeInWindow, .int c_words_timesInWindow])), (h0_words_kept, .inl (cy 1, 64, .inl c_words_kept_15))] ++ zpl (cy 0) hP_o hP_k cP_kind_5 cP_length cP_usage cP_role cP_uses cPK_4) H := hP
    replace hD : va_D A ([(h0, .inr (11, [.ref h0_buffer, .ref h0_slots, .ref h0_counters, .ref h0_officerPin, .ref h0_userPin, .ref h0_words, .ref h0_sha, .ref h0_stream, .ref h0_aes, .ref h0_modes, .ref h0_gcm, .ref h0_generator, .ref h0_tests, .ref h0_message, .ref h0_secret, .int c_state_19, .int c_testsDone, .int c_faults, .int c_streamBegun_20])), (h0_generator, .inr (5, [.ref h0_sha, .ref h0_generator_key, .ref h0_generator_value, .ref h0_generator_message, .int c_generator_begun_11, .int c_generator_requests])), (h0_generator_key, .inl (cy 0, 32, .inl c_generator_key_12)), (h0_generator_value, .inl (cy 0, 32, .inl c_generator_value_13)), (h0_officerPin, .inr (7, [.int c_officerPin_number_7, .int c_officerPin_tries_8])), (h0_slots, .inl (cy 4, 16, .inr (.inr (.inr (.inr (fun j => some (hP_o j))))))), (h0_userPin, .inr (7, [.int c_userPin_number_9, .int c_userPin_tries_10])), (h0_words, .inr (3, [.ref h0_words_kept, .int c_words_count_14, .int c_words_healthy, .int c_words_last, .int c_words_row, .int c_words_first, .int c_words_placeInWindow, .int c_words_timesInWindow])), (h0_words_kept, .inl (cy 1, 64, .inl c_words_kept_15))] ++ zpl (cy 0) hP_o hP_k cP_kind_5 cP_length cP_usage cP_role cP_uses cPK_4) := hD
    refine W.eq (g2 := F0 m 68 ls []) rfl ?_
    cases hf
    exact W.vret (pc := 68) hx hb hr (fun t ht hW => ⟨rfl, ⟨by rw [ht]; exact hP, hD⟩, hS.F ht⟩) hS.2.2 (zdt_at zt_X9_zeroiseAll_0 31 rfl)
  clear eK_6
  refine hTo _ _ _ (zl_go (fun z => match z with | (i_1, cPK_2, cP_kind_3) => ∀ (H : Heap) (locs : List Loc) (ls : Array Slot), va_P D vwCl ([(h0, .inr (11, [.ref h0_buffer, .ref h0_slots, .ref h0_counters, .ref h0_officerPin, .ref h0_userPin, .ref h0_words, .ref h0_sha, .ref h0_stream, .ref h0_aes, .ref h0_modes, .ref h0_gcm, .ref h0_generator, .ref h0_tests, .ref h0_message, .ref h0_secret, .int c_state, .int c_testsDone, .int c_faults, .int c_streamBegun])), (h0_generator, .inr (5, [.ref h0_sha, .ref h0_generator_key, .ref h0_generator_value, .ref h0_generator_message, .int c_generator_begun, .int c_generator_requests])), (h0_generator_key, .inl (cy 0, 32, .inl c_generator_key)), (h0_generator_value, .inl (cy 0, 32, .inl c_generator_value)), (h0_officerPin, .inr (7, [.int c_officerPin_number, .int c_officerPin_tries])), (h0_slots, .inl (cy 4, 16, .inr (.inr (.inr (.inr (fun j => some (hP_o j))))))), (h0_userPin, .inr (7, [.int c_userPin_number, .int c_userPin_tries])), (h0_words, .inr (3, [.ref h0_words_kept, .int c_words_count, .int c_words_healthy, .int c_words_last, .int c_words_row, .int c_words_first, .int c_words_placeInWindow, .int c_words_timesInWindow])), (h0_words_kept, .inl (cy 1, 64, .inl c_words_kept))] ++ zpl (cy 0) hP_o hP_k cP_kind_3 cP_length cP_usage cP_role cP_uses cPK_2) H → va_D A ([(h0, .inr (11, [.ref h0_buffer, .ref h0_slots, .ref h0_counters, .ref h0_officerPin, .ref h0_userPin, .ref h0_words, .ref h0_sha, .ref h0_stream, .ref h0_aes, .ref h0_modes, .ref h0_gcm, .ref h0_generator, .ref h0_tests, .ref h0_message, .ref h0_secret, .int c_state, .int c_testsDone, .int c_faults, .int c_streamBegun])), (h0_generator, .inr (5, [.ref h0_sha, .ref h0_generator_key, .ref h0_generator_value, .ref h0_generator_message, .int c_generator_begun, .int c_generator_requests])), (h0_generator_key, .inl (cy 0, 32, .inl c_generator_key)), (h0_generator_value, .inl (cy 0, 32, .inl c_generator_value)), (h0_officerPin, .inr (7, [.int c_officerPin_number, .int c_officerPin_tries])), (h0_slots, .inl (cy 4, 16, .inr (.inr (.inr (.inr (fun j => some (hP_o j))))))), (h0_userPin, .inr (7, [.int c_userPin_number, .int c_userPin_tries])), (h0_words, .inr (3, [.ref h0_words_kept, .int c_words_count, .int c_words_healthy, .int c_words_last, .int c_words_row, .int c_words_first, .int c_words_placeInWindow, .int c_words_timesInWindow])), (h0_words_kept, .inl (cy 1, 64, .inl c_words_kept))] ++ zpl (cy 0) hP_o hP_k cP_kind_3 cP_length cP_usage cP_role cP_uses cPK_2) → va_S A s.heap H locs → lv_has ls 2 [(0, .ref h0), (1, .int i_1)] → GW H locs (F0 m 2 ls [])) hf ?_ H locs ls hP hD hS (lv_sub hl [1, 0] rfl))
  clear hf hl hP hD hS
  intro self_21 ihself_21 z hf
  obtain ⟨i_1, cPK_2, cP_kind_3⟩ := z
  intro H locs ls hP hD hS hl
  refine hFr _ _ _ ?_
  unfold b_X9_zeroiseAll_2 at hf
  refine lv_iload_n (pc := 2) hx hb (zdt_at zt_X9_zeroiseAll_0 2 rfl) rfl (lv_at hl 1 rfl) ?_
  refine lv_bipush (pc := 3) (v := (16 : Int32)) hx hb (zdt_at zt_X9_zeroiseAll_0 3 rfl) (by decide) ?_
  refine lv_icmp_ge (pc := 5) (tgt := 23) hx hb (zdt_at zt_X9_zeroiseAll_0 4 rfl) (by decide) (fun cn_ => ?t_22) (fun cn_ => ?f_23)
  case t_22 =>
    replace hf := zt_s cn_ hf
    clear cn_
    exact hTo _ _ _ (kK_6 _ _ H locs ls hP hD hS (lv_sub hl [0] rfl) hf)
  replace hf := ze_s cn_ hf
  clear cn_
  refine lv_aload_n (pc := 8) hx hb (zdt_at zt_X9_zeroiseAll_0 5 rfl) rfl (lv_at hl 0 rfl) ?_
  refine va_get (pc := 9) (D := D) (ci := 11) (v := .ref h0_slots) (C := RX9) (T := TX9) (N := 19) hx hb hts hcX9 hown hK hP 0 rfl rfl 1 (by decide) hw4 (fun _ h9 => h9) rfl (zdt_at zt_X9_zeroiseAll_0 6 rfl) ?_
  refine lv_iload_n (pc := 12) hx hb (zdt_at zt_X9_zeroiseAll_0 7 rfl) rfl (lv_at hl 1 rfl) ?_
  replace hf := zk_s hf
  have hj_24 : i_1.toNatClampNeg < 16 := Nat.not_le.mp fun q => hf.1 (Or.inr q)
  refine va_aldq (pc := 13) (C := RX8) hx hb hK hP 5 4 rfl rfl hf.1 (zdt_at zt_X9_zeroiseAll_0 8 rfl) ?_
  replace hf := hf.2
  replace hf := zb_s hf
  obtain ⟨⟨cP_kind_25, cPK_26⟩, hc_, hf⟩ := hf
  refine zcnP (pc := 14) (X := [(h0, .inr (11, [.ref h0_buffer, .ref h0_slots, .ref h0_counters, .ref h0_officerPin, .ref h0_userPin, .ref h0_words, .ref h0_sha, .ref h0_stream, .ref h0_aes, .ref h0_modes, .ref h0_gcm, .ref h0_generator, .ref h0_tests, .ref h0_message, .ref h0_secret, .int c_state, .int c_testsDone, .int c_faults, .int c_streamBegun])), (h0_generator, .inr (5, [.ref h0_sha, .ref h0_generator_key, .ref h0_generator_value, .ref h0_generator_message, .int c_generator_begun, .int c_generator_requests])), (h0_generator_key, .inl (cy 0, 32, .inl c_generator_key)), (h0_generator_value, .inl (cy 0, 32, .inl c_generator_value)), (h0_officerPin, .inr (7, [.int c_officerPin_number, .int c_officerPin_tries])), (h0_slots, .inl (cy 4, 16, .inr (.inr (.inr (.inr (fun j => some (hP_o j))))))), (h0_userPin, .inr (7, [.int c_userPin_number, .int c_userPin_tries])), (h0_words, .inr (3, [.ref h0_words_kept, .int c_words_count, .int c_words_healthy, .int c_words_last, .int c_words_row, .int c_words_first, .int c_words_placeInWindow, .int c_words_timesInWindow])), (h0_words_kept, .inl (cy 1, 64, .inl c_words_kept))]) (rv := none) (va_runV (As := []) (rest := []) ⟨hx, hb, hml, hown, hts⟩ (c_X8_clear l D cy tt H.size hP_o hP_k i_1.toNatClampNeg cP_kind_3 cPK_2 cP_length cP_usage cP_role cP_uses cP_kind_25 cPK_26 hj_24 hc_) (cwV 0 hts gX9_zeroiseAll_X8_clear rfl rfl rfl (by decide +kernel) ⟨Nat.le_of_ble_eq_true rfl, Nat.le_of_ble_eq_true rfl⟩) ⟨zblind, va_recv hK hP (ci := 10) (q0 := (9 + i_1.toNatClampNeg)) rfl (zplO_get (X := [(h0, .inr (11, [.ref h0_buffer, .ref h0_slots, .ref h0_counters, .ref h0_officerPin, .ref h0_userPin, .ref h0_words, .ref h0_sha, .ref h0_stream, .ref h0_aes, .ref h0_modes, .ref h0_gcm, .ref h0_generator, .ref h0_tests, .ref h0_message, .ref h0_secret, .int c_state, .int c_testsDone, .int c_faults, .int c_streamBegun])), (h0_generator, .inr (5, [.ref h0_sha, .ref h0_generator_key, .ref h0_generator_value, .ref h0_generator_message, .int c_generator_begun, .int c_generator_requests])), (h0_generator_key, .inl (cy 0, 32, .inl c_generator_key)), (h0_generator_value, .inl (cy 0, 32, .inl c_generator_value)), (h0_officerPin, .inr (7, [.int c_officerPin_number, .int c_officerPin_tries])), (h0_slots, .inl (cy 4, 16, .inr (.inr (.inr (.inr (fun j => some (hP_o j))))))), (h0_userPin, .inr (7, [.int c_userPin_number, .int c_userPin_tries])), (h0_words, .inr (3, [.ref h0_words_kept, .int c_words_count, .int c_words_healthy, .int c_words_last, .int c_words_row, .int c_words_first, .int c_words_placeInWindow, .int c_words_timesInWindow])), (h0_words_kept, .inl (cy 1, 64, .inl c_words_kept))]) (n := 9) rfl hj_24), zpre hE hS (va_P.part (X := [(h0, .inr (11, [.ref h0_buffer, .ref h0_slots, .ref h0_counters, .ref h0_officerPin, .ref h0_userPin, .ref h0_words, .ref h0_sha, .ref h0_stream, .ref h0_aes, .ref h0_modes, .ref h0_gcm, .ref h0_generator, .ref h0_tests, .ref h0_message, .ref h0_secret, .int c_state, .int c_testsDone, .int c_faults, .int c_streamBegun])), (h0_generator, .inr (5, [.ref h0_sha, .ref h0_generator_key, .ref h0_generator_value, .ref h0_generator_message, .int c_generator_begun, .int c_generator_requests])), (h0_generator_key, .inl (cy 0, 32, .inl c_generator_key)), (h0_generator_value, .inl (cy 0, 32, .inl c_generator_value)), (h0_officerPin, .inr (7, [.int c_officerPin_number, .int c_officerPin_tries])), (h0_slots, .inl (cy 4, 16, .inr (.inr (.inr (.inr (fun j => some (hP_o j))))))), (h0_userPin, .inr (7, [.int c_userPin_number, .int c_userPin_tries])), (h0_words, .inr (3, [.ref h0_words_kept, .int c_words_count, .int c_words_healthy, .int c_words_last, .int c_words_row, .int c_words_first, .int c_words_placeInWindow, .int c_words_timesInWindow])), (h0_words_kept, .inl (cy 1, 64, .inl c_words_kept))]) hP [] rfl) (va_D.part (X := [(h0, .inr (11, [.ref h0_buffer, .ref h0_slots, .ref h0_counters, .ref h0_officerPin, .ref h0_userPin, .ref h0_words, .ref h0_sha, .ref h0_stream, .ref h0_aes, .ref h0_modes, .ref h0_gcm, .ref h0_generator, .ref h0_tests, .ref h0_message, .ref h0_secret, .int c_state, .int c_testsDone, .int c_faults, .int c_streamBegun])), (h0_generator, .inr (5, [.ref h0_sha, .ref h0_generator_key, .ref h0_generator_value, .ref h0_generator_message, .int c_generator_begun, .int c_generator_requests])), (h0_generator_key, .inl (cy 0, 32, .inl c_generator_key)), (h0_generator_value, .inl (cy 0, 32, .inl c_generator_value)), (h0_officerPin, .inr (7, [.int c_officerPin_number, .int c_officerPin_tries])), (h0_slots, .inl (cy 4, 16, .inr (.inr (.inr (.inr (fun j => some (hP_o j))))))), (h0_userPin, .inr (7, [.int c_userPin_number, .int c_userPin_tries])), (h0_words, .inr (3, [.ref h0_words_kept, .int c_words_count, .int c_words_healthy, .int c_words_last, .int c_words_row, .int c_words_first, .int c_words_placeInWindow, .int c_words_timesInWindow])), (h0_words_kept, .inl (cy 1, 64, .inl c_words_kept))]) hD [] (by decide) rfl) (va_freeP (X := [(h0, .inr (11, [.ref h0_buffer, .ref h0_slots, .ref h0_counters, .ref h0_officerPin, .ref h0_userPin, .ref h0_words, .ref h0_sha, .ref h0_stream, .ref h0_aes, .ref h0_modes, .ref h0_gcm, .ref h0_generator, .ref h0_tests, .ref h0_message, .ref h0_secret, .int c_state, .int c_testsDone, .int c_faults, .int c_streamBegun])), (h0_generator, .inr (5, [.ref h0_sha, .ref h0_generator_key, .ref h0_generator_value, .ref h0_generator_message, .int c_generator_begun, .int c_generator_requests])), (h0_generator_key, .inl (cy 0, 32, .inl c_generator_key)), (h0_generator_value, .inl (cy 0, 32, .inl c_generator_value)), (h0_officerPin, .inr (7, [.int c_officerPin_number, .int c_officerPin_tries])), (h0_slots, .inl (cy 4, 16, .inr (.inr (.inr (.inr (fun j => some (hP_o j))))))), (h0_userPin, .inr (7, [.int c_userPin_number, .int c_userPin_tries])), (h0_words, .inr (3, [.ref h0_words_kept, .int c_words_count, .int c_words_healthy, .int c_words_last, .int c_words_row, .int c_words_first, .int c_words_placeInWindow, .int c_words_timesInWindow])), (h0_words_kept, .inl (cy 1, 64, .inl c_words_kept))]) hD hS hA [] rfl)⟩ rfl rfl hl.1 rfl (lv_room (Nat.le_of_ble_eq_true rfl)) (zdt_at zt_X9_zeroiseAll_0 9 rfl) ⟨Nat.zero_le _, Nat.zero_le _⟩) hS hP hD (va_freeP (X := [(h0, .inr (11, [.ref h0_buffer, .ref h0_slots, .ref h0_counters, .ref h0_officerPin, .ref h0_userPin, .ref h0_words, .ref h0_sha, .ref h0_stream, .ref h0_aes, .ref h0_modes, .ref h0_gcm, .ref h0_generator, .ref h0_tests, .ref h0_message, .ref h0_secret, .int c_state, .int c_testsDone, .int c_faults, .int c_streamBegun])), (h0_generator, .inr (5, [.ref h0_sha, .ref h0_generator_key, .ref h0_generator_value, .ref h0_generator_message, .int c_generator_begun, .int c_generator_requests])), (h0_generator_key, .inl (cy 0, 32, .inl c_generator_key)), (h0_generator_value, .inl (cy 0, 32, .inl c_generator_value)), (h0_officerPin, .inr (7, [.int c_officerPin_number, .int c_officerPin_tries])), (h0_slots, .inl (cy 4, 16, .inr (.inr (.inr (.inr (fun j => some (hP_o j))))))), (h0_userPin, .inr (7, [.int c_userPin_number, .int c_userPin_tries])), (h0_words, .inr (3, [.ref h0_words_kept, .int c_words_count, .int c_words_healthy, .int c_words_last, .int c_words_row, .int c_words_first, .int c_words_placeInWindow, .int c_words_timesInWindow])), (h0_words_kept, .inl (cy 1, 64, .inl c_words_kept))]) hD hS hA [] rfl) [] rfl (by decide) rfl rfl zpl_adr ?_
  clear hP hD hS hc_
  intro H locs hP hD hS
  replace hP : va_P D vwCl ([(h0, .inr (11, [.ref h0_buffer, .ref h0_slots, .ref h0_counters, .ref h0_officerPin, .ref h0_userPin, .ref h0_words, .ref h0_sha, .ref h0_stream, .ref h0_aes, .ref h0_modes, .ref h0_gcm, .ref h0_generator, .ref h0_tests, .ref h0_message, .ref h0_secret, .int c_state, .int c_testsDone, .int c_faults, .int c_streamBegun])), (h0_generator, .inr (5, [.ref h0_sha, .ref h0_generator_key, .ref h0_generator_value, .ref h0_generator_message, .int c_generator_begun, .int c_generator_requests])), (h0_generator_key, .inl (cy 0, 32, .inl c_generator_key)), (h0_generator_value, .inl (cy 0, 32, .inl c_generator_value)), (h0_officerPin, .inr (7, [.int c_officerPin_number, .int c_officerPin_tries])), (h0_slots, .inl (cy 4, 16, .inr (.inr (.inr (.inr (fun j => some (hP_o j))))))), (h0_userPin, .inr (7, [.int c_userPin_number, .int c_userPin_tries])), (h0_words, .inr (3, [.ref h0_words_kept, .int c_words_count, .int c_words_healthy, .int c_words_last, .int c_words_row, .int c_words_first, .int c_words_placeInWindow, .int c_words_timesInWindow])), (h0_words_kept, .inl (cy 1, 64, .inl c_words_kept))] ++ zpl (cy 0) hP_o hP_k cP_kind_25 cP_length cP_usage cP_role cP_uses cPK_26) H := hP
  replace hD : va_D A ([(h0, .inr (11, [.ref h0_buffer, .ref h0_slots, .ref h0_counters, .ref h0_officerPin, .ref h0_userPin, .ref h0_words, .ref h0_sha, .ref h0_stream, .ref h0_aes, .ref h0_modes, .ref h0_gcm, .ref h0_generator, .ref h0_tests, .ref h0_message, .ref h0_secret, .int c_state, .int c_testsDone, .int c_faults, .int c_streamBegun])), (h0_generator, .inr (5, [.ref h0_sha, .ref h0_generator_key, .ref h0_generator_value, .ref h0_generator_message, .int c_generator_begun, .int c_generator_requests])), (h0_generator_key, .inl (cy 0, 32, .inl c_generator_key)), (h0_generator_value, .inl (cy 0, 32, .inl c_generator_value)), (h0_officerPin, .inr (7, [.int c_officerPin_number, .int c_officerPin_tries])), (h0_slots, .inl (cy 4, 16, .inr (.inr (.inr (.inr (fun j => some (hP_o j))))))), (h0_userPin, .inr (7, [.int c_userPin_number, .int c_userPin_tries])), (h0_words, .inr (3, [.ref h0_words_kept, .int c_words_count, .int c_words_healthy, .int c_words_last, .int c_words_row, .int c_words_first, .int c_words_placeInWindow, .int c_words_timesInWindow])), (h0_words_kept, .inl (cy 1, 64, .inl c_words_kept))] ++ zpl (cy 0) hP_o hP_k cP_kind_25 cP_length cP_usage cP_role cP_uses cPK_26) := hD
  refine W.eq (g2 := F0 m 17 ls []) rfl ?_
  refine lv_iinc (pc := 17) (v := (i_1 + (1 : Int32))) (lv' := [(1, .int (i_1 + (1 : Int32))), (0, .ref h0)]) hx hb (zdt_at zt_X9_zeroiseAll_0 10 rfl) hl (k := 1) rfl rfl (by decide) rfl ?_
  clear hl
  intro ls hl
  refine lv_goto (pc := 20) (tgt := 2) hx hb (zdt_at zt_X9_zeroiseAll_0 11 rfl) (by decide) ?_
  exact hTo _ _ _ (ihself_21 _ hf H locs ls hP hD hS (lv_sub hl [1, 0] rfl))
set_option maxHeartbeats 4000000 in
set_option maxRecDepth 100000 in
theorem c_X9_newKeyRefusal (l : Launch) (D : va_G) (cy : Nat → ClassId) (tt : Nat → Nat) (sz : Nat) (h0 : Nat) (h0_buffer : Nat) (h0_slots : Nat) (h0_counters : Nat) (h0_officerPin : Nat) (h0_userPin : Nat) (h0_words : Nat) (h0_sha : Nat) (h0_stream : Nat) (h0_aes : Nat) (h0_modes : Nat) (h0_gcm : Nat) (h0_generator : Nat) (h0_tests : Nat) (h0_message : Nat) (h0_secret : Nat) (hP_o : Nat → Nat) (hP_k : Nat → Nat) (p1 : Int32) (p2 : Int32) (p3 : Int32) (p4 : Int32) (p5 : Int32) (p6 : Int32) (c_state : Int32) (cP_kind : Nat → Int32) (c_testsDone : Int32) (c_faults : Int32) (c_streamBegun : Int32) (cP_length : Nat → Int32) (cP_usage : Nat → Int32) (cP_role : Nat → Int32) (cP_uses : Nat → Int32) (cPK : Nat → Nat → Int32) (r_ : Int32) (hf : f_X9_newKeyRefusal p1 p2 p3 p4 p5 p6 c_state cP_kind = some r_) : Met l yX9_newKeyRefusal wsX9_newKeyRefusal ({ frames := 2, cells := 0, slots := 0, locals := 41 }) (zPc D cy tt sz [.ref h0, .int p1, .int p2, .int p3, .int p4, .int p5, .int p6] ([(h0, .inr (11, [.ref h0_buffer, .ref h0_slots, .ref h0_counters, .ref h0_officerPin, .ref h0_userPin, .ref h0_words, .ref h0_sha, .ref h0_stream, .ref h0_aes, .ref h0_modes, .ref h0_gcm, .ref h0_generator, .ref h0_tests, .ref h0_message, .ref h0_secret, .int c_state, .int c_testsDone, .int c_faults, .int c_streamBegun])), (h0_slots, .inl (cy 4, 16, .inr (.inr (.inr (.inr (fun j => some (hP_o j)))))))] ++ zpl (cy 0) hP_o hP_k cP_kind cP_length cP_usage cP_role cP_uses cPK)) (fun _ st o t => o = .returned (some (.int r_)) ∧ t.heap = st.heap) 0 0 (fun _ => False) := by
  refine Met.ofW (cc := cX9_newKeyRefusal) (maxL := 7) (ret := (some .int)) (by decide) rfl ?_
  intro p e s m args below meth c s₁ B hml hv
  obtain ⟨rfl, rfl, hP, hD0, hE⟩ := hv
  have hx := B.exec
  have hb := B.bytes
  have hr := B.returns
  have hts := atoms_spec (ws := wsX9_newKeyRefusal) B.pre
  have hown : s.vm.findClass RX9 = some m.cls := findClass_of_methodNamed B.named
  have hlocks := B.notSynchronized
  clear B
  have hD := hD0.self (sz := s.heap.size)
  generalize hAe : va_A ([(h0, .inr (11, [.ref h0_buffer, .ref h0_slots, .ref h0_counters, .ref h0_officerPin, .ref h0_userPin, .ref h0_words, .ref h0_sha, .ref h0_stream, .ref h0_aes, .ref h0_modes, .ref h0_gcm, .ref h0_generator, .ref h0_tests, .ref h0_message, .ref h0_secret, .int c_state, .int c_testsDone, .int c_faults, .int c_streamBegun])), (h0_slots, .inl (cy 4, 16, .inr (.inr (.inr (.inr (fun j => some (hP_o j)))))))] ++ zpl (cy 0) hP_o hP_k cP_kind cP_length cP_usage cP_role cP_uses cPK) s.heap.size = A at hD hE
  have hA : ∀ q : Nat, s.heap.size ≤ q → A q := fun q h => by rw [← hAe]; exact Or.inr h
  clear hAe hD0
  have hS : va_S A s.heap s.heap [] := va_S.rf
  have hK := hE.1
  have hw0 := hts (.constant RX9 252 (1000000)) (by decide +kernel)
  have hw1 := hts (.fieldLink RX9 101 "SealedModule" "state" "I") (by decide +kernel)
  have hw2 := hts (.fieldLink RX9 15 "SealedModule" "slots" "[LSealedModule$Slot;") (by decide +kernel)
  have hcX9 : ∀ w ∈ u_ws RX9 TX9 19, w ∈ wsX9_newKeyRefusal := (fun _ h => List.mem_cons_of_mem _ (List.mem_append_left _ (List.mem_append_right _ h)))
  have hl := lv_entry ([.ref h0, .int p1, .int p2, .int p3, .int p4, .int p5, .int p6]) (n := 7) (Nat.le_of_ble_eq_true rfl)
  rw [lg_entry_eq]
  generalize (lg_sl ([.ref h0, .int p1, .int p2, .int p3, .int p4, .int p5, .int p6]) ++ List.replicate (7 - (lg_sl ([.ref h0, .int p1, .int p2, .int p3, .int p4, .int p5, .int p6])).length) Slot.unset).toArray = ls at hl ⊢
  replace hl : lv_has ls 7 [(0, .ref h0), (1, .int p1), (2, .int p2), (3, .int p3), (4, .int p4), (5, .int p5), (6, .int p6)] := hl
  unfold f_X9_newKeyRefusal at hf
  refine zgo (fun GW hTo hFr => ?_)
  refine hFr _ _ _ ?_
  refine lv_aload_n (pc := 0) hx hb (zdt_at zt_X9_newKeyRefusal_0 0 rfl) rfl (lv_at hl 0 rfl) ?_
  replace hf := zb_s hf
  obtain ⟨r_1, hc_, hf⟩ := hf
  refine zcs (pc := 1) (rv := (some (.int r_1))) (va_runV (As := []) (rest := []) ⟨hx, hb, hml, hown, hts⟩ (c_X9_loggedIn l D cy tt s.heap.size h0 h0_buffer h0_slots h0_counters h0_officerPin h0_userPin h0_words h0_sha h0_stream h0_aes h0_modes h0_gcm h0_generator h0_tests h0_message h0_secret c_state c_testsDone c_faults c_streamBegun r_1 hc_) (cwV 0 hts gX9_newKeyRefusal_X9_loggedIn rfl rfl rfl (by decide +kernel) ⟨Nat.le_of_ble_eq_true rfl, Nat.le_of_ble_eq_true rfl⟩) ⟨zblind, va_recv hK hP (ci := 11) (q0 := 0) rfl rfl, zpre hE hS (hP.sub [0] rfl) (hD.sub [0] (by decide) rfl) (va_free hD hS hA [0] rfl)⟩ rfl rfl hl.1 rfl (lv_room (Nat.le_of_ble_eq_true rfl)) (zdt_at zt_X9_newKeyRefusal_0 1 rfl) ⟨Nat.zero_le _, Nat.zero_le _⟩) ?_
  clear hc_
  refine W.eq (g2 := F0 m 4 ls [.int r_1]) rfl ?_
  refine lv_if_ne (pc := 4) (tgt := 9) hx hb (zdt_at zt_X9_newKeyRefusal_0 2 rfl) (by decide) (fun cn_ => ?t_2) (fun cn_ => ?f_3)
  case f_3 =>
    replace hf := zt_s cn_ hf
    clear cn_
    refine lv_iconst (pc := 7) (v := (-1 : Int32)) hx hb (zdt_at zt_X9_newKeyRefusal_0 3 rfl) (by decide) ?_
    cases hf
    exact W.iret (pc := 8) hx hb hr (fun t ht hW => ⟨rfl, ht⟩) (fun _ h => nomatch h) (zdt_at zt_X9_newKeyRefusal_0 4 rfl)
  replace hf := ze_s cn_ hf
  clear cn_
  refine lv_iload_n (pc := 9) hx hb (zdt_at zt_X9_newKeyRefusal_0 5 rfl) rfl (lv_at hl 1 rfl) ?_
  replace hf := zb_s hf
  obtain ⟨r_4, hc_, hf⟩ := hf
  refine zcs (pc := 10) (rv := (some (.int r_4))) (va_runS (As := [.int p1]) (rest := []) ⟨hx, hb, hml, hown, hts⟩ (c_X9_isSlot l D cy tt s.heap.size p1 r_4 hc_) (va_cwS 1 hts gX9_newKeyRefusal_X9_isSlot rfl rfl rfl (by decide +kernel) ⟨Nat.le_of_ble_eq_true rfl, Nat.le_of_ble_eq_true rfl⟩) ⟨zblind, zpre hE hS (hP.sub [] rfl) (hD.sub [] (by decide) rfl) (va_free hD hS hA [] rfl)⟩ rfl rfl hl.1 rfl (lv_room (Nat.le_of_ble_eq_true rfl)) (zdt_at zt_X9_newKeyRefusal_0 6 rfl) ⟨Nat.zero_le _, Nat.zero_le _⟩) ?_
  clear hc_
  refine W.eq (g2 := F0 m 13 ls [.int r_4]) rfl ?_
  refine lv_if_eq (pc := 13) (tgt := 38) hx hb (zdt_at zt_X9_newKeyRefusal_0 7 rfl) (by decide) (fun cn_ => ?t_5) (fun cn_ => ?f_6)
  case t_5 =>
    replace hf := zt_s cn_ hf
    clear cn_
    refine lv_bipush (pc := 38) (v := (-2 : Int32)) hx hb (zdt_at zt_X9_newKeyRefusal_0 17 rfl) (by decide) ?_
    cases hf
    exact W.iret (pc := 40) hx hb hr (fun t ht hW => ⟨rfl, ht⟩) (fun _ h => nomatch h) (zdt_at zt_X9_newKeyRefusal_0 18 rfl)
  replace hf := ze_s cn_ hf
  clear cn_
  refine lv_iload_n (pc := 16) hx hb (zdt_at zt_X9_newKeyRefusal_0 8 rfl) rfl (lv_at hl 2 rfl) ?_
  replace hf := zb_s hf
  obtain ⟨r_7, hc_, hf⟩ := hf
  refine zcs (pc := 17) (rv := (some (.int r_7))) (va_runS (As := [.int p2]) (rest := []) ⟨hx, hb, hml, hown, hts⟩ (c_X9_isKind l D cy tt s.heap.size p2 r_7 hc_) (va_cwS 1 hts gX9_newKeyRefusal_X9_isKind rfl rfl rfl (by decide +kernel) ⟨Nat.le_of_ble_eq_true rfl, Nat.le_of_ble_eq_true rfl⟩) ⟨zblind, zpre hE hS (hP.sub [] rfl) (hD.sub [] (by decide) rfl) (va_free hD hS hA [] rfl)⟩ rfl rfl hl.1 rfl (lv_room (Nat.le_of_ble_eq_true rfl)) (zdt_at zt_X9_newKeyRefusal_0 9 rfl) ⟨Nat.zero_le _, Nat.zero_le _⟩) ?_
  clear hc_
  refine W.eq (g2 := F0 m 20 ls [.int r_7]) rfl ?_
  refine lv_if_eq (pc := 20) (tgt := 38) hx hb (zdt_at zt_X9_newKeyRefusal_0 10 rfl) (by decide) (fun cn_ => ?t_8) (fun cn_ => ?f_9)
  case t_8 =>
    replace hf := zt_s cn_ hf
    clear cn_
    refine lv_bipush (pc := 38) (v := (-2 : Int32)) hx hb (zdt_at zt_X9_newKeyRefusal_0 17 rfl) (by decide) ?_
    cases hf
    exact W.iret (pc := 40) hx hb hr (fun t ht hW => ⟨rfl, ht⟩) (fun _ h => nomatch h) (zdt_at zt_X9_newKeyRefusal_0 18 rfl)
  replace hf := ze_s cn_ hf
  clear cn_
  refine lv_iload_n (pc := 23) hx hb (zdt_at zt_X9_newKeyRefusal_0 11 rfl) rfl (lv_at hl 3 rfl) ?_
  replace hf := zb_s hf
  obtain ⟨r_10, hc_, hf⟩ := hf
  refine zcs (pc := 24) (rv := (some (.int r_10))) (va_runS (As := [.int p3]) (rest := []) ⟨hx, hb, hml, hown, hts⟩ (c_X9_isUsage l D cy tt s.heap.size p3 r_10 hc_) (va_cwS 1 hts gX9_newKeyRefusal_X9_isUsage rfl rfl rfl (by decide +kernel) ⟨Nat.le_of_ble_eq_true rfl, Nat.le_of_ble_eq_true rfl⟩) ⟨zblind, zpre hE hS (hP.sub [] rfl) (hD.sub [] (by decide) rfl) (va_free hD hS hA [] rfl)⟩ rfl rfl hl.1 rfl (lv_room (Nat.le_of_ble_eq_true rfl)) (zdt_at zt_X9_newKeyRefusal_0 12 rfl) ⟨Nat.zero_le _, Nat.zero_le _⟩) ?_
  clear hc_
  refine W.eq (g2 := F0 m 27 ls [.int r_10]) rfl ?_
  refine lv_if_eq (pc := 27) (tgt := 38) hx hb (zdt_at zt_X9_newKeyRefusal_0 13 rfl) (by decide) (fun cn_ => ?t_11) (fun cn_ => ?f_12)
  case t_11 =>
    replace hf := zt_s cn_ hf
    clear cn_
    refine lv_bipush (pc := 38) (v := (-2 : Int32)) hx hb (zdt_at zt_X9_newKeyRefusal_0 17 rfl) (by decide) ?_
    cases hf
    exact W.iret (pc := 40) hx hb hr (fun t ht hW => ⟨rfl, ht⟩) (fun _ h => nomatch h) (zdt_at zt_X9_newKeyRefusal_0 18 rfl)
  replace hf := ze_s cn_ hf
  clear cn_
  refine lv_iload (pc := 30) hx hb (zdt_at zt_X9_newKeyRefusal_0 14 rfl) (lv_at hl 4 rfl) ?_
  replace hf := zb_s hf
  obtain ⟨r_13, hc_, hf⟩ := hf
  refine zcs (pc := 32) (rv := (some (.int r_13))) (va_runS (As := [.int p4]) (rest := []) ⟨hx, hb, hml, hown, hts⟩ (c_X9_isRole l D cy tt s.heap.size p4 r_13 hc_) (va_cwS 1 hts gX9_newKeyRefusal_X9_isRole rfl rfl rfl (by decide +kernel) ⟨Nat.le_of_ble_eq_true rfl, Nat.le_of_ble_eq_true rfl⟩) ⟨zblind, zpre hE hS (hP.sub [] rfl) (hD.sub [] (by decide) rfl) (va_free hD hS hA [] rfl)⟩ rfl rfl hl.1 rfl (lv_room (Nat.le_of_ble_eq_true rfl)) (zdt_at zt_X9_newKeyRefusal_0 15 rfl) ⟨Nat.zero_le _, Nat.zero_le _⟩) ?_
  clear hc_
  refine W.eq (g2 := F0 m 35 ls [.int r_13]) rfl ?_
  refine lv_if_ne (pc := 35) (tgt := 41) hx hb (zdt_at zt_X9_newKeyRefusal_0 16 rfl) (by decide) (fun cn_ => ?t_14) (fun cn_ => ?f_15)
  case f_15 =>
    replace hf := zt_s cn_ hf
    clear cn_
    refine lv_bipush (pc := 38) (v := (-2 : Int32)) hx hb (zdt_at zt_X9_newKeyRefusal_0 17 rfl) (by decide) ?_
    cases hf
    exact W.iret (pc := 40) hx hb hr (fun t ht hW => ⟨rfl, ht⟩) (fun _ h => nomatch h) (zdt_at zt_X9_newKeyRefusal_0 18 rfl)
  replace hf := ze_s cn_ hf
  clear cn_
  refine lv_iload (pc := 41) hx hb (zdt_at zt_X9_newKeyRefusal_0 19 rfl) (lv_at hl 5 rfl) ?_
  refine lv_iconst (pc := 43) (v := (-1 : Int32)) hx hb (zdt_at zt_X9_newKeyRefusal_0 20 rfl) (by decide) ?_
  refine lv_icmp_lt (pc := 44) (tgt := 62) hx hb (zdt_at zt_X9_newKeyRefusal_0 21 rfl) (by decide) (fun cn_ => ?t_16) (fun cn_ => ?f_17)
  case t_16 =>
    replace hf := zt_s cn_ hf
    clear cn_
    refine lv_bipush (pc := 62) (v := (-2 : Int32)) hx hb (zdt_at zt_X9_newKeyRefusal_0 28 rfl) (by decide) ?_
    cases hf
    exact W.iret (pc := 64) hx hb hr (fun t ht hW => ⟨rfl, ht⟩) (fun _ h => nomatch h) (zdt_at zt_X9_newKeyRefusal_0 29 rfl)
  replace hf := ze_s cn_ hf
  clear cn_
  refine lv_iload (pc := 47) hx hb (zdt_at zt_X9_newKeyRefusal_0 22 rfl) (lv_at hl 5 rfl) ?_
  refine lv_ldc (pc := 49) hx hb hown hw0 (zdt_at zt_X9_newKeyRefusal_0 23 rfl) ?_
  refine lv_icmp_gt (pc := 51) (tgt := 62) hx hb (zdt_at zt_X9_newKeyRefusal_0 24 rfl) (by decide) (fun cn_ => ?t_18) (fun cn_ => ?f_19)
  case t_18 =>
    replace hf := zt_s cn_ hf
    clear cn_
    refine lv_bipush (pc := 62) (v := (-2 : Int32)) hx hb (zdt_at zt_X9_newKeyRefusal_0 28 rfl) (by decide) ?_
    cases hf
    exact W.iret (pc := 64) hx hb hr (fun t ht hW => ⟨rfl, ht⟩) (fun _ h => nomatch h) (zdt_at zt_X9_newKeyRefusal_0 29 rfl)
  replace hf := ze_s cn_ hf
  clear cn_
  refine lv_iload (pc := 54) hx hb (zdt_at zt_X9_newKeyRefusal_0 25 rfl) (lv_at hl 6 rfl) ?_
  replace hf := zb_s hf
  obtain ⟨r_20, hc_, hf⟩ := hf
  refine zcs (pc := 56) (rv := (some (.int r_20))) (va_runS (As := [.int p6]) (rest := []) ⟨hx, hb, hml, hown, hts⟩ (c_X9_isKeyLength l D cy tt s.heap.size p6 r_20 hc_) (va_cwS 1 hts gX9_newKeyRefusal_X9_isKeyLength rfl rfl rfl (by decide +kernel) ⟨Nat.le_of_ble_eq_true rfl, Nat.le_of_ble_eq_true rfl⟩) ⟨zblind, zpre hE hS (hP.sub [] rfl) (hD.sub [] (by decide) rfl) (va_free hD hS hA [] rfl)⟩ rfl rfl hl.1 rfl (lv_room (Nat.le_of_ble_eq_true rfl)) (zdt_at zt_X9_newKeyRefusal_0 26 rfl) ⟨Nat.zero_le _, Nat.zero_le _⟩) ?_
  clear hc_
  refine W.eq (g2 := F0 m 59 ls [.int r_20]) rfl ?_
  refine lv_if_ne (pc := 59) (tgt := 65) hx hb (zdt_at zt_X9_newKeyRefusal_0 27 rfl) (by decide) (fun cn_ => ?t_21) (fun cn_ => ?f_22)
  case f_22 =>
    replace hf := zt_s cn_ hf
    clear cn_
    refine lv_bipush (pc := 62) (v := (-2 : Int32)) hx hb (zdt_at zt_X9_newKeyRefusal_0 28 rfl) (by decide) ?_
    cases hf
    exact W.iret (pc := 64) hx hb hr (fun t ht hW => ⟨rfl, ht⟩) (fun _ h => nomatch h) (zdt_at zt_X9_newKeyRefusal_0 29 rfl)
  replace hf := ze_s cn_ hf
  clear cn_
  refine lv_aload_n (pc := 65) hx hb (zdt_at zt_X9_newKeyRefusal_0 30 rfl) rfl (lv_at hl 0 rfl) ?_
  refine va_get (pc := 66) (D := D) (ci := 11) (v := .int c_state) (C := RX9) (T := TX9) (N := 19) hx hb hts hcX9 hown hK hP 0 rfl rfl 15 (by decide) hw1 (fun _ h9 => h9) rfl (zdt_at zt_X9_newKeyRefusal_0 31 rfl) ?_
  refine lv_iconst (pc := 69) (v := (3 : Int32)) hx hb (zdt_at zt_X9_newKeyRefusal_0 32 rfl) (by decide) ?_
  refine lv_icmp_eq (pc := 70) (tgt := 76) hx hb (zdt_at zt_X9_newKeyRefusal_0 33 rfl) (by decide) (fun cn_ => ?t_23) (fun cn_ => ?f_24)
  case f_24 =>
    replace hf := ze_s cn_ hf
    clear cn_
    refine lv_bipush (pc := 73) (v := (-3 : Int32)) hx hb (zdt_at zt_X9_newKeyRefusal_0 34 rfl) (by decide) ?_
    cases hf
    exact W.iret (pc := 75) hx hb hr (fun t ht hW => ⟨rfl, ht⟩) (fun _ h => nomatch h) (zdt_at zt_X9_newKeyRefusal_0 35 rfl)
  replace hf := zt_s cn_ hf
  clear cn_
  refine lv_aload_n (pc := 76) hx hb (zdt_at zt_X9_newKeyRefusal_0 36 rfl) rfl (lv_at hl 0 rfl) ?_
  refine va_get (pc := 77) (D := D) (ci := 11) (v := .ref h0_slots) (C := RX9) (T := TX9) (N := 19) hx hb hts hcX9 hown hK hP 0 rfl rfl 1 (by decide) hw2 (fun _ h9 => h9) rfl (zdt_at zt_X9_newKeyRefusal_0 37 rfl) ?_
  refine lv_iload_n (pc := 80) hx hb (zdt_at zt_X9_newKeyRefusal_0 38 rfl) rfl (lv_at hl 1 rfl) ?_
  replace hf := zk_s hf
  have hj_25 : p1.toNatClampNeg < 16 := Nat.not_le.mp fun q => hf.1 (Or.inr q)
  refine va_aldq (pc := 81) (C := RX8) hx hb hK hP 1 4 rfl rfl hf.1 (zdt_at zt_X9_newKeyRefusal_0 39 rfl) ?_
  replace hf := hf.2
  replace hf := zb_s hf
  obtain ⟨r_26, hc_, hf⟩ := hf
  refine zcs (pc := 82) (rv := (some (.int r_26))) (va_runV (As := []) (rest := []) ⟨hx, hb, hml, hown, hts⟩ (c_X8_isEmpty l D cy tt s.heap.size hP_o hP_k p1.toNatClampNeg cP_kind cP_length cP_usage cP_role cP_uses cPK r_26 hj_25 hc_) (cwV 0 hts gX9_newKeyRefusal_X8_isEmpty rfl rfl rfl (by decide +kernel) ⟨Nat.le_of_ble_eq_true rfl, Nat.le_of_ble_eq_true rfl⟩) ⟨zblind, va_recv hK hP (ci := 10) (q0 := (2 + p1.toNatClampNeg)) rfl (zplO_get (X := [(h0, .inr (11, [.ref h0_buffer, .ref h0_slots, .ref h0_counters, .ref h0_officerPin, .ref h0_userPin, .ref h0_words, .ref h0_sha, .ref h0_stream, .ref h0_aes, .ref h0_modes, .ref h0_gcm, .ref h0_generator, .ref h0_tests, .ref h0_message, .ref h0_secret, .int c_state, .int c_testsDone, .int c_faults, .int c_streamBegun])), (h0_slots, .inl (cy 4, 16, .inr (.inr (.inr (.inr (fun j => some (hP_o j)))))))]) (n := 2) rfl hj_25), zpre hE hS (va_P.part (X := [(h0, .inr (11, [.ref h0_buffer, .ref h0_slots, .ref h0_counters, .ref h0_officerPin, .ref h0_userPin, .ref h0_words, .ref h0_sha, .ref h0_stream, .ref h0_aes, .ref h0_modes, .ref h0_gcm, .ref h0_generator, .ref h0_tests, .ref h0_message, .ref h0_secret, .int c_state, .int c_testsDone, .int c_faults, .int c_streamBegun])), (h0_slots, .inl (cy 4, 16, .inr (.inr (.inr (.inr (fun j => some (hP_o j)))))))]) hP [] rfl) (va_D.part (X := [(h0, .inr (11, [.ref h0_buffer, .ref h0_slots, .ref h0_counters, .ref h0_officerPin, .ref h0_userPin, .ref h0_words, .ref h0_sha, .ref h0_stream, .ref h0_aes, .ref h0_modes, .ref h0_gcm, .ref h0_generator, .ref h0_tests, .ref h0_message, .ref h0_secret, .int c_state, .int c_testsDone, .int c_faults, .int c_streamBegun])), (h0_slots, .inl (cy 4, 16, .inr (.inr (.inr (.inr (fun j => some (hP_o j)))))))]) hD [] (by decide) rfl) (va_freeP (X := [(h0, .inr (11, [.ref h0_buffer, .ref h0_slots, .ref h0_counters, .ref h0_officerPin, .ref h0_userPin, .ref h0_words, .ref h0_sha, .ref h0_stream, .ref h0_aes, .ref h0_modes, .ref h0_gcm, .ref h0_generator, .ref h0_tests, .ref h0_message, .ref h0_secret, .int c_state, .int c_testsDone, .int c_faults, .int c_streamBegun])), (h0_slots, .inl (cy 4, 16, .inr (.inr (.inr (.inr (fun j => some (hP_o j)))))))]) hD hS hA [] rfl)⟩ rfl rfl hl.1 rfl (lv_room (Nat.le_of_ble_eq_true rfl)) (zdt_at zt_X9_newKeyRefusal_0 40 rfl) ⟨Nat.zero_le _, Nat.zero_le _⟩) ?_
  clear hc_
  refine W.eq (g2 := F0 m 85 ls [.int r_26]) rfl ?_
  refine lv_if_ne (pc := 85) (tgt := 91) hx hb (zdt_at zt_X9_newKeyRefusal_0 41 rfl) (by decide) (fun cn_ => ?t_27) (fun cn_ => ?f_28)
  case f_28 =>
    replace hf := zt_s cn_ hf
    clear cn_
    refine lv_bipush (pc := 88) (v := (-4 : Int32)) hx hb (zdt_at zt_X9_newKeyRefusal_0 42 rfl) (by decide) ?_
    cases hf
    exact W.iret (pc := 90) hx hb hr (fun t ht hW => ⟨rfl, ht⟩) (fun _ h => nomatch h) (zdt_at zt_X9_newKeyRefusal_0 43 rfl)
  replace hf := ze_s cn_ hf
  clear cn_
  refine lv_iload_n (pc := 91) hx hb (zdt_at zt_X9_newKeyRefusal_0 44 rfl) rfl (lv_at hl 2 rfl) ?_
  refine lv_iload (pc := 92) hx hb (zdt_at zt_X9_newKeyRefusal_0 45 rfl) (lv_at hl 6 rfl) ?_
  replace hf := zb_s hf
  obtain ⟨r_29, hc_, hf⟩ := hf
  refine zcs (pc := 94) (rv := (some (.int r_29))) (va_runS (As := [.int p2, .int p6]) (rest := []) ⟨hx, hb, hml, hown, hts⟩ (c_X9_lengthFits l D cy tt s.heap.size p2 p6 r_29 hc_) (va_cwS 2 hts gX9_newKeyRefusal_X9_lengthFits rfl rfl rfl (by decide +kernel) ⟨Nat.le_of_ble_eq_true rfl, Nat.le_of_ble_eq_true rfl⟩) ⟨zblind, zpre hE hS (hP.sub [] rfl) (hD.sub [] (by decide) rfl) (va_free hD hS hA [] rfl)⟩ rfl rfl hl.1 rfl (lv_room (Nat.le_of_ble_eq_true rfl)) (zdt_at zt_X9_newKeyRefusal_0 46 rfl) ⟨Nat.zero_le _, Nat.zero_le _⟩) ?_
  clear hc_
  refine W.eq (g2 := F0 m 97 ls [.int r_29]) rfl ?_
  refine lv_if_eq (pc := 97) (tgt := 104) hx hb (zdt_at zt_X9_newKeyRefusal_0 47 rfl) (by decide) (fun cn_ => ?t_30) (fun cn_ => ?f_31)
  case t_30 =>
    replace hf := zt_s cn_ hf
    clear cn_
    refine lv_bipush (pc := 104) (v := (-5 : Int32)) hx hb (zdt_at zt_X9_newKeyRefusal_0 50 rfl) (by decide) ?_
    cases hf
    exact W.iret (pc := 106) hx hb hr (fun t ht hW => ⟨rfl, ht⟩) (fun _ h => nomatch h) (zdt_at zt_X9_newKeyRefusal_0 51 rfl)
  replace hf := ze_s cn_ hf
  clear cn_
  refine lv_iconst (pc := 100) (v := (0 : Int32)) hx hb (zdt_at zt_X9_newKeyRefusal_0 48 rfl) (by decide) ?_
  refine lv_goto (pc := 101) (tgt := 106) hx hb (zdt_at zt_X9_newKeyRefusal_0 49 rfl) (by decide) ?_
  cases hf
  exact W.iret (pc := 106) hx hb hr (fun t ht hW => ⟨rfl, ht⟩) (fun _ h => nomatch h) (zdt_at zt_X9_newKeyRefusal_0 51 rfl)
set_option maxHeartbeats 4000000 in
set_option maxRecDepth 100000 in
theorem c_X9_load (l : Launch) (D : va_G) (cy : Nat → ClassId) (tt : Nat → Nat) (sz : Nat) (h0 : Nat) (h0_buffer : Nat) (h0_slots : Nat) (h0_counters : Nat) (h0_officerPin : Nat) (h0_userPin : Nat) (h0_words : Nat) (h0_sha : Nat) (h0_stream : Nat) (h0_aes : Nat) (h0_modes : Nat) (h0_gcm : Nat) (h0_generator : Nat) (h0_tests : Nat) (h0_message : Nat) (h0_secret : Nat) (hP_o : Nat → Nat) (hP_k : Nat → Nat) (p1 : Int32) (p2 : Int32) (p3 : Int32) (p4 : Int32) (p5 : Int32) (p6 : Int32) (c_state : Int32) (c_buffer : Nat → Int32) (c_counters : Nat → Int32) (cP_kind : Nat → Int32) (cP_length : Nat → Int32) (cP_role : Nat → Int32) (cP_usage : Nat → Int32) (cP_uses : Nat → Int32) (cPK : Nat → Nat → Int32) (c_testsDone : Int32) (c_faults : Int32) (c_streamBegun : Int32) (r_ : Int32) (c_counters' : Nat → Int32) (cP_kind' : Nat → Int32) (cP_length' : Nat → Int32) (cP_role' : Nat → Int32) (cP_usage' : Nat → Int32) (cP_uses' : Nat → Int32) (cPK' : Nat → Nat → Int32) (hf : f_X9_load p1 p2 p3 p4 p5 p6 c_state c_buffer c_counters cP_kind cP_length cP_role cP_usage cP_uses cPK = some (r_, c_counters', cP_kind', cP_length', cP_role', cP_usage', cP_uses', cPK')) : Met l yX9_load wsX9_load ({ frames := 3, cells := 0, slots := 0, locals := 91 }) (zPc D cy tt sz [.ref h0, .int p1, .int p2, .int p3, .int p4, .int p5, .int p6] ([(h0, .inr (11, [.ref h0_buffer, .ref h0_slots, .ref h0_counters, .ref h0_officerPin, .ref h0_userPin, .ref h0_words, .ref h0_sha, .ref h0_stream, .ref h0_aes, .ref h0_modes, .ref h0_gcm, .ref h0_generator, .ref h0_tests, .ref h0_message, .ref h0_secret, .int c_state, .int c_testsDone, .int c_faults, .int c_streamBegun])), (h0_buffer, .inl (cy 0, 512, .inl c_buffer)), (h0_counters, .inl (cy 1, 3, .inl c_counters)), (h0_slots, .inl (cy 4, 16, .inr (.inr (.inr (.inr (fun j => some (hP_o j)))))))] ++ zpl (cy 0) hP_o hP_k cP_kind cP_length cP_usage cP_role cP_uses cPK)) (zQ D (some (.int r_)) ([(h0, .inr (11, [.ref h0_buffer, .ref h0_slots, .ref h0_counters, .ref h0_officerPin, .ref h0_userPin, .ref h0_words, .ref h0_sha, .ref h0_stream, .ref h0_aes, .ref h0_modes, .ref h0_gcm, .ref h0_generator, .ref h0_tests, .ref h0_message, .ref h0_secret, .int c_state, .int c_testsDone, .int c_faults, .int c_streamBegun])), (h0_buffer, .inl (cy 0, 512, .inl c_buffer)), (h0_counters, .inl (cy 1, 3, .inl c_counters')), (h0_slots, .inl (cy 4, 16, .inr (.inr (.inr (.inr (fun j => some (hP_o j)))))))] ++ zpl (cy 0) hP_o hP_k cP_kind' cP_length' cP_usage' cP_role' cP_uses' cPK') (va_A ([(h0, .inr (11, [.ref h0_buffer, .ref h0_slots, .ref h0_counters, .ref h0_officerPin, .ref h0_userPin, .ref h0_words, .ref h0_sha, .ref h0_stream, .ref h0_aes, .ref h0_modes, .ref h0_gcm, .ref h0_generator, .ref h0_tests, .ref h0_message, .ref h0_secret, .int c_state, .int c_testsDone, .int c_faults, .int c_streamBegun])), (h0_buffer, .inl (cy 0, 512, .inl c_buffer)), (h0_counters, .inl (cy 1, 3, .inl c_counters)), (h0_slots, .inl (cy 4, 16, .inr (.inr (.inr (.inr (fun j => some (hP_o j)))))))] ++ zpl (cy 0) hP_o hP_k cP_kind cP_length cP_usage cP_role cP_uses cPK) sz)) 0 0 (va_A ([(h0, .inr (11, [.ref h0_buffer, .ref h0_slots, .ref h0_counters, .ref h0_officerPin, .ref h0_userPin, .ref h0_words, .ref h0_sha, .ref h0_stream, .ref h0_aes, .ref h0_modes, .ref h0_gcm, .ref h0_generator, .ref h0_tests, .ref h0_message, .ref h0_secret, .int c_state, .int c_testsDone, .int c_faults, .int c_streamBegun])), (h0_buffer, .inl (cy 0, 512, .inl c_buffer)), (h0_counters, .inl (cy 1, 3, .inl c_counters)), (h0_slots, .inl (cy 4, 16, .inr (.inr (.inr (.inr (fun j => some (hP_o j)))))))] ++ zpl (cy 0) hP_o hP_k cP_kind cP_length cP_usage cP_role cP_uses cPK) sz) := by
  refine Met.ofW (cc := cX9_load) (maxL := 8) (ret := (some .int)) (by decide) rfl ?_
  intro p e s m args below meth c s₁ B hml hv
  obtain ⟨rfl, rfl, hP, hD0, hE⟩ := hv
  have hx := B.exec
  have hb := B.bytes
  have hr := B.returns
  have hts := atoms_spec (ws := wsX9_load) B.pre
  have hown : s.vm.findClass RX9 = some m.cls := findClass_of_methodNamed B.named
  have hlocks := B.notSynchronized
  clear B
  have hD := hD0.self (sz := s.heap.size)
  generalize hAe : va_A ([(h0, .inr (11, [.ref h0_buffer, .ref h0_slots, .ref h0_counters, .ref h0_officerPin, .ref h0_userPin, .ref h0_words, .ref h0_sha, .ref h0_stream, .ref h0_aes, .ref h0_modes, .ref h0_gcm, .ref h0_generator, .ref h0_tests, .ref h0_message, .ref h0_secret, .int c_state, .int c_testsDone, .int c_faults, .int c_streamBegun])), (h0_buffer, .inl (cy 0, 512, .inl c_buffer)), (h0_counters, .inl (cy 1, 3, .inl c_counters)), (h0_slots, .inl (cy 4, 16, .inr (.inr (.inr (.inr (fun j => some (hP_o j)))))))] ++ zpl (cy 0) hP_o hP_k cP_kind cP_length cP_usage cP_role cP_uses cPK) s.heap.size = A at hD hE ⊢
  have hA : ∀ q : Nat, s.heap.size ≤ q → A q := fun q h => by rw [← hAe]; exact Or.inr h
  clear hAe hD0
  have hS : va_S A s.heap s.heap [] := va_S.rf
  have hK := hE.1
  have hw0 := hts (.fieldLink RX9 15 "SealedModule" "slots" "[LSealedModule$Slot;") (by decide +kernel)
  have hw1 := hts (.fieldLink RX9 9 "SealedModule" "buffer" "[B") (by decide +kernel)
  have hcX9 : ∀ w ∈ u_ws RX9 TX9 19, w ∈ wsX9_load := (fun _ h => List.mem_cons_of_mem _ (List.mem_append_left _ (List.mem_append_right _ h)))
  have hl := lv_entry ([.ref h0, .int p1, .int p2, .int p3, .int p4, .int p5, .int p6]) (n := 8) (Nat.le_of_ble_eq_true rfl)
  rw [lg_entry_eq]
  generalize (lg_sl ([.ref h0, .int p1, .int p2, .int p3, .int p4, .int p5, .int p6]) ++ List.replicate (8 - (lg_sl ([.ref h0, .int p1, .int p2, .int p3, .int p4, .int p5, .int p6])).length) Slot.unset).toArray = ls at hl ⊢
  replace hl : lv_has ls 8 [(0, .ref h0), (1, .int p1), (2, .int p2), (3, .int p3), (4, .int p4), (5, .int p5), (6, .int p6)] := hl
  unfold f_X9_load at hf
  refine zgo (fun GW hTo hFr => ?_)
  refine hFr _ _ _ ?_
  obtain ⟨H, hHe⟩ : ∃ H, H = s.heap := ⟨_, rfl⟩
  obtain ⟨locs, hLe⟩ : ∃ L : List Loc, L = [] := ⟨_, rfl⟩
  rw [← hHe] at hP
  replace hS : va_S A s.heap H locs := by rw [hHe, hLe]; exact hS
  refine zat hHe.symm hLe.symm ?_
  clear hHe hLe
  refine lv_aload_n (pc := 0) hx hb (zdt_at zt_X9_load_0 0 rfl) rfl (lv_at hl 0 rfl) ?_
  refine lv_iload_n (pc := 1) hx hb (zdt_at zt_X9_load_0 1 rfl) rfl (lv_at hl 1 rfl) ?_
  refine lv_iload_n (pc := 2) hx hb (zdt_at zt_X9_load_0 2 rfl) rfl (lv_at hl 2 rfl) ?_
  refine lv_iload_n (pc := 3) hx hb (zdt_at zt_X9_load_0 3 rfl) rfl (lv_at hl 3 rfl) ?_
  refine lv_iload (pc := 4) hx hb (zdt_at zt_X9_load_0 4 rfl) (lv_at hl 4 rfl) ?_
  refine lv_iload (pc := 6) hx hb (zdt_at zt_X9_load_0 5 rfl) (lv_at hl 5 rfl) ?_
  refine lv_iload (pc := 8) hx hb (zdt_at zt_X9_load_0 6 rfl) (lv_at hl 6 rfl) ?_
  replace hf := zb_s hf
  obtain ⟨r_1, hc_, hf⟩ := hf
  refine zcs (pc := 10) (rv := (some (.int r_1))) (va_runV (As := [.int p1, .int p2, .int p3, .int p4, .int p5, .int p6]) (rest := []) ⟨hx, hb, hml, hown, hts⟩ (c_X9_newKeyRefusal l D cy tt H.size h0 h0_buffer h0_slots h0_counters h0_officerPin h0_userPin h0_words h0_sha h0_stream h0_aes h0_modes h0_gcm h0_generator h0_tests h0_message h0_secret hP_o hP_k p1 p2 p3 p4 p5 p6 c_state cP_kind c_testsDone c_faults c_streamBegun cP_length cP_usage cP_role cP_uses cPK r_1 hc_) (cwV 6 hts gX9_load_X9_newKeyRefusal rfl rfl rfl (by decide +kernel) ⟨Nat.le_of_ble_eq_true rfl, Nat.le_of_ble_eq_true rfl⟩) ⟨zblind, va_recv hK hP (ci := 11) (q0 := 0) rfl rfl, zpre hE hS (va_P.part (X := [(h0, .inr (11, [.ref h0_buffer, .ref h0_slots, .ref h0_counters, .ref h0_officerPin, .ref h0_userPin, .ref h0_words, .ref h0_sha, .ref h0_stream, .ref h0_aes, .ref h0_modes, .ref h0_gcm, .ref h0_generator, .ref h0_tests, .ref h0_message, .ref h0_secret, .int c_state, .int c_testsDone, .int c_faults, .int c_streamBegun])), (h0_buffer, .inl (cy 0, 512, .inl c_buffer)), (h0_counters, .inl (cy 1, 3, .inl c_counters)), (h0_slots, .inl (cy 4, 16, .inr (.inr (.inr (.inr (fun j => some (hP_o j)))))))]) hP [0, 3] rfl) (va_D.part (X := [(h0, .inr (11, [.ref h0_buffer, .ref h0_slots, .ref h0_counters, .ref h0_officerPin, .ref h0_userPin, .ref h0_words, .ref h0_sha, .ref h0_stream, .ref h0_aes, .ref h0_modes, .ref h0_gcm, .ref h0_generator, .ref h0_tests, .ref h0_message, .ref h0_secret, .int c_state, .int c_testsDone, .int c_faults, .int c_streamBegun])), (h0_buffer, .inl (cy 0, 512, .inl c_buffer)), (h0_counters, .inl (cy 1, 3, .inl c_counters)), (h0_slots, .inl (cy 4, 16, .inr (.inr (.inr (.inr (fun j => some (hP_o j)))))))]) hD [0, 3] (by decide) rfl) (va_freeP (X := [(h0, .inr (11, [.ref h0_buffer, .ref h0_slots, .ref h0_counters, .ref h0_officerPin, .ref h0_userPin, .ref h0_words, .ref h0_sha, .ref h0_stream, .ref h0_aes, .ref h0_modes, .ref h0_gcm, .ref h0_generator, .ref h0_tests, .ref h0_message, .ref h0_secret, .int c_state, .int c_testsDone, .int c_faults, .int c_streamBegun])), (h0_buffer, .inl (cy 0, 512, .inl c_buffer)), (h0_counters, .inl (cy 1, 3, .inl c_counters)), (h0_slots, .inl (cy 4, 16, .inr (.inr (.inr (.inr (fun j => some (hP_o j)))))))]) hD hS hA [0, 3] rfl)⟩ rfl rfl hl.1 rfl (lv_room (Nat.le_of_ble_eq_true rfl)) (zdt_at zt_X9_load_0 7 rfl) ⟨Nat.zero_le _, Nat.zero_le _⟩) ?_
  clear hc_
  refine W.eq (g2 := F0 m 13 ls [.int r_1]) rfl ?_
  refine lv_istore (pc := 13) (lv' := [(7, .int r_1), (0, .ref h0), (1, .int p1), (2, .int p2), (3, .int p3), (4, .int p4), (5, .int p5), (6, .int p6)]) hx hb (zdt_at zt_X9_load_0 8 rfl) hl (by decide) rfl ?_
  clear hl
  intro ls hl
  refine lv_iload (pc := 15) hx hb (zdt_at zt_X9_load_0 9 rfl) (lv_at hl 0 rfl) ?_
  refine lv_if_ne (pc := 17) (tgt := 42) hx hb (zdt_at zt_X9_load_0 10 rfl) (by decide) (fun cn_ => ?t_2) (fun cn_ => ?f_3)
  case t_2 =>
    replace hf := ze_s cn_ hf
    clear cn_
    refine lv_aload_n (pc := 42) hx hb (zdt_at zt_X9_load_0 24 rfl) rfl (lv_at hl 1 rfl) ?_
    refine lv_iload (pc := 43) hx hb (zdt_at zt_X9_load_0 25 rfl) (lv_at hl 0 rfl) ?_
    replace hf := zb_s hf
    obtain ⟨⟨r_4, c_counters_5⟩, hc_, hf⟩ := hf
    refine zcnQ (pc := 45) (X := [(h0, .inr (11, [.ref h0_buffer, .ref h0_slots, .ref h0_counters, .ref h0_officerPin, .ref h0_userPin, .ref h0_words, .ref h0_sha, .ref h0_stream, .ref h0_aes, .ref h0_modes, .ref h0_gcm, .ref h0_generator, .ref h0_tests, .ref h0_message, .ref h0_secret, .int c_state, .int c_testsDone, .int c_faults, .int c_streamBegun])), (h0_buffer, .inl (cy 0, 512, .inl c_buffer)), (h0_counters, .inl (cy 1, 3, .inl c_counters)), (h0_slots, .inl (cy 4, 16, .inr (.inr (.inr (.inr (fun j => some (hP_o j)))))))]) (rv := (some (.int r_4))) (va_runV (As := [.int r_1]) (rest := []) ⟨hx, hb, hml, hown, hts⟩ (c_X9_counted l D cy tt H.size h0 h0_buffer h0_slots h0_counters h0_officerPin h0_userPin h0_words h0_sha h0_stream h0_aes h0_modes h0_gcm h0_generator h0_tests h0_message h0_secret r_1 c_counters c_state c_testsDone c_faults c_streamBegun r_4 c_counters_5 hc_) (cwV 1 hts gX9_load_X9_counted rfl rfl rfl (by decide +kernel) ⟨Nat.le_of_ble_eq_true rfl, Nat.le_of_ble_eq_true rfl⟩) ⟨zblind, va_recv hK hP (ci := 11) (q0 := 0) rfl rfl, zpre hE hS (hP.sub [0, 2] rfl) (hD.sub [0, 2] (by decide) rfl) (va_free hD hS hA [0, 2] rfl)⟩ rfl rfl hl.1 rfl (lv_room (Nat.le_of_ble_eq_true rfl)) (zdt_at zt_X9_load_0 26 rfl) ⟨Nat.zero_le _, Nat.zero_le _⟩) hS hP hD (va_free hD hS hA [0, 2] rfl) [0, 2] rfl (by decide) rfl rfl ?_
    clear hP hD hS hc_
    intro H locs hP hD hS
    replace hP : va_P D vwCl ([(h0, .inr (11, [.ref h0_buffer, .ref h0_slots, .ref h0_counters, .ref h0_officerPin, .ref h0_userPin, .ref h0_words, .ref h0_sha, .ref h0_stream, .ref h0_aes, .ref h0_modes, .ref h0_gcm, .ref h0_generator, .ref h0_tests, .ref h0_message, .ref h0_secret, .int c_state, .int c_testsDone, .int c_faults, .int c_streamBegun])), (h0_buffer, .inl (cy 0, 512, .inl c_buffer)), (h0_counters, .inl (cy 1, 3, .inl c_counters_5)), (h0_slots, .inl (cy 4, 16, .inr (.inr (.inr (.inr (fun j => some (hP_o j)))))))] ++ zpl (cy 0) hP_o hP_k cP_kind cP_length cP_usage cP_role cP_uses cPK) H := hP
    replace hD : va_D A ([(h0, .inr (11, [.ref h0_buffer, .ref h0_slots, .ref h0_counters, .ref h0_officerPin, .ref h0_userPin, .ref h0_words, .ref h0_sha, .ref h0_stream, .ref h0_aes, .ref h0_modes, .ref h0_gcm, .ref h0_generator, .ref h0_tests, .ref h0_message, .ref h0_secret, .int c_state, .int c_testsDone, .int c_faults, .int c_streamBegun])), (h0_buffer, .inl (cy 0, 512, .inl c_buffer)), (h0_counters, .inl (cy 1, 3, .inl c_counters_5)), (h0_slots, .inl (cy 4, 16, .inr (.inr (.inr (.inr (fun j => some (hP_o j)))))))] ++ zpl (cy 0) hP_o hP_k cP_kind cP_length cP_usage cP_role cP_uses cPK) := hD
    refine W.eq (g2 := F0 m 48 ls [.int r_4]) rfl ?_
    cases hf
    exact W.iret (pc := 48) hx hb hr (fun t ht hW => ⟨rfl, ⟨by rw [ht]; exact hP, hD⟩, hS.F ht⟩) hS.2.2 (zdt_at zt_X9_load_0 27 rfl)
  replace hf := zt_s cn_ hf
  clear cn_
  refine lv_aload_n (pc := 20) hx hb (zdt_at zt_X9_load_0 11 rfl) rfl (lv_at hl 1 rfl) ?_
  refine va_get (pc := 21) (D := D) (ci := 11) (v := .ref h0_slots) (C := RX9) (T := TX9) (N := 19) hx hb hts hcX9 hown hK hP 0 rfl rfl 1 (by decide) hw0 (fun _ h9 => h9) rfl (zdt_at zt_X9_load_0 12 rfl) ?_
  refine lv_iload_n (pc := 24) hx hb (zdt_at zt_X9_load_0 13 rfl) rfl (lv_at hl 2 rfl) ?_
  replace hf := zk_s hf
  have hj_6 : p1.toNatClampNeg < 16 := Nat.not_le.mp fun q => hf.1 (Or.inr q)
  refine va_aldq (pc := 25) (C := RX8) hx hb hK hP 3 4 rfl rfl hf.1 (zdt_at zt_X9_load_0 14 rfl) ?_
  replace hf := hf.2
  refine lv_iload_n (pc := 26) hx hb (zdt_at zt_X9_load_0 15 rfl) rfl (lv_at hl 3 rfl) ?_
  refine lv_iload_n (pc := 27) hx hb (zdt_at zt_X9_load_0 16 rfl) rfl (lv_at hl 4 rfl) ?_
  refine lv_iload (pc := 28) hx hb (zdt_at zt_X9_load_0 17 rfl) (lv_at hl 5 rfl) ?_
  refine lv_iload (pc := 30) hx hb (zdt_at zt_X9_load_0 18 rfl) (lv_at hl 6 rfl) ?_
  refine lv_aload_n (pc := 32) hx hb (zdt_at zt_X9_load_0 19 rfl) rfl (lv_at hl 1 rfl) ?_
  refine va_get (pc := 33) (D := D) (ci := 11) (v := .ref h0_buffer) (C := RX9) (T := TX9) (N := 19) hx hb hts hcX9 hown hK hP 0 rfl rfl 0 (by decide) hw1 (fun _ h9 => h9) rfl (zdt_at zt_X9_load_0 20 rfl) ?_
  refine lv_iconst (pc := 36) (v := (0 : Int32)) hx hb (zdt_at zt_X9_load_0 21 rfl) (by decide) ?_
  refine lv_iload (pc := 37) hx hb (zdt_at zt_X9_load_0 22 rfl) (lv_at hl 7 rfl) ?_
  replace hf := zb_s hf
  obtain ⟨⟨cP_kind_7, cP_length_8, cP_role_9, cP_usage_10, cP_uses_11, cPK_12⟩, hc_, hf⟩ := hf
  refine zcnP (pc := 39) (X := [(h0, .inr (11, [.ref h0_buffer, .ref h0_slots, .ref h0_counters, .ref h0_officerPin, .ref h0_userPin, .ref h0_words, .ref h0_sha, .ref h0_stream, .ref h0_aes, .ref h0_modes, .ref h0_gcm, .ref h0_generator, .ref h0_tests, .ref h0_message, .ref h0_secret, .int c_state, .int c_testsDone, .int c_faults, .int c_streamBegun])), (h0_buffer, .inl (cy 0, 512, .inl c_buffer)), (h0_counters, .inl (cy 1, 3, .inl c_counters)), (h0_slots, .inl (cy 4, 16, .inr (.inr (.inr (.inr (fun j => some (hP_o j)))))))]) (rv := none) (va_runV (As := [.int p2, .int p3, .int p4, .int p5, .ref h0_buffer, .int (0 : Int32), .int p6]) (rest := []) ⟨hx, hb, hml, hown, hts⟩ (c_X8_fill l D cy tt H.size h0_buffer hP_o hP_k 512 p1.toNatClampNeg p2 p3 p4 p5 (0 : Int32) p6 c_buffer cP_kind cP_length cP_role cP_usage cP_uses cPK cP_kind_7 cP_length_8 cP_role_9 cP_usage_10 cP_uses_11 cPK_12 hj_6 hc_) (cwV 7 hts gX9_load_X8_fill rfl rfl rfl (by decide +kernel) ⟨Nat.le_of_ble_eq_true rfl, Nat.le_of_ble_eq_true rfl⟩) ⟨zblind, va_recv hK hP (ci := 10) (q0 := (4 + p1.toNatClampNeg)) rfl (zplO_get (X := [(h0, .inr (11, [.ref h0_buffer, .ref h0_slots, .ref h0_counters, .ref h0_officerPin, .ref h0_userPin, .ref h0_words, .ref h0_sha, .ref h0_stream, .ref h0_aes, .ref h0_modes, .ref h0_gcm, .ref h0_generator, .ref h0_tests, .ref h0_message, .ref h0_secret, .int c_state, .int c_testsDone, .int c_faults, .int c_streamBegun])), (h0_buffer, .inl (cy 0, 512, .inl c_buffer)), (h0_counters, .inl (cy 1, 3, .inl c_counters)), (h0_slots, .inl (cy 4, 16, .inr (.inr (.inr (.inr (fun j => some (hP_o j)))))))]) (n := 4) rfl hj_6), zpre hE hS (va_P.part (X := [(h0, .inr (11, [.ref h0_buffer, .ref h0_slots, .ref h0_counters, .ref h0_officerPin, .ref h0_userPin, .ref h0_words, .ref h0_sha, .ref h0_stream, .ref h0_aes, .ref h0_modes, .ref h0_gcm, .ref h0_generator, .ref h0_tests, .ref h0_message, .ref h0_secret, .int c_state, .int c_testsDone, .int c_faults, .int c_streamBegun])), (h0_buffer, .inl (cy 0, 512, .inl c_buffer)), (h0_counters, .inl (cy 1, 3, .inl c_counters)), (h0_slots, .inl (cy 4, 16, .inr (.inr (.inr (.inr (fun j => some (hP_o j)))))))]) hP [1] rfl) (va_D.part (X := [(h0, .inr (11, [.ref h0_buffer, .ref h0_slots, .ref h0_counters, .ref h0_officerPin, .ref h0_userPin, .ref h0_words, .ref h0_sha, .ref h0_stream, .ref h0_aes, .ref h0_modes, .ref h0_gcm, .ref h0_generator, .ref h0_tests, .ref h0_message, .ref h0_secret, .int c_state, .int c_testsDone, .int c_faults, .int c_streamBegun])), (h0_buffer, .inl (cy 0, 512, .inl c_buffer)), (h0_counters, .inl (cy 1, 3, .inl c_counters)), (h0_slots, .inl (cy 4, 16, .inr (.inr (.inr (.inr (fun j => some (hP_o j)))))))]) hD [1] (by decide) rfl) (va_freeP (X := [(h0, .inr (11, [.ref h0_buffer, .ref h0_slots, .ref h0_counters, .ref h0_officerPin, .ref h0_userPin, .ref h0_words, .ref h0_sha, .ref h0_stream, .ref h0_aes, .ref h0_modes, .ref h0_gcm, .ref h0_generator, .ref h0_tests, .ref h0_message, .ref h0_secret, .int c_state, .int c_testsDone, .int c_faults, .int c_streamBegun])), (h0_buffer, .inl (cy 0, 512, .inl c_buffer)), (h0_counters, .inl (cy 1, 3, .inl c_counters)), (h0_slots, .inl (cy 4, 16, .inr (.inr (.inr (.inr (fun j => some (hP_o j)))))))]) hD hS hA [1] rfl)⟩ rfl rfl hl.1 rfl (lv_room (Nat.le_of_ble_eq_true rfl)) (zdt_at zt_X9_load_0 23 rfl) ⟨Nat.zero_le _, Nat.zero_le _⟩) hS hP hD (va_freeP (X := [(h0, .inr (11, [.ref h0_buffer, .ref h0_slots, .ref h0_counters, .ref h0_officerPin, .ref h0_userPin, .ref h0_words, .ref h0_sha, .ref h0_stream, .ref h0_aes, .ref h0_modes, .ref h0_gcm, .ref h0_generator, .ref h0_tests, .ref h0_message, .ref h0_secret, .int c_state, .int c_testsDone, .int c_faults, .int c_streamBegun])), (h0_buffer, .inl (cy 0, 512, .inl c_buffer)), (h0_counters, .inl (cy 1, 3, .inl c_counters)), (h0_slots, .inl (cy 4, 16, .inr (.inr (.inr (.inr (fun j => some (hP_o j)))))))]) hD hS hA [1] rfl) [1] rfl (by decide) rfl rfl zpl_adr ?_
  clear hP hD hS hc_
  intro H locs hP hD hS
  replace hP : va_P D vwCl ([(h0, .inr (11, [.ref h0_buffer, .ref h0_slots, .ref h0_counters, .ref h0_officerPin, .ref h0_userPin, .ref h0_words, .ref h0_sha, .ref h0_stream, .ref h0_aes, .ref h0_modes, .ref h0_gcm, .ref h0_generator, .ref h0_tests, .ref h0_message, .ref h0_secret, .int c_state, .int c_testsDone, .int c_faults, .int c_streamBegun])), (h0_buffer, .inl (cy 0, 512, .inl c_buffer)), (h0_counters, .inl (cy 1, 3, .inl c_counters)), (h0_slots, .inl (cy 4, 16, .inr (.inr (.inr (.inr (fun j => some (hP_o j)))))))] ++ zpl (cy 0) hP_o hP_k cP_kind_7 cP_length_8 cP_usage_10 cP_role_9 cP_uses_11 cPK_12) H := hP
  replace hD : va_D A ([(h0, .inr (11, [.ref h0_buffer, .ref h0_slots, .ref h0_counters, .ref h0_officerPin, .ref h0_userPin, .ref h0_words, .ref h0_sha, .ref h0_stream, .ref h0_aes, .ref h0_modes, .ref h0_gcm, .ref h0_generator, .ref h0_tests, .ref h0_message, .ref h0_secret, .int c_state, .int c_testsDone, .int c_faults, .int c_streamBegun])), (h0_buffer, .inl (cy 0, 512, .inl c_buffer)), (h0_counters, .inl (cy 1, 3, .inl c_counters)), (h0_slots, .inl (cy 4, 16, .inr (.inr (.inr (.inr (fun j => some (hP_o j)))))))] ++ zpl (cy 0) hP_o hP_k cP_kind_7 cP_length_8 cP_usage_10 cP_role_9 cP_uses_11 cPK_12) := hD
  refine W.eq (g2 := F0 m 42 ls []) rfl ?_
  refine lv_aload_n (pc := 42) hx hb (zdt_at zt_X9_load_0 24 rfl) rfl (lv_at hl 1 rfl) ?_
  refine lv_iload (pc := 43) hx hb (zdt_at zt_X9_load_0 25 rfl) (lv_at hl 0 rfl) ?_
  replace hf := zb_s hf
  obtain ⟨⟨r_13, c_counters_14⟩, hc_, hf⟩ := hf
  refine zcnQ (pc := 45) (X := [(h0, .inr (11, [.ref h0_buffer, .ref h0_slots, .ref h0_counters, .ref h0_officerPin, .ref h0_userPin, .ref h0_words, .ref h0_sha, .ref h0_stream, .ref h0_aes, .ref h0_modes, .ref h0_gcm, .ref h0_generator, .ref h0_tests, .ref h0_message, .ref h0_secret, .int c_state, .int c_testsDone, .int c_faults, .int c_streamBegun])), (h0_buffer, .inl (cy 0, 512, .inl c_buffer)), (h0_counters, .inl (cy 1, 3, .inl c_counters)), (h0_slots, .inl (cy 4, 16, .inr (.inr (.inr (.inr (fun j => some (hP_o j)))))))]) (rv := (some (.int r_13))) (va_runV (As := [.int r_1]) (rest := []) ⟨hx, hb, hml, hown, hts⟩ (c_X9_counted l D cy tt H.size h0 h0_buffer h0_slots h0_counters h0_officerPin h0_userPin h0_words h0_sha h0_stream h0_aes h0_modes h0_gcm h0_generator h0_tests h0_message h0_secret r_1 c_counters c_state c_testsDone c_faults c_streamBegun r_13 c_counters_14 hc_) (cwV 1 hts gX9_load_X9_counted rfl rfl rfl (by decide +kernel) ⟨Nat.le_of_ble_eq_true rfl, Nat.le_of_ble_eq_true rfl⟩) ⟨zblind, va_recv hK hP (ci := 11) (q0 := 0) rfl rfl, zpre hE hS (hP.sub [0, 2] rfl) (hD.sub [0, 2] (by decide) rfl) (va_free hD hS hA [0, 2] rfl)⟩ rfl rfl hl.1 rfl (lv_room (Nat.le_of_ble_eq_true rfl)) (zdt_at zt_X9_load_0 26 rfl) ⟨Nat.zero_le _, Nat.zero_le _⟩) hS hP hD (va_free hD hS hA [0, 2] rfl) [0, 2] rfl (by decide) rfl rfl ?_
  clear hP hD hS hc_
  intro H locs hP hD hS
  replace hP : va_P D vwCl ([(h0, .inr (11, [.ref h0_buffer, .ref h0_slots, .ref h0_counters, .ref h0_officerPin, .ref h0_userPin, .ref h0_words, .ref h0_sha, .ref h0_stream, .ref h0_aes, .ref h0_modes, .ref h0_gcm, .ref h0_generator, .ref h0_tests, .ref h0_message, .ref h0_secret, .int c_state, .int c_testsDone, .int c_faults, .int c_streamBegun])), (h0_buffer, .inl (cy 0, 512, .inl c_buffer)), (h0_counters, .inl (cy 1, 3, .inl c_counters_14)), (h0_slots, .inl (cy 4, 16, .inr (.inr (.inr (.inr (fun j => some (hP_o j)))))))] ++ zpl (cy 0) hP_o hP_k cP_kind_7 cP_length_8 cP_usage_10 cP_role_9 cP_uses_11 cPK_12) H := hP
  replace hD : va_D A ([(h0, .inr (11, [.ref h0_buffer, .ref h0_slots, .ref h0_counters, .ref h0_officerPin, .ref h0_userPin, .ref h0_words, .ref h0_sha, .ref h0_stream, .ref h0_aes, .ref h0_modes, .ref h0_gcm, .ref h0_generator, .ref h0_tests, .ref h0_message, .ref h0_secret, .int c_state, .int c_testsDone, .int c_faults, .int c_streamBegun])), (h0_buffer, .inl (cy 0, 512, .inl c_buffer)), (h0_counters, .inl (cy 1, 3, .inl c_counters_14)), (h0_slots, .inl (cy 4, 16, .inr (.inr (.inr (.inr (fun j => some (hP_o j)))))))] ++ zpl (cy 0) hP_o hP_k cP_kind_7 cP_length_8 cP_usage_10 cP_role_9 cP_uses_11 cPK_12) := hD
  refine W.eq (g2 := F0 m 48 ls [.int r_13]) rfl ?_
  cases hf
  exact W.iret (pc := 48) hx hb hr (fun t ht hW => ⟨rfl, ⟨by rw [ht]; exact hP, hD⟩, hS.F ht⟩) hS.2.2 (zdt_at zt_X9_load_0 27 rfl)
set_option maxHeartbeats 4000000 in
set_option maxRecDepth 100000 in
theorem c_X9_forgetSecret (l : Launch) (D : va_G) (cy : Nat → ClassId) (tt : Nat → Nat) (sz : Nat) (h0 : Nat) (h0_buffer : Nat) (h0_slots : Nat) (h0_counters : Nat) (h0_officerPin : Nat) (h0_userPin : Nat) (h0_words : Nat) (h0_sha : Nat) (h0_stream : Nat) (h0_aes : Nat) (h0_modes : Nat) (h0_gcm : Nat) (h0_generator : Nat) (h0_tests : Nat) (h0_message : Nat) (h0_secret : Nat) (c_secret : Nat → Int32) (c_state : Int32) (c_testsDone : Int32) (c_faults : Int32) (c_streamBegun : Int32) (c_secret' : Nat → Int32) (hf : f_X9_forgetSecret c_secret = some c_secret') : Met l yX9_forgetSecret wsX9_forgetSecret ({ frames := 1, cells := 0, slots := 0, locals := 23 }) (zPc D cy tt sz [.ref h0] ([(h0, .inr (11, [.ref h0_buffer, .ref h0_slots, .ref h0_counters, .ref h0_officerPin, .ref h0_userPin, .ref h0_words, .ref h0_sha, .ref h0_stream, .ref h0_aes, .ref h0_modes, .ref h0_gcm, .ref h0_generator, .ref h0_tests, .ref h0_message, .ref h0_secret, .int c_state, .int c_testsDone, .int c_faults, .int c_streamBegun])), (h0_secret, .inl (cy 0, 80, .inl c_secret))])) (zQ D none ([(h0, .inr (11, [.ref h0_buffer, .ref h0_slots, .ref h0_counters, .ref h0_officerPin, .ref h0_userPin, .ref h0_words, .ref h0_sha, .ref h0_stream, .ref h0_aes, .ref h0_modes, .ref h0_gcm, .ref h0_generator, .ref h0_tests, .ref h0_message, .ref h0_secret, .int c_state, .int c_testsDone, .int c_faults, .int c_streamBegun])), (h0_secret, .inl (cy 0, 80, .inl c_secret'))]) (va_A ([(h0, .inr (11, [.ref h0_buffer, .ref h0_slots, .ref h0_counters, .ref h0_officerPin, .ref h0_userPin, .ref h0_words, .ref h0_sha, .ref h0_stream, .ref h0_aes, .ref h0_modes, .ref h0_gcm, .ref h0_generator, .ref h0_tests, .ref h0_message, .ref h0_secret, .int c_state, .int c_testsDone, .int c_faults, .int c_streamBegun])), (h0_secret, .inl (cy 0, 80, .inl c_secret))]) sz)) 0 0 (va_A ([(h0, .inr (11, [.ref h0_buffer, .ref h0_slots, .ref h0_counters, .ref h0_officerPin, .ref h0_userPin, .ref h0_words, .ref h0_sha, .ref h0_stream, .ref h0_aes, .ref h0_modes, .ref h0_gcm, .ref h0_generator, .ref h0_tests, .ref h0_message, .ref h0_secret, .int c_state, .int c_testsDone, .int c_faults, .int c_streamBegun])), (h0_secret, .inl (cy 0, 80, .inl c_secret))]) sz) := by
  refine Met.ofW (cc := cX9_forgetSecret) (maxL := 1) (ret := none) (by decide) rfl ?_
  intro p e s m args below meth c s₁ B hml hv
  obtain ⟨rfl, rfl, hP, hD0, hE⟩ := hv
  have hx := B.exec
  have hb := B.bytes
  have hr := B.returns
  have hts := atoms_spec (ws := wsX9_forgetSecret) B.pre
  have hown : s.vm.findClass RX9 = some m.cls := findClass_of_methodNamed B.named
  have hlocks := B.notSynchronized
  clear B
  have hD := hD0.self (sz := s.heap.size)
  generalize hAe : va_A ([(h0, .inr (11, [.ref h0_buffer, .ref h0_slots, .ref h0_counters, .ref h0_officerPin, .ref h0_userPin, .ref h0_words, .ref h0_sha, .ref h0_stream, .ref h0_aes, .ref h0_modes, .ref h0_gcm, .ref h0_generator, .ref h0_tests, .ref h0_message, .ref h0_secret, .int c_state, .int c_testsDone, .int c_faults, .int c_streamBegun])), (h0_secret, .inl (cy 0, 80, .inl c_secret))]) s.heap.size = A at hD hE ⊢
  have hA : ∀ q : Nat, s.heap.size ≤ q → A q := fun q h => by rw [← hAe]; exact Or.inr h
  clear hAe hD0
  have hS : va_S A s.heap s.heap [] := va_S.rf
  have hK := hE.1
  have hw0 := hts (.fieldLink RX9 98 "SealedModule" "secret" "[B") (by decide +kernel)
  have hcX9 : ∀ w ∈ u_ws RX9 TX9 19, w ∈ wsX9_forgetSecret := (fun _ h => List.mem_cons_of_mem _ (List.mem_append_right _ h))
  have hl := lv_entry ([.ref h0]) (n := 1) (Nat.le_of_ble_eq_true rfl)
  rw [lg_entry_eq]
  generalize (lg_sl ([.ref h0]) ++ List.replicate (1 - (lg_sl ([.ref h0])).length) Slot.unset).toArray = ls at hl ⊢
  replace hl : lv_has ls 1 [(0, .ref h0)] := hl
  unfold f_X9_forgetSecret at hf
  refine zgo (fun GW hTo hFr => ?_)
  refine hFr _ _ _ ?_
  obtain ⟨H, hHe⟩ : ∃ H, H = s.heap := ⟨_, rfl⟩
  obtain ⟨locs, hLe⟩ : ∃ L : List Loc, L = [] := ⟨_, rfl⟩
  rw [← hHe] at hP
  replace hS : va_S A s.heap H locs := by rw [hHe, hLe]; exact hS
  refine zat hHe.symm hLe.symm ?_
  clear hHe hLe
  refine lv_aload_n (pc := 0) hx hb (zdt_at zt_X9_forgetSecret_0 0 rfl) rfl (lv_at hl 0 rfl) ?_
  refine va_get (pc := 1) (D := D) (ci := 11) (v := .ref h0_secret) (C := RX9) (T := TX9) (N := 19) hx hb hts hcX9 hown hK hP 0 rfl rfl 14 (by decide) hw0 (fun _ h9 => h9) rfl (zdt_at zt_X9_forgetSecret_0 1 rfl) ?_
  refine lv_iconst (pc := 4) (v := (0 : Int32)) hx hb (zdt_at zt_X9_forgetSecret_0 2 rfl) (by decide) ?_
  replace hf := zb_s hf
  obtain ⟨c_secret_1, hc_, hf⟩ := hf
  refine zcn2 (pc := 5) (rv := none) (va_runS (As := [.ref h0_secret, .int (0 : Int32)]) (rest := []) ⟨hx, hb, hml, hown, hts⟩ (c_J7_fill_031fb l D cy tt H.size h0_secret 80 (0 : Int32) c_secret c_secret_1 hc_) (va_cwS 2 hts gX9_forgetSecret_J7_fill_031fb rfl rfl rfl (by decide +kernel) ⟨Nat.le_of_ble_eq_true rfl, Nat.le_of_ble_eq_true rfl⟩) ⟨zblind, zpre hE hS (hP.sub [1] rfl) (hD.sub [1] (by decide) rfl) (va_free hD hS hA [1] rfl)⟩ rfl rfl hl.1 rfl (lv_room (Nat.le_of_ble_eq_true rfl)) (zdt_at zt_X9_forgetSecret_0 3 rfl) ⟨Nat.zero_le _, Nat.zero_le _⟩) hS hP hD (va_free hD hS hA [1] rfl) [1] rfl (by decide) rfl ?_
  clear hP hD hS hc_
  intro H locs hP hD hS
  replace hP : va_P D vwCl ([(h0, .inr (11, [.ref h0_buffer, .ref h0_slots, .ref h0_counters, .ref h0_officerPin, .ref h0_userPin, .ref h0_words, .ref h0_sha, .ref h0_stream, .ref h0_aes, .ref h0_modes, .ref h0_gcm, .ref h0_generator, .ref h0_tests, .ref h0_message, .ref h0_secret, .int c_state, .int c_testsDone, .int c_faults, .int c_streamBegun])), (h0_secret, .inl (cy 0, 80, .inl c_secret_1))]) H := hP
  replace hD : va_D A ([(h0, .inr (11, [.ref h0_buffer, .ref h0_slots, .ref h0_counters, .ref h0_officerPin, .ref h0_userPin, .ref h0_words, .ref h0_sha, .ref h0_stream, .ref h0_aes, .ref h0_modes, .ref h0_gcm, .ref h0_generator, .ref h0_tests, .ref h0_message, .ref h0_secret, .int c_state, .int c_testsDone, .int c_faults, .int c_streamBegun])), (h0_secret, .inl (cy 0, 80, .inl c_secret_1))]) := hD
  refine W.eq (g2 := F0 m 8 ls []) rfl ?_
  cases hf
  exact W.vret (pc := 8) hx hb hr (fun t ht hW => ⟨rfl, ⟨by rw [ht]; exact hP, hD⟩, hS.F ht⟩) hS.2.2 (zdt_at zt_X9_forgetSecret_0 4 rfl)
set_option maxHeartbeats 4000000 in
set_option maxRecDepth 100000 in
theorem c_X9_drawn_1t_secret (l : Launch) (D : va_G) (cy : Nat → ClassId) (tt : Nat → Nat) (sz : Nat) (h0 : Nat) (h0_buffer : Nat) (h0_slots : Nat) (h0_counters : Nat) (h0_officerPin : Nat) (h0_userPin : Nat) (h0_words : Nat) (h0_sha : Nat) (h0_stream : Nat) (h0_aes : Nat) (h0_modes : Nat) (h0_gcm : Nat) (h0_generator : Nat) (h0_tests : Nat) (h0_message : Nat) (h0_secret : Nat) (h0_generator_key : Nat) (h0_generator_value : Nat) (h0_generator_message : Nat) (h0_sha_sums : Nat) (h0_sha_schedule : Nat) (h0_sha_inner : Nat) (h0_words_kept : Nat) (p2 : Int32) (p3 : Int32) (p4 : Int32) (c_buffer : Nat → Int32) (c_generator_begun : Int32) (c_generator_requests : Int32) (c_generator_key : Nat → Int32) (c_generator_message : Nat → Int32) (c_generator_value : Nat → Int32) (c_message : Nat → Int32) (c_secret : Nat → Int32) (c_sha_filled : Int32) (c_sha_total : Int32) (c_sha_inner : Nat → Int32) (c_sha_schedule : Nat → Int32) (c_sha_sums : Nat → Int32) (c_words_count : Int32) (c_words_healthy : Int32) (c_words_kept : Nat → Int32) (c_state : Int32) (c_testsDone : Int32) (c_faults : Int32) (c_streamBegun : Int32) (c_words_last : Int32) (c_words_row : Int32) (c_words_first : Int32) (c_words_placeInWindow : Int32) (c_words_timesInWindow : Int32) (r_ : Int32) (c_generator_begun' : Int32) (c_generator_requests' : Int32) (c_generator_key' : Nat → Int32) (c_generator_message' : Nat → Int32) (c_generator_value' : Nat → Int32) (c_message' : Nat → Int32) (c_secret' : Nat → Int32) (c_sha_filled' : Int32) (c_sha_total' : Int32) (c_sha_inner' : Nat → Int32) (c_sha_schedule' : Nat → Int32) (c_sha_sums' : Nat → Int32) (c_words_count' : Int32) (c_words_kept' : Nat → Int32) (hf : f_X9_drawn_1t_secret p2 p3 p4 c_buffer c_generator_begun c_generator_requests c_generator_key c_generator_message c_generator_value c_message c_secret c_sha_filled c_sha_total c_sha_inner c_sha_schedule c_sha_sums c_words_count c_words_healthy c_words_kept = some (r_, c_generator_begun', c_generator_requests', c_generator_key', c_generator_message', c_generator_value', c_message', c_secret', c_sha_filled', c_sha_total', c_sha_inner', c_sha_schedule', c_sha_sums', c_words_count', c_words_kept')) : Met l yX9_drawn wsX9_drawn ({ frames := 6, cells := 0, slots := 0, locals := 161 }) (zPc D cy tt sz [.ref h0, .ref h0_secret, .int p2, .int p3, .int p4] ([(h0, .inr (11, [.ref h0_buffer, .ref h0_slots, .ref h0_counters, .ref h0_officerPin, .ref h0_userPin, .ref h0_words, .ref h0_sha, .ref h0_stream, .ref h0_aes, .ref h0_modes, .ref h0_gcm, .ref h0_generator, .ref h0_tests, .ref h0_message, .ref h0_secret, .int c_state, .int c_testsDone, .int c_faults, .int c_streamBegun])), (h0_buffer, .inl (cy 0, 512, .inl c_buffer)), (h0_generator, .inr (5, [.ref h0_sha, .ref h0_generator_key, .ref h0_generator_value, .ref h0_generator_message, .int c_generator_begun, .int c_generator_requests])), (h0_generator_key, .inl (cy 0, 32, .inl c_generator_key)), (h0_generator_message, .inl (cy 0, 97, .inl c_generator_message)), (h0_generator_value, .inl (cy 0, 32, .inl c_generator_value)), (h0_message, .inl (cy 0, 68, .inl c_message)), (h0_secret, .inl (cy 0, 80, .inl c_secret)), (h0_sha, .inr (9, [.ref h0_sha_sums, .ref h0_sha_schedule, .ref h0_sha_inner, .int c_sha_filled, .int c_sha_total])), (h0_sha_inner, .inl (cy 0, 32, .inl c_sha_inner)), (h0_sha_schedule, .inl (cy 1, 64, .inl c_sha_schedule)), (h0_sha_sums, .inl (cy 1, 8, .inl c_sha_sums)), (h0_words, .inr (3, [.ref h0_words_kept, .int c_words_count, .int c_words_healthy, .int c_words_last, .int c_words_row, .int c_words_first, .int c_words_placeInWindow, .int c_words_timesInWindow])), (h0_words_kept, .inl (cy 1, 64, .inl c_words_kept))])) (zQ D (some (.int r_)) ([(h0, .inr (11, [.ref h0_buffer, .ref h0_slots, .ref h0_counters, .ref h0_officerPin, .ref h0_userPin, .ref h0_words, .ref h0_sha, .ref h0_stream, .ref h0_aes, .ref h0_modes, .ref h0_gcm, .ref h0_generator, .ref h0_tests, .ref h0_message, .ref h0_secret, .int c_state, .int c_testsDone, .int c_faults, .int c_streamBegun])), (h0_buffer, .inl (cy 0, 512, .inl c_buffer)), (h0_generator, .inr (5, [.ref h0_sha, .ref h0_generator_key, .ref h0_generator_value, .ref h0_generator_message, .int c_generator_begun', .int c_generator_requests'])), (h0_generator_key, .inl (cy 0, 32, .inl c_generator_key')), (h0_generator_message, .inl (cy 0, 97, .inl c_generator_message')), (h0_generator_value, .inl (cy 0, 32, .inl c_generator_value')), (h0_message, .inl (cy 0, 68, .inl c_message')), (h0_secret, .inl (cy 0, 80, .inl c_secret')), (h0_sha, .inr (9, [.ref h0_sha_sums, .ref h0_sha_schedule, .ref h0_sha_inner, .int c_sha_filled', .int c_sha_total'])), (h0_sha_inner, .inl (cy 0, 32, .inl c_sha_inner')), (h0_sha_schedule, .inl (cy 1, 64, .inl c_sha_schedule')), (h0_sha_sums, .inl (cy 1, 8, .inl c_sha_sums')), (h0_words, .inr (3, [.ref h0_words_kept, .int c_words_count', .int c_words_healthy, .int c_words_last, .int c_words_row, .int c_words_first, .int c_words_placeInWindow, .int c_words_timesInWindow])), (h0_words_kept, .inl (cy 1, 64, .inl c_words_kept'))]) (va_A ([(h0, .inr (11, [.ref h0_buffer, .ref h0_slots, .ref h0_counters, .ref h0_officerPin, .ref h0_userPin, .ref h0_words, .ref h0_sha, .ref h0_stream, .ref h0_aes, .ref h0_modes, .ref h0_gcm, .ref h0_generator, .ref h0_tests, .ref h0_message, .ref h0_secret, .int c_state, .int c_testsDone, .int c_faults, .int c_streamBegun])), (h0_buffer, .inl (cy 0, 512, .inl c_buffer)), (h0_generator, .inr (5, [.ref h0_sha, .ref h0_generator_key, .ref h0_generator_value, .ref h0_generator_message, .int c_generator_begun, .int c_generator_requests])), (h0_generator_key, .inl (cy 0, 32, .inl c_generator_key)), (h0_generator_message, .inl (cy 0, 97, .inl c_generator_message)), (h0_generator_value, .inl (cy 0, 32, .inl c_generator_value)), (h0_message, .inl (cy 0, 68, .inl c_message)), (h0_secret, .inl (cy 0, 80, .inl c_secret)), (h0_sha, .inr (9, [.ref h0_sha_sums, .ref h0_sha_schedule, .ref h0_sha_inner, .int c_sha_filled, .int c_sha_total])), (h0_sha_inner, .inl (cy 0, 32, .inl c_sha_inner)), (h0_sha_schedule, .inl (cy 1, 64, .inl c_sha_schedule)), (h0_sha_sums, .inl (cy 1, 8, .inl c_sha_sums)), (h0_words, .inr (3, [.ref h0_words_kept, .int c_words_count, .int c_words_healthy, .int c_words_last, .int c_words_row, .int c_words_first, .int c_words_placeInWindow, .int c_words_timesInWindow])), (h0_words_kept, .inl (cy 1, 64, .inl c_words_kept))]) sz)) 0 0 (va_A ([(h0, .inr (11, [.ref h0_buffer, .ref h0_slots, .ref h0_counters, .ref h0_officerPin, .ref h0_userPin, .ref h0_words, .ref h0_sha, .ref h0_stream, .ref h0_aes, .ref h0_modes, .ref h0_gcm, .ref h0_generator, .ref h0_tests, .ref h0_message, .ref h0_secret, .int c_state, .int c_testsDone, .int c_faults, .int c_streamBegun])), (h0_buffer, .inl (cy 0, 512, .inl c_buffer)), (h0_generator, .inr (5, [.ref h0_sha, .ref h0_generator_key, .ref h0_generator_value, .ref h0_generator_message, .int c_generator_begun, .int c_generator_requests])), (h0_generator_key, .inl (cy 0, 32, .inl c_generator_key)), (h0_generator_message, .inl (cy 0, 97, .inl c_generator_message)), (h0_generator_value, .inl (cy 0, 32, .inl c_generator_value)), (h0_message, .inl (cy 0, 68, .inl c_message)), (h0_secret, .inl (cy 0, 80, .inl c_secret)), (h0_sha, .inr (9, [.ref h0_sha_sums, .ref h0_sha_schedule, .ref h0_sha_inner, .int c_sha_filled, .int c_sha_total])), (h0_sha_inner, .inl (cy 0, 32, .inl c_sha_inner)), (h0_sha_schedule, .inl (cy 1, 64, .inl c_sha_schedule)), (h0_sha_sums, .inl (cy 1, 8, .inl c_sha_sums)), (h0_words, .inr (3, [.ref h0_words_kept, .int c_words_count, .int c_words_healthy, .int c_words_last, .int c_words_row, .int c_words_first, .int c_words_placeInWindow, .int c_words_timesInWindow])), (h0_words_kept, .inl (cy 1, 64, .inl c_words_kept))]) sz) := by
  refine Met.ofW (cc := cX9_drawn) (maxL := 6) (ret := (some .boolean)) (by decide) rfl ?_
  intro p e s m args below meth c s₁ B hml hv
  obtain ⟨rfl, rfl, hP, hD0, hE⟩ := hv
  have hx := B.exec
  have hb := B.bytes
  have hr := B.returns
  have hts := atoms_spec (ws := wsX9_drawn) B.pre
  have hown : s.vm.findClass RX9 = some m.cls := findClass_of_methodNamed B.named
  have hlocks := B.notSynchronized
  clear B
  have hD := hD0.self (sz := s.heap.size)
  generalize hAe : va_A ([(h0, .inr (11, [.ref h0_buffer, .ref h0_slots, .ref h0_counters, .ref h0_officerPin, .ref h0_userPin, .ref h0_words, .ref h0_sha, .ref h0_stream, .ref h0_aes, .ref h0_modes, .ref h0_gcm, .ref h0_generator, .ref h0_tests, .ref h0_message, .ref h0_secret, .int c_state, .int c_testsDone, .int c_faults, .int c_streamBegun])), (h0_buffer, .inl (cy 0, 512, .inl c_buffer)), (h0_generator, .inr (5, [.ref h0_sha, .ref h0_generator_key, .ref h0_generator_value, .ref h0_generator_message, .int c_generator_begun, .int c_generator_requests])), (h0_generator_key, .inl (cy 0, 32, .inl c_generator_key)), (h0_generator_message, .inl (cy 0, 97, .inl c_generator_message)), (h0_generator_value, .inl (cy 0, 32, .inl c_generator_value)), (h0_message, .inl (cy 0, 68, .inl c_message)), (h0_secret, .inl (cy 0, 80, .inl c_secret)), (h0_sha, .inr (9, [.ref h0_sha_sums, .ref h0_sha_schedule, .ref h0_sha_inner, .int c_sha_filled, .int c_sha_total])), (h0_sha_inner, .inl (cy 0, 32, .inl c_sha_inner)), (h0_sha_schedule, .inl (cy 1, 64, .inl c_sha_schedule)), (h0_sha_sums, .inl (cy 1, 8, .inl c_sha_sums)), (h0_words, .inr (3, [.ref h0_words_kept, .int c_words_count, .int c_words_healthy, .int c_words_last, .int c_words_row, .int c_words_first, .int c_words_placeInWindow, .int c_words_timesInWindow])), (h0_words_kept, .inl (cy 1, 64, .inl c_words_kept))]) s.heap.size = A at hD hE ⊢
  have hA : ∀ q : Nat, s.heap.size ≤ q → A q := fun q h => by rw [← hAe]; exact Or.inr h
  clear hAe hD0
  have hS : va_S A s.heap s.heap [] := va_S.rf
  have hK := hE.1
  have hw0 := hts (.fieldLink RX9 82 "SealedModule" "generator" "LSealedModule$Generator;") (by decide +kernel)
  have hw1 := hts (.fieldLink RX9 38 "SealedModule" "words" "LSealedModule$Entropy;") (by decide +kernel)
  have hw2 := hts (.fieldLink RX9 98 "SealedModule" "secret" "[B") (by decide +kernel)
  have hw3 := hts (.fieldLink RX9 9 "SealedModule" "buffer" "[B") (by decide +kernel)
  have hw4 := hts (.fieldLink RX9 95 "SealedModule" "message" "[B") (by decide +kernel)
  have hw5 := hts (.methodLink RX9 276 arraycopyName) (by decide +kernel)
  have hw6 := hts (.native arraycopyName) (by decide +kernel)
  have hw7 := hts (.static arraycopyName) (by decide +kernel)
  have hw8 := hts (.initialized "java/lang/System") (by decide +kernel)
  have hcX9 : ∀ w ∈ u_ws RX9 TX9 19, w ∈ wsX9_drawn := (fun _ h => List.mem_cons_of_mem _ (List.mem_append_left _ (List.mem_append_left _ (List.mem_append_left _ (List.mem_append_left _ (List.mem_append_right _ h))))))
  have hl := lv_entry ([.ref h0, .ref h0_secret, .int p2, .int p3, .int p4]) (n := 6) (Nat.le_of_ble_eq_true rfl)
  rw [lg_entry_eq]
  generalize (lg_sl ([.ref h0, .ref h0_secret, .int p2, .int p3, .int p4]) ++ List.replicate (6 - (lg_sl ([.ref h0, .ref h0_secret, .int p2, .int p3, .int p4])).length) Slot.unset).toArray = ls at hl ⊢
  replace hl : lv_has ls 6 [(0, .ref h0), (1, .ref h0_secret), (2, .int p2), (3, .int p3), (4, .int p4)] := hl
  unfold f_X9_drawn_1t_secret at hf
  refine zgo (fun GW hTo hFr => ?_)
  refine hFr _ _ _ ?_
  obtain ⟨H, hHe⟩ : ∃ H, H = s.heap := ⟨_, rfl⟩
  obtain ⟨locs, hLe⟩ : ∃ L : List Loc, L = [] := ⟨_, rfl⟩
  rw [← hHe] at hP
  replace hS : va_S A s.heap H locs := by rw [hHe, hLe]; exact hS
  refine zat hHe.symm hLe.symm ?_
  clear hHe hLe
  refine lv_aload_n (pc := 0) hx hb (zdt_at zt_X9_drawn_0 0 rfl) rfl (lv_at hl 0 rfl) ?_
  refine va_get (pc := 1) (D := D) (ci := 11) (v := .ref h0_generator) (C := RX9) (T := TX9) (N := 19) hx hb hts hcX9 hown hK hP 0 rfl rfl 11 (by decide) hw0 (fun _ h9 => h9) rfl (zdt_at zt_X9_drawn_0 1 rfl) ?_
  replace hf := zb_s hf
  obtain ⟨r_1, hc_, hf⟩ := hf
  refine zcs (pc := 4) (rv := (some (.int r_1))) (va_runV (As := []) (rest := []) ⟨hx, hb, hml, hown, hts⟩ (c_X3_wordsNeeded l D cy tt H.size h0_generator h0_sha h0_generator_key h0_generator_value h0_generator_message c_generator_begun c_generator_requests r_1 hc_) (cwV 0 hts gX9_drawn_X3_wordsNeeded rfl rfl rfl (by decide +kernel) ⟨Nat.le_of_ble_eq_true rfl, Nat.le_of_ble_eq_true rfl⟩) ⟨zblind, va_recv hK hP (ci := 5) (q0 := 2) rfl rfl, zpre hE hS (hP.sub [2] rfl) (hD.sub [2] (by decide) rfl) (va_free hD hS hA [2] rfl)⟩ rfl rfl hl.1 rfl (lv_room (Nat.le_of_ble_eq_true rfl)) (zdt_at zt_X9_drawn_0 2 rfl) ⟨Nat.zero_le _, Nat.zero_le _⟩) ?_
  clear hc_
  refine W.eq (g2 := F0 m 7 ls [.int r_1]) rfl ?_
  refine lv_istore (pc := 7) (lv' := [(5, .int r_1), (0, .ref h0), (1, .ref h0_secret), (2, .int p2), (3, .int p3), (4, .int p4)]) hx hb (zdt_at zt_X9_drawn_0 3 rfl) hl (by decide) rfl ?_
  clear hl
  intro ls hl
  refine lv_aload_n (pc := 9) hx hb (zdt_at zt_X9_drawn_0 4 rfl) rfl (lv_at hl 1 rfl) ?_
  refine va_get (pc := 10) (D := D) (ci := 11) (v := .ref h0_words) (C := RX9) (T := TX9) (N := 19) hx hb hts hcX9 hown hK hP 0 rfl rfl 5 (by decide) hw1 (fun _ h9 => h9) rfl (zdt_at zt_X9_drawn_0 5 rfl) ?_
  refine lv_iload (pc := 13) hx hb (zdt_at zt_X9_drawn_0 6 rfl) (lv_at hl 0 rfl) ?_
  replace hf := zb_s hf
  obtain ⟨r_2, hc_, hf⟩ := hf
  refine zcs (pc := 15) (rv := (some (.int r_2))) (va_runV (As := [.int r_1]) (rest := []) ⟨hx, hb, hml, hown, hts⟩ (c_X1_canGive l D cy tt H.size h0_words h0_words_kept r_1 c_words_count c_words_healthy c_words_last c_words_row c_words_first c_words_placeInWindow c_words_timesInWindow r_2 hc_) (cwV 1 hts gX9_drawn_X1_canGive rfl rfl rfl (by decide +kernel) ⟨Nat.le_of_ble_eq_true rfl, Nat.le_of_ble_eq_true rfl⟩) ⟨zblind, va_recv hK hP (ci := 3) (q0 := 12) rfl rfl, zpre hE hS (hP.sub [12] rfl) (hD.sub [12] (by decide) rfl) (va_free hD hS hA [12] rfl)⟩ rfl rfl hl.1 rfl (lv_room (Nat.le_of_ble_eq_true rfl)) (zdt_at zt_X9_drawn_0 7 rfl) ⟨Nat.zero_le _, Nat.zero_le _⟩) ?_
  clear hc_
  refine W.eq (g2 := F0 m 18 ls [.int r_2]) rfl ?_
  refine lv_if_ne (pc := 18) (tgt := 23) hx hb (zdt_at zt_X9_drawn_0 8 rfl) (by decide) (fun cn_ => ?t_3) (fun cn_ => ?f_4)
  case f_4 =>
    replace hf := zt_s cn_ hf
    clear cn_
    refine lv_iconst (pc := 21) (v := (0 : Int32)) hx hb (zdt_at zt_X9_drawn_0 9 rfl) (by decide) ?_
    cases hf
    exact W.zret (pc := 22) hx hb hr rfl (fun t ht hW => ⟨rfl, ⟨by rw [ht]; exact hP, hD⟩, hS.F ht⟩) hS.2.2 (zdt_at zt_X9_drawn_0 10 rfl)
  replace hf := ze_s cn_ hf
  clear cn_
  refine lv_aload_n (pc := 23) hx hb (zdt_at zt_X9_drawn_0 11 rfl) rfl (lv_at hl 1 rfl) ?_
  refine va_get (pc := 24) (D := D) (ci := 11) (v := .ref h0_words) (C := RX9) (T := TX9) (N := 19) hx hb hts hcX9 hown hK hP 0 rfl rfl 5 (by decide) hw1 (fun _ h9 => h9) rfl (zdt_at zt_X9_drawn_0 12 rfl) ?_
  refine lv_iload (pc := 27) hx hb (zdt_at zt_X9_drawn_0 13 rfl) (lv_at hl 0 rfl) ?_
  refine lv_aload_n (pc := 29) hx hb (zdt_at zt_X9_drawn_0 14 rfl) rfl (lv_at hl 1 rfl) ?_
  refine va_get (pc := 30) (D := D) (ci := 11) (v := .ref h0_secret) (C := RX9) (T := TX9) (N := 19) hx hb hts hcX9 hown hK hP 0 rfl rfl 14 (by decide) hw2 (fun _ h9 => h9) rfl (zdt_at zt_X9_drawn_0 15 rfl) ?_
  replace hf := zb_s hf
  obtain ⟨⟨c_words_count_5, c_words_kept_6, c_secret_7⟩, hc_, hf⟩ := hf
  refine zcn2 (pc := 33) (rv := none) (va_runV (As := [.int r_1, .ref h0_secret]) (rest := []) ⟨hx, hb, hml, hown, hts⟩ (c_X1_give l D cy tt H.size h0_words h0_words_kept h0_secret 80 r_1 c_words_count c_words_kept c_secret c_words_healthy c_words_last c_words_row c_words_first c_words_placeInWindow c_words_timesInWindow c_words_count_5 c_words_kept_6 c_secret_7 hc_) (cwV 2 hts gX9_drawn_X1_give rfl rfl rfl (by decide +kernel) ⟨Nat.le_of_ble_eq_true rfl, Nat.le_of_ble_eq_true rfl⟩) ⟨zblind, va_recv hK hP (ci := 3) (q0 := 12) rfl rfl, zpre hE hS (hP.sub [12, 13, 7] rfl) (hD.sub [12, 13, 7] (by decide) rfl) (va_free hD hS hA [12, 13, 7] rfl)⟩ rfl rfl hl.1 rfl (lv_room (Nat.le_of_ble_eq_true rfl)) (zdt_at zt_X9_drawn_0 16 rfl) ⟨Nat.zero_le _, Nat.zero_le _⟩) hS hP hD (va_free hD hS hA [12, 13, 7] rfl) [12, 13, 7] rfl (by decide) rfl ?_
  clear hP hD hS hc_
  intro H locs hP hD hS
  replace hP : va_P D vwCl ([(h0, .inr (11, [.ref h0_buffer, .ref h0_slots, .ref h0_counters, .ref h0_officerPin, .ref h0_userPin, .ref h0_words, .ref h0_sha, .ref h0_stream, .ref h0_aes, .ref h0_modes, .ref h0_gcm, .ref h0_generator, .ref h0_tests, .ref h0_message, .ref h0_secret, .int c_state, .int c_testsDone, .int c_faults, .int c_streamBegun])), (h0_buffer, .inl (cy 0, 512, .inl c_buffer)), (h0_generator, .inr (5, [.ref h0_sha, .ref h0_generator_key, .ref h0_generator_value, .ref h0_generator_message, .int c_generator_begun, .int c_generator_requests])), (h0_generator_key, .inl (cy 0, 32, .inl c_generator_key)), (h0_generator_message, .inl (cy 0, 97, .inl c_generator_message)), (h0_generator_value, .inl (cy 0, 32, .inl c_generator_value)), (h0_message, .inl (cy 0, 68, .inl c_message)), (h0_secret, .inl (cy 0, 80, .inl c_secret_7)), (h0_sha, .inr (9, [.ref h0_sha_sums, .ref h0_sha_schedule, .ref h0_sha_inner, .int c_sha_filled, .int c_sha_total])), (h0_sha_inner, .inl (cy 0, 32, .inl c_sha_inner)), (h0_sha_schedule, .inl (cy 1, 64, .inl c_sha_schedule)), (h0_sha_sums, .inl (cy 1, 8, .inl c_sha_sums)), (h0_words, .inr (3, [.ref h0_words_kept, .int c_words_count_5, .int c_words_healthy, .int c_words_last, .int c_words_row, .int c_words_first, .int c_words_placeInWindow, .int c_words_timesInWindow])), (h0_words_kept, .inl (cy 1, 64, .inl c_words_kept_6))]) H := hP
  replace hD : va_D A ([(h0, .inr (11, [.ref h0_buffer, .ref h0_slots, .ref h0_counters, .ref h0_officerPin, .ref h0_userPin, .ref h0_words, .ref h0_sha, .ref h0_stream, .ref h0_aes, .ref h0_modes, .ref h0_gcm, .ref h0_generator, .ref h0_tests, .ref h0_message, .ref h0_secret, .int c_state, .int c_testsDone, .int c_faults, .int c_streamBegun])), (h0_buffer, .inl (cy 0, 512, .inl c_buffer)), (h0_generator, .inr (5, [.ref h0_sha, .ref h0_generator_key, .ref h0_generator_value, .ref h0_generator_message, .int c_generator_begun, .int c_generator_requests])), (h0_generator_key, .inl (cy 0, 32, .inl c_generator_key)), (h0_generator_message, .inl (cy 0, 97, .inl c_generator_message)), (h0_generator_value, .inl (cy 0, 32, .inl c_generator_value)), (h0_message, .inl (cy 0, 68, .inl c_message)), (h0_secret, .inl (cy 0, 80, .inl c_secret_7)), (h0_sha, .inr (9, [.ref h0_sha_sums, .ref h0_sha_schedule, .ref h0_sha_inner, .int c_sha_filled, .int c_sha_total])), (h0_sha_inner, .inl (cy 0, 32, .inl c_sha_inner)), (h0_sha_schedule, .inl (cy 1, 64, .inl c_sha_schedule)), (h0_sha_sums, .inl (cy 1, 8, .inl c_sha_sums)), (h0_words, .inr (3, [.ref h0_words_kept, .int c_words_count_5, .int c_words_healthy, .int c_words_last, .int c_words_row, .int c_words_first, .int c_words_placeInWindow, .int c_words_timesInWindow])), (h0_words_kept, .inl (cy 1, 64, .inl c_words_kept_6))]) := hD
  refine W.eq (g2 := F0 m 36 ls []) rfl ?_
  refine lv_aload_n (pc := 36) hx hb (zdt_at zt_X9_drawn_0 17 rfl) rfl (lv_at hl 1 rfl) ?_
  refine va_get (pc := 37) (D := D) (ci := 11) (v := .ref h0_generator) (C := RX9) (T := TX9) (N := 19) hx hb hts hcX9 hown hK hP 0 rfl rfl 11 (by decide) hw0 (fun _ h9 => h9) rfl (zdt_at zt_X9_drawn_0 18 rfl) ?_
  refine lv_aload_n (pc := 40) hx hb (zdt_at zt_X9_drawn_0 19 rfl) rfl (lv_at hl 1 rfl) ?_
  refine va_get (pc := 41) (D := D) (ci := 11) (v := .ref h0_secret) (C := RX9) (T := TX9) (N := 19) hx hb hts hcX9 hown hK hP 0 rfl rfl 14 (by decide) hw2 (fun _ h9 => h9) rfl (zdt_at zt_X9_drawn_0 20 rfl) ?_
  refine lv_iconst (pc := 44) (v := (4 : Int32)) hx hb (zdt_at zt_X9_drawn_0 21 rfl) (by decide) ?_
  refine lv_iload (pc := 45) hx hb (zdt_at zt_X9_drawn_0 22 rfl) (lv_at hl 0 rfl) ?_
  refine lv_imul (pc := 47) hx hb (zdt_at zt_X9_drawn_0 23 rfl) ?_
  replace hf := zb_s hf
  obtain ⟨⟨c_generator_begun_8, c_generator_requests_9, c_generator_key_10, c_generator_message_11, c_sha_filled_12, c_sha_total_13, c_sha_inner_14, c_sha_schedule_15, c_sha_sums_16, c_generator_value_17⟩, hc_, hf⟩ := hf
  refine zcn2 (pc := 48) (rv := none) (va_runV (As := [.ref h0_secret, .int ((4 : Int32) * r_1)]) (rest := []) ⟨hx, hb, hml, hown, hts⟩ (c_X3_feed l D cy tt H.size h0_generator h0_sha h0_generator_key h0_generator_value h0_generator_message h0_sha_sums h0_sha_schedule h0_sha_inner h0_secret 80 ((4 : Int32) * r_1) c_generator_begun c_generator_requests c_generator_key c_generator_message c_sha_filled c_sha_total c_sha_inner c_sha_schedule c_sha_sums c_generator_value c_secret_7 c_generator_begun_8 c_generator_requests_9 c_generator_key_10 c_generator_message_11 c_sha_filled_12 c_sha_total_13 c_sha_inner_14 c_sha_schedule_15 c_sha_sums_16 c_generator_value_17 hc_) (cwV 2 hts gX9_drawn_X3_feed rfl rfl rfl (by decide +kernel) ⟨Nat.le_of_ble_eq_true rfl, Nat.le_of_ble_eq_true rfl⟩) ⟨zblind, va_recv hK hP (ci := 5) (q0 := 2) rfl rfl, zpre hE hS (hP.sub [2, 3, 4, 8, 9, 10, 11, 5, 7] rfl) (hD.sub [2, 3, 4, 8, 9, 10, 11, 5, 7] (by decide) rfl) (va_free hD hS hA [2, 3, 4, 8, 9, 10, 11, 5, 7] rfl)⟩ rfl rfl hl.1 rfl (lv_room (Nat.le_of_ble_eq_true rfl)) (zdt_at zt_X9_drawn_0 24 rfl) ⟨Nat.zero_le _, Nat.zero_le _⟩) hS hP hD (va_free hD hS hA [2, 3, 4, 8, 9, 10, 11, 5, 7] rfl) [2, 3, 4, 8, 9, 10, 11, 5, 7] rfl (by decide) rfl ?_
  clear hP hD hS hc_
  intro H locs hP hD hS
  replace hP : va_P D vwCl ([(h0, .inr (11, [.ref h0_buffer, .ref h0_slots, .ref h0_counters, .ref h0_officerPin, .ref h0_userPin, .ref h0_words, .ref h0_sha, .ref h0_stream, .ref h0_aes, .ref h0_modes, .ref h0_gcm, .ref h0_generator, .ref h0_tests, .ref h0_message, .ref h0_secret, .int c_state, .int c_testsDone, .int c_faults, .int c_streamBegun])), (h0_buffer, .inl (cy 0, 512, .inl c_buffer)), (h0_generator, .inr (5, [.ref h0_sha, .ref h0_generator_key, .ref h0_generator_value, .ref h0_generator_message, .int c_generator_begun_8, .int c_generator_requests_9])), (h0_generator_key, .inl (cy 0, 32, .inl c_generator_key_10)), (h0_generator_message, .inl (cy 0, 97, .inl c_generator_message_11)), (h0_generator_value, .inl (cy 0, 32, .inl c_generator_value_17)), (h0_message, .inl (cy 0, 68, .inl c_message)), (h0_secret, .inl (cy 0, 80, .inl c_secret_7)), (h0_sha, .inr (9, [.ref h0_sha_sums, .ref h0_sha_schedule, .ref h0_sha_inner, .int c_sha_filled_12, .int c_sha_total_13])), (h0_sha_inner, .inl (cy 0, 32, .inl c_sha_inner_14)), (h0_sha_schedule, .inl (cy 1, 64, .inl c_sha_schedule_15)), (h0_sha_sums, .inl (cy 1, 8, .inl c_sha_sums_16)), (h0_words, .inr (3, [.ref h0_words_kept, .int c_words_count_5, .int c_words_healthy, .int c_words_last, .int c_words_row, .int c_words_first, .int c_words_placeInWindow, .int c_words_timesInWindow])), (h0_words_kept, .inl (cy 1, 64, .inl c_words_kept_6))]) H := hP
  replace hD : va_D A ([(h0, .inr (11, [.ref h0_buffer, .ref h0_slots, .ref h0_counters, .ref h0_officerPin, .ref h0_userPin, .ref h0_words, .ref h0_sha, .ref h0_stream, .ref h0_aes, .ref h0_modes, .ref h0_gcm, .ref h0_generator, .ref h0_tests, .ref h0_message, .ref h0_secret, .int c_state, .int c_testsDone, .int c_faults, .int c_streamBegun])), (h0_buffer, .inl (cy 0, 512, .inl c_buffer)), (h0_generator, .inr (5, [.ref h0_sha, .ref h0_generator_key, .ref h0_generator_value, .ref h0_generator_message, .int c_generator_begun_8, .int c_generator_requests_9])), (h0_generator_key, .inl (cy 0, 32, .inl c_generator_key_10)), (h0_generator_message, .inl (cy 0, 97, .inl c_generator_message_11)), (h0_generator_value, .inl (cy 0, 32, .inl c_generator_value_17)), (h0_message, .inl (cy 0, 68, .inl c_message)), (h0_secret, .inl (cy 0, 80, .inl c_secret_7)), (h0_sha, .inr (9, [.ref h0_sha_sums, .ref h0_sha_schedule, .ref h0_sha_inner, .int c_sha_filled_12, .int c_sha_total_13])), (h0_sha_inner, .inl (cy 0, 32, .inl c_sha_inner_14)), (h0_sha_schedule, .inl (cy 1, 64, .inl c_sha_schedule_15)), (h0_sha_sums, .inl (cy 1, 8, .inl c_sha_sums_16)), (h0_words, .inr (3, [.ref h0_words_kept, .int c_words_count_5, .int c_words_healthy, .int c_words_last, .int c_words_row, .int c_words_first, .int c_words_placeInWindow, .int c_words_timesInWindow])), (h0_words_kept, .inl (cy 1, 64, .inl c_words_kept_6))]) := hD
  refine W.eq (g2 := F0 m 51 ls []) rfl ?_
  refine lv_aload_n (pc := 51) hx hb (zdt_at zt_X9_drawn_0 25 rfl) rfl (lv_at hl 1 rfl) ?_
  replace hf := zb_s hf
  obtain ⟨c_secret_18, hc_, hf⟩ := hf
  refine zcn2 (pc := 52) (rv := none) (va_runV (As := []) (rest := []) ⟨hx, hb, hml, hown, hts⟩ (c_X9_forgetSecret l D cy tt H.size h0 h0_buffer h0_slots h0_counters h0_officerPin h0_userPin h0_words h0_sha h0_stream h0_aes h0_modes h0_gcm h0_generator h0_tests h0_message h0_secret c_secret_7 c_state c_testsDone c_faults c_streamBegun c_secret_18 hc_) (cwV 0 hts gX9_drawn_X9_forgetSecret rfl rfl rfl (by decide +kernel) ⟨Nat.le_of_ble_eq_true rfl, Nat.le_of_ble_eq_true rfl⟩) ⟨zblind, va_recv hK hP (ci := 11) (q0 := 0) rfl rfl, zpre hE hS (hP.sub [0, 7] rfl) (hD.sub [0, 7] (by decide) rfl) (va_free hD hS hA [0, 7] rfl)⟩ rfl rfl hl.1 rfl (lv_room (Nat.le_of_ble_eq_true rfl)) (zdt_at zt_X9_drawn_0 26 rfl) ⟨Nat.zero_le _, Nat.zero_le _⟩) hS hP hD (va_free hD hS hA [0, 7] rfl) [0, 7] rfl (by decide) rfl ?_
  clear hP hD hS hc_
  intro H locs hP hD hS
  replace hP : va_P D vwCl ([(h0, .inr (11, [.ref h0_buffer, .ref h0_slots, .ref h0_counters, .ref h0_officerPin, .ref h0_userPin, .ref h0_words, .ref h0_sha, .ref h0_stream, .ref h0_aes, .ref h0_modes, .ref h0_gcm, .ref h0_generator, .ref h0_tests, .ref h0_message, .ref h0_secret, .int c_state, .int c_testsDone, .int c_faults, .int c_streamBegun])), (h0_buffer, .inl (cy 0, 512, .inl c_buffer)), (h0_generator, .inr (5, [.ref h0_sha, .ref h0_generator_key, .ref h0_generator_value, .ref h0_generator_message, .int c_generator_begun_8, .int c_generator_requests_9])), (h0_generator_key, .inl (cy 0, 32, .inl c_generator_key_10)), (h0_generator_message, .inl (cy 0, 97, .inl c_generator_message_11)), (h0_generator_value, .inl (cy 0, 32, .inl c_generator_value_17)), (h0_message, .inl (cy 0, 68, .inl c_message)), (h0_secret, .inl (cy 0, 80, .inl c_secret_18)), (h0_sha, .inr (9, [.ref h0_sha_sums, .ref h0_sha_schedule, .ref h0_sha_inner, .int c_sha_filled_12, .int c_sha_total_13])), (h0_sha_inner, .inl (cy 0, 32, .inl c_sha_inner_14)), (h0_sha_schedule, .inl (cy 1, 64, .inl c_sha_schedule_15)), (h0_sha_sums, .inl (cy 1, 8, .inl c_sha_sums_16)), (h0_words, .inr (3, [.ref h0_words_kept, .int c_words_count_5, .int c_words_healthy, .int c_words_last, .int c_words_row, .int c_words_first, .int c_words_placeInWindow, .int c_words_timesInWindow])), (h0_words_kept, .inl (cy 1, 64, .inl c_words_kept_6))]) H := hP
  replace hD : va_D A ([(h0, .inr (11, [.ref h0_buffer, .ref h0_slots, .ref h0_counters, .ref h0_officerPin, .ref h0_userPin, .ref h0_words, .ref h0_sha, .ref h0_stream, .ref h0_aes, .ref h0_modes, .ref h0_gcm, .ref h0_generator, .ref h0_tests, .ref h0_message, .ref h0_secret, .int c_state, .int c_testsDone, .int c_faults, .int c_streamBegun])), (h0_buffer, .inl (cy 0, 512, .inl c_buffer)), (h0_generator, .inr (5, [.ref h0_sha, .ref h0_generator_key, .ref h0_generator_value, .ref h0_generator_message, .int c_generator_begun_8, .int c_generator_requests_9])), (h0_generator_key, .inl (cy 0, 32, .inl c_generator_key_10)), (h0_generator_message, .inl (cy 0, 97, .inl c_generator_message_11)), (h0_generator_value, .inl (cy 0, 32, .inl c_generator_value_17)), (h0_message, .inl (cy 0, 68, .inl c_message)), (h0_secret, .inl (cy 0, 80, .inl c_secret_18)), (h0_sha, .inr (9, [.ref h0_sha_sums, .ref h0_sha_schedule, .ref h0_sha_inner, .int c_sha_filled_12, .int c_sha_total_13])), (h0_sha_inner, .inl (cy 0, 32, .inl c_sha_inner_14)), (h0_sha_schedule, .inl (cy 1, 64, .inl c_sha_schedule_15)), (h0_sha_sums, .inl (cy 1, 8, .inl c_sha_sums_16)), (h0_words, .inr (3, [.ref h0_words_kept, .int c_words_count_5, .int c_words_healthy, .int c_words_last, .int c_words_row, .int c_words_first, .int c_words_placeInWindow, .int c_words_timesInWindow])), (h0_words_kept, .inl (cy 1, 64, .inl c_words_kept_6))]) := hD
  refine W.eq (g2 := F0 m 55 ls []) rfl ?_
  refine lv_aload_n (pc := 55) hx hb (zdt_at zt_X9_drawn_0 27 rfl) rfl (lv_at hl 1 rfl) ?_
  refine va_get (pc := 56) (D := D) (ci := 11) (v := .ref h0_buffer) (C := RX9) (T := TX9) (N := 19) hx hb hts hcX9 hown hK hP 0 rfl rfl 0 (by decide) hw3 (fun _ h9 => h9) rfl (zdt_at zt_X9_drawn_0 28 rfl) ?_
  refine lv_iconst (pc := 59) (v := (0 : Int32)) hx hb (zdt_at zt_X9_drawn_0 29 rfl) (by decide) ?_
  refine lv_aload_n (pc := 60) hx hb (zdt_at zt_X9_drawn_0 30 rfl) rfl (lv_at hl 1 rfl) ?_
  refine va_get (pc := 61) (D := D) (ci := 11) (v := .ref h0_message) (C := RX9) (T := TX9) (N := 19) hx hb hts hcX9 hown hK hP 0 rfl rfl 13 (by decide) hw4 (fun _ h9 => h9) rfl (zdt_at zt_X9_drawn_0 31 rfl) ?_
  refine lv_iconst (pc := 64) (v := (0 : Int32)) hx hb (zdt_at zt_X9_drawn_0 32 rfl) (by decide) ?_
  refine lv_iload (pc := 65) hx hb (zdt_at zt_X9_drawn_0 33 rfl) (lv_at hl 5 rfl) ?_
  replace hf := zk_s hf
  refine va_copyi (pc := 67) hx hb (hml.trans hl.1.symm) hown hw5 hw6 hw7 hw8 hK hP hD hS 1 6 0 0 rfl rfl rfl rfl rfl hf.1.1 hf.1.2.1 hf.1.2.2.1 hf.1.2.2.2.1 hf.1.2.2.2.2.1 hf.1.2.2.2.2.2 (Nat.le_of_ble_eq_true rfl) (Nat.le_of_ble_eq_true rfl) (zdt_at zt_X9_drawn_0 34 rfl) ?_
  replace hf := hf.2
  clear hP hD hS
  intro H locs hP hD hS
  obtain ⟨c_message_19, e_⟩ : ∃ q : Nat → Int32, q = (va_cpy c_buffer c_message (0 : Int32).toNatClampNeg (0 : Int32).toNatClampNeg p4.toNatClampNeg) := ⟨_, rfl⟩
  replace hf := zn_s hf e_
  replace hP : va_P D vwCl ([(h0, .inr (11, [.ref h0_buffer, .ref h0_slots, .ref h0_counters, .ref h0_officerPin, .ref h0_userPin, .ref h0_words, .ref h0_sha, .ref h0_stream, .ref h0_aes, .ref h0_modes, .ref h0_gcm, .ref h0_generator, .ref h0_tests, .ref h0_message, .ref h0_secret, .int c_state, .int c_testsDone, .int c_faults, .int c_streamBegun])), (h0_buffer, .inl (cy 0, 512, .inl c_buffer)), (h0_generator, .inr (5, [.ref h0_sha, .ref h0_generator_key, .ref h0_generator_value, .ref h0_generator_message, .int c_generator_begun_8, .int c_generator_requests_9])), (h0_generator_key, .inl (cy 0, 32, .inl c_generator_key_10)), (h0_generator_message, .inl (cy 0, 97, .inl c_generator_message_11)), (h0_generator_value, .inl (cy 0, 32, .inl c_generator_value_17)), (h0_message, .inl (cy 0, 68, .inl c_message_19)), (h0_secret, .inl (cy 0, 80, .inl c_secret_18)), (h0_sha, .inr (9, [.ref h0_sha_sums, .ref h0_sha_schedule, .ref h0_sha_inner, .int c_sha_filled_12, .int c_sha_total_13])), (h0_sha_inner, .inl (cy 0, 32, .inl c_sha_inner_14)), (h0_sha_schedule, .inl (cy 1, 64, .inl c_sha_schedule_15)), (h0_sha_sums, .inl (cy 1, 8, .inl c_sha_sums_16)), (h0_words, .inr (3, [.ref h0_words_kept, .int c_words_count_5, .int c_words_healthy, .int c_words_last, .int c_words_row, .int c_words_first, .int c_words_placeInWindow, .int c_words_timesInWindow])), (h0_words_kept, .inl (cy 1, 64, .inl c_words_kept_6))]) H := by rw [e_]; exact hP
  replace hD : va_D A ([(h0, .inr (11, [.ref h0_buffer, .ref h0_slots, .ref h0_counters, .ref h0_officerPin, .ref h0_userPin, .ref h0_words, .ref h0_sha, .ref h0_stream, .ref h0_aes, .ref h0_modes, .ref h0_gcm, .ref h0_generator, .ref h0_tests, .ref h0_message, .ref h0_secret, .int c_state, .int c_testsDone, .int c_faults, .int c_streamBegun])), (h0_buffer, .inl (cy 0, 512, .inl c_buffer)), (h0_generator, .inr (5, [.ref h0_sha, .ref h0_generator_key, .ref h0_generator_value, .ref h0_generator_message, .int c_generator_begun_8, .int c_generator_requests_9])), (h0_generator_key, .inl (cy 0, 32, .inl c_generator_key_10)), (h0_generator_message, .inl (cy 0, 97, .inl c_generator_message_11)), (h0_generator_value, .inl (cy 0, 32, .inl c_generator_value_17)), (h0_message, .inl (cy 0, 68, .inl c_message_19)), (h0_secret, .inl (cy 0, 80, .inl c_secret_18)), (h0_sha, .inr (9, [.ref h0_sha_sums, .ref h0_sha_schedule, .ref h0_sha_inner, .int c_sha_filled_12, .int c_sha_total_13])), (h0_sha_inner, .inl (cy 0, 32, .inl c_sha_inner_14)), (h0_sha_schedule, .inl (cy 1, 64, .inl c_sha_schedule_15)), (h0_sha_sums, .inl (cy 1, 8, .inl c_sha_sums_16)), (h0_words, .inr (3, [.ref h0_words_kept, .int c_words_count_5, .int c_words_healthy, .int c_words_last, .int c_words_row, .int c_words_first, .int c_words_placeInWindow, .int c_words_timesInWindow])), (h0_words_kept, .inl (cy 1, 64, .inl c_words_kept_6))]) := by rw [e_]; exact hD
  clear e_
  refine lv_aload_n (pc := 70) hx hb (zdt_at zt_X9_drawn_0 35 rfl) rfl (lv_at hl 1 rfl) ?_
  refine va_get (pc := 71) (D := D) (ci := 11) (v := .ref h0_generator) (C := RX9) (T := TX9) (N := 19) hx hb hts hcX9 hown hK hP 0 rfl rfl 11 (by decide) hw0 (fun _ h9 => h9) rfl (zdt_at zt_X9_drawn_0 36 rfl) ?_
  refine lv_aload_n (pc := 74) hx hb (zdt_at zt_X9_drawn_0 37 rfl) rfl (lv_at hl 1 rfl) ?_
  refine va_get (pc := 75) (D := D) (ci := 11) (v := .ref h0_message) (C := RX9) (T := TX9) (N := 19) hx hb hts hcX9 hown hK hP 0 rfl rfl 13 (by decide) hw4 (fun _ h9 => h9) rfl (zdt_at zt_X9_drawn_0 38 rfl) ?_
  refine lv_iload (pc := 78) hx hb (zdt_at zt_X9_drawn_0 39 rfl) (lv_at hl 5 rfl) ?_
  refine lv_aload_n (pc := 80) hx hb (zdt_at zt_X9_drawn_0 40 rfl) rfl (lv_at hl 2 rfl) ?_
  refine lv_iload_n (pc := 81) hx hb (zdt_at zt_X9_drawn_0 41 rfl) rfl (lv_at hl 3 rfl) ?_
  refine lv_iload_n (pc := 82) hx hb (zdt_at zt_X9_drawn_0 42 rfl) rfl (lv_at hl 4 rfl) ?_
  replace hf := zb_s hf
  obtain ⟨⟨c_generator_requests_20, c_generator_key_21, c_generator_message_22, c_sha_filled_23, c_sha_total_24, c_sha_inner_25, c_sha_schedule_26, c_sha_sums_27, c_generator_value_28, c_secret_29⟩, hc_, hf⟩ := hf
  refine zcn2 (pc := 83) (rv := none) (va_runV (As := [.ref h0_message, .int p4, .ref h0_secret, .int p2, .int p3]) (rest := []) ⟨hx, hb, hml, hown, hts⟩ (c_X3_answer l D cy tt H.size h0_generator h0_sha h0_generator_key h0_generator_value h0_generator_message h0_sha_sums h0_sha_schedule h0_sha_inner h0_message h0_secret 68 80 p4 p2 p3 c_generator_requests_9 c_generator_key_10 c_generator_message_11 c_sha_filled_12 c_sha_total_13 c_sha_inner_14 c_sha_schedule_15 c_sha_sums_16 c_generator_value_17 c_message_19 c_secret_18 c_generator_begun_8 c_generator_requests_20 c_generator_key_21 c_generator_message_22 c_sha_filled_23 c_sha_total_24 c_sha_inner_25 c_sha_schedule_26 c_sha_sums_27 c_generator_value_28 c_secret_29 hc_) (cwV 5 hts gX9_drawn_X3_answer rfl rfl rfl (by decide +kernel) ⟨Nat.le_of_ble_eq_true rfl, Nat.le_of_ble_eq_true rfl⟩) ⟨zblind, va_recv hK hP (ci := 5) (q0 := 2) rfl rfl, zpre hE hS (hP.sub [2, 3, 4, 8, 9, 10, 11, 5, 6, 7] rfl) (hD.sub [2, 3, 4, 8, 9, 10, 11, 5, 6, 7] (by decide) rfl) (va_free hD hS hA [2, 3, 4, 8, 9, 10, 11, 5, 6, 7] rfl)⟩ rfl rfl hl.1 rfl (lv_room (Nat.le_of_ble_eq_true rfl)) (zdt_at zt_X9_drawn_0 43 rfl) ⟨Nat.zero_le _, Nat.zero_le _⟩) hS hP hD (va_free hD hS hA [2, 3, 4, 8, 9, 10, 11, 5, 6, 7] rfl) [2, 3, 4, 8, 9, 10, 11, 5, 6, 7] rfl (by decide) rfl ?_
  clear hP hD hS hc_
  intro H locs hP hD hS
  replace hP : va_P D vwCl ([(h0, .inr (11, [.ref h0_buffer, .ref h0_slots, .ref h0_counters, .ref h0_officerPin, .ref h0_userPin, .ref h0_words, .ref h0_sha, .ref h0_stream, .ref h0_aes, .ref h0_modes, .ref h0_gcm, .ref h0_generator, .ref h0_tests, .ref h0_message, .ref h0_secret, .int c_state, .int c_testsDone, .int c_faults, .int c_streamBegun])), (h0_buffer, .inl (cy 0, 512, .inl c_buffer)), (h0_generator, .inr (5, [.ref h0_sha, .ref h0_generator_key, .ref h0_generator_value, .ref h0_generator_message, .int c_generator_begun_8, .int c_generator_requests_20])), (h0_generator_key, .inl (cy 0, 32, .inl c_generator_key_21)), (h0_generator_message, .inl (cy 0, 97, .inl c_generator_message_22)), (h0_generator_value, .inl (cy 0, 32, .inl c_generator_value_28)), (h0_message, .inl (cy 0, 68, .inl c_message_19)), (h0_secret, .inl (cy 0, 80, .inl c_secret_29)), (h0_sha, .inr (9, [.ref h0_sha_sums, .ref h0_sha_schedule, .ref h0_sha_inner, .int c_sha_filled_23, .int c_sha_total_24])), (h0_sha_inner, .inl (cy 0, 32, .inl c_sha_inner_25)), (h0_sha_schedule, .inl (cy 1, 64, .inl c_sha_schedule_26)), (h0_sha_sums, .inl (cy 1, 8, .inl c_sha_sums_27)), (h0_words, .inr (3, [.ref h0_words_kept, .int c_words_count_5, .int c_words_healthy, .int c_words_last, .int c_words_row, .int c_words_first, .int c_words_placeInWindow, .int c_words_timesInWindow])), (h0_words_kept, .inl (cy 1, 64, .inl c_words_kept_6))]) H := hP
  replace hD : va_D A ([(h0, .inr (11, [.ref h0_buffer, .ref h0_slots, .ref h0_counters, .ref h0_officerPin, .ref h0_userPin, .ref h0_words, .ref h0_sha, .ref h0_stream, .ref h0_aes, .ref h0_modes, .ref h0_gcm, .ref h0_generator, .ref h0_tests, .ref h0_message, .ref h0_secret, .int c_state, .int c_testsDone, .int c_faults, .int c_streamBegun])), (h0_buffer, .inl (cy 0, 512, .inl c_buffer)), (h0_generator, .inr (5, [.ref h0_sha, .ref h0_generator_key, .ref h0_generator_value, .ref h0_generator_message, .int c_generator_begun_8, .int c_generator_requests_20])), (h0_generator_key, .inl (cy 0, 32, .inl c_generator_key_21)), (h0_generator_message, .inl (cy 0, 97, .inl c_generator_message_22)), (h0_generator_value, .inl (cy 0, 32, .inl c_generator_value_28)), (h0_message, .inl (cy 0, 68, .inl c_message_19)), (h0_secret, .inl (cy 0, 80, .inl c_secret_29)), (h0_sha, .inr (9, [.ref h0_sha_sums, .ref h0_sha_schedule, .ref h0_sha_inner, .int c_sha_filled_23, .int c_sha_total_24])), (h0_sha_inner, .inl (cy 0, 32, .inl c_sha_inner_25)), (h0_sha_schedule, .inl (cy 1, 64, .inl c_sha_schedule_26)), (h0_sha_sums, .inl (cy 1, 8, .inl c_sha_sums_27)), (h0_words, .inr (3, [.ref h0_words_kept, .int c_words_count_5, .int c_words_healthy, .int c_words_last, .int c_words_row, .int c_words_first, .int c_words_placeInWindow, .int c_words_timesInWindow])), (h0_words_kept, .inl (cy 1, 64, .inl c_words_kept_6))]) := hD
  refine W.eq (g2 := F0 m 86 ls []) rfl ?_
  refine lv_iconst (pc := 86) (v := (1 : Int32)) hx hb (zdt_at zt_X9_drawn_0 44 rfl) (by decide) ?_
  cases hf
  exact W.zret (pc := 87) hx hb hr rfl (fun t ht hW => ⟨rfl, ⟨by rw [ht]; exact hP, hD⟩, hS.F ht⟩) hS.2.2 (zdt_at zt_X9_drawn_0 45 rfl)
set_option maxHeartbeats 4000000 in
set_option maxRecDepth 100000 in
theorem c_X9_make (l : Launch) (D : va_G) (cy : Nat → ClassId) (tt : Nat → Nat) (sz : Nat) (h0 : Nat) (h0_buffer : Nat) (h0_slots : Nat) (h0_counters : Nat) (h0_officerPin : Nat) (h0_userPin : Nat) (h0_words : Nat) (h0_sha : Nat) (h0_stream : Nat) (h0_aes : Nat) (h0_modes : Nat) (h0_gcm : Nat) (h0_generator : Nat) (h0_tests : Nat) (h0_message : Nat) (h0_secret : Nat) (h0_generator_key : Nat) (h0_generator_value : Nat) (h0_generator_message : Nat) (h0_sha_sums : Nat) (h0_sha_schedule : Nat) (h0_sha_inner : Nat) (hP_o : Nat → Nat) (h0_words_kept : Nat) (hP_k : Nat → Nat) (p1 : Int32) (p2 : Int32) (p3 : Int32) (p4 : Int32) (p5 : Int32) (p6 : Int32) (c_state : Int32) (c_buffer : Nat → Int32) (c_counters : Nat → Int32) (c_generator_begun : Int32) (c_generator_requests : Int32) (c_generator_key : Nat → Int32) (c_generator_message : Nat → Int32) (c_generator_value : Nat → Int32) (c_message : Nat → Int32) (c_secret : Nat → Int32) (c_sha_filled : Int32) (c_sha_total : Int32) (c_sha_inner : Nat → Int32) (c_sha_schedule : Nat → Int32) (c_sha_sums : Nat → Int32) (c_words_count : Int32) (c_words_healthy : Int32) (c_words_kept : Nat → Int32) (cP_kind : Nat → Int32) (cP_length : Nat → Int32) (cP_role : Nat → Int32) (cP_usage : Nat → Int32) (cP_uses : Nat → Int32) (cPK : Nat → Nat → Int32) (c_testsDone : Int32) (c_faults : Int32) (c_streamBegun : Int32) (c_words_last : Int32) (c_words_row : Int32) (c_words_first : Int32) (c_words_placeInWindow : Int32) (c_words_timesInWindow : Int32) (r_ : Int32) (c_counters' : Nat → Int32) (c_generator_begun' : Int32) (c_generator_requests' : Int32) (c_generator_key' : Nat → Int32) (c_generator_message' : Nat → Int32) (c_generator_value' : Nat → Int32) (c_message' : Nat → Int32) (c_secret' : Nat → Int32) (c_sha_filled' : Int32) (c_sha_total' : Int32) (c_sha_inner' : Nat → Int32) (c_sha_schedule' : Nat → Int32) (c_sha_sums' : Nat → Int32) (c_words_count' : Int32) (c_words_kept' : Nat → Int32) (cP_kind' : Nat → Int32) (cP_length' : Nat → Int32) (cP_role' : Nat → Int32) (cP_usage' : Nat → Int32) (cP_uses' : Nat → Int32) (cPK' : Nat → Nat → Int32) (hf : f_X9_make p1 p2 p3 p4 p5 p6 c_state c_buffer c_counters c_generator_begun c_generator_requests c_generator_key c_generator_message c_generator_value c_message c_secret c_sha_filled c_sha_total c_sha_inner c_sha_schedule c_sha_sums c_words_count c_words_healthy c_words_kept cP_kind cP_length cP_role cP_usage cP_uses cPK = some (r_, c_counters', c_generator_begun', c_generator_requests', c_generator_key', c_generator_message', c_generator_value', c_message', c_secret', c_sha_filled', c_sha_total', c_sha_inner', c_sha_schedule', c_sha_sums', c_words_count', c_words_kept', cP_kind', cP_length', cP_role', cP_usage', cP_uses', cPK')) : Met l yX9_make wsX9_make ({ frames := 7, cells := 0, slots := 0, locals := 186 }) (zPc D cy tt sz [.ref h0, .int p1, .int p2, .int p3, .int p4, .int p5, .int p6] ([(h0, .inr (11, [.ref h0_buffer, .ref h0_slots, .ref h0_counters, .ref h0_officerPin, .ref h0_userPin, .ref h0_words, .ref h0_sha, .ref h0_stream, .ref h0_aes, .ref h0_modes, .ref h0_gcm, .ref h0_generator, .ref h0_tests, .ref h0_message, .ref h0_secret, .int c_state, .int c_testsDone, .int c_faults, .int c_streamBegun])), (h0_buffer, .inl (cy 0, 512, .inl c_buffer)), (h0_counters, .inl (cy 1, 3, .inl c_counters)), (h0_generator, .inr (5, [.ref h0_sha, .ref h0_generator_key, .ref h0_generator_value, .ref h0_generator_message, .int c_generator_begun, .int c_generator_requests])), (h0_generator_key, .inl (cy 0, 32, .inl c_generator_key)), (h0_generator_message, .inl (cy 0, 97, .inl c_generator_message)), (h0_generator_value, .inl (cy 0, 32, .inl c_generator_value)), (h0_message, .inl (cy 0, 68, .inl c_message)), (h0_secret, .inl (cy 0, 80, .inl c_secret)), (h0_sha, .inr (9, [.ref h0_sha_sums, .ref h0_sha_schedule, .ref h0_sha_inner, .int c_sha_filled, .int c_sha_total])), (h0_sha_inner, .inl (cy 0, 32, .inl c_sha_inner)), (h0_sha_schedule, .inl (cy 1, 64, .inl c_sha_schedule)), (h0_sha_sums, .inl (cy 1, 8, .inl c_sha_sums)), (h0_slots, .inl (cy 4, 16, .inr (.inr (.inr (.inr (fun j => some (hP_o j))))))), (h0_words, .inr (3, [.ref h0_words_kept, .int c_words_count, .int c_words_healthy, .int c_words_last, .int c_words_row, .int c_words_first, .int c_words_placeInWindow, .int c_words_timesInWindow])), (h0_words_kept, .inl (cy 1, 64, .inl c_words_kept))] ++ zpl (cy 0) hP_o hP_k cP_kind cP_length cP_usage cP_role cP_uses cPK)) (zQ D (some (.int r_)) ([(h0, .inr (11, [.ref h0_buffer, .ref h0_slots, .ref h0_counters, .ref h0_officerPin, .ref h0_userPin, .ref h0_words, .ref h0_sha, .ref h0_stream, .ref h0_aes, .ref h0_modes, .ref h0_gcm, .ref h0_generator, .ref h0_tests, .ref h0_message, .ref h0_secret, .int c_state, .int c_testsDone, .int c_faults, .int c_streamBegun])), (h0_buffer, .inl (cy 0, 512, .inl c_buffer)), (h0_counters, .inl (cy 1, 3, .inl c_counters')), (h0_generator, .inr (5, [.ref h0_sha, .ref h0_generator_key, .ref h0_generator_value, .ref h0_generator_message, .int c_generator_begun', .int c_generator_requests'])), (h0_generator_key, .inl (cy 0, 32, .inl c_generator_key')), (h0_generator_message, .inl (cy 0, 97, .inl c_generator_message')), (h0_generator_value, .inl (cy 0, 32, .inl c_generator_value')), (h0_message, .inl (cy 0, 68, .inl c_message')), (h0_secret, .inl (cy 0, 80, .inl c_secret')), (h0_sha, .inr (9, [.ref h0_sha_sums, .ref h0_sha_schedule, .ref h0_sha_inner, .int c_sha_filled', .int c_sha_total'])), (h0_sha_inner, .inl (cy 0, 32, .inl c_sha_inner')), (h0_sha_schedule, .inl (cy 1, 64, .inl c_sha_schedule')), (h0_sha_sums, .inl (cy 1, 8, .inl c_sha_sums')), (h0_slots, .inl (cy 4, 16, .inr (.inr (.inr (.inr (fun j => some (hP_o j))))))), (h0_words, .inr (3, [.ref h0_words_kept, .int c_words_count', .int c_words_healthy, .int c_words_last, .int c_words_row, .int c_words_first, .int c_words_placeInWindow, .int c_words_timesInWindow])), (h0_words_kept, .inl (cy 1, 64, .inl c_words_kept'))] ++ zpl (cy 0) hP_o hP_k cP_kind' cP_length' cP_usage' cP_role' cP_uses' cPK') (va_A ([(h0, .inr (11, [.ref h0_buffer, .ref h0_slots, .ref h0_counters, .ref h0_officerPin, .ref h0_userPin, .ref h0_words, .ref h0_sha, .ref h0_stream, .ref h0_aes, .ref h0_modes, .ref h0_gcm, .ref h0_generator, .ref h0_tests, .ref h0_message, .ref h0_secret, .int c_state, .int c_testsDone, .int c_faults, .int c_streamBegun])), (h0_buffer, .inl (cy 0, 512, .inl c_buffer)), (h0_counters, .inl (cy 1, 3, .inl c_counters)), (h0_generator, .inr (5, [.ref h0_sha, .ref h0_generator_key, .ref h0_generator_value, .ref h0_generator_message, .int c_generator_begun, .int c_generator_requests])), (h0_generator_key, .inl (cy 0, 32, .inl c_generator_key)), (h0_generator_message, .inl (cy 0, 97, .inl c_generator_message)), (h0_generator_value, .inl (cy 0, 32, .inl c_generator_value)), (h0_message, .inl (cy 0, 68, .inl c_message)), (h0_secret, .inl (cy 0, 80, .inl c_secret)), (h0_sha, .inr (9, [.ref h0_sha_sums, .ref h0_sha_schedule, .ref h0_sha_inner, .int c_sha_filled, .int c_sha_total])), (h0_sha_inner, .inl (cy 0, 32, .inl c_sha_inner)), (h0_sha_schedule, .inl (cy 1, 64, .inl c_sha_schedule)), (h0_sha_sums, .inl (cy 1, 8, .inl c_sha_sums)), (h0_slots, .inl (cy 4, 16, .inr (.inr (.inr (.inr (fun j => some (hP_o j))))))), (h0_words, .inr (3, [.ref h0_words_kept, .int c_words_count, .int c_words_healthy, .int c_words_last, .int c_words_row, .int c_words_first, .int c_words_placeInWindow, .int c_words_timesInWindow])), (h0_words_kept, .inl (cy 1, 64, .inl c_words_kept))] ++ zpl (cy 0) hP_o hP_k cP_kind cP_length cP_usage cP_role cP_uses cPK) sz)) 0 0 (va_A ([(h0, .inr (11, [.ref h0_buffer, .ref h0_slots, .ref h0_counters, .ref h0_officerPin, .ref h0_userPin, .ref h0_words, .ref h0_sha, .ref h0_stream, .ref h0_aes, .ref h0_modes, .ref h0_gcm, .ref h0_generator, .ref h0_tests, .ref h0_message, .ref h0_secret, .int c_state, .int c_testsDone, .int c_faults, .int c_streamBegun])), (h0_buffer, .inl (cy 0, 512, .inl c_buffer)), (h0_counters, .inl (cy 1, 3, .inl c_counters)), (h0_generator, .inr (5, [.ref h0_sha, .ref h0_generator_key, .ref h0_generator_value, .ref h0_generator_message, .int c_generator_begun, .int c_generator_requests])), (h0_generator_key, .inl (cy 0, 32, .inl c_generator_key)), (h0_generator_message, .inl (cy 0, 97, .inl c_generator_message)), (h0_generator_value, .inl (cy 0, 32, .inl c_generator_value)), (h0_message, .inl (cy 0, 68, .inl c_message)), (h0_secret, .inl (cy 0, 80, .inl c_secret)), (h0_sha, .inr (9, [.ref h0_sha_sums, .ref h0_sha_schedule, .ref h0_sha_inner, .int c_sha_filled, .int c_sha_total])), (h0_sha_inner, .inl (cy 0, 32, .inl c_sha_inner)), (h0_sha_schedule, .inl (cy 1, 64, .inl c_sha_schedule)), (h0_sha_sums, .inl (cy 1, 8, .inl c_sha_sums)), (h0_slots, .inl (cy 4, 16, .inr (.inr (.inr (.inr (fun j => some (hP_o j))))))), (h0_words, .inr (3, [.ref h0_words_kept, .int c_words_count, .int c_words_healthy, .int c_words_last, .int c_words_row, .int c_words_first, .int c_words_placeInWindow, .int c_words_timesInWindow])), (h0_words_kept, .inl (cy 1, 64, .inl c_words_kept))] ++ zpl (cy 0) hP_o hP_k cP_kind cP_length cP_usage cP_role cP_uses cPK) sz) := by
  refine Met.ofW (cc := cX9_make) (maxL := 8) (ret := (some .int)) (by decide) rfl ?_
  intro p e s m args below meth c s₁ B hml hv
  obtain ⟨rfl, rfl, hP, hD0, hE⟩ := hv
  have hx := B.exec
  have hb := B.bytes
  have hr := B.returns
  have hts := atoms_spec (ws := wsX9_make) B.pre
  have hown : s.vm.findClass RX9 = some m.cls := findClass_of_methodNamed B.named
  have hlocks := B.notSynchronized
  clear B
  have hD := hD0.self (sz := s.heap.size)
  generalize hAe : va_A ([(h0, .inr (11, [.ref h0_buffer, .ref h0_slots, .ref h0_counters, .ref h0_officerPin, .ref h0_userPin, .ref h0_words, .ref h0_sha, .ref h0_stream, .ref h0_aes, .ref h0_modes, .ref h0_gcm, .ref h0_generator, .ref h0_tests, .ref h0_message, .ref h0_secret, .int c_state, .int c_testsDone, .int c_faults, .int c_streamBegun])), (h0_buffer, .inl (cy 0, 512, .inl c_buffer)), (h0_counters, .inl (cy 1, 3, .inl c_counters)), (h0_generator, .inr (5, [.ref h0_sha, .ref h0_generator_key, .ref h0_generator_value, .ref h0_generator_message, .int c_generator_begun, .int c_generator_requests])), (h0_generator_key, .inl (cy 0, 32, .inl c_generator_key)), (h0_generator_message, .inl (cy 0, 97, .inl c_generator_message)), (h0_generator_value, .inl (cy 0, 32, .inl c_generator_value)), (h0_message, .inl (cy 0, 68, .inl c_message)), (h0_secret, .inl (cy 0, 80, .inl c_secret)), (h0_sha, .inr (9, [.ref h0_sha_sums, .ref h0_sha_schedule, .ref h0_sha_inner, .int c_sha_filled, .int c_sha_total])), (h0_sha_inner, .inl (cy 0, 32, .inl c_sha_inner)), (h0_sha_schedule, .inl (cy 1, 64, .inl c_sha_schedule)), (h0_sha_sums, .inl (cy 1, 8, .inl c_sha_sums)), (h0_slots, .inl (cy 4, 16, .inr (.inr (.inr (.inr (fun j => some (hP_o j))))))), (h0_words, .inr (3, [.ref h0_words_kept, .int c_words_count, .int c_words_healthy, .int c_words_last, .int c_words_row, .int c_words_first, .int c_words_placeInWindow, .int c_words_timesInWindow])), (h0_words_kept, .inl (cy 1, 64, .inl c_words_kept))] ++ zpl (cy 0) hP_o hP_k cP_kind cP_length cP_usage cP_role cP_uses cPK) s.heap.size = A at hD hE ⊢
  have hA : ∀ q : Nat, s.heap.size ≤ q → A q := fun q h => by rw [← hAe]; exact Or.inr h
  clear hAe hD0
  have hS : va_S A s.heap s.heap [] := va_S.rf
  have hK := hE.1
  have hw0 := hts (.fieldLink RX9 15 "SealedModule" "slots" "[LSealedModule$Slot;") (by decide +kernel)
  have hw1 := hts (.fieldLink RX9 98 "SealedModule" "secret" "[B") (by decide +kernel)
  have hcX9 : ∀ w ∈ u_ws RX9 TX9 19, w ∈ wsX9_make := (fun _ h => List.mem_cons_of_mem _ (List.mem_append_left _ (List.mem_append_left _ (List.mem_append_left _ (List.mem_append_left _ (List.mem_append_left _ (List.mem_append_right _ h)))))))
  have hl := lv_entry ([.ref h0, .int p1, .int p2, .int p3, .int p4, .int p5, .int p6]) (n := 8) (Nat.le_of_ble_eq_true rfl)
  rw [lg_entry_eq]
  generalize (lg_sl ([.ref h0, .int p1, .int p2, .int p3, .int p4, .int p5, .int p6]) ++ List.replicate (8 - (lg_sl ([.ref h0, .int p1, .int p2, .int p3, .int p4, .int p5, .int p6])).length) Slot.unset).toArray = ls at hl ⊢
  replace hl : lv_has ls 8 [(0, .ref h0), (1, .int p1), (2, .int p2), (3, .int p3), (4, .int p4), (5, .int p5), (6, .int p6)] := hl
  unfold f_X9_make at hf
  refine zgo (fun GW hTo hFr => ?_)
  refine hFr _ _ _ ?_
  obtain ⟨H, hHe⟩ : ∃ H, H = s.heap := ⟨_, rfl⟩
  obtain ⟨locs, hLe⟩ : ∃ L : List Loc, L = [] := ⟨_, rfl⟩
  rw [← hHe] at hP
  replace hS : va_S A s.heap H locs := by rw [hHe, hLe]; exact hS
  refine zat hHe.symm hLe.symm ?_
  clear hHe hLe
  refine lv_aload_n (pc := 0) hx hb (zdt_at zt_X9_make_0 0 rfl) rfl (lv_at hl 0 rfl) ?_
  refine lv_iload_n (pc := 1) hx hb (zdt_at zt_X9_make_0 1 rfl) rfl (lv_at hl 1 rfl) ?_
  refine lv_iload_n (pc := 2) hx hb (zdt_at zt_X9_make_0 2 rfl) rfl (lv_at hl 2 rfl) ?_
  refine lv_iload_n (pc := 3) hx hb (zdt_at zt_X9_make_0 3 rfl) rfl (lv_at hl 3 rfl) ?_
  refine lv_iload (pc := 4) hx hb (zdt_at zt_X9_make_0 4 rfl) (lv_at hl 4 rfl) ?_
  refine lv_iload (pc := 6) hx hb (zdt_at zt_X9_make_0 5 rfl) (lv_at hl 5 rfl) ?_
  refine lv_iload (pc := 8) hx hb (zdt_at zt_X9_make_0 6 rfl) (lv_at hl 6 rfl) ?_
  replace hf := zb_s hf
  obtain ⟨r_1, hc_, hf⟩ := hf
  refine zcs (pc := 10) (rv := (some (.int r_1))) (va_runV (As := [.int p1, .int p2, .int p3, .int p4, .int p5, .int p6]) (rest := []) ⟨hx, hb, hml, hown, hts⟩ (c_X9_newKeyRefusal l D cy tt H.size h0 h0_buffer h0_slots h0_counters h0_officerPin h0_userPin h0_words h0_sha h0_stream h0_aes h0_modes h0_gcm h0_generator h0_tests h0_message h0_secret hP_o hP_k p1 p2 p3 p4 p5 p6 c_state cP_kind c_testsDone c_faults c_streamBegun cP_length cP_usage cP_role cP_uses cPK r_1 hc_) (cwV 6 hts gX9_make_X9_newKeyRefusal rfl rfl rfl (by decide +kernel) ⟨Nat.le_of_ble_eq_true rfl, Nat.le_of_ble_eq_true rfl⟩) ⟨zblind, va_recv hK hP (ci := 11) (q0 := 0) rfl rfl, zpre hE hS (va_P.part (X := [(h0, .inr (11, [.ref h0_buffer, .ref h0_slots, .ref h0_counters, .ref h0_officerPin, .ref h0_userPin, .ref h0_words, .ref h0_sha, .ref h0_stream, .ref h0_aes, .ref h0_modes, .ref h0_gcm, .ref h0_generator, .ref h0_tests, .ref h0_message, .ref h0_secret, .int c_state, .int c_testsDone, .int c_faults, .int c_streamBegun])), (h0_buffer, .inl (cy 0, 512, .inl c_buffer)), (h0_counters, .inl (cy 1, 3, .inl c_counters)), (h0_generator, .inr (5, [.ref h0_sha, .ref h0_generator_key, .ref h0_generator_value, .ref h0_generator_message, .int c_generator_begun, .int c_generator_requests])), (h0_generator_key, .inl (cy 0, 32, .inl c_generator_key)), (h0_generator_message, .inl (cy 0, 97, .inl c_generator_message)), (h0_generator_value, .inl (cy 0, 32, .inl c_generator_value)), (h0_message, .inl (cy 0, 68, .inl c_message)), (h0_secret, .inl (cy 0, 80, .inl c_secret)), (h0_sha, .inr (9, [.ref h0_sha_sums, .ref h0_sha_schedule, .ref h0_sha_inner, .int c_sha_filled, .int c_sha_total])), (h0_sha_inner, .inl (cy 0, 32, .inl c_sha_inner)), (h0_sha_schedule, .inl (cy 1, 64, .inl c_sha_schedule)), (h0_sha_sums, .inl (cy 1, 8, .inl c_sha_sums)), (h0_slots, .inl (cy 4, 16, .inr (.inr (.inr (.inr (fun j => some (hP_o j))))))), (h0_words, .inr (3, [.ref h0_words_kept, .int c_words_count, .int c_words_healthy, .int c_words_last, .int c_words_row, .int c_words_first, .int c_words_placeInWindow, .int c_words_timesInWindow])), (h0_words_kept, .inl (cy 1, 64, .inl c_words_kept))]) hP [0, 13] rfl) (va_D.part (X := [(h0, .inr (11, [.ref h0_buffer, .ref h0_slots, .ref h0_counters, .ref h0_officerPin, .ref h0_userPin, .ref h0_words, .ref h0_sha, .ref h0_stream, .ref h0_aes, .ref h0_modes, .ref h0_gcm, .ref h0_generator, .ref h0_tests, .ref h0_message, .ref h0_secret, .int c_state, .int c_testsDone, .int c_faults, .int c_streamBegun])), (h0_buffer, .inl (cy 0, 512, .inl c_buffer)), (h0_counters, .inl (cy 1, 3, .inl c_counters)), (h0_generator, .inr (5, [.ref h0_sha, .ref h0_generator_key, .ref h0_generator_value, .ref h0_generator_message, .int c_generator_begun, .int c_generator_requests])), (h0_generator_key, .inl (cy 0, 32, .inl c_generator_key)), (h0_generator_message, .inl (cy 0, 97, .inl c_generator_message)), (h0_generator_value, .inl (cy 0, 32, .inl c_generator_value)), (h0_message, .inl (cy 0, 68, .inl c_message)), (h0_secret, .inl (cy 0, 80, .inl c_secret)), (h0_sha, .inr (9, [.ref h0_sha_sums, .ref h0_sha_schedule, .ref h0_sha_inner, .int c_sha_filled, .int c_sha_total])), (h0_sha_inner, .inl (cy 0, 32, .inl c_sha_inner)), (h0_sha_schedule, .inl (cy 1, 64, .inl c_sha_schedule)), (h0_sha_sums, .inl (cy 1, 8, .inl c_sha_sums)), (h0_slots, .inl (cy 4, 16, .inr (.inr (.inr (.inr (fun j => some (hP_o j))))))), (h0_words, .inr (3, [.ref h0_words_kept, .int c_words_count, .int c_words_healthy, .int c_words_last, .int c_words_row, .int c_words_first, .int c_words_placeInWindow, .int c_words_timesInWindow])), (h0_words_kept, .inl (cy 1, 64, .inl c_words_kept))]) hD [0, 13] (by decide) rfl) (va_freeP (X := [(h0, .inr (11, [.ref h0_buffer, .ref h0_slots, .ref h0_counters, .ref h0_officerPin, .ref h0_userPin, .ref h0_words, .ref h0_sha, .ref h0_stream, .ref h0_aes, .ref h0_modes, .ref h0_gcm, .ref h0_generator, .ref h0_tests, .ref h0_message, .ref h0_secret, .int c_state, .int c_testsDone, .int c_faults, .int c_streamBegun])), (h0_buffer, .inl (cy 0, 512, .inl c_buffer)), (h0_counters, .inl (cy 1, 3, .inl c_counters)), (h0_generator, .inr (5, [.ref h0_sha, .ref h0_generator_key, .ref h0_generator_value, .ref h0_generator_message, .int c_generator_begun, .int c_generator_requests])), (h0_generator_key, .inl (cy 0, 32, .inl c_generator_key)), (h0_generator_message, .inl (cy 0, 97, .inl c_generator_message)), (h0_generator_value, .inl (cy 0, 32, .inl c_generator_value)), (h0_message, .inl (cy 0, 68, .inl c_message)), (h0_secret, .inl (cy 0, 80, .inl c_secret)), (h0_sha, .inr (9, [.ref h0_sha_sums, .ref h0_sha_schedule, .ref h0_sha_inner, .int c_sha_filled, .int c_sha_total])), (h0_sha_inner, .inl (cy 0, 32, .inl c_sha_inner)), (h0_sha_schedule, .inl (cy 1, 64, .inl c_sha_schedule)), (h0_sha_sums, .inl (cy 1, 8, .inl c_sha_sums)), (h0_slots, .inl (cy 4, 16, .inr (.inr (.inr (.inr (fun j => some (hP_o j))))))), (h0_words, .inr (3, [.ref h0_words_kept, .int c_words_count, .int c_words_healthy, .int c_words_last, .int c_words_row, .int c_words_first, .int c_words_placeInWindow, .int c_words_timesInWindow])), (h0_words_kept, .inl (cy 1, 64, .inl c_words_kept))]) hD hS hA [0, 13] rfl)⟩ rfl rfl hl.1 rfl (lv_room (Nat.le_of_ble_eq_true rfl)) (zdt_at zt_X9_make_0 7 rfl) ⟨Nat.zero_le _, Nat.zero_le _⟩) ?_
  clear hc_
  refine W.eq (g2 := F0 m 13 ls [.int r_1]) rfl ?_
  refine lv_istore (pc := 13) (lv' := [(7, .int r_1), (0, .ref h0), (1, .int p1), (2, .int p2), (3, .int p3), (4, .int p4), (5, .int p5), (6, .int p6)]) hx hb (zdt_at zt_X9_make_0 8 rfl) hl (by decide) rfl ?_
  clear hl
  intro ls hl
  refine lv_iload (pc := 15) hx hb (zdt_at zt_X9_make_0 9 rfl) (lv_at hl 0 rfl) ?_
  replace hf := zj_s hf
  obtain ⟨K_17, eK_17, hf⟩ := hf
  have kK_17 : ∀ (v_2 : Int32) (c_generator_begun_3 : Int32) (c_generator_key_4 : Nat → Int32) (c_generator_message_5 : Nat → Int32) (c_generator_requests_6 : Int32) (c_generator_value_7 : Nat → Int32) (c_message_8 : Nat → Int32) (c_secret_9 : Nat → Int32) (c_sha_filled_10 : Int32) (c_sha_inner_11 : Nat → Int32) (c_sha_schedule_12 : Nat → Int32) (c_sha_sums_13 : Nat → Int32) (c_sha_total_14 : Int32) (c_words_count_15 : Int32) (c_words_kept_16 : Nat → Int32) (H : Heap) (locs : List Loc) (ls : Array Slot), va_P D vwCl ([(h0, .inr (11, [.ref h0_buffer, .ref h0_slots, .ref h0_counters, .ref h0_officerPin, .ref h0_userPin, .ref h0_words, .ref h0_sha, .ref h0_stream, .ref h0_aes, .ref h0_modes, .ref h0_gcm, .ref h0_generator, .ref h0_tests, .ref h0_message, .ref h0_secret, .int c_state, .int c_testsDone, .int c_faults, .int c_streamBegun])), (h0_buffer, .inl (cy 0, 512, .inl c_buffer)), (h0_counters, .inl (cy 1, 3, .inl c_counters)), (h0_generator, .inr (5, [.ref h0_sha, .ref h0_generator_key, .ref h0_generator_value, .ref h0_generator_message, .int c_generator_begun_3, .int c_generator_requests_6])), (h0_generator_key, .inl (cy 0, 32, .inl c_generator_key_4)), (h0_generator_message, .inl (cy 0, 97, .inl c_generator_message_5)), (h0_generator_value, .inl (cy 0, 32, .inl c_generator_value_7)), (h0_message, .inl (cy 0, 68, .inl c_message_8)), (h0_secret, .inl (cy 0, 80, .inl c_secret_9)), (h0_sha, .inr (9, [.ref h0_sha_sums, .ref h0_sha_schedule, .ref h0_sha_inner, .int c_sha_filled_10, .int c_sha_total_14])), (h0_sha_inner, .inl (cy 0, 32, .inl c_sha_inner_11)), (h0_sha_schedule, .inl (cy 1, 64, .inl c_sha_schedule_12)), (h0_sha_sums, .inl (cy 1, 8, .inl c_sha_sums_13)), (h0_slots, .inl (cy 4, 16, .inr (.inr (.inr (.inr (fun j => some (hP_o j))))))), (h0_words, .inr (3, [.ref h0_words_kept, .int c_words_count_15, .int c_words_healthy, .int c_words_last, .int c_words_row, .int c_words_first, .int c_words_placeInWindow, .int c_words_timesInWindow])), (h0_words_kept, .inl (cy 1, 64, .inl c_words_kept_16))] ++ zpl (cy 0) hP_o hP_k cP_kind cP_length cP_usage cP_role cP_uses cPK) H → va_D A ([(h0, .inr (11, [.ref h0_buffer, .ref h0_slots, .ref h0_counters, .ref h0_officerPin, .ref h0_userPin, .ref h0_words, .ref h0_sha, .ref h0_stream, .ref h0_aes, .ref h0_modes, .ref h0_gcm, .ref h0_generator, .ref h0_tests, .ref h0_message, .ref h0_secret, .int c_state, .int c_testsDone, .int c_faults, .int c_streamBegun])), (h0_buffer, .inl (cy 0, 512, .inl c_buffer)), (h0_counters, .inl (cy 1, 3, .inl c_counters)), (h0_generator, .inr (5, [.ref h0_sha, .ref h0_generator_key, .ref h0_generator_value, .ref h0_generator_message, .int c_generator_begun_3, .int c_generator_requests_6])), (h0_generator_key, .inl (cy 0, 32, .inl c_generator_key_4)), (h0_generator_message, .inl (cy 0, 97, .inl c_generator_message_5)), (h0_generator_value, .inl (cy 0, 32, .inl c_generator_value_7)), (h0_message, .inl (cy 0, 68, .inl c_message_8)), (h0_secret, .inl (cy 0, 80, .inl c_secret_9)), (h0_sha, .inr (9, [.ref h0_sha_sums, .ref h0_sha_schedule, .ref h0_sha_inner, .int c_sha_filled_10, .int c_sha_total_14])), (h0_sha_inner, .inl (cy 0, 32, .inl c_sha_inner_11)), (h0_sha_schedule, .inl (cy 1, 64, .inl c_sha_schedule_12)), (h0_sha_sums, .inl (cy 1, 8, .inl c_sha_sums_13)), (h0_slots, .inl (cy 4, 16, .inr (.inr (.inr (.inr (fun j => some (hP_o j))))))), (h0_words, .inr (3, [.ref h0_words_kept, .int c_words_count_15, .int c_words_healthy, .int c_words_last, .int c_words_row, .int c_words_first, .int c_words_placeInWindow, .int c_words_timesInWindow])), (h0_words_kept, .inl (cy 1, 64, .inl c_words_kept_16))] ++ zpl (cy 0) hP_o hP_k cP_kind cP_length cP_usage cP_role cP_uses cPK) → va_S A s.heap H locs → lv_has ls 8 [(0, .ref h0), (1, .int p1), (2, .int p2), (3, .int p3), (4, .int p4), (5, .int p5), (6, .int p6), (7, .int v_2)] → K_17 v_2 c_generator_begun_3 c_generator_key_4 c_generator_message_5 c_generator_requests_6 c_generator_value_7 c_message_8 c_secret_9 c_sha_filled_10 c_sha_inner_11 c_sha_schedule_12 c_sha_sums_13 c_sha_total_14 c_words_count_15 c_words_kept_16 = some (r_, c_counters', c_generator_begun', c_generator_requests', c_generator_key', c_generator_message', c_generator_value', c_message', c_secret', c_sha_filled', c_sha_total', c_sha_inner', c_sha_schedule', c_sha_sums', c_words_count', c_words_kept', cP_kind', cP_length', cP_role', cP_usage', cP_uses', cPK') → GW H locs (F0 m 43 ls []) := by
    clear hf hl hP hD hS
    intro v_2 c_generator_begun_3 c_generator_key_4 c_generator_message_5 c_generator_requests_6 c_generator_value_7 c_message_8 c_secret_9 c_sha_filled_10 c_sha_inner_11 c_sha_schedule_12 c_sha_sums_13 c_sha_total_14 c_words_count_15 c_words_kept_16 H locs ls hP hD hS hl hf
    rw [eK_17] at hf
    clear eK_17
    refine hFr _ _ _ ?_
    refine lv_iload (pc := 43) hx hb (zdt_at zt_X9_make_0 23 rfl) (lv_at hl 7 rfl) ?_
    refine lv_if_ne (pc := 45) (tgt := 74) hx hb (zdt_at zt_X9_make_0 24 rfl) (by decide) (fun cn_ => ?t_18) (fun cn_ => ?f_19)
    case t_18 =>
      replace hf := ze_s cn_ hf
      clear cn_
      refine lv_aload_n (pc := 74) hx hb (zdt_at zt_X9_make_0 40 rfl) rfl (lv_at hl 0 rfl) ?_
      refine lv_iload (pc := 75) hx hb (zdt_at zt_X9_make_0 41 rfl) (lv_at hl 7 rfl) ?_
      replace hf := zb_s hf
      obtain ⟨⟨r_20, c_counters_21⟩, hc_, hf⟩ := hf
      refine zcnQ (pc := 77) (X := [(h0, .inr (11, [.ref h0_buffer, .ref h0_slots, .ref h0_counters, .ref h0_officerPin, .ref h0_userPin, .ref h0_words, .ref h0_sha, .ref h0_stream, .ref h0_aes, .ref h0_modes, .ref h0_gcm, .ref h0_generator, .ref h0_tests, .ref h0_message, .ref h0_secret, .int c_state, .int c_testsDone, .int c_faults, .int c_streamBegun])), (h0_buffer, .inl (cy 0, 512, .inl c_buffer)), (h0_counters, .inl (cy 1, 3, .inl c_counters)), (h0_generator, .inr (5, [.ref h0_sha, .ref h0_generator_key, .ref h0_generator_value, .ref h0_generator_message, .int c_generator_begun_3, .int c_generator_requests_6])), (h0_generator_key, .inl (cy 0, 32, .inl c_generator_key_4)), (h0_generator_message, .inl (cy 0, 97, .inl c_generator_message_5)), (h0_generator_value, .inl (cy 0, 32, .inl c_generator_value_7)), (h0_message, .inl (cy 0, 68, .inl c_message_8)), (h0_secret, .inl (cy 0, 80, .inl c_secret_9)), (h0_sha, .inr (9, [.ref h0_sha_sums, .ref h0_sha_schedule, .ref h0_sha_inner, .int c_sha_filled_10, .int c_sha_total_14])), (h0_sha_inner, .inl (cy 0, 32, .inl c_sha_inner_11)), (h0_sha_schedule, .inl (cy 1, 64, .inl c_sha_schedule_12)), (h0_sha_sums, .inl (cy 1, 8, .inl c_sha_sums_13)), (h0_slots, .inl (cy 4, 16, .inr (.inr (.inr (.inr (fun j => some (hP_o j))))))), (h0_words, .inr (3, [.ref h0_words_kept, .int c_words_count_15, .int c_words_healthy, .int c_words_last, .int c_words_row, .int c_words_first, .int c_words_placeInWindow, .int c_words_timesInWindow])), (h0_words_kept, .inl (cy 1, 64, .inl c_words_kept_16))]) (rv := (some (.int r_20))) (va_runV (As := [.int v_2]) (rest := []) ⟨hx, hb, hml, hown, hts⟩ (c_X9_counted l D cy tt H.size h0 h0_buffer h0_slots h0_counters h0_officerPin h0_userPin h0_words h0_sha h0_stream h0_aes h0_modes h0_gcm h0_generator h0_tests h0_message h0_secret v_2 c_counters c_state c_testsDone c_faults c_streamBegun r_20 c_counters_21 hc_) (cwV 1 hts gX9_make_X9_counted rfl rfl rfl (by decide +kernel) ⟨Nat.le_of_ble_eq_true rfl, Nat.le_of_ble_eq_true rfl⟩) ⟨zblind, va_recv hK hP (ci := 11) (q0 := 0) rfl rfl, zpre hE hS (hP.sub [0, 2] rfl) (hD.sub [0, 2] (by decide) rfl) (va_free hD hS hA [0, 2] rfl)⟩ rfl rfl hl.1 rfl (lv_room (Nat.le_of_ble_eq_true rfl)) (zdt_at zt_X9_make_0 42 rfl) ⟨Nat.zero_le _, Nat.zero_le _⟩) hS hP hD (va_free hD hS hA [0, 2] rfl) [0, 2] rfl (by decide) rfl rfl ?_
      clear hP hD hS hc_
      intro H locs hP hD hS
      replace hP : va_P D vwCl ([(h0, .inr (11, [.ref h0_buffer, .ref h0_slots, .ref h0_counters, .ref h0_officerPin, .ref h0_userPin, .ref h0_words, .ref h0_sha, .ref h0_stream, .ref h0_aes, .ref h0_modes, .ref h0_gcm, .ref h0_generator, .ref h0_tests, .ref h0_message, .ref h0_secret, .int c_state, .int c_testsDone, .int c_faults, .int c_streamBegun])), (h0_buffer, .inl (cy 0, 512, .inl c_buffer)), (h0_counters, .inl (cy 1, 3, .inl c_counters_21)), (h0_generator, .inr (5, [.ref h0_sha, .ref h0_generator_key, .ref h0_generator_value, .ref h0_generator_message, .int c_generator_begun_3, .int c_generator_requests_6])), (h0_generator_key, .inl (cy 0, 32, .inl c_generator_key_4)), (h0_generator_message, .inl (cy 0, 97, .inl c_generator_message_5)), (h0_generator_value, .inl (cy 0, 32, .inl c_generator_value_7)), (h0_message, .inl (cy 0, 68, .inl c_message_8)), (h0_secret, .inl (cy 0, 80, .inl c_secret_9)), (h0_sha, .inr (9, [.ref h0_sha_sums, .ref h0_sha_schedule, .ref h0_sha_inner, .int c_sha_filled_10, .int c_sha_total_14])), (h0_sha_inner, .inl (cy 0, 32, .inl c_sha_inner_11)), (h0_sha_schedule, .inl (cy 1, 64, .inl c_sha_schedule_12)), (h0_sha_sums, .inl (cy 1, 8, .inl c_sha_sums_13)), (h0_slots, .inl (cy 4, 16, .inr (.inr (.inr (.inr (fun j => some (hP_o j))))))), (h0_words, .inr (3, [.ref h0_words_kept, .int c_words_count_15, .int c_words_healthy, .int c_words_last, .int c_words_row, .int c_words_first, .int c_words_placeInWindow, .int c_words_timesInWindow])), (h0_words_kept, .inl (cy 1, 64, .inl c_words_kept_16))] ++ zpl (cy 0) hP_o hP_k cP_kind cP_length cP_usage cP_role cP_uses cPK) H := hP
      replace hD : va_D A ([(h0, .inr (11, [.ref h0_buffer, .ref h0_slots, .ref h0_counters, .ref h0_officerPin, .ref h0_userPin, .ref h0_words, .ref h0_sha, .ref h0_stream, .ref h0_aes, .ref h0_modes, .ref h0_gcm, .ref h0_generator, .ref h0_tests, .ref h0_message, .ref h0_secret, .int c_state, .int c_testsDone, .int c_faults, .int c_streamBegun])), (h0_buffer, .inl (cy 0, 512, .inl c_buffer)), (h0_counters, .inl (cy 1, 3, .inl c_counters_21)), (h0_generator, .inr (5, [.ref h0_sha, .ref h0_generator_key, .ref h0_generator_value, .ref h0_generator_message, .int c_generator_begun_3, .int c_generator_requests_6])), (h0_generator_key, .inl (cy 0, 32, .inl c_generator_key_4)), (h0_generator_message, .inl (cy 0, 97, .inl c_generator_message_5)), (h0_generator_value, .inl (cy 0, 32, .inl c_generator_value_7)), (h0_message, .inl (cy 0, 68, .inl c_message_8)), (h0_secret, .inl (cy 0, 80, .inl c_secret_9)), (h0_sha, .inr (9, [.ref h0_sha_sums, .ref h0_sha_schedule, .ref h0_sha_inner, .int c_sha_filled_10, .int c_sha_total_14])), (h0_sha_inner, .inl (cy 0, 32, .inl c_sha_inner_11)), (h0_sha_schedule, .inl (cy 1, 64, .inl c_sha_schedule_12)), (h0_sha_sums, .inl (cy 1, 8, .inl c_sha_sums_13)), (h0_slots, .inl (cy 4, 16, .inr (.inr (.inr (.inr (fun j => some (hP_o j))))))), (h0_words, .inr (3, [.ref h0_words_kept, .int c_words_count_15, .int c_words_healthy, .int c_words_last, .int c_words_row, .int c_words_first, .int c_words_placeInWindow, .int c_words_timesInWindow])), (h0_words_kept, .inl (cy 1, 64, .inl c_words_kept_16))] ++ zpl (cy 0) hP_o hP_k cP_kind cP_length cP_usage cP_role cP_uses cPK) := hD
      refine W.eq (g2 := F0 m 80 ls [.int r_20]) rfl ?_
      cases hf
      exact W.iret (pc := 80) hx hb hr (fun t ht hW => ⟨rfl, ⟨by rw [ht]; exact hP, hD⟩, hS.F ht⟩) hS.2.2 (zdt_at zt_X9_make_0 43 rfl)
    replace hf := zt_s cn_ hf
    clear cn_
    refine lv_aload_n (pc := 48) hx hb (zdt_at zt_X9_make_0 25 rfl) rfl (lv_at hl 0 rfl) ?_
    refine va_get (pc := 49) (D := D) (ci := 11) (v := .ref h0_slots) (C := RX9) (T := TX9) (N := 19) hx hb hts hcX9 hown hK hP 0 rfl rfl 1 (by decide) hw0 (fun _ h9 => h9) rfl (zdt_at zt_X9_make_0 26 rfl) ?_
    refine lv_iload_n (pc := 52) hx hb (zdt_at zt_X9_make_0 27 rfl) rfl (lv_at hl 1 rfl) ?_
    replace hf := zk_s hf
    have hj_22 : p1.toNatClampNeg < 16 := Nat.not_le.mp fun q => hf.1 (Or.inr q)
    refine va_aldq (pc := 53) (C := RX8) hx hb hK hP 13 4 rfl rfl hf.1 (zdt_at zt_X9_make_0 28 rfl) ?_
    replace hf := hf.2
    refine lv_iload_n (pc := 54) hx hb (zdt_at zt_X9_make_0 29 rfl) rfl (lv_at hl 2 rfl) ?_
    refine lv_iload_n (pc := 55) hx hb (zdt_at zt_X9_make_0 30 rfl) rfl (lv_at hl 3 rfl) ?_
    refine lv_iload (pc := 56) hx hb (zdt_at zt_X9_make_0 31 rfl) (lv_at hl 4 rfl) ?_
    refine lv_iload (pc := 58) hx hb (zdt_at zt_X9_make_0 32 rfl) (lv_at hl 5 rfl) ?_
    refine lv_aload_n (pc := 60) hx hb (zdt_at zt_X9_make_0 33 rfl) rfl (lv_at hl 0 rfl) ?_
    refine va_get (pc := 61) (D := D) (ci := 11) (v := .ref h0_secret) (C := RX9) (T := TX9) (N := 19) hx hb hts hcX9 hown hK hP 0 rfl rfl 14 (by decide) hw1 (fun _ h9 => h9) rfl (zdt_at zt_X9_make_0 34 rfl) ?_
    refine lv_iconst (pc := 64) (v := (0 : Int32)) hx hb (zdt_at zt_X9_make_0 35 rfl) (by decide) ?_
    refine lv_iload (pc := 65) hx hb (zdt_at zt_X9_make_0 36 rfl) (lv_at hl 6 rfl) ?_
    replace hf := zb_s hf
    obtain ⟨⟨cP_kind_23, cP_length_24, cP_role_25, cP_usage_26, cP_uses_27, cPK_28⟩, hc_, hf⟩ := hf
    refine zcnP (pc := 67) (X := [(h0, .inr (11, [.ref h0_buffer, .ref h0_slots, .ref h0_counters, .ref h0_officerPin, .ref h0_userPin, .ref h0_words, .ref h0_sha, .ref h0_stream, .ref h0_aes, .ref h0_modes, .ref h0_gcm, .ref h0_generator, .ref h0_tests, .ref h0_message, .ref h0_secret, .int c_state, .int c_testsDone, .int c_faults, .int c_streamBegun])), (h0_buffer, .inl (cy 0, 512, .inl c_buffer)), (h0_counters, .inl (cy 1, 3, .inl c_counters)), (h0_generator, .inr (5, [.ref h0_sha, .ref h0_generator_key, .ref h0_generator_value, .ref h0_generator_message, .int c_generator_begun_3, .int c_generator_requests_6])), (h0_generator_key, .inl (cy 0, 32, .inl c_generator_key_4)), (h0_generator_message, .inl (cy 0, 97, .inl c_generator_message_5)), (h0_generator_value, .inl (cy 0, 32, .inl c_generator_value_7)), (h0_message, .inl (cy 0, 68, .inl c_message_8)), (h0_secret, .inl (cy 0, 80, .inl c_secret_9)), (h0_sha, .inr (9, [.ref h0_sha_sums, .ref h0_sha_schedule, .ref h0_sha_inner, .int c_sha_filled_10, .int c_sha_total_14])), (h0_sha_inner, .inl (cy 0, 32, .inl c_sha_inner_11)), (h0_sha_schedule, .inl (cy 1, 64, .inl c_sha_schedule_12)), (h0_sha_sums, .inl (cy 1, 8, .inl c_sha_sums_13)), (h0_slots, .inl (cy 4, 16, .inr (.inr (.inr (.inr (fun j => some (hP_o j))))))), (h0_words, .inr (3, [.ref h0_words_kept, .int c_words_count_15, .int c_words_healthy, .int c_words_last, .int c_words_row, .int c_words_first, .int c_words_placeInWindow, .int c_words_timesInWindow])), (h0_words_kept, .inl (cy 1, 64, .inl c_words_kept_16))]) (rv := none) (va_runV (As := [.int p2, .int p3, .int p4, .int p5, .ref h0_secret, .int (0 : Int32), .int p6]) (rest := []) ⟨hx, hb, hml, hown, hts⟩ (c_X8_fill l D cy tt H.size h0_secret hP_o hP_k 80 p1.toNatClampNeg p2 p3 p4 p5 (0 : Int32) p6 c_secret_9 cP_kind cP_length cP_role cP_usage cP_uses cPK cP_kind_23 cP_length_24 cP_role_25 cP_usage_26 cP_uses_27 cPK_28 hj_22 hc_) (cwV 7 hts gX9_make_X8_fill rfl rfl rfl (by decide +kernel) ⟨Nat.le_of_ble_eq_true rfl, Nat.le_of_ble_eq_true rfl⟩) ⟨zblind, va_recv hK hP (ci := 10) (q0 := (16 + p1.toNatClampNeg)) rfl (zplO_get (X := [(h0, .inr (11, [.ref h0_buffer, .ref h0_slots, .ref h0_counters, .ref h0_officerPin, .ref h0_userPin, .ref h0_words, .ref h0_sha, .ref h0_stream, .ref h0_aes, .ref h0_modes, .ref h0_gcm, .ref h0_generator, .ref h0_tests, .ref h0_message, .ref h0_secret, .int c_state, .int c_testsDone, .int c_faults, .int c_streamBegun])), (h0_buffer, .inl (cy 0, 512, .inl c_buffer)), (h0_counters, .inl (cy 1, 3, .inl c_counters)), (h0_generator, .inr (5, [.ref h0_sha, .ref h0_generator_key, .ref h0_generator_value, .ref h0_generator_message, .int c_generator_begun_3, .int c_generator_requests_6])), (h0_generator_key, .inl (cy 0, 32, .inl c_generator_key_4)), (h0_generator_message, .inl (cy 0, 97, .inl c_generator_message_5)), (h0_generator_value, .inl (cy 0, 32, .inl c_generator_value_7)), (h0_message, .inl (cy 0, 68, .inl c_message_8)), (h0_secret, .inl (cy 0, 80, .inl c_secret_9)), (h0_sha, .inr (9, [.ref h0_sha_sums, .ref h0_sha_schedule, .ref h0_sha_inner, .int c_sha_filled_10, .int c_sha_total_14])), (h0_sha_inner, .inl (cy 0, 32, .inl c_sha_inner_11)), (h0_sha_schedule, .inl (cy 1, 64, .inl c_sha_schedule_12)), (h0_sha_sums, .inl (cy 1, 8, .inl c_sha_sums_13)), (h0_slots, .inl (cy 4, 16, .inr (.inr (.inr (.inr (fun j => some (hP_o j))))))), (h0_words, .inr (3, [.ref h0_words_kept, .int c_words_count_15, .int c_words_healthy, .int c_words_last, .int c_words_row, .int c_words_first, .int c_words_placeInWindow, .int c_words_timesInWindow])), (h0_words_kept, .inl (cy 1, 64, .inl c_words_kept_16))]) (n := 16) rfl hj_22), zpre hE hS (va_P.part (X := [(h0, .inr (11, [.ref h0_buffer, .ref h0_slots, .ref h0_counters, .ref h0_officerPin, .ref h0_userPin, .ref h0_words, .ref h0_sha, .ref h0_stream, .ref h0_aes, .ref h0_modes, .ref h0_gcm, .ref h0_generator, .ref h0_tests, .ref h0_message, .ref h0_secret, .int c_state, .int c_testsDone, .int c_faults, .int c_streamBegun])), (h0_buffer, .inl (cy 0, 512, .inl c_buffer)), (h0_counters, .inl (cy 1, 3, .inl c_counters)), (h0_generator, .inr (5, [.ref h0_sha, .ref h0_generator_key, .ref h0_generator_value, .ref h0_generator_message, .int c_generator_begun_3, .int c_generator_requests_6])), (h0_generator_key, .inl (cy 0, 32, .inl c_generator_key_4)), (h0_generator_message, .inl (cy 0, 97, .inl c_generator_message_5)), (h0_generator_value, .inl (cy 0, 32, .inl c_generator_value_7)), (h0_message, .inl (cy 0, 68, .inl c_message_8)), (h0_secret, .inl (cy 0, 80, .inl c_secret_9)), (h0_sha, .inr (9, [.ref h0_sha_sums, .ref h0_sha_schedule, .ref h0_sha_inner, .int c_sha_filled_10, .int c_sha_total_14])), (h0_sha_inner, .inl (cy 0, 32, .inl c_sha_inner_11)), (h0_sha_schedule, .inl (cy 1, 64, .inl c_sha_schedule_12)), (h0_sha_sums, .inl (cy 1, 8, .inl c_sha_sums_13)), (h0_slots, .inl (cy 4, 16, .inr (.inr (.inr (.inr (fun j => some (hP_o j))))))), (h0_words, .inr (3, [.ref h0_words_kept, .int c_words_count_15, .int c_words_healthy, .int c_words_last, .int c_words_row, .int c_words_first, .int c_words_placeInWindow, .int c_words_timesInWindow])), (h0_words_kept, .inl (cy 1, 64, .inl c_words_kept_16))]) hP [8] rfl) (va_D.part (X := [(h0, .inr (11, [.ref h0_buffer, .ref h0_slots, .ref h0_counters, .ref h0_officerPin, .ref h0_userPin, .ref h0_words, .ref h0_sha, .ref h0_stream, .ref h0_aes, .ref h0_modes, .ref h0_gcm, .ref h0_generator, .ref h0_tests, .ref h0_message, .ref h0_secret, .int c_state, .int c_testsDone, .int c_faults, .int c_streamBegun])), (h0_buffer, .inl (cy 0, 512, .inl c_buffer)), (h0_counters, .inl (cy 1, 3, .inl c_counters)), (h0_generator, .inr (5, [.ref h0_sha, .ref h0_generator_key, .ref h0_generator_value, .ref h0_generator_message, .int c_generator_begun_3, .int c_generator_requests_6])), (h0_generator_key, .inl (cy 0, 32, .inl c_generator_key_4)), (h0_generator_message, .inl (cy 0, 97, .inl c_generator_message_5)), (h0_generator_value, .inl (cy 0, 32, .inl c_generator_value_7)), (h0_message, .inl (cy 0, 68, .inl c_message_8)), (h0_secret, .inl (cy 0, 80, .inl c_secret_9)), (h0_sha, .inr (9, [.ref h0_sha_sums, .ref h0_sha_schedule, .ref h0_sha_inner, .int c_sha_filled_10, .int c_sha_total_14])), (h0_sha_inner, .inl (cy 0, 32, .inl c_sha_inner_11)), (h0_sha_schedule, .inl (cy 1, 64, .inl c_sha_schedule_12)), (h0_sha_sums, .inl (cy 1, 8, .inl c_sha_sums_13)), (h0_slots, .inl (cy 4, 16, .inr (.inr (.inr (.inr (fun j => some (hP_o j))))))), (h0_words, .inr (3, [.ref h0_words_kept, .int c_words_count_15, .int c_words_healthy, .int c_words_last, .int c_words_row, .int c_words_first, .int c_words_placeInWindow, .int c_words_timesInWindow])), (h0_words_kept, .inl (cy 1, 64, .inl c_words_kept_16))]) hD [8] (by decide) rfl) (va_freeP (X := [(h0, .inr (11, [.ref h0_buffer, .ref h0_slots, .ref h0_counters, .ref h0_officerPin, .ref h0_userPin, .ref h0_words, .ref h0_sha, .ref h0_stream, .ref h0_aes, .ref h0_modes, .ref h0_gcm, .ref h0_generator, .ref h0_tests, .ref h0_message, .ref h0_secret, .int c_state, .int c_testsDone, .int c_faults, .int c_streamBegun])), (h0_buffer, .inl (cy 0, 512, .inl c_buffer)), (h0_counters, .inl (cy 1, 3, .inl c_counters)), (h0_generator, .inr (5, [.ref h0_sha, .ref h0_generator_key, .ref h0_generator_value, .ref h0_generator_message, .int c_generator_begun_3, .int c_generator_requests_6])), (h0_generator_key, .inl (cy 0, 32, .inl c_generator_key_4)), (h0_generator_message, .inl (cy 0, 97, .inl c_generator_message_5)), (h0_generator_value, .inl (cy 0, 32, .inl c_generator_value_7)), (h0_message, .inl (cy 0, 68, .inl c_message_8)), (h0_secret, .inl (cy 0, 80, .inl c_secret_9)), (h0_sha, .inr (9, [.ref h0_sha_sums, .ref h0_sha_schedule, .ref h0_sha_inner, .int c_sha_filled_10, .int c_sha_total_14])), (h0_sha_inner, .inl (cy 0, 32, .inl c_sha_inner_11)), (h0_sha_schedule, .inl (cy 1, 64, .inl c_sha_schedule_12)), (h0_sha_sums, .inl (cy 1, 8, .inl c_sha_sums_13)), (h0_slots, .inl (cy 4, 16, .inr (.inr (.inr (.inr (fun j => some (hP_o j))))))), (h0_words, .inr (3, [.ref h0_words_kept, .int c_words_count_15, .int c_words_healthy, .int c_words_last, .int c_words_row, .int c_words_first, .int c_words_placeInWindow, .int c_words_timesInWindow])), (h0_words_kept, .inl (cy 1, 64, .inl c_words_kept_16))]) hD hS hA [8] rfl)⟩ rfl rfl hl.1 rfl (lv_room (Nat.le_of_ble_eq_true rfl)) (zdt_at zt_X9_make_0 37 rfl) ⟨Nat.zero_le _, Nat.zero_le _⟩) hS hP hD (va_freeP (X := [(h0, .inr (11, [.ref h0_buffer, .ref h0_slots, .ref h0_counters, .ref h0_officerPin, .ref h0_userPin, .ref h0_words, .ref h0_sha, .ref h0_stream, .ref h0_aes, .ref h0_modes, .ref h0_gcm, .ref h0_generator, .ref h0_tests, .ref h0_message, .ref h0_secret, .int c_state, .int c_testsDone, .int c_faults, .int c_streamBegun])), (h0_buffer, .inl (cy 0, 512, .inl c_buffer)), (h0_counters, .inl (cy 1, 3, .inl c_counters)), (h0_generator, .inr (5, [.ref h0_sha, .ref h0_generator_key, .ref h0_generator_value, .ref h0_generator_message, .int c_generator_begun_3, .int c_generator_requests_6])), (h0_generator_key, .inl (cy 0, 32, .inl c_generator_key_4)), (h0_generator_message, .inl (cy 0, 97, .inl c_generator_message_5)), (h0_generator_value, .inl (cy 0, 32, .inl c_generator_value_7)), (h0_message, .inl (cy 0, 68, .inl c_message_8)), (h0_secret, .inl (cy 0, 80, .inl c_secret_9)), (h0_sha, .inr (9, [.ref h0_sha_sums, .ref h0_sha_schedule, .ref h0_sha_inner, .int c_sha_filled_10, .int c_sha_total_14])), (h0_sha_inner, .inl (cy 0, 32, .inl c_sha_inner_11)), (h0_sha_schedule, .inl (cy 1, 64, .inl c_sha_schedule_12)), (h0_sha_sums, .inl (cy 1, 8, .inl c_sha_sums_13)), (h0_slots, .inl (cy 4, 16, .inr (.inr (.inr (.inr (fun j => some (hP_o j))))))), (h0_words, .inr (3, [.ref h0_words_kept, .int c_words_count_15, .int c_words_healthy, .int c_words_last, .int c_words_row, .int c_words_first, .int c_words_placeInWindow, .int c_words_timesInWindow])), (h0_words_kept, .inl (cy 1, 64, .inl c_words_kept_16))]) hD hS hA [8] rfl) [8] rfl (by decide) rfl rfl zpl_adr ?_
    clear hP hD hS hc_
    intro H locs hP hD hS
    replace hP : va_P D vwCl ([(h0, .inr (11, [.ref h0_buffer, .ref h0_slots, .ref h0_counters, .ref h0_officerPin, .ref h0_userPin, .ref h0_words, .ref h0_sha, .ref h0_stream, .ref h0_aes, .ref h0_modes, .ref h0_gcm, .ref h0_generator, .ref h0_tests, .ref h0_message, .ref h0_secret, .int c_state, .int c_testsDone, .int c_faults, .int c_streamBegun])), (h0_buffer, .inl (cy 0, 512, .inl c_buffer)), (h0_counters, .inl (cy 1, 3, .inl c_counters)), (h0_generator, .inr (5, [.ref h0_sha, .ref h0_generator_key, .ref h0_generator_value, .ref h0_generator_message, .int c_generator_begun_3, .int c_generator_requests_6])), (h0_generator_key, .inl (cy 0, 32, .inl c_generator_key_4)), (h0_generator_message, .inl (cy 0, 97, .inl c_generator_message_5)), (h0_generator_value, .inl (cy 0, 32, .inl c_generator_value_7)), (h0_message, .inl (cy 0, 68, .inl c_message_8)), (h0_secret, .inl (cy 0, 80, .inl c_secret_9)), (h0_sha, .inr (9, [.ref h0_sha_sums, .ref h0_sha_schedule, .ref h0_sha_inner, .int c_sha_filled_10, .int c_sha_total_14])), (h0_sha_inner, .inl (cy 0, 32, .inl c_sha_inner_11)), (h0_sha_schedule, .inl (cy 1, 64, .inl c_sha_schedule_12)), (h0_sha_sums, .inl (cy 1, 8, .inl c_sha_sums_13)), (h0_slots, .inl (cy 4, 16, .inr (.inr (.inr (.inr (fun j => some (hP_o j))))))), (h0_words, .inr (3, [.ref h0_words_kept, .int c_words_count_15, .int c_words_healthy, .int c_words_last, .int c_words_row, .int c_words_first, .int c_words_placeInWindow, .int c_words_timesInWindow])), (h0_words_kept, .inl (cy 1, 64, .inl c_words_kept_16))] ++ zpl (cy 0) hP_o hP_k cP_kind_23 cP_length_24 cP_usage_26 cP_role_25 cP_uses_27 cPK_28) H := hP
    replace hD : va_D A ([(h0, .inr (11, [.ref h0_buffer, .ref h0_slots, .ref h0_counters, .ref h0_officerPin, .ref h0_userPin, .ref h0_words, .ref h0_sha, .ref h0_stream, .ref h0_aes, .ref h0_modes, .ref h0_gcm, .ref h0_generator, .ref h0_tests, .ref h0_message, .ref h0_secret, .int c_state, .int c_testsDone, .int c_faults, .int c_streamBegun])), (h0_buffer, .inl (cy 0, 512, .inl c_buffer)), (h0_counters, .inl (cy 1, 3, .inl c_counters)), (h0_generator, .inr (5, [.ref h0_sha, .ref h0_generator_key, .ref h0_generator_value, .ref h0_generator_message, .int c_generator_begun_3, .int c_generator_requests_6])), (h0_generator_key, .inl (cy 0, 32, .inl c_generator_key_4)), (h0_generator_message, .inl (cy 0, 97, .inl c_generator_message_5)), (h0_generator_value, .inl (cy 0, 32, .inl c_generator_value_7)), (h0_message, .inl (cy 0, 68, .inl c_message_8)), (h0_secret, .inl (cy 0, 80, .inl c_secret_9)), (h0_sha, .inr (9, [.ref h0_sha_sums, .ref h0_sha_schedule, .ref h0_sha_inner, .int c_sha_filled_10, .int c_sha_total_14])), (h0_sha_inner, .inl (cy 0, 32, .inl c_sha_inner_11)), (h0_sha_schedule, .inl (cy 1, 64, .inl c_sha_schedule_12)), (h0_sha_sums, .inl (cy 1, 8, .inl c_sha_sums_13)), (h0_slots, .inl (cy 4, 16, .inr (.inr (.inr (.inr (fun j => some (hP_o j))))))), (h0_words, .inr (3, [.ref h0_words_kept, .int c_words_count_15, .int c_words_healthy, .int c_words_last, .int c_words_row, .int c_words_first, .int c_words_placeInWindow, .int c_words_timesInWindow])), (h0_words_kept, .inl (cy 1, 64, .inl c_words_kept_16))] ++ zpl (cy 0) hP_o hP_k cP_kind_23 cP_length_24 cP_usage_26 cP_role_25 cP_uses_27 cPK_28) := hD
    refine W.eq (g2 := F0 m 70 ls []) rfl ?_
    refine lv_aload_n (pc := 70) hx hb (zdt_at zt_X9_make_0 38 rfl) rfl (lv_at hl 0 rfl) ?_
    replace hf := zb_s hf
    obtain ⟨c_secret_29, hc_, hf⟩ := hf
    refine zcnQ (pc := 71) (X := [(h0, .inr (11, [.ref h0_buffer, .ref h0_slots, .ref h0_counters, .ref h0_officerPin, .ref h0_userPin, .ref h0_words, .ref h0_sha, .ref h0_stream, .ref h0_aes, .ref h0_modes, .ref h0_gcm, .ref h0_generator, .ref h0_tests, .ref h0_message, .ref h0_secret, .int c_state, .int c_testsDone, .int c_faults, .int c_streamBegun])), (h0_buffer, .inl (cy 0, 512, .inl c_buffer)), (h0_counters, .inl (cy 1, 3, .inl c_counters)), (h0_generator, .inr (5, [.ref h0_sha, .ref h0_generator_key, .ref h0_generator_value, .ref h0_generator_message, .int c_generator_begun_3, .int c_generator_requests_6])), (h0_generator_key, .inl (cy 0, 32, .inl c_generator_key_4)), (h0_generator_message, .inl (cy 0, 97, .inl c_generator_message_5)), (h0_generator_value, .inl (cy 0, 32, .inl c_generator_value_7)), (h0_message, .inl (cy 0, 68, .inl c_message_8)), (h0_secret, .inl (cy 0, 80, .inl c_secret_9)), (h0_sha, .inr (9, [.ref h0_sha_sums, .ref h0_sha_schedule, .ref h0_sha_inner, .int c_sha_filled_10, .int c_sha_total_14])), (h0_sha_inner, .inl (cy 0, 32, .inl c_sha_inner_11)), (h0_sha_schedule, .inl (cy 1, 64, .inl c_sha_schedule_12)), (h0_sha_sums, .inl (cy 1, 8, .inl c_sha_sums_13)), (h0_slots, .inl (cy 4, 16, .inr (.inr (.inr (.inr (fun j => some (hP_o j))))))), (h0_words, .inr (3, [.ref h0_words_kept, .int c_words_count_15, .int c_words_healthy, .int c_words_last, .int c_words_row, .int c_words_first, .int c_words_placeInWindow, .int c_words_timesInWindow])), (h0_words_kept, .inl (cy 1, 64, .inl c_words_kept_16))]) (rv := none) (va_runV (As := []) (rest := []) ⟨hx, hb, hml, hown, hts⟩ (c_X9_forgetSecret l D cy tt H.size h0 h0_buffer h0_slots h0_counters h0_officerPin h0_userPin h0_words h0_sha h0_stream h0_aes h0_modes h0_gcm h0_generator h0_tests h0_message h0_secret c_secret_9 c_state c_testsDone c_faults c_streamBegun c_secret_29 hc_) (cwV 0 hts gX9_make_X9_forgetSecret rfl rfl rfl (by decide +kernel) ⟨Nat.le_of_ble_eq_true rfl, Nat.le_of_ble_eq_true rfl⟩) ⟨zblind, va_recv hK hP (ci := 11) (q0 := 0) rfl rfl, zpre hE hS (hP.sub [0, 8] rfl) (hD.sub [0, 8] (by decide) rfl) (va_free hD hS hA [0, 8] rfl)⟩ rfl rfl hl.1 rfl (lv_room (Nat.le_of_ble_eq_true rfl)) (zdt_at zt_X9_make_0 39 rfl) ⟨Nat.zero_le _, Nat.zero_le _⟩) hS hP hD (va_free hD hS hA [0, 8] rfl) [0, 8] rfl (by decide) rfl rfl ?_
    clear hP hD hS hc_
    intro H locs hP hD hS
    replace hP : va_P D vwCl ([(h0, .inr (11, [.ref h0_buffer, .ref h0_slots, .ref h0_counters, .ref h0_officerPin, .ref h0_userPin, .ref h0_words, .ref h0_sha, .ref h0_stream, .ref h0_aes, .ref h0_modes, .ref h0_gcm, .ref h0_generator, .ref h0_tests, .ref h0_message, .ref h0_secret, .int c_state, .int c_testsDone, .int c_faults, .int c_streamBegun])), (h0_buffer, .inl (cy 0, 512, .inl c_buffer)), (h0_counters, .inl (cy 1, 3, .inl c_counters)), (h0_generator, .inr (5, [.ref h0_sha, .ref h0_generator_key, .ref h0_generator_value, .ref h0_generator_message, .int c_generator_begun_3, .int c_generator_requests_6])), (h0_generator_key, .inl (cy 0, 32, .inl c_generator_key_4)), (h0_generator_message, .inl (cy 0, 97, .inl c_generator_message_5)), (h0_generator_value, .inl (cy 0, 32, .inl c_generator_value_7)), (h0_message, .inl (cy 0, 68, .inl c_message_8)), (h0_secret, .inl (cy 0, 80, .inl c_secret_29)), (h0_sha, .inr (9, [.ref h0_sha_sums, .ref h0_sha_schedule, .ref h0_sha_inner, .int c_sha_filled_10, .int c_sha_total_14])), (h0_sha_inner, .inl (cy 0, 32, .inl c_sha_inner_11)), (h0_sha_schedule, .inl (cy 1, 64, .inl c_sha_schedule_12)), (h0_sha_sums, .inl (cy 1, 8, .inl c_sha_sums_13)), (h0_slots, .inl (cy 4, 16, .inr (.inr (.inr (.inr (fun j => some (hP_o j))))))), (h0_words, .inr (3, [.ref h0_words_kept, .int c_words_count_15, .int c_words_healthy, .int c_words_last, .int c_words_row, .int c_words_first, .int c_words_placeInWindow, .int c_words_timesInWindow])), (h0_words_kept, .inl (cy 1, 64, .inl c_words_kept_16))] ++ zpl (cy 0) hP_o hP_k cP_kind_23 cP_length_24 cP_usage_26 cP_role_25 cP_uses_27 cPK_28) H := hP
    replace hD : va_D A ([(h0, .inr (11, [.ref h0_buffer, .ref h0_slots, .ref h0_counters, .ref h0_officerPin, .ref h0_userPin, .ref h0_words, .ref h0_sha, .ref h0_stream, .ref h0_aes, .ref h0_modes, .ref h0_gcm, .ref h0_generator, .ref h0_tests, .ref h0_message, .ref h0_secret, .int c_state, .int c_testsDone, .int c_faults, .int c_streamBegun])), (h0_buffer, .inl (cy 0, 512, .inl c_buffer)), (h0_counters, .inl (cy 1, 3, .inl c_counters)), (h0_generator, .inr (5, [.ref h0_sha, .ref h0_generator_key, .ref h0_generator_value, .ref h0_generator_message, .int c_generator_begun_3, .int c_generator_requests_6])), (h0_generator_key, .inl (cy 0, 32, .inl c_generator_key_4)), (h0_generator_message, .inl (cy 0, 97, .inl c_generator_message_5)), (h0_generator_value, .inl (cy 0, 32, .inl c_generator_value_7)), (h0_message, .inl (cy 0, 68, .inl c_message_8)), (h0_secret, .inl (cy 0, 80, .inl c_secret_29)), (h0_sha, .inr (9, [.ref h0_sha_sums, .ref h0_sha_schedule, .ref h0_sha_inner, .int c_sha_filled_10, .int c_sha_total_14])), (h0_sha_inner, .inl (cy 0, 32, .inl c_sha_inner_11)), (h0_sha_schedule, .inl (cy 1, 64, .inl c_sha_schedule_12)), (h0_sha_sums, .inl (cy 1, 8, .inl c_sha_sums_13)), (h0_slots, .inl (cy 4, 16, .inr (.inr (.inr (.inr (fun j => some (hP_o j))))))), (h0_words, .inr (3, [.ref h0_words_kept, .int c_words_count_15, .int c_words_healthy, .int c_words_last, .int c_words_row, .int c_words_first, .int c_words_placeInWindow, .int c_words_timesInWindow])), (h0_words_kept, .inl (cy 1, 64, .inl c_words_kept_16))] ++ zpl (cy 0) hP_o hP_k cP_kind_23 cP_length_24 cP_usage_26 cP_role_25 cP_uses_27 cPK_28) := hD
    refine W.eq (g2 := F0 m 74 ls []) rfl ?_
    refine lv_aload_n (pc := 74) hx hb (zdt_at zt_X9_make_0 40 rfl) rfl (lv_at hl 0 rfl) ?_
    refine lv_iload (pc := 75) hx hb (zdt_at zt_X9_make_0 41 rfl) (lv_at hl 7 rfl) ?_
    replace hf := zb_s hf
    obtain ⟨⟨r_30, c_counters_31⟩, hc_, hf⟩ := hf
    refine zcnQ (pc := 77) (X := [(h0, .inr (11, [.ref h0_buffer, .ref h0_slots, .ref h0_counters, .ref h0_officerPin, .ref h0_userPin, .ref h0_words, .ref h0_sha, .ref h0_stream, .ref h0_aes, .ref h0_modes, .ref h0_gcm, .ref h0_generator, .ref h0_tests, .ref h0_message, .ref h0_secret, .int c_state, .int c_testsDone, .int c_faults, .int c_streamBegun])), (h0_buffer, .inl (cy 0, 512, .inl c_buffer)), (h0_counters, .inl (cy 1, 3, .inl c_counters)), (h0_generator, .inr (5, [.ref h0_sha, .ref h0_generator_key, .ref h0_generator_value, .ref h0_generator_message, .int c_generator_begun_3, .int c_generator_requests_6])), (h0_generator_key, .inl (cy 0, 32, .inl c_generator_key_4)), (h0_generator_message, .inl (cy 0, 97, .inl c_generator_message_5)), (h0_generator_value, .inl (cy 0, 32, .inl c_generator_value_7)), (h0_message, .inl (cy 0, 68, .inl c_message_8)), (h0_secret, .inl (cy 0, 80, .inl c_secret_29)), (h0_sha, .inr (9, [.ref h0_sha_sums, .ref h0_sha_schedule, .ref h0_sha_inner, .int c_sha_filled_10, .int c_sha_total_14])), (h0_sha_inner, .inl (cy 0, 32, .inl c_sha_inner_11)), (h0_sha_schedule, .inl (cy 1, 64, .inl c_sha_schedule_12)), (h0_sha_sums, .inl (cy 1, 8, .inl c_sha_sums_13)), (h0_slots, .inl (cy 4, 16, .inr (.inr (.inr (.inr (fun j => some (hP_o j))))))), (h0_words, .inr (3, [.ref h0_words_kept, .int c_words_count_15, .int c_words_healthy, .int c_words_last, .int c_words_row, .int c_words_first, .int c_words_placeInWindow, .int c_words_timesInWindow])), (h0_words_kept, .inl (cy 1, 64, .inl c_words_kept_16))]) (rv := (some (.int r_30))) (va_runV (As := [.int v_2]) (rest := []) ⟨hx, hb, hml, hown, hts⟩ (c_X9_counted l D cy tt H.size h0 h0_buffer h0_slots h0_counters h0_officerPin h0_userPin h0_words h0_sha h0_stream h0_aes h0_modes h0_gcm h0_generator h0_tests h0_message h0_secret v_2 c_counters c_state c_testsDone c_faults c_streamBegun r_30 c_counters_31 hc_) (cwV 1 hts gX9_make_X9_counted rfl rfl rfl (by decide +kernel) ⟨Nat.le_of_ble_eq_true rfl, Nat.le_of_ble_eq_true rfl⟩) ⟨zblind, va_recv hK hP (ci := 11) (q0 := 0) rfl rfl, zpre hE hS (hP.sub [0, 2] rfl) (hD.sub [0, 2] (by decide) rfl) (va_free hD hS hA [0, 2] rfl)⟩ rfl rfl hl.1 rfl (lv_room (Nat.le_of_ble_eq_true rfl)) (zdt_at zt_X9_make_0 42 rfl) ⟨Nat.zero_le _, Nat.zero_le _⟩) hS hP hD (va_free hD hS hA [0, 2] rfl) [0, 2] rfl (by decide) rfl rfl ?_
    clear hP hD hS hc_
    intro H locs hP hD hS
    replace hP : va_P D vwCl ([(h0, .inr (11, [.ref h0_buffer, .ref h0_slots, .ref h0_counters, .ref h0_officerPin, .ref h0_userPin, .ref h0_words, .ref h0_sha, .ref h0_stream, .ref h0_aes, .ref h0_modes, .ref h0_gcm, .ref h0_generator, .ref h0_tests, .ref h0_message, .ref h0_secret, .int c_state, .int c_testsDone, .int c_faults, .int c_streamBegun])), (h0_buffer, .inl (cy 0, 512, .inl c_buffer)), (h0_counters, .inl (cy 1, 3, .inl c_counters_31)), (h0_generator, .inr (5, [.ref h0_sha, .ref h0_generator_key, .ref h0_generator_value, .ref h0_generator_message, .int c_generator_begun_3, .int c_generator_requests_6])), (h0_generator_key, .inl (cy 0, 32, .inl c_generator_key_4)), (h0_generator_message, .inl (cy 0, 97, .inl c_generator_message_5)), (h0_generator_value, .inl (cy 0, 32, .inl c_generator_value_7)), (h0_message, .inl (cy 0, 68, .inl c_message_8)), (h0_secret, .inl (cy 0, 80, .inl c_secret_29)), (h0_sha, .inr (9, [.ref h0_sha_sums, .ref h0_sha_schedule, .ref h0_sha_inner, .int c_sha_filled_10, .int c_sha_total_14])), (h0_sha_inner, .inl (cy 0, 32, .inl c_sha_inner_11)), (h0_sha_schedule, .inl (cy 1, 64, .inl c_sha_schedule_12)), (h0_sha_sums, .inl (cy 1, 8, .inl c_sha_sums_13)), (h0_slots, .inl (cy 4, 16, .inr (.inr (.inr (.inr (fun j => some (hP_o j))))))), (h0_words, .inr (3, [.ref h0_words_kept, .int c_words_count_15, .int c_words_healthy, .int c_words_last, .int c_words_row, .int c_words_first, .int c_words_placeInWindow, .int c_words_timesInWindow])), (h0_words_kept, .inl (cy 1, 64, .inl c_words_kept_16))] ++ zpl (cy 0) hP_o hP_k cP_kind_23 cP_length_24 cP_usage_26 cP_role_25 cP_uses_27 cPK_28) H := hP
    replace hD : va_D A ([(h0, .inr (11, [.ref h0_buffer, .ref h0_slots, .ref h0_counters, .ref h0_officerPin, .ref h0_userPin, .ref h0_words, .ref h0_sha, .ref h0_stream, .ref h0_aes, .ref h0_modes, .ref h0_gcm, .ref h0_generator, .ref h0_tests, .ref h0_message, .ref h0_secret, .int c_state, .int c_testsDone, .int c_faults, .int c_streamBegun])), (h0_buffer, .inl (cy 0, 512, .inl c_buffer)), (h0_counters, .inl (cy 1, 3, .inl c_counters_31)), (h0_generator, .inr (5, [.ref h0_sha, .ref h0_generator_key, .ref h0_generator_value, .ref h0_generator_message, .int c_generator_begun_3, .int c_generator_requests_6])), (h0_generator_key, .inl (cy 0, 32, .inl c_generator_key_4)), (h0_generator_message, .inl (cy 0, 97, .inl c_generator_message_5)), (h0_generator_value, .inl (cy 0, 32, .inl c_generator_value_7)), (h0_message, .inl (cy 0, 68, .inl c_message_8)), (h0_secret, .inl (cy 0, 80, .inl c_secret_29)), (h0_sha, .inr (9, [.ref h0_sha_sums, .ref h0_sha_schedule, .ref h0_sha_inner, .int c_sha_filled_10, .int c_sha_total_14])), (h0_sha_inner, .inl (cy 0, 32, .inl c_sha_inner_11)), (h0_sha_schedule, .inl (cy 1, 64, .inl c_sha_schedule_12)), (h0_sha_sums, .inl (cy 1, 8, .inl c_sha_sums_13)), (h0_slots, .inl (cy 4, 16, .inr (.inr (.inr (.inr (fun j => some (hP_o j))))))), (h0_words, .inr (3, [.ref h0_words_kept, .int c_words_count_15, .int c_words_healthy, .int c_words_last, .int c_words_row, .int c_words_first, .int c_words_placeInWindow, .int c_words_timesInWindow])), (h0_words_kept, .inl (cy 1, 64, .inl c_words_kept_16))] ++ zpl (cy 0) hP_o hP_k cP_kind_23 cP_length_24 cP_usage_26 cP_role_25 cP_uses_27 cPK_28) := hD
    refine W.eq (g2 := F0 m 80 ls [.int r_30]) rfl ?_
    cases hf
    exact W.iret (pc := 80) hx hb hr (fun t ht hW => ⟨rfl, ⟨by rw [ht]; exact hP, hD⟩, hS.F ht⟩) hS.2.2 (zdt_at zt_X9_make_0 43 rfl)
  clear eK_17
  refine lv_if_ne (pc := 17) (tgt := 43) hx hb (zdt_at zt_X9_make_0 10 rfl) (by decide) (fun cn_ => ?t_32) (fun cn_ => ?f_33)
  case t_32 =>
    replace hf := ze_s cn_ hf
    clear cn_
    exact hTo _ _ _ (kK_17 _ _ _ _ _ _ _ _ _ _ _ _ _ _ _ H locs ls hP hD hS (lv_sub hl [1, 2, 3, 4, 5, 6, 7, 0] rfl) hf)
  replace hf := zt_s cn_ hf
  clear cn_
  refine lv_aload_n (pc := 20) hx hb (zdt_at zt_X9_make_0 11 rfl) rfl (lv_at hl 1 rfl) ?_
  refine lv_aload_n (pc := 21) hx hb (zdt_at zt_X9_make_0 12 rfl) rfl (lv_at hl 1 rfl) ?_
  refine va_get (pc := 22) (D := D) (ci := 11) (v := .ref h0_secret) (C := RX9) (T := TX9) (N := 19) hx hb hts hcX9 hown hK hP 0 rfl rfl 14 (by decide) hw1 (fun _ h9 => h9) rfl (zdt_at zt_X9_make_0 13 rfl) ?_
  refine lv_iconst (pc := 25) (v := (0 : Int32)) hx hb (zdt_at zt_X9_make_0 14 rfl) (by decide) ?_
  refine lv_iload (pc := 26) hx hb (zdt_at zt_X9_make_0 15 rfl) (lv_at hl 7 rfl) ?_
  refine lv_iconst (pc := 28) (v := (0 : Int32)) hx hb (zdt_at zt_X9_make_0 16 rfl) (by decide) ?_
  replace hf := zb_s hf
  obtain ⟨⟨r_34, c_generator_begun_35, c_generator_requests_36, c_generator_key_37, c_generator_message_38, c_generator_value_39, c_message_40, c_secret_41, c_sha_filled_42, c_sha_total_43, c_sha_inner_44, c_sha_schedule_45, c_sha_sums_46, c_words_count_47, c_words_kept_48⟩, hc_, hf⟩ := hf
  refine zcnQ (pc := 29) (X := [(h0, .inr (11, [.ref h0_buffer, .ref h0_slots, .ref h0_counters, .ref h0_officerPin, .ref h0_userPin, .ref h0_words, .ref h0_sha, .ref h0_stream, .ref h0_aes, .ref h0_modes, .ref h0_gcm, .ref h0_generator, .ref h0_tests, .ref h0_message, .ref h0_secret, .int c_state, .int c_testsDone, .int c_faults, .int c_streamBegun])), (h0_buffer, .inl (cy 0, 512, .inl c_buffer)), (h0_counters, .inl (cy 1, 3, .inl c_counters)), (h0_generator, .inr (5, [.ref h0_sha, .ref h0_generator_key, .ref h0_generator_value, .ref h0_generator_message, .int c_generator_begun, .int c_generator_requests])), (h0_generator_key, .inl (cy 0, 32, .inl c_generator_key)), (h0_generator_message, .inl (cy 0, 97, .inl c_generator_message)), (h0_generator_value, .inl (cy 0, 32, .inl c_generator_value)), (h0_message, .inl (cy 0, 68, .inl c_message)), (h0_secret, .inl (cy 0, 80, .inl c_secret)), (h0_sha, .inr (9, [.ref h0_sha_sums, .ref h0_sha_schedule, .ref h0_sha_inner, .int c_sha_filled, .int c_sha_total])), (h0_sha_inner, .inl (cy 0, 32, .inl c_sha_inner)), (h0_sha_schedule, .inl (cy 1, 64, .inl c_sha_schedule)), (h0_sha_sums, .inl (cy 1, 8, .inl c_sha_sums)), (h0_slots, .inl (cy 4, 16, .inr (.inr (.inr (.inr (fun j => some (hP_o j))))))), (h0_words, .inr (3, [.ref h0_words_kept, .int c_words_count, .int c_words_healthy, .int c_words_last, .int c_words_row, .int c_words_first, .int c_words_placeInWindow, .int c_words_timesInWindow])), (h0_words_kept, .inl (cy 1, 64, .inl c_words_kept))]) (rv := (some (.int r_34))) (va_runV (As := [.ref h0_secret, .int (0 : Int32), .int p6, .int (0 : Int32)]) (rest := []) ⟨hx, hb, hml, hown, hts⟩ (c_X9_drawn_1t_secret l D cy tt H.size h0 h0_buffer h0_slots h0_counters h0_officerPin h0_userPin h0_words h0_sha h0_stream h0_aes h0_modes h0_gcm h0_generator h0_tests h0_message h0_secret h0_generator_key h0_generator_value h0_generator_message h0_sha_sums h0_sha_schedule h0_sha_inner h0_words_kept (0 : Int32) p6 (0 : Int32) c_buffer c_generator_begun c_generator_requests c_generator_key c_generator_message c_generator_value c_message c_secret c_sha_filled c_sha_total c_sha_inner c_sha_schedule c_sha_sums c_words_count c_words_healthy c_words_kept c_state c_testsDone c_faults c_streamBegun c_words_last c_words_row c_words_first c_words_placeInWindow c_words_timesInWindow r_34 c_generator_begun_35 c_generator_requests_36 c_generator_key_37 c_generator_message_38 c_generator_value_39 c_message_40 c_secret_41 c_sha_filled_42 c_sha_total_43 c_sha_inner_44 c_sha_schedule_45 c_sha_sums_46 c_words_count_47 c_words_kept_48 hc_) (cwV 4 hts gX9_make_X9_drawn rfl rfl rfl (by decide +kernel) ⟨Nat.le_of_ble_eq_true rfl, Nat.le_of_ble_eq_true rfl⟩) ⟨zblind, va_recv hK hP (ci := 11) (q0 := 0) rfl rfl, zpre hE hS (hP.sub [0, 1, 3, 4, 5, 6, 7, 8, 9, 10, 11, 12, 14, 15] rfl) (hD.sub [0, 1, 3, 4, 5, 6, 7, 8, 9, 10, 11, 12, 14, 15] (by decide) rfl) (va_free hD hS hA [0, 1, 3, 4, 5, 6, 7, 8, 9, 10, 11, 12, 14, 15] rfl)⟩ rfl rfl hl.1 rfl (lv_room (Nat.le_of_ble_eq_true rfl)) (zdt_at zt_X9_make_0 17 rfl) ⟨Nat.zero_le _, Nat.zero_le _⟩) hS hP hD (va_free hD hS hA [0, 1, 3, 4, 5, 6, 7, 8, 9, 10, 11, 12, 14, 15] rfl) [0, 1, 3, 4, 5, 6, 7, 8, 9, 10, 11, 12, 14, 15] rfl (by decide) rfl rfl ?_
  clear hP hD hS hc_
  intro H locs hP hD hS
  replace hP : va_P D vwCl ([(h0, .inr (11, [.ref h0_buffer, .ref h0_slots, .ref h0_counters, .ref h0_officerPin, .ref h0_userPin, .ref h0_words, .ref h0_sha, .ref h0_stream, .ref h0_aes, .ref h0_modes, .ref h0_gcm, .ref h0_generator, .ref h0_tests, .ref h0_message, .ref h0_secret, .int c_state, .int c_testsDone, .int c_faults, .int c_streamBegun])), (h0_buffer, .inl (cy 0, 512, .inl c_buffer)), (h0_counters, .inl (cy 1, 3, .inl c_counters)), (h0_generator, .inr (5, [.ref h0_sha, .ref h0_generator_key, .ref h0_generator_value, .ref h0_generator_message, .int c_generator_begun_35, .int c_generator_requests_36])), (h0_generator_key, .inl (cy 0, 32, .inl c_generator_key_37)), (h0_generator_message, .inl (cy 0, 97, .inl c_generator_message_38)), (h0_generator_value, .inl (cy 0, 32, .inl c_generator_value_39)), (h0_message, .inl (cy 0, 68, .inl c_message_40)), (h0_secret, .inl (cy 0, 80, .inl c_secret_41)), (h0_sha, .inr (9, [.ref h0_sha_sums, .ref h0_sha_schedule, .ref h0_sha_inner, .int c_sha_filled_42, .int c_sha_total_43])), (h0_sha_inner, .inl (cy 0, 32, .inl c_sha_inner_44)), (h0_sha_schedule, .inl (cy 1, 64, .inl c_sha_schedule_45)), (h0_sha_sums, .inl (cy 1, 8, .inl c_sha_sums_46)), (h0_slots, .inl (cy 4, 16, .inr (.inr (.inr (.inr (fun j => some (hP_o j))))))), (h0_words, .inr (3, [.ref h0_words_kept, .int c_words_count_47, .int c_words_healthy, .int c_words_last, .int c_words_row, .int c_words_first, .int c_words_placeInWindow, .int c_words_timesInWindow])), (h0_words_kept, .inl (cy 1, 64, .inl c_words_kept_48))] ++ zpl (cy 0) hP_o hP_k cP_kind cP_length cP_usage cP_role cP_uses cPK) H := hP
  replace hD : va_D A ([(h0, .inr (11, [.ref h0_buffer, .ref h0_slots, .ref h0_counters, .ref h0_officerPin, .ref h0_userPin, .ref h0_words, .ref h0_sha, .ref h0_stream, .ref h0_aes, .ref h0_modes, .ref h0_gcm, .ref h0_generator, .ref h0_tests, .ref h0_message, .ref h0_secret, .int c_state, .int c_testsDone, .int c_faults, .int c_streamBegun])), (h0_buffer, .inl (cy 0, 512, .inl c_buffer)), (h0_counters, .inl (cy 1, 3, .inl c_counters)), (h0_generator, .inr (5, [.ref h0_sha, .ref h0_generator_key, .ref h0_generator_value, .ref h0_generator_message, .int c_generator_begun_35, .int c_generator_requests_36])), (h0_generator_key, .inl (cy 0, 32, .inl c_generator_key_37)), (h0_generator_message, .inl (cy 0, 97, .inl c_generator_message_38)), (h0_generator_value, .inl (cy 0, 32, .inl c_generator_value_39)), (h0_message, .inl (cy 0, 68, .inl c_message_40)), (h0_secret, .inl (cy 0, 80, .inl c_secret_41)), (h0_sha, .inr (9, [.ref h0_sha_sums, .ref h0_sha_schedule, .ref h0_sha_inner, .int c_sha_filled_42, .int c_sha_total_43])), (h0_sha_inner, .inl (cy 0, 32, .inl c_sha_inner_44)), (h0_sha_schedule, .inl (cy 1, 64, .inl c_sha_schedule_45)), (h0_sha_sums, .inl (cy 1, 8, .inl c_sha_sums_46)), (h0_slots, .inl (cy 4, 16, .inr (.inr (.inr (.inr (fun j => some (hP_o j))))))), (h0_words, .inr (3, [.ref h0_words_kept, .int c_words_count_47, .int c_words_healthy, .int c_words_last, .int c_words_row, .int c_words_first, .int c_words_placeInWindow, .int c_words_timesInWindow])), (h0_words_kept, .inl (cy 1, 64, .inl c_words_kept_48))] ++ zpl (cy 0) hP_o hP_k cP_kind cP_length cP_usage cP_role cP_uses cPK) := hD
  refine W.eq (g2 := F0 m 32 ls [.int r_34]) rfl ?_
  replace hf := zj_s hf
  obtain ⟨K_50, eK_50, hf⟩ := hf
  have kK_50 : ∀ (v_49 : Int32) (H : Heap) (locs : List Loc) (ls : Array Slot), va_P D vwCl ([(h0, .inr (11, [.ref h0_buffer, .ref h0_slots, .ref h0_counters, .ref h0_officerPin, .ref h0_userPin, .ref h0_words, .ref h0_sha, .ref h0_stream, .ref h0_aes, .ref h0_modes, .ref h0_gcm, .ref h0_generator, .ref h0_tests, .ref h0_message, .ref h0_secret, .int c_state, .int c_testsDone, .int c_faults, .int c_streamBegun])), (h0_buffer, .inl (cy 0, 512, .inl c_buffer)), (h0_counters, .inl (cy 1, 3, .inl c_counters)), (h0_generator, .inr (5, [.ref h0_sha, .ref h0_generator_key, .ref h0_generator_value, .ref h0_generator_message, .int c_generator_begun_35, .int c_generator_requests_36])), (h0_generator_key, .inl (cy 0, 32, .inl c_generator_key_37)), (h0_generator_message, .inl (cy 0, 97, .inl c_generator_message_38)), (h0_generator_value, .inl (cy 0, 32, .inl c_generator_value_39)), (h0_message, .inl (cy 0, 68, .inl c_message_40)), (h0_secret, .inl (cy 0, 80, .inl c_secret_41)), (h0_sha, .inr (9, [.ref h0_sha_sums, .ref h0_sha_schedule, .ref h0_sha_inner, .int c_sha_filled_42, .int c_sha_total_43])), (h0_sha_inner, .inl (cy 0, 32, .inl c_sha_inner_44)), (h0_sha_schedule, .inl (cy 1, 64, .inl c_sha_schedule_45)), (h0_sha_sums, .inl (cy 1, 8, .inl c_sha_sums_46)), (h0_slots, .inl (cy 4, 16, .inr (.inr (.inr (.inr (fun j => some (hP_o j))))))), (h0_words, .inr (3, [.ref h0_words_kept, .int c_words_count_47, .int c_words_healthy, .int c_words_last, .int c_words_row, .int c_words_first, .int c_words_placeInWindow, .int c_words_timesInWindow])), (h0_words_kept, .inl (cy 1, 64, .inl c_words_kept_48))] ++ zpl (cy 0) hP_o hP_k cP_kind cP_length cP_usage cP_role cP_uses cPK) H → va_D A ([(h0, .inr (11, [.ref h0_buffer, .ref h0_slots, .ref h0_counters, .ref h0_officerPin, .ref h0_userPin, .ref h0_words, .ref h0_sha, .ref h0_stream, .ref h0_aes, .ref h0_modes, .ref h0_gcm, .ref h0_generator, .ref h0_tests, .ref h0_message, .ref h0_secret, .int c_state, .int c_testsDone, .int c_faults, .int c_streamBegun])), (h0_buffer, .inl (cy 0, 512, .inl c_buffer)), (h0_counters, .inl (cy 1, 3, .inl c_counters)), (h0_generator, .inr (5, [.ref h0_sha, .ref h0_generator_key, .ref h0_generator_value, .ref h0_generator_message, .int c_generator_begun_35, .int c_generator_requests_36])), (h0_generator_key, .inl (cy 0, 32, .inl c_generator_key_37)), (h0_generator_message, .inl (cy 0, 97, .inl c_generator_message_38)), (h0_generator_value, .inl (cy 0, 32, .inl c_generator_value_39)), (h0_message, .inl (cy 0, 68, .inl c_message_40)), (h0_secret, .inl (cy 0, 80, .inl c_secret_41)), (h0_sha, .inr (9, [.ref h0_sha_sums, .ref h0_sha_schedule, .ref h0_sha_inner, .int c_sha_filled_42, .int c_sha_total_43])), (h0_sha_inner, .inl (cy 0, 32, .inl c_sha_inner_44)), (h0_sha_schedule, .inl (cy 1, 64, .inl c_sha_schedule_45)), (h0_sha_sums, .inl (cy 1, 8, .inl c_sha_sums_46)), (h0_slots, .inl (cy 4, 16, .inr (.inr (.inr (.inr (fun j => some (hP_o j))))))), (h0_words, .inr (3, [.ref h0_words_kept, .int c_words_count_47, .int c_words_healthy, .int c_words_last, .int c_words_row, .int c_words_first, .int c_words_placeInWindow, .int c_words_timesInWindow])), (h0_words_kept, .inl (cy 1, 64, .inl c_words_kept_48))] ++ zpl (cy 0) hP_o hP_k cP_kind cP_length cP_usage cP_role cP_uses cPK) → va_S A s.heap H locs → lv_has ls 8 [(0, .ref h0), (1, .int p1), (2, .int p2), (3, .int p3), (4, .int p4), (5, .int p5), (6, .int p6)] → K_50 v_49 = some (r_, c_counters', c_generator_begun', c_generator_requests', c_generator_key', c_generator_message', c_generator_value', c_message', c_secret', c_sha_filled', c_sha_total', c_sha_inner', c_sha_schedule', c_sha_sums', c_words_count', c_words_kept', cP_kind', cP_length', cP_role', cP_usage', cP_uses', cPK') → GW H locs (F0 m 41 ls [.int v_49]) := by
    clear hf hl hP hD hS
    intro v_49 H locs ls hP hD hS hl hf
    rw [eK_50] at hf
    clear eK_50
    refine hFr _ _ _ ?_
    refine lv_istore (pc := 41) (lv' := [(7, .int v_49), (0, .ref h0), (1, .int p1), (2, .int p2), (3, .int p3), (4, .int p4), (5, .int p5), (6, .int p6)]) hx hb (zdt_at zt_X9_make_0 22 rfl) hl (by decide) rfl ?_
    clear hl
    intro ls hl
    exact hTo _ _ _ (kK_17 _ _ _ _ _ _ _ _ _ _ _ _ _ _ _ H locs ls hP hD hS (lv_sub hl [1, 2, 3, 4, 5, 6, 7, 0] rfl) hf)
  clear eK_50
  refine lv_if_eq (pc := 32) (tgt := 39) hx hb (zdt_at zt_X9_make_0 18 rfl) (by decide) (fun cn_ => ?t_51) (fun cn_ => ?f_52)
  case t_51 =>
    replace hf := zt_s cn_ hf
    clear cn_
    refine lv_bipush (pc := 39) (v := (-8 : Int32)) hx hb (zdt_at zt_X9_make_0 21 rfl) (by decide) ?_
    exact hTo _ _ _ (kK_50 _ H locs ls hP hD hS (lv_sub hl [1, 2, 3, 4, 5, 6, 7] rfl) hf)
  replace hf := ze_s cn_ hf
  clear cn_
  refine lv_iconst (pc := 35) (v := (0 : Int32)) hx hb (zdt_at zt_X9_make_0 19 rfl) (by decide) ?_
  refine lv_goto (pc := 36) (tgt := 41) hx hb (zdt_at zt_X9_make_0 20 rfl) (by decide) ?_
  exact hTo _ _ _ (kK_50 _ H locs ls hP hD hS (lv_sub hl [1, 2, 3, 4, 5, 6, 7] rfl) hf)
