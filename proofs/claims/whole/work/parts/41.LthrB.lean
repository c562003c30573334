section ZK
variable {p : Program} {l : Launch} {e : Env} {R : Room} {s : State} {m : MethodId} {args : Array Value} {below : List Frame} {meth : Method} {c : Code} {H : Heap} {locs : List Loc} {cells slots : Nat} {Q : State → Prop} {pc : Nat} {ls : Array Slot} {rest : List Value}
theorem zcatch1t {own name E : String} {ce : Cell} {q : Addr} {x : ExceptionTableEntry} {tl : List ExceptionTableEntry} (hown : s.vm.findClass own = some m.cls) (htab : c.exceptionTable.toList = x :: tl) (hx : covers x pc = true) (h0 : x.catchType ≠ 0)
    (hlink : (Cond.classLink own x.catchType name).before args s = true) (hcast : (Cond.castable E name).before args s = true) (hcell : H[q]? = some ce) (hv : ce.vm = .none) (hcl : s.vm.findClass E = some ce.cls)
    (kk : W p l e R s m args below meth c H locs cells slots Q (F0 m x.handlerPc ls [.ref q])) : vx_W p l e R s m args below meth c H locs cells slots Q (F0 m pc ls rest) q := by
  intro T hT X
  have hpl : e.platform.magicAccessors = ({} : Platform).magicAccessors := by rw [X.admits.platform]
  obtain ⟨c3, c4, hc3, hc4, hasg⟩ := Cond.castable_spec hcast
  cases Option.some.inj (hc3.symm.trans hcl)
  obtain ⟨c5, hc5, hl5⟩ := Cond.classLink_spec hown hlink e.platform hpl
  cases Option.some.inj (hc4.symm.trans hc5)
  obtain ⟨k9, h9, -⟩ := Vm.findClass_spec hcl
  obtain ⟨vm', hW', hq⟩ := zh_row (e := e) (s₀ := s) (S := (T.setTop (F0 m pc ls rest)).pushFrame (.throwing q)) (f := F0 m pc ls rest) (a := q) (t := tl) X.warmed (by show T.heap[q]? = _; rw [hT]; exact hcell) (by rw [hv]; rfl) ⟨k9, h9⟩ hx h0 hl5 hasg
  obtain ⟨t, a1, b1⟩ := kk (T.setVm vm') hT (X.noted hW')
  refine ⟨t, zh_go (pc := x.handlerPc) (vm' := vm') X.here (fun Q E d acts => ?_) a1, b1⟩
  rw [W.findHandler_eq X.method' X.code, htab, hq, if_pos rfl]
end ZK
set_option maxHeartbeats 4000000 in
set_option maxRecDepth 100000 in
theorem Lt_peek (l_ : Launch) (hlt : l_.stackTraces = false) (tx : Nat → Nat) (D : va_G) (cy : Nat → ClassId) (tt : Nat → Nat) (sz : Nat) (h0 : Nat) (h0_buffer : Nat) (h0_slots : Nat) (h0_counters : Nat) (h0_officerPin : Nat) (h0_userPin : Nat) (h0_words : Nat) (h0_sha : Nat) (h0_stream : Nat) (h0_aes : Nat) (h0_modes : Nat) (h0_gcm : Nat) (h0_generator : Nat) (h0_tests : Nat) (h0_message : Nat) (h0_secret : Nat) (p1 : Int32) (c_state : Int32) (c_buffer : Nat → Int32) (c_testsDone : Int32) (c_faults : Int32) (c_streamBegun : Int32) (hO : Nat) (hf : t_X9_peek p1 = some ()) : vx_Met l_ yL_peek wsL_peek ({ frames := 7, cells := 1, slots := 6, locals := 103 }) (fun a U => zPc D cy tt sz [.ref h0, .int p1, .ref hO] ([(h0, .inr (11, [.ref h0_buffer, .ref h0_slots, .ref h0_counters, .ref h0_officerPin, .ref h0_userPin, .ref h0_words, .ref h0_sha, .ref h0_stream, .ref h0_aes, .ref h0_modes, .ref h0_gcm, .ref h0_generator, .ref h0_tests, .ref h0_message, .ref h0_secret, .int c_state, .int c_testsDone, .int c_faults, .int c_streamBegun])), (h0_buffer, .inl (cy 0, 512, .inl c_buffer))]) a U ∧ gX tx (va_A ([(h0, .inr (11, [.ref h0_buffer, .ref h0_slots, .ref h0_counters, .ref h0_officerPin, .ref h0_userPin, .ref h0_words, .ref h0_sha, .ref h0_stream, .ref h0_aes, .ref h0_modes, .ref h0_gcm, .ref h0_generator, .ref h0_tests, .ref h0_message, .ref h0_secret, .int c_state, .int c_testsDone, .int c_faults, .int c_streamBegun])), (h0_buffer, .inl (cy 0, 512, .inl c_buffer))]) sz) U) (zQ D (some (.int 1)) ([(h0, .inr (11, [.ref h0_buffer, .ref h0_slots, .ref h0_counters, .ref h0_officerPin, .ref h0_userPin, .ref h0_words, .ref h0_sha, .ref h0_stream, .ref h0_aes, .ref h0_modes, .ref h0_gcm, .ref h0_generator, .ref h0_tests, .ref h0_message, .ref h0_secret, .int c_state, .int c_testsDone, .int c_faults, .int c_streamBegun])), (h0_buffer, .inl (cy 0, 512, .inl c_buffer))]) (va_A ([(h0, .inr (11, [.ref h0_buffer, .ref h0_slots, .ref h0_counters, .ref h0_officerPin, .ref h0_userPin, .ref h0_words, .ref h0_sha, .ref h0_stream, .ref h0_aes, .ref h0_modes, .ref h0_gcm, .ref h0_generator, .ref h0_tests, .ref h0_message, .ref h0_secret, .int c_state, .int c_testsDone, .int c_faults, .int c_streamBegun])), (h0_buffer, .inl (cy 0, 512, .inl c_buffer))]) sz)) (fun _ _ _ => False) 1 6 (va_A ([(h0, .inr (11, [.ref h0_buffer, .ref h0_slots, .ref h0_counters, .ref h0_officerPin, .ref h0_userPin, .ref h0_words, .ref h0_sha, .ref h0_stream, .ref h0_aes, .ref h0_modes, .ref h0_gcm, .ref h0_generator, .ref h0_tests, .ref h0_message, .ref h0_secret, .int c_state, .int c_testsDone, .int c_faults, .int c_streamBegun])), (h0_buffer, .inl (cy 0, 512, .inl c_buffer))]) sz) := by
  refine vx_ofWH (cc := cL_peek) (maxL := 4) (ret := some .int) (by decide) rfl ?_
  intro p e s m args below meth c s₁ B hml hv
  obtain ⟨⟨rfl, rfl, hP, hD0, hE⟩, hX⟩ := hv
  have hx := B.exec
  have hb := B.bytes
  have hr := B.returns
  have hts := atoms_spec (ws := wsL_peek) B.pre
  have hown : s.vm.findClass RL = some m.cls := findClass_of_methodNamed B.named
  have htab := vx_table (x := yL_fault) B (hts _ List.mem_cons_self)
  have hlocks := B.notSynchronized
  clear B
  refine vx_ret ?_
  have hD := hD0.self (sz := s.heap.size)
  generalize hAe : va_A ([(h0, .inr (11, [.ref h0_buffer, .ref h0_slots, .ref h0_counters, .ref h0_officerPin, .ref h0_userPin, .ref h0_words, .ref h0_sha, .ref h0_stream, .ref h0_aes, .ref h0_modes, .ref h0_gcm, .ref h0_generator, .ref h0_tests, .ref h0_message, .ref h0_secret, .int c_state, .int c_testsDone, .int c_faults, .int c_streamBegun])), (h0_buffer, .inl (cy 0, 512, .inl c_buffer))]) s.heap.size = A at hD hE hX ⊢
  have hA : ∀ q : Nat, s.heap.size ≤ q → A q := fun q h => by rw [← hAe]; exact Or.inr h
  have hFc : ∀ q, va_A ([(h0, .inr (11, [.ref h0_buffer, .ref h0_slots, .ref h0_counters, .ref h0_officerPin, .ref h0_userPin, .ref h0_words, .ref h0_sha, .ref h0_stream, .ref h0_aes, .ref h0_modes, .ref h0_gcm, .ref h0_generator, .ref h0_tests, .ref h0_message, .ref h0_secret, .int c_state, .int c_testsDone, .int c_faults, .int c_streamBegun])), (h0_buffer, .inl (cy 0, 512, .inl c_buffer))]) s.heap.size q → A q := fun q h => by rw [← hAe]; exact h
  clear hAe hD0
  have hS : va_S A s.heap s.heap [] := va_S.rf
  have hK := hE.1
  have hl := lv_entry ([.ref h0, .int p1, .ref hO]) (n := 4) (Nat.le_of_ble_eq_true rfl)
  rw [lg_entry_eq]
  generalize (lg_sl ([.ref h0, .int p1, .ref hO]) ++ List.replicate (4 - (lg_sl ([.ref h0, .int p1, .ref hO])).length) Slot.unset).toArray = ls at hl ⊢
  replace hl : lv_has ls 4 [(0, .ref h0), (1, .int p1), (2, .ref hO)] := hl
  refine lv_aload_n (pc := 0) hx hb dL_peek_0 rfl (lv_at hl 2 rfl) ?_
  refine lv_iconst (pc := 1) (v := (0 : Int32)) hx hb dL_peek_1 (by decide) ?_
  refine lv_aload_n (pc := 2) hx hb dL_peek_2 rfl (lv_at hl 0 rfl) ?_
  refine lv_iload_n (pc := 3) hx hb dL_peek_3 rfl (lv_at hl 1 rfl) ?_
  refine zthr (pc := 4) (rest := [.int (0 : Int32), .ref hO]) (vx_runV (As := [.int p1]) (rest := [.int (0 : Int32), .ref hO]) ⟨hx, hb, hml, hown, hts⟩ (t_c_X9_peek l_ hlt tx D cy tt s.heap.size h0 h0_buffer h0_slots h0_counters h0_officerPin h0_userPin h0_words h0_sha h0_stream h0_aes h0_modes h0_gcm h0_generator h0_tests h0_message h0_secret p1 c_state c_buffer c_testsDone c_faults c_streamBegun hf) (cwV 1 hts gL_peek_X9_peek rfl rfl rfl (by decide +kernel) ⟨Nat.le_of_ble_eq_true rfl, Nat.le_of_ble_eq_true rfl⟩) ⟨zblindX, va_recv hK hP (ci := 11) (q0 := 0) rfl rfl, zpreX hE hX hS hP hD hFc⟩ rfl rfl hl.1 rfl (lv_room (Nat.le_of_ble_eq_true rfl)) dL_peek_4 ⟨Nat.le_of_ble_eq_true rfl, Nat.le_of_ble_eq_true rfl⟩) hS hFc hP (fun ce q9 H locs hP_ hS_ _ hce hcv hcl => ?_)
  clear hFc
  refine zcatch1 (pc := 4) (own := RL) (name := "java/lang/IllegalArgumentException") (E := "java/lang/IllegalArgumentException") hown htab rfl (by decide) (hts (.classLink RL 13 "java/lang/IllegalArgumentException") (by decide +kernel)) (hX.2.2.1 _ _ (by decide +kernel)) hce hcv hcl ?_
  refine lv_astore_n (pc := 11) (lv' := [(3, .ref q9), (0, .ref h0), (1, .int p1), (2, .ref hO)]) hx hb dL_peek_11 rfl hl (by decide) rfl ?_
  clear hl
  intro ls hl
  refine lv_iconst (pc := 12) (v := (1 : Int32)) hx hb dL_peek_12 (by decide) ?_
  exact W.iret (pc := 13) hx hb hr (fun t ht hW => ⟨rfl, ⟨by rw [ht]; exact hP_, hD⟩, hS_.F ht⟩) hS_.2.2 dL_peek_13
set_option maxHeartbeats 4000000 in
set_option maxRecDepth 100000 in
theorem Lt_logout (l_ : Launch) (hlt : l_.stackTraces = false) (tx : Nat → Nat) (D : va_G) (cy : Nat → ClassId) (tt : Nat → Nat) (sz : Nat) (h0 : Nat) (h0_buffer : Nat) (h0_slots : Nat) (h0_counters : Nat) (h0_officerPin : Nat) (h0_userPin : Nat) (h0_words : Nat) (h0_sha : Nat) (h0_stream : Nat) (h0_aes : Nat) (h0_modes : Nat) (h0_gcm : Nat) (h0_generator : Nat) (h0_tests : Nat) (h0_message : Nat) (h0_secret : Nat) (c_state : Int32) (c_streamBegun : Int32) (c_testsDone : Int32) (c_faults : Int32) (hf : t_X9_logout c_state = some ()) : vx_Met l_ yL_logout wsL_logout ({ frames := 7, cells := 1, slots := 6, locals := 102 }) (fun a U => zPc D cy tt sz [.ref h0] ([(h0, .inr (11, [.ref h0_buffer, .ref h0_slots, .ref h0_counters, .ref h0_officerPin, .ref h0_userPin, .ref h0_words, .ref h0_sha, .ref h0_stream, .ref h0_aes, .ref h0_modes, .ref h0_gcm, .ref h0_generator, .ref h0_tests, .ref h0_message, .ref h0_secret, .int c_state, .int c_testsDone, .int c_faults, .int c_streamBegun]))]) a U ∧ gX tx (va_A ([(h0, .inr (11, [.ref h0_buffer, .ref h0_slots, .ref h0_counters, .ref h0_officerPin, .ref h0_userPin, .ref h0_words, .ref h0_sha, .ref h0_stream, .ref h0_aes, .ref h0_modes, .ref h0_gcm, .ref h0_generator, .ref h0_tests, .ref h0_message, .ref h0_secret, .int c_state, .int c_testsDone, .int c_faults, .int c_streamBegun]))]) sz) U) (zQ D (some (.int 1)) ([(h0, .inr (11, [.ref h0_buffer, .ref h0_slots, .ref h0_counters, .ref h0_officerPin, .ref h0_userPin, .ref h0_words, .ref h0_sha, .ref h0_stream, .ref h0_aes, .ref h0_modes, .ref h0_gcm, .ref h0_generator, .ref h0_tests, .ref h0_message, .ref h0_secret, .int c_state, .int c_testsDone, .int c_faults, .int c_streamBegun]))]) (va_A ([(h0, .inr (11, [.ref h0_buffer, .ref h0_slots, .ref h0_counters, .ref h0_officerPin, .ref h0_userPin, .ref h0_words, .ref h0_sha, .ref h0_stream, .ref h0_aes, .ref h0_modes, .ref h0_gcm, .ref h0_generator, .ref h0_tests, .ref h0_message, .ref h0_secret, .int c_state, .int c_testsDone, .int c_faults, .int c_streamBegun]))]) sz)) (fun _ _ _ => False) 1 6 (va_A ([(h0, .inr (11, [.ref h0_buffer, .ref h0_slots, .ref h0_counters, .ref h0_officerPin, .ref h0_userPin, .ref h0_words, .ref h0_sha, .ref h0_stream, .ref h0_aes, .ref h0_modes, .ref h0_gcm, .ref h0_generator, .ref h0_tests, .ref h0_message, .ref h0_secret, .int c_state, .int c_testsDone, .int c_faults, .int c_streamBegun]))]) sz) := by
  refine vx_ofWH (cc := cL_logout) (maxL := 2) (ret := some .int) (by decide) rfl ?_
  intro p e s m args below meth c s₁ B hml hv
  obtain ⟨⟨rfl, rfl, hP, hD0, hE⟩, hX⟩ := hv
  have hx := B.exec
  have hb := B.bytes
  have hr := B.returns
  have hts := atoms_spec (ws := wsL_logout) B.pre
  have hown : s.vm.findClass RL = some m.cls := findClass_of_methodNamed B.named
  have htab := vx_table (x := yL_fault) B (hts _ List.mem_cons_self)
  have hlocks := B.notSynchronized
  clear B
  refine vx_ret ?_
  have hD := hD0.self (sz := s.heap.size)
  generalize hAe : va_A ([(h0, .inr (11, [.ref h0_buffer, .ref h0_slots, .ref h0_counters, .ref h0_officerPin, .ref h0_userPin, .ref h0_words, .ref h0_sha, .ref h0_stream, .ref h0_aes, .ref h0_modes, .ref h0_gcm, .ref h0_generator, .ref h0_tests, .ref h0_message, .ref h0_secret, .int c_state, .int c_testsDone, .int c_faults, .int c_streamBegun]))]) s.heap.size = A at hD hE hX ⊢
  have hA : ∀ q : Nat, s.heap.size ≤ q → A q := fun q h => by rw [← hAe]; exact Or.inr h
  have hFc : ∀ q, va_A ([(h0, .inr (11, [.ref h0_buffer, .ref h0_slots, .ref h0_counters, .ref h0_officerPin, .ref h0_userPin, .ref h0_words, .ref h0_sha, .ref h0_stream, .ref h0_aes, .ref h0_modes, .ref h0_gcm, .ref h0_generator, .ref h0_tests, .ref h0_message, .ref h0_secret, .int c_state, .int c_testsDone, .int c_faults, .int c_streamBegun]))]) s.heap.size q → A q := fun q h => by rw [← hAe]; exact h
  clear hAe hD0
  have hS : va_S A s.heap s.heap [] := va_S.rf
  have hK := hE.1
  have hl := lv_entry ([.ref h0]) (n := 2) (Nat.le_of_ble_eq_true rfl)
  rw [lg_entry_eq]
  generalize (lg_sl ([.ref h0]) ++ List.replicate (2 - (lg_sl ([.ref h0])).length) Slot.unset).toArray = ls at hl ⊢
  replace hl : lv_has ls 2 [(0, .ref h0)] := hl
  refine lv_aload_n (pc := 0) hx hb dL_logout_0 rfl (lv_at hl 0 rfl) ?_
  refine zthr (pc := 1) (rest := []) (vx_runV (As := []) (rest := []) ⟨hx, hb, hml, hown, hts⟩ (t_c_X9_logout l_ hlt tx D cy tt s.heap.size h0 h0_buffer h0_slots h0_counters h0_officerPin h0_userPin h0_words h0_sha h0_stream h0_aes h0_modes h0_gcm h0_generator h0_tests h0_message h0_secret c_state c_streamBegun c_testsDone c_faults hf) (cwV 0 hts gL_logout_X9_logout rfl rfl rfl (by decide +kernel) ⟨Nat.le_of_ble_eq_true rfl, Nat.le_of_ble_eq_true rfl⟩) ⟨zblindX, va_recv hK hP (ci := 11) (q0 := 0) rfl rfl, zpreX hE hX hS hP hD hFc⟩ rfl rfl hl.1 rfl (lv_room (Nat.le_of_ble_eq_true rfl)) dL_logout_1 ⟨Nat.le_of_ble_eq_true rfl, Nat.le_of_ble_eq_true rfl⟩) hS hFc hP (fun ce q9 H locs hP_ hS_ _ hce hcv hcl => ?_)
  clear hFc
  refine zcatch1 (pc := 1) (own := RL) (name := "java/lang/IllegalStateException") (E := "java/lang/IllegalStateException") hown htab rfl (by decide) (hts (.classLink RL 19 "java/lang/IllegalStateException") (by decide +kernel)) (hX.2.2.1 _ _ (by decide +kernel)) hce hcv hcl ?_
  refine lv_astore_n (pc := 7) (lv' := [(1, .ref q9), (0, .ref h0)]) hx hb dL_logout_7 rfl hl (by decide) rfl ?_
  clear hl
  intro ls hl
  refine lv_iconst (pc := 8) (v := (1 : Int32)) hx hb dL_logout_8 (by decide) ?_
  exact W.iret (pc := 9) hx hb hr (fun t ht hW => ⟨rfl, ⟨by rw [ht]; exact hP_, hD⟩, hS_.F ht⟩) hS_.2.2 dL_logout_9
set_option maxHeartbeats 4000000 in
set_option maxRecDepth 100000 in
theorem Lt_slotInfo (l_ : Launch) (hlt : l_.stackTraces = false) (tx : Nat → Nat) (D : va_G) (cy : Nat → ClassId) (tt : Nat → Nat) (sz : Nat) (h0 : Nat) (h0_buffer : Nat) (h0_slots : Nat) (h0_counters : Nat) (h0_officerPin : Nat) (h0_userPin : Nat) (h0_words : Nat) (h0_sha : Nat) (h0_stream : Nat) (h0_aes : Nat) (h0_modes : Nat) (h0_gcm : Nat) (h0_generator : Nat) (h0_tests : Nat) (h0_message : Nat) (h0_secret : Nat) (hP_o : Nat → Nat) (hP_k : Nat → Nat) (p1 : Int32) (p2 : Int32) (cP_kind : Nat → Int32) (cP_length : Nat → Int32) (cP_role : Nat → Int32) (cP_usage : Nat → Int32) (cP_uses : Nat → Int32) (c_state : Int32) (c_testsDone : Int32) (c_faults : Int32) (c_streamBegun : Int32) (cPK : Nat → Nat → Int32) (hO : Nat) (hf : t_X9_slotInfo p1 p2 = some ()) : vx_Met l_ yL_slotInfo wsL_slotInfo ({ frames := 7, cells := 1, slots := 6, locals := 105 }) (fun a U => zPc D cy tt sz [.ref h0, .int p1, .int p2, .ref hO] ([(h0, .inr (11, [.ref h0_buffer, .ref h0_slots, .ref h0_counters, .ref h0_officerPin, .ref h0_userPin, .ref h0_words, .ref h0_sha, .ref h0_stream, .ref h0_aes, .ref h0_modes, .ref h0_gcm, .ref h0_generator, .ref h0_tests, .ref h0_message, .ref h0_secret, .int c_state, .int c_testsDone, .int c_faults, .int c_streamBegun])), (h0_slots, .inl (cy 4, 16, .inr (.inr (.inr (.inr (fun j => some (hP_o j)))))))] ++ zpl (cy 0) hP_o hP_k cP_kind cP_length cP_usage cP_role cP_uses cPK) a U ∧ gX tx (va_A ([(h0, .inr (11, [.ref h0_buffer, .ref h0_slots, .ref h0_counters, .ref h0_officerPin, .ref h0_userPin, .ref h0_words, .ref h0_sha, .ref h0_stream, .ref h0_aes, .ref h0_modes, .ref h0_gcm, .ref h0_generator, .ref h0_tests, .ref h0_message, .ref h0_secret, .int c_state, .int c_testsDone, .int c_faults, .int c_streamBegun])), (h0_slots, .inl (cy 4, 16, .inr (.inr (.inr (.inr (fun j => some (hP_o j)))))))] ++ zpl (cy 0) hP_o hP_k cP_kind cP_length cP_usage cP_role cP_uses cPK) sz) U) (zQ D (some (.int 1)) ([(h0, .inr (11, [.ref h0_buffer, .ref h0_slots, .ref h0_counters, .ref h0_officerPin, .ref h0_userPin, .ref h0_words, .ref h0_sha, .ref h0_stream, .ref h0_aes, .ref h0_modes, .ref h0_gcm, .ref h0_generator, .ref h0_tests, .ref h0_message, .ref h0_secret, .int c_state, .int c_testsDone, .int c_faults, .int c_streamBegun])), (h0_slots, .inl (cy 4, 16, .inr (.inr (.inr (.inr (fun j => some (hP_o j)))))))] ++ zpl (cy 0) hP_o hP_k cP_kind cP_length cP_usage cP_role cP_uses cPK) (va_A ([(h0, .inr (11, [.ref h0_buffer, .ref h0_slots, .ref h0_counters, .ref h0_officerPin, .ref h0_userPin, .ref h0_words, .ref h0_sha, .ref h0_stream, .ref h0_aes, .ref h0_modes, .ref h0_gcm, .ref h0_generator, .ref h0_tests, .ref h0_message, .ref h0_secret, .int c_state, .int c_testsDone, .int c_faults, .int c_streamBegun])), (h0_slots, .inl (cy 4, 16, .inr (.inr (.inr (.inr (fun j => some (hP_o j)))))))] ++ zpl (cy 0) hP_o hP_k cP_kind cP_length cP_usage cP_role cP_uses cPK) sz)) (fun _ _ _ => False) 1 6 (va_A ([(h0, .inr (11, [.ref h0_buffer, .ref h0_slots, .ref h0_counters, .ref h0_officerPin, .ref h0_userPin, .ref h0_words, .ref h0_sha, .ref h0_stream, .ref h0_aes, .ref h0_modes, .ref h0_gcm, .ref h0_generator, .ref h0_tests, .ref h0_message, .ref h0_secret, .int c_state, .int c_testsDone, .int c_faults, .int c_streamBegun])), (h0_slots, .inl (cy 4, 16, .inr (.inr (.inr (.inr (fun j => some (hP_o j)))))))] ++ zpl (cy 0) hP_o hP_k cP_kind cP_length cP_usage cP_role cP_uses cPK) sz) := by
  refine vx_ofWH (cc := cL_slotInfo) (maxL := 5) (ret := some .int) (by decide) rfl ?_
  intro p e s m args below meth c s₁ B hml hv
  obtain ⟨⟨rfl, rfl, hP, hD0, hE⟩, hX⟩ := hv
  have hx := B.exec
  have hb := B.bytes
  have hr := B.returns
  have hts := atoms_spec (ws := wsL_slotInfo) B.pre
  have hown : s.vm.findClass RL = some m.cls := findClass_of_methodNamed B.named
  have htab := vx_table (x := yL_fault) B (hts _ List.mem_cons_self)
  have hlocks := B.notSynchronized
  clear B
  refine vx_ret ?_
  have hD := hD0.self (sz := s.heap.size)
  generalize hAe : va_A ([(h0, .inr (11, [.ref h0_buffer, .ref h0_slots, .ref h0_counters, .ref h0_officerPin, .ref h0_userPin, .ref h0_words, .ref h0_sha, .ref h0_stream, .ref h0_aes, .ref h0_modes, .ref h0_gcm, .ref h0_generator, .ref h0_tests, .ref h0_message, .ref h0_secret, .int c_state, .int c_testsDone, .int c_faults, .int c_streamBegun])), (h0_slots, .inl (cy 4, 16, .inr (.inr (.inr (.inr (fun j => some (hP_o j)))))))] ++ zpl (cy 0) hP_o hP_k cP_kind cP_length cP_usage cP_role cP_uses cPK) s.heap.size = A at hD hE hX ⊢
  have hA : ∀ q : Nat, s.heap.size ≤ q → A q := fun q h => by rw [← hAe]; exact Or.inr h
  have hFc : ∀ q, va_A ([(h0, .inr (11, [.ref h0_buffer, .ref h0_slots, .ref h0_counters, .ref h0_officerPin, .ref h0_userPin, .ref h0_words, .ref h0_sha, .ref h0_stream, .ref h0_aes, .ref h0_modes, .ref h0_gcm, .ref h0_generator, .ref h0_tests, .ref h0_message, .ref h0_secret, .int c_state, .int c_testsDone, .int c_faults, .int c_streamBegun])), (h0_slots, .inl (cy 4, 16, .inr (.inr (.inr (.inr (fun j => some (hP_o j)))))))] ++ zpl (cy 0) hP_o hP_k cP_kind cP_length cP_usage cP_role cP_uses cPK) s.heap.size q → A q := fun q h => by rw [← hAe]; exact h
  clear hAe hD0
  have hS : va_S A s.heap s.heap [] := va_S.rf
  have hK := hE.1
  have hl := lv_entry ([.ref h0, .int p1, .int p2, .ref hO]) (n := 5) (Nat.le_of_ble_eq_true rfl)
  rw [lg_entry_eq]
  generalize (lg_sl ([.ref h0, .int p1, .int p2, .ref hO]) ++ List.replicate (5 - (lg_sl ([.ref h0, .int p1, .int p2, .ref hO])).length) Slot.unset).toArray = ls at hl ⊢
  replace hl : lv_has ls 5 [(0, .ref h0), (1, .int p1), (2, .int p2), (3, .ref hO)] := hl
  refine lv_aload_n (pc := 0) hx hb dL_slotInfo_0 rfl (lv_at hl 3 rfl) ?_
  refine lv_iconst (pc := 1) (v := (0 : Int32)) hx hb dL_slotInfo_1 (by decide) ?_
  refine lv_aload_n (pc := 2) hx hb dL_slotInfo_2 rfl (lv_at hl 0 rfl) ?_
  refine lv_iload_n (pc := 3) hx hb dL_slotInfo_3 rfl (lv_at hl 1 rfl) ?_
  refine lv_iload_n (pc := 4) hx hb dL_slotInfo_4 rfl (lv_at hl 2 rfl) ?_
  refine zthr (pc := 5) (rest := [.int (0 : Int32), .ref hO]) (vx_runV (As := [.int p1, .int p2]) (rest := [.int (0 : Int32), .ref hO]) ⟨hx, hb, hml, hown, hts⟩ (t_c_X9_slotInfo l_ hlt tx D cy tt s.heap.size h0 h0_buffer h0_slots h0_counters h0_officerPin h0_userPin h0_words h0_sha h0_stream h0_aes h0_modes h0_gcm h0_generator h0_tests h0_message h0_secret hP_o hP_k p1 p2 cP_kind cP_length cP_role cP_usage cP_uses c_state c_testsDone c_faults c_streamBegun cPK hf) (cwV 2 hts gL_slotInfo_X9_slotInfo rfl rfl rfl (by decide +kernel) ⟨Nat.le_of_ble_eq_true rfl, Nat.le_of_ble_eq_true rfl⟩) ⟨zblindX, va_recv hK hP (ci := 11) (q0 := 0) rfl rfl, zpreX hE hX hS hP hD hFc⟩ rfl rfl hl.1 rfl (lv_room (Nat.le_of_ble_eq_true rfl)) dL_slotInfo_5 ⟨Nat.le_of_ble_eq_true rfl, Nat.le_of_ble_eq_true rfl⟩) hS hFc hP (fun ce q9 H locs hP_ hS_ _ hce hcv hcl => ?_)
  clear hFc
  refine zcatch1 (pc := 5) (own := RL) (name := "java/lang/IllegalArgumentException") (E := "java/lang/IllegalArgumentException") hown htab rfl (by decide) (hts (.classLink RL 13 "java/lang/IllegalArgumentException") (by decide +kernel)) (hX.2.2.1 _ _ (by decide +kernel)) hce hcv hcl ?_
  refine lv_astore (pc := 13) (lv' := [(4, .ref q9), (0, .ref h0), (1, .int p1), (2, .int p2), (3, .ref hO)]) hx hb dL_slotInfo_13 hl (by decide) rfl ?_
  clear hl
  intro ls hl
  refine lv_iconst (pc := 15) (v := (1 : Int32)) hx hb dL_slotInfo_15 (by decide) ?_
  exact W.iret (pc := 16) hx hb hr (fun t ht hW => ⟨rfl, ⟨by rw [ht]; exact hP_, hD⟩, hS_.F ht⟩) hS_.2.2 dL_slotInfo_16
set_option maxHeartbeats 4000000 in
set_option maxRecDepth 100000 in
theorem Lt_same (l_ : Launch) (hlt : l_.stackTraces = false) (tx : Nat → Nat) (D : va_G) (cy : Nat → ClassId) (tt : Nat → Nat) (sz : Nat) (h0 : Nat) (h0_buffer : Nat) (h0_slots : Nat) (h0_counters : Nat) (h0_officerPin : Nat) (h0_userPin : Nat) (h0_words : Nat) (h0_sha : Nat) (h0_stream : Nat) (h0_aes : Nat) (h0_modes : Nat) (h0_gcm : Nat) (h0_generator : Nat) (h0_tests : Nat) (h0_message : Nat) (h0_secret : Nat) (hP_o : Nat → Nat) (hP_k : Nat → Nat) (p1 : Int32) (p2 : Int32) (c_buffer : Nat → Int32) (cP_kind : Nat → Int32) (cP_length : Nat → Int32) (cPK : Nat → Nat → Int32) (c_state : Int32) (c_testsDone : Int32) (c_faults : Int32) (c_streamBegun : Int32) (cP_usage : Nat → Int32) (cP_role : Nat → Int32) (cP_uses : Nat → Int32) (hO : Nat) (hf : t_X9_same p1 = some ()) : vx_Met l_ yL_same wsL_same ({ frames := 7, cells := 1, slots := 6, locals := 105 }) (fun a U => zPc D cy tt sz [.ref h0, .int p1, .int p2, .ref hO] ([(h0, .inr (11, [.ref h0_buffer, .ref h0_slots, .ref h0_counters, .ref h0_officerPin, .ref h0_userPin, .ref h0_words, .ref h0_sha, .ref h0_stream, .ref h0_aes, .ref h0_modes, .ref h0_gcm, .ref h0_generator, .ref h0_tests, .ref h0_message, .ref h0_secret, .int c_state, .int c_testsDone, .int c_faults, .int c_streamBegun])), (h0_buffer, .inl (cy 0, 512, .inl c_buffer)), (h0_slots, .inl (cy 4, 16, .inr (.inr (.inr (.inr (fun j => some (hP_o j)))))))] ++ zpl (cy 0) hP_o hP_k cP_kind cP_length cP_usage cP_role cP_uses cPK) a U ∧ gX tx (va_A ([(h0, .inr (11, [.ref h0_buffer, .ref h0_slots, .ref h0_counters, .ref h0_officerPin, .ref h0_userPin, .ref h0_words, .ref h0_sha, .ref h0_stream, .ref h0_aes, .ref h0_modes, .ref h0_gcm, .ref h0_generator, .ref h0_tests, .ref h0_message, .ref h0_secret, .int c_state, .int c_testsDone, .int c_faults, .int c_streamBegun])), (h0_buffer, .inl (cy 0, 512, .inl c_buffer)), (h0_slots, .inl (cy 4, 16, .inr (.inr (.inr (.inr (fun j => some (hP_o j)))))))] ++ zpl (cy 0) hP_o hP_k cP_kind cP_length cP_usage cP_role cP_uses cPK) sz) U) (zQ D (some (.int 1)) ([(h0, .inr (11, [.ref h0_buffer, .ref h0_slots, .ref h0_counters, .ref h0_officerPin, .ref h0_userPin, .ref h0_words, .ref h0_sha, .ref h0_stream, .ref h0_aes, .ref h0_modes, .ref h0_gcm, .ref h0_generator, .ref h0_tests, .ref h0_message, .ref h0_secret, .int c_state, .int c_testsDone, .int c_faults, .int c_streamBegun])), (h0_buffer, .inl (cy 0, 512, .inl c_buffer)), (h0_slots, .inl (cy 4, 16, .inr (.inr (.inr (.inr (fun j => some (hP_o j)))))))] ++ zpl (cy 0) hP_o hP_k cP_kind cP_length cP_usage cP_role cP_uses cPK) (va_A ([(h0, .inr (11, [.ref h0_buffer, .ref h0_slots, .ref h0_counters, .ref h0_officerPin, .ref h0_userPin, .ref h0_words, .ref h0_sha, .ref h0_stream, .ref h0_aes, .ref h0_modes, .ref h0_gcm, .ref h0_generator, .ref h0_tests, .ref h0_message, .ref h0_secret, .int c_state, .int c_testsDone, .int c_faults, .int c_streamBegun])), (h0_buffer, .inl (cy 0, 512, .inl c_buffer)), (h0_slots, .inl (cy 4, 16, .inr (.inr (.inr (.inr (fun j => some (hP_o j)))))))] ++ zpl (cy 0) hP_o hP_k cP_kind cP_length cP_usage cP_role cP_uses cPK) sz)) (fun _ _ _ => False) 1 6 (va_A ([(h0, .inr (11, [.ref h0_buffer, .ref h0_slots, .ref h0_counters, .ref h0_officerPin, .ref h0_userPin, .ref h0_words, .ref h0_sha, .ref h0_stream, .ref h0_aes, .ref h0_modes, .ref h0_gcm, .ref h0_generator, .ref h0_tests, .ref h0_message, .ref h0_secret, .int c_state, .int c_testsDone, .int c_faults, .int c_streamBegun])), (h0_buffer, .inl (cy 0, 512, .inl c_buffer)), (h0_slots, .inl (cy 4, 16, .inr (.inr (.inr (.inr (fun j => some (hP_o j)))))))] ++ zpl (cy 0) hP_o hP_k cP_kind cP_length cP_usage cP_role cP_uses cPK) sz) := by
  refine vx_ofWH (cc := cL_same) (maxL := 5) (ret := some .int) (by decide) rfl ?_
  intro p e s m args below meth c s₁ B hml hv
  obtain ⟨⟨rfl, rfl, hP, hD0, hE⟩, hX⟩ := hv
  have hx := B.exec
  have hb := B.bytes
  have hr := B.returns
  have hts := atoms_spec (ws := wsL_same) B.pre
  have hown : s.vm.findClass RL = some m.cls := findClass_of_methodNamed B.named
  have htab := vx_table (x := yL_fault) B (hts _ List.mem_cons_self)
  have hlocks := B.notSynchronized
  clear B
  refine vx_ret ?_
  have hD := hD0.self (sz := s.heap.size)
  generalize hAe : va_A ([(h0, .inr (11, [.ref h0_buffer, .ref h0_slots, .ref h0_counters, .ref h0_officerPin, .ref h0_userPin, .ref h0_words, .ref h0_sha, .ref h0_stream, .ref h0_aes, .ref h0_modes, .ref h0_gcm, .ref h0_generator, .ref h0_tests, .ref h0_message, .ref h0_secret, .int c_state, .int c_testsDone, .int c_faults, .int c_streamBegun])), (h0_buffer, .inl (cy 0, 512, .inl c_buffer)), (h0_slots, .inl (cy 4, 16, .inr (.inr (.inr (.inr (fun j => some (hP_o j)))))))] ++ zpl (cy 0) hP_o hP_k cP_kind cP_length cP_usage cP_role cP_uses cPK) s.heap.size = A at hD hE hX ⊢
  have hA : ∀ q : Nat, s.heap.size ≤ q → A q := fun q h => by rw [← hAe]; exact Or.inr h
  have hFc : ∀ q, va_A ([(h0, .inr (11, [.ref h0_buffer, .ref h0_slots, .ref h0_counters, .ref h0_officerPin, .ref h0_userPin, .ref h0_words, .ref h0_sha, .ref h0_stream, .ref h0_aes, .ref h0_modes, .ref h0_gcm, .ref h0_generator, .ref h0_tests, .ref h0_message, .ref h0_secret, .int c_state, .int c_testsDone, .int c_faults, .int c_streamBegun])), (h0_buffer, .inl (cy 0, 512, .inl c_buffer)), (h0_slots, .inl (cy 4, 16, .inr (.inr (.inr (.inr (fun j => some (hP_o j)))))))] ++ zpl (cy 0) hP_o hP_k cP_kind cP_length cP_usage cP_role cP_uses cPK) s.heap.size q → A q := fun q h => by rw [← hAe]; exact h
  clear hAe hD0
  have hS : va_S A s.heap s.heap [] := va_S.rf
  have hK := hE.1
  have hl := lv_entry ([.ref h0, .int p1, .int p2, .ref hO]) (n := 5) (Nat.le_of_ble_eq_true rfl)
  rw [lg_entry_eq]
  generalize (lg_sl ([.ref h0, .int p1, .int p2, .ref hO]) ++ List.replicate (5 - (lg_sl ([.ref h0, .int p1, .int p2, .ref hO])).length) Slot.unset).toArray = ls at hl ⊢
  replace hl : lv_has ls 5 [(0, .ref h0), (1, .int p1), (2, .int p2), (3, .ref hO)] := hl
  refine lv_aload_n (pc := 0) hx hb dL_same_0 rfl (lv_at hl 3 rfl) ?_
  refine lv_iconst (pc := 1) (v := (0 : Int32)) hx hb dL_same_1 (by decide) ?_
  refine lv_aload_n (pc := 2) hx hb dL_same_2 rfl (lv_at hl 0 rfl) ?_
  refine lv_iload_n (pc := 3) hx hb dL_same_3 rfl (lv_at hl 1 rfl) ?_
  refine lv_iload_n (pc := 4) hx hb dL_same_4 rfl (lv_at hl 2 rfl) ?_
  refine zthr (pc := 5) (rest := [.int (0 : Int32), .ref hO]) (vx_runV (As := [.int p1, .int p2]) (rest := [.int (0 : Int32), .ref hO]) ⟨hx, hb, hml, hown, hts⟩ (t_c_X9_same l_ hlt tx D cy tt s.heap.size h0 h0_buffer h0_slots h0_counters h0_officerPin h0_userPin h0_words h0_sha h0_stream h0_aes h0_modes h0_gcm h0_generator h0_tests h0_message h0_secret hP_o hP_k p1 p2 c_buffer cP_kind cP_length cPK c_state c_testsDone c_faults c_streamBegun cP_usage cP_role cP_uses hf) (cwV 2 hts gL_same_X9_same rfl rfl rfl (by decide +kernel) ⟨Nat.le_of_ble_eq_true rfl, Nat.le_of_ble_eq_true rfl⟩) ⟨zblindX, va_recv hK hP (ci := 11) (q0 := 0) rfl rfl, zpreX hE hX hS hP hD hFc⟩ rfl rfl hl.1 rfl (lv_room (Nat.le_of_ble_eq_true rfl)) dL_same_5 ⟨Nat.le_of_ble_eq_true rfl, Nat.le_of_ble_eq_true rfl⟩) hS hFc hP (fun ce q9 H locs hP_ hS_ _ hce hcv hcl => ?_)
  clear hFc
  refine zcatch1 (pc := 5) (own := RL) (name := "java/lang/IllegalArgumentException") (E := "java/lang/IllegalArgumentException") hown htab rfl (by decide) (hts (.classLink RL 13 "java/lang/IllegalArgumentException") (by decide +kernel)) (hX.2.2.1 _ _ (by decide +kernel)) hce hcv hcl ?_
  refine lv_astore (pc := 20) (lv' := [(4, .ref q9), (0, .ref h0), (1, .int p1), (2, .int p2), (3, .ref hO)]) hx hb dL_same_20 hl (by decide) rfl ?_
  clear hl
  intro ls hl
  refine lv_iconst (pc := 22) (v := (1 : Int32)) hx hb dL_same_22 (by decide) ?_
  exact W.iret (pc := 23) hx hb hr (fun t ht hW => ⟨rfl, ⟨by rw [ht]; exact hP_, hD⟩, hS_.F ht⟩) hS_.2.2 dL_same_23
set_option maxHeartbeats 4000000 in
set_option maxRecDepth 100000 in
theorem Lt_pokeA (l_ : Launch) (hlt : l_.stackTraces = false) (tx : Nat → Nat) (D : va_G) (cy : Nat → ClassId) (tt : Nat → Nat) (sz : Nat) (h0 : Nat) (h0_buffer : Nat) (h0_slots : Nat) (h0_counters : Nat) (h0_officerPin : Nat) (h0_userPin : Nat) (h0_words : Nat) (h0_sha : Nat) (h0_stream : Nat) (h0_aes : Nat) (h0_modes : Nat) (h0_gcm : Nat) (h0_generator : Nat) (h0_tests : Nat) (h0_message : Nat) (h0_secret : Nat) (p1 : Int32) (p2 : Int64) (p3 : Int32) (c_state : Int32) (c_buffer : Nat → Int32) (c_testsDone : Int32) (c_faults : Int32) (c_streamBegun : Int32) (hf : t_X9_pokeA p1 p3 c_state = some ()) : vx_Met l_ yL_poke wsL_poke ({ frames := 7, cells := 1, slots := 6, locals := 107 }) (fun a U => zPc D cy tt sz [.ref h0, .int p1, .long p2, .int p3] ([(h0, .inr (11, [.ref h0_buffer, .ref h0_slots, .ref h0_counters, .ref h0_officerPin, .ref h0_userPin, .ref h0_words, .ref h0_sha, .ref h0_stream, .ref h0_aes, .ref h0_modes, .ref h0_gcm, .ref h0_generator, .ref h0_tests, .ref h0_message, .ref h0_secret, .int c_state, .int c_testsDone, .int c_faults, .int c_streamBegun])), (h0_buffer, .inl (cy 0, 512, .inl c_buffer))]) a U ∧ gX tx (va_A ([(h0, .inr (11, [.ref h0_buffer, .ref h0_slots, .ref h0_counters, .ref h0_officerPin, .ref h0_userPin, .ref h0_words, .ref h0_sha, .ref h0_stream, .ref h0_aes, .ref h0_modes, .ref h0_gcm, .ref h0_generator, .ref h0_tests, .ref h0_message, .ref h0_secret, .int c_state, .int c_testsDone, .int c_faults, .int c_streamBegun])), (h0_buffer, .inl (cy 0, 512, .inl c_buffer))]) sz) U) (zQ D (some (.int 1)) ([(h0, .inr (11, [.ref h0_buffer, .ref h0_slots, .ref h0_counters, .ref h0_officerPin, .ref h0_userPin, .ref h0_words, .ref h0_sha, .ref h0_stream, .ref h0_aes, .ref h0_modes, .ref h0_gcm, .ref h0_generator, .ref h0_tests, .ref h0_message, .ref h0_secret, .int c_state, .int c_testsDone, .int c_faults, .int c_streamBegun])), (h0_buffer, .inl (cy 0, 512, .inl c_buffer))]) (va_A ([(h0, .inr (11, [.ref h0_buffer, .ref h0_slots, .ref h0_counters, .ref h0_officerPin, .ref h0_userPin, .ref h0_words, .ref h0_sha, .ref h0_stream, .ref h0_aes, .ref h0_modes, .ref h0_gcm, .ref h0_generator, .ref h0_tests, .ref h0_message, .ref h0_secret, .int c_state, .int c_testsDone, .int c_faults, .int c_streamBegun])), (h0_buffer, .inl (cy 0, 512, .inl c_buffer))]) sz)) (fun _ _ _ => False) 1 6 (va_A ([(h0, .inr (11, [.ref h0_buffer, .ref h0_slots, .ref h0_counters, .ref h0_officerPin, .ref h0_userPin, .ref h0_words, .ref h0_sha, .ref h0_stream, .ref h0_aes, .ref h0_modes, .ref h0_gcm, .ref h0_generator, .ref h0_tests, .ref h0_message, .ref h0_secret, .int c_state, .int c_testsDone, .int c_faults, .int c_streamBegun])), (h0_buffer, .inl (cy 0, 512, .inl c_buffer))]) sz) := by
  refine vx_ofWH (cc := cL_poke) (maxL := 6) (ret := some .int) (by decide) rfl ?_
  intro p e s m args below meth c s₁ B hml hv
  obtain ⟨⟨rfl, rfl, hP, hD0, hE⟩, hX⟩ := hv
  have hx := B.exec
  have hb := B.bytes
  have hr := B.returns
  have hts := atoms_spec (ws := wsL_poke) B.pre
  have hown : s.vm.findClass RL = some m.cls := findClass_of_methodNamed B.named
  have htab := vx_table (x := yL_fault) B (hts _ List.mem_cons_self)
  have hlocks := B.notSynchronized
  clear B
  refine vx_ret ?_
  have hD := hD0.self (sz := s.heap.size)
  generalize hAe : va_A ([(h0, .inr (11, [.ref h0_buffer, .ref h0_slots, .ref h0_counters, .ref h0_officerPin, .ref h0_userPin, .ref h0_words, .ref h0_sha, .ref h0_stream, .ref h0_aes, .ref h0_modes, .ref h0_gcm, .ref h0_generator, .ref h0_tests, .ref h0_message, .ref h0_secret, .int c_state, .int c_testsDone, .int c_faults, .int c_streamBegun])), (h0_buffer, .inl (cy 0, 512, .inl c_buffer))]) s.heap.size = A at hD hE hX ⊢
  have hA : ∀ q : Nat, s.heap.size ≤ q → A q := fun q h => by rw [← hAe]; exact Or.inr h
  have hFc : ∀ q, va_A ([(h0, .inr (11, [.ref h0_buffer, .ref h0_slots, .ref h0_counters, .ref h0_officerPin, .ref h0_userPin, .ref h0_words, .ref h0_sha, .ref h0_stream, .ref h0_aes, .ref h0_modes, .ref h0_gcm, .ref h0_generator, .ref h0_tests, .ref h0_message, .ref h0_secret, .int c_state, .int c_testsDone, .int c_faults, .int c_streamBegun])), (h0_buffer, .inl (cy 0, 512, .inl c_buffer))]) s.heap.size q → A q := fun q h => by rw [← hAe]; exact h
  clear hAe hD0
  have hS : va_S A s.heap s.heap [] := va_S.rf
  have hK := hE.1
  have hl := lv_entry ([.ref h0, .int p1, .long p2, .int p3]) (n := 6) (Nat.le_of_ble_eq_true rfl)
  rw [lg_entry_eq]
  generalize (lg_sl ([.ref h0, .int p1, .long p2, .int p3]) ++ List.replicate (6 - (lg_sl ([.ref h0, .int p1, .long p2, .int p3])).length) Slot.unset).toArray = ls at hl ⊢
  replace hl : lv_has ls 6 [(0, .ref h0), (1, .int p1), (2, .long p2), (4, .int p3)] := hl
  refine lv_aload_n (pc := 0) hx hb dL_poke_0 rfl (lv_at hl 0 rfl) ?_
  refine lv_iload_n (pc := 1) hx hb dL_poke_1 rfl (lv_at hl 1 rfl) ?_
  refine lv_lload_n (pc := 2) hx hb dL_poke_2 rfl (lv_at hl 2 rfl) ?_
  refine lv_iload (pc := 3) hx hb dL_poke_3 (lv_at hl 3 rfl) ?_
  refine zthr (pc := 5) (rest := []) (vx_runV (As := [.int p1, .long p2, .int p3]) (rest := []) ⟨hx, hb, hml, hown, hts⟩ (t_c_X9_pokeA l_ hlt tx D cy tt s.heap.size h0 h0_buffer h0_slots h0_counters h0_officerPin h0_userPin h0_words h0_sha h0_stream h0_aes h0_modes h0_gcm h0_generator h0_tests h0_message h0_secret p1 p2 p3 c_state c_buffer c_testsDone c_faults c_streamBegun hf) (cwV 3 hts gL_poke_X9_poke rfl rfl rfl (by decide +kernel) ⟨Nat.le_of_ble_eq_true rfl, Nat.le_of_ble_eq_true rfl⟩) ⟨zblindX, va_recv hK hP (ci := 11) (q0 := 0) rfl rfl, zpreX hE hX hS hP hD hFc⟩ rfl rfl hl.1 rfl (lv_room (Nat.le_of_ble_eq_true rfl)) dL_poke_5 ⟨Nat.le_of_ble_eq_true rfl, Nat.le_of_ble_eq_true rfl⟩) hS hFc hP (fun ce q9 H locs hP_ hS_ _ hce hcv hcl => ?_)
  clear hFc
  refine zcatch1t (pc := 5) (own := RL) (name := "java/lang/IllegalArgumentException") (E := "java/lang/IllegalArgumentException") hown htab rfl (by decide) (hts (.classLink RL 13 "java/lang/IllegalArgumentException") (by decide +kernel)) (hX.2.2.1 _ _ (by decide +kernel)) hce hcv hcl ?_
  refine lv_astore (pc := 11) (lv' := [(5, .ref q9), (0, .ref h0), (1, .int p1), (2, .long p2), (4, .int p3)]) hx hb dL_poke_11 hl (by decide) rfl ?_
  clear hl
  intro ls hl
  refine lv_iconst (pc := 13) (v := (1 : Int32)) hx hb dL_poke_13 (by decide) ?_
  exact W.iret (pc := 14) hx hb hr (fun t ht hW => ⟨rfl, ⟨by rw [ht]; exact hP_, hD⟩, hS_.F ht⟩) hS_.2.2 dL_poke_14
def wsL_pokeS : List Cond := wsL_poke ++ [.classLink RL 19 "java/lang/IllegalStateException"]
theorem gL_pokeS_X9_poke : GoodIn wsL_pokeS (wsV RL 15 RX9 yX9_poke wsX9_poke) := fun w h => ⟨List.mem_append_left _ (gL_poke_X9_poke w h).1, (gL_poke_X9_poke w h).2⟩
set_option maxHeartbeats 4000000 in
set_option maxRecDepth 100000 in
theorem Lt_pokeS (l_ : Launch) (hlt : l_.stackTraces = false) (tx : Nat → Nat) (D : va_G) (cy : Nat → ClassId) (tt : Nat → Nat) (sz : Nat) (h0 : Nat) (h0_buffer : Nat) (h0_slots : Nat) (h0_counters : Nat) (h0_officerPin : Nat) (h0_userPin : Nat) (h0_words : Nat) (h0_sha : Nat) (h0_stream : Nat) (h0_aes : Nat) (h0_modes : Nat) (h0_gcm : Nat) (h0_generator : Nat) (h0_tests : Nat) (h0_message : Nat) (h0_secret : Nat) (p1 : Int32) (p2 : Int64) (p3 : Int32) (c_state : Int32) (c_buffer : Nat → Int32) (c_testsDone : Int32) (c_faults : Int32) (c_streamBegun : Int32) (hf : t_X9_pokeS c_state = some ()) : vx_Met l_ yL_poke wsL_pokeS ({ frames := 7, cells := 1, slots := 6, locals := 107 }) (fun a U => zPc D cy tt sz [.ref h0, .int p1, .long p2, .int p3] ([(h0, .inr (11, [.ref h0_buffer, .ref h0_slots, .ref h0_counters, .ref h0_officerPin, .ref h0_userPin, .ref h0_words, .ref h0_sha, .ref h0_stream, .ref h0_aes, .ref h0_modes, .ref h0_gcm, .ref h0_generator, .ref h0_tests, .ref h0_message, .ref h0_secret, .int c_state, .int c_testsDone, .int c_faults, .int c_streamBegun])), (h0_buffer, .inl (cy 0, 512, .inl c_buffer))]) a U ∧ gX tx (va_A ([(h0, .inr (11, [.ref h0_buffer, .ref h0_slots, .ref h0_counters, .ref h0_officerPin, .ref h0_userPin, .ref h0_words, .ref h0_sha, .ref h0_stream, .ref h0_aes, .ref h0_modes, .ref h0_gcm, .ref h0_generator, .ref h0_tests, .ref h0_message, .ref h0_secret, .int c_state, .int c_testsDone, .int c_faults, .int c_streamBegun])), (h0_buffer, .inl (cy 0, 512, .inl c_buffer))]) sz) U ∧ va_Nc "java/lang/IllegalStateException" "java/lang/IllegalArgumentException" U) (zQ D (some (.int 2)) ([(h0, .inr (11, [.ref h0_buffer, .ref h0_slots, .ref h0_counters, .ref h0_officerPin, .ref h0_userPin, .ref h0_words, .ref h0_sha, .ref h0_stream, .ref h0_aes, .ref h0_modes, .ref h0_gcm, .ref h0_generator, .ref h0_tests, .ref h0_message, .ref h0_secret, .int c_state, .int c_testsDone, .int c_faults, .int c_streamBegun])), (h0_buffer, .inl (cy 0, 512, .inl c_buffer))]) (va_A ([(h0, .inr (11, [.ref h0_buffer, .ref h0_slots, .ref h0_counters, .ref h0_officerPin, .ref h0_userPin, .ref h0_words, .ref h0_sha, .ref h0_stream, .ref h0_aes, .ref h0_modes, .ref h0_gcm, .ref h0_generator, .ref h0_tests, .ref h0_message, .ref h0_secret, .int c_state, .int c_testsDone, .int c_faults, .int c_streamBegun])), (h0_buffer, .inl (cy 0, 512, .inl c_buffer))]) sz)) (fun _ _ _ => False) 1 6 (va_A ([(h0, .inr (11, [.ref h0_buffer, .ref h0_slots, .ref h0_counters, .ref h0_officerPin, .ref h0_userPin, .ref h0_words, .ref h0_sha, .ref h0_stream, .ref h0_aes, .ref h0_modes, .ref h0_gcm, .ref h0_generator, .ref h0_tests, .ref h0_message, .ref h0_secret, .int c_state, .int c_testsDone, .int c_faults, .int c_streamBegun])), (h0_buffer, .inl (cy 0, 512, .inl c_buffer))]) sz) := by
  refine vx_ofWH (cc := cL_poke) (maxL := 6) (ret := some .int) (by decide) rfl ?_
  intro p e s m args below meth c s₁ B hml hv
  obtain ⟨⟨rfl, rfl, hP, hD0, hE⟩, hX, hN⟩ := hv
  have hx := B.exec
  have hb := B.bytes
  have hr := B.returns
  have hts := atoms_spec (ws := wsL_pokeS) B.pre
  have hown : s.vm.findClass RL = some m.cls := findClass_of_methodNamed B.named
  have htab := vx_table (x := yL_fault) B (hts _ List.mem_cons_self)
  have hlocks := B.notSynchronized
  clear B
  refine vx_ret ?_
  have hD := hD0.self (sz := s.heap.size)
  generalize hAe : va_A ([(h0, .inr (11, [.ref h0_buffer, .ref h0_slots, .ref h0_counters, .ref h0_officerPin, .ref h0_userPin, .ref h0_words, .ref h0_sha, .ref h0_stream, .ref h0_aes, .ref h0_modes, .ref h0_gcm, .ref h0_generator, .ref h0_tests, .ref h0_message, .ref h0_secret, .int c_state, .int c_testsDone, .int c_faults, .int c_streamBegun])), (h0_buffer, .inl (cy 0, 512, .inl c_buffer))]) s.heap.size = A at hD hE hX ⊢
  have hA : ∀ q : Nat, s.heap.size ≤ q → A q := fun q h => by rw [← hAe]; exact Or.inr h
  have hFc : ∀ q, va_A ([(h0, .inr (11, [.ref h0_buffer, .ref h0_slots, .ref h0_counters, .ref h0_officerPin, .ref h0_userPin, .ref h0_words, .ref h0_sha, .ref h0_stream, .ref h0_aes, .ref h0_modes, .ref h0_gcm, .ref h0_generator, .ref h0_tests, .ref h0_message, .ref h0_secret, .int c_state, .int c_testsDone, .int c_faults, .int c_streamBegun])), (h0_buffer, .inl (cy 0, 512, .inl c_buffer))]) s.heap.size q → A q := fun q h => by rw [← hAe]; exact h
  clear hAe hD0
  have hS : va_S A s.heap s.heap [] := va_S.rf
  have hK := hE.1
  have hl := lv_entry ([.ref h0, .int p1, .long p2, .int p3]) (n := 6) (Nat.le_of_ble_eq_true rfl)
  rw [lg_entry_eq]
  generalize (lg_sl ([.ref h0, .int p1, .long p2, .int p3]) ++ List.replicate (6 - (lg_sl ([.ref h0, .int p1, .long p2, .int p3])).length) Slot.unset).toArray = ls at hl ⊢
  replace hl : lv_has ls 6 [(0, .ref h0), (1, .int p1), (2, .long p2), (4, .int p3)] := hl
  refine lv_aload_n (pc := 0) hx hb dL_poke_0 rfl (lv_at hl 0 rfl) ?_
  refine lv_iload_n (pc := 1) hx hb dL_poke_1 rfl (lv_at hl 1 rfl) ?_
  refine lv_lload_n (pc := 2) hx hb dL_poke_2 rfl (lv_at hl 2 rfl) ?_
  refine lv_iload (pc := 3) hx hb dL_poke_3 (lv_at hl 3 rfl) ?_
  refine zthr (pc := 5) (rest := []) (vx_runV (As := [.int p1, .long p2, .int p3]) (rest := []) ⟨hx, hb, hml, hown, hts⟩ (t_c_X9_pokeS l_ hlt tx D cy tt s.heap.size h0 h0_buffer h0_slots h0_counters h0_officerPin h0_userPin h0_words h0_sha h0_stream h0_aes h0_modes h0_gcm h0_generator h0_tests h0_message h0_secret p1 p2 p3 c_state c_buffer c_testsDone c_faults c_streamBegun hf) (cwV 3 hts gL_pokeS_X9_poke rfl rfl rfl (by decide +kernel) ⟨Nat.le_of_ble_eq_true rfl, Nat.le_of_ble_eq_true rfl⟩) ⟨zblindX, va_recv hK hP (ci := 11) (q0 := 0) rfl rfl, zpreX hE hX hS hP hD hFc⟩ rfl rfl hl.1 rfl (lv_room (Nat.le_of_ble_eq_true rfl)) dL_poke_5 ⟨Nat.le_of_ble_eq_true rfl, Nat.le_of_ble_eq_true rfl⟩) hS hFc hP (fun ce q9 H locs hP_ hS_ _ hce hcv hcl => ?_)
  clear hFc
  refine zcatch2 (pc := 5) (own := RL) (name := "java/lang/IllegalStateException") (name1 := "java/lang/IllegalArgumentException") (E := "java/lang/IllegalStateException") hown htab rfl (by decide) rfl (by decide) (hts (.classLink RL 13 "java/lang/IllegalArgumentException") (by decide +kernel)) hN (hts (.classLink RL 19 "java/lang/IllegalStateException") (by decide +kernel)) (hX.2.2.1 _ _ (by decide +kernel)) hce hcv hcl ?_
  refine lv_astore (pc := 15) (lv' := [(5, .ref q9), (0, .ref h0), (1, .int p1), (2, .long p2), (4, .int p3)]) hx hb dL_poke_15 hl (by decide) rfl ?_
  clear hl
  intro ls hl
  refine lv_iconst (pc := 17) (v := (2 : Int32)) hx hb dL_poke_17 (by decide) ?_
  exact W.iret (pc := 18) hx hb hr (fun t ht hW => ⟨rfl, ⟨by rw [ht]; exact hP_, hD⟩, hS_.F ht⟩) hS_.2.2 dL_poke_18
