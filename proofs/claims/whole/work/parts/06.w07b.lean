def f_X9_loginAnswer (p1 : Int32) (p2 : Int32) (c_state : Int32) (c_officerPin_number : Int32) (c_officerPin_tries : Int32) (c_userPin_number : Int32) (c_userPin_tries : Int32) : Option (Int32 × Int32 × Int32 × Int32) :=
  if c_state = (2 : Int32) then (f_X9_isRole p1).bind (fun r_3 => if r_3 = 0 then some ((-2 : Int32), c_state, c_officerPin_tries, c_userPin_tries) else (f_X9_pinOf p1).bind (fun r_6 => if r_6 = 0 then (f_X5_opens p2 c_officerPin_number c_officerPin_tries).bind (fun (r_7, c_officerPin_tries_8) => if r_7 = 0 then some ((-10 : Int32), c_state, c_officerPin_tries_8, c_userPin_tries) else if p1 = (1 : Int32) then some ((0 : Int32), (3 : Int32), c_officerPin_tries_8, c_userPin_tries) else some ((0 : Int32), (4 : Int32), c_officerPin_tries_8, c_userPin_tries)) else (f_X5_opens p2 c_userPin_number c_userPin_tries).bind (fun (r_13, c_userPin_tries_14) => if r_13 = 0 then some ((-10 : Int32), c_state, c_officerPin_tries, c_userPin_tries_14) else if p1 = (1 : Int32) then some ((0 : Int32), (3 : Int32), c_officerPin_tries, c_userPin_tries_14) else some ((0 : Int32), (4 : Int32), c_officerPin_tries, c_userPin_tries_14)))) else some ((-1 : Int32), c_state, c_officerPin_tries, c_userPin_tries)
set_option maxHeartbeats 4000000 in
set_option maxRecDepth 100000 in
theorem c_X9_loginAnswer (l : Launch) (D : va_G) (cy : Nat → ClassId) (tt : Nat → Nat) (sz : Nat) (h0 : Nat) (h0_buffer : Nat) (h0_slots : Nat) (h0_counters : Nat) (h0_officerPin : Nat) (h0_userPin : Nat) (h0_words : Nat) (h0_sha : Nat) (h0_stream : Nat) (h0_aes : Nat) (h0_modes : Nat) (h0_gcm : Nat) (h0_generator : Nat) (h0_tests : Nat) (h0_message : Nat) (h0_secret : Nat) (p1 : Int32) (p2 : Int32) (c_state : Int32) (c_officerPin_number : Int32) (c_officerPin_tries : Int32) (c_userPin_number : Int32) (c_userPin_tries : Int32) (c_testsDone : Int32) (c_faults : Int32) (c_streamBegun : Int32) (r_ : Int32) (c_state' : Int32) (c_officerPin_tries' : Int32) (c_userPin_tries' : Int32) (hf : f_X9_loginAnswer p1 p2 c_state c_officerPin_number c_officerPin_tries c_userPin_number c_userPin_tries = some (r_, c_state', c_officerPin_tries', c_userPin_tries')) : Met l yX9_loginAnswer wsX9_loginAnswer ({ frames := 1, cells := 0, slots := 0, locals := 21 }) (zPc D cy tt sz [.ref h0, .int p1, .int p2] ([(h0, .inr (11, [.ref h0_buffer, .ref h0_slots, .ref h0_counters, .ref h0_officerPin, .ref h0_userPin, .ref h0_words, .ref h0_sha, .ref h0_stream, .ref h0_aes, .ref h0_modes, .ref h0_gcm, .ref h0_generator, .ref h0_tests, .ref h0_message, .ref h0_secret, .int c_state, .int c_testsDone, .int c_faults, .int c_streamBegun])), (h0_officerPin, .inr (7, [.int c_officerPin_number, .int c_officerPin_tries])), (h0_userPin, .inr (7, [.int c_userPin_number, .int c_userPin_tries]))])) (zQ D (some (.int r_)) ([(h0, .inr (11, [.ref h0_buffer, .ref h0_slots, .ref h0_counters, .ref h0_officerPin, .ref h0_userPin, .ref h0_words, .ref h0_sha, .ref h0_stream, .ref h0_aes, .ref h0_modes, .ref h0_gcm, .ref h0_generator, .ref h0_tests, .ref h0_message, .ref h0_secret, .int c_state', .int c_testsDone, .int c_faults, .int c_streamBegun])), (h0_officerPin, .inr (7, [.int c_officerPin_number, .int c_officerPin_tries'])), (h0_userPin, .inr (7, [.int c_userPin_number, .int c_userPin_tries']))]) (va_A ([(h0, .inr (11, [.ref h0_buffer, .ref h0_slots, .ref h0_counters, .ref h0_officerPin, .ref h0_userPin, .ref h0_words, .ref h0_sha, .ref h0_stream, .ref h0_aes, .ref h0_modes, .ref h0_gcm, .ref h0_generator, .ref h0_tests, .ref h0_message, .ref h0_secret, .int c_state, .int c_testsDone, .int c_faults, .int c_streamBegun])), (h0_officerPin, .inr (7, [.int c_officerPin_number, .int c_officerPin_tries])), (h0_userPin, .inr (7, [.int c_userPin_number, .int c_userPin_tries]))]) sz)) 0 0 (va_A ([(h0, .inr (11, [.ref h0_buffer, .ref h0_slots, .ref h0_counters, .ref h0_officerPin, .ref h0_userPin, .ref h0_words, .ref h0_sha, .ref h0_stream, .ref h0_aes, .ref h0_modes, .ref h0_gcm, .ref h0_generator, .ref h0_tests, .ref h0_message, .ref h0_secret, .int c_state, .int c_testsDone, .int c_faults, .int c_streamBegun])), (h0_officerPin, .inr (7, [.int c_officerPin_number, .int c_officerPin_tries])), (h0_userPin, .inr (7, [.int c_userPin_number, .int c_userPin_tries]))]) sz) := by
  refine Met.ofW (cc := cX9_loginAnswer) (maxL := 3) (ret := (some .int)) (by decide) rfl ?_
  intro p e s m args below meth c s₁ B hml hv
  obtain ⟨rfl, rfl, hP, hD0, hE⟩ := hv
  have hx := B.exec
  have hb := B.bytes
  have hr := B.returns
  have hts := atoms_spec (ws := wsX9_loginAnswer) B.pre
  have hown : s.vm.findClass RX9 = some m.cls := findClass_of_methodNamed B.named
  have hlocks := B.notSynchronized
  clear B
  have hD := hD0.self (sz := s.heap.size)
  generalize hAe : va_A ([(h0, .inr (11, [.ref h0_buffer, .ref h0_slots, .ref h0_counters, .ref h0_officerPin, .ref h0_userPin, .ref h0_words, .ref h0_sha, .ref h0_stream, .ref h0_aes, .ref h0_modes, .ref h0_gcm, .ref h0_generator, .ref h0_tests, .ref h0_message, .ref h0_secret, .int c_state, .int c_testsDone, .int c_faults, .int c_streamBegun])), (h0_officerPin, .inr (7, [.int c_officerPin_number, .int c_officerPin_tries])), (h0_userPin, .inr (7, [.int c_userPin_number, .int c_userPin_tries]))]) s.heap.size = A at hD hE ⊢
  have hA : ∀ q : Nat, s.heap.size ≤ q → A q := fun q h => by rw [← hAe]; exact Or.inr h
  clear hAe hD0
  have hS : va_S A s.heap s.heap [] := va_S.rf
  have hK := hE.1
  have hw0 := hts (.fieldLink RX9 101 "SealedModule" "state" "I") (by decide +kernel)
  have hcX9 : ∀ w ∈ u_ws RX9 TX9 19, w ∈ wsX9_loginAnswer := (fun _ h => List.mem_cons_of_mem _ (List.mem_append_left _ (List.mem_append_right _ h)))
  have hl := lv_entry ([.ref h0, .int p1, .int p2]) (n := 3) (Nat.le_of_ble_eq_true rfl)
  rw [lg_entry_eq]
  generalize (lg_sl ([.ref h0, .int p1, .int p2]) ++ List.replicate (3 - (lg_sl ([.ref h0, .int p1, .int p2])).length) Slot.unset).toArray = ls at hl ⊢
  replace hl : lv_has ls 3 [(0, .ref h0), (1, .int p1), (2, .int p2)] := hl
  unfold f_X9_loginAnswer at hf
  refine zgo (fun GW hTo hFr => ?_)
  refine hFr _ _ _ ?_
  obtain ⟨H, hHe⟩ : ∃ H, H = s.heap := ⟨_, rfl⟩
  obtain ⟨locs, hLe⟩ : ∃ L : List Loc, L = [] := ⟨_, rfl⟩
  rw [← hHe] at hP
  replace hS : va_S A s.heap H locs := by rw [hHe, hLe]; exact hS
  refine zat hHe.symm hLe.symm ?_
  clear hHe hLe
  refine lv_aload_n (pc := 0) hx hb (zdt_at zt_X9_loginAnswer_0 0 rfl) rfl (lv_at hl 0 rfl) ?_
  refine va_get (pc := 1) (D := D) (ci := 11) (v := .int c_state) (C := RX9) (T := TX9) (N := 19) hx hb hts hcX9 hown hK hP 0 rfl rfl 15 (by decide) hw0 (fun _ h9 => h9) rfl (zdt_at zt_X9_loginAnswer_0 1 rfl) ?_
  refine lv_iconst (pc := 4) (v := (2 : Int32)) hx hb (zdt_at zt_X9_loginAnswer_0 2 rfl) (by decide) ?_
  refine lv_icmp_eq (pc := 5) (tgt := 10) hx hb (zdt_at zt_X9_loginAnswer_0 3 rfl) (by decide) (fun cn_ => ?t_1) (fun cn_ => ?f_2)
  case f_2 =>
    replace hf := ze_s cn_ hf
    clear cn_
    refine lv_iconst (pc := 8) (v := (-1 : Int32)) hx hb (zdt_at zt_X9_loginAnswer_0 4 rfl) (by decide) ?_
    cases hf
    exact W.iret (pc := 9) hx hb hr (fun t ht hW => ⟨rfl, ⟨by rw [ht]; exact hP, hD⟩, hS.F ht⟩) hS.2.2 (zdt_at zt_X9_loginAnswer_0 5 rfl)
  replace hf := zt_s cn_ hf
  clear cn_
  refine lv_iload_n (pc := 10) hx hb (zdt_at zt_X9_loginAnswer_0 6 rfl) rfl (lv_at hl 1 rfl) ?_
  replace hf := zb_s hf
  obtain ⟨r_3, hc_, hf⟩ := hf
  refine zcs (pc := 11) (rv := (some (.int r_3))) (va_runS (As := [.int p1]) (rest := []) ⟨hx, hb, hml, hown, hts⟩ (c_X9_isRole l D cy tt H.size p1 r_3 hc_) (va_cwS 1 hts gX9_loginAnswer_X9_isRole rfl rfl rfl (by decide +kernel) ⟨Nat.le_of_ble_eq_true rfl, Nat.le_of_ble_eq_true rfl⟩) ⟨zblind, zpre hE hS (hP.sub [] rfl) (hD.sub [] (by decide) rfl) (va_free hD hS hA [] rfl)⟩ rfl rfl hl.1 rfl (lv_room (Nat.le_of_ble_eq_true rfl)) (zdt_at zt_X9_loginAnswer_0 7 rfl) ⟨Nat.zero_le _, Nat.zero_le _⟩) ?_
  clear hc_
  refine W.eq (g2 := F0 m 14 ls [.int r_3]) rfl ?_
  refine lv_if_ne (pc := 14) (tgt := 20) hx hb (zdt_at zt_X9_loginAnswer_0 8 rfl) (by decide) (fun cn_ => ?t_4) (fun cn_ => ?f_5)
  case f_5 =>
    replace hf := zt_s cn_ hf
    clear cn_
    refine lv_bipush (pc := 17) (v := (-2 : Int32)) hx hb (zdt_at zt_X9_loginAnswer_0 9 rfl) (by decide) ?_
    cases hf
    exact W.iret (pc := 19) hx hb hr (fun t ht hW => ⟨rfl, ⟨by rw [ht]; exact hP, hD⟩, hS.F ht⟩) hS.2.2 (zdt_at zt_X9_loginAnswer_0 10 rfl)
  replace hf := ze_s cn_ hf
  clear cn_
  refine lv_aload_n (pc := 20) hx hb (zdt_at zt_X9_loginAnswer_0 11 rfl) rfl (lv_at hl 0 rfl) ?_
  refine lv_iload_n (pc := 21) hx hb (zdt_at zt_X9_loginAnswer_0 12 rfl) rfl (lv_at hl 1 rfl) ?_
  replace hf := zb_s hf
  obtain ⟨r_6, hc_, hf⟩ := hf
  refine zcs (pc := 22) (rv := (some (.ref (if r_6 = 0 then h0_officerPin else h0_userPin)))) (va_runV (As := [.int p1]) (rest := []) ⟨hx, hb, hml, hown, hts⟩ (c_X9_pinOf l D cy tt H.size h0 h0_buffer h0_slots h0_counters h0_officerPin h0_userPin h0_words h0_sha h0_stream h0_aes h0_modes h0_gcm h0_generator h0_tests h0_message h0_secret p1 c_state c_testsDone c_faults c_streamBegun r_6 hc_) (cwV 1 hts gX9_loginAnswer_X9_pinOf rfl rfl rfl (by decide +kernel) ⟨Nat.le_of_ble_eq_true rfl, Nat.le_of_ble_eq_true rfl⟩) ⟨zblind, va_recv hK hP (ci := 11) (q0 := 0) rfl rfl, zpre hE hS (hP.sub [0] rfl) (hD.sub [0] (by decide) rfl) (va_free hD hS hA [0] rfl)⟩ rfl rfl hl.1 rfl (lv_room (Nat.le_of_ble_eq_true rfl)) (zdt_at zt_X9_loginAnswer_0 13 rfl) ⟨Nat.zero_le _, Nat.zero_le _⟩) ?_
  clear hc_
  refine W.eq (g2 := F0 m 25 ls [.ref (if r_6 = 0 then h0_officerPin else h0_userPin)]) rfl ?_
  by_cases hq_ : r_6 = 0
  · replace hf := zt_s hq_ hf
    refine W.eq (g2 := F0 m 25 ls [.ref h0_officerPin]) (by rw [if_pos hq_]) ?_
    clear hq_
    refine lv_iload_n (pc := 25) hx hb (zdt_at zt_X9_loginAnswer_0 14 rfl) rfl (lv_at hl 2 rfl) ?_
    replace hf := zb_s hf
    obtain ⟨⟨r_7, c_officerPin_tries_8⟩, hc_, hf⟩ := hf
    refine zcm2 (pc := 26) (rv := (some (.int r_7))) (va_runV (As := [.int p2]) (rest := []) ⟨hx, hb, hml, hown, hts⟩ (c_X5_opens l D cy tt H.size h0_officerPin p2 c_officerPin_number c_officerPin_tries r_7 c_officerPin_tries_8 hc_) (cwV 1 hts gX9_loginAnswer_X5_opens rfl rfl rfl (by decide +kernel) ⟨Nat.le_of_ble_eq_true rfl, Nat.le_of_ble_eq_true rfl⟩) ⟨zblind, va_recv hK hP (ci := 7) (q0 := 1) rfl rfl, zpre hE hS (hP.sub [1] rfl) (hD.sub [1] (by decide) rfl) (va_free hD hS hA [1] rfl)⟩ rfl rfl hl.1 rfl (lv_room (Nat.le_of_ble_eq_true rfl)) (zdt_at zt_X9_loginAnswer_0 15 rfl) ⟨Nat.zero_le _, Nat.zero_le _⟩) hS hP hD (va_free hD hS hA [1] rfl) [1] rfl (by decide) rfl ?_
    clear hP hD hS hc_
    intro H locs hP hD hS
    replace hP : va_P D vwCl ([(h0, .inr (11, [.ref h0_buffer, .ref h0_slots, .ref h0_counters, .ref h0_officerPin, .ref h0_userPin, .ref h0_words, .ref h0_sha, .ref h0_stream, .ref h0_aes, .ref h0_modes, .ref h0_gcm, .ref h0_generator, .ref h0_tests, .ref h0_message, .ref h0_secret, .int c_state, .int c_testsDone, .int c_faults, .int c_streamBegun])), (h0_officerPin, .inr (7, [.int c_officerPin_number, .int c_officerPin_tries_8])), (h0_userPin, .inr (7, [.int c_userPin_number, .int c_userPin_tries]))]) H := hP
    replace hD : va_D A ([(h0, .inr (11, [.ref h0_buffer, .ref h0_slots, .ref h0_counters, .ref h0_officerPin, .ref h0_userPin, .ref h0_words, .ref h0_sha, .ref h0_stream, .ref h0_aes, .ref h0_modes, .ref h0_gcm, .ref h0_generator, .ref h0_tests, .ref h0_message, .ref h0_secret, .int c_state, .int c_testsDone, .int c_faults, .int c_streamBegun])), (h0_officerPin, .inr (7, [.int c_officerPin_number, .int c_officerPin_tries_8])), (h0_userPin, .inr (7, [.int c_userPin_number, .int c_userPin_tries]))]) := hD
    refine W.eq (g2 := F0 m 29 ls [.int r_7]) rfl ?_
    refine lv_if_ne (pc := 29) (tgt := 35) hx hb (zdt_at zt_X9_loginAnswer_0 16 rfl) (by decide) (fun cn_ => ?t_9) (fun cn_ => ?f_10)
    case f_10 =>
      replace hf := zt_s cn_ hf
      clear cn_
      refine lv_bipush (pc := 32) (v := (-10 : Int32)) hx hb (zdt_at zt_X9_loginAnswer_0 17 rfl) (by decide) ?_
      cases hf
      exact W.iret (pc := 34) hx hb hr (fun t ht hW => ⟨rfl, ⟨by rw [ht]; exact hP, hD⟩, hS.F ht⟩) hS.2.2 (zdt_at zt_X9_loginAnswer_0 18 rfl)
    replace hf := ze_s cn_ hf
    clear cn_
    refine lv_aload_n (pc := 35) hx hb (zdt_at zt_X9_loginAnswer_0 19 rfl) rfl (lv_at hl 0 rfl) ?_
    refine lv_iload_n (pc := 36) hx hb (zdt_at zt_X9_loginAnswer_0 20 rfl) rfl (lv_at hl 1 rfl) ?_
    refine lv_iconst (pc := 37) (v := (1 : Int32)) hx hb (zdt_at zt_X9_loginAnswer_0 21 rfl) (by decide) ?_
    refine lv_icmp_ne (pc := 38) (tgt := 45) hx hb (zdt_at zt_X9_loginAnswer_0 22 rfl) (by decide) (fun cn_ => ?t_11) (fun cn_ => ?f_12)
    case t_11 =>
      replace hf := ze_s cn_ hf
      clear cn_
      refine lv_iconst (pc := 45) (v := (4 : Int32)) hx hb (zdt_at zt_X9_loginAnswer_0 25 rfl) (by decide) ?_
      refine va_put (pc := 46) (D := D) (ci := 11) (v := .int (4 : Int32)) (ty := .int) (C := RX9) (T := TX9) (N := 19) hx hb hts hcX9 tyX9 tyX9_ok nmX9 hown hK hP hD hS 0 rfl rfl 15 (by decide) hw0 (fun _ h9 => h9) rfl (by decide +kernel) rfl rfl (Nat.le_of_ble_eq_true rfl) (zdt_at zt_X9_loginAnswer_0 26 rfl) ?_
      clear hP hD hS
      intro H locs hP hD hS
      replace hP : va_P D vwCl ([(h0, .inr (11, [.ref h0_buffer, .ref h0_slots, .ref h0_counters, .ref h0_officerPin, .ref h0_userPin, .ref h0_words, .ref h0_sha, .ref h0_stream, .ref h0_aes, .ref h0_modes, .ref h0_gcm, .ref h0_generator, .ref h0_tests, .ref h0_message, .ref h0_secret, .int (4 : Int32), .int c_testsDone, .int c_faults, .int c_streamBegun])), (h0_officerPin, .inr (7, [.int c_officerPin_number, .int c_officerPin_tries_8])), (h0_userPin, .inr (7, [.int c_userPin_number, .int c_userPin_tries]))]) H := hP
      replace hD : va_D A ([(h0, .inr (11, [.ref h0_buffer, .ref h0_slots, .ref h0_counters, .ref h0_officerPin, .ref h0_userPin, .ref h0_words, .ref h0_sha, .ref h0_stream, .ref h0_aes, .ref h0_modes, .ref h0_gcm, .ref h0_generator, .ref h0_tests, .ref h0_message, .ref h0_secret, .int (4 : Int32), .int c_testsDone, .int c_faults, .int c_streamBegun])), (h0_officerPin, .inr (7, [.int c_officerPin_number, .int c_officerPin_tries_8])), (h0_userPin, .inr (7, [.int c_userPin_number, .int c_userPin_tries]))]) := hD
      refine lv_iconst (pc := 49) (v := (0 : Int32)) hx hb (zdt_at zt_X9_loginAnswer_0 27 rfl) (by decide) ?_
      cases hf
      exact W.iret (pc := 50) hx hb hr (fun t ht hW => ⟨rfl, ⟨by rw [ht]; exact hP, hD⟩, hS.F ht⟩) hS.2.2 (zdt_at zt_X9_loginAnswer_0 28 rfl)
    replace hf := zt_s cn_ hf
    clear cn_
    refine lv_iconst (pc := 41) (v := (3 : Int32)) hx hb (zdt_at zt_X9_loginAnswer_0 23 rfl) (by decide) ?_
    refine lv_goto (pc := 42) (tgt := 46) hx hb (zdt_at zt_X9_loginAnswer_0 24 rfl) (by decide) ?_
    refine va_put (pc := 46) (D := D) (ci := 11) (v := .int (3 : Int32)) (ty := .int) (C := RX9) (T := TX9) (N := 19) hx hb hts hcX9 tyX9 tyX9_ok nmX9 hown hK hP hD hS 0 rfl rfl 15 (by decide) hw0 (fun _ h9 => h9) rfl (by decide +kernel) rfl rfl (Nat.le_of_ble_eq_true rfl) (zdt_at zt_X9_loginAnswer_0 26 rfl) ?_
    clear hP hD hS
    intro H locs hP hD hS
    replace hP : va_P D vwCl ([(h0, .inr (11, [.ref h0_buffer, .ref h0_slots, .ref h0_counters, .ref h0_officerPin, .ref h0_userPin, .ref h0_words, .ref h0_sha, .ref h0_stream, .ref h0_aes, .ref h0_modes, .ref h0_gcm, .ref h0_generator, .ref h0_tests, .ref h0_message, .ref h0_secret, .int (3 : Int32), .int c_testsDone, .int c_faults, .int c_streamBegun])), (h0_officerPin, .inr (7, [.int c_officerPin_number, .int c_officerPin_tries_8])), (h0_userPin, .inr (7, [.int c_userPin_number, .int c_userPin_tries]))]) H := hP
    replace hD : va_D A ([(h0, .inr (11, [.ref h0_buffer, .ref h0_slots, .ref h0_counters, .ref h0_officerPin, .ref h0_userPin, .ref h0_words, .ref h0_sha, .ref h0_stream, .ref h0_aes, .ref h0_modes, .ref h0_gcm, .ref h0_generator, .ref h0_tests, .ref h0_message, .ref h0_secret, .int (3 : Int32), .int c_testsDone, .int c_faults, .int c_streamBegun])), (h0_officerPin, .inr (7, [.int c_officerPin_number, .int c_officerPin_tries_8])), (h0_userPin, .inr (7, [.int c_userPin_number, .int c_userPin_tries]))]) := hD
    refine lv_iconst (pc := 49) (v := (0 : Int32)) hx hb (zdt_at zt_X9_loginAnswer_0 27 rfl) (by decide) ?_
    cases hf
    exact W.iret (pc := 50) hx hb hr (fun t ht hW => ⟨rfl, ⟨by rw [ht]; exact hP, hD⟩, hS.F ht⟩) hS.2.2 (zdt_at zt_X9_loginAnswer_0 28 rfl)
  replace hf := ze_s hq_ hf
  refine W.eq (g2 := F0 m 25 ls [.ref h0_userPin]) (by rw [if_neg hq_]) ?_
  clear hq_
  refine lv_iload_n (pc := 25) hx hb (zdt_at zt_X9_loginAnswer_0 14 rfl) rfl (lv_at hl 2 rfl) ?_
  replace hf := zb_s hf
  obtain ⟨⟨r_13, c_userPin_tries_14⟩, hc_, hf⟩ := hf
  refine zcm2 (pc := 26) (rv := (some (.int r_13))) (va_runV (As := [.int p2]) (rest := []) ⟨hx, hb, hml, hown, hts⟩ (c_X5_opens l D cy tt H.size h0_userPin p2 c_userPin_number c_userPin_tries r_13 c_userPin_tries_14 hc_) (cwV 1 hts gX9_loginAnswer_X5_opens rfl rfl rfl (by decide +kernel) ⟨Nat.le_of_ble_eq_true rfl, Nat.le_of_ble_eq_true rfl⟩) ⟨zblind, va_recv hK hP (ci := 7) (q0 := 2) rfl rfl, zpre hE hS (hP.sub [2] rfl) (hD.sub [2] (by decide) rfl) (va_free hD hS hA [2] rfl)⟩ rfl rfl hl.1 rfl (lv_room (Nat.le_of_ble_eq_true rfl)) (zdt_at zt_X9_loginAnswer_0 15 rfl) ⟨Nat.zero_le _, Nat.zero_le _⟩) hS hP hD (va_free hD hS hA [2] rfl) [2] rfl (by decide) rfl ?_
  clear hP hD hS hc_
  intro H locs hP hD hS
  replace hP : va_P D vwCl ([(h0, .inr (11, [.ref h0_buffer, .ref h0_slots, .ref h0_counters, .ref h0_officerPin, .ref h0_userPin, .ref h0_words, .ref h0_sha, .ref h0_stream, .ref h0_aes, .ref h0_modes, .ref h0_gcm, .ref h0_generator, .ref h0_tests, .ref h0_message, .ref h0_secret, .int c_state, .int c_testsDone, .int c_faults, .int c_streamBegun])), (h0_officerPin, .inr (7, [.int c_officerPin_number, .int c_officerPin_tries])), (h0_userPin, .inr (7, [.int c_userPin_number, .int c_userPin_tries_14]))]) H := hP
  replace hD : va_D A ([(h0, .inr (11, [.ref h0_buffer, .ref h0_slots, .ref h0_counters, .ref h0_officerPin, .ref h0_userPin, .ref h0_words, .ref h0_sha, .ref h0_stream, .ref h0_aes, .ref h0_modes, .ref h0_gcm, .ref h0_generator, .ref h0_tests, .ref h0_message, .ref h0_secret, .int c_state, .int c_testsDone, .int c_faults, .int c_streamBegun])), (h0_officerPin, .inr (7, [.int c_officerPin_number, .int c_officerPin_tries])), (h0_userPin, .inr (7, [.int c_userPin_number, .int c_userPin_tries_14]))]) := hD
  refine W.eq (g2 := F0 m 29 ls [.int r_13]) rfl ?_
  refine lv_if_ne (pc := 29) (tgt := 35) hx hb (zdt_at zt_X9_loginAnswer_0 16 rfl) (by decide) (fun cn_ => ?t_15) (fun cn_ => ?f_16)
  case f_16 =>
    replace hf := zt_s cn_ hf
    clear cn_
    refine lv_bipush (pc := 32) (v := (-10 : Int32)) hx hb (zdt_at zt_X9_loginAnswer_0 17 rfl) (by decide) ?_
    cases hf
    exact W.iret (pc := 34) hx hb hr (fun t ht hW => ⟨rfl, ⟨by rw [ht]; exact hP, hD⟩, hS.F ht⟩) hS.2.2 (zdt_at zt_X9_loginAnswer_0 18 rfl)
  replace hf := ze_s cn_ hf
  clear cn_
  refine lv_aload_n (pc := 35) hx hb (zdt_at zt_X9_loginAnswer_0 19 rfl) rfl (lv_at hl 0 rfl) ?_
  refine lv_iload_n (pc := 36) hx hb (zdt_at zt_X9_loginAnswer_0 20 rfl) rfl (lv_at hl 1 rfl) ?_
  refine lv_iconst (pc := 37) (v := (1 : Int32)) hx hb (zdt_at zt_X9_loginAnswer_0 21 rfl) (by decide) ?_
  refine lv_icmp_ne (pc := 38) (tgt := 45) hx hb (zdt_at zt_X9_loginAnswer_0 22 rfl) (by decide) (fun cn_ => ?t_17) (fun cn_ => ?f_18)
  case t_17 =>
    replace hf := ze_s cn_ hf
    clear cn_
    refine lv_iconst (pc := 45) (v := (4 : Int32)) hx hb (zdt_at zt_X9_loginAnswer_0 25 rfl) (by decide) ?_
    refine va_put (pc := 46) (D := D) (ci := 11) (v := .int (4 : Int32)) (ty := .int) (C := RX9) (T := TX9) (N := 19) hx hb hts hcX9 tyX9 tyX9_ok nmX9 hown hK hP hD hS 0 rfl rfl 15 (by decide) hw0 (fun _ h9 => h9) rfl (by decide +kernel) rfl rfl (Nat.le_of_ble_eq_true rfl) (zdt_at zt_X9_loginAnswer_0 26 rfl) ?_
    clear hP hD hS
    intro H locs hP hD hS
    replace hP : va_P D vwCl ([(h0, .inr (11, [.ref h0_buffer, .ref h0_slots, .ref h0_counters, .ref h0_officerPin, .ref h0_userPin, .ref h0_words, .ref h0_sha, .ref h0_stream, .ref h0_aes, .ref h0_modes, .ref h0_gcm, .ref h0_generator, .ref h0_tests, .ref h0_message, .ref h0_secret, .int (4 : Int32), .int c_testsDone, .int c_faults, .int c_streamBegun])), (h0_officerPin, .inr (7, [.int c_officerPin_number, .int c_officerPin_tries])), (h0_userPin, .inr (7, [.int c_userPin_number, .int c_userPin_tries_14]))]) H := hP
    replace hD : va_D A ([(h0, .inr (11, [.ref h0_buffer, .ref h0_slots, .ref h0_counters, .ref h0_officerPin, .ref h0_userPin, .ref h0_words, .ref h0_sha, .ref h0_stream, .ref h0_aes, .ref h0_modes, .ref h0_gcm, .ref h0_generator, .ref h0_tests, .ref h0_message, .ref h0_secret, .int (4 : Int32), .int c_testsDone, .int c_faults, .int c_streamBegun])), (h0_officerPin, .inr (7, [.int c_officerPin_number, .int c_officerPin_tries])), (h0_userPin, .inr (7, [.int c_userPin_number, .int c_userPin_tries_14]))]) := hD
    refine lv_iconst (pc := 49) (v := (0 : Int32)) hx hb (zdt_at zt_X9_loginAnswer_0 27 rfl) (by decide) ?_
    cases hf
    exact W.iret (pc := 50) hx hb hr (fun t ht hW => ⟨rfl, ⟨by rw [ht]; exact hP, hD⟩, hS.F ht⟩) hS.2.2 (zdt_at zt_X9_loginAnswer_0 28 rfl)
  replace hf := zt_s cn_ hf
  clear cn_
  refine lv_iconst (pc := 41) (v := (3 : Int32)) hx hb (zdt_at zt_X9_loginAnswer_0 23 rfl) (by decide) ?_
  refine lv_goto (pc := 42) (tgt := 46) hx hb (zdt_at zt_X9_loginAnswer_0 24 rfl) (by decide) ?_
  refine va_put (pc := 46) (D := D) (ci := 11) (v := .int (3 : Int32)) (ty := .int) (C := RX9) (T := TX9) (N := 19) hx hb hts hcX9 tyX9 tyX9_ok nmX9 hown hK hP hD hS 0 rfl rfl 15 (by decide) hw0 (fun _ h9 => h9) rfl (by decide +kernel) rfl rfl (Nat.le_of_ble_eq_true rfl) (zdt_at zt_X9_loginAnswer_0 26 rfl) ?_
  clear hP hD hS
  intro H locs hP hD hS
  replace hP : va_P D vwCl ([(h0, .inr (11, [.ref h0_buffer, .ref h0_slots, .ref h0_counters, .ref h0_officerPin, .ref h0_userPin, .ref h0_words, .ref h0_sha, .ref h0_stream, .ref h0_aes, .ref h0_modes, .ref h0_gcm, .ref h0_generator, .ref h0_tests, .ref h0_message, .ref h0_secret, .int (3 : Int32), .int c_testsDone, .int c_faults, .int c_streamBegun])), (h0_officerPin, .inr (7, [.int c_officerPin_number, .int c_officerPin_tries])), (h0_userPin, .inr (7, [.int c_userPin_number, .int c_userPin_tries_14]))]) H := hP
  replace hD : va_D A ([(h0, .inr (11, [.ref h0_buffer, .ref h0_slots, .ref h0_counters, .ref h0_officerPin, .ref h0_userPin, .ref h0_words, .ref h0_sha, .ref h0_stream, .ref h0_aes, .ref h0_modes, .ref h0_gcm, .ref h0_generator, .ref h0_tests, .ref h0_message, .ref h0_secret, .int (3 : Int32), .int c_testsDone, .int c_faults, .int c_streamBegun])), (h0_officerPin, .inr (7, [.int c_officerPin_number, .int c_officerPin_tries])), (h0_userPin, .inr (7, [.int c_userPin_number, .int c_userPin_tries_14]))]) := hD
  refine lv_iconst (pc := 49) (v := (0 : Int32)) hx hb (zdt_at zt_X9_loginAnswer_0 27 rfl) (by decide) ?_
  cases hf
  exact W.iret (pc := 50) hx hb hr (fun t ht hW => ⟨rfl, ⟨by rw [ht]; exact hP, hD⟩, hS.F ht⟩) hS.2.2 (zdt_at zt_X9_loginAnswer_0 28 rfl)
def f_X9_counted (p1 : Int32) (c_counters : Nat → Int32) : Option (Int32 × (Nat → Int32)) :=
  if 0 ≤ p1 then zk (¬ ((0 : Int32) < 0 ∨ 3 ≤ (0 : Int32).toNatClampNeg)) (zk (¬ ((0 : Int32) < 0 ∨ 3 ≤ (0 : Int32).toNatClampNeg)) (some (p1, (upd c_counters (0 : Int32).toNatClampNeg ((c_counters (0 : Int32).toNatClampNeg) + (1 : Int32)))))) else zk (¬ ((1 : Int32) < 0 ∨ 3 ≤ (1 : Int32).toNatClampNeg)) (zk (¬ ((1 : Int32) < 0 ∨ 3 ≤ (1 : Int32).toNatClampNeg)) (some (p1, (upd c_counters (1 : Int32).toNatClampNeg ((c_counters (1 : Int32).toNatClampNeg) + (1 : Int32))))))
set_option maxHeartbeats 4000000 in
set_option maxRecDepth 100000 in
theorem c_X9_counted (l : Launch) (D : va_G) (cy : Nat → ClassId) (tt : Nat → Nat) (sz : Nat) (h0 : Nat) (h0_buffer : Nat) (h0_slots : Nat) (h0_counters : Nat) (h0_officerPin : Nat) (h0_userPin : Nat) (h0_words : Nat) (h0_sha : Nat) (h0_stream : Nat) (h0_aes : Nat) (h0_modes : Nat) (h0_gcm : Nat) (h0_generator : Nat) (h0_tests : Nat) (h0_message : Nat) (h0_secret : Nat) (p1 : Int32) (c_counters : Nat → Int32) (c_state : Int32) (c_testsDone : Int32) (c_faults : Int32) (c_streamBegun : Int32) (r_ : Int32) (c_counters' : Nat → Int32) (hf : f_X9_counted p1 c_counters = some (r_, c_counters')) : Met l yX9_counted wsX9_counted ({ frames := 0, cells := 0, slots := 0, locals := 0 }) (zPc D cy tt sz [.ref h0, .int p1] ([(h0, .inr (11, [.ref h0_buffer, .ref h0_slots, .ref h0_counters, .ref h0_officerPin, .ref h0_userPin, .ref h0_words, .ref h0_sha, .ref h0_stream, .ref h0_aes, .ref h0_modes, .ref h0_gcm, .ref h0_generator, .ref h0_tests, .ref h0_message, .ref h0_secret, .int c_state, .int c_testsDone, .int c_faults, .int c_streamBegun])), (h0_counters, .inl (cy 1, 3, .inl c_counters))])) (zQ D (some (.int r_)) ([(h0, .inr (11, [.ref h0_buffer, .ref h0_slots, .ref h0_counters, .ref h0_officerPin, .ref h0_userPin, .ref h0_words, .ref h0_sha, .ref h0_stream, .ref h0_aes, .ref h0_modes, .ref h0_gcm, .ref h0_generator, .ref h0_tests, .ref h0_message, .ref h0_secret, .int c_state, .int c_testsDone, .int c_faults, .int c_streamBegun])), (h0_counters, .inl (cy 1, 3, .inl c_counters'))]) (va_A ([(h0, .inr (11, [.ref h0_buffer, .ref h0_slots, .ref h0_counters, .ref h0_officerPin, .ref h0_userPin, .ref h0_words, .ref h0_sha, .ref h0_stream, .ref h0_aes, .ref h0_modes, .ref h0_gcm, .ref h0_generator, .ref h0_tests, .ref h0_message, .ref h0_secret, .int c_state, .int c_testsDone, .int c_faults, .int c_streamBegun])), (h0_counters, .inl (cy 1, 3, .inl c_counters))]) sz)) 0 0 (va_A ([(h0, .inr (11, [.ref h0_buffer, .ref h0_slots, .ref h0_counters, .ref h0_officerPin, .ref h0_userPin, .ref h0_words, .ref h0_sha, .ref h0_stream, .ref h0_aes, .ref h0_modes, .ref h0_gcm, .ref h0_generator, .ref h0_tests, .ref h0_message, .ref h0_secret, .int c_state, .int c_testsDone, .int c_faults, .int c_streamBegun])), (h0_counters, .inl (cy 1, 3, .inl c_counters))]) sz) := by
  refine Met.ofW (cc := cX9_counted) (maxL := 2) (ret := (some .int)) (by decide) rfl ?_
  intro p e s m args below meth c s₁ B hml hv
  obtain ⟨rfl, rfl, hP, hD0, hE⟩ := hv
  have hx := B.exec
  have hb := B.bytes
  have hr := B.returns
  have hts := atoms_spec (ws := wsX9_counted) B.pre
  have hown : s.vm.findClass RX9 = some m.cls := findClass_of_methodNamed B.named
  have hlocks := B.notSynchronized
  clear B
  have hD := hD0.self (sz := s.heap.size)
  generalize hAe : va_A ([(h0, .inr (11, [.ref h0_buffer, .ref h0_slots, .ref h0_counters, .ref h0_officerPin, .ref h0_userPin, .ref h0_words, .ref h0_sha, .ref h0_stream, .ref h0_aes, .ref h0_modes, .ref h0_gcm, .ref h0_generator, .ref h0_tests, .ref h0_message, .ref h0_secret, .int c_state, .int c_testsDone, .int c_faults, .int c_streamBegun])), (h0_counters, .inl (cy 1, 3, .inl c_counters))]) s.heap.size = A at hD hE ⊢
  have hA : ∀ q : Nat, s.heap.size ≤ q → A q := fun q h => by rw [← hAe]; exact Or.inr h
  clear hAe hD0
  have hS : va_S A s.heap s.heap [] := va_S.rf
  have hK := hE.1
  have hw0 := hts (.fieldLink RX9 19 "SealedModule" "counters" "[I") (by decide +kernel)
  have hcX9 : ∀ w ∈ u_ws RX9 TX9 19, w ∈ wsX9_counted := (fun _ h => List.mem_cons_of_mem _ (List.mem_append_right _ h))
  have hl := lv_entry ([.ref h0, .int p1]) (n := 2) (Nat.le_of_ble_eq_true rfl)
  rw [lg_entry_eq]
  generalize (lg_sl ([.ref h0, .int p1]) ++ List.replicate (2 - (lg_sl ([.ref h0, .int p1])).length) Slot.unset).toArray = ls at hl ⊢
  replace hl : lv_has ls 2 [(0, .ref h0), (1, .int p1)] := hl
  unfold f_X9_counted at hf
  refine zgo (fun GW hTo hFr => ?_)
  refine hFr _ _ _ ?_
  obtain ⟨H, hHe⟩ : ∃ H, H = s.heap := ⟨_, rfl⟩
  obtain ⟨locs, hLe⟩ : ∃ L : List Loc, L = [] := ⟨_, rfl⟩
  rw [← hHe] at hP
  replace hS : va_S A s.heap H locs := by rw [hHe, hLe]; exact hS
  refine zat hHe.symm hLe.symm ?_
  clear hHe hLe
  refine lv_aload_n (pc := 0) hx hb (zdt_at zt_X9_counted_0 0 rfl) rfl (lv_at hl 0 rfl) ?_
  refine va_get (pc := 1) (D := D) (ci := 11) (v := .ref h0_counters) (C := RX9) (T := TX9) (N := 19) hx hb hts hcX9 hown hK hP 0 rfl rfl 2 (by decide) hw0 (fun _ h9 => h9) rfl (zdt_at zt_X9_counted_0 1 rfl) ?_
  refine lv_iload_n (pc := 4) hx hb (zdt_at zt_X9_counted_0 2 rfl) rfl (lv_at hl 1 rfl) ?_
  refine lv_if_ge (pc := 5) (tgt := 12) hx hb (zdt_at zt_X9_counted_0 3 rfl) (by decide) (fun cn_ => ?t_1) (fun cn_ => ?f_2)
  case t_1 =>
    replace hf := zt_s cn_ hf
    clear cn_
    refine lv_iconst (pc := 12) (v := (0 : Int32)) hx hb (zdt_at zt_X9_counted_0 6 rfl) (by decide) ?_
    refine lv_dup2_11 (pc := 13) hx hb (zdt_at zt_X9_counted_0 7 rfl) rfl rfl ?_
    replace hf := zk_s hf
    refine va_iald (pc := 14) hx hb hK hP 1 1 rfl rfl hf.1 (zdt_at zt_X9_counted_0 8 rfl) ?_
    replace hf := hf.2
    refine lv_iconst (pc := 15) (v := (1 : Int32)) hx hb (zdt_at zt_X9_counted_0 9 rfl) (by decide) ?_
    refine lv_iadd (pc := 16) hx hb (zdt_at zt_X9_counted_0 10 rfl) ?_
    replace hf := zk_s hf
    refine va_iast (pc := 17) hx hb hK hP hD hS 1 1 rfl rfl hf.1 (zdt_at zt_X9_counted_0 11 rfl) ?_
    replace hf := hf.2
    clear hP hD hS
    intro H locs hP hD hS
    replace hP : va_P D vwCl ([(h0, .inr (11, [.ref h0_buffer, .ref h0_slots, .ref h0_counters, .ref h0_officerPin, .ref h0_userPin, .ref h0_words, .ref h0_sha, .ref h0_stream, .ref h0_aes, .ref h0_modes, .ref h0_gcm, .ref h0_generator, .ref h0_tests, .ref h0_message, .ref h0_secret, .int c_state, .int c_testsDone, .int c_faults, .int c_streamBegun])), (h0_counters, .inl (cy 1, 3, .inl (upd c_counters (0 : Int32).toNatClampNeg ((c_counters (0 : Int32).toNatClampNeg) + (1 : Int32)))))]) H := hP
    replace hD : va_D A ([(h0, .inr (11, [.ref h0_buffer, .ref h0_slots, .ref h0_counters, .ref h0_officerPin, .ref h0_userPin, .ref h0_words, .ref h0_sha, .ref h0_stream, .ref h0_aes, .ref h0_modes, .ref h0_gcm, .ref h0_generator, .ref h0_tests, .ref h0_message, .ref h0_secret, .int c_state, .int c_testsDone, .int c_faults, .int c_streamBegun])), (h0_counters, .inl (cy 1, 3, .inl (upd c_counters (0 : Int32).toNatClampNeg ((c_counters (0 : Int32).toNatClampNeg) + (1 : Int32)))))]) := hD
    refine lv_iload_n (pc := 18) hx hb (zdt_at zt_X9_counted_0 12 rfl) rfl (lv_at hl 1 rfl) ?_
    cases hf
    exact W.iret (pc := 19) hx hb hr (fun t ht hW => ⟨rfl, ⟨by rw [ht]; exact hP, hD⟩, hS.F ht⟩) hS.2.2 (zdt_at zt_X9_counted_0 13 rfl)
  replace hf := ze_s cn_ hf
  clear cn_
  refine lv_iconst (pc := 8) (v := (1 : Int32)) hx hb (zdt_at zt_X9_counted_0 4 rfl) (by decide) ?_
  refine lv_goto (pc := 9) (tgt := 13) hx hb (zdt_at zt_X9_counted_0 5 rfl) (by decide) ?_
  refine lv_dup2_11 (pc := 13) hx hb (zdt_at zt_X9_counted_0 7 rfl) rfl rfl ?_
  replace hf := zk_s hf
  refine va_iald (pc := 14) hx hb hK hP 1 1 rfl rfl hf.1 (zdt_at zt_X9_counted_0 8 rfl) ?_
  replace hf := hf.2
  refine lv_iconst (pc := 15) (v := (1 : Int32)) hx hb (zdt_at zt_X9_counted_0 9 rfl) (by decide) ?_
  refine lv_iadd (pc := 16) hx hb (zdt_at zt_X9_counted_0 10 rfl) ?_
  replace hf := zk_s hf
  refine va_iast (pc := 17) hx hb hK hP hD hS 1 1 rfl rfl hf.1 (zdt_at zt_X9_counted_0 11 rfl) ?_
  replace hf := hf.2
  clear hP hD hS
  intro H locs hP hD hS
  replace hP : va_P D vwCl ([(h0, .inr (11, [.ref h0_buffer, .ref h0_slots, .ref h0_counters, .ref h0_officerPin, .ref h0_userPin, .ref h0_words, .ref h0_sha, .ref h0_stream, .ref h0_aes, .ref h0_modes, .ref h0_gcm, .ref h0_generator, .ref h0_tests, .ref h0_message, .ref h0_secret, .int c_state, .int c_testsDone, .int c_faults, .int c_streamBegun])), (h0_counters, .inl (cy 1, 3, .inl (upd c_counters (1 : Int32).toNatClampNeg ((c_counters (1 : Int32).toNatClampNeg) + (1 : Int32)))))]) H := hP
  replace hD : va_D A ([(h0, .inr (11, [.ref h0_buffer, .ref h0_slots, .ref h0_counters, .ref h0_officerPin, .ref h0_userPin, .ref h0_words, .ref h0_sha, .ref h0_stream, .ref h0_aes, .ref h0_modes, .ref h0_gcm, .ref h0_generator, .ref h0_tests, .ref h0_message, .ref h0_secret, .int c_state, .int c_testsDone, .int c_faults, .int c_streamBegun])), (h0_counters, .inl (cy 1, 3, .inl (upd c_counters (1 : Int32).toNatClampNeg ((c_counters (1 : Int32).toNatClampNeg) + (1 : Int32)))))]) := hD
  refine lv_iload_n (pc := 18) hx hb (zdt_at zt_X9_counted_0 12 rfl) rfl (lv_at hl 1 rfl) ?_
  cases hf
  exact W.iret (pc := 19) hx hb hr (fun t ht hW => ⟨rfl, ⟨by rw [ht]; exact hP, hD⟩, hS.F ht⟩) hS.2.2 (zdt_at zt_X9_counted_0 13 rfl)
def f_X9_login (p1 : Int32) (p2 : Int32) (c_state : Int32) (c_counters : Nat → Int32) (c_officerPin_number : Int32) (c_officerPin_tries : Int32) (c_userPin_number : Int32) (c_userPin_tries : Int32) : Option (Int32 × Int32 × (Nat → Int32) × Int32 × Int32) :=
  (f_X9_loginAnswer p1 p2 c_state c_officerPin_number c_officerPin_tries c_userPin_number c_userPin_tries).bind (fun (r_1, c_state_2, c_officerPin_tries_3, c_userPin_tries_4) => (f_X9_counted r_1 c_counters).bind (fun (r_5, c_counters_6) => some (r_5, c_state_2, c_counters_6, c_officerPin_tries_3, c_userPin_tries_4)))
set_option maxHeartbeats 4000000 in
set_option maxRecDepth 100000 in
theorem c_X9_login (l : Launch) (D : va_G) (cy : Nat → ClassId) (tt : Nat → Nat) (sz : Nat) (h0 : Nat) (h0_buffer : Nat) (h0_slots : Nat) (h0_counters : Nat) (h0_officerPin : Nat) (h0_userPin : Nat) (h0_words : Nat) (h0_sha : Nat) (h0_stream : Nat) (h0_aes : Nat) (h0_modes : Nat) (h0_gcm : Nat) (h0_generator : Nat) (h0_tests : Nat) (h0_message : Nat) (h0_secret : Nat) (p1 : Int32) (p2 : Int32) (c_state : Int32) (c_counters : Nat → Int32) (c_officerPin_number : Int32) (c_officerPin_tries : Int32) (c_userPin_number : Int32) (c_userPin_tries : Int32) (c_testsDone : Int32) (c_faults : Int32) (c_streamBegun : Int32) (r_ : Int32) (c_state' : Int32) (c_counters' : Nat → Int32) (c_officerPin_tries' : Int32) (c_userPin_tries' : Int32) (hf : f_X9_login p1 p2 c_state c_counters c_officerPin_number c_officerPin_tries c_userPin_number c_userPin_tries = some (r_, c_state', c_counters', c_officerPin_tries', c_userPin_tries')) : Met l yX9_login wsX9_login ({ frames := 2, cells := 0, slots := 0, locals := 43 }) (zPc D cy tt sz [.ref h0, .int p1, .int p2] ([(h0, .inr (11, [.ref h0_buffer, .ref h0_slots, .ref h0_counters, .ref h0_officerPin, .ref h0_userPin, .ref h0_words, .ref h0_sha, .ref h0_stream, .ref h0_aes, .ref h0_modes, .ref h0_gcm, .ref h0_generator, .ref h0_tests, .ref h0_message, .ref h0_secret, .int c_state, .int c_testsDone, .int c_faults, .int c_streamBegun])), (h0_counters, .inl (cy 1, 3, .inl c_counters)), (h0_officerPin, .inr (7, [.int c_officerPin_number, .int c_officerPin_tries])), (h0_userPin, .inr (7, [.int c_userPin_number, .int c_userPin_tries]))])) (zQ D (some (.int r_)) ([(h0, .inr (11, [.ref h0_buffer, .ref h0_slots, .ref h0_counters, .ref h0_officerPin, .ref h0_userPin, .ref h0_words, .ref h0_sha, .ref h0_stream, .ref h0_aes, .ref h0_modes, .ref h0_gcm, .ref h0_generator, .ref h0_tests, .ref h0_message, .ref h0_secret, .int c_state', .int c_testsDone, .int c_faults, .int c_streamBegun])), (h0_counters, .inl (cy 1, 3, .inl c_counters')), (h0_officerPin, .inr (7, [.int c_officerPin_number, .int c_officerPin_tries'])), (h0_userPin, .inr (7, [.int c_userPin_number, .int c_userPin_tries']))]) (va_A ([(h0, .inr (11, [.ref h0_buffer, .ref h0_slots, .ref h0_counters, .ref h0_officerPin, .ref h0_userPin, .ref h0_words, .ref h0_sha, .ref h0_stream, .ref h0_aes, .ref h0_modes, .ref h0_gcm, .ref h0_generator, .ref h0_tests, .ref h0_message, .ref h0_secret, .int c_state, .int c_testsDone, .int c_faults, .int c_streamBegun])), (h0_counters, .inl (cy 1, 3, .inl c_counters)), (h0_officerPin, .inr (7, [.int c_officerPin_number, .int c_officerPin_tries])), (h0_userPin, .inr (7, [.int c_userPin_number, .int c_userPin_tries]))]) sz)) 0 0 (va_A ([(h0, .inr (11, [.ref h0_buffer, .ref h0_slots, .ref h0_counters, .ref h0_officerPin, .ref h0_userPin, .ref h0_words, .ref h0_sha, .ref h0_stream, .ref h0_aes, .ref h0_modes, .ref h0_gcm, .ref h0_generator, .ref h0_tests, .ref h0_message, .ref h0_secret, .int c_state, .int c_testsDone, .int c_faults, .int c_streamBegun])), (h0_counters, .inl (cy 1, 3, .inl c_counters)), (h0_officerPin, .inr (7, [.int c_officerPin_number, .int c_officerPin_tries])), (h0_userPin, .inr (7, [.int c_userPin_number, .int c_userPin_tries]))]) sz) := by
  refine Met.ofW (cc := cX9_login) (maxL := 3) (ret := (some .int)) (by decide) rfl ?_
  intro p e s m args below meth c s₁ B hml hv
  obtain ⟨rfl, rfl, hP, hD0, hE⟩ := hv
  have hx := B.exec
  have hb := B.bytes
  have hr := B.returns
  have hts := atoms_spec (ws := wsX9_login) B.pre
  have hown : s.vm.findClass RX9 = some m.cls := findClass_of_methodNamed B.named
  have hlocks := B.notSynchronized
  clear B
  have hD := hD0.self (sz := s.heap.size)
  generalize hAe : va_A ([(h0, .inr (11, [.ref h0_buffer, .ref h0_slots, .ref h0_counters, .ref h0_officerPin, .ref h0_userPin, .ref h0_words, .ref h0_sha, .ref h0_stream, .ref h0_aes, .ref h0_modes, .ref h0_gcm, .ref h0_generator, .ref h0_tests, .ref h0_message, .ref h0_secret, .int c_state, .int c_testsDone, .int c_faults, .int c_streamBegun])), (h0_counters, .inl (cy 1, 3, .inl c_counters)), (h0_officerPin, .inr (7, [.int c_officerPin_number, .int c_officerPin_tries])), (h0_userPin, .inr (7, [.int c_userPin_number, .int c_userPin_tries]))]) s.heap.size = A at hD hE ⊢
  have hA : ∀ q : Nat, s.heap.size ≤ q → A q := fun q h => by rw [← hAe]; exact Or.inr h
  clear hAe hD0
  have hS : va_S A s.heap s.heap [] := va_S.rf
  have hK := hE.1
  have hl := lv_entry ([.ref h0, .int p1, .int p2]) (n := 3) (Nat.le_of_ble_eq_true rfl)
  rw [lg_entry_eq]
  generalize (lg_sl ([.ref h0, .int p1, .int p2]) ++ List.replicate (3 - (lg_sl ([.ref h0, .int p1, .int p2])).length) Slot.unset).toArray = ls at hl ⊢
  replace hl : lv_has ls 3 [(0, .ref h0), (1, .int p1), (2, .int p2)] := hl
  unfold f_X9_login at hf
  refine zgo (fun GW hTo hFr => ?_)
  refine hFr _ _ _ ?_
  obtain ⟨H, hHe⟩ : ∃ H, H = s.heap := ⟨_, rfl⟩
  obtain ⟨locs, hLe⟩ : ∃ L : List Loc, L = [] := ⟨_, rfl⟩
  rw [← hHe] at hP
  replace hS : va_S A s.heap H locs := by rw [hHe, hLe]; exact hS
  refine zat hHe.symm hLe.symm ?_
  clear hHe hLe
  refine lv_aload_n (pc := 0) hx hb (zdt_at zt_X9_login_0 0 rfl) rfl (lv_at hl 0 rfl) ?_
  refine lv_aload_n (pc := 1) hx hb (zdt_at zt_X9_login_0 1 rfl) rfl (lv_at hl 0 rfl) ?_
  refine lv_iload_n (pc := 2) hx hb (zdt_at zt_X9_login_0 2 rfl) rfl (lv_at hl 1 rfl) ?_
  refine lv_iload_n (pc := 3) hx hb (zdt_at zt_X9_login_0 3 rfl) rfl (lv_at hl 2 rfl) ?_
  replace hf := zb_s hf
  obtain ⟨⟨r_1, c_state_2, c_officerPin_tries_3, c_userPin_tries_4⟩, hc_, hf⟩ := hf
  refine zcm2 (pc := 4) (rv := (some (.int r_1))) (va_runV (As := [.int p1, .int p2]) (rest := [.ref h0]) ⟨hx, hb, hml, hown, hts⟩ (c_X9_loginAnswer l D cy tt H.size h0 h0_buffer h0_slots h0_counters h0_officerPin h0_userPin h0_words h0_sha h0_stream h0_aes h0_modes h0_gcm h0_generator h0_tests h0_message h0_secret p1 p2 c_state c_officerPin_number c_officerPin_tries c_userPin_number c_userPin_tries c_testsDone c_faults c_streamBegun r_1 c_state_2 c_officerPin_tries_3 c_userPin_tries_4 hc_) (cwV 2 hts gX9_login_X9_loginAnswer rfl rfl rfl (by decide +kernel) ⟨Nat.le_of_ble_eq_true rfl, Nat.le_of_ble_eq_true rfl⟩) ⟨zblind, va_recv hK hP (ci := 11) (q0 := 0) rfl rfl, zpre hE hS (hP.sub [0, 2, 3] rfl) (hD.sub [0, 2, 3] (by decide) rfl) (va_free hD hS hA [0, 2, 3] rfl)⟩ rfl rfl hl.1 rfl (lv_room (Nat.le_of_ble_eq_true rfl)) (zdt_at zt_X9_login_0 4 rfl) ⟨Nat.zero_le _, Nat.zero_le _⟩) hS hP hD (va_free hD hS hA [0, 2, 3] rfl) [0, 2, 3] rfl (by decide) rfl ?_
  clear hP hD hS hc_
  intro H locs hP hD hS
  replace hP : va_P D vwCl ([(h0, .inr (11, [.ref h0_buffer, .ref h0_slots, .ref h0_counters, .ref h0_officerPin, .ref h0_userPin, .ref h0_words, .ref h0_sha, .ref h0_stream, .ref h0_aes, .ref h0_modes, .ref h0_gcm, .ref h0_generator, .ref h0_tests, .ref h0_message, .ref h0_secret, .int c_state_2, .int c_testsDone, .int c_faults, .int c_streamBegun])), (h0_counters, .inl (cy 1, 3, .inl c_counters)), (h0_officerPin, .inr (7, [.int c_officerPin_number, .int c_officerPin_tries_3])), (h0_userPin, .inr (7, [.int c_userPin_number, .int c_userPin_tries_4]))]) H := hP
  replace hD : va_D A ([(h0, .inr (11, [.ref h0_buffer, .ref h0_slots, .ref h0_counters, .ref h0_officerPin, .ref h0_userPin, .ref h0_words, .ref h0_sha, .ref h0_stream, .ref h0_aes, .ref h0_modes, .ref h0_gcm, .ref h0_generator, .ref h0_tests, .ref h0_message, .ref h0_secret, .int c_state_2, .int c_testsDone, .int c_faults, .int c_streamBegun])), (h0_counters, .inl (cy 1, 3, .inl c_counters)), (h0_officerPin, .inr (7, [.int c_officerPin_number, .int c_officerPin_tries_3])), (h0_userPin, .inr (7, [.int c_userPin_number, .int c_userPin_tries_4]))]) := hD
  refine W.eq (g2 := F0 m 7 ls [.int r_1, .ref h0]) rfl ?_
  replace hf := zb_s hf
  obtain ⟨⟨r_5, c_counters_6⟩, hc_, hf⟩ := hf
  refine zcm2 (pc := 7) (rv := (some (.int r_5))) (va_runV (As := [.int r_1]) (rest := []) ⟨hx, hb, hml, hown, hts⟩ (c_X9_counted l D cy tt H.size h0 h0_buffer h0_slots h0_counters h0_officerPin h0_userPin h0_words h0_sha h0_stream h0_aes h0_modes h0_gcm h0_generator h0_tests h0_message h0_secret r_1 c_counters c_state_2 c_testsDone c_faults c_streamBegun r_5 c_counters_6 hc_) (cwV 1 hts gX9_login_X9_counted rfl rfl rfl (by decide +kernel) ⟨Nat.le_of_ble_eq_true rfl, Nat.le_of_ble_eq_true rfl⟩) ⟨zblind, va_recv hK hP (ci := 11) (q0 := 0) rfl rfl, zpre hE hS (hP.sub [0, 1] rfl) (hD.sub [0, 1] (by decide) rfl) (va_free hD hS hA [0, 1] rfl)⟩ rfl rfl hl.1 rfl (lv_room (Nat.le_of_ble_eq_true rfl)) (zdt_at zt_X9_login_0 5 rfl) ⟨Nat.zero_le _, Nat.zero_le _⟩) hS hP hD (va_free hD hS hA [0, 1] rfl) [0, 1] rfl (by decide) rfl ?_
  clear hP hD hS hc_
  intro H locs hP hD hS
  replace hP : va_P D vwCl ([(h0, .inr (11, [.ref h0_buffer, .ref h0_slots, .ref h0_counters, .ref h0_officerPin, .ref h0_userPin, .ref h0_words, .ref h0_sha, .ref h0_stream, .ref h0_aes, .ref h0_modes, .ref h0_gcm, .ref h0_generator, .ref h0_tests, .ref h0_message, .ref h0_secret, .int c_state_2, .int c_testsDone, .int c_faults, .int c_streamBegun])), (h0_counters, .inl (cy 1, 3, .inl c_counters_6)), (h0_officerPin, .inr (7, [.int c_officerPin_number, .int c_officerPin_tries_3])), (h0_userPin, .inr (7, [.int c_userPin_number, .int c_userPin_tries_4]))]) H := hP
  replace hD : va_D A ([(h0, .inr (11, [.ref h0_buffer, .ref h0_slots, .ref h0_counters, .ref h0_officerPin, .ref h0_userPin, .ref h0_words, .ref h0_sha, .ref h0_stream, .ref h0_aes, .ref h0_modes, .ref h0_gcm, .ref h0_generator, .ref h0_tests, .ref h0_message, .ref h0_secret, .int c_state_2, .int c_testsDone, .int c_faults, .int c_streamBegun])), (h0_counters, .inl (cy 1, 3, .inl c_counters_6)), (h0_officerPin, .inr (7, [.int c_officerPin_number, .int c_officerPin_tries_3])), (h0_userPin, .inr (7, [.int c_userPin_number, .int c_userPin_tries_4]))]) := hD
  refine W.eq (g2 := F0 m 10 ls [.int r_5]) rfl ?_
  cases hf
  exact W.iret (pc := 10) hx hb hr (fun t ht hW => ⟨rfl, ⟨by rw [ht]; exact hP, hD⟩, hS.F ht⟩) hS.2.2 (zdt_at zt_X9_login_0 6 rfl)
def f_X9_endLogin (c_state : Int32) (c_streamBegun : Int32) : Option (Int32 × Int32) :=
  some ((2 : Int32), (0 : Int32))
set_option maxHeartbeats 4000000 in
set_option maxRecDepth 100000 in
theorem c_X9_endLogin (l : Launch) (D : va_G) (cy : Nat → ClassId) (tt : Nat → Nat) (sz : Nat) (h0 : Nat) (h0_buffer : Nat) (h0_slots : Nat) (h0_counters : Nat) (h0_officerPin : Nat) (h0_userPin : Nat) (h0_words : Nat) (h0_sha : Nat) (h0_stream : Nat) (h0_aes : Nat) (h0_modes : Nat) (h0_gcm : Nat) (h0_generator : Nat) (h0_tests : Nat) (h0_message : Nat) (h0_secret : Nat) (c_state : Int32) (c_streamBegun : Int32) (c_testsDone : Int32) (c_faults : Int32) (c_state' : Int32) (c_streamBegun' : Int32) (hf : f_X9_endLogin c_state c_streamBegun = some (c_state', c_streamBegun')) : Met l yX9_endLogin wsX9_endLogin ({ frames := 0, cells := 0, slots := 0, locals := 0 }) (zPc D cy tt sz [.ref h0] ([(h0, .inr (11, [.ref h0_buffer, .ref h0_slots, .ref h0_counters, .ref h0_officerPin, .ref h0_userPin, .ref h0_words, .ref h0_sha, .ref h0_stream, .ref h0_aes, .ref h0_modes, .ref h0_gcm, .ref h0_generator, .ref h0_tests, .ref h0_message, .ref h0_secret, .int c_state, .int c_testsDone, .int c_faults, .int c_streamBegun]))])) (zQ D none ([(h0, .inr (11, [.ref h0_buffer, .ref h0_slots, .ref h0_counters, .ref h0_officerPin, .ref h0_userPin, .ref h0_words, .ref h0_sha, .ref h0_stream, .ref h0_aes, .ref h0_modes, .ref h0_gcm, .ref h0_generator, .ref h0_tests, .ref h0_message, .ref h0_secret, .int c_state', .int c_testsDone, .int c_faults, .int c_streamBegun']))]) (va_A ([(h0, .inr (11, [.ref h0_buffer, .ref h0_slots, .ref h0_counters, .ref h0_officerPin, .ref h0_userPin, .ref h0_words, .ref h0_sha, .ref h0_stream, .ref h0_aes, .ref h0_modes, .ref h0_gcm, .ref h0_generator, .ref h0_tests, .ref h0_message, .ref h0_secret, .int c_state, .int c_testsDone, .int c_faults, .int c_streamBegun]))]) sz)) 0 0 (va_A ([(h0, .inr (11, [.ref h0_buffer, .ref h0_slots, .ref h0_counters, .ref h0_officerPin, .ref h0_userPin, .ref h0_words, .ref h0_sha, .ref h0_stream, .ref h0_aes, .ref h0_modes, .ref h0_gcm, .ref h0_generator, .ref h0_tests, .ref h0_message, .ref h0_secret, .int c_state, .int c_testsDone, .int c_faults, .int c_streamBegun]))]) sz) := by
  refine Met.ofW (cc := cX9_endLogin) (maxL := 1) (ret := none) (by decide) rfl ?_
  intro p e s m args below meth c s₁ B hml hv
  obtain ⟨rfl, rfl, hP, hD0, hE⟩ := hv
  have hx := B.exec
  have hb := B.bytes
  have hr := B.returns
  have hts := atoms_spec (ws := wsX9_endLogin) B.pre
  have hown : s.vm.findClass RX9 = some m.cls := findClass_of_methodNamed B.named
  have hlocks := B.notSynchronized
  clear B
  have hD := hD0.self (sz := s.heap.size)
  generalize hAe : va_A ([(h0, .inr (11, [.ref h0_buffer, .ref h0_slots, .ref h0_counters, .ref h0_officerPin, .ref h0_userPin, .ref h0_words, .ref h0_sha, .ref h0_stream, .ref h0_aes, .ref h0_modes, .ref h0_gcm, .ref h0_generator, .ref h0_tests, .ref h0_message, .ref h0_secret, .int c_state, .int c_testsDone, .int c_faults, .int c_streamBegun]))]) s.heap.size = A at hD hE ⊢
  have hA : ∀ q : Nat, s.heap.size ≤ q → A q := fun q h => by rw [← hAe]; exact Or.inr h
  clear hAe hD0
  have hS : va_S A s.heap s.heap [] := va_S.rf
  have hK := hE.1
  have hw0 := hts (.fieldLink RX9 101 "SealedModule" "state" "I") (by decide +kernel)
  have hw1 := hts (.fieldLink RX9 111 "SealedModule" "streamBegun" "Z") (by decide +kernel)
  have hcX9 : ∀ w ∈ u_ws RX9 TX9 19, w ∈ wsX9_endLogin := (fun _ h => List.mem_cons_of_mem _ (List.mem_append_right _ h))
  have hl := lv_entry ([.ref h0]) (n := 1) (Nat.le_of_ble_eq_true rfl)
  rw [lg_entry_eq]
  generalize (lg_sl ([.ref h0]) ++ List.replicate (1 - (lg_sl ([.ref h0])).length) Slot.unset).toArray = ls at hl ⊢
  replace hl : lv_has ls 1 [(0, .ref h0)] := hl
  unfold f_X9_endLogin at hf
  refine zgo (fun GW hTo hFr => ?_)
  refine hFr _ _ _ ?_
  obtain ⟨H, hHe⟩ : ∃ H, H = s.heap := ⟨_, rfl⟩
  obtain ⟨locs, hLe⟩ : ∃ L : List Loc, L = [] := ⟨_, rfl⟩
  rw [← hHe] at hP
  replace hS : va_S A s.heap H locs := by rw [hHe, hLe]; exact hS
  refine zat hHe.symm hLe.symm ?_
  clear hHe hLe
  refine lv_aload_n (pc := 0) hx hb (zdt_at zt_X9_endLogin_0 0 rfl) rfl (lv_at hl 0 rfl) ?_
  refine lv_iconst (pc := 1) (v := (2 : Int32)) hx hb (zdt_at zt_X9_endLogin_0 1 rfl) (by decide) ?_
  refine va_put (pc := 2) (D := D) (ci := 11) (v := .int (2 : Int32)) (ty := .int) (C := RX9) (T := TX9) (N := 19) hx hb hts hcX9 tyX9 tyX9_ok nmX9 hown hK hP hD hS 0 rfl rfl 15 (by decide) hw0 (fun _ h9 => h9) rfl (by decide +kernel) rfl rfl (Nat.le_of_ble_eq_true rfl) (zdt_at zt_X9_endLogin_0 2 rfl) ?_
  clear hP hD hS
  intro H locs hP hD hS
  replace hP : va_P D vwCl ([(h0, .inr (11, [.ref h0_buffer, .ref h0_slots, .ref h0_counters, .ref h0_officerPin, .ref h0_userPin, .ref h0_words, .ref h0_sha, .ref h0_stream, .ref h0_aes, .ref h0_modes, .ref h0_gcm, .ref h0_generator, .ref h0_tests, .ref h0_message, .ref h0_secret, .int (2 : Int32), .int c_testsDone, .int c_faults, .int c_streamBegun]))]) H := hP
  replace hD : va_D A ([(h0, .inr (11, [.ref h0_buffer, .ref h0_slots, .ref h0_counters, .ref h0_officerPin, .ref h0_userPin, .ref h0_words, .ref h0_sha, .ref h0_stream, .ref h0_aes, .ref h0_modes, .ref h0_gcm, .ref h0_generator, .ref h0_tests, .ref h0_message, .ref h0_secret, .int (2 : Int32), .int c_testsDone, .int c_faults, .int c_streamBegun]))]) := hD
  refine lv_aload_n (pc := 5) hx hb (zdt_at zt_X9_endLogin_0 3 rfl) rfl (lv_at hl 0 rfl) ?_
  refine lv_iconst (pc := 6) (v := (0 : Int32)) hx hb (zdt_at zt_X9_endLogin_0 4 rfl) (by decide) ?_
  refine va_put (pc := 7) (D := D) (ci := 11) (v := .int (0 : Int32)) (ty := .boolean) (C := RX9) (T := TX9) (N := 19) hx hb hts hcX9 tyX9 tyX9_ok nmX9 hown hK hP hD hS 0 rfl rfl 18 (by decide) hw1 (fun _ h9 => h9) rfl (by decide +kernel) (by first | rfl | decide) (by first | rfl | decide) (Nat.le_of_ble_eq_true rfl) (zdt_at zt_X9_endLogin_0 5 rfl) ?_
  clear hP hD hS
  intro H locs hP hD hS
  replace hP : va_P D vwCl ([(h0, .inr (11, [.ref h0_buffer, .ref h0_slots, .ref h0_counters, .ref h0_officerPin, .ref h0_userPin, .ref h0_words, .ref h0_sha, .ref h0_stream, .ref h0_aes, .ref h0_modes, .ref h0_gcm, .ref h0_generator, .ref h0_tests, .ref h0_message, .ref h0_secret, .int (2 : Int32), .int c_testsDone, .int c_faults, .int (0 : Int32)]))]) H := hP
  replace hD : va_D A ([(h0, .inr (11, [.ref h0_buffer, .ref h0_slots, .ref h0_counters, .ref h0_officerPin, .ref h0_userPin, .ref h0_words, .ref h0_sha, .ref h0_stream, .ref h0_aes, .ref h0_modes, .ref h0_gcm, .ref h0_generator, .ref h0_tests, .ref h0_message, .ref h0_secret, .int (2 : Int32), .int c_testsDone, .int c_faults, .int (0 : Int32)]))]) := hD
  cases hf
  exact W.vret (pc := 10) hx hb hr (fun t ht hW => ⟨rfl, ⟨by rw [ht]; exact hP, hD⟩, hS.F ht⟩) hS.2.2 (zdt_at zt_X9_endLogin_0 6 rfl)
def f_X9_logout (c_state : Int32) (c_streamBegun : Int32) : Option (Int32 × Int32) :=
  (f_X9_loggedIn c_state).bind (fun r_1 => if r_1 = 0 then none else (f_X9_endLogin c_state c_streamBegun).bind (fun (c_state_4, c_streamBegun_5) => some (c_state_4, c_streamBegun_5)))
set_option maxHeartbeats 4000000 in
set_option maxRecDepth 100000 in
theorem c_X9_logout (l : Launch) (D : va_G) (cy : Nat → ClassId) (tt : Nat → Nat) (sz : Nat) (h0 : Nat) (h0_buffer : Nat) (h0_slots : Nat) (h0_counters : Nat) (h0_officerPin : Nat) (h0_userPin : Nat) (h0_words : Nat) (h0_sha : Nat) (h0_stream : Nat) (h0_aes : Nat) (h0_modes : Nat) (h0_gcm : Nat) (h0_generator : Nat) (h0_tests : Nat) (h0_message : Nat) (h0_secret : Nat) (c_state : Int32) (c_streamBegun : Int32) (c_testsDone : Int32) (c_faults : Int32) (c_state' : Int32) (c_streamBegun' : Int32) (hf : f_X9_logout c_state c_streamBegun = some (c_state', c_streamBegun')) : Met l yX9_logout wsX9_logout ({ frames := 1, cells := 0, slots := 0, locals := 20 }) (zPc D cy tt sz [.ref h0] ([(h0, .inr (11, [.ref h0_buffer, .ref h0_slots, .ref h0_counters, .ref h0_officerPin, .ref h0_userPin, .ref h0_words, .ref h0_sha, .ref h0_stream, .ref h0_aes, .ref h0_modes, .ref h0_gcm, .ref h0_generator, .ref h0_tests, .ref h0_message, .ref h0_secret, .int c_state, .int c_testsDone, .int c_faults, .int c_streamBegun]))])) (zQ D none ([(h0, .inr (11, [.ref h0_buffer, .ref h0_slots, .ref h0_counters, .ref h0_officerPin, .ref h0_userPin, .ref h0_words, .ref h0_sha, .ref h0_stream, .ref h0_aes, .ref h0_modes, .ref h0_gcm, .ref h0_generator, .ref h0_tests, .ref h0_message, .ref h0_secret, .int c_state', .int c_testsDone, .int c_faults, .int c_streamBegun']))]) (va_A ([(h0, .inr (11, [.ref h0_buffer, .ref h0_slots, .ref h0_counters, .ref h0_officerPin, .ref h0_userPin, .ref h0_words, .ref h0_sha, .ref h0_stream, .ref h0_aes, .ref h0_modes, .ref h0_gcm, .ref h0_generator, .ref h0_tests, .ref h0_message, .ref h0_secret, .int c_state, .int c_testsDone, .int c_faults, .int c_streamBegun]))]) sz)) 0 0 (va_A ([(h0, .inr (11, [.ref h0_buffer, .ref h0_slots, .ref h0_counters, .ref h0_officerPin, .ref h0_userPin, .ref h0_words, .ref h0_sha, .ref h0_stream, .ref h0_aes, .ref h0_modes, .ref h0_gcm, .ref h0_generator, .ref h0_tests, .ref h0_message, .ref h0_secret, .int c_state, .int c_testsDone, .int c_faults, .int c_streamBegun]))]) sz) := by
  refine Met.ofW (cc := cX9_logout) (maxL := 1) (ret := none) (by decide) rfl ?_
  intro p e s m args below meth c s₁ B hml hv
  obtain ⟨rfl, rfl, hP, hD0, hE⟩ := hv
  have hx := B.exec
  have hb := B.bytes
  have hr := B.returns
  have hts := atoms_spec (ws := wsX9_logout) B.pre
  have hown : s.vm.findClass RX9 = some m.cls := findClass_of_methodNamed B.named
  have hlocks := B.notSynchronized
  clear B
  have hD := hD0.self (sz := s.heap.size)
  generalize hAe : va_A ([(h0, .inr (11, [.ref h0_buffer, .ref h0_slots, .ref h0_counters, .ref h0_officerPin, .ref h0_userPin, .ref h0_words, .ref h0_sha, .ref h0_stream, .ref h0_aes, .ref h0_modes, .ref h0_gcm, .ref h0_generator, .ref h0_tests, .ref h0_message, .ref h0_secret, .int c_state, .int c_testsDone, .int c_faults, .int c_streamBegun]))]) s.heap.size = A at hD hE ⊢
  have hA : ∀ q : Nat, s.heap.size ≤ q → A q := fun q h => by rw [← hAe]; exact Or.inr h
  clear hAe hD0
  have hS : va_S A s.heap s.heap [] := va_S.rf
  have hK := hE.1
  have hl := lv_entry ([.ref h0]) (n := 1) (Nat.le_of_ble_eq_true rfl)
  rw [lg_entry_eq]
  generalize (lg_sl ([.ref h0]) ++ List.replicate (1 - (lg_sl ([.ref h0])).length) Slot.unset).toArray = ls at hl ⊢
  replace hl : lv_has ls 1 [(0, .ref h0)] := hl
  unfold f_X9_logout at hf
  refine zgo (fun GW hTo hFr => ?_)
  refine hFr _ _ _ ?_
  obtain ⟨H, hHe⟩ : ∃ H, H = s.heap := ⟨_, rfl⟩
  obtain ⟨locs, hLe⟩ : ∃ L : List Loc, L = [] := ⟨_, rfl⟩
  rw [← hHe] at hP
  replace hS : va_S A s.heap H locs := by rw [hHe, hLe]; exact hS
  refine zat hHe.symm hLe.symm ?_
  clear hHe hLe
  refine lv_aload_n (pc := 0) hx hb (zdt_at zt_X9_logout_0 0 rfl) rfl (lv_at hl 0 rfl) ?_
  replace hf := zb_s hf
  obtain ⟨r_1, hc_, hf⟩ := hf
  refine zcs (pc := 1) (rv := (some (.int r_1))) (va_runV (As := []) (rest := []) ⟨hx, hb, hml, hown, hts⟩ (c_X9_loggedIn l D cy tt H.size h0 h0_buffer h0_slots h0_counters h0_officerPin h0_userPin h0_words h0_sha h0_stream h0_aes h0_modes h0_gcm h0_generator h0_tests h0_message h0_secret c_state c_testsDone c_faults c_streamBegun r_1 hc_) (cwV 0 hts gX9_logout_X9_loggedIn rfl rfl rfl (by decide +kernel) ⟨Nat.le_of_ble_eq_true rfl, Nat.le_of_ble_eq_true rfl⟩) ⟨zblind, va_recv hK hP (ci := 11) (q0 := 0) rfl rfl, zpre hE hS (hP.sub [0] rfl) (hD.sub [0] (by decide) rfl) (va_free hD hS hA [0] rfl)⟩ rfl rfl hl.1 rfl (lv_room (Nat.le_of_ble_eq_true rfl)) (zdt_at zt_X9_logout_0 1 rfl) ⟨Nat.zero_le _, Nat.zero_le _⟩) ?_
  clear hc_
  refine W.eq (g2 := F0 m 4 ls [.int r_1]) rfl ?_
  refine lv_if_ne (pc := 4) (tgt := 17) hx hb (zdt_at zt_X9_logout_0 2 rfl) (by decide) (fun cn_ => ?t_2) (fun cn_ => ?f_3)
  case f_3 =>
    replace hf := zt_s cn_ hf
    clear cn_
    exact absurd hf (by simp)
  replace hf := ze_s cn_ hf
  clear cn_
  refine lv_aload_n (pc := 17) hx hb (zdt_at zt_X9_logout_0 8 rfl) rfl (lv_at hl 0 rfl) ?_
  replace hf := zb_s hf
  obtain ⟨⟨c_state_4, c_streamBegun_5⟩, hc_, hf⟩ := hf
  refine zcm2 (pc := 18) (rv := none) (va_runV (As := []) (rest := []) ⟨hx, hb, hml, hown, hts⟩ (c_X9_endLogin l D cy tt H.size h0 h0_buffer h0_slots h0_counters h0_officerPin h0_userPin h0_words h0_sha h0_stream h0_aes h0_modes h0_gcm h0_generator h0_tests h0_message h0_secret c_state c_streamBegun c_testsDone c_faults c_state_4 c_streamBegun_5 hc_) (cwV 0 hts gX9_logout_X9_endLogin rfl rfl rfl (by decide +kernel) ⟨Nat.le_of_ble_eq_true rfl, Nat.le_of_ble_eq_true rfl⟩) ⟨zblind, va_recv hK hP (ci := 11) (q0 := 0) rfl rfl, zpre hE hS (hP.sub [0] rfl) (hD.sub [0] (by decide) rfl) (va_free hD hS hA [0] rfl)⟩ rfl rfl hl.1 rfl (lv_room (Nat.le_of_ble_eq_true rfl)) (zdt_at zt_X9_logout_0 9 rfl) ⟨Nat.zero_le _, Nat.zero_le _⟩) hS hP hD (va_free hD hS hA [0] rfl) [0] rfl (by decide) rfl ?_
  clear hP hD hS hc_
  intro H locs hP hD hS
  replace hP : va_P D vwCl ([(h0, .inr (11, [.ref h0_buffer, .ref h0_slots, .ref h0_counters, .ref h0_officerPin, .ref h0_userPin, .ref h0_words, .ref h0_sha, .ref h0_stream, .ref h0_aes, .ref h0_modes, .ref h0_gcm, .ref h0_generator, .ref h0_tests, .ref h0_message, .ref h0_secret, .int c_state_4, .int c_testsDone, .int c_faults, .int c_streamBegun_5]))]) H := hP
  replace hD : va_D A ([(h0, .inr (11, [.ref h0_buffer, .ref h0_slots, .ref h0_counters, .ref h0_officerPin, .ref h0_userPin, .ref h0_words, .ref h0_sha, .ref h0_stream, .ref h0_aes, .ref h0_modes, .ref h0_gcm, .ref h0_generator, .ref h0_tests, .ref h0_message, .ref h0_secret, .int c_state_4, .int c_testsDone, .int c_faults, .int c_streamBegun_5]))]) := hD
  refine W.eq (g2 := F0 m 21 ls []) rfl ?_
  cases hf
  exact W.vret (pc := 21) hx hb hr (fun t ht hW => ⟨rfl, ⟨by rw [ht]; exact hP, hD⟩, hS.F ht⟩) hS.2.2 (zdt_at zt_X9_logout_0 10 rfl)
def f_X9_setPinAnswer (p1 : Int32) (p2 : Int32) (c_state : Int32) (c_officerPin_number : Int32) (c_officerPin_tries : Int32) (c_userPin_number : Int32) (c_userPin_tries : Int32) : Option (Int32 × Int32 × Int32 × Int32 × Int32) :=
  (f_X9_loggedIn c_state).bind (fun r_1 => if r_1 = 0 then some ((-1 : Int32), c_officerPin_number, c_officerPin_tries, c_userPin_number, c_userPin_tries) else (f_X9_isRole p1).bind (fun r_4 => if r_4 = 0 then some ((-2 : Int32), c_officerPin_number, c_officerPin_tries, c_userPin_number, c_userPin_tries) else if p2 < 0 then some ((-2 : Int32), c_officerPin_number, c_officerPin_tries, c_userPin_number, c_userPin_tries) else if p2 ≤ (999999 : Int32) then if c_state = (3 : Int32) then (f_X9_pinOf p1).bind (fun r_13 => if r_13 = 0 then (f_X5_renew p2 c_officerPin_number c_officerPin_tries).bind (fun (c_officerPin_number_14, c_officerPin_tries_15) => some ((0 : Int32), c_officerPin_number_14, c_officerPin_tries_15, c_userPin_number, c_userPin_tries)) else (f_X5_renew p2 c_userPin_number c_userPin_tries).bind (fun (c_userPin_number_16, c_userPin_tries_17) => some ((0 : Int32), c_officerPin_number, c_officerPin_tries, c_userPin_number_16, c_userPin_tries_17))) else some ((-3 : Int32), c_officerPin_number, c_officerPin_tries, c_userPin_number, c_userPin_tries) else some ((-2 : Int32), c_officerPin_number, c_officerPin_tries, c_userPin_number, c_userPin_tries)))
set_option maxHeartbeats 4000000 in
set_option maxRecDepth 100000 in
theorem c_X9_setPinAnswer (l : Launch) (D : va_G) (cy : Nat → ClassId) (tt : Nat → Nat) (sz : Nat) (h0 : Nat) (h0_buffer : Nat) (h0_slots : Nat) (h0_counters : Nat) (h0_officerPin : Nat) (h0_userPin : Nat) (h0_words : Nat) (h0_sha : Nat) (h0_stream : Nat) (h0_aes : Nat) (h0_modes : Nat) (h0_gcm : Nat) (h0_generator : Nat) (h0_tests : Nat) (h0_message : Nat) (h0_secret : Nat) (p1 : Int32) (p2 : Int32) (c_state : Int32) (c_officerPin_number : Int32) (c_officerPin_tries : Int32) (c_userPin_number : Int32) (c_userPin_tries : Int32) (c_testsDone : Int32) (c_faults : Int32) (c_streamBegun : Int32) (r_ : Int32) (c_officerPin_number' : Int32) (c_officerPin_tries' : Int32) (c_userPin_number' : Int32) (c_userPin_tries' : Int32) (hf : f_X9_setPinAnswer p1 p2 c_state c_officerPin_number c_officerPin_tries c_userPin_number c_userPin_tries = some (r_, c_officerPin_number', c_officerPin_tries', c_userPin_number', c_userPin_tries')) : Met l yX9_setPinAnswer wsX9_setPinAnswer ({ frames := 1, cells := 0, slots := 0, locals := 21 }) (zPc D cy tt sz [.ref h0, .int p1, .int p2] ([(h0, .inr (11, [.ref h0_buffer, .ref h0_slots, .ref h0_counters, .ref h0_officerPin, .ref h0_userPin, .ref h0_words, .ref h0_sha, .ref h0_stream, .ref h0_aes, .ref h0_modes, .ref h0_gcm, .ref h0_generator, .ref h0_tests, .ref h0_message, .ref h0_secret, .int c_state, .int c_testsDone, .int c_faults, .int c_streamBegun])), (h0_officerPin, .inr (7, [.int c_officerPin_number, .int c_officerPin_tries])), (h0_userPin, .inr (7, [.int c_userPin_number, .int c_userPin_tries]))])) (zQ D (some (.int r_)) ([(h0, .inr (11, [.ref h0_buffer, .ref h0_slots, .ref h0_counters, .ref h0_officerPin, .ref h0_userPin, .ref h0_words, .ref h0_sha, .ref h0_stream, .ref h0_aes, .ref h0_modes, .ref h0_gcm, .ref h0_generator, .ref h0_tests, .ref h0_message, .ref h0_secret, .int c_state, .int c_testsDone, .int c_faults, .int c_streamBegun])), (h0_officerPin, .inr (7, [.int c_officerPin_number', .int c_officerPin_tries'])), (h0_userPin, .inr (7, [.int c_userPin_number', .int c_userPin_tries']))]) (va_A ([(h0, .inr (11, [.ref h0_buffer, .ref h0_slots, .ref h0_counters, .ref h0_officerPin, .ref h0_userPin, .ref h0_words, .ref h0_sha, .ref h0_stream, .ref h0_aes, .ref h0_modes, .ref h0_gcm, .ref h0_generator, .ref h0_tests, .ref h0_message, .ref h0_secret, .int c_state, .int c_testsDone, .int c_faults, .int c_streamBegun])), (h0_officerPin, .inr (7, [.int c_officerPin_number, .int c_officerPin_tries])), (h0_userPin, .inr (7, [.int c_userPin_number, .int c_userPin_tries]))]) sz)) 0 0 (va_A ([(h0, .inr (11, [.ref h0_buffer, .ref h0_slots, .ref h0_counters, .ref h0_officerPin, .ref h0_userPin, .ref h0_words, .ref h0_sha, .ref h0_stream, .ref h0_aes, .ref h0_modes, .ref h0_gcm, .ref h0_generator, .ref h0_tests, .ref h0_message, .ref h0_secret, .int c_state, .int c_testsDone, .int c_faults, .int c_streamBegun])), (h0_officerPin, .inr (7, [.int c_officerPin_number, .int c_officerPin_tries])), (h0_userPin, .inr (7, [.int c_userPin_number, .int c_userPin_tries]))]) sz) := by
  refine Met.ofW (cc := cX9_setPinAnswer) (maxL := 3) (ret := (some .int)) (by decide) rfl ?_
  intro p e s m args below meth c s₁ B hml hv
  obtain ⟨rfl, rfl, hP, hD0, hE⟩ := hv
  have hx := B.exec
  have hb := B.bytes
  have hr := B.returns
  have hts := atoms_spec (ws := wsX9_setPinAnswer) B.pre
  have hown : s.vm.findClass RX9 = some m.cls := findClass_of_methodNamed B.named
  have hlocks := B.notSynchronized
  clear B
  have hD := hD0.self (sz := s.heap.size)
  generalize hAe : va_A ([(h0, .inr (11, [.ref h0_buffer, .ref h0_slots, .ref h0_counters, .ref h0_officerPin, .ref h0_userPin, .ref h0_words, .ref h0_sha, .ref h0_stream, .ref h0_aes, .ref h0_modes, .ref h0_gcm, .ref h0_generator, .ref h0_tests, .ref h0_message, .ref h0_secret, .int c_state, .int c_testsDone, .int c_faults, .int c_streamBegun])), (h0_officerPin, .inr (7, [.int c_officerPin_number, .int c_officerPin_tries])), (h0_userPin, .inr (7, [.int c_userPin_number, .int c_userPin_tries]))]) s.heap.size = A at hD hE ⊢
  have hA : ∀ q : Nat, s.heap.size ≤ q → A q := fun q h => by rw [← hAe]; exact Or.inr h
  clear hAe hD0
  have hS : va_S A s.heap s.heap [] := va_S.rf
  have hK := hE.1
  have hw0 := hts (.constant RX9 189 (999999)) (by decide +kernel)
  have hw1 := hts (.fieldLink RX9 101 "SealedModule" "state" "I") (by decide +kernel)
  have hcX9 : ∀ w ∈ u_ws RX9 TX9 19, w ∈ wsX9_setPinAnswer := (fun _ h => List.mem_cons_of_mem _ (List.mem_append_left _ (List.mem_append_right _ h)))
  have hl := lv_entry ([.ref h0, .int p1, .int p2]) (n := 3) (Nat.le_of_ble_eq_true rfl)
  rw [lg_entry_eq]
  generalize (lg_sl ([.ref h0, .int p1, .int p2]) ++ List.replicate (3 - (lg_sl ([.ref h0, .int p1, .int p2])).length) Slot.unset).toArray = ls at hl ⊢
  replace hl : lv_has ls 3 [(0, .ref h0), (1, .int p1), (2, .int p2)] := hl
  unfold f_X9_setPinAnswer at hf
  refine zgo (fun GW hTo hFr => ?_)
  refine hFr _ _ _ ?_
  obtain ⟨H, hHe⟩ : ∃ H, H = s.heap := ⟨_, rfl⟩
  obtain ⟨locs, hLe⟩ : ∃ L : List Loc, L = [] := ⟨_, rfl⟩
  rw [← hHe] at hP
  replace hS : va_S A s.heap H locs := by rw [hHe, hLe]; exact hS
  refine zat hHe.symm hLe.symm ?_
  clear hHe hLe
  refine lv_aload_n (pc := 0) hx hb (zdt_at zt_X9_setPinAnswer_0 0 rfl) rfl (lv_at hl 0 rfl) ?_
  replace hf := zb_s hf
  obtain ⟨r_1, hc_, hf⟩ := hf
  refine zcs (pc := 1) (rv := (some (.int r_1))) (va_runV (As := []) (rest := []) ⟨hx, hb, hml, hown, hts⟩ (c_X9_loggedIn l D cy tt H.size h0 h0_buffer h0_slots h0_counters h0_officerPin h0_userPin h0_words h0_sha h0_stream h0_aes h0_modes h0_gcm h0_generator h0_tests h0_message h0_secret c_state c_testsDone c_faults c_streamBegun r_1 hc_) (cwV 0 hts gX9_setPinAnswer_X9_loggedIn rfl rfl rfl (by decide +kernel) ⟨Nat.le_of_ble_eq_true rfl, Nat.le_of_ble_eq_true rfl⟩) ⟨zblind, va_recv hK hP (ci := 11) (q0 := 0) rfl rfl, zpre hE hS (hP.sub [0] rfl) (hD.sub [0] (by decide) rfl) (va_free hD hS hA [0] rfl)⟩ rfl rfl hl.1 rfl (lv_room (Nat.le_of_ble_eq_true rfl)) (zdt_at zt_X9_setPinAnswer_0 1 rfl) ⟨Nat.zero_le _, Nat.zero_le _⟩) ?_
  clear hc_
  refine W.eq (g2 := F0 m 4 ls [.int r_1]) rfl ?_
  refine lv_if_ne (pc := 4) (tgt := 9) hx hb (zdt_at zt_X9_setPinAnswer_0 2 rfl) (by decide) (fun cn_ => ?t_2) (fun cn_ => ?f_3)
  case f_3 =>
    replace hf := zt_s cn_ hf
    clear cn_
    refine lv_iconst (pc := 7) (v := (-1 : Int32)) hx hb (zdt_at zt_X9_setPinAnswer_0 3 rfl) (by decide) ?_
    cases hf
    exact W.iret (pc := 8) hx hb hr (fun t ht hW => ⟨rfl, ⟨by rw [ht]; exact hP, hD⟩, hS.F ht⟩) hS.2.2 (zdt_at zt_X9_setPinAnswer_0 4 rfl)
  replace hf := ze_s cn_ hf
  clear cn_
  refine lv_iload_n (pc := 9) hx hb (zdt_at zt_X9_setPinAnswer_0 5 rfl) rfl (lv_at hl 1 rfl) ?_
  replace hf := zb_s hf
  obtain ⟨r_4, hc_, hf⟩ := hf
  refine zcs (pc := 10) (rv := (some (.int r_4))) (va_runS (As := [.int p1]) (rest := []) ⟨hx, hb, hml, hown, hts⟩ (c_X9_isRole l D cy tt H.size p1 r_4 hc_) (va_cwS 1 hts gX9_setPinAnswer_X9_isRole rfl rfl rfl (by decide +kernel) ⟨Nat.le_of_ble_eq_true rfl, Nat.le_of_ble_eq_true rfl⟩) ⟨zblind, zpre hE hS (hP.sub [] rfl) (hD.sub [] (by decide) rfl) (va_free hD hS hA [] rfl)⟩ rfl rfl hl.1 rfl (lv_room (Nat.le_of_ble_eq_true rfl)) (zdt_at zt_X9_setPinAnswer_0 6 rfl) ⟨Nat.zero_le _, Nat.zero_le _⟩) ?_
  clear hc_
  refine W.eq (g2 := F0 m 13 ls [.int r_4]) rfl ?_
  refine lv_if_eq (pc := 13) (tgt := 26) hx hb (zdt_at zt_X9_setPinAnswer_0 7 rfl) (by decide) (fun cn_ => ?t_5) (fun cn_ => ?f_6)
  case t_5 =>
    replace hf := zt_s cn_ hf
    clear cn_
    refine lv_bipush (pc := 26) (v := (-2 : Int32)) hx hb (zdt_at zt_X9_setPinAnswer_0 13 rfl) (by decide) ?_
    cases hf
    exact W.iret (pc := 28) hx hb hr (fun t ht hW => ⟨rfl, ⟨by rw [ht]; exact hP, hD⟩, hS.F ht⟩) hS.2.2 (zdt_at zt_X9_setPinAnswer_0 14 rfl)
  replace hf := ze_s cn_ hf
  clear cn_
  refine lv_iload_n (pc := 16) hx hb (zdt_at zt_X9_setPinAnswer_0 8 rfl) rfl (lv_at hl 2 rfl) ?_
  refine lv_if_lt (pc := 17) (tgt := 26) hx hb (zdt_at zt_X9_setPinAnswer_0 9 rfl) (by decide) (fun cn_ => ?t_7) (fun cn_ => ?f_8)
  case t_7 =>
    replace hf := zt_s cn_ hf
    clear cn_
    refine lv_bipush (pc := 26) (v := (-2 : Int32)) hx hb (zdt_at zt_X9_setPinAnswer_0 13 rfl) (by decide) ?_
    cases hf
    exact W.iret (pc := 28) hx hb hr (fun t ht hW => ⟨rfl, ⟨by rw [ht]; exact hP, hD⟩, hS.F ht⟩) hS.2.2 (zdt_at zt_X9_setPinAnswer_0 14 rfl)
  replace hf := ze_s cn_ hf
  clear cn_
  refine lv_iload_n (pc := 20) hx hb (zdt_at zt_X9_setPinAnswer_0 10 rfl) rfl (lv_at hl 2 rfl) ?_
  refine lv_ldc (pc := 21) hx hb hown hw0 (zdt_at zt_X9_setPinAnswer_0 11 rfl) ?_
  refine lv_icmp_le (pc := 23) (tgt := 29) hx hb (zdt_at zt_X9_setPinAnswer_0 12 rfl) (by decide) (fun cn_ => ?t_9) (fun cn_ => ?f_10)
  case f_10 =>
    replace hf := ze_s cn_ hf
    clear cn_
    refine lv_bipush (pc := 26) (v := (-2 : Int32)) hx hb (zdt_at zt_X9_setPinAnswer_0 13 rfl) (by decide) ?_
    cases hf
    exact W.iret (pc := 28) hx hb hr (fun t ht hW => ⟨rfl, ⟨by rw [ht]; exact hP, hD⟩, hS.F ht⟩) hS.2.2 (zdt_at zt_X9_setPinAnswer_0 14 rfl)
  replace hf := zt_s cn_ hf
  clear cn_
  refine lv_aload_n (pc := 29) hx hb (zdt_at zt_X9_setPinAnswer_0 15 rfl) rfl (lv_at hl 0 rfl) ?_
  refine va_get (pc := 30) (D := D) (ci := 11) (v := .int c_state) (C := RX9) (T := TX9) (N := 19) hx hb hts hcX9 hown hK hP 0 rfl rfl 15 (by decide) hw1 (fun _ h9 => h9) rfl (zdt_at zt_X9_setPinAnswer_0 16 rfl) ?_
  refine lv_iconst (pc := 33) (v := (3 : Int32)) hx hb (zdt_at zt_X9_setPinAnswer_0 17 rfl) (by decide) ?_
  refine lv_icmp_eq (pc := 34) (tgt := 40) hx hb (zdt_at zt_X9_setPinAnswer_0 18 rfl) (by decide) (fun cn_ => ?t_11) (fun cn_ => ?f_12)
  case f_12 =>
    replace hf := ze_s cn_ hf
    clear cn_
    refine lv_bipush (pc := 37) (v := (-3 : Int32)) hx hb (zdt_at zt_X9_setPinAnswer_0 19 rfl) (by decide) ?_
    cases hf
    exact W.iret (pc := 39) hx hb hr (fun t ht hW => ⟨rfl, ⟨by rw [ht]; exact hP, hD⟩, hS.F ht⟩) hS.2.2 (zdt_at zt_X9_setPinAnswer_0 20 rfl)
  replace hf := zt_s cn_ hf
  clear cn_
  refine lv_aload_n (pc := 40) hx hb (zdt_at zt_X9_setPinAnswer_0 21 rfl) rfl (lv_at hl 0 rfl) ?_
  refine lv_iload_n (pc := 41) hx hb (zdt_at zt_X9_setPinAnswer_0 22 rfl) rfl (lv_at hl 1 rfl) ?_
  replace hf := zb_s hf
  obtain ⟨r_13, hc_, hf⟩ := hf
  refine zcs (pc := 42) (rv := (some (.ref (if r_13 = 0 then h0_officerPin else h0_userPin)))) (va_runV (As := [.int p1]) (rest := []) ⟨hx, hb, hml, hown, hts⟩ (c_X9_pinOf l D cy tt H.size h0 h0_buffer h0_slots h0_counters h0_officerPin h0_userPin h0_words h0_sha h0_stream h0_aes h0_modes h0_gcm h0_generator h0_tests h0_message h0_secret p1 c_state c_testsDone c_faults c_streamBegun r_13 hc_) (cwV 1 hts gX9_setPinAnswer_X9_pinOf rfl rfl rfl (by decide +kernel) ⟨Nat.le_of_ble_eq_true rfl, Nat.le_of_ble_eq_true rfl⟩) ⟨zblind, va_recv hK hP (ci := 11) (q0 := 0) rfl rfl, zpre hE hS (hP.sub [0] rfl) (hD.sub [0] (by decide) rfl) (va_free hD hS hA [0] rfl)⟩ rfl rfl hl.1 rfl (lv_room (Nat.le_of_ble_eq_true rfl)) (zdt_at zt_X9_setPinAnswer_0 23 rfl) ⟨Nat.zero_le _, Nat.zero_le _⟩) ?_
  clear hc_
  refine W.eq (g2 := F0 m 45 ls [.ref (if r_13 = 0 then h0_officerPin else h0_userPin)]) rfl ?_
  by_cases hq_ : r_13 = 0
  · replace hf := zt_s hq_ hf
    refine W.eq (g2 := F0 m 45 ls [.ref h0_officerPin]) (by rw [if_pos hq_]) ?_
    clear hq_
    refine lv_iload_n (pc := 45) hx hb (zdt_at zt_X9_setPinAnswer_0 24 rfl) rfl (lv_at hl 2 rfl) ?_
    replace hf := zb_s hf
    obtain ⟨⟨c_officerPin_number_14, c_officerPin_tries_15⟩, hc_, hf⟩ := hf
    refine zcm2 (pc := 46) (rv := none) (va_runV (As := [.int p2]) (rest := []) ⟨hx, hb, hml, hown, hts⟩ (c_X5_renew l D cy tt H.size h0_officerPin p2 c_officerPin_number c_officerPin_tries c_officerPin_number_14 c_officerPin_tries_15 hc_) (cwV 1 hts gX9_setPinAnswer_X5_renew rfl rfl rfl (by decide +kernel) ⟨Nat.le_of_ble_eq_true rfl, Nat.le_of_ble_eq_true rfl⟩) ⟨zblind, va_recv hK hP (ci := 7) (q0 := 1) rfl rfl, zpre hE hS (hP.sub [1] rfl) (hD.sub [1] (by decide) rfl) (va_free hD hS hA [1] rfl)⟩ rfl rfl hl.1 rfl (lv_room (Nat.le_of_ble_eq_true rfl)) (zdt_at zt_X9_setPinAnswer_0 25 rfl) ⟨Nat.zero_le _, Nat.zero_le _⟩) hS hP hD (va_free hD hS hA [1] rfl) [1] rfl (by decide) rfl ?_
    clear hP hD hS hc_
    intro H locs hP hD hS
    replace hP : va_P D vwCl ([(h0, .inr (11, [.ref h0_buffer, .ref h0_slots, .ref h0_counters, .ref h0_officerPin, .ref h0_userPin, .ref h0_words, .ref h0_sha, .ref h0_stream, .ref h0_aes, .ref h0_modes, .ref h0_gcm, .ref h0_generator, .ref h0_tests, .ref h0_message, .ref h0_secret, .int c_state, .int c_testsDone, .int c_faults, .int c_streamBegun])), (h0_officerPin, .inr (7, [.int c_officerPin_number_14, .int c_officerPin_tries_15])), (h0_userPin, .inr (7, [.int c_userPin_number, .int c_userPin_tries]))]) H := hP
    replace hD : va_D A ([(h0, .inr (11, [.ref h0_buffer, .ref h0_slots, .ref h0_counters, .ref h0_officerPin, .ref h0_userPin, .ref h0_words, .ref h0_sha, .ref h0_stream, .ref h0_aes, .ref h0_modes, .ref h0_gcm, .ref h0_generator, .ref h0_tests, .ref h0_message, .ref h0_secret, .int c_state, .int c_testsDone, .int c_faults, .int c_streamBegun])), (h0_officerPin, .inr (7, [.int c_officerPin_number_14, .int c_officerPin_tries_15])), (h0_userPin, .inr (7, [.int c_userPin_number, .int c_userPin_tries]))]) := hD
    refine W.eq (g2 := F0 m 49 ls []) rfl ?_
    refine lv_iconst (pc := 49) (v := (0 : Int32)) hx hb (zdt_at zt_X9_setPinAnswer_0 26 rfl) (by decide) ?_
    cases hf
    exact W.iret (pc := 50) hx hb hr (fun t ht hW => ⟨rfl, ⟨by rw [ht]; exact hP, hD⟩, hS.F ht⟩) hS.2.2 (zdt_at zt_X9_setPinAnswer_0 27 rfl)
  replace hf := ze_s hq_ hf
  refine W.eq (g2 := F0 m 45 ls [.ref h0_userPin]) (by rw [if_neg hq_]) ?_
  clear hq_
  refine lv_iload_n (pc := 45) hx hb (zdt_at zt_X9_setPinAnswer_0 24 rfl) rfl (lv_at hl 2 rfl) ?_
  replace hf := zb_s hf
  obtain ⟨⟨c_userPin_number_16, c_userPin_tries_17⟩, hc_, hf⟩ := hf
  refine zcm2 (pc := 46) (rv := none) (va_runV (As := [.int p2]) (rest := []) ⟨hx, hb, hml, hown, hts⟩ (c_X5_renew l D cy tt H.size h0_userPin p2 c_userPin_number c_userPin_tries c_userPin_number_16 c_userPin_tries_17 hc_) (cwV 1 hts gX9_setPinAnswer_X5_renew rfl rfl rfl (by decide +kernel) ⟨Nat.le_of_ble_eq_true rfl, Nat.le_of_ble_eq_true rfl⟩) ⟨zblind, va_recv hK hP (ci := 7) (q0 := 2) rfl rfl, zpre hE hS (hP.sub [2] rfl) (hD.sub [2] (by decide) rfl) (va_free hD hS hA [2] rfl)⟩ rfl rfl hl.1 rfl (lv_room (Nat.le_of_ble_eq_true rfl)) (zdt_at zt_X9_setPinAnswer_0 25 rfl) ⟨Nat.zero_le _, Nat.zero_le _⟩) hS hP hD (va_free hD hS hA [2] rfl) [2] rfl (by decide) rfl ?_
  clear hP hD hS hc_
  intro H locs hP hD hS
  replace hP : va_P D vwCl ([(h0, .inr (11, [.ref h0_buffer, .ref h0_slots, .ref h0_counters, .ref h0_officerPin, .ref h0_userPin, .ref h0_words, .ref h0_sha, .ref h0_stream, .ref h0_aes, .ref h0_modes, .ref h0_gcm, .ref h0_generator, .ref h0_tests, .ref h0_message, .ref h0_secret, .int c_state, .int c_testsDone, .int c_faults, .int c_streamBegun])), (h0_officerPin, .inr (7, [.int c_officerPin_number, .int c_officerPin_tries])), (h0_userPin, .inr (7, [.int c_userPin_number_16, .int c_userPin_tries_17]))]) H := hP
  replace hD : va_D A ([(h0, .inr (11, [.ref h0_buffer, .ref h0_slots, .ref h0_counters, .ref h0_officerPin, .ref h0_userPin, .ref h0_words, .ref h0_sha, .ref h0_stream, .ref h0_aes, .ref h0_modes, .ref h0_gcm, .ref h0_generator, .ref h0_tests, .ref h0_message, .ref h0_secret, .int c_state, .int c_testsDone, .int c_faults, .int c_streamBegun])), (h0_officerPin, .inr (7, [.int c_officerPin_number, .int c_officerPin_tries])), (h0_userPin, .inr (7, [.int c_userPin_number_16, .int c_userPin_tries_17]))]) := hD
  refine W.eq (g2 := F0 m 49 ls []) rfl ?_
  refine lv_iconst (pc := 49) (v := (0 : Int32)) hx hb (zdt_at zt_X9_setPinAnswer_0 26 rfl) (by decide) ?_
  cases hf
  exact W.iret (pc := 50) hx hb hr (fun t ht hW => ⟨rfl, ⟨by rw [ht]; exact hP, hD⟩, hS.F ht⟩) hS.2.2 (zdt_at zt_X9_setPinAnswer_0 27 rfl)
def f_X9_setPin (p1 : Int32) (p2 : Int32) (c_state : Int32) (c_counters : Nat → Int32) (c_officerPin_number : Int32) (c_officerPin_tries : Int32) (c_userPin_number : Int32) (c_userPin_tries : Int32) : Option (Int32 × (Nat → Int32) × Int32 × Int32 × Int32 × Int32) :=
  (f_X9_setPinAnswer p1 p2 c_state c_officerPin_number c_officerPin_tries c_userPin_number c_userPin_tries).bind (fun (r_1, c_officerPin_number_2, c_officerPin_tries_3, c_userPin_number_4, c_userPin_tries_5) => (f_X9_counted r_1 c_counters).bind (fun (r_6, c_counters_7) => some (r_6, c_counters_7, c_officerPin_number_2, c_officerPin_tries_3, c_userPin_number_4, c_userPin_tries_5)))
set_option maxHeartbeats 4000000 in
set_option maxRecDepth 100000 in
theorem c_X9_setPin (l : Launch) (D : va_G) (cy : Nat → ClassId) (tt : Nat → Nat) (sz : Nat) (h0 : Nat) (h0_buffer : Nat) (h0_slots : Nat) (h0_counters : Nat) (h0_officerPin : Nat) (h0_userPin : Nat) (h0_words : Nat) (h0_sha : Nat) (h0_stream : Nat) (h0_aes : Nat) (h0_modes : Nat) (h0_gcm : Nat) (h0_generator : Nat) (h0_tests : Nat) (h0_message : Nat) (h0_secret : Nat) (p1 : Int32) (p2 : Int32) (c_state : Int32) (c_counters : Nat → Int32) (c_officerPin_number : Int32) (c_officerPin_tries : Int32) (c_userPin_number : Int32) (c_userPin_tries : Int32) (c_testsDone : Int32) (c_faults : Int32) (c_streamBegun : Int32) (r_ : Int32) (c_counters' : Nat → Int32) (c_officerPin_number' : Int32) (c_officerPin_tries' : Int32) (c_userPin_number' : Int32) (c_userPin_tries' : Int32) (hf : f_X9_setPin p1 p2 c_state c_counters c_officerPin_number c_officerPin_tries c_userPin_number c_userPin_tries = some (r_, c_counters', c_officerPin_number', c_officerPin_tries', c_userPin_number', c_userPin_tries')) : Met l yX9_setPin wsX9_setPin ({ frames := 2, cells := 0, slots := 0, locals := 43 }) (zPc D cy tt sz [.ref h0, .int p1, .int p2] ([(h0, .inr (11, [.ref h0_buffer, .ref h0_slots, .ref h0_counters, .ref h0_officerPin, .ref h0_userPin, .ref h0_words, .ref h0_sha, .ref h0_stream, .ref h0_aes, .ref h0_modes, .ref h0_gcm, .ref h0_generator, .ref h0_tests, .ref h0_message, .ref h0_secret, .int c_state, .int c_testsDone, .int c_faults, .int c_streamBegun])), (h0_counters, .inl (cy 1, 3, .inl c_counters)), (h0_officerPin, .inr (7, [.int c_officerPin_number, .int c_officerPin_tries])), (h0_userPin, .inr (7, [.int c_userPin_number, .int c_userPin_tries]))])) (zQ D (some (.int r_)) ([(h0, .inr (11, [.ref h0_buffer, .ref h0_slots, .ref h0_counters, .ref h0_officerPin, .ref h0_userPin, .ref h0_words, .ref h0_sha, .ref h0_stream, .ref h0_aes, .ref h0_modes, .ref h0_gcm, .ref h0_generator, .ref h0_tests, .ref h0_message, .ref h0_secret, .int c_state, .int c_testsDone, .int c_faults, .int c_streamBegun])), (h0_counters, .inl (cy 1, 3, .inl c_counters')), (h0_officerPin, .inr (7, [.int c_officerPin_number', .int c_officerPin_tries'])), (h0_userPin, .inr (7, [.int c_userPin_number', .int c_userPin_tries']))]) (va_A ([(h0, .inr (11, [.ref h0_buffer, .ref h0_slots, .ref h0_counters, .ref h0_officerPin, .ref h0_userPin, .ref h0_words, .ref h0_sha, .ref h0_stream, .ref h0_aes, .ref h0_modes, .ref h0_gcm, .ref h0_generator, .ref h0_tests, .ref h0_message, .ref h0_secret, .int c_state, .int c_testsDone, .int c_faults, .int c_streamBegun])), (h0_counters, .inl (cy 1, 3, .inl c_counters)), (h0_officerPin, .inr (7, [.int c_officerPin_number, .int c_officerPin_tries])), (h0_userPin, .inr (7, [.int c_userPin_number, .int c_userPin_tries]))]) sz)) 0 0 (va_A ([(h0, .inr (11, [.ref h0_buffer, .ref h0_slots, .ref h0_counters, .ref h0_officerPin, .ref h0_userPin, .ref h0_words, .ref h0_sha, .ref h0_stream, .ref h0_aes, .ref h0_modes, .ref h0_gcm, .ref h0_generator, .ref h0_tests, .ref h0_message, .ref h0_secret, .int c_state, .int c_testsDone, .int c_faults, .int c_streamBegun])), (h0_counters, .inl (cy 1, 3, .inl c_counters)), (h0_officerPin, .inr (7, [.int c_officerPin_number, .int c_officerPin_tries])), (h0_userPin, .inr (7, [.int c_userPin_number, .int c_userPin_tries]))]) sz) := by
  refine Met.ofW (cc := cX9_setPin) (maxL := 3) (ret := (some .int)) (by decide) rfl ?_
  intro p e s m args below meth c s₁ B hml hv
  obtain ⟨rfl, rfl, hP, hD0, hE⟩ := hv
  have hx := B.exec
  have hb := B.bytes
  have hr := B.returns
  have hts := atoms_spec (ws := wsX9_setPin) B.pre
  have hown : s.vm.findClass RX9 = some m.cls := findClass_of_methodNamed B.named
  have hlocks := B.notSynchronized
  clear B
  have hD := hD0.self (sz := s.heap.size)
  generalize hAe : va_A ([(h0, .inr (11, [.ref h0_buffer, .ref h0_slots, .ref h0_counters, .ref h0_officerPin, .ref h0_userPin, .ref h0_words, .ref h0_sha, .ref h0_stream, .ref h0_aes, .ref h0_modes, .ref h0_gcm, .ref h0_generator, .ref h0_tests, .ref h0_message, .ref h0_secret, .int c_state, .int c_testsDone, .int c_faults, .int c_streamBegun])), (h0_counters, .inl (cy 1, 3, .inl c_counters)), (h0_officerPin, .inr (7, [.int c_officerPin_number, .int c_officerPin_tries])), (h0_userPin, .inr (7, [.int c_userPin_number, .int c_userPin_tries]))]) s.heap.size = A at hD hE ⊢
  have hA : ∀ q : Nat, s.heap.size ≤ q → A q := fun q h => by rw [← hAe]; exact Or.inr h
  clear hAe hD0
  have hS : va_S A s.heap s.heap [] := va_S.rf
  have hK := hE.1
  have hl := lv_entry ([.ref h0, .int p1, .int p2]) (n := 3) (Nat.le_of_ble_eq_true rfl)
  rw [lg_entry_eq]
  generalize (lg_sl ([.ref h0, .int p1, .int p2]) ++ List.replicate (3 - (lg_sl ([.ref h0, .int p1, .int p2])).length) Slot.unset).toArray = ls at hl ⊢
  replace hl : lv_has ls 3 [(0, .ref h0), (1, .int p1), (2, .int p2)] := hl
  unfold f_X9_setPin at hf
  refine zgo (fun GW hTo hFr => ?_)
  refine hFr _ _ _ ?_
  obtain ⟨H, hHe⟩ : ∃ H, H = s.heap := ⟨_, rfl⟩
  obtain ⟨locs, hLe⟩ : ∃ L : List Loc, L = [] := ⟨_, rfl⟩
  rw [← hHe] at hP
  replace hS : va_S A s.heap H locs := by rw [hHe, hLe]; exact hS
  refine zat hHe.symm hLe.symm ?_
  clear hHe hLe
  refine lv_aload_n (pc := 0) hx hb (zdt_at zt_X9_setPin_0 0 rfl) rfl (lv_at hl 0 rfl) ?_
  refine lv_aload_n (pc := 1) hx hb (zdt_at zt_X9_setPin_0 1 rfl) rfl (lv_at hl 0 rfl) ?_
  refine lv_iload_n (pc := 2) hx hb (zdt_at zt_X9_setPin_0 2 rfl) rfl (lv_at hl 1 rfl) ?_
  refine lv_iload_n (pc := 3) hx hb (zdt_at zt_X9_setPin_0 3 rfl) rfl (lv_at hl 2 rfl) ?_
  replace hf := zb_s hf
  obtain ⟨⟨r_1, c_officerPin_number_2, c_officerPin_tries_3, c_userPin_number_4, c_userPin_tries_5⟩, hc_, hf⟩ := hf
  refine zcm2 (pc := 4) (rv := (some (.int r_1))) (va_runV (As := [.int p1, .int p2]) (rest := [.ref h0]) ⟨hx, hb, hml, hown, hts⟩ (c_X9_setPinAnswer l D cy tt H.size h0 h0_buffer h0_slots h0_counters h0_officerPin h0_userPin h0_words h0_sha h0_stream h0_aes h0_modes h0_gcm h0_generator h0_tests h0_message h0_secret p1 p2 c_state c_officerPin_number c_officerPin_tries c_userPin_number c_userPin_tries c_testsDone c_faults c_streamBegun r_1 c_officerPin_number_2 c_officerPin_tries_3 c_userPin_number_4 c_userPin_tries_5 hc_) (cwV 2 hts gX9_setPin_X9_setPinAnswer rfl rfl rfl (by decide +kernel) ⟨Nat.le_of_ble_eq_true rfl, Nat.le_of_ble_eq_true rfl⟩) ⟨zblind, va_recv hK hP (ci := 11) (q0 := 0) rfl rfl, zpre hE hS (hP.sub [0, 2, 3] rfl) (hD.sub [0, 2, 3] (by decide) rfl) (va_free hD hS hA [0, 2, 3] rfl)⟩ rfl rfl hl.1 rfl (lv_room (Nat.le_of_ble_eq_true rfl)) (zdt_at zt_X9_setPin_0 4 rfl) ⟨Nat.zero_le _, Nat.zero_le _⟩) hS hP hD (va_free hD hS hA [0, 2, 3] rfl) [0, 2, 3] rfl (by decide) rfl ?_
  clear hP hD hS hc_
  intro H locs hP hD hS
  replace hP : va_P D vwCl ([(h0, .inr (11, [.ref h0_buffer, .ref h0_slots, .ref h0_counters, .ref h0_officerPin, .ref h0_userPin, .ref h0_words, .ref h0_sha, .ref h0_stream, .ref h0_aes, .ref h0_modes, .ref h0_gcm, .ref h0_generator, .ref h0_tests, .ref h0_message, .ref h0_secret, .int c_state, .int c_testsDone, .int c_faults, .int c_streamBegun])), (h0_counters, .inl (cy 1, 3, .inl c_counters)), (h0_officerPin, .inr (7, [.int c_officerPin_number_2, .int c_officerPin_tries_3])), (h0_userPin, .inr (7, [.int c_userPin_number_4, .int c_userPin_tries_5]))]) H := hP
  replace hD : va_D A ([(h0, .inr (11, [.ref h0_buffer, .ref h0_slots, .ref h0_counters, .ref h0_officerPin, .ref h0_userPin, .ref h0_words, .ref h0_sha, .ref h0_stream, .ref h0_aes, .ref h0_modes, .ref h0_gcm, .ref h0_generator, .ref h0_tests, .ref h0_message, .ref h0_secret, .int c_state, .int c_testsDone, .int c_faults, .int c_streamBegun])), (h0_counters, .inl (cy 1, 3, .inl c_counters)), (h0_officerPin, .inr (7, [.int c_officerPin_number_2, .int c_officerPin_tries_3])), (h0_userPin, .inr (7, [.int c_userPin_number_4, .int c_userPin_tries_5]))]) := hD
  refine W.eq (g2 := F0 m 7 ls [.int r_1, .ref h0]) rfl ?_
  replace hf := zb_s hf
  obtain ⟨⟨r_6, c_counters_7⟩, hc_, hf⟩ := hf
  refine zcm2 (pc := 7) (rv := (some (.int r_6))) (va_runV (As := [.int r_1]) (rest := []) ⟨hx, hb, hml, hown, hts⟩ (c_X9_counted l D cy tt H.size h0 h0_buffer h0_slots h0_counters h0_officerPin h0_userPin h0_words h0_sha h0_stream h0_aes h0_modes h0_gcm h0_generator h0_tests h0_message h0_secret r_1 c_counters c_state c_testsDone c_faults c_streamBegun r_6 c_counters_7 hc_) (cwV 1 hts gX9_setPin_X9_counted rfl rfl rfl (by decide +kernel) ⟨Nat.le_of_ble_eq_true rfl, Nat.le_of_ble_eq_true rfl⟩) ⟨zblind, va_recv hK hP (ci := 11) (q0 := 0) rfl rfl, zpre hE hS (hP.sub [0, 1] rfl) (hD.sub [0, 1] (by decide) rfl) (va_free hD hS hA [0, 1] rfl)⟩ rfl rfl hl.1 rfl (lv_room (Nat.le_of_ble_eq_true rfl)) (zdt_at zt_X9_setPin_0 5 rfl) ⟨Nat.zero_le _, Nat.zero_le _⟩) hS hP hD (va_free hD hS hA [0, 1] rfl) [0, 1] rfl (by decide) rfl ?_
  clear hP hD hS hc_
  intro H locs hP hD hS
  replace hP : va_P D vwCl ([(h0, .inr (11, [.ref h0_buffer, .ref h0_slots, .ref h0_counters, .ref h0_officerPin, .ref h0_userPin, .ref h0_words, .ref h0_sha, .ref h0_stream, .ref h0_aes, .ref h0_modes, .ref h0_gcm, .ref h0_generator, .ref h0_tests, .ref h0_message, .ref h0_secret, .int c_state, .int c_testsDone, .int c_faults, .int c_streamBegun])), (h0_counters, .inl (cy 1, 3, .inl c_counters_7)), (h0_officerPin, .inr (7, [.int c_officerPin_number_2, .int c_officerPin_tries_3])), (h0_userPin, .inr (7, [.int c_userPin_number_4, .int c_userPin_tries_5]))]) H := hP
  replace hD : va_D A ([(h0, .inr (11, [.ref h0_buffer, .ref h0_slots, .ref h0_counters, .ref h0_officerPin, .ref h0_userPin, .ref h0_words, .ref h0_sha, .ref h0_stream, .ref h0_aes, .ref h0_modes, .ref h0_gcm, .ref h0_generator, .ref h0_tests, .ref h0_message, .ref h0_secret, .int c_state, .int c_testsDone, .int c_faults, .int c_streamBegun])), (h0_counters, .inl (cy 1, 3, .inl c_counters_7)), (h0_officerPin, .inr (7, [.int c_officerPin_number_2, .int c_officerPin_tries_3])), (h0_userPin, .inr (7, [.int c_userPin_number_4, .int c_userPin_tries_5]))]) := hD
  refine W.eq (g2 := F0 m 10 ls [.int r_6]) rfl ?_
  cases hf
  exact W.iret (pc := 10) hx hb hr (fun t ht hW => ⟨rfl, ⟨by rw [ht]; exact hP, hD⟩, hS.F ht⟩) hS.2.2 (zdt_at zt_X9_setPin_0 6 rfl)
def f_X9_entropy (p1 : Int32) (c_state : Int32) (c_words_count : Int32) (c_words_first : Int32) (c_words_healthy : Int32) (c_words_last : Int32) (c_words_placeInWindow : Int32) (c_words_row : Int32) (c_words_timesInWindow : Int32) (c_words_kept : Nat → Int32) : Option (Int32 × Int32 × Int32 × Int32 × Int32 × Int32 × Int32 × Int32 × (Nat → Int32)) :=
  if c_state = 0 then none else (f_X1_accepts p1 c_words_count c_words_first c_words_healthy c_words_last c_words_placeInWindow c_words_row c_words_timesInWindow c_words_kept).bind (fun (r_3, c_words_count_4, c_words_first_5, c_words_healthy_6, c_words_last_7, c_words_placeInWindow_8, c_words_row_9, c_words_timesInWindow_10, c_words_kept_11) => if r_3 = 0 then some ((0 : Int32), c_words_count_4, c_words_first_5, c_words_healthy_6, c_words_last_7, c_words_placeInWindow_8, c_words_row_9, c_words_timesInWindow_10, c_words_kept_11) else some ((1 : Int32), c_words_count_4, c_words_first_5, c_words_healthy_6, c_words_last_7, c_words_placeInWindow_8, c_words_row_9, c_words_timesInWindow_10, c_words_kept_11))
set_option maxHeartbeats 4000000 in
set_option maxRecDepth 100000 in
theorem c_X9_entropy (l : Launch) (D : va_G) (cy : Nat → ClassId) (tt : Nat → Nat) (sz : Nat) (h0 : Nat) (h0_buffer : Nat) (h0_slots : Nat) (h0_counters : Nat) (h0_officerPin : Nat) (h0_userPin : Nat) (h0_words : Nat) (h0_sha : Nat) (h0_stream : Nat) (h0_aes : Nat) (h0_modes : Nat) (h0_gcm : Nat) (h0_generator : Nat) (h0_tests : Nat) (h0_message : Nat) (h0_secret : Nat) (h0_words_kept : Nat) (p1 : Int32) (c_state : Int32) (c_words_count : Int32) (c_words_first : Int32) (c_words_healthy : Int32) (c_words_last : Int32) (c_words_placeInWindow : Int32) (c_words_row : Int32) (c_words_timesInWindow : Int32) (c_words_kept : Nat → Int32) (c_testsDone : Int32) (c_faults : Int32) (c_streamBegun : Int32) (r_ : Int32) (c_words_count' : Int32) (c_words_first' : Int32) (c_words_healthy' : Int32) (c_words_last' : Int32) (c_words_placeInWindow' : Int32) (c_words_row' : Int32) (c_words_timesInWindow' : Int32) (c_words_kept' : Nat → Int32) (hf : f_X9_entropy p1 c_state c_words_count c_words_first c_words_healthy c_words_last c_words_placeInWindow c_words_row c_words_timesInWindow c_words_kept = some (r_, c_words_count', c_words_first', c_words_healthy', c_words_last', c_words_placeInWindow', c_words_row', c_words_timesInWindow', c_words_kept')) : Met l yX9_entropy wsX9_entropy ({ frames := 2, cells := 0, slots := 0, locals := 42 }) (zPc D cy tt sz [.ref h0, .int p1] ([(h0, .inr (11, [.ref h0_buffer, .ref h0_slots, .ref h0_counters, .ref h0_officerPin, .ref h0_userPin, .ref h0_words, .ref h0_sha, .ref h0_stream, .ref h0_aes, .ref h0_modes, .ref h0_gcm, .ref h0_generator, .ref h0_tests, .ref h0_message, .ref h0_secret, .int c_state, .int c_testsDone, .int c_faults, .int c_streamBegun])), (h0_words, .inr (3, [.ref h0_words_kept, .int c_words_count, .int c_words_healthy, .int c_words_last, .int c_words_row, .int c_words_first, .int c_words_placeInWindow, .int c_words_timesInWindow])), (h0_words_kept, .inl (cy 1, 64, .inl c_words_kept))])) (zQ D (some (.int r_)) ([(h0, .inr (11, [.ref h0_buffer, .ref h0_slots, .ref h0_counters, .ref h0_officerPin, .ref h0_userPin, .ref h0_words, .ref h0_sha, .ref h0_stream, .ref h0_aes, .ref h0_modes, .ref h0_gcm, .ref h0_generator, .ref h0_tests, .ref h0_message, .ref h0_secret, .int c_state, .int c_testsDone, .int c_faults, .int c_streamBegun])), (h0_words, .inr (3, [.ref h0_words_kept, .int c_words_count', .int c_words_healthy', .int c_words_last', .int c_words_row', .int c_words_first', .int c_words_placeInWindow', .int c_words_timesInWindow'])), (h0_words_kept, .inl (cy 1, 64, .inl c_words_kept'))]) (va_A ([(h0, .inr (11, [.ref h0_buffer, .ref h0_slots, .ref h0_counters, .ref h0_officerPin, .ref h0_userPin, .ref h0_words, .ref h0_sha, .ref h0_stream, .ref h0_aes, .ref h0_modes, .ref h0_gcm, .ref h0_generator, .ref h0_tests, .ref h0_message, .ref h0_secret, .int c_state, .int c_testsDone, .int c_faults, .int c_streamBegun])), (h0_words, .inr (3, [.ref h0_words_kept, .int c_words_count, .int c_words_healthy, .int c_words_last, .int c_words_row, .int c_words_first, .int c_words_placeInWindow, .int c_words_timesInWindow])), (h0_words_kept, .inl (cy 1, 64, .inl c_words_kept))]) sz)) 0 0 (va_A ([(h0, .inr (11, [.ref h0_buffer, .ref h0_slots, .ref h0_counters, .ref h0_officerPin, .ref h0_userPin, .ref h0_words, .ref h0_sha, .ref h0_stream, .ref h0_aes, .ref h0_modes, .ref h0_gcm, .ref h0_generator, .ref h0_tests, .ref h0_message, .ref h0_secret, .int c_state, .int c_testsDone, .int c_faults, .int c_streamBegun])), (h0_words, .inr (3, [.ref h0_words_kept, .int c_words_count, .int c_words_healthy, .int c_words_last, .int c_words_row, .int c_words_first, .int c_words_placeInWindow, .int c_words_timesInWindow])), (h0_words_kept, .inl (cy 1, 64, .inl c_words_kept))]) sz) := by
  refine Met.ofW (cc := cX9_entropy) (maxL := 2) (ret := (some .int)) (by decide) rfl ?_
  intro p e s m args below meth c s₁ B hml hv
  obtain ⟨rfl, rfl, hP, hD0, hE⟩ := hv
  have hx := B.exec
  have hb := B.bytes
  have hr := B.returns
  have hts := atoms_spec (ws := wsX9_entropy) B.pre
  have hown : s.vm.findClass RX9 = some m.cls := findClass_of_methodNamed B.named
  have hlocks := B.notSynchronized
  clear B
  have hD := hD0.self (sz := s.heap.size)
  generalize hAe : va_A ([(h0, .inr (11, [.ref h0_buffer, .ref h0_slots, .ref h0_counters, .ref h0_officerPin, .ref h0_userPin, .ref h0_words, .ref h0_sha, .ref h0_stream, .ref h0_aes, .ref h0_modes, .ref h0_gcm, .ref h0_generator, .ref h0_tests, .ref h0_message, .ref h0_secret, .int c_state, .int c_testsDone, .int c_faults, .int c_streamBegun])), (h0_words, .inr (3, [.ref h0_words_kept, .int c_words_count, .int c_words_healthy, .int c_words_last, .int c_words_row, .int c_words_first, .int c_words_placeInWindow, .int c_words_timesInWindow])), (h0_words_kept, .inl (cy 1, 64, .inl c_words_kept))]) s.heap.size = A at hD hE ⊢
  have hA : ∀ q : Nat, s.heap.size ≤ q → A q := fun q h => by rw [← hAe]; exact Or.inr h
  clear hAe hD0
  have hS : va_S A s.heap s.heap [] := va_S.rf
  have hK := hE.1
  have hw0 := hts (.fieldLink RX9 101 "SealedModule" "state" "I") (by decide +kernel)
  have hw1 := hts (.fieldLink RX9 38 "SealedModule" "words" "LSealedModule$Entropy;") (by decide +kernel)
  have hcX9 : ∀ w ∈ u_ws RX9 TX9 19, w ∈ wsX9_entropy := (fun _ h => List.mem_cons_of_mem _ (List.mem_append_left _ (List.mem_append_left _ (List.mem_append_right _ h))))
  have hl := lv_entry ([.ref h0, .int p1]) (n := 2) (Nat.le_of_ble_eq_true rfl)
  rw [lg_entry_eq]
  generalize (lg_sl ([.ref h0, .int p1]) ++ List.replicate (2 - (lg_sl ([.ref h0, .int p1])).length) Slot.unset).toArray = ls at hl ⊢
  replace hl : lv_has ls 2 [(0, .ref h0), (1, .int p1)] := hl
  unfold f_X9_entropy at hf
  refine zgo (fun GW hTo hFr => ?_)
  refine hFr _ _ _ ?_
  obtain ⟨H, hHe⟩ : ∃ H, H = s.heap := ⟨_, rfl⟩
  obtain ⟨locs, hLe⟩ : ∃ L : List Loc, L = [] := ⟨_, rfl⟩
  rw [← hHe] at hP
  replace hS : va_S A s.heap H locs := by rw [hHe, hLe]; exact hS
  refine zat hHe.symm hLe.symm ?_
  clear hHe hLe
  refine lv_aload_n (pc := 0) hx hb (zdt_at zt_X9_entropy_0 0 rfl) rfl (lv_at hl 0 rfl) ?_
  refine va_get (pc := 1) (D := D) (ci := 11) (v := .int c_state) (C := RX9) (T := TX9) (N := 19) hx hb hts hcX9 hown hK hP 0 rfl rfl 15 (by decide) hw0 (fun _ h9 => h9) rfl (zdt_at zt_X9_entropy_0 1 rfl) ?_
  refine lv_if_ne (pc := 4) (tgt := 17) hx hb (zdt_at zt_X9_entropy_0 2 rfl) (by decide) (fun cn_ => ?t_1) (fun cn_ => ?f_2)
  case f_2 =>
    replace hf := zt_s cn_ hf
    clear cn_
    exact absurd hf (by simp)
  replace hf := ze_s cn_ hf
  clear cn_
  refine lv_aload_n (pc := 17) hx hb (zdt_at zt_X9_entropy_0 8 rfl) rfl (lv_at hl 0 rfl) ?_
  refine va_get (pc := 18) (D := D) (ci := 11) (v := .ref h0_words) (C := RX9) (T := TX9) (N := 19) hx hb hts hcX9 hown hK hP 0 rfl rfl 5 (by decide) hw1 (fun _ h9 => h9) rfl (zdt_at zt_X9_entropy_0 9 rfl) ?_
  refine lv_iload_n (pc := 21) hx hb (zdt_at zt_X9_entropy_0 10 rfl) rfl (lv_at hl 1 rfl) ?_
  replace hf := zb_s hf
  obtain ⟨⟨r_3, c_words_count_4, c_words_first_5, c_words_healthy_6, c_words_last_7, c_words_placeInWindow_8, c_words_row_9, c_words_timesInWindow_10, c_words_kept_11⟩, hc_, hf⟩ := hf
  refine zcm2 (pc := 22) (rv := (some (.int r_3))) (va_runV (As := [.int p1]) (rest := []) ⟨hx, hb, hml, hown, hts⟩ (c_X1_accepts l D cy tt H.size h0_words h0_words_kept p1 c_words_count c_words_first c_words_healthy c_words_last c_words_placeInWindow c_words_row c_words_timesInWindow c_words_kept r_3 c_words_count_4 c_words_first_5 c_words_healthy_6 c_words_last_7 c_words_placeInWindow_8 c_words_row_9 c_words_timesInWindow_10 c_words_kept_11 hc_) (cwV 1 hts gX9_entropy_X1_accepts rfl rfl rfl (by decide +kernel) ⟨Nat.le_of_ble_eq_true rfl, Nat.le_of_ble_eq_true rfl⟩) ⟨zblind, va_recv hK hP (ci := 3) (q0 := 1) rfl rfl, zpre hE hS (hP.sub [1, 2] rfl) (hD.sub [1, 2] (by decide) rfl) (va_free hD hS hA [1, 2] rfl)⟩ rfl rfl hl.1 rfl (lv_room (Nat.le_of_ble_eq_true rfl)) (zdt_at zt_X9_entropy_0 11 rfl) ⟨Nat.zero_le _, Nat.zero_le _⟩) hS hP hD (va_free hD hS hA [1, 2] rfl) [1, 2] rfl (by decide) rfl ?_
  clear hP hD hS hc_
  intro H locs hP hD hS
  replace hP : va_P D vwCl ([(h0, .inr (11, [.ref h0_buffer, .ref h0_slots, .ref h0_counters, .ref h0_officerPin, .ref h0_userPin, .ref h0_words, .ref h0_sha, .ref h0_stream, .ref h0_aes, .ref h0_modes, .ref h0_gcm, .ref h0_generator, .ref h0_tests, .ref h0_message, .ref h0_secret, .int c_state, .int c_testsDone, .int c_faults, .int c_streamBegun])), (h0_words, .inr (3, [.ref h0_words_kept, .int c_words_count_4, .int c_words_healthy_6, .int c_words_last_7, .int c_words_row_9, .int c_words_first_5, .int c_words_placeInWindow_8, .int c_words_timesInWindow_10])), (h0_words_kept, .inl (cy 1, 64, .inl c_words_kept_11))]) H := hP
  replace hD : va_D A ([(h0, .inr (11, [.ref h0_buffer, .ref h0_slots, .ref h0_counters, .ref h0_officerPin, .ref h0_userPin, .ref h0_words, .ref h0_sha, .ref h0_stream, .ref h0_aes, .ref h0_modes, .ref h0_gcm, .ref h0_generator, .ref h0_tests, .ref h0_message, .ref h0_secret, .int c_state, .int c_testsDone, .int c_faults, .int c_streamBegun])), (h0_words, .inr (3, [.ref h0_words_kept, .int c_words_count_4, .int c_words_healthy_6, .int c_words_last_7, .int c_words_row_9, .int c_words_first_5, .int c_words_placeInWindow_8, .int c_words_timesInWindow_10])), (h0_words_kept, .inl (cy 1, 64, .inl c_words_kept_11))]) := hD
  refine W.eq (g2 := F0 m 25 ls [.int r_3]) rfl ?_
  refine lv_if_eq (pc := 25) (tgt := 32) hx hb (zdt_at zt_X9_entropy_0 12 rfl) (by decide) (fun cn_ => ?t_12) (fun cn_ => ?f_13)
  case t_12 =>
    replace hf := zt_s cn_ hf
    clear cn_
    refine lv_iconst (pc := 32) (v := (0 : Int32)) hx hb (zdt_at zt_X9_entropy_0 15 rfl) (by decide) ?_
    cases hf
    exact W.iret (pc := 33) hx hb hr (fun t ht hW => ⟨rfl, ⟨by rw [ht]; exact hP, hD⟩, hS.F ht⟩) hS.2.2 (zdt_at zt_X9_entropy_0 16 rfl)
  replace hf := ze_s cn_ hf
  clear cn_
  refine lv_iconst (pc := 28) (v := (1 : Int32)) hx hb (zdt_at zt_X9_entropy_0 13 rfl) (by decide) ?_
  refine lv_goto (pc := 29) (tgt := 33) hx hb (zdt_at zt_X9_entropy_0 14 rfl) (by decide) ?_
  cases hf
  exact W.iret (pc := 33) hx hb hr (fun t ht hW => ⟨rfl, ⟨by rw [ht]; exact hP, hD⟩, hS.F ht⟩) hS.2.2 (zdt_at zt_X9_entropy_0 16 rfl)
def f_X9_state (c_state : Int32) : Option (Int32) :=
  some c_state
set_option maxHeartbeats 4000000 in
set_option maxRecDepth 100000 in
theorem c_X9_state (l : Launch) (D : va_G) (cy : Nat → ClassId) (tt : Nat → Nat) (sz : Nat) (h0 : Nat) (h0_buffer : Nat) (h0_slots : Nat) (h0_counters : Nat) (h0_officerPin : Nat) (h0_userPin : Nat) (h0_words : Nat) (h0_sha : Nat) (h0_stream : Nat) (h0_aes : Nat) (h0_modes : Nat) (h0_gcm : Nat) (h0_generator : Nat) (h0_tests : Nat) (h0_message : Nat) (h0_secret : Nat) (c_state : Int32) (c_testsDone : Int32) (c_faults : Int32) (c_streamBegun : Int32) (r_ : Int32) (hf : f_X9_state c_state = some r_) : Met l yX9_state wsX9_state ({ frames := 0, cells := 0, slots := 0, locals := 0 }) (zPc D cy tt sz [.ref h0] ([(h0, .inr (11, [.ref h0_buffer, .ref h0_slots, .ref h0_counters, .ref h0_officerPin, .ref h0_userPin, .ref h0_words, .ref h0_sha, .ref h0_stream, .ref h0_aes, .ref h0_modes, .ref h0_gcm, .ref h0_generator, .ref h0_tests, .ref h0_message, .ref h0_secret, .int c_state, .int c_testsDone, .int c_faults, .int c_streamBegun]))])) (fun _ st o t => o = .returned (some (.int r_)) ∧ t.heap = st.heap) 0 0 (fun _ => False) := by
  refine Met.ofW (cc := cX9_state) (maxL := 1) (ret := (some .int)) (by decide) rfl ?_
  intro p e s m args below meth c s₁ B hml hv
  obtain ⟨rfl, rfl, hP, hD0, hE⟩ := hv
  have hx := B.exec
  have hb := B.bytes
  have hr := B.returns
  have hts := atoms_spec (ws := wsX9_state) B.pre
  have hown : s.vm.findClass RX9 = some m.cls := findClass_of_methodNamed B.named
  have hlocks := B.notSynchronized
  clear B
  have hD := hD0.self (sz := s.heap.size)
  generalize hAe : va_A ([(h0, .inr (11, [.ref h0_buffer, .ref h0_slots, .ref h0_counters, .ref h0_officerPin, .ref h0_userPin, .ref h0_words, .ref h0_sha, .ref h0_stream, .ref h0_aes, .ref h0_modes, .ref h0_gcm, .ref h0_generator, .ref h0_tests, .ref h0_message, .ref h0_secret, .int c_state, .int c_testsDone, .int c_faults, .int c_streamBegun]))]) s.heap.size = A at hD hE
  have hA : ∀ q : Nat, s.heap.size ≤ q → A q := fun q h => by rw [← hAe]; exact Or.inr h
  clear hAe hD0
  have hS : va_S A s.heap s.heap [] := va_S.rf
  have hK := hE.1
  have hw0 := hts (.fieldLink RX9 101 "SealedModule" "state" "I") (by decide +kernel)
  have hcX9 : ∀ w ∈ u_ws RX9 TX9 19, w ∈ wsX9_state := (fun _ h => List.mem_cons_of_mem _ (List.mem_append_right _ h))
  have hl := lv_entry ([.ref h0]) (n := 1) (Nat.le_of_ble_eq_true rfl)
  rw [lg_entry_eq]
  generalize (lg_sl ([.ref h0]) ++ List.replicate (1 - (lg_sl ([.ref h0])).length) Slot.unset).toArray = ls at hl ⊢
  replace hl : lv_has ls 1 [(0, .ref h0)] := hl
  unfold f_X9_state at hf
  refine zgo (fun GW hTo hFr => ?_)
  refine hFr _ _ _ ?_
  refine lv_aload_n (pc := 0) hx hb (zdt_at zt_X9_state_0 0 rfl) rfl (lv_at hl 0 rfl) ?_
  refine va_get (pc := 1) (D := D) (ci := 11) (v := .int c_state) (C := RX9) (T := TX9) (N := 19) hx hb hts hcX9 hown hK hP 0 rfl rfl 15 (by decide) hw0 (fun _ h9 => h9) rfl (zdt_at zt_X9_state_0 1 rfl) ?_
  cases hf
  exact W.iret (pc := 4) hx hb hr (fun t ht hW => ⟨rfl, ht⟩) (fun _ h => nomatch h) (zdt_at zt_X9_state_0 2 rfl)
def f_X9_slotInfo (p1 : Int32) (p2 : Int32) (cP_kind : Nat → Int32) (cP_length : Nat → Int32) (cP_role : Nat → Int32) (cP_usage : Nat → Int32) (cP_uses : Nat → Int32) : Option (Int32) :=
  (f_X9_isSlot p1).bind (fun r_1 => if r_1 = 0 then none else if p2 < 0 then none else if p2 ≤ (4 : Int32) then zk (¬ (p1 < 0 ∨ 16 ≤ p1.toNatClampNeg)) ((f_X8_isEmpty p1.toNatClampNeg cP_kind).bind (fun r_9 => if r_9 = 0 then if p2 = (0 : Int32) then some (cP_kind p1.toNatClampNeg) else if p2 = (1 : Int32) then some (cP_length p1.toNatClampNeg) else if p2 = (2 : Int32) then some (cP_usage p1.toNatClampNeg) else if p2 = (3 : Int32) then some (cP_role p1.toNatClampNeg) else some (cP_uses p1.toNatClampNeg) else some (-1 : Int32))) else none)
set_option maxHeartbeats 4000000 in
set_option maxRecDepth 100000 in
theorem c_X9_slotInfo (l : Launch) (D : va_G) (cy : Nat → ClassId) (tt : Nat → Nat) (sz : Nat) (h0 : Nat) (h0_buffer : Nat) (h0_slots : Nat) (h0_counters : Nat) (h0_officerPin : Nat) (h0_userPin : Nat) (h0_words : Nat) (h0_sha : Nat) (h0_stream : Nat) (h0_aes : Nat) (h0_modes : Nat) (h0_gcm : Nat) (h0_generator : Nat) (h0_tests : Nat) (h0_message : Nat) (h0_secret : Nat) (hP_o : Nat → Nat) (hP_k : Nat → Nat) (p1 : Int32) (p2 : Int32) (cP_kind : Nat → Int32) (cP_length : Nat → Int32) (cP_role : Nat → Int32) (cP_usage : Nat → Int32) (cP_uses : Nat → Int32) (c_state : Int32) (c_testsDone : Int32) (c_faults : Int32) (c_streamBegun : Int32) (cPK : Nat → Nat → Int32) (r_ : Int32) (hf : f_X9_slotInfo p1 p2 cP_kind cP_length cP_role cP_usage cP_uses = some r_) : Met l yX9_slotInfo wsX9_slotInfo ({ frames := 1, cells := 0, slots := 0, locals := 20 }) (zPc D cy tt sz [.ref h0, .int p1, .int p2] ([(h0, .inr (11, [.ref h0_buffer, .ref h0_slots, .ref h0_counters, .ref h0_officerPin, .ref h0_userPin, .ref h0_words, .ref h0_sha, .ref h0_stream, .ref h0_aes, .ref h0_modes, .ref h0_gcm, .ref h0_generator, .ref h0_tests, .ref h0_message, .ref h0_secret, .int c_state, .int c_testsDone, .int c_faults, .int c_streamBegun])), (h0_slots, .inl (cy 4, 16, .inr (.inr (.inr (.inr (fun j => some (hP_o j)))))))] ++ zpl (cy 0) hP_o hP_k cP_kind cP_length cP_usage cP_role cP_uses cPK)) (fun _ st o t => o = .returned (some (.int r_)) ∧ t.heap = st.heap) 0 0 (fun _ => False) := by
  refine Met.ofW (cc := cX9_slotInfo) (maxL := 4) (ret := (some .int)) (by decide) rfl ?_
  intro p e s m args below meth c s₁ B hml hv
  obtain ⟨rfl, rfl, hP, hD0, hE⟩ := hv
  have hx := B.exec
  have hb := B.bytes
  have hr := B.returns
  have hts := atoms_spec (ws := wsX9_slotInfo) B.pre
  have hown : s.vm.findClass RX9 = some m.cls := findClass_of_methodNamed B.named
  have hlocks := B.notSynchronized
  clear B
  have hD := hD0.self (sz := s.heap.size)
  generalize hAe : va_A ([(h0, .inr (11, [.ref h0_buffer, .ref h0_slots, .ref h0_counters, .ref h0_officerPin, .ref h0_userPin, .ref h0_words, .ref h0_sha, .ref h0_stream, .ref h0_aes, .ref h0_modes, .ref h0_gcm, .ref h0_generator, .ref h0_tests, .ref h0_message, .ref h0_secret, .int c_state, .int c_testsDone, .int c_faults, .int c_streamBegun])), (h0_slots, .inl (cy 4, 16, .inr (.inr (.inr (.inr (fun j => some (hP_o j)))))))] ++ zpl (cy 0) hP_o hP_k cP_kind cP_length cP_usage cP_role cP_uses cPK) s.heap.size = A at hD hE
  have hA : ∀ q : Nat, s.heap.size ≤ q → A q := fun q h => by rw [← hAe]; exact Or.inr h
  clear hAe hD0
  have hS : va_S A s.heap s.heap [] := va_S.rf
  have hK := hE.1
  have hw0 := hts (.fieldLink RX9 15 "SealedModule" "slots" "[LSealedModule$Slot;") (by decide +kernel)
  have hw1 := hts (.fieldLink RX9 204 "SealedModule$Slot" "kind" "I") (by decide +kernel)
  have hw2 := hts (.fieldLink RX9 207 "SealedModule$Slot" "length" "I") (by decide +kernel)
  have hw3 := hts (.fieldLink RX9 210 "SealedModule$Slot" "usage" "I") (by decide +kernel)
  have hw4 := hts (.fieldLink RX9 213 "SealedModule$Slot" "role" "I") (by decide +kernel)
  have hw5 := hts (.fieldLink RX9 216 "SealedModule$Slot" "uses" "I") (by decide +kernel)
  have hcX9 : ∀ w ∈ u_ws RX9 TX9 19, w ∈ wsX9_slotInfo := (fun _ h => List.mem_cons_of_mem _ (List.mem_append_left _ (List.mem_append_left _ (List.mem_append_right _ h))))
  have hcX8 : ∀ w ∈ u_ws RX8 TX8 6, w ∈ wsX9_slotInfo := (fun _ h => List.mem_cons_of_mem _ (List.mem_append_left _ (List.mem_append_right _ h)))
  have hl := lv_entry ([.ref h0, .int p1, .int p2]) (n := 4) (Nat.le_of_ble_eq_true rfl)
  rw [lg_entry_eq]
  generalize (lg_sl ([.ref h0, .int p1, .int p2]) ++ List.replicate (4 - (lg_sl ([.ref h0, .int p1, .int p2])).length) Slot.unset).toArray = ls at hl ⊢
  replace hl : lv_has ls 4 [(0, .ref h0), (1, .int p1), (2, .int p2)] := hl
  unfold f_X9_slotInfo at hf
  refine zgo (fun GW hTo hFr => ?_)
  refine hFr _ _ _ ?_
  refine lv_iload_n (pc := 0) hx hb (zdt_at zt_X9_slotInfo_0 0 rfl) rfl (lv_at hl 1 rfl) ?_
  replace hf := zb_s hf
  obtain ⟨r_1, hc_, hf⟩ := hf
  refine zcs (pc := 1) (rv := (some (.int r_1))) (va_runS (As := [.int p1]) (rest := []) ⟨hx, hb, hml, hown, hts⟩ (c_X9_isSlot l D cy tt s.heap.size p1 r_1 hc_) (va_cwS 1 hts gX9_slotInfo_X9_isSlot rfl rfl rfl (by decide +kernel) ⟨Nat.le_of_ble_eq_true rfl, Nat.le_of_ble_eq_true rfl⟩) ⟨zblind, zpre hE hS (hP.sub [] rfl) (hD.sub [] (by decide) rfl) (va_free hD hS hA [] rfl)⟩ rfl rfl hl.1 rfl (lv_room (Nat.le_of_ble_eq_true rfl)) (zdt_at zt_X9_slotInfo_0 1 rfl) ⟨Nat.zero_le _, Nat.zero_le _⟩) ?_
  clear hc_
  refine W.eq (g2 := F0 m 4 ls [.int r_1]) rfl ?_
  refine lv_if_eq (pc := 4) (tgt := 16) hx hb (zdt_at zt_X9_slotInfo_0 2 rfl) (by decide) (fun cn_ => ?t_2) (fun cn_ => ?f_3)
  case t_2 =>
    replace hf := zt_s cn_ hf
    clear cn_
    exact absurd hf (by simp)
  replace hf := ze_s cn_ hf
  clear cn_
  refine lv_iload_n (pc := 7) hx hb (zdt_at zt_X9_slotInfo_0 3 rfl) rfl (lv_at hl 2 rfl) ?_
  refine lv_if_lt (pc := 8) (tgt := 16) hx hb (zdt_at zt_X9_slotInfo_0 4 rfl) (by decide) (fun cn_ => ?t_4) (fun cn_ => ?f_5)
  case t_4 =>
    replace hf := zt_s cn_ hf
    clear cn_
    exact absurd hf (by simp)
  replace hf := ze_s cn_ hf
  clear cn_
  refine lv_iload_n (pc := 11) hx hb (zdt_at zt_X9_slotInfo_0 5 rfl) rfl (lv_at hl 2 rfl) ?_
  refine lv_iconst (pc := 12) (v := (4 : Int32)) hx hb (zdt_at zt_X9_slotInfo_0 6 rfl) (by decide) ?_
  refine lv_icmp_le (pc := 13) (tgt := 26) hx hb (zdt_at zt_X9_slotInfo_0 7 rfl) (by decide) (fun cn_ => ?t_6) (fun cn_ => ?f_7)
  case f_7 =>
    replace hf := ze_s cn_ hf
    clear cn_
    exact absurd hf (by simp)
  replace hf := zt_s cn_ hf
  clear cn_
  refine lv_aload_n (pc := 26) hx hb (zdt_at zt_X9_slotInfo_0 13 rfl) rfl (lv_at hl 0 rfl) ?_
  refine va_get (pc := 27) (D := D) (ci := 11) (v := .ref h0_slots) (C := RX9) (T := TX9) (N := 19) hx hb hts hcX9 hown hK hP 0 rfl rfl 1 (by decide) hw0 (fun _ h9 => h9) rfl (zdt_at zt_X9_slotInfo_0 14 rfl) ?_
  refine lv_iload_n (pc := 30) hx hb (zdt_at zt_X9_slotInfo_0 15 rfl) rfl (lv_at hl 1 rfl) ?_
  replace hf := zk_s hf
  have hj_8 : p1.toNatClampNeg < 16 := Nat.not_le.mp fun q => hf.1 (Or.inr q)
  refine va_aldq (pc := 31) (C := RX8) hx hb hK hP 1 4 rfl rfl hf.1 (zdt_at zt_X9_slotInfo_0 16 rfl) ?_
  replace hf := hf.2
  refine lv_astore_n (pc := 32) (lv' := [(3, .ref (hP_o p1.toNatClampNeg)), (0, .ref h0), (1, .int p1), (2, .int p2)]) hx hb (zdt_at zt_X9_slotInfo_0 17 rfl) rfl hl (by decide) rfl ?_
  clear hl
  intro ls hl
  refine lv_aload_n (pc := 33) hx hb (zdt_at zt_X9_slotInfo_0 18 rfl) rfl (lv_at hl 0 rfl) ?_
  replace hf := zb_s hf
  obtain ⟨r_9, hc_, hf⟩ := hf
  refine zcs (pc := 34) (rv := (some (.int r_9))) (va_runV (As := []) (rest := []) ⟨hx, hb, hml, hown, hts⟩ (c_X8_isEmpty l D cy tt s.heap.size hP_o hP_k p1.toNatClampNeg cP_kind cP_length cP_usage cP_role cP_uses cPK r_9 hj_8 hc_) (cwV 0 hts gX9_slotInfo_X8_isEmpty rfl rfl rfl (by decide +kernel) ⟨Nat.le_of_ble_eq_true rfl, Nat.le_of_ble_eq_true rfl⟩) ⟨zblind, va_recv hK hP (ci := 10) (q0 := (2 + p1.toNatClampNeg)) rfl (zplO_get (X := [(h0, .inr (11, [.ref h0_buffer, .ref h0_slots, .ref h0_counters, .ref h0_officerPin, .ref h0_userPin, .ref h0_words, .ref h0_sha, .ref h0_stream, .ref h0_aes, .ref h0_modes, .ref h0_gcm, .ref h0_generator, .ref h0_tests, .ref h0_message, .ref h0_secret, .int c_state, .int c_testsDone, .int c_faults, .int c_streamBegun])), (h0_slots, .inl (cy 4, 16, .inr (.inr (.inr (.inr (fun j => some (hP_o j)))))))]) (n := 2) rfl hj_8), zpre hE hS (va_P.part (X := [(h0, .inr (11, [.ref h0_buffer, .ref h0_slots, .ref h0_counters, .ref h0_officerPin, .ref h0_userPin, .ref h0_words, .ref h0_sha, .ref h0_stream, .ref h0_aes, .ref h0_modes, .ref h0_gcm, .ref h0_generator, .ref h0_tests, .ref h0_message, .ref h0_secret, .int c_state, .int c_testsDone, .int c_faults, .int c_streamBegun])), (h0_slots, .inl (cy 4, 16, .inr (.inr (.inr (.inr (fun j => some (hP_o j)))))))]) hP [] rfl) (va_D.part (X := [(h0, .inr (11, [.ref h0_buffer, .ref h0_slots, .ref h0_counters, .ref h0_officerPin, .ref h0_userPin, .ref h0_words, .ref h0_sha, .ref h0_stream, .ref h0_aes, .ref h0_modes, .ref h0_gcm, .ref h0_generator, .ref h0_tests, .ref h0_message, .ref h0_secret, .int c_state, .int c_testsDone, .int c_faults, .int c_streamBegun])), (h0_slots, .inl (cy 4, 16, .inr (.inr (.inr (.inr (fun j => some (hP_o j)))))))]) hD [] (by decide) rfl) (va_freeP (X := [(h0, .inr (11, [.ref h0_buffer, .ref h0_slots, .ref h0_counters, .ref h0_officerPin, .ref h0_userPin, .ref h0_words, .ref h0_sha, .ref h0_stream, .ref h0_aes, .ref h0_modes, .ref h0_gcm, .ref h0_generator, .ref h0_tests, .ref h0_message, .ref h0_secret, .int c_state, .int c_testsDone, .int c_faults, .int c_streamBegun])), (h0_slots, .inl (cy 4, 16, .inr (.inr (.inr (.inr (fun j => some (hP_o j)))))))]) hD hS hA [] rfl)⟩ rfl rfl hl.1 rfl (lv_room (Nat.le_of_ble_eq_true rfl)) (zdt_at zt_X9_slotInfo_0 19 rfl) ⟨Nat.zero_le _, Nat.zero_le _⟩) ?_
  clear hc_
  refine W.eq (g2 := F0 m 37 ls [.int r_9]) rfl ?_
  refine lv_if_eq (pc := 37) (tgt := 42) hx hb (zdt_at zt_X9_slotInfo_0 20 rfl) (by decide) (fun cn_ => ?t_10) (fun cn_ => ?f_11)
  case f_11 =>
    replace hf := ze_s cn_ hf
    clear cn_
    refine lv_iconst (pc := 40) (v := (-1 : Int32)) hx hb (zdt_at zt_X9_slotInfo_0 21 rfl) (by decide) ?_
    cases hf
    exact W.iret (pc := 41) hx hb hr (fun t ht hW => ⟨rfl, ht⟩) (fun _ h => nomatch h) (zdt_at zt_X9_slotInfo_0 22 rfl)
  replace hf := zt_s cn_ hf
  clear cn_
  refine lv_iload_n (pc := 42) hx hb (zdt_at zt_X9_slotInfo_0 23 rfl) rfl (lv_at hl 3 rfl) ?_
  by_cases hs_12 : p2 = (0 : Int32)
  · replace hf := zt_s hs_12 hf
    refine lv_tableIn (pc := 43) (tgt := 72) (off := 29) hx hb (zdt_at zt_X9_slotInfo_0 24 rfl) (by rw [hs_12]; decide) (by rw [hs_12]; decide) (by rw [hs_12]; rfl) (by decide) ?_
    clear hs_12
    refine lv_aload_n (pc := 72) hx hb (zdt_at zt_X9_slotInfo_0 25 rfl) rfl (lv_at hl 0 rfl) ?_
    refine va_get (pc := 73) (D := D) (ci := 10) (v := .int (cP_kind p1.toNatClampNeg)) (C := RX8) (T := TX8) (N := 6) hx hb hts hcX8 hown hK hP (2 + p1.toNatClampNeg) (zplO_get (X := [(h0, .inr (11, [.ref h0_buffer, .ref h0_slots, .ref h0_counters, .ref h0_officerPin, .ref h0_userPin, .ref h0_words, .ref h0_sha, .ref h0_stream, .ref h0_aes, .ref h0_modes, .ref h0_gcm, .ref h0_generator, .ref h0_tests, .ref h0_message, .ref h0_secret, .int c_state, .int c_testsDone, .int c_faults, .int c_streamBegun])), (h0_slots, .inl (cy 4, 16, .inr (.inr (.inr (.inr (fun j => some (hP_o j)))))))]) (n := 2) rfl hj_8) rfl 1 (by decide) hw1 (fun _ h9 => h9) rfl (zdt_at zt_X9_slotInfo_0 26 rfl) ?_
    cases hf
    exact W.iret (pc := 76) hx hb hr (fun t ht hW => ⟨rfl, ht⟩) (fun _ h => nomatch h) (zdt_at zt_X9_slotInfo_0 27 rfl)
  replace hf := ze_s hs_12 hf
  by_cases hs_13 : p2 = (1 : Int32)
  · replace hf := zt_s hs_13 hf
    refine lv_tableIn (pc := 43) (tgt := 77) (off := 34) hx hb (zdt_at zt_X9_slotInfo_0 24 rfl) (by rw [hs_13]; decide) (by rw [hs_13]; decide) (by rw [hs_13]; rfl) (by decide) ?_
    clear hs_13
    refine lv_aload_n (pc := 77) hx hb (zdt_at zt_X9_slotInfo_0 28 rfl) rfl (lv_at hl 0 rfl) ?_
    refine va_get (pc := 78) (D := D) (ci := 10) (v := .int (cP_length p1.toNatClampNeg)) (C := RX8) (T := TX8) (N := 6) hx hb hts hcX8 hown hK hP (2 + p1.toNatClampNeg) (zplO_get (X := [(h0, .inr (11, [.ref h0_buffer, .ref h0_slots, .ref h0_counters, .ref h0_officerPin, .ref h0_userPin, .ref h0_words, .ref h0_sha, .ref h0_stream, .ref h0_aes, .ref h0_modes, .ref h0_gcm, .ref h0_generator, .ref h0_tests, .ref h0_message, .ref h0_secret, .int c_state, .int c_testsDone, .int c_faults, .int c_streamBegun])), (h0_slots, .inl (cy 4, 16, .inr (.inr (.inr (.inr (fun j => some (hP_o j)))))))]) (n := 2) rfl hj_8) rfl 2 (by decide) hw2 (fun _ h9 => h9) rfl (zdt_at zt_X9_slotInfo_0 29 rfl) ?_
    cases hf
    exact W.iret (pc := 81) hx hb hr (fun t ht hW => ⟨rfl, ht⟩) (fun _ h => nomatch h) (zdt_at zt_X9_slotInfo_0 30 rfl)
  replace hf := ze_s hs_13 hf
  by_cases hs_14 : p2 = (2 : Int32)
  · replace hf := zt_s hs_14 hf
    refine lv_tableIn (pc := 43) (tgt := 82) (off := 39) hx hb (zdt_at zt_X9_slotInfo_0 24 rfl) (by rw [hs_14]; decide) (by rw [hs_14]; decide) (by rw [hs_14]; rfl) (by decide) ?_
    clear hs_14
    refine lv_aload_n (pc := 82) hx hb (zdt_at zt_X9_slotInfo_0 31 rfl) rfl (lv_at hl 0 rfl) ?_
    refine va_get (pc := 83) (D := D) (ci := 10) (v := .int (cP_usage p1.toNatClampNeg)) (C := RX8) (T := TX8) (N := 6) hx hb hts hcX8 hown hK hP (2 + p1.toNatClampNeg) (zplO_get (X := [(h0, .inr (11, [.ref h0_buffer, .ref h0_slots, .ref h0_counters, .ref h0_officerPin, .ref h0_userPin, .ref h0_words, .ref h0_sha, .ref h0_stream, .ref h0_aes, .ref h0_modes, .ref h0_gcm, .ref h0_generator, .ref h0_tests, .ref h0_message, .ref h0_secret, .int c_state, .int c_testsDone, .int c_faults, .int c_streamBegun])), (h0_slots, .inl (cy 4, 16, .inr (.inr (.inr (.inr (fun j => some (hP_o j)))))))]) (n := 2) rfl hj_8) rfl 3 (by decide) hw3 (fun _ h9 => h9) rfl (zdt_at zt_X9_slotInfo_0 32 rfl) ?_
    cases hf
    exact W.iret (pc := 86) hx hb hr (fun t ht hW => ⟨rfl, ht⟩) (fun _ h => nomatch h) (zdt_at zt_X9_slotInfo_0 33 rfl)
  replace hf := ze_s hs_14 hf
  by_cases hs_15 : p2 = (3 : Int32)
  · replace hf := zt_s hs_15 hf
    refine lv_tableIn (pc := 43) (tgt := 87) (off := 44) hx hb (zdt_at zt_X9_slotInfo_0 24 rfl) (by rw [hs_15]; decide) (by rw [hs_15]; decide) (by rw [hs_15]; rfl) (by decide) ?_
    clear hs_15
    refine lv_aload_n (pc := 87) hx hb (zdt_at zt_X9_slotInfo_0 34 rfl) rfl (lv_at hl 0 rfl) ?_
    refine va_get (pc := 88) (D := D) (ci := 10) (v := .int (cP_role p1.toNatClampNeg)) (C := RX8) (T := TX8) (N := 6) hx hb hts hcX8 hown hK hP (2 + p1.toNatClampNeg) (zplO_get (X := [(h0, .inr (11, [.ref h0_buffer, .ref h0_slots, .ref h0_counters, .ref h0_officerPin, .ref h0_userPin, .ref h0_words, .ref h0_sha, .ref h0_stream, .ref h0_aes, .ref h0_modes, .ref h0_gcm, .ref h0_generator, .ref h0_tests, .ref h0_message, .ref h0_secret, .int c_state, .int c_testsDone, .int c_faults, .int c_streamBegun])), (h0_slots, .inl (cy 4, 16, .inr (.inr (.inr (.inr (fun j => some (hP_o j)))))))]) (n := 2) rfl hj_8) rfl 4 (by decide) hw4 (fun _ h9 => h9) rfl (zdt_at zt_X9_slotInfo_0 35 rfl) ?_
    cases hf
    exact W.iret (pc := 91) hx hb hr (fun t ht hW => ⟨rfl, ht⟩) (fun _ h => nomatch h) (zdt_at zt_X9_slotInfo_0 36 rfl)
  replace hf := ze_s hs_15 hf
  have kd_16 : GW s.heap [] (F0 m 92 ls []) := by
    refine hFr _ _ _ ?_
    refine lv_aload_n (pc := 92) hx hb (zdt_at zt_X9_slotInfo_0 37 rfl) rfl (lv_at hl 0 rfl) ?_
    refine va_get (pc := 93) (D := D) (ci := 10) (v := .int (cP_uses p1.toNatClampNeg)) (C := RX8) (T := TX8) (N := 6) hx hb hts hcX8 hown hK hP (2 + p1.toNatClampNeg) (zplO_get (X := [(h0, .inr (11, [.ref h0_buffer, .ref h0_slots, .ref h0_counters, .ref h0_officerPin, .ref h0_userPin, .ref h0_words, .ref h0_sha, .ref h0_stream, .ref h0_aes, .ref h0_modes, .ref h0_gcm, .ref h0_generator, .ref h0_tests, .ref h0_message, .ref h0_secret, .int c_state, .int c_testsDone, .int c_faults, .int c_streamBegun])), (h0_slots, .inl (cy 4, 16, .inr (.inr (.inr (.inr (fun j => some (hP_o j)))))))]) (n := 2) rfl hj_8) rfl 5 (by decide) hw5 (fun _ h9 => h9) rfl (zdt_at zt_X9_slotInfo_0 38 rfl) ?_
    cases hf
    exact W.iret (pc := 96) hx hb hr (fun t ht hW => ⟨rfl, ht⟩) (fun _ h => nomatch h) (zdt_at zt_X9_slotInfo_0 39 rfl)
  have n0_ : ¬ p2.toInt = 0 := lv_neT (k := (0 : Int32)) hs_12 (by decide)
  have n1_ : ¬ p2.toInt = 1 := lv_neT (k := (1 : Int32)) hs_13 (by decide)
  have n2_ : ¬ p2.toInt = 2 := lv_neT (k := (2 : Int32)) hs_14 (by decide)
  have n3_ : ¬ p2.toInt = 3 := lv_neT (k := (3 : Int32)) hs_15 (by decide)
  by_cases hr_ : p2.toInt < 0 ∨ 3 < p2.toInt
  · exact lv_tableOut (pc := 43) (tgt := 92) hx hb (zdt_at zt_X9_slotInfo_0 24 rfl) hr_ (by decide) (hTo _ _ _ kd_16)
  · exact absurd hr_ (by omega)
