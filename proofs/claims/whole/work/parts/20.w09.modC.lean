set_option maxHeartbeats 4000000 in
set_option maxRecDepth 100000 in
theorem c_X9_deriveRefusal (l : Launch) (D : va_G) (cy : Nat → ClassId) (tt : Nat → Nat) (sz : Nat) (h0 : Nat) (h0_buffer : Nat) (h0_slots : Nat) (h0_counters : Nat) (h0_officerPin : Nat) (h0_userPin : Nat) (h0_words : Nat) (h0_sha : Nat) (h0_stream : Nat) (h0_aes : Nat) (h0_modes : Nat) (h0_gcm : Nat) (h0_generator : Nat) (h0_tests : Nat) (h0_message : Nat) (h0_secret : Nat) (hP_o : Nat → Nat) (hP_k : Nat → Nat) (p1 : Int32) (p2 : Int32) (p3 : Int32) (p4 : Int32) (p5 : Int32) (p6 : Int32) (c_state : Int32) (cP_kind : Nat → Int32) (cP_role : Nat → Int32) (cP_usage : Nat → Int32) (cP_uses : Nat → Int32) (c_testsDone : Int32) (c_faults : Int32) (c_streamBegun : Int32) (cP_length : Nat → Int32) (cPK : Nat → Nat → Int32) (r_ : Int32) (hf : f_X9_deriveRefusal p1 p2 p3 p4 p5 p6 c_state cP_kind cP_role cP_usage cP_uses = some r_) : Met l yX9_deriveRefusal wsX9_deriveRefusal ({ frames := 2, cells := 0, slots := 0, locals := 41 }) (zPc D cy tt sz [.ref h0, .int p1, .int p2, .int p3, .int p4, .int p5, .int p6] ([(h0, .inr (11, [.ref h0_buffer, .ref h0_slots, .ref h0_counters, .ref h0_officerPin, .ref h0_userPin, .ref h0_words, .ref h0_sha, .ref h0_stream, .ref h0_aes, .ref h0_modes, .ref h0_gcm, .ref h0_generator, .ref h0_tests, .ref h0_message, .ref h0_secret, .int c_state, .int c_testsDone, .int c_faults, .int c_streamBegun])), (h0_slots, .inl (cy 4, 16, .inr (.inr (.inr (.inr (fun j => some (hP_o j)))))))] ++ zpl (cy 0) hP_o hP_k cP_kind cP_length cP_usage cP_role cP_uses cPK)) (fun _ st o t => o = .returned (some (.int r_)) ∧ t.heap = st.heap) 0 0 (fun _ => False) := by
  refine Met.ofW (cc := cX9_deriveRefusal) (maxL := 8) (ret := (some .int)) (by decide) rfl ?_
  intro p e s m args below meth c s₁ B hml hv
  obtain ⟨rfl, rfl, hP, hD0, hE⟩ := hv
  have hx := B.exec
  have hb := B.bytes
  have hr := B.returns
  have hts := atoms_spec (ws := wsX9_deriveRefusal) B.pre
  have hown : s.vm.findClass RX9 = some m.cls := findClass_of_methodNamed B.named
  have hlocks := B.notSynchronized
  clear B
  have hD := hD0.self (sz := s.heap.size)
  generalize hAe : va_A ([(h0, .inr (11, [.ref h0_buffer, .ref h0_slots, .ref h0_counters, .ref h0_officerPin, .ref h0_userPin, .ref h0_words, .ref h0_sha, .ref h0_stream, .ref h0_aes, .ref h0_modes, .ref h0_gcm, .ref h0_generator, .ref h0_tests, .ref h0_message, .ref h0_secret, .int c_state, .int c_testsDone, .int c_faults, .int c_streamBegun])), (h0_slots, .inl (cy 4, 16, .inr (.inr (.inr (.inr (fun j => some (hP_o j)))))))] ++ zpl (cy 0) hP_o hP_k cP_kind cP_length cP_usage cP_role cP_uses cPK) s.heap.size = A at hD hE
  have hA : ∀ q : Nat, s.heap.size ≤ q → A q := fun q h => by rw [← hAe]; exact Or.inr h
  clear hAe hD0
  have hS : va_S A s.heap s.heap [] := va_S.rf
  have hK := hE.1
  have hw0 := hts (.fieldLink RX9 15 "SealedModule" "slots" "[LSealedModule$Slot;") (by decide +kernel)
  have hw1 := hts (.fieldLink RX9 204 "SealedModule$Slot" "kind" "I") (by decide +kernel)
  have hw2 := hts (.fieldLink RX9 216 "SealedModule$Slot" "uses" "I") (by decide +kernel)
  have hcX9 : ∀ w ∈ u_ws RX9 TX9 19, w ∈ wsX9_deriveRefusal := (fun _ h => List.mem_cons_of_mem _ (List.mem_append_left _ (List.mem_append_right _ h)))
  have hcX8 : ∀ w ∈ u_ws RX8 TX8 6, w ∈ wsX9_deriveRefusal := (fun _ h => List.mem_cons_of_mem _ (List.mem_append_right _ h))
  have hl := lv_entry ([.ref h0, .int p1, .int p2, .int p3, .int p4, .int p5, .int p6]) (n := 8) (Nat.le_of_ble_eq_true rfl)
  rw [lg_entry_eq]
  generalize (lg_sl ([.ref h0, .int p1, .int p2, .int p3, .int p4, .int p5, .int p6]) ++ List.replicate (8 - (lg_sl ([.ref h0, .int p1, .int p2, .int p3, .int p4, .int p5, .int p6])).length) Slot.unset).toArray = ls at hl ⊢
  replace hl : lv_has ls 8 [(0, .ref h0), (1, .int p1), (2, .int p2), (3, .int p3), (4, .int p4), (5, .int p5), (6, .int p6)] := hl
  unfold f_X9_deriveRefusal at hf
  refine zgo (fun GW hTo hFr => ?_)
  refine hFr _ _ _ ?_
  refine lv_aload_n (pc := 0) hx hb (zdt_at zt_X9_deriveRefusal_0 0 rfl) rfl (lv_at hl 0 rfl) ?_
  replace hf := zb_s hf
  obtain ⟨r_1, hc_, hf⟩ := hf
  refine zcs (pc := 1) (rv := (some (.int r_1))) (va_runV (As := []) (rest := []) ⟨hx, hb, hml, hown, hts⟩ (c_X9_loggedIn l D cy tt s.heap.size h0 h0_buffer h0_slots h0_counters h0_officerPin h0_userPin h0_words h0_sha h0_stream h0_aes h0_modes h0_gcm h0_generator h0_tests h0_message h0_secret c_state c_testsDone c_faults c_streamBegun r_1 hc_) (cwV 0 hts gX9_deriveRefusal_X9_loggedIn rfl rfl rfl (by decide +kernel) ⟨Nat.le_of_ble_eq_true rfl, Nat.le_of_ble_eq_true rfl⟩) ⟨zblind, va_recv hK hP (ci := 11) (q0 := 0) rfl rfl, zpre hE hS (hP.sub [0] rfl) (hD.sub [0] (by decide) rfl) (va_free hD hS hA [0] rfl)⟩ rfl rfl hl.1 rfl (lv_room (Nat.le_of_ble_eq_true rfl)) (zdt_at zt_X9_deriveRefusal_0 1 rfl) ⟨Nat.zero_le _, Nat.zero_le _⟩) ?_
  clear hc_
  refine W.eq (g2 := F0 m 4 ls [.int r_1]) rfl ?_
  refine lv_if_ne (pc := 4) (tgt := 9) hx hb (zdt_at zt_X9_deriveRefusal_0 2 rfl) (by decide) (fun cn_ => ?t_2) (fun cn_ => ?f_3)
  case f_3 =>
    replace hf := zt_s cn_ hf
    clear cn_
    refine lv_iconst (pc := 7) (v := (-1 : Int32)) hx hb (zdt_at zt_X9_deriveRefusal_0 3 rfl) (by decide) ?_
    cases hf
    exact W.iret (pc := 8) hx hb hr (fun t ht hW => ⟨rfl, ht⟩) (fun _ h => nomatch h) (zdt_at zt_X9_deriveRefusal_0 4 rfl)
  replace hf := ze_s cn_ hf
  clear cn_
  refine lv_iload_n (pc := 9) hx hb (zdt_at zt_X9_deriveRefusal_0 5 rfl) rfl (lv_at hl 1 rfl) ?_
  replace hf := zb_s hf
  obtain ⟨r_4, hc_, hf⟩ := hf
  refine zcs (pc := 10) (rv := (some (.int r_4))) (va_runS (As := [.int p1]) (rest := []) ⟨hx, hb, hml, hown, hts⟩ (c_X9_isSlot l D cy tt s.heap.size p1 r_4 hc_) (va_cwS 1 hts gX9_deriveRefusal_X9_isSlot rfl rfl rfl (by decide +kernel) ⟨Nat.le_of_ble_eq_true rfl, Nat.le_of_ble_eq_true rfl⟩) ⟨zblind, zpre hE hS (hP.sub [] rfl) (hD.sub [] (by decide) rfl) (va_free hD hS hA [] rfl)⟩ rfl rfl hl.1 rfl (lv_room (Nat.le_of_ble_eq_true rfl)) (zdt_at zt_X9_deriveRefusal_0 6 rfl) ⟨Nat.zero_le _, Nat.zero_le _⟩) ?_
  clear hc_
  refine W.eq (g2 := F0 m 13 ls [.int r_4]) rfl ?_
  refine lv_if_eq (pc := 13) (tgt := 38) hx hb (zdt_at zt_X9_deriveRefusal_0 7 rfl) (by decide) (fun cn_ => ?t_5) (fun cn_ => ?f_6)
  case t_5 =>
    replace hf := zt_s cn_ hf
    clear cn_
    refine lv_bipush (pc := 38) (v := (-2 : Int32)) hx hb (zdt_at zt_X9_deriveRefusal_0 17 rfl) (by decide) ?_
    cases hf
    exact W.iret (pc := 40) hx hb hr (fun t ht hW => ⟨rfl, ht⟩) (fun _ h => nomatch h) (zdt_at zt_X9_deriveRefusal_0 18 rfl)
  replace hf := ze_s cn_ hf
  clear cn_
  refine lv_iload_n (pc := 16) hx hb (zdt_at zt_X9_deriveRefusal_0 8 rfl) rfl (lv_at hl 2 rfl) ?_
  replace hf := zb_s hf
  obtain ⟨r_7, hc_, hf⟩ := hf
  refine zcs (pc := 17) (rv := (some (.int r_7))) (va_runS (As := [.int p2]) (rest := []) ⟨hx, hb, hml, hown, hts⟩ (c_X9_isSlot l D cy tt s.heap.size p2 r_7 hc_) (va_cwS 1 hts gX9_deriveRefusal_X9_isSlot rfl rfl rfl (by decide +kernel) ⟨Nat.le_of_ble_eq_true rfl, Nat.le_of_ble_eq_true rfl⟩) ⟨zblind, zpre hE hS (hP.sub [] rfl) (hD.sub [] (by decide) rfl) (va_free hD hS hA [] rfl)⟩ rfl rfl hl.1 rfl (lv_room (Nat.le_of_ble_eq_true rfl)) (zdt_at zt_X9_deriveRefusal_0 9 rfl) ⟨Nat.zero_le _, Nat.zero_le _⟩) ?_
  clear hc_
  refine W.eq (g2 := F0 m 20 ls [.int r_7]) rfl ?_
  refine lv_if_eq (pc := 20) (tgt := 38) hx hb (zdt_at zt_X9_deriveRefusal_0 10 rfl) (by decide) (fun cn_ => ?t_8) (fun cn_ => ?f_9)
  case t_8 =>
    replace hf := zt_s cn_ hf
    clear cn_
    refine lv_bipush (pc := 38) (v := (-2 : Int32)) hx hb (zdt_at zt_X9_deriveRefusal_0 17 rfl) (by decide) ?_
    cases hf
    exact W.iret (pc := 40) hx hb hr (fun t ht hW => ⟨rfl, ht⟩) (fun _ h => nomatch h) (zdt_at zt_X9_deriveRefusal_0 18 rfl)
  replace hf := ze_s cn_ hf
  clear cn_
  refine lv_iload_n (pc := 23) hx hb (zdt_at zt_X9_deriveRefusal_0 11 rfl) rfl (lv_at hl 3 rfl) ?_
  replace hf := zb_s hf
  obtain ⟨r_10, hc_, hf⟩ := hf
  refine zcs (pc := 24) (rv := (some (.int r_10))) (va_runS (As := [.int p3]) (rest := []) ⟨hx, hb, hml, hown, hts⟩ (c_X9_isKind l D cy tt s.heap.size p3 r_10 hc_) (va_cwS 1 hts gX9_deriveRefusal_X9_isKind rfl rfl rfl (by decide +kernel) ⟨Nat.le_of_ble_eq_true rfl, Nat.le_of_ble_eq_true rfl⟩) ⟨zblind, zpre hE hS (hP.sub [] rfl) (hD.sub [] (by decide) rfl) (va_free hD hS hA [] rfl)⟩ rfl rfl hl.1 rfl (lv_room (Nat.le_of_ble_eq_true rfl)) (zdt_at zt_X9_deriveRefusal_0 12 rfl) ⟨Nat.zero_le _, Nat.zero_le _⟩) ?_
  clear hc_
  refine W.eq (g2 := F0 m 27 ls [.int r_10]) rfl ?_
  refine lv_if_eq (pc := 27) (tgt := 38) hx hb (zdt_at zt_X9_deriveRefusal_0 13 rfl) (by decide) (fun cn_ => ?t_11) (fun cn_ => ?f_12)
  case t_11 =>
    replace hf := zt_s cn_ hf
    clear cn_
    refine lv_bipush (pc := 38) (v := (-2 : Int32)) hx hb (zdt_at zt_X9_deriveRefusal_0 17 rfl) (by decide) ?_
    cases hf
    exact W.iret (pc := 40) hx hb hr (fun t ht hW => ⟨rfl, ht⟩) (fun _ h => nomatch h) (zdt_at zt_X9_deriveRefusal_0 18 rfl)
  replace hf := ze_s cn_ hf
  clear cn_
  refine lv_iload (pc := 30) hx hb (zdt_at zt_X9_deriveRefusal_0 14 rfl) (lv_at hl 4 rfl) ?_
  replace hf := zb_s hf
  obtain ⟨r_13, hc_, hf⟩ := hf
  refine zcs (pc := 32) (rv := (some (.int r_13))) (va_runS (As := [.int p4]) (rest := []) ⟨hx, hb, hml, hown, hts⟩ (c_X9_isUsage l D cy tt s.heap.size p4 r_13 hc_) (va_cwS 1 hts gX9_deriveRefusal_X9_isUsage rfl rfl rfl (by decide +kernel) ⟨Nat.le_of_ble_eq_true rfl, Nat.le_of_ble_eq_true rfl⟩) ⟨zblind, zpre hE hS (hP.sub [] rfl) (hD.sub [] (by decide) rfl) (va_free hD hS hA [] rfl)⟩ rfl rfl hl.1 rfl (lv_room (Nat.le_of_ble_eq_true rfl)) (zdt_at zt_X9_deriveRefusal_0 15 rfl) ⟨Nat.zero_le _, Nat.zero_le _⟩) ?_
  clear hc_
  refine W.eq (g2 := F0 m 35 ls [.int r_13]) rfl ?_
  refine lv_if_ne (pc := 35) (tgt := 41) hx hb (zdt_at zt_X9_deriveRefusal_0 16 rfl) (by decide) (fun cn_ => ?t_14) (fun cn_ => ?f_15)
  case f_15 =>
    replace hf := zt_s cn_ hf
    clear cn_
    refine lv_bipush (pc := 38) (v := (-2 : Int32)) hx hb (zdt_at zt_X9_deriveRefusal_0 17 rfl) (by decide) ?_
    cases hf
    exact W.iret (pc := 40) hx hb hr (fun t ht hW => ⟨rfl, ht⟩) (fun _ h => nomatch h) (zdt_at zt_X9_deriveRefusal_0 18 rfl)
  replace hf := ze_s cn_ hf
  clear cn_
  refine lv_iload (pc := 41) hx hb (zdt_at zt_X9_deriveRefusal_0 19 rfl) (lv_at hl 5 rfl) ?_
  replace hf := zb_s hf
  obtain ⟨r_16, hc_, hf⟩ := hf
  refine zcs (pc := 43) (rv := (some (.int r_16))) (va_runS (As := [.int p5]) (rest := []) ⟨hx, hb, hml, hown, hts⟩ (c_X9_isKeyLength l D cy tt s.heap.size p5 r_16 hc_) (va_cwS 1 hts gX9_deriveRefusal_X9_isKeyLength rfl rfl rfl (by decide +kernel) ⟨Nat.le_of_ble_eq_true rfl, Nat.le_of_ble_eq_true rfl⟩) ⟨zblind, zpre hE hS (hP.sub [] rfl) (hD.sub [] (by decide) rfl) (va_free hD hS hA [] rfl)⟩ rfl rfl hl.1 rfl (lv_room (Nat.le_of_ble_eq_true rfl)) (zdt_at zt_X9_deriveRefusal_0 20 rfl) ⟨Nat.zero_le _, Nat.zero_le _⟩) ?_
  clear hc_
  refine W.eq (g2 := F0 m 46 ls [.int r_16]) rfl ?_
  refine lv_if_eq (pc := 46) (tgt := 61) hx hb (zdt_at zt_X9_deriveRefusal_0 21 rfl) (by decide) (fun cn_ => ?t_17) (fun cn_ => ?f_18)
  case t_17 =>
    replace hf := zt_s cn_ hf
    clear cn_
    refine lv_bipush (pc := 61) (v := (-2 : Int32)) hx hb (zdt_at zt_X9_deriveRefusal_0 27 rfl) (by decide) ?_
    cases hf
    exact W.iret (pc := 63) hx hb hr (fun t ht hW => ⟨rfl, ht⟩) (fun _ h => nomatch h) (zdt_at zt_X9_deriveRefusal_0 28 rfl)
  replace hf := ze_s cn_ hf
  clear cn_
  refine lv_iload (pc := 49) hx hb (zdt_at zt_X9_deriveRefusal_0 22 rfl) (lv_at hl 6 rfl) ?_
  refine lv_if_lt (pc := 51) (tgt := 61) hx hb (zdt_at zt_X9_deriveRefusal_0 23 rfl) (by decide) (fun cn_ => ?t_19) (fun cn_ => ?f_20)
  case t_19 =>
    replace hf := zt_s cn_ hf
    clear cn_
    refine lv_bipush (pc := 61) (v := (-2 : Int32)) hx hb (zdt_at zt_X9_deriveRefusal_0 27 rfl) (by decide) ?_
    cases hf
    exact W.iret (pc := 63) hx hb hr (fun t ht hW => ⟨rfl, ht⟩) (fun _ h => nomatch h) (zdt_at zt_X9_deriveRefusal_0 28 rfl)
  replace hf := ze_s cn_ hf
  clear cn_
  refine lv_iload (pc := 54) hx hb (zdt_at zt_X9_deriveRefusal_0 24 rfl) (lv_at hl 6 rfl) ?_
  refine lv_bipush (pc := 56) (v := (64 : Int32)) hx hb (zdt_at zt_X9_deriveRefusal_0 25 rfl) (by decide) ?_
  refine lv_icmp_le (pc := 58) (tgt := 64) hx hb (zdt_at zt_X9_deriveRefusal_0 26 rfl) (by decide) (fun cn_ => ?t_21) (fun cn_ => ?f_22)
  case f_22 =>
    replace hf := ze_s cn_ hf
    clear cn_
    refine lv_bipush (pc := 61) (v := (-2 : Int32)) hx hb (zdt_at zt_X9_deriveRefusal_0 27 rfl) (by decide) ?_
    cases hf
    exact W.iret (pc := 63) hx hb hr (fun t ht hW => ⟨rfl, ht⟩) (fun _ h => nomatch h) (zdt_at zt_X9_deriveRefusal_0 28 rfl)
  replace hf := zt_s cn_ hf
  clear cn_
  refine lv_aload_n (pc := 64) hx hb (zdt_at zt_X9_deriveRefusal_0 29 rfl) rfl (lv_at hl 0 rfl) ?_
  refine va_get (pc := 65) (D := D) (ci := 11) (v := .ref h0_slots) (C := RX9) (T := TX9) (N := 19) hx hb hts hcX9 hown hK hP 0 rfl rfl 1 (by decide) hw0 (fun _ h9 => h9) rfl (zdt_at zt_X9_deriveRefusal_0 30 rfl) ?_
  refine lv_iload_n (pc := 68) hx hb (zdt_at zt_X9_deriveRefusal_0 31 rfl) rfl (lv_at hl 2 rfl) ?_
  replace hf := zk_s hf
  have hj_23 : p2.toNatClampNeg < 16 := Nat.not_le.mp fun q => hf.1 (Or.inr q)
  refine va_aldq (pc := 69) (C := RX8) hx hb hK hP 1 4 rfl rfl hf.1 (zdt_at zt_X9_deriveRefusal_0 32 rfl) ?_
  replace hf := hf.2
  refine lv_astore (pc := 70) (lv' := [(7, .ref (hP_o p2.toNatClampNeg)), (0, .ref h0), (1, .int p1), (2, .int p2), (3, .int p3), (4, .int p4), (5, .int p5), (6, .int p6)]) hx hb (zdt_at zt_X9_deriveRefusal_0 33 rfl) hl (by decide) rfl ?_
  clear hl
  intro ls hl
  refine lv_aload_n (pc := 72) hx hb (zdt_at zt_X9_deriveRefusal_0 34 rfl) rfl (lv_at hl 1 rfl) ?_
  refine lv_aload (pc := 73) hx hb (zdt_at zt_X9_deriveRefusal_0 35 rfl) (lv_at hl 0 rfl) ?_
  replace hf := zb_s hf
  obtain ⟨r_24, hc_, hf⟩ := hf
  refine zcs (pc := 75) (rv := (some (.int r_24))) (va_runV (As := [.ref (hP_o p2.toNatClampNeg)]) (rest := []) ⟨hx, hb, hml, hown, hts⟩ (c_X9_isForeign l D cy tt s.heap.size h0 h0_buffer h0_slots h0_counters h0_officerPin h0_userPin h0_words h0_sha h0_stream h0_aes h0_modes h0_gcm h0_generator h0_tests h0_message h0_secret hP_o hP_k p2.toNatClampNeg c_state cP_kind cP_role c_testsDone c_faults c_streamBegun cP_length cP_usage cP_uses cPK r_24 hj_23 hc_) (cwV 1 hts gX9_deriveRefusal_X9_isForeign rfl rfl rfl (by decide +kernel) ⟨Nat.le_of_ble_eq_true rfl, Nat.le_of_ble_eq_true rfl⟩) ⟨zblind, va_recv hK hP (ci := 11) (q0 := 0) rfl rfl, zpre hE hS (va_P.part (X := [(h0, .inr (11, [.ref h0_buffer, .ref h0_slots, .ref h0_counters, .ref h0_officerPin, .ref h0_userPin, .ref h0_words, .ref h0_sha, .ref h0_stream, .ref h0_aes, .ref h0_modes, .ref h0_gcm, .ref h0_generator, .ref h0_tests, .ref h0_message, .ref h0_secret, .int c_state, .int c_testsDone, .int c_faults, .int c_streamBegun])), (h0_slots, .inl (cy 4, 16, .inr (.inr (.inr (.inr (fun j => some (hP_o j)))))))]) hP [0] rfl) (va_D.part (X := [(h0, .inr (11, [.ref h0_buffer, .ref h0_slots, .ref h0_counters, .ref h0_officerPin, .ref h0_userPin, .ref h0_words, .ref h0_sha, .ref h0_stream, .ref h0_aes, .ref h0_modes, .ref h0_gcm, .ref h0_generator, .ref h0_tests, .ref h0_message, .ref h0_secret, .int c_state, .int c_testsDone, .int c_faults, .int c_streamBegun])), (h0_slots, .inl (cy 4, 16, .inr (.inr (.inr (.inr (fun j => some (hP_o j)))))))]) hD [0] (by decide) rfl) (va_freeP (X := [(h0, .inr (11, [.ref h0_buffer, .ref h0_slots, .ref h0_counters, .ref h0_officerPin, .ref h0_userPin, .ref h0_words, .ref h0_sha, .ref h0_stream, .ref h0_aes, .ref h0_modes, .ref h0_gcm, .ref h0_generator, .ref h0_tests, .ref h0_message, .ref h0_secret, .int c_state, .int c_testsDone, .int c_faults, .int c_streamBegun])), (h0_slots, .inl (cy 4, 16, .inr (.inr (.inr (.inr (fun j => some (hP_o j)))))))]) hD hS hA [0] rfl)⟩ rfl rfl hl.1 rfl (lv_room (Nat.le_of_ble_eq_true rfl)) (zdt_at zt_X9_deriveRefusal_0 36 rfl) ⟨Nat.zero_le _, Nat.zero_le _⟩) ?_
  clear hc_
  refine W.eq (g2 := F0 m 78 ls [.int r_24]) rfl ?_
  refine lv_if_eq (pc := 78) (tgt := 84) hx hb (zdt_at zt_X9_deriveRefusal_0 37 rfl) (by decide) (fun cn_ => ?t_25) (fun cn_ => ?f_26)
  case f_26 =>
    replace hf := ze_s cn_ hf
    clear cn_
    refine lv_bipush (pc := 81) (v := (-3 : Int32)) hx hb (zdt_at zt_X9_deriveRefusal_0 38 rfl) (by decide) ?_
    cases hf
    exact W.iret (pc := 83) hx hb hr (fun t ht hW => ⟨rfl, ht⟩) (fun _ h => nomatch h) (zdt_at zt_X9_deriveRefusal_0 39 rfl)
  replace hf := zt_s cn_ hf
  clear cn_
  refine lv_aload (pc := 84) hx hb (zdt_at zt_X9_deriveRefusal_0 40 rfl) (lv_at hl 0 rfl) ?_
  replace hf := zb_s hf
  obtain ⟨r_27, hc_, hf⟩ := hf
  refine zcs (pc := 86) (rv := (some (.int r_27))) (va_runV (As := []) (rest := []) ⟨hx, hb, hml, hown, hts⟩ (c_X8_isEmpty l D cy tt s.heap.size hP_o hP_k p2.toNatClampNeg cP_kind cP_length cP_usage cP_role cP_uses cPK r_27 hj_23 hc_) (cwV 0 hts gX9_deriveRefusal_X8_isEmpty rfl rfl rfl (by decide +kernel) ⟨Nat.le_of_ble_eq_true rfl, Nat.le_of_ble_eq_true rfl⟩) ⟨zblind, va_recv hK hP (ci := 10) (q0 := (2 + p2.toNatClampNeg)) rfl (zplO_get (X := [(h0, .inr (11, [.ref h0_buffer, .ref h0_slots, .ref h0_counters, .ref h0_officerPin, .ref h0_userPin, .ref h0_words, .ref h0_sha, .ref h0_stream, .ref h0_aes, .ref h0_modes, .ref h0_gcm, .ref h0_generator, .ref h0_tests, .ref h0_message, .ref h0_secret, .int c_state, .int c_testsDone, .int c_faults, .int c_streamBegun])), (h0_slots, .inl (cy 4, 16, .inr (.inr (.inr (.inr (fun j => some (hP_o j)))))))]) (n := 2) rfl hj_23), zpre hE hS (va_P.part (X := [(h0, .inr (11, [.ref h0_buffer, .ref h0_slots, .ref h0_counters, .ref h0_officerPin, .ref h0_userPin, .ref h0_words, .ref h0_sha, .ref h0_stream, .ref h0_aes, .ref h0_modes, .ref h0_gcm, .ref h0_generator, .ref h0_tests, .ref h0_message, .ref h0_secret, .int c_state, .int c_testsDone, .int c_faults, .int c_streamBegun])), (h0_slots, .inl (cy 4, 16, .inr (.inr (.inr (.inr (fun j => some (hP_o j)))))))]) hP [] rfl) (va_D.part (X := [(h0, .inr (11, [.ref h0_buffer, .ref h0_slots, .ref h0_counters, .ref h0_officerPin, .ref h0_userPin, .ref h0_words, .ref h0_sha, .ref h0_stream, .ref h0_aes, .ref h0_modes, .ref h0_gcm, .ref h0_generator, .ref h0_tests, .ref h0_message, .ref h0_secret, .int c_state, .int c_testsDone, .int c_faults, .int c_streamBegun])), (h0_slots, .inl (cy 4, 16, .inr (.inr (.inr (.inr (fun j => some (hP_o j)))))))]) hD [] (by decide) rfl) (va_freeP (X := [(h0, .inr (11, [.ref h0_buffer, .ref h0_slots, .ref h0_counters, .ref h0_officerPin, .ref h0_userPin, .ref h0_words, .ref h0_sha, .ref h0_stream, .ref h0_aes, .ref h0_modes, .ref h0_gcm, .ref h0_generator, .ref h0_tests, .ref h0_message, .ref h0_secret, .int c_state, .int c_testsDone, .int c_faults, .int c_streamBegun])), (h0_slots, .inl (cy 4, 16, .inr (.inr (.inr (.inr (fun j => some (hP_o j)))))))]) hD hS hA [] rfl)⟩ rfl rfl hl.1 rfl (lv_room (Nat.le_of_ble_eq_true rfl)) (zdt_at zt_X9_deriveRefusal_0 41 rfl) ⟨Nat.zero_le _, Nat.zero_le _⟩) ?_
  clear hc_
  refine W.eq (g2 := F0 m 89 ls [.int r_27]) rfl ?_
  refine lv_if_ne (pc := 89) (tgt := 104) hx hb (zdt_at zt_X9_deriveRefusal_0 42 rfl) (by decide) (fun cn_ => ?t_28) (fun cn_ => ?f_29)
  case t_28 =>
    replace hf := ze_s cn_ hf
    clear cn_
    refine lv_bipush (pc := 104) (v := (-4 : Int32)) hx hb (zdt_at zt_X9_deriveRefusal_0 49 rfl) (by decide) ?_
    cases hf
    exact W.iret (pc := 106) hx hb hr (fun t ht hW => ⟨rfl, ht⟩) (fun _ h => nomatch h) (zdt_at zt_X9_deriveRefusal_0 50 rfl)
  replace hf := zt_s cn_ hf
  clear cn_
  refine lv_aload_n (pc := 92) hx hb (zdt_at zt_X9_deriveRefusal_0 43 rfl) rfl (lv_at hl 1 rfl) ?_
  refine va_get (pc := 93) (D := D) (ci := 11) (v := .ref h0_slots) (C := RX9) (T := TX9) (N := 19) hx hb hts hcX9 hown hK hP 0 rfl rfl 1 (by decide) hw0 (fun _ h9 => h9) rfl (zdt_at zt_X9_deriveRefusal_0 44 rfl) ?_
  refine lv_iload_n (pc := 96) hx hb (zdt_at zt_X9_deriveRefusal_0 45 rfl) rfl (lv_at hl 2 rfl) ?_
  replace hf := zk_s hf
  have hj_30 : p1.toNatClampNeg < 16 := Nat.not_le.mp fun q => hf.1 (Or.inr q)
  refine va_aldq (pc := 97) (C := RX8) hx hb hK hP 1 4 rfl rfl hf.1 (zdt_at zt_X9_deriveRefusal_0 46 rfl) ?_
  replace hf := hf.2
  replace hf := zb_s hf
  obtain ⟨r_31, hc_, hf⟩ := hf
  refine zcs (pc := 98) (rv := (some (.int r_31))) (va_runV (As := []) (rest := []) ⟨hx, hb, hml, hown, hts⟩ (c_X8_isEmpty l D cy tt s.heap.size hP_o hP_k p1.toNatClampNeg cP_kind cP_length cP_usage cP_role cP_uses cPK r_31 hj_30 hc_) (cwV 0 hts gX9_deriveRefusal_X8_isEmpty rfl rfl rfl (by decide +kernel) ⟨Nat.le_of_ble_eq_true rfl, Nat.le_of_ble_eq_true rfl⟩) ⟨zblind, va_recv hK hP (ci := 10) (q0 := (2 + p1.toNatClampNeg)) rfl (zplO_get (X := [(h0, .inr (11, [.ref h0_buffer, .ref h0_slots, .ref h0_counters, .ref h0_officerPin, .ref h0_userPin, .ref h0_words, .ref h0_sha, .ref h0_stream, .ref h0_aes, .ref h0_modes, .ref h0_gcm, .ref h0_generator, .ref h0_tests, .ref h0_message, .ref h0_secret, .int c_state, .int c_testsDone, .int c_faults, .int c_streamBegun])), (h0_slots, .inl (cy 4, 16, .inr (.inr (.inr (.inr (fun j => some (hP_o j)))))))]) (n := 2) rfl hj_30), zpre hE hS (va_P.part (X := [(h0, .inr (11, [.ref h0_buffer, .ref h0_slots, .ref h0_counters, .ref h0_officerPin, .ref h0_userPin, .ref h0_words, .ref h0_sha, .ref h0_stream, .ref h0_aes, .ref h0_modes, .ref h0_gcm, .ref h0_generator, .ref h0_tests, .ref h0_message, .ref h0_secret, .int c_state, .int c_testsDone, .int c_faults, .int c_streamBegun])), (h0_slots, .inl (cy 4, 16, .inr (.inr (.inr (.inr (fun j => some (hP_o j)))))))]) hP [] rfl) (va_D.part (X := [(h0, .inr (11, [.ref h0_buffer, .ref h0_slots, .ref h0_counters, .ref h0_officerPin, .ref h0_userPin, .ref h0_words, .ref h0_sha, .ref h0_stream, .ref h0_aes, .ref h0_modes, .ref h0_gcm, .ref h0_generator, .ref h0_tests, .ref h0_message, .ref h0_secret, .int c_state, .int c_testsDone, .int c_faults, .int c_streamBegun])), (h0_slots, .inl (cy 4, 16, .inr (.inr (.inr (.inr (fun j => some (hP_o j)))))))]) hD [] (by decide) rfl) (va_freeP (X := [(h0, .inr (11, [.ref h0_buffer, .ref h0_slots, .ref h0_counters, .ref h0_officerPin, .ref h0_userPin, .ref h0_words, .ref h0_sha, .ref h0_stream, .ref h0_aes, .ref h0_modes, .ref h0_gcm, .ref h0_generator, .ref h0_tests, .ref h0_message, .ref h0_secret, .int c_state, .int c_testsDone, .int c_faults, .int c_streamBegun])), (h0_slots, .inl (cy 4, 16, .inr (.inr (.inr (.inr (fun j => some (hP_o j)))))))]) hD hS hA [] rfl)⟩ rfl rfl hl.1 rfl (lv_room (Nat.le_of_ble_eq_true rfl)) (zdt_at zt_X9_deriveRefusal_0 47 rfl) ⟨Nat.zero_le _, Nat.zero_le _⟩) ?_
  clear hc_
  refine W.eq (g2 := F0 m 101 ls [.int r_31]) rfl ?_
  refine lv_if_ne (pc := 101) (tgt := 107) hx hb (zdt_at zt_X9_deriveRefusal_0 48 rfl) (by decide) (fun cn_ => ?t_32) (fun cn_ => ?f_33)
  case f_33 =>
    replace hf := zt_s cn_ hf
    clear cn_
    refine lv_bipush (pc := 104) (v := (-4 : Int32)) hx hb (zdt_at zt_X9_deriveRefusal_0 49 rfl) (by decide) ?_
    cases hf
    exact W.iret (pc := 106) hx hb hr (fun t ht hW => ⟨rfl, ht⟩) (fun _ h => nomatch h) (zdt_at zt_X9_deriveRefusal_0 50 rfl)
  replace hf := ze_s cn_ hf
  clear cn_
  refine lv_aload (pc := 107) hx hb (zdt_at zt_X9_deriveRefusal_0 51 rfl) (lv_at hl 0 rfl) ?_
  refine va_get (pc := 109) (D := D) (ci := 10) (v := .int (cP_kind p2.toNatClampNeg)) (C := RX8) (T := TX8) (N := 6) hx hb hts hcX8 hown hK hP (2 + p2.toNatClampNeg) (zplO_get (X := [(h0, .inr (11, [.ref h0_buffer, .ref h0_slots, .ref h0_counters, .ref h0_officerPin, .ref h0_userPin, .ref h0_words, .ref h0_sha, .ref h0_stream, .ref h0_aes, .ref h0_modes, .ref h0_gcm, .ref h0_generator, .ref h0_tests, .ref h0_message, .ref h0_secret, .int c_state, .int c_testsDone, .int c_faults, .int c_streamBegun])), (h0_slots, .inl (cy 4, 16, .inr (.inr (.inr (.inr (fun j => some (hP_o j)))))))]) (n := 2) rfl hj_23) rfl 1 (by decide) hw1 (fun _ h9 => h9) rfl (zdt_at zt_X9_deriveRefusal_0 52 rfl) ?_
  refine lv_iconst (pc := 112) (v := (2 : Int32)) hx hb (zdt_at zt_X9_deriveRefusal_0 53 rfl) (by decide) ?_
  refine lv_icmp_ne (pc := 113) (tgt := 125) hx hb (zdt_at zt_X9_deriveRefusal_0 54 rfl) (by decide) (fun cn_ => ?t_34) (fun cn_ => ?f_35)
  case t_34 =>
    replace hf := ze_s cn_ hf
    clear cn_
    refine lv_bipush (pc := 125) (v := (-5 : Int32)) hx hb (zdt_at zt_X9_deriveRefusal_0 59 rfl) (by decide) ?_
    cases hf
    exact W.iret (pc := 127) hx hb hr (fun t ht hW => ⟨rfl, ht⟩) (fun _ h => nomatch h) (zdt_at zt_X9_deriveRefusal_0 60 rfl)
  replace hf := zt_s cn_ hf
  clear cn_
  refine lv_iload_n (pc := 116) hx hb (zdt_at zt_X9_deriveRefusal_0 55 rfl) rfl (lv_at hl 4 rfl) ?_
  refine lv_iload (pc := 117) hx hb (zdt_at zt_X9_deriveRefusal_0 56 rfl) (lv_at hl 6 rfl) ?_
  replace hf := zb_s hf
  obtain ⟨r_36, hc_, hf⟩ := hf
  refine zcs (pc := 119) (rv := (some (.int r_36))) (va_runS (As := [.int p3, .int p5]) (rest := []) ⟨hx, hb, hml, hown, hts⟩ (c_X9_lengthFits l D cy tt s.heap.size p3 p5 r_36 hc_) (va_cwS 2 hts gX9_deriveRefusal_X9_lengthFits rfl rfl rfl (by decide +kernel) ⟨Nat.le_of_ble_eq_true rfl, Nat.le_of_ble_eq_true rfl⟩) ⟨zblind, zpre hE hS (hP.sub [] rfl) (hD.sub [] (by decide) rfl) (va_free hD hS hA [] rfl)⟩ rfl rfl hl.1 rfl (lv_room (Nat.le_of_ble_eq_true rfl)) (zdt_at zt_X9_deriveRefusal_0 57 rfl) ⟨Nat.zero_le _, Nat.zero_le _⟩) ?_
  clear hc_
  refine W.eq (g2 := F0 m 122 ls [.int r_36]) rfl ?_
  refine lv_if_ne (pc := 122) (tgt := 128) hx hb (zdt_at zt_X9_deriveRefusal_0 58 rfl) (by decide) (fun cn_ => ?t_37) (fun cn_ => ?f_38)
  case f_38 =>
    replace hf := zt_s cn_ hf
    clear cn_
    refine lv_bipush (pc := 125) (v := (-5 : Int32)) hx hb (zdt_at zt_X9_deriveRefusal_0 59 rfl) (by decide) ?_
    cases hf
    exact W.iret (pc := 127) hx hb hr (fun t ht hW => ⟨rfl, ht⟩) (fun _ h => nomatch h) (zdt_at zt_X9_deriveRefusal_0 60 rfl)
  replace hf := ze_s cn_ hf
  clear cn_
  refine lv_aload (pc := 128) hx hb (zdt_at zt_X9_deriveRefusal_0 61 rfl) (lv_at hl 0 rfl) ?_
  refine lv_bipush (pc := 130) (v := (8 : Int32)) hx hb (zdt_at zt_X9_deriveRefusal_0 62 rfl) (by decide) ?_
  replace hf := zb_s hf
  obtain ⟨r_39, hc_, hf⟩ := hf
  refine zcs (pc := 132) (rv := (some (.int r_39))) (va_runV (As := [.int (8 : Int32)]) (rest := []) ⟨hx, hb, hml, hown, hts⟩ (c_X8_allows l D cy tt s.heap.size hP_o hP_k p2.toNatClampNeg (8 : Int32) cP_usage cP_kind cP_length cP_role cP_uses cPK r_39 hj_23 hc_) (cwV 1 hts gX9_deriveRefusal_X8_allows rfl rfl rfl (by decide +kernel) ⟨Nat.le_of_ble_eq_true rfl, Nat.le_of_ble_eq_true rfl⟩) ⟨zblind, va_recv hK hP (ci := 10) (q0 := (2 + p2.toNatClampNeg)) rfl (zplO_get (X := [(h0, .inr (11, [.ref h0_buffer, .ref h0_slots, .ref h0_counters, .ref h0_officerPin, .ref h0_userPin, .ref h0_words, .ref h0_sha, .ref h0_stream, .ref h0_aes, .ref h0_modes, .ref h0_gcm, .ref h0_generator, .ref h0_tests, .ref h0_message, .ref h0_secret, .int c_state, .int c_testsDone, .int c_faults, .int c_streamBegun])), (h0_slots, .inl (cy 4, 16, .inr (.inr (.inr (.inr (fun j => some (hP_o j)))))))]) (n := 2) rfl hj_23), zpre hE hS (va_P.part (X := [(h0, .inr (11, [.ref h0_buffer, .ref h0_slots, .ref h0_counters, .ref h0_officerPin, .ref h0_userPin, .ref h0_words, .ref h0_sha, .ref h0_stream, .ref h0_aes, .ref h0_modes, .ref h0_gcm, .ref h0_generator, .ref h0_tests, .ref h0_message, .ref h0_secret, .int c_state, .int c_testsDone, .int c_faults, .int c_streamBegun])), (h0_slots, .inl (cy 4, 16, .inr (.inr (.inr (.inr (fun j => some (hP_o j)))))))]) hP [] rfl) (va_D.part (X := [(h0, .inr (11, [.ref h0_buffer, .ref h0_slots, .ref h0_counters, .ref h0_officerPin, .ref h0_userPin, .ref h0_words, .ref h0_sha, .ref h0_stream, .ref h0_aes, .ref h0_modes, .ref h0_gcm, .ref h0_generator, .ref h0_tests, .ref h0_message, .ref h0_secret, .int c_state, .int c_testsDone, .int c_faults, .int c_streamBegun])), (h0_slots, .inl (cy 4, 16, .inr (.inr (.inr (.inr (fun j => some (hP_o j)))))))]) hD [] (by decide) rfl) (va_freeP (X := [(h0, .inr (11, [.ref h0_buffer, .ref h0_slots, .ref h0_counters, .ref h0_officerPin, .ref h0_userPin, .ref h0_words, .ref h0_sha, .ref h0_stream, .ref h0_aes, .ref h0_modes, .ref h0_gcm, .ref h0_generator, .ref h0_tests, .ref h0_message, .ref h0_secret, .int c_state, .int c_testsDone, .int c_faults, .int c_streamBegun])), (h0_slots, .inl (cy 4, 16, .inr (.inr (.inr (.inr (fun j => some (hP_o j)))))))]) hD hS hA [] rfl)⟩ rfl rfl hl.1 rfl (lv_room (Nat.le_of_ble_eq_true rfl)) (zdt_at zt_X9_deriveRefusal_0 63 rfl) ⟨Nat.zero_le _, Nat.zero_le _⟩) ?_
  clear hc_
  refine W.eq (g2 := F0 m 135 ls [.int r_39]) rfl ?_
  refine lv_if_ne (pc := 135) (tgt := 141) hx hb (zdt_at zt_X9_deriveRefusal_1 0 rfl) (by decide) (fun cn_ => ?t_40) (fun cn_ => ?f_41)
  case f_41 =>
    replace hf := zt_s cn_ hf
    clear cn_
    refine lv_bipush (pc := 138) (v := (-6 : Int32)) hx hb (zdt_at zt_X9_deriveRefusal_1 1 rfl) (by decide) ?_
    cases hf
    exact W.iret (pc := 140) hx hb hr (fun t ht hW => ⟨rfl, ht⟩) (fun _ h => nomatch h) (zdt_at zt_X9_deriveRefusal_1 2 rfl)
  replace hf := ze_s cn_ hf
  clear cn_
  refine lv_aload (pc := 141) hx hb (zdt_at zt_X9_deriveRefusal_1 3 rfl) (lv_at hl 0 rfl) ?_
  refine va_get (pc := 143) (D := D) (ci := 10) (v := .int (cP_uses p2.toNatClampNeg)) (C := RX8) (T := TX8) (N := 6) hx hb hts hcX8 hown hK hP (2 + p2.toNatClampNeg) (zplO_get (X := [(h0, .inr (11, [.ref h0_buffer, .ref h0_slots, .ref h0_counters, .ref h0_officerPin, .ref h0_userPin, .ref h0_words, .ref h0_sha, .ref h0_stream, .ref h0_aes, .ref h0_modes, .ref h0_gcm, .ref h0_generator, .ref h0_tests, .ref h0_message, .ref h0_secret, .int c_state, .int c_testsDone, .int c_faults, .int c_streamBegun])), (h0_slots, .inl (cy 4, 16, .inr (.inr (.inr (.inr (fun j => some (hP_o j)))))))]) (n := 2) rfl hj_23) rfl 5 (by decide) hw2 (fun _ h9 => h9) rfl (zdt_at zt_X9_deriveRefusal_1 4 rfl) ?_
  refine lv_if_ne (pc := 146) (tgt := 154) hx hb (zdt_at zt_X9_deriveRefusal_1 5 rfl) (by decide) (fun cn_ => ?t_42) (fun cn_ => ?f_43)
  case t_42 =>
    replace hf := ze_s cn_ hf
    clear cn_
    refine lv_iconst (pc := 154) (v := (0 : Int32)) hx hb (zdt_at zt_X9_deriveRefusal_1 8 rfl) (by decide) ?_
    cases hf
    exact W.iret (pc := 155) hx hb hr (fun t ht hW => ⟨rfl, ht⟩) (fun _ h => nomatch h) (zdt_at zt_X9_deriveRefusal_1 9 rfl)
  replace hf := zt_s cn_ hf
  clear cn_
  refine lv_bipush (pc := 149) (v := (-7 : Int32)) hx hb (zdt_at zt_X9_deriveRefusal_1 6 rfl) (by decide) ?_
  refine lv_goto (pc := 151) (tgt := 155) hx hb (zdt_at zt_X9_deriveRefusal_1 7 rfl) (by decide) ?_
  cases hf
  exact W.iret (pc := 155) hx hb hr (fun t ht hW => ⟨rfl, ht⟩) (fun _ h => nomatch h) (zdt_at zt_X9_deriveRefusal_1 9 rfl)
set_option maxHeartbeats 4000000 in
set_option maxRecDepth 100000 in
theorem c_X7_takePadded_1PK (l : Launch) (D : va_G) (cy : Nat → ClassId) (tt : Nat → Nat) (sz : Nat) (h0 : Nat) (h0_sums : Nat) (h0_schedule : Nat) (h0_inner : Nat) (hP_o : Nat → Nat) (hP_k : Nat → Nat) (j1 : Nat) (p2 : Int32) (p3 : Int32) (c_filled : Int32) (c_total : Int32) (c_schedule : Nat → Int32) (c_sums : Nat → Int32) (cPK : Nat → Nat → Int32) (cP_kind : Nat → Int32) (cP_length : Nat → Int32) (cP_usage : Nat → Int32) (cP_role : Nat → Int32) (cP_uses : Nat → Int32) (c_filled' : Int32) (c_total' : Int32) (c_schedule' : Nat → Int32) (c_sums' : Nat → Int32) (hj_j1 : j1 < 16) (hf : f_X7_takePadded_1PK j1 p2 p3 c_filled c_total c_schedule c_sums cPK = some (c_filled', c_total', c_schedule', c_sums')) : Met l yX7_takePadded wsX7_takePadded ({ frames := 1, cells := 0, slots := 0, locals := 32 }) (zPc D cy tt sz [.ref h0, .ref (hP_k j1), .int p2, .int p3] ([(h0, .inr (9, [.ref h0_sums, .ref h0_schedule, .ref h0_inner, .int c_filled, .int c_total])), (h0_schedule, .inl (cy 1, 64, .inl c_schedule)), (h0_sums, .inl (cy 1, 8, .inl c_sums))] ++ zpl (cy 0) hP_o hP_k cP_kind cP_length cP_usage cP_role cP_uses cPK)) (zQ D none ([(h0, .inr (9, [.ref h0_sums, .ref h0_schedule, .ref h0_inner, .int c_filled', .int c_total'])), (h0_schedule, .inl (cy 1, 64, .inl c_schedule')), (h0_sums, .inl (cy 1, 8, .inl c_sums'))] ++ zpl (cy 0) hP_o hP_k cP_kind cP_length cP_usage cP_role cP_uses cPK) (va_A ([(h0, .inr (9, [.ref h0_sums, .ref h0_schedule, .ref h0_inner, .int c_filled, .int c_total])), (h0_schedule, .inl (cy 1, 64, .inl c_schedule)), (h0_sums, .inl (cy 1, 8, .inl c_sums))] ++ zpl (cy 0) hP_o hP_k cP_kind cP_length cP_usage cP_role cP_uses cPK) sz)) 0 0 (va_A ([(h0, .inr (9, [.ref h0_sums, .ref h0_schedule, .ref h0_inner, .int c_filled, .int c_total])), (h0_schedule, .inl (cy 1, 64, .inl c_schedule)), (h0_sums, .inl (cy 1, 8, .inl c_sums))] ++ zpl (cy 0) hP_o hP_k cP_kind cP_length cP_usage cP_role cP_uses cPK) sz) := by
  refine Met.ofW (cc := cX7_takePadded) (maxL := 6) (ret := none) (by decide) rfl ?_
  intro p e s m args below meth c s₁ B hml hv
  obtain ⟨rfl, rfl, hP, hD0, hE⟩ := hv
  have hx := B.exec
  have hb := B.bytes
  have hr := B.returns
  have hts := atoms_spec (ws := wsX7_takePadded) B.pre
  have hown : s.vm.findClass RX7 = some m.cls := findClass_of_methodNamed B.named
  have hlocks := B.notSynchronized
  clear B
  have hD := hD0.self (sz := s.heap.size)
  generalize hAe : va_A ([(h0, .inr (9, [.ref h0_sums, .ref h0_schedule, .ref h0_inner, .int c_filled, .int c_total])), (h0_schedule, .inl (cy 1, 64, .inl c_schedule)), (h0_sums, .inl (cy 1, 8, .inl c_sums))] ++ zpl (cy 0) hP_o hP_k cP_kind cP_length cP_usage cP_role cP_uses cPK) s.heap.size = A at hD hE ⊢
  have hA : ∀ q : Nat, s.heap.size ≤ q → A q := fun q h => by rw [← hAe]; exact Or.inr h
  clear hAe hD0
  have hS : va_S A s.heap s.heap [] := va_S.rf
  have hK := hE.1
  have hw0 := hts (.fieldLink RX7 26 "SealedModule$Sha256" "total" "I") (by decide +kernel)
  have hw1 := hts (.fieldLink RX7 15 "SealedModule$Sha256" "schedule" "[I") (by decide +kernel)
  have hcX7 : ∀ w ∈ u_ws RX7 TX7 5, w ∈ wsX7_takePadded := (fun _ h => List.mem_cons_of_mem _ (List.mem_append_right _ h))
  have hl := lv_entry ([.ref h0, .ref (hP_k j1), .int p2, .int p3]) (n := 6) (Nat.le_of_ble_eq_true rfl)
  rw [lg_entry_eq]
  generalize (lg_sl ([.ref h0, .ref (hP_k j1), .int p2, .int p3]) ++ List.replicate (6 - (lg_sl ([.ref h0, .ref (hP_k j1), .int p2, .int p3])).length) Slot.unset).toArray = ls at hl ⊢
  replace hl : lv_has ls 6 [(0, .ref h0), (1, .ref (hP_k j1)), (2, .int p2), (3, .int p3)] := hl
  unfold f_X7_takePadded_1PK at hf
  refine zgo (fun GW hTo hFr => ?_)
  refine hFr _ _ _ ?_
  obtain ⟨H, hHe⟩ : ∃ H, H = s.heap := ⟨_, rfl⟩
  obtain ⟨locs, hLe⟩ : ∃ L : List Loc, L = [] := ⟨_, rfl⟩
  rw [← hHe] at hP
  replace hS : va_S A s.heap H locs := by rw [hHe, hLe]; exact hS
  refine zat hHe.symm hLe.symm ?_
  clear hHe hLe
  refine lv_iconst (pc := 0) (v := (0 : Int32)) hx hb (zdt_at zt_X7_takePadded_0 0 rfl) (by decide) ?_
  refine lv_istore (pc := 1) (lv' := [(4, .int (0 : Int32)), (0, .ref h0), (1, .ref (hP_k j1)), (2, .int p2), (3, .int p3)]) hx hb (zdt_at zt_X7_takePadded_0 1 rfl) hl (by decide) rfl ?_
  clear hl
  intro ls hl
  replace hf := zj_s hf
  obtain ⟨K_4, eK_4, hf⟩ := hf
  have kK_4 : ∀ (c_schedule_3 : Nat → Int32) (H : Heap) (locs : List Loc) (ls : Array Slot), va_P D vwCl ([(h0, .inr (9, [.ref h0_sums, .ref h0_schedule, .ref h0_inner, .int c_filled, .int c_total])), (h0_schedule, .inl (cy 1, 64, .inl c_schedule_3)), (h0_sums, .inl (cy 1, 8, .inl c_sums))] ++ zpl (cy 0) hP_o hP_k cP_kind cP_length cP_usage cP_role cP_uses cPK) H → va_D A ([(h0, .inr (9, [.ref h0_sums, .ref h0_schedule, .ref h0_inner, .int c_filled, .int c_total])), (h0_schedule, .inl (cy 1, 64, .inl c_schedule_3)), (h0_sums, .inl (cy 1, 8, .inl c_sums))] ++ zpl (cy 0) hP_o hP_k cP_kind cP_length cP_usage cP_role cP_uses cPK) → va_S A s.heap H locs → lv_has ls 6 [(0, .ref h0)] → K_4 c_schedule_3 = some (c_filled', c_total', c_schedule', c_sums') → GW H locs (F0 m 62 ls []) := by
    clear hf hl hP hD hS
    intro c_schedule_3 H locs ls hP hD hS hl hf
    rw [eK_4] at hf
    clear eK_4
    refine hFr _ _ _ ?_
    refine lv_aload_n (pc := 62) hx hb (zdt_at zt_X7_takePadded_0 36 rfl) rfl (lv_at hl 0 rfl) ?_
    replace hf := zb_s hf
    obtain ⟨⟨c_filled_5, c_schedule_6, c_sums_7⟩, hc_, hf⟩ := hf
    refine zcnQ (pc := 63) (X := [(h0, .inr (9, [.ref h0_sums, .ref h0_schedule, .ref h0_inner, .int c_filled, .int c_total])), (h0_schedule, .inl (cy 1, 64, .inl c_schedule_3)), (h0_sums, .inl (cy 1, 8, .inl c_sums))]) (rv := none) (va_runV (As := []) (rest := []) ⟨hx, hb, hml, hown, hts⟩ (c_X7_compress l D cy tt H.size h0 h0_sums h0_schedule h0_inner c_filled c_schedule_3 c_sums c_total c_filled_5 c_schedule_6 c_sums_7 hc_) (cwV 0 hts gX7_takePadded_X7_compress rfl rfl rfl (by decide +kernel) ⟨Nat.le_of_ble_eq_true rfl, Nat.le_of_ble_eq_true rfl⟩) ⟨zblind, va_recv hK hP (ci := 9) (q0 := 0) rfl rfl, zpre hE hS (hP.sub [0, 1, 2] rfl) (hD.sub [0, 1, 2] (by decide) rfl) (va_free hD hS hA [0, 1, 2] rfl)⟩ rfl rfl hl.1 rfl (lv_room (Nat.le_of_ble_eq_true rfl)) (zdt_at zt_X7_takePadded_0 37 rfl) ⟨Nat.zero_le _, Nat.zero_le _⟩) hS hP hD (va_free hD hS hA [0, 1, 2] rfl) [0, 1, 2] rfl (by decide) rfl rfl ?_
    clear hP hD hS hc_
    intro H locs hP hD hS
    replace hP : va_P D vwCl ([(h0, .inr (9, [.ref h0_sums, .ref h0_schedule, .ref h0_inner, .int c_filled_5, .int c_total])), (h0_schedule, .inl (cy 1, 64, .inl c_schedule_6)), (h0_sums, .inl (cy 1, 8, .inl c_sums_7))] ++ zpl (cy 0) hP_o hP_k cP_kind cP_length cP_usage cP_role cP_uses cPK) H := hP
    replace hD : va_D A ([(h0, .inr (9, [.ref h0_sums, .ref h0_schedule, .ref h0_inner, .int c_filled_5, .int c_total])), (h0_schedule, .inl (cy 1, 64, .inl c_schedule_6)), (h0_sums, .inl (cy 1, 8, .inl c_sums_7))] ++ zpl (cy 0) hP_o hP_k cP_kind cP_length cP_usage cP_role cP_uses cPK) := hD
    refine W.eq (g2 := F0 m 66 ls []) rfl ?_
    refine lv_aload_n (pc := 66) hx hb (zdt_at zt_X7_takePadded_0 38 rfl) rfl (lv_at hl 0 rfl) ?_
    refine lv_bipush (pc := 67) (v := (64 : Int32)) hx hb (zdt_at zt_X7_takePadded_0 39 rfl) (by decide) ?_
    refine va_put (pc := 69) (D := D) (ci := 9) (v := .int (64 : Int32)) (ty := .int) (C := RX7) (T := TX7) (N := 5) hx hb hts hcX7 tyX7 tyX7_ok nmX7 hown hK hP hD hS 0 rfl rfl 4 (by decide) hw0 (fun _ h9 => h9) rfl (by decide +kernel) rfl rfl (Nat.le_of_ble_eq_true rfl) (zdt_at zt_X7_takePadded_0 40 rfl) ?_
    clear hP hD hS
    intro H locs hP hD hS
    replace hP : va_P D vwCl ([(h0, .inr (9, [.ref h0_sums, .ref h0_schedule, .ref h0_inner, .int c_filled_5, .int (64 : Int32)])), (h0_schedule, .inl (cy 1, 64, .inl c_schedule_6)), (h0_sums, .inl (cy 1, 8, .inl c_sums_7))] ++ zpl (cy 0) hP_o hP_k cP_kind cP_length cP_usage cP_role cP_uses cPK) H := hP
    replace hD : va_D A ([(h0, .inr (9, [.ref h0_sums, .ref h0_schedule, .ref h0_inner, .int c_filled_5, .int (64 : Int32)])), (h0_schedule, .inl (cy 1, 64, .inl c_schedule_6)), (h0_sums, .inl (cy 1, 8, .inl c_sums_7))] ++ zpl (cy 0) hP_o hP_k cP_kind cP_length cP_usage cP_role cP_uses cPK) := hD
    cases hf
    exact W.vret (pc := 72) hx hb hr (fun t ht hW => ⟨rfl, ⟨by rw [ht]; exact hP, hD⟩, hS.F ht⟩) hS.2.2 (zdt_at zt_X7_takePadded_0 41 rfl)
  clear eK_4
  refine hTo _ _ _ (zl_go (fun z => match z with | (i_1, c_schedule_2) => ∀ (H : Heap) (locs : List Loc) (ls : Array Slot), va_P D vwCl ([(h0, .inr (9, [.ref h0_sums, .ref h0_schedule, .ref h0_inner, .int c_filled, .int c_total])), (h0_schedule, .inl (cy 1, 64, .inl c_schedule_2)), (h0_sums, .inl (cy 1, 8, .inl c_sums))] ++ zpl (cy 0) hP_o hP_k cP_kind cP_length cP_usage cP_role cP_uses cPK) H → va_D A ([(h0, .inr (9, [.ref h0_sums, .ref h0_schedule, .ref h0_inner, .int c_filled, .int c_total])), (h0_schedule, .inl (cy 1, 64, .inl c_schedule_2)), (h0_sums, .inl (cy 1, 8, .inl c_sums))] ++ zpl (cy 0) hP_o hP_k cP_kind cP_length cP_usage cP_role cP_uses cPK) → va_S A s.heap H locs → lv_has ls 6 [(0, .ref h0), (1, .ref (hP_k j1)), (2, .int p2), (3, .int p3), (4, .int i_1)] → GW H locs (F0 m 3 ls [])) hf ?_ H locs ls hP hD hS (lv_sub hl [1, 2, 3, 4, 0] rfl))
  clear hf hl hP hD hS
  intro self_8 ihself_8 z hf
  obtain ⟨i_1, c_schedule_2⟩ := z
  intro H locs ls hP hD hS hl
  refine hFr _ _ _ ?_
  unfold b_X7_takePadded_1PK_3 at hf
  refine lv_iload (pc := 3) hx hb (zdt_at zt_X7_takePadded_0 2 rfl) (lv_at hl 4 rfl) ?_
  refine lv_bipush (pc := 5) (v := (64 : Int32)) hx hb (zdt_at zt_X7_takePadded_0 3 rfl) (by decide) ?_
  refine lv_icmp_ge (pc := 7) (tgt := 62) hx hb (zdt_at zt_X7_takePadded_0 4 rfl) (by decide) (fun cn_ => ?t_9) (fun cn_ => ?f_10)
  case t_9 =>
    replace hf := zt_s cn_ hf
    clear cn_
    exact hTo _ _ _ (kK_4 _ H locs ls hP hD hS (lv_sub hl [0] rfl) hf)
  replace hf := ze_s cn_ hf
  clear cn_
  refine lv_iload (pc := 10) hx hb (zdt_at zt_X7_takePadded_0 5 rfl) (lv_at hl 4 rfl) ?_
  refine lv_iload_n (pc := 12) hx hb (zdt_at zt_X7_takePadded_0 6 rfl) rfl (lv_at hl 2 rfl) ?_
  replace hf := zj_s hf
  obtain ⟨K_12, eK_12, hf⟩ := hf
  have kK_12 : ∀ (v_11 : Int32) (H : Heap) (locs : List Loc) (ls : Array Slot), va_P D vwCl ([(h0, .inr (9, [.ref h0_sums, .ref h0_schedule, .ref h0_inner, .int c_filled, .int c_total])), (h0_schedule, .inl (cy 1, 64, .inl c_schedule_2)), (h0_sums, .inl (cy 1, 8, .inl c_sums))] ++ zpl (cy 0) hP_o hP_k cP_kind cP_length cP_usage cP_role cP_uses cPK) H → va_D A ([(h0, .inr (9, [.ref h0_sums, .ref h0_schedule, .ref h0_inner, .int c_filled, .int c_total])), (h0_schedule, .inl (cy 1, 64, .inl c_schedule_2)), (h0_sums, .inl (cy 1, 8, .inl c_sums))] ++ zpl (cy 0) hP_o hP_k cP_kind cP_length cP_usage cP_role cP_uses cPK) → va_S A s.heap H locs → lv_has ls 6 [(0, .ref h0), (1, .ref (hP_k j1)), (2, .int p2), (3, .int p3), (4, .int i_1)] → K_12 v_11 = some (c_filled', c_total', c_schedule', c_sums') → GW H locs (F0 m 28 ls [.int v_11]) := by
    clear hf hl hP hD hS
    intro v_11 H locs ls hP hD hS hl hf
    rw [eK_12] at hf
    clear eK_12
    refine hFr _ _ _ ?_
    refine lv_istore (pc := 28) (lv' := [(5, .int v_11), (0, .ref h0), (1, .ref (hP_k j1)), (2, .int p2), (3, .int p3), (4, .int i_1)]) hx hb (zdt_at zt_X7_takePadded_0 15 rfl) hl (by decide) rfl ?_
    clear hl
    intro ls hl
    refine lv_aload_n (pc := 30) hx hb (zdt_at zt_X7_takePadded_0 16 rfl) rfl (lv_at hl 1 rfl) ?_
    refine va_get (pc := 31) (D := D) (ci := 9) (v := .ref h0_schedule) (C := RX7) (T := TX7) (N := 5) hx hb hts hcX7 hown hK hP 0 rfl rfl 1 (by decide) hw1 (fun _ h9 => h9) rfl (zdt_at zt_X7_takePadded_0 17 rfl) ?_
    refine lv_iload (pc := 34) hx hb (zdt_at zt_X7_takePadded_0 18 rfl) (lv_at hl 5 rfl) ?_
    refine lv_iconst (pc := 36) (v := (2 : Int32)) hx hb (zdt_at zt_X7_takePadded_0 19 rfl) (by decide) ?_
    refine lv_ishr (pc := 37) hx hb (zdt_at zt_X7_takePadded_0 20 rfl) ?_
    refine lv_aload_n (pc := 38) hx hb (zdt_at zt_X7_takePadded_0 21 rfl) rfl (lv_at hl 1 rfl) ?_
    refine va_get (pc := 39) (D := D) (ci := 9) (v := .ref h0_schedule) (C := RX7) (T := TX7) (N := 5) hx hb hts hcX7 hown hK hP 0 rfl rfl 1 (by decide) hw1 (fun _ h9 => h9) rfl (zdt_at zt_X7_takePadded_0 22 rfl) ?_
    refine lv_iload (pc := 42) hx hb (zdt_at zt_X7_takePadded_0 23 rfl) (lv_at hl 5 rfl) ?_
    refine lv_iconst (pc := 44) (v := (2 : Int32)) hx hb (zdt_at zt_X7_takePadded_0 24 rfl) (by decide) ?_
    refine lv_ishr (pc := 45) hx hb (zdt_at zt_X7_takePadded_0 25 rfl) ?_
    replace hf := zk_s hf
    refine va_iald (pc := 46) hx hb hK hP 1 1 rfl rfl hf.1 (zdt_at zt_X7_takePadded_0 26 rfl) ?_
    replace hf := hf.2
    refine lv_bipush (pc := 47) (v := (8 : Int32)) hx hb (zdt_at zt_X7_takePadded_0 27 rfl) (by decide) ?_
    refine lv_ishl (pc := 49) hx hb (zdt_at zt_X7_takePadded_0 28 rfl) ?_
    refine lv_iload (pc := 50) hx hb (zdt_at zt_X7_takePadded_0 29 rfl) (lv_at hl 0 rfl) ?_
    refine lv_iload_n (pc := 52) hx hb (zdt_at zt_X7_takePadded_0 30 rfl) rfl (lv_at hl 4 rfl) ?_
    refine lv_ixor (pc := 53) hx hb (zdt_at zt_X7_takePadded_0 31 rfl) ?_
    refine lv_ior (pc := 54) hx hb (zdt_at zt_X7_takePadded_0 32 rfl) ?_
    replace hf := zk_s hf
    refine va_iast (pc := 55) hx hb hK hP hD hS 1 1 rfl rfl hf.1 (zdt_at zt_X7_takePadded_0 33 rfl) ?_
    replace hf := hf.2
    clear hP hD hS
    intro H locs hP hD hS
    obtain ⟨c_schedule_13, e_⟩ : ∃ q : Nat → Int32, q = (upd c_schedule_2 (i_1 >>> ((2 : Int32) &&& 31)).toNatClampNeg (((c_schedule_2 (i_1 >>> ((2 : Int32) &&& 31)).toNatClampNeg) <<< ((8 : Int32) &&& 31)) ||| (v_11 ^^^ p3))) := ⟨_, rfl⟩
    replace hf := zn_s hf e_
    replace hP : va_P D vwCl ([(h0, .inr (9, [.ref h0_sums, .ref h0_schedule, .ref h0_inner, .int c_filled, .int c_total])), (h0_schedule, .inl (cy 1, 64, .inl c_schedule_13)), (h0_sums, .inl (cy 1, 8, .inl c_sums))] ++ zpl (cy 0) hP_o hP_k cP_kind cP_length cP_usage cP_role cP_uses cPK) H := by rw [e_]; exact hP
    replace hD : va_D A ([(h0, .inr (9, [.ref h0_sums, .ref h0_schedule, .ref h0_inner, .int c_filled, .int c_total])), (h0_schedule, .inl (cy 1, 64, .inl c_schedule_13)), (h0_sums, .inl (cy 1, 8, .inl c_sums))] ++ zpl (cy 0) hP_o hP_k cP_kind cP_length cP_usage cP_role cP_uses cPK) := by rw [e_]; exact hD
    clear e_
    refine lv_iinc (pc := 56) (v := (i_1 + (1 : Int32))) (lv' := [(4, .int (i_1 + (1 : Int32))), (5, .int v_11), (0, .ref h0), (1, .ref (hP_k j1)), (2, .int p2), (3, .int p3)]) hx hb (zdt_at zt_X7_takePadded_0 34 rfl) hl (k := 5) rfl rfl (by decide) rfl ?_
    clear hl
    intro ls hl
    refine lv_goto (pc := 59) (tgt := 3) hx hb (zdt_at zt_X7_takePadded_0 35 rfl) (by decide) ?_
    exact hTo _ _ _ (ihself_8 _ hf H locs ls hP hD hS (lv_sub hl [2, 3, 4, 5, 0] rfl))
  clear eK_12
  refine lv_icmp_ge (pc := 13) (tgt := 27) hx hb (zdt_at zt_X7_takePadded_0 7 rfl) (by decide) (fun cn_ => ?t_14) (fun cn_ => ?f_15)
  case t_14 =>
    replace hf := zt_s cn_ hf
    clear cn_
    refine lv_iconst (pc := 27) (v := (0 : Int32)) hx hb (zdt_at zt_X7_takePadded_0 14 rfl) (by decide) ?_
    exact hTo _ _ _ (kK_12 _ H locs ls hP hD hS (lv_sub hl [0, 1, 2, 3, 4] rfl) hf)
  replace hf := ze_s cn_ hf
  clear cn_
  refine lv_aload_n (pc := 16) hx hb (zdt_at zt_X7_takePadded_0 8 rfl) rfl (lv_at hl 1 rfl) ?_
  refine lv_iload (pc := 17) hx hb (zdt_at zt_X7_takePadded_0 9 rfl) (lv_at hl 4 rfl) ?_
  replace hf := zk_s hf
  refine va_bald (pc := 19) hx hb hK hP (19 + j1) 0 (zplK_get (X := [(h0, .inr (9, [.ref h0_sums, .ref h0_schedule, .ref h0_inner, .int c_filled, .int c_total])), (h0_schedule, .inl (cy 1, 64, .inl c_schedule_2)), (h0_sums, .inl (cy 1, 8, .inl c_sums))]) (n := 3) rfl hj_j1) rfl hf.1 (zdt_at zt_X7_takePadded_0 10 rfl) ?_
  replace hf := hf.2
  refine lv_sipush (pc := 20) (v := (255 : Int32)) hx hb (zdt_at zt_X7_takePadded_0 11 rfl) (by decide) ?_
  refine lv_iand (pc := 23) hx hb (zdt_at zt_X7_takePadded_0 12 rfl) ?_
  refine lv_goto (pc := 24) (tgt := 28) hx hb (zdt_at zt_X7_takePadded_0 13 rfl) (by decide) ?_
  exact hTo _ _ _ (kK_12 _ H locs ls hP hD hS (lv_sub hl [0, 1, 2, 3, 4] rfl) hf)
set_option maxHeartbeats 4000000 in
set_option maxRecDepth 100000 in
theorem c_X7_mac_1PK (l : Launch) (D : va_G) (cy : Nat → ClassId) (tt : Nat → Nat) (sz : Nat) (h0 : Nat) (h0_sums : Nat) (h0_schedule : Nat) (h0_inner : Nat) (ha3 : Nat) (ha6 : Nat) (hP_o : Nat → Nat) (hP_k : Nat → Nat) (n_a3 : Nat) (n_a6 : Nat) (j1 : Nat) (p2 : Int32) (p4 : Int32) (p5 : Int32) (p7 : Int32) (c_filled : Int32) (c_total : Int32) (c_inner : Nat → Int32) (c_schedule : Nat → Int32) (c_sums : Nat → Int32) (ca3 : Nat → Int32) (ca6 : Nat → Int32) (cPK : Nat → Nat → Int32) (cP_kind : Nat → Int32) (cP_length : Nat → Int32) (cP_usage : Nat → Int32) (cP_role : Nat → Int32) (cP_uses : Nat → Int32) (c_filled' : Int32) (c_total' : Int32) (c_inner' : Nat → Int32) (c_schedule' : Nat → Int32) (c_sums' : Nat → Int32) (ca6' : Nat → Int32) (hj_j1 : j1 < 16) (hf : f_X7_mac_1PK n_a3 n_a6 j1 p2 p4 p5 p7 c_filled c_total c_inner c_schedule c_sums ca3 ca6 cPK = some (c_filled', c_total', c_inner', c_schedule', c_sums', ca6')) : Met l yX7_mac wsX7_mac ({ frames := 3, cells := 0, slots := 0, locals := 84 }) (zPc D cy tt sz [.ref h0, .ref (hP_k j1), .int p2, .ref ha3, .int p4, .int p5, .ref ha6, .int p7] ([(h0, .inr (9, [.ref h0_sums, .ref h0_schedule, .ref h0_inner, .int c_filled, .int c_total])), (h0_inner, .inl (cy 0, 32, .inl c_inner)), (h0_schedule, .inl (cy 1, 64, .inl c_schedule)), (h0_sums, .inl (cy 1, 8, .inl c_sums)), (ha3, .inl (cy 0, n_a3, .inl ca3)), (ha6, .inl (cy 0, n_a6, .inl ca6))] ++ zpl (cy 0) hP_o hP_k cP_kind cP_length cP_usage cP_role cP_uses cPK)) (zQ D none ([(h0, .inr (9, [.ref h0_sums, .ref h0_schedule, .ref h0_inner, .int c_filled', .int c_total'])), (h0_inner, .inl (cy 0, 32, .inl c_inner')), (h0_schedule, .inl (cy 1, 64, .inl c_schedule')), (h0_sums, .inl (cy 1, 8, .inl c_sums')), (ha3, .inl (cy 0, n_a3, .inl ca3)), (ha6, .inl (cy 0, n_a6, .inl ca6'))] ++ zpl (cy 0) hP_o hP_k cP_kind cP_length cP_usage cP_role cP_uses cPK) (va_A ([(h0, .inr (9, [.ref h0_sums, .ref h0_schedule, .ref h0_inner, .int c_filled, .int c_total])), (h0_inner, .inl (cy 0, 32, .inl c_inner)), (h0_schedule, .inl (cy 1, 64, .inl c_schedule)), (h0_sums, .inl (cy 1, 8, .inl c_sums)), (ha3, .inl (cy 0, n_a3, .inl ca3)), (ha6, .inl (cy 0, n_a6, .inl ca6))] ++ zpl (cy 0) hP_o hP_k cP_kind cP_length cP_usage cP_role cP_uses cPK) sz)) 0 0 (va_A ([(h0, .inr (9, [.ref h0_sums, .ref h0_schedule, .ref h0_inner, .int c_filled, .int c_total])), (h0_inner, .inl (cy 0, 32, .inl c_inner)), (h0_schedule, .inl (cy 1, 64, .inl c_schedule)), (h0_sums, .inl (cy 1, 8, .inl c_sums)), (ha3, .inl (cy 0, n_a3, .inl ca3)), (ha6, .inl (cy 0, n_a6, .inl ca6))] ++ zpl (cy 0) hP_o hP_k cP_kind cP_length cP_usage cP_role cP_uses cPK) sz) := by
  refine Met.ofW (cc := cX7_mac) (maxL := 8) (ret := none) (by decide) rfl ?_
  intro p e s m args below meth c s₁ B hml hv
  obtain ⟨rfl, rfl, hP, hD0, hE⟩ := hv
  have hx := B.exec
  have hb := B.bytes
  have hr := B.returns
  have hts := atoms_spec (ws := wsX7_mac) B.pre
  have hown : s.vm.findClass RX7 = some m.cls := findClass_of_methodNamed B.named
  have hlocks := B.notSynchronized
  clear B
  have hD := hD0.self (sz := s.heap.size)
  generalize hAe : va_A ([(h0, .inr (9, [.ref h0_sums, .ref h0_schedule, .ref h0_inner, .int c_filled, .int c_total])), (h0_inner, .inl (cy 0, 32, .inl c_inner)), (h0_schedule, .inl (cy 1, 64, .inl c_schedule)), (h0_sums, .inl (cy 1, 8, .inl c_sums)), (ha3, .inl (cy 0, n_a3, .inl ca3)), (ha6, .inl (cy 0, n_a6, .inl ca6))] ++ zpl (cy 0) hP_o hP_k cP_kind cP_length cP_usage cP_role cP_uses cPK) s.heap.size = A at hD hE ⊢
  have hA : ∀ q : Nat, s.heap.size ≤ q → A q := fun q h => by rw [← hAe]; exact Or.inr h
  clear hAe hD0
  have hS : va_S A s.heap s.heap [] := va_S.rf
  have hK := hE.1
  have hw0 := hts (.fieldLink RX7 18 "SealedModule$Sha256" "inner" "[B") (by decide +kernel)
  have hcX7 : ∀ w ∈ u_ws RX7 TX7 5, w ∈ wsX7_mac := (fun _ h => List.mem_cons_of_mem _ (List.mem_append_left _ (List.mem_append_right _ h)))
  have hl := lv_entry ([.ref h0, .ref (hP_k j1), .int p2, .ref ha3, .int p4, .int p5, .ref ha6, .int p7]) (n := 8) (Nat.le_of_ble_eq_true rfl)
  rw [lg_entry_eq]
  generalize (lg_sl ([.ref h0, .ref (hP_k j1), .int p2, .ref ha3, .int p4, .int p5, .ref ha6, .int p7]) ++ List.replicate (8 - (lg_sl ([.ref h0, .ref (hP_k j1), .int p2, .ref ha3, .int p4, .int p5, .ref ha6, .int p7])).length) Slot.unset).toArray = ls at hl ⊢
  replace hl : lv_has ls 8 [(0, .ref h0), (1, .ref (hP_k j1)), (2, .int p2), (3, .ref ha3), (4, .int p4), (5, .int p5), (6, .ref ha6), (7, .int p7)] := hl
  unfold f_X7_mac_1PK at hf
  refine zgo (fun GW hTo hFr => ?_)
  refine hFr _ _ _ ?_
  obtain ⟨H, hHe⟩ : ∃ H, H = s.heap := ⟨_, rfl⟩
  obtain ⟨locs, hLe⟩ : ∃ L : List Loc, L = [] := ⟨_, rfl⟩
  rw [← hHe] at hP
  replace hS : va_S A s.heap H locs := by rw [hHe, hLe]; exact hS
  refine zat hHe.symm hLe.symm ?_
  clear hHe hLe
  refine lv_aload_n (pc := 0) hx hb (zdt_at zt_X7_mac_0 0 rfl) rfl (lv_at hl 0 rfl) ?_
  replace hf := zb_s hf
  obtain ⟨⟨c_filled_1, c_total_2, c_sums_3⟩, hc_, hf⟩ := hf
  refine zcnQ (pc := 1) (X := [(h0, .inr (9, [.ref h0_sums, .ref h0_schedule, .ref h0_inner, .int c_filled, .int c_total])), (h0_inner, .inl (cy 0, 32, .inl c_inner)), (h0_schedule, .inl (cy 1, 64, .inl c_schedule)), (h0_sums, .inl (cy 1, 8, .inl c_sums)), (ha3, .inl (cy 0, n_a3, .inl ca3)), (ha6, .inl (cy 0, n_a6, .inl ca6))]) (rv := none) (va_runV (As := []) (rest := []) ⟨hx, hb, hml, hown, hts⟩ (c_X7_begin l D cy tt H.size h0 h0_sums h0_schedule h0_inner c_filled c_total c_sums c_filled_1 c_total_2 c_sums_3 hc_) (cwV 0 hts gX7_mac_X7_begin rfl rfl rfl (by decide +kernel) ⟨Nat.le_of_ble_eq_true rfl, Nat.le_of_ble_eq_true rfl⟩) ⟨zblind, va_recv hK hP (ci := 9) (q0 := 0) rfl rfl, zpre hE hS (hP.sub [0, 3] rfl) (hD.sub [0, 3] (by decide) rfl) (va_free hD hS hA [0, 3] rfl)⟩ rfl rfl hl.1 rfl (lv_room (Nat.le_of_ble_eq_true rfl)) (zdt_at zt_X7_mac_0 1 rfl) ⟨Nat.zero_le _, Nat.zero_le _⟩) hS hP hD (va_free hD hS hA [0, 3] rfl) [0, 3] rfl (by decide) rfl rfl ?_
  clear hP hD hS hc_
  intro H locs hP hD hS
  replace hP : va_P D vwCl ([(h0, .inr (9, [.ref h0_sums, .ref h0_schedule, .ref h0_inner, .int c_filled_1, .int c_total_2])), (h0_inner, .inl (cy 0, 32, .inl c_inner)), (h0_schedule, .inl (cy 1, 64, .inl c_schedule)), (h0_sums, .inl (cy 1, 8, .inl c_sums_3)), (ha3, .inl (cy 0, n_a3, .inl ca3)), (ha6, .inl (cy 0, n_a6, .inl ca6))] ++ zpl (cy 0) hP_o hP_k cP_kind cP_length cP_usage cP_role cP_uses cPK) H := hP
  replace hD : va_D A ([(h0, .inr (9, [.ref h0_sums, .ref h0_schedule, .ref h0_inner, .int c_filled_1, .int c_total_2])), (h0_inner, .inl (cy 0, 32, .inl c_inner)), (h0_schedule, .inl (cy 1, 64, .inl c_schedule)), (h0_sums, .inl (cy 1, 8, .inl c_sums_3)), (ha3, .inl (cy 0, n_a3, .inl ca3)), (ha6, .inl (cy 0, n_a6, .inl ca6))] ++ zpl (cy 0) hP_o hP_k cP_kind cP_length cP_usage cP_role cP_uses cPK) := hD
  refine W.eq (g2 := F0 m 4 ls []) rfl ?_
  refine lv_aload_n (pc := 4) hx hb (zdt_at zt_X7_mac_0 2 rfl) rfl (lv_at hl 0 rfl) ?_
  refine lv_aload_n (pc := 5) hx hb (zdt_at zt_X7_mac_0 3 rfl) rfl (lv_at hl 1 rfl) ?_
  refine lv_iload_n (pc := 6) hx hb (zdt_at zt_X7_mac_0 4 rfl) rfl (lv_at hl 2 rfl) ?_
  refine lv_bipush (pc := 7) (v := (54 : Int32)) hx hb (zdt_at zt_X7_mac_0 5 rfl) (by decide) ?_
  replace hf := zb_s hf
  obtain ⟨⟨c_filled_4, c_total_5, c_schedule_6, c_sums_7⟩, hc_, hf⟩ := hf
  refine zcnP (pc := 9) (X := [(h0, .inr (9, [.ref h0_sums, .ref h0_schedule, .ref h0_inner, .int c_filled_1, .int c_total_2])), (h0_inner, .inl (cy 0, 32, .inl c_inner)), (h0_schedule, .inl (cy 1, 64, .inl c_schedule)), (h0_sums, .inl (cy 1, 8, .inl c_sums_3)), (ha3, .inl (cy 0, n_a3, .inl ca3)), (ha6, .inl (cy 0, n_a6, .inl ca6))]) (rv := none) (va_runV (As := [.ref (hP_k j1), .int p2, .int (54 : Int32)]) (rest := []) ⟨hx, hb, hml, hown, hts⟩ (c_X7_takePadded_1PK l D cy tt H.size h0 h0_sums h0_schedule h0_inner hP_o hP_k j1 p2 (54 : Int32) c_filled_1 c_total_2 c_schedule c_sums_3 cPK cP_kind cP_length cP_usage cP_role cP_uses c_filled_4 c_total_5 c_schedule_6 c_sums_7 hj_j1 hc_) (cwV 3 hts gX7_mac_X7_takePadded rfl rfl rfl (by decide +kernel) ⟨Nat.le_of_ble_eq_true rfl, Nat.le_of_ble_eq_true rfl⟩) ⟨zblind, va_recv hK hP (ci := 9) (q0 := 0) rfl rfl, zpre hE hS (va_P.part (X := [(h0, .inr (9, [.ref h0_sums, .ref h0_schedule, .ref h0_inner, .int c_filled_1, .int c_total_2])), (h0_inner, .inl (cy 0, 32, .inl c_inner)), (h0_schedule, .inl (cy 1, 64, .inl c_schedule)), (h0_sums, .inl (cy 1, 8, .inl c_sums_3)), (ha3, .inl (cy 0, n_a3, .inl ca3)), (ha6, .inl (cy 0, n_a6, .inl ca6))]) hP [0, 2, 3] rfl) (va_D.part (X := [(h0, .inr (9, [.ref h0_sums, .ref h0_schedule, .ref h0_inner, .int c_filled_1, .int c_total_2])), (h0_inner, .inl (cy 0, 32, .inl c_inner)), (h0_schedule, .inl (cy 1, 64, .inl c_schedule)), (h0_sums, .inl (cy 1, 8, .inl c_sums_3)), (ha3, .inl (cy 0, n_a3, .inl ca3)), (ha6, .inl (cy 0, n_a6, .inl ca6))]) hD [0, 2, 3] (by decide) rfl) (va_freeP (X := [(h0, .inr (9, [.ref h0_sums, .ref h0_schedule, .ref h0_inner, .int c_filled_1, .int c_total_2])), (h0_inner, .inl (cy 0, 32, .inl c_inner)), (h0_schedule, .inl (cy 1, 64, .inl c_schedule)), (h0_sums, .inl (cy 1, 8, .inl c_sums_3)), (ha3, .inl (cy 0, n_a3, .inl ca3)), (ha6, .inl (cy 0, n_a6, .inl ca6))]) hD hS hA [0, 2, 3] rfl)⟩ rfl rfl hl.1 rfl (lv_room (Nat.le_of_ble_eq_true rfl)) (zdt_at zt_X7_mac_0 6 rfl) ⟨Nat.zero_le _, Nat.zero_le _⟩) hS hP hD (va_freeP (X := [(h0, .inr (9, [.ref h0_sums, .ref h0_schedule, .ref h0_inner, .int c_filled_1, .int c_total_2])), (h0_inner, .inl (cy 0, 32, .inl c_inner)), (h0_schedule, .inl (cy 1, 64, .inl c_schedule)), (h0_sums, .inl (cy 1, 8, .inl c_sums_3)), (ha3, .inl (cy 0, n_a3, .inl ca3)), (ha6, .inl (cy 0, n_a6, .inl ca6))]) hD hS hA [0, 2, 3] rfl) [0, 2, 3] rfl (by decide) rfl rfl zpl_adr ?_
  clear hP hD hS hc_
  intro H locs hP hD hS
  replace hP : va_P D vwCl ([(h0, .inr (9, [.ref h0_sums, .ref h0_schedule, .ref h0_inner, .int c_filled_4, .int c_total_5])), (h0_inner, .inl (cy 0, 32, .inl c_inner)), (h0_schedule, .inl (cy 1, 64, .inl c_schedule_6)), (h0_sums, .inl (cy 1, 8, .inl c_sums_7)), (ha3, .inl (cy 0, n_a3, .inl ca3)), (ha6, .inl (cy 0, n_a6, .inl ca6))] ++ zpl (cy 0) hP_o hP_k cP_kind cP_length cP_usage cP_role cP_uses cPK) H := hP
  replace hD : va_D A ([(h0, .inr (9, [.ref h0_sums, .ref h0_schedule, .ref h0_inner, .int c_filled_4, .int c_total_5])), (h0_inner, .inl (cy 0, 32, .inl c_inner)), (h0_schedule, .inl (cy 1, 64, .inl c_schedule_6)), (h0_sums, .inl (cy 1, 8, .inl c_sums_7)), (ha3, .inl (cy 0, n_a3, .inl ca3)), (ha6, .inl (cy 0, n_a6, .inl ca6))] ++ zpl (cy 0) hP_o hP_k cP_kind cP_length cP_usage cP_role cP_uses cPK) := hD
  refine W.eq (g2 := F0 m 12 ls []) rfl ?_
  refine lv_aload_n (pc := 12) hx hb (zdt_at zt_X7_mac_0 7 rfl) rfl (lv_at hl 0 rfl) ?_
  refine lv_aload_n (pc := 13) hx hb (zdt_at zt_X7_mac_0 8 rfl) rfl (lv_at hl 3 rfl) ?_
  refine lv_iload (pc := 14) hx hb (zdt_at zt_X7_mac_0 9 rfl) (lv_at hl 4 rfl) ?_
  refine lv_iload (pc := 16) hx hb (zdt_at zt_X7_mac_0 10 rfl) (lv_at hl 5 rfl) ?_
  replace hf := zb_s hf
  obtain ⟨⟨c_filled_8, c_total_9, c_schedule_10, c_sums_11⟩, hc_, hf⟩ := hf
  refine zcnQ (pc := 18) (X := [(h0, .inr (9, [.ref h0_sums, .ref h0_schedule, .ref h0_inner, .int c_filled_4, .int c_total_5])), (h0_inner, .inl (cy 0, 32, .inl c_inner)), (h0_schedule, .inl (cy 1, 64, .inl c_schedule_6)), (h0_sums, .inl (cy 1, 8, .inl c_sums_7)), (ha3, .inl (cy 0, n_a3, .inl ca3)), (ha6, .inl (cy 0, n_a6, .inl ca6))]) (rv := none) (va_runV (As := [.ref ha3, .int p4, .int p5]) (rest := []) ⟨hx, hb, hml, hown, hts⟩ (c_X7_take l D cy tt H.size h0 h0_sums h0_schedule h0_inner ha3 n_a3 p4 p5 c_filled_4 c_total_5 c_schedule_6 c_sums_7 ca3 c_filled_8 c_total_9 c_schedule_10 c_sums_11 hc_) (cwV 3 hts gX7_mac_X7_take rfl rfl rfl (by decide +kernel) ⟨Nat.le_of_ble_eq_true rfl, Nat.le_of_ble_eq_true rfl⟩) ⟨zblind, va_recv hK hP (ci := 9) (q0 := 0) rfl rfl, zpre hE hS (hP.sub [0, 2, 3, 4] rfl) (hD.sub [0, 2, 3, 4] (by decide) rfl) (va_free hD hS hA [0, 2, 3, 4] rfl)⟩ rfl rfl hl.1 rfl (lv_room (Nat.le_of_ble_eq_true rfl)) (zdt_at zt_X7_mac_0 11 rfl) ⟨Nat.zero_le _, Nat.zero_le _⟩) hS hP hD (va_free hD hS hA [0, 2, 3, 4] rfl) [0, 2, 3, 4] rfl (by decide) rfl rfl ?_
  clear hP hD hS hc_
  intro H locs hP hD hS
  replace hP : va_P D vwCl ([(h0, .inr (9, [.ref h0_sums, .ref h0_schedule, .ref h0_inner, .int c_filled_8, .int c_total_9])), (h0_inner, .inl (cy 0, 32, .inl c_inner)), (h0_schedule, .inl (cy 1, 64, .inl c_schedule_10)), (h0_sums, .inl (cy 1, 8, .inl c_sums_11)), (ha3, .inl (cy 0, n_a3, .inl ca3)), (ha6, .inl (cy 0, n_a6, .inl ca6))] ++ zpl (cy 0) hP_o hP_k cP_kind cP_length cP_usage cP_role cP_uses cPK) H := hP
  replace hD : va_D A ([(h0, .inr (9, [.ref h0_sums, .ref h0_schedule, .ref h0_inner, .int c_filled_8, .int c_total_9])), (h0_inner, .inl (cy 0, 32, .inl c_inner)), (h0_schedule, .inl (cy 1, 64, .inl c_schedule_10)), (h0_sums, .inl (cy 1, 8, .inl c_sums_11)), (ha3, .inl (cy 0, n_a3, .inl ca3)), (ha6, .inl (cy 0, n_a6, .inl ca6))] ++ zpl (cy 0) hP_o hP_k cP_kind cP_length cP_usage cP_role cP_uses cPK) := hD
  refine W.eq (g2 := F0 m 21 ls []) rfl ?_
  refine lv_aload_n (pc := 21) hx hb (zdt_at zt_X7_mac_0 12 rfl) rfl (lv_at hl 0 rfl) ?_
  refine lv_aload_n (pc := 22) hx hb (zdt_at zt_X7_mac_0 13 rfl) rfl (lv_at hl 0 rfl) ?_
  refine va_get (pc := 23) (D := D) (ci := 9) (v := .ref h0_inner) (C := RX7) (T := TX7) (N := 5) hx hb hts hcX7 hown hK hP 0 rfl rfl 2 (by decide) hw0 (fun _ h9 => h9) rfl (zdt_at zt_X7_mac_0 14 rfl) ?_
  refine lv_iconst (pc := 26) (v := (0 : Int32)) hx hb (zdt_at zt_X7_mac_0 15 rfl) (by decide) ?_
  replace hf := zb_s hf
  obtain ⟨⟨c_filled_12, c_inner_13, c_schedule_14, c_sums_15⟩, hc_, hf⟩ := hf
  refine zcnQ (pc := 27) (X := [(h0, .inr (9, [.ref h0_sums, .ref h0_schedule, .ref h0_inner, .int c_filled_8, .int c_total_9])), (h0_inner, .inl (cy 0, 32, .inl c_inner)), (h0_schedule, .inl (cy 1, 64, .inl c_schedule_10)), (h0_sums, .inl (cy 1, 8, .inl c_sums_11)), (ha3, .inl (cy 0, n_a3, .inl ca3)), (ha6, .inl (cy 0, n_a6, .inl ca6))]) (rv := none) (va_runV (As := [.ref h0_inner, .int (0 : Int32)]) (rest := []) ⟨hx, hb, hml, hown, hts⟩ (c_X7_end_1t_inner l D cy tt H.size h0 h0_sums h0_schedule h0_inner (0 : Int32) c_filled_8 c_total_9 c_inner c_schedule_10 c_sums_11 c_filled_12 c_inner_13 c_schedule_14 c_sums_15 hc_) (cwV 2 hts gX7_mac_X7_end rfl rfl rfl (by decide +kernel) ⟨Nat.le_of_ble_eq_true rfl, Nat.le_of_ble_eq_true rfl⟩) ⟨zblind, va_recv hK hP (ci := 9) (q0 := 0) rfl rfl, zpre hE hS (hP.sub [0, 1, 2, 3] rfl) (hD.sub [0, 1, 2, 3] (by decide) rfl) (va_free hD hS hA [0, 1, 2, 3] rfl)⟩ rfl rfl hl.1 rfl (lv_room (Nat.le_of_ble_eq_true rfl)) (zdt_at zt_X7_mac_0 16 rfl) ⟨Nat.zero_le _, Nat.zero_le _⟩) hS hP hD (va_free hD hS hA [0, 1, 2, 3] rfl) [0, 1, 2, 3] rfl (by decide) rfl rfl ?_
  clear hP hD hS hc_
  intro H locs hP hD hS
  replace hP : va_P D vwCl ([(h0, .inr (9, [.ref h0_sums, .ref h0_schedule, .ref h0_inner, .int c_filled_12, .int c_total_9])), (h0_inner, .inl (cy 0, 32, .inl c_inner_13)), (h0_schedule, .inl (cy 1, 64, .inl c_schedule_14)), (h0_sums, .inl (cy 1, 8, .inl c_sums_15)), (ha3, .inl (cy 0, n_a3, .inl ca3)), (ha6, .inl (cy 0, n_a6, .inl ca6))] ++ zpl (cy 0) hP_o hP_k cP_kind cP_length cP_usage cP_role cP_uses cPK) H := hP
  replace hD : va_D A ([(h0, .inr (9, [.ref h0_sums, .ref h0_schedule, .ref h0_inner, .int c_filled_12, .int c_total_9])), (h0_inner, .inl (cy 0, 32, .inl c_inner_13)), (h0_schedule, .inl (cy 1, 64, .inl c_schedule_14)), (h0_sums, .inl (cy 1, 8, .inl c_sums_15)), (ha3, .inl (cy 0, n_a3, .inl ca3)), (ha6, .inl (cy 0, n_a6, .inl ca6))] ++ zpl (cy 0) hP_o hP_k cP_kind cP_length cP_usage cP_role cP_uses cPK) := hD
  refine W.eq (g2 := F0 m 30 ls []) rfl ?_
  refine lv_aload_n (pc := 30) hx hb (zdt_at zt_X7_mac_0 17 rfl) rfl (lv_at hl 0 rfl) ?_
  replace hf := zb_s hf
  obtain ⟨⟨c_filled_16, c_total_17, c_sums_18⟩, hc_, hf⟩ := hf
  refine zcnQ (pc := 31) (X := [(h0, .inr (9, [.ref h0_sums, .ref h0_schedule, .ref h0_inner, .int c_filled_12, .int c_total_9])), (h0_inner, .inl (cy 0, 32, .inl c_inner_13)), (h0_schedule, .inl (cy 1, 64, .inl c_schedule_14)), (h0_sums, .inl (cy 1, 8, .inl c_sums_15)), (ha3, .inl (cy 0, n_a3, .inl ca3)), (ha6, .inl (cy 0, n_a6, .inl ca6))]) (rv := none) (va_runV (As := []) (rest := []) ⟨hx, hb, hml, hown, hts⟩ (c_X7_begin l D cy tt H.size h0 h0_sums h0_schedule h0_inner c_filled_12 c_total_9 c_sums_15 c_filled_16 c_total_17 c_sums_18 hc_) (cwV 0 hts gX7_mac_X7_begin rfl rfl rfl (by decide +kernel) ⟨Nat.le_of_ble_eq_true rfl, Nat.le_of_ble_eq_true rfl⟩) ⟨zblind, va_recv hK hP (ci := 9) (q0 := 0) rfl rfl, zpre hE hS (hP.sub [0, 3] rfl) (hD.sub [0, 3] (by decide) rfl) (va_free hD hS hA [0, 3] rfl)⟩ rfl rfl hl.1 rfl (lv_room (Nat.le_of_ble_eq_true rfl)) (zdt_at zt_X7_mac_0 18 rfl) ⟨Nat.zero_le _, Nat.zero_le _⟩) hS hP hD (va_free hD hS hA [0, 3] rfl) [0, 3] rfl (by decide) rfl rfl ?_
  clear hP hD hS hc_
  intro H locs hP hD hS
  replace hP : va_P D vwCl ([(h0, .inr (9, [.ref h0_sums, .ref h0_schedule, .ref h0_inner, .int c_filled_16, .int c_total_17])), (h0_inner, .inl (cy 0, 32, .inl c_inner_13)), (h0_schedule, .inl (cy 1, 64, .inl c_schedule_14)), (h0_sums, .inl (cy 1, 8, .inl c_sums_18)), (ha3, .inl (cy 0, n_a3, .inl ca3)), (ha6, .inl (cy 0, n_a6, .inl ca6))] ++ zpl (cy 0) hP_o hP_k cP_kind cP_length cP_usage cP_role cP_uses cPK) H := hP
  replace hD : va_D A ([(h0, .inr (9, [.ref h0_sums, .ref h0_schedule, .ref h0_inner, .int c_filled_16, .int c_total_17])), (h0_inner, .inl (cy 0, 32, .inl c_inner_13)), (h0_schedule, .inl (cy 1, 64, .inl c_schedule_14)), (h0_sums, .inl (cy 1, 8, .inl c_sums_18)), (ha3, .inl (cy 0, n_a3, .inl ca3)), (ha6, .inl (cy 0, n_a6, .inl ca6))] ++ zpl (cy 0) hP_o hP_k cP_kind cP_length cP_usage cP_role cP_uses cPK) := hD
  refine W.eq (g2 := F0 m 34 ls []) rfl ?_
  refine lv_aload_n (pc := 34) hx hb (zdt_at zt_X7_mac_0 19 rfl) rfl (lv_at hl 0 rfl) ?_
  refine lv_aload_n (pc := 35) hx hb (zdt_at zt_X7_mac_0 20 rfl) rfl (lv_at hl 1 rfl) ?_
  refine lv_iload_n (pc := 36) hx hb (zdt_at zt_X7_mac_0 21 rfl) rfl (lv_at hl 2 rfl) ?_
  refine lv_bipush (pc := 37) (v := (92 : Int32)) hx hb (zdt_at zt_X7_mac_0 22 rfl) (by decide) ?_
  replace hf := zb_s hf
  obtain ⟨⟨c_filled_19, c_total_20, c_schedule_21, c_sums_22⟩, hc_, hf⟩ := hf
  refine zcnP (pc := 39) (X := [(h0, .inr (9, [.ref h0_sums, .ref h0_schedule, .ref h0_inner, .int c_filled_16, .int c_total_17])), (h0_inner, .inl (cy 0, 32, .inl c_inner_13)), (h0_schedule, .inl (cy 1, 64, .inl c_schedule_14)), (h0_sums, .inl (cy 1, 8, .inl c_sums_18)), (ha3, .inl (cy 0, n_a3, .inl ca3)), (ha6, .inl (cy 0, n_a6, .inl ca6))]) (rv := none) (va_runV (As := [.ref (hP_k j1), .int p2, .int (92 : Int32)]) (rest := []) ⟨hx, hb, hml, hown, hts⟩ (c_X7_takePadded_1PK l D cy tt H.size h0 h0_sums h0_schedule h0_inner hP_o hP_k j1 p2 (92 : Int32) c_filled_16 c_total_17 c_schedule_14 c_sums_18 cPK cP_kind cP_length cP_usage cP_role cP_uses c_filled_19 c_total_20 c_schedule_21 c_sums_22 hj_j1 hc_) (cwV 3 hts gX7_mac_X7_takePadded rfl rfl rfl (by decide +kernel) ⟨Nat.le_of_ble_eq_true rfl, Nat.le_of_ble_eq_true rfl⟩) ⟨zblind, va_recv hK hP (ci := 9) (q0 := 0) rfl rfl, zpre hE hS (va_P.part (X := [(h0, .inr (9, [.ref h0_sums, .ref h0_schedule, .ref h0_inner, .int c_filled_16, .int c_total_17])), (h0_inner, .inl (cy 0, 32, .inl c_inner_13)), (h0_schedule, .inl (cy 1, 64, .inl c_schedule_14)), (h0_sums, .inl (cy 1, 8, .inl c_sums_18)), (ha3, .inl (cy 0, n_a3, .inl ca3)), (ha6, .inl (cy 0, n_a6, .inl ca6))]) hP [0, 2, 3] rfl) (va_D.part (X := [(h0, .inr (9, [.ref h0_sums, .ref h0_schedule, .ref h0_inner, .int c_filled_16, .int c_total_17])), (h0_inner, .inl (cy 0, 32, .inl c_inner_13)), (h0_schedule, .inl (cy 1, 64, .inl c_schedule_14)), (h0_sums, .inl (cy 1, 8, .inl c_sums_18)), (ha3, .inl (cy 0, n_a3, .inl ca3)), (ha6, .inl (cy 0, n_a6, .inl ca6))]) hD [0, 2, 3] (by decide) rfl) (va_freeP (X := [(h0, .inr (9, [.ref h0_sums, .ref h0_schedule, .ref h0_inner, .int c_filled_16, .int c_total_17])), (h0_inner, .inl (cy 0, 32, .inl c_inner_13)), (h0_schedule, .inl (cy 1, 64, .inl c_schedule_14)), (h0_sums, .inl (cy 1, 8, .inl c_sums_18)), (ha3, .inl (cy 0, n_a3, .inl ca3)), (ha6, .inl (cy 0, n_a6, .inl ca6))]) hD hS hA [0, 2, 3] rfl)⟩ rfl rfl hl.1 rfl (lv_room (Nat.le_of_ble_eq_true rfl)) (zdt_at zt_X7_mac_0 23 rfl) ⟨Nat.zero_le _, Nat.zero_le _⟩) hS hP hD (va_freeP (X := [(h0, .inr (9, [.ref h0_sums, .ref h0_schedule, .ref h0_inner, .int c_filled_16, .int c_total_17])), (h0_inner, .inl (cy 0, 32, .inl c_inner_13)), (h0_schedule, .inl (cy 1, 64, .inl c_schedule_14)), (h0_sums, .inl (cy 1, 8, .inl c_sums_18)), (ha3, .inl (cy 0, n_a3, .inl ca3)), (ha6, .inl (cy 0, n_a6, .inl ca6))]) hD hS hA [0, 2, 3] rfl) [0, 2, 3] rfl (by decide) rfl rfl zpl_adr ?_
  clear hP hD hS hc_
  intro H locs hP hD hS
  replace hP : va_P D vwCl ([(h0, .inr (9, [.ref h0_sums, .ref h0_schedule, .ref h0_inner, .int c_filled_19, .int c_total_20])), (h0_inner, .inl (cy 0, 32, .inl c_inner_13)), (h0_schedule, .inl (cy 1, 64, .inl c_schedule_21)), (h0_sums, .inl (cy 1, 8, .inl c_sums_22)), (ha3, .inl (cy 0, n_a3, .inl ca3)), (ha6, .inl (cy 0, n_a6, .inl ca6))] ++ zpl (cy 0) hP_o hP_k cP_kind cP_length cP_usage cP_role cP_uses cPK) H := hP
  replace hD : va_D A ([(h0, .inr (9, [.ref h0_sums, .ref h0_schedule, .ref h0_inner, .int c_filled_19, .int c_total_20])), (h0_inner, .inl (cy 0, 32, .inl c_inner_13)), (h0_schedule, .inl (cy 1, 64, .inl c_schedule_21)), (h0_sums, .inl (cy 1, 8, .inl c_sums_22)), (ha3, .inl (cy 0, n_a3, .inl ca3)), (ha6, .inl (cy 0, n_a6, .inl ca6))] ++ zpl (cy 0) hP_o hP_k cP_kind cP_length cP_usage cP_role cP_uses cPK) := hD
  refine W.eq (g2 := F0 m 42 ls []) rfl ?_
  refine lv_aload_n (pc := 42) hx hb (zdt_at zt_X7_mac_0 24 rfl) rfl (lv_at hl 0 rfl) ?_
  refine lv_aload_n (pc := 43) hx hb (zdt_at zt_X7_mac_0 25 rfl) rfl (lv_at hl 0 rfl) ?_
  refine va_get (pc := 44) (D := D) (ci := 9) (v := .ref h0_inner) (C := RX7) (T := TX7) (N := 5) hx hb hts hcX7 hown hK hP 0 rfl rfl 2 (by decide) hw0 (fun _ h9 => h9) rfl (zdt_at zt_X7_mac_0 26 rfl) ?_
  refine lv_iconst (pc := 47) (v := (0 : Int32)) hx hb (zdt_at zt_X7_mac_0 27 rfl) (by decide) ?_
  refine lv_bipush (pc := 48) (v := (32 : Int32)) hx hb (zdt_at zt_X7_mac_0 28 rfl) (by decide) ?_
  replace hf := zb_s hf
  obtain ⟨⟨c_filled_23, c_total_24, c_schedule_25, c_sums_26⟩, hc_, hf⟩ := hf
  refine zcnQ (pc := 50) (X := [(h0, .inr (9, [.ref h0_sums, .ref h0_schedule, .ref h0_inner, .int c_filled_19, .int c_total_20])), (h0_inner, .inl (cy 0, 32, .inl c_inner_13)), (h0_schedule, .inl (cy 1, 64, .inl c_schedule_21)), (h0_sums, .inl (cy 1, 8, .inl c_sums_22)), (ha3, .inl (cy 0, n_a3, .inl ca3)), (ha6, .inl (cy 0, n_a6, .inl ca6))]) (rv := none) (va_runV (As := [.ref h0_inner, .int (0 : Int32), .int (32 : Int32)]) (rest := []) ⟨hx, hb, hml, hown, hts⟩ (c_X7_take_1t_inner l D cy tt H.size h0 h0_sums h0_schedule h0_inner (0 : Int32) (32 : Int32) c_filled_19 c_total_20 c_inner_13 c_schedule_21 c_sums_22 c_filled_23 c_total_24 c_schedule_25 c_sums_26 hc_) (cwV 3 hts gX7_mac_X7_take rfl rfl rfl (by decide +kernel) ⟨Nat.le_of_ble_eq_true rfl, Nat.le_of_ble_eq_true rfl⟩) ⟨zblind, va_recv hK hP (ci := 9) (q0 := 0) rfl rfl, zpre hE hS (hP.sub [0, 1, 2, 3] rfl) (hD.sub [0, 1, 2, 3] (by decide) rfl) (va_free hD hS hA [0, 1, 2, 3] rfl)⟩ rfl rfl hl.1 rfl (lv_room (Nat.le_of_ble_eq_true rfl)) (zdt_at zt_X7_mac_0 29 rfl) ⟨Nat.zero_le _, Nat.zero_le _⟩) hS hP hD (va_free hD hS hA [0, 1, 2, 3] rfl) [0, 1, 2, 3] rfl (by decide) rfl rfl ?_
  clear hP hD hS hc_
  intro H locs hP hD hS
  replace hP : va_P D vwCl ([(h0, .inr (9, [.ref h0_sums, .ref h0_schedule, .ref h0_inner, .int c_filled_23, .int c_total_24])), (h0_inner, .inl (cy 0, 32, .inl c_inner_13)), (h0_schedule, .inl (cy 1, 64, .inl c_schedule_25)), (h0_sums, .inl (cy 1, 8, .inl c_sums_26)), (ha3, .inl (cy 0, n_a3, .inl ca3)), (ha6, .inl (cy 0, n_a6, .inl ca6))] ++ zpl (cy 0) hP_o hP_k cP_kind cP_length cP_usage cP_role cP_uses cPK) H := hP
  replace hD : va_D A ([(h0, .inr (9, [.ref h0_sums, .ref h0_schedule, .ref h0_inner, .int c_filled_23, .int c_total_24])), (h0_inner, .inl (cy 0, 32, .inl c_inner_13)), (h0_schedule, .inl (cy 1, 64, .inl c_schedule_25)), (h0_sums, .inl (cy 1, 8, .inl c_sums_26)), (ha3, .inl (cy 0, n_a3, .inl ca3)), (ha6, .inl (cy 0, n_a6, .inl ca6))] ++ zpl (cy 0) hP_o hP_k cP_kind cP_length cP_usage cP_role cP_uses cPK) := hD
  refine W.eq (g2 := F0 m 53 ls []) rfl ?_
  refine lv_aload_n (pc := 53) hx hb (zdt_at zt_X7_mac_0 30 rfl) rfl (lv_at hl 0 rfl) ?_
  refine lv_aload (pc := 54) hx hb (zdt_at zt_X7_mac_0 31 rfl) (lv_at hl 6 rfl) ?_
  refine lv_iload (pc := 56) hx hb (zdt_at zt_X7_mac_0 32 rfl) (lv_at hl 7 rfl) ?_
  replace hf := zb_s hf
  obtain ⟨⟨c_filled_27, c_schedule_28, c_sums_29, ca6_30⟩, hc_, hf⟩ := hf
  refine zcnQ (pc := 58) (X := [(h0, .inr (9, [.ref h0_sums, .ref h0_schedule, .ref h0_inner, .int c_filled_23, .int c_total_24])), (h0_inner, .inl (cy 0, 32, .inl c_inner_13)), (h0_schedule, .inl (cy 1, 64, .inl c_schedule_25)), (h0_sums, .inl (cy 1, 8, .inl c_sums_26)), (ha3, .inl (cy 0, n_a3, .inl ca3)), (ha6, .inl (cy 0, n_a6, .inl ca6))]) (rv := none) (va_runV (As := [.ref ha6, .int p7]) (rest := []) ⟨hx, hb, hml, hown, hts⟩ (c_X7_end l D cy tt H.size h0 h0_sums h0_schedule h0_inner ha6 n_a6 p7 c_filled_23 c_total_24 c_schedule_25 c_sums_26 ca6 c_filled_27 c_schedule_28 c_sums_29 ca6_30 hc_) (cwV 2 hts gX7_mac_X7_end rfl rfl rfl (by decide +kernel) ⟨Nat.le_of_ble_eq_true rfl, Nat.le_of_ble_eq_true rfl⟩) ⟨zblind, va_recv hK hP (ci := 9) (q0 := 0) rfl rfl, zpre hE hS (hP.sub [0, 2, 3, 5] rfl) (hD.sub [0, 2, 3, 5] (by decide) rfl) (va_free hD hS hA [0, 2, 3, 5] rfl)⟩ rfl rfl hl.1 rfl (lv_room (Nat.le_of_ble_eq_true rfl)) (zdt_at zt_X7_mac_0 33 rfl) ⟨Nat.zero_le _, Nat.zero_le _⟩) hS hP hD (va_free hD hS hA [0, 2, 3, 5] rfl) [0, 2, 3, 5] rfl (by decide) rfl rfl ?_
  clear hP hD hS hc_
  intro H locs hP hD hS
  replace hP : va_P D vwCl ([(h0, .inr (9, [.ref h0_sums, .ref h0_schedule, .ref h0_inner, .int c_filled_27, .int c_total_24])), (h0_inner, .inl (cy 0, 32, .inl c_inner_13)), (h0_schedule, .inl (cy 1, 64, .inl c_schedule_28)), (h0_sums, .inl (cy 1, 8, .inl c_sums_29)), (ha3, .inl (cy 0, n_a3, .inl ca3)), (ha6, .inl (cy 0, n_a6, .inl ca6_30))] ++ zpl (cy 0) hP_o hP_k cP_kind cP_length cP_usage cP_role cP_uses cPK) H := hP
  replace hD : va_D A ([(h0, .inr (9, [.ref h0_sums, .ref h0_schedule, .ref h0_inner, .int c_filled_27, .int c_total_24])), (h0_inner, .inl (cy 0, 32, .inl c_inner_13)), (h0_schedule, .inl (cy 1, 64, .inl c_schedule_28)), (h0_sums, .inl (cy 1, 8, .inl c_sums_29)), (ha3, .inl (cy 0, n_a3, .inl ca3)), (ha6, .inl (cy 0, n_a6, .inl ca6_30))] ++ zpl (cy 0) hP_o hP_k cP_kind cP_length cP_usage cP_role cP_uses cPK) := hD
  refine W.eq (g2 := F0 m 61 ls []) rfl ?_
  cases hf
  exact W.vret (pc := 61) hx hb hr (fun t ht hW => ⟨rfl, ⟨by rw [ht]; exact hP, hD⟩, hS.F ht⟩) hS.2.2 (zdt_at zt_X7_mac_0 34 rfl)
set_option maxHeartbeats 4000000 in
set_option maxRecDepth 100000 in
theorem c_X9_deriveBytes (l : Launch) (D : va_G) (cy : Nat → ClassId) (tt : Nat → Nat) (sz : Nat) (h0 : Nat) (h0_buffer : Nat) (h0_slots : Nat) (h0_counters : Nat) (h0_officerPin : Nat) (h0_userPin : Nat) (h0_words : Nat) (h0_sha : Nat) (h0_stream : Nat) (h0_aes : Nat) (h0_modes : Nat) (h0_gcm : Nat) (h0_generator : Nat) (h0_tests : Nat) (h0_message : Nat) (h0_secret : Nat) (h0_sha_sums : Nat) (h0_sha_schedule : Nat) (h0_sha_inner : Nat) (hP_o : Nat → Nat) (hP_k : Nat → Nat) (j1 : Nat) (p2 : Int32) (p3 : Int32) (c_buffer : Nat → Int32) (c_message : Nat → Int32) (c_secret : Nat → Int32) (c_sha_filled : Int32) (c_sha_total : Int32) (c_sha_inner : Nat → Int32) (c_sha_schedule : Nat → Int32) (c_sha_sums : Nat → Int32) (cP_length : Nat → Int32) (cPK : Nat → Nat → Int32) (c_state : Int32) (c_testsDone : Int32) (c_faults : Int32) (c_streamBegun : Int32) (cP_kind : Nat → Int32) (cP_usage : Nat → Int32) (cP_role : Nat → Int32) (cP_uses : Nat → Int32) (c_message' : Nat → Int32) (c_secret' : Nat → Int32) (c_sha_filled' : Int32) (c_sha_total' : Int32) (c_sha_inner' : Nat → Int32) (c_sha_schedule' : Nat → Int32) (c_sha_sums' : Nat → Int32) (hj_j1 : j1 < 16) (hf : f_X9_deriveBytes j1 p2 p3 c_buffer c_message c_secret c_sha_filled c_sha_total c_sha_inner c_sha_schedule c_sha_sums cP_length cPK = some (c_message', c_secret', c_sha_filled', c_sha_total', c_sha_inner', c_sha_schedule', c_sha_sums')) : Met l yX9_deriveBytes wsX9_deriveBytes ({ frames := 4, cells := 0, slots := 0, locals := 111 }) (zPc D cy tt sz [.ref h0, .ref (hP_o j1), .int p2, .int p3] ([(h0, .inr (11, [.ref h0_buffer, .ref h0_slots, .ref h0_counters, .ref h0_officerPin, .ref h0_userPin, .ref h0_words, .ref h0_sha, .ref h0_stream, .ref h0_aes, .ref h0_modes, .ref h0_gcm, .ref h0_generator, .ref h0_tests, .ref h0_message, .ref h0_secret, .int c_state, .int c_testsDone, .int c_faults, .int c_streamBegun])), (h0_buffer, .inl (cy 0, 512, .inl c_buffer)), (h0_message, .inl (cy 0, 68, .inl c_message)), (h0_secret, .inl (cy 0, 80, .inl c_secret)), (h0_sha, .inr (9, [.ref h0_sha_sums, .ref h0_sha_schedule, .ref h0_sha_inner, .int c_sha_filled, .int c_sha_total])), (h0_sha_inner, .inl (cy 0, 32, .inl c_sha_inner)), (h0_sha_schedule, .inl (cy 1, 64, .inl c_sha_schedule)), (h0_sha_sums, .inl (cy 1, 8, .inl c_sha_sums))] ++ zpl (cy 0) hP_o hP_k cP_kind cP_length cP_usage cP_role cP_uses cPK)) (zQ D none ([(h0, .inr (11, [.ref h0_buffer, .ref h0_slots, .ref h0_counters, .ref h0_officerPin, .ref h0_userPin, .ref h0_words, .ref h0_sha, .ref h0_stream, .ref h0_aes, .ref h0_modes, .ref h0_gcm, .ref h0_generator, .ref h0_tests, .ref h0_message, .ref h0_secret, .int c_state, .int c_testsDone, .int c_faults, .int c_streamBegun])), (h0_buffer, .inl (cy 0, 512, .inl c_buffer)), (h0_message, .inl (cy 0, 68, .inl c_message')), (h0_secret, .inl (cy 0, 80, .inl c_secret')), (h0_sha, .inr (9, [.ref h0_sha_sums, .ref h0_sha_schedule, .ref h0_sha_inner, .int c_sha_filled', .int c_sha_total'])), (h0_sha_inner, .inl (cy 0, 32, .inl c_sha_inner')), (h0_sha_schedule, .inl (cy 1, 64, .inl c_sha_schedule')), (h0_sha_sums, .inl (cy 1, 8, .inl c_sha_sums'))] ++ zpl (cy 0) hP_o hP_k cP_kind cP_length cP_usage cP_role cP_uses cPK) (va_A ([(h0, .inr (11, [.ref h0_buffer, .ref h0_slots, .ref h0_counters, .ref h0_officerPin, .ref h0_userPin, .ref h0_words, .ref h0_sha, .ref h0_stream, .ref h0_aes, .ref h0_modes, .ref h0_gcm, .ref h0_generator, .ref h0_tests, .ref h0_message, .ref h0_secret, .int c_state, .int c_testsDone, .int c_faults, .int c_streamBegun])), (h0_buffer, .inl (cy 0, 512, .inl c_buffer)), (h0_message, .inl (cy 0, 68, .inl c_message)), (h0_secret, .inl (cy 0, 80, .inl c_secret)), (h0_sha, .inr (9, [.ref h0_sha_sums, .ref h0_sha_schedule, .ref h0_sha_inner, .int c_sha_filled, .int c_sha_total])), (h0_sha_inner, .inl (cy 0, 32, .inl c_sha_inner)), (h0_sha_schedule, .inl (cy 1, 64, .inl c_sha_schedule)), (h0_sha_sums, .inl (cy 1, 8, .inl c_sha_sums))] ++ zpl (cy 0) hP_o hP_k cP_kind cP_length cP_usage cP_role cP_uses cPK) sz)) 0 0 (va_A ([(h0, .inr (11, [.ref h0_buffer, .ref h0_slots, .ref h0_counters, .ref h0_officerPin, .ref h0_userPin, .ref h0_words, .ref h0_sha, .ref h0_stream, .ref h0_aes, .ref h0_modes, .ref h0_gcm, .ref h0_generator, .ref h0_tests, .ref h0_message, .ref h0_secret, .int c_state, .int c_testsDone, .int c_faults, .int c_streamBegun])), (h0_buffer, .inl (cy 0, 512, .inl c_buffer)), (h0_message, .inl (cy 0, 68, .inl c_message)), (h0_secret, .inl (cy 0, 80, .inl c_secret)), (h0_sha, .inr (9, [.ref h0_sha_sums, .ref h0_sha_schedule, .ref h0_sha_inner, .int c_sha_filled, .int c_sha_total])), (h0_sha_inner, .inl (cy 0, 32, .inl c_sha_inner)), (h0_sha_schedule, .inl (cy 1, 64, .inl c_sha_schedule)), (h0_sha_sums, .inl (cy 1, 8, .inl c_sha_sums))] ++ zpl (cy 0) hP_o hP_k cP_kind cP_length cP_usage cP_role cP_uses cPK) sz) := by
  refine Met.ofW (cc := cX9_deriveBytes) (maxL := 5) (ret := none) (by decide) rfl ?_
  intro p e s m args below meth c s₁ B hml hv
  obtain ⟨rfl, rfl, hP, hD0, hE⟩ := hv
  have hx := B.exec
  have hb := B.bytes
  have hr := B.returns
  have hts := atoms_spec (ws := wsX9_deriveBytes) B.pre
  have hown : s.vm.findClass RX9 = some m.cls := findClass_of_methodNamed B.named
  have hlocks := B.notSynchronized
  clear B
  have hD := hD0.self (sz := s.heap.size)
  generalize hAe : va_A ([(h0, .inr (11, [.ref h0_buffer, .ref h0_slots, .ref h0_counters, .ref h0_officerPin, .ref h0_userPin, .ref h0_words, .ref h0_sha, .ref h0_stream, .ref h0_aes, .ref h0_modes, .ref h0_gcm, .ref h0_generator, .ref h0_tests, .ref h0_message, .ref h0_secret, .int c_state, .int c_testsDone, .int c_faults, .int c_streamBegun])), (h0_buffer, .inl (cy 0, 512, .inl c_buffer)), (h0_message, .inl (cy 0, 68, .inl c_message)), (h0_secret, .inl (cy 0, 80, .inl c_secret)), (h0_sha, .inr (9, [.ref h0_sha_sums, .ref h0_sha_schedule, .ref h0_sha_inner, .int c_sha_filled, .int c_sha_total])), (h0_sha_inner, .inl (cy 0, 32, .inl c_sha_inner)), (h0_sha_schedule, .inl (cy 1, 64, .inl c_sha_schedule)), (h0_sha_sums, .inl (cy 1, 8, .inl c_sha_sums))] ++ zpl (cy 0) hP_o hP_k cP_kind cP_length cP_usage cP_role cP_uses cPK) s.heap.size = A at hD hE ⊢
  have hA : ∀ q : Nat, s.heap.size ≤ q → A q := fun q h => by rw [← hAe]; exact Or.inr h
  clear hAe hD0
  have hS : va_S A s.heap s.heap [] := va_S.rf
  have hK := hE.1
  have hw0 := hts (.fieldLink RX9 9 "SealedModule" "buffer" "[B") (by decide +kernel)
  have hw1 := hts (.fieldLink RX9 95 "SealedModule" "message" "[B") (by decide +kernel)
  have hw2 := hts (.methodLink RX9 276 arraycopyName) (by decide +kernel)
  have hw3 := hts (.native arraycopyName) (by decide +kernel)
  have hw4 := hts (.static arraycopyName) (by decide +kernel)
  have hw5 := hts (.initialized "java/lang/System") (by decide +kernel)
  have hw6 := hts (.fieldLink RX9 45 "SealedModule" "sha" "LSealedModule$Sha256;") (by decide +kernel)
  have hw7 := hts (.fieldLink RX9 286 "SealedModule$Slot" "key" "[B") (by decide +kernel)
  have hw8 := hts (.fieldLink RX9 207 "SealedModule$Slot" "length" "I") (by decide +kernel)
  have hw9 := hts (.fieldLink RX9 98 "SealedModule" "secret" "[B") (by decide +kernel)
  have hcX9 : ∀ w ∈ u_ws RX9 TX9 19, w ∈ wsX9_deriveBytes := (fun _ h => List.mem_cons_of_mem _ (List.mem_append_left _ (List.mem_append_left _ (List.mem_append_left _ (List.mem_append_right _ h)))))
  have hcX8 : ∀ w ∈ u_ws RX8 TX8 6, w ∈ wsX9_deriveBytes := (fun _ h => List.mem_cons_of_mem _ (List.mem_append_left _ (List.mem_append_left _ (List.mem_append_right _ h))))
  have hl := lv_entry ([.ref h0, .ref (hP_o j1), .int p2, .int p3]) (n := 5) (Nat.le_of_ble_eq_true rfl)
  rw [lg_entry_eq]
  generalize (lg_sl ([.ref h0, .ref (hP_o j1), .int p2, .int p3]) ++ List.replicate (5 - (lg_sl ([.ref h0, .ref (hP_o j1), .int p2, .int p3])).length) Slot.unset).toArray = ls at hl ⊢
  replace hl : lv_has ls 5 [(0, .ref h0), (1, .ref (hP_o j1)), (2, .int p2), (3, .int p3)] := hl
  unfold f_X9_deriveBytes at hf
  refine zgo (fun GW hTo hFr => ?_)
  refine hFr _ _ _ ?_
  obtain ⟨H, hHe⟩ : ∃ H, H = s.heap := ⟨_, rfl⟩
  obtain ⟨locs, hLe⟩ : ∃ L : List Loc, L = [] := ⟨_, rfl⟩
  rw [← hHe] at hP
  replace hS : va_S A s.heap H locs := by rw [hHe, hLe]; exact hS
  refine zat hHe.symm hLe.symm ?_
  clear hHe hLe
  refine lv_aload_n (pc := 0) hx hb (zdt_at zt_X9_deriveBytes_0 0 rfl) rfl (lv_at hl 0 rfl) ?_
  refine va_get (pc := 1) (D := D) (ci := 11) (v := .ref h0_buffer) (C := RX9) (T := TX9) (N := 19) hx hb hts hcX9 hown hK hP 0 rfl rfl 0 (by decide) hw0 (fun _ h9 => h9) rfl (zdt_at zt_X9_deriveBytes_0 1 rfl) ?_
  refine lv_iconst (pc := 4) (v := (0 : Int32)) hx hb (zdt_at zt_X9_deriveBytes_0 2 rfl) (by decide) ?_
  refine lv_aload_n (pc := 5) hx hb (zdt_at zt_X9_deriveBytes_0 3 rfl) rfl (lv_at hl 0 rfl) ?_
  refine va_get (pc := 6) (D := D) (ci := 11) (v := .ref h0_message) (C := RX9) (T := TX9) (N := 19) hx hb hts hcX9 hown hK hP 0 rfl rfl 13 (by decide) hw1 (fun _ h9 => h9) rfl (zdt_at zt_X9_deriveBytes_0 4 rfl) ?_
  refine lv_iconst (pc := 9) (v := (4 : Int32)) hx hb (zdt_at zt_X9_deriveBytes_0 5 rfl) (by decide) ?_
  refine lv_iload_n (pc := 10) hx hb (zdt_at zt_X9_deriveBytes_0 6 rfl) rfl (lv_at hl 3 rfl) ?_
  replace hf := zk_s hf
  refine va_copyi (pc := 11) hx hb (hml.trans hl.1.symm) hown hw2 hw3 hw4 hw5 hK hP hD hS 1 2 0 0 rfl rfl rfl rfl rfl hf.1.1 hf.1.2.1 hf.1.2.2.1 hf.1.2.2.2.1 hf.1.2.2.2.2.1 hf.1.2.2.2.2.2 (Nat.le_of_ble_eq_true rfl) (Nat.le_of_ble_eq_true rfl) (zdt_at zt_X9_deriveBytes_0 7 rfl) ?_
  replace hf := hf.2
  clear hP hD hS
  intro H locs hP hD hS
  obtain ⟨c_message_1, e_⟩ : ∃ q : Nat → Int32, q = (va_cpy c_buffer c_message (0 : Int32).toNatClampNeg (4 : Int32).toNatClampNeg p3.toNatClampNeg) := ⟨_, rfl⟩
  replace hf := zn_s hf e_
  replace hP : va_P D vwCl ([(h0, .inr (11, [.ref h0_buffer, .ref h0_slots, .ref h0_counters, .ref h0_officerPin, .ref h0_userPin, .ref h0_words, .ref h0_sha, .ref h0_stream, .ref h0_aes, .ref h0_modes, .ref h0_gcm, .ref h0_generator, .ref h0_tests, .ref h0_message, .ref h0_secret, .int c_state, .int c_testsDone, .int c_faults, .int c_streamBegun])), (h0_buffer, .inl (cy 0, 512, .inl c_buffer)), (h0_message, .inl (cy 0, 68, .inl c_message_1)), (h0_secret, .inl (cy 0, 80, .inl c_secret)), (h0_sha, .inr (9, [.ref h0_sha_sums, .ref h0_sha_schedule, .ref h0_sha_inner, .int c_sha_filled, .int c_sha_total])), (h0_sha_inner, .inl (cy 0, 32, .inl c_sha_inner)), (h0_sha_schedule, .inl (cy 1, 64, .inl c_sha_schedule)), (h0_sha_sums, .inl (cy 1, 8, .inl c_sha_sums))] ++ zpl (cy 0) hP_o hP_k cP_kind cP_length cP_usage cP_role cP_uses cPK) H := by rw [e_]; exact hP
  replace hD : va_D A ([(h0, .inr (11, [.ref h0_buffer, .ref h0_slots, .ref h0_counters, .ref h0_officerPin, .ref h0_userPin, .ref h0_words, .ref h0_sha, .ref h0_stream, .ref h0_aes, .ref h0_modes, .ref h0_gcm, .ref h0_generator, .ref h0_tests, .ref h0_message, .ref h0_secret, .int c_state, .int c_testsDone, .int c_faults, .int c_streamBegun])), (h0_buffer, .inl (cy 0, 512, .inl c_buffer)), (h0_message, .inl (cy 0, 68, .inl c_message_1)), (h0_secret, .inl (cy 0, 80, .inl c_secret)), (h0_sha, .inr (9, [.ref h0_sha_sums, .ref h0_sha_schedule, .ref h0_sha_inner, .int c_sha_filled, .int c_sha_total])), (h0_sha_inner, .inl (cy 0, 32, .inl c_sha_inner)), (h0_sha_schedule, .inl (cy 1, 64, .inl c_sha_schedule)), (h0_sha_sums, .inl (cy 1, 8, .inl c_sha_sums))] ++ zpl (cy 0) hP_o hP_k cP_kind cP_length cP_usage cP_role cP_uses cPK) := by rw [e_]; exact hD
  clear e_
  refine lv_iconst (pc := 14) (v := (0 : Int32)) hx hb (zdt_at zt_X9_deriveBytes_0 8 rfl) (by decide) ?_
  refine lv_istore (pc := 15) (lv' := [(4, .int (0 : Int32)), (0, .ref h0), (1, .ref (hP_o j1)), (2, .int p2), (3, .int p3)]) hx hb (zdt_at zt_X9_deriveBytes_0 9 rfl) hl (by decide) rfl ?_
  clear hl
  intro ls hl
  replace hf := zj_s hf
  obtain ⟨K_17, eK_17, hf⟩ := hf
  have kK_17 : ∀ (c_message_10 : Nat → Int32) (c_secret_11 : Nat → Int32) (c_sha_filled_12 : Int32) (c_sha_inner_13 : Nat → Int32) (c_sha_schedule_14 : Nat → Int32) (c_sha_sums_15 : Nat → Int32) (c_sha_total_16 : Int32) (H : Heap) (locs : List Loc) (ls : Array Slot), va_P D vwCl ([(h0, .inr (11, [.ref h0_buffer, .ref h0_slots, .ref h0_counters, .ref h0_officerPin, .ref h0_userPin, .ref h0_words, .ref h0_sha, .ref h0_stream, .ref h0_aes, .ref h0_modes, .ref h0_gcm, .ref h0_generator, .ref h0_tests, .ref h0_message, .ref h0_secret, .int c_state, .int c_testsDone, .int c_faults, .int c_streamBegun])), (h0_buffer, .inl (cy 0, 512, .inl c_buffer)), (h0_message, .inl (cy 0, 68, .inl c_message_10)), (h0_secret, .inl (cy 0, 80, .inl c_secret_11)), (h0_sha, .inr (9, [.ref h0_sha_sums, .ref h0_sha_schedule, .ref h0_sha_inner, .int c_sha_filled_12, .int c_sha_total_16])), (h0_sha_inner, .inl (cy 0, 32, .inl c_sha_inner_13)), (h0_sha_schedule, .inl (cy 1, 64, .inl c_sha_schedule_14)), (h0_sha_sums, .inl (cy 1, 8, .inl c_sha_sums_15))] ++ zpl (cy 0) hP_o hP_k cP_kind cP_length cP_usage cP_role cP_uses cPK) H → va_D A ([(h0, .inr (11, [.ref h0_buffer, .ref h0_slots, .ref h0_counters, .ref h0_officerPin, .ref h0_userPin, .ref h0_words, .ref h0_sha, .ref h0_stream, .ref h0_aes, .ref h0_modes, .ref h0_gcm, .ref h0_generator, .ref h0_tests, .ref h0_message, .ref h0_secret, .int c_state, .int c_testsDone, .int c_faults, .int c_streamBegun])), (h0_buffer, .inl (cy 0, 512, .inl c_buffer)), (h0_message, .inl (cy 0, 68, .inl c_message_10)), (h0_secret, .inl (cy 0, 80, .inl c_secret_11)), (h0_sha, .inr (9, [.ref h0_sha_sums, .ref h0_sha_schedule, .ref h0_sha_inner, .int c_sha_filled_12, .int c_sha_total_16])), (h0_sha_inner, .inl (cy 0, 32, .inl c_sha_inner_13)), (h0_sha_schedule, .inl (cy 1, 64, .inl c_sha_schedule_14)), (h0_sha_sums, .inl (cy 1, 8, .inl c_sha_sums_15))] ++ zpl (cy 0) hP_o hP_k cP_kind cP_length cP_usage cP_role cP_uses cPK) → va_S A s.heap H locs → lv_has ls 5 [] → K_17 c_message_10 c_secret_11 c_sha_filled_12 c_sha_inner_13 c_sha_schedule_14 c_sha_sums_15 c_sha_total_16 = some (c_message', c_secret', c_sha_filled', c_sha_total', c_sha_inner', c_sha_schedule', c_sha_sums') → GW H locs (F0 m 73 ls []) := by
    clear hf hl hP hD hS
    intro c_message_10 c_secret_11 c_sha_filled_12 c_sha_inner_13 c_sha_schedule_14 c_sha_sums_15 c_sha_total_16 H locs ls hP hD hS hl hf
    rw [eK_17] at hf
    clear eK_17
    refine hFr _ _ _ ?_
    cases hf
    exact W.vret (pc := 73) hx hb hr (fun t ht hW => ⟨rfl, ⟨by rw [ht]; exact hP, hD⟩, hS.F ht⟩) hS.2.2 (zdt_at zt_X9_deriveBytes_0 40 rfl)
  clear eK_17
  refine hTo _ _ _ (zl_go (fun z => match z with | (i_2, c_message_3, c_secret_4, c_sha_filled_5, c_sha_inner_6, c_sha_schedule_7, c_sha_sums_8, c_sha_total_9) => ∀ (H : Heap) (locs : List Loc) (ls : Array Slot), va_P D vwCl ([(h0, .inr (11, [.ref h0_buffer, .ref h0_slots, .ref h0_counters, .ref h0_officerPin, .ref h0_userPin, .ref h0_words, .ref h0_sha, .ref h0_stream, .ref h0_aes, .ref h0_modes, .ref h0_gcm, .ref h0_generator, .ref h0_tests, .ref h0_message, .ref h0_secret, .int c_state, .int c_testsDone, .int c_faults, .int c_streamBegun])), (h0_buffer, .inl (cy 0, 512, .inl c_buffer)), (h0_message, .inl (cy 0, 68, .inl c_message_3)), (h0_secret, .inl (cy 0, 80, .inl c_secret_4)), (h0_sha, .inr (9, [.ref h0_sha_sums, .ref h0_sha_schedule, .ref h0_sha_inner, .int c_sha_filled_5, .int c_sha_total_9])), (h0_sha_inner, .inl (cy 0, 32, .inl c_sha_inner_6)), (h0_sha_schedule, .inl (cy 1, 64, .inl c_sha_schedule_7)), (h0_sha_sums, .inl (cy 1, 8, .inl c_sha_sums_8))] ++ zpl (cy 0) hP_o hP_k cP_kind cP_length cP_usage cP_role cP_uses cPK) H → va_D A ([(h0, .inr (11, [.ref h0_buffer, .ref h0_slots, .ref h0_counters, .ref h0_officerPin, .ref h0_userPin, .ref h0_words, .ref h0_sha, .ref h0_stream, .ref h0_aes, .ref h0_modes, .ref h0_gcm, .ref h0_generator, .ref h0_tests, .ref h0_message, .ref h0_secret, .int c_state, .int c_testsDone, .int c_faults, .int c_streamBegun])), (h0_buffer, .inl (cy 0, 512, .inl c_buffer)), (h0_message, .inl (cy 0, 68, .inl c_message_3)), (h0_secret, .inl (cy 0, 80, .inl c_secret_4)), (h0_sha, .inr (9, [.ref h0_sha_sums, .ref h0_sha_schedule, .ref h0_sha_inner, .int c_sha_filled_5, .int c_sha_total_9])), (h0_sha_inner, .inl (cy 0, 32, .inl c_sha_inner_6)), (h0_sha_schedule, .inl (cy 1, 64, .inl c_sha_schedule_7)), (h0_sha_sums, .inl (cy 1, 8, .inl c_sha_sums_8))] ++ zpl (cy 0) hP_o hP_k cP_kind cP_length cP_usage cP_role cP_uses cPK) → va_S A s.heap H locs → lv_has ls 5 [(0, .ref h0), (1, .ref (hP_o j1)), (2, .int p2), (3, .int p3), (4, .int i_2)] → GW H locs (F0 m 17 ls [])) hf ?_ H locs ls hP hD hS (lv_sub hl [1, 2, 3, 4, 0] rfl))
  clear hf hl hP hD hS
  intro self_18 ihself_18 z hf
  obtain ⟨i_2, c_message_3, c_secret_4, c_sha_filled_5, c_sha_inner_6, c_sha_schedule_7, c_sha_sums_8, c_sha_total_9⟩ := z
  intro H locs ls hP hD hS hl
  refine hFr _ _ _ ?_
  unfold b_X9_deriveBytes_17 at hf
  refine lv_iload (pc := 17) hx hb (zdt_at zt_X9_deriveBytes_0 10 rfl) (lv_at hl 4 rfl) ?_
  refine lv_iload_n (pc := 19) hx hb (zdt_at zt_X9_deriveBytes_0 11 rfl) rfl (lv_at hl 2 rfl) ?_
  refine lv_icmp_ge (pc := 20) (tgt := 73) hx hb (zdt_at zt_X9_deriveBytes_0 12 rfl) (by decide) (fun cn_ => ?t_19) (fun cn_ => ?f_20)
  case t_19 =>
    replace hf := zt_s cn_ hf
    clear cn_
    exact hTo _ _ _ (kK_17 _ _ _ _ _ _ _ H locs ls hP hD hS (lv_sub hl [] rfl) hf)
  replace hf := ze_s cn_ hf
  clear cn_
  refine lv_aload_n (pc := 23) hx hb (zdt_at zt_X9_deriveBytes_0 13 rfl) rfl (lv_at hl 0 rfl) ?_
  refine va_get (pc := 24) (D := D) (ci := 11) (v := .ref h0_message) (C := RX9) (T := TX9) (N := 19) hx hb hts hcX9 hown hK hP 0 rfl rfl 13 (by decide) hw1 (fun _ h9 => h9) rfl (zdt_at zt_X9_deriveBytes_0 14 rfl) ?_
  refine lv_iconst (pc := 27) (v := (0 : Int32)) hx hb (zdt_at zt_X9_deriveBytes_0 15 rfl) (by decide) ?_
  refine lv_iload (pc := 28) hx hb (zdt_at zt_X9_deriveBytes_0 16 rfl) (lv_at hl 4 rfl) ?_
  refine lv_bipush (pc := 30) (v := (32 : Int32)) hx hb (zdt_at zt_X9_deriveBytes_0 17 rfl) (by decide) ?_
  replace hf := zk_s hf
  refine lv_idiv (pc := 32) hx hb (zdt_at zt_X9_deriveBytes_0 18 rfl) hf.1 ?_
  replace hf := hf.2
  refine lv_iconst (pc := 33) (v := (1 : Int32)) hx hb (zdt_at zt_X9_deriveBytes_0 19 rfl) (by decide) ?_
  refine lv_iadd (pc := 34) hx hb (zdt_at zt_X9_deriveBytes_0 20 rfl) ?_
  replace hf := zb_s hf
  obtain ⟨c_message_21, hc_, hf⟩ := hf
  refine zcnQ (pc := 35) (X := [(h0, .inr (11, [.ref h0_buffer, .ref h0_slots, .ref h0_counters, .ref h0_officerPin, .ref h0_userPin, .ref h0_words, .ref h0_sha, .ref h0_stream, .ref h0_aes, .ref h0_modes, .ref h0_gcm, .ref h0_generator, .ref h0_tests, .ref h0_message, .ref h0_secret, .int c_state, .int c_testsDone, .int c_faults, .int c_streamBegun])), (h0_buffer, .inl (cy 0, 512, .inl c_buffer)), (h0_message, .inl (cy 0, 68, .inl c_message_3)), (h0_secret, .inl (cy 0, 80, .inl c_secret_4)), (h0_sha, .inr (9, [.ref h0_sha_sums, .ref h0_sha_schedule, .ref h0_sha_inner, .int c_sha_filled_5, .int c_sha_total_9])), (h0_sha_inner, .inl (cy 0, 32, .inl c_sha_inner_6)), (h0_sha_schedule, .inl (cy 1, 64, .inl c_sha_schedule_7)), (h0_sha_sums, .inl (cy 1, 8, .inl c_sha_sums_8))]) (rv := none) (va_runS (As := [.ref h0_message, .int (0 : Int32), .int ((i_2 / (32 : Int32)) + (1 : Int32))]) (rest := []) ⟨hx, hb, hml, hown, hts⟩ (c_X9_putInt l D cy tt H.size h0_message 68 (0 : Int32) ((i_2 / (32 : Int32)) + (1 : Int32)) c_message_3 c_message_21 hc_) (va_cwS 3 hts gX9_deriveBytes_X9_putInt rfl rfl rfl (by decide +kernel) ⟨Nat.le_of_ble_eq_true rfl, Nat.le_of_ble_eq_true rfl⟩) ⟨zblind, zpre hE hS (hP.sub [2] rfl) (hD.sub [2] (by decide) rfl) (va_free hD hS hA [2] rfl)⟩ rfl rfl hl.1 rfl (lv_room (Nat.le_of_ble_eq_true rfl)) (zdt_at zt_X9_deriveBytes_0 21 rfl) ⟨Nat.zero_le _, Nat.zero_le _⟩) hS hP hD (va_free hD hS hA [2] rfl) [2] rfl (by decide) rfl rfl ?_
  clear hP hD hS hc_
  intro H locs hP hD hS
  replace hP : va_P D vwCl ([(h0, .inr (11, [.ref h0_buffer, .ref h0_slots, .ref h0_counters, .ref h0_officerPin, .ref h0_userPin, .ref h0_words, .ref h0_sha, .ref h0_stream, .ref h0_aes, .ref h0_modes, .ref h0_gcm, .ref h0_generator, .ref h0_tests, .ref h0_message, .ref h0_secret, .int c_state, .int c_testsDone, .int c_faults, .int c_streamBegun])), (h0_buffer, .inl (cy 0, 512, .inl c_buffer)), (h0_message, .inl (cy 0, 68, .inl c_message_21)), (h0_secret, .inl (cy 0, 80, .inl c_secret_4)), (h0_sha, .inr (9, [.ref h0_sha_sums, .ref h0_sha_schedule, .ref h0_sha_inner, .int c_sha_filled_5, .int c_sha_total_9])), (h0_sha_inner, .inl (cy 0, 32, .inl c_sha_inner_6)), (h0_sha_schedule, .inl (cy 1, 64, .inl c_sha_schedule_7)), (h0_sha_sums, .inl (cy 1, 8, .inl c_sha_sums_8))] ++ zpl (cy 0) hP_o hP_k cP_kind cP_length cP_usage cP_role cP_uses cPK) H := hP
  replace hD : va_D A ([(h0, .inr (11, [.ref h0_buffer, .ref h0_slots, .ref h0_counters, .ref h0_officerPin, .ref h0_userPin, .ref h0_words, .ref h0_sha, .ref h0_stream, .ref h0_aes, .ref h0_modes, .ref h0_gcm, .ref h0_generator, .ref h0_tests, .ref h0_message, .ref h0_secret, .int c_state, .int c_testsDone, .int c_faults, .int c_streamBegun])), (h0_buffer, .inl (cy 0, 512, .inl c_buffer)), (h0_message, .inl (cy 0, 68, .inl c_message_21)), (h0_secret, .inl (cy 0, 80, .inl c_secret_4)), (h0_sha, .inr (9, [.ref h0_sha_sums, .ref h0_sha_schedule, .ref h0_sha_inner, .int c_sha_filled_5, .int c_sha_total_9])), (h0_sha_inner, .inl (cy 0, 32, .inl c_sha_inner_6)), (h0_sha_schedule, .inl (cy 1, 64, .inl c_sha_schedule_7)), (h0_sha_sums, .inl (cy 1, 8, .inl c_sha_sums_8))] ++ zpl (cy 0) hP_o hP_k cP_kind cP_length cP_usage cP_role cP_uses cPK) := hD
  refine W.eq (g2 := F0 m 38 ls []) rfl ?_
  refine lv_aload_n (pc := 38) hx hb (zdt_at zt_X9_deriveBytes_0 22 rfl) rfl (lv_at hl 0 rfl) ?_
  refine va_get (pc := 39) (D := D) (ci := 11) (v := .ref h0_sha) (C := RX9) (T := TX9) (N := 19) hx hb hts hcX9 hown hK hP 0 rfl rfl 6 (by decide) hw6 (fun _ h9 => h9) rfl (zdt_at zt_X9_deriveBytes_0 23 rfl) ?_
  refine lv_aload_n (pc := 42) hx hb (zdt_at zt_X9_deriveBytes_0 24 rfl) rfl (lv_at hl 1 rfl) ?_
  refine va_get (pc := 43) (D := D) (ci := 10) (v := .ref (hP_k j1)) (C := RX8) (T := TX8) (N := 6) hx hb hts hcX8 hown hK hP (8 + j1) (zplO_get (X := [(h0, .inr (11, [.ref h0_buffer, .ref h0_slots, .ref h0_counters, .ref h0_officerPin, .ref h0_userPin, .ref h0_words, .ref h0_sha, .ref h0_stream, .ref h0_aes, .ref h0_modes, .ref h0_gcm, .ref h0_generator, .ref h0_tests, .ref h0_message, .ref h0_secret, .int c_state, .int c_testsDone, .int c_faults, .int c_streamBegun])), (h0_buffer, .inl (cy 0, 512, .inl c_buffer)), (h0_message, .inl (cy 0, 68, .inl c_message_21)), (h0_secret, .inl (cy 0, 80, .inl c_secret_4)), (h0_sha, .inr (9, [.ref h0_sha_sums, .ref h0_sha_schedule, .ref h0_sha_inner, .int c_sha_filled_5, .int c_sha_total_9])), (h0_sha_inner, .inl (cy 0, 32, .inl c_sha_inner_6)), (h0_sha_schedule, .inl (cy 1, 64, .inl c_sha_schedule_7)), (h0_sha_sums, .inl (cy 1, 8, .inl c_sha_sums_8))]) (n := 8) rfl hj_j1) rfl 0 (by decide) hw7 (fun _ h9 => h9) rfl (zdt_at zt_X9_deriveBytes_0 25 rfl) ?_
  refine lv_aload_n (pc := 46) hx hb (zdt_at zt_X9_deriveBytes_0 26 rfl) rfl (lv_at hl 1 rfl) ?_
  refine va_get (pc := 47) (D := D) (ci := 10) (v := .int (cP_length j1)) (C := RX8) (T := TX8) (N := 6) hx hb hts hcX8 hown hK hP (8 + j1) (zplO_get (X := [(h0, .inr (11, [.ref h0_buffer, .ref h0_slots, .ref h0_counters, .ref h0_officerPin, .ref h0_userPin, .ref h0_words, .ref h0_sha, .ref h0_stream, .ref h0_aes, .ref h0_modes, .ref h0_gcm, .ref h0_generator, .ref h0_tests, .ref h0_message, .ref h0_secret, .int c_state, .int c_testsDone, .int c_faults, .int c_streamBegun])), (h0_buffer, .inl (cy 0, 512, .inl c_buffer)), (h0_message, .inl (cy 0, 68, .inl c_message_21)), (h0_secret, .inl (cy 0, 80, .inl c_secret_4)), (h0_sha, .inr (9, [.ref h0_sha_sums, .ref h0_sha_schedule, .ref h0_sha_inner, .int c_sha_filled_5, .int c_sha_total_9])), (h0_sha_inner, .inl (cy 0, 32, .inl c_sha_inner_6)), (h0_sha_schedule, .inl (cy 1, 64, .inl c_sha_schedule_7)), (h0_sha_sums, .inl (cy 1, 8, .inl c_sha_sums_8))]) (n := 8) rfl hj_j1) rfl 2 (by decide) hw8 (fun _ h9 => h9) rfl (zdt_at zt_X9_deriveBytes_0 27 rfl) ?_
  refine lv_aload_n (pc := 50) hx hb (zdt_at zt_X9_deriveBytes_0 28 rfl) rfl (lv_at hl 0 rfl) ?_
  refine va_get (pc := 51) (D := D) (ci := 11) (v := .ref h0_message) (C := RX9) (T := TX9) (N := 19) hx hb hts hcX9 hown hK hP 0 rfl rfl 13 (by decide) hw1 (fun _ h9 => h9) rfl (zdt_at zt_X9_deriveBytes_0 29 rfl) ?_
  refine lv_iconst (pc := 54) (v := (0 : Int32)) hx hb (zdt_at zt_X9_deriveBytes_0 30 rfl) (by decide) ?_
  refine lv_iconst (pc := 55) (v := (4 : Int32)) hx hb (zdt_at zt_X9_deriveBytes_0 31 rfl) (by decide) ?_
  refine lv_iload_n (pc := 56) hx hb (zdt_at zt_X9_deriveBytes_0 32 rfl) rfl (lv_at hl 3 rfl) ?_
  refine lv_iadd (pc := 57) hx hb (zdt_at zt_X9_deriveBytes_0 33 rfl) ?_
  refine lv_aload_n (pc := 58) hx hb (zdt_at zt_X9_deriveBytes_0 34 rfl) rfl (lv_at hl 0 rfl) ?_
  refine va_get (pc := 59) (D := D) (ci := 11) (v := .ref h0_secret) (C := RX9) (T := TX9) (N := 19) hx hb hts hcX9 hown hK hP 0 rfl rfl 14 (by decide) hw9 (fun _ h9 => h9) rfl (zdt_at zt_X9_deriveBytes_0 35 rfl) ?_
  refine lv_iload (pc := 62) hx hb (zdt_at zt_X9_deriveBytes_0 36 rfl) (lv_at hl 4 rfl) ?_
  replace hf := zb_s hf
  obtain ⟨⟨c_sha_filled_22, c_sha_total_23, c_sha_inner_24, c_sha_schedule_25, c_sha_sums_26, c_secret_27⟩, hc_, hf⟩ := hf
  refine zcnP (pc := 64) (X := [(h0, .inr (11, [.ref h0_buffer, .ref h0_slots, .ref h0_counters, .ref h0_officerPin, .ref h0_userPin, .ref h0_words, .ref h0_sha, .ref h0_stream, .ref h0_aes, .ref h0_modes, .ref h0_gcm, .ref h0_generator, .ref h0_tests, .ref h0_message, .ref h0_secret, .int c_state, .int c_testsDone, .int c_faults, .int c_streamBegun])), (h0_buffer, .inl (cy 0, 512, .inl c_buffer)), (h0_message, .inl (cy 0, 68, .inl c_message_21)), (h0_secret, .inl (cy 0, 80, .inl c_secret_4)), (h0_sha, .inr (9, [.ref h0_sha_sums, .ref h0_sha_schedule, .ref h0_sha_inner, .int c_sha_filled_5, .int c_sha_total_9])), (h0_sha_inner, .inl (cy 0, 32, .inl c_sha_inner_6)), (h0_sha_schedule, .inl (cy 1, 64, .inl c_sha_schedule_7)), (h0_sha_sums, .inl (cy 1, 8, .inl c_sha_sums_8))]) (rv := none) (va_runV (As := [.ref (hP_k j1), .int (cP_length j1), .ref h0_message, .int (0 : Int32), .int ((4 : Int32) + p3), .ref h0_secret, .int i_2]) (rest := []) ⟨hx, hb, hml, hown, hts⟩ (c_X7_mac_1PK l D cy tt H.size h0_sha h0_sha_sums h0_sha_schedule h0_sha_inner h0_message h0_secret hP_o hP_k 68 80 j1 (cP_length j1) (0 : Int32) ((4 : Int32) + p3) i_2 c_sha_filled_5 c_sha_total_9 c_sha_inner_6 c_sha_schedule_7 c_sha_sums_8 c_message_21 c_secret_4 cPK cP_kind cP_length cP_usage cP_role cP_uses c_sha_filled_22 c_sha_total_23 c_sha_inner_24 c_sha_schedule_25 c_sha_sums_26 c_secret_27 hj_j1 hc_) (cwV 7 hts gX9_deriveBytes_X7_mac rfl rfl rfl (by decide +kernel) ⟨Nat.le_of_ble_eq_true rfl, Nat.le_of_ble_eq_true rfl⟩) ⟨zblind, va_recv hK hP (ci := 9) (q0 := 4) rfl rfl, zpre hE hS (va_P.part (X := [(h0, .inr (11, [.ref h0_buffer, .ref h0_slots, .ref h0_counters, .ref h0_officerPin, .ref h0_userPin, .ref h0_words, .ref h0_sha, .ref h0_stream, .ref h0_aes, .ref h0_modes, .ref h0_gcm, .ref h0_generator, .ref h0_tests, .ref h0_message, .ref h0_secret, .int c_state, .int c_testsDone, .int c_faults, .int c_streamBegun])), (h0_buffer, .inl (cy 0, 512, .inl c_buffer)), (h0_message, .inl (cy 0, 68, .inl c_message_21)), (h0_secret, .inl (cy 0, 80, .inl c_secret_4)), (h0_sha, .inr (9, [.ref h0_sha_sums, .ref h0_sha_schedule, .ref h0_sha_inner, .int c_sha_filled_5, .int c_sha_total_9])), (h0_sha_inner, .inl (cy 0, 32, .inl c_sha_inner_6)), (h0_sha_schedule, .inl (cy 1, 64, .inl c_sha_schedule_7)), (h0_sha_sums, .inl (cy 1, 8, .inl c_sha_sums_8))]) hP [4, 5, 6, 7, 2, 3] rfl) (va_D.part (X := [(h0, .inr (11, [.ref h0_buffer, .ref h0_slots, .ref h0_counters, .ref h0_officerPin, .ref h0_userPin, .ref h0_words, .ref h0_sha, .ref h0_stream, .ref h0_aes, .ref h0_modes, .ref h0_gcm, .ref h0_generator, .ref h0_tests, .ref h0_message, .ref h0_secret, .int c_state, .int c_testsDone, .int c_faults, .int c_streamBegun])), (h0_buffer, .inl (cy 0, 512, .inl c_buffer)), (h0_message, .inl (cy 0, 68, .inl c_message_21)), (h0_secret, .inl (cy 0, 80, .inl c_secret_4)), (h0_sha, .inr (9, [.ref h0_sha_sums, .ref h0_sha_schedule, .ref h0_sha_inner, .int c_sha_filled_5, .int c_sha_total_9])), (h0_sha_inner, .inl (cy 0, 32, .inl c_sha_inner_6)), (h0_sha_schedule, .inl (cy 1, 64, .inl c_sha_schedule_7)), (h0_sha_sums, .inl (cy 1, 8, .inl c_sha_sums_8))]) hD [4, 5, 6, 7, 2, 3] (by decide) rfl) (va_freeP (X := [(h0, .inr (11, [.ref h0_buffer, .ref h0_slots, .ref h0_counters, .ref h0_officerPin, .ref h0_userPin, .ref h0_words, .ref h0_sha, .ref h0_stream, .ref h0_aes, .ref h0_modes, .ref h0_gcm, .ref h0_generator, .ref h0_tests, .ref h0_message, .ref h0_secret, .int c_state, .int c_testsDone, .int c_faults, .int c_streamBegun])), (h0_buffer, .inl (cy 0, 512, .inl c_buffer)), (h0_message, .inl (cy 0, 68, .inl c_message_21)), (h0_secret, .inl (cy 0, 80, .inl c_secret_4)), (h0_sha, .inr (9, [.ref h0_sha_sums, .ref h0_sha_schedule, .ref h0_sha_inner, .int c_sha_filled_5, .int c_sha_total_9])), (h0_sha_inner, .inl (cy 0, 32, .inl c_sha_inner_6)), (h0_sha_schedule, .inl (cy 1, 64, .inl c_sha_schedule_7)), (h0_sha_sums, .inl (cy 1, 8, .inl c_sha_sums_8))]) hD hS hA [4, 5, 6, 7, 2, 3] rfl)⟩ rfl rfl hl.1 rfl (lv_room (Nat.le_of_ble_eq_true rfl)) (zdt_at zt_X9_deriveBytes_0 37 rfl) ⟨Nat.zero_le _, Nat.zero_le _⟩) hS hP hD (va_freeP (X := [(h0, .inr (11, [.ref h0_buffer, .ref h0_slots, .ref h0_counters, .ref h0_officerPin, .ref h0_userPin, .ref h0_words, .ref h0_sha, .ref h0_stream, .ref h0_aes, .ref h0_modes, .ref h0_gcm, .ref h0_generator, .ref h0_tests, .ref h0_message, .ref h0_secret, .int c_state, .int c_testsDone, .int c_faults, .int c_streamBegun])), (h0_buffer, .inl (cy 0, 512, .inl c_buffer)), (h0_message, .inl (cy 0, 68, .inl c_message_21)), (h0_secret, .inl (cy 0, 80, .inl c_secret_4)), (h0_sha, .inr (9, [.ref h0_sha_sums, .ref h0_sha_schedule, .ref h0_sha_inner, .int c_sha_filled_5, .int c_sha_total_9])), (h0_sha_inner, .inl (cy 0, 32, .inl c_sha_inner_6)), (h0_sha_schedule, .inl (cy 1, 64, .inl c_sha_schedule_7)), (h0_sha_sums, .inl (cy 1, 8, .inl c_sha_sums_8))]) hD hS hA [4, 5, 6, 7, 2, 3] rfl) [4, 5, 6, 7, 2, 3] rfl (by decide) rfl rfl zpl_adr ?_
  clear hP hD hS hc_
  intro H locs hP hD hS
  replace hP : va_P D vwCl ([(h0, .inr (11, [.ref h0_buffer, .ref h0_slots, .ref h0_counters, .ref h0_officerPin, .ref h0_userPin, .ref h0_words, .ref h0_sha, .ref h0_stream, .ref h0_aes, .ref h0_modes, .ref h0_gcm, .ref h0_generator, .ref h0_tests, .ref h0_message, .ref h0_secret, .int c_state, .int c_testsDone, .int c_faults, .int c_streamBegun])), (h0_buffer, .inl (cy 0, 512, .inl c_buffer)), (h0_message, .inl (cy 0, 68, .inl c_message_21)), (h0_secret, .inl (cy 0, 80, .inl c_secret_27)), (h0_sha, .inr (9, [.ref h0_sha_sums, .ref h0_sha_schedule, .ref h0_sha_inner, .int c_sha_filled_22, .int c_sha_total_23])), (h0_sha_inner, .inl (cy 0, 32, .inl c_sha_inner_24)), (h0_sha_schedule, .inl (cy 1, 64, .inl c_sha_schedule_25)), (h0_sha_sums, .inl (cy 1, 8, .inl c_sha_sums_26))] ++ zpl (cy 0) hP_o hP_k cP_kind cP_length cP_usage cP_role cP_uses cPK) H := hP
  replace hD : va_D A ([(h0, .inr (11, [.ref h0_buffer, .ref h0_slots, .ref h0_counters, .ref h0_officerPin, .ref h0_userPin, .ref h0_words, .ref h0_sha, .ref h0_stream, .ref h0_aes, .ref h0_modes, .ref h0_gcm, .ref h0_generator, .ref h0_tests, .ref h0_message, .ref h0_secret, .int c_state, .int c_testsDone, .int c_faults, .int c_streamBegun])), (h0_buffer, .inl (cy 0, 512, .inl c_buffer)), (h0_message, .inl (cy 0, 68, .inl c_message_21)), (h0_secret, .inl (cy 0, 80, .inl c_secret_27)), (h0_sha, .inr (9, [.ref h0_sha_sums, .ref h0_sha_schedule, .ref h0_sha_inner, .int c_sha_filled_22, .int c_sha_total_23])), (h0_sha_inner, .inl (cy 0, 32, .inl c_sha_inner_24)), (h0_sha_schedule, .inl (cy 1, 64, .inl c_sha_schedule_25)), (h0_sha_sums, .inl (cy 1, 8, .inl c_sha_sums_26))] ++ zpl (cy 0) hP_o hP_k cP_kind cP_length cP_usage cP_role cP_uses cPK) := hD
  refine W.eq (g2 := F0 m 67 ls []) rfl ?_
  refine lv_iinc (pc := 67) (v := (i_2 + (32 : Int32))) (lv' := [(4, .int (i_2 + (32 : Int32))), (0, .ref h0), (1, .ref (hP_o j1)), (2, .int p2), (3, .int p3)]) hx hb (zdt_at zt_X9_deriveBytes_0 38 rfl) hl (k := 4) rfl rfl (by decide) rfl ?_
  clear hl
  intro ls hl
  refine lv_goto (pc := 70) (tgt := 17) hx hb (zdt_at zt_X9_deriveBytes_0 39 rfl) (by decide) ?_
  exact hTo _ _ _ (ihself_18 _ hf H locs ls hP hD hS (lv_sub hl [1, 2, 3, 4, 0] rfl))
set_option maxHeartbeats 4000000 in
set_option maxRecDepth 100000 in
theorem c_X9_derive (l : Launch) (D : va_G) (cy : Nat → ClassId) (tt : Nat → Nat) (sz : Nat) (h0 : Nat) (h0_buffer : Nat) (h0_slots : Nat) (h0_counters : Nat) (h0_officerPin : Nat) (h0_userPin : Nat) (h0_words : Nat) (h0_sha : Nat) (h0_stream : Nat) (h0_aes : Nat) (h0_modes : Nat) (h0_gcm : Nat) (h0_generator : Nat) (h0_tests : Nat) (h0_message : Nat) (h0_secret : Nat) (h0_sha_sums : Nat) (h0_sha_schedule : Nat) (h0_sha_inner : Nat) (hP_o : Nat → Nat) (hP_k : Nat → Nat) (p1 : Int32) (p2 : Int32) (p3 : Int32) (p4 : Int32) (p5 : Int32) (p6 : Int32) (c_state : Int32) (c_buffer : Nat → Int32) (c_counters : Nat → Int32) (c_message : Nat → Int32) (c_secret : Nat → Int32) (c_sha_filled : Int32) (c_sha_total : Int32) (c_sha_inner : Nat → Int32) (c_sha_schedule : Nat → Int32) (c_sha_sums : Nat → Int32) (cP_kind : Nat → Int32) (cP_length : Nat → Int32) (cP_role : Nat → Int32) (cP_usage : Nat → Int32) (cP_uses : Nat → Int32) (cPK : Nat → Nat → Int32) (c_testsDone : Int32) (c_faults : Int32) (c_streamBegun : Int32) (r_ : Int32) (c_counters' : Nat → Int32) (c_message' : Nat → Int32) (c_secret' : Nat → Int32) (c_sha_filled' : Int32) (c_sha_total' : Int32) (c_sha_inner' : Nat → Int32) (c_sha_schedule' : Nat → Int32) (c_sha_sums' : Nat → Int32) (cP_kind' : Nat → Int32) (cP_length' : Nat → Int32) (cP_role' : Nat → Int32) (cP_usage' : Nat → Int32) (cP_uses' : Nat → Int32) (cPK' : Nat → Nat → Int32) (hf : f_X9_derive p1 p2 p3 p4 p5 p6 c_state c_buffer c_counters c_message c_secret c_sha_filled c_sha_total c_sha_inner c_sha_schedule c_sha_sums cP_kind cP_length cP_role cP_usage cP_uses cPK = some (r_, c_counters', c_message', c_secret', c_sha_filled', c_sha_total', c_sha_inner', c_sha_schedule', c_sha_sums', cP_kind', cP_length', cP_role', cP_usage', cP_uses', cPK')) : Met l yX9_derive wsX9_derive ({ frames := 5, cells := 0, slots := 0, locals := 135 }) (zPc D cy tt sz [.ref h0, .int p1, .int p2, .int p3, .int p4, .int p5, .int p6] ([(h0, .inr (11, [.ref h0_buffer, .ref h0_slots, .ref h0_counters, .ref h0_officerPin, .ref h0_userPin, .ref h0_words, .ref h0_sha, .ref h0_stream, .ref h0_aes, .ref h0_modes, .ref h0_gcm, .ref h0_generator, .ref h0_tests, .ref h0_message, .ref h0_secret, .int c_state, .int c_testsDone, .int c_faults, .int c_streamBegun])), (h0_buffer, .inl (cy 0, 512, .inl c_buffer)), (h0_counters, .inl (cy 1, 3, .inl c_counters)), (h0_message, .inl (cy 0, 68, .inl c_message)), (h0_secret, .inl (cy 0, 80, .inl c_secret)), (h0_sha, .inr (9, [.ref h0_sha_sums, .ref h0_sha_schedule, .ref h0_sha_inner, .int c_sha_filled, .int c_sha_total])), (h0_sha_inner, .inl (cy 0, 32, .inl c_sha_inner)), (h0_sha_schedule, .inl (cy 1, 64, .inl c_sha_schedule)), (h0_sha_sums, .inl (cy 1, 8, .inl c_sha_sums)), (h0_slots, .inl (cy 4, 16, .inr (.inr (.inr (.inr (fun j => some (hP_o j)))))))] ++ zpl (cy 0) hP_o hP_k cP_kind cP_length cP_usage cP_role cP_uses cPK)) (zQ D (some (.int r_)) ([(h0, .inr (11, [.ref h0_buffer, .ref h0_slots, .ref h0_counters, .ref h0_officerPin, .ref h0_userPin, .ref h0_words, .ref h0_sha, .ref h0_stream, .ref h0_aes, .ref h0_modes, .ref h0_gcm, .ref h0_generator, .ref h0_tests, .ref h0_message, .ref h0_secret, .int c_state, .int c_testsDone, .int c_faults, .int c_streamBegun])), (h0_buffer, .inl (cy 0, 512, .inl c_buffer)), (h0_counters, .inl (cy 1, 3, .inl c_counters')), (h0_message, .inl (cy 0, 68, .inl c_message')), (h0_secret, .inl (cy 0, 80, .inl c_secret')), (h0_sha, .inr (9, [.ref h0_sha_sums, .ref h0_sha_schedule, .ref h0_sha_inner, .int c_sha_filled', .int c_sha_total'])), (h0_sha_inner, .inl (cy 0, 32, .inl c_sha_inner')), (h0_sha_schedule, .inl (cy 1, 64, .inl c_sha_schedule')), (h0_sha_sums, .inl (cy 1, 8, .inl c_sha_sums')), (h0_slots, .inl (cy 4, 16, .inr (.inr (.inr (.inr (fun j => some (hP_o j)))))))] ++ zpl (cy 0) hP_o hP_k cP_kind' cP_length' cP_usage' cP_role' cP_uses' cPK') (va_A ([(h0, .inr (11, [.ref h0_buffer, .ref h0_slots, .ref h0_counters, .ref h0_officerPin, .ref h0_userPin, .ref h0_words, .ref h0_sha, .ref h0_stream, .ref h0_aes, .ref h0_modes, .ref h0_gcm, .ref h0_generator, .ref h0_tests, .ref h0_message, .ref h0_secret, .int c_state, .int c_testsDone, .int c_faults, .int c_streamBegun])), (h0_buffer, .inl (cy 0, 512, .inl c_buffer)), (h0_counters, .inl (cy 1, 3, .inl c_counters)), (h0_message, .inl (cy 0, 68, .inl c_message)), (h0_secret, .inl (cy 0, 80, .inl c_secret)), (h0_sha, .inr (9, [.ref h0_sha_sums, .ref h0_sha_schedule, .ref h0_sha_inner, .int c_sha_filled, .int c_sha_total])), (h0_sha_inner, .inl (cy 0, 32, .inl c_sha_inner)), (h0_sha_schedule, .inl (cy 1, 64, .inl c_sha_schedule)), (h0_sha_sums, .inl (cy 1, 8, .inl c_sha_sums)), (h0_slots, .inl (cy 4, 16, .inr (.inr (.inr (.inr (fun j => some (hP_o j)))))))] ++ zpl (cy 0) hP_o hP_k cP_kind cP_length cP_usage cP_role cP_uses cPK) sz)) 0 0 (va_A ([(h0, .inr (11, [.ref h0_buffer, .ref h0_slots, .ref h0_counters, .ref h0_officerPin, .ref h0_userPin, .ref h0_words, .ref h0_sha, .ref h0_stream, .ref h0_aes, .ref h0_modes, .ref h0_gcm, .ref h0_generator, .ref h0_tests, .ref h0_message, .ref h0_secret, .int c_state, .int c_testsDone, .int c_faults, .int c_streamBegun])), (h0_buffer, .inl (cy 0, 512, .inl c_buffer)), (h0_counters, .inl (cy 1, 3, .inl c_counters)), (h0_message, .inl (cy 0, 68, .inl c_message)), (h0_secret, .inl (cy 0, 80, .inl c_secret)), (h0_sha, .inr (9, [.ref h0_sha_sums, .ref h0_sha_schedule, .ref h0_sha_inner, .int c_sha_filled, .int c_sha_total])), (h0_sha_inner, .inl (cy 0, 32, .inl c_sha_inner)), (h0_sha_schedule, .inl (cy 1, 64, .inl c_sha_schedule)), (h0_sha_sums, .inl (cy 1, 8, .inl c_sha_sums)), (h0_slots, .inl (cy 4, 16, .inr (.inr (.inr (.inr (fun j => some (hP_o j)))))))] ++ zpl (cy 0) hP_o hP_k cP_kind cP_length cP_usage cP_role cP_uses cPK) sz) := by
  refine Met.ofW (cc := cX9_derive) (maxL := 8) (ret := (some .int)) (by decide) rfl ?_
  intro p e s m args below meth c s₁ B hml hv
  obtain ⟨rfl, rfl, hP, hD0, hE⟩ := hv
  have hx := B.exec
  have hb := B.bytes
  have hr := B.returns
  have hts := atoms_spec (ws := wsX9_derive) B.pre
  have hown : s.vm.findClass RX9 = some m.cls := findClass_of_methodNamed B.named
  have hlocks := B.notSynchronized
  clear B
  have hD := hD0.self (sz := s.heap.size)
  generalize hAe : va_A ([(h0, .inr (11, [.ref h0_buffer, .ref h0_slots, .ref h0_counters, .ref h0_officerPin, .ref h0_userPin, .ref h0_words, .ref h0_sha, .ref h0_stream, .ref h0_aes, .ref h0_modes, .ref h0_gcm, .ref h0_generator, .ref h0_tests, .ref h0_message, .ref h0_secret, .int c_state, .int c_testsDone, .int c_faults, .int c_streamBegun])), (h0_buffer, .inl (cy 0, 512, .inl c_buffer)), (h0_counters, .inl (cy 1, 3, .inl c_counters)), (h0_message, .inl (cy 0, 68, .inl c_message)), (h0_secret, .inl (cy 0, 80, .inl c_secret)), (h0_sha, .inr (9, [.ref h0_sha_sums, .ref h0_sha_schedule, .ref h0_sha_inner, .int c_sha_filled, .int c_sha_total])), (h0_sha_inner, .inl (cy 0, 32, .inl c_sha_inner)), (h0_sha_schedule, .inl (cy 1, 64, .inl c_sha_schedule)), (h0_sha_sums, .inl (cy 1, 8, .inl c_sha_sums)), (h0_slots, .inl (cy 4, 16, .inr (.inr (.inr (.inr (fun j => some (hP_o j)))))))] ++ zpl (cy 0) hP_o hP_k cP_kind cP_length cP_usage cP_role cP_uses cPK) s.heap.size = A at hD hE ⊢
  have hA : ∀ q : Nat, s.heap.size ≤ q → A q := fun q h => by rw [← hAe]; exact Or.inr h
  clear hAe hD0
  have hS : va_S A s.heap s.heap [] := va_S.rf
  have hK := hE.1
  have hw0 := hts (.fieldLink RX9 15 "SealedModule" "slots" "[LSealedModule$Slot;") (by decide +kernel)
  have hw1 := hts (.fieldLink RX9 98 "SealedModule" "secret" "[B") (by decide +kernel)
  have hcX9 : ∀ w ∈ u_ws RX9 TX9 19, w ∈ wsX9_derive := (fun _ h => List.mem_cons_of_mem _ (List.mem_append_left _ (List.mem_append_left _ (List.mem_append_left _ (List.mem_append_right _ h)))))
  have hl := lv_entry ([.ref h0, .int p1, .int p2, .int p3, .int p4, .int p5, .int p6]) (n := 8) (Nat.le_of_ble_eq_true rfl)
  rw [lg_entry_eq]
  generalize (lg_sl ([.ref h0, .int p1, .int p2, .int p3, .int p4, .int p5, .int p6]) ++ List.replicate (8 - (lg_sl ([.ref h0, .int p1, .int p2, .int p3, .int p4, .int p5, .int p6])).length) Slot.unset).toArray = ls at hl ⊢
  replace hl : lv_has ls 8 [(0, .ref h0), (1, .int p1), (2, .int p2), (3, .int p3), (4, .int p4), (5, .int p5), (6, .int p6)] := hl
  unfold f_X9_derive at hf
  refine zgo (fun GW hTo hFr => ?_)
  refine hFr _ _ _ ?_
  obtain ⟨H, hHe⟩ : ∃ H, H = s.heap := ⟨_, rfl⟩
  obtain ⟨locs, hLe⟩ : ∃ L : List Loc, L = [] := ⟨_, rfl⟩
  rw [← hHe] at hP
  replace hS : va_S A s.heap H locs := by rw [hHe, hLe]; exact hS
  refine zat hHe.symm hLe.symm ?_
  clear hHe hLe
  refine lv_aload_n (pc := 0) hx hb (zdt_at zt_X9_derive_0 0 rfl) rfl (lv_at hl 0 rfl) ?_
  refine lv_iload_n (pc := 1) hx hb (zdt_at zt_X9_derive_0 1 rfl) rfl (lv_at hl 1 rfl) ?_
  refine lv_iload_n (pc := 2) hx hb (zdt_at zt_X9_derive_0 2 rfl) rfl (lv_at hl 2 rfl) ?_
  refine lv_iload_n (pc := 3) hx hb (zdt_at zt_X9_derive_0 3 rfl) rfl (lv_at hl 3 rfl) ?_
  refine lv_iload (pc := 4) hx hb (zdt_at zt_X9_derive_0 4 rfl) (lv_at hl 4 rfl) ?_
  refine lv_iload (pc := 6) hx hb (zdt_at zt_X9_derive_0 5 rfl) (lv_at hl 5 rfl) ?_
  refine lv_iload (pc := 8) hx hb (zdt_at zt_X9_derive_0 6 rfl) (lv_at hl 6 rfl) ?_
  replace hf := zb_s hf
  obtain ⟨r_1, hc_, hf⟩ := hf
  refine zcs (pc := 10) (rv := (some (.int r_1))) (va_runV (As := [.int p1, .int p2, .int p3, .int p4, .int p5, .int p6]) (rest := []) ⟨hx, hb, hml, hown, hts⟩ (c_X9_deriveRefusal l D cy tt H.size h0 h0_buffer h0_slots h0_counters h0_officerPin h0_userPin h0_words h0_sha h0_stream h0_aes h0_modes h0_gcm h0_generator h0_tests h0_message h0_secret hP_o hP_k p1 p2 p3 p4 p5 p6 c_state cP_kind cP_role cP_usage cP_uses c_testsDone c_faults c_streamBegun cP_length cPK r_1 hc_) (cwV 6 hts gX9_derive_X9_deriveRefusal rfl rfl rfl (by decide +kernel) ⟨Nat.le_of_ble_eq_true rfl, Nat.le_of_ble_eq_true rfl⟩) ⟨zblind, va_recv hK hP (ci := 11) (q0 := 0) rfl rfl, zpre hE hS (va_P.part (X := [(h0, .inr (11, [.ref h0_buffer, .ref h0_slots, .ref h0_counters, .ref h0_officerPin, .ref h0_userPin, .ref h0_words, .ref h0_sha, .ref h0_stream, .ref h0_aes, .ref h0_modes, .ref h0_gcm, .ref h0_generator, .ref h0_tests, .ref h0_message, .ref h0_secret, .int c_state, .int c_testsDone, .int c_faults, .int c_streamBegun])), (h0_buffer, .inl (cy 0, 512, .inl c_buffer)), (h0_counters, .inl (cy 1, 3, .inl c_counters)), (h0_message, .inl (cy 0, 68, .inl c_message)), (h0_secret, .inl (cy 0, 80, .inl c_secret)), (h0_sha, .inr (9, [.ref h0_sha_sums, .ref h0_sha_schedule, .ref h0_sha_inner, .int c_sha_filled, .int c_sha_total])), (h0_sha_inner, .inl (cy 0, 32, .inl c_sha_inner)), (h0_sha_schedule, .inl (cy 1, 64, .inl c_sha_schedule)), (h0_sha_sums, .inl (cy 1, 8, .inl c_sha_sums)), (h0_slots, .inl (cy 4, 16, .inr (.inr (.inr (.inr (fun j => some (hP_o j)))))))]) hP [0, 9] rfl) (va_D.part (X := [(h0, .inr (11, [.ref h0_buffer, .ref h0_slots, .ref h0_counters, .ref h0_officerPin, .ref h0_userPin, .ref h0_words, .ref h0_sha, .ref h0_stream, .ref h0_aes, .ref h0_modes, .ref h0_gcm, .ref h0_generator, .ref h0_tests, .ref h0_message, .ref h0_secret, .int c_state, .int c_testsDone, .int c_faults, .int c_streamBegun])), (h0_buffer, .inl (cy 0, 512, .inl c_buffer)), (h0_counters, .inl (cy 1, 3, .inl c_counters)), (h0_message, .inl (cy 0, 68, .inl c_message)), (h0_secret, .inl (cy 0, 80, .inl c_secret)), (h0_sha, .inr (9, [.ref h0_sha_sums, .ref h0_sha_schedule, .ref h0_sha_inner, .int c_sha_filled, .int c_sha_total])), (h0_sha_inner, .inl (cy 0, 32, .inl c_sha_inner)), (h0_sha_schedule, .inl (cy 1, 64, .inl c_sha_schedule)), (h0_sha_sums, .inl (cy 1, 8, .inl c_sha_sums)), (h0_slots, .inl (cy 4, 16, .inr (.inr (.inr (.inr (fun j => some (hP_o j)))))))]) hD [0, 9] (by decide) rfl) (va_freeP (X := [(h0, .inr (11, [.ref h0_buffer, .ref h0_slots, .ref h0_counters, .ref h0_officerPin, .ref h0_userPin, .ref h0_words, .ref h0_sha, .ref h0_stream, .ref h0_aes, .ref h0_modes, .ref h0_gcm, .ref h0_generator, .ref h0_tests, .ref h0_message, .ref h0_secret, .int c_state, .int c_testsDone, .int c_faults, .int c_streamBegun])), (h0_buffer, .inl (cy 0, 512, .inl c_buffer)), (h0_counters, .inl (cy 1, 3, .inl c_counters)), (h0_message, .inl (cy 0, 68, .inl c_message)), (h0_secret, .inl (cy 0, 80, .inl c_secret)), (h0_sha, .inr (9, [.ref h0_sha_sums, .ref h0_sha_schedule, .ref h0_sha_inner, .int c_sha_filled, .int c_sha_total])), (h0_sha_inner, .inl (cy 0, 32, .inl c_sha_inner)), (h0_sha_schedule, .inl (cy 1, 64, .inl c_sha_schedule)), (h0_sha_sums, .inl (cy 1, 8, .inl c_sha_sums)), (h0_slots, .inl (cy 4, 16, .inr (.inr (.inr (.inr (fun j => some (hP_o j)))))))]) hD hS hA [0, 9] rfl)⟩ rfl rfl hl.1 rfl (lv_room (Nat.le_of_ble_eq_true rfl)) (zdt_at zt_X9_derive_0 7 rfl) ⟨Nat.zero_le _, Nat.zero_le _⟩) ?_
  clear hc_
  refine W.eq (g2 := F0 m 13 ls [.int r_1]) rfl ?_
  refine lv_istore (pc := 13) (lv' := [(7, .int r_1), (0, .ref h0), (1, .int p1), (2, .int p2), (3, .int p3), (4, .int p4), (5, .int p5), (6, .int p6)]) hx hb (zdt_at zt_X9_derive_0 8 rfl) hl (by decide) rfl ?_
  clear hl
  intro ls hl
  refine lv_iload (pc := 15) hx hb (zdt_at zt_X9_derive_0 9 rfl) (lv_at hl 0 rfl) ?_
  refine lv_if_ne (pc := 17) (tgt := 71) hx hb (zdt_at zt_X9_derive_0 10 rfl) (by decide) (fun cn_ => ?t_2) (fun cn_ => ?f_3)
  case t_2 =>
    replace hf := ze_s cn_ hf
    clear cn_
    refine lv_aload_n (pc := 71) hx hb (zdt_at zt_X9_derive_0 40 rfl) rfl (lv_at hl 1 rfl) ?_
    refine lv_iload (pc := 72) hx hb (zdt_at zt_X9_derive_0 41 rfl) (lv_at hl 0 rfl) ?_
    replace hf := zb_s hf
    obtain ⟨⟨r_4, c_counters_5⟩, hc_, hf⟩ := hf
    refine zcnQ (pc := 74) (X := [(h0, .inr (11, [.ref h0_buffer, .ref h0_slots, .ref h0_counters, .ref h0_officerPin, .ref h0_userPin, .ref h0_words, .ref h0_sha, .ref h0_stream, .ref h0_aes, .ref h0_modes, .ref h0_gcm, .ref h0_generator, .ref h0_tests, .ref h0_message, .ref h0_secret, .int c_state, .int c_testsDone, .int c_faults, .int c_streamBegun])), (h0_buffer, .inl (cy 0, 512, .inl c_buffer)), (h0_counters, .inl (cy 1, 3, .inl c_counters)), (h0_message, .inl (cy 0, 68, .inl c_message)), (h0_secret, .inl (cy 0, 80, .inl c_secret)), (h0_sha, .inr (9, [.ref h0_sha_sums, .ref h0_sha_schedule, .ref h0_sha_inner, .int c_sha_filled, .int c_sha_total])), (h0_sha_inner, .inl (cy 0, 32, .inl c_sha_inner)), (h0_sha_schedule, .inl (cy 1, 64, .inl c_sha_schedule)), (h0_sha_sums, .inl (cy 1, 8, .inl c_sha_sums)), (h0_slots, .inl (cy 4, 16, .inr (.inr (.inr (.inr (fun j => some (hP_o j)))))))]) (rv := (some (.int r_4))) (va_runV (As := [.int r_1]) (rest := []) ⟨hx, hb, hml, hown, hts⟩ (c_X9_counted l D cy tt H.size h0 h0_buffer h0_slots h0_counters h0_officerPin h0_userPin h0_words h0_sha h0_stream h0_aes h0_modes h0_gcm h0_generator h0_tests h0_message h0_secret r_1 c_counters c_state c_testsDone c_faults c_streamBegun r_4 c_counters_5 hc_) (cwV 1 hts gX9_derive_X9_counted rfl rfl rfl (by decide +kernel) ⟨Nat.le_of_ble_eq_true rfl, Nat.le_of_ble_eq_true rfl⟩) ⟨zblind, va_recv hK hP (ci := 11) (q0 := 0) rfl rfl, zpre hE hS (hP.sub [0, 2] rfl) (hD.sub [0, 2] (by decide) rfl) (va_free hD hS hA [0, 2] rfl)⟩ rfl rfl hl.1 rfl (lv_room (Nat.le_of_ble_eq_true rfl)) (zdt_at zt_X9_derive_0 42 rfl) ⟨Nat.zero_le _, Nat.zero_le _⟩) hS hP hD (va_free hD hS hA [0, 2] rfl) [0, 2] rfl (by decide) rfl rfl ?_
    clear hP hD hS hc_
    intro H locs hP hD hS
    replace hP : va_P D vwCl ([(h0, .inr (11, [.ref h0_buffer, .ref h0_slots, .ref h0_counters, .ref h0_officerPin, .ref h0_userPin, .ref h0_words, .ref h0_sha, .ref h0_stream, .ref h0_aes, .ref h0_modes, .ref h0_gcm, .ref h0_generator, .ref h0_tests, .ref h0_message, .ref h0_secret, .int c_state, .int c_testsDone, .int c_faults, .int c_streamBegun])), (h0_buffer, .inl (cy 0, 512, .inl c_buffer)), (h0_counters, .inl (cy 1, 3, .inl c_counters_5)), (h0_message, .inl (cy 0, 68, .inl c_message)), (h0_secret, .inl (cy 0, 80, .inl c_secret)), (h0_sha, .inr (9, [.ref h0_sha_sums, .ref h0_sha_schedule, .ref h0_sha_inner, .int c_sha_filled, .int c_sha_total])), (h0_sha_inner, .inl (cy 0, 32, .inl c_sha_inner)), (h0_sha_schedule, .inl (cy 1, 64, .inl c_sha_schedule)), (h0_sha_sums, .inl (cy 1, 8, .inl c_sha_sums)), (h0_slots, .inl (cy 4, 16, .inr (.inr (.inr (.inr (fun j => some (hP_o j)))))))] ++ zpl (cy 0) hP_o hP_k cP_kind cP_length cP_usage cP_role cP_uses cPK) H := hP
    replace hD : va_D A ([(h0, .inr (11, [.ref h0_buffer, .ref h0_slots, .ref h0_counters, .ref h0_officerPin, .ref h0_userPin, .ref h0_words, .ref h0_sha, .ref h0_stream, .ref h0_aes, .ref h0_modes, .ref h0_gcm, .ref h0_generator, .ref h0_tests, .ref h0_message, .ref h0_secret, .int c_state, .int c_testsDone, .int c_faults, .int c_streamBegun])), (h0_buffer, .inl (cy 0, 512, .inl c_buffer)), (h0_counters, .inl (cy 1, 3, .inl c_counters_5)), (h0_message, .inl (cy 0, 68, .inl c_message)), (h0_secret, .inl (cy 0, 80, .inl c_secret)), (h0_sha, .inr (9, [.ref h0_sha_sums, .ref h0_sha_schedule, .ref h0_sha_inner, .int c_sha_filled, .int c_sha_total])), (h0_sha_inner, .inl (cy 0, 32, .inl c_sha_inner)), (h0_sha_schedule, .inl (cy 1, 64, .inl c_sha_schedule)), (h0_sha_sums, .inl (cy 1, 8, .inl c_sha_sums)), (h0_slots, .inl (cy 4, 16, .inr (.inr (.inr (.inr (fun j => some (hP_o j)))))))] ++ zpl (cy 0) hP_o hP_k cP_kind cP_length cP_usage cP_role cP_uses cPK) := hD
    refine W.eq (g2 := F0 m 77 ls [.int r_4]) rfl ?_
    cases hf
    exact W.iret (pc := 77) hx hb hr (fun t ht hW => ⟨rfl, ⟨by rw [ht]; exact hP, hD⟩, hS.F ht⟩) hS.2.2 (zdt_at zt_X9_derive_0 43 rfl)
  replace hf := zt_s cn_ hf
  clear cn_
  refine lv_aload_n (pc := 20) hx hb (zdt_at zt_X9_derive_0 11 rfl) rfl (lv_at hl 1 rfl) ?_
  refine va_get (pc := 21) (D := D) (ci := 11) (v := .ref h0_slots) (C := RX9) (T := TX9) (N := 19) hx hb hts hcX9 hown hK hP 0 rfl rfl 1 (by decide) hw0 (fun _ h9 => h9) rfl (zdt_at zt_X9_derive_0 12 rfl) ?_
  refine lv_iload_n (pc := 24) hx hb (zdt_at zt_X9_derive_0 13 rfl) rfl (lv_at hl 3 rfl) ?_
  replace hf := zk_s hf
  have hj_6 : p2.toNatClampNeg < 16 := Nat.not_le.mp fun q => hf.1 (Or.inr q)
  refine va_aldq (pc := 25) (C := RX8) hx hb hK hP 9 4 rfl rfl hf.1 (zdt_at zt_X9_derive_0 14 rfl) ?_
  replace hf := hf.2
  replace hf := zb_s hf
  obtain ⟨cP_uses_7, hc_, hf⟩ := hf
  refine zcnP (pc := 26) (X := [(h0, .inr (11, [.ref h0_buffer, .ref h0_slots, .ref h0_counters, .ref h0_officerPin, .ref h0_userPin, .ref h0_words, .ref h0_sha, .ref h0_stream, .ref h0_aes, .ref h0_modes, .ref h0_gcm, .ref h0_generator, .ref h0_tests, .ref h0_message, .ref h0_secret, .int c_state, .int c_testsDone, .int c_faults, .int c_streamBegun])), (h0_buffer, .inl (cy 0, 512, .inl c_buffer)), (h0_counters, .inl (cy 1, 3, .inl c_counters)), (h0_message, .inl (cy 0, 68, .inl c_message)), (h0_secret, .inl (cy 0, 80, .inl c_secret)), (h0_sha, .inr (9, [.ref h0_sha_sums, .ref h0_sha_schedule, .ref h0_sha_inner, .int c_sha_filled, .int c_sha_total])), (h0_sha_inner, .inl (cy 0, 32, .inl c_sha_inner)), (h0_sha_schedule, .inl (cy 1, 64, .inl c_sha_schedule)), (h0_sha_sums, .inl (cy 1, 8, .inl c_sha_sums)), (h0_slots, .inl (cy 4, 16, .inr (.inr (.inr (.inr (fun j => some (hP_o j)))))))]) (rv := none) (va_runV (As := []) (rest := []) ⟨hx, hb, hml, hown, hts⟩ (c_X8_takeUse l D cy tt H.size hP_o hP_k p2.toNatClampNeg cP_uses cP_kind cP_length cP_usage cP_role cPK cP_uses_7 hj_6 hc_) (cwV 0 hts gX9_derive_X8_takeUse rfl rfl rfl (by decide +kernel) ⟨Nat.le_of_ble_eq_true rfl, Nat.le_of_ble_eq_true rfl⟩) ⟨zblind, va_recv hK hP (ci := 10) (q0 := (10 + p2.toNatClampNeg)) rfl (zplO_get (X := [(h0, .inr (11, [.ref h0_buffer, .ref h0_slots, .ref h0_counters, .ref h0_officerPin, .ref h0_userPin, .ref h0_words, .ref h0_sha, .ref h0_stream, .ref h0_aes, .ref h0_modes, .ref h0_gcm, .ref h0_generator, .ref h0_tests, .ref h0_message, .ref h0_secret, .int c_state, .int c_testsDone, .int c_faults, .int c_streamBegun])), (h0_buffer, .inl (cy 0, 512, .inl c_buffer)), (h0_counters, .inl (cy 1, 3, .inl c_counters)), (h0_message, .inl (cy 0, 68, .inl c_message)), (h0_secret, .inl (cy 0, 80, .inl c_secret)), (h0_sha, .inr (9, [.ref h0_sha_sums, .ref h0_sha_schedule, .ref h0_sha_inner, .int c_sha_filled, .int c_sha_total])), (h0_sha_inner, .inl (cy 0, 32, .inl c_sha_inner)), (h0_sha_schedule, .inl (cy 1, 64, .inl c_sha_schedule)), (h0_sha_sums, .inl (cy 1, 8, .inl c_sha_sums)), (h0_slots, .inl (cy 4, 16, .inr (.inr (.inr (.inr (fun j => some (hP_o j)))))))]) (n := 10) rfl hj_6), zpre hE hS (va_P.part (X := [(h0, .inr (11, [.ref h0_buffer, .ref h0_slots, .ref h0_counters, .ref h0_officerPin, .ref h0_userPin, .ref h0_words, .ref h0_sha, .ref h0_stream, .ref h0_aes, .ref h0_modes, .ref h0_gcm, .ref h0_generator, .ref h0_tests, .ref h0_message, .ref h0_secret, .int c_state, .int c_testsDone, .int c_faults, .int c_streamBegun])), (h0_buffer, .inl (cy 0, 512, .inl c_buffer)), (h0_counters, .inl (cy 1, 3, .inl c_counters)), (h0_message, .inl (cy 0, 68, .inl c_message)), (h0_secret, .inl (cy 0, 80, .inl c_secret)), (h0_sha, .inr (9, [.ref h0_sha_sums, .ref h0_sha_schedule, .ref h0_sha_inner, .int c_sha_filled, .int c_sha_total])), (h0_sha_inner, .inl (cy 0, 32, .inl c_sha_inner)), (h0_sha_schedule, .inl (cy 1, 64, .inl c_sha_schedule)), (h0_sha_sums, .inl (cy 1, 8, .inl c_sha_sums)), (h0_slots, .inl (cy 4, 16, .inr (.inr (.inr (.inr (fun j => some (hP_o j)))))))]) hP [] rfl) (va_D.part (X := [(h0, .inr (11, [.ref h0_buffer, .ref h0_slots, .ref h0_counters, .ref h0_officerPin, .ref h0_userPin, .ref h0_words, .ref h0_sha, .ref h0_stream, .ref h0_aes, .ref h0_modes, .ref h0_gcm, .ref h0_generator, .ref h0_tests, .ref h0_message, .ref h0_secret, .int c_state, .int c_testsDone, .int c_faults, .int c_streamBegun])), (h0_buffer, .inl (cy 0, 512, .inl c_buffer)), (h0_counters, .inl (cy 1, 3, .inl c_counters)), (h0_message, .inl (cy 0, 68, .inl c_message)), (h0_secret, .inl (cy 0, 80, .inl c_secret)), (h0_sha, .inr (9, [.ref h0_sha_sums, .ref h0_sha_schedule, .ref h0_sha_inner, .int c_sha_filled, .int c_sha_total])), (h0_sha_inner, .inl (cy 0, 32, .inl c_sha_inner)), (h0_sha_schedule, .inl (cy 1, 64, .inl c_sha_schedule)), (h0_sha_sums, .inl (cy 1, 8, .inl c_sha_sums)), (h0_slots, .inl (cy 4, 16, .inr (.inr (.inr (.inr (fun j => some (hP_o j)))))))]) hD [] (by decide) rfl) (va_freeP (X := [(h0, .inr (11, [.ref h0_buffer, .ref h0_slots, .ref h0_counters, .ref h0_officerPin, .ref h0_userPin, .ref h0_words, .ref h0_sha, .ref h0_stream, .ref h0_aes, .ref h0_modes, .ref h0_gcm, .ref h0_generator, .ref h0_tests, .ref h0_message, .ref h0_secret, .int c_state, .int c_testsDone, .int c_faults, .int c_streamBegun])), (h0_buffer, .inl (cy 0, 512, .inl c_buffer)), (h0_counters, .inl (cy 1, 3, .inl c_counters)), (h0_message, .inl (cy 0, 68, .inl c_message)), (h0_secret, .inl (cy 0, 80, .inl c_secret)), (h0_sha, .inr (9, [.ref h0_sha_sums, .ref h0_sha_schedule, .ref h0_sha_inner, .int c_sha_filled, .int c_sha_total])), (h0_sha_inner, .inl (cy 0, 32, .inl c_sha_inner)), (h0_sha_schedule, .inl (cy 1, 64, .inl c_sha_schedule)), (h0_sha_sums, .inl (cy 1, 8, .inl c_sha_sums)), (h0_slots, .inl (cy 4, 16, .inr (.inr (.inr (.inr (fun j => some (hP_o j)))))))]) hD hS hA [] rfl)⟩ rfl rfl hl.1 rfl (lv_room (Nat.le_of_ble_eq_true rfl)) (zdt_at zt_X9_derive_0 15 rfl) ⟨Nat.zero_le _, Nat.zero_le _⟩) hS hP hD (va_freeP (X := [(h0, .inr (11, [.ref h0_buffer, .ref h0_slots, .ref h0_counters, .ref h0_officerPin, .ref h0_userPin, .ref h0_words, .ref h0_sha, .ref h0_stream, .ref h0_aes, .ref h0_modes, .ref h0_gcm, .ref h0_generator, .ref h0_tests, .ref h0_message, .ref h0_secret, .int c_state, .int c_testsDone, .int c_faults, .int c_streamBegun])), (h0_buffer, .inl (cy 0, 512, .inl c_buffer)), (h0_counters, .inl (cy 1, 3, .inl c_counters)), (h0_message, .inl (cy 0, 68, .inl c_message)), (h0_secret, .inl (cy 0, 80, .inl c_secret)), (h0_sha, .inr (9, [.ref h0_sha_sums, .ref h0_sha_schedule, .ref h0_sha_inner, .int c_sha_filled, .int c_sha_total])), (h0_sha_inner, .inl (cy 0, 32, .inl c_sha_inner)), (h0_sha_schedule, .inl (cy 1, 64, .inl c_sha_schedule)), (h0_sha_sums, .inl (cy 1, 8, .inl c_sha_sums)), (h0_slots, .inl (cy 4, 16, .inr (.inr (.inr (.inr (fun j => some (hP_o j)))))))]) hD hS hA [] rfl) [] rfl (by decide) rfl rfl zpl_adr ?_
  clear hP hD hS hc_
  intro H locs hP hD hS
  replace hP : va_P D vwCl ([(h0, .inr (11, [.ref h0_buffer, .ref h0_slots, .ref h0_counters, .ref h0_officerPin, .ref h0_userPin, .ref h0_words, .ref h0_sha, .ref h0_stream, .ref h0_aes, .ref h0_modes, .ref h0_gcm, .ref h0_generator, .ref h0_tests, .ref h0_message, .ref h0_secret, .int c_state, .int c_testsDone, .int c_faults, .int c_streamBegun])), (h0_buffer, .inl (cy 0, 512, .inl c_buffer)), (h0_counters, .inl (cy 1, 3, .inl c_counters)), (h0_message, .inl (cy 0, 68, .inl c_message)), (h0_secret, .inl (cy 0, 80, .inl c_secret)), (h0_sha, .inr (9, [.ref h0_sha_sums, .ref h0_sha_schedule, .ref h0_sha_inner, .int c_sha_filled, .int c_sha_total])), (h0_sha_inner, .inl (cy 0, 32, .inl c_sha_inner)), (h0_sha_schedule, .inl (cy 1, 64, .inl c_sha_schedule)), (h0_sha_sums, .inl (cy 1, 8, .inl c_sha_sums)), (h0_slots, .inl (cy 4, 16, .inr (.inr (.inr (.inr (fun j => some (hP_o j)))))))] ++ zpl (cy 0) hP_o hP_k cP_kind cP_length cP_usage cP_role cP_uses_7 cPK) H := hP
  replace hD : va_D A ([(h0, .inr (11, [.ref h0_buffer, .ref h0_slots, .ref h0_counters, .ref h0_officerPin, .ref h0_userPin, .ref h0_words, .ref h0_sha, .ref h0_stream, .ref h0_aes, .ref h0_modes, .ref h0_gcm, .ref h0_generator, .ref h0_tests, .ref h0_message, .ref h0_secret, .int c_state, .int c_testsDone, .int c_faults, .int c_streamBegun])), (h0_buffer, .inl (cy 0, 512, .inl c_buffer)), (h0_counters, .inl (cy 1, 3, .inl c_counters)), (h0_message, .inl (cy 0, 68, .inl c_message)), (h0_secret, .inl (cy 0, 80, .inl c_secret)), (h0_sha, .inr (9, [.ref h0_sha_sums, .ref h0_sha_schedule, .ref h0_sha_inner, .int c_sha_filled, .int c_sha_total])), (h0_sha_inner, .inl (cy 0, 32, .inl c_sha_inner)), (h0_sha_schedule, .inl (cy 1, 64, .inl c_sha_schedule)), (h0_sha_sums, .inl (cy 1, 8, .inl c_sha_sums)), (h0_slots, .inl (cy 4, 16, .inr (.inr (.inr (.inr (fun j => some (hP_o j)))))))] ++ zpl (cy 0) hP_o hP_k cP_kind cP_length cP_usage cP_role cP_uses_7 cPK) := hD
  refine W.eq (g2 := F0 m 29 ls []) rfl ?_
  refine lv_aload_n (pc := 29) hx hb (zdt_at zt_X9_derive_0 16 rfl) rfl (lv_at hl 1 rfl) ?_
  refine lv_aload_n (pc := 30) hx hb (zdt_at zt_X9_derive_0 17 rfl) rfl (lv_at hl 1 rfl) ?_
  refine va_get (pc := 31) (D := D) (ci := 11) (v := .ref h0_slots) (C := RX9) (T := TX9) (N := 19) hx hb hts hcX9 hown hK hP 0 rfl rfl 1 (by decide) hw0 (fun _ h9 => h9) rfl (zdt_at zt_X9_derive_0 18 rfl) ?_
  refine lv_iload_n (pc := 34) hx hb (zdt_at zt_X9_derive_0 19 rfl) rfl (lv_at hl 3 rfl) ?_
  replace hf := zk_s hf
  have hj_8 : p2.toNatClampNeg < 16 := Nat.not_le.mp fun q => hf.1 (Or.inr q)
  refine va_aldq (pc := 35) (C := RX8) hx hb hK hP 9 4 rfl rfl hf.1 (zdt_at zt_X9_derive_0 20 rfl) ?_
  replace hf := hf.2
  refine lv_iload (pc := 36) hx hb (zdt_at zt_X9_derive_0 21 rfl) (lv_at hl 6 rfl) ?_
  refine lv_iload (pc := 38) hx hb (zdt_at zt_X9_derive_0 22 rfl) (lv_at hl 7 rfl) ?_
  replace hf := zb_s hf
  obtain ⟨⟨c_message_9, c_secret_10, c_sha_filled_11, c_sha_total_12, c_sha_inner_13, c_sha_schedule_14, c_sha_sums_15⟩, hc_, hf⟩ := hf
  refine zcnP (pc := 40) (X := [(h0, .inr (11, [.ref h0_buffer, .ref h0_slots, .ref h0_counters, .ref h0_officerPin, .ref h0_userPin, .ref h0_words, .ref h0_sha, .ref h0_stream, .ref h0_aes, .ref h0_modes, .ref h0_gcm, .ref h0_generator, .ref h0_tests, .ref h0_message, .ref h0_secret, .int c_state, .int c_testsDone, .int c_faults, .int c_streamBegun])), (h0_buffer, .inl (cy 0, 512, .inl c_buffer)), (h0_counters, .inl (cy 1, 3, .inl c_counters)), (h0_message, .inl (cy 0, 68, .inl c_message)), (h0_secret, .inl (cy 0, 80, .inl c_secret)), (h0_sha, .inr (9, [.ref h0_sha_sums, .ref h0_sha_schedule, .ref h0_sha_inner, .int c_sha_filled, .int c_sha_total])), (h0_sha_inner, .inl (cy 0, 32, .inl c_sha_inner)), (h0_sha_schedule, .inl (cy 1, 64, .inl c_sha_schedule)), (h0_sha_sums, .inl (cy 1, 8, .inl c_sha_sums)), (h0_slots, .inl (cy 4, 16, .inr (.inr (.inr (.inr (fun j => some (hP_o j)))))))]) (rv := none) (va_runV (As := [.ref (hP_o p2.toNatClampNeg), .int p5, .int p6]) (rest := []) ⟨hx, hb, hml, hown, hts⟩ (c_X9_deriveBytes l D cy tt H.size h0 h0_buffer h0_slots h0_counters h0_officerPin h0_userPin h0_words h0_sha h0_stream h0_aes h0_modes h0_gcm h0_generator h0_tests h0_message h0_secret h0_sha_sums h0_sha_schedule h0_sha_inner hP_o hP_k p2.toNatClampNeg p5 p6 c_buffer c_message c_secret c_sha_filled c_sha_total c_sha_inner c_sha_schedule c_sha_sums cP_length cPK c_state c_testsDone c_faults c_streamBegun cP_kind cP_usage cP_role cP_uses_7 c_message_9 c_secret_10 c_sha_filled_11 c_sha_total_12 c_sha_inner_13 c_sha_schedule_14 c_sha_sums_15 hj_8 hc_) (cwV 3 hts gX9_derive_X9_deriveBytes rfl rfl rfl (by decide +kernel) ⟨Nat.le_of_ble_eq_true rfl, Nat.le_of_ble_eq_true rfl⟩) ⟨zblind, va_recv hK hP (ci := 11) (q0 := 0) rfl rfl, zpre hE hS (va_P.part (X := [(h0, .inr (11, [.ref h0_buffer, .ref h0_slots, .ref h0_counters, .ref h0_officerPin, .ref h0_userPin, .ref h0_words, .ref h0_sha, .ref h0_stream, .ref h0_aes, .ref h0_modes, .ref h0_gcm, .ref h0_generator, .ref h0_tests, .ref h0_message, .ref h0_secret, .int c_state, .int c_testsDone, .int c_faults, .int c_streamBegun])), (h0_buffer, .inl (cy 0, 512, .inl c_buffer)), (h0_counters, .inl (cy 1, 3, .inl c_counters)), (h0_message, .inl (cy 0, 68, .inl c_message)), (h0_secret, .inl (cy 0, 80, .inl c_secret)), (h0_sha, .inr (9, [.ref h0_sha_sums, .ref h0_sha_schedule, .ref h0_sha_inner, .int c_sha_filled, .int c_sha_total])), (h0_sha_inner, .inl (cy 0, 32, .inl c_sha_inner)), (h0_sha_schedule, .inl (cy 1, 64, .inl c_sha_schedule)), (h0_sha_sums, .inl (cy 1, 8, .inl c_sha_sums)), (h0_slots, .inl (cy 4, 16, .inr (.inr (.inr (.inr (fun j => some (hP_o j)))))))]) hP [0, 1, 3, 4, 5, 6, 7, 8] rfl) (va_D.part (X := [(h0, .inr (11, [.ref h0_buffer, .ref h0_slots, .ref h0_counters, .ref h0_officerPin, .ref h0_userPin, .ref h0_words, .ref h0_sha, .ref h0_stream, .ref h0_aes, .ref h0_modes, .ref h0_gcm, .ref h0_generator, .ref h0_tests, .ref h0_message, .ref h0_secret, .int c_state, .int c_testsDone, .int c_faults, .int c_streamBegun])), (h0_buffer, .inl (cy 0, 512, .inl c_buffer)), (h0_counters, .inl (cy 1, 3, .inl c_counters)), (h0_message, .inl (cy 0, 68, .inl c_message)), (h0_secret, .inl (cy 0, 80, .inl c_secret)), (h0_sha, .inr (9, [.ref h0_sha_sums, .ref h0_sha_schedule, .ref h0_sha_inner, .int c_sha_filled, .int c_sha_total])), (h0_sha_inner, .inl (cy 0, 32, .inl c_sha_inner)), (h0_sha_schedule, .inl (cy 1, 64, .inl c_sha_schedule)), (h0_sha_sums, .inl (cy 1, 8, .inl c_sha_sums)), (h0_slots, .inl (cy 4, 16, .inr (.inr (.inr (.inr (fun j => some (hP_o j)))))))]) hD [0, 1, 3, 4, 5, 6, 7, 8] (by decide) rfl) (va_freeP (X := [(h0, .inr (11, [.ref h0_buffer, .ref h0_slots, .ref h0_counters, .ref h0_officerPin, .ref h0_userPin, .ref h0_words, .ref h0_sha, .ref h0_stream, .ref h0_aes, .ref h0_modes, .ref h0_gcm, .ref h0_generator, .ref h0_tests, .ref h0_message, .ref h0_secret, .int c_state, .int c_testsDone, .int c_faults, .int c_streamBegun])), (h0_buffer, .inl (cy 0, 512, .inl c_buffer)), (h0_counters, .inl (cy 1, 3, .inl c_counters)), (h0_message, .inl (cy 0, 68, .inl c_message)), (h0_secret, .inl (cy 0, 80, .inl c_secret)), (h0_sha, .inr (9, [.ref h0_sha_sums, .ref h0_sha_schedule, .ref h0_sha_inner, .int c_sha_filled, .int c_sha_total])), (h0_sha_inner, .inl (cy 0, 32, .inl c_sha_inner)), (h0_sha_schedule, .inl (cy 1, 64, .inl c_sha_schedule)), (h0_sha_sums, .inl (cy 1, 8, .inl c_sha_sums)), (h0_slots, .inl (cy 4, 16, .inr (.inr (.inr (.inr (fun j => some (hP_o j)))))))]) hD hS hA [0, 1, 3, 4, 5, 6, 7, 8] rfl)⟩ rfl rfl hl.1 rfl (lv_room (Nat.le_of_ble_eq_true rfl)) (zdt_at zt_X9_derive_0 23 rfl) ⟨Nat.zero_le _, Nat.zero_le _⟩) hS hP hD (va_freeP (X := [(h0, .inr (11, [.ref h0_buffer, .ref h0_slots, .ref h0_counters, .ref h0_officerPin, .ref h0_userPin, .ref h0_words, .ref h0_sha, .ref h0_stream, .ref h0_aes, .ref h0_modes, .ref h0_gcm, .ref h0_generator, .ref h0_tests, .ref h0_message, .ref h0_secret, .int c_state, .int c_testsDone, .int c_faults, .int c_streamBegun])), (h0_buffer, .inl (cy 0, 512, .inl c_buffer)), (h0_counters, .inl (cy 1, 3, .inl c_counters)), (h0_message, .inl (cy 0, 68, .inl c_message)), (h0_secret, .inl (cy 0, 80, .inl c_secret)), (h0_sha, .inr (9, [.ref h0_sha_sums, .ref h0_sha_schedule, .ref h0_sha_inner, .int c_sha_filled, .int c_sha_total])), (h0_sha_inner, .inl (cy 0, 32, .inl c_sha_inner)), (h0_sha_schedule, .inl (cy 1, 64, .inl c_sha_schedule)), (h0_sha_sums, .inl (cy 1, 8, .inl c_sha_sums)), (h0_slots, .inl (cy 4, 16, .inr (.inr (.inr (.inr (fun j => some (hP_o j)))))))]) hD hS hA [0, 1, 3, 4, 5, 6, 7, 8] rfl) [0, 1, 3, 4, 5, 6, 7, 8] rfl (by decide) rfl rfl zpl_adr ?_
  clear hP hD hS hc_
  intro H locs hP hD hS
  replace hP : va_P D vwCl ([(h0, .inr (11, [.ref h0_buffer, .ref h0_slots, .ref h0_counters, .ref h0_officerPin, .ref h0_userPin, .ref h0_words, .ref h0_sha, .ref h0_stream, .ref h0_aes, .ref h0_modes, .ref h0_gcm, .ref h0_generator, .ref h0_tests, .ref h0_message, .ref h0_secret, .int c_state, .int c_testsDone, .int c_faults, .int c_streamBegun])), (h0_buffer, .inl (cy 0, 512, .inl c_buffer)), (h0_counters, .inl (cy 1, 3, .inl c_counters)), (h0_message, .inl (cy 0, 68, .inl c_message_9)), (h0_secret, .inl (cy 0, 80, .inl c_secret_10)), (h0_sha, .inr (9, [.ref h0_sha_sums, .ref h0_sha_schedule, .ref h0_sha_inner, .int c_sha_filled_11, .int c_sha_total_12])), (h0_sha_inner, .inl (cy 0, 32, .inl c_sha_inner_13)), (h0_sha_schedule, .inl (cy 1, 64, .inl c_sha_schedule_14)), (h0_sha_sums, .inl (cy 1, 8, .inl c_sha_sums_15)), (h0_slots, .inl (cy 4, 16, .inr (.inr (.inr (.inr (fun j => some (hP_o j)))))))] ++ zpl (cy 0) hP_o hP_k cP_kind cP_length cP_usage cP_role cP_uses_7 cPK) H := hP
  replace hD : va_D A ([(h0, .inr (11, [.ref h0_buffer, .ref h0_slots, .ref h0_counters, .ref h0_officerPin, .ref h0_userPin, .ref h0_words, .ref h0_sha, .ref h0_stream, .ref h0_aes, .ref h0_modes, .ref h0_gcm, .ref h0_generator, .ref h0_tests, .ref h0_message, .ref h0_secret, .int c_state, .int c_testsDone, .int c_faults, .int c_streamBegun])), (h0_buffer, .inl (cy 0, 512, .inl c_buffer)), (h0_counters, .inl (cy 1, 3, .inl c_counters)), (h0_message, .inl (cy 0, 68, .inl c_message_9)), (h0_secret, .inl (cy 0, 80, .inl c_secret_10)), (h0_sha, .inr (9, [.ref h0_sha_sums, .ref h0_sha_schedule, .ref h0_sha_inner, .int c_sha_filled_11, .int c_sha_total_12])), (h0_sha_inner, .inl (cy 0, 32, .inl c_sha_inner_13)), (h0_sha_schedule, .inl (cy 1, 64, .inl c_sha_schedule_14)), (h0_sha_sums, .inl (cy 1, 8, .inl c_sha_sums_15)), (h0_slots, .inl (cy 4, 16, .inr (.inr (.inr (.inr (fun j => some (hP_o j)))))))] ++ zpl (cy 0) hP_o hP_k cP_kind cP_length cP_usage cP_role cP_uses_7 cPK) := hD
  refine W.eq (g2 := F0 m 43 ls []) rfl ?_
  refine lv_aload_n (pc := 43) hx hb (zdt_at zt_X9_derive_0 24 rfl) rfl (lv_at hl 1 rfl) ?_
  refine va_get (pc := 44) (D := D) (ci := 11) (v := .ref h0_slots) (C := RX9) (T := TX9) (N := 19) hx hb hts hcX9 hown hK hP 0 rfl rfl 1 (by decide) hw0 (fun _ h9 => h9) rfl (zdt_at zt_X9_derive_0 25 rfl) ?_
  refine lv_iload_n (pc := 47) hx hb (zdt_at zt_X9_derive_0 26 rfl) rfl (lv_at hl 2 rfl) ?_
  replace hf := zk_s hf
  have hj_16 : p1.toNatClampNeg < 16 := Nat.not_le.mp fun q => hf.1 (Or.inr q)
  refine va_aldq (pc := 48) (C := RX8) hx hb hK hP 9 4 rfl rfl hf.1 (zdt_at zt_X9_derive_0 27 rfl) ?_
  replace hf := hf.2
  refine lv_iload_n (pc := 49) hx hb (zdt_at zt_X9_derive_0 28 rfl) rfl (lv_at hl 4 rfl) ?_
  refine lv_iload (pc := 50) hx hb (zdt_at zt_X9_derive_0 29 rfl) (lv_at hl 5 rfl) ?_
  refine lv_aload_n (pc := 52) hx hb (zdt_at zt_X9_derive_0 30 rfl) rfl (lv_at hl 1 rfl) ?_
  replace hf := zb_s hf
  obtain ⟨r_17, hc_, hf⟩ := hf
  refine zcs (pc := 53) (rv := (some (.int r_17))) (va_runV (As := []) (rest := [.int p4, .int p3, .ref (hP_o p1.toNatClampNeg)]) ⟨hx, hb, hml, hown, hts⟩ (c_X9_holder l D cy tt H.size h0 h0_buffer h0_slots h0_counters h0_officerPin h0_userPin h0_words h0_sha h0_stream h0_aes h0_modes h0_gcm h0_generator h0_tests h0_message h0_secret c_state c_testsDone c_faults c_streamBegun r_17 hc_) (cwV 0 hts gX9_derive_X9_holder rfl rfl rfl (by decide +kernel) ⟨Nat.le_of_ble_eq_true rfl, Nat.le_of_ble_eq_true rfl⟩) ⟨zblind, va_recv hK hP (ci := 11) (q0 := 0) rfl rfl, zpre hE hS (hP.sub [0] rfl) (hD.sub [0] (by decide) rfl) (va_free hD hS hA [0] rfl)⟩ rfl rfl hl.1 rfl (lv_room (Nat.le_of_ble_eq_true rfl)) (zdt_at zt_X9_derive_0 31 rfl) ⟨Nat.zero_le _, Nat.zero_le _⟩) ?_
  clear hc_
  refine W.eq (g2 := F0 m 56 ls [.int r_17, .int p4, .int p3, .ref (hP_o p1.toNatClampNeg)]) rfl ?_
  refine lv_iconst (pc := 56) (v := (-1 : Int32)) hx hb (zdt_at zt_X9_derive_0 32 rfl) (by decide) ?_
  refine lv_aload_n (pc := 57) hx hb (zdt_at zt_X9_derive_0 33 rfl) rfl (lv_at hl 1 rfl) ?_
  refine va_get (pc := 58) (D := D) (ci := 11) (v := .ref h0_secret) (C := RX9) (T := TX9) (N := 19) hx hb hts hcX9 hown hK hP 0 rfl rfl 14 (by decide) hw1 (fun _ h9 => h9) rfl (zdt_at zt_X9_derive_0 34 rfl) ?_
  refine lv_iconst (pc := 61) (v := (0 : Int32)) hx hb (zdt_at zt_X9_derive_0 35 rfl) (by decide) ?_
  refine lv_iload (pc := 62) hx hb (zdt_at zt_X9_derive_0 36 rfl) (lv_at hl 6 rfl) ?_
  replace hf := zb_s hf
  obtain ⟨⟨cP_kind_18, cP_length_19, cP_role_20, cP_usage_21, cP_uses_22, cPK_23⟩, hc_, hf⟩ := hf
  refine zcnP (pc := 64) (X := [(h0, .inr (11, [.ref h0_buffer, .ref h0_slots, .ref h0_counters, .ref h0_officerPin, .ref h0_userPin, .ref h0_words, .ref h0_sha, .ref h0_stream, .ref h0_aes, .ref h0_modes, .ref h0_gcm, .ref h0_generator, .ref h0_tests, .ref h0_message, .ref h0_secret, .int c_state, .int c_testsDone, .int c_faults, .int c_streamBegun])), (h0_buffer, .inl (cy 0, 512, .inl c_buffer)), (h0_counters, .inl (cy 1, 3, .inl c_counters)), (h0_message, .inl (cy 0, 68, .inl c_message_9)), (h0_secret, .inl (cy 0, 80, .inl c_secret_10)), (h0_sha, .inr (9, [.ref h0_sha_sums, .ref h0_sha_schedule, .ref h0_sha_inner, .int c_sha_filled_11, .int c_sha_total_12])), (h0_sha_inner, .inl (cy 0, 32, .inl c_sha_inner_13)), (h0_sha_schedule, .inl (cy 1, 64, .inl c_sha_schedule_14)), (h0_sha_sums, .inl (cy 1, 8, .inl c_sha_sums_15)), (h0_slots, .inl (cy 4, 16, .inr (.inr (.inr (.inr (fun j => some (hP_o j)))))))]) (rv := none) (va_runV (As := [.int p3, .int p4, .int r_17, .int (-1 : Int32), .ref h0_secret, .int (0 : Int32), .int p5]) (rest := []) ⟨hx, hb, hml, hown, hts⟩ (c_X8_fill l D cy tt H.size h0_secret hP_o hP_k 80 p1.toNatClampNeg p3 p4 r_17 (-1 : Int32) (0 : Int32) p5 c_secret_10 cP_kind cP_length cP_role cP_usage cP_uses_7 cPK cP_kind_18 cP_length_19 cP_role_20 cP_usage_21 cP_uses_22 cPK_23 hj_16 hc_) (cwV 7 hts gX9_derive_X8_fill rfl rfl rfl (by decide +kernel) ⟨Nat.le_of_ble_eq_true rfl, Nat.le_of_ble_eq_true rfl⟩) ⟨zblind, va_recv hK hP (ci := 10) (q0 := (10 + p1.toNatClampNeg)) rfl (zplO_get (X := [(h0, .inr (11, [.ref h0_buffer, .ref h0_slots, .ref h0_counters, .ref h0_officerPin, .ref h0_userPin, .ref h0_words, .ref h0_sha, .ref h0_stream, .ref h0_aes, .ref h0_modes, .ref h0_gcm, .ref h0_generator, .ref h0_tests, .ref h0_message, .ref h0_secret, .int c_state, .int c_testsDone, .int c_faults, .int c_streamBegun])), (h0_buffer, .inl (cy 0, 512, .inl c_buffer)), (h0_counters, .inl (cy 1, 3, .inl c_counters)), (h0_message, .inl (cy 0, 68, .inl c_message_9)), (h0_secret, .inl (cy 0, 80, .inl c_secret_10)), (h0_sha, .inr (9, [.ref h0_sha_sums, .ref h0_sha_schedule, .ref h0_sha_inner, .int c_sha_filled_11, .int c_sha_total_12])), (h0_sha_inner, .inl (cy 0, 32, .inl c_sha_inner_13)), (h0_sha_schedule, .inl (cy 1, 64, .inl c_sha_schedule_14)), (h0_sha_sums, .inl (cy 1, 8, .inl c_sha_sums_15)), (h0_slots, .inl (cy 4, 16, .inr (.inr (.inr (.inr (fun j => some (hP_o j)))))))]) (n := 10) rfl hj_16), zpre hE hS (va_P.part (X := [(h0, .inr (11, [.ref h0_buffer, .ref h0_slots, .ref h0_counters, .ref h0_officerPin, .ref h0_userPin, .ref h0_words, .ref h0_sha, .ref h0_stream, .ref h0_aes, .ref h0_modes, .ref h0_gcm, .ref h0_generator, .ref h0_tests, .ref h0_message, .ref h0_secret, .int c_state, .int c_testsDone, .int c_faults, .int c_streamBegun])), (h0_buffer, .inl (cy 0, 512, .inl c_buffer)), (h0_counters, .inl (cy 1, 3, .inl c_counters)), (h0_message, .inl (cy 0, 68, .inl c_message_9)), (h0_secret, .inl (cy 0, 80, .inl c_secret_10)), (h0_sha, .inr (9, [.ref h0_sha_sums, .ref h0_sha_schedule, .ref h0_sha_inner, .int c_sha_filled_11, .int c_sha_total_12])), (h0_sha_inner, .inl (cy 0, 32, .inl c_sha_inner_13)), (h0_sha_schedule, .inl (cy 1, 64, .inl c_sha_schedule_14)), (h0_sha_sums, .inl (cy 1, 8, .inl c_sha_sums_15)), (h0_slots, .inl (cy 4, 16, .inr (.inr (.inr (.inr (fun j => some (hP_o j)))))))]) hP [4] rfl) (va_D.part (X := [(h0, .inr (11, [.ref h0_buffer, .ref h0_slots, .ref h0_counters, .ref h0_officerPin, .ref h0_userPin, .ref h0_words, .ref h0_sha, .ref h0_stream, .ref h0_aes, .ref h0_modes, .ref h0_gcm, .ref h0_generator, .ref h0_tests, .ref h0_message, .ref h0_secret, .int c_state, .int c_testsDone, .int c_faults, .int c_streamBegun])), (h0_buffer, .inl (cy 0, 512, .inl c_buffer)), (h0_counters, .inl (cy 1, 3, .inl c_counters)), (h0_message, .inl (cy 0, 68, .inl c_message_9)), (h0_secret, .inl (cy 0, 80, .inl c_secret_10)), (h0_sha, .inr (9, [.ref h0_sha_sums, .ref h0_sha_schedule, .ref h0_sha_inner, .int c_sha_filled_11, .int c_sha_total_12])), (h0_sha_inner, .inl (cy 0, 32, .inl c_sha_inner_13)), (h0_sha_schedule, .inl (cy 1, 64, .inl c_sha_schedule_14)), (h0_sha_sums, .inl (cy 1, 8, .inl c_sha_sums_15)), (h0_slots, .inl (cy 4, 16, .inr (.inr (.inr (.inr (fun j => some (hP_o j)))))))]) hD [4] (by decide) rfl) (va_freeP (X := [(h0, .inr (11, [.ref h0_buffer, .ref h0_slots, .ref h0_counters, .ref h0_officerPin, .ref h0_userPin, .ref h0_words, .ref h0_sha, .ref h0_stream, .ref h0_aes, .ref h0_modes, .ref h0_gcm, .ref h0_generator, .ref h0_tests, .ref h0_message, .ref h0_secret, .int c_state, .int c_testsDone, .int c_faults, .int c_streamBegun])), (h0_buffer, .inl (cy 0, 512, .inl c_buffer)), (h0_counters, .inl (cy 1, 3, .inl c_counters)), (h0_message, .inl (cy 0, 68, .inl c_message_9)), (h0_secret, .inl (cy 0, 80, .inl c_secret_10)), (h0_sha, .inr (9, [.ref h0_sha_sums, .ref h0_sha_schedule, .ref h0_sha_inner, .int c_sha_filled_11, .int c_sha_total_12])), (h0_sha_inner, .inl (cy 0, 32, .inl c_sha_inner_13)), (h0_sha_schedule, .inl (cy 1, 64, .inl c_sha_schedule_14)), (h0_sha_sums, .inl (cy 1, 8, .inl c_sha_sums_15)), (h0_slots, .inl (cy 4, 16, .inr (.inr (.inr (.inr (fun j => some (hP_o j)))))))]) hD hS hA [4] rfl)⟩ rfl rfl hl.1 rfl (lv_room (Nat.le_of_ble_eq_true rfl)) (zdt_at zt_X9_derive_0 37 rfl) ⟨Nat.zero_le _, Nat.zero_le _⟩) hS hP hD (va_freeP (X := [(h0, .inr (11, [.ref h0_buffer, .ref h0_slots, .ref h0_counters, .ref h0_officerPin, .ref h0_userPin, .ref h0_words, .ref h0_sha, .ref h0_stream, .ref h0_aes, .ref h0_modes, .ref h0_gcm, .ref h0_generator, .ref h0_tests, .ref h0_message, .ref h0_secret, .int c_state, .int c_testsDone, .int c_faults, .int c_streamBegun])), (h0_buffer, .inl (cy 0, 512, .inl c_buffer)), (h0_counters, .inl (cy 1, 3, .inl c_counters)), (h0_message, .inl (cy 0, 68, .inl c_message_9)), (h0_secret, .inl (cy 0, 80, .inl c_secret_10)), (h0_sha, .inr (9, [.ref h0_sha_sums, .ref h0_sha_schedule, .ref h0_sha_inner, .int c_sha_filled_11, .int c_sha_total_12])), (h0_sha_inner, .inl (cy 0, 32, .inl c_sha_inner_13)), (h0_sha_schedule, .inl (cy 1, 64, .inl c_sha_schedule_14)), (h0_sha_sums, .inl (cy 1, 8, .inl c_sha_sums_15)), (h0_slots, .inl (cy 4, 16, .inr (.inr (.inr (.inr (fun j => some (hP_o j)))))))]) hD hS hA [4] rfl) [4] rfl (by decide) rfl rfl zpl_adr ?_
  clear hP hD hS hc_
  intro H locs hP hD hS
  replace hP : va_P D vwCl ([(h0, .inr (11, [.ref h0_buffer, .ref h0_slots, .ref h0_counters, .ref h0_officerPin, .ref h0_userPin, .ref h0_words, .ref h0_sha, .ref h0_stream, .ref h0_aes, .ref h0_modes, .ref h0_gcm, .ref h0_generator, .ref h0_tests, .ref h0_message, .ref h0_secret, .int c_state, .int c_testsDone, .int c_faults, .int c_streamBegun])), (h0_buffer, .inl (cy 0, 512, .inl c_buffer)), (h0_counters, .inl (cy 1, 3, .inl c_counters)), (h0_message, .inl (cy 0, 68, .inl c_message_9)), (h0_secret, .inl (cy 0, 80, .inl c_secret_10)), (h0_sha, .inr (9, [.ref h0_sha_sums, .ref h0_sha_schedule, .ref h0_sha_inner, .int c_sha_filled_11, .int c_sha_total_12])), (h0_sha_inner, .inl (cy 0, 32, .inl c_sha_inner_13)), (h0_sha_schedule, .inl (cy 1, 64, .inl c_sha_schedule_14)), (h0_sha_sums, .inl (cy 1, 8, .inl c_sha_sums_15)), (h0_slots, .inl (cy 4, 16, .inr (.inr (.inr (.inr (fun j => some (hP_o j)))))))] ++ zpl (cy 0) hP_o hP_k cP_kind_18 cP_length_19 cP_usage_21 cP_role_20 cP_uses_22 cPK_23) H := hP
  replace hD : va_D A ([(h0, .inr (11, [.ref h0_buffer, .ref h0_slots, .ref h0_counters, .ref h0_officerPin, .ref h0_userPin, .ref h0_words, .ref h0_sha, .ref h0_stream, .ref h0_aes, .ref h0_modes, .ref h0_gcm, .ref h0_generator, .ref h0_tests, .ref h0_message, .ref h0_secret, .int c_state, .int c_testsDone, .int c_faults, .int c_streamBegun])), (h0_buffer, .inl (cy 0, 512, .inl c_buffer)), (h0_counters, .inl (cy 1, 3, .inl c_counters)), (h0_message, .inl (cy 0, 68, .inl c_message_9)), (h0_secret, .inl (cy 0, 80, .inl c_secret_10)), (h0_sha, .inr (9, [.ref h0_sha_sums, .ref h0_sha_schedule, .ref h0_sha_inner, .int c_sha_filled_11, .int c_sha_total_12])), (h0_sha_inner, .inl (cy 0, 32, .inl c_sha_inner_13)), (h0_sha_schedule, .inl (cy 1, 64, .inl c_sha_schedule_14)), (h0_sha_sums, .inl (cy 1, 8, .inl c_sha_sums_15)), (h0_slots, .inl (cy 4, 16, .inr (.inr (.inr (.inr (fun j => some (hP_o j)))))))] ++ zpl (cy 0) hP_o hP_k cP_kind_18 cP_length_19 cP_usage_21 cP_role_20 cP_uses_22 cPK_23) := hD
  refine W.eq (g2 := F0 m 67 ls []) rfl ?_
  refine lv_aload_n (pc := 67) hx hb (zdt_at zt_X9_derive_0 38 rfl) rfl (lv_at hl 1 rfl) ?_
  replace hf := zb_s hf
  obtain ⟨c_secret_24, hc_, hf⟩ := hf
  refine zcnQ (pc := 68) (X := [(h0, .inr (11, [.ref h0_buffer, .ref h0_slots, .ref h0_counters, .ref h0_officerPin, .ref h0_userPin, .ref h0_words, .ref h0_sha, .ref h0_stream, .ref h0_aes, .ref h0_modes, .ref h0_gcm, .ref h0_generator, .ref h0_tests, .ref h0_message, .ref h0_secret, .int c_state, .int c_testsDone, .int c_faults, .int c_streamBegun])), (h0_buffer, .inl (cy 0, 512, .inl c_buffer)), (h0_counters, .inl (cy 1, 3, .inl c_counters)), (h0_message, .inl (cy 0, 68, .inl c_message_9)), (h0_secret, .inl (cy 0, 80, .inl c_secret_10)), (h0_sha, .inr (9, [.ref h0_sha_sums, .ref h0_sha_schedule, .ref h0_sha_inner, .int c_sha_filled_11, .int c_sha_total_12])), (h0_sha_inner, .inl (cy 0, 32, .inl c_sha_inner_13)), (h0_sha_schedule, .inl (cy 1, 64, .inl c_sha_schedule_14)), (h0_sha_sums, .inl (cy 1, 8, .inl c_sha_sums_15)), (h0_slots, .inl (cy 4, 16, .inr (.inr (.inr (.inr (fun j => some (hP_o j)))))))]) (rv := none) (va_runV (As := []) (rest := []) ⟨hx, hb, hml, hown, hts⟩ (c_X9_forgetSecret l D cy tt H.size h0 h0_buffer h0_slots h0_counters h0_officerPin h0_userPin h0_words h0_sha h0_stream h0_aes h0_modes h0_gcm h0_generator h0_tests h0_message h0_secret c_secret_10 c_state c_testsDone c_faults c_streamBegun c_secret_24 hc_) (cwV 0 hts gX9_derive_X9_forgetSecret rfl rfl rfl (by decide +kernel) ⟨Nat.le_of_ble_eq_true rfl, Nat.le_of_ble_eq_true rfl⟩) ⟨zblind, va_recv hK hP (ci := 11) (q0 := 0) rfl rfl, zpre hE hS (hP.sub [0, 4] rfl) (hD.sub [0, 4] (by decide) rfl) (va_free hD hS hA [0, 4] rfl)⟩ rfl rfl hl.1 rfl (lv_room (Nat.le_of_ble_eq_true rfl)) (zdt_at zt_X9_derive_0 39 rfl) ⟨Nat.zero_le _, Nat.zero_le _⟩) hS hP hD (va_free hD hS hA [0, 4] rfl) [0, 4] rfl (by decide) rfl rfl ?_
  clear hP hD hS hc_
  intro H locs hP hD hS
  replace hP : va_P D vwCl ([(h0, .inr (11, [.ref h0_buffer, .ref h0_slots, .ref h0_counters, .ref h0_officerPin, .ref h0_userPin, .ref h0_words, .ref h0_sha, .ref h0_stream, .ref h0_aes, .ref h0_modes, .ref h0_gcm, .ref h0_generator, .ref h0_tests, .ref h0_message, .ref h0_secret, .int c_state, .int c_testsDone, .int c_faults, .int c_streamBegun])), (h0_buffer, .inl (cy 0, 512, .inl c_buffer)), (h0_counters, .inl (cy 1, 3, .inl c_counters)), (h0_message, .inl (cy 0, 68, .inl c_message_9)), (h0_secret, .inl (cy 0, 80, .inl c_secret_24)), (h0_sha, .inr (9, [.ref h0_sha_sums, .ref h0_sha_schedule, .ref h0_sha_inner, .int c_sha_filled_11, .int c_sha_total_12])), (h0_sha_inner, .inl (cy 0, 32, .inl c_sha_inner_13)), (h0_sha_schedule, .inl (cy 1, 64, .inl c_sha_schedule_14)), (h0_sha_sums, .inl (cy 1, 8, .inl c_sha_sums_15)), (h0_slots, .inl (cy 4, 16, .inr (.inr (.inr (.inr (fun j => some (hP_o j)))))))] ++ zpl (cy 0) hP_o hP_k cP_kind_18 cP_length_19 cP_usage_21 cP_role_20 cP_uses_22 cPK_23) H := hP
  replace hD : va_D A ([(h0, .inr (11, [.ref h0_buffer, .ref h0_slots, .ref h0_counters, .ref h0_officerPin, .ref h0_userPin, .ref h0_words, .ref h0_sha, .ref h0_stream, .ref h0_aes, .ref h0_modes, .ref h0_gcm, .ref h0_generator, .ref h0_tests, .ref h0_message, .ref h0_secret, .int c_state, .int c_testsDone, .int c_faults, .int c_streamBegun])), (h0_buffer, .inl (cy 0, 512, .inl c_buffer)), (h0_counters, .inl (cy 1, 3, .inl c_counters)), (h0_message, .inl (cy 0, 68, .inl c_message_9)), (h0_secret, .inl (cy 0, 80, .inl c_secret_24)), (h0_sha, .inr (9, [.ref h0_sha_sums, .ref h0_sha_schedule, .ref h0_sha_inner, .int c_sha_filled_11, .int c_sha_total_12])), (h0_sha_inner, .inl (cy 0, 32, .inl c_sha_inner_13)), (h0_sha_schedule, .inl (cy 1, 64, .inl c_sha_schedule_14)), (h0_sha_sums, .inl (cy 1, 8, .inl c_sha_sums_15)), (h0_slots, .inl (cy 4, 16, .inr (.inr (.inr (.inr (fun j => some (hP_o j)))))))] ++ zpl (cy 0) hP_o hP_k cP_kind_18 cP_length_19 cP_usage_21 cP_role_20 cP_uses_22 cPK_23) := hD
  refine W.eq (g2 := F0 m 71 ls []) rfl ?_
  refine lv_aload_n (pc := 71) hx hb (zdt_at zt_X9_derive_0 40 rfl) rfl (lv_at hl 1 rfl) ?_
  refine lv_iload (pc := 72) hx hb (zdt_at zt_X9_derive_0 41 rfl) (lv_at hl 0 rfl) ?_
  replace hf := zb_s hf
  obtain ⟨⟨r_25, c_counters_26⟩, hc_, hf⟩ := hf
  refine zcnQ (pc := 74) (X := [(h0, .inr (11, [.ref h0_buffer, .ref h0_slots, .ref h0_counters, .ref h0_officerPin, .ref h0_userPin, .ref h0_words, .ref h0_sha, .ref h0_stream, .ref h0_aes, .ref h0_modes, .ref h0_gcm, .ref h0_generator, .ref h0_tests, .ref h0_message, .ref h0_secret, .int c_state, .int c_testsDone, .int c_faults, .int c_streamBegun])), (h0_buffer, .inl (cy 0, 512, .inl c_buffer)), (h0_counters, .inl (cy 1, 3, .inl c_counters)), (h0_message, .inl (cy 0, 68, .inl c_message_9)), (h0_secret, .inl (cy 0, 80, .inl c_secret_24)), (h0_sha, .inr (9, [.ref h0_sha_sums, .ref h0_sha_schedule, .ref h0_sha_inner, .int c_sha_filled_11, .int c_sha_total_12])), (h0_sha_inner, .inl (cy 0, 32, .inl c_sha_inner_13)), (h0_sha_schedule, .inl (cy 1, 64, .inl c_sha_schedule_14)), (h0_sha_sums, .inl (cy 1, 8, .inl c_sha_sums_15)), (h0_slots, .inl (cy 4, 16, .inr (.inr (.inr (.inr (fun j => some (hP_o j)))))))]) (rv := (some (.int r_25))) (va_runV (As := [.int r_1]) (rest := []) ⟨hx, hb, hml, hown, hts⟩ (c_X9_counted l D cy tt H.size h0 h0_buffer h0_slots h0_counters h0_officerPin h0_userPin h0_words h0_sha h0_stream h0_aes h0_modes h0_gcm h0_generator h0_tests h0_message h0_secret r_1 c_counters c_state c_testsDone c_faults c_streamBegun r_25 c_counters_26 hc_) (cwV 1 hts gX9_derive_X9_counted rfl rfl rfl (by decide +kernel) ⟨Nat.le_of_ble_eq_true rfl, Nat.le_of_ble_eq_true rfl⟩) ⟨zblind, va_recv hK hP (ci := 11) (q0 := 0) rfl rfl, zpre hE hS (hP.sub [0, 2] rfl) (hD.sub [0, 2] (by decide) rfl) (va_free hD hS hA [0, 2] rfl)⟩ rfl rfl hl.1 rfl (lv_room (Nat.le_of_ble_eq_true rfl)) (zdt_at zt_X9_derive_0 42 rfl) ⟨Nat.zero_le _, Nat.zero_le _⟩) hS hP hD (va_free hD hS hA [0, 2] rfl) [0, 2] rfl (by decide) rfl rfl ?_
  clear hP hD hS hc_
  intro H locs hP hD hS
  replace hP : va_P D vwCl ([(h0, .inr (11, [.ref h0_buffer, .ref h0_slots, .ref h0_counters, .ref h0_officerPin, .ref h0_userPin, .ref h0_words, .ref h0_sha, .ref h0_stream, .ref h0_aes, .ref h0_modes, .ref h0_gcm, .ref h0_generator, .ref h0_tests, .ref h0_message, .ref h0_secret, .int c_state, .int c_testsDone, .int c_faults, .int c_streamBegun])), (h0_buffer, .inl (cy 0, 512, .inl c_buffer)), (h0_counters, .inl (cy 1, 3, .inl c_counters_26)), (h0_message, .inl (cy 0, 68, .inl c_message_9)), (h0_secret, .inl (cy 0, 80, .inl c_secret_24)), (h0_sha, .inr (9, [.ref h0_sha_sums, .ref h0_sha_schedule, .ref h0_sha_inner, .int c_sha_filled_11, .int c_sha_total_12])), (h0_sha_inner, .inl (cy 0, 32, .inl c_sha_inner_13)), (h0_sha_schedule, .inl (cy 1, 64, .inl c_sha_schedule_14)), (h0_sha_sums, .inl (cy 1, 8, .inl c_sha_sums_15)), (h0_slots, .inl (cy 4, 16, .inr (.inr (.inr (.inr (fun j => some (hP_o j)))))))] ++ zpl (cy 0) hP_o hP_k cP_kind_18 cP_length_19 cP_usage_21 cP_role_20 cP_uses_22 cPK_23) H := hP
  replace hD : va_D A ([(h0, .inr (11, [.ref h0_buffer, .ref h0_slots, .ref h0_counters, .ref h0_officerPin, .ref h0_userPin, .ref h0_words, .ref h0_sha, .ref h0_stream, .ref h0_aes, .ref h0_modes, .ref h0_gcm, .ref h0_generator, .ref h0_tests, .ref h0_message, .ref h0_secret, .int c_state, .int c_testsDone, .int c_faults, .int c_streamBegun])), (h0_buffer, .inl (cy 0, 512, .inl c_buffer)), (h0_counters, .inl (cy 1, 3, .inl c_counters_26)), (h0_message, .inl (cy 0, 68, .inl c_message_9)), (h0_secret, .inl (cy 0, 80, .inl c_secret_24)), (h0_sha, .inr (9, [.ref h0_sha_sums, .ref h0_sha_schedule, .ref h0_sha_inner, .int c_sha_filled_11, .int c_sha_total_12])), (h0_sha_inner, .inl (cy 0, 32, .inl c_sha_inner_13)), (h0_sha_schedule, .inl (cy 1, 64, .inl c_sha_schedule_14)), (h0_sha_sums, .inl (cy 1, 8, .inl c_sha_sums_15)), (h0_slots, .inl (cy 4, 16, .inr (.inr (.inr (.inr (fun j => some (hP_o j)))))))] ++ zpl (cy 0) hP_o hP_k cP_kind_18 cP_length_19 cP_usage_21 cP_role_20 cP_uses_22 cPK_23) := hD
  refine W.eq (g2 := F0 m 77 ls [.int r_25]) rfl ?_
  cases hf
  exact W.iret (pc := 77) hx hb hr (fun t ht hW => ⟨rfl, ⟨by rw [ht]; exact hP, hD⟩, hS.F ht⟩) hS.2.2 (zdt_at zt_X9_derive_0 43 rfl)
set_option maxHeartbeats 4000000 in
set_option maxRecDepth 100000 in
theorem c_X9_wrapKeysRefusal (l : Launch) (D : va_G) (cy : Nat → ClassId) (tt : Nat → Nat) (sz : Nat) (h0 : Nat) (h0_buffer : Nat) (h0_slots : Nat) (h0_counters : Nat) (h0_officerPin : Nat) (h0_userPin : Nat) (h0_words : Nat) (h0_sha : Nat) (h0_stream : Nat) (h0_aes : Nat) (h0_modes : Nat) (h0_gcm : Nat) (h0_generator : Nat) (h0_tests : Nat) (h0_message : Nat) (h0_secret : Nat) (hP_o : Nat → Nat) (hP_k : Nat → Nat) (j1 : Nat) (j2 : Nat) (c_state : Int32) (cP_kind : Nat → Int32) (cP_length : Nat → Int32) (cP_role : Nat → Int32) (cP_usage : Nat → Int32) (cP_uses : Nat → Int32) (c_testsDone : Int32) (c_faults : Int32) (c_streamBegun : Int32) (cPK : Nat → Nat → Int32) (r_ : Int32) (hj_j1 : j1 < 16) (hj_j2 : j2 < 16) (hf : f_X9_wrapKeysRefusal j1 j2 c_state cP_kind cP_length cP_role cP_usage cP_uses = some r_) : Met l yX9_wrapKeysRefusal wsX9_wrapKeysRefusal ({ frames := 2, cells := 0, slots := 0, locals := 41 }) (zPc D cy tt sz [.ref h0, .ref (hP_o j1), .ref (hP_o j2)] ([(h0, .inr (11, [.ref h0_buffer, .ref h0_slots, .ref h0_counters, .ref h0_officerPin, .ref h0_userPin, .ref h0_words, .ref h0_sha, .ref h0_stream, .ref h0_aes, .ref h0_modes, .ref h0_gcm, .ref h0_generator, .ref h0_tests, .ref h0_message, .ref h0_secret, .int c_state, .int c_testsDone, .int c_faults, .int c_streamBegun]))] ++ zpl (cy 0) hP_o hP_k cP_kind cP_length cP_usage cP_role cP_uses cPK)) (fun _ st o t => o = .returned (some (.int r_)) ∧ t.heap = st.heap) 0 0 (fun _ => False) := by
  refine Met.ofW (cc := cX9_wrapKeysRefusal) (maxL := 3) (ret := (some .int)) (by decide) rfl ?_
  intro p e s m args below meth c s₁ B hml hv
  obtain ⟨rfl, rfl, hP, hD0, hE⟩ := hv
  have hx := B.exec
  have hb := B.bytes
  have hr := B.returns
  have hts := atoms_spec (ws := wsX9_wrapKeysRefusal) B.pre
  have hown : s.vm.findClass RX9 = some m.cls := findClass_of_methodNamed B.named
  have hlocks := B.notSynchronized
  clear B
  have hD := hD0.self (sz := s.heap.size)
  generalize hAe : va_A ([(h0, .inr (11, [.ref h0_buffer, .ref h0_slots, .ref h0_counters, .ref h0_officerPin, .ref h0_userPin, .ref h0_words, .ref h0_sha, .ref h0_stream, .ref h0_aes, .ref h0_modes, .ref h0_gcm, .ref h0_generator, .ref h0_tests, .ref h0_message, .ref h0_secret, .int c_state, .int c_testsDone, .int c_faults, .int c_streamBegun]))] ++ zpl (cy 0) hP_o hP_k cP_kind cP_length cP_usage cP_role cP_uses cPK) s.heap.size = A at hD hE
  have hA : ∀ q : Nat, s.heap.size ≤ q → A q := fun q h => by rw [← hAe]; exact Or.inr h
  clear hAe hD0
  have hS : va_S A s.heap s.heap [] := va_S.rf
  have hK := hE.1
  have hw0 := hts (.fieldLink RX9 204 "SealedModule$Slot" "kind" "I") (by decide +kernel)
  have hw1 := hts (.fieldLink RX9 207 "SealedModule$Slot" "length" "I") (by decide +kernel)
  have hw2 := hts (.fieldLink RX9 216 "SealedModule$Slot" "uses" "I") (by decide +kernel)
  have hcX8 : ∀ w ∈ u_ws RX8 TX8 6, w ∈ wsX9_wrapKeysRefusal := (fun _ h => List.mem_cons_of_mem _ (List.mem_append_left _ (List.mem_append_right _ h)))
  have hl := lv_entry ([.ref h0, .ref (hP_o j1), .ref (hP_o j2)]) (n := 3) (Nat.le_of_ble_eq_true rfl)
  rw [lg_entry_eq]
  generalize (lg_sl ([.ref h0, .ref (hP_o j1), .ref (hP_o j2)]) ++ List.replicate (3 - (lg_sl ([.ref h0, .ref (hP_o j1), .ref (hP_o j2)])).length) Slot.unset).toArray = ls at hl ⊢
  replace hl : lv_has ls 3 [(0, .ref h0), (1, .ref (hP_o j1)), (2, .ref (hP_o j2))] := hl
  unfold f_X9_wrapKeysRefusal at hf
  refine zgo (fun GW hTo hFr => ?_)
  refine hFr _ _ _ ?_
  refine lv_aload_n (pc := 0) hx hb (zdt_at zt_X9_wrapKeysRefusal_0 0 rfl) rfl (lv_at hl 0 rfl) ?_
  refine lv_aload_n (pc := 1) hx hb (zdt_at zt_X9_wrapKeysRefusal_0 1 rfl) rfl (lv_at hl 1 rfl) ?_
  replace hf := zb_s hf
  obtain ⟨r_1, hc_, hf⟩ := hf
  refine zcs (pc := 2) (rv := (some (.int r_1))) (va_runV (As := [.ref (hP_o j1)]) (rest := []) ⟨hx, hb, hml, hown, hts⟩ (c_X9_isForeign l D cy tt s.heap.size h0 h0_buffer h0_slots h0_counters h0_officerPin h0_userPin h0_words h0_sha h0_stream h0_aes h0_modes h0_gcm h0_generator h0_tests h0_message h0_secret hP_o hP_k j1 c_state cP_kind cP_role c_testsDone c_faults c_streamBegun cP_length cP_usage cP_uses cPK r_1 hj_j1 hc_) (cwV 1 hts gX9_wrapKeysRefusal_X9_isForeign rfl rfl rfl (by decide +kernel) ⟨Nat.le_of_ble_eq_true rfl, Nat.le_of_ble_eq_true rfl⟩) ⟨zblind, va_recv hK hP (ci := 11) (q0 := 0) rfl rfl, zpre hE hS (va_P.part (X := [(h0, .inr (11, [.ref h0_buffer, .ref h0_slots, .ref h0_counters, .ref h0_officerPin, .ref h0_userPin, .ref h0_words, .ref h0_sha, .ref h0_stream, .ref h0_aes, .ref h0_modes, .ref h0_gcm, .ref h0_generator, .ref h0_tests, .ref h0_message, .ref h0_secret, .int c_state, .int c_testsDone, .int c_faults, .int c_streamBegun]))]) hP [0] rfl) (va_D.part (X := [(h0, .inr (11, [.ref h0_buffer, .ref h0_slots, .ref h0_counters, .ref h0_officerPin, .ref h0_userPin, .ref h0_words, .ref h0_sha, .ref h0_stream, .ref h0_aes, .ref h0_modes, .ref h0_gcm, .ref h0_generator, .ref h0_tests, .ref h0_message, .ref h0_secret, .int c_state, .int c_testsDone, .int c_faults, .int c_streamBegun]))]) hD [0] (by decide) rfl) (va_freeP (X := [(h0, .inr (11, [.ref h0_buffer, .ref h0_slots, .ref h0_counters, .ref h0_officerPin, .ref h0_userPin, .ref h0_words, .ref h0_sha, .ref h0_stream, .ref h0_aes, .ref h0_modes, .ref h0_gcm, .ref h0_generator, .ref h0_tests, .ref h0_message, .ref h0_secret, .int c_state, .int c_testsDone, .int c_faults, .int c_streamBegun]))]) hD hS hA [0] rfl)⟩ rfl rfl hl.1 rfl (lv_room (Nat.le_of_ble_eq_true rfl)) (zdt_at zt_X9_wrapKeysRefusal_0 2 rfl) ⟨Nat.zero_le _, Nat.zero_le _⟩) ?_
  clear hc_
  refine W.eq (g2 := F0 m 5 ls [.int r_1]) rfl ?_
  refine lv_if_ne (pc := 5) (tgt := 16) hx hb (zdt_at zt_X9_wrapKeysRefusal_0 3 rfl) (by decide) (fun cn_ => ?t_2) (fun cn_ => ?f_3)
  case t_2 =>
    replace hf := ze_s cn_ hf
    clear cn_
    refine lv_bipush (pc := 16) (v := (-3 : Int32)) hx hb (zdt_at zt_X9_wrapKeysRefusal_0 8 rfl) (by decide) ?_
    cases hf
    exact W.iret (pc := 18) hx hb hr (fun t ht hW => ⟨rfl, ht⟩) (fun _ h => nomatch h) (zdt_at zt_X9_wrapKeysRefusal_0 9 rfl)
  replace hf := zt_s cn_ hf
  clear cn_
  refine lv_aload_n (pc := 8) hx hb (zdt_at zt_X9_wrapKeysRefusal_0 4 rfl) rfl (lv_at hl 0 rfl) ?_
  refine lv_aload_n (pc := 9) hx hb (zdt_at zt_X9_wrapKeysRefusal_0 5 rfl) rfl (lv_at hl 2 rfl) ?_
  replace hf := zb_s hf
  obtain ⟨r_4, hc_, hf⟩ := hf
  refine zcs (pc := 10) (rv := (some (.int r_4))) (va_runV (As := [.ref (hP_o j2)]) (rest := []) ⟨hx, hb, hml, hown, hts⟩ (c_X9_isForeign l D cy tt s.heap.size h0 h0_buffer h0_slots h0_counters h0_officerPin h0_userPin h0_words h0_sha h0_stream h0_aes h0_modes h0_gcm h0_generator h0_tests h0_message h0_secret hP_o hP_k j2 c_state cP_kind cP_role c_testsDone c_faults c_streamBegun cP_length cP_usage cP_uses cPK r_4 hj_j2 hc_) (cwV 1 hts gX9_wrapKeysRefusal_X9_isForeign rfl rfl rfl (by decide +kernel) ⟨Nat.le_of_ble_eq_true rfl, Nat.le_of_ble_eq_true rfl⟩) ⟨zblind, va_recv hK hP (ci := 11) (q0 := 0) rfl rfl, zpre hE hS (va_P.part (X := [(h0, .inr (11, [.ref h0_buffer, .ref h0_slots, .ref h0_counters, .ref h0_officerPin, .ref h0_userPin, .ref h0_words, .ref h0_sha, .ref h0_stream, .ref h0_aes, .ref h0_modes, .ref h0_gcm, .ref h0_generator, .ref h0_tests, .ref h0_message, .ref h0_secret, .int c_state, .int c_testsDone, .int c_faults, .int c_streamBegun]))]) hP [0] rfl) (va_D.part (X := [(h0, .inr (11, [.ref h0_buffer, .ref h0_slots, .ref h0_counters, .ref h0_officerPin, .ref h0_userPin, .ref h0_words, .ref h0_sha, .ref h0_stream, .ref h0_aes, .ref h0_modes, .ref h0_gcm, .ref h0_generator, .ref h0_tests, .ref h0_message, .ref h0_secret, .int c_state, .int c_testsDone, .int c_faults, .int c_streamBegun]))]) hD [0] (by decide) rfl) (va_freeP (X := [(h0, .inr (11, [.ref h0_buffer, .ref h0_slots, .ref h0_counters, .ref h0_officerPin, .ref h0_userPin, .ref h0_words, .ref h0_sha, .ref h0_stream, .ref h0_aes, .ref h0_modes, .ref h0_gcm, .ref h0_generator, .ref h0_tests, .ref h0_message, .ref h0_secret, .int c_state, .int c_testsDone, .int c_faults, .int c_streamBegun]))]) hD hS hA [0] rfl)⟩ rfl rfl hl.1 rfl (lv_room (Nat.le_of_ble_eq_true rfl)) (zdt_at zt_X9_wrapKeysRefusal_0 6 rfl) ⟨Nat.zero_le _, Nat.zero_le _⟩) ?_
  clear hc_
  refine W.eq (g2 := F0 m 13 ls [.int r_4]) rfl ?_
  refine lv_if_eq (pc := 13) (tgt := 19) hx hb (zdt_at zt_X9_wrapKeysRefusal_0 7 rfl) (by decide) (fun cn_ => ?t_5) (fun cn_ => ?f_6)
  case f_6 =>
    replace hf := ze_s cn_ hf
    clear cn_
    refine lv_bipush (pc := 16) (v := (-3 : Int32)) hx hb (zdt_at zt_X9_wrapKeysRefusal_0 8 rfl) (by decide) ?_
    cases hf
    exact W.iret (pc := 18) hx hb hr (fun t ht hW => ⟨rfl, ht⟩) (fun _ h => nomatch h) (zdt_at zt_X9_wrapKeysRefusal_0 9 rfl)
  replace hf := zt_s cn_ hf
  clear cn_
  refine lv_aload_n (pc := 19) hx hb (zdt_at zt_X9_wrapKeysRefusal_0 10 rfl) rfl (lv_at hl 1 rfl) ?_
  replace hf := zb_s hf
  obtain ⟨r_7, hc_, hf⟩ := hf
  refine zcs (pc := 20) (rv := (some (.int r_7))) (va_runV (As := []) (rest := []) ⟨hx, hb, hml, hown, hts⟩ (c_X8_isEmpty l D cy tt s.heap.size hP_o hP_k j1 cP_kind cP_length cP_usage cP_role cP_uses cPK r_7 hj_j1 hc_) (cwV 0 hts gX9_wrapKeysRefusal_X8_isEmpty rfl rfl rfl (by decide +kernel) ⟨Nat.le_of_ble_eq_true rfl, Nat.le_of_ble_eq_true rfl⟩) ⟨zblind, va_recv hK hP (ci := 10) (q0 := (1 + j1)) rfl (zplO_get (X := [(h0, .inr (11, [.ref h0_buffer, .ref h0_slots, .ref h0_counters, .ref h0_officerPin, .ref h0_userPin, .ref h0_words, .ref h0_sha, .ref h0_stream, .ref h0_aes, .ref h0_modes, .ref h0_gcm, .ref h0_generator, .ref h0_tests, .ref h0_message, .ref h0_secret, .int c_state, .int c_testsDone, .int c_faults, .int c_streamBegun]))]) (n := 1) rfl hj_j1), zpre hE hS (va_P.part (X := [(h0, .inr (11, [.ref h0_buffer, .ref h0_slots, .ref h0_counters, .ref h0_officerPin, .ref h0_userPin, .ref h0_words, .ref h0_sha, .ref h0_stream, .ref h0_aes, .ref h0_modes, .ref h0_gcm, .ref h0_generator, .ref h0_tests, .ref h0_message, .ref h0_secret, .int c_state, .int c_testsDone, .int c_faults, .int c_streamBegun]))]) hP [] rfl) (va_D.part (X := [(h0, .inr (11, [.ref h0_buffer, .ref h0_slots, .ref h0_counters, .ref h0_officerPin, .ref h0_userPin, .ref h0_words, .ref h0_sha, .ref h0_stream, .ref h0_aes, .ref h0_modes, .ref h0_gcm, .ref h0_generator, .ref h0_tests, .ref h0_message, .ref h0_secret, .int c_state, .int c_testsDone, .int c_faults, .int c_streamBegun]))]) hD [] (by decide) rfl) (va_freeP (X := [(h0, .inr (11, [.ref h0_buffer, .ref h0_slots, .ref h0_counters, .ref h0_officerPin, .ref h0_userPin, .ref h0_words, .ref h0_sha, .ref h0_stream, .ref h0_aes, .ref h0_modes, .ref h0_gcm, .ref h0_generator, .ref h0_tests, .ref h0_message, .ref h0_secret, .int c_state, .int c_testsDone, .int c_faults, .int c_streamBegun]))]) hD hS hA [] rfl)⟩ rfl rfl hl.1 rfl (lv_room (Nat.le_of_ble_eq_true rfl)) (zdt_at zt_X9_wrapKeysRefusal_0 11 rfl) ⟨Nat.zero_le _, Nat.zero_le _⟩) ?_
  clear hc_
  refine W.eq (g2 := F0 m 23 ls [.int r_7]) rfl ?_
  refine lv_if_ne (pc := 23) (tgt := 33) hx hb (zdt_at zt_X9_wrapKeysRefusal_0 12 rfl) (by decide) (fun cn_ => ?t_8) (fun cn_ => ?f_9)
  case t_8 =>
    replace hf := ze_s cn_ hf
    clear cn_
    refine lv_bipush (pc := 33) (v := (-4 : Int32)) hx hb (zdt_at zt_X9_wrapKeysRefusal_0 16 rfl) (by decide) ?_
    cases hf
    exact W.iret (pc := 35) hx hb hr (fun t ht hW => ⟨rfl, ht⟩) (fun _ h => nomatch h) (zdt_at zt_X9_wrapKeysRefusal_0 17 rfl)
  replace hf := zt_s cn_ hf
  clear cn_
  refine lv_aload_n (pc := 26) hx hb (zdt_at zt_X9_wrapKeysRefusal_0 13 rfl) rfl (lv_at hl 2 rfl) ?_
  replace hf := zb_s hf
  obtain ⟨r_10, hc_, hf⟩ := hf
  refine zcs (pc := 27) (rv := (some (.int r_10))) (va_runV (As := []) (rest := []) ⟨hx, hb, hml, hown, hts⟩ (c_X8_isEmpty l D cy tt s.heap.size hP_o hP_k j2 cP_kind cP_length cP_usage cP_role cP_uses cPK r_10 hj_j2 hc_) (cwV 0 hts gX9_wrapKeysRefusal_X8_isEmpty rfl rfl rfl (by decide +kernel) ⟨Nat.le_of_ble_eq_true rfl, Nat.le_of_ble_eq_true rfl⟩) ⟨zblind, va_recv hK hP (ci := 10) (q0 := (1 + j2)) rfl (zplO_get (X := [(h0, .inr (11, [.ref h0_buffer, .ref h0_slots, .ref h0_counters, .ref h0_officerPin, .ref h0_userPin, .ref h0_words, .ref h0_sha, .ref h0_stream, .ref h0_aes, .ref h0_modes, .ref h0_gcm, .ref h0_generator, .ref h0_tests, .ref h0_message, .ref h0_secret, .int c_state, .int c_testsDone, .int c_faults, .int c_streamBegun]))]) (n := 1) rfl hj_j2), zpre hE hS (va_P.part (X := [(h0, .inr (11, [.ref h0_buffer, .ref h0_slots, .ref h0_counters, .ref h0_officerPin, .ref h0_userPin, .ref h0_words, .ref h0_sha, .ref h0_stream, .ref h0_aes, .ref h0_modes, .ref h0_gcm, .ref h0_generator, .ref h0_tests, .ref h0_message, .ref h0_secret, .int c_state, .int c_testsDone, .int c_faults, .int c_streamBegun]))]) hP [] rfl) (va_D.part (X := [(h0, .inr (11, [.ref h0_buffer, .ref h0_slots, .ref h0_counters, .ref h0_officerPin, .ref h0_userPin, .ref h0_words, .ref h0_sha, .ref h0_stream, .ref h0_aes, .ref h0_modes, .ref h0_gcm, .ref h0_generator, .ref h0_tests, .ref h0_message, .ref h0_secret, .int c_state, .int c_testsDone, .int c_faults, .int c_streamBegun]))]) hD [] (by decide) rfl) (va_freeP (X := [(h0, .inr (11, [.ref h0_buffer, .ref h0_slots, .ref h0_counters, .ref h0_officerPin, .ref h0_userPin, .ref h0_words, .ref h0_sha, .ref h0_stream, .ref h0_aes, .ref h0_modes, .ref h0_gcm, .ref h0_generator, .ref h0_tests, .ref h0_message, .ref h0_secret, .int c_state, .int c_testsDone, .int c_faults, .int c_streamBegun]))]) hD hS hA [] rfl)⟩ rfl rfl hl.1 rfl (lv_room (Nat.le_of_ble_eq_true rfl)) (zdt_at zt_X9_wrapKeysRefusal_0 14 rfl) ⟨Nat.zero_le _, Nat.zero_le _⟩) ?_
  clear hc_
  refine W.eq (g2 := F0 m 30 ls [.int r_10]) rfl ?_
  refine lv_if_eq (pc := 30) (tgt := 36) hx hb (zdt_at zt_X9_wrapKeysRefusal_0 15 rfl) (by decide) (fun cn_ => ?t_11) (fun cn_ => ?f_12)
  case f_12 =>
    replace hf := ze_s cn_ hf
    clear cn_
    refine lv_bipush (pc := 33) (v := (-4 : Int32)) hx hb (zdt_at zt_X9_wrapKeysRefusal_0 16 rfl) (by decide) ?_
    cases hf
    exact W.iret (pc := 35) hx hb hr (fun t ht hW => ⟨rfl, ht⟩) (fun _ h => nomatch h) (zdt_at zt_X9_wrapKeysRefusal_0 17 rfl)
  replace hf := zt_s cn_ hf
  clear cn_
  refine lv_aload_n (pc := 36) hx hb (zdt_at zt_X9_wrapKeysRefusal_0 18 rfl) rfl (lv_at hl 2 rfl) ?_
  refine va_get (pc := 37) (D := D) (ci := 10) (v := .int (cP_kind j2)) (C := RX8) (T := TX8) (N := 6) hx hb hts hcX8 hown hK hP (1 + j2) (zplO_get (X := [(h0, .inr (11, [.ref h0_buffer, .ref h0_slots, .ref h0_counters, .ref h0_officerPin, .ref h0_userPin, .ref h0_words, .ref h0_sha, .ref h0_stream, .ref h0_aes, .ref h0_modes, .ref h0_gcm, .ref h0_generator, .ref h0_tests, .ref h0_message, .ref h0_secret, .int c_state, .int c_testsDone, .int c_faults, .int c_streamBegun]))]) (n := 1) rfl hj_j2) rfl 1 (by decide) hw0 (fun _ h9 => h9) rfl (zdt_at zt_X9_wrapKeysRefusal_0 19 rfl) ?_
  refine lv_iconst (pc := 40) (v := (1 : Int32)) hx hb (zdt_at zt_X9_wrapKeysRefusal_0 20 rfl) (by decide) ?_
  refine lv_icmp_ne (pc := 41) (tgt := 54) hx hb (zdt_at zt_X9_wrapKeysRefusal_0 21 rfl) (by decide) (fun cn_ => ?t_13) (fun cn_ => ?f_14)
  case t_13 =>
    replace hf := ze_s cn_ hf
    clear cn_
    refine lv_bipush (pc := 54) (v := (-5 : Int32)) hx hb (zdt_at zt_X9_wrapKeysRefusal_0 27 rfl) (by decide) ?_
    cases hf
    exact W.iret (pc := 56) hx hb hr (fun t ht hW => ⟨rfl, ht⟩) (fun _ h => nomatch h) (zdt_at zt_X9_wrapKeysRefusal_0 28 rfl)
  replace hf := zt_s cn_ hf
  clear cn_
  refine lv_aload_n (pc := 44) hx hb (zdt_at zt_X9_wrapKeysRefusal_0 22 rfl) rfl (lv_at hl 1 rfl) ?_
  refine va_get (pc := 45) (D := D) (ci := 10) (v := .int (cP_length j1)) (C := RX8) (T := TX8) (N := 6) hx hb hts hcX8 hown hK hP (1 + j1) (zplO_get (X := [(h0, .inr (11, [.ref h0_buffer, .ref h0_slots, .ref h0_counters, .ref h0_officerPin, .ref h0_userPin, .ref h0_words, .ref h0_sha, .ref h0_stream, .ref h0_aes, .ref h0_modes, .ref h0_gcm, .ref h0_generator, .ref h0_tests, .ref h0_message, .ref h0_secret, .int c_state, .int c_testsDone, .int c_faults, .int c_streamBegun]))]) (n := 1) rfl hj_j1) rfl 2 (by decide) hw1 (fun _ h9 => h9) rfl (zdt_at zt_X9_wrapKeysRefusal_0 23 rfl) ?_
  refine lv_bipush (pc := 48) (v := (8 : Int32)) hx hb (zdt_at zt_X9_wrapKeysRefusal_0 24 rfl) (by decide) ?_
  replace hf := zk_s hf
  refine lv_irem (pc := 50) hx hb (zdt_at zt_X9_wrapKeysRefusal_0 25 rfl) hf.1 ?_
  replace hf := hf.2
  refine lv_if_eq (pc := 51) (tgt := 57) hx hb (zdt_at zt_X9_wrapKeysRefusal_0 26 rfl) (by decide) (fun cn_ => ?t_15) (fun cn_ => ?f_16)
  case f_16 =>
    replace hf := ze_s cn_ hf
    clear cn_
    refine lv_bipush (pc := 54) (v := (-5 : Int32)) hx hb (zdt_at zt_X9_wrapKeysRefusal_0 27 rfl) (by decide) ?_
    cases hf
    exact W.iret (pc := 56) hx hb hr (fun t ht hW => ⟨rfl, ht⟩) (fun _ h => nomatch h) (zdt_at zt_X9_wrapKeysRefusal_0 28 rfl)
  replace hf := zt_s cn_ hf
  clear cn_
  refine lv_aload_n (pc := 57) hx hb (zdt_at zt_X9_wrapKeysRefusal_0 29 rfl) rfl (lv_at hl 2 rfl) ?_
  refine lv_bipush (pc := 58) (v := (16 : Int32)) hx hb (zdt_at zt_X9_wrapKeysRefusal_0 30 rfl) (by decide) ?_
  replace hf := zb_s hf
  obtain ⟨r_17, hc_, hf⟩ := hf
  refine zcs (pc := 60) (rv := (some (.int r_17))) (va_runV (As := [.int (16 : Int32)]) (rest := []) ⟨hx, hb, hml, hown, hts⟩ (c_X8_allows l D cy tt s.heap.size hP_o hP_k j2 (16 : Int32) cP_usage cP_kind cP_length cP_role cP_uses cPK r_17 hj_j2 hc_) (cwV 1 hts gX9_wrapKeysRefusal_X8_allows rfl rfl rfl (by decide +kernel) ⟨Nat.le_of_ble_eq_true rfl, Nat.le_of_ble_eq_true rfl⟩) ⟨zblind, va_recv hK hP (ci := 10) (q0 := (1 + j2)) rfl (zplO_get (X := [(h0, .inr (11, [.ref h0_buffer, .ref h0_slots, .ref h0_counters, .ref h0_officerPin, .ref h0_userPin, .ref h0_words, .ref h0_sha, .ref h0_stream, .ref h0_aes, .ref h0_modes, .ref h0_gcm, .ref h0_generator, .ref h0_tests, .ref h0_message, .ref h0_secret, .int c_state, .int c_testsDone, .int c_faults, .int c_streamBegun]))]) (n := 1) rfl hj_j2), zpre hE hS (va_P.part (X := [(h0, .inr (11, [.ref h0_buffer, .ref h0_slots, .ref h0_counters, .ref h0_officerPin, .ref h0_userPin, .ref h0_words, .ref h0_sha, .ref h0_stream, .ref h0_aes, .ref h0_modes, .ref h0_gcm, .ref h0_generator, .ref h0_tests, .ref h0_message, .ref h0_secret, .int c_state, .int c_testsDone, .int c_faults, .int c_streamBegun]))]) hP [] rfl) (va_D.part (X := [(h0, .inr (11, [.ref h0_buffer, .ref h0_slots, .ref h0_counters, .ref h0_officerPin, .ref h0_userPin, .ref h0_words, .ref h0_sha, .ref h0_stream, .ref h0_aes, .ref h0_modes, .ref h0_gcm, .ref h0_generator, .ref h0_tests, .ref h0_message, .ref h0_secret, .int c_state, .int c_testsDone, .int c_faults, .int c_streamBegun]))]) hD [] (by decide) rfl) (va_freeP (X := [(h0, .inr (11, [.ref h0_buffer, .ref h0_slots, .ref h0_counters, .ref h0_officerPin, .ref h0_userPin, .ref h0_words, .ref h0_sha, .ref h0_stream, .ref h0_aes, .ref h0_modes, .ref h0_gcm, .ref h0_generator, .ref h0_tests, .ref h0_message, .ref h0_secret, .int c_state, .int c_testsDone, .int c_faults, .int c_streamBegun]))]) hD hS hA [] rfl)⟩ rfl rfl hl.1 rfl (lv_room (Nat.le_of_ble_eq_true rfl)) (zdt_at zt_X9_wrapKeysRefusal_0 31 rfl) ⟨Nat.zero_le _, Nat.zero_le _⟩) ?_
  clear hc_
  refine W.eq (g2 := F0 m 63 ls [.int r_17]) rfl ?_
  refine lv_if_eq (pc := 63) (tgt := 75) hx hb (zdt_at zt_X9_wrapKeysRefusal_0 32 rfl) (by decide) (fun cn_ => ?t_18) (fun cn_ => ?f_19)
  case t_18 =>
    replace hf := zt_s cn_ hf
    clear cn_
    refine lv_bipush (pc := 75) (v := (-6 : Int32)) hx hb (zdt_at zt_X9_wrapKeysRefusal_0 37 rfl) (by decide) ?_
    cases hf
    exact W.iret (pc := 77) hx hb hr (fun t ht hW => ⟨rfl, ht⟩) (fun _ h => nomatch h) (zdt_at zt_X9_wrapKeysRefusal_0 38 rfl)
  replace hf := ze_s cn_ hf
  clear cn_
  refine lv_aload_n (pc := 66) hx hb (zdt_at zt_X9_wrapKeysRefusal_0 33 rfl) rfl (lv_at hl 1 rfl) ?_
  refine lv_bipush (pc := 67) (v := (32 : Int32)) hx hb (zdt_at zt_X9_wrapKeysRefusal_0 34 rfl) (by decide) ?_
  replace hf := zb_s hf
  obtain ⟨r_20, hc_, hf⟩ := hf
  refine zcs (pc := 69) (rv := (some (.int r_20))) (va_runV (As := [.int (32 : Int32)]) (rest := []) ⟨hx, hb, hml, hown, hts⟩ (c_X8_allows l D cy tt s.heap.size hP_o hP_k j1 (32 : Int32) cP_usage cP_kind cP_length cP_role cP_uses cPK r_20 hj_j1 hc_) (cwV 1 hts gX9_wrapKeysRefusal_X8_allows rfl rfl rfl (by decide +kernel) ⟨Nat.le_of_ble_eq_true rfl, Nat.le_of_ble_eq_true rfl⟩) ⟨zblind, va_recv hK hP (ci := 10) (q0 := (1 + j1)) rfl (zplO_get (X := [(h0, .inr (11, [.ref h0_buffer, .ref h0_slots, .ref h0_counters, .ref h0_officerPin, .ref h0_userPin, .ref h0_words, .ref h0_sha, .ref h0_stream, .ref h0_aes, .ref h0_modes, .ref h0_gcm, .ref h0_generator, .ref h0_tests, .ref h0_message, .ref h0_secret, .int c_state, .int c_testsDone, .int c_faults, .int c_streamBegun]))]) (n := 1) rfl hj_j1), zpre hE hS (va_P.part (X := [(h0, .inr (11, [.ref h0_buffer, .ref h0_slots, .ref h0_counters, .ref h0_officerPin, .ref h0_userPin, .ref h0_words, .ref h0_sha, .ref h0_stream, .ref h0_aes, .ref h0_modes, .ref h0_gcm, .ref h0_generator, .ref h0_tests, .ref h0_message, .ref h0_secret, .int c_state, .int c_testsDone, .int c_faults, .int c_streamBegun]))]) hP [] rfl) (va_D.part (X := [(h0, .inr (11, [.ref h0_buffer, .ref h0_slots, .ref h0_counters, .ref h0_officerPin, .ref h0_userPin, .ref h0_words, .ref h0_sha, .ref h0_stream, .ref h0_aes, .ref h0_modes, .ref h0_gcm, .ref h0_generator, .ref h0_tests, .ref h0_message, .ref h0_secret, .int c_state, .int c_testsDone, .int c_faults, .int c_streamBegun]))]) hD [] (by decide) rfl) (va_freeP (X := [(h0, .inr (11, [.ref h0_buffer, .ref h0_slots, .ref h0_counters, .ref h0_officerPin, .ref h0_userPin, .ref h0_words, .ref h0_sha, .ref h0_stream, .ref h0_aes, .ref h0_modes, .ref h0_gcm, .ref h0_generator, .ref h0_tests, .ref h0_message, .ref h0_secret, .int c_state, .int c_testsDone, .int c_faults, .int c_streamBegun]))]) hD hS hA [] rfl)⟩ rfl rfl hl.1 rfl (lv_room (Nat.le_of_ble_eq_true rfl)) (zdt_at zt_X9_wrapKeysRefusal_0 35 rfl) ⟨Nat.zero_le _, Nat.zero_le _⟩) ?_
  clear hc_
  refine W.eq (g2 := F0 m 72 ls [.int r_20]) rfl ?_
  refine lv_if_ne (pc := 72) (tgt := 78) hx hb (zdt_at zt_X9_wrapKeysRefusal_0 36 rfl) (by decide) (fun cn_ => ?t_21) (fun cn_ => ?f_22)
  case f_22 =>
    replace hf := zt_s cn_ hf
    clear cn_
    refine lv_bipush (pc := 75) (v := (-6 : Int32)) hx hb (zdt_at zt_X9_wrapKeysRefusal_0 37 rfl) (by decide) ?_
    cases hf
    exact W.iret (pc := 77) hx hb hr (fun t ht hW => ⟨rfl, ht⟩) (fun _ h => nomatch h) (zdt_at zt_X9_wrapKeysRefusal_0 38 rfl)
  replace hf := ze_s cn_ hf
  clear cn_
  refine lv_aload_n (pc := 78) hx hb (zdt_at zt_X9_wrapKeysRefusal_0 39 rfl) rfl (lv_at hl 1 rfl) ?_
  refine va_get (pc := 79) (D := D) (ci := 10) (v := .int (cP_uses j1)) (C := RX8) (T := TX8) (N := 6) hx hb hts hcX8 hown hK hP (1 + j1) (zplO_get (X := [(h0, .inr (11, [.ref h0_buffer, .ref h0_slots, .ref h0_counters, .ref h0_officerPin, .ref h0_userPin, .ref h0_words, .ref h0_sha, .ref h0_stream, .ref h0_aes, .ref h0_modes, .ref h0_gcm, .ref h0_generator, .ref h0_tests, .ref h0_message, .ref h0_secret, .int c_state, .int c_testsDone, .int c_faults, .int c_streamBegun]))]) (n := 1) rfl hj_j1) rfl 5 (by decide) hw2 (fun _ h9 => h9) rfl (zdt_at zt_X9_wrapKeysRefusal_0 40 rfl) ?_
  refine lv_if_eq (pc := 82) (tgt := 92) hx hb (zdt_at zt_X9_wrapKeysRefusal_0 41 rfl) (by decide) (fun cn_ => ?t_23) (fun cn_ => ?f_24)
  case t_23 =>
    replace hf := zt_s cn_ hf
    clear cn_
    refine lv_bipush (pc := 92) (v := (-7 : Int32)) hx hb (zdt_at zt_X9_wrapKeysRefusal_0 45 rfl) (by decide) ?_
    refine lv_goto (pc := 94) (tgt := 98) hx hb (zdt_at zt_X9_wrapKeysRefusal_0 46 rfl) (by decide) ?_
    cases hf
    exact W.iret (pc := 98) hx hb hr (fun t ht hW => ⟨rfl, ht⟩) (fun _ h => nomatch h) (zdt_at zt_X9_wrapKeysRefusal_0 48 rfl)
  replace hf := ze_s cn_ hf
  clear cn_
  refine lv_aload_n (pc := 85) hx hb (zdt_at zt_X9_wrapKeysRefusal_0 42 rfl) rfl (lv_at hl 2 rfl) ?_
  refine va_get (pc := 86) (D := D) (ci := 10) (v := .int (cP_uses j2)) (C := RX8) (T := TX8) (N := 6) hx hb hts hcX8 hown hK hP (1 + j2) (zplO_get (X := [(h0, .inr (11, [.ref h0_buffer, .ref h0_slots, .ref h0_counters, .ref h0_officerPin, .ref h0_userPin, .ref h0_words, .ref h0_sha, .ref h0_stream, .ref h0_aes, .ref h0_modes, .ref h0_gcm, .ref h0_generator, .ref h0_tests, .ref h0_message, .ref h0_secret, .int c_state, .int c_testsDone, .int c_faults, .int c_streamBegun]))]) (n := 1) rfl hj_j2) rfl 5 (by decide) hw2 (fun _ h9 => h9) rfl (zdt_at zt_X9_wrapKeysRefusal_0 43 rfl) ?_
  refine lv_if_ne (pc := 89) (tgt := 97) hx hb (zdt_at zt_X9_wrapKeysRefusal_0 44 rfl) (by decide) (fun cn_ => ?t_25) (fun cn_ => ?f_26)
  case t_25 =>
    replace hf := ze_s cn_ hf
    clear cn_
    refine lv_iconst (pc := 97) (v := (0 : Int32)) hx hb (zdt_at zt_X9_wrapKeysRefusal_0 47 rfl) (by decide) ?_
    cases hf
    exact W.iret (pc := 98) hx hb hr (fun t ht hW => ⟨rfl, ht⟩) (fun _ h => nomatch h) (zdt_at zt_X9_wrapKeysRefusal_0 48 rfl)
  replace hf := zt_s cn_ hf
  clear cn_
  refine lv_bipush (pc := 92) (v := (-7 : Int32)) hx hb (zdt_at zt_X9_wrapKeysRefusal_0 45 rfl) (by decide) ?_
  refine lv_goto (pc := 94) (tgt := 98) hx hb (zdt_at zt_X9_wrapKeysRefusal_0 46 rfl) (by decide) ?_
  cases hf
  exact W.iret (pc := 98) hx hb hr (fun t ht hW => ⟨rfl, ht⟩) (fun _ h => nomatch h) (zdt_at zt_X9_wrapKeysRefusal_0 48 rfl)
set_option maxHeartbeats 4000000 in
set_option maxRecDepth 100000 in
theorem c_X9_intAt_0PK (l : Launch) (D : va_G) (cy : Nat → ClassId) (tt : Nat → Nat) (sz : Nat) (hP_o : Nat → Nat) (hP_k : Nat → Nat) (j0 : Nat) (p1 : Int32) (cPK : Nat → Nat → Int32) (cP_kind : Nat → Int32) (cP_length : Nat → Int32) (cP_usage : Nat → Int32) (cP_role : Nat → Int32) (cP_uses : Nat → Int32) (r_ : Int32) (hj_j0 : j0 < 16) (hf : f_X9_intAt_0PK j0 p1 cPK = some r_) : Met l yX9_intAt wsX9_intAt ({ frames := 0, cells := 0, slots := 0, locals := 0 }) (zPc D cy tt sz [.ref (hP_k j0), .int p1] ([] ++ zpl (cy 0) hP_o hP_k cP_kind cP_length cP_usage cP_role cP_uses cPK)) (fun _ st o t => o = .returned (some (.int r_)) ∧ t.heap = st.heap) 0 0 (fun _ => False) := by
  refine Met.ofW (cc := cX9_intAt) (maxL := 2) (ret := (some .int)) (by decide) rfl ?_
  intro p e s m args below meth c s₁ B hml hv
  obtain ⟨rfl, rfl, hP, hD0, hE⟩ := hv
  have hx := B.exec
  have hb := B.bytes
  have hr := B.returns
  have hts := atoms_spec (ws := wsX9_intAt) B.pre
  have hown : s.vm.findClass RX9 = some m.cls := findClass_of_methodNamed B.named
  have hlocks := B.notSynchronized
  clear B
  have hD := hD0.self (sz := s.heap.size)
  generalize hAe : va_A ([] ++ zpl (cy 0) hP_o hP_k cP_kind cP_length cP_usage cP_role cP_uses cPK) s.heap.size = A at hD hE
  have hA : ∀ q : Nat, s.heap.size ≤ q → A q := fun q h => by rw [← hAe]; exact Or.inr h
  clear hAe hD0
  have hS : va_S A s.heap s.heap [] := va_S.rf
  have hK := hE.1
  have hl := lv_entry ([.ref (hP_k j0), .int p1]) (n := 2) (Nat.le_of_ble_eq_true rfl)
  rw [lg_entry_eq]
  generalize (lg_sl ([.ref (hP_k j0), .int p1]) ++ List.replicate (2 - (lg_sl ([.ref (hP_k j0), .int p1])).length) Slot.unset).toArray = ls at hl ⊢
  replace hl : lv_has ls 2 [(0, .ref (hP_k j0)), (1, .int p1)] := hl
  unfold f_X9_intAt_0PK at hf
  refine zgo (fun GW hTo hFr => ?_)
  refine hFr _ _ _ ?_
  refine lv_aload_n (pc := 0) hx hb (zdt_at zt_X9_intAt_0 0 rfl) rfl (lv_at hl 0 rfl) ?_
  refine lv_iload_n (pc := 1) hx hb (zdt_at zt_X9_intAt_0 1 rfl) rfl (lv_at hl 1 rfl) ?_
  replace hf := zk_s hf
  refine va_bald (pc := 2) hx hb hK hP (16 + j0) 0 (zplK_get (X := []) (n := 0) rfl hj_j0) rfl hf.1 (zdt_at zt_X9_intAt_0 2 rfl) ?_
  replace hf := hf.2
  refine lv_bipush (pc := 3) (v := (24 : Int32)) hx hb (zdt_at zt_X9_intAt_0 3 rfl) (by decide) ?_
  refine lv_ishl (pc := 5) hx hb (zdt_at zt_X9_intAt_0 4 rfl) ?_
  refine lv_aload_n (pc := 6) hx hb (zdt_at zt_X9_intAt_0 5 rfl) rfl (lv_at hl 0 rfl) ?_
  refine lv_iload_n (pc := 7) hx hb (zdt_at zt_X9_intAt_0 6 rfl) rfl (lv_at hl 1 rfl) ?_
  refine lv_iconst (pc := 8) (v := (1 : Int32)) hx hb (zdt_at zt_X9_intAt_0 7 rfl) (by decide) ?_
  refine lv_iadd (pc := 9) hx hb (zdt_at zt_X9_intAt_0 8 rfl) ?_
  replace hf := zk_s hf
  refine va_bald (pc := 10) hx hb hK hP (16 + j0) 0 (zplK_get (X := []) (n := 0) rfl hj_j0) rfl hf.1 (zdt_at zt_X9_intAt_0 9 rfl) ?_
  replace hf := hf.2
  refine lv_sipush (pc := 11) (v := (255 : Int32)) hx hb (zdt_at zt_X9_intAt_0 10 rfl) (by decide) ?_
  refine lv_iand (pc := 14) hx hb (zdt_at zt_X9_intAt_0 11 rfl) ?_
  refine lv_bipush (pc := 15) (v := (16 : Int32)) hx hb (zdt_at zt_X9_intAt_0 12 rfl) (by decide) ?_
  refine lv_ishl (pc := 17) hx hb (zdt_at zt_X9_intAt_0 13 rfl) ?_
  refine lv_ior (pc := 18) hx hb (zdt_at zt_X9_intAt_0 14 rfl) ?_
  refine lv_aload_n (pc := 19) hx hb (zdt_at zt_X9_intAt_0 15 rfl) rfl (lv_at hl 0 rfl) ?_
  refine lv_iload_n (pc := 20) hx hb (zdt_at zt_X9_intAt_0 16 rfl) rfl (lv_at hl 1 rfl) ?_
  refine lv_iconst (pc := 21) (v := (2 : Int32)) hx hb (zdt_at zt_X9_intAt_0 17 rfl) (by decide) ?_
  refine lv_iadd (pc := 22) hx hb (zdt_at zt_X9_intAt_0 18 rfl) ?_
  replace hf := zk_s hf
  refine va_bald (pc := 23) hx hb hK hP (16 + j0) 0 (zplK_get (X := []) (n := 0) rfl hj_j0) rfl hf.1 (zdt_at zt_X9_intAt_0 19 rfl) ?_
  replace hf := hf.2
  refine lv_sipush (pc := 24) (v := (255 : Int32)) hx hb (zdt_at zt_X9_intAt_0 20 rfl) (by decide) ?_
  refine lv_iand (pc := 27) hx hb (zdt_at zt_X9_intAt_0 21 rfl) ?_
  refine lv_bipush (pc := 28) (v := (8 : Int32)) hx hb (zdt_at zt_X9_intAt_0 22 rfl) (by decide) ?_
  refine lv_ishl (pc := 30) hx hb (zdt_at zt_X9_intAt_0 23 rfl) ?_
  refine lv_ior (pc := 31) hx hb (zdt_at zt_X9_intAt_0 24 rfl) ?_
  refine lv_aload_n (pc := 32) hx hb (zdt_at zt_X9_intAt_0 25 rfl) rfl (lv_at hl 0 rfl) ?_
  refine lv_iload_n (pc := 33) hx hb (zdt_at zt_X9_intAt_0 26 rfl) rfl (lv_at hl 1 rfl) ?_
  refine lv_iconst (pc := 34) (v := (3 : Int32)) hx hb (zdt_at zt_X9_intAt_0 27 rfl) (by decide) ?_
  refine lv_iadd (pc := 35) hx hb (zdt_at zt_X9_intAt_0 28 rfl) ?_
  replace hf := zk_s hf
  refine va_bald (pc := 36) hx hb hK hP (16 + j0) 0 (zplK_get (X := []) (n := 0) rfl hj_j0) rfl hf.1 (zdt_at zt_X9_intAt_0 29 rfl) ?_
  replace hf := hf.2
  refine lv_sipush (pc := 37) (v := (255 : Int32)) hx hb (zdt_at zt_X9_intAt_0 30 rfl) (by decide) ?_
  refine lv_iand (pc := 40) hx hb (zdt_at zt_X9_intAt_0 31 rfl) ?_
  refine lv_ior (pc := 41) hx hb (zdt_at zt_X9_intAt_0 32 rfl) ?_
  cases hf
  exact W.iret (pc := 42) hx hb hr (fun t ht hW => ⟨rfl, ht⟩) (fun _ h => nomatch h) (zdt_at zt_X9_intAt_0 33 rfl)
set_option maxHeartbeats 4000000 in
set_option maxRecDepth 100000 in
theorem c_X0_setKey_1PK (l : Launch) (D : va_G) (cy : Nat → ClassId) (tt : Nat → Nat) (sz : Nat) (h0 : Nat) (h0_keys : Nat) (hP_o : Nat → Nat) (hP_k : Nat → Nat) (j1 : Nat) (p2 : Int32) (c_rounds : Int32) (c_keys : Nat → Int32) (cPK : Nat → Nat → Int32) (cP_kind : Nat → Int32) (cP_length : Nat → Int32) (cP_usage : Nat → Int32) (cP_role : Nat → Int32) (cP_uses : Nat → Int32) (c_rounds' : Int32) (c_keys' : Nat → Int32) (hj_j1 : j1 < 16) (hf : f_X0_setKey_1PK j1 p2 c_rounds c_keys cPK = some (c_rounds', c_keys')) : Met l yX0_setKey wsX0_setKey ({ frames := 1, cells := 0, slots := 0, locals := 23 }) (zPc D cy tt sz [.ref h0, .ref (hP_k j1), .int p2] ([(h0, .inr (2, [.ref h0_keys, .int c_rounds])), (h0_keys, .inl (cy 1, 60, .inl c_keys))] ++ zpl (cy 0) hP_o hP_k cP_kind cP_length cP_usage cP_role cP_uses cPK)) (zQ D none ([(h0, .inr (2, [.ref h0_keys, .int c_rounds'])), (h0_keys, .inl (cy 1, 60, .inl c_keys'))] ++ zpl (cy 0) hP_o hP_k cP_kind cP_length cP_usage cP_role cP_uses cPK) (va_A ([(h0, .inr (2, [.ref h0_keys, .int c_rounds])), (h0_keys, .inl (cy 1, 60, .inl c_keys))] ++ zpl (cy 0) hP_o hP_k cP_kind cP_length cP_usage cP_role cP_uses cPK) sz)) 0 0 (va_A ([(h0, .inr (2, [.ref h0_keys, .int c_rounds])), (h0_keys, .inl (cy 1, 60, .inl c_keys))] ++ zpl (cy 0) hP_o hP_k cP_kind cP_length cP_usage cP_role cP_uses cPK) sz) := by
  refine Met.ofW (cc := cX0_setKey) (maxL := 9) (ret := none) (by decide) rfl ?_
  intro p e s m args below meth c s₁ B hml hv
  obtain ⟨rfl, rfl, hP, hD0, hE⟩ := hv
  have hx := B.exec
  have hb := B.bytes
  have hr := B.returns
  have hts := atoms_spec (ws := wsX0_setKey) B.pre
  have hown : s.vm.findClass RX0 = some m.cls := findClass_of_methodNamed B.named
  have hlocks := B.notSynchronized
  clear B
  have hD := hD0.self (sz := s.heap.size)
  generalize hAe : va_A ([(h0, .inr (2, [.ref h0_keys, .int c_rounds])), (h0_keys, .inl (cy 1, 60, .inl c_keys))] ++ zpl (cy 0) hP_o hP_k cP_kind cP_length cP_usage cP_role cP_uses cPK) s.heap.size = A at hD hE ⊢
  have hA : ∀ q : Nat, s.heap.size ≤ q → A q := fun q h => by rw [← hAe]; exact Or.inr h
  clear hAe hD0
  have hS : va_S A s.heap s.heap [] := va_S.rf
  have hK := hE.1
  have hw0 := hts (.fieldLink RX0 13 "SealedModule$Aes" "rounds" "I") (by decide +kernel)
  have hw1 := hts (.constant RX0 23 (16777216)) (by decide +kernel)
  have hw2 := hts (.fieldLink RX0 7 "SealedModule$Aes" "keys" "[I") (by decide +kernel)
  have hw3 := hts (.constant RX0 28 (-2147483648)) (by decide +kernel)
  have hw4 := hts (.constant RX0 29 (452984832)) (by decide +kernel)
  have hw5 := hts (.initialized RX9) (by decide +kernel)
  have hw6 := hts (.static yX9_intAt) (by decide +kernel)
  have hcX0 : ∀ w ∈ u_ws RX0 TX0 2, w ∈ wsX0_setKey := (fun _ h => List.mem_cons_of_mem _ (List.mem_append_right _ h))
  have hl := lv_entry ([.ref h0, .ref (hP_k j1), .int p2]) (n := 9) (Nat.le_of_ble_eq_true rfl)
  rw [lg_entry_eq]
  generalize (lg_sl ([.ref h0, .ref (hP_k j1), .int p2]) ++ List.replicate (9 - (lg_sl ([.ref h0, .ref (hP_k j1), .int p2])).length) Slot.unset).toArray = ls at hl ⊢
  replace hl : lv_has ls 9 [(0, .ref h0), (1, .ref (hP_k j1)), (2, .int p2)] := hl
  unfold f_X0_setKey_1PK at hf
  refine zgo (fun GW hTo hFr => ?_)
  refine hFr _ _ _ ?_
  obtain ⟨H, hHe⟩ : ∃ H, H = s.heap := ⟨_, rfl⟩
  obtain ⟨locs, hLe⟩ : ∃ L : List Loc, L = [] := ⟨_, rfl⟩
  rw [← hHe] at hP
  replace hS : va_S A s.heap H locs := by rw [hHe, hLe]; exact hS
  refine zat hHe.symm hLe.symm ?_
  clear hHe hLe
  refine lv_iload_n (pc := 0) hx hb (zdt_at zt_X0_setKey_0 0 rfl) rfl (lv_at hl 2 rfl) ?_
  refine lv_bipush (pc := 1) (v := (32 : Int32)) hx hb (zdt_at zt_X0_setKey_0 1 rfl) (by decide) ?_
  replace hf := zj_s hf
  obtain ⟨K_2, eK_2, hf⟩ := hf
  have kK_2 : ∀ (v_1 : Int32) (H : Heap) (locs : List Loc) (ls : Array Slot), va_P D vwCl ([(h0, .inr (2, [.ref h0_keys, .int c_rounds])), (h0_keys, .inl (cy 1, 60, .inl c_keys))] ++ zpl (cy 0) hP_o hP_k cP_kind cP_length cP_usage cP_role cP_uses cPK) H → va_D A ([(h0, .inr (2, [.ref h0_keys, .int c_rounds])), (h0_keys, .inl (cy 1, 60, .inl c_keys))] ++ zpl (cy 0) hP_o hP_k cP_kind cP_length cP_usage cP_role cP_uses cPK) → va_S A s.heap H locs → lv_has ls 9 [(0, .ref h0), (1, .ref (hP_k j1))] → K_2 v_1 = some (c_rounds', c_keys') → GW H locs (F0 m 12 ls [.int v_1]) := by
    clear hf hl hP hD hS
    intro v_1 H locs ls hP hD hS hl hf
    rw [eK_2] at hf
    clear eK_2
    refine hFr _ _ _ ?_
    refine lv_istore_n (pc := 12) (lv' := [(3, .int v_1), (0, .ref h0), (1, .ref (hP_k j1))]) hx hb (zdt_at zt_X0_setKey_0 6 rfl) rfl hl (by decide) rfl ?_
    clear hl
    intro ls hl
    refine lv_aload_n (pc := 13) hx hb (zdt_at zt_X0_setKey_0 7 rfl) rfl (lv_at hl 1 rfl) ?_
    refine lv_iload_n (pc := 14) hx hb (zdt_at zt_X0_setKey_0 8 rfl) rfl (lv_at hl 0 rfl) ?_
    refine lv_bipush (pc := 15) (v := (6 : Int32)) hx hb (zdt_at zt_X0_setKey_0 9 rfl) (by decide) ?_
    refine lv_iadd (pc := 17) hx hb (zdt_at zt_X0_setKey_0 10 rfl) ?_
    refine lv_topi (fun x_3 e_ => ?_)
    replace hf := zn_s hf e_
    clear e_
    refine va_put (pc := 18) (D := D) (ci := 2) (v := .int x_3) (ty := .int) (C := RX0) (T := TX0) (N := 2) hx hb hts hcX0 tyX0 tyX0_ok nmX0 hown hK hP hD hS 0 rfl rfl 1 (by decide) hw0 (fun _ h9 => h9) rfl (by decide +kernel) rfl rfl (Nat.le_of_ble_eq_true rfl) (zdt_at zt_X0_setKey_0 11 rfl) ?_
    clear hP hD hS
    intro H locs hP hD hS
    replace hP : va_P D vwCl ([(h0, .inr (2, [.ref h0_keys, .int x_3])), (h0_keys, .inl (cy 1, 60, .inl c_keys))] ++ zpl (cy 0) hP_o hP_k cP_kind cP_length cP_usage cP_role cP_uses cPK) H := hP
    replace hD : va_D A ([(h0, .inr (2, [.ref h0_keys, .int x_3])), (h0_keys, .inl (cy 1, 60, .inl c_keys))] ++ zpl (cy 0) hP_o hP_k cP_kind cP_length cP_usage cP_role cP_uses cPK) := hD
    refine lv_iconst (pc := 21) (v := (0 : Int32)) hx hb (zdt_at zt_X0_setKey_0 12 rfl) (by decide) ?_
    refine lv_istore (pc := 22) (lv' := [(4, .int (0 : Int32)), (3, .int v_1), (0, .ref h0), (1, .ref (hP_k j1))]) hx hb (zdt_at zt_X0_setKey_0 13 rfl) hl (by decide) rfl ?_
    clear hl
    intro ls hl
    replace hf := zj_s hf
    obtain ⟨K_7, eK_7, hf⟩ := hf
    have kK_7 : ∀ (c_keys_6 : Nat → Int32) (H : Heap) (locs : List Loc) (ls : Array Slot), va_P D vwCl ([(h0, .inr (2, [.ref h0_keys, .int x_3])), (h0_keys, .inl (cy 1, 60, .inl c_keys_6))] ++ zpl (cy 0) hP_o hP_k cP_kind cP_length cP_usage cP_role cP_uses cPK) H → va_D A ([(h0, .inr (2, [.ref h0_keys, .int x_3])), (h0_keys, .inl (cy 1, 60, .inl c_keys_6))] ++ zpl (cy 0) hP_o hP_k cP_kind cP_length cP_usage cP_role cP_uses cPK) → va_S A s.heap H locs → lv_has ls 9 [(0, .ref h0), (3, .int v_1)] → K_7 c_keys_6 = some (c_rounds', c_keys') → GW H locs (F0 m 51 ls []) := by
      clear hf hl hP hD hS
      intro c_keys_6 H locs ls hP hD hS hl hf
      rw [eK_7] at hf
      clear eK_7
      refine hFr _ _ _ ?_
      refine lv_ldc (pc := 51) hx hb hown hw1 (zdt_at zt_X0_setKey_0 28 rfl) ?_
      refine lv_istore (pc := 53) (lv' := [(4, .int (16777216 : Int32)), (0, .ref h0), (3, .int v_1)]) hx hb (zdt_at zt_X0_setKey_0 29 rfl) hl (by decide) rfl ?_
      clear hl
      intro ls hl
      refine lv_iload_n (pc := 55) hx hb (zdt_at zt_X0_setKey_0 30 rfl) rfl (lv_at hl 2 rfl) ?_
      refine lv_istore (pc := 56) (lv' := [(5, .int v_1), (4, .int (16777216 : Int32)), (0, .ref h0), (3, .int v_1)]) hx hb (zdt_at zt_X0_setKey_0 31 rfl) hl (by decide) rfl ?_
      clear hl
      intro ls hl
      replace hf := zj_s hf
      obtain ⟨K_12, eK_12, hf⟩ := hf
      have kK_12 : ∀ (c_keys_11 : Nat → Int32) (H : Heap) (locs : List Loc) (ls : Array Slot), va_P D vwCl ([(h0, .inr (2, [.ref h0_keys, .int x_3])), (h0_keys, .inl (cy 1, 60, .inl c_keys_11))] ++ zpl (cy 0) hP_o hP_k cP_kind cP_length cP_usage cP_role cP_uses cPK) H → va_D A ([(h0, .inr (2, [.ref h0_keys, .int x_3])), (h0_keys, .inl (cy 1, 60, .inl c_keys_11))] ++ zpl (cy 0) hP_o hP_k cP_kind cP_length cP_usage cP_role cP_uses cPK) → va_S A s.heap H locs → lv_has ls 9 [] → K_12 c_keys_11 = some (c_rounds', c_keys') → GW H locs (F0 m 189 ls []) := by
        clear hf hl hP hD hS
        intro c_keys_11 H locs ls hP hD hS hl hf
        rw [eK_12] at hf
        clear eK_12
        refine hFr _ _ _ ?_
        cases hf
        exact W.vret (pc := 189) hx hb hr (fun t ht hW => ⟨rfl, ⟨by rw [ht]; exact hP, hD⟩, hS.F ht⟩) hS.2.2 (zdt_at zt_X0_setKey_1 40 rfl)
      clear eK_12
      refine hTo _ _ _ (zl_go (fun z => match z with | (i_8, i_9, c_keys_10) => ∀ (H : Heap) (locs : List Loc) (ls : Array Slot), va_P D vwCl ([(h0, .inr (2, [.ref h0_keys, .int x_3])), (h0_keys, .inl (cy 1, 60, .inl c_keys_10))] ++ zpl (cy 0) hP_o hP_k cP_kind cP_length cP_usage cP_role cP_uses cPK) H → va_D A ([(h0, .inr (2, [.ref h0_keys, .int x_3])), (h0_keys, .inl (cy 1, 60, .inl c_keys_10))] ++ zpl (cy 0) hP_o hP_k cP_kind cP_length cP_usage cP_role cP_uses cPK) → va_S A s.heap H locs → lv_has ls 9 [(0, .ref h0), (3, .int v_1), (4, .int i_8), (5, .int i_9)] → GW H locs (F0 m 58 ls [])) hf ?_ H locs ls hP hD hS (lv_sub hl [2, 3, 1, 0] rfl))
      clear hf hl hP hD hS
      intro self_13 ihself_13 z hf
      obtain ⟨i_8, i_9, c_keys_10⟩ := z
      intro H locs ls hP hD hS hl
      refine hFr _ _ _ ?_
      unfold b_X0_setKey_1PK_58 at hf
      refine lv_iload (pc := 58) hx hb (zdt_at zt_X0_setKey_0 32 rfl) (lv_at hl 3 rfl) ?_
      refine lv_iconst (pc := 60) (v := (4 : Int32)) hx hb (zdt_at zt_X0_setKey_0 33 rfl) (by decide) ?_
      refine lv_aload_n (pc := 61) hx hb (zdt_at zt_X0_setKey_0 34 rfl) rfl (lv_at hl 0 rfl) ?_
      refine va_get (pc := 62) (D := D) (ci := 2) (v := .int x_3) (C := RX0) (T := TX0) (N := 2) hx hb hts hcX0 hown hK hP 0 rfl rfl 1 (by decide) hw0 (fun _ h9 => h9) rfl (zdt_at zt_X0_setKey_0 35 rfl) ?_
      refine lv_imul (pc := 65) hx hb (zdt_at zt_X0_setKey_0 36 rfl) ?_
      refine lv_iconst (pc := 66) (v := (4 : Int32)) hx hb (zdt_at zt_X0_setKey_0 37 rfl) (by decide) ?_
      refine lv_iadd (pc := 67) hx hb (zdt_at zt_X0_setKey_0 38 rfl) ?_
      refine lv_icmp_ge (pc := 68) (tgt := 189) hx hb (zdt_at zt_X0_setKey_0 39 rfl) (by decide) (fun cn_ => ?t_14) (fun cn_ => ?f_15)
      case t_14 =>
        replace hf := zt_s cn_ hf
        clear cn_
        exact hTo _ _ _ (kK_12 _ H locs ls hP hD hS (lv_sub hl [] rfl) hf)
      replace hf := ze_s cn_ hf
      clear cn_
      refine lv_aload_n (pc := 71) hx hb (zdt_at zt_X0_setKey_0 40 rfl) rfl (lv_at hl 0 rfl) ?_
      refine va_get (pc := 72) (D := D) (ci := 2) (v := .ref h0_keys) (C := RX0) (T := TX0) (N := 2) hx hb hts hcX0 hown hK hP 0 rfl rfl 0 (by decide) hw2 (fun _ h9 => h9) rfl (zdt_at zt_X0_setKey_0 41 rfl) ?_
      refine lv_iload (pc := 75) hx hb (zdt_at zt_X0_setKey_0 42 rfl) (lv_at hl 3 rfl) ?_
      refine lv_iconst (pc := 77) (v := (1 : Int32)) hx hb (zdt_at zt_X0_setKey_0 43 rfl) (by decide) ?_
      refine lv_isub (pc := 78) hx hb (zdt_at zt_X0_setKey_0 44 rfl) ?_
      replace hf := zk_s hf
      refine va_iald (pc := 79) hx hb hK hP 1 1 rfl rfl hf.1 (zdt_at zt_X0_setKey_0 45 rfl) ?_
      replace hf := hf.2
      refine lv_topi (fun x_16 e_ => ?_)
      replace hf := zn_s hf e_
      clear e_
      refine lv_istore (pc := 80) (lv' := [(6, .int x_16), (0, .ref h0), (3, .int v_1), (4, .int i_8), (5, .int i_9)]) hx hb (zdt_at zt_X0_setKey_0 46 rfl) hl (by decide) rfl ?_
      clear hl
      intro ls hl
      refine lv_iload (pc := 82) hx hb (zdt_at zt_X0_setKey_0 47 rfl) (lv_at hl 4 rfl) ?_
      refine lv_iload_n (pc := 84) hx hb (zdt_at zt_X0_setKey_0 48 rfl) rfl (lv_at hl 2 rfl) ?_
      refine lv_iconst (pc := 85) (v := (1 : Int32)) hx hb (zdt_at zt_X0_setKey_0 49 rfl) (by decide) ?_
      refine lv_isub (pc := 86) hx hb (zdt_at zt_X0_setKey_0 50 rfl) ?_
      refine lv_iand (pc := 87) hx hb (zdt_at zt_X0_setKey_0 51 rfl) ?_
      refine lv_topi (fun x_17 e_ => ?_)
      replace hf := zn_s hf e_
      clear e_
      refine lv_istore (pc := 88) (lv' := [(7, .int x_17), (6, .int x_16), (0, .ref h0), (3, .int v_1), (4, .int i_8), (5, .int i_9)]) hx hb (zdt_at zt_X0_setKey_0 52 rfl) hl (by decide) rfl ?_
      clear hl
      intro ls hl
      refine lv_iload (pc := 90) hx hb (zdt_at zt_X0_setKey_0 53 rfl) (lv_at hl 0 rfl) ?_
      refine lv_if_ne (pc := 92) (tgt := 145) hx hb (zdt_at zt_X0_setKey_0 54 rfl) (by decide) (fun cn_ => ?t_18) (fun cn_ => ?f_19)
      case t_18 =>
        replace hf := ze_s cn_ hf
        clear cn_
        refine lv_iload (pc := 145) hx hb (zdt_at zt_X0_setKey_1 17 rfl) (lv_at hl 0 rfl) ?_
        refine lv_iconst (pc := 147) (v := (4 : Int32)) hx hb (zdt_at zt_X0_setKey_1 18 rfl) (by decide) ?_
        refine lv_icmp_ne (pc := 148) (tgt := 164) hx hb (zdt_at zt_X0_setKey_1 19 rfl) (by decide) (fun cn_ => ?t_20) (fun cn_ => ?f_21)
        case t_20 =>
          replace hf := ze_s cn_ hf
          clear cn_
          refine lv_aload_n (pc := 164) hx hb (zdt_at zt_X0_setKey_1 26 rfl) rfl (lv_at hl 2 rfl) ?_
          refine va_get (pc := 165) (D := D) (ci := 2) (v := .ref h0_keys) (C := RX0) (T := TX0) (N := 2) hx hb hts hcX0 hown hK hP 0 rfl rfl 0 (by decide) hw2 (fun _ h9 => h9) rfl (zdt_at zt_X0_setKey_1 27 rfl) ?_
          refine lv_iload (pc := 168) hx hb (zdt_at zt_X0_setKey_1 28 rfl) (lv_at hl 5 rfl) ?_
          refine lv_aload_n (pc := 170) hx hb (zdt_at zt_X0_setKey_1 29 rfl) rfl (lv_at hl 2 rfl) ?_
          refine va_get (pc := 171) (D := D) (ci := 2) (v := .ref h0_keys) (C := RX0) (T := TX0) (N := 2) hx hb hts hcX0 hown hK hP 0 rfl rfl 0 (by decide) hw2 (fun _ h9 => h9) rfl (zdt_at zt_X0_setKey_1 30 rfl) ?_
          refine lv_iload (pc := 174) hx hb (zdt_at zt_X0_setKey_1 31 rfl) (lv_at hl 5 rfl) ?_
          refine lv_iload_n (pc := 176) hx hb (zdt_at zt_X0_setKey_1 32 rfl) rfl (lv_at hl 3 rfl) ?_
          refine lv_isub (pc := 177) hx hb (zdt_at zt_X0_setKey_1 33 rfl) ?_
          replace hf := zk_s hf
          refine va_iald (pc := 178) hx hb hK hP 1 1 rfl rfl hf.1 (zdt_at zt_X0_setKey_1 34 rfl) ?_
          replace hf := hf.2
          refine lv_iload (pc := 179) hx hb (zdt_at zt_X0_setKey_1 35 rfl) (lv_at hl 1 rfl) ?_
          refine lv_ixor (pc := 181) hx hb (zdt_at zt_X0_setKey_1 36 rfl) ?_
          replace hf := zk_s hf
          refine va_iast (pc := 182) hx hb hK hP hD hS 1 1 rfl rfl hf.1 (zdt_at zt_X0_setKey_1 37 rfl) ?_
          replace hf := hf.2
          clear hP hD hS
          intro H locs hP hD hS
          obtain ⟨c_keys_22, e_⟩ : ∃ q : Nat → Int32, q = (upd c_keys_10 i_9.toNatClampNeg ((c_keys_10 (i_9 - v_1).toNatClampNeg) ^^^ x_16)) := ⟨_, rfl⟩
          replace hf := zn_s hf e_
          replace hP : va_P D vwCl ([(h0, .inr (2, [.ref h0_keys, .int x_3])), (h0_keys, .inl (cy 1, 60, .inl c_keys_22))] ++ zpl (cy 0) hP_o hP_k cP_kind cP_length cP_usage cP_role cP_uses cPK) H := by rw [e_]; exact hP
          replace hD : va_D A ([(h0, .inr (2, [.ref h0_keys, .int x_3])), (h0_keys, .inl (cy 1, 60, .inl c_keys_22))] ++ zpl (cy 0) hP_o hP_k cP_kind cP_length cP_usage cP_role cP_uses cPK) := by rw [e_]; exact hD
          clear e_
          refine lv_iinc (pc := 183) (v := (i_9 + (1 : Int32))) (lv' := [(5, .int (i_9 + (1 : Int32))), (7, .int x_17), (6, .int x_16), (0, .ref h0), (3, .int v_1), (4, .int i_8)]) hx hb (zdt_at zt_X0_setKey_1 38 rfl) hl (k := 5) rfl rfl (by decide) rfl ?_
          clear hl
          intro ls hl
          refine lv_goto (pc := 186) (tgt := 58) hx hb (zdt_at zt_X0_setKey_1 39 rfl) (by decide) ?_
          exact hTo _ _ _ (ihself_13 _ hf H locs ls hP hD hS (lv_sub hl [3, 4, 5, 0] rfl))
        replace hf := zt_s cn_ hf
        clear cn_
        refine lv_iload (pc := 151) hx hb (zdt_at zt_X0_setKey_1 20 rfl) (lv_at hl 1 rfl) ?_
        refine lv_iload (pc := 153) hx hb (zdt_at zt_X0_setKey_1 21 rfl) (lv_at hl 1 rfl) ?_
        refine lv_iload (pc := 155) hx hb (zdt_at zt_X0_setKey_1 22 rfl) (lv_at hl 1 rfl) ?_
        refine lv_iload (pc := 157) hx hb (zdt_at zt_X0_setKey_1 23 rfl) (lv_at hl 1 rfl) ?_
        replace hf := zb_s hf
        obtain ⟨r_23, hc_, hf⟩ := hf
        refine zcs (pc := 159) (rv := (some (.int r_23))) (va_runS (As := [.int x_16, .int x_16, .int x_16, .int x_16]) (rest := []) ⟨hx, hb, hml, hown, hts⟩ (c_X0_boxed l D cy tt H.size x_16 x_16 x_16 x_16 r_23 hc_) (va_cwS 4 hts gX0_setKey_X0_boxed rfl rfl rfl (by decide +kernel) ⟨Nat.le_of_ble_eq_true rfl, Nat.le_of_ble_eq_true rfl⟩) ⟨zblind, zpre hE hS (hP.sub [] rfl) (hD.sub [] (by decide) rfl) (va_free hD hS hA [] rfl)⟩ rfl rfl hl.1 rfl (lv_room (Nat.le_of_ble_eq_true rfl)) (zdt_at zt_X0_setKey_1 24 rfl) ⟨Nat.zero_le _, Nat.zero_le _⟩) ?_
        clear hc_
        refine W.eq (g2 := F0 m 162 ls [.int r_23]) rfl ?_
        refine lv_istore (pc := 162) (lv' := [(6, .int r_23), (7, .int x_17), (0, .ref h0), (3, .int v_1), (4, .int i_8), (5, .int i_9)]) hx hb (zdt_at zt_X0_setKey_1 25 rfl) hl (by decide) rfl ?_
        clear hl
        intro ls hl
        refine lv_aload_n (pc := 164) hx hb (zdt_at zt_X0_setKey_1 26 rfl) rfl (lv_at hl 2 rfl) ?_
        refine va_get (pc := 165) (D := D) (ci := 2) (v := .ref h0_keys) (C := RX0) (T := TX0) (N := 2) hx hb hts hcX0 hown hK hP 0 rfl rfl 0 (by decide) hw2 (fun _ h9 => h9) rfl (zdt_at zt_X0_setKey_1 27 rfl) ?_
        refine lv_iload (pc := 168) hx hb (zdt_at zt_X0_setKey_1 28 rfl) (lv_at hl 5 rfl) ?_
        refine lv_aload_n (pc := 170) hx hb (zdt_at zt_X0_setKey_1 29 rfl) rfl (lv_at hl 2 rfl) ?_
        refine va_get (pc := 171) (D := D) (ci := 2) (v := .ref h0_keys) (C := RX0) (T := TX0) (N := 2) hx hb hts hcX0 hown hK hP 0 rfl rfl 0 (by decide) hw2 (fun _ h9 => h9) rfl (zdt_at zt_X0_setKey_1 30 rfl) ?_
        refine lv_iload (pc := 174) hx hb (zdt_at zt_X0_setKey_1 31 rfl) (lv_at hl 5 rfl) ?_
        refine lv_iload_n (pc := 176) hx hb (zdt_at zt_X0_setKey_1 32 rfl) rfl (lv_at hl 3 rfl) ?_
        refine lv_isub (pc := 177) hx hb (zdt_at zt_X0_setKey_1 33 rfl) ?_
        replace hf := zk_s hf
        refine va_iald (pc := 178) hx hb hK hP 1 1 rfl rfl hf.1 (zdt_at zt_X0_setKey_1 34 rfl) ?_
        replace hf := hf.2
        refine lv_iload (pc := 179) hx hb (zdt_at zt_X0_setKey_1 35 rfl) (lv_at hl 0 rfl) ?_
        refine lv_ixor (pc := 181) hx hb (zdt_at zt_X0_setKey_1 36 rfl) ?_
        replace hf := zk_s hf
        refine va_iast (pc := 182) hx hb hK hP hD hS 1 1 rfl rfl hf.1 (zdt_at zt_X0_setKey_1 37 rfl) ?_
        replace hf := hf.2
        clear hP hD hS
        intro H locs hP hD hS
        obtain ⟨c_keys_24, e_⟩ : ∃ q : Nat → Int32, q = (upd c_keys_10 i_9.toNatClampNeg ((c_keys_10 (i_9 - v_1).toNatClampNeg) ^^^ r_23)) := ⟨_, rfl⟩
        replace hf := zn_s hf e_
        replace hP : va_P D vwCl ([(h0, .inr (2, [.ref h0_keys, .int x_3])), (h0_keys, .inl (cy 1, 60, .inl c_keys_24))] ++ zpl (cy 0) hP_o hP_k cP_kind cP_length cP_usage cP_role cP_uses cPK) H := by rw [e_]; exact hP
        replace hD : va_D A ([(h0, .inr (2, [.ref h0_keys, .int x_3])), (h0_keys, .inl (cy 1, 60, .inl c_keys_24))] ++ zpl (cy 0) hP_o hP_k cP_kind cP_length cP_usage cP_role cP_uses cPK) := by rw [e_]; exact hD
        clear e_
        refine lv_iinc (pc := 183) (v := (i_9 + (1 : Int32))) (lv' := [(5, .int (i_9 + (1 : Int32))), (6, .int r_23), (7, .int x_17), (0, .ref h0), (3, .int v_1), (4, .int i_8)]) hx hb (zdt_at zt_X0_setKey_1 38 rfl) hl (k := 5) rfl rfl (by decide) rfl ?_
        clear hl
        intro ls hl
        refine lv_goto (pc := 186) (tgt := 58) hx hb (zdt_at zt_X0_setKey_1 39 rfl) (by decide) ?_
        exact hTo _ _ _ (ihself_13 _ hf H locs ls hP hD hS (lv_sub hl [3, 4, 5, 0] rfl))
      replace hf := zt_s cn_ hf
      clear cn_
      refine lv_iload (pc := 95) hx hb (zdt_at zt_X0_setKey_0 55 rfl) (lv_at hl 1 rfl) ?_
      refine lv_bipush (pc := 97) (v := (8 : Int32)) hx hb (zdt_at zt_X0_setKey_0 56 rfl) (by decide) ?_
      refine lv_ishl (pc := 99) hx hb (zdt_at zt_X0_setKey_0 57 rfl) ?_
      refine lv_iload (pc := 100) hx hb (zdt_at zt_X0_setKey_0 58 rfl) (lv_at hl 1 rfl) ?_
      refine lv_bipush (pc := 102) (v := (24 : Int32)) hx hb (zdt_at zt_X0_setKey_0 59 rfl) (by decide) ?_
      refine lv_iushr (pc := 104) hx hb (zdt_at zt_X0_setKey_0 60 rfl) rfl ?_
      refine lv_ior (pc := 105) hx hb (zdt_at zt_X0_setKey_0 61 rfl) ?_
      refine lv_topi (fun x_25 e_ => ?_)
      replace hf := zn_s hf e_
      clear e_
      refine lv_istore (pc := 106) (lv' := [(8, .int x_25), (7, .int x_17), (6, .int x_16), (0, .ref h0), (3, .int v_1), (4, .int i_8), (5, .int i_9)]) hx hb (zdt_at zt_X0_setKey_0 62 rfl) hl (by decide) rfl ?_
      clear hl
      intro ls hl
      refine lv_iload (pc := 108) hx hb (zdt_at zt_X0_setKey_0 63 rfl) (lv_at hl 0 rfl) ?_
      refine lv_iload (pc := 110) hx hb (zdt_at zt_X0_setKey_1 0 rfl) (lv_at hl 0 rfl) ?_
      refine lv_iload (pc := 112) hx hb (zdt_at zt_X0_setKey_1 1 rfl) (lv_at hl 0 rfl) ?_
      refine lv_iload (pc := 114) hx hb (zdt_at zt_X0_setKey_1 2 rfl) (lv_at hl 0 rfl) ?_
      replace hf := zb_s hf
      obtain ⟨r_26, hc_, hf⟩ := hf
      refine zcs (pc := 116) (rv := (some (.int r_26))) (va_runS (As := [.int x_25, .int x_25, .int x_25, .int x_25]) (rest := []) ⟨hx, hb, hml, hown, hts⟩ (c_X0_boxed l D cy tt H.size x_25 x_25 x_25 x_25 r_26 hc_) (va_cwS 4 hts gX0_setKey_X0_boxed rfl rfl rfl (by decide +kernel) ⟨Nat.le_of_ble_eq_true rfl, Nat.le_of_ble_eq_true rfl⟩) ⟨zblind, zpre hE hS (hP.sub [] rfl) (hD.sub [] (by decide) rfl) (va_free hD hS hA [] rfl)⟩ rfl rfl hl.1 rfl (lv_room (Nat.le_of_ble_eq_true rfl)) (zdt_at zt_X0_setKey_1 3 rfl) ⟨Nat.zero_le _, Nat.zero_le _⟩) ?_
      clear hc_
      refine W.eq (g2 := F0 m 119 ls [.int r_26]) rfl ?_
      refine lv_iload (pc := 119) hx hb (zdt_at zt_X0_setKey_1 4 rfl) (lv_at hl 5 rfl) ?_
      refine lv_ixor (pc := 121) hx hb (zdt_at zt_X0_setKey_1 5 rfl) ?_
      refine lv_topi (fun x_27 e_ => ?_)
      replace hf := zn_s hf e_
      clear e_
      refine lv_istore (pc := 122) (lv' := [(6, .int x_27), (8, .int x_25), (7, .int x_17), (0, .ref h0), (3, .int v_1), (4, .int i_8), (5, .int i_9)]) hx hb (zdt_at zt_X0_setKey_1 6 rfl) hl (by decide) rfl ?_
      clear hl
      intro ls hl
      refine lv_iload (pc := 124) hx hb (zdt_at zt_X0_setKey_1 7 rfl) (lv_at hl 5 rfl) ?_
      refine lv_ldc (pc := 126) hx hb hown hw3 (zdt_at zt_X0_setKey_1 8 rfl) ?_
      replace hf := zj_s hf
      obtain ⟨K_29, eK_29, hf⟩ := hf
      have kK_29 : ∀ (v_28 : Int32) (H : Heap) (locs : List Loc) (ls : Array Slot), va_P D vwCl ([(h0, .inr (2, [.ref h0_keys, .int x_3])), (h0_keys, .inl (cy 1, 60, .inl c_keys_10))] ++ zpl (cy 0) hP_o hP_k cP_kind cP_length cP_usage cP_role cP_uses cPK) H → va_D A ([(h0, .inr (2, [.ref h0_keys, .int x_3])), (h0_keys, .inl (cy 1, 60, .inl c_keys_10))] ++ zpl (cy 0) hP_o hP_k cP_kind cP_length cP_usage cP_role cP_uses cPK) → va_S A s.heap H locs → lv_has ls 9 [(0, .ref h0), (3, .int v_1), (5, .int i_9), (6, .int x_27)] → K_29 v_28 = some (c_rounds', c_keys') → GW H locs (F0 m 140 ls [.int v_28]) := by
        clear hf hl hP hD hS
        intro v_28 H locs ls hP hD hS hl hf
        rw [eK_29] at hf
        clear eK_29
        refine hFr _ _ _ ?_
        refine lv_istore (pc := 140) (lv' := [(4, .int v_28), (0, .ref h0), (3, .int v_1), (5, .int i_9), (6, .int x_27)]) hx hb (zdt_at zt_X0_setKey_1 15 rfl) hl (by decide) rfl ?_
        clear hl
        intro ls hl
        refine lv_goto (pc := 142) (tgt := 164) hx hb (zdt_at zt_X0_setKey_1 16 rfl) (by decide) ?_
        refine lv_aload_n (pc := 164) hx hb (zdt_at zt_X0_setKey_1 26 rfl) rfl (lv_at hl 1 rfl) ?_
        refine va_get (pc := 165) (D := D) (ci := 2) (v := .ref h0_keys) (C := RX0) (T := TX0) (N := 2) hx hb hts hcX0 hown hK hP 0 rfl rfl 0 (by decide) hw2 (fun _ h9 => h9) rfl (zdt_at zt_X0_setKey_1 27 rfl) ?_
        refine lv_iload (pc := 168) hx hb (zdt_at zt_X0_setKey_1 28 rfl) (lv_at hl 3 rfl) ?_
        refine lv_aload_n (pc := 170) hx hb (zdt_at zt_X0_setKey_1 29 rfl) rfl (lv_at hl 1 rfl) ?_
        refine va_get (pc := 171) (D := D) (ci := 2) (v := .ref h0_keys) (C := RX0) (T := TX0) (N := 2) hx hb hts hcX0 hown hK hP 0 rfl rfl 0 (by decide) hw2 (fun _ h9 => h9) rfl (zdt_at zt_X0_setKey_1 30 rfl) ?_
        refine lv_iload (pc := 174) hx hb (zdt_at zt_X0_setKey_1 31 rfl) (lv_at hl 3 rfl) ?_
        refine lv_iload_n (pc := 176) hx hb (zdt_at zt_X0_setKey_1 32 rfl) rfl (lv_at hl 2 rfl) ?_
        refine lv_isub (pc := 177) hx hb (zdt_at zt_X0_setKey_1 33 rfl) ?_
        replace hf := zk_s hf
        refine va_iald (pc := 178) hx hb hK hP 1 1 rfl rfl hf.1 (zdt_at zt_X0_setKey_1 34 rfl) ?_
        replace hf := hf.2
        refine lv_iload (pc := 179) hx hb (zdt_at zt_X0_setKey_1 35 rfl) (lv_at hl 4 rfl) ?_
        refine lv_ixor (pc := 181) hx hb (zdt_at zt_X0_setKey_1 36 rfl) ?_
        replace hf := zk_s hf
        refine va_iast (pc := 182) hx hb hK hP hD hS 1 1 rfl rfl hf.1 (zdt_at zt_X0_setKey_1 37 rfl) ?_
        replace hf := hf.2
        clear hP hD hS
        intro H locs hP hD hS
        obtain ⟨c_keys_30, e_⟩ : ∃ q : Nat → Int32, q = (upd c_keys_10 i_9.toNatClampNeg ((c_keys_10 (i_9 - v_1).toNatClampNeg) ^^^ x_27)) := ⟨_, rfl⟩
        replace hf := zn_s hf e_
        replace hP : va_P D vwCl ([(h0, .inr (2, [.ref h0_keys, .int x_3])), (h0_keys, .inl (cy 1, 60, .inl c_keys_30))] ++ zpl (cy 0) hP_o hP_k cP_kind cP_length cP_usage cP_role cP_uses cPK) H := by rw [e_]; exact hP
        replace hD : va_D A ([(h0, .inr (2, [.ref h0_keys, .int x_3])), (h0_keys, .inl (cy 1, 60, .inl c_keys_30))] ++ zpl (cy 0) hP_o hP_k cP_kind cP_length cP_usage cP_role cP_uses cPK) := by rw [e_]; exact hD
        clear e_
        refine lv_iinc (pc := 183) (v := (i_9 + (1 : Int32))) (lv' := [(5, .int (i_9 + (1 : Int32))), (4, .int v_28), (0, .ref h0), (3, .int v_1), (6, .int x_27)]) hx hb (zdt_at zt_X0_setKey_1 38 rfl) hl (k := 3) rfl rfl (by decide) rfl ?_
        clear hl
        intro ls hl
        refine lv_goto (pc := 186) (tgt := 58) hx hb (zdt_at zt_X0_setKey_1 39 rfl) (by decide) ?_
        exact hTo _ _ _ (ihself_13 _ hf H locs ls hP hD hS (lv_sub hl [2, 3, 1, 0] rfl))
      clear eK_29
      refine lv_icmp_ne (pc := 128) (tgt := 136) hx hb (zdt_at zt_X0_setKey_1 9 rfl) (by decide) (fun cn_ => ?t_31) (fun cn_ => ?f_32)
      case f_32 =>
        replace hf := zt_s cn_ hf
        clear cn_
        refine lv_ldc (pc := 131) hx hb hown hw4 (zdt_at zt_X0_setKey_1 10 rfl) ?_
        refine lv_goto (pc := 133) (tgt := 140) hx hb (zdt_at zt_X0_setKey_1 11 rfl) (by decide) ?_
        exact hTo _ _ _ (kK_29 _ H locs ls hP hD hS (lv_sub hl [3, 4, 6, 0] rfl) hf)
      replace hf := ze_s cn_ hf
      clear cn_
      refine lv_iload (pc := 136) hx hb (zdt_at zt_X0_setKey_1 12 rfl) (lv_at hl 5 rfl) ?_
      refine lv_iconst (pc := 138) (v := (1 : Int32)) hx hb (zdt_at zt_X0_setKey_1 13 rfl) (by decide) ?_
      refine lv_ishl (pc := 139) hx hb (zdt_at zt_X0_setKey_1 14 rfl) ?_
      exact hTo _ _ _ (kK_29 _ H locs ls hP hD hS (lv_sub hl [3, 4, 6, 0] rfl) hf)
    clear eK_7
    refine hTo _ _ _ (zl_go (fun z => match z with | (i_4, c_keys_5) => ∀ (H : Heap) (locs : List Loc) (ls : Array Slot), va_P D vwCl ([(h0, .inr (2, [.ref h0_keys, .int x_3])), (h0_keys, .inl (cy 1, 60, .inl c_keys_5))] ++ zpl (cy 0) hP_o hP_k cP_kind cP_length cP_usage cP_role cP_uses cPK) H → va_D A ([(h0, .inr (2, [.ref h0_keys, .int x_3])), (h0_keys, .inl (cy 1, 60, .inl c_keys_5))] ++ zpl (cy 0) hP_o hP_k cP_kind cP_length cP_usage cP_role cP_uses cPK) → va_S A s.heap H locs → lv_has ls 9 [(0, .ref h0), (1, .ref (hP_k j1)), (3, .int v_1), (4, .int i_4)] → GW H locs (F0 m 24 ls [])) hf ?_ H locs ls hP hD hS (lv_sub hl [2, 3, 1, 0] rfl))
    clear hf hl hP hD hS
    intro self_33 ihself_33 z hf
    obtain ⟨i_4, c_keys_5⟩ := z
    intro H locs ls hP hD hS hl
    refine hFr _ _ _ ?_
    unfold b_X0_setKey_1PK_24 at hf
    refine lv_iload (pc := 24) hx hb (zdt_at zt_X0_setKey_0 14 rfl) (lv_at hl 3 rfl) ?_
    refine lv_iload_n (pc := 26) hx hb (zdt_at zt_X0_setKey_0 15 rfl) rfl (lv_at hl 2 rfl) ?_
    refine lv_icmp_ge (pc := 27) (tgt := 51) hx hb (zdt_at zt_X0_setKey_0 16 rfl) (by decide) (fun cn_ => ?t_34) (fun cn_ => ?f_35)
    case t_34 =>
      replace hf := zt_s cn_ hf
      clear cn_
      exact hTo _ _ _ (kK_7 _ H locs ls hP hD hS (lv_sub hl [0, 2] rfl) hf)
    replace hf := ze_s cn_ hf
    clear cn_
    refine lv_aload_n (pc := 30) hx hb (zdt_at zt_X0_setKey_0 17 rfl) rfl (lv_at hl 0 rfl) ?_
    refine va_get (pc := 31) (D := D) (ci := 2) (v := .ref h0_keys) (C := RX0) (T := TX0) (N := 2) hx hb hts hcX0 hown hK hP 0 rfl rfl 0 (by decide) hw2 (fun _ h9 => h9) rfl (zdt_at zt_X0_setKey_0 18 rfl) ?_
    refine lv_iload (pc := 34) hx hb (zdt_at zt_X0_setKey_0 19 rfl) (lv_at hl 3 rfl) ?_
    refine lv_aload_n (pc := 36) hx hb (zdt_at zt_X0_setKey_0 20 rfl) rfl (lv_at hl 1 rfl) ?_
    refine lv_iconst (pc := 37) (v := (4 : Int32)) hx hb (zdt_at zt_X0_setKey_0 21 rfl) (by decide) ?_
    refine lv_iload (pc := 38) hx hb (zdt_at zt_X0_setKey_0 22 rfl) (lv_at hl 3 rfl) ?_
    refine lv_imul (pc := 40) hx hb (zdt_at zt_X0_setKey_0 23 rfl) ?_
    replace hf := zb_s hf
    obtain ⟨r_36, hc_, hf⟩ := hf
    refine zcs (pc := 41) (rv := (some (.int r_36))) (va_runSN (As := [.ref (hP_k j1), .int ((4 : Int32) * i_4)]) (rest := [.int i_4, .ref h0_keys]) ⟨hx, hb, hml, hown, hts⟩ (c_X9_intAt_0PK l D cy tt H.size hP_o hP_k j1 ((4 : Int32) * i_4) cPK cP_kind cP_length cP_usage cP_role cP_uses r_36 hj_j1 hc_) ⟨va_cnB 2 hts gX0_setKey_X9_intAt_n17 rfl rfl rfl (gNs_0 hE.2.1) hw5 (by decide +kernel) ⟨Nat.le_of_ble_eq_true rfl, Nat.le_of_ble_eq_true rfl⟩, hw6, trivial⟩ ⟨zblind, zpre hE hS (va_P.part (X := [(h0, .inr (2, [.ref h0_keys, .int x_3])), (h0_keys, .inl (cy 1, 60, .inl c_keys_5))]) hP [] rfl) (va_D.part (X := [(h0, .inr (2, [.ref h0_keys, .int x_3])), (h0_keys, .inl (cy 1, 60, .inl c_keys_5))]) hD [] (by decide) rfl) (va_freeP (X := [(h0, .inr (2, [.ref h0_keys, .int x_3])), (h0_keys, .inl (cy 1, 60, .inl c_keys_5))]) hD hS hA [] rfl)⟩ rfl rfl hl.1 rfl (lv_room (Nat.le_of_ble_eq_true rfl)) (zdt_at zt_X0_setKey_0 24 rfl) ⟨Nat.zero_le _, Nat.zero_le _⟩) ?_
    clear hc_
    refine W.eq (g2 := F0 m 44 ls [.int r_36, .int i_4, .ref h0_keys]) rfl ?_
    replace hf := zk_s hf
    refine va_iast (pc := 44) hx hb hK hP hD hS 1 1 rfl rfl hf.1 (zdt_at zt_X0_setKey_0 25 rfl) ?_
    replace hf := hf.2
    clear hP hD hS
    intro H locs hP hD hS
    obtain ⟨c_keys_37, e_⟩ : ∃ q : Nat → Int32, q = (upd c_keys_5 i_4.toNatClampNeg r_36) := ⟨_, rfl⟩
    replace hf := zn_s hf e_
    replace hP : va_P D vwCl ([(h0, .inr (2, [.ref h0_keys, .int x_3])), (h0_keys, .inl (cy 1, 60, .inl c_keys_37))] ++ zpl (cy 0) hP_o hP_k cP_kind cP_length cP_usage cP_role cP_uses cPK) H := by rw [e_]; exact hP
    replace hD : va_D A ([(h0, .inr (2, [.ref h0_keys, .int x_3])), (h0_keys, .inl (cy 1, 60, .inl c_keys_37))] ++ zpl (cy 0) hP_o hP_k cP_kind cP_length cP_usage cP_role cP_uses cPK) := by rw [e_]; exact hD
    clear e_
    refine lv_iinc (pc := 45) (v := (i_4 + (1 : Int32))) (lv' := [(4, .int (i_4 + (1 : Int32))), (0, .ref h0), (1, .ref (hP_k j1)), (3, .int v_1)]) hx hb (zdt_at zt_X0_setKey_0 26 rfl) hl (k := 3) rfl rfl (by decide) rfl ?_
    clear hl
    intro ls hl
    refine lv_goto (pc := 48) (tgt := 24) hx hb (zdt_at zt_X0_setKey_0 27 rfl) (by decide) ?_
    exact hTo _ _ _ (ihself_33 _ hf H locs ls hP hD hS (lv_sub hl [1, 2, 3, 0] rfl))
  clear eK_2
  refine lv_icmp_ne (pc := 3) (tgt := 11) hx hb (zdt_at zt_X0_setKey_0 2 rfl) (by decide) (fun cn_ => ?t_38) (fun cn_ => ?f_39)
  case t_38 =>
    replace hf := ze_s cn_ hf
    clear cn_
    refine lv_iconst (pc := 11) (v := (4 : Int32)) hx hb (zdt_at zt_X0_setKey_0 5 rfl) (by decide) ?_
    exact hTo _ _ _ (kK_2 _ H locs ls hP hD hS (lv_sub hl [0, 1] rfl) hf)
  replace hf := zt_s cn_ hf
  clear cn_
  refine lv_bipush (pc := 6) (v := (8 : Int32)) hx hb (zdt_at zt_X0_setKey_0 3 rfl) (by decide) ?_
  refine lv_goto (pc := 8) (tgt := 12) hx hb (zdt_at zt_X0_setKey_0 4 rfl) (by decide) ?_
  exact hTo _ _ _ (kK_2 _ H locs ls hP hD hS (lv_sub hl [0, 1] rfl) hf)
set_option maxHeartbeats 4000000 in
set_option maxRecDepth 100000 in
theorem c_X9_wrapBytes (l : Launch) (D : va_G) (cy : Nat → ClassId) (tt : Nat → Nat) (sz : Nat) (h0 : Nat) (h0_buffer : Nat) (h0_slots : Nat) (h0_counters : Nat) (h0_officerPin : Nat) (h0_userPin : Nat) (h0_words : Nat) (h0_sha : Nat) (h0_stream : Nat) (h0_aes : Nat) (h0_modes : Nat) (h0_gcm : Nat) (h0_generator : Nat) (h0_tests : Nat) (h0_message : Nat) (h0_secret : Nat) (h0_aes_keys : Nat) (h0_modes_block : Nat) (h0_modes_pad : Nat) (hP_o : Nat → Nat) (hP_k : Nat → Nat) (j1 : Nat) (j2 : Nat) (c_aes_rounds : Int32) (c_aes_keys : Nat → Int32) (c_buffer : Nat → Int32) (c_modes_block : Nat → Int32) (c_secret : Nat → Int32) (cP_kind : Nat → Int32) (cP_length : Nat → Int32) (cP_role : Nat → Int32) (cP_usage : Nat → Int32) (cP_uses : Nat → Int32) (cPK : Nat → Nat → Int32) (c_state : Int32) (c_testsDone : Int32) (c_faults : Int32) (c_streamBegun : Int32) (r_ : Int32) (c_aes_rounds' : Int32) (c_aes_keys' : Nat → Int32) (c_buffer' : Nat → Int32) (c_modes_block' : Nat → Int32) (c_secret' : Nat → Int32) (cP_uses' : Nat → Int32) (hj_j1 : j1 < 16) (hj_j2 : j2 < 16) (hf : f_X9_wrapBytes j1 j2 c_aes_rounds c_aes_keys c_buffer c_modes_block c_secret cP_kind cP_length cP_role cP_usage cP_uses cPK = some (r_, c_aes_rounds', c_aes_keys', c_buffer', c_modes_block', c_secret', cP_uses')) : Met l yX9_wrapBytes wsX9_wrapBytes ({ frames := 3, cells := 0, slots := 0, locals := 89 }) (zPc D cy tt sz [.ref h0, .ref (hP_o j1), .ref (hP_o j2)] ([(h0, .inr (11, [.ref h0_buffer, .ref h0_slots, .ref h0_counters, .ref h0_officerPin, .ref h0_userPin, .ref h0_words, .ref h0_sha, .ref h0_stream, .ref h0_aes, .ref h0_modes, .ref h0_gcm, .ref h0_generator, .ref h0_tests, .ref h0_message, .ref h0_secret, .int c_state, .int c_testsDone, .int c_faults, .int c_streamBegun])), (h0_aes, .inr (2, [.ref h0_aes_keys, .int c_aes_rounds])), (h0_aes_keys, .inl (cy 1, 60, .inl c_aes_keys)), (h0_buffer, .inl (cy 0, 512, .inl c_buffer)), (h0_modes, .inr (6, [.ref h0_aes, .ref h0_modes_block, .ref h0_modes_pad])), (h0_modes_block, .inl (cy 0, 16, .inl c_modes_block)), (h0_secret, .inl (cy 0, 80, .inl c_secret))] ++ zpl (cy 0) hP_o hP_k cP_kind cP_length cP_usage cP_role cP_uses cPK)) (zQ D (some (.int r_)) ([(h0, .inr (11, [.ref h0_buffer, .ref h0_slots, .ref h0_counters, .ref h0_officerPin, .ref h0_userPin, .ref h0_words, .ref h0_sha, .ref h0_stream, .ref h0_aes, .ref h0_modes, .ref h0_gcm, .ref h0_generator, .ref h0_tests, .ref h0_message, .ref h0_secret, .int c_state, .int c_testsDone, .int c_faults, .int c_streamBegun])), (h0_aes, .inr (2, [.ref h0_aes_keys, .int c_aes_rounds'])), (h0_aes_keys, .inl (cy 1, 60, .inl c_aes_keys')), (h0_buffer, .inl (cy 0, 512, .inl c_buffer')), (h0_modes, .inr (6, [.ref h0_aes, .ref h0_modes_block, .ref h0_modes_pad])), (h0_modes_block, .inl (cy 0, 16, .inl c_modes_block')), (h0_secret, .inl (cy 0, 80, .inl c_secret'))] ++ zpl (cy 0) hP_o hP_k cP_kind cP_length cP_usage cP_role cP_uses' cPK) (va_A ([(h0, .inr (11, [.ref h0_buffer, .ref h0_slots, .ref h0_counters, .ref h0_officerPin, .ref h0_userPin, .ref h0_words, .ref h0_sha, .ref h0_stream, .ref h0_aes, .ref h0_modes, .ref h0_gcm, .ref h0_generator, .ref h0_tests, .ref h0_message, .ref h0_secret, .int c_state, .int c_testsDone, .int c_faults, .int c_streamBegun])), (h0_aes, .inr (2, [.ref h0_aes_keys, .int c_aes_rounds])), (h0_aes_keys, .inl (cy 1, 60, .inl c_aes_keys)), (h0_buffer, .inl (cy 0, 512, .inl c_buffer)), (h0_modes, .inr (6, [.ref h0_aes, .ref h0_modes_block, .ref h0_modes_pad])), (h0_modes_block, .inl (cy 0, 16, .inl c_modes_block)), (h0_secret, .inl (cy 0, 80, .inl c_secret))] ++ zpl (cy 0) hP_o hP_k cP_kind cP_length cP_usage cP_role cP_uses cPK) sz)) 0 0 (va_A ([(h0, .inr (11, [.ref h0_buffer, .ref h0_slots, .ref h0_counters, .ref h0_officerPin, .ref h0_userPin, .ref h0_words, .ref h0_sha, .ref h0_stream, .ref h0_aes, .ref h0_modes, .ref h0_gcm, .ref h0_generator, .ref h0_tests, .ref h0_message, .ref h0_secret, .int c_state, .int c_testsDone, .int c_faults, .int c_streamBegun])), (h0_aes, .inr (2, [.ref h0_aes_keys, .int c_aes_rounds])), (h0_aes_keys, .inl (cy 1, 60, .inl c_aes_keys)), (h0_buffer, .inl (cy 0, 512, .inl c_buffer)), (h0_modes, .inr (6, [.ref h0_aes, .ref h0_modes_block, .ref h0_modes_pad])), (h0_modes_block, .inl (cy 0, 16, .inl c_modes_block)), (h0_secret, .inl (cy 0, 80, .inl c_secret))] ++ zpl (cy 0) hP_o hP_k cP_kind cP_length cP_usage cP_role cP_uses cPK) sz) := by
  refine Met.ofW (cc := cX9_wrapBytes) (maxL := 4) (ret := (some .int)) (by decide) rfl ?_
  intro p e s m args below meth c s₁ B hml hv
  obtain ⟨rfl, rfl, hP, hD0, hE⟩ := hv
  have hx := B.exec
  have hb := B.bytes
  have hr := B.returns
  have hts := atoms_spec (ws := wsX9_wrapBytes) B.pre
  have hown : s.vm.findClass RX9 = some m.cls := findClass_of_methodNamed B.named
  have hlocks := B.notSynchronized
  clear B
  have hD := hD0.self (sz := s.heap.size)
  generalize hAe : va_A ([(h0, .inr (11, [.ref h0_buffer, .ref h0_slots, .ref h0_counters, .ref h0_officerPin, .ref h0_userPin, .ref h0_words, .ref h0_sha, .ref h0_stream, .ref h0_aes, .ref h0_modes, .ref h0_gcm, .ref h0_generator, .ref h0_tests, .ref h0_message, .ref h0_secret, .int c_state, .int c_testsDone, .int c_faults, .int c_streamBegun])), (h0_aes, .inr (2, [.ref h0_aes_keys, .int c_aes_rounds])), (h0_aes_keys, .inl (cy 1, 60, .inl c_aes_keys)), (h0_buffer, .inl (cy 0, 512, .inl c_buffer)), (h0_modes, .inr (6, [.ref h0_aes, .ref h0_modes_block, .ref h0_modes_pad])), (h0_modes_block, .inl (cy 0, 16, .inl c_modes_block)), (h0_secret, .inl (cy 0, 80, .inl c_secret))] ++ zpl (cy 0) hP_o hP_k cP_kind cP_length cP_usage cP_role cP_uses cPK) s.heap.size = A at hD hE ⊢
  have hA : ∀ q : Nat, s.heap.size ≤ q → A q := fun q h => by rw [← hAe]; exact Or.inr h
  clear hAe hD0
  have hS : va_S A s.heap s.heap [] := va_S.rf
  have hK := hE.1
  have hw0 := hts (.fieldLink RX9 207 "SealedModule$Slot" "length" "I") (by decide +kernel)
  have hw1 := hts (.fieldLink RX9 98 "SealedModule" "secret" "[B") (by decide +kernel)
  have hw2 := hts (.fieldLink RX9 204 "SealedModule$Slot" "kind" "I") (by decide +kernel)
  have hw3 := hts (.fieldLink RX9 210 "SealedModule$Slot" "usage" "I") (by decide +kernel)
  have hw4 := hts (.fieldLink RX9 213 "SealedModule$Slot" "role" "I") (by decide +kernel)
  have hw5 := hts (.fieldLink RX9 286 "SealedModule$Slot" "key" "[B") (by decide +kernel)
  have hw6 := hts (.methodLink RX9 276 arraycopyName) (by decide +kernel)
  have hw7 := hts (.native arraycopyName) (by decide +kernel)
  have hw8 := hts (.static arraycopyName) (by decide +kernel)
  have hw9 := hts (.initialized "java/lang/System") (by decide +kernel)
  have hw10 := hts (.fieldLink RX9 55 "SealedModule" "aes" "LSealedModule$Aes;") (by decide +kernel)
  have hw11 := hts (.fieldLink RX9 64 "SealedModule" "modes" "LSealedModule$Modes;") (by decide +kernel)
  have hw12 := hts (.fieldLink RX9 9 "SealedModule" "buffer" "[B") (by decide +kernel)
  have hcX8 : ∀ w ∈ u_ws RX8 TX8 6, w ∈ wsX9_wrapBytes := (fun _ h => List.mem_cons_of_mem _ (List.mem_append_left _ (List.mem_append_left _ (List.mem_append_left _ (List.mem_append_left _ (List.mem_append_right _ h))))))
  have hcX9 : ∀ w ∈ u_ws RX9 TX9 19, w ∈ wsX9_wrapBytes := (fun _ h => List.mem_cons_of_mem _ (List.mem_append_left _ (List.mem_append_left _ (List.mem_append_left _ (List.mem_append_right _ h)))))
  have hl := lv_entry ([.ref h0, .ref (hP_o j1), .ref (hP_o j2)]) (n := 4) (Nat.le_of_ble_eq_true rfl)
  rw [lg_entry_eq]
  generalize (lg_sl ([.ref h0, .ref (hP_o j1), .ref (hP_o j2)]) ++ List.replicate (4 - (lg_sl ([.ref h0, .ref (hP_o j1), .ref (hP_o j2)])).length) Slot.unset).toArray = ls at hl ⊢
  replace hl : lv_has ls 4 [(0, .ref h0), (1, .ref (hP_o j1)), (2, .ref (hP_o j2))] := hl
  unfold f_X9_wrapBytes at hf
  refine zgo (fun GW hTo hFr => ?_)
  refine hFr _ _ _ ?_
  obtain ⟨H, hHe⟩ : ∃ H, H = s.heap := ⟨_, rfl⟩
  obtain ⟨locs, hLe⟩ : ∃ L : List Loc, L = [] := ⟨_, rfl⟩
  rw [← hHe] at hP
  replace hS : va_S A s.heap H locs := by rw [hHe, hLe]; exact hS
  refine zat hHe.symm hLe.symm ?_
  clear hHe hLe
  refine lv_aload_n (pc := 0) hx hb (zdt_at zt_X9_wrapBytes_0 0 rfl) rfl (lv_at hl 1 rfl) ?_
  replace hf := zb_s hf
  obtain ⟨cP_uses_1, hc_, hf⟩ := hf
  refine zcnP (pc := 1) (X := [(h0, .inr (11, [.ref h0_buffer, .ref h0_slots, .ref h0_counters, .ref h0_officerPin, .ref h0_userPin, .ref h0_words, .ref h0_sha, .ref h0_stream, .ref h0_aes, .ref h0_modes, .ref h0_gcm, .ref h0_generator, .ref h0_tests, .ref h0_message, .ref h0_secret, .int c_state, .int c_testsDone, .int c_faults, .int c_streamBegun])), (h0_aes, .inr (2, [.ref h0_aes_keys, .int c_aes_rounds])), (h0_aes_keys, .inl (cy 1, 60, .inl c_aes_keys)), (h0_buffer, .inl (cy 0, 512, .inl c_buffer)), (h0_modes, .inr (6, [.ref h0_aes, .ref h0_modes_block, .ref h0_modes_pad])), (h0_modes_block, .inl (cy 0, 16, .inl c_modes_block)), (h0_secret, .inl (cy 0, 80, .inl c_secret))]) (rv := none) (va_runV (As := []) (rest := []) ⟨hx, hb, hml, hown, hts⟩ (c_X8_takeUse l D cy tt H.size hP_o hP_k j1 cP_uses cP_kind cP_length cP_usage cP_role cPK cP_uses_1 hj_j1 hc_) (cwV 0 hts gX9_wrapBytes_X8_takeUse rfl rfl rfl (by decide +kernel) ⟨Nat.le_of_ble_eq_true rfl, Nat.le_of_ble_eq_true rfl⟩) ⟨zblind, va_recv hK hP (ci := 10) (q0 := (7 + j1)) rfl (zplO_get (X := [(h0, .inr (11, [.ref h0_buffer, .ref h0_slots, .ref h0_counters, .ref h0_officerPin, .ref h0_userPin, .ref h0_words, .ref h0_sha, .ref h0_stream, .ref h0_aes, .ref h0_modes, .ref h0_gcm, .ref h0_generator, .ref h0_tests, .ref h0_message, .ref h0_secret, .int c_state, .int c_testsDone, .int c_faults, .int c_streamBegun])), (h0_aes, .inr (2, [.ref h0_aes_keys, .int c_aes_rounds])), (h0_aes_keys, .inl (cy 1, 60, .inl c_aes_keys)), (h0_buffer, .inl (cy 0, 512, .inl c_buffer)), (h0_modes, .inr (6, [.ref h0_aes, .ref h0_modes_block, .ref h0_modes_pad])), (h0_modes_block, .inl (cy 0, 16, .inl c_modes_block)), (h0_secret, .inl (cy 0, 80, .inl c_secret))]) (n := 7) rfl hj_j1), zpre hE hS (va_P.part (X := [(h0, .inr (11, [.ref h0_buffer, .ref h0_slots, .ref h0_counters, .ref h0_officerPin, .ref h0_userPin, .ref h0_words, .ref h0_sha, .ref h0_stream, .ref h0_aes, .ref h0_modes, .ref h0_gcm, .ref h0_generator, .ref h0_tests, .ref h0_message, .ref h0_secret, .int c_state, .int c_testsDone, .int c_faults, .int c_streamBegun])), (h0_aes, .inr (2, [.ref h0_aes_keys, .int c_aes_rounds])), (h0_aes_keys, .inl (cy 1, 60, .inl c_aes_keys)), (h0_buffer, .inl (cy 0, 512, .inl c_buffer)), (h0_modes, .inr (6, [.ref h0_aes, .ref h0_modes_block, .ref h0_modes_pad])), (h0_modes_block, .inl (cy 0, 16, .inl c_modes_block)), (h0_secret, .inl (cy 0, 80, .inl c_secret))]) hP [] rfl) (va_D.part (X := [(h0, .inr (11, [.ref h0_buffer, .ref h0_slots, .ref h0_counters, .ref h0_officerPin, .ref h0_userPin, .ref h0_words, .ref h0_sha, .ref h0_stream, .ref h0_aes, .ref h0_modes, .ref h0_gcm, .ref h0_generator, .ref h0_tests, .ref h0_message, .ref h0_secret, .int c_state, .int c_testsDone, .int c_faults, .int c_streamBegun])), (h0_aes, .inr (2, [.ref h0_aes_keys, .int c_aes_rounds])), (h0_aes_keys, .inl (cy 1, 60, .inl c_aes_keys)), (h0_buffer, .inl (cy 0, 512, .inl c_buffer)), (h0_modes, .inr (6, [.ref h0_aes, .ref h0_modes_block, .ref h0_modes_pad])), (h0_modes_block, .inl (cy 0, 16, .inl c_modes_block)), (h0_secret, .inl (cy 0, 80, .inl c_secret))]) hD [] (by decide) rfl) (va_freeP (X := [(h0, .inr (11, [.ref h0_buffer, .ref h0_slots, .ref h0_counters, .ref h0_officerPin, .ref h0_userPin, .ref h0_words, .ref h0_sha, .ref h0_stream, .ref h0_aes, .ref h0_modes, .ref h0_gcm, .ref h0_generator, .ref h0_tests, .ref h0_message, .ref h0_secret, .int c_state, .int c_testsDone, .int c_faults, .int c_streamBegun])), (h0_aes, .inr (2, [.ref h0_aes_keys, .int c_aes_rounds])), (h0_aes_keys, .inl (cy 1, 60, .inl c_aes_keys)), (h0_buffer, .inl (cy 0, 512, .inl c_buffer)), (h0_modes, .inr (6, [.ref h0_aes, .ref h0_modes_block, .ref h0_modes_pad])), (h0_modes_block, .inl (cy 0, 16, .inl c_modes_block)), (h0_secret, .inl (cy 0, 80, .inl c_secret))]) hD hS hA [] rfl)⟩ rfl rfl hl.1 rfl (lv_room (Nat.le_of_ble_eq_true rfl)) (zdt_at zt_X9_wrapBytes_0 1 rfl) ⟨Nat.zero_le _, Nat.zero_le _⟩) hS hP hD (va_freeP (X := [(h0, .inr (11, [.ref h0_buffer, .ref h0_slots, .ref h0_counters, .ref h0_officerPin, .ref h0_userPin, .ref h0_words, .ref h0_sha, .ref h0_stream, .ref h0_aes, .ref h0_modes, .ref h0_gcm, .ref h0_generator, .ref h0_tests, .ref h0_message, .ref h0_secret, .int c_state, .int c_testsDone, .int c_faults, .int c_streamBegun])), (h0_aes, .inr (2, [.ref h0_aes_keys, .int c_aes_rounds])), (h0_aes_keys, .inl (cy 1, 60, .inl c_aes_keys)), (h0_buffer, .inl (cy 0, 512, .inl c_buffer)), (h0_modes, .inr (6, [.ref h0_aes, .ref h0_modes_block, .ref h0_modes_pad])), (h0_modes_block, .inl (cy 0, 16, .inl c_modes_block)), (h0_secret, .inl (cy 0, 80, .inl c_secret))]) hD hS hA [] rfl) [] rfl (by decide) rfl rfl zpl_adr ?_
  clear hP hD hS hc_
  intro H locs hP hD hS
  replace hP : va_P D vwCl ([(h0, .inr (11, [.ref h0_buffer, .ref h0_slots, .ref h0_counters, .ref h0_officerPin, .ref h0_userPin, .ref h0_words, .ref h0_sha, .ref h0_stream, .ref h0_aes, .ref h0_modes, .ref h0_gcm, .ref h0_generator, .ref h0_tests, .ref h0_message, .ref h0_secret, .int c_state, .int c_testsDone, .int c_faults, .int c_streamBegun])), (h0_aes, .inr (2, [.ref h0_aes_keys, .int c_aes_rounds])), (h0_aes_keys, .inl (cy 1, 60, .inl c_aes_keys)), (h0_buffer, .inl (cy 0, 512, .inl c_buffer)), (h0_modes, .inr (6, [.ref h0_aes, .ref h0_modes_block, .ref h0_modes_pad])), (h0_modes_block, .inl (cy 0, 16, .inl c_modes_block)), (h0_secret, .inl (cy 0, 80, .inl c_secret))] ++ zpl (cy 0) hP_o hP_k cP_kind cP_length cP_usage cP_role cP_uses_1 cPK) H := hP
  replace hD : va_D A ([(h0, .inr (11, [.ref h0_buffer, .ref h0_slots, .ref h0_counters, .ref h0_officerPin, .ref h0_userPin, .ref h0_words, .ref h0_sha, .ref h0_stream, .ref h0_aes, .ref h0_modes, .ref h0_gcm, .ref h0_generator, .ref h0_tests, .ref h0_message, .ref h0_secret, .int c_state, .int c_testsDone, .int c_faults, .int c_streamBegun])), (h0_aes, .inr (2, [.ref h0_aes_keys, .int c_aes_rounds])), (h0_aes_keys, .inl (cy 1, 60, .inl c_aes_keys)), (h0_buffer, .inl (cy 0, 512, .inl c_buffer)), (h0_modes, .inr (6, [.ref h0_aes, .ref h0_modes_block, .ref h0_modes_pad])), (h0_modes_block, .inl (cy 0, 16, .inl c_modes_block)), (h0_secret, .inl (cy 0, 80, .inl c_secret))] ++ zpl (cy 0) hP_o hP_k cP_kind cP_length cP_usage cP_role cP_uses_1 cPK) := hD
  refine W.eq (g2 := F0 m 4 ls []) rfl ?_
  refine lv_aload_n (pc := 4) hx hb (zdt_at zt_X9_wrapBytes_0 2 rfl) rfl (lv_at hl 2 rfl) ?_
  replace hf := zb_s hf
  obtain ⟨cP_uses_2, hc_, hf⟩ := hf
  refine zcnP (pc := 5) (X := [(h0, .inr (11, [.ref h0_buffer, .ref h0_slots, .ref h0_counters, .ref h0_officerPin, .ref h0_userPin, .ref h0_words, .ref h0_sha, .ref h0_stream, .ref h0_aes, .ref h0_modes, .ref h0_gcm, .ref h0_generator, .ref h0_tests, .ref h0_message, .ref h0_secret, .int c_state, .int c_testsDone, .int c_faults, .int c_streamBegun])), (h0_aes, .inr (2, [.ref h0_aes_keys, .int c_aes_rounds])), (h0_aes_keys, .inl (cy 1, 60, .inl c_aes_keys)), (h0_buffer, .inl (cy 0, 512, .inl c_buffer)), (h0_modes, .inr (6, [.ref h0_aes, .ref h0_modes_block, .ref h0_modes_pad])), (h0_modes_block, .inl (cy 0, 16, .inl c_modes_block)), (h0_secret, .inl (cy 0, 80, .inl c_secret))]) (rv := none) (va_runV (As := []) (rest := []) ⟨hx, hb, hml, hown, hts⟩ (c_X8_takeUse l D cy tt H.size hP_o hP_k j2 cP_uses_1 cP_kind cP_length cP_usage cP_role cPK cP_uses_2 hj_j2 hc_) (cwV 0 hts gX9_wrapBytes_X8_takeUse rfl rfl rfl (by decide +kernel) ⟨Nat.le_of_ble_eq_true rfl, Nat.le_of_ble_eq_true rfl⟩) ⟨zblind, va_recv hK hP (ci := 10) (q0 := (7 + j2)) rfl (zplO_get (X := [(h0, .inr (11, [.ref h0_buffer, .ref h0_slots, .ref h0_counters, .ref h0_officerPin, .ref h0_userPin, .ref h0_words, .ref h0_sha, .ref h0_stream, .ref h0_aes, .ref h0_modes, .ref h0_gcm, .ref h0_generator, .ref h0_tests, .ref h0_message, .ref h0_secret, .int c_state, .int c_testsDone, .int c_faults, .int c_streamBegun])), (h0_aes, .inr (2, [.ref h0_aes_keys, .int c_aes_rounds])), (h0_aes_keys, .inl (cy 1, 60, .inl c_aes_keys)), (h0_buffer, .inl (cy 0, 512, .inl c_buffer)), (h0_modes, .inr (6, [.ref h0_aes, .ref h0_modes_block, .ref h0_modes_pad])), (h0_modes_block, .inl (cy 0, 16, .inl c_modes_block)), (h0_secret, .inl (cy 0, 80, .inl c_secret))]) (n := 7) rfl hj_j2), zpre hE hS (va_P.part (X := [(h0, .inr (11, [.ref h0_buffer, .ref h0_slots, .ref h0_counters, .ref h0_officerPin, .ref h0_userPin, .ref h0_words, .ref h0_sha, .ref h0_stream, .ref h0_aes, .ref h0_modes, .ref h0_gcm, .ref h0_generator, .ref h0_tests, .ref h0_message, .ref h0_secret, .int c_state, .int c_testsDone, .int c_faults, .int c_streamBegun])), (h0_aes, .inr (2, [.ref h0_aes_keys, .int c_aes_rounds])), (h0_aes_keys, .inl (cy 1, 60, .inl c_aes_keys)), (h0_buffer, .inl (cy 0, 512, .inl c_buffer)), (h0_modes, .inr (6, [.ref h0_aes, .ref h0_modes_block, .ref h0_modes_pad])), (h0_modes_block, .inl (cy 0, 16, .inl c_modes_block)), (h0_secret, .inl (cy 0, 80, .inl c_secret))]) hP [] rfl) (va_D.part (X := [(h0, .inr (11, [.ref h0_buffer, .ref h0_slots, .ref h0_counters, .ref h0_officerPin, .ref h0_userPin, .ref h0_words, .ref h0_sha, .ref h0_stream, .ref h0_aes, .ref h0_modes, .ref h0_gcm, .ref h0_generator, .ref h0_tests, .ref h0_message, .ref h0_secret, .int c_state, .int c_testsDone, .int c_faults, .int c_streamBegun])), (h0_aes, .inr (2, [.ref h0_aes_keys, .int c_aes_rounds])), (h0_aes_keys, .inl (cy 1, 60, .inl c_aes_keys)), (h0_buffer, .inl (cy 0, 512, .inl c_buffer)), (h0_modes, .inr (6, [.ref h0_aes, .ref h0_modes_block, .ref h0_modes_pad])), (h0_modes_block, .inl (cy 0, 16, .inl c_modes_block)), (h0_secret, .inl (cy 0, 80, .inl c_secret))]) hD [] (by decide) rfl) (va_freeP (X := [(h0, .inr (11, [.ref h0_buffer, .ref h0_slots, .ref h0_counters, .ref h0_officerPin, .ref h0_userPin, .ref h0_words, .ref h0_sha, .ref h0_stream, .ref h0_aes, .ref h0_modes, .ref h0_gcm, .ref h0_generator, .ref h0_tests, .ref h0_message, .ref h0_secret, .int c_state, .int c_testsDone, .int c_faults, .int c_streamBegun])), (h0_aes, .inr (2, [.ref h0_aes_keys, .int c_aes_rounds])), (h0_aes_keys, .inl (cy 1, 60, .inl c_aes_keys)), (h0_buffer, .inl (cy 0, 512, .inl c_buffer)), (h0_modes, .inr (6, [.ref h0_aes, .ref h0_modes_block, .ref h0_modes_pad])), (h0_modes_block, .inl (cy 0, 16, .inl c_modes_block)), (h0_secret, .inl (cy 0, 80, .inl c_secret))]) hD hS hA [] rfl)⟩ rfl rfl hl.1 rfl (lv_room (Nat.le_of_ble_eq_true rfl)) (zdt_at zt_X9_wrapBytes_0 3 rfl) ⟨Nat.zero_le _, Nat.zero_le _⟩) hS hP hD (va_freeP (X := [(h0, .inr (11, [.ref h0_buffer, .ref h0_slots, .ref h0_counters, .ref h0_officerPin, .ref h0_userPin, .ref h0_words, .ref h0_sha, .ref h0_stream, .ref h0_aes, .ref h0_modes, .ref h0_gcm, .ref h0_generator, .ref h0_tests, .ref h0_message, .ref h0_secret, .int c_state, .int c_testsDone, .int c_faults, .int c_streamBegun])), (h0_aes, .inr (2, [.ref h0_aes_keys, .int c_aes_rounds])), (h0_aes_keys, .inl (cy 1, 60, .inl c_aes_keys)), (h0_buffer, .inl (cy 0, 512, .inl c_buffer)), (h0_modes, .inr (6, [.ref h0_aes, .ref h0_modes_block, .ref h0_modes_pad])), (h0_modes_block, .inl (cy 0, 16, .inl c_modes_block)), (h0_secret, .inl (cy 0, 80, .inl c_secret))]) hD hS hA [] rfl) [] rfl (by decide) rfl rfl zpl_adr ?_
  clear hP hD hS hc_
  intro H locs hP hD hS
  replace hP : va_P D vwCl ([(h0, .inr (11, [.ref h0_buffer, .ref h0_slots, .ref h0_counters, .ref h0_officerPin, .ref h0_userPin, .ref h0_words, .ref h0_sha, .ref h0_stream, .ref h0_aes, .ref h0_modes, .ref h0_gcm, .ref h0_generator, .ref h0_tests, .ref h0_message, .ref h0_secret, .int c_state, .int c_testsDone, .int c_faults, .int c_streamBegun])), (h0_aes, .inr (2, [.ref h0_aes_keys, .int c_aes_rounds])), (h0_aes_keys, .inl (cy 1, 60, .inl c_aes_keys)), (h0_buffer, .inl (cy 0, 512, .inl c_buffer)), (h0_modes, .inr (6, [.ref h0_aes, .ref h0_modes_block, .ref h0_modes_pad])), (h0_modes_block, .inl (cy 0, 16, .inl c_modes_block)), (h0_secret, .inl (cy 0, 80, .inl c_secret))] ++ zpl (cy 0) hP_o hP_k cP_kind cP_length cP_usage cP_role cP_uses_2 cPK) H := hP
  replace hD : va_D A ([(h0, .inr (11, [.ref h0_buffer, .ref h0_slots, .ref h0_counters, .ref h0_officerPin, .ref h0_userPin, .ref h0_words, .ref h0_sha, .ref h0_stream, .ref h0_aes, .ref h0_modes, .ref h0_gcm, .ref h0_generator, .ref h0_tests, .ref h0_message, .ref h0_secret, .int c_state, .int c_testsDone, .int c_faults, .int c_streamBegun])), (h0_aes, .inr (2, [.ref h0_aes_keys, .int c_aes_rounds])), (h0_aes_keys, .inl (cy 1, 60, .inl c_aes_keys)), (h0_buffer, .inl (cy 0, 512, .inl c_buffer)), (h0_modes, .inr (6, [.ref h0_aes, .ref h0_modes_block, .ref h0_modes_pad])), (h0_modes_block, .inl (cy 0, 16, .inl c_modes_block)), (h0_secret, .inl (cy 0, 80, .inl c_secret))] ++ zpl (cy 0) hP_o hP_k cP_kind cP_length cP_usage cP_role cP_uses_2 cPK) := hD
  refine W.eq (g2 := F0 m 8 ls []) rfl ?_
  refine lv_aload_n (pc := 8) hx hb (zdt_at zt_X9_wrapBytes_0 4 rfl) rfl (lv_at hl 1 rfl) ?_
  refine va_get (pc := 9) (D := D) (ci := 10) (v := .int (cP_length j1)) (C := RX8) (T := TX8) (N := 6) hx hb hts hcX8 hown hK hP (7 + j1) (zplO_get (X := [(h0, .inr (11, [.ref h0_buffer, .ref h0_slots, .ref h0_counters, .ref h0_officerPin, .ref h0_userPin, .ref h0_words, .ref h0_sha, .ref h0_stream, .ref h0_aes, .ref h0_modes, .ref h0_gcm, .ref h0_generator, .ref h0_tests, .ref h0_message, .ref h0_secret, .int c_state, .int c_testsDone, .int c_faults, .int c_streamBegun])), (h0_aes, .inr (2, [.ref h0_aes_keys, .int c_aes_rounds])), (h0_aes_keys, .inl (cy 1, 60, .inl c_aes_keys)), (h0_buffer, .inl (cy 0, 512, .inl c_buffer)), (h0_modes, .inr (6, [.ref h0_aes, .ref h0_modes_block, .ref h0_modes_pad])), (h0_modes_block, .inl (cy 0, 16, .inl c_modes_block)), (h0_secret, .inl (cy 0, 80, .inl c_secret))]) (n := 7) rfl hj_j1) rfl 2 (by decide) hw0 (fun _ h9 => h9) rfl (zdt_at zt_X9_wrapBytes_0 5 rfl) ?_
  refine lv_bipush (pc := 12) (v := (16 : Int32)) hx hb (zdt_at zt_X9_wrapBytes_0 6 rfl) (by decide) ?_
  refine lv_iadd (pc := 14) hx hb (zdt_at zt_X9_wrapBytes_0 7 rfl) ?_
  refine lv_topi (fun x_3 e_ => ?_)
  replace hf := zn_s hf e_
  clear e_
  refine lv_istore_n (pc := 15) (lv' := [(3, .int x_3), (0, .ref h0), (1, .ref (hP_o j1)), (2, .ref (hP_o j2))]) hx hb (zdt_at zt_X9_wrapBytes_0 8 rfl) rfl hl (by decide) rfl ?_
  clear hl
  intro ls hl
  refine lv_aload_n (pc := 16) hx hb (zdt_at zt_X9_wrapBytes_0 9 rfl) rfl (lv_at hl 1 rfl) ?_
  refine va_get (pc := 17) (D := D) (ci := 11) (v := .ref h0_secret) (C := RX9) (T := TX9) (N := 19) hx hb hts hcX9 hown hK hP 0 rfl rfl 14 (by decide) hw1 (fun _ h9 => h9) rfl (zdt_at zt_X9_wrapBytes_0 10 rfl) ?_
  refine lv_bipush (pc := 20) (v := (8 : Int32)) hx hb (zdt_at zt_X9_wrapBytes_0 11 rfl) (by decide) ?_
  refine lv_aload_n (pc := 22) hx hb (zdt_at zt_X9_wrapBytes_0 12 rfl) rfl (lv_at hl 2 rfl) ?_
  refine va_get (pc := 23) (D := D) (ci := 10) (v := .int (cP_kind j1)) (C := RX8) (T := TX8) (N := 6) hx hb hts hcX8 hown hK hP (7 + j1) (zplO_get (X := [(h0, .inr (11, [.ref h0_buffer, .ref h0_slots, .ref h0_counters, .ref h0_officerPin, .ref h0_userPin, .ref h0_words, .ref h0_sha, .ref h0_stream, .ref h0_aes, .ref h0_modes, .ref h0_gcm, .ref h0_generator, .ref h0_tests, .ref h0_message, .ref h0_secret, .int c_state, .int c_testsDone, .int c_faults, .int c_streamBegun])), (h0_aes, .inr (2, [.ref h0_aes_keys, .int c_aes_rounds])), (h0_aes_keys, .inl (cy 1, 60, .inl c_aes_keys)), (h0_buffer, .inl (cy 0, 512, .inl c_buffer)), (h0_modes, .inr (6, [.ref h0_aes, .ref h0_modes_block, .ref h0_modes_pad])), (h0_modes_block, .inl (cy 0, 16, .inl c_modes_block)), (h0_secret, .inl (cy 0, 80, .inl c_secret))]) (n := 7) rfl hj_j1) rfl 1 (by decide) hw2 (fun _ h9 => h9) rfl (zdt_at zt_X9_wrapBytes_0 13 rfl) ?_
  refine lv_i2b (pc := 26) hx hb (zdt_at zt_X9_wrapBytes_0 14 rfl) rfl ?_
  replace hf := zk_s hf
  refine va_bast (pc := 27) hx hb hK hP hD hS 6 0 rfl rfl hf.1 (zdt_at zt_X9_wrapBytes_0 15 rfl) ?_
  replace hf := hf.2
  clear hP hD hS
  intro H locs hP hD hS
  obtain ⟨c_secret_4, e_⟩ : ∃ q : Nat → Int32, q = (upd c_secret (8 : Int32).toNatClampNeg (vp_nar .byte ((cP_kind j1).toInt8.toInt32))) := ⟨_, rfl⟩
  replace hf := zn_s hf e_
  replace hP : va_P D vwCl ([(h0, .inr (11, [.ref h0_buffer, .ref h0_slots, .ref h0_counters, .ref h0_officerPin, .ref h0_userPin, .ref h0_words, .ref h0_sha, .ref h0_stream, .ref h0_aes, .ref h0_modes, .ref h0_gcm, .ref h0_generator, .ref h0_tests, .ref h0_message, .ref h0_secret, .int c_state, .int c_testsDone, .int c_faults, .int c_streamBegun])), (h0_aes, .inr (2, [.ref h0_aes_keys, .int c_aes_rounds])), (h0_aes_keys, .inl (cy 1, 60, .inl c_aes_keys)), (h0_buffer, .inl (cy 0, 512, .inl c_buffer)), (h0_modes, .inr (6, [.ref h0_aes, .ref h0_modes_block, .ref h0_modes_pad])), (h0_modes_block, .inl (cy 0, 16, .inl c_modes_block)), (h0_secret, .inl (cy 0, 80, .inl c_secret_4))] ++ zpl (cy 0) hP_o hP_k cP_kind cP_length cP_usage cP_role cP_uses_2 cPK) H := by rw [e_]; exact hP
  replace hD : va_D A ([(h0, .inr (11, [.ref h0_buffer, .ref h0_slots, .ref h0_counters, .ref h0_officerPin, .ref h0_userPin, .ref h0_words, .ref h0_sha, .ref h0_stream, .ref h0_aes, .ref h0_modes, .ref h0_gcm, .ref h0_generator, .ref h0_tests, .ref h0_message, .ref h0_secret, .int c_state, .int c_testsDone, .int c_faults, .int c_streamBegun])), (h0_aes, .inr (2, [.ref h0_aes_keys, .int c_aes_rounds])), (h0_aes_keys, .inl (cy 1, 60, .inl c_aes_keys)), (h0_buffer, .inl (cy 0, 512, .inl c_buffer)), (h0_modes, .inr (6, [.ref h0_aes, .ref h0_modes_block, .ref h0_modes_pad])), (h0_modes_block, .inl (cy 0, 16, .inl c_modes_block)), (h0_secret, .inl (cy 0, 80, .inl c_secret_4))] ++ zpl (cy 0) hP_o hP_k cP_kind cP_length cP_usage cP_role cP_uses_2 cPK) := by rw [e_]; exact hD
  clear e_
  refine lv_aload_n (pc := 28) hx hb (zdt_at zt_X9_wrapBytes_0 16 rfl) rfl (lv_at hl 1 rfl) ?_
  refine va_get (pc := 29) (D := D) (ci := 11) (v := .ref h0_secret) (C := RX9) (T := TX9) (N := 19) hx hb hts hcX9 hown hK hP 0 rfl rfl 14 (by decide) hw1 (fun _ h9 => h9) rfl (zdt_at zt_X9_wrapBytes_0 17 rfl) ?_
  refine lv_bipush (pc := 32) (v := (9 : Int32)) hx hb (zdt_at zt_X9_wrapBytes_0 18 rfl) (by decide) ?_
  refine lv_aload_n (pc := 34) hx hb (zdt_at zt_X9_wrapBytes_0 19 rfl) rfl (lv_at hl 2 rfl) ?_
  refine va_get (pc := 35) (D := D) (ci := 10) (v := .int (cP_usage j1)) (C := RX8) (T := TX8) (N := 6) hx hb hts hcX8 hown hK hP (7 + j1) (zplO_get (X := [(h0, .inr (11, [.ref h0_buffer, .ref h0_slots, .ref h0_counters, .ref h0_officerPin, .ref h0_userPin, .ref h0_words, .ref h0_sha, .ref h0_stream, .ref h0_aes, .ref h0_modes, .ref h0_gcm, .ref h0_generator, .ref h0_tests, .ref h0_message, .ref h0_secret, .int c_state, .int c_testsDone, .int c_faults, .int c_streamBegun])), (h0_aes, .inr (2, [.ref h0_aes_keys, .int c_aes_rounds])), (h0_aes_keys, .inl (cy 1, 60, .inl c_aes_keys)), (h0_buffer, .inl (cy 0, 512, .inl c_buffer)), (h0_modes, .inr (6, [.ref h0_aes, .ref h0_modes_block, .ref h0_modes_pad])), (h0_modes_block, .inl (cy 0, 16, .inl c_modes_block)), (h0_secret, .inl (cy 0, 80, .inl c_secret_4))]) (n := 7) rfl hj_j1) rfl 3 (by decide) hw3 (fun _ h9 => h9) rfl (zdt_at zt_X9_wrapBytes_0 20 rfl) ?_
  refine lv_i2b (pc := 38) hx hb (zdt_at zt_X9_wrapBytes_0 21 rfl) rfl ?_
  replace hf := zk_s hf
  refine va_bast (pc := 39) hx hb hK hP hD hS 6 0 rfl rfl hf.1 (zdt_at zt_X9_wrapBytes_0 22 rfl) ?_
  replace hf := hf.2
  clear hP hD hS
  intro H locs hP hD hS
  obtain ⟨c_secret_5, e_⟩ : ∃ q : Nat → Int32, q = (upd c_secret_4 (9 : Int32).toNatClampNeg (vp_nar .byte ((cP_usage j1).toInt8.toInt32))) := ⟨_, rfl⟩
  replace hf := zn_s hf e_
  replace hP : va_P D vwCl ([(h0, .inr (11, [.ref h0_buffer, .ref h0_slots, .ref h0_counters, .ref h0_officerPin, .ref h0_userPin, .ref h0_words, .ref h0_sha, .ref h0_stream, .ref h0_aes, .ref h0_modes, .ref h0_gcm, .ref h0_generator, .ref h0_tests, .ref h0_message, .ref h0_secret, .int c_state, .int c_testsDone, .int c_faults, .int c_streamBegun])), (h0_aes, .inr (2, [.ref h0_aes_keys, .int c_aes_rounds])), (h0_aes_keys, .inl (cy 1, 60, .inl c_aes_keys)), (h0_buffer, .inl (cy 0, 512, .inl c_buffer)), (h0_modes, .inr (6, [.ref h0_aes, .ref h0_modes_block, .ref h0_modes_pad])), (h0_modes_block, .inl (cy 0, 16, .inl c_modes_block)), (h0_secret, .inl (cy 0, 80, .inl c_secret_5))] ++ zpl (cy 0) hP_o hP_k cP_kind cP_length cP_usage cP_role cP_uses_2 cPK) H := by rw [e_]; exact hP
  replace hD : va_D A ([(h0, .inr (11, [.ref h0_buffer, .ref h0_slots, .ref h0_counters, .ref h0_officerPin, .ref h0_userPin, .ref h0_words, .ref h0_sha, .ref h0_stream, .ref h0_aes, .ref h0_modes, .ref h0_gcm, .ref h0_generator, .ref h0_tests, .ref h0_message, .ref h0_secret, .int c_state, .int c_testsDone, .int c_faults, .int c_streamBegun])), (h0_aes, .inr (2, [.ref h0_aes_keys, .int c_aes_rounds])), (h0_aes_keys, .inl (cy 1, 60, .inl c_aes_keys)), (h0_buffer, .inl (cy 0, 512, .inl c_buffer)), (h0_modes, .inr (6, [.ref h0_aes, .ref h0_modes_block, .ref h0_modes_pad])), (h0_modes_block, .inl (cy 0, 16, .inl c_modes_block)), (h0_secret, .inl (cy 0, 80, .inl c_secret_5))] ++ zpl (cy 0) hP_o hP_k cP_kind cP_length cP_usage cP_role cP_uses_2 cPK) := by rw [e_]; exact hD
  clear e_
  refine lv_aload_n (pc := 40) hx hb (zdt_at zt_X9_wrapBytes_0 23 rfl) rfl (lv_at hl 1 rfl) ?_
  refine va_get (pc := 41) (D := D) (ci := 11) (v := .ref h0_secret) (C := RX9) (T := TX9) (N := 19) hx hb hts hcX9 hown hK hP 0 rfl rfl 14 (by decide) hw1 (fun _ h9 => h9) rfl (zdt_at zt_X9_wrapBytes_0 24 rfl) ?_
  refine lv_bipush (pc := 44) (v := (10 : Int32)) hx hb (zdt_at zt_X9_wrapBytes_0 25 rfl) (by decide) ?_
  refine lv_aload_n (pc := 46) hx hb (zdt_at zt_X9_wrapBytes_0 26 rfl) rfl (lv_at hl 2 rfl) ?_
  refine va_get (pc := 47) (D := D) (ci := 10) (v := .int (cP_role j1)) (C := RX8) (T := TX8) (N := 6) hx hb hts hcX8 hown hK hP (7 + j1) (zplO_get (X := [(h0, .inr (11, [.ref h0_buffer, .ref h0_slots, .ref h0_counters, .ref h0_officerPin, .ref h0_userPin, .ref h0_words, .ref h0_sha, .ref h0_stream, .ref h0_aes, .ref h0_modes, .ref h0_gcm, .ref h0_generator, .ref h0_tests, .ref h0_message, .ref h0_secret, .int c_state, .int c_testsDone, .int c_faults, .int c_streamBegun])), (h0_aes, .inr (2, [.ref h0_aes_keys, .int c_aes_rounds])), (h0_aes_keys, .inl (cy 1, 60, .inl c_aes_keys)), (h0_buffer, .inl (cy 0, 512, .inl c_buffer)), (h0_modes, .inr (6, [.ref h0_aes, .ref h0_modes_block, .ref h0_modes_pad])), (h0_modes_block, .inl (cy 0, 16, .inl c_modes_block)), (h0_secret, .inl (cy 0, 80, .inl c_secret_5))]) (n := 7) rfl hj_j1) rfl 4 (by decide) hw4 (fun _ h9 => h9) rfl (zdt_at zt_X9_wrapBytes_0 27 rfl) ?_
  refine lv_i2b (pc := 50) hx hb (zdt_at zt_X9_wrapBytes_0 28 rfl) rfl ?_
  replace hf := zk_s hf
  refine va_bast (pc := 51) hx hb hK hP hD hS 6 0 rfl rfl hf.1 (zdt_at zt_X9_wrapBytes_0 29 rfl) ?_
  replace hf := hf.2
  clear hP hD hS
  intro H locs hP hD hS
  obtain ⟨c_secret_6, e_⟩ : ∃ q : Nat → Int32, q = (upd c_secret_5 (10 : Int32).toNatClampNeg (vp_nar .byte ((cP_role j1).toInt8.toInt32))) := ⟨_, rfl⟩
  replace hf := zn_s hf e_
  replace hP : va_P D vwCl ([(h0, .inr (11, [.ref h0_buffer, .ref h0_slots, .ref h0_counters, .ref h0_officerPin, .ref h0_userPin, .ref h0_words, .ref h0_sha, .ref h0_stream, .ref h0_aes, .ref h0_modes, .ref h0_gcm, .ref h0_generator, .ref h0_tests, .ref h0_message, .ref h0_secret, .int c_state, .int c_testsDone, .int c_faults, .int c_streamBegun])), (h0_aes, .inr (2, [.ref h0_aes_keys, .int c_aes_rounds])), (h0_aes_keys, .inl (cy 1, 60, .inl c_aes_keys)), (h0_buffer, .inl (cy 0, 512, .inl c_buffer)), (h0_modes, .inr (6, [.ref h0_aes, .ref h0_modes_block, .ref h0_modes_pad])), (h0_modes_block, .inl (cy 0, 16, .inl c_modes_block)), (h0_secret, .inl (cy 0, 80, .inl c_secret_6))] ++ zpl (cy 0) hP_o hP_k cP_kind cP_length cP_usage cP_role cP_uses_2 cPK) H := by rw [e_]; exact hP
  replace hD : va_D A ([(h0, .inr (11, [.ref h0_buffer, .ref h0_slots, .ref h0_counters, .ref h0_officerPin, .ref h0_userPin, .ref h0_words, .ref h0_sha, .ref h0_stream, .ref h0_aes, .ref h0_modes, .ref h0_gcm, .ref h0_generator, .ref h0_tests, .ref h0_message, .ref h0_secret, .int c_state, .int c_testsDone, .int c_faults, .int c_streamBegun])), (h0_aes, .inr (2, [.ref h0_aes_keys, .int c_aes_rounds])), (h0_aes_keys, .inl (cy 1, 60, .inl c_aes_keys)), (h0_buffer, .inl (cy 0, 512, .inl c_buffer)), (h0_modes, .inr (6, [.ref h0_aes, .ref h0_modes_block, .ref h0_modes_pad])), (h0_modes_block, .inl (cy 0, 16, .inl c_modes_block)), (h0_secret, .inl (cy 0, 80, .inl c_secret_6))] ++ zpl (cy 0) hP_o hP_k cP_kind cP_length cP_usage cP_role cP_uses_2 cPK) := by rw [e_]; exact hD
  clear e_
  refine lv_aload_n (pc := 52) hx hb (zdt_at zt_X9_wrapBytes_0 30 rfl) rfl (lv_at hl 1 rfl) ?_
  refine va_get (pc := 53) (D := D) (ci := 11) (v := .ref h0_secret) (C := RX9) (T := TX9) (N := 19) hx hb hts hcX9 hown hK hP 0 rfl rfl 14 (by decide) hw1 (fun _ h9 => h9) rfl (zdt_at zt_X9_wrapBytes_0 31 rfl) ?_
  refine lv_bipush (pc := 56) (v := (11 : Int32)) hx hb (zdt_at zt_X9_wrapBytes_0 32 rfl) (by decide) ?_
  refine lv_bipush (pc := 58) (v := (16 : Int32)) hx hb (zdt_at zt_X9_wrapBytes_0 33 rfl) (by decide) ?_
  refine lv_iconst (pc := 60) (v := (0 : Int32)) hx hb (zdt_at zt_X9_wrapBytes_0 34 rfl) (by decide) ?_
  replace hf := zb_s hf
  obtain ⟨c_secret_7, hc_, hf⟩ := hf
  refine zcnQ (pc := 61) (X := [(h0, .inr (11, [.ref h0_buffer, .ref h0_slots, .ref h0_counters, .ref h0_officerPin, .ref h0_userPin, .ref h0_words, .ref h0_sha, .ref h0_stream, .ref h0_aes, .ref h0_modes, .ref h0_gcm, .ref h0_generator, .ref h0_tests, .ref h0_message, .ref h0_secret, .int c_state, .int c_testsDone, .int c_faults, .int c_streamBegun])), (h0_aes, .inr (2, [.ref h0_aes_keys, .int c_aes_rounds])), (h0_aes_keys, .inl (cy 1, 60, .inl c_aes_keys)), (h0_buffer, .inl (cy 0, 512, .inl c_buffer)), (h0_modes, .inr (6, [.ref h0_aes, .ref h0_modes_block, .ref h0_modes_pad])), (h0_modes_block, .inl (cy 0, 16, .inl c_modes_block)), (h0_secret, .inl (cy 0, 80, .inl c_secret_6))]) (rv := none) (va_runS (As := [.ref h0_secret, .int (11 : Int32), .int (16 : Int32), .int (0 : Int32)]) (rest := []) ⟨hx, hb, hml, hown, hts⟩ (c_J7_fill_eb02e l D cy tt H.size h0_secret 80 (11 : Int32) (16 : Int32) (0 : Int32) c_secret_6 c_secret_7 hc_) (va_cwS 4 hts gX9_wrapBytes_J7_fill_eb02e rfl rfl rfl (by decide +kernel) ⟨Nat.le_of_ble_eq_true rfl, Nat.le_of_ble_eq_true rfl⟩) ⟨zblind, zpre hE hS (hP.sub [6] rfl) (hD.sub [6] (by decide) rfl) (va_free hD hS hA [6] rfl)⟩ rfl rfl hl.1 rfl (lv_room (Nat.le_of_ble_eq_true rfl)) (zdt_at zt_X9_wrapBytes_0 35 rfl) ⟨Nat.zero_le _, Nat.zero_le _⟩) hS hP hD (va_free hD hS hA [6] rfl) [6] rfl (by decide) rfl rfl ?_
  clear hP hD hS hc_
  intro H locs hP hD hS
  replace hP : va_P D vwCl ([(h0, .inr (11, [.ref h0_buffer, .ref h0_slots, .ref h0_counters, .ref h0_officerPin, .ref h0_userPin, .ref h0_words, .ref h0_sha, .ref h0_stream, .ref h0_aes, .ref h0_modes, .ref h0_gcm, .ref h0_generator, .ref h0_tests, .ref h0_message, .ref h0_secret, .int c_state, .int c_testsDone, .int c_faults, .int c_streamBegun])), (h0_aes, .inr (2, [.ref h0_aes_keys, .int c_aes_rounds])), (h0_aes_keys, .inl (cy 1, 60, .inl c_aes_keys)), (h0_buffer, .inl (cy 0, 512, .inl c_buffer)), (h0_modes, .inr (6, [.ref h0_aes, .ref h0_modes_block, .ref h0_modes_pad])), (h0_modes_block, .inl (cy 0, 16, .inl c_modes_block)), (h0_secret, .inl (cy 0, 80, .inl c_secret_7))] ++ zpl (cy 0) hP_o hP_k cP_kind cP_length cP_usage cP_role cP_uses_2 cPK) H := hP
  replace hD : va_D A ([(h0, .inr (11, [.ref h0_buffer, .ref h0_slots, .ref h0_counters, .ref h0_officerPin, .ref h0_userPin, .ref h0_words, .ref h0_sha, .ref h0_stream, .ref h0_aes, .ref h0_modes, .ref h0_gcm, .ref h0_generator, .ref h0_tests, .ref h0_message, .ref h0_secret, .int c_state, .int c_testsDone, .int c_faults, .int c_streamBegun])), (h0_aes, .inr (2, [.ref h0_aes_keys, .int c_aes_rounds])), (h0_aes_keys, .inl (cy 1, 60, .inl c_aes_keys)), (h0_buffer, .inl (cy 0, 512, .inl c_buffer)), (h0_modes, .inr (6, [.ref h0_aes, .ref h0_modes_block, .ref h0_modes_pad])), (h0_modes_block, .inl (cy 0, 16, .inl c_modes_block)), (h0_secret, .inl (cy 0, 80, .inl c_secret_7))] ++ zpl (cy 0) hP_o hP_k cP_kind cP_length cP_usage cP_role cP_uses_2 cPK) := hD
  refine W.eq (g2 := F0 m 64 ls []) rfl ?_
  refine lv_aload_n (pc := 64) hx hb (zdt_at zt_X9_wrapBytes_0 36 rfl) rfl (lv_at hl 2 rfl) ?_
  refine va_get (pc := 65) (D := D) (ci := 10) (v := .ref (hP_k j1)) (C := RX8) (T := TX8) (N := 6) hx hb hts hcX8 hown hK hP (7 + j1) (zplO_get (X := [(h0, .inr (11, [.ref h0_buffer, .ref h0_slots, .ref h0_counters, .ref h0_officerPin, .ref h0_userPin, .ref h0_words, .ref h0_sha, .ref h0_stream, .ref h0_aes, .ref h0_modes, .ref h0_gcm, .ref h0_generator, .ref h0_tests, .ref h0_message, .ref h0_secret, .int c_state, .int c_testsDone, .int c_faults, .int c_streamBegun])), (h0_aes, .inr (2, [.ref h0_aes_keys, .int c_aes_rounds])), (h0_aes_keys, .inl (cy 1, 60, .inl c_aes_keys)), (h0_buffer, .inl (cy 0, 512, .inl c_buffer)), (h0_modes, .inr (6, [.ref h0_aes, .ref h0_modes_block, .ref h0_modes_pad])), (h0_modes_block, .inl (cy 0, 16, .inl c_modes_block)), (h0_secret, .inl (cy 0, 80, .inl c_secret_7))]) (n := 7) rfl hj_j1) rfl 0 (by decide) hw5 (fun _ h9 => h9) rfl (zdt_at zt_X9_wrapBytes_0 37 rfl) ?_
  refine lv_iconst (pc := 68) (v := (0 : Int32)) hx hb (zdt_at zt_X9_wrapBytes_0 38 rfl) (by decide) ?_
  refine lv_aload_n (pc := 69) hx hb (zdt_at zt_X9_wrapBytes_0 39 rfl) rfl (lv_at hl 1 rfl) ?_
  refine va_get (pc := 70) (D := D) (ci := 11) (v := .ref h0_secret) (C := RX9) (T := TX9) (N := 19) hx hb hts hcX9 hown hK hP 0 rfl rfl 14 (by decide) hw1 (fun _ h9 => h9) rfl (zdt_at zt_X9_wrapBytes_0 40 rfl) ?_
  refine lv_bipush (pc := 73) (v := (16 : Int32)) hx hb (zdt_at zt_X9_wrapBytes_0 41 rfl) (by decide) ?_
  refine lv_aload_n (pc := 75) hx hb (zdt_at zt_X9_wrapBytes_0 42 rfl) rfl (lv_at hl 2 rfl) ?_
  refine va_get (pc := 76) (D := D) (ci := 10) (v := .int (cP_length j1)) (C := RX8) (T := TX8) (N := 6) hx hb hts hcX8 hown hK hP (7 + j1) (zplO_get (X := [(h0, .inr (11, [.ref h0_buffer, .ref h0_slots, .ref h0_counters, .ref h0_officerPin, .ref h0_userPin, .ref h0_words, .ref h0_sha, .ref h0_stream, .ref h0_aes, .ref h0_modes, .ref h0_gcm, .ref h0_generator, .ref h0_tests, .ref h0_message, .ref h0_secret, .int c_state, .int c_testsDone, .int c_faults, .int c_streamBegun])), (h0_aes, .inr (2, [.ref h0_aes_keys, .int c_aes_rounds])), (h0_aes_keys, .inl (cy 1, 60, .inl c_aes_keys)), (h0_buffer, .inl (cy 0, 512, .inl c_buffer)), (h0_modes, .inr (6, [.ref h0_aes, .ref h0_modes_block, .ref h0_modes_pad])), (h0_modes_block, .inl (cy 0, 16, .inl c_modes_block)), (h0_secret, .inl (cy 0, 80, .inl c_secret_7))]) (n := 7) rfl hj_j1) rfl 2 (by decide) hw0 (fun _ h9 => h9) rfl (zdt_at zt_X9_wrapBytes_0 43 rfl) ?_
  replace hf := zk_s hf
  refine va_copyi (pc := 79) hx hb (hml.trans hl.1.symm) hown hw6 hw7 hw8 hw9 hK hP hD hS (23 + j1) 6 0 0 (zplK_get (X := [(h0, .inr (11, [.ref h0_buffer, .ref h0_slots, .ref h0_counters, .ref h0_officerPin, .ref h0_userPin, .ref h0_words, .ref h0_sha, .ref h0_stream, .ref h0_aes, .ref h0_modes, .ref h0_gcm, .ref h0_generator, .ref h0_tests, .ref h0_message, .ref h0_secret, .int c_state, .int c_testsDone, .int c_faults, .int c_streamBegun])), (h0_aes, .inr (2, [.ref h0_aes_keys, .int c_aes_rounds])), (h0_aes_keys, .inl (cy 1, 60, .inl c_aes_keys)), (h0_buffer, .inl (cy 0, 512, .inl c_buffer)), (h0_modes, .inr (6, [.ref h0_aes, .ref h0_modes_block, .ref h0_modes_pad])), (h0_modes_block, .inl (cy 0, 16, .inl c_modes_block)), (h0_secret, .inl (cy 0, 80, .inl c_secret_7))]) (n := 7) rfl hj_j1) rfl rfl rfl rfl hf.1.1 hf.1.2.1 hf.1.2.2.1 hf.1.2.2.2.1 hf.1.2.2.2.2.1 hf.1.2.2.2.2.2 (Nat.le_of_ble_eq_true rfl) (Nat.le_of_ble_eq_true rfl) (zdt_at zt_X9_wrapBytes_0 44 rfl) ?_
  replace hf := hf.2
  clear hP hD hS
  intro H locs hP hD hS
  obtain ⟨c_secret_8, e_⟩ : ∃ q : Nat → Int32, q = (va_cpy (cPK j1) c_secret_7 (0 : Int32).toNatClampNeg (16 : Int32).toNatClampNeg (cP_length j1).toNatClampNeg) := ⟨_, rfl⟩
  replace hf := zn_s hf e_
  replace hP : va_P D vwCl ([(h0, .inr (11, [.ref h0_buffer, .ref h0_slots, .ref h0_counters, .ref h0_officerPin, .ref h0_userPin, .ref h0_words, .ref h0_sha, .ref h0_stream, .ref h0_aes, .ref h0_modes, .ref h0_gcm, .ref h0_generator, .ref h0_tests, .ref h0_message, .ref h0_secret, .int c_state, .int c_testsDone, .int c_faults, .int c_streamBegun])), (h0_aes, .inr (2, [.ref h0_aes_keys, .int c_aes_rounds])), (h0_aes_keys, .inl (cy 1, 60, .inl c_aes_keys)), (h0_buffer, .inl (cy 0, 512, .inl c_buffer)), (h0_modes, .inr (6, [.ref h0_aes, .ref h0_modes_block, .ref h0_modes_pad])), (h0_modes_block, .inl (cy 0, 16, .inl c_modes_block)), (h0_secret, .inl (cy 0, 80, .inl c_secret_8))] ++ zpl (cy 0) hP_o hP_k cP_kind cP_length cP_usage cP_role cP_uses_2 cPK) H := by rw [e_]; exact hP
  replace hD : va_D A ([(h0, .inr (11, [.ref h0_buffer, .ref h0_slots, .ref h0_counters, .ref h0_officerPin, .ref h0_userPin, .ref h0_words, .ref h0_sha, .ref h0_stream, .ref h0_aes, .ref h0_modes, .ref h0_gcm, .ref h0_generator, .ref h0_tests, .ref h0_message, .ref h0_secret, .int c_state, .int c_testsDone, .int c_faults, .int c_streamBegun])), (h0_aes, .inr (2, [.ref h0_aes_keys, .int c_aes_rounds])), (h0_aes_keys, .inl (cy 1, 60, .inl c_aes_keys)), (h0_buffer, .inl (cy 0, 512, .inl c_buffer)), (h0_modes, .inr (6, [.ref h0_aes, .ref h0_modes_block, .ref h0_modes_pad])), (h0_modes_block, .inl (cy 0, 16, .inl c_modes_block)), (h0_secret, .inl (cy 0, 80, .inl c_secret_8))] ++ zpl (cy 0) hP_o hP_k cP_kind cP_length cP_usage cP_role cP_uses_2 cPK) := by rw [e_]; exact hD
  clear e_
  refine lv_aload_n (pc := 82) hx hb (zdt_at zt_X9_wrapBytes_0 45 rfl) rfl (lv_at hl 1 rfl) ?_
  refine va_get (pc := 83) (D := D) (ci := 11) (v := .ref h0_aes) (C := RX9) (T := TX9) (N := 19) hx hb hts hcX9 hown hK hP 0 rfl rfl 8 (by decide) hw10 (fun _ h9 => h9) rfl (zdt_at zt_X9_wrapBytes_0 46 rfl) ?_
  refine lv_aload_n (pc := 86) hx hb (zdt_at zt_X9_wrapBytes_0 47 rfl) rfl (lv_at hl 3 rfl) ?_
  refine va_get (pc := 87) (D := D) (ci := 10) (v := .ref (hP_k j2)) (C := RX8) (T := TX8) (N := 6) hx hb hts hcX8 hown hK hP (7 + j2) (zplO_get (X := [(h0, .inr (11, [.ref h0_buffer, .ref h0_slots, .ref h0_counters, .ref h0_officerPin, .ref h0_userPin, .ref h0_words, .ref h0_sha, .ref h0_stream, .ref h0_aes, .ref h0_modes, .ref h0_gcm, .ref h0_generator, .ref h0_tests, .ref h0_message, .ref h0_secret, .int c_state, .int c_testsDone, .int c_faults, .int c_streamBegun])), (h0_aes, .inr (2, [.ref h0_aes_keys, .int c_aes_rounds])), (h0_aes_keys, .inl (cy 1, 60, .inl c_aes_keys)), (h0_buffer, .inl (cy 0, 512, .inl c_buffer)), (h0_modes, .inr (6, [.ref h0_aes, .ref h0_modes_block, .ref h0_modes_pad])), (h0_modes_block, .inl (cy 0, 16, .inl c_modes_block)), (h0_secret, .inl (cy 0, 80, .inl c_secret_8))]) (n := 7) rfl hj_j2) rfl 0 (by decide) hw5 (fun _ h9 => h9) rfl (zdt_at zt_X9_wrapBytes_0 48 rfl) ?_
  refine lv_aload_n (pc := 90) hx hb (zdt_at zt_X9_wrapBytes_0 49 rfl) rfl (lv_at hl 3 rfl) ?_
  refine va_get (pc := 91) (D := D) (ci := 10) (v := .int (cP_length j2)) (C := RX8) (T := TX8) (N := 6) hx hb hts hcX8 hown hK hP (7 + j2) (zplO_get (X := [(h0, .inr (11, [.ref h0_buffer, .ref h0_slots, .ref h0_counters, .ref h0_officerPin, .ref h0_userPin, .ref h0_words, .ref h0_sha, .ref h0_stream, .ref h0_aes, .ref h0_modes, .ref h0_gcm, .ref h0_generator, .ref h0_tests, .ref h0_message, .ref h0_secret, .int c_state, .int c_testsDone, .int c_faults, .int c_streamBegun])), (h0_aes, .inr (2, [.ref h0_aes_keys, .int c_aes_rounds])), (h0_aes_keys, .inl (cy 1, 60, .inl c_aes_keys)), (h0_buffer, .inl (cy 0, 512, .inl c_buffer)), (h0_modes, .inr (6, [.ref h0_aes, .ref h0_modes_block, .ref h0_modes_pad])), (h0_modes_block, .inl (cy 0, 16, .inl c_modes_block)), (h0_secret, .inl (cy 0, 80, .inl c_secret_8))]) (n := 7) rfl hj_j2) rfl 2 (by decide) hw0 (fun _ h9 => h9) rfl (zdt_at zt_X9_wrapBytes_0 50 rfl) ?_
  replace hf := zb_s hf
  obtain ⟨⟨c_aes_rounds_9, c_aes_keys_10⟩, hc_, hf⟩ := hf
  refine zcnP (pc := 94) (X := [(h0, .inr (11, [.ref h0_buffer, .ref h0_slots, .ref h0_counters, .ref h0_officerPin, .ref h0_userPin, .ref h0_words, .ref h0_sha, .ref h0_stream, .ref h0_aes, .ref h0_modes, .ref h0_gcm, .ref h0_generator, .ref h0_tests, .ref h0_message, .ref h0_secret, .int c_state, .int c_testsDone, .int c_faults, .int c_streamBegun])), (h0_aes, .inr (2, [.ref h0_aes_keys, .int c_aes_rounds])), (h0_aes_keys, .inl (cy 1, 60, .inl c_aes_keys)), (h0_buffer, .inl (cy 0, 512, .inl c_buffer)), (h0_modes, .inr (6, [.ref h0_aes, .ref h0_modes_block, .ref h0_modes_pad])), (h0_modes_block, .inl (cy 0, 16, .inl c_modes_block)), (h0_secret, .inl (cy 0, 80, .inl c_secret_8))]) (rv := none) (va_runV (As := [.ref (hP_k j2), .int (cP_length j2)]) (rest := []) ⟨hx, hb, hml, hown, hts⟩ (c_X0_setKey_1PK l D cy tt H.size h0_aes h0_aes_keys hP_o hP_k j2 (cP_length j2) c_aes_rounds c_aes_keys cPK cP_kind cP_length cP_usage cP_role cP_uses_2 c_aes_rounds_9 c_aes_keys_10 hj_j2 hc_) (cwV 2 hts gX9_wrapBytes_X0_setKey rfl rfl rfl (by decide +kernel) ⟨Nat.le_of_ble_eq_true rfl, Nat.le_of_ble_eq_true rfl⟩) ⟨zblind, va_recv hK hP (ci := 2) (q0 := 1) rfl rfl, zpre hE hS (va_P.part (X := [(h0, .inr (11, [.ref h0_buffer, .ref h0_slots, .ref h0_counters, .ref h0_officerPin, .ref h0_userPin, .ref h0_words, .ref h0_sha, .ref h0_stream, .ref h0_aes, .ref h0_modes, .ref h0_gcm, .ref h0_generator, .ref h0_tests, .ref h0_message, .ref h0_secret, .int c_state, .int c_testsDone, .int c_faults, .int c_streamBegun])), (h0_aes, .inr (2, [.ref h0_aes_keys, .int c_aes_rounds])), (h0_aes_keys, .inl (cy 1, 60, .inl c_aes_keys)), (h0_buffer, .inl (cy 0, 512, .inl c_buffer)), (h0_modes, .inr (6, [.ref h0_aes, .ref h0_modes_block, .ref h0_modes_pad])), (h0_modes_block, .inl (cy 0, 16, .inl c_modes_block)), (h0_secret, .inl (cy 0, 80, .inl c_secret_8))]) hP [1, 2] rfl) (va_D.part (X := [(h0, .inr (11, [.ref h0_buffer, .ref h0_slots, .ref h0_counters, .ref h0_officerPin, .ref h0_userPin, .ref h0_words, .ref h0_sha, .ref h0_stream, .ref h0_aes, .ref h0_modes, .ref h0_gcm, .ref h0_generator, .ref h0_tests, .ref h0_message, .ref h0_secret, .int c_state, .int c_testsDone, .int c_faults, .int c_streamBegun])), (h0_aes, .inr (2, [.ref h0_aes_keys, .int c_aes_rounds])), (h0_aes_keys, .inl (cy 1, 60, .inl c_aes_keys)), (h0_buffer, .inl (cy 0, 512, .inl c_buffer)), (h0_modes, .inr (6, [.ref h0_aes, .ref h0_modes_block, .ref h0_modes_pad])), (h0_modes_block, .inl (cy 0, 16, .inl c_modes_block)), (h0_secret, .inl (cy 0, 80, .inl c_secret_8))]) hD [1, 2] (by decide) rfl) (va_freeP (X := [(h0, .inr (11, [.ref h0_buffer, .ref h0_slots, .ref h0_counters, .ref h0_officerPin, .ref h0_userPin, .ref h0_words, .ref h0_sha, .ref h0_stream, .ref h0_aes, .ref h0_modes, .ref h0_gcm, .ref h0_generator, .ref h0_tests, .ref h0_message, .ref h0_secret, .int c_state, .int c_testsDone, .int c_faults, .int c_streamBegun])), (h0_aes, .inr (2, [.ref h0_aes_keys, .int c_aes_rounds])), (h0_aes_keys, .inl (cy 1, 60, .inl c_aes_keys)), (h0_buffer, .inl (cy 0, 512, .inl c_buffer)), (h0_modes, .inr (6, [.ref h0_aes, .ref h0_modes_block, .ref h0_modes_pad])), (h0_modes_block, .inl (cy 0, 16, .inl c_modes_block)), (h0_secret, .inl (cy 0, 80, .inl c_secret_8))]) hD hS hA [1, 2] rfl)⟩ rfl rfl hl.1 rfl (lv_room (Nat.le_of_ble_eq_true rfl)) (zdt_at zt_X9_wrapBytes_0 51 rfl) ⟨Nat.zero_le _, Nat.zero_le _⟩) hS hP hD (va_freeP (X := [(h0, .inr (11, [.ref h0_buffer, .ref h0_slots, .ref h0_counters, .ref h0_officerPin, .ref h0_userPin, .ref h0_words, .ref h0_sha, .ref h0_stream, .ref h0_aes, .ref h0_modes, .ref h0_gcm, .ref h0_generator, .ref h0_tests, .ref h0_message, .ref h0_secret, .int c_state, .int c_testsDone, .int c_faults, .int c_streamBegun])), (h0_aes, .inr (2, [.ref h0_aes_keys, .int c_aes_rounds])), (h0_aes_keys, .inl (cy 1, 60, .inl c_aes_keys)), (h0_buffer, .inl (cy 0, 512, .inl c_buffer)), (h0_modes, .inr (6, [.ref h0_aes, .ref h0_modes_block, .ref h0_modes_pad])), (h0_modes_block, .inl (cy 0, 16, .inl c_modes_block)), (h0_secret, .inl (cy 0, 80, .inl c_secret_8))]) hD hS hA [1, 2] rfl) [1, 2] rfl (by decide) rfl rfl zpl_adr ?_
  clear hP hD hS hc_
  intro H locs hP hD hS
  replace hP : va_P D vwCl ([(h0, .inr (11, [.ref h0_buffer, .ref h0_slots, .ref h0_counters, .ref h0_officerPin, .ref h0_userPin, .ref h0_words, .ref h0_sha, .ref h0_stream, .ref h0_aes, .ref h0_modes, .ref h0_gcm, .ref h0_generator, .ref h0_tests, .ref h0_message, .ref h0_secret, .int c_state, .int c_testsDone, .int c_faults, .int c_streamBegun])), (h0_aes, .inr (2, [.ref h0_aes_keys, .int c_aes_rounds_9])), (h0_aes_keys, .inl (cy 1, 60, .inl c_aes_keys_10)), (h0_buffer, .inl (cy 0, 512, .inl c_buffer)), (h0_modes, .inr (6, [.ref h0_aes, .ref h0_modes_block, .ref h0_modes_pad])), (h0_modes_block, .inl (cy 0, 16, .inl c_modes_block)), (h0_secret, .inl (cy 0, 80, .inl c_secret_8))] ++ zpl (cy 0) hP_o hP_k cP_kind cP_length cP_usage cP_role cP_uses_2 cPK) H := hP
  replace hD : va_D A ([(h0, .inr (11, [.ref h0_buffer, .ref h0_slots, .ref h0_counters, .ref h0_officerPin, .ref h0_userPin, .ref h0_words, .ref h0_sha, .ref h0_stream, .ref h0_aes, .ref h0_modes, .ref h0_gcm, .ref h0_generator, .ref h0_tests, .ref h0_message, .ref h0_secret, .int c_state, .int c_testsDone, .int c_faults, .int c_streamBegun])), (h0_aes, .inr (2, [.ref h0_aes_keys, .int c_aes_rounds_9])), (h0_aes_keys, .inl (cy 1, 60, .inl c_aes_keys_10)), (h0_buffer, .inl (cy 0, 512, .inl c_buffer)), (h0_modes, .inr (6, [.ref h0_aes, .ref h0_modes_block, .ref h0_modes_pad])), (h0_modes_block, .inl (cy 0, 16, .inl c_modes_block)), (h0_secret, .inl (cy 0, 80, .inl c_secret_8))] ++ zpl (cy 0) hP_o hP_k cP_kind cP_length cP_usage cP_role cP_uses_2 cPK) := hD
  refine W.eq (g2 := F0 m 97 ls []) rfl ?_
  refine lv_aload_n (pc := 97) hx hb (zdt_at zt_X9_wrapBytes_0 52 rfl) rfl (lv_at hl 1 rfl) ?_
  refine va_get (pc := 98) (D := D) (ci := 11) (v := .ref h0_modes) (C := RX9) (T := TX9) (N := 19) hx hb hts hcX9 hown hK hP 0 rfl rfl 9 (by decide) hw11 (fun _ h9 => h9) rfl (zdt_at zt_X9_wrapBytes_0 53 rfl) ?_
  refine lv_aload_n (pc := 101) hx hb (zdt_at zt_X9_wrapBytes_0 54 rfl) rfl (lv_at hl 1 rfl) ?_
  refine va_get (pc := 102) (D := D) (ci := 11) (v := .ref h0_secret) (C := RX9) (T := TX9) (N := 19) hx hb hts hcX9 hown hK hP 0 rfl rfl 14 (by decide) hw1 (fun _ h9 => h9) rfl (zdt_at zt_X9_wrapBytes_0 55 rfl) ?_
  refine lv_iload_n (pc := 105) hx hb (zdt_at zt_X9_wrapBytes_0 56 rfl) rfl (lv_at hl 0 rfl) ?_
  replace hf := zb_s hf
  obtain ⟨⟨c_modes_block_11, c_secret_12⟩, hc_, hf⟩ := hf
  refine zcnQ (pc := 106) (X := [(h0, .inr (11, [.ref h0_buffer, .ref h0_slots, .ref h0_counters, .ref h0_officerPin, .ref h0_userPin, .ref h0_words, .ref h0_sha, .ref h0_stream, .ref h0_aes, .ref h0_modes, .ref h0_gcm, .ref h0_generator, .ref h0_tests, .ref h0_message, .ref h0_secret, .int c_state, .int c_testsDone, .int c_faults, .int c_streamBegun])), (h0_aes, .inr (2, [.ref h0_aes_keys, .int c_aes_rounds_9])), (h0_aes_keys, .inl (cy 1, 60, .inl c_aes_keys_10)), (h0_buffer, .inl (cy 0, 512, .inl c_buffer)), (h0_modes, .inr (6, [.ref h0_aes, .ref h0_modes_block, .ref h0_modes_pad])), (h0_modes_block, .inl (cy 0, 16, .inl c_modes_block)), (h0_secret, .inl (cy 0, 80, .inl c_secret_8))]) (rv := none) (va_runV (As := [.ref h0_secret, .int x_3]) (rest := []) ⟨hx, hb, hml, hown, hts⟩ (c_X4_wrapIn l D cy tt H.size h0_modes h0_aes h0_modes_block h0_modes_pad h0_aes_keys h0_secret 80 x_3 c_aes_rounds_9 c_aes_keys_10 c_modes_block c_secret_8 c_modes_block_11 c_secret_12 hc_) (cwV 2 hts gX9_wrapBytes_X4_wrapIn rfl rfl rfl (by decide +kernel) ⟨Nat.le_of_ble_eq_true rfl, Nat.le_of_ble_eq_true rfl⟩) ⟨zblind, va_recv hK hP (ci := 6) (q0 := 4) rfl rfl, zpre hE hS (hP.sub [4, 1, 2, 5, 6] rfl) (hD.sub [4, 1, 2, 5, 6] (by decide) rfl) (va_free hD hS hA [4, 1, 2, 5, 6] rfl)⟩ rfl rfl hl.1 rfl (lv_room (Nat.le_of_ble_eq_true rfl)) (zdt_at zt_X9_wrapBytes_0 57 rfl) ⟨Nat.zero_le _, Nat.zero_le _⟩) hS hP hD (va_free hD hS hA [4, 1, 2, 5, 6] rfl) [4, 1, 2, 5, 6] rfl (by decide) rfl rfl ?_
  clear hP hD hS hc_
  intro H locs hP hD hS
  replace hP : va_P D vwCl ([(h0, .inr (11, [.ref h0_buffer, .ref h0_slots, .ref h0_counters, .ref h0_officerPin, .ref h0_userPin, .ref h0_words, .ref h0_sha, .ref h0_stream, .ref h0_aes, .ref h0_modes, .ref h0_gcm, .ref h0_generator, .ref h0_tests, .ref h0_message, .ref h0_secret, .int c_state, .int c_testsDone, .int c_faults, .int c_streamBegun])), (h0_aes, .inr (2, [.ref h0_aes_keys, .int c_aes_rounds_9])), (h0_aes_keys, .inl (cy 1, 60, .inl c_aes_keys_10)), (h0_buffer, .inl (cy 0, 512, .inl c_buffer)), (h0_modes, .inr (6, [.ref h0_aes, .ref h0_modes_block, .ref h0_modes_pad])), (h0_modes_block, .inl (cy 0, 16, .inl c_modes_block_11)), (h0_secret, .inl (cy 0, 80, .inl c_secret_12))] ++ zpl (cy 0) hP_o hP_k cP_kind cP_length cP_usage cP_role cP_uses_2 cPK) H := hP
  replace hD : va_D A ([(h0, .inr (11, [.ref h0_buffer, .ref h0_slots, .ref h0_counters, .ref h0_officerPin, .ref h0_userPin, .ref h0_words, .ref h0_sha, .ref h0_stream, .ref h0_aes, .ref h0_modes, .ref h0_gcm, .ref h0_generator, .ref h0_tests, .ref h0_message, .ref h0_secret, .int c_state, .int c_testsDone, .int c_faults, .int c_streamBegun])), (h0_aes, .inr (2, [.ref h0_aes_keys, .int c_aes_rounds_9])), (h0_aes_keys, .inl (cy 1, 60, .inl c_aes_keys_10)), (h0_buffer, .inl (cy 0, 512, .inl c_buffer)), (h0_modes, .inr (6, [.ref h0_aes, .ref h0_modes_block, .ref h0_modes_pad])), (h0_modes_block, .inl (cy 0, 16, .inl c_modes_block_11)), (h0_secret, .inl (cy 0, 80, .inl c_secret_12))] ++ zpl (cy 0) hP_o hP_k cP_kind cP_length cP_usage cP_role cP_uses_2 cPK) := hD
  refine W.eq (g2 := F0 m 109 ls []) rfl ?_
  refine lv_aload_n (pc := 109) hx hb (zdt_at zt_X9_wrapBytes_0 58 rfl) rfl (lv_at hl 1 rfl) ?_
  refine va_get (pc := 110) (D := D) (ci := 11) (v := .ref h0_secret) (C := RX9) (T := TX9) (N := 19) hx hb hts hcX9 hown hK hP 0 rfl rfl 14 (by decide) hw1 (fun _ h9 => h9) rfl (zdt_at zt_X9_wrapBytes_0 59 rfl) ?_
  refine lv_iconst (pc := 113) (v := (0 : Int32)) hx hb (zdt_at zt_X9_wrapBytes_0 60 rfl) (by decide) ?_
  refine lv_aload_n (pc := 114) hx hb (zdt_at zt_X9_wrapBytes_0 61 rfl) rfl (lv_at hl 1 rfl) ?_
  refine va_get (pc := 115) (D := D) (ci := 11) (v := .ref h0_buffer) (C := RX9) (T := TX9) (N := 19) hx hb hts hcX9 hown hK hP 0 rfl rfl 0 (by decide) hw12 (fun _ h9 => h9) rfl (zdt_at zt_X9_wrapBytes_0 62 rfl) ?_
  refine lv_iconst (pc := 118) (v := (0 : Int32)) hx hb (zdt_at zt_X9_wrapBytes_0 63 rfl) (by decide) ?_
  refine lv_iload_n (pc := 119) hx hb (zdt_at zt_X9_wrapBytes_1 0 rfl) rfl (lv_at hl 0 rfl) ?_
  replace hf := zk_s hf
  refine va_copyi (pc := 120) hx hb (hml.trans hl.1.symm) hown hw6 hw7 hw8 hw9 hK hP hD hS 6 3 0 0 rfl rfl rfl rfl rfl hf.1.1 hf.1.2.1 hf.1.2.2.1 hf.1.2.2.2.1 hf.1.2.2.2.2.1 hf.1.2.2.2.2.2 (Nat.le_of_ble_eq_true rfl) (Nat.le_of_ble_eq_true rfl) (zdt_at zt_X9_wrapBytes_1 1 rfl) ?_
  replace hf := hf.2
  clear hP hD hS
  intro H locs hP hD hS
  obtain ⟨c_buffer_13, e_⟩ : ∃ q : Nat → Int32, q = (va_cpy c_secret_12 c_buffer (0 : Int32).toNatClampNeg (0 : Int32).toNatClampNeg x_3.toNatClampNeg) := ⟨_, rfl⟩
  replace hf := zn_s hf e_
  replace hP : va_P D vwCl ([(h0, .inr (11, [.ref h0_buffer, .ref h0_slots, .ref h0_counters, .ref h0_officerPin, .ref h0_userPin, .ref h0_words, .ref h0_sha, .ref h0_stream, .ref h0_aes, .ref h0_modes, .ref h0_gcm, .ref h0_generator, .ref h0_tests, .ref h0_message, .ref h0_secret, .int c_state, .int c_testsDone, .int c_faults, .int c_streamBegun])), (h0_aes, .inr (2, [.ref h0_aes_keys, .int c_aes_rounds_9])), (h0_aes_keys, .inl (cy 1, 60, .inl c_aes_keys_10)), (h0_buffer, .inl (cy 0, 512, .inl c_buffer_13)), (h0_modes, .inr (6, [.ref h0_aes, .ref h0_modes_block, .ref h0_modes_pad])), (h0_modes_block, .inl (cy 0, 16, .inl c_modes_block_11)), (h0_secret, .inl (cy 0, 80, .inl c_secret_12))] ++ zpl (cy 0) hP_o hP_k cP_kind cP_length cP_usage cP_role cP_uses_2 cPK) H := by rw [e_]; exact hP
  replace hD : va_D A ([(h0, .inr (11, [.ref h0_buffer, .ref h0_slots, .ref h0_counters, .ref h0_officerPin, .ref h0_userPin, .ref h0_words, .ref h0_sha, .ref h0_stream, .ref h0_aes, .ref h0_modes, .ref h0_gcm, .ref h0_generator, .ref h0_tests, .ref h0_message, .ref h0_secret, .int c_state, .int c_testsDone, .int c_faults, .int c_streamBegun])), (h0_aes, .inr (2, [.ref h0_aes_keys, .int c_aes_rounds_9])), (h0_aes_keys, .inl (cy 1, 60, .inl c_aes_keys_10)), (h0_buffer, .inl (cy 0, 512, .inl c_buffer_13)), (h0_modes, .inr (6, [.ref h0_aes, .ref h0_modes_block, .ref h0_modes_pad])), (h0_modes_block, .inl (cy 0, 16, .inl c_modes_block_11)), (h0_secret, .inl (cy 0, 80, .inl c_secret_12))] ++ zpl (cy 0) hP_o hP_k cP_kind cP_length cP_usage cP_role cP_uses_2 cPK) := by rw [e_]; exact hD
  clear e_
  refine lv_aload_n (pc := 123) hx hb (zdt_at zt_X9_wrapBytes_1 2 rfl) rfl (lv_at hl 1 rfl) ?_
  replace hf := zb_s hf
  obtain ⟨c_secret_14, hc_, hf⟩ := hf
  refine zcnQ (pc := 124) (X := [(h0, .inr (11, [.ref h0_buffer, .ref h0_slots, .ref h0_counters, .ref h0_officerPin, .ref h0_userPin, .ref h0_words, .ref h0_sha, .ref h0_stream, .ref h0_aes, .ref h0_modes, .ref h0_gcm, .ref h0_generator, .ref h0_tests, .ref h0_message, .ref h0_secret, .int c_state, .int c_testsDone, .int c_faults, .int c_streamBegun])), (h0_aes, .inr (2, [.ref h0_aes_keys, .int c_aes_rounds_9])), (h0_aes_keys, .inl (cy 1, 60, .inl c_aes_keys_10)), (h0_buffer, .inl (cy 0, 512, .inl c_buffer_13)), (h0_modes, .inr (6, [.ref h0_aes, .ref h0_modes_block, .ref h0_modes_pad])), (h0_modes_block, .inl (cy 0, 16, .inl c_modes_block_11)), (h0_secret, .inl (cy 0, 80, .inl c_secret_12))]) (rv := none) (va_runV (As := []) (rest := []) ⟨hx, hb, hml, hown, hts⟩ (c_X9_forgetSecret l D cy tt H.size h0 h0_buffer h0_slots h0_counters h0_officerPin h0_userPin h0_words h0_sha h0_stream h0_aes h0_modes h0_gcm h0_generator h0_tests h0_message h0_secret c_secret_12 c_state c_testsDone c_faults c_streamBegun c_secret_14 hc_) (cwV 0 hts gX9_wrapBytes_X9_forgetSecret rfl rfl rfl (by decide +kernel) ⟨Nat.le_of_ble_eq_true rfl, Nat.le_of_ble_eq_true rfl⟩) ⟨zblind, va_recv hK hP (ci := 11) (q0 := 0) rfl rfl, zpre hE hS (hP.sub [0, 6] rfl) (hD.sub [0, 6] (by decide) rfl) (va_free hD hS hA [0, 6] rfl)⟩ rfl rfl hl.1 rfl (lv_room (Nat.le_of_ble_eq_true rfl)) (zdt_at zt_X9_wrapBytes_1 3 rfl) ⟨Nat.zero_le _, Nat.zero_le _⟩) hS hP hD (va_free hD hS hA [0, 6] rfl) [0, 6] rfl (by decide) rfl rfl ?_
  clear hP hD hS hc_
  intro H locs hP hD hS
  replace hP : va_P D vwCl ([(h0, .inr (11, [.ref h0_buffer, .ref h0_slots, .ref h0_counters, .ref h0_officerPin, .ref h0_userPin, .ref h0_words, .ref h0_sha, .ref h0_stream, .ref h0_aes, .ref h0_modes, .ref h0_gcm, .ref h0_generator, .ref h0_tests, .ref h0_message, .ref h0_secret, .int c_state, .int c_testsDone, .int c_faults, .int c_streamBegun])), (h0_aes, .inr (2, [.ref h0_aes_keys, .int c_aes_rounds_9])), (h0_aes_keys, .inl (cy 1, 60, .inl c_aes_keys_10)), (h0_buffer, .inl (cy 0, 512, .inl c_buffer_13)), (h0_modes, .inr (6, [.ref h0_aes, .ref h0_modes_block, .ref h0_modes_pad])), (h0_modes_block, .inl (cy 0, 16, .inl c_modes_block_11)), (h0_secret, .inl (cy 0, 80, .inl c_secret_14))] ++ zpl (cy 0) hP_o hP_k cP_kind cP_length cP_usage cP_role cP_uses_2 cPK) H := hP
  replace hD : va_D A ([(h0, .inr (11, [.ref h0_buffer, .ref h0_slots, .ref h0_counters, .ref h0_officerPin, .ref h0_userPin, .ref h0_words, .ref h0_sha, .ref h0_stream, .ref h0_aes, .ref h0_modes, .ref h0_gcm, .ref h0_generator, .ref h0_tests, .ref h0_message, .ref h0_secret, .int c_state, .int c_testsDone, .int c_faults, .int c_streamBegun])), (h0_aes, .inr (2, [.ref h0_aes_keys, .int c_aes_rounds_9])), (h0_aes_keys, .inl (cy 1, 60, .inl c_aes_keys_10)), (h0_buffer, .inl (cy 0, 512, .inl c_buffer_13)), (h0_modes, .inr (6, [.ref h0_aes, .ref h0_modes_block, .ref h0_modes_pad])), (h0_modes_block, .inl (cy 0, 16, .inl c_modes_block_11)), (h0_secret, .inl (cy 0, 80, .inl c_secret_14))] ++ zpl (cy 0) hP_o hP_k cP_kind cP_length cP_usage cP_role cP_uses_2 cPK) := hD
  refine W.eq (g2 := F0 m 127 ls []) rfl ?_
  refine lv_iload_n (pc := 127) hx hb (zdt_at zt_X9_wrapBytes_1 4 rfl) rfl (lv_at hl 0 rfl) ?_
  cases hf
  exact W.iret (pc := 128) hx hb hr (fun t ht hW => ⟨rfl, ⟨by rw [ht]; exact hP, hD⟩, hS.F ht⟩) hS.2.2 (zdt_at zt_X9_wrapBytes_1 5 rfl)
set_option maxHeartbeats 4000000 in
set_option maxRecDepth 100000 in
theorem c_X9_wrapAnswer (l : Launch) (D : va_G) (cy : Nat → ClassId) (tt : Nat → Nat) (sz : Nat) (h0 : Nat) (h0_buffer : Nat) (h0_slots : Nat) (h0_counters : Nat) (h0_officerPin : Nat) (h0_userPin : Nat) (h0_words : Nat) (h0_sha : Nat) (h0_stream : Nat) (h0_aes : Nat) (h0_modes : Nat) (h0_gcm : Nat) (h0_generator : Nat) (h0_tests : Nat) (h0_message : Nat) (h0_secret : Nat) (h0_aes_keys : Nat) (h0_modes_block : Nat) (h0_modes_pad : Nat) (hP_o : Nat → Nat) (hP_k : Nat → Nat) (p1 : Int32) (p2 : Int32) (c_state : Int32) (c_aes_rounds : Int32) (c_aes_keys : Nat → Int32) (c_buffer : Nat → Int32) (c_modes_block : Nat → Int32) (c_secret : Nat → Int32) (cP_kind : Nat → Int32) (cP_length : Nat → Int32) (cP_role : Nat → Int32) (cP_usage : Nat → Int32) (cP_uses : Nat → Int32) (cPK : Nat → Nat → Int32) (c_testsDone : Int32) (c_faults : Int32) (c_streamBegun : Int32) (r_ : Int32) (c_aes_rounds' : Int32) (c_aes_keys' : Nat → Int32) (c_buffer' : Nat → Int32) (c_modes_block' : Nat → Int32) (c_secret' : Nat → Int32) (cP_uses' : Nat → Int32) (hf : f_X9_wrapAnswer p1 p2 c_state c_aes_rounds c_aes_keys c_buffer c_modes_block c_secret cP_kind cP_length cP_role cP_usage cP_uses cPK = some (r_, c_aes_rounds', c_aes_keys', c_buffer', c_modes_block', c_secret', cP_uses')) : Met l yX9_wrapAnswer wsX9_wrapAnswer ({ frames := 4, cells := 0, slots := 0, locals := 112 }) (zPc D cy tt sz [.ref h0, .int p1, .int p2] ([(h0, .inr (11, [.ref h0_buffer, .ref h0_slots, .ref h0_counters, .ref h0_officerPin, .ref h0_userPin, .ref h0_words, .ref h0_sha, .ref h0_stream, .ref h0_aes, .ref h0_modes, .ref h0_gcm, .ref h0_generator, .ref h0_tests, .ref h0_message, .ref h0_secret, .int c_state, .int c_testsDone, .int c_faults, .int c_streamBegun])), (h0_aes, .inr (2, [.ref h0_aes_keys, .int c_aes_rounds])), (h0_aes_keys, .inl (cy 1, 60, .inl c_aes_keys)), (h0_buffer, .inl (cy 0, 512, .inl c_buffer)), (h0_modes, .inr (6, [.ref h0_aes, .ref h0_modes_block, .ref h0_modes_pad])), (h0_modes_block, .inl (cy 0, 16, .inl c_modes_block)), (h0_secret, .inl (cy 0, 80, .inl c_secret)), (h0_slots, .inl (cy 4, 16, .inr (.inr (.inr (.inr (fun j => some (hP_o j)))))))] ++ zpl (cy 0) hP_o hP_k cP_kind cP_length cP_usage cP_role cP_uses cPK)) (zQ D (some (.int r_)) ([(h0, .inr (11, [.ref h0_buffer, .ref h0_slots, .ref h0_counters, .ref h0_officerPin, .ref h0_userPin, .ref h0_words, .ref h0_sha, .ref h0_stream, .ref h0_aes, .ref h0_modes, .ref h0_gcm, .ref h0_generator, .ref h0_tests, .ref h0_message, .ref h0_secret, .int c_state, .int c_testsDone, .int c_faults, .int c_streamBegun])), (h0_aes, .inr (2, [.ref h0_aes_keys, .int c_aes_rounds'])), (h0_aes_keys, .inl (cy 1, 60, .inl c_aes_keys')), (h0_buffer, .inl (cy 0, 512, .inl c_buffer')), (h0_modes, .inr (6, [.ref h0_aes, .ref h0_modes_block, .ref h0_modes_pad])), (h0_modes_block, .inl (cy 0, 16, .inl c_modes_block')), (h0_secret, .inl (cy 0, 80, .inl c_secret')), (h0_slots, .inl (cy 4, 16, .inr (.inr (.inr (.inr (fun j => some (hP_o j)))))))] ++ zpl (cy 0) hP_o hP_k cP_kind cP_length cP_usage cP_role cP_uses' cPK) (va_A ([(h0, .inr (11, [.ref h0_buffer, .ref h0_slots, .ref h0_counters, .ref h0_officerPin, .ref h0_userPin, .ref h0_words, .ref h0_sha, .ref h0_stream, .ref h0_aes, .ref h0_modes, .ref h0_gcm, .ref h0_generator, .ref h0_tests, .ref h0_message, .ref h0_secret, .int c_state, .int c_testsDone, .int c_faults, .int c_streamBegun])), (h0_aes, .inr (2, [.ref h0_aes_keys, .int c_aes_rounds])), (h0_aes_keys, .inl (cy 1, 60, .inl c_aes_keys)), (h0_buffer, .inl (cy 0, 512, .inl c_buffer)), (h0_modes, .inr (6, [.ref h0_aes, .ref h0_modes_block, .ref h0_modes_pad])), (h0_modes_block, .inl (cy 0, 16, .inl c_modes_block)), (h0_secret, .inl (cy 0, 80, .inl c_secret)), (h0_slots, .inl (cy 4, 16, .inr (.inr (.inr (.inr (fun j => some (hP_o j)))))))] ++ zpl (cy 0) hP_o hP_k cP_kind cP_length cP_usage cP_role cP_uses cPK) sz)) 0 0 (va_A ([(h0, .inr (11, [.ref h0_buffer, .ref h0_slots, .ref h0_counters, .ref h0_officerPin, .ref h0_userPin, .ref h0_words, .ref h0_sha, .ref h0_stream, .ref h0_aes, .ref h0_modes, .ref h0_gcm, .ref h0_generator, .ref h0_tests, .ref h0_message, .ref h0_secret, .int c_state, .int c_testsDone, .int c_faults, .int c_streamBegun])), (h0_aes, .inr (2, [.ref h0_aes_keys, .int c_aes_rounds])), (h0_aes_keys, .inl (cy 1, 60, .inl c_aes_keys)), (h0_buffer, .inl (cy 0, 512, .inl c_buffer)), (h0_modes, .inr (6, [.ref h0_aes, .ref h0_modes_block, .ref h0_modes_pad])), (h0_modes_block, .inl (cy 0, 16, .inl c_modes_block)), (h0_secret, .inl (cy 0, 80, .inl c_secret)), (h0_slots, .inl (cy 4, 16, .inr (.inr (.inr (.inr (fun j => some (hP_o j)))))))] ++ zpl (cy 0) hP_o hP_k cP_kind cP_length cP_usage cP_role cP_uses cPK) sz) := by
  refine Met.ofW (cc := cX9_wrapAnswer) (maxL := 4) (ret := (some .int)) (by decide) rfl ?_
  intro p e s m args below meth c s₁ B hml hv
  obtain ⟨rfl, rfl, hP, hD0, hE⟩ := hv
  have hx := B.exec
  have hb := B.bytes
  have hr := B.returns
  have hts := atoms_spec (ws := wsX9_wrapAnswer) B.pre
  have hown : s.vm.findClass RX9 = some m.cls := findClass_of_methodNamed B.named
  have hlocks := B.notSynchronized
  clear B
  have hD := hD0.self (sz := s.heap.size)
  generalize hAe : va_A ([(h0, .inr (11, [.ref h0_buffer, .ref h0_slots, .ref h0_counters, .ref h0_officerPin, .ref h0_userPin, .ref h0_words, .ref h0_sha, .ref h0_stream, .ref h0_aes, .ref h0_modes, .ref h0_gcm, .ref h0_generator, .ref h0_tests, .ref h0_message, .ref h0_secret, .int c_state, .int c_testsDone, .int c_faults, .int c_streamBegun])), (h0_aes, .inr (2, [.ref h0_aes_keys, .int c_aes_rounds])), (h0_aes_keys, .inl (cy 1, 60, .inl c_aes_keys)), (h0_buffer, .inl (cy 0, 512, .inl c_buffer)), (h0_modes, .inr (6, [.ref h0_aes, .ref h0_modes_block, .ref h0_modes_pad])), (h0_modes_block, .inl (cy 0, 16, .inl c_modes_block)), (h0_secret, .inl (cy 0, 80, .inl c_secret)), (h0_slots, .inl (cy 4, 16, .inr (.inr (.inr (.inr (fun j => some (hP_o j)))))))] ++ zpl (cy 0) hP_o hP_k cP_kind cP_length cP_usage cP_role cP_uses cPK) s.heap.size = A at hD hE ⊢
  have hA : ∀ q : Nat, s.heap.size ≤ q → A q := fun q h => by rw [← hAe]; exact Or.inr h
  clear hAe hD0
  have hS : va_S A s.heap s.heap [] := va_S.rf
  have hK := hE.1
  have hw0 := hts (.fieldLink RX9 15 "SealedModule" "slots" "[LSealedModule$Slot;") (by decide +kernel)
  have hcX9 : ∀ w ∈ u_ws RX9 TX9 19, w ∈ wsX9_wrapAnswer := (fun _ h => List.mem_cons_of_mem _ (List.mem_append_left _ (List.mem_append_left _ (List.mem_append_left _ (List.mem_append_left _ (List.mem_append_right _ h))))))
  have hl := lv_entry ([.ref h0, .int p1, .int p2]) (n := 4) (Nat.le_of_ble_eq_true rfl)
  rw [lg_entry_eq]
  generalize (lg_sl ([.ref h0, .int p1, .int p2]) ++ List.replicate (4 - (lg_sl ([.ref h0, .int p1, .int p2])).length) Slot.unset).toArray = ls at hl ⊢
  replace hl : lv_has ls 4 [(0, .ref h0), (1, .int p1), (2, .int p2)] := hl
  unfold f_X9_wrapAnswer at hf
  refine zgo (fun GW hTo hFr => ?_)
  refine hFr _ _ _ ?_
  obtain ⟨H, hHe⟩ : ∃ H, H = s.heap := ⟨_, rfl⟩
  obtain ⟨locs, hLe⟩ : ∃ L : List Loc, L = [] := ⟨_, rfl⟩
  rw [← hHe] at hP
  replace hS : va_S A s.heap H locs := by rw [hHe, hLe]; exact hS
  refine zat hHe.symm hLe.symm ?_
  clear hHe hLe
  refine lv_aload_n (pc := 0) hx hb (zdt_at zt_X9_wrapAnswer_0 0 rfl) rfl (lv_at hl 0 rfl) ?_
  replace hf := zb_s hf
  obtain ⟨r_1, hc_, hf⟩ := hf
  refine zcs (pc := 1) (rv := (some (.int r_1))) (va_runV (As := []) (rest := []) ⟨hx, hb, hml, hown, hts⟩ (c_X9_loggedIn l D cy tt H.size h0 h0_buffer h0_slots h0_counters h0_officerPin h0_userPin h0_words h0_sha h0_stream h0_aes h0_modes h0_gcm h0_generator h0_tests h0_message h0_secret c_state c_testsDone c_faults c_streamBegun r_1 hc_) (cwV 0 hts gX9_wrapAnswer_X9_loggedIn rfl rfl rfl (by decide +kernel) ⟨Nat.le_of_ble_eq_true rfl, Nat.le_of_ble_eq_true rfl⟩) ⟨zblind, va_recv hK hP (ci := 11) (q0 := 0) rfl rfl, zpre hE hS (hP.sub [0] rfl) (hD.sub [0] (by decide) rfl) (va_free hD hS hA [0] rfl)⟩ rfl rfl hl.1 rfl (lv_room (Nat.le_of_ble_eq_true rfl)) (zdt_at zt_X9_wrapAnswer_0 1 rfl) ⟨Nat.zero_le _, Nat.zero_le _⟩) ?_
  clear hc_
  refine W.eq (g2 := F0 m 4 ls [.int r_1]) rfl ?_
  refine lv_if_ne (pc := 4) (tgt := 9) hx hb (zdt_at zt_X9_wrapAnswer_0 2 rfl) (by decide) (fun cn_ => ?t_2) (fun cn_ => ?f_3)
  case f_3 =>
    replace hf := zt_s cn_ hf
    clear cn_
    refine lv_iconst (pc := 7) (v := (-1 : Int32)) hx hb (zdt_at zt_X9_wrapAnswer_0 3 rfl) (by decide) ?_
    cases hf
    exact W.iret (pc := 8) hx hb hr (fun t ht hW => ⟨rfl, ⟨by rw [ht]; exact hP, hD⟩, hS.F ht⟩) hS.2.2 (zdt_at zt_X9_wrapAnswer_0 4 rfl)
  replace hf := ze_s cn_ hf
  clear cn_
  refine lv_iload_n (pc := 9) hx hb (zdt_at zt_X9_wrapAnswer_0 5 rfl) rfl (lv_at hl 1 rfl) ?_
  replace hf := zb_s hf
  obtain ⟨r_4, hc_, hf⟩ := hf
  refine zcs (pc := 10) (rv := (some (.int r_4))) (va_runS (As := [.int p1]) (rest := []) ⟨hx, hb, hml, hown, hts⟩ (c_X9_isSlot l D cy tt H.size p1 r_4 hc_) (va_cwS 1 hts gX9_wrapAnswer_X9_isSlot rfl rfl rfl (by decide +kernel) ⟨Nat.le_of_ble_eq_true rfl, Nat.le_of_ble_eq_true rfl⟩) ⟨zblind, zpre hE hS (hP.sub [] rfl) (hD.sub [] (by decide) rfl) (va_free hD hS hA [] rfl)⟩ rfl rfl hl.1 rfl (lv_room (Nat.le_of_ble_eq_true rfl)) (zdt_at zt_X9_wrapAnswer_0 6 rfl) ⟨Nat.zero_le _, Nat.zero_le _⟩) ?_
  clear hc_
  refine W.eq (g2 := F0 m 13 ls [.int r_4]) rfl ?_
  refine lv_if_eq (pc := 13) (tgt := 28) hx hb (zdt_at zt_X9_wrapAnswer_0 7 rfl) (by decide) (fun cn_ => ?t_5) (fun cn_ => ?f_6)
  case t_5 =>
    replace hf := zt_s cn_ hf
    clear cn_
    refine lv_bipush (pc := 28) (v := (-2 : Int32)) hx hb (zdt_at zt_X9_wrapAnswer_0 14 rfl) (by decide) ?_
    cases hf
    exact W.iret (pc := 30) hx hb hr (fun t ht hW => ⟨rfl, ⟨by rw [ht]; exact hP, hD⟩, hS.F ht⟩) hS.2.2 (zdt_at zt_X9_wrapAnswer_0 15 rfl)
  replace hf := ze_s cn_ hf
  clear cn_
  refine lv_iload_n (pc := 16) hx hb (zdt_at zt_X9_wrapAnswer_0 8 rfl) rfl (lv_at hl 2 rfl) ?_
  replace hf := zb_s hf
  obtain ⟨r_7, hc_, hf⟩ := hf
  refine zcs (pc := 17) (rv := (some (.int r_7))) (va_runS (As := [.int p2]) (rest := []) ⟨hx, hb, hml, hown, hts⟩ (c_X9_isSlot l D cy tt H.size p2 r_7 hc_) (va_cwS 1 hts gX9_wrapAnswer_X9_isSlot rfl rfl rfl (by decide +kernel) ⟨Nat.le_of_ble_eq_true rfl, Nat.le_of_ble_eq_true rfl⟩) ⟨zblind, zpre hE hS (hP.sub [] rfl) (hD.sub [] (by decide) rfl) (va_free hD hS hA [] rfl)⟩ rfl rfl hl.1 rfl (lv_room (Nat.le_of_ble_eq_true rfl)) (zdt_at zt_X9_wrapAnswer_0 9 rfl) ⟨Nat.zero_le _, Nat.zero_le _⟩) ?_
  clear hc_
  refine W.eq (g2 := F0 m 20 ls [.int r_7]) rfl ?_
  refine lv_if_eq (pc := 20) (tgt := 28) hx hb (zdt_at zt_X9_wrapAnswer_0 10 rfl) (by decide) (fun cn_ => ?t_8) (fun cn_ => ?f_9)
  case t_8 =>
    replace hf := zt_s cn_ hf
    clear cn_
    refine lv_bipush (pc := 28) (v := (-2 : Int32)) hx hb (zdt_at zt_X9_wrapAnswer_0 14 rfl) (by decide) ?_
    cases hf
    exact W.iret (pc := 30) hx hb hr (fun t ht hW => ⟨rfl, ⟨by rw [ht]; exact hP, hD⟩, hS.F ht⟩) hS.2.2 (zdt_at zt_X9_wrapAnswer_0 15 rfl)
  replace hf := ze_s cn_ hf
  clear cn_
  refine lv_iload_n (pc := 23) hx hb (zdt_at zt_X9_wrapAnswer_0 11 rfl) rfl (lv_at hl 1 rfl) ?_
  refine lv_iload_n (pc := 24) hx hb (zdt_at zt_X9_wrapAnswer_0 12 rfl) rfl (lv_at hl 2 rfl) ?_
  refine lv_icmp_ne (pc := 25) (tgt := 31) hx hb (zdt_at zt_X9_wrapAnswer_0 13 rfl) (by decide) (fun cn_ => ?t_10) (fun cn_ => ?f_11)
  case f_11 =>
    replace hf := zt_s cn_ hf
    clear cn_
    refine lv_bipush (pc := 28) (v := (-2 : Int32)) hx hb (zdt_at zt_X9_wrapAnswer_0 14 rfl) (by decide) ?_
    cases hf
    exact W.iret (pc := 30) hx hb hr (fun t ht hW => ⟨rfl, ⟨by rw [ht]; exact hP, hD⟩, hS.F ht⟩) hS.2.2 (zdt_at zt_X9_wrapAnswer_0 15 rfl)
  replace hf := ze_s cn_ hf
  clear cn_
  refine lv_aload_n (pc := 31) hx hb (zdt_at zt_X9_wrapAnswer_0 16 rfl) rfl (lv_at hl 0 rfl) ?_
  refine lv_aload_n (pc := 32) hx hb (zdt_at zt_X9_wrapAnswer_0 17 rfl) rfl (lv_at hl 0 rfl) ?_
  refine va_get (pc := 33) (D := D) (ci := 11) (v := .ref h0_slots) (C := RX9) (T := TX9) (N := 19) hx hb hts hcX9 hown hK hP 0 rfl rfl 1 (by decide) hw0 (fun _ h9 => h9) rfl (zdt_at zt_X9_wrapAnswer_0 18 rfl) ?_
  refine lv_iload_n (pc := 36) hx hb (zdt_at zt_X9_wrapAnswer_0 19 rfl) rfl (lv_at hl 1 rfl) ?_
  replace hf := zk_s hf
  have hj_12 : p1.toNatClampNeg < 16 := Nat.not_le.mp fun q => hf.1 (Or.inr q)
  refine va_aldq (pc := 37) (C := RX8) hx hb hK hP 7 4 rfl rfl hf.1 (zdt_at zt_X9_wrapAnswer_0 20 rfl) ?_
  replace hf := hf.2
  refine lv_aload_n (pc := 38) hx hb (zdt_at zt_X9_wrapAnswer_0 21 rfl) rfl (lv_at hl 0 rfl) ?_
  refine va_get (pc := 39) (D := D) (ci := 11) (v := .ref h0_slots) (C := RX9) (T := TX9) (N := 19) hx hb hts hcX9 hown hK hP 0 rfl rfl 1 (by decide) hw0 (fun _ h9 => h9) rfl (zdt_at zt_X9_wrapAnswer_0 22 rfl) ?_
  refine lv_iload_n (pc := 42) hx hb (zdt_at zt_X9_wrapAnswer_0 23 rfl) rfl (lv_at hl 2 rfl) ?_
  replace hf := zk_s hf
  have hj_13 : p2.toNatClampNeg < 16 := Nat.not_le.mp fun q => hf.1 (Or.inr q)
  refine va_aldq (pc := 43) (C := RX8) hx hb hK hP 7 4 rfl rfl hf.1 (zdt_at zt_X9_wrapAnswer_0 24 rfl) ?_
  replace hf := hf.2
  replace hf := zb_s hf
  obtain ⟨r_14, hc_, hf⟩ := hf
  refine zcs (pc := 44) (rv := (some (.int r_14))) (va_runV (As := [.ref (hP_o p1.toNatClampNeg), .ref (hP_o p2.toNatClampNeg)]) (rest := []) ⟨hx, hb, hml, hown, hts⟩ (c_X9_wrapKeysRefusal l D cy tt H.size h0 h0_buffer h0_slots h0_counters h0_officerPin h0_userPin h0_words h0_sha h0_stream h0_aes h0_modes h0_gcm h0_generator h0_tests h0_message h0_secret hP_o hP_k p1.toNatClampNeg p2.toNatClampNeg c_state cP_kind cP_length cP_role cP_usage cP_uses c_testsDone c_faults c_streamBegun cPK r_14 hj_12 hj_13 hc_) (cwV 2 hts gX9_wrapAnswer_X9_wrapKeysRefusal rfl rfl rfl (by decide +kernel) ⟨Nat.le_of_ble_eq_true rfl, Nat.le_of_ble_eq_true rfl⟩) ⟨zblind, va_recv hK hP (ci := 11) (q0 := 0) rfl rfl, zpre hE hS (va_P.part (X := [(h0, .inr (11, [.ref h0_buffer, .ref h0_slots, .ref h0_counters, .ref h0_officerPin, .ref h0_userPin, .ref h0_words, .ref h0_sha, .ref h0_stream, .ref h0_aes, .ref h0_modes, .ref h0_gcm, .ref h0_generator, .ref h0_tests, .ref h0_message, .ref h0_secret, .int c_state, .int c_testsDone, .int c_faults, .int c_streamBegun])), (h0_aes, .inr (2, [.ref h0_aes_keys, .int c_aes_rounds])), (h0_aes_keys, .inl (cy 1, 60, .inl c_aes_keys)), (h0_buffer, .inl (cy 0, 512, .inl c_buffer)), (h0_modes, .inr (6, [.ref h0_aes, .ref h0_modes_block, .ref h0_modes_pad])), (h0_modes_block, .inl (cy 0, 16, .inl c_modes_block)), (h0_secret, .inl (cy 0, 80, .inl c_secret)), (h0_slots, .inl (cy 4, 16, .inr (.inr (.inr (.inr (fun j => some (hP_o j)))))))]) hP [0] rfl) (va_D.part (X := [(h0, .inr (11, [.ref h0_buffer, .ref h0_slots, .ref h0_counters, .ref h0_officerPin, .ref h0_userPin, .ref h0_words, .ref h0_sha, .ref h0_stream, .ref h0_aes, .ref h0_modes, .ref h0_gcm, .ref h0_generator, .ref h0_tests, .ref h0_message, .ref h0_secret, .int c_state, .int c_testsDone, .int c_faults, .int c_streamBegun])), (h0_aes, .inr (2, [.ref h0_aes_keys, .int c_aes_rounds])), (h0_aes_keys, .inl (cy 1, 60, .inl c_aes_keys)), (h0_buffer, .inl (cy 0, 512, .inl c_buffer)), (h0_modes, .inr (6, [.ref h0_aes, .ref h0_modes_block, .ref h0_modes_pad])), (h0_modes_block, .inl (cy 0, 16, .inl c_modes_block)), (h0_secret, .inl (cy 0, 80, .inl c_secret)), (h0_slots, .inl (cy 4, 16, .inr (.inr (.inr (.inr (fun j => some (hP_o j)))))))]) hD [0] (by decide) rfl) (va_freeP (X := [(h0, .inr (11, [.ref h0_buffer, .ref h0_slots, .ref h0_counters, .ref h0_officerPin, .ref h0_userPin, .ref h0_words, .ref h0_sha, .ref h0_stream, .ref h0_aes, .ref h0_modes, .ref h0_gcm, .ref h0_generator, .ref h0_tests, .ref h0_message, .ref h0_secret, .int c_state, .int c_testsDone, .int c_faults, .int c_streamBegun])), (h0_aes, .inr (2, [.ref h0_aes_keys, .int c_aes_rounds])), (h0_aes_keys, .inl (cy 1, 60, .inl c_aes_keys)), (h0_buffer, .inl (cy 0, 512, .inl c_buffer)), (h0_modes, .inr (6, [.ref h0_aes, .ref h0_modes_block, .ref h0_modes_pad])), (h0_modes_block, .inl (cy 0, 16, .inl c_modes_block)), (h0_secret, .inl (cy 0, 80, .inl c_secret)), (h0_slots, .inl (cy 4, 16, .inr (.inr (.inr (.inr (fun j => some (hP_o j)))))))]) hD hS hA [0] rfl)⟩ rfl rfl hl.1 rfl (lv_room (Nat.le_of_ble_eq_true rfl)) (zdt_at zt_X9_wrapAnswer_0 25 rfl) ⟨Nat.zero_le _, Nat.zero_le _⟩) ?_
  clear hc_
  refine W.eq (g2 := F0 m 47 ls [.int r_14]) rfl ?_
  refine lv_istore_n (pc := 47) (lv' := [(3, .int r_14), (0, .ref h0), (1, .int p1), (2, .int p2)]) hx hb (zdt_at zt_X9_wrapAnswer_0 26 rfl) rfl hl (by decide) rfl ?_
  clear hl
  intro ls hl
  refine lv_iload_n (pc := 48) hx hb (zdt_at zt_X9_wrapAnswer_0 27 rfl) rfl (lv_at hl 0 rfl) ?_
  refine lv_if_eq (pc := 49) (tgt := 54) hx hb (zdt_at zt_X9_wrapAnswer_0 28 rfl) (by decide) (fun cn_ => ?t_15) (fun cn_ => ?f_16)
  case f_16 =>
    replace hf := ze_s cn_ hf
    clear cn_
    refine lv_iload_n (pc := 52) hx hb (zdt_at zt_X9_wrapAnswer_0 29 rfl) rfl (lv_at hl 0 rfl) ?_
    cases hf
    exact W.iret (pc := 53) hx hb hr (fun t ht hW => ⟨rfl, ⟨by rw [ht]; exact hP, hD⟩, hS.F ht⟩) hS.2.2 (zdt_at zt_X9_wrapAnswer_0 30 rfl)
  replace hf := zt_s cn_ hf
  clear cn_
  refine lv_aload_n (pc := 54) hx hb (zdt_at zt_X9_wrapAnswer_0 31 rfl) rfl (lv_at hl 1 rfl) ?_
  refine lv_aload_n (pc := 55) hx hb (zdt_at zt_X9_wrapAnswer_0 32 rfl) rfl (lv_at hl 1 rfl) ?_
  refine va_get (pc := 56) (D := D) (ci := 11) (v := .ref h0_slots) (C := RX9) (T := TX9) (N := 19) hx hb hts hcX9 hown hK hP 0 rfl rfl 1 (by decide) hw0 (fun _ h9 => h9) rfl (zdt_at zt_X9_wrapAnswer_0 33 rfl) ?_
  refine lv_iload_n (pc := 59) hx hb (zdt_at zt_X9_wrapAnswer_0 34 rfl) rfl (lv_at hl 2 rfl) ?_
  replace hf := zk_s hf
  have hj_17 : p1.toNatClampNeg < 16 := Nat.not_le.mp fun q => hf.1 (Or.inr q)
  refine va_aldq (pc := 60) (C := RX8) hx hb hK hP 7 4 rfl rfl hf.1 (zdt_at zt_X9_wrapAnswer_0 35 rfl) ?_
  replace hf := hf.2
  refine lv_aload_n (pc := 61) hx hb (zdt_at zt_X9_wrapAnswer_0 36 rfl) rfl (lv_at hl 1 rfl) ?_
  refine va_get (pc := 62) (D := D) (ci := 11) (v := .ref h0_slots) (C := RX9) (T := TX9) (N := 19) hx hb hts hcX9 hown hK hP 0 rfl rfl 1 (by decide) hw0 (fun _ h9 => h9) rfl (zdt_at zt_X9_wrapAnswer_0 37 rfl) ?_
  refine lv_iload_n (pc := 65) hx hb (zdt_at zt_X9_wrapAnswer_0 38 rfl) rfl (lv_at hl 3 rfl) ?_
  replace hf := zk_s hf
  have hj_18 : p2.toNatClampNeg < 16 := Nat.not_le.mp fun q => hf.1 (Or.inr q)
  refine va_aldq (pc := 66) (C := RX8) hx hb hK hP 7 4 rfl rfl hf.1 (zdt_at zt_X9_wrapAnswer_0 39 rfl) ?_
  replace hf := hf.2
  replace hf := zb_s hf
  obtain ⟨⟨r_19, c_aes_rounds_20, c_aes_keys_21, c_buffer_22, c_modes_block_23, c_secret_24, cP_uses_25⟩, hc_, hf⟩ := hf
  refine zcnP (pc := 67) (X := [(h0, .inr (11, [.ref h0_buffer, .ref h0_slots, .ref h0_counters, .ref h0_officerPin, .ref h0_userPin, .ref h0_words, .ref h0_sha, .ref h0_stream, .ref h0_aes, .ref h0_modes, .ref h0_gcm, .ref h0_generator, .ref h0_tests, .ref h0_message, .ref h0_secret, .int c_state, .int c_testsDone, .int c_faults, .int c_streamBegun])), (h0_aes, .inr (2, [.ref h0_aes_keys, .int c_aes_rounds])), (h0_aes_keys, .inl (cy 1, 60, .inl c_aes_keys)), (h0_buffer, .inl (cy 0, 512, .inl c_buffer)), (h0_modes, .inr (6, [.ref h0_aes, .ref h0_modes_block, .ref h0_modes_pad])), (h0_modes_block, .inl (cy 0, 16, .inl c_modes_block)), (h0_secret, .inl (cy 0, 80, .inl c_secret)), (h0_slots, .inl (cy 4, 16, .inr (.inr (.inr (.inr (fun j => some (hP_o j)))))))]) (rv := (some (.int r_19))) (va_runV (As := [.ref (hP_o p1.toNatClampNeg), .ref (hP_o p2.toNatClampNeg)]) (rest := []) ⟨hx, hb, hml, hown, hts⟩ (c_X9_wrapBytes l D cy tt H.size h0 h0_buffer h0_slots h0_counters h0_officerPin h0_userPin h0_words h0_sha h0_stream h0_aes h0_modes h0_gcm h0_generator h0_tests h0_message h0_secret h0_aes_keys h0_modes_block h0_modes_pad hP_o hP_k p1.toNatClampNeg p2.toNatClampNeg c_aes_rounds c_aes_keys c_buffer c_modes_block c_secret cP_kind cP_length cP_role cP_usage cP_uses cPK c_state c_testsDone c_faults c_streamBegun r_19 c_aes_rounds_20 c_aes_keys_21 c_buffer_22 c_modes_block_23 c_secret_24 cP_uses_25 hj_17 hj_18 hc_) (cwV 2 hts gX9_wrapAnswer_X9_wrapBytes rfl rfl rfl (by decide +kernel) ⟨Nat.le_of_ble_eq_true rfl, Nat.le_of_ble_eq_true rfl⟩) ⟨zblind, va_recv hK hP (ci := 11) (q0 := 0) rfl rfl, zpre hE hS (va_P.part (X := [(h0, .inr (11, [.ref h0_buffer, .ref h0_slots, .ref h0_counters, .ref h0_officerPin, .ref h0_userPin, .ref h0_words, .ref h0_sha, .ref h0_stream, .ref h0_aes, .ref h0_modes, .ref h0_gcm, .ref h0_generator, .ref h0_tests, .ref h0_message, .ref h0_secret, .int c_state, .int c_testsDone, .int c_faults, .int c_streamBegun])), (h0_aes, .inr (2, [.ref h0_aes_keys, .int c_aes_rounds])), (h0_aes_keys, .inl (cy 1, 60, .inl c_aes_keys)), (h0_buffer, .inl (cy 0, 512, .inl c_buffer)), (h0_modes, .inr (6, [.ref h0_aes, .ref h0_modes_block, .ref h0_modes_pad])), (h0_modes_block, .inl (cy 0, 16, .inl c_modes_block)), (h0_secret, .inl (cy 0, 80, .inl c_secret)), (h0_slots, .inl (cy 4, 16, .inr (.inr (.inr (.inr (fun j => some (hP_o j)))))))]) hP [0, 1, 2, 3, 4, 5, 6] rfl) (va_D.part (X := [(h0, .inr (11, [.ref h0_buffer, .ref h0_slots, .ref h0_counters, .ref h0_officerPin, .ref h0_userPin, .ref h0_words, .ref h0_sha, .ref h0_stream, .ref h0_aes, .ref h0_modes, .ref h0_gcm, .ref h0_generator, .ref h0_tests, .ref h0_message, .ref h0_secret, .int c_state, .int c_testsDone, .int c_faults, .int c_streamBegun])), (h0_aes, .inr (2, [.ref h0_aes_keys, .int c_aes_rounds])), (h0_aes_keys, .inl (cy 1, 60, .inl c_aes_keys)), (h0_buffer, .inl (cy 0, 512, .inl c_buffer)), (h0_modes, .inr (6, [.ref h0_aes, .ref h0_modes_block, .ref h0_modes_pad])), (h0_modes_block, .inl (cy 0, 16, .inl c_modes_block)), (h0_secret, .inl (cy 0, 80, .inl c_secret)), (h0_slots, .inl (cy 4, 16, .inr (.inr (.inr (.inr (fun j => some (hP_o j)))))))]) hD [0, 1, 2, 3, 4, 5, 6] (by decide) rfl) (va_freeP (X := [(h0, .inr (11, [.ref h0_buffer, .ref h0_slots, .ref h0_counters, .ref h0_officerPin, .ref h0_userPin, .ref h0_words, .ref h0_sha, .ref h0_stream, .ref h0_aes, .ref h0_modes, .ref h0_gcm, .ref h0_generator, .ref h0_tests, .ref h0_message, .ref h0_secret, .int c_state, .int c_testsDone, .int c_faults, .int c_streamBegun])), (h0_aes, .inr (2, [.ref h0_aes_keys, .int c_aes_rounds])), (h0_aes_keys, .inl (cy 1, 60, .inl c_aes_keys)), (h0_buffer, .inl (cy 0, 512, .inl c_buffer)), (h0_modes, .inr (6, [.ref h0_aes, .ref h0_modes_block, .ref h0_modes_pad])), (h0_modes_block, .inl (cy 0, 16, .inl c_modes_block)), (h0_secret, .inl (cy 0, 80, .inl c_secret)), (h0_slots, .inl (cy 4, 16, .inr (.inr (.inr (.inr (fun j => some (hP_o j)))))))]) hD hS hA [0, 1, 2, 3, 4, 5, 6] rfl)⟩ rfl rfl hl.1 rfl (lv_room (Nat.le_of_ble_eq_true rfl)) (zdt_at zt_X9_wrapAnswer_0 40 rfl) ⟨Nat.zero_le _, Nat.zero_le _⟩) hS hP hD (va_freeP (X := [(h0, .inr (11, [.ref h0_buffer, .ref h0_slots, .ref h0_counters, .ref h0_officerPin, .ref h0_userPin, .ref h0_words, .ref h0_sha, .ref h0_stream, .ref h0_aes, .ref h0_modes, .ref h0_gcm, .ref h0_generator, .ref h0_tests, .ref h0_message, .ref h0_secret, .int c_state, .int c_testsDone, .int c_faults, .int c_streamBegun])), (h0_aes, .inr (2, [.ref h0_aes_keys, .int c_aes_rounds])), (h0_aes_keys, .inl (cy 1, 60, .inl c_aes_keys)), (h0_buffer, .inl (cy 0, 512, .inl c_buffer)), (h0_modes, .inr (6, [.ref h0_aes, .ref h0_modes_block, .ref h0_modes_pad])), (h0_modes_block, .inl (cy 0, 16, .inl c_modes_block)), (h0_secret, .inl (cy 0, 80, .inl c_secret)), (h0_slots, .inl (cy 4, 16, .inr (.inr (.inr (.inr (fun j => some (hP_o j)))))))]) hD hS hA [0, 1, 2, 3, 4, 5, 6] rfl) [0, 1, 2, 3, 4, 5, 6] rfl (by decide) rfl rfl zpl_adr ?_
  clear hP hD hS hc_
  intro H locs hP hD hS
  replace hP : va_P D vwCl ([(h0, .inr (11, [.ref h0_buffer, .ref h0_slots, .ref h0_counters, .ref h0_officerPin, .ref h0_userPin, .ref h0_words, .ref h0_sha, .ref h0_stream, .ref h0_aes, .ref h0_modes, .ref h0_gcm, .ref h0_generator, .ref h0_tests, .ref h0_message, .ref h0_secret, .int c_state, .int c_testsDone, .int c_faults, .int c_streamBegun])), (h0_aes, .inr (2, [.ref h0_aes_keys, .int c_aes_rounds_20])), (h0_aes_keys, .inl (cy 1, 60, .inl c_aes_keys_21)), (h0_buffer, .inl (cy 0, 512, .inl c_buffer_22)), (h0_modes, .inr (6, [.ref h0_aes, .ref h0_modes_block, .ref h0_modes_pad])), (h0_modes_block, .inl (cy 0, 16, .inl c_modes_block_23)), (h0_secret, .inl (cy 0, 80, .inl c_secret_24)), (h0_slots, .inl (cy 4, 16, .inr (.inr (.inr (.inr (fun j => some (hP_o j)))))))] ++ zpl (cy 0) hP_o hP_k cP_kind cP_length cP_usage cP_role cP_uses_25 cPK) H := hP
  replace hD : va_D A ([(h0, .inr (11, [.ref h0_buffer, .ref h0_slots, .ref h0_counters, .ref h0_officerPin, .ref h0_userPin, .ref h0_words, .ref h0_sha, .ref h0_stream, .ref h0_aes, .ref h0_modes, .ref h0_gcm, .ref h0_generator, .ref h0_tests, .ref h0_message, .ref h0_secret, .int c_state, .int c_testsDone, .int c_faults, .int c_streamBegun])), (h0_aes, .inr (2, [.ref h0_aes_keys, .int c_aes_rounds_20])), (h0_aes_keys, .inl (cy 1, 60, .inl c_aes_keys_21)), (h0_buffer, .inl (cy 0, 512, .inl c_buffer_22)), (h0_modes, .inr (6, [.ref h0_aes, .ref h0_modes_block, .ref h0_modes_pad])), (h0_modes_block, .inl (cy 0, 16, .inl c_modes_block_23)), (h0_secret, .inl (cy 0, 80, .inl c_secret_24)), (h0_slots, .inl (cy 4, 16, .inr (.inr (.inr (.inr (fun j => some (hP_o j)))))))] ++ zpl (cy 0) hP_o hP_k cP_kind cP_length cP_usage cP_role cP_uses_25 cPK) := hD
  refine W.eq (g2 := F0 m 70 ls [.int r_19]) rfl ?_
  cases hf
  exact W.iret (pc := 70) hx hb hr (fun t ht hW => ⟨rfl, ⟨by rw [ht]; exact hP, hD⟩, hS.F ht⟩) hS.2.2 (zdt_at zt_X9_wrapAnswer_0 41 rfl)
set_option maxHeartbeats 4000000 in
set_option maxRecDepth 100000 in
theorem c_X9_wrap (l : Launch) (D : va_G) (cy : Nat → ClassId) (tt : Nat → Nat) (sz : Nat) (h0 : Nat) (h0_buffer : Nat) (h0_slots : Nat) (h0_counters : Nat) (h0_officerPin : Nat) (h0_userPin : Nat) (h0_words : Nat) (h0_sha : Nat) (h0_stream : Nat) (h0_aes : Nat) (h0_modes : Nat) (h0_gcm : Nat) (h0_generator : Nat) (h0_tests : Nat) (h0_message : Nat) (h0_secret : Nat) (h0_aes_keys : Nat) (h0_modes_block : Nat) (h0_modes_pad : Nat) (hP_o : Nat → Nat) (hP_k : Nat → Nat) (p1 : Int32) (p2 : Int32) (c_state : Int32) (c_aes_rounds : Int32) (c_aes_keys : Nat → Int32) (c_buffer : Nat → Int32) (c_counters : Nat → Int32) (c_modes_block : Nat → Int32) (c_secret : Nat → Int32) (cP_kind : Nat → Int32) (cP_length : Nat → Int32) (cP_role : Nat → Int32) (cP_usage : Nat → Int32) (cP_uses : Nat → Int32) (cPK : Nat → Nat → Int32) (c_testsDone : Int32) (c_faults : Int32) (c_streamBegun : Int32) (r_ : Int32) (c_aes_rounds' : Int32) (c_aes_keys' : Nat → Int32) (c_buffer' : Nat → Int32) (c_counters' : Nat → Int32) (c_modes_block' : Nat → Int32) (c_secret' : Nat → Int32) (cP_uses' : Nat → Int32) (hf : f_X9_wrap p1 p2 c_state c_aes_rounds c_aes_keys c_buffer c_counters c_modes_block c_secret cP_kind cP_length cP_role cP_usage cP_uses cPK = some (r_, c_aes_rounds', c_aes_keys', c_buffer', c_counters', c_modes_block', c_secret', cP_uses')) : Met l yX9_wrap wsX9_wrap ({ frames := 5, cells := 0, slots := 0, locals := 135 }) (zPc D cy tt sz [.ref h0, .int p1, .int p2] ([(h0, .inr (11, [.ref h0_buffer, .ref h0_slots, .ref h0_counters, .ref h0_officerPin, .ref h0_userPin, .ref h0_words, .ref h0_sha, .ref h0_stream, .ref h0_aes, .ref h0_modes, .ref h0_gcm, .ref h0_generator, .ref h0_tests, .ref h0_message, .ref h0_secret, .int c_state, .int c_testsDone, .int c_faults, .int c_streamBegun])), (h0_aes, .inr (2, [.ref h0_aes_keys, .int c_aes_rounds])), (h0_aes_keys, .inl (cy 1, 60, .inl c_aes_keys)), (h0_buffer, .inl (cy 0, 512, .inl c_buffer)), (h0_counters, .inl (cy 1, 3, .inl c_counters)), (h0_modes, .inr (6, [.ref h0_aes, .ref h0_modes_block, .ref h0_modes_pad])), (h0_modes_block, .inl (cy 0, 16, .inl c_modes_block)), (h0_secret, .inl (cy 0, 80, .inl c_secret)), (h0_slots, .inl (cy 4, 16, .inr (.inr (.inr (.inr (fun j => some (hP_o j)))))))] ++ zpl (cy 0) hP_o hP_k cP_kind cP_length cP_usage cP_role cP_uses cPK)) (zQ D (some (.int r_)) ([(h0, .inr (11, [.ref h0_buffer, .ref h0_slots, .ref h0_counters, .ref h0_officerPin, .ref h0_userPin, .ref h0_words, .ref h0_sha, .ref h0_stream, .ref h0_aes, .ref h0_modes, .ref h0_gcm, .ref h0_generator, .ref h0_tests, .ref h0_message, .ref h0_secret, .int c_state, .int c_testsDone, .int c_faults, .int c_streamBegun])), (h0_aes, .inr (2, [.ref h0_aes_keys, .int c_aes_rounds'])), (h0_aes_keys, .inl (cy 1, 60, .inl c_aes_keys')), (h0_buffer, .inl (cy 0, 512, .inl c_buffer')), (h0_counters, .inl (cy 1, 3, .inl c_counters')), (h0_modes, .inr (6, [.ref h0_aes, .ref h0_modes_block, .ref h0_modes_pad])), (h0_modes_block, .inl (cy 0, 16, .inl c_modes_block')), (h0_secret, .inl (cy 0, 80, .inl c_secret')), (h0_slots, .inl (cy 4, 16, .inr (.inr (.inr (.inr (fun j => some (hP_o j)))))))] ++ zpl (cy 0) hP_o hP_k cP_kind cP_length cP_usage cP_role cP_uses' cPK) (va_A ([(h0, .inr (11, [.ref h0_buffer, .ref h0_slots, .ref h0_counters, .ref h0_officerPin, .ref h0_userPin, .ref h0_words, .ref h0_sha, .ref h0_stream, .ref h0_aes, .ref h0_modes, .ref h0_gcm, .ref h0_generator, .ref h0_tests, .ref h0_message, .ref h0_secret, .int c_state, .int c_testsDone, .int c_faults, .int c_streamBegun])), (h0_aes, .inr (2, [.ref h0_aes_keys, .int c_aes_rounds])), (h0_aes_keys, .inl (cy 1, 60, .inl c_aes_keys)), (h0_buffer, .inl (cy 0, 512, .inl c_buffer)), (h0_counters, .inl (cy 1, 3, .inl c_counters)), (h0_modes, .inr (6, [.ref h0_aes, .ref h0_modes_block, .ref h0_modes_pad])), (h0_modes_block, .inl (cy 0, 16, .inl c_modes_block)), (h0_secret, .inl (cy 0, 80, .inl c_secret)), (h0_slots, .inl (cy 4, 16, .inr (.inr (.inr (.inr (fun j => some (hP_o j)))))))] ++ zpl (cy 0) hP_o hP_k cP_kind cP_length cP_usage cP_role cP_uses cPK) sz)) 0 0 (va_A ([(h0, .inr (11, [.ref h0_buffer, .ref h0_slots, .ref h0_counters, .ref h0_officerPin, .ref h0_userPin, .ref h0_words, .ref h0_sha, .ref h0_stream, .ref h0_aes, .ref h0_modes, .ref h0_gcm, .ref h0_generator, .ref h0_tests, .ref h0_message, .ref h0_secret, .int c_state, .int c_testsDone, .int c_faults, .int c_streamBegun])), (h0_aes, .inr (2, [.ref h0_aes_keys, .int c_aes_rounds])), (h0_aes_keys, .inl (cy 1, 60, .inl c_aes_keys)), (h0_buffer, .inl (cy 0, 512, .inl c_buffer)), (h0_counters, .inl (cy 1, 3, .inl c_counters)), (h0_modes, .inr (6, [.ref h0_aes, .ref h0_modes_block, .ref h0_modes_pad])), (h0_modes_block, .inl (cy 0, 16, .inl c_modes_block)), (h0_secret, .inl (cy 0, 80, .inl c_secret)), (h0_slots, .inl (cy 4, 16, .inr (.inr (.inr (.inr (fun j => some (hP_o j)))))))] ++ zpl (cy 0) hP_o hP_k cP_kind cP_length cP_usage cP_role cP_uses cPK) sz) := by
  refine Met.ofW (cc := cX9_wrap) (maxL := 3) (ret := (some .int)) (by decide) rfl ?_
  intro p e s m args below meth c s₁ B hml hv
  obtain ⟨rfl, rfl, hP, hD0, hE⟩ := hv
  have hx := B.exec
  have hb := B.bytes
  have hr := B.returns
  have hts := atoms_spec (ws := wsX9_wrap) B.pre
  have hown : s.vm.findClass RX9 = some m.cls := findClass_of_methodNamed B.named
  have hlocks := B.notSynchronized
  clear B
  have hD := hD0.self (sz := s.heap.size)
  generalize hAe : va_A ([(h0, .inr (11, [.ref h0_buffer, .ref h0_slots, .ref h0_counters, .ref h0_officerPin, .ref h0_userPin, .ref h0_words, .ref h0_sha, .ref h0_stream, .ref h0_aes, .ref h0_modes, .ref h0_gcm, .ref h0_generator, .ref h0_tests, .ref h0_message, .ref h0_secret, .int c_state, .int c_testsDone, .int c_faults, .int c_streamBegun])), (h0_aes, .inr (2, [.ref h0_aes_keys, .int c_aes_rounds])), (h0_aes_keys, .inl (cy 1, 60, .inl c_aes_keys)), (h0_buffer, .inl (cy 0, 512, .inl c_buffer)), (h0_counters, .inl (cy 1, 3, .inl c_counters)), (h0_modes, .inr (6, [.ref h0_aes, .ref h0_modes_block, .ref h0_modes_pad])), (h0_modes_block, .inl (cy 0, 16, .inl c_modes_block)), (h0_secret, .inl (cy 0, 80, .inl c_secret)), (h0_slots, .inl (cy 4, 16, .inr (.inr (.inr (.inr (fun j => some (hP_o j)))))))] ++ zpl (cy 0) hP_o hP_k cP_kind cP_length cP_usage cP_role cP_uses cPK) s.heap.size = A at hD hE ⊢
  have hA : ∀ q : Nat, s.heap.size ≤ q → A q := fun q h => by rw [← hAe]; exact Or.inr h
  clear hAe hD0
  have hS : va_S A s.heap s.heap [] := va_S.rf
  have hK := hE.1
  have hl := lv_entry ([.ref h0, .int p1, .int p2]) (n := 3) (Nat.le_of_ble_eq_true rfl)
  rw [lg_entry_eq]
  generalize (lg_sl ([.ref h0, .int p1, .int p2]) ++ List.replicate (3 - (lg_sl ([.ref h0, .int p1, .int p2])).length) Slot.unset).toArray = ls at hl ⊢
  replace hl : lv_has ls 3 [(0, .ref h0), (1, .int p1), (2, .int p2)] := hl
  unfold f_X9_wrap at hf
  refine zgo (fun GW hTo hFr => ?_)
  refine hFr _ _ _ ?_
  obtain ⟨H, hHe⟩ : ∃ H, H = s.heap := ⟨_, rfl⟩
  obtain ⟨locs, hLe⟩ : ∃ L : List Loc, L = [] := ⟨_, rfl⟩
  rw [← hHe] at hP
  replace hS : va_S A s.heap H locs := by rw [hHe, hLe]; exact hS
  refine zat hHe.symm hLe.symm ?_
  clear hHe hLe
  refine lv_aload_n (pc := 0) hx hb (zdt_at zt_X9_wrap_0 0 rfl) rfl (lv_at hl 0 rfl) ?_
  refine lv_aload_n (pc := 1) hx hb (zdt_at zt_X9_wrap_0 1 rfl) rfl (lv_at hl 0 rfl) ?_
  refine lv_iload_n (pc := 2) hx hb (zdt_at zt_X9_wrap_0 2 rfl) rfl (lv_at hl 1 rfl) ?_
  refine lv_iload_n (pc := 3) hx hb (zdt_at zt_X9_wrap_0 3 rfl) rfl (lv_at hl 2 rfl) ?_
  replace hf := zb_s hf
  obtain ⟨⟨r_1, c_aes_rounds_2, c_aes_keys_3, c_buffer_4, c_modes_block_5, c_secret_6, cP_uses_7⟩, hc_, hf⟩ := hf
  refine zcnP (pc := 4) (X := [(h0, .inr (11, [.ref h0_buffer, .ref h0_slots, .ref h0_counters, .ref h0_officerPin, .ref h0_userPin, .ref h0_words, .ref h0_sha, .ref h0_stream, .ref h0_aes, .ref h0_modes, .ref h0_gcm, .ref h0_generator, .ref h0_tests, .ref h0_message, .ref h0_secret, .int c_state, .int c_testsDone, .int c_faults, .int c_streamBegun])), (h0_aes, .inr (2, [.ref h0_aes_keys, .int c_aes_rounds])), (h0_aes_keys, .inl (cy 1, 60, .inl c_aes_keys)), (h0_buffer, .inl (cy 0, 512, .inl c_buffer)), (h0_counters, .inl (cy 1, 3, .inl c_counters)), (h0_modes, .inr (6, [.ref h0_aes, .ref h0_modes_block, .ref h0_modes_pad])), (h0_modes_block, .inl (cy 0, 16, .inl c_modes_block)), (h0_secret, .inl (cy 0, 80, .inl c_secret)), (h0_slots, .inl (cy 4, 16, .inr (.inr (.inr (.inr (fun j => some (hP_o j)))))))]) (rv := (some (.int r_1))) (va_runV (As := [.int p1, .int p2]) (rest := [.ref h0]) ⟨hx, hb, hml, hown, hts⟩ (c_X9_wrapAnswer l D cy tt H.size h0 h0_buffer h0_slots h0_counters h0_officerPin h0_userPin h0_words h0_sha h0_stream h0_aes h0_modes h0_gcm h0_generator h0_tests h0_message h0_secret h0_aes_keys h0_modes_block h0_modes_pad hP_o hP_k p1 p2 c_state c_aes_rounds c_aes_keys c_buffer c_modes_block c_secret cP_kind cP_length cP_role cP_usage cP_uses cPK c_testsDone c_faults c_streamBegun r_1 c_aes_rounds_2 c_aes_keys_3 c_buffer_4 c_modes_block_5 c_secret_6 cP_uses_7 hc_) (cwV 2 hts gX9_wrap_X9_wrapAnswer rfl rfl rfl (by decide +kernel) ⟨Nat.le_of_ble_eq_true rfl, Nat.le_of_ble_eq_true rfl⟩) ⟨zblind, va_recv hK hP (ci := 11) (q0 := 0) rfl rfl, zpre hE hS (va_P.part (X := [(h0, .inr (11, [.ref h0_buffer, .ref h0_slots, .ref h0_counters, .ref h0_officerPin, .ref h0_userPin, .ref h0_words, .ref h0_sha, .ref h0_stream, .ref h0_aes, .ref h0_modes, .ref h0_gcm, .ref h0_generator, .ref h0_tests, .ref h0_message, .ref h0_secret, .int c_state, .int c_testsDone, .int c_faults, .int c_streamBegun])), (h0_aes, .inr (2, [.ref h0_aes_keys, .int c_aes_rounds])), (h0_aes_keys, .inl (cy 1, 60, .inl c_aes_keys)), (h0_buffer, .inl (cy 0, 512, .inl c_buffer)), (h0_counters, .inl (cy 1, 3, .inl c_counters)), (h0_modes, .inr (6, [.ref h0_aes, .ref h0_modes_block, .ref h0_modes_pad])), (h0_modes_block, .inl (cy 0, 16, .inl c_modes_block)), (h0_secret, .inl (cy 0, 80, .inl c_secret)), (h0_slots, .inl (cy 4, 16, .inr (.inr (.inr (.inr (fun j => some (hP_o j)))))))]) hP [0, 1, 2, 3, 5, 6, 7, 8] rfl) (va_D.part (X := [(h0, .inr (11, [.ref h0_buffer, .ref h0_slots, .ref h0_counters, .ref h0_officerPin, .ref h0_userPin, .ref h0_words, .ref h0_sha, .ref h0_stream, .ref h0_aes, .ref h0_modes, .ref h0_gcm, .ref h0_generator, .ref h0_tests, .ref h0_message, .ref h0_secret, .int c_state, .int c_testsDone, .int c_faults, .int c_streamBegun])), (h0_aes, .inr (2, [.ref h0_aes_keys, .int c_aes_rounds])), (h0_aes_keys, .inl (cy 1, 60, .inl c_aes_keys)), (h0_buffer, .inl (cy 0, 512, .inl c_buffer)), (h0_counters, .inl (cy 1, 3, .inl c_counters)), (h0_modes, .inr (6, [.ref h0_aes, .ref h0_modes_block, .ref h0_modes_pad])), (h0_modes_block, .inl (cy 0, 16, .inl c_modes_block)), (h0_secret, .inl (cy 0, 80, .inl c_secret)), (h0_slots, .inl (cy 4, 16, .inr (.inr (.inr (.inr (fun j => some (hP_o j)))))))]) hD [0, 1, 2, 3, 5, 6, 7, 8] (by decide) rfl) (va_freeP (X := [(h0, .inr (11, [.ref h0_buffer, .ref h0_slots, .ref h0_counters, .ref h0_officerPin, .ref h0_userPin, .ref h0_words, .ref h0_sha, .ref h0_stream, .ref h0_aes, .ref h0_modes, .ref h0_gcm, .ref h0_generator, .ref h0_tests, .ref h0_message, .ref h0_secret, .int c_state, .int c_testsDone, .int c_faults, .int c_streamBegun])), (h0_aes, .inr (2, [.ref h0_aes_keys, .int c_aes_rounds])), (h0_aes_keys, .inl (cy 1, 60, .inl c_aes_keys)), (h0_buffer, .inl (cy 0, 512, .inl c_buffer)), (h0_counters, .inl (cy 1, 3, .inl c_counters)), (h0_modes, .inr (6, [.ref h0_aes, .ref h0_modes_block, .ref h0_modes_pad])), (h0_modes_block, .inl (cy 0, 16, .inl c_modes_block)), (h0_secret, .inl (cy 0, 80, .inl c_secret)), (h0_slots, .inl (cy 4, 16, .inr (.inr (.inr (.inr (fun j => some (hP_o j)))))))]) hD hS hA [0, 1, 2, 3, 5, 6, 7, 8] rfl)⟩ rfl rfl hl.1 rfl (lv_room (Nat.le_of_ble_eq_true rfl)) (zdt_at zt_X9_wrap_0 4 rfl) ⟨Nat.zero_le _, Nat.zero_le _⟩) hS hP hD (va_freeP (X := [(h0, .inr (11, [.ref h0_buffer, .ref h0_slots, .ref h0_counters, .ref h0_officerPin, .ref h0_userPin, .ref h0_words, .ref h0_sha, .ref h0_stream, .ref h0_aes, .ref h0_modes, .ref h0_gcm, .ref h0_generator, .ref h0_tests, .ref h0_message, .ref h0_secret, .int c_state, .int c_testsDone, .int c_faults, .int c_streamBegun])), (h0_aes, .inr (2, [.ref h0_aes_keys, .int c_aes_rounds])), (h0_aes_keys, .inl (cy 1, 60, .inl c_aes_keys)), (h0_buffer, .inl (cy 0, 512, .inl c_buffer)), (h0_counters, .inl (cy 1, 3, .inl c_counters)), (h0_modes, .inr (6, [.ref h0_aes, .ref h0_modes_block, .ref h0_modes_pad])), (h0_modes_block, .inl (cy 0, 16, .inl c_modes_block)), (h0_secret, .inl (cy 0, 80, .inl c_secret)), (h0_slots, .inl (cy 4, 16, .inr (.inr (.inr (.inr (fun j => some (hP_o j)))))))]) hD hS hA [0, 1, 2, 3, 5, 6, 7, 8] rfl) [0, 1, 2, 3, 5, 6, 7, 8] rfl (by decide) rfl rfl zpl_adr ?_
  clear hP hD hS hc_
  intro H locs hP hD hS
  replace hP : va_P D vwCl ([(h0, .inr (11, [.ref h0_buffer, .ref h0_slots, .ref h0_counters, .ref h0_officerPin, .ref h0_userPin, .ref h0_words, .ref h0_sha, .ref h0_stream, .ref h0_aes, .ref h0_modes, .ref h0_gcm, .ref h0_generator, .ref h0_tests, .ref h0_message, .ref h0_secret, .int c_state, .int c_testsDone, .int c_faults, .int c_streamBegun])), (h0_aes, .inr (2, [.ref h0_aes_keys, .int c_aes_rounds_2])), (h0_aes_keys, .inl (cy 1, 60, .inl c_aes_keys_3)), (h0_buffer, .inl (cy 0, 512, .inl c_buffer_4)), (h0_counters, .inl (cy 1, 3, .inl c_counters)), (h0_modes, .inr (6, [.ref h0_aes, .ref h0_modes_block, .ref h0_modes_pad])), (h0_modes_block, .inl (cy 0, 16, .inl c_modes_block_5)), (h0_secret, .inl (cy 0, 80, .inl c_secret_6)), (h0_slots, .inl (cy 4, 16, .inr (.inr (.inr (.inr (fun j => some (hP_o j)))))))] ++ zpl (cy 0) hP_o hP_k cP_kind cP_length cP_usage cP_role cP_uses_7 cPK) H := hP
  replace hD : va_D A ([(h0, .inr (11, [.ref h0_buffer, .ref h0_slots, .ref h0_counters, .ref h0_officerPin, .ref h0_userPin, .ref h0_words, .ref h0_sha, .ref h0_stream, .ref h0_aes, .ref h0_modes, .ref h0_gcm, .ref h0_generator, .ref h0_tests, .ref h0_message, .ref h0_secret, .int c_state, .int c_testsDone, .int c_faults, .int c_streamBegun])), (h0_aes, .inr (2, [.ref h0_aes_keys, .int c_aes_rounds_2])), (h0_aes_keys, .inl (cy 1, 60, .inl c_aes_keys_3)), (h0_buffer, .inl (cy 0, 512, .inl c_buffer_4)), (h0_counters, .inl (cy 1, 3, .inl c_counters)), (h0_modes, .inr (6, [.ref h0_aes, .ref h0_modes_block, .ref h0_modes_pad])), (h0_modes_block, .inl (cy 0, 16, .inl c_modes_block_5)), (h0_secret, .inl (cy 0, 80, .inl c_secret_6)), (h0_slots, .inl (cy 4, 16, .inr (.inr (.inr (.inr (fun j => some (hP_o j)))))))] ++ zpl (cy 0) hP_o hP_k cP_kind cP_length cP_usage cP_role cP_uses_7 cPK) := hD
  refine W.eq (g2 := F0 m 7 ls [.int r_1, .ref h0]) rfl ?_
  replace hf := zb_s hf
  obtain ⟨⟨r_8, c_counters_9⟩, hc_, hf⟩ := hf
  refine zcnQ (pc := 7) (X := [(h0, .inr (11, [.ref h0_buffer, .ref h0_slots, .ref h0_counters, .ref h0_officerPin, .ref h0_userPin, .ref h0_words, .ref h0_sha, .ref h0_stream, .ref h0_aes, .ref h0_modes, .ref h0_gcm, .ref h0_generator, .ref h0_tests, .ref h0_message, .ref h0_secret, .int c_state, .int c_testsDone, .int c_faults, .int c_streamBegun])), (h0_aes, .inr (2, [.ref h0_aes_keys, .int c_aes_rounds_2])), (h0_aes_keys, .inl (cy 1, 60, .inl c_aes_keys_3)), (h0_buffer, .inl (cy 0, 512, .inl c_buffer_4)), (h0_counters, .inl (cy 1, 3, .inl c_counters)), (h0_modes, .inr (6, [.ref h0_aes, .ref h0_modes_block, .ref h0_modes_pad])), (h0_modes_block, .inl (cy 0, 16, .inl c_modes_block_5)), (h0_secret, .inl (cy 0, 80, .inl c_secret_6)), (h0_slots, .inl (cy 4, 16, .inr (.inr (.inr (.inr (fun j => some (hP_o j)))))))]) (rv := (some (.int r_8))) (va_runV (As := [.int r_1]) (rest := []) ⟨hx, hb, hml, hown, hts⟩ (c_X9_counted l D cy tt H.size h0 h0_buffer h0_slots h0_counters h0_officerPin h0_userPin h0_words h0_sha h0_stream h0_aes h0_modes h0_gcm h0_generator h0_tests h0_message h0_secret r_1 c_counters c_state c_testsDone c_faults c_streamBegun r_8 c_counters_9 hc_) (cwV 1 hts gX9_wrap_X9_counted rfl rfl rfl (by decide +kernel) ⟨Nat.le_of_ble_eq_true rfl, Nat.le_of_ble_eq_true rfl⟩) ⟨zblind, va_recv hK hP (ci := 11) (q0 := 0) rfl rfl, zpre hE hS (hP.sub [0, 4] rfl) (hD.sub [0, 4] (by decide) rfl) (va_free hD hS hA [0, 4] rfl)⟩ rfl rfl hl.1 rfl (lv_room (Nat.le_of_ble_eq_true rfl)) (zdt_at zt_X9_wrap_0 5 rfl) ⟨Nat.zero_le _, Nat.zero_le _⟩) hS hP hD (va_free hD hS hA [0, 4] rfl) [0, 4] rfl (by decide) rfl rfl ?_
  clear hP hD hS hc_
  intro H locs hP hD hS
  replace hP : va_P D vwCl ([(h0, .inr (11, [.ref h0_buffer, .ref h0_slots, .ref h0_counters, .ref h0_officerPin, .ref h0_userPin, .ref h0_words, .ref h0_sha, .ref h0_stream, .ref h0_aes, .ref h0_modes, .ref h0_gcm, .ref h0_generator, .ref h0_tests, .ref h0_message, .ref h0_secret, .int c_state, .int c_testsDone, .int c_faults, .int c_streamBegun])), (h0_aes, .inr (2, [.ref h0_aes_keys, .int c_aes_rounds_2])), (h0_aes_keys, .inl (cy 1, 60, .inl c_aes_keys_3)), (h0_buffer, .inl (cy 0, 512, .inl c_buffer_4)), (h0_counters, .inl (cy 1, 3, .inl c_counters_9)), (h0_modes, .inr (6, [.ref h0_aes, .ref h0_modes_block, .ref h0_modes_pad])), (h0_modes_block, .inl (cy 0, 16, .inl c_modes_block_5)), (h0_secret, .inl (cy 0, 80, .inl c_secret_6)), (h0_slots, .inl (cy 4, 16, .inr (.inr (.inr (.inr (fun j => some (hP_o j)))))))] ++ zpl (cy 0) hP_o hP_k cP_kind cP_length cP_usage cP_role cP_uses_7 cPK) H := hP
  replace hD : va_D A ([(h0, .inr (11, [.ref h0_buffer, .ref h0_slots, .ref h0_counters, .ref h0_officerPin, .ref h0_userPin, .ref h0_words, .ref h0_sha, .ref h0_stream, .ref h0_aes, .ref h0_modes, .ref h0_gcm, .ref h0_generator, .ref h0_tests, .ref h0_message, .ref h0_secret, .int c_state, .int c_testsDone, .int c_faults, .int c_streamBegun])), (h0_aes, .inr (2, [.ref h0_aes_keys, .int c_aes_rounds_2])), (h0_aes_keys, .inl (cy 1, 60, .inl c_aes_keys_3)), (h0_buffer, .inl (cy 0, 512, .inl c_buffer_4)), (h0_counters, .inl (cy 1, 3, .inl c_counters_9)), (h0_modes, .inr (6, [.ref h0_aes, .ref h0_modes_block, .ref h0_modes_pad])), (h0_modes_block, .inl (cy 0, 16, .inl c_modes_block_5)), (h0_secret, .inl (cy 0, 80, .inl c_secret_6)), (h0_slots, .inl (cy 4, 16, .inr (.inr (.inr (.inr (fun j => some (hP_o j)))))))] ++ zpl (cy 0) hP_o hP_k cP_kind cP_length cP_usage cP_role cP_uses_7 cPK) := hD
  refine W.eq (g2 := F0 m 10 ls [.int r_8]) rfl ?_
  cases hf
  exact W.iret (pc := 10) hx hb hr (fun t ht hW => ⟨rfl, ⟨by rw [ht]; exact hP, hD⟩, hS.F ht⟩) hS.2.2 (zdt_at zt_X9_wrap_0 6 rfl)
