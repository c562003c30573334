def f_X9_deriveRefusal (p1 : Int32) (p2 : Int32) (p3 : Int32) (p4 : Int32) (p5 : Int32) (p6 : Int32) (c_state : Int32) (cP_kind : Nat → Int32) (cP_role : Nat → Int32) (cP_usage : Nat → Int32) (cP_uses : Nat → Int32) : Option (Int32) :=
  (f_X9_loggedIn c_state).bind (fun r_1 => if r_1 = 0 then some (-1 : Int32) else (f_X9_isSlot p1).bind (fun r_4 => if r_4 = 0 then some (-2 : Int32) else (f_X9_isSlot p2).bind (fun r_7 => if r_7 = 0 then some (-2 : Int32) else (f_X9_isKind p3).bind (fun r_10 => if r_10 = 0 then some (-2 : Int32) else (f_X9_isUsage p4).bind (fun r_13 => if r_13 = 0 then some (-2 : Int32) else (f_X9_isKeyLength p5).bind (fun r_16 => if r_16 = 0 then some (-2 : Int32) else if p6 < 0 then some (-2 : Int32) else if p6 ≤ (64 : Int32) then zk (¬ (p2 < 0 ∨ 16 ≤ p2.toNatClampNeg)) ((f_X9_isForeign p2.toNatClampNeg c_state cP_kind cP_role).bind (fun r_24 => if r_24 = 0 then (f_X8_isEmpty p2.toNatClampNeg cP_kind).bind (fun r_27 => if r_27 = 0 then zk (¬ (p1 < 0 ∨ 16 ≤ p1.toNatClampNeg)) ((f_X8_isEmpty p1.toNatClampNeg cP_kind).bind (fun r_31 => if r_31 = 0 then some (-4 : Int32) else if (cP_kind p2.toNatClampNeg) = (2 : Int32) then (f_X9_lengthFits p3 p5).bind (fun r_36 => if r_36 = 0 then some (-5 : Int32) else (f_X8_allows p2.toNatClampNeg (8 : Int32) cP_usage).bind (fun r_39 => if r_39 = 0 then some (-6 : Int32) else if (cP_uses p2.toNatClampNeg) = 0 then some (-7 : Int32) else some (0 : Int32))) else some (-5 : Int32))) else some (-4 : Int32)) else some (-3 : Int32))) else some (-2 : Int32)))))))
set_option maxHeartbeats 4000000 in
set_option maxRecDepth 100000 in
theorem c_X9_deriveRefusal (l : Launch) (D : va_G) (cy : Nat → ClassId) (tt : Nat → Nat) (sz : Nat) (h0 : Nat) (h0_buffer : Nat) (h0_slots : Nat) (h0_counters : Nat) (h0_officerPin : Nat) (h0_userPin : Nat) (h0_words : Nat) (h0_sha : Nat) (h0_stream : Nat) (h0_aes : Nat) (h0_modes : Nat) (h0_gcm : Nat) (h0_generator : Nat) (h0_tests : Nat) (h0_message : Nat) (h0_secret : Nat) (hP_o : Nat → Nat) (hP_k : Nat → Nat) (p1 : Int32) (p2 : Int32) (p3 : Int32) (p4 : Int32) (p5 : Int32) (p6 : Int32) (c_state : Int32) (cP_kind : Nat → Int32) (cP_role : Nat → Int32) (cP_usage : Nat → Int32) (cP_uses : Nat → Int32) (c_testsDone : Int32) (c_faults : Int32) (c_streamBegun : Int32) (cP_length : Nat → Int32) (r_ : Int32) (hf : f_X9_deriveRefusal p1 p2 p3 p4 p5 p6 c_state cP_kind cP_role cP_usage cP_uses = some r_) : Met l yX9_deriveRefusal wsX9_deriveRefusal ({ frames := 2, cells := 0, slots := 0, locals := 41 }) (zPc D cy tt sz [.ref h0, .int p1, .int p2, .int p3, .int p4, .int p5, .int p6] ([(h0, .inr (11, [.ref h0_buffer, .ref h0_slots, .ref h0_counters, .ref h0_officerPin, .ref h0_userPin, .ref h0_words, .ref h0_sha, .ref h0_stream, .ref h0_aes, .ref h0_modes, .ref h0_gcm, .ref h0_generator, .ref h0_tests, .ref h0_message, .ref h0_secret, .int c_state, .int c_testsDone, .int c_faults, .int c_streamBegun])), (h0_slots, .inl (cy 4, 16, .inr (.inr (.inr (.inr (fun j => some (hP_o j)))))))] ++ zpO hP_o hP_k cP_kind cP_length cP_usage cP_role cP_uses)) (fun _ st o t => o = .returned (some (.int r_)) ∧ t.heap = st.heap) 0 0 (fun _ => False) := by
  refine Met.ofW (cc := cX9_deriveRefusal) (maxL := 8) (ret := (some .int)) (by decide) rfl ?_
  intro p e s m args below meth c s₁ B hml hv
  obtain ⟨rfl, rfl, hP, hD0, hE⟩ := hv
  have hx := B.exec
  have hb := B.bytes
  have hr := B.returns
  have hts := atoms_spec (ws := wsX9_deriveRefusal) B.pre
  have hown : s.vm.findClass RX9 = some m.cls := findClass_of_methodNamed B.named
  have hlocks := B.notSynchronized
  clear B
  have hD := hD0.self (sz := s.heap.size)
  generalize hAe : va_A ([(h0, .inr (11, [.ref h0_buffer, .ref h0_slots, .ref h0_counters, .ref h0_officerPin, .ref h0_userPin, .ref h0_words, .ref h0_sha, .ref h0_stream, .ref h0_aes, .ref h0_modes, .ref h0_gcm, .ref h0_generator, .ref h0_tests, .ref h0_message, .ref h0_secret, .int c_state, .int c_testsDone, .int c_faults, .int c_streamBegun])), (h0_slots, .inl (cy 4, 16, .inr (.inr (.inr (.inr (fun j => some (hP_o j)))))))] ++ zpO hP_o hP_k cP_kind cP_length cP_usage cP_role cP_uses) s.heap.size = A at hD hE
  have hA : ∀ q : Nat, s.heap.size ≤ q → A q := fun q h => by rw [← hAe]; exact Or.inr h
  clear hAe hD0
  have hS : va_S A s.heap s.heap [] := va_S.rf
  have hK := hE.1
  have hw0 := hts (.fieldLink RX9 15 "SealedModule" "slots" "[LSealedModule$Slot;") (by decide +kernel)
  have hw1 := hts (.fieldLink RX9 204 "SealedModule$Slot" "kind" "I") (by decide +kernel)
  have hw2 := hts (.fieldLink RX9 216 "SealedModule$Slot" "uses" "I") (by decide +kernel)
  have hcX9 : ∀ w ∈ u_ws RX9 TX9 19, w ∈ wsX9_deriveRefusal := (fun _ h => List.mem_cons_of_mem _ (List.mem_append_left _ (List.mem_append_right _ h)))
  have hcX8 : ∀ w ∈ u_ws RX8 TX8 6, w ∈ wsX9_deriveRefusal := (fun _ h => List.mem_cons_of_mem _ (List.mem_append_right _ h))
  have hl := lv_entry ([.ref h0, .int p1, .int p2, .int p3, .int p4, .int p5, .int p6]) (n := 8) (Nat.le_of_ble_eq_true rfl)
  rw [lg_entry_eq]
  generalize (lg_sl ([.ref h0, .int p1, .int p2, .int p3, .int p4, .int p5, .int p6]) ++ List.replicate (8 - (lg_sl ([.ref h0, .int p1, .int p2, .int p3, .int p4, .int p5, .int p6])).length) Slot.unset).toArray = ls at hl ⊢
  replace hl : lv_has ls 8 [(0, .ref h0), (1, .int p1), (2, .int p2), (3, .int p3), (4, .int p4), (5, .int p5), (6, .int p6)] := hl
  unfold f_X9_deriveRefusal at hf
  refine zgo (fun GW hTo hFr => ?_)
  refine hFr _ _ _ ?_
  refine lv_aload_n (pc := 0) hx hb (zdt_at zt_X9_deriveRefusal_0 0 rfl) rfl (lv_at hl 0 rfl) ?_
  replace hf := zb_s hf
  obtain ⟨r_1, hc_, hf⟩ := hf
  refine zcs (pc := 1) (rv := (some (.int r_1))) (va_runV (As := []) (rest := []) ⟨hx, hb, hml, hown, hts⟩ (c_X9_loggedIn l D cy tt s.heap.size h0 h0_buffer h0_slots h0_counters h0_officerPin h0_userPin h0_words h0_sha h0_stream h0_aes h0_modes h0_gcm h0_generator h0_tests h0_message h0_secret c_state c_testsDone c_faults c_streamBegun r_1 hc_) (cwV 0 hts gX9_deriveRefusal_X9_loggedIn rfl rfl rfl (by decide +kernel) ⟨Nat.le_of_ble_eq_true rfl, Nat.le_of_ble_eq_true rfl⟩) ⟨zblind, va_recv hK hP (ci := 11) (q0 := 0) rfl rfl, zpre hE hS (hP.sub [0] rfl) (hD.sub [0] (by decide) rfl) (va_free hD hS hA [0] rfl)⟩ rfl rfl hl.1 rfl (lv_room (Nat.le_of_ble_eq_true rfl)) (zdt_at zt_X9_deriveRefusal_0 1 rfl) ⟨Nat.zero_le _, Nat.zero_le _⟩) ?_
  clear hc_
  refine W.eq (g2 := F0 m 4 ls [.int r_1]) rfl ?_
  refine lv_if_ne (pc := 4) (tgt := 9) hx hb (zdt_at zt_X9_deriveRefusal_0 2 rfl) (by decide) (fun cn_ => ?t_2) (fun cn_ => ?f_3)
  case f_3 =>
    replace hf := zt_s cn_ hf
    clear cn_
    refine lv_iconst (pc := 7) (v := (-1 : Int32)) hx hb (zdt_at zt_X9_deriveRefusal_0 3 rfl) (by decide) ?_
    cases hf
    exact W.iret (pc := 8) hx hb hr (fun t ht hW => ⟨rfl, ht⟩) (fun _ h => nomatch h) (zdt_at zt_X9_deriveRefusal_0 4 rfl)
  replace hf := ze_s cn_ hf
  clear cn_
  refine lv_iload_n (pc := 9) hx hb (zdt_at zt_X9_deriveRefusal_0 5 rfl) rfl (lv_at hl 1 rfl) ?_
  replace hf := zb_s hf
  obtain ⟨r_4, hc_, hf⟩ := hf
  refine zcs (pc := 10) (rv := (some (.int r_4))) (va_runS (As := [.int p1]) (rest := []) ⟨hx, hb, hml, hown, hts⟩ (c_X9_isSlot l D cy tt s.heap.size p1 r_4 hc_) (va_cwS 1 hts gX9_deriveRefusal_X9_isSlot rfl rfl rfl (by decide +kernel) ⟨Nat.le_of_ble_eq_true rfl, Nat.le_of_ble_eq_true rfl⟩) ⟨zblind, zpre hE hS (hP.sub [] rfl) (hD.sub [] (by decide) rfl) (va_free hD hS hA [] rfl)⟩ rfl rfl hl.1 rfl (lv_room (Nat.le_of_ble_eq_true rfl)) (zdt_at zt_X9_deriveRefusal_0 6 rfl) ⟨Nat.zero_le _, Nat.zero_le _⟩) ?_
  clear hc_
  refine W.eq (g2 := F0 m 13 ls [.int r_4]) rfl ?_
  refine lv_if_eq (pc := 13) (tgt := 38) hx hb (zdt_at zt_X9_deriveRefusal_0 7 rfl) (by decide) (fun cn_ => ?t_5) (fun cn_ => ?f_6)
  case t_5 =>
    replace hf := zt_s cn_ hf
    clear cn_
    refine lv_bipush (pc := 38) (v := (-2 : Int32)) hx hb (zdt_at zt_X9_deriveRefusal_0 17 rfl) (by decide) ?_
    cases hf
    exact W.iret (pc := 40) hx hb hr (fun t ht hW => ⟨rfl, ht⟩) (fun _ h => nomatch h) (zdt_at zt_X9_deriveRefusal_0 18 rfl)
  replace hf := ze_s cn_ hf
  clear cn_
  refine lv_iload_n (pc := 16) hx hb (zdt_at zt_X9_deriveRefusal_0 8 rfl) rfl (lv_at hl 2 rfl) ?_
  replace hf := zb_s hf
  obtain ⟨r_7, hc_, hf⟩ := hf
  refine zcs (pc := 17) (rv := (some (.int r_7))) (va_runS (As := [.int p2]) (rest := []) ⟨hx, hb, hml, hown, hts⟩ (c_X9_isSlot l D cy tt s.heap.size p2 r_7 hc_) (va_cwS 1 hts gX9_deriveRefusal_X9_isSlot rfl rfl rfl (by decide +kernel) ⟨Nat.le_of_ble_eq_true rfl, Nat.le_of_ble_eq_true rfl⟩) ⟨zblind, zpre hE hS (hP.sub [] rfl) (hD.sub [] (by decide) rfl) (va_free hD hS hA [] rfl)⟩ rfl rfl hl.1 rfl (lv_room (Nat.le_of_ble_eq_true rfl)) (zdt_at zt_X9_deriveRefusal_0 9 rfl) ⟨Nat.zero_le _, Nat.zero_le _⟩) ?_
  clear hc_
  refine W.eq (g2 := F0 m 20 ls [.int r_7]) rfl ?_
  refine lv_if_eq (pc := 20) (tgt := 38) hx hb (zdt_at zt_X9_deriveRefusal_0 10 rfl) (by decide) (fun cn_ => ?t_8) (fun cn_ => ?f_9)
  case t_8 =>
    replace hf := zt_s cn_ hf
    clear cn_
    refine lv_bipush (pc := 38) (v := (-2 : Int32)) hx hb (zdt_at zt_X9_deriveRefusal_0 17 rfl) (by decide) ?_
    cases hf
    exact W.iret (pc := 40) hx hb hr (fun t ht hW => ⟨rfl, ht⟩) (fun _ h => nomatch h) (zdt_at zt_X9_deriveRefusal_0 18 rfl)
  replace hf := ze_s cn_ hf
  clear cn_
  refine lv_iload_n (pc := 23) hx hb (zdt_at zt_X9_deriveRefusal_0 11 rfl) rfl (lv_at hl 3 rfl) ?_
  replace hf := zb_s hf
  obtain ⟨r_10, hc_, hf⟩ := hf
  refine zcs (pc := 24) (rv := (some (.int r_10))) (va_runS (As := [.int p3]) (rest := []) ⟨hx, hb, hml, hown, hts⟩ (c_X9_isKind l D cy tt s.heap.size p3 r_10 hc_) (va_cwS 1 hts gX9_deriveRefusal_X9_isKind rfl rfl rfl (by decide +kernel) ⟨Nat.le_of_ble_eq_true rfl, Nat.le_of_ble_eq_true rfl⟩) ⟨zblind, zpre hE hS (hP.sub [] rfl) (hD.sub [] (by decide) rfl) (va_free hD hS hA [] rfl)⟩ rfl rfl hl.1 rfl (lv_room (Nat.le_of_ble_eq_true rfl)) (zdt_at zt_X9_deriveRefusal_0 12 rfl) ⟨Nat.zero_le _, Nat.zero_le _⟩) ?_
  clear hc_
  refine W.eq (g2 := F0 m 27 ls [.int r_10]) rfl ?_
  refine lv_if_eq (pc := 27) (tgt := 38) hx hb (zdt_at zt_X9_deriveRefusal_0 13 rfl) (by decide) (fun cn_ => ?t_11) (fun cn_ => ?f_12)
  case t_11 =>
    replace hf := zt_s cn_ hf
    clear cn_
    refine lv_bipush (pc := 38) (v := (-2 : Int32)) hx hb (zdt_at zt_X9_deriveRefusal_0 17 rfl) (by decide) ?_
    cases hf
    exact W.iret (pc := 40) hx hb hr (fun t ht hW => ⟨rfl, ht⟩) (fun _ h => nomatch h) (zdt_at zt_X9_deriveRefusal_0 18 rfl)
  replace hf := ze_s cn_ hf
  clear cn_
  refine lv_iload (pc := 30) hx hb (zdt_at zt_X9_deriveRefusal_0 14 rfl) (lv_at hl 4 rfl) ?_
  replace hf := zb_s hf
  obtain ⟨r_13, hc_, hf⟩ := hf
  refine zcs (pc := 32) (rv := (some (.int r_13))) (va_runS (As := [.int p4]) (rest := []) ⟨hx, hb, hml, hown, hts⟩ (c_X9_isUsage l D cy tt s.heap.size p4 r_13 hc_) (va_cwS 1 hts gX9_deriveRefusal_X9_isUsage rfl rfl rfl (by decide +kernel) ⟨Nat.le_of_ble_eq_true rfl, Nat.le_of_ble_eq_true rfl⟩) ⟨zblind, zpre hE hS (hP.sub [] rfl) (hD.sub [] (by decide) rfl) (va_free hD hS hA [] rfl)⟩ rfl rfl hl.1 rfl (lv_room (Nat.le_of_ble_eq_true rfl)) (zdt_at zt_X9_deriveRefusal_0 15 rfl) ⟨Nat.zero_le _, Nat.zero_le _⟩) ?_
  clear hc_
  refine W.eq (g2 := F0 m 35 ls [.int r_13]) rfl ?_
  refine lv_if_ne (pc := 35) (tgt := 41) hx hb (zdt_at zt_X9_deriveRefusal_0 16 rfl) (by decide) (fun cn_ => ?t_14) (fun cn_ => ?f_15)
  case f_15 =>
    replace hf := zt_s cn_ hf
    clear cn_
    refine lv_bipush (pc := 38) (v := (-2 : Int32)) hx hb (zdt_at zt_X9_deriveRefusal_0 17 rfl) (by decide) ?_
    cases hf
    exact W.iret (pc := 40) hx hb hr (fun t ht hW => ⟨rfl, ht⟩) (fun _ h => nomatch h) (zdt_at zt_X9_deriveRefusal_0 18 rfl)
  replace hf := ze_s cn_ hf
  clear cn_
  refine lv_iload (pc := 41) hx hb (zdt_at zt_X9_deriveRefusal_0 19 rfl) (lv_at hl 5 rfl) ?_
  replace hf := zb_s hf
  obtain ⟨r_16, hc_, hf⟩ := hf
  refine zcs (pc := 43) (rv := (some (.int r_16))) (va_runS (As := [.int p5]) (rest := []) ⟨hx, hb, hml, hown, hts⟩ (c_X9_isKeyLength l D cy tt s.heap.size p5 r_16 hc_) (va_cwS 1 hts gX9_deriveRefusal_X9_isKeyLength rfl rfl rfl (by decide +kernel) ⟨Nat.le_of_ble_eq_true rfl, Nat.le_of_ble_eq_true rfl⟩) ⟨zblind, zpre hE hS (hP.sub [] rfl) (hD.sub [] (by decide) rfl) (va_free hD hS hA [] rfl)⟩ rfl rfl hl.1 rfl (lv_room (Nat.le_of_ble_eq_true rfl)) (zdt_at zt_X9_deriveRefusal_0 20 rfl) ⟨Nat.zero_le _, Nat.zero_le _⟩) ?_
  clear hc_
  refine W.eq (g2 := F0 m 46 ls [.int r_16]) rfl ?_
  refine lv_if_eq (pc := 46) (tgt := 61) hx hb (zdt_at zt_X9_deriveRefusal_0 21 rfl) (by decide) (fun cn_ => ?t_17) (fun cn_ => ?f_18)
  case t_17 =>
    replace hf := zt_s cn_ hf
    clear cn_
    refine lv_bipush (pc := 61) (v := (-2 : Int32)) hx hb (zdt_at zt_X9_deriveRefusal_0 27 rfl) (by decide) ?_
    cases hf
    exact W.iret (pc := 63) hx hb hr (fun t ht hW => ⟨rfl, ht⟩) (fun _ h => nomatch h) (zdt_at zt_X9_deriveRefusal_0 28 rfl)
  replace hf := ze_s cn_ hf
  clear cn_
  refine lv_iload (pc := 49) hx hb (zdt_at zt_X9_deriveRefusal_0 22 rfl) (lv_at hl 6 rfl) ?_
  refine lv_if_lt (pc := 51) (tgt := 61) hx hb (zdt_at zt_X9_deriveRefusal_0 23 rfl) (by decide) (fun cn_ => ?t_19) (fun cn_ => ?f_20)
  case t_19 =>
    replace hf := zt_s cn_ hf
    clear cn_
    refine lv_bipush (pc := 61) (v := (-2 : Int32)) hx hb (zdt_at zt_X9_deriveRefusal_0 27 rfl) (by decide) ?_
    cases hf
    exact W.iret (pc := 63) hx hb hr (fun t ht hW => ⟨rfl, ht⟩) (fun _ h => nomatch h) (zdt_at zt_X9_deriveRefusal_0 28 rfl)
  replace hf := ze_s cn_ hf
  clear cn_
  refine lv_iload (pc := 54) hx hb (zdt_at zt_X9_deriveRefusal_0 24 rfl) (lv_at hl 6 rfl) ?_
  refine lv_bipush (pc := 56) (v := (64 : Int32)) hx hb (zdt_at zt_X9_deriveRefusal_0 25 rfl) (by decide) ?_
  refine lv_icmp_le (pc := 58) (tgt := 64) hx hb (zdt_at zt_X9_deriveRefusal_0 26 rfl) (by decide) (fun cn_ => ?t_21) (fun cn_ => ?f_22)
  case f_22 =>
    replace hf := ze_s cn_ hf
    clear cn_
    refine lv_bipush (pc := 61) (v := (-2 : Int32)) hx hb (zdt_at zt_X9_deriveRefusal_0 27 rfl) (by decide) ?_
    cases hf
    exact W.iret (pc := 63) hx hb hr (fun t ht hW => ⟨rfl, ht⟩) (fun _ h => nomatch h) (zdt_at zt_X9_deriveRefusal_0 28 rfl)
  replace hf := zt_s cn_ hf
  clear cn_
  refine lv_aload_n (pc := 64) hx hb (zdt_at zt_X9_deriveRefusal_0 29 rfl) rfl (lv_at hl 0 rfl) ?_
  refine va_get (pc := 65) (D := D) (ci := 11) (v := .ref h0_slots) (C := RX9) (T := TX9) (N := 19) hx hb hts hcX9 hown hK hP 0 rfl rfl 1 (by decide) hw0 (fun _ h9 => h9) rfl (zdt_at zt_X9_deriveRefusal_0 30 rfl) ?_
  refine lv_iload_n (pc := 68) hx hb (zdt_at zt_X9_deriveRefusal_0 31 rfl) rfl (lv_at hl 2 rfl) ?_
  replace hf := zk_s hf
  have hj_23 : p2.toNatClampNeg < 16 := Nat.not_le.mp fun q => hf.1 (Or.inr q)
  refine va_aldq (pc := 69) (C := RX8) hx hb hK hP 1 4 rfl rfl hf.1 (zdt_at zt_X9_deriveRefusal_0 32 rfl) ?_
  replace hf := hf.2
  refine lv_astore (pc := 70) (lv' := [(7, .ref (hP_o p2.toNatClampNeg)), (0, .ref h0), (1, .int p1), (2, .int p2), (3, .int p3), (4, .int p4), (5, .int p5), (6, .int p6)]) hx hb (zdt_at zt_X9_deriveRefusal_0 33 rfl) hl (by decide) rfl ?_
  clear hl
  intro ls hl
  refine lv_aload_n (pc := 72) hx hb (zdt_at zt_X9_deriveRefusal_0 34 rfl) rfl (lv_at hl 1 rfl) ?_
  refine lv_aload (pc := 73) hx hb (zdt_at zt_X9_deriveRefusal_0 35 rfl) (lv_at hl 0 rfl) ?_
  replace hf := zb_s hf
  obtain ⟨r_24, hc_, hf⟩ := hf
  refine zcs (pc := 75) (rv := (some (.int r_24))) (va_runV (As := [.ref (hP_o p2.toNatClampNeg)]) (rest := []) ⟨hx, hb, hml, hown, hts⟩ (c_X9_isForeign l D cy tt s.heap.size h0 h0_buffer h0_slots h0_counters h0_officerPin h0_userPin h0_words h0_sha h0_stream h0_aes h0_modes h0_gcm h0_generator h0_tests h0_message h0_secret hP_o hP_k p2.toNatClampNeg c_state cP_kind cP_role c_testsDone c_faults c_streamBegun cP_length cP_usage cP_uses r_24 hj_23 hc_) (cwV 1 hts gX9_deriveRefusal_X9_isForeign rfl rfl rfl (by decide +kernel) ⟨Nat.le_of_ble_eq_true rfl, Nat.le_of_ble_eq_true rfl⟩) ⟨zblind, va_recv hK hP (ci := 11) (q0 := 0) rfl rfl, zpre hE hS (hP.sub [0, 2, 3, 4, 5, 6, 7, 8, 9, 10, 11, 12, 13, 14, 15, 16, 17] rfl) (hD.sub [0, 2, 3, 4, 5, 6, 7, 8, 9, 10, 11, 12, 13, 14, 15, 16, 17] (by decide) rfl) (va_free hD hS hA [0, 2, 3, 4, 5, 6, 7, 8, 9, 10, 11, 12, 13, 14, 15, 16, 17] rfl)⟩ rfl rfl hl.1 rfl (lv_room (Nat.le_of_ble_eq_true rfl)) (zdt_at zt_X9_deriveRefusal_0 36 rfl) ⟨Nat.zero_le _, Nat.zero_le _⟩) ?_
  clear hc_
  refine W.eq (g2 := F0 m 78 ls [.int r_24]) rfl ?_
  refine lv_if_eq (pc := 78) (tgt := 84) hx hb (zdt_at zt_X9_deriveRefusal_0 37 rfl) (by decide) (fun cn_ => ?t_25) (fun cn_ => ?f_26)
  case f_26 =>
    replace hf := ze_s cn_ hf
    clear cn_
    refine lv_bipush (pc := 81) (v := (-3 : Int32)) hx hb (zdt_at zt_X9_deriveRefusal_0 38 rfl) (by decide) ?_
    cases hf
    exact W.iret (pc := 83) hx hb hr (fun t ht hW => ⟨rfl, ht⟩) (fun _ h => nomatch h) (zdt_at zt_X9_deriveRefusal_0 39 rfl)
  replace hf := zt_s cn_ hf
  clear cn_
  refine lv_aload (pc := 84) hx hb (zdt_at zt_X9_deriveRefusal_0 40 rfl) (lv_at hl 0 rfl) ?_
  replace hf := zb_s hf
  obtain ⟨r_27, hc_, hf⟩ := hf
  refine zcs (pc := 86) (rv := (some (.int r_27))) (va_runV (As := []) (rest := []) ⟨hx, hb, hml, hown, hts⟩ (c_X8_isEmpty l D cy tt s.heap.size hP_o hP_k p2.toNatClampNeg cP_kind cP_length cP_usage cP_role cP_uses r_27 hj_23 hc_) (cwV 0 hts gX9_deriveRefusal_X8_isEmpty rfl rfl rfl (by decide +kernel) ⟨Nat.le_of_ble_eq_true rfl, Nat.le_of_ble_eq_true rfl⟩) ⟨zblind, va_recv hK hP (ci := 10) (q0 := (2 + p2.toNatClampNeg)) rfl (zpO_get (X := [(h0, .inr (11, [.ref h0_buffer, .ref h0_slots, .ref h0_counters, .ref h0_officerPin, .ref h0_userPin, .ref h0_words, .ref h0_sha, .ref h0_stream, .ref h0_aes, .ref h0_modes, .ref h0_gcm, .ref h0_generator, .ref h0_tests, .ref h0_message, .ref h0_secret, .int c_state, .int c_testsDone, .int c_faults, .int c_streamBegun])), (h0_slots, .inl (cy 4, 16, .inr (.inr (.inr (.inr (fun j => some (hP_o j)))))))]) (n := 2) rfl hj_23), zpre hE hS (hP.sub [2, 3, 4, 5, 6, 7, 8, 9, 10, 11, 12, 13, 14, 15, 16, 17] rfl) (hD.sub [2, 3, 4, 5, 6, 7, 8, 9, 10, 11, 12, 13, 14, 15, 16, 17] (by decide) rfl) (va_free hD hS hA [2, 3, 4, 5, 6, 7, 8, 9, 10, 11, 12, 13, 14, 15, 16, 17] rfl)⟩ rfl rfl hl.1 rfl (lv_room (Nat.le_of_ble_eq_true rfl)) (zdt_at zt_X9_deriveRefusal_0 41 rfl) ⟨Nat.zero_le _, Nat.zero_le _⟩) ?_
  clear hc_
  refine W.eq (g2 := F0 m 89 ls [.int r_27]) rfl ?_
  refine lv_if_ne (pc := 89) (tgt := 104) hx hb (zdt_at zt_X9_deriveRefusal_0 42 rfl) (by decide) (fun cn_ => ?t_28) (fun cn_ => ?f_29)
  case t_28 =>
    replace hf := ze_s cn_ hf
    clear cn_
    refine lv_bipush (pc := 104) (v := (-4 : Int32)) hx hb (zdt_at zt_X9_deriveRefusal_0 49 rfl) (by decide) ?_
    cases hf
    exact W.iret (pc := 106) hx hb hr (fun t ht hW => ⟨rfl, ht⟩) (fun _ h => nomatch h) (zdt_at zt_X9_deriveRefusal_0 50 rfl)
  replace hf := zt_s cn_ hf
  clear cn_
  refine lv_aload_n (pc := 92) hx hb (zdt_at zt_X9_deriveRefusal_0 43 rfl) rfl (lv_at hl 1 rfl) ?_
  refine va_get (pc := 93) (D := D) (ci := 11) (v := .ref h0_slots) (C := RX9) (T := TX9) (N := 19) hx hb hts hcX9 hown hK hP 0 rfl rfl 1 (by decide) hw0 (fun _ h9 => h9) rfl (zdt_at zt_X9_deriveRefusal_0 44 rfl) ?_
  refine lv_iload_n (pc := 96) hx hb (zdt_at zt_X9_deriveRefusal_0 45 rfl) rfl (lv_at hl 2 rfl) ?_
  replace hf := zk_s hf
  have hj_30 : p1.toNatClampNeg < 16 := Nat.not_le.mp fun q => hf.1 (Or.inr q)
  refine va_aldq (pc := 97) (C := RX8) hx hb hK hP 1 4 rfl rfl hf.1 (zdt_at zt_X9_deriveRefusal_0 46 rfl) ?_
  replace hf := hf.2
  replace hf := zb_s hf
  obtain ⟨r_31, hc_, hf⟩ := hf
  refine zcs (pc := 98) (rv := (some (.int r_31))) (va_runV (As := []) (rest := []) ⟨hx, hb, hml, hown, hts⟩ (c_X8_isEmpty l D cy tt s.heap.size hP_o hP_k p1.toNatClampNeg cP_kind cP_length cP_usage cP_role cP_uses r_31 hj_30 hc_) (cwV 0 hts gX9_deriveRefusal_X8_isEmpty rfl rfl rfl (by decide +kernel) ⟨Nat.le_of_ble_eq_true rfl, Nat.le_of_ble_eq_true rfl⟩) ⟨zblind, va_recv hK hP (ci := 10) (q0 := (2 + p1.toNatClampNeg)) rfl (zpO_get (X := [(h0, .inr (11, [.ref h0_buffer, .ref h0_slots, .ref h0_counters, .ref h0_officerPin, .ref h0_userPin, .ref h0_words, .ref h0_sha, .ref h0_stream, .ref h0_aes, .ref h0_modes, .ref h0_gcm, .ref h0_generator, .ref h0_tests, .ref h0_message, .ref h0_secret, .int c_state, .int c_testsDone, .int c_faults, .int c_streamBegun])), (h0_slots, .inl (cy 4, 16, .inr (.inr (.inr (.inr (fun j => some (hP_o j)))))))]) (n := 2) rfl hj_30), zpre hE hS (hP.sub [2, 3, 4, 5, 6, 7, 8, 9, 10, 11, 12, 13, 14, 15, 16, 17] rfl) (hD.sub [2, 3, 4, 5, 6, 7, 8, 9, 10, 11, 12, 13, 14, 15, 16, 17] (by decide) rfl) (va_free hD hS hA [2, 3, 4, 5, 6, 7, 8, 9, 10, 11, 12, 13, 14, 15, 16, 17] rfl)⟩ rfl rfl hl.1 rfl (lv_room (Nat.le_of_ble_eq_true rfl)) (zdt_at zt_X9_deriveRefusal_0 47 rfl) ⟨Nat.zero_le _, Nat.zero_le _⟩) ?_
  clear hc_
  refine W.eq (g2 := F0 m 101 ls [.int r_31]) rfl ?_
  refine lv_if_ne (pc := 101) (tgt := 107) hx hb (zdt_at zt_X9_deriveRefusal_0 48 rfl) (by decide) (fun cn_ => ?t_32) (fun cn_ => ?f_33)
  case f_33 =>
    replace hf := zt_s cn_ hf
    clear cn_
    refine lv_bipush (pc := 104) (v := (-4 : Int32)) hx hb (zdt_at zt_X9_deriveRefusal_0 49 rfl) (by decide) ?_
    cases hf
    exact W.iret (pc := 106) hx hb hr (fun t ht hW => ⟨rfl, ht⟩) (fun _ h => nomatch h) (zdt_at zt_X9_deriveRefusal_0 50 rfl)
  replace hf := ze_s cn_ hf
  clear cn_
  refine lv_aload (pc := 107) hx hb (zdt_at zt_X9_deriveRefusal_0 51 rfl) (lv_at hl 0 rfl) ?_
  refine va_get (pc := 109) (D := D) (ci := 10) (v := .int (cP_kind p2.toNatClampNeg)) (C := RX8) (T := TX8) (N := 6) hx hb hts hcX8 hown hK hP (2 + p2.toNatClampNeg) (zpO_get (X := [(h0, .inr (11, [.ref h0_buffer, .ref h0_slots, .ref h0_counters, .ref h0_officerPin, .ref h0_userPin, .ref h0_words, .ref h0_sha, .ref h0_stream, .ref h0_aes, .ref h0_modes, .ref h0_gcm, .ref h0_generator, .ref h0_tests, .ref h0_message, .ref h0_secret, .int c_state, .int c_testsDone, .int c_faults, .int c_streamBegun])), (h0_slots, .inl (cy 4, 16, .inr (.inr (.inr (.inr (fun j => some (hP_o j)))))))]) (n := 2) rfl hj_23) rfl 1 (by decide) hw1 (fun _ h9 => h9) rfl (zdt_at zt_X9_deriveRefusal_0 52 rfl) ?_
  refine lv_iconst (pc := 112) (v := (2 : Int32)) hx hb (zdt_at zt_X9_deriveRefusal_0 53 rfl) (by decide) ?_
  refine lv_icmp_ne (pc := 113) (tgt := 125) hx hb (zdt_at zt_X9_deriveRefusal_0 54 rfl) (by decide) (fun cn_ => ?t_34) (fun cn_ => ?f_35)
  case t_34 =>
    replace hf := ze_s cn_ hf
    clear cn_
    refine lv_bipush (pc := 125) (v := (-5 : Int32)) hx hb (zdt_at zt_X9_deriveRefusal_0 59 rfl) (by decide) ?_
    cases hf
    exact W.iret (pc := 127) hx hb hr (fun t ht hW => ⟨rfl, ht⟩) (fun _ h => nomatch h) (zdt_at zt_X9_deriveRefusal_0 60 rfl)
  replace hf := zt_s cn_ hf
  clear cn_
  refine lv_iload_n (pc := 116) hx hb (zdt_at zt_X9_deriveRefusal_0 55 rfl) rfl (lv_at hl 4 rfl) ?_
  refine lv_iload (pc := 117) hx hb (zdt_at zt_X9_deriveRefusal_0 56 rfl) (lv_at hl 6 rfl) ?_
  replace hf := zb_s hf
  obtain ⟨r_36, hc_, hf⟩ := hf
  refine zcs (pc := 119) (rv := (some (.int r_36))) (va_runS (As := [.int p3, .int p5]) (rest := []) ⟨hx, hb, hml, hown, hts⟩ (c_X9_lengthFits l D cy tt s.heap.size p3 p5 r_36 hc_) (va_cwS 2 hts gX9_deriveRefusal_X9_lengthFits rfl rfl rfl (by decide +kernel) ⟨Nat.le_of_ble_eq_true rfl, Nat.le_of_ble_eq_true rfl⟩) ⟨zblind, zpre hE hS (hP.sub [] rfl) (hD.sub [] (by decide) rfl) (va_free hD hS hA [] rfl)⟩ rfl rfl hl.1 rfl (lv_room (Nat.le_of_ble_eq_true rfl)) (zdt_at zt_X9_deriveRefusal_0 57 rfl) ⟨Nat.zero_le _, Nat.zero_le _⟩) ?_
  clear hc_
  refine W.eq (g2 := F0 m 122 ls [.int r_36]) rfl ?_
  refine lv_if_ne (pc := 122) (tgt := 128) hx hb (zdt_at zt_X9_deriveRefusal_0 58 rfl) (by decide) (fun cn_ => ?t_37) (fun cn_ => ?f_38)
  case f_38 =>
    replace hf := zt_s cn_ hf
    clear cn_
    refine lv_bipush (pc := 125) (v := (-5 : Int32)) hx hb (zdt_at zt_X9_deriveRefusal_0 59 rfl) (by decide) ?_
    cases hf
    exact W.iret (pc := 127) hx hb hr (fun t ht hW => ⟨rfl, ht⟩) (fun _ h => nomatch h) (zdt_at zt_X9_deriveRefusal_0 60 rfl)
  replace hf := ze_s cn_ hf
  clear cn_
  refine lv_aload (pc := 128) hx hb (zdt_at zt_X9_deriveRefusal_0 61 rfl) (lv_at hl 0 rfl) ?_
  refine lv_bipush (pc := 130) (v := (8 : Int32)) hx hb (zdt_at zt_X9_deriveRefusal_0 62 rfl) (by decide) ?_
  replace hf := zb_s hf
  obtain ⟨r_39, hc_, hf⟩ := hf
  refine zcs (pc := 132) (rv := (some (.int r_39))) (va_runV (As := [.int (8 : Int32)]) (rest := []) ⟨hx, hb, hml, hown, hts⟩ (c_X8_allows l D cy tt s.heap.size hP_o hP_k p2.toNatClampNeg (8 : Int32) cP_usage cP_kind cP_length cP_role cP_uses r_39 hj_23 hc_) (cwV 1 hts gX9_deriveRefusal_X8_allows rfl rfl rfl (by decide +kernel) ⟨Nat.le_of_ble_eq_true rfl, Nat.le_of_ble_eq_true rfl⟩) ⟨zblind, va_recv hK hP (ci := 10) (q0 := (2 + p2.toNatClampNeg)) rfl (zpO_get (X := [(h0, .inr (11, [.ref h0_buffer, .ref h0_slots, .ref h0_counters, .ref h0_officerPin, .ref h0_userPin, .ref h0_words, .ref h0_sha, .ref h0_stream, .ref h0_aes, .ref h0_modes, .ref h0_gcm, .ref h0_generator, .ref h0_tests, .ref h0_message, .ref h0_secret, .int c_state, .int c_testsDone, .int c_faults, .int c_streamBegun])), (h0_slots, .inl (cy 4, 16, .inr (.inr (.inr (.inr (fun j => some (hP_o j)))))))]) (n := 2) rfl hj_23), zpre hE hS (hP.sub [2, 3, 4, 5, 6, 7, 8, 9, 10, 11, 12, 13, 14, 15, 16, 17] rfl) (hD.sub [2, 3, 4, 5, 6, 7, 8, 9, 10, 11, 12, 13, 14, 15, 16, 17] (by decide) rfl) (va_free hD hS hA [2, 3, 4, 5, 6, 7, 8, 9, 10, 11, 12, 13, 14, 15, 16, 17] rfl)⟩ rfl rfl hl.1 rfl (lv_room (Nat.le_of_ble_eq_true rfl)) (zdt_at zt_X9_deriveRefusal_0 63 rfl) ⟨Nat.zero_le _, Nat.zero_le _⟩) ?_
  clear hc_
  refine W.eq (g2 := F0 m 135 ls [.int r_39]) rfl ?_
  refine lv_if_ne (pc := 135) (tgt := 141) hx hb (zdt_at zt_X9_deriveRefusal_1 0 rfl) (by decide) (fun cn_ => ?t_40) (fun cn_ => ?f_41)
  case f_41 =>
    replace hf := zt_s cn_ hf
    clear cn_
    refine lv_bipush (pc := 138) (v := (-6 : Int32)) hx hb (zdt_at zt_X9_deriveRefusal_1 1 rfl) (by decide) ?_
    cases hf
    exact W.iret (pc := 140) hx hb hr (fun t ht hW => ⟨rfl, ht⟩) (fun _ h => nomatch h) (zdt_at zt_X9_deriveRefusal_1 2 rfl)
  replace hf := ze_s cn_ hf
  clear cn_
  refine lv_aload (pc := 141) hx hb (zdt_at zt_X9_deriveRefusal_1 3 rfl) (lv_at hl 0 rfl) ?_
  refine va_get (pc := 143) (D := D) (ci := 10) (v := .int (cP_uses p2.toNatClampNeg)) (C := RX8) (T := TX8) (N := 6) hx hb hts hcX8 hown hK hP (2 + p2.toNatClampNeg) (zpO_get (X := [(h0, .inr (11, [.ref h0_buffer, .ref h0_slots, .ref h0_counters, .ref h0_officerPin, .ref h0_userPin, .ref h0_words, .ref h0_sha, .ref h0_stream, .ref h0_aes, .ref h0_modes, .ref h0_gcm, .ref h0_generator, .ref h0_tests, .ref h0_message, .ref h0_secret, .int c_state, .int c_testsDone, .int c_faults, .int c_streamBegun])), (h0_slots, .inl (cy 4, 16, .inr (.inr (.inr (.inr (fun j => some (hP_o j)))))))]) (n := 2) rfl hj_23) rfl 5 (by decide) hw2 (fun _ h9 => h9) rfl (zdt_at zt_X9_deriveRefusal_1 4 rfl) ?_
  refine lv_if_ne (pc := 146) (tgt := 154) hx hb (zdt_at zt_X9_deriveRefusal_1 5 rfl) (by decide) (fun cn_ => ?t_42) (fun cn_ => ?f_43)
  case t_42 =>
    replace hf := ze_s cn_ hf
    clear cn_
    refine lv_iconst (pc := 154) (v := (0 : Int32)) hx hb (zdt_at zt_X9_deriveRefusal_1 8 rfl) (by decide) ?_
    cases hf
    exact W.iret (pc := 155) hx hb hr (fun t ht hW => ⟨rfl, ht⟩) (fun _ h => nomatch h) (zdt_at zt_X9_deriveRefusal_1 9 rfl)
  replace hf := zt_s cn_ hf
  clear cn_
  refine lv_bipush (pc := 149) (v := (-7 : Int32)) hx hb (zdt_at zt_X9_deriveRefusal_1 6 rfl) (by decide) ?_
  refine lv_goto (pc := 151) (tgt := 155) hx hb (zdt_at zt_X9_deriveRefusal_1 7 rfl) (by decide) ?_
  cases hf
  exact W.iret (pc := 155) hx hb hr (fun t ht hW => ⟨rfl, ht⟩) (fun _ h => nomatch h) (zdt_at zt_X9_deriveRefusal_1 9 rfl)
def b_X7_takePadded_1PK_3 (j1 : Nat) (p2 : Int32) (p3 : Int32) (cPK : Nat → Nat → Int32) (K_4 : (Nat → Int32) → Option (Int32 × Int32 × (Nat → Int32) × (Nat → Int32))) (self_8 : (Int32 × (Nat → Int32)) → Option (Int32 × Int32 × (Nat → Int32) × (Nat → Int32))) (z : Int32 × (Nat → Int32)) : Option (Int32 × Int32 × (Nat → Int32) × (Nat → Int32)) :=
  match z with
  | (i_1, c_schedule_2) => if (64 : Int32) ≤ i_1 then K_4 c_schedule_2 else zj (fun (v_11 : Int32) => zk (¬ ((i_1 >>> ((2 : Int32) &&& 31)) < 0 ∨ 64 ≤ (i_1 >>> ((2 : Int32) &&& 31)).toNatClampNeg)) (zk (¬ ((i_1 >>> ((2 : Int32) &&& 31)) < 0 ∨ 64 ≤ (i_1 >>> ((2 : Int32) &&& 31)).toNatClampNeg)) (self_8 ((i_1 + (1 : Int32)), (upd c_schedule_2 (i_1 >>> ((2 : Int32) &&& 31)).toNatClampNeg (((c_schedule_2 (i_1 >>> ((2 : Int32) &&& 31)).toNatClampNeg) <<< ((8 : Int32) &&& 31)) ||| (v_11 ^^^ p3))))))) (fun K_12 => if p2 ≤ i_1 then K_12 (0 : Int32) else zk (¬ (i_1 < 0 ∨ 64 ≤ i_1.toNatClampNeg)) (K_12 ((cPK j1 i_1.toNatClampNeg) &&& (255 : Int32))))
def f_X7_takePadded_1PK (j1 : Nat) (p2 : Int32) (p3 : Int32) (c_filled : Int32) (c_total : Int32) (c_schedule : Nat → Int32) (c_sums : Nat → Int32) (cPK : Nat → Nat → Int32) : Option (Int32 × Int32 × (Nat → Int32) × (Nat → Int32)) :=
  zj (fun (c_schedule_3 : Nat → Int32) => (f_X7_compress c_filled c_schedule_3 c_sums).bind (fun (c_filled_5, c_schedule_6, c_sums_7) => some (c_filled_5, (64 : Int32), c_schedule_6, c_sums_7))) (fun K_4 => zl (b_X7_takePadded_1PK_3 j1 p2 p3 cPK K_4) 2000 ((0 : Int32), c_schedule))
set_option maxHeartbeats 4000000 in
set_option maxRecDepth 100000 in
theorem c_X7_takePadded_1PK (l : Launch) (D : va_G) (cy : Nat → ClassId) (tt : Nat → Nat) (sz : Nat) (h0 : Nat) (h0_sums : Nat) (h0_schedule : Nat) (h0_inner : Nat) (hP_o : Nat → Nat) (hP_k : Nat → Nat) (j1 : Nat) (p2 : Int32) (p3 : Int32) (c_filled : Int32) (c_total : Int32) (c_schedule : Nat → Int32) (c_sums : Nat → Int32) (cPK : Nat → Nat → Int32) (cP_kind : Nat → Int32) (cP_length : Nat → Int32) (cP_usage : Nat → Int32) (cP_role : Nat → Int32) (cP_uses : Nat → Int32) (c_filled' : Int32) (c_total' : Int32) (c_schedule' : Nat → Int32) (c_sums' : Nat → Int32) (hj_j1 : j1 < 16) (hf : f_X7_takePadded_1PK j1 p2 p3 c_filled c_total c_schedule c_sums cPK = some (c_filled', c_total', c_schedule', c_sums')) : Met l yX7_takePadded wsX7_takePadded ({ frames := 1, cells := 0, slots := 0, locals := 32 }) (zPc D cy tt sz [.ref h0, .ref (hP_k j1), .int p2, .int p3] ([(h0, .inr (9, [.ref h0_sums, .ref h0_schedule, .ref h0_inner, .int c_filled, .int c_total])), (h0_schedule, .inl (cy 1, 64, .inl c_schedule)), (h0_sums, .inl (cy 1, 8, .inl c_sums))] ++ zpO hP_o hP_k cP_kind cP_length cP_usage cP_role cP_uses ++ zpK (cy 0) hP_k cPK)) (zQ D none ([(h0, .inr (9, [.ref h0_sums, .ref h0_schedule, .ref h0_inner, .int c_filled', .int c_total'])), (h0_schedule, .inl (cy 1, 64, .inl c_schedule')), (h0_sums, .inl (cy 1, 8, .inl c_sums'))] ++ zpO hP_o hP_k cP_kind cP_length cP_usage cP_role cP_uses ++ zpK (cy 0) hP_k cPK) (va_A ([(h0, .inr (9, [.ref h0_sums, .ref h0_schedule, .ref h0_inner, .int c_filled, .int c_total])), (h0_schedule, .inl (cy 1, 64, .inl c_schedule)), (h0_sums, .inl (cy 1, 8, .inl c_sums))] ++ zpO hP_o hP_k cP_kind cP_length cP_usage cP_role cP_uses ++ zpK (cy 0) hP_k cPK) sz)) 0 0 (va_A ([(h0, .inr (9, [.ref h0_sums, .ref h0_schedule, .ref h0_inner, .int c_filled, .int c_total])), (h0_schedule, .inl (cy 1, 64, .inl c_schedule)), (h0_sums, .inl (cy 1, 8, .inl c_sums))] ++ zpO hP_o hP_k cP_kind cP_length cP_usage cP_role cP_uses ++ zpK (cy 0) hP_k cPK) sz) := by
  refine Met.ofW (cc := cX7_takePadded) (maxL := 6) (ret := none) (by decide) rfl ?_
  intro p e s m args below meth c s₁ B hml hv
  obtain ⟨rfl, rfl, hP, hD0, hE⟩ := hv
  have hx := B.exec
  have hb := B.bytes
  have hr := B.returns
  have hts := atoms_spec (ws := wsX7_takePadded) B.pre
  have hown : s.vm.findClass RX7 = some m.cls := findClass_of_methodNamed B.named
  have hlocks := B.notSynchronized
  clear B
  have hD := hD0.self (sz := s.heap.size)
  generalize hAe : va_A ([(h0, .inr (9, [.ref h0_sums, .ref h0_schedule, .ref h0_inner, .int c_filled, .int c_total])), (h0_schedule, .inl (cy 1, 64, .inl c_schedule)), (h0_sums, .inl (cy 1, 8, .inl c_sums))] ++ zpO hP_o hP_k cP_kind cP_length cP_usage cP_role cP_uses ++ zpK (cy 0) hP_k cPK) s.heap.size = A at hD hE ⊢
  have hA : ∀ q : Nat, s.heap.size ≤ q → A q := fun q h => by rw [← hAe]; exact Or.inr h
  clear hAe hD0
  have hS : va_S A s.heap s.heap [] := va_S.rf
  have hK := hE.1
  have hw0 := hts (.fieldLink RX7 26 "SealedModule$Sha256" "total" "I") (by decide +kernel)
  have hw1 := hts (.fieldLink RX7 15 "SealedModule$Sha256" "schedule" "[I") (by decide +kernel)
  have hcX7 : ∀ w ∈ u_ws RX7 TX7 5, w ∈ wsX7_takePadded := (fun _ h => List.mem_cons_of_mem _ (List.mem_append_right _ h))
  have hl := lv_entry ([.ref h0, .ref (hP_k j1), .int p2, .int p3]) (n := 6) (Nat.le_of_ble_eq_true rfl)
  rw [lg_entry_eq]
  generalize (lg_sl ([.ref h0, .ref (hP_k j1), .int p2, .int p3]) ++ List.replicate (6 - (lg_sl ([.ref h0, .ref (hP_k j1), .int p2, .int p3])).length) Slot.unset).toArray = ls at hl ⊢
  replace hl : lv_has ls 6 [(0, .ref h0), (1, .ref (hP_k j1)), (2, .int p2), (3, .int p3)] := hl
  unfold f_X7_takePadded_1PK at hf
  refine zgo (fun GW hTo hFr => ?_)
  refine hFr _ _ _ ?_
  obtain ⟨H, hHe⟩ : ∃ H, H = s.heap := ⟨_, rfl⟩
  obtain ⟨locs, hLe⟩ : ∃ L : List Loc, L = [] := ⟨_, rfl⟩
  rw [← hHe] at hP
  replace hS : va_S A s.heap H locs := by rw [hHe, hLe]; exact hS
  refine zat hHe.symm hLe.symm ?_
  clear hHe hLe
  refine lv_iconst (pc := 0) (v := (0 : Int32)) hx hb (zdt_at zt_X7_takePadded_0 0 rfl) (by decide) ?_
  refine lv_istore (pc := 1) (lv' := [(4, .int (0 : Int32)), (0, .ref h0), (1, .ref (hP_k j1)), (2, .int p2), (3, .int p3)]) hx hb (zdt_at zt_X7_takePadded_0 1 rfl) hl (by decide) rfl ?_
  clear hl
  intro ls hl
  replace hf := zj_s hf
  obtain ⟨K_4, eK_4, hf⟩ := hf
  have kK_4 : ∀ (c_schedule_3 : Nat → Int32) (H : Heap) (locs : List Loc) (ls : Array Slot), va_P D vwCl ([(h0, .inr (9, [.ref h0_sums, .ref h0_schedule, .ref h0_inner, .int c_filled, .int c_total])), (h0_schedule, .inl (cy 1, 64, .inl c_schedule_3)), (h0_sums, .inl (cy 1, 8, .inl c_sums))] ++ zpO hP_o hP_k cP_kind cP_length cP_usage cP_role cP_uses ++ zpK (cy 0) hP_k cPK) H → va_D A ([(h0, .inr (9, [.ref h0_sums, .ref h0_schedule, .ref h0_inner, .int c_filled, .int c_total])), (h0_schedule, .inl (cy 1, 64, .inl c_schedule_3)), (h0_sums, .inl (cy 1, 8, .inl c_sums))] ++ zpO hP_o hP_k cP_kind cP_length cP_usage cP_role cP_uses ++ zpK (cy 0) hP_k cPK) → va_S A s.heap H locs → lv_has ls 6 [(0, .ref h0)] → K_4 c_schedule_3 = some (c_filled', c_total', c_schedule', c_sums') → GW H locs (F0 m 62 ls []) := by
    clear hf hl hP hD hS
    intro c_schedule_3 H locs ls hP hD hS hl hf
    rw [eK_4] at hf
    clear eK_4
    refine hFr _ _ _ ?_
    refine lv_aload_n (pc := 62) hx hb (zdt_at zt_X7_takePadded_0 36 rfl) rfl (lv_at hl 0 rfl) ?_
    replace hf := zb_s hf
    obtain ⟨⟨c_filled_5, c_schedule_6, c_sums_7⟩, hc_, hf⟩ := hf
    refine zcm2 (pc := 63) (rv := none) (va_runV (As := []) (rest := []) ⟨hx, hb, hml, hown, hts⟩ (c_X7_compress l D cy tt H.size h0 h0_sums h0_schedule h0_inner c_filled c_schedule_3 c_sums c_total c_filled_5 c_schedule_6 c_sums_7 hc_) (cwV 0 hts gX7_takePadded_X7_compress rfl rfl rfl (by decide +kernel) ⟨Nat.le_of_ble_eq_true rfl, Nat.le_of_ble_eq_true rfl⟩) ⟨zblind, va_recv hK hP (ci := 9) (q0 := 0) rfl rfl, zpre hE hS (hP.sub [0, 1, 2] rfl) (hD.sub [0, 1, 2] (by decide) rfl) (va_free hD hS hA [0, 1, 2] rfl)⟩ rfl rfl hl.1 rfl (lv_room (Nat.le_of_ble_eq_true rfl)) (zdt_at zt_X7_takePadded_0 37 rfl) ⟨Nat.zero_le _, Nat.zero_le _⟩) hS hP hD (va_free hD hS hA [0, 1, 2] rfl) [0, 1, 2] rfl (by decide) rfl ?_
    clear hP hD hS hc_
    intro H locs hP hD hS
    replace hP : va_P D vwCl ([(h0, .inr (9, [.ref h0_sums, .ref h0_schedule, .ref h0_inner, .int c_filled_5, .int c_total])), (h0_schedule, .inl (cy 1, 64, .inl c_schedule_6)), (h0_sums, .inl (cy 1, 8, .inl c_sums_7))] ++ zpO hP_o hP_k cP_kind cP_length cP_usage cP_role cP_uses ++ zpK (cy 0) hP_k cPK) H := hP
    replace hD : va_D A ([(h0, .inr (9, [.ref h0_sums, .ref h0_schedule, .ref h0_inner, .int c_filled_5, .int c_total])), (h0_schedule, .inl (cy 1, 64, .inl c_schedule_6)), (h0_sums, .inl (cy 1, 8, .inl c_sums_7))] ++ zpO hP_o hP_k cP_kind cP_length cP_usage cP_role cP_uses ++ zpK (cy 0) hP_k cPK) := hD
    refine W.eq (g2 := F0 m 66 ls []) rfl ?_
    refine lv_aload_n (pc := 66) hx hb (zdt_at zt_X7_takePadded_0 38 rfl) rfl (lv_at hl 0 rfl) ?_
    refine lv_bipush (pc := 67) (v := (64 : Int32)) hx hb (zdt_at zt_X7_takePadded_0 39 rfl) (by decide) ?_
    refine va_put (pc := 69) (D := D) (ci := 9) (v := .int (64 : Int32)) (ty := .int) (C := RX7) (T := TX7) (N := 5) hx hb hts hcX7 tyX7 tyX7_ok nmX7 hown hK hP hD hS 0 rfl rfl 4 (by decide) hw0 (fun _ h9 => h9) rfl (by decide +kernel) rfl rfl (Nat.le_of_ble_eq_true rfl) (zdt_at zt_X7_takePadded_0 40 rfl) ?_
    clear hP hD hS
    intro H locs hP hD hS
    replace hP : va_P D vwCl ([(h0, .inr (9, [.ref h0_sums, .ref h0_schedule, .ref h0_inner, .int c_filled_5, .int (64 : Int32)])), (h0_schedule, .inl (cy 1, 64, .inl c_schedule_6)), (h0_sums, .inl (cy 1, 8, .inl c_sums_7))] ++ zpO hP_o hP_k cP_kind cP_length cP_usage cP_role cP_uses ++ zpK (cy 0) hP_k cPK) H := hP
    replace hD : va_D A ([(h0, .inr (9, [.ref h0_sums, .ref h0_schedule, .ref h0_inner, .int c_filled_5, .int (64 : Int32)])), (h0_schedule, .inl (cy 1, 64, .inl c_schedule_6)), (h0_sums, .inl (cy 1, 8, .inl c_sums_7))] ++ zpO hP_o hP_k cP_kind cP_length cP_usage cP_role cP_uses ++ zpK (cy 0) hP_k cPK) := hD
    cases hf
    exact W.vret (pc := 72) hx hb hr (fun t ht hW => ⟨rfl, ⟨by rw [ht]; exact hP, hD⟩, hS.F ht⟩) hS.2.2 (zdt_at zt_X7_takePadded_0 41 rfl)
  clear eK_4
  refine hTo _ _ _ (zl_go (fun z => match z with | (i_1, c_schedule_2) => ∀ (H : Heap) (locs : List Loc) (ls : Array Slot), va_P D vwCl ([(h0, .inr (9, [.ref h0_sums, .ref h0_schedule, .ref h0_inner, .int c_filled, .int c_total])), (h0_schedule, .inl (cy 1, 64, .inl c_schedule_2)), (h0_sums, .inl (cy 1, 8, .inl c_sums))] ++ zpO hP_o hP_k cP_kind cP_length cP_usage cP_role cP_uses ++ zpK (cy 0) hP_k cPK) H → va_D A ([(h0, .inr (9, [.ref h0_sums, .ref h0_schedule, .ref h0_inner, .int c_filled, .int c_total])), (h0_schedule, .inl (cy 1, 64, .inl c_schedule_2)), (h0_sums, .inl (cy 1, 8, .inl c_sums))] ++ zpO hP_o hP_k cP_kind cP_length cP_usage cP_role cP_uses ++ zpK (cy 0) hP_k cPK) → va_S A s.heap H locs → lv_has ls 6 [(0, .ref h0), (1, .ref (hP_k j1)), (2, .int p2), (3, .int p3), (4, .int i_1)] → GW H locs (F0 m 3 ls [])) hf ?_ H locs ls hP hD hS (lv_sub hl [1, 2, 3, 4, 0] rfl))
  clear hf hl hP hD hS
  intro self_8 ihself_8 z hf
  obtain ⟨i_1, c_schedule_2⟩ := z
  intro H locs ls hP hD hS hl
  refine hFr _ _ _ ?_
  unfold b_X7_takePadded_1PK_3 at hf
  refine lv_iload (pc := 3) hx hb (zdt_at zt_X7_takePadded_0 2 rfl) (lv_at hl 4 rfl) ?_
  refine lv_bipush (pc := 5) (v := (64 : Int32)) hx hb (zdt_at zt_X7_takePadded_0 3 rfl) (by decide) ?_
  refine lv_icmp_ge (pc := 7) (tgt := 62) hx hb (zdt_at zt_X7_takePadded_0 4 rfl) (by decide) (fun cn_ => ?t_9) (fun cn_ => ?f_10)
  case t_9 =>
    replace hf := zt_s cn_ hf
    clear cn_
    exact hTo _ _ _ (kK_4 _ H locs ls hP hD hS (lv_sub hl [0] rfl) hf)
  replace hf := ze_s cn_ hf
  clear cn_
  refine lv_iload (pc := 10) hx hb (zdt_at zt_X7_takePadded_0 5 rfl) (lv_at hl 4 rfl) ?_
  refine lv_iload_n (pc := 12) hx hb (zdt_at zt_X7_takePadded_0 6 rfl) rfl (lv_at hl 2 rfl) ?_
  replace hf := zj_s hf
  obtain ⟨K_12, eK_12, hf⟩ := hf
  have kK_12 : ∀ (v_11 : Int32) (H : Heap) (locs : List Loc) (ls : Array Slot), va_P D vwCl ([(h0, .inr (9, [.ref h0_sums, .ref h0_schedule, .ref h0_inner, .int c_filled, .int c_total])), (h0_schedule, .inl (cy 1, 64, .inl c_schedule_2)), (h0_sums, .inl (cy 1, 8, .inl c_sums))] ++ zpO hP_o hP_k cP_kind cP_length cP_usage cP_role cP_uses ++ zpK (cy 0) hP_k cPK) H → va_D A ([(h0, .inr (9, [.ref h0_sums, .ref h0_schedule, .ref h0_inner, .int c_filled, .int c_total])), (h0_schedule, .inl (cy 1, 64, .inl c_schedule_2)), (h0_sums, .inl (cy 1, 8, .inl c_sums))] ++ zpO hP_o hP_k cP_kind cP_length cP_usage cP_role cP_uses ++ zpK (cy 0) hP_k cPK) → va_S A s.heap H locs → lv_has ls 6 [(0, .ref h0), (1, .ref (hP_k j1)), (2, .int p2), (3, .int p3), (4, .int i_1)] → K_12 v_11 = some (c_filled', c_total', c_schedule', c_sums') → GW H locs (F0 m 28 ls [.int v_11]) := by
    clear hf hl hP hD hS
    intro v_11 H locs ls hP hD hS hl hf
    rw [eK_12] at hf
    clear eK_12
    refine hFr _ _ _ ?_
    refine lv_istore (pc := 28) (lv' := [(5, .int v_11), (0, .ref h0), (1, .ref (hP_k j1)), (2, .int p2), (3, .int p3), (4, .int i_1)]) hx hb (zdt_at zt_X7_takePadded_0 15 rfl) hl (by decide) rfl ?_
    clear hl
    intro ls hl
    refine lv_aload_n (pc := 30) hx hb (zdt_at zt_X7_takePadded_0 16 rfl) rfl (lv_at hl 1 rfl) ?_
    refine va_get (pc := 31) (D := D) (ci := 9) (v := .ref h0_schedule) (C := RX7) (T := TX7) (N := 5) hx hb hts hcX7 hown hK hP 0 rfl rfl 1 (by decide) hw1 (fun _ h9 => h9) rfl (zdt_at zt_X7_takePadded_0 17 rfl) ?_
    refine lv_iload (pc := 34) hx hb (zdt_at zt_X7_takePadded_0 18 rfl) (lv_at hl 5 rfl) ?_
    refine lv_iconst (pc := 36) (v := (2 : Int32)) hx hb (zdt_at zt_X7_takePadded_0 19 rfl) (by decide) ?_
    refine lv_ishr (pc := 37) hx hb (zdt_at zt_X7_takePadded_0 20 rfl) ?_
    refine lv_aload_n (pc := 38) hx hb (zdt_at zt_X7_takePadded_0 21 rfl) rfl (lv_at hl 1 rfl) ?_
    refine va_get (pc := 39) (D := D) (ci := 9) (v := .ref h0_schedule) (C := RX7) (T := TX7) (N := 5) hx hb hts hcX7 hown hK hP 0 rfl rfl 1 (by decide) hw1 (fun _ h9 => h9) rfl (zdt_at zt_X7_takePadded_0 22 rfl) ?_
    refine lv_iload (pc := 42) hx hb (zdt_at zt_X7_takePadded_0 23 rfl) (lv_at hl 5 rfl) ?_
    refine lv_iconst (pc := 44) (v := (2 : Int32)) hx hb (zdt_at zt_X7_takePadded_0 24 rfl) (by decide) ?_
    refine lv_ishr (pc := 45) hx hb (zdt_at zt_X7_takePadded_0 25 rfl) ?_
    replace hf := zk_s hf
    refine va_iald (pc := 46) hx hb hK hP 1 1 rfl rfl hf.1 (zdt_at zt_X7_takePadded_0 26 rfl) ?_
    replace hf := hf.2
    refine lv_bipush (pc := 47) (v := (8 : Int32)) hx hb (zdt_at zt_X7_takePadded_0 27 rfl) (by decide) ?_
    refine lv_ishl (pc := 49) hx hb (zdt_at zt_X7_takePadded_0 28 rfl) ?_
    refine lv_iload (pc := 50) hx hb (zdt_at zt_X7_takePadded_0 29 rfl) (lv_at hl 0 rfl) ?_
    refine lv_iload_n (pc := 52) hx hb (zdt_at zt_X7_takePadded_0 30 rfl) rfl (lv_at hl 4 rfl) ?_
    refine lv_ixor (pc := 53) hx hb (zdt_at zt_X7_takePadded_0 31 rfl) ?_
    refine lv_ior (pc := 54) hx hb (zdt_at zt_X7_takePadded_0 32 rfl) ?_
    replace hf := zk_s hf
    refine va_iast (pc := 55) hx hb hK hP hD hS 1 1 rfl rfl hf.1 (zdt_at zt_X7_takePadded_0 33 rfl) ?_
    replace hf := hf.2
    clear hP hD hS
    intro H locs hP hD hS
    replace hP : va_P D vwCl ([(h0, .inr (9, [.ref h0_sums, .ref h0_schedule, .ref h0_inner, .int c_filled, .int c_total])), (h0_schedule, .inl (cy 1, 64, .inl (upd c_schedule_2 (i_1 >>> ((2 : Int32) &&& 31)).toNatClampNeg (((c_schedule_2 (i_1 >>> ((2 : Int32) &&& 31)).toNatClampNeg) <<< ((8 : Int32) &&& 31)) ||| (v_11 ^^^ p3))))), (h0_sums, .inl (cy 1, 8, .inl c_sums))] ++ zpO hP_o hP_k cP_kind cP_length cP_usage cP_role cP_uses ++ zpK (cy 0) hP_k cPK) H := hP
    replace hD : va_D A ([(h0, .inr (9, [.ref h0_sums, .ref h0_schedule, .ref h0_inner, .int c_filled, .int c_total])), (h0_schedule, .inl (cy 1, 64, .inl (upd c_schedule_2 (i_1 >>> ((2 : Int32) &&& 31)).toNatClampNeg (((c_schedule_2 (i_1 >>> ((2 : Int32) &&& 31)).toNatClampNeg) <<< ((8 : Int32) &&& 31)) ||| (v_11 ^^^ p3))))), (h0_sums, .inl (cy 1, 8, .inl c_sums))] ++ zpO hP_o hP_k cP_kind cP_length cP_usage cP_role cP_uses ++ zpK (cy 0) hP_k cPK) := hD
    refine lv_iinc (pc := 56) (v := (i_1 + (1 : Int32))) (lv' := [(4, .int (i_1 + (1 : Int32))), (5, .int v_11), (0, .ref h0), (1, .ref (hP_k j1)), (2, .int p2), (3, .int p3)]) hx hb (zdt_at zt_X7_takePadded_0 34 rfl) hl (k := 5) rfl rfl (by decide) rfl ?_
    clear hl
    intro ls hl
    refine lv_goto (pc := 59) (tgt := 3) hx hb (zdt_at zt_X7_takePadded_0 35 rfl) (by decide) ?_
    exact hTo _ _ _ (ihself_8 _ hf H locs ls hP hD hS (lv_sub hl [2, 3, 4, 5, 0] rfl))
  clear eK_12
  refine lv_icmp_ge (pc := 13) (tgt := 27) hx hb (zdt_at zt_X7_takePadded_0 7 rfl) (by decide) (fun cn_ => ?t_13) (fun cn_ => ?f_14)
  case t_13 =>
    replace hf := zt_s cn_ hf
    clear cn_
    refine lv_iconst (pc := 27) (v := (0 : Int32)) hx hb (zdt_at zt_X7_takePadded_0 14 rfl) (by decide) ?_
    exact hTo _ _ _ (kK_12 _ H locs ls hP hD hS (lv_sub hl [0, 1, 2, 3, 4] rfl) hf)
  replace hf := ze_s cn_ hf
  clear cn_
  refine lv_aload_n (pc := 16) hx hb (zdt_at zt_X7_takePadded_0 8 rfl) rfl (lv_at hl 1 rfl) ?_
  refine lv_iload (pc := 17) hx hb (zdt_at zt_X7_takePadded_0 9 rfl) (lv_at hl 4 rfl) ?_
  replace hf := zk_s hf
  refine va_bald (pc := 19) hx hb hK hP (19 + j1) 0 (zpK_get (X := [(h0, .inr (9, [.ref h0_sums, .ref h0_schedule, .ref h0_inner, .int c_filled, .int c_total])), (h0_schedule, .inl (cy 1, 64, .inl c_schedule_2)), (h0_sums, .inl (cy 1, 8, .inl c_sums))]) (n := 3) rfl hj_j1) rfl hf.1 (zdt_at zt_X7_takePadded_0 10 rfl) ?_
  replace hf := hf.2
  refine lv_sipush (pc := 20) (v := (255 : Int32)) hx hb (zdt_at zt_X7_takePadded_0 11 rfl) (by decide) ?_
  refine lv_iand (pc := 23) hx hb (zdt_at zt_X7_takePadded_0 12 rfl) ?_
  refine lv_goto (pc := 24) (tgt := 28) hx hb (zdt_at zt_X7_takePadded_0 13 rfl) (by decide) ?_
  exact hTo _ _ _ (kK_12 _ H locs ls hP hD hS (lv_sub hl [0, 1, 2, 3, 4] rfl) hf)
def f_X7_mac_1PK (n_a3 : Nat) (n_a6 : Nat) (j1 : Nat) (p2 : Int32) (p4 : Int32) (p5 : Int32) (p7 : Int32) (c_filled : Int32) (c_total : Int32) (c_inner : Nat → Int32) (c_schedule : Nat → Int32) (c_sums : Nat → Int32) (ca3 : Nat → Int32) (ca6 : Nat → Int32) (cPK : Nat → Nat → Int32) : Option (Int32 × Int32 × (Nat → Int32) × (Nat → Int32) × (Nat → Int32) × (Nat → Int32)) :=
  (f_X7_begin c_filled c_total c_sums).bind (fun (c_filled_1, c_total_2, c_sums_3) => (f_X7_takePadded_1PK j1 p2 (54 : Int32) c_filled_1 c_total_2 c_schedule c_sums_3 cPK).bind (fun (c_filled_4, c_total_5, c_schedule_6, c_sums_7) => (f_X7_take n_a3 p4 p5 c_filled_4 c_total_5 c_schedule_6 c_sums_7 ca3).bind (fun (c_filled_8, c_total_9, c_schedule_10, c_sums_11) => (f_X7_end_1t_inner (0 : Int32) c_filled_8 c_total_9 c_inner c_schedule_10 c_sums_11).bind (fun (c_filled_12, c_inner_13, c_schedule_14, c_sums_15) => (f_X7_begin c_filled_12 c_total_9 c_sums_15).bind (fun (c_filled_16, c_total_17, c_sums_18) => (f_X7_takePadded_1PK j1 p2 (92 : Int32) c_filled_16 c_total_17 c_schedule_14 c_sums_18 cPK).bind (fun (c_filled_19, c_total_20, c_schedule_21, c_sums_22) => (f_X7_take_1t_inner (0 : Int32) (32 : Int32) c_filled_19 c_total_20 c_inner_13 c_schedule_21 c_sums_22).bind (fun (c_filled_23, c_total_24, c_schedule_25, c_sums_26) => (f_X7_end n_a6 p7 c_filled_23 c_total_24 c_schedule_25 c_sums_26 ca6).bind (fun (c_filled_27, c_schedule_28, c_sums_29, ca6_30) => some (c_filled_27, c_total_24, c_inner_13, c_schedule_28, c_sums_29, ca6_30)))))))))
set_option maxHeartbeats 4000000 in
set_option maxRecDepth 100000 in
theorem c_X7_mac_1PK (l : Launch) (D : va_G) (cy : Nat → ClassId) (tt : Nat → Nat) (sz : Nat) (h0 : Nat) (h0_sums : Nat) (h0_schedule : Nat) (h0_inner : Nat) (ha3 : Nat) (ha6 : Nat) (hP_o : Nat → Nat) (hP_k : Nat → Nat) (n_a3 : Nat) (n_a6 : Nat) (j1 : Nat) (p2 : Int32) (p4 : Int32) (p5 : Int32) (p7 : Int32) (c_filled : Int32) (c_total : Int32) (c_inner : Nat → Int32) (c_schedule : Nat → Int32) (c_sums : Nat → Int32) (ca3 : Nat → Int32) (ca6 : Nat → Int32) (cPK : Nat → Nat → Int32) (cP_kind : Nat → Int32) (cP_length : Nat → Int32) (cP_usage : Nat → Int32) (cP_role : Nat → Int32) (cP_uses : Nat → Int32) (c_filled' : Int32) (c_total' : Int32) (c_inner' : Nat → Int32) (c_schedule' : Nat → Int32) (c_sums' : Nat → Int32) (ca6' : Nat → Int32) (hj_j1 : j1 < 16) (hf : f_X7_mac_1PK n_a3 n_a6 j1 p2 p4 p5 p7 c_filled c_total c_inner c_schedule c_sums ca3 ca6 cPK = some (c_filled', c_total', c_inner', c_schedule', c_sums', ca6')) : Met l yX7_mac wsX7_mac ({ frames := 3, cells := 0, slots := 0, locals := 84 }) (zPc D cy tt sz [.ref h0, .ref (hP_k j1), .int p2, .ref ha3, .int p4, .int p5, .ref ha6, .int p7] ([(h0, .inr (9, [.ref h0_sums, .ref h0_schedule, .ref h0_inner, .int c_filled, .int c_total])), (h0_inner, .inl (cy 0, 32, .inl c_inner)), (h0_schedule, .inl (cy 1, 64, .inl c_schedule)), (h0_sums, .inl (cy 1, 8, .inl c_sums)), (ha3, .inl (cy 0, n_a3, .inl ca3)), (ha6, .inl (cy 0, n_a6, .inl ca6))] ++ zpO hP_o hP_k cP_kind cP_length cP_usage cP_role cP_uses ++ zpK (cy 0) hP_k cPK)) (zQ D none ([(h0, .inr (9, [.ref h0_sums, .ref h0_schedule, .ref h0_inner, .int c_filled', .int c_total'])), (h0_inner, .inl (cy 0, 32, .inl c_inner')), (h0_schedule, .inl (cy 1, 64, .inl c_schedule')), (h0_sums, .inl (cy 1, 8, .inl c_sums')), (ha3, .inl (cy 0, n_a3, .inl ca3)), (ha6, .inl (cy 0, n_a6, .inl ca6'))] ++ zpO hP_o hP_k cP_kind cP_length cP_usage cP_role cP_uses ++ zpK (cy 0) hP_k cPK) (va_A ([(h0, .inr (9, [.ref h0_sums, .ref h0_schedule, .ref h0_inner, .int c_filled, .int c_total])), (h0_inner, .inl (cy 0, 32, .inl c_inner)), (h0_schedule, .inl (cy 1, 64, .inl c_schedule)), (h0_sums, .inl (cy 1, 8, .inl c_sums)), (ha3, .inl (cy 0, n_a3, .inl ca3)), (ha6, .inl (cy 0, n_a6, .inl ca6))] ++ zpO hP_o hP_k cP_kind cP_length cP_usage cP_role cP_uses ++ zpK (cy 0) hP_k cPK) sz)) 0 0 (va_A ([(h0, .inr (9, [.ref h0_sums, .ref h0_schedule, .ref h0_inner, .int c_filled, .int c_total])), (h0_inner, .inl (cy 0, 32, .inl c_inner)), (h0_schedule, .inl (cy 1, 64, .inl c_schedule)), (h0_sums, .inl (cy 1, 8, .inl c_sums)), (ha3, .inl (cy 0, n_a3, .inl ca3)), (ha6, .inl (cy 0, n_a6, .inl ca6))] ++ zpO hP_o hP_k cP_kind cP_length cP_usage cP_role cP_uses ++ zpK (cy 0) hP_k cPK) sz) := by
  refine Met.ofW (cc := cX7_mac) (maxL := 8) (ret := none) (by decide) rfl ?_
  intro p e s m args below meth c s₁ B hml hv
  obtain ⟨rfl, rfl, hP, hD0, hE⟩ := hv
  have hx := B.exec
  have hb := B.bytes
  have hr := B.returns
  have hts := atoms_spec (ws := wsX7_mac) B.pre
  have hown : s.vm.findClass RX7 = some m.cls := findClass_of_methodNamed B.named
  have hlocks := B.notSynchronized
  clear B
  have hD := hD0.self (sz := s.heap.size)
  generalize hAe : va_A ([(h0, .inr (9, [.ref h0_sums, .ref h0_schedule, .ref h0_inner, .int c_filled, .int c_total])), (h0_inner, .inl (cy 0, 32, .inl c_inner)), (h0_schedule, .inl (cy 1, 64, .inl c_schedule)), (h0_sums, .inl (cy 1, 8, .inl c_sums)), (ha3, .inl (cy 0, n_a3, .inl ca3)), (ha6, .inl (cy 0, n_a6, .inl ca6))] ++ zpO hP_o hP_k cP_kind cP_length cP_usage cP_role cP_uses ++ zpK (cy 0) hP_k cPK) s.heap.size = A at hD hE ⊢
  have hA : ∀ q : Nat, s.heap.size ≤ q → A q := fun q h => by rw [← hAe]; exact Or.inr h
  clear hAe hD0
  have hS : va_S A s.heap s.heap [] := va_S.rf
  have hK := hE.1
  have hw0 := hts (.fieldLink RX7 18 "SealedModule$Sha256" "inner" "[B") (by decide +kernel)
  have hcX7 : ∀ w ∈ u_ws RX7 TX7 5, w ∈ wsX7_mac := (fun _ h => List.mem_cons_of_mem _ (List.mem_append_left _ (List.mem_append_right _ h)))
  have hl := lv_entry ([.ref h0, .ref (hP_k j1), .int p2, .ref ha3, .int p4, .int p5, .ref ha6, .int p7]) (n := 8) (Nat.le_of_ble_eq_true rfl)
  rw [lg_entry_eq]
  generalize (lg_sl ([.ref h0, .ref (hP_k j1), .int p2, .ref ha3, .int p4, .int p5, .ref ha6, .int p7]) ++ List.replicate (8 - (lg_sl ([.ref h0, .ref (hP_k j1), .int p2, .ref ha3, .int p4, .int p5, .ref ha6, .int p7])).length) Slot.unset).toArray = ls at hl ⊢
  replace hl : lv_has ls 8 [(0, .ref h0), (1, .ref (hP_k j1)), (2, .int p2), (3, .ref ha3), (4, .int p4), (5, .int p5), (6, .ref ha6), (7, .int p7)] := hl
  unfold f_X7_mac_1PK at hf
  refine zgo (fun GW hTo hFr => ?_)
  refine hFr _ _ _ ?_
  obtain ⟨H, hHe⟩ : ∃ H, H = s.heap := ⟨_, rfl⟩
  obtain ⟨locs, hLe⟩ : ∃ L : List Loc, L = [] := ⟨_, rfl⟩
  rw [← hHe] at hP
  replace hS : va_S A s.heap H locs := by rw [hHe, hLe]; exact hS
  refine zat hHe.symm hLe.symm ?_
  clear hHe hLe
  refine lv_aload_n (pc := 0) hx hb (zdt_at zt_X7_mac_0 0 rfl) rfl (lv_at hl 0 rfl) ?_
  replace hf := zb_s hf
  obtain ⟨⟨c_filled_1, c_total_2, c_sums_3⟩, hc_, hf⟩ := hf
  refine zcm2 (pc := 1) (rv := none) (va_runV (As := []) (rest := []) ⟨hx, hb, hml, hown, hts⟩ (c_X7_begin l D cy tt H.size h0 h0_sums h0_schedule h0_inner c_filled c_total c_sums c_filled_1 c_total_2 c_sums_3 hc_) (cwV 0 hts gX7_mac_X7_begin rfl rfl rfl (by decide +kernel) ⟨Nat.le_of_ble_eq_true rfl, Nat.le_of_ble_eq_true rfl⟩) ⟨zblind, va_recv hK hP (ci := 9) (q0 := 0) rfl rfl, zpre hE hS (hP.sub [0, 3] rfl) (hD.sub [0, 3] (by decide) rfl) (va_free hD hS hA [0, 3] rfl)⟩ rfl rfl hl.1 rfl (lv_room (Nat.le_of_ble_eq_true rfl)) (zdt_at zt_X7_mac_0 1 rfl) ⟨Nat.zero_le _, Nat.zero_le _⟩) hS hP hD (va_free hD hS hA [0, 3] rfl) [0, 3] rfl (by decide) rfl ?_
  clear hP hD hS hc_
  intro H locs hP hD hS
  replace hP : va_P D vwCl ([(h0, .inr (9, [.ref h0_sums, .ref h0_schedule, .ref h0_inner, .int c_filled_1, .int c_total_2])), (h0_inner, .inl (cy 0, 32, .inl c_inner)), (h0_schedule, .inl (cy 1, 64, .inl c_schedule)), (h0_sums, .inl (cy 1, 8, .inl c_sums_3)), (ha3, .inl (cy 0, n_a3, .inl ca3)), (ha6, .inl (cy 0, n_a6, .inl ca6))] ++ zpO hP_o hP_k cP_kind cP_length cP_usage cP_role cP_uses ++ zpK (cy 0) hP_k cPK) H := hP
  replace hD : va_D A ([(h0, .inr (9, [.ref h0_sums, .ref h0_schedule, .ref h0_inner, .int c_filled_1, .int c_total_2])), (h0_inner, .inl (cy 0, 32, .inl c_inner)), (h0_schedule, .inl (cy 1, 64, .inl c_schedule)), (h0_sums, .inl (cy 1, 8, .inl c_sums_3)), (ha3, .inl (cy 0, n_a3, .inl ca3)), (ha6, .inl (cy 0, n_a6, .inl ca6))] ++ zpO hP_o hP_k cP_kind cP_length cP_usage cP_role cP_uses ++ zpK (cy 0) hP_k cPK) := hD
  refine W.eq (g2 := F0 m 4 ls []) rfl ?_
  refine lv_aload_n (pc := 4) hx hb (zdt_at zt_X7_mac_0 2 rfl) rfl (lv_at hl 0 rfl) ?_
  refine lv_aload_n (pc := 5) hx hb (zdt_at zt_X7_mac_0 3 rfl) rfl (lv_at hl 1 rfl) ?_
  refine lv_iload_n (pc := 6) hx hb (zdt_at zt_X7_mac_0 4 rfl) rfl (lv_at hl 2 rfl) ?_
  refine lv_bipush (pc := 7) (v := (54 : Int32)) hx hb (zdt_at zt_X7_mac_0 5 rfl) (by decide) ?_
  replace hf := zb_s hf
  obtain ⟨⟨c_filled_4, c_total_5, c_schedule_6, c_sums_7⟩, hc_, hf⟩ := hf
  refine zcm2 (pc := 9) (rv := none) (va_runV (As := [.ref (hP_k j1), .int p2, .int (54 : Int32)]) (rest := []) ⟨hx, hb, hml, hown, hts⟩ (c_X7_takePadded_1PK l D cy tt H.size h0 h0_sums h0_schedule h0_inner hP_o hP_k j1 p2 (54 : Int32) c_filled_1 c_total_2 c_schedule c_sums_3 cPK cP_kind cP_length cP_usage cP_role cP_uses c_filled_4 c_total_5 c_schedule_6 c_sums_7 hj_j1 hc_) (cwV 3 hts gX7_mac_X7_takePadded rfl rfl rfl (by decide +kernel) ⟨Nat.le_of_ble_eq_true rfl, Nat.le_of_ble_eq_true rfl⟩) ⟨zblind, va_recv hK hP (ci := 9) (q0 := 0) rfl rfl, zpre hE hS (hP.sub [0, 2, 3, 6, 7, 8, 9, 10, 11, 12, 13, 14, 15, 16, 17, 18, 19, 20, 21, 22, 23, 24, 25, 26, 27, 28, 29, 30, 31, 32, 33, 34, 35, 36, 37] rfl) (hD.sub [0, 2, 3, 6, 7, 8, 9, 10, 11, 12, 13, 14, 15, 16, 17, 18, 19, 20, 21, 22, 23, 24, 25, 26, 27, 28, 29, 30, 31, 32, 33, 34, 35, 36, 37] (by decide) rfl) (va_free hD hS hA [0, 2, 3, 6, 7, 8, 9, 10, 11, 12, 13, 14, 15, 16, 17, 18, 19, 20, 21, 22, 23, 24, 25, 26, 27, 28, 29, 30, 31, 32, 33, 34, 35, 36, 37] rfl)⟩ rfl rfl hl.1 rfl (lv_room (Nat.le_of_ble_eq_true rfl)) (zdt_at zt_X7_mac_0 6 rfl) ⟨Nat.zero_le _, Nat.zero_le _⟩) hS hP hD (va_free hD hS hA [0, 2, 3, 6, 7, 8, 9, 10, 11, 12, 13, 14, 15, 16, 17, 18, 19, 20, 21, 22, 23, 24, 25, 26, 27, 28, 29, 30, 31, 32, 33, 34, 35, 36, 37] rfl) [0, 2, 3, 6, 7, 8, 9, 10, 11, 12, 13, 14, 15, 16, 17, 18, 19, 20, 21, 22, 23, 24, 25, 26, 27, 28, 29, 30, 31, 32, 33, 34, 35, 36, 37] rfl (by decide) rfl ?_
  clear hP hD hS hc_
  intro H locs hP hD hS
  replace hP : va_P D vwCl ([(h0, .inr (9, [.ref h0_sums, .ref h0_schedule, .ref h0_inner, .int c_filled_4, .int c_total_5])), (h0_inner, .inl (cy 0, 32, .inl c_inner)), (h0_schedule, .inl (cy 1, 64, .inl c_schedule_6)), (h0_sums, .inl (cy 1, 8, .inl c_sums_7)), (ha3, .inl (cy 0, n_a3, .inl ca3)), (ha6, .inl (cy 0, n_a6, .inl ca6))] ++ zpO hP_o hP_k cP_kind cP_length cP_usage cP_role cP_uses ++ zpK (cy 0) hP_k cPK) H := hP
  replace hD : va_D A ([(h0, .inr (9, [.ref h0_sums, .ref h0_schedule, .ref h0_inner, .int c_filled_4, .int c_total_5])), (h0_inner, .inl (cy 0, 32, .inl c_inner)), (h0_schedule, .inl (cy 1, 64, .inl c_schedule_6)), (h0_sums, .inl (cy 1, 8, .inl c_sums_7)), (ha3, .inl (cy 0, n_a3, .inl ca3)), (ha6, .inl (cy 0, n_a6, .inl ca6))] ++ zpO hP_o hP_k cP_kind cP_length cP_usage cP_role cP_uses ++ zpK (cy 0) hP_k cPK) := hD
  refine W.eq (g2 := F0 m 12 ls []) rfl ?_
  refine lv_aload_n (pc := 12) hx hb (zdt_at zt_X7_mac_0 7 rfl) rfl (lv_at hl 0 rfl) ?_
  refine lv_aload_n (pc := 13) hx hb (zdt_at zt_X7_mac_0 8 rfl) rfl (lv_at hl 3 rfl) ?_
  refine lv_iload (pc := 14) hx hb (zdt_at zt_X7_mac_0 9 rfl) (lv_at hl 4 rfl) ?_
  refine lv_iload (pc := 16) hx hb (zdt_at zt_X7_mac_0 10 rfl) (lv_at hl 5 rfl) ?_
  replace hf := zb_s hf
  obtain ⟨⟨c_filled_8, c_total_9, c_schedule_10, c_sums_11⟩, hc_, hf⟩ := hf
  refine zcm2 (pc := 18) (rv := none) (va_runV (As := [.ref ha3, .int p4, .int p5]) (rest := []) ⟨hx, hb, hml, hown, hts⟩ (c_X7_take l D cy tt H.size h0 h0_sums h0_schedule h0_inner ha3 n_a3 p4 p5 c_filled_4 c_total_5 c_schedule_6 c_sums_7 ca3 c_filled_8 c_total_9 c_schedule_10 c_sums_11 hc_) (cwV 3 hts gX7_mac_X7_take rfl rfl rfl (by decide +kernel) ⟨Nat.le_of_ble_eq_true rfl, Nat.le_of_ble_eq_true rfl⟩) ⟨zblind, va_recv hK hP (ci := 9) (q0 := 0) rfl rfl, zpre hE hS (hP.sub [0, 2, 3, 4] rfl) (hD.sub [0, 2, 3, 4] (by decide) rfl) (va_free hD hS hA [0, 2, 3, 4] rfl)⟩ rfl rfl hl.1 rfl (lv_room (Nat.le_of_ble_eq_true rfl)) (zdt_at zt_X7_mac_0 11 rfl) ⟨Nat.zero_le _, Nat.zero_le _⟩) hS hP hD (va_free hD hS hA [0, 2, 3, 4] rfl) [0, 2, 3, 4] rfl (by decide) rfl ?_
  clear hP hD hS hc_
  intro H locs hP hD hS
  replace hP : va_P D vwCl ([(h0, .inr (9, [.ref h0_sums, .ref h0_schedule, .ref h0_inner, .int c_filled_8, .int c_total_9])), (h0_inner, .inl (cy 0, 32, .inl c_inner)), (h0_schedule, .inl (cy 1, 64, .inl c_schedule_10)), (h0_sums, .inl (cy 1, 8, .inl c_sums_11)), (ha3, .inl (cy 0, n_a3, .inl ca3)), (ha6, .inl (cy 0, n_a6, .inl ca6))] ++ zpO hP_o hP_k cP_kind cP_length cP_usage cP_role cP_uses ++ zpK (cy 0) hP_k cPK) H := hP
  replace hD : va_D A ([(h0, .inr (9, [.ref h0_sums, .ref h0_schedule, .ref h0_inner, .int c_filled_8, .int c_total_9])), (h0_inner, .inl (cy 0, 32, .inl c_inner)), (h0_schedule, .inl (cy 1, 64, .inl c_schedule_10)), (h0_sums, .inl (cy 1, 8, .inl c_sums_11)), (ha3, .inl (cy 0, n_a3, .inl ca3)), (ha6, .inl (cy 0, n_a6, .inl ca6))] ++ zpO hP_o hP_k cP_kind cP_length cP_usage cP_role cP_uses ++ zpK (cy 0) hP_k cPK) := hD
  refine W.eq (g2 := F0 m 21 ls []) rfl ?_
  refine lv_aload_n (pc := 21) hx hb (zdt_at zt_X7_mac_0 12 rfl) rfl (lv_at hl 0 rfl) ?_
  refine lv_aload_n (pc := 22) hx hb (zdt_at zt_X7_mac_0 13 rfl) rfl (lv_at hl 0 rfl) ?_
  refine va_get (pc := 23) (D := D) (ci := 9) (v := .ref h0_inner) (C := RX7) (T := TX7) (N := 5) hx hb hts hcX7 hown hK hP 0 rfl rfl 2 (by decide) hw0 (fun _ h9 => h9) rfl (zdt_at zt_X7_mac_0 14 rfl) ?_
  refine lv_iconst (pc := 26) (v := (0 : Int32)) hx hb (zdt_at zt_X7_mac_0 15 rfl) (by decide) ?_
  replace hf := zb_s hf
  obtain ⟨⟨c_filled_12, c_inner_13, c_schedule_14, c_sums_15⟩, hc_, hf⟩ := hf
  refine zcm2 (pc := 27) (rv := none) (va_runV (As := [.ref h0_inner, .int (0 : Int32)]) (rest := []) ⟨hx, hb, hml, hown, hts⟩ (c_X7_end_1t_inner l D cy tt H.size h0 h0_sums h0_schedule h0_inner (0 : Int32) c_filled_8 c_total_9 c_inner c_schedule_10 c_sums_11 c_filled_12 c_inner_13 c_schedule_14 c_sums_15 hc_) (cwV 2 hts gX7_mac_X7_end rfl rfl rfl (by decide +kernel) ⟨Nat.le_of_ble_eq_true rfl, Nat.le_of_ble_eq_true rfl⟩) ⟨zblind, va_recv hK hP (ci := 9) (q0 := 0) rfl rfl, zpre hE hS (hP.sub [0, 1, 2, 3] rfl) (hD.sub [0, 1, 2, 3] (by decide) rfl) (va_free hD hS hA [0, 1, 2, 3] rfl)⟩ rfl rfl hl.1 rfl (lv_room (Nat.le_of_ble_eq_true rfl)) (zdt_at zt_X7_mac_0 16 rfl) ⟨Nat.zero_le _, Nat.zero_le _⟩) hS hP hD (va_free hD hS hA [0, 1, 2, 3] rfl) [0, 1, 2, 3] rfl (by decide) rfl ?_
  clear hP hD hS hc_
  intro H locs hP hD hS
  replace hP : va_P D vwCl ([(h0, .inr (9, [.ref h0_sums, .ref h0_schedule, .ref h0_inner, .int c_filled_12, .int c_total_9])), (h0_inner, .inl (cy 0, 32, .inl c_inner_13)), (h0_schedule, .inl (cy 1, 64, .inl c_schedule_14)), (h0_sums, .inl (cy 1, 8, .inl c_sums_15)), (ha3, .inl (cy 0, n_a3, .inl ca3)), (ha6, .inl (cy 0, n_a6, .inl ca6))] ++ zpO hP_o hP_k cP_kind cP_length cP_usage cP_role cP_uses ++ zpK (cy 0) hP_k cPK) H := hP
  replace hD : va_D A ([(h0, .inr (9, [.ref h0_sums, .ref h0_schedule, .ref h0_inner, .int c_filled_12, .int c_total_9])), (h0_inner, .inl (cy 0, 32, .inl c_inner_13)), (h0_schedule, .inl (cy 1, 64, .inl c_schedule_14)), (h0_sums, .inl (cy 1, 8, .inl c_sums_15)), (ha3, .inl (cy 0, n_a3, .inl ca3)), (ha6, .inl (cy 0, n_a6, .inl ca6))] ++ zpO hP_o hP_k cP_kind cP_length cP_usage cP_role cP_uses ++ zpK (cy 0) hP_k cPK) := hD
  refine W.eq (g2 := F0 m 30 ls []) rfl ?_
  refine lv_aload_n (pc := 30) hx hb (zdt_at zt_X7_mac_0 17 rfl) rfl (lv_at hl 0 rfl) ?_
  replace hf := zb_s hf
  obtain ⟨⟨c_filled_16, c_total_17, c_sums_18⟩, hc_, hf⟩ := hf
  refine zcm2 (pc := 31) (rv := none) (va_runV (As := []) (rest := []) ⟨hx, hb, hml, hown, hts⟩ (c_X7_begin l D cy tt H.size h0 h0_sums h0_schedule h0_inner c_filled_12 c_total_9 c_sums_15 c_filled_16 c_total_17 c_sums_18 hc_) (cwV 0 hts gX7_mac_X7_begin rfl rfl rfl (by decide +kernel) ⟨Nat.le_of_ble_eq_true rfl, Nat.le_of_ble_eq_true rfl⟩) ⟨zblind, va_recv hK hP (ci := 9) (q0 := 0) rfl rfl, zpre hE hS (hP.sub [0, 3] rfl) (hD.sub [0, 3] (by decide) rfl) (va_free hD hS hA [0, 3] rfl)⟩ rfl rfl hl.1 rfl (lv_room (Nat.le_of_ble_eq_true rfl)) (zdt_at zt_X7_mac_0 18 rfl) ⟨Nat.zero_le _, Nat.zero_le _⟩) hS hP hD (va_free hD hS hA [0, 3] rfl) [0, 3] rfl (by decide) rfl ?_
  clear hP hD hS hc_
  intro H locs hP hD hS
  replace hP : va_P D vwCl ([(h0, .inr (9, [.ref h0_sums, .ref h0_schedule, .ref h0_inner, .int c_filled_16, .int c_total_17])), (h0_inner, .inl (cy 0, 32, .inl c_inner_13)), (h0_schedule, .inl (cy 1, 64, .inl c_schedule_14)), (h0_sums, .inl (cy 1, 8, .inl c_sums_18)), (ha3, .inl (cy 0, n_a3, .inl ca3)), (ha6, .inl (cy 0, n_a6, .inl ca6))] ++ zpO hP_o hP_k cP_kind cP_length cP_usage cP_role cP_uses ++ zpK (cy 0) hP_k cPK) H := hP
  replace hD : va_D A ([(h0, .inr (9, [.ref h0_sums, .ref h0_schedule, .ref h0_inner, .int c_filled_16, .int c_total_17])), (h0_inner, .inl (cy 0, 32, .inl c_inner_13)), (h0_schedule, .inl (cy 1, 64, .inl c_schedule_14)), (h0_sums, .inl (cy 1, 8, .inl c_sums_18)), (ha3, .inl (cy 0, n_a3, .inl ca3)), (ha6, .inl (cy 0, n_a6, .inl ca6))] ++ zpO hP_o hP_k cP_kind cP_length cP_usage cP_role cP_uses ++ zpK (cy 0) hP_k cPK) := hD
  refine W.eq (g2 := F0 m 34 ls []) rfl ?_
  refine lv_aload_n (pc := 34) hx hb (zdt_at zt_X7_mac_0 19 rfl) rfl (lv_at hl 0 rfl) ?_
  refine lv_aload_n (pc := 35) hx hb (zdt_at zt_X7_mac_0 20 rfl) rfl (lv_at hl 1 rfl) ?_
  refine lv_iload_n (pc := 36) hx hb (zdt_at zt_X7_mac_0 21 rfl) rfl (lv_at hl 2 rfl) ?_
  refine lv_bipush (pc := 37) (v := (92 : Int32)) hx hb (zdt_at zt_X7_mac_0 22 rfl) (by decide) ?_
  replace hf := zb_s hf
  obtain ⟨⟨c_filled_19, c_total_20, c_schedule_21, c_sums_22⟩, hc_, hf⟩ := hf
  refine zcm2 (pc := 39) (rv := none) (va_runV (As := [.ref (hP_k j1), .int p2, .int (92 : Int32)]) (rest := []) ⟨hx, hb, hml, hown, hts⟩ (c_X7_takePadded_1PK l D cy tt H.size h0 h0_sums h0_schedule h0_inner hP_o hP_k j1 p2 (92 : Int32) c_filled_16 c_total_17 c_schedule_14 c_sums_18 cPK cP_kind cP_length cP_usage cP_role cP_uses c_filled_19 c_total_20 c_schedule_21 c_sums_22 hj_j1 hc_) (cwV 3 hts gX7_mac_X7_takePadded rfl rfl rfl (by decide +kernel) ⟨Nat.le_of_ble_eq_true rfl, Nat.le_of_ble_eq_true rfl⟩) ⟨zblind, va_recv hK hP (ci := 9) (q0 := 0) rfl rfl, zpre hE hS (hP.sub [0, 2, 3, 6, 7, 8, 9, 10, 11, 12, 13, 14, 15, 16, 17, 18, 19, 20, 21, 22, 23, 24, 25, 26, 27, 28, 29, 30, 31, 32, 33, 34, 35, 36, 37] rfl) (hD.sub [0, 2, 3, 6, 7, 8, 9, 10, 11, 12, 13, 14, 15, 16, 17, 18, 19, 20, 21, 22, 23, 24, 25, 26, 27, 28, 29, 30, 31, 32, 33, 34, 35, 36, 37] (by decide) rfl) (va_free hD hS hA [0, 2, 3, 6, 7, 8, 9, 10, 11, 12, 13, 14, 15, 16, 17, 18, 19, 20, 21, 22, 23, 24, 25, 26, 27, 28, 29, 30, 31, 32, 33, 34, 35, 36, 37] rfl)⟩ rfl rfl hl.1 rfl (lv_room (Nat.le_of_ble_eq_true rfl)) (zdt_at zt_X7_mac_0 23 rfl) ⟨Nat.zero_le _, Nat.zero_le _⟩) hS hP hD (va_free hD hS hA [0, 2, 3, 6, 7, 8, 9, 10, 11, 12, 13, 14, 15, 16, 17, 18, 19, 20, 21, 22, 23, 24, 25, 26, 27, 28, 29, 30, 31, 32, 33, 34, 35, 36, 37] rfl) [0, 2, 3, 6, 7, 8, 9, 10, 11, 12, 13, 14, 15, 16, 17, 18, 19, 20, 21, 22, 23, 24, 25, 26, 27, 28, 29, 30, 31, 32, 33, 34, 35, 36, 37] rfl (by decide) rfl ?_
  clear hP hD hS hc_
  intro H locs hP hD hS
  replace hP : va_P D vwCl ([(h0, .inr (9, [.ref h0_sums, .ref h0_schedule, .ref h0_inner, .int c_filled_19, .int c_total_20])), (h0_inner, .inl (cy 0, 32, .inl c_inner_13)), (h0_schedule, .inl (cy 1, 64, .inl c_schedule_21)), (h0_sums, .inl (cy 1, 8, .inl c_sums_22)), (ha3, .inl (cy 0, n_a3, .inl ca3)), (ha6, .inl (cy 0, n_a6, .inl ca6))] ++ zpO hP_o hP_k cP_kind cP_length cP_usage cP_role cP_uses ++ zpK (cy 0) hP_k cPK) H := hP
  replace hD : va_D A ([(h0, .inr (9, [.ref h0_sums, .ref h0_schedule, .ref h0_inner, .int c_filled_19, .int c_total_20])), (h0_inner, .inl (cy 0, 32, .inl c_inner_13)), (h0_schedule, .inl (cy 1, 64, .inl c_schedule_21)), (h0_sums, .inl (cy 1, 8, .inl c_sums_22)), (ha3, .inl (cy 0, n_a3, .inl ca3)), (ha6, .inl (cy 0, n_a6, .inl ca6))] ++ zpO hP_o hP_k cP_kind cP_length cP_usage cP_role cP_uses ++ zpK (cy 0) hP_k cPK) := hD
  refine W.eq (g2 := F0 m 42 ls []) rfl ?_
  refine lv_aload_n (pc := 42) hx hb (zdt_at zt_X7_mac_0 24 rfl) rfl (lv_at hl 0 rfl) ?_
  refine lv_aload_n (pc := 43) hx hb (zdt_at zt_X7_mac_0 25 rfl) rfl (lv_at hl 0 rfl) ?_
  refine va_get (pc := 44) (D := D) (ci := 9) (v := .ref h0_inner) (C := RX7) (T := TX7) (N := 5) hx hb hts hcX7 hown hK hP 0 rfl rfl 2 (by decide) hw0 (fun _ h9 => h9) rfl (zdt_at zt_X7_mac_0 26 rfl) ?_
  refine lv_iconst (pc := 47) (v := (0 : Int32)) hx hb (zdt_at zt_X7_mac_0 27 rfl) (by decide) ?_
  refine lv_bipush (pc := 48) (v := (32 : Int32)) hx hb (zdt_at zt_X7_mac_0 28 rfl) (by decide) ?_
  replace hf := zb_s hf
  obtain ⟨⟨c_filled_23, c_total_24, c_schedule_25, c_sums_26⟩, hc_, hf⟩ := hf
  refine zcm2 (pc := 50) (rv := none) (va_runV (As := [.ref h0_inner, .int (0 : Int32), .int (32 : Int32)]) (rest := []) ⟨hx, hb, hml, hown, hts⟩ (c_X7_take_1t_inner l D cy tt H.size h0 h0_sums h0_schedule h0_inner (0 : Int32) (32 : Int32) c_filled_19 c_total_20 c_inner_13 c_schedule_21 c_sums_22 c_filled_23 c_total_24 c_schedule_25 c_sums_26 hc_) (cwV 3 hts gX7_mac_X7_take rfl rfl rfl (by decide +kernel) ⟨Nat.le_of_ble_eq_true rfl, Nat.le_of_ble_eq_true rfl⟩) ⟨zblind, va_recv hK hP (ci := 9) (q0 := 0) rfl rfl, zpre hE hS (hP.sub [0, 1, 2, 3] rfl) (hD.sub [0, 1, 2, 3] (by decide) rfl) (va_free hD hS hA [0, 1, 2, 3] rfl)⟩ rfl rfl hl.1 rfl (lv_room (Nat.le_of_ble_eq_true rfl)) (zdt_at zt_X7_mac_0 29 rfl) ⟨Nat.zero_le _, Nat.zero_le _⟩) hS hP hD (va_free hD hS hA [0, 1, 2, 3] rfl) [0, 1, 2, 3] rfl (by decide) rfl ?_
  clear hP hD hS hc_
  intro H locs hP hD hS
  replace hP : va_P D vwCl ([(h0, .inr (9, [.ref h0_sums, .ref h0_schedule, .ref h0_inner, .int c_filled_23, .int c_total_24])), (h0_inner, .inl (cy 0, 32, .inl c_inner_13)), (h0_schedule, .inl (cy 1, 64, .inl c_schedule_25)), (h0_sums, .inl (cy 1, 8, .inl c_sums_26)), (ha3, .inl (cy 0, n_a3, .inl ca3)), (ha6, .inl (cy 0, n_a6, .inl ca6))] ++ zpO hP_o hP_k cP_kind cP_length cP_usage cP_role cP_uses ++ zpK (cy 0) hP_k cPK) H := hP
  replace hD : va_D A ([(h0, .inr (9, [.ref h0_sums, .ref h0_schedule, .ref h0_inner, .int c_filled_23, .int c_total_24])), (h0_inner, .inl (cy 0, 32, .inl c_inner_13)), (h0_schedule, .inl (cy 1, 64, .inl c_schedule_25)), (h0_sums, .inl (cy 1, 8, .inl c_sums_26)), (ha3, .inl (cy 0, n_a3, .inl ca3)), (ha6, .inl (cy 0, n_a6, .inl ca6))] ++ zpO hP_o hP_k cP_kind cP_length cP_usage cP_role cP_uses ++ zpK (cy 0) hP_k cPK) := hD
  refine W.eq (g2 := F0 m 53 ls []) rfl ?_
  refine lv_aload_n (pc := 53) hx hb (zdt_at zt_X7_mac_0 30 rfl) rfl (lv_at hl 0 rfl) ?_
  refine lv_aload (pc := 54) hx hb (zdt_at zt_X7_mac_0 31 rfl) (lv_at hl 6 rfl) ?_
  refine lv_iload (pc := 56) hx hb (zdt_at zt_X7_mac_0 32 rfl) (lv_at hl 7 rfl) ?_
  replace hf := zb_s hf
  obtain ⟨⟨c_filled_27, c_schedule_28, c_sums_29, ca6_30⟩, hc_, hf⟩ := hf
  refine zcm2 (pc := 58) (rv := none) (va_runV (As := [.ref ha6, .int p7]) (rest := []) ⟨hx, hb, hml, hown, hts⟩ (c_X7_end l D cy tt H.size h0 h0_sums h0_schedule h0_inner ha6 n_a6 p7 c_filled_23 c_total_24 c_schedule_25 c_sums_26 ca6 c_filled_27 c_schedule_28 c_sums_29 ca6_30 hc_) (cwV 2 hts gX7_mac_X7_end rfl rfl rfl (by decide +kernel) ⟨Nat.le_of_ble_eq_true rfl, Nat.le_of_ble_eq_true rfl⟩) ⟨zblind, va_recv hK hP (ci := 9) (q0 := 0) rfl rfl, zpre hE hS (hP.sub [0, 2, 3, 5] rfl) (hD.sub [0, 2, 3, 5] (by decide) rfl) (va_free hD hS hA [0, 2, 3, 5] rfl)⟩ rfl rfl hl.1 rfl (lv_room (Nat.le_of_ble_eq_true rfl)) (zdt_at zt_X7_mac_0 33 rfl) ⟨Nat.zero_le _, Nat.zero_le _⟩) hS hP hD (va_free hD hS hA [0, 2, 3, 5] rfl) [0, 2, 3, 5] rfl (by decide) rfl ?_
  clear hP hD hS hc_
  intro H locs hP hD hS
  replace hP : va_P D vwCl ([(h0, .inr (9, [.ref h0_sums, .ref h0_schedule, .ref h0_inner, .int c_filled_27, .int c_total_24])), (h0_inner, .inl (cy 0, 32, .inl c_inner_13)), (h0_schedule, .inl (cy 1, 64, .inl c_schedule_28)), (h0_sums, .inl (cy 1, 8, .inl c_sums_29)), (ha3, .inl (cy 0, n_a3, .inl ca3)), (ha6, .inl (cy 0, n_a6, .inl ca6_30))] ++ zpO hP_o hP_k cP_kind cP_length cP_usage cP_role cP_uses ++ zpK (cy 0) hP_k cPK) H := hP
  replace hD : va_D A ([(h0, .inr (9, [.ref h0_sums, .ref h0_schedule, .ref h0_inner, .int c_filled_27, .int c_total_24])), (h0_inner, .inl (cy 0, 32, .inl c_inner_13)), (h0_schedule, .inl (cy 1, 64, .inl c_schedule_28)), (h0_sums, .inl (cy 1, 8, .inl c_sums_29)), (ha3, .inl (cy 0, n_a3, .inl ca3)), (ha6, .inl (cy 0, n_a6, .inl ca6_30))] ++ zpO hP_o hP_k cP_kind cP_length cP_usage cP_role cP_uses ++ zpK (cy 0) hP_k cPK) := hD
  refine W.eq (g2 := F0 m 61 ls []) rfl ?_
  cases hf
  exact W.vret (pc := 61) hx hb hr (fun t ht hW => ⟨rfl, ⟨by rw [ht]; exact hP, hD⟩, hS.F ht⟩) hS.2.2 (zdt_at zt_X7_mac_0 34 rfl)
def b_X9_deriveBytes_17 (j1 : Nat) (p2 : Int32) (p3 : Int32) (cP_length : Nat → Int32) (cPK : Nat → Nat → Int32) (K_16 : (Nat → Int32) → (Nat → Int32) → Int32 → (Nat → Int32) → (Nat → Int32) → (Nat → Int32) → Int32 → Option ((Nat → Int32) × (Nat → Int32) × Int32 × Int32 × (Nat → Int32) × (Nat → Int32) × (Nat → Int32))) (self_17 : (Int32 × (Nat → Int32) × (Nat → Int32) × Int32 × (Nat → Int32) × (Nat → Int32) × (Nat → Int32) × Int32) → Option ((Nat → Int32) × (Nat → Int32) × Int32 × Int32 × (Nat → Int32) × (Nat → Int32) × (Nat → Int32))) (z : Int32 × (Nat → Int32) × (Nat → Int32) × Int32 × (Nat → Int32) × (Nat → Int32) × (Nat → Int32) × Int32) : Option ((Nat → Int32) × (Nat → Int32) × Int32 × Int32 × (Nat → Int32) × (Nat → Int32) × (Nat → Int32)) :=
  match z with
  | (i_1, c_message_2, c_secret_3, c_sha_filled_4, c_sha_inner_5, c_sha_schedule_6, c_sha_sums_7, c_sha_total_8) => if p2 ≤ i_1 then K_16 c_message_2 c_secret_3 c_sha_filled_4 c_sha_inner_5 c_sha_schedule_6 c_sha_sums_7 c_sha_total_8 else zk (¬ (32 : Int32) = 0) ((f_X9_putInt 68 (0 : Int32) ((i_1 / (32 : Int32)) + (1 : Int32)) c_message_2).bind (fun c_message_20 => (f_X7_mac_1PK 68 80 j1 (cP_length j1) (0 : Int32) ((4 : Int32) + p3) i_1 c_sha_filled_4 c_sha_total_8 c_sha_inner_5 c_sha_schedule_6 c_sha_sums_7 c_message_20 c_secret_3 cPK).bind (fun (c_sha_filled_21, c_sha_total_22, c_sha_inner_23, c_sha_schedule_24, c_sha_sums_25, c_secret_26) => self_17 ((i_1 + (32 : Int32)), c_message_20, c_secret_26, c_sha_filled_21, c_sha_inner_23, c_sha_schedule_24, c_sha_sums_25, c_sha_total_22))))
def f_X9_deriveBytes (j1 : Nat) (p2 : Int32) (p3 : Int32) (c_buffer : Nat → Int32) (c_message : Nat → Int32) (c_secret : Nat → Int32) (c_sha_filled : Int32) (c_sha_total : Int32) (c_sha_inner : Nat → Int32) (c_sha_schedule : Nat → Int32) (c_sha_sums : Nat → Int32) (cP_length : Nat → Int32) (cPK : Nat → Nat → Int32) : Option ((Nat → Int32) × (Nat → Int32) × Int32 × Int32 × (Nat → Int32) × (Nat → Int32) × (Nat → Int32)) :=
  zk (¬ (0 : Int32) < 0 ∧ ¬ (4 : Int32) < 0 ∧ ¬ p3 < 0 ∧ (0 : Int32).toNatClampNeg + p3.toNatClampNeg ≤ 512 ∧ (4 : Int32).toNatClampNeg + p3.toNatClampNeg ≤ 68 ∧ (∀ i, i < p3.toNatClampNeg → fits .byte (.int (c_buffer ((0 : Int32).toNatClampNeg + i))) = true)) (zj (fun (c_message_9 : Nat → Int32) (c_secret_10 : Nat → Int32) (c_sha_filled_11 : Int32) (c_sha_inner_12 : Nat → Int32) (c_sha_schedule_13 : Nat → Int32) (c_sha_sums_14 : Nat → Int32) (c_sha_total_15 : Int32) => some (c_message_9, c_secret_10, c_sha_filled_11, c_sha_total_15, c_sha_inner_12, c_sha_schedule_13, c_sha_sums_14)) (fun K_16 => zl (b_X9_deriveBytes_17 j1 p2 p3 cP_length cPK K_16) 2000 ((0 : Int32), (va_cpy c_buffer c_message (0 : Int32).toNatClampNeg (4 : Int32).toNatClampNeg p3.toNatClampNeg), c_secret, c_sha_filled, c_sha_inner, c_sha_schedule, c_sha_sums, c_sha_total)))
set_option maxHeartbeats 4000000 in
set_option maxRecDepth 100000 in
theorem c_X9_deriveBytes (l : Launch) (D : va_G) (cy : Nat → ClassId) (tt : Nat → Nat) (sz : Nat) (h0 : Nat) (h0_buffer : Nat) (h0_slots : Nat) (h0_counters : Nat) (h0_officerPin : Nat) (h0_userPin : Nat) (h0_words : Nat) (h0_sha : Nat) (h0_stream : Nat) (h0_aes : Nat) (h0_modes : Nat) (h0_gcm : Nat) (h0_generator : Nat) (h0_tests : Nat) (h0_message : Nat) (h0_secret : Nat) (h0_sha_sums : Nat) (h0_sha_schedule : Nat) (h0_sha_inner : Nat) (hP_o : Nat → Nat) (hP_k : Nat → Nat) (j1 : Nat) (p2 : Int32) (p3 : Int32) (c_buffer : Nat → Int32) (c_message : Nat → Int32) (c_secret : Nat → Int32) (c_sha_filled : Int32) (c_sha_total : Int32) (c_sha_inner : Nat → Int32) (c_sha_schedule : Nat → Int32) (c_sha_sums : Nat → Int32) (cP_length : Nat → Int32) (cPK : Nat → Nat → Int32) (c_state : Int32) (c_testsDone : Int32) (c_faults : Int32) (c_streamBegun : Int32) (cP_kind : Nat → Int32) (cP_usage : Nat → Int32) (cP_role : Nat → Int32) (cP_uses : Nat → Int32) (c_message' : Nat → Int32) (c_secret' : Nat → Int32) (c_sha_filled' : Int32) (c_sha_total' : Int32) (c_sha_inner' : Nat → Int32) (c_sha_schedule' : Nat → Int32) (c_sha_sums' : Nat → Int32) (hj_j1 : j1 < 16) (hf : f_X9_deriveBytes j1 p2 p3 c_buffer c_message c_secret c_sha_filled c_sha_total c_sha_inner c_sha_schedule c_sha_sums cP_length cPK = some (c_message', c_secret', c_sha_filled', c_sha_total', c_sha_inner', c_sha_schedule', c_sha_sums')) : Met l yX9_deriveBytes wsX9_deriveBytes ({ frames := 4, cells := 0, slots := 0, locals := 111 }) (zPc D cy tt sz [.ref h0, .ref (hP_o j1), .int p2, .int p3] ([(h0, .inr (11, [.ref h0_buffer, .ref h0_slots, .ref h0_counters, .ref h0_officerPin, .ref h0_userPin, .ref h0_words, .ref h0_sha, .ref h0_stream, .ref h0_aes, .ref h0_modes, .ref h0_gcm, .ref h0_generator, .ref h0_tests, .ref h0_message, .ref h0_secret, .int c_state, .int c_testsDone, .int c_faults, .int c_streamBegun])), (h0_buffer, .inl (cy 0, 512, .inl c_buffer)), (h0_message, .inl (cy 0, 68, .inl c_message)), (h0_secret, .inl (cy 0, 80, .inl c_secret)), (h0_sha, .inr (9, [.ref h0_sha_sums, .ref h0_sha_schedule, .ref h0_sha_inner, .int c_sha_filled, .int c_sha_total])), (h0_sha_inner, .inl (cy 0, 32, .inl c_sha_inner)), (h0_sha_schedule, .inl (cy 1, 64, .inl c_sha_schedule)), (h0_sha_sums, .inl (cy 1, 8, .inl c_sha_sums))] ++ zpO hP_o hP_k cP_kind cP_length cP_usage cP_role cP_uses ++ zpK (cy 0) hP_k cPK)) (zQ D none ([(h0, .inr (11, [.ref h0_buffer, .ref h0_slots, .ref h0_counters, .ref h0_officerPin, .ref h0_userPin, .ref h0_words, .ref h0_sha, .ref h0_stream, .ref h0_aes, .ref h0_modes, .ref h0_gcm, .ref h0_generator, .ref h0_tests, .ref h0_message, .ref h0_secret, .int c_state, .int c_testsDone, .int c_faults, .int c_streamBegun])), (h0_buffer, .inl (cy 0, 512, .inl c_buffer)), (h0_message, .inl (cy 0, 68, .inl c_message')), (h0_secret, .inl (cy 0, 80, .inl c_secret')), (h0_sha, .inr (9, [.ref h0_sha_sums, .ref h0_sha_schedule, .ref h0_sha_inner, .int c_sha_filled', .int c_sha_total'])), (h0_sha_inner, .inl (cy 0, 32, .inl c_sha_inner')), (h0_sha_schedule, .inl (cy 1, 64, .inl c_sha_schedule')), (h0_sha_sums, .inl (cy 1, 8, .inl c_sha_sums'))] ++ zpO hP_o hP_k cP_kind cP_length cP_usage cP_role cP_uses ++ zpK (cy 0) hP_k cPK) (va_A ([(h0, .inr (11, [.ref h0_buffer, .ref h0_slots, .ref h0_counters, .ref h0_officerPin, .ref h0_userPin, .ref h0_words, .ref h0_sha, .ref h0_stream, .ref h0_aes, .ref h0_modes, .ref h0_gcm, .ref h0_generator, .ref h0_tests, .ref h0_message, .ref h0_secret, .int c_state, .int c_testsDone, .int c_faults, .int c_streamBegun])), (h0_buffer, .inl (cy 0, 512, .inl c_buffer)), (h0_message, .inl (cy 0, 68, .inl c_message)), (h0_secret, .inl (cy 0, 80, .inl c_secret)), (h0_sha, .inr (9, [.ref h0_sha_sums, .ref h0_sha_schedule, .ref h0_sha_inner, .int c_sha_filled, .int c_sha_total])), (h0_sha_inner, .inl (cy 0, 32, .inl c_sha_inner)), (h0_sha_schedule, .inl (cy 1, 64, .inl c_sha_schedule)), (h0_sha_sums, .inl (cy 1, 8, .inl c_sha_sums))] ++ zpO hP_o hP_k cP_kind cP_length cP_usage cP_role cP_uses ++ zpK (cy 0) hP_k cPK) sz)) 0 0 (va_A ([(h0, .inr (11, [.ref h0_buffer, .ref h0_slots, .ref h0_counters, .ref h0_officerPin, .ref h0_userPin, .ref h0_words, .ref h0_sha, .ref h0_stream, .ref h0_aes, .ref h0_modes, .ref h0_gcm, .ref h0_generator, .ref h0_tests, .ref h0_message, .ref h0_secret, .int c_state, .int c_testsDone, .int c_faults, .int c_streamBegun])), (h0_buffer, .inl (cy 0, 512, .inl c_buffer)), (h0_message, .inl (cy 0, 68, .inl c_message)), (h0_secret, .inl (cy 0, 80, .inl c_secret)), (h0_sha, .inr (9, [.ref h0_sha_sums, .ref h0_sha_schedule, .ref h0_sha_inner, .int c_sha_filled, .int c_sha_total])), (h0_sha_inner, .inl (cy 0, 32, .inl c_sha_inner)), (h0_sha_schedule, .inl (cy 1, 64, .inl c_sha_schedule)), (h0_sha_sums, .inl (cy 1, 8, .inl c_sha_sums))] ++ zpO hP_o hP_k cP_kind cP_length cP_usage cP_role cP_uses ++ zpK (cy 0) hP_k cPK) sz) := by
  refine Met.ofW (cc := cX9_deriveBytes) (maxL := 5) (ret := none) (by decide) rfl ?_
  intro p e s m args below meth c s₁ B hml hv
  obtain ⟨rfl, rfl, hP, hD0, hE⟩ := hv
  have hx := B.exec
  have hb := B.bytes
  have hr := B.returns
  have hts := atoms_spec (ws := wsX9_deriveBytes) B.pre
  have hown : s.vm.findClass RX9 = some m.cls := findClass_of_methodNamed B.named
  have hlocks := B.notSynchronized
  clear B
  have hD := hD0.self (sz := s.heap.size)
  generalize hAe : va_A ([(h0, .inr (11, [.ref h0_buffer, .ref h0_slots, .ref h0_counters, .ref h0_officerPin, .ref h0_userPin, .ref h0_words, .ref h0_sha, .ref h0_stream, .ref h0_aes, .ref h0_modes, .ref h0_gcm, .ref h0_generator, .ref h0_tests, .ref h0_message, .ref h0_secret, .int c_state, .int c_testsDone, .int c_faults, .int c_streamBegun])), (h0_buffer, .inl (cy 0, 512, .inl c_buffer)), (h0_message, .inl (cy 0, 68, .inl c_message)), (h0_secret, .inl (cy 0, 80, .inl c_secret)), (h0_sha, .inr (9, [.ref h0_sha_sums, .ref h0_sha_schedule, .ref h0_sha_inner, .int c_sha_filled, .int c_sha_total])), (h0_sha_inner, .inl (cy 0, 32, .inl c_sha_inner)), (h0_sha_schedule, .inl (cy 1, 64, .inl c_sha_schedule)), (h0_sha_sums, .inl (cy 1, 8, .inl c_sha_sums))] ++ zpO hP_o hP_k cP_kind cP_length cP_usage cP_role cP_uses ++ zpK (cy 0) hP_k cPK) s.heap.size = A at hD hE ⊢
  have hA : ∀ q : Nat, s.heap.size ≤ q → A q := fun q h => by rw [← hAe]; exact Or.inr h
  clear hAe hD0
  have hS : va_S A s.heap s.heap [] := va_S.rf
  have hK := hE.1
  have hw0 := hts (.fieldLink RX9 9 "SealedModule" "buffer" "[B") (by decide +kernel)
  have hw1 := hts (.fieldLink RX9 95 "SealedModule" "message" "[B") (by decide +kernel)
  have hw2 := hts (.methodLink RX9 276 arraycopyName) (by decide +kernel)
  have hw3 := hts (.native arraycopyName) (by decide +kernel)
  have hw4 := hts (.static arraycopyName) (by decide +kernel)
  have hw5 := hts (.initialized "java/lang/System") (by decide +kernel)
  have hw6 := hts (.fieldLink RX9 45 "SealedModule" "sha" "LSealedModule$Sha256;") (by decide +kernel)
  have hw7 := hts (.fieldLink RX9 286 "SealedModule$Slot" "key" "[B") (by decide +kernel)
  have hw8 := hts (.fieldLink RX9 207 "SealedModule$Slot" "length" "I") (by decide +kernel)
  have hw9 := hts (.fieldLink RX9 98 "SealedModule" "secret" "[B") (by decide +kernel)
  have hcX9 : ∀ w ∈ u_ws RX9 TX9 19, w ∈ wsX9_deriveBytes := (fun _ h => List.mem_cons_of_mem _ (List.mem_append_left _ (List.mem_append_left _ (List.mem_append_left _ (List.mem_append_right _ h)))))
  have hcX8 : ∀ w ∈ u_ws RX8 TX8 6, w ∈ wsX9_deriveBytes := (fun _ h => List.mem_cons_of_mem _ (List.mem_append_left _ (List.mem_append_left _ (List.mem_append_right _ h))))
  have hl := lv_entry ([.ref h0, .ref (hP_o j1), .int p2, .int p3]) (n := 5) (Nat.le_of_ble_eq_true rfl)
  rw [lg_entry_eq]
  generalize (lg_sl ([.ref h0, .ref (hP_o j1), .int p2, .int p3]) ++ List.replicate (5 - (lg_sl ([.ref h0, .ref (hP_o j1), .int p2, .int p3])).length) Slot.unset).toArray = ls at hl ⊢
  replace hl : lv_has ls 5 [(0, .ref h0), (1, .ref (hP_o j1)), (2, .int p2), (3, .int p3)] := hl
  unfold f_X9_deriveBytes at hf
  refine zgo (fun GW hTo hFr => ?_)
  refine hFr _ _ _ ?_
  obtain ⟨H, hHe⟩ : ∃ H, H = s.heap := ⟨_, rfl⟩
  obtain ⟨locs, hLe⟩ : ∃ L : List Loc, L = [] := ⟨_, rfl⟩
  rw [← hHe] at hP
  replace hS : va_S A s.heap H locs := by rw [hHe, hLe]; exact hS
  refine zat hHe.symm hLe.symm ?_
  clear hHe hLe
  refine lv_aload_n (pc := 0) hx hb (zdt_at zt_X9_deriveBytes_0 0 rfl) rfl (lv_at hl 0 rfl) ?_
  refine va_get (pc := 1) (D := D) (ci := 11) (v := .ref h0_buffer) (C := RX9) (T := TX9) (N := 19) hx hb hts hcX9 hown hK hP 0 rfl rfl 0 (by decide) hw0 (fun _ h9 => h9) rfl (zdt_at zt_X9_deriveBytes_0 1 rfl) ?_
  refine lv_iconst (pc := 4) (v := (0 : Int32)) hx hb (zdt_at zt_X9_deriveBytes_0 2 rfl) (by decide) ?_
  refine lv_aload_n (pc := 5) hx hb (zdt_at zt_X9_deriveBytes_0 3 rfl) rfl (lv_at hl 0 rfl) ?_
  refine va_get (pc := 6) (D := D) (ci := 11) (v := .ref h0_message) (C := RX9) (T := TX9) (N := 19) hx hb hts hcX9 hown hK hP 0 rfl rfl 13 (by decide) hw1 (fun _ h9 => h9) rfl (zdt_at zt_X9_deriveBytes_0 4 rfl) ?_
  refine lv_iconst (pc := 9) (v := (4 : Int32)) hx hb (zdt_at zt_X9_deriveBytes_0 5 rfl) (by decide) ?_
  refine lv_iload_n (pc := 10) hx hb (zdt_at zt_X9_deriveBytes_0 6 rfl) rfl (lv_at hl 3 rfl) ?_
  replace hf := zk_s hf
  refine va_copyi (pc := 11) hx hb (hml.trans hl.1.symm) hown hw2 hw3 hw4 hw5 hK hP hD hS 1 2 0 0 rfl rfl rfl rfl rfl hf.1.1 hf.1.2.1 hf.1.2.2.1 hf.1.2.2.2.1 hf.1.2.2.2.2.1 hf.1.2.2.2.2.2 (Nat.le_of_ble_eq_true rfl) (Nat.le_of_ble_eq_true rfl) (zdt_at zt_X9_deriveBytes_0 7 rfl) ?_
  replace hf := hf.2
  clear hP hD hS
  intro H locs hP hD hS
  replace hP : va_P D vwCl ([(h0, .inr (11, [.ref h0_buffer, .ref h0_slots, .ref h0_counters, .ref h0_officerPin, .ref h0_userPin, .ref h0_words, .ref h0_sha, .ref h0_stream, .ref h0_aes, .ref h0_modes, .ref h0_gcm, .ref h0_generator, .ref h0_tests, .ref h0_message, .ref h0_secret, .int c_state, .int c_testsDone, .int c_faults, .int c_streamBegun])), (h0_buffer, .inl (cy 0, 512, .inl c_buffer)), (h0_message, .inl (cy 0, 68, .inl (va_cpy c_buffer c_message (0 : Int32).toNatClampNeg (4 : Int32).toNatClampNeg p3.toNatClampNeg))), (h0_secret, .inl (cy 0, 80, .inl c_secret)), (h0_sha, .inr (9, [.ref h0_sha_sums, .ref h0_sha_schedule, .ref h0_sha_inner, .int c_sha_filled, .int c_sha_total])), (h0_sha_inner, .inl (cy 0, 32, .inl c_sha_inner)), (h0_sha_schedule, .inl (cy 1, 64, .inl c_sha_schedule)), (h0_sha_sums, .inl (cy 1, 8, .inl c_sha_sums))] ++ zpO hP_o hP_k cP_kind cP_length cP_usage cP_role cP_uses ++ zpK (cy 0) hP_k cPK) H := hP
  replace hD : va_D A ([(h0, .inr (11, [.ref h0_buffer, .ref h0_slots, .ref h0_counters, .ref h0_officerPin, .ref h0_userPin, .ref h0_words, .ref h0_sha, .ref h0_stream, .ref h0_aes, .ref h0_modes, .ref h0_gcm, .ref h0_generator, .ref h0_tests, .ref h0_message, .ref h0_secret, .int c_state, .int c_testsDone, .int c_faults, .int c_streamBegun])), (h0_buffer, .inl (cy 0, 512, .inl c_buffer)), (h0_message, .inl (cy 0, 68, .inl (va_cpy c_buffer c_message (0 : Int32).toNatClampNeg (4 : Int32).toNatClampNeg p3.toNatClampNeg))), (h0_secret, .inl (cy 0, 80, .inl c_secret)), (h0_sha, .inr (9, [.ref h0_sha_sums, .ref h0_sha_schedule, .ref h0_sha_inner, .int c_sha_filled, .int c_sha_total])), (h0_sha_inner, .inl (cy 0, 32, .inl c_sha_inner)), (h0_sha_schedule, .inl (cy 1, 64, .inl c_sha_schedule)), (h0_sha_sums, .inl (cy 1, 8, .inl c_sha_sums))] ++ zpO hP_o hP_k cP_kind cP_length cP_usage cP_role cP_uses ++ zpK (cy 0) hP_k cPK) := hD
  refine lv_iconst (pc := 14) (v := (0 : Int32)) hx hb (zdt_at zt_X9_deriveBytes_0 8 rfl) (by decide) ?_
  refine lv_istore (pc := 15) (lv' := [(4, .int (0 : Int32)), (0, .ref h0), (1, .ref (hP_o j1)), (2, .int p2), (3, .int p3)]) hx hb (zdt_at zt_X9_deriveBytes_0 9 rfl) hl (by decide) rfl ?_
  clear hl
  intro ls hl
  replace hf := zj_s hf
  obtain ⟨K_16, eK_16, hf⟩ := hf
  have kK_16 : ∀ (c_message_9 : Nat → Int32) (c_secret_10 : Nat → Int32) (c_sha_filled_11 : Int32) (c_sha_inner_12 : Nat → Int32) (c_sha_schedule_13 : Nat → Int32) (c_sha_sums_14 : Nat → Int32) (c_sha_total_15 : Int32) (H : Heap) (locs : List Loc) (ls : Array Slot), va_P D vwCl ([(h0, .inr (11, [.ref h0_buffer, .ref h0_slots, .ref h0_counters, .ref h0_officerPin, .ref h0_userPin, .ref h0_words, .ref h0_sha, .ref h0_stream, .ref h0_aes, .ref h0_modes, .ref h0_gcm, .ref h0_generator, .ref h0_tests, .ref h0_message, .ref h0_secret, .int c_state, .int c_testsDone, .int c_faults, .int c_streamBegun])), (h0_buffer, .inl (cy 0, 512, .inl c_buffer)), (h0_message, .inl (cy 0, 68, .inl c_message_9)), (h0_secret, .inl (cy 0, 80, .inl c_secret_10)), (h0_sha, .inr (9, [.ref h0_sha_sums, .ref h0_sha_schedule, .ref h0_sha_inner, .int c_sha_filled_11, .int c_sha_total_15])), (h0_sha_inner, .inl (cy 0, 32, .inl c_sha_inner_12)), (h0_sha_schedule, .inl (cy 1, 64, .inl c_sha_schedule_13)), (h0_sha_sums, .inl (cy 1, 8, .inl c_sha_sums_14))] ++ zpO hP_o hP_k cP_kind cP_length cP_usage cP_role cP_uses ++ zpK (cy 0) hP_k cPK) H → va_D A ([(h0, .inr (11, [.ref h0_buffer, .ref h0_slots, .ref h0_counters, .ref h0_officerPin, .ref h0_userPin, .ref h0_words, .ref h0_sha, .ref h0_stream, .ref h0_aes, .ref h0_modes, .ref h0_gcm, .ref h0_generator, .ref h0_tests, .ref h0_message, .ref h0_secret, .int c_state, .int c_testsDone, .int c_faults, .int c_streamBegun])), (h0_buffer, .inl (cy 0, 512, .inl c_buffer)), (h0_message, .inl (cy 0, 68, .inl c_message_9)), (h0_secret, .inl (cy 0, 80, .inl c_secret_10)), (h0_sha, .inr (9, [.ref h0_sha_sums, .ref h0_sha_schedule, .ref h0_sha_inner, .int c_sha_filled_11, .int c_sha_total_15])), (h0_sha_inner, .inl (cy 0, 32, .inl c_sha_inner_12)), (h0_sha_schedule, .inl (cy 1, 64, .inl c_sha_schedule_13)), (h0_sha_sums, .inl (cy 1, 8, .inl c_sha_sums_14))] ++ zpO hP_o hP_k cP_kind cP_length cP_usage cP_role cP_uses ++ zpK (cy 0) hP_k cPK) → va_S A s.heap H locs → lv_has ls 5 [] → K_16 c_message_9 c_secret_10 c_sha_filled_11 c_sha_inner_12 c_sha_schedule_13 c_sha_sums_14 c_sha_total_15 = some (c_message', c_secret', c_sha_filled', c_sha_total', c_sha_inner', c_sha_schedule', c_sha_sums') → GW H locs (F0 m 73 ls []) := by
    clear hf hl hP hD hS
    intro c_message_9 c_secret_10 c_sha_filled_11 c_sha_inner_12 c_sha_schedule_13 c_sha_sums_14 c_sha_total_15 H locs ls hP hD hS hl hf
    rw [eK_16] at hf
    clear eK_16
    refine hFr _ _ _ ?_
    cases hf
    exact W.vret (pc := 73) hx hb hr (fun t ht hW => ⟨rfl, ⟨by rw [ht]; exact hP, hD⟩, hS.F ht⟩) hS.2.2 (zdt_at zt_X9_deriveBytes_0 40 rfl)
  clear eK_16
  refine hTo _ _ _ (zl_go (fun z => match z with | (i_1, c_message_2, c_secret_3, c_sha_filled_4, c_sha_inner_5, c_sha_schedule_6, c_sha_sums_7, c_sha_total_8) => ∀ (H : Heap) (locs : List Loc) (ls : Array Slot), va_P D vwCl ([(h0, .inr (11, [.ref h0_buffer, .ref h0_slots, .ref h0_counters, .ref h0_officerPin, .ref h0_userPin, .ref h0_words, .ref h0_sha, .ref h0_stream, .ref h0_aes, .ref h0_modes, .ref h0_gcm, .ref h0_generator, .ref h0_tests, .ref h0_message, .ref h0_secret, .int c_state, .int c_testsDone, .int c_faults, .int c_streamBegun])), (h0_buffer, .inl (cy 0, 512, .inl c_buffer)), (h0_message, .inl (cy 0, 68, .inl c_message_2)), (h0_secret, .inl (cy 0, 80, .inl c_secret_3)), (h0_sha, .inr (9, [.ref h0_sha_sums, .ref h0_sha_schedule, .ref h0_sha_inner, .int c_sha_filled_4, .int c_sha_total_8])), (h0_sha_inner, .inl (cy 0, 32, .inl c_sha_inner_5)), (h0_sha_schedule, .inl (cy 1, 64, .inl c_sha_schedule_6)), (h0_sha_sums, .inl (cy 1, 8, .inl c_sha_sums_7))] ++ zpO hP_o hP_k cP_kind cP_length cP_usage cP_role cP_uses ++ zpK (cy 0) hP_k cPK) H → va_D A ([(h0, .inr (11, [.ref h0_buffer, .ref h0_slots, .ref h0_counters, .ref h0_officerPin, .ref h0_userPin, .ref h0_words, .ref h0_sha, .ref h0_stream, .ref h0_aes, .ref h0_modes, .ref h0_gcm, .ref h0_generator, .ref h0_tests, .ref h0_message, .ref h0_secret, .int c_state, .int c_testsDone, .int c_faults, .int c_streamBegun])), (h0_buffer, .inl (cy 0, 512, .inl c_buffer)), (h0_message, .inl (cy 0, 68, .inl c_message_2)), (h0_secret, .inl (cy 0, 80, .inl c_secret_3)), (h0_sha, .inr (9, [.ref h0_sha_sums, .ref h0_sha_schedule, .ref h0_sha_inner, .int c_sha_filled_4, .int c_sha_total_8])), (h0_sha_inner, .inl (cy 0, 32, .inl c_sha_inner_5)), (h0_sha_schedule, .inl (cy 1, 64, .inl c_sha_schedule_6)), (h0_sha_sums, .inl (cy 1, 8, .inl c_sha_sums_7))] ++ zpO hP_o hP_k cP_kind cP_length cP_usage cP_role cP_uses ++ zpK (cy 0) hP_k cPK) → va_S A s.heap H locs → lv_has ls 5 [(0, .ref h0), (1, .ref (hP_o j1)), (2, .int p2), (3, .int p3), (4, .int i_1)] → GW H locs (F0 m 17 ls [])) hf ?_ H locs ls hP hD hS (lv_sub hl [1, 2, 3, 4, 0] rfl))
  clear hf hl hP hD hS
  intro self_17 ihself_17 z hf
  obtain ⟨i_1, c_message_2, c_secret_3, c_sha_filled_4, c_sha_inner_5, c_sha_schedule_6, c_sha_sums_7, c_sha_total_8⟩ := z
  intro H locs ls hP hD hS hl
  refine hFr _ _ _ ?_
  unfold b_X9_deriveBytes_17 at hf
  refine lv_iload (pc := 17) hx hb (zdt_at zt_X9_deriveBytes_0 10 rfl) (lv_at hl 4 rfl) ?_
  refine lv_iload_n (pc := 19) hx hb (zdt_at zt_X9_deriveBytes_0 11 rfl) rfl (lv_at hl 2 rfl) ?_
  refine lv_icmp_ge (pc := 20) (tgt := 73) hx hb (zdt_at zt_X9_deriveBytes_0 12 rfl) (by decide) (fun cn_ => ?t_18) (fun cn_ => ?f_19)
  case t_18 =>
    replace hf := zt_s cn_ hf
    clear cn_
    exact hTo _ _ _ (kK_16 _ _ _ _ _ _ _ H locs ls hP hD hS (lv_sub hl [] rfl) hf)
  replace hf := ze_s cn_ hf
  clear cn_
  refine lv_aload_n (pc := 23) hx hb (zdt_at zt_X9_deriveBytes_0 13 rfl) rfl (lv_at hl 0 rfl) ?_
  refine va_get (pc := 24) (D := D) (ci := 11) (v := .ref h0_message) (C := RX9) (T := TX9) (N := 19) hx hb hts hcX9 hown hK hP 0 rfl rfl 13 (by decide) hw1 (fun _ h9 => h9) rfl (zdt_at zt_X9_deriveBytes_0 14 rfl) ?_
  refine lv_iconst (pc := 27) (v := (0 : Int32)) hx hb (zdt_at zt_X9_deriveBytes_0 15 rfl) (by decide) ?_
  refine lv_iload (pc := 28) hx hb (zdt_at zt_X9_deriveBytes_0 16 rfl) (lv_at hl 4 rfl) ?_
  refine lv_bipush (pc := 30) (v := (32 : Int32)) hx hb (zdt_at zt_X9_deriveBytes_0 17 rfl) (by decide) ?_
  replace hf := zk_s hf
  refine lv_idiv (pc := 32) hx hb (zdt_at zt_X9_deriveBytes_0 18 rfl) hf.1 ?_
  replace hf := hf.2
  refine lv_iconst (pc := 33) (v := (1 : Int32)) hx hb (zdt_at zt_X9_deriveBytes_0 19 rfl) (by decide) ?_
  refine lv_iadd (pc := 34) hx hb (zdt_at zt_X9_deriveBytes_0 20 rfl) ?_
  replace hf := zb_s hf
  obtain ⟨c_message_20, hc_, hf⟩ := hf
  refine zcm2 (pc := 35) (rv := none) (va_runS (As := [.ref h0_message, .int (0 : Int32), .int ((i_1 / (32 : Int32)) + (1 : Int32))]) (rest := []) ⟨hx, hb, hml, hown, hts⟩ (c_X9_putInt l D cy tt H.size h0_message 68 (0 : Int32) ((i_1 / (32 : Int32)) + (1 : Int32)) c_message_2 c_message_20 hc_) (va_cwS 3 hts gX9_deriveBytes_X9_putInt rfl rfl rfl (by decide +kernel) ⟨Nat.le_of_ble_eq_true rfl, Nat.le_of_ble_eq_true rfl⟩) ⟨zblind, zpre hE hS (hP.sub [2] rfl) (hD.sub [2] (by decide) rfl) (va_free hD hS hA [2] rfl)⟩ rfl rfl hl.1 rfl (lv_room (Nat.le_of_ble_eq_true rfl)) (zdt_at zt_X9_deriveBytes_0 21 rfl) ⟨Nat.zero_le _, Nat.zero_le _⟩) hS hP hD (va_free hD hS hA [2] rfl) [2] rfl (by decide) rfl ?_
  clear hP hD hS hc_
  intro H locs hP hD hS
  replace hP : va_P D vwCl ([(h0, .inr (11, [.ref h0_buffer, .ref h0_slots, .ref h0_counters, .ref h0_officerPin, .ref h0_userPin, .ref h0_words, .ref h0_sha, .ref h0_stream, .ref h0_aes, .ref h0_modes, .ref h0_gcm, .ref h0_generator, .ref h0_tests, .ref h0_message, .ref h0_secret, .int c_state, .int c_testsDone, .int c_faults, .int c_streamBegun])), (h0_buffer, .inl (cy 0, 512, .inl c_buffer)), (h0_message, .inl (cy 0, 68, .inl c_message_20)), (h0_secret, .inl (cy 0, 80, .inl c_secret_3)), (h0_sha, .inr (9, [.ref h0_sha_sums, .ref h0_sha_schedule, .ref h0_sha_inner, .int c_sha_filled_4, .int c_sha_total_8])), (h0_sha_inner, .inl (cy 0, 32, .inl c_sha_inner_5)), (h0_sha_schedule, .inl (cy 1, 64, .inl c_sha_schedule_6)), (h0_sha_sums, .inl (cy 1, 8, .inl c_sha_sums_7))] ++ zpO hP_o hP_k cP_kind cP_length cP_usage cP_role cP_uses ++ zpK (cy 0) hP_k cPK) H := hP
  replace hD : va_D A ([(h0, .inr (11, [.ref h0_buffer, .ref h0_slots, .ref h0_counters, .ref h0_officerPin, .ref h0_userPin, .ref h0_words, .ref h0_sha, .ref h0_stream, .ref h0_aes, .ref h0_modes, .ref h0_gcm, .ref h0_generator, .ref h0_tests, .ref h0_message, .ref h0_secret, .int c_state, .int c_testsDone, .int c_faults, .int c_streamBegun])), (h0_buffer, .inl (cy 0, 512, .inl c_buffer)), (h0_message, .inl (cy 0, 68, .inl c_message_20)), (h0_secret, .inl (cy 0, 80, .inl c_secret_3)), (h0_sha, .inr (9, [.ref h0_sha_sums, .ref h0_sha_schedule, .ref h0_sha_inner, .int c_sha_filled_4, .int c_sha_total_8])), (h0_sha_inner, .inl (cy 0, 32, .inl c_sha_inner_5)), (h0_sha_schedule, .inl (cy 1, 64, .inl c_sha_schedule_6)), (h0_sha_sums, .inl (cy 1, 8, .inl c_sha_sums_7))] ++ zpO hP_o hP_k cP_kind cP_length cP_usage cP_role cP_uses ++ zpK (cy 0) hP_k cPK) := hD
  refine W.eq (g2 := F0 m 38 ls []) rfl ?_
  refine lv_aload_n (pc := 38) hx hb (zdt_at zt_X9_deriveBytes_0 22 rfl) rfl (lv_at hl 0 rfl) ?_
  refine va_get (pc := 39) (D := D) (ci := 11) (v := .ref h0_sha) (C := RX9) (T := TX9) (N := 19) hx hb hts hcX9 hown hK hP 0 rfl rfl 6 (by decide) hw6 (fun _ h9 => h9) rfl (zdt_at zt_X9_deriveBytes_0 23 rfl) ?_
  refine lv_aload_n (pc := 42) hx hb (zdt_at zt_X9_deriveBytes_0 24 rfl) rfl (lv_at hl 1 rfl) ?_
  refine va_get (pc := 43) (D := D) (ci := 10) (v := .ref (hP_k j1)) (C := RX8) (T := TX8) (N := 6) hx hb hts hcX8 hown hK hP (8 + j1) (zpO_getK (X := [(h0, .inr (11, [.ref h0_buffer, .ref h0_slots, .ref h0_counters, .ref h0_officerPin, .ref h0_userPin, .ref h0_words, .ref h0_sha, .ref h0_stream, .ref h0_aes, .ref h0_modes, .ref h0_gcm, .ref h0_generator, .ref h0_tests, .ref h0_message, .ref h0_secret, .int c_state, .int c_testsDone, .int c_faults, .int c_streamBegun])), (h0_buffer, .inl (cy 0, 512, .inl c_buffer)), (h0_message, .inl (cy 0, 68, .inl c_message_20)), (h0_secret, .inl (cy 0, 80, .inl c_secret_3)), (h0_sha, .inr (9, [.ref h0_sha_sums, .ref h0_sha_schedule, .ref h0_sha_inner, .int c_sha_filled_4, .int c_sha_total_8])), (h0_sha_inner, .inl (cy 0, 32, .inl c_sha_inner_5)), (h0_sha_schedule, .inl (cy 1, 64, .inl c_sha_schedule_6)), (h0_sha_sums, .inl (cy 1, 8, .inl c_sha_sums_7))]) (n := 8) rfl hj_j1) rfl 0 (by decide) hw7 (fun _ h9 => h9) rfl (zdt_at zt_X9_deriveBytes_0 25 rfl) ?_
  refine lv_aload_n (pc := 46) hx hb (zdt_at zt_X9_deriveBytes_0 26 rfl) rfl (lv_at hl 1 rfl) ?_
  refine va_get (pc := 47) (D := D) (ci := 10) (v := .int (cP_length j1)) (C := RX8) (T := TX8) (N := 6) hx hb hts hcX8 hown hK hP (8 + j1) (zpO_getK (X := [(h0, .inr (11, [.ref h0_buffer, .ref h0_slots, .ref h0_counters, .ref h0_officerPin, .ref h0_userPin, .ref h0_words, .ref h0_sha, .ref h0_stream, .ref h0_aes, .ref h0_modes, .ref h0_gcm, .ref h0_generator, .ref h0_tests, .ref h0_message, .ref h0_secret, .int c_state, .int c_testsDone, .int c_faults, .int c_streamBegun])), (h0_buffer, .inl (cy 0, 512, .inl c_buffer)), (h0_message, .inl (cy 0, 68, .inl c_message_20)), (h0_secret, .inl (cy 0, 80, .inl c_secret_3)), (h0_sha, .inr (9, [.ref h0_sha_sums, .ref h0_sha_schedule, .ref h0_sha_inner, .int c_sha_filled_4, .int c_sha_total_8])), (h0_sha_inner, .inl (cy 0, 32, .inl c_sha_inner_5)), (h0_sha_schedule, .inl (cy 1, 64, .inl c_sha_schedule_6)), (h0_sha_sums, .inl (cy 1, 8, .inl c_sha_sums_7))]) (n := 8) rfl hj_j1) rfl 2 (by decide) hw8 (fun _ h9 => h9) rfl (zdt_at zt_X9_deriveBytes_0 27 rfl) ?_
  refine lv_aload_n (pc := 50) hx hb (zdt_at zt_X9_deriveBytes_0 28 rfl) rfl (lv_at hl 0 rfl) ?_
  refine va_get (pc := 51) (D := D) (ci := 11) (v := .ref h0_message) (C := RX9) (T := TX9) (N := 19) hx hb hts hcX9 hown hK hP 0 rfl rfl 13 (by decide) hw1 (fun _ h9 => h9) rfl (zdt_at zt_X9_deriveBytes_0 29 rfl) ?_
  refine lv_iconst (pc := 54) (v := (0 : Int32)) hx hb (zdt_at zt_X9_deriveBytes_0 30 rfl) (by decide) ?_
  refine lv_iconst (pc := 55) (v := (4 : Int32)) hx hb (zdt_at zt_X9_deriveBytes_0 31 rfl) (by decide) ?_
  refine lv_iload_n (pc := 56) hx hb (zdt_at zt_X9_deriveBytes_0 32 rfl) rfl (lv_at hl 3 rfl) ?_
  refine lv_iadd (pc := 57) hx hb (zdt_at zt_X9_deriveBytes_0 33 rfl) ?_
  refine lv_aload_n (pc := 58) hx hb (zdt_at zt_X9_deriveBytes_0 34 rfl) rfl (lv_at hl 0 rfl) ?_
  refine va_get (pc := 59) (D := D) (ci := 11) (v := .ref h0_secret) (C := RX9) (T := TX9) (N := 19) hx hb hts hcX9 hown hK hP 0 rfl rfl 14 (by decide) hw9 (fun _ h9 => h9) rfl (zdt_at zt_X9_deriveBytes_0 35 rfl) ?_
  refine lv_iload (pc := 62) hx hb (zdt_at zt_X9_deriveBytes_0 36 rfl) (lv_at hl 4 rfl) ?_
  replace hf := zb_s hf
  obtain ⟨⟨c_sha_filled_21, c_sha_total_22, c_sha_inner_23, c_sha_schedule_24, c_sha_sums_25, c_secret_26⟩, hc_, hf⟩ := hf
  refine zcm2 (pc := 64) (rv := none) (va_runV (As := [.ref (hP_k j1), .int (cP_length j1), .ref h0_message, .int (0 : Int32), .int ((4 : Int32) + p3), .ref h0_secret, .int i_1]) (rest := []) ⟨hx, hb, hml, hown, hts⟩ (c_X7_mac_1PK l D cy tt H.size h0_sha h0_sha_sums h0_sha_schedule h0_sha_inner h0_message h0_secret hP_o hP_k 68 80 j1 (cP_length j1) (0 : Int32) ((4 : Int32) + p3) i_1 c_sha_filled_4 c_sha_total_8 c_sha_inner_5 c_sha_schedule_6 c_sha_sums_7 c_message_20 c_secret_3 cPK cP_kind cP_length cP_usage cP_role cP_uses c_sha_filled_21 c_sha_total_22 c_sha_inner_23 c_sha_schedule_24 c_sha_sums_25 c_secret_26 hj_j1 hc_) (cwV 7 hts gX9_deriveBytes_X7_mac rfl rfl rfl (by decide +kernel) ⟨Nat.le_of_ble_eq_true rfl, Nat.le_of_ble_eq_true rfl⟩) ⟨zblind, va_recv hK hP (ci := 9) (q0 := 4) rfl rfl, zpre hE hS (hP.sub [4, 5, 6, 7, 2, 3, 8, 9, 10, 11, 12, 13, 14, 15, 16, 17, 18, 19, 20, 21, 22, 23, 24, 25, 26, 27, 28, 29, 30, 31, 32, 33, 34, 35, 36, 37, 38, 39] rfl) (hD.sub [4, 5, 6, 7, 2, 3, 8, 9, 10, 11, 12, 13, 14, 15, 16, 17, 18, 19, 20, 21, 22, 23, 24, 25, 26, 27, 28, 29, 30, 31, 32, 33, 34, 35, 36, 37, 38, 39] (by decide) rfl) (va_free hD hS hA [4, 5, 6, 7, 2, 3, 8, 9, 10, 11, 12, 13, 14, 15, 16, 17, 18, 19, 20, 21, 22, 23, 24, 25, 26, 27, 28, 29, 30, 31, 32, 33, 34, 35, 36, 37, 38, 39] rfl)⟩ rfl rfl hl.1 rfl (lv_room (Nat.le_of_ble_eq_true rfl)) (zdt_at zt_X9_deriveBytes_0 37 rfl) ⟨Nat.zero_le _, Nat.zero_le _⟩) hS hP hD (va_free hD hS hA [4, 5, 6, 7, 2, 3, 8, 9, 10, 11, 12, 13, 14, 15, 16, 17, 18, 19, 20, 21, 22, 23, 24, 25, 26, 27, 28, 29, 30, 31, 32, 33, 34, 35, 36, 37, 38, 39] rfl) [4, 5, 6, 7, 2, 3, 8, 9, 10, 11, 12, 13, 14, 15, 16, 17, 18, 19, 20, 21, 22, 23, 24, 25, 26, 27, 28, 29, 30, 31, 32, 33, 34, 35, 36, 37, 38, 39] rfl (by decide) rfl ?_
  clear hP hD hS hc_
  intro H locs hP hD hS
  replace hP : va_P D vwCl ([(h0, .inr (11, [.ref h0_buffer, .ref h0_slots, .ref h0_counters, .ref h0_officerPin, .ref h0_userPin, .ref h0_words, .ref h0_sha, .ref h0_stream, .ref h0_aes, .ref h0_modes, .ref h0_gcm, .ref h0_generator, .ref h0_tests, .ref h0_message, .ref h0_secret, .int c_state, .int c_testsDone, .int c_faults, .int c_streamBegun])), (h0_buffer, .inl (cy 0, 512, .inl c_buffer)), (h0_message, .inl (cy 0, 68, .inl c_message_20)), (h0_secret, .inl (cy 0, 80, .inl c_secret_26)), (h0_sha, .inr (9, [.ref h0_sha_sums, .ref h0_sha_schedule, .ref h0_sha_inner, .int c_sha_filled_21, .int c_sha_total_22])), (h0_sha_inner, .inl (cy 0, 32, .inl c_sha_inner_23)), (h0_sha_schedule, .inl (cy 1, 64, .inl c_sha_schedule_24)), (h0_sha_sums, .inl (cy 1, 8, .inl c_sha_sums_25))] ++ zpO hP_o hP_k cP_kind cP_length cP_usage cP_role cP_uses ++ zpK (cy 0) hP_k cPK) H := hP
  replace hD : va_D A ([(h0, .inr (11, [.ref h0_buffer, .ref h0_slots, .ref h0_counters, .ref h0_officerPin, .ref h0_userPin, .ref h0_words, .ref h0_sha, .ref h0_stream, .ref h0_aes, .ref h0_modes, .ref h0_gcm, .ref h0_generator, .ref h0_tests, .ref h0_message, .ref h0_secret, .int c_state, .int c_testsDone, .int c_faults, .int c_streamBegun])), (h0_buffer, .inl (cy 0, 512, .inl c_buffer)), (h0_message, .inl (cy 0, 68, .inl c_message_20)), (h0_secret, .inl (cy 0, 80, .inl c_secret_26)), (h0_sha, .inr (9, [.ref h0_sha_sums, .ref h0_sha_schedule, .ref h0_sha_inner, .int c_sha_filled_21, .int c_sha_total_22])), (h0_sha_inner, .inl (cy 0, 32, .inl c_sha_inner_23)), (h0_sha_schedule, .inl (cy 1, 64, .inl c_sha_schedule_24)), (h0_sha_sums, .inl (cy 1, 8, .inl c_sha_sums_25))] ++ zpO hP_o hP_k cP_kind cP_length cP_usage cP_role cP_uses ++ zpK (cy 0) hP_k cPK) := hD
  refine W.eq (g2 := F0 m 67 ls []) rfl ?_
  refine lv_iinc (pc := 67) (v := (i_1 + (32 : Int32))) (lv' := [(4, .int (i_1 + (32 : Int32))), (0, .ref h0), (1, .ref (hP_o j1)), (2, .int p2), (3, .int p3)]) hx hb (zdt_at zt_X9_deriveBytes_0 38 rfl) hl (k := 4) rfl rfl (by decide) rfl ?_
  clear hl
  intro ls hl
  refine lv_goto (pc := 70) (tgt := 17) hx hb (zdt_at zt_X9_deriveBytes_0 39 rfl) (by decide) ?_
  exact hTo _ _ _ (ihself_17 _ hf H locs ls hP hD hS (lv_sub hl [1, 2, 3, 4, 0] rfl))
def f_X9_derive (p1 : Int32) (p2 : Int32) (p3 : Int32) (p4 : Int32) (p5 : Int32) (p6 : Int32) (c_state : Int32) (c_buffer : Nat → Int32) (c_counters : Nat → Int32) (c_message : Nat → Int32) (c_secret : Nat → Int32) (c_sha_filled : Int32) (c_sha_total : Int32) (c_sha_inner : Nat → Int32) (c_sha_schedule : Nat → Int32) (c_sha_sums : Nat → Int32) (cP_kind : Nat → Int32) (cP_length : Nat → Int32) (cP_role : Nat → Int32) (cP_usage : Nat → Int32) (cP_uses : Nat → Int32) (cPK : Nat → Nat → Int32) : Option (Int32 × (Nat → Int32) × (Nat → Int32) × (Nat → Int32) × Int32 × Int32 × (Nat → Int32) × (Nat → Int32) × (Nat → Int32) × (Nat → Int32) × (Nat → Int32) × (Nat → Int32) × (Nat → Int32) × (Nat → Int32) × (Nat → Nat → Int32)) :=
  (f_X9_deriveRefusal p1 p2 p3 p4 p5 p6 c_state cP_kind cP_role cP_usage cP_uses).bind (fun r_1 => if r_1 = 0 then zk (¬ (p2 < 0 ∨ 16 ≤ p2.toNatClampNeg)) ((f_X8_takeUse p2.toNatClampNeg cP_uses).bind (fun cP_uses_7 => zk (¬ (p2 < 0 ∨ 16 ≤ p2.toNatClampNeg)) ((f_X9_deriveBytes p2.toNatClampNeg p5 p6 c_buffer c_message c_secret c_sha_filled c_sha_total c_sha_inner c_sha_schedule c_sha_sums cP_length cPK).bind (fun (c_message_9, c_secret_10, c_sha_filled_11, c_sha_total_12, c_sha_inner_13, c_sha_schedule_14, c_sha_sums_15) => zk (¬ (p1 < 0 ∨ 16 ≤ p1.toNatClampNeg)) ((f_X9_holder c_state).bind (fun r_17 => (f_X8_fill 80 p1.toNatClampNeg p3 p4 r_17 (-1 : Int32) (0 : Int32) p5 c_secret_10 cP_kind cP_length cP_role cP_usage cP_uses_7 cPK).bind (fun (cP_kind_18, cP_length_19, cP_role_20, cP_usage_21, cP_uses_22, cPK_23) => (f_X9_forgetSecret c_secret_10).bind (fun c_secret_24 => (f_X9_counted r_1 c_counters).bind (fun (r_25, c_counters_26) => some (r_25, c_counters_26, c_message_9, c_secret_24, c_sha_filled_11, c_sha_total_12, c_sha_inner_13, c_sha_schedule_14, c_sha_sums_15, cP_kind_18, cP_length_19, cP_role_20, cP_usage_21, cP_uses_22, cPK_23)))))))))) else (f_X9_counted r_1 c_counters).bind (fun (r_4, c_counters_5) => some (r_4, c_counters_5, c_message, c_secret, c_sha_filled, c_sha_total, c_sha_inner, c_sha_schedule, c_sha_sums, cP_kind, cP_length, cP_role, cP_usage, cP_uses, cPK)))
set_option maxHeartbeats 4000000 in
set_option maxRecDepth 100000 in
theorem c_X9_derive (l : Launch) (D : va_G) (cy : Nat → ClassId) (tt : Nat → Nat) (sz : Nat) (h0 : Nat) (h0_buffer : Nat) (h0_slots : Nat) (h0_counters : Nat) (h0_officerPin : Nat) (h0_userPin : Nat) (h0_words : Nat) (h0_sha : Nat) (h0_stream : Nat) (h0_aes : Nat) (h0_modes : Nat) (h0_gcm : Nat) (h0_generator : Nat) (h0_tests : Nat) (h0_message : Nat) (h0_secret : Nat) (h0_sha_sums : Nat) (h0_sha_schedule : Nat) (h0_sha_inner : Nat) (hP_o : Nat → Nat) (hP_k : Nat → Nat) (p1 : Int32) (p2 : Int32) (p3 : Int32) (p4 : Int32) (p5 : Int32) (p6 : Int32) (c_state : Int32) (c_buffer : Nat → Int32) (c_counters : Nat → Int32) (c_message : Nat → Int32) (c_secret : Nat → Int32) (c_sha_filled : Int32) (c_sha_total : Int32) (c_sha_inner : Nat → Int32) (c_sha_schedule : Nat → Int32) (c_sha_sums : Nat → Int32) (cP_kind : Nat → Int32) (cP_length : Nat → Int32) (cP_role : Nat → Int32) (cP_usage : Nat → Int32) (cP_uses : Nat → Int32) (cPK : Nat → Nat → Int32) (c_testsDone : Int32) (c_faults : Int32) (c_streamBegun : Int32) (r_ : Int32) (c_counters' : Nat → Int32) (c_message' : Nat → Int32) (c_secret' : Nat → Int32) (c_sha_filled' : Int32) (c_sha_total' : Int32) (c_sha_inner' : Nat → Int32) (c_sha_schedule' : Nat → Int32) (c_sha_sums' : Nat → Int32) (cP_kind' : Nat → Int32) (cP_length' : Nat → Int32) (cP_role' : Nat → Int32) (cP_usage' : Nat → Int32) (cP_uses' : Nat → Int32) (cPK' : Nat → Nat → Int32) (hf : f_X9_derive p1 p2 p3 p4 p5 p6 c_state c_buffer c_counters c_message c_secret c_sha_filled c_sha_total c_sha_inner c_sha_schedule c_sha_sums cP_kind cP_length cP_role cP_usage cP_uses cPK = some (r_, c_counters', c_message', c_secret', c_sha_filled', c_sha_total', c_sha_inner', c_sha_schedule', c_sha_sums', cP_kind', cP_length', cP_role', cP_usage', cP_uses', cPK')) : Met l yX9_derive wsX9_derive ({ frames := 5, cells := 0, slots := 0, locals := 135 }) (zPc D cy tt sz [.ref h0, .int p1, .int p2, .int p3, .int p4, .int p5, .int p6] ([(h0, .inr (11, [.ref h0_buffer, .ref h0_slots, .ref h0_counters, .ref h0_officerPin, .ref h0_userPin, .ref h0_words, .ref h0_sha, .ref h0_stream, .ref h0_aes, .ref h0_modes, .ref h0_gcm, .ref h0_generator, .ref h0_tests, .ref h0_message, .ref h0_secret, .int c_state, .int c_testsDone, .int c_faults, .int c_streamBegun])), (h0_buffer, .inl (cy 0, 512, .inl c_buffer)), (h0_counters, .inl (cy 1, 3, .inl c_counters)), (h0_message, .inl (cy 0, 68, .inl c_message)), (h0_secret, .inl (cy 0, 80, .inl c_secret)), (h0_sha, .inr (9, [.ref h0_sha_sums, .ref h0_sha_schedule, .ref h0_sha_inner, .int c_sha_filled, .int c_sha_total])), (h0_sha_inner, .inl (cy 0, 32, .inl c_sha_inner)), (h0_sha_schedule, .inl (cy 1, 64, .inl c_sha_schedule)), (h0_sha_sums, .inl (cy 1, 8, .inl c_sha_sums)), (h0_slots, .inl (cy 4, 16, .inr (.inr (.inr (.inr (fun j => some (hP_o j)))))))] ++ zpO hP_o hP_k cP_kind cP_length cP_usage cP_role cP_uses ++ zpK (cy 0) hP_k cPK)) (zQ D (some (.int r_)) ([(h0, .inr (11, [.ref h0_buffer, .ref h0_slots, .ref h0_counters, .ref h0_officerPin, .ref h0_userPin, .ref h0_words, .ref h0_sha, .ref h0_stream, .ref h0_aes, .ref h0_modes, .ref h0_gcm, .ref h0_generator, .ref h0_tests, .ref h0_message, .ref h0_secret, .int c_state, .int c_testsDone, .int c_faults, .int c_streamBegun])), (h0_buffer, .inl (cy 0, 512, .inl c_buffer)), (h0_counters, .inl (cy 1, 3, .inl c_counters')), (h0_message, .inl (cy 0, 68, .inl c_message')), (h0_secret, .inl (cy 0, 80, .inl c_secret')), (h0_sha, .inr (9, [.ref h0_sha_sums, .ref h0_sha_schedule, .ref h0_sha_inner, .int c_sha_filled', .int c_sha_total'])), (h0_sha_inner, .inl (cy 0, 32, .inl c_sha_inner')), (h0_sha_schedule, .inl (cy 1, 64, .inl c_sha_schedule')), (h0_sha_sums, .inl (cy 1, 8, .inl c_sha_sums')), (h0_slots, .inl (cy 4, 16, .inr (.inr (.inr (.inr (fun j => some (hP_o j)))))))] ++ zpO hP_o hP_k cP_kind' cP_length' cP_usage' cP_role' cP_uses' ++ zpK (cy 0) hP_k cPK') (va_A ([(h0, .inr (11, [.ref h0_buffer, .ref h0_slots, .ref h0_counters, .ref h0_officerPin, .ref h0_userPin, .ref h0_words, .ref h0_sha, .ref h0_stream, .ref h0_aes, .ref h0_modes, .ref h0_gcm, .ref h0_generator, .ref h0_tests, .ref h0_message, .ref h0_secret, .int c_state, .int c_testsDone, .int c_faults, .int c_streamBegun])), (h0_buffer, .inl (cy 0, 512, .inl c_buffer)), (h0_counters, .inl (cy 1, 3, .inl c_counters)), (h0_message, .inl (cy 0, 68, .inl c_message)), (h0_secret, .inl (cy 0, 80, .inl c_secret)), (h0_sha, .inr (9, [.ref h0_sha_sums, .ref h0_sha_schedule, .ref h0_sha_inner, .int c_sha_filled, .int c_sha_total])), (h0_sha_inner, .inl (cy 0, 32, .inl c_sha_inner)), (h0_sha_schedule, .inl (cy 1, 64, .inl c_sha_schedule)), (h0_sha_sums, .inl (cy 1, 8, .inl c_sha_sums)), (h0_slots, .inl (cy 4, 16, .inr (.inr (.inr (.inr (fun j => some (hP_o j)))))))] ++ zpO hP_o hP_k cP_kind cP_length cP_usage cP_role cP_uses ++ zpK (cy 0) hP_k cPK) sz)) 0 0 (va_A ([(h0, .inr (11, [.ref h0_buffer, .ref h0_slots, .ref h0_counters, .ref h0_officerPin, .ref h0_userPin, .ref h0_words, .ref h0_sha, .ref h0_stream, .ref h0_aes, .ref h0_modes, .ref h0_gcm, .ref h0_generator, .ref h0_tests, .ref h0_message, .ref h0_secret, .int c_state, .int c_testsDone, .int c_faults, .int c_streamBegun])), (h0_buffer, .inl (cy 0, 512, .inl c_buffer)), (h0_counters, .inl (cy 1, 3, .inl c_counters)), (h0_message, .inl (cy 0, 68, .inl c_message)), (h0_secret, .inl (cy 0, 80, .inl c_secret)), (h0_sha, .inr (9, [.ref h0_sha_sums, .ref h0_sha_schedule, .ref h0_sha_inner, .int c_sha_filled, .int c_sha_total])), (h0_sha_inner, .inl (cy 0, 32, .inl c_sha_inner)), (h0_sha_schedule, .inl (cy 1, 64, .inl c_sha_schedule)), (h0_sha_sums, .inl (cy 1, 8, .inl c_sha_sums)), (h0_slots, .inl (cy 4, 16, .inr (.inr (.inr (.inr (fun j => some (hP_o j)))))))] ++ zpO hP_o hP_k cP_kind cP_length cP_usage cP_role cP_uses ++ zpK (cy 0) hP_k cPK) sz) := by
  refine Met.ofW (cc := cX9_derive) (maxL := 8) (ret := (some .int)) (by decide) rfl ?_
  intro p e s m args below meth c s₁ B hml hv
  obtain ⟨rfl, rfl, hP, hD0, hE⟩ := hv
  have hx := B.exec
  have hb := B.bytes
  have hr := B.returns
  have hts := atoms_spec (ws := wsX9_derive) B.pre
  have hown : s.vm.findClass RX9 = some m.cls := findClass_of_methodNamed B.named
  have hlocks := B.notSynchronized
  clear B
  have hD := hD0.self (sz := s.heap.size)
  generalize hAe : va_A ([(h0, .inr (11, [.ref h0_buffer, .ref h0_slots, .ref h0_counters, .ref h0_officerPin, .ref h0_userPin, .ref h0_words, .ref h0_sha, .ref h0_stream, .ref h0_aes, .ref h0_modes, .ref h0_gcm, .ref h0_generator, .ref h0_tests, .ref h0_message, .ref h0_secret, .int c_state, .int c_testsDone, .int c_faults, .int c_streamBegun])), (h0_buffer, .inl (cy 0, 512, .inl c_buffer)), (h0_counters, .inl (cy 1, 3, .inl c_counters)), (h0_message, .inl (cy 0, 68, .inl c_message)), (h0_secret, .inl (cy 0, 80, .inl c_secret)), (h0_sha, .inr (9, [.ref h0_sha_sums, .ref h0_sha_schedule, .ref h0_sha_inner, .int c_sha_filled, .int c_sha_total])), (h0_sha_inner, .inl (cy 0, 32, .inl c_sha_inner)), (h0_sha_schedule, .inl (cy 1, 64, .inl c_sha_schedule)), (h0_sha_sums, .inl (cy 1, 8, .inl c_sha_sums)), (h0_slots, .inl (cy 4, 16, .inr (.inr (.inr (.inr (fun j => some (hP_o j)))))))] ++ zpO hP_o hP_k cP_kind cP_length cP_usage cP_role cP_uses ++ zpK (cy 0) hP_k cPK) s.heap.size = A at hD hE ⊢
  have hA : ∀ q : Nat, s.heap.size ≤ q → A q := fun q h => by rw [← hAe]; exact Or.inr h
  clear hAe hD0
  have hS : va_S A s.heap s.heap [] := va_S.rf
  have hK := hE.1
  have hw0 := hts (.fieldLink RX9 15 "SealedModule" "slots" "[LSealedModule$Slot;") (by decide +kernel)
  have hw1 := hts (.fieldLink RX9 98 "SealedModule" "secret" "[B") (by decide +kernel)
  have hcX9 : ∀ w ∈ u_ws RX9 TX9 19, w ∈ wsX9_derive := (fun _ h => List.mem_cons_of_mem _ (List.mem_append_left _ (List.mem_append_left _ (List.mem_append_left _ (List.mem_append_right _ h)))))
  have hl := lv_entry ([.ref h0, .int p1, .int p2, .int p3, .int p4, .int p5, .int p6]) (n := 8) (Nat.le_of_ble_eq_true rfl)
  rw [lg_entry_eq]
  generalize (lg_sl ([.ref h0, .int p1, .int p2, .int p3, .int p4, .int p5, .int p6]) ++ List.replicate (8 - (lg_sl ([.ref h0, .int p1, .int p2, .int p3, .int p4, .int p5, .int p6])).length) Slot.unset).toArray = ls at hl ⊢
  replace hl : lv_has ls 8 [(0, .ref h0), (1, .int p1), (2, .int p2), (3, .int p3), (4, .int p4), (5, .int p5), (6, .int p6)] := hl
  unfold f_X9_derive at hf
  refine zgo (fun GW hTo hFr => ?_)
  refine hFr _ _ _ ?_
  obtain ⟨H, hHe⟩ : ∃ H, H = s.heap := ⟨_, rfl⟩
  obtain ⟨locs, hLe⟩ : ∃ L : List Loc, L = [] := ⟨_, rfl⟩
  rw [← hHe] at hP
  replace hS : va_S A s.heap H locs := by rw [hHe, hLe]; exact hS
  refine zat hHe.symm hLe.symm ?_
  clear hHe hLe
  refine lv_aload_n (pc := 0) hx hb (zdt_at zt_X9_derive_0 0 rfl) rfl (lv_at hl 0 rfl) ?_
  refine lv_iload_n (pc := 1) hx hb (zdt_at zt_X9_derive_0 1 rfl) rfl (lv_at hl 1 rfl) ?_
  refine lv_iload_n (pc := 2) hx hb (zdt_at zt_X9_derive_0 2 rfl) rfl (lv_at hl 2 rfl) ?_
  refine lv_iload_n (pc := 3) hx hb (zdt_at zt_X9_derive_0 3 rfl) rfl (lv_at hl 3 rfl) ?_
  refine lv_iload (pc := 4) hx hb (zdt_at zt_X9_derive_0 4 rfl) (lv_at hl 4 rfl) ?_
  refine lv_iload (pc := 6) hx hb (zdt_at zt_X9_derive_0 5 rfl) (lv_at hl 5 rfl) ?_
  refine lv_iload (pc := 8) hx hb (zdt_at zt_X9_derive_0 6 rfl) (lv_at hl 6 rfl) ?_
  replace hf := zb_s hf
  obtain ⟨r_1, hc_, hf⟩ := hf
  refine zcs (pc := 10) (rv := (some (.int r_1))) (va_runV (As := [.int p1, .int p2, .int p3, .int p4, .int p5, .int p6]) (rest := []) ⟨hx, hb, hml, hown, hts⟩ (c_X9_deriveRefusal l D cy tt H.size h0 h0_buffer h0_slots h0_counters h0_officerPin h0_userPin h0_words h0_sha h0_stream h0_aes h0_modes h0_gcm h0_generator h0_tests h0_message h0_secret hP_o hP_k p1 p2 p3 p4 p5 p6 c_state cP_kind cP_role cP_usage cP_uses c_testsDone c_faults c_streamBegun cP_length r_1 hc_) (cwV 6 hts gX9_derive_X9_deriveRefusal rfl rfl rfl (by decide +kernel) ⟨Nat.le_of_ble_eq_true rfl, Nat.le_of_ble_eq_true rfl⟩) ⟨zblind, va_recv hK hP (ci := 11) (q0 := 0) rfl rfl, zpre hE hS (hP.sub [0, 9, 10, 11, 12, 13, 14, 15, 16, 17, 18, 19, 20, 21, 22, 23, 24, 25] rfl) (hD.sub [0, 9, 10, 11, 12, 13, 14, 15, 16, 17, 18, 19, 20, 21, 22, 23, 24, 25] (by decide) rfl) (va_free hD hS hA [0, 9, 10, 11, 12, 13, 14, 15, 16, 17, 18, 19, 20, 21, 22, 23, 24, 25] rfl)⟩ rfl rfl hl.1 rfl (lv_room (Nat.le_of_ble_eq_true rfl)) (zdt_at zt_X9_derive_0 7 rfl) ⟨Nat.zero_le _, Nat.zero_le _⟩) ?_
  clear hc_
  refine W.eq (g2 := F0 m 13 ls [.int r_1]) rfl ?_
  refine lv_istore (pc := 13) (lv' := [(7, .int r_1), (0, .ref h0), (1, .int p1), (2, .int p2), (3, .int p3), (4, .int p4), (5, .int p5), (6, .int p6)]) hx hb (zdt_at zt_X9_derive_0 8 rfl) hl (by decide) rfl ?_
  clear hl
  intro ls hl
  refine lv_iload (pc := 15) hx hb (zdt_at zt_X9_derive_0 9 rfl) (lv_at hl 0 rfl) ?_
  refine lv_if_ne (pc := 17) (tgt := 71) hx hb (zdt_at zt_X9_derive_0 10 rfl) (by decide) (fun cn_ => ?t_2) (fun cn_ => ?f_3)
  case t_2 =>
    replace hf := ze_s cn_ hf
    clear cn_
    refine lv_aload_n (pc := 71) hx hb (zdt_at zt_X9_derive_0 40 rfl) rfl (lv_at hl 1 rfl) ?_
    refine lv_iload (pc := 72) hx hb (zdt_at zt_X9_derive_0 41 rfl) (lv_at hl 0 rfl) ?_
    replace hf := zb_s hf
    obtain ⟨⟨r_4, c_counters_5⟩, hc_, hf⟩ := hf
    refine zcm2 (pc := 74) (rv := (some (.int r_4))) (va_runV (As := [.int r_1]) (rest := []) ⟨hx, hb, hml, hown, hts⟩ (c_X9_counted l D cy tt H.size h0 h0_buffer h0_slots h0_counters h0_officerPin h0_userPin h0_words h0_sha h0_stream h0_aes h0_modes h0_gcm h0_generator h0_tests h0_message h0_secret r_1 c_counters c_state c_testsDone c_faults c_streamBegun r_4 c_counters_5 hc_) (cwV 1 hts gX9_derive_X9_counted rfl rfl rfl (by decide +kernel) ⟨Nat.le_of_ble_eq_true rfl, Nat.le_of_ble_eq_true rfl⟩) ⟨zblind, va_recv hK hP (ci := 11) (q0 := 0) rfl rfl, zpre hE hS (hP.sub [0, 2] rfl) (hD.sub [0, 2] (by decide) rfl) (va_free hD hS hA [0, 2] rfl)⟩ rfl rfl hl.1 rfl (lv_room (Nat.le_of_ble_eq_true rfl)) (zdt_at zt_X9_derive_0 42 rfl) ⟨Nat.zero_le _, Nat.zero_le _⟩) hS hP hD (va_free hD hS hA [0, 2] rfl) [0, 2] rfl (by decide) rfl ?_
    clear hP hD hS hc_
    intro H locs hP hD hS
    replace hP : va_P D vwCl ([(h0, .inr (11, [.ref h0_buffer, .ref h0_slots, .ref h0_counters, .ref h0_officerPin, .ref h0_userPin, .ref h0_words, .ref h0_sha, .ref h0_stream, .ref h0_aes, .ref h0_modes, .ref h0_gcm, .ref h0_generator, .ref h0_tests, .ref h0_message, .ref h0_secret, .int c_state, .int c_testsDone, .int c_faults, .int c_streamBegun])), (h0_buffer, .inl (cy 0, 512, .inl c_buffer)), (h0_counters, .inl (cy 1, 3, .inl c_counters_5)), (h0_message, .inl (cy 0, 68, .inl c_message)), (h0_secret, .inl (cy 0, 80, .inl c_secret)), (h0_sha, .inr (9, [.ref h0_sha_sums, .ref h0_sha_schedule, .ref h0_sha_inner, .int c_sha_filled, .int c_sha_total])), (h0_sha_inner, .inl (cy 0, 32, .inl c_sha_inner)), (h0_sha_schedule, .inl (cy 1, 64, .inl c_sha_schedule)), (h0_sha_sums, .inl (cy 1, 8, .inl c_sha_sums)), (h0_slots, .inl (cy 4, 16, .inr (.inr (.inr (.inr (fun j => some (hP_o j)))))))] ++ zpO hP_o hP_k cP_kind cP_length cP_usage cP_role cP_uses ++ zpK (cy 0) hP_k cPK) H := hP
    replace hD : va_D A ([(h0, .inr (11, [.ref h0_buffer, .ref h0_slots, .ref h0_counters, .ref h0_officerPin, .ref h0_userPin, .ref h0_words, .ref h0_sha, .ref h0_stream, .ref h0_aes, .ref h0_modes, .ref h0_gcm, .ref h0_generator, .ref h0_tests, .ref h0_message, .ref h0_secret, .int c_state, .int c_testsDone, .int c_faults, .int c_streamBegun])), (h0_buffer, .inl (cy 0, 512, .inl c_buffer)), (h0_counters, .inl (cy 1, 3, .inl c_counters_5)), (h0_message, .inl (cy 0, 68, .inl c_message)), (h0_secret, .inl (cy 0, 80, .inl c_secret)), (h0_sha, .inr (9, [.ref h0_sha_sums, .ref h0_sha_schedule, .ref h0_sha_inner, .int c_sha_filled, .int c_sha_total])), (h0_sha_inner, .inl (cy 0, 32, .inl c_sha_inner)), (h0_sha_schedule, .inl (cy 1, 64, .inl c_sha_schedule)), (h0_sha_sums, .inl (cy 1, 8, .inl c_sha_sums)), (h0_slots, .inl (cy 4, 16, .inr (.inr (.inr (.inr (fun j => some (hP_o j)))))))] ++ zpO hP_o hP_k cP_kind cP_length cP_usage cP_role cP_uses ++ zpK (cy 0) hP_k cPK) := hD
    refine W.eq (g2 := F0 m 77 ls [.int r_4]) rfl ?_
    cases hf
    exact W.iret (pc := 77) hx hb hr (fun t ht hW => ⟨rfl, ⟨by rw [ht]; exact hP, hD⟩, hS.F ht⟩) hS.2.2 (zdt_at zt_X9_derive_0 43 rfl)
  replace hf := zt_s cn_ hf
  clear cn_
  refine lv_aload_n (pc := 20) hx hb (zdt_at zt_X9_derive_0 11 rfl) rfl (lv_at hl 1 rfl) ?_
  refine va_get (pc := 21) (D := D) (ci := 11) (v := .ref h0_slots) (C := RX9) (T := TX9) (N := 19) hx hb hts hcX9 hown hK hP 0 rfl rfl 1 (by decide) hw0 (fun _ h9 => h9) rfl (zdt_at zt_X9_derive_0 12 rfl) ?_
  refine lv_iload_n (pc := 24) hx hb (zdt_at zt_X9_derive_0 13 rfl) rfl (lv_at hl 3 rfl) ?_
  replace hf := zk_s hf
  have hj_6 : p2.toNatClampNeg < 16 := Nat.not_le.mp fun q => hf.1 (Or.inr q)
  refine va_aldq (pc := 25) (C := RX8) hx hb hK hP 9 4 rfl rfl hf.1 (zdt_at zt_X9_derive_0 14 rfl) ?_
  replace hf := hf.2
  replace hf := zb_s hf
  obtain ⟨cP_uses_7, hc_, hf⟩ := hf
  refine zcm2 (pc := 26) (rv := none) (va_runV (As := []) (rest := []) ⟨hx, hb, hml, hown, hts⟩ (c_X8_takeUse l D cy tt H.size hP_o hP_k p2.toNatClampNeg cP_uses cP_kind cP_length cP_usage cP_role cP_uses_7 hj_6 hc_) (cwV 0 hts gX9_derive_X8_takeUse rfl rfl rfl (by decide +kernel) ⟨Nat.le_of_ble_eq_true rfl, Nat.le_of_ble_eq_true rfl⟩) ⟨zblind, va_recv hK hP (ci := 10) (q0 := (10 + p2.toNatClampNeg)) rfl (zpO_getK (X := [(h0, .inr (11, [.ref h0_buffer, .ref h0_slots, .ref h0_counters, .ref h0_officerPin, .ref h0_userPin, .ref h0_words, .ref h0_sha, .ref h0_stream, .ref h0_aes, .ref h0_modes, .ref h0_gcm, .ref h0_generator, .ref h0_tests, .ref h0_message, .ref h0_secret, .int c_state, .int c_testsDone, .int c_faults, .int c_streamBegun])), (h0_buffer, .inl (cy 0, 512, .inl c_buffer)), (h0_counters, .inl (cy 1, 3, .inl c_counters)), (h0_message, .inl (cy 0, 68, .inl c_message)), (h0_secret, .inl (cy 0, 80, .inl c_secret)), (h0_sha, .inr (9, [.ref h0_sha_sums, .ref h0_sha_schedule, .ref h0_sha_inner, .int c_sha_filled, .int c_sha_total])), (h0_sha_inner, .inl (cy 0, 32, .inl c_sha_inner)), (h0_sha_schedule, .inl (cy 1, 64, .inl c_sha_schedule)), (h0_sha_sums, .inl (cy 1, 8, .inl c_sha_sums)), (h0_slots, .inl (cy 4, 16, .inr (.inr (.inr (.inr (fun j => some (hP_o j)))))))]) (n := 10) rfl hj_6), zpre hE hS (hP.sub [10, 11, 12, 13, 14, 15, 16, 17, 18, 19, 20, 21, 22, 23, 24, 25] rfl) (hD.sub [10, 11, 12, 13, 14, 15, 16, 17, 18, 19, 20, 21, 22, 23, 24, 25] (by decide) rfl) (va_free hD hS hA [10, 11, 12, 13, 14, 15, 16, 17, 18, 19, 20, 21, 22, 23, 24, 25] rfl)⟩ rfl rfl hl.1 rfl (lv_room (Nat.le_of_ble_eq_true rfl)) (zdt_at zt_X9_derive_0 15 rfl) ⟨Nat.zero_le _, Nat.zero_le _⟩) hS hP hD (va_free hD hS hA [10, 11, 12, 13, 14, 15, 16, 17, 18, 19, 20, 21, 22, 23, 24, 25] rfl) [10, 11, 12, 13, 14, 15, 16, 17, 18, 19, 20, 21, 22, 23, 24, 25] rfl (by decide) rfl ?_
  clear hP hD hS hc_
  intro H locs hP hD hS
  replace hP : va_P D vwCl ([(h0, .inr (11, [.ref h0_buffer, .ref h0_slots, .ref h0_counters, .ref h0_officerPin, .ref h0_userPin, .ref h0_words, .ref h0_sha, .ref h0_stream, .ref h0_aes, .ref h0_modes, .ref h0_gcm, .ref h0_generator, .ref h0_tests, .ref h0_message, .ref h0_secret, .int c_state, .int c_testsDone, .int c_faults, .int c_streamBegun])), (h0_buffer, .inl (cy 0, 512, .inl c_buffer)), (h0_counters, .inl (cy 1, 3, .inl c_counters)), (h0_message, .inl (cy 0, 68, .inl c_message)), (h0_secret, .inl (cy 0, 80, .inl c_secret)), (h0_sha, .inr (9, [.ref h0_sha_sums, .ref h0_sha_schedule, .ref h0_sha_inner, .int c_sha_filled, .int c_sha_total])), (h0_sha_inner, .inl (cy 0, 32, .inl c_sha_inner)), (h0_sha_schedule, .inl (cy 1, 64, .inl c_sha_schedule)), (h0_sha_sums, .inl (cy 1, 8, .inl c_sha_sums)), (h0_slots, .inl (cy 4, 16, .inr (.inr (.inr (.inr (fun j => some (hP_o j)))))))] ++ zpO hP_o hP_k cP_kind cP_length cP_usage cP_role cP_uses_7 ++ zpK (cy 0) hP_k cPK) H := hP
  replace hD : va_D A ([(h0, .inr (11, [.ref h0_buffer, .ref h0_slots, .ref h0_counters, .ref h0_officerPin, .ref h0_userPin, .ref h0_words, .ref h0_sha, .ref h0_stream, .ref h0_aes, .ref h0_modes, .ref h0_gcm, .ref h0_generator, .ref h0_tests, .ref h0_message, .ref h0_secret, .int c_state, .int c_testsDone, .int c_faults, .int c_streamBegun])), (h0_buffer, .inl (cy 0, 512, .inl c_buffer)), (h0_counters, .inl (cy 1, 3, .inl c_counters)), (h0_message, .inl (cy 0, 68, .inl c_message)), (h0_secret, .inl (cy 0, 80, .inl c_secret)), (h0_sha, .inr (9, [.ref h0_sha_sums, .ref h0_sha_schedule, .ref h0_sha_inner, .int c_sha_filled, .int c_sha_total])), (h0_sha_inner, .inl (cy 0, 32, .inl c_sha_inner)), (h0_sha_schedule, .inl (cy 1, 64, .inl c_sha_schedule)), (h0_sha_sums, .inl (cy 1, 8, .inl c_sha_sums)), (h0_slots, .inl (cy 4, 16, .inr (.inr (.inr (.inr (fun j => some (hP_o j)))))))] ++ zpO hP_o hP_k cP_kind cP_length cP_usage cP_role cP_uses_7 ++ zpK (cy 0) hP_k cPK) := hD
  refine W.eq (g2 := F0 m 29 ls []) rfl ?_
  refine lv_aload_n (pc := 29) hx hb (zdt_at zt_X9_derive_0 16 rfl) rfl (lv_at hl 1 rfl) ?_
  refine lv_aload_n (pc := 30) hx hb (zdt_at zt_X9_derive_0 17 rfl) rfl (lv_at hl 1 rfl) ?_
  refine va_get (pc := 31) (D := D) (ci := 11) (v := .ref h0_slots) (C := RX9) (T := TX9) (N := 19) hx hb hts hcX9 hown hK hP 0 rfl rfl 1 (by decide) hw0 (fun _ h9 => h9) rfl (zdt_at zt_X9_derive_0 18 rfl) ?_
  refine lv_iload_n (pc := 34) hx hb (zdt_at zt_X9_derive_0 19 rfl) rfl (lv_at hl 3 rfl) ?_
  replace hf := zk_s hf
  have hj_8 : p2.toNatClampNeg < 16 := Nat.not_le.mp fun q => hf.1 (Or.inr q)
  refine va_aldq (pc := 35) (C := RX8) hx hb hK hP 9 4 rfl rfl hf.1 (zdt_at zt_X9_derive_0 20 rfl) ?_
  replace hf := hf.2
  refine lv_iload (pc := 36) hx hb (zdt_at zt_X9_derive_0 21 rfl) (lv_at hl 6 rfl) ?_
  refine lv_iload (pc := 38) hx hb (zdt_at zt_X9_derive_0 22 rfl) (lv_at hl 7 rfl) ?_
  replace hf := zb_s hf
  obtain ⟨⟨c_message_9, c_secret_10, c_sha_filled_11, c_sha_total_12, c_sha_inner_13, c_sha_schedule_14, c_sha_sums_15⟩, hc_, hf⟩ := hf
  refine zcm2 (pc := 40) (rv := none) (va_runV (As := [.ref (hP_o p2.toNatClampNeg), .int p5, .int p6]) (rest := []) ⟨hx, hb, hml, hown, hts⟩ (c_X9_deriveBytes l D cy tt H.size h0 h0_buffer h0_slots h0_counters h0_officerPin h0_userPin h0_words h0_sha h0_stream h0_aes h0_modes h0_gcm h0_generator h0_tests h0_message h0_secret h0_sha_sums h0_sha_schedule h0_sha_inner hP_o hP_k p2.toNatClampNeg p5 p6 c_buffer c_message c_secret c_sha_filled c_sha_total c_sha_inner c_sha_schedule c_sha_sums cP_length cPK c_state c_testsDone c_faults c_streamBegun cP_kind cP_usage cP_role cP_uses_7 c_message_9 c_secret_10 c_sha_filled_11 c_sha_total_12 c_sha_inner_13 c_sha_schedule_14 c_sha_sums_15 hj_8 hc_) (cwV 3 hts gX9_derive_X9_deriveBytes rfl rfl rfl (by decide +kernel) ⟨Nat.le_of_ble_eq_true rfl, Nat.le_of_ble_eq_true rfl⟩) ⟨zblind, va_recv hK hP (ci := 11) (q0 := 0) rfl rfl, zpre hE hS (hP.sub [0, 1, 3, 4, 5, 6, 7, 8, 10, 11, 12, 13, 14, 15, 16, 17, 18, 19, 20, 21, 22, 23, 24, 25, 26, 27, 28, 29, 30, 31, 32, 33, 34, 35, 36, 37, 38, 39, 40, 41] rfl) (hD.sub [0, 1, 3, 4, 5, 6, 7, 8, 10, 11, 12, 13, 14, 15, 16, 17, 18, 19, 20, 21, 22, 23, 24, 25, 26, 27, 28, 29, 30, 31, 32, 33, 34, 35, 36, 37, 38, 39, 40, 41] (by decide) rfl) (va_free hD hS hA [0, 1, 3, 4, 5, 6, 7, 8, 10, 11, 12, 13, 14, 15, 16, 17, 18, 19, 20, 21, 22, 23, 24, 25, 26, 27, 28, 29, 30, 31, 32, 33, 34, 35, 36, 37, 38, 39, 40, 41] rfl)⟩ rfl rfl hl.1 rfl (lv_room (Nat.le_of_ble_eq_true rfl)) (zdt_at zt_X9_derive_0 23 rfl) ⟨Nat.zero_le _, Nat.zero_le _⟩) hS hP hD (va_free hD hS hA [0, 1, 3, 4, 5, 6, 7, 8, 10, 11, 12, 13, 14, 15, 16, 17, 18, 19, 20, 21, 22, 23, 24, 25, 26, 27, 28, 29, 30, 31, 32, 33, 34, 35, 36, 37, 38, 39, 40, 41] rfl) [0, 1, 3, 4, 5, 6, 7, 8, 10, 11, 12, 13, 14, 15, 16, 17, 18, 19, 20, 21, 22, 23, 24, 25, 26, 27, 28, 29, 30, 31, 32, 33, 34, 35, 36, 37, 38, 39, 40, 41] rfl (by decide) rfl ?_
  clear hP hD hS hc_
  intro H locs hP hD hS
  replace hP : va_P D vwCl ([(h0, .inr (11, [.ref h0_buffer, .ref h0_slots, .ref h0_counters, .ref h0_officerPin, .ref h0_userPin, .ref h0_words, .ref h0_sha, .ref h0_stream, .ref h0_aes, .ref h0_modes, .ref h0_gcm, .ref h0_generator, .ref h0_tests, .ref h0_message, .ref h0_secret, .int c_state, .int c_testsDone, .int c_faults, .int c_streamBegun])), (h0_buffer, .inl (cy 0, 512, .inl c_buffer)), (h0_counters, .inl (cy 1, 3, .inl c_counters)), (h0_message, .inl (cy 0, 68, .inl c_message_9)), (h0_secret, .inl (cy 0, 80, .inl c_secret_10)), (h0_sha, .inr (9, [.ref h0_sha_sums, .ref h0_sha_schedule, .ref h0_sha_inner, .int c_sha_filled_11, .int c_sha_total_12])), (h0_sha_inner, .inl (cy 0, 32, .inl c_sha_inner_13)), (h0_sha_schedule, .inl (cy 1, 64, .inl c_sha_schedule_14)), (h0_sha_sums, .inl (cy 1, 8, .inl c_sha_sums_15)), (h0_slots, .inl (cy 4, 16, .inr (.inr (.inr (.inr (fun j => some (hP_o j)))))))] ++ zpO hP_o hP_k cP_kind cP_length cP_usage cP_role cP_uses_7 ++ zpK (cy 0) hP_k cPK) H := hP
  replace hD : va_D A ([(h0, .inr (11, [.ref h0_buffer, .ref h0_slots, .ref h0_counters, .ref h0_officerPin, .ref h0_userPin, .ref h0_words, .ref h0_sha, .ref h0_stream, .ref h0_aes, .ref h0_modes, .ref h0_gcm, .ref h0_generator, .ref h0_tests, .ref h0_message, .ref h0_secret, .int c_state, .int c_testsDone, .int c_faults, .int c_streamBegun])), (h0_buffer, .inl (cy 0, 512, .inl c_buffer)), (h0_counters, .inl (cy 1, 3, .inl c_counters)), (h0_message, .inl (cy 0, 68, .inl c_message_9)), (h0_secret, .inl (cy 0, 80, .inl c_secret_10)), (h0_sha, .inr (9, [.ref h0_sha_sums, .ref h0_sha_schedule, .ref h0_sha_inner, .int c_sha_filled_11, .int c_sha_total_12])), (h0_sha_inner, .inl (cy 0, 32, .inl c_sha_inner_13)), (h0_sha_schedule, .inl (cy 1, 64, .inl c_sha_schedule_14)), (h0_sha_sums, .inl (cy 1, 8, .inl c_sha_sums_15)), (h0_slots, .inl (cy 4, 16, .inr (.inr (.inr (.inr (fun j => some (hP_o j)))))))] ++ zpO hP_o hP_k cP_kind cP_length cP_usage cP_role cP_uses_7 ++ zpK (cy 0) hP_k cPK) := hD
  refine W.eq (g2 := F0 m 43 ls []) rfl ?_
  refine lv_aload_n (pc := 43) hx hb (zdt_at zt_X9_derive_0 24 rfl) rfl (lv_at hl 1 rfl) ?_
  refine va_get (pc := 44) (D := D) (ci := 11) (v := .ref h0_slots) (C := RX9) (T := TX9) (N := 19) hx hb hts hcX9 hown hK hP 0 rfl rfl 1 (by decide) hw0 (fun _ h9 => h9) rfl (zdt_at zt_X9_derive_0 25 rfl) ?_
  refine lv_iload_n (pc := 47) hx hb (zdt_at zt_X9_derive_0 26 rfl) rfl (lv_at hl 2 rfl) ?_
  replace hf := zk_s hf
  have hj_16 : p1.toNatClampNeg < 16 := Nat.not_le.mp fun q => hf.1 (Or.inr q)
  refine va_aldq (pc := 48) (C := RX8) hx hb hK hP 9 4 rfl rfl hf.1 (zdt_at zt_X9_derive_0 27 rfl) ?_
  replace hf := hf.2
  refine lv_iload_n (pc := 49) hx hb (zdt_at zt_X9_derive_0 28 rfl) rfl (lv_at hl 4 rfl) ?_
  refine lv_iload (pc := 50) hx hb (zdt_at zt_X9_derive_0 29 rfl) (lv_at hl 5 rfl) ?_
  refine lv_aload_n (pc := 52) hx hb (zdt_at zt_X9_derive_0 30 rfl) rfl (lv_at hl 1 rfl) ?_
  replace hf := zb_s hf
  obtain ⟨r_17, hc_, hf⟩ := hf
  refine zcs (pc := 53) (rv := (some (.int r_17))) (va_runV (As := []) (rest := [.int p4, .int p3, .ref (hP_o p1.toNatClampNeg)]) ⟨hx, hb, hml, hown, hts⟩ (c_X9_holder l D cy tt H.size h0 h0_buffer h0_slots h0_counters h0_officerPin h0_userPin h0_words h0_sha h0_stream h0_aes h0_modes h0_gcm h0_generator h0_tests h0_message h0_secret c_state c_testsDone c_faults c_streamBegun r_17 hc_) (cwV 0 hts gX9_derive_X9_holder rfl rfl rfl (by decide +kernel) ⟨Nat.le_of_ble_eq_true rfl, Nat.le_of_ble_eq_true rfl⟩) ⟨zblind, va_recv hK hP (ci := 11) (q0 := 0) rfl rfl, zpre hE hS (hP.sub [0] rfl) (hD.sub [0] (by decide) rfl) (va_free hD hS hA [0] rfl)⟩ rfl rfl hl.1 rfl (lv_room (Nat.le_of_ble_eq_true rfl)) (zdt_at zt_X9_derive_0 31 rfl) ⟨Nat.zero_le _, Nat.zero_le _⟩) ?_
  clear hc_
  refine W.eq (g2 := F0 m 56 ls [.int r_17, .int p4, .int p3, .ref (hP_o p1.toNatClampNeg)]) rfl ?_
  refine lv_iconst (pc := 56) (v := (-1 : Int32)) hx hb (zdt_at zt_X9_derive_0 32 rfl) (by decide) ?_
  refine lv_aload_n (pc := 57) hx hb (zdt_at zt_X9_derive_0 33 rfl) rfl (lv_at hl 1 rfl) ?_
  refine va_get (pc := 58) (D := D) (ci := 11) (v := .ref h0_secret) (C := RX9) (T := TX9) (N := 19) hx hb hts hcX9 hown hK hP 0 rfl rfl 14 (by decide) hw1 (fun _ h9 => h9) rfl (zdt_at zt_X9_derive_0 34 rfl) ?_
  refine lv_iconst (pc := 61) (v := (0 : Int32)) hx hb (zdt_at zt_X9_derive_0 35 rfl) (by decide) ?_
  refine lv_iload (pc := 62) hx hb (zdt_at zt_X9_derive_0 36 rfl) (lv_at hl 6 rfl) ?_
  replace hf := zb_s hf
  obtain ⟨⟨cP_kind_18, cP_length_19, cP_role_20, cP_usage_21, cP_uses_22, cPK_23⟩, hc_, hf⟩ := hf
  refine zcm2 (pc := 64) (rv := none) (va_runV (As := [.int p3, .int p4, .int r_17, .int (-1 : Int32), .ref h0_secret, .int (0 : Int32), .int p5]) (rest := []) ⟨hx, hb, hml, hown, hts⟩ (c_X8_fill l D cy tt H.size h0_secret hP_o hP_k 80 p1.toNatClampNeg p3 p4 r_17 (-1 : Int32) (0 : Int32) p5 c_secret_10 cP_kind cP_length cP_role cP_usage cP_uses_7 cPK cP_kind_18 cP_length_19 cP_role_20 cP_usage_21 cP_uses_22 cPK_23 hj_16 hc_) (cwV 7 hts gX9_derive_X8_fill rfl rfl rfl (by decide +kernel) ⟨Nat.le_of_ble_eq_true rfl, Nat.le_of_ble_eq_true rfl⟩) ⟨zblind, va_recv hK hP (ci := 10) (q0 := (10 + p1.toNatClampNeg)) rfl (zpO_getK (X := [(h0, .inr (11, [.ref h0_buffer, .ref h0_slots, .ref h0_counters, .ref h0_officerPin, .ref h0_userPin, .ref h0_words, .ref h0_sha, .ref h0_stream, .ref h0_aes, .ref h0_modes, .ref h0_gcm, .ref h0_generator, .ref h0_tests, .ref h0_message, .ref h0_secret, .int c_state, .int c_testsDone, .int c_faults, .int c_streamBegun])), (h0_buffer, .inl (cy 0, 512, .inl c_buffer)), (h0_counters, .inl (cy 1, 3, .inl c_counters)), (h0_message, .inl (cy 0, 68, .inl c_message_9)), (h0_secret, .inl (cy 0, 80, .inl c_secret_10)), (h0_sha, .inr (9, [.ref h0_sha_sums, .ref h0_sha_schedule, .ref h0_sha_inner, .int c_sha_filled_11, .int c_sha_total_12])), (h0_sha_inner, .inl (cy 0, 32, .inl c_sha_inner_13)), (h0_sha_schedule, .inl (cy 1, 64, .inl c_sha_schedule_14)), (h0_sha_sums, .inl (cy 1, 8, .inl c_sha_sums_15)), (h0_slots, .inl (cy 4, 16, .inr (.inr (.inr (.inr (fun j => some (hP_o j)))))))]) (n := 10) rfl hj_16), zpre hE hS (hP.sub [4, 10, 11, 12, 13, 14, 15, 16, 17, 18, 19, 20, 21, 22, 23, 24, 25, 26, 27, 28, 29, 30, 31, 32, 33, 34, 35, 36, 37, 38, 39, 40, 41] rfl) (hD.sub [4, 10, 11, 12, 13, 14, 15, 16, 17, 18, 19, 20, 21, 22, 23, 24, 25, 26, 27, 28, 29, 30, 31, 32, 33, 34, 35, 36, 37, 38, 39, 40, 41] (by decide) rfl) (va_free hD hS hA [4, 10, 11, 12, 13, 14, 15, 16, 17, 18, 19, 20, 21, 22, 23, 24, 25, 26, 27, 28, 29, 30, 31, 32, 33, 34, 35, 36, 37, 38, 39, 40, 41] rfl)⟩ rfl rfl hl.1 rfl (lv_room (Nat.le_of_ble_eq_true rfl)) (zdt_at zt_X9_derive_0 37 rfl) ⟨Nat.zero_le _, Nat.zero_le _⟩) hS hP hD (va_free hD hS hA [4, 10, 11, 12, 13, 14, 15, 16, 17, 18, 19, 20, 21, 22, 23, 24, 25, 26, 27, 28, 29, 30, 31, 32, 33, 34, 35, 36, 37, 38, 39, 40, 41] rfl) [4, 10, 11, 12, 13, 14, 15, 16, 17, 18, 19, 20, 21, 22, 23, 24, 25, 26, 27, 28, 29, 30, 31, 32, 33, 34, 35, 36, 37, 38, 39, 40, 41] rfl (by decide) rfl ?_
  clear hP hD hS hc_
  intro H locs hP hD hS
  replace hP : va_P D vwCl ([(h0, .inr (11, [.ref h0_buffer, .ref h0_slots, .ref h0_counters, .ref h0_officerPin, .ref h0_userPin, .ref h0_words, .ref h0_sha, .ref h0_stream, .ref h0_aes, .ref h0_modes, .ref h0_gcm, .ref h0_generator, .ref h0_tests, .ref h0_message, .ref h0_secret, .int c_state, .int c_testsDone, .int c_faults, .int c_streamBegun])), (h0_buffer, .inl (cy 0, 512, .inl c_buffer)), (h0_counters, .inl (cy 1, 3, .inl c_counters)), (h0_message, .inl (cy 0, 68, .inl c_message_9)), (h0_secret, .inl (cy 0, 80, .inl c_secret_10)), (h0_sha, .inr (9, [.ref h0_sha_sums, .ref h0_sha_schedule, .ref h0_sha_inner, .int c_sha_filled_11, .int c_sha_total_12])), (h0_sha_inner, .inl (cy 0, 32, .inl c_sha_inner_13)), (h0_sha_schedule, .inl (cy 1, 64, .inl c_sha_schedule_14)), (h0_sha_sums, .inl (cy 1, 8, .inl c_sha_sums_15)), (h0_slots, .inl (cy 4, 16, .inr (.inr (.inr (.inr (fun j => some (hP_o j)))))))] ++ zpO hP_o hP_k cP_kind_18 cP_length_19 cP_usage_21 cP_role_20 cP_uses_22 ++ zpK (cy 0) hP_k cPK_23) H := hP
  replace hD : va_D A ([(h0, .inr (11, [.ref h0_buffer, .ref h0_slots, .ref h0_counters, .ref h0_officerPin, .ref h0_userPin, .ref h0_words, .ref h0_sha, .ref h0_stream, .ref h0_aes, .ref h0_modes, .ref h0_gcm, .ref h0_generator, .ref h0_tests, .ref h0_message, .ref h0_secret, .int c_state, .int c_testsDone, .int c_faults, .int c_streamBegun])), (h0_buffer, .inl (cy 0, 512, .inl c_buffer)), (h0_counters, .inl (cy 1, 3, .inl c_counters)), (h0_message, .inl (cy 0, 68, .inl c_message_9)), (h0_secret, .inl (cy 0, 80, .inl c_secret_10)), (h0_sha, .inr (9, [.ref h0_sha_sums, .ref h0_sha_schedule, .ref h0_sha_inner, .int c_sha_filled_11, .int c_sha_total_12])), (h0_sha_inner, .inl (cy 0, 32, .inl c_sha_inner_13)), (h0_sha_schedule, .inl (cy 1, 64, .inl c_sha_schedule_14)), (h0_sha_sums, .inl (cy 1, 8, .inl c_sha_sums_15)), (h0_slots, .inl (cy 4, 16, .inr (.inr (.inr (.inr (fun j => some (hP_o j)))))))] ++ zpO hP_o hP_k cP_kind_18 cP_length_19 cP_usage_21 cP_role_20 cP_uses_22 ++ zpK (cy 0) hP_k cPK_23) := hD
  refine W.eq (g2 := F0 m 67 ls []) rfl ?_
  refine lv_aload_n (pc := 67) hx hb (zdt_at zt_X9_derive_0 38 rfl) rfl (lv_at hl 1 rfl) ?_
  replace hf := zb_s hf
  obtain ⟨c_secret_24, hc_, hf⟩ := hf
  refine zcm2 (pc := 68) (rv := none) (va_runV (As := []) (rest := []) ⟨hx, hb, hml, hown, hts⟩ (c_X9_forgetSecret l D cy tt H.size h0 h0_buffer h0_slots h0_counters h0_officerPin h0_userPin h0_words h0_sha h0_stream h0_aes h0_modes h0_gcm h0_generator h0_tests h0_message h0_secret c_secret_10 c_state c_testsDone c_faults c_streamBegun c_secret_24 hc_) (cwV 0 hts gX9_derive_X9_forgetSecret rfl rfl rfl (by decide +kernel) ⟨Nat.le_of_ble_eq_true rfl, Nat.le_of_ble_eq_true rfl⟩) ⟨zblind, va_recv hK hP (ci := 11) (q0 := 0) rfl rfl, zpre hE hS (hP.sub [0, 4] rfl) (hD.sub [0, 4] (by decide) rfl) (va_free hD hS hA [0, 4] rfl)⟩ rfl rfl hl.1 rfl (lv_room (Nat.le_of_ble_eq_true rfl)) (zdt_at zt_X9_derive_0 39 rfl) ⟨Nat.zero_le _, Nat.zero_le _⟩) hS hP hD (va_free hD hS hA [0, 4] rfl) [0, 4] rfl (by decide) rfl ?_
  clear hP hD hS hc_
  intro H locs hP hD hS
  replace hP : va_P D vwCl ([(h0, .inr (11, [.ref h0_buffer, .ref h0_slots, .ref h0_counters, .ref h0_officerPin, .ref h0_userPin, .ref h0_words, .ref h0_sha, .ref h0_stream, .ref h0_aes, .ref h0_modes, .ref h0_gcm, .ref h0_generator, .ref h0_tests, .ref h0_message, .ref h0_secret, .int c_state, .int c_testsDone, .int c_faults, .int c_streamBegun])), (h0_buffer, .inl (cy 0, 512, .inl c_buffer)), (h0_counters, .inl (cy 1, 3, .inl c_counters)), (h0_message, .inl (cy 0, 68, .inl c_message_9)), (h0_secret, .inl (cy 0, 80, .inl c_secret_24)), (h0_sha, .inr (9, [.ref h0_sha_sums, .ref h0_sha_schedule, .ref h0_sha_inner, .int c_sha_filled_11, .int c_sha_total_12])), (h0_sha_inner, .inl (cy 0, 32, .inl c_sha_inner_13)), (h0_sha_schedule, .inl (cy 1, 64, .inl c_sha_schedule_14)), (h0_sha_sums, .inl (cy 1, 8, .inl c_sha_sums_15)), (h0_slots, .inl (cy 4, 16, .inr (.inr (.inr (.inr (fun j => some (hP_o j)))))))] ++ zpO hP_o hP_k cP_kind_18 cP_length_19 cP_usage_21 cP_role_20 cP_uses_22 ++ zpK (cy 0) hP_k cPK_23) H := hP
  replace hD : va_D A ([(h0, .inr (11, [.ref h0_buffer, .ref h0_slots, .ref h0_counters, .ref h0_officerPin, .ref h0_userPin, .ref h0_words, .ref h0_sha, .ref h0_stream, .ref h0_aes, .ref h0_modes, .ref h0_gcm, .ref h0_generator, .ref h0_tests, .ref h0_message, .ref h0_secret, .int c_state, .int c_testsDone, .int c_faults, .int c_streamBegun])), (h0_buffer, .inl (cy 0, 512, .inl c_buffer)), (h0_counters, .inl (cy 1, 3, .inl c_counters)), (h0_message, .inl (cy 0, 68, .inl c_message_9)), (h0_secret, .inl (cy 0, 80, .inl c_secret_24)), (h0_sha, .inr (9, [.ref h0_sha_sums, .ref h0_sha_schedule, .ref h0_sha_inner, .int c_sha_filled_11, .int c_sha_total_12])), (h0_sha_inner, .inl (cy 0, 32, .inl c_sha_inner_13)), (h0_sha_schedule, .inl (cy 1, 64, .inl c_sha_schedule_14)), (h0_sha_sums, .inl (cy 1, 8, .inl c_sha_sums_15)), (h0_slots, .inl (cy 4, 16, .inr (.inr (.inr (.inr (fun j => some (hP_o j)))))))] ++ zpO hP_o hP_k cP_kind_18 cP_length_19 cP_usage_21 cP_role_20 cP_uses_22 ++ zpK (cy 0) hP_k cPK_23) := hD
  refine W.eq (g2 := F0 m 71 ls []) rfl ?_
  refine lv_aload_n (pc := 71) hx hb (zdt_at zt_X9_derive_0 40 rfl) rfl (lv_at hl 1 rfl) ?_
  refine lv_iload (pc := 72) hx hb (zdt_at zt_X9_derive_0 41 rfl) (lv_at hl 0 rfl) ?_
  replace hf := zb_s hf
  obtain ⟨⟨r_25, c_counters_26⟩, hc_, hf⟩ := hf
  refine zcm2 (pc := 74) (rv := (some (.int r_25))) (va_runV (As := [.int r_1]) (rest := []) ⟨hx, hb, hml, hown, hts⟩ (c_X9_counted l D cy tt H.size h0 h0_buffer h0_slots h0_counters h0_officerPin h0_userPin h0_words h0_sha h0_stream h0_aes h0_modes h0_gcm h0_generator h0_tests h0_message h0_secret r_1 c_counters c_state c_testsDone c_faults c_streamBegun r_25 c_counters_26 hc_) (cwV 1 hts gX9_derive_X9_counted rfl rfl rfl (by decide +kernel) ⟨Nat.le_of_ble_eq_true rfl, Nat.le_of_ble_eq_true rfl⟩) ⟨zblind, va_recv hK hP (ci := 11) (q0 := 0) rfl rfl, zpre hE hS (hP.sub [0, 2] rfl) (hD.sub [0, 2] (by decide) rfl) (va_free hD hS hA [0, 2] rfl)⟩ rfl rfl hl.1 rfl (lv_room (Nat.le_of_ble_eq_true rfl)) (zdt_at zt_X9_derive_0 42 rfl) ⟨Nat.zero_le _, Nat.zero_le _⟩) hS hP hD (va_free hD hS hA [0, 2] rfl) [0, 2] rfl (by decide) rfl ?_
  clear hP hD hS hc_
  intro H locs hP hD hS
  replace hP : va_P D vwCl ([(h0, .inr (11, [.ref h0_buffer, .ref h0_slots, .ref h0_counters, .ref h0_officerPin, .ref h0_userPin, .ref h0_words, .ref h0_sha, .ref h0_stream, .ref h0_aes, .ref h0_modes, .ref h0_gcm, .ref h0_generator, .ref h0_tests, .ref h0_message, .ref h0_secret, .int c_state, .int c_testsDone, .int c_faults, .int c_streamBegun])), (h0_buffer, .inl (cy 0, 512, .inl c_buffer)), (h0_counters, .inl (cy 1, 3, .inl c_counters_26)), (h0_message, .inl (cy 0, 68, .inl c_message_9)), (h0_secret, .inl (cy 0, 80, .inl c_secret_24)), (h0_sha, .inr (9, [.ref h0_sha_sums, .ref h0_sha_schedule, .ref h0_sha_inner, .int c_sha_filled_11, .int c_sha_total_12])), (h0_sha_inner, .inl (cy 0, 32, .inl c_sha_inner_13)), (h0_sha_schedule, .inl (cy 1, 64, .inl c_sha_schedule_14)), (h0_sha_sums, .inl (cy 1, 8, .inl c_sha_sums_15)), (h0_slots, .inl (cy 4, 16, .inr (.inr (.inr (.inr (fun j => some (hP_o j)))))))] ++ zpO hP_o hP_k cP_kind_18 cP_length_19 cP_usage_21 cP_role_20 cP_uses_22 ++ zpK (cy 0) hP_k cPK_23) H := hP
  replace hD : va_D A ([(h0, .inr (11, [.ref h0_buffer, .ref h0_slots, .ref h0_counters, .ref h0_officerPin, .ref h0_userPin, .ref h0_words, .ref h0_sha, .ref h0_stream, .ref h0_aes, .ref h0_modes, .ref h0_gcm, .ref h0_generator, .ref h0_tests, .ref h0_message, .ref h0_secret, .int c_state, .int c_testsDone, .int c_faults, .int c_streamBegun])), (h0_buffer, .inl (cy 0, 512, .inl c_buffer)), (h0_counters, .inl (cy 1, 3, .inl c_counters_26)), (h0_message, .inl (cy 0, 68, .inl c_message_9)), (h0_secret, .inl (cy 0, 80, .inl c_secret_24)), (h0_sha, .inr (9, [.ref h0_sha_sums, .ref h0_sha_schedule, .ref h0_sha_inner, .int c_sha_filled_11, .int c_sha_total_12])), (h0_sha_inner, .inl (cy 0, 32, .inl c_sha_inner_13)), (h0_sha_schedule, .inl (cy 1, 64, .inl c_sha_schedule_14)), (h0_sha_sums, .inl (cy 1, 8, .inl c_sha_sums_15)), (h0_slots, .inl (cy 4, 16, .inr (.inr (.inr (.inr (fun j => some (hP_o j)))))))] ++ zpO hP_o hP_k cP_kind_18 cP_length_19 cP_usage_21 cP_role_20 cP_uses_22 ++ zpK (cy 0) hP_k cPK_23) := hD
  refine W.eq (g2 := F0 m 77 ls [.int r_25]) rfl ?_
  cases hf
  exact W.iret (pc := 77) hx hb hr (fun t ht hW => ⟨rfl, ⟨by rw [ht]; exact hP, hD⟩, hS.F ht⟩) hS.2.2 (zdt_at zt_X9_derive_0 43 rfl)
def f_X9_wrapKeysRefusal (j1 : Nat) (j2 : Nat) (c_state : Int32) (cP_kind : Nat → Int32) (cP_length : Nat → Int32) (cP_role : Nat → Int32) (cP_usage : Nat → Int32) (cP_uses : Nat → Int32) : Option (Int32) :=
  (f_X9_isForeign j1 c_state cP_kind cP_role).bind (fun r_1 => if r_1 = 0 then (f_X9_isForeign j2 c_state cP_kind cP_role).bind (fun r_4 => if r_4 = 0 then (f_X8_isEmpty j1 cP_kind).bind (fun r_7 => if r_7 = 0 then (f_X8_isEmpty j2 cP_kind).bind (fun r_10 => if r_10 = 0 then if (cP_kind j2) = (1 : Int32) then zk (¬ (8 : Int32) = 0) (if ((cP_length j1) - (cP_length j1) / (8 : Int32) * (8 : Int32)) = 0 then (f_X8_allows j2 (16 : Int32) cP_usage).bind (fun r_17 => if r_17 = 0 then some (-6 : Int32) else (f_X8_allows j1 (32 : Int32) cP_usage).bind (fun r_20 => if r_20 = 0 then some (-6 : Int32) else if (cP_uses j1) = 0 then some (-7 : Int32) else if (cP_uses j2) = 0 then some (-7 : Int32) else some (0 : Int32))) else some (-5 : Int32)) else some (-5 : Int32) else some (-4 : Int32)) else some (-4 : Int32)) else some (-3 : Int32)) else some (-3 : Int32))
set_option maxHeartbeats 4000000 in
set_option maxRecDepth 100000 in
theorem c_X9_wrapKeysRefusal (l : Launch) (D : va_G) (cy : Nat → ClassId) (tt : Nat → Nat) (sz : Nat) (h0 : Nat) (h0_buffer : Nat) (h0_slots : Nat) (h0_counters : Nat) (h0_officerPin : Nat) (h0_userPin : Nat) (h0_words : Nat) (h0_sha : Nat) (h0_stream : Nat) (h0_aes : Nat) (h0_modes : Nat) (h0_gcm : Nat) (h0_generator : Nat) (h0_tests : Nat) (h0_message : Nat) (h0_secret : Nat) (hP_o : Nat → Nat) (hP_k : Nat → Nat) (j1 : Nat) (j2 : Nat) (c_state : Int32) (cP_kind : Nat → Int32) (cP_length : Nat → Int32) (cP_role : Nat → Int32) (cP_usage : Nat → Int32) (cP_uses : Nat → Int32) (c_testsDone : Int32) (c_faults : Int32) (c_streamBegun : Int32) (r_ : Int32) (hj_j1 : j1 < 16) (hj_j2 : j2 < 16) (hf : f_X9_wrapKeysRefusal j1 j2 c_state cP_kind cP_length cP_role cP_usage cP_uses = some r_) : Met l yX9_wrapKeysRefusal wsX9_wrapKeysRefusal ({ frames := 2, cells := 0, slots := 0, locals := 41 }) (zPc D cy tt sz [.ref h0, .ref (hP_o j1), .ref (hP_o j2)] ([(h0, .inr (11, [.ref h0_buffer, .ref h0_slots, .ref h0_counters, .ref h0_officerPin, .ref h0_userPin, .ref h0_words, .ref h0_sha, .ref h0_stream, .ref h0_aes, .ref h0_modes, .ref h0_gcm, .ref h0_generator, .ref h0_tests, .ref h0_message, .ref h0_secret, .int c_state, .int c_testsDone, .int c_faults, .int c_streamBegun]))] ++ zpO hP_o hP_k cP_kind cP_length cP_usage cP_role cP_uses)) (fun _ st o t => o = .returned (some (.int r_)) ∧ t.heap = st.heap) 0 0 (fun _ => False) := by
  refine Met.ofW (cc := cX9_wrapKeysRefusal) (maxL := 3) (ret := (some .int)) (by decide) rfl ?_
  intro p e s m args below meth c s₁ B hml hv
  obtain ⟨rfl, rfl, hP, hD0, hE⟩ := hv
  have hx := B.exec
  have hb := B.bytes
  have hr := B.returns
  have hts := atoms_spec (ws := wsX9_wrapKeysRefusal) B.pre
  have hown : s.vm.findClass RX9 = some m.cls := findClass_of_methodNamed B.named
  have hlocks := B.notSynchronized
  clear B
  have hD := hD0.self (sz := s.heap.size)
  generalize hAe : va_A ([(h0, .inr (11, [.ref h0_buffer, .ref h0_slots, .ref h0_counters, .ref h0_officerPin, .ref h0_userPin, .ref h0_words, .ref h0_sha, .ref h0_stream, .ref h0_aes, .ref h0_modes, .ref h0_gcm, .ref h0_generator, .ref h0_tests, .ref h0_message, .ref h0_secret, .int c_state, .int c_testsDone, .int c_faults, .int c_streamBegun]))] ++ zpO hP_o hP_k cP_kind cP_length cP_usage cP_role cP_uses) s.heap.size = A at hD hE
  have hA : ∀ q : Nat, s.heap.size ≤ q → A q := fun q h => by rw [← hAe]; exact Or.inr h
  clear hAe hD0
  have hS : va_S A s.heap s.heap [] := va_S.rf
  have hK := hE.1
  have hw0 := hts (.fieldLink RX9 204 "SealedModule$Slot" "kind" "I") (by decide +kernel)
  have hw1 := hts (.fieldLink RX9 207 "SealedModule$Slot" "length" "I") (by decide +kernel)
  have hw2 := hts (.fieldLink RX9 216 "SealedModule$Slot" "uses" "I") (by decide +kernel)
  have hcX8 : ∀ w ∈ u_ws RX8 TX8 6, w ∈ wsX9_wrapKeysRefusal := (fun _ h => List.mem_cons_of_mem _ (List.mem_append_left _ (List.mem_append_right _ h)))
  have hl := lv_entry ([.ref h0, .ref (hP_o j1), .ref (hP_o j2)]) (n := 3) (Nat.le_of_ble_eq_true rfl)
  rw [lg_entry_eq]
  generalize (lg_sl ([.ref h0, .ref (hP_o j1), .ref (hP_o j2)]) ++ List.replicate (3 - (lg_sl ([.ref h0, .ref (hP_o j1), .ref (hP_o j2)])).length) Slot.unset).toArray = ls at hl ⊢
  replace hl : lv_has ls 3 [(0, .ref h0), (1, .ref (hP_o j1)), (2, .ref (hP_o j2))] := hl
  unfold f_X9_wrapKeysRefusal at hf
  refine zgo (fun GW hTo hFr => ?_)
  refine hFr _ _ _ ?_
  refine lv_aload_n (pc := 0) hx hb (zdt_at zt_X9_wrapKeysRefusal_0 0 rfl) rfl (lv_at hl 0 rfl) ?_
  refine lv_aload_n (pc := 1) hx hb (zdt_at zt_X9_wrapKeysRefusal_0 1 rfl) rfl (lv_at hl 1 rfl) ?_
  replace hf := zb_s hf
  obtain ⟨r_1, hc_, hf⟩ := hf
  refine zcs (pc := 2) (rv := (some (.int r_1))) (va_runV (As := [.ref (hP_o j1)]) (rest := []) ⟨hx, hb, hml, hown, hts⟩ (c_X9_isForeign l D cy tt s.heap.size h0 h0_buffer h0_slots h0_counters h0_officerPin h0_userPin h0_words h0_sha h0_stream h0_aes h0_modes h0_gcm h0_generator h0_tests h0_message h0_secret hP_o hP_k j1 c_state cP_kind cP_role c_testsDone c_faults c_streamBegun cP_length cP_usage cP_uses r_1 hj_j1 hc_) (cwV 1 hts gX9_wrapKeysRefusal_X9_isForeign rfl rfl rfl (by decide +kernel) ⟨Nat.le_of_ble_eq_true rfl, Nat.le_of_ble_eq_true rfl⟩) ⟨zblind, va_recv hK hP (ci := 11) (q0 := 0) rfl rfl, zpre hE hS (hP.sub [0, 1, 2, 3, 4, 5, 6, 7, 8, 9, 10, 11, 12, 13, 14, 15, 16] rfl) (hD.sub [0, 1, 2, 3, 4, 5, 6, 7, 8, 9, 10, 11, 12, 13, 14, 15, 16] (by decide) rfl) (va_free hD hS hA [0, 1, 2, 3, 4, 5, 6, 7, 8, 9, 10, 11, 12, 13, 14, 15, 16] rfl)⟩ rfl rfl hl.1 rfl (lv_room (Nat.le_of_ble_eq_true rfl)) (zdt_at zt_X9_wrapKeysRefusal_0 2 rfl) ⟨Nat.zero_le _, Nat.zero_le _⟩) ?_
  clear hc_
  refine W.eq (g2 := F0 m 5 ls [.int r_1]) rfl ?_
  refine lv_if_ne (pc := 5) (tgt := 16) hx hb (zdt_at zt_X9_wrapKeysRefusal_0 3 rfl) (by decide) (fun cn_ => ?t_2) (fun cn_ => ?f_3)
  case t_2 =>
    replace hf := ze_s cn_ hf
    clear cn_
    refine lv_bipush (pc := 16) (v := (-3 : Int32)) hx hb (zdt_at zt_X9_wrapKeysRefusal_0 8 rfl) (by decide) ?_
    cases hf
    exact W.iret (pc := 18) hx hb hr (fun t ht hW => ⟨rfl, ht⟩) (fun _ h => nomatch h) (zdt_at zt_X9_wrapKeysRefusal_0 9 rfl)
  replace hf := zt_s cn_ hf
  clear cn_
  refine lv_aload_n (pc := 8) hx hb (zdt_at zt_X9_wrapKeysRefusal_0 4 rfl) rfl (lv_at hl 0 rfl) ?_
  refine lv_aload_n (pc := 9) hx hb (zdt_at zt_X9_wrapKeysRefusal_0 5 rfl) rfl (lv_at hl 2 rfl) ?_
  replace hf := zb_s hf
  obtain ⟨r_4, hc_, hf⟩ := hf
  refine zcs (pc := 10) (rv := (some (.int r_4))) (va_runV (As := [.ref (hP_o j2)]) (rest := []) ⟨hx, hb, hml, hown, hts⟩ (c_X9_isForeign l D cy tt s.heap.size h0 h0_buffer h0_slots h0_counters h0_officerPin h0_userPin h0_words h0_sha h0_stream h0_aes h0_modes h0_gcm h0_generator h0_tests h0_message h0_secret hP_o hP_k j2 c_state cP_kind cP_role c_testsDone c_faults c_streamBegun cP_length cP_usage cP_uses r_4 hj_j2 hc_) (cwV 1 hts gX9_wrapKeysRefusal_X9_isForeign rfl rfl rfl (by decide +kernel) ⟨Nat.le_of_ble_eq_true rfl, Nat.le_of_ble_eq_true rfl⟩) ⟨zblind, va_recv hK hP (ci := 11) (q0 := 0) rfl rfl, zpre hE hS (hP.sub [0, 1, 2, 3, 4, 5, 6, 7, 8, 9, 10, 11, 12, 13, 14, 15, 16] rfl) (hD.sub [0, 1, 2, 3, 4, 5, 6, 7, 8, 9, 10, 11, 12, 13, 14, 15, 16] (by decide) rfl) (va_free hD hS hA [0, 1, 2, 3, 4, 5, 6, 7, 8, 9, 10, 11, 12, 13, 14, 15, 16] rfl)⟩ rfl rfl hl.1 rfl (lv_room (Nat.le_of_ble_eq_true rfl)) (zdt_at zt_X9_wrapKeysRefusal_0 6 rfl) ⟨Nat.zero_le _, Nat.zero_le _⟩) ?_
  clear hc_
  refine W.eq (g2 := F0 m 13 ls [.int r_4]) rfl ?_
  refine lv_if_eq (pc := 13) (tgt := 19) hx hb (zdt_at zt_X9_wrapKeysRefusal_0 7 rfl) (by decide) (fun cn_ => ?t_5) (fun cn_ => ?f_6)
  case f_6 =>
    replace hf := ze_s cn_ hf
    clear cn_
    refine lv_bipush (pc := 16) (v := (-3 : Int32)) hx hb (zdt_at zt_X9_wrapKeysRefusal_0 8 rfl) (by decide) ?_
    cases hf
    exact W.iret (pc := 18) hx hb hr (fun t ht hW => ⟨rfl, ht⟩) (fun _ h => nomatch h) (zdt_at zt_X9_wrapKeysRefusal_0 9 rfl)
  replace hf := zt_s cn_ hf
  clear cn_
  refine lv_aload_n (pc := 19) hx hb (zdt_at zt_X9_wrapKeysRefusal_0 10 rfl) rfl (lv_at hl 1 rfl) ?_
  replace hf := zb_s hf
  obtain ⟨r_7, hc_, hf⟩ := hf
  refine zcs (pc := 20) (rv := (some (.int r_7))) (va_runV (As := []) (rest := []) ⟨hx, hb, hml, hown, hts⟩ (c_X8_isEmpty l D cy tt s.heap.size hP_o hP_k j1 cP_kind cP_length cP_usage cP_role cP_uses r_7 hj_j1 hc_) (cwV 0 hts gX9_wrapKeysRefusal_X8_isEmpty rfl rfl rfl (by decide +kernel) ⟨Nat.le_of_ble_eq_true rfl, Nat.le_of_ble_eq_true rfl⟩) ⟨zblind, va_recv hK hP (ci := 10) (q0 := (1 + j1)) rfl (zpO_get (X := [(h0, .inr (11, [.ref h0_buffer, .ref h0_slots, .ref h0_counters, .ref h0_officerPin, .ref h0_userPin, .ref h0_words, .ref h0_sha, .ref h0_stream, .ref h0_aes, .ref h0_modes, .ref h0_gcm, .ref h0_generator, .ref h0_tests, .ref h0_message, .ref h0_secret, .int c_state, .int c_testsDone, .int c_faults, .int c_streamBegun]))]) (n := 1) rfl hj_j1), zpre hE hS (hP.sub [1, 2, 3, 4, 5, 6, 7, 8, 9, 10, 11, 12, 13, 14, 15, 16] rfl) (hD.sub [1, 2, 3, 4, 5, 6, 7, 8, 9, 10, 11, 12, 13, 14, 15, 16] (by decide) rfl) (va_free hD hS hA [1, 2, 3, 4, 5, 6, 7, 8, 9, 10, 11, 12, 13, 14, 15, 16] rfl)⟩ rfl rfl hl.1 rfl (lv_room (Nat.le_of_ble_eq_true rfl)) (zdt_at zt_X9_wrapKeysRefusal_0 11 rfl) ⟨Nat.zero_le _, Nat.zero_le _⟩) ?_
  clear hc_
  refine W.eq (g2 := F0 m 23 ls [.int r_7]) rfl ?_
  refine lv_if_ne (pc := 23) (tgt := 33) hx hb (zdt_at zt_X9_wrapKeysRefusal_0 12 rfl) (by decide) (fun cn_ => ?t_8) (fun cn_ => ?f_9)
  case t_8 =>
    replace hf := ze_s cn_ hf
    clear cn_
    refine lv_bipush (pc := 33) (v := (-4 : Int32)) hx hb (zdt_at zt_X9_wrapKeysRefusal_0 16 rfl) (by decide) ?_
    cases hf
    exact W.iret (pc := 35) hx hb hr (fun t ht hW => ⟨rfl, ht⟩) (fun _ h => nomatch h) (zdt_at zt_X9_wrapKeysRefusal_0 17 rfl)
  replace hf := zt_s cn_ hf
  clear cn_
  refine lv_aload_n (pc := 26) hx hb (zdt_at zt_X9_wrapKeysRefusal_0 13 rfl) rfl (lv_at hl 2 rfl) ?_
  replace hf := zb_s hf
  obtain ⟨r_10, hc_, hf⟩ := hf
  refine zcs (pc := 27) (rv := (some (.int r_10))) (va_runV (As := []) (rest := []) ⟨hx, hb, hml, hown, hts⟩ (c_X8_isEmpty l D cy tt s.heap.size hP_o hP_k j2 cP_kind cP_length cP_usage cP_role cP_uses r_10 hj_j2 hc_) (cwV 0 hts gX9_wrapKeysRefusal_X8_isEmpty rfl rfl rfl (by decide +kernel) ⟨Nat.le_of_ble_eq_true rfl, Nat.le_of_ble_eq_true rfl⟩) ⟨zblind, va_recv hK hP (ci := 10) (q0 := (1 + j2)) rfl (zpO_get (X := [(h0, .inr (11, [.ref h0_buffer, .ref h0_slots, .ref h0_counters, .ref h0_officerPin, .ref h0_userPin, .ref h0_words, .ref h0_sha, .ref h0_stream, .ref h0_aes, .ref h0_modes, .ref h0_gcm, .ref h0_generator, .ref h0_tests, .ref h0_message, .ref h0_secret, .int c_state, .int c_testsDone, .int c_faults, .int c_streamBegun]))]) (n := 1) rfl hj_j2), zpre hE hS (hP.sub [1, 2, 3, 4, 5, 6, 7, 8, 9, 10, 11, 12, 13, 14, 15, 16] rfl) (hD.sub [1, 2, 3, 4, 5, 6, 7, 8, 9, 10, 11, 12, 13, 14, 15, 16] (by decide) rfl) (va_free hD hS hA [1, 2, 3, 4, 5, 6, 7, 8, 9, 10, 11, 12, 13, 14, 15, 16] rfl)⟩ rfl rfl hl.1 rfl (lv_room (Nat.le_of_ble_eq_true rfl)) (zdt_at zt_X9_wrapKeysRefusal_0 14 rfl) ⟨Nat.zero_le _, Nat.zero_le _⟩) ?_
  clear hc_
  refine W.eq (g2 := F0 m 30 ls [.int r_10]) rfl ?_
  refine lv_if_eq (pc := 30) (tgt := 36) hx hb (zdt_at zt_X9_wrapKeysRefusal_0 15 rfl) (by decide) (fun cn_ => ?t_11) (fun cn_ => ?f_12)
  case f_12 =>
    replace hf := ze_s cn_ hf
    clear cn_
    refine lv_bipush (pc := 33) (v := (-4 : Int32)) hx hb (zdt_at zt_X9_wrapKeysRefusal_0 16 rfl) (by decide) ?_
    cases hf
    exact W.iret (pc := 35) hx hb hr (fun t ht hW => ⟨rfl, ht⟩) (fun _ h => nomatch h) (zdt_at zt_X9_wrapKeysRefusal_0 17 rfl)
  replace hf := zt_s cn_ hf
  clear cn_
  refine lv_aload_n (pc := 36) hx hb (zdt_at zt_X9_wrapKeysRefusal_0 18 rfl) rfl (lv_at hl 2 rfl) ?_
  refine va_get (pc := 37) (D := D) (ci := 10) (v := .int (cP_kind j2)) (C := RX8) (T := TX8) (N := 6) hx hb hts hcX8 hown hK hP (1 + j2) (zpO_get (X := [(h0, .inr (11, [.ref h0_buffer, .ref h0_slots, .ref h0_counters, .ref h0_officerPin, .ref h0_userPin, .ref h0_words, .ref h0_sha, .ref h0_stream, .ref h0_aes, .ref h0_modes, .ref h0_gcm, .ref h0_generator, .ref h0_tests, .ref h0_message, .ref h0_secret, .int c_state, .int c_testsDone, .int c_faults, .int c_streamBegun]))]) (n := 1) rfl hj_j2) rfl 1 (by decide) hw0 (fun _ h9 => h9) rfl (zdt_at zt_X9_wrapKeysRefusal_0 19 rfl) ?_
  refine lv_iconst (pc := 40) (v := (1 : Int32)) hx hb (zdt_at zt_X9_wrapKeysRefusal_0 20 rfl) (by decide) ?_
  refine lv_icmp_ne (pc := 41) (tgt := 54) hx hb (zdt_at zt_X9_wrapKeysRefusal_0 21 rfl) (by decide) (fun cn_ => ?t_13) (fun cn_ => ?f_14)
  case t_13 =>
    replace hf := ze_s cn_ hf
    clear cn_
    refine lv_bipush (pc := 54) (v := (-5 : Int32)) hx hb (zdt_at zt_X9_wrapKeysRefusal_0 27 rfl) (by decide) ?_
    cases hf
    exact W.iret (pc := 56) hx hb hr (fun t ht hW => ⟨rfl, ht⟩) (fun _ h => nomatch h) (zdt_at zt_X9_wrapKeysRefusal_0 28 rfl)
  replace hf := zt_s cn_ hf
  clear cn_
  refine lv_aload_n (pc := 44) hx hb (zdt_at zt_X9_wrapKeysRefusal_0 22 rfl) rfl (lv_at hl 1 rfl) ?_
  refine va_get (pc := 45) (D := D) (ci := 10) (v := .int (cP_length j1)) (C := RX8) (T := TX8) (N := 6) hx hb hts hcX8 hown hK hP (1 + j1) (zpO_get (X := [(h0, .inr (11, [.ref h0_buffer, .ref h0_slots, .ref h0_counters, .ref h0_officerPin, .ref h0_userPin, .ref h0_words, .ref h0_sha, .ref h0_stream, .ref h0_aes, .ref h0_modes, .ref h0_gcm, .ref h0_generator, .ref h0_tests, .ref h0_message, .ref h0_secret, .int c_state, .int c_testsDone, .int c_faults, .int c_streamBegun]))]) (n := 1) rfl hj_j1) rfl 2 (by decide) hw1 (fun _ h9 => h9) rfl (zdt_at zt_X9_wrapKeysRefusal_0 23 rfl) ?_
  refine lv_bipush (pc := 48) (v := (8 : Int32)) hx hb (zdt_at zt_X9_wrapKeysRefusal_0 24 rfl) (by decide) ?_
  replace hf := zk_s hf
  refine lv_irem (pc := 50) hx hb (zdt_at zt_X9_wrapKeysRefusal_0 25 rfl) hf.1 ?_
  replace hf := hf.2
  refine lv_if_eq (pc := 51) (tgt := 57) hx hb (zdt_at zt_X9_wrapKeysRefusal_0 26 rfl) (by decide) (fun cn_ => ?t_15) (fun cn_ => ?f_16)
  case f_16 =>
    replace hf := ze_s cn_ hf
    clear cn_
    refine lv_bipush (pc := 54) (v := (-5 : Int32)) hx hb (zdt_at zt_X9_wrapKeysRefusal_0 27 rfl) (by decide) ?_
    cases hf
    exact W.iret (pc := 56) hx hb hr (fun t ht hW => ⟨rfl, ht⟩) (fun _ h => nomatch h) (zdt_at zt_X9_wrapKeysRefusal_0 28 rfl)
  replace hf := zt_s cn_ hf
  clear cn_
  refine lv_aload_n (pc := 57) hx hb (zdt_at zt_X9_wrapKeysRefusal_0 29 rfl) rfl (lv_at hl 2 rfl) ?_
  refine lv_bipush (pc := 58) (v := (16 : Int32)) hx hb (zdt_at zt_X9_wrapKeysRefusal_0 30 rfl) (by decide) ?_
  replace hf := zb_s hf
  obtain ⟨r_17, hc_, hf⟩ := hf
  refine zcs (pc := 60) (rv := (some (.int r_17))) (va_runV (As := [.int (16 : Int32)]) (rest := []) ⟨hx, hb, hml, hown, hts⟩ (c_X8_allows l D cy tt s.heap.size hP_o hP_k j2 (16 : Int32) cP_usage cP_kind cP_length cP_role cP_uses r_17 hj_j2 hc_) (cwV 1 hts gX9_wrapKeysRefusal_X8_allows rfl rfl rfl (by decide +kernel) ⟨Nat.le_of_ble_eq_true rfl, Nat.le_of_ble_eq_true rfl⟩) ⟨zblind, va_recv hK hP (ci := 10) (q0 := (1 + j2)) rfl (zpO_get (X := [(h0, .inr (11, [.ref h0_buffer, .ref h0_slots, .ref h0_counters, .ref h0_officerPin, .ref h0_userPin, .ref h0_words, .ref h0_sha, .ref h0_stream, .ref h0_aes, .ref h0_modes, .ref h0_gcm, .ref h0_generator, .ref h0_tests, .ref h0_message, .ref h0_secret, .int c_state, .int c_testsDone, .int c_faults, .int c_streamBegun]))]) (n := 1) rfl hj_j2), zpre hE hS (hP.sub [1, 2, 3, 4, 5, 6, 7, 8, 9, 10, 11, 12, 13, 14, 15, 16] rfl) (hD.sub [1, 2, 3, 4, 5, 6, 7, 8, 9, 10, 11, 12, 13, 14, 15, 16] (by decide) rfl) (va_free hD hS hA [1, 2, 3, 4, 5, 6, 7, 8, 9, 10, 11, 12, 13, 14, 15, 16] rfl)⟩ rfl rfl hl.1 rfl (lv_room (Nat.le_of_ble_eq_true rfl)) (zdt_at zt_X9_wrapKeysRefusal_0 31 rfl) ⟨Nat.zero_le _, Nat.zero_le _⟩) ?_
  clear hc_
  refine W.eq (g2 := F0 m 63 ls [.int r_17]) rfl ?_
  refine lv_if_eq (pc := 63) (tgt := 75) hx hb (zdt_at zt_X9_wrapKeysRefusal_0 32 rfl) (by decide) (fun cn_ => ?t_18) (fun cn_ => ?f_19)
  case t_18 =>
    replace hf := zt_s cn_ hf
    clear cn_
    refine lv_bipush (pc := 75) (v := (-6 : Int32)) hx hb (zdt_at zt_X9_wrapKeysRefusal_0 37 rfl) (by decide) ?_
    cases hf
    exact W.iret (pc := 77) hx hb hr (fun t ht hW => ⟨rfl, ht⟩) (fun _ h => nomatch h) (zdt_at zt_X9_wrapKeysRefusal_0 38 rfl)
  replace hf := ze_s cn_ hf
  clear cn_
  refine lv_aload_n (pc := 66) hx hb (zdt_at zt_X9_wrapKeysRefusal_0 33 rfl) rfl (lv_at hl 1 rfl) ?_
  refine lv_bipush (pc := 67) (v := (32 : Int32)) hx hb (zdt_at zt_X9_wrapKeysRefusal_0 34 rfl) (by decide) ?_
  replace hf := zb_s hf
  obtain ⟨r_20, hc_, hf⟩ := hf
  refine zcs (pc := 69) (rv := (some (.int r_20))) (va_runV (As := [.int (32 : Int32)]) (rest := []) ⟨hx, hb, hml, hown, hts⟩ (c_X8_allows l D cy tt s.heap.size hP_o hP_k j1 (32 : Int32) cP_usage cP_kind cP_length cP_role cP_uses r_20 hj_j1 hc_) (cwV 1 hts gX9_wrapKeysRefusal_X8_allows rfl rfl rfl (by decide +kernel) ⟨Nat.le_of_ble_eq_true rfl, Nat.le_of_ble_eq_true rfl⟩) ⟨zblind, va_recv hK hP (ci := 10) (q0 := (1 + j1)) rfl (zpO_get (X := [(h0, .inr (11, [.ref h0_buffer, .ref h0_slots, .ref h0_counters, .ref h0_officerPin, .ref h0_userPin, .ref h0_words, .ref h0_sha, .ref h0_stream, .ref h0_aes, .ref h0_modes, .ref h0_gcm, .ref h0_generator, .ref h0_tests, .ref h0_message, .ref h0_secret, .int c_state, .int c_testsDone, .int c_faults, .int c_streamBegun]))]) (n := 1) rfl hj_j1), zpre hE hS (hP.sub [1, 2, 3, 4, 5, 6, 7, 8, 9, 10, 11, 12, 13, 14, 15, 16] rfl) (hD.sub [1, 2, 3, 4, 5, 6, 7, 8, 9, 10, 11, 12, 13, 14, 15, 16] (by decide) rfl) (va_free hD hS hA [1, 2, 3, 4, 5, 6, 7, 8, 9, 10, 11, 12, 13, 14, 15, 16] rfl)⟩ rfl rfl hl.1 rfl (lv_room (Nat.le_of_ble_eq_true rfl)) (zdt_at zt_X9_wrapKeysRefusal_0 35 rfl) ⟨Nat.zero_le _, Nat.zero_le _⟩) ?_
  clear hc_
  refine W.eq (g2 := F0 m 72 ls [.int r_20]) rfl ?_
  refine lv_if_ne (pc := 72) (tgt := 78) hx hb (zdt_at zt_X9_wrapKeysRefusal_0 36 rfl) (by decide) (fun cn_ => ?t_21) (fun cn_ => ?f_22)
  case f_22 =>
    replace hf := zt_s cn_ hf
    clear cn_
    refine lv_bipush (pc := 75) (v := (-6 : Int32)) hx hb (zdt_at zt_X9_wrapKeysRefusal_0 37 rfl) (by decide) ?_
    cases hf
    exact W.iret (pc := 77) hx hb hr (fun t ht hW => ⟨rfl, ht⟩) (fun _ h => nomatch h) (zdt_at zt_X9_wrapKeysRefusal_0 38 rfl)
  replace hf := ze_s cn_ hf
  clear cn_
  refine lv_aload_n (pc := 78) hx hb (zdt_at zt_X9_wrapKeysRefusal_0 39 rfl) rfl (lv_at hl 1 rfl) ?_
  refine va_get (pc := 79) (D := D) (ci := 10) (v := .int (cP_uses j1)) (C := RX8) (T := TX8) (N := 6) hx hb hts hcX8 hown hK hP (1 + j1) (zpO_get (X := [(h0, .inr (11, [.ref h0_buffer, .ref h0_slots, .ref h0_counters, .ref h0_officerPin, .ref h0_userPin, .ref h0_words, .ref h0_sha, .ref h0_stream, .ref h0_aes, .ref h0_modes, .ref h0_gcm, .ref h0_generator, .ref h0_tests, .ref h0_message, .ref h0_secret, .int c_state, .int c_testsDone, .int c_faults, .int c_streamBegun]))]) (n := 1) rfl hj_j1) rfl 5 (by decide) hw2 (fun _ h9 => h9) rfl (zdt_at zt_X9_wrapKeysRefusal_0 40 rfl) ?_
  refine lv_if_eq (pc := 82) (tgt := 92) hx hb (zdt_at zt_X9_wrapKeysRefusal_0 41 rfl) (by decide) (fun cn_ => ?t_23) (fun cn_ => ?f_24)
  case t_23 =>
    replace hf := zt_s cn_ hf
    clear cn_
    refine lv_bipush (pc := 92) (v := (-7 : Int32)) hx hb (zdt_at zt_X9_wrapKeysRefusal_0 45 rfl) (by decide) ?_
    refine lv_goto (pc := 94) (tgt := 98) hx hb (zdt_at zt_X9_wrapKeysRefusal_0 46 rfl) (by decide) ?_
    cases hf
    exact W.iret (pc := 98) hx hb hr (fun t ht hW => ⟨rfl, ht⟩) (fun _ h => nomatch h) (zdt_at zt_X9_wrapKeysRefusal_0 48 rfl)
  replace hf := ze_s cn_ hf
  clear cn_
  refine lv_aload_n (pc := 85) hx hb (zdt_at zt_X9_wrapKeysRefusal_0 42 rfl) rfl (lv_at hl 2 rfl) ?_
  refine va_get (pc := 86) (D := D) (ci := 10) (v := .int (cP_uses j2)) (C := RX8) (T := TX8) (N := 6) hx hb hts hcX8 hown hK hP (1 + j2) (zpO_get (X := [(h0, .inr (11, [.ref h0_buffer, .ref h0_slots, .ref h0_counters, .ref h0_officerPin, .ref h0_userPin, .ref h0_words, .ref h0_sha, .ref h0_stream, .ref h0_aes, .ref h0_modes, .ref h0_gcm, .ref h0_generator, .ref h0_tests, .ref h0_message, .ref h0_secret, .int c_state, .int c_testsDone, .int c_faults, .int c_streamBegun]))]) (n := 1) rfl hj_j2) rfl 5 (by decide) hw2 (fun _ h9 => h9) rfl (zdt_at zt_X9_wrapKeysRefusal_0 43 rfl) ?_
  refine lv_if_ne (pc := 89) (tgt := 97) hx hb (zdt_at zt_X9_wrapKeysRefusal_0 44 rfl) (by decide) (fun cn_ => ?t_25) (fun cn_ => ?f_26)
  case t_25 =>
    replace hf := ze_s cn_ hf
    clear cn_
    refine lv_iconst (pc := 97) (v := (0 : Int32)) hx hb (zdt_at zt_X9_wrapKeysRefusal_0 47 rfl) (by decide) ?_
    cases hf
    exact W.iret (pc := 98) hx hb hr (fun t ht hW => ⟨rfl, ht⟩) (fun _ h => nomatch h) (zdt_at zt_X9_wrapKeysRefusal_0 48 rfl)
  replace hf := zt_s cn_ hf
  clear cn_
  refine lv_bipush (pc := 92) (v := (-7 : Int32)) hx hb (zdt_at zt_X9_wrapKeysRefusal_0 45 rfl) (by decide) ?_
  refine lv_goto (pc := 94) (tgt := 98) hx hb (zdt_at zt_X9_wrapKeysRefusal_0 46 rfl) (by decide) ?_
  cases hf
  exact W.iret (pc := 98) hx hb hr (fun t ht hW => ⟨rfl, ht⟩) (fun _ h => nomatch h) (zdt_at zt_X9_wrapKeysRefusal_0 48 rfl)
def f_X9_intAt_0PK (j0 : Nat) (p1 : Int32) (cPK : Nat → Nat → Int32) : Option (Int32) :=
  zk (¬ (p1 < 0 ∨ 64 ≤ p1.toNatClampNeg)) (zk (¬ ((p1 + (1 : Int32)) < 0 ∨ 64 ≤ (p1 + (1 : Int32)).toNatClampNeg)) (zk (¬ ((p1 + (2 : Int32)) < 0 ∨ 64 ≤ (p1 + (2 : Int32)).toNatClampNeg)) (zk (¬ ((p1 + (3 : Int32)) < 0 ∨ 64 ≤ (p1 + (3 : Int32)).toNatClampNeg)) (some (((((cPK j0 p1.toNatClampNeg) <<< ((24 : Int32) &&& 31)) ||| (((cPK j0 (p1 + (1 : Int32)).toNatClampNeg) &&& (255 : Int32)) <<< ((16 : Int32) &&& 31))) ||| (((cPK j0 (p1 + (2 : Int32)).toNatClampNeg) &&& (255 : Int32)) <<< ((8 : Int32) &&& 31))) ||| ((cPK j0 (p1 + (3 : Int32)).toNatClampNeg) &&& (255 : Int32)))))))
set_option maxHeartbeats 4000000 in
set_option maxRecDepth 100000 in
theorem c_X9_intAt_0PK (l : Launch) (D : va_G) (cy : Nat → ClassId) (tt : Nat → Nat) (sz : Nat) (hP_o : Nat → Nat) (hP_k : Nat → Nat) (j0 : Nat) (p1 : Int32) (cPK : Nat → Nat → Int32) (cP_kind : Nat → Int32) (cP_length : Nat → Int32) (cP_usage : Nat → Int32) (cP_role : Nat → Int32) (cP_uses : Nat → Int32) (r_ : Int32) (hj_j0 : j0 < 16) (hf : f_X9_intAt_0PK j0 p1 cPK = some r_) : Met l yX9_intAt wsX9_intAt ({ frames := 0, cells := 0, slots := 0, locals := 0 }) (zPc D cy tt sz [.ref (hP_k j0), .int p1] ([] ++ zpO hP_o hP_k cP_kind cP_length cP_usage cP_role cP_uses ++ zpK (cy 0) hP_k cPK)) (fun _ st o t => o = .returned (some (.int r_)) ∧ t.heap = st.heap) 0 0 (fun _ => False) := by
  refine Met.ofW (cc := cX9_intAt) (maxL := 2) (ret := (some .int)) (by decide) rfl ?_
  intro p e s m args below meth c s₁ B hml hv
  obtain ⟨rfl, rfl, hP, hD0, hE⟩ := hv
  have hx := B.exec
  have hb := B.bytes
  have hr := B.returns
  have hts := atoms_spec (ws := wsX9_intAt) B.pre
  have hown : s.vm.findClass RX9 = some m.cls := findClass_of_methodNamed B.named
  have hlocks := B.notSynchronized
  clear B
  have hD := hD0.self (sz := s.heap.size)
  generalize hAe : va_A ([] ++ zpO hP_o hP_k cP_kind cP_length cP_usage cP_role cP_uses ++ zpK (cy 0) hP_k cPK) s.heap.size = A at hD hE
  have hA : ∀ q : Nat, s.heap.size ≤ q → A q := fun q h => by rw [← hAe]; exact Or.inr h
  clear hAe hD0
  have hS : va_S A s.heap s.heap [] := va_S.rf
  have hK := hE.1
  have hl := lv_entry ([.ref (hP_k j0), .int p1]) (n := 2) (Nat.le_of_ble_eq_true rfl)
  rw [lg_entry_eq]
  generalize (lg_sl ([.ref (hP_k j0), .int p1]) ++ List.replicate (2 - (lg_sl ([.ref (hP_k j0), .int p1])).length) Slot.unset).toArray = ls at hl ⊢
  replace hl : lv_has ls 2 [(0, .ref (hP_k j0)), (1, .int p1)] := hl
  unfold f_X9_intAt_0PK at hf
  refine zgo (fun GW hTo hFr => ?_)
  refine hFr _ _ _ ?_
  refine lv_aload_n (pc := 0) hx hb (zdt_at zt_X9_intAt_0 0 rfl) rfl (lv_at hl 0 rfl) ?_
  refine lv_iload_n (pc := 1) hx hb (zdt_at zt_X9_intAt_0 1 rfl) rfl (lv_at hl 1 rfl) ?_
  replace hf := zk_s hf
  refine va_bald (pc := 2) hx hb hK hP (16 + j0) 0 (zpK_get (X := []) (n := 0) rfl hj_j0) rfl hf.1 (zdt_at zt_X9_intAt_0 2 rfl) ?_
  replace hf := hf.2
  refine lv_bipush (pc := 3) (v := (24 : Int32)) hx hb (zdt_at zt_X9_intAt_0 3 rfl) (by decide) ?_
  refine lv_ishl (pc := 5) hx hb (zdt_at zt_X9_intAt_0 4 rfl) ?_
  refine lv_aload_n (pc := 6) hx hb (zdt_at zt_X9_intAt_0 5 rfl) rfl (lv_at hl 0 rfl) ?_
  refine lv_iload_n (pc := 7) hx hb (zdt_at zt_X9_intAt_0 6 rfl) rfl (lv_at hl 1 rfl) ?_
  refine lv_iconst (pc := 8) (v := (1 : Int32)) hx hb (zdt_at zt_X9_intAt_0 7 rfl) (by decide) ?_
  refine lv_iadd (pc := 9) hx hb (zdt_at zt_X9_intAt_0 8 rfl) ?_
  replace hf := zk_s hf
  refine va_bald (pc := 10) hx hb hK hP (16 + j0) 0 (zpK_get (X := []) (n := 0) rfl hj_j0) rfl hf.1 (zdt_at zt_X9_intAt_0 9 rfl) ?_
  replace hf := hf.2
  refine lv_sipush (pc := 11) (v := (255 : Int32)) hx hb (zdt_at zt_X9_intAt_0 10 rfl) (by decide) ?_
  refine lv_iand (pc := 14) hx hb (zdt_at zt_X9_intAt_0 11 rfl) ?_
  refine lv_bipush (pc := 15) (v := (16 : Int32)) hx hb (zdt_at zt_X9_intAt_0 12 rfl) (by decide) ?_
  refine lv_ishl (pc := 17) hx hb (zdt_at zt_X9_intAt_0 13 rfl) ?_
  refine lv_ior (pc := 18) hx hb (zdt_at zt_X9_intAt_0 14 rfl) ?_
  refine lv_aload_n (pc := 19) hx hb (zdt_at zt_X9_intAt_0 15 rfl) rfl (lv_at hl 0 rfl) ?_
  refine lv_iload_n (pc := 20) hx hb (zdt_at zt_X9_intAt_0 16 rfl) rfl (lv_at hl 1 rfl) ?_
  refine lv_iconst (pc := 21) (v := (2 : Int32)) hx hb (zdt_at zt_X9_intAt_0 17 rfl) (by decide) ?_
  refine lv_iadd (pc := 22) hx hb (zdt_at zt_X9_intAt_0 18 rfl) ?_
  replace hf := zk_s hf
  refine va_bald (pc := 23) hx hb hK hP (16 + j0) 0 (zpK_get (X := []) (n := 0) rfl hj_j0) rfl hf.1 (zdt_at zt_X9_intAt_0 19 rfl) ?_
  replace hf := hf.2
  refine lv_sipush (pc := 24) (v := (255 : Int32)) hx hb (zdt_at zt_X9_intAt_0 20 rfl) (by decide) ?_
  refine lv_iand (pc := 27) hx hb (zdt_at zt_X9_intAt_0 21 rfl) ?_
  refine lv_bipush (pc := 28) (v := (8 : Int32)) hx hb (zdt_at zt_X9_intAt_0 22 rfl) (by decide) ?_
  refine lv_ishl (pc := 30) hx hb (zdt_at zt_X9_intAt_0 23 rfl) ?_
  refine lv_ior (pc := 31) hx hb (zdt_at zt_X9_intAt_0 24 rfl) ?_
  refine lv_aload_n (pc := 32) hx hb (zdt_at zt_X9_intAt_0 25 rfl) rfl (lv_at hl 0 rfl) ?_
  refine lv_iload_n (pc := 33) hx hb (zdt_at zt_X9_intAt_0 26 rfl) rfl (lv_at hl 1 rfl) ?_
  refine lv_iconst (pc := 34) (v := (3 : Int32)) hx hb (zdt_at zt_X9_intAt_0 27 rfl) (by decide) ?_
  refine lv_iadd (pc := 35) hx hb (zdt_at zt_X9_intAt_0 28 rfl) ?_
  replace hf := zk_s hf
  refine va_bald (pc := 36) hx hb hK hP (16 + j0) 0 (zpK_get (X := []) (n := 0) rfl hj_j0) rfl hf.1 (zdt_at zt_X9_intAt_0 29 rfl) ?_
  replace hf := hf.2
  refine lv_sipush (pc := 37) (v := (255 : Int32)) hx hb (zdt_at zt_X9_intAt_0 30 rfl) (by decide) ?_
  refine lv_iand (pc := 40) hx hb (zdt_at zt_X9_intAt_0 31 rfl) ?_
  refine lv_ior (pc := 41) hx hb (zdt_at zt_X9_intAt_0 32 rfl) ?_
  cases hf
  exact W.iret (pc := 42) hx hb hr (fun t ht hW => ⟨rfl, ht⟩) (fun _ h => nomatch h) (zdt_at zt_X9_intAt_0 33 rfl)
def b_X0_setKey_1PK_58 (v_1 : Int32) (x_3 : Int32) (K_12 : (Nat → Int32) → Option (Int32 × (Nat → Int32))) (self_13 : (Int32 × Int32 × (Nat → Int32)) → Option (Int32 × (Nat → Int32))) (z : Int32 × Int32 × (Nat → Int32)) : Option (Int32 × (Nat → Int32)) :=
  match z with
  | (i_8, i_9, c_keys_10) => if (((4 : Int32) * x_3) + (4 : Int32)) ≤ i_9 then K_12 c_keys_10 else zk (¬ ((i_9 - (1 : Int32)) < 0 ∨ 60 ≤ (i_9 - (1 : Int32)).toNatClampNeg)) (zn ((c_keys_10 (i_9 - (1 : Int32)).toNatClampNeg) : Int32) (fun x_16 => zn ((i_9 &&& (v_1 - (1 : Int32))) : Int32) (fun x_17 => if x_17 = 0 then zn (((x_16 <<< ((8 : Int32) &&& 31)) ||| (x_16.toUInt32 >>> ((24 : Int32).toUInt32 &&& Int32.toUInt32 31)).toInt32) : Int32) (fun x_23 => (f_X0_boxed x_23 x_23 x_23 x_23).bind (fun r_24 => zn ((r_24 ^^^ i_8) : Int32) (fun x_25 => zj (fun (v_26 : Int32) => zk (¬ ((i_9 - v_1) < 0 ∨ 60 ≤ (i_9 - v_1).toNatClampNeg)) (zk (¬ (i_9 < 0 ∨ 60 ≤ i_9.toNatClampNeg)) (self_13 (v_26, (i_9 + (1 : Int32)), (upd c_keys_10 i_9.toNatClampNeg ((c_keys_10 (i_9 - v_1).toNatClampNeg) ^^^ x_25)))))) (fun K_27 => if i_8 = (-2147483648 : Int32) then K_27 (452984832 : Int32) else K_27 (i_8 <<< ((1 : Int32) &&& 31)))))) else if x_17 = (4 : Int32) then (f_X0_boxed x_16 x_16 x_16 x_16).bind (fun r_22 => zk (¬ ((i_9 - v_1) < 0 ∨ 60 ≤ (i_9 - v_1).toNatClampNeg)) (zk (¬ (i_9 < 0 ∨ 60 ≤ i_9.toNatClampNeg)) (self_13 (i_8, (i_9 + (1 : Int32)), (upd c_keys_10 i_9.toNatClampNeg ((c_keys_10 (i_9 - v_1).toNatClampNeg) ^^^ r_22)))))) else zk (¬ ((i_9 - v_1) < 0 ∨ 60 ≤ (i_9 - v_1).toNatClampNeg)) (zk (¬ (i_9 < 0 ∨ 60 ≤ i_9.toNatClampNeg)) (self_13 (i_8, (i_9 + (1 : Int32)), (upd c_keys_10 i_9.toNatClampNeg ((c_keys_10 (i_9 - v_1).toNatClampNeg) ^^^ x_16))))))))
def b_X0_setKey_1PK_24 (j1 : Nat) (cPK : Nat → Nat → Int32) (v_1 : Int32) (K_7 : (Nat → Int32) → Option (Int32 × (Nat → Int32))) (self_30 : (Int32 × (Nat → Int32)) → Option (Int32 × (Nat → Int32))) (z : Int32 × (Nat → Int32)) : Option (Int32 × (Nat → Int32)) :=
  match z with
  | (i_4, c_keys_5) => if v_1 ≤ i_4 then K_7 c_keys_5 else (f_X9_intAt_0PK j1 ((4 : Int32) * i_4) cPK).bind (fun r_33 => zk (¬ (i_4 < 0 ∨ 60 ≤ i_4.toNatClampNeg)) (self_30 ((i_4 + (1 : Int32)), (upd c_keys_5 i_4.toNatClampNeg r_33))))
def f_X0_setKey_1PK (j1 : Nat) (p2 : Int32) (c_rounds : Int32) (c_keys : Nat → Int32) (cPK : Nat → Nat → Int32) : Option (Int32 × (Nat → Int32)) :=
  zj (fun (v_1 : Int32) => zn ((v_1 + (6 : Int32)) : Int32) (fun x_3 => zj (fun (c_keys_6 : Nat → Int32) => zj (fun (c_keys_11 : Nat → Int32) => some (x_3, c_keys_11)) (fun K_12 => zl (b_X0_setKey_1PK_58 v_1 x_3 K_12) 2000 ((16777216 : Int32), v_1, c_keys_6))) (fun K_7 => zl (b_X0_setKey_1PK_24 j1 cPK v_1 K_7) 2000 ((0 : Int32), c_keys)))) (fun K_2 => if p2 = (32 : Int32) then K_2 (8 : Int32) else K_2 (4 : Int32))
set_option maxHeartbeats 4000000 in
set_option maxRecDepth 100000 in
theorem c_X0_setKey_1PK (l : Launch) (D : va_G) (cy : Nat → ClassId) (tt : Nat → Nat) (sz : Nat) (h0 : Nat) (h0_keys : Nat) (hP_o : Nat → Nat) (hP_k : Nat → Nat) (j1 : Nat) (p2 : Int32) (c_rounds : Int32) (c_keys : Nat → Int32) (cPK : Nat → Nat → Int32) (cP_kind : Nat → Int32) (cP_length : Nat → Int32) (cP_usage : Nat → Int32) (cP_role : Nat → Int32) (cP_uses : Nat → Int32) (c_rounds' : Int32) (c_keys' : Nat → Int32) (hj_j1 : j1 < 16) (hf : f_X0_setKey_1PK j1 p2 c_rounds c_keys cPK = some (c_rounds', c_keys')) : Met l yX0_setKey wsX0_setKey ({ frames := 1, cells := 0, slots := 0, locals := 23 }) (zPc D cy tt sz [.ref h0, .ref (hP_k j1), .int p2] ([(h0, .inr (2, [.ref h0_keys, .int c_rounds])), (h0_keys, .inl (cy 1, 60, .inl c_keys))] ++ zpO hP_o hP_k cP_kind cP_length cP_usage cP_role cP_uses ++ zpK (cy 0) hP_k cPK)) (zQ D none ([(h0, .inr (2, [.ref h0_keys, .int c_rounds'])), (h0_keys, .inl (cy 1, 60, .inl c_keys'))] ++ zpO hP_o hP_k cP_kind cP_length cP_usage cP_role cP_uses ++ zpK (cy 0) hP_k cPK) (va_A ([(h0, .inr (2, [.ref h0_keys, .int c_rounds])), (h0_keys, .inl (cy 1, 60, .inl c_keys))] ++ zpO hP_o hP_k cP_kind cP_length cP_usage cP_role cP_uses ++ zpK (cy 0) hP_k cPK) sz)) 0 0 (va_A ([(h0, .inr (2, [.ref h0_keys, .int c_rounds])), (h0_keys, .inl (cy 1, 60, .inl c_keys))] ++ zpO hP_o hP_k cP_kind cP_length cP_usage cP_role cP_uses ++ zpK (cy 0) hP_k cPK) sz) := by
  refine Met.ofW (cc := cX0_setKey) (maxL := 9) (ret := none) (by decide) rfl ?_
  intro p e s m args below meth c s₁ B hml hv
  obtain ⟨rfl, rfl, hP, hD0, hE⟩ := hv
  have hx := B.exec
  have hb := B.bytes
  have hr := B.returns
  have hts := atoms_spec (ws := wsX0_setKey) B.pre
  have hown : s.vm.findClass RX0 = some m.cls := findClass_of_methodNamed B.named
  have hlocks := B.notSynchronized
  clear B
  have hD := hD0.self (sz := s.heap.size)
  generalize hAe : va_A ([(h0, .inr (2, [.ref h0_keys, .int c_rounds])), (h0_keys, .inl (cy 1, 60, .inl c_keys))] ++ zpO hP_o hP_k cP_kind cP_length cP_usage cP_role cP_uses ++ zpK (cy 0) hP_k cPK) s.heap.size = A at hD hE ⊢
  have hA : ∀ q : Nat, s.heap.size ≤ q → A q := fun q h => by rw [← hAe]; exact Or.inr h
  clear hAe hD0
  have hS : va_S A s.heap s.heap [] := va_S.rf
  have hK := hE.1
  have hw0 := hts (.fieldLink RX0 13 "SealedModule$Aes" "rounds" "I") (by decide +kernel)
  have hw1 := hts (.constant RX0 23 (16777216)) (by decide +kernel)
  have hw2 := hts (.fieldLink RX0 7 "SealedModule$Aes" "keys" "[I") (by decide +kernel)
  have hw3 := hts (.constant RX0 28 (-2147483648)) (by decide +kernel)
  have hw4 := hts (.constant RX0 29 (452984832)) (by decide +kernel)
  have hw5 := hts (.initialized RX9) (by decide +kernel)
  have hw6 := hts (.static yX9_intAt) (by decide +kernel)
  have hcX0 : ∀ w ∈ u_ws RX0 TX0 2, w ∈ wsX0_setKey := (fun _ h => List.mem_cons_of_mem _ (List.mem_append_right _ h))
  have hl := lv_entry ([.ref h0, .ref (hP_k j1), .int p2]) (n := 9) (Nat.le_of_ble_eq_true rfl)
  rw [lg_entry_eq]
  generalize (lg_sl ([.ref h0, .ref (hP_k j1), .int p2]) ++ List.replicate (9 - (lg_sl ([.ref h0, .ref (hP_k j1), .int p2])).length) Slot.unset).toArray = ls at hl ⊢
  replace hl : lv_has ls 9 [(0, .ref h0), (1, .ref (hP_k j1)), (2, .int p2)] := hl
  unfold f_X0_setKey_1PK at hf
  refine zgo (fun GW hTo hFr => ?_)
  refine hFr _ _ _ ?_
  obtain ⟨H, hHe⟩ : ∃ H, H = s.heap := ⟨_, rfl⟩
  obtain ⟨locs, hLe⟩ : ∃ L : List Loc, L = [] := ⟨_, rfl⟩
  rw [← hHe] at hP
  replace hS : va_S A s.heap H locs := by rw [hHe, hLe]; exact hS
  refine zat hHe.symm hLe.symm ?_
  clear hHe hLe
  refine lv_iload_n (pc := 0) hx hb (zdt_at zt_X0_setKey_0 0 rfl) rfl (lv_at hl 2 rfl) ?_
  refine lv_bipush (pc := 1) (v := (32 : Int32)) hx hb (zdt_at zt_X0_setKey_0 1 rfl) (by decide) ?_
  replace hf := zj_s hf
  obtain ⟨K_2, eK_2, hf⟩ := hf
  have kK_2 : ∀ (v_1 : Int32) (H : Heap) (locs : List Loc) (ls : Array Slot), va_P D vwCl ([(h0, .inr (2, [.ref h0_keys, .int c_rounds])), (h0_keys, .inl (cy 1, 60, .inl c_keys))] ++ zpO hP_o hP_k cP_kind cP_length cP_usage cP_role cP_uses ++ zpK (cy 0) hP_k cPK) H → va_D A ([(h0, .inr (2, [.ref h0_keys, .int c_rounds])), (h0_keys, .inl (cy 1, 60, .inl c_keys))] ++ zpO hP_o hP_k cP_kind cP_length cP_usage cP_role cP_uses ++ zpK (cy 0) hP_k cPK) → va_S A s.heap H locs → lv_has ls 9 [(0, .ref h0), (1, .ref (hP_k j1))] → K_2 v_1 = some (c_rounds', c_keys') → GW H locs (F0 m 12 ls [.int v_1]) := by
    clear hf hl hP hD hS
    intro v_1 H locs ls hP hD hS hl hf
    rw [eK_2] at hf
    clear eK_2
    refine hFr _ _ _ ?_
    refine lv_istore_n (pc := 12) (lv' := [(3, .int v_1), (0, .ref h0), (1, .ref (hP_k j1))]) hx hb (zdt_at zt_X0_setKey_0 6 rfl) rfl hl (by decide) rfl ?_
    clear hl
    intro ls hl
    refine lv_aload_n (pc := 13) hx hb (zdt_at zt_X0_setKey_0 7 rfl) rfl (lv_at hl 1 rfl) ?_
    refine lv_iload_n (pc := 14) hx hb (zdt_at zt_X0_setKey_0 8 rfl) rfl (lv_at hl 0 rfl) ?_
    refine lv_bipush (pc := 15) (v := (6 : Int32)) hx hb (zdt_at zt_X0_setKey_0 9 rfl) (by decide) ?_
    refine lv_iadd (pc := 17) hx hb (zdt_at zt_X0_setKey_0 10 rfl) ?_
    refine lv_topi (fun x_3 e_ => ?_)
    replace hf := zn_s hf e_
    clear e_
    refine va_put (pc := 18) (D := D) (ci := 2) (v := .int x_3) (ty := .int) (C := RX0) (T := TX0) (N := 2) hx hb hts hcX0 tyX0 tyX0_ok nmX0 hown hK hP hD hS 0 rfl rfl 1 (by decide) hw0 (fun _ h9 => h9) rfl (by decide +kernel) rfl rfl (Nat.le_of_ble_eq_true rfl) (zdt_at zt_X0_setKey_0 11 rfl) ?_
    clear hP hD hS
    intro H locs hP hD hS
    replace hP : va_P D vwCl ([(h0, .inr (2, [.ref h0_keys, .int x_3])), (h0_keys, .inl (cy 1, 60, .inl c_keys))] ++ zpO hP_o hP_k cP_kind cP_length cP_usage cP_role cP_uses ++ zpK (cy 0) hP_k cPK) H := hP
    replace hD : va_D A ([(h0, .inr (2, [.ref h0_keys, .int x_3])), (h0_keys, .inl (cy 1, 60, .inl c_keys))] ++ zpO hP_o hP_k cP_kind cP_length cP_usage cP_role cP_uses ++ zpK (cy 0) hP_k cPK) := hD
    refine lv_iconst (pc := 21) (v := (0 : Int32)) hx hb (zdt_at zt_X0_setKey_0 12 rfl) (by decide) ?_
    refine lv_istore (pc := 22) (lv' := [(4, .int (0 : Int32)), (3, .int v_1), (0, .ref h0), (1, .ref (hP_k j1))]) hx hb (zdt_at zt_X0_setKey_0 13 rfl) hl (by decide) rfl ?_
    clear hl
    intro ls hl
    replace hf := zj_s hf
    obtain ⟨K_7, eK_7, hf⟩ := hf
    have kK_7 : ∀ (c_keys_6 : Nat → Int32) (H : Heap) (locs : List Loc) (ls : Array Slot), va_P D vwCl ([(h0, .inr (2, [.ref h0_keys, .int x_3])), (h0_keys, .inl (cy 1, 60, .inl c_keys_6))] ++ zpO hP_o hP_k cP_kind cP_length cP_usage cP_role cP_uses ++ zpK (cy 0) hP_k cPK) H → va_D A ([(h0, .inr (2, [.ref h0_keys, .int x_3])), (h0_keys, .inl (cy 1, 60, .inl c_keys_6))] ++ zpO hP_o hP_k cP_kind cP_length cP_usage cP_role cP_uses ++ zpK (cy 0) hP_k cPK) → va_S A s.heap H locs → lv_has ls 9 [(0, .ref h0), (3, .int v_1)] → K_7 c_keys_6 = some (c_rounds', c_keys') → GW H locs (F0 m 51 ls []) := by
      clear hf hl hP hD hS
      intro c_keys_6 H locs ls hP hD hS hl hf
      rw [eK_7] at hf
      clear eK_7
      refine hFr _ _ _ ?_
      refine lv_ldc (pc := 51) hx hb hown hw1 (zdt_at zt_X0_setKey_0 28 rfl) ?_
      refine lv_istore (pc := 53) (lv' := [(4, .int (16777216 : Int32)), (0, .ref h0), (3, .int v_1)]) hx hb (zdt_at zt_X0_setKey_0 29 rfl) hl (by decide) rfl ?_
      clear hl
      intro ls hl
      refine lv_iload_n (pc := 55) hx hb (zdt_at zt_X0_setKey_0 30 rfl) rfl (lv_at hl 2 rfl) ?_
      refine lv_istore (pc := 56) (lv' := [(5, .int v_1), (4, .int (16777216 : Int32)), (0, .ref h0), (3, .int v_1)]) hx hb (zdt_at zt_X0_setKey_0 31 rfl) hl (by decide) rfl ?_
      clear hl
      intro ls hl
      replace hf := zj_s hf
      obtain ⟨K_12, eK_12, hf⟩ := hf
      have kK_12 : ∀ (c_keys_11 : Nat → Int32) (H : Heap) (locs : List Loc) (ls : Array Slot), va_P D vwCl ([(h0, .inr (2, [.ref h0_keys, .int x_3])), (h0_keys, .inl (cy 1, 60, .inl c_keys_11))] ++ zpO hP_o hP_k cP_kind cP_length cP_usage cP_role cP_uses ++ zpK (cy 0) hP_k cPK) H → va_D A ([(h0, .inr (2, [.ref h0_keys, .int x_3])), (h0_keys, .inl (cy 1, 60, .inl c_keys_11))] ++ zpO hP_o hP_k cP_kind cP_length cP_usage cP_role cP_uses ++ zpK (cy 0) hP_k cPK) → va_S A s.heap H locs → lv_has ls 9 [] → K_12 c_keys_11 = some (c_rounds', c_keys') → GW H locs (F0 m 189 ls []) := by
        clear hf hl hP hD hS
        intro c_keys_11 H locs ls hP hD hS hl hf
        rw [eK_12] at hf
        clear eK_12
        refine hFr _ _ _ ?_
        cases hf
        exact W.vret (pc := 189) hx hb hr (fun t ht hW => ⟨rfl, ⟨by rw [ht]; exact hP, hD⟩, hS.F ht⟩) hS.2.2 (zdt_at zt_X0_setKey_1 40 rfl)
      clear eK_12
      refine hTo _ _ _ (zl_go (fun z => match z with | (i_8, i_9, c_keys_10) => ∀ (H : Heap) (locs : List Loc) (ls : Array Slot), va_P D vwCl ([(h0, .inr (2, [.ref h0_keys, .int x_3])), (h0_keys, .inl (cy 1, 60, .inl c_keys_10))] ++ zpO hP_o hP_k cP_kind cP_length cP_usage cP_role cP_uses ++ zpK (cy 0) hP_k cPK) H → va_D A ([(h0, .inr (2, [.ref h0_keys, .int x_3])), (h0_keys, .inl (cy 1, 60, .inl c_keys_10))] ++ zpO hP_o hP_k cP_kind cP_length cP_usage cP_role cP_uses ++ zpK (cy 0) hP_k cPK) → va_S A s.heap H locs → lv_has ls 9 [(0, .ref h0), (3, .int v_1), (4, .int i_8), (5, .int i_9)] → GW H locs (F0 m 58 ls [])) hf ?_ H locs ls hP hD hS (lv_sub hl [2, 3, 1, 0] rfl))
      clear hf hl hP hD hS
      intro self_13 ihself_13 z hf
      obtain ⟨i_8, i_9, c_keys_10⟩ := z
      intro H locs ls hP hD hS hl
      refine hFr _ _ _ ?_
      unfold b_X0_setKey_1PK_58 at hf
      refine lv_iload (pc := 58) hx hb (zdt_at zt_X0_setKey_0 32 rfl) (lv_at hl 3 rfl) ?_
      refine lv_iconst (pc := 60) (v := (4 : Int32)) hx hb (zdt_at zt_X0_setKey_0 33 rfl) (by decide) ?_
      refine lv_aload_n (pc := 61) hx hb (zdt_at zt_X0_setKey_0 34 rfl) rfl (lv_at hl 0 rfl) ?_
      refine va_get (pc := 62) (D := D) (ci := 2) (v := .int x_3) (C := RX0) (T := TX0) (N := 2) hx hb hts hcX0 hown hK hP 0 rfl rfl 1 (by decide) hw0 (fun _ h9 => h9) rfl (zdt_at zt_X0_setKey_0 35 rfl) ?_
      refine lv_imul (pc := 65) hx hb (zdt_at zt_X0_setKey_0 36 rfl) ?_
      refine lv_iconst (pc := 66) (v := (4 : Int32)) hx hb (zdt_at zt_X0_setKey_0 37 rfl) (by decide) ?_
      refine lv_iadd (pc := 67) hx hb (zdt_at zt_X0_setKey_0 38 rfl) ?_
      refine lv_icmp_ge (pc := 68) (tgt := 189) hx hb (zdt_at zt_X0_setKey_0 39 rfl) (by decide) (fun cn_ => ?t_14) (fun cn_ => ?f_15)
      case t_14 =>
        replace hf := zt_s cn_ hf
        clear cn_
        exact hTo _ _ _ (kK_12 _ H locs ls hP hD hS (lv_sub hl [] rfl) hf)
      replace hf := ze_s cn_ hf
      clear cn_
      refine lv_aload_n (pc := 71) hx hb (zdt_at zt_X0_setKey_0 40 rfl) rfl (lv_at hl 0 rfl) ?_
      refine va_get (pc := 72) (D := D) (ci := 2) (v := .ref h0_keys) (C := RX0) (T := TX0) (N := 2) hx hb hts hcX0 hown hK hP 0 rfl rfl 0 (by decide) hw2 (fun _ h9 => h9) rfl (zdt_at zt_X0_setKey_0 41 rfl) ?_
      refine lv_iload (pc := 75) hx hb (zdt_at zt_X0_setKey_0 42 rfl) (lv_at hl 3 rfl) ?_
      refine lv_iconst (pc := 77) (v := (1 : Int32)) hx hb (zdt_at zt_X0_setKey_0 43 rfl) (by decide) ?_
      refine lv_isub (pc := 78) hx hb (zdt_at zt_X0_setKey_0 44 rfl) ?_
      replace hf := zk_s hf
      refine va_iald (pc := 79) hx hb hK hP 1 1 rfl rfl hf.1 (zdt_at zt_X0_setKey_0 45 rfl) ?_
      replace hf := hf.2
      refine lv_topi (fun x_16 e_ => ?_)
      replace hf := zn_s hf e_
      clear e_
      refine lv_istore (pc := 80) (lv' := [(6, .int x_16), (0, .ref h0), (3, .int v_1), (4, .int i_8), (5, .int i_9)]) hx hb (zdt_at zt_X0_setKey_0 46 rfl) hl (by decide) rfl ?_
      clear hl
      intro ls hl
      refine lv_iload (pc := 82) hx hb (zdt_at zt_X0_setKey_0 47 rfl) (lv_at hl 4 rfl) ?_
      refine lv_iload_n (pc := 84) hx hb (zdt_at zt_X0_setKey_0 48 rfl) rfl (lv_at hl 2 rfl) ?_
      refine lv_iconst (pc := 85) (v := (1 : Int32)) hx hb (zdt_at zt_X0_setKey_0 49 rfl) (by decide) ?_
      refine lv_isub (pc := 86) hx hb (zdt_at zt_X0_setKey_0 50 rfl) ?_
      refine lv_iand (pc := 87) hx hb (zdt_at zt_X0_setKey_0 51 rfl) ?_
      refine lv_topi (fun x_17 e_ => ?_)
      replace hf := zn_s hf e_
      clear e_
      refine lv_istore (pc := 88) (lv' := [(7, .int x_17), (6, .int x_16), (0, .ref h0), (3, .int v_1), (4, .int i_8), (5, .int i_9)]) hx hb (zdt_at zt_X0_setKey_0 52 rfl) hl (by decide) rfl ?_
      clear hl
      intro ls hl
      refine lv_iload (pc := 90) hx hb (zdt_at zt_X0_setKey_0 53 rfl) (lv_at hl 0 rfl) ?_
      refine lv_if_ne (pc := 92) (tgt := 145) hx hb (zdt_at zt_X0_setKey_0 54 rfl) (by decide) (fun cn_ => ?t_18) (fun cn_ => ?f_19)
      case t_18 =>
        replace hf := ze_s cn_ hf
        clear cn_
        refine lv_iload (pc := 145) hx hb (zdt_at zt_X0_setKey_1 17 rfl) (lv_at hl 0 rfl) ?_
        refine lv_iconst (pc := 147) (v := (4 : Int32)) hx hb (zdt_at zt_X0_setKey_1 18 rfl) (by decide) ?_
        refine lv_icmp_ne (pc := 148) (tgt := 164) hx hb (zdt_at zt_X0_setKey_1 19 rfl) (by decide) (fun cn_ => ?t_20) (fun cn_ => ?f_21)
        case t_20 =>
          replace hf := ze_s cn_ hf
          clear cn_
          refine lv_aload_n (pc := 164) hx hb (zdt_at zt_X0_setKey_1 26 rfl) rfl (lv_at hl 2 rfl) ?_
          refine va_get (pc := 165) (D := D) (ci := 2) (v := .ref h0_keys) (C := RX0) (T := TX0) (N := 2) hx hb hts hcX0 hown hK hP 0 rfl rfl 0 (by decide) hw2 (fun _ h9 => h9) rfl (zdt_at zt_X0_setKey_1 27 rfl) ?_
          refine lv_iload (pc := 168) hx hb (zdt_at zt_X0_setKey_1 28 rfl) (lv_at hl 5 rfl) ?_
          refine lv_aload_n (pc := 170) hx hb (zdt_at zt_X0_setKey_1 29 rfl) rfl (lv_at hl 2 rfl) ?_
          refine va_get (pc := 171) (D := D) (ci := 2) (v := .ref h0_keys) (C := RX0) (T := TX0) (N := 2) hx hb hts hcX0 hown hK hP 0 rfl rfl 0 (by decide) hw2 (fun _ h9 => h9) rfl (zdt_at zt_X0_setKey_1 30 rfl) ?_
          refine lv_iload (pc := 174) hx hb (zdt_at zt_X0_setKey_1 31 rfl) (lv_at hl 5 rfl) ?_
          refine lv_iload_n (pc := 176) hx hb (zdt_at zt_X0_setKey_1 32 rfl) rfl (lv_at hl 3 rfl) ?_
          refine lv_isub (pc := 177) hx hb (zdt_at zt_X0_setKey_1 33 rfl) ?_
          replace hf := zk_s hf
          refine va_iald (pc := 178) hx hb hK hP 1 1 rfl rfl hf.1 (zdt_at zt_X0_setKey_1 34 rfl) ?_
          replace hf := hf.2
          refine lv_iload (pc := 179) hx hb (zdt_at zt_X0_setKey_1 35 rfl) (lv_at hl 1 rfl) ?_
          refine lv_ixor (pc := 181) hx hb (zdt_at zt_X0_setKey_1 36 rfl) ?_
          replace hf := zk_s hf
          refine va_iast (pc := 182) hx hb hK hP hD hS 1 1 rfl rfl hf.1 (zdt_at zt_X0_setKey_1 37 rfl) ?_
          replace hf := hf.2
          clear hP hD hS
          intro H locs hP hD hS
          replace hP : va_P D vwCl ([(h0, .inr (2, [.ref h0_keys, .int x_3])), (h0_keys, .inl (cy 1, 60, .inl (upd c_keys_10 i_9.toNatClampNeg ((c_keys_10 (i_9 - v_1).toNatClampNeg) ^^^ x_16))))] ++ zpO hP_o hP_k cP_kind cP_length cP_usage cP_role cP_uses ++ zpK (cy 0) hP_k cPK) H := hP
          replace hD : va_D A ([(h0, .inr (2, [.ref h0_keys, .int x_3])), (h0_keys, .inl (cy 1, 60, .inl (upd c_keys_10 i_9.toNatClampNeg ((c_keys_10 (i_9 - v_1).toNatClampNeg) ^^^ x_16))))] ++ zpO hP_o hP_k cP_kind cP_length cP_usage cP_role cP_uses ++ zpK (cy 0) hP_k cPK) := hD
          refine lv_iinc (pc := 183) (v := (i_9 + (1 : Int32))) (lv' := [(5, .int (i_9 + (1 : Int32))), (7, .int x_17), (6, .int x_16), (0, .ref h0), (3, .int v_1), (4, .int i_8)]) hx hb (zdt_at zt_X0_setKey_1 38 rfl) hl (k := 5) rfl rfl (by decide) rfl ?_
          clear hl
          intro ls hl
          refine lv_goto (pc := 186) (tgt := 58) hx hb (zdt_at zt_X0_setKey_1 39 rfl) (by decide) ?_
          exact hTo _ _ _ (ihself_13 _ hf H locs ls hP hD hS (lv_sub hl [3, 4, 5, 0] rfl))
        replace hf := zt_s cn_ hf
        clear cn_
        refine lv_iload (pc := 151) hx hb (zdt_at zt_X0_setKey_1 20 rfl) (lv_at hl 1 rfl) ?_
        refine lv_iload (pc := 153) hx hb (zdt_at zt_X0_setKey_1 21 rfl) (lv_at hl 1 rfl) ?_
        refine lv_iload (pc := 155) hx hb (zdt_at zt_X0_setKey_1 22 rfl) (lv_at hl 1 rfl) ?_
        refine lv_iload (pc := 157) hx hb (zdt_at zt_X0_setKey_1 23 rfl) (lv_at hl 1 rfl) ?_
        replace hf := zb_s hf
        obtain ⟨r_22, hc_, hf⟩ := hf
        refine zcs (pc := 159) (rv := (some (.int r_22))) (va_runS (As := [.int x_16, .int x_16, .int x_16, .int x_16]) (rest := []) ⟨hx, hb, hml, hown, hts⟩ (c_X0_boxed l D cy tt H.size x_16 x_16 x_16 x_16 r_22 hc_) (va_cwS 4 hts gX0_setKey_X0_boxed rfl rfl rfl (by decide +kernel) ⟨Nat.le_of_ble_eq_true rfl, Nat.le_of_ble_eq_true rfl⟩) ⟨zblind, zpre hE hS (hP.sub [] rfl) (hD.sub [] (by decide) rfl) (va_free hD hS hA [] rfl)⟩ rfl rfl hl.1 rfl (lv_room (Nat.le_of_ble_eq_true rfl)) (zdt_at zt_X0_setKey_1 24 rfl) ⟨Nat.zero_le _, Nat.zero_le _⟩) ?_
        clear hc_
        refine W.eq (g2 := F0 m 162 ls [.int r_22]) rfl ?_
        refine lv_istore (pc := 162) (lv' := [(6, .int r_22), (7, .int x_17), (0, .ref h0), (3, .int v_1), (4, .int i_8), (5, .int i_9)]) hx hb (zdt_at zt_X0_setKey_1 25 rfl) hl (by decide) rfl ?_
        clear hl
        intro ls hl
        refine lv_aload_n (pc := 164) hx hb (zdt_at zt_X0_setKey_1 26 rfl) rfl (lv_at hl 2 rfl) ?_
        refine va_get (pc := 165) (D := D) (ci := 2) (v := .ref h0_keys) (C := RX0) (T := TX0) (N := 2) hx hb hts hcX0 hown hK hP 0 rfl rfl 0 (by decide) hw2 (fun _ h9 => h9) rfl (zdt_at zt_X0_setKey_1 27 rfl) ?_
        refine lv_iload (pc := 168) hx hb (zdt_at zt_X0_setKey_1 28 rfl) (lv_at hl 5 rfl) ?_
        refine lv_aload_n (pc := 170) hx hb (zdt_at zt_X0_setKey_1 29 rfl) rfl (lv_at hl 2 rfl) ?_
        refine va_get (pc := 171) (D := D) (ci := 2) (v := .ref h0_keys) (C := RX0) (T := TX0) (N := 2) hx hb hts hcX0 hown hK hP 0 rfl rfl 0 (by decide) hw2 (fun _ h9 => h9) rfl (zdt_at zt_X0_setKey_1 30 rfl) ?_
        refine lv_iload (pc := 174) hx hb (zdt_at zt_X0_setKey_1 31 rfl) (lv_at hl 5 rfl) ?_
        refine lv_iload_n (pc := 176) hx hb (zdt_at zt_X0_setKey_1 32 rfl) rfl (lv_at hl 3 rfl) ?_
        refine lv_isub (pc := 177) hx hb (zdt_at zt_X0_setKey_1 33 rfl) ?_
        replace hf := zk_s hf
        refine va_iald (pc := 178) hx hb hK hP 1 1 rfl rfl hf.1 (zdt_at zt_X0_setKey_1 34 rfl) ?_
        replace hf := hf.2
        refine lv_iload (pc := 179) hx hb (zdt_at zt_X0_setKey_1 35 rfl) (lv_at hl 0 rfl) ?_
        refine lv_ixor (pc := 181) hx hb (zdt_at zt_X0_setKey_1 36 rfl) ?_
        replace hf := zk_s hf
        refine va_iast (pc := 182) hx hb hK hP hD hS 1 1 rfl rfl hf.1 (zdt_at zt_X0_setKey_1 37 rfl) ?_
        replace hf := hf.2
        clear hP hD hS
        intro H locs hP hD hS
        replace hP : va_P D vwCl ([(h0, .inr (2, [.ref h0_keys, .int x_3])), (h0_keys, .inl (cy 1, 60, .inl (upd c_keys_10 i_9.toNatClampNeg ((c_keys_10 (i_9 - v_1).toNatClampNeg) ^^^ r_22))))] ++ zpO hP_o hP_k cP_kind cP_length cP_usage cP_role cP_uses ++ zpK (cy 0) hP_k cPK) H := hP
        replace hD : va_D A ([(h0, .inr (2, [.ref h0_keys, .int x_3])), (h0_keys, .inl (cy 1, 60, .inl (upd c_keys_10 i_9.toNatClampNeg ((c_keys_10 (i_9 - v_1).toNatClampNeg) ^^^ r_22))))] ++ zpO hP_o hP_k cP_kind cP_length cP_usage cP_role cP_uses ++ zpK (cy 0) hP_k cPK) := hD
        refine lv_iinc (pc := 183) (v := (i_9 + (1 : Int32))) (lv' := [(5, .int (i_9 + (1 : Int32))), (6, .int r_22), (7, .int x_17), (0, .ref h0), (3, .int v_1), (4, .int i_8)]) hx hb (zdt_at zt_X0_setKey_1 38 rfl) hl (k := 5) rfl rfl (by decide) rfl ?_
        clear hl
        intro ls hl
        refine lv_goto (pc := 186) (tgt := 58) hx hb (zdt_at zt_X0_setKey_1 39 rfl) (by decide) ?_
        exact hTo _ _ _ (ihself_13 _ hf H locs ls hP hD hS (lv_sub hl [3, 4, 5, 0] rfl))
      replace hf := zt_s cn_ hf
      clear cn_
      refine lv_iload (pc := 95) hx hb (zdt_at zt_X0_setKey_0 55 rfl) (lv_at hl 1 rfl) ?_
      refine lv_bipush (pc := 97) (v := (8 : Int32)) hx hb (zdt_at zt_X0_setKey_0 56 rfl) (by decide) ?_
      refine lv_ishl (pc := 99) hx hb (zdt_at zt_X0_setKey_0 57 rfl) ?_
      refine lv_iload (pc := 100) hx hb (zdt_at zt_X0_setKey_0 58 rfl) (lv_at hl 1 rfl) ?_
      refine lv_bipush (pc := 102) (v := (24 : Int32)) hx hb (zdt_at zt_X0_setKey_0 59 rfl) (by decide) ?_
      refine lv_iushr (pc := 104) hx hb (zdt_at zt_X0_setKey_0 60 rfl) rfl ?_
      refine lv_ior (pc := 105) hx hb (zdt_at zt_X0_setKey_0 61 rfl) ?_
      refine lv_topi (fun x_23 e_ => ?_)
      replace hf := zn_s hf e_
      clear e_
      refine lv_istore (pc := 106) (lv' := [(8, .int x_23), (7, .int x_17), (6, .int x_16), (0, .ref h0), (3, .int v_1), (4, .int i_8), (5, .int i_9)]) hx hb (zdt_at zt_X0_setKey_0 62 rfl) hl (by decide) rfl ?_
      clear hl
      intro ls hl
      refine lv_iload (pc := 108) hx hb (zdt_at zt_X0_setKey_0 63 rfl) (lv_at hl 0 rfl) ?_
      refine lv_iload (pc := 110) hx hb (zdt_at zt_X0_setKey_1 0 rfl) (lv_at hl 0 rfl) ?_
      refine lv_iload (pc := 112) hx hb (zdt_at zt_X0_setKey_1 1 rfl) (lv_at hl 0 rfl) ?_
      refine lv_iload (pc := 114) hx hb (zdt_at zt_X0_setKey_1 2 rfl) (lv_at hl 0 rfl) ?_
      replace hf := zb_s hf
      obtain ⟨r_24, hc_, hf⟩ := hf
      refine zcs (pc := 116) (rv := (some (.int r_24))) (va_runS (As := [.int x_23, .int x_23, .int x_23, .int x_23]) (rest := []) ⟨hx, hb, hml, hown, hts⟩ (c_X0_boxed l D cy tt H.size x_23 x_23 x_23 x_23 r_24 hc_) (va_cwS 4 hts gX0_setKey_X0_boxed rfl rfl rfl (by decide +kernel) ⟨Nat.le_of_ble_eq_true rfl, Nat.le_of_ble_eq_true rfl⟩) ⟨zblind, zpre hE hS (hP.sub [] rfl) (hD.sub [] (by decide) rfl) (va_free hD hS hA [] rfl)⟩ rfl rfl hl.1 rfl (lv_room (Nat.le_of_ble_eq_true rfl)) (zdt_at zt_X0_setKey_1 3 rfl) ⟨Nat.zero_le _, Nat.zero_le _⟩) ?_
      clear hc_
      refine W.eq (g2 := F0 m 119 ls [.int r_24]) rfl ?_
      refine lv_iload (pc := 119) hx hb (zdt_at zt_X0_setKey_1 4 rfl) (lv_at hl 5 rfl) ?_
      refine lv_ixor (pc := 121) hx hb (zdt_at zt_X0_setKey_1 5 rfl) ?_
      refine lv_topi (fun x_25 e_ => ?_)
      replace hf := zn_s hf e_
      clear e_
      refine lv_istore (pc := 122) (lv' := [(6, .int x_25), (8, .int x_23), (7, .int x_17), (0, .ref h0), (3, .int v_1), (4, .int i_8), (5, .int i_9)]) hx hb (zdt_at zt_X0_setKey_1 6 rfl) hl (by decide) rfl ?_
      clear hl
      intro ls hl
      refine lv_iload (pc := 124) hx hb (zdt_at zt_X0_setKey_1 7 rfl) (lv_at hl 5 rfl) ?_
      refine lv_ldc (pc := 126) hx hb hown hw3 (zdt_at zt_X0_setKey_1 8 rfl) ?_
      replace hf := zj_s hf
      obtain ⟨K_27, eK_27, hf⟩ := hf
      have kK_27 : ∀ (v_26 : Int32) (H : Heap) (locs : List Loc) (ls : Array Slot), va_P D vwCl ([(h0, .inr (2, [.ref h0_keys, .int x_3])), (h0_keys, .inl (cy 1, 60, .inl c_keys_10))] ++ zpO hP_o hP_k cP_kind cP_length cP_usage cP_role cP_uses ++ zpK (cy 0) hP_k cPK) H → va_D A ([(h0, .inr (2, [.ref h0_keys, .int x_3])), (h0_keys, .inl (cy 1, 60, .inl c_keys_10))] ++ zpO hP_o hP_k cP_kind cP_length cP_usage cP_role cP_uses ++ zpK (cy 0) hP_k cPK) → va_S A s.heap H locs → lv_has ls 9 [(0, .ref h0), (3, .int v_1), (5, .int i_9), (6, .int x_25)] → K_27 v_26 = some (c_rounds', c_keys') → GW H locs (F0 m 140 ls [.int v_26]) := by
        clear hf hl hP hD hS
        intro v_26 H locs ls hP hD hS hl hf
        rw [eK_27] at hf
        clear eK_27
        refine hFr _ _ _ ?_
        refine lv_istore (pc := 140) (lv' := [(4, .int v_26), (0, .ref h0), (3, .int v_1), (5, .int i_9), (6, .int x_25)]) hx hb (zdt_at zt_X0_setKey_1 15 rfl) hl (by decide) rfl ?_
        clear hl
        intro ls hl
        refine lv_goto (pc := 142) (tgt := 164) hx hb (zdt_at zt_X0_setKey_1 16 rfl) (by decide) ?_
        refine lv_aload_n (pc := 164) hx hb (zdt_at zt_X0_setKey_1 26 rfl) rfl (lv_at hl 1 rfl) ?_
        refine va_get (pc := 165) (D := D) (ci := 2) (v := .ref h0_keys) (C := RX0) (T := TX0) (N := 2) hx hb hts hcX0 hown hK hP 0 rfl rfl 0 (by decide) hw2 (fun _ h9 => h9) rfl (zdt_at zt_X0_setKey_1 27 rfl) ?_
        refine lv_iload (pc := 168) hx hb (zdt_at zt_X0_setKey_1 28 rfl) (lv_at hl 3 rfl) ?_
        refine lv_aload_n (pc := 170) hx hb (zdt_at zt_X0_setKey_1 29 rfl) rfl (lv_at hl 1 rfl) ?_
        refine va_get (pc := 171) (D := D) (ci := 2) (v := .ref h0_keys) (C := RX0) (T := TX0) (N := 2) hx hb hts hcX0 hown hK hP 0 rfl rfl 0 (by decide) hw2 (fun _ h9 => h9) rfl (zdt_at zt_X0_setKey_1 30 rfl) ?_
        refine lv_iload (pc := 174) hx hb (zdt_at zt_X0_setKey_1 31 rfl) (lv_at hl 3 rfl) ?_
        refine lv_iload_n (pc := 176) hx hb (zdt_at zt_X0_setKey_1 32 rfl) rfl (lv_at hl 2 rfl) ?_
        refine lv_isub (pc := 177) hx hb (zdt_at zt_X0_setKey_1 33 rfl) ?_
        replace hf := zk_s hf
        refine va_iald (pc := 178) hx hb hK hP 1 1 rfl rfl hf.1 (zdt_at zt_X0_setKey_1 34 rfl) ?_
        replace hf := hf.2
        refine lv_iload (pc := 179) hx hb (zdt_at zt_X0_setKey_1 35 rfl) (lv_at hl 4 rfl) ?_
        refine lv_ixor (pc := 181) hx hb (zdt_at zt_X0_setKey_1 36 rfl) ?_
        replace hf := zk_s hf
        refine va_iast (pc := 182) hx hb hK hP hD hS 1 1 rfl rfl hf.1 (zdt_at zt_X0_setKey_1 37 rfl) ?_
        replace hf := hf.2
        clear hP hD hS
        intro H locs hP hD hS
        replace hP : va_P D vwCl ([(h0, .inr (2, [.ref h0_keys, .int x_3])), (h0_keys, .inl (cy 1, 60, .inl (upd c_keys_10 i_9.toNatClampNeg ((c_keys_10 (i_9 - v_1).toNatClampNeg) ^^^ x_25))))] ++ zpO hP_o hP_k cP_kind cP_length cP_usage cP_role cP_uses ++ zpK (cy 0) hP_k cPK) H := hP
        replace hD : va_D A ([(h0, .inr (2, [.ref h0_keys, .int x_3])), (h0_keys, .inl (cy 1, 60, .inl (upd c_keys_10 i_9.toNatClampNeg ((c_keys_10 (i_9 - v_1).toNatClampNeg) ^^^ x_25))))] ++ zpO hP_o hP_k cP_kind cP_length cP_usage cP_role cP_uses ++ zpK (cy 0) hP_k cPK) := hD
        refine lv_iinc (pc := 183) (v := (i_9 + (1 : Int32))) (lv' := [(5, .int (i_9 + (1 : Int32))), (4, .int v_26), (0, .ref h0), (3, .int v_1), (6, .int x_25)]) hx hb (zdt_at zt_X0_setKey_1 38 rfl) hl (k := 3) rfl rfl (by decide) rfl ?_
        clear hl
        intro ls hl
        refine lv_goto (pc := 186) (tgt := 58) hx hb (zdt_at zt_X0_setKey_1 39 rfl) (by decide) ?_
        exact hTo _ _ _ (ihself_13 _ hf H locs ls hP hD hS (lv_sub hl [2, 3, 1, 0] rfl))
      clear eK_27
      refine lv_icmp_ne (pc := 128) (tgt := 136) hx hb (zdt_at zt_X0_setKey_1 9 rfl) (by decide) (fun cn_ => ?t_28) (fun cn_ => ?f_29)
      case f_29 =>
        replace hf := zt_s cn_ hf
        clear cn_
        refine lv_ldc (pc := 131) hx hb hown hw4 (zdt_at zt_X0_setKey_1 10 rfl) ?_
        refine lv_goto (pc := 133) (tgt := 140) hx hb (zdt_at zt_X0_setKey_1 11 rfl) (by decide) ?_
        exact hTo _ _ _ (kK_27 _ H locs ls hP hD hS (lv_sub hl [3, 4, 6, 0] rfl) hf)
      replace hf := ze_s cn_ hf
      clear cn_
      refine lv_iload (pc := 136) hx hb (zdt_at zt_X0_setKey_1 12 rfl) (lv_at hl 5 rfl) ?_
      refine lv_iconst (pc := 138) (v := (1 : Int32)) hx hb (zdt_at zt_X0_setKey_1 13 rfl) (by decide) ?_
      refine lv_ishl (pc := 139) hx hb (zdt_at zt_X0_setKey_1 14 rfl) ?_
      exact hTo _ _ _ (kK_27 _ H locs ls hP hD hS (lv_sub hl [3, 4, 6, 0] rfl) hf)
    clear eK_7
    refine hTo _ _ _ (zl_go (fun z => match z with | (i_4, c_keys_5) => ∀ (H : Heap) (locs : List Loc) (ls : Array Slot), va_P D vwCl ([(h0, .inr (2, [.ref h0_keys, .int x_3])), (h0_keys, .inl (cy 1, 60, .inl c_keys_5))] ++ zpO hP_o hP_k cP_kind cP_length cP_usage cP_role cP_uses ++ zpK (cy 0) hP_k cPK) H → va_D A ([(h0, .inr (2, [.ref h0_keys, .int x_3])), (h0_keys, .inl (cy 1, 60, .inl c_keys_5))] ++ zpO hP_o hP_k cP_kind cP_length cP_usage cP_role cP_uses ++ zpK (cy 0) hP_k cPK) → va_S A s.heap H locs → lv_has ls 9 [(0, .ref h0), (1, .ref (hP_k j1)), (3, .int v_1), (4, .int i_4)] → GW H locs (F0 m 24 ls [])) hf ?_ H locs ls hP hD hS (lv_sub hl [2, 3, 1, 0] rfl))
    clear hf hl hP hD hS
    intro self_30 ihself_30 z hf
    obtain ⟨i_4, c_keys_5⟩ := z
    intro H locs ls hP hD hS hl
    refine hFr _ _ _ ?_
    unfold b_X0_setKey_1PK_24 at hf
    refine lv_iload (pc := 24) hx hb (zdt_at zt_X0_setKey_0 14 rfl) (lv_at hl 3 rfl) ?_
    refine lv_iload_n (pc := 26) hx hb (zdt_at zt_X0_setKey_0 15 rfl) rfl (lv_at hl 2 rfl) ?_
    refine lv_icmp_ge (pc := 27) (tgt := 51) hx hb (zdt_at zt_X0_setKey_0 16 rfl) (by decide) (fun cn_ => ?t_31) (fun cn_ => ?f_32)
    case t_31 =>
      replace hf := zt_s cn_ hf
      clear cn_
      exact hTo _ _ _ (kK_7 _ H locs ls hP hD hS (lv_sub hl [0, 2] rfl) hf)
    replace hf := ze_s cn_ hf
    clear cn_
    refine lv_aload_n (pc := 30) hx hb (zdt_at zt_X0_setKey_0 17 rfl) rfl (lv_at hl 0 rfl) ?_
    refine va_get (pc := 31) (D := D) (ci := 2) (v := .ref h0_keys) (C := RX0) (T := TX0) (N := 2) hx hb hts hcX0 hown hK hP 0 rfl rfl 0 (by decide) hw2 (fun _ h9 => h9) rfl (zdt_at zt_X0_setKey_0 18 rfl) ?_
    refine lv_iload (pc := 34) hx hb (zdt_at zt_X0_setKey_0 19 rfl) (lv_at hl 3 rfl) ?_
    refine lv_aload_n (pc := 36) hx hb (zdt_at zt_X0_setKey_0 20 rfl) rfl (lv_at hl 1 rfl) ?_
    refine lv_iconst (pc := 37) (v := (4 : Int32)) hx hb (zdt_at zt_X0_setKey_0 21 rfl) (by decide) ?_
    refine lv_iload (pc := 38) hx hb (zdt_at zt_X0_setKey_0 22 rfl) (lv_at hl 3 rfl) ?_
    refine lv_imul (pc := 40) hx hb (zdt_at zt_X0_setKey_0 23 rfl) ?_
    replace hf := zb_s hf
    obtain ⟨r_33, hc_, hf⟩ := hf
    refine zcs (pc := 41) (rv := (some (.int r_33))) (va_runSN (As := [.ref (hP_k j1), .int ((4 : Int32) * i_4)]) (rest := [.int i_4, .ref h0_keys]) ⟨hx, hb, hml, hown, hts⟩ (c_X9_intAt_0PK l D cy tt H.size hP_o hP_k j1 ((4 : Int32) * i_4) cPK cP_kind cP_length cP_usage cP_role cP_uses r_33 hj_j1 hc_) ⟨va_cnB 2 hts gX0_setKey_X9_intAt_n17 rfl rfl rfl (gNs_0 hE.2.1) hw5 (by decide +kernel) ⟨Nat.le_of_ble_eq_true rfl, Nat.le_of_ble_eq_true rfl⟩, hw6, trivial⟩ ⟨zblind, zpre hE hS (hP.sub [2, 3, 4, 5, 6, 7, 8, 9, 10, 11, 12, 13, 14, 15, 16, 17, 18, 19, 20, 21, 22, 23, 24, 25, 26, 27, 28, 29, 30, 31, 32, 33] rfl) (hD.sub [2, 3, 4, 5, 6, 7, 8, 9, 10, 11, 12, 13, 14, 15, 16, 17, 18, 19, 20, 21, 22, 23, 24, 25, 26, 27, 28, 29, 30, 31, 32, 33] (by decide) rfl) (va_free hD hS hA [2, 3, 4, 5, 6, 7, 8, 9, 10, 11, 12, 13, 14, 15, 16, 17, 18, 19, 20, 21, 22, 23, 24, 25, 26, 27, 28, 29, 30, 31, 32, 33] rfl)⟩ rfl rfl hl.1 rfl (lv_room (Nat.le_of_ble_eq_true rfl)) (zdt_at zt_X0_setKey_0 24 rfl) ⟨Nat.zero_le _, Nat.zero_le _⟩) ?_
    clear hc_
    refine W.eq (g2 := F0 m 44 ls [.int r_33, .int i_4, .ref h0_keys]) rfl ?_
    replace hf := zk_s hf
    refine va_iast (pc := 44) hx hb hK hP hD hS 1 1 rfl rfl hf.1 (zdt_at zt_X0_setKey_0 25 rfl) ?_
    replace hf := hf.2
    clear hP hD hS
    intro H locs hP hD hS
    replace hP : va_P D vwCl ([(h0, .inr (2, [.ref h0_keys, .int x_3])), (h0_keys, .inl (cy 1, 60, .inl (upd c_keys_5 i_4.toNatClampNeg r_33)))] ++ zpO hP_o hP_k cP_kind cP_length cP_usage cP_role cP_uses ++ zpK (cy 0) hP_k cPK) H := hP
    replace hD : va_D A ([(h0, .inr (2, [.ref h0_keys, .int x_3])), (h0_keys, .inl (cy 1, 60, .inl (upd c_keys_5 i_4.toNatClampNeg r_33)))] ++ zpO hP_o hP_k cP_kind cP_length cP_usage cP_role cP_uses ++ zpK (cy 0) hP_k cPK) := hD
    refine lv_iinc (pc := 45) (v := (i_4 + (1 : Int32))) (lv' := [(4, .int (i_4 + (1 : Int32))), (0, .ref h0), (1, .ref (hP_k j1)), (3, .int v_1)]) hx hb (zdt_at zt_X0_setKey_0 26 rfl) hl (k := 3) rfl rfl (by decide) rfl ?_
    clear hl
    intro ls hl
    refine lv_goto (pc := 48) (tgt := 24) hx hb (zdt_at zt_X0_setKey_0 27 rfl) (by decide) ?_
    exact hTo _ _ _ (ihself_30 _ hf H locs ls hP hD hS (lv_sub hl [1, 2, 3, 0] rfl))
  clear eK_2
  refine lv_icmp_ne (pc := 3) (tgt := 11) hx hb (zdt_at zt_X0_setKey_0 2 rfl) (by decide) (fun cn_ => ?t_34) (fun cn_ => ?f_35)
  case t_34 =>
    replace hf := ze_s cn_ hf
    clear cn_
    refine lv_iconst (pc := 11) (v := (4 : Int32)) hx hb (zdt_at zt_X0_setKey_0 5 rfl) (by decide) ?_
    exact hTo _ _ _ (kK_2 _ H locs ls hP hD hS (lv_sub hl [0, 1] rfl) hf)
  replace hf := zt_s cn_ hf
  clear cn_
  refine lv_bipush (pc := 6) (v := (8 : Int32)) hx hb (zdt_at zt_X0_setKey_0 3 rfl) (by decide) ?_
  refine lv_goto (pc := 8) (tgt := 12) hx hb (zdt_at zt_X0_setKey_0 4 rfl) (by decide) ?_
  exact hTo _ _ _ (kK_2 _ H locs ls hP hD hS (lv_sub hl [0, 1] rfl) hf)
def f_X9_wrapBytes (j1 : Nat) (j2 : Nat) (c_aes_rounds : Int32) (c_aes_keys : Nat → Int32) (c_buffer : Nat → Int32) (c_modes_block : Nat → Int32) (c_secret : Nat → Int32) (cP_kind : Nat → Int32) (cP_length : Nat → Int32) (cP_role : Nat → Int32) (cP_usage : Nat → Int32) (cP_uses : Nat → Int32) (cPK : Nat → Nat → Int32) : Option (Int32 × Int32 × (Nat → Int32) × (Nat → Int32) × (Nat → Int32) × (Nat → Int32) × (Nat → Int32)) :=
  (f_X8_takeUse j1 cP_uses).bind (fun cP_uses_1 => (f_X8_takeUse j2 cP_uses_1).bind (fun cP_uses_2 => zn (((cP_length j1) + (16 : Int32)) : Int32) (fun x_3 => zk (¬ ((8 : Int32) < 0 ∨ 80 ≤ (8 : Int32).toNatClampNeg)) (zk (¬ ((9 : Int32) < 0 ∨ 80 ≤ (9 : Int32).toNatClampNeg)) (zk (¬ ((10 : Int32) < 0 ∨ 80 ≤ (10 : Int32).toNatClampNeg)) ((f_J7_fill_eb02e 80 (11 : Int32) (16 : Int32) (0 : Int32) (upd (upd (upd c_secret (8 : Int32).toNatClampNeg (vp_nar .byte ((cP_kind j1).toInt8.toInt32))) (9 : Int32).toNatClampNeg (vp_nar .byte ((cP_usage j1).toInt8.toInt32))) (10 : Int32).toNatClampNeg (vp_nar .byte ((cP_role j1).toInt8.toInt32)))).bind (fun c_secret_4 => zk (¬ (0 : Int32) < 0 ∧ ¬ (16 : Int32) < 0 ∧ ¬ (cP_length j1) < 0 ∧ (0 : Int32).toNatClampNeg + (cP_length j1).toNatClampNeg ≤ 64 ∧ (16 : Int32).toNatClampNeg + (cP_length j1).toNatClampNeg ≤ 80 ∧ (∀ i, i < (cP_length j1).toNatClampNeg → fits .byte (.int ((cPK j1) ((0 : Int32).toNatClampNeg + i))) = true)) ((f_X0_setKey_1PK j2 (cP_length j2) c_aes_rounds c_aes_keys cPK).bind (fun (c_aes_rounds_5, c_aes_keys_6) => (f_X4_wrapIn 80 x_3 c_aes_rounds_5 c_aes_keys_6 c_modes_block (va_cpy (cPK j1) c_secret_4 (0 : Int32).toNatClampNeg (16 : Int32).toNatClampNeg (cP_length j1).toNatClampNeg)).bind (fun (c_modes_block_7, c_secret_8) => zk (¬ (0 : Int32) < 0 ∧ ¬ (0 : Int32) < 0 ∧ ¬ x_3 < 0 ∧ (0 : Int32).toNatClampNeg + x_3.toNatClampNeg ≤ 80 ∧ (0 : Int32).toNatClampNeg + x_3.toNatClampNeg ≤ 512 ∧ (∀ i, i < x_3.toNatClampNeg → fits .byte (.int (c_secret_8 ((0 : Int32).toNatClampNeg + i))) = true)) ((f_X9_forgetSecret c_secret_8).bind (fun c_secret_9 => some (x_3, c_aes_rounds_5, c_aes_keys_6, (va_cpy c_secret_8 c_buffer (0 : Int32).toNatClampNeg (0 : Int32).toNatClampNeg x_3.toNatClampNeg), c_modes_block_7, c_secret_9, cP_uses_2)))))))))))))
set_option maxHeartbeats 4000000 in
set_option maxRecDepth 100000 in
theorem c_X9_wrapBytes (l : Launch) (D : va_G) (cy : Nat → ClassId) (tt : Nat → Nat) (sz : Nat) (h0 : Nat) (h0_buffer : Nat) (h0_slots : Nat) (h0_counters : Nat) (h0_officerPin : Nat) (h0_userPin : Nat) (h0_words : Nat) (h0_sha : Nat) (h0_stream : Nat) (h0_aes : Nat) (h0_modes : Nat) (h0_gcm : Nat) (h0_generator : Nat) (h0_tests : Nat) (h0_message : Nat) (h0_secret : Nat) (h0_aes_keys : Nat) (h0_modes_block : Nat) (h0_modes_pad : Nat) (hP_o : Nat → Nat) (hP_k : Nat → Nat) (j1 : Nat) (j2 : Nat) (c_aes_rounds : Int32) (c_aes_keys : Nat → Int32) (c_buffer : Nat → Int32) (c_modes_block : Nat → Int32) (c_secret : Nat → Int32) (cP_kind : Nat → Int32) (cP_length : Nat → Int32) (cP_role : Nat → Int32) (cP_usage : Nat → Int32) (cP_uses : Nat → Int32) (cPK : Nat → Nat → Int32) (c_state : Int32) (c_testsDone : Int32) (c_faults : Int32) (c_streamBegun : Int32) (r_ : Int32) (c_aes_rounds' : Int32) (c_aes_keys' : Nat → Int32) (c_buffer' : Nat → Int32) (c_modes_block' : Nat → Int32) (c_secret' : Nat → Int32) (cP_uses' : Nat → Int32) (hj_j1 : j1 < 16) (hj_j2 : j2 < 16) (hf : f_X9_wrapBytes j1 j2 c_aes_rounds c_aes_keys c_buffer c_modes_block c_secret cP_kind cP_length cP_role cP_usage cP_uses cPK = some (r_, c_aes_rounds', c_aes_keys', c_buffer', c_modes_block', c_secret', cP_uses')) : Met l yX9_wrapBytes wsX9_wrapBytes ({ frames := 3, cells := 0, slots := 0, locals := 89 }) (zPc D cy tt sz [.ref h0, .ref (hP_o j1), .ref (hP_o j2)] ([(h0, .inr (11, [.ref h0_buffer, .ref h0_slots, .ref h0_counters, .ref h0_officerPin, .ref h0_userPin, .ref h0_words, .ref h0_sha, .ref h0_stream, .ref h0_aes, .ref h0_modes, .ref h0_gcm, .ref h0_generator, .ref h0_tests, .ref h0_message, .ref h0_secret, .int c_state, .int c_testsDone, .int c_faults, .int c_streamBegun])), (h0_aes, .inr (2, [.ref h0_aes_keys, .int c_aes_rounds])), (h0_aes_keys, .inl (cy 1, 60, .inl c_aes_keys)), (h0_buffer, .inl (cy 0, 512, .inl c_buffer)), (h0_modes, .inr (6, [.ref h0_aes, .ref h0_modes_block, .ref h0_modes_pad])), (h0_modes_block, .inl (cy 0, 16, .inl c_modes_block)), (h0_secret, .inl (cy 0, 80, .inl c_secret))] ++ zpO hP_o hP_k cP_kind cP_length cP_usage cP_role cP_uses ++ zpK (cy 0) hP_k cPK)) (zQ D (some (.int r_)) ([(h0, .inr (11, [.ref h0_buffer, .ref h0_slots, .ref h0_counters, .ref h0_officerPin, .ref h0_userPin, .ref h0_words, .ref h0_sha, .ref h0_stream, .ref h0_aes, .ref h0_modes, .ref h0_gcm, .ref h0_generator, .ref h0_tests, .ref h0_message, .ref h0_secret, .int c_state, .int c_testsDone, .int c_faults, .int c_streamBegun])), (h0_aes, .inr (2, [.ref h0_aes_keys, .int c_aes_rounds'])), (h0_aes_keys, .inl (cy 1, 60, .inl c_aes_keys')), (h0_buffer, .inl (cy 0, 512, .inl c_buffer')), (h0_modes, .inr (6, [.ref h0_aes, .ref h0_modes_block, .ref h0_modes_pad])), (h0_modes_block, .inl (cy 0, 16, .inl c_modes_block')), (h0_secret, .inl (cy 0, 80, .inl c_secret'))] ++ zpO hP_o hP_k cP_kind cP_length cP_usage cP_role cP_uses' ++ zpK (cy 0) hP_k cPK) (va_A ([(h0, .inr (11, [.ref h0_buffer, .ref h0_slots, .ref h0_counters, .ref h0_officerPin, .ref h0_userPin, .ref h0_words, .ref h0_sha, .ref h0_stream, .ref h0_aes, .ref h0_modes, .ref h0_gcm, .ref h0_generator, .ref h0_tests, .ref h0_message, .ref h0_secret, .int c_state, .int c_testsDone, .int c_faults, .int c_streamBegun])), (h0_aes, .inr (2, [.ref h0_aes_keys, .int c_aes_rounds])), (h0_aes_keys, .inl (cy 1, 60, .inl c_aes_keys)), (h0_buffer, .inl (cy 0, 512, .inl c_buffer)), (h0_modes, .inr (6, [.ref h0_aes, .ref h0_modes_block, .ref h0_modes_pad])), (h0_modes_block, .inl (cy 0, 16, .inl c_modes_block)), (h0_secret, .inl (cy 0, 80, .inl c_secret))] ++ zpO hP_o hP_k cP_kind cP_length cP_usage cP_role cP_uses ++ zpK (cy 0) hP_k cPK) sz)) 0 0 (va_A ([(h0, .inr (11, [.ref h0_buffer, .ref h0_slots, .ref h0_counters, .ref h0_officerPin, .ref h0_userPin, .ref h0_words, .ref h0_sha, .ref h0_stream, .ref h0_aes, .ref h0_modes, .ref h0_gcm, .ref h0_generator, .ref h0_tests, .ref h0_message, .ref h0_secret, .int c_state, .int c_testsDone, .int c_faults, .int c_streamBegun])), (h0_aes, .inr (2, [.ref h0_aes_keys, .int c_aes_rounds])), (h0_aes_keys, .inl (cy 1, 60, .inl c_aes_keys)), (h0_buffer, .inl (cy 0, 512, .inl c_buffer)), (h0_modes, .inr (6, [.ref h0_aes, .ref h0_modes_block, .ref h0_modes_pad])), (h0_modes_block, .inl (cy 0, 16, .inl c_modes_block)), (h0_secret, .inl (cy 0, 80, .inl c_secret))] ++ zpO hP_o hP_k cP_kind cP_length cP_usage cP_role cP_uses ++ zpK (cy 0) hP_k cPK) sz) := by
  refine Met.ofW (cc := cX9_wrapBytes) (maxL := 4) (ret := (some .int)) (by decide) rfl ?_
  intro p e s m args below meth c s₁ B hml hv
  obtain ⟨rfl, rfl, hP, hD0, hE⟩ := hv
  have hx := B.exec
  have hb := B.bytes
  have hr := B.returns
  have hts := atoms_spec (ws := wsX9_wrapBytes) B.pre
  have hown : s.vm.findClass RX9 = some m.cls := findClass_of_methodNamed B.named
  have hlocks := B.notSynchronized
  clear B
  have hD := hD0.self (sz := s.heap.size)
  generalize hAe : va_A ([(h0, .inr (11, [.ref h0_buffer, .ref h0_slots, .ref h0_counters, .ref h0_officerPin, .ref h0_userPin, .ref h0_words, .ref h0_sha, .ref h0_stream, .ref h0_aes, .ref h0_modes, .ref h0_gcm, .ref h0_generator, .ref h0_tests, .ref h0_message, .ref h0_secret, .int c_state, .int c_testsDone, .int c_faults, .int c_streamBegun])), (h0_aes, .inr (2, [.ref h0_aes_keys, .int c_aes_rounds])), (h0_aes_keys, .inl (cy 1, 60, .inl c_aes_keys)), (h0_buffer, .inl (cy 0, 512, .inl c_buffer)), (h0_modes, .inr (6, [.ref h0_aes, .ref h0_modes_block, .ref h0_modes_pad])), (h0_modes_block, .inl (cy 0, 16, .inl c_modes_block)), (h0_secret, .inl (cy 0, 80, .inl c_secret))] ++ zpO hP_o hP_k cP_kind cP_length cP_usage cP_role cP_uses ++ zpK (cy 0) hP_k cPK) s.heap.size = A at hD hE ⊢
  have hA : ∀ q : Nat, s.heap.size ≤ q → A q := fun q h => by rw [← hAe]; exact Or.inr h
  clear hAe hD0
  have hS : va_S A s.heap s.heap [] := va_S.rf
  have hK := hE.1
  have hw0 := hts (.fieldLink RX9 207 "SealedModule$Slot" "length" "I") (by decide +kernel)
  have hw1 := hts (.fieldLink RX9 98 "SealedModule" "secret" "[B") (by decide +kernel)
  have hw2 := hts (.fieldLink RX9 204 "SealedModule$Slot" "kind" "I") (by decide +kernel)
  have hw3 := hts (.fieldLink RX9 210 "SealedModule$Slot" "usage" "I") (by decide +kernel)
  have hw4 := hts (.fieldLink RX9 213 "SealedModule$Slot" "role" "I") (by decide +kernel)
  have hw5 := hts (.fieldLink RX9 286 "SealedModule$Slot" "key" "[B") (by decide +kernel)
  have hw6 := hts (.methodLink RX9 276 arraycopyName) (by decide +kernel)
  have hw7 := hts (.native arraycopyName) (by decide +kernel)
  have hw8 := hts (.static arraycopyName) (by decide +kernel)
  have hw9 := hts (.initialized "java/lang/System") (by decide +kernel)
  have hw10 := hts (.fieldLink RX9 55 "SealedModule" "aes" "LSealedModule$Aes;") (by decide +kernel)
  have hw11 := hts (.fieldLink RX9 64 "SealedModule" "modes" "LSealedModule$Modes;") (by decide +kernel)
  have hw12 := hts (.fieldLink RX9 9 "SealedModule" "buffer" "[B") (by decide +kernel)
  have hcX8 : ∀ w ∈ u_ws RX8 TX8 6, w ∈ wsX9_wrapBytes := (fun _ h => List.mem_cons_of_mem _ (List.mem_append_left _ (List.mem_append_left _ (List.mem_append_left _ (List.mem_append_left _ (List.mem_append_right _ h))))))
  have hcX9 : ∀ w ∈ u_ws RX9 TX9 19, w ∈ wsX9_wrapBytes := (fun _ h => List.mem_cons_of_mem _ (List.mem_append_left _ (List.mem_append_left _ (List.mem_append_left _ (List.mem_append_right _ h)))))
  have hl := lv_entry ([.ref h0, .ref (hP_o j1), .ref (hP_o j2)]) (n := 4) (Nat.le_of_ble_eq_true rfl)
  rw [lg_entry_eq]
  generalize (lg_sl ([.ref h0, .ref (hP_o j1), .ref (hP_o j2)]) ++ List.replicate (4 - (lg_sl ([.ref h0, .ref (hP_o j1), .ref (hP_o j2)])).length) Slot.unset).toArray = ls at hl ⊢
  replace hl : lv_has ls 4 [(0, .ref h0), (1, .ref (hP_o j1)), (2, .ref (hP_o j2))] := hl
  unfold f_X9_wrapBytes at hf
  refine zgo (fun GW hTo hFr => ?_)
  refine hFr _ _ _ ?_
  obtain ⟨H, hHe⟩ : ∃ H, H = s.heap := ⟨_, rfl⟩
  obtain ⟨locs, hLe⟩ : ∃ L : List Loc, L = [] := ⟨_, rfl⟩
  rw [← hHe] at hP
  replace hS : va_S A s.heap H locs := by rw [hHe, hLe]; exact hS
  refine zat hHe.symm hLe.symm ?_
  clear hHe hLe
  refine lv_aload_n (pc := 0) hx hb (zdt_at zt_X9_wrapBytes_0 0 rfl) rfl (lv_at hl 1 rfl) ?_
  replace hf := zb_s hf
  obtain ⟨cP_uses_1, hc_, hf⟩ := hf
  refine zcm2 (pc := 1) (rv := none) (va_runV (As := []) (rest := []) ⟨hx, hb, hml, hown, hts⟩ (c_X8_takeUse l D cy tt H.size hP_o hP_k j1 cP_uses cP_kind cP_length cP_usage cP_role cP_uses_1 hj_j1 hc_) (cwV 0 hts gX9_wrapBytes_X8_takeUse rfl rfl rfl (by decide +kernel) ⟨Nat.le_of_ble_eq_true rfl, Nat.le_of_ble_eq_true rfl⟩) ⟨zblind, va_recv hK hP (ci := 10) (q0 := (7 + j1)) rfl (zpO_getK (X := [(h0, .inr (11, [.ref h0_buffer, .ref h0_slots, .ref h0_counters, .ref h0_officerPin, .ref h0_userPin, .ref h0_words, .ref h0_sha, .ref h0_stream, .ref h0_aes, .ref h0_modes, .ref h0_gcm, .ref h0_generator, .ref h0_tests, .ref h0_message, .ref h0_secret, .int c_state, .int c_testsDone, .int c_faults, .int c_streamBegun])), (h0_aes, .inr (2, [.ref h0_aes_keys, .int c_aes_rounds])), (h0_aes_keys, .inl (cy 1, 60, .inl c_aes_keys)), (h0_buffer, .inl (cy 0, 512, .inl c_buffer)), (h0_modes, .inr (6, [.ref h0_aes, .ref h0_modes_block, .ref h0_modes_pad])), (h0_modes_block, .inl (cy 0, 16, .inl c_modes_block)), (h0_secret, .inl (cy 0, 80, .inl c_secret))]) (n := 7) rfl hj_j1), zpre hE hS (hP.sub [7, 8, 9, 10, 11, 12, 13, 14, 15, 16, 17, 18, 19, 20, 21, 22] rfl) (hD.sub [7, 8, 9, 10, 11, 12, 13, 14, 15, 16, 17, 18, 19, 20, 21, 22] (by decide) rfl) (va_free hD hS hA [7, 8, 9, 10, 11, 12, 13, 14, 15, 16, 17, 18, 19, 20, 21, 22] rfl)⟩ rfl rfl hl.1 rfl (lv_room (Nat.le_of_ble_eq_true rfl)) (zdt_at zt_X9_wrapBytes_0 1 rfl) ⟨Nat.zero_le _, Nat.zero_le _⟩) hS hP hD (va_free hD hS hA [7, 8, 9, 10, 11, 12, 13, 14, 15, 16, 17, 18, 19, 20, 21, 22] rfl) [7, 8, 9, 10, 11, 12, 13, 14, 15, 16, 17, 18, 19, 20, 21, 22] rfl (by decide) rfl ?_
  clear hP hD hS hc_
  intro H locs hP hD hS
  replace hP : va_P D vwCl ([(h0, .inr (11, [.ref h0_buffer, .ref h0_slots, .ref h0_counters, .ref h0_officerPin, .ref h0_userPin, .ref h0_words, .ref h0_sha, .ref h0_stream, .ref h0_aes, .ref h0_modes, .ref h0_gcm, .ref h0_generator, .ref h0_tests, .ref h0_message, .ref h0_secret, .int c_state, .int c_testsDone, .int c_faults, .int c_streamBegun])), (h0_aes, .inr (2, [.ref h0_aes_keys, .int c_aes_rounds])), (h0_aes_keys, .inl (cy 1, 60, .inl c_aes_keys)), (h0_buffer, .inl (cy 0, 512, .inl c_buffer)), (h0_modes, .inr (6, [.ref h0_aes, .ref h0_modes_block, .ref h0_modes_pad])), (h0_modes_block, .inl (cy 0, 16, .inl c_modes_block)), (h0_secret, .inl (cy 0, 80, .inl c_secret))] ++ zpO hP_o hP_k cP_kind cP_length cP_usage cP_role cP_uses_1 ++ zpK (cy 0) hP_k cPK) H := hP
  replace hD : va_D A ([(h0, .inr (11, [.ref h0_buffer, .ref h0_slots, .ref h0_counters, .ref h0_officerPin, .ref h0_userPin, .ref h0_words, .ref h0_sha, .ref h0_stream, .ref h0_aes, .ref h0_modes, .ref h0_gcm, .ref h0_generator, .ref h0_tests, .ref h0_message, .ref h0_secret, .int c_state, .int c_testsDone, .int c_faults, .int c_streamBegun])), (h0_aes, .inr (2, [.ref h0_aes_keys, .int c_aes_rounds])), (h0_aes_keys, .inl (cy 1, 60, .inl c_aes_keys)), (h0_buffer, .inl (cy 0, 512, .inl c_buffer)), (h0_modes, .inr (6, [.ref h0_aes, .ref h0_modes_block, .ref h0_modes_pad])), (h0_modes_block, .inl (cy 0, 16, .inl c_modes_block)), (h0_secret, .inl (cy 0, 80, .inl c_secret))] ++ zpO hP_o hP_k cP_kind cP_length cP_usage cP_role cP_uses_1 ++ zpK (cy 0) hP_k cPK) := hD
  refine W.eq (g2 := F0 m 4 ls []) rfl ?_
  refine lv_aload_n (pc := 4) hx hb (zdt_at zt_X9_wrapBytes_0 2 rfl) rfl (lv_at hl 2 rfl) ?_
  replace hf := zb_s hf
  obtain ⟨cP_uses_2, hc_, hf⟩ := hf
  refine zcm2 (pc := 5) (rv := none) (va_runV (As := []) (rest := []) ⟨hx, hb, hml, hown, hts⟩ (c_X8_takeUse l D cy tt H.size hP_o hP_k j2 cP_uses_1 cP_kind cP_length cP_usage cP_role cP_uses_2 hj_j2 hc_) (cwV 0 hts gX9_wrapBytes_X8_takeUse rfl rfl rfl (by decide +kernel) ⟨Nat.le_of_ble_eq_true rfl, Nat.le_of_ble_eq_true rfl⟩) ⟨zblind, va_recv hK hP (ci := 10) (q0 := (7 + j2)) rfl (zpO_getK (X := [(h0, .inr (11, [.ref h0_buffer, .ref h0_slots, .ref h0_counters, .ref h0_officerPin, .ref h0_userPin, .ref h0_words, .ref h0_sha, .ref h0_stream, .ref h0_aes, .ref h0_modes, .ref h0_gcm, .ref h0_generator, .ref h0_tests, .ref h0_message, .ref h0_secret, .int c_state, .int c_testsDone, .int c_faults, .int c_streamBegun])), (h0_aes, .inr (2, [.ref h0_aes_keys, .int c_aes_rounds])), (h0_aes_keys, .inl (cy 1, 60, .inl c_aes_keys)), (h0_buffer, .inl (cy 0, 512, .inl c_buffer)), (h0_modes, .inr (6, [.ref h0_aes, .ref h0_modes_block, .ref h0_modes_pad])), (h0_modes_block, .inl (cy 0, 16, .inl c_modes_block)), (h0_secret, .inl (cy 0, 80, .inl c_secret))]) (n := 7) rfl hj_j2), zpre hE hS (hP.sub [7, 8, 9, 10, 11, 12, 13, 14, 15, 16, 17, 18, 19, 20, 21, 22] rfl) (hD.sub [7, 8, 9, 10, 11, 12, 13, 14, 15, 16, 17, 18, 19, 20, 21, 22] (by decide) rfl) (va_free hD hS hA [7, 8, 9, 10, 11, 12, 13, 14, 15, 16, 17, 18, 19, 20, 21, 22] rfl)⟩ rfl rfl hl.1 rfl (lv_room (Nat.le_of_ble_eq_true rfl)) (zdt_at zt_X9_wrapBytes_0 3 rfl) ⟨Nat.zero_le _, Nat.zero_le _⟩) hS hP hD (va_free hD hS hA [7, 8, 9, 10, 11, 12, 13, 14, 15, 16, 17, 18, 19, 20, 21, 22] rfl) [7, 8, 9, 10, 11, 12, 13, 14, 15, 16, 17, 18, 19, 20, 21, 22] rfl (by decide) rfl ?_
  clear hP hD hS hc_
  intro H locs hP hD hS
  replace hP : va_P D vwCl ([(h0, .inr (11, [.ref h0_buffer, .ref h0_slots, .ref h0_counters, .ref h0_officerPin, .ref h0_userPin, .ref h0_words, .ref h0_sha, .ref h0_stream, .ref h0_aes, .ref h0_modes, .ref h0_gcm, .ref h0_generator, .ref h0_tests, .ref h0_message, .ref h0_secret, .int c_state, .int c_testsDone, .int c_faults, .int c_streamBegun])), (h0_aes, .inr (2, [.ref h0_aes_keys, .int c_aes_rounds])), (h0_aes_keys, .inl (cy 1, 60, .inl c_aes_keys)), (h0_buffer, .inl (cy 0, 512, .inl c_buffer)), (h0_modes, .inr (6, [.ref h0_aes, .ref h0_modes_block, .ref h0_modes_pad])), (h0_modes_block, .inl (cy 0, 16, .inl c_modes_block)), (h0_secret, .inl (cy 0, 80, .inl c_secret))] ++ zpO hP_o hP_k cP_kind cP_length cP_usage cP_role cP_uses_2 ++ zpK (cy 0) hP_k cPK) H := hP
  replace hD : va_D A ([(h0, .inr (11, [.ref h0_buffer, .ref h0_slots, .ref h0_counters, .ref h0_officerPin, .ref h0_userPin, .ref h0_words, .ref h0_sha, .ref h0_stream, .ref h0_aes, .ref h0_modes, .ref h0_gcm, .ref h0_generator, .ref h0_tests, .ref h0_message, .ref h0_secret, .int c_state, .int c_testsDone, .int c_faults, .int c_streamBegun])), (h0_aes, .inr (2, [.ref h0_aes_keys, .int c_aes_rounds])), (h0_aes_keys, .inl (cy 1, 60, .inl c_aes_keys)), (h0_buffer, .inl (cy 0, 512, .inl c_buffer)), (h0_modes, .inr (6, [.ref h0_aes, .ref h0_modes_block, .ref h0_modes_pad])), (h0_modes_block, .inl (cy 0, 16, .inl c_modes_block)), (h0_secret, .inl (cy 0, 80, .inl c_secret))] ++ zpO hP_o hP_k cP_kind cP_length cP_usage cP_role cP_uses_2 ++ zpK (cy 0) hP_k cPK) := hD
  refine W.eq (g2 := F0 m 8 ls []) rfl ?_
  refine lv_aload_n (pc := 8) hx hb (zdt_at zt_X9_wrapBytes_0 4 rfl) rfl (lv_at hl 1 rfl) ?_
  refine va_get (pc := 9) (D := D) (ci := 10) (v := .int (cP_length j1)) (C := RX8) (T := TX8) (N := 6) hx hb hts hcX8 hown hK hP (7 + j1) (zpO_getK (X := [(h0, .inr (11, [.ref h0_buffer, .ref h0_slots, .ref h0_counters, .ref h0_officerPin, .ref h0_userPin, .ref h0_words, .ref h0_sha, .ref h0_stream, .ref h0_aes, .ref h0_modes, .ref h0_gcm, .ref h0_generator, .ref h0_tests, .ref h0_message, .ref h0_secret, .int c_state, .int c_testsDone, .int c_faults, .int c_streamBegun])), (h0_aes, .inr (2, [.ref h0_aes_keys, .int c_aes_rounds])), (h0_aes_keys, .inl (cy 1, 60, .inl c_aes_keys)), (h0_buffer, .inl (cy 0, 512, .inl c_buffer)), (h0_modes, .inr (6, [.ref h0_aes, .ref h0_modes_block, .ref h0_modes_pad])), (h0_modes_block, .inl (cy 0, 16, .inl c_modes_block)), (h0_secret, .inl (cy 0, 80, .inl c_secret))]) (n := 7) rfl hj_j1) rfl 2 (by decide) hw0 (fun _ h9 => h9) rfl (zdt_at zt_X9_wrapBytes_0 5 rfl) ?_
  refine lv_bipush (pc := 12) (v := (16 : Int32)) hx hb (zdt_at zt_X9_wrapBytes_0 6 rfl) (by decide) ?_
  refine lv_iadd (pc := 14) hx hb (zdt_at zt_X9_wrapBytes_0 7 rfl) ?_
  refine lv_topi (fun x_3 e_ => ?_)
  replace hf := zn_s hf e_
  clear e_
  refine lv_istore_n (pc := 15) (lv' := [(3, .int x_3), (0, .ref h0), (1, .ref (hP_o j1)), (2, .ref (hP_o j2))]) hx hb (zdt_at zt_X9_wrapBytes_0 8 rfl) rfl hl (by decide) rfl ?_
  clear hl
  intro ls hl
  refine lv_aload_n (pc := 16) hx hb (zdt_at zt_X9_wrapBytes_0 9 rfl) rfl (lv_at hl 1 rfl) ?_
  refine va_get (pc := 17) (D := D) (ci := 11) (v := .ref h0_secret) (C := RX9) (T := TX9) (N := 19) hx hb hts hcX9 hown hK hP 0 rfl rfl 14 (by decide) hw1 (fun _ h9 => h9) rfl (zdt_at zt_X9_wrapBytes_0 10 rfl) ?_
  refine lv_bipush (pc := 20) (v := (8 : Int32)) hx hb (zdt_at zt_X9_wrapBytes_0 11 rfl) (by decide) ?_
  refine lv_aload_n (pc := 22) hx hb (zdt_at zt_X9_wrapBytes_0 12 rfl) rfl (lv_at hl 2 rfl) ?_
  refine va_get (pc := 23) (D := D) (ci := 10) (v := .int (cP_kind j1)) (C := RX8) (T := TX8) (N := 6) hx hb hts hcX8 hown hK hP (7 + j1) (zpO_getK (X := [(h0, .inr (11, [.ref h0_buffer, .ref h0_slots, .ref h0_counters, .ref h0_officerPin, .ref h0_userPin, .ref h0_words, .ref h0_sha, .ref h0_stream, .ref h0_aes, .ref h0_modes, .ref h0_gcm, .ref h0_generator, .ref h0_tests, .ref h0_message, .ref h0_secret, .int c_state, .int c_testsDone, .int c_faults, .int c_streamBegun])), (h0_aes, .inr (2, [.ref h0_aes_keys, .int c_aes_rounds])), (h0_aes_keys, .inl (cy 1, 60, .inl c_aes_keys)), (h0_buffer, .inl (cy 0, 512, .inl c_buffer)), (h0_modes, .inr (6, [.ref h0_aes, .ref h0_modes_block, .ref h0_modes_pad])), (h0_modes_block, .inl (cy 0, 16, .inl c_modes_block)), (h0_secret, .inl (cy 0, 80, .inl c_secret))]) (n := 7) rfl hj_j1) rfl 1 (by decide) hw2 (fun _ h9 => h9) rfl (zdt_at zt_X9_wrapBytes_0 13 rfl) ?_
  refine lv_i2b (pc := 26) hx hb (zdt_at zt_X9_wrapBytes_0 14 rfl) rfl ?_
  replace hf := zk_s hf
  refine va_bast (pc := 27) hx hb hK hP hD hS 6 0 rfl rfl hf.1 (zdt_at zt_X9_wrapBytes_0 15 rfl) ?_
  replace hf := hf.2
  clear hP hD hS
  intro H locs hP hD hS
  replace hP : va_P D vwCl ([(h0, .inr (11, [.ref h0_buffer, .ref h0_slots, .ref h0_counters, .ref h0_officerPin, .ref h0_userPin, .ref h0_words, .ref h0_sha, .ref h0_stream, .ref h0_aes, .ref h0_modes, .ref h0_gcm, .ref h0_generator, .ref h0_tests, .ref h0_message, .ref h0_secret, .int c_state, .int c_testsDone, .int c_faults, .int c_streamBegun])), (h0_aes, .inr (2, [.ref h0_aes_keys, .int c_aes_rounds])), (h0_aes_keys, .inl (cy 1, 60, .inl c_aes_keys)), (h0_buffer, .inl (cy 0, 512, .inl c_buffer)), (h0_modes, .inr (6, [.ref h0_aes, .ref h0_modes_block, .ref h0_modes_pad])), (h0_modes_block, .inl (cy 0, 16, .inl c_modes_block)), (h0_secret, .inl (cy 0, 80, .inl (upd c_secret (8 : Int32).toNatClampNeg (vp_nar .byte ((cP_kind j1).toInt8.toInt32)))))] ++ zpO hP_o hP_k cP_kind cP_length cP_usage cP_role cP_uses_2 ++ zpK (cy 0) hP_k cPK) H := hP
  replace hD : va_D A ([(h0, .inr (11, [.ref h0_buffer, .ref h0_slots, .ref h0_counters, .ref h0_officerPin, .ref h0_userPin, .ref h0_words, .ref h0_sha, .ref h0_stream, .ref h0_aes, .ref h0_modes, .ref h0_gcm, .ref h0_generator, .ref h0_tests, .ref h0_message, .ref h0_secret, .int c_state, .int c_testsDone, .int c_faults, .int c_streamBegun])), (h0_aes, .inr (2, [.ref h0_aes_keys, .int c_aes_rounds])), (h0_aes_keys, .inl (cy 1, 60, .inl c_aes_keys)), (h0_buffer, .inl (cy 0, 512, .inl c_buffer)), (h0_modes, .inr (6, [.ref h0_aes, .ref h0_modes_block, .ref h0_modes_pad])), (h0_modes_block, .inl (cy 0, 16, .inl c_modes_block)), (h0_secret, .inl (cy 0, 80, .inl (upd c_secret (8 : Int32).toNatClampNeg (vp_nar .byte ((cP_kind j1).toInt8.toInt32)))))] ++ zpO hP_o hP_k cP_kind cP_length cP_usage cP_role cP_uses_2 ++ zpK (cy 0) hP_k cPK) := hD
  refine lv_aload_n (pc := 28) hx hb (zdt_at zt_X9_wrapBytes_0 16 rfl) rfl (lv_at hl 1 rfl) ?_
  refine va_get (pc := 29) (D := D) (ci := 11) (v := .ref h0_secret) (C := RX9) (T := TX9) (N := 19) hx hb hts hcX9 hown hK hP 0 rfl rfl 14 (by decide) hw1 (fun _ h9 => h9) rfl (zdt_at zt_X9_wrapBytes_0 17 rfl) ?_
  refine lv_bipush (pc := 32) (v := (9 : Int32)) hx hb (zdt_at zt_X9_wrapBytes_0 18 rfl) (by decide) ?_
  refine lv_aload_n (pc := 34) hx hb (zdt_at zt_X9_wrapBytes_0 19 rfl) rfl (lv_at hl 2 rfl) ?_
  refine va_get (pc := 35) (D := D) (ci := 10) (v := .int (cP_usage j1)) (C := RX8) (T := TX8) (N := 6) hx hb hts hcX8 hown hK hP (7 + j1) (zpO_getK (X := [(h0, .inr (11, [.ref h0_buffer, .ref h0_slots, .ref h0_counters, .ref h0_officerPin, .ref h0_userPin, .ref h0_words, .ref h0_sha, .ref h0_stream, .ref h0_aes, .ref h0_modes, .ref h0_gcm, .ref h0_generator, .ref h0_tests, .ref h0_message, .ref h0_secret, .int c_state, .int c_testsDone, .int c_faults, .int c_streamBegun])), (h0_aes, .inr (2, [.ref h0_aes_keys, .int c_aes_rounds])), (h0_aes_keys, .inl (cy 1, 60, .inl c_aes_keys)), (h0_buffer, .inl (cy 0, 512, .inl c_buffer)), (h0_modes, .inr (6, [.ref h0_aes, .ref h0_modes_block, .ref h0_modes_pad])), (h0_modes_block, .inl (cy 0, 16, .inl c_modes_block)), (h0_secret, .inl (cy 0, 80, .inl (upd c_secret (8 : Int32).toNatClampNeg (vp_nar .byte ((cP_kind j1).toInt8.toInt32)))))]) (n := 7) rfl hj_j1) rfl 3 (by decide) hw3 (fun _ h9 => h9) rfl (zdt_at zt_X9_wrapBytes_0 20 rfl) ?_
  refine lv_i2b (pc := 38) hx hb (zdt_at zt_X9_wrapBytes_0 21 rfl) rfl ?_
  replace hf := zk_s hf
  refine va_bast (pc := 39) hx hb hK hP hD hS 6 0 rfl rfl hf.1 (zdt_at zt_X9_wrapBytes_0 22 rfl) ?_
  replace hf := hf.2
  clear hP hD hS
  intro H locs hP hD hS
  replace hP : va_P D vwCl ([(h0, .inr (11, [.ref h0_buffer, .ref h0_slots, .ref h0_counters, .ref h0_officerPin, .ref h0_userPin, .ref h0_words, .ref h0_sha, .ref h0_stream, .ref h0_aes, .ref h0_modes, .ref h0_gcm, .ref h0_generator, .ref h0_tests, .ref h0_message, .ref h0_secret, .int c_state, .int c_testsDone, .int c_faults, .int c_streamBegun])), (h0_aes, .inr (2, [.ref h0_aes_keys, .int c_aes_rounds])), (h0_aes_keys, .inl (cy 1, 60, .inl c_aes_keys)), (h0_buffer, .inl (cy 0, 512, .inl c_buffer)), (h0_modes, .inr (6, [.ref h0_aes, .ref h0_modes_block, .ref h0_modes_pad])), (h0_modes_block, .inl (cy 0, 16, .inl c_modes_block)), (h0_secret, .inl (cy 0, 80, .inl (upd (upd c_secret (8 : Int32).toNatClampNeg (vp_nar .byte ((cP_kind j1).toInt8.toInt32))) (9 : Int32).toNatClampNeg (vp_nar .byte ((cP_usage j1).toInt8.toInt32)))))] ++ zpO hP_o hP_k cP_kind cP_length cP_usage cP_role cP_uses_2 ++ zpK (cy 0) hP_k cPK) H := hP
  replace hD : va_D A ([(h0, .inr (11, [.ref h0_buffer, .ref h0_slots, .ref h0_counters, .ref h0_officerPin, .ref h0_userPin, .ref h0_words, .ref h0_sha, .ref h0_stream, .ref h0_aes, .ref h0_modes, .ref h0_gcm, .ref h0_generator, .ref h0_tests, .ref h0_message, .ref h0_secret, .int c_state, .int c_testsDone, .int c_faults, .int c_streamBegun])), (h0_aes, .inr (2, [.ref h0_aes_keys, .int c_aes_rounds])), (h0_aes_keys, .inl (cy 1, 60, .inl c_aes_keys)), (h0_buffer, .inl (cy 0, 512, .inl c_buffer)), (h0_modes, .inr (6, [.ref h0_aes, .ref h0_modes_block, .ref h0_modes_pad])), (h0_modes_block, .inl (cy 0, 16, .inl c_modes_block)), (h0_secret, .inl (cy 0, 80, .inl (upd (upd c_secret (8 : Int32).toNatClampNeg (vp_nar .byte ((cP_kind j1).toInt8.toInt32))) (9 : Int32).toNatClampNeg (vp_nar .byte ((cP_usage j1).toInt8.toInt32)))))] ++ zpO hP_o hP_k cP_kind cP_length cP_usage cP_role cP_uses_2 ++ zpK (cy 0) hP_k cPK) := hD
  refine lv_aload_n (pc := 40) hx hb (zdt_at zt_X9_wrapBytes_0 23 rfl) rfl (lv_at hl 1 rfl) ?_
  refine va_get (pc := 41) (D := D) (ci := 11) (v := .ref h0_secret) (C := RX9) (T := TX9) (N := 19) hx hb hts hcX9 hown hK hP 0 rfl rfl 14 (by decide) hw1 (fun _ h9 => h9) rfl (zdt_at zt_X9_wrapBytes_0 24 rfl) ?_
  refine lv_bipush (pc := 44) (v := (10 : Int32)) hx hb (zdt_at zt_X9_wrapBytes_0 25 rfl) (by decide) ?_
  refine lv_aload_n (pc := 46) hx hb (zdt_at zt_X9_wrapBytes_0 26 rfl) rfl (lv_at hl 2 rfl) ?_
  refine va_get (pc := 47) (D := D) (ci := 10) (v := .int (cP_role j1)) (C := RX8) (T := TX8) (N := 6) hx hb hts hcX8 hown hK hP (7 + j1) (zpO_getK (X := [(h0, .inr (11, [.ref h0_buffer, .ref h0_slots, .ref h0_counters, .ref h0_officerPin, .ref h0_userPin, .ref h0_words, .ref h0_sha, .ref h0_stream, .ref h0_aes, .ref h0_modes, .ref h0_gcm, .ref h0_generator, .ref h0_tests, .ref h0_message, .ref h0_secret, .int c_state, .int c_testsDone, .int c_faults, .int c_streamBegun])), (h0_aes, .inr (2, [.ref h0_aes_keys, .int c_aes_rounds])), (h0_aes_keys, .inl (cy 1, 60, .inl c_aes_keys)), (h0_buffer, .inl (cy 0, 512, .inl c_buffer)), (h0_modes, .inr (6, [.ref h0_aes, .ref h0_modes_block, .ref h0_modes_pad])), (h0_modes_block, .inl (cy 0, 16, .inl c_modes_block)), (h0_secret, .inl (cy 0, 80, .inl (upd (upd c_secret (8 : Int32).toNatClampNeg (vp_nar .byte ((cP_kind j1).toInt8.toInt32))) (9 : Int32).toNatClampNeg (vp_nar .byte ((cP_usage j1).toInt8.toInt32)))))]) (n := 7) rfl hj_j1) rfl 4 (by decide) hw4 (fun _ h9 => h9) rfl (zdt_at zt_X9_wrapBytes_0 27 rfl) ?_
  refine lv_i2b (pc := 50) hx hb (zdt_at zt_X9_wrapBytes_0 28 rfl) rfl ?_
  replace hf := zk_s hf
  refine va_bast (pc := 51) hx hb hK hP hD hS 6 0 rfl rfl hf.1 (zdt_at zt_X9_wrapBytes_0 29 rfl) ?_
  replace hf := hf.2
  clear hP hD hS
  intro H locs hP hD hS
  replace hP : va_P D vwCl ([(h0, .inr (11, [.ref h0_buffer, .ref h0_slots, .ref h0_counters, .ref h0_officerPin, .ref h0_userPin, .ref h0_words, .ref h0_sha, .ref h0_stream, .ref h0_aes, .ref h0_modes, .ref h0_gcm, .ref h0_generator, .ref h0_tests, .ref h0_message, .ref h0_secret, .int c_state, .int c_testsDone, .int c_faults, .int c_streamBegun])), (h0_aes, .inr (2, [.ref h0_aes_keys, .int c_aes_rounds])), (h0_aes_keys, .inl (cy 1, 60, .inl c_aes_keys)), (h0_buffer, .inl (cy 0, 512, .inl c_buffer)), (h0_modes, .inr (6, [.ref h0_aes, .ref h0_modes_block, .ref h0_modes_pad])), (h0_modes_block, .inl (cy 0, 16, .inl c_modes_block)), (h0_secret, .inl (cy 0, 80, .inl (upd (upd (upd c_secret (8 : Int32).toNatClampNeg (vp_nar .byte ((cP_kind j1).toInt8.toInt32))) (9 : Int32).toNatClampNeg (vp_nar .byte ((cP_usage j1).toInt8.toInt32))) (10 : Int32).toNatClampNeg (vp_nar .byte ((cP_role j1).toInt8.toInt32)))))] ++ zpO hP_o hP_k cP_kind cP_length cP_usage cP_role cP_uses_2 ++ zpK (cy 0) hP_k cPK) H := hP
  replace hD : va_D A ([(h0, .inr (11, [.ref h0_buffer, .ref h0_slots, .ref h0_counters, .ref h0_officerPin, .ref h0_userPin, .ref h0_words, .ref h0_sha, .ref h0_stream, .ref h0_aes, .ref h0_modes, .ref h0_gcm, .ref h0_generator, .ref h0_tests, .ref h0_message, .ref h0_secret, .int c_state, .int c_testsDone, .int c_faults, .int c_streamBegun])), (h0_aes, .inr (2, [.ref h0_aes_keys, .int c_aes_rounds])), (h0_aes_keys, .inl (cy 1, 60, .inl c_aes_keys)), (h0_buffer, .inl (cy 0, 512, .inl c_buffer)), (h0_modes, .inr (6, [.ref h0_aes, .ref h0_modes_block, .ref h0_modes_pad])), (h0_modes_block, .inl (cy 0, 16, .inl c_modes_block)), (h0_secret, .inl (cy 0, 80, .inl (upd (upd (upd c_secret (8 : Int32).toNatClampNeg (vp_nar .byte ((cP_kind j1).toInt8.toInt32))) (9 : Int32).toNatClampNeg (vp_nar .byte ((cP_usage j1).toInt8.toInt32))) (10 : Int32).toNatClampNeg (vp_nar .byte ((cP_role j1).toInt8.toInt32)))))] ++ zpO hP_o hP_k cP_kind cP_length cP_usage cP_role cP_uses_2 ++ zpK (cy 0) hP_k cPK) := hD
  refine lv_aload_n (pc := 52) hx hb (zdt_at zt_X9_wrapBytes_0 30 rfl) rfl (lv_at hl 1 rfl) ?_
  refine va_get (pc := 53) (D := D) (ci := 11) (v := .ref h0_secret) (C := RX9) (T := TX9) (N := 19) hx hb hts hcX9 hown hK hP 0 rfl rfl 14 (by decide) hw1 (fun _ h9 => h9) rfl (zdt_at zt_X9_wrapBytes_0 31 rfl) ?_
  refine lv_bipush (pc := 56) (v := (11 : Int32)) hx hb (zdt_at zt_X9_wrapBytes_0 32 rfl) (by decide) ?_
  refine lv_bipush (pc := 58) (v := (16 : Int32)) hx hb (zdt_at zt_X9_wrapBytes_0 33 rfl) (by decide) ?_
  refine lv_iconst (pc := 60) (v := (0 : Int32)) hx hb (zdt_at zt_X9_wrapBytes_0 34 rfl) (by decide) ?_
  replace hf := zb_s hf
  obtain ⟨c_secret_4, hc_, hf⟩ := hf
  refine zcm2 (pc := 61) (rv := none) (va_runS (As := [.ref h0_secret, .int (11 : Int32), .int (16 : Int32), .int (0 : Int32)]) (rest := []) ⟨hx, hb, hml, hown, hts⟩ (c_J7_fill_eb02e l D cy tt H.size h0_secret 80 (11 : Int32) (16 : Int32) (0 : Int32) (upd (upd (upd c_secret (8 : Int32).toNatClampNeg (vp_nar .byte ((cP_kind j1).toInt8.toInt32))) (9 : Int32).toNatClampNeg (vp_nar .byte ((cP_usage j1).toInt8.toInt32))) (10 : Int32).toNatClampNeg (vp_nar .byte ((cP_role j1).toInt8.toInt32))) c_secret_4 hc_) (va_cwS 4 hts gX9_wrapBytes_J7_fill_eb02e rfl rfl rfl (by decide +kernel) ⟨Nat.le_of_ble_eq_true rfl, Nat.le_of_ble_eq_true rfl⟩) ⟨zblind, zpre hE hS (hP.sub [6] rfl) (hD.sub [6] (by decide) rfl) (va_free hD hS hA [6] rfl)⟩ rfl rfl hl.1 rfl (lv_room (Nat.le_of_ble_eq_true rfl)) (zdt_at zt_X9_wrapBytes_0 35 rfl) ⟨Nat.zero_le _, Nat.zero_le _⟩) hS hP hD (va_free hD hS hA [6] rfl) [6] rfl (by decide) rfl ?_
  clear hP hD hS hc_
  intro H locs hP hD hS
  replace hP : va_P D vwCl ([(h0, .inr (11, [.ref h0_buffer, .ref h0_slots, .ref h0_counters, .ref h0_officerPin, .ref h0_userPin, .ref h0_words, .ref h0_sha, .ref h0_stream, .ref h0_aes, .ref h0_modes, .ref h0_gcm, .ref h0_generator, .ref h0_tests, .ref h0_message, .ref h0_secret, .int c_state, .int c_testsDone, .int c_faults, .int c_streamBegun])), (h0_aes, .inr (2, [.ref h0_aes_keys, .int c_aes_rounds])), (h0_aes_keys, .inl (cy 1, 60, .inl c_aes_keys)), (h0_buffer, .inl (cy 0, 512, .inl c_buffer)), (h0_modes, .inr (6, [.ref h0_aes, .ref h0_modes_block, .ref h0_modes_pad])), (h0_modes_block, .inl (cy 0, 16, .inl c_modes_block)), (h0_secret, .inl (cy 0, 80, .inl c_secret_4))] ++ zpO hP_o hP_k cP_kind cP_length cP_usage cP_role cP_uses_2 ++ zpK (cy 0) hP_k cPK) H := hP
  replace hD : va_D A ([(h0, .inr (11, [.ref h0_buffer, .ref h0_slots, .ref h0_counters, .ref h0_officerPin, .ref h0_userPin, .ref h0_words, .ref h0_sha, .ref h0_stream, .ref h0_aes, .ref h0_modes, .ref h0_gcm, .ref h0_generator, .ref h0_tests, .ref h0_message, .ref h0_secret, .int c_state, .int c_testsDone, .int c_faults, .int c_streamBegun])), (h0_aes, .inr (2, [.ref h0_aes_keys, .int c_aes_rounds])), (h0_aes_keys, .inl (cy 1, 60, .inl c_aes_keys)), (h0_buffer, .inl (cy 0, 512, .inl c_buffer)), (h0_modes, .inr (6, [.ref h0_aes, .ref h0_modes_block, .ref h0_modes_pad])), (h0_modes_block, .inl (cy 0, 16, .inl c_modes_block)), (h0_secret, .inl (cy 0, 80, .inl c_secret_4))] ++ zpO hP_o hP_k cP_kind cP_length cP_usage cP_role cP_uses_2 ++ zpK (cy 0) hP_k cPK) := hD
  refine W.eq (g2 := F0 m 64 ls []) rfl ?_
  refine lv_aload_n (pc := 64) hx hb (zdt_at zt_X9_wrapBytes_0 36 rfl) rfl (lv_at hl 2 rfl) ?_
  refine va_get (pc := 65) (D := D) (ci := 10) (v := .ref (hP_k j1)) (C := RX8) (T := TX8) (N := 6) hx hb hts hcX8 hown hK hP (7 + j1) (zpO_getK (X := [(h0, .inr (11, [.ref h0_buffer, .ref h0_slots, .ref h0_counters, .ref h0_officerPin, .ref h0_userPin, .ref h0_words, .ref h0_sha, .ref h0_stream, .ref h0_aes, .ref h0_modes, .ref h0_gcm, .ref h0_generator, .ref h0_tests, .ref h0_message, .ref h0_secret, .int c_state, .int c_testsDone, .int c_faults, .int c_streamBegun])), (h0_aes, .inr (2, [.ref h0_aes_keys, .int c_aes_rounds])), (h0_aes_keys, .inl (cy 1, 60, .inl c_aes_keys)), (h0_buffer, .inl (cy 0, 512, .inl c_buffer)), (h0_modes, .inr (6, [.ref h0_aes, .ref h0_modes_block, .ref h0_modes_pad])), (h0_modes_block, .inl (cy 0, 16, .inl c_modes_block)), (h0_secret, .inl (cy 0, 80, .inl c_secret_4))]) (n := 7) rfl hj_j1) rfl 0 (by decide) hw5 (fun _ h9 => h9) rfl (zdt_at zt_X9_wrapBytes_0 37 rfl) ?_
  refine lv_iconst (pc := 68) (v := (0 : Int32)) hx hb (zdt_at zt_X9_wrapBytes_0 38 rfl) (by decide) ?_
  refine lv_aload_n (pc := 69) hx hb (zdt_at zt_X9_wrapBytes_0 39 rfl) rfl (lv_at hl 1 rfl) ?_
  refine va_get (pc := 70) (D := D) (ci := 11) (v := .ref h0_secret) (C := RX9) (T := TX9) (N := 19) hx hb hts hcX9 hown hK hP 0 rfl rfl 14 (by decide) hw1 (fun _ h9 => h9) rfl (zdt_at zt_X9_wrapBytes_0 40 rfl) ?_
  refine lv_bipush (pc := 73) (v := (16 : Int32)) hx hb (zdt_at zt_X9_wrapBytes_0 41 rfl) (by decide) ?_
  refine lv_aload_n (pc := 75) hx hb (zdt_at zt_X9_wrapBytes_0 42 rfl) rfl (lv_at hl 2 rfl) ?_
  refine va_get (pc := 76) (D := D) (ci := 10) (v := .int (cP_length j1)) (C := RX8) (T := TX8) (N := 6) hx hb hts hcX8 hown hK hP (7 + j1) (zpO_getK (X := [(h0, .inr (11, [.ref h0_buffer, .ref h0_slots, .ref h0_counters, .ref h0_officerPin, .ref h0_userPin, .ref h0_words, .ref h0_sha, .ref h0_stream, .ref h0_aes, .ref h0_modes, .ref h0_gcm, .ref h0_generator, .ref h0_tests, .ref h0_message, .ref h0_secret, .int c_state, .int c_testsDone, .int c_faults, .int c_streamBegun])), (h0_aes, .inr (2, [.ref h0_aes_keys, .int c_aes_rounds])), (h0_aes_keys, .inl (cy 1, 60, .inl c_aes_keys)), (h0_buffer, .inl (cy 0, 512, .inl c_buffer)), (h0_modes, .inr (6, [.ref h0_aes, .ref h0_modes_block, .ref h0_modes_pad])), (h0_modes_block, .inl (cy 0, 16, .inl c_modes_block)), (h0_secret, .inl (cy 0, 80, .inl c_secret_4))]) (n := 7) rfl hj_j1) rfl 2 (by decide) hw0 (fun _ h9 => h9) rfl (zdt_at zt_X9_wrapBytes_0 43 rfl) ?_
  replace hf := zk_s hf
  refine va_copyi (pc := 79) hx hb (hml.trans hl.1.symm) hown hw6 hw7 hw8 hw9 hK hP hD hS (23 + j1) 6 0 0 (zpK_get (X := [(h0, .inr (11, [.ref h0_buffer, .ref h0_slots, .ref h0_counters, .ref h0_officerPin, .ref h0_userPin, .ref h0_words, .ref h0_sha, .ref h0_stream, .ref h0_aes, .ref h0_modes, .ref h0_gcm, .ref h0_generator, .ref h0_tests, .ref h0_message, .ref h0_secret, .int c_state, .int c_testsDone, .int c_faults, .int c_streamBegun])), (h0_aes, .inr (2, [.ref h0_aes_keys, .int c_aes_rounds])), (h0_aes_keys, .inl (cy 1, 60, .inl c_aes_keys)), (h0_buffer, .inl (cy 0, 512, .inl c_buffer)), (h0_modes, .inr (6, [.ref h0_aes, .ref h0_modes_block, .ref h0_modes_pad])), (h0_modes_block, .inl (cy 0, 16, .inl c_modes_block)), (h0_secret, .inl (cy 0, 80, .inl c_secret_4))]) (n := 7) rfl hj_j1) rfl rfl rfl rfl hf.1.1 hf.1.2.1 hf.1.2.2.1 hf.1.2.2.2.1 hf.1.2.2.2.2.1 hf.1.2.2.2.2.2 (Nat.le_of_ble_eq_true rfl) (Nat.le_of_ble_eq_true rfl) (zdt_at zt_X9_wrapBytes_0 44 rfl) ?_
  replace hf := hf.2
  clear hP hD hS
  intro H locs hP hD hS
  replace hP : va_P D vwCl ([(h0, .inr (11, [.ref h0_buffer, .ref h0_slots, .ref h0_counters, .ref h0_officerPin, .ref h0_userPin, .ref h0_words, .ref h0_sha, .ref h0_stream, .ref h0_aes, .ref h0_modes, .ref h0_gcm, .ref h0_generator, .ref h0_tests, .ref h0_message, .ref h0_secret, .int c_state, .int c_testsDone, .int c_faults, .int c_streamBegun])), (h0_aes, .inr (2, [.ref h0_aes_keys, .int c_aes_rounds])), (h0_aes_keys, .inl (cy 1, 60, .inl c_aes_keys)), (h0_buffer, .inl (cy 0, 512, .inl c_buffer)), (h0_modes, .inr (6, [.ref h0_aes, .ref h0_modes_block, .ref h0_modes_pad])), (h0_modes_block, .inl (cy 0, 16, .inl c_modes_block)), (h0_secret, .inl (cy 0, 80, .inl (va_cpy (cPK j1) c_secret_4 (0 : Int32).toNatClampNeg (16 : Int32).toNatClampNeg (cP_length j1).toNatClampNeg)))] ++ zpO hP_o hP_k cP_kind cP_length cP_usage cP_role cP_uses_2 ++ zpK (cy 0) hP_k cPK) H := hP
  replace hD : va_D A ([(h0, .inr (11, [.ref h0_buffer, .ref h0_slots, .ref h0_counters, .ref h0_officerPin, .ref h0_userPin, .ref h0_words, .ref h0_sha, .ref h0_stream, .ref h0_aes, .ref h0_modes, .ref h0_gcm, .ref h0_generator, .ref h0_tests, .ref h0_message, .ref h0_secret, .int c_state, .int c_testsDone, .int c_faults, .int c_streamBegun])), (h0_aes, .inr (2, [.ref h0_aes_keys, .int c_aes_rounds])), (h0_aes_keys, .inl (cy 1, 60, .inl c_aes_keys)), (h0_buffer, .inl (cy 0, 512, .inl c_buffer)), (h0_modes, .inr (6, [.ref h0_aes, .ref h0_modes_block, .ref h0_modes_pad])), (h0_modes_block, .inl (cy 0, 16, .inl c_modes_block)), (h0_secret, .inl (cy 0, 80, .inl (va_cpy (cPK j1) c_secret_4 (0 : Int32).toNatClampNeg (16 : Int32).toNatClampNeg (cP_length j1).toNatClampNeg)))] ++ zpO hP_o hP_k cP_kind cP_length cP_usage cP_role cP_uses_2 ++ zpK (cy 0) hP_k cPK) := hD
  refine lv_aload_n (pc := 82) hx hb (zdt_at zt_X9_wrapBytes_0 45 rfl) rfl (lv_at hl 1 rfl) ?_
  refine va_get (pc := 83) (D := D) (ci := 11) (v := .ref h0_aes) (C := RX9) (T := TX9) (N := 19) hx hb hts hcX9 hown hK hP 0 rfl rfl 8 (by decide) hw10 (fun _ h9 => h9) rfl (zdt_at zt_X9_wrapBytes_0 46 rfl) ?_
  refine lv_aload_n (pc := 86) hx hb (zdt_at zt_X9_wrapBytes_0 47 rfl) rfl (lv_at hl 3 rfl) ?_
  refine va_get (pc := 87) (D := D) (ci := 10) (v := .ref (hP_k j2)) (C := RX8) (T := TX8) (N := 6) hx hb hts hcX8 hown hK hP (7 + j2) (zpO_getK (X := [(h0, .inr (11, [.ref h0_buffer, .ref h0_slots, .ref h0_counters, .ref h0_officerPin, .ref h0_userPin, .ref h0_words, .ref h0_sha, .ref h0_stream, .ref h0_aes, .ref h0_modes, .ref h0_gcm, .ref h0_generator, .ref h0_tests, .ref h0_message, .ref h0_secret, .int c_state, .int c_testsDone, .int c_faults, .int c_streamBegun])), (h0_aes, .inr (2, [.ref h0_aes_keys, .int c_aes_rounds])), (h0_aes_keys, .inl (cy 1, 60, .inl c_aes_keys)), (h0_buffer, .inl (cy 0, 512, .inl c_buffer)), (h0_modes, .inr (6, [.ref h0_aes, .ref h0_modes_block, .ref h0_modes_pad])), (h0_modes_block, .inl (cy 0, 16, .inl c_modes_block)), (h0_secret, .inl (cy 0, 80, .inl (va_cpy (cPK j1) c_secret_4 (0 : Int32).toNatClampNeg (16 : Int32).toNatClampNeg (cP_length j1).toNatClampNeg)))]) (n := 7) rfl hj_j2) rfl 0 (by decide) hw5 (fun _ h9 => h9) rfl (zdt_at zt_X9_wrapBytes_0 48 rfl) ?_
  refine lv_aload_n (pc := 90) hx hb (zdt_at zt_X9_wrapBytes_0 49 rfl) rfl (lv_at hl 3 rfl) ?_
  refine va_get (pc := 91) (D := D) (ci := 10) (v := .int (cP_length j2)) (C := RX8) (T := TX8) (N := 6) hx hb hts hcX8 hown hK hP (7 + j2) (zpO_getK (X := [(h0, .inr (11, [.ref h0_buffer, .ref h0_slots, .ref h0_counters, .ref h0_officerPin, .ref h0_userPin, .ref h0_words, .ref h0_sha, .ref h0_stream, .ref h0_aes, .ref h0_modes, .ref h0_gcm, .ref h0_generator, .ref h0_tests, .ref h0_message, .ref h0_secret, .int c_state, .int c_testsDone, .int c_faults, .int c_streamBegun])), (h0_aes, .inr (2, [.ref h0_aes_keys, .int c_aes_rounds])), (h0_aes_keys, .inl (cy 1, 60, .inl c_aes_keys)), (h0_buffer, .inl (cy 0, 512, .inl c_buffer)), (h0_modes, .inr (6, [.ref h0_aes, .ref h0_modes_block, .ref h0_modes_pad])), (h0_modes_block, .inl (cy 0, 16, .inl c_modes_block)), (h0_secret, .inl (cy 0, 80, .inl (va_cpy (cPK j1) c_secret_4 (0 : Int32).toNatClampNeg (16 : Int32).toNatClampNeg (cP_length j1).toNatClampNeg)))]) (n := 7) rfl hj_j2) rfl 2 (by decide) hw0 (fun _ h9 => h9) rfl (zdt_at zt_X9_wrapBytes_0 50 rfl) ?_
  replace hf := zb_s hf
  obtain ⟨⟨c_aes_rounds_5, c_aes_keys_6⟩, hc_, hf⟩ := hf
  refine zcm2 (pc := 94) (rv := none) (va_runV (As := [.ref (hP_k j2), .int (cP_length j2)]) (rest := []) ⟨hx, hb, hml, hown, hts⟩ (c_X0_setKey_1PK l D cy tt H.size h0_aes h0_aes_keys hP_o hP_k j2 (cP_length j2) c_aes_rounds c_aes_keys cPK cP_kind cP_length cP_usage cP_role cP_uses_2 c_aes_rounds_5 c_aes_keys_6 hj_j2 hc_) (cwV 2 hts gX9_wrapBytes_X0_setKey rfl rfl rfl (by decide +kernel) ⟨Nat.le_of_ble_eq_true rfl, Nat.le_of_ble_eq_true rfl⟩) ⟨zblind, va_recv hK hP (ci := 2) (q0 := 1) rfl rfl, zpre hE hS (hP.sub [1, 2, 7, 8, 9, 10, 11, 12, 13, 14, 15, 16, 17, 18, 19, 20, 21, 22, 23, 24, 25, 26, 27, 28, 29, 30, 31, 32, 33, 34, 35, 36, 37, 38] rfl) (hD.sub [1, 2, 7, 8, 9, 10, 11, 12, 13, 14, 15, 16, 17, 18, 19, 20, 21, 22, 23, 24, 25, 26, 27, 28, 29, 30, 31, 32, 33, 34, 35, 36, 37, 38] (by decide) rfl) (va_free hD hS hA [1, 2, 7, 8, 9, 10, 11, 12, 13, 14, 15, 16, 17, 18, 19, 20, 21, 22, 23, 24, 25, 26, 27, 28, 29, 30, 31, 32, 33, 34, 35, 36, 37, 38] rfl)⟩ rfl rfl hl.1 rfl (lv_room (Nat.le_of_ble_eq_true rfl)) (zdt_at zt_X9_wrapBytes_0 51 rfl) ⟨Nat.zero_le _, Nat.zero_le _⟩) hS hP hD (va_free hD hS hA [1, 2, 7, 8, 9, 10, 11, 12, 13, 14, 15, 16, 17, 18, 19, 20, 21, 22, 23, 24, 25, 26, 27, 28, 29, 30, 31, 32, 33, 34, 35, 36, 37, 38] rfl) [1, 2, 7, 8, 9, 10, 11, 12, 13, 14, 15, 16, 17, 18, 19, 20, 21, 22, 23, 24, 25, 26, 27, 28, 29, 30, 31, 32, 33, 34, 35, 36, 37, 38] rfl (by decide) rfl ?_
  clear hP hD hS hc_
  intro H locs hP hD hS
  replace hP : va_P D vwCl ([(h0, .inr (11, [.ref h0_buffer, .ref h0_slots, .ref h0_counters, .ref h0_officerPin, .ref h0_userPin, .ref h0_words, .ref h0_sha, .ref h0_stream, .ref h0_aes, .ref h0_modes, .ref h0_gcm, .ref h0_generator, .ref h0_tests, .ref h0_message, .ref h0_secret, .int c_state, .int c_testsDone, .int c_faults, .int c_streamBegun])), (h0_aes, .inr (2, [.ref h0_aes_keys, .int c_aes_rounds_5])), (h0_aes_keys, .inl (cy 1, 60, .inl c_aes_keys_6)), (h0_buffer, .inl (cy 0, 512, .inl c_buffer)), (h0_modes, .inr (6, [.ref h0_aes, .ref h0_modes_block, .ref h0_modes_pad])), (h0_modes_block, .inl (cy 0, 16, .inl c_modes_block)), (h0_secret, .inl (cy 0, 80, .inl (va_cpy (cPK j1) c_secret_4 (0 : Int32).toNatClampNeg (16 : Int32).toNatClampNeg (cP_length j1).toNatClampNeg)))] ++ zpO hP_o hP_k cP_kind cP_length cP_usage cP_role cP_uses_2 ++ zpK (cy 0) hP_k cPK) H := hP
  replace hD : va_D A ([(h0, .inr (11, [.ref h0_buffer, .ref h0_slots, .ref h0_counters, .ref h0_officerPin, .ref h0_userPin, .ref h0_words, .ref h0_sha, .ref h0_stream, .ref h0_aes, .ref h0_modes, .ref h0_gcm, .ref h0_generator, .ref h0_tests, .ref h0_message, .ref h0_secret, .int c_state, .int c_testsDone, .int c_faults, .int c_streamBegun])), (h0_aes, .inr (2, [.ref h0_aes_keys, .int c_aes_rounds_5])), (h0_aes_keys, .inl (cy 1, 60, .inl c_aes_keys_6)), (h0_buffer, .inl (cy 0, 512, .inl c_buffer)), (h0_modes, .inr (6, [.ref h0_aes, .ref h0_modes_block, .ref h0_modes_pad])), (h0_modes_block, .inl (cy 0, 16, .inl c_modes_block)), (h0_secret, .inl (cy 0, 80, .inl (va_cpy (cPK j1) c_secret_4 (0 : Int32).toNatClampNeg (16 : Int32).toNatClampNeg (cP_length j1).toNatClampNeg)))] ++ zpO hP_o hP_k cP_kind cP_length cP_usage cP_role cP_uses_2 ++ zpK (cy 0) hP_k cPK) := hD
  refine W.eq (g2 := F0 m 97 ls []) rfl ?_
  refine lv_aload_n (pc := 97) hx hb (zdt_at zt_X9_wrapBytes_0 52 rfl) rfl (lv_at hl 1 rfl) ?_
  refine va_get (pc := 98) (D := D) (ci := 11) (v := .ref h0_modes) (C := RX9) (T := TX9) (N := 19) hx hb hts hcX9 hown hK hP 0 rfl rfl 9 (by decide) hw11 (fun _ h9 => h9) rfl (zdt_at zt_X9_wrapBytes_0 53 rfl) ?_
  refine lv_aload_n (pc := 101) hx hb (zdt_at zt_X9_wrapBytes_0 54 rfl) rfl (lv_at hl 1 rfl) ?_
  refine va_get (pc := 102) (D := D) (ci := 11) (v := .ref h0_secret) (C := RX9) (T := TX9) (N := 19) hx hb hts hcX9 hown hK hP 0 rfl rfl 14 (by decide) hw1 (fun _ h9 => h9) rfl (zdt_at zt_X9_wrapBytes_0 55 rfl) ?_
  refine lv_iload_n (pc := 105) hx hb (zdt_at zt_X9_wrapBytes_0 56 rfl) rfl (lv_at hl 0 rfl) ?_
  replace hf := zb_s hf
  obtain ⟨⟨c_modes_block_7, c_secret_8⟩, hc_, hf⟩ := hf
  refine zcm2 (pc := 106) (rv := none) (va_runV (As := [.ref h0_secret, .int x_3]) (rest := []) ⟨hx, hb, hml, hown, hts⟩ (c_X4_wrapIn l D cy tt H.size h0_modes h0_aes h0_modes_block h0_modes_pad h0_aes_keys h0_secret 80 x_3 c_aes_rounds_5 c_aes_keys_6 c_modes_block (va_cpy (cPK j1) c_secret_4 (0 : Int32).toNatClampNeg (16 : Int32).toNatClampNeg (cP_length j1).toNatClampNeg) c_modes_block_7 c_secret_8 hc_) (cwV 2 hts gX9_wrapBytes_X4_wrapIn rfl rfl rfl (by decide +kernel) ⟨Nat.le_of_ble_eq_true rfl, Nat.le_of_ble_eq_true rfl⟩) ⟨zblind, va_recv hK hP (ci := 6) (q0 := 4) rfl rfl, zpre hE hS (hP.sub [4, 1, 2, 5, 6] rfl) (hD.sub [4, 1, 2, 5, 6] (by decide) rfl) (va_free hD hS hA [4, 1, 2, 5, 6] rfl)⟩ rfl rfl hl.1 rfl (lv_room (Nat.le_of_ble_eq_true rfl)) (zdt_at zt_X9_wrapBytes_0 57 rfl) ⟨Nat.zero_le _, Nat.zero_le _⟩) hS hP hD (va_free hD hS hA [4, 1, 2, 5, 6] rfl) [4, 1, 2, 5, 6] rfl (by decide) rfl ?_
  clear hP hD hS hc_
  intro H locs hP hD hS
  replace hP : va_P D vwCl ([(h0, .inr (11, [.ref h0_buffer, .ref h0_slots, .ref h0_counters, .ref h0_officerPin, .ref h0_userPin, .ref h0_words, .ref h0_sha, .ref h0_stream, .ref h0_aes, .ref h0_modes, .ref h0_gcm, .ref h0_generator, .ref h0_tests, .ref h0_message, .ref h0_secret, .int c_state, .int c_testsDone, .int c_faults, .int c_streamBegun])), (h0_aes, .inr (2, [.ref h0_aes_keys, .int c_aes_rounds_5])), (h0_aes_keys, .inl (cy 1, 60, .inl c_aes_keys_6)), (h0_buffer, .inl (cy 0, 512, .inl c_buffer)), (h0_modes, .inr (6, [.ref h0_aes, .ref h0_modes_block, .ref h0_modes_pad])), (h0_modes_block, .inl (cy 0, 16, .inl c_modes_block_7)), (h0_secret, .inl (cy 0, 80, .inl c_secret_8))] ++ zpO hP_o hP_k cP_kind cP_length cP_usage cP_role cP_uses_2 ++ zpK (cy 0) hP_k cPK) H := hP
  replace hD : va_D A ([(h0, .inr (11, [.ref h0_buffer, .ref h0_slots, .ref h0_counters, .ref h0_officerPin, .ref h0_userPin, .ref h0_words, .ref h0_sha, .ref h0_stream, .ref h0_aes, .ref h0_modes, .ref h0_gcm, .ref h0_generator, .ref h0_tests, .ref h0_message, .ref h0_secret, .int c_state, .int c_testsDone, .int c_faults, .int c_streamBegun])), (h0_aes, .inr (2, [.ref h0_aes_keys, .int c_aes_rounds_5])), (h0_aes_keys, .inl (cy 1, 60, .inl c_aes_keys_6)), (h0_buffer, .inl (cy 0, 512, .inl c_buffer)), (h0_modes, .inr (6, [.ref h0_aes, .ref h0_modes_block, .ref h0_modes_pad])), (h0_modes_block, .inl (cy 0, 16, .inl c_modes_block_7)), (h0_secret, .inl (cy 0, 80, .inl c_secret_8))] ++ zpO hP_o hP_k cP_kind cP_length cP_usage cP_role cP_uses_2 ++ zpK (cy 0) hP_k cPK) := hD
  refine W.eq (g2 := F0 m 109 ls []) rfl ?_
  refine lv_aload_n (pc := 109) hx hb (zdt_at zt_X9_wrapBytes_0 58 rfl) rfl (lv_at hl 1 rfl) ?_
  refine va_get (pc := 110) (D := D) (ci := 11) (v := .ref h0_secret) (C := RX9) (T := TX9) (N := 19) hx hb hts hcX9 hown hK hP 0 rfl rfl 14 (by decide) hw1 (fun _ h9 => h9) rfl (zdt_at zt_X9_wrapBytes_0 59 rfl) ?_
  refine lv_iconst (pc := 113) (v := (0 : Int32)) hx hb (zdt_at zt_X9_wrapBytes_0 60 rfl) (by decide) ?_
  refine lv_aload_n (pc := 114) hx hb (zdt_at zt_X9_wrapBytes_0 61 rfl) rfl (lv_at hl 1 rfl) ?_
  refine va_get (pc := 115) (D := D) (ci := 11) (v := .ref h0_buffer) (C := RX9) (T := TX9) (N := 19) hx hb hts hcX9 hown hK hP 0 rfl rfl 0 (by decide) hw12 (fun _ h9 => h9) rfl (zdt_at zt_X9_wrapBytes_0 62 rfl) ?_
  refine lv_iconst (pc := 118) (v := (0 : Int32)) hx hb (zdt_at zt_X9_wrapBytes_0 63 rfl) (by decide) ?_
  refine lv_iload_n (pc := 119) hx hb (zdt_at zt_X9_wrapBytes_1 0 rfl) rfl (lv_at hl 0 rfl) ?_
  replace hf := zk_s hf
  refine va_copyi (pc := 120) hx hb (hml.trans hl.1.symm) hown hw6 hw7 hw8 hw9 hK hP hD hS 6 3 0 0 rfl rfl rfl rfl rfl hf.1.1 hf.1.2.1 hf.1.2.2.1 hf.1.2.2.2.1 hf.1.2.2.2.2.1 hf.1.2.2.2.2.2 (Nat.le_of_ble_eq_true rfl) (Nat.le_of_ble_eq_true rfl) (zdt_at zt_X9_wrapBytes_1 1 rfl) ?_
  replace hf := hf.2
  clear hP hD hS
  intro H locs hP hD hS
  replace hP : va_P D vwCl ([(h0, .inr (11, [.ref h0_buffer, .ref h0_slots, .ref h0_counters, .ref h0_officerPin, .ref h0_userPin, .ref h0_words, .ref h0_sha, .ref h0_stream, .ref h0_aes, .ref h0_modes, .ref h0_gcm, .ref h0_generator, .ref h0_tests, .ref h0_message, .ref h0_secret, .int c_state, .int c_testsDone, .int c_faults, .int c_streamBegun])), (h0_aes, .inr (2, [.ref h0_aes_keys, .int c_aes_rounds_5])), (h0_aes_keys, .inl (cy 1, 60, .inl c_aes_keys_6)), (h0_buffer, .inl (cy 0, 512, .inl (va_cpy c_secret_8 c_buffer (0 : Int32).toNatClampNeg (0 : Int32).toNatClampNeg x_3.toNatClampNeg))), (h0_modes, .inr (6, [.ref h0_aes, .ref h0_modes_block, .ref h0_modes_pad])), (h0_modes_block, .inl (cy 0, 16, .inl c_modes_block_7)), (h0_secret, .inl (cy 0, 80, .inl c_secret_8))] ++ zpO hP_o hP_k cP_kind cP_length cP_usage cP_role cP_uses_2 ++ zpK (cy 0) hP_k cPK) H := hP
  replace hD : va_D A ([(h0, .inr (11, [.ref h0_buffer, .ref h0_slots, .ref h0_counters, .ref h0_officerPin, .ref h0_userPin, .ref h0_words, .ref h0_sha, .ref h0_stream, .ref h0_aes, .ref h0_modes, .ref h0_gcm, .ref h0_generator, .ref h0_tests, .ref h0_message, .ref h0_secret, .int c_state, .int c_testsDone, .int c_faults, .int c_streamBegun])), (h0_aes, .inr (2, [.ref h0_aes_keys, .int c_aes_rounds_5])), (h0_aes_keys, .inl (cy 1, 60, .inl c_aes_keys_6)), (h0_buffer, .inl (cy 0, 512, .inl (va_cpy c_secret_8 c_buffer (0 : Int32).toNatClampNeg (0 : Int32).toNatClampNeg x_3.toNatClampNeg))), (h0_modes, .inr (6, [.ref h0_aes, .ref h0_modes_block, .ref h0_modes_pad])), (h0_modes_block, .inl (cy 0, 16, .inl c_modes_block_7)), (h0_secret, .inl (cy 0, 80, .inl c_secret_8))] ++ zpO hP_o hP_k cP_kind cP_length cP_usage cP_role cP_uses_2 ++ zpK (cy 0) hP_k cPK) := hD
  refine lv_aload_n (pc := 123) hx hb (zdt_at zt_X9_wrapBytes_1 2 rfl) rfl (lv_at hl 1 rfl) ?_
  replace hf := zb_s hf
  obtain ⟨c_secret_9, hc_, hf⟩ := hf
  refine zcm2 (pc := 124) (rv := none) (va_runV (As := []) (rest := []) ⟨hx, hb, hml, hown, hts⟩ (c_X9_forgetSecret l D cy tt H.size h0 h0_buffer h0_slots h0_counters h0_officerPin h0_userPin h0_words h0_sha h0_stream h0_aes h0_modes h0_gcm h0_generator h0_tests h0_message h0_secret c_secret_8 c_state c_testsDone c_faults c_streamBegun c_secret_9 hc_) (cwV 0 hts gX9_wrapBytes_X9_forgetSecret rfl rfl rfl (by decide +kernel) ⟨Nat.le_of_ble_eq_true rfl, Nat.le_of_ble_eq_true rfl⟩) ⟨zblind, va_recv hK hP (ci := 11) (q0 := 0) rfl rfl, zpre hE hS (hP.sub [0, 6] rfl) (hD.sub [0, 6] (by decide) rfl) (va_free hD hS hA [0, 6] rfl)⟩ rfl rfl hl.1 rfl (lv_room (Nat.le_of_ble_eq_true rfl)) (zdt_at zt_X9_wrapBytes_1 3 rfl) ⟨Nat.zero_le _, Nat.zero_le _⟩) hS hP hD (va_free hD hS hA [0, 6] rfl) [0, 6] rfl (by decide) rfl ?_
  clear hP hD hS hc_
  intro H locs hP hD hS
  replace hP : va_P D vwCl ([(h0, .inr (11, [.ref h0_buffer, .ref h0_slots, .ref h0_counters, .ref h0_officerPin, .ref h0_userPin, .ref h0_words, .ref h0_sha, .ref h0_stream, .ref h0_aes, .ref h0_modes, .ref h0_gcm, .ref h0_generator, .ref h0_tests, .ref h0_message, .ref h0_secret, .int c_state, .int c_testsDone, .int c_faults, .int c_streamBegun])), (h0_aes, .inr (2, [.ref h0_aes_keys, .int c_aes_rounds_5])), (h0_aes_keys, .inl (cy 1, 60, .inl c_aes_keys_6)), (h0_buffer, .inl (cy 0, 512, .inl (va_cpy c_secret_8 c_buffer (0 : Int32).toNatClampNeg (0 : Int32).toNatClampNeg x_3.toNatClampNeg))), (h0_modes, .inr (6, [.ref h0_aes, .ref h0_modes_block, .ref h0_modes_pad])), (h0_modes_block, .inl (cy 0, 16, .inl c_modes_block_7)), (h0_secret, .inl (cy 0, 80, .inl c_secret_9))] ++ zpO hP_o hP_k cP_kind cP_length cP_usage cP_role cP_uses_2 ++ zpK (cy 0) hP_k cPK) H := hP
  replace hD : va_D A ([(h0, .inr (11, [.ref h0_buffer, .ref h0_slots, .ref h0_counters, .ref h0_officerPin, .ref h0_userPin, .ref h0_words, .ref h0_sha, .ref h0_stream, .ref h0_aes, .ref h0_modes, .ref h0_gcm, .ref h0_generator, .ref h0_tests, .ref h0_message, .ref h0_secret, .int c_state, .int c_testsDone, .int c_faults, .int c_streamBegun])), (h0_aes, .inr (2, [.ref h0_aes_keys, .int c_aes_rounds_5])), (h0_aes_keys, .inl (cy 1, 60, .inl c_aes_keys_6)), (h0_buffer, .inl (cy 0, 512, .inl (va_cpy c_secret_8 c_buffer (0 : Int32).toNatClampNeg (0 : Int32).toNatClampNeg x_3.toNatClampNeg))), (h0_modes, .inr (6, [.ref h0_aes, .ref h0_modes_block, .ref h0_modes_pad])), (h0_modes_block, .inl (cy 0, 16, .inl c_modes_block_7)), (h0_secret, .inl (cy 0, 80, .inl c_secret_9))] ++ zpO hP_o hP_k cP_kind cP_length cP_usage cP_role cP_uses_2 ++ zpK (cy 0) hP_k cPK) := hD
  refine W.eq (g2 := F0 m 127 ls []) rfl ?_
  refine lv_iload_n (pc := 127) hx hb (zdt_at zt_X9_wrapBytes_1 4 rfl) rfl (lv_at hl 0 rfl) ?_
  cases hf
  exact W.iret (pc := 128) hx hb hr (fun t ht hW => ⟨rfl, ⟨by rw [ht]; exact hP, hD⟩, hS.F ht⟩) hS.2.2 (zdt_at zt_X9_wrapBytes_1 5 rfl)
def f_X9_wrapAnswer (p1 : Int32) (p2 : Int32) (c_state : Int32) (c_aes_rounds : Int32) (c_aes_keys : Nat → Int32) (c_buffer : Nat → Int32) (c_modes_block : Nat → Int32) (c_secret : Nat → Int32) (cP_kind : Nat → Int32) (cP_length : Nat → Int32) (cP_role : Nat → Int32) (cP_usage : Nat → Int32) (cP_uses : Nat → Int32) (cPK : Nat → Nat → Int32) : Option (Int32 × Int32 × (Nat → Int32) × (Nat → Int32) × (Nat → Int32) × (Nat → Int32) × (Nat → Int32)) :=
  (f_X9_loggedIn c_state).bind (fun r_1 => if r_1 = 0 then some ((-1 : Int32), c_aes_rounds, c_aes_keys, c_buffer, c_modes_block, c_secret, cP_uses) else (f_X9_isSlot p1).bind (fun r_4 => if r_4 = 0 then some ((-2 : Int32), c_aes_rounds, c_aes_keys, c_buffer, c_modes_block, c_secret, cP_uses) else (f_X9_isSlot p2).bind (fun r_7 => if r_7 = 0 then some ((-2 : Int32), c_aes_rounds, c_aes_keys, c_buffer, c_modes_block, c_secret, cP_uses) else if p1 = p2 then some ((-2 : Int32), c_aes_rounds, c_aes_keys, c_buffer, c_modes_block, c_secret, cP_uses) else zk (¬ (p1 < 0 ∨ 16 ≤ p1.toNatClampNeg)) (zk (¬ (p2 < 0 ∨ 16 ≤ p2.toNatClampNeg)) ((f_X9_wrapKeysRefusal p1.toNatClampNeg p2.toNatClampNeg c_state cP_kind cP_length cP_role cP_usage cP_uses).bind (fun r_14 => if r_14 = 0 then zk (¬ (p1 < 0 ∨ 16 ≤ p1.toNatClampNeg)) (zk (¬ (p2 < 0 ∨ 16 ≤ p2.toNatClampNeg)) ((f_X9_wrapBytes p1.toNatClampNeg p2.toNatClampNeg c_aes_rounds c_aes_keys c_buffer c_modes_block c_secret cP_kind cP_length cP_role cP_usage cP_uses cPK).bind (fun (r_19, c_aes_rounds_20, c_aes_keys_21, c_buffer_22, c_modes_block_23, c_secret_24, cP_uses_25) => some (r_19, c_aes_rounds_20, c_aes_keys_21, c_buffer_22, c_modes_block_23, c_secret_24, cP_uses_25)))) else some (r_14, c_aes_rounds, c_aes_keys, c_buffer, c_modes_block, c_secret, cP_uses)))))))
set_option maxHeartbeats 4000000 in
set_option maxRecDepth 100000 in
theorem c_X9_wrapAnswer (l : Launch) (D : va_G) (cy : Nat → ClassId) (tt : Nat → Nat) (sz : Nat) (h0 : Nat) (h0_buffer : Nat) (h0_slots : Nat) (h0_counters : Nat) (h0_officerPin : Nat) (h0_userPin : Nat) (h0_words : Nat) (h0_sha : Nat) (h0_stream : Nat) (h0_aes : Nat) (h0_modes : Nat) (h0_gcm : Nat) (h0_generator : Nat) (h0_tests : Nat) (h0_message : Nat) (h0_secret : Nat) (h0_aes_keys : Nat) (h0_modes_block : Nat) (h0_modes_pad : Nat) (hP_o : Nat → Nat) (hP_k : Nat → Nat) (p1 : Int32) (p2 : Int32) (c_state : Int32) (c_aes_rounds : Int32) (c_aes_keys : Nat → Int32) (c_buffer : Nat → Int32) (c_modes_block : Nat → Int32) (c_secret : Nat → Int32) (cP_kind : Nat → Int32) (cP_length : Nat → Int32) (cP_role : Nat → Int32) (cP_usage : Nat → Int32) (cP_uses : Nat → Int32) (cPK : Nat → Nat → Int32) (c_testsDone : Int32) (c_faults : Int32) (c_streamBegun : Int32) (r_ : Int32) (c_aes_rounds' : Int32) (c_aes_keys' : Nat → Int32) (c_buffer' : Nat → Int32) (c_modes_block' : Nat → Int32) (c_secret' : Nat → Int32) (cP_uses' : Nat → Int32) (hf : f_X9_wrapAnswer p1 p2 c_state c_aes_rounds c_aes_keys c_buffer c_modes_block c_secret cP_kind cP_length cP_role cP_usage cP_uses cPK = some (r_, c_aes_rounds', c_aes_keys', c_buffer', c_modes_block', c_secret', cP_uses')) : Met l yX9_wrapAnswer wsX9_wrapAnswer ({ frames := 4, cells := 0, slots := 0, locals := 112 }) (zPc D cy tt sz [.ref h0, .int p1, .int p2] ([(h0, .inr (11, [.ref h0_buffer, .ref h0_slots, .ref h0_counters, .ref h0_officerPin, .ref h0_userPin, .ref h0_words, .ref h0_sha, .ref h0_stream, .ref h0_aes, .ref h0_modes, .ref h0_gcm, .ref h0_generator, .ref h0_tests, .ref h0_message, .ref h0_secret, .int c_state, .int c_testsDone, .int c_faults, .int c_streamBegun])), (h0_aes, .inr (2, [.ref h0_aes_keys, .int c_aes_rounds])), (h0_aes_keys, .inl (cy 1, 60, .inl c_aes_keys)), (h0_buffer, .inl (cy 0, 512, .inl c_buffer)), (h0_modes, .inr (6, [.ref h0_aes, .ref h0_modes_block, .ref h0_modes_pad])), (h0_modes_block, .inl (cy 0, 16, .inl c_modes_block)), (h0_secret, .inl (cy 0, 80, .inl c_secret)), (h0_slots, .inl (cy 4, 16, .inr (.inr (.inr (.inr (fun j => some (hP_o j)))))))] ++ zpO hP_o hP_k cP_kind cP_length cP_usage cP_role cP_uses ++ zpK (cy 0) hP_k cPK)) (zQ D (some (.int r_)) ([(h0, .inr (11, [.ref h0_buffer, .ref h0_slots, .ref h0_counters, .ref h0_officerPin, .ref h0_userPin, .ref h0_words, .ref h0_sha, .ref h0_stream, .ref h0_aes, .ref h0_modes, .ref h0_gcm, .ref h0_generator, .ref h0_tests, .ref h0_message, .ref h0_secret, .int c_state, .int c_testsDone, .int c_faults, .int c_streamBegun])), (h0_aes, .inr (2, [.ref h0_aes_keys, .int c_aes_rounds'])), (h0_aes_keys, .inl (cy 1, 60, .inl c_aes_keys')), (h0_buffer, .inl (cy 0, 512, .inl c_buffer')), (h0_modes, .inr (6, [.ref h0_aes, .ref h0_modes_block, .ref h0_modes_pad])), (h0_modes_block, .inl (cy 0, 16, .inl c_modes_block')), (h0_secret, .inl (cy 0, 80, .inl c_secret')), (h0_slots, .inl (cy 4, 16, .inr (.inr (.inr (.inr (fun j => some (hP_o j)))))))] ++ zpO hP_o hP_k cP_kind cP_length cP_usage cP_role cP_uses' ++ zpK (cy 0) hP_k cPK) (va_A ([(h0, .inr (11, [.ref h0_buffer, .ref h0_slots, .ref h0_counters, .ref h0_officerPin, .ref h0_userPin, .ref h0_words, .ref h0_sha, .ref h0_stream, .ref h0_aes, .ref h0_modes, .ref h0_gcm, .ref h0_generator, .ref h0_tests, .ref h0_message, .ref h0_secret, .int c_state, .int c_testsDone, .int c_faults, .int c_streamBegun])), (h0_aes, .inr (2, [.ref h0_aes_keys, .int c_aes_rounds])), (h0_aes_keys, .inl (cy 1, 60, .inl c_aes_keys)), (h0_buffer, .inl (cy 0, 512, .inl c_buffer)), (h0_modes, .inr (6, [.ref h0_aes, .ref h0_modes_block, .ref h0_modes_pad])), (h0_modes_block, .inl (cy 0, 16, .inl c_modes_block)), (h0_secret, .inl (cy 0, 80, .inl c_secret)), (h0_slots, .inl (cy 4, 16, .inr (.inr (.inr (.inr (fun j => some (hP_o j)))))))] ++ zpO hP_o hP_k cP_kind cP_length cP_usage cP_role cP_uses ++ zpK (cy 0) hP_k cPK) sz)) 0 0 (va_A ([(h0, .inr (11, [.ref h0_buffer, .ref h0_slots, .ref h0_counters, .ref h0_officerPin, .ref h0_userPin, .ref h0_words, .ref h0_sha, .ref h0_stream, .ref h0_aes, .ref h0_modes, .ref h0_gcm, .ref h0_generator, .ref h0_tests, .ref h0_message, .ref h0_secret, .int c_state, .int c_testsDone, .int c_faults, .int c_streamBegun])), (h0_aes, .inr (2, [.ref h0_aes_keys, .int c_aes_rounds])), (h0_aes_keys, .inl (cy 1, 60, .inl c_aes_keys)), (h0_buffer, .inl (cy 0, 512, .inl c_buffer)), (h0_modes, .inr (6, [.ref h0_aes, .ref h0_modes_block, .ref h0_modes_pad])), (h0_modes_block, .inl (cy 0, 16, .inl c_modes_block)), (h0_secret, .inl (cy 0, 80, .inl c_secret)), (h0_slots, .inl (cy 4, 16, .inr (.inr (.inr (.inr (fun j => some (hP_o j)))))))] ++ zpO hP_o hP_k cP_kind cP_length cP_usage cP_role cP_uses ++ zpK (cy 0) hP_k cPK) sz) := by
  refine Met.ofW (cc := cX9_wrapAnswer) (maxL := 4) (ret := (some .int)) (by decide) rfl ?_
  intro p e s m args below meth c s₁ B hml hv
  obtain ⟨rfl, rfl, hP, hD0, hE⟩ := hv
  have hx := B.exec
  have hb := B.bytes
  have hr := B.returns
  have hts := atoms_spec (ws := wsX9_wrapAnswer) B.pre
  have hown : s.vm.findClass RX9 = some m.cls := findClass_of_methodNamed B.named
  have hlocks := B.notSynchronized
  clear B
  have hD := hD0.self (sz := s.heap.size)
  generalize hAe : va_A ([(h0, .inr (11, [.ref h0_buffer, .ref h0_slots, .ref h0_counters, .ref h0_officerPin, .ref h0_userPin, .ref h0_words, .ref h0_sha, .ref h0_stream, .ref h0_aes, .ref h0_modes, .ref h0_gcm, .ref h0_generator, .ref h0_tests, .ref h0_message, .ref h0_secret, .int c_state, .int c_testsDone, .int c_faults, .int c_streamBegun])), (h0_aes, .inr (2, [.ref h0_aes_keys, .int c_aes_rounds])), (h0_aes_keys, .inl (cy 1, 60, .inl c_aes_keys)), (h0_buffer, .inl (cy 0, 512, .inl c_buffer)), (h0_modes, .inr (6, [.ref h0_aes, .ref h0_modes_block, .ref h0_modes_pad])), (h0_modes_block, .inl (cy 0, 16, .inl c_modes_block)), (h0_secret, .inl (cy 0, 80, .inl c_secret)), (h0_slots, .inl (cy 4, 16, .inr (.inr (.inr (.inr (fun j => some (hP_o j)))))))] ++ zpO hP_o hP_k cP_kind cP_length cP_usage cP_role cP_uses ++ zpK (cy 0) hP_k cPK) s.heap.size = A at hD hE ⊢
  have hA : ∀ q : Nat, s.heap.size ≤ q → A q := fun q h => by rw [← hAe]; exact Or.inr h
  clear hAe hD0
  have hS : va_S A s.heap s.heap [] := va_S.rf
  have hK := hE.1
  have hw0 := hts (.fieldLink RX9 15 "SealedModule" "slots" "[LSealedModule$Slot;") (by decide +kernel)
  have hcX9 : ∀ w ∈ u_ws RX9 TX9 19, w ∈ wsX9_wrapAnswer := (fun _ h => List.mem_cons_of_mem _ (List.mem_append_left _ (List.mem_append_left _ (List.mem_append_left _ (List.mem_append_left _ (List.mem_append_right _ h))))))
  have hl := lv_entry ([.ref h0, .int p1, .int p2]) (n := 4) (Nat.le_of_ble_eq_true rfl)
  rw [lg_entry_eq]
  generalize (lg_sl ([.ref h0, .int p1, .int p2]) ++ List.replicate (4 - (lg_sl ([.ref h0, .int p1, .int p2])).length) Slot.unset).toArray = ls at hl ⊢
  replace hl : lv_has ls 4 [(0, .ref h0), (1, .int p1), (2, .int p2)] := hl
  unfold f_X9_wrapAnswer at hf
  refine zgo (fun GW hTo hFr => ?_)
  refine hFr _ _ _ ?_
  obtain ⟨H, hHe⟩ : ∃ H, H = s.heap := ⟨_, rfl⟩
  obtain ⟨locs, hLe⟩ : ∃ L : List Loc, L = [] := ⟨_, rfl⟩
  rw [← hHe] at hP
  replace hS : va_S A s.heap H locs := by rw [hHe, hLe]; exact hS
  refine zat hHe.symm hLe.symm ?_
  clear hHe hLe
  refine lv_aload_n (pc := 0) hx hb (zdt_at zt_X9_wrapAnswer_0 0 rfl) rfl (lv_at hl 0 rfl) ?_
  replace hf := zb_s hf
  obtain ⟨r_1, hc_, hf⟩ := hf
  refine zcs (pc := 1) (rv := (some (.int r_1))) (va_runV (As := []) (rest := []) ⟨hx, hb, hml, hown, hts⟩ (c_X9_loggedIn l D cy tt H.size h0 h0_buffer h0_slots h0_counters h0_officerPin h0_userPin h0_words h0_sha h0_stream h0_aes h0_modes h0_gcm h0_generator h0_tests h0_message h0_secret c_state c_testsDone c_faults c_streamBegun r_1 hc_) (cwV 0 hts gX9_wrapAnswer_X9_loggedIn rfl rfl rfl (by decide +kernel) ⟨Nat.le_of_ble_eq_true rfl, Nat.le_of_ble_eq_true rfl⟩) ⟨zblind, va_recv hK hP (ci := 11) (q0 := 0) rfl rfl, zpre hE hS (hP.sub [0] rfl) (hD.sub [0] (by decide) rfl) (va_free hD hS hA [0] rfl)⟩ rfl rfl hl.1 rfl (lv_room (Nat.le_of_ble_eq_true rfl)) (zdt_at zt_X9_wrapAnswer_0 1 rfl) ⟨Nat.zero_le _, Nat.zero_le _⟩) ?_
  clear hc_
  refine W.eq (g2 := F0 m 4 ls [.int r_1]) rfl ?_
  refine lv_if_ne (pc := 4) (tgt := 9) hx hb (zdt_at zt_X9_wrapAnswer_0 2 rfl) (by decide) (fun cn_ => ?t_2) (fun cn_ => ?f_3)
  case f_3 =>
    replace hf := zt_s cn_ hf
    clear cn_
    refine lv_iconst (pc := 7) (v := (-1 : Int32)) hx hb (zdt_at zt_X9_wrapAnswer_0 3 rfl) (by decide) ?_
    cases hf
    exact W.iret (pc := 8) hx hb hr (fun t ht hW => ⟨rfl, ⟨by rw [ht]; exact hP, hD⟩, hS.F ht⟩) hS.2.2 (zdt_at zt_X9_wrapAnswer_0 4 rfl)
  replace hf := ze_s cn_ hf
  clear cn_
  refine lv_iload_n (pc := 9) hx hb (zdt_at zt_X9_wrapAnswer_0 5 rfl) rfl (lv_at hl 1 rfl) ?_
  replace hf := zb_s hf
  obtain ⟨r_4, hc_, hf⟩ := hf
  refine zcs (pc := 10) (rv := (some (.int r_4))) (va_runS (As := [.int p1]) (rest := []) ⟨hx, hb, hml, hown, hts⟩ (c_X9_isSlot l D cy tt H.size p1 r_4 hc_) (va_cwS 1 hts gX9_wrapAnswer_X9_isSlot rfl rfl rfl (by decide +kernel) ⟨Nat.le_of_ble_eq_true rfl, Nat.le_of_ble_eq_true rfl⟩) ⟨zblind, zpre hE hS (hP.sub [] rfl) (hD.sub [] (by decide) rfl) (va_free hD hS hA [] rfl)⟩ rfl rfl hl.1 rfl (lv_room (Nat.le_of_ble_eq_true rfl)) (zdt_at zt_X9_wrapAnswer_0 6 rfl) ⟨Nat.zero_le _, Nat.zero_le _⟩) ?_
  clear hc_
  refine W.eq (g2 := F0 m 13 ls [.int r_4]) rfl ?_
  refine lv_if_eq (pc := 13) (tgt := 28) hx hb (zdt_at zt_X9_wrapAnswer_0 7 rfl) (by decide) (fun cn_ => ?t_5) (fun cn_ => ?f_6)
  case t_5 =>
    replace hf := zt_s cn_ hf
    clear cn_
    refine lv_bipush (pc := 28) (v := (-2 : Int32)) hx hb (zdt_at zt_X9_wrapAnswer_0 14 rfl) (by decide) ?_
    cases hf
    exact W.iret (pc := 30) hx hb hr (fun t ht hW => ⟨rfl, ⟨by rw [ht]; exact hP, hD⟩, hS.F ht⟩) hS.2.2 (zdt_at zt_X9_wrapAnswer_0 15 rfl)
  replace hf := ze_s cn_ hf
  clear cn_
  refine lv_iload_n (pc := 16) hx hb (zdt_at zt_X9_wrapAnswer_0 8 rfl) rfl (lv_at hl 2 rfl) ?_
  replace hf := zb_s hf
  obtain ⟨r_7, hc_, hf⟩ := hf
  refine zcs (pc := 17) (rv := (some (.int r_7))) (va_runS (As := [.int p2]) (rest := []) ⟨hx, hb, hml, hown, hts⟩ (c_X9_isSlot l D cy tt H.size p2 r_7 hc_) (va_cwS 1 hts gX9_wrapAnswer_X9_isSlot rfl rfl rfl (by decide +kernel) ⟨Nat.le_of_ble_eq_true rfl, Nat.le_of_ble_eq_true rfl⟩) ⟨zblind, zpre hE hS (hP.sub [] rfl) (hD.sub [] (by decide) rfl) (va_free hD hS hA [] rfl)⟩ rfl rfl hl.1 rfl (lv_room (Nat.le_of_ble_eq_true rfl)) (zdt_at zt_X9_wrapAnswer_0 9 rfl) ⟨Nat.zero_le _, Nat.zero_le _⟩) ?_
  clear hc_
  refine W.eq (g2 := F0 m 20 ls [.int r_7]) rfl ?_
  refine lv_if_eq (pc := 20) (tgt := 28) hx hb (zdt_at zt_X9_wrapAnswer_0 10 rfl) (by decide) (fun cn_ => ?t_8) (fun cn_ => ?f_9)
  case t_8 =>
    replace hf := zt_s cn_ hf
    clear cn_
    refine lv_bipush (pc := 28) (v := (-2 : Int32)) hx hb (zdt_at zt_X9_wrapAnswer_0 14 rfl) (by decide) ?_
    cases hf
    exact W.iret (pc := 30) hx hb hr (fun t ht hW => ⟨rfl, ⟨by rw [ht]; exact hP, hD⟩, hS.F ht⟩) hS.2.2 (zdt_at zt_X9_wrapAnswer_0 15 rfl)
  replace hf := ze_s cn_ hf
  clear cn_
  refine lv_iload_n (pc := 23) hx hb (zdt_at zt_X9_wrapAnswer_0 11 rfl) rfl (lv_at hl 1 rfl) ?_
  refine lv_iload_n (pc := 24) hx hb (zdt_at zt_X9_wrapAnswer_0 12 rfl) rfl (lv_at hl 2 rfl) ?_
  refine lv_icmp_ne (pc := 25) (tgt := 31) hx hb (zdt_at zt_X9_wrapAnswer_0 13 rfl) (by decide) (fun cn_ => ?t_10) (fun cn_ => ?f_11)
  case f_11 =>
    replace hf := zt_s cn_ hf
    clear cn_
    refine lv_bipush (pc := 28) (v := (-2 : Int32)) hx hb (zdt_at zt_X9_wrapAnswer_0 14 rfl) (by decide) ?_
    cases hf
    exact W.iret (pc := 30) hx hb hr (fun t ht hW => ⟨rfl, ⟨by rw [ht]; exact hP, hD⟩, hS.F ht⟩) hS.2.2 (zdt_at zt_X9_wrapAnswer_0 15 rfl)
  replace hf := ze_s cn_ hf
  clear cn_
  refine lv_aload_n (pc := 31) hx hb (zdt_at zt_X9_wrapAnswer_0 16 rfl) rfl (lv_at hl 0 rfl) ?_
  refine lv_aload_n (pc := 32) hx hb (zdt_at zt_X9_wrapAnswer_0 17 rfl) rfl (lv_at hl 0 rfl) ?_
  refine va_get (pc := 33) (D := D) (ci := 11) (v := .ref h0_slots) (C := RX9) (T := TX9) (N := 19) hx hb hts hcX9 hown hK hP 0 rfl rfl 1 (by decide) hw0 (fun _ h9 => h9) rfl (zdt_at zt_X9_wrapAnswer_0 18 rfl) ?_
  refine lv_iload_n (pc := 36) hx hb (zdt_at zt_X9_wrapAnswer_0 19 rfl) rfl (lv_at hl 1 rfl) ?_
  replace hf := zk_s hf
  have hj_12 : p1.toNatClampNeg < 16 := Nat.not_le.mp fun q => hf.1 (Or.inr q)
  refine va_aldq (pc := 37) (C := RX8) hx hb hK hP 7 4 rfl rfl hf.1 (zdt_at zt_X9_wrapAnswer_0 20 rfl) ?_
  replace hf := hf.2
  refine lv_aload_n (pc := 38) hx hb (zdt_at zt_X9_wrapAnswer_0 21 rfl) rfl (lv_at hl 0 rfl) ?_
  refine va_get (pc := 39) (D := D) (ci := 11) (v := .ref h0_slots) (C := RX9) (T := TX9) (N := 19) hx hb hts hcX9 hown hK hP 0 rfl rfl 1 (by decide) hw0 (fun _ h9 => h9) rfl (zdt_at zt_X9_wrapAnswer_0 22 rfl) ?_
  refine lv_iload_n (pc := 42) hx hb (zdt_at zt_X9_wrapAnswer_0 23 rfl) rfl (lv_at hl 2 rfl) ?_
  replace hf := zk_s hf
  have hj_13 : p2.toNatClampNeg < 16 := Nat.not_le.mp fun q => hf.1 (Or.inr q)
  refine va_aldq (pc := 43) (C := RX8) hx hb hK hP 7 4 rfl rfl hf.1 (zdt_at zt_X9_wrapAnswer_0 24 rfl) ?_
  replace hf := hf.2
  replace hf := zb_s hf
  obtain ⟨r_14, hc_, hf⟩ := hf
  refine zcs (pc := 44) (rv := (some (.int r_14))) (va_runV (As := [.ref (hP_o p1.toNatClampNeg), .ref (hP_o p2.toNatClampNeg)]) (rest := []) ⟨hx, hb, hml, hown, hts⟩ (c_X9_wrapKeysRefusal l D cy tt H.size h0 h0_buffer h0_slots h0_counters h0_officerPin h0_userPin h0_words h0_sha h0_stream h0_aes h0_modes h0_gcm h0_generator h0_tests h0_message h0_secret hP_o hP_k p1.toNatClampNeg p2.toNatClampNeg c_state cP_kind cP_length cP_role cP_usage cP_uses c_testsDone c_faults c_streamBegun r_14 hj_12 hj_13 hc_) (cwV 2 hts gX9_wrapAnswer_X9_wrapKeysRefusal rfl rfl rfl (by decide +kernel) ⟨Nat.le_of_ble_eq_true rfl, Nat.le_of_ble_eq_true rfl⟩) ⟨zblind, va_recv hK hP (ci := 11) (q0 := 0) rfl rfl, zpre hE hS (hP.sub [0, 8, 9, 10, 11, 12, 13, 14, 15, 16, 17, 18, 19, 20, 21, 22, 23] rfl) (hD.sub [0, 8, 9, 10, 11, 12, 13, 14, 15, 16, 17, 18, 19, 20, 21, 22, 23] (by decide) rfl) (va_free hD hS hA [0, 8, 9, 10, 11, 12, 13, 14, 15, 16, 17, 18, 19, 20, 21, 22, 23] rfl)⟩ rfl rfl hl.1 rfl (lv_room (Nat.le_of_ble_eq_true rfl)) (zdt_at zt_X9_wrapAnswer_0 25 rfl) ⟨Nat.zero_le _, Nat.zero_le _⟩) ?_
  clear hc_
  refine W.eq (g2 := F0 m 47 ls [.int r_14]) rfl ?_
  refine lv_istore_n (pc := 47) (lv' := [(3, .int r_14), (0, .ref h0), (1, .int p1), (2, .int p2)]) hx hb (zdt_at zt_X9_wrapAnswer_0 26 rfl) rfl hl (by decide) rfl ?_
  clear hl
  intro ls hl
  refine lv_iload_n (pc := 48) hx hb (zdt_at zt_X9_wrapAnswer_0 27 rfl) rfl (lv_at hl 0 rfl) ?_
  refine lv_if_eq (pc := 49) (tgt := 54) hx hb (zdt_at zt_X9_wrapAnswer_0 28 rfl) (by decide) (fun cn_ => ?t_15) (fun cn_ => ?f_16)
  case f_16 =>
    replace hf := ze_s cn_ hf
    clear cn_
    refine lv_iload_n (pc := 52) hx hb (zdt_at zt_X9_wrapAnswer_0 29 rfl) rfl (lv_at hl 0 rfl) ?_
    cases hf
    exact W.iret (pc := 53) hx hb hr (fun t ht hW => ⟨rfl, ⟨by rw [ht]; exact hP, hD⟩, hS.F ht⟩) hS.2.2 (zdt_at zt_X9_wrapAnswer_0 30 rfl)
  replace hf := zt_s cn_ hf
  clear cn_
  refine lv_aload_n (pc := 54) hx hb (zdt_at zt_X9_wrapAnswer_0 31 rfl) rfl (lv_at hl 1 rfl) ?_
  refine lv_aload_n (pc := 55) hx hb (zdt_at zt_X9_wrapAnswer_0 32 rfl) rfl (lv_at hl 1 rfl) ?_
  refine va_get (pc := 56) (D := D) (ci := 11) (v := .ref h0_slots) (C := RX9) (T := TX9) (N := 19) hx hb hts hcX9 hown hK hP 0 rfl rfl 1 (by decide) hw0 (fun _ h9 => h9) rfl (zdt_at zt_X9_wrapAnswer_0 33 rfl) ?_
  refine lv_iload_n (pc := 59) hx hb (zdt_at zt_X9_wrapAnswer_0 34 rfl) rfl (lv_at hl 2 rfl) ?_
  replace hf := zk_s hf
  have hj_17 : p1.toNatClampNeg < 16 := Nat.not_le.mp fun q => hf.1 (Or.inr q)
  refine va_aldq (pc := 60) (C := RX8) hx hb hK hP 7 4 rfl rfl hf.1 (zdt_at zt_X9_wrapAnswer_0 35 rfl) ?_
  replace hf := hf.2
  refine lv_aload_n (pc := 61) hx hb (zdt_at zt_X9_wrapAnswer_0 36 rfl) rfl (lv_at hl 1 rfl) ?_
  refine va_get (pc := 62) (D := D) (ci := 11) (v := .ref h0_slots) (C := RX9) (T := TX9) (N := 19) hx hb hts hcX9 hown hK hP 0 rfl rfl 1 (by decide) hw0 (fun _ h9 => h9) rfl (zdt_at zt_X9_wrapAnswer_0 37 rfl) ?_
  refine lv_iload_n (pc := 65) hx hb (zdt_at zt_X9_wrapAnswer_0 38 rfl) rfl (lv_at hl 3 rfl) ?_
  replace hf := zk_s hf
  have hj_18 : p2.toNatClampNeg < 16 := Nat.not_le.mp fun q => hf.1 (Or.inr q)
  refine va_aldq (pc := 66) (C := RX8) hx hb hK hP 7 4 rfl rfl hf.1 (zdt_at zt_X9_wrapAnswer_0 39 rfl) ?_
  replace hf := hf.2
  replace hf := zb_s hf
  obtain ⟨⟨r_19, c_aes_rounds_20, c_aes_keys_21, c_buffer_22, c_modes_block_23, c_secret_24, cP_uses_25⟩, hc_, hf⟩ := hf
  refine zcm2 (pc := 67) (rv := (some (.int r_19))) (va_runV (As := [.ref (hP_o p1.toNatClampNeg), .ref (hP_o p2.toNatClampNeg)]) (rest := []) ⟨hx, hb, hml, hown, hts⟩ (c_X9_wrapBytes l D cy tt H.size h0 h0_buffer h0_slots h0_counters h0_officerPin h0_userPin h0_words h0_sha h0_stream h0_aes h0_modes h0_gcm h0_generator h0_tests h0_message h0_secret h0_aes_keys h0_modes_block h0_modes_pad hP_o hP_k p1.toNatClampNeg p2.toNatClampNeg c_aes_rounds c_aes_keys c_buffer c_modes_block c_secret cP_kind cP_length cP_role cP_usage cP_uses cPK c_state c_testsDone c_faults c_streamBegun r_19 c_aes_rounds_20 c_aes_keys_21 c_buffer_22 c_modes_block_23 c_secret_24 cP_uses_25 hj_17 hj_18 hc_) (cwV 2 hts gX9_wrapAnswer_X9_wrapBytes rfl rfl rfl (by decide +kernel) ⟨Nat.le_of_ble_eq_true rfl, Nat.le_of_ble_eq_true rfl⟩) ⟨zblind, va_recv hK hP (ci := 11) (q0 := 0) rfl rfl, zpre hE hS (hP.sub [0, 1, 2, 3, 4, 5, 6, 8, 9, 10, 11, 12, 13, 14, 15, 16, 17, 18, 19, 20, 21, 22, 23, 24, 25, 26, 27, 28, 29, 30, 31, 32, 33, 34, 35, 36, 37, 38, 39] rfl) (hD.sub [0, 1, 2, 3, 4, 5, 6, 8, 9, 10, 11, 12, 13, 14, 15, 16, 17, 18, 19, 20, 21, 22, 23, 24, 25, 26, 27, 28, 29, 30, 31, 32, 33, 34, 35, 36, 37, 38, 39] (by decide) rfl) (va_free hD hS hA [0, 1, 2, 3, 4, 5, 6, 8, 9, 10, 11, 12, 13, 14, 15, 16, 17, 18, 19, 20, 21, 22, 23, 24, 25, 26, 27, 28, 29, 30, 31, 32, 33, 34, 35, 36, 37, 38, 39] rfl)⟩ rfl rfl hl.1 rfl (lv_room (Nat.le_of_ble_eq_true rfl)) (zdt_at zt_X9_wrapAnswer_0 40 rfl) ⟨Nat.zero_le _, Nat.zero_le _⟩) hS hP hD (va_free hD hS hA [0, 1, 2, 3, 4, 5, 6, 8, 9, 10, 11, 12, 13, 14, 15, 16, 17, 18, 19, 20, 21, 22, 23, 24, 25, 26, 27, 28, 29, 30, 31, 32, 33, 34, 35, 36, 37, 38, 39] rfl) [0, 1, 2, 3, 4, 5, 6, 8, 9, 10, 11, 12, 13, 14, 15, 16, 17, 18, 19, 20, 21, 22, 23, 24, 25, 26, 27, 28, 29, 30, 31, 32, 33, 34, 35, 36, 37, 38, 39] rfl (by decide) rfl ?_
  clear hP hD hS hc_
  intro H locs hP hD hS
  replace hP : va_P D vwCl ([(h0, .inr (11, [.ref h0_buffer, .ref h0_slots, .ref h0_counters, .ref h0_officerPin, .ref h0_userPin, .ref h0_words, .ref h0_sha, .ref h0_stream, .ref h0_aes, .ref h0_modes, .ref h0_gcm, .ref h0_generator, .ref h0_tests, .ref h0_message, .ref h0_secret, .int c_state, .int c_testsDone, .int c_faults, .int c_streamBegun])), (h0_aes, .inr (2, [.ref h0_aes_keys, .int c_aes_rounds_20])), (h0_aes_keys, .inl (cy 1, 60, .inl c_aes_keys_21)), (h0_buffer, .inl (cy 0, 512, .inl c_buffer_22)), (h0_modes, .inr (6, [.ref h0_aes, .ref h0_modes_block, .ref h0_modes_pad])), (h0_modes_block, .inl (cy 0, 16, .inl c_modes_block_23)), (h0_secret, .inl (cy 0, 80, .inl c_secret_24)), (h0_slots, .inl (cy 4, 16, .inr (.inr (.inr (.inr (fun j => some (hP_o j)))))))] ++ zpO hP_o hP_k cP_kind cP_length cP_usage cP_role cP_uses_25 ++ zpK (cy 0) hP_k cPK) H := hP
  replace hD : va_D A ([(h0, .inr (11, [.ref h0_buffer, .ref h0_slots, .ref h0_counters, .ref h0_officerPin, .ref h0_userPin, .ref h0_words, .ref h0_sha, .ref h0_stream, .ref h0_aes, .ref h0_modes, .ref h0_gcm, .ref h0_generator, .ref h0_tests, .ref h0_message, .ref h0_secret, .int c_state, .int c_testsDone, .int c_faults, .int c_streamBegun])), (h0_aes, .inr (2, [.ref h0_aes_keys, .int c_aes_rounds_20])), (h0_aes_keys, .inl (cy 1, 60, .inl c_aes_keys_21)), (h0_buffer, .inl (cy 0, 512, .inl c_buffer_22)), (h0_modes, .inr (6, [.ref h0_aes, .ref h0_modes_block, .ref h0_modes_pad])), (h0_modes_block, .inl (cy 0, 16, .inl c_modes_block_23)), (h0_secret, .inl (cy 0, 80, .inl c_secret_24)), (h0_slots, .inl (cy 4, 16, .inr (.inr (.inr (.inr (fun j => some (hP_o j)))))))] ++ zpO hP_o hP_k cP_kind cP_length cP_usage cP_role cP_uses_25 ++ zpK (cy 0) hP_k cPK) := hD
  refine W.eq (g2 := F0 m 70 ls [.int r_19]) rfl ?_
  cases hf
  exact W.iret (pc := 70) hx hb hr (fun t ht hW => ⟨rfl, ⟨by rw [ht]; exact hP, hD⟩, hS.F ht⟩) hS.2.2 (zdt_at zt_X9_wrapAnswer_0 41 rfl)
def f_X9_wrap (p1 : Int32) (p2 : Int32) (c_state : Int32) (c_aes_rounds : Int32) (c_aes_keys : Nat → Int32) (c_buffer : Nat → Int32) (c_counters : Nat → Int32) (c_modes_block : Nat → Int32) (c_secret : Nat → Int32) (cP_kind : Nat → Int32) (cP_length : Nat → Int32) (cP_role : Nat → Int32) (cP_usage : Nat → Int32) (cP_uses : Nat → Int32) (cPK : Nat → Nat → Int32) : Option (Int32 × Int32 × (Nat → Int32) × (Nat → Int32) × (Nat → Int32) × (Nat → Int32) × (Nat → Int32) × (Nat → Int32)) :=
  (f_X9_wrapAnswer p1 p2 c_state c_aes_rounds c_aes_keys c_buffer c_modes_block c_secret cP_kind cP_length cP_role cP_usage cP_uses cPK).bind (fun (r_1, c_aes_rounds_2, c_aes_keys_3, c_buffer_4, c_modes_block_5, c_secret_6, cP_uses_7) => (f_X9_counted r_1 c_counters).bind (fun (r_8, c_counters_9) => some (r_8, c_aes_rounds_2, c_aes_keys_3, c_buffer_4, c_counters_9, c_modes_block_5, c_secret_6, cP_uses_7)))
set_option maxHeartbeats 4000000 in
set_option maxRecDepth 100000 in
theorem c_X9_wrap (l : Launch) (D : va_G) (cy : Nat → ClassId) (tt : Nat → Nat) (sz : Nat) (h0 : Nat) (h0_buffer : Nat) (h0_slots : Nat) (h0_counters : Nat) (h0_officerPin : Nat) (h0_userPin : Nat) (h0_words : Nat) (h0_sha : Nat) (h0_stream : Nat) (h0_aes : Nat) (h0_modes : Nat) (h0_gcm : Nat) (h0_generator : Nat) (h0_tests : Nat) (h0_message : Nat) (h0_secret : Nat) (h0_aes_keys : Nat) (h0_modes_block : Nat) (h0_modes_pad : Nat) (hP_o : Nat → Nat) (hP_k : Nat → Nat) (p1 : Int32) (p2 : Int32) (c_state : Int32) (c_aes_rounds : Int32) (c_aes_keys : Nat → Int32) (c_buffer : Nat → Int32) (c_counters : Nat → Int32) (c_modes_block : Nat → Int32) (c_secret : Nat → Int32) (cP_kind : Nat → Int32) (cP_length : Nat → Int32) (cP_role : Nat → Int32) (cP_usage : Nat → Int32) (cP_uses : Nat → Int32) (cPK : Nat → Nat → Int32) (c_testsDone : Int32) (c_faults : Int32) (c_streamBegun : Int32) (r_ : Int32) (c_aes_rounds' : Int32) (c_aes_keys' : Nat → Int32) (c_buffer' : Nat → Int32) (c_counters' : Nat → Int32) (c_modes_block' : Nat → Int32) (c_secret' : Nat → Int32) (cP_uses' : Nat → Int32) (hf : f_X9_wrap p1 p2 c_state c_aes_rounds c_aes_keys c_buffer c_counters c_modes_block c_secret cP_kind cP_length cP_role cP_usage cP_uses cPK = some (r_, c_aes_rounds', c_aes_keys', c_buffer', c_counters', c_modes_block', c_secret', cP_uses')) : Met l yX9_wrap wsX9_wrap ({ frames := 5, cells := 0, slots := 0, locals := 135 }) (zPc D cy tt sz [.ref h0, .int p1, .int p2] ([(h0, .inr (11, [.ref h0_buffer, .ref h0_slots, .ref h0_counters, .ref h0_officerPin, .ref h0_userPin, .ref h0_words, .ref h0_sha, .ref h0_stream, .ref h0_aes, .ref h0_modes, .ref h0_gcm, .ref h0_generator, .ref h0_tests, .ref h0_message, .ref h0_secret, .int c_state, .int c_testsDone, .int c_faults, .int c_streamBegun])), (h0_aes, .inr (2, [.ref h0_aes_keys, .int c_aes_rounds])), (h0_aes_keys, .inl (cy 1, 60, .inl c_aes_keys)), (h0_buffer, .inl (cy 0, 512, .inl c_buffer)), (h0_counters, .inl (cy 1, 3, .inl c_counters)), (h0_modes, .inr (6, [.ref h0_aes, .ref h0_modes_block, .ref h0_modes_pad])), (h0_modes_block, .inl (cy 0, 16, .inl c_modes_block)), (h0_secret, .inl (cy 0, 80, .inl c_secret)), (h0_slots, .inl (cy 4, 16, .inr (.inr (.inr (.inr (fun j => some (hP_o j)))))))] ++ zpO hP_o hP_k cP_kind cP_length cP_usage cP_role cP_uses ++ zpK (cy 0) hP_k cPK)) (zQ D (some (.int r_)) ([(h0, .inr (11, [.ref h0_buffer, .ref h0_slots, .ref h0_counters, .ref h0_officerPin, .ref h0_userPin, .ref h0_words, .ref h0_sha, .ref h0_stream, .ref h0_aes, .ref h0_modes, .ref h0_gcm, .ref h0_generator, .ref h0_tests, .ref h0_message, .ref h0_secret, .int c_state, .int c_testsDone, .int c_faults, .int c_streamBegun])), (h0_aes, .inr (2, [.ref h0_aes_keys, .int c_aes_rounds'])), (h0_aes_keys, .inl (cy 1, 60, .inl c_aes_keys')), (h0_buffer, .inl (cy 0, 512, .inl c_buffer')), (h0_counters, .inl (cy 1, 3, .inl c_counters')), (h0_modes, .inr (6, [.ref h0_aes, .ref h0_modes_block, .ref h0_modes_pad])), (h0_modes_block, .inl (cy 0, 16, .inl c_modes_block')), (h0_secret, .inl (cy 0, 80, .inl c_secret')), (h0_slots, .inl (cy 4, 16, .inr (.inr (.inr (.inr (fun j => some (hP_o j)))))))] ++ zpO hP_o hP_k cP_kind cP_length cP_usage cP_role cP_uses' ++ zpK (cy 0) hP_k cPK) (va_A ([(h0, .inr (11, [.ref h0_buffer, .ref h0_slots, .ref h0_counters, .ref h0_officerPin, .ref h0_userPin, .ref h0_words, .ref h0_sha, .ref h0_stream, .ref h0_aes, .ref h0_modes, .ref h0_gcm, .ref h0_generator, .ref h0_tests, .ref h0_message, .ref h0_secret, .int c_state, .int c_testsDone, .int c_faults, .int c_streamBegun])), (h0_aes, .inr (2, [.ref h0_aes_keys, .int c_aes_rounds])), (h0_aes_keys, .inl (cy 1, 60, .inl c_aes_keys)), (h0_buffer, .inl (cy 0, 512, .inl c_buffer)), (h0_counters, .inl (cy 1, 3, .inl c_counters)), (h0_modes, .inr (6, [.ref h0_aes, .ref h0_modes_block, .ref h0_modes_pad])), (h0_modes_block, .inl (cy 0, 16, .inl c_modes_block)), (h0_secret, .inl (cy 0, 80, .inl c_secret)), (h0_slots, .inl (cy 4, 16, .inr (.inr (.inr (.inr (fun j => some (hP_o j)))))))] ++ zpO hP_o hP_k cP_kind cP_length cP_usage cP_role cP_uses ++ zpK (cy 0) hP_k cPK) sz)) 0 0 (va_A ([(h0, .inr (11, [.ref h0_buffer, .ref h0_slots, .ref h0_counters, .ref h0_officerPin, .ref h0_userPin, .ref h0_words, .ref h0_sha, .ref h0_stream, .ref h0_aes, .ref h0_modes, .ref h0_gcm, .ref h0_generator, .ref h0_tests, .ref h0_message, .ref h0_secret, .int c_state, .int c_testsDone, .int c_faults, .int c_streamBegun])), (h0_aes, .inr (2, [.ref h0_aes_keys, .int c_aes_rounds])), (h0_aes_keys, .inl (cy 1, 60, .inl c_aes_keys)), (h0_buffer, .inl (cy 0, 512, .inl c_buffer)), (h0_counters, .inl (cy 1, 3, .inl c_counters)), (h0_modes, .inr (6, [.ref h0_aes, .ref h0_modes_block, .ref h0_modes_pad])), (h0_modes_block, .inl (cy 0, 16, .inl c_modes_block)), (h0_secret, .inl (cy 0, 80, .inl c_secret)), (h0_slots, .inl (cy 4, 16, .inr (.inr (.inr (.inr (fun j => some (hP_o j)))))))] ++ zpO hP_o hP_k cP_kind cP_length cP_usage cP_role cP_uses ++ zpK (cy 0) hP_k cPK) sz) := by
  refine Met.ofW (cc := cX9_wrap) (maxL := 3) (ret := (some .int)) (by decide) rfl ?_
  intro p e s m args below meth c s₁ B hml hv
  obtain ⟨rfl, rfl, hP, hD0, hE⟩ := hv
  have hx := B.exec
  have hb := B.bytes
  have hr := B.returns
  have hts := atoms_spec (ws := wsX9_wrap) B.pre
  have hown : s.vm.findClass RX9 = some m.cls := findClass_of_methodNamed B.named
  have hlocks := B.notSynchronized
  clear B
  have hD := hD0.self (sz := s.heap.size)
  generalize hAe : va_A ([(h0, .inr (11, [.ref h0_buffer, .ref h0_slots, .ref h0_counters, .ref h0_officerPin, .ref h0_userPin, .ref h0_words, .ref h0_sha, .ref h0_stream, .ref h0_aes, .ref h0_modes, .ref h0_gcm, .ref h0_generator, .ref h0_tests, .ref h0_message, .ref h0_secret, .int c_state, .int c_testsDone, .int c_faults, .int c_streamBegun])), (h0_aes, .inr (2, [.ref h0_aes_keys, .int c_aes_rounds])), (h0_aes_keys, .inl (cy 1, 60, .inl c_aes_keys)), (h0_buffer, .inl (cy 0, 512, .inl c_buffer)), (h0_counters, .inl (cy 1, 3, .inl c_counters)), (h0_modes, .inr (6, [.ref h0_aes, .ref h0_modes_block, .ref h0_modes_pad])), (h0_modes_block, .inl (cy 0, 16, .inl c_modes_block)), (h0_secret, .inl (cy 0, 80, .inl c_secret)), (h0_slots, .inl (cy 4, 16, .inr (.inr (.inr (.inr (fun j => some (hP_o j)))))))] ++ zpO hP_o hP_k cP_kind cP_length cP_usage cP_role cP_uses ++ zpK (cy 0) hP_k cPK) s.heap.size = A at hD hE ⊢
  have hA : ∀ q : Nat, s.heap.size ≤ q → A q := fun q h => by rw [← hAe]; exact Or.inr h
  clear hAe hD0
  have hS : va_S A s.heap s.heap [] := va_S.rf
  have hK := hE.1
  have hl := lv_entry ([.ref h0, .int p1, .int p2]) (n := 3) (Nat.le_of_ble_eq_true rfl)
  rw [lg_entry_eq]
  generalize (lg_sl ([.ref h0, .int p1, .int p2]) ++ List.replicate (3 - (lg_sl ([.ref h0, .int p1, .int p2])).length) Slot.unset).toArray = ls at hl ⊢
  replace hl : lv_has ls 3 [(0, .ref h0), (1, .int p1), (2, .int p2)] := hl
  unfold f_X9_wrap at hf
  refine zgo (fun GW hTo hFr => ?_)
  refine hFr _ _ _ ?_
  obtain ⟨H, hHe⟩ : ∃ H, H = s.heap := ⟨_, rfl⟩
  obtain ⟨locs, hLe⟩ : ∃ L : List Loc, L = [] := ⟨_, rfl⟩
  rw [← hHe] at hP
  replace hS : va_S A s.heap H locs := by rw [hHe, hLe]; exact hS
  refine zat hHe.symm hLe.symm ?_
  clear hHe hLe
  refine lv_aload_n (pc := 0) hx hb (zdt_at zt_X9_wrap_0 0 rfl) rfl (lv_at hl 0 rfl) ?_
  refine lv_aload_n (pc := 1) hx hb (zdt_at zt_X9_wrap_0 1 rfl) rfl (lv_at hl 0 rfl) ?_
  refine lv_iload_n (pc := 2) hx hb (zdt_at zt_X9_wrap_0 2 rfl) rfl (lv_at hl 1 rfl) ?_
  refine lv_iload_n (pc := 3) hx hb (zdt_at zt_X9_wrap_0 3 rfl) rfl (lv_at hl 2 rfl) ?_
  replace hf := zb_s hf
  obtain ⟨⟨r_1, c_aes_rounds_2, c_aes_keys_3, c_buffer_4, c_modes_block_5, c_secret_6, cP_uses_7⟩, hc_, hf⟩ := hf
  refine zcm2 (pc := 4) (rv := (some (.int r_1))) (va_runV (As := [.int p1, .int p2]) (rest := [.ref h0]) ⟨hx, hb, hml, hown, hts⟩ (c_X9_wrapAnswer l D cy tt H.size h0 h0_buffer h0_slots h0_counters h0_officerPin h0_userPin h0_words h0_sha h0_stream h0_aes h0_modes h0_gcm h0_generator h0_tests h0_message h0_secret h0_aes_keys h0_modes_block h0_modes_pad hP_o hP_k p1 p2 c_state c_aes_rounds c_aes_keys c_buffer c_modes_block c_secret cP_kind cP_length cP_role cP_usage cP_uses cPK c_testsDone c_faults c_streamBegun r_1 c_aes_rounds_2 c_aes_keys_3 c_buffer_4 c_modes_block_5 c_secret_6 cP_uses_7 hc_) (cwV 2 hts gX9_wrap_X9_wrapAnswer rfl rfl rfl (by decide +kernel) ⟨Nat.le_of_ble_eq_true rfl, Nat.le_of_ble_eq_true rfl⟩) ⟨zblind, va_recv hK hP (ci := 11) (q0 := 0) rfl rfl, zpre hE hS (hP.sub [0, 1, 2, 3, 5, 6, 7, 8, 9, 10, 11, 12, 13, 14, 15, 16, 17, 18, 19, 20, 21, 22, 23, 24, 25, 26, 27, 28, 29, 30, 31, 32, 33, 34, 35, 36, 37, 38, 39, 40] rfl) (hD.sub [0, 1, 2, 3, 5, 6, 7, 8, 9, 10, 11, 12, 13, 14, 15, 16, 17, 18, 19, 20, 21, 22, 23, 24, 25, 26, 27, 28, 29, 30, 31, 32, 33, 34, 35, 36, 37, 38, 39, 40] (by decide) rfl) (va_free hD hS hA [0, 1, 2, 3, 5, 6, 7, 8, 9, 10, 11, 12, 13, 14, 15, 16, 17, 18, 19, 20, 21, 22, 23, 24, 25, 26, 27, 28, 29, 30, 31, 32, 33, 34, 35, 36, 37, 38, 39, 40] rfl)⟩ rfl rfl hl.1 rfl (lv_room (Nat.le_of_ble_eq_true rfl)) (zdt_at zt_X9_wrap_0 4 rfl) ⟨Nat.zero_le _, Nat.zero_le _⟩) hS hP hD (va_free hD hS hA [0, 1, 2, 3, 5, 6, 7, 8, 9, 10, 11, 12, 13, 14, 15, 16, 17, 18, 19, 20, 21, 22, 23, 24, 25, 26, 27, 28, 29, 30, 31, 32, 33, 34, 35, 36, 37, 38, 39, 40] rfl) [0, 1, 2, 3, 5, 6, 7, 8, 9, 10, 11, 12, 13, 14, 15, 16, 17, 18, 19, 20, 21, 22, 23, 24, 25, 26, 27, 28, 29, 30, 31, 32, 33, 34, 35, 36, 37, 38, 39, 40] rfl (by decide) rfl ?_
  clear hP hD hS hc_
  intro H locs hP hD hS
  replace hP : va_P D vwCl ([(h0, .inr (11, [.ref h0_buffer, .ref h0_slots, .ref h0_counters, .ref h0_officerPin, .ref h0_userPin, .ref h0_words, .ref h0_sha, .ref h0_stream, .ref h0_aes, .ref h0_modes, .ref h0_gcm, .ref h0_generator, .ref h0_tests, .ref h0_message, .ref h0_secret, .int c_state, .int c_testsDone, .int c_faults, .int c_streamBegun])), (h0_aes, .inr (2, [.ref h0_aes_keys, .int c_aes_rounds_2])), (h0_aes_keys, .inl (cy 1, 60, .inl c_aes_keys_3)), (h0_buffer, .inl (cy 0, 512, .inl c_buffer_4)), (h0_counters, .inl (cy 1, 3, .inl c_counters)), (h0_modes, .inr (6, [.ref h0_aes, .ref h0_modes_block, .ref h0_modes_pad])), (h0_modes_block, .inl (cy 0, 16, .inl c_modes_block_5)), (h0_secret, .inl (cy 0, 80, .inl c_secret_6)), (h0_slots, .inl (cy 4, 16, .inr (.inr (.inr (.inr (fun j => some (hP_o j)))))))] ++ zpO hP_o hP_k cP_kind cP_length cP_usage cP_role cP_uses_7 ++ zpK (cy 0) hP_k cPK) H := hP
  replace hD : va_D A ([(h0, .inr (11, [.ref h0_buffer, .ref h0_slots, .ref h0_counters, .ref h0_officerPin, .ref h0_userPin, .ref h0_words, .ref h0_sha, .ref h0_stream, .ref h0_aes, .ref h0_modes, .ref h0_gcm, .ref h0_generator, .ref h0_tests, .ref h0_message, .ref h0_secret, .int c_state, .int c_testsDone, .int c_faults, .int c_streamBegun])), (h0_aes, .inr (2, [.ref h0_aes_keys, .int c_aes_rounds_2])), (h0_aes_keys, .inl (cy 1, 60, .inl c_aes_keys_3)), (h0_buffer, .inl (cy 0, 512, .inl c_buffer_4)), (h0_counters, .inl (cy 1, 3, .inl c_counters)), (h0_modes, .inr (6, [.ref h0_aes, .ref h0_modes_block, .ref h0_modes_pad])), (h0_modes_block, .inl (cy 0, 16, .inl c_modes_block_5)), (h0_secret, .inl (cy 0, 80, .inl c_secret_6)), (h0_slots, .inl (cy 4, 16, .inr (.inr (.inr (.inr (fun j => some (hP_o j)))))))] ++ zpO hP_o hP_k cP_kind cP_length cP_usage cP_role cP_uses_7 ++ zpK (cy 0) hP_k cPK) := hD
  refine W.eq (g2 := F0 m 7 ls [.int r_1, .ref h0]) rfl ?_
  replace hf := zb_s hf
  obtain ⟨⟨r_8, c_counters_9⟩, hc_, hf⟩ := hf
  refine zcm2 (pc := 7) (rv := (some (.int r_8))) (va_runV (As := [.int r_1]) (rest := []) ⟨hx, hb, hml, hown, hts⟩ (c_X9_counted l D cy tt H.size h0 h0_buffer h0_slots h0_counters h0_officerPin h0_userPin h0_words h0_sha h0_stream h0_aes h0_modes h0_gcm h0_generator h0_tests h0_message h0_secret r_1 c_counters c_state c_testsDone c_faults c_streamBegun r_8 c_counters_9 hc_) (cwV 1 hts gX9_wrap_X9_counted rfl rfl rfl (by decide +kernel) ⟨Nat.le_of_ble_eq_true rfl, Nat.le_of_ble_eq_true rfl⟩) ⟨zblind, va_recv hK hP (ci := 11) (q0 := 0) rfl rfl, zpre hE hS (hP.sub [0, 4] rfl) (hD.sub [0, 4] (by decide) rfl) (va_free hD hS hA [0, 4] rfl)⟩ rfl rfl hl.1 rfl (lv_room (Nat.le_of_ble_eq_true rfl)) (zdt_at zt_X9_wrap_0 5 rfl) ⟨Nat.zero_le _, Nat.zero_le _⟩) hS hP hD (va_free hD hS hA [0, 4] rfl) [0, 4] rfl (by decide) rfl ?_
  clear hP hD hS hc_
  intro H locs hP hD hS
  replace hP : va_P D vwCl ([(h0, .inr (11, [.ref h0_buffer, .ref h0_slots, .ref h0_counters, .ref h0_officerPin, .ref h0_userPin, .ref h0_words, .ref h0_sha, .ref h0_stream, .ref h0_aes, .ref h0_modes, .ref h0_gcm, .ref h0_generator, .ref h0_tests, .ref h0_message, .ref h0_secret, .int c_state, .int c_testsDone, .int c_faults, .int c_streamBegun])), (h0_aes, .inr (2, [.ref h0_aes_keys, .int c_aes_rounds_2])), (h0_aes_keys, .inl (cy 1, 60, .inl c_aes_keys_3)), (h0_buffer, .inl (cy 0, 512, .inl c_buffer_4)), (h0_counters, .inl (cy 1, 3, .inl c_counters_9)), (h0_modes, .inr (6, [.ref h0_aes, .ref h0_modes_block, .ref h0_modes_pad])), (h0_modes_block, .inl (cy 0, 16, .inl c_modes_block_5)), (h0_secret, .inl (cy 0, 80, .inl c_secret_6)), (h0_slots, .inl (cy 4, 16, .inr (.inr (.inr (.inr (fun j => some (hP_o j)))))))] ++ zpO hP_o hP_k cP_kind cP_length cP_usage cP_role cP_uses_7 ++ zpK (cy 0) hP_k cPK) H := hP
  replace hD : va_D A ([(h0, .inr (11, [.ref h0_buffer, .ref h0_slots, .ref h0_counters, .ref h0_officerPin, .ref h0_userPin, .ref h0_words, .ref h0_sha, .ref h0_stream, .ref h0_aes, .ref h0_modes, .ref h0_gcm, .ref h0_generator, .ref h0_tests, .ref h0_message, .ref h0_secret, .int c_state, .int c_testsDone, .int c_faults, .int c_streamBegun])), (h0_aes, .inr (2, [.ref h0_aes_keys, .int c_aes_rounds_2])), (h0_aes_keys, .inl (cy 1, 60, .inl c_aes_keys_3)), (h0_buffer, .inl (cy 0, 512, .inl c_buffer_4)), (h0_counters, .inl (cy 1, 3, .inl c_counters_9)), (h0_modes, .inr (6, [.ref h0_aes, .ref h0_modes_block, .ref h0_modes_pad])), (h0_modes_block, .inl (cy 0, 16, .inl c_modes_block_5)), (h0_secret, .inl (cy 0, 80, .inl c_secret_6)), (h0_slots, .inl (cy 4, 16, .inr (.inr (.inr (.inr (fun j => some (hP_o j)))))))] ++ zpO hP_o hP_k cP_kind cP_length cP_usage cP_role cP_uses_7 ++ zpK (cy 0) hP_k cPK) := hD
  refine W.eq (g2 := F0 m 10 ls [.int r_8]) rfl ?_
  cases hf
  exact W.iret (pc := 10) hx hb hr (fun t ht hW => ⟨rfl, ⟨by rw [ht]; exact hP, hD⟩, hS.F ht⟩) hS.2.2 (zdt_at zt_X9_wrap_0 6 rfl)
def f_X9_keyRefusal (j1 : Nat) (p2 : Int32) (p3 : Int32) (c_state : Int32) (cP_kind : Nat → Int32) (cP_role : Nat → Int32) (cP_usage : Nat → Int32) (cP_uses : Nat → Int32) : Option (Int32) :=
  (f_X9_isForeign j1 c_state cP_kind cP_role).bind (fun r_1 => if r_1 = 0 then (f_X8_isEmpty j1 cP_kind).bind (fun r_4 => if r_4 = 0 then if (cP_kind j1) = p2 then (f_X8_allows j1 p3 cP_usage).bind (fun r_9 => if r_9 = 0 then some (-6 : Int32) else if (cP_uses j1) = 0 then some (-7 : Int32) else some (0 : Int32)) else some (-5 : Int32) else some (-4 : Int32)) else some (-3 : Int32))
set_option maxHeartbeats 4000000 in
set_option maxRecDepth 100000 in
theorem c_X9_keyRefusal (l : Launch) (D : va_G) (cy : Nat → ClassId) (tt : Nat → Nat) (sz : Nat) (h0 : Nat) (h0_buffer : Nat) (h0_slots : Nat) (h0_counters : Nat) (h0_officerPin : Nat) (h0_userPin : Nat) (h0_words : Nat) (h0_sha : Nat) (h0_stream : Nat) (h0_aes : Nat) (h0_modes : Nat) (h0_gcm : Nat) (h0_generator : Nat) (h0_tests : Nat) (h0_message : Nat) (h0_secret : Nat) (hP_o : Nat → Nat) (hP_k : Nat → Nat) (j1 : Nat) (p2 : Int32) (p3 : Int32) (c_state : Int32) (cP_kind : Nat → Int32) (cP_role : Nat → Int32) (cP_usage : Nat → Int32) (cP_uses : Nat → Int32) (c_testsDone : Int32) (c_faults : Int32) (c_streamBegun : Int32) (cP_length : Nat → Int32) (r_ : Int32) (hj_j1 : j1 < 16) (hf : f_X9_keyRefusal j1 p2 p3 c_state cP_kind cP_role cP_usage cP_uses = some r_) : Met l yX9_keyRefusal wsX9_keyRefusal ({ frames := 2, cells := 0, slots := 0, locals := 41 }) (zPc D cy tt sz [.ref h0, .ref (hP_o j1), .int p2, .int p3] ([(h0, .inr (11, [.ref h0_buffer, .ref h0_slots, .ref h0_counters, .ref h0_officerPin, .ref h0_userPin, .ref h0_words, .ref h0_sha, .ref h0_stream, .ref h0_aes, .ref h0_modes, .ref h0_gcm, .ref h0_generator, .ref h0_tests, .ref h0_message, .ref h0_secret, .int c_state, .int c_testsDone, .int c_faults, .int c_streamBegun]))] ++ zpO hP_o hP_k cP_kind cP_length cP_usage cP_role cP_uses)) (fun _ st o t => o = .returned (some (.int r_)) ∧ t.heap = st.heap) 0 0 (fun _ => False) := by
  refine Met.ofW (cc := cX9_keyRefusal) (maxL := 4) (ret := (some .int)) (by decide) rfl ?_
  intro p e s m args below meth c s₁ B hml hv
  obtain ⟨rfl, rfl, hP, hD0, hE⟩ := hv
  have hx := B.exec
  have hb := B.bytes
  have hr := B.returns
  have hts := atoms_spec (ws := wsX9_keyRefusal) B.pre
  have hown : s.vm.findClass RX9 = some m.cls := findClass_of_methodNamed B.named
  have hlocks := B.notSynchronized
  clear B
  have hD := hD0.self (sz := s.heap.size)
  generalize hAe : va_A ([(h0, .inr (11, [.ref h0_buffer, .ref h0_slots, .ref h0_counters, .ref h0_officerPin, .ref h0_userPin, .ref h0_words, .ref h0_sha, .ref h0_stream, .ref h0_aes, .ref h0_modes, .ref h0_gcm, .ref h0_generator, .ref h0_tests, .ref h0_message, .ref h0_secret, .int c_state, .int c_testsDone, .int c_faults, .int c_streamBegun]))] ++ zpO hP_o hP_k cP_kind cP_length cP_usage cP_role cP_uses) s.heap.size = A at hD hE
  have hA : ∀ q : Nat, s.heap.size ≤ q → A q := fun q h => by rw [← hAe]; exact Or.inr h
  clear hAe hD0
  have hS : va_S A s.heap s.heap [] := va_S.rf
  have hK := hE.1
  have hw0 := hts (.fieldLink RX9 204 "SealedModule$Slot" "kind" "I") (by decide +kernel)
  have hw1 := hts (.fieldLink RX9 216 "SealedModule$Slot" "uses" "I") (by decide +kernel)
  have hcX8 : ∀ w ∈ u_ws RX8 TX8 6, w ∈ wsX9_keyRefusal := (fun _ h => List.mem_cons_of_mem _ (List.mem_append_left _ (List.mem_append_right _ h)))
  have hl := lv_entry ([.ref h0, .ref (hP_o j1), .int p2, .int p3]) (n := 4) (Nat.le_of_ble_eq_true rfl)
  rw [lg_entry_eq]
  generalize (lg_sl ([.ref h0, .ref (hP_o j1), .int p2, .int p3]) ++ List.replicate (4 - (lg_sl ([.ref h0, .ref (hP_o j1), .int p2, .int p3])).length) Slot.unset).toArray = ls at hl ⊢
  replace hl : lv_has ls 4 [(0, .ref h0), (1, .ref (hP_o j1)), (2, .int p2), (3, .int p3)] := hl
  unfold f_X9_keyRefusal at hf
  refine zgo (fun GW hTo hFr => ?_)
  refine hFr _ _ _ ?_
  refine lv_aload_n (pc := 0) hx hb (zdt_at zt_X9_keyRefusal_0 0 rfl) rfl (lv_at hl 0 rfl) ?_
  refine lv_aload_n (pc := 1) hx hb (zdt_at zt_X9_keyRefusal_0 1 rfl) rfl (lv_at hl 1 rfl) ?_
  replace hf := zb_s hf
  obtain ⟨r_1, hc_, hf⟩ := hf
  refine zcs (pc := 2) (rv := (some (.int r_1))) (va_runV (As := [.ref (hP_o j1)]) (rest := []) ⟨hx, hb, hml, hown, hts⟩ (c_X9_isForeign l D cy tt s.heap.size h0 h0_buffer h0_slots h0_counters h0_officerPin h0_userPin h0_words h0_sha h0_stream h0_aes h0_modes h0_gcm h0_generator h0_tests h0_message h0_secret hP_o hP_k j1 c_state cP_kind cP_role c_testsDone c_faults c_streamBegun cP_length cP_usage cP_uses r_1 hj_j1 hc_) (cwV 1 hts gX9_keyRefusal_X9_isForeign rfl rfl rfl (by decide +kernel) ⟨Nat.le_of_ble_eq_true rfl, Nat.le_of_ble_eq_true rfl⟩) ⟨zblind, va_recv hK hP (ci := 11) (q0 := 0) rfl rfl, zpre hE hS (hP.sub [0, 1, 2, 3, 4, 5, 6, 7, 8, 9, 10, 11, 12, 13, 14, 15, 16] rfl) (hD.sub [0, 1, 2, 3, 4, 5, 6, 7, 8, 9, 10, 11, 12, 13, 14, 15, 16] (by decide) rfl) (va_free hD hS hA [0, 1, 2, 3, 4, 5, 6, 7, 8, 9, 10, 11, 12, 13, 14, 15, 16] rfl)⟩ rfl rfl hl.1 rfl (lv_room (Nat.le_of_ble_eq_true rfl)) (zdt_at zt_X9_keyRefusal_0 2 rfl) ⟨Nat.zero_le _, Nat.zero_le _⟩) ?_
  clear hc_
  refine W.eq (g2 := F0 m 5 ls [.int r_1]) rfl ?_
  refine lv_if_eq (pc := 5) (tgt := 11) hx hb (zdt_at zt_X9_keyRefusal_0 3 rfl) (by decide) (fun cn_ => ?t_2) (fun cn_ => ?f_3)
  case f_3 =>
    replace hf := ze_s cn_ hf
    clear cn_
    refine lv_bipush (pc := 8) (v := (-3 : Int32)) hx hb (zdt_at zt_X9_keyRefusal_0 4 rfl) (by decide) ?_
    cases hf
    exact W.iret (pc := 10) hx hb hr (fun t ht hW => ⟨rfl, ht⟩) (fun _ h => nomatch h) (zdt_at zt_X9_keyRefusal_0 5 rfl)
  replace hf := zt_s cn_ hf
  clear cn_
  refine lv_aload_n (pc := 11) hx hb (zdt_at zt_X9_keyRefusal_0 6 rfl) rfl (lv_at hl 1 rfl) ?_
  replace hf := zb_s hf
  obtain ⟨r_4, hc_, hf⟩ := hf
  refine zcs (pc := 12) (rv := (some (.int r_4))) (va_runV (As := []) (rest := []) ⟨hx, hb, hml, hown, hts⟩ (c_X8_isEmpty l D cy tt s.heap.size hP_o hP_k j1 cP_kind cP_length cP_usage cP_role cP_uses r_4 hj_j1 hc_) (cwV 0 hts gX9_keyRefusal_X8_isEmpty rfl rfl rfl (by decide +kernel) ⟨Nat.le_of_ble_eq_true rfl, Nat.le_of_ble_eq_true rfl⟩) ⟨zblind, va_recv hK hP (ci := 10) (q0 := (1 + j1)) rfl (zpO_get (X := [(h0, .inr (11, [.ref h0_buffer, .ref h0_slots, .ref h0_counters, .ref h0_officerPin, .ref h0_userPin, .ref h0_words, .ref h0_sha, .ref h0_stream, .ref h0_aes, .ref h0_modes, .ref h0_gcm, .ref h0_generator, .ref h0_tests, .ref h0_message, .ref h0_secret, .int c_state, .int c_testsDone, .int c_faults, .int c_streamBegun]))]) (n := 1) rfl hj_j1), zpre hE hS (hP.sub [1, 2, 3, 4, 5, 6, 7, 8, 9, 10, 11, 12, 13, 14, 15, 16] rfl) (hD.sub [1, 2, 3, 4, 5, 6, 7, 8, 9, 10, 11, 12, 13, 14, 15, 16] (by decide) rfl) (va_free hD hS hA [1, 2, 3, 4, 5, 6, 7, 8, 9, 10, 11, 12, 13, 14, 15, 16] rfl)⟩ rfl rfl hl.1 rfl (lv_room (Nat.le_of_ble_eq_true rfl)) (zdt_at zt_X9_keyRefusal_0 7 rfl) ⟨Nat.zero_le _, Nat.zero_le _⟩) ?_
  clear hc_
  refine W.eq (g2 := F0 m 15 ls [.int r_4]) rfl ?_
  refine lv_if_eq (pc := 15) (tgt := 21) hx hb (zdt_at zt_X9_keyRefusal_0 8 rfl) (by decide) (fun cn_ => ?t_5) (fun cn_ => ?f_6)
  case f_6 =>
    replace hf := ze_s cn_ hf
    clear cn_
    refine lv_bipush (pc := 18) (v := (-4 : Int32)) hx hb (zdt_at zt_X9_keyRefusal_0 9 rfl) (by decide) ?_
    cases hf
    exact W.iret (pc := 20) hx hb hr (fun t ht hW => ⟨rfl, ht⟩) (fun _ h => nomatch h) (zdt_at zt_X9_keyRefusal_0 10 rfl)
  replace hf := zt_s cn_ hf
  clear cn_
  refine lv_aload_n (pc := 21) hx hb (zdt_at zt_X9_keyRefusal_0 11 rfl) rfl (lv_at hl 1 rfl) ?_
  refine va_get (pc := 22) (D := D) (ci := 10) (v := .int (cP_kind j1)) (C := RX8) (T := TX8) (N := 6) hx hb hts hcX8 hown hK hP (1 + j1) (zpO_get (X := [(h0, .inr (11, [.ref h0_buffer, .ref h0_slots, .ref h0_counters, .ref h0_officerPin, .ref h0_userPin, .ref h0_words, .ref h0_sha, .ref h0_stream, .ref h0_aes, .ref h0_modes, .ref h0_gcm, .ref h0_generator, .ref h0_tests, .ref h0_message, .ref h0_secret, .int c_state, .int c_testsDone, .int c_faults, .int c_streamBegun]))]) (n := 1) rfl hj_j1) rfl 1 (by decide) hw0 (fun _ h9 => h9) rfl (zdt_at zt_X9_keyRefusal_0 12 rfl) ?_
  refine lv_iload_n (pc := 25) hx hb (zdt_at zt_X9_keyRefusal_0 13 rfl) rfl (lv_at hl 2 rfl) ?_
  refine lv_icmp_eq (pc := 26) (tgt := 32) hx hb (zdt_at zt_X9_keyRefusal_0 14 rfl) (by decide) (fun cn_ => ?t_7) (fun cn_ => ?f_8)
  case f_8 =>
    replace hf := ze_s cn_ hf
    clear cn_
    refine lv_bipush (pc := 29) (v := (-5 : Int32)) hx hb (zdt_at zt_X9_keyRefusal_0 15 rfl) (by decide) ?_
    cases hf
    exact W.iret (pc := 31) hx hb hr (fun t ht hW => ⟨rfl, ht⟩) (fun _ h => nomatch h) (zdt_at zt_X9_keyRefusal_0 16 rfl)
  replace hf := zt_s cn_ hf
  clear cn_
  refine lv_aload_n (pc := 32) hx hb (zdt_at zt_X9_keyRefusal_0 17 rfl) rfl (lv_at hl 1 rfl) ?_
  refine lv_iload_n (pc := 33) hx hb (zdt_at zt_X9_keyRefusal_0 18 rfl) rfl (lv_at hl 3 rfl) ?_
  replace hf := zb_s hf
  obtain ⟨r_9, hc_, hf⟩ := hf
  refine zcs (pc := 34) (rv := (some (.int r_9))) (va_runV (As := [.int p3]) (rest := []) ⟨hx, hb, hml, hown, hts⟩ (c_X8_allows l D cy tt s.heap.size hP_o hP_k j1 p3 cP_usage cP_kind cP_length cP_role cP_uses r_9 hj_j1 hc_) (cwV 1 hts gX9_keyRefusal_X8_allows rfl rfl rfl (by decide +kernel) ⟨Nat.le_of_ble_eq_true rfl, Nat.le_of_ble_eq_true rfl⟩) ⟨zblind, va_recv hK hP (ci := 10) (q0 := (1 + j1)) rfl (zpO_get (X := [(h0, .inr (11, [.ref h0_buffer, .ref h0_slots, .ref h0_counters, .ref h0_officerPin, .ref h0_userPin, .ref h0_words, .ref h0_sha, .ref h0_stream, .ref h0_aes, .ref h0_modes, .ref h0_gcm, .ref h0_generator, .ref h0_tests, .ref h0_message, .ref h0_secret, .int c_state, .int c_testsDone, .int c_faults, .int c_streamBegun]))]) (n := 1) rfl hj_j1), zpre hE hS (hP.sub [1, 2, 3, 4, 5, 6, 7, 8, 9, 10, 11, 12, 13, 14, 15, 16] rfl) (hD.sub [1, 2, 3, 4, 5, 6, 7, 8, 9, 10, 11, 12, 13, 14, 15, 16] (by decide) rfl) (va_free hD hS hA [1, 2, 3, 4, 5, 6, 7, 8, 9, 10, 11, 12, 13, 14, 15, 16] rfl)⟩ rfl rfl hl.1 rfl (lv_room (Nat.le_of_ble_eq_true rfl)) (zdt_at zt_X9_keyRefusal_0 19 rfl) ⟨Nat.zero_le _, Nat.zero_le _⟩) ?_
  clear hc_
  refine W.eq (g2 := F0 m 37 ls [.int r_9]) rfl ?_
  refine lv_if_ne (pc := 37) (tgt := 43) hx hb (zdt_at zt_X9_keyRefusal_0 20 rfl) (by decide) (fun cn_ => ?t_10) (fun cn_ => ?f_11)
  case f_11 =>
    replace hf := zt_s cn_ hf
    clear cn_
    refine lv_bipush (pc := 40) (v := (-6 : Int32)) hx hb (zdt_at zt_X9_keyRefusal_0 21 rfl) (by decide) ?_
    cases hf
    exact W.iret (pc := 42) hx hb hr (fun t ht hW => ⟨rfl, ht⟩) (fun _ h => nomatch h) (zdt_at zt_X9_keyRefusal_0 22 rfl)
  replace hf := ze_s cn_ hf
  clear cn_
  refine lv_aload_n (pc := 43) hx hb (zdt_at zt_X9_keyRefusal_0 23 rfl) rfl (lv_at hl 1 rfl) ?_
  refine va_get (pc := 44) (D := D) (ci := 10) (v := .int (cP_uses j1)) (C := RX8) (T := TX8) (N := 6) hx hb hts hcX8 hown hK hP (1 + j1) (zpO_get (X := [(h0, .inr (11, [.ref h0_buffer, .ref h0_slots, .ref h0_counters, .ref h0_officerPin, .ref h0_userPin, .ref h0_words, .ref h0_sha, .ref h0_stream, .ref h0_aes, .ref h0_modes, .ref h0_gcm, .ref h0_generator, .ref h0_tests, .ref h0_message, .ref h0_secret, .int c_state, .int c_testsDone, .int c_faults, .int c_streamBegun]))]) (n := 1) rfl hj_j1) rfl 5 (by decide) hw1 (fun _ h9 => h9) rfl (zdt_at zt_X9_keyRefusal_0 24 rfl) ?_
  refine lv_if_ne (pc := 47) (tgt := 55) hx hb (zdt_at zt_X9_keyRefusal_0 25 rfl) (by decide) (fun cn_ => ?t_12) (fun cn_ => ?f_13)
  case t_12 =>
    replace hf := ze_s cn_ hf
    clear cn_
    refine lv_iconst (pc := 55) (v := (0 : Int32)) hx hb (zdt_at zt_X9_keyRefusal_0 28 rfl) (by decide) ?_
    cases hf
    exact W.iret (pc := 56) hx hb hr (fun t ht hW => ⟨rfl, ht⟩) (fun _ h => nomatch h) (zdt_at zt_X9_keyRefusal_0 29 rfl)
  replace hf := zt_s cn_ hf
  clear cn_
  refine lv_bipush (pc := 50) (v := (-7 : Int32)) hx hb (zdt_at zt_X9_keyRefusal_0 26 rfl) (by decide) ?_
  refine lv_goto (pc := 52) (tgt := 56) hx hb (zdt_at zt_X9_keyRefusal_0 27 rfl) (by decide) ?_
  cases hf
  exact W.iret (pc := 56) hx hb hr (fun t ht hW => ⟨rfl, ht⟩) (fun _ h => nomatch h) (zdt_at zt_X9_keyRefusal_0 29 rfl)
def f_X9_unwrapBytes (j1 : Nat) (j2 : Nat) (p3 : Int32) (c_state : Int32) (c_aes_rounds : Int32) (c_aes_keys : Nat → Int32) (c_buffer : Nat → Int32) (c_modes_block : Nat → Int32) (c_secret : Nat → Int32) (cP_kind : Nat → Int32) (cP_length : Nat → Int32) (cP_role : Nat → Int32) (cP_usage : Nat → Int32) (cP_uses : Nat → Int32) (cPK : Nat → Nat → Int32) : Option (Int32 × Int32 × (Nat → Int32) × (Nat → Int32) × (Nat → Int32) × (Nat → Int32) × (Nat → Int32) × (Nat → Int32) × (Nat → Int32) × (Nat → Int32) × (Nat → Nat → Int32)) :=
  (f_X8_takeUse j2 cP_uses).bind (fun cP_uses_1 => zk (¬ (0 : Int32) < 0 ∧ ¬ (0 : Int32) < 0 ∧ ¬ p3 < 0 ∧ (0 : Int32).toNatClampNeg + p3.toNatClampNeg ≤ 512 ∧ (0 : Int32).toNatClampNeg + p3.toNatClampNeg ≤ 80 ∧ (∀ i, i < p3.toNatClampNeg → fits .byte (.int (c_buffer ((0 : Int32).toNatClampNeg + i))) = true)) ((f_X0_setKey_1PK j2 (cP_length j2) c_aes_rounds c_aes_keys cPK).bind (fun (c_aes_rounds_2, c_aes_keys_3) => (f_X4_wrapOut 80 p3 c_aes_rounds_2 c_aes_keys_3 c_modes_block (va_cpy c_buffer c_secret (0 : Int32).toNatClampNeg (0 : Int32).toNatClampNeg p3.toNatClampNeg)).bind (fun (r_4, c_modes_block_5, c_secret_6) => zj (fun (v_7 : Int32) => if v_7 = 0 then (f_X9_forgetSecret c_secret_6).bind (fun c_secret_11 => if v_7 = 0 then some ((-9 : Int32), c_aes_rounds_2, c_aes_keys_3, c_modes_block_5, c_secret_11, cP_kind, cP_length, cP_role, cP_usage, cP_uses_1, cPK) else some ((0 : Int32), c_aes_rounds_2, c_aes_keys_3, c_modes_block_5, c_secret_11, cP_kind, cP_length, cP_role, cP_usage, cP_uses_1, cPK)) else zk (¬ ((8 : Int32) < 0 ∨ 80 ≤ (8 : Int32).toNatClampNeg)) (zk (¬ ((9 : Int32) < 0 ∨ 80 ≤ (9 : Int32).toNatClampNeg)) ((f_X9_holder c_state).bind (fun r_14 => (f_X8_fill 80 j1 (c_secret_6 (8 : Int32).toNatClampNeg) (c_secret_6 (9 : Int32).toNatClampNeg) r_14 (-1 : Int32) (16 : Int32) (p3 - (16 : Int32)) c_secret_6 cP_kind cP_length cP_role cP_usage cP_uses_1 cPK).bind (fun (cP_kind_15, cP_length_16, cP_role_17, cP_usage_18, cP_uses_19, cPK_20) => (f_X9_forgetSecret c_secret_6).bind (fun c_secret_21 => if v_7 = 0 then some ((-9 : Int32), c_aes_rounds_2, c_aes_keys_3, c_modes_block_5, c_secret_21, cP_kind_15, cP_length_16, cP_role_17, cP_usage_18, cP_uses_19, cPK_20) else some ((0 : Int32), c_aes_rounds_2, c_aes_keys_3, c_modes_block_5, c_secret_21, cP_kind_15, cP_length_16, cP_role_17, cP_usage_18, cP_uses_19, cPK_20))))))) (fun K_8 => zj (fun (_ : Unit) => K_8 (0 : Int32)) (fun K_24 => if r_4 = 0 then K_24 () else (f_X9_isWrappedHead 80 (p3 - (16 : Int32)) c_secret_6).bind (fun r_27 => if r_27 = 0 then K_24 () else K_8 (1 : Int32))))))))
set_option maxHeartbeats 4000000 in
set_option maxRecDepth 100000 in
theorem c_X9_unwrapBytes (l : Launch) (D : va_G) (cy : Nat → ClassId) (tt : Nat → Nat) (sz : Nat) (h0 : Nat) (h0_buffer : Nat) (h0_slots : Nat) (h0_counters : Nat) (h0_officerPin : Nat) (h0_userPin : Nat) (h0_words : Nat) (h0_sha : Nat) (h0_stream : Nat) (h0_aes : Nat) (h0_modes : Nat) (h0_gcm : Nat) (h0_generator : Nat) (h0_tests : Nat) (h0_message : Nat) (h0_secret : Nat) (h0_aes_keys : Nat) (h0_modes_block : Nat) (h0_modes_pad : Nat) (hP_o : Nat → Nat) (hP_k : Nat → Nat) (j1 : Nat) (j2 : Nat) (p3 : Int32) (c_state : Int32) (c_aes_rounds : Int32) (c_aes_keys : Nat → Int32) (c_buffer : Nat → Int32) (c_modes_block : Nat → Int32) (c_secret : Nat → Int32) (cP_kind : Nat → Int32) (cP_length : Nat → Int32) (cP_role : Nat → Int32) (cP_usage : Nat → Int32) (cP_uses : Nat → Int32) (cPK : Nat → Nat → Int32) (c_testsDone : Int32) (c_faults : Int32) (c_streamBegun : Int32) (r_ : Int32) (c_aes_rounds' : Int32) (c_aes_keys' : Nat → Int32) (c_modes_block' : Nat → Int32) (c_secret' : Nat → Int32) (cP_kind' : Nat → Int32) (cP_length' : Nat → Int32) (cP_role' : Nat → Int32) (cP_usage' : Nat → Int32) (cP_uses' : Nat → Int32) (cPK' : Nat → Nat → Int32) (hj_j1 : j1 < 16) (hj_j2 : j2 < 16) (hf : f_X9_unwrapBytes j1 j2 p3 c_state c_aes_rounds c_aes_keys c_buffer c_modes_block c_secret cP_kind cP_length cP_role cP_usage cP_uses cPK = some (r_, c_aes_rounds', c_aes_keys', c_modes_block', c_secret', cP_kind', cP_length', cP_role', cP_usage', cP_uses', cPK')) : Met l yX9_unwrapBytes wsX9_unwrapBytes ({ frames := 4, cells := 0, slots := 0, locals := 101 }) (zPc D cy tt sz [.ref h0, .ref (hP_o j1), .ref (hP_o j2), .int p3] ([(h0, .inr (11, [.ref h0_buffer, .ref h0_slots, .ref h0_counters, .ref h0_officerPin, .ref h0_userPin, .ref h0_words, .ref h0_sha, .ref h0_stream, .ref h0_aes, .ref h0_modes, .ref h0_gcm, .ref h0_generator, .ref h0_tests, .ref h0_message, .ref h0_secret, .int c_state, .int c_testsDone, .int c_faults, .int c_streamBegun])), (h0_aes, .inr (2, [.ref h0_aes_keys, .int c_aes_rounds])), (h0_aes_keys, .inl (cy 1, 60, .inl c_aes_keys)), (h0_buffer, .inl (cy 0, 512, .inl c_buffer)), (h0_modes, .inr (6, [.ref h0_aes, .ref h0_modes_block, .ref h0_modes_pad])), (h0_modes_block, .inl (cy 0, 16, .inl c_modes_block)), (h0_secret, .inl (cy 0, 80, .inl c_secret))] ++ zpO hP_o hP_k cP_kind cP_length cP_usage cP_role cP_uses ++ zpK (cy 0) hP_k cPK)) (zQ D (some (.int r_)) ([(h0, .inr (11, [.ref h0_buffer, .ref h0_slots, .ref h0_counters, .ref h0_officerPin, .ref h0_userPin, .ref h0_words, .ref h0_sha, .ref h0_stream, .ref h0_aes, .ref h0_modes, .ref h0_gcm, .ref h0_generator, .ref h0_tests, .ref h0_message, .ref h0_secret, .int c_state, .int c_testsDone, .int c_faults, .int c_streamBegun])), (h0_aes, .inr (2, [.ref h0_aes_keys, .int c_aes_rounds'])), (h0_aes_keys, .inl (cy 1, 60, .inl c_aes_keys')), (h0_buffer, .inl (cy 0, 512, .inl c_buffer)), (h0_modes, .inr (6, [.ref h0_aes, .ref h0_modes_block, .ref h0_modes_pad])), (h0_modes_block, .inl (cy 0, 16, .inl c_modes_block')), (h0_secret, .inl (cy 0, 80, .inl c_secret'))] ++ zpO hP_o hP_k cP_kind' cP_length' cP_usage' cP_role' cP_uses' ++ zpK (cy 0) hP_k cPK') (va_A ([(h0, .inr (11, [.ref h0_buffer, .ref h0_slots, .ref h0_counters, .ref h0_officerPin, .ref h0_userPin, .ref h0_words, .ref h0_sha, .ref h0_stream, .ref h0_aes, .ref h0_modes, .ref h0_gcm, .ref h0_generator, .ref h0_tests, .ref h0_message, .ref h0_secret, .int c_state, .int c_testsDone, .int c_faults, .int c_streamBegun])), (h0_aes, .inr (2, [.ref h0_aes_keys, .int c_aes_rounds])), (h0_aes_keys, .inl (cy 1, 60, .inl c_aes_keys)), (h0_buffer, .inl (cy 0, 512, .inl c_buffer)), (h0_modes, .inr (6, [.ref h0_aes, .ref h0_modes_block, .ref h0_modes_pad])), (h0_modes_block, .inl (cy 0, 16, .inl c_modes_block)), (h0_secret, .inl (cy 0, 80, .inl c_secret))] ++ zpO hP_o hP_k cP_kind cP_length cP_usage cP_role cP_uses ++ zpK (cy 0) hP_k cPK) sz)) 0 0 (va_A ([(h0, .inr (11, [.ref h0_buffer, .ref h0_slots, .ref h0_counters, .ref h0_officerPin, .ref h0_userPin, .ref h0_words, .ref h0_sha, .ref h0_stream, .ref h0_aes, .ref h0_modes, .ref h0_gcm, .ref h0_generator, .ref h0_tests, .ref h0_message, .ref h0_secret, .int c_state, .int c_testsDone, .int c_faults, .int c_streamBegun])), (h0_aes, .inr (2, [.ref h0_aes_keys, .int c_aes_rounds])), (h0_aes_keys, .inl (cy 1, 60, .inl c_aes_keys)), (h0_buffer, .inl (cy 0, 512, .inl c_buffer)), (h0_modes, .inr (6, [.ref h0_aes, .ref h0_modes_block, .ref h0_modes_pad])), (h0_modes_block, .inl (cy 0, 16, .inl c_modes_block)), (h0_secret, .inl (cy 0, 80, .inl c_secret))] ++ zpO hP_o hP_k cP_kind cP_length cP_usage cP_role cP_uses ++ zpK (cy 0) hP_k cPK) sz) := by
  refine Met.ofW (cc := cX9_unwrapBytes) (maxL := 5) (ret := (some .int)) (by decide) rfl ?_
  intro p e s m args below meth c s₁ B hml hv
  obtain ⟨rfl, rfl, hP, hD0, hE⟩ := hv
  have hx := B.exec
  have hb := B.bytes
  have hr := B.returns
  have hts := atoms_spec (ws := wsX9_unwrapBytes) B.pre
  have hown : s.vm.findClass RX9 = some m.cls := findClass_of_methodNamed B.named
  have hlocks := B.notSynchronized
  clear B
  have hD := hD0.self (sz := s.heap.size)
  generalize hAe : va_A ([(h0, .inr (11, [.ref h0_buffer, .ref h0_slots, .ref h0_counters, .ref h0_officerPin, .ref h0_userPin, .ref h0_words, .ref h0_sha, .ref h0_stream, .ref h0_aes, .ref h0_modes, .ref h0_gcm, .ref h0_generator, .ref h0_tests, .ref h0_message, .ref h0_secret, .int c_state, .int c_testsDone, .int c_faults, .int c_streamBegun])), (h0_aes, .inr (2, [.ref h0_aes_keys, .int c_aes_rounds])), (h0_aes_keys, .inl (cy 1, 60, .inl c_aes_keys)), (h0_buffer, .inl (cy 0, 512, .inl c_buffer)), (h0_modes, .inr (6, [.ref h0_aes, .ref h0_modes_block, .ref h0_modes_pad])), (h0_modes_block, .inl (cy 0, 16, .inl c_modes_block)), (h0_secret, .inl (cy 0, 80, .inl c_secret))] ++ zpO hP_o hP_k cP_kind cP_length cP_usage cP_role cP_uses ++ zpK (cy 0) hP_k cPK) s.heap.size = A at hD hE ⊢
  have hA : ∀ q : Nat, s.heap.size ≤ q → A q := fun q h => by rw [← hAe]; exact Or.inr h
  clear hAe hD0
  have hS : va_S A s.heap s.heap [] := va_S.rf
  have hK := hE.1
  have hw0 := hts (.fieldLink RX9 9 "SealedModule" "buffer" "[B") (by decide +kernel)
  have hw1 := hts (.fieldLink RX9 98 "SealedModule" "secret" "[B") (by decide +kernel)
  have hw2 := hts (.methodLink RX9 276 arraycopyName) (by decide +kernel)
  have hw3 := hts (.native arraycopyName) (by decide +kernel)
  have hw4 := hts (.static arraycopyName) (by decide +kernel)
  have hw5 := hts (.initialized "java/lang/System") (by decide +kernel)
  have hw6 := hts (.fieldLink RX9 55 "SealedModule" "aes" "LSealedModule$Aes;") (by decide +kernel)
  have hw7 := hts (.fieldLink RX9 286 "SealedModule$Slot" "key" "[B") (by decide +kernel)
  have hw8 := hts (.fieldLink RX9 207 "SealedModule$Slot" "length" "I") (by decide +kernel)
  have hw9 := hts (.fieldLink RX9 64 "SealedModule" "modes" "LSealedModule$Modes;") (by decide +kernel)
  have hcX9 : ∀ w ∈ u_ws RX9 TX9 19, w ∈ wsX9_unwrapBytes := (fun _ h => List.mem_cons_of_mem _ (List.mem_append_left _ (List.mem_append_left _ (List.mem_append_left _ (List.mem_append_right _ h)))))
  have hcX8 : ∀ w ∈ u_ws RX8 TX8 6, w ∈ wsX9_unwrapBytes := (fun _ h => List.mem_cons_of_mem _ (List.mem_append_left _ (List.mem_append_left _ (List.mem_append_right _ h))))
  have hl := lv_entry ([.ref h0, .ref (hP_o j1), .ref (hP_o j2), .int p3]) (n := 5) (Nat.le_of_ble_eq_true rfl)
  rw [lg_entry_eq]
  generalize (lg_sl ([.ref h0, .ref (hP_o j1), .ref (hP_o j2), .int p3]) ++ List.replicate (5 - (lg_sl ([.ref h0, .ref (hP_o j1), .ref (hP_o j2), .int p3])).length) Slot.unset).toArray = ls at hl ⊢
  replace hl : lv_has ls 5 [(0, .ref h0), (1, .ref (hP_o j1)), (2, .ref (hP_o j2)), (3, .int p3)] := hl
  unfold f_X9_unwrapBytes at hf
  refine zgo (fun GW hTo hFr => ?_)
  refine hFr _ _ _ ?_
  obtain ⟨H, hHe⟩ : ∃ H, H = s.heap := ⟨_, rfl⟩
  obtain ⟨locs, hLe⟩ : ∃ L : List Loc, L = [] := ⟨_, rfl⟩
  rw [← hHe] at hP
  replace hS : va_S A s.heap H locs := by rw [hHe, hLe]; exact hS
  refine zat hHe.symm hLe.symm ?_
  clear hHe hLe
  refine lv_aload_n (pc := 0) hx hb (zdt_at zt_X9_unwrapBytes_0 0 rfl) rfl (lv_at hl 2 rfl) ?_
  replace hf := zb_s hf
  obtain ⟨cP_uses_1, hc_, hf⟩ := hf
  refine zcm2 (pc := 1) (rv := none) (va_runV (As := []) (rest := []) ⟨hx, hb, hml, hown, hts⟩ (c_X8_takeUse l D cy tt H.size hP_o hP_k j2 cP_uses cP_kind cP_length cP_usage cP_role cP_uses_1 hj_j2 hc_) (cwV 0 hts gX9_unwrapBytes_X8_takeUse rfl rfl rfl (by decide +kernel) ⟨Nat.le_of_ble_eq_true rfl, Nat.le_of_ble_eq_true rfl⟩) ⟨zblind, va_recv hK hP (ci := 10) (q0 := (7 + j2)) rfl (zpO_getK (X := [(h0, .inr (11, [.ref h0_buffer, .ref h0_slots, .ref h0_counters, .ref h0_officerPin, .ref h0_userPin, .ref h0_words, .ref h0_sha, .ref h0_stream, .ref h0_aes, .ref h0_modes, .ref h0_gcm, .ref h0_generator, .ref h0_tests, .ref h0_message, .ref h0_secret, .int c_state, .int c_testsDone, .int c_faults, .int c_streamBegun])), (h0_aes, .inr (2, [.ref h0_aes_keys, .int c_aes_rounds])), (h0_aes_keys, .inl (cy 1, 60, .inl c_aes_keys)), (h0_buffer, .inl (cy 0, 512, .inl c_buffer)), (h0_modes, .inr (6, [.ref h0_aes, .ref h0_modes_block, .ref h0_modes_pad])), (h0_modes_block, .inl (cy 0, 16, .inl c_modes_block)), (h0_secret, .inl (cy 0, 80, .inl c_secret))]) (n := 7) rfl hj_j2), zpre hE hS (hP.sub [7, 8, 9, 10, 11, 12, 13, 14, 15, 16, 17, 18, 19, 20, 21, 22] rfl) (hD.sub [7, 8, 9, 10, 11, 12, 13, 14, 15, 16, 17, 18, 19, 20, 21, 22] (by decide) rfl) (va_free hD hS hA [7, 8, 9, 10, 11, 12, 13, 14, 15, 16, 17, 18, 19, 20, 21, 22] rfl)⟩ rfl rfl hl.1 rfl (lv_room (Nat.le_of_ble_eq_true rfl)) (zdt_at zt_X9_unwrapBytes_0 1 rfl) ⟨Nat.zero_le _, Nat.zero_le _⟩) hS hP hD (va_free hD hS hA [7, 8, 9, 10, 11, 12, 13, 14, 15, 16, 17, 18, 19, 20, 21, 22] rfl) [7, 8, 9, 10, 11, 12, 13, 14, 15, 16, 17, 18, 19, 20, 21, 22] rfl (by decide) rfl ?_
  clear hP hD hS hc_
  intro H locs hP hD hS
  replace hP : va_P D vwCl ([(h0, .inr (11, [.ref h0_buffer, .ref h0_slots, .ref h0_counters, .ref h0_officerPin, .ref h0_userPin, .ref h0_words, .ref h0_sha, .ref h0_stream, .ref h0_aes, .ref h0_modes, .ref h0_gcm, .ref h0_generator, .ref h0_tests, .ref h0_message, .ref h0_secret, .int c_state, .int c_testsDone, .int c_faults, .int c_streamBegun])), (h0_aes, .inr (2, [.ref h0_aes_keys, .int c_aes_rounds])), (h0_aes_keys, .inl (cy 1, 60, .inl c_aes_keys)), (h0_buffer, .inl (cy 0, 512, .inl c_buffer)), (h0_modes, .inr (6, [.ref h0_aes, .ref h0_modes_block, .ref h0_modes_pad])), (h0_modes_block, .inl (cy 0, 16, .inl c_modes_block)), (h0_secret, .inl (cy 0, 80, .inl c_secret))] ++ zpO hP_o hP_k cP_kind cP_length cP_usage cP_role cP_uses_1 ++ zpK (cy 0) hP_k cPK) H := hP
  replace hD : va_D A ([(h0, .inr (11, [.ref h0_buffer, .ref h0_slots, .ref h0_counters, .ref h0_officerPin, .ref h0_userPin, .ref h0_words, .ref h0_sha, .ref h0_stream, .ref h0_aes, .ref h0_modes, .ref h0_gcm, .ref h0_generator, .ref h0_tests, .ref h0_message, .ref h0_secret, .int c_state, .int c_testsDone, .int c_faults, .int c_streamBegun])), (h0_aes, .inr (2, [.ref h0_aes_keys, .int c_aes_rounds])), (h0_aes_keys, .inl (cy 1, 60, .inl c_aes_keys)), (h0_buffer, .inl (cy 0, 512, .inl c_buffer)), (h0_modes, .inr (6, [.ref h0_aes, .ref h0_modes_block, .ref h0_modes_pad])), (h0_modes_block, .inl (cy 0, 16, .inl c_modes_block)), (h0_secret, .inl (cy 0, 80, .inl c_secret))] ++ zpO hP_o hP_k cP_kind cP_length cP_usage cP_role cP_uses_1 ++ zpK (cy 0) hP_k cPK) := hD
  refine W.eq (g2 := F0 m 4 ls []) rfl ?_
  refine lv_aload_n (pc := 4) hx hb (zdt_at zt_X9_unwrapBytes_0 2 rfl) rfl (lv_at hl 0 rfl) ?_
  refine va_get (pc := 5) (D := D) (ci := 11) (v := .ref h0_buffer) (C := RX9) (T := TX9) (N := 19) hx hb hts hcX9 hown hK hP 0 rfl rfl 0 (by decide) hw0 (fun _ h9 => h9) rfl (zdt_at zt_X9_unwrapBytes_0 3 rfl) ?_
  refine lv_iconst (pc := 8) (v := (0 : Int32)) hx hb (zdt_at zt_X9_unwrapBytes_0 4 rfl) (by decide) ?_
  refine lv_aload_n (pc := 9) hx hb (zdt_at zt_X9_unwrapBytes_0 5 rfl) rfl (lv_at hl 0 rfl) ?_
  refine va_get (pc := 10) (D := D) (ci := 11) (v := .ref h0_secret) (C := RX9) (T := TX9) (N := 19) hx hb hts hcX9 hown hK hP 0 rfl rfl 14 (by decide) hw1 (fun _ h9 => h9) rfl (zdt_at zt_X9_unwrapBytes_0 6 rfl) ?_
  refine lv_iconst (pc := 13) (v := (0 : Int32)) hx hb (zdt_at zt_X9_unwrapBytes_0 7 rfl) (by decide) ?_
  refine lv_iload_n (pc := 14) hx hb (zdt_at zt_X9_unwrapBytes_0 8 rfl) rfl (lv_at hl 3 rfl) ?_
  replace hf := zk_s hf
  refine va_copyi (pc := 15) hx hb (hml.trans hl.1.symm) hown hw2 hw3 hw4 hw5 hK hP hD hS 3 6 0 0 rfl rfl rfl rfl rfl hf.1.1 hf.1.2.1 hf.1.2.2.1 hf.1.2.2.2.1 hf.1.2.2.2.2.1 hf.1.2.2.2.2.2 (Nat.le_of_ble_eq_true rfl) (Nat.le_of_ble_eq_true rfl) (zdt_at zt_X9_unwrapBytes_0 9 rfl) ?_
  replace hf := hf.2
  clear hP hD hS
  intro H locs hP hD hS
  replace hP : va_P D vwCl ([(h0, .inr (11, [.ref h0_buffer, .ref h0_slots, .ref h0_counters, .ref h0_officerPin, .ref h0_userPin, .ref h0_words, .ref h0_sha, .ref h0_stream, .ref h0_aes, .ref h0_modes, .ref h0_gcm, .ref h0_generator, .ref h0_tests, .ref h0_message, .ref h0_secret, .int c_state, .int c_testsDone, .int c_faults, .int c_streamBegun])), (h0_aes, .inr (2, [.ref h0_aes_keys, .int c_aes_rounds])), (h0_aes_keys, .inl (cy 1, 60, .inl c_aes_keys)), (h0_buffer, .inl (cy 0, 512, .inl c_buffer)), (h0_modes, .inr (6, [.ref h0_aes, .ref h0_modes_block, .ref h0_modes_pad])), (h0_modes_block, .inl (cy 0, 16, .inl c_modes_block)), (h0_secret, .inl (cy 0, 80, .inl (va_cpy c_buffer c_secret (0 : Int32).toNatClampNeg (0 : Int32).toNatClampNeg p3.toNatClampNeg)))] ++ zpO hP_o hP_k cP_kind cP_length cP_usage cP_role cP_uses_1 ++ zpK (cy 0) hP_k cPK) H := hP
  replace hD : va_D A ([(h0, .inr (11, [.ref h0_buffer, .ref h0_slots, .ref h0_counters, .ref h0_officerPin, .ref h0_userPin, .ref h0_words, .ref h0_sha, .ref h0_stream, .ref h0_aes, .ref h0_modes, .ref h0_gcm, .ref h0_generator, .ref h0_tests, .ref h0_message, .ref h0_secret, .int c_state, .int c_testsDone, .int c_faults, .int c_streamBegun])), (h0_aes, .inr (2, [.ref h0_aes_keys, .int c_aes_rounds])), (h0_aes_keys, .inl (cy 1, 60, .inl c_aes_keys)), (h0_buffer, .inl (cy 0, 512, .inl c_buffer)), (h0_modes, .inr (6, [.ref h0_aes, .ref h0_modes_block, .ref h0_modes_pad])), (h0_modes_block, .inl (cy 0, 16, .inl c_modes_block)), (h0_secret, .inl (cy 0, 80, .inl (va_cpy c_buffer c_secret (0 : Int32).toNatClampNeg (0 : Int32).toNatClampNeg p3.toNatClampNeg)))] ++ zpO hP_o hP_k cP_kind cP_length cP_usage cP_role cP_uses_1 ++ zpK (cy 0) hP_k cPK) := hD
  refine lv_aload_n (pc := 18) hx hb (zdt_at zt_X9_unwrapBytes_0 10 rfl) rfl (lv_at hl 0 rfl) ?_
  refine va_get (pc := 19) (D := D) (ci := 11) (v := .ref h0_aes) (C := RX9) (T := TX9) (N := 19) hx hb hts hcX9 hown hK hP 0 rfl rfl 8 (by decide) hw6 (fun _ h9 => h9) rfl (zdt_at zt_X9_unwrapBytes_0 11 rfl) ?_
  refine lv_aload_n (pc := 22) hx hb (zdt_at zt_X9_unwrapBytes_0 12 rfl) rfl (lv_at hl 2 rfl) ?_
  refine va_get (pc := 23) (D := D) (ci := 10) (v := .ref (hP_k j2)) (C := RX8) (T := TX8) (N := 6) hx hb hts hcX8 hown hK hP (7 + j2) (zpO_getK (X := [(h0, .inr (11, [.ref h0_buffer, .ref h0_slots, .ref h0_counters, .ref h0_officerPin, .ref h0_userPin, .ref h0_words, .ref h0_sha, .ref h0_stream, .ref h0_aes, .ref h0_modes, .ref h0_gcm, .ref h0_generator, .ref h0_tests, .ref h0_message, .ref h0_secret, .int c_state, .int c_testsDone, .int c_faults, .int c_streamBegun])), (h0_aes, .inr (2, [.ref h0_aes_keys, .int c_aes_rounds])), (h0_aes_keys, .inl (cy 1, 60, .inl c_aes_keys)), (h0_buffer, .inl (cy 0, 512, .inl c_buffer)), (h0_modes, .inr (6, [.ref h0_aes, .ref h0_modes_block, .ref h0_modes_pad])), (h0_modes_block, .inl (cy 0, 16, .inl c_modes_block)), (h0_secret, .inl (cy 0, 80, .inl (va_cpy c_buffer c_secret (0 : Int32).toNatClampNeg (0 : Int32).toNatClampNeg p3.toNatClampNeg)))]) (n := 7) rfl hj_j2) rfl 0 (by decide) hw7 (fun _ h9 => h9) rfl (zdt_at zt_X9_unwrapBytes_0 13 rfl) ?_
  refine lv_aload_n (pc := 26) hx hb (zdt_at zt_X9_unwrapBytes_0 14 rfl) rfl (lv_at hl 2 rfl) ?_
  refine va_get (pc := 27) (D := D) (ci := 10) (v := .int (cP_length j2)) (C := RX8) (T := TX8) (N := 6) hx hb hts hcX8 hown hK hP (7 + j2) (zpO_getK (X := [(h0, .inr (11, [.ref h0_buffer, .ref h0_slots, .ref h0_counters, .ref h0_officerPin, .ref h0_userPin, .ref h0_words, .ref h0_sha, .ref h0_stream, .ref h0_aes, .ref h0_modes, .ref h0_gcm, .ref h0_generator, .ref h0_tests, .ref h0_message, .ref h0_secret, .int c_state, .int c_testsDone, .int c_faults, .int c_streamBegun])), (h0_aes, .inr (2, [.ref h0_aes_keys, .int c_aes_rounds])), (h0_aes_keys, .inl (cy 1, 60, .inl c_aes_keys)), (h0_buffer, .inl (cy 0, 512, .inl c_buffer)), (h0_modes, .inr (6, [.ref h0_aes, .ref h0_modes_block, .ref h0_modes_pad])), (h0_modes_block, .inl (cy 0, 16, .inl c_modes_block)), (h0_secret, .inl (cy 0, 80, .inl (va_cpy c_buffer c_secret (0 : Int32).toNatClampNeg (0 : Int32).toNatClampNeg p3.toNatClampNeg)))]) (n := 7) rfl hj_j2) rfl 2 (by decide) hw8 (fun _ h9 => h9) rfl (zdt_at zt_X9_unwrapBytes_0 15 rfl) ?_
  replace hf := zb_s hf
  obtain ⟨⟨c_aes_rounds_2, c_aes_keys_3⟩, hc_, hf⟩ := hf
  refine zcm2 (pc := 30) (rv := none) (va_runV (As := [.ref (hP_k j2), .int (cP_length j2)]) (rest := []) ⟨hx, hb, hml, hown, hts⟩ (c_X0_setKey_1PK l D cy tt H.size h0_aes h0_aes_keys hP_o hP_k j2 (cP_length j2) c_aes_rounds c_aes_keys cPK cP_kind cP_length cP_usage cP_role cP_uses_1 c_aes_rounds_2 c_aes_keys_3 hj_j2 hc_) (cwV 2 hts gX9_unwrapBytes_X0_setKey rfl rfl rfl (by decide +kernel) ⟨Nat.le_of_ble_eq_true rfl, Nat.le_of_ble_eq_true rfl⟩) ⟨zblind, va_recv hK hP (ci := 2) (q0 := 1) rfl rfl, zpre hE hS (hP.sub [1, 2, 7, 8, 9, 10, 11, 12, 13, 14, 15, 16, 17, 18, 19, 20, 21, 22, 23, 24, 25, 26, 27, 28, 29, 30, 31, 32, 33, 34, 35, 36, 37, 38] rfl) (hD.sub [1, 2, 7, 8, 9, 10, 11, 12, 13, 14, 15, 16, 17, 18, 19, 20, 21, 22, 23, 24, 25, 26, 27, 28, 29, 30, 31, 32, 33, 34, 35, 36, 37, 38] (by decide) rfl) (va_free hD hS hA [1, 2, 7, 8, 9, 10, 11, 12, 13, 14, 15, 16, 17, 18, 19, 20, 21, 22, 23, 24, 25, 26, 27, 28, 29, 30, 31, 32, 33, 34, 35, 36, 37, 38] rfl)⟩ rfl rfl hl.1 rfl (lv_room (Nat.le_of_ble_eq_true rfl)) (zdt_at zt_X9_unwrapBytes_0 16 rfl) ⟨Nat.zero_le _, Nat.zero_le _⟩) hS hP hD (va_free hD hS hA [1, 2, 7, 8, 9, 10, 11, 12, 13, 14, 15, 16, 17, 18, 19, 20, 21, 22, 23, 24, 25, 26, 27, 28, 29, 30, 31, 32, 33, 34, 35, 36, 37, 38] rfl) [1, 2, 7, 8, 9, 10, 11, 12, 13, 14, 15, 16, 17, 18, 19, 20, 21, 22, 23, 24, 25, 26, 27, 28, 29, 30, 31, 32, 33, 34, 35, 36, 37, 38] rfl (by decide) rfl ?_
  clear hP hD hS hc_
  intro H locs hP hD hS
  replace hP : va_P D vwCl ([(h0, .inr (11, [.ref h0_buffer, .ref h0_slots, .ref h0_counters, .ref h0_officerPin, .ref h0_userPin, .ref h0_words, .ref h0_sha, .ref h0_stream, .ref h0_aes, .ref h0_modes, .ref h0_gcm, .ref h0_generator, .ref h0_tests, .ref h0_message, .ref h0_secret, .int c_state, .int c_testsDone, .int c_faults, .int c_streamBegun])), (h0_aes, .inr (2, [.ref h0_aes_keys, .int c_aes_rounds_2])), (h0_aes_keys, .inl (cy 1, 60, .inl c_aes_keys_3)), (h0_buffer, .inl (cy 0, 512, .inl c_buffer)), (h0_modes, .inr (6, [.ref h0_aes, .ref h0_modes_block, .ref h0_modes_pad])), (h0_modes_block, .inl (cy 0, 16, .inl c_modes_block)), (h0_secret, .inl (cy 0, 80, .inl (va_cpy c_buffer c_secret (0 : Int32).toNatClampNeg (0 : Int32).toNatClampNeg p3.toNatClampNeg)))] ++ zpO hP_o hP_k cP_kind cP_length cP_usage cP_role cP_uses_1 ++ zpK (cy 0) hP_k cPK) H := hP
  replace hD : va_D A ([(h0, .inr (11, [.ref h0_buffer, .ref h0_slots, .ref h0_counters, .ref h0_officerPin, .ref h0_userPin, .ref h0_words, .ref h0_sha, .ref h0_stream, .ref h0_aes, .ref h0_modes, .ref h0_gcm, .ref h0_generator, .ref h0_tests, .ref h0_message, .ref h0_secret, .int c_state, .int c_testsDone, .int c_faults, .int c_streamBegun])), (h0_aes, .inr (2, [.ref h0_aes_keys, .int c_aes_rounds_2])), (h0_aes_keys, .inl (cy 1, 60, .inl c_aes_keys_3)), (h0_buffer, .inl (cy 0, 512, .inl c_buffer)), (h0_modes, .inr (6, [.ref h0_aes, .ref h0_modes_block, .ref h0_modes_pad])), (h0_modes_block, .inl (cy 0, 16, .inl c_modes_block)), (h0_secret, .inl (cy 0, 80, .inl (va_cpy c_buffer c_secret (0 : Int32).toNatClampNeg (0 : Int32).toNatClampNeg p3.toNatClampNeg)))] ++ zpO hP_o hP_k cP_kind cP_length cP_usage cP_role cP_uses_1 ++ zpK (cy 0) hP_k cPK) := hD
  refine W.eq (g2 := F0 m 33 ls []) rfl ?_
  refine lv_aload_n (pc := 33) hx hb (zdt_at zt_X9_unwrapBytes_0 17 rfl) rfl (lv_at hl 0 rfl) ?_
  refine va_get (pc := 34) (D := D) (ci := 11) (v := .ref h0_modes) (C := RX9) (T := TX9) (N := 19) hx hb hts hcX9 hown hK hP 0 rfl rfl 9 (by decide) hw9 (fun _ h9 => h9) rfl (zdt_at zt_X9_unwrapBytes_0 18 rfl) ?_
  refine lv_aload_n (pc := 37) hx hb (zdt_at zt_X9_unwrapBytes_0 19 rfl) rfl (lv_at hl 0 rfl) ?_
  refine va_get (pc := 38) (D := D) (ci := 11) (v := .ref h0_secret) (C := RX9) (T := TX9) (N := 19) hx hb hts hcX9 hown hK hP 0 rfl rfl 14 (by decide) hw1 (fun _ h9 => h9) rfl (zdt_at zt_X9_unwrapBytes_0 20 rfl) ?_
  refine lv_iload_n (pc := 41) hx hb (zdt_at zt_X9_unwrapBytes_0 21 rfl) rfl (lv_at hl 3 rfl) ?_
  replace hf := zb_s hf
  obtain ⟨⟨r_4, c_modes_block_5, c_secret_6⟩, hc_, hf⟩ := hf
  refine zcm2 (pc := 42) (rv := (some (.int r_4))) (va_runV (As := [.ref h0_secret, .int p3]) (rest := []) ⟨hx, hb, hml, hown, hts⟩ (c_X4_wrapOut l D cy tt H.size h0_modes h0_aes h0_modes_block h0_modes_pad h0_aes_keys h0_secret 80 p3 c_aes_rounds_2 c_aes_keys_3 c_modes_block (va_cpy c_buffer c_secret (0 : Int32).toNatClampNeg (0 : Int32).toNatClampNeg p3.toNatClampNeg) r_4 c_modes_block_5 c_secret_6 hc_) (cwV 2 hts gX9_unwrapBytes_X4_wrapOut rfl rfl rfl (by decide +kernel) ⟨Nat.le_of_ble_eq_true rfl, Nat.le_of_ble_eq_true rfl⟩) ⟨zblind, va_recv hK hP (ci := 6) (q0 := 4) rfl rfl, zpre hE hS (hP.sub [4, 1, 2, 5, 6] rfl) (hD.sub [4, 1, 2, 5, 6] (by decide) rfl) (va_free hD hS hA [4, 1, 2, 5, 6] rfl)⟩ rfl rfl hl.1 rfl (lv_room (Nat.le_of_ble_eq_true rfl)) (zdt_at zt_X9_unwrapBytes_0 22 rfl) ⟨Nat.zero_le _, Nat.zero_le _⟩) hS hP hD (va_free hD hS hA [4, 1, 2, 5, 6] rfl) [4, 1, 2, 5, 6] rfl (by decide) rfl ?_
  clear hP hD hS hc_
  intro H locs hP hD hS
  replace hP : va_P D vwCl ([(h0, .inr (11, [.ref h0_buffer, .ref h0_slots, .ref h0_counters, .ref h0_officerPin, .ref h0_userPin, .ref h0_words, .ref h0_sha, .ref h0_stream, .ref h0_aes, .ref h0_modes, .ref h0_gcm, .ref h0_generator, .ref h0_tests, .ref h0_message, .ref h0_secret, .int c_state, .int c_testsDone, .int c_faults, .int c_streamBegun])), (h0_aes, .inr (2, [.ref h0_aes_keys, .int c_aes_rounds_2])), (h0_aes_keys, .inl (cy 1, 60, .inl c_aes_keys_3)), (h0_buffer, .inl (cy 0, 512, .inl c_buffer)), (h0_modes, .inr (6, [.ref h0_aes, .ref h0_modes_block, .ref h0_modes_pad])), (h0_modes_block, .inl (cy 0, 16, .inl c_modes_block_5)), (h0_secret, .inl (cy 0, 80, .inl c_secret_6))] ++ zpO hP_o hP_k cP_kind cP_length cP_usage cP_role cP_uses_1 ++ zpK (cy 0) hP_k cPK) H := hP
  replace hD : va_D A ([(h0, .inr (11, [.ref h0_buffer, .ref h0_slots, .ref h0_counters, .ref h0_officerPin, .ref h0_userPin, .ref h0_words, .ref h0_sha, .ref h0_stream, .ref h0_aes, .ref h0_modes, .ref h0_gcm, .ref h0_generator, .ref h0_tests, .ref h0_message, .ref h0_secret, .int c_state, .int c_testsDone, .int c_faults, .int c_streamBegun])), (h0_aes, .inr (2, [.ref h0_aes_keys, .int c_aes_rounds_2])), (h0_aes_keys, .inl (cy 1, 60, .inl c_aes_keys_3)), (h0_buffer, .inl (cy 0, 512, .inl c_buffer)), (h0_modes, .inr (6, [.ref h0_aes, .ref h0_modes_block, .ref h0_modes_pad])), (h0_modes_block, .inl (cy 0, 16, .inl c_modes_block_5)), (h0_secret, .inl (cy 0, 80, .inl c_secret_6))] ++ zpO hP_o hP_k cP_kind cP_length cP_usage cP_role cP_uses_1 ++ zpK (cy 0) hP_k cPK) := hD
  refine W.eq (g2 := F0 m 45 ls [.int r_4]) rfl ?_
  replace hf := zj_s hf
  obtain ⟨K_8, eK_8, hf⟩ := hf
  have kK_8 : ∀ (v_7 : Int32) (H : Heap) (locs : List Loc) (ls : Array Slot), va_P D vwCl ([(h0, .inr (11, [.ref h0_buffer, .ref h0_slots, .ref h0_counters, .ref h0_officerPin, .ref h0_userPin, .ref h0_words, .ref h0_sha, .ref h0_stream, .ref h0_aes, .ref h0_modes, .ref h0_gcm, .ref h0_generator, .ref h0_tests, .ref h0_message, .ref h0_secret, .int c_state, .int c_testsDone, .int c_faults, .int c_streamBegun])), (h0_aes, .inr (2, [.ref h0_aes_keys, .int c_aes_rounds_2])), (h0_aes_keys, .inl (cy 1, 60, .inl c_aes_keys_3)), (h0_buffer, .inl (cy 0, 512, .inl c_buffer)), (h0_modes, .inr (6, [.ref h0_aes, .ref h0_modes_block, .ref h0_modes_pad])), (h0_modes_block, .inl (cy 0, 16, .inl c_modes_block_5)), (h0_secret, .inl (cy 0, 80, .inl c_secret_6))] ++ zpO hP_o hP_k cP_kind cP_length cP_usage cP_role cP_uses_1 ++ zpK (cy 0) hP_k cPK) H → va_D A ([(h0, .inr (11, [.ref h0_buffer, .ref h0_slots, .ref h0_counters, .ref h0_officerPin, .ref h0_userPin, .ref h0_words, .ref h0_sha, .ref h0_stream, .ref h0_aes, .ref h0_modes, .ref h0_gcm, .ref h0_generator, .ref h0_tests, .ref h0_message, .ref h0_secret, .int c_state, .int c_testsDone, .int c_faults, .int c_streamBegun])), (h0_aes, .inr (2, [.ref h0_aes_keys, .int c_aes_rounds_2])), (h0_aes_keys, .inl (cy 1, 60, .inl c_aes_keys_3)), (h0_buffer, .inl (cy 0, 512, .inl c_buffer)), (h0_modes, .inr (6, [.ref h0_aes, .ref h0_modes_block, .ref h0_modes_pad])), (h0_modes_block, .inl (cy 0, 16, .inl c_modes_block_5)), (h0_secret, .inl (cy 0, 80, .inl c_secret_6))] ++ zpO hP_o hP_k cP_kind cP_length cP_usage cP_role cP_uses_1 ++ zpK (cy 0) hP_k cPK) → va_S A s.heap H locs → lv_has ls 5 [(0, .ref h0), (1, .ref (hP_o j1)), (3, .int p3)] → K_8 v_7 = some (r_, c_aes_rounds', c_aes_keys', c_modes_block', c_secret', cP_kind', cP_length', cP_role', cP_usage', cP_uses', cPK') → GW H locs (F0 m 67 ls [.int v_7]) := by
    clear hf hl hP hD hS
    intro v_7 H locs ls hP hD hS hl hf
    rw [eK_8] at hf
    clear eK_8
    refine hFr _ _ _ ?_
    refine lv_istore (pc := 67) (lv' := [(4, .int v_7), (0, .ref h0), (1, .ref (hP_o j1)), (3, .int p3)]) hx hb (zdt_at zt_X9_unwrapBytes_0 34 rfl) hl (by decide) rfl ?_
    clear hl
    intro ls hl
    refine lv_iload (pc := 69) hx hb (zdt_at zt_X9_unwrapBytes_0 35 rfl) (lv_at hl 0 rfl) ?_
    refine lv_if_eq (pc := 71) (tgt := 107) hx hb (zdt_at zt_X9_unwrapBytes_0 36 rfl) (by decide) (fun cn_ => ?t_9) (fun cn_ => ?f_10)
    case t_9 =>
      replace hf := zt_s cn_ hf
      clear cn_
      refine lv_aload_n (pc := 107) hx hb (zdt_at zt_X9_unwrapBytes_0 56 rfl) rfl (lv_at hl 1 rfl) ?_
      replace hf := zb_s hf
      obtain ⟨c_secret_11, hc_, hf⟩ := hf
      refine zcm2 (pc := 108) (rv := none) (va_runV (As := []) (rest := []) ⟨hx, hb, hml, hown, hts⟩ (c_X9_forgetSecret l D cy tt H.size h0 h0_buffer h0_slots h0_counters h0_officerPin h0_userPin h0_words h0_sha h0_stream h0_aes h0_modes h0_gcm h0_generator h0_tests h0_message h0_secret c_secret_6 c_state c_testsDone c_faults c_streamBegun c_secret_11 hc_) (cwV 0 hts gX9_unwrapBytes_X9_forgetSecret rfl rfl rfl (by decide +kernel) ⟨Nat.le_of_ble_eq_true rfl, Nat.le_of_ble_eq_true rfl⟩) ⟨zblind, va_recv hK hP (ci := 11) (q0 := 0) rfl rfl, zpre hE hS (hP.sub [0, 6] rfl) (hD.sub [0, 6] (by decide) rfl) (va_free hD hS hA [0, 6] rfl)⟩ rfl rfl hl.1 rfl (lv_room (Nat.le_of_ble_eq_true rfl)) (zdt_at zt_X9_unwrapBytes_0 57 rfl) ⟨Nat.zero_le _, Nat.zero_le _⟩) hS hP hD (va_free hD hS hA [0, 6] rfl) [0, 6] rfl (by decide) rfl ?_
      clear hP hD hS hc_
      intro H locs hP hD hS
      replace hP : va_P D vwCl ([(h0, .inr (11, [.ref h0_buffer, .ref h0_slots, .ref h0_counters, .ref h0_officerPin, .ref h0_userPin, .ref h0_words, .ref h0_sha, .ref h0_stream, .ref h0_aes, .ref h0_modes, .ref h0_gcm, .ref h0_generator, .ref h0_tests, .ref h0_message, .ref h0_secret, .int c_state, .int c_testsDone, .int c_faults, .int c_streamBegun])), (h0_aes, .inr (2, [.ref h0_aes_keys, .int c_aes_rounds_2])), (h0_aes_keys, .inl (cy 1, 60, .inl c_aes_keys_3)), (h0_buffer, .inl (cy 0, 512, .inl c_buffer)), (h0_modes, .inr (6, [.ref h0_aes, .ref h0_modes_block, .ref h0_modes_pad])), (h0_modes_block, .inl (cy 0, 16, .inl c_modes_block_5)), (h0_secret, .inl (cy 0, 80, .inl c_secret_11))] ++ zpO hP_o hP_k cP_kind cP_length cP_usage cP_role cP_uses_1 ++ zpK (cy 0) hP_k cPK) H := hP
      replace hD : va_D A ([(h0, .inr (11, [.ref h0_buffer, .ref h0_slots, .ref h0_counters, .ref h0_officerPin, .ref h0_userPin, .ref h0_words, .ref h0_sha, .ref h0_stream, .ref h0_aes, .ref h0_modes, .ref h0_gcm, .ref h0_generator, .ref h0_tests, .ref h0_message, .ref h0_secret, .int c_state, .int c_testsDone, .int c_faults, .int c_streamBegun])), (h0_aes, .inr (2, [.ref h0_aes_keys, .int c_aes_rounds_2])), (h0_aes_keys, .inl (cy 1, 60, .inl c_aes_keys_3)), (h0_buffer, .inl (cy 0, 512, .inl c_buffer)), (h0_modes, .inr (6, [.ref h0_aes, .ref h0_modes_block, .ref h0_modes_pad])), (h0_modes_block, .inl (cy 0, 16, .inl c_modes_block_5)), (h0_secret, .inl (cy 0, 80, .inl c_secret_11))] ++ zpO hP_o hP_k cP_kind cP_length cP_usage cP_role cP_uses_1 ++ zpK (cy 0) hP_k cPK) := hD
      refine W.eq (g2 := F0 m 111 ls []) rfl ?_
      refine lv_iload (pc := 111) hx hb (zdt_at zt_X9_unwrapBytes_0 58 rfl) (lv_at hl 0 rfl) ?_
      refine lv_if_eq (pc := 113) (tgt := 120) hx hb (zdt_at zt_X9_unwrapBytes_0 59 rfl) (by decide) (fun cn_ => ?t_12) (fun cn_ => ?f_13)
      case t_12 =>
        replace hf := zt_s cn_ hf
        clear cn_
        refine lv_bipush (pc := 120) (v := (-9 : Int32)) hx hb (zdt_at zt_X9_unwrapBytes_0 62 rfl) (by decide) ?_
        cases hf
        exact W.iret (pc := 122) hx hb hr (fun t ht hW => ⟨rfl, ⟨by rw [ht]; exact hP, hD⟩, hS.F ht⟩) hS.2.2 (zdt_at zt_X9_unwrapBytes_0 63 rfl)
      replace hf := ze_s cn_ hf
      clear cn_
      refine lv_iconst (pc := 116) (v := (0 : Int32)) hx hb (zdt_at zt_X9_unwrapBytes_0 60 rfl) (by decide) ?_
      refine lv_goto (pc := 117) (tgt := 122) hx hb (zdt_at zt_X9_unwrapBytes_0 61 rfl) (by decide) ?_
      cases hf
      exact W.iret (pc := 122) hx hb hr (fun t ht hW => ⟨rfl, ⟨by rw [ht]; exact hP, hD⟩, hS.F ht⟩) hS.2.2 (zdt_at zt_X9_unwrapBytes_0 63 rfl)
    replace hf := ze_s cn_ hf
    clear cn_
    refine lv_aload_n (pc := 74) hx hb (zdt_at zt_X9_unwrapBytes_0 37 rfl) rfl (lv_at hl 2 rfl) ?_
    refine lv_aload_n (pc := 75) hx hb (zdt_at zt_X9_unwrapBytes_0 38 rfl) rfl (lv_at hl 1 rfl) ?_
    refine va_get (pc := 76) (D := D) (ci := 11) (v := .ref h0_secret) (C := RX9) (T := TX9) (N := 19) hx hb hts hcX9 hown hK hP 0 rfl rfl 14 (by decide) hw1 (fun _ h9 => h9) rfl (zdt_at zt_X9_unwrapBytes_0 39 rfl) ?_
    refine lv_bipush (pc := 79) (v := (8 : Int32)) hx hb (zdt_at zt_X9_unwrapBytes_0 40 rfl) (by decide) ?_
    replace hf := zk_s hf
    refine va_bald (pc := 81) hx hb hK hP 6 0 rfl rfl hf.1 (zdt_at zt_X9_unwrapBytes_0 41 rfl) ?_
    replace hf := hf.2
    refine lv_aload_n (pc := 82) hx hb (zdt_at zt_X9_unwrapBytes_0 42 rfl) rfl (lv_at hl 1 rfl) ?_
    refine va_get (pc := 83) (D := D) (ci := 11) (v := .ref h0_secret) (C := RX9) (T := TX9) (N := 19) hx hb hts hcX9 hown hK hP 0 rfl rfl 14 (by decide) hw1 (fun _ h9 => h9) rfl (zdt_at zt_X9_unwrapBytes_0 43 rfl) ?_
    refine lv_bipush (pc := 86) (v := (9 : Int32)) hx hb (zdt_at zt_X9_unwrapBytes_0 44 rfl) (by decide) ?_
    replace hf := zk_s hf
    refine va_bald (pc := 88) hx hb hK hP 6 0 rfl rfl hf.1 (zdt_at zt_X9_unwrapBytes_0 45 rfl) ?_
    replace hf := hf.2
    refine lv_aload_n (pc := 89) hx hb (zdt_at zt_X9_unwrapBytes_0 46 rfl) rfl (lv_at hl 1 rfl) ?_
    replace hf := zb_s hf
    obtain ⟨r_14, hc_, hf⟩ := hf
    refine zcs (pc := 90) (rv := (some (.int r_14))) (va_runV (As := []) (rest := [.int (c_secret_6 (9 : Int32).toNatClampNeg), .int (c_secret_6 (8 : Int32).toNatClampNeg), .ref (hP_o j1)]) ⟨hx, hb, hml, hown, hts⟩ (c_X9_holder l D cy tt H.size h0 h0_buffer h0_slots h0_counters h0_officerPin h0_userPin h0_words h0_sha h0_stream h0_aes h0_modes h0_gcm h0_generator h0_tests h0_message h0_secret c_state c_testsDone c_faults c_streamBegun r_14 hc_) (cwV 0 hts gX9_unwrapBytes_X9_holder rfl rfl rfl (by decide +kernel) ⟨Nat.le_of_ble_eq_true rfl, Nat.le_of_ble_eq_true rfl⟩) ⟨zblind, va_recv hK hP (ci := 11) (q0 := 0) rfl rfl, zpre hE hS (hP.sub [0] rfl) (hD.sub [0] (by decide) rfl) (va_free hD hS hA [0] rfl)⟩ rfl rfl hl.1 rfl (lv_room (Nat.le_of_ble_eq_true rfl)) (zdt_at zt_X9_unwrapBytes_0 47 rfl) ⟨Nat.zero_le _, Nat.zero_le _⟩) ?_
    clear hc_
    refine W.eq (g2 := F0 m 93 ls [.int r_14, .int (c_secret_6 (9 : Int32).toNatClampNeg), .int (c_secret_6 (8 : Int32).toNatClampNeg), .ref (hP_o j1)]) rfl ?_
    refine lv_iconst (pc := 93) (v := (-1 : Int32)) hx hb (zdt_at zt_X9_unwrapBytes_0 48 rfl) (by decide) ?_
    refine lv_aload_n (pc := 94) hx hb (zdt_at zt_X9_unwrapBytes_0 49 rfl) rfl (lv_at hl 1 rfl) ?_
    refine va_get (pc := 95) (D := D) (ci := 11) (v := .ref h0_secret) (C := RX9) (T := TX9) (N := 19) hx hb hts hcX9 hown hK hP 0 rfl rfl 14 (by decide) hw1 (fun _ h9 => h9) rfl (zdt_at zt_X9_unwrapBytes_0 50 rfl) ?_
    refine lv_bipush (pc := 98) (v := (16 : Int32)) hx hb (zdt_at zt_X9_unwrapBytes_0 51 rfl) (by decide) ?_
    refine lv_iload_n (pc := 100) hx hb (zdt_at zt_X9_unwrapBytes_0 52 rfl) rfl (lv_at hl 3 rfl) ?_
    refine lv_bipush (pc := 101) (v := (16 : Int32)) hx hb (zdt_at zt_X9_unwrapBytes_0 53 rfl) (by decide) ?_
    refine lv_isub (pc := 103) hx hb (zdt_at zt_X9_unwrapBytes_0 54 rfl) ?_
    replace hf := zb_s hf
    obtain ⟨⟨cP_kind_15, cP_length_16, cP_role_17, cP_usage_18, cP_uses_19, cPK_20⟩, hc_, hf⟩ := hf
    refine zcm2 (pc := 104) (rv := none) (va_runV (As := [.int (c_secret_6 (8 : Int32).toNatClampNeg), .int (c_secret_6 (9 : Int32).toNatClampNeg), .int r_14, .int (-1 : Int32), .ref h0_secret, .int (16 : Int32), .int (p3 - (16 : Int32))]) (rest := []) ⟨hx, hb, hml, hown, hts⟩ (c_X8_fill l D cy tt H.size h0_secret hP_o hP_k 80 j1 (c_secret_6 (8 : Int32).toNatClampNeg) (c_secret_6 (9 : Int32).toNatClampNeg) r_14 (-1 : Int32) (16 : Int32) (p3 - (16 : Int32)) c_secret_6 cP_kind cP_length cP_role cP_usage cP_uses_1 cPK cP_kind_15 cP_length_16 cP_role_17 cP_usage_18 cP_uses_19 cPK_20 hj_j1 hc_) (cwV 7 hts gX9_unwrapBytes_X8_fill rfl rfl rfl (by decide +kernel) ⟨Nat.le_of_ble_eq_true rfl, Nat.le_of_ble_eq_true rfl⟩) ⟨zblind, va_recv hK hP (ci := 10) (q0 := (7 + j1)) rfl (zpO_getK (X := [(h0, .inr (11, [.ref h0_buffer, .ref h0_slots, .ref h0_counters, .ref h0_officerPin, .ref h0_userPin, .ref h0_words, .ref h0_sha, .ref h0_stream, .ref h0_aes, .ref h0_modes, .ref h0_gcm, .ref h0_generator, .ref h0_tests, .ref h0_message, .ref h0_secret, .int c_state, .int c_testsDone, .int c_faults, .int c_streamBegun])), (h0_aes, .inr (2, [.ref h0_aes_keys, .int c_aes_rounds_2])), (h0_aes_keys, .inl (cy 1, 60, .inl c_aes_keys_3)), (h0_buffer, .inl (cy 0, 512, .inl c_buffer)), (h0_modes, .inr (6, [.ref h0_aes, .ref h0_modes_block, .ref h0_modes_pad])), (h0_modes_block, .inl (cy 0, 16, .inl c_modes_block_5)), (h0_secret, .inl (cy 0, 80, .inl c_secret_6))]) (n := 7) rfl hj_j1), zpre hE hS (hP.sub [6, 7, 8, 9, 10, 11, 12, 13, 14, 15, 16, 17, 18, 19, 20, 21, 22, 23, 24, 25, 26, 27, 28, 29, 30, 31, 32, 33, 34, 35, 36, 37, 38] rfl) (hD.sub [6, 7, 8, 9, 10, 11, 12, 13, 14, 15, 16, 17, 18, 19, 20, 21, 22, 23, 24, 25, 26, 27, 28, 29, 30, 31, 32, 33, 34, 35, 36, 37, 38] (by decide) rfl) (va_free hD hS hA [6, 7, 8, 9, 10, 11, 12, 13, 14, 15, 16, 17, 18, 19, 20, 21, 22, 23, 24, 25, 26, 27, 28, 29, 30, 31, 32, 33, 34, 35, 36, 37, 38] rfl)⟩ rfl rfl hl.1 rfl (lv_room (Nat.le_of_ble_eq_true rfl)) (zdt_at zt_X9_unwrapBytes_0 55 rfl) ⟨Nat.zero_le _, Nat.zero_le _⟩) hS hP hD (va_free hD hS hA [6, 7, 8, 9, 10, 11, 12, 13, 14, 15, 16, 17, 18, 19, 20, 21, 22, 23, 24, 25, 26, 27, 28, 29, 30, 31, 32, 33, 34, 35, 36, 37, 38] rfl) [6, 7, 8, 9, 10, 11, 12, 13, 14, 15, 16, 17, 18, 19, 20, 21, 22, 23, 24, 25, 26, 27, 28, 29, 30, 31, 32, 33, 34, 35, 36, 37, 38] rfl (by decide) rfl ?_
    clear hP hD hS hc_
    intro H locs hP hD hS
    replace hP : va_P D vwCl ([(h0, .inr (11, [.ref h0_buffer, .ref h0_slots, .ref h0_counters, .ref h0_officerPin, .ref h0_userPin, .ref h0_words, .ref h0_sha, .ref h0_stream, .ref h0_aes, .ref h0_modes, .ref h0_gcm, .ref h0_generator, .ref h0_tests, .ref h0_message, .ref h0_secret, .int c_state, .int c_testsDone, .int c_faults, .int c_streamBegun])), (h0_aes, .inr (2, [.ref h0_aes_keys, .int c_aes_rounds_2])), (h0_aes_keys, .inl (cy 1, 60, .inl c_aes_keys_3)), (h0_buffer, .inl (cy 0, 512, .inl c_buffer)), (h0_modes, .inr (6, [.ref h0_aes, .ref h0_modes_block, .ref h0_modes_pad])), (h0_modes_block, .inl (cy 0, 16, .inl c_modes_block_5)), (h0_secret, .inl (cy 0, 80, .inl c_secret_6))] ++ zpO hP_o hP_k cP_kind_15 cP_length_16 cP_usage_18 cP_role_17 cP_uses_19 ++ zpK (cy 0) hP_k cPK_20) H := hP
    replace hD : va_D A ([(h0, .inr (11, [.ref h0_buffer, .ref h0_slots, .ref h0_counters, .ref h0_officerPin, .ref h0_userPin, .ref h0_words, .ref h0_sha, .ref h0_stream, .ref h0_aes, .ref h0_modes, .ref h0_gcm, .ref h0_generator, .ref h0_tests, .ref h0_message, .ref h0_secret, .int c_state, .int c_testsDone, .int c_faults, .int c_streamBegun])), (h0_aes, .inr (2, [.ref h0_aes_keys, .int c_aes_rounds_2])), (h0_aes_keys, .inl (cy 1, 60, .inl c_aes_keys_3)), (h0_buffer, .inl (cy 0, 512, .inl c_buffer)), (h0_modes, .inr (6, [.ref h0_aes, .ref h0_modes_block, .ref h0_modes_pad])), (h0_modes_block, .inl (cy 0, 16, .inl c_modes_block_5)), (h0_secret, .inl (cy 0, 80, .inl c_secret_6))] ++ zpO hP_o hP_k cP_kind_15 cP_length_16 cP_usage_18 cP_role_17 cP_uses_19 ++ zpK (cy 0) hP_k cPK_20) := hD
    refine W.eq (g2 := F0 m 107 ls []) rfl ?_
    refine lv_aload_n (pc := 107) hx hb (zdt_at zt_X9_unwrapBytes_0 56 rfl) rfl (lv_at hl 1 rfl) ?_
    replace hf := zb_s hf
    obtain ⟨c_secret_21, hc_, hf⟩ := hf
    refine zcm2 (pc := 108) (rv := none) (va_runV (As := []) (rest := []) ⟨hx, hb, hml, hown, hts⟩ (c_X9_forgetSecret l D cy tt H.size h0 h0_buffer h0_slots h0_counters h0_officerPin h0_userPin h0_words h0_sha h0_stream h0_aes h0_modes h0_gcm h0_generator h0_tests h0_message h0_secret c_secret_6 c_state c_testsDone c_faults c_streamBegun c_secret_21 hc_) (cwV 0 hts gX9_unwrapBytes_X9_forgetSecret rfl rfl rfl (by decide +kernel) ⟨Nat.le_of_ble_eq_true rfl, Nat.le_of_ble_eq_true rfl⟩) ⟨zblind, va_recv hK hP (ci := 11) (q0 := 0) rfl rfl, zpre hE hS (hP.sub [0, 6] rfl) (hD.sub [0, 6] (by decide) rfl) (va_free hD hS hA [0, 6] rfl)⟩ rfl rfl hl.1 rfl (lv_room (Nat.le_of_ble_eq_true rfl)) (zdt_at zt_X9_unwrapBytes_0 57 rfl) ⟨Nat.zero_le _, Nat.zero_le _⟩) hS hP hD (va_free hD hS hA [0, 6] rfl) [0, 6] rfl (by decide) rfl ?_
    clear hP hD hS hc_
    intro H locs hP hD hS
    replace hP : va_P D vwCl ([(h0, .inr (11, [.ref h0_buffer, .ref h0_slots, .ref h0_counters, .ref h0_officerPin, .ref h0_userPin, .ref h0_words, .ref h0_sha, .ref h0_stream, .ref h0_aes, .ref h0_modes, .ref h0_gcm, .ref h0_generator, .ref h0_tests, .ref h0_message, .ref h0_secret, .int c_state, .int c_testsDone, .int c_faults, .int c_streamBegun])), (h0_aes, .inr (2, [.ref h0_aes_keys, .int c_aes_rounds_2])), (h0_aes_keys, .inl (cy 1, 60, .inl c_aes_keys_3)), (h0_buffer, .inl (cy 0, 512, .inl c_buffer)), (h0_modes, .inr (6, [.ref h0_aes, .ref h0_modes_block, .ref h0_modes_pad])), (h0_modes_block, .inl (cy 0, 16, .inl c_modes_block_5)), (h0_secret, .inl (cy 0, 80, .inl c_secret_21))] ++ zpO hP_o hP_k cP_kind_15 cP_length_16 cP_usage_18 cP_role_17 cP_uses_19 ++ zpK (cy 0) hP_k cPK_20) H := hP
    replace hD : va_D A ([(h0, .inr (11, [.ref h0_buffer, .ref h0_slots, .ref h0_counters, .ref h0_officerPin, .ref h0_userPin, .ref h0_words, .ref h0_sha, .ref h0_stream, .ref h0_aes, .ref h0_modes, .ref h0_gcm, .ref h0_generator, .ref h0_tests, .ref h0_message, .ref h0_secret, .int c_state, .int c_testsDone, .int c_faults, .int c_streamBegun])), (h0_aes, .inr (2, [.ref h0_aes_keys, .int c_aes_rounds_2])), (h0_aes_keys, .inl (cy 1, 60, .inl c_aes_keys_3)), (h0_buffer, .inl (cy 0, 512, .inl c_buffer)), (h0_modes, .inr (6, [.ref h0_aes, .ref h0_modes_block, .ref h0_modes_pad])), (h0_modes_block, .inl (cy 0, 16, .inl c_modes_block_5)), (h0_secret, .inl (cy 0, 80, .inl c_secret_21))] ++ zpO hP_o hP_k cP_kind_15 cP_length_16 cP_usage_18 cP_role_17 cP_uses_19 ++ zpK (cy 0) hP_k cPK_20) := hD
    refine W.eq (g2 := F0 m 111 ls []) rfl ?_
    refine lv_iload (pc := 111) hx hb (zdt_at zt_X9_unwrapBytes_0 58 rfl) (lv_at hl 0 rfl) ?_
    refine lv_if_eq (pc := 113) (tgt := 120) hx hb (zdt_at zt_X9_unwrapBytes_0 59 rfl) (by decide) (fun cn_ => ?t_22) (fun cn_ => ?f_23)
    case t_22 =>
      replace hf := zt_s cn_ hf
      clear cn_
      refine lv_bipush (pc := 120) (v := (-9 : Int32)) hx hb (zdt_at zt_X9_unwrapBytes_0 62 rfl) (by decide) ?_
      cases hf
      exact W.iret (pc := 122) hx hb hr (fun t ht hW => ⟨rfl, ⟨by rw [ht]; exact hP, hD⟩, hS.F ht⟩) hS.2.2 (zdt_at zt_X9_unwrapBytes_0 63 rfl)
    replace hf := ze_s cn_ hf
    clear cn_
    refine lv_iconst (pc := 116) (v := (0 : Int32)) hx hb (zdt_at zt_X9_unwrapBytes_0 60 rfl) (by decide) ?_
    refine lv_goto (pc := 117) (tgt := 122) hx hb (zdt_at zt_X9_unwrapBytes_0 61 rfl) (by decide) ?_
    cases hf
    exact W.iret (pc := 122) hx hb hr (fun t ht hW => ⟨rfl, ⟨by rw [ht]; exact hP, hD⟩, hS.F ht⟩) hS.2.2 (zdt_at zt_X9_unwrapBytes_0 63 rfl)
  clear eK_8
  replace hf := zj_s hf
  obtain ⟨K_24, eK_24, hf⟩ := hf
  have kK_24 : ∀  (H : Heap) (locs : List Loc) (ls : Array Slot), va_P D vwCl ([(h0, .inr (11, [.ref h0_buffer, .ref h0_slots, .ref h0_counters, .ref h0_officerPin, .ref h0_userPin, .ref h0_words, .ref h0_sha, .ref h0_stream, .ref h0_aes, .ref h0_modes, .ref h0_gcm, .ref h0_generator, .ref h0_tests, .ref h0_message, .ref h0_secret, .int c_state, .int c_testsDone, .int c_faults, .int c_streamBegun])), (h0_aes, .inr (2, [.ref h0_aes_keys, .int c_aes_rounds_2])), (h0_aes_keys, .inl (cy 1, 60, .inl c_aes_keys_3)), (h0_buffer, .inl (cy 0, 512, .inl c_buffer)), (h0_modes, .inr (6, [.ref h0_aes, .ref h0_modes_block, .ref h0_modes_pad])), (h0_modes_block, .inl (cy 0, 16, .inl c_modes_block_5)), (h0_secret, .inl (cy 0, 80, .inl c_secret_6))] ++ zpO hP_o hP_k cP_kind cP_length cP_usage cP_role cP_uses_1 ++ zpK (cy 0) hP_k cPK) H → va_D A ([(h0, .inr (11, [.ref h0_buffer, .ref h0_slots, .ref h0_counters, .ref h0_officerPin, .ref h0_userPin, .ref h0_words, .ref h0_sha, .ref h0_stream, .ref h0_aes, .ref h0_modes, .ref h0_gcm, .ref h0_generator, .ref h0_tests, .ref h0_message, .ref h0_secret, .int c_state, .int c_testsDone, .int c_faults, .int c_streamBegun])), (h0_aes, .inr (2, [.ref h0_aes_keys, .int c_aes_rounds_2])), (h0_aes_keys, .inl (cy 1, 60, .inl c_aes_keys_3)), (h0_buffer, .inl (cy 0, 512, .inl c_buffer)), (h0_modes, .inr (6, [.ref h0_aes, .ref h0_modes_block, .ref h0_modes_pad])), (h0_modes_block, .inl (cy 0, 16, .inl c_modes_block_5)), (h0_secret, .inl (cy 0, 80, .inl c_secret_6))] ++ zpO hP_o hP_k cP_kind cP_length cP_usage cP_role cP_uses_1 ++ zpK (cy 0) hP_k cPK) → va_S A s.heap H locs → lv_has ls 5 [(0, .ref h0), (1, .ref (hP_o j1)), (3, .int p3)] → K_24 () = some (r_, c_aes_rounds', c_aes_keys', c_modes_block', c_secret', cP_kind', cP_length', cP_role', cP_usage', cP_uses', cPK') → GW H locs (F0 m 66 ls []) := by
    clear hf hl hP hD hS
    intro  H locs ls hP hD hS hl hf
    rw [eK_24] at hf
    clear eK_24
    refine hFr _ _ _ ?_
    refine lv_iconst (pc := 66) (v := (0 : Int32)) hx hb (zdt_at zt_X9_unwrapBytes_0 33 rfl) (by decide) ?_
    exact hTo _ _ _ (kK_8 _ H locs ls hP hD hS (lv_sub hl [0, 1, 2] rfl) hf)
  clear eK_24
  refine lv_if_eq (pc := 45) (tgt := 66) hx hb (zdt_at zt_X9_unwrapBytes_0 23 rfl) (by decide) (fun cn_ => ?t_25) (fun cn_ => ?f_26)
  case t_25 =>
    replace hf := zt_s cn_ hf
    clear cn_
    exact hTo _ _ _ (kK_24  H locs ls hP hD hS (lv_sub hl [0, 1, 3] rfl) hf)
  replace hf := ze_s cn_ hf
  clear cn_
  refine lv_aload_n (pc := 48) hx hb (zdt_at zt_X9_unwrapBytes_0 24 rfl) rfl (lv_at hl 0 rfl) ?_
  refine va_get (pc := 49) (D := D) (ci := 11) (v := .ref h0_secret) (C := RX9) (T := TX9) (N := 19) hx hb hts hcX9 hown hK hP 0 rfl rfl 14 (by decide) hw1 (fun _ h9 => h9) rfl (zdt_at zt_X9_unwrapBytes_0 25 rfl) ?_
  refine lv_iload_n (pc := 52) hx hb (zdt_at zt_X9_unwrapBytes_0 26 rfl) rfl (lv_at hl 3 rfl) ?_
  refine lv_bipush (pc := 53) (v := (16 : Int32)) hx hb (zdt_at zt_X9_unwrapBytes_0 27 rfl) (by decide) ?_
  refine lv_isub (pc := 55) hx hb (zdt_at zt_X9_unwrapBytes_0 28 rfl) ?_
  replace hf := zb_s hf
  obtain ⟨r_27, hc_, hf⟩ := hf
  refine zcs (pc := 56) (rv := (some (.int r_27))) (va_runS (As := [.ref h0_secret, .int (p3 - (16 : Int32))]) (rest := []) ⟨hx, hb, hml, hown, hts⟩ (c_X9_isWrappedHead l D cy tt H.size h0_secret 80 (p3 - (16 : Int32)) c_secret_6 r_27 hc_) (va_cwS 2 hts gX9_unwrapBytes_X9_isWrappedHead rfl rfl rfl (by decide +kernel) ⟨Nat.le_of_ble_eq_true rfl, Nat.le_of_ble_eq_true rfl⟩) ⟨zblind, zpre hE hS (hP.sub [6] rfl) (hD.sub [6] (by decide) rfl) (va_free hD hS hA [6] rfl)⟩ rfl rfl hl.1 rfl (lv_room (Nat.le_of_ble_eq_true rfl)) (zdt_at zt_X9_unwrapBytes_0 29 rfl) ⟨Nat.zero_le _, Nat.zero_le _⟩) ?_
  clear hc_
  refine W.eq (g2 := F0 m 59 ls [.int r_27]) rfl ?_
  refine lv_if_eq (pc := 59) (tgt := 66) hx hb (zdt_at zt_X9_unwrapBytes_0 30 rfl) (by decide) (fun cn_ => ?t_28) (fun cn_ => ?f_29)
  case t_28 =>
    replace hf := zt_s cn_ hf
    clear cn_
    exact hTo _ _ _ (kK_24  H locs ls hP hD hS (lv_sub hl [0, 1, 3] rfl) hf)
  replace hf := ze_s cn_ hf
  clear cn_
  refine lv_iconst (pc := 62) (v := (1 : Int32)) hx hb (zdt_at zt_X9_unwrapBytes_0 31 rfl) (by decide) ?_
  refine lv_goto (pc := 63) (tgt := 67) hx hb (zdt_at zt_X9_unwrapBytes_0 32 rfl) (by decide) ?_
  exact hTo _ _ _ (kK_8 _ H locs ls hP hD hS (lv_sub hl [0, 1, 3] rfl) hf)
def f_X9_unwrapAnswer (p1 : Int32) (p2 : Int32) (p3 : Int32) (c_state : Int32) (c_aes_rounds : Int32) (c_aes_keys : Nat → Int32) (c_buffer : Nat → Int32) (c_modes_block : Nat → Int32) (c_secret : Nat → Int32) (cP_kind : Nat → Int32) (cP_length : Nat → Int32) (cP_role : Nat → Int32) (cP_usage : Nat → Int32) (cP_uses : Nat → Int32) (cPK : Nat → Nat → Int32) : Option (Int32 × Int32 × (Nat → Int32) × (Nat → Int32) × (Nat → Int32) × (Nat → Int32) × (Nat → Int32) × (Nat → Int32) × (Nat → Int32) × (Nat → Int32) × (Nat → Nat → Int32)) :=
  (f_X9_loggedIn c_state).bind (fun r_1 => if r_1 = 0 then some ((-1 : Int32), c_aes_rounds, c_aes_keys, c_modes_block, c_secret, cP_kind, cP_length, cP_role, cP_usage, cP_uses, cPK) else (f_X9_isSlot p1).bind (fun r_4 => if r_4 = 0 then some ((-2 : Int32), c_aes_rounds, c_aes_keys, c_modes_block, c_secret, cP_kind, cP_length, cP_role, cP_usage, cP_uses, cPK) else (f_X9_isSlot p2).bind (fun r_7 => if r_7 = 0 then some ((-2 : Int32), c_aes_rounds, c_aes_keys, c_modes_block, c_secret, cP_kind, cP_length, cP_role, cP_usage, cP_uses, cPK) else if p3 < (24 : Int32) then some ((-2 : Int32), c_aes_rounds, c_aes_keys, c_modes_block, c_secret, cP_kind, cP_length, cP_role, cP_usage, cP_uses, cPK) else if (80 : Int32) < p3 then some ((-2 : Int32), c_aes_rounds, c_aes_keys, c_modes_block, c_secret, cP_kind, cP_length, cP_role, cP_usage, cP_uses, cPK) else zk (¬ (8 : Int32) = 0) (if (p3 - p3 / (8 : Int32) * (8 : Int32)) = 0 then zk (¬ (p2 < 0 ∨ 16 ≤ p2.toNatClampNeg)) ((f_X9_isForeign p2.toNatClampNeg c_state cP_kind cP_role).bind (fun r_17 => if r_17 = 0 then zk (¬ (p1 < 0 ∨ 16 ≤ p1.toNatClampNeg)) ((f_X8_isEmpty p1.toNatClampNeg cP_kind).bind (fun r_21 => if r_21 = 0 then some ((-4 : Int32), c_aes_rounds, c_aes_keys, c_modes_block, c_secret, cP_kind, cP_length, cP_role, cP_usage, cP_uses, cPK) else (f_X9_keyRefusal p2.toNatClampNeg (1 : Int32) (16 : Int32) c_state cP_kind cP_role cP_usage cP_uses).bind (fun r_24 => if r_24 = 0 then zk (¬ (p1 < 0 ∨ 16 ≤ p1.toNatClampNeg)) ((f_X9_unwrapBytes p1.toNatClampNeg p2.toNatClampNeg p3 c_state c_aes_rounds c_aes_keys c_buffer c_modes_block c_secret cP_kind cP_length cP_role cP_usage cP_uses cPK).bind (fun (r_28, c_aes_rounds_29, c_aes_keys_30, c_modes_block_31, c_secret_32, cP_kind_33, cP_length_34, cP_role_35, cP_usage_36, cP_uses_37, cPK_38) => some (r_28, c_aes_rounds_29, c_aes_keys_30, c_modes_block_31, c_secret_32, cP_kind_33, cP_length_34, cP_role_35, cP_usage_36, cP_uses_37, cPK_38))) else some (r_24, c_aes_rounds, c_aes_keys, c_modes_block, c_secret, cP_kind, cP_length, cP_role, cP_usage, cP_uses, cPK)))) else some ((-3 : Int32), c_aes_rounds, c_aes_keys, c_modes_block, c_secret, cP_kind, cP_length, cP_role, cP_usage, cP_uses, cPK))) else some ((-2 : Int32), c_aes_rounds, c_aes_keys, c_modes_block, c_secret, cP_kind, cP_length, cP_role, cP_usage, cP_uses, cPK)))))
set_option maxHeartbeats 4000000 in
set_option maxRecDepth 100000 in
theorem c_X9_unwrapAnswer (l : Launch) (D : va_G) (cy : Nat → ClassId) (tt : Nat → Nat) (sz : Nat) (h0 : Nat) (h0_buffer : Nat) (h0_slots : Nat) (h0_counters : Nat) (h0_officerPin : Nat) (h0_userPin : Nat) (h0_words : Nat) (h0_sha : Nat) (h0_stream : Nat) (h0_aes : Nat) (h0_modes : Nat) (h0_gcm : Nat) (h0_generator : Nat) (h0_tests : Nat) (h0_message : Nat) (h0_secret : Nat) (h0_aes_keys : Nat) (h0_modes_block : Nat) (h0_modes_pad : Nat) (hP_o : Nat → Nat) (hP_k : Nat → Nat) (p1 : Int32) (p2 : Int32) (p3 : Int32) (c_state : Int32) (c_aes_rounds : Int32) (c_aes_keys : Nat → Int32) (c_buffer : Nat → Int32) (c_modes_block : Nat → Int32) (c_secret : Nat → Int32) (cP_kind : Nat → Int32) (cP_length : Nat → Int32) (cP_role : Nat → Int32) (cP_usage : Nat → Int32) (cP_uses : Nat → Int32) (cPK : Nat → Nat → Int32) (c_testsDone : Int32) (c_faults : Int32) (c_streamBegun : Int32) (r_ : Int32) (c_aes_rounds' : Int32) (c_aes_keys' : Nat → Int32) (c_modes_block' : Nat → Int32) (c_secret' : Nat → Int32) (cP_kind' : Nat → Int32) (cP_length' : Nat → Int32) (cP_role' : Nat → Int32) (cP_usage' : Nat → Int32) (cP_uses' : Nat → Int32) (cPK' : Nat → Nat → Int32) (hf : f_X9_unwrapAnswer p1 p2 p3 c_state c_aes_rounds c_aes_keys c_buffer c_modes_block c_secret cP_kind cP_length cP_role cP_usage cP_uses cPK = some (r_, c_aes_rounds', c_aes_keys', c_modes_block', c_secret', cP_kind', cP_length', cP_role', cP_usage', cP_uses', cPK')) : Met l yX9_unwrapAnswer wsX9_unwrapAnswer ({ frames := 5, cells := 0, slots := 0, locals := 125 }) (zPc D cy tt sz [.ref h0, .int p1, .int p2, .int p3] ([(h0, .inr (11, [.ref h0_buffer, .ref h0_slots, .ref h0_counters, .ref h0_officerPin, .ref h0_userPin, .ref h0_words, .ref h0_sha, .ref h0_stream, .ref h0_aes, .ref h0_modes, .ref h0_gcm, .ref h0_generator, .ref h0_tests, .ref h0_message, .ref h0_secret, .int c_state, .int c_testsDone, .int c_faults, .int c_streamBegun])), (h0_aes, .inr (2, [.ref h0_aes_keys, .int c_aes_rounds])), (h0_aes_keys, .inl (cy 1, 60, .inl c_aes_keys)), (h0_buffer, .inl (cy 0, 512, .inl c_buffer)), (h0_modes, .inr (6, [.ref h0_aes, .ref h0_modes_block, .ref h0_modes_pad])), (h0_modes_block, .inl (cy 0, 16, .inl c_modes_block)), (h0_secret, .inl (cy 0, 80, .inl c_secret)), (h0_slots, .inl (cy 4, 16, .inr (.inr (.inr (.inr (fun j => some (hP_o j)))))))] ++ zpO hP_o hP_k cP_kind cP_length cP_usage cP_role cP_uses ++ zpK (cy 0) hP_k cPK)) (zQ D (some (.int r_)) ([(h0, .inr (11, [.ref h0_buffer, .ref h0_slots, .ref h0_counters, .ref h0_officerPin, .ref h0_userPin, .ref h0_words, .ref h0_sha, .ref h0_stream, .ref h0_aes, .ref h0_modes, .ref h0_gcm, .ref h0_generator, .ref h0_tests, .ref h0_message, .ref h0_secret, .int c_state, .int c_testsDone, .int c_faults, .int c_streamBegun])), (h0_aes, .inr (2, [.ref h0_aes_keys, .int c_aes_rounds'])), (h0_aes_keys, .inl (cy 1, 60, .inl c_aes_keys')), (h0_buffer, .inl (cy 0, 512, .inl c_buffer)), (h0_modes, .inr (6, [.ref h0_aes, .ref h0_modes_block, .ref h0_modes_pad])), (h0_modes_block, .inl (cy 0, 16, .inl c_modes_block')), (h0_secret, .inl (cy 0, 80, .inl c_secret')), (h0_slots, .inl (cy 4, 16, .inr (.inr (.inr (.inr (fun j => some (hP_o j)))))))] ++ zpO hP_o hP_k cP_kind' cP_length' cP_usage' cP_role' cP_uses' ++ zpK (cy 0) hP_k cPK') (va_A ([(h0, .inr (11, [.ref h0_buffer, .ref h0_slots, .ref h0_counters, .ref h0_officerPin, .ref h0_userPin, .ref h0_words, .ref h0_sha, .ref h0_stream, .ref h0_aes, .ref h0_modes, .ref h0_gcm, .ref h0_generator, .ref h0_tests, .ref h0_message, .ref h0_secret, .int c_state, .int c_testsDone, .int c_faults, .int c_streamBegun])), (h0_aes, .inr (2, [.ref h0_aes_keys, .int c_aes_rounds])), (h0_aes_keys, .inl (cy 1, 60, .inl c_aes_keys)), (h0_buffer, .inl (cy 0, 512, .inl c_buffer)), (h0_modes, .inr (6, [.ref h0_aes, .ref h0_modes_block, .ref h0_modes_pad])), (h0_modes_block, .inl (cy 0, 16, .inl c_modes_block)), (h0_secret, .inl (cy 0, 80, .inl c_secret)), (h0_slots, .inl (cy 4, 16, .inr (.inr (.inr (.inr (fun j => some (hP_o j)))))))] ++ zpO hP_o hP_k cP_kind cP_length cP_usage cP_role cP_uses ++ zpK (cy 0) hP_k cPK) sz)) 0 0 (va_A ([(h0, .inr (11, [.ref h0_buffer, .ref h0_slots, .ref h0_counters, .ref h0_officerPin, .ref h0_userPin, .ref h0_words, .ref h0_sha, .ref h0_stream, .ref h0_aes, .ref h0_modes, .ref h0_gcm, .ref h0_generator, .ref h0_tests, .ref h0_message, .ref h0_secret, .int c_state, .int c_testsDone, .int c_faults, .int c_streamBegun])), (h0_aes, .inr (2, [.ref h0_aes_keys, .int c_aes_rounds])), (h0_aes_keys, .inl (cy 1, 60, .inl c_aes_keys)), (h0_buffer, .inl (cy 0, 512, .inl c_buffer)), (h0_modes, .inr (6, [.ref h0_aes, .ref h0_modes_block, .ref h0_modes_pad])), (h0_modes_block, .inl (cy 0, 16, .inl c_modes_block)), (h0_secret, .inl (cy 0, 80, .inl c_secret)), (h0_slots, .inl (cy 4, 16, .inr (.inr (.inr (.inr (fun j => some (hP_o j)))))))] ++ zpO hP_o hP_k cP_kind cP_length cP_usage cP_role cP_uses ++ zpK (cy 0) hP_k cPK) sz) := by
  refine Met.ofW (cc := cX9_unwrapAnswer) (maxL := 6) (ret := (some .int)) (by decide) rfl ?_
  intro p e s m args below meth c s₁ B hml hv
  obtain ⟨rfl, rfl, hP, hD0, hE⟩ := hv
  have hx := B.exec
  have hb := B.bytes
  have hr := B.returns
  have hts := atoms_spec (ws := wsX9_unwrapAnswer) B.pre
  have hown : s.vm.findClass RX9 = some m.cls := findClass_of_methodNamed B.named
  have hlocks := B.notSynchronized
  clear B
  have hD := hD0.self (sz := s.heap.size)
  generalize hAe : va_A ([(h0, .inr (11, [.ref h0_buffer, .ref h0_slots, .ref h0_counters, .ref h0_officerPin, .ref h0_userPin, .ref h0_words, .ref h0_sha, .ref h0_stream, .ref h0_aes, .ref h0_modes, .ref h0_gcm, .ref h0_generator, .ref h0_tests, .ref h0_message, .ref h0_secret, .int c_state, .int c_testsDone, .int c_faults, .int c_streamBegun])), (h0_aes, .inr (2, [.ref h0_aes_keys, .int c_aes_rounds])), (h0_aes_keys, .inl (cy 1, 60, .inl c_aes_keys)), (h0_buffer, .inl (cy 0, 512, .inl c_buffer)), (h0_modes, .inr (6, [.ref h0_aes, .ref h0_modes_block, .ref h0_modes_pad])), (h0_modes_block, .inl (cy 0, 16, .inl c_modes_block)), (h0_secret, .inl (cy 0, 80, .inl c_secret)), (h0_slots, .inl (cy 4, 16, .inr (.inr (.inr (.inr (fun j => some (hP_o j)))))))] ++ zpO hP_o hP_k cP_kind cP_length cP_usage cP_role cP_uses ++ zpK (cy 0) hP_k cPK) s.heap.size = A at hD hE ⊢
  have hA : ∀ q : Nat, s.heap.size ≤ q → A q := fun q h => by rw [← hAe]; exact Or.inr h
  clear hAe hD0
  have hS : va_S A s.heap s.heap [] := va_S.rf
  have hK := hE.1
  have hw0 := hts (.fieldLink RX9 15 "SealedModule" "slots" "[LSealedModule$Slot;") (by decide +kernel)
  have hcX9 : ∀ w ∈ u_ws RX9 TX9 19, w ∈ wsX9_unwrapAnswer := (fun _ h => List.mem_cons_of_mem _ (List.mem_append_left _ (List.mem_append_left _ (List.mem_append_left _ (List.mem_append_right _ h)))))
  have hl := lv_entry ([.ref h0, .int p1, .int p2, .int p3]) (n := 6) (Nat.le_of_ble_eq_true rfl)
  rw [lg_entry_eq]
  generalize (lg_sl ([.ref h0, .int p1, .int p2, .int p3]) ++ List.replicate (6 - (lg_sl ([.ref h0, .int p1, .int p2, .int p3])).length) Slot.unset).toArray = ls at hl ⊢
  replace hl : lv_has ls 6 [(0, .ref h0), (1, .int p1), (2, .int p2), (3, .int p3)] := hl
  unfold f_X9_unwrapAnswer at hf
  refine zgo (fun GW hTo hFr => ?_)
  refine hFr _ _ _ ?_
  obtain ⟨H, hHe⟩ : ∃ H, H = s.heap := ⟨_, rfl⟩
  obtain ⟨locs, hLe⟩ : ∃ L : List Loc, L = [] := ⟨_, rfl⟩
  rw [← hHe] at hP
  replace hS : va_S A s.heap H locs := by rw [hHe, hLe]; exact hS
  refine zat hHe.symm hLe.symm ?_
  clear hHe hLe
  refine lv_aload_n (pc := 0) hx hb (zdt_at zt_X9_unwrapAnswer_0 0 rfl) rfl (lv_at hl 0 rfl) ?_
  replace hf := zb_s hf
  obtain ⟨r_1, hc_, hf⟩ := hf
  refine zcs (pc := 1) (rv := (some (.int r_1))) (va_runV (As := []) (rest := []) ⟨hx, hb, hml, hown, hts⟩ (c_X9_loggedIn l D cy tt H.size h0 h0_buffer h0_slots h0_counters h0_officerPin h0_userPin h0_words h0_sha h0_stream h0_aes h0_modes h0_gcm h0_generator h0_tests h0_message h0_secret c_state c_testsDone c_faults c_streamBegun r_1 hc_) (cwV 0 hts gX9_unwrapAnswer_X9_loggedIn rfl rfl rfl (by decide +kernel) ⟨Nat.le_of_ble_eq_true rfl, Nat.le_of_ble_eq_true rfl⟩) ⟨zblind, va_recv hK hP (ci := 11) (q0 := 0) rfl rfl, zpre hE hS (hP.sub [0] rfl) (hD.sub [0] (by decide) rfl) (va_free hD hS hA [0] rfl)⟩ rfl rfl hl.1 rfl (lv_room (Nat.le_of_ble_eq_true rfl)) (zdt_at zt_X9_unwrapAnswer_0 1 rfl) ⟨Nat.zero_le _, Nat.zero_le _⟩) ?_
  clear hc_
  refine W.eq (g2 := F0 m 4 ls [.int r_1]) rfl ?_
  refine lv_if_ne (pc := 4) (tgt := 9) hx hb (zdt_at zt_X9_unwrapAnswer_0 2 rfl) (by decide) (fun cn_ => ?t_2) (fun cn_ => ?f_3)
  case f_3 =>
    replace hf := zt_s cn_ hf
    clear cn_
    refine lv_iconst (pc := 7) (v := (-1 : Int32)) hx hb (zdt_at zt_X9_unwrapAnswer_0 3 rfl) (by decide) ?_
    cases hf
    exact W.iret (pc := 8) hx hb hr (fun t ht hW => ⟨rfl, ⟨by rw [ht]; exact hP, hD⟩, hS.F ht⟩) hS.2.2 (zdt_at zt_X9_unwrapAnswer_0 4 rfl)
  replace hf := ze_s cn_ hf
  clear cn_
  refine lv_iload_n (pc := 9) hx hb (zdt_at zt_X9_unwrapAnswer_0 5 rfl) rfl (lv_at hl 1 rfl) ?_
  replace hf := zb_s hf
  obtain ⟨r_4, hc_, hf⟩ := hf
  refine zcs (pc := 10) (rv := (some (.int r_4))) (va_runS (As := [.int p1]) (rest := []) ⟨hx, hb, hml, hown, hts⟩ (c_X9_isSlot l D cy tt H.size p1 r_4 hc_) (va_cwS 1 hts gX9_unwrapAnswer_X9_isSlot rfl rfl rfl (by decide +kernel) ⟨Nat.le_of_ble_eq_true rfl, Nat.le_of_ble_eq_true rfl⟩) ⟨zblind, zpre hE hS (hP.sub [] rfl) (hD.sub [] (by decide) rfl) (va_free hD hS hA [] rfl)⟩ rfl rfl hl.1 rfl (lv_room (Nat.le_of_ble_eq_true rfl)) (zdt_at zt_X9_unwrapAnswer_0 6 rfl) ⟨Nat.zero_le _, Nat.zero_le _⟩) ?_
  clear hc_
  refine W.eq (g2 := F0 m 13 ls [.int r_4]) rfl ?_
  refine lv_if_eq (pc := 13) (tgt := 23) hx hb (zdt_at zt_X9_unwrapAnswer_0 7 rfl) (by decide) (fun cn_ => ?t_5) (fun cn_ => ?f_6)
  case t_5 =>
    replace hf := zt_s cn_ hf
    clear cn_
    refine lv_bipush (pc := 23) (v := (-2 : Int32)) hx hb (zdt_at zt_X9_unwrapAnswer_0 11 rfl) (by decide) ?_
    cases hf
    exact W.iret (pc := 25) hx hb hr (fun t ht hW => ⟨rfl, ⟨by rw [ht]; exact hP, hD⟩, hS.F ht⟩) hS.2.2 (zdt_at zt_X9_unwrapAnswer_0 12 rfl)
  replace hf := ze_s cn_ hf
  clear cn_
  refine lv_iload_n (pc := 16) hx hb (zdt_at zt_X9_unwrapAnswer_0 8 rfl) rfl (lv_at hl 2 rfl) ?_
  replace hf := zb_s hf
  obtain ⟨r_7, hc_, hf⟩ := hf
  refine zcs (pc := 17) (rv := (some (.int r_7))) (va_runS (As := [.int p2]) (rest := []) ⟨hx, hb, hml, hown, hts⟩ (c_X9_isSlot l D cy tt H.size p2 r_7 hc_) (va_cwS 1 hts gX9_unwrapAnswer_X9_isSlot rfl rfl rfl (by decide +kernel) ⟨Nat.le_of_ble_eq_true rfl, Nat.le_of_ble_eq_true rfl⟩) ⟨zblind, zpre hE hS (hP.sub [] rfl) (hD.sub [] (by decide) rfl) (va_free hD hS hA [] rfl)⟩ rfl rfl hl.1 rfl (lv_room (Nat.le_of_ble_eq_true rfl)) (zdt_at zt_X9_unwrapAnswer_0 9 rfl) ⟨Nat.zero_le _, Nat.zero_le _⟩) ?_
  clear hc_
  refine W.eq (g2 := F0 m 20 ls [.int r_7]) rfl ?_
  refine lv_if_ne (pc := 20) (tgt := 26) hx hb (zdt_at zt_X9_unwrapAnswer_0 10 rfl) (by decide) (fun cn_ => ?t_8) (fun cn_ => ?f_9)
  case f_9 =>
    replace hf := zt_s cn_ hf
    clear cn_
    refine lv_bipush (pc := 23) (v := (-2 : Int32)) hx hb (zdt_at zt_X9_unwrapAnswer_0 11 rfl) (by decide) ?_
    cases hf
    exact W.iret (pc := 25) hx hb hr (fun t ht hW => ⟨rfl, ⟨by rw [ht]; exact hP, hD⟩, hS.F ht⟩) hS.2.2 (zdt_at zt_X9_unwrapAnswer_0 12 rfl)
  replace hf := ze_s cn_ hf
  clear cn_
  refine lv_iload_n (pc := 26) hx hb (zdt_at zt_X9_unwrapAnswer_0 13 rfl) rfl (lv_at hl 3 rfl) ?_
  refine lv_bipush (pc := 27) (v := (24 : Int32)) hx hb (zdt_at zt_X9_unwrapAnswer_0 14 rfl) (by decide) ?_
  refine lv_icmp_lt (pc := 29) (tgt := 45) hx hb (zdt_at zt_X9_unwrapAnswer_0 15 rfl) (by decide) (fun cn_ => ?t_10) (fun cn_ => ?f_11)
  case t_10 =>
    replace hf := zt_s cn_ hf
    clear cn_
    refine lv_bipush (pc := 45) (v := (-2 : Int32)) hx hb (zdt_at zt_X9_unwrapAnswer_0 23 rfl) (by decide) ?_
    cases hf
    exact W.iret (pc := 47) hx hb hr (fun t ht hW => ⟨rfl, ⟨by rw [ht]; exact hP, hD⟩, hS.F ht⟩) hS.2.2 (zdt_at zt_X9_unwrapAnswer_0 24 rfl)
  replace hf := ze_s cn_ hf
  clear cn_
  refine lv_iload_n (pc := 32) hx hb (zdt_at zt_X9_unwrapAnswer_0 16 rfl) rfl (lv_at hl 3 rfl) ?_
  refine lv_bipush (pc := 33) (v := (80 : Int32)) hx hb (zdt_at zt_X9_unwrapAnswer_0 17 rfl) (by decide) ?_
  refine lv_icmp_gt (pc := 35) (tgt := 45) hx hb (zdt_at zt_X9_unwrapAnswer_0 18 rfl) (by decide) (fun cn_ => ?t_12) (fun cn_ => ?f_13)
  case t_12 =>
    replace hf := zt_s cn_ hf
    clear cn_
    refine lv_bipush (pc := 45) (v := (-2 : Int32)) hx hb (zdt_at zt_X9_unwrapAnswer_0 23 rfl) (by decide) ?_
    cases hf
    exact W.iret (pc := 47) hx hb hr (fun t ht hW => ⟨rfl, ⟨by rw [ht]; exact hP, hD⟩, hS.F ht⟩) hS.2.2 (zdt_at zt_X9_unwrapAnswer_0 24 rfl)
  replace hf := ze_s cn_ hf
  clear cn_
  refine lv_iload_n (pc := 38) hx hb (zdt_at zt_X9_unwrapAnswer_0 19 rfl) rfl (lv_at hl 3 rfl) ?_
  refine lv_bipush (pc := 39) (v := (8 : Int32)) hx hb (zdt_at zt_X9_unwrapAnswer_0 20 rfl) (by decide) ?_
  replace hf := zk_s hf
  refine lv_irem (pc := 41) hx hb (zdt_at zt_X9_unwrapAnswer_0 21 rfl) hf.1 ?_
  replace hf := hf.2
  refine lv_if_eq (pc := 42) (tgt := 48) hx hb (zdt_at zt_X9_unwrapAnswer_0 22 rfl) (by decide) (fun cn_ => ?t_14) (fun cn_ => ?f_15)
  case f_15 =>
    replace hf := ze_s cn_ hf
    clear cn_
    refine lv_bipush (pc := 45) (v := (-2 : Int32)) hx hb (zdt_at zt_X9_unwrapAnswer_0 23 rfl) (by decide) ?_
    cases hf
    exact W.iret (pc := 47) hx hb hr (fun t ht hW => ⟨rfl, ⟨by rw [ht]; exact hP, hD⟩, hS.F ht⟩) hS.2.2 (zdt_at zt_X9_unwrapAnswer_0 24 rfl)
  replace hf := zt_s cn_ hf
  clear cn_
  refine lv_aload_n (pc := 48) hx hb (zdt_at zt_X9_unwrapAnswer_0 25 rfl) rfl (lv_at hl 0 rfl) ?_
  refine va_get (pc := 49) (D := D) (ci := 11) (v := .ref h0_slots) (C := RX9) (T := TX9) (N := 19) hx hb hts hcX9 hown hK hP 0 rfl rfl 1 (by decide) hw0 (fun _ h9 => h9) rfl (zdt_at zt_X9_unwrapAnswer_0 26 rfl) ?_
  refine lv_iload_n (pc := 52) hx hb (zdt_at zt_X9_unwrapAnswer_0 27 rfl) rfl (lv_at hl 2 rfl) ?_
  replace hf := zk_s hf
  have hj_16 : p2.toNatClampNeg < 16 := Nat.not_le.mp fun q => hf.1 (Or.inr q)
  refine va_aldq (pc := 53) (C := RX8) hx hb hK hP 7 4 rfl rfl hf.1 (zdt_at zt_X9_unwrapAnswer_0 28 rfl) ?_
  replace hf := hf.2
  refine lv_astore (pc := 54) (lv' := [(4, .ref (hP_o p2.toNatClampNeg)), (0, .ref h0), (1, .int p1), (2, .int p2), (3, .int p3)]) hx hb (zdt_at zt_X9_unwrapAnswer_0 29 rfl) hl (by decide) rfl ?_
  clear hl
  intro ls hl
  refine lv_aload_n (pc := 56) hx hb (zdt_at zt_X9_unwrapAnswer_0 30 rfl) rfl (lv_at hl 1 rfl) ?_
  refine lv_aload (pc := 57) hx hb (zdt_at zt_X9_unwrapAnswer_0 31 rfl) (lv_at hl 0 rfl) ?_
  replace hf := zb_s hf
  obtain ⟨r_17, hc_, hf⟩ := hf
  refine zcs (pc := 59) (rv := (some (.int r_17))) (va_runV (As := [.ref (hP_o p2.toNatClampNeg)]) (rest := []) ⟨hx, hb, hml, hown, hts⟩ (c_X9_isForeign l D cy tt H.size h0 h0_buffer h0_slots h0_counters h0_officerPin h0_userPin h0_words h0_sha h0_stream h0_aes h0_modes h0_gcm h0_generator h0_tests h0_message h0_secret hP_o hP_k p2.toNatClampNeg c_state cP_kind cP_role c_testsDone c_faults c_streamBegun cP_length cP_usage cP_uses r_17 hj_16 hc_) (cwV 1 hts gX9_unwrapAnswer_X9_isForeign rfl rfl rfl (by decide +kernel) ⟨Nat.le_of_ble_eq_true rfl, Nat.le_of_ble_eq_true rfl⟩) ⟨zblind, va_recv hK hP (ci := 11) (q0 := 0) rfl rfl, zpre hE hS (hP.sub [0, 8, 9, 10, 11, 12, 13, 14, 15, 16, 17, 18, 19, 20, 21, 22, 23] rfl) (hD.sub [0, 8, 9, 10, 11, 12, 13, 14, 15, 16, 17, 18, 19, 20, 21, 22, 23] (by decide) rfl) (va_free hD hS hA [0, 8, 9, 10, 11, 12, 13, 14, 15, 16, 17, 18, 19, 20, 21, 22, 23] rfl)⟩ rfl rfl hl.1 rfl (lv_room (Nat.le_of_ble_eq_true rfl)) (zdt_at zt_X9_unwrapAnswer_0 32 rfl) ⟨Nat.zero_le _, Nat.zero_le _⟩) ?_
  clear hc_
  refine W.eq (g2 := F0 m 62 ls [.int r_17]) rfl ?_
  refine lv_if_eq (pc := 62) (tgt := 68) hx hb (zdt_at zt_X9_unwrapAnswer_0 33 rfl) (by decide) (fun cn_ => ?t_18) (fun cn_ => ?f_19)
  case f_19 =>
    replace hf := ze_s cn_ hf
    clear cn_
    refine lv_bipush (pc := 65) (v := (-3 : Int32)) hx hb (zdt_at zt_X9_unwrapAnswer_0 34 rfl) (by decide) ?_
    cases hf
    exact W.iret (pc := 67) hx hb hr (fun t ht hW => ⟨rfl, ⟨by rw [ht]; exact hP, hD⟩, hS.F ht⟩) hS.2.2 (zdt_at zt_X9_unwrapAnswer_0 35 rfl)
  replace hf := zt_s cn_ hf
  clear cn_
  refine lv_aload_n (pc := 68) hx hb (zdt_at zt_X9_unwrapAnswer_0 36 rfl) rfl (lv_at hl 1 rfl) ?_
  refine va_get (pc := 69) (D := D) (ci := 11) (v := .ref h0_slots) (C := RX9) (T := TX9) (N := 19) hx hb hts hcX9 hown hK hP 0 rfl rfl 1 (by decide) hw0 (fun _ h9 => h9) rfl (zdt_at zt_X9_unwrapAnswer_0 37 rfl) ?_
  refine lv_iload_n (pc := 72) hx hb (zdt_at zt_X9_unwrapAnswer_0 38 rfl) rfl (lv_at hl 2 rfl) ?_
  replace hf := zk_s hf
  have hj_20 : p1.toNatClampNeg < 16 := Nat.not_le.mp fun q => hf.1 (Or.inr q)
  refine va_aldq (pc := 73) (C := RX8) hx hb hK hP 7 4 rfl rfl hf.1 (zdt_at zt_X9_unwrapAnswer_0 39 rfl) ?_
  replace hf := hf.2
  replace hf := zb_s hf
  obtain ⟨r_21, hc_, hf⟩ := hf
  refine zcs (pc := 74) (rv := (some (.int r_21))) (va_runV (As := []) (rest := []) ⟨hx, hb, hml, hown, hts⟩ (c_X8_isEmpty l D cy tt H.size hP_o hP_k p1.toNatClampNeg cP_kind cP_length cP_usage cP_role cP_uses r_21 hj_20 hc_) (cwV 0 hts gX9_unwrapAnswer_X8_isEmpty rfl rfl rfl (by decide +kernel) ⟨Nat.le_of_ble_eq_true rfl, Nat.le_of_ble_eq_true rfl⟩) ⟨zblind, va_recv hK hP (ci := 10) (q0 := (8 + p1.toNatClampNeg)) rfl (zpO_getK (X := [(h0, .inr (11, [.ref h0_buffer, .ref h0_slots, .ref h0_counters, .ref h0_officerPin, .ref h0_userPin, .ref h0_words, .ref h0_sha, .ref h0_stream, .ref h0_aes, .ref h0_modes, .ref h0_gcm, .ref h0_generator, .ref h0_tests, .ref h0_message, .ref h0_secret, .int c_state, .int c_testsDone, .int c_faults, .int c_streamBegun])), (h0_aes, .inr (2, [.ref h0_aes_keys, .int c_aes_rounds])), (h0_aes_keys, .inl (cy 1, 60, .inl c_aes_keys)), (h0_buffer, .inl (cy 0, 512, .inl c_buffer)), (h0_modes, .inr (6, [.ref h0_aes, .ref h0_modes_block, .ref h0_modes_pad])), (h0_modes_block, .inl (cy 0, 16, .inl c_modes_block)), (h0_secret, .inl (cy 0, 80, .inl c_secret)), (h0_slots, .inl (cy 4, 16, .inr (.inr (.inr (.inr (fun j => some (hP_o j)))))))]) (n := 8) rfl hj_20), zpre hE hS (hP.sub [8, 9, 10, 11, 12, 13, 14, 15, 16, 17, 18, 19, 20, 21, 22, 23] rfl) (hD.sub [8, 9, 10, 11, 12, 13, 14, 15, 16, 17, 18, 19, 20, 21, 22, 23] (by decide) rfl) (va_free hD hS hA [8, 9, 10, 11, 12, 13, 14, 15, 16, 17, 18, 19, 20, 21, 22, 23] rfl)⟩ rfl rfl hl.1 rfl (lv_room (Nat.le_of_ble_eq_true rfl)) (zdt_at zt_X9_unwrapAnswer_0 40 rfl) ⟨Nat.zero_le _, Nat.zero_le _⟩) ?_
  clear hc_
  refine W.eq (g2 := F0 m 77 ls [.int r_21]) rfl ?_
  refine lv_if_ne (pc := 77) (tgt := 83) hx hb (zdt_at zt_X9_unwrapAnswer_0 41 rfl) (by decide) (fun cn_ => ?t_22) (fun cn_ => ?f_23)
  case f_23 =>
    replace hf := zt_s cn_ hf
    clear cn_
    refine lv_bipush (pc := 80) (v := (-4 : Int32)) hx hb (zdt_at zt_X9_unwrapAnswer_0 42 rfl) (by decide) ?_
    cases hf
    exact W.iret (pc := 82) hx hb hr (fun t ht hW => ⟨rfl, ⟨by rw [ht]; exact hP, hD⟩, hS.F ht⟩) hS.2.2 (zdt_at zt_X9_unwrapAnswer_0 43 rfl)
  replace hf := ze_s cn_ hf
  clear cn_
  refine lv_aload_n (pc := 83) hx hb (zdt_at zt_X9_unwrapAnswer_0 44 rfl) rfl (lv_at hl 1 rfl) ?_
  refine lv_aload (pc := 84) hx hb (zdt_at zt_X9_unwrapAnswer_0 45 rfl) (lv_at hl 0 rfl) ?_
  refine lv_iconst (pc := 86) (v := (1 : Int32)) hx hb (zdt_at zt_X9_unwrapAnswer_0 46 rfl) (by decide) ?_
  refine lv_bipush (pc := 87) (v := (16 : Int32)) hx hb (zdt_at zt_X9_unwrapAnswer_0 47 rfl) (by decide) ?_
  replace hf := zb_s hf
  obtain ⟨r_24, hc_, hf⟩ := hf
  refine zcs (pc := 89) (rv := (some (.int r_24))) (va_runV (As := [.ref (hP_o p2.toNatClampNeg), .int (1 : Int32), .int (16 : Int32)]) (rest := []) ⟨hx, hb, hml, hown, hts⟩ (c_X9_keyRefusal l D cy tt H.size h0 h0_buffer h0_slots h0_counters h0_officerPin h0_userPin h0_words h0_sha h0_stream h0_aes h0_modes h0_gcm h0_generator h0_tests h0_message h0_secret hP_o hP_k p2.toNatClampNeg (1 : Int32) (16 : Int32) c_state cP_kind cP_role cP_usage cP_uses c_testsDone c_faults c_streamBegun cP_length r_24 hj_16 hc_) (cwV 3 hts gX9_unwrapAnswer_X9_keyRefusal rfl rfl rfl (by decide +kernel) ⟨Nat.le_of_ble_eq_true rfl, Nat.le_of_ble_eq_true rfl⟩) ⟨zblind, va_recv hK hP (ci := 11) (q0 := 0) rfl rfl, zpre hE hS (hP.sub [0, 8, 9, 10, 11, 12, 13, 14, 15, 16, 17, 18, 19, 20, 21, 22, 23] rfl) (hD.sub [0, 8, 9, 10, 11, 12, 13, 14, 15, 16, 17, 18, 19, 20, 21, 22, 23] (by decide) rfl) (va_free hD hS hA [0, 8, 9, 10, 11, 12, 13, 14, 15, 16, 17, 18, 19, 20, 21, 22, 23] rfl)⟩ rfl rfl hl.1 rfl (lv_room (Nat.le_of_ble_eq_true rfl)) (zdt_at zt_X9_unwrapAnswer_0 48 rfl) ⟨Nat.zero_le _, Nat.zero_le _⟩) ?_
  clear hc_
  refine W.eq (g2 := F0 m 92 ls [.int r_24]) rfl ?_
  refine lv_istore (pc := 92) (lv' := [(5, .int r_24), (4, .ref (hP_o p2.toNatClampNeg)), (0, .ref h0), (1, .int p1), (2, .int p2), (3, .int p3)]) hx hb (zdt_at zt_X9_unwrapAnswer_0 49 rfl) hl (by decide) rfl ?_
  clear hl
  intro ls hl
  refine lv_iload (pc := 94) hx hb (zdt_at zt_X9_unwrapAnswer_0 50 rfl) (lv_at hl 0 rfl) ?_
  refine lv_if_eq (pc := 96) (tgt := 102) hx hb (zdt_at zt_X9_unwrapAnswer_0 51 rfl) (by decide) (fun cn_ => ?t_25) (fun cn_ => ?f_26)
  case f_26 =>
    replace hf := ze_s cn_ hf
    clear cn_
    refine lv_iload (pc := 99) hx hb (zdt_at zt_X9_unwrapAnswer_0 52 rfl) (lv_at hl 0 rfl) ?_
    cases hf
    exact W.iret (pc := 101) hx hb hr (fun t ht hW => ⟨rfl, ⟨by rw [ht]; exact hP, hD⟩, hS.F ht⟩) hS.2.2 (zdt_at zt_X9_unwrapAnswer_0 53 rfl)
  replace hf := zt_s cn_ hf
  clear cn_
  refine lv_aload_n (pc := 102) hx hb (zdt_at zt_X9_unwrapAnswer_0 54 rfl) rfl (lv_at hl 2 rfl) ?_
  refine lv_aload_n (pc := 103) hx hb (zdt_at zt_X9_unwrapAnswer_0 55 rfl) rfl (lv_at hl 2 rfl) ?_
  refine va_get (pc := 104) (D := D) (ci := 11) (v := .ref h0_slots) (C := RX9) (T := TX9) (N := 19) hx hb hts hcX9 hown hK hP 0 rfl rfl 1 (by decide) hw0 (fun _ h9 => h9) rfl (zdt_at zt_X9_unwrapAnswer_0 56 rfl) ?_
  refine lv_iload_n (pc := 107) hx hb (zdt_at zt_X9_unwrapAnswer_0 57 rfl) rfl (lv_at hl 3 rfl) ?_
  replace hf := zk_s hf
  have hj_27 : p1.toNatClampNeg < 16 := Nat.not_le.mp fun q => hf.1 (Or.inr q)
  refine va_aldq (pc := 108) (C := RX8) hx hb hK hP 7 4 rfl rfl hf.1 (zdt_at zt_X9_unwrapAnswer_0 58 rfl) ?_
  replace hf := hf.2
  refine lv_aload (pc := 109) hx hb (zdt_at zt_X9_unwrapAnswer_0 59 rfl) (lv_at hl 1 rfl) ?_
  refine lv_iload_n (pc := 111) hx hb (zdt_at zt_X9_unwrapAnswer_0 60 rfl) rfl (lv_at hl 5 rfl) ?_
  replace hf := zb_s hf
  obtain ⟨⟨r_28, c_aes_rounds_29, c_aes_keys_30, c_modes_block_31, c_secret_32, cP_kind_33, cP_length_34, cP_role_35, cP_usage_36, cP_uses_37, cPK_38⟩, hc_, hf⟩ := hf
  refine zcm2 (pc := 112) (rv := (some (.int r_28))) (va_runV (As := [.ref (hP_o p1.toNatClampNeg), .ref (hP_o p2.toNatClampNeg), .int p3]) (rest := []) ⟨hx, hb, hml, hown, hts⟩ (c_X9_unwrapBytes l D cy tt H.size h0 h0_buffer h0_slots h0_counters h0_officerPin h0_userPin h0_words h0_sha h0_stream h0_aes h0_modes h0_gcm h0_generator h0_tests h0_message h0_secret h0_aes_keys h0_modes_block h0_modes_pad hP_o hP_k p1.toNatClampNeg p2.toNatClampNeg p3 c_state c_aes_rounds c_aes_keys c_buffer c_modes_block c_secret cP_kind cP_length cP_role cP_usage cP_uses cPK c_testsDone c_faults c_streamBegun r_28 c_aes_rounds_29 c_aes_keys_30 c_modes_block_31 c_secret_32 cP_kind_33 cP_length_34 cP_role_35 cP_usage_36 cP_uses_37 cPK_38 hj_27 hj_16 hc_) (cwV 3 hts gX9_unwrapAnswer_X9_unwrapBytes rfl rfl rfl (by decide +kernel) ⟨Nat.le_of_ble_eq_true rfl, Nat.le_of_ble_eq_true rfl⟩) ⟨zblind, va_recv hK hP (ci := 11) (q0 := 0) rfl rfl, zpre hE hS (hP.sub [0, 1, 2, 3, 4, 5, 6, 8, 9, 10, 11, 12, 13, 14, 15, 16, 17, 18, 19, 20, 21, 22, 23, 24, 25, 26, 27, 28, 29, 30, 31, 32, 33, 34, 35, 36, 37, 38, 39] rfl) (hD.sub [0, 1, 2, 3, 4, 5, 6, 8, 9, 10, 11, 12, 13, 14, 15, 16, 17, 18, 19, 20, 21, 22, 23, 24, 25, 26, 27, 28, 29, 30, 31, 32, 33, 34, 35, 36, 37, 38, 39] (by decide) rfl) (va_free hD hS hA [0, 1, 2, 3, 4, 5, 6, 8, 9, 10, 11, 12, 13, 14, 15, 16, 17, 18, 19, 20, 21, 22, 23, 24, 25, 26, 27, 28, 29, 30, 31, 32, 33, 34, 35, 36, 37, 38, 39] rfl)⟩ rfl rfl hl.1 rfl (lv_room (Nat.le_of_ble_eq_true rfl)) (zdt_at zt_X9_unwrapAnswer_0 61 rfl) ⟨Nat.zero_le _, Nat.zero_le _⟩) hS hP hD (va_free hD hS hA [0, 1, 2, 3, 4, 5, 6, 8, 9, 10, 11, 12, 13, 14, 15, 16, 17, 18, 19, 20, 21, 22, 23, 24, 25, 26, 27, 28, 29, 30, 31, 32, 33, 34, 35, 36, 37, 38, 39] rfl) [0, 1, 2, 3, 4, 5, 6, 8, 9, 10, 11, 12, 13, 14, 15, 16, 17, 18, 19, 20, 21, 22, 23, 24, 25, 26, 27, 28, 29, 30, 31, 32, 33, 34, 35, 36, 37, 38, 39] rfl (by decide) rfl ?_
  clear hP hD hS hc_
  intro H locs hP hD hS
  replace hP : va_P D vwCl ([(h0, .inr (11, [.ref h0_buffer, .ref h0_slots, .ref h0_counters, .ref h0_officerPin, .ref h0_userPin, .ref h0_words, .ref h0_sha, .ref h0_stream, .ref h0_aes, .ref h0_modes, .ref h0_gcm, .ref h0_generator, .ref h0_tests, .ref h0_message, .ref h0_secret, .int c_state, .int c_testsDone, .int c_faults, .int c_streamBegun])), (h0_aes, .inr (2, [.ref h0_aes_keys, .int c_aes_rounds_29])), (h0_aes_keys, .inl (cy 1, 60, .inl c_aes_keys_30)), (h0_buffer, .inl (cy 0, 512, .inl c_buffer)), (h0_modes, .inr (6, [.ref h0_aes, .ref h0_modes_block, .ref h0_modes_pad])), (h0_modes_block, .inl (cy 0, 16, .inl c_modes_block_31)), (h0_secret, .inl (cy 0, 80, .inl c_secret_32)), (h0_slots, .inl (cy 4, 16, .inr (.inr (.inr (.inr (fun j => some (hP_o j)))))))] ++ zpO hP_o hP_k cP_kind_33 cP_length_34 cP_usage_36 cP_role_35 cP_uses_37 ++ zpK (cy 0) hP_k cPK_38) H := hP
  replace hD : va_D A ([(h0, .inr (11, [.ref h0_buffer, .ref h0_slots, .ref h0_counters, .ref h0_officerPin, .ref h0_userPin, .ref h0_words, .ref h0_sha, .ref h0_stream, .ref h0_aes, .ref h0_modes, .ref h0_gcm, .ref h0_generator, .ref h0_tests, .ref h0_message, .ref h0_secret, .int c_state, .int c_testsDone, .int c_faults, .int c_streamBegun])), (h0_aes, .inr (2, [.ref h0_aes_keys, .int c_aes_rounds_29])), (h0_aes_keys, .inl (cy 1, 60, .inl c_aes_keys_30)), (h0_buffer, .inl (cy 0, 512, .inl c_buffer)), (h0_modes, .inr (6, [.ref h0_aes, .ref h0_modes_block, .ref h0_modes_pad])), (h0_modes_block, .inl (cy 0, 16, .inl c_modes_block_31)), (h0_secret, .inl (cy 0, 80, .inl c_secret_32)), (h0_slots, .inl (cy 4, 16, .inr (.inr (.inr (.inr (fun j => some (hP_o j)))))))] ++ zpO hP_o hP_k cP_kind_33 cP_length_34 cP_usage_36 cP_role_35 cP_uses_37 ++ zpK (cy 0) hP_k cPK_38) := hD
  refine W.eq (g2 := F0 m 115 ls [.int r_28]) rfl ?_
  cases hf
  exact W.iret (pc := 115) hx hb hr (fun t ht hW => ⟨rfl, ⟨by rw [ht]; exact hP, hD⟩, hS.F ht⟩) hS.2.2 (zdt_at zt_X9_unwrapAnswer_0 62 rfl)
def f_X9_unwrap (p1 : Int32) (p2 : Int32) (p3 : Int32) (c_state : Int32) (c_aes_rounds : Int32) (c_aes_keys : Nat → Int32) (c_buffer : Nat → Int32) (c_counters : Nat → Int32) (c_modes_block : Nat → Int32) (c_secret : Nat → Int32) (cP_kind : Nat → Int32) (cP_length : Nat → Int32) (cP_role : Nat → Int32) (cP_usage : Nat → Int32) (cP_uses : Nat → Int32) (cPK : Nat → Nat → Int32) : Option (Int32 × Int32 × (Nat → Int32) × (Nat → Int32) × (Nat → Int32) × (Nat → Int32) × (Nat → Int32) × (Nat → Int32) × (Nat → Int32) × (Nat → Int32) × (Nat → Int32) × (Nat → Nat → Int32)) :=
  (f_X9_unwrapAnswer p1 p2 p3 c_state c_aes_rounds c_aes_keys c_buffer c_modes_block c_secret cP_kind cP_length cP_role cP_usage cP_uses cPK).bind (fun (r_1, c_aes_rounds_2, c_aes_keys_3, c_modes_block_4, c_secret_5, cP_kind_6, cP_length_7, cP_role_8, cP_usage_9, cP_uses_10, cPK_11) => (f_X9_counted r_1 c_counters).bind (fun (r_12, c_counters_13) => some (r_12, c_aes_rounds_2, c_aes_keys_3, c_counters_13, c_modes_block_4, c_secret_5, cP_kind_6, cP_length_7, cP_role_8, cP_usage_9, cP_uses_10, cPK_11)))
set_option maxHeartbeats 4000000 in
set_option maxRecDepth 100000 in
theorem c_X9_unwrap (l : Launch) (D : va_G) (cy : Nat → ClassId) (tt : Nat → Nat) (sz : Nat) (h0 : Nat) (h0_buffer : Nat) (h0_slots : Nat) (h0_counters : Nat) (h0_officerPin : Nat) (h0_userPin : Nat) (h0_words : Nat) (h0_sha : Nat) (h0_stream : Nat) (h0_aes : Nat) (h0_modes : Nat) (h0_gcm : Nat) (h0_generator : Nat) (h0_tests : Nat) (h0_message : Nat) (h0_secret : Nat) (h0_aes_keys : Nat) (h0_modes_block : Nat) (h0_modes_pad : Nat) (hP_o : Nat → Nat) (hP_k : Nat → Nat) (p1 : Int32) (p2 : Int32) (p3 : Int32) (c_state : Int32) (c_aes_rounds : Int32) (c_aes_keys : Nat → Int32) (c_buffer : Nat → Int32) (c_counters : Nat → Int32) (c_modes_block : Nat → Int32) (c_secret : Nat → Int32) (cP_kind : Nat → Int32) (cP_length : Nat → Int32) (cP_role : Nat → Int32) (cP_usage : Nat → Int32) (cP_uses : Nat → Int32) (cPK : Nat → Nat → Int32) (c_testsDone : Int32) (c_faults : Int32) (c_streamBegun : Int32) (r_ : Int32) (c_aes_rounds' : Int32) (c_aes_keys' : Nat → Int32) (c_counters' : Nat → Int32) (c_modes_block' : Nat → Int32) (c_secret' : Nat → Int32) (cP_kind' : Nat → Int32) (cP_length' : Nat → Int32) (cP_role' : Nat → Int32) (cP_usage' : Nat → Int32) (cP_uses' : Nat → Int32) (cPK' : Nat → Nat → Int32) (hf : f_X9_unwrap p1 p2 p3 c_state c_aes_rounds c_aes_keys c_buffer c_counters c_modes_block c_secret cP_kind cP_length cP_role cP_usage cP_uses cPK = some (r_, c_aes_rounds', c_aes_keys', c_counters', c_modes_block', c_secret', cP_kind', cP_length', cP_role', cP_usage', cP_uses', cPK')) : Met l yX9_unwrap wsX9_unwrap ({ frames := 6, cells := 0, slots := 0, locals := 150 }) (zPc D cy tt sz [.ref h0, .int p1, .int p2, .int p3] ([(h0, .inr (11, [.ref h0_buffer, .ref h0_slots, .ref h0_counters, .ref h0_officerPin, .ref h0_userPin, .ref h0_words, .ref h0_sha, .ref h0_stream, .ref h0_aes, .ref h0_modes, .ref h0_gcm, .ref h0_generator, .ref h0_tests, .ref h0_message, .ref h0_secret, .int c_state, .int c_testsDone, .int c_faults, .int c_streamBegun])), (h0_aes, .inr (2, [.ref h0_aes_keys, .int c_aes_rounds])), (h0_aes_keys, .inl (cy 1, 60, .inl c_aes_keys)), (h0_buffer, .inl (cy 0, 512, .inl c_buffer)), (h0_counters, .inl (cy 1, 3, .inl c_counters)), (h0_modes, .inr (6, [.ref h0_aes, .ref h0_modes_block, .ref h0_modes_pad])), (h0_modes_block, .inl (cy 0, 16, .inl c_modes_block)), (h0_secret, .inl (cy 0, 80, .inl c_secret)), (h0_slots, .inl (cy 4, 16, .inr (.inr (.inr (.inr (fun j => some (hP_o j)))))))] ++ zpO hP_o hP_k cP_kind cP_length cP_usage cP_role cP_uses ++ zpK (cy 0) hP_k cPK)) (zQ D (some (.int r_)) ([(h0, .inr (11, [.ref h0_buffer, .ref h0_slots, .ref h0_counters, .ref h0_officerPin, .ref h0_userPin, .ref h0_words, .ref h0_sha, .ref h0_stream, .ref h0_aes, .ref h0_modes, .ref h0_gcm, .ref h0_generator, .ref h0_tests, .ref h0_message, .ref h0_secret, .int c_state, .int c_testsDone, .int c_faults, .int c_streamBegun])), (h0_aes, .inr (2, [.ref h0_aes_keys, .int c_aes_rounds'])), (h0_aes_keys, .inl (cy 1, 60, .inl c_aes_keys')), (h0_buffer, .inl (cy 0, 512, .inl c_buffer)), (h0_counters, .inl (cy 1, 3, .inl c_counters')), (h0_modes, .inr (6, [.ref h0_aes, .ref h0_modes_block, .ref h0_modes_pad])), (h0_modes_block, .inl (cy 0, 16, .inl c_modes_block')), (h0_secret, .inl (cy 0, 80, .inl c_secret')), (h0_slots, .inl (cy 4, 16, .inr (.inr (.inr (.inr (fun j => some (hP_o j)))))))] ++ zpO hP_o hP_k cP_kind' cP_length' cP_usage' cP_role' cP_uses' ++ zpK (cy 0) hP_k cPK') (va_A ([(h0, .inr (11, [.ref h0_buffer, .ref h0_slots, .ref h0_counters, .ref h0_officerPin, .ref h0_userPin, .ref h0_words, .ref h0_sha, .ref h0_stream, .ref h0_aes, .ref h0_modes, .ref h0_gcm, .ref h0_generator, .ref h0_tests, .ref h0_message, .ref h0_secret, .int c_state, .int c_testsDone, .int c_faults, .int c_streamBegun])), (h0_aes, .inr (2, [.ref h0_aes_keys, .int c_aes_rounds])), (h0_aes_keys, .inl (cy 1, 60, .inl c_aes_keys)), (h0_buffer, .inl (cy 0, 512, .inl c_buffer)), (h0_counters, .inl (cy 1, 3, .inl c_counters)), (h0_modes, .inr (6, [.ref h0_aes, .ref h0_modes_block, .ref h0_modes_pad])), (h0_modes_block, .inl (cy 0, 16, .inl c_modes_block)), (h0_secret, .inl (cy 0, 80, .inl c_secret)), (h0_slots, .inl (cy 4, 16, .inr (.inr (.inr (.inr (fun j => some (hP_o j)))))))] ++ zpO hP_o hP_k cP_kind cP_length cP_usage cP_role cP_uses ++ zpK (cy 0) hP_k cPK) sz)) 0 0 (va_A ([(h0, .inr (11, [.ref h0_buffer, .ref h0_slots, .ref h0_counters, .ref h0_officerPin, .ref h0_userPin, .ref h0_words, .ref h0_sha, .ref h0_stream, .ref h0_aes, .ref h0_modes, .ref h0_gcm, .ref h0_generator, .ref h0_tests, .ref h0_message, .ref h0_secret, .int c_state, .int c_testsDone, .int c_faults, .int c_streamBegun])), (h0_aes, .inr (2, [.ref h0_aes_keys, .int c_aes_rounds])), (h0_aes_keys, .inl (cy 1, 60, .inl c_aes_keys)), (h0_buffer, .inl (cy 0, 512, .inl c_buffer)), (h0_counters, .inl (cy 1, 3, .inl c_counters)), (h0_modes, .inr (6, [.ref h0_aes, .ref h0_modes_block, .ref h0_modes_pad])), (h0_modes_block, .inl (cy 0, 16, .inl c_modes_block)), (h0_secret, .inl (cy 0, 80, .inl c_secret)), (h0_slots, .inl (cy 4, 16, .inr (.inr (.inr (.inr (fun j => some (hP_o j)))))))] ++ zpO hP_o hP_k cP_kind cP_length cP_usage cP_role cP_uses ++ zpK (cy 0) hP_k cPK) sz) := by
  refine Met.ofW (cc := cX9_unwrap) (maxL := 4) (ret := (some .int)) (by decide) rfl ?_
  intro p e s m args below meth c s₁ B hml hv
  obtain ⟨rfl, rfl, hP, hD0, hE⟩ := hv
  have hx := B.exec
  have hb := B.bytes
  have hr := B.returns
  have hts := atoms_spec (ws := wsX9_unwrap) B.pre
  have hown : s.vm.findClass RX9 = some m.cls := findClass_of_methodNamed B.named
  have hlocks := B.notSynchronized
  clear B
  have hD := hD0.self (sz := s.heap.size)
  generalize hAe : va_A ([(h0, .inr (11, [.ref h0_buffer, .ref h0_slots, .ref h0_counters, .ref h0_officerPin, .ref h0_userPin, .ref h0_words, .ref h0_sha, .ref h0_stream, .ref h0_aes, .ref h0_modes, .ref h0_gcm, .ref h0_generator, .ref h0_tests, .ref h0_message, .ref h0_secret, .int c_state, .int c_testsDone, .int c_faults, .int c_streamBegun])), (h0_aes, .inr (2, [.ref h0_aes_keys, .int c_aes_rounds])), (h0_aes_keys, .inl (cy 1, 60, .inl c_aes_keys)), (h0_buffer, .inl (cy 0, 512, .inl c_buffer)), (h0_counters, .inl (cy 1, 3, .inl c_counters)), (h0_modes, .inr (6, [.ref h0_aes, .ref h0_modes_block, .ref h0_modes_pad])), (h0_modes_block, .inl (cy 0, 16, .inl c_modes_block)), (h0_secret, .inl (cy 0, 80, .inl c_secret)), (h0_slots, .inl (cy 4, 16, .inr (.inr (.inr (.inr (fun j => some (hP_o j)))))))] ++ zpO hP_o hP_k cP_kind cP_length cP_usage cP_role cP_uses ++ zpK (cy 0) hP_k cPK) s.heap.size = A at hD hE ⊢
  have hA : ∀ q : Nat, s.heap.size ≤ q → A q := fun q h => by rw [← hAe]; exact Or.inr h
  clear hAe hD0
  have hS : va_S A s.heap s.heap [] := va_S.rf
  have hK := hE.1
  have hl := lv_entry ([.ref h0, .int p1, .int p2, .int p3]) (n := 4) (Nat.le_of_ble_eq_true rfl)
  rw [lg_entry_eq]
  generalize (lg_sl ([.ref h0, .int p1, .int p2, .int p3]) ++ List.replicate (4 - (lg_sl ([.ref h0, .int p1, .int p2, .int p3])).length) Slot.unset).toArray = ls at hl ⊢
  replace hl : lv_has ls 4 [(0, .ref h0), (1, .int p1), (2, .int p2), (3, .int p3)] := hl
  unfold f_X9_unwrap at hf
  refine zgo (fun GW hTo hFr => ?_)
  refine hFr _ _ _ ?_
  obtain ⟨H, hHe⟩ : ∃ H, H = s.heap := ⟨_, rfl⟩
  obtain ⟨locs, hLe⟩ : ∃ L : List Loc, L = [] := ⟨_, rfl⟩
  rw [← hHe] at hP
  replace hS : va_S A s.heap H locs := by rw [hHe, hLe]; exact hS
  refine zat hHe.symm hLe.symm ?_
  clear hHe hLe
  refine lv_aload_n (pc := 0) hx hb (zdt_at zt_X9_unwrap_0 0 rfl) rfl (lv_at hl 0 rfl) ?_
  refine lv_aload_n (pc := 1) hx hb (zdt_at zt_X9_unwrap_0 1 rfl) rfl (lv_at hl 0 rfl) ?_
  refine lv_iload_n (pc := 2) hx hb (zdt_at zt_X9_unwrap_0 2 rfl) rfl (lv_at hl 1 rfl) ?_
  refine lv_iload_n (pc := 3) hx hb (zdt_at zt_X9_unwrap_0 3 rfl) rfl (lv_at hl 2 rfl) ?_
  refine lv_iload_n (pc := 4) hx hb (zdt_at zt_X9_unwrap_0 4 rfl) rfl (lv_at hl 3 rfl) ?_
  replace hf := zb_s hf
  obtain ⟨⟨r_1, c_aes_rounds_2, c_aes_keys_3, c_modes_block_4, c_secret_5, cP_kind_6, cP_length_7, cP_role_8, cP_usage_9, cP_uses_10, cPK_11⟩, hc_, hf⟩ := hf
  refine zcm2 (pc := 5) (rv := (some (.int r_1))) (va_runV (As := [.int p1, .int p2, .int p3]) (rest := [.ref h0]) ⟨hx, hb, hml, hown, hts⟩ (c_X9_unwrapAnswer l D cy tt H.size h0 h0_buffer h0_slots h0_counters h0_officerPin h0_userPin h0_words h0_sha h0_stream h0_aes h0_modes h0_gcm h0_generator h0_tests h0_message h0_secret h0_aes_keys h0_modes_block h0_modes_pad hP_o hP_k p1 p2 p3 c_state c_aes_rounds c_aes_keys c_buffer c_modes_block c_secret cP_kind cP_length cP_role cP_usage cP_uses cPK c_testsDone c_faults c_streamBegun r_1 c_aes_rounds_2 c_aes_keys_3 c_modes_block_4 c_secret_5 cP_kind_6 cP_length_7 cP_role_8 cP_usage_9 cP_uses_10 cPK_11 hc_) (cwV 3 hts gX9_unwrap_X9_unwrapAnswer rfl rfl rfl (by decide +kernel) ⟨Nat.le_of_ble_eq_true rfl, Nat.le_of_ble_eq_true rfl⟩) ⟨zblind, va_recv hK hP (ci := 11) (q0 := 0) rfl rfl, zpre hE hS (hP.sub [0, 1, 2, 3, 5, 6, 7, 8, 9, 10, 11, 12, 13, 14, 15, 16, 17, 18, 19, 20, 21, 22, 23, 24, 25, 26, 27, 28, 29, 30, 31, 32, 33, 34, 35, 36, 37, 38, 39, 40] rfl) (hD.sub [0, 1, 2, 3, 5, 6, 7, 8, 9, 10, 11, 12, 13, 14, 15, 16, 17, 18, 19, 20, 21, 22, 23, 24, 25, 26, 27, 28, 29, 30, 31, 32, 33, 34, 35, 36, 37, 38, 39, 40] (by decide) rfl) (va_free hD hS hA [0, 1, 2, 3, 5, 6, 7, 8, 9, 10, 11, 12, 13, 14, 15, 16, 17, 18, 19, 20, 21, 22, 23, 24, 25, 26, 27, 28, 29, 30, 31, 32, 33, 34, 35, 36, 37, 38, 39, 40] rfl)⟩ rfl rfl hl.1 rfl (lv_room (Nat.le_of_ble_eq_true rfl)) (zdt_at zt_X9_unwrap_0 5 rfl) ⟨Nat.zero_le _, Nat.zero_le _⟩) hS hP hD (va_free hD hS hA [0, 1, 2, 3, 5, 6, 7, 8, 9, 10, 11, 12, 13, 14, 15, 16, 17, 18, 19, 20, 21, 22, 23, 24, 25, 26, 27, 28, 29, 30, 31, 32, 33, 34, 35, 36, 37, 38, 39, 40] rfl) [0, 1, 2, 3, 5, 6, 7, 8, 9, 10, 11, 12, 13, 14, 15, 16, 17, 18, 19, 20, 21, 22, 23, 24, 25, 26, 27, 28, 29, 30, 31, 32, 33, 34, 35, 36, 37, 38, 39, 40] rfl (by decide) rfl ?_
  clear hP hD hS hc_
  intro H locs hP hD hS
  replace hP : va_P D vwCl ([(h0, .inr (11, [.ref h0_buffer, .ref h0_slots, .ref h0_counters, .ref h0_officerPin, .ref h0_userPin, .ref h0_words, .ref h0_sha, .ref h0_stream, .ref h0_aes, .ref h0_modes, .ref h0_gcm, .ref h0_generator, .ref h0_tests, .ref h0_message, .ref h0_secret, .int c_state, .int c_testsDone, .int c_faults, .int c_streamBegun])), (h0_aes, .inr (2, [.ref h0_aes_keys, .int c_aes_rounds_2])), (h0_aes_keys, .inl (cy 1, 60, .inl c_aes_keys_3)), (h0_buffer, .inl (cy 0, 512, .inl c_buffer)), (h0_counters, .inl (cy 1, 3, .inl c_counters)), (h0_modes, .inr (6, [.ref h0_aes, .ref h0_modes_block, .ref h0_modes_pad])), (h0_modes_block, .inl (cy 0, 16, .inl c_modes_block_4)), (h0_secret, .inl (cy 0, 80, .inl c_secret_5)), (h0_slots, .inl (cy 4, 16, .inr (.inr (.inr (.inr (fun j => some (hP_o j)))))))] ++ zpO hP_o hP_k cP_kind_6 cP_length_7 cP_usage_9 cP_role_8 cP_uses_10 ++ zpK (cy 0) hP_k cPK_11) H := hP
  replace hD : va_D A ([(h0, .inr (11, [.ref h0_buffer, .ref h0_slots, .ref h0_counters, .ref h0_officerPin, .ref h0_userPin, .ref h0_words, .ref h0_sha, .ref h0_stream, .ref h0_aes, .ref h0_modes, .ref h0_gcm, .ref h0_generator, .ref h0_tests, .ref h0_message, .ref h0_secret, .int c_state, .int c_testsDone, .int c_faults, .int c_streamBegun])), (h0_aes, .inr (2, [.ref h0_aes_keys, .int c_aes_rounds_2])), (h0_aes_keys, .inl (cy 1, 60, .inl c_aes_keys_3)), (h0_buffer, .inl (cy 0, 512, .inl c_buffer)), (h0_counters, .inl (cy 1, 3, .inl c_counters)), (h0_modes, .inr (6, [.ref h0_aes, .ref h0_modes_block, .ref h0_modes_pad])), (h0_modes_block, .inl (cy 0, 16, .inl c_modes_block_4)), (h0_secret, .inl (cy 0, 80, .inl c_secret_5)), (h0_slots, .inl (cy 4, 16, .inr (.inr (.inr (.inr (fun j => some (hP_o j)))))))] ++ zpO hP_o hP_k cP_kind_6 cP_length_7 cP_usage_9 cP_role_8 cP_uses_10 ++ zpK (cy 0) hP_k cPK_11) := hD
  refine W.eq (g2 := F0 m 8 ls [.int r_1, .ref h0]) rfl ?_
  replace hf := zb_s hf
  obtain ⟨⟨r_12, c_counters_13⟩, hc_, hf⟩ := hf
  refine zcm2 (pc := 8) (rv := (some (.int r_12))) (va_runV (As := [.int r_1]) (rest := []) ⟨hx, hb, hml, hown, hts⟩ (c_X9_counted l D cy tt H.size h0 h0_buffer h0_slots h0_counters h0_officerPin h0_userPin h0_words h0_sha h0_stream h0_aes h0_modes h0_gcm h0_generator h0_tests h0_message h0_secret r_1 c_counters c_state c_testsDone c_faults c_streamBegun r_12 c_counters_13 hc_) (cwV 1 hts gX9_unwrap_X9_counted rfl rfl rfl (by decide +kernel) ⟨Nat.le_of_ble_eq_true rfl, Nat.le_of_ble_eq_true rfl⟩) ⟨zblind, va_recv hK hP (ci := 11) (q0 := 0) rfl rfl, zpre hE hS (hP.sub [0, 4] rfl) (hD.sub [0, 4] (by decide) rfl) (va_free hD hS hA [0, 4] rfl)⟩ rfl rfl hl.1 rfl (lv_room (Nat.le_of_ble_eq_true rfl)) (zdt_at zt_X9_unwrap_0 6 rfl) ⟨Nat.zero_le _, Nat.zero_le _⟩) hS hP hD (va_free hD hS hA [0, 4] rfl) [0, 4] rfl (by decide) rfl ?_
  clear hP hD hS hc_
  intro H locs hP hD hS
  replace hP : va_P D vwCl ([(h0, .inr (11, [.ref h0_buffer, .ref h0_slots, .ref h0_counters, .ref h0_officerPin, .ref h0_userPin, .ref h0_words, .ref h0_sha, .ref h0_stream, .ref h0_aes, .ref h0_modes, .ref h0_gcm, .ref h0_generator, .ref h0_tests, .ref h0_message, .ref h0_secret, .int c_state, .int c_testsDone, .int c_faults, .int c_streamBegun])), (h0_aes, .inr (2, [.ref h0_aes_keys, .int c_aes_rounds_2])), (h0_aes_keys, .inl (cy 1, 60, .inl c_aes_keys_3)), (h0_buffer, .inl (cy 0, 512, .inl c_buffer)), (h0_counters, .inl (cy 1, 3, .inl c_counters_13)), (h0_modes, .inr (6, [.ref h0_aes, .ref h0_modes_block, .ref h0_modes_pad])), (h0_modes_block, .inl (cy 0, 16, .inl c_modes_block_4)), (h0_secret, .inl (cy 0, 80, .inl c_secret_5)), (h0_slots, .inl (cy 4, 16, .inr (.inr (.inr (.inr (fun j => some (hP_o j)))))))] ++ zpO hP_o hP_k cP_kind_6 cP_length_7 cP_usage_9 cP_role_8 cP_uses_10 ++ zpK (cy 0) hP_k cPK_11) H := hP
  replace hD : va_D A ([(h0, .inr (11, [.ref h0_buffer, .ref h0_slots, .ref h0_counters, .ref h0_officerPin, .ref h0_userPin, .ref h0_words, .ref h0_sha, .ref h0_stream, .ref h0_aes, .ref h0_modes, .ref h0_gcm, .ref h0_generator, .ref h0_tests, .ref h0_message, .ref h0_secret, .int c_state, .int c_testsDone, .int c_faults, .int c_streamBegun])), (h0_aes, .inr (2, [.ref h0_aes_keys, .int c_aes_rounds_2])), (h0_aes_keys, .inl (cy 1, 60, .inl c_aes_keys_3)), (h0_buffer, .inl (cy 0, 512, .inl c_buffer)), (h0_counters, .inl (cy 1, 3, .inl c_counters_13)), (h0_modes, .inr (6, [.ref h0_aes, .ref h0_modes_block, .ref h0_modes_pad])), (h0_modes_block, .inl (cy 0, 16, .inl c_modes_block_4)), (h0_secret, .inl (cy 0, 80, .inl c_secret_5)), (h0_slots, .inl (cy 4, 16, .inr (.inr (.inr (.inr (fun j => some (hP_o j)))))))] ++ zpO hP_o hP_k cP_kind_6 cP_length_7 cP_usage_9 cP_role_8 cP_uses_10 ++ zpK (cy 0) hP_k cPK_11) := hD
  refine W.eq (g2 := F0 m 11 ls [.int r_12]) rfl ?_
  cases hf
  exact W.iret (pc := 11) hx hb hr (fun t ht hW => ⟨rfl, ⟨by rw [ht]; exact hP, hD⟩, hS.F ht⟩) hS.2.2 (zdt_at zt_X9_unwrap_0 7 rfl)
def f_X9_runRefusal (p1 : Int32) (p2 : Int32) (p3 : Int32) (p4 : Int32) (p5 : Int32) (c_state : Int32) (cP_kind : Nat → Int32) (cP_role : Nat → Int32) (cP_usage : Nat → Int32) (cP_uses : Nat → Int32) : Option (Int32) :=
  (f_X9_loggedIn c_state).bind (fun r_1 => if r_1 = 0 then some (-1 : Int32) else zj (fun (v_4 : Int32) => (f_X9_placesFit p1 p3 p4 p5).bind (fun r_6 => if r_6 = 0 then some (-2 : Int32) else zj (fun (_ : Unit) => if v_4 = 0 then zk (¬ (p2 < 0 ∨ 16 ≤ p2.toNatClampNeg)) (if p1 = (10 : Int32) then (f_X9_bitFor p1).bind (fun r_17 => (f_X9_keyRefusal p2.toNatClampNeg (2 : Int32) r_17 c_state cP_kind cP_role cP_usage cP_uses).bind (fun r_18 => some r_18)) else (f_X9_bitFor p1).bind (fun r_15 => (f_X9_keyRefusal p2.toNatClampNeg (1 : Int32) r_15 c_state cP_kind cP_role cP_usage cP_uses).bind (fun r_16 => some r_16))) else some (0 : Int32)) (fun K_9 => if v_4 = 0 then (f_X9_isSlot p2).bind (fun r_21 => if r_21 = 0 then some (-2 : Int32) else K_9 ()) else K_9 ()))) (fun K_5 => zj (fun (_ : Unit) => K_5 (1 : Int32)) (fun K_24 => if p1 = (9 : Int32) then K_24 () else if p1 = (11 : Int32) then K_24 () else K_5 (0 : Int32))))
set_option maxHeartbeats 4000000 in
set_option maxRecDepth 100000 in
theorem c_X9_runRefusal (l : Launch) (D : va_G) (cy : Nat → ClassId) (tt : Nat → Nat) (sz : Nat) (h0 : Nat) (h0_buffer : Nat) (h0_slots : Nat) (h0_counters : Nat) (h0_officerPin : Nat) (h0_userPin : Nat) (h0_words : Nat) (h0_sha : Nat) (h0_stream : Nat) (h0_aes : Nat) (h0_modes : Nat) (h0_gcm : Nat) (h0_generator : Nat) (h0_tests : Nat) (h0_message : Nat) (h0_secret : Nat) (hP_o : Nat → Nat) (hP_k : Nat → Nat) (p1 : Int32) (p2 : Int32) (p3 : Int32) (p4 : Int32) (p5 : Int32) (c_state : Int32) (cP_kind : Nat → Int32) (cP_role : Nat → Int32) (cP_usage : Nat → Int32) (cP_uses : Nat → Int32) (c_testsDone : Int32) (c_faults : Int32) (c_streamBegun : Int32) (cP_length : Nat → Int32) (r_ : Int32) (hf : f_X9_runRefusal p1 p2 p3 p4 p5 c_state cP_kind cP_role cP_usage cP_uses = some r_) : Met l yX9_runRefusal wsX9_runRefusal ({ frames := 3, cells := 0, slots := 0, locals := 64 }) (zPc D cy tt sz [.ref h0, .int p1, .int p2, .int p3, .int p4, .int p5] ([(h0, .inr (11, [.ref h0_buffer, .ref h0_slots, .ref h0_counters, .ref h0_officerPin, .ref h0_userPin, .ref h0_words, .ref h0_sha, .ref h0_stream, .ref h0_aes, .ref h0_modes, .ref h0_gcm, .ref h0_generator, .ref h0_tests, .ref h0_message, .ref h0_secret, .int c_state, .int c_testsDone, .int c_faults, .int c_streamBegun])), (h0_slots, .inl (cy 4, 16, .inr (.inr (.inr (.inr (fun j => some (hP_o j)))))))] ++ zpO hP_o hP_k cP_kind cP_length cP_usage cP_role cP_uses)) (fun _ st o t => o = .returned (some (.int r_)) ∧ t.heap = st.heap) 0 0 (fun _ => False) := by
  refine Met.ofW (cc := cX9_runRefusal) (maxL := 7) (ret := (some .int)) (by decide) rfl ?_
  intro p e s m args below meth c s₁ B hml hv
  obtain ⟨rfl, rfl, hP, hD0, hE⟩ := hv
  have hx := B.exec
  have hb := B.bytes
  have hr := B.returns
  have hts := atoms_spec (ws := wsX9_runRefusal) B.pre
  have hown : s.vm.findClass RX9 = some m.cls := findClass_of_methodNamed B.named
  have hlocks := B.notSynchronized
  clear B
  have hD := hD0.self (sz := s.heap.size)
  generalize hAe : va_A ([(h0, .inr (11, [.ref h0_buffer, .ref h0_slots, .ref h0_counters, .ref h0_officerPin, .ref h0_userPin, .ref h0_words, .ref h0_sha, .ref h0_stream, .ref h0_aes, .ref h0_modes, .ref h0_gcm, .ref h0_generator, .ref h0_tests, .ref h0_message, .ref h0_secret, .int c_state, .int c_testsDone, .int c_faults, .int c_streamBegun])), (h0_slots, .inl (cy 4, 16, .inr (.inr (.inr (.inr (fun j => some (hP_o j)))))))] ++ zpO hP_o hP_k cP_kind cP_length cP_usage cP_role cP_uses) s.heap.size = A at hD hE
  have hA : ∀ q : Nat, s.heap.size ≤ q → A q := fun q h => by rw [← hAe]; exact Or.inr h
  clear hAe hD0
  have hS : va_S A s.heap s.heap [] := va_S.rf
  have hK := hE.1
  have hw0 := hts (.fieldLink RX9 15 "SealedModule" "slots" "[LSealedModule$Slot;") (by decide +kernel)
  have hcX9 : ∀ w ∈ u_ws RX9 TX9 19, w ∈ wsX9_runRefusal := (fun _ h => List.mem_cons_of_mem _ (List.mem_append_left _ (List.mem_append_right _ h)))
  have hl := lv_entry ([.ref h0, .int p1, .int p2, .int p3, .int p4, .int p5]) (n := 7) (Nat.le_of_ble_eq_true rfl)
  rw [lg_entry_eq]
  generalize (lg_sl ([.ref h0, .int p1, .int p2, .int p3, .int p4, .int p5]) ++ List.replicate (7 - (lg_sl ([.ref h0, .int p1, .int p2, .int p3, .int p4, .int p5])).length) Slot.unset).toArray = ls at hl ⊢
  replace hl : lv_has ls 7 [(0, .ref h0), (1, .int p1), (2, .int p2), (3, .int p3), (4, .int p4), (5, .int p5)] := hl
  unfold f_X9_runRefusal at hf
  refine zgo (fun GW hTo hFr => ?_)
  refine hFr _ _ _ ?_
  refine lv_aload_n (pc := 0) hx hb (zdt_at zt_X9_runRefusal_0 0 rfl) rfl (lv_at hl 0 rfl) ?_
  replace hf := zb_s hf
  obtain ⟨r_1, hc_, hf⟩ := hf
  refine zcs (pc := 1) (rv := (some (.int r_1))) (va_runV (As := []) (rest := []) ⟨hx, hb, hml, hown, hts⟩ (c_X9_loggedIn l D cy tt s.heap.size h0 h0_buffer h0_slots h0_counters h0_officerPin h0_userPin h0_words h0_sha h0_stream h0_aes h0_modes h0_gcm h0_generator h0_tests h0_message h0_secret c_state c_testsDone c_faults c_streamBegun r_1 hc_) (cwV 0 hts gX9_runRefusal_X9_loggedIn rfl rfl rfl (by decide +kernel) ⟨Nat.le_of_ble_eq_true rfl, Nat.le_of_ble_eq_true rfl⟩) ⟨zblind, va_recv hK hP (ci := 11) (q0 := 0) rfl rfl, zpre hE hS (hP.sub [0] rfl) (hD.sub [0] (by decide) rfl) (va_free hD hS hA [0] rfl)⟩ rfl rfl hl.1 rfl (lv_room (Nat.le_of_ble_eq_true rfl)) (zdt_at zt_X9_runRefusal_0 1 rfl) ⟨Nat.zero_le _, Nat.zero_le _⟩) ?_
  clear hc_
  refine W.eq (g2 := F0 m 4 ls [.int r_1]) rfl ?_
  refine lv_if_ne (pc := 4) (tgt := 9) hx hb (zdt_at zt_X9_runRefusal_0 2 rfl) (by decide) (fun cn_ => ?t_2) (fun cn_ => ?f_3)
  case f_3 =>
    replace hf := zt_s cn_ hf
    clear cn_
    refine lv_iconst (pc := 7) (v := (-1 : Int32)) hx hb (zdt_at zt_X9_runRefusal_0 3 rfl) (by decide) ?_
    cases hf
    exact W.iret (pc := 8) hx hb hr (fun t ht hW => ⟨rfl, ht⟩) (fun _ h => nomatch h) (zdt_at zt_X9_runRefusal_0 4 rfl)
  replace hf := ze_s cn_ hf
  clear cn_
  refine lv_iload_n (pc := 9) hx hb (zdt_at zt_X9_runRefusal_0 5 rfl) rfl (lv_at hl 1 rfl) ?_
  refine lv_bipush (pc := 10) (v := (9 : Int32)) hx hb (zdt_at zt_X9_runRefusal_0 6 rfl) (by decide) ?_
  replace hf := zj_s hf
  obtain ⟨K_5, eK_5, hf⟩ := hf
  have kK_5 : ∀ (v_4 : Int32) (ls : Array Slot), lv_has ls 7 [(0, .ref h0), (1, .int p1), (2, .int p2), (3, .int p3), (4, .int p4), (5, .int p5)] → K_5 v_4 = some r_ → GW s.heap [] (F0 m 26 ls [.int v_4]) := by
    clear hf hl
    intro v_4 ls hl hf
    rw [eK_5] at hf
    clear eK_5
    refine hFr _ _ _ ?_
    refine lv_istore (pc := 26) (lv' := [(6, .int v_4), (0, .ref h0), (1, .int p1), (2, .int p2), (3, .int p3), (4, .int p4), (5, .int p5)]) hx hb (zdt_at zt_X9_runRefusal_0 14 rfl) hl (by decide) rfl ?_
    clear hl
    intro ls hl
    refine lv_iload_n (pc := 28) hx hb (zdt_at zt_X9_runRefusal_0 15 rfl) rfl (lv_at hl 2 rfl) ?_
    refine lv_iload_n (pc := 29) hx hb (zdt_at zt_X9_runRefusal_0 16 rfl) rfl (lv_at hl 4 rfl) ?_
    refine lv_iload (pc := 30) hx hb (zdt_at zt_X9_runRefusal_0 17 rfl) (lv_at hl 5 rfl) ?_
    refine lv_iload (pc := 32) hx hb (zdt_at zt_X9_runRefusal_0 18 rfl) (lv_at hl 6 rfl) ?_
    replace hf := zb_s hf
    obtain ⟨r_6, hc_, hf⟩ := hf
    refine zcs (pc := 34) (rv := (some (.int r_6))) (va_runS (As := [.int p1, .int p3, .int p4, .int p5]) (rest := []) ⟨hx, hb, hml, hown, hts⟩ (c_X9_placesFit l D cy tt s.heap.size p1 p3 p4 p5 r_6 hc_) (va_cwS 4 hts gX9_runRefusal_X9_placesFit rfl rfl rfl (by decide +kernel) ⟨Nat.le_of_ble_eq_true rfl, Nat.le_of_ble_eq_true rfl⟩) ⟨zblind, zpre hE hS (hP.sub [] rfl) (hD.sub [] (by decide) rfl) (va_free hD hS hA [] rfl)⟩ rfl rfl hl.1 rfl (lv_room (Nat.le_of_ble_eq_true rfl)) (zdt_at zt_X9_runRefusal_0 19 rfl) ⟨Nat.zero_le _, Nat.zero_le _⟩) ?_
    clear hc_
    refine W.eq (g2 := F0 m 37 ls [.int r_6]) rfl ?_
    refine lv_if_eq (pc := 37) (tgt := 52) hx hb (zdt_at zt_X9_runRefusal_0 20 rfl) (by decide) (fun cn_ => ?t_7) (fun cn_ => ?f_8)
    case t_7 =>
      replace hf := zt_s cn_ hf
      clear cn_
      refine lv_bipush (pc := 52) (v := (-2 : Int32)) hx hb (zdt_at zt_X9_runRefusal_0 26 rfl) (by decide) ?_
      cases hf
      exact W.iret (pc := 54) hx hb hr (fun t ht hW => ⟨rfl, ht⟩) (fun _ h => nomatch h) (zdt_at zt_X9_runRefusal_0 27 rfl)
    replace hf := ze_s cn_ hf
    clear cn_
    refine lv_iload (pc := 40) hx hb (zdt_at zt_X9_runRefusal_0 21 rfl) (lv_at hl 0 rfl) ?_
    replace hf := zj_s hf
    obtain ⟨K_9, eK_9, hf⟩ := hf
    have kK_9 : ∀  (ls : Array Slot), lv_has ls 7 [(0, .ref h0), (1, .int p1), (2, .int p2), (6, .int v_4)] → K_9 () = some r_ → GW s.heap [] (F0 m 55 ls []) := by
      clear hf hl
      intro  ls hl hf
      rw [eK_9] at hf
      clear eK_9
      refine hFr _ _ _ ?_
      refine lv_iload (pc := 55) hx hb (zdt_at zt_X9_runRefusal_0 28 rfl) (lv_at hl 3 rfl) ?_
      refine lv_if_eq (pc := 57) (tgt := 62) hx hb (zdt_at zt_X9_runRefusal_0 29 rfl) (by decide) (fun cn_ => ?t_10) (fun cn_ => ?f_11)
      case f_11 =>
        replace hf := ze_s cn_ hf
        clear cn_
        refine lv_iconst (pc := 60) (v := (0 : Int32)) hx hb (zdt_at zt_X9_runRefusal_0 30 rfl) (by decide) ?_
        cases hf
        exact W.iret (pc := 61) hx hb hr (fun t ht hW => ⟨rfl, ht⟩) (fun _ h => nomatch h) (zdt_at zt_X9_runRefusal_0 31 rfl)
      replace hf := zt_s cn_ hf
      clear cn_
      refine lv_aload_n (pc := 62) hx hb (zdt_at zt_X9_runRefusal_0 32 rfl) rfl (lv_at hl 0 rfl) ?_
      refine lv_aload_n (pc := 63) hx hb (zdt_at zt_X9_runRefusal_0 33 rfl) rfl (lv_at hl 0 rfl) ?_
      refine va_get (pc := 64) (D := D) (ci := 11) (v := .ref h0_slots) (C := RX9) (T := TX9) (N := 19) hx hb hts hcX9 hown hK hP 0 rfl rfl 1 (by decide) hw0 (fun _ h9 => h9) rfl (zdt_at zt_X9_runRefusal_0 34 rfl) ?_
      refine lv_iload_n (pc := 67) hx hb (zdt_at zt_X9_runRefusal_0 35 rfl) rfl (lv_at hl 2 rfl) ?_
      replace hf := zk_s hf
      have hj_12 : p2.toNatClampNeg < 16 := Nat.not_le.mp fun q => hf.1 (Or.inr q)
      refine va_aldq (pc := 68) (C := RX8) hx hb hK hP 1 4 rfl rfl hf.1 (zdt_at zt_X9_runRefusal_0 36 rfl) ?_
      replace hf := hf.2
      refine lv_iload_n (pc := 69) hx hb (zdt_at zt_X9_runRefusal_0 37 rfl) rfl (lv_at hl 1 rfl) ?_
      refine lv_bipush (pc := 70) (v := (10 : Int32)) hx hb (zdt_at zt_X9_runRefusal_0 38 rfl) (by decide) ?_
      refine lv_icmp_ne (pc := 72) (tgt := 79) hx hb (zdt_at zt_X9_runRefusal_0 39 rfl) (by decide) (fun cn_ => ?t_13) (fun cn_ => ?f_14)
      case t_13 =>
        replace hf := ze_s cn_ hf
        clear cn_
        refine lv_iconst (pc := 79) (v := (1 : Int32)) hx hb (zdt_at zt_X9_runRefusal_0 42 rfl) (by decide) ?_
        refine lv_iload_n (pc := 80) hx hb (zdt_at zt_X9_runRefusal_0 43 rfl) rfl (lv_at hl 1 rfl) ?_
        replace hf := zb_s hf
        obtain ⟨r_15, hc_, hf⟩ := hf
        refine zcs (pc := 81) (rv := (some (.int r_15))) (va_runS (As := [.int p1]) (rest := [.int (1 : Int32), .ref (hP_o p2.toNatClampNeg), .ref h0]) ⟨hx, hb, hml, hown, hts⟩ (c_X9_bitFor l D cy tt s.heap.size p1 r_15 hc_) (va_cwS 1 hts gX9_runRefusal_X9_bitFor rfl rfl rfl (by decide +kernel) ⟨Nat.le_of_ble_eq_true rfl, Nat.le_of_ble_eq_true rfl⟩) ⟨zblind, zpre hE hS (hP.sub [] rfl) (hD.sub [] (by decide) rfl) (va_free hD hS hA [] rfl)⟩ rfl rfl hl.1 rfl (lv_room (Nat.le_of_ble_eq_true rfl)) (zdt_at zt_X9_runRefusal_0 44 rfl) ⟨Nat.zero_le _, Nat.zero_le _⟩) ?_
        clear hc_
        refine W.eq (g2 := F0 m 84 ls [.int r_15, .int (1 : Int32), .ref (hP_o p2.toNatClampNeg), .ref h0]) rfl ?_
        replace hf := zb_s hf
        obtain ⟨r_16, hc_, hf⟩ := hf
        refine zcs (pc := 84) (rv := (some (.int r_16))) (va_runV (As := [.ref (hP_o p2.toNatClampNeg), .int (1 : Int32), .int r_15]) (rest := []) ⟨hx, hb, hml, hown, hts⟩ (c_X9_keyRefusal l D cy tt s.heap.size h0 h0_buffer h0_slots h0_counters h0_officerPin h0_userPin h0_words h0_sha h0_stream h0_aes h0_modes h0_gcm h0_generator h0_tests h0_message h0_secret hP_o hP_k p2.toNatClampNeg (1 : Int32) r_15 c_state cP_kind cP_role cP_usage cP_uses c_testsDone c_faults c_streamBegun cP_length r_16 hj_12 hc_) (cwV 3 hts gX9_runRefusal_X9_keyRefusal rfl rfl rfl (by decide +kernel) ⟨Nat.le_of_ble_eq_true rfl, Nat.le_of_ble_eq_true rfl⟩) ⟨zblind, va_recv hK hP (ci := 11) (q0 := 0) rfl rfl, zpre hE hS (hP.sub [0, 2, 3, 4, 5, 6, 7, 8, 9, 10, 11, 12, 13, 14, 15, 16, 17] rfl) (hD.sub [0, 2, 3, 4, 5, 6, 7, 8, 9, 10, 11, 12, 13, 14, 15, 16, 17] (by decide) rfl) (va_free hD hS hA [0, 2, 3, 4, 5, 6, 7, 8, 9, 10, 11, 12, 13, 14, 15, 16, 17] rfl)⟩ rfl rfl hl.1 rfl (lv_room (Nat.le_of_ble_eq_true rfl)) (zdt_at zt_X9_runRefusal_0 45 rfl) ⟨Nat.zero_le _, Nat.zero_le _⟩) ?_
        clear hc_
        refine W.eq (g2 := F0 m 87 ls [.int r_16]) rfl ?_
        cases hf
        exact W.iret (pc := 87) hx hb hr (fun t ht hW => ⟨rfl, ht⟩) (fun _ h => nomatch h) (zdt_at zt_X9_runRefusal_0 46 rfl)
      replace hf := zt_s cn_ hf
      clear cn_
      refine lv_iconst (pc := 75) (v := (2 : Int32)) hx hb (zdt_at zt_X9_runRefusal_0 40 rfl) (by decide) ?_
      refine lv_goto (pc := 76) (tgt := 80) hx hb (zdt_at zt_X9_runRefusal_0 41 rfl) (by decide) ?_
      refine lv_iload_n (pc := 80) hx hb (zdt_at zt_X9_runRefusal_0 43 rfl) rfl (lv_at hl 1 rfl) ?_
      replace hf := zb_s hf
      obtain ⟨r_17, hc_, hf⟩ := hf
      refine zcs (pc := 81) (rv := (some (.int r_17))) (va_runS (As := [.int p1]) (rest := [.int (2 : Int32), .ref (hP_o p2.toNatClampNeg), .ref h0]) ⟨hx, hb, hml, hown, hts⟩ (c_X9_bitFor l D cy tt s.heap.size p1 r_17 hc_) (va_cwS 1 hts gX9_runRefusal_X9_bitFor rfl rfl rfl (by decide +kernel) ⟨Nat.le_of_ble_eq_true rfl, Nat.le_of_ble_eq_true rfl⟩) ⟨zblind, zpre hE hS (hP.sub [] rfl) (hD.sub [] (by decide) rfl) (va_free hD hS hA [] rfl)⟩ rfl rfl hl.1 rfl (lv_room (Nat.le_of_ble_eq_true rfl)) (zdt_at zt_X9_runRefusal_0 44 rfl) ⟨Nat.zero_le _, Nat.zero_le _⟩) ?_
      clear hc_
      refine W.eq (g2 := F0 m 84 ls [.int r_17, .int (2 : Int32), .ref (hP_o p2.toNatClampNeg), .ref h0]) rfl ?_
      replace hf := zb_s hf
      obtain ⟨r_18, hc_, hf⟩ := hf
      refine zcs (pc := 84) (rv := (some (.int r_18))) (va_runV (As := [.ref (hP_o p2.toNatClampNeg), .int (2 : Int32), .int r_17]) (rest := []) ⟨hx, hb, hml, hown, hts⟩ (c_X9_keyRefusal l D cy tt s.heap.size h0 h0_buffer h0_slots h0_counters h0_officerPin h0_userPin h0_words h0_sha h0_stream h0_aes h0_modes h0_gcm h0_generator h0_tests h0_message h0_secret hP_o hP_k p2.toNatClampNeg (2 : Int32) r_17 c_state cP_kind cP_role cP_usage cP_uses c_testsDone c_faults c_streamBegun cP_length r_18 hj_12 hc_) (cwV 3 hts gX9_runRefusal_X9_keyRefusal rfl rfl rfl (by decide +kernel) ⟨Nat.le_of_ble_eq_true rfl, Nat.le_of_ble_eq_true rfl⟩) ⟨zblind, va_recv hK hP (ci := 11) (q0 := 0) rfl rfl, zpre hE hS (hP.sub [0, 2, 3, 4, 5, 6, 7, 8, 9, 10, 11, 12, 13, 14, 15, 16, 17] rfl) (hD.sub [0, 2, 3, 4, 5, 6, 7, 8, 9, 10, 11, 12, 13, 14, 15, 16, 17] (by decide) rfl) (va_free hD hS hA [0, 2, 3, 4, 5, 6, 7, 8, 9, 10, 11, 12, 13, 14, 15, 16, 17] rfl)⟩ rfl rfl hl.1 rfl (lv_room (Nat.le_of_ble_eq_true rfl)) (zdt_at zt_X9_runRefusal_0 45 rfl) ⟨Nat.zero_le _, Nat.zero_le _⟩) ?_
      clear hc_
      refine W.eq (g2 := F0 m 87 ls [.int r_18]) rfl ?_
      cases hf
      exact W.iret (pc := 87) hx hb hr (fun t ht hW => ⟨rfl, ht⟩) (fun _ h => nomatch h) (zdt_at zt_X9_runRefusal_0 46 rfl)
    clear eK_9
    refine lv_if_ne (pc := 42) (tgt := 55) hx hb (zdt_at zt_X9_runRefusal_0 22 rfl) (by decide) (fun cn_ => ?t_19) (fun cn_ => ?f_20)
    case t_19 =>
      replace hf := ze_s cn_ hf
      clear cn_
      exact hTo _ _ _ (kK_9  ls (lv_sub hl [1, 2, 3, 0] rfl) hf)
    replace hf := zt_s cn_ hf
    clear cn_
    refine lv_iload_n (pc := 45) hx hb (zdt_at zt_X9_runRefusal_0 23 rfl) rfl (lv_at hl 3 rfl) ?_
    replace hf := zb_s hf
    obtain ⟨r_21, hc_, hf⟩ := hf
    refine zcs (pc := 46) (rv := (some (.int r_21))) (va_runS (As := [.int p2]) (rest := []) ⟨hx, hb, hml, hown, hts⟩ (c_X9_isSlot l D cy tt s.heap.size p2 r_21 hc_) (va_cwS 1 hts gX9_runRefusal_X9_isSlot rfl rfl rfl (by decide +kernel) ⟨Nat.le_of_ble_eq_true rfl, Nat.le_of_ble_eq_true rfl⟩) ⟨zblind, zpre hE hS (hP.sub [] rfl) (hD.sub [] (by decide) rfl) (va_free hD hS hA [] rfl)⟩ rfl rfl hl.1 rfl (lv_room (Nat.le_of_ble_eq_true rfl)) (zdt_at zt_X9_runRefusal_0 24 rfl) ⟨Nat.zero_le _, Nat.zero_le _⟩) ?_
    clear hc_
    refine W.eq (g2 := F0 m 49 ls [.int r_21]) rfl ?_
    refine lv_if_ne (pc := 49) (tgt := 55) hx hb (zdt_at zt_X9_runRefusal_0 25 rfl) (by decide) (fun cn_ => ?t_22) (fun cn_ => ?f_23)
    case t_22 =>
      replace hf := ze_s cn_ hf
      clear cn_
      exact hTo _ _ _ (kK_9  ls (lv_sub hl [1, 2, 3, 0] rfl) hf)
    replace hf := zt_s cn_ hf
    clear cn_
    refine lv_bipush (pc := 52) (v := (-2 : Int32)) hx hb (zdt_at zt_X9_runRefusal_0 26 rfl) (by decide) ?_
    cases hf
    exact W.iret (pc := 54) hx hb hr (fun t ht hW => ⟨rfl, ht⟩) (fun _ h => nomatch h) (zdt_at zt_X9_runRefusal_0 27 rfl)
  clear eK_5
  replace hf := zj_s hf
  obtain ⟨K_24, eK_24, hf⟩ := hf
  have kK_24 : ∀  (ls : Array Slot), lv_has ls 7 [(0, .ref h0), (1, .int p1), (2, .int p2), (3, .int p3), (4, .int p4), (5, .int p5)] → K_24 () = some r_ → GW s.heap [] (F0 m 21 ls []) := by
    clear hf hl
    intro  ls hl hf
    rw [eK_24] at hf
    clear eK_24
    refine hFr _ _ _ ?_
    refine lv_iconst (pc := 21) (v := (1 : Int32)) hx hb (zdt_at zt_X9_runRefusal_0 11 rfl) (by decide) ?_
    refine lv_goto (pc := 22) (tgt := 26) hx hb (zdt_at zt_X9_runRefusal_0 12 rfl) (by decide) ?_
    exact hTo _ _ _ (kK_5 _ ls (lv_sub hl [0, 1, 2, 3, 4, 5] rfl) hf)
  clear eK_24
  refine lv_icmp_eq (pc := 12) (tgt := 21) hx hb (zdt_at zt_X9_runRefusal_0 7 rfl) (by decide) (fun cn_ => ?t_25) (fun cn_ => ?f_26)
  case t_25 =>
    replace hf := zt_s cn_ hf
    clear cn_
    exact hTo _ _ _ (kK_24  ls (lv_sub hl [0, 1, 2, 3, 4, 5] rfl) hf)
  replace hf := ze_s cn_ hf
  clear cn_
  refine lv_iload_n (pc := 15) hx hb (zdt_at zt_X9_runRefusal_0 8 rfl) rfl (lv_at hl 1 rfl) ?_
  refine lv_bipush (pc := 16) (v := (11 : Int32)) hx hb (zdt_at zt_X9_runRefusal_0 9 rfl) (by decide) ?_
  refine lv_icmp_ne (pc := 18) (tgt := 25) hx hb (zdt_at zt_X9_runRefusal_0 10 rfl) (by decide) (fun cn_ => ?t_27) (fun cn_ => ?f_28)
  case f_28 =>
    replace hf := zt_s cn_ hf
    clear cn_
    exact hTo _ _ _ (kK_24  ls (lv_sub hl [0, 1, 2, 3, 4, 5] rfl) hf)
  replace hf := ze_s cn_ hf
  clear cn_
  refine lv_iconst (pc := 25) (v := (0 : Int32)) hx hb (zdt_at zt_X9_runRefusal_0 13 rfl) (by decide) ?_
  exact hTo _ _ _ (kK_5 _ ls (lv_sub hl [0, 1, 2, 3, 4, 5] rfl) hf)
def f_X9_servedByAes (p1 : Int32) (p2 : Int32) (p3 : Int32) (p4 : Int32) (c_aes_rounds : Int32) (c_aes_keys : Nat → Int32) (c_buffer : Nat → Int32) (c_gcm_keyHigh : Int64) (c_gcm_keyLow : Int64) (c_gcm_sumHigh : Int64) (c_gcm_sumLow : Int64) (c_gcm_tag : Nat → Int32) (c_modes_block : Nat → Int32) (c_modes_pad : Nat → Int32) : Option (Int32 × (Nat → Int32) × Int64 × Int64 × Int64 × Int64 × (Nat → Int32) × (Nat → Int32) × (Nat → Int32)) :=
  if p1 = (1 : Int32) then (f_X4_ecbSeal 512 p2 p3 c_aes_rounds c_aes_keys c_buffer).bind (fun c_buffer_1 => some (p3, c_buffer_1, c_gcm_keyHigh, c_gcm_keyLow, c_gcm_sumHigh, c_gcm_sumLow, c_gcm_tag, c_modes_block, c_modes_pad)) else if p1 = (2 : Int32) then (f_X4_ecbOpen 512 p2 p3 c_aes_rounds c_aes_keys c_buffer).bind (fun c_buffer_3 => some (p3, c_buffer_3, c_gcm_keyHigh, c_gcm_keyLow, c_gcm_sumHigh, c_gcm_sumLow, c_gcm_tag, c_modes_block, c_modes_pad)) else if p1 = (3 : Int32) then (f_X4_cbcSeal 512 p2 p3 c_aes_rounds c_aes_keys c_buffer).bind (fun c_buffer_5 => some (p3, c_buffer_5, c_gcm_keyHigh, c_gcm_keyLow, c_gcm_sumHigh, c_gcm_sumLow, c_gcm_tag, c_modes_block, c_modes_pad)) else if p1 = (4 : Int32) then (f_X4_cbcOpen 512 p2 p3 c_aes_rounds c_aes_keys c_buffer).bind (fun c_buffer_7 => some (p3, c_buffer_7, c_gcm_keyHigh, c_gcm_keyLow, c_gcm_sumHigh, c_gcm_sumLow, c_gcm_tag, c_modes_block, c_modes_pad)) else if p1 = (5 : Int32) then (f_X4_addStream 512 p2 (p2 + (16 : Int32)) (p3 - (16 : Int32)) c_aes_rounds c_aes_keys c_modes_block c_modes_pad c_buffer).bind (fun (c_modes_block_9, c_modes_pad_10, c_buffer_11) => some (p3, c_buffer_11, c_gcm_keyHigh, c_gcm_keyLow, c_gcm_sumHigh, c_gcm_sumLow, c_gcm_tag, c_modes_block_9, c_modes_pad_10)) else if p1 = (6 : Int32) then (f_X2_sealText 512 p2 p4 ((p3 - (12 : Int32)) - p4) c_gcm_keyHigh c_gcm_keyLow c_gcm_sumHigh c_gcm_sumLow c_aes_rounds c_aes_keys c_modes_block c_modes_pad c_gcm_tag c_buffer).bind (fun (c_gcm_keyHigh_13, c_gcm_keyLow_14, c_gcm_sumHigh_15, c_gcm_sumLow_16, c_modes_block_17, c_modes_pad_18, c_gcm_tag_19, c_buffer_20) => some ((p3 + (16 : Int32)), c_buffer_20, c_gcm_keyHigh_13, c_gcm_keyLow_14, c_gcm_sumHigh_15, c_gcm_sumLow_16, c_gcm_tag_19, c_modes_block_17, c_modes_pad_18)) else if p1 = (7 : Int32) then (f_X2_openText 512 p2 p4 (((p3 - (12 : Int32)) - p4) - (16 : Int32)) c_gcm_keyHigh c_gcm_keyLow c_gcm_sumHigh c_gcm_sumLow c_aes_rounds c_aes_keys c_modes_block c_modes_pad c_gcm_tag c_buffer).bind (fun (r_22, c_gcm_keyHigh_23, c_gcm_keyLow_24, c_gcm_sumHigh_25, c_gcm_sumLow_26, c_modes_block_27, c_modes_pad_28, c_gcm_tag_29, c_buffer_30) => if r_22 = 0 then some ((-9 : Int32), c_buffer_30, c_gcm_keyHigh_23, c_gcm_keyLow_24, c_gcm_sumHigh_25, c_gcm_sumLow_26, c_gcm_tag_29, c_modes_block_27, c_modes_pad_28) else some ((p3 - (16 : Int32)), c_buffer_30, c_gcm_keyHigh_23, c_gcm_keyLow_24, c_gcm_sumHigh_25, c_gcm_sumLow_26, c_gcm_tag_29, c_modes_block_27, c_modes_pad_28)) else (f_X4_cmac_4a1 512 p2 p3 p2 c_aes_rounds c_aes_keys c_modes_block c_modes_pad c_buffer).bind (fun (c_modes_block_34, c_modes_pad_35, c_buffer_36) => some ((16 : Int32), c_buffer_36, c_gcm_keyHigh, c_gcm_keyLow, c_gcm_sumHigh, c_gcm_sumLow, c_gcm_tag, c_modes_block_34, c_modes_pad_35))
set_option maxHeartbeats 4000000 in
set_option maxRecDepth 100000 in
theorem c_X9_servedByAes (l : Launch) (D : va_G) (cy : Nat → ClassId) (tt : Nat → Nat) (sz : Nat) (h0 : Nat) (h0_buffer : Nat) (h0_slots : Nat) (h0_counters : Nat) (h0_officerPin : Nat) (h0_userPin : Nat) (h0_words : Nat) (h0_sha : Nat) (h0_stream : Nat) (h0_aes : Nat) (h0_modes : Nat) (h0_gcm : Nat) (h0_generator : Nat) (h0_tests : Nat) (h0_message : Nat) (h0_secret : Nat) (h0_aes_keys : Nat) (h0_gcm_tag : Nat) (h0_modes_block : Nat) (h0_modes_pad : Nat) (p1 : Int32) (p2 : Int32) (p3 : Int32) (p4 : Int32) (c_aes_rounds : Int32) (c_aes_keys : Nat → Int32) (c_buffer : Nat → Int32) (c_gcm_keyHigh : Int64) (c_gcm_keyLow : Int64) (c_gcm_sumHigh : Int64) (c_gcm_sumLow : Int64) (c_gcm_tag : Nat → Int32) (c_modes_block : Nat → Int32) (c_modes_pad : Nat → Int32) (c_state : Int32) (c_testsDone : Int32) (c_faults : Int32) (c_streamBegun : Int32) (r_ : Int32) (c_buffer' : Nat → Int32) (c_gcm_keyHigh' : Int64) (c_gcm_keyLow' : Int64) (c_gcm_sumHigh' : Int64) (c_gcm_sumLow' : Int64) (c_gcm_tag' : Nat → Int32) (c_modes_block' : Nat → Int32) (c_modes_pad' : Nat → Int32) (hf : f_X9_servedByAes p1 p2 p3 p4 c_aes_rounds c_aes_keys c_buffer c_gcm_keyHigh c_gcm_keyLow c_gcm_sumHigh c_gcm_sumLow c_gcm_tag c_modes_block c_modes_pad = some (r_, c_buffer', c_gcm_keyHigh', c_gcm_keyLow', c_gcm_sumHigh', c_gcm_sumLow', c_gcm_tag', c_modes_block', c_modes_pad')) : Met l yX9_servedByAes wsX9_servedByAes ({ frames := 5, cells := 0, slots := 0, locals := 137 }) (zPc D cy tt sz [.ref h0, .int p1, .int p2, .int p3, .int p4] ([(h0, .inr (11, [.ref h0_buffer, .ref h0_slots, .ref h0_counters, .ref h0_officerPin, .ref h0_userPin, .ref h0_words, .ref h0_sha, .ref h0_stream, .ref h0_aes, .ref h0_modes, .ref h0_gcm, .ref h0_generator, .ref h0_tests, .ref h0_message, .ref h0_secret, .int c_state, .int c_testsDone, .int c_faults, .int c_streamBegun])), (h0_aes, .inr (2, [.ref h0_aes_keys, .int c_aes_rounds])), (h0_aes_keys, .inl (cy 1, 60, .inl c_aes_keys)), (h0_buffer, .inl (cy 0, 512, .inl c_buffer)), (h0_gcm, .inr (4, [.ref h0_aes, .ref h0_modes, .ref h0_gcm_tag, .long c_gcm_keyHigh, .long c_gcm_keyLow, .long c_gcm_sumHigh, .long c_gcm_sumLow])), (h0_gcm_tag, .inl (cy 0, 16, .inl c_gcm_tag)), (h0_modes, .inr (6, [.ref h0_aes, .ref h0_modes_block, .ref h0_modes_pad])), (h0_modes_block, .inl (cy 0, 16, .inl c_modes_block)), (h0_modes_pad, .inl (cy 0, 16, .inl c_modes_pad))])) (zQ D (some (.int r_)) ([(h0, .inr (11, [.ref h0_buffer, .ref h0_slots, .ref h0_counters, .ref h0_officerPin, .ref h0_userPin, .ref h0_words, .ref h0_sha, .ref h0_stream, .ref h0_aes, .ref h0_modes, .ref h0_gcm, .ref h0_generator, .ref h0_tests, .ref h0_message, .ref h0_secret, .int c_state, .int c_testsDone, .int c_faults, .int c_streamBegun])), (h0_aes, .inr (2, [.ref h0_aes_keys, .int c_aes_rounds])), (h0_aes_keys, .inl (cy 1, 60, .inl c_aes_keys)), (h0_buffer, .inl (cy 0, 512, .inl c_buffer')), (h0_gcm, .inr (4, [.ref h0_aes, .ref h0_modes, .ref h0_gcm_tag, .long c_gcm_keyHigh', .long c_gcm_keyLow', .long c_gcm_sumHigh', .long c_gcm_sumLow'])), (h0_gcm_tag, .inl (cy 0, 16, .inl c_gcm_tag')), (h0_modes, .inr (6, [.ref h0_aes, .ref h0_modes_block, .ref h0_modes_pad])), (h0_modes_block, .inl (cy 0, 16, .inl c_modes_block')), (h0_modes_pad, .inl (cy 0, 16, .inl c_modes_pad'))]) (va_A ([(h0, .inr (11, [.ref h0_buffer, .ref h0_slots, .ref h0_counters, .ref h0_officerPin, .ref h0_userPin, .ref h0_words, .ref h0_sha, .ref h0_stream, .ref h0_aes, .ref h0_modes, .ref h0_gcm, .ref h0_generator, .ref h0_tests, .ref h0_message, .ref h0_secret, .int c_state, .int c_testsDone, .int c_faults, .int c_streamBegun])), (h0_aes, .inr (2, [.ref h0_aes_keys, .int c_aes_rounds])), (h0_aes_keys, .inl (cy 1, 60, .inl c_aes_keys)), (h0_buffer, .inl (cy 0, 512, .inl c_buffer)), (h0_gcm, .inr (4, [.ref h0_aes, .ref h0_modes, .ref h0_gcm_tag, .long c_gcm_keyHigh, .long c_gcm_keyLow, .long c_gcm_sumHigh, .long c_gcm_sumLow])), (h0_gcm_tag, .inl (cy 0, 16, .inl c_gcm_tag)), (h0_modes, .inr (6, [.ref h0_aes, .ref h0_modes_block, .ref h0_modes_pad])), (h0_modes_block, .inl (cy 0, 16, .inl c_modes_block)), (h0_modes_pad, .inl (cy 0, 16, .inl c_modes_pad))]) sz)) 0 0 (va_A ([(h0, .inr (11, [.ref h0_buffer, .ref h0_slots, .ref h0_counters, .ref h0_officerPin, .ref h0_userPin, .ref h0_words, .ref h0_sha, .ref h0_stream, .ref h0_aes, .ref h0_modes, .ref h0_gcm, .ref h0_generator, .ref h0_tests, .ref h0_message, .ref h0_secret, .int c_state, .int c_testsDone, .int c_faults, .int c_streamBegun])), (h0_aes, .inr (2, [.ref h0_aes_keys, .int c_aes_rounds])), (h0_aes_keys, .inl (cy 1, 60, .inl c_aes_keys)), (h0_buffer, .inl (cy 0, 512, .inl c_buffer)), (h0_gcm, .inr (4, [.ref h0_aes, .ref h0_modes, .ref h0_gcm_tag, .long c_gcm_keyHigh, .long c_gcm_keyLow, .long c_gcm_sumHigh, .long c_gcm_sumLow])), (h0_gcm_tag, .inl (cy 0, 16, .inl c_gcm_tag)), (h0_modes, .inr (6, [.ref h0_aes, .ref h0_modes_block, .ref h0_modes_pad])), (h0_modes_block, .inl (cy 0, 16, .inl c_modes_block)), (h0_modes_pad, .inl (cy 0, 16, .inl c_modes_pad))]) sz) := by
  refine Met.ofW (cc := cX9_servedByAes) (maxL := 5) (ret := (some .int)) (by decide) rfl ?_
  intro p e s m args below meth c s₁ B hml hv
  obtain ⟨rfl, rfl, hP, hD0, hE⟩ := hv
  have hx := B.exec
  have hb := B.bytes
  have hr := B.returns
  have hts := atoms_spec (ws := wsX9_servedByAes) B.pre
  have hown : s.vm.findClass RX9 = some m.cls := findClass_of_methodNamed B.named
  have hlocks := B.notSynchronized
  clear B
  have hD := hD0.self (sz := s.heap.size)
  generalize hAe : va_A ([(h0, .inr (11, [.ref h0_buffer, .ref h0_slots, .ref h0_counters, .ref h0_officerPin, .ref h0_userPin, .ref h0_words, .ref h0_sha, .ref h0_stream, .ref h0_aes, .ref h0_modes, .ref h0_gcm, .ref h0_generator, .ref h0_tests, .ref h0_message, .ref h0_secret, .int c_state, .int c_testsDone, .int c_faults, .int c_streamBegun])), (h0_aes, .inr (2, [.ref h0_aes_keys, .int c_aes_rounds])), (h0_aes_keys, .inl (cy 1, 60, .inl c_aes_keys)), (h0_buffer, .inl (cy 0, 512, .inl c_buffer)), (h0_gcm, .inr (4, [.ref h0_aes, .ref h0_modes, .ref h0_gcm_tag, .long c_gcm_keyHigh, .long c_gcm_keyLow, .long c_gcm_sumHigh, .long c_gcm_sumLow])), (h0_gcm_tag, .inl (cy 0, 16, .inl c_gcm_tag)), (h0_modes, .inr (6, [.ref h0_aes, .ref h0_modes_block, .ref h0_modes_pad])), (h0_modes_block, .inl (cy 0, 16, .inl c_modes_block)), (h0_modes_pad, .inl (cy 0, 16, .inl c_modes_pad))]) s.heap.size = A at hD hE ⊢
  have hA : ∀ q : Nat, s.heap.size ≤ q → A q := fun q h => by rw [← hAe]; exact Or.inr h
  clear hAe hD0
  have hS : va_S A s.heap s.heap [] := va_S.rf
  have hK := hE.1
  have hw0 := hts (.fieldLink RX9 64 "SealedModule" "modes" "LSealedModule$Modes;") (by decide +kernel)
  have hw1 := hts (.fieldLink RX9 9 "SealedModule" "buffer" "[B") (by decide +kernel)
  have hw2 := hts (.fieldLink RX9 73 "SealedModule" "gcm" "LSealedModule$Gcm;") (by decide +kernel)
  have hcX9 : ∀ w ∈ u_ws RX9 TX9 19, w ∈ wsX9_servedByAes := (fun _ h => List.mem_cons_of_mem _ (List.mem_append_left _ (List.mem_append_left _ (List.mem_append_left _ (List.mem_append_right _ h)))))
  have hl := lv_entry ([.ref h0, .int p1, .int p2, .int p3, .int p4]) (n := 5) (Nat.le_of_ble_eq_true rfl)
  rw [lg_entry_eq]
  generalize (lg_sl ([.ref h0, .int p1, .int p2, .int p3, .int p4]) ++ List.replicate (5 - (lg_sl ([.ref h0, .int p1, .int p2, .int p3, .int p4])).length) Slot.unset).toArray = ls at hl ⊢
  replace hl : lv_has ls 5 [(0, .ref h0), (1, .int p1), (2, .int p2), (3, .int p3), (4, .int p4)] := hl
  unfold f_X9_servedByAes at hf
  refine zgo (fun GW hTo hFr => ?_)
  refine hFr _ _ _ ?_
  obtain ⟨H, hHe⟩ : ∃ H, H = s.heap := ⟨_, rfl⟩
  obtain ⟨locs, hLe⟩ : ∃ L : List Loc, L = [] := ⟨_, rfl⟩
  rw [← hHe] at hP
  replace hS : va_S A s.heap H locs := by rw [hHe, hLe]; exact hS
  refine zat hHe.symm hLe.symm ?_
  clear hHe hLe
  refine lv_iload_n (pc := 0) hx hb (zdt_at zt_X9_servedByAes_0 0 rfl) rfl (lv_at hl 1 rfl) ?_
  by_cases hs_2 : p1 = (1 : Int32)
  · replace hf := zt_s hs_2 hf
    refine lv_tableIn (pc := 1) (tgt := 44) (off := 43) hx hb (zdt_at zt_X9_servedByAes_0 1 rfl) (by rw [hs_2]; decide) (by rw [hs_2]; decide) (by rw [hs_2]; rfl) (by decide) ?_
    clear hs_2
    refine lv_aload_n (pc := 44) hx hb (zdt_at zt_X9_servedByAes_0 2 rfl) rfl (lv_at hl 0 rfl) ?_
    refine va_get (pc := 45) (D := D) (ci := 11) (v := .ref h0_modes) (C := RX9) (T := TX9) (N := 19) hx hb hts hcX9 hown hK hP 0 rfl rfl 9 (by decide) hw0 (fun _ h9 => h9) rfl (zdt_at zt_X9_servedByAes_0 3 rfl) ?_
    refine lv_aload_n (pc := 48) hx hb (zdt_at zt_X9_servedByAes_0 4 rfl) rfl (lv_at hl 0 rfl) ?_
    refine va_get (pc := 49) (D := D) (ci := 11) (v := .ref h0_buffer) (C := RX9) (T := TX9) (N := 19) hx hb hts hcX9 hown hK hP 0 rfl rfl 0 (by decide) hw1 (fun _ h9 => h9) rfl (zdt_at zt_X9_servedByAes_0 5 rfl) ?_
    refine lv_iload_n (pc := 52) hx hb (zdt_at zt_X9_servedByAes_0 6 rfl) rfl (lv_at hl 2 rfl) ?_
    refine lv_iload_n (pc := 53) hx hb (zdt_at zt_X9_servedByAes_0 7 rfl) rfl (lv_at hl 3 rfl) ?_
    replace hf := zb_s hf
    obtain ⟨c_buffer_1, hc_, hf⟩ := hf
    refine zcm2 (pc := 54) (rv := none) (va_runV (As := [.ref h0_buffer, .int p2, .int p3]) (rest := []) ⟨hx, hb, hml, hown, hts⟩ (c_X4_ecbSeal l D cy tt H.size h0_modes h0_aes h0_modes_block h0_modes_pad h0_aes_keys h0_buffer 512 p2 p3 c_aes_rounds c_aes_keys c_buffer c_buffer_1 hc_) (cwV 3 hts gX9_servedByAes_X4_ecbSeal rfl rfl rfl (by decide +kernel) ⟨Nat.le_of_ble_eq_true rfl, Nat.le_of_ble_eq_true rfl⟩) ⟨zblind, va_recv hK hP (ci := 6) (q0 := 6) rfl rfl, zpre hE hS (hP.sub [6, 1, 2, 3] rfl) (hD.sub [6, 1, 2, 3] (by decide) rfl) (va_free hD hS hA [6, 1, 2, 3] rfl)⟩ rfl rfl hl.1 rfl (lv_room (Nat.le_of_ble_eq_true rfl)) (zdt_at zt_X9_servedByAes_0 8 rfl) ⟨Nat.zero_le _, Nat.zero_le _⟩) hS hP hD (va_free hD hS hA [6, 1, 2, 3] rfl) [6, 1, 2, 3] rfl (by decide) rfl ?_
    clear hP hD hS hc_
    intro H locs hP hD hS
    replace hP : va_P D vwCl ([(h0, .inr (11, [.ref h0_buffer, .ref h0_slots, .ref h0_counters, .ref h0_officerPin, .ref h0_userPin, .ref h0_words, .ref h0_sha, .ref h0_stream, .ref h0_aes, .ref h0_modes, .ref h0_gcm, .ref h0_generator, .ref h0_tests, .ref h0_message, .ref h0_secret, .int c_state, .int c_testsDone, .int c_faults, .int c_streamBegun])), (h0_aes, .inr (2, [.ref h0_aes_keys, .int c_aes_rounds])), (h0_aes_keys, .inl (cy 1, 60, .inl c_aes_keys)), (h0_buffer, .inl (cy 0, 512, .inl c_buffer_1)), (h0_gcm, .inr (4, [.ref h0_aes, .ref h0_modes, .ref h0_gcm_tag, .long c_gcm_keyHigh, .long c_gcm_keyLow, .long c_gcm_sumHigh, .long c_gcm_sumLow])), (h0_gcm_tag, .inl (cy 0, 16, .inl c_gcm_tag)), (h0_modes, .inr (6, [.ref h0_aes, .ref h0_modes_block, .ref h0_modes_pad])), (h0_modes_block, .inl (cy 0, 16, .inl c_modes_block)), (h0_modes_pad, .inl (cy 0, 16, .inl c_modes_pad))]) H := hP
    replace hD : va_D A ([(h0, .inr (11, [.ref h0_buffer, .ref h0_slots, .ref h0_counters, .ref h0_officerPin, .ref h0_userPin, .ref h0_words, .ref h0_sha, .ref h0_stream, .ref h0_aes, .ref h0_modes, .ref h0_gcm, .ref h0_generator, .ref h0_tests, .ref h0_message, .ref h0_secret, .int c_state, .int c_testsDone, .int c_faults, .int c_streamBegun])), (h0_aes, .inr (2, [.ref h0_aes_keys, .int c_aes_rounds])), (h0_aes_keys, .inl (cy 1, 60, .inl c_aes_keys)), (h0_buffer, .inl (cy 0, 512, .inl c_buffer_1)), (h0_gcm, .inr (4, [.ref h0_aes, .ref h0_modes, .ref h0_gcm_tag, .long c_gcm_keyHigh, .long c_gcm_keyLow, .long c_gcm_sumHigh, .long c_gcm_sumLow])), (h0_gcm_tag, .inl (cy 0, 16, .inl c_gcm_tag)), (h0_modes, .inr (6, [.ref h0_aes, .ref h0_modes_block, .ref h0_modes_pad])), (h0_modes_block, .inl (cy 0, 16, .inl c_modes_block)), (h0_modes_pad, .inl (cy 0, 16, .inl c_modes_pad))]) := hD
    refine W.eq (g2 := F0 m 57 ls []) rfl ?_
    refine lv_iload_n (pc := 57) hx hb (zdt_at zt_X9_servedByAes_0 9 rfl) rfl (lv_at hl 3 rfl) ?_
    cases hf
    exact W.iret (pc := 58) hx hb hr (fun t ht hW => ⟨rfl, ⟨by rw [ht]; exact hP, hD⟩, hS.F ht⟩) hS.2.2 (zdt_at zt_X9_servedByAes_0 10 rfl)
  replace hf := ze_s hs_2 hf
  by_cases hs_4 : p1 = (2 : Int32)
  · replace hf := zt_s hs_4 hf
    refine lv_tableIn (pc := 1) (tgt := 59) (off := 58) hx hb (zdt_at zt_X9_servedByAes_0 1 rfl) (by rw [hs_4]; decide) (by rw [hs_4]; decide) (by rw [hs_4]; rfl) (by decide) ?_
    clear hs_4
    refine lv_aload_n (pc := 59) hx hb (zdt_at zt_X9_servedByAes_0 11 rfl) rfl (lv_at hl 0 rfl) ?_
    refine va_get (pc := 60) (D := D) (ci := 11) (v := .ref h0_modes) (C := RX9) (T := TX9) (N := 19) hx hb hts hcX9 hown hK hP 0 rfl rfl 9 (by decide) hw0 (fun _ h9 => h9) rfl (zdt_at zt_X9_servedByAes_0 12 rfl) ?_
    refine lv_aload_n (pc := 63) hx hb (zdt_at zt_X9_servedByAes_0 13 rfl) rfl (lv_at hl 0 rfl) ?_
    refine va_get (pc := 64) (D := D) (ci := 11) (v := .ref h0_buffer) (C := RX9) (T := TX9) (N := 19) hx hb hts hcX9 hown hK hP 0 rfl rfl 0 (by decide) hw1 (fun _ h9 => h9) rfl (zdt_at zt_X9_servedByAes_0 14 rfl) ?_
    refine lv_iload_n (pc := 67) hx hb (zdt_at zt_X9_servedByAes_0 15 rfl) rfl (lv_at hl 2 rfl) ?_
    refine lv_iload_n (pc := 68) hx hb (zdt_at zt_X9_servedByAes_0 16 rfl) rfl (lv_at hl 3 rfl) ?_
    replace hf := zb_s hf
    obtain ⟨c_buffer_3, hc_, hf⟩ := hf
    refine zcm2 (pc := 69) (rv := none) (va_runV (As := [.ref h0_buffer, .int p2, .int p3]) (rest := []) ⟨hx, hb, hml, hown, hts⟩ (c_X4_ecbOpen l D cy tt H.size h0_modes h0_aes h0_modes_block h0_modes_pad h0_aes_keys h0_buffer 512 p2 p3 c_aes_rounds c_aes_keys c_buffer c_buffer_3 hc_) (cwV 3 hts gX9_servedByAes_X4_ecbOpen rfl rfl rfl (by decide +kernel) ⟨Nat.le_of_ble_eq_true rfl, Nat.le_of_ble_eq_true rfl⟩) ⟨zblind, va_recv hK hP (ci := 6) (q0 := 6) rfl rfl, zpre hE hS (hP.sub [6, 1, 2, 3] rfl) (hD.sub [6, 1, 2, 3] (by decide) rfl) (va_free hD hS hA [6, 1, 2, 3] rfl)⟩ rfl rfl hl.1 rfl (lv_room (Nat.le_of_ble_eq_true rfl)) (zdt_at zt_X9_servedByAes_0 17 rfl) ⟨Nat.zero_le _, Nat.zero_le _⟩) hS hP hD (va_free hD hS hA [6, 1, 2, 3] rfl) [6, 1, 2, 3] rfl (by decide) rfl ?_
    clear hP hD hS hc_
    intro H locs hP hD hS
    replace hP : va_P D vwCl ([(h0, .inr (11, [.ref h0_buffer, .ref h0_slots, .ref h0_counters, .ref h0_officerPin, .ref h0_userPin, .ref h0_words, .ref h0_sha, .ref h0_stream, .ref h0_aes, .ref h0_modes, .ref h0_gcm, .ref h0_generator, .ref h0_tests, .ref h0_message, .ref h0_secret, .int c_state, .int c_testsDone, .int c_faults, .int c_streamBegun])), (h0_aes, .inr (2, [.ref h0_aes_keys, .int c_aes_rounds])), (h0_aes_keys, .inl (cy 1, 60, .inl c_aes_keys)), (h0_buffer, .inl (cy 0, 512, .inl c_buffer_3)), (h0_gcm, .inr (4, [.ref h0_aes, .ref h0_modes, .ref h0_gcm_tag, .long c_gcm_keyHigh, .long c_gcm_keyLow, .long c_gcm_sumHigh, .long c_gcm_sumLow])), (h0_gcm_tag, .inl (cy 0, 16, .inl c_gcm_tag)), (h0_modes, .inr (6, [.ref h0_aes, .ref h0_modes_block, .ref h0_modes_pad])), (h0_modes_block, .inl (cy 0, 16, .inl c_modes_block)), (h0_modes_pad, .inl (cy 0, 16, .inl c_modes_pad))]) H := hP
    replace hD : va_D A ([(h0, .inr (11, [.ref h0_buffer, .ref h0_slots, .ref h0_counters, .ref h0_officerPin, .ref h0_userPin, .ref h0_words, .ref h0_sha, .ref h0_stream, .ref h0_aes, .ref h0_modes, .ref h0_gcm, .ref h0_generator, .ref h0_tests, .ref h0_message, .ref h0_secret, .int c_state, .int c_testsDone, .int c_faults, .int c_streamBegun])), (h0_aes, .inr (2, [.ref h0_aes_keys, .int c_aes_rounds])), (h0_aes_keys, .inl (cy 1, 60, .inl c_aes_keys)), (h0_buffer, .inl (cy 0, 512, .inl c_buffer_3)), (h0_gcm, .inr (4, [.ref h0_aes, .ref h0_modes, .ref h0_gcm_tag, .long c_gcm_keyHigh, .long c_gcm_keyLow, .long c_gcm_sumHigh, .long c_gcm_sumLow])), (h0_gcm_tag, .inl (cy 0, 16, .inl c_gcm_tag)), (h0_modes, .inr (6, [.ref h0_aes, .ref h0_modes_block, .ref h0_modes_pad])), (h0_modes_block, .inl (cy 0, 16, .inl c_modes_block)), (h0_modes_pad, .inl (cy 0, 16, .inl c_modes_pad))]) := hD
    refine W.eq (g2 := F0 m 72 ls []) rfl ?_
    refine lv_iload_n (pc := 72) hx hb (zdt_at zt_X9_servedByAes_0 18 rfl) rfl (lv_at hl 3 rfl) ?_
    cases hf
    exact W.iret (pc := 73) hx hb hr (fun t ht hW => ⟨rfl, ⟨by rw [ht]; exact hP, hD⟩, hS.F ht⟩) hS.2.2 (zdt_at zt_X9_servedByAes_0 19 rfl)
  replace hf := ze_s hs_4 hf
  by_cases hs_6 : p1 = (3 : Int32)
  · replace hf := zt_s hs_6 hf
    refine lv_tableIn (pc := 1) (tgt := 74) (off := 73) hx hb (zdt_at zt_X9_servedByAes_0 1 rfl) (by rw [hs_6]; decide) (by rw [hs_6]; decide) (by rw [hs_6]; rfl) (by decide) ?_
    clear hs_6
    refine lv_aload_n (pc := 74) hx hb (zdt_at zt_X9_servedByAes_0 20 rfl) rfl (lv_at hl 0 rfl) ?_
    refine va_get (pc := 75) (D := D) (ci := 11) (v := .ref h0_modes) (C := RX9) (T := TX9) (N := 19) hx hb hts hcX9 hown hK hP 0 rfl rfl 9 (by decide) hw0 (fun _ h9 => h9) rfl (zdt_at zt_X9_servedByAes_0 21 rfl) ?_
    refine lv_aload_n (pc := 78) hx hb (zdt_at zt_X9_servedByAes_0 22 rfl) rfl (lv_at hl 0 rfl) ?_
    refine va_get (pc := 79) (D := D) (ci := 11) (v := .ref h0_buffer) (C := RX9) (T := TX9) (N := 19) hx hb hts hcX9 hown hK hP 0 rfl rfl 0 (by decide) hw1 (fun _ h9 => h9) rfl (zdt_at zt_X9_servedByAes_0 23 rfl) ?_
    refine lv_iload_n (pc := 82) hx hb (zdt_at zt_X9_servedByAes_0 24 rfl) rfl (lv_at hl 2 rfl) ?_
    refine lv_iload_n (pc := 83) hx hb (zdt_at zt_X9_servedByAes_0 25 rfl) rfl (lv_at hl 3 rfl) ?_
    replace hf := zb_s hf
    obtain ⟨c_buffer_5, hc_, hf⟩ := hf
    refine zcm2 (pc := 84) (rv := none) (va_runV (As := [.ref h0_buffer, .int p2, .int p3]) (rest := []) ⟨hx, hb, hml, hown, hts⟩ (c_X4_cbcSeal l D cy tt H.size h0_modes h0_aes h0_modes_block h0_modes_pad h0_aes_keys h0_buffer 512 p2 p3 c_aes_rounds c_aes_keys c_buffer c_buffer_5 hc_) (cwV 3 hts gX9_servedByAes_X4_cbcSeal rfl rfl rfl (by decide +kernel) ⟨Nat.le_of_ble_eq_true rfl, Nat.le_of_ble_eq_true rfl⟩) ⟨zblind, va_recv hK hP (ci := 6) (q0 := 6) rfl rfl, zpre hE hS (hP.sub [6, 1, 2, 3] rfl) (hD.sub [6, 1, 2, 3] (by decide) rfl) (va_free hD hS hA [6, 1, 2, 3] rfl)⟩ rfl rfl hl.1 rfl (lv_room (Nat.le_of_ble_eq_true rfl)) (zdt_at zt_X9_servedByAes_0 26 rfl) ⟨Nat.zero_le _, Nat.zero_le _⟩) hS hP hD (va_free hD hS hA [6, 1, 2, 3] rfl) [6, 1, 2, 3] rfl (by decide) rfl ?_
    clear hP hD hS hc_
    intro H locs hP hD hS
    replace hP : va_P D vwCl ([(h0, .inr (11, [.ref h0_buffer, .ref h0_slots, .ref h0_counters, .ref h0_officerPin, .ref h0_userPin, .ref h0_words, .ref h0_sha, .ref h0_stream, .ref h0_aes, .ref h0_modes, .ref h0_gcm, .ref h0_generator, .ref h0_tests, .ref h0_message, .ref h0_secret, .int c_state, .int c_testsDone, .int c_faults, .int c_streamBegun])), (h0_aes, .inr (2, [.ref h0_aes_keys, .int c_aes_rounds])), (h0_aes_keys, .inl (cy 1, 60, .inl c_aes_keys)), (h0_buffer, .inl (cy 0, 512, .inl c_buffer_5)), (h0_gcm, .inr (4, [.ref h0_aes, .ref h0_modes, .ref h0_gcm_tag, .long c_gcm_keyHigh, .long c_gcm_keyLow, .long c_gcm_sumHigh, .long c_gcm_sumLow])), (h0_gcm_tag, .inl (cy 0, 16, .inl c_gcm_tag)), (h0_modes, .inr (6, [.ref h0_aes, .ref h0_modes_block, .ref h0_modes_pad])), (h0_modes_block, .inl (cy 0, 16, .inl c_modes_block)), (h0_modes_pad, .inl (cy 0, 16, .inl c_modes_pad))]) H := hP
    replace hD : va_D A ([(h0, .inr (11, [.ref h0_buffer, .ref h0_slots, .ref h0_counters, .ref h0_officerPin, .ref h0_userPin, .ref h0_words, .ref h0_sha, .ref h0_stream, .ref h0_aes, .ref h0_modes, .ref h0_gcm, .ref h0_generator, .ref h0_tests, .ref h0_message, .ref h0_secret, .int c_state, .int c_testsDone, .int c_faults, .int c_streamBegun])), (h0_aes, .inr (2, [.ref h0_aes_keys, .int c_aes_rounds])), (h0_aes_keys, .inl (cy 1, 60, .inl c_aes_keys)), (h0_buffer, .inl (cy 0, 512, .inl c_buffer_5)), (h0_gcm, .inr (4, [.ref h0_aes, .ref h0_modes, .ref h0_gcm_tag, .long c_gcm_keyHigh, .long c_gcm_keyLow, .long c_gcm_sumHigh, .long c_gcm_sumLow])), (h0_gcm_tag, .inl (cy 0, 16, .inl c_gcm_tag)), (h0_modes, .inr (6, [.ref h0_aes, .ref h0_modes_block, .ref h0_modes_pad])), (h0_modes_block, .inl (cy 0, 16, .inl c_modes_block)), (h0_modes_pad, .inl (cy 0, 16, .inl c_modes_pad))]) := hD
    refine W.eq (g2 := F0 m 87 ls []) rfl ?_
    refine lv_iload_n (pc := 87) hx hb (zdt_at zt_X9_servedByAes_0 27 rfl) rfl (lv_at hl 3 rfl) ?_
    cases hf
    exact W.iret (pc := 88) hx hb hr (fun t ht hW => ⟨rfl, ⟨by rw [ht]; exact hP, hD⟩, hS.F ht⟩) hS.2.2 (zdt_at zt_X9_servedByAes_0 28 rfl)
  replace hf := ze_s hs_6 hf
  by_cases hs_8 : p1 = (4 : Int32)
  · replace hf := zt_s hs_8 hf
    refine lv_tableIn (pc := 1) (tgt := 89) (off := 88) hx hb (zdt_at zt_X9_servedByAes_0 1 rfl) (by rw [hs_8]; decide) (by rw [hs_8]; decide) (by rw [hs_8]; rfl) (by decide) ?_
    clear hs_8
    refine lv_aload_n (pc := 89) hx hb (zdt_at zt_X9_servedByAes_0 29 rfl) rfl (lv_at hl 0 rfl) ?_
    refine va_get (pc := 90) (D := D) (ci := 11) (v := .ref h0_modes) (C := RX9) (T := TX9) (N := 19) hx hb hts hcX9 hown hK hP 0 rfl rfl 9 (by decide) hw0 (fun _ h9 => h9) rfl (zdt_at zt_X9_servedByAes_0 30 rfl) ?_
    refine lv_aload_n (pc := 93) hx hb (zdt_at zt_X9_servedByAes_0 31 rfl) rfl (lv_at hl 0 rfl) ?_
    refine va_get (pc := 94) (D := D) (ci := 11) (v := .ref h0_buffer) (C := RX9) (T := TX9) (N := 19) hx hb hts hcX9 hown hK hP 0 rfl rfl 0 (by decide) hw1 (fun _ h9 => h9) rfl (zdt_at zt_X9_servedByAes_0 32 rfl) ?_
    refine lv_iload_n (pc := 97) hx hb (zdt_at zt_X9_servedByAes_0 33 rfl) rfl (lv_at hl 2 rfl) ?_
    refine lv_iload_n (pc := 98) hx hb (zdt_at zt_X9_servedByAes_0 34 rfl) rfl (lv_at hl 3 rfl) ?_
    replace hf := zb_s hf
    obtain ⟨c_buffer_7, hc_, hf⟩ := hf
    refine zcm2 (pc := 99) (rv := none) (va_runV (As := [.ref h0_buffer, .int p2, .int p3]) (rest := []) ⟨hx, hb, hml, hown, hts⟩ (c_X4_cbcOpen l D cy tt H.size h0_modes h0_aes h0_modes_block h0_modes_pad h0_aes_keys h0_buffer 512 p2 p3 c_aes_rounds c_aes_keys c_buffer c_buffer_7 hc_) (cwV 3 hts gX9_servedByAes_X4_cbcOpen rfl rfl rfl (by decide +kernel) ⟨Nat.le_of_ble_eq_true rfl, Nat.le_of_ble_eq_true rfl⟩) ⟨zblind, va_recv hK hP (ci := 6) (q0 := 6) rfl rfl, zpre hE hS (hP.sub [6, 1, 2, 3] rfl) (hD.sub [6, 1, 2, 3] (by decide) rfl) (va_free hD hS hA [6, 1, 2, 3] rfl)⟩ rfl rfl hl.1 rfl (lv_room (Nat.le_of_ble_eq_true rfl)) (zdt_at zt_X9_servedByAes_0 35 rfl) ⟨Nat.zero_le _, Nat.zero_le _⟩) hS hP hD (va_free hD hS hA [6, 1, 2, 3] rfl) [6, 1, 2, 3] rfl (by decide) rfl ?_
    clear hP hD hS hc_
    intro H locs hP hD hS
    replace hP : va_P D vwCl ([(h0, .inr (11, [.ref h0_buffer, .ref h0_slots, .ref h0_counters, .ref h0_officerPin, .ref h0_userPin, .ref h0_words, .ref h0_sha, .ref h0_stream, .ref h0_aes, .ref h0_modes, .ref h0_gcm, .ref h0_generator, .ref h0_tests, .ref h0_message, .ref h0_secret, .int c_state, .int c_testsDone, .int c_faults, .int c_streamBegun])), (h0_aes, .inr (2, [.ref h0_aes_keys, .int c_aes_rounds])), (h0_aes_keys, .inl (cy 1, 60, .inl c_aes_keys)), (h0_buffer, .inl (cy 0, 512, .inl c_buffer_7)), (h0_gcm, .inr (4, [.ref h0_aes, .ref h0_modes, .ref h0_gcm_tag, .long c_gcm_keyHigh, .long c_gcm_keyLow, .long c_gcm_sumHigh, .long c_gcm_sumLow])), (h0_gcm_tag, .inl (cy 0, 16, .inl c_gcm_tag)), (h0_modes, .inr (6, [.ref h0_aes, .ref h0_modes_block, .ref h0_modes_pad])), (h0_modes_block, .inl (cy 0, 16, .inl c_modes_block)), (h0_modes_pad, .inl (cy 0, 16, .inl c_modes_pad))]) H := hP
    replace hD : va_D A ([(h0, .inr (11, [.ref h0_buffer, .ref h0_slots, .ref h0_counters, .ref h0_officerPin, .ref h0_userPin, .ref h0_words, .ref h0_sha, .ref h0_stream, .ref h0_aes, .ref h0_modes, .ref h0_gcm, .ref h0_generator, .ref h0_tests, .ref h0_message, .ref h0_secret, .int c_state, .int c_testsDone, .int c_faults, .int c_streamBegun])), (h0_aes, .inr (2, [.ref h0_aes_keys, .int c_aes_rounds])), (h0_aes_keys, .inl (cy 1, 60, .inl c_aes_keys)), (h0_buffer, .inl (cy 0, 512, .inl c_buffer_7)), (h0_gcm, .inr (4, [.ref h0_aes, .ref h0_modes, .ref h0_gcm_tag, .long c_gcm_keyHigh, .long c_gcm_keyLow, .long c_gcm_sumHigh, .long c_gcm_sumLow])), (h0_gcm_tag, .inl (cy 0, 16, .inl c_gcm_tag)), (h0_modes, .inr (6, [.ref h0_aes, .ref h0_modes_block, .ref h0_modes_pad])), (h0_modes_block, .inl (cy 0, 16, .inl c_modes_block)), (h0_modes_pad, .inl (cy 0, 16, .inl c_modes_pad))]) := hD
    refine W.eq (g2 := F0 m 102 ls []) rfl ?_
    refine lv_iload_n (pc := 102) hx hb (zdt_at zt_X9_servedByAes_0 36 rfl) rfl (lv_at hl 3 rfl) ?_
    cases hf
    exact W.iret (pc := 103) hx hb hr (fun t ht hW => ⟨rfl, ⟨by rw [ht]; exact hP, hD⟩, hS.F ht⟩) hS.2.2 (zdt_at zt_X9_servedByAes_0 37 rfl)
  replace hf := ze_s hs_8 hf
  by_cases hs_12 : p1 = (5 : Int32)
  · replace hf := zt_s hs_12 hf
    refine lv_tableIn (pc := 1) (tgt := 104) (off := 103) hx hb (zdt_at zt_X9_servedByAes_0 1 rfl) (by rw [hs_12]; decide) (by rw [hs_12]; decide) (by rw [hs_12]; rfl) (by decide) ?_
    clear hs_12
    refine lv_aload_n (pc := 104) hx hb (zdt_at zt_X9_servedByAes_0 38 rfl) rfl (lv_at hl 0 rfl) ?_
    refine va_get (pc := 105) (D := D) (ci := 11) (v := .ref h0_modes) (C := RX9) (T := TX9) (N := 19) hx hb hts hcX9 hown hK hP 0 rfl rfl 9 (by decide) hw0 (fun _ h9 => h9) rfl (zdt_at zt_X9_servedByAes_0 39 rfl) ?_
    refine lv_aload_n (pc := 108) hx hb (zdt_at zt_X9_servedByAes_0 40 rfl) rfl (lv_at hl 0 rfl) ?_
    refine va_get (pc := 109) (D := D) (ci := 11) (v := .ref h0_buffer) (C := RX9) (T := TX9) (N := 19) hx hb hts hcX9 hown hK hP 0 rfl rfl 0 (by decide) hw1 (fun _ h9 => h9) rfl (zdt_at zt_X9_servedByAes_0 41 rfl) ?_
    refine lv_iload_n (pc := 112) hx hb (zdt_at zt_X9_servedByAes_0 42 rfl) rfl (lv_at hl 2 rfl) ?_
    refine lv_iload_n (pc := 113) hx hb (zdt_at zt_X9_servedByAes_0 43 rfl) rfl (lv_at hl 2 rfl) ?_
    refine lv_bipush (pc := 114) (v := (16 : Int32)) hx hb (zdt_at zt_X9_servedByAes_0 44 rfl) (by decide) ?_
    refine lv_iadd (pc := 116) hx hb (zdt_at zt_X9_servedByAes_0 45 rfl) ?_
    refine lv_iload_n (pc := 117) hx hb (zdt_at zt_X9_servedByAes_0 46 rfl) rfl (lv_at hl 3 rfl) ?_
    refine lv_bipush (pc := 118) (v := (16 : Int32)) hx hb (zdt_at zt_X9_servedByAes_0 47 rfl) (by decide) ?_
    refine lv_isub (pc := 120) hx hb (zdt_at zt_X9_servedByAes_0 48 rfl) ?_
    replace hf := zb_s hf
    obtain ⟨⟨c_modes_block_9, c_modes_pad_10, c_buffer_11⟩, hc_, hf⟩ := hf
    refine zcm2 (pc := 121) (rv := none) (va_runV (As := [.ref h0_buffer, .int p2, .int (p2 + (16 : Int32)), .int (p3 - (16 : Int32))]) (rest := []) ⟨hx, hb, hml, hown, hts⟩ (c_X4_addStream l D cy tt H.size h0_modes h0_aes h0_modes_block h0_modes_pad h0_aes_keys h0_buffer 512 p2 (p2 + (16 : Int32)) (p3 - (16 : Int32)) c_aes_rounds c_aes_keys c_modes_block c_modes_pad c_buffer c_modes_block_9 c_modes_pad_10 c_buffer_11 hc_) (cwV 4 hts gX9_servedByAes_X4_addStream rfl rfl rfl (by decide +kernel) ⟨Nat.le_of_ble_eq_true rfl, Nat.le_of_ble_eq_true rfl⟩) ⟨zblind, va_recv hK hP (ci := 6) (q0 := 6) rfl rfl, zpre hE hS (hP.sub [6, 1, 2, 7, 8, 3] rfl) (hD.sub [6, 1, 2, 7, 8, 3] (by decide) rfl) (va_free hD hS hA [6, 1, 2, 7, 8, 3] rfl)⟩ rfl rfl hl.1 rfl (lv_room (Nat.le_of_ble_eq_true rfl)) (zdt_at zt_X9_servedByAes_0 49 rfl) ⟨Nat.zero_le _, Nat.zero_le _⟩) hS hP hD (va_free hD hS hA [6, 1, 2, 7, 8, 3] rfl) [6, 1, 2, 7, 8, 3] rfl (by decide) rfl ?_
    clear hP hD hS hc_
    intro H locs hP hD hS
    replace hP : va_P D vwCl ([(h0, .inr (11, [.ref h0_buffer, .ref h0_slots, .ref h0_counters, .ref h0_officerPin, .ref h0_userPin, .ref h0_words, .ref h0_sha, .ref h0_stream, .ref h0_aes, .ref h0_modes, .ref h0_gcm, .ref h0_generator, .ref h0_tests, .ref h0_message, .ref h0_secret, .int c_state, .int c_testsDone, .int c_faults, .int c_streamBegun])), (h0_aes, .inr (2, [.ref h0_aes_keys, .int c_aes_rounds])), (h0_aes_keys, .inl (cy 1, 60, .inl c_aes_keys)), (h0_buffer, .inl (cy 0, 512, .inl c_buffer_11)), (h0_gcm, .inr (4, [.ref h0_aes, .ref h0_modes, .ref h0_gcm_tag, .long c_gcm_keyHigh, .long c_gcm_keyLow, .long c_gcm_sumHigh, .long c_gcm_sumLow])), (h0_gcm_tag, .inl (cy 0, 16, .inl c_gcm_tag)), (h0_modes, .inr (6, [.ref h0_aes, .ref h0_modes_block, .ref h0_modes_pad])), (h0_modes_block, .inl (cy 0, 16, .inl c_modes_block_9)), (h0_modes_pad, .inl (cy 0, 16, .inl c_modes_pad_10))]) H := hP
    replace hD : va_D A ([(h0, .inr (11, [.ref h0_buffer, .ref h0_slots, .ref h0_counters, .ref h0_officerPin, .ref h0_userPin, .ref h0_words, .ref h0_sha, .ref h0_stream, .ref h0_aes, .ref h0_modes, .ref h0_gcm, .ref h0_generator, .ref h0_tests, .ref h0_message, .ref h0_secret, .int c_state, .int c_testsDone, .int c_faults, .int c_streamBegun])), (h0_aes, .inr (2, [.ref h0_aes_keys, .int c_aes_rounds])), (h0_aes_keys, .inl (cy 1, 60, .inl c_aes_keys)), (h0_buffer, .inl (cy 0, 512, .inl c_buffer_11)), (h0_gcm, .inr (4, [.ref h0_aes, .ref h0_modes, .ref h0_gcm_tag, .long c_gcm_keyHigh, .long c_gcm_keyLow, .long c_gcm_sumHigh, .long c_gcm_sumLow])), (h0_gcm_tag, .inl (cy 0, 16, .inl c_gcm_tag)), (h0_modes, .inr (6, [.ref h0_aes, .ref h0_modes_block, .ref h0_modes_pad])), (h0_modes_block, .inl (cy 0, 16, .inl c_modes_block_9)), (h0_modes_pad, .inl (cy 0, 16, .inl c_modes_pad_10))]) := hD
    refine W.eq (g2 := F0 m 124 ls []) rfl ?_
    refine lv_iload_n (pc := 124) hx hb (zdt_at zt_X9_servedByAes_0 50 rfl) rfl (lv_at hl 3 rfl) ?_
    cases hf
    exact W.iret (pc := 125) hx hb hr (fun t ht hW => ⟨rfl, ⟨by rw [ht]; exact hP, hD⟩, hS.F ht⟩) hS.2.2 (zdt_at zt_X9_servedByAes_0 51 rfl)
  replace hf := ze_s hs_12 hf
  by_cases hs_21 : p1 = (6 : Int32)
  · replace hf := zt_s hs_21 hf
    refine lv_tableIn (pc := 1) (tgt := 126) (off := 125) hx hb (zdt_at zt_X9_servedByAes_0 1 rfl) (by rw [hs_21]; decide) (by rw [hs_21]; decide) (by rw [hs_21]; rfl) (by decide) ?_
    clear hs_21
    refine lv_aload_n (pc := 126) hx hb (zdt_at zt_X9_servedByAes_0 52 rfl) rfl (lv_at hl 0 rfl) ?_
    refine va_get (pc := 127) (D := D) (ci := 11) (v := .ref h0_gcm) (C := RX9) (T := TX9) (N := 19) hx hb hts hcX9 hown hK hP 0 rfl rfl 10 (by decide) hw2 (fun _ h9 => h9) rfl (zdt_at zt_X9_servedByAes_0 53 rfl) ?_
    refine lv_aload_n (pc := 130) hx hb (zdt_at zt_X9_servedByAes_0 54 rfl) rfl (lv_at hl 0 rfl) ?_
    refine va_get (pc := 131) (D := D) (ci := 11) (v := .ref h0_buffer) (C := RX9) (T := TX9) (N := 19) hx hb hts hcX9 hown hK hP 0 rfl rfl 0 (by decide) hw1 (fun _ h9 => h9) rfl (zdt_at zt_X9_servedByAes_0 55 rfl) ?_
    refine lv_iload_n (pc := 134) hx hb (zdt_at zt_X9_servedByAes_0 56 rfl) rfl (lv_at hl 2 rfl) ?_
    refine lv_iload (pc := 135) hx hb (zdt_at zt_X9_servedByAes_0 57 rfl) (lv_at hl 4 rfl) ?_
    refine lv_iload_n (pc := 137) hx hb (zdt_at zt_X9_servedByAes_0 58 rfl) rfl (lv_at hl 3 rfl) ?_
    refine lv_bipush (pc := 138) (v := (12 : Int32)) hx hb (zdt_at zt_X9_servedByAes_0 59 rfl) (by decide) ?_
    refine lv_isub (pc := 140) hx hb (zdt_at zt_X9_servedByAes_0 60 rfl) ?_
    refine lv_iload (pc := 141) hx hb (zdt_at zt_X9_servedByAes_0 61 rfl) (lv_at hl 4 rfl) ?_
    refine lv_isub (pc := 143) hx hb (zdt_at zt_X9_servedByAes_0 62 rfl) ?_
    replace hf := zb_s hf
    obtain ⟨⟨c_gcm_keyHigh_13, c_gcm_keyLow_14, c_gcm_sumHigh_15, c_gcm_sumLow_16, c_modes_block_17, c_modes_pad_18, c_gcm_tag_19, c_buffer_20⟩, hc_, hf⟩ := hf
    refine zcm2 (pc := 144) (rv := none) (va_runV (As := [.ref h0_buffer, .int p2, .int p4, .int ((p3 - (12 : Int32)) - p4)]) (rest := []) ⟨hx, hb, hml, hown, hts⟩ (c_X2_sealText l D cy tt H.size h0_gcm h0_aes h0_modes h0_gcm_tag h0_aes_keys h0_modes_block h0_modes_pad h0_buffer 512 p2 p4 ((p3 - (12 : Int32)) - p4) c_gcm_keyHigh c_gcm_keyLow c_gcm_sumHigh c_gcm_sumLow c_aes_rounds c_aes_keys c_modes_block c_modes_pad c_gcm_tag c_buffer c_gcm_keyHigh_13 c_gcm_keyLow_14 c_gcm_sumHigh_15 c_gcm_sumLow_16 c_modes_block_17 c_modes_pad_18 c_gcm_tag_19 c_buffer_20 hc_) (cwV 4 hts gX9_servedByAes_X2_sealText rfl rfl rfl (by decide +kernel) ⟨Nat.le_of_ble_eq_true rfl, Nat.le_of_ble_eq_true rfl⟩) ⟨zblind, va_recv hK hP (ci := 4) (q0 := 4) rfl rfl, zpre hE hS (hP.sub [4, 1, 2, 6, 7, 8, 5, 3] rfl) (hD.sub [4, 1, 2, 6, 7, 8, 5, 3] (by decide) rfl) (va_free hD hS hA [4, 1, 2, 6, 7, 8, 5, 3] rfl)⟩ rfl rfl hl.1 rfl (lv_room (Nat.le_of_ble_eq_true rfl)) (zdt_at zt_X9_servedByAes_0 63 rfl) ⟨Nat.zero_le _, Nat.zero_le _⟩) hS hP hD (va_free hD hS hA [4, 1, 2, 6, 7, 8, 5, 3] rfl) [4, 1, 2, 6, 7, 8, 5, 3] rfl (by decide) rfl ?_
    clear hP hD hS hc_
    intro H locs hP hD hS
    replace hP : va_P D vwCl ([(h0, .inr (11, [.ref h0_buffer, .ref h0_slots, .ref h0_counters, .ref h0_officerPin, .ref h0_userPin, .ref h0_words, .ref h0_sha, .ref h0_stream, .ref h0_aes, .ref h0_modes, .ref h0_gcm, .ref h0_generator, .ref h0_tests, .ref h0_message, .ref h0_secret, .int c_state, .int c_testsDone, .int c_faults, .int c_streamBegun])), (h0_aes, .inr (2, [.ref h0_aes_keys, .int c_aes_rounds])), (h0_aes_keys, .inl (cy 1, 60, .inl c_aes_keys)), (h0_buffer, .inl (cy 0, 512, .inl c_buffer_20)), (h0_gcm, .inr (4, [.ref h0_aes, .ref h0_modes, .ref h0_gcm_tag, .long c_gcm_keyHigh_13, .long c_gcm_keyLow_14, .long c_gcm_sumHigh_15, .long c_gcm_sumLow_16])), (h0_gcm_tag, .inl (cy 0, 16, .inl c_gcm_tag_19)), (h0_modes, .inr (6, [.ref h0_aes, .ref h0_modes_block, .ref h0_modes_pad])), (h0_modes_block, .inl (cy 0, 16, .inl c_modes_block_17)), (h0_modes_pad, .inl (cy 0, 16, .inl c_modes_pad_18))]) H := hP
    replace hD : va_D A ([(h0, .inr (11, [.ref h0_buffer, .ref h0_slots, .ref h0_counters, .ref h0_officerPin, .ref h0_userPin, .ref h0_words, .ref h0_sha, .ref h0_stream, .ref h0_aes, .ref h0_modes, .ref h0_gcm, .ref h0_generator, .ref h0_tests, .ref h0_message, .ref h0_secret, .int c_state, .int c_testsDone, .int c_faults, .int c_streamBegun])), (h0_aes, .inr (2, [.ref h0_aes_keys, .int c_aes_rounds])), (h0_aes_keys, .inl (cy 1, 60, .inl c_aes_keys)), (h0_buffer, .inl (cy 0, 512, .inl c_buffer_20)), (h0_gcm, .inr (4, [.ref h0_aes, .ref h0_modes, .ref h0_gcm_tag, .long c_gcm_keyHigh_13, .long c_gcm_keyLow_14, .long c_gcm_sumHigh_15, .long c_gcm_sumLow_16])), (h0_gcm_tag, .inl (cy 0, 16, .inl c_gcm_tag_19)), (h0_modes, .inr (6, [.ref h0_aes, .ref h0_modes_block, .ref h0_modes_pad])), (h0_modes_block, .inl (cy 0, 16, .inl c_modes_block_17)), (h0_modes_pad, .inl (cy 0, 16, .inl c_modes_pad_18))]) := hD
    refine W.eq (g2 := F0 m 147 ls []) rfl ?_
    refine lv_iload_n (pc := 147) hx hb (zdt_at zt_X9_servedByAes_1 0 rfl) rfl (lv_at hl 3 rfl) ?_
    refine lv_bipush (pc := 148) (v := (16 : Int32)) hx hb (zdt_at zt_X9_servedByAes_1 1 rfl) (by decide) ?_
    refine lv_iadd (pc := 150) hx hb (zdt_at zt_X9_servedByAes_1 2 rfl) ?_
    cases hf
    exact W.iret (pc := 151) hx hb hr (fun t ht hW => ⟨rfl, ⟨by rw [ht]; exact hP, hD⟩, hS.F ht⟩) hS.2.2 (zdt_at zt_X9_servedByAes_1 3 rfl)
  replace hf := ze_s hs_21 hf
  by_cases hs_33 : p1 = (7 : Int32)
  · replace hf := zt_s hs_33 hf
    refine lv_tableIn (pc := 1) (tgt := 152) (off := 151) hx hb (zdt_at zt_X9_servedByAes_0 1 rfl) (by rw [hs_33]; decide) (by rw [hs_33]; decide) (by rw [hs_33]; rfl) (by decide) ?_
    clear hs_33
    refine lv_aload_n (pc := 152) hx hb (zdt_at zt_X9_servedByAes_1 4 rfl) rfl (lv_at hl 0 rfl) ?_
    refine va_get (pc := 153) (D := D) (ci := 11) (v := .ref h0_gcm) (C := RX9) (T := TX9) (N := 19) hx hb hts hcX9 hown hK hP 0 rfl rfl 10 (by decide) hw2 (fun _ h9 => h9) rfl (zdt_at zt_X9_servedByAes_1 5 rfl) ?_
    refine lv_aload_n (pc := 156) hx hb (zdt_at zt_X9_servedByAes_1 6 rfl) rfl (lv_at hl 0 rfl) ?_
    refine va_get (pc := 157) (D := D) (ci := 11) (v := .ref h0_buffer) (C := RX9) (T := TX9) (N := 19) hx hb hts hcX9 hown hK hP 0 rfl rfl 0 (by decide) hw1 (fun _ h9 => h9) rfl (zdt_at zt_X9_servedByAes_1 7 rfl) ?_
    refine lv_iload_n (pc := 160) hx hb (zdt_at zt_X9_servedByAes_1 8 rfl) rfl (lv_at hl 2 rfl) ?_
    refine lv_iload (pc := 161) hx hb (zdt_at zt_X9_servedByAes_1 9 rfl) (lv_at hl 4 rfl) ?_
    refine lv_iload_n (pc := 163) hx hb (zdt_at zt_X9_servedByAes_1 10 rfl) rfl (lv_at hl 3 rfl) ?_
    refine lv_bipush (pc := 164) (v := (12 : Int32)) hx hb (zdt_at zt_X9_servedByAes_1 11 rfl) (by decide) ?_
    refine lv_isub (pc := 166) hx hb (zdt_at zt_X9_servedByAes_1 12 rfl) ?_
    refine lv_iload (pc := 167) hx hb (zdt_at zt_X9_servedByAes_1 13 rfl) (lv_at hl 4 rfl) ?_
    refine lv_isub (pc := 169) hx hb (zdt_at zt_X9_servedByAes_1 14 rfl) ?_
    refine lv_bipush (pc := 170) (v := (16 : Int32)) hx hb (zdt_at zt_X9_servedByAes_1 15 rfl) (by decide) ?_
    refine lv_isub (pc := 172) hx hb (zdt_at zt_X9_servedByAes_1 16 rfl) ?_
    replace hf := zb_s hf
    obtain ⟨⟨r_22, c_gcm_keyHigh_23, c_gcm_keyLow_24, c_gcm_sumHigh_25, c_gcm_sumLow_26, c_modes_block_27, c_modes_pad_28, c_gcm_tag_29, c_buffer_30⟩, hc_, hf⟩ := hf
    refine zcm2 (pc := 173) (rv := (some (.int r_22))) (va_runV (As := [.ref h0_buffer, .int p2, .int p4, .int (((p3 - (12 : Int32)) - p4) - (16 : Int32))]) (rest := []) ⟨hx, hb, hml, hown, hts⟩ (c_X2_openText l D cy tt H.size h0_gcm h0_aes h0_modes h0_gcm_tag h0_aes_keys h0_modes_block h0_modes_pad h0_buffer 512 p2 p4 (((p3 - (12 : Int32)) - p4) - (16 : Int32)) c_gcm_keyHigh c_gcm_keyLow c_gcm_sumHigh c_gcm_sumLow c_aes_rounds c_aes_keys c_modes_block c_modes_pad c_gcm_tag c_buffer r_22 c_gcm_keyHigh_23 c_gcm_keyLow_24 c_gcm_sumHigh_25 c_gcm_sumLow_26 c_modes_block_27 c_modes_pad_28 c_gcm_tag_29 c_buffer_30 hc_) (cwV 4 hts gX9_servedByAes_X2_openText rfl rfl rfl (by decide +kernel) ⟨Nat.le_of_ble_eq_true rfl, Nat.le_of_ble_eq_true rfl⟩) ⟨zblind, va_recv hK hP (ci := 4) (q0 := 4) rfl rfl, zpre hE hS (hP.sub [4, 1, 2, 6, 7, 8, 5, 3] rfl) (hD.sub [4, 1, 2, 6, 7, 8, 5, 3] (by decide) rfl) (va_free hD hS hA [4, 1, 2, 6, 7, 8, 5, 3] rfl)⟩ rfl rfl hl.1 rfl (lv_room (Nat.le_of_ble_eq_true rfl)) (zdt_at zt_X9_servedByAes_1 17 rfl) ⟨Nat.zero_le _, Nat.zero_le _⟩) hS hP hD (va_free hD hS hA [4, 1, 2, 6, 7, 8, 5, 3] rfl) [4, 1, 2, 6, 7, 8, 5, 3] rfl (by decide) rfl ?_
    clear hP hD hS hc_
    intro H locs hP hD hS
    replace hP : va_P D vwCl ([(h0, .inr (11, [.ref h0_buffer, .ref h0_slots, .ref h0_counters, .ref h0_officerPin, .ref h0_userPin, .ref h0_words, .ref h0_sha, .ref h0_stream, .ref h0_aes, .ref h0_modes, .ref h0_gcm, .ref h0_generator, .ref h0_tests, .ref h0_message, .ref h0_secret, .int c_state, .int c_testsDone, .int c_faults, .int c_streamBegun])), (h0_aes, .inr (2, [.ref h0_aes_keys, .int c_aes_rounds])), (h0_aes_keys, .inl (cy 1, 60, .inl c_aes_keys)), (h0_buffer, .inl (cy 0, 512, .inl c_buffer_30)), (h0_gcm, .inr (4, [.ref h0_aes, .ref h0_modes, .ref h0_gcm_tag, .long c_gcm_keyHigh_23, .long c_gcm_keyLow_24, .long c_gcm_sumHigh_25, .long c_gcm_sumLow_26])), (h0_gcm_tag, .inl (cy 0, 16, .inl c_gcm_tag_29)), (h0_modes, .inr (6, [.ref h0_aes, .ref h0_modes_block, .ref h0_modes_pad])), (h0_modes_block, .inl (cy 0, 16, .inl c_modes_block_27)), (h0_modes_pad, .inl (cy 0, 16, .inl c_modes_pad_28))]) H := hP
    replace hD : va_D A ([(h0, .inr (11, [.ref h0_buffer, .ref h0_slots, .ref h0_counters, .ref h0_officerPin, .ref h0_userPin, .ref h0_words, .ref h0_sha, .ref h0_stream, .ref h0_aes, .ref h0_modes, .ref h0_gcm, .ref h0_generator, .ref h0_tests, .ref h0_message, .ref h0_secret, .int c_state, .int c_testsDone, .int c_faults, .int c_streamBegun])), (h0_aes, .inr (2, [.ref h0_aes_keys, .int c_aes_rounds])), (h0_aes_keys, .inl (cy 1, 60, .inl c_aes_keys)), (h0_buffer, .inl (cy 0, 512, .inl c_buffer_30)), (h0_gcm, .inr (4, [.ref h0_aes, .ref h0_modes, .ref h0_gcm_tag, .long c_gcm_keyHigh_23, .long c_gcm_keyLow_24, .long c_gcm_sumHigh_25, .long c_gcm_sumLow_26])), (h0_gcm_tag, .inl (cy 0, 16, .inl c_gcm_tag_29)), (h0_modes, .inr (6, [.ref h0_aes, .ref h0_modes_block, .ref h0_modes_pad])), (h0_modes_block, .inl (cy 0, 16, .inl c_modes_block_27)), (h0_modes_pad, .inl (cy 0, 16, .inl c_modes_pad_28))]) := hD
    refine W.eq (g2 := F0 m 176 ls [.int r_22]) rfl ?_
    refine lv_if_eq (pc := 176) (tgt := 186) hx hb (zdt_at zt_X9_servedByAes_1 18 rfl) (by decide) (fun cn_ => ?t_31) (fun cn_ => ?f_32)
    case t_31 =>
      replace hf := zt_s cn_ hf
      clear cn_
      refine lv_bipush (pc := 186) (v := (-9 : Int32)) hx hb (zdt_at zt_X9_servedByAes_1 23 rfl) (by decide) ?_
      cases hf
      exact W.iret (pc := 188) hx hb hr (fun t ht hW => ⟨rfl, ⟨by rw [ht]; exact hP, hD⟩, hS.F ht⟩) hS.2.2 (zdt_at zt_X9_servedByAes_1 24 rfl)
    replace hf := ze_s cn_ hf
    clear cn_
    refine lv_iload_n (pc := 179) hx hb (zdt_at zt_X9_servedByAes_1 19 rfl) rfl (lv_at hl 3 rfl) ?_
    refine lv_bipush (pc := 180) (v := (16 : Int32)) hx hb (zdt_at zt_X9_servedByAes_1 20 rfl) (by decide) ?_
    refine lv_isub (pc := 182) hx hb (zdt_at zt_X9_servedByAes_1 21 rfl) ?_
    refine lv_goto (pc := 183) (tgt := 188) hx hb (zdt_at zt_X9_servedByAes_1 22 rfl) (by decide) ?_
    cases hf
    exact W.iret (pc := 188) hx hb hr (fun t ht hW => ⟨rfl, ⟨by rw [ht]; exact hP, hD⟩, hS.F ht⟩) hS.2.2 (zdt_at zt_X9_servedByAes_1 24 rfl)
  replace hf := ze_s hs_33 hf
  have kd_37 : GW H locs (F0 m 189 ls []) := by
    refine hFr _ _ _ ?_
    refine lv_aload_n (pc := 189) hx hb (zdt_at zt_X9_servedByAes_1 25 rfl) rfl (lv_at hl 0 rfl) ?_
    refine va_get (pc := 190) (D := D) (ci := 11) (v := .ref h0_modes) (C := RX9) (T := TX9) (N := 19) hx hb hts hcX9 hown hK hP 0 rfl rfl 9 (by decide) hw0 (fun _ h9 => h9) rfl (zdt_at zt_X9_servedByAes_1 26 rfl) ?_
    refine lv_aload_n (pc := 193) hx hb (zdt_at zt_X9_servedByAes_1 27 rfl) rfl (lv_at hl 0 rfl) ?_
    refine va_get (pc := 194) (D := D) (ci := 11) (v := .ref h0_buffer) (C := RX9) (T := TX9) (N := 19) hx hb hts hcX9 hown hK hP 0 rfl rfl 0 (by decide) hw1 (fun _ h9 => h9) rfl (zdt_at zt_X9_servedByAes_1 28 rfl) ?_
    refine lv_iload_n (pc := 197) hx hb (zdt_at zt_X9_servedByAes_1 29 rfl) rfl (lv_at hl 2 rfl) ?_
    refine lv_iload_n (pc := 198) hx hb (zdt_at zt_X9_servedByAes_1 30 rfl) rfl (lv_at hl 3 rfl) ?_
    refine lv_aload_n (pc := 199) hx hb (zdt_at zt_X9_servedByAes_1 31 rfl) rfl (lv_at hl 0 rfl) ?_
    refine va_get (pc := 200) (D := D) (ci := 11) (v := .ref h0_buffer) (C := RX9) (T := TX9) (N := 19) hx hb hts hcX9 hown hK hP 0 rfl rfl 0 (by decide) hw1 (fun _ h9 => h9) rfl (zdt_at zt_X9_servedByAes_1 32 rfl) ?_
    refine lv_iload_n (pc := 203) hx hb (zdt_at zt_X9_servedByAes_1 33 rfl) rfl (lv_at hl 2 rfl) ?_
    replace hf := zb_s hf
    obtain ⟨⟨c_modes_block_34, c_modes_pad_35, c_buffer_36⟩, hc_, hf⟩ := hf
    refine zcm2 (pc := 204) (rv := none) (va_runV (As := [.ref h0_buffer, .int p2, .int p3, .ref h0_buffer, .int p2]) (rest := []) ⟨hx, hb, hml, hown, hts⟩ (c_X4_cmac_4a1 l D cy tt H.size h0_modes h0_aes h0_modes_block h0_modes_pad h0_aes_keys h0_buffer 512 p2 p3 p2 c_aes_rounds c_aes_keys c_modes_block c_modes_pad c_buffer c_modes_block_34 c_modes_pad_35 c_buffer_36 hc_) (cwV 5 hts gX9_servedByAes_X4_cmac rfl rfl rfl (by decide +kernel) ⟨Nat.le_of_ble_eq_true rfl, Nat.le_of_ble_eq_true rfl⟩) ⟨zblind, va_recv hK hP (ci := 6) (q0 := 6) rfl rfl, zpre hE hS (hP.sub [6, 1, 2, 7, 8, 3] rfl) (hD.sub [6, 1, 2, 7, 8, 3] (by decide) rfl) (va_free hD hS hA [6, 1, 2, 7, 8, 3] rfl)⟩ rfl rfl hl.1 rfl (lv_room (Nat.le_of_ble_eq_true rfl)) (zdt_at zt_X9_servedByAes_1 34 rfl) ⟨Nat.zero_le _, Nat.zero_le _⟩) hS hP hD (va_free hD hS hA [6, 1, 2, 7, 8, 3] rfl) [6, 1, 2, 7, 8, 3] rfl (by decide) rfl ?_
    clear hP hD hS hc_
    intro H locs hP hD hS
    replace hP : va_P D vwCl ([(h0, .inr (11, [.ref h0_buffer, .ref h0_slots, .ref h0_counters, .ref h0_officerPin, .ref h0_userPin, .ref h0_words, .ref h0_sha, .ref h0_stream, .ref h0_aes, .ref h0_modes, .ref h0_gcm, .ref h0_generator, .ref h0_tests, .ref h0_message, .ref h0_secret, .int c_state, .int c_testsDone, .int c_faults, .int c_streamBegun])), (h0_aes, .inr (2, [.ref h0_aes_keys, .int c_aes_rounds])), (h0_aes_keys, .inl (cy 1, 60, .inl c_aes_keys)), (h0_buffer, .inl (cy 0, 512, .inl c_buffer_36)), (h0_gcm, .inr (4, [.ref h0_aes, .ref h0_modes, .ref h0_gcm_tag, .long c_gcm_keyHigh, .long c_gcm_keyLow, .long c_gcm_sumHigh, .long c_gcm_sumLow])), (h0_gcm_tag, .inl (cy 0, 16, .inl c_gcm_tag)), (h0_modes, .inr (6, [.ref h0_aes, .ref h0_modes_block, .ref h0_modes_pad])), (h0_modes_block, .inl (cy 0, 16, .inl c_modes_block_34)), (h0_modes_pad, .inl (cy 0, 16, .inl c_modes_pad_35))]) H := hP
    replace hD : va_D A ([(h0, .inr (11, [.ref h0_buffer, .ref h0_slots, .ref h0_counters, .ref h0_officerPin, .ref h0_userPin, .ref h0_words, .ref h0_sha, .ref h0_stream, .ref h0_aes, .ref h0_modes, .ref h0_gcm, .ref h0_generator, .ref h0_tests, .ref h0_message, .ref h0_secret, .int c_state, .int c_testsDone, .int c_faults, .int c_streamBegun])), (h0_aes, .inr (2, [.ref h0_aes_keys, .int c_aes_rounds])), (h0_aes_keys, .inl (cy 1, 60, .inl c_aes_keys)), (h0_buffer, .inl (cy 0, 512, .inl c_buffer_36)), (h0_gcm, .inr (4, [.ref h0_aes, .ref h0_modes, .ref h0_gcm_tag, .long c_gcm_keyHigh, .long c_gcm_keyLow, .long c_gcm_sumHigh, .long c_gcm_sumLow])), (h0_gcm_tag, .inl (cy 0, 16, .inl c_gcm_tag)), (h0_modes, .inr (6, [.ref h0_aes, .ref h0_modes_block, .ref h0_modes_pad])), (h0_modes_block, .inl (cy 0, 16, .inl c_modes_block_34)), (h0_modes_pad, .inl (cy 0, 16, .inl c_modes_pad_35))]) := hD
    refine W.eq (g2 := F0 m 207 ls []) rfl ?_
    refine lv_bipush (pc := 207) (v := (16 : Int32)) hx hb (zdt_at zt_X9_servedByAes_1 35 rfl) (by decide) ?_
    cases hf
    exact W.iret (pc := 209) hx hb hr (fun t ht hW => ⟨rfl, ⟨by rw [ht]; exact hP, hD⟩, hS.F ht⟩) hS.2.2 (zdt_at zt_X9_servedByAes_1 36 rfl)
  have n1_ : ¬ p1.toInt = 1 := lv_neT (k := (1 : Int32)) hs_2 (by decide)
  have n2_ : ¬ p1.toInt = 2 := lv_neT (k := (2 : Int32)) hs_4 (by decide)
  have n3_ : ¬ p1.toInt = 3 := lv_neT (k := (3 : Int32)) hs_6 (by decide)
  have n4_ : ¬ p1.toInt = 4 := lv_neT (k := (4 : Int32)) hs_8 (by decide)
  have n5_ : ¬ p1.toInt = 5 := lv_neT (k := (5 : Int32)) hs_12 (by decide)
  have n6_ : ¬ p1.toInt = 6 := lv_neT (k := (6 : Int32)) hs_21 (by decide)
  have n7_ : ¬ p1.toInt = 7 := lv_neT (k := (7 : Int32)) hs_33 (by decide)
  by_cases hr_ : p1.toInt < 1 ∨ 7 < p1.toInt
  · exact lv_tableOut (pc := 1) (tgt := 189) hx hb (zdt_at zt_X9_servedByAes_0 1 rfl) hr_ (by decide) (hTo _ _ _ kd_37)
  · exact absurd hr_ (by omega)
def f_X9_drawn_1t_buffer (p2 : Int32) (p3 : Int32) (p4 : Int32) (c_buffer : Nat → Int32) (c_generator_begun : Int32) (c_generator_requests : Int32) (c_generator_key : Nat → Int32) (c_generator_message : Nat → Int32) (c_generator_value : Nat → Int32) (c_message : Nat → Int32) (c_secret : Nat → Int32) (c_sha_filled : Int32) (c_sha_total : Int32) (c_sha_inner : Nat → Int32) (c_sha_schedule : Nat → Int32) (c_sha_sums : Nat → Int32) (c_words_count : Int32) (c_words_healthy : Int32) (c_words_kept : Nat → Int32) : Option (Int32 × (Nat → Int32) × Int32 × Int32 × (Nat → Int32) × (Nat → Int32) × (Nat → Int32) × (Nat → Int32) × (Nat → Int32) × Int32 × Int32 × (Nat → Int32) × (Nat → Int32) × (Nat → Int32) × Int32 × (Nat → Int32)) :=
  (f_X3_wordsNeeded c_generator_begun c_generator_requests).bind (fun r_1 => (f_X1_canGive r_1 c_words_count c_words_healthy).bind (fun r_2 => if r_2 = 0 then some ((0 : Int32), c_buffer, c_generator_begun, c_generator_requests, c_generator_key, c_generator_message, c_generator_value, c_message, c_secret, c_sha_filled, c_sha_total, c_sha_inner, c_sha_schedule, c_sha_sums, c_words_count, c_words_kept) else (f_X1_give 80 r_1 c_words_count c_words_kept c_secret).bind (fun (c_words_count_5, c_words_kept_6, c_secret_7) => (f_X3_feed 80 ((4 : Int32) * r_1) c_generator_begun c_generator_requests c_generator_key c_generator_message c_sha_filled c_sha_total c_sha_inner c_sha_schedule c_sha_sums c_generator_value c_secret_7).bind (fun (c_generator_begun_8, c_generator_requests_9, c_generator_key_10, c_generator_message_11, c_sha_filled_12, c_sha_total_13, c_sha_inner_14, c_sha_schedule_15, c_sha_sums_16, c_generator_value_17) => (f_X9_forgetSecret c_secret_7).bind (fun c_secret_18 => zk (¬ (0 : Int32) < 0 ∧ ¬ (0 : Int32) < 0 ∧ ¬ p4 < 0 ∧ (0 : Int32).toNatClampNeg + p4.toNatClampNeg ≤ 512 ∧ (0 : Int32).toNatClampNeg + p4.toNatClampNeg ≤ 68 ∧ (∀ i, i < p4.toNatClampNeg → fits .byte (.int (c_buffer ((0 : Int32).toNatClampNeg + i))) = true)) ((f_X3_answer 68 512 p4 p2 p3 c_generator_requests_9 c_generator_key_10 c_generator_message_11 c_sha_filled_12 c_sha_total_13 c_sha_inner_14 c_sha_schedule_15 c_sha_sums_16 c_generator_value_17 (va_cpy c_buffer c_message (0 : Int32).toNatClampNeg (0 : Int32).toNatClampNeg p4.toNatClampNeg) c_buffer).bind (fun (c_generator_requests_19, c_generator_key_20, c_generator_message_21, c_sha_filled_22, c_sha_total_23, c_sha_inner_24, c_sha_schedule_25, c_sha_sums_26, c_generator_value_27, c_buffer_28) => some ((1 : Int32), c_buffer_28, c_generator_begun_8, c_generator_requests_19, c_generator_key_20, c_generator_message_21, c_generator_value_27, (va_cpy c_buffer c_message (0 : Int32).toNatClampNeg (0 : Int32).toNatClampNeg p4.toNatClampNeg), c_secret_18, c_sha_filled_22, c_sha_total_23, c_sha_inner_24, c_sha_schedule_25, c_sha_sums_26, c_words_count_5, c_words_kept_6))))))))
set_option maxHeartbeats 4000000 in
set_option maxRecDepth 100000 in
theorem c_X9_drawn_1t_buffer (l : Launch) (D : va_G) (cy : Nat → ClassId) (tt : Nat → Nat) (sz : Nat) (h0 : Nat) (h0_buffer : Nat) (h0_slots : Nat) (h0_counters : Nat) (h0_officerPin : Nat) (h0_userPin : Nat) (h0_words : Nat) (h0_sha : Nat) (h0_stream : Nat) (h0_aes : Nat) (h0_modes : Nat) (h0_gcm : Nat) (h0_generator : Nat) (h0_tests : Nat) (h0_message : Nat) (h0_secret : Nat) (h0_generator_key : Nat) (h0_generator_value : Nat) (h0_generator_message : Nat) (h0_sha_sums : Nat) (h0_sha_schedule : Nat) (h0_sha_inner : Nat) (h0_words_kept : Nat) (p2 : Int32) (p3 : Int32) (p4 : Int32) (c_buffer : Nat → Int32) (c_generator_begun : Int32) (c_generator_requests : Int32) (c_generator_key : Nat → Int32) (c_generator_message : Nat → Int32) (c_generator_value : Nat → Int32) (c_message : Nat → Int32) (c_secret : Nat → Int32) (c_sha_filled : Int32) (c_sha_total : Int32) (c_sha_inner : Nat → Int32) (c_sha_schedule : Nat → Int32) (c_sha_sums : Nat → Int32) (c_words_count : Int32) (c_words_healthy : Int32) (c_words_kept : Nat → Int32) (c_state : Int32) (c_testsDone : Int32) (c_faults : Int32) (c_streamBegun : Int32) (c_words_last : Int32) (c_words_row : Int32) (c_words_first : Int32) (c_words_placeInWindow : Int32) (c_words_timesInWindow : Int32) (r_ : Int32) (c_buffer' : Nat → Int32) (c_generator_begun' : Int32) (c_generator_requests' : Int32) (c_generator_key' : Nat → Int32) (c_generator_message' : Nat → Int32) (c_generator_value' : Nat → Int32) (c_message' : Nat → Int32) (c_secret' : Nat → Int32) (c_sha_filled' : Int32) (c_sha_total' : Int32) (c_sha_inner' : Nat → Int32) (c_sha_schedule' : Nat → Int32) (c_sha_sums' : Nat → Int32) (c_words_count' : Int32) (c_words_kept' : Nat → Int32) (hf : f_X9_drawn_1t_buffer p2 p3 p4 c_buffer c_generator_begun c_generator_requests c_generator_key c_generator_message c_generator_value c_message c_secret c_sha_filled c_sha_total c_sha_inner c_sha_schedule c_sha_sums c_words_count c_words_healthy c_words_kept = some (r_, c_buffer', c_generator_begun', c_generator_requests', c_generator_key', c_generator_message', c_generator_value', c_message', c_secret', c_sha_filled', c_sha_total', c_sha_inner', c_sha_schedule', c_sha_sums', c_words_count', c_words_kept')) : Met l yX9_drawn wsX9_drawn ({ frames := 6, cells := 0, slots := 0, locals := 161 }) (zPc D cy tt sz [.ref h0, .ref h0_buffer, .int p2, .int p3, .int p4] ([(h0, .inr (11, [.ref h0_buffer, .ref h0_slots, .ref h0_counters, .ref h0_officerPin, .ref h0_userPin, .ref h0_words, .ref h0_sha, .ref h0_stream, .ref h0_aes, .ref h0_modes, .ref h0_gcm, .ref h0_generator, .ref h0_tests, .ref h0_message, .ref h0_secret, .int c_state, .int c_testsDone, .int c_faults, .int c_streamBegun])), (h0_buffer, .inl (cy 0, 512, .inl c_buffer)), (h0_generator, .inr (5, [.ref h0_sha, .ref h0_generator_key, .ref h0_generator_value, .ref h0_generator_message, .int c_generator_begun, .int c_generator_requests])), (h0_generator_key, .inl (cy 0, 32, .inl c_generator_key)), (h0_generator_message, .inl (cy 0, 97, .inl c_generator_message)), (h0_generator_value, .inl (cy 0, 32, .inl c_generator_value)), (h0_message, .inl (cy 0, 68, .inl c_message)), (h0_secret, .inl (cy 0, 80, .inl c_secret)), (h0_sha, .inr (9, [.ref h0_sha_sums, .ref h0_sha_schedule, .ref h0_sha_inner, .int c_sha_filled, .int c_sha_total])), (h0_sha_inner, .inl (cy 0, 32, .inl c_sha_inner)), (h0_sha_schedule, .inl (cy 1, 64, .inl c_sha_schedule)), (h0_sha_sums, .inl (cy 1, 8, .inl c_sha_sums)), (h0_words, .inr (3, [.ref h0_words_kept, .int c_words_count, .int c_words_healthy, .int c_words_last, .int c_words_row, .int c_words_first, .int c_words_placeInWindow, .int c_words_timesInWindow])), (h0_words_kept, .inl (cy 1, 64, .inl c_words_kept))])) (zQ D (some (.int r_)) ([(h0, .inr (11, [.ref h0_buffer, .ref h0_slots, .ref h0_counters, .ref h0_officerPin, .ref h0_userPin, .ref h0_words, .ref h0_sha, .ref h0_stream, .ref h0_aes, .ref h0_modes, .ref h0_gcm, .ref h0_generator, .ref h0_tests, .ref h0_message, .ref h0_secret, .int c_state, .int c_testsDone, .int c_faults, .int c_streamBegun])), (h0_buffer, .inl (cy 0, 512, .inl c_buffer')), (h0_generator, .inr (5, [.ref h0_sha, .ref h0_generator_key, .ref h0_generator_value, .ref h0_generator_message, .int c_generator_begun', .int c_generator_requests'])), (h0_generator_key, .inl (cy 0, 32, .inl c_generator_key')), (h0_generator_message, .inl (cy 0, 97, .inl c_generator_message')), (h0_generator_value, .inl (cy 0, 32, .inl c_generator_value')), (h0_message, .inl (cy 0, 68, .inl c_message')), (h0_secret, .inl (cy 0, 80, .inl c_secret')), (h0_sha, .inr (9, [.ref h0_sha_sums, .ref h0_sha_schedule, .ref h0_sha_inner, .int c_sha_filled', .int c_sha_total'])), (h0_sha_inner, .inl (cy 0, 32, .inl c_sha_inner')), (h0_sha_schedule, .inl (cy 1, 64, .inl c_sha_schedule')), (h0_sha_sums, .inl (cy 1, 8, .inl c_sha_sums')), (h0_words, .inr (3, [.ref h0_words_kept, .int c_words_count', .int c_words_healthy, .int c_words_last, .int c_words_row, .int c_words_first, .int c_words_placeInWindow, .int c_words_timesInWindow])), (h0_words_kept, .inl (cy 1, 64, .inl c_words_kept'))]) (va_A ([(h0, .inr (11, [.ref h0_buffer, .ref h0_slots, .ref h0_counters, .ref h0_officerPin, .ref h0_userPin, .ref h0_words, .ref h0_sha, .ref h0_stream, .ref h0_aes, .ref h0_modes, .ref h0_gcm, .ref h0_generator, .ref h0_tests, .ref h0_message, .ref h0_secret, .int c_state, .int c_testsDone, .int c_faults, .int c_streamBegun])), (h0_buffer, .inl (cy 0, 512, .inl c_buffer)), (h0_generator, .inr (5, [.ref h0_sha, .ref h0_generator_key, .ref h0_generator_value, .ref h0_generator_message, .int c_generator_begun, .int c_generator_requests])), (h0_generator_key, .inl (cy 0, 32, .inl c_generator_key)), (h0_generator_message, .inl (cy 0, 97, .inl c_generator_message)), (h0_generator_value, .inl (cy 0, 32, .inl c_generator_value)), (h0_message, .inl (cy 0, 68, .inl c_message)), (h0_secret, .inl (cy 0, 80, .inl c_secret)), (h0_sha, .inr (9, [.ref h0_sha_sums, .ref h0_sha_schedule, .ref h0_sha_inner, .int c_sha_filled, .int c_sha_total])), (h0_sha_inner, .inl (cy 0, 32, .inl c_sha_inner)), (h0_sha_schedule, .inl (cy 1, 64, .inl c_sha_schedule)), (h0_sha_sums, .inl (cy 1, 8, .inl c_sha_sums)), (h0_words, .inr (3, [.ref h0_words_kept, .int c_words_count, .int c_words_healthy, .int c_words_last, .int c_words_row, .int c_words_first, .int c_words_placeInWindow, .int c_words_timesInWindow])), (h0_words_kept, .inl (cy 1, 64, .inl c_words_kept))]) sz)) 0 0 (va_A ([(h0, .inr (11, [.ref h0_buffer, .ref h0_slots, .ref h0_counters, .ref h0_officerPin, .ref h0_userPin, .ref h0_words, .ref h0_sha, .ref h0_stream, .ref h0_aes, .ref h0_modes, .ref h0_gcm, .ref h0_generator, .ref h0_tests, .ref h0_message, .ref h0_secret, .int c_state, .int c_testsDone, .int c_faults, .int c_streamBegun])), (h0_buffer, .inl (cy 0, 512, .inl c_buffer)), (h0_generator, .inr (5, [.ref h0_sha, .ref h0_generator_key, .ref h0_generator_value, .ref h0_generator_message, .int c_generator_begun, .int c_generator_requests])), (h0_generator_key, .inl (cy 0, 32, .inl c_generator_key)), (h0_generator_message, .inl (cy 0, 97, .inl c_generator_message)), (h0_generator_value, .inl (cy 0, 32, .inl c_generator_value)), (h0_message, .inl (cy 0, 68, .inl c_message)), (h0_secret, .inl (cy 0, 80, .inl c_secret)), (h0_sha, .inr (9, [.ref h0_sha_sums, .ref h0_sha_schedule, .ref h0_sha_inner, .int c_sha_filled, .int c_sha_total])), (h0_sha_inner, .inl (cy 0, 32, .inl c_sha_inner)), (h0_sha_schedule, .inl (cy 1, 64, .inl c_sha_schedule)), (h0_sha_sums, .inl (cy 1, 8, .inl c_sha_sums)), (h0_words, .inr (3, [.ref h0_words_kept, .int c_words_count, .int c_words_healthy, .int c_words_last, .int c_words_row, .int c_words_first, .int c_words_placeInWindow, .int c_words_timesInWindow])), (h0_words_kept, .inl (cy 1, 64, .inl c_words_kept))]) sz) := by
  refine Met.ofW (cc := cX9_drawn) (maxL := 6) (ret := (some .boolean)) (by decide) rfl ?_
  intro p e s m args below meth c s₁ B hml hv
  obtain ⟨rfl, rfl, hP, hD0, hE⟩ := hv
  have hx := B.exec
  have hb := B.bytes
  have hr := B.returns
  have hts := atoms_spec (ws := wsX9_drawn) B.pre
  have hown : s.vm.findClass RX9 = some m.cls := findClass_of_methodNamed B.named
  have hlocks := B.notSynchronized
  clear B
  have hD := hD0.self (sz := s.heap.size)
  generalize hAe : va_A ([(h0, .inr (11, [.ref h0_buffer, .ref h0_slots, .ref h0_counters, .ref h0_officerPin, .ref h0_userPin, .ref h0_words, .ref h0_sha, .ref h0_stream, .ref h0_aes, .ref h0_modes, .ref h0_gcm, .ref h0_generator, .ref h0_tests, .ref h0_message, .ref h0_secret, .int c_state, .int c_testsDone, .int c_faults, .int c_streamBegun])), (h0_buffer, .inl (cy 0, 512, .inl c_buffer)), (h0_generator, .inr (5, [.ref h0_sha, .ref h0_generator_key, .ref h0_generator_value, .ref h0_generator_message, .int c_generator_begun, .int c_generator_requests])), (h0_generator_key, .inl (cy 0, 32, .inl c_generator_key)), (h0_generator_message, .inl (cy 0, 97, .inl c_generator_message)), (h0_generator_value, .inl (cy 0, 32, .inl c_generator_value)), (h0_message, .inl (cy 0, 68, .inl c_message)), (h0_secret, .inl (cy 0, 80, .inl c_secret)), (h0_sha, .inr (9, [.ref h0_sha_sums, .ref h0_sha_schedule, .ref h0_sha_inner, .int c_sha_filled, .int c_sha_total])), (h0_sha_inner, .inl (cy 0, 32, .inl c_sha_inner)), (h0_sha_schedule, .inl (cy 1, 64, .inl c_sha_schedule)), (h0_sha_sums, .inl (cy 1, 8, .inl c_sha_sums)), (h0_words, .inr (3, [.ref h0_words_kept, .int c_words_count, .int c_words_healthy, .int c_words_last, .int c_words_row, .int c_words_first, .int c_words_placeInWindow, .int c_words_timesInWindow])), (h0_words_kept, .inl (cy 1, 64, .inl c_words_kept))]) s.heap.size = A at hD hE ⊢
  have hA : ∀ q : Nat, s.heap.size ≤ q → A q := fun q h => by rw [← hAe]; exact Or.inr h
  clear hAe hD0
  have hS : va_S A s.heap s.heap [] := va_S.rf
  have hK := hE.1
  have hw0 := hts (.fieldLink RX9 82 "SealedModule" "generator" "LSealedModule$Generator;") (by decide +kernel)
  have hw1 := hts (.fieldLink RX9 38 "SealedModule" "words" "LSealedModule$Entropy;") (by decide +kernel)
  have hw2 := hts (.fieldLink RX9 98 "SealedModule" "secret" "[B") (by decide +kernel)
  have hw3 := hts (.fieldLink RX9 9 "SealedModule" "buffer" "[B") (by decide +kernel)
  have hw4 := hts (.fieldLink RX9 95 "SealedModule" "message" "[B") (by decide +kernel)
  have hw5 := hts (.methodLink RX9 276 arraycopyName) (by decide +kernel)
  have hw6 := hts (.native arraycopyName) (by decide +kernel)
  have hw7 := hts (.static arraycopyName) (by decide +kernel)
  have hw8 := hts (.initialized "java/lang/System") (by decide +kernel)
  have hcX9 : ∀ w ∈ u_ws RX9 TX9 19, w ∈ wsX9_drawn := (fun _ h => List.mem_cons_of_mem _ (List.mem_append_left _ (List.mem_append_left _ (List.mem_append_left _ (List.mem_append_left _ (List.mem_append_right _ h))))))
  have hl := lv_entry ([.ref h0, .ref h0_buffer, .int p2, .int p3, .int p4]) (n := 6) (Nat.le_of_ble_eq_true rfl)
  rw [lg_entry_eq]
  generalize (lg_sl ([.ref h0, .ref h0_buffer, .int p2, .int p3, .int p4]) ++ List.replicate (6 - (lg_sl ([.ref h0, .ref h0_buffer, .int p2, .int p3, .int p4])).length) Slot.unset).toArray = ls at hl ⊢
  replace hl : lv_has ls 6 [(0, .ref h0), (1, .ref h0_buffer), (2, .int p2), (3, .int p3), (4, .int p4)] := hl
  unfold f_X9_drawn_1t_buffer at hf
  refine zgo (fun GW hTo hFr => ?_)
  refine hFr _ _ _ ?_
  obtain ⟨H, hHe⟩ : ∃ H, H = s.heap := ⟨_, rfl⟩
  obtain ⟨locs, hLe⟩ : ∃ L : List Loc, L = [] := ⟨_, rfl⟩
  rw [← hHe] at hP
  replace hS : va_S A s.heap H locs := by rw [hHe, hLe]; exact hS
  refine zat hHe.symm hLe.symm ?_
  clear hHe hLe
  refine lv_aload_n (pc := 0) hx hb (zdt_at zt_X9_drawn_0 0 rfl) rfl (lv_at hl 0 rfl) ?_
  refine va_get (pc := 1) (D := D) (ci := 11) (v := .ref h0_generator) (C := RX9) (T := TX9) (N := 19) hx hb hts hcX9 hown hK hP 0 rfl rfl 11 (by decide) hw0 (fun _ h9 => h9) rfl (zdt_at zt_X9_drawn_0 1 rfl) ?_
  replace hf := zb_s hf
  obtain ⟨r_1, hc_, hf⟩ := hf
  refine zcs (pc := 4) (rv := (some (.int r_1))) (va_runV (As := []) (rest := []) ⟨hx, hb, hml, hown, hts⟩ (c_X3_wordsNeeded l D cy tt H.size h0_generator h0_sha h0_generator_key h0_generator_value h0_generator_message c_generator_begun c_generator_requests r_1 hc_) (cwV 0 hts gX9_drawn_X3_wordsNeeded rfl rfl rfl (by decide +kernel) ⟨Nat.le_of_ble_eq_true rfl, Nat.le_of_ble_eq_true rfl⟩) ⟨zblind, va_recv hK hP (ci := 5) (q0 := 2) rfl rfl, zpre hE hS (hP.sub [2] rfl) (hD.sub [2] (by decide) rfl) (va_free hD hS hA [2] rfl)⟩ rfl rfl hl.1 rfl (lv_room (Nat.le_of_ble_eq_true rfl)) (zdt_at zt_X9_drawn_0 2 rfl) ⟨Nat.zero_le _, Nat.zero_le _⟩) ?_
  clear hc_
  refine W.eq (g2 := F0 m 7 ls [.int r_1]) rfl ?_
  refine lv_istore (pc := 7) (lv' := [(5, .int r_1), (0, .ref h0), (1, .ref h0_buffer), (2, .int p2), (3, .int p3), (4, .int p4)]) hx hb (zdt_at zt_X9_drawn_0 3 rfl) hl (by decide) rfl ?_
  clear hl
  intro ls hl
  refine lv_aload_n (pc := 9) hx hb (zdt_at zt_X9_drawn_0 4 rfl) rfl (lv_at hl 1 rfl) ?_
  refine va_get (pc := 10) (D := D) (ci := 11) (v := .ref h0_words) (C := RX9) (T := TX9) (N := 19) hx hb hts hcX9 hown hK hP 0 rfl rfl 5 (by decide) hw1 (fun _ h9 => h9) rfl (zdt_at zt_X9_drawn_0 5 rfl) ?_
  refine lv_iload (pc := 13) hx hb (zdt_at zt_X9_drawn_0 6 rfl) (lv_at hl 0 rfl) ?_
  replace hf := zb_s hf
  obtain ⟨r_2, hc_, hf⟩ := hf
  refine zcs (pc := 15) (rv := (some (.int r_2))) (va_runV (As := [.int r_1]) (rest := []) ⟨hx, hb, hml, hown, hts⟩ (c_X1_canGive l D cy tt H.size h0_words h0_words_kept r_1 c_words_count c_words_healthy c_words_last c_words_row c_words_first c_words_placeInWindow c_words_timesInWindow r_2 hc_) (cwV 1 hts gX9_drawn_X1_canGive rfl rfl rfl (by decide +kernel) ⟨Nat.le_of_ble_eq_true rfl, Nat.le_of_ble_eq_true rfl⟩) ⟨zblind, va_recv hK hP (ci := 3) (q0 := 12) rfl rfl, zpre hE hS (hP.sub [12] rfl) (hD.sub [12] (by decide) rfl) (va_free hD hS hA [12] rfl)⟩ rfl rfl hl.1 rfl (lv_room (Nat.le_of_ble_eq_true rfl)) (zdt_at zt_X9_drawn_0 7 rfl) ⟨Nat.zero_le _, Nat.zero_le _⟩) ?_
  clear hc_
  refine W.eq (g2 := F0 m 18 ls [.int r_2]) rfl ?_
  refine lv_if_ne (pc := 18) (tgt := 23) hx hb (zdt_at zt_X9_drawn_0 8 rfl) (by decide) (fun cn_ => ?t_3) (fun cn_ => ?f_4)
  case f_4 =>
    replace hf := zt_s cn_ hf
    clear cn_
    refine lv_iconst (pc := 21) (v := (0 : Int32)) hx hb (zdt_at zt_X9_drawn_0 9 rfl) (by decide) ?_
    cases hf
    exact W.zret (pc := 22) hx hb hr rfl (fun t ht hW => ⟨rfl, ⟨by rw [ht]; exact hP, hD⟩, hS.F ht⟩) hS.2.2 (zdt_at zt_X9_drawn_0 10 rfl)
  replace hf := ze_s cn_ hf
  clear cn_
  refine lv_aload_n (pc := 23) hx hb (zdt_at zt_X9_drawn_0 11 rfl) rfl (lv_at hl 1 rfl) ?_
  refine va_get (pc := 24) (D := D) (ci := 11) (v := .ref h0_words) (C := RX9) (T := TX9) (N := 19) hx hb hts hcX9 hown hK hP 0 rfl rfl 5 (by decide) hw1 (fun _ h9 => h9) rfl (zdt_at zt_X9_drawn_0 12 rfl) ?_
  refine lv_iload (pc := 27) hx hb (zdt_at zt_X9_drawn_0 13 rfl) (lv_at hl 0 rfl) ?_
  refine lv_aload_n (pc := 29) hx hb (zdt_at zt_X9_drawn_0 14 rfl) rfl (lv_at hl 1 rfl) ?_
  refine va_get (pc := 30) (D := D) (ci := 11) (v := .ref h0_secret) (C := RX9) (T := TX9) (N := 19) hx hb hts hcX9 hown hK hP 0 rfl rfl 14 (by decide) hw2 (fun _ h9 => h9) rfl (zdt_at zt_X9_drawn_0 15 rfl) ?_
  replace hf := zb_s hf
  obtain ⟨⟨c_words_count_5, c_words_kept_6, c_secret_7⟩, hc_, hf⟩ := hf
  refine zcm2 (pc := 33) (rv := none) (va_runV (As := [.int r_1, .ref h0_secret]) (rest := []) ⟨hx, hb, hml, hown, hts⟩ (c_X1_give l D cy tt H.size h0_words h0_words_kept h0_secret 80 r_1 c_words_count c_words_kept c_secret c_words_healthy c_words_last c_words_row c_words_first c_words_placeInWindow c_words_timesInWindow c_words_count_5 c_words_kept_6 c_secret_7 hc_) (cwV 2 hts gX9_drawn_X1_give rfl rfl rfl (by decide +kernel) ⟨Nat.le_of_ble_eq_true rfl, Nat.le_of_ble_eq_true rfl⟩) ⟨zblind, va_recv hK hP (ci := 3) (q0 := 12) rfl rfl, zpre hE hS (hP.sub [12, 13, 7] rfl) (hD.sub [12, 13, 7] (by decide) rfl) (va_free hD hS hA [12, 13, 7] rfl)⟩ rfl rfl hl.1 rfl (lv_room (Nat.le_of_ble_eq_true rfl)) (zdt_at zt_X9_drawn_0 16 rfl) ⟨Nat.zero_le _, Nat.zero_le _⟩) hS hP hD (va_free hD hS hA [12, 13, 7] rfl) [12, 13, 7] rfl (by decide) rfl ?_
  clear hP hD hS hc_
  intro H locs hP hD hS
  replace hP : va_P D vwCl ([(h0, .inr (11, [.ref h0_buffer, .ref h0_slots, .ref h0_counters, .ref h0_officerPin, .ref h0_userPin, .ref h0_words, .ref h0_sha, .ref h0_stream, .ref h0_aes, .ref h0_modes, .ref h0_gcm, .ref h0_generator, .ref h0_tests, .ref h0_message, .ref h0_secret, .int c_state, .int c_testsDone, .int c_faults, .int c_streamBegun])), (h0_buffer, .inl (cy 0, 512, .inl c_buffer)), (h0_generator, .inr (5, [.ref h0_sha, .ref h0_generator_key, .ref h0_generator_value, .ref h0_generator_message, .int c_generator_begun, .int c_generator_requests])), (h0_generator_key, .inl (cy 0, 32, .inl c_generator_key)), (h0_generator_message, .inl (cy 0, 97, .inl c_generator_message)), (h0_generator_value, .inl (cy 0, 32, .inl c_generator_value)), (h0_message, .inl (cy 0, 68, .inl c_message)), (h0_secret, .inl (cy 0, 80, .inl c_secret_7)), (h0_sha, .inr (9, [.ref h0_sha_sums, .ref h0_sha_schedule, .ref h0_sha_inner, .int c_sha_filled, .int c_sha_total])), (h0_sha_inner, .inl (cy 0, 32, .inl c_sha_inner)), (h0_sha_schedule, .inl (cy 1, 64, .inl c_sha_schedule)), (h0_sha_sums, .inl (cy 1, 8, .inl c_sha_sums)), (h0_words, .inr (3, [.ref h0_words_kept, .int c_words_count_5, .int c_words_healthy, .int c_words_last, .int c_words_row, .int c_words_first, .int c_words_placeInWindow, .int c_words_timesInWindow])), (h0_words_kept, .inl (cy 1, 64, .inl c_words_kept_6))]) H := hP
  replace hD : va_D A ([(h0, .inr (11, [.ref h0_buffer, .ref h0_slots, .ref h0_counters, .ref h0_officerPin, .ref h0_userPin, .ref h0_words, .ref h0_sha, .ref h0_stream, .ref h0_aes, .ref h0_modes, .ref h0_gcm, .ref h0_generator, .ref h0_tests, .ref h0_message, .ref h0_secret, .int c_state, .int c_testsDone, .int c_faults, .int c_streamBegun])), (h0_buffer, .inl (cy 0, 512, .inl c_buffer)), (h0_generator, .inr (5, [.ref h0_sha, .ref h0_generator_key, .ref h0_generator_value, .ref h0_generator_message, .int c_generator_begun, .int c_generator_requests])), (h0_generator_key, .inl (cy 0, 32, .inl c_generator_key)), (h0_generator_message, .inl (cy 0, 97, .inl c_generator_message)), (h0_generator_value, .inl (cy 0, 32, .inl c_generator_value)), (h0_message, .inl (cy 0, 68, .inl c_message)), (h0_secret, .inl (cy 0, 80, .inl c_secret_7)), (h0_sha, .inr (9, [.ref h0_sha_sums, .ref h0_sha_schedule, .ref h0_sha_inner, .int c_sha_filled, .int c_sha_total])), (h0_sha_inner, .inl (cy 0, 32, .inl c_sha_inner)), (h0_sha_schedule, .inl (cy 1, 64, .inl c_sha_schedule)), (h0_sha_sums, .inl (cy 1, 8, .inl c_sha_sums)), (h0_words, .inr (3, [.ref h0_words_kept, .int c_words_count_5, .int c_words_healthy, .int c_words_last, .int c_words_row, .int c_words_first, .int c_words_placeInWindow, .int c_words_timesInWindow])), (h0_words_kept, .inl (cy 1, 64, .inl c_words_kept_6))]) := hD
  refine W.eq (g2 := F0 m 36 ls []) rfl ?_
  refine lv_aload_n (pc := 36) hx hb (zdt_at zt_X9_drawn_0 17 rfl) rfl (lv_at hl 1 rfl) ?_
  refine va_get (pc := 37) (D := D) (ci := 11) (v := .ref h0_generator) (C := RX9) (T := TX9) (N := 19) hx hb hts hcX9 hown hK hP 0 rfl rfl 11 (by decide) hw0 (fun _ h9 => h9) rfl (zdt_at zt_X9_drawn_0 18 rfl) ?_
  refine lv_aload_n (pc := 40) hx hb (zdt_at zt_X9_drawn_0 19 rfl) rfl (lv_at hl 1 rfl) ?_
  refine va_get (pc := 41) (D := D) (ci := 11) (v := .ref h0_secret) (C := RX9) (T := TX9) (N := 19) hx hb hts hcX9 hown hK hP 0 rfl rfl 14 (by decide) hw2 (fun _ h9 => h9) rfl (zdt_at zt_X9_drawn_0 20 rfl) ?_
  refine lv_iconst (pc := 44) (v := (4 : Int32)) hx hb (zdt_at zt_X9_drawn_0 21 rfl) (by decide) ?_
  refine lv_iload (pc := 45) hx hb (zdt_at zt_X9_drawn_0 22 rfl) (lv_at hl 0 rfl) ?_
  refine lv_imul (pc := 47) hx hb (zdt_at zt_X9_drawn_0 23 rfl) ?_
  replace hf := zb_s hf
  obtain ⟨⟨c_generator_begun_8, c_generator_requests_9, c_generator_key_10, c_generator_message_11, c_sha_filled_12, c_sha_total_13, c_sha_inner_14, c_sha_schedule_15, c_sha_sums_16, c_generator_value_17⟩, hc_, hf⟩ := hf
  refine zcm2 (pc := 48) (rv := none) (va_runV (As := [.ref h0_secret, .int ((4 : Int32) * r_1)]) (rest := []) ⟨hx, hb, hml, hown, hts⟩ (c_X3_feed l D cy tt H.size h0_generator h0_sha h0_generator_key h0_generator_value h0_generator_message h0_sha_sums h0_sha_schedule h0_sha_inner h0_secret 80 ((4 : Int32) * r_1) c_generator_begun c_generator_requests c_generator_key c_generator_message c_sha_filled c_sha_total c_sha_inner c_sha_schedule c_sha_sums c_generator_value c_secret_7 c_generator_begun_8 c_generator_requests_9 c_generator_key_10 c_generator_message_11 c_sha_filled_12 c_sha_total_13 c_sha_inner_14 c_sha_schedule_15 c_sha_sums_16 c_generator_value_17 hc_) (cwV 2 hts gX9_drawn_X3_feed rfl rfl rfl (by decide +kernel) ⟨Nat.le_of_ble_eq_true rfl, Nat.le_of_ble_eq_true rfl⟩) ⟨zblind, va_recv hK hP (ci := 5) (q0 := 2) rfl rfl, zpre hE hS (hP.sub [2, 3, 4, 8, 9, 10, 11, 5, 7] rfl) (hD.sub [2, 3, 4, 8, 9, 10, 11, 5, 7] (by decide) rfl) (va_free hD hS hA [2, 3, 4, 8, 9, 10, 11, 5, 7] rfl)⟩ rfl rfl hl.1 rfl (lv_room (Nat.le_of_ble_eq_true rfl)) (zdt_at zt_X9_drawn_0 24 rfl) ⟨Nat.zero_le _, Nat.zero_le _⟩) hS hP hD (va_free hD hS hA [2, 3, 4, 8, 9, 10, 11, 5, 7] rfl) [2, 3, 4, 8, 9, 10, 11, 5, 7] rfl (by decide) rfl ?_
  clear hP hD hS hc_
  intro H locs hP hD hS
  replace hP : va_P D vwCl ([(h0, .inr (11, [.ref h0_buffer, .ref h0_slots, .ref h0_counters, .ref h0_officerPin, .ref h0_userPin, .ref h0_words, .ref h0_sha, .ref h0_stream, .ref h0_aes, .ref h0_modes, .ref h0_gcm, .ref h0_generator, .ref h0_tests, .ref h0_message, .ref h0_secret, .int c_state, .int c_testsDone, .int c_faults, .int c_streamBegun])), (h0_buffer, .inl (cy 0, 512, .inl c_buffer)), (h0_generator, .inr (5, [.ref h0_sha, .ref h0_generator_key, .ref h0_generator_value, .ref h0_generator_message, .int c_generator_begun_8, .int c_generator_requests_9])), (h0_generator_key, .inl (cy 0, 32, .inl c_generator_key_10)), (h0_generator_message, .inl (cy 0, 97, .inl c_generator_message_11)), (h0_generator_value, .inl (cy 0, 32, .inl c_generator_value_17)), (h0_message, .inl (cy 0, 68, .inl c_message)), (h0_secret, .inl (cy 0, 80, .inl c_secret_7)), (h0_sha, .inr (9, [.ref h0_sha_sums, .ref h0_sha_schedule, .ref h0_sha_inner, .int c_sha_filled_12, .int c_sha_total_13])), (h0_sha_inner, .inl (cy 0, 32, .inl c_sha_inner_14)), (h0_sha_schedule, .inl (cy 1, 64, .inl c_sha_schedule_15)), (h0_sha_sums, .inl (cy 1, 8, .inl c_sha_sums_16)), (h0_words, .inr (3, [.ref h0_words_kept, .int c_words_count_5, .int c_words_healthy, .int c_words_last, .int c_words_row, .int c_words_first, .int c_words_placeInWindow, .int c_words_timesInWindow])), (h0_words_kept, .inl (cy 1, 64, .inl c_words_kept_6))]) H := hP
  replace hD : va_D A ([(h0, .inr (11, [.ref h0_buffer, .ref h0_slots, .ref h0_counters, .ref h0_officerPin, .ref h0_userPin, .ref h0_words, .ref h0_sha, .ref h0_stream, .ref h0_aes, .ref h0_modes, .ref h0_gcm, .ref h0_generator, .ref h0_tests, .ref h0_message, .ref h0_secret, .int c_state, .int c_testsDone, .int c_faults, .int c_streamBegun])), (h0_buffer, .inl (cy 0, 512, .inl c_buffer)), (h0_generator, .inr (5, [.ref h0_sha, .ref h0_generator_key, .ref h0_generator_value, .ref h0_generator_message, .int c_generator_begun_8, .int c_generator_requests_9])), (h0_generator_key, .inl (cy 0, 32, .inl c_generator_key_10)), (h0_generator_message, .inl (cy 0, 97, .inl c_generator_message_11)), (h0_generator_value, .inl (cy 0, 32, .inl c_generator_value_17)), (h0_message, .inl (cy 0, 68, .inl c_message)), (h0_secret, .inl (cy 0, 80, .inl c_secret_7)), (h0_sha, .inr (9, [.ref h0_sha_sums, .ref h0_sha_schedule, .ref h0_sha_inner, .int c_sha_filled_12, .int c_sha_total_13])), (h0_sha_inner, .inl (cy 0, 32, .inl c_sha_inner_14)), (h0_sha_schedule, .inl (cy 1, 64, .inl c_sha_schedule_15)), (h0_sha_sums, .inl (cy 1, 8, .inl c_sha_sums_16)), (h0_words, .inr (3, [.ref h0_words_kept, .int c_words_count_5, .int c_words_healthy, .int c_words_last, .int c_words_row, .int c_words_first, .int c_words_placeInWindow, .int c_words_timesInWindow])), (h0_words_kept, .inl (cy 1, 64, .inl c_words_kept_6))]) := hD
  refine W.eq (g2 := F0 m 51 ls []) rfl ?_
  refine lv_aload_n (pc := 51) hx hb (zdt_at zt_X9_drawn_0 25 rfl) rfl (lv_at hl 1 rfl) ?_
  replace hf := zb_s hf
  obtain ⟨c_secret_18, hc_, hf⟩ := hf
  refine zcm2 (pc := 52) (rv := none) (va_runV (As := []) (rest := []) ⟨hx, hb, hml, hown, hts⟩ (c_X9_forgetSecret l D cy tt H.size h0 h0_buffer h0_slots h0_counters h0_officerPin h0_userPin h0_words h0_sha h0_stream h0_aes h0_modes h0_gcm h0_generator h0_tests h0_message h0_secret c_secret_7 c_state c_testsDone c_faults c_streamBegun c_secret_18 hc_) (cwV 0 hts gX9_drawn_X9_forgetSecret rfl rfl rfl (by decide +kernel) ⟨Nat.le_of_ble_eq_true rfl, Nat.le_of_ble_eq_true rfl⟩) ⟨zblind, va_recv hK hP (ci := 11) (q0 := 0) rfl rfl, zpre hE hS (hP.sub [0, 7] rfl) (hD.sub [0, 7] (by decide) rfl) (va_free hD hS hA [0, 7] rfl)⟩ rfl rfl hl.1 rfl (lv_room (Nat.le_of_ble_eq_true rfl)) (zdt_at zt_X9_drawn_0 26 rfl) ⟨Nat.zero_le _, Nat.zero_le _⟩) hS hP hD (va_free hD hS hA [0, 7] rfl) [0, 7] rfl (by decide) rfl ?_
  clear hP hD hS hc_
  intro H locs hP hD hS
  replace hP : va_P D vwCl ([(h0, .inr (11, [.ref h0_buffer, .ref h0_slots, .ref h0_counters, .ref h0_officerPin, .ref h0_userPin, .ref h0_words, .ref h0_sha, .ref h0_stream, .ref h0_aes, .ref h0_modes, .ref h0_gcm, .ref h0_generator, .ref h0_tests, .ref h0_message, .ref h0_secret, .int c_state, .int c_testsDone, .int c_faults, .int c_streamBegun])), (h0_buffer, .inl (cy 0, 512, .inl c_buffer)), (h0_generator, .inr (5, [.ref h0_sha, .ref h0_generator_key, .ref h0_generator_value, .ref h0_generator_message, .int c_generator_begun_8, .int c_generator_requests_9])), (h0_generator_key, .inl (cy 0, 32, .inl c_generator_key_10)), (h0_generator_message, .inl (cy 0, 97, .inl c_generator_message_11)), (h0_generator_value, .inl (cy 0, 32, .inl c_generator_value_17)), (h0_message, .inl (cy 0, 68, .inl c_message)), (h0_secret, .inl (cy 0, 80, .inl c_secret_18)), (h0_sha, .inr (9, [.ref h0_sha_sums, .ref h0_sha_schedule, .ref h0_sha_inner, .int c_sha_filled_12, .int c_sha_total_13])), (h0_sha_inner, .inl (cy 0, 32, .inl c_sha_inner_14)), (h0_sha_schedule, .inl (cy 1, 64, .inl c_sha_schedule_15)), (h0_sha_sums, .inl (cy 1, 8, .inl c_sha_sums_16)), (h0_words, .inr (3, [.ref h0_words_kept, .int c_words_count_5, .int c_words_healthy, .int c_words_last, .int c_words_row, .int c_words_first, .int c_words_placeInWindow, .int c_words_timesInWindow])), (h0_words_kept, .inl (cy 1, 64, .inl c_words_kept_6))]) H := hP
  replace hD : va_D A ([(h0, .inr (11, [.ref h0_buffer, .ref h0_slots, .ref h0_counters, .ref h0_officerPin, .ref h0_userPin, .ref h0_words, .ref h0_sha, .ref h0_stream, .ref h0_aes, .ref h0_modes, .ref h0_gcm, .ref h0_generator, .ref h0_tests, .ref h0_message, .ref h0_secret, .int c_state, .int c_testsDone, .int c_faults, .int c_streamBegun])), (h0_buffer, .inl (cy 0, 512, .inl c_buffer)), (h0_generator, .inr (5, [.ref h0_sha, .ref h0_generator_key, .ref h0_generator_value, .ref h0_generator_message, .int c_generator_begun_8, .int c_generator_requests_9])), (h0_generator_key, .inl (cy 0, 32, .inl c_generator_key_10)), (h0_generator_message, .inl (cy 0, 97, .inl c_generator_message_11)), (h0_generator_value, .inl (cy 0, 32, .inl c_generator_value_17)), (h0_message, .inl (cy 0, 68, .inl c_message)), (h0_secret, .inl (cy 0, 80, .inl c_secret_18)), (h0_sha, .inr (9, [.ref h0_sha_sums, .ref h0_sha_schedule, .ref h0_sha_inner, .int c_sha_filled_12, .int c_sha_total_13])), (h0_sha_inner, .inl (cy 0, 32, .inl c_sha_inner_14)), (h0_sha_schedule, .inl (cy 1, 64, .inl c_sha_schedule_15)), (h0_sha_sums, .inl (cy 1, 8, .inl c_sha_sums_16)), (h0_words, .inr (3, [.ref h0_words_kept, .int c_words_count_5, .int c_words_healthy, .int c_words_last, .int c_words_row, .int c_words_first, .int c_words_placeInWindow, .int c_words_timesInWindow])), (h0_words_kept, .inl (cy 1, 64, .inl c_words_kept_6))]) := hD
  refine W.eq (g2 := F0 m 55 ls []) rfl ?_
  refine lv_aload_n (pc := 55) hx hb (zdt_at zt_X9_drawn_0 27 rfl) rfl (lv_at hl 1 rfl) ?_
  refine va_get (pc := 56) (D := D) (ci := 11) (v := .ref h0_buffer) (C := RX9) (T := TX9) (N := 19) hx hb hts hcX9 hown hK hP 0 rfl rfl 0 (by decide) hw3 (fun _ h9 => h9) rfl (zdt_at zt_X9_drawn_0 28 rfl) ?_
  refine lv_iconst (pc := 59) (v := (0 : Int32)) hx hb (zdt_at zt_X9_drawn_0 29 rfl) (by decide) ?_
  refine lv_aload_n (pc := 60) hx hb (zdt_at zt_X9_drawn_0 30 rfl) rfl (lv_at hl 1 rfl) ?_
  refine va_get (pc := 61) (D := D) (ci := 11) (v := .ref h0_message) (C := RX9) (T := TX9) (N := 19) hx hb hts hcX9 hown hK hP 0 rfl rfl 13 (by decide) hw4 (fun _ h9 => h9) rfl (zdt_at zt_X9_drawn_0 31 rfl) ?_
  refine lv_iconst (pc := 64) (v := (0 : Int32)) hx hb (zdt_at zt_X9_drawn_0 32 rfl) (by decide) ?_
  refine lv_iload (pc := 65) hx hb (zdt_at zt_X9_drawn_0 33 rfl) (lv_at hl 5 rfl) ?_
  replace hf := zk_s hf
  refine va_copyi (pc := 67) hx hb (hml.trans hl.1.symm) hown hw5 hw6 hw7 hw8 hK hP hD hS 1 6 0 0 rfl rfl rfl rfl rfl hf.1.1 hf.1.2.1 hf.1.2.2.1 hf.1.2.2.2.1 hf.1.2.2.2.2.1 hf.1.2.2.2.2.2 (Nat.le_of_ble_eq_true rfl) (Nat.le_of_ble_eq_true rfl) (zdt_at zt_X9_drawn_0 34 rfl) ?_
  replace hf := hf.2
  clear hP hD hS
  intro H locs hP hD hS
  replace hP : va_P D vwCl ([(h0, .inr (11, [.ref h0_buffer, .ref h0_slots, .ref h0_counters, .ref h0_officerPin, .ref h0_userPin, .ref h0_words, .ref h0_sha, .ref h0_stream, .ref h0_aes, .ref h0_modes, .ref h0_gcm, .ref h0_generator, .ref h0_tests, .ref h0_message, .ref h0_secret, .int c_state, .int c_testsDone, .int c_faults, .int c_streamBegun])), (h0_buffer, .inl (cy 0, 512, .inl c_buffer)), (h0_generator, .inr (5, [.ref h0_sha, .ref h0_generator_key, .ref h0_generator_value, .ref h0_generator_message, .int c_generator_begun_8, .int c_generator_requests_9])), (h0_generator_key, .inl (cy 0, 32, .inl c_generator_key_10)), (h0_generator_message, .inl (cy 0, 97, .inl c_generator_message_11)), (h0_generator_value, .inl (cy 0, 32, .inl c_generator_value_17)), (h0_message, .inl (cy 0, 68, .inl (va_cpy c_buffer c_message (0 : Int32).toNatClampNeg (0 : Int32).toNatClampNeg p4.toNatClampNeg))), (h0_secret, .inl (cy 0, 80, .inl c_secret_18)), (h0_sha, .inr (9, [.ref h0_sha_sums, .ref h0_sha_schedule, .ref h0_sha_inner, .int c_sha_filled_12, .int c_sha_total_13])), (h0_sha_inner, .inl (cy 0, 32, .inl c_sha_inner_14)), (h0_sha_schedule, .inl (cy 1, 64, .inl c_sha_schedule_15)), (h0_sha_sums, .inl (cy 1, 8, .inl c_sha_sums_16)), (h0_words, .inr (3, [.ref h0_words_kept, .int c_words_count_5, .int c_words_healthy, .int c_words_last, .int c_words_row, .int c_words_first, .int c_words_placeInWindow, .int c_words_timesInWindow])), (h0_words_kept, .inl (cy 1, 64, .inl c_words_kept_6))]) H := hP
  replace hD : va_D A ([(h0, .inr (11, [.ref h0_buffer, .ref h0_slots, .ref h0_counters, .ref h0_officerPin, .ref h0_userPin, .ref h0_words, .ref h0_sha, .ref h0_stream, .ref h0_aes, .ref h0_modes, .ref h0_gcm, .ref h0_generator, .ref h0_tests, .ref h0_message, .ref h0_secret, .int c_state, .int c_testsDone, .int c_faults, .int c_streamBegun])), (h0_buffer, .inl (cy 0, 512, .inl c_buffer)), (h0_generator, .inr (5, [.ref h0_sha, .ref h0_generator_key, .ref h0_generator_value, .ref h0_generator_message, .int c_generator_begun_8, .int c_generator_requests_9])), (h0_generator_key, .inl (cy 0, 32, .inl c_generator_key_10)), (h0_generator_message, .inl (cy 0, 97, .inl c_generator_message_11)), (h0_generator_value, .inl (cy 0, 32, .inl c_generator_value_17)), (h0_message, .inl (cy 0, 68, .inl (va_cpy c_buffer c_message (0 : Int32).toNatClampNeg (0 : Int32).toNatClampNeg p4.toNatClampNeg))), (h0_secret, .inl (cy 0, 80, .inl c_secret_18)), (h0_sha, .inr (9, [.ref h0_sha_sums, .ref h0_sha_schedule, .ref h0_sha_inner, .int c_sha_filled_12, .int c_sha_total_13])), (h0_sha_inner, .inl (cy 0, 32, .inl c_sha_inner_14)), (h0_sha_schedule, .inl (cy 1, 64, .inl c_sha_schedule_15)), (h0_sha_sums, .inl (cy 1, 8, .inl c_sha_sums_16)), (h0_words, .inr (3, [.ref h0_words_kept, .int c_words_count_5, .int c_words_healthy, .int c_words_last, .int c_words_row, .int c_words_first, .int c_words_placeInWindow, .int c_words_timesInWindow])), (h0_words_kept, .inl (cy 1, 64, .inl c_words_kept_6))]) := hD
  refine lv_aload_n (pc := 70) hx hb (zdt_at zt_X9_drawn_0 35 rfl) rfl (lv_at hl 1 rfl) ?_
  refine va_get (pc := 71) (D := D) (ci := 11) (v := .ref h0_generator) (C := RX9) (T := TX9) (N := 19) hx hb hts hcX9 hown hK hP 0 rfl rfl 11 (by decide) hw0 (fun _ h9 => h9) rfl (zdt_at zt_X9_drawn_0 36 rfl) ?_
  refine lv_aload_n (pc := 74) hx hb (zdt_at zt_X9_drawn_0 37 rfl) rfl (lv_at hl 1 rfl) ?_
  refine va_get (pc := 75) (D := D) (ci := 11) (v := .ref h0_message) (C := RX9) (T := TX9) (N := 19) hx hb hts hcX9 hown hK hP 0 rfl rfl 13 (by decide) hw4 (fun _ h9 => h9) rfl (zdt_at zt_X9_drawn_0 38 rfl) ?_
  refine lv_iload (pc := 78) hx hb (zdt_at zt_X9_drawn_0 39 rfl) (lv_at hl 5 rfl) ?_
  refine lv_aload_n (pc := 80) hx hb (zdt_at zt_X9_drawn_0 40 rfl) rfl (lv_at hl 2 rfl) ?_
  refine lv_iload_n (pc := 81) hx hb (zdt_at zt_X9_drawn_0 41 rfl) rfl (lv_at hl 3 rfl) ?_
  refine lv_iload_n (pc := 82) hx hb (zdt_at zt_X9_drawn_0 42 rfl) rfl (lv_at hl 4 rfl) ?_
  replace hf := zb_s hf
  obtain ⟨⟨c_generator_requests_19, c_generator_key_20, c_generator_message_21, c_sha_filled_22, c_sha_total_23, c_sha_inner_24, c_sha_schedule_25, c_sha_sums_26, c_generator_value_27, c_buffer_28⟩, hc_, hf⟩ := hf
  refine zcm2 (pc := 83) (rv := none) (va_runV (As := [.ref h0_message, .int p4, .ref h0_buffer, .int p2, .int p3]) (rest := []) ⟨hx, hb, hml, hown, hts⟩ (c_X3_answer l D cy tt H.size h0_generator h0_sha h0_generator_key h0_generator_value h0_generator_message h0_sha_sums h0_sha_schedule h0_sha_inner h0_message h0_buffer 68 512 p4 p2 p3 c_generator_requests_9 c_generator_key_10 c_generator_message_11 c_sha_filled_12 c_sha_total_13 c_sha_inner_14 c_sha_schedule_15 c_sha_sums_16 c_generator_value_17 (va_cpy c_buffer c_message (0 : Int32).toNatClampNeg (0 : Int32).toNatClampNeg p4.toNatClampNeg) c_buffer c_generator_begun_8 c_generator_requests_19 c_generator_key_20 c_generator_message_21 c_sha_filled_22 c_sha_total_23 c_sha_inner_24 c_sha_schedule_25 c_sha_sums_26 c_generator_value_27 c_buffer_28 hc_) (cwV 5 hts gX9_drawn_X3_answer rfl rfl rfl (by decide +kernel) ⟨Nat.le_of_ble_eq_true rfl, Nat.le_of_ble_eq_true rfl⟩) ⟨zblind, va_recv hK hP (ci := 5) (q0 := 2) rfl rfl, zpre hE hS (hP.sub [2, 3, 4, 8, 9, 10, 11, 5, 6, 1] rfl) (hD.sub [2, 3, 4, 8, 9, 10, 11, 5, 6, 1] (by decide) rfl) (va_free hD hS hA [2, 3, 4, 8, 9, 10, 11, 5, 6, 1] rfl)⟩ rfl rfl hl.1 rfl (lv_room (Nat.le_of_ble_eq_true rfl)) (zdt_at zt_X9_drawn_0 43 rfl) ⟨Nat.zero_le _, Nat.zero_le _⟩) hS hP hD (va_free hD hS hA [2, 3, 4, 8, 9, 10, 11, 5, 6, 1] rfl) [2, 3, 4, 8, 9, 10, 11, 5, 6, 1] rfl (by decide) rfl ?_
  clear hP hD hS hc_
  intro H locs hP hD hS
  replace hP : va_P D vwCl ([(h0, .inr (11, [.ref h0_buffer, .ref h0_slots, .ref h0_counters, .ref h0_officerPin, .ref h0_userPin, .ref h0_words, .ref h0_sha, .ref h0_stream, .ref h0_aes, .ref h0_modes, .ref h0_gcm, .ref h0_generator, .ref h0_tests, .ref h0_message, .ref h0_secret, .int c_state, .int c_testsDone, .int c_faults, .int c_streamBegun])), (h0_buffer, .inl (cy 0, 512, .inl c_buffer_28)), (h0_generator, .inr (5, [.ref h0_sha, .ref h0_generator_key, .ref h0_generator_value, .ref h0_generator_message, .int c_generator_begun_8, .int c_generator_requests_19])), (h0_generator_key, .inl (cy 0, 32, .inl c_generator_key_20)), (h0_generator_message, .inl (cy 0, 97, .inl c_generator_message_21)), (h0_generator_value, .inl (cy 0, 32, .inl c_generator_value_27)), (h0_message, .inl (cy 0, 68, .inl (va_cpy c_buffer c_message (0 : Int32).toNatClampNeg (0 : Int32).toNatClampNeg p4.toNatClampNeg))), (h0_secret, .inl (cy 0, 80, .inl c_secret_18)), (h0_sha, .inr (9, [.ref h0_sha_sums, .ref h0_sha_schedule, .ref h0_sha_inner, .int c_sha_filled_22, .int c_sha_total_23])), (h0_sha_inner, .inl (cy 0, 32, .inl c_sha_inner_24)), (h0_sha_schedule, .inl (cy 1, 64, .inl c_sha_schedule_25)), (h0_sha_sums, .inl (cy 1, 8, .inl c_sha_sums_26)), (h0_words, .inr (3, [.ref h0_words_kept, .int c_words_count_5, .int c_words_healthy, .int c_words_last, .int c_words_row, .int c_words_first, .int c_words_placeInWindow, .int c_words_timesInWindow])), (h0_words_kept, .inl (cy 1, 64, .inl c_words_kept_6))]) H := hP
  replace hD : va_D A ([(h0, .inr (11, [.ref h0_buffer, .ref h0_slots, .ref h0_counters, .ref h0_officerPin, .ref h0_userPin, .ref h0_words, .ref h0_sha, .ref h0_stream, .ref h0_aes, .ref h0_modes, .ref h0_gcm, .ref h0_generator, .ref h0_tests, .ref h0_message, .ref h0_secret, .int c_state, .int c_testsDone, .int c_faults, .int c_streamBegun])), (h0_buffer, .inl (cy 0, 512, .inl c_buffer_28)), (h0_generator, .inr (5, [.ref h0_sha, .ref h0_generator_key, .ref h0_generator_value, .ref h0_generator_message, .int c_generator_begun_8, .int c_generator_requests_19])), (h0_generator_key, .inl (cy 0, 32, .inl c_generator_key_20)), (h0_generator_message, .inl (cy 0, 97, .inl c_generator_message_21)), (h0_generator_value, .inl (cy 0, 32, .inl c_generator_value_27)), (h0_message, .inl (cy 0, 68, .inl (va_cpy c_buffer c_message (0 : Int32).toNatClampNeg (0 : Int32).toNatClampNeg p4.toNatClampNeg))), (h0_secret, .inl (cy 0, 80, .inl c_secret_18)), (h0_sha, .inr (9, [.ref h0_sha_sums, .ref h0_sha_schedule, .ref h0_sha_inner, .int c_sha_filled_22, .int c_sha_total_23])), (h0_sha_inner, .inl (cy 0, 32, .inl c_sha_inner_24)), (h0_sha_schedule, .inl (cy 1, 64, .inl c_sha_schedule_25)), (h0_sha_sums, .inl (cy 1, 8, .inl c_sha_sums_26)), (h0_words, .inr (3, [.ref h0_words_kept, .int c_words_count_5, .int c_words_healthy, .int c_words_last, .int c_words_row, .int c_words_first, .int c_words_placeInWindow, .int c_words_timesInWindow])), (h0_words_kept, .inl (cy 1, 64, .inl c_words_kept_6))]) := hD
  refine W.eq (g2 := F0 m 86 ls []) rfl ?_
  refine lv_iconst (pc := 86) (v := (1 : Int32)) hx hb (zdt_at zt_X9_drawn_0 44 rfl) (by decide) ?_
  cases hf
  exact W.zret (pc := 87) hx hb hr rfl (fun t ht hW => ⟨rfl, ⟨by rw [ht]; exact hP, hD⟩, hS.F ht⟩) hS.2.2 (zdt_at zt_X9_drawn_0 45 rfl)
def f_X7_mac_1PK_6a3 (n_a3 : Nat) (j1 : Nat) (p2 : Int32) (p4 : Int32) (p5 : Int32) (p7 : Int32) (c_filled : Int32) (c_total : Int32) (c_inner : Nat → Int32) (c_schedule : Nat → Int32) (c_sums : Nat → Int32) (ca3 : Nat → Int32) (cPK : Nat → Nat → Int32) : Option (Int32 × Int32 × (Nat → Int32) × (Nat → Int32) × (Nat → Int32) × (Nat → Int32)) :=
  (f_X7_begin c_filled c_total c_sums).bind (fun (c_filled_1, c_total_2, c_sums_3) => (f_X7_takePadded_1PK j1 p2 (54 : Int32) c_filled_1 c_total_2 c_schedule c_sums_3 cPK).bind (fun (c_filled_4, c_total_5, c_schedule_6, c_sums_7) => (f_X7_take n_a3 p4 p5 c_filled_4 c_total_5 c_schedule_6 c_sums_7 ca3).bind (fun (c_filled_8, c_total_9, c_schedule_10, c_sums_11) => (f_X7_end_1t_inner (0 : Int32) c_filled_8 c_total_9 c_inner c_schedule_10 c_sums_11).bind (fun (c_filled_12, c_inner_13, c_schedule_14, c_sums_15) => (f_X7_begin c_filled_12 c_total_9 c_sums_15).bind (fun (c_filled_16, c_total_17, c_sums_18) => (f_X7_takePadded_1PK j1 p2 (92 : Int32) c_filled_16 c_total_17 c_schedule_14 c_sums_18 cPK).bind (fun (c_filled_19, c_total_20, c_schedule_21, c_sums_22) => (f_X7_take_1t_inner (0 : Int32) (32 : Int32) c_filled_19 c_total_20 c_inner_13 c_schedule_21 c_sums_22).bind (fun (c_filled_23, c_total_24, c_schedule_25, c_sums_26) => (f_X7_end n_a3 p7 c_filled_23 c_total_24 c_schedule_25 c_sums_26 ca3).bind (fun (c_filled_27, c_schedule_28, c_sums_29, ca3_30) => some (c_filled_27, c_total_24, c_inner_13, c_schedule_28, c_sums_29, ca3_30)))))))))
set_option maxHeartbeats 4000000 in
set_option maxRecDepth 100000 in
theorem c_X7_mac_1PK_6a3 (l : Launch) (D : va_G) (cy : Nat → ClassId) (tt : Nat → Nat) (sz : Nat) (h0 : Nat) (h0_sums : Nat) (h0_schedule : Nat) (h0_inner : Nat) (ha3 : Nat) (hP_o : Nat → Nat) (hP_k : Nat → Nat) (n_a3 : Nat) (j1 : Nat) (p2 : Int32) (p4 : Int32) (p5 : Int32) (p7 : Int32) (c_filled : Int32) (c_total : Int32) (c_inner : Nat → Int32) (c_schedule : Nat → Int32) (c_sums : Nat → Int32) (ca3 : Nat → Int32) (cPK : Nat → Nat → Int32) (cP_kind : Nat → Int32) (cP_length : Nat → Int32) (cP_usage : Nat → Int32) (cP_role : Nat → Int32) (cP_uses : Nat → Int32) (c_filled' : Int32) (c_total' : Int32) (c_inner' : Nat → Int32) (c_schedule' : Nat → Int32) (c_sums' : Nat → Int32) (ca3' : Nat → Int32) (hj_j1 : j1 < 16) (hf : f_X7_mac_1PK_6a3 n_a3 j1 p2 p4 p5 p7 c_filled c_total c_inner c_schedule c_sums ca3 cPK = some (c_filled', c_total', c_inner', c_schedule', c_sums', ca3')) : Met l yX7_mac wsX7_mac ({ frames := 3, cells := 0, slots := 0, locals := 84 }) (zPc D cy tt sz [.ref h0, .ref (hP_k j1), .int p2, .ref ha3, .int p4, .int p5, .ref ha3, .int p7] ([(h0, .inr (9, [.ref h0_sums, .ref h0_schedule, .ref h0_inner, .int c_filled, .int c_total])), (h0_inner, .inl (cy 0, 32, .inl c_inner)), (h0_schedule, .inl (cy 1, 64, .inl c_schedule)), (h0_sums, .inl (cy 1, 8, .inl c_sums)), (ha3, .inl (cy 0, n_a3, .inl ca3))] ++ zpO hP_o hP_k cP_kind cP_length cP_usage cP_role cP_uses ++ zpK (cy 0) hP_k cPK)) (zQ D none ([(h0, .inr (9, [.ref h0_sums, .ref h0_schedule, .ref h0_inner, .int c_filled', .int c_total'])), (h0_inner, .inl (cy 0, 32, .inl c_inner')), (h0_schedule, .inl (cy 1, 64, .inl c_schedule')), (h0_sums, .inl (cy 1, 8, .inl c_sums')), (ha3, .inl (cy 0, n_a3, .inl ca3'))] ++ zpO hP_o hP_k cP_kind cP_length cP_usage cP_role cP_uses ++ zpK (cy 0) hP_k cPK) (va_A ([(h0, .inr (9, [.ref h0_sums, .ref h0_schedule, .ref h0_inner, .int c_filled, .int c_total])), (h0_inner, .inl (cy 0, 32, .inl c_inner)), (h0_schedule, .inl (cy 1, 64, .inl c_schedule)), (h0_sums, .inl (cy 1, 8, .inl c_sums)), (ha3, .inl (cy 0, n_a3, .inl ca3))] ++ zpO hP_o hP_k cP_kind cP_length cP_usage cP_role cP_uses ++ zpK (cy 0) hP_k cPK) sz)) 0 0 (va_A ([(h0, .inr (9, [.ref h0_sums, .ref h0_schedule, .ref h0_inner, .int c_filled, .int c_total])), (h0_inner, .inl (cy 0, 32, .inl c_inner)), (h0_schedule, .inl (cy 1, 64, .inl c_schedule)), (h0_sums, .inl (cy 1, 8, .inl c_sums)), (ha3, .inl (cy 0, n_a3, .inl ca3))] ++ zpO hP_o hP_k cP_kind cP_length cP_usage cP_role cP_uses ++ zpK (cy 0) hP_k cPK) sz) := by
  refine Met.ofW (cc := cX7_mac) (maxL := 8) (ret := none) (by decide) rfl ?_
  intro p e s m args below meth c s₁ B hml hv
  obtain ⟨rfl, rfl, hP, hD0, hE⟩ := hv
  have hx := B.exec
  have hb := B.bytes
  have hr := B.returns
  have hts := atoms_spec (ws := wsX7_mac) B.pre
  have hown : s.vm.findClass RX7 = some m.cls := findClass_of_methodNamed B.named
  have hlocks := B.notSynchronized
  clear B
  have hD := hD0.self (sz := s.heap.size)
  generalize hAe : va_A ([(h0, .inr (9, [.ref h0_sums, .ref h0_schedule, .ref h0_inner, .int c_filled, .int c_total])), (h0_inner, .inl (cy 0, 32, .inl c_inner)), (h0_schedule, .inl (cy 1, 64, .inl c_schedule)), (h0_sums, .inl (cy 1, 8, .inl c_sums)), (ha3, .inl (cy 0, n_a3, .inl ca3))] ++ zpO hP_o hP_k cP_kind cP_length cP_usage cP_role cP_uses ++ zpK (cy 0) hP_k cPK) s.heap.size = A at hD hE ⊢
  have hA : ∀ q : Nat, s.heap.size ≤ q → A q := fun q h => by rw [← hAe]; exact Or.inr h
  clear hAe hD0
  have hS : va_S A s.heap s.heap [] := va_S.rf
  have hK := hE.1
  have hw0 := hts (.fieldLink RX7 18 "SealedModule$Sha256" "inner" "[B") (by decide +kernel)
  have hcX7 : ∀ w ∈ u_ws RX7 TX7 5, w ∈ wsX7_mac := (fun _ h => List.mem_cons_of_mem _ (List.mem_append_left _ (List.mem_append_right _ h)))
  have hl := lv_entry ([.ref h0, .ref (hP_k j1), .int p2, .ref ha3, .int p4, .int p5, .ref ha3, .int p7]) (n := 8) (Nat.le_of_ble_eq_true rfl)
  rw [lg_entry_eq]
  generalize (lg_sl ([.ref h0, .ref (hP_k j1), .int p2, .ref ha3, .int p4, .int p5, .ref ha3, .int p7]) ++ List.replicate (8 - (lg_sl ([.ref h0, .ref (hP_k j1), .int p2, .ref ha3, .int p4, .int p5, .ref ha3, .int p7])).length) Slot.unset).toArray = ls at hl ⊢
  replace hl : lv_has ls 8 [(0, .ref h0), (1, .ref (hP_k j1)), (2, .int p2), (3, .ref ha3), (4, .int p4), (5, .int p5), (6, .ref ha3), (7, .int p7)] := hl
  unfold f_X7_mac_1PK_6a3 at hf
  refine zgo (fun GW hTo hFr => ?_)
  refine hFr _ _ _ ?_
  obtain ⟨H, hHe⟩ : ∃ H, H = s.heap := ⟨_, rfl⟩
  obtain ⟨locs, hLe⟩ : ∃ L : List Loc, L = [] := ⟨_, rfl⟩
  rw [← hHe] at hP
  replace hS : va_S A s.heap H locs := by rw [hHe, hLe]; exact hS
  refine zat hHe.symm hLe.symm ?_
  clear hHe hLe
  refine lv_aload_n (pc := 0) hx hb (zdt_at zt_X7_mac_0 0 rfl) rfl (lv_at hl 0 rfl) ?_
  replace hf := zb_s hf
  obtain ⟨⟨c_filled_1, c_total_2, c_sums_3⟩, hc_, hf⟩ := hf
  refine zcm2 (pc := 1) (rv := none) (va_runV (As := []) (rest := []) ⟨hx, hb, hml, hown, hts⟩ (c_X7_begin l D cy tt H.size h0 h0_sums h0_schedule h0_inner c_filled c_total c_sums c_filled_1 c_total_2 c_sums_3 hc_) (cwV 0 hts gX7_mac_X7_begin rfl rfl rfl (by decide +kernel) ⟨Nat.le_of_ble_eq_true rfl, Nat.le_of_ble_eq_true rfl⟩) ⟨zblind, va_recv hK hP (ci := 9) (q0 := 0) rfl rfl, zpre hE hS (hP.sub [0, 3] rfl) (hD.sub [0, 3] (by decide) rfl) (va_free hD hS hA [0, 3] rfl)⟩ rfl rfl hl.1 rfl (lv_room (Nat.le_of_ble_eq_true rfl)) (zdt_at zt_X7_mac_0 1 rfl) ⟨Nat.zero_le _, Nat.zero_le _⟩) hS hP hD (va_free hD hS hA [0, 3] rfl) [0, 3] rfl (by decide) rfl ?_
  clear hP hD hS hc_
  intro H locs hP hD hS
  replace hP : va_P D vwCl ([(h0, .inr (9, [.ref h0_sums, .ref h0_schedule, .ref h0_inner, .int c_filled_1, .int c_total_2])), (h0_inner, .inl (cy 0, 32, .inl c_inner)), (h0_schedule, .inl (cy 1, 64, .inl c_schedule)), (h0_sums, .inl (cy 1, 8, .inl c_sums_3)), (ha3, .inl (cy 0, n_a3, .inl ca3))] ++ zpO hP_o hP_k cP_kind cP_length cP_usage cP_role cP_uses ++ zpK (cy 0) hP_k cPK) H := hP
  replace hD : va_D A ([(h0, .inr (9, [.ref h0_sums, .ref h0_schedule, .ref h0_inner, .int c_filled_1, .int c_total_2])), (h0_inner, .inl (cy 0, 32, .inl c_inner)), (h0_schedule, .inl (cy 1, 64, .inl c_schedule)), (h0_sums, .inl (cy 1, 8, .inl c_sums_3)), (ha3, .inl (cy 0, n_a3, .inl ca3))] ++ zpO hP_o hP_k cP_kind cP_length cP_usage cP_role cP_uses ++ zpK (cy 0) hP_k cPK) := hD
  refine W.eq (g2 := F0 m 4 ls []) rfl ?_
  refine lv_aload_n (pc := 4) hx hb (zdt_at zt_X7_mac_0 2 rfl) rfl (lv_at hl 0 rfl) ?_
  refine lv_aload_n (pc := 5) hx hb (zdt_at zt_X7_mac_0 3 rfl) rfl (lv_at hl 1 rfl) ?_
  refine lv_iload_n (pc := 6) hx hb (zdt_at zt_X7_mac_0 4 rfl) rfl (lv_at hl 2 rfl) ?_
  refine lv_bipush (pc := 7) (v := (54 : Int32)) hx hb (zdt_at zt_X7_mac_0 5 rfl) (by decide) ?_
  replace hf := zb_s hf
  obtain ⟨⟨c_filled_4, c_total_5, c_schedule_6, c_sums_7⟩, hc_, hf⟩ := hf
  refine zcm2 (pc := 9) (rv := none) (va_runV (As := [.ref (hP_k j1), .int p2, .int (54 : Int32)]) (rest := []) ⟨hx, hb, hml, hown, hts⟩ (c_X7_takePadded_1PK l D cy tt H.size h0 h0_sums h0_schedule h0_inner hP_o hP_k j1 p2 (54 : Int32) c_filled_1 c_total_2 c_schedule c_sums_3 cPK cP_kind cP_length cP_usage cP_role cP_uses c_filled_4 c_total_5 c_schedule_6 c_sums_7 hj_j1 hc_) (cwV 3 hts gX7_mac_X7_takePadded rfl rfl rfl (by decide +kernel) ⟨Nat.le_of_ble_eq_true rfl, Nat.le_of_ble_eq_true rfl⟩) ⟨zblind, va_recv hK hP (ci := 9) (q0 := 0) rfl rfl, zpre hE hS (hP.sub [0, 2, 3, 5, 6, 7, 8, 9, 10, 11, 12, 13, 14, 15, 16, 17, 18, 19, 20, 21, 22, 23, 24, 25, 26, 27, 28, 29, 30, 31, 32, 33, 34, 35, 36] rfl) (hD.sub [0, 2, 3, 5, 6, 7, 8, 9, 10, 11, 12, 13, 14, 15, 16, 17, 18, 19, 20, 21, 22, 23, 24, 25, 26, 27, 28, 29, 30, 31, 32, 33, 34, 35, 36] (by decide) rfl) (va_free hD hS hA [0, 2, 3, 5, 6, 7, 8, 9, 10, 11, 12, 13, 14, 15, 16, 17, 18, 19, 20, 21, 22, 23, 24, 25, 26, 27, 28, 29, 30, 31, 32, 33, 34, 35, 36] rfl)⟩ rfl rfl hl.1 rfl (lv_room (Nat.le_of_ble_eq_true rfl)) (zdt_at zt_X7_mac_0 6 rfl) ⟨Nat.zero_le _, Nat.zero_le _⟩) hS hP hD (va_free hD hS hA [0, 2, 3, 5, 6, 7, 8, 9, 10, 11, 12, 13, 14, 15, 16, 17, 18, 19, 20, 21, 22, 23, 24, 25, 26, 27, 28, 29, 30, 31, 32, 33, 34, 35, 36] rfl) [0, 2, 3, 5, 6, 7, 8, 9, 10, 11, 12, 13, 14, 15, 16, 17, 18, 19, 20, 21, 22, 23, 24, 25, 26, 27, 28, 29, 30, 31, 32, 33, 34, 35, 36] rfl (by decide) rfl ?_
  clear hP hD hS hc_
  intro H locs hP hD hS
  replace hP : va_P D vwCl ([(h0, .inr (9, [.ref h0_sums, .ref h0_schedule, .ref h0_inner, .int c_filled_4, .int c_total_5])), (h0_inner, .inl (cy 0, 32, .inl c_inner)), (h0_schedule, .inl (cy 1, 64, .inl c_schedule_6)), (h0_sums, .inl (cy 1, 8, .inl c_sums_7)), (ha3, .inl (cy 0, n_a3, .inl ca3))] ++ zpO hP_o hP_k cP_kind cP_length cP_usage cP_role cP_uses ++ zpK (cy 0) hP_k cPK) H := hP
  replace hD : va_D A ([(h0, .inr (9, [.ref h0_sums, .ref h0_schedule, .ref h0_inner, .int c_filled_4, .int c_total_5])), (h0_inner, .inl (cy 0, 32, .inl c_inner)), (h0_schedule, .inl (cy 1, 64, .inl c_schedule_6)), (h0_sums, .inl (cy 1, 8, .inl c_sums_7)), (ha3, .inl (cy 0, n_a3, .inl ca3))] ++ zpO hP_o hP_k cP_kind cP_length cP_usage cP_role cP_uses ++ zpK (cy 0) hP_k cPK) := hD
  refine W.eq (g2 := F0 m 12 ls []) rfl ?_
  refine lv_aload_n (pc := 12) hx hb (zdt_at zt_X7_mac_0 7 rfl) rfl (lv_at hl 0 rfl) ?_
  refine lv_aload_n (pc := 13) hx hb (zdt_at zt_X7_mac_0 8 rfl) rfl (lv_at hl 3 rfl) ?_
  refine lv_iload (pc := 14) hx hb (zdt_at zt_X7_mac_0 9 rfl) (lv_at hl 4 rfl) ?_
  refine lv_iload (pc := 16) hx hb (zdt_at zt_X7_mac_0 10 rfl) (lv_at hl 5 rfl) ?_
  replace hf := zb_s hf
  obtain ⟨⟨c_filled_8, c_total_9, c_schedule_10, c_sums_11⟩, hc_, hf⟩ := hf
  refine zcm2 (pc := 18) (rv := none) (va_runV (As := [.ref ha3, .int p4, .int p5]) (rest := []) ⟨hx, hb, hml, hown, hts⟩ (c_X7_take l D cy tt H.size h0 h0_sums h0_schedule h0_inner ha3 n_a3 p4 p5 c_filled_4 c_total_5 c_schedule_6 c_sums_7 ca3 c_filled_8 c_total_9 c_schedule_10 c_sums_11 hc_) (cwV 3 hts gX7_mac_X7_take rfl rfl rfl (by decide +kernel) ⟨Nat.le_of_ble_eq_true rfl, Nat.le_of_ble_eq_true rfl⟩) ⟨zblind, va_recv hK hP (ci := 9) (q0 := 0) rfl rfl, zpre hE hS (hP.sub [0, 2, 3, 4] rfl) (hD.sub [0, 2, 3, 4] (by decide) rfl) (va_free hD hS hA [0, 2, 3, 4] rfl)⟩ rfl rfl hl.1 rfl (lv_room (Nat.le_of_ble_eq_true rfl)) (zdt_at zt_X7_mac_0 11 rfl) ⟨Nat.zero_le _, Nat.zero_le _⟩) hS hP hD (va_free hD hS hA [0, 2, 3, 4] rfl) [0, 2, 3, 4] rfl (by decide) rfl ?_
  clear hP hD hS hc_
  intro H locs hP hD hS
  replace hP : va_P D vwCl ([(h0, .inr (9, [.ref h0_sums, .ref h0_schedule, .ref h0_inner, .int c_filled_8, .int c_total_9])), (h0_inner, .inl (cy 0, 32, .inl c_inner)), (h0_schedule, .inl (cy 1, 64, .inl c_schedule_10)), (h0_sums, .inl (cy 1, 8, .inl c_sums_11)), (ha3, .inl (cy 0, n_a3, .inl ca3))] ++ zpO hP_o hP_k cP_kind cP_length cP_usage cP_role cP_uses ++ zpK (cy 0) hP_k cPK) H := hP
  replace hD : va_D A ([(h0, .inr (9, [.ref h0_sums, .ref h0_schedule, .ref h0_inner, .int c_filled_8, .int c_total_9])), (h0_inner, .inl (cy 0, 32, .inl c_inner)), (h0_schedule, .inl (cy 1, 64, .inl c_schedule_10)), (h0_sums, .inl (cy 1, 8, .inl c_sums_11)), (ha3, .inl (cy 0, n_a3, .inl ca3))] ++ zpO hP_o hP_k cP_kind cP_length cP_usage cP_role cP_uses ++ zpK (cy 0) hP_k cPK) := hD
  refine W.eq (g2 := F0 m 21 ls []) rfl ?_
  refine lv_aload_n (pc := 21) hx hb (zdt_at zt_X7_mac_0 12 rfl) rfl (lv_at hl 0 rfl) ?_
  refine lv_aload_n (pc := 22) hx hb (zdt_at zt_X7_mac_0 13 rfl) rfl (lv_at hl 0 rfl) ?_
  refine va_get (pc := 23) (D := D) (ci := 9) (v := .ref h0_inner) (C := RX7) (T := TX7) (N := 5) hx hb hts hcX7 hown hK hP 0 rfl rfl 2 (by decide) hw0 (fun _ h9 => h9) rfl (zdt_at zt_X7_mac_0 14 rfl) ?_
  refine lv_iconst (pc := 26) (v := (0 : Int32)) hx hb (zdt_at zt_X7_mac_0 15 rfl) (by decide) ?_
  replace hf := zb_s hf
  obtain ⟨⟨c_filled_12, c_inner_13, c_schedule_14, c_sums_15⟩, hc_, hf⟩ := hf
  refine zcm2 (pc := 27) (rv := none) (va_runV (As := [.ref h0_inner, .int (0 : Int32)]) (rest := []) ⟨hx, hb, hml, hown, hts⟩ (c_X7_end_1t_inner l D cy tt H.size h0 h0_sums h0_schedule h0_inner (0 : Int32) c_filled_8 c_total_9 c_inner c_schedule_10 c_sums_11 c_filled_12 c_inner_13 c_schedule_14 c_sums_15 hc_) (cwV 2 hts gX7_mac_X7_end rfl rfl rfl (by decide +kernel) ⟨Nat.le_of_ble_eq_true rfl, Nat.le_of_ble_eq_true rfl⟩) ⟨zblind, va_recv hK hP (ci := 9) (q0 := 0) rfl rfl, zpre hE hS (hP.sub [0, 1, 2, 3] rfl) (hD.sub [0, 1, 2, 3] (by decide) rfl) (va_free hD hS hA [0, 1, 2, 3] rfl)⟩ rfl rfl hl.1 rfl (lv_room (Nat.le_of_ble_eq_true rfl)) (zdt_at zt_X7_mac_0 16 rfl) ⟨Nat.zero_le _, Nat.zero_le _⟩) hS hP hD (va_free hD hS hA [0, 1, 2, 3] rfl) [0, 1, 2, 3] rfl (by decide) rfl ?_
  clear hP hD hS hc_
  intro H locs hP hD hS
  replace hP : va_P D vwCl ([(h0, .inr (9, [.ref h0_sums, .ref h0_schedule, .ref h0_inner, .int c_filled_12, .int c_total_9])), (h0_inner, .inl (cy 0, 32, .inl c_inner_13)), (h0_schedule, .inl (cy 1, 64, .inl c_schedule_14)), (h0_sums, .inl (cy 1, 8, .inl c_sums_15)), (ha3, .inl (cy 0, n_a3, .inl ca3))] ++ zpO hP_o hP_k cP_kind cP_length cP_usage cP_role cP_uses ++ zpK (cy 0) hP_k cPK) H := hP
  replace hD : va_D A ([(h0, .inr (9, [.ref h0_sums, .ref h0_schedule, .ref h0_inner, .int c_filled_12, .int c_total_9])), (h0_inner, .inl (cy 0, 32, .inl c_inner_13)), (h0_schedule, .inl (cy 1, 64, .inl c_schedule_14)), (h0_sums, .inl (cy 1, 8, .inl c_sums_15)), (ha3, .inl (cy 0, n_a3, .inl ca3))] ++ zpO hP_o hP_k cP_kind cP_length cP_usage cP_role cP_uses ++ zpK (cy 0) hP_k cPK) := hD
  refine W.eq (g2 := F0 m 30 ls []) rfl ?_
  refine lv_aload_n (pc := 30) hx hb (zdt_at zt_X7_mac_0 17 rfl) rfl (lv_at hl 0 rfl) ?_
  replace hf := zb_s hf
  obtain ⟨⟨c_filled_16, c_total_17, c_sums_18⟩, hc_, hf⟩ := hf
  refine zcm2 (pc := 31) (rv := none) (va_runV (As := []) (rest := []) ⟨hx, hb, hml, hown, hts⟩ (c_X7_begin l D cy tt H.size h0 h0_sums h0_schedule h0_inner c_filled_12 c_total_9 c_sums_15 c_filled_16 c_total_17 c_sums_18 hc_) (cwV 0 hts gX7_mac_X7_begin rfl rfl rfl (by decide +kernel) ⟨Nat.le_of_ble_eq_true rfl, Nat.le_of_ble_eq_true rfl⟩) ⟨zblind, va_recv hK hP (ci := 9) (q0 := 0) rfl rfl, zpre hE hS (hP.sub [0, 3] rfl) (hD.sub [0, 3] (by decide) rfl) (va_free hD hS hA [0, 3] rfl)⟩ rfl rfl hl.1 rfl (lv_room (Nat.le_of_ble_eq_true rfl)) (zdt_at zt_X7_mac_0 18 rfl) ⟨Nat.zero_le _, Nat.zero_le _⟩) hS hP hD (va_free hD hS hA [0, 3] rfl) [0, 3] rfl (by decide) rfl ?_
  clear hP hD hS hc_
  intro H locs hP hD hS
  replace hP : va_P D vwCl ([(h0, .inr (9, [.ref h0_sums, .ref h0_schedule, .ref h0_inner, .int c_filled_16, .int c_total_17])), (h0_inner, .inl (cy 0, 32, .inl c_inner_13)), (h0_schedule, .inl (cy 1, 64, .inl c_schedule_14)), (h0_sums, .inl (cy 1, 8, .inl c_sums_18)), (ha3, .inl (cy 0, n_a3, .inl ca3))] ++ zpO hP_o hP_k cP_kind cP_length cP_usage cP_role cP_uses ++ zpK (cy 0) hP_k cPK) H := hP
  replace hD : va_D A ([(h0, .inr (9, [.ref h0_sums, .ref h0_schedule, .ref h0_inner, .int c_filled_16, .int c_total_17])), (h0_inner, .inl (cy 0, 32, .inl c_inner_13)), (h0_schedule, .inl (cy 1, 64, .inl c_schedule_14)), (h0_sums, .inl (cy 1, 8, .inl c_sums_18)), (ha3, .inl (cy 0, n_a3, .inl ca3))] ++ zpO hP_o hP_k cP_kind cP_length cP_usage cP_role cP_uses ++ zpK (cy 0) hP_k cPK) := hD
  refine W.eq (g2 := F0 m 34 ls []) rfl ?_
  refine lv_aload_n (pc := 34) hx hb (zdt_at zt_X7_mac_0 19 rfl) rfl (lv_at hl 0 rfl) ?_
  refine lv_aload_n (pc := 35) hx hb (zdt_at zt_X7_mac_0 20 rfl) rfl (lv_at hl 1 rfl) ?_
  refine lv_iload_n (pc := 36) hx hb (zdt_at zt_X7_mac_0 21 rfl) rfl (lv_at hl 2 rfl) ?_
  refine lv_bipush (pc := 37) (v := (92 : Int32)) hx hb (zdt_at zt_X7_mac_0 22 rfl) (by decide) ?_
  replace hf := zb_s hf
  obtain ⟨⟨c_filled_19, c_total_20, c_schedule_21, c_sums_22⟩, hc_, hf⟩ := hf
  refine zcm2 (pc := 39) (rv := none) (va_runV (As := [.ref (hP_k j1), .int p2, .int (92 : Int32)]) (rest := []) ⟨hx, hb, hml, hown, hts⟩ (c_X7_takePadded_1PK l D cy tt H.size h0 h0_sums h0_schedule h0_inner hP_o hP_k j1 p2 (92 : Int32) c_filled_16 c_total_17 c_schedule_14 c_sums_18 cPK cP_kind cP_length cP_usage cP_role cP_uses c_filled_19 c_total_20 c_schedule_21 c_sums_22 hj_j1 hc_) (cwV 3 hts gX7_mac_X7_takePadded rfl rfl rfl (by decide +kernel) ⟨Nat.le_of_ble_eq_true rfl, Nat.le_of_ble_eq_true rfl⟩) ⟨zblind, va_recv hK hP (ci := 9) (q0 := 0) rfl rfl, zpre hE hS (hP.sub [0, 2, 3, 5, 6, 7, 8, 9, 10, 11, 12, 13, 14, 15, 16, 17, 18, 19, 20, 21, 22, 23, 24, 25, 26, 27, 28, 29, 30, 31, 32, 33, 34, 35, 36] rfl) (hD.sub [0, 2, 3, 5, 6, 7, 8, 9, 10, 11, 12, 13, 14, 15, 16, 17, 18, 19, 20, 21, 22, 23, 24, 25, 26, 27, 28, 29, 30, 31, 32, 33, 34, 35, 36] (by decide) rfl) (va_free hD hS hA [0, 2, 3, 5, 6, 7, 8, 9, 10, 11, 12, 13, 14, 15, 16, 17, 18, 19, 20, 21, 22, 23, 24, 25, 26, 27, 28, 29, 30, 31, 32, 33, 34, 35, 36] rfl)⟩ rfl rfl hl.1 rfl (lv_room (Nat.le_of_ble_eq_true rfl)) (zdt_at zt_X7_mac_0 23 rfl) ⟨Nat.zero_le _, Nat.zero_le _⟩) hS hP hD (va_free hD hS hA [0, 2, 3, 5, 6, 7, 8, 9, 10, 11, 12, 13, 14, 15, 16, 17, 18, 19, 20, 21, 22, 23, 24, 25, 26, 27, 28, 29, 30, 31, 32, 33, 34, 35, 36] rfl) [0, 2, 3, 5, 6, 7, 8, 9, 10, 11, 12, 13, 14, 15, 16, 17, 18, 19, 20, 21, 22, 23, 24, 25, 26, 27, 28, 29, 30, 31, 32, 33, 34, 35, 36] rfl (by decide) rfl ?_
  clear hP hD hS hc_
  intro H locs hP hD hS
  replace hP : va_P D vwCl ([(h0, .inr (9, [.ref h0_sums, .ref h0_schedule, .ref h0_inner, .int c_filled_19, .int c_total_20])), (h0_inner, .inl (cy 0, 32, .inl c_inner_13)), (h0_schedule, .inl (cy 1, 64, .inl c_schedule_21)), (h0_sums, .inl (cy 1, 8, .inl c_sums_22)), (ha3, .inl (cy 0, n_a3, .inl ca3))] ++ zpO hP_o hP_k cP_kind cP_length cP_usage cP_role cP_uses ++ zpK (cy 0) hP_k cPK) H := hP
  replace hD : va_D A ([(h0, .inr (9, [.ref h0_sums, .ref h0_schedule, .ref h0_inner, .int c_filled_19, .int c_total_20])), (h0_inner, .inl (cy 0, 32, .inl c_inner_13)), (h0_schedule, .inl (cy 1, 64, .inl c_schedule_21)), (h0_sums, .inl (cy 1, 8, .inl c_sums_22)), (ha3, .inl (cy 0, n_a3, .inl ca3))] ++ zpO hP_o hP_k cP_kind cP_length cP_usage cP_role cP_uses ++ zpK (cy 0) hP_k cPK) := hD
  refine W.eq (g2 := F0 m 42 ls []) rfl ?_
  refine lv_aload_n (pc := 42) hx hb (zdt_at zt_X7_mac_0 24 rfl) rfl (lv_at hl 0 rfl) ?_
  refine lv_aload_n (pc := 43) hx hb (zdt_at zt_X7_mac_0 25 rfl) rfl (lv_at hl 0 rfl) ?_
  refine va_get (pc := 44) (D := D) (ci := 9) (v := .ref h0_inner) (C := RX7) (T := TX7) (N := 5) hx hb hts hcX7 hown hK hP 0 rfl rfl 2 (by decide) hw0 (fun _ h9 => h9) rfl (zdt_at zt_X7_mac_0 26 rfl) ?_
  refine lv_iconst (pc := 47) (v := (0 : Int32)) hx hb (zdt_at zt_X7_mac_0 27 rfl) (by decide) ?_
  refine lv_bipush (pc := 48) (v := (32 : Int32)) hx hb (zdt_at zt_X7_mac_0 28 rfl) (by decide) ?_
  replace hf := zb_s hf
  obtain ⟨⟨c_filled_23, c_total_24, c_schedule_25, c_sums_26⟩, hc_, hf⟩ := hf
  refine zcm2 (pc := 50) (rv := none) (va_runV (As := [.ref h0_inner, .int (0 : Int32), .int (32 : Int32)]) (rest := []) ⟨hx, hb, hml, hown, hts⟩ (c_X7_take_1t_inner l D cy tt H.size h0 h0_sums h0_schedule h0_inner (0 : Int32) (32 : Int32) c_filled_19 c_total_20 c_inner_13 c_schedule_21 c_sums_22 c_filled_23 c_total_24 c_schedule_25 c_sums_26 hc_) (cwV 3 hts gX7_mac_X7_take rfl rfl rfl (by decide +kernel) ⟨Nat.le_of_ble_eq_true rfl, Nat.le_of_ble_eq_true rfl⟩) ⟨zblind, va_recv hK hP (ci := 9) (q0 := 0) rfl rfl, zpre hE hS (hP.sub [0, 1, 2, 3] rfl) (hD.sub [0, 1, 2, 3] (by decide) rfl) (va_free hD hS hA [0, 1, 2, 3] rfl)⟩ rfl rfl hl.1 rfl (lv_room (Nat.le_of_ble_eq_true rfl)) (zdt_at zt_X7_mac_0 29 rfl) ⟨Nat.zero_le _, Nat.zero_le _⟩) hS hP hD (va_free hD hS hA [0, 1, 2, 3] rfl) [0, 1, 2, 3] rfl (by decide) rfl ?_
  clear hP hD hS hc_
  intro H locs hP hD hS
  replace hP : va_P D vwCl ([(h0, .inr (9, [.ref h0_sums, .ref h0_schedule, .ref h0_inner, .int c_filled_23, .int c_total_24])), (h0_inner, .inl (cy 0, 32, .inl c_inner_13)), (h0_schedule, .inl (cy 1, 64, .inl c_schedule_25)), (h0_sums, .inl (cy 1, 8, .inl c_sums_26)), (ha3, .inl (cy 0, n_a3, .inl ca3))] ++ zpO hP_o hP_k cP_kind cP_length cP_usage cP_role cP_uses ++ zpK (cy 0) hP_k cPK) H := hP
  replace hD : va_D A ([(h0, .inr (9, [.ref h0_sums, .ref h0_schedule, .ref h0_inner, .int c_filled_23, .int c_total_24])), (h0_inner, .inl (cy 0, 32, .inl c_inner_13)), (h0_schedule, .inl (cy 1, 64, .inl c_schedule_25)), (h0_sums, .inl (cy 1, 8, .inl c_sums_26)), (ha3, .inl (cy 0, n_a3, .inl ca3))] ++ zpO hP_o hP_k cP_kind cP_length cP_usage cP_role cP_uses ++ zpK (cy 0) hP_k cPK) := hD
  refine W.eq (g2 := F0 m 53 ls []) rfl ?_
  refine lv_aload_n (pc := 53) hx hb (zdt_at zt_X7_mac_0 30 rfl) rfl (lv_at hl 0 rfl) ?_
  refine lv_aload (pc := 54) hx hb (zdt_at zt_X7_mac_0 31 rfl) (lv_at hl 6 rfl) ?_
  refine lv_iload (pc := 56) hx hb (zdt_at zt_X7_mac_0 32 rfl) (lv_at hl 7 rfl) ?_
  replace hf := zb_s hf
  obtain ⟨⟨c_filled_27, c_schedule_28, c_sums_29, ca3_30⟩, hc_, hf⟩ := hf
  refine zcm2 (pc := 58) (rv := none) (va_runV (As := [.ref ha3, .int p7]) (rest := []) ⟨hx, hb, hml, hown, hts⟩ (c_X7_end l D cy tt H.size h0 h0_sums h0_schedule h0_inner ha3 n_a3 p7 c_filled_23 c_total_24 c_schedule_25 c_sums_26 ca3 c_filled_27 c_schedule_28 c_sums_29 ca3_30 hc_) (cwV 2 hts gX7_mac_X7_end rfl rfl rfl (by decide +kernel) ⟨Nat.le_of_ble_eq_true rfl, Nat.le_of_ble_eq_true rfl⟩) ⟨zblind, va_recv hK hP (ci := 9) (q0 := 0) rfl rfl, zpre hE hS (hP.sub [0, 2, 3, 4] rfl) (hD.sub [0, 2, 3, 4] (by decide) rfl) (va_free hD hS hA [0, 2, 3, 4] rfl)⟩ rfl rfl hl.1 rfl (lv_room (Nat.le_of_ble_eq_true rfl)) (zdt_at zt_X7_mac_0 33 rfl) ⟨Nat.zero_le _, Nat.zero_le _⟩) hS hP hD (va_free hD hS hA [0, 2, 3, 4] rfl) [0, 2, 3, 4] rfl (by decide) rfl ?_
  clear hP hD hS hc_
  intro H locs hP hD hS
  replace hP : va_P D vwCl ([(h0, .inr (9, [.ref h0_sums, .ref h0_schedule, .ref h0_inner, .int c_filled_27, .int c_total_24])), (h0_inner, .inl (cy 0, 32, .inl c_inner_13)), (h0_schedule, .inl (cy 1, 64, .inl c_schedule_28)), (h0_sums, .inl (cy 1, 8, .inl c_sums_29)), (ha3, .inl (cy 0, n_a3, .inl ca3_30))] ++ zpO hP_o hP_k cP_kind cP_length cP_usage cP_role cP_uses ++ zpK (cy 0) hP_k cPK) H := hP
  replace hD : va_D A ([(h0, .inr (9, [.ref h0_sums, .ref h0_schedule, .ref h0_inner, .int c_filled_27, .int c_total_24])), (h0_inner, .inl (cy 0, 32, .inl c_inner_13)), (h0_schedule, .inl (cy 1, 64, .inl c_schedule_28)), (h0_sums, .inl (cy 1, 8, .inl c_sums_29)), (ha3, .inl (cy 0, n_a3, .inl ca3_30))] ++ zpO hP_o hP_k cP_kind cP_length cP_usage cP_role cP_uses ++ zpK (cy 0) hP_k cPK) := hD
  refine W.eq (g2 := F0 m 61 ls []) rfl ?_
  cases hf
  exact W.vret (pc := 61) hx hb hr (fun t ht hW => ⟨rfl, ⟨by rw [ht]; exact hP, hD⟩, hS.F ht⟩) hS.2.2 (zdt_at zt_X7_mac_0 34 rfl)
def f_X9_served (p1 : Int32) (p2 : Int32) (p3 : Int32) (p4 : Int32) (p5 : Int32) (c_aes_rounds : Int32) (c_aes_keys : Nat → Int32) (c_buffer : Nat → Int32) (c_gcm_keyHigh : Int64) (c_gcm_keyLow : Int64) (c_gcm_sumHigh : Int64) (c_gcm_sumLow : Int64) (c_gcm_tag : Nat → Int32) (c_generator_begun : Int32) (c_generator_requests : Int32) (c_generator_key : Nat → Int32) (c_generator_message : Nat → Int32) (c_generator_value : Nat → Int32) (c_message : Nat → Int32) (c_modes_block : Nat → Int32) (c_modes_pad : Nat → Int32) (c_secret : Nat → Int32) (c_sha_filled : Int32) (c_sha_total : Int32) (c_sha_inner : Nat → Int32) (c_sha_schedule : Nat → Int32) (c_sha_sums : Nat → Int32) (c_words_count : Int32) (c_words_healthy : Int32) (c_words_kept : Nat → Int32) (cP_length : Nat → Int32) (cP_uses : Nat → Int32) (cPK : Nat → Nat → Int32) : Option (Int32 × Int32 × (Nat → Int32) × (Nat → Int32) × Int64 × Int64 × Int64 × Int64 × (Nat → Int32) × Int32 × Int32 × (Nat → Int32) × (Nat → Int32) × (Nat → Int32) × (Nat → Int32) × (Nat → Int32) × (Nat → Int32) × (Nat → Int32) × Int32 × Int32 × (Nat → Int32) × (Nat → Int32) × (Nat → Int32) × Int32 × (Nat → Int32) × (Nat → Int32)) :=
  if p1 = (9 : Int32) then (f_X7_begin c_sha_filled c_sha_total c_sha_sums).bind (fun (c_sha_filled_1, c_sha_total_2, c_sha_sums_3) => (f_X7_take 512 p3 p4 c_sha_filled_1 c_sha_total_2 c_sha_schedule c_sha_sums_3 c_buffer).bind (fun (c_sha_filled_4, c_sha_total_5, c_sha_schedule_6, c_sha_sums_7) => (f_X7_end 512 p3 c_sha_filled_4 c_sha_total_5 c_sha_schedule_6 c_sha_sums_7 c_buffer).bind (fun (c_sha_filled_8, c_sha_schedule_9, c_sha_sums_10, c_buffer_11) => some ((32 : Int32), c_aes_rounds, c_aes_keys, c_buffer_11, c_gcm_keyHigh, c_gcm_keyLow, c_gcm_sumHigh, c_gcm_sumLow, c_gcm_tag, c_generator_begun, c_generator_requests, c_generator_key, c_generator_message, c_generator_value, c_message, c_modes_block, c_modes_pad, c_secret, c_sha_filled_8, c_sha_total_5, c_sha_inner, c_sha_schedule_9, c_sha_sums_10, c_words_count, c_words_kept, cP_uses)))) else if p1 = (10 : Int32) then zk (¬ (p2 < 0 ∨ 16 ≤ p2.toNatClampNeg)) ((f_X8_takeUse p2.toNatClampNeg cP_uses).bind (fun cP_uses_14 => zk (¬ (p2 < 0 ∨ 16 ≤ p2.toNatClampNeg)) (zk (¬ (p2 < 0 ∨ 16 ≤ p2.toNatClampNeg)) ((f_X7_mac_1PK_6a3 512 p2.toNatClampNeg (cP_length p2.toNatClampNeg) p3 p4 p3 c_sha_filled c_sha_total c_sha_inner c_sha_schedule c_sha_sums c_buffer cPK).bind (fun (c_sha_filled_17, c_sha_total_18, c_sha_inner_19, c_sha_schedule_20, c_sha_sums_21, c_buffer_22) => some ((32 : Int32), c_aes_rounds, c_aes_keys, c_buffer_22, c_gcm_keyHigh, c_gcm_keyLow, c_gcm_sumHigh, c_gcm_sumLow, c_gcm_tag, c_generator_begun, c_generator_requests, c_generator_key, c_generator_message, c_generator_value, c_message, c_modes_block, c_modes_pad, c_secret, c_sha_filled_17, c_sha_total_18, c_sha_inner_19, c_sha_schedule_20, c_sha_sums_21, c_words_count, c_words_kept, cP_uses_14)))))) else if p1 = (11 : Int32) then (f_X9_drawn_1t_buffer p3 p4 p5 c_buffer c_generator_begun c_generator_requests c_generator_key c_generator_message c_generator_value c_message c_secret c_sha_filled c_sha_total c_sha_inner c_sha_schedule c_sha_sums c_words_count c_words_healthy c_words_kept).bind (fun (r_24, c_buffer_25, c_generator_begun_26, c_generator_requests_27, c_generator_key_28, c_generator_message_29, c_generator_value_30, c_message_31, c_secret_32, c_sha_filled_33, c_sha_total_34, c_sha_inner_35, c_sha_schedule_36, c_sha_sums_37, c_words_count_38, c_words_kept_39) => if r_24 = 0 then some ((-8 : Int32), c_aes_rounds, c_aes_keys, c_buffer_25, c_gcm_keyHigh, c_gcm_keyLow, c_gcm_sumHigh, c_gcm_sumLow, c_gcm_tag, c_generator_begun_26, c_generator_requests_27, c_generator_key_28, c_generator_message_29, c_generator_value_30, c_message_31, c_modes_block, c_modes_pad, c_secret_32, c_sha_filled_33, c_sha_total_34, c_sha_inner_35, c_sha_schedule_36, c_sha_sums_37, c_words_count_38, c_words_kept_39, cP_uses) else some (p4, c_aes_rounds, c_aes_keys, c_buffer_25, c_gcm_keyHigh, c_gcm_keyLow, c_gcm_sumHigh, c_gcm_sumLow, c_gcm_tag, c_generator_begun_26, c_generator_requests_27, c_generator_key_28, c_generator_message_29, c_generator_value_30, c_message_31, c_modes_block, c_modes_pad, c_secret_32, c_sha_filled_33, c_sha_total_34, c_sha_inner_35, c_sha_schedule_36, c_sha_sums_37, c_words_count_38, c_words_kept_39, cP_uses)) else zk (¬ (p2 < 0 ∨ 16 ≤ p2.toNatClampNeg)) ((f_X8_takeUse p2.toNatClampNeg cP_uses).bind (fun cP_uses_44 => zk (¬ (p2 < 0 ∨ 16 ≤ p2.toNatClampNeg)) (zk (¬ (p2 < 0 ∨ 16 ≤ p2.toNatClampNeg)) ((f_X0_setKey_1PK p2.toNatClampNeg (cP_length p2.toNatClampNeg) c_aes_rounds c_aes_keys cPK).bind (fun (c_aes_rounds_47, c_aes_keys_48) => (f_X9_servedByAes p1 p3 p4 p5 c_aes_rounds_47 c_aes_keys_48 c_buffer c_gcm_keyHigh c_gcm_keyLow c_gcm_sumHigh c_gcm_sumLow c_gcm_tag c_modes_block c_modes_pad).bind (fun (r_49, c_buffer_50, c_gcm_keyHigh_51, c_gcm_keyLow_52, c_gcm_sumHigh_53, c_gcm_sumLow_54, c_gcm_tag_55, c_modes_block_56, c_modes_pad_57) => some (r_49, c_aes_rounds_47, c_aes_keys_48, c_buffer_50, c_gcm_keyHigh_51, c_gcm_keyLow_52, c_gcm_sumHigh_53, c_gcm_sumLow_54, c_gcm_tag_55, c_generator_begun, c_generator_requests, c_generator_key, c_generator_message, c_generator_value, c_message, c_modes_block_56, c_modes_pad_57, c_secret, c_sha_filled, c_sha_total, c_sha_inner, c_sha_schedule, c_sha_sums, c_words_count, c_words_kept, cP_uses_44)))))))
set_option maxHeartbeats 4000000 in
set_option maxRecDepth 100000 in
theorem c_X9_served (l : Launch) (D : va_G) (cy : Nat → ClassId) (tt : Nat → Nat) (sz : Nat) (h0 : Nat) (h0_buffer : Nat) (h0_slots : Nat) (h0_counters : Nat) (h0_officerPin : Nat) (h0_userPin : Nat) (h0_words : Nat) (h0_sha : Nat) (h0_stream : Nat) (h0_aes : Nat) (h0_modes : Nat) (h0_gcm : Nat) (h0_generator : Nat) (h0_tests : Nat) (h0_message : Nat) (h0_secret : Nat) (h0_aes_keys : Nat) (h0_gcm_tag : Nat) (h0_generator_key : Nat) (h0_generator_value : Nat) (h0_generator_message : Nat) (h0_modes_block : Nat) (h0_modes_pad : Nat) (h0_sha_sums : Nat) (h0_sha_schedule : Nat) (h0_sha_inner : Nat) (hP_o : Nat → Nat) (h0_words_kept : Nat) (hP_k : Nat → Nat) (p1 : Int32) (p2 : Int32) (p3 : Int32) (p4 : Int32) (p5 : Int32) (c_aes_rounds : Int32) (c_aes_keys : Nat → Int32) (c_buffer : Nat → Int32) (c_gcm_keyHigh : Int64) (c_gcm_keyLow : Int64) (c_gcm_sumHigh : Int64) (c_gcm_sumLow : Int64) (c_gcm_tag : Nat → Int32) (c_generator_begun : Int32) (c_generator_requests : Int32) (c_generator_key : Nat → Int32) (c_generator_message : Nat → Int32) (c_generator_value : Nat → Int32) (c_message : Nat → Int32) (c_modes_block : Nat → Int32) (c_modes_pad : Nat → Int32) (c_secret : Nat → Int32) (c_sha_filled : Int32) (c_sha_total : Int32) (c_sha_inner : Nat → Int32) (c_sha_schedule : Nat → Int32) (c_sha_sums : Nat → Int32) (c_words_count : Int32) (c_words_healthy : Int32) (c_words_kept : Nat → Int32) (cP_length : Nat → Int32) (cP_uses : Nat → Int32) (cPK : Nat → Nat → Int32) (c_state : Int32) (c_testsDone : Int32) (c_faults : Int32) (c_streamBegun : Int32) (c_words_last : Int32) (c_words_row : Int32) (c_words_first : Int32) (c_words_placeInWindow : Int32) (c_words_timesInWindow : Int32) (cP_kind : Nat → Int32) (cP_usage : Nat → Int32) (cP_role : Nat → Int32) (r_ : Int32) (c_aes_rounds' : Int32) (c_aes_keys' : Nat → Int32) (c_buffer' : Nat → Int32) (c_gcm_keyHigh' : Int64) (c_gcm_keyLow' : Int64) (c_gcm_sumHigh' : Int64) (c_gcm_sumLow' : Int64) (c_gcm_tag' : Nat → Int32) (c_generator_begun' : Int32) (c_generator_requests' : Int32) (c_generator_key' : Nat → Int32) (c_generator_message' : Nat → Int32) (c_generator_value' : Nat → Int32) (c_message' : Nat → Int32) (c_modes_block' : Nat → Int32) (c_modes_pad' : Nat → Int32) (c_secret' : Nat → Int32) (c_sha_filled' : Int32) (c_sha_total' : Int32) (c_sha_inner' : Nat → Int32) (c_sha_schedule' : Nat → Int32) (c_sha_sums' : Nat → Int32) (c_words_count' : Int32) (c_words_kept' : Nat → Int32) (cP_uses' : Nat → Int32) (hf : f_X9_served p1 p2 p3 p4 p5 c_aes_rounds c_aes_keys c_buffer c_gcm_keyHigh c_gcm_keyLow c_gcm_sumHigh c_gcm_sumLow c_gcm_tag c_generator_begun c_generator_requests c_generator_key c_generator_message c_generator_value c_message c_modes_block c_modes_pad c_secret c_sha_filled c_sha_total c_sha_inner c_sha_schedule c_sha_sums c_words_count c_words_healthy c_words_kept cP_length cP_uses cPK = some (r_, c_aes_rounds', c_aes_keys', c_buffer', c_gcm_keyHigh', c_gcm_keyLow', c_gcm_sumHigh', c_gcm_sumLow', c_gcm_tag', c_generator_begun', c_generator_requests', c_generator_key', c_generator_message', c_generator_value', c_message', c_modes_block', c_modes_pad', c_secret', c_sha_filled', c_sha_total', c_sha_inner', c_sha_schedule', c_sha_sums', c_words_count', c_words_kept', cP_uses')) : Met l yX9_served wsX9_served ({ frames := 7, cells := 0, slots := 0, locals := 186 }) (zPc D cy tt sz [.ref h0, .int p1, .int p2, .int p3, .int p4, .int p5] ([(h0, .inr (11, [.ref h0_buffer, .ref h0_slots, .ref h0_counters, .ref h0_officerPin, .ref h0_userPin, .ref h0_words, .ref h0_sha, .ref h0_stream, .ref h0_aes, .ref h0_modes, .ref h0_gcm, .ref h0_generator, .ref h0_tests, .ref h0_message, .ref h0_secret, .int c_state, .int c_testsDone, .int c_faults, .int c_streamBegun])), (h0_aes, .inr (2, [.ref h0_aes_keys, .int c_aes_rounds])), (h0_aes_keys, .inl (cy 1, 60, .inl c_aes_keys)), (h0_buffer, .inl (cy 0, 512, .inl c_buffer)), (h0_gcm, .inr (4, [.ref h0_aes, .ref h0_modes, .ref h0_gcm_tag, .long c_gcm_keyHigh, .long c_gcm_keyLow, .long c_gcm_sumHigh, .long c_gcm_sumLow])), (h0_gcm_tag, .inl (cy 0, 16, .inl c_gcm_tag)), (h0_generator, .inr (5, [.ref h0_sha, .ref h0_generator_key, .ref h0_generator_value, .ref h0_generator_message, .int c_generator_begun, .int c_generator_requests])), (h0_generator_key, .inl (cy 0, 32, .inl c_generator_key)), (h0_generator_message, .inl (cy 0, 97, .inl c_generator_message)), (h0_generator_value, .inl (cy 0, 32, .inl c_generator_value)), (h0_message, .inl (cy 0, 68, .inl c_message)), (h0_modes, .inr (6, [.ref h0_aes, .ref h0_modes_block, .ref h0_modes_pad])), (h0_modes_block, .inl (cy 0, 16, .inl c_modes_block)), (h0_modes_pad, .inl (cy 0, 16, .inl c_modes_pad)), (h0_secret, .inl (cy 0, 80, .inl c_secret)), (h0_sha, .inr (9, [.ref h0_sha_sums, .ref h0_sha_schedule, .ref h0_sha_inner, .int c_sha_filled, .int c_sha_total])), (h0_sha_inner, .inl (cy 0, 32, .inl c_sha_inner)), (h0_sha_schedule, .inl (cy 1, 64, .inl c_sha_schedule)), (h0_sha_sums, .inl (cy 1, 8, .inl c_sha_sums)), (h0_slots, .inl (cy 4, 16, .inr (.inr (.inr (.inr (fun j => some (hP_o j))))))), (h0_words, .inr (3, [.ref h0_words_kept, .int c_words_count, .int c_words_healthy, .int c_words_last, .int c_words_row, .int c_words_first, .int c_words_placeInWindow, .int c_words_timesInWindow])), (h0_words_kept, .inl (cy 1, 64, .inl c_words_kept))] ++ zpO hP_o hP_k cP_kind cP_length cP_usage cP_role cP_uses ++ zpK (cy 0) hP_k cPK)) (zQ D (some (.int r_)) ([(h0, .inr (11, [.ref h0_buffer, .ref h0_slots, .ref h0_counters, .ref h0_officerPin, .ref h0_userPin, .ref h0_words, .ref h0_sha, .ref h0_stream, .ref h0_aes, .ref h0_modes, .ref h0_gcm, .ref h0_generator, .ref h0_tests, .ref h0_message, .ref h0_secret, .int c_state, .int c_testsDone, .int c_faults, .int c_streamBegun])), (h0_aes, .inr (2, [.ref h0_aes_keys, .int c_aes_rounds'])), (h0_aes_keys, .inl (cy 1, 60, .inl c_aes_keys')), (h0_buffer, .inl (cy 0, 512, .inl c_buffer')), (h0_gcm, .inr (4, [.ref h0_aes, .ref h0_modes, .ref h0_gcm_tag, .long c_gcm_keyHigh', .long c_gcm_keyLow', .long c_gcm_sumHigh', .long c_gcm_sumLow'])), (h0_gcm_tag, .inl (cy 0, 16, .inl c_gcm_tag')), (h0_generator, .inr (5, [.ref h0_sha, .ref h0_generator_key, .ref h0_generator_value, .ref h0_generator_message, .int c_generator_begun', .int c_generator_requests'])), (h0_generator_key, .inl (cy 0, 32, .inl c_generator_key')), (h0_generator_message, .inl (cy 0, 97, .inl c_generator_message')), (h0_generator_value, .inl (cy 0, 32, .inl c_generator_value')), (h0_message, .inl (cy 0, 68, .inl c_message')), (h0_modes, .inr (6, [.ref h0_aes, .ref h0_modes_block, .ref h0_modes_pad])), (h0_modes_block, .inl (cy 0, 16, .inl c_modes_block')), (h0_modes_pad, .inl (cy 0, 16, .inl c_modes_pad')), (h0_secret, .inl (cy 0, 80, .inl c_secret')), (h0_sha, .inr (9, [.ref h0_sha_sums, .ref h0_sha_schedule, .ref h0_sha_inner, .int c_sha_filled', .int c_sha_total'])), (h0_sha_inner, .inl (cy 0, 32, .inl c_sha_inner')), (h0_sha_schedule, .inl (cy 1, 64, .inl c_sha_schedule')), (h0_sha_sums, .inl (cy 1, 8, .inl c_sha_sums')), (h0_slots, .inl (cy 4, 16, .inr (.inr (.inr (.inr (fun j => some (hP_o j))))))), (h0_words, .inr (3, [.ref h0_words_kept, .int c_words_count', .int c_words_healthy, .int c_words_last, .int c_words_row, .int c_words_first, .int c_words_placeInWindow, .int c_words_timesInWindow])), (h0_words_kept, .inl (cy 1, 64, .inl c_words_kept'))] ++ zpO hP_o hP_k cP_kind cP_length cP_usage cP_role cP_uses' ++ zpK (cy 0) hP_k cPK) (va_A ([(h0, .inr (11, [.ref h0_buffer, .ref h0_slots, .ref h0_counters, .ref h0_officerPin, .ref h0_userPin, .ref h0_words, .ref h0_sha, .ref h0_stream, .ref h0_aes, .ref h0_modes, .ref h0_gcm, .ref h0_generator, .ref h0_tests, .ref h0_message, .ref h0_secret, .int c_state, .int c_testsDone, .int c_faults, .int c_streamBegun])), (h0_aes, .inr (2, [.ref h0_aes_keys, .int c_aes_rounds])), (h0_aes_keys, .inl (cy 1, 60, .inl c_aes_keys)), (h0_buffer, .inl (cy 0, 512, .inl c_buffer)), (h0_gcm, .inr (4, [.ref h0_aes, .ref h0_modes, .ref h0_gcm_tag, .long c_gcm_keyHigh, .long c_gcm_keyLow, .long c_gcm_sumHigh, .long c_gcm_sumLow])), (h0_gcm_tag, .inl (cy 0, 16, .inl c_gcm_tag)), (h0_generator, .inr (5, [.ref h0_sha, .ref h0_generator_key, .ref h0_generator_value, .ref h0_generator_message, .int c_generator_begun, .int c_generator_requests])), (h0_generator_key, .inl (cy 0, 32, .inl c_generator_key)), (h0_generator_message, .inl (cy 0, 97, .inl c_generator_message)), (h0_generator_value, .inl (cy 0, 32, .inl c_generator_value)), (h0_message, .inl (cy 0, 68, .inl c_message)), (h0_modes, .inr (6, [.ref h0_aes, .ref h0_modes_block, .ref h0_modes_pad])), (h0_modes_block, .inl (cy 0, 16, .inl c_modes_block)), (h0_modes_pad, .inl (cy 0, 16, .inl c_modes_pad)), (h0_secret, .inl (cy 0, 80, .inl c_secret)), (h0_sha, .inr (9, [.ref h0_sha_sums, .ref h0_sha_schedule, .ref h0_sha_inner, .int c_sha_filled, .int c_sha_total])), (h0_sha_inner, .inl (cy 0, 32, .inl c_sha_inner)), (h0_sha_schedule, .inl (cy 1, 64, .inl c_sha_schedule)), (h0_sha_sums, .inl (cy 1, 8, .inl c_sha_sums)), (h0_slots, .inl (cy 4, 16, .inr (.inr (.inr (.inr (fun j => some (hP_o j))))))), (h0_words, .inr (3, [.ref h0_words_kept, .int c_words_count, .int c_words_healthy, .int c_words_last, .int c_words_row, .int c_words_first, .int c_words_placeInWindow, .int c_words_timesInWindow])), (h0_words_kept, .inl (cy 1, 64, .inl c_words_kept))] ++ zpO hP_o hP_k cP_kind cP_length cP_usage cP_role cP_uses ++ zpK (cy 0) hP_k cPK) sz)) 0 0 (va_A ([(h0, .inr (11, [.ref h0_buffer, .ref h0_slots, .ref h0_counters, .ref h0_officerPin, .ref h0_userPin, .ref h0_words, .ref h0_sha, .ref h0_stream, .ref h0_aes, .ref h0_modes, .ref h0_gcm, .ref h0_generator, .ref h0_tests, .ref h0_message, .ref h0_secret, .int c_state, .int c_testsDone, .int c_faults, .int c_streamBegun])), (h0_aes, .inr (2, [.ref h0_aes_keys, .int c_aes_rounds])), (h0_aes_keys, .inl (cy 1, 60, .inl c_aes_keys)), (h0_buffer, .inl (cy 0, 512, .inl c_buffer)), (h0_gcm, .inr (4, [.ref h0_aes, .ref h0_modes, .ref h0_gcm_tag, .long c_gcm_keyHigh, .long c_gcm_keyLow, .long c_gcm_sumHigh, .long c_gcm_sumLow])), (h0_gcm_tag, .inl (cy 0, 16, .inl c_gcm_tag)), (h0_generator, .inr (5, [.ref h0_sha, .ref h0_generator_key, .ref h0_generator_value, .ref h0_generator_message, .int c_generator_begun, .int c_generator_requests])), (h0_generator_key, .inl (cy 0, 32, .inl c_generator_key)), (h0_generator_message, .inl (cy 0, 97, .inl c_generator_message)), (h0_generator_value, .inl (cy 0, 32, .inl c_generator_value)), (h0_message, .inl (cy 0, 68, .inl c_message)), (h0_modes, .inr (6, [.ref h0_aes, .ref h0_modes_block, .ref h0_modes_pad])), (h0_modes_block, .inl (cy 0, 16, .inl c_modes_block)), (h0_modes_pad, .inl (cy 0, 16, .inl c_modes_pad)), (h0_secret, .inl (cy 0, 80, .inl c_secret)), (h0_sha, .inr (9, [.ref h0_sha_sums, .ref h0_sha_schedule, .ref h0_sha_inner, .int c_sha_filled, .int c_sha_total])), (h0_sha_inner, .inl (cy 0, 32, .inl c_sha_inner)), (h0_sha_schedule, .inl (cy 1, 64, .inl c_sha_schedule)), (h0_sha_sums, .inl (cy 1, 8, .inl c_sha_sums)), (h0_slots, .inl (cy 4, 16, .inr (.inr (.inr (.inr (fun j => some (hP_o j))))))), (h0_words, .inr (3, [.ref h0_words_kept, .int c_words_count, .int c_words_healthy, .int c_words_last, .int c_words_row, .int c_words_first, .int c_words_placeInWindow, .int c_words_timesInWindow])), (h0_words_kept, .inl (cy 1, 64, .inl c_words_kept))] ++ zpO hP_o hP_k cP_kind cP_length cP_usage cP_role cP_uses ++ zpK (cy 0) hP_k cPK) sz) := by
  refine Met.ofW (cc := cX9_served) (maxL := 6) (ret := (some .int)) (by decide) rfl ?_
  intro p e s m args below meth c s₁ B hml hv
  obtain ⟨rfl, rfl, hP, hD0, hE⟩ := hv
  have hx := B.exec
  have hb := B.bytes
  have hr := B.returns
  have hts := atoms_spec (ws := wsX9_served) B.pre
  have hown : s.vm.findClass RX9 = some m.cls := findClass_of_methodNamed B.named
  have hlocks := B.notSynchronized
  clear B
  have hD := hD0.self (sz := s.heap.size)
  generalize hAe : va_A ([(h0, .inr (11, [.ref h0_buffer, .ref h0_slots, .ref h0_counters, .ref h0_officerPin, .ref h0_userPin, .ref h0_words, .ref h0_sha, .ref h0_stream, .ref h0_aes, .ref h0_modes, .ref h0_gcm, .ref h0_generator, .ref h0_tests, .ref h0_message, .ref h0_secret, .int c_state, .int c_testsDone, .int c_faults, .int c_streamBegun])), (h0_aes, .inr (2, [.ref h0_aes_keys, .int c_aes_rounds])), (h0_aes_keys, .inl (cy 1, 60, .inl c_aes_keys)), (h0_buffer, .inl (cy 0, 512, .inl c_buffer)), (h0_gcm, .inr (4, [.ref h0_aes, .ref h0_modes, .ref h0_gcm_tag, .long c_gcm_keyHigh, .long c_gcm_keyLow, .long c_gcm_sumHigh, .long c_gcm_sumLow])), (h0_gcm_tag, .inl (cy 0, 16, .inl c_gcm_tag)), (h0_generator, .inr (5, [.ref h0_sha, .ref h0_generator_key, .ref h0_generator_value, .ref h0_generator_message, .int c_generator_begun, .int c_generator_requests])), (h0_generator_key, .inl (cy 0, 32, .inl c_generator_key)), (h0_generator_message, .inl (cy 0, 97, .inl c_generator_message)), (h0_generator_value, .inl (cy 0, 32, .inl c_generator_value)), (h0_message, .inl (cy 0, 68, .inl c_message)), (h0_modes, .inr (6, [.ref h0_aes, .ref h0_modes_block, .ref h0_modes_pad])), (h0_modes_block, .inl (cy 0, 16, .inl c_modes_block)), (h0_modes_pad, .inl (cy 0, 16, .inl c_modes_pad)), (h0_secret, .inl (cy 0, 80, .inl c_secret)), (h0_sha, .inr (9, [.ref h0_sha_sums, .ref h0_sha_schedule, .ref h0_sha_inner, .int c_sha_filled, .int c_sha_total])), (h0_sha_inner, .inl (cy 0, 32, .inl c_sha_inner)), (h0_sha_schedule, .inl (cy 1, 64, .inl c_sha_schedule)), (h0_sha_sums, .inl (cy 1, 8, .inl c_sha_sums)), (h0_slots, .inl (cy 4, 16, .inr (.inr (.inr (.inr (fun j => some (hP_o j))))))), (h0_words, .inr (3, [.ref h0_words_kept, .int c_words_count, .int c_words_healthy, .int c_words_last, .int c_words_row, .int c_words_first, .int c_words_placeInWindow, .int c_words_timesInWindow])), (h0_words_kept, .inl (cy 1, 64, .inl c_words_kept))] ++ zpO hP_o hP_k cP_kind cP_length cP_usage cP_role cP_uses ++ zpK (cy 0) hP_k cPK) s.heap.size = A at hD hE ⊢
  have hA : ∀ q : Nat, s.heap.size ≤ q → A q := fun q h => by rw [← hAe]; exact Or.inr h
  clear hAe hD0
  have hS : va_S A s.heap s.heap [] := va_S.rf
  have hK := hE.1
  have hw0 := hts (.fieldLink RX9 45 "SealedModule" "sha" "LSealedModule$Sha256;") (by decide +kernel)
  have hw1 := hts (.fieldLink RX9 9 "SealedModule" "buffer" "[B") (by decide +kernel)
  have hw2 := hts (.fieldLink RX9 15 "SealedModule" "slots" "[LSealedModule$Slot;") (by decide +kernel)
  have hw3 := hts (.fieldLink RX9 286 "SealedModule$Slot" "key" "[B") (by decide +kernel)
  have hw4 := hts (.fieldLink RX9 207 "SealedModule$Slot" "length" "I") (by decide +kernel)
  have hw5 := hts (.fieldLink RX9 55 "SealedModule" "aes" "LSealedModule$Aes;") (by decide +kernel)
  have hcX9 : ∀ w ∈ u_ws RX9 TX9 19, w ∈ wsX9_served := (fun _ h => List.mem_cons_of_mem _ (List.mem_append_left _ (List.mem_append_left _ (List.mem_append_left _ (List.mem_append_left _ (List.mem_append_left _ (List.mem_append_left _ (List.mem_append_left _ (List.mem_append_left _ (List.mem_append_right _ h))))))))))
  have hcX8 : ∀ w ∈ u_ws RX8 TX8 6, w ∈ wsX9_served := (fun _ h => List.mem_cons_of_mem _ (List.mem_append_left _ (List.mem_append_left _ (List.mem_append_left _ (List.mem_append_left _ (List.mem_append_left _ (List.mem_append_left _ (List.mem_append_left _ (List.mem_append_right _ h)))))))))
  have hl := lv_entry ([.ref h0, .int p1, .int p2, .int p3, .int p4, .int p5]) (n := 6) (Nat.le_of_ble_eq_true rfl)
  rw [lg_entry_eq]
  generalize (lg_sl ([.ref h0, .int p1, .int p2, .int p3, .int p4, .int p5]) ++ List.replicate (6 - (lg_sl ([.ref h0, .int p1, .int p2, .int p3, .int p4, .int p5])).length) Slot.unset).toArray = ls at hl ⊢
  replace hl : lv_has ls 6 [(0, .ref h0), (1, .int p1), (2, .int p2), (3, .int p3), (4, .int p4), (5, .int p5)] := hl
  unfold f_X9_served at hf
  refine zgo (fun GW hTo hFr => ?_)
  refine hFr _ _ _ ?_
  obtain ⟨H, hHe⟩ : ∃ H, H = s.heap := ⟨_, rfl⟩
  obtain ⟨locs, hLe⟩ : ∃ L : List Loc, L = [] := ⟨_, rfl⟩
  rw [← hHe] at hP
  replace hS : va_S A s.heap H locs := by rw [hHe, hLe]; exact hS
  refine zat hHe.symm hLe.symm ?_
  clear hHe hLe
  refine lv_iload_n (pc := 0) hx hb (zdt_at zt_X9_served_0 0 rfl) rfl (lv_at hl 1 rfl) ?_
  by_cases hs_12 : p1 = (9 : Int32)
  · replace hf := zt_s hs_12 hf
    refine lv_tableIn (pc := 1) (tgt := 28) (off := 27) hx hb (zdt_at zt_X9_served_0 1 rfl) (by rw [hs_12]; decide) (by rw [hs_12]; decide) (by rw [hs_12]; rfl) (by decide) ?_
    clear hs_12
    refine lv_aload_n (pc := 28) hx hb (zdt_at zt_X9_served_0 2 rfl) rfl (lv_at hl 0 rfl) ?_
    refine va_get (pc := 29) (D := D) (ci := 11) (v := .ref h0_sha) (C := RX9) (T := TX9) (N := 19) hx hb hts hcX9 hown hK hP 0 rfl rfl 6 (by decide) hw0 (fun _ h9 => h9) rfl (zdt_at zt_X9_served_0 3 rfl) ?_
    replace hf := zb_s hf
    obtain ⟨⟨c_sha_filled_1, c_sha_total_2, c_sha_sums_3⟩, hc_, hf⟩ := hf
    refine zcm2 (pc := 32) (rv := none) (va_runV (As := []) (rest := []) ⟨hx, hb, hml, hown, hts⟩ (c_X7_begin l D cy tt H.size h0_sha h0_sha_sums h0_sha_schedule h0_sha_inner c_sha_filled c_sha_total c_sha_sums c_sha_filled_1 c_sha_total_2 c_sha_sums_3 hc_) (cwV 0 hts gX9_served_X7_begin rfl rfl rfl (by decide +kernel) ⟨Nat.le_of_ble_eq_true rfl, Nat.le_of_ble_eq_true rfl⟩) ⟨zblind, va_recv hK hP (ci := 9) (q0 := 15) rfl rfl, zpre hE hS (hP.sub [15, 18] rfl) (hD.sub [15, 18] (by decide) rfl) (va_free hD hS hA [15, 18] rfl)⟩ rfl rfl hl.1 rfl (lv_room (Nat.le_of_ble_eq_true rfl)) (zdt_at zt_X9_served_0 4 rfl) ⟨Nat.zero_le _, Nat.zero_le _⟩) hS hP hD (va_free hD hS hA [15, 18] rfl) [15, 18] rfl (by decide) rfl ?_
    clear hP hD hS hc_
    intro H locs hP hD hS
    replace hP : va_P D vwCl ([(h0, .inr (11, [.ref h0_buffer, .ref h0_slots, .ref h0_counters, .ref h0_officerPin, .ref h0_userPin, .ref h0_words, .ref h0_sha, .ref h0_stream, .ref h0_aes, .ref h0_modes, .ref h0_gcm, .ref h0_generator, .ref h0_tests, .ref h0_message, .ref h0_secret, .int c_state, .int c_testsDone, .int c_faults, .int c_streamBegun])), (h0_aes, .inr (2, [.ref h0_aes_keys, .int c_aes_rounds])), (h0_aes_keys, .inl (cy 1, 60, .inl c_aes_keys)), (h0_buffer, .inl (cy 0, 512, .inl c_buffer)), (h0_gcm, .inr (4, [.ref h0_aes, .ref h0_modes, .ref h0_gcm_tag, .long c_gcm_keyHigh, .long c_gcm_keyLow, .long c_gcm_sumHigh, .long c_gcm_sumLow])), (h0_gcm_tag, .inl (cy 0, 16, .inl c_gcm_tag)), (h0_generator, .inr (5, [.ref h0_sha, .ref h0_generator_key, .ref h0_generator_value, .ref h0_generator_message, .int c_generator_begun, .int c_generator_requests])), (h0_generator_key, .inl (cy 0, 32, .inl c_generator_key)), (h0_generator_message, .inl (cy 0, 97, .inl c_generator_message)), (h0_generator_value, .inl (cy 0, 32, .inl c_generator_value)), (h0_message, .inl (cy 0, 68, .inl c_message)), (h0_modes, .inr (6, [.ref h0_aes, .ref h0_modes_block, .ref h0_modes_pad])), (h0_modes_block, .inl (cy 0, 16, .inl c_modes_block)), (h0_modes_pad, .inl (cy 0, 16, .inl c_modes_pad)), (h0_secret, .inl (cy 0, 80, .inl c_secret)), (h0_sha, .inr (9, [.ref h0_sha_sums, .ref h0_sha_schedule, .ref h0_sha_inner, .int c_sha_filled_1, .int c_sha_total_2])), (h0_sha_inner, .inl (cy 0, 32, .inl c_sha_inner)), (h0_sha_schedule, .inl (cy 1, 64, .inl c_sha_schedule)), (h0_sha_sums, .inl (cy 1, 8, .inl c_sha_sums_3)), (h0_slots, .inl (cy 4, 16, .inr (.inr (.inr (.inr (fun j => some (hP_o j))))))), (h0_words, .inr (3, [.ref h0_words_kept, .int c_words_count, .int c_words_healthy, .int c_words_last, .int c_words_row, .int c_words_first, .int c_words_placeInWindow, .int c_words_timesInWindow])), (h0_words_kept, .inl (cy 1, 64, .inl c_words_kept))] ++ zpO hP_o hP_k cP_kind cP_length cP_usage cP_role cP_uses ++ zpK (cy 0) hP_k cPK) H := hP
    replace hD : va_D A ([(h0, .inr (11, [.ref h0_buffer, .ref h0_slots, .ref h0_counters, .ref h0_officerPin, .ref h0_userPin, .ref h0_words, .ref h0_sha, .ref h0_stream, .ref h0_aes, .ref h0_modes, .ref h0_gcm, .ref h0_generator, .ref h0_tests, .ref h0_message, .ref h0_secret, .int c_state, .int c_testsDone, .int c_faults, .int c_streamBegun])), (h0_aes, .inr (2, [.ref h0_aes_keys, .int c_aes_rounds])), (h0_aes_keys, .inl (cy 1, 60, .inl c_aes_keys)), (h0_buffer, .inl (cy 0, 512, .inl c_buffer)), (h0_gcm, .inr (4, [.ref h0_aes, .ref h0_modes, .ref h0_gcm_tag, .long c_gcm_keyHigh, .long c_gcm_keyLow, .long c_gcm_sumHigh, .long c_gcm_sumLow])), (h0_gcm_tag, .inl (cy 0, 16, .inl c_gcm_tag)), (h0_generator, .inr (5, [.ref h0_sha, .ref h0_generator_key, .ref h0_generator_value, .ref h0_generator_message, .int c_generator_begun, .int c_generator_requests])), (h0_generator_key, .inl (cy 0, 32, .inl c_generator_key)), (h0_generator_message, .inl (cy 0, 97, .inl c_generator_message)), (h0_generator_value, .inl (cy 0, 32, .inl c_generator_value)), (h0_message, .inl (cy 0, 68, .inl c_message)), (h0_modes, .inr (6, [.ref h0_aes, .ref h0_modes_block, .ref h0_modes_pad])), (h0_modes_block, .inl (cy 0, 16, .inl c_modes_block)), (h0_modes_pad, .inl (cy 0, 16, .inl c_modes_pad)), (h0_secret, .inl (cy 0, 80, .inl c_secret)), (h0_sha, .inr (9, [.ref h0_sha_sums, .ref h0_sha_schedule, .ref h0_sha_inner, .int c_sha_filled_1, .int c_sha_total_2])), (h0_sha_inner, .inl (cy 0, 32, .inl c_sha_inner)), (h0_sha_schedule, .inl (cy 1, 64, .inl c_sha_schedule)), (h0_sha_sums, .inl (cy 1, 8, .inl c_sha_sums_3)), (h0_slots, .inl (cy 4, 16, .inr (.inr (.inr (.inr (fun j => some (hP_o j))))))), (h0_words, .inr (3, [.ref h0_words_kept, .int c_words_count, .int c_words_healthy, .int c_words_last, .int c_words_row, .int c_words_first, .int c_words_placeInWindow, .int c_words_timesInWindow])), (h0_words_kept, .inl (cy 1, 64, .inl c_words_kept))] ++ zpO hP_o hP_k cP_kind cP_length cP_usage cP_role cP_uses ++ zpK (cy 0) hP_k cPK) := hD
    refine W.eq (g2 := F0 m 35 ls []) rfl ?_
    refine lv_aload_n (pc := 35) hx hb (zdt_at zt_X9_served_0 5 rfl) rfl (lv_at hl 0 rfl) ?_
    refine va_get (pc := 36) (D := D) (ci := 11) (v := .ref h0_sha) (C := RX9) (T := TX9) (N := 19) hx hb hts hcX9 hown hK hP 0 rfl rfl 6 (by decide) hw0 (fun _ h9 => h9) rfl (zdt_at zt_X9_served_0 6 rfl) ?_
    refine lv_aload_n (pc := 39) hx hb (zdt_at zt_X9_served_0 7 rfl) rfl (lv_at hl 0 rfl) ?_
    refine va_get (pc := 40) (D := D) (ci := 11) (v := .ref h0_buffer) (C := RX9) (T := TX9) (N := 19) hx hb hts hcX9 hown hK hP 0 rfl rfl 0 (by decide) hw1 (fun _ h9 => h9) rfl (zdt_at zt_X9_served_0 8 rfl) ?_
    refine lv_iload_n (pc := 43) hx hb (zdt_at zt_X9_served_0 9 rfl) rfl (lv_at hl 3 rfl) ?_
    refine lv_iload (pc := 44) hx hb (zdt_at zt_X9_served_0 10 rfl) (lv_at hl 4 rfl) ?_
    replace hf := zb_s hf
    obtain ⟨⟨c_sha_filled_4, c_sha_total_5, c_sha_schedule_6, c_sha_sums_7⟩, hc_, hf⟩ := hf
    refine zcm2 (pc := 46) (rv := none) (va_runV (As := [.ref h0_buffer, .int p3, .int p4]) (rest := []) ⟨hx, hb, hml, hown, hts⟩ (c_X7_take l D cy tt H.size h0_sha h0_sha_sums h0_sha_schedule h0_sha_inner h0_buffer 512 p3 p4 c_sha_filled_1 c_sha_total_2 c_sha_schedule c_sha_sums_3 c_buffer c_sha_filled_4 c_sha_total_5 c_sha_schedule_6 c_sha_sums_7 hc_) (cwV 3 hts gX9_served_X7_take rfl rfl rfl (by decide +kernel) ⟨Nat.le_of_ble_eq_true rfl, Nat.le_of_ble_eq_true rfl⟩) ⟨zblind, va_recv hK hP (ci := 9) (q0 := 15) rfl rfl, zpre hE hS (hP.sub [15, 17, 18, 3] rfl) (hD.sub [15, 17, 18, 3] (by decide) rfl) (va_free hD hS hA [15, 17, 18, 3] rfl)⟩ rfl rfl hl.1 rfl (lv_room (Nat.le_of_ble_eq_true rfl)) (zdt_at zt_X9_served_0 11 rfl) ⟨Nat.zero_le _, Nat.zero_le _⟩) hS hP hD (va_free hD hS hA [15, 17, 18, 3] rfl) [15, 17, 18, 3] rfl (by decide) rfl ?_
    clear hP hD hS hc_
    intro H locs hP hD hS
    replace hP : va_P D vwCl ([(h0, .inr (11, [.ref h0_buffer, .ref h0_slots, .ref h0_counters, .ref h0_officerPin, .ref h0_userPin, .ref h0_words, .ref h0_sha, .ref h0_stream, .ref h0_aes, .ref h0_modes, .ref h0_gcm, .ref h0_generator, .ref h0_tests, .ref h0_message, .ref h0_secret, .int c_state, .int c_testsDone, .int c_faults, .int c_streamBegun])), (h0_aes, .inr (2, [.ref h0_aes_keys, .int c_aes_rounds])), (h0_aes_keys, .inl (cy 1, 60, .inl c_aes_keys)), (h0_buffer, .inl (cy 0, 512, .inl c_buffer)), (h0_gcm, .inr (4, [.ref h0_aes, .ref h0_modes, .ref h0_gcm_tag, .long c_gcm_keyHigh, .long c_gcm_keyLow, .long c_gcm_sumHigh, .long c_gcm_sumLow])), (h0_gcm_tag, .inl (cy 0, 16, .inl c_gcm_tag)), (h0_generator, .inr (5, [.ref h0_sha, .ref h0_generator_key, .ref h0_generator_value, .ref h0_generator_message, .int c_generator_begun, .int c_generator_requests])), (h0_generator_key, .inl (cy 0, 32, .inl c_generator_key)), (h0_generator_message, .inl (cy 0, 97, .inl c_generator_message)), (h0_generator_value, .inl (cy 0, 32, .inl c_generator_value)), (h0_message, .inl (cy 0, 68, .inl c_message)), (h0_modes, .inr (6, [.ref h0_aes, .ref h0_modes_block, .ref h0_modes_pad])), (h0_modes_block, .inl (cy 0, 16, .inl c_modes_block)), (h0_modes_pad, .inl (cy 0, 16, .inl c_modes_pad)), (h0_secret, .inl (cy 0, 80, .inl c_secret)), (h0_sha, .inr (9, [.ref h0_sha_sums, .ref h0_sha_schedule, .ref h0_sha_inner, .int c_sha_filled_4, .int c_sha_total_5])), (h0_sha_inner, .inl (cy 0, 32, .inl c_sha_inner)), (h0_sha_schedule, .inl (cy 1, 64, .inl c_sha_schedule_6)), (h0_sha_sums, .inl (cy 1, 8, .inl c_sha_sums_7)), (h0_slots, .inl (cy 4, 16, .inr (.inr (.inr (.inr (fun j => some (hP_o j))))))), (h0_words, .inr (3, [.ref h0_words_kept, .int c_words_count, .int c_words_healthy, .int c_words_last, .int c_words_row, .int c_words_first, .int c_words_placeInWindow, .int c_words_timesInWindow])), (h0_words_kept, .inl (cy 1, 64, .inl c_words_kept))] ++ zpO hP_o hP_k cP_kind cP_length cP_usage cP_role cP_uses ++ zpK (cy 0) hP_k cPK) H := hP
    replace hD : va_D A ([(h0, .inr (11, [.ref h0_buffer, .ref h0_slots, .ref h0_counters, .ref h0_officerPin, .ref h0_userPin, .ref h0_words, .ref h0_sha, .ref h0_stream, .ref h0_aes, .ref h0_modes, .ref h0_gcm, .ref h0_generator, .ref h0_tests, .ref h0_message, .ref h0_secret, .int c_state, .int c_testsDone, .int c_faults, .int c_streamBegun])), (h0_aes, .inr (2, [.ref h0_aes_keys, .int c_aes_rounds])), (h0_aes_keys, .inl (cy 1, 60, .inl c_aes_keys)), (h0_buffer, .inl (cy 0, 512, .inl c_buffer)), (h0_gcm, .inr (4, [.ref h0_aes, .ref h0_modes, .ref h0_gcm_tag, .long c_gcm_keyHigh, .long c_gcm_keyLow, .long c_gcm_sumHigh, .long c_gcm_sumLow])), (h0_gcm_tag, .inl (cy 0, 16, .inl c_gcm_tag)), (h0_generator, .inr (5, [.ref h0_sha, .ref h0_generator_key, .ref h0_generator_value, .ref h0_generator_message, .int c_generator_begun, .int c_generator_requests])), (h0_generator_key, .inl (cy 0, 32, .inl c_generator_key)), (h0_generator_message, .inl (cy 0, 97, .inl c_generator_message)), (h0_generator_value, .inl (cy 0, 32, .inl c_generator_value)), (h0_message, .inl (cy 0, 68, .inl c_message)), (h0_modes, .inr (6, [.ref h0_aes, .ref h0_modes_block, .ref h0_modes_pad])), (h0_modes_block, .inl (cy 0, 16, .inl c_modes_block)), (h0_modes_pad, .inl (cy 0, 16, .inl c_modes_pad)), (h0_secret, .inl (cy 0, 80, .inl c_secret)), (h0_sha, .inr (9, [.ref h0_sha_sums, .ref h0_sha_schedule, .ref h0_sha_inner, .int c_sha_filled_4, .int c_sha_total_5])), (h0_sha_inner, .inl (cy 0, 32, .inl c_sha_inner)), (h0_sha_schedule, .inl (cy 1, 64, .inl c_sha_schedule_6)), (h0_sha_sums, .inl (cy 1, 8, .inl c_sha_sums_7)), (h0_slots, .inl (cy 4, 16, .inr (.inr (.inr (.inr (fun j => some (hP_o j))))))), (h0_words, .inr (3, [.ref h0_words_kept, .int c_words_count, .int c_words_healthy, .int c_words_last, .int c_words_row, .int c_words_first, .int c_words_placeInWindow, .int c_words_timesInWindow])), (h0_words_kept, .inl (cy 1, 64, .inl c_words_kept))] ++ zpO hP_o hP_k cP_kind cP_length cP_usage cP_role cP_uses ++ zpK (cy 0) hP_k cPK) := hD
    refine W.eq (g2 := F0 m 49 ls []) rfl ?_
    refine lv_aload_n (pc := 49) hx hb (zdt_at zt_X9_served_0 12 rfl) rfl (lv_at hl 0 rfl) ?_
    refine va_get (pc := 50) (D := D) (ci := 11) (v := .ref h0_sha) (C := RX9) (T := TX9) (N := 19) hx hb hts hcX9 hown hK hP 0 rfl rfl 6 (by decide) hw0 (fun _ h9 => h9) rfl (zdt_at zt_X9_served_0 13 rfl) ?_
    refine lv_aload_n (pc := 53) hx hb (zdt_at zt_X9_served_0 14 rfl) rfl (lv_at hl 0 rfl) ?_
    refine va_get (pc := 54) (D := D) (ci := 11) (v := .ref h0_buffer) (C := RX9) (T := TX9) (N := 19) hx hb hts hcX9 hown hK hP 0 rfl rfl 0 (by decide) hw1 (fun _ h9 => h9) rfl (zdt_at zt_X9_served_0 15 rfl) ?_
    refine lv_iload_n (pc := 57) hx hb (zdt_at zt_X9_served_0 16 rfl) rfl (lv_at hl 3 rfl) ?_
    replace hf := zb_s hf
    obtain ⟨⟨c_sha_filled_8, c_sha_schedule_9, c_sha_sums_10, c_buffer_11⟩, hc_, hf⟩ := hf
    refine zcm2 (pc := 58) (rv := none) (va_runV (As := [.ref h0_buffer, .int p3]) (rest := []) ⟨hx, hb, hml, hown, hts⟩ (c_X7_end l D cy tt H.size h0_sha h0_sha_sums h0_sha_schedule h0_sha_inner h0_buffer 512 p3 c_sha_filled_4 c_sha_total_5 c_sha_schedule_6 c_sha_sums_7 c_buffer c_sha_filled_8 c_sha_schedule_9 c_sha_sums_10 c_buffer_11 hc_) (cwV 2 hts gX9_served_X7_end rfl rfl rfl (by decide +kernel) ⟨Nat.le_of_ble_eq_true rfl, Nat.le_of_ble_eq_true rfl⟩) ⟨zblind, va_recv hK hP (ci := 9) (q0 := 15) rfl rfl, zpre hE hS (hP.sub [15, 17, 18, 3] rfl) (hD.sub [15, 17, 18, 3] (by decide) rfl) (va_free hD hS hA [15, 17, 18, 3] rfl)⟩ rfl rfl hl.1 rfl (lv_room (Nat.le_of_ble_eq_true rfl)) (zdt_at zt_X9_served_0 17 rfl) ⟨Nat.zero_le _, Nat.zero_le _⟩) hS hP hD (va_free hD hS hA [15, 17, 18, 3] rfl) [15, 17, 18, 3] rfl (by decide) rfl ?_
    clear hP hD hS hc_
    intro H locs hP hD hS
    replace hP : va_P D vwCl ([(h0, .inr (11, [.ref h0_buffer, .ref h0_slots, .ref h0_counters, .ref h0_officerPin, .ref h0_userPin, .ref h0_words, .ref h0_sha, .ref h0_stream, .ref h0_aes, .ref h0_modes, .ref h0_gcm, .ref h0_generator, .ref h0_tests, .ref h0_message, .ref h0_secret, .int c_state, .int c_testsDone, .int c_faults, .int c_streamBegun])), (h0_aes, .inr (2, [.ref h0_aes_keys, .int c_aes_rounds])), (h0_aes_keys, .inl (cy 1, 60, .inl c_aes_keys)), (h0_buffer, .inl (cy 0, 512, .inl c_buffer_11)), (h0_gcm, .inr (4, [.ref h0_aes, .ref h0_modes, .ref h0_gcm_tag, .long c_gcm_keyHigh, .long c_gcm_keyLow, .long c_gcm_sumHigh, .long c_gcm_sumLow])), (h0_gcm_tag, .inl (cy 0, 16, .inl c_gcm_tag)), (h0_generator, .inr (5, [.ref h0_sha, .ref h0_generator_key, .ref h0_generator_value, .ref h0_generator_message, .int c_generator_begun, .int c_generator_requests])), (h0_generator_key, .inl (cy 0, 32, .inl c_generator_key)), (h0_generator_message, .inl (cy 0, 97, .inl c_generator_message)), (h0_generator_value, .inl (cy 0, 32, .inl c_generator_value)), (h0_message, .inl (cy 0, 68, .inl c_message)), (h0_modes, .inr (6, [.ref h0_aes, .ref h0_modes_block, .ref h0_modes_pad])), (h0_modes_block, .inl (cy 0, 16, .inl c_modes_block)), (h0_modes_pad, .inl (cy 0, 16, .inl c_modes_pad)), (h0_secret, .inl (cy 0, 80, .inl c_secret)), (h0_sha, .inr (9, [.ref h0_sha_sums, .ref h0_sha_schedule, .ref h0_sha_inner, .int c_sha_filled_8, .int c_sha_total_5])), (h0_sha_inner, .inl (cy 0, 32, .inl c_sha_inner)), (h0_sha_schedule, .inl (cy 1, 64, .inl c_sha_schedule_9)), (h0_sha_sums, .inl (cy 1, 8, .inl c_sha_sums_10)), (h0_slots, .inl (cy 4, 16, .inr (.inr (.inr (.inr (fun j => some (hP_o j))))))), (h0_words, .inr (3, [.ref h0_words_kept, .int c_words_count, .int c_words_healthy, .int c_words_last, .int c_words_row, .int c_words_first, .int c_words_placeInWindow, .int c_words_timesInWindow])), (h0_words_kept, .inl (cy 1, 64, .inl c_words_kept))] ++ zpO hP_o hP_k cP_kind cP_length cP_usage cP_role cP_uses ++ zpK (cy 0) hP_k cPK) H := hP
    replace hD : va_D A ([(h0, .inr (11, [.ref h0_buffer, .ref h0_slots, .ref h0_counters, .ref h0_officerPin, .ref h0_userPin, .ref h0_words, .ref h0_sha, .ref h0_stream, .ref h0_aes, .ref h0_modes, .ref h0_gcm, .ref h0_generator, .ref h0_tests, .ref h0_message, .ref h0_secret, .int c_state, .int c_testsDone, .int c_faults, .int c_streamBegun])), (h0_aes, .inr (2, [.ref h0_aes_keys, .int c_aes_rounds])), (h0_aes_keys, .inl (cy 1, 60, .inl c_aes_keys)), (h0_buffer, .inl (cy 0, 512, .inl c_buffer_11)), (h0_gcm, .inr (4, [.ref h0_aes, .ref h0_modes, .ref h0_gcm_tag, .long c_gcm_keyHigh, .long c_gcm_keyLow, .long c_gcm_sumHigh, .long c_gcm_sumLow])), (h0_gcm_tag, .inl (cy 0, 16, .inl c_gcm_tag)), (h0_generator, .inr (5, [.ref h0_sha, .ref h0_generator_key, .ref h0_generator_value, .ref h0_generator_message, .int c_generator_begun, .int c_generator_requests])), (h0_generator_key, .inl (cy 0, 32, .inl c_generator_key)), (h0_generator_message, .inl (cy 0, 97, .inl c_generator_message)), (h0_generator_value, .inl (cy 0, 32, .inl c_generator_value)), (h0_message, .inl (cy 0, 68, .inl c_message)), (h0_modes, .inr (6, [.ref h0_aes, .ref h0_modes_block, .ref h0_modes_pad])), (h0_modes_block, .inl (cy 0, 16, .inl c_modes_block)), (h0_modes_pad, .inl (cy 0, 16, .inl c_modes_pad)), (h0_secret, .inl (cy 0, 80, .inl c_secret)), (h0_sha, .inr (9, [.ref h0_sha_sums, .ref h0_sha_schedule, .ref h0_sha_inner, .int c_sha_filled_8, .int c_sha_total_5])), (h0_sha_inner, .inl (cy 0, 32, .inl c_sha_inner)), (h0_sha_schedule, .inl (cy 1, 64, .inl c_sha_schedule_9)), (h0_sha_sums, .inl (cy 1, 8, .inl c_sha_sums_10)), (h0_slots, .inl (cy 4, 16, .inr (.inr (.inr (.inr (fun j => some (hP_o j))))))), (h0_words, .inr (3, [.ref h0_words_kept, .int c_words_count, .int c_words_healthy, .int c_words_last, .int c_words_row, .int c_words_first, .int c_words_placeInWindow, .int c_words_timesInWindow])), (h0_words_kept, .inl (cy 1, 64, .inl c_words_kept))] ++ zpO hP_o hP_k cP_kind cP_length cP_usage cP_role cP_uses ++ zpK (cy 0) hP_k cPK) := hD
    refine W.eq (g2 := F0 m 61 ls []) rfl ?_
    refine lv_bipush (pc := 61) (v := (32 : Int32)) hx hb (zdt_at zt_X9_served_0 18 rfl) (by decide) ?_
    cases hf
    exact W.iret (pc := 63) hx hb hr (fun t ht hW => ⟨rfl, ⟨by rw [ht]; exact hP, hD⟩, hS.F ht⟩) hS.2.2 (zdt_at zt_X9_served_0 19 rfl)
  replace hf := ze_s hs_12 hf
  by_cases hs_23 : p1 = (10 : Int32)
  · replace hf := zt_s hs_23 hf
    refine lv_tableIn (pc := 1) (tgt := 88) (off := 87) hx hb (zdt_at zt_X9_served_0 1 rfl) (by rw [hs_23]; decide) (by rw [hs_23]; decide) (by rw [hs_23]; rfl) (by decide) ?_
    clear hs_23
    refine lv_aload_n (pc := 88) hx hb (zdt_at zt_X9_served_0 32 rfl) rfl (lv_at hl 0 rfl) ?_
    refine va_get (pc := 89) (D := D) (ci := 11) (v := .ref h0_slots) (C := RX9) (T := TX9) (N := 19) hx hb hts hcX9 hown hK hP 0 rfl rfl 1 (by decide) hw2 (fun _ h9 => h9) rfl (zdt_at zt_X9_served_0 33 rfl) ?_
    refine lv_iload_n (pc := 92) hx hb (zdt_at zt_X9_served_0 34 rfl) rfl (lv_at hl 2 rfl) ?_
    replace hf := zk_s hf
    have hj_13 : p2.toNatClampNeg < 16 := Nat.not_le.mp fun q => hf.1 (Or.inr q)
    refine va_aldq (pc := 93) (C := RX8) hx hb hK hP 19 4 rfl rfl hf.1 (zdt_at zt_X9_served_0 35 rfl) ?_
    replace hf := hf.2
    replace hf := zb_s hf
    obtain ⟨cP_uses_14, hc_, hf⟩ := hf
    refine zcm2 (pc := 94) (rv := none) (va_runV (As := []) (rest := []) ⟨hx, hb, hml, hown, hts⟩ (c_X8_takeUse l D cy tt H.size hP_o hP_k p2.toNatClampNeg cP_uses cP_kind cP_length cP_usage cP_role cP_uses_14 hj_13 hc_) (cwV 0 hts gX9_served_X8_takeUse rfl rfl rfl (by decide +kernel) ⟨Nat.le_of_ble_eq_true rfl, Nat.le_of_ble_eq_true rfl⟩) ⟨zblind, va_recv hK hP (ci := 10) (q0 := (22 + p2.toNatClampNeg)) rfl (zpO_getK (X := [(h0, .inr (11, [.ref h0_buffer, .ref h0_slots, .ref h0_counters, .ref h0_officerPin, .ref h0_userPin, .ref h0_words, .ref h0_sha, .ref h0_stream, .ref h0_aes, .ref h0_modes, .ref h0_gcm, .ref h0_generator, .ref h0_tests, .ref h0_message, .ref h0_secret, .int c_state, .int c_testsDone, .int c_faults, .int c_streamBegun])), (h0_aes, .inr (2, [.ref h0_aes_keys, .int c_aes_rounds])), (h0_aes_keys, .inl (cy 1, 60, .inl c_aes_keys)), (h0_buffer, .inl (cy 0, 512, .inl c_buffer)), (h0_gcm, .inr (4, [.ref h0_aes, .ref h0_modes, .ref h0_gcm_tag, .long c_gcm_keyHigh, .long c_gcm_keyLow, .long c_gcm_sumHigh, .long c_gcm_sumLow])), (h0_gcm_tag, .inl (cy 0, 16, .inl c_gcm_tag)), (h0_generator, .inr (5, [.ref h0_sha, .ref h0_generator_key, .ref h0_generator_value, .ref h0_generator_message, .int c_generator_begun, .int c_generator_requests])), (h0_generator_key, .inl (cy 0, 32, .inl c_generator_key)), (h0_generator_message, .inl (cy 0, 97, .inl c_generator_message)), (h0_generator_value, .inl (cy 0, 32, .inl c_generator_value)), (h0_message, .inl (cy 0, 68, .inl c_message)), (h0_modes, .inr (6, [.ref h0_aes, .ref h0_modes_block, .ref h0_modes_pad])), (h0_modes_block, .inl (cy 0, 16, .inl c_modes_block)), (h0_modes_pad, .inl (cy 0, 16, .inl c_modes_pad)), (h0_secret, .inl (cy 0, 80, .inl c_secret)), (h0_sha, .inr (9, [.ref h0_sha_sums, .ref h0_sha_schedule, .ref h0_sha_inner, .int c_sha_filled, .int c_sha_total])), (h0_sha_inner, .inl (cy 0, 32, .inl c_sha_inner)), (h0_sha_schedule, .inl (cy 1, 64, .inl c_sha_schedule)), (h0_sha_sums, .inl (cy 1, 8, .inl c_sha_sums)), (h0_slots, .inl (cy 4, 16, .inr (.inr (.inr (.inr (fun j => some (hP_o j))))))), (h0_words, .inr (3, [.ref h0_words_kept, .int c_words_count, .int c_words_healthy, .int c_words_last, .int c_words_row, .int c_words_first, .int c_words_placeInWindow, .int c_words_timesInWindow])), (h0_words_kept, .inl (cy 1, 64, .inl c_words_kept))]) (n := 22) rfl hj_13), zpre hE hS (hP.sub [22, 23, 24, 25, 26, 27, 28, 29, 30, 31, 32, 33, 34, 35, 36, 37] rfl) (hD.sub [22, 23, 24, 25, 26, 27, 28, 29, 30, 31, 32, 33, 34, 35, 36, 37] (by decide) rfl) (va_free hD hS hA [22, 23, 24, 25, 26, 27, 28, 29, 30, 31, 32, 33, 34, 35, 36, 37] rfl)⟩ rfl rfl hl.1 rfl (lv_room (Nat.le_of_ble_eq_true rfl)) (zdt_at zt_X9_served_0 36 rfl) ⟨Nat.zero_le _, Nat.zero_le _⟩) hS hP hD (va_free hD hS hA [22, 23, 24, 25, 26, 27, 28, 29, 30, 31, 32, 33, 34, 35, 36, 37] rfl) [22, 23, 24, 25, 26, 27, 28, 29, 30, 31, 32, 33, 34, 35, 36, 37] rfl (by decide) rfl ?_
    clear hP hD hS hc_
    intro H locs hP hD hS
    replace hP : va_P D vwCl ([(h0, .inr (11, [.ref h0_buffer, .ref h0_slots, .ref h0_counters, .ref h0_officerPin, .ref h0_userPin, .ref h0_words, .ref h0_sha, .ref h0_stream, .ref h0_aes, .ref h0_modes, .ref h0_gcm, .ref h0_generator, .ref h0_tests, .ref h0_message, .ref h0_secret, .int c_state, .int c_testsDone, .int c_faults, .int c_streamBegun])), (h0_aes, .inr (2, [.ref h0_aes_keys, .int c_aes_rounds])), (h0_aes_keys, .inl (cy 1, 60, .inl c_aes_keys)), (h0_buffer, .inl (cy 0, 512, .inl c_buffer)), (h0_gcm, .inr (4, [.ref h0_aes, .ref h0_modes, .ref h0_gcm_tag, .long c_gcm_keyHigh, .long c_gcm_keyLow, .long c_gcm_sumHigh, .long c_gcm_sumLow])), (h0_gcm_tag, .inl (cy 0, 16, .inl c_gcm_tag)), (h0_generator, .inr (5, [.ref h0_sha, .ref h0_generator_key, .ref h0_generator_value, .ref h0_generator_message, .int c_generator_begun, .int c_generator_requests])), (h0_generator_key, .inl (cy 0, 32, .inl c_generator_key)), (h0_generator_message, .inl (cy 0, 97, .inl c_generator_message)), (h0_generator_value, .inl (cy 0, 32, .inl c_generator_value)), (h0_message, .inl (cy 0, 68, .inl c_message)), (h0_modes, .inr (6, [.ref h0_aes, .ref h0_modes_block, .ref h0_modes_pad])), (h0_modes_block, .inl (cy 0, 16, .inl c_modes_block)), (h0_modes_pad, .inl (cy 0, 16, .inl c_modes_pad)), (h0_secret, .inl (cy 0, 80, .inl c_secret)), (h0_sha, .inr (9, [.ref h0_sha_sums, .ref h0_sha_schedule, .ref h0_sha_inner, .int c_sha_filled, .int c_sha_total])), (h0_sha_inner, .inl (cy 0, 32, .inl c_sha_inner)), (h0_sha_schedule, .inl (cy 1, 64, .inl c_sha_schedule)), (h0_sha_sums, .inl (cy 1, 8, .inl c_sha_sums)), (h0_slots, .inl (cy 4, 16, .inr (.inr (.inr (.inr (fun j => some (hP_o j))))))), (h0_words, .inr (3, [.ref h0_words_kept, .int c_words_count, .int c_words_healthy, .int c_words_last, .int c_words_row, .int c_words_first, .int c_words_placeInWindow, .int c_words_timesInWindow])), (h0_words_kept, .inl (cy 1, 64, .inl c_words_kept))] ++ zpO hP_o hP_k cP_kind cP_length cP_usage cP_role cP_uses_14 ++ zpK (cy 0) hP_k cPK) H := hP
    replace hD : va_D A ([(h0, .inr (11, [.ref h0_buffer, .ref h0_slots, .ref h0_counters, .ref h0_officerPin, .ref h0_userPin, .ref h0_words, .ref h0_sha, .ref h0_stream, .ref h0_aes, .ref h0_modes, .ref h0_gcm, .ref h0_generator, .ref h0_tests, .ref h0_message, .ref h0_secret, .int c_state, .int c_testsDone, .int c_faults, .int c_streamBegun])), (h0_aes, .inr (2, [.ref h0_aes_keys, .int c_aes_rounds])), (h0_aes_keys, .inl (cy 1, 60, .inl c_aes_keys)), (h0_buffer, .inl (cy 0, 512, .inl c_buffer)), (h0_gcm, .inr (4, [.ref h0_aes, .ref h0_modes, .ref h0_gcm_tag, .long c_gcm_keyHigh, .long c_gcm_keyLow, .long c_gcm_sumHigh, .long c_gcm_sumLow])), (h0_gcm_tag, .inl (cy 0, 16, .inl c_gcm_tag)), (h0_generator, .inr (5, [.ref h0_sha, .ref h0_generator_key, .ref h0_generator_value, .ref h0_generator_message, .int c_generator_begun, .int c_generator_requests])), (h0_generator_key, .inl (cy 0, 32, .inl c_generator_key)), (h0_generator_message, .inl (cy 0, 97, .inl c_generator_message)), (h0_generator_value, .inl (cy 0, 32, .inl c_generator_value)), (h0_message, .inl (cy 0, 68, .inl c_message)), (h0_modes, .inr (6, [.ref h0_aes, .ref h0_modes_block, .ref h0_modes_pad])), (h0_modes_block, .inl (cy 0, 16, .inl c_modes_block)), (h0_modes_pad, .inl (cy 0, 16, .inl c_modes_pad)), (h0_secret, .inl (cy 0, 80, .inl c_secret)), (h0_sha, .inr (9, [.ref h0_sha_sums, .ref h0_sha_schedule, .ref h0_sha_inner, .int c_sha_filled, .int c_sha_total])), (h0_sha_inner, .inl (cy 0, 32, .inl c_sha_inner)), (h0_sha_schedule, .inl (cy 1, 64, .inl c_sha_schedule)), (h0_sha_sums, .inl (cy 1, 8, .inl c_sha_sums)), (h0_slots, .inl (cy 4, 16, .inr (.inr (.inr (.inr (fun j => some (hP_o j))))))), (h0_words, .inr (3, [.ref h0_words_kept, .int c_words_count, .int c_words_healthy, .int c_words_last, .int c_words_row, .int c_words_first, .int c_words_placeInWindow, .int c_words_timesInWindow])), (h0_words_kept, .inl (cy 1, 64, .inl c_words_kept))] ++ zpO hP_o hP_k cP_kind cP_length cP_usage cP_role cP_uses_14 ++ zpK (cy 0) hP_k cPK) := hD
    refine W.eq (g2 := F0 m 97 ls []) rfl ?_
    refine lv_aload_n (pc := 97) hx hb (zdt_at zt_X9_served_0 37 rfl) rfl (lv_at hl 0 rfl) ?_
    refine va_get (pc := 98) (D := D) (ci := 11) (v := .ref h0_sha) (C := RX9) (T := TX9) (N := 19) hx hb hts hcX9 hown hK hP 0 rfl rfl 6 (by decide) hw0 (fun _ h9 => h9) rfl (zdt_at zt_X9_served_0 38 rfl) ?_
    refine lv_aload_n (pc := 101) hx hb (zdt_at zt_X9_served_0 39 rfl) rfl (lv_at hl 0 rfl) ?_
    refine va_get (pc := 102) (D := D) (ci := 11) (v := .ref h0_slots) (C := RX9) (T := TX9) (N := 19) hx hb hts hcX9 hown hK hP 0 rfl rfl 1 (by decide) hw2 (fun _ h9 => h9) rfl (zdt_at zt_X9_served_0 40 rfl) ?_
    refine lv_iload_n (pc := 105) hx hb (zdt_at zt_X9_served_0 41 rfl) rfl (lv_at hl 2 rfl) ?_
    replace hf := zk_s hf
    have hj_15 : p2.toNatClampNeg < 16 := Nat.not_le.mp fun q => hf.1 (Or.inr q)
    refine va_aldq (pc := 106) (C := RX8) hx hb hK hP 19 4 rfl rfl hf.1 (zdt_at zt_X9_served_0 42 rfl) ?_
    replace hf := hf.2
    refine va_get (pc := 107) (D := D) (ci := 10) (v := .ref (hP_k p2.toNatClampNeg)) (C := RX8) (T := TX8) (N := 6) hx hb hts hcX8 hown hK hP (22 + p2.toNatClampNeg) (zpO_getK (X := [(h0, .inr (11, [.ref h0_buffer, .ref h0_slots, .ref h0_counters, .ref h0_officerPin, .ref h0_userPin, .ref h0_words, .ref h0_sha, .ref h0_stream, .ref h0_aes, .ref h0_modes, .ref h0_gcm, .ref h0_generator, .ref h0_tests, .ref h0_message, .ref h0_secret, .int c_state, .int c_testsDone, .int c_faults, .int c_streamBegun])), (h0_aes, .inr (2, [.ref h0_aes_keys, .int c_aes_rounds])), (h0_aes_keys, .inl (cy 1, 60, .inl c_aes_keys)), (h0_buffer, .inl (cy 0, 512, .inl c_buffer)), (h0_gcm, .inr (4, [.ref h0_aes, .ref h0_modes, .ref h0_gcm_tag, .long c_gcm_keyHigh, .long c_gcm_keyLow, .long c_gcm_sumHigh, .long c_gcm_sumLow])), (h0_gcm_tag, .inl (cy 0, 16, .inl c_gcm_tag)), (h0_generator, .inr (5, [.ref h0_sha, .ref h0_generator_key, .ref h0_generator_value, .ref h0_generator_message, .int c_generator_begun, .int c_generator_requests])), (h0_generator_key, .inl (cy 0, 32, .inl c_generator_key)), (h0_generator_message, .inl (cy 0, 97, .inl c_generator_message)), (h0_generator_value, .inl (cy 0, 32, .inl c_generator_value)), (h0_message, .inl (cy 0, 68, .inl c_message)), (h0_modes, .inr (6, [.ref h0_aes, .ref h0_modes_block, .ref h0_modes_pad])), (h0_modes_block, .inl (cy 0, 16, .inl c_modes_block)), (h0_modes_pad, .inl (cy 0, 16, .inl c_modes_pad)), (h0_secret, .inl (cy 0, 80, .inl c_secret)), (h0_sha, .inr (9, [.ref h0_sha_sums, .ref h0_sha_schedule, .ref h0_sha_inner, .int c_sha_filled, .int c_sha_total])), (h0_sha_inner, .inl (cy 0, 32, .inl c_sha_inner)), (h0_sha_schedule, .inl (cy 1, 64, .inl c_sha_schedule)), (h0_sha_sums, .inl (cy 1, 8, .inl c_sha_sums)), (h0_slots, .inl (cy 4, 16, .inr (.inr (.inr (.inr (fun j => some (hP_o j))))))), (h0_words, .inr (3, [.ref h0_words_kept, .int c_words_count, .int c_words_healthy, .int c_words_last, .int c_words_row, .int c_words_first, .int c_words_placeInWindow, .int c_words_timesInWindow])), (h0_words_kept, .inl (cy 1, 64, .inl c_words_kept))]) (n := 22) rfl hj_15) rfl 0 (by decide) hw3 (fun _ h9 => h9) rfl (zdt_at zt_X9_served_0 43 rfl) ?_
    refine lv_aload_n (pc := 110) hx hb (zdt_at zt_X9_served_0 44 rfl) rfl (lv_at hl 0 rfl) ?_
    refine va_get (pc := 111) (D := D) (ci := 11) (v := .ref h0_slots) (C := RX9) (T := TX9) (N := 19) hx hb hts hcX9 hown hK hP 0 rfl rfl 1 (by decide) hw2 (fun _ h9 => h9) rfl (zdt_at zt_X9_served_0 45 rfl) ?_
    refine lv_iload_n (pc := 114) hx hb (zdt_at zt_X9_served_0 46 rfl) rfl (lv_at hl 2 rfl) ?_
    replace hf := zk_s hf
    have hj_16 : p2.toNatClampNeg < 16 := Nat.not_le.mp fun q => hf.1 (Or.inr q)
    refine va_aldq (pc := 115) (C := RX8) hx hb hK hP 19 4 rfl rfl hf.1 (zdt_at zt_X9_served_0 47 rfl) ?_
    replace hf := hf.2
    refine va_get (pc := 116) (D := D) (ci := 10) (v := .int (cP_length p2.toNatClampNeg)) (C := RX8) (T := TX8) (N := 6) hx hb hts hcX8 hown hK hP (22 + p2.toNatClampNeg) (zpO_getK (X := [(h0, .inr (11, [.ref h0_buffer, .ref h0_slots, .ref h0_counters, .ref h0_officerPin, .ref h0_userPin, .ref h0_words, .ref h0_sha, .ref h0_stream, .ref h0_aes, .ref h0_modes, .ref h0_gcm, .ref h0_generator, .ref h0_tests, .ref h0_message, .ref h0_secret, .int c_state, .int c_testsDone, .int c_faults, .int c_streamBegun])), (h0_aes, .inr (2, [.ref h0_aes_keys, .int c_aes_rounds])), (h0_aes_keys, .inl (cy 1, 60, .inl c_aes_keys)), (h0_buffer, .inl (cy 0, 512, .inl c_buffer)), (h0_gcm, .inr (4, [.ref h0_aes, .ref h0_modes, .ref h0_gcm_tag, .long c_gcm_keyHigh, .long c_gcm_keyLow, .long c_gcm_sumHigh, .long c_gcm_sumLow])), (h0_gcm_tag, .inl (cy 0, 16, .inl c_gcm_tag)), (h0_generator, .inr (5, [.ref h0_sha, .ref h0_generator_key, .ref h0_generator_value, .ref h0_generator_message, .int c_generator_begun, .int c_generator_requests])), (h0_generator_key, .inl (cy 0, 32, .inl c_generator_key)), (h0_generator_message, .inl (cy 0, 97, .inl c_generator_message)), (h0_generator_value, .inl (cy 0, 32, .inl c_generator_value)), (h0_message, .inl (cy 0, 68, .inl c_message)), (h0_modes, .inr (6, [.ref h0_aes, .ref h0_modes_block, .ref h0_modes_pad])), (h0_modes_block, .inl (cy 0, 16, .inl c_modes_block)), (h0_modes_pad, .inl (cy 0, 16, .inl c_modes_pad)), (h0_secret, .inl (cy 0, 80, .inl c_secret)), (h0_sha, .inr (9, [.ref h0_sha_sums, .ref h0_sha_schedule, .ref h0_sha_inner, .int c_sha_filled, .int c_sha_total])), (h0_sha_inner, .inl (cy 0, 32, .inl c_sha_inner)), (h0_sha_schedule, .inl (cy 1, 64, .inl c_sha_schedule)), (h0_sha_sums, .inl (cy 1, 8, .inl c_sha_sums)), (h0_slots, .inl (cy 4, 16, .inr (.inr (.inr (.inr (fun j => some (hP_o j))))))), (h0_words, .inr (3, [.ref h0_words_kept, .int c_words_count, .int c_words_healthy, .int c_words_last, .int c_words_row, .int c_words_first, .int c_words_placeInWindow, .int c_words_timesInWindow])), (h0_words_kept, .inl (cy 1, 64, .inl c_words_kept))]) (n := 22) rfl hj_16) rfl 2 (by decide) hw4 (fun _ h9 => h9) rfl (zdt_at zt_X9_served_0 48 rfl) ?_
    refine lv_aload_n (pc := 119) hx hb (zdt_at zt_X9_served_0 49 rfl) rfl (lv_at hl 0 rfl) ?_
    refine va_get (pc := 120) (D := D) (ci := 11) (v := .ref h0_buffer) (C := RX9) (T := TX9) (N := 19) hx hb hts hcX9 hown hK hP 0 rfl rfl 0 (by decide) hw1 (fun _ h9 => h9) rfl (zdt_at zt_X9_served_0 50 rfl) ?_
    refine lv_iload_n (pc := 123) hx hb (zdt_at zt_X9_served_0 51 rfl) rfl (lv_at hl 3 rfl) ?_
    refine lv_iload (pc := 124) hx hb (zdt_at zt_X9_served_0 52 rfl) (lv_at hl 4 rfl) ?_
    refine lv_aload_n (pc := 126) hx hb (zdt_at zt_X9_served_0 53 rfl) rfl (lv_at hl 0 rfl) ?_
    refine va_get (pc := 127) (D := D) (ci := 11) (v := .ref h0_buffer) (C := RX9) (T := TX9) (N := 19) hx hb hts hcX9 hown hK hP 0 rfl rfl 0 (by decide) hw1 (fun _ h9 => h9) rfl (zdt_at zt_X9_served_0 54 rfl) ?_
    refine lv_iload_n (pc := 130) hx hb (zdt_at zt_X9_served_0 55 rfl) rfl (lv_at hl 3 rfl) ?_
    replace hf := zb_s hf
    obtain ⟨⟨c_sha_filled_17, c_sha_total_18, c_sha_inner_19, c_sha_schedule_20, c_sha_sums_21, c_buffer_22⟩, hc_, hf⟩ := hf
    refine zcm2 (pc := 131) (rv := none) (va_runV (As := [.ref (hP_k p2.toNatClampNeg), .int (cP_length p2.toNatClampNeg), .ref h0_buffer, .int p3, .int p4, .ref h0_buffer, .int p3]) (rest := []) ⟨hx, hb, hml, hown, hts⟩ (c_X7_mac_1PK_6a3 l D cy tt H.size h0_sha h0_sha_sums h0_sha_schedule h0_sha_inner h0_buffer hP_o hP_k 512 p2.toNatClampNeg (cP_length p2.toNatClampNeg) p3 p4 p3 c_sha_filled c_sha_total c_sha_inner c_sha_schedule c_sha_sums c_buffer cPK cP_kind cP_length cP_usage cP_role cP_uses_14 c_sha_filled_17 c_sha_total_18 c_sha_inner_19 c_sha_schedule_20 c_sha_sums_21 c_buffer_22 hj_16 hc_) (cwV 7 hts gX9_served_X7_mac rfl rfl rfl (by decide +kernel) ⟨Nat.le_of_ble_eq_true rfl, Nat.le_of_ble_eq_true rfl⟩) ⟨zblind, va_recv hK hP (ci := 9) (q0 := 15) rfl rfl, zpre hE hS (hP.sub [15, 16, 17, 18, 3, 22, 23, 24, 25, 26, 27, 28, 29, 30, 31, 32, 33, 34, 35, 36, 37, 38, 39, 40, 41, 42, 43, 44, 45, 46, 47, 48, 49, 50, 51, 52, 53] rfl) (hD.sub [15, 16, 17, 18, 3, 22, 23, 24, 25, 26, 27, 28, 29, 30, 31, 32, 33, 34, 35, 36, 37, 38, 39, 40, 41, 42, 43, 44, 45, 46, 47, 48, 49, 50, 51, 52, 53] (by decide) rfl) (va_free hD hS hA [15, 16, 17, 18, 3, 22, 23, 24, 25, 26, 27, 28, 29, 30, 31, 32, 33, 34, 35, 36, 37, 38, 39, 40, 41, 42, 43, 44, 45, 46, 47, 48, 49, 50, 51, 52, 53] rfl)⟩ rfl rfl hl.1 rfl (lv_room (Nat.le_of_ble_eq_true rfl)) (zdt_at zt_X9_served_0 56 rfl) ⟨Nat.zero_le _, Nat.zero_le _⟩) hS hP hD (va_free hD hS hA [15, 16, 17, 18, 3, 22, 23, 24, 25, 26, 27, 28, 29, 30, 31, 32, 33, 34, 35, 36, 37, 38, 39, 40, 41, 42, 43, 44, 45, 46, 47, 48, 49, 50, 51, 52, 53] rfl) [15, 16, 17, 18, 3, 22, 23, 24, 25, 26, 27, 28, 29, 30, 31, 32, 33, 34, 35, 36, 37, 38, 39, 40, 41, 42, 43, 44, 45, 46, 47, 48, 49, 50, 51, 52, 53] rfl (by decide) rfl ?_
    clear hP hD hS hc_
    intro H locs hP hD hS
    replace hP : va_P D vwCl ([(h0, .inr (11, [.ref h0_buffer, .ref h0_slots, .ref h0_counters, .ref h0_officerPin, .ref h0_userPin, .ref h0_words, .ref h0_sha, .ref h0_stream, .ref h0_aes, .ref h0_modes, .ref h0_gcm, .ref h0_generator, .ref h0_tests, .ref h0_message, .ref h0_secret, .int c_state, .int c_testsDone, .int c_faults, .int c_streamBegun])), (h0_aes, .inr (2, [.ref h0_aes_keys, .int c_aes_rounds])), (h0_aes_keys, .inl (cy 1, 60, .inl c_aes_keys)), (h0_buffer, .inl (cy 0, 512, .inl c_buffer_22)), (h0_gcm, .inr (4, [.ref h0_aes, .ref h0_modes, .ref h0_gcm_tag, .long c_gcm_keyHigh, .long c_gcm_keyLow, .long c_gcm_sumHigh, .long c_gcm_sumLow])), (h0_gcm_tag, .inl (cy 0, 16, .inl c_gcm_tag)), (h0_generator, .inr (5, [.ref h0_sha, .ref h0_generator_key, .ref h0_generator_value, .ref h0_generator_message, .int c_generator_begun, .int c_generator_requests])), (h0_generator_key, .inl (cy 0, 32, .inl c_generator_key)), (h0_generator_message, .inl (cy 0, 97, .inl c_generator_message)), (h0_generator_value, .inl (cy 0, 32, .inl c_generator_value)), (h0_message, .inl (cy 0, 68, .inl c_message)), (h0_modes, .inr (6, [.ref h0_aes, .ref h0_modes_block, .ref h0_modes_pad])), (h0_modes_block, .inl (cy 0, 16, .inl c_modes_block)), (h0_modes_pad, .inl (cy 0, 16, .inl c_modes_pad)), (h0_secret, .inl (cy 0, 80, .inl c_secret)), (h0_sha, .inr (9, [.ref h0_sha_sums, .ref h0_sha_schedule, .ref h0_sha_inner, .int c_sha_filled_17, .int c_sha_total_18])), (h0_sha_inner, .inl (cy 0, 32, .inl c_sha_inner_19)), (h0_sha_schedule, .inl (cy 1, 64, .inl c_sha_schedule_20)), (h0_sha_sums, .inl (cy 1, 8, .inl c_sha_sums_21)), (h0_slots, .inl (cy 4, 16, .inr (.inr (.inr (.inr (fun j => some (hP_o j))))))), (h0_words, .inr (3, [.ref h0_words_kept, .int c_words_count, .int c_words_healthy, .int c_words_last, .int c_words_row, .int c_words_first, .int c_words_placeInWindow, .int c_words_timesInWindow])), (h0_words_kept, .inl (cy 1, 64, .inl c_words_kept))] ++ zpO hP_o hP_k cP_kind cP_length cP_usage cP_role cP_uses_14 ++ zpK (cy 0) hP_k cPK) H := hP
    replace hD : va_D A ([(h0, .inr (11, [.ref h0_buffer, .ref h0_slots, .ref h0_counters, .ref h0_officerPin, .ref h0_userPin, .ref h0_words, .ref h0_sha, .ref h0_stream, .ref h0_aes, .ref h0_modes, .ref h0_gcm, .ref h0_generator, .ref h0_tests, .ref h0_message, .ref h0_secret, .int c_state, .int c_testsDone, .int c_faults, .int c_streamBegun])), (h0_aes, .inr (2, [.ref h0_aes_keys, .int c_aes_rounds])), (h0_aes_keys, .inl (cy 1, 60, .inl c_aes_keys)), (h0_buffer, .inl (cy 0, 512, .inl c_buffer_22)), (h0_gcm, .inr (4, [.ref h0_aes, .ref h0_modes, .ref h0_gcm_tag, .long c_gcm_keyHigh, .long c_gcm_keyLow, .long c_gcm_sumHigh, .long c_gcm_sumLow])), (h0_gcm_tag, .inl (cy 0, 16, .inl c_gcm_tag)), (h0_generator, .inr (5, [.ref h0_sha, .ref h0_generator_key, .ref h0_generator_value, .ref h0_generator_message, .int c_generator_begun, .int c_generator_requests])), (h0_generator_key, .inl (cy 0, 32, .inl c_generator_key)), (h0_generator_message, .inl (cy 0, 97, .inl c_generator_message)), (h0_generator_value, .inl (cy 0, 32, .inl c_generator_value)), (h0_message, .inl (cy 0, 68, .inl c_message)), (h0_modes, .inr (6, [.ref h0_aes, .ref h0_modes_block, .ref h0_modes_pad])), (h0_modes_block, .inl (cy 0, 16, .inl c_modes_block)), (h0_modes_pad, .inl (cy 0, 16, .inl c_modes_pad)), (h0_secret, .inl (cy 0, 80, .inl c_secret)), (h0_sha, .inr (9, [.ref h0_sha_sums, .ref h0_sha_schedule, .ref h0_sha_inner, .int c_sha_filled_17, .int c_sha_total_18])), (h0_sha_inner, .inl (cy 0, 32, .inl c_sha_inner_19)), (h0_sha_schedule, .inl (cy 1, 64, .inl c_sha_schedule_20)), (h0_sha_sums, .inl (cy 1, 8, .inl c_sha_sums_21)), (h0_slots, .inl (cy 4, 16, .inr (.inr (.inr (.inr (fun j => some (hP_o j))))))), (h0_words, .inr (3, [.ref h0_words_kept, .int c_words_count, .int c_words_healthy, .int c_words_last, .int c_words_row, .int c_words_first, .int c_words_placeInWindow, .int c_words_timesInWindow])), (h0_words_kept, .inl (cy 1, 64, .inl c_words_kept))] ++ zpO hP_o hP_k cP_kind cP_length cP_usage cP_role cP_uses_14 ++ zpK (cy 0) hP_k cPK) := hD
    refine W.eq (g2 := F0 m 134 ls []) rfl ?_
    refine lv_bipush (pc := 134) (v := (32 : Int32)) hx hb (zdt_at zt_X9_served_0 57 rfl) (by decide) ?_
    cases hf
    exact W.iret (pc := 136) hx hb hr (fun t ht hW => ⟨rfl, ⟨by rw [ht]; exact hP, hD⟩, hS.F ht⟩) hS.2.2 (zdt_at zt_X9_served_0 58 rfl)
  replace hf := ze_s hs_23 hf
  by_cases hs_42 : p1 = (11 : Int32)
  · replace hf := zt_s hs_42 hf
    refine lv_tableIn (pc := 1) (tgt := 64) (off := 63) hx hb (zdt_at zt_X9_served_0 1 rfl) (by rw [hs_42]; decide) (by rw [hs_42]; decide) (by rw [hs_42]; rfl) (by decide) ?_
    clear hs_42
    refine lv_aload_n (pc := 64) hx hb (zdt_at zt_X9_served_0 20 rfl) rfl (lv_at hl 0 rfl) ?_
    refine lv_aload_n (pc := 65) hx hb (zdt_at zt_X9_served_0 21 rfl) rfl (lv_at hl 0 rfl) ?_
    refine va_get (pc := 66) (D := D) (ci := 11) (v := .ref h0_buffer) (C := RX9) (T := TX9) (N := 19) hx hb hts hcX9 hown hK hP 0 rfl rfl 0 (by decide) hw1 (fun _ h9 => h9) rfl (zdt_at zt_X9_served_0 22 rfl) ?_
    refine lv_iload_n (pc := 69) hx hb (zdt_at zt_X9_served_0 23 rfl) rfl (lv_at hl 3 rfl) ?_
    refine lv_iload (pc := 70) hx hb (zdt_at zt_X9_served_0 24 rfl) (lv_at hl 4 rfl) ?_
    refine lv_iload (pc := 72) hx hb (zdt_at zt_X9_served_0 25 rfl) (lv_at hl 5 rfl) ?_
    replace hf := zb_s hf
    obtain ⟨⟨r_24, c_buffer_25, c_generator_begun_26, c_generator_requests_27, c_generator_key_28, c_generator_message_29, c_generator_value_30, c_message_31, c_secret_32, c_sha_filled_33, c_sha_total_34, c_sha_inner_35, c_sha_schedule_36, c_sha_sums_37, c_words_count_38, c_words_kept_39⟩, hc_, hf⟩ := hf
    refine zcm2 (pc := 74) (rv := (some (.int r_24))) (va_runV (As := [.ref h0_buffer, .int p3, .int p4, .int p5]) (rest := []) ⟨hx, hb, hml, hown, hts⟩ (c_X9_drawn_1t_buffer l D cy tt H.size h0 h0_buffer h0_slots h0_counters h0_officerPin h0_userPin h0_words h0_sha h0_stream h0_aes h0_modes h0_gcm h0_generator h0_tests h0_message h0_secret h0_generator_key h0_generator_value h0_generator_message h0_sha_sums h0_sha_schedule h0_sha_inner h0_words_kept p3 p4 p5 c_buffer c_generator_begun c_generator_requests c_generator_key c_generator_message c_generator_value c_message c_secret c_sha_filled c_sha_total c_sha_inner c_sha_schedule c_sha_sums c_words_count c_words_healthy c_words_kept c_state c_testsDone c_faults c_streamBegun c_words_last c_words_row c_words_first c_words_placeInWindow c_words_timesInWindow r_24 c_buffer_25 c_generator_begun_26 c_generator_requests_27 c_generator_key_28 c_generator_message_29 c_generator_value_30 c_message_31 c_secret_32 c_sha_filled_33 c_sha_total_34 c_sha_inner_35 c_sha_schedule_36 c_sha_sums_37 c_words_count_38 c_words_kept_39 hc_) (cwV 4 hts gX9_served_X9_drawn rfl rfl rfl (by decide +kernel) ⟨Nat.le_of_ble_eq_true rfl, Nat.le_of_ble_eq_true rfl⟩) ⟨zblind, va_recv hK hP (ci := 11) (q0 := 0) rfl rfl, zpre hE hS (hP.sub [0, 3, 6, 7, 8, 9, 10, 14, 15, 16, 17, 18, 20, 21] rfl) (hD.sub [0, 3, 6, 7, 8, 9, 10, 14, 15, 16, 17, 18, 20, 21] (by decide) rfl) (va_free hD hS hA [0, 3, 6, 7, 8, 9, 10, 14, 15, 16, 17, 18, 20, 21] rfl)⟩ rfl rfl hl.1 rfl (lv_room (Nat.le_of_ble_eq_true rfl)) (zdt_at zt_X9_served_0 26 rfl) ⟨Nat.zero_le _, Nat.zero_le _⟩) hS hP hD (va_free hD hS hA [0, 3, 6, 7, 8, 9, 10, 14, 15, 16, 17, 18, 20, 21] rfl) [0, 3, 6, 7, 8, 9, 10, 14, 15, 16, 17, 18, 20, 21] rfl (by decide) rfl ?_
    clear hP hD hS hc_
    intro H locs hP hD hS
    replace hP : va_P D vwCl ([(h0, .inr (11, [.ref h0_buffer, .ref h0_slots, .ref h0_counters, .ref h0_officerPin, .ref h0_userPin, .ref h0_words, .ref h0_sha, .ref h0_stream, .ref h0_aes, .ref h0_modes, .ref h0_gcm, .ref h0_generator, .ref h0_tests, .ref h0_message, .ref h0_secret, .int c_state, .int c_testsDone, .int c_faults, .int c_streamBegun])), (h0_aes, .inr (2, [.ref h0_aes_keys, .int c_aes_rounds])), (h0_aes_keys, .inl (cy 1, 60, .inl c_aes_keys)), (h0_buffer, .inl (cy 0, 512, .inl c_buffer_25)), (h0_gcm, .inr (4, [.ref h0_aes, .ref h0_modes, .ref h0_gcm_tag, .long c_gcm_keyHigh, .long c_gcm_keyLow, .long c_gcm_sumHigh, .long c_gcm_sumLow])), (h0_gcm_tag, .inl (cy 0, 16, .inl c_gcm_tag)), (h0_generator, .inr (5, [.ref h0_sha, .ref h0_generator_key, .ref h0_generator_value, .ref h0_generator_message, .int c_generator_begun_26, .int c_generator_requests_27])), (h0_generator_key, .inl (cy 0, 32, .inl c_generator_key_28)), (h0_generator_message, .inl (cy 0, 97, .inl c_generator_message_29)), (h0_generator_value, .inl (cy 0, 32, .inl c_generator_value_30)), (h0_message, .inl (cy 0, 68, .inl c_message_31)), (h0_modes, .inr (6, [.ref h0_aes, .ref h0_modes_block, .ref h0_modes_pad])), (h0_modes_block, .inl (cy 0, 16, .inl c_modes_block)), (h0_modes_pad, .inl (cy 0, 16, .inl c_modes_pad)), (h0_secret, .inl (cy 0, 80, .inl c_secret_32)), (h0_sha, .inr (9, [.ref h0_sha_sums, .ref h0_sha_schedule, .ref h0_sha_inner, .int c_sha_filled_33, .int c_sha_total_34])), (h0_sha_inner, .inl (cy 0, 32, .inl c_sha_inner_35)), (h0_sha_schedule, .inl (cy 1, 64, .inl c_sha_schedule_36)), (h0_sha_sums, .inl (cy 1, 8, .inl c_sha_sums_37)), (h0_slots, .inl (cy 4, 16, .inr (.inr (.inr (.inr (fun j => some (hP_o j))))))), (h0_words, .inr (3, [.ref h0_words_kept, .int c_words_count_38, .int c_words_healthy, .int c_words_last, .int c_words_row, .int c_words_first, .int c_words_placeInWindow, .int c_words_timesInWindow])), (h0_words_kept, .inl (cy 1, 64, .inl c_words_kept_39))] ++ zpO hP_o hP_k cP_kind cP_length cP_usage cP_role cP_uses ++ zpK (cy 0) hP_k cPK) H := hP
    replace hD : va_D A ([(h0, .inr (11, [.ref h0_buffer, .ref h0_slots, .ref h0_counters, .ref h0_officerPin, .ref h0_userPin, .ref h0_words, .ref h0_sha, .ref h0_stream, .ref h0_aes, .ref h0_modes, .ref h0_gcm, .ref h0_generator, .ref h0_tests, .ref h0_message, .ref h0_secret, .int c_state, .int c_testsDone, .int c_faults, .int c_streamBegun])), (h0_aes, .inr (2, [.ref h0_aes_keys, .int c_aes_rounds])), (h0_aes_keys, .inl (cy 1, 60, .inl c_aes_keys)), (h0_buffer, .inl (cy 0, 512, .inl c_buffer_25)), (h0_gcm, .inr (4, [.ref h0_aes, .ref h0_modes, .ref h0_gcm_tag, .long c_gcm_keyHigh, .long c_gcm_keyLow, .long c_gcm_sumHigh, .long c_gcm_sumLow])), (h0_gcm_tag, .inl (cy 0, 16, .inl c_gcm_tag)), (h0_generator, .inr (5, [.ref h0_sha, .ref h0_generator_key, .ref h0_generator_value, .ref h0_generator_message, .int c_generator_begun_26, .int c_generator_requests_27])), (h0_generator_key, .inl (cy 0, 32, .inl c_generator_key_28)), (h0_generator_message, .inl (cy 0, 97, .inl c_generator_message_29)), (h0_generator_value, .inl (cy 0, 32, .inl c_generator_value_30)), (h0_message, .inl (cy 0, 68, .inl c_message_31)), (h0_modes, .inr (6, [.ref h0_aes, .ref h0_modes_block, .ref h0_modes_pad])), (h0_modes_block, .inl (cy 0, 16, .inl c_modes_block)), (h0_modes_pad, .inl (cy 0, 16, .inl c_modes_pad)), (h0_secret, .inl (cy 0, 80, .inl c_secret_32)), (h0_sha, .inr (9, [.ref h0_sha_sums, .ref h0_sha_schedule, .ref h0_sha_inner, .int c_sha_filled_33, .int c_sha_total_34])), (h0_sha_inner, .inl (cy 0, 32, .inl c_sha_inner_35)), (h0_sha_schedule, .inl (cy 1, 64, .inl c_sha_schedule_36)), (h0_sha_sums, .inl (cy 1, 8, .inl c_sha_sums_37)), (h0_slots, .inl (cy 4, 16, .inr (.inr (.inr (.inr (fun j => some (hP_o j))))))), (h0_words, .inr (3, [.ref h0_words_kept, .int c_words_count_38, .int c_words_healthy, .int c_words_last, .int c_words_row, .int c_words_first, .int c_words_placeInWindow, .int c_words_timesInWindow])), (h0_words_kept, .inl (cy 1, 64, .inl c_words_kept_39))] ++ zpO hP_o hP_k cP_kind cP_length cP_usage cP_role cP_uses ++ zpK (cy 0) hP_k cPK) := hD
    refine W.eq (g2 := F0 m 77 ls [.int r_24]) rfl ?_
    refine lv_if_eq (pc := 77) (tgt := 85) hx hb (zdt_at zt_X9_served_0 27 rfl) (by decide) (fun cn_ => ?t_40) (fun cn_ => ?f_41)
    case t_40 =>
      replace hf := zt_s cn_ hf
      clear cn_
      refine lv_bipush (pc := 85) (v := (-8 : Int32)) hx hb (zdt_at zt_X9_served_0 30 rfl) (by decide) ?_
      cases hf
      exact W.iret (pc := 87) hx hb hr (fun t ht hW => ⟨rfl, ⟨by rw [ht]; exact hP, hD⟩, hS.F ht⟩) hS.2.2 (zdt_at zt_X9_served_0 31 rfl)
    replace hf := ze_s cn_ hf
    clear cn_
    refine lv_iload (pc := 80) hx hb (zdt_at zt_X9_served_0 28 rfl) (lv_at hl 4 rfl) ?_
    refine lv_goto (pc := 82) (tgt := 87) hx hb (zdt_at zt_X9_served_0 29 rfl) (by decide) ?_
    cases hf
    exact W.iret (pc := 87) hx hb hr (fun t ht hW => ⟨rfl, ⟨by rw [ht]; exact hP, hD⟩, hS.F ht⟩) hS.2.2 (zdt_at zt_X9_served_0 31 rfl)
  replace hf := ze_s hs_42 hf
  have kd_58 : GW H locs (F0 m 137 ls []) := by
    refine hFr _ _ _ ?_
    refine lv_aload_n (pc := 137) hx hb (zdt_at zt_X9_served_0 59 rfl) rfl (lv_at hl 0 rfl) ?_
    refine va_get (pc := 138) (D := D) (ci := 11) (v := .ref h0_slots) (C := RX9) (T := TX9) (N := 19) hx hb hts hcX9 hown hK hP 0 rfl rfl 1 (by decide) hw2 (fun _ h9 => h9) rfl (zdt_at zt_X9_served_0 60 rfl) ?_
    refine lv_iload_n (pc := 141) hx hb (zdt_at zt_X9_served_0 61 rfl) rfl (lv_at hl 2 rfl) ?_
    replace hf := zk_s hf
    have hj_43 : p2.toNatClampNeg < 16 := Nat.not_le.mp fun q => hf.1 (Or.inr q)
    refine va_aldq (pc := 142) (C := RX8) hx hb hK hP 19 4 rfl rfl hf.1 (zdt_at zt_X9_served_0 62 rfl) ?_
    replace hf := hf.2
    replace hf := zb_s hf
    obtain ⟨cP_uses_44, hc_, hf⟩ := hf
    refine zcm2 (pc := 143) (rv := none) (va_runV (As := []) (rest := []) ⟨hx, hb, hml, hown, hts⟩ (c_X8_takeUse l D cy tt H.size hP_o hP_k p2.toNatClampNeg cP_uses cP_kind cP_length cP_usage cP_role cP_uses_44 hj_43 hc_) (cwV 0 hts gX9_served_X8_takeUse rfl rfl rfl (by decide +kernel) ⟨Nat.le_of_ble_eq_true rfl, Nat.le_of_ble_eq_true rfl⟩) ⟨zblind, va_recv hK hP (ci := 10) (q0 := (22 + p2.toNatClampNeg)) rfl (zpO_getK (X := [(h0, .inr (11, [.ref h0_buffer, .ref h0_slots, .ref h0_counters, .ref h0_officerPin, .ref h0_userPin, .ref h0_words, .ref h0_sha, .ref h0_stream, .ref h0_aes, .ref h0_modes, .ref h0_gcm, .ref h0_generator, .ref h0_tests, .ref h0_message, .ref h0_secret, .int c_state, .int c_testsDone, .int c_faults, .int c_streamBegun])), (h0_aes, .inr (2, [.ref h0_aes_keys, .int c_aes_rounds])), (h0_aes_keys, .inl (cy 1, 60, .inl c_aes_keys)), (h0_buffer, .inl (cy 0, 512, .inl c_buffer)), (h0_gcm, .inr (4, [.ref h0_aes, .ref h0_modes, .ref h0_gcm_tag, .long c_gcm_keyHigh, .long c_gcm_keyLow, .long c_gcm_sumHigh, .long c_gcm_sumLow])), (h0_gcm_tag, .inl (cy 0, 16, .inl c_gcm_tag)), (h0_generator, .inr (5, [.ref h0_sha, .ref h0_generator_key, .ref h0_generator_value, .ref h0_generator_message, .int c_generator_begun, .int c_generator_requests])), (h0_generator_key, .inl (cy 0, 32, .inl c_generator_key)), (h0_generator_message, .inl (cy 0, 97, .inl c_generator_message)), (h0_generator_value, .inl (cy 0, 32, .inl c_generator_value)), (h0_message, .inl (cy 0, 68, .inl c_message)), (h0_modes, .inr (6, [.ref h0_aes, .ref h0_modes_block, .ref h0_modes_pad])), (h0_modes_block, .inl (cy 0, 16, .inl c_modes_block)), (h0_modes_pad, .inl (cy 0, 16, .inl c_modes_pad)), (h0_secret, .inl (cy 0, 80, .inl c_secret)), (h0_sha, .inr (9, [.ref h0_sha_sums, .ref h0_sha_schedule, .ref h0_sha_inner, .int c_sha_filled, .int c_sha_total])), (h0_sha_inner, .inl (cy 0, 32, .inl c_sha_inner)), (h0_sha_schedule, .inl (cy 1, 64, .inl c_sha_schedule)), (h0_sha_sums, .inl (cy 1, 8, .inl c_sha_sums)), (h0_slots, .inl (cy 4, 16, .inr (.inr (.inr (.inr (fun j => some (hP_o j))))))), (h0_words, .inr (3, [.ref h0_words_kept, .int c_words_count, .int c_words_healthy, .int c_words_last, .int c_words_row, .int c_words_first, .int c_words_placeInWindow, .int c_words_timesInWindow])), (h0_words_kept, .inl (cy 1, 64, .inl c_words_kept))]) (n := 22) rfl hj_43), zpre hE hS (hP.sub [22, 23, 24, 25, 26, 27, 28, 29, 30, 31, 32, 33, 34, 35, 36, 37] rfl) (hD.sub [22, 23, 24, 25, 26, 27, 28, 29, 30, 31, 32, 33, 34, 35, 36, 37] (by decide) rfl) (va_free hD hS hA [22, 23, 24, 25, 26, 27, 28, 29, 30, 31, 32, 33, 34, 35, 36, 37] rfl)⟩ rfl rfl hl.1 rfl (lv_room (Nat.le_of_ble_eq_true rfl)) (zdt_at zt_X9_served_0 63 rfl) ⟨Nat.zero_le _, Nat.zero_le _⟩) hS hP hD (va_free hD hS hA [22, 23, 24, 25, 26, 27, 28, 29, 30, 31, 32, 33, 34, 35, 36, 37] rfl) [22, 23, 24, 25, 26, 27, 28, 29, 30, 31, 32, 33, 34, 35, 36, 37] rfl (by decide) rfl ?_
    clear hP hD hS hc_
    intro H locs hP hD hS
    replace hP : va_P D vwCl ([(h0, .inr (11, [.ref h0_buffer, .ref h0_slots, .ref h0_counters, .ref h0_officerPin, .ref h0_userPin, .ref h0_words, .ref h0_sha, .ref h0_stream, .ref h0_aes, .ref h0_modes, .ref h0_gcm, .ref h0_generator, .ref h0_tests, .ref h0_message, .ref h0_secret, .int c_state, .int c_testsDone, .int c_faults, .int c_streamBegun])), (h0_aes, .inr (2, [.ref h0_aes_keys, .int c_aes_rounds])), (h0_aes_keys, .inl (cy 1, 60, .inl c_aes_keys)), (h0_buffer, .inl (cy 0, 512, .inl c_buffer)), (h0_gcm, .inr (4, [.ref h0_aes, .ref h0_modes, .ref h0_gcm_tag, .long c_gcm_keyHigh, .long c_gcm_keyLow, .long c_gcm_sumHigh, .long c_gcm_sumLow])), (h0_gcm_tag, .inl (cy 0, 16, .inl c_gcm_tag)), (h0_generator, .inr (5, [.ref h0_sha, .ref h0_generator_key, .ref h0_generator_value, .ref h0_generator_message, .int c_generator_begun, .int c_generator_requests])), (h0_generator_key, .inl (cy 0, 32, .inl c_generator_key)), (h0_generator_message, .inl (cy 0, 97, .inl c_generator_message)), (h0_generator_value, .inl (cy 0, 32, .inl c_generator_value)), (h0_message, .inl (cy 0, 68, .inl c_message)), (h0_modes, .inr (6, [.ref h0_aes, .ref h0_modes_block, .ref h0_modes_pad])), (h0_modes_block, .inl (cy 0, 16, .inl c_modes_block)), (h0_modes_pad, .inl (cy 0, 16, .inl c_modes_pad)), (h0_secret, .inl (cy 0, 80, .inl c_secret)), (h0_sha, .inr (9, [.ref h0_sha_sums, .ref h0_sha_schedule, .ref h0_sha_inner, .int c_sha_filled, .int c_sha_total])), (h0_sha_inner, .inl (cy 0, 32, .inl c_sha_inner)), (h0_sha_schedule, .inl (cy 1, 64, .inl c_sha_schedule)), (h0_sha_sums, .inl (cy 1, 8, .inl c_sha_sums)), (h0_slots, .inl (cy 4, 16, .inr (.inr (.inr (.inr (fun j => some (hP_o j))))))), (h0_words, .inr (3, [.ref h0_words_kept, .int c_words_count, .int c_words_healthy, .int c_words_last, .int c_words_row, .int c_words_first, .int c_words_placeInWindow, .int c_words_timesInWindow])), (h0_words_kept, .inl (cy 1, 64, .inl c_words_kept))] ++ zpO hP_o hP_k cP_kind cP_length cP_usage cP_role cP_uses_44 ++ zpK (cy 0) hP_k cPK) H := hP
    replace hD : va_D A ([(h0, .inr (11, [.ref h0_buffer, .ref h0_slots, .ref h0_counters, .ref h0_officerPin, .ref h0_userPin, .ref h0_words, .ref h0_sha, .ref h0_stream, .ref h0_aes, .ref h0_modes, .ref h0_gcm, .ref h0_generator, .ref h0_tests, .ref h0_message, .ref h0_secret, .int c_state, .int c_testsDone, .int c_faults, .int c_streamBegun])), (h0_aes, .inr (2, [.ref h0_aes_keys, .int c_aes_rounds])), (h0_aes_keys, .inl (cy 1, 60, .inl c_aes_keys)), (h0_buffer, .inl (cy 0, 512, .inl c_buffer)), (h0_gcm, .inr (4, [.ref h0_aes, .ref h0_modes, .ref h0_gcm_tag, .long c_gcm_keyHigh, .long c_gcm_keyLow, .long c_gcm_sumHigh, .long c_gcm_sumLow])), (h0_gcm_tag, .inl (cy 0, 16, .inl c_gcm_tag)), (h0_generator, .inr (5, [.ref h0_sha, .ref h0_generator_key, .ref h0_generator_value, .ref h0_generator_message, .int c_generator_begun, .int c_generator_requests])), (h0_generator_key, .inl (cy 0, 32, .inl c_generator_key)), (h0_generator_message, .inl (cy 0, 97, .inl c_generator_message)), (h0_generator_value, .inl (cy 0, 32, .inl c_generator_value)), (h0_message, .inl (cy 0, 68, .inl c_message)), (h0_modes, .inr (6, [.ref h0_aes, .ref h0_modes_block, .ref h0_modes_pad])), (h0_modes_block, .inl (cy 0, 16, .inl c_modes_block)), (h0_modes_pad, .inl (cy 0, 16, .inl c_modes_pad)), (h0_secret, .inl (cy 0, 80, .inl c_secret)), (h0_sha, .inr (9, [.ref h0_sha_sums, .ref h0_sha_schedule, .ref h0_sha_inner, .int c_sha_filled, .int c_sha_total])), (h0_sha_inner, .inl (cy 0, 32, .inl c_sha_inner)), (h0_sha_schedule, .inl (cy 1, 64, .inl c_sha_schedule)), (h0_sha_sums, .inl (cy 1, 8, .inl c_sha_sums)), (h0_slots, .inl (cy 4, 16, .inr (.inr (.inr (.inr (fun j => some (hP_o j))))))), (h0_words, .inr (3, [.ref h0_words_kept, .int c_words_count, .int c_words_healthy, .int c_words_last, .int c_words_row, .int c_words_first, .int c_words_placeInWindow, .int c_words_timesInWindow])), (h0_words_kept, .inl (cy 1, 64, .inl c_words_kept))] ++ zpO hP_o hP_k cP_kind cP_length cP_usage cP_role cP_uses_44 ++ zpK (cy 0) hP_k cPK) := hD
    refine W.eq (g2 := F0 m 146 ls []) rfl ?_
    refine lv_aload_n (pc := 146) hx hb (zdt_at zt_X9_served_1 0 rfl) rfl (lv_at hl 0 rfl) ?_
    refine va_get (pc := 147) (D := D) (ci := 11) (v := .ref h0_aes) (C := RX9) (T := TX9) (N := 19) hx hb hts hcX9 hown hK hP 0 rfl rfl 8 (by decide) hw5 (fun _ h9 => h9) rfl (zdt_at zt_X9_served_1 1 rfl) ?_
    refine lv_aload_n (pc := 150) hx hb (zdt_at zt_X9_served_1 2 rfl) rfl (lv_at hl 0 rfl) ?_
    refine va_get (pc := 151) (D := D) (ci := 11) (v := .ref h0_slots) (C := RX9) (T := TX9) (N := 19) hx hb hts hcX9 hown hK hP 0 rfl rfl 1 (by decide) hw2 (fun _ h9 => h9) rfl (zdt_at zt_X9_served_1 3 rfl) ?_
    refine lv_iload_n (pc := 154) hx hb (zdt_at zt_X9_served_1 4 rfl) rfl (lv_at hl 2 rfl) ?_
    replace hf := zk_s hf
    have hj_45 : p2.toNatClampNeg < 16 := Nat.not_le.mp fun q => hf.1 (Or.inr q)
    refine va_aldq (pc := 155) (C := RX8) hx hb hK hP 19 4 rfl rfl hf.1 (zdt_at zt_X9_served_1 5 rfl) ?_
    replace hf := hf.2
    refine va_get (pc := 156) (D := D) (ci := 10) (v := .ref (hP_k p2.toNatClampNeg)) (C := RX8) (T := TX8) (N := 6) hx hb hts hcX8 hown hK hP (22 + p2.toNatClampNeg) (zpO_getK (X := [(h0, .inr (11, [.ref h0_buffer, .ref h0_slots, .ref h0_counters, .ref h0_officerPin, .ref h0_userPin, .ref h0_words, .ref h0_sha, .ref h0_stream, .ref h0_aes, .ref h0_modes, .ref h0_gcm, .ref h0_generator, .ref h0_tests, .ref h0_message, .ref h0_secret, .int c_state, .int c_testsDone, .int c_faults, .int c_streamBegun])), (h0_aes, .inr (2, [.ref h0_aes_keys, .int c_aes_rounds])), (h0_aes_keys, .inl (cy 1, 60, .inl c_aes_keys)), (h0_buffer, .inl (cy 0, 512, .inl c_buffer)), (h0_gcm, .inr (4, [.ref h0_aes, .ref h0_modes, .ref h0_gcm_tag, .long c_gcm_keyHigh, .long c_gcm_keyLow, .long c_gcm_sumHigh, .long c_gcm_sumLow])), (h0_gcm_tag, .inl (cy 0, 16, .inl c_gcm_tag)), (h0_generator, .inr (5, [.ref h0_sha, .ref h0_generator_key, .ref h0_generator_value, .ref h0_generator_message, .int c_generator_begun, .int c_generator_requests])), (h0_generator_key, .inl (cy 0, 32, .inl c_generator_key)), (h0_generator_message, .inl (cy 0, 97, .inl c_generator_message)), (h0_generator_value, .inl (cy 0, 32, .inl c_generator_value)), (h0_message, .inl (cy 0, 68, .inl c_message)), (h0_modes, .inr (6, [.ref h0_aes, .ref h0_modes_block, .ref h0_modes_pad])), (h0_modes_block, .inl (cy 0, 16, .inl c_modes_block)), (h0_modes_pad, .inl (cy 0, 16, .inl c_modes_pad)), (h0_secret, .inl (cy 0, 80, .inl c_secret)), (h0_sha, .inr (9, [.ref h0_sha_sums, .ref h0_sha_schedule, .ref h0_sha_inner, .int c_sha_filled, .int c_sha_total])), (h0_sha_inner, .inl (cy 0, 32, .inl c_sha_inner)), (h0_sha_schedule, .inl (cy 1, 64, .inl c_sha_schedule)), (h0_sha_sums, .inl (cy 1, 8, .inl c_sha_sums)), (h0_slots, .inl (cy 4, 16, .inr (.inr (.inr (.inr (fun j => some (hP_o j))))))), (h0_words, .inr (3, [.ref h0_words_kept, .int c_words_count, .int c_words_healthy, .int c_words_last, .int c_words_row, .int c_words_first, .int c_words_placeInWindow, .int c_words_timesInWindow])), (h0_words_kept, .inl (cy 1, 64, .inl c_words_kept))]) (n := 22) rfl hj_45) rfl 0 (by decide) hw3 (fun _ h9 => h9) rfl (zdt_at zt_X9_served_1 6 rfl) ?_
    refine lv_aload_n (pc := 159) hx hb (zdt_at zt_X9_served_1 7 rfl) rfl (lv_at hl 0 rfl) ?_
    refine va_get (pc := 160) (D := D) (ci := 11) (v := .ref h0_slots) (C := RX9) (T := TX9) (N := 19) hx hb hts hcX9 hown hK hP 0 rfl rfl 1 (by decide) hw2 (fun _ h9 => h9) rfl (zdt_at zt_X9_served_1 8 rfl) ?_
    refine lv_iload_n (pc := 163) hx hb (zdt_at zt_X9_served_1 9 rfl) rfl (lv_at hl 2 rfl) ?_
    replace hf := zk_s hf
    have hj_46 : p2.toNatClampNeg < 16 := Nat.not_le.mp fun q => hf.1 (Or.inr q)
    refine va_aldq (pc := 164) (C := RX8) hx hb hK hP 19 4 rfl rfl hf.1 (zdt_at zt_X9_served_1 10 rfl) ?_
    replace hf := hf.2
    refine va_get (pc := 165) (D := D) (ci := 10) (v := .int (cP_length p2.toNatClampNeg)) (C := RX8) (T := TX8) (N := 6) hx hb hts hcX8 hown hK hP (22 + p2.toNatClampNeg) (zpO_getK (X := [(h0, .inr (11, [.ref h0_buffer, .ref h0_slots, .ref h0_counters, .ref h0_officerPin, .ref h0_userPin, .ref h0_words, .ref h0_sha, .ref h0_stream, .ref h0_aes, .ref h0_modes, .ref h0_gcm, .ref h0_generator, .ref h0_tests, .ref h0_message, .ref h0_secret, .int c_state, .int c_testsDone, .int c_faults, .int c_streamBegun])), (h0_aes, .inr (2, [.ref h0_aes_keys, .int c_aes_rounds])), (h0_aes_keys, .inl (cy 1, 60, .inl c_aes_keys)), (h0_buffer, .inl (cy 0, 512, .inl c_buffer)), (h0_gcm, .inr (4, [.ref h0_aes, .ref h0_modes, .ref h0_gcm_tag, .long c_gcm_keyHigh, .long c_gcm_keyLow, .long c_gcm_sumHigh, .long c_gcm_sumLow])), (h0_gcm_tag, .inl (cy 0, 16, .inl c_gcm_tag)), (h0_generator, .inr (5, [.ref h0_sha, .ref h0_generator_key, .ref h0_generator_value, .ref h0_generator_message, .int c_generator_begun, .int c_generator_requests])), (h0_generator_key, .inl (cy 0, 32, .inl c_generator_key)), (h0_generator_message, .inl (cy 0, 97, .inl c_generator_message)), (h0_generator_value, .inl (cy 0, 32, .inl c_generator_value)), (h0_message, .inl (cy 0, 68, .inl c_message)), (h0_modes, .inr (6, [.ref h0_aes, .ref h0_modes_block, .ref h0_modes_pad])), (h0_modes_block, .inl (cy 0, 16, .inl c_modes_block)), (h0_modes_pad, .inl (cy 0, 16, .inl c_modes_pad)), (h0_secret, .inl (cy 0, 80, .inl c_secret)), (h0_sha, .inr (9, [.ref h0_sha_sums, .ref h0_sha_schedule, .ref h0_sha_inner, .int c_sha_filled, .int c_sha_total])), (h0_sha_inner, .inl (cy 0, 32, .inl c_sha_inner)), (h0_sha_schedule, .inl (cy 1, 64, .inl c_sha_schedule)), (h0_sha_sums, .inl (cy 1, 8, .inl c_sha_sums)), (h0_slots, .inl (cy 4, 16, .inr (.inr (.inr (.inr (fun j => some (hP_o j))))))), (h0_words, .inr (3, [.ref h0_words_kept, .int c_words_count, .int c_words_healthy, .int c_words_last, .int c_words_row, .int c_words_first, .int c_words_placeInWindow, .int c_words_timesInWindow])), (h0_words_kept, .inl (cy 1, 64, .inl c_words_kept))]) (n := 22) rfl hj_46) rfl 2 (by decide) hw4 (fun _ h9 => h9) rfl (zdt_at zt_X9_served_1 11 rfl) ?_
    replace hf := zb_s hf
    obtain ⟨⟨c_aes_rounds_47, c_aes_keys_48⟩, hc_, hf⟩ := hf
    refine zcm2 (pc := 168) (rv := none) (va_runV (As := [.ref (hP_k p2.toNatClampNeg), .int (cP_length p2.toNatClampNeg)]) (rest := []) ⟨hx, hb, hml, hown, hts⟩ (c_X0_setKey_1PK l D cy tt H.size h0_aes h0_aes_keys hP_o hP_k p2.toNatClampNeg (cP_length p2.toNatClampNeg) c_aes_rounds c_aes_keys cPK cP_kind cP_length cP_usage cP_role cP_uses_44 c_aes_rounds_47 c_aes_keys_48 hj_46 hc_) (cwV 2 hts gX9_served_X0_setKey rfl rfl rfl (by decide +kernel) ⟨Nat.le_of_ble_eq_true rfl, Nat.le_of_ble_eq_true rfl⟩) ⟨zblind, va_recv hK hP (ci := 2) (q0 := 1) rfl rfl, zpre hE hS (hP.sub [1, 2, 22, 23, 24, 25, 26, 27, 28, 29, 30, 31, 32, 33, 34, 35, 36, 37, 38, 39, 40, 41, 42, 43, 44, 45, 46, 47, 48, 49, 50, 51, 52, 53] rfl) (hD.sub [1, 2, 22, 23, 24, 25, 26, 27, 28, 29, 30, 31, 32, 33, 34, 35, 36, 37, 38, 39, 40, 41, 42, 43, 44, 45, 46, 47, 48, 49, 50, 51, 52, 53] (by decide) rfl) (va_free hD hS hA [1, 2, 22, 23, 24, 25, 26, 27, 28, 29, 30, 31, 32, 33, 34, 35, 36, 37, 38, 39, 40, 41, 42, 43, 44, 45, 46, 47, 48, 49, 50, 51, 52, 53] rfl)⟩ rfl rfl hl.1 rfl (lv_room (Nat.le_of_ble_eq_true rfl)) (zdt_at zt_X9_served_1 12 rfl) ⟨Nat.zero_le _, Nat.zero_le _⟩) hS hP hD (va_free hD hS hA [1, 2, 22, 23, 24, 25, 26, 27, 28, 29, 30, 31, 32, 33, 34, 35, 36, 37, 38, 39, 40, 41, 42, 43, 44, 45, 46, 47, 48, 49, 50, 51, 52, 53] rfl) [1, 2, 22, 23, 24, 25, 26, 27, 28, 29, 30, 31, 32, 33, 34, 35, 36, 37, 38, 39, 40, 41, 42, 43, 44, 45, 46, 47, 48, 49, 50, 51, 52, 53] rfl (by decide) rfl ?_
    clear hP hD hS hc_
    intro H locs hP hD hS
    replace hP : va_P D vwCl ([(h0, .inr (11, [.ref h0_buffer, .ref h0_slots, .ref h0_counters, .ref h0_officerPin, .ref h0_userPin, .ref h0_words, .ref h0_sha, .ref h0_stream, .ref h0_aes, .ref h0_modes, .ref h0_gcm, .ref h0_generator, .ref h0_tests, .ref h0_message, .ref h0_secret, .int c_state, .int c_testsDone, .int c_faults, .int c_streamBegun])), (h0_aes, .inr (2, [.ref h0_aes_keys, .int c_aes_rounds_47])), (h0_aes_keys, .inl (cy 1, 60, .inl c_aes_keys_48)), (h0_buffer, .inl (cy 0, 512, .inl c_buffer)), (h0_gcm, .inr (4, [.ref h0_aes, .ref h0_modes, .ref h0_gcm_tag, .long c_gcm_keyHigh, .long c_gcm_keyLow, .long c_gcm_sumHigh, .long c_gcm_sumLow])), (h0_gcm_tag, .inl (cy 0, 16, .inl c_gcm_tag)), (h0_generator, .inr (5, [.ref h0_sha, .ref h0_generator_key, .ref h0_generator_value, .ref h0_generator_message, .int c_generator_begun, .int c_generator_requests])), (h0_generator_key, .inl (cy 0, 32, .inl c_generator_key)), (h0_generator_message, .inl (cy 0, 97, .inl c_generator_message)), (h0_generator_value, .inl (cy 0, 32, .inl c_generator_value)), (h0_message, .inl (cy 0, 68, .inl c_message)), (h0_modes, .inr (6, [.ref h0_aes, .ref h0_modes_block, .ref h0_modes_pad])), (h0_modes_block, .inl (cy 0, 16, .inl c_modes_block)), (h0_modes_pad, .inl (cy 0, 16, .inl c_modes_pad)), (h0_secret, .inl (cy 0, 80, .inl c_secret)), (h0_sha, .inr (9, [.ref h0_sha_sums, .ref h0_sha_schedule, .ref h0_sha_inner, .int c_sha_filled, .int c_sha_total])), (h0_sha_inner, .inl (cy 0, 32, .inl c_sha_inner)), (h0_sha_schedule, .inl (cy 1, 64, .inl c_sha_schedule)), (h0_sha_sums, .inl (cy 1, 8, .inl c_sha_sums)), (h0_slots, .inl (cy 4, 16, .inr (.inr (.inr (.inr (fun j => some (hP_o j))))))), (h0_words, .inr (3, [.ref h0_words_kept, .int c_words_count, .int c_words_healthy, .int c_words_last, .int c_words_row, .int c_words_first, .int c_words_placeInWindow, .int c_words_timesInWindow])), (h0_words_kept, .inl (cy 1, 64, .inl c_words_kept))] ++ zpO hP_o hP_k cP_kind cP_length cP_usage cP_role cP_uses_44 ++ zpK (cy 0) hP_k cPK) H := hP
    replace hD : va_D A ([(h0, .inr (11, [.ref h0_buffer, .ref h0_slots, .ref h0_counters, .ref h0_officerPin, .ref h0_userPin, .ref h0_words, .ref h0_sha, .ref h0_stream, .ref h0_aes, .ref h0_modes, .ref h0_gcm, .ref h0_generator, .ref h0_tests, .ref h0_message, .ref h0_secret, .int c_state, .int c_testsDone, .int c_faults, .int c_streamBegun])), (h0_aes, .inr (2, [.ref h0_aes_keys, .int c_aes_rounds_47])), (h0_aes_keys, .inl (cy 1, 60, .inl c_aes_keys_48)), (h0_buffer, .inl (cy 0, 512, .inl c_buffer)), (h0_gcm, .inr (4, [.ref h0_aes, .ref h0_modes, .ref h0_gcm_tag, .long c_gcm_keyHigh, .long c_gcm_keyLow, .long c_gcm_sumHigh, .long c_gcm_sumLow])), (h0_gcm_tag, .inl (cy 0, 16, .inl c_gcm_tag)), (h0_generator, .inr (5, [.ref h0_sha, .ref h0_generator_key, .ref h0_generator_value, .ref h0_generator_message, .int c_generator_begun, .int c_generator_requests])), (h0_generator_key, .inl (cy 0, 32, .inl c_generator_key)), (h0_generator_message, .inl (cy 0, 97, .inl c_generator_message)), (h0_generator_value, .inl (cy 0, 32, .inl c_generator_value)), (h0_message, .inl (cy 0, 68, .inl c_message)), (h0_modes, .inr (6, [.ref h0_aes, .ref h0_modes_block, .ref h0_modes_pad])), (h0_modes_block, .inl (cy 0, 16, .inl c_modes_block)), (h0_modes_pad, .inl (cy 0, 16, .inl c_modes_pad)), (h0_secret, .inl (cy 0, 80, .inl c_secret)), (h0_sha, .inr (9, [.ref h0_sha_sums, .ref h0_sha_schedule, .ref h0_sha_inner, .int c_sha_filled, .int c_sha_total])), (h0_sha_inner, .inl (cy 0, 32, .inl c_sha_inner)), (h0_sha_schedule, .inl (cy 1, 64, .inl c_sha_schedule)), (h0_sha_sums, .inl (cy 1, 8, .inl c_sha_sums)), (h0_slots, .inl (cy 4, 16, .inr (.inr (.inr (.inr (fun j => some (hP_o j))))))), (h0_words, .inr (3, [.ref h0_words_kept, .int c_words_count, .int c_words_healthy, .int c_words_last, .int c_words_row, .int c_words_first, .int c_words_placeInWindow, .int c_words_timesInWindow])), (h0_words_kept, .inl (cy 1, 64, .inl c_words_kept))] ++ zpO hP_o hP_k cP_kind cP_length cP_usage cP_role cP_uses_44 ++ zpK (cy 0) hP_k cPK) := hD
    refine W.eq (g2 := F0 m 171 ls []) rfl ?_
    refine lv_aload_n (pc := 171) hx hb (zdt_at zt_X9_served_1 13 rfl) rfl (lv_at hl 0 rfl) ?_
    refine lv_iload_n (pc := 172) hx hb (zdt_at zt_X9_served_1 14 rfl) rfl (lv_at hl 1 rfl) ?_
    refine lv_iload_n (pc := 173) hx hb (zdt_at zt_X9_served_1 15 rfl) rfl (lv_at hl 3 rfl) ?_
    refine lv_iload (pc := 174) hx hb (zdt_at zt_X9_served_1 16 rfl) (lv_at hl 4 rfl) ?_
    refine lv_iload (pc := 176) hx hb (zdt_at zt_X9_served_1 17 rfl) (lv_at hl 5 rfl) ?_
    replace hf := zb_s hf
    obtain ⟨⟨r_49, c_buffer_50, c_gcm_keyHigh_51, c_gcm_keyLow_52, c_gcm_sumHigh_53, c_gcm_sumLow_54, c_gcm_tag_55, c_modes_block_56, c_modes_pad_57⟩, hc_, hf⟩ := hf
    refine zcm2 (pc := 178) (rv := (some (.int r_49))) (va_runV (As := [.int p1, .int p3, .int p4, .int p5]) (rest := []) ⟨hx, hb, hml, hown, hts⟩ (c_X9_servedByAes l D cy tt H.size h0 h0_buffer h0_slots h0_counters h0_officerPin h0_userPin h0_words h0_sha h0_stream h0_aes h0_modes h0_gcm h0_generator h0_tests h0_message h0_secret h0_aes_keys h0_gcm_tag h0_modes_block h0_modes_pad p1 p3 p4 p5 c_aes_rounds_47 c_aes_keys_48 c_buffer c_gcm_keyHigh c_gcm_keyLow c_gcm_sumHigh c_gcm_sumLow c_gcm_tag c_modes_block c_modes_pad c_state c_testsDone c_faults c_streamBegun r_49 c_buffer_50 c_gcm_keyHigh_51 c_gcm_keyLow_52 c_gcm_sumHigh_53 c_gcm_sumLow_54 c_gcm_tag_55 c_modes_block_56 c_modes_pad_57 hc_) (cwV 4 hts gX9_served_X9_servedByAes rfl rfl rfl (by decide +kernel) ⟨Nat.le_of_ble_eq_true rfl, Nat.le_of_ble_eq_true rfl⟩) ⟨zblind, va_recv hK hP (ci := 11) (q0 := 0) rfl rfl, zpre hE hS (hP.sub [0, 1, 2, 3, 4, 5, 11, 12, 13] rfl) (hD.sub [0, 1, 2, 3, 4, 5, 11, 12, 13] (by decide) rfl) (va_free hD hS hA [0, 1, 2, 3, 4, 5, 11, 12, 13] rfl)⟩ rfl rfl hl.1 rfl (lv_room (Nat.le_of_ble_eq_true rfl)) (zdt_at zt_X9_served_1 18 rfl) ⟨Nat.zero_le _, Nat.zero_le _⟩) hS hP hD (va_free hD hS hA [0, 1, 2, 3, 4, 5, 11, 12, 13] rfl) [0, 1, 2, 3, 4, 5, 11, 12, 13] rfl (by decide) rfl ?_
    clear hP hD hS hc_
    intro H locs hP hD hS
    replace hP : va_P D vwCl ([(h0, .inr (11, [.ref h0_buffer, .ref h0_slots, .ref h0_counters, .ref h0_officerPin, .ref h0_userPin, .ref h0_words, .ref h0_sha, .ref h0_stream, .ref h0_aes, .ref h0_modes, .ref h0_gcm, .ref h0_generator, .ref h0_tests, .ref h0_message, .ref h0_secret, .int c_state, .int c_testsDone, .int c_faults, .int c_streamBegun])), (h0_aes, .inr (2, [.ref h0_aes_keys, .int c_aes_rounds_47])), (h0_aes_keys, .inl (cy 1, 60, .inl c_aes_keys_48)), (h0_buffer, .inl (cy 0, 512, .inl c_buffer_50)), (h0_gcm, .inr (4, [.ref h0_aes, .ref h0_modes, .ref h0_gcm_tag, .long c_gcm_keyHigh_51, .long c_gcm_keyLow_52, .long c_gcm_sumHigh_53, .long c_gcm_sumLow_54])), (h0_gcm_tag, .inl (cy 0, 16, .inl c_gcm_tag_55)), (h0_generator, .inr (5, [.ref h0_sha, .ref h0_generator_key, .ref h0_generator_value, .ref h0_generator_message, .int c_generator_begun, .int c_generator_requests])), (h0_generator_key, .inl (cy 0, 32, .inl c_generator_key)), (h0_generator_message, .inl (cy 0, 97, .inl c_generator_message)), (h0_generator_value, .inl (cy 0, 32, .inl c_generator_value)), (h0_message, .inl (cy 0, 68, .inl c_message)), (h0_modes, .inr (6, [.ref h0_aes, .ref h0_modes_block, .ref h0_modes_pad])), (h0_modes_block, .inl (cy 0, 16, .inl c_modes_block_56)), (h0_modes_pad, .inl (cy 0, 16, .inl c_modes_pad_57)), (h0_secret, .inl (cy 0, 80, .inl c_secret)), (h0_sha, .inr (9, [.ref h0_sha_sums, .ref h0_sha_schedule, .ref h0_sha_inner, .int c_sha_filled, .int c_sha_total])), (h0_sha_inner, .inl (cy 0, 32, .inl c_sha_inner)), (h0_sha_schedule, .inl (cy 1, 64, .inl c_sha_schedule)), (h0_sha_sums, .inl (cy 1, 8, .inl c_sha_sums)), (h0_slots, .inl (cy 4, 16, .inr (.inr (.inr (.inr (fun j => some (hP_o j))))))), (h0_words, .inr (3, [.ref h0_words_kept, .int c_words_count, .int c_words_healthy, .int c_words_last, .int c_words_row, .int c_words_first, .int c_words_placeInWindow, .int c_words_timesInWindow])), (h0_words_kept, .inl (cy 1, 64, .inl c_words_kept))] ++ zpO hP_o hP_k cP_kind cP_length cP_usage cP_role cP_uses_44 ++ zpK (cy 0) hP_k cPK) H := hP
    replace hD : va_D A ([(h0, .inr (11, [.ref h0_buffer, .ref h0_slots, .ref h0_counters, .ref h0_officerPin, .ref h0_userPin, .ref h0_words, .ref h0_sha, .ref h0_stream, .ref h0_aes, .ref h0_modes, .ref h0_gcm, .ref h0_generator, .ref h0_tests, .ref h0_message, .ref h0_secret, .int c_state, .int c_testsDone, .int c_faults, .int c_streamBegun])), (h0_aes, .inr (2, [.ref h0_aes_keys, .int c_aes_rounds_47])), (h0_aes_keys, .inl (cy 1, 60, .inl c_aes_keys_48)), (h0_buffer, .inl (cy 0, 512, .inl c_buffer_50)), (h0_gcm, .inr (4, [.ref h0_aes, .ref h0_modes, .ref h0_gcm_tag, .long c_gcm_keyHigh_51, .long c_gcm_keyLow_52, .long c_gcm_sumHigh_53, .long c_gcm_sumLow_54])), (h0_gcm_tag, .inl (cy 0, 16, .inl c_gcm_tag_55)), (h0_generator, .inr (5, [.ref h0_sha, .ref h0_generator_key, .ref h0_generator_value, .ref h0_generator_message, .int c_generator_begun, .int c_generator_requests])), (h0_generator_key, .inl (cy 0, 32, .inl c_generator_key)), (h0_generator_message, .inl (cy 0, 97, .inl c_generator_message)), (h0_generator_value, .inl (cy 0, 32, .inl c_generator_value)), (h0_message, .inl (cy 0, 68, .inl c_message)), (h0_modes, .inr (6, [.ref h0_aes, .ref h0_modes_block, .ref h0_modes_pad])), (h0_modes_block, .inl (cy 0, 16, .inl c_modes_block_56)), (h0_modes_pad, .inl (cy 0, 16, .inl c_modes_pad_57)), (h0_secret, .inl (cy 0, 80, .inl c_secret)), (h0_sha, .inr (9, [.ref h0_sha_sums, .ref h0_sha_schedule, .ref h0_sha_inner, .int c_sha_filled, .int c_sha_total])), (h0_sha_inner, .inl (cy 0, 32, .inl c_sha_inner)), (h0_sha_schedule, .inl (cy 1, 64, .inl c_sha_schedule)), (h0_sha_sums, .inl (cy 1, 8, .inl c_sha_sums)), (h0_slots, .inl (cy 4, 16, .inr (.inr (.inr (.inr (fun j => some (hP_o j))))))), (h0_words, .inr (3, [.ref h0_words_kept, .int c_words_count, .int c_words_healthy, .int c_words_last, .int c_words_row, .int c_words_first, .int c_words_placeInWindow, .int c_words_timesInWindow])), (h0_words_kept, .inl (cy 1, 64, .inl c_words_kept))] ++ zpO hP_o hP_k cP_kind cP_length cP_usage cP_role cP_uses_44 ++ zpK (cy 0) hP_k cPK) := hD
    refine W.eq (g2 := F0 m 181 ls [.int r_49]) rfl ?_
    cases hf
    exact W.iret (pc := 181) hx hb hr (fun t ht hW => ⟨rfl, ⟨by rw [ht]; exact hP, hD⟩, hS.F ht⟩) hS.2.2 (zdt_at zt_X9_served_1 19 rfl)
  have n9_ : ¬ p1.toInt = 9 := lv_neT (k := (9 : Int32)) hs_12 (by decide)
  have n10_ : ¬ p1.toInt = 10 := lv_neT (k := (10 : Int32)) hs_23 (by decide)
  have n11_ : ¬ p1.toInt = 11 := lv_neT (k := (11 : Int32)) hs_42 (by decide)
  by_cases hr_ : p1.toInt < 9 ∨ 11 < p1.toInt
  · exact lv_tableOut (pc := 1) (tgt := 137) hx hb (zdt_at zt_X9_served_0 1 rfl) hr_ (by decide) (hTo _ _ _ kd_58)
  · exact absurd hr_ (by omega)
def f_X9_run (p1 : Int32) (p2 : Int32) (p3 : Int32) (p4 : Int32) (p5 : Int32) (c_state : Int32) (c_aes_rounds : Int32) (c_aes_keys : Nat → Int32) (c_buffer : Nat → Int32) (c_counters : Nat → Int32) (c_gcm_keyHigh : Int64) (c_gcm_keyLow : Int64) (c_gcm_sumHigh : Int64) (c_gcm_sumLow : Int64) (c_gcm_tag : Nat → Int32) (c_generator_begun : Int32) (c_generator_requests : Int32) (c_generator_key : Nat → Int32) (c_generator_message : Nat → Int32) (c_generator_value : Nat → Int32) (c_message : Nat → Int32) (c_modes_block : Nat → Int32) (c_modes_pad : Nat → Int32) (c_secret : Nat → Int32) (c_sha_filled : Int32) (c_sha_total : Int32) (c_sha_inner : Nat → Int32) (c_sha_schedule : Nat → Int32) (c_sha_sums : Nat → Int32) (c_words_count : Int32) (c_words_healthy : Int32) (c_words_kept : Nat → Int32) (cP_kind : Nat → Int32) (cP_length : Nat → Int32) (cP_role : Nat → Int32) (cP_usage : Nat → Int32) (cP_uses : Nat → Int32) (cPK : Nat → Nat → Int32) : Option (Int32 × Int32 × (Nat → Int32) × (Nat → Int32) × (Nat → Int32) × Int64 × Int64 × Int64 × Int64 × (Nat → Int32) × Int32 × Int32 × (Nat → Int32) × (Nat → Int32) × (Nat → Int32) × (Nat → Int32) × (Nat → Int32) × (Nat → Int32) × (Nat → Int32) × Int32 × Int32 × (Nat → Int32) × (Nat → Int32) × (Nat → Int32) × Int32 × (Nat → Int32) × (Nat → Int32)) :=
  (f_X9_runRefusal p1 p2 p3 p4 p5 c_state cP_kind cP_role cP_usage cP_uses).bind (fun r_1 => if r_1 = 0 then (f_X9_served p1 p2 p3 p4 p5 c_aes_rounds c_aes_keys c_buffer c_gcm_keyHigh c_gcm_keyLow c_gcm_sumHigh c_gcm_sumLow c_gcm_tag c_generator_begun c_generator_requests c_generator_key c_generator_message c_generator_value c_message c_modes_block c_modes_pad c_secret c_sha_filled c_sha_total c_sha_inner c_sha_schedule c_sha_sums c_words_count c_words_healthy c_words_kept cP_length cP_uses cPK).bind (fun (r_6, c_aes_rounds_7, c_aes_keys_8, c_buffer_9, c_gcm_keyHigh_10, c_gcm_keyLow_11, c_gcm_sumHigh_12, c_gcm_sumLow_13, c_gcm_tag_14, c_generator_begun_15, c_generator_requests_16, c_generator_key_17, c_generator_message_18, c_generator_value_19, c_message_20, c_modes_block_21, c_modes_pad_22, c_secret_23, c_sha_filled_24, c_sha_total_25, c_sha_inner_26, c_sha_schedule_27, c_sha_sums_28, c_words_count_29, c_words_kept_30, cP_uses_31) => (f_X9_counted r_6 c_counters).bind (fun (r_32, c_counters_33) => some (r_32, c_aes_rounds_7, c_aes_keys_8, c_buffer_9, c_counters_33, c_gcm_keyHigh_10, c_gcm_keyLow_11, c_gcm_sumHigh_12, c_gcm_sumLow_13, c_gcm_tag_14, c_generator_begun_15, c_generator_requests_16, c_generator_key_17, c_generator_message_18, c_generator_value_19, c_message_20, c_modes_block_21, c_modes_pad_22, c_secret_23, c_sha_filled_24, c_sha_total_25, c_sha_inner_26, c_sha_schedule_27, c_sha_sums_28, c_words_count_29, c_words_kept_30, cP_uses_31))) else (f_X9_counted r_1 c_counters).bind (fun (r_4, c_counters_5) => some (r_4, c_aes_rounds, c_aes_keys, c_buffer, c_counters_5, c_gcm_keyHigh, c_gcm_keyLow, c_gcm_sumHigh, c_gcm_sumLow, c_gcm_tag, c_generator_begun, c_generator_requests, c_generator_key, c_generator_message, c_generator_value, c_message, c_modes_block, c_modes_pad, c_secret, c_sha_filled, c_sha_total, c_sha_inner, c_sha_schedule, c_sha_sums, c_words_count, c_words_kept, cP_uses)))
set_option maxHeartbeats 4000000 in
set_option maxRecDepth 100000 in
theorem c_X9_run (l : Launch) (D : va_G) (cy : Nat → ClassId) (tt : Nat → Nat) (sz : Nat) (h0 : Nat) (h0_buffer : Nat) (h0_slots : Nat) (h0_counters : Nat) (h0_officerPin : Nat) (h0_userPin : Nat) (h0_words : Nat) (h0_sha : Nat) (h0_stream : Nat) (h0_aes : Nat) (h0_modes : Nat) (h0_gcm : Nat) (h0_generator : Nat) (h0_tests : Nat) (h0_message : Nat) (h0_secret : Nat) (h0_aes_keys : Nat) (h0_gcm_tag : Nat) (h0_generator_key : Nat) (h0_generator_value : Nat) (h0_generator_message : Nat) (h0_modes_block : Nat) (h0_modes_pad : Nat) (h0_sha_sums : Nat) (h0_sha_schedule : Nat) (h0_sha_inner : Nat) (hP_o : Nat → Nat) (h0_words_kept : Nat) (hP_k : Nat → Nat) (p1 : Int32) (p2 : Int32) (p3 : Int32) (p4 : Int32) (p5 : Int32) (c_state : Int32) (c_aes_rounds : Int32) (c_aes_keys : Nat → Int32) (c_buffer : Nat → Int32) (c_counters : Nat → Int32) (c_gcm_keyHigh : Int64) (c_gcm_keyLow : Int64) (c_gcm_sumHigh : Int64) (c_gcm_sumLow : Int64) (c_gcm_tag : Nat → Int32) (c_generator_begun : Int32) (c_generator_requests : Int32) (c_generator_key : Nat → Int32) (c_generator_message : Nat → Int32) (c_generator_value : Nat → Int32) (c_message : Nat → Int32) (c_modes_block : Nat → Int32) (c_modes_pad : Nat → Int32) (c_secret : Nat → Int32) (c_sha_filled : Int32) (c_sha_total : Int32) (c_sha_inner : Nat → Int32) (c_sha_schedule : Nat → Int32) (c_sha_sums : Nat → Int32) (c_words_count : Int32) (c_words_healthy : Int32) (c_words_kept : Nat → Int32) (cP_kind : Nat → Int32) (cP_length : Nat → Int32) (cP_role : Nat → Int32) (cP_usage : Nat → Int32) (cP_uses : Nat → Int32) (cPK : Nat → Nat → Int32) (c_testsDone : Int32) (c_faults : Int32) (c_streamBegun : Int32) (c_words_last : Int32) (c_words_row : Int32) (c_words_first : Int32) (c_words_placeInWindow : Int32) (c_words_timesInWindow : Int32) (r_ : Int32) (c_aes_rounds' : Int32) (c_aes_keys' : Nat → Int32) (c_buffer' : Nat → Int32) (c_counters' : Nat → Int32) (c_gcm_keyHigh' : Int64) (c_gcm_keyLow' : Int64) (c_gcm_sumHigh' : Int64) (c_gcm_sumLow' : Int64) (c_gcm_tag' : Nat → Int32) (c_generator_begun' : Int32) (c_generator_requests' : Int32) (c_generator_key' : Nat → Int32) (c_generator_message' : Nat → Int32) (c_generator_value' : Nat → Int32) (c_message' : Nat → Int32) (c_modes_block' : Nat → Int32) (c_modes_pad' : Nat → Int32) (c_secret' : Nat → Int32) (c_sha_filled' : Int32) (c_sha_total' : Int32) (c_sha_inner' : Nat → Int32) (c_sha_schedule' : Nat → Int32) (c_sha_sums' : Nat → Int32) (c_words_count' : Int32) (c_words_kept' : Nat → Int32) (cP_uses' : Nat → Int32) (hf : f_X9_run p1 p2 p3 p4 p5 c_state c_aes_rounds c_aes_keys c_buffer c_counters c_gcm_keyHigh c_gcm_keyLow c_gcm_sumHigh c_gcm_sumLow c_gcm_tag c_generator_begun c_generator_requests c_generator_key c_generator_message c_generator_value c_message c_modes_block c_modes_pad c_secret c_sha_filled c_sha_total c_sha_inner c_sha_schedule c_sha_sums c_words_count c_words_healthy c_words_kept cP_kind cP_length cP_role cP_usage cP_uses cPK = some (r_, c_aes_rounds', c_aes_keys', c_buffer', c_counters', c_gcm_keyHigh', c_gcm_keyLow', c_gcm_sumHigh', c_gcm_sumLow', c_gcm_tag', c_generator_begun', c_generator_requests', c_generator_key', c_generator_message', c_generator_value', c_message', c_modes_block', c_modes_pad', c_secret', c_sha_filled', c_sha_total', c_sha_inner', c_sha_schedule', c_sha_sums', c_words_count', c_words_kept', cP_uses')) : Met l yX9_run wsX9_run ({ frames := 8, cells := 0, slots := 0, locals := 211 }) (zPc D cy tt sz [.ref h0, .int p1, .int p2, .int p3, .int p4, .int p5] ([(h0, .inr (11, [.ref h0_buffer, .ref h0_slots, .ref h0_counters, .ref h0_officerPin, .ref h0_userPin, .ref h0_words, .ref h0_sha, .ref h0_stream, .ref h0_aes, .ref h0_modes, .ref h0_gcm, .ref h0_generator, .ref h0_tests, .ref h0_message, .ref h0_secret, .int c_state, .int c_testsDone, .int c_faults, .int c_streamBegun])), (h0_aes, .inr (2, [.ref h0_aes_keys, .int c_aes_rounds])), (h0_aes_keys, .inl (cy 1, 60, .inl c_aes_keys)), (h0_buffer, .inl (cy 0, 512, .inl c_buffer)), (h0_counters, .inl (cy 1, 3, .inl c_counters)), (h0_gcm, .inr (4, [.ref h0_aes, .ref h0_modes, .ref h0_gcm_tag, .long c_gcm_keyHigh, .long c_gcm_keyLow, .long c_gcm_sumHigh, .long c_gcm_sumLow])), (h0_gcm_tag, .inl (cy 0, 16, .inl c_gcm_tag)), (h0_generator, .inr (5, [.ref h0_sha, .ref h0_generator_key, .ref h0_generator_value, .ref h0_generator_message, .int c_generator_begun, .int c_generator_requests])), (h0_generator_key, .inl (cy 0, 32, .inl c_generator_key)), (h0_generator_message, .inl (cy 0, 97, .inl c_generator_message)), (h0_generator_value, .inl (cy 0, 32, .inl c_generator_value)), (h0_message, .inl (cy 0, 68, .inl c_message)), (h0_modes, .inr (6, [.ref h0_aes, .ref h0_modes_block, .ref h0_modes_pad])), (h0_modes_block, .inl (cy 0, 16, .inl c_modes_block)), (h0_modes_pad, .inl (cy 0, 16, .inl c_modes_pad)), (h0_secret, .inl (cy 0, 80, .inl c_secret)), (h0_sha, .inr (9, [.ref h0_sha_sums, .ref h0_sha_schedule, .ref h0_sha_inner, .int c_sha_filled, .int c_sha_total])), (h0_sha_inner, .inl (cy 0, 32, .inl c_sha_inner)), (h0_sha_schedule, .inl (cy 1, 64, .inl c_sha_schedule)), (h0_sha_sums, .inl (cy 1, 8, .inl c_sha_sums)), (h0_slots, .inl (cy 4, 16, .inr (.inr (.inr (.inr (fun j => some (hP_o j))))))), (h0_words, .inr (3, [.ref h0_words_kept, .int c_words_count, .int c_words_healthy, .int c_words_last, .int c_words_row, .int c_words_first, .int c_words_placeInWindow, .int c_words_timesInWindow])), (h0_words_kept, .inl (cy 1, 64, .inl c_words_kept))] ++ zpO hP_o hP_k cP_kind cP_length cP_usage cP_role cP_uses ++ zpK (cy 0) hP_k cPK)) (zQ D (some (.int r_)) ([(h0, .inr (11, [.ref h0_buffer, .ref h0_slots, .ref h0_counters, .ref h0_officerPin, .ref h0_userPin, .ref h0_words, .ref h0_sha, .ref h0_stream, .ref h0_aes, .ref h0_modes, .ref h0_gcm, .ref h0_generator, .ref h0_tests, .ref h0_message, .ref h0_secret, .int c_state, .int c_testsDone, .int c_faults, .int c_streamBegun])), (h0_aes, .inr (2, [.ref h0_aes_keys, .int c_aes_rounds'])), (h0_aes_keys, .inl (cy 1, 60, .inl c_aes_keys')), (h0_buffer, .inl (cy 0, 512, .inl c_buffer')), (h0_counters, .inl (cy 1, 3, .inl c_counters')), (h0_gcm, .inr (4, [.ref h0_aes, .ref h0_modes, .ref h0_gcm_tag, .long c_gcm_keyHigh', .long c_gcm_keyLow', .long c_gcm_sumHigh', .long c_gcm_sumLow'])), (h0_gcm_tag, .inl (cy 0, 16, .inl c_gcm_tag')), (h0_generator, .inr (5, [.ref h0_sha, .ref h0_generator_key, .ref h0_generator_value, .ref h0_generator_message, .int c_generator_begun', .int c_generator_requests'])), (h0_generator_key, .inl (cy 0, 32, .inl c_generator_key')), (h0_generator_message, .inl (cy 0, 97, .inl c_generator_message')), (h0_generator_value, .inl (cy 0, 32, .inl c_generator_value')), (h0_message, .inl (cy 0, 68, .inl c_message')), (h0_modes, .inr (6, [.ref h0_aes, .ref h0_modes_block, .ref h0_modes_pad])), (h0_modes_block, .inl (cy 0, 16, .inl c_modes_block')), (h0_modes_pad, .inl (cy 0, 16, .inl c_modes_pad')), (h0_secret, .inl (cy 0, 80, .inl c_secret')), (h0_sha, .inr (9, [.ref h0_sha_sums, .ref h0_sha_schedule, .ref h0_sha_inner, .int c_sha_filled', .int c_sha_total'])), (h0_sha_inner, .inl (cy 0, 32, .inl c_sha_inner')), (h0_sha_schedule, .inl (cy 1, 64, .inl c_sha_schedule')), (h0_sha_sums, .inl (cy 1, 8, .inl c_sha_sums')), (h0_slots, .inl (cy 4, 16, .inr (.inr (.inr (.inr (fun j => some (hP_o j))))))), (h0_words, .inr (3, [.ref h0_words_kept, .int c_words_count', .int c_words_healthy, .int c_words_last, .int c_words_row, .int c_words_first, .int c_words_placeInWindow, .int c_words_timesInWindow])), (h0_words_kept, .inl (cy 1, 64, .inl c_words_kept'))] ++ zpO hP_o hP_k cP_kind cP_length cP_usage cP_role cP_uses' ++ zpK (cy 0) hP_k cPK) (va_A ([(h0, .inr (11, [.ref h0_buffer, .ref h0_slots, .ref h0_counters, .ref h0_officerPin, .ref h0_userPin, .ref h0_words, .ref h0_sha, .ref h0_stream, .ref h0_aes, .ref h0_modes, .ref h0_gcm, .ref h0_generator, .ref h0_tests, .ref h0_message, .ref h0_secret, .int c_state, .int c_testsDone, .int c_faults, .int c_streamBegun])), (h0_aes, .inr (2, [.ref h0_aes_keys, .int c_aes_rounds])), (h0_aes_keys, .inl (cy 1, 60, .inl c_aes_keys)), (h0_buffer, .inl (cy 0, 512, .inl c_buffer)), (h0_counters, .inl (cy 1, 3, .inl c_counters)), (h0_gcm, .inr (4, [.ref h0_aes, .ref h0_modes, .ref h0_gcm_tag, .long c_gcm_keyHigh, .long c_gcm_keyLow, .long c_gcm_sumHigh, .long c_gcm_sumLow])), (h0_gcm_tag, .inl (cy 0, 16, .inl c_gcm_tag)), (h0_generator, .inr (5, [.ref h0_sha, .ref h0_generator_key, .ref h0_generator_value, .ref h0_generator_message, .int c_generator_begun, .int c_generator_requests])), (h0_generator_key, .inl (cy 0, 32, .inl c_generator_key)), (h0_generator_message, .inl (cy 0, 97, .inl c_generator_message)), (h0_generator_value, .inl (cy 0, 32, .inl c_generator_value)), (h0_message, .inl (cy 0, 68, .inl c_message)), (h0_modes, .inr (6, [.ref h0_aes, .ref h0_modes_block, .ref h0_modes_pad])), (h0_modes_block, .inl (cy 0, 16, .inl c_modes_block)), (h0_modes_pad, .inl (cy 0, 16, .inl c_modes_pad)), (h0_secret, .inl (cy 0, 80, .inl c_secret)), (h0_sha, .inr (9, [.ref h0_sha_sums, .ref h0_sha_schedule, .ref h0_sha_inner, .int c_sha_filled, .int c_sha_total])), (h0_sha_inner, .inl (cy 0, 32, .inl c_sha_inner)), (h0_sha_schedule, .inl (cy 1, 64, .inl c_sha_schedule)), (h0_sha_sums, .inl (cy 1, 8, .inl c_sha_sums)), (h0_slots, .inl (cy 4, 16, .inr (.inr (.inr (.inr (fun j => some (hP_o j))))))), (h0_words, .inr (3, [.ref h0_words_kept, .int c_words_count, .int c_words_healthy, .int c_words_last, .int c_words_row, .int c_words_first, .int c_words_placeInWindow, .int c_words_timesInWindow])), (h0_words_kept, .inl (cy 1, 64, .inl c_words_kept))] ++ zpO hP_o hP_k cP_kind cP_length cP_usage cP_role cP_uses ++ zpK (cy 0) hP_k cPK) sz)) 0 0 (va_A ([(h0, .inr (11, [.ref h0_buffer, .ref h0_slots, .ref h0_counters, .ref h0_officerPin, .ref h0_userPin, .ref h0_words, .ref h0_sha, .ref h0_stream, .ref h0_aes, .ref h0_modes, .ref h0_gcm, .ref h0_generator, .ref h0_tests, .ref h0_message, .ref h0_secret, .int c_state, .int c_testsDone, .int c_faults, .int c_streamBegun])), (h0_aes, .inr (2, [.ref h0_aes_keys, .int c_aes_rounds])), (h0_aes_keys, .inl (cy 1, 60, .inl c_aes_keys)), (h0_buffer, .inl (cy 0, 512, .inl c_buffer)), (h0_counters, .inl (cy 1, 3, .inl c_counters)), (h0_gcm, .inr (4, [.ref h0_aes, .ref h0_modes, .ref h0_gcm_tag, .long c_gcm_keyHigh, .long c_gcm_keyLow, .long c_gcm_sumHigh, .long c_gcm_sumLow])), (h0_gcm_tag, .inl (cy 0, 16, .inl c_gcm_tag)), (h0_generator, .inr (5, [.ref h0_sha, .ref h0_generator_key, .ref h0_generator_value, .ref h0_generator_message, .int c_generator_begun, .int c_generator_requests])), (h0_generator_key, .inl (cy 0, 32, .inl c_generator_key)), (h0_generator_message, .inl (cy 0, 97, .inl c_generator_message)), (h0_generator_value, .inl (cy 0, 32, .inl c_generator_value)), (h0_message, .inl (cy 0, 68, .inl c_message)), (h0_modes, .inr (6, [.ref h0_aes, .ref h0_modes_block, .ref h0_modes_pad])), (h0_modes_block, .inl (cy 0, 16, .inl c_modes_block)), (h0_modes_pad, .inl (cy 0, 16, .inl c_modes_pad)), (h0_secret, .inl (cy 0, 80, .inl c_secret)), (h0_sha, .inr (9, [.ref h0_sha_sums, .ref h0_sha_schedule, .ref h0_sha_inner, .int c_sha_filled, .int c_sha_total])), (h0_sha_inner, .inl (cy 0, 32, .inl c_sha_inner)), (h0_sha_schedule, .inl (cy 1, 64, .inl c_sha_schedule)), (h0_sha_sums, .inl (cy 1, 8, .inl c_sha_sums)), (h0_slots, .inl (cy 4, 16, .inr (.inr (.inr (.inr (fun j => some (hP_o j))))))), (h0_words, .inr (3, [.ref h0_words_kept, .int c_words_count, .int c_words_healthy, .int c_words_last, .int c_words_row, .int c_words_first, .int c_words_placeInWindow, .int c_words_timesInWindow])), (h0_words_kept, .inl (cy 1, 64, .inl c_words_kept))] ++ zpO hP_o hP_k cP_kind cP_length cP_usage cP_role cP_uses ++ zpK (cy 0) hP_k cPK) sz) := by
  refine Met.ofW (cc := cX9_run) (maxL := 7) (ret := (some .int)) (by decide) rfl ?_
  intro p e s m args below meth c s₁ B hml hv
  obtain ⟨rfl, rfl, hP, hD0, hE⟩ := hv
  have hx := B.exec
  have hb := B.bytes
  have hr := B.returns
  have hts := atoms_spec (ws := wsX9_run) B.pre
  have hown : s.vm.findClass RX9 = some m.cls := findClass_of_methodNamed B.named
  have hlocks := B.notSynchronized
  clear B
  have hD := hD0.self (sz := s.heap.size)
  generalize hAe : va_A ([(h0, .inr (11, [.ref h0_buffer, .ref h0_slots, .ref h0_counters, .ref h0_officerPin, .ref h0_userPin, .ref h0_words, .ref h0_sha, .ref h0_stream, .ref h0_aes, .ref h0_modes, .ref h0_gcm, .ref h0_generator, .ref h0_tests, .ref h0_message, .ref h0_secret, .int c_state, .int c_testsDone, .int c_faults, .int c_streamBegun])), (h0_aes, .inr (2, [.ref h0_aes_keys, .int c_aes_rounds])), (h0_aes_keys, .inl (cy 1, 60, .inl c_aes_keys)), (h0_buffer, .inl (cy 0, 512, .inl c_buffer)), (h0_counters, .inl (cy 1, 3, .inl c_counters)), (h0_gcm, .inr (4, [.ref h0_aes, .ref h0_modes, .ref h0_gcm_tag, .long c_gcm_keyHigh, .long c_gcm_keyLow, .long c_gcm_sumHigh, .long c_gcm_sumLow])), (h0_gcm_tag, .inl (cy 0, 16, .inl c_gcm_tag)), (h0_generator, .inr (5, [.ref h0_sha, .ref h0_generator_key, .ref h0_generator_value, .ref h0_generator_message, .int c_generator_begun, .int c_generator_requests])), (h0_generator_key, .inl (cy 0, 32, .inl c_generator_key)), (h0_generator_message, .inl (cy 0, 97, .inl c_generator_message)), (h0_generator_value, .inl (cy 0, 32, .inl c_generator_value)), (h0_message, .inl (cy 0, 68, .inl c_message)), (h0_modes, .inr (6, [.ref h0_aes, .ref h0_modes_block, .ref h0_modes_pad])), (h0_modes_block, .inl (cy 0, 16, .inl c_modes_block)), (h0_modes_pad, .inl (cy 0, 16, .inl c_modes_pad)), (h0_secret, .inl (cy 0, 80, .inl c_secret)), (h0_sha, .inr (9, [.ref h0_sha_sums, .ref h0_sha_schedule, .ref h0_sha_inner, .int c_sha_filled, .int c_sha_total])), (h0_sha_inner, .inl (cy 0, 32, .inl c_sha_inner)), (h0_sha_schedule, .inl (cy 1, 64, .inl c_sha_schedule)), (h0_sha_sums, .inl (cy 1, 8, .inl c_sha_sums)), (h0_slots, .inl (cy 4, 16, .inr (.inr (.inr (.inr (fun j => some (hP_o j))))))), (h0_words, .inr (3, [.ref h0_words_kept, .int c_words_count, .int c_words_healthy, .int c_words_last, .int c_words_row, .int c_words_first, .int c_words_placeInWindow, .int c_words_timesInWindow])), (h0_words_kept, .inl (cy 1, 64, .inl c_words_kept))] ++ zpO hP_o hP_k cP_kind cP_length cP_usage cP_role cP_uses ++ zpK (cy 0) hP_k cPK) s.heap.size = A at hD hE ⊢
  have hA : ∀ q : Nat, s.heap.size ≤ q → A q := fun q h => by rw [← hAe]; exact Or.inr h
  clear hAe hD0
  have hS : va_S A s.heap s.heap [] := va_S.rf
  have hK := hE.1
  have hl := lv_entry ([.ref h0, .int p1, .int p2, .int p3, .int p4, .int p5]) (n := 7) (Nat.le_of_ble_eq_true rfl)
  rw [lg_entry_eq]
  generalize (lg_sl ([.ref h0, .int p1, .int p2, .int p3, .int p4, .int p5]) ++ List.replicate (7 - (lg_sl ([.ref h0, .int p1, .int p2, .int p3, .int p4, .int p5])).length) Slot.unset).toArray = ls at hl ⊢
  replace hl : lv_has ls 7 [(0, .ref h0), (1, .int p1), (2, .int p2), (3, .int p3), (4, .int p4), (5, .int p5)] := hl
  unfold f_X9_run at hf
  refine zgo (fun GW hTo hFr => ?_)
  refine hFr _ _ _ ?_
  obtain ⟨H, hHe⟩ : ∃ H, H = s.heap := ⟨_, rfl⟩
  obtain ⟨locs, hLe⟩ : ∃ L : List Loc, L = [] := ⟨_, rfl⟩
  rw [← hHe] at hP
  replace hS : va_S A s.heap H locs := by rw [hHe, hLe]; exact hS
  refine zat hHe.symm hLe.symm ?_
  clear hHe hLe
  refine lv_aload_n (pc := 0) hx hb (zdt_at zt_X9_run_0 0 rfl) rfl (lv_at hl 0 rfl) ?_
  refine lv_iload_n (pc := 1) hx hb (zdt_at zt_X9_run_0 1 rfl) rfl (lv_at hl 1 rfl) ?_
  refine lv_iload_n (pc := 2) hx hb (zdt_at zt_X9_run_0 2 rfl) rfl (lv_at hl 2 rfl) ?_
  refine lv_iload_n (pc := 3) hx hb (zdt_at zt_X9_run_0 3 rfl) rfl (lv_at hl 3 rfl) ?_
  refine lv_iload (pc := 4) hx hb (zdt_at zt_X9_run_0 4 rfl) (lv_at hl 4 rfl) ?_
  refine lv_iload (pc := 6) hx hb (zdt_at zt_X9_run_0 5 rfl) (lv_at hl 5 rfl) ?_
  replace hf := zb_s hf
  obtain ⟨r_1, hc_, hf⟩ := hf
  refine zcs (pc := 8) (rv := (some (.int r_1))) (va_runV (As := [.int p1, .int p2, .int p3, .int p4, .int p5]) (rest := []) ⟨hx, hb, hml, hown, hts⟩ (c_X9_runRefusal l D cy tt H.size h0 h0_buffer h0_slots h0_counters h0_officerPin h0_userPin h0_words h0_sha h0_stream h0_aes h0_modes h0_gcm h0_generator h0_tests h0_message h0_secret hP_o hP_k p1 p2 p3 p4 p5 c_state cP_kind cP_role cP_usage cP_uses c_testsDone c_faults c_streamBegun cP_length r_1 hc_) (cwV 5 hts gX9_run_X9_runRefusal rfl rfl rfl (by decide +kernel) ⟨Nat.le_of_ble_eq_true rfl, Nat.le_of_ble_eq_true rfl⟩) ⟨zblind, va_recv hK hP (ci := 11) (q0 := 0) rfl rfl, zpre hE hS (hP.sub [0, 20, 23, 24, 25, 26, 27, 28, 29, 30, 31, 32, 33, 34, 35, 36, 37, 38] rfl) (hD.sub [0, 20, 23, 24, 25, 26, 27, 28, 29, 30, 31, 32, 33, 34, 35, 36, 37, 38] (by decide) rfl) (va_free hD hS hA [0, 20, 23, 24, 25, 26, 27, 28, 29, 30, 31, 32, 33, 34, 35, 36, 37, 38] rfl)⟩ rfl rfl hl.1 rfl (lv_room (Nat.le_of_ble_eq_true rfl)) (zdt_at zt_X9_run_0 6 rfl) ⟨Nat.zero_le _, Nat.zero_le _⟩) ?_
  clear hc_
  refine W.eq (g2 := F0 m 11 ls [.int r_1]) rfl ?_
  refine lv_istore (pc := 11) (lv' := [(6, .int r_1), (0, .ref h0), (1, .int p1), (2, .int p2), (3, .int p3), (4, .int p4), (5, .int p5)]) hx hb (zdt_at zt_X9_run_0 7 rfl) hl (by decide) rfl ?_
  clear hl
  intro ls hl
  refine lv_iload (pc := 13) hx hb (zdt_at zt_X9_run_0 8 rfl) (lv_at hl 0 rfl) ?_
  refine lv_if_ne (pc := 15) (tgt := 31) hx hb (zdt_at zt_X9_run_0 9 rfl) (by decide) (fun cn_ => ?t_2) (fun cn_ => ?f_3)
  case t_2 =>
    replace hf := ze_s cn_ hf
    clear cn_
    refine lv_aload_n (pc := 31) hx hb (zdt_at zt_X9_run_0 18 rfl) rfl (lv_at hl 1 rfl) ?_
    refine lv_iload (pc := 32) hx hb (zdt_at zt_X9_run_0 19 rfl) (lv_at hl 0 rfl) ?_
    replace hf := zb_s hf
    obtain ⟨⟨r_4, c_counters_5⟩, hc_, hf⟩ := hf
    refine zcm2 (pc := 34) (rv := (some (.int r_4))) (va_runV (As := [.int r_1]) (rest := []) ⟨hx, hb, hml, hown, hts⟩ (c_X9_counted l D cy tt H.size h0 h0_buffer h0_slots h0_counters h0_officerPin h0_userPin h0_words h0_sha h0_stream h0_aes h0_modes h0_gcm h0_generator h0_tests h0_message h0_secret r_1 c_counters c_state c_testsDone c_faults c_streamBegun r_4 c_counters_5 hc_) (cwV 1 hts gX9_run_X9_counted rfl rfl rfl (by decide +kernel) ⟨Nat.le_of_ble_eq_true rfl, Nat.le_of_ble_eq_true rfl⟩) ⟨zblind, va_recv hK hP (ci := 11) (q0 := 0) rfl rfl, zpre hE hS (hP.sub [0, 4] rfl) (hD.sub [0, 4] (by decide) rfl) (va_free hD hS hA [0, 4] rfl)⟩ rfl rfl hl.1 rfl (lv_room (Nat.le_of_ble_eq_true rfl)) (zdt_at zt_X9_run_0 20 rfl) ⟨Nat.zero_le _, Nat.zero_le _⟩) hS hP hD (va_free hD hS hA [0, 4] rfl) [0, 4] rfl (by decide) rfl ?_
    clear hP hD hS hc_
    intro H locs hP hD hS
    replace hP : va_P D vwCl ([(h0, .inr (11, [.ref h0_buffer, .ref h0_slots, .ref h0_counters, .ref h0_officerPin, .ref h0_userPin, .ref h0_words, .ref h0_sha, .ref h0_stream, .ref h0_aes, .ref h0_modes, .ref h0_gcm, .ref h0_generator, .ref h0_tests, .ref h0_message, .ref h0_secret, .int c_state, .int c_testsDone, .int c_faults, .int c_streamBegun])), (h0_aes, .inr (2, [.ref h0_aes_keys, .int c_aes_rounds])), (h0_aes_keys, .inl (cy 1, 60, .inl c_aes_keys)), (h0_buffer, .inl (cy 0, 512, .inl c_buffer)), (h0_counters, .inl (cy 1, 3, .inl c_counters_5)), (h0_gcm, .inr (4, [.ref h0_aes, .ref h0_modes, .ref h0_gcm_tag, .long c_gcm_keyHigh, .long c_gcm_keyLow, .long c_gcm_sumHigh, .long c_gcm_sumLow])), (h0_gcm_tag, .inl (cy 0, 16, .inl c_gcm_tag)), (h0_generator, .inr (5, [.ref h0_sha, .ref h0_generator_key, .ref h0_generator_value, .ref h0_generator_message, .int c_generator_begun, .int c_generator_requests])), (h0_generator_key, .inl (cy 0, 32, .inl c_generator_key)), (h0_generator_message, .inl (cy 0, 97, .inl c_generator_message)), (h0_generator_value, .inl (cy 0, 32, .inl c_generator_value)), (h0_message, .inl (cy 0, 68, .inl c_message)), (h0_modes, .inr (6, [.ref h0_aes, .ref h0_modes_block, .ref h0_modes_pad])), (h0_modes_block, .inl (cy 0, 16, .inl c_modes_block)), (h0_modes_pad, .inl (cy 0, 16, .inl c_modes_pad)), (h0_secret, .inl (cy 0, 80, .inl c_secret)), (h0_sha, .inr (9, [.ref h0_sha_sums, .ref h0_sha_schedule, .ref h0_sha_inner, .int c_sha_filled, .int c_sha_total])), (h0_sha_inner, .inl (cy 0, 32, .inl c_sha_inner)), (h0_sha_schedule, .inl (cy 1, 64, .inl c_sha_schedule)), (h0_sha_sums, .inl (cy 1, 8, .inl c_sha_sums)), (h0_slots, .inl (cy 4, 16, .inr (.inr (.inr (.inr (fun j => some (hP_o j))))))), (h0_words, .inr (3, [.ref h0_words_kept, .int c_words_count, .int c_words_healthy, .int c_words_last, .int c_words_row, .int c_words_first, .int c_words_placeInWindow, .int c_words_timesInWindow])), (h0_words_kept, .inl (cy 1, 64, .inl c_words_kept))] ++ zpO hP_o hP_k cP_kind cP_length cP_usage cP_role cP_uses ++ zpK (cy 0) hP_k cPK) H := hP
    replace hD : va_D A ([(h0, .inr (11, [.ref h0_buffer, .ref h0_slots, .ref h0_counters, .ref h0_officerPin, .ref h0_userPin, .ref h0_words, .ref h0_sha, .ref h0_stream, .ref h0_aes, .ref h0_modes, .ref h0_gcm, .ref h0_generator, .ref h0_tests, .ref h0_message, .ref h0_secret, .int c_state, .int c_testsDone, .int c_faults, .int c_streamBegun])), (h0_aes, .inr (2, [.ref h0_aes_keys, .int c_aes_rounds])), (h0_aes_keys, .inl (cy 1, 60, .inl c_aes_keys)), (h0_buffer, .inl (cy 0, 512, .inl c_buffer)), (h0_counters, .inl (cy 1, 3, .inl c_counters_5)), (h0_gcm, .inr (4, [.ref h0_aes, .ref h0_modes, .ref h0_gcm_tag, .long c_gcm_keyHigh, .long c_gcm_keyLow, .long c_gcm_sumHigh, .long c_gcm_sumLow])), (h0_gcm_tag, .inl (cy 0, 16, .inl c_gcm_tag)), (h0_generator, .inr (5, [.ref h0_sha, .ref h0_generator_key, .ref h0_generator_value, .ref h0_generator_message, .int c_generator_begun, .int c_generator_requests])), (h0_generator_key, .inl (cy 0, 32, .inl c_generator_key)), (h0_generator_message, .inl (cy 0, 97, .inl c_generator_message)), (h0_generator_value, .inl (cy 0, 32, .inl c_generator_value)), (h0_message, .inl (cy 0, 68, .inl c_message)), (h0_modes, .inr (6, [.ref h0_aes, .ref h0_modes_block, .ref h0_modes_pad])), (h0_modes_block, .inl (cy 0, 16, .inl c_modes_block)), (h0_modes_pad, .inl (cy 0, 16, .inl c_modes_pad)), (h0_secret, .inl (cy 0, 80, .inl c_secret)), (h0_sha, .inr (9, [.ref h0_sha_sums, .ref h0_sha_schedule, .ref h0_sha_inner, .int c_sha_filled, .int c_sha_total])), (h0_sha_inner, .inl (cy 0, 32, .inl c_sha_inner)), (h0_sha_schedule, .inl (cy 1, 64, .inl c_sha_schedule)), (h0_sha_sums, .inl (cy 1, 8, .inl c_sha_sums)), (h0_slots, .inl (cy 4, 16, .inr (.inr (.inr (.inr (fun j => some (hP_o j))))))), (h0_words, .inr (3, [.ref h0_words_kept, .int c_words_count, .int c_words_healthy, .int c_words_last, .int c_words_row, .int c_words_first, .int c_words_placeInWindow, .int c_words_timesInWindow])), (h0_words_kept, .inl (cy 1, 64, .inl c_words_kept))] ++ zpO hP_o hP_k cP_kind cP_length cP_usage cP_role cP_uses ++ zpK (cy 0) hP_k cPK) := hD
    refine W.eq (g2 := F0 m 37 ls [.int r_4]) rfl ?_
    cases hf
    exact W.iret (pc := 37) hx hb hr (fun t ht hW => ⟨rfl, ⟨by rw [ht]; exact hP, hD⟩, hS.F ht⟩) hS.2.2 (zdt_at zt_X9_run_0 21 rfl)
  replace hf := zt_s cn_ hf
  clear cn_
  refine lv_aload_n (pc := 18) hx hb (zdt_at zt_X9_run_0 10 rfl) rfl (lv_at hl 1 rfl) ?_
  refine lv_iload_n (pc := 19) hx hb (zdt_at zt_X9_run_0 11 rfl) rfl (lv_at hl 2 rfl) ?_
  refine lv_iload_n (pc := 20) hx hb (zdt_at zt_X9_run_0 12 rfl) rfl (lv_at hl 3 rfl) ?_
  refine lv_iload_n (pc := 21) hx hb (zdt_at zt_X9_run_0 13 rfl) rfl (lv_at hl 4 rfl) ?_
  refine lv_iload (pc := 22) hx hb (zdt_at zt_X9_run_0 14 rfl) (lv_at hl 5 rfl) ?_
  refine lv_iload (pc := 24) hx hb (zdt_at zt_X9_run_0 15 rfl) (lv_at hl 6 rfl) ?_
  replace hf := zb_s hf
  obtain ⟨⟨r_6, c_aes_rounds_7, c_aes_keys_8, c_buffer_9, c_gcm_keyHigh_10, c_gcm_keyLow_11, c_gcm_sumHigh_12, c_gcm_sumLow_13, c_gcm_tag_14, c_generator_begun_15, c_generator_requests_16, c_generator_key_17, c_generator_message_18, c_generator_value_19, c_message_20, c_modes_block_21, c_modes_pad_22, c_secret_23, c_sha_filled_24, c_sha_total_25, c_sha_inner_26, c_sha_schedule_27, c_sha_sums_28, c_words_count_29, c_words_kept_30, cP_uses_31⟩, hc_, hf⟩ := hf
  refine zcm2 (pc := 26) (rv := (some (.int r_6))) (va_runV (As := [.int p1, .int p2, .int p3, .int p4, .int p5]) (rest := []) ⟨hx, hb, hml, hown, hts⟩ (c_X9_served l D cy tt H.size h0 h0_buffer h0_slots h0_counters h0_officerPin h0_userPin h0_words h0_sha h0_stream h0_aes h0_modes h0_gcm h0_generator h0_tests h0_message h0_secret h0_aes_keys h0_gcm_tag h0_generator_key h0_generator_value h0_generator_message h0_modes_block h0_modes_pad h0_sha_sums h0_sha_schedule h0_sha_inner hP_o h0_words_kept hP_k p1 p2 p3 p4 p5 c_aes_rounds c_aes_keys c_buffer c_gcm_keyHigh c_gcm_keyLow c_gcm_sumHigh c_gcm_sumLow c_gcm_tag c_generator_begun c_generator_requests c_generator_key c_generator_message c_generator_value c_message c_modes_block c_modes_pad c_secret c_sha_filled c_sha_total c_sha_inner c_sha_schedule c_sha_sums c_words_count c_words_healthy c_words_kept cP_length cP_uses cPK c_state c_testsDone c_faults c_streamBegun c_words_last c_words_row c_words_first c_words_placeInWindow c_words_timesInWindow cP_kind cP_usage cP_role r_6 c_aes_rounds_7 c_aes_keys_8 c_buffer_9 c_gcm_keyHigh_10 c_gcm_keyLow_11 c_gcm_sumHigh_12 c_gcm_sumLow_13 c_gcm_tag_14 c_generator_begun_15 c_generator_requests_16 c_generator_key_17 c_generator_message_18 c_generator_value_19 c_message_20 c_modes_block_21 c_modes_pad_22 c_secret_23 c_sha_filled_24 c_sha_total_25 c_sha_inner_26 c_sha_schedule_27 c_sha_sums_28 c_words_count_29 c_words_kept_30 cP_uses_31 hc_) (cwV 5 hts gX9_run_X9_served rfl rfl rfl (by decide +kernel) ⟨Nat.le_of_ble_eq_true rfl, Nat.le_of_ble_eq_true rfl⟩) ⟨zblind, va_recv hK hP (ci := 11) (q0 := 0) rfl rfl, zpre hE hS (hP.sub [0, 1, 2, 3, 5, 6, 7, 8, 9, 10, 11, 12, 13, 14, 15, 16, 17, 18, 19, 20, 21, 22, 23, 24, 25, 26, 27, 28, 29, 30, 31, 32, 33, 34, 35, 36, 37, 38, 39, 40, 41, 42, 43, 44, 45, 46, 47, 48, 49, 50, 51, 52, 53, 54] rfl) (hD.sub [0, 1, 2, 3, 5, 6, 7, 8, 9, 10, 11, 12, 13, 14, 15, 16, 17, 18, 19, 20, 21, 22, 23, 24, 25, 26, 27, 28, 29, 30, 31, 32, 33, 34, 35, 36, 37, 38, 39, 40, 41, 42, 43, 44, 45, 46, 47, 48, 49, 50, 51, 52, 53, 54] (by decide) rfl) (va_free hD hS hA [0, 1, 2, 3, 5, 6, 7, 8, 9, 10, 11, 12, 13, 14, 15, 16, 17, 18, 19, 20, 21, 22, 23, 24, 25, 26, 27, 28, 29, 30, 31, 32, 33, 34, 35, 36, 37, 38, 39, 40, 41, 42, 43, 44, 45, 46, 47, 48, 49, 50, 51, 52, 53, 54] rfl)⟩ rfl rfl hl.1 rfl (lv_room (Nat.le_of_ble_eq_true rfl)) (zdt_at zt_X9_run_0 16 rfl) ⟨Nat.zero_le _, Nat.zero_le _⟩) hS hP hD (va_free hD hS hA [0, 1, 2, 3, 5, 6, 7, 8, 9, 10, 11, 12, 13, 14, 15, 16, 17, 18, 19, 20, 21, 22, 23, 24, 25, 26, 27, 28, 29, 30, 31, 32, 33, 34, 35, 36, 37, 38, 39, 40, 41, 42, 43, 44, 45, 46, 47, 48, 49, 50, 51, 52, 53, 54] rfl) [0, 1, 2, 3, 5, 6, 7, 8, 9, 10, 11, 12, 13, 14, 15, 16, 17, 18, 19, 20, 21, 22, 23, 24, 25, 26, 27, 28, 29, 30, 31, 32, 33, 34, 35, 36, 37, 38, 39, 40, 41, 42, 43, 44, 45, 46, 47, 48, 49, 50, 51, 52, 53, 54] rfl (by decide) rfl ?_
  clear hP hD hS hc_
  intro H locs hP hD hS
  replace hP : va_P D vwCl ([(h0, .inr (11, [.ref h0_buffer, .ref h0_slots, .ref h0_counters, .ref h0_officerPin, .ref h0_userPin, .ref h0_words, .ref h0_sha, .ref h0_stream, .ref h0_aes, .ref h0_modes, .ref h0_gcm, .ref h0_generator, .ref h0_tests, .ref h0_message, .ref h0_secret, .int c_state, .int c_testsDone, .int c_faults, .int c_streamBegun])), (h0_aes, .inr (2, [.ref h0_aes_keys, .int c_aes_rounds_7])), (h0_aes_keys, .inl (cy 1, 60, .inl c_aes_keys_8)), (h0_buffer, .inl (cy 0, 512, .inl c_buffer_9)), (h0_counters, .inl (cy 1, 3, .inl c_counters)), (h0_gcm, .inr (4, [.ref h0_aes, .ref h0_modes, .ref h0_gcm_tag, .long c_gcm_keyHigh_10, .long c_gcm_keyLow_11, .long c_gcm_sumHigh_12, .long c_gcm_sumLow_13])), (h0_gcm_tag, .inl (cy 0, 16, .inl c_gcm_tag_14)), (h0_generator, .inr (5, [.ref h0_sha, .ref h0_generator_key, .ref h0_generator_value, .ref h0_generator_message, .int c_generator_begun_15, .int c_generator_requests_16])), (h0_generator_key, .inl (cy 0, 32, .inl c_generator_key_17)), (h0_generator_message, .inl (cy 0, 97, .inl c_generator_message_18)), (h0_generator_value, .inl (cy 0, 32, .inl c_generator_value_19)), (h0_message, .inl (cy 0, 68, .inl c_message_20)), (h0_modes, .inr (6, [.ref h0_aes, .ref h0_modes_block, .ref h0_modes_pad])), (h0_modes_block, .inl (cy 0, 16, .inl c_modes_block_21)), (h0_modes_pad, .inl (cy 0, 16, .inl c_modes_pad_22)), (h0_secret, .inl (cy 0, 80, .inl c_secret_23)), (h0_sha, .inr (9, [.ref h0_sha_sums, .ref h0_sha_schedule, .ref h0_sha_inner, .int c_sha_filled_24, .int c_sha_total_25])), (h0_sha_inner, .inl (cy 0, 32, .inl c_sha_inner_26)), (h0_sha_schedule, .inl (cy 1, 64, .inl c_sha_schedule_27)), (h0_sha_sums, .inl (cy 1, 8, .inl c_sha_sums_28)), (h0_slots, .inl (cy 4, 16, .inr (.inr (.inr (.inr (fun j => some (hP_o j))))))), (h0_words, .inr (3, [.ref h0_words_kept, .int c_words_count_29, .int c_words_healthy, .int c_words_last, .int c_words_row, .int c_words_first, .int c_words_placeInWindow, .int c_words_timesInWindow])), (h0_words_kept, .inl (cy 1, 64, .inl c_words_kept_30))] ++ zpO hP_o hP_k cP_kind cP_length cP_usage cP_role cP_uses_31 ++ zpK (cy 0) hP_k cPK) H := hP
  replace hD : va_D A ([(h0, .inr (11, [.ref h0_buffer, .ref h0_slots, .ref h0_counters, .ref h0_officerPin, .ref h0_userPin, .ref h0_words, .ref h0_sha, .ref h0_stream, .ref h0_aes, .ref h0_modes, .ref h0_gcm, .ref h0_generator, .ref h0_tests, .ref h0_message, .ref h0_secret, .int c_state, .int c_testsDone, .int c_faults, .int c_streamBegun])), (h0_aes, .inr (2, [.ref h0_aes_keys, .int c_aes_rounds_7])), (h0_aes_keys, .inl (cy 1, 60, .inl c_aes_keys_8)), (h0_buffer, .inl (cy 0, 512, .inl c_buffer_9)), (h0_counters, .inl (cy 1, 3, .inl c_counters)), (h0_gcm, .inr (4, [.ref h0_aes, .ref h0_modes, .ref h0_gcm_tag, .long c_gcm_keyHigh_10, .long c_gcm_keyLow_11, .long c_gcm_sumHigh_12, .long c_gcm_sumLow_13])), (h0_gcm_tag, .inl (cy 0, 16, .inl c_gcm_tag_14)), (h0_generator, .inr (5, [.ref h0_sha, .ref h0_generator_key, .ref h0_generator_value, .ref h0_generator_message, .int c_generator_begun_15, .int c_generator_requests_16])), (h0_generator_key, .inl (cy 0, 32, .inl c_generator_key_17)), (h0_generator_message, .inl (cy 0, 97, .inl c_generator_message_18)), (h0_generator_value, .inl (cy 0, 32, .inl c_generator_value_19)), (h0_message, .inl (cy 0, 68, .inl c_message_20)), (h0_modes, .inr (6, [.ref h0_aes, .ref h0_modes_block, .ref h0_modes_pad])), (h0_modes_block, .inl (cy 0, 16, .inl c_modes_block_21)), (h0_modes_pad, .inl (cy 0, 16, .inl c_modes_pad_22)), (h0_secret, .inl (cy 0, 80, .inl c_secret_23)), (h0_sha, .inr (9, [.ref h0_sha_sums, .ref h0_sha_schedule, .ref h0_sha_inner, .int c_sha_filled_24, .int c_sha_total_25])), (h0_sha_inner, .inl (cy 0, 32, .inl c_sha_inner_26)), (h0_sha_schedule, .inl (cy 1, 64, .inl c_sha_schedule_27)), (h0_sha_sums, .inl (cy 1, 8, .inl c_sha_sums_28)), (h0_slots, .inl (cy 4, 16, .inr (.inr (.inr (.inr (fun j => some (hP_o j))))))), (h0_words, .inr (3, [.ref h0_words_kept, .int c_words_count_29, .int c_words_healthy, .int c_words_last, .int c_words_row, .int c_words_first, .int c_words_placeInWindow, .int c_words_timesInWindow])), (h0_words_kept, .inl (cy 1, 64, .inl c_words_kept_30))] ++ zpO hP_o hP_k cP_kind cP_length cP_usage cP_role cP_uses_31 ++ zpK (cy 0) hP_k cPK) := hD
  refine W.eq (g2 := F0 m 29 ls [.int r_6]) rfl ?_
  refine lv_istore (pc := 29) (lv' := [(6, .int r_6), (0, .ref h0), (1, .int p1), (2, .int p2), (3, .int p3), (4, .int p4), (5, .int p5)]) hx hb (zdt_at zt_X9_run_0 17 rfl) hl (by decide) rfl ?_
  clear hl
  intro ls hl
  refine lv_aload_n (pc := 31) hx hb (zdt_at zt_X9_run_0 18 rfl) rfl (lv_at hl 1 rfl) ?_
  refine lv_iload (pc := 32) hx hb (zdt_at zt_X9_run_0 19 rfl) (lv_at hl 0 rfl) ?_
  replace hf := zb_s hf
  obtain ⟨⟨r_32, c_counters_33⟩, hc_, hf⟩ := hf
  refine zcm2 (pc := 34) (rv := (some (.int r_32))) (va_runV (As := [.int r_6]) (rest := []) ⟨hx, hb, hml, hown, hts⟩ (c_X9_counted l D cy tt H.size h0 h0_buffer h0_slots h0_counters h0_officerPin h0_userPin h0_words h0_sha h0_stream h0_aes h0_modes h0_gcm h0_generator h0_tests h0_message h0_secret r_6 c_counters c_state c_testsDone c_faults c_streamBegun r_32 c_counters_33 hc_) (cwV 1 hts gX9_run_X9_counted rfl rfl rfl (by decide +kernel) ⟨Nat.le_of_ble_eq_true rfl, Nat.le_of_ble_eq_true rfl⟩) ⟨zblind, va_recv hK hP (ci := 11) (q0 := 0) rfl rfl, zpre hE hS (hP.sub [0, 4] rfl) (hD.sub [0, 4] (by decide) rfl) (va_free hD hS hA [0, 4] rfl)⟩ rfl rfl hl.1 rfl (lv_room (Nat.le_of_ble_eq_true rfl)) (zdt_at zt_X9_run_0 20 rfl) ⟨Nat.zero_le _, Nat.zero_le _⟩) hS hP hD (va_free hD hS hA [0, 4] rfl) [0, 4] rfl (by decide) rfl ?_
  clear hP hD hS hc_
  intro H locs hP hD hS
  replace hP : va_P D vwCl ([(h0, .inr (11, [.ref h0_buffer, .ref h0_slots, .ref h0_counters, .ref h0_officerPin, .ref h0_userPin, .ref h0_words, .ref h0_sha, .ref h0_stream, .ref h0_aes, .ref h0_modes, .ref h0_gcm, .ref h0_generator, .ref h0_tests, .ref h0_message, .ref h0_secret, .int c_state, .int c_testsDone, .int c_faults, .int c_streamBegun])), (h0_aes, .inr (2, [.ref h0_aes_keys, .int c_aes_rounds_7])), (h0_aes_keys, .inl (cy 1, 60, .inl c_aes_keys_8)), (h0_buffer, .inl (cy 0, 512, .inl c_buffer_9)), (h0_counters, .inl (cy 1, 3, .inl c_counters_33)), (h0_gcm, .inr (4, [.ref h0_aes, .ref h0_modes, .ref h0_gcm_tag, .long c_gcm_keyHigh_10, .long c_gcm_keyLow_11, .long c_gcm_sumHigh_12, .long c_gcm_sumLow_13])), (h0_gcm_tag, .inl (cy 0, 16, .inl c_gcm_tag_14)), (h0_generator, .inr (5, [.ref h0_sha, .ref h0_generator_key, .ref h0_generator_value, .ref h0_generator_message, .int c_generator_begun_15, .int c_generator_requests_16])), (h0_generator_key, .inl (cy 0, 32, .inl c_generator_key_17)), (h0_generator_message, .inl (cy 0, 97, .inl c_generator_message_18)), (h0_generator_value, .inl (cy 0, 32, .inl c_generator_value_19)), (h0_message, .inl (cy 0, 68, .inl c_message_20)), (h0_modes, .inr (6, [.ref h0_aes, .ref h0_modes_block, .ref h0_modes_pad])), (h0_modes_block, .inl (cy 0, 16, .inl c_modes_block_21)), (h0_modes_pad, .inl (cy 0, 16, .inl c_modes_pad_22)), (h0_secret, .inl (cy 0, 80, .inl c_secret_23)), (h0_sha, .inr (9, [.ref h0_sha_sums, .ref h0_sha_schedule, .ref h0_sha_inner, .int c_sha_filled_24, .int c_sha_total_25])), (h0_sha_inner, .inl (cy 0, 32, .inl c_sha_inner_26)), (h0_sha_schedule, .inl (cy 1, 64, .inl c_sha_schedule_27)), (h0_sha_sums, .inl (cy 1, 8, .inl c_sha_sums_28)), (h0_slots, .inl (cy 4, 16, .inr (.inr (.inr (.inr (fun j => some (hP_o j))))))), (h0_words, .inr (3, [.ref h0_words_kept, .int c_words_count_29, .int c_words_healthy, .int c_words_last, .int c_words_row, .int c_words_first, .int c_words_placeInWindow, .int c_words_timesInWindow])), (h0_words_kept, .inl (cy 1, 64, .inl c_words_kept_30))] ++ zpO hP_o hP_k cP_kind cP_length cP_usage cP_role cP_uses_31 ++ zpK (cy 0) hP_k cPK) H := hP
  replace hD : va_D A ([(h0, .inr (11, [.ref h0_buffer, .ref h0_slots, .ref h0_counters, .ref h0_officerPin, .ref h0_userPin, .ref h0_words, .ref h0_sha, .ref h0_stream, .ref h0_aes, .ref h0_modes, .ref h0_gcm, .ref h0_generator, .ref h0_tests, .ref h0_message, .ref h0_secret, .int c_state, .int c_testsDone, .int c_faults, .int c_streamBegun])), (h0_aes, .inr (2, [.ref h0_aes_keys, .int c_aes_rounds_7])), (h0_aes_keys, .inl (cy 1, 60, .inl c_aes_keys_8)), (h0_buffer, .inl (cy 0, 512, .inl c_buffer_9)), (h0_counters, .inl (cy 1, 3, .inl c_counters_33)), (h0_gcm, .inr (4, [.ref h0_aes, .ref h0_modes, .ref h0_gcm_tag, .long c_gcm_keyHigh_10, .long c_gcm_keyLow_11, .long c_gcm_sumHigh_12, .long c_gcm_sumLow_13])), (h0_gcm_tag, .inl (cy 0, 16, .inl c_gcm_tag_14)), (h0_generator, .inr (5, [.ref h0_sha, .ref h0_generator_key, .ref h0_generator_value, .ref h0_generator_message, .int c_generator_begun_15, .int c_generator_requests_16])), (h0_generator_key, .inl (cy 0, 32, .inl c_generator_key_17)), (h0_generator_message, .inl (cy 0, 97, .inl c_generator_message_18)), (h0_generator_value, .inl (cy 0, 32, .inl c_generator_value_19)), (h0_message, .inl (cy 0, 68, .inl c_message_20)), (h0_modes, .inr (6, [.ref h0_aes, .ref h0_modes_block, .ref h0_modes_pad])), (h0_modes_block, .inl (cy 0, 16, .inl c_modes_block_21)), (h0_modes_pad, .inl (cy 0, 16, .inl c_modes_pad_22)), (h0_secret, .inl (cy 0, 80, .inl c_secret_23)), (h0_sha, .inr (9, [.ref h0_sha_sums, .ref h0_sha_schedule, .ref h0_sha_inner, .int c_sha_filled_24, .int c_sha_total_25])), (h0_sha_inner, .inl (cy 0, 32, .inl c_sha_inner_26)), (h0_sha_schedule, .inl (cy 1, 64, .inl c_sha_schedule_27)), (h0_sha_sums, .inl (cy 1, 8, .inl c_sha_sums_28)), (h0_slots, .inl (cy 4, 16, .inr (.inr (.inr (.inr (fun j => some (hP_o j))))))), (h0_words, .inr (3, [.ref h0_words_kept, .int c_words_count_29, .int c_words_healthy, .int c_words_last, .int c_words_row, .int c_words_first, .int c_words_placeInWindow, .int c_words_timesInWindow])), (h0_words_kept, .inl (cy 1, 64, .inl c_words_kept_30))] ++ zpO hP_o hP_k cP_kind cP_length cP_usage cP_role cP_uses_31 ++ zpK (cy 0) hP_k cPK) := hD
  refine W.eq (g2 := F0 m 37 ls [.int r_32]) rfl ?_
  cases hf
  exact W.iret (pc := 37) hx hb hr (fun t ht hW => ⟨rfl, ⟨by rw [ht]; exact hP, hD⟩, hS.F ht⟩) hS.2.2 (zdt_at zt_X9_run_0 21 rfl)
def f_X9_hashAnswer (p1 : Int32) (p2 : Int32) (p3 : Int32) (c_state : Int32) (c_streamBegun : Int32) (c_buffer : Nat → Int32) (c_sha_filled : Int32) (c_sha_total : Int32) (c_sha_schedule : Nat → Int32) (c_sha_sums : Nat → Int32) (c_stream_filled : Int32) (c_stream_total : Int32) (c_stream_schedule : Nat → Int32) (c_stream_sums : Nat → Int32) : Option (Int32 × Int32 × (Nat → Int32) × Int32 × Int32 × (Nat → Int32) × (Nat → Int32) × Int32 × Int32 × (Nat → Int32) × (Nat → Int32)) :=
  (f_X9_loggedIn c_state).bind (fun r_1 => if r_1 = 0 then some ((-1 : Int32), c_streamBegun, c_buffer, c_sha_filled, c_sha_total, c_sha_schedule, c_sha_sums, c_stream_filled, c_stream_total, c_stream_schedule, c_stream_sums) else if p1 < 0 then some ((-2 : Int32), c_streamBegun, c_buffer, c_sha_filled, c_sha_total, c_sha_schedule, c_sha_sums, c_stream_filled, c_stream_total, c_stream_schedule, c_stream_sums) else if (2 : Int32) < p1 then some ((-2 : Int32), c_streamBegun, c_buffer, c_sha_filled, c_sha_total, c_sha_schedule, c_sha_sums, c_stream_filled, c_stream_total, c_stream_schedule, c_stream_sums) else zj (fun (_ : Unit) => zj (fun (_ : Unit) => if p1 = 0 then (f_X7_begin c_stream_filled c_stream_total c_stream_sums).bind (fun (c_stream_filled_28, c_stream_total_29, c_stream_sums_30) => some ((0 : Int32), (1 : Int32), c_buffer, c_sha_filled, c_sha_total, c_sha_schedule, c_sha_sums, c_stream_filled_28, c_stream_total_29, c_stream_schedule, c_stream_sums_30)) else if c_streamBegun = 0 then some ((-4 : Int32), c_streamBegun, c_buffer, c_sha_filled, c_sha_total, c_sha_schedule, c_sha_sums, c_stream_filled, c_stream_total, c_stream_schedule, c_stream_sums) else if p1 = (1 : Int32) then (f_X7_take 512 p2 p3 c_stream_filled c_stream_total c_stream_schedule c_stream_sums c_buffer).bind (fun (c_stream_filled_24, c_stream_total_25, c_stream_schedule_26, c_stream_sums_27) => some (p3, c_streamBegun, c_buffer, c_sha_filled, c_sha_total, c_sha_schedule, c_sha_sums, c_stream_filled_24, c_stream_total_25, c_stream_schedule_26, c_stream_sums_27)) else (f_X7_copyFrom c_sha_filled c_sha_total c_sha_schedule c_sha_sums c_stream_filled c_stream_total c_stream_schedule c_stream_sums).bind (fun (c_sha_filled_16, c_sha_total_17, c_sha_schedule_18, c_sha_sums_19) => (f_X7_end 512 p2 c_sha_filled_16 c_sha_total_17 c_sha_schedule_18 c_sha_sums_19 c_buffer).bind (fun (c_sha_filled_20, c_sha_schedule_21, c_sha_sums_22, c_buffer_23) => some ((32 : Int32), c_streamBegun, c_buffer_23, c_sha_filled_20, c_sha_total_17, c_sha_schedule_21, c_sha_sums_22, c_stream_filled, c_stream_total, c_stream_schedule, c_stream_sums)))) (fun K_9 => if p1 = (2 : Int32) then (f_X9_inBuffer p2 (32 : Int32)).bind (fun r_33 => if r_33 = 0 then some ((-2 : Int32), c_streamBegun, c_buffer, c_sha_filled, c_sha_total, c_sha_schedule, c_sha_sums, c_stream_filled, c_stream_total, c_stream_schedule, c_stream_sums) else K_9 ()) else K_9 ())) (fun K_8 => if p1 = (1 : Int32) then (f_X9_inBuffer p2 p3).bind (fun r_38 => if r_38 = 0 then some ((-2 : Int32), c_streamBegun, c_buffer, c_sha_filled, c_sha_total, c_sha_schedule, c_sha_sums, c_stream_filled, c_stream_total, c_stream_schedule, c_stream_sums) else K_8 ()) else K_8 ()))
set_option maxHeartbeats 4000000 in
set_option maxRecDepth 100000 in
theorem c_X9_hashAnswer (l : Launch) (D : va_G) (cy : Nat → ClassId) (tt : Nat → Nat) (sz : Nat) (h0 : Nat) (h0_buffer : Nat) (h0_slots : Nat) (h0_counters : Nat) (h0_officerPin : Nat) (h0_userPin : Nat) (h0_words : Nat) (h0_sha : Nat) (h0_stream : Nat) (h0_aes : Nat) (h0_modes : Nat) (h0_gcm : Nat) (h0_generator : Nat) (h0_tests : Nat) (h0_message : Nat) (h0_secret : Nat) (h0_sha_sums : Nat) (h0_sha_schedule : Nat) (h0_sha_inner : Nat) (h0_stream_sums : Nat) (h0_stream_schedule : Nat) (h0_stream_inner : Nat) (p1 : Int32) (p2 : Int32) (p3 : Int32) (c_state : Int32) (c_streamBegun : Int32) (c_buffer : Nat → Int32) (c_sha_filled : Int32) (c_sha_total : Int32) (c_sha_schedule : Nat → Int32) (c_sha_sums : Nat → Int32) (c_stream_filled : Int32) (c_stream_total : Int32) (c_stream_schedule : Nat → Int32) (c_stream_sums : Nat → Int32) (c_testsDone : Int32) (c_faults : Int32) (r_ : Int32) (c_streamBegun' : Int32) (c_buffer' : Nat → Int32) (c_sha_filled' : Int32) (c_sha_total' : Int32) (c_sha_schedule' : Nat → Int32) (c_sha_sums' : Nat → Int32) (c_stream_filled' : Int32) (c_stream_total' : Int32) (c_stream_schedule' : Nat → Int32) (c_stream_sums' : Nat → Int32) (hf : f_X9_hashAnswer p1 p2 p3 c_state c_streamBegun c_buffer c_sha_filled c_sha_total c_sha_schedule c_sha_sums c_stream_filled c_stream_total c_stream_schedule c_stream_sums = some (r_, c_streamBegun', c_buffer', c_sha_filled', c_sha_total', c_sha_schedule', c_sha_sums', c_stream_filled', c_stream_total', c_stream_schedule', c_stream_sums')) : Met l yX9_hashAnswer wsX9_hashAnswer ({ frames := 3, cells := 0, slots := 0, locals := 85 }) (zPc D cy tt sz [.ref h0, .int p1, .int p2, .int p3] ([(h0, .inr (11, [.ref h0_buffer, .ref h0_slots, .ref h0_counters, .ref h0_officerPin, .ref h0_userPin, .ref h0_words, .ref h0_sha, .ref h0_stream, .ref h0_aes, .ref h0_modes, .ref h0_gcm, .ref h0_generator, .ref h0_tests, .ref h0_message, .ref h0_secret, .int c_state, .int c_testsDone, .int c_faults, .int c_streamBegun])), (h0_buffer, .inl (cy 0, 512, .inl c_buffer)), (h0_sha, .inr (9, [.ref h0_sha_sums, .ref h0_sha_schedule, .ref h0_sha_inner, .int c_sha_filled, .int c_sha_total])), (h0_sha_schedule, .inl (cy 1, 64, .inl c_sha_schedule)), (h0_sha_sums, .inl (cy 1, 8, .inl c_sha_sums)), (h0_stream, .inr (9, [.ref h0_stream_sums, .ref h0_stream_schedule, .ref h0_stream_inner, .int c_stream_filled, .int c_stream_total])), (h0_stream_schedule, .inl (cy 1, 64, .inl c_stream_schedule)), (h0_stream_sums, .inl (cy 1, 8, .inl c_stream_sums))])) (zQ D (some (.int r_)) ([(h0, .inr (11, [.ref h0_buffer, .ref h0_slots, .ref h0_counters, .ref h0_officerPin, .ref h0_userPin, .ref h0_words, .ref h0_sha, .ref h0_stream, .ref h0_aes, .ref h0_modes, .ref h0_gcm, .ref h0_generator, .ref h0_tests, .ref h0_message, .ref h0_secret, .int c_state, .int c_testsDone, .int c_faults, .int c_streamBegun'])), (h0_buffer, .inl (cy 0, 512, .inl c_buffer')), (h0_sha, .inr (9, [.ref h0_sha_sums, .ref h0_sha_schedule, .ref h0_sha_inner, .int c_sha_filled', .int c_sha_total'])), (h0_sha_schedule, .inl (cy 1, 64, .inl c_sha_schedule')), (h0_sha_sums, .inl (cy 1, 8, .inl c_sha_sums')), (h0_stream, .inr (9, [.ref h0_stream_sums, .ref h0_stream_schedule, .ref h0_stream_inner, .int c_stream_filled', .int c_stream_total'])), (h0_stream_schedule, .inl (cy 1, 64, .inl c_stream_schedule')), (h0_stream_sums, .inl (cy 1, 8, .inl c_stream_sums'))]) (va_A ([(h0, .inr (11, [.ref h0_buffer, .ref h0_slots, .ref h0_counters, .ref h0_officerPin, .ref h0_userPin, .ref h0_words, .ref h0_sha, .ref h0_stream, .ref h0_aes, .ref h0_modes, .ref h0_gcm, .ref h0_generator, .ref h0_tests, .ref h0_message, .ref h0_secret, .int c_state, .int c_testsDone, .int c_faults, .int c_streamBegun])), (h0_buffer, .inl (cy 0, 512, .inl c_buffer)), (h0_sha, .inr (9, [.ref h0_sha_sums, .ref h0_sha_schedule, .ref h0_sha_inner, .int c_sha_filled, .int c_sha_total])), (h0_sha_schedule, .inl (cy 1, 64, .inl c_sha_schedule)), (h0_sha_sums, .inl (cy 1, 8, .inl c_sha_sums)), (h0_stream, .inr (9, [.ref h0_stream_sums, .ref h0_stream_schedule, .ref h0_stream_inner, .int c_stream_filled, .int c_stream_total])), (h0_stream_schedule, .inl (cy 1, 64, .inl c_stream_schedule)), (h0_stream_sums, .inl (cy 1, 8, .inl c_stream_sums))]) sz)) 0 0 (va_A ([(h0, .inr (11, [.ref h0_buffer, .ref h0_slots, .ref h0_counters, .ref h0_officerPin, .ref h0_userPin, .ref h0_words, .ref h0_sha, .ref h0_stream, .ref h0_aes, .ref h0_modes, .ref h0_gcm, .ref h0_generator, .ref h0_tests, .ref h0_message, .ref h0_secret, .int c_state, .int c_testsDone, .int c_faults, .int c_streamBegun])), (h0_buffer, .inl (cy 0, 512, .inl c_buffer)), (h0_sha, .inr (9, [.ref h0_sha_sums, .ref h0_sha_schedule, .ref h0_sha_inner, .int c_sha_filled, .int c_sha_total])), (h0_sha_schedule, .inl (cy 1, 64, .inl c_sha_schedule)), (h0_sha_sums, .inl (cy 1, 8, .inl c_sha_sums)), (h0_stream, .inr (9, [.ref h0_stream_sums, .ref h0_stream_schedule, .ref h0_stream_inner, .int c_stream_filled, .int c_stream_total])), (h0_stream_schedule, .inl (cy 1, 64, .inl c_stream_schedule)), (h0_stream_sums, .inl (cy 1, 8, .inl c_stream_sums))]) sz) := by
  refine Met.ofW (cc := cX9_hashAnswer) (maxL := 4) (ret := (some .int)) (by decide) rfl ?_
  intro p e s m args below meth c s₁ B hml hv
  obtain ⟨rfl, rfl, hP, hD0, hE⟩ := hv
  have hx := B.exec
  have hb := B.bytes
  have hr := B.returns
  have hts := atoms_spec (ws := wsX9_hashAnswer) B.pre
  have hown : s.vm.findClass RX9 = some m.cls := findClass_of_methodNamed B.named
  have hlocks := B.notSynchronized
  clear B
  have hD := hD0.self (sz := s.heap.size)
  generalize hAe : va_A ([(h0, .inr (11, [.ref h0_buffer, .ref h0_slots, .ref h0_counters, .ref h0_officerPin, .ref h0_userPin, .ref h0_words, .ref h0_sha, .ref h0_stream, .ref h0_aes, .ref h0_modes, .ref h0_gcm, .ref h0_generator, .ref h0_tests, .ref h0_message, .ref h0_secret, .int c_state, .int c_testsDone, .int c_faults, .int c_streamBegun])), (h0_buffer, .inl (cy 0, 512, .inl c_buffer)), (h0_sha, .inr (9, [.ref h0_sha_sums, .ref h0_sha_schedule, .ref h0_sha_inner, .int c_sha_filled, .int c_sha_total])), (h0_sha_schedule, .inl (cy 1, 64, .inl c_sha_schedule)), (h0_sha_sums, .inl (cy 1, 8, .inl c_sha_sums)), (h0_stream, .inr (9, [.ref h0_stream_sums, .ref h0_stream_schedule, .ref h0_stream_inner, .int c_stream_filled, .int c_stream_total])), (h0_stream_schedule, .inl (cy 1, 64, .inl c_stream_schedule)), (h0_stream_sums, .inl (cy 1, 8, .inl c_stream_sums))]) s.heap.size = A at hD hE ⊢
  have hA : ∀ q : Nat, s.heap.size ≤ q → A q := fun q h => by rw [← hAe]; exact Or.inr h
  clear hAe hD0
  have hS : va_S A s.heap s.heap [] := va_S.rf
  have hK := hE.1
  have hw0 := hts (.fieldLink RX9 111 "SealedModule" "streamBegun" "Z") (by decide +kernel)
  have hw1 := hts (.fieldLink RX9 45 "SealedModule" "sha" "LSealedModule$Sha256;") (by decide +kernel)
  have hw2 := hts (.fieldLink RX9 49 "SealedModule" "stream" "LSealedModule$Sha256;") (by decide +kernel)
  have hw3 := hts (.fieldLink RX9 9 "SealedModule" "buffer" "[B") (by decide +kernel)
  have hcX9 : ∀ w ∈ u_ws RX9 TX9 19, w ∈ wsX9_hashAnswer := (fun _ h => List.mem_cons_of_mem _ (List.mem_append_left _ (List.mem_append_left _ (List.mem_append_right _ h))))
  have hl := lv_entry ([.ref h0, .int p1, .int p2, .int p3]) (n := 4) (Nat.le_of_ble_eq_true rfl)
  rw [lg_entry_eq]
  generalize (lg_sl ([.ref h0, .int p1, .int p2, .int p3]) ++ List.replicate (4 - (lg_sl ([.ref h0, .int p1, .int p2, .int p3])).length) Slot.unset).toArray = ls at hl ⊢
  replace hl : lv_has ls 4 [(0, .ref h0), (1, .int p1), (2, .int p2), (3, .int p3)] := hl
  unfold f_X9_hashAnswer at hf
  refine zgo (fun GW hTo hFr => ?_)
  refine hFr _ _ _ ?_
  obtain ⟨H, hHe⟩ : ∃ H, H = s.heap := ⟨_, rfl⟩
  obtain ⟨locs, hLe⟩ : ∃ L : List Loc, L = [] := ⟨_, rfl⟩
  rw [← hHe] at hP
  replace hS : va_S A s.heap H locs := by rw [hHe, hLe]; exact hS
  refine zat hHe.symm hLe.symm ?_
  clear hHe hLe
  refine lv_aload_n (pc := 0) hx hb (zdt_at zt_X9_hashAnswer_0 0 rfl) rfl (lv_at hl 0 rfl) ?_
  replace hf := zb_s hf
  obtain ⟨r_1, hc_, hf⟩ := hf
  refine zcs (pc := 1) (rv := (some (.int r_1))) (va_runV (As := []) (rest := []) ⟨hx, hb, hml, hown, hts⟩ (c_X9_loggedIn l D cy tt H.size h0 h0_buffer h0_slots h0_counters h0_officerPin h0_userPin h0_words h0_sha h0_stream h0_aes h0_modes h0_gcm h0_generator h0_tests h0_message h0_secret c_state c_testsDone c_faults c_streamBegun r_1 hc_) (cwV 0 hts gX9_hashAnswer_X9_loggedIn rfl rfl rfl (by decide +kernel) ⟨Nat.le_of_ble_eq_true rfl, Nat.le_of_ble_eq_true rfl⟩) ⟨zblind, va_recv hK hP (ci := 11) (q0 := 0) rfl rfl, zpre hE hS (hP.sub [0] rfl) (hD.sub [0] (by decide) rfl) (va_free hD hS hA [0] rfl)⟩ rfl rfl hl.1 rfl (lv_room (Nat.le_of_ble_eq_true rfl)) (zdt_at zt_X9_hashAnswer_0 1 rfl) ⟨Nat.zero_le _, Nat.zero_le _⟩) ?_
  clear hc_
  refine W.eq (g2 := F0 m 4 ls [.int r_1]) rfl ?_
  refine lv_if_ne (pc := 4) (tgt := 9) hx hb (zdt_at zt_X9_hashAnswer_0 2 rfl) (by decide) (fun cn_ => ?t_2) (fun cn_ => ?f_3)
  case f_3 =>
    replace hf := zt_s cn_ hf
    clear cn_
    refine lv_iconst (pc := 7) (v := (-1 : Int32)) hx hb (zdt_at zt_X9_hashAnswer_0 3 rfl) (by decide) ?_
    cases hf
    exact W.iret (pc := 8) hx hb hr (fun t ht hW => ⟨rfl, ⟨by rw [ht]; exact hP, hD⟩, hS.F ht⟩) hS.2.2 (zdt_at zt_X9_hashAnswer_0 4 rfl)
  replace hf := ze_s cn_ hf
  clear cn_
  refine lv_iload_n (pc := 9) hx hb (zdt_at zt_X9_hashAnswer_0 5 rfl) rfl (lv_at hl 1 rfl) ?_
  refine lv_if_lt (pc := 10) (tgt := 45) hx hb (zdt_at zt_X9_hashAnswer_0 6 rfl) (by decide) (fun cn_ => ?t_4) (fun cn_ => ?f_5)
  case t_4 =>
    replace hf := zt_s cn_ hf
    clear cn_
    refine lv_bipush (pc := 45) (v := (-2 : Int32)) hx hb (zdt_at zt_X9_hashAnswer_0 24 rfl) (by decide) ?_
    cases hf
    exact W.iret (pc := 47) hx hb hr (fun t ht hW => ⟨rfl, ⟨by rw [ht]; exact hP, hD⟩, hS.F ht⟩) hS.2.2 (zdt_at zt_X9_hashAnswer_0 25 rfl)
  replace hf := ze_s cn_ hf
  clear cn_
  refine lv_iload_n (pc := 13) hx hb (zdt_at zt_X9_hashAnswer_0 7 rfl) rfl (lv_at hl 1 rfl) ?_
  refine lv_iconst (pc := 14) (v := (2 : Int32)) hx hb (zdt_at zt_X9_hashAnswer_0 8 rfl) (by decide) ?_
  refine lv_icmp_gt (pc := 15) (tgt := 45) hx hb (zdt_at zt_X9_hashAnswer_0 9 rfl) (by decide) (fun cn_ => ?t_6) (fun cn_ => ?f_7)
  case t_6 =>
    replace hf := zt_s cn_ hf
    clear cn_
    refine lv_bipush (pc := 45) (v := (-2 : Int32)) hx hb (zdt_at zt_X9_hashAnswer_0 24 rfl) (by decide) ?_
    cases hf
    exact W.iret (pc := 47) hx hb hr (fun t ht hW => ⟨rfl, ⟨by rw [ht]; exact hP, hD⟩, hS.F ht⟩) hS.2.2 (zdt_at zt_X9_hashAnswer_0 25 rfl)
  replace hf := ze_s cn_ hf
  clear cn_
  refine lv_iload_n (pc := 18) hx hb (zdt_at zt_X9_hashAnswer_0 10 rfl) rfl (lv_at hl 1 rfl) ?_
  refine lv_iconst (pc := 19) (v := (1 : Int32)) hx hb (zdt_at zt_X9_hashAnswer_0 11 rfl) (by decide) ?_
  replace hf := zj_s hf
  obtain ⟨K_8, eK_8, hf⟩ := hf
  have kK_8 : ∀  (H : Heap) (locs : List Loc) (ls : Array Slot), va_P D vwCl ([(h0, .inr (11, [.ref h0_buffer, .ref h0_slots, .ref h0_counters, .ref h0_officerPin, .ref h0_userPin, .ref h0_words, .ref h0_sha, .ref h0_stream, .ref h0_aes, .ref h0_modes, .ref h0_gcm, .ref h0_generator, .ref h0_tests, .ref h0_message, .ref h0_secret, .int c_state, .int c_testsDone, .int c_faults, .int c_streamBegun])), (h0_buffer, .inl (cy 0, 512, .inl c_buffer)), (h0_sha, .inr (9, [.ref h0_sha_sums, .ref h0_sha_schedule, .ref h0_sha_inner, .int c_sha_filled, .int c_sha_total])), (h0_sha_schedule, .inl (cy 1, 64, .inl c_sha_schedule)), (h0_sha_sums, .inl (cy 1, 8, .inl c_sha_sums)), (h0_stream, .inr (9, [.ref h0_stream_sums, .ref h0_stream_schedule, .ref h0_stream_inner, .int c_stream_filled, .int c_stream_total])), (h0_stream_schedule, .inl (cy 1, 64, .inl c_stream_schedule)), (h0_stream_sums, .inl (cy 1, 8, .inl c_stream_sums))]) H → va_D A ([(h0, .inr (11, [.ref h0_buffer, .ref h0_slots, .ref h0_counters, .ref h0_officerPin, .ref h0_userPin, .ref h0_words, .ref h0_sha, .ref h0_stream, .ref h0_aes, .ref h0_modes, .ref h0_gcm, .ref h0_generator, .ref h0_tests, .ref h0_message, .ref h0_secret, .int c_state, .int c_testsDone, .int c_faults, .int c_streamBegun])), (h0_buffer, .inl (cy 0, 512, .inl c_buffer)), (h0_sha, .inr (9, [.ref h0_sha_sums, .ref h0_sha_schedule, .ref h0_sha_inner, .int c_sha_filled, .int c_sha_total])), (h0_sha_schedule, .inl (cy 1, 64, .inl c_sha_schedule)), (h0_sha_sums, .inl (cy 1, 8, .inl c_sha_sums)), (h0_stream, .inr (9, [.ref h0_stream_sums, .ref h0_stream_schedule, .ref h0_stream_inner, .int c_stream_filled, .int c_stream_total])), (h0_stream_schedule, .inl (cy 1, 64, .inl c_stream_schedule)), (h0_stream_sums, .inl (cy 1, 8, .inl c_stream_sums))]) → va_S A s.heap H locs → lv_has ls 4 [(0, .ref h0), (1, .int p1), (2, .int p2), (3, .int p3)] → K_8 () = some (r_, c_streamBegun', c_buffer', c_sha_filled', c_sha_total', c_sha_schedule', c_sha_sums', c_stream_filled', c_stream_total', c_stream_schedule', c_stream_sums') → GW H locs (F0 m 31 ls []) := by
    clear hf hl hP hD hS
    intro  H locs ls hP hD hS hl hf
    rw [eK_8] at hf
    clear eK_8
    refine hFr _ _ _ ?_
    refine lv_iload_n (pc := 31) hx hb (zdt_at zt_X9_hashAnswer_0 17 rfl) rfl (lv_at hl 1 rfl) ?_
    refine lv_iconst (pc := 32) (v := (2 : Int32)) hx hb (zdt_at zt_X9_hashAnswer_0 18 rfl) (by decide) ?_
    replace hf := zj_s hf
    obtain ⟨K_9, eK_9, hf⟩ := hf
    have kK_9 : ∀  (H : Heap) (locs : List Loc) (ls : Array Slot), va_P D vwCl ([(h0, .inr (11, [.ref h0_buffer, .ref h0_slots, .ref h0_counters, .ref h0_officerPin, .ref h0_userPin, .ref h0_words, .ref h0_sha, .ref h0_stream, .ref h0_aes, .ref h0_modes, .ref h0_gcm, .ref h0_generator, .ref h0_tests, .ref h0_message, .ref h0_secret, .int c_state, .int c_testsDone, .int c_faults, .int c_streamBegun])), (h0_buffer, .inl (cy 0, 512, .inl c_buffer)), (h0_sha, .inr (9, [.ref h0_sha_sums, .ref h0_sha_schedule, .ref h0_sha_inner, .int c_sha_filled, .int c_sha_total])), (h0_sha_schedule, .inl (cy 1, 64, .inl c_sha_schedule)), (h0_sha_sums, .inl (cy 1, 8, .inl c_sha_sums)), (h0_stream, .inr (9, [.ref h0_stream_sums, .ref h0_stream_schedule, .ref h0_stream_inner, .int c_stream_filled, .int c_stream_total])), (h0_stream_schedule, .inl (cy 1, 64, .inl c_stream_schedule)), (h0_stream_sums, .inl (cy 1, 8, .inl c_stream_sums))]) H → va_D A ([(h0, .inr (11, [.ref h0_buffer, .ref h0_slots, .ref h0_counters, .ref h0_officerPin, .ref h0_userPin, .ref h0_words, .ref h0_sha, .ref h0_stream, .ref h0_aes, .ref h0_modes, .ref h0_gcm, .ref h0_generator, .ref h0_tests, .ref h0_message, .ref h0_secret, .int c_state, .int c_testsDone, .int c_faults, .int c_streamBegun])), (h0_buffer, .inl (cy 0, 512, .inl c_buffer)), (h0_sha, .inr (9, [.ref h0_sha_sums, .ref h0_sha_schedule, .ref h0_sha_inner, .int c_sha_filled, .int c_sha_total])), (h0_sha_schedule, .inl (cy 1, 64, .inl c_sha_schedule)), (h0_sha_sums, .inl (cy 1, 8, .inl c_sha_sums)), (h0_stream, .inr (9, [.ref h0_stream_sums, .ref h0_stream_schedule, .ref h0_stream_inner, .int c_stream_filled, .int c_stream_total])), (h0_stream_schedule, .inl (cy 1, 64, .inl c_stream_schedule)), (h0_stream_sums, .inl (cy 1, 8, .inl c_stream_sums))]) → va_S A s.heap H locs → lv_has ls 4 [(0, .ref h0), (1, .int p1), (2, .int p2), (3, .int p3)] → K_9 () = some (r_, c_streamBegun', c_buffer', c_sha_filled', c_sha_total', c_sha_schedule', c_sha_sums', c_stream_filled', c_stream_total', c_stream_schedule', c_stream_sums') → GW H locs (F0 m 48 ls []) := by
      clear hf hl hP hD hS
      intro  H locs ls hP hD hS hl hf
      rw [eK_9] at hf
      clear eK_9
      refine hFr _ _ _ ?_
      refine lv_iload_n (pc := 48) hx hb (zdt_at zt_X9_hashAnswer_0 26 rfl) rfl (lv_at hl 1 rfl) ?_
      refine lv_if_ne (pc := 49) (tgt := 66) hx hb (zdt_at zt_X9_hashAnswer_0 27 rfl) (by decide) (fun cn_ => ?t_10) (fun cn_ => ?f_11)
      case f_11 =>
        replace hf := zt_s cn_ hf
        clear cn_
        refine lv_aload_n (pc := 52) hx hb (zdt_at zt_X9_hashAnswer_0 28 rfl) rfl (lv_at hl 0 rfl) ?_
        refine va_get (pc := 53) (D := D) (ci := 11) (v := .ref h0_stream) (C := RX9) (T := TX9) (N := 19) hx hb hts hcX9 hown hK hP 0 rfl rfl 7 (by decide) hw2 (fun _ h9 => h9) rfl (zdt_at zt_X9_hashAnswer_0 29 rfl) ?_
        replace hf := zb_s hf
        obtain ⟨⟨c_stream_filled_28, c_stream_total_29, c_stream_sums_30⟩, hc_, hf⟩ := hf
        refine zcm2 (pc := 56) (rv := none) (va_runV (As := []) (rest := []) ⟨hx, hb, hml, hown, hts⟩ (c_X7_begin l D cy tt H.size h0_stream h0_stream_sums h0_stream_schedule h0_stream_inner c_stream_filled c_stream_total c_stream_sums c_stream_filled_28 c_stream_total_29 c_stream_sums_30 hc_) (cwV 0 hts gX9_hashAnswer_X7_begin rfl rfl rfl (by decide +kernel) ⟨Nat.le_of_ble_eq_true rfl, Nat.le_of_ble_eq_true rfl⟩) ⟨zblind, va_recv hK hP (ci := 9) (q0 := 5) rfl rfl, zpre hE hS (hP.sub [5, 7] rfl) (hD.sub [5, 7] (by decide) rfl) (va_free hD hS hA [5, 7] rfl)⟩ rfl rfl hl.1 rfl (lv_room (Nat.le_of_ble_eq_true rfl)) (zdt_at zt_X9_hashAnswer_0 30 rfl) ⟨Nat.zero_le _, Nat.zero_le _⟩) hS hP hD (va_free hD hS hA [5, 7] rfl) [5, 7] rfl (by decide) rfl ?_
        clear hP hD hS hc_
        intro H locs hP hD hS
        replace hP : va_P D vwCl ([(h0, .inr (11, [.ref h0_buffer, .ref h0_slots, .ref h0_counters, .ref h0_officerPin, .ref h0_userPin, .ref h0_words, .ref h0_sha, .ref h0_stream, .ref h0_aes, .ref h0_modes, .ref h0_gcm, .ref h0_generator, .ref h0_tests, .ref h0_message, .ref h0_secret, .int c_state, .int c_testsDone, .int c_faults, .int c_streamBegun])), (h0_buffer, .inl (cy 0, 512, .inl c_buffer)), (h0_sha, .inr (9, [.ref h0_sha_sums, .ref h0_sha_schedule, .ref h0_sha_inner, .int c_sha_filled, .int c_sha_total])), (h0_sha_schedule, .inl (cy 1, 64, .inl c_sha_schedule)), (h0_sha_sums, .inl (cy 1, 8, .inl c_sha_sums)), (h0_stream, .inr (9, [.ref h0_stream_sums, .ref h0_stream_schedule, .ref h0_stream_inner, .int c_stream_filled_28, .int c_stream_total_29])), (h0_stream_schedule, .inl (cy 1, 64, .inl c_stream_schedule)), (h0_stream_sums, .inl (cy 1, 8, .inl c_stream_sums_30))]) H := hP
        replace hD : va_D A ([(h0, .inr (11, [.ref h0_buffer, .ref h0_slots, .ref h0_counters, .ref h0_officerPin, .ref h0_userPin, .ref h0_words, .ref h0_sha, .ref h0_stream, .ref h0_aes, .ref h0_modes, .ref h0_gcm, .ref h0_generator, .ref h0_tests, .ref h0_message, .ref h0_secret, .int c_state, .int c_testsDone, .int c_faults, .int c_streamBegun])), (h0_buffer, .inl (cy 0, 512, .inl c_buffer)), (h0_sha, .inr (9, [.ref h0_sha_sums, .ref h0_sha_schedule, .ref h0_sha_inner, .int c_sha_filled, .int c_sha_total])), (h0_sha_schedule, .inl (cy 1, 64, .inl c_sha_schedule)), (h0_sha_sums, .inl (cy 1, 8, .inl c_sha_sums)), (h0_stream, .inr (9, [.ref h0_stream_sums, .ref h0_stream_schedule, .ref h0_stream_inner, .int c_stream_filled_28, .int c_stream_total_29])), (h0_stream_schedule, .inl (cy 1, 64, .inl c_stream_schedule)), (h0_stream_sums, .inl (cy 1, 8, .inl c_stream_sums_30))]) := hD
        refine W.eq (g2 := F0 m 59 ls []) rfl ?_
        refine lv_aload_n (pc := 59) hx hb (zdt_at zt_X9_hashAnswer_0 31 rfl) rfl (lv_at hl 0 rfl) ?_
        refine lv_iconst (pc := 60) (v := (1 : Int32)) hx hb (zdt_at zt_X9_hashAnswer_0 32 rfl) (by decide) ?_
        refine va_put (pc := 61) (D := D) (ci := 11) (v := .int (1 : Int32)) (ty := .boolean) (C := RX9) (T := TX9) (N := 19) hx hb hts hcX9 tyX9 tyX9_ok nmX9 hown hK hP hD hS 0 rfl rfl 18 (by decide) hw0 (fun _ h9 => h9) rfl (by decide +kernel) (by first | rfl | decide) (by first | rfl | decide) (Nat.le_of_ble_eq_true rfl) (zdt_at zt_X9_hashAnswer_0 33 rfl) ?_
        clear hP hD hS
        intro H locs hP hD hS
        replace hP : va_P D vwCl ([(h0, .inr (11, [.ref h0_buffer, .ref h0_slots, .ref h0_counters, .ref h0_officerPin, .ref h0_userPin, .ref h0_words, .ref h0_sha, .ref h0_stream, .ref h0_aes, .ref h0_modes, .ref h0_gcm, .ref h0_generator, .ref h0_tests, .ref h0_message, .ref h0_secret, .int c_state, .int c_testsDone, .int c_faults, .int (1 : Int32)])), (h0_buffer, .inl (cy 0, 512, .inl c_buffer)), (h0_sha, .inr (9, [.ref h0_sha_sums, .ref h0_sha_schedule, .ref h0_sha_inner, .int c_sha_filled, .int c_sha_total])), (h0_sha_schedule, .inl (cy 1, 64, .inl c_sha_schedule)), (h0_sha_sums, .inl (cy 1, 8, .inl c_sha_sums)), (h0_stream, .inr (9, [.ref h0_stream_sums, .ref h0_stream_schedule, .ref h0_stream_inner, .int c_stream_filled_28, .int c_stream_total_29])), (h0_stream_schedule, .inl (cy 1, 64, .inl c_stream_schedule)), (h0_stream_sums, .inl (cy 1, 8, .inl c_stream_sums_30))]) H := hP
        replace hD : va_D A ([(h0, .inr (11, [.ref h0_buffer, .ref h0_slots, .ref h0_counters, .ref h0_officerPin, .ref h0_userPin, .ref h0_words, .ref h0_sha, .ref h0_stream, .ref h0_aes, .ref h0_modes, .ref h0_gcm, .ref h0_generator, .ref h0_tests, .ref h0_message, .ref h0_secret, .int c_state, .int c_testsDone, .int c_faults, .int (1 : Int32)])), (h0_buffer, .inl (cy 0, 512, .inl c_buffer)), (h0_sha, .inr (9, [.ref h0_sha_sums, .ref h0_sha_schedule, .ref h0_sha_inner, .int c_sha_filled, .int c_sha_total])), (h0_sha_schedule, .inl (cy 1, 64, .inl c_sha_schedule)), (h0_sha_sums, .inl (cy 1, 8, .inl c_sha_sums)), (h0_stream, .inr (9, [.ref h0_stream_sums, .ref h0_stream_schedule, .ref h0_stream_inner, .int c_stream_filled_28, .int c_stream_total_29])), (h0_stream_schedule, .inl (cy 1, 64, .inl c_stream_schedule)), (h0_stream_sums, .inl (cy 1, 8, .inl c_stream_sums_30))]) := hD
        refine lv_iconst (pc := 64) (v := (0 : Int32)) hx hb (zdt_at zt_X9_hashAnswer_0 34 rfl) (by decide) ?_
        cases hf
        exact W.iret (pc := 65) hx hb hr (fun t ht hW => ⟨rfl, ⟨by rw [ht]; exact hP, hD⟩, hS.F ht⟩) hS.2.2 (zdt_at zt_X9_hashAnswer_0 35 rfl)
      replace hf := ze_s cn_ hf
      clear cn_
      refine lv_aload_n (pc := 66) hx hb (zdt_at zt_X9_hashAnswer_0 36 rfl) rfl (lv_at hl 0 rfl) ?_
      refine va_get (pc := 67) (D := D) (ci := 11) (v := .int c_streamBegun) (C := RX9) (T := TX9) (N := 19) hx hb hts hcX9 hown hK hP 0 rfl rfl 18 (by decide) hw0 (fun _ h9 => h9) rfl (zdt_at zt_X9_hashAnswer_0 37 rfl) ?_
      refine lv_if_ne (pc := 70) (tgt := 76) hx hb (zdt_at zt_X9_hashAnswer_0 38 rfl) (by decide) (fun cn_ => ?t_12) (fun cn_ => ?f_13)
      case f_13 =>
        replace hf := zt_s cn_ hf
        clear cn_
        refine lv_bipush (pc := 73) (v := (-4 : Int32)) hx hb (zdt_at zt_X9_hashAnswer_0 39 rfl) (by decide) ?_
        cases hf
        exact W.iret (pc := 75) hx hb hr (fun t ht hW => ⟨rfl, ⟨by rw [ht]; exact hP, hD⟩, hS.F ht⟩) hS.2.2 (zdt_at zt_X9_hashAnswer_0 40 rfl)
      replace hf := ze_s cn_ hf
      clear cn_
      refine lv_iload_n (pc := 76) hx hb (zdt_at zt_X9_hashAnswer_0 41 rfl) rfl (lv_at hl 1 rfl) ?_
      refine lv_iconst (pc := 77) (v := (1 : Int32)) hx hb (zdt_at zt_X9_hashAnswer_0 42 rfl) (by decide) ?_
      refine lv_icmp_ne (pc := 78) (tgt := 96) hx hb (zdt_at zt_X9_hashAnswer_0 43 rfl) (by decide) (fun cn_ => ?t_14) (fun cn_ => ?f_15)
      case f_15 =>
        replace hf := zt_s cn_ hf
        clear cn_
        refine lv_aload_n (pc := 81) hx hb (zdt_at zt_X9_hashAnswer_0 44 rfl) rfl (lv_at hl 0 rfl) ?_
        refine va_get (pc := 82) (D := D) (ci := 11) (v := .ref h0_stream) (C := RX9) (T := TX9) (N := 19) hx hb hts hcX9 hown hK hP 0 rfl rfl 7 (by decide) hw2 (fun _ h9 => h9) rfl (zdt_at zt_X9_hashAnswer_0 45 rfl) ?_
        refine lv_aload_n (pc := 85) hx hb (zdt_at zt_X9_hashAnswer_0 46 rfl) rfl (lv_at hl 0 rfl) ?_
        refine va_get (pc := 86) (D := D) (ci := 11) (v := .ref h0_buffer) (C := RX9) (T := TX9) (N := 19) hx hb hts hcX9 hown hK hP 0 rfl rfl 0 (by decide) hw3 (fun _ h9 => h9) rfl (zdt_at zt_X9_hashAnswer_0 47 rfl) ?_
        refine lv_iload_n (pc := 89) hx hb (zdt_at zt_X9_hashAnswer_0 48 rfl) rfl (lv_at hl 2 rfl) ?_
        refine lv_iload_n (pc := 90) hx hb (zdt_at zt_X9_hashAnswer_0 49 rfl) rfl (lv_at hl 3 rfl) ?_
        replace hf := zb_s hf
        obtain ⟨⟨c_stream_filled_24, c_stream_total_25, c_stream_schedule_26, c_stream_sums_27⟩, hc_, hf⟩ := hf
        refine zcm2 (pc := 91) (rv := none) (va_runV (As := [.ref h0_buffer, .int p2, .int p3]) (rest := []) ⟨hx, hb, hml, hown, hts⟩ (c_X7_take l D cy tt H.size h0_stream h0_stream_sums h0_stream_schedule h0_stream_inner h0_buffer 512 p2 p3 c_stream_filled c_stream_total c_stream_schedule c_stream_sums c_buffer c_stream_filled_24 c_stream_total_25 c_stream_schedule_26 c_stream_sums_27 hc_) (cwV 3 hts gX9_hashAnswer_X7_take rfl rfl rfl (by decide +kernel) ⟨Nat.le_of_ble_eq_true rfl, Nat.le_of_ble_eq_true rfl⟩) ⟨zblind, va_recv hK hP (ci := 9) (q0 := 5) rfl rfl, zpre hE hS (hP.sub [5, 6, 7, 1] rfl) (hD.sub [5, 6, 7, 1] (by decide) rfl) (va_free hD hS hA [5, 6, 7, 1] rfl)⟩ rfl rfl hl.1 rfl (lv_room (Nat.le_of_ble_eq_true rfl)) (zdt_at zt_X9_hashAnswer_0 50 rfl) ⟨Nat.zero_le _, Nat.zero_le _⟩) hS hP hD (va_free hD hS hA [5, 6, 7, 1] rfl) [5, 6, 7, 1] rfl (by decide) rfl ?_
        clear hP hD hS hc_
        intro H locs hP hD hS
        replace hP : va_P D vwCl ([(h0, .inr (11, [.ref h0_buffer, .ref h0_slots, .ref h0_counters, .ref h0_officerPin, .ref h0_userPin, .ref h0_words, .ref h0_sha, .ref h0_stream, .ref h0_aes, .ref h0_modes, .ref h0_gcm, .ref h0_generator, .ref h0_tests, .ref h0_message, .ref h0_secret, .int c_state, .int c_testsDone, .int c_faults, .int c_streamBegun])), (h0_buffer, .inl (cy 0, 512, .inl c_buffer)), (h0_sha, .inr (9, [.ref h0_sha_sums, .ref h0_sha_schedule, .ref h0_sha_inner, .int c_sha_filled, .int c_sha_total])), (h0_sha_schedule, .inl (cy 1, 64, .inl c_sha_schedule)), (h0_sha_sums, .inl (cy 1, 8, .inl c_sha_sums)), (h0_stream, .inr (9, [.ref h0_stream_sums, .ref h0_stream_schedule, .ref h0_stream_inner, .int c_stream_filled_24, .int c_stream_total_25])), (h0_stream_schedule, .inl (cy 1, 64, .inl c_stream_schedule_26)), (h0_stream_sums, .inl (cy 1, 8, .inl c_stream_sums_27))]) H := hP
        replace hD : va_D A ([(h0, .inr (11, [.ref h0_buffer, .ref h0_slots, .ref h0_counters, .ref h0_officerPin, .ref h0_userPin, .ref h0_words, .ref h0_sha, .ref h0_stream, .ref h0_aes, .ref h0_modes, .ref h0_gcm, .ref h0_generator, .ref h0_tests, .ref h0_message, .ref h0_secret, .int c_state, .int c_testsDone, .int c_faults, .int c_streamBegun])), (h0_buffer, .inl (cy 0, 512, .inl c_buffer)), (h0_sha, .inr (9, [.ref h0_sha_sums, .ref h0_sha_schedule, .ref h0_sha_inner, .int c_sha_filled, .int c_sha_total])), (h0_sha_schedule, .inl (cy 1, 64, .inl c_sha_schedule)), (h0_sha_sums, .inl (cy 1, 8, .inl c_sha_sums)), (h0_stream, .inr (9, [.ref h0_stream_sums, .ref h0_stream_schedule, .ref h0_stream_inner, .int c_stream_filled_24, .int c_stream_total_25])), (h0_stream_schedule, .inl (cy 1, 64, .inl c_stream_schedule_26)), (h0_stream_sums, .inl (cy 1, 8, .inl c_stream_sums_27))]) := hD
        refine W.eq (g2 := F0 m 94 ls []) rfl ?_
        refine lv_iload_n (pc := 94) hx hb (zdt_at zt_X9_hashAnswer_0 51 rfl) rfl (lv_at hl 3 rfl) ?_
        cases hf
        exact W.iret (pc := 95) hx hb hr (fun t ht hW => ⟨rfl, ⟨by rw [ht]; exact hP, hD⟩, hS.F ht⟩) hS.2.2 (zdt_at zt_X9_hashAnswer_0 52 rfl)
      replace hf := ze_s cn_ hf
      clear cn_
      refine lv_aload_n (pc := 96) hx hb (zdt_at zt_X9_hashAnswer_0 53 rfl) rfl (lv_at hl 0 rfl) ?_
      refine va_get (pc := 97) (D := D) (ci := 11) (v := .ref h0_sha) (C := RX9) (T := TX9) (N := 19) hx hb hts hcX9 hown hK hP 0 rfl rfl 6 (by decide) hw1 (fun _ h9 => h9) rfl (zdt_at zt_X9_hashAnswer_0 54 rfl) ?_
      refine lv_aload_n (pc := 100) hx hb (zdt_at zt_X9_hashAnswer_0 55 rfl) rfl (lv_at hl 0 rfl) ?_
      refine va_get (pc := 101) (D := D) (ci := 11) (v := .ref h0_stream) (C := RX9) (T := TX9) (N := 19) hx hb hts hcX9 hown hK hP 0 rfl rfl 7 (by decide) hw2 (fun _ h9 => h9) rfl (zdt_at zt_X9_hashAnswer_0 56 rfl) ?_
      replace hf := zb_s hf
      obtain ⟨⟨c_sha_filled_16, c_sha_total_17, c_sha_schedule_18, c_sha_sums_19⟩, hc_, hf⟩ := hf
      refine zcm2 (pc := 104) (rv := none) (va_runV (As := [.ref h0_stream]) (rest := []) ⟨hx, hb, hml, hown, hts⟩ (c_X7_copyFrom l D cy tt H.size h0_sha h0_sha_sums h0_sha_schedule h0_sha_inner h0_stream h0_stream_sums h0_stream_schedule h0_stream_inner c_sha_filled c_sha_total c_sha_schedule c_sha_sums c_stream_filled c_stream_total c_stream_schedule c_stream_sums c_sha_filled_16 c_sha_total_17 c_sha_schedule_18 c_sha_sums_19 hc_) (cwV 1 hts gX9_hashAnswer_X7_copyFrom rfl rfl rfl (by decide +kernel) ⟨Nat.le_of_ble_eq_true rfl, Nat.le_of_ble_eq_true rfl⟩) ⟨zblind, va_recv hK hP (ci := 9) (q0 := 2) rfl rfl, zpre hE hS (hP.sub [2, 3, 4, 5, 6, 7] rfl) (hD.sub [2, 3, 4, 5, 6, 7] (by decide) rfl) (va_free hD hS hA [2, 3, 4, 5, 6, 7] rfl)⟩ rfl rfl hl.1 rfl (lv_room (Nat.le_of_ble_eq_true rfl)) (zdt_at zt_X9_hashAnswer_0 57 rfl) ⟨Nat.zero_le _, Nat.zero_le _⟩) hS hP hD (va_free hD hS hA [2, 3, 4, 5, 6, 7] rfl) [2, 3, 4, 5, 6, 7] rfl (by decide) rfl ?_
      clear hP hD hS hc_
      intro H locs hP hD hS
      replace hP : va_P D vwCl ([(h0, .inr (11, [.ref h0_buffer, .ref h0_slots, .ref h0_counters, .ref h0_officerPin, .ref h0_userPin, .ref h0_words, .ref h0_sha, .ref h0_stream, .ref h0_aes, .ref h0_modes, .ref h0_gcm, .ref h0_generator, .ref h0_tests, .ref h0_message, .ref h0_secret, .int c_state, .int c_testsDone, .int c_faults, .int c_streamBegun])), (h0_buffer, .inl (cy 0, 512, .inl c_buffer)), (h0_sha, .inr (9, [.ref h0_sha_sums, .ref h0_sha_schedule, .ref h0_sha_inner, .int c_sha_filled_16, .int c_sha_total_17])), (h0_sha_schedule, .inl (cy 1, 64, .inl c_sha_schedule_18)), (h0_sha_sums, .inl (cy 1, 8, .inl c_sha_sums_19)), (h0_stream, .inr (9, [.ref h0_stream_sums, .ref h0_stream_schedule, .ref h0_stream_inner, .int c_stream_filled, .int c_stream_total])), (h0_stream_schedule, .inl (cy 1, 64, .inl c_stream_schedule)), (h0_stream_sums, .inl (cy 1, 8, .inl c_stream_sums))]) H := hP
      replace hD : va_D A ([(h0, .inr (11, [.ref h0_buffer, .ref h0_slots, .ref h0_counters, .ref h0_officerPin, .ref h0_userPin, .ref h0_words, .ref h0_sha, .ref h0_stream, .ref h0_aes, .ref h0_modes, .ref h0_gcm, .ref h0_generator, .ref h0_tests, .ref h0_message, .ref h0_secret, .int c_state, .int c_testsDone, .int c_faults, .int c_streamBegun])), (h0_buffer, .inl (cy 0, 512, .inl c_buffer)), (h0_sha, .inr (9, [.ref h0_sha_sums, .ref h0_sha_schedule, .ref h0_sha_inner, .int c_sha_filled_16, .int c_sha_total_17])), (h0_sha_schedule, .inl (cy 1, 64, .inl c_sha_schedule_18)), (h0_sha_sums, .inl (cy 1, 8, .inl c_sha_sums_19)), (h0_stream, .inr (9, [.ref h0_stream_sums, .ref h0_stream_schedule, .ref h0_stream_inner, .int c_stream_filled, .int c_stream_total])), (h0_stream_schedule, .inl (cy 1, 64, .inl c_stream_schedule)), (h0_stream_sums, .inl (cy 1, 8, .inl c_stream_sums))]) := hD
      refine W.eq (g2 := F0 m 107 ls []) rfl ?_
      refine lv_aload_n (pc := 107) hx hb (zdt_at zt_X9_hashAnswer_0 58 rfl) rfl (lv_at hl 0 rfl) ?_
      refine va_get (pc := 108) (D := D) (ci := 11) (v := .ref h0_sha) (C := RX9) (T := TX9) (N := 19) hx hb hts hcX9 hown hK hP 0 rfl rfl 6 (by decide) hw1 (fun _ h9 => h9) rfl (zdt_at zt_X9_hashAnswer_0 59 rfl) ?_
      refine lv_aload_n (pc := 111) hx hb (zdt_at zt_X9_hashAnswer_0 60 rfl) rfl (lv_at hl 0 rfl) ?_
      refine va_get (pc := 112) (D := D) (ci := 11) (v := .ref h0_buffer) (C := RX9) (T := TX9) (N := 19) hx hb hts hcX9 hown hK hP 0 rfl rfl 0 (by decide) hw3 (fun _ h9 => h9) rfl (zdt_at zt_X9_hashAnswer_0 61 rfl) ?_
      refine lv_iload_n (pc := 115) hx hb (zdt_at zt_X9_hashAnswer_0 62 rfl) rfl (lv_at hl 2 rfl) ?_
      replace hf := zb_s hf
      obtain ⟨⟨c_sha_filled_20, c_sha_schedule_21, c_sha_sums_22, c_buffer_23⟩, hc_, hf⟩ := hf
      refine zcm2 (pc := 116) (rv := none) (va_runV (As := [.ref h0_buffer, .int p2]) (rest := []) ⟨hx, hb, hml, hown, hts⟩ (c_X7_end l D cy tt H.size h0_sha h0_sha_sums h0_sha_schedule h0_sha_inner h0_buffer 512 p2 c_sha_filled_16 c_sha_total_17 c_sha_schedule_18 c_sha_sums_19 c_buffer c_sha_filled_20 c_sha_schedule_21 c_sha_sums_22 c_buffer_23 hc_) (cwV 2 hts gX9_hashAnswer_X7_end rfl rfl rfl (by decide +kernel) ⟨Nat.le_of_ble_eq_true rfl, Nat.le_of_ble_eq_true rfl⟩) ⟨zblind, va_recv hK hP (ci := 9) (q0 := 2) rfl rfl, zpre hE hS (hP.sub [2, 3, 4, 1] rfl) (hD.sub [2, 3, 4, 1] (by decide) rfl) (va_free hD hS hA [2, 3, 4, 1] rfl)⟩ rfl rfl hl.1 rfl (lv_room (Nat.le_of_ble_eq_true rfl)) (zdt_at zt_X9_hashAnswer_0 63 rfl) ⟨Nat.zero_le _, Nat.zero_le _⟩) hS hP hD (va_free hD hS hA [2, 3, 4, 1] rfl) [2, 3, 4, 1] rfl (by decide) rfl ?_
      clear hP hD hS hc_
      intro H locs hP hD hS
      replace hP : va_P D vwCl ([(h0, .inr (11, [.ref h0_buffer, .ref h0_slots, .ref h0_counters, .ref h0_officerPin, .ref h0_userPin, .ref h0_words, .ref h0_sha, .ref h0_stream, .ref h0_aes, .ref h0_modes, .ref h0_gcm, .ref h0_generator, .ref h0_tests, .ref h0_message, .ref h0_secret, .int c_state, .int c_testsDone, .int c_faults, .int c_streamBegun])), (h0_buffer, .inl (cy 0, 512, .inl c_buffer_23)), (h0_sha, .inr (9, [.ref h0_sha_sums, .ref h0_sha_schedule, .ref h0_sha_inner, .int c_sha_filled_20, .int c_sha_total_17])), (h0_sha_schedule, .inl (cy 1, 64, .inl c_sha_schedule_21)), (h0_sha_sums, .inl (cy 1, 8, .inl c_sha_sums_22)), (h0_stream, .inr (9, [.ref h0_stream_sums, .ref h0_stream_schedule, .ref h0_stream_inner, .int c_stream_filled, .int c_stream_total])), (h0_stream_schedule, .inl (cy 1, 64, .inl c_stream_schedule)), (h0_stream_sums, .inl (cy 1, 8, .inl c_stream_sums))]) H := hP
      replace hD : va_D A ([(h0, .inr (11, [.ref h0_buffer, .ref h0_slots, .ref h0_counters, .ref h0_officerPin, .ref h0_userPin, .ref h0_words, .ref h0_sha, .ref h0_stream, .ref h0_aes, .ref h0_modes, .ref h0_gcm, .ref h0_generator, .ref h0_tests, .ref h0_message, .ref h0_secret, .int c_state, .int c_testsDone, .int c_faults, .int c_streamBegun])), (h0_buffer, .inl (cy 0, 512, .inl c_buffer_23)), (h0_sha, .inr (9, [.ref h0_sha_sums, .ref h0_sha_schedule, .ref h0_sha_inner, .int c_sha_filled_20, .int c_sha_total_17])), (h0_sha_schedule, .inl (cy 1, 64, .inl c_sha_schedule_21)), (h0_sha_sums, .inl (cy 1, 8, .inl c_sha_sums_22)), (h0_stream, .inr (9, [.ref h0_stream_sums, .ref h0_stream_schedule, .ref h0_stream_inner, .int c_stream_filled, .int c_stream_total])), (h0_stream_schedule, .inl (cy 1, 64, .inl c_stream_schedule)), (h0_stream_sums, .inl (cy 1, 8, .inl c_stream_sums))]) := hD
      refine W.eq (g2 := F0 m 119 ls []) rfl ?_
      refine lv_bipush (pc := 119) (v := (32 : Int32)) hx hb (zdt_at zt_X9_hashAnswer_1 0 rfl) (by decide) ?_
      cases hf
      exact W.iret (pc := 121) hx hb hr (fun t ht hW => ⟨rfl, ⟨by rw [ht]; exact hP, hD⟩, hS.F ht⟩) hS.2.2 (zdt_at zt_X9_hashAnswer_1 1 rfl)
    clear eK_9
    refine lv_icmp_ne (pc := 33) (tgt := 48) hx hb (zdt_at zt_X9_hashAnswer_0 19 rfl) (by decide) (fun cn_ => ?t_31) (fun cn_ => ?f_32)
    case t_31 =>
      replace hf := ze_s cn_ hf
      clear cn_
      exact hTo _ _ _ (kK_9  H locs ls hP hD hS (lv_sub hl [0, 1, 2, 3] rfl) hf)
    replace hf := zt_s cn_ hf
    clear cn_
    refine lv_iload_n (pc := 36) hx hb (zdt_at zt_X9_hashAnswer_0 20 rfl) rfl (lv_at hl 2 rfl) ?_
    refine lv_bipush (pc := 37) (v := (32 : Int32)) hx hb (zdt_at zt_X9_hashAnswer_0 21 rfl) (by decide) ?_
    replace hf := zb_s hf
    obtain ⟨r_33, hc_, hf⟩ := hf
    refine zcs (pc := 39) (rv := (some (.int r_33))) (va_runS (As := [.int p2, .int (32 : Int32)]) (rest := []) ⟨hx, hb, hml, hown, hts⟩ (c_X9_inBuffer l D cy tt H.size p2 (32 : Int32) r_33 hc_) (va_cwS 2 hts gX9_hashAnswer_X9_inBuffer rfl rfl rfl (by decide +kernel) ⟨Nat.le_of_ble_eq_true rfl, Nat.le_of_ble_eq_true rfl⟩) ⟨zblind, zpre hE hS (hP.sub [] rfl) (hD.sub [] (by decide) rfl) (va_free hD hS hA [] rfl)⟩ rfl rfl hl.1 rfl (lv_room (Nat.le_of_ble_eq_true rfl)) (zdt_at zt_X9_hashAnswer_0 22 rfl) ⟨Nat.zero_le _, Nat.zero_le _⟩) ?_
    clear hc_
    refine W.eq (g2 := F0 m 42 ls [.int r_33]) rfl ?_
    refine lv_if_ne (pc := 42) (tgt := 48) hx hb (zdt_at zt_X9_hashAnswer_0 23 rfl) (by decide) (fun cn_ => ?t_34) (fun cn_ => ?f_35)
    case t_34 =>
      replace hf := ze_s cn_ hf
      clear cn_
      exact hTo _ _ _ (kK_9  H locs ls hP hD hS (lv_sub hl [0, 1, 2, 3] rfl) hf)
    replace hf := zt_s cn_ hf
    clear cn_
    refine lv_bipush (pc := 45) (v := (-2 : Int32)) hx hb (zdt_at zt_X9_hashAnswer_0 24 rfl) (by decide) ?_
    cases hf
    exact W.iret (pc := 47) hx hb hr (fun t ht hW => ⟨rfl, ⟨by rw [ht]; exact hP, hD⟩, hS.F ht⟩) hS.2.2 (zdt_at zt_X9_hashAnswer_0 25 rfl)
  clear eK_8
  refine lv_icmp_ne (pc := 20) (tgt := 31) hx hb (zdt_at zt_X9_hashAnswer_0 12 rfl) (by decide) (fun cn_ => ?t_36) (fun cn_ => ?f_37)
  case t_36 =>
    replace hf := ze_s cn_ hf
    clear cn_
    exact hTo _ _ _ (kK_8  H locs ls hP hD hS (lv_sub hl [0, 1, 2, 3] rfl) hf)
  replace hf := zt_s cn_ hf
  clear cn_
  refine lv_iload_n (pc := 23) hx hb (zdt_at zt_X9_hashAnswer_0 13 rfl) rfl (lv_at hl 2 rfl) ?_
  refine lv_iload_n (pc := 24) hx hb (zdt_at zt_X9_hashAnswer_0 14 rfl) rfl (lv_at hl 3 rfl) ?_
  replace hf := zb_s hf
  obtain ⟨r_38, hc_, hf⟩ := hf
  refine zcs (pc := 25) (rv := (some (.int r_38))) (va_runS (As := [.int p2, .int p3]) (rest := []) ⟨hx, hb, hml, hown, hts⟩ (c_X9_inBuffer l D cy tt H.size p2 p3 r_38 hc_) (va_cwS 2 hts gX9_hashAnswer_X9_inBuffer rfl rfl rfl (by decide +kernel) ⟨Nat.le_of_ble_eq_true rfl, Nat.le_of_ble_eq_true rfl⟩) ⟨zblind, zpre hE hS (hP.sub [] rfl) (hD.sub [] (by decide) rfl) (va_free hD hS hA [] rfl)⟩ rfl rfl hl.1 rfl (lv_room (Nat.le_of_ble_eq_true rfl)) (zdt_at zt_X9_hashAnswer_0 15 rfl) ⟨Nat.zero_le _, Nat.zero_le _⟩) ?_
  clear hc_
  refine W.eq (g2 := F0 m 28 ls [.int r_38]) rfl ?_
  refine lv_if_eq (pc := 28) (tgt := 45) hx hb (zdt_at zt_X9_hashAnswer_0 16 rfl) (by decide) (fun cn_ => ?t_39) (fun cn_ => ?f_40)
  case f_40 =>
    replace hf := ze_s cn_ hf
    clear cn_
    exact hTo _ _ _ (kK_8  H locs ls hP hD hS (lv_sub hl [0, 1, 2, 3] rfl) hf)
  replace hf := zt_s cn_ hf
  clear cn_
  refine lv_bipush (pc := 45) (v := (-2 : Int32)) hx hb (zdt_at zt_X9_hashAnswer_0 24 rfl) (by decide) ?_
  cases hf
  exact W.iret (pc := 47) hx hb hr (fun t ht hW => ⟨rfl, ⟨by rw [ht]; exact hP, hD⟩, hS.F ht⟩) hS.2.2 (zdt_at zt_X9_hashAnswer_0 25 rfl)
def f_X9_hash (p1 : Int32) (p2 : Int32) (p3 : Int32) (c_state : Int32) (c_streamBegun : Int32) (c_buffer : Nat → Int32) (c_counters : Nat → Int32) (c_sha_filled : Int32) (c_sha_total : Int32) (c_sha_schedule : Nat → Int32) (c_sha_sums : Nat → Int32) (c_stream_filled : Int32) (c_stream_total : Int32) (c_stream_schedule : Nat → Int32) (c_stream_sums : Nat → Int32) : Option (Int32 × Int32 × (Nat → Int32) × (Nat → Int32) × Int32 × Int32 × (Nat → Int32) × (Nat → Int32) × Int32 × Int32 × (Nat → Int32) × (Nat → Int32)) :=
  (f_X9_hashAnswer p1 p2 p3 c_state c_streamBegun c_buffer c_sha_filled c_sha_total c_sha_schedule c_sha_sums c_stream_filled c_stream_total c_stream_schedule c_stream_sums).bind (fun (r_1, c_streamBegun_2, c_buffer_3, c_sha_filled_4, c_sha_total_5, c_sha_schedule_6, c_sha_sums_7, c_stream_filled_8, c_stream_total_9, c_stream_schedule_10, c_stream_sums_11) => (f_X9_counted r_1 c_counters).bind (fun (r_12, c_counters_13) => some (r_12, c_streamBegun_2, c_buffer_3, c_counters_13, c_sha_filled_4, c_sha_total_5, c_sha_schedule_6, c_sha_sums_7, c_stream_filled_8, c_stream_total_9, c_stream_schedule_10, c_stream_sums_11)))
set_option maxHeartbeats 4000000 in
set_option maxRecDepth 100000 in
theorem c_X9_hash (l : Launch) (D : va_G) (cy : Nat → ClassId) (tt : Nat → Nat) (sz : Nat) (h0 : Nat) (h0_buffer : Nat) (h0_slots : Nat) (h0_counters : Nat) (h0_officerPin : Nat) (h0_userPin : Nat) (h0_words : Nat) (h0_sha : Nat) (h0_stream : Nat) (h0_aes : Nat) (h0_modes : Nat) (h0_gcm : Nat) (h0_generator : Nat) (h0_tests : Nat) (h0_message : Nat) (h0_secret : Nat) (h0_sha_sums : Nat) (h0_sha_schedule : Nat) (h0_sha_inner : Nat) (h0_stream_sums : Nat) (h0_stream_schedule : Nat) (h0_stream_inner : Nat) (p1 : Int32) (p2 : Int32) (p3 : Int32) (c_state : Int32) (c_streamBegun : Int32) (c_buffer : Nat → Int32) (c_counters : Nat → Int32) (c_sha_filled : Int32) (c_sha_total : Int32) (c_sha_schedule : Nat → Int32) (c_sha_sums : Nat → Int32) (c_stream_filled : Int32) (c_stream_total : Int32) (c_stream_schedule : Nat → Int32) (c_stream_sums : Nat → Int32) (c_testsDone : Int32) (c_faults : Int32) (r_ : Int32) (c_streamBegun' : Int32) (c_buffer' : Nat → Int32) (c_counters' : Nat → Int32) (c_sha_filled' : Int32) (c_sha_total' : Int32) (c_sha_schedule' : Nat → Int32) (c_sha_sums' : Nat → Int32) (c_stream_filled' : Int32) (c_stream_total' : Int32) (c_stream_schedule' : Nat → Int32) (c_stream_sums' : Nat → Int32) (hf : f_X9_hash p1 p2 p3 c_state c_streamBegun c_buffer c_counters c_sha_filled c_sha_total c_sha_schedule c_sha_sums c_stream_filled c_stream_total c_stream_schedule c_stream_sums = some (r_, c_streamBegun', c_buffer', c_counters', c_sha_filled', c_sha_total', c_sha_schedule', c_sha_sums', c_stream_filled', c_stream_total', c_stream_schedule', c_stream_sums')) : Met l yX9_hash wsX9_hash ({ frames := 4, cells := 0, slots := 0, locals := 108 }) (zPc D cy tt sz [.ref h0, .int p1, .int p2, .int p3] ([(h0, .inr (11, [.ref h0_buffer, .ref h0_slots, .ref h0_counters, .ref h0_officerPin, .ref h0_userPin, .ref h0_words, .ref h0_sha, .ref h0_stream, .ref h0_aes, .ref h0_modes, .ref h0_gcm, .ref h0_generator, .ref h0_tests, .ref h0_message, .ref h0_secret, .int c_state, .int c_testsDone, .int c_faults, .int c_streamBegun])), (h0_buffer, .inl (cy 0, 512, .inl c_buffer)), (h0_counters, .inl (cy 1, 3, .inl c_counters)), (h0_sha, .inr (9, [.ref h0_sha_sums, .ref h0_sha_schedule, .ref h0_sha_inner, .int c_sha_filled, .int c_sha_total])), (h0_sha_schedule, .inl (cy 1, 64, .inl c_sha_schedule)), (h0_sha_sums, .inl (cy 1, 8, .inl c_sha_sums)), (h0_stream, .inr (9, [.ref h0_stream_sums, .ref h0_stream_schedule, .ref h0_stream_inner, .int c_stream_filled, .int c_stream_total])), (h0_stream_schedule, .inl (cy 1, 64, .inl c_stream_schedule)), (h0_stream_sums, .inl (cy 1, 8, .inl c_stream_sums))])) (zQ D (some (.int r_)) ([(h0, .inr (11, [.ref h0_buffer, .ref h0_slots, .ref h0_counters, .ref h0_officerPin, .ref h0_userPin, .ref h0_words, .ref h0_sha, .ref h0_stream, .ref h0_aes, .ref h0_modes, .ref h0_gcm, .ref h0_generator, .ref h0_tests, .ref h0_message, .ref h0_secret, .int c_state, .int c_testsDone, .int c_faults, .int c_streamBegun'])), (h0_buffer, .inl (cy 0, 512, .inl c_buffer')), (h0_counters, .inl (cy 1, 3, .inl c_counters')), (h0_sha, .inr (9, [.ref h0_sha_sums, .ref h0_sha_schedule, .ref h0_sha_inner, .int c_sha_filled', .int c_sha_total'])), (h0_sha_schedule, .inl (cy 1, 64, .inl c_sha_schedule')), (h0_sha_sums, .inl (cy 1, 8, .inl c_sha_sums')), (h0_stream, .inr (9, [.ref h0_stream_sums, .ref h0_stream_schedule, .ref h0_stream_inner, .int c_stream_filled', .int c_stream_total'])), (h0_stream_schedule, .inl (cy 1, 64, .inl c_stream_schedule')), (h0_stream_sums, .inl (cy 1, 8, .inl c_stream_sums'))]) (va_A ([(h0, .inr (11, [.ref h0_buffer, .ref h0_slots, .ref h0_counters, .ref h0_officerPin, .ref h0_userPin, .ref h0_words, .ref h0_sha, .ref h0_stream, .ref h0_aes, .ref h0_modes, .ref h0_gcm, .ref h0_generator, .ref h0_tests, .ref h0_message, .ref h0_secret, .int c_state, .int c_testsDone, .int c_faults, .int c_streamBegun])), (h0_buffer, .inl (cy 0, 512, .inl c_buffer)), (h0_counters, .inl (cy 1, 3, .inl c_counters)), (h0_sha, .inr (9, [.ref h0_sha_sums, .ref h0_sha_schedule, .ref h0_sha_inner, .int c_sha_filled, .int c_sha_total])), (h0_sha_schedule, .inl (cy 1, 64, .inl c_sha_schedule)), (h0_sha_sums, .inl (cy 1, 8, .inl c_sha_sums)), (h0_stream, .inr (9, [.ref h0_stream_sums, .ref h0_stream_schedule, .ref h0_stream_inner, .int c_stream_filled, .int c_stream_total])), (h0_stream_schedule, .inl (cy 1, 64, .inl c_stream_schedule)), (h0_stream_sums, .inl (cy 1, 8, .inl c_stream_sums))]) sz)) 0 0 (va_A ([(h0, .inr (11, [.ref h0_buffer, .ref h0_slots, .ref h0_counters, .ref h0_officerPin, .ref h0_userPin, .ref h0_words, .ref h0_sha, .ref h0_stream, .ref h0_aes, .ref h0_modes, .ref h0_gcm, .ref h0_generator, .ref h0_tests, .ref h0_message, .ref h0_secret, .int c_state, .int c_testsDone, .int c_faults, .int c_streamBegun])), (h0_buffer, .inl (cy 0, 512, .inl c_buffer)), (h0_counters, .inl (cy 1, 3, .inl c_counters)), (h0_sha, .inr (9, [.ref h0_sha_sums, .ref h0_sha_schedule, .ref h0_sha_inner, .int c_sha_filled, .int c_sha_total])), (h0_sha_schedule, .inl (cy 1, 64, .inl c_sha_schedule)), (h0_sha_sums, .inl (cy 1, 8, .inl c_sha_sums)), (h0_stream, .inr (9, [.ref h0_stream_sums, .ref h0_stream_schedule, .ref h0_stream_inner, .int c_stream_filled, .int c_stream_total])), (h0_stream_schedule, .inl (cy 1, 64, .inl c_stream_schedule)), (h0_stream_sums, .inl (cy 1, 8, .inl c_stream_sums))]) sz) := by
  refine Met.ofW (cc := cX9_hash) (maxL := 4) (ret := (some .int)) (by decide) rfl ?_
  intro p e s m args below meth c s₁ B hml hv
  obtain ⟨rfl, rfl, hP, hD0, hE⟩ := hv
  have hx := B.exec
  have hb := B.bytes
  have hr := B.returns
  have hts := atoms_spec (ws := wsX9_hash) B.pre
  have hown : s.vm.findClass RX9 = some m.cls := findClass_of_methodNamed B.named
  have hlocks := B.notSynchronized
  clear B
  have hD := hD0.self (sz := s.heap.size)
  generalize hAe : va_A ([(h0, .inr (11, [.ref h0_buffer, .ref h0_slots, .ref h0_counters, .ref h0_officerPin, .ref h0_userPin, .ref h0_words, .ref h0_sha, .ref h0_stream, .ref h0_aes, .ref h0_modes, .ref h0_gcm, .ref h0_generator, .ref h0_tests, .ref h0_message, .ref h0_secret, .int c_state, .int c_testsDone, .int c_faults, .int c_streamBegun])), (h0_buffer, .inl (cy 0, 512, .inl c_buffer)), (h0_counters, .inl (cy 1, 3, .inl c_counters)), (h0_sha, .inr (9, [.ref h0_sha_sums, .ref h0_sha_schedule, .ref h0_sha_inner, .int c_sha_filled, .int c_sha_total])), (h0_sha_schedule, .inl (cy 1, 64, .inl c_sha_schedule)), (h0_sha_sums, .inl (cy 1, 8, .inl c_sha_sums)), (h0_stream, .inr (9, [.ref h0_stream_sums, .ref h0_stream_schedule, .ref h0_stream_inner, .int c_stream_filled, .int c_stream_total])), (h0_stream_schedule, .inl (cy 1, 64, .inl c_stream_schedule)), (h0_stream_sums, .inl (cy 1, 8, .inl c_stream_sums))]) s.heap.size = A at hD hE ⊢
  have hA : ∀ q : Nat, s.heap.size ≤ q → A q := fun q h => by rw [← hAe]; exact Or.inr h
  clear hAe hD0
  have hS : va_S A s.heap s.heap [] := va_S.rf
  have hK := hE.1
  have hl := lv_entry ([.ref h0, .int p1, .int p2, .int p3]) (n := 4) (Nat.le_of_ble_eq_true rfl)
  rw [lg_entry_eq]
  generalize (lg_sl ([.ref h0, .int p1, .int p2, .int p3]) ++ List.replicate (4 - (lg_sl ([.ref h0, .int p1, .int p2, .int p3])).length) Slot.unset).toArray = ls at hl ⊢
  replace hl : lv_has ls 4 [(0, .ref h0), (1, .int p1), (2, .int p2), (3, .int p3)] := hl
  unfold f_X9_hash at hf
  refine zgo (fun GW hTo hFr => ?_)
  refine hFr _ _ _ ?_
  obtain ⟨H, hHe⟩ : ∃ H, H = s.heap := ⟨_, rfl⟩
  obtain ⟨locs, hLe⟩ : ∃ L : List Loc, L = [] := ⟨_, rfl⟩
  rw [← hHe] at hP
  replace hS : va_S A s.heap H locs := by rw [hHe, hLe]; exact hS
  refine zat hHe.symm hLe.symm ?_
  clear hHe hLe
  refine lv_aload_n (pc := 0) hx hb (zdt_at zt_X9_hash_0 0 rfl) rfl (lv_at hl 0 rfl) ?_
  refine lv_aload_n (pc := 1) hx hb (zdt_at zt_X9_hash_0 1 rfl) rfl (lv_at hl 0 rfl) ?_
  refine lv_iload_n (pc := 2) hx hb (zdt_at zt_X9_hash_0 2 rfl) rfl (lv_at hl 1 rfl) ?_
  refine lv_iload_n (pc := 3) hx hb (zdt_at zt_X9_hash_0 3 rfl) rfl (lv_at hl 2 rfl) ?_
  refine lv_iload_n (pc := 4) hx hb (zdt_at zt_X9_hash_0 4 rfl) rfl (lv_at hl 3 rfl) ?_
  replace hf := zb_s hf
  obtain ⟨⟨r_1, c_streamBegun_2, c_buffer_3, c_sha_filled_4, c_sha_total_5, c_sha_schedule_6, c_sha_sums_7, c_stream_filled_8, c_stream_total_9, c_stream_schedule_10, c_stream_sums_11⟩, hc_, hf⟩ := hf
  refine zcm2 (pc := 5) (rv := (some (.int r_1))) (va_runV (As := [.int p1, .int p2, .int p3]) (rest := [.ref h0]) ⟨hx, hb, hml, hown, hts⟩ (c_X9_hashAnswer l D cy tt H.size h0 h0_buffer h0_slots h0_counters h0_officerPin h0_userPin h0_words h0_sha h0_stream h0_aes h0_modes h0_gcm h0_generator h0_tests h0_message h0_secret h0_sha_sums h0_sha_schedule h0_sha_inner h0_stream_sums h0_stream_schedule h0_stream_inner p1 p2 p3 c_state c_streamBegun c_buffer c_sha_filled c_sha_total c_sha_schedule c_sha_sums c_stream_filled c_stream_total c_stream_schedule c_stream_sums c_testsDone c_faults r_1 c_streamBegun_2 c_buffer_3 c_sha_filled_4 c_sha_total_5 c_sha_schedule_6 c_sha_sums_7 c_stream_filled_8 c_stream_total_9 c_stream_schedule_10 c_stream_sums_11 hc_) (cwV 3 hts gX9_hash_X9_hashAnswer rfl rfl rfl (by decide +kernel) ⟨Nat.le_of_ble_eq_true rfl, Nat.le_of_ble_eq_true rfl⟩) ⟨zblind, va_recv hK hP (ci := 11) (q0 := 0) rfl rfl, zpre hE hS (hP.sub [0, 1, 3, 4, 5, 6, 7, 8] rfl) (hD.sub [0, 1, 3, 4, 5, 6, 7, 8] (by decide) rfl) (va_free hD hS hA [0, 1, 3, 4, 5, 6, 7, 8] rfl)⟩ rfl rfl hl.1 rfl (lv_room (Nat.le_of_ble_eq_true rfl)) (zdt_at zt_X9_hash_0 5 rfl) ⟨Nat.zero_le _, Nat.zero_le _⟩) hS hP hD (va_free hD hS hA [0, 1, 3, 4, 5, 6, 7, 8] rfl) [0, 1, 3, 4, 5, 6, 7, 8] rfl (by decide) rfl ?_
  clear hP hD hS hc_
  intro H locs hP hD hS
  replace hP : va_P D vwCl ([(h0, .inr (11, [.ref h0_buffer, .ref h0_slots, .ref h0_counters, .ref h0_officerPin, .ref h0_userPin, .ref h0_words, .ref h0_sha, .ref h0_stream, .ref h0_aes, .ref h0_modes, .ref h0_gcm, .ref h0_generator, .ref h0_tests, .ref h0_message, .ref h0_secret, .int c_state, .int c_testsDone, .int c_faults, .int c_streamBegun_2])), (h0_buffer, .inl (cy 0, 512, .inl c_buffer_3)), (h0_counters, .inl (cy 1, 3, .inl c_counters)), (h0_sha, .inr (9, [.ref h0_sha_sums, .ref h0_sha_schedule, .ref h0_sha_inner, .int c_sha_filled_4, .int c_sha_total_5])), (h0_sha_schedule, .inl (cy 1, 64, .inl c_sha_schedule_6)), (h0_sha_sums, .inl (cy 1, 8, .inl c_sha_sums_7)), (h0_stream, .inr (9, [.ref h0_stream_sums, .ref h0_stream_schedule, .ref h0_stream_inner, .int c_stream_filled_8, .int c_stream_total_9])), (h0_stream_schedule, .inl (cy 1, 64, .inl c_stream_schedule_10)), (h0_stream_sums, .inl (cy 1, 8, .inl c_stream_sums_11))]) H := hP
  replace hD : va_D A ([(h0, .inr (11, [.ref h0_buffer, .ref h0_slots, .ref h0_counters, .ref h0_officerPin, .ref h0_userPin, .ref h0_words, .ref h0_sha, .ref h0_stream, .ref h0_aes, .ref h0_modes, .ref h0_gcm, .ref h0_generator, .ref h0_tests, .ref h0_message, .ref h0_secret, .int c_state, .int c_testsDone, .int c_faults, .int c_streamBegun_2])), (h0_buffer, .inl (cy 0, 512, .inl c_buffer_3)), (h0_counters, .inl (cy 1, 3, .inl c_counters)), (h0_sha, .inr (9, [.ref h0_sha_sums, .ref h0_sha_schedule, .ref h0_sha_inner, .int c_sha_filled_4, .int c_sha_total_5])), (h0_sha_schedule, .inl (cy 1, 64, .inl c_sha_schedule_6)), (h0_sha_sums, .inl (cy 1, 8, .inl c_sha_sums_7)), (h0_stream, .inr (9, [.ref h0_stream_sums, .ref h0_stream_schedule, .ref h0_stream_inner, .int c_stream_filled_8, .int c_stream_total_9])), (h0_stream_schedule, .inl (cy 1, 64, .inl c_stream_schedule_10)), (h0_stream_sums, .inl (cy 1, 8, .inl c_stream_sums_11))]) := hD
  refine W.eq (g2 := F0 m 8 ls [.int r_1, .ref h0]) rfl ?_
  replace hf := zb_s hf
  obtain ⟨⟨r_12, c_counters_13⟩, hc_, hf⟩ := hf
  refine zcm2 (pc := 8) (rv := (some (.int r_12))) (va_runV (As := [.int r_1]) (rest := []) ⟨hx, hb, hml, hown, hts⟩ (c_X9_counted l D cy tt H.size h0 h0_buffer h0_slots h0_counters h0_officerPin h0_userPin h0_words h0_sha h0_stream h0_aes h0_modes h0_gcm h0_generator h0_tests h0_message h0_secret r_1 c_counters c_state c_testsDone c_faults c_streamBegun_2 r_12 c_counters_13 hc_) (cwV 1 hts gX9_hash_X9_counted rfl rfl rfl (by decide +kernel) ⟨Nat.le_of_ble_eq_true rfl, Nat.le_of_ble_eq_true rfl⟩) ⟨zblind, va_recv hK hP (ci := 11) (q0 := 0) rfl rfl, zpre hE hS (hP.sub [0, 2] rfl) (hD.sub [0, 2] (by decide) rfl) (va_free hD hS hA [0, 2] rfl)⟩ rfl rfl hl.1 rfl (lv_room (Nat.le_of_ble_eq_true rfl)) (zdt_at zt_X9_hash_0 6 rfl) ⟨Nat.zero_le _, Nat.zero_le _⟩) hS hP hD (va_free hD hS hA [0, 2] rfl) [0, 2] rfl (by decide) rfl ?_
  clear hP hD hS hc_
  intro H locs hP hD hS
  replace hP : va_P D vwCl ([(h0, .inr (11, [.ref h0_buffer, .ref h0_slots, .ref h0_counters, .ref h0_officerPin, .ref h0_userPin, .ref h0_words, .ref h0_sha, .ref h0_stream, .ref h0_aes, .ref h0_modes, .ref h0_gcm, .ref h0_generator, .ref h0_tests, .ref h0_message, .ref h0_secret, .int c_state, .int c_testsDone, .int c_faults, .int c_streamBegun_2])), (h0_buffer, .inl (cy 0, 512, .inl c_buffer_3)), (h0_counters, .inl (cy 1, 3, .inl c_counters_13)), (h0_sha, .inr (9, [.ref h0_sha_sums, .ref h0_sha_schedule, .ref h0_sha_inner, .int c_sha_filled_4, .int c_sha_total_5])), (h0_sha_schedule, .inl (cy 1, 64, .inl c_sha_schedule_6)), (h0_sha_sums, .inl (cy 1, 8, .inl c_sha_sums_7)), (h0_stream, .inr (9, [.ref h0_stream_sums, .ref h0_stream_schedule, .ref h0_stream_inner, .int c_stream_filled_8, .int c_stream_total_9])), (h0_stream_schedule, .inl (cy 1, 64, .inl c_stream_schedule_10)), (h0_stream_sums, .inl (cy 1, 8, .inl c_stream_sums_11))]) H := hP
  replace hD : va_D A ([(h0, .inr (11, [.ref h0_buffer, .ref h0_slots, .ref h0_counters, .ref h0_officerPin, .ref h0_userPin, .ref h0_words, .ref h0_sha, .ref h0_stream, .ref h0_aes, .ref h0_modes, .ref h0_gcm, .ref h0_generator, .ref h0_tests, .ref h0_message, .ref h0_secret, .int c_state, .int c_testsDone, .int c_faults, .int c_streamBegun_2])), (h0_buffer, .inl (cy 0, 512, .inl c_buffer_3)), (h0_counters, .inl (cy 1, 3, .inl c_counters_13)), (h0_sha, .inr (9, [.ref h0_sha_sums, .ref h0_sha_schedule, .ref h0_sha_inner, .int c_sha_filled_4, .int c_sha_total_5])), (h0_sha_schedule, .inl (cy 1, 64, .inl c_sha_schedule_6)), (h0_sha_sums, .inl (cy 1, 8, .inl c_sha_sums_7)), (h0_stream, .inr (9, [.ref h0_stream_sums, .ref h0_stream_schedule, .ref h0_stream_inner, .int c_stream_filled_8, .int c_stream_total_9])), (h0_stream_schedule, .inl (cy 1, 64, .inl c_stream_schedule_10)), (h0_stream_sums, .inl (cy 1, 8, .inl c_stream_sums_11))]) := hD
  refine W.eq (g2 := F0 m 11 ls [.int r_12]) rfl ?_
  cases hf
  exact W.iret (pc := 11) hx hb hr (fun t ht hW => ⟨rfl, ⟨by rw [ht]; exact hP, hD⟩, hS.F ht⟩) hS.2.2 (zdt_at zt_X9_hash_0 7 rfl)
def f_X9_counter (p1 : Int32) (c_counters : Nat → Int32) : Option (Int32) :=
  if p1 < 0 then none else if p1 < (3 : Int32) then zk (¬ (p1 < 0 ∨ 3 ≤ p1.toNatClampNeg)) (some (c_counters p1.toNatClampNeg)) else none
set_option maxHeartbeats 4000000 in
set_option maxRecDepth 100000 in
theorem c_X9_counter (l : Launch) (D : va_G) (cy : Nat → ClassId) (tt : Nat → Nat) (sz : Nat) (h0 : Nat) (h0_buffer : Nat) (h0_slots : Nat) (h0_counters : Nat) (h0_officerPin : Nat) (h0_userPin : Nat) (h0_words : Nat) (h0_sha : Nat) (h0_stream : Nat) (h0_aes : Nat) (h0_modes : Nat) (h0_gcm : Nat) (h0_generator : Nat) (h0_tests : Nat) (h0_message : Nat) (h0_secret : Nat) (p1 : Int32) (c_counters : Nat → Int32) (c_state : Int32) (c_testsDone : Int32) (c_faults : Int32) (c_streamBegun : Int32) (r_ : Int32) (hf : f_X9_counter p1 c_counters = some r_) : Met l yX9_counter wsX9_counter ({ frames := 0, cells := 0, slots := 0, locals := 0 }) (zPc D cy tt sz [.ref h0, .int p1] ([(h0, .inr (11, [.ref h0_buffer, .ref h0_slots, .ref h0_counters, .ref h0_officerPin, .ref h0_userPin, .ref h0_words, .ref h0_sha, .ref h0_stream, .ref h0_aes, .ref h0_modes, .ref h0_gcm, .ref h0_generator, .ref h0_tests, .ref h0_message, .ref h0_secret, .int c_state, .int c_testsDone, .int c_faults, .int c_streamBegun])), (h0_counters, .inl (cy 1, 3, .inl c_counters))])) (fun _ st o t => o = .returned (some (.int r_)) ∧ t.heap = st.heap) 0 0 (fun _ => False) := by
  refine Met.ofW (cc := cX9_counter) (maxL := 2) (ret := (some .int)) (by decide) rfl ?_
  intro p e s m args below meth c s₁ B hml hv
  obtain ⟨rfl, rfl, hP, hD0, hE⟩ := hv
  have hx := B.exec
  have hb := B.bytes
  have hr := B.returns
  have hts := atoms_spec (ws := wsX9_counter) B.pre
  have hown : s.vm.findClass RX9 = some m.cls := findClass_of_methodNamed B.named
  have hlocks := B.notSynchronized
  clear B
  have hD := hD0.self (sz := s.heap.size)
  generalize hAe : va_A ([(h0, .inr (11, [.ref h0_buffer, .ref h0_slots, .ref h0_counters, .ref h0_officerPin, .ref h0_userPin, .ref h0_words, .ref h0_sha, .ref h0_stream, .ref h0_aes, .ref h0_modes, .ref h0_gcm, .ref h0_generator, .ref h0_tests, .ref h0_message, .ref h0_secret, .int c_state, .int c_testsDone, .int c_faults, .int c_streamBegun])), (h0_counters, .inl (cy 1, 3, .inl c_counters))]) s.heap.size = A at hD hE
  have hA : ∀ q : Nat, s.heap.size ≤ q → A q := fun q h => by rw [← hAe]; exact Or.inr h
  clear hAe hD0
  have hS : va_S A s.heap s.heap [] := va_S.rf
  have hK := hE.1
  have hw0 := hts (.fieldLink RX9 19 "SealedModule" "counters" "[I") (by decide +kernel)
  have hcX9 : ∀ w ∈ u_ws RX9 TX9 19, w ∈ wsX9_counter := (fun _ h => List.mem_cons_of_mem _ (List.mem_append_left _ (List.mem_append_right _ h)))
  have hl := lv_entry ([.ref h0, .int p1]) (n := 2) (Nat.le_of_ble_eq_true rfl)
  rw [lg_entry_eq]
  generalize (lg_sl ([.ref h0, .int p1]) ++ List.replicate (2 - (lg_sl ([.ref h0, .int p1])).length) Slot.unset).toArray = ls at hl ⊢
  replace hl : lv_has ls 2 [(0, .ref h0), (1, .int p1)] := hl
  unfold f_X9_counter at hf
  refine zgo (fun GW hTo hFr => ?_)
  refine hFr _ _ _ ?_
  refine lv_iload_n (pc := 0) hx hb (zdt_at zt_X9_counter_0 0 rfl) rfl (lv_at hl 1 rfl) ?_
  refine lv_if_lt (pc := 1) (tgt := 13) hx hb (zdt_at zt_X9_counter_0 1 rfl) (by decide) (fun cn_ => ?t_1) (fun cn_ => ?f_2)
  case t_1 =>
    replace hf := zt_s cn_ hf
    clear cn_
    exact absurd hf (by simp)
  replace hf := ze_s cn_ hf
  clear cn_
  refine lv_iload_n (pc := 4) hx hb (zdt_at zt_X9_counter_0 2 rfl) rfl (lv_at hl 1 rfl) ?_
  refine lv_aload_n (pc := 5) hx hb (zdt_at zt_X9_counter_0 3 rfl) rfl (lv_at hl 0 rfl) ?_
  refine va_get (pc := 6) (D := D) (ci := 11) (v := .ref h0_counters) (C := RX9) (T := TX9) (N := 19) hx hb hts hcX9 hown hK hP 0 rfl rfl 2 (by decide) hw0 (fun _ h9 => h9) rfl (zdt_at zt_X9_counter_0 4 rfl) ?_
  refine va_alen (pc := 9) hx hb hK hP 1 1 rfl rfl (v := (3 : Int32)) rfl (zdt_at zt_X9_counter_0 5 rfl) ?_
  refine lv_icmp_lt (pc := 10) (tgt := 24) hx hb (zdt_at zt_X9_counter_0 6 rfl) (by decide) (fun cn_ => ?t_3) (fun cn_ => ?f_4)
  case f_4 =>
    replace hf := ze_s cn_ hf
    clear cn_
    exact absurd hf (by simp)
  replace hf := zt_s cn_ hf
  clear cn_
  refine lv_aload_n (pc := 24) hx hb (zdt_at zt_X9_counter_0 12 rfl) rfl (lv_at hl 0 rfl) ?_
  refine va_get (pc := 25) (D := D) (ci := 11) (v := .ref h0_counters) (C := RX9) (T := TX9) (N := 19) hx hb hts hcX9 hown hK hP 0 rfl rfl 2 (by decide) hw0 (fun _ h9 => h9) rfl (zdt_at zt_X9_counter_0 13 rfl) ?_
  refine lv_iload_n (pc := 28) hx hb (zdt_at zt_X9_counter_0 14 rfl) rfl (lv_at hl 1 rfl) ?_
  replace hf := zk_s hf
  refine va_iald (pc := 29) hx hb hK hP 1 1 rfl rfl hf.1 (zdt_at zt_X9_counter_0 15 rfl) ?_
  replace hf := hf.2
  cases hf
  exact W.iret (pc := 30) hx hb hr (fun t ht hW => ⟨rfl, ht⟩) (fun _ h => nomatch h) (zdt_at zt_X9_counter_0 16 rfl)
def b_X9_alike_0PK_6 (n_a2 : Nat) (j0 : Nat) (p1 : Int32) (p3 : Int32) (p4 : Int32) (ca2 : Nat → Int32) (cPK : Nat → Nat → Int32) (K_4 : Int32 → Option Int32) (self_7 : (Int32 × Int32) → Option Int32) (z : Int32 × Int32) : Option Int32 :=
  match z with
  | (i_1, i_2) => if p4 ≤ i_2 then K_4 i_1 else zk (¬ ((p1 + i_2) < 0 ∨ 64 ≤ (p1 + i_2).toNatClampNeg)) (zk (¬ ((p3 + i_2) < 0 ∨ n_a2 ≤ (p3 + i_2).toNatClampNeg)) (zn ((i_1 ||| ((cPK j0 (p1 + i_2).toNatClampNeg) ^^^ (ca2 (p3 + i_2).toNatClampNeg))) : Int32) (fun x_10 => self_7 (x_10, (i_2 + (1 : Int32))))))
def f_X9_alike_0PK (n_a2 : Nat) (j0 : Nat) (p1 : Int32) (p3 : Int32) (p4 : Int32) (ca2 : Nat → Int32) (cPK : Nat → Nat → Int32) : Option (Int32) :=
  zj (fun (v_3 : Int32) => if v_3 = 0 then some (1 : Int32) else some (0 : Int32)) (fun K_4 => zl (b_X9_alike_0PK_6 n_a2 j0 p1 p3 p4 ca2 cPK K_4) 2000 ((0 : Int32), (0 : Int32)))
set_option maxHeartbeats 4000000 in
set_option maxRecDepth 100000 in
theorem c_X9_alike_0PK (l : Launch) (D : va_G) (cy : Nat → ClassId) (tt : Nat → Nat) (sz : Nat) (ha2 : Nat) (hP_o : Nat → Nat) (hP_k : Nat → Nat) (n_a2 : Nat) (j0 : Nat) (p1 : Int32) (p3 : Int32) (p4 : Int32) (ca2 : Nat → Int32) (cPK : Nat → Nat → Int32) (cP_kind : Nat → Int32) (cP_length : Nat → Int32) (cP_usage : Nat → Int32) (cP_role : Nat → Int32) (cP_uses : Nat → Int32) (r_ : Int32) (hj_j0 : j0 < 16) (hf : f_X9_alike_0PK n_a2 j0 p1 p3 p4 ca2 cPK = some r_) : Met l yX9_alike wsX9_alike ({ frames := 0, cells := 0, slots := 0, locals := 0 }) (zPc D cy tt sz [.ref (hP_k j0), .int p1, .ref ha2, .int p3, .int p4] ([(ha2, .inl (cy 0, n_a2, .inl ca2))] ++ zpO hP_o hP_k cP_kind cP_length cP_usage cP_role cP_uses ++ zpK (cy 0) hP_k cPK)) (fun _ st o t => o = .returned (some (.int r_)) ∧ t.heap = st.heap) 0 0 (fun _ => False) := by
  refine Met.ofW (cc := cX9_alike) (maxL := 7) (ret := (some .boolean)) (by decide) rfl ?_
  intro p e s m args below meth c s₁ B hml hv
  obtain ⟨rfl, rfl, hP, hD0, hE⟩ := hv
  have hx := B.exec
  have hb := B.bytes
  have hr := B.returns
  have hts := atoms_spec (ws := wsX9_alike) B.pre
  have hown : s.vm.findClass RX9 = some m.cls := findClass_of_methodNamed B.named
  have hlocks := B.notSynchronized
  clear B
  have hD := hD0.self (sz := s.heap.size)
  generalize hAe : va_A ([(ha2, .inl (cy 0, n_a2, .inl ca2))] ++ zpO hP_o hP_k cP_kind cP_length cP_usage cP_role cP_uses ++ zpK (cy 0) hP_k cPK) s.heap.size = A at hD hE
  have hA : ∀ q : Nat, s.heap.size ≤ q → A q := fun q h => by rw [← hAe]; exact Or.inr h
  clear hAe hD0
  have hS : va_S A s.heap s.heap [] := va_S.rf
  have hK := hE.1
  have hl := lv_entry ([.ref (hP_k j0), .int p1, .ref ha2, .int p3, .int p4]) (n := 7) (Nat.le_of_ble_eq_true rfl)
  rw [lg_entry_eq]
  generalize (lg_sl ([.ref (hP_k j0), .int p1, .ref ha2, .int p3, .int p4]) ++ List.replicate (7 - (lg_sl ([.ref (hP_k j0), .int p1, .ref ha2, .int p3, .int p4])).length) Slot.unset).toArray = ls at hl ⊢
  replace hl : lv_has ls 7 [(0, .ref (hP_k j0)), (1, .int p1), (2, .ref ha2), (3, .int p3), (4, .int p4)] := hl
  unfold f_X9_alike_0PK at hf
  refine zgo (fun GW hTo hFr => ?_)
  refine hFr _ _ _ ?_
  refine lv_iconst (pc := 0) (v := (0 : Int32)) hx hb (zdt_at zt_X9_alike_0 0 rfl) (by decide) ?_
  refine lv_istore (pc := 1) (lv' := [(5, .int (0 : Int32)), (0, .ref (hP_k j0)), (1, .int p1), (2, .ref ha2), (3, .int p3), (4, .int p4)]) hx hb (zdt_at zt_X9_alike_0 1 rfl) hl (by decide) rfl ?_
  clear hl
  intro ls hl
  refine lv_iconst (pc := 3) (v := (0 : Int32)) hx hb (zdt_at zt_X9_alike_0 2 rfl) (by decide) ?_
  refine lv_istore (pc := 4) (lv' := [(6, .int (0 : Int32)), (5, .int (0 : Int32)), (0, .ref (hP_k j0)), (1, .int p1), (2, .ref ha2), (3, .int p3), (4, .int p4)]) hx hb (zdt_at zt_X9_alike_0 3 rfl) hl (by decide) rfl ?_
  clear hl
  intro ls hl
  replace hf := zj_s hf
  obtain ⟨K_4, eK_4, hf⟩ := hf
  have kK_4 : ∀ (v_3 : Int32) (ls : Array Slot), lv_has ls 7 [(5, .int v_3)] → K_4 v_3 = some r_ → GW s.heap [] (F0 m 37 ls []) := by
    clear hf hl
    intro v_3 ls hl hf
    rw [eK_4] at hf
    clear eK_4
    refine hFr _ _ _ ?_
    refine lv_iload (pc := 37) hx hb (zdt_at zt_X9_alike_0 23 rfl) (lv_at hl 0 rfl) ?_
    refine lv_if_ne (pc := 39) (tgt := 46) hx hb (zdt_at zt_X9_alike_0 24 rfl) (by decide) (fun cn_ => ?t_5) (fun cn_ => ?f_6)
    case t_5 =>
      replace hf := ze_s cn_ hf
      clear cn_
      refine lv_iconst (pc := 46) (v := (0 : Int32)) hx hb (zdt_at zt_X9_alike_0 27 rfl) (by decide) ?_
      cases hf
      exact W.zret (pc := 47) hx hb hr rfl (fun t ht hW => ⟨rfl, ht⟩) (fun _ h => nomatch h) (zdt_at zt_X9_alike_0 28 rfl)
    replace hf := zt_s cn_ hf
    clear cn_
    refine lv_iconst (pc := 42) (v := (1 : Int32)) hx hb (zdt_at zt_X9_alike_0 25 rfl) (by decide) ?_
    refine lv_goto (pc := 43) (tgt := 47) hx hb (zdt_at zt_X9_alike_0 26 rfl) (by decide) ?_
    cases hf
    exact W.zret (pc := 47) hx hb hr rfl (fun t ht hW => ⟨rfl, ht⟩) (fun _ h => nomatch h) (zdt_at zt_X9_alike_0 28 rfl)
  clear eK_4
  refine hTo _ _ _ (zl_go (fun z => match z with | (i_1, i_2) => ∀ (ls : Array Slot), lv_has ls 7 [(0, .ref (hP_k j0)), (1, .int p1), (2, .ref ha2), (3, .int p3), (4, .int p4), (5, .int i_1), (6, .int i_2)] → GW s.heap [] (F0 m 6 ls [])) hf ?_ ls (lv_sub hl [2, 3, 4, 5, 6, 1, 0] rfl))
  clear hf hl
  intro self_7 ihself_7 z hf
  obtain ⟨i_1, i_2⟩ := z
  intro ls hl
  refine hFr _ _ _ ?_
  unfold b_X9_alike_0PK_6 at hf
  refine lv_iload (pc := 6) hx hb (zdt_at zt_X9_alike_0 4 rfl) (lv_at hl 6 rfl) ?_
  refine lv_iload (pc := 8) hx hb (zdt_at zt_X9_alike_0 5 rfl) (lv_at hl 4 rfl) ?_
  refine lv_icmp_ge (pc := 10) (tgt := 37) hx hb (zdt_at zt_X9_alike_0 6 rfl) (by decide) (fun cn_ => ?t_8) (fun cn_ => ?f_9)
  case t_8 =>
    replace hf := zt_s cn_ hf
    clear cn_
    exact hTo _ _ _ (kK_4 _ ls (lv_sub hl [5] rfl) hf)
  replace hf := ze_s cn_ hf
  clear cn_
  refine lv_iload (pc := 13) hx hb (zdt_at zt_X9_alike_0 7 rfl) (lv_at hl 5 rfl) ?_
  refine lv_aload_n (pc := 15) hx hb (zdt_at zt_X9_alike_0 8 rfl) rfl (lv_at hl 0 rfl) ?_
  refine lv_iload_n (pc := 16) hx hb (zdt_at zt_X9_alike_0 9 rfl) rfl (lv_at hl 1 rfl) ?_
  refine lv_iload (pc := 17) hx hb (zdt_at zt_X9_alike_0 10 rfl) (lv_at hl 6 rfl) ?_
  refine lv_iadd (pc := 19) hx hb (zdt_at zt_X9_alike_0 11 rfl) ?_
  replace hf := zk_s hf
  refine va_bald (pc := 20) hx hb hK hP (17 + j0) 0 (zpK_get (X := [(ha2, .inl (cy 0, n_a2, .inl ca2))]) (n := 1) rfl hj_j0) rfl hf.1 (zdt_at zt_X9_alike_0 12 rfl) ?_
  replace hf := hf.2
  refine lv_aload_n (pc := 21) hx hb (zdt_at zt_X9_alike_0 13 rfl) rfl (lv_at hl 2 rfl) ?_
  refine lv_iload_n (pc := 22) hx hb (zdt_at zt_X9_alike_0 14 rfl) rfl (lv_at hl 3 rfl) ?_
  refine lv_iload (pc := 23) hx hb (zdt_at zt_X9_alike_0 15 rfl) (lv_at hl 6 rfl) ?_
  refine lv_iadd (pc := 25) hx hb (zdt_at zt_X9_alike_0 16 rfl) ?_
  replace hf := zk_s hf
  refine va_bald (pc := 26) hx hb hK hP 0 0 rfl rfl hf.1 (zdt_at zt_X9_alike_0 17 rfl) ?_
  replace hf := hf.2
  refine lv_ixor (pc := 27) hx hb (zdt_at zt_X9_alike_0 18 rfl) ?_
  refine lv_ior (pc := 28) hx hb (zdt_at zt_X9_alike_0 19 rfl) ?_
  refine lv_topi (fun x_10 e_ => ?_)
  replace hf := zn_s hf e_
  clear e_
  refine lv_istore (pc := 29) (lv' := [(5, .int x_10), (0, .ref (hP_k j0)), (1, .int p1), (2, .ref ha2), (3, .int p3), (4, .int p4), (6, .int i_2)]) hx hb (zdt_at zt_X9_alike_0 20 rfl) hl (by decide) rfl ?_
  clear hl
  intro ls hl
  refine lv_iinc (pc := 31) (v := (i_2 + (1 : Int32))) (lv' := [(6, .int (i_2 + (1 : Int32))), (5, .int x_10), (0, .ref (hP_k j0)), (1, .int p1), (2, .ref ha2), (3, .int p3), (4, .int p4)]) hx hb (zdt_at zt_X9_alike_0 21 rfl) hl (k := 6) rfl rfl (by decide) rfl ?_
  clear hl
  intro ls hl
  refine lv_goto (pc := 34) (tgt := 6) hx hb (zdt_at zt_X9_alike_0 22 rfl) (by decide) ?_
  exact hTo _ _ _ (ihself_7 _ hf ls (lv_sub hl [2, 3, 4, 5, 6, 1, 0] rfl))
def f_X9_same (p1 : Int32) (p2 : Int32) (c_buffer : Nat → Int32) (cP_kind : Nat → Int32) (cP_length : Nat → Int32) (cPK : Nat → Nat → Int32) : Option (Int32) :=
  (f_X9_isSlot p1).bind (fun r_1 => if r_1 = 0 then none else zk (¬ (p1 < 0 ∨ 16 ≤ p1.toNatClampNeg)) ((f_X8_isEmpty p1.toNatClampNeg cP_kind).bind (fun r_5 => if r_5 = 0 then if p2 = (cP_length p1.toNatClampNeg) then (f_X9_alike_0PK 512 p1.toNatClampNeg (0 : Int32) (0 : Int32) p2 c_buffer cPK).bind (fun r_10 => if r_10 = 0 then some (0 : Int32) else some (1 : Int32)) else some (0 : Int32) else some (0 : Int32))))
set_option maxHeartbeats 4000000 in
set_option maxRecDepth 100000 in
theorem c_X9_same (l : Launch) (D : va_G) (cy : Nat → ClassId) (tt : Nat → Nat) (sz : Nat) (h0 : Nat) (h0_buffer : Nat) (h0_slots : Nat) (h0_counters : Nat) (h0_officerPin : Nat) (h0_userPin : Nat) (h0_words : Nat) (h0_sha : Nat) (h0_stream : Nat) (h0_aes : Nat) (h0_modes : Nat) (h0_gcm : Nat) (h0_generator : Nat) (h0_tests : Nat) (h0_message : Nat) (h0_secret : Nat) (hP_o : Nat → Nat) (hP_k : Nat → Nat) (p1 : Int32) (p2 : Int32) (c_buffer : Nat → Int32) (cP_kind : Nat → Int32) (cP_length : Nat → Int32) (cPK : Nat → Nat → Int32) (c_state : Int32) (c_testsDone : Int32) (c_faults : Int32) (c_streamBegun : Int32) (cP_usage : Nat → Int32) (cP_role : Nat → Int32) (cP_uses : Nat → Int32) (r_ : Int32) (hf : f_X9_same p1 p2 c_buffer cP_kind cP_length cPK = some r_) : Met l yX9_same wsX9_same ({ frames := 1, cells := 0, slots := 0, locals := 26 }) (zPc D cy tt sz [.ref h0, .int p1, .int p2] ([(h0, .inr (11, [.ref h0_buffer, .ref h0_slots, .ref h0_counters, .ref h0_officerPin, .ref h0_userPin, .ref h0_words, .ref h0_sha, .ref h0_stream, .ref h0_aes, .ref h0_modes, .ref h0_gcm, .ref h0_generator, .ref h0_tests, .ref h0_message, .ref h0_secret, .int c_state, .int c_testsDone, .int c_faults, .int c_streamBegun])), (h0_buffer, .inl (cy 0, 512, .inl c_buffer)), (h0_slots, .inl (cy 4, 16, .inr (.inr (.inr (.inr (fun j => some (hP_o j)))))))] ++ zpO hP_o hP_k cP_kind cP_length cP_usage cP_role cP_uses ++ zpK (cy 0) hP_k cPK)) (fun _ st o t => o = .returned (some (.int r_)) ∧ t.heap = st.heap) 0 0 (fun _ => False) := by
  refine Met.ofW (cc := cX9_same) (maxL := 4) (ret := (some .boolean)) (by decide) rfl ?_
  intro p e s m args below meth c s₁ B hml hv
  obtain ⟨rfl, rfl, hP, hD0, hE⟩ := hv
  have hx := B.exec
  have hb := B.bytes
  have hr := B.returns
  have hts := atoms_spec (ws := wsX9_same) B.pre
  have hown : s.vm.findClass RX9 = some m.cls := findClass_of_methodNamed B.named
  have hlocks := B.notSynchronized
  clear B
  have hD := hD0.self (sz := s.heap.size)
  generalize hAe : va_A ([(h0, .inr (11, [.ref h0_buffer, .ref h0_slots, .ref h0_counters, .ref h0_officerPin, .ref h0_userPin, .ref h0_words, .ref h0_sha, .ref h0_stream, .ref h0_aes, .ref h0_modes, .ref h0_gcm, .ref h0_generator, .ref h0_tests, .ref h0_message, .ref h0_secret, .int c_state, .int c_testsDone, .int c_faults, .int c_streamBegun])), (h0_buffer, .inl (cy 0, 512, .inl c_buffer)), (h0_slots, .inl (cy 4, 16, .inr (.inr (.inr (.inr (fun j => some (hP_o j)))))))] ++ zpO hP_o hP_k cP_kind cP_length cP_usage cP_role cP_uses ++ zpK (cy 0) hP_k cPK) s.heap.size = A at hD hE
  have hA : ∀ q : Nat, s.heap.size ≤ q → A q := fun q h => by rw [← hAe]; exact Or.inr h
  clear hAe hD0
  have hS : va_S A s.heap s.heap [] := va_S.rf
  have hK := hE.1
  have hw0 := hts (.fieldLink RX9 15 "SealedModule" "slots" "[LSealedModule$Slot;") (by decide +kernel)
  have hw1 := hts (.fieldLink RX9 207 "SealedModule$Slot" "length" "I") (by decide +kernel)
  have hw2 := hts (.fieldLink RX9 286 "SealedModule$Slot" "key" "[B") (by decide +kernel)
  have hw3 := hts (.fieldLink RX9 9 "SealedModule" "buffer" "[B") (by decide +kernel)
  have hcX9 : ∀ w ∈ u_ws RX9 TX9 19, w ∈ wsX9_same := (fun _ h => List.mem_cons_of_mem _ (List.mem_append_left _ (List.mem_append_left _ (List.mem_append_right _ h))))
  have hcX8 : ∀ w ∈ u_ws RX8 TX8 6, w ∈ wsX9_same := (fun _ h => List.mem_cons_of_mem _ (List.mem_append_left _ (List.mem_append_right _ h)))
  have hl := lv_entry ([.ref h0, .int p1, .int p2]) (n := 4) (Nat.le_of_ble_eq_true rfl)
  rw [lg_entry_eq]
  generalize (lg_sl ([.ref h0, .int p1, .int p2]) ++ List.replicate (4 - (lg_sl ([.ref h0, .int p1, .int p2])).length) Slot.unset).toArray = ls at hl ⊢
  replace hl : lv_has ls 4 [(0, .ref h0), (1, .int p1), (2, .int p2)] := hl
  unfold f_X9_same at hf
  refine zgo (fun GW hTo hFr => ?_)
  refine hFr _ _ _ ?_
  refine lv_iload_n (pc := 0) hx hb (zdt_at zt_X9_same_0 0 rfl) rfl (lv_at hl 1 rfl) ?_
  replace hf := zb_s hf
  obtain ⟨r_1, hc_, hf⟩ := hf
  refine zcs (pc := 1) (rv := (some (.int r_1))) (va_runS (As := [.int p1]) (rest := []) ⟨hx, hb, hml, hown, hts⟩ (c_X9_isSlot l D cy tt s.heap.size p1 r_1 hc_) (va_cwS 1 hts gX9_same_X9_isSlot rfl rfl rfl (by decide +kernel) ⟨Nat.le_of_ble_eq_true rfl, Nat.le_of_ble_eq_true rfl⟩) ⟨zblind, zpre hE hS (hP.sub [] rfl) (hD.sub [] (by decide) rfl) (va_free hD hS hA [] rfl)⟩ rfl rfl hl.1 rfl (lv_room (Nat.le_of_ble_eq_true rfl)) (zdt_at zt_X9_same_0 1 rfl) ⟨Nat.zero_le _, Nat.zero_le _⟩) ?_
  clear hc_
  refine W.eq (g2 := F0 m 4 ls [.int r_1]) rfl ?_
  refine lv_if_ne (pc := 4) (tgt := 18) hx hb (zdt_at zt_X9_same_0 2 rfl) (by decide) (fun cn_ => ?t_2) (fun cn_ => ?f_3)
  case f_3 =>
    replace hf := zt_s cn_ hf
    clear cn_
    exact absurd hf (by simp)
  replace hf := ze_s cn_ hf
  clear cn_
  refine lv_aload_n (pc := 18) hx hb (zdt_at zt_X9_same_0 8 rfl) rfl (lv_at hl 0 rfl) ?_
  refine va_get (pc := 19) (D := D) (ci := 11) (v := .ref h0_slots) (C := RX9) (T := TX9) (N := 19) hx hb hts hcX9 hown hK hP 0 rfl rfl 1 (by decide) hw0 (fun _ h9 => h9) rfl (zdt_at zt_X9_same_0 9 rfl) ?_
  refine lv_iload_n (pc := 22) hx hb (zdt_at zt_X9_same_0 10 rfl) rfl (lv_at hl 1 rfl) ?_
  replace hf := zk_s hf
  have hj_4 : p1.toNatClampNeg < 16 := Nat.not_le.mp fun q => hf.1 (Or.inr q)
  refine va_aldq (pc := 23) (C := RX8) hx hb hK hP 2 4 rfl rfl hf.1 (zdt_at zt_X9_same_0 11 rfl) ?_
  replace hf := hf.2
  refine lv_astore_n (pc := 24) (lv' := [(3, .ref (hP_o p1.toNatClampNeg)), (0, .ref h0), (1, .int p1), (2, .int p2)]) hx hb (zdt_at zt_X9_same_0 12 rfl) rfl hl (by decide) rfl ?_
  clear hl
  intro ls hl
  refine lv_aload_n (pc := 25) hx hb (zdt_at zt_X9_same_0 13 rfl) rfl (lv_at hl 0 rfl) ?_
  replace hf := zb_s hf
  obtain ⟨r_5, hc_, hf⟩ := hf
  refine zcs (pc := 26) (rv := (some (.int r_5))) (va_runV (As := []) (rest := []) ⟨hx, hb, hml, hown, hts⟩ (c_X8_isEmpty l D cy tt s.heap.size hP_o hP_k p1.toNatClampNeg cP_kind cP_length cP_usage cP_role cP_uses r_5 hj_4 hc_) (cwV 0 hts gX9_same_X8_isEmpty rfl rfl rfl (by decide +kernel) ⟨Nat.le_of_ble_eq_true rfl, Nat.le_of_ble_eq_true rfl⟩) ⟨zblind, va_recv hK hP (ci := 10) (q0 := (3 + p1.toNatClampNeg)) rfl (zpO_getK (X := [(h0, .inr (11, [.ref h0_buffer, .ref h0_slots, .ref h0_counters, .ref h0_officerPin, .ref h0_userPin, .ref h0_words, .ref h0_sha, .ref h0_stream, .ref h0_aes, .ref h0_modes, .ref h0_gcm, .ref h0_generator, .ref h0_tests, .ref h0_message, .ref h0_secret, .int c_state, .int c_testsDone, .int c_faults, .int c_streamBegun])), (h0_buffer, .inl (cy 0, 512, .inl c_buffer)), (h0_slots, .inl (cy 4, 16, .inr (.inr (.inr (.inr (fun j => some (hP_o j)))))))]) (n := 3) rfl hj_4), zpre hE hS (hP.sub [3, 4, 5, 6, 7, 8, 9, 10, 11, 12, 13, 14, 15, 16, 17, 18] rfl) (hD.sub [3, 4, 5, 6, 7, 8, 9, 10, 11, 12, 13, 14, 15, 16, 17, 18] (by decide) rfl) (va_free hD hS hA [3, 4, 5, 6, 7, 8, 9, 10, 11, 12, 13, 14, 15, 16, 17, 18] rfl)⟩ rfl rfl hl.1 rfl (lv_room (Nat.le_of_ble_eq_true rfl)) (zdt_at zt_X9_same_0 14 rfl) ⟨Nat.zero_le _, Nat.zero_le _⟩) ?_
  clear hc_
  refine W.eq (g2 := F0 m 29 ls [.int r_5]) rfl ?_
  refine lv_if_ne (pc := 29) (tgt := 61) hx hb (zdt_at zt_X9_same_0 15 rfl) (by decide) (fun cn_ => ?t_6) (fun cn_ => ?f_7)
  case t_6 =>
    replace hf := ze_s cn_ hf
    clear cn_
    refine lv_iconst (pc := 61) (v := (0 : Int32)) hx hb (zdt_at zt_X9_same_0 31 rfl) (by decide) ?_
    cases hf
    exact W.zret (pc := 62) hx hb hr rfl (fun t ht hW => ⟨rfl, ht⟩) (fun _ h => nomatch h) (zdt_at zt_X9_same_0 32 rfl)
  replace hf := zt_s cn_ hf
  clear cn_
  refine lv_iload_n (pc := 32) hx hb (zdt_at zt_X9_same_0 16 rfl) rfl (lv_at hl 3 rfl) ?_
  refine lv_aload_n (pc := 33) hx hb (zdt_at zt_X9_same_0 17 rfl) rfl (lv_at hl 0 rfl) ?_
  refine va_get (pc := 34) (D := D) (ci := 10) (v := .int (cP_length p1.toNatClampNeg)) (C := RX8) (T := TX8) (N := 6) hx hb hts hcX8 hown hK hP (3 + p1.toNatClampNeg) (zpO_getK (X := [(h0, .inr (11, [.ref h0_buffer, .ref h0_slots, .ref h0_counters, .ref h0_officerPin, .ref h0_userPin, .ref h0_words, .ref h0_sha, .ref h0_stream, .ref h0_aes, .ref h0_modes, .ref h0_gcm, .ref h0_generator, .ref h0_tests, .ref h0_message, .ref h0_secret, .int c_state, .int c_testsDone, .int c_faults, .int c_streamBegun])), (h0_buffer, .inl (cy 0, 512, .inl c_buffer)), (h0_slots, .inl (cy 4, 16, .inr (.inr (.inr (.inr (fun j => some (hP_o j)))))))]) (n := 3) rfl hj_4) rfl 2 (by decide) hw1 (fun _ h9 => h9) rfl (zdt_at zt_X9_same_0 18 rfl) ?_
  refine lv_icmp_ne (pc := 37) (tgt := 61) hx hb (zdt_at zt_X9_same_0 19 rfl) (by decide) (fun cn_ => ?t_8) (fun cn_ => ?f_9)
  case t_8 =>
    replace hf := ze_s cn_ hf
    clear cn_
    refine lv_iconst (pc := 61) (v := (0 : Int32)) hx hb (zdt_at zt_X9_same_0 31 rfl) (by decide) ?_
    cases hf
    exact W.zret (pc := 62) hx hb hr rfl (fun t ht hW => ⟨rfl, ht⟩) (fun _ h => nomatch h) (zdt_at zt_X9_same_0 32 rfl)
  replace hf := zt_s cn_ hf
  clear cn_
  refine lv_aload_n (pc := 40) hx hb (zdt_at zt_X9_same_0 20 rfl) rfl (lv_at hl 0 rfl) ?_
  refine va_get (pc := 41) (D := D) (ci := 10) (v := .ref (hP_k p1.toNatClampNeg)) (C := RX8) (T := TX8) (N := 6) hx hb hts hcX8 hown hK hP (3 + p1.toNatClampNeg) (zpO_getK (X := [(h0, .inr (11, [.ref h0_buffer, .ref h0_slots, .ref h0_counters, .ref h0_officerPin, .ref h0_userPin, .ref h0_words, .ref h0_sha, .ref h0_stream, .ref h0_aes, .ref h0_modes, .ref h0_gcm, .ref h0_generator, .ref h0_tests, .ref h0_message, .ref h0_secret, .int c_state, .int c_testsDone, .int c_faults, .int c_streamBegun])), (h0_buffer, .inl (cy 0, 512, .inl c_buffer)), (h0_slots, .inl (cy 4, 16, .inr (.inr (.inr (.inr (fun j => some (hP_o j)))))))]) (n := 3) rfl hj_4) rfl 0 (by decide) hw2 (fun _ h9 => h9) rfl (zdt_at zt_X9_same_0 21 rfl) ?_
  refine lv_iconst (pc := 44) (v := (0 : Int32)) hx hb (zdt_at zt_X9_same_0 22 rfl) (by decide) ?_
  refine lv_aload_n (pc := 45) hx hb (zdt_at zt_X9_same_0 23 rfl) rfl (lv_at hl 1 rfl) ?_
  refine va_get (pc := 46) (D := D) (ci := 11) (v := .ref h0_buffer) (C := RX9) (T := TX9) (N := 19) hx hb hts hcX9 hown hK hP 0 rfl rfl 0 (by decide) hw3 (fun _ h9 => h9) rfl (zdt_at zt_X9_same_0 24 rfl) ?_
  refine lv_iconst (pc := 49) (v := (0 : Int32)) hx hb (zdt_at zt_X9_same_0 25 rfl) (by decide) ?_
  refine lv_iload_n (pc := 50) hx hb (zdt_at zt_X9_same_0 26 rfl) rfl (lv_at hl 3 rfl) ?_
  replace hf := zb_s hf
  obtain ⟨r_10, hc_, hf⟩ := hf
  refine zcs (pc := 51) (rv := (some (.int r_10))) (va_runS (As := [.ref (hP_k p1.toNatClampNeg), .int (0 : Int32), .ref h0_buffer, .int (0 : Int32), .int p2]) (rest := []) ⟨hx, hb, hml, hown, hts⟩ (c_X9_alike_0PK l D cy tt s.heap.size h0_buffer hP_o hP_k 512 p1.toNatClampNeg (0 : Int32) (0 : Int32) p2 c_buffer cPK cP_kind cP_length cP_usage cP_role cP_uses r_10 hj_4 hc_) (va_cwS 5 hts gX9_same_X9_alike rfl rfl rfl (by decide +kernel) ⟨Nat.le_of_ble_eq_true rfl, Nat.le_of_ble_eq_true rfl⟩) ⟨zblind, zpre hE hS (hP.sub [1, 3, 4, 5, 6, 7, 8, 9, 10, 11, 12, 13, 14, 15, 16, 17, 18, 19, 20, 21, 22, 23, 24, 25, 26, 27, 28, 29, 30, 31, 32, 33, 34] rfl) (hD.sub [1, 3, 4, 5, 6, 7, 8, 9, 10, 11, 12, 13, 14, 15, 16, 17, 18, 19, 20, 21, 22, 23, 24, 25, 26, 27, 28, 29, 30, 31, 32, 33, 34] (by decide) rfl) (va_free hD hS hA [1, 3, 4, 5, 6, 7, 8, 9, 10, 11, 12, 13, 14, 15, 16, 17, 18, 19, 20, 21, 22, 23, 24, 25, 26, 27, 28, 29, 30, 31, 32, 33, 34] rfl)⟩ rfl rfl hl.1 rfl (lv_room (Nat.le_of_ble_eq_true rfl)) (zdt_at zt_X9_same_0 27 rfl) ⟨Nat.zero_le _, Nat.zero_le _⟩) ?_
  clear hc_
  refine W.eq (g2 := F0 m 54 ls [.int r_10]) rfl ?_
  refine lv_if_eq (pc := 54) (tgt := 61) hx hb (zdt_at zt_X9_same_0 28 rfl) (by decide) (fun cn_ => ?t_11) (fun cn_ => ?f_12)
  case t_11 =>
    replace hf := zt_s cn_ hf
    clear cn_
    refine lv_iconst (pc := 61) (v := (0 : Int32)) hx hb (zdt_at zt_X9_same_0 31 rfl) (by decide) ?_
    cases hf
    exact W.zret (pc := 62) hx hb hr rfl (fun t ht hW => ⟨rfl, ht⟩) (fun _ h => nomatch h) (zdt_at zt_X9_same_0 32 rfl)
  replace hf := ze_s cn_ hf
  clear cn_
  refine lv_iconst (pc := 57) (v := (1 : Int32)) hx hb (zdt_at zt_X9_same_0 29 rfl) (by decide) ?_
  refine lv_goto (pc := 58) (tgt := 62) hx hb (zdt_at zt_X9_same_0 30 rfl) (by decide) ?_
  cases hf
  exact W.zret (pc := 62) hx hb hr rfl (fun t ht hW => ⟨rfl, ht⟩) (fun _ h => nomatch h) (zdt_at zt_X9_same_0 32 rfl)
def f_X9_drawn (n_a1 : Nat) (p2 : Int32) (p3 : Int32) (p4 : Int32) (c_buffer : Nat → Int32) (c_generator_begun : Int32) (c_generator_requests : Int32) (c_generator_key : Nat → Int32) (c_generator_message : Nat → Int32) (c_generator_value : Nat → Int32) (c_message : Nat → Int32) (c_secret : Nat → Int32) (c_sha_filled : Int32) (c_sha_total : Int32) (c_sha_inner : Nat → Int32) (c_sha_schedule : Nat → Int32) (c_sha_sums : Nat → Int32) (c_words_count : Int32) (c_words_healthy : Int32) (c_words_kept : Nat → Int32) (ca1 : Nat → Int32) : Option (Int32 × Int32 × Int32 × (Nat → Int32) × (Nat → Int32) × (Nat → Int32) × (Nat → Int32) × (Nat → Int32) × Int32 × Int32 × (Nat → Int32) × (Nat → Int32) × (Nat → Int32) × Int32 × (Nat → Int32) × (Nat → Int32)) :=
  (f_X3_wordsNeeded c_generator_begun c_generator_requests).bind (fun r_1 => (f_X1_canGive r_1 c_words_count c_words_healthy).bind (fun r_2 => if r_2 = 0 then some ((0 : Int32), c_generator_begun, c_generator_requests, c_generator_key, c_generator_message, c_generator_value, c_message, c_secret, c_sha_filled, c_sha_total, c_sha_inner, c_sha_schedule, c_sha_sums, c_words_count, c_words_kept, ca1) else (f_X1_give 80 r_1 c_words_count c_words_kept c_secret).bind (fun (c_words_count_5, c_words_kept_6, c_secret_7) => (f_X3_feed 80 ((4 : Int32) * r_1) c_generator_begun c_generator_requests c_generator_key c_generator_message c_sha_filled c_sha_total c_sha_inner c_sha_schedule c_sha_sums c_generator_value c_secret_7).bind (fun (c_generator_begun_8, c_generator_requests_9, c_generator_key_10, c_generator_message_11, c_sha_filled_12, c_sha_total_13, c_sha_inner_14, c_sha_schedule_15, c_sha_sums_16, c_generator_value_17) => (f_X9_forgetSecret c_secret_7).bind (fun c_secret_18 => zk (¬ (0 : Int32) < 0 ∧ ¬ (0 : Int32) < 0 ∧ ¬ p4 < 0 ∧ (0 : Int32).toNatClampNeg + p4.toNatClampNeg ≤ 512 ∧ (0 : Int32).toNatClampNeg + p4.toNatClampNeg ≤ 68 ∧ (∀ i, i < p4.toNatClampNeg → fits .byte (.int (c_buffer ((0 : Int32).toNatClampNeg + i))) = true)) ((f_X3_answer 68 n_a1 p4 p2 p3 c_generator_requests_9 c_generator_key_10 c_generator_message_11 c_sha_filled_12 c_sha_total_13 c_sha_inner_14 c_sha_schedule_15 c_sha_sums_16 c_generator_value_17 (va_cpy c_buffer c_message (0 : Int32).toNatClampNeg (0 : Int32).toNatClampNeg p4.toNatClampNeg) ca1).bind (fun (c_generator_requests_19, c_generator_key_20, c_generator_message_21, c_sha_filled_22, c_sha_total_23, c_sha_inner_24, c_sha_schedule_25, c_sha_sums_26, c_generator_value_27, ca1_28) => some ((1 : Int32), c_generator_begun_8, c_generator_requests_19, c_generator_key_20, c_generator_message_21, c_generator_value_27, (va_cpy c_buffer c_message (0 : Int32).toNatClampNeg (0 : Int32).toNatClampNeg p4.toNatClampNeg), c_secret_18, c_sha_filled_22, c_sha_total_23, c_sha_inner_24, c_sha_schedule_25, c_sha_sums_26, c_words_count_5, c_words_kept_6, ca1_28))))))))
set_option maxHeartbeats 4000000 in
set_option maxRecDepth 100000 in
theorem c_X9_drawn (l : Launch) (D : va_G) (cy : Nat → ClassId) (tt : Nat → Nat) (sz : Nat) (h0 : Nat) (h0_buffer : Nat) (h0_slots : Nat) (h0_counters : Nat) (h0_officerPin : Nat) (h0_userPin : Nat) (h0_words : Nat) (h0_sha : Nat) (h0_stream : Nat) (h0_aes : Nat) (h0_modes : Nat) (h0_gcm : Nat) (h0_generator : Nat) (h0_tests : Nat) (h0_message : Nat) (h0_secret : Nat) (h0_generator_key : Nat) (h0_generator_value : Nat) (h0_generator_message : Nat) (h0_sha_sums : Nat) (h0_sha_schedule : Nat) (h0_sha_inner : Nat) (h0_words_kept : Nat) (ha1 : Nat) (n_a1 : Nat) (p2 : Int32) (p3 : Int32) (p4 : Int32) (c_buffer : Nat → Int32) (c_generator_begun : Int32) (c_generator_requests : Int32) (c_generator_key : Nat → Int32) (c_generator_message : Nat → Int32) (c_generator_value : Nat → Int32) (c_message : Nat → Int32) (c_secret : Nat → Int32) (c_sha_filled : Int32) (c_sha_total : Int32) (c_sha_inner : Nat → Int32) (c_sha_schedule : Nat → Int32) (c_sha_sums : Nat → Int32) (c_words_count : Int32) (c_words_healthy : Int32) (c_words_kept : Nat → Int32) (ca1 : Nat → Int32) (c_state : Int32) (c_testsDone : Int32) (c_faults : Int32) (c_streamBegun : Int32) (c_words_last : Int32) (c_words_row : Int32) (c_words_first : Int32) (c_words_placeInWindow : Int32) (c_words_timesInWindow : Int32) (r_ : Int32) (c_generator_begun' : Int32) (c_generator_requests' : Int32) (c_generator_key' : Nat → Int32) (c_generator_message' : Nat → Int32) (c_generator_value' : Nat → Int32) (c_message' : Nat → Int32) (c_secret' : Nat → Int32) (c_sha_filled' : Int32) (c_sha_total' : Int32) (c_sha_inner' : Nat → Int32) (c_sha_schedule' : Nat → Int32) (c_sha_sums' : Nat → Int32) (c_words_count' : Int32) (c_words_kept' : Nat → Int32) (ca1' : Nat → Int32) (hf : f_X9_drawn n_a1 p2 p3 p4 c_buffer c_generator_begun c_generator_requests c_generator_key c_generator_message c_generator_value c_message c_secret c_sha_filled c_sha_total c_sha_inner c_sha_schedule c_sha_sums c_words_count c_words_healthy c_words_kept ca1 = some (r_, c_generator_begun', c_generator_requests', c_generator_key', c_generator_message', c_generator_value', c_message', c_secret', c_sha_filled', c_sha_total', c_sha_inner', c_sha_schedule', c_sha_sums', c_words_count', c_words_kept', ca1')) : Met l yX9_drawn wsX9_drawn ({ frames := 6, cells := 0, slots := 0, locals := 161 }) (zPc D cy tt sz [.ref h0, .ref ha1, .int p2, .int p3, .int p4] ([(h0, .inr (11, [.ref h0_buffer, .ref h0_slots, .ref h0_counters, .ref h0_officerPin, .ref h0_userPin, .ref h0_words, .ref h0_sha, .ref h0_stream, .ref h0_aes, .ref h0_modes, .ref h0_gcm, .ref h0_generator, .ref h0_tests, .ref h0_message, .ref h0_secret, .int c_state, .int c_testsDone, .int c_faults, .int c_streamBegun])), (h0_buffer, .inl (cy 0, 512, .inl c_buffer)), (h0_generator, .inr (5, [.ref h0_sha, .ref h0_generator_key, .ref h0_generator_value, .ref h0_generator_message, .int c_generator_begun, .int c_generator_requests])), (h0_generator_key, .inl (cy 0, 32, .inl c_generator_key)), (h0_generator_message, .inl (cy 0, 97, .inl c_generator_message)), (h0_generator_value, .inl (cy 0, 32, .inl c_generator_value)), (h0_message, .inl (cy 0, 68, .inl c_message)), (h0_secret, .inl (cy 0, 80, .inl c_secret)), (h0_sha, .inr (9, [.ref h0_sha_sums, .ref h0_sha_schedule, .ref h0_sha_inner, .int c_sha_filled, .int c_sha_total])), (h0_sha_inner, .inl (cy 0, 32, .inl c_sha_inner)), (h0_sha_schedule, .inl (cy 1, 64, .inl c_sha_schedule)), (h0_sha_sums, .inl (cy 1, 8, .inl c_sha_sums)), (h0_words, .inr (3, [.ref h0_words_kept, .int c_words_count, .int c_words_healthy, .int c_words_last, .int c_words_row, .int c_words_first, .int c_words_placeInWindow, .int c_words_timesInWindow])), (h0_words_kept, .inl (cy 1, 64, .inl c_words_kept)), (ha1, .inl (cy 0, n_a1, .inl ca1))])) (zQ D (some (.int r_)) ([(h0, .inr (11, [.ref h0_buffer, .ref h0_slots, .ref h0_counters, .ref h0_officerPin, .ref h0_userPin, .ref h0_words, .ref h0_sha, .ref h0_stream, .ref h0_aes, .ref h0_modes, .ref h0_gcm, .ref h0_generator, .ref h0_tests, .ref h0_message, .ref h0_secret, .int c_state, .int c_testsDone, .int c_faults, .int c_streamBegun])), (h0_buffer, .inl (cy 0, 512, .inl c_buffer)), (h0_generator, .inr (5, [.ref h0_sha, .ref h0_generator_key, .ref h0_generator_value, .ref h0_generator_message, .int c_generator_begun', .int c_generator_requests'])), (h0_generator_key, .inl (cy 0, 32, .inl c_generator_key')), (h0_generator_message, .inl (cy 0, 97, .inl c_generator_message')), (h0_generator_value, .inl (cy 0, 32, .inl c_generator_value')), (h0_message, .inl (cy 0, 68, .inl c_message')), (h0_secret, .inl (cy 0, 80, .inl c_secret')), (h0_sha, .inr (9, [.ref h0_sha_sums, .ref h0_sha_schedule, .ref h0_sha_inner, .int c_sha_filled', .int c_sha_total'])), (h0_sha_inner, .inl (cy 0, 32, .inl c_sha_inner')), (h0_sha_schedule, .inl (cy 1, 64, .inl c_sha_schedule')), (h0_sha_sums, .inl (cy 1, 8, .inl c_sha_sums')), (h0_words, .inr (3, [.ref h0_words_kept, .int c_words_count', .int c_words_healthy, .int c_words_last, .int c_words_row, .int c_words_first, .int c_words_placeInWindow, .int c_words_timesInWindow])), (h0_words_kept, .inl (cy 1, 64, .inl c_words_kept')), (ha1, .inl (cy 0, n_a1, .inl ca1'))]) (va_A ([(h0, .inr (11, [.ref h0_buffer, .ref h0_slots, .ref h0_counters, .ref h0_officerPin, .ref h0_userPin, .ref h0_words, .ref h0_sha, .ref h0_stream, .ref h0_aes, .ref h0_modes, .ref h0_gcm, .ref h0_generator, .ref h0_tests, .ref h0_message, .ref h0_secret, .int c_state, .int c_testsDone, .int c_faults, .int c_streamBegun])), (h0_buffer, .inl (cy 0, 512, .inl c_buffer)), (h0_generator, .inr (5, [.ref h0_sha, .ref h0_generator_key, .ref h0_generator_value, .ref h0_generator_message, .int c_generator_begun, .int c_generator_requests])), (h0_generator_key, .inl (cy 0, 32, .inl c_generator_key)), (h0_generator_message, .inl (cy 0, 97, .inl c_generator_message)), (h0_generator_value, .inl (cy 0, 32, .inl c_generator_value)), (h0_message, .inl (cy 0, 68, .inl c_message)), (h0_secret, .inl (cy 0, 80, .inl c_secret)), (h0_sha, .inr (9, [.ref h0_sha_sums, .ref h0_sha_schedule, .ref h0_sha_inner, .int c_sha_filled, .int c_sha_total])), (h0_sha_inner, .inl (cy 0, 32, .inl c_sha_inner)), (h0_sha_schedule, .inl (cy 1, 64, .inl c_sha_schedule)), (h0_sha_sums, .inl (cy 1, 8, .inl c_sha_sums)), (h0_words, .inr (3, [.ref h0_words_kept, .int c_words_count, .int c_words_healthy, .int c_words_last, .int c_words_row, .int c_words_first, .int c_words_placeInWindow, .int c_words_timesInWindow])), (h0_words_kept, .inl (cy 1, 64, .inl c_words_kept)), (ha1, .inl (cy 0, n_a1, .inl ca1))]) sz)) 0 0 (va_A ([(h0, .inr (11, [.ref h0_buffer, .ref h0_slots, .ref h0_counters, .ref h0_officerPin, .ref h0_userPin, .ref h0_words, .ref h0_sha, .ref h0_stream, .ref h0_aes, .ref h0_modes, .ref h0_gcm, .ref h0_generator, .ref h0_tests, .ref h0_message, .ref h0_secret, .int c_state, .int c_testsDone, .int c_faults, .int c_streamBegun])), (h0_buffer, .inl (cy 0, 512, .inl c_buffer)), (h0_generator, .inr (5, [.ref h0_sha, .ref h0_generator_key, .ref h0_generator_value, .ref h0_generator_message, .int c_generator_begun, .int c_generator_requests])), (h0_generator_key, .inl (cy 0, 32, .inl c_generator_key)), (h0_generator_message, .inl (cy 0, 97, .inl c_generator_message)), (h0_generator_value, .inl (cy 0, 32, .inl c_generator_value)), (h0_message, .inl (cy 0, 68, .inl c_message)), (h0_secret, .inl (cy 0, 80, .inl c_secret)), (h0_sha, .inr (9, [.ref h0_sha_sums, .ref h0_sha_schedule, .ref h0_sha_inner, .int c_sha_filled, .int c_sha_total])), (h0_sha_inner, .inl (cy 0, 32, .inl c_sha_inner)), (h0_sha_schedule, .inl (cy 1, 64, .inl c_sha_schedule)), (h0_sha_sums, .inl (cy 1, 8, .inl c_sha_sums)), (h0_words, .inr (3, [.ref h0_words_kept, .int c_words_count, .int c_words_healthy, .int c_words_last, .int c_words_row, .int c_words_first, .int c_words_placeInWindow, .int c_words_timesInWindow])), (h0_words_kept, .inl (cy 1, 64, .inl c_words_kept)), (ha1, .inl (cy 0, n_a1, .inl ca1))]) sz) := by
  refine Met.ofW (cc := cX9_drawn) (maxL := 6) (ret := (some .boolean)) (by decide) rfl ?_
  intro p e s m args below meth c s₁ B hml hv
  obtain ⟨rfl, rfl, hP, hD0, hE⟩ := hv
  have hx := B.exec
  have hb := B.bytes
  have hr := B.returns
  have hts := atoms_spec (ws := wsX9_drawn) B.pre
  have hown : s.vm.findClass RX9 = some m.cls := findClass_of_methodNamed B.named
  have hlocks := B.notSynchronized
  clear B
  have hD := hD0.self (sz := s.heap.size)
  generalize hAe : va_A ([(h0, .inr (11, [.ref h0_buffer, .ref h0_slots, .ref h0_counters, .ref h0_officerPin, .ref h0_userPin, .ref h0_words, .ref h0_sha, .ref h0_stream, .ref h0_aes, .ref h0_modes, .ref h0_gcm, .ref h0_generator, .ref h0_tests, .ref h0_message, .ref h0_secret, .int c_state, .int c_testsDone, .int c_faults, .int c_streamBegun])), (h0_buffer, .inl (cy 0, 512, .inl c_buffer)), (h0_generator, .inr (5, [.ref h0_sha, .ref h0_generator_key, .ref h0_generator_value, .ref h0_generator_message, .int c_generator_begun, .int c_generator_requests])), (h0_generator_key, .inl (cy 0, 32, .inl c_generator_key)), (h0_generator_message, .inl (cy 0, 97, .inl c_generator_message)), (h0_generator_value, .inl (cy 0, 32, .inl c_generator_value)), (h0_message, .inl (cy 0, 68, .inl c_message)), (h0_secret, .inl (cy 0, 80, .inl c_secret)), (h0_sha, .inr (9, [.ref h0_sha_sums, .ref h0_sha_schedule, .ref h0_sha_inner, .int c_sha_filled, .int c_sha_total])), (h0_sha_inner, .inl (cy 0, 32, .inl c_sha_inner)), (h0_sha_schedule, .inl (cy 1, 64, .inl c_sha_schedule)), (h0_sha_sums, .inl (cy 1, 8, .inl c_sha_sums)), (h0_words, .inr (3, [.ref h0_words_kept, .int c_words_count, .int c_words_healthy, .int c_words_last, .int c_words_row, .int c_words_first, .int c_words_placeInWindow, .int c_words_timesInWindow])), (h0_words_kept, .inl (cy 1, 64, .inl c_words_kept)), (ha1, .inl (cy 0, n_a1, .inl ca1))]) s.heap.size = A at hD hE ⊢
  have hA : ∀ q : Nat, s.heap.size ≤ q → A q := fun q h => by rw [← hAe]; exact Or.inr h
  clear hAe hD0
  have hS : va_S A s.heap s.heap [] := va_S.rf
  have hK := hE.1
  have hw0 := hts (.fieldLink RX9 82 "SealedModule" "generator" "LSealedModule$Generator;") (by decide +kernel)
  have hw1 := hts (.fieldLink RX9 38 "SealedModule" "words" "LSealedModule$Entropy;") (by decide +kernel)
  have hw2 := hts (.fieldLink RX9 98 "SealedModule" "secret" "[B") (by decide +kernel)
  have hw3 := hts (.fieldLink RX9 9 "SealedModule" "buffer" "[B") (by decide +kernel)
  have hw4 := hts (.fieldLink RX9 95 "SealedModule" "message" "[B") (by decide +kernel)
  have hw5 := hts (.methodLink RX9 276 arraycopyName) (by decide +kernel)
  have hw6 := hts (.native arraycopyName) (by decide +kernel)
  have hw7 := hts (.static arraycopyName) (by decide +kernel)
  have hw8 := hts (.initialized "java/lang/System") (by decide +kernel)
  have hcX9 : ∀ w ∈ u_ws RX9 TX9 19, w ∈ wsX9_drawn := (fun _ h => List.mem_cons_of_mem _ (List.mem_append_left _ (List.mem_append_left _ (List.mem_append_left _ (List.mem_append_left _ (List.mem_append_right _ h))))))
  have hl := lv_entry ([.ref h0, .ref ha1, .int p2, .int p3, .int p4]) (n := 6) (Nat.le_of_ble_eq_true rfl)
  rw [lg_entry_eq]
  generalize (lg_sl ([.ref h0, .ref ha1, .int p2, .int p3, .int p4]) ++ List.replicate (6 - (lg_sl ([.ref h0, .ref ha1, .int p2, .int p3, .int p4])).length) Slot.unset).toArray = ls at hl ⊢
  replace hl : lv_has ls 6 [(0, .ref h0), (1, .ref ha1), (2, .int p2), (3, .int p3), (4, .int p4)] := hl
  unfold f_X9_drawn at hf
  refine zgo (fun GW hTo hFr => ?_)
  refine hFr _ _ _ ?_
  obtain ⟨H, hHe⟩ : ∃ H, H = s.heap := ⟨_, rfl⟩
  obtain ⟨locs, hLe⟩ : ∃ L : List Loc, L = [] := ⟨_, rfl⟩
  rw [← hHe] at hP
  replace hS : va_S A s.heap H locs := by rw [hHe, hLe]; exact hS
  refine zat hHe.symm hLe.symm ?_
  clear hHe hLe
  refine lv_aload_n (pc := 0) hx hb (zdt_at zt_X9_drawn_0 0 rfl) rfl (lv_at hl 0 rfl) ?_
  refine va_get (pc := 1) (D := D) (ci := 11) (v := .ref h0_generator) (C := RX9) (T := TX9) (N := 19) hx hb hts hcX9 hown hK hP 0 rfl rfl 11 (by decide) hw0 (fun _ h9 => h9) rfl (zdt_at zt_X9_drawn_0 1 rfl) ?_
  replace hf := zb_s hf
  obtain ⟨r_1, hc_, hf⟩ := hf
  refine zcs (pc := 4) (rv := (some (.int r_1))) (va_runV (As := []) (rest := []) ⟨hx, hb, hml, hown, hts⟩ (c_X3_wordsNeeded l D cy tt H.size h0_generator h0_sha h0_generator_key h0_generator_value h0_generator_message c_generator_begun c_generator_requests r_1 hc_) (cwV 0 hts gX9_drawn_X3_wordsNeeded rfl rfl rfl (by decide +kernel) ⟨Nat.le_of_ble_eq_true rfl, Nat.le_of_ble_eq_true rfl⟩) ⟨zblind, va_recv hK hP (ci := 5) (q0 := 2) rfl rfl, zpre hE hS (hP.sub [2] rfl) (hD.sub [2] (by decide) rfl) (va_free hD hS hA [2] rfl)⟩ rfl rfl hl.1 rfl (lv_room (Nat.le_of_ble_eq_true rfl)) (zdt_at zt_X9_drawn_0 2 rfl) ⟨Nat.zero_le _, Nat.zero_le _⟩) ?_
  clear hc_
  refine W.eq (g2 := F0 m 7 ls [.int r_1]) rfl ?_
  refine lv_istore (pc := 7) (lv' := [(5, .int r_1), (0, .ref h0), (1, .ref ha1), (2, .int p2), (3, .int p3), (4, .int p4)]) hx hb (zdt_at zt_X9_drawn_0 3 rfl) hl (by decide) rfl ?_
  clear hl
  intro ls hl
  refine lv_aload_n (pc := 9) hx hb (zdt_at zt_X9_drawn_0 4 rfl) rfl (lv_at hl 1 rfl) ?_
  refine va_get (pc := 10) (D := D) (ci := 11) (v := .ref h0_words) (C := RX9) (T := TX9) (N := 19) hx hb hts hcX9 hown hK hP 0 rfl rfl 5 (by decide) hw1 (fun _ h9 => h9) rfl (zdt_at zt_X9_drawn_0 5 rfl) ?_
  refine lv_iload (pc := 13) hx hb (zdt_at zt_X9_drawn_0 6 rfl) (lv_at hl 0 rfl) ?_
  replace hf := zb_s hf
  obtain ⟨r_2, hc_, hf⟩ := hf
  refine zcs (pc := 15) (rv := (some (.int r_2))) (va_runV (As := [.int r_1]) (rest := []) ⟨hx, hb, hml, hown, hts⟩ (c_X1_canGive l D cy tt H.size h0_words h0_words_kept r_1 c_words_count c_words_healthy c_words_last c_words_row c_words_first c_words_placeInWindow c_words_timesInWindow r_2 hc_) (cwV 1 hts gX9_drawn_X1_canGive rfl rfl rfl (by decide +kernel) ⟨Nat.le_of_ble_eq_true rfl, Nat.le_of_ble_eq_true rfl⟩) ⟨zblind, va_recv hK hP (ci := 3) (q0 := 12) rfl rfl, zpre hE hS (hP.sub [12] rfl) (hD.sub [12] (by decide) rfl) (va_free hD hS hA [12] rfl)⟩ rfl rfl hl.1 rfl (lv_room (Nat.le_of_ble_eq_true rfl)) (zdt_at zt_X9_drawn_0 7 rfl) ⟨Nat.zero_le _, Nat.zero_le _⟩) ?_
  clear hc_
  refine W.eq (g2 := F0 m 18 ls [.int r_2]) rfl ?_
  refine lv_if_ne (pc := 18) (tgt := 23) hx hb (zdt_at zt_X9_drawn_0 8 rfl) (by decide) (fun cn_ => ?t_3) (fun cn_ => ?f_4)
  case f_4 =>
    replace hf := zt_s cn_ hf
    clear cn_
    refine lv_iconst (pc := 21) (v := (0 : Int32)) hx hb (zdt_at zt_X9_drawn_0 9 rfl) (by decide) ?_
    cases hf
    exact W.zret (pc := 22) hx hb hr rfl (fun t ht hW => ⟨rfl, ⟨by rw [ht]; exact hP, hD⟩, hS.F ht⟩) hS.2.2 (zdt_at zt_X9_drawn_0 10 rfl)
  replace hf := ze_s cn_ hf
  clear cn_
  refine lv_aload_n (pc := 23) hx hb (zdt_at zt_X9_drawn_0 11 rfl) rfl (lv_at hl 1 rfl) ?_
  refine va_get (pc := 24) (D := D) (ci := 11) (v := .ref h0_words) (C := RX9) (T := TX9) (N := 19) hx hb hts hcX9 hown hK hP 0 rfl rfl 5 (by decide) hw1 (fun _ h9 => h9) rfl (zdt_at zt_X9_drawn_0 12 rfl) ?_
  refine lv_iload (pc := 27) hx hb (zdt_at zt_X9_drawn_0 13 rfl) (lv_at hl 0 rfl) ?_
  refine lv_aload_n (pc := 29) hx hb (zdt_at zt_X9_drawn_0 14 rfl) rfl (lv_at hl 1 rfl) ?_
  refine va_get (pc := 30) (D := D) (ci := 11) (v := .ref h0_secret) (C := RX9) (T := TX9) (N := 19) hx hb hts hcX9 hown hK hP 0 rfl rfl 14 (by decide) hw2 (fun _ h9 => h9) rfl (zdt_at zt_X9_drawn_0 15 rfl) ?_
  replace hf := zb_s hf
  obtain ⟨⟨c_words_count_5, c_words_kept_6, c_secret_7⟩, hc_, hf⟩ := hf
  refine zcm2 (pc := 33) (rv := none) (va_runV (As := [.int r_1, .ref h0_secret]) (rest := []) ⟨hx, hb, hml, hown, hts⟩ (c_X1_give l D cy tt H.size h0_words h0_words_kept h0_secret 80 r_1 c_words_count c_words_kept c_secret c_words_healthy c_words_last c_words_row c_words_first c_words_placeInWindow c_words_timesInWindow c_words_count_5 c_words_kept_6 c_secret_7 hc_) (cwV 2 hts gX9_drawn_X1_give rfl rfl rfl (by decide +kernel) ⟨Nat.le_of_ble_eq_true rfl, Nat.le_of_ble_eq_true rfl⟩) ⟨zblind, va_recv hK hP (ci := 3) (q0 := 12) rfl rfl, zpre hE hS (hP.sub [12, 13, 7] rfl) (hD.sub [12, 13, 7] (by decide) rfl) (va_free hD hS hA [12, 13, 7] rfl)⟩ rfl rfl hl.1 rfl (lv_room (Nat.le_of_ble_eq_true rfl)) (zdt_at zt_X9_drawn_0 16 rfl) ⟨Nat.zero_le _, Nat.zero_le _⟩) hS hP hD (va_free hD hS hA [12, 13, 7] rfl) [12, 13, 7] rfl (by decide) rfl ?_
  clear hP hD hS hc_
  intro H locs hP hD hS
  replace hP : va_P D vwCl ([(h0, .inr (11, [.ref h0_buffer, .ref h0_slots, .ref h0_counters, .ref h0_officerPin, .ref h0_userPin, .ref h0_words, .ref h0_sha, .ref h0_stream, .ref h0_aes, .ref h0_modes, .ref h0_gcm, .ref h0_generator, .ref h0_tests, .ref h0_message, .ref h0_secret, .int c_state, .int c_testsDone, .int c_faults, .int c_streamBegun])), (h0_buffer, .inl (cy 0, 512, .inl c_buffer)), (h0_generator, .inr (5, [.ref h0_sha, .ref h0_generator_key, .ref h0_generator_value, .ref h0_generator_message, .int c_generator_begun, .int c_generator_requests])), (h0_generator_key, .inl (cy 0, 32, .inl c_generator_key)), (h0_generator_message, .inl (cy 0, 97, .inl c_generator_message)), (h0_generator_value, .inl (cy 0, 32, .inl c_generator_value)), (h0_message, .inl (cy 0, 68, .inl c_message)), (h0_secret, .inl (cy 0, 80, .inl c_secret_7)), (h0_sha, .inr (9, [.ref h0_sha_sums, .ref h0_sha_schedule, .ref h0_sha_inner, .int c_sha_filled, .int c_sha_total])), (h0_sha_inner, .inl (cy 0, 32, .inl c_sha_inner)), (h0_sha_schedule, .inl (cy 1, 64, .inl c_sha_schedule)), (h0_sha_sums, .inl (cy 1, 8, .inl c_sha_sums)), (h0_words, .inr (3, [.ref h0_words_kept, .int c_words_count_5, .int c_words_healthy, .int c_words_last, .int c_words_row, .int c_words_first, .int c_words_placeInWindow, .int c_words_timesInWindow])), (h0_words_kept, .inl (cy 1, 64, .inl c_words_kept_6)), (ha1, .inl (cy 0, n_a1, .inl ca1))]) H := hP
  replace hD : va_D A ([(h0, .inr (11, [.ref h0_buffer, .ref h0_slots, .ref h0_counters, .ref h0_officerPin, .ref h0_userPin, .ref h0_words, .ref h0_sha, .ref h0_stream, .ref h0_aes, .ref h0_modes, .ref h0_gcm, .ref h0_generator, .ref h0_tests, .ref h0_message, .ref h0_secret, .int c_state, .int c_testsDone, .int c_faults, .int c_streamBegun])), (h0_buffer, .inl (cy 0, 512, .inl c_buffer)), (h0_generator, .inr (5, [.ref h0_sha, .ref h0_generator_key, .ref h0_generator_value, .ref h0_generator_message, .int c_generator_begun, .int c_generator_requests])), (h0_generator_key, .inl (cy 0, 32, .inl c_generator_key)), (h0_generator_message, .inl (cy 0, 97, .inl c_generator_message)), (h0_generator_value, .inl (cy 0, 32, .inl c_generator_value)), (h0_message, .inl (cy 0, 68, .inl c_message)), (h0_secret, .inl (cy 0, 80, .inl c_secret_7)), (h0_sha, .inr (9, [.ref h0_sha_sums, .ref h0_sha_schedule, .ref h0_sha_inner, .int c_sha_filled, .int c_sha_total])), (h0_sha_inner, .inl (cy 0, 32, .inl c_sha_inner)), (h0_sha_schedule, .inl (cy 1, 64, .inl c_sha_schedule)), (h0_sha_sums, .inl (cy 1, 8, .inl c_sha_sums)), (h0_words, .inr (3, [.ref h0_words_kept, .int c_words_count_5, .int c_words_healthy, .int c_words_last, .int c_words_row, .int c_words_first, .int c_words_placeInWindow, .int c_words_timesInWindow])), (h0_words_kept, .inl (cy 1, 64, .inl c_words_kept_6)), (ha1, .inl (cy 0, n_a1, .inl ca1))]) := hD
  refine W.eq (g2 := F0 m 36 ls []) rfl ?_
  refine lv_aload_n (pc := 36) hx hb (zdt_at zt_X9_drawn_0 17 rfl) rfl (lv_at hl 1 rfl) ?_
  refine va_get (pc := 37) (D := D) (ci := 11) (v := .ref h0_generator) (C := RX9) (T := TX9) (N := 19) hx hb hts hcX9 hown hK hP 0 rfl rfl 11 (by decide) hw0 (fun _ h9 => h9) rfl (zdt_at zt_X9_drawn_0 18 rfl) ?_
  refine lv_aload_n (pc := 40) hx hb (zdt_at zt_X9_drawn_0 19 rfl) rfl (lv_at hl 1 rfl) ?_
  refine va_get (pc := 41) (D := D) (ci := 11) (v := .ref h0_secret) (C := RX9) (T := TX9) (N := 19) hx hb hts hcX9 hown hK hP 0 rfl rfl 14 (by decide) hw2 (fun _ h9 => h9) rfl (zdt_at zt_X9_drawn_0 20 rfl) ?_
  refine lv_iconst (pc := 44) (v := (4 : Int32)) hx hb (zdt_at zt_X9_drawn_0 21 rfl) (by decide) ?_
  refine lv_iload (pc := 45) hx hb (zdt_at zt_X9_drawn_0 22 rfl) (lv_at hl 0 rfl) ?_
  refine lv_imul (pc := 47) hx hb (zdt_at zt_X9_drawn_0 23 rfl) ?_
  replace hf := zb_s hf
  obtain ⟨⟨c_generator_begun_8, c_generator_requests_9, c_generator_key_10, c_generator_message_11, c_sha_filled_12, c_sha_total_13, c_sha_inner_14, c_sha_schedule_15, c_sha_sums_16, c_generator_value_17⟩, hc_, hf⟩ := hf
  refine zcm2 (pc := 48) (rv := none) (va_runV (As := [.ref h0_secret, .int ((4 : Int32) * r_1)]) (rest := []) ⟨hx, hb, hml, hown, hts⟩ (c_X3_feed l D cy tt H.size h0_generator h0_sha h0_generator_key h0_generator_value h0_generator_message h0_sha_sums h0_sha_schedule h0_sha_inner h0_secret 80 ((4 : Int32) * r_1) c_generator_begun c_generator_requests c_generator_key c_generator_message c_sha_filled c_sha_total c_sha_inner c_sha_schedule c_sha_sums c_generator_value c_secret_7 c_generator_begun_8 c_generator_requests_9 c_generator_key_10 c_generator_message_11 c_sha_filled_12 c_sha_total_13 c_sha_inner_14 c_sha_schedule_15 c_sha_sums_16 c_generator_value_17 hc_) (cwV 2 hts gX9_drawn_X3_feed rfl rfl rfl (by decide +kernel) ⟨Nat.le_of_ble_eq_true rfl, Nat.le_of_ble_eq_true rfl⟩) ⟨zblind, va_recv hK hP (ci := 5) (q0 := 2) rfl rfl, zpre hE hS (hP.sub [2, 3, 4, 8, 9, 10, 11, 5, 7] rfl) (hD.sub [2, 3, 4, 8, 9, 10, 11, 5, 7] (by decide) rfl) (va_free hD hS hA [2, 3, 4, 8, 9, 10, 11, 5, 7] rfl)⟩ rfl rfl hl.1 rfl (lv_room (Nat.le_of_ble_eq_true rfl)) (zdt_at zt_X9_drawn_0 24 rfl) ⟨Nat.zero_le _, Nat.zero_le _⟩) hS hP hD (va_free hD hS hA [2, 3, 4, 8, 9, 10, 11, 5, 7] rfl) [2, 3, 4, 8, 9, 10, 11, 5, 7] rfl (by decide) rfl ?_
  clear hP hD hS hc_
  intro H locs hP hD hS
  replace hP : va_P D vwCl ([(h0, .inr (11, [.ref h0_buffer, .ref h0_slots, .ref h0_counters, .ref h0_officerPin, .ref h0_userPin, .ref h0_words, .ref h0_sha, .ref h0_stream, .ref h0_aes, .ref h0_modes, .ref h0_gcm, .ref h0_generator, .ref h0_tests, .ref h0_message, .ref h0_secret, .int c_state, .int c_testsDone, .int c_faults, .int c_streamBegun])), (h0_buffer, .inl (cy 0, 512, .inl c_buffer)), (h0_generator, .inr (5, [.ref h0_sha, .ref h0_generator_key, .ref h0_generator_value, .ref h0_generator_message, .int c_generator_begun_8, .int c_generator_requests_9])), (h0_generator_key, .inl (cy 0, 32, .inl c_generator_key_10)), (h0_generator_message, .inl (cy 0, 97, .inl c_generator_message_11)), (h0_generator_value, .inl (cy 0, 32, .inl c_generator_value_17)), (h0_message, .inl (cy 0, 68, .inl c_message)), (h0_secret, .inl (cy 0, 80, .inl c_secret_7)), (h0_sha, .inr (9, [.ref h0_sha_sums, .ref h0_sha_schedule, .ref h0_sha_inner, .int c_sha_filled_12, .int c_sha_total_13])), (h0_sha_inner, .inl (cy 0, 32, .inl c_sha_inner_14)), (h0_sha_schedule, .inl (cy 1, 64, .inl c_sha_schedule_15)), (h0_sha_sums, .inl (cy 1, 8, .inl c_sha_sums_16)), (h0_words, .inr (3, [.ref h0_words_kept, .int c_words_count_5, .int c_words_healthy, .int c_words_last, .int c_words_row, .int c_words_first, .int c_words_placeInWindow, .int c_words_timesInWindow])), (h0_words_kept, .inl (cy 1, 64, .inl c_words_kept_6)), (ha1, .inl (cy 0, n_a1, .inl ca1))]) H := hP
  replace hD : va_D A ([(h0, .inr (11, [.ref h0_buffer, .ref h0_slots, .ref h0_counters, .ref h0_officerPin, .ref h0_userPin, .ref h0_words, .ref h0_sha, .ref h0_stream, .ref h0_aes, .ref h0_modes, .ref h0_gcm, .ref h0_generator, .ref h0_tests, .ref h0_message, .ref h0_secret, .int c_state, .int c_testsDone, .int c_faults, .int c_streamBegun])), (h0_buffer, .inl (cy 0, 512, .inl c_buffer)), (h0_generator, .inr (5, [.ref h0_sha, .ref h0_generator_key, .ref h0_generator_value, .ref h0_generator_message, .int c_generator_begun_8, .int c_generator_requests_9])), (h0_generator_key, .inl (cy 0, 32, .inl c_generator_key_10)), (h0_generator_message, .inl (cy 0, 97, .inl c_generator_message_11)), (h0_generator_value, .inl (cy 0, 32, .inl c_generator_value_17)), (h0_message, .inl (cy 0, 68, .inl c_message)), (h0_secret, .inl (cy 0, 80, .inl c_secret_7)), (h0_sha, .inr (9, [.ref h0_sha_sums, .ref h0_sha_schedule, .ref h0_sha_inner, .int c_sha_filled_12, .int c_sha_total_13])), (h0_sha_inner, .inl (cy 0, 32, .inl c_sha_inner_14)), (h0_sha_schedule, .inl (cy 1, 64, .inl c_sha_schedule_15)), (h0_sha_sums, .inl (cy 1, 8, .inl c_sha_sums_16)), (h0_words, .inr (3, [.ref h0_words_kept, .int c_words_count_5, .int c_words_healthy, .int c_words_last, .int c_words_row, .int c_words_first, .int c_words_placeInWindow, .int c_words_timesInWindow])), (h0_words_kept, .inl (cy 1, 64, .inl c_words_kept_6)), (ha1, .inl (cy 0, n_a1, .inl ca1))]) := hD
  refine W.eq (g2 := F0 m 51 ls []) rfl ?_
  refine lv_aload_n (pc := 51) hx hb (zdt_at zt_X9_drawn_0 25 rfl) rfl (lv_at hl 1 rfl) ?_
  replace hf := zb_s hf
  obtain ⟨c_secret_18, hc_, hf⟩ := hf
  refine zcm2 (pc := 52) (rv := none) (va_runV (As := []) (rest := []) ⟨hx, hb, hml, hown, hts⟩ (c_X9_forgetSecret l D cy tt H.size h0 h0_buffer h0_slots h0_counters h0_officerPin h0_userPin h0_words h0_sha h0_stream h0_aes h0_modes h0_gcm h0_generator h0_tests h0_message h0_secret c_secret_7 c_state c_testsDone c_faults c_streamBegun c_secret_18 hc_) (cwV 0 hts gX9_drawn_X9_forgetSecret rfl rfl rfl (by decide +kernel) ⟨Nat.le_of_ble_eq_true rfl, Nat.le_of_ble_eq_true rfl⟩) ⟨zblind, va_recv hK hP (ci := 11) (q0 := 0) rfl rfl, zpre hE hS (hP.sub [0, 7] rfl) (hD.sub [0, 7] (by decide) rfl) (va_free hD hS hA [0, 7] rfl)⟩ rfl rfl hl.1 rfl (lv_room (Nat.le_of_ble_eq_true rfl)) (zdt_at zt_X9_drawn_0 26 rfl) ⟨Nat.zero_le _, Nat.zero_le _⟩) hS hP hD (va_free hD hS hA [0, 7] rfl) [0, 7] rfl (by decide) rfl ?_
  clear hP hD hS hc_
  intro H locs hP hD hS
  replace hP : va_P D vwCl ([(h0, .inr (11, [.ref h0_buffer, .ref h0_slots, .ref h0_counters, .ref h0_officerPin, .ref h0_userPin, .ref h0_words, .ref h0_sha, .ref h0_stream, .ref h0_aes, .ref h0_modes, .ref h0_gcm, .ref h0_generator, .ref h0_tests, .ref h0_message, .ref h0_secret, .int c_state, .int c_testsDone, .int c_faults, .int c_streamBegun])), (h0_buffer, .inl (cy 0, 512, .inl c_buffer)), (h0_generator, .inr (5, [.ref h0_sha, .ref h0_generator_key, .ref h0_generator_value, .ref h0_generator_message, .int c_generator_begun_8, .int c_generator_requests_9])), (h0_generator_key, .inl (cy 0, 32, .inl c_generator_key_10)), (h0_generator_message, .inl (cy 0, 97, .inl c_generator_message_11)), (h0_generator_value, .inl (cy 0, 32, .inl c_generator_value_17)), (h0_message, .inl (cy 0, 68, .inl c_message)), (h0_secret, .inl (cy 0, 80, .inl c_secret_18)), (h0_sha, .inr (9, [.ref h0_sha_sums, .ref h0_sha_schedule, .ref h0_sha_inner, .int c_sha_filled_12, .int c_sha_total_13])), (h0_sha_inner, .inl (cy 0, 32, .inl c_sha_inner_14)), (h0_sha_schedule, .inl (cy 1, 64, .inl c_sha_schedule_15)), (h0_sha_sums, .inl (cy 1, 8, .inl c_sha_sums_16)), (h0_words, .inr (3, [.ref h0_words_kept, .int c_words_count_5, .int c_words_healthy, .int c_words_last, .int c_words_row, .int c_words_first, .int c_words_placeInWindow, .int c_words_timesInWindow])), (h0_words_kept, .inl (cy 1, 64, .inl c_words_kept_6)), (ha1, .inl (cy 0, n_a1, .inl ca1))]) H := hP
  replace hD : va_D A ([(h0, .inr (11, [.ref h0_buffer, .ref h0_slots, .ref h0_counters, .ref h0_officerPin, .ref h0_userPin, .ref h0_words, .ref h0_sha, .ref h0_stream, .ref h0_aes, .ref h0_modes, .ref h0_gcm, .ref h0_generator, .ref h0_tests, .ref h0_message, .ref h0_secret, .int c_state, .int c_testsDone, .int c_faults, .int c_streamBegun])), (h0_buffer, .inl (cy 0, 512, .inl c_buffer)), (h0_generator, .inr (5, [.ref h0_sha, .ref h0_generator_key, .ref h0_generator_value, .ref h0_generator_message, .int c_generator_begun_8, .int c_generator_requests_9])), (h0_generator_key, .inl (cy 0, 32, .inl c_generator_key_10)), (h0_generator_message, .inl (cy 0, 97, .inl c_generator_message_11)), (h0_generator_value, .inl (cy 0, 32, .inl c_generator_value_17)), (h0_message, .inl (cy 0, 68, .inl c_message)), (h0_secret, .inl (cy 0, 80, .inl c_secret_18)), (h0_sha, .inr (9, [.ref h0_sha_sums, .ref h0_sha_schedule, .ref h0_sha_inner, .int c_sha_filled_12, .int c_sha_total_13])), (h0_sha_inner, .inl (cy 0, 32, .inl c_sha_inner_14)), (h0_sha_schedule, .inl (cy 1, 64, .inl c_sha_schedule_15)), (h0_sha_sums, .inl (cy 1, 8, .inl c_sha_sums_16)), (h0_words, .inr (3, [.ref h0_words_kept, .int c_words_count_5, .int c_words_healthy, .int c_words_last, .int c_words_row, .int c_words_first, .int c_words_placeInWindow, .int c_words_timesInWindow])), (h0_words_kept, .inl (cy 1, 64, .inl c_words_kept_6)), (ha1, .inl (cy 0, n_a1, .inl ca1))]) := hD
  refine W.eq (g2 := F0 m 55 ls []) rfl ?_
  refine lv_aload_n (pc := 55) hx hb (zdt_at zt_X9_drawn_0 27 rfl) rfl (lv_at hl 1 rfl) ?_
  refine va_get (pc := 56) (D := D) (ci := 11) (v := .ref h0_buffer) (C := RX9) (T := TX9) (N := 19) hx hb hts hcX9 hown hK hP 0 rfl rfl 0 (by decide) hw3 (fun _ h9 => h9) rfl (zdt_at zt_X9_drawn_0 28 rfl) ?_
  refine lv_iconst (pc := 59) (v := (0 : Int32)) hx hb (zdt_at zt_X9_drawn_0 29 rfl) (by decide) ?_
  refine lv_aload_n (pc := 60) hx hb (zdt_at zt_X9_drawn_0 30 rfl) rfl (lv_at hl 1 rfl) ?_
  refine va_get (pc := 61) (D := D) (ci := 11) (v := .ref h0_message) (C := RX9) (T := TX9) (N := 19) hx hb hts hcX9 hown hK hP 0 rfl rfl 13 (by decide) hw4 (fun _ h9 => h9) rfl (zdt_at zt_X9_drawn_0 31 rfl) ?_
  refine lv_iconst (pc := 64) (v := (0 : Int32)) hx hb (zdt_at zt_X9_drawn_0 32 rfl) (by decide) ?_
  refine lv_iload (pc := 65) hx hb (zdt_at zt_X9_drawn_0 33 rfl) (lv_at hl 5 rfl) ?_
  replace hf := zk_s hf
  refine va_copyi (pc := 67) hx hb (hml.trans hl.1.symm) hown hw5 hw6 hw7 hw8 hK hP hD hS 1 6 0 0 rfl rfl rfl rfl rfl hf.1.1 hf.1.2.1 hf.1.2.2.1 hf.1.2.2.2.1 hf.1.2.2.2.2.1 hf.1.2.2.2.2.2 (Nat.le_of_ble_eq_true rfl) (Nat.le_of_ble_eq_true rfl) (zdt_at zt_X9_drawn_0 34 rfl) ?_
  replace hf := hf.2
  clear hP hD hS
  intro H locs hP hD hS
  replace hP : va_P D vwCl ([(h0, .inr (11, [.ref h0_buffer, .ref h0_slots, .ref h0_counters, .ref h0_officerPin, .ref h0_userPin, .ref h0_words, .ref h0_sha, .ref h0_stream, .ref h0_aes, .ref h0_modes, .ref h0_gcm, .ref h0_generator, .ref h0_tests, .ref h0_message, .ref h0_secret, .int c_state, .int c_testsDone, .int c_faults, .int c_streamBegun])), (h0_buffer, .inl (cy 0, 512, .inl c_buffer)), (h0_generator, .inr (5, [.ref h0_sha, .ref h0_generator_key, .ref h0_generator_value, .ref h0_generator_message, .int c_generator_begun_8, .int c_generator_requests_9])), (h0_generator_key, .inl (cy 0, 32, .inl c_generator_key_10)), (h0_generator_message, .inl (cy 0, 97, .inl c_generator_message_11)), (h0_generator_value, .inl (cy 0, 32, .inl c_generator_value_17)), (h0_message, .inl (cy 0, 68, .inl (va_cpy c_buffer c_message (0 : Int32).toNatClampNeg (0 : Int32).toNatClampNeg p4.toNatClampNeg))), (h0_secret, .inl (cy 0, 80, .inl c_secret_18)), (h0_sha, .inr (9, [.ref h0_sha_sums, .ref h0_sha_schedule, .ref h0_sha_inner, .int c_sha_filled_12, .int c_sha_total_13])), (h0_sha_inner, .inl (cy 0, 32, .inl c_sha_inner_14)), (h0_sha_schedule, .inl (cy 1, 64, .inl c_sha_schedule_15)), (h0_sha_sums, .inl (cy 1, 8, .inl c_sha_sums_16)), (h0_words, .inr (3, [.ref h0_words_kept, .int c_words_count_5, .int c_words_healthy, .int c_words_last, .int c_words_row, .int c_words_first, .int c_words_placeInWindow, .int c_words_timesInWindow])), (h0_words_kept, .inl (cy 1, 64, .inl c_words_kept_6)), (ha1, .inl (cy 0, n_a1, .inl ca1))]) H := hP
  replace hD : va_D A ([(h0, .inr (11, [.ref h0_buffer, .ref h0_slots, .ref h0_counters, .ref h0_officerPin, .ref h0_userPin, .ref h0_words, .ref h0_sha, .ref h0_stream, .ref h0_aes, .ref h0_modes, .ref h0_gcm, .ref h0_generator, .ref h0_tests, .ref h0_message, .ref h0_secret, .int c_state, .int c_testsDone, .int c_faults, .int c_streamBegun])), (h0_buffer, .inl (cy 0, 512, .inl c_buffer)), (h0_generator, .inr (5, [.ref h0_sha, .ref h0_generator_key, .ref h0_generator_value, .ref h0_generator_message, .int c_generator_begun_8, .int c_generator_requests_9])), (h0_generator_key, .inl (cy 0, 32, .inl c_generator_key_10)), (h0_generator_message, .inl (cy 0, 97, .inl c_generator_message_11)), (h0_generator_value, .inl (cy 0, 32, .inl c_generator_value_17)), (h0_message, .inl (cy 0, 68, .inl (va_cpy c_buffer c_message (0 : Int32).toNatClampNeg (0 : Int32).toNatClampNeg p4.toNatClampNeg))), (h0_secret, .inl (cy 0, 80, .inl c_secret_18)), (h0_sha, .inr (9, [.ref h0_sha_sums, .ref h0_sha_schedule, .ref h0_sha_inner, .int c_sha_filled_12, .int c_sha_total_13])), (h0_sha_inner, .inl (cy 0, 32, .inl c_sha_inner_14)), (h0_sha_schedule, .inl (cy 1, 64, .inl c_sha_schedule_15)), (h0_sha_sums, .inl (cy 1, 8, .inl c_sha_sums_16)), (h0_words, .inr (3, [.ref h0_words_kept, .int c_words_count_5, .int c_words_healthy, .int c_words_last, .int c_words_row, .int c_words_first, .int c_words_placeInWindow, .int c_words_timesInWindow])), (h0_words_kept, .inl (cy 1, 64, .inl c_words_kept_6)), (ha1, .inl (cy 0, n_a1, .inl ca1))]) := hD
  refine lv_aload_n (pc := 70) hx hb (zdt_at zt_X9_drawn_0 35 rfl) rfl (lv_at hl 1 rfl) ?_
  refine va_get (pc := 71) (D := D) (ci := 11) (v := .ref h0_generator) (C := RX9) (T := TX9) (N := 19) hx hb hts hcX9 hown hK hP 0 rfl rfl 11 (by decide) hw0 (fun _ h9 => h9) rfl (zdt_at zt_X9_drawn_0 36 rfl) ?_
  refine lv_aload_n (pc := 74) hx hb (zdt_at zt_X9_drawn_0 37 rfl) rfl (lv_at hl 1 rfl) ?_
  refine va_get (pc := 75) (D := D) (ci := 11) (v := .ref h0_message) (C := RX9) (T := TX9) (N := 19) hx hb hts hcX9 hown hK hP 0 rfl rfl 13 (by decide) hw4 (fun _ h9 => h9) rfl (zdt_at zt_X9_drawn_0 38 rfl) ?_
  refine lv_iload (pc := 78) hx hb (zdt_at zt_X9_drawn_0 39 rfl) (lv_at hl 5 rfl) ?_
  refine lv_aload_n (pc := 80) hx hb (zdt_at zt_X9_drawn_0 40 rfl) rfl (lv_at hl 2 rfl) ?_
  refine lv_iload_n (pc := 81) hx hb (zdt_at zt_X9_drawn_0 41 rfl) rfl (lv_at hl 3 rfl) ?_
  refine lv_iload_n (pc := 82) hx hb (zdt_at zt_X9_drawn_0 42 rfl) rfl (lv_at hl 4 rfl) ?_
  replace hf := zb_s hf
  obtain ⟨⟨c_generator_requests_19, c_generator_key_20, c_generator_message_21, c_sha_filled_22, c_sha_total_23, c_sha_inner_24, c_sha_schedule_25, c_sha_sums_26, c_generator_value_27, ca1_28⟩, hc_, hf⟩ := hf
  refine zcm2 (pc := 83) (rv := none) (va_runV (As := [.ref h0_message, .int p4, .ref ha1, .int p2, .int p3]) (rest := []) ⟨hx, hb, hml, hown, hts⟩ (c_X3_answer l D cy tt H.size h0_generator h0_sha h0_generator_key h0_generator_value h0_generator_message h0_sha_sums h0_sha_schedule h0_sha_inner h0_message ha1 68 n_a1 p4 p2 p3 c_generator_requests_9 c_generator_key_10 c_generator_message_11 c_sha_filled_12 c_sha_total_13 c_sha_inner_14 c_sha_schedule_15 c_sha_sums_16 c_generator_value_17 (va_cpy c_buffer c_message (0 : Int32).toNatClampNeg (0 : Int32).toNatClampNeg p4.toNatClampNeg) ca1 c_generator_begun_8 c_generator_requests_19 c_generator_key_20 c_generator_message_21 c_sha_filled_22 c_sha_total_23 c_sha_inner_24 c_sha_schedule_25 c_sha_sums_26 c_generator_value_27 ca1_28 hc_) (cwV 5 hts gX9_drawn_X3_answer rfl rfl rfl (by decide +kernel) ⟨Nat.le_of_ble_eq_true rfl, Nat.le_of_ble_eq_true rfl⟩) ⟨zblind, va_recv hK hP (ci := 5) (q0 := 2) rfl rfl, zpre hE hS (hP.sub [2, 3, 4, 8, 9, 10, 11, 5, 6, 14] rfl) (hD.sub [2, 3, 4, 8, 9, 10, 11, 5, 6, 14] (by decide) rfl) (va_free hD hS hA [2, 3, 4, 8, 9, 10, 11, 5, 6, 14] rfl)⟩ rfl rfl hl.1 rfl (lv_room (Nat.le_of_ble_eq_true rfl)) (zdt_at zt_X9_drawn_0 43 rfl) ⟨Nat.zero_le _, Nat.zero_le _⟩) hS hP hD (va_free hD hS hA [2, 3, 4, 8, 9, 10, 11, 5, 6, 14] rfl) [2, 3, 4, 8, 9, 10, 11, 5, 6, 14] rfl (by decide) rfl ?_
  clear hP hD hS hc_
  intro H locs hP hD hS
  replace hP : va_P D vwCl ([(h0, .inr (11, [.ref h0_buffer, .ref h0_slots, .ref h0_counters, .ref h0_officerPin, .ref h0_userPin, .ref h0_words, .ref h0_sha, .ref h0_stream, .ref h0_aes, .ref h0_modes, .ref h0_gcm, .ref h0_generator, .ref h0_tests, .ref h0_message, .ref h0_secret, .int c_state, .int c_testsDone, .int c_faults, .int c_streamBegun])), (h0_buffer, .inl (cy 0, 512, .inl c_buffer)), (h0_generator, .inr (5, [.ref h0_sha, .ref h0_generator_key, .ref h0_generator_value, .ref h0_generator_message, .int c_generator_begun_8, .int c_generator_requests_19])), (h0_generator_key, .inl (cy 0, 32, .inl c_generator_key_20)), (h0_generator_message, .inl (cy 0, 97, .inl c_generator_message_21)), (h0_generator_value, .inl (cy 0, 32, .inl c_generator_value_27)), (h0_message, .inl (cy 0, 68, .inl (va_cpy c_buffer c_message (0 : Int32).toNatClampNeg (0 : Int32).toNatClampNeg p4.toNatClampNeg))), (h0_secret, .inl (cy 0, 80, .inl c_secret_18)), (h0_sha, .inr (9, [.ref h0_sha_sums, .ref h0_sha_schedule, .ref h0_sha_inner, .int c_sha_filled_22, .int c_sha_total_23])), (h0_sha_inner, .inl (cy 0, 32, .inl c_sha_inner_24)), (h0_sha_schedule, .inl (cy 1, 64, .inl c_sha_schedule_25)), (h0_sha_sums, .inl (cy 1, 8, .inl c_sha_sums_26)), (h0_words, .inr (3, [.ref h0_words_kept, .int c_words_count_5, .int c_words_healthy, .int c_words_last, .int c_words_row, .int c_words_first, .int c_words_placeInWindow, .int c_words_timesInWindow])), (h0_words_kept, .inl (cy 1, 64, .inl c_words_kept_6)), (ha1, .inl (cy 0, n_a1, .inl ca1_28))]) H := hP
  replace hD : va_D A ([(h0, .inr (11, [.ref h0_buffer, .ref h0_slots, .ref h0_counters, .ref h0_officerPin, .ref h0_userPin, .ref h0_words, .ref h0_sha, .ref h0_stream, .ref h0_aes, .ref h0_modes, .ref h0_gcm, .ref h0_generator, .ref h0_tests, .ref h0_message, .ref h0_secret, .int c_state, .int c_testsDone, .int c_faults, .int c_streamBegun])), (h0_buffer, .inl (cy 0, 512, .inl c_buffer)), (h0_generator, .inr (5, [.ref h0_sha, .ref h0_generator_key, .ref h0_generator_value, .ref h0_generator_message, .int c_generator_begun_8, .int c_generator_requests_19])), (h0_generator_key, .inl (cy 0, 32, .inl c_generator_key_20)), (h0_generator_message, .inl (cy 0, 97, .inl c_generator_message_21)), (h0_generator_value, .inl (cy 0, 32, .inl c_generator_value_27)), (h0_message, .inl (cy 0, 68, .inl (va_cpy c_buffer c_message (0 : Int32).toNatClampNeg (0 : Int32).toNatClampNeg p4.toNatClampNeg))), (h0_secret, .inl (cy 0, 80, .inl c_secret_18)), (h0_sha, .inr (9, [.ref h0_sha_sums, .ref h0_sha_schedule, .ref h0_sha_inner, .int c_sha_filled_22, .int c_sha_total_23])), (h0_sha_inner, .inl (cy 0, 32, .inl c_sha_inner_24)), (h0_sha_schedule, .inl (cy 1, 64, .inl c_sha_schedule_25)), (h0_sha_sums, .inl (cy 1, 8, .inl c_sha_sums_26)), (h0_words, .inr (3, [.ref h0_words_kept, .int c_words_count_5, .int c_words_healthy, .int c_words_last, .int c_words_row, .int c_words_first, .int c_words_placeInWindow, .int c_words_timesInWindow])), (h0_words_kept, .inl (cy 1, 64, .inl c_words_kept_6)), (ha1, .inl (cy 0, n_a1, .inl ca1_28))]) := hD
  refine W.eq (g2 := F0 m 86 ls []) rfl ?_
  refine lv_iconst (pc := 86) (v := (1 : Int32)) hx hb (zdt_at zt_X9_drawn_0 44 rfl) (by decide) ?_
  cases hf
  exact W.zret (pc := 87) hx hb hr rfl (fun t ht hW => ⟨rfl, ⟨by rw [ht]; exact hP, hD⟩, hS.F ht⟩) hS.2.2 (zdt_at zt_X9_drawn_0 45 rfl)
