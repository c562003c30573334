set_option maxHeartbeats 4000000 in
set_option maxRecDepth 100000 in
theorem c_X3_forget (l : Launch) (D : va_G) (cy : Nat → ClassId) (tt : Nat → Nat) (sz : Nat) (h0 : Nat) (h0_sha : Nat) (h0_key : Nat) (h0_value : Nat) (h0_message : Nat) (c_begun : Int32) (c_key : Nat → Int32) (c_value : Nat → Int32) (c_requests : Int32) (c_begun' : Int32) (c_key' : Nat → Int32) (c_value' : Nat → Int32) (hf : f_X3_forget c_begun c_key c_value = some (c_begun', c_key', c_value')) : Met l yX3_forget wsX3_forget ({ frames := 1, cells := 0, slots := 0, locals := 23 }) (zPc D cy tt sz [.ref h0] ([(h0, .inr (5, [.ref h0_sha, .ref h0_key, .ref h0_value, .ref h0_message, .int c_begun, .int c_requests])), (h0_key, .inl (cy 0, 32, .inl c_key)), (h0_value, .inl (cy 0, 32, .inl c_value))])) (zQ D none ([(h0, .inr (5, [.ref h0_sha, .ref h0_key, .ref h0_value, .ref h0_message, .int c_begun', .int c_requests])), (h0_key, .inl (cy 0, 32, .inl c_key')), (h0_value, .inl (cy 0, 32, .inl c_value'))]) (va_A ([(h0, .inr (5, [.ref h0_sha, .ref h0_key, .ref h0_value, .ref h0_message, .int c_begun, .int c_requests])), (h0_key, .inl (cy 0, 32, .inl c_key)), (h0_value, .inl (cy 0, 32, .inl c_value))]) sz)) 0 0 (va_A ([(h0, .inr (5, [.ref h0_sha, .ref h0_key, .ref h0_value, .ref h0_message, .int c_begun, .int c_requests])), (h0_key, .inl (cy 0, 32, .inl c_key)), (h0_value, .inl (cy 0, 32, .inl c_value))]) sz) := by
  refine Met.ofW (cc := cX3_forget) (maxL := 1) (ret := none) (by decide) rfl ?_
  intro p e s m args below meth c s₁ B hml hv
  obtain ⟨rfl, rfl, hP, hD0, hE⟩ := hv
  have hx := B.exec
  have hb := B.bytes
  have hr := B.returns
  have hts := atoms_spec (ws := wsX3_forget) B.pre
  have hown : s.vm.findClass RX3 = some m.cls := findClass_of_methodNamed B.named
  have hlocks := B.notSynchronized
  clear B
  have hD := hD0.self (sz := s.heap.size)
  generalize hAe : va_A ([(h0, .inr (5, [.ref h0_sha, .ref h0_key, .ref h0_value, .ref h0_message, .int c_begun, .int c_requests])), (h0_key, .inl (cy 0, 32, .inl c_key)), (h0_value, .inl (cy 0, 32, .inl c_value))]) s.heap.size = A at hD hE ⊢
  have hA : ∀ q : Nat, s.heap.size ≤ q → A q := fun q h => by rw [← hAe]; exact Or.inr h
  clear hAe hD0
  have hS : va_S A s.heap s.heap [] := va_S.rf
  have hK := hE.1
  have hw0 := hts (.fieldLink RX3 9 "SealedModule$Generator" "key" "[B") (by decide +kernel)
  have hw1 := hts (.fieldLink RX3 15 "SealedModule$Generator" "value" "[B") (by decide +kernel)
  have hw2 := hts (.fieldLink RX3 21 "SealedModule$Generator" "begun" "Z") (by decide +kernel)
  have hcX3 : ∀ w ∈ u_ws RX3 TX3 6, w ∈ wsX3_forget := (fun _ h => List.mem_cons_of_mem _ (List.mem_append_right _ h))
  have hl := lv_entry ([.ref h0]) (n := 1) (Nat.le_of_ble_eq_true rfl)
  rw [lg_entry_eq]
  generalize (lg_sl ([.ref h0]) ++ List.replicate (1 - (lg_sl ([.ref h0])).length) Slot.unset).toArray = ls at hl ⊢
  replace hl : lv_has ls 1 [(0, .ref h0)] := hl
  unfold f_X3_forget at hf
  refine zgo (fun GW hTo hFr => ?_)
  refine hFr _ _ _ ?_
  obtain ⟨H, hHe⟩ : ∃ H, H = s.heap := ⟨_, rfl⟩
  obtain ⟨locs, hLe⟩ : ∃ L : List Loc, L = [] := ⟨_, rfl⟩
  rw [← hHe] at hP
  replace hS : va_S A s.heap H locs := by rw [hHe, hLe]; exact hS
  refine zat hHe.symm hLe.symm ?_
  clear hHe hLe
  refine lv_aload_n (pc := 0) hx hb (zdt_at zt_X3_forget_0 0 rfl) rfl (lv_at hl 0 rfl) ?_
  refine va_get (pc := 1) (D := D) (ci := 5) (v := .ref h0_key) (C := RX3) (T := TX3) (N := 6) hx hb hts hcX3 hown hK hP 0 rfl rfl 1 (by decide) hw0 (fun _ h9 => h9) rfl (zdt_at zt_X3_forget_0 1 rfl) ?_
  refine lv_iconst (pc := 4) (v := (0 : Int32)) hx hb (zdt_at zt_X3_forget_0 2 rfl) (by decide) ?_
  replace hf := zb_s hf
  obtain ⟨c_key_1, hc_, hf⟩ := hf
  refine zcn2 (pc := 5) (rv := none) (va_runS (As := [.ref h0_key, .int (0 : Int32)]) (rest := []) ⟨hx, hb, hml, hown, hts⟩ (c_J7_fill_031fb l D cy tt H.size h0_key 32 (0 : Int32) c_key c_key_1 hc_) (va_cwS 2 hts gX3_forget_J7_fill_031fb rfl rfl rfl (by decide +kernel) ⟨Nat.le_of_ble_eq_true rfl, Nat.le_of_ble_eq_true rfl⟩) ⟨zblind, zpre hE hS (hP.sub [1] rfl) (hD.sub [1] (by decide) rfl) (va_free hD hS hA [1] rfl)⟩ rfl rfl hl.1 rfl (lv_room (Nat.le_of_ble_eq_true rfl)) (zdt_at zt_X3_forget_0 3 rfl) ⟨Nat.zero_le _, Nat.zero_le _⟩) hS hP hD (va_free hD hS hA [1] rfl) [1] rfl (by decide) rfl ?_
  clear hP hD hS hc_
  intro H locs hP hD hS
  replace hP : va_P D vwCl ([(h0, .inr (5, [.ref h0_sha, .ref h0_key, .ref h0_value, .ref h0_message, .int c_begun, .int c_requests])), (h0_key, .inl (cy 0, 32, .inl c_key_1)), (h0_value, .inl (cy 0, 32, .inl c_value))]) H := hP
  replace hD : va_D A ([(h0, .inr (5, [.ref h0_sha, .ref h0_key, .ref h0_value, .ref h0_message, .int c_begun, .int c_requests])), (h0_key, .inl (cy 0, 32, .inl c_key_1)), (h0_value, .inl (cy 0, 32, .inl c_value))]) := hD
  refine W.eq (g2 := F0 m 8 ls []) rfl ?_
  refine lv_aload_n (pc := 8) hx hb (zdt_at zt_X3_forget_0 4 rfl) rfl (lv_at hl 0 rfl) ?_
  refine va_get (pc := 9) (D := D) (ci := 5) (v := .ref h0_value) (C := RX3) (T := TX3) (N := 6) hx hb hts hcX3 hown hK hP 0 rfl rfl 2 (by decide) hw1 (fun _ h9 => h9) rfl (zdt_at zt_X3_forget_0 5 rfl) ?_
  refine lv_iconst (pc := 12) (v := (0 : Int32)) hx hb (zdt_at zt_X3_forget_0 6 rfl) (by decide) ?_
  replace hf := zb_s hf
  obtain ⟨c_value_2, hc_, hf⟩ := hf
  refine zcn2 (pc := 13) (rv := none) (va_runS (As := [.ref h0_value, .int (0 : Int32)]) (rest := []) ⟨hx, hb, hml, hown, hts⟩ (c_J7_fill_031fb l D cy tt H.size h0_value 32 (0 : Int32) c_value c_value_2 hc_) (va_cwS 2 hts gX3_forget_J7_fill_031fb rfl rfl rfl (by decide +kernel) ⟨Nat.le_of_ble_eq_true rfl, Nat.le_of_ble_eq_true rfl⟩) ⟨zblind, zpre hE hS (hP.sub [2] rfl) (hD.sub [2] (by decide) rfl) (va_free hD hS hA [2] rfl)⟩ rfl rfl hl.1 rfl (lv_room (Nat.le_of_ble_eq_true rfl)) (zdt_at zt_X3_forget_0 7 rfl) ⟨Nat.zero_le _, Nat.zero_le _⟩) hS hP hD (va_free hD hS hA [2] rfl) [2] rfl (by decide) rfl ?_
  clear hP hD hS hc_
  intro H locs hP hD hS
  replace hP : va_P D vwCl ([(h0, .inr (5, [.ref h0_sha, .ref h0_key, .ref h0_value, .ref h0_message, .int c_begun, .int c_requests])), (h0_key, .inl (cy 0, 32, .inl c_key_1)), (h0_value, .inl (cy 0, 32, .inl c_value_2))]) H := hP
  replace hD : va_D A ([(h0, .inr (5, [.ref h0_sha, .ref h0_key, .ref h0_value, .ref h0_message, .int c_begun, .int c_requests])), (h0_key, .inl (cy 0, 32, .inl c_key_1)), (h0_value, .inl (cy 0, 32, .inl c_value_2))]) := hD
  refine W.eq (g2 := F0 m 16 ls []) rfl ?_
  refine lv_aload_n (pc := 16) hx hb (zdt_at zt_X3_forget_0 8 rfl) rfl (lv_at hl 0 rfl) ?_
  refine lv_iconst (pc := 17) (v := (0 : Int32)) hx hb (zdt_at zt_X3_forget_0 9 rfl) (by decide) ?_
  refine va_put (pc := 18) (D := D) (ci := 5) (v := .int (0 : Int32)) (ty := .boolean) (C := RX3) (T := TX3) (N := 6) hx hb hts hcX3 tyX3 tyX3_ok nmX3 hown hK hP hD hS 0 rfl rfl 4 (by decide) hw2 (fun _ h9 => h9) rfl (by decide +kernel) (by first | rfl | decide) (by first | rfl | decide) (Nat.le_of_ble_eq_true rfl) (zdt_at zt_X3_forget_0 10 rfl) ?_
  clear hP hD hS
  intro H locs hP hD hS
  replace hP : va_P D vwCl ([(h0, .inr (5, [.ref h0_sha, .ref h0_key, .ref h0_value, .ref h0_message, .int (0 : Int32), .int c_requests])), (h0_key, .inl (cy 0, 32, .inl c_key_1)), (h0_value, .inl (cy 0, 32, .inl c_value_2))]) H := hP
  replace hD : va_D A ([(h0, .inr (5, [.ref h0_sha, .ref h0_key, .ref h0_value, .ref h0_message, .int (0 : Int32), .int c_requests])), (h0_key, .inl (cy 0, 32, .inl c_key_1)), (h0_value, .inl (cy 0, 32, .inl c_value_2))]) := hD
  cases hf
  exact W.vret (pc := 21) hx hb hr (fun t ht hW => ⟨rfl, ⟨by rw [ht]; exact hP, hD⟩, hS.F ht⟩) hS.2.2 (zdt_at zt_X3_forget_0 11 rfl)
set_option maxHeartbeats 4000000 in
set_option maxRecDepth 100000 in
theorem c_X3_wordsNeeded (l : Launch) (D : va_G) (cy : Nat → ClassId) (tt : Nat → Nat) (sz : Nat) (h0 : Nat) (h0_sha : Nat) (h0_key : Nat) (h0_value : Nat) (h0_message : Nat) (c_begun : Int32) (c_requests : Int32) (r_ : Int32) (hf : f_X3_wordsNeeded c_begun c_requests = some r_) : Met l yX3_wordsNeeded wsX3_wordsNeeded ({ frames := 0, cells := 0, slots := 0, locals := 0 }) (zPc D cy tt sz [.ref h0] ([(h0, .inr (5, [.ref h0_sha, .ref h0_key, .ref h0_value, .ref h0_message, .int c_begun, .int c_requests]))])) (fun _ st o t => o = .returned (some (.int r_)) ∧ t.heap = st.heap) 0 0 (fun _ => False) := by
  refine Met.ofW (cc := cX3_wordsNeeded) (maxL := 1) (ret := (some .int)) (by decide) rfl ?_
  intro p e s m args below meth c s₁ B hml hv
  obtain ⟨rfl, rfl, hP, hD0, hE⟩ := hv
  have hx := B.exec
  have hb := B.bytes
  have hr := B.returns
  have hts := atoms_spec (ws := wsX3_wordsNeeded) B.pre
  have hown : s.vm.findClass RX3 = some m.cls := findClass_of_methodNamed B.named
  have hlocks := B.notSynchronized
  clear B
  have hD := hD0.self (sz := s.heap.size)
  generalize hAe : va_A ([(h0, .inr (5, [.ref h0_sha, .ref h0_key, .ref h0_value, .ref h0_message, .int c_begun, .int c_requests]))]) s.heap.size = A at hD hE
  have hA : ∀ q : Nat, s.heap.size ≤ q → A q := fun q h => by rw [← hAe]; exact Or.inr h
  clear hAe hD0
  have hS : va_S A s.heap s.heap [] := va_S.rf
  have hK := hE.1
  have hw0 := hts (.fieldLink RX3 21 "SealedModule$Generator" "begun" "Z") (by decide +kernel)
  have hw1 := hts (.fieldLink RX3 25 "SealedModule$Generator" "requests" "I") (by decide +kernel)
  have hcX3 : ∀ w ∈ u_ws RX3 TX3 6, w ∈ wsX3_wordsNeeded := (fun _ h => List.mem_cons_of_mem _ (List.mem_append_right _ h))
  have hl := lv_entry ([.ref h0]) (n := 1) (Nat.le_of_ble_eq_true rfl)
  rw [lg_entry_eq]
  generalize (lg_sl ([.ref h0]) ++ List.replicate (1 - (lg_sl ([.ref h0])).length) Slot.unset).toArray = ls at hl ⊢
  replace hl : lv_has ls 1 [(0, .ref h0)] := hl
  unfold f_X3_wordsNeeded at hf
  refine zgo (fun GW hTo hFr => ?_)
  refine hFr _ _ _ ?_
  refine lv_aload_n (pc := 0) hx hb (zdt_at zt_X3_wordsNeeded_0 0 rfl) rfl (lv_at hl 0 rfl) ?_
  refine va_get (pc := 1) (D := D) (ci := 5) (v := .int c_begun) (C := RX3) (T := TX3) (N := 6) hx hb hts hcX3 hown hK hP 0 rfl rfl 4 (by decide) hw0 (fun _ h9 => h9) rfl (zdt_at zt_X3_wordsNeeded_0 1 rfl) ?_
  refine lv_if_ne (pc := 4) (tgt := 10) hx hb (zdt_at zt_X3_wordsNeeded_0 2 rfl) (by decide) (fun cn_ => ?t_1) (fun cn_ => ?f_2)
  case f_2 =>
    replace hf := zt_s cn_ hf
    clear cn_
    refine lv_bipush (pc := 7) (v := (12 : Int32)) hx hb (zdt_at zt_X3_wordsNeeded_0 3 rfl) (by decide) ?_
    cases hf
    exact W.iret (pc := 9) hx hb hr (fun t ht hW => ⟨rfl, ht⟩) (fun _ h => nomatch h) (zdt_at zt_X3_wordsNeeded_0 4 rfl)
  replace hf := ze_s cn_ hf
  clear cn_
  refine lv_aload_n (pc := 10) hx hb (zdt_at zt_X3_wordsNeeded_0 5 rfl) rfl (lv_at hl 0 rfl) ?_
  refine va_get (pc := 11) (D := D) (ci := 5) (v := .int c_requests) (C := RX3) (T := TX3) (N := 6) hx hb hts hcX3 hown hK hP 0 rfl rfl 5 (by decide) hw1 (fun _ h9 => h9) rfl (zdt_at zt_X3_wordsNeeded_0 6 rfl) ?_
  refine lv_bipush (pc := 14) (v := (64 : Int32)) hx hb (zdt_at zt_X3_wordsNeeded_0 7 rfl) (by decide) ?_
  refine lv_icmp_lt (pc := 16) (tgt := 24) hx hb (zdt_at zt_X3_wordsNeeded_0 8 rfl) (by decide) (fun cn_ => ?t_3) (fun cn_ => ?f_4)
  case t_3 =>
    replace hf := zt_s cn_ hf
    clear cn_
    refine lv_iconst (pc := 24) (v := (0 : Int32)) hx hb (zdt_at zt_X3_wordsNeeded_0 11 rfl) (by decide) ?_
    cases hf
    exact W.iret (pc := 25) hx hb hr (fun t ht hW => ⟨rfl, ht⟩) (fun _ h => nomatch h) (zdt_at zt_X3_wordsNeeded_0 12 rfl)
  replace hf := ze_s cn_ hf
  clear cn_
  refine lv_bipush (pc := 19) (v := (8 : Int32)) hx hb (zdt_at zt_X3_wordsNeeded_0 9 rfl) (by decide) ?_
  refine lv_goto (pc := 21) (tgt := 25) hx hb (zdt_at zt_X3_wordsNeeded_0 10 rfl) (by decide) ?_
  cases hf
  exact W.iret (pc := 25) hx hb hr (fun t ht hW => ⟨rfl, ht⟩) (fun _ h => nomatch h) (zdt_at zt_X3_wordsNeeded_0 12 rfl)
set_option maxHeartbeats 4000000 in
set_option maxRecDepth 100000 in
theorem c_X7_mac_6a1 (l : Launch) (D : va_G) (cy : Nat → ClassId) (tt : Nat → Nat) (sz : Nat) (h0 : Nat) (h0_sums : Nat) (h0_schedule : Nat) (h0_inner : Nat) (ha1 : Nat) (ha3 : Nat) (n_a1 : Nat) (n_a3 : Nat) (p2 : Int32) (p4 : Int32) (p5 : Int32) (p7 : Int32) (c_filled : Int32) (c_total : Int32) (c_inner : Nat → Int32) (c_schedule : Nat → Int32) (c_sums : Nat → Int32) (ca1 : Nat → Int32) (ca3 : Nat → Int32) (c_filled' : Int32) (c_total' : Int32) (c_inner' : Nat → Int32) (c_schedule' : Nat → Int32) (c_sums' : Nat → Int32) (ca1' : Nat → Int32) (hf : f_X7_mac_6a1 n_a1 n_a3 p2 p4 p5 p7 c_filled c_total c_inner c_schedule c_sums ca1 ca3 = some (c_filled', c_total', c_inner', c_schedule', c_sums', ca1')) : Met l yX7_mac wsX7_mac ({ frames := 3, cells := 0, slots := 0, locals := 84 }) (zPc D cy tt sz [.ref h0, .ref ha1, .int p2, .ref ha3, .int p4, .int p5, .ref ha1, .int p7] ([(h0, .inr (9, [.ref h0_sums, .ref h0_schedule, .ref h0_inner, .int c_filled, .int c_total])), (h0_inner, .inl (cy 0, 32, .inl c_inner)), (h0_schedule, .inl (cy 1, 64, .inl c_schedule)), (h0_sums, .inl (cy 1, 8, .inl c_sums)), (ha1, .inl (cy 0, n_a1, .inl ca1)), (ha3, .inl (cy 0, n_a3, .inl ca3))])) (zQ D none ([(h0, .inr (9, [.ref h0_sums, .ref h0_schedule, .ref h0_inner, .int c_filled', .int c_total'])), (h0_inner, .inl (cy 0, 32, .inl c_inner')), (h0_schedule, .inl (cy 1, 64, .inl c_schedule')), (h0_sums, .inl (cy 1, 8, .inl c_sums')), (ha1, .inl (cy 0, n_a1, .inl ca1')), (ha3, .inl (cy 0, n_a3, .inl ca3))]) (va_A ([(h0, .inr (9, [.ref h0_sums, .ref h0_schedule, .ref h0_inner, .int c_filled, .int c_total])), (h0_inner, .inl (cy 0, 32, .inl c_inner)), (h0_schedule, .inl (cy 1, 64, .inl c_schedule)), (h0_sums, .inl (cy 1, 8, .inl c_sums)), (ha1, .inl (cy 0, n_a1, .inl ca1)), (ha3, .inl (cy 0, n_a3, .inl ca3))]) sz)) 0 0 (va_A ([(h0, .inr (9, [.ref h0_sums, .ref h0_schedule, .ref h0_inner, .int c_filled, .int c_total])), (h0_inner, .inl (cy 0, 32, .inl c_inner)), (h0_schedule, .inl (cy 1, 64, .inl c_schedule)), (h0_sums, .inl (cy 1, 8, .inl c_sums)), (ha1, .inl (cy 0, n_a1, .inl ca1)), (ha3, .inl (cy 0, n_a3, .inl ca3))]) sz) := by
  refine Met.ofW (cc := cX7_mac) (maxL := 8) (ret := none) (by decide) rfl ?_
  intro p e s m args below meth c s₁ B hml hv
  obtain ⟨rfl, rfl, hP, hD0, hE⟩ := hv
  have hx := B.exec
  have hb := B.bytes
  have hr := B.returns
  have hts := atoms_spec (ws := wsX7_mac) B.pre
  have hown : s.vm.findClass RX7 = some m.cls := findClass_of_methodNamed B.named
  have hlocks := B.notSynchronized
  clear B
  have hD := hD0.self (sz := s.heap.size)
  generalize hAe : va_A ([(h0, .inr (9, [.ref h0_sums, .ref h0_schedule, .ref h0_inner, .int c_filled, .int c_total])), (h0_inner, .inl (cy 0, 32, .inl c_inner)), (h0_schedule, .inl (cy 1, 64, .inl c_schedule)), (h0_sums, .inl (cy 1, 8, .inl c_sums)), (ha1, .inl (cy 0, n_a1, .inl ca1)), (ha3, .inl (cy 0, n_a3, .inl ca3))]) s.heap.size = A at hD hE ⊢
  have hA : ∀ q : Nat, s.heap.size ≤ q → A q := fun q h => by rw [← hAe]; exact Or.inr h
  clear hAe hD0
  have hS : va_S A s.heap s.heap [] := va_S.rf
  have hK := hE.1
  have hw0 := hts (.fieldLink RX7 18 "SealedModule$Sha256" "inner" "[B") (by decide +kernel)
  have hcX7 : ∀ w ∈ u_ws RX7 TX7 5, w ∈ wsX7_mac := (fun _ h => List.mem_cons_of_mem _ (List.mem_append_left _ (List.mem_append_right _ h)))
  have hl := lv_entry ([.ref h0, .ref ha1, .int p2, .ref ha3, .int p4, .int p5, .ref ha1, .int p7]) (n := 8) (Nat.le_of_ble_eq_true rfl)
  rw [lg_entry_eq]
  generalize (lg_sl ([.ref h0, .ref ha1, .int p2, .ref ha3, .int p4, .int p5, .ref ha1, .int p7]) ++ List.replicate (8 - (lg_sl ([.ref h0, .ref ha1, .int p2, .ref ha3, .int p4, .int p5, .ref ha1, .int p7])).length) Slot.unset).toArray = ls at hl ⊢
  replace hl : lv_has ls 8 [(0, .ref h0), (1, .ref ha1), (2, .int p2), (3, .ref ha3), (4, .int p4), (5, .int p5), (6, .ref ha1), (7, .int p7)] := hl
  unfold f_X7_mac_6a1 at hf
  refine zgo (fun GW hTo hFr => ?_)
  refine hFr _ _ _ ?_
  obtain ⟨H, hHe⟩ : ∃ H, H = s.heap := ⟨_, rfl⟩
  obtain ⟨locs, hLe⟩ : ∃ L : List Loc, L = [] := ⟨_, rfl⟩
  rw [← hHe] at hP
  replace hS : va_S A s.heap H locs := by rw [hHe, hLe]; exact hS
  refine zat hHe.symm hLe.symm ?_
  clear hHe hLe
  refine lv_aload_n (pc := 0) hx hb (zdt_at zt_X7_mac_0 0 rfl) rfl (lv_at hl 0 rfl) ?_
  replace hf := zb_s hf
  obtain ⟨⟨c_filled_1, c_total_2, c_sums_3⟩, hc_, hf⟩ := hf
  refine zcn2 (pc := 1) (rv := none) (va_runV (As := []) (rest := []) ⟨hx, hb, hml, hown, hts⟩ (c_X7_begin l D cy tt H.size h0 h0_sums h0_schedule h0_inner c_filled c_total c_sums c_filled_1 c_total_2 c_sums_3 hc_) (cwV 0 hts gX7_mac_X7_begin rfl rfl rfl (by decide +kernel) ⟨Nat.le_of_ble_eq_true rfl, Nat.le_of_ble_eq_true rfl⟩) ⟨zblind, va_recv hK hP (ci := 9) (q0 := 0) rfl rfl, zpre hE hS (hP.sub [0, 3] rfl) (hD.sub [0, 3] (by decide) rfl) (va_free hD hS hA [0, 3] rfl)⟩ rfl rfl hl.1 rfl (lv_room (Nat.le_of_ble_eq_true rfl)) (zdt_at zt_X7_mac_0 1 rfl) ⟨Nat.zero_le _, Nat.zero_le _⟩) hS hP hD (va_free hD hS hA [0, 3] rfl) [0, 3] rfl (by decide) rfl ?_
  clear hP hD hS hc_
  intro H locs hP hD hS
  replace hP : va_P D vwCl ([(h0, .inr (9, [.ref h0_sums, .ref h0_schedule, .ref h0_inner, .int c_filled_1, .int c_total_2])), (h0_inner, .inl (cy 0, 32, .inl c_inner)), (h0_schedule, .inl (cy 1, 64, .inl c_schedule)), (h0_sums, .inl (cy 1, 8, .inl c_sums_3)), (ha1, .inl (cy 0, n_a1, .inl ca1)), (ha3, .inl (cy 0, n_a3, .inl ca3))]) H := hP
  replace hD : va_D A ([(h0, .inr (9, [.ref h0_sums, .ref h0_schedule, .ref h0_inner, .int c_filled_1, .int c_total_2])), (h0_inner, .inl (cy 0, 32, .inl c_inner)), (h0_schedule, .inl (cy 1, 64, .inl c_schedule)), (h0_sums, .inl (cy 1, 8, .inl c_sums_3)), (ha1, .inl (cy 0, n_a1, .inl ca1)), (ha3, .inl (cy 0, n_a3, .inl ca3))]) := hD
  refine W.eq (g2 := F0 m 4 ls []) rfl ?_
  refine lv_aload_n (pc := 4) hx hb (zdt_at zt_X7_mac_0 2 rfl) rfl (lv_at hl 0 rfl) ?_
  refine lv_aload_n (pc := 5) hx hb (zdt_at zt_X7_mac_0 3 rfl) rfl (lv_at hl 1 rfl) ?_
  refine lv_iload_n (pc := 6) hx hb (zdt_at zt_X7_mac_0 4 rfl) rfl (lv_at hl 2 rfl) ?_
  refine lv_bipush (pc := 7) (v := (54 : Int32)) hx hb (zdt_at zt_X7_mac_0 5 rfl) (by decide) ?_
  replace hf := zb_s hf
  obtain ⟨⟨c_filled_4, c_total_5, c_schedule_6, c_sums_7⟩, hc_, hf⟩ := hf
  refine zcn2 (pc := 9) (rv := none) (va_runV (As := [.ref ha1, .int p2, .int (54 : Int32)]) (rest := []) ⟨hx, hb, hml, hown, hts⟩ (c_X7_takePadded l D cy tt H.size h0 h0_sums h0_schedule h0_inner ha1 n_a1 p2 (54 : Int32) c_filled_1 c_total_2 c_schedule c_sums_3 ca1 c_filled_4 c_total_5 c_schedule_6 c_sums_7 hc_) (cwV 3 hts gX7_mac_X7_takePadded rfl rfl rfl (by decide +kernel) ⟨Nat.le_of_ble_eq_true rfl, Nat.le_of_ble_eq_true rfl⟩) ⟨zblind, va_recv hK hP (ci := 9) (q0 := 0) rfl rfl, zpre hE hS (hP.sub [0, 2, 3, 4] rfl) (hD.sub [0, 2, 3, 4] (by decide) rfl) (va_free hD hS hA [0, 2, 3, 4] rfl)⟩ rfl rfl hl.1 rfl (lv_room (Nat.le_of_ble_eq_true rfl)) (zdt_at zt_X7_mac_0 6 rfl) ⟨Nat.zero_le _, Nat.zero_le _⟩) hS hP hD (va_free hD hS hA [0, 2, 3, 4] rfl) [0, 2, 3, 4] rfl (by decide) rfl ?_
  clear hP hD hS hc_
  intro H locs hP hD hS
  replace hP : va_P D vwCl ([(h0, .inr (9, [.ref h0_sums, .ref h0_schedule, .ref h0_inner, .int c_filled_4, .int c_total_5])), (h0_inner, .inl (cy 0, 32, .inl c_inner)), (h0_schedule, .inl (cy 1, 64, .inl c_schedule_6)), (h0_sums, .inl (cy 1, 8, .inl c_sums_7)), (ha1, .inl (cy 0, n_a1, .inl ca1)), (ha3, .inl (cy 0, n_a3, .inl ca3))]) H := hP
  replace hD : va_D A ([(h0, .inr (9, [.ref h0_sums, .ref h0_schedule, .ref h0_inner, .int c_filled_4, .int c_total_5])), (h0_inner, .inl (cy 0, 32, .inl c_inner)), (h0_schedule, .inl (cy 1, 64, .inl c_schedule_6)), (h0_sums, .inl (cy 1, 8, .inl c_sums_7)), (ha1, .inl (cy 0, n_a1, .inl ca1)), (ha3, .inl (cy 0, n_a3, .inl ca3))]) := hD
  refine W.eq (g2 := F0 m 12 ls []) rfl ?_
  refine lv_aload_n (pc := 12) hx hb (zdt_at zt_X7_mac_0 7 rfl) rfl (lv_at hl 0 rfl) ?_
  refine lv_aload_n (pc := 13) hx hb (zdt_at zt_X7_mac_0 8 rfl) rfl (lv_at hl 3 rfl) ?_
  refine lv_iload (pc := 14) hx hb (zdt_at zt_X7_mac_0 9 rfl) (lv_at hl 4 rfl) ?_
  refine lv_iload (pc := 16) hx hb (zdt_at zt_X7_mac_0 10 rfl) (lv_at hl 5 rfl) ?_
  replace hf := zb_s hf
  obtain ⟨⟨c_filled_8, c_total_9, c_schedule_10, c_sums_11⟩, hc_, hf⟩ := hf
  refine zcn2 (pc := 18) (rv := none) (va_runV (As := [.ref ha3, .int p4, .int p5]) (rest := []) ⟨hx, hb, hml, hown, hts⟩ (c_X7_take l D cy tt H.size h0 h0_sums h0_schedule h0_inner ha3 n_a3 p4 p5 c_filled_4 c_total_5 c_schedule_6 c_sums_7 ca3 c_filled_8 c_total_9 c_schedule_10 c_sums_11 hc_) (cwV 3 hts gX7_mac_X7_take rfl rfl rfl (by decide +kernel) ⟨Nat.le_of_ble_eq_true rfl, Nat.le_of_ble_eq_true rfl⟩) ⟨zblind, va_recv hK hP (ci := 9) (q0 := 0) rfl rfl, zpre hE hS (hP.sub [0, 2, 3, 5] rfl) (hD.sub [0, 2, 3, 5] (by decide) rfl) (va_free hD hS hA [0, 2, 3, 5] rfl)⟩ rfl rfl hl.1 rfl (lv_room (Nat.le_of_ble_eq_true rfl)) (zdt_at zt_X7_mac_0 11 rfl) ⟨Nat.zero_le _, Nat.zero_le _⟩) hS hP hD (va_free hD hS hA [0, 2, 3, 5] rfl) [0, 2, 3, 5] rfl (by decide) rfl ?_
  clear hP hD hS hc_
  intro H locs hP hD hS
  replace hP : va_P D vwCl ([(h0, .inr (9, [.ref h0_sums, .ref h0_schedule, .ref h0_inner, .int c_filled_8, .int c_total_9])), (h0_inner, .inl (cy 0, 32, .inl c_inner)), (h0_schedule, .inl (cy 1, 64, .inl c_schedule_10)), (h0_sums, .inl (cy 1, 8, .inl c_sums_11)), (ha1, .inl (cy 0, n_a1, .inl ca1)), (ha3, .inl (cy 0, n_a3, .inl ca3))]) H := hP
  replace hD : va_D A ([(h0, .inr (9, [.ref h0_sums, .ref h0_schedule, .ref h0_inner, .int c_filled_8, .int c_total_9])), (h0_inner, .inl (cy 0, 32, .inl c_inner)), (h0_schedule, .inl (cy 1, 64, .inl c_schedule_10)), (h0_sums, .inl (cy 1, 8, .inl c_sums_11)), (ha1, .inl (cy 0, n_a1, .inl ca1)), (ha3, .inl (cy 0, n_a3, .inl ca3))]) := hD
  refine W.eq (g2 := F0 m 21 ls []) rfl ?_
  refine lv_aload_n (pc := 21) hx hb (zdt_at zt_X7_mac_0 12 rfl) rfl (lv_at hl 0 rfl) ?_
  refine lv_aload_n (pc := 22) hx hb (zdt_at zt_X7_mac_0 13 rfl) rfl (lv_at hl 0 rfl) ?_
  refine va_get (pc := 23) (D := D) (ci := 9) (v := .ref h0_inner) (C := RX7) (T := TX7) (N := 5) hx hb hts hcX7 hown hK hP 0 rfl rfl 2 (by decide) hw0 (fun _ h9 => h9) rfl (zdt_at zt_X7_mac_0 14 rfl) ?_
  refine lv_iconst (pc := 26) (v := (0 : Int32)) hx hb (zdt_at zt_X7_mac_0 15 rfl) (by decide) ?_
  replace hf := zb_s hf
  obtain ⟨⟨c_filled_12, c_inner_13, c_schedule_14, c_sums_15⟩, hc_, hf⟩ := hf
  refine zcn2 (pc := 27) (rv := none) (va_runV (As := [.ref h0_inner, .int (0 : Int32)]) (rest := []) ⟨hx, hb, hml, hown, hts⟩ (c_X7_end_1t_inner l D cy tt H.size h0 h0_sums h0_schedule h0_inner (0 : Int32) c_filled_8 c_total_9 c_inner c_schedule_10 c_sums_11 c_filled_12 c_inner_13 c_schedule_14 c_sums_15 hc_) (cwV 2 hts gX7_mac_X7_end rfl rfl rfl (by decide +kernel) ⟨Nat.le_of_ble_eq_true rfl, Nat.le_of_ble_eq_true rfl⟩) ⟨zblind, va_recv hK hP (ci := 9) (q0 := 0) rfl rfl, zpre hE hS (hP.sub [0, 1, 2, 3] rfl) (hD.sub [0, 1, 2, 3] (by decide) rfl) (va_free hD hS hA [0, 1, 2, 3] rfl)⟩ rfl rfl hl.1 rfl (lv_room (Nat.le_of_ble_eq_true rfl)) (zdt_at zt_X7_mac_0 16 rfl) ⟨Nat.zero_le _, Nat.zero_le _⟩) hS hP hD (va_free hD hS hA [0, 1, 2, 3] rfl) [0, 1, 2, 3] rfl (by decide) rfl ?_
  clear hP hD hS hc_
  intro H locs hP hD hS
  replace hP : va_P D vwCl ([(h0, .inr (9, [.ref h0_sums, .ref h0_schedule, .ref h0_inner, .int c_filled_12, .int c_total_9])), (h0_inner, .inl (cy 0, 32, .inl c_inner_13)), (h0_schedule, .inl (cy 1, 64, .inl c_schedule_14)), (h0_sums, .inl (cy 1, 8, .inl c_sums_15)), (ha1, .inl (cy 0, n_a1, .inl ca1)), (ha3, .inl (cy 0, n_a3, .inl ca3))]) H := hP
  replace hD : va_D A ([(h0, .inr (9, [.ref h0_sums, .ref h0_schedule, .ref h0_inner, .int c_filled_12, .int c_total_9])), (h0_inner, .inl (cy 0, 32, .inl c_inner_13)), (h0_schedule, .inl (cy 1, 64, .inl c_schedule_14)), (h0_sums, .inl (cy 1, 8, .inl c_sums_15)), (ha1, .inl (cy 0, n_a1, .inl ca1)), (ha3, .inl (cy 0, n_a3, .inl ca3))]) := hD
  refine W.eq (g2 := F0 m 30 ls []) rfl ?_
  refine lv_aload_n (pc := 30) hx hb (zdt_at zt_X7_mac_0 17 rfl) rfl (lv_at hl 0 rfl) ?_
  replace hf := zb_s hf
  obtain ⟨⟨c_filled_16, c_total_17, c_sums_18⟩, hc_, hf⟩ := hf
  refine zcn2 (pc := 31) (rv := none) (va_runV (As := []) (rest := []) ⟨hx, hb, hml, hown, hts⟩ (c_X7_begin l D cy tt H.size h0 h0_sums h0_schedule h0_inner c_filled_12 c_total_9 c_sums_15 c_filled_16 c_total_17 c_sums_18 hc_) (cwV 0 hts gX7_mac_X7_begin rfl rfl rfl (by decide +kernel) ⟨Nat.le_of_ble_eq_true rfl, Nat.le_of_ble_eq_true rfl⟩) ⟨zblind, va_recv hK hP (ci := 9) (q0 := 0) rfl rfl, zpre hE hS (hP.sub [0, 3] rfl) (hD.sub [0, 3] (by decide) rfl) (va_free hD hS hA [0, 3] rfl)⟩ rfl rfl hl.1 rfl (lv_room (Nat.le_of_ble_eq_true rfl)) (zdt_at zt_X7_mac_0 18 rfl) ⟨Nat.zero_le _, Nat.zero_le _⟩) hS hP hD (va_free hD hS hA [0, 3] rfl) [0, 3] rfl (by decide) rfl ?_
  clear hP hD hS hc_
  intro H locs hP hD hS
  replace hP : va_P D vwCl ([(h0, .inr (9, [.ref h0_sums, .ref h0_schedule, .ref h0_inner, .int c_filled_16, .int c_total_17])), (h0_inner, .inl (cy 0, 32, .inl c_inner_13)), (h0_schedule, .inl (cy 1, 64, .inl c_schedule_14)), (h0_sums, .inl (cy 1, 8, .inl c_sums_18)), (ha1, .inl (cy 0, n_a1, .inl ca1)), (ha3, .inl (cy 0, n_a3, .inl ca3))]) H := hP
  replace hD : va_D A ([(h0, .inr (9, [.ref h0_sums, .ref h0_schedule, .ref h0_inner, .int c_filled_16, .int c_total_17])), (h0_inner, .inl (cy 0, 32, .inl c_inner_13)), (h0_schedule, .inl (cy 1, 64, .inl c_schedule_14)), (h0_sums, .inl (cy 1, 8, .inl c_sums_18)), (ha1, .inl (cy 0, n_a1, .inl ca1)), (ha3, .inl (cy 0, n_a3, .inl ca3))]) := hD
  refine W.eq (g2 := F0 m 34 ls []) rfl ?_
  refine lv_aload_n (pc := 34) hx hb (zdt_at zt_X7_mac_0 19 rfl) rfl (lv_at hl 0 rfl) ?_
  refine lv_aload_n (pc := 35) hx hb (zdt_at zt_X7_mac_0 20 rfl) rfl (lv_at hl 1 rfl) ?_
  refine lv_iload_n (pc := 36) hx hb (zdt_at zt_X7_mac_0 21 rfl) rfl (lv_at hl 2 rfl) ?_
  refine lv_bipush (pc := 37) (v := (92 : Int32)) hx hb (zdt_at zt_X7_mac_0 22 rfl) (by decide) ?_
  replace hf := zb_s hf
  obtain ⟨⟨c_filled_19, c_total_20, c_schedule_21, c_sums_22⟩, hc_, hf⟩ := hf
  refine zcn2 (pc := 39) (rv := none) (va_runV (As := [.ref ha1, .int p2, .int (92 : Int32)]) (rest := []) ⟨hx, hb, hml, hown, hts⟩ (c_X7_takePadded l D cy tt H.size h0 h0_sums h0_schedule h0_inner ha1 n_a1 p2 (92 : Int32) c_filled_16 c_total_17 c_schedule_14 c_sums_18 ca1 c_filled_19 c_total_20 c_schedule_21 c_sums_22 hc_) (cwV 3 hts gX7_mac_X7_takePadded rfl rfl rfl (by decide +kernel) ⟨Nat.le_of_ble_eq_true rfl, Nat.le_of_ble_eq_true rfl⟩) ⟨zblind, va_recv hK hP (ci := 9) (q0 := 0) rfl rfl, zpre hE hS (hP.sub [0, 2, 3, 4] rfl) (hD.sub [0, 2, 3, 4] (by decide) rfl) (va_free hD hS hA [0, 2, 3, 4] rfl)⟩ rfl rfl hl.1 rfl (lv_room (Nat.le_of_ble_eq_true rfl)) (zdt_at zt_X7_mac_0 23 rfl) ⟨Nat.zero_le _, Nat.zero_le _⟩) hS hP hD (va_free hD hS hA [0, 2, 3, 4] rfl) [0, 2, 3, 4] rfl (by decide) rfl ?_
  clear hP hD hS hc_
  intro H locs hP hD hS
  replace hP : va_P D vwCl ([(h0, .inr (9, [.ref h0_sums, .ref h0_schedule, .ref h0_inner, .int c_filled_19, .int c_total_20])), (h0_inner, .inl (cy 0, 32, .inl c_inner_13)), (h0_schedule, .inl (cy 1, 64, .inl c_schedule_21)), (h0_sums, .inl (cy 1, 8, .inl c_sums_22)), (ha1, .inl (cy 0, n_a1, .inl ca1)), (ha3, .inl (cy 0, n_a3, .inl ca3))]) H := hP
  replace hD : va_D A ([(h0, .inr (9, [.ref h0_sums, .ref h0_schedule, .ref h0_inner, .int c_filled_19, .int c_total_20])), (h0_inner, .inl (cy 0, 32, .inl c_inner_13)), (h0_schedule, .inl (cy 1, 64, .inl c_schedule_21)), (h0_sums, .inl (cy 1, 8, .inl c_sums_22)), (ha1, .inl (cy 0, n_a1, .inl ca1)), (ha3, .inl (cy 0, n_a3, .inl ca3))]) := hD
  refine W.eq (g2 := F0 m 42 ls []) rfl ?_
  refine lv_aload_n (pc := 42) hx hb (zdt_at zt_X7_mac_0 24 rfl) rfl (lv_at hl 0 rfl) ?_
  refine lv_aload_n (pc := 43) hx hb (zdt_at zt_X7_mac_0 25 rfl) rfl (lv_at hl 0 rfl) ?_
  refine va_get (pc := 44) (D := D) (ci := 9) (v := .ref h0_inner) (C := RX7) (T := TX7) (N := 5) hx hb hts hcX7 hown hK hP 0 rfl rfl 2 (by decide) hw0 (fun _ h9 => h9) rfl (zdt_at zt_X7_mac_0 26 rfl) ?_
  refine lv_iconst (pc := 47) (v := (0 : Int32)) hx hb (zdt_at zt_X7_mac_0 27 rfl) (by decide) ?_
  refine lv_bipush (pc := 48) (v := (32 : Int32)) hx hb (zdt_at zt_X7_mac_0 28 rfl) (by decide) ?_
  replace hf := zb_s hf
  obtain ⟨⟨c_filled_23, c_total_24, c_schedule_25, c_sums_26⟩, hc_, hf⟩ := hf
  refine zcn2 (pc := 50) (rv := none) (va_runV (As := [.ref h0_inner, .int (0 : Int32), .int (32 : Int32)]) (rest := []) ⟨hx, hb, hml, hown, hts⟩ (c_X7_take_1t_inner l D cy tt H.size h0 h0_sums h0_schedule h0_inner (0 : Int32) (32 : Int32) c_filled_19 c_total_20 c_inner_13 c_schedule_21 c_sums_22 c_filled_23 c_total_24 c_schedule_25 c_sums_26 hc_) (cwV 3 hts gX7_mac_X7_take rfl rfl rfl (by decide +kernel) ⟨Nat.le_of_ble_eq_true rfl, Nat.le_of_ble_eq_true rfl⟩) ⟨zblind, va_recv hK hP (ci := 9) (q0 := 0) rfl rfl, zpre hE hS (hP.sub [0, 1, 2, 3] rfl) (hD.sub [0, 1, 2, 3] (by decide) rfl) (va_free hD hS hA [0, 1, 2, 3] rfl)⟩ rfl rfl hl.1 rfl (lv_room (Nat.le_of_ble_eq_true rfl)) (zdt_at zt_X7_mac_0 29 rfl) ⟨Nat.zero_le _, Nat.zero_le _⟩) hS hP hD (va_free hD hS hA [0, 1, 2, 3] rfl) [0, 1, 2, 3] rfl (by decide) rfl ?_
  clear hP hD hS hc_
  intro H locs hP hD hS
  replace hP : va_P D vwCl ([(h0, .inr (9, [.ref h0_sums, .ref h0_schedule, .ref h0_inner, .int c_filled_23, .int c_total_24])), (h0_inner, .inl (cy 0, 32, .inl c_inner_13)), (h0_schedule, .inl (cy 1, 64, .inl c_schedule_25)), (h0_sums, .inl (cy 1, 8, .inl c_sums_26)), (ha1, .inl (cy 0, n_a1, .inl ca1)), (ha3, .inl (cy 0, n_a3, .inl ca3))]) H := hP
  replace hD : va_D A ([(h0, .inr (9, [.ref h0_sums, .ref h0_schedule, .ref h0_inner, .int c_filled_23, .int c_total_24])), (h0_inner, .inl (cy 0, 32, .inl c_inner_13)), (h0_schedule, .inl (cy 1, 64, .inl c_schedule_25)), (h0_sums, .inl (cy 1, 8, .inl c_sums_26)), (ha1, .inl (cy 0, n_a1, .inl ca1)), (ha3, .inl (cy 0, n_a3, .inl ca3))]) := hD
  refine W.eq (g2 := F0 m 53 ls []) rfl ?_
  refine lv_aload_n (pc := 53) hx hb (zdt_at zt_X7_mac_0 30 rfl) rfl (lv_at hl 0 rfl) ?_
  refine lv_aload (pc := 54) hx hb (zdt_at zt_X7_mac_0 31 rfl) (lv_at hl 6 rfl) ?_
  refine lv_iload (pc := 56) hx hb (zdt_at zt_X7_mac_0 32 rfl) (lv_at hl 7 rfl) ?_
  replace hf := zb_s hf
  obtain ⟨⟨c_filled_27, c_schedule_28, c_sums_29, ca1_30⟩, hc_, hf⟩ := hf
  refine zcn2 (pc := 58) (rv := none) (va_runV (As := [.ref ha1, .int p7]) (rest := []) ⟨hx, hb, hml, hown, hts⟩ (c_X7_end l D cy tt H.size h0 h0_sums h0_schedule h0_inner ha1 n_a1 p7 c_filled_23 c_total_24 c_schedule_25 c_sums_26 ca1 c_filled_27 c_schedule_28 c_sums_29 ca1_30 hc_) (cwV 2 hts gX7_mac_X7_end rfl rfl rfl (by decide +kernel) ⟨Nat.le_of_ble_eq_true rfl, Nat.le_of_ble_eq_true rfl⟩) ⟨zblind, va_recv hK hP (ci := 9) (q0 := 0) rfl rfl, zpre hE hS (hP.sub [0, 2, 3, 4] rfl) (hD.sub [0, 2, 3, 4] (by decide) rfl) (va_free hD hS hA [0, 2, 3, 4] rfl)⟩ rfl rfl hl.1 rfl (lv_room (Nat.le_of_ble_eq_true rfl)) (zdt_at zt_X7_mac_0 33 rfl) ⟨Nat.zero_le _, Nat.zero_le _⟩) hS hP hD (va_free hD hS hA [0, 2, 3, 4] rfl) [0, 2, 3, 4] rfl (by decide) rfl ?_
  clear hP hD hS hc_
  intro H locs hP hD hS
  replace hP : va_P D vwCl ([(h0, .inr (9, [.ref h0_sums, .ref h0_schedule, .ref h0_inner, .int c_filled_27, .int c_total_24])), (h0_inner, .inl (cy 0, 32, .inl c_inner_13)), (h0_schedule, .inl (cy 1, 64, .inl c_schedule_28)), (h0_sums, .inl (cy 1, 8, .inl c_sums_29)), (ha1, .inl (cy 0, n_a1, .inl ca1_30)), (ha3, .inl (cy 0, n_a3, .inl ca3))]) H := hP
  replace hD : va_D A ([(h0, .inr (9, [.ref h0_sums, .ref h0_schedule, .ref h0_inner, .int c_filled_27, .int c_total_24])), (h0_inner, .inl (cy 0, 32, .inl c_inner_13)), (h0_schedule, .inl (cy 1, 64, .inl c_schedule_28)), (h0_sums, .inl (cy 1, 8, .inl c_sums_29)), (ha1, .inl (cy 0, n_a1, .inl ca1_30)), (ha3, .inl (cy 0, n_a3, .inl ca3))]) := hD
  refine W.eq (g2 := F0 m 61 ls []) rfl ?_
  cases hf
  exact W.vret (pc := 61) hx hb hr (fun t ht hW => ⟨rfl, ⟨by rw [ht]; exact hP, hD⟩, hS.F ht⟩) hS.2.2 (zdt_at zt_X7_mac_0 34 rfl)
set_option maxHeartbeats 4000000 in
set_option maxRecDepth 100000 in
theorem c_X7_mac_6a3 (l : Launch) (D : va_G) (cy : Nat → ClassId) (tt : Nat → Nat) (sz : Nat) (h0 : Nat) (h0_sums : Nat) (h0_schedule : Nat) (h0_inner : Nat) (ha1 : Nat) (ha3 : Nat) (n_a1 : Nat) (n_a3 : Nat) (p2 : Int32) (p4 : Int32) (p5 : Int32) (p7 : Int32) (c_filled : Int32) (c_total : Int32) (c_inner : Nat → Int32) (c_schedule : Nat → Int32) (c_sums : Nat → Int32) (ca1 : Nat → Int32) (ca3 : Nat → Int32) (c_filled' : Int32) (c_total' : Int32) (c_inner' : Nat → Int32) (c_schedule' : Nat → Int32) (c_sums' : Nat → Int32) (ca3' : Nat → Int32) (hf : f_X7_mac_6a3 n_a1 n_a3 p2 p4 p5 p7 c_filled c_total c_inner c_schedule c_sums ca1 ca3 = some (c_filled', c_total', c_inner', c_schedule', c_sums', ca3')) : Met l yX7_mac wsX7_mac ({ frames := 3, cells := 0, slots := 0, locals := 84 }) (zPc D cy tt sz [.ref h0, .ref ha1, .int p2, .ref ha3, .int p4, .int p5, .ref ha3, .int p7] ([(h0, .inr (9, [.ref h0_sums, .ref h0_schedule, .ref h0_inner, .int c_filled, .int c_total])), (h0_inner, .inl (cy 0, 32, .inl c_inner)), (h0_schedule, .inl (cy 1, 64, .inl c_schedule)), (h0_sums, .inl (cy 1, 8, .inl c_sums)), (ha1, .inl (cy 0, n_a1, .inl ca1)), (ha3, .inl (cy 0, n_a3, .inl ca3))])) (zQ D none ([(h0, .inr (9, [.ref h0_sums, .ref h0_schedule, .ref h0_inner, .int c_filled', .int c_total'])), (h0_inner, .inl (cy 0, 32, .inl c_inner')), (h0_schedule, .inl (cy 1, 64, .inl c_schedule')), (h0_sums, .inl (cy 1, 8, .inl c_sums')), (ha1, .inl (cy 0, n_a1, .inl ca1)), (ha3, .inl (cy 0, n_a3, .inl ca3'))]) (va_A ([(h0, .inr (9, [.ref h0_sums, .ref h0_schedule, .ref h0_inner, .int c_filled, .int c_total])), (h0_inner, .inl (cy 0, 32, .inl c_inner)), (h0_schedule, .inl (cy 1, 64, .inl c_schedule)), (h0_sums, .inl (cy 1, 8, .inl c_sums)), (ha1, .inl (cy 0, n_a1, .inl ca1)), (ha3, .inl (cy 0, n_a3, .inl ca3))]) sz)) 0 0 (va_A ([(h0, .inr (9, [.ref h0_sums, .ref h0_schedule, .ref h0_inner, .int c_filled, .int c_total])), (h0_inner, .inl (cy 0, 32, .inl c_inner)), (h0_schedule, .inl (cy 1, 64, .inl c_schedule)), (h0_sums, .inl (cy 1, 8, .inl c_sums)), (ha1, .inl (cy 0, n_a1, .inl ca1)), (ha3, .inl (cy 0, n_a3, .inl ca3))]) sz) := by
  refine Met.ofW (cc := cX7_mac) (maxL := 8) (ret := none) (by decide) rfl ?_
  intro p e s m args below meth c s₁ B hml hv
  obtain ⟨rfl, rfl, hP, hD0, hE⟩ := hv
  have hx := B.exec
  have hb := B.bytes
  have hr := B.returns
  have hts := atoms_spec (ws := wsX7_mac) B.pre
  have hown : s.vm.findClass RX7 = some m.cls := findClass_of_methodNamed B.named
  have hlocks := B.notSynchronized
  clear B
  have hD := hD0.self (sz := s.heap.size)
  generalize hAe : va_A ([(h0, .inr (9, [.ref h0_sums, .ref h0_schedule, .ref h0_inner, .int c_filled, .int c_total])), (h0_inner, .inl (cy 0, 32, .inl c_inner)), (h0_schedule, .inl (cy 1, 64, .inl c_schedule)), (h0_sums, .inl (cy 1, 8, .inl c_sums)), (ha1, .inl (cy 0, n_a1, .inl ca1)), (ha3, .inl (cy 0, n_a3, .inl ca3))]) s.heap.size = A at hD hE ⊢
  have hA : ∀ q : Nat, s.heap.size ≤ q → A q := fun q h => by rw [← hAe]; exact Or.inr h
  clear hAe hD0
  have hS : va_S A s.heap s.heap [] := va_S.rf
  have hK := hE.1
  have hw0 := hts (.fieldLink RX7 18 "SealedModule$Sha256" "inner" "[B") (by decide +kernel)
  have hcX7 : ∀ w ∈ u_ws RX7 TX7 5, w ∈ wsX7_mac := (fun _ h => List.mem_cons_of_mem _ (List.mem_append_left _ (List.mem_append_right _ h)))
  have hl := lv_entry ([.ref h0, .ref ha1, .int p2, .ref ha3, .int p4, .int p5, .ref ha3, .int p7]) (n := 8) (Nat.le_of_ble_eq_true rfl)
  rw [lg_entry_eq]
  generalize (lg_sl ([.ref h0, .ref ha1, .int p2, .ref ha3, .int p4, .int p5, .ref ha3, .int p7]) ++ List.replicate (8 - (lg_sl ([.ref h0, .ref ha1, .int p2, .ref ha3, .int p4, .int p5, .ref ha3, .int p7])).length) Slot.unset).toArray = ls at hl ⊢
  replace hl : lv_has ls 8 [(0, .ref h0), (1, .ref ha1), (2, .int p2), (3, .ref ha3), (4, .int p4), (5, .int p5), (6, .ref ha3), (7, .int p7)] := hl
  unfold f_X7_mac_6a3 at hf
  refine zgo (fun GW hTo hFr => ?_)
  refine hFr _ _ _ ?_
  obtain ⟨H, hHe⟩ : ∃ H, H = s.heap := ⟨_, rfl⟩
  obtain ⟨locs, hLe⟩ : ∃ L : List Loc, L = [] := ⟨_, rfl⟩
  rw [← hHe] at hP
  replace hS : va_S A s.heap H locs := by rw [hHe, hLe]; exact hS
  refine zat hHe.symm hLe.symm ?_
  clear hHe hLe
  refine lv_aload_n (pc := 0) hx hb (zdt_at zt_X7_mac_0 0 rfl) rfl (lv_at hl 0 rfl) ?_
  replace hf := zb_s hf
  obtain ⟨⟨c_filled_1, c_total_2, c_sums_3⟩, hc_, hf⟩ := hf
  refine zcn2 (pc := 1) (rv := none) (va_runV (As := []) (rest := []) ⟨hx, hb, hml, hown, hts⟩ (c_X7_begin l D cy tt H.size h0 h0_sums h0_schedule h0_inner c_filled c_total c_sums c_filled_1 c_total_2 c_sums_3 hc_) (cwV 0 hts gX7_mac_X7_begin rfl rfl rfl (by decide +kernel) ⟨Nat.le_of_ble_eq_true rfl, Nat.le_of_ble_eq_true rfl⟩) ⟨zblind, va_recv hK hP (ci := 9) (q0 := 0) rfl rfl, zpre hE hS (hP.sub [0, 3] rfl) (hD.sub [0, 3] (by decide) rfl) (va_free hD hS hA [0, 3] rfl)⟩ rfl rfl hl.1 rfl (lv_room (Nat.le_of_ble_eq_true rfl)) (zdt_at zt_X7_mac_0 1 rfl) ⟨Nat.zero_le _, Nat.zero_le _⟩) hS hP hD (va_free hD hS hA [0, 3] rfl) [0, 3] rfl (by decide) rfl ?_
  clear hP hD hS hc_
  intro H locs hP hD hS
  replace hP : va_P D vwCl ([(h0, .inr (9, [.ref h0_sums, .ref h0_schedule, .ref h0_inner, .int c_filled_1, .int c_total_2])), (h0_inner, .inl (cy 0, 32, .inl c_inner)), (h0_schedule, .inl (cy 1, 64, .inl c_schedule)), (h0_sums, .inl (cy 1, 8, .inl c_sums_3)), (ha1, .inl (cy 0, n_a1, .inl ca1)), (ha3, .inl (cy 0, n_a3, .inl ca3))]) H := hP
  replace hD : va_D A ([(h0, .inr (9, [.ref h0_sums, .ref h0_schedule, .ref h0_inner, .int c_filled_1, .int c_total_2])), (h0_inner, .inl (cy 0, 32, .inl c_inner)), (h0_schedule, .inl (cy 1, 64, .inl c_schedule)), (h0_sums, .inl (cy 1, 8, .inl c_sums_3)), (ha1, .inl (cy 0, n_a1, .inl ca1)), (ha3, .inl (cy 0, n_a3, .inl ca3))]) := hD
  refine W.eq (g2 := F0 m 4 ls []) rfl ?_
  refine lv_aload_n (pc := 4) hx hb (zdt_at zt_X7_mac_0 2 rfl) rfl (lv_at hl 0 rfl) ?_
  refine lv_aload_n (pc := 5) hx hb (zdt_at zt_X7_mac_0 3 rfl) rfl (lv_at hl 1 rfl) ?_
  refine lv_iload_n (pc := 6) hx hb (zdt_at zt_X7_mac_0 4 rfl) rfl (lv_at hl 2 rfl) ?_
  refine lv_bipush (pc := 7) (v := (54 : Int32)) hx hb (zdt_at zt_X7_mac_0 5 rfl) (by decide) ?_
  replace hf := zb_s hf
  obtain ⟨⟨c_filled_4, c_total_5, c_schedule_6, c_sums_7⟩, hc_, hf⟩ := hf
  refine zcn2 (pc := 9) (rv := none) (va_runV (As := [.ref ha1, .int p2, .int (54 : Int32)]) (rest := []) ⟨hx, hb, hml, hown, hts⟩ (c_X7_takePadded l D cy tt H.size h0 h0_sums h0_schedule h0_inner ha1 n_a1 p2 (54 : Int32) c_filled_1 c_total_2 c_schedule c_sums_3 ca1 c_filled_4 c_total_5 c_schedule_6 c_sums_7 hc_) (cwV 3 hts gX7_mac_X7_takePadded rfl rfl rfl (by decide +kernel) ⟨Nat.le_of_ble_eq_true rfl, Nat.le_of_ble_eq_true rfl⟩) ⟨zblind, va_recv hK hP (ci := 9) (q0 := 0) rfl rfl, zpre hE hS (hP.sub [0, 2, 3, 4] rfl) (hD.sub [0, 2, 3, 4] (by decide) rfl) (va_free hD hS hA [0, 2, 3, 4] rfl)⟩ rfl rfl hl.1 rfl (lv_room (Nat.le_of_ble_eq_true rfl)) (zdt_at zt_X7_mac_0 6 rfl) ⟨Nat.zero_le _, Nat.zero_le _⟩) hS hP hD (va_free hD hS hA [0, 2, 3, 4] rfl) [0, 2, 3, 4] rfl (by decide) rfl ?_
  clear hP hD hS hc_
  intro H locs hP hD hS
  replace hP : va_P D vwCl ([(h0, .inr (9, [.ref h0_sums, .ref h0_schedule, .ref h0_inner, .int c_filled_4, .int c_total_5])), (h0_inner, .inl (cy 0, 32, .inl c_inner)), (h0_schedule, .inl (cy 1, 64, .inl c_schedule_6)), (h0_sums, .inl (cy 1, 8, .inl c_sums_7)), (ha1, .inl (cy 0, n_a1, .inl ca1)), (ha3, .inl (cy 0, n_a3, .inl ca3))]) H := hP
  replace hD : va_D A ([(h0, .inr (9, [.ref h0_sums, .ref h0_schedule, .ref h0_inner, .int c_filled_4, .int c_total_5])), (h0_inner, .inl (cy 0, 32, .inl c_inner)), (h0_schedule, .inl (cy 1, 64, .inl c_schedule_6)), (h0_sums, .inl (cy 1, 8, .inl c_sums_7)), (ha1, .inl (cy 0, n_a1, .inl ca1)), (ha3, .inl (cy 0, n_a3, .inl ca3))]) := hD
  refine W.eq (g2 := F0 m 12 ls []) rfl ?_
  refine lv_aload_n (pc := 12) hx hb (zdt_at zt_X7_mac_0 7 rfl) rfl (lv_at hl 0 rfl) ?_
  refine lv_aload_n (pc := 13) hx hb (zdt_at zt_X7_mac_0 8 rfl) rfl (lv_at hl 3 rfl) ?_
  refine lv_iload (pc := 14) hx hb (zdt_at zt_X7_mac_0 9 rfl) (lv_at hl 4 rfl) ?_
  refine lv_iload (pc := 16) hx hb (zdt_at zt_X7_mac_0 10 rfl) (lv_at hl 5 rfl) ?_
  replace hf := zb_s hf
  obtain ⟨⟨c_filled_8, c_total_9, c_schedule_10, c_sums_11⟩, hc_, hf⟩ := hf
  refine zcn2 (pc := 18) (rv := none) (va_runV (As := [.ref ha3, .int p4, .int p5]) (rest := []) ⟨hx, hb, hml, hown, hts⟩ (c_X7_take l D cy tt H.size h0 h0_sums h0_schedule h0_inner ha3 n_a3 p4 p5 c_filled_4 c_total_5 c_schedule_6 c_sums_7 ca3 c_filled_8 c_total_9 c_schedule_10 c_sums_11 hc_) (cwV 3 hts gX7_mac_X7_take rfl rfl rfl (by decide +kernel) ⟨Nat.le_of_ble_eq_true rfl, Nat.le_of_ble_eq_true rfl⟩) ⟨zblind, va_recv hK hP (ci := 9) (q0 := 0) rfl rfl, zpre hE hS (hP.sub [0, 2, 3, 5] rfl) (hD.sub [0, 2, 3, 5] (by decide) rfl) (va_free hD hS hA [0, 2, 3, 5] rfl)⟩ rfl rfl hl.1 rfl (lv_room (Nat.le_of_ble_eq_true rfl)) (zdt_at zt_X7_mac_0 11 rfl) ⟨Nat.zero_le _, Nat.zero_le _⟩) hS hP hD (va_free hD hS hA [0, 2, 3, 5] rfl) [0, 2, 3, 5] rfl (by decide) rfl ?_
  clear hP hD hS hc_
  intro H locs hP hD hS
  replace hP : va_P D vwCl ([(h0, .inr (9, [.ref h0_sums, .ref h0_schedule, .ref h0_inner, .int c_filled_8, .int c_total_9])), (h0_inner, .inl (cy 0, 32, .inl c_inner)), (h0_schedule, .inl (cy 1, 64, .inl c_schedule_10)), (h0_sums, .inl (cy 1, 8, .inl c_sums_11)), (ha1, .inl (cy 0, n_a1, .inl ca1)), (ha3, .inl (cy 0, n_a3, .inl ca3))]) H := hP
  replace hD : va_D A ([(h0, .inr (9, [.ref h0_sums, .ref h0_schedule, .ref h0_inner, .int c_filled_8, .int c_total_9])), (h0_inner, .inl (cy 0, 32, .inl c_inner)), (h0_schedule, .inl (cy 1, 64, .inl c_schedule_10)), (h0_sums, .inl (cy 1, 8, .inl c_sums_11)), (ha1, .inl (cy 0, n_a1, .inl ca1)), (ha3, .inl (cy 0, n_a3, .inl ca3))]) := hD
  refine W.eq (g2 := F0 m 21 ls []) rfl ?_
  refine lv_aload_n (pc := 21) hx hb (zdt_at zt_X7_mac_0 12 rfl) rfl (lv_at hl 0 rfl) ?_
  refine lv_aload_n (pc := 22) hx hb (zdt_at zt_X7_mac_0 13 rfl) rfl (lv_at hl 0 rfl) ?_
  refine va_get (pc := 23) (D := D) (ci := 9) (v := .ref h0_inner) (C := RX7) (T := TX7) (N := 5) hx hb hts hcX7 hown hK hP 0 rfl rfl 2 (by decide) hw0 (fun _ h9 => h9) rfl (zdt_at zt_X7_mac_0 14 rfl) ?_
  refine lv_iconst (pc := 26) (v := (0 : Int32)) hx hb (zdt_at zt_X7_mac_0 15 rfl) (by decide) ?_
  replace hf := zb_s hf
  obtain ⟨⟨c_filled_12, c_inner_13, c_schedule_14, c_sums_15⟩, hc_, hf⟩ := hf
  refine zcn2 (pc := 27) (rv := none) (va_runV (As := [.ref h0_inner, .int (0 : Int32)]) (rest := []) ⟨hx, hb, hml, hown, hts⟩ (c_X7_end_1t_inner l D cy tt H.size h0 h0_sums h0_schedule h0_inner (0 : Int32) c_filled_8 c_total_9 c_inner c_schedule_10 c_sums_11 c_filled_12 c_inner_13 c_schedule_14 c_sums_15 hc_) (cwV 2 hts gX7_mac_X7_end rfl rfl rfl (by decide +kernel) ⟨Nat.le_of_ble_eq_true rfl, Nat.le_of_ble_eq_true rfl⟩) ⟨zblind, va_recv hK hP (ci := 9) (q0 := 0) rfl rfl, zpre hE hS (hP.sub [0, 1, 2, 3] rfl) (hD.sub [0, 1, 2, 3] (by decide) rfl) (va_free hD hS hA [0, 1, 2, 3] rfl)⟩ rfl rfl hl.1 rfl (lv_room (Nat.le_of_ble_eq_true rfl)) (zdt_at zt_X7_mac_0 16 rfl) ⟨Nat.zero_le _, Nat.zero_le _⟩) hS hP hD (va_free hD hS hA [0, 1, 2, 3] rfl) [0, 1, 2, 3] rfl (by decide) rfl ?_
  clear hP hD hS hc_
  intro H locs hP hD hS
  replace hP : va_P D vwCl ([(h0, .inr (9, [.ref h0_sums, .ref h0_schedule, .ref h0_inner, .int c_filled_12, .int c_total_9])), (h0_inner, .inl (cy 0, 32, .inl c_inner_13)), (h0_schedule, .inl (cy 1, 64, .inl c_schedule_14)), (h0_sums, .inl (cy 1, 8, .inl c_sums_15)), (ha1, .inl (cy 0, n_a1, .inl ca1)), (ha3, .inl (cy 0, n_a3, .inl ca3))]) H := hP
  replace hD : va_D A ([(h0, .inr (9, [.ref h0_sums, .ref h0_schedule, .ref h0_inner, .int c_filled_12, .int c_total_9])), (h0_inner, .inl (cy 0, 32, .inl c_inner_13)), (h0_schedule, .inl (cy 1, 64, .inl c_schedule_14)), (h0_sums, .inl (cy 1, 8, .inl c_sums_15)), (ha1, .inl (cy 0, n_a1, .inl ca1)), (ha3, .inl (cy 0, n_a3, .inl ca3))]) := hD
  refine W.eq (g2 := F0 m 30 ls []) rfl ?_
  refine lv_aload_n (pc := 30) hx hb (zdt_at zt_X7_mac_0 17 rfl) rfl (lv_at hl 0 rfl) ?_
  replace hf := zb_s hf
  obtain ⟨⟨c_filled_16, c_total_17, c_sums_18⟩, hc_, hf⟩ := hf
  refine zcn2 (pc := 31) (rv := none) (va_runV (As := []) (rest := []) ⟨hx, hb, hml, hown, hts⟩ (c_X7_begin l D cy tt H.size h0 h0_sums h0_schedule h0_inner c_filled_12 c_total_9 c_sums_15 c_filled_16 c_total_17 c_sums_18 hc_) (cwV 0 hts gX7_mac_X7_begin rfl rfl rfl (by decide +kernel) ⟨Nat.le_of_ble_eq_true rfl, Nat.le_of_ble_eq_true rfl⟩) ⟨zblind, va_recv hK hP (ci := 9) (q0 := 0) rfl rfl, zpre hE hS (hP.sub [0, 3] rfl) (hD.sub [0, 3] (by decide) rfl) (va_free hD hS hA [0, 3] rfl)⟩ rfl rfl hl.1 rfl (lv_room (Nat.le_of_ble_eq_true rfl)) (zdt_at zt_X7_mac_0 18 rfl) ⟨Nat.zero_le _, Nat.zero_le _⟩) hS hP hD (va_free hD hS hA [0, 3] rfl) [0, 3] rfl (by decide) rfl ?_
  clear hP hD hS hc_
  intro H locs hP hD hS
  replace hP : va_P D vwCl ([(h0, .inr (9, [.ref h0_sums, .ref h0_schedule, .ref h0_inner, .int c_filled_16, .int c_total_17])), (h0_inner, .inl (cy 0, 32, .inl c_inner_13)), (h0_schedule, .inl (cy 1, 64, .inl c_schedule_14)), (h0_sums, .inl (cy 1, 8, .inl c_sums_18)), (ha1, .inl (cy 0, n_a1, .inl ca1)), (ha3, .inl (cy 0, n_a3, .inl ca3))]) H := hP
  replace hD : va_D A ([(h0, .inr (9, [.ref h0_sums, .ref h0_schedule, .ref h0_inner, .int c_filled_16, .int c_total_17])), (h0_inner, .inl (cy 0, 32, .inl c_inner_13)), (h0_schedule, .inl (cy 1, 64, .inl c_schedule_14)), (h0_sums, .inl (cy 1, 8, .inl c_sums_18)), (ha1, .inl (cy 0, n_a1, .inl ca1)), (ha3, .inl (cy 0, n_a3, .inl ca3))]) := hD
  refine W.eq (g2 := F0 m 34 ls []) rfl ?_
  refine lv_aload_n (pc := 34) hx hb (zdt_at zt_X7_mac_0 19 rfl) rfl (lv_at hl 0 rfl) ?_
  refine lv_aload_n (pc := 35) hx hb (zdt_at zt_X7_mac_0 20 rfl) rfl (lv_at hl 1 rfl) ?_
  refine lv_iload_n (pc := 36) hx hb (zdt_at zt_X7_mac_0 21 rfl) rfl (lv_at hl 2 rfl) ?_
  refine lv_bipush (pc := 37) (v := (92 : Int32)) hx hb (zdt_at zt_X7_mac_0 22 rfl) (by decide) ?_
  replace hf := zb_s hf
  obtain ⟨⟨c_filled_19, c_total_20, c_schedule_21, c_sums_22⟩, hc_, hf⟩ := hf
  refine zcn2 (pc := 39) (rv := none) (va_runV (As := [.ref ha1, .int p2, .int (92 : Int32)]) (rest := []) ⟨hx, hb, hml, hown, hts⟩ (c_X7_takePadded l D cy tt H.size h0 h0_sums h0_schedule h0_inner ha1 n_a1 p2 (92 : Int32) c_filled_16 c_total_17 c_schedule_14 c_sums_18 ca1 c_filled_19 c_total_20 c_schedule_21 c_sums_22 hc_) (cwV 3 hts gX7_mac_X7_takePadded rfl rfl rfl (by decide +kernel) ⟨Nat.le_of_ble_eq_true rfl, Nat.le_of_ble_eq_true rfl⟩) ⟨zblind, va_recv hK hP (ci := 9) (q0 := 0) rfl rfl, zpre hE hS (hP.sub [0, 2, 3, 4] rfl) (hD.sub [0, 2, 3, 4] (by decide) rfl) (va_free hD hS hA [0, 2, 3, 4] rfl)⟩ rfl rfl hl.1 rfl (lv_room (Nat.le_of_ble_eq_true rfl)) (zdt_at zt_X7_mac_0 23 rfl) ⟨Nat.zero_le _, Nat.zero_le _⟩) hS hP hD (va_free hD hS hA [0, 2, 3, 4] rfl) [0, 2, 3, 4] rfl (by decide) rfl ?_
  clear hP hD hS hc_
  intro H locs hP hD hS
  replace hP : va_P D vwCl ([(h0, .inr (9, [.ref h0_sums, .ref h0_schedule, .ref h0_inner, .int c_filled_19, .int c_total_20])), (h0_inner, .inl (cy 0, 32, .inl c_inner_13)), (h0_schedule, .inl (cy 1, 64, .inl c_schedule_21)), (h0_sums, .inl (cy 1, 8, .inl c_sums_22)), (ha1, .inl (cy 0, n_a1, .inl ca1)), (ha3, .inl (cy 0, n_a3, .inl ca3))]) H := hP
  replace hD : va_D A ([(h0, .inr (9, [.ref h0_sums, .ref h0_schedule, .ref h0_inner, .int c_filled_19, .int c_total_20])), (h0_inner, .inl (cy 0, 32, .inl c_inner_13)), (h0_schedule, .inl (cy 1, 64, .inl c_schedule_21)), (h0_sums, .inl (cy 1, 8, .inl c_sums_22)), (ha1, .inl (cy 0, n_a1, .inl ca1)), (ha3, .inl (cy 0, n_a3, .inl ca3))]) := hD
  refine W.eq (g2 := F0 m 42 ls []) rfl ?_
  refine lv_aload_n (pc := 42) hx hb (zdt_at zt_X7_mac_0 24 rfl) rfl (lv_at hl 0 rfl) ?_
  refine lv_aload_n (pc := 43) hx hb (zdt_at zt_X7_mac_0 25 rfl) rfl (lv_at hl 0 rfl) ?_
  refine va_get (pc := 44) (D := D) (ci := 9) (v := .ref h0_inner) (C := RX7) (T := TX7) (N := 5) hx hb hts hcX7 hown hK hP 0 rfl rfl 2 (by decide) hw0 (fun _ h9 => h9) rfl (zdt_at zt_X7_mac_0 26 rfl) ?_
  refine lv_iconst (pc := 47) (v := (0 : Int32)) hx hb (zdt_at zt_X7_mac_0 27 rfl) (by decide) ?_
  refine lv_bipush (pc := 48) (v := (32 : Int32)) hx hb (zdt_at zt_X7_mac_0 28 rfl) (by decide) ?_
  replace hf := zb_s hf
  obtain ⟨⟨c_filled_23, c_total_24, c_schedule_25, c_sums_26⟩, hc_, hf⟩ := hf
  refine zcn2 (pc := 50) (rv := none) (va_runV (As := [.ref h0_inner, .int (0 : Int32), .int (32 : Int32)]) (rest := []) ⟨hx, hb, hml, hown, hts⟩ (c_X7_take_1t_inner l D cy tt H.size h0 h0_sums h0_schedule h0_inner (0 : Int32) (32 : Int32) c_filled_19 c_total_20 c_inner_13 c_schedule_21 c_sums_22 c_filled_23 c_total_24 c_schedule_25 c_sums_26 hc_) (cwV 3 hts gX7_mac_X7_take rfl rfl rfl (by decide +kernel) ⟨Nat.le_of_ble_eq_true rfl, Nat.le_of_ble_eq_true rfl⟩) ⟨zblind, va_recv hK hP (ci := 9) (q0 := 0) rfl rfl, zpre hE hS (hP.sub [0, 1, 2, 3] rfl) (hD.sub [0, 1, 2, 3] (by decide) rfl) (va_free hD hS hA [0, 1, 2, 3] rfl)⟩ rfl rfl hl.1 rfl (lv_room (Nat.le_of_ble_eq_true rfl)) (zdt_at zt_X7_mac_0 29 rfl) ⟨Nat.zero_le _, Nat.zero_le _⟩) hS hP hD (va_free hD hS hA [0, 1, 2, 3] rfl) [0, 1, 2, 3] rfl (by decide) rfl ?_
  clear hP hD hS hc_
  intro H locs hP hD hS
  replace hP : va_P D vwCl ([(h0, .inr (9, [.ref h0_sums, .ref h0_schedule, .ref h0_inner, .int c_filled_23, .int c_total_24])), (h0_inner, .inl (cy 0, 32, .inl c_inner_13)), (h0_schedule, .inl (cy 1, 64, .inl c_schedule_25)), (h0_sums, .inl (cy 1, 8, .inl c_sums_26)), (ha1, .inl (cy 0, n_a1, .inl ca1)), (ha3, .inl (cy 0, n_a3, .inl ca3))]) H := hP
  replace hD : va_D A ([(h0, .inr (9, [.ref h0_sums, .ref h0_schedule, .ref h0_inner, .int c_filled_23, .int c_total_24])), (h0_inner, .inl (cy 0, 32, .inl c_inner_13)), (h0_schedule, .inl (cy 1, 64, .inl c_schedule_25)), (h0_sums, .inl (cy 1, 8, .inl c_sums_26)), (ha1, .inl (cy 0, n_a1, .inl ca1)), (ha3, .inl (cy 0, n_a3, .inl ca3))]) := hD
  refine W.eq (g2 := F0 m 53 ls []) rfl ?_
  refine lv_aload_n (pc := 53) hx hb (zdt_at zt_X7_mac_0 30 rfl) rfl (lv_at hl 0 rfl) ?_
  refine lv_aload (pc := 54) hx hb (zdt_at zt_X7_mac_0 31 rfl) (lv_at hl 6 rfl) ?_
  refine lv_iload (pc := 56) hx hb (zdt_at zt_X7_mac_0 32 rfl) (lv_at hl 7 rfl) ?_
  replace hf := zb_s hf
  obtain ⟨⟨c_filled_27, c_schedule_28, c_sums_29, ca3_30⟩, hc_, hf⟩ := hf
  refine zcn2 (pc := 58) (rv := none) (va_runV (As := [.ref ha3, .int p7]) (rest := []) ⟨hx, hb, hml, hown, hts⟩ (c_X7_end l D cy tt H.size h0 h0_sums h0_schedule h0_inner ha3 n_a3 p7 c_filled_23 c_total_24 c_schedule_25 c_sums_26 ca3 c_filled_27 c_schedule_28 c_sums_29 ca3_30 hc_) (cwV 2 hts gX7_mac_X7_end rfl rfl rfl (by decide +kernel) ⟨Nat.le_of_ble_eq_true rfl, Nat.le_of_ble_eq_true rfl⟩) ⟨zblind, va_recv hK hP (ci := 9) (q0 := 0) rfl rfl, zpre hE hS (hP.sub [0, 2, 3, 5] rfl) (hD.sub [0, 2, 3, 5] (by decide) rfl) (va_free hD hS hA [0, 2, 3, 5] rfl)⟩ rfl rfl hl.1 rfl (lv_room (Nat.le_of_ble_eq_true rfl)) (zdt_at zt_X7_mac_0 33 rfl) ⟨Nat.zero_le _, Nat.zero_le _⟩) hS hP hD (va_free hD hS hA [0, 2, 3, 5] rfl) [0, 2, 3, 5] rfl (by decide) rfl ?_
  clear hP hD hS hc_
  intro H locs hP hD hS
  replace hP : va_P D vwCl ([(h0, .inr (9, [.ref h0_sums, .ref h0_schedule, .ref h0_inner, .int c_filled_27, .int c_total_24])), (h0_inner, .inl (cy 0, 32, .inl c_inner_13)), (h0_schedule, .inl (cy 1, 64, .inl c_schedule_28)), (h0_sums, .inl (cy 1, 8, .inl c_sums_29)), (ha1, .inl (cy 0, n_a1, .inl ca1)), (ha3, .inl (cy 0, n_a3, .inl ca3_30))]) H := hP
  replace hD : va_D A ([(h0, .inr (9, [.ref h0_sums, .ref h0_schedule, .ref h0_inner, .int c_filled_27, .int c_total_24])), (h0_inner, .inl (cy 0, 32, .inl c_inner_13)), (h0_schedule, .inl (cy 1, 64, .inl c_schedule_28)), (h0_sums, .inl (cy 1, 8, .inl c_sums_29)), (ha1, .inl (cy 0, n_a1, .inl ca1)), (ha3, .inl (cy 0, n_a3, .inl ca3_30))]) := hD
  refine W.eq (g2 := F0 m 61 ls []) rfl ?_
  cases hf
  exact W.vret (pc := 61) hx hb hr (fun t ht hW => ⟨rfl, ⟨by rw [ht]; exact hP, hD⟩, hS.F ht⟩) hS.2.2 (zdt_at zt_X7_mac_0 34 rfl)
set_option maxHeartbeats 4000000 in
set_option maxRecDepth 100000 in
theorem c_X3_update (l : Launch) (D : va_G) (cy : Nat → ClassId) (tt : Nat → Nat) (sz : Nat) (h0 : Nat) (h0_sha : Nat) (h0_key : Nat) (h0_value : Nat) (h0_message : Nat) (h0_sha_sums : Nat) (h0_sha_schedule : Nat) (h0_sha_inner : Nat) (ha1 : Nat) (n_a1 : Nat) (p2 : Int32) (c_key : Nat → Int32) (c_message : Nat → Int32) (c_sha_filled : Int32) (c_sha_total : Int32) (c_sha_inner : Nat → Int32) (c_sha_schedule : Nat → Int32) (c_sha_sums : Nat → Int32) (c_value : Nat → Int32) (ca1 : Nat → Int32) (c_begun : Int32) (c_requests : Int32) (c_key' : Nat → Int32) (c_message' : Nat → Int32) (c_sha_filled' : Int32) (c_sha_total' : Int32) (c_sha_inner' : Nat → Int32) (c_sha_schedule' : Nat → Int32) (c_sha_sums' : Nat → Int32) (c_value' : Nat → Int32) (hf : f_X3_update n_a1 p2 c_key c_message c_sha_filled c_sha_total c_sha_inner c_sha_schedule c_sha_sums c_value ca1 = some (c_key', c_message', c_sha_filled', c_sha_total', c_sha_inner', c_sha_schedule', c_sha_sums', c_value')) : Met l yX3_update wsX3_update ({ frames := 4, cells := 0, slots := 0, locals := 111 }) (zPc D cy tt sz [.ref h0, .ref ha1, .int p2] ([(h0, .inr (5, [.ref h0_sha, .ref h0_key, .ref h0_value, .ref h0_message, .int c_begun, .int c_requests])), (h0_key, .inl (cy 0, 32, .inl c_key)), (h0_message, .inl (cy 0, 97, .inl c_message)), (h0_sha, .inr (9, [.ref h0_sha_sums, .ref h0_sha_schedule, .ref h0_sha_inner, .int c_sha_filled, .int c_sha_total])), (h0_sha_inner, .inl (cy 0, 32, .inl c_sha_inner)), (h0_sha_schedule, .inl (cy 1, 64, .inl c_sha_schedule)), (h0_sha_sums, .inl (cy 1, 8, .inl c_sha_sums)), (h0_value, .inl (cy 0, 32, .inl c_value)), (ha1, .inl (cy 0, n_a1, .inl ca1))])) (zQ D none ([(h0, .inr (5, [.ref h0_sha, .ref h0_key, .ref h0_value, .ref h0_message, .int c_begun, .int c_requests])), (h0_key, .inl (cy 0, 32, .inl c_key')), (h0_message, .inl (cy 0, 97, .inl c_message')), (h0_sha, .inr (9, [.ref h0_sha_sums, .ref h0_sha_schedule, .ref h0_sha_inner, .int c_sha_filled', .int c_sha_total'])), (h0_sha_inner, .inl (cy 0, 32, .inl c_sha_inner')), (h0_sha_schedule, .inl (cy 1, 64, .inl c_sha_schedule')), (h0_sha_sums, .inl (cy 1, 8, .inl c_sha_sums')), (h0_value, .inl (cy 0, 32, .inl c_value')), (ha1, .inl (cy 0, n_a1, .inl ca1))]) (va_A ([(h0, .inr (5, [.ref h0_sha, .ref h0_key, .ref h0_value, .ref h0_message, .int c_begun, .int c_requests])), (h0_key, .inl (cy 0, 32, .inl c_key)), (h0_message, .inl (cy 0, 97, .inl c_message)), (h0_sha, .inr (9, [.ref h0_sha_sums, .ref h0_sha_schedule, .ref h0_sha_inner, .int c_sha_filled, .int c_sha_total])), (h0_sha_inner, .inl (cy 0, 32, .inl c_sha_inner)), (h0_sha_schedule, .inl (cy 1, 64, .inl c_sha_schedule)), (h0_sha_sums, .inl (cy 1, 8, .inl c_sha_sums)), (h0_value, .inl (cy 0, 32, .inl c_value)), (ha1, .inl (cy 0, n_a1, .inl ca1))]) sz)) 0 0 (va_A ([(h0, .inr (5, [.ref h0_sha, .ref h0_key, .ref h0_value, .ref h0_message, .int c_begun, .int c_requests])), (h0_key, .inl (cy 0, 32, .inl c_key)), (h0_message, .inl (cy 0, 97, .inl c_message)), (h0_sha, .inr (9, [.ref h0_sha_sums, .ref h0_sha_schedule, .ref h0_sha_inner, .int c_sha_filled, .int c_sha_total])), (h0_sha_inner, .inl (cy 0, 32, .inl c_sha_inner)), (h0_sha_schedule, .inl (cy 1, 64, .inl c_sha_schedule)), (h0_sha_sums, .inl (cy 1, 8, .inl c_sha_sums)), (h0_value, .inl (cy 0, 32, .inl c_value)), (ha1, .inl (cy 0, n_a1, .inl ca1))]) sz) := by
  refine Met.ofW (cc := cX3_update) (maxL := 5) (ret := none) (by decide) rfl ?_
  intro p e s m args below meth c s₁ B hml hv
  obtain ⟨rfl, rfl, hP, hD0, hE⟩ := hv
  have hx := B.exec
  have hb := B.bytes
  have hr := B.returns
  have hts := atoms_spec (ws := wsX3_update) B.pre
  have hown : s.vm.findClass RX3 = some m.cls := findClass_of_methodNamed B.named
  have hlocks := B.notSynchronized
  clear B
  have hD := hD0.self (sz := s.heap.size)
  generalize hAe : va_A ([(h0, .inr (5, [.ref h0_sha, .ref h0_key, .ref h0_value, .ref h0_message, .int c_begun, .int c_requests])), (h0_key, .inl (cy 0, 32, .inl c_key)), (h0_message, .inl (cy 0, 97, .inl c_message)), (h0_sha, .inr (9, [.ref h0_sha_sums, .ref h0_sha_schedule, .ref h0_sha_inner, .int c_sha_filled, .int c_sha_total])), (h0_sha_inner, .inl (cy 0, 32, .inl c_sha_inner)), (h0_sha_schedule, .inl (cy 1, 64, .inl c_sha_schedule)), (h0_sha_sums, .inl (cy 1, 8, .inl c_sha_sums)), (h0_value, .inl (cy 0, 32, .inl c_value)), (ha1, .inl (cy 0, n_a1, .inl ca1))]) s.heap.size = A at hD hE ⊢
  have hA : ∀ q : Nat, s.heap.size ≤ q → A q := fun q h => by rw [← hAe]; exact Or.inr h
  clear hAe hD0
  have hS : va_S A s.heap s.heap [] := va_S.rf
  have hK := hE.1
  have hw0 := hts (.fieldLink RX3 15 "SealedModule$Generator" "value" "[B") (by decide +kernel)
  have hw1 := hts (.fieldLink RX3 18 "SealedModule$Generator" "message" "[B") (by decide +kernel)
  have hw2 := hts (.methodLink RX3 55 arraycopyName) (by decide +kernel)
  have hw3 := hts (.native arraycopyName) (by decide +kernel)
  have hw4 := hts (.static arraycopyName) (by decide +kernel)
  have hw5 := hts (.initialized "java/lang/System") (by decide +kernel)
  have hw6 := hts (.fieldLink RX3 29 "SealedModule$Generator" "sha" "LSealedModule$Sha256;") (by decide +kernel)
  have hw7 := hts (.fieldLink RX3 9 "SealedModule$Generator" "key" "[B") (by decide +kernel)
  have hcX3 : ∀ w ∈ u_ws RX3 TX3 6, w ∈ wsX3_update := (fun _ h => List.mem_cons_of_mem _ (List.mem_append_left _ (List.mem_append_left _ (List.mem_append_right _ h))))
  have hl := lv_entry ([.ref h0, .ref ha1, .int p2]) (n := 5) (Nat.le_of_ble_eq_true rfl)
  rw [lg_entry_eq]
  generalize (lg_sl ([.ref h0, .ref ha1, .int p2]) ++ List.replicate (5 - (lg_sl ([.ref h0, .ref ha1, .int p2])).length) Slot.unset).toArray = ls at hl ⊢
  replace hl : lv_has ls 5 [(0, .ref h0), (1, .ref ha1), (2, .int p2)] := hl
  unfold f_X3_update at hf
  refine zgo (fun GW hTo hFr => ?_)
  refine hFr _ _ _ ?_
  obtain ⟨H, hHe⟩ : ∃ H, H = s.heap := ⟨_, rfl⟩
  obtain ⟨locs, hLe⟩ : ∃ L : List Loc, L = [] := ⟨_, rfl⟩
  rw [← hHe] at hP
  replace hS : va_S A s.heap H locs := by rw [hHe, hLe]; exact hS
  refine zat hHe.symm hLe.symm ?_
  clear hHe hLe
  refine lv_iload_n (pc := 0) hx hb (zdt_at zt_X3_update_0 0 rfl) rfl (lv_at hl 2 rfl) ?_
  replace hf := zj_s hf
  obtain ⟨K_2, eK_2, hf⟩ := hf
  have kK_2 : ∀ (v_1 : Int32) (H : Heap) (locs : List Loc) (ls : Array Slot), va_P D vwCl ([(h0, .inr (5, [.ref h0_sha, .ref h0_key, .ref h0_value, .ref h0_message, .int c_begun, .int c_requests])), (h0_key, .inl (cy 0, 32, .inl c_key)), (h0_message, .inl (cy 0, 97, .inl c_message)), (h0_sha, .inr (9, [.ref h0_sha_sums, .ref h0_sha_schedule, .ref h0_sha_inner, .int c_sha_filled, .int c_sha_total])), (h0_sha_inner, .inl (cy 0, 32, .inl c_sha_inner)), (h0_sha_schedule, .inl (cy 1, 64, .inl c_sha_schedule)), (h0_sha_sums, .inl (cy 1, 8, .inl c_sha_sums)), (h0_value, .inl (cy 0, 32, .inl c_value)), (ha1, .inl (cy 0, n_a1, .inl ca1))]) H → va_D A ([(h0, .inr (5, [.ref h0_sha, .ref h0_key, .ref h0_value, .ref h0_message, .int c_begun, .int c_requests])), (h0_key, .inl (cy 0, 32, .inl c_key)), (h0_message, .inl (cy 0, 97, .inl c_message)), (h0_sha, .inr (9, [.ref h0_sha_sums, .ref h0_sha_schedule, .ref h0_sha_inner, .int c_sha_filled, .int c_sha_total])), (h0_sha_inner, .inl (cy 0, 32, .inl c_sha_inner)), (h0_sha_schedule, .inl (cy 1, 64, .inl c_sha_schedule)), (h0_sha_sums, .inl (cy 1, 8, .inl c_sha_sums)), (h0_value, .inl (cy 0, 32, .inl c_value)), (ha1, .inl (cy 0, n_a1, .inl ca1))]) → va_S A s.heap H locs → lv_has ls 5 [(0, .ref h0), (1, .ref ha1), (2, .int p2)] → K_2 v_1 = some (c_key', c_message', c_sha_filled', c_sha_total', c_sha_inner', c_sha_schedule', c_sha_sums', c_value') → GW H locs (F0 m 9 ls [.int v_1]) := by
    clear hf hl hP hD hS
    intro v_1 H locs ls hP hD hS hl hf
    rw [eK_2] at hf
    clear eK_2
    refine hFr _ _ _ ?_
    refine lv_istore_n (pc := 9) (lv' := [(3, .int v_1), (0, .ref h0), (1, .ref ha1), (2, .int p2)]) hx hb (zdt_at zt_X3_update_0 5 rfl) rfl hl (by decide) rfl ?_
    clear hl
    intro ls hl
    refine lv_iconst (pc := 10) (v := (0 : Int32)) hx hb (zdt_at zt_X3_update_0 6 rfl) (by decide) ?_
    refine lv_istore (pc := 11) (lv' := [(4, .int (0 : Int32)), (3, .int v_1), (0, .ref h0), (1, .ref ha1), (2, .int p2)]) hx hb (zdt_at zt_X3_update_0 7 rfl) hl (by decide) rfl ?_
    clear hl
    intro ls hl
    replace hf := zj_s hf
    obtain ⟨K_20, eK_20, hf⟩ := hf
    have kK_20 : ∀ (c_key_12 : Nat → Int32) (c_message_13 : Nat → Int32) (c_sha_filled_14 : Int32) (c_sha_inner_15 : Nat → Int32) (c_sha_schedule_16 : Nat → Int32) (c_sha_sums_17 : Nat → Int32) (c_sha_total_18 : Int32) (c_value_19 : Nat → Int32) (H : Heap) (locs : List Loc) (ls : Array Slot), va_P D vwCl ([(h0, .inr (5, [.ref h0_sha, .ref h0_key, .ref h0_value, .ref h0_message, .int c_begun, .int c_requests])), (h0_key, .inl (cy 0, 32, .inl c_key_12)), (h0_message, .inl (cy 0, 97, .inl c_message_13)), (h0_sha, .inr (9, [.ref h0_sha_sums, .ref h0_sha_schedule, .ref h0_sha_inner, .int c_sha_filled_14, .int c_sha_total_18])), (h0_sha_inner, .inl (cy 0, 32, .inl c_sha_inner_15)), (h0_sha_schedule, .inl (cy 1, 64, .inl c_sha_schedule_16)), (h0_sha_sums, .inl (cy 1, 8, .inl c_sha_sums_17)), (h0_value, .inl (cy 0, 32, .inl c_value_19)), (ha1, .inl (cy 0, n_a1, .inl ca1))]) H → va_D A ([(h0, .inr (5, [.ref h0_sha, .ref h0_key, .ref h0_value, .ref h0_message, .int c_begun, .int c_requests])), (h0_key, .inl (cy 0, 32, .inl c_key_12)), (h0_message, .inl (cy 0, 97, .inl c_message_13)), (h0_sha, .inr (9, [.ref h0_sha_sums, .ref h0_sha_schedule, .ref h0_sha_inner, .int c_sha_filled_14, .int c_sha_total_18])), (h0_sha_inner, .inl (cy 0, 32, .inl c_sha_inner_15)), (h0_sha_schedule, .inl (cy 1, 64, .inl c_sha_schedule_16)), (h0_sha_sums, .inl (cy 1, 8, .inl c_sha_sums_17)), (h0_value, .inl (cy 0, 32, .inl c_value_19)), (ha1, .inl (cy 0, n_a1, .inl ca1))]) → va_S A s.heap H locs → lv_has ls 5 [] → K_20 c_key_12 c_message_13 c_sha_filled_14 c_sha_inner_15 c_sha_schedule_16 c_sha_sums_17 c_sha_total_18 c_value_19 = some (c_key', c_message', c_sha_filled', c_sha_total', c_sha_inner', c_sha_schedule', c_sha_sums', c_value') → GW H locs (F0 m 114 ls []) := by
      clear hf hl hP hD hS
      intro c_key_12 c_message_13 c_sha_filled_14 c_sha_inner_15 c_sha_schedule_16 c_sha_sums_17 c_sha_total_18 c_value_19 H locs ls hP hD hS hl hf
      rw [eK_20] at hf
      clear eK_20
      refine hFr _ _ _ ?_
      cases hf
      exact W.vret (pc := 114) hx hb hr (fun t ht hW => ⟨rfl, ⟨by rw [ht]; exact hP, hD⟩, hS.F ht⟩) hS.2.2 (zdt_at zt_X3_update_0 62 rfl)
    clear eK_20
    refine hTo _ _ _ (zl_go (fun z => match z with | (i_3, c_key_4, c_message_5, c_sha_filled_6, c_sha_inner_7, c_sha_schedule_8, c_sha_sums_9, c_sha_total_10, c_value_11) => ∀ (H : Heap) (locs : List Loc) (ls : Array Slot), va_P D vwCl ([(h0, .inr (5, [.ref h0_sha, .ref h0_key, .ref h0_value, .ref h0_message, .int c_begun, .int c_requests])), (h0_key, .inl (cy 0, 32, .inl c_key_4)), (h0_message, .inl (cy 0, 97, .inl c_message_5)), (h0_sha, .inr (9, [.ref h0_sha_sums, .ref h0_sha_schedule, .ref h0_sha_inner, .int c_sha_filled_6, .int c_sha_total_10])), (h0_sha_inner, .inl (cy 0, 32, .inl c_sha_inner_7)), (h0_sha_schedule, .inl (cy 1, 64, .inl c_sha_schedule_8)), (h0_sha_sums, .inl (cy 1, 8, .inl c_sha_sums_9)), (h0_value, .inl (cy 0, 32, .inl c_value_11)), (ha1, .inl (cy 0, n_a1, .inl ca1))]) H → va_D A ([(h0, .inr (5, [.ref h0_sha, .ref h0_key, .ref h0_value, .ref h0_message, .int c_begun, .int c_requests])), (h0_key, .inl (cy 0, 32, .inl c_key_4)), (h0_message, .inl (cy 0, 97, .inl c_message_5)), (h0_sha, .inr (9, [.ref h0_sha_sums, .ref h0_sha_schedule, .ref h0_sha_inner, .int c_sha_filled_6, .int c_sha_total_10])), (h0_sha_inner, .inl (cy 0, 32, .inl c_sha_inner_7)), (h0_sha_schedule, .inl (cy 1, 64, .inl c_sha_schedule_8)), (h0_sha_sums, .inl (cy 1, 8, .inl c_sha_sums_9)), (h0_value, .inl (cy 0, 32, .inl c_value_11)), (ha1, .inl (cy 0, n_a1, .inl ca1))]) → va_S A s.heap H locs → lv_has ls 5 [(0, .ref h0), (1, .ref ha1), (2, .int p2), (3, .int v_1), (4, .int i_3)] → GW H locs (F0 m 13 ls [])) hf ?_ H locs ls hP hD hS (lv_sub hl [2, 3, 4, 1, 0] rfl))
    clear hf hl hP hD hS
    intro self_21 ihself_21 z hf
    obtain ⟨i_3, c_key_4, c_message_5, c_sha_filled_6, c_sha_inner_7, c_sha_schedule_8, c_sha_sums_9, c_sha_total_10, c_value_11⟩ := z
    intro H locs ls hP hD hS hl
    refine hFr _ _ _ ?_
    unfold b_X3_update_13 at hf
    refine lv_iload (pc := 13) hx hb (zdt_at zt_X3_update_0 8 rfl) (lv_at hl 4 rfl) ?_
    refine lv_iload_n (pc := 15) hx hb (zdt_at zt_X3_update_0 9 rfl) rfl (lv_at hl 3 rfl) ?_
    refine lv_icmp_ge (pc := 16) (tgt := 114) hx hb (zdt_at zt_X3_update_0 10 rfl) (by decide) (fun cn_ => ?t_22) (fun cn_ => ?f_23)
    case t_22 =>
      replace hf := zt_s cn_ hf
      clear cn_
      exact hTo _ _ _ (kK_20 _ _ _ _ _ _ _ _ H locs ls hP hD hS (lv_sub hl [] rfl) hf)
    replace hf := ze_s cn_ hf
    clear cn_
    refine lv_aload_n (pc := 19) hx hb (zdt_at zt_X3_update_0 11 rfl) rfl (lv_at hl 0 rfl) ?_
    refine va_get (pc := 20) (D := D) (ci := 5) (v := .ref h0_value) (C := RX3) (T := TX3) (N := 6) hx hb hts hcX3 hown hK hP 0 rfl rfl 2 (by decide) hw0 (fun _ h9 => h9) rfl (zdt_at zt_X3_update_0 12 rfl) ?_
    refine lv_iconst (pc := 23) (v := (0 : Int32)) hx hb (zdt_at zt_X3_update_0 13 rfl) (by decide) ?_
    refine lv_aload_n (pc := 24) hx hb (zdt_at zt_X3_update_0 14 rfl) rfl (lv_at hl 0 rfl) ?_
    refine va_get (pc := 25) (D := D) (ci := 5) (v := .ref h0_message) (C := RX3) (T := TX3) (N := 6) hx hb hts hcX3 hown hK hP 0 rfl rfl 3 (by decide) hw1 (fun _ h9 => h9) rfl (zdt_at zt_X3_update_0 15 rfl) ?_
    refine lv_iconst (pc := 28) (v := (0 : Int32)) hx hb (zdt_at zt_X3_update_0 16 rfl) (by decide) ?_
    refine lv_bipush (pc := 29) (v := (32 : Int32)) hx hb (zdt_at zt_X3_update_0 17 rfl) (by decide) ?_
    replace hf := zk_s hf
    refine va_copyi (pc := 31) hx hb (hml.trans hl.1.symm) hown hw2 hw3 hw4 hw5 hK hP hD hS 7 2 0 0 rfl rfl rfl rfl rfl hf.1.1 hf.1.2.1 hf.1.2.2.1 hf.1.2.2.2.1 hf.1.2.2.2.2.1 hf.1.2.2.2.2.2 (Nat.le_of_ble_eq_true rfl) (Nat.le_of_ble_eq_true rfl) (zdt_at zt_X3_update_0 18 rfl) ?_
    replace hf := hf.2
    clear hP hD hS
    intro H locs hP hD hS
    obtain ⟨c_message_24, e_⟩ : ∃ q : Nat → Int32, q = (va_cpy c_value_11 c_message_5 (0 : Int32).toNatClampNeg (0 : Int32).toNatClampNeg (32 : Int32).toNatClampNeg) := ⟨_, rfl⟩
    replace hf := zn_s hf e_
    replace hP : va_P D vwCl ([(h0, .inr (5, [.ref h0_sha, .ref h0_key, .ref h0_value, .ref h0_message, .int c_begun, .int c_requests])), (h0_key, .inl (cy 0, 32, .inl c_key_4)), (h0_message, .inl (cy 0, 97, .inl c_message_24)), (h0_sha, .inr (9, [.ref h0_sha_sums, .ref h0_sha_schedule, .ref h0_sha_inner, .int c_sha_filled_6, .int c_sha_total_10])), (h0_sha_inner, .inl (cy 0, 32, .inl c_sha_inner_7)), (h0_sha_schedule, .inl (cy 1, 64, .inl c_sha_schedule_8)), (h0_sha_sums, .inl (cy 1, 8, .inl c_sha_sums_9)), (h0_value, .inl (cy 0, 32, .inl c_value_11)), (ha1, .inl (cy 0, n_a1, .inl ca1))]) H := by rw [e_]; exact hP
    replace hD : va_D A ([(h0, .inr (5, [.ref h0_sha, .ref h0_key, .ref h0_value, .ref h0_message, .int c_begun, .int c_requests])), (h0_key, .inl (cy 0, 32, .inl c_key_4)), (h0_message, .inl (cy 0, 97, .inl c_message_24)), (h0_sha, .inr (9, [.ref h0_sha_sums, .ref h0_sha_schedule, .ref h0_sha_inner, .int c_sha_filled_6, .int c_sha_total_10])), (h0_sha_inner, .inl (cy 0, 32, .inl c_sha_inner_7)), (h0_sha_schedule, .inl (cy 1, 64, .inl c_sha_schedule_8)), (h0_sha_sums, .inl (cy 1, 8, .inl c_sha_sums_9)), (h0_value, .inl (cy 0, 32, .inl c_value_11)), (ha1, .inl (cy 0, n_a1, .inl ca1))]) := by rw [e_]; exact hD
    clear e_
    refine lv_aload_n (pc := 34) hx hb (zdt_at zt_X3_update_0 19 rfl) rfl (lv_at hl 0 rfl) ?_
    refine va_get (pc := 35) (D := D) (ci := 5) (v := .ref h0_message) (C := RX3) (T := TX3) (N := 6) hx hb hts hcX3 hown hK hP 0 rfl rfl 3 (by decide) hw1 (fun _ h9 => h9) rfl (zdt_at zt_X3_update_0 20 rfl) ?_
    refine lv_bipush (pc := 38) (v := (32 : Int32)) hx hb (zdt_at zt_X3_update_0 21 rfl) (by decide) ?_
    refine lv_iload (pc := 40) hx hb (zdt_at zt_X3_update_0 22 rfl) (lv_at hl 4 rfl) ?_
    refine lv_i2b (pc := 42) hx hb (zdt_at zt_X3_update_0 23 rfl) rfl ?_
    replace hf := zk_s hf
    refine va_bast (pc := 43) hx hb hK hP hD hS 2 0 rfl rfl hf.1 (zdt_at zt_X3_update_0 24 rfl) ?_
    replace hf := hf.2
    clear hP hD hS
    intro H locs hP hD hS
    obtain ⟨c_message_25, e_⟩ : ∃ q : Nat → Int32, q = (upd c_message_24 (32 : Int32).toNatClampNeg (vp_nar .byte i_3.toInt8.toInt32)) := ⟨_, rfl⟩
    replace hf := zn_s hf e_
    replace hP : va_P D vwCl ([(h0, .inr (5, [.ref h0_sha, .ref h0_key, .ref h0_value, .ref h0_message, .int c_begun, .int c_requests])), (h0_key, .inl (cy 0, 32, .inl c_key_4)), (h0_message, .inl (cy 0, 97, .inl c_message_25)), (h0_sha, .inr (9, [.ref h0_sha_sums, .ref h0_sha_schedule, .ref h0_sha_inner, .int c_sha_filled_6, .int c_sha_total_10])), (h0_sha_inner, .inl (cy 0, 32, .inl c_sha_inner_7)), (h0_sha_schedule, .inl (cy 1, 64, .inl c_sha_schedule_8)), (h0_sha_sums, .inl (cy 1, 8, .inl c_sha_sums_9)), (h0_value, .inl (cy 0, 32, .inl c_value_11)), (ha1, .inl (cy 0, n_a1, .inl ca1))]) H := by rw [e_]; exact hP
    replace hD : va_D A ([(h0, .inr (5, [.ref h0_sha, .ref h0_key, .ref h0_value, .ref h0_message, .int c_begun, .int c_requests])), (h0_key, .inl (cy 0, 32, .inl c_key_4)), (h0_message, .inl (cy 0, 97, .inl c_message_25)), (h0_sha, .inr (9, [.ref h0_sha_sums, .ref h0_sha_schedule, .ref h0_sha_inner, .int c_sha_filled_6, .int c_sha_total_10])), (h0_sha_inner, .inl (cy 0, 32, .inl c_sha_inner_7)), (h0_sha_schedule, .inl (cy 1, 64, .inl c_sha_schedule_8)), (h0_sha_sums, .inl (cy 1, 8, .inl c_sha_sums_9)), (h0_value, .inl (cy 0, 32, .inl c_value_11)), (ha1, .inl (cy 0, n_a1, .inl ca1))]) := by rw [e_]; exact hD
    clear e_
    refine lv_aload_n (pc := 44) hx hb (zdt_at zt_X3_update_0 25 rfl) rfl (lv_at hl 1 rfl) ?_
    refine lv_iconst (pc := 45) (v := (0 : Int32)) hx hb (zdt_at zt_X3_update_0 26 rfl) (by decide) ?_
    refine lv_aload_n (pc := 46) hx hb (zdt_at zt_X3_update_0 27 rfl) rfl (lv_at hl 0 rfl) ?_
    refine va_get (pc := 47) (D := D) (ci := 5) (v := .ref h0_message) (C := RX3) (T := TX3) (N := 6) hx hb hts hcX3 hown hK hP 0 rfl rfl 3 (by decide) hw1 (fun _ h9 => h9) rfl (zdt_at zt_X3_update_0 28 rfl) ?_
    refine lv_bipush (pc := 50) (v := (33 : Int32)) hx hb (zdt_at zt_X3_update_0 29 rfl) (by decide) ?_
    refine lv_iload_n (pc := 52) hx hb (zdt_at zt_X3_update_0 30 rfl) rfl (lv_at hl 2 rfl) ?_
    replace hf := zk_s hf
    refine va_copyi (pc := 53) hx hb (hml.trans hl.1.symm) hown hw2 hw3 hw4 hw5 hK hP hD hS 8 2 0 0 rfl rfl rfl rfl rfl hf.1.1 hf.1.2.1 hf.1.2.2.1 hf.1.2.2.2.1 hf.1.2.2.2.2.1 hf.1.2.2.2.2.2 (Nat.le_of_ble_eq_true rfl) (Nat.le_of_ble_eq_true rfl) (zdt_at zt_X3_update_0 31 rfl) ?_
    replace hf := hf.2
    clear hP hD hS
    intro H locs hP hD hS
    obtain ⟨c_message_26, e_⟩ : ∃ q : Nat → Int32, q = (va_cpy ca1 c_message_25 (0 : Int32).toNatClampNeg (33 : Int32).toNatClampNeg p2.toNatClampNeg) := ⟨_, rfl⟩
    replace hf := zn_s hf e_
    replace hP : va_P D vwCl ([(h0, .inr (5, [.ref h0_sha, .ref h0_key, .ref h0_value, .ref h0_message, .int c_begun, .int c_requests])), (h0_key, .inl (cy 0, 32, .inl c_key_4)), (h0_message, .inl (cy 0, 97, .inl c_message_26)), (h0_sha, .inr (9, [.ref h0_sha_sums, .ref h0_sha_schedule, .ref h0_sha_inner, .int c_sha_filled_6, .int c_sha_total_10])), (h0_sha_inner, .inl (cy 0, 32, .inl c_sha_inner_7)), (h0_sha_schedule, .inl (cy 1, 64, .inl c_sha_schedule_8)), (h0_sha_sums, .inl (cy 1, 8, .inl c_sha_sums_9)), (h0_value, .inl (cy 0, 32, .inl c_value_11)), (ha1, .inl (cy 0, n_a1, .inl ca1))]) H := by rw [e_]; exact hP
    replace hD : va_D A ([(h0, .inr (5, [.ref h0_sha, .ref h0_key, .ref h0_value, .ref h0_message, .int c_begun, .int c_requests])), (h0_key, .inl (cy 0, 32, .inl c_key_4)), (h0_message, .inl (cy 0, 97, .inl c_message_26)), (h0_sha, .inr (9, [.ref h0_sha_sums, .ref h0_sha_schedule, .ref h0_sha_inner, .int c_sha_filled_6, .int c_sha_total_10])), (h0_sha_inner, .inl (cy 0, 32, .inl c_sha_inner_7)), (h0_sha_schedule, .inl (cy 1, 64, .inl c_sha_schedule_8)), (h0_sha_sums, .inl (cy 1, 8, .inl c_sha_sums_9)), (h0_value, .inl (cy 0, 32, .inl c_value_11)), (ha1, .inl (cy 0, n_a1, .inl ca1))]) := by rw [e_]; exact hD
    clear e_
    refine lv_aload_n (pc := 56) hx hb (zdt_at zt_X3_update_0 32 rfl) rfl (lv_at hl 0 rfl) ?_
    refine va_get (pc := 57) (D := D) (ci := 5) (v := .ref h0_sha) (C := RX3) (T := TX3) (N := 6) hx hb hts hcX3 hown hK hP 0 rfl rfl 0 (by decide) hw6 (fun _ h9 => h9) rfl (zdt_at zt_X3_update_0 33 rfl) ?_
    refine lv_aload_n (pc := 60) hx hb (zdt_at zt_X3_update_0 34 rfl) rfl (lv_at hl 0 rfl) ?_
    refine va_get (pc := 61) (D := D) (ci := 5) (v := .ref h0_key) (C := RX3) (T := TX3) (N := 6) hx hb hts hcX3 hown hK hP 0 rfl rfl 1 (by decide) hw7 (fun _ h9 => h9) rfl (zdt_at zt_X3_update_0 35 rfl) ?_
    refine lv_bipush (pc := 64) (v := (32 : Int32)) hx hb (zdt_at zt_X3_update_0 36 rfl) (by decide) ?_
    refine lv_aload_n (pc := 66) hx hb (zdt_at zt_X3_update_0 37 rfl) rfl (lv_at hl 0 rfl) ?_
    refine va_get (pc := 67) (D := D) (ci := 5) (v := .ref h0_message) (C := RX3) (T := TX3) (N := 6) hx hb hts hcX3 hown hK hP 0 rfl rfl 3 (by decide) hw1 (fun _ h9 => h9) rfl (zdt_at zt_X3_update_0 38 rfl) ?_
    refine lv_iconst (pc := 70) (v := (0 : Int32)) hx hb (zdt_at zt_X3_update_0 39 rfl) (by decide) ?_
    refine lv_bipush (pc := 71) (v := (33 : Int32)) hx hb (zdt_at zt_X3_update_0 40 rfl) (by decide) ?_
    refine lv_iload_n (pc := 73) hx hb (zdt_at zt_X3_update_0 41 rfl) rfl (lv_at hl 2 rfl) ?_
    refine lv_iadd (pc := 74) hx hb (zdt_at zt_X3_update_0 42 rfl) ?_
    refine lv_aload_n (pc := 75) hx hb (zdt_at zt_X3_update_0 43 rfl) rfl (lv_at hl 0 rfl) ?_
    refine va_get (pc := 76) (D := D) (ci := 5) (v := .ref h0_key) (C := RX3) (T := TX3) (N := 6) hx hb hts hcX3 hown hK hP 0 rfl rfl 1 (by decide) hw7 (fun _ h9 => h9) rfl (zdt_at zt_X3_update_0 44 rfl) ?_
    refine lv_iconst (pc := 79) (v := (0 : Int32)) hx hb (zdt_at zt_X3_update_0 45 rfl) (by decide) ?_
    replace hf := zb_s hf
    obtain ⟨⟨c_sha_filled_27, c_sha_total_28, c_sha_inner_29, c_sha_schedule_30, c_sha_sums_31, c_key_32⟩, hc_, hf⟩ := hf
    refine zcn2 (pc := 80) (rv := none) (va_runV (As := [.ref h0_key, .int (32 : Int32), .ref h0_message, .int (0 : Int32), .int ((33 : Int32) + p2), .ref h0_key, .int (0 : Int32)]) (rest := []) ⟨hx, hb, hml, hown, hts⟩ (c_X7_mac_6a1 l D cy tt H.size h0_sha h0_sha_sums h0_sha_schedule h0_sha_inner h0_key h0_message 32 97 (32 : Int32) (0 : Int32) ((33 : Int32) + p2) (0 : Int32) c_sha_filled_6 c_sha_total_10 c_sha_inner_7 c_sha_schedule_8 c_sha_sums_9 c_key_4 c_message_26 c_sha_filled_27 c_sha_total_28 c_sha_inner_29 c_sha_schedule_30 c_sha_sums_31 c_key_32 hc_) (cwV 7 hts gX3_update_X7_mac rfl rfl rfl (by decide +kernel) ⟨Nat.le_of_ble_eq_true rfl, Nat.le_of_ble_eq_true rfl⟩) ⟨zblind, va_recv hK hP (ci := 9) (q0 := 3) rfl rfl, zpre hE hS (hP.sub [3, 4, 5, 6, 1, 2] rfl) (hD.sub [3, 4, 5, 6, 1, 2] (by decide) rfl) (va_free hD hS hA [3, 4, 5, 6, 1, 2] rfl)⟩ rfl rfl hl.1 rfl (lv_room (Nat.le_of_ble_eq_true rfl)) (zdt_at zt_X3_update_0 46 rfl) ⟨Nat.zero_le _, Nat.zero_le _⟩) hS hP hD (va_free hD hS hA [3, 4, 5, 6, 1, 2] rfl) [3, 4, 5, 6, 1, 2] rfl (by decide) rfl ?_
    clear hP hD hS hc_
    intro H locs hP hD hS
    replace hP : va_P D vwCl ([(h0, .inr (5, [.ref h0_sha, .ref h0_key, .ref h0_value, .ref h0_message, .int c_begun, .int c_requests])), (h0_key, .inl (cy 0, 32, .inl c_key_32)), (h0_message, .inl (cy 0, 97, .inl c_message_26)), (h0_sha, .inr (9, [.ref h0_sha_sums, .ref h0_sha_schedule, .ref h0_sha_inner, .int c_sha_filled_27, .int c_sha_total_28])), (h0_sha_inner, .inl (cy 0, 32, .inl c_sha_inner_29)), (h0_sha_schedule, .inl (cy 1, 64, .inl c_sha_schedule_30)), (h0_sha_sums, .inl (cy 1, 8, .inl c_sha_sums_31)), (h0_value, .inl (cy 0, 32, .inl c_value_11)), (ha1, .inl (cy 0, n_a1, .inl ca1))]) H := hP
    replace hD : va_D A ([(h0, .inr (5, [.ref h0_sha, .ref h0_key, .ref h0_value, .ref h0_message, .int c_begun, .int c_requests])), (h0_key, .inl (cy 0, 32, .inl c_key_32)), (h0_message, .inl (cy 0, 97, .inl c_message_26)), (h0_sha, .inr (9, [.ref h0_sha_sums, .ref h0_sha_schedule, .ref h0_sha_inner, .int c_sha_filled_27, .int c_sha_total_28])), (h0_sha_inner, .inl (cy 0, 32, .inl c_sha_inner_29)), (h0_sha_schedule, .inl (cy 1, 64, .inl c_sha_schedule_30)), (h0_sha_sums, .inl (cy 1, 8, .inl c_sha_sums_31)), (h0_value, .inl (cy 0, 32, .inl c_value_11)), (ha1, .inl (cy 0, n_a1, .inl ca1))]) := hD
    refine W.eq (g2 := F0 m 83 ls []) rfl ?_
    refine lv_aload_n (pc := 83) hx hb (zdt_at zt_X3_update_0 47 rfl) rfl (lv_at hl 0 rfl) ?_
    refine va_get (pc := 84) (D := D) (ci := 5) (v := .ref h0_sha) (C := RX3) (T := TX3) (N := 6) hx hb hts hcX3 hown hK hP 0 rfl rfl 0 (by decide) hw6 (fun _ h9 => h9) rfl (zdt_at zt_X3_update_0 48 rfl) ?_
    refine lv_aload_n (pc := 87) hx hb (zdt_at zt_X3_update_0 49 rfl) rfl (lv_at hl 0 rfl) ?_
    refine va_get (pc := 88) (D := D) (ci := 5) (v := .ref h0_key) (C := RX3) (T := TX3) (N := 6) hx hb hts hcX3 hown hK hP 0 rfl rfl 1 (by decide) hw7 (fun _ h9 => h9) rfl (zdt_at zt_X3_update_0 50 rfl) ?_
    refine lv_bipush (pc := 91) (v := (32 : Int32)) hx hb (zdt_at zt_X3_update_0 51 rfl) (by decide) ?_
    refine lv_aload_n (pc := 93) hx hb (zdt_at zt_X3_update_0 52 rfl) rfl (lv_at hl 0 rfl) ?_
    refine va_get (pc := 94) (D := D) (ci := 5) (v := .ref h0_value) (C := RX3) (T := TX3) (N := 6) hx hb hts hcX3 hown hK hP 0 rfl rfl 2 (by decide) hw0 (fun _ h9 => h9) rfl (zdt_at zt_X3_update_0 53 rfl) ?_
    refine lv_iconst (pc := 97) (v := (0 : Int32)) hx hb (zdt_at zt_X3_update_0 54 rfl) (by decide) ?_
    refine lv_bipush (pc := 98) (v := (32 : Int32)) hx hb (zdt_at zt_X3_update_0 55 rfl) (by decide) ?_
    refine lv_aload_n (pc := 100) hx hb (zdt_at zt_X3_update_0 56 rfl) rfl (lv_at hl 0 rfl) ?_
    refine va_get (pc := 101) (D := D) (ci := 5) (v := .ref h0_value) (C := RX3) (T := TX3) (N := 6) hx hb hts hcX3 hown hK hP 0 rfl rfl 2 (by decide) hw0 (fun _ h9 => h9) rfl (zdt_at zt_X3_update_0 57 rfl) ?_
    refine lv_iconst (pc := 104) (v := (0 : Int32)) hx hb (zdt_at zt_X3_update_0 58 rfl) (by decide) ?_
    replace hf := zb_s hf
    obtain ⟨⟨c_sha_filled_33, c_sha_total_34, c_sha_inner_35, c_sha_schedule_36, c_sha_sums_37, c_value_38⟩, hc_, hf⟩ := hf
    refine zcn2 (pc := 105) (rv := none) (va_runV (As := [.ref h0_key, .int (32 : Int32), .ref h0_value, .int (0 : Int32), .int (32 : Int32), .ref h0_value, .int (0 : Int32)]) (rest := []) ⟨hx, hb, hml, hown, hts⟩ (c_X7_mac_6a3 l D cy tt H.size h0_sha h0_sha_sums h0_sha_schedule h0_sha_inner h0_key h0_value 32 32 (32 : Int32) (0 : Int32) (32 : Int32) (0 : Int32) c_sha_filled_27 c_sha_total_28 c_sha_inner_29 c_sha_schedule_30 c_sha_sums_31 c_key_32 c_value_11 c_sha_filled_33 c_sha_total_34 c_sha_inner_35 c_sha_schedule_36 c_sha_sums_37 c_value_38 hc_) (cwV 7 hts gX3_update_X7_mac rfl rfl rfl (by decide +kernel) ⟨Nat.le_of_ble_eq_true rfl, Nat.le_of_ble_eq_true rfl⟩) ⟨zblind, va_recv hK hP (ci := 9) (q0 := 3) rfl rfl, zpre hE hS (hP.sub [3, 4, 5, 6, 1, 7] rfl) (hD.sub [3, 4, 5, 6, 1, 7] (by decide) rfl) (va_free hD hS hA [3, 4, 5, 6, 1, 7] rfl)⟩ rfl rfl hl.1 rfl (lv_room (Nat.le_of_ble_eq_true rfl)) (zdt_at zt_X3_update_0 59 rfl) ⟨Nat.zero_le _, Nat.zero_le _⟩) hS hP hD (va_free hD hS hA [3, 4, 5, 6, 1, 7] rfl) [3, 4, 5, 6, 1, 7] rfl (by decide) rfl ?_
    clear hP hD hS hc_
    intro H locs hP hD hS
    replace hP : va_P D vwCl ([(h0, .inr (5, [.ref h0_sha, .ref h0_key, .ref h0_value, .ref h0_message, .int c_begun, .int c_requests])), (h0_key, .inl (cy 0, 32, .inl c_key_32)), (h0_message, .inl (cy 0, 97, .inl c_message_26)), (h0_sha, .inr (9, [.ref h0_sha_sums, .ref h0_sha_schedule, .ref h0_sha_inner, .int c_sha_filled_33, .int c_sha_total_34])), (h0_sha_inner, .inl (cy 0, 32, .inl c_sha_inner_35)), (h0_sha_schedule, .inl (cy 1, 64, .inl c_sha_schedule_36)), (h0_sha_sums, .inl (cy 1, 8, .inl c_sha_sums_37)), (h0_value, .inl (cy 0, 32, .inl c_value_38)), (ha1, .inl (cy 0, n_a1, .inl ca1))]) H := hP
    replace hD : va_D A ([(h0, .inr (5, [.ref h0_sha, .ref h0_key, .ref h0_value, .ref h0_message, .int c_begun, .int c_requests])), (h0_key, .inl (cy 0, 32, .inl c_key_32)), (h0_message, .inl (cy 0, 97, .inl c_message_26)), (h0_sha, .inr (9, [.ref h0_sha_sums, .ref h0_sha_schedule, .ref h0_sha_inner, .int c_sha_filled_33, .int c_sha_total_34])), (h0_sha_inner, .inl (cy 0, 32, .inl c_sha_inner_35)), (h0_sha_schedule, .inl (cy 1, 64, .inl c_sha_schedule_36)), (h0_sha_sums, .inl (cy 1, 8, .inl c_sha_sums_37)), (h0_value, .inl (cy 0, 32, .inl c_value_38)), (ha1, .inl (cy 0, n_a1, .inl ca1))]) := hD
    refine W.eq (g2 := F0 m 108 ls []) rfl ?_
    refine lv_iinc (pc := 108) (v := (i_3 + (1 : Int32))) (lv' := [(4, .int (i_3 + (1 : Int32))), (0, .ref h0), (1, .ref ha1), (2, .int p2), (3, .int v_1)]) hx hb (zdt_at zt_X3_update_0 60 rfl) hl (k := 4) rfl rfl (by decide) rfl ?_
    clear hl
    intro ls hl
    refine lv_goto (pc := 111) (tgt := 13) hx hb (zdt_at zt_X3_update_0 61 rfl) (by decide) ?_
    exact hTo _ _ _ (ihself_21 _ hf H locs ls hP hD hS (lv_sub hl [1, 2, 3, 4, 0] rfl))
  clear eK_2
  refine lv_if_ne (pc := 1) (tgt := 8) hx hb (zdt_at zt_X3_update_0 1 rfl) (by decide) (fun cn_ => ?t_39) (fun cn_ => ?f_40)
  case t_39 =>
    replace hf := ze_s cn_ hf
    clear cn_
    refine lv_iconst (pc := 8) (v := (2 : Int32)) hx hb (zdt_at zt_X3_update_0 4 rfl) (by decide) ?_
    exact hTo _ _ _ (kK_2 _ H locs ls hP hD hS (lv_sub hl [0, 1, 2] rfl) hf)
  replace hf := zt_s cn_ hf
  clear cn_
  refine lv_iconst (pc := 4) (v := (1 : Int32)) hx hb (zdt_at zt_X3_update_0 2 rfl) (by decide) ?_
  refine lv_goto (pc := 5) (tgt := 9) hx hb (zdt_at zt_X3_update_0 3 rfl) (by decide) ?_
  exact hTo _ _ _ (kK_2 _ H locs ls hP hD hS (lv_sub hl [0, 1, 2] rfl) hf)
set_option maxHeartbeats 4000000 in
set_option maxRecDepth 100000 in
theorem c_X3_feed (l : Launch) (D : va_G) (cy : Nat → ClassId) (tt : Nat → Nat) (sz : Nat) (h0 : Nat) (h0_sha : Nat) (h0_key : Nat) (h0_value : Nat) (h0_message : Nat) (h0_sha_sums : Nat) (h0_sha_schedule : Nat) (h0_sha_inner : Nat) (ha1 : Nat) (n_a1 : Nat) (p2 : Int32) (c_begun : Int32) (c_requests : Int32) (c_key : Nat → Int32) (c_message : Nat → Int32) (c_sha_filled : Int32) (c_sha_total : Int32) (c_sha_inner : Nat → Int32) (c_sha_schedule : Nat → Int32) (c_sha_sums : Nat → Int32) (c_value : Nat → Int32) (ca1 : Nat → Int32) (c_begun' : Int32) (c_requests' : Int32) (c_key' : Nat → Int32) (c_message' : Nat → Int32) (c_sha_filled' : Int32) (c_sha_total' : Int32) (c_sha_inner' : Nat → Int32) (c_sha_schedule' : Nat → Int32) (c_sha_sums' : Nat → Int32) (c_value' : Nat → Int32) (hf : f_X3_feed n_a1 p2 c_begun c_requests c_key c_message c_sha_filled c_sha_total c_sha_inner c_sha_schedule c_sha_sums c_value ca1 = some (c_begun', c_requests', c_key', c_message', c_sha_filled', c_sha_total', c_sha_inner', c_sha_schedule', c_sha_sums', c_value')) : Met l yX3_feed wsX3_feed ({ frames := 5, cells := 0, slots := 0, locals := 135 }) (zPc D cy tt sz [.ref h0, .ref ha1, .int p2] ([(h0, .inr (5, [.ref h0_sha, .ref h0_key, .ref h0_value, .ref h0_message, .int c_begun, .int c_requests])), (h0_key, .inl (cy 0, 32, .inl c_key)), (h0_message, .inl (cy 0, 97, .inl c_message)), (h0_sha, .inr (9, [.ref h0_sha_sums, .ref h0_sha_schedule, .ref h0_sha_inner, .int c_sha_filled, .int c_sha_total])), (h0_sha_inner, .inl (cy 0, 32, .inl c_sha_inner)), (h0_sha_schedule, .inl (cy 1, 64, .inl c_sha_schedule)), (h0_sha_sums, .inl (cy 1, 8, .inl c_sha_sums)), (h0_value, .inl (cy 0, 32, .inl c_value)), (ha1, .inl (cy 0, n_a1, .inl ca1))])) (zQ D none ([(h0, .inr (5, [.ref h0_sha, .ref h0_key, .ref h0_value, .ref h0_message, .int c_begun', .int c_requests'])), (h0_key, .inl (cy 0, 32, .inl c_key')), (h0_message, .inl (cy 0, 97, .inl c_message')), (h0_sha, .inr (9, [.ref h0_sha_sums, .ref h0_sha_schedule, .ref h0_sha_inner, .int c_sha_filled', .int c_sha_total'])), (h0_sha_inner, .inl (cy 0, 32, .inl c_sha_inner')), (h0_sha_schedule, .inl (cy 1, 64, .inl c_sha_schedule')), (h0_sha_sums, .inl (cy 1, 8, .inl c_sha_sums')), (h0_value, .inl (cy 0, 32, .inl c_value')), (ha1, .inl (cy 0, n_a1, .inl ca1))]) (va_A ([(h0, .inr (5, [.ref h0_sha, .ref h0_key, .ref h0_value, .ref h0_message, .int c_begun, .int c_requests])), (h0_key, .inl (cy 0, 32, .inl c_key)), (h0_message, .inl (cy 0, 97, .inl c_message)), (h0_sha, .inr (9, [.ref h0_sha_sums, .ref h0_sha_schedule, .ref h0_sha_inner, .int c_sha_filled, .int c_sha_total])), (h0_sha_inner, .inl (cy 0, 32, .inl c_sha_inner)), (h0_sha_schedule, .inl (cy 1, 64, .inl c_sha_schedule)), (h0_sha_sums, .inl (cy 1, 8, .inl c_sha_sums)), (h0_value, .inl (cy 0, 32, .inl c_value)), (ha1, .inl (cy 0, n_a1, .inl ca1))]) sz)) 0 0 (va_A ([(h0, .inr (5, [.ref h0_sha, .ref h0_key, .ref h0_value, .ref h0_message, .int c_begun, .int c_requests])), (h0_key, .inl (cy 0, 32, .inl c_key)), (h0_message, .inl (cy 0, 97, .inl c_message)), (h0_sha, .inr (9, [.ref h0_sha_sums, .ref h0_sha_schedule, .ref h0_sha_inner, .int c_sha_filled, .int c_sha_total])), (h0_sha_inner, .inl (cy 0, 32, .inl c_sha_inner)), (h0_sha_schedule, .inl (cy 1, 64, .inl c_sha_schedule)), (h0_sha_sums, .inl (cy 1, 8, .inl c_sha_sums)), (h0_value, .inl (cy 0, 32, .inl c_value)), (ha1, .inl (cy 0, n_a1, .inl ca1))]) sz) := by
  refine Met.ofW (cc := cX3_feed) (maxL := 3) (ret := none) (by decide) rfl ?_
  intro p e s m args below meth c s₁ B hml hv
  obtain ⟨rfl, rfl, hP, hD0, hE⟩ := hv
  have hx := B.exec
  have hb := B.bytes
  have hr := B.returns
  have hts := atoms_spec (ws := wsX3_feed) B.pre
  have hown : s.vm.findClass RX3 = some m.cls := findClass_of_methodNamed B.named
  have hlocks := B.notSynchronized
  clear B
  have hD := hD0.self (sz := s.heap.size)
  generalize hAe : va_A ([(h0, .inr (5, [.ref h0_sha, .ref h0_key, .ref h0_value, .ref h0_message, .int c_begun, .int c_requests])), (h0_key, .inl (cy 0, 32, .inl c_key)), (h0_message, .inl (cy 0, 97, .inl c_message)), (h0_sha, .inr (9, [.ref h0_sha_sums, .ref h0_sha_schedule, .ref h0_sha_inner, .int c_sha_filled, .int c_sha_total])), (h0_sha_inner, .inl (cy 0, 32, .inl c_sha_inner)), (h0_sha_schedule, .inl (cy 1, 64, .inl c_sha_schedule)), (h0_sha_sums, .inl (cy 1, 8, .inl c_sha_sums)), (h0_value, .inl (cy 0, 32, .inl c_value)), (ha1, .inl (cy 0, n_a1, .inl ca1))]) s.heap.size = A at hD hE ⊢
  have hA : ∀ q : Nat, s.heap.size ≤ q → A q := fun q h => by rw [← hAe]; exact Or.inr h
  clear hAe hD0
  have hS : va_S A s.heap s.heap [] := va_S.rf
  have hK := hE.1
  have hw0 := hts (.fieldLink RX3 21 "SealedModule$Generator" "begun" "Z") (by decide +kernel)
  have hw1 := hts (.fieldLink RX3 25 "SealedModule$Generator" "requests" "I") (by decide +kernel)
  have hw2 := hts (.fieldLink RX3 9 "SealedModule$Generator" "key" "[B") (by decide +kernel)
  have hw3 := hts (.fieldLink RX3 15 "SealedModule$Generator" "value" "[B") (by decide +kernel)
  have hcX3 : ∀ w ∈ u_ws RX3 TX3 6, w ∈ wsX3_feed := (fun _ h => List.mem_cons_of_mem _ (List.mem_append_left _ (List.mem_append_left _ (List.mem_append_right _ h))))
  have hl := lv_entry ([.ref h0, .ref ha1, .int p2]) (n := 3) (Nat.le_of_ble_eq_true rfl)
  rw [lg_entry_eq]
  generalize (lg_sl ([.ref h0, .ref ha1, .int p2]) ++ List.replicate (3 - (lg_sl ([.ref h0, .ref ha1, .int p2])).length) Slot.unset).toArray = ls at hl ⊢
  replace hl : lv_has ls 3 [(0, .ref h0), (1, .ref ha1), (2, .int p2)] := hl
  unfold f_X3_feed at hf
  refine zgo (fun GW hTo hFr => ?_)
  refine hFr _ _ _ ?_
  obtain ⟨H, hHe⟩ : ∃ H, H = s.heap := ⟨_, rfl⟩
  obtain ⟨locs, hLe⟩ : ∃ L : List Loc, L = [] := ⟨_, rfl⟩
  rw [← hHe] at hP
  replace hS : va_S A s.heap H locs := by rw [hHe, hLe]; exact hS
  refine zat hHe.symm hLe.symm ?_
  clear hHe hLe
  refine lv_iload_n (pc := 0) hx hb (zdt_at zt_X3_feed_0 0 rfl) rfl (lv_at hl 2 rfl) ?_
  refine lv_if_ne (pc := 1) (tgt := 5) hx hb (zdt_at zt_X3_feed_0 1 rfl) (by decide) (fun cn_ => ?t_1) (fun cn_ => ?f_2)
  case f_2 =>
    replace hf := zt_s cn_ hf
    clear cn_
    cases hf
    exact W.vret (pc := 4) hx hb hr (fun t ht hW => ⟨rfl, ⟨by rw [ht]; exact hP, hD⟩, hS.F ht⟩) hS.2.2 (zdt_at zt_X3_feed_0 2 rfl)
  replace hf := ze_s cn_ hf
  clear cn_
  refine lv_aload_n (pc := 5) hx hb (zdt_at zt_X3_feed_0 3 rfl) rfl (lv_at hl 0 rfl) ?_
  refine va_get (pc := 6) (D := D) (ci := 5) (v := .int c_begun) (C := RX3) (T := TX3) (N := 6) hx hb hts hcX3 hown hK hP 0 rfl rfl 4 (by decide) hw0 (fun _ h9 => h9) rfl (zdt_at zt_X3_feed_0 4 rfl) ?_
  refine lv_if_ne (pc := 9) (tgt := 33) hx hb (zdt_at zt_X3_feed_0 5 rfl) (by decide) (fun cn_ => ?t_3) (fun cn_ => ?f_4)
  case t_3 =>
    replace hf := ze_s cn_ hf
    clear cn_
    refine lv_aload_n (pc := 33) hx hb (zdt_at zt_X3_feed_0 17 rfl) rfl (lv_at hl 0 rfl) ?_
    refine lv_aload_n (pc := 34) hx hb (zdt_at zt_X3_feed_0 18 rfl) rfl (lv_at hl 1 rfl) ?_
    refine lv_iload_n (pc := 35) hx hb (zdt_at zt_X3_feed_0 19 rfl) rfl (lv_at hl 2 rfl) ?_
    replace hf := zb_s hf
    obtain ⟨⟨c_key_5, c_message_6, c_sha_filled_7, c_sha_total_8, c_sha_inner_9, c_sha_schedule_10, c_sha_sums_11, c_value_12⟩, hc_, hf⟩ := hf
    refine zcn2 (pc := 36) (rv := none) (va_runV (As := [.ref ha1, .int p2]) (rest := []) ⟨hx, hb, hml, hown, hts⟩ (c_X3_update l D cy tt H.size h0 h0_sha h0_key h0_value h0_message h0_sha_sums h0_sha_schedule h0_sha_inner ha1 n_a1 p2 c_key c_message c_sha_filled c_sha_total c_sha_inner c_sha_schedule c_sha_sums c_value ca1 c_begun c_requests c_key_5 c_message_6 c_sha_filled_7 c_sha_total_8 c_sha_inner_9 c_sha_schedule_10 c_sha_sums_11 c_value_12 hc_) (cwV 2 hts gX3_feed_X3_update rfl rfl rfl (by decide +kernel) ⟨Nat.le_of_ble_eq_true rfl, Nat.le_of_ble_eq_true rfl⟩) ⟨zblind, va_recv hK hP (ci := 5) (q0 := 0) rfl rfl, zpre hE hS (hP.sub [0, 1, 2, 3, 4, 5, 6, 7, 8] rfl) (hD.sub [0, 1, 2, 3, 4, 5, 6, 7, 8] (by decide) rfl) (va_free hD hS hA [0, 1, 2, 3, 4, 5, 6, 7, 8] rfl)⟩ rfl rfl hl.1 rfl (lv_room (Nat.le_of_ble_eq_true rfl)) (zdt_at zt_X3_feed_0 20 rfl) ⟨Nat.zero_le _, Nat.zero_le _⟩) hS hP hD (va_free hD hS hA [0, 1, 2, 3, 4, 5, 6, 7, 8] rfl) [0, 1, 2, 3, 4, 5, 6, 7, 8] rfl (by decide) rfl ?_
    clear hP hD hS hc_
    intro H locs hP hD hS
    replace hP : va_P D vwCl ([(h0, .inr (5, [.ref h0_sha, .ref h0_key, .ref h0_value, .ref h0_message, .int c_begun, .int c_requests])), (h0_key, .inl (cy 0, 32, .inl c_key_5)), (h0_message, .inl (cy 0, 97, .inl c_message_6)), (h0_sha, .inr (9, [.ref h0_sha_sums, .ref h0_sha_schedule, .ref h0_sha_inner, .int c_sha_filled_7, .int c_sha_total_8])), (h0_sha_inner, .inl (cy 0, 32, .inl c_sha_inner_9)), (h0_sha_schedule, .inl (cy 1, 64, .inl c_sha_schedule_10)), (h0_sha_sums, .inl (cy 1, 8, .inl c_sha_sums_11)), (h0_value, .inl (cy 0, 32, .inl c_value_12)), (ha1, .inl (cy 0, n_a1, .inl ca1))]) H := hP
    replace hD : va_D A ([(h0, .inr (5, [.ref h0_sha, .ref h0_key, .ref h0_value, .ref h0_message, .int c_begun, .int c_requests])), (h0_key, .inl (cy 0, 32, .inl c_key_5)), (h0_message, .inl (cy 0, 97, .inl c_message_6)), (h0_sha, .inr (9, [.ref h0_sha_sums, .ref h0_sha_schedule, .ref h0_sha_inner, .int c_sha_filled_7, .int c_sha_total_8])), (h0_sha_inner, .inl (cy 0, 32, .inl c_sha_inner_9)), (h0_sha_schedule, .inl (cy 1, 64, .inl c_sha_schedule_10)), (h0_sha_sums, .inl (cy 1, 8, .inl c_sha_sums_11)), (h0_value, .inl (cy 0, 32, .inl c_value_12)), (ha1, .inl (cy 0, n_a1, .inl ca1))]) := hD
    refine W.eq (g2 := F0 m 39 ls []) rfl ?_
    refine lv_aload_n (pc := 39) hx hb (zdt_at zt_X3_feed_0 21 rfl) rfl (lv_at hl 0 rfl) ?_
    refine lv_iconst (pc := 40) (v := (0 : Int32)) hx hb (zdt_at zt_X3_feed_0 22 rfl) (by decide) ?_
    refine va_put (pc := 41) (D := D) (ci := 5) (v := .int (0 : Int32)) (ty := .int) (C := RX3) (T := TX3) (N := 6) hx hb hts hcX3 tyX3 tyX3_ok nmX3 hown hK hP hD hS 0 rfl rfl 5 (by decide) hw1 (fun _ h9 => h9) rfl (by decide +kernel) rfl rfl (Nat.le_of_ble_eq_true rfl) (zdt_at zt_X3_feed_0 23 rfl) ?_
    clear hP hD hS
    intro H locs hP hD hS
    replace hP : va_P D vwCl ([(h0, .inr (5, [.ref h0_sha, .ref h0_key, .ref h0_value, .ref h0_message, .int c_begun, .int (0 : Int32)])), (h0_key, .inl (cy 0, 32, .inl c_key_5)), (h0_message, .inl (cy 0, 97, .inl c_message_6)), (h0_sha, .inr (9, [.ref h0_sha_sums, .ref h0_sha_schedule, .ref h0_sha_inner, .int c_sha_filled_7, .int c_sha_total_8])), (h0_sha_inner, .inl (cy 0, 32, .inl c_sha_inner_9)), (h0_sha_schedule, .inl (cy 1, 64, .inl c_sha_schedule_10)), (h0_sha_sums, .inl (cy 1, 8, .inl c_sha_sums_11)), (h0_value, .inl (cy 0, 32, .inl c_value_12)), (ha1, .inl (cy 0, n_a1, .inl ca1))]) H := hP
    replace hD : va_D A ([(h0, .inr (5, [.ref h0_sha, .ref h0_key, .ref h0_value, .ref h0_message, .int c_begun, .int (0 : Int32)])), (h0_key, .inl (cy 0, 32, .inl c_key_5)), (h0_message, .inl (cy 0, 97, .inl c_message_6)), (h0_sha, .inr (9, [.ref h0_sha_sums, .ref h0_sha_schedule, .ref h0_sha_inner, .int c_sha_filled_7, .int c_sha_total_8])), (h0_sha_inner, .inl (cy 0, 32, .inl c_sha_inner_9)), (h0_sha_schedule, .inl (cy 1, 64, .inl c_sha_schedule_10)), (h0_sha_sums, .inl (cy 1, 8, .inl c_sha_sums_11)), (h0_value, .inl (cy 0, 32, .inl c_value_12)), (ha1, .inl (cy 0, n_a1, .inl ca1))]) := hD
    cases hf
    exact W.vret (pc := 44) hx hb hr (fun t ht hW => ⟨rfl, ⟨by rw [ht]; exact hP, hD⟩, hS.F ht⟩) hS.2.2 (zdt_at zt_X3_feed_0 24 rfl)
  replace hf := zt_s cn_ hf
  clear cn_
  refine lv_aload_n (pc := 12) hx hb (zdt_at zt_X3_feed_0 6 rfl) rfl (lv_at hl 0 rfl) ?_
  refine va_get (pc := 13) (D := D) (ci := 5) (v := .ref h0_key) (C := RX3) (T := TX3) (N := 6) hx hb hts hcX3 hown hK hP 0 rfl rfl 1 (by decide) hw2 (fun _ h9 => h9) rfl (zdt_at zt_X3_feed_0 7 rfl) ?_
  refine lv_iconst (pc := 16) (v := (0 : Int32)) hx hb (zdt_at zt_X3_feed_0 8 rfl) (by decide) ?_
  replace hf := zb_s hf
  obtain ⟨c_key_13, hc_, hf⟩ := hf
  refine zcn2 (pc := 17) (rv := none) (va_runS (As := [.ref h0_key, .int (0 : Int32)]) (rest := []) ⟨hx, hb, hml, hown, hts⟩ (c_J7_fill_031fb l D cy tt H.size h0_key 32 (0 : Int32) c_key c_key_13 hc_) (va_cwS 2 hts gX3_feed_J7_fill_031fb rfl rfl rfl (by decide +kernel) ⟨Nat.le_of_ble_eq_true rfl, Nat.le_of_ble_eq_true rfl⟩) ⟨zblind, zpre hE hS (hP.sub [1] rfl) (hD.sub [1] (by decide) rfl) (va_free hD hS hA [1] rfl)⟩ rfl rfl hl.1 rfl (lv_room (Nat.le_of_ble_eq_true rfl)) (zdt_at zt_X3_feed_0 9 rfl) ⟨Nat.zero_le _, Nat.zero_le _⟩) hS hP hD (va_free hD hS hA [1] rfl) [1] rfl (by decide) rfl ?_
  clear hP hD hS hc_
  intro H locs hP hD hS
  replace hP : va_P D vwCl ([(h0, .inr (5, [.ref h0_sha, .ref h0_key, .ref h0_value, .ref h0_message, .int c_begun, .int c_requests])), (h0_key, .inl (cy 0, 32, .inl c_key_13)), (h0_message, .inl (cy 0, 97, .inl c_message)), (h0_sha, .inr (9, [.ref h0_sha_sums, .ref h0_sha_schedule, .ref h0_sha_inner, .int c_sha_filled, .int c_sha_total])), (h0_sha_inner, .inl (cy 0, 32, .inl c_sha_inner)), (h0_sha_schedule, .inl (cy 1, 64, .inl c_sha_schedule)), (h0_sha_sums, .inl (cy 1, 8, .inl c_sha_sums)), (h0_value, .inl (cy 0, 32, .inl c_value)), (ha1, .inl (cy 0, n_a1, .inl ca1))]) H := hP
  replace hD : va_D A ([(h0, .inr (5, [.ref h0_sha, .ref h0_key, .ref h0_value, .ref h0_message, .int c_begun, .int c_requests])), (h0_key, .inl (cy 0, 32, .inl c_key_13)), (h0_message, .inl (cy 0, 97, .inl c_message)), (h0_sha, .inr (9, [.ref h0_sha_sums, .ref h0_sha_schedule, .ref h0_sha_inner, .int c_sha_filled, .int c_sha_total])), (h0_sha_inner, .inl (cy 0, 32, .inl c_sha_inner)), (h0_sha_schedule, .inl (cy 1, 64, .inl c_sha_schedule)), (h0_sha_sums, .inl (cy 1, 8, .inl c_sha_sums)), (h0_value, .inl (cy 0, 32, .inl c_value)), (ha1, .inl (cy 0, n_a1, .inl ca1))]) := hD
  refine W.eq (g2 := F0 m 20 ls []) rfl ?_
  refine lv_aload_n (pc := 20) hx hb (zdt_at zt_X3_feed_0 10 rfl) rfl (lv_at hl 0 rfl) ?_
  refine va_get (pc := 21) (D := D) (ci := 5) (v := .ref h0_value) (C := RX3) (T := TX3) (N := 6) hx hb hts hcX3 hown hK hP 0 rfl rfl 2 (by decide) hw3 (fun _ h9 => h9) rfl (zdt_at zt_X3_feed_0 11 rfl) ?_
  refine lv_iconst (pc := 24) (v := (1 : Int32)) hx hb (zdt_at zt_X3_feed_0 12 rfl) (by decide) ?_
  replace hf := zb_s hf
  obtain ⟨c_value_14, hc_, hf⟩ := hf
  refine zcn2 (pc := 25) (rv := none) (va_runS (As := [.ref h0_value, .int (1 : Int32)]) (rest := []) ⟨hx, hb, hml, hown, hts⟩ (c_J7_fill_031fb l D cy tt H.size h0_value 32 (1 : Int32) c_value c_value_14 hc_) (va_cwS 2 hts gX3_feed_J7_fill_031fb rfl rfl rfl (by decide +kernel) ⟨Nat.le_of_ble_eq_true rfl, Nat.le_of_ble_eq_true rfl⟩) ⟨zblind, zpre hE hS (hP.sub [7] rfl) (hD.sub [7] (by decide) rfl) (va_free hD hS hA [7] rfl)⟩ rfl rfl hl.1 rfl (lv_room (Nat.le_of_ble_eq_true rfl)) (zdt_at zt_X3_feed_0 13 rfl) ⟨Nat.zero_le _, Nat.zero_le _⟩) hS hP hD (va_free hD hS hA [7] rfl) [7] rfl (by decide) rfl ?_
  clear hP hD hS hc_
  intro H locs hP hD hS
  replace hP : va_P D vwCl ([(h0, .inr (5, [.ref h0_sha, .ref h0_key, .ref h0_value, .ref h0_message, .int c_begun, .int c_requests])), (h0_key, .inl (cy 0, 32, .inl c_key_13)), (h0_message, .inl (cy 0, 97, .inl c_message)), (h0_sha, .inr (9, [.ref h0_sha_sums, .ref h0_sha_schedule, .ref h0_sha_inner, .int c_sha_filled, .int c_sha_total])), (h0_sha_inner, .inl (cy 0, 32, .inl c_sha_inner)), (h0_sha_schedule, .inl (cy 1, 64, .inl c_sha_schedule)), (h0_sha_sums, .inl (cy 1, 8, .inl c_sha_sums)), (h0_value, .inl (cy 0, 32, .inl c_value_14)), (ha1, .inl (cy 0, n_a1, .inl ca1))]) H := hP
  replace hD : va_D A ([(h0, .inr (5, [.ref h0_sha, .ref h0_key, .ref h0_value, .ref h0_message, .int c_begun, .int c_requests])), (h0_key, .inl (cy 0, 32, .inl c_key_13)), (h0_message, .inl (cy 0, 97, .inl c_message)), (h0_sha, .inr (9, [.ref h0_sha_sums, .ref h0_sha_schedule, .ref h0_sha_inner, .int c_sha_filled, .int c_sha_total])), (h0_sha_inner, .inl (cy 0, 32, .inl c_sha_inner)), (h0_sha_schedule, .inl (cy 1, 64, .inl c_sha_schedule)), (h0_sha_sums, .inl (cy 1, 8, .inl c_sha_sums)), (h0_value, .inl (cy 0, 32, .inl c_value_14)), (ha1, .inl (cy 0, n_a1, .inl ca1))]) := hD
  refine W.eq (g2 := F0 m 28 ls []) rfl ?_
  refine lv_aload_n (pc := 28) hx hb (zdt_at zt_X3_feed_0 14 rfl) rfl (lv_at hl 0 rfl) ?_
  refine lv_iconst (pc := 29) (v := (1 : Int32)) hx hb (zdt_at zt_X3_feed_0 15 rfl) (by decide) ?_
  refine va_put (pc := 30) (D := D) (ci := 5) (v := .int (1 : Int32)) (ty := .boolean) (C := RX3) (T := TX3) (N := 6) hx hb hts hcX3 tyX3 tyX3_ok nmX3 hown hK hP hD hS 0 rfl rfl 4 (by decide) hw0 (fun _ h9 => h9) rfl (by decide +kernel) (by first | rfl | decide) (by first | rfl | decide) (Nat.le_of_ble_eq_true rfl) (zdt_at zt_X3_feed_0 16 rfl) ?_
  clear hP hD hS
  intro H locs hP hD hS
  replace hP : va_P D vwCl ([(h0, .inr (5, [.ref h0_sha, .ref h0_key, .ref h0_value, .ref h0_message, .int (1 : Int32), .int c_requests])), (h0_key, .inl (cy 0, 32, .inl c_key_13)), (h0_message, .inl (cy 0, 97, .inl c_message)), (h0_sha, .inr (9, [.ref h0_sha_sums, .ref h0_sha_schedule, .ref h0_sha_inner, .int c_sha_filled, .int c_sha_total])), (h0_sha_inner, .inl (cy 0, 32, .inl c_sha_inner)), (h0_sha_schedule, .inl (cy 1, 64, .inl c_sha_schedule)), (h0_sha_sums, .inl (cy 1, 8, .inl c_sha_sums)), (h0_value, .inl (cy 0, 32, .inl c_value_14)), (ha1, .inl (cy 0, n_a1, .inl ca1))]) H := hP
  replace hD : va_D A ([(h0, .inr (5, [.ref h0_sha, .ref h0_key, .ref h0_value, .ref h0_message, .int (1 : Int32), .int c_requests])), (h0_key, .inl (cy 0, 32, .inl c_key_13)), (h0_message, .inl (cy 0, 97, .inl c_message)), (h0_sha, .inr (9, [.ref h0_sha_sums, .ref h0_sha_schedule, .ref h0_sha_inner, .int c_sha_filled, .int c_sha_total])), (h0_sha_inner, .inl (cy 0, 32, .inl c_sha_inner)), (h0_sha_schedule, .inl (cy 1, 64, .inl c_sha_schedule)), (h0_sha_sums, .inl (cy 1, 8, .inl c_sha_sums)), (h0_value, .inl (cy 0, 32, .inl c_value_14)), (ha1, .inl (cy 0, n_a1, .inl ca1))]) := hD
  refine lv_aload_n (pc := 33) hx hb (zdt_at zt_X3_feed_0 17 rfl) rfl (lv_at hl 0 rfl) ?_
  refine lv_aload_n (pc := 34) hx hb (zdt_at zt_X3_feed_0 18 rfl) rfl (lv_at hl 1 rfl) ?_
  refine lv_iload_n (pc := 35) hx hb (zdt_at zt_X3_feed_0 19 rfl) rfl (lv_at hl 2 rfl) ?_
  replace hf := zb_s hf
  obtain ⟨⟨c_key_15, c_message_16, c_sha_filled_17, c_sha_total_18, c_sha_inner_19, c_sha_schedule_20, c_sha_sums_21, c_value_22⟩, hc_, hf⟩ := hf
  refine zcn2 (pc := 36) (rv := none) (va_runV (As := [.ref ha1, .int p2]) (rest := []) ⟨hx, hb, hml, hown, hts⟩ (c_X3_update l D cy tt H.size h0 h0_sha h0_key h0_value h0_message h0_sha_sums h0_sha_schedule h0_sha_inner ha1 n_a1 p2 c_key_13 c_message c_sha_filled c_sha_total c_sha_inner c_sha_schedule c_sha_sums c_value_14 ca1 (1 : Int32) c_requests c_key_15 c_message_16 c_sha_filled_17 c_sha_total_18 c_sha_inner_19 c_sha_schedule_20 c_sha_sums_21 c_value_22 hc_) (cwV 2 hts gX3_feed_X3_update rfl rfl rfl (by decide +kernel) ⟨Nat.le_of_ble_eq_true rfl, Nat.le_of_ble_eq_true rfl⟩) ⟨zblind, va_recv hK hP (ci := 5) (q0 := 0) rfl rfl, zpre hE hS (hP.sub [0, 1, 2, 3, 4, 5, 6, 7, 8] rfl) (hD.sub [0, 1, 2, 3, 4, 5, 6, 7, 8] (by decide) rfl) (va_free hD hS hA [0, 1, 2, 3, 4, 5, 6, 7, 8] rfl)⟩ rfl rfl hl.1 rfl (lv_room (Nat.le_of_ble_eq_true rfl)) (zdt_at zt_X3_feed_0 20 rfl) ⟨Nat.zero_le _, Nat.zero_le _⟩) hS hP hD (va_free hD hS hA [0, 1, 2, 3, 4, 5, 6, 7, 8] rfl) [0, 1, 2, 3, 4, 5, 6, 7, 8] rfl (by decide) rfl ?_
  clear hP hD hS hc_
  intro H locs hP hD hS
  replace hP : va_P D vwCl ([(h0, .inr (5, [.ref h0_sha, .ref h0_key, .ref h0_value, .ref h0_message, .int (1 : Int32), .int c_requests])), (h0_key, .inl (cy 0, 32, .inl c_key_15)), (h0_message, .inl (cy 0, 97, .inl c_message_16)), (h0_sha, .inr (9, [.ref h0_sha_sums, .ref h0_sha_schedule, .ref h0_sha_inner, .int c_sha_filled_17, .int c_sha_total_18])), (h0_sha_inner, .inl (cy 0, 32, .inl c_sha_inner_19)), (h0_sha_schedule, .inl (cy 1, 64, .inl c_sha_schedule_20)), (h0_sha_sums, .inl (cy 1, 8, .inl c_sha_sums_21)), (h0_value, .inl (cy 0, 32, .inl c_value_22)), (ha1, .inl (cy 0, n_a1, .inl ca1))]) H := hP
  replace hD : va_D A ([(h0, .inr (5, [.ref h0_sha, .ref h0_key, .ref h0_value, .ref h0_message, .int (1 : Int32), .int c_requests])), (h0_key, .inl (cy 0, 32, .inl c_key_15)), (h0_message, .inl (cy 0, 97, .inl c_message_16)), (h0_sha, .inr (9, [.ref h0_sha_sums, .ref h0_sha_schedule, .ref h0_sha_inner, .int c_sha_filled_17, .int c_sha_total_18])), (h0_sha_inner, .inl (cy 0, 32, .inl c_sha_inner_19)), (h0_sha_schedule, .inl (cy 1, 64, .inl c_sha_schedule_20)), (h0_sha_sums, .inl (cy 1, 8, .inl c_sha_sums_21)), (h0_value, .inl (cy 0, 32, .inl c_value_22)), (ha1, .inl (cy 0, n_a1, .inl ca1))]) := hD
  refine W.eq (g2 := F0 m 39 ls []) rfl ?_
  refine lv_aload_n (pc := 39) hx hb (zdt_at zt_X3_feed_0 21 rfl) rfl (lv_at hl 0 rfl) ?_
  refine lv_iconst (pc := 40) (v := (0 : Int32)) hx hb (zdt_at zt_X3_feed_0 22 rfl) (by decide) ?_
  refine va_put (pc := 41) (D := D) (ci := 5) (v := .int (0 : Int32)) (ty := .int) (C := RX3) (T := TX3) (N := 6) hx hb hts hcX3 tyX3 tyX3_ok nmX3 hown hK hP hD hS 0 rfl rfl 5 (by decide) hw1 (fun _ h9 => h9) rfl (by decide +kernel) rfl rfl (Nat.le_of_ble_eq_true rfl) (zdt_at zt_X3_feed_0 23 rfl) ?_
  clear hP hD hS
  intro H locs hP hD hS
  replace hP : va_P D vwCl ([(h0, .inr (5, [.ref h0_sha, .ref h0_key, .ref h0_value, .ref h0_message, .int (1 : Int32), .int (0 : Int32)])), (h0_key, .inl (cy 0, 32, .inl c_key_15)), (h0_message, .inl (cy 0, 97, .inl c_message_16)), (h0_sha, .inr (9, [.ref h0_sha_sums, .ref h0_sha_schedule, .ref h0_sha_inner, .int c_sha_filled_17, .int c_sha_total_18])), (h0_sha_inner, .inl (cy 0, 32, .inl c_sha_inner_19)), (h0_sha_schedule, .inl (cy 1, 64, .inl c_sha_schedule_20)), (h0_sha_sums, .inl (cy 1, 8, .inl c_sha_sums_21)), (h0_value, .inl (cy 0, 32, .inl c_value_22)), (ha1, .inl (cy 0, n_a1, .inl ca1))]) H := hP
  replace hD : va_D A ([(h0, .inr (5, [.ref h0_sha, .ref h0_key, .ref h0_value, .ref h0_message, .int (1 : Int32), .int (0 : Int32)])), (h0_key, .inl (cy 0, 32, .inl c_key_15)), (h0_message, .inl (cy 0, 97, .inl c_message_16)), (h0_sha, .inr (9, [.ref h0_sha_sums, .ref h0_sha_schedule, .ref h0_sha_inner, .int c_sha_filled_17, .int c_sha_total_18])), (h0_sha_inner, .inl (cy 0, 32, .inl c_sha_inner_19)), (h0_sha_schedule, .inl (cy 1, 64, .inl c_sha_schedule_20)), (h0_sha_sums, .inl (cy 1, 8, .inl c_sha_sums_21)), (h0_value, .inl (cy 0, 32, .inl c_value_22)), (ha1, .inl (cy 0, n_a1, .inl ca1))]) := hD
  cases hf
  exact W.vret (pc := 44) hx hb hr (fun t ht hW => ⟨rfl, ⟨by rw [ht]; exact hP, hD⟩, hS.F ht⟩) hS.2.2 (zdt_at zt_X3_feed_0 24 rfl)
set_option maxHeartbeats 4000000 in
set_option maxRecDepth 100000 in
theorem c_X3_answer (l : Launch) (D : va_G) (cy : Nat → ClassId) (tt : Nat → Nat) (sz : Nat) (h0 : Nat) (h0_sha : Nat) (h0_key : Nat) (h0_value : Nat) (h0_message : Nat) (h0_sha_sums : Nat) (h0_sha_schedule : Nat) (h0_sha_inner : Nat) (ha1 : Nat) (ha3 : Nat) (n_a1 : Nat) (n_a3 : Nat) (p2 : Int32) (p4 : Int32) (p5 : Int32) (c_requests : Int32) (c_key : Nat → Int32) (c_message : Nat → Int32) (c_sha_filled : Int32) (c_sha_total : Int32) (c_sha_inner : Nat → Int32) (c_sha_schedule : Nat → Int32) (c_sha_sums : Nat → Int32) (c_value : Nat → Int32) (ca1 : Nat → Int32) (ca3 : Nat → Int32) (c_begun : Int32) (c_requests' : Int32) (c_key' : Nat → Int32) (c_message' : Nat → Int32) (c_sha_filled' : Int32) (c_sha_total' : Int32) (c_sha_inner' : Nat → Int32) (c_sha_schedule' : Nat → Int32) (c_sha_sums' : Nat → Int32) (c_value' : Nat → Int32) (ca3' : Nat → Int32) (hf : f_X3_answer n_a1 n_a3 p2 p4 p5 c_requests c_key c_message c_sha_filled c_sha_total c_sha_inner c_sha_schedule c_sha_sums c_value ca1 ca3 = some (c_requests', c_key', c_message', c_sha_filled', c_sha_total', c_sha_inner', c_sha_schedule', c_sha_sums', c_value', ca3')) : Met l yX3_answer wsX3_answer ({ frames := 5, cells := 0, slots := 0, locals := 135 }) (zPc D cy tt sz [.ref h0, .ref ha1, .int p2, .ref ha3, .int p4, .int p5] ([(h0, .inr (5, [.ref h0_sha, .ref h0_key, .ref h0_value, .ref h0_message, .int c_begun, .int c_requests])), (h0_key, .inl (cy 0, 32, .inl c_key)), (h0_message, .inl (cy 0, 97, .inl c_message)), (h0_sha, .inr (9, [.ref h0_sha_sums, .ref h0_sha_schedule, .ref h0_sha_inner, .int c_sha_filled, .int c_sha_total])), (h0_sha_inner, .inl (cy 0, 32, .inl c_sha_inner)), (h0_sha_schedule, .inl (cy 1, 64, .inl c_sha_schedule)), (h0_sha_sums, .inl (cy 1, 8, .inl c_sha_sums)), (h0_value, .inl (cy 0, 32, .inl c_value)), (ha1, .inl (cy 0, n_a1, .inl ca1)), (ha3, .inl (cy 0, n_a3, .inl ca3))])) (zQ D none ([(h0, .inr (5, [.ref h0_sha, .ref h0_key, .ref h0_value, .ref h0_message, .int c_begun, .int c_requests'])), (h0_key, .inl (cy 0, 32, .inl c_key')), (h0_message, .inl (cy 0, 97, .inl c_message')), (h0_sha, .inr (9, [.ref h0_sha_sums, .ref h0_sha_schedule, .ref h0_sha_inner, .int c_sha_filled', .int c_sha_total'])), (h0_sha_inner, .inl (cy 0, 32, .inl c_sha_inner')), (h0_sha_schedule, .inl (cy 1, 64, .inl c_sha_schedule')), (h0_sha_sums, .inl (cy 1, 8, .inl c_sha_sums')), (h0_value, .inl (cy 0, 32, .inl c_value')), (ha1, .inl (cy 0, n_a1, .inl ca1)), (ha3, .inl (cy 0, n_a3, .inl ca3'))]) (va_A ([(h0, .inr (5, [.ref h0_sha, .ref h0_key, .ref h0_value, .ref h0_message, .int c_begun, .int c_requests])), (h0_key, .inl (cy 0, 32, .inl c_key)), (h0_message, .inl (cy 0, 97, .inl c_message)), (h0_sha, .inr (9, [.ref h0_sha_sums, .ref h0_sha_schedule, .ref h0_sha_inner, .int c_sha_filled, .int c_sha_total])), (h0_sha_inner, .inl (cy 0, 32, .inl c_sha_inner)), (h0_sha_schedule, .inl (cy 1, 64, .inl c_sha_schedule)), (h0_sha_sums, .inl (cy 1, 8, .inl c_sha_sums)), (h0_value, .inl (cy 0, 32, .inl c_value)), (ha1, .inl (cy 0, n_a1, .inl ca1)), (ha3, .inl (cy 0, n_a3, .inl ca3))]) sz)) 0 0 (va_A ([(h0, .inr (5, [.ref h0_sha, .ref h0_key, .ref h0_value, .ref h0_message, .int c_begun, .int c_requests])), (h0_key, .inl (cy 0, 32, .inl c_key)), (h0_message, .inl (cy 0, 97, .inl c_message)), (h0_sha, .inr (9, [.ref h0_sha_sums, .ref h0_sha_schedule, .ref h0_sha_inner, .int c_sha_filled, .int c_sha_total])), (h0_sha_inner, .inl (cy 0, 32, .inl c_sha_inner)), (h0_sha_schedule, .inl (cy 1, 64, .inl c_sha_schedule)), (h0_sha_sums, .inl (cy 1, 8, .inl c_sha_sums)), (h0_value, .inl (cy 0, 32, .inl c_value)), (ha1, .inl (cy 0, n_a1, .inl ca1)), (ha3, .inl (cy 0, n_a3, .inl ca3))]) sz) := by
  refine Met.ofW (cc := cX3_answer) (maxL := 7) (ret := none) (by decide) rfl ?_
  intro p e s m args below meth c s₁ B hml hv
  obtain ⟨rfl, rfl, hP, hD0, hE⟩ := hv
  have hx := B.exec
  have hb := B.bytes
  have hr := B.returns
  have hts := atoms_spec (ws := wsX3_answer) B.pre
  have hown : s.vm.findClass RX3 = some m.cls := findClass_of_methodNamed B.named
  have hlocks := B.notSynchronized
  clear B
  have hD := hD0.self (sz := s.heap.size)
  generalize hAe : va_A ([(h0, .inr (5, [.ref h0_sha, .ref h0_key, .ref h0_value, .ref h0_message, .int c_begun, .int c_requests])), (h0_key, .inl (cy 0, 32, .inl c_key)), (h0_message, .inl (cy 0, 97, .inl c_message)), (h0_sha, .inr (9, [.ref h0_sha_sums, .ref h0_sha_schedule, .ref h0_sha_inner, .int c_sha_filled, .int c_sha_total])), (h0_sha_inner, .inl (cy 0, 32, .inl c_sha_inner)), (h0_sha_schedule, .inl (cy 1, 64, .inl c_sha_schedule)), (h0_sha_sums, .inl (cy 1, 8, .inl c_sha_sums)), (h0_value, .inl (cy 0, 32, .inl c_value)), (ha1, .inl (cy 0, n_a1, .inl ca1)), (ha3, .inl (cy 0, n_a3, .inl ca3))]) s.heap.size = A at hD hE ⊢
  have hA : ∀ q : Nat, s.heap.size ≤ q → A q := fun q h => by rw [← hAe]; exact Or.inr h
  clear hAe hD0
  have hS : va_S A s.heap s.heap [] := va_S.rf
  have hK := hE.1
  have hw0 := hts (.fieldLink RX3 25 "SealedModule$Generator" "requests" "I") (by decide +kernel)
  have hw1 := hts (.fieldLink RX3 29 "SealedModule$Generator" "sha" "LSealedModule$Sha256;") (by decide +kernel)
  have hw2 := hts (.fieldLink RX3 9 "SealedModule$Generator" "key" "[B") (by decide +kernel)
  have hw3 := hts (.fieldLink RX3 15 "SealedModule$Generator" "value" "[B") (by decide +kernel)
  have hw4 := hts (.methodLink RX3 49 Lib.Math.min.name) (by decide +kernel)
  have hw5 := hts (.static Lib.Math.min.name) (by decide +kernel)
  have hw6 := hts (.initialized "java/lang/Math") (by decide +kernel)
  have hw7 := hts (.code Lib.Math.min.name Lib.Math.min.code 2 (some .int)) (by decide +kernel)
  have hw8 := hts (.methodLink RX3 55 arraycopyName) (by decide +kernel)
  have hw9 := hts (.native arraycopyName) (by decide +kernel)
  have hw10 := hts (.static arraycopyName) (by decide +kernel)
  have hw11 := hts (.initialized "java/lang/System") (by decide +kernel)
  have hcX3 : ∀ w ∈ u_ws RX3 TX3 6, w ∈ wsX3_answer := (fun _ h => List.mem_cons_of_mem _ (List.mem_append_left _ (List.mem_append_left _ (List.mem_append_right _ h))))
  have hl := lv_entry ([.ref h0, .ref ha1, .int p2, .ref ha3, .int p4, .int p5]) (n := 7) (Nat.le_of_ble_eq_true rfl)
  rw [lg_entry_eq]
  generalize (lg_sl ([.ref h0, .ref ha1, .int p2, .ref ha3, .int p4, .int p5]) ++ List.replicate (7 - (lg_sl ([.ref h0, .ref ha1, .int p2, .ref ha3, .int p4, .int p5])).length) Slot.unset).toArray = ls at hl ⊢
  replace hl : lv_has ls 7 [(0, .ref h0), (1, .ref ha1), (2, .int p2), (3, .ref ha3), (4, .int p4), (5, .int p5)] := hl
  unfold f_X3_answer at hf
  refine zgo (fun GW hTo hFr => ?_)
  refine hFr _ _ _ ?_
  obtain ⟨H, hHe⟩ : ∃ H, H = s.heap := ⟨_, rfl⟩
  obtain ⟨locs, hLe⟩ : ∃ L : List Loc, L = [] := ⟨_, rfl⟩
  rw [← hHe] at hP
  replace hS : va_S A s.heap H locs := by rw [hHe, hLe]; exact hS
  refine zat hHe.symm hLe.symm ?_
  clear hHe hLe
  refine lv_iload_n (pc := 0) hx hb (zdt_at zt_X3_answer_0 0 rfl) rfl (lv_at hl 2 rfl) ?_
  replace hf := zj_s hf
  obtain ⟨K_9, eK_9, hf⟩ := hf
  have kK_9 : ∀ (c_key_1 : Nat → Int32) (c_message_2 : Nat → Int32) (c_sha_filled_3 : Int32) (c_sha_inner_4 : Nat → Int32) (c_sha_schedule_5 : Nat → Int32) (c_sha_sums_6 : Nat → Int32) (c_sha_total_7 : Int32) (c_value_8 : Nat → Int32) (H : Heap) (locs : List Loc) (ls : Array Slot), va_P D vwCl ([(h0, .inr (5, [.ref h0_sha, .ref h0_key, .ref h0_value, .ref h0_message, .int c_begun, .int c_requests])), (h0_key, .inl (cy 0, 32, .inl c_key_1)), (h0_message, .inl (cy 0, 97, .inl c_message_2)), (h0_sha, .inr (9, [.ref h0_sha_sums, .ref h0_sha_schedule, .ref h0_sha_inner, .int c_sha_filled_3, .int c_sha_total_7])), (h0_sha_inner, .inl (cy 0, 32, .inl c_sha_inner_4)), (h0_sha_schedule, .inl (cy 1, 64, .inl c_sha_schedule_5)), (h0_sha_sums, .inl (cy 1, 8, .inl c_sha_sums_6)), (h0_value, .inl (cy 0, 32, .inl c_value_8)), (ha1, .inl (cy 0, n_a1, .inl ca1)), (ha3, .inl (cy 0, n_a3, .inl ca3))]) H → va_D A ([(h0, .inr (5, [.ref h0_sha, .ref h0_key, .ref h0_value, .ref h0_message, .int c_begun, .int c_requests])), (h0_key, .inl (cy 0, 32, .inl c_key_1)), (h0_message, .inl (cy 0, 97, .inl c_message_2)), (h0_sha, .inr (9, [.ref h0_sha_sums, .ref h0_sha_schedule, .ref h0_sha_inner, .int c_sha_filled_3, .int c_sha_total_7])), (h0_sha_inner, .inl (cy 0, 32, .inl c_sha_inner_4)), (h0_sha_schedule, .inl (cy 1, 64, .inl c_sha_schedule_5)), (h0_sha_sums, .inl (cy 1, 8, .inl c_sha_sums_6)), (h0_value, .inl (cy 0, 32, .inl c_value_8)), (ha1, .inl (cy 0, n_a1, .inl ca1)), (ha3, .inl (cy 0, n_a3, .inl ca3))]) → va_S A s.heap H locs → lv_has ls 7 [(0, .ref h0), (1, .ref ha1), (2, .int p2), (3, .ref ha3), (4, .int p4), (5, .int p5)] → K_9 c_key_1 c_message_2 c_sha_filled_3 c_sha_inner_4 c_sha_schedule_5 c_sha_sums_6 c_sha_total_7 c_value_8 = some (c_requests', c_key', c_message', c_sha_filled', c_sha_total', c_sha_inner', c_sha_schedule', c_sha_sums', c_value', ca3') → GW H locs (F0 m 10 ls []) := by
    clear hf hl hP hD hS
    intro c_key_1 c_message_2 c_sha_filled_3 c_sha_inner_4 c_sha_schedule_5 c_sha_sums_6 c_sha_total_7 c_value_8 H locs ls hP hD hS hl hf
    rw [eK_9] at hf
    clear eK_9
    refine hFr _ _ _ ?_
    refine lv_iconst (pc := 10) (v := (0 : Int32)) hx hb (zdt_at zt_X3_answer_0 6 rfl) (by decide) ?_
    refine lv_istore (pc := 11) (lv' := [(6, .int (0 : Int32)), (0, .ref h0), (1, .ref ha1), (2, .int p2), (3, .ref ha3), (4, .int p4), (5, .int p5)]) hx hb (zdt_at zt_X3_answer_0 7 rfl) hl (by decide) rfl ?_
    clear hl
    intro ls hl
    replace hf := zj_s hf
    obtain ⟨K_25, eK_25, hf⟩ := hf
    have kK_25 : ∀ (c_sha_filled_18 : Int32) (c_sha_inner_19 : Nat → Int32) (c_sha_schedule_20 : Nat → Int32) (c_sha_sums_21 : Nat → Int32) (c_sha_total_22 : Int32) (c_value_23 : Nat → Int32) (ca3_24 : Nat → Int32) (H : Heap) (locs : List Loc) (ls : Array Slot), va_P D vwCl ([(h0, .inr (5, [.ref h0_sha, .ref h0_key, .ref h0_value, .ref h0_message, .int c_begun, .int c_requests])), (h0_key, .inl (cy 0, 32, .inl c_key_1)), (h0_message, .inl (cy 0, 97, .inl c_message_2)), (h0_sha, .inr (9, [.ref h0_sha_sums, .ref h0_sha_schedule, .ref h0_sha_inner, .int c_sha_filled_18, .int c_sha_total_22])), (h0_sha_inner, .inl (cy 0, 32, .inl c_sha_inner_19)), (h0_sha_schedule, .inl (cy 1, 64, .inl c_sha_schedule_20)), (h0_sha_sums, .inl (cy 1, 8, .inl c_sha_sums_21)), (h0_value, .inl (cy 0, 32, .inl c_value_23)), (ha1, .inl (cy 0, n_a1, .inl ca1)), (ha3, .inl (cy 0, n_a3, .inl ca3_24))]) H → va_D A ([(h0, .inr (5, [.ref h0_sha, .ref h0_key, .ref h0_value, .ref h0_message, .int c_begun, .int c_requests])), (h0_key, .inl (cy 0, 32, .inl c_key_1)), (h0_message, .inl (cy 0, 97, .inl c_message_2)), (h0_sha, .inr (9, [.ref h0_sha_sums, .ref h0_sha_schedule, .ref h0_sha_inner, .int c_sha_filled_18, .int c_sha_total_22])), (h0_sha_inner, .inl (cy 0, 32, .inl c_sha_inner_19)), (h0_sha_schedule, .inl (cy 1, 64, .inl c_sha_schedule_20)), (h0_sha_sums, .inl (cy 1, 8, .inl c_sha_sums_21)), (h0_value, .inl (cy 0, 32, .inl c_value_23)), (ha1, .inl (cy 0, n_a1, .inl ca1)), (ha3, .inl (cy 0, n_a3, .inl ca3_24))]) → va_S A s.heap H locs → lv_has ls 7 [(0, .ref h0), (1, .ref ha1), (2, .int p2)] → K_25 c_sha_filled_18 c_sha_inner_19 c_sha_schedule_20 c_sha_sums_21 c_sha_total_22 c_value_23 ca3_24 = some (c_requests', c_key', c_message', c_sha_filled', c_sha_total', c_sha_inner', c_sha_schedule', c_sha_sums', c_value', ca3') → GW H locs (F0 m 75 ls []) := by
      clear hf hl hP hD hS
      intro c_sha_filled_18 c_sha_inner_19 c_sha_schedule_20 c_sha_sums_21 c_sha_total_22 c_value_23 ca3_24 H locs ls hP hD hS hl hf
      rw [eK_25] at hf
      clear eK_25
      refine hFr _ _ _ ?_
      refine lv_aload_n (pc := 75) hx hb (zdt_at zt_X3_answer_0 39 rfl) rfl (lv_at hl 0 rfl) ?_
      refine lv_aload_n (pc := 76) hx hb (zdt_at zt_X3_answer_0 40 rfl) rfl (lv_at hl 1 rfl) ?_
      refine lv_iload_n (pc := 77) hx hb (zdt_at zt_X3_answer_0 41 rfl) rfl (lv_at hl 2 rfl) ?_
      replace hf := zb_s hf
      obtain ⟨⟨c_key_26, c_message_27, c_sha_filled_28, c_sha_total_29, c_sha_inner_30, c_sha_schedule_31, c_sha_sums_32, c_value_33⟩, hc_, hf⟩ := hf
      refine zcn2 (pc := 78) (rv := none) (va_runV (As := [.ref ha1, .int p2]) (rest := []) ⟨hx, hb, hml, hown, hts⟩ (c_X3_update l D cy tt H.size h0 h0_sha h0_key h0_value h0_message h0_sha_sums h0_sha_schedule h0_sha_inner ha1 n_a1 p2 c_key_1 c_message_2 c_sha_filled_18 c_sha_total_22 c_sha_inner_19 c_sha_schedule_20 c_sha_sums_21 c_value_23 ca1 c_begun c_requests c_key_26 c_message_27 c_sha_filled_28 c_sha_total_29 c_sha_inner_30 c_sha_schedule_31 c_sha_sums_32 c_value_33 hc_) (cwV 2 hts gX3_answer_X3_update rfl rfl rfl (by decide +kernel) ⟨Nat.le_of_ble_eq_true rfl, Nat.le_of_ble_eq_true rfl⟩) ⟨zblind, va_recv hK hP (ci := 5) (q0 := 0) rfl rfl, zpre hE hS (hP.sub [0, 1, 2, 3, 4, 5, 6, 7, 8] rfl) (hD.sub [0, 1, 2, 3, 4, 5, 6, 7, 8] (by decide) rfl) (va_free hD hS hA [0, 1, 2, 3, 4, 5, 6, 7, 8] rfl)⟩ rfl rfl hl.1 rfl (lv_room (Nat.le_of_ble_eq_true rfl)) (zdt_at zt_X3_answer_0 42 rfl) ⟨Nat.zero_le _, Nat.zero_le _⟩) hS hP hD (va_free hD hS hA [0, 1, 2, 3, 4, 5, 6, 7, 8] rfl) [0, 1, 2, 3, 4, 5, 6, 7, 8] rfl (by decide) rfl ?_
      clear hP hD hS hc_
      intro H locs hP hD hS
      replace hP : va_P D vwCl ([(h0, .inr (5, [.ref h0_sha, .ref h0_key, .ref h0_value, .ref h0_message, .int c_begun, .int c_requests])), (h0_key, .inl (cy 0, 32, .inl c_key_26)), (h0_message, .inl (cy 0, 97, .inl c_message_27)), (h0_sha, .inr (9, [.ref h0_sha_sums, .ref h0_sha_schedule, .ref h0_sha_inner, .int c_sha_filled_28, .int c_sha_total_29])), (h0_sha_inner, .inl (cy 0, 32, .inl c_sha_inner_30)), (h0_sha_schedule, .inl (cy 1, 64, .inl c_sha_schedule_31)), (h0_sha_sums, .inl (cy 1, 8, .inl c_sha_sums_32)), (h0_value, .inl (cy 0, 32, .inl c_value_33)), (ha1, .inl (cy 0, n_a1, .inl ca1)), (ha3, .inl (cy 0, n_a3, .inl ca3_24))]) H := hP
      replace hD : va_D A ([(h0, .inr (5, [.ref h0_sha, .ref h0_key, .ref h0_value, .ref h0_message, .int c_begun, .int c_requests])), (h0_key, .inl (cy 0, 32, .inl c_key_26)), (h0_message, .inl (cy 0, 97, .inl c_message_27)), (h0_sha, .inr (9, [.ref h0_sha_sums, .ref h0_sha_schedule, .ref h0_sha_inner, .int c_sha_filled_28, .int c_sha_total_29])), (h0_sha_inner, .inl (cy 0, 32, .inl c_sha_inner_30)), (h0_sha_schedule, .inl (cy 1, 64, .inl c_sha_schedule_31)), (h0_sha_sums, .inl (cy 1, 8, .inl c_sha_sums_32)), (h0_value, .inl (cy 0, 32, .inl c_value_33)), (ha1, .inl (cy 0, n_a1, .inl ca1)), (ha3, .inl (cy 0, n_a3, .inl ca3_24))]) := hD
      refine W.eq (g2 := F0 m 81 ls []) rfl ?_
      refine lv_aload_n (pc := 81) hx hb (zdt_at zt_X3_answer_0 43 rfl) rfl (lv_at hl 0 rfl) ?_
      refine lv_dup (pc := 82) hx hb (zdt_at zt_X3_answer_0 44 rfl) rfl ?_
      refine va_get (pc := 83) (D := D) (ci := 5) (v := .int c_requests) (C := RX3) (T := TX3) (N := 6) hx hb hts hcX3 hown hK hP 0 rfl rfl 5 (by decide) hw0 (fun _ h9 => h9) rfl (zdt_at zt_X3_answer_0 45 rfl) ?_
      refine lv_iconst (pc := 86) (v := (1 : Int32)) hx hb (zdt_at zt_X3_answer_0 46 rfl) (by decide) ?_
      refine lv_iadd (pc := 87) hx hb (zdt_at zt_X3_answer_0 47 rfl) ?_
      refine lv_topi (fun x_34 e_ => ?_)
      replace hf := zn_s hf e_
      clear e_
      refine va_put (pc := 88) (D := D) (ci := 5) (v := .int x_34) (ty := .int) (C := RX3) (T := TX3) (N := 6) hx hb hts hcX3 tyX3 tyX3_ok nmX3 hown hK hP hD hS 0 rfl rfl 5 (by decide) hw0 (fun _ h9 => h9) rfl (by decide +kernel) rfl rfl (Nat.le_of_ble_eq_true rfl) (zdt_at zt_X3_answer_0 48 rfl) ?_
      clear hP hD hS
      intro H locs hP hD hS
      replace hP : va_P D vwCl ([(h0, .inr (5, [.ref h0_sha, .ref h0_key, .ref h0_value, .ref h0_message, .int c_begun, .int x_34])), (h0_key, .inl (cy 0, 32, .inl c_key_26)), (h0_message, .inl (cy 0, 97, .inl c_message_27)), (h0_sha, .inr (9, [.ref h0_sha_sums, .ref h0_sha_schedule, .ref h0_sha_inner, .int c_sha_filled_28, .int c_sha_total_29])), (h0_sha_inner, .inl (cy 0, 32, .inl c_sha_inner_30)), (h0_sha_schedule, .inl (cy 1, 64, .inl c_sha_schedule_31)), (h0_sha_sums, .inl (cy 1, 8, .inl c_sha_sums_32)), (h0_value, .inl (cy 0, 32, .inl c_value_33)), (ha1, .inl (cy 0, n_a1, .inl ca1)), (ha3, .inl (cy 0, n_a3, .inl ca3_24))]) H := hP
      replace hD : va_D A ([(h0, .inr (5, [.ref h0_sha, .ref h0_key, .ref h0_value, .ref h0_message, .int c_begun, .int x_34])), (h0_key, .inl (cy 0, 32, .inl c_key_26)), (h0_message, .inl (cy 0, 97, .inl c_message_27)), (h0_sha, .inr (9, [.ref h0_sha_sums, .ref h0_sha_schedule, .ref h0_sha_inner, .int c_sha_filled_28, .int c_sha_total_29])), (h0_sha_inner, .inl (cy 0, 32, .inl c_sha_inner_30)), (h0_sha_schedule, .inl (cy 1, 64, .inl c_sha_schedule_31)), (h0_sha_sums, .inl (cy 1, 8, .inl c_sha_sums_32)), (h0_value, .inl (cy 0, 32, .inl c_value_33)), (ha1, .inl (cy 0, n_a1, .inl ca1)), (ha3, .inl (cy 0, n_a3, .inl ca3_24))]) := hD
      cases hf
      exact W.vret (pc := 91) hx hb hr (fun t ht hW => ⟨rfl, ⟨by rw [ht]; exact hP, hD⟩, hS.F ht⟩) hS.2.2 (zdt_at zt_X3_answer_0 49 rfl)
    clear eK_25
    refine hTo _ _ _ (zl_go (fun z => match z with | (i_10, c_sha_filled_11, c_sha_inner_12, c_sha_schedule_13, c_sha_sums_14, c_sha_total_15, c_value_16, ca3_17) => ∀ (H : Heap) (locs : List Loc) (ls : Array Slot), va_P D vwCl ([(h0, .inr (5, [.ref h0_sha, .ref h0_key, .ref h0_value, .ref h0_message, .int c_begun, .int c_requests])), (h0_key, .inl (cy 0, 32, .inl c_key_1)), (h0_message, .inl (cy 0, 97, .inl c_message_2)), (h0_sha, .inr (9, [.ref h0_sha_sums, .ref h0_sha_schedule, .ref h0_sha_inner, .int c_sha_filled_11, .int c_sha_total_15])), (h0_sha_inner, .inl (cy 0, 32, .inl c_sha_inner_12)), (h0_sha_schedule, .inl (cy 1, 64, .inl c_sha_schedule_13)), (h0_sha_sums, .inl (cy 1, 8, .inl c_sha_sums_14)), (h0_value, .inl (cy 0, 32, .inl c_value_16)), (ha1, .inl (cy 0, n_a1, .inl ca1)), (ha3, .inl (cy 0, n_a3, .inl ca3_17))]) H → va_D A ([(h0, .inr (5, [.ref h0_sha, .ref h0_key, .ref h0_value, .ref h0_message, .int c_begun, .int c_requests])), (h0_key, .inl (cy 0, 32, .inl c_key_1)), (h0_message, .inl (cy 0, 97, .inl c_message_2)), (h0_sha, .inr (9, [.ref h0_sha_sums, .ref h0_sha_schedule, .ref h0_sha_inner, .int c_sha_filled_11, .int c_sha_total_15])), (h0_sha_inner, .inl (cy 0, 32, .inl c_sha_inner_12)), (h0_sha_schedule, .inl (cy 1, 64, .inl c_sha_schedule_13)), (h0_sha_sums, .inl (cy 1, 8, .inl c_sha_sums_14)), (h0_value, .inl (cy 0, 32, .inl c_value_16)), (ha1, .inl (cy 0, n_a1, .inl ca1)), (ha3, .inl (cy 0, n_a3, .inl ca3_17))]) → va_S A s.heap H locs → lv_has ls 7 [(0, .ref h0), (1, .ref ha1), (2, .int p2), (3, .ref ha3), (4, .int p4), (5, .int p5), (6, .int i_10)] → GW H locs (F0 m 13 ls [])) hf ?_ H locs ls hP hD hS (lv_sub hl [1, 2, 3, 4, 5, 6, 0] rfl))
    clear hf hl hP hD hS
    intro self_35 ihself_35 z hf
    obtain ⟨i_10, c_sha_filled_11, c_sha_inner_12, c_sha_schedule_13, c_sha_sums_14, c_sha_total_15, c_value_16, ca3_17⟩ := z
    intro H locs ls hP hD hS hl
    refine hFr _ _ _ ?_
    unfold b_X3_answer_13 at hf
    refine lv_iload (pc := 13) hx hb (zdt_at zt_X3_answer_0 8 rfl) (lv_at hl 6 rfl) ?_
    refine lv_iload (pc := 15) hx hb (zdt_at zt_X3_answer_0 9 rfl) (lv_at hl 5 rfl) ?_
    refine lv_icmp_ge (pc := 17) (tgt := 75) hx hb (zdt_at zt_X3_answer_0 10 rfl) (by decide) (fun cn_ => ?t_36) (fun cn_ => ?f_37)
    case t_36 =>
      replace hf := zt_s cn_ hf
      clear cn_
      exact hTo _ _ _ (kK_25 _ _ _ _ _ _ _ H locs ls hP hD hS (lv_sub hl [0, 1, 2] rfl) hf)
    replace hf := ze_s cn_ hf
    clear cn_
    refine lv_aload_n (pc := 20) hx hb (zdt_at zt_X3_answer_0 11 rfl) rfl (lv_at hl 0 rfl) ?_
    refine va_get (pc := 21) (D := D) (ci := 5) (v := .ref h0_sha) (C := RX3) (T := TX3) (N := 6) hx hb hts hcX3 hown hK hP 0 rfl rfl 0 (by decide) hw1 (fun _ h9 => h9) rfl (zdt_at zt_X3_answer_0 12 rfl) ?_
    refine lv_aload_n (pc := 24) hx hb (zdt_at zt_X3_answer_0 13 rfl) rfl (lv_at hl 0 rfl) ?_
    refine va_get (pc := 25) (D := D) (ci := 5) (v := .ref h0_key) (C := RX3) (T := TX3) (N := 6) hx hb hts hcX3 hown hK hP 0 rfl rfl 1 (by decide) hw2 (fun _ h9 => h9) rfl (zdt_at zt_X3_answer_0 14 rfl) ?_
    refine lv_bipush (pc := 28) (v := (32 : Int32)) hx hb (zdt_at zt_X3_answer_0 15 rfl) (by decide) ?_
    refine lv_aload_n (pc := 30) hx hb (zdt_at zt_X3_answer_0 16 rfl) rfl (lv_at hl 0 rfl) ?_
    refine va_get (pc := 31) (D := D) (ci := 5) (v := .ref h0_value) (C := RX3) (T := TX3) (N := 6) hx hb hts hcX3 hown hK hP 0 rfl rfl 2 (by decide) hw3 (fun _ h9 => h9) rfl (zdt_at zt_X3_answer_0 17 rfl) ?_
    refine lv_iconst (pc := 34) (v := (0 : Int32)) hx hb (zdt_at zt_X3_answer_0 18 rfl) (by decide) ?_
    refine lv_bipush (pc := 35) (v := (32 : Int32)) hx hb (zdt_at zt_X3_answer_0 19 rfl) (by decide) ?_
    refine lv_aload_n (pc := 37) hx hb (zdt_at zt_X3_answer_0 20 rfl) rfl (lv_at hl 0 rfl) ?_
    refine va_get (pc := 38) (D := D) (ci := 5) (v := .ref h0_value) (C := RX3) (T := TX3) (N := 6) hx hb hts hcX3 hown hK hP 0 rfl rfl 2 (by decide) hw3 (fun _ h9 => h9) rfl (zdt_at zt_X3_answer_0 21 rfl) ?_
    refine lv_iconst (pc := 41) (v := (0 : Int32)) hx hb (zdt_at zt_X3_answer_0 22 rfl) (by decide) ?_
    replace hf := zb_s hf
    obtain ⟨⟨c_sha_filled_38, c_sha_total_39, c_sha_inner_40, c_sha_schedule_41, c_sha_sums_42, c_value_43⟩, hc_, hf⟩ := hf
    refine zcn2 (pc := 42) (rv := none) (va_runV (As := [.ref h0_key, .int (32 : Int32), .ref h0_value, .int (0 : Int32), .int (32 : Int32), .ref h0_value, .int (0 : Int32)]) (rest := []) ⟨hx, hb, hml, hown, hts⟩ (c_X7_mac_6a3 l D cy tt H.size h0_sha h0_sha_sums h0_sha_schedule h0_sha_inner h0_key h0_value 32 32 (32 : Int32) (0 : Int32) (32 : Int32) (0 : Int32) c_sha_filled_11 c_sha_total_15 c_sha_inner_12 c_sha_schedule_13 c_sha_sums_14 c_key_1 c_value_16 c_sha_filled_38 c_sha_total_39 c_sha_inner_40 c_sha_schedule_41 c_sha_sums_42 c_value_43 hc_) (cwV 7 hts gX3_answer_X7_mac rfl rfl rfl (by decide +kernel) ⟨Nat.le_of_ble_eq_true rfl, Nat.le_of_ble_eq_true rfl⟩) ⟨zblind, va_recv hK hP (ci := 9) (q0 := 3) rfl rfl, zpre hE hS (hP.sub [3, 4, 5, 6, 1, 7] rfl) (hD.sub [3, 4, 5, 6, 1, 7] (by decide) rfl) (va_free hD hS hA [3, 4, 5, 6, 1, 7] rfl)⟩ rfl rfl hl.1 rfl (lv_room (Nat.le_of_ble_eq_true rfl)) (zdt_at zt_X3_answer_0 23 rfl) ⟨Nat.zero_le _, Nat.zero_le _⟩) hS hP hD (va_free hD hS hA [3, 4, 5, 6, 1, 7] rfl) [3, 4, 5, 6, 1, 7] rfl (by decide) rfl ?_
    clear hP hD hS hc_
    intro H locs hP hD hS
    replace hP : va_P D vwCl ([(h0, .inr (5, [.ref h0_sha, .ref h0_key, .ref h0_value, .ref h0_message, .int c_begun, .int c_requests])), (h0_key, .inl (cy 0, 32, .inl c_key_1)), (h0_message, .inl (cy 0, 97, .inl c_message_2)), (h0_sha, .inr (9, [.ref h0_sha_sums, .ref h0_sha_schedule, .ref h0_sha_inner, .int c_sha_filled_38, .int c_sha_total_39])), (h0_sha_inner, .inl (cy 0, 32, .inl c_sha_inner_40)), (h0_sha_schedule, .inl (cy 1, 64, .inl c_sha_schedule_41)), (h0_sha_sums, .inl (cy 1, 8, .inl c_sha_sums_42)), (h0_value, .inl (cy 0, 32, .inl c_value_43)), (ha1, .inl (cy 0, n_a1, .inl ca1)), (ha3, .inl (cy 0, n_a3, .inl ca3_17))]) H := hP
    replace hD : va_D A ([(h0, .inr (5, [.ref h0_sha, .ref h0_key, .ref h0_value, .ref h0_message, .int c_begun, .int c_requests])), (h0_key, .inl (cy 0, 32, .inl c_key_1)), (h0_message, .inl (cy 0, 97, .inl c_message_2)), (h0_sha, .inr (9, [.ref h0_sha_sums, .ref h0_sha_schedule, .ref h0_sha_inner, .int c_sha_filled_38, .int c_sha_total_39])), (h0_sha_inner, .inl (cy 0, 32, .inl c_sha_inner_40)), (h0_sha_schedule, .inl (cy 1, 64, .inl c_sha_schedule_41)), (h0_sha_sums, .inl (cy 1, 8, .inl c_sha_sums_42)), (h0_value, .inl (cy 0, 32, .inl c_value_43)), (ha1, .inl (cy 0, n_a1, .inl ca1)), (ha3, .inl (cy 0, n_a3, .inl ca3_17))]) := hD
    refine W.eq (g2 := F0 m 45 ls []) rfl ?_
    refine lv_aload_n (pc := 45) hx hb (zdt_at zt_X3_answer_0 24 rfl) rfl (lv_at hl 0 rfl) ?_
    refine va_get (pc := 46) (D := D) (ci := 5) (v := .ref h0_value) (C := RX3) (T := TX3) (N := 6) hx hb hts hcX3 hown hK hP 0 rfl rfl 2 (by decide) hw3 (fun _ h9 => h9) rfl (zdt_at zt_X3_answer_0 25 rfl) ?_
    refine lv_iconst (pc := 49) (v := (0 : Int32)) hx hb (zdt_at zt_X3_answer_0 26 rfl) (by decide) ?_
    refine lv_aload_n (pc := 50) hx hb (zdt_at zt_X3_answer_0 27 rfl) rfl (lv_at hl 3 rfl) ?_
    refine lv_iload (pc := 51) hx hb (zdt_at zt_X3_answer_0 28 rfl) (lv_at hl 4 rfl) ?_
    refine lv_iload (pc := 53) hx hb (zdt_at zt_X3_answer_0 29 rfl) (lv_at hl 6 rfl) ?_
    refine lv_iadd (pc := 55) hx hb (zdt_at zt_X3_answer_0 30 rfl) ?_
    refine lv_bipush (pc := 56) (v := (32 : Int32)) hx hb (zdt_at zt_X3_answer_0 31 rfl) (by decide) ?_
    refine lv_iload (pc := 58) hx hb (zdt_at zt_X3_answer_0 32 rfl) (lv_at hl 5 rfl) ?_
    refine lv_iload (pc := 60) hx hb (zdt_at zt_X3_answer_0 33 rfl) (lv_at hl 6 rfl) ?_
    refine lv_isub (pc := 62) hx hb (zdt_at zt_X3_answer_0 34 rfl) ?_
    refine va_mmin (pc := 63) hx hb (hml.trans hl.1.symm) hown hw4 hw5 hw6 hw7 (Nat.le_of_ble_eq_true rfl) (Nat.le_of_ble_eq_true rfl) (Nat.zero_le _) (Nat.zero_le _) (zdt_at zt_X3_answer_0 35 rfl) ?_
    replace hf := zk_s hf
    refine va_copyi (pc := 66) hx hb (hml.trans hl.1.symm) hown hw8 hw9 hw10 hw11 hK hP hD hS 7 9 0 0 rfl rfl rfl rfl rfl hf.1.1 hf.1.2.1 hf.1.2.2.1 hf.1.2.2.2.1 hf.1.2.2.2.2.1 hf.1.2.2.2.2.2 (Nat.le_of_ble_eq_true rfl) (Nat.le_of_ble_eq_true rfl) (zdt_at zt_X3_answer_0 36 rfl) ?_
    replace hf := hf.2
    clear hP hD hS
    intro H locs hP hD hS
    obtain ⟨ca3_44, e_⟩ : ∃ q : Nat → Int32, q = (va_cpy c_value_43 ca3_17 (0 : Int32).toNatClampNeg (p4 + i_10).toNatClampNeg (if (p5 - i_10) < (32 : Int32) then (p5 - i_10) else (32 : Int32)).toNatClampNeg) := ⟨_, rfl⟩
    replace hf := zn_s hf e_
    replace hP : va_P D vwCl ([(h0, .inr (5, [.ref h0_sha, .ref h0_key, .ref h0_value, .ref h0_message, .int c_begun, .int c_requests])), (h0_key, .inl (cy 0, 32, .inl c_key_1)), (h0_message, .inl (cy 0, 97, .inl c_message_2)), (h0_sha, .inr (9, [.ref h0_sha_sums, .ref h0_sha_schedule, .ref h0_sha_inner, .int c_sha_filled_38, .int c_sha_total_39])), (h0_sha_inner, .inl (cy 0, 32, .inl c_sha_inner_40)), (h0_sha_schedule, .inl (cy 1, 64, .inl c_sha_schedule_41)), (h0_sha_sums, .inl (cy 1, 8, .inl c_sha_sums_42)), (h0_value, .inl (cy 0, 32, .inl c_value_43)), (ha1, .inl (cy 0, n_a1, .inl ca1)), (ha3, .inl (cy 0, n_a3, .inl ca3_44))]) H := by rw [e_]; exact hP
    replace hD : va_D A ([(h0, .inr (5, [.ref h0_sha, .ref h0_key, .ref h0_value, .ref h0_message, .int c_begun, .int c_requests])), (h0_key, .inl (cy 0, 32, .inl c_key_1)), (h0_message, .inl (cy 0, 97, .inl c_message_2)), (h0_sha, .inr (9, [.ref h0_sha_sums, .ref h0_sha_schedule, .ref h0_sha_inner, .int c_sha_filled_38, .int c_sha_total_39])), (h0_sha_inner, .inl (cy 0, 32, .inl c_sha_inner_40)), (h0_sha_schedule, .inl (cy 1, 64, .inl c_sha_schedule_41)), (h0_sha_sums, .inl (cy 1, 8, .inl c_sha_sums_42)), (h0_value, .inl (cy 0, 32, .inl c_value_43)), (ha1, .inl (cy 0, n_a1, .inl ca1)), (ha3, .inl (cy 0, n_a3, .inl ca3_44))]) := by rw [e_]; exact hD
    clear e_
    refine lv_iinc (pc := 69) (v := (i_10 + (32 : Int32))) (lv' := [(6, .int (i_10 + (32 : Int32))), (0, .ref h0), (1, .ref ha1), (2, .int p2), (3, .ref ha3), (4, .int p4), (5, .int p5)]) hx hb (zdt_at zt_X3_answer_0 37 rfl) hl (k := 6) rfl rfl (by decide) rfl ?_
    clear hl
    intro ls hl
    refine lv_goto (pc := 72) (tgt := 13) hx hb (zdt_at zt_X3_answer_0 38 rfl) (by decide) ?_
    exact hTo _ _ _ (ihself_35 _ hf H locs ls hP hD hS (lv_sub hl [1, 2, 3, 4, 5, 6, 0] rfl))
  clear eK_9
  refine lv_if_le (pc := 1) (tgt := 10) hx hb (zdt_at zt_X3_answer_0 1 rfl) (by decide) (fun cn_ => ?t_45) (fun cn_ => ?f_46)
  case t_45 =>
    replace hf := zt_s cn_ hf
    clear cn_
    exact hTo _ _ _ (kK_9 _ _ _ _ _ _ _ _ H locs ls hP hD hS (lv_sub hl [0, 1, 2, 3, 4, 5] rfl) hf)
  replace hf := ze_s cn_ hf
  clear cn_
  refine lv_aload_n (pc := 4) hx hb (zdt_at zt_X3_answer_0 2 rfl) rfl (lv_at hl 0 rfl) ?_
  refine lv_aload_n (pc := 5) hx hb (zdt_at zt_X3_answer_0 3 rfl) rfl (lv_at hl 1 rfl) ?_
  refine lv_iload_n (pc := 6) hx hb (zdt_at zt_X3_answer_0 4 rfl) rfl (lv_at hl 2 rfl) ?_
  replace hf := zb_s hf
  obtain ⟨⟨c_key_47, c_message_48, c_sha_filled_49, c_sha_total_50, c_sha_inner_51, c_sha_schedule_52, c_sha_sums_53, c_value_54⟩, hc_, hf⟩ := hf
  refine zcn2 (pc := 7) (rv := none) (va_runV (As := [.ref ha1, .int p2]) (rest := []) ⟨hx, hb, hml, hown, hts⟩ (c_X3_update l D cy tt H.size h0 h0_sha h0_key h0_value h0_message h0_sha_sums h0_sha_schedule h0_sha_inner ha1 n_a1 p2 c_key c_message c_sha_filled c_sha_total c_sha_inner c_sha_schedule c_sha_sums c_value ca1 c_begun c_requests c_key_47 c_message_48 c_sha_filled_49 c_sha_total_50 c_sha_inner_51 c_sha_schedule_52 c_sha_sums_53 c_value_54 hc_) (cwV 2 hts gX3_answer_X3_update rfl rfl rfl (by decide +kernel) ⟨Nat.le_of_ble_eq_true rfl, Nat.le_of_ble_eq_true rfl⟩) ⟨zblind, va_recv hK hP (ci := 5) (q0 := 0) rfl rfl, zpre hE hS (hP.sub [0, 1, 2, 3, 4, 5, 6, 7, 8] rfl) (hD.sub [0, 1, 2, 3, 4, 5, 6, 7, 8] (by decide) rfl) (va_free hD hS hA [0, 1, 2, 3, 4, 5, 6, 7, 8] rfl)⟩ rfl rfl hl.1 rfl (lv_room (Nat.le_of_ble_eq_true rfl)) (zdt_at zt_X3_answer_0 5 rfl) ⟨Nat.zero_le _, Nat.zero_le _⟩) hS hP hD (va_free hD hS hA [0, 1, 2, 3, 4, 5, 6, 7, 8] rfl) [0, 1, 2, 3, 4, 5, 6, 7, 8] rfl (by decide) rfl ?_
  clear hP hD hS hc_
  intro H locs hP hD hS
  replace hP : va_P D vwCl ([(h0, .inr (5, [.ref h0_sha, .ref h0_key, .ref h0_value, .ref h0_message, .int c_begun, .int c_requests])), (h0_key, .inl (cy 0, 32, .inl c_key_47)), (h0_message, .inl (cy 0, 97, .inl c_message_48)), (h0_sha, .inr (9, [.ref h0_sha_sums, .ref h0_sha_schedule, .ref h0_sha_inner, .int c_sha_filled_49, .int c_sha_total_50])), (h0_sha_inner, .inl (cy 0, 32, .inl c_sha_inner_51)), (h0_sha_schedule, .inl (cy 1, 64, .inl c_sha_schedule_52)), (h0_sha_sums, .inl (cy 1, 8, .inl c_sha_sums_53)), (h0_value, .inl (cy 0, 32, .inl c_value_54)), (ha1, .inl (cy 0, n_a1, .inl ca1)), (ha3, .inl (cy 0, n_a3, .inl ca3))]) H := hP
  replace hD : va_D A ([(h0, .inr (5, [.ref h0_sha, .ref h0_key, .ref h0_value, .ref h0_message, .int c_begun, .int c_requests])), (h0_key, .inl (cy 0, 32, .inl c_key_47)), (h0_message, .inl (cy 0, 97, .inl c_message_48)), (h0_sha, .inr (9, [.ref h0_sha_sums, .ref h0_sha_schedule, .ref h0_sha_inner, .int c_sha_filled_49, .int c_sha_total_50])), (h0_sha_inner, .inl (cy 0, 32, .inl c_sha_inner_51)), (h0_sha_schedule, .inl (cy 1, 64, .inl c_sha_schedule_52)), (h0_sha_sums, .inl (cy 1, 8, .inl c_sha_sums_53)), (h0_value, .inl (cy 0, 32, .inl c_value_54)), (ha1, .inl (cy 0, n_a1, .inl ca1)), (ha3, .inl (cy 0, n_a3, .inl ca3))]) := hD
  refine W.eq (g2 := F0 m 10 ls []) rfl ?_
  exact hTo _ _ _ (kK_9 _ _ _ _ _ _ _ _ H locs ls hP hD hS (lv_sub hl [0, 1, 2, 3, 4, 5] rfl) hf)
set_option maxHeartbeats 4000000 in
set_option maxRecDepth 100000 in
theorem c_X6_put (l : Launch) (D : va_G) (cy : Nat → ClassId) (tt : Nat → Nat) (sz : Nat) (h0 : Nat) (h0_aes : Nat) (h0_modes : Nat) (h0_gcm : Nat) (h0_sha : Nat) (h0_generator : Nat) (h0_key : Nat) (h0_work : Nat) (t1 : Nat) (t1f : Nat → Int64) (t1n : Nat) (p2 : Int32) (c_work : Nat → Int32) (qa_t1 : String) (qb_t1 : String) (qc_t1 : String) (c_work' : Nat → Int32) (ht_t1 : gTab[t1]? = some (qa_t1, qb_t1, qc_t1, .long, t1n, fun j => .long (t1f j))) (hf : f_X6_put t1 t1f t1n p2 c_work = some c_work') : Met l yX6_put wsX6_put ({ frames := 2, cells := 0, slots := 0, locals := 45 }) (zPc D cy tt sz [.ref h0, .ref (tt t1), .int p2] ([(h0, .inr (8, [.ref h0_aes, .ref h0_modes, .ref h0_gcm, .ref h0_sha, .ref h0_generator, .ref h0_key, .ref h0_work])), (h0_work, .inl (cy 0, 64, .inl c_work))])) (zQ D none ([(h0, .inr (8, [.ref h0_aes, .ref h0_modes, .ref h0_gcm, .ref h0_sha, .ref h0_generator, .ref h0_key, .ref h0_work])), (h0_work, .inl (cy 0, 64, .inl c_work'))]) (va_A ([(h0, .inr (8, [.ref h0_aes, .ref h0_modes, .ref h0_gcm, .ref h0_sha, .ref h0_generator, .ref h0_key, .ref h0_work])), (h0_work, .inl (cy 0, 64, .inl c_work))]) sz)) 0 0 (va_A ([(h0, .inr (8, [.ref h0_aes, .ref h0_modes, .ref h0_gcm, .ref h0_sha, .ref h0_generator, .ref h0_key, .ref h0_work])), (h0_work, .inl (cy 0, 64, .inl c_work))]) sz) := by
  refine Met.ofW (cc := cX6_put) (maxL := 4) (ret := none) (by decide) rfl ?_
  intro p e s m args below meth c s₁ B hml hv
  obtain ⟨rfl, rfl, hP, hD0, hE⟩ := hv
  have hx := B.exec
  have hb := B.bytes
  have hr := B.returns
  have hts := atoms_spec (ws := wsX6_put) B.pre
  have hown : s.vm.findClass RX6 = some m.cls := findClass_of_methodNamed B.named
  have hlocks := B.notSynchronized
  clear B
  have hD := hD0.self (sz := s.heap.size)
  generalize hAe : va_A ([(h0, .inr (8, [.ref h0_aes, .ref h0_modes, .ref h0_gcm, .ref h0_sha, .ref h0_generator, .ref h0_key, .ref h0_work])), (h0_work, .inl (cy 0, 64, .inl c_work))]) s.heap.size = A at hD hE ⊢
  have hA : ∀ q : Nat, s.heap.size ≤ q → A q := fun q h => by rw [← hAe]; exact Or.inr h
  clear hAe hD0
  have hS : va_S A s.heap s.heap [] := va_S.rf
  have hK := hE.1
  have hw0 := hts (.fieldLink RX6 15 "SealedModule$SelfTests" "work" "[B") (by decide +kernel)
  have hw1 := hts (.initialized RX9) (by decide +kernel)
  have hw2 := hts (.static yX9_putLong) (by decide +kernel)
  have hcX6 : ∀ w ∈ u_ws RX6 TX6 7, w ∈ wsX6_put := (fun _ h => List.mem_cons_of_mem _ (List.mem_append_right _ h))
  have hl := lv_entry ([.ref h0, .ref (tt t1), .int p2]) (n := 4) (Nat.le_of_ble_eq_true rfl)
  rw [lg_entry_eq]
  generalize (lg_sl ([.ref h0, .ref (tt t1), .int p2]) ++ List.replicate (4 - (lg_sl ([.ref h0, .ref (tt t1), .int p2])).length) Slot.unset).toArray = ls at hl ⊢
  replace hl : lv_has ls 4 [(0, .ref h0), (1, .ref (tt t1)), (2, .int p2)] := hl
  unfold f_X6_put at hf
  refine zgo (fun GW hTo hFr => ?_)
  refine hFr _ _ _ ?_
  obtain ⟨H, hHe⟩ : ∃ H, H = s.heap := ⟨_, rfl⟩
  obtain ⟨locs, hLe⟩ : ∃ L : List Loc, L = [] := ⟨_, rfl⟩
  rw [← hHe] at hP
  replace hS : va_S A s.heap H locs := by rw [hHe, hLe]; exact hS
  refine zat hHe.symm hLe.symm ?_
  clear hHe hLe
  refine lv_iconst (pc := 0) (v := (0 : Int32)) hx hb (zdt_at zt_X6_put_0 0 rfl) (by decide) ?_
  refine lv_istore_n (pc := 1) (lv' := [(3, .int (0 : Int32)), (0, .ref h0), (1, .ref (tt t1)), (2, .int p2)]) hx hb (zdt_at zt_X6_put_0 1 rfl) rfl hl (by decide) rfl ?_
  clear hl
  intro ls hl
  replace hf := zj_s hf
  obtain ⟨K_4, eK_4, hf⟩ := hf
  have kK_4 : ∀ (c_work_3 : Nat → Int32) (H : Heap) (locs : List Loc) (ls : Array Slot), va_P D vwCl ([(h0, .inr (8, [.ref h0_aes, .ref h0_modes, .ref h0_gcm, .ref h0_sha, .ref h0_generator, .ref h0_key, .ref h0_work])), (h0_work, .inl (cy 0, 64, .inl c_work_3))]) H → va_D A ([(h0, .inr (8, [.ref h0_aes, .ref h0_modes, .ref h0_gcm, .ref h0_sha, .ref h0_generator, .ref h0_key, .ref h0_work])), (h0_work, .inl (cy 0, 64, .inl c_work_3))]) → va_S A s.heap H locs → lv_has ls 4 [] → K_4 c_work_3 = some c_work' → GW H locs (F0 m 30 ls []) := by
    clear hf hl hP hD hS
    intro c_work_3 H locs ls hP hD hS hl hf
    rw [eK_4] at hf
    clear eK_4
    refine hFr _ _ _ ?_
    cases hf
    exact W.vret (pc := 30) hx hb hr (fun t ht hW => ⟨rfl, ⟨by rw [ht]; exact hP, hD⟩, hS.F ht⟩) hS.2.2 (zdt_at zt_X6_put_0 19 rfl)
  clear eK_4
  refine hTo _ _ _ (zl_go (fun z => match z with | (i_1, c_work_2) => ∀ (H : Heap) (locs : List Loc) (ls : Array Slot), va_P D vwCl ([(h0, .inr (8, [.ref h0_aes, .ref h0_modes, .ref h0_gcm, .ref h0_sha, .ref h0_generator, .ref h0_key, .ref h0_work])), (h0_work, .inl (cy 0, 64, .inl c_work_2))]) H → va_D A ([(h0, .inr (8, [.ref h0_aes, .ref h0_modes, .ref h0_gcm, .ref h0_sha, .ref h0_generator, .ref h0_key, .ref h0_work])), (h0_work, .inl (cy 0, 64, .inl c_work_2))]) → va_S A s.heap H locs → lv_has ls 4 [(0, .ref h0), (1, .ref (tt t1)), (2, .int p2), (3, .int i_1)] → GW H locs (F0 m 2 ls [])) hf ?_ H locs ls hP hD hS (lv_sub hl [1, 2, 3, 0] rfl))
  clear hf hl hP hD hS
  intro self_5 ihself_5 z hf
  obtain ⟨i_1, c_work_2⟩ := z
  intro H locs ls hP hD hS hl
  refine hFr _ _ _ ?_
  unfold b_X6_put_2 at hf
  refine lv_iload_n (pc := 2) hx hb (zdt_at zt_X6_put_0 2 rfl) rfl (lv_at hl 3 rfl) ?_
  refine lv_aload_n (pc := 3) hx hb (zdt_at zt_X6_put_0 3 rfl) rfl (lv_at hl 1 rfl) ?_
  refine va_tlen (pc := 4) hx hb (hE.2.2 t1 _ ht_t1).2 hS rfl (zdt_at zt_X6_put_0 4 rfl) ?_
  refine lv_icmp_ge (pc := 5) (tgt := 30) hx hb (zdt_at zt_X6_put_0 5 rfl) (by decide) (fun cn_ => ?t_6) (fun cn_ => ?f_7)
  case t_6 =>
    replace hf := zt_s cn_ hf
    clear cn_
    exact hTo _ _ _ (kK_4 _ H locs ls hP hD hS (lv_sub hl [] rfl) hf)
  replace hf := ze_s cn_ hf
  clear cn_
  refine lv_aload_n (pc := 8) hx hb (zdt_at zt_X6_put_0 6 rfl) rfl (lv_at hl 0 rfl) ?_
  refine va_get (pc := 9) (D := D) (ci := 8) (v := .ref h0_work) (C := RX6) (T := TX6) (N := 7) hx hb hts hcX6 hown hK hP 0 rfl rfl 6 (by decide) hw0 (fun _ h9 => h9) rfl (zdt_at zt_X6_put_0 7 rfl) ?_
  refine lv_iload_n (pc := 12) hx hb (zdt_at zt_X6_put_0 8 rfl) rfl (lv_at hl 2 rfl) ?_
  refine lv_bipush (pc := 13) (v := (8 : Int32)) hx hb (zdt_at zt_X6_put_0 9 rfl) (by decide) ?_
  refine lv_iload_n (pc := 15) hx hb (zdt_at zt_X6_put_0 10 rfl) rfl (lv_at hl 3 rfl) ?_
  refine lv_imul (pc := 16) hx hb (zdt_at zt_X6_put_0 11 rfl) ?_
  refine lv_iadd (pc := 17) hx hb (zdt_at zt_X6_put_0 12 rfl) ?_
  refine lv_aload_n (pc := 18) hx hb (zdt_at zt_X6_put_0 13 rfl) rfl (lv_at hl 1 rfl) ?_
  refine lv_iload_n (pc := 19) hx hb (zdt_at zt_X6_put_0 14 rfl) rfl (lv_at hl 3 rfl) ?_
  replace hf := zk_s hf
  refine va_tl (pc := 20) hx hb (hE.2.2 t1 _ ht_t1).2 hS hf.1 (v := .long (t1f i_1.toNatClampNeg)) rfl (zdt_at zt_X6_put_0 15 rfl) ?_
  replace hf := hf.2
  replace hf := zb_s hf
  obtain ⟨c_work_8, hc_, hf⟩ := hf
  refine zcn2 (pc := 21) (rv := none) (va_runSN (As := [.ref h0_work, .int (p2 + ((8 : Int32) * i_1)), .long (t1f i_1.toNatClampNeg)]) (rest := []) ⟨hx, hb, hml, hown, hts⟩ (c_X9_putLong l D cy tt H.size h0_work 64 (p2 + ((8 : Int32) * i_1)) (t1f i_1.toNatClampNeg) c_work_2 c_work_8 hc_) ⟨va_cnB 3 hts gX6_put_X9_putLong_n182 rfl rfl rfl (gNs_12 hE.2.1) hw1 (by decide +kernel) ⟨Nat.le_of_ble_eq_true rfl, Nat.le_of_ble_eq_true rfl⟩, hw2, trivial⟩ ⟨zblind, zpre hE hS (hP.sub [1] rfl) (hD.sub [1] (by decide) rfl) (va_free hD hS hA [1] rfl)⟩ rfl rfl hl.1 rfl (lv_room (Nat.le_of_ble_eq_true rfl)) (zdt_at zt_X6_put_0 16 rfl) ⟨Nat.zero_le _, Nat.zero_le _⟩) hS hP hD (va_free hD hS hA [1] rfl) [1] rfl (by decide) rfl ?_
  clear hP hD hS hc_
  intro H locs hP hD hS
  replace hP : va_P D vwCl ([(h0, .inr (8, [.ref h0_aes, .ref h0_modes, .ref h0_gcm, .ref h0_sha, .ref h0_generator, .ref h0_key, .ref h0_work])), (h0_work, .inl (cy 0, 64, .inl c_work_8))]) H := hP
  replace hD : va_D A ([(h0, .inr (8, [.ref h0_aes, .ref h0_modes, .ref h0_gcm, .ref h0_sha, .ref h0_generator, .ref h0_key, .ref h0_work])), (h0_work, .inl (cy 0, 64, .inl c_work_8))]) := hD
  refine W.eq (g2 := F0 m 24 ls []) rfl ?_
  refine lv_iinc (pc := 24) (v := (i_1 + (1 : Int32))) (lv' := [(3, .int (i_1 + (1 : Int32))), (0, .ref h0), (1, .ref (tt t1)), (2, .int p2)]) hx hb (zdt_at zt_X6_put_0 17 rfl) hl (k := 3) rfl rfl (by decide) rfl ?_
  clear hl
  intro ls hl
  refine lv_goto (pc := 27) (tgt := 2) hx hb (zdt_at zt_X6_put_0 18 rfl) (by decide) ?_
  exact hTo _ _ _ (ihself_5 _ hf H locs ls hP hD hS (lv_sub hl [1, 2, 3, 0] rfl))
set_option maxHeartbeats 4000000 in
set_option maxRecDepth 100000 in
theorem c_X6_drawOnce_2t_key (l : Launch) (D : va_G) (cy : Nat → ClassId) (tt : Nat → Nat) (sz : Nat) (h0 : Nat) (h0_aes : Nat) (h0_modes : Nat) (h0_gcm : Nat) (h0_sha : Nat) (h0_generator : Nat) (h0_key : Nat) (h0_work : Nat) (h0_generator_key : Nat) (h0_generator_value : Nat) (h0_generator_message : Nat) (h0_sha_sums : Nat) (h0_sha_schedule : Nat) (h0_sha_inner : Nat) (p1 : Int32) (c_generator_begun : Int32) (c_generator_requests : Int32) (c_generator_key : Nat → Int32) (c_generator_message : Nat → Int32) (c_generator_value : Nat → Int32) (c_key : Nat → Int32) (c_sha_filled : Int32) (c_sha_total : Int32) (c_sha_inner : Nat → Int32) (c_sha_schedule : Nat → Int32) (c_sha_sums : Nat → Int32) (c_work : Nat → Int32) (c_generator_begun' : Int32) (c_generator_requests' : Int32) (c_generator_key' : Nat → Int32) (c_generator_message' : Nat → Int32) (c_generator_value' : Nat → Int32) (c_key' : Nat → Int32) (c_sha_filled' : Int32) (c_sha_total' : Int32) (c_sha_inner' : Nat → Int32) (c_sha_schedule' : Nat → Int32) (c_sha_sums' : Nat → Int32) (c_work' : Nat → Int32) (hf : f_X6_drawOnce_2t_key p1 c_generator_begun c_generator_requests c_generator_key c_generator_message c_generator_value c_key c_sha_filled c_sha_total c_sha_inner c_sha_schedule c_sha_sums c_work = some (c_generator_begun', c_generator_requests', c_generator_key', c_generator_message', c_generator_value', c_key', c_sha_filled', c_sha_total', c_sha_inner', c_sha_schedule', c_sha_sums', c_work')) : Met l yX6_drawOnce wsX6_drawOnce ({ frames := 6, cells := 0, slots := 0, locals := 161 }) (zPc D cy tt sz [.ref h0, .int p1, .ref h0_key] ([(h0, .inr (8, [.ref h0_aes, .ref h0_modes, .ref h0_gcm, .ref h0_sha, .ref h0_generator, .ref h0_key, .ref h0_work])), (h0_generator, .inr (5, [.ref h0_sha, .ref h0_generator_key, .ref h0_generator_value, .ref h0_generator_message, .int c_generator_begun, .int c_generator_requests])), (h0_generator_key, .inl (cy 0, 32, .inl c_generator_key)), (h0_generator_message, .inl (cy 0, 97, .inl c_generator_message)), (h0_generator_value, .inl (cy 0, 32, .inl c_generator_value)), (h0_key, .inl (cy 0, 32, .inl c_key)), (h0_sha, .inr (9, [.ref h0_sha_sums, .ref h0_sha_schedule, .ref h0_sha_inner, .int c_sha_filled, .int c_sha_total])), (h0_sha_inner, .inl (cy 0, 32, .inl c_sha_inner)), (h0_sha_schedule, .inl (cy 1, 64, .inl c_sha_schedule)), (h0_sha_sums, .inl (cy 1, 8, .inl c_sha_sums)), (h0_work, .inl (cy 0, 64, .inl c_work))])) (zQ D none ([(h0, .inr (8, [.ref h0_aes, .ref h0_modes, .ref h0_gcm, .ref h0_sha, .ref h0_generator, .ref h0_key, .ref h0_work])), (h0_generator, .inr (5, [.ref h0_sha, .ref h0_generator_key, .ref h0_generator_value, .ref h0_generator_message, .int c_generator_begun', .int c_generator_requests'])), (h0_generator_key, .inl (cy 0, 32, .inl c_generator_key')), (h0_generator_message, .inl (cy 0, 97, .inl c_generator_message')), (h0_generator_value, .inl (cy 0, 32, .inl c_generator_value')), (h0_key, .inl (cy 0, 32, .inl c_key')), (h0_sha, .inr (9, [.ref h0_sha_sums, .ref h0_sha_schedule, .ref h0_sha_inner, .int c_sha_filled', .int c_sha_total'])), (h0_sha_inner, .inl (cy 0, 32, .inl c_sha_inner')), (h0_sha_schedule, .inl (cy 1, 64, .inl c_sha_schedule')), (h0_sha_sums, .inl (cy 1, 8, .inl c_sha_sums')), (h0_work, .inl (cy 0, 64, .inl c_work'))]) (va_A ([(h0, .inr (8, [.ref h0_aes, .ref h0_modes, .ref h0_gcm, .ref h0_sha, .ref h0_generator, .ref h0_key, .ref h0_work])), (h0_generator, .inr (5, [.ref h0_sha, .ref h0_generator_key, .ref h0_generator_value, .ref h0_generator_message, .int c_generator_begun, .int c_generator_requests])), (h0_generator_key, .inl (cy 0, 32, .inl c_generator_key)), (h0_generator_message, .inl (cy 0, 97, .inl c_generator_message)), (h0_generator_value, .inl (cy 0, 32, .inl c_generator_value)), (h0_key, .inl (cy 0, 32, .inl c_key)), (h0_sha, .inr (9, [.ref h0_sha_sums, .ref h0_sha_schedule, .ref h0_sha_inner, .int c_sha_filled, .int c_sha_total])), (h0_sha_inner, .inl (cy 0, 32, .inl c_sha_inner)), (h0_sha_schedule, .inl (cy 1, 64, .inl c_sha_schedule)), (h0_sha_sums, .inl (cy 1, 8, .inl c_sha_sums)), (h0_work, .inl (cy 0, 64, .inl c_work))]) sz)) 0 0 (va_A ([(h0, .inr (8, [.ref h0_aes, .ref h0_modes, .ref h0_gcm, .ref h0_sha, .ref h0_generator, .ref h0_key, .ref h0_work])), (h0_generator, .inr (5, [.ref h0_sha, .ref h0_generator_key, .ref h0_generator_value, .ref h0_generator_message, .int c_generator_begun, .int c_generator_requests])), (h0_generator_key, .inl (cy 0, 32, .inl c_generator_key)), (h0_generator_message, .inl (cy 0, 97, .inl c_generator_message)), (h0_generator_value, .inl (cy 0, 32, .inl c_generator_value)), (h0_key, .inl (cy 0, 32, .inl c_key)), (h0_sha, .inr (9, [.ref h0_sha_sums, .ref h0_sha_schedule, .ref h0_sha_inner, .int c_sha_filled, .int c_sha_total])), (h0_sha_inner, .inl (cy 0, 32, .inl c_sha_inner)), (h0_sha_schedule, .inl (cy 1, 64, .inl c_sha_schedule)), (h0_sha_sums, .inl (cy 1, 8, .inl c_sha_sums)), (h0_work, .inl (cy 0, 64, .inl c_work))]) sz) := by
  refine Met.ofW (cc := cX6_drawOnce) (maxL := 3) (ret := none) (by decide) rfl ?_
  intro p e s m args below meth c s₁ B hml hv
  obtain ⟨rfl, rfl, hP, hD0, hE⟩ := hv
  have hx := B.exec
  have hb := B.bytes
  have hr := B.returns
  have hts := atoms_spec (ws := wsX6_drawOnce) B.pre
  have hown : s.vm.findClass RX6 = some m.cls := findClass_of_methodNamed B.named
  have hlocks := B.notSynchronized
  clear B
  have hD := hD0.self (sz := s.heap.size)
  generalize hAe : va_A ([(h0, .inr (8, [.ref h0_aes, .ref h0_modes, .ref h0_gcm, .ref h0_sha, .ref h0_generator, .ref h0_key, .ref h0_work])), (h0_generator, .inr (5, [.ref h0_sha, .ref h0_generator_key, .ref h0_generator_value, .ref h0_generator_message, .int c_generator_begun, .int c_generator_requests])), (h0_generator_key, .inl (cy 0, 32, .inl c_generator_key)), (h0_generator_message, .inl (cy 0, 97, .inl c_generator_message)), (h0_generator_value, .inl (cy 0, 32, .inl c_generator_value)), (h0_key, .inl (cy 0, 32, .inl c_key)), (h0_sha, .inr (9, [.ref h0_sha_sums, .ref h0_sha_schedule, .ref h0_sha_inner, .int c_sha_filled, .int c_sha_total])), (h0_sha_inner, .inl (cy 0, 32, .inl c_sha_inner)), (h0_sha_schedule, .inl (cy 1, 64, .inl c_sha_schedule)), (h0_sha_sums, .inl (cy 1, 8, .inl c_sha_sums)), (h0_work, .inl (cy 0, 64, .inl c_work))]) s.heap.size = A at hD hE ⊢
  have hA : ∀ q : Nat, s.heap.size ≤ q → A q := fun q h => by rw [← hAe]; exact Or.inr h
  clear hAe hD0
  have hS : va_S A s.heap s.heap [] := va_S.rf
  have hK := hE.1
  have hw0 := hts (.fieldLink RX6 90 "SealedModule$SelfTests" "COUNTING_KEY" "[J") (by decide +kernel)
  have hw1 := hts (.fieldLink RX6 97 "SealedModule$SelfTests" "DOUBLED_DIGITS" "[J") (by decide +kernel)
  have hw2 := hts (.fieldLink RX6 15 "SealedModule$SelfTests" "work" "[B") (by decide +kernel)
  have hw3 := hts (.fieldLink RX6 39 "SealedModule$SelfTests" "generator" "LSealedModule$Generator;") (by decide +kernel)
  have hcX6 : ∀ w ∈ u_ws RX6 TX6 7, w ∈ wsX6_drawOnce := (fun _ h => List.mem_cons_of_mem _ (List.mem_append_left _ (List.mem_append_left _ (List.mem_append_left _ (List.mem_append_right _ h)))))
  have hl := lv_entry ([.ref h0, .int p1, .ref h0_key]) (n := 3) (Nat.le_of_ble_eq_true rfl)
  rw [lg_entry_eq]
  generalize (lg_sl ([.ref h0, .int p1, .ref h0_key]) ++ List.replicate (3 - (lg_sl ([.ref h0, .int p1, .ref h0_key])).length) Slot.unset).toArray = ls at hl ⊢
  replace hl : lv_has ls 3 [(0, .ref h0), (1, .int p1), (2, .ref h0_key)] := hl
  unfold f_X6_drawOnce_2t_key at hf
  refine zgo (fun GW hTo hFr => ?_)
  refine hFr _ _ _ ?_
  obtain ⟨H, hHe⟩ : ∃ H, H = s.heap := ⟨_, rfl⟩
  obtain ⟨locs, hLe⟩ : ∃ L : List Loc, L = [] := ⟨_, rfl⟩
  rw [← hHe] at hP
  replace hS : va_S A s.heap H locs := by rw [hHe, hLe]; exact hS
  refine zat hHe.symm hLe.symm ?_
  clear hHe hLe
  refine lv_aload_n (pc := 0) hx hb (zdt_at zt_X6_drawOnce_0 0 rfl) rfl (lv_at hl 0 rfl) ?_
  refine va_gets (pc := 1) hx hb (gT_4 hE.2.2).1 hS hown hw0 (fun _ h9 => h9) (zdt_at zt_X6_drawOnce_0 1 rfl) ?_
  refine lv_iconst (pc := 4) (v := (0 : Int32)) hx hb (zdt_at zt_X6_drawOnce_0 2 rfl) (by decide) ?_
  replace hf := zb_s hf
  obtain ⟨c_work_1, hc_, hf⟩ := hf
  refine zcn2 (pc := 5) (rv := none) (va_runV (As := [.ref (tt 4), .int (0 : Int32)]) (rest := []) ⟨hx, hb, hml, hown, hts⟩ (c_X6_put l D cy tt H.size h0 h0_aes h0_modes h0_gcm h0_sha h0_generator h0_key h0_work 4 (fun j => tb_COUNTING_KEY.getD j 0) 4 (0 : Int32) c_work _ _ _ c_work_1 rfl hc_) (cwV 2 hts gX6_drawOnce_X6_put rfl rfl rfl (by decide +kernel) ⟨Nat.le_of_ble_eq_true rfl, Nat.le_of_ble_eq_true rfl⟩) ⟨zblind, va_recv hK hP (ci := 8) (q0 := 0) rfl rfl, zpre hE hS (hP.sub [0, 10] rfl) (hD.sub [0, 10] (by decide) rfl) (va_free hD hS hA [0, 10] rfl)⟩ rfl rfl hl.1 rfl (lv_room (Nat.le_of_ble_eq_true rfl)) (zdt_at zt_X6_drawOnce_0 3 rfl) ⟨Nat.zero_le _, Nat.zero_le _⟩) hS hP hD (va_free hD hS hA [0, 10] rfl) [0, 10] rfl (by decide) rfl ?_
  clear hP hD hS hc_
  intro H locs hP hD hS
  replace hP : va_P D vwCl ([(h0, .inr (8, [.ref h0_aes, .ref h0_modes, .ref h0_gcm, .ref h0_sha, .ref h0_generator, .ref h0_key, .ref h0_work])), (h0_generator, .inr (5, [.ref h0_sha, .ref h0_generator_key, .ref h0_generator_value, .ref h0_generator_message, .int c_generator_begun, .int c_generator_requests])), (h0_generator_key, .inl (cy 0, 32, .inl c_generator_key)), (h0_generator_message, .inl (cy 0, 97, .inl c_generator_message)), (h0_generator_value, .inl (cy 0, 32, .inl c_generator_value)), (h0_key, .inl (cy 0, 32, .inl c_key)), (h0_sha, .inr (9, [.ref h0_sha_sums, .ref h0_sha_schedule, .ref h0_sha_inner, .int c_sha_filled, .int c_sha_total])), (h0_sha_inner, .inl (cy 0, 32, .inl c_sha_inner)), (h0_sha_schedule, .inl (cy 1, 64, .inl c_sha_schedule)), (h0_sha_sums, .inl (cy 1, 8, .inl c_sha_sums)), (h0_work, .inl (cy 0, 64, .inl c_work_1))]) H := hP
  replace hD : va_D A ([(h0, .inr (8, [.ref h0_aes, .ref h0_modes, .ref h0_gcm, .ref h0_sha, .ref h0_generator, .ref h0_key, .ref h0_work])), (h0_generator, .inr (5, [.ref h0_sha, .ref h0_generator_key, .ref h0_generator_value, .ref h0_generator_message, .int c_generator_begun, .int c_generator_requests])), (h0_generator_key, .inl (cy 0, 32, .inl c_generator_key)), (h0_generator_message, .inl (cy 0, 97, .inl c_generator_message)), (h0_generator_value, .inl (cy 0, 32, .inl c_generator_value)), (h0_key, .inl (cy 0, 32, .inl c_key)), (h0_sha, .inr (9, [.ref h0_sha_sums, .ref h0_sha_schedule, .ref h0_sha_inner, .int c_sha_filled, .int c_sha_total])), (h0_sha_inner, .inl (cy 0, 32, .inl c_sha_inner)), (h0_sha_schedule, .inl (cy 1, 64, .inl c_sha_schedule)), (h0_sha_sums, .inl (cy 1, 8, .inl c_sha_sums)), (h0_work, .inl (cy 0, 64, .inl c_work_1))]) := hD
  refine W.eq (g2 := F0 m 8 ls []) rfl ?_
  refine lv_aload_n (pc := 8) hx hb (zdt_at zt_X6_drawOnce_0 4 rfl) rfl (lv_at hl 0 rfl) ?_
  refine va_gets (pc := 9) hx hb (gT_5 hE.2.2).1 hS hown hw1 (fun _ h9 => h9) (zdt_at zt_X6_drawOnce_0 5 rfl) ?_
  refine lv_bipush (pc := 12) (v := (32 : Int32)) hx hb (zdt_at zt_X6_drawOnce_0 6 rfl) (by decide) ?_
  replace hf := zb_s hf
  obtain ⟨c_work_2, hc_, hf⟩ := hf
  refine zcn2 (pc := 14) (rv := none) (va_runV (As := [.ref (tt 5), .int (32 : Int32)]) (rest := []) ⟨hx, hb, hml, hown, hts⟩ (c_X6_put l D cy tt H.size h0 h0_aes h0_modes h0_gcm h0_sha h0_generator h0_key h0_work 5 (fun j => tb_DOUBLED_DIGITS.getD j 0) 2 (32 : Int32) c_work_1 _ _ _ c_work_2 rfl hc_) (cwV 2 hts gX6_drawOnce_X6_put rfl rfl rfl (by decide +kernel) ⟨Nat.le_of_ble_eq_true rfl, Nat.le_of_ble_eq_true rfl⟩) ⟨zblind, va_recv hK hP (ci := 8) (q0 := 0) rfl rfl, zpre hE hS (hP.sub [0, 10] rfl) (hD.sub [0, 10] (by decide) rfl) (va_free hD hS hA [0, 10] rfl)⟩ rfl rfl hl.1 rfl (lv_room (Nat.le_of_ble_eq_true rfl)) (zdt_at zt_X6_drawOnce_0 7 rfl) ⟨Nat.zero_le _, Nat.zero_le _⟩) hS hP hD (va_free hD hS hA [0, 10] rfl) [0, 10] rfl (by decide) rfl ?_
  clear hP hD hS hc_
  intro H locs hP hD hS
  replace hP : va_P D vwCl ([(h0, .inr (8, [.ref h0_aes, .ref h0_modes, .ref h0_gcm, .ref h0_sha, .ref h0_generator, .ref h0_key, .ref h0_work])), (h0_generator, .inr (5, [.ref h0_sha, .ref h0_generator_key, .ref h0_generator_value, .ref h0_generator_message, .int c_generator_begun, .int c_generator_requests])), (h0_generator_key, .inl (cy 0, 32, .inl c_generator_key)), (h0_generator_message, .inl (cy 0, 97, .inl c_generator_message)), (h0_generator_value, .inl (cy 0, 32, .inl c_generator_value)), (h0_key, .inl (cy 0, 32, .inl c_key)), (h0_sha, .inr (9, [.ref h0_sha_sums, .ref h0_sha_schedule, .ref h0_sha_inner, .int c_sha_filled, .int c_sha_total])), (h0_sha_inner, .inl (cy 0, 32, .inl c_sha_inner)), (h0_sha_schedule, .inl (cy 1, 64, .inl c_sha_schedule)), (h0_sha_sums, .inl (cy 1, 8, .inl c_sha_sums)), (h0_work, .inl (cy 0, 64, .inl c_work_2))]) H := hP
  replace hD : va_D A ([(h0, .inr (8, [.ref h0_aes, .ref h0_modes, .ref h0_gcm, .ref h0_sha, .ref h0_generator, .ref h0_key, .ref h0_work])), (h0_generator, .inr (5, [.ref h0_sha, .ref h0_generator_key, .ref h0_generator_value, .ref h0_generator_message, .int c_generator_begun, .int c_generator_requests])), (h0_generator_key, .inl (cy 0, 32, .inl c_generator_key)), (h0_generator_message, .inl (cy 0, 97, .inl c_generator_message)), (h0_generator_value, .inl (cy 0, 32, .inl c_generator_value)), (h0_key, .inl (cy 0, 32, .inl c_key)), (h0_sha, .inr (9, [.ref h0_sha_sums, .ref h0_sha_schedule, .ref h0_sha_inner, .int c_sha_filled, .int c_sha_total])), (h0_sha_inner, .inl (cy 0, 32, .inl c_sha_inner)), (h0_sha_schedule, .inl (cy 1, 64, .inl c_sha_schedule)), (h0_sha_sums, .inl (cy 1, 8, .inl c_sha_sums)), (h0_work, .inl (cy 0, 64, .inl c_work_2))]) := hD
  refine W.eq (g2 := F0 m 17 ls []) rfl ?_
  refine lv_aload_n (pc := 17) hx hb (zdt_at zt_X6_drawOnce_0 8 rfl) rfl (lv_at hl 0 rfl) ?_
  refine va_get (pc := 18) (D := D) (ci := 8) (v := .ref h0_work) (C := RX6) (T := TX6) (N := 7) hx hb hts hcX6 hown hK hP 0 rfl rfl 6 (by decide) hw2 (fun _ h9 => h9) rfl (zdt_at zt_X6_drawOnce_0 9 rfl) ?_
  refine lv_iconst (pc := 21) (v := (0 : Int32)) hx hb (zdt_at zt_X6_drawOnce_0 10 rfl) (by decide) ?_
  refine lv_dup2_11 (pc := 22) hx hb (zdt_at zt_X6_drawOnce_0 11 rfl) rfl rfl ?_
  replace hf := zk_s hf
  refine va_bald (pc := 23) hx hb hK hP 10 0 rfl rfl hf.1 (zdt_at zt_X6_drawOnce_0 12 rfl) ?_
  replace hf := hf.2
  refine lv_iload_n (pc := 24) hx hb (zdt_at zt_X6_drawOnce_0 13 rfl) rfl (lv_at hl 1 rfl) ?_
  refine lv_ixor (pc := 25) hx hb (zdt_at zt_X6_drawOnce_0 14 rfl) ?_
  refine lv_i2b (pc := 26) hx hb (zdt_at zt_X6_drawOnce_0 15 rfl) rfl ?_
  replace hf := zk_s hf
  refine va_bast (pc := 27) hx hb hK hP hD hS 10 0 rfl rfl hf.1 (zdt_at zt_X6_drawOnce_0 16 rfl) ?_
  replace hf := hf.2
  clear hP hD hS
  intro H locs hP hD hS
  obtain ⟨c_work_3, e_⟩ : ∃ q : Nat → Int32, q = (upd c_work_2 (0 : Int32).toNatClampNeg (vp_nar .byte (((c_work_2 (0 : Int32).toNatClampNeg) ^^^ p1).toInt8.toInt32))) := ⟨_, rfl⟩
  replace hf := zn_s hf e_
  replace hP : va_P D vwCl ([(h0, .inr (8, [.ref h0_aes, .ref h0_modes, .ref h0_gcm, .ref h0_sha, .ref h0_generator, .ref h0_key, .ref h0_work])), (h0_generator, .inr (5, [.ref h0_sha, .ref h0_generator_key, .ref h0_generator_value, .ref h0_generator_message, .int c_generator_begun, .int c_generator_requests])), (h0_generator_key, .inl (cy 0, 32, .inl c_generator_key)), (h0_generator_message, .inl (cy 0, 97, .inl c_generator_message)), (h0_generator_value, .inl (cy 0, 32, .inl c_generator_value)), (h0_key, .inl (cy 0, 32, .inl c_key)), (h0_sha, .inr (9, [.ref h0_sha_sums, .ref h0_sha_schedule, .ref h0_sha_inner, .int c_sha_filled, .int c_sha_total])), (h0_sha_inner, .inl (cy 0, 32, .inl c_sha_inner)), (h0_sha_schedule, .inl (cy 1, 64, .inl c_sha_schedule)), (h0_sha_sums, .inl (cy 1, 8, .inl c_sha_sums)), (h0_work, .inl (cy 0, 64, .inl c_work_3))]) H := by rw [e_]; exact hP
  replace hD : va_D A ([(h0, .inr (8, [.ref h0_aes, .ref h0_modes, .ref h0_gcm, .ref h0_sha, .ref h0_generator, .ref h0_key, .ref h0_work])), (h0_generator, .inr (5, [.ref h0_sha, .ref h0_generator_key, .ref h0_generator_value, .ref h0_generator_message, .int c_generator_begun, .int c_generator_requests])), (h0_generator_key, .inl (cy 0, 32, .inl c_generator_key)), (h0_generator_message, .inl (cy 0, 97, .inl c_generator_message)), (h0_generator_value, .inl (cy 0, 32, .inl c_generator_value)), (h0_key, .inl (cy 0, 32, .inl c_key)), (h0_sha, .inr (9, [.ref h0_sha_sums, .ref h0_sha_schedule, .ref h0_sha_inner, .int c_sha_filled, .int c_sha_total])), (h0_sha_inner, .inl (cy 0, 32, .inl c_sha_inner)), (h0_sha_schedule, .inl (cy 1, 64, .inl c_sha_schedule)), (h0_sha_sums, .inl (cy 1, 8, .inl c_sha_sums)), (h0_work, .inl (cy 0, 64, .inl c_work_3))]) := by rw [e_]; exact hD
  clear e_
  refine lv_aload_n (pc := 28) hx hb (zdt_at zt_X6_drawOnce_0 17 rfl) rfl (lv_at hl 0 rfl) ?_
  refine va_get (pc := 29) (D := D) (ci := 8) (v := .ref h0_generator) (C := RX6) (T := TX6) (N := 7) hx hb hts hcX6 hown hK hP 0 rfl rfl 4 (by decide) hw3 (fun _ h9 => h9) rfl (zdt_at zt_X6_drawOnce_0 18 rfl) ?_
  replace hf := zb_s hf
  obtain ⟨⟨c_generator_begun_4, c_generator_key_5, c_generator_value_6⟩, hc_, hf⟩ := hf
  refine zcn2 (pc := 32) (rv := none) (va_runV (As := []) (rest := []) ⟨hx, hb, hml, hown, hts⟩ (c_X3_forget l D cy tt H.size h0_generator h0_sha h0_generator_key h0_generator_value h0_generator_message c_generator_begun c_generator_key c_generator_value c_generator_requests c_generator_begun_4 c_generator_key_5 c_generator_value_6 hc_) (cwV 0 hts gX6_drawOnce_X3_forget rfl rfl rfl (by decide +kernel) ⟨Nat.le_of_ble_eq_true rfl, Nat.le_of_ble_eq_true rfl⟩) ⟨zblind, va_recv hK hP (ci := 5) (q0 := 1) rfl rfl, zpre hE hS (hP.sub [1, 2, 4] rfl) (hD.sub [1, 2, 4] (by decide) rfl) (va_free hD hS hA [1, 2, 4] rfl)⟩ rfl rfl hl.1 rfl (lv_room (Nat.le_of_ble_eq_true rfl)) (zdt_at zt_X6_drawOnce_0 19 rfl) ⟨Nat.zero_le _, Nat.zero_le _⟩) hS hP hD (va_free hD hS hA [1, 2, 4] rfl) [1, 2, 4] rfl (by decide) rfl ?_
  clear hP hD hS hc_
  intro H locs hP hD hS
  replace hP : va_P D vwCl ([(h0, .inr (8, [.ref h0_aes, .ref h0_modes, .ref h0_gcm, .ref h0_sha, .ref h0_generator, .ref h0_key, .ref h0_work])), (h0_generator, .inr (5, [.ref h0_sha, .ref h0_generator_key, .ref h0_generator_value, .ref h0_generator_message, .int c_generator_begun_4, .int c_generator_requests])), (h0_generator_key, .inl (cy 0, 32, .inl c_generator_key_5)), (h0_generator_message, .inl (cy 0, 97, .inl c_generator_message)), (h0_generator_value, .inl (cy 0, 32, .inl c_generator_value_6)), (h0_key, .inl (cy 0, 32, .inl c_key)), (h0_sha, .inr (9, [.ref h0_sha_sums, .ref h0_sha_schedule, .ref h0_sha_inner, .int c_sha_filled, .int c_sha_total])), (h0_sha_inner, .inl (cy 0, 32, .inl c_sha_inner)), (h0_sha_schedule, .inl (cy 1, 64, .inl c_sha_schedule)), (h0_sha_sums, .inl (cy 1, 8, .inl c_sha_sums)), (h0_work, .inl (cy 0, 64, .inl c_work_3))]) H := hP
  replace hD : va_D A ([(h0, .inr (8, [.ref h0_aes, .ref h0_modes, .ref h0_gcm, .ref h0_sha, .ref h0_generator, .ref h0_key, .ref h0_work])), (h0_generator, .inr (5, [.ref h0_sha, .ref h0_generator_key, .ref h0_generator_value, .ref h0_generator_message, .int c_generator_begun_4, .int c_generator_requests])), (h0_generator_key, .inl (cy 0, 32, .inl c_generator_key_5)), (h0_generator_message, .inl (cy 0, 97, .inl c_generator_message)), (h0_generator_value, .inl (cy 0, 32, .inl c_generator_value_6)), (h0_key, .inl (cy 0, 32, .inl c_key)), (h0_sha, .inr (9, [.ref h0_sha_sums, .ref h0_sha_schedule, .ref h0_sha_inner, .int c_sha_filled, .int c_sha_total])), (h0_sha_inner, .inl (cy 0, 32, .inl c_sha_inner)), (h0_sha_schedule, .inl (cy 1, 64, .inl c_sha_schedule)), (h0_sha_sums, .inl (cy 1, 8, .inl c_sha_sums)), (h0_work, .inl (cy 0, 64, .inl c_work_3))]) := hD
  refine W.eq (g2 := F0 m 35 ls []) rfl ?_
  refine lv_aload_n (pc := 35) hx hb (zdt_at zt_X6_drawOnce_0 20 rfl) rfl (lv_at hl 0 rfl) ?_
  refine va_get (pc := 36) (D := D) (ci := 8) (v := .ref h0_generator) (C := RX6) (T := TX6) (N := 7) hx hb hts hcX6 hown hK hP 0 rfl rfl 4 (by decide) hw3 (fun _ h9 => h9) rfl (zdt_at zt_X6_drawOnce_0 21 rfl) ?_
  refine lv_aload_n (pc := 39) hx hb (zdt_at zt_X6_drawOnce_0 22 rfl) rfl (lv_at hl 0 rfl) ?_
  refine va_get (pc := 40) (D := D) (ci := 8) (v := .ref h0_work) (C := RX6) (T := TX6) (N := 7) hx hb hts hcX6 hown hK hP 0 rfl rfl 6 (by decide) hw2 (fun _ h9 => h9) rfl (zdt_at zt_X6_drawOnce_0 23 rfl) ?_
  refine lv_bipush (pc := 43) (v := (48 : Int32)) hx hb (zdt_at zt_X6_drawOnce_0 24 rfl) (by decide) ?_
  replace hf := zb_s hf
  obtain ⟨⟨c_generator_begun_7, c_generator_requests_8, c_generator_key_9, c_generator_message_10, c_sha_filled_11, c_sha_total_12, c_sha_inner_13, c_sha_schedule_14, c_sha_sums_15, c_generator_value_16⟩, hc_, hf⟩ := hf
  refine zcn2 (pc := 45) (rv := none) (va_runV (As := [.ref h0_work, .int (48 : Int32)]) (rest := []) ⟨hx, hb, hml, hown, hts⟩ (c_X3_feed l D cy tt H.size h0_generator h0_sha h0_generator_key h0_generator_value h0_generator_message h0_sha_sums h0_sha_schedule h0_sha_inner h0_work 64 (48 : Int32) c_generator_begun_4 c_generator_requests c_generator_key_5 c_generator_message c_sha_filled c_sha_total c_sha_inner c_sha_schedule c_sha_sums c_generator_value_6 c_work_3 c_generator_begun_7 c_generator_requests_8 c_generator_key_9 c_generator_message_10 c_sha_filled_11 c_sha_total_12 c_sha_inner_13 c_sha_schedule_14 c_sha_sums_15 c_generator_value_16 hc_) (cwV 2 hts gX6_drawOnce_X3_feed rfl rfl rfl (by decide +kernel) ⟨Nat.le_of_ble_eq_true rfl, Nat.le_of_ble_eq_true rfl⟩) ⟨zblind, va_recv hK hP (ci := 5) (q0 := 1) rfl rfl, zpre hE hS (hP.sub [1, 2, 3, 6, 7, 8, 9, 4, 10] rfl) (hD.sub [1, 2, 3, 6, 7, 8, 9, 4, 10] (by decide) rfl) (va_free hD hS hA [1, 2, 3, 6, 7, 8, 9, 4, 10] rfl)⟩ rfl rfl hl.1 rfl (lv_room (Nat.le_of_ble_eq_true rfl)) (zdt_at zt_X6_drawOnce_0 25 rfl) ⟨Nat.zero_le _, Nat.zero_le _⟩) hS hP hD (va_free hD hS hA [1, 2, 3, 6, 7, 8, 9, 4, 10] rfl) [1, 2, 3, 6, 7, 8, 9, 4, 10] rfl (by decide) rfl ?_
  clear hP hD hS hc_
  intro H locs hP hD hS
  replace hP : va_P D vwCl ([(h0, .inr (8, [.ref h0_aes, .ref h0_modes, .ref h0_gcm, .ref h0_sha, .ref h0_generator, .ref h0_key, .ref h0_work])), (h0_generator, .inr (5, [.ref h0_sha, .ref h0_generator_key, .ref h0_generator_value, .ref h0_generator_message, .int c_generator_begun_7, .int c_generator_requests_8])), (h0_generator_key, .inl (cy 0, 32, .inl c_generator_key_9)), (h0_generator_message, .inl (cy 0, 97, .inl c_generator_message_10)), (h0_generator_value, .inl (cy 0, 32, .inl c_generator_value_16)), (h0_key, .inl (cy 0, 32, .inl c_key)), (h0_sha, .inr (9, [.ref h0_sha_sums, .ref h0_sha_schedule, .ref h0_sha_inner, .int c_sha_filled_11, .int c_sha_total_12])), (h0_sha_inner, .inl (cy 0, 32, .inl c_sha_inner_13)), (h0_sha_schedule, .inl (cy 1, 64, .inl c_sha_schedule_14)), (h0_sha_sums, .inl (cy 1, 8, .inl c_sha_sums_15)), (h0_work, .inl (cy 0, 64, .inl c_work_3))]) H := hP
  replace hD : va_D A ([(h0, .inr (8, [.ref h0_aes, .ref h0_modes, .ref h0_gcm, .ref h0_sha, .ref h0_generator, .ref h0_key, .ref h0_work])), (h0_generator, .inr (5, [.ref h0_sha, .ref h0_generator_key, .ref h0_generator_value, .ref h0_generator_message, .int c_generator_begun_7, .int c_generator_requests_8])), (h0_generator_key, .inl (cy 0, 32, .inl c_generator_key_9)), (h0_generator_message, .inl (cy 0, 97, .inl c_generator_message_10)), (h0_generator_value, .inl (cy 0, 32, .inl c_generator_value_16)), (h0_key, .inl (cy 0, 32, .inl c_key)), (h0_sha, .inr (9, [.ref h0_sha_sums, .ref h0_sha_schedule, .ref h0_sha_inner, .int c_sha_filled_11, .int c_sha_total_12])), (h0_sha_inner, .inl (cy 0, 32, .inl c_sha_inner_13)), (h0_sha_schedule, .inl (cy 1, 64, .inl c_sha_schedule_14)), (h0_sha_sums, .inl (cy 1, 8, .inl c_sha_sums_15)), (h0_work, .inl (cy 0, 64, .inl c_work_3))]) := hD
  refine W.eq (g2 := F0 m 48 ls []) rfl ?_
  refine lv_aload_n (pc := 48) hx hb (zdt_at zt_X6_drawOnce_0 26 rfl) rfl (lv_at hl 0 rfl) ?_
  refine va_get (pc := 49) (D := D) (ci := 8) (v := .ref h0_generator) (C := RX6) (T := TX6) (N := 7) hx hb hts hcX6 hown hK hP 0 rfl rfl 4 (by decide) hw3 (fun _ h9 => h9) rfl (zdt_at zt_X6_drawOnce_0 27 rfl) ?_
  refine lv_aload_n (pc := 52) hx hb (zdt_at zt_X6_drawOnce_0 28 rfl) rfl (lv_at hl 0 rfl) ?_
  refine va_get (pc := 53) (D := D) (ci := 8) (v := .ref h0_work) (C := RX6) (T := TX6) (N := 7) hx hb hts hcX6 hown hK hP 0 rfl rfl 6 (by decide) hw2 (fun _ h9 => h9) rfl (zdt_at zt_X6_drawOnce_0 29 rfl) ?_
  refine lv_iconst (pc := 56) (v := (0 : Int32)) hx hb (zdt_at zt_X6_drawOnce_0 30 rfl) (by decide) ?_
  refine lv_aload_n (pc := 57) hx hb (zdt_at zt_X6_drawOnce_0 31 rfl) rfl (lv_at hl 2 rfl) ?_
  refine lv_iconst (pc := 58) (v := (0 : Int32)) hx hb (zdt_at zt_X6_drawOnce_0 32 rfl) (by decide) ?_
  refine lv_bipush (pc := 59) (v := (32 : Int32)) hx hb (zdt_at zt_X6_drawOnce_0 33 rfl) (by decide) ?_
  replace hf := zb_s hf
  obtain ⟨⟨c_generator_requests_17, c_generator_key_18, c_generator_message_19, c_sha_filled_20, c_sha_total_21, c_sha_inner_22, c_sha_schedule_23, c_sha_sums_24, c_generator_value_25, c_key_26⟩, hc_, hf⟩ := hf
  refine zcn2 (pc := 61) (rv := none) (va_runV (As := [.ref h0_work, .int (0 : Int32), .ref h0_key, .int (0 : Int32), .int (32 : Int32)]) (rest := []) ⟨hx, hb, hml, hown, hts⟩ (c_X3_answer l D cy tt H.size h0_generator h0_sha h0_generator_key h0_generator_value h0_generator_message h0_sha_sums h0_sha_schedule h0_sha_inner h0_work h0_key 64 32 (0 : Int32) (0 : Int32) (32 : Int32) c_generator_requests_8 c_generator_key_9 c_generator_message_10 c_sha_filled_11 c_sha_total_12 c_sha_inner_13 c_sha_schedule_14 c_sha_sums_15 c_generator_value_16 c_work_3 c_key c_generator_begun_7 c_generator_requests_17 c_generator_key_18 c_generator_message_19 c_sha_filled_20 c_sha_total_21 c_sha_inner_22 c_sha_schedule_23 c_sha_sums_24 c_generator_value_25 c_key_26 hc_) (cwV 5 hts gX6_drawOnce_X3_answer rfl rfl rfl (by decide +kernel) ⟨Nat.le_of_ble_eq_true rfl, Nat.le_of_ble_eq_true rfl⟩) ⟨zblind, va_recv hK hP (ci := 5) (q0 := 1) rfl rfl, zpre hE hS (hP.sub [1, 2, 3, 6, 7, 8, 9, 4, 10, 5] rfl) (hD.sub [1, 2, 3, 6, 7, 8, 9, 4, 10, 5] (by decide) rfl) (va_free hD hS hA [1, 2, 3, 6, 7, 8, 9, 4, 10, 5] rfl)⟩ rfl rfl hl.1 rfl (lv_room (Nat.le_of_ble_eq_true rfl)) (zdt_at zt_X6_drawOnce_0 34 rfl) ⟨Nat.zero_le _, Nat.zero_le _⟩) hS hP hD (va_free hD hS hA [1, 2, 3, 6, 7, 8, 9, 4, 10, 5] rfl) [1, 2, 3, 6, 7, 8, 9, 4, 10, 5] rfl (by decide) rfl ?_
  clear hP hD hS hc_
  intro H locs hP hD hS
  replace hP : va_P D vwCl ([(h0, .inr (8, [.ref h0_aes, .ref h0_modes, .ref h0_gcm, .ref h0_sha, .ref h0_generator, .ref h0_key, .ref h0_work])), (h0_generator, .inr (5, [.ref h0_sha, .ref h0_generator_key, .ref h0_generator_value, .ref h0_generator_message, .int c_generator_begun_7, .int c_generator_requests_17])), (h0_generator_key, .inl (cy 0, 32, .inl c_generator_key_18)), (h0_generator_message, .inl (cy 0, 97, .inl c_generator_message_19)), (h0_generator_value, .inl (cy 0, 32, .inl c_generator_value_25)), (h0_key, .inl (cy 0, 32, .inl c_key_26)), (h0_sha, .inr (9, [.ref h0_sha_sums, .ref h0_sha_schedule, .ref h0_sha_inner, .int c_sha_filled_20, .int c_sha_total_21])), (h0_sha_inner, .inl (cy 0, 32, .inl c_sha_inner_22)), (h0_sha_schedule, .inl (cy 1, 64, .inl c_sha_schedule_23)), (h0_sha_sums, .inl (cy 1, 8, .inl c_sha_sums_24)), (h0_work, .inl (cy 0, 64, .inl c_work_3))]) H := hP
  replace hD : va_D A ([(h0, .inr (8, [.ref h0_aes, .ref h0_modes, .ref h0_gcm, .ref h0_sha, .ref h0_generator, .ref h0_key, .ref h0_work])), (h0_generator, .inr (5, [.ref h0_sha, .ref h0_generator_key, .ref h0_generator_value, .ref h0_generator_message, .int c_generator_begun_7, .int c_generator_requests_17])), (h0_generator_key, .inl (cy 0, 32, .inl c_generator_key_18)), (h0_generator_message, .inl (cy 0, 97, .inl c_generator_message_19)), (h0_generator_value, .inl (cy 0, 32, .inl c_generator_value_25)), (h0_key, .inl (cy 0, 32, .inl c_key_26)), (h0_sha, .inr (9, [.ref h0_sha_sums, .ref h0_sha_schedule, .ref h0_sha_inner, .int c_sha_filled_20, .int c_sha_total_21])), (h0_sha_inner, .inl (cy 0, 32, .inl c_sha_inner_22)), (h0_sha_schedule, .inl (cy 1, 64, .inl c_sha_schedule_23)), (h0_sha_sums, .inl (cy 1, 8, .inl c_sha_sums_24)), (h0_work, .inl (cy 0, 64, .inl c_work_3))]) := hD
  refine W.eq (g2 := F0 m 64 ls []) rfl ?_
  cases hf
  exact W.vret (pc := 64) hx hb hr (fun t ht hW => ⟨rfl, ⟨by rw [ht]; exact hP, hD⟩, hS.F ht⟩) hS.2.2 (zdt_at zt_X6_drawOnce_0 35 rfl)
set_option maxHeartbeats 4000000 in
set_option maxRecDepth 100000 in
theorem c_X3_answer_3a1 (l : Launch) (D : va_G) (cy : Nat → ClassId) (tt : Nat → Nat) (sz : Nat) (h0 : Nat) (h0_sha : Nat) (h0_key : Nat) (h0_value : Nat) (h0_message : Nat) (h0_sha_sums : Nat) (h0_sha_schedule : Nat) (h0_sha_inner : Nat) (ha1 : Nat) (n_a1 : Nat) (p2 : Int32) (p4 : Int32) (p5 : Int32) (c_requests : Int32) (c_key : Nat → Int32) (c_message : Nat → Int32) (c_sha_filled : Int32) (c_sha_total : Int32) (c_sha_inner : Nat → Int32) (c_sha_schedule : Nat → Int32) (c_sha_sums : Nat → Int32) (c_value : Nat → Int32) (ca1 : Nat → Int32) (c_begun : Int32) (c_requests' : Int32) (c_key' : Nat → Int32) (c_message' : Nat → Int32) (c_sha_filled' : Int32) (c_sha_total' : Int32) (c_sha_inner' : Nat → Int32) (c_sha_schedule' : Nat → Int32) (c_sha_sums' : Nat → Int32) (c_value' : Nat → Int32) (ca1' : Nat → Int32) (hf : f_X3_answer_3a1 n_a1 p2 p4 p5 c_requests c_key c_message c_sha_filled c_sha_total c_sha_inner c_sha_schedule c_sha_sums c_value ca1 = some (c_requests', c_key', c_message', c_sha_filled', c_sha_total', c_sha_inner', c_sha_schedule', c_sha_sums', c_value', ca1')) : Met l yX3_answer wsX3_answer ({ frames := 5, cells := 0, slots := 0, locals := 135 }) (zPc D cy tt sz [.ref h0, .ref ha1, .int p2, .ref ha1, .int p4, .int p5] ([(h0, .inr (5, [.ref h0_sha, .ref h0_key, .ref h0_value, .ref h0_message, .int c_begun, .int c_requests])), (h0_key, .inl (cy 0, 32, .inl c_key)), (h0_message, .inl (cy 0, 97, .inl c_message)), (h0_sha, .inr (9, [.ref h0_sha_sums, .ref h0_sha_schedule, .ref h0_sha_inner, .int c_sha_filled, .int c_sha_total])), (h0_sha_inner, .inl (cy 0, 32, .inl c_sha_inner)), (h0_sha_schedule, .inl (cy 1, 64, .inl c_sha_schedule)), (h0_sha_sums, .inl (cy 1, 8, .inl c_sha_sums)), (h0_value, .inl (cy 0, 32, .inl c_value)), (ha1, .inl (cy 0, n_a1, .inl ca1))])) (zQ D none ([(h0, .inr (5, [.ref h0_sha, .ref h0_key, .ref h0_value, .ref h0_message, .int c_begun, .int c_requests'])), (h0_key, .inl (cy 0, 32, .inl c_key')), (h0_message, .inl (cy 0, 97, .inl c_message')), (h0_sha, .inr (9, [.ref h0_sha_sums, .ref h0_sha_schedule, .ref h0_sha_inner, .int c_sha_filled', .int c_sha_total'])), (h0_sha_inner, .inl (cy 0, 32, .inl c_sha_inner')), (h0_sha_schedule, .inl (cy 1, 64, .inl c_sha_schedule')), (h0_sha_sums, .inl (cy 1, 8, .inl c_sha_sums')), (h0_value, .inl (cy 0, 32, .inl c_value')), (ha1, .inl (cy 0, n_a1, .inl ca1'))]) (va_A ([(h0, .inr (5, [.ref h0_sha, .ref h0_key, .ref h0_value, .ref h0_message, .int c_begun, .int c_requests])), (h0_key, .inl (cy 0, 32, .inl c_key)), (h0_message, .inl (cy 0, 97, .inl c_message)), (h0_sha, .inr (9, [.ref h0_sha_sums, .ref h0_sha_schedule, .ref h0_sha_inner, .int c_sha_filled, .int c_sha_total])), (h0_sha_inner, .inl (cy 0, 32, .inl c_sha_inner)), (h0_sha_schedule, .inl (cy 1, 64, .inl c_sha_schedule)), (h0_sha_sums, .inl (cy 1, 8, .inl c_sha_sums)), (h0_value, .inl (cy 0, 32, .inl c_value)), (ha1, .inl (cy 0, n_a1, .inl ca1))]) sz)) 0 0 (va_A ([(h0, .inr (5, [.ref h0_sha, .ref h0_key, .ref h0_value, .ref h0_message, .int c_begun, .int c_requests])), (h0_key, .inl (cy 0, 32, .inl c_key)), (h0_message, .inl (cy 0, 97, .inl c_message)), (h0_sha, .inr (9, [.ref h0_sha_sums, .ref h0_sha_schedule, .ref h0_sha_inner, .int c_sha_filled, .int c_sha_total])), (h0_sha_inner, .inl (cy 0, 32, .inl c_sha_inner)), (h0_sha_schedule, .inl (cy 1, 64, .inl c_sha_schedule)), (h0_sha_sums, .inl (cy 1, 8, .inl c_sha_sums)), (h0_value, .inl (cy 0, 32, .inl c_value)), (ha1, .inl (cy 0, n_a1, .inl ca1))]) sz) := by
  refine Met.ofW (cc := cX3_answer) (maxL := 7) (ret := none) (by decide) rfl ?_
  intro p e s m args below meth c s₁ B hml hv
  obtain ⟨rfl, rfl, hP, hD0, hE⟩ := hv
  have hx := B.exec
  have hb := B.bytes
  have hr := B.returns
  have hts := atoms_spec (ws := wsX3_answer) B.pre
  have hown : s.vm.findClass RX3 = some m.cls := findClass_of_methodNamed B.named
  have hlocks := B.notSynchronized
  clear B
  have hD := hD0.self (sz := s.heap.size)
  generalize hAe : va_A ([(h0, .inr (5, [.ref h0_sha, .ref h0_key, .ref h0_value, .ref h0_message, .int c_begun, .int c_requests])), (h0_key, .inl (cy 0, 32, .inl c_key)), (h0_message, .inl (cy 0, 97, .inl c_message)), (h0_sha, .inr (9, [.ref h0_sha_sums, .ref h0_sha_schedule, .ref h0_sha_inner, .int c_sha_filled, .int c_sha_total])), (h0_sha_inner, .inl (cy 0, 32, .inl c_sha_inner)), (h0_sha_schedule, .inl (cy 1, 64, .inl c_sha_schedule)), (h0_sha_sums, .inl (cy 1, 8, .inl c_sha_sums)), (h0_value, .inl (cy 0, 32, .inl c_value)), (ha1, .inl (cy 0, n_a1, .inl ca1))]) s.heap.size = A at hD hE ⊢
  have hA : ∀ q : Nat, s.heap.size ≤ q → A q := fun q h => by rw [← hAe]; exact Or.inr h
  clear hAe hD0
  have hS : va_S A s.heap s.heap [] := va_S.rf
  have hK := hE.1
  have hw0 := hts (.fieldLink RX3 25 "SealedModule$Generator" "requests" "I") (by decide +kernel)
  have hw1 := hts (.fieldLink RX3 29 "SealedModule$Generator" "sha" "LSealedModule$Sha256;") (by decide +kernel)
  have hw2 := hts (.fieldLink RX3 9 "SealedModule$Generator" "key" "[B") (by decide +kernel)
  have hw3 := hts (.fieldLink RX3 15 "SealedModule$Generator" "value" "[B") (by decide +kernel)
  have hw4 := hts (.methodLink RX3 49 Lib.Math.min.name) (by decide +kernel)
  have hw5 := hts (.static Lib.Math.min.name) (by decide +kernel)
  have hw6 := hts (.initialized "java/lang/Math") (by decide +kernel)
  have hw7 := hts (.code Lib.Math.min.name Lib.Math.min.code 2 (some .int)) (by decide +kernel)
  have hw8 := hts (.methodLink RX3 55 arraycopyName) (by decide +kernel)
  have hw9 := hts (.native arraycopyName) (by decide +kernel)
  have hw10 := hts (.static arraycopyName) (by decide +kernel)
  have hw11 := hts (.initialized "java/lang/System") (by decide +kernel)
  have hcX3 : ∀ w ∈ u_ws RX3 TX3 6, w ∈ wsX3_answer := (fun _ h => List.mem_cons_of_mem _ (List.mem_append_left _ (List.mem_append_left _ (List.mem_append_right _ h))))
  have hl := lv_entry ([.ref h0, .ref ha1, .int p2, .ref ha1, .int p4, .int p5]) (n := 7) (Nat.le_of_ble_eq_true rfl)
  rw [lg_entry_eq]
  generalize (lg_sl ([.ref h0, .ref ha1, .int p2, .ref ha1, .int p4, .int p5]) ++ List.replicate (7 - (lg_sl ([.ref h0, .ref ha1, .int p2, .ref ha1, .int p4, .int p5])).length) Slot.unset).toArray = ls at hl ⊢
  replace hl : lv_has ls 7 [(0, .ref h0), (1, .ref ha1), (2, .int p2), (3, .ref ha1), (4, .int p4), (5, .int p5)] := hl
  unfold f_X3_answer_3a1 at hf
  refine zgo (fun GW hTo hFr => ?_)
  refine hFr _ _ _ ?_
  obtain ⟨H, hHe⟩ : ∃ H, H = s.heap := ⟨_, rfl⟩
  obtain ⟨locs, hLe⟩ : ∃ L : List Loc, L = [] := ⟨_, rfl⟩
  rw [← hHe] at hP
  replace hS : va_S A s.heap H locs := by rw [hHe, hLe]; exact hS
  refine zat hHe.symm hLe.symm ?_
  clear hHe hLe
  refine lv_iload_n (pc := 0) hx hb (zdt_at zt_X3_answer_0 0 rfl) rfl (lv_at hl 2 rfl) ?_
  replace hf := zj_s hf
  obtain ⟨K_9, eK_9, hf⟩ := hf
  have kK_9 : ∀ (c_key_1 : Nat → Int32) (c_message_2 : Nat → Int32) (c_sha_filled_3 : Int32) (c_sha_inner_4 : Nat → Int32) (c_sha_schedule_5 : Nat → Int32) (c_sha_sums_6 : Nat → Int32) (c_sha_total_7 : Int32) (c_value_8 : Nat → Int32) (H : Heap) (locs : List Loc) (ls : Array Slot), va_P D vwCl ([(h0, .inr (5, [.ref h0_sha, .ref h0_key, .ref h0_value, .ref h0_message, .int c_begun, .int c_requests])), (h0_key, .inl (cy 0, 32, .inl c_key_1)), (h0_message, .inl (cy 0, 97, .inl c_message_2)), (h0_sha, .inr (9, [.ref h0_sha_sums, .ref h0_sha_schedule, .ref h0_sha_inner, .int c_sha_filled_3, .int c_sha_total_7])), (h0_sha_inner, .inl (cy 0, 32, .inl c_sha_inner_4)), (h0_sha_schedule, .inl (cy 1, 64, .inl c_sha_schedule_5)), (h0_sha_sums, .inl (cy 1, 8, .inl c_sha_sums_6)), (h0_value, .inl (cy 0, 32, .inl c_value_8)), (ha1, .inl (cy 0, n_a1, .inl ca1))]) H → va_D A ([(h0, .inr (5, [.ref h0_sha, .ref h0_key, .ref h0_value, .ref h0_message, .int c_begun, .int c_requests])), (h0_key, .inl (cy 0, 32, .inl c_key_1)), (h0_message, .inl (cy 0, 97, .inl c_message_2)), (h0_sha, .inr (9, [.ref h0_sha_sums, .ref h0_sha_schedule, .ref h0_sha_inner, .int c_sha_filled_3, .int c_sha_total_7])), (h0_sha_inner, .inl (cy 0, 32, .inl c_sha_inner_4)), (h0_sha_schedule, .inl (cy 1, 64, .inl c_sha_schedule_5)), (h0_sha_sums, .inl (cy 1, 8, .inl c_sha_sums_6)), (h0_value, .inl (cy 0, 32, .inl c_value_8)), (ha1, .inl (cy 0, n_a1, .inl ca1))]) → va_S A s.heap H locs → lv_has ls 7 [(0, .ref h0), (1, .ref ha1), (2, .int p2), (3, .ref ha1), (4, .int p4), (5, .int p5)] → K_9 c_key_1 c_message_2 c_sha_filled_3 c_sha_inner_4 c_sha_schedule_5 c_sha_sums_6 c_sha_total_7 c_value_8 = some (c_requests', c_key', c_message', c_sha_filled', c_sha_total', c_sha_inner', c_sha_schedule', c_sha_sums', c_value', ca1') → GW H locs (F0 m 10 ls []) := by
    clear hf hl hP hD hS
    intro c_key_1 c_message_2 c_sha_filled_3 c_sha_inner_4 c_sha_schedule_5 c_sha_sums_6 c_sha_total_7 c_value_8 H locs ls hP hD hS hl hf
    rw [eK_9] at hf
    clear eK_9
    refine hFr _ _ _ ?_
    refine lv_iconst (pc := 10) (v := (0 : Int32)) hx hb (zdt_at zt_X3_answer_0 6 rfl) (by decide) ?_
    refine lv_istore (pc := 11) (lv' := [(6, .int (0 : Int32)), (0, .ref h0), (1, .ref ha1), (2, .int p2), (3, .ref ha1), (4, .int p4), (5, .int p5)]) hx hb (zdt_at zt_X3_answer_0 7 rfl) hl (by decide) rfl ?_
    clear hl
    intro ls hl
    replace hf := zj_s hf
    obtain ⟨K_25, eK_25, hf⟩ := hf
    have kK_25 : ∀ (c_sha_filled_18 : Int32) (c_sha_inner_19 : Nat → Int32) (c_sha_schedule_20 : Nat → Int32) (c_sha_sums_21 : Nat → Int32) (c_sha_total_22 : Int32) (c_value_23 : Nat → Int32) (ca1_24 : Nat → Int32) (H : Heap) (locs : List Loc) (ls : Array Slot), va_P D vwCl ([(h0, .inr (5, [.ref h0_sha, .ref h0_key, .ref h0_value, .ref h0_message, .int c_begun, .int c_requests])), (h0_key, .inl (cy 0, 32, .inl c_key_1)), (h0_message, .inl (cy 0, 97, .inl c_message_2)), (h0_sha, .inr (9, [.ref h0_sha_sums, .ref h0_sha_schedule, .ref h0_sha_inner, .int c_sha_filled_18, .int c_sha_total_22])), (h0_sha_inner, .inl (cy 0, 32, .inl c_sha_inner_19)), (h0_sha_schedule, .inl (cy 1, 64, .inl c_sha_schedule_20)), (h0_sha_sums, .inl (cy 1, 8, .inl c_sha_sums_21)), (h0_value, .inl (cy 0, 32, .inl c_value_23)), (ha1, .inl (cy 0, n_a1, .inl ca1_24))]) H → va_D A ([(h0, .inr (5, [.ref h0_sha, .ref h0_key, .ref h0_value, .ref h0_message, .int c_begun, .int c_requests])), (h0_key, .inl (cy 0, 32, .inl c_key_1)), (h0_message, .inl (cy 0, 97, .inl c_message_2)), (h0_sha, .inr (9, [.ref h0_sha_sums, .ref h0_sha_schedule, .ref h0_sha_inner, .int c_sha_filled_18, .int c_sha_total_22])), (h0_sha_inner, .inl (cy 0, 32, .inl c_sha_inner_19)), (h0_sha_schedule, .inl (cy 1, 64, .inl c_sha_schedule_20)), (h0_sha_sums, .inl (cy 1, 8, .inl c_sha_sums_21)), (h0_value, .inl (cy 0, 32, .inl c_value_23)), (ha1, .inl (cy 0, n_a1, .inl ca1_24))]) → va_S A s.heap H locs → lv_has ls 7 [(0, .ref h0), (1, .ref ha1), (2, .int p2)] → K_25 c_sha_filled_18 c_sha_inner_19 c_sha_schedule_20 c_sha_sums_21 c_sha_total_22 c_value_23 ca1_24 = some (c_requests', c_key', c_message', c_sha_filled', c_sha_total', c_sha_inner', c_sha_schedule', c_sha_sums', c_value', ca1') → GW H locs (F0 m 75 ls []) := by
      clear hf hl hP hD hS
      intro c_sha_filled_18 c_sha_inner_19 c_sha_schedule_20 c_sha_sums_21 c_sha_total_22 c_value_23 ca1_24 H locs ls hP hD hS hl hf
      rw [eK_25] at hf
      clear eK_25
      refine hFr _ _ _ ?_
      refine lv_aload_n (pc := 75) hx hb (zdt_at zt_X3_answer_0 39 rfl) rfl (lv_at hl 0 rfl) ?_
      refine lv_aload_n (pc := 76) hx hb (zdt_at zt_X3_answer_0 40 rfl) rfl (lv_at hl 1 rfl) ?_
      refine lv_iload_n (pc := 77) hx hb (zdt_at zt_X3_answer_0 41 rfl) rfl (lv_at hl 2 rfl) ?_
      replace hf := zb_s hf
      obtain ⟨⟨c_key_26, c_message_27, c_sha_filled_28, c_sha_total_29, c_sha_inner_30, c_sha_schedule_31, c_sha_sums_32, c_value_33⟩, hc_, hf⟩ := hf
      refine zcn2 (pc := 78) (rv := none) (va_runV (As := [.ref ha1, .int p2]) (rest := []) ⟨hx, hb, hml, hown, hts⟩ (c_X3_update l D cy tt H.size h0 h0_sha h0_key h0_value h0_message h0_sha_sums h0_sha_schedule h0_sha_inner ha1 n_a1 p2 c_key_1 c_message_2 c_sha_filled_18 c_sha_total_22 c_sha_inner_19 c_sha_schedule_20 c_sha_sums_21 c_value_23 ca1_24 c_begun c_requests c_key_26 c_message_27 c_sha_filled_28 c_sha_total_29 c_sha_inner_30 c_sha_schedule_31 c_sha_sums_32 c_value_33 hc_) (cwV 2 hts gX3_answer_X3_update rfl rfl rfl (by decide +kernel) ⟨Nat.le_of_ble_eq_true rfl, Nat.le_of_ble_eq_true rfl⟩) ⟨zblind, va_recv hK hP (ci := 5) (q0 := 0) rfl rfl, zpre hE hS (hP.sub [0, 1, 2, 3, 4, 5, 6, 7, 8] rfl) (hD.sub [0, 1, 2, 3, 4, 5, 6, 7, 8] (by decide) rfl) (va_free hD hS hA [0, 1, 2, 3, 4, 5, 6, 7, 8] rfl)⟩ rfl rfl hl.1 rfl (lv_room (Nat.le_of_ble_eq_true rfl)) (zdt_at zt_X3_answer_0 42 rfl) ⟨Nat.zero_le _, Nat.zero_le _⟩) hS hP hD (va_free hD hS hA [0, 1, 2, 3, 4, 5, 6, 7, 8] rfl) [0, 1, 2, 3, 4, 5, 6, 7, 8] rfl (by decide) rfl ?_
      clear hP hD hS hc_
      intro H locs hP hD hS
      replace hP : va_P D vwCl ([(h0, .inr (5, [.ref h0_sha, .ref h0_key, .ref h0_value, .ref h0_message, .int c_begun, .int c_requests])), (h0_key, .inl (cy 0, 32, .inl c_key_26)), (h0_message, .inl (cy 0, 97, .inl c_message_27)), (h0_sha, .inr (9, [.ref h0_sha_sums, .ref h0_sha_schedule, .ref h0_sha_inner, .int c_sha_filled_28, .int c_sha_total_29])), (h0_sha_inner, .inl (cy 0, 32, .inl c_sha_inner_30)), (h0_sha_schedule, .inl (cy 1, 64, .inl c_sha_schedule_31)), (h0_sha_sums, .inl (cy 1, 8, .inl c_sha_sums_32)), (h0_value, .inl (cy 0, 32, .inl c_value_33)), (ha1, .inl (cy 0, n_a1, .inl ca1_24))]) H := hP
      replace hD : va_D A ([(h0, .inr (5, [.ref h0_sha, .ref h0_key, .ref h0_value, .ref h0_message, .int c_begun, .int c_requests])), (h0_key, .inl (cy 0, 32, .inl c_key_26)), (h0_message, .inl (cy 0, 97, .inl c_message_27)), (h0_sha, .inr (9, [.ref h0_sha_sums, .ref h0_sha_schedule, .ref h0_sha_inner, .int c_sha_filled_28, .int c_sha_total_29])), (h0_sha_inner, .inl (cy 0, 32, .inl c_sha_inner_30)), (h0_sha_schedule, .inl (cy 1, 64, .inl c_sha_schedule_31)), (h0_sha_sums, .inl (cy 1, 8, .inl c_sha_sums_32)), (h0_value, .inl (cy 0, 32, .inl c_value_33)), (ha1, .inl (cy 0, n_a1, .inl ca1_24))]) := hD
      refine W.eq (g2 := F0 m 81 ls []) rfl ?_
      refine lv_aload_n (pc := 81) hx hb (zdt_at zt_X3_answer_0 43 rfl) rfl (lv_at hl 0 rfl) ?_
      refine lv_dup (pc := 82) hx hb (zdt_at zt_X3_answer_0 44 rfl) rfl ?_
      refine va_get (pc := 83) (D := D) (ci := 5) (v := .int c_requests) (C := RX3) (T := TX3) (N := 6) hx hb hts hcX3 hown hK hP 0 rfl rfl 5 (by decide) hw0 (fun _ h9 => h9) rfl (zdt_at zt_X3_answer_0 45 rfl) ?_
      refine lv_iconst (pc := 86) (v := (1 : Int32)) hx hb (zdt_at zt_X3_answer_0 46 rfl) (by decide) ?_
      refine lv_iadd (pc := 87) hx hb (zdt_at zt_X3_answer_0 47 rfl) ?_
      refine lv_topi (fun x_34 e_ => ?_)
      replace hf := zn_s hf e_
      clear e_
      refine va_put (pc := 88) (D := D) (ci := 5) (v := .int x_34) (ty := .int) (C := RX3) (T := TX3) (N := 6) hx hb hts hcX3 tyX3 tyX3_ok nmX3 hown hK hP hD hS 0 rfl rfl 5 (by decide) hw0 (fun _ h9 => h9) rfl (by decide +kernel) rfl rfl (Nat.le_of_ble_eq_true rfl) (zdt_at zt_X3_answer_0 48 rfl) ?_
      clear hP hD hS
      intro H locs hP hD hS
      replace hP : va_P D vwCl ([(h0, .inr (5, [.ref h0_sha, .ref h0_key, .ref h0_value, .ref h0_message, .int c_begun, .int x_34])), (h0_key, .inl (cy 0, 32, .inl c_key_26)), (h0_message, .inl (cy 0, 97, .inl c_message_27)), (h0_sha, .inr (9, [.ref h0_sha_sums, .ref h0_sha_schedule, .ref h0_sha_inner, .int c_sha_filled_28, .int c_sha_total_29])), (h0_sha_inner, .inl (cy 0, 32, .inl c_sha_inner_30)), (h0_sha_schedule, .inl (cy 1, 64, .inl c_sha_schedule_31)), (h0_sha_sums, .inl (cy 1, 8, .inl c_sha_sums_32)), (h0_value, .inl (cy 0, 32, .inl c_value_33)), (ha1, .inl (cy 0, n_a1, .inl ca1_24))]) H := hP
      replace hD : va_D A ([(h0, .inr (5, [.ref h0_sha, .ref h0_key, .ref h0_value, .ref h0_message, .int c_begun, .int x_34])), (h0_key, .inl (cy 0, 32, .inl c_key_26)), (h0_message, .inl (cy 0, 97, .inl c_message_27)), (h0_sha, .inr (9, [.ref h0_sha_sums, .ref h0_sha_schedule, .ref h0_sha_inner, .int c_sha_filled_28, .int c_sha_total_29])), (h0_sha_inner, .inl (cy 0, 32, .inl c_sha_inner_30)), (h0_sha_schedule, .inl (cy 1, 64, .inl c_sha_schedule_31)), (h0_sha_sums, .inl (cy 1, 8, .inl c_sha_sums_32)), (h0_value, .inl (cy 0, 32, .inl c_value_33)), (ha1, .inl (cy 0, n_a1, .inl ca1_24))]) := hD
      cases hf
      exact W.vret (pc := 91) hx hb hr (fun t ht hW => ⟨rfl, ⟨by rw [ht]; exact hP, hD⟩, hS.F ht⟩) hS.2.2 (zdt_at zt_X3_answer_0 49 rfl)
    clear eK_25
    refine hTo _ _ _ (zl_go (fun z => match z with | (i_10, c_sha_filled_11, c_sha_inner_12, c_sha_schedule_13, c_sha_sums_14, c_sha_total_15, c_value_16, ca1_17) => ∀ (H : Heap) (locs : List Loc) (ls : Array Slot), va_P D vwCl ([(h0, .inr (5, [.ref h0_sha, .ref h0_key, .ref h0_value, .ref h0_message, .int c_begun, .int c_requests])), (h0_key, .inl (cy 0, 32, .inl c_key_1)), (h0_message, .inl (cy 0, 97, .inl c_message_2)), (h0_sha, .inr (9, [.ref h0_sha_sums, .ref h0_sha_schedule, .ref h0_sha_inner, .int c_sha_filled_11, .int c_sha_total_15])), (h0_sha_inner, .inl (cy 0, 32, .inl c_sha_inner_12)), (h0_sha_schedule, .inl (cy 1, 64, .inl c_sha_schedule_13)), (h0_sha_sums, .inl (cy 1, 8, .inl c_sha_sums_14)), (h0_value, .inl (cy 0, 32, .inl c_value_16)), (ha1, .inl (cy 0, n_a1, .inl ca1_17))]) H → va_D A ([(h0, .inr (5, [.ref h0_sha, .ref h0_key, .ref h0_value, .ref h0_message, .int c_begun, .int c_requests])), (h0_key, .inl (cy 0, 32, .inl c_key_1)), (h0_message, .inl (cy 0, 97, .inl c_message_2)), (h0_sha, .inr (9, [.ref h0_sha_sums, .ref h0_sha_schedule, .ref h0_sha_inner, .int c_sha_filled_11, .int c_sha_total_15])), (h0_sha_inner, .inl (cy 0, 32, .inl c_sha_inner_12)), (h0_sha_schedule, .inl (cy 1, 64, .inl c_sha_schedule_13)), (h0_sha_sums, .inl (cy 1, 8, .inl c_sha_sums_14)), (h0_value, .inl (cy 0, 32, .inl c_value_16)), (ha1, .inl (cy 0, n_a1, .inl ca1_17))]) → va_S A s.heap H locs → lv_has ls 7 [(0, .ref h0), (1, .ref ha1), (2, .int p2), (3, .ref ha1), (4, .int p4), (5, .int p5), (6, .int i_10)] → GW H locs (F0 m 13 ls [])) hf ?_ H locs ls hP hD hS (lv_sub hl [1, 2, 3, 4, 5, 6, 0] rfl))
    clear hf hl hP hD hS
    intro self_35 ihself_35 z hf
    obtain ⟨i_10, c_sha_filled_11, c_sha_inner_12, c_sha_schedule_13, c_sha_sums_14, c_sha_total_15, c_value_16, ca1_17⟩ := z
    intro H locs ls hP hD hS hl
    refine hFr _ _ _ ?_
    unfold b_X3_answer_3a1_13 at hf
    refine lv_iload (pc := 13) hx hb (zdt_at zt_X3_answer_0 8 rfl) (lv_at hl 6 rfl) ?_
    refine lv_iload (pc := 15) hx hb (zdt_at zt_X3_answer_0 9 rfl) (lv_at hl 5 rfl) ?_
    refine lv_icmp_ge (pc := 17) (tgt := 75) hx hb (zdt_at zt_X3_answer_0 10 rfl) (by decide) (fun cn_ => ?t_36) (fun cn_ => ?f_37)
    case t_36 =>
      replace hf := zt_s cn_ hf
      clear cn_
      exact hTo _ _ _ (kK_25 _ _ _ _ _ _ _ H locs ls hP hD hS (lv_sub hl [0, 1, 2] rfl) hf)
    replace hf := ze_s cn_ hf
    clear cn_
    refine lv_aload_n (pc := 20) hx hb (zdt_at zt_X3_answer_0 11 rfl) rfl (lv_at hl 0 rfl) ?_
    refine va_get (pc := 21) (D := D) (ci := 5) (v := .ref h0_sha) (C := RX3) (T := TX3) (N := 6) hx hb hts hcX3 hown hK hP 0 rfl rfl 0 (by decide) hw1 (fun _ h9 => h9) rfl (zdt_at zt_X3_answer_0 12 rfl) ?_
    refine lv_aload_n (pc := 24) hx hb (zdt_at zt_X3_answer_0 13 rfl) rfl (lv_at hl 0 rfl) ?_
    refine va_get (pc := 25) (D := D) (ci := 5) (v := .ref h0_key) (C := RX3) (T := TX3) (N := 6) hx hb hts hcX3 hown hK hP 0 rfl rfl 1 (by decide) hw2 (fun _ h9 => h9) rfl (zdt_at zt_X3_answer_0 14 rfl) ?_
    refine lv_bipush (pc := 28) (v := (32 : Int32)) hx hb (zdt_at zt_X3_answer_0 15 rfl) (by decide) ?_
    refine lv_aload_n (pc := 30) hx hb (zdt_at zt_X3_answer_0 16 rfl) rfl (lv_at hl 0 rfl) ?_
    refine va_get (pc := 31) (D := D) (ci := 5) (v := .ref h0_value) (C := RX3) (T := TX3) (N := 6) hx hb hts hcX3 hown hK hP 0 rfl rfl 2 (by decide) hw3 (fun _ h9 => h9) rfl (zdt_at zt_X3_answer_0 17 rfl) ?_
    refine lv_iconst (pc := 34) (v := (0 : Int32)) hx hb (zdt_at zt_X3_answer_0 18 rfl) (by decide) ?_
    refine lv_bipush (pc := 35) (v := (32 : Int32)) hx hb (zdt_at zt_X3_answer_0 19 rfl) (by decide) ?_
    refine lv_aload_n (pc := 37) hx hb (zdt_at zt_X3_answer_0 20 rfl) rfl (lv_at hl 0 rfl) ?_
    refine va_get (pc := 38) (D := D) (ci := 5) (v := .ref h0_value) (C := RX3) (T := TX3) (N := 6) hx hb hts hcX3 hown hK hP 0 rfl rfl 2 (by decide) hw3 (fun _ h9 => h9) rfl (zdt_at zt_X3_answer_0 21 rfl) ?_
    refine lv_iconst (pc := 41) (v := (0 : Int32)) hx hb (zdt_at zt_X3_answer_0 22 rfl) (by decide) ?_
    replace hf := zb_s hf
    obtain ⟨⟨c_sha_filled_38, c_sha_total_39, c_sha_inner_40, c_sha_schedule_41, c_sha_sums_42, c_value_43⟩, hc_, hf⟩ := hf
    refine zcn2 (pc := 42) (rv := none) (va_runV (As := [.ref h0_key, .int (32 : Int32), .ref h0_value, .int (0 : Int32), .int (32 : Int32), .ref h0_value, .int (0 : Int32)]) (rest := []) ⟨hx, hb, hml, hown, hts⟩ (c_X7_mac_6a3 l D cy tt H.size h0_sha h0_sha_sums h0_sha_schedule h0_sha_inner h0_key h0_value 32 32 (32 : Int32) (0 : Int32) (32 : Int32) (0 : Int32) c_sha_filled_11 c_sha_total_15 c_sha_inner_12 c_sha_schedule_13 c_sha_sums_14 c_key_1 c_value_16 c_sha_filled_38 c_sha_total_39 c_sha_inner_40 c_sha_schedule_41 c_sha_sums_42 c_value_43 hc_) (cwV 7 hts gX3_answer_X7_mac rfl rfl rfl (by decide +kernel) ⟨Nat.le_of_ble_eq_true rfl, Nat.le_of_ble_eq_true rfl⟩) ⟨zblind, va_recv hK hP (ci := 9) (q0 := 3) rfl rfl, zpre hE hS (hP.sub [3, 4, 5, 6, 1, 7] rfl) (hD.sub [3, 4, 5, 6, 1, 7] (by decide) rfl) (va_free hD hS hA [3, 4, 5, 6, 1, 7] rfl)⟩ rfl rfl hl.1 rfl (lv_room (Nat.le_of_ble_eq_true rfl)) (zdt_at zt_X3_answer_0 23 rfl) ⟨Nat.zero_le _, Nat.zero_le _⟩) hS hP hD (va_free hD hS hA [3, 4, 5, 6, 1, 7] rfl) [3, 4, 5, 6, 1, 7] rfl (by decide) rfl ?_
    clear hP hD hS hc_
    intro H locs hP hD hS
    replace hP : va_P D vwCl ([(h0, .inr (5, [.ref h0_sha, .ref h0_key, .ref h0_value, .ref h0_message, .int c_begun, .int c_requests])), (h0_key, .inl (cy 0, 32, .inl c_key_1)), (h0_message, .inl (cy 0, 97, .inl c_message_2)), (h0_sha, .inr (9, [.ref h0_sha_sums, .ref h0_sha_schedule, .ref h0_sha_inner, .int c_sha_filled_38, .int c_sha_total_39])), (h0_sha_inner, .inl (cy 0, 32, .inl c_sha_inner_40)), (h0_sha_schedule, .inl (cy 1, 64, .inl c_sha_schedule_41)), (h0_sha_sums, .inl (cy 1, 8, .inl c_sha_sums_42)), (h0_value, .inl (cy 0, 32, .inl c_value_43)), (ha1, .inl (cy 0, n_a1, .inl ca1_17))]) H := hP
    replace hD : va_D A ([(h0, .inr (5, [.ref h0_sha, .ref h0_key, .ref h0_value, .ref h0_message, .int c_begun, .int c_requests])), (h0_key, .inl (cy 0, 32, .inl c_key_1)), (h0_message, .inl (cy 0, 97, .inl c_message_2)), (h0_sha, .inr (9, [.ref h0_sha_sums, .ref h0_sha_schedule, .ref h0_sha_inner, .int c_sha_filled_38, .int c_sha_total_39])), (h0_sha_inner, .inl (cy 0, 32, .inl c_sha_inner_40)), (h0_sha_schedule, .inl (cy 1, 64, .inl c_sha_schedule_41)), (h0_sha_sums, .inl (cy 1, 8, .inl c_sha_sums_42)), (h0_value, .inl (cy 0, 32, .inl c_value_43)), (ha1, .inl (cy 0, n_a1, .inl ca1_17))]) := hD
    refine W.eq (g2 := F0 m 45 ls []) rfl ?_
    refine lv_aload_n (pc := 45) hx hb (zdt_at zt_X3_answer_0 24 rfl) rfl (lv_at hl 0 rfl) ?_
    refine va_get (pc := 46) (D := D) (ci := 5) (v := .ref h0_value) (C := RX3) (T := TX3) (N := 6) hx hb hts hcX3 hown hK hP 0 rfl rfl 2 (by decide) hw3 (fun _ h9 => h9) rfl (zdt_at zt_X3_answer_0 25 rfl) ?_
    refine lv_iconst (pc := 49) (v := (0 : Int32)) hx hb (zdt_at zt_X3_answer_0 26 rfl) (by decide) ?_
    refine lv_aload_n (pc := 50) hx hb (zdt_at zt_X3_answer_0 27 rfl) rfl (lv_at hl 3 rfl) ?_
    refine lv_iload (pc := 51) hx hb (zdt_at zt_X3_answer_0 28 rfl) (lv_at hl 4 rfl) ?_
    refine lv_iload (pc := 53) hx hb (zdt_at zt_X3_answer_0 29 rfl) (lv_at hl 6 rfl) ?_
    refine lv_iadd (pc := 55) hx hb (zdt_at zt_X3_answer_0 30 rfl) ?_
    refine lv_bipush (pc := 56) (v := (32 : Int32)) hx hb (zdt_at zt_X3_answer_0 31 rfl) (by decide) ?_
    refine lv_iload (pc := 58) hx hb (zdt_at zt_X3_answer_0 32 rfl) (lv_at hl 5 rfl) ?_
    refine lv_iload (pc := 60) hx hb (zdt_at zt_X3_answer_0 33 rfl) (lv_at hl 6 rfl) ?_
    refine lv_isub (pc := 62) hx hb (zdt_at zt_X3_answer_0 34 rfl) ?_
    refine va_mmin (pc := 63) hx hb (hml.trans hl.1.symm) hown hw4 hw5 hw6 hw7 (Nat.le_of_ble_eq_true rfl) (Nat.le_of_ble_eq_true rfl) (Nat.zero_le _) (Nat.zero_le _) (zdt_at zt_X3_answer_0 35 rfl) ?_
    replace hf := zk_s hf
    refine va_copyi (pc := 66) hx hb (hml.trans hl.1.symm) hown hw8 hw9 hw10 hw11 hK hP hD hS 7 8 0 0 rfl rfl rfl rfl rfl hf.1.1 hf.1.2.1 hf.1.2.2.1 hf.1.2.2.2.1 hf.1.2.2.2.2.1 hf.1.2.2.2.2.2 (Nat.le_of_ble_eq_true rfl) (Nat.le_of_ble_eq_true rfl) (zdt_at zt_X3_answer_0 36 rfl) ?_
    replace hf := hf.2
    clear hP hD hS
    intro H locs hP hD hS
    obtain ⟨ca1_44, e_⟩ : ∃ q : Nat → Int32, q = (va_cpy c_value_43 ca1_17 (0 : Int32).toNatClampNeg (p4 + i_10).toNatClampNeg (if (p5 - i_10) < (32 : Int32) then (p5 - i_10) else (32 : Int32)).toNatClampNeg) := ⟨_, rfl⟩
    replace hf := zn_s hf e_
    replace hP : va_P D vwCl ([(h0, .inr (5, [.ref h0_sha, .ref h0_key, .ref h0_value, .ref h0_message, .int c_begun, .int c_requests])), (h0_key, .inl (cy 0, 32, .inl c_key_1)), (h0_message, .inl (cy 0, 97, .inl c_message_2)), (h0_sha, .inr (9, [.ref h0_sha_sums, .ref h0_sha_schedule, .ref h0_sha_inner, .int c_sha_filled_38, .int c_sha_total_39])), (h0_sha_inner, .inl (cy 0, 32, .inl c_sha_inner_40)), (h0_sha_schedule, .inl (cy 1, 64, .inl c_sha_schedule_41)), (h0_sha_sums, .inl (cy 1, 8, .inl c_sha_sums_42)), (h0_value, .inl (cy 0, 32, .inl c_value_43)), (ha1, .inl (cy 0, n_a1, .inl ca1_44))]) H := by rw [e_]; exact hP
    replace hD : va_D A ([(h0, .inr (5, [.ref h0_sha, .ref h0_key, .ref h0_value, .ref h0_message, .int c_begun, .int c_requests])), (h0_key, .inl (cy 0, 32, .inl c_key_1)), (h0_message, .inl (cy 0, 97, .inl c_message_2)), (h0_sha, .inr (9, [.ref h0_sha_sums, .ref h0_sha_schedule, .ref h0_sha_inner, .int c_sha_filled_38, .int c_sha_total_39])), (h0_sha_inner, .inl (cy 0, 32, .inl c_sha_inner_40)), (h0_sha_schedule, .inl (cy 1, 64, .inl c_sha_schedule_41)), (h0_sha_sums, .inl (cy 1, 8, .inl c_sha_sums_42)), (h0_value, .inl (cy 0, 32, .inl c_value_43)), (ha1, .inl (cy 0, n_a1, .inl ca1_44))]) := by rw [e_]; exact hD
    clear e_
    refine lv_iinc (pc := 69) (v := (i_10 + (32 : Int32))) (lv' := [(6, .int (i_10 + (32 : Int32))), (0, .ref h0), (1, .ref ha1), (2, .int p2), (3, .ref ha1), (4, .int p4), (5, .int p5)]) hx hb (zdt_at zt_X3_answer_0 37 rfl) hl (k := 6) rfl rfl (by decide) rfl ?_
    clear hl
    intro ls hl
    refine lv_goto (pc := 72) (tgt := 13) hx hb (zdt_at zt_X3_answer_0 38 rfl) (by decide) ?_
    exact hTo _ _ _ (ihself_35 _ hf H locs ls hP hD hS (lv_sub hl [1, 2, 3, 4, 5, 6, 0] rfl))
  clear eK_9
  refine lv_if_le (pc := 1) (tgt := 10) hx hb (zdt_at zt_X3_answer_0 1 rfl) (by decide) (fun cn_ => ?t_45) (fun cn_ => ?f_46)
  case t_45 =>
    replace hf := zt_s cn_ hf
    clear cn_
    exact hTo _ _ _ (kK_9 _ _ _ _ _ _ _ _ H locs ls hP hD hS (lv_sub hl [0, 1, 2, 3, 4, 5] rfl) hf)
  replace hf := ze_s cn_ hf
  clear cn_
  refine lv_aload_n (pc := 4) hx hb (zdt_at zt_X3_answer_0 2 rfl) rfl (lv_at hl 0 rfl) ?_
  refine lv_aload_n (pc := 5) hx hb (zdt_at zt_X3_answer_0 3 rfl) rfl (lv_at hl 1 rfl) ?_
  refine lv_iload_n (pc := 6) hx hb (zdt_at zt_X3_answer_0 4 rfl) rfl (lv_at hl 2 rfl) ?_
  replace hf := zb_s hf
  obtain ⟨⟨c_key_47, c_message_48, c_sha_filled_49, c_sha_total_50, c_sha_inner_51, c_sha_schedule_52, c_sha_sums_53, c_value_54⟩, hc_, hf⟩ := hf
  refine zcn2 (pc := 7) (rv := none) (va_runV (As := [.ref ha1, .int p2]) (rest := []) ⟨hx, hb, hml, hown, hts⟩ (c_X3_update l D cy tt H.size h0 h0_sha h0_key h0_value h0_message h0_sha_sums h0_sha_schedule h0_sha_inner ha1 n_a1 p2 c_key c_message c_sha_filled c_sha_total c_sha_inner c_sha_schedule c_sha_sums c_value ca1 c_begun c_requests c_key_47 c_message_48 c_sha_filled_49 c_sha_total_50 c_sha_inner_51 c_sha_schedule_52 c_sha_sums_53 c_value_54 hc_) (cwV 2 hts gX3_answer_X3_update rfl rfl rfl (by decide +kernel) ⟨Nat.le_of_ble_eq_true rfl, Nat.le_of_ble_eq_true rfl⟩) ⟨zblind, va_recv hK hP (ci := 5) (q0 := 0) rfl rfl, zpre hE hS (hP.sub [0, 1, 2, 3, 4, 5, 6, 7, 8] rfl) (hD.sub [0, 1, 2, 3, 4, 5, 6, 7, 8] (by decide) rfl) (va_free hD hS hA [0, 1, 2, 3, 4, 5, 6, 7, 8] rfl)⟩ rfl rfl hl.1 rfl (lv_room (Nat.le_of_ble_eq_true rfl)) (zdt_at zt_X3_answer_0 5 rfl) ⟨Nat.zero_le _, Nat.zero_le _⟩) hS hP hD (va_free hD hS hA [0, 1, 2, 3, 4, 5, 6, 7, 8] rfl) [0, 1, 2, 3, 4, 5, 6, 7, 8] rfl (by decide) rfl ?_
  clear hP hD hS hc_
  intro H locs hP hD hS
  replace hP : va_P D vwCl ([(h0, .inr (5, [.ref h0_sha, .ref h0_key, .ref h0_value, .ref h0_message, .int c_begun, .int c_requests])), (h0_key, .inl (cy 0, 32, .inl c_key_47)), (h0_message, .inl (cy 0, 97, .inl c_message_48)), (h0_sha, .inr (9, [.ref h0_sha_sums, .ref h0_sha_schedule, .ref h0_sha_inner, .int c_sha_filled_49, .int c_sha_total_50])), (h0_sha_inner, .inl (cy 0, 32, .inl c_sha_inner_51)), (h0_sha_schedule, .inl (cy 1, 64, .inl c_sha_schedule_52)), (h0_sha_sums, .inl (cy 1, 8, .inl c_sha_sums_53)), (h0_value, .inl (cy 0, 32, .inl c_value_54)), (ha1, .inl (cy 0, n_a1, .inl ca1))]) H := hP
  replace hD : va_D A ([(h0, .inr (5, [.ref h0_sha, .ref h0_key, .ref h0_value, .ref h0_message, .int c_begun, .int c_requests])), (h0_key, .inl (cy 0, 32, .inl c_key_47)), (h0_message, .inl (cy 0, 97, .inl c_message_48)), (h0_sha, .inr (9, [.ref h0_sha_sums, .ref h0_sha_schedule, .ref h0_sha_inner, .int c_sha_filled_49, .int c_sha_total_50])), (h0_sha_inner, .inl (cy 0, 32, .inl c_sha_inner_51)), (h0_sha_schedule, .inl (cy 1, 64, .inl c_sha_schedule_52)), (h0_sha_sums, .inl (cy 1, 8, .inl c_sha_sums_53)), (h0_value, .inl (cy 0, 32, .inl c_value_54)), (ha1, .inl (cy 0, n_a1, .inl ca1))]) := hD
  refine W.eq (g2 := F0 m 10 ls []) rfl ?_
  exact hTo _ _ _ (kK_9 _ _ _ _ _ _ _ _ H locs ls hP hD hS (lv_sub hl [0, 1, 2, 3, 4, 5] rfl) hf)
set_option maxHeartbeats 4000000 in
set_option maxRecDepth 100000 in
theorem c_X6_drawOnce_2t_work (l : Launch) (D : va_G) (cy : Nat → ClassId) (tt : Nat → Nat) (sz : Nat) (h0 : Nat) (h0_aes : Nat) (h0_modes : Nat) (h0_gcm : Nat) (h0_sha : Nat) (h0_generator : Nat) (h0_key : Nat) (h0_work : Nat) (h0_generator_key : Nat) (h0_generator_value : Nat) (h0_generator_message : Nat) (h0_sha_sums : Nat) (h0_sha_schedule : Nat) (h0_sha_inner : Nat) (p1 : Int32) (c_generator_begun : Int32) (c_generator_requests : Int32) (c_generator_key : Nat → Int32) (c_generator_message : Nat → Int32) (c_generator_value : Nat → Int32) (c_sha_filled : Int32) (c_sha_total : Int32) (c_sha_inner : Nat → Int32) (c_sha_schedule : Nat → Int32) (c_sha_sums : Nat → Int32) (c_work : Nat → Int32) (c_generator_begun' : Int32) (c_generator_requests' : Int32) (c_generator_key' : Nat → Int32) (c_generator_message' : Nat → Int32) (c_generator_value' : Nat → Int32) (c_sha_filled' : Int32) (c_sha_total' : Int32) (c_sha_inner' : Nat → Int32) (c_sha_schedule' : Nat → Int32) (c_sha_sums' : Nat → Int32) (c_work' : Nat → Int32) (hf : f_X6_drawOnce_2t_work p1 c_generator_begun c_generator_requests c_generator_key c_generator_message c_generator_value c_sha_filled c_sha_total c_sha_inner c_sha_schedule c_sha_sums c_work = some (c_generator_begun', c_generator_requests', c_generator_key', c_generator_message', c_generator_value', c_sha_filled', c_sha_total', c_sha_inner', c_sha_schedule', c_sha_sums', c_work')) : Met l yX6_drawOnce wsX6_drawOnce ({ frames := 6, cells := 0, slots := 0, locals := 161 }) (zPc D cy tt sz [.ref h0, .int p1, .ref h0_work] ([(h0, .inr (8, [.ref h0_aes, .ref h0_modes, .ref h0_gcm, .ref h0_sha, .ref h0_generator, .ref h0_key, .ref h0_work])), (h0_generator, .inr (5, [.ref h0_sha, .ref h0_generator_key, .ref h0_generator_value, .ref h0_generator_message, .int c_generator_begun, .int c_generator_requests])), (h0_generator_key, .inl (cy 0, 32, .inl c_generator_key)), (h0_generator_message, .inl (cy 0, 97, .inl c_generator_message)), (h0_generator_value, .inl (cy 0, 32, .inl c_generator_value)), (h0_sha, .inr (9, [.ref h0_sha_sums, .ref h0_sha_schedule, .ref h0_sha_inner, .int c_sha_filled, .int c_sha_total])), (h0_sha_inner, .inl (cy 0, 32, .inl c_sha_inner)), (h0_sha_schedule, .inl (cy 1, 64, .inl c_sha_schedule)), (h0_sha_sums, .inl (cy 1, 8, .inl c_sha_sums)), (h0_work, .inl (cy 0, 64, .inl c_work))])) (zQ D none ([(h0, .inr (8, [.ref h0_aes, .ref h0_modes, .ref h0_gcm, .ref h0_sha, .ref h0_generator, .ref h0_key, .ref h0_work])), (h0_generator, .inr (5, [.ref h0_sha, .ref h0_generator_key, .ref h0_generator_value, .ref h0_generator_message, .int c_generator_begun', .int c_generator_requests'])), (h0_generator_key, .inl (cy 0, 32, .inl c_generator_key')), (h0_generator_message, .inl (cy 0, 97, .inl c_generator_message')), (h0_generator_value, .inl (cy 0, 32, .inl c_generator_value')), (h0_sha, .inr (9, [.ref h0_sha_sums, .ref h0_sha_schedule, .ref h0_sha_inner, .int c_sha_filled', .int c_sha_total'])), (h0_sha_inner, .inl (cy 0, 32, .inl c_sha_inner')), (h0_sha_schedule, .inl (cy 1, 64, .inl c_sha_schedule')), (h0_sha_sums, .inl (cy 1, 8, .inl c_sha_sums')), (h0_work, .inl (cy 0, 64, .inl c_work'))]) (va_A ([(h0, .inr (8, [.ref h0_aes, .ref h0_modes, .ref h0_gcm, .ref h0_sha, .ref h0_generator, .ref h0_key, .ref h0_work])), (h0_generator, .inr (5, [.ref h0_sha, .ref h0_generator_key, .ref h0_generator_value, .ref h0_generator_message, .int c_generator_begun, .int c_generator_requests])), (h0_generator_key, .inl (cy 0, 32, .inl c_generator_key)), (h0_generator_message, .inl (cy 0, 97, .inl c_generator_message)), (h0_generator_value, .inl (cy 0, 32, .inl c_generator_value)), (h0_sha, .inr (9, [.ref h0_sha_sums, .ref h0_sha_schedule, .ref h0_sha_inner, .int c_sha_filled, .int c_sha_total])), (h0_sha_inner, .inl (cy 0, 32, .inl c_sha_inner)), (h0_sha_schedule, .inl (cy 1, 64, .inl c_sha_schedule)), (h0_sha_sums, .inl (cy 1, 8, .inl c_sha_sums)), (h0_work, .inl (cy 0, 64, .inl c_work))]) sz)) 0 0 (va_A ([(h0, .inr (8, [.ref h0_aes, .ref h0_modes, .ref h0_gcm, .ref h0_sha, .ref h0_generator, .ref h0_key, .ref h0_work])), (h0_generator, .inr (5, [.ref h0_sha, .ref h0_generator_key, .ref h0_generator_value, .ref h0_generator_message, .int c_generator_begun, .int c_generator_requests])), (h0_generator_key, .inl (cy 0, 32, .inl c_generator_key)), (h0_generator_message, .inl (cy 0, 97, .inl c_generator_message)), (h0_generator_value, .inl (cy 0, 32, .inl c_generator_value)), (h0_sha, .inr (9, [.ref h0_sha_sums, .ref h0_sha_schedule, .ref h0_sha_inner, .int c_sha_filled, .int c_sha_total])), (h0_sha_inner, .inl (cy 0, 32, .inl c_sha_inner)), (h0_sha_schedule, .inl (cy 1, 64, .inl c_sha_schedule)), (h0_sha_sums, .inl (cy 1, 8, .inl c_sha_sums)), (h0_work, .inl (cy 0, 64, .inl c_work))]) sz) := by
  refine Met.ofW (cc := cX6_drawOnce) (maxL := 3) (ret := none) (by decide) rfl ?_
  intro p e s m args below meth c s₁ B hml hv
  obtain ⟨rfl, rfl, hP, hD0, hE⟩ := hv
  have hx := B.exec
  have hb := B.bytes
  have hr := B.returns
  have hts := atoms_spec (ws := wsX6_drawOnce) B.pre
  have hown : s.vm.findClass RX6 = some m.cls := findClass_of_methodNamed B.named
  have hlocks := B.notSynchronized
  clear B
  have hD := hD0.self (sz := s.heap.size)
  generalize hAe : va_A ([(h0, .inr (8, [.ref h0_aes, .ref h0_modes, .ref h0_gcm, .ref h0_sha, .ref h0_generator, .ref h0_key, .ref h0_work])), (h0_generator, .inr (5, [.ref h0_sha, .ref h0_generator_key, .ref h0_generator_value, .ref h0_generator_message, .int c_generator_begun, .int c_generator_requests])), (h0_generator_key, .inl (cy 0, 32, .inl c_generator_key)), (h0_generator_message, .inl (cy 0, 97, .inl c_generator_message)), (h0_generator_value, .inl (cy 0, 32, .inl c_generator_value)), (h0_sha, .inr (9, [.ref h0_sha_sums, .ref h0_sha_schedule, .ref h0_sha_inner, .int c_sha_filled, .int c_sha_total])), (h0_sha_inner, .inl (cy 0, 32, .inl c_sha_inner)), (h0_sha_schedule, .inl (cy 1, 64, .inl c_sha_schedule)), (h0_sha_sums, .inl (cy 1, 8, .inl c_sha_sums)), (h0_work, .inl (cy 0, 64, .inl c_work))]) s.heap.size = A at hD hE ⊢
  have hA : ∀ q : Nat, s.heap.size ≤ q → A q := fun q h => by rw [← hAe]; exact Or.inr h
  clear hAe hD0
  have hS : va_S A s.heap s.heap [] := va_S.rf
  have hK := hE.1
  have hw0 := hts (.fieldLink RX6 90 "SealedModule$SelfTests" "COUNTING_KEY" "[J") (by decide +kernel)
  have hw1 := hts (.fieldLink RX6 97 "SealedModule$SelfTests" "DOUBLED_DIGITS" "[J") (by decide +kernel)
  have hw2 := hts (.fieldLink RX6 15 "SealedModule$SelfTests" "work" "[B") (by decide +kernel)
  have hw3 := hts (.fieldLink RX6 39 "SealedModule$SelfTests" "generator" "LSealedModule$Generator;") (by decide +kernel)
  have hcX6 : ∀ w ∈ u_ws RX6 TX6 7, w ∈ wsX6_drawOnce := (fun _ h => List.mem_cons_of_mem _ (List.mem_append_left _ (List.mem_append_left _ (List.mem_append_left _ (List.mem_append_right _ h)))))
  have hl := lv_entry ([.ref h0, .int p1, .ref h0_work]) (n := 3) (Nat.le_of_ble_eq_true rfl)
  rw [lg_entry_eq]
  generalize (lg_sl ([.ref h0, .int p1, .ref h0_work]) ++ List.replicate (3 - (lg_sl ([.ref h0, .int p1, .ref h0_work])).length) Slot.unset).toArray = ls at hl ⊢
  replace hl : lv_has ls 3 [(0, .ref h0), (1, .int p1), (2, .ref h0_work)] := hl
  unfold f_X6_drawOnce_2t_work at hf
  refine zgo (fun GW hTo hFr => ?_)
  refine hFr _ _ _ ?_
  obtain ⟨H, hHe⟩ : ∃ H, H = s.heap := ⟨_, rfl⟩
  obtain ⟨locs, hLe⟩ : ∃ L : List Loc, L = [] := ⟨_, rfl⟩
  rw [← hHe] at hP
  replace hS : va_S A s.heap H locs := by rw [hHe, hLe]; exact hS
  refine zat hHe.symm hLe.symm ?_
  clear hHe hLe
  refine lv_aload_n (pc := 0) hx hb (zdt_at zt_X6_drawOnce_0 0 rfl) rfl (lv_at hl 0 rfl) ?_
  refine va_gets (pc := 1) hx hb (gT_4 hE.2.2).1 hS hown hw0 (fun _ h9 => h9) (zdt_at zt_X6_drawOnce_0 1 rfl) ?_
  refine lv_iconst (pc := 4) (v := (0 : Int32)) hx hb (zdt_at zt_X6_drawOnce_0 2 rfl) (by decide) ?_
  replace hf := zb_s hf
  obtain ⟨c_work_1, hc_, hf⟩ := hf
  refine zcn2 (pc := 5) (rv := none) (va_runV (As := [.ref (tt 4), .int (0 : Int32)]) (rest := []) ⟨hx, hb, hml, hown, hts⟩ (c_X6_put l D cy tt H.size h0 h0_aes h0_modes h0_gcm h0_sha h0_generator h0_key h0_work 4 (fun j => tb_COUNTING_KEY.getD j 0) 4 (0 : Int32) c_work _ _ _ c_work_1 rfl hc_) (cwV 2 hts gX6_drawOnce_X6_put rfl rfl rfl (by decide +kernel) ⟨Nat.le_of_ble_eq_true rfl, Nat.le_of_ble_eq_true rfl⟩) ⟨zblind, va_recv hK hP (ci := 8) (q0 := 0) rfl rfl, zpre hE hS (hP.sub [0, 9] rfl) (hD.sub [0, 9] (by decide) rfl) (va_free hD hS hA [0, 9] rfl)⟩ rfl rfl hl.1 rfl (lv_room (Nat.le_of_ble_eq_true rfl)) (zdt_at zt_X6_drawOnce_0 3 rfl) ⟨Nat.zero_le _, Nat.zero_le _⟩) hS hP hD (va_free hD hS hA [0, 9] rfl) [0, 9] rfl (by decide) rfl ?_
  clear hP hD hS hc_
  intro H locs hP hD hS
  replace hP : va_P D vwCl ([(h0, .inr (8, [.ref h0_aes, .ref h0_modes, .ref h0_gcm, .ref h0_sha, .ref h0_generator, .ref h0_key, .ref h0_work])), (h0_generator, .inr (5, [.ref h0_sha, .ref h0_generator_key, .ref h0_generator_value, .ref h0_generator_message, .int c_generator_begun, .int c_generator_requests])), (h0_generator_key, .inl (cy 0, 32, .inl c_generator_key)), (h0_generator_message, .inl (cy 0, 97, .inl c_generator_message)), (h0_generator_value, .inl (cy 0, 32, .inl c_generator_value)), (h0_sha, .inr (9, [.ref h0_sha_sums, .ref h0_sha_schedule, .ref h0_sha_inner, .int c_sha_filled, .int c_sha_total])), (h0_sha_inner, .inl (cy 0, 32, .inl c_sha_inner)), (h0_sha_schedule, .inl (cy 1, 64, .inl c_sha_schedule)), (h0_sha_sums, .inl (cy 1, 8, .inl c_sha_sums)), (h0_work, .inl (cy 0, 64, .inl c_work_1))]) H := hP
  replace hD : va_D A ([(h0, .inr (8, [.ref h0_aes, .ref h0_modes, .ref h0_gcm, .ref h0_sha, .ref h0_generator, .ref h0_key, .ref h0_work])), (h0_generator, .inr (5, [.ref h0_sha, .ref h0_generator_key, .ref h0_generator_value, .ref h0_generator_message, .int c_generator_begun, .int c_generator_requests])), (h0_generator_key, .inl (cy 0, 32, .inl c_generator_key)), (h0_generator_message, .inl (cy 0, 97, .inl c_generator_message)), (h0_generator_value, .inl (cy 0, 32, .inl c_generator_value)), (h0_sha, .inr (9, [.ref h0_sha_sums, .ref h0_sha_schedule, .ref h0_sha_inner, .int c_sha_filled, .int c_sha_total])), (h0_sha_inner, .inl (cy 0, 32, .inl c_sha_inner)), (h0_sha_schedule, .inl (cy 1, 64, .inl c_sha_schedule)), (h0_sha_sums, .inl (cy 1, 8, .inl c_sha_sums)), (h0_work, .inl (cy 0, 64, .inl c_work_1))]) := hD
  refine W.eq (g2 := F0 m 8 ls []) rfl ?_
  refine lv_aload_n (pc := 8) hx hb (zdt_at zt_X6_drawOnce_0 4 rfl) rfl (lv_at hl 0 rfl) ?_
  refine va_gets (pc := 9) hx hb (gT_5 hE.2.2).1 hS hown hw1 (fun _ h9 => h9) (zdt_at zt_X6_drawOnce_0 5 rfl) ?_
  refine lv_bipush (pc := 12) (v := (32 : Int32)) hx hb (zdt_at zt_X6_drawOnce_0 6 rfl) (by decide) ?_
  replace hf := zb_s hf
  obtain ⟨c_work_2, hc_, hf⟩ := hf
  refine zcn2 (pc := 14) (rv := none) (va_runV (As := [.ref (tt 5), .int (32 : Int32)]) (rest := []) ⟨hx, hb, hml, hown, hts⟩ (c_X6_put l D cy tt H.size h0 h0_aes h0_modes h0_gcm h0_sha h0_generator h0_key h0_work 5 (fun j => tb_DOUBLED_DIGITS.getD j 0) 2 (32 : Int32) c_work_1 _ _ _ c_work_2 rfl hc_) (cwV 2 hts gX6_drawOnce_X6_put rfl rfl rfl (by decide +kernel) ⟨Nat.le_of_ble_eq_true rfl, Nat.le_of_ble_eq_true rfl⟩) ⟨zblind, va_recv hK hP (ci := 8) (q0 := 0) rfl rfl, zpre hE hS (hP.sub [0, 9] rfl) (hD.sub [0, 9] (by decide) rfl) (va_free hD hS hA [0, 9] rfl)⟩ rfl rfl hl.1 rfl (lv_room (Nat.le_of_ble_eq_true rfl)) (zdt_at zt_X6_drawOnce_0 7 rfl) ⟨Nat.zero_le _, Nat.zero_le _⟩) hS hP hD (va_free hD hS hA [0, 9] rfl) [0, 9] rfl (by decide) rfl ?_
  clear hP hD hS hc_
  intro H locs hP hD hS
  replace hP : va_P D vwCl ([(h0, .inr (8, [.ref h0_aes, .ref h0_modes, .ref h0_gcm, .ref h0_sha, .ref h0_generator, .ref h0_key, .ref h0_work])), (h0_generator, .inr (5, [.ref h0_sha, .ref h0_generator_key, .ref h0_generator_value, .ref h0_generator_message, .int c_generator_begun, .int c_generator_requests])), (h0_generator_key, .inl (cy 0, 32, .inl c_generator_key)), (h0_generator_message, .inl (cy 0, 97, .inl c_generator_message)), (h0_generator_value, .inl (cy 0, 32, .inl c_generator_value)), (h0_sha, .inr (9, [.ref h0_sha_sums, .ref h0_sha_schedule, .ref h0_sha_inner, .int c_sha_filled, .int c_sha_total])), (h0_sha_inner, .inl (cy 0, 32, .inl c_sha_inner)), (h0_sha_schedule, .inl (cy 1, 64, .inl c_sha_schedule)), (h0_sha_sums, .inl (cy 1, 8, .inl c_sha_sums)), (h0_work, .inl (cy 0, 64, .inl c_work_2))]) H := hP
  replace hD : va_D A ([(h0, .inr (8, [.ref h0_aes, .ref h0_modes, .ref h0_gcm, .ref h0_sha, .ref h0_generator, .ref h0_key, .ref h0_work])), (h0_generator, .inr (5, [.ref h0_sha, .ref h0_generator_key, .ref h0_generator_value, .ref h0_generator_message, .int c_generator_begun, .int c_generator_requests])), (h0_generator_key, .inl (cy 0, 32, .inl c_generator_key)), (h0_generator_message, .inl (cy 0, 97, .inl c_generator_message)), (h0_generator_value, .inl (cy 0, 32, .inl c_generator_value)), (h0_sha, .inr (9, [.ref h0_sha_sums, .ref h0_sha_schedule, .ref h0_sha_inner, .int c_sha_filled, .int c_sha_total])), (h0_sha_inner, .inl (cy 0, 32, .inl c_sha_inner)), (h0_sha_schedule, .inl (cy 1, 64, .inl c_sha_schedule)), (h0_sha_sums, .inl (cy 1, 8, .inl c_sha_sums)), (h0_work, .inl (cy 0, 64, .inl c_work_2))]) := hD
  refine W.eq (g2 := F0 m 17 ls []) rfl ?_
  refine lv_aload_n (pc := 17) hx hb (zdt_at zt_X6_drawOnce_0 8 rfl) rfl (lv_at hl 0 rfl) ?_
  refine va_get (pc := 18) (D := D) (ci := 8) (v := .ref h0_work) (C := RX6) (T := TX6) (N := 7) hx hb hts hcX6 hown hK hP 0 rfl rfl 6 (by decide) hw2 (fun _ h9 => h9) rfl (zdt_at zt_X6_drawOnce_0 9 rfl) ?_
  refine lv_iconst (pc := 21) (v := (0 : Int32)) hx hb (zdt_at zt_X6_drawOnce_0 10 rfl) (by decide) ?_
  refine lv_dup2_11 (pc := 22) hx hb (zdt_at zt_X6_drawOnce_0 11 rfl) rfl rfl ?_
  replace hf := zk_s hf
  refine va_bald (pc := 23) hx hb hK hP 9 0 rfl rfl hf.1 (zdt_at zt_X6_drawOnce_0 12 rfl) ?_
  replace hf := hf.2
  refine lv_iload_n (pc := 24) hx hb (zdt_at zt_X6_drawOnce_0 13 rfl) rfl (lv_at hl 1 rfl) ?_
  refine lv_ixor (pc := 25) hx hb (zdt_at zt_X6_drawOnce_0 14 rfl) ?_
  refine lv_i2b (pc := 26) hx hb (zdt_at zt_X6_drawOnce_0 15 rfl) rfl ?_
  replace hf := zk_s hf
  refine va_bast (pc := 27) hx hb hK hP hD hS 9 0 rfl rfl hf.1 (zdt_at zt_X6_drawOnce_0 16 rfl) ?_
  replace hf := hf.2
  clear hP hD hS
  intro H locs hP hD hS
  obtain ⟨c_work_3, e_⟩ : ∃ q : Nat → Int32, q = (upd c_work_2 (0 : Int32).toNatClampNeg (vp_nar .byte (((c_work_2 (0 : Int32).toNatClampNeg) ^^^ p1).toInt8.toInt32))) := ⟨_, rfl⟩
  replace hf := zn_s hf e_
  replace hP : va_P D vwCl ([(h0, .inr (8, [.ref h0_aes, .ref h0_modes, .ref h0_gcm, .ref h0_sha, .ref h0_generator, .ref h0_key, .ref h0_work])), (h0_generator, .inr (5, [.ref h0_sha, .ref h0_generator_key, .ref h0_generator_value, .ref h0_generator_message, .int c_generator_begun, .int c_generator_requests])), (h0_generator_key, .inl (cy 0, 32, .inl c_generator_key)), (h0_generator_message, .inl (cy 0, 97, .inl c_generator_message)), (h0_generator_value, .inl (cy 0, 32, .inl c_generator_value)), (h0_sha, .inr (9, [.ref h0_sha_sums, .ref h0_sha_schedule, .ref h0_sha_inner, .int c_sha_filled, .int c_sha_total])), (h0_sha_inner, .inl (cy 0, 32, .inl c_sha_inner)), (h0_sha_schedule, .inl (cy 1, 64, .inl c_sha_schedule)), (h0_sha_sums, .inl (cy 1, 8, .inl c_sha_sums)), (h0_work, .inl (cy 0, 64, .inl c_work_3))]) H := by rw [e_]; exact hP
  replace hD : va_D A ([(h0, .inr (8, [.ref h0_aes, .ref h0_modes, .ref h0_gcm, .ref h0_sha, .ref h0_generator, .ref h0_key, .ref h0_work])), (h0_generator, .inr (5, [.ref h0_sha, .ref h0_generator_key, .ref h0_generator_value, .ref h0_generator_message, .int c_generator_begun, .int c_generator_requests])), (h0_generator_key, .inl (cy 0, 32, .inl c_generator_key)), (h0_generator_message, .inl (cy 0, 97, .inl c_generator_message)), (h0_generator_value, .inl (cy 0, 32, .inl c_generator_value)), (h0_sha, .inr (9, [.ref h0_sha_sums, .ref h0_sha_schedule, .ref h0_sha_inner, .int c_sha_filled, .int c_sha_total])), (h0_sha_inner, .inl (cy 0, 32, .inl c_sha_inner)), (h0_sha_schedule, .inl (cy 1, 64, .inl c_sha_schedule)), (h0_sha_sums, .inl (cy 1, 8, .inl c_sha_sums)), (h0_work, .inl (cy 0, 64, .inl c_work_3))]) := by rw [e_]; exact hD
  clear e_
  refine lv_aload_n (pc := 28) hx hb (zdt_at zt_X6_drawOnce_0 17 rfl) rfl (lv_at hl 0 rfl) ?_
  refine va_get (pc := 29) (D := D) (ci := 8) (v := .ref h0_generator) (C := RX6) (T := TX6) (N := 7) hx hb hts hcX6 hown hK hP 0 rfl rfl 4 (by decide) hw3 (fun _ h9 => h9) rfl (zdt_at zt_X6_drawOnce_0 18 rfl) ?_
  replace hf := zb_s hf
  obtain ⟨⟨c_generator_begun_4, c_generator_key_5, c_generator_value_6⟩, hc_, hf⟩ := hf
  refine zcn2 (pc := 32) (rv := none) (va_runV (As := []) (rest := []) ⟨hx, hb, hml, hown, hts⟩ (c_X3_forget l D cy tt H.size h0_generator h0_sha h0_generator_key h0_generator_value h0_generator_message c_generator_begun c_generator_key c_generator_value c_generator_requests c_generator_begun_4 c_generator_key_5 c_generator_value_6 hc_) (cwV 0 hts gX6_drawOnce_X3_forget rfl rfl rfl (by decide +kernel) ⟨Nat.le_of_ble_eq_true rfl, Nat.le_of_ble_eq_true rfl⟩) ⟨zblind, va_recv hK hP (ci := 5) (q0 := 1) rfl rfl, zpre hE hS (hP.sub [1, 2, 4] rfl) (hD.sub [1, 2, 4] (by decide) rfl) (va_free hD hS hA [1, 2, 4] rfl)⟩ rfl rfl hl.1 rfl (lv_room (Nat.le_of_ble_eq_true rfl)) (zdt_at zt_X6_drawOnce_0 19 rfl) ⟨Nat.zero_le _, Nat.zero_le _⟩) hS hP hD (va_free hD hS hA [1, 2, 4] rfl) [1, 2, 4] rfl (by decide) rfl ?_
  clear hP hD hS hc_
  intro H locs hP hD hS
  replace hP : va_P D vwCl ([(h0, .inr (8, [.ref h0_aes, .ref h0_modes, .ref h0_gcm, .ref h0_sha, .ref h0_generator, .ref h0_key, .ref h0_work])), (h0_generator, .inr (5, [.ref h0_sha, .ref h0_generator_key, .ref h0_generator_value, .ref h0_generator_message, .int c_generator_begun_4, .int c_generator_requests])), (h0_generator_key, .inl (cy 0, 32, .inl c_generator_key_5)), (h0_generator_message, .inl (cy 0, 97, .inl c_generator_message)), (h0_generator_value, .inl (cy 0, 32, .inl c_generator_value_6)), (h0_sha, .inr (9, [.ref h0_sha_sums, .ref h0_sha_schedule, .ref h0_sha_inner, .int c_sha_filled, .int c_sha_total])), (h0_sha_inner, .inl (cy 0, 32, .inl c_sha_inner)), (h0_sha_schedule, .inl (cy 1, 64, .inl c_sha_schedule)), (h0_sha_sums, .inl (cy 1, 8, .inl c_sha_sums)), (h0_work, .inl (cy 0, 64, .inl c_work_3))]) H := hP
  replace hD : va_D A ([(h0, .inr (8, [.ref h0_aes, .ref h0_modes, .ref h0_gcm, .ref h0_sha, .ref h0_generator, .ref h0_key, .ref h0_work])), (h0_generator, .inr (5, [.ref h0_sha, .ref h0_generator_key, .ref h0_generator_value, .ref h0_generator_message, .int c_generator_begun_4, .int c_generator_requests])), (h0_generator_key, .inl (cy 0, 32, .inl c_generator_key_5)), (h0_generator_message, .inl (cy 0, 97, .inl c_generator_message)), (h0_generator_value, .inl (cy 0, 32, .inl c_generator_value_6)), (h0_sha, .inr (9, [.ref h0_sha_sums, .ref h0_sha_schedule, .ref h0_sha_inner, .int c_sha_filled, .int c_sha_total])), (h0_sha_inner, .inl (cy 0, 32, .inl c_sha_inner)), (h0_sha_schedule, .inl (cy 1, 64, .inl c_sha_schedule)), (h0_sha_sums, .inl (cy 1, 8, .inl c_sha_sums)), (h0_work, .inl (cy 0, 64, .inl c_work_3))]) := hD
  refine W.eq (g2 := F0 m 35 ls []) rfl ?_
  refine lv_aload_n (pc := 35) hx hb (zdt_at zt_X6_drawOnce_0 20 rfl) rfl (lv_at hl 0 rfl) ?_
  refine va_get (pc := 36) (D := D) (ci := 8) (v := .ref h0_generator) (C := RX6) (T := TX6) (N := 7) hx hb hts hcX6 hown hK hP 0 rfl rfl 4 (by decide) hw3 (fun _ h9 => h9) rfl (zdt_at zt_X6_drawOnce_0 21 rfl) ?_
  refine lv_aload_n (pc := 39) hx hb (zdt_at zt_X6_drawOnce_0 22 rfl) rfl (lv_at hl 0 rfl) ?_
  refine va_get (pc := 40) (D := D) (ci := 8) (v := .ref h0_work) (C := RX6) (T := TX6) (N := 7) hx hb hts hcX6 hown hK hP 0 rfl rfl 6 (by decide) hw2 (fun _ h9 => h9) rfl (zdt_at zt_X6_drawOnce_0 23 rfl) ?_
  refine lv_bipush (pc := 43) (v := (48 : Int32)) hx hb (zdt_at zt_X6_drawOnce_0 24 rfl) (by decide) ?_
  replace hf := zb_s hf
  obtain ⟨⟨c_generator_begun_7, c_generator_requests_8, c_generator_key_9, c_generator_message_10, c_sha_filled_11, c_sha_total_12, c_sha_inner_13, c_sha_schedule_14, c_sha_sums_15, c_generator_value_16⟩, hc_, hf⟩ := hf
  refine zcn2 (pc := 45) (rv := none) (va_runV (As := [.ref h0_work, .int (48 : Int32)]) (rest := []) ⟨hx, hb, hml, hown, hts⟩ (c_X3_feed l D cy tt H.size h0_generator h0_sha h0_generator_key h0_generator_value h0_generator_message h0_sha_sums h0_sha_schedule h0_sha_inner h0_work 64 (48 : Int32) c_generator_begun_4 c_generator_requests c_generator_key_5 c_generator_message c_sha_filled c_sha_total c_sha_inner c_sha_schedule c_sha_sums c_generator_value_6 c_work_3 c_generator_begun_7 c_generator_requests_8 c_generator_key_9 c_generator_message_10 c_sha_filled_11 c_sha_total_12 c_sha_inner_13 c_sha_schedule_14 c_sha_sums_15 c_generator_value_16 hc_) (cwV 2 hts gX6_drawOnce_X3_feed rfl rfl rfl (by decide +kernel) ⟨Nat.le_of_ble_eq_true rfl, Nat.le_of_ble_eq_true rfl⟩) ⟨zblind, va_recv hK hP (ci := 5) (q0 := 1) rfl rfl, zpre hE hS (hP.sub [1, 2, 3, 5, 6, 7, 8, 4, 9] rfl) (hD.sub [1, 2, 3, 5, 6, 7, 8, 4, 9] (by decide) rfl) (va_free hD hS hA [1, 2, 3, 5, 6, 7, 8, 4, 9] rfl)⟩ rfl rfl hl.1 rfl (lv_room (Nat.le_of_ble_eq_true rfl)) (zdt_at zt_X6_drawOnce_0 25 rfl) ⟨Nat.zero_le _, Nat.zero_le _⟩) hS hP hD (va_free hD hS hA [1, 2, 3, 5, 6, 7, 8, 4, 9] rfl) [1, 2, 3, 5, 6, 7, 8, 4, 9] rfl (by decide) rfl ?_
  clear hP hD hS hc_
  intro H locs hP hD hS
  replace hP : va_P D vwCl ([(h0, .inr (8, [.ref h0_aes, .ref h0_modes, .ref h0_gcm, .ref h0_sha, .ref h0_generator, .ref h0_key, .ref h0_work])), (h0_generator, .inr (5, [.ref h0_sha, .ref h0_generator_key, .ref h0_generator_value, .ref h0_generator_message, .int c_generator_begun_7, .int c_generator_requests_8])), (h0_generator_key, .inl (cy 0, 32, .inl c_generator_key_9)), (h0_generator_message, .inl (cy 0, 97, .inl c_generator_message_10)), (h0_generator_value, .inl (cy 0, 32, .inl c_generator_value_16)), (h0_sha, .inr (9, [.ref h0_sha_sums, .ref h0_sha_schedule, .ref h0_sha_inner, .int c_sha_filled_11, .int c_sha_total_12])), (h0_sha_inner, .inl (cy 0, 32, .inl c_sha_inner_13)), (h0_sha_schedule, .inl (cy 1, 64, .inl c_sha_schedule_14)), (h0_sha_sums, .inl (cy 1, 8, .inl c_sha_sums_15)), (h0_work, .inl (cy 0, 64, .inl c_work_3))]) H := hP
  replace hD : va_D A ([(h0, .inr (8, [.ref h0_aes, .ref h0_modes, .ref h0_gcm, .ref h0_sha, .ref h0_generator, .ref h0_key, .ref h0_work])), (h0_generator, .inr (5, [.ref h0_sha, .ref h0_generator_key, .ref h0_generator_value, .ref h0_generator_message, .int c_generator_begun_7, .int c_generator_requests_8])), (h0_generator_key, .inl (cy 0, 32, .inl c_generator_key_9)), (h0_generator_message, .inl (cy 0, 97, .inl c_generator_message_10)), (h0_generator_value, .inl (cy 0, 32, .inl c_generator_value_16)), (h0_sha, .inr (9, [.ref h0_sha_sums, .ref h0_sha_schedule, .ref h0_sha_inner, .int c_sha_filled_11, .int c_sha_total_12])), (h0_sha_inner, .inl (cy 0, 32, .inl c_sha_inner_13)), (h0_sha_schedule, .inl (cy 1, 64, .inl c_sha_schedule_14)), (h0_sha_sums, .inl (cy 1, 8, .inl c_sha_sums_15)), (h0_work, .inl (cy 0, 64, .inl c_work_3))]) := hD
  refine W.eq (g2 := F0 m 48 ls []) rfl ?_
  refine lv_aload_n (pc := 48) hx hb (zdt_at zt_X6_drawOnce_0 26 rfl) rfl (lv_at hl 0 rfl) ?_
  refine va_get (pc := 49) (D := D) (ci := 8) (v := .ref h0_generator) (C := RX6) (T := TX6) (N := 7) hx hb hts hcX6 hown hK hP 0 rfl rfl 4 (by decide) hw3 (fun _ h9 => h9) rfl (zdt_at zt_X6_drawOnce_0 27 rfl) ?_
  refine lv_aload_n (pc := 52) hx hb (zdt_at zt_X6_drawOnce_0 28 rfl) rfl (lv_at hl 0 rfl) ?_
  refine va_get (pc := 53) (D := D) (ci := 8) (v := .ref h0_work) (C := RX6) (T := TX6) (N := 7) hx hb hts hcX6 hown hK hP 0 rfl rfl 6 (by decide) hw2 (fun _ h9 => h9) rfl (zdt_at zt_X6_drawOnce_0 29 rfl) ?_
  refine lv_iconst (pc := 56) (v := (0 : Int32)) hx hb (zdt_at zt_X6_drawOnce_0 30 rfl) (by decide) ?_
  refine lv_aload_n (pc := 57) hx hb (zdt_at zt_X6_drawOnce_0 31 rfl) rfl (lv_at hl 2 rfl) ?_
  refine lv_iconst (pc := 58) (v := (0 : Int32)) hx hb (zdt_at zt_X6_drawOnce_0 32 rfl) (by decide) ?_
  refine lv_bipush (pc := 59) (v := (32 : Int32)) hx hb (zdt_at zt_X6_drawOnce_0 33 rfl) (by decide) ?_
  replace hf := zb_s hf
  obtain ⟨⟨c_generator_requests_17, c_generator_key_18, c_generator_message_19, c_sha_filled_20, c_sha_total_21, c_sha_inner_22, c_sha_schedule_23, c_sha_sums_24, c_generator_value_25, c_work_26⟩, hc_, hf⟩ := hf
  refine zcn2 (pc := 61) (rv := none) (va_runV (As := [.ref h0_work, .int (0 : Int32), .ref h0_work, .int (0 : Int32), .int (32 : Int32)]) (rest := []) ⟨hx, hb, hml, hown, hts⟩ (c_X3_answer_3a1 l D cy tt H.size h0_generator h0_sha h0_generator_key h0_generator_value h0_generator_message h0_sha_sums h0_sha_schedule h0_sha_inner h0_work 64 (0 : Int32) (0 : Int32) (32 : Int32) c_generator_requests_8 c_generator_key_9 c_generator_message_10 c_sha_filled_11 c_sha_total_12 c_sha_inner_13 c_sha_schedule_14 c_sha_sums_15 c_generator_value_16 c_work_3 c_generator_begun_7 c_generator_requests_17 c_generator_key_18 c_generator_message_19 c_sha_filled_20 c_sha_total_21 c_sha_inner_22 c_sha_schedule_23 c_sha_sums_24 c_generator_value_25 c_work_26 hc_) (cwV 5 hts gX6_drawOnce_X3_answer rfl rfl rfl (by decide +kernel) ⟨Nat.le_of_ble_eq_true rfl, Nat.le_of_ble_eq_true rfl⟩) ⟨zblind, va_recv hK hP (ci := 5) (q0 := 1) rfl rfl, zpre hE hS (hP.sub [1, 2, 3, 5, 6, 7, 8, 4, 9] rfl) (hD.sub [1, 2, 3, 5, 6, 7, 8, 4, 9] (by decide) rfl) (va_free hD hS hA [1, 2, 3, 5, 6, 7, 8, 4, 9] rfl)⟩ rfl rfl hl.1 rfl (lv_room (Nat.le_of_ble_eq_true rfl)) (zdt_at zt_X6_drawOnce_0 34 rfl) ⟨Nat.zero_le _, Nat.zero_le _⟩) hS hP hD (va_free hD hS hA [1, 2, 3, 5, 6, 7, 8, 4, 9] rfl) [1, 2, 3, 5, 6, 7, 8, 4, 9] rfl (by decide) rfl ?_
  clear hP hD hS hc_
  intro H locs hP hD hS
  replace hP : va_P D vwCl ([(h0, .inr (8, [.ref h0_aes, .ref h0_modes, .ref h0_gcm, .ref h0_sha, .ref h0_generator, .ref h0_key, .ref h0_work])), (h0_generator, .inr (5, [.ref h0_sha, .ref h0_generator_key, .ref h0_generator_value, .ref h0_generator_message, .int c_generator_begun_7, .int c_generator_requests_17])), (h0_generator_key, .inl (cy 0, 32, .inl c_generator_key_18)), (h0_generator_message, .inl (cy 0, 97, .inl c_generator_message_19)), (h0_generator_value, .inl (cy 0, 32, .inl c_generator_value_25)), (h0_sha, .inr (9, [.ref h0_sha_sums, .ref h0_sha_schedule, .ref h0_sha_inner, .int c_sha_filled_20, .int c_sha_total_21])), (h0_sha_inner, .inl (cy 0, 32, .inl c_sha_inner_22)), (h0_sha_schedule, .inl (cy 1, 64, .inl c_sha_schedule_23)), (h0_sha_sums, .inl (cy 1, 8, .inl c_sha_sums_24)), (h0_work, .inl (cy 0, 64, .inl c_work_26))]) H := hP
  replace hD : va_D A ([(h0, .inr (8, [.ref h0_aes, .ref h0_modes, .ref h0_gcm, .ref h0_sha, .ref h0_generator, .ref h0_key, .ref h0_work])), (h0_generator, .inr (5, [.ref h0_sha, .ref h0_generator_key, .ref h0_generator_value, .ref h0_generator_message, .int c_generator_begun_7, .int c_generator_requests_17])), (h0_generator_key, .inl (cy 0, 32, .inl c_generator_key_18)), (h0_generator_message, .inl (cy 0, 97, .inl c_generator_message_19)), (h0_generator_value, .inl (cy 0, 32, .inl c_generator_value_25)), (h0_sha, .inr (9, [.ref h0_sha_sums, .ref h0_sha_schedule, .ref h0_sha_inner, .int c_sha_filled_20, .int c_sha_total_21])), (h0_sha_inner, .inl (cy 0, 32, .inl c_sha_inner_22)), (h0_sha_schedule, .inl (cy 1, 64, .inl c_sha_schedule_23)), (h0_sha_sums, .inl (cy 1, 8, .inl c_sha_sums_24)), (h0_work, .inl (cy 0, 64, .inl c_work_26))]) := hD
  refine W.eq (g2 := F0 m 64 ls []) rfl ?_
  cases hf
  exact W.vret (pc := 64) hx hb hr (fun t ht hW => ⟨rfl, ⟨by rw [ht]; exact hP, hD⟩, hS.F ht⟩) hS.2.2 (zdt_at zt_X6_drawOnce_0 35 rfl)
set_option maxHeartbeats 4000000 in
set_option maxRecDepth 100000 in
theorem c_X6_setKey (l : Launch) (D : va_G) (cy : Nat → ClassId) (tt : Nat → Nat) (sz : Nat) (h0 : Nat) (h0_aes : Nat) (h0_modes : Nat) (h0_gcm : Nat) (h0_sha : Nat) (h0_generator : Nat) (h0_key : Nat) (h0_work : Nat) (h0_aes_keys : Nat) (t1 : Nat) (t1f : Nat → Int64) (t1n : Nat) (p2 : Int32) (c_aes_rounds : Int32) (c_aes_keys : Nat → Int32) (c_key : Nat → Int32) (qa_t1 : String) (qb_t1 : String) (qc_t1 : String) (c_aes_rounds' : Int32) (c_aes_keys' : Nat → Int32) (c_key' : Nat → Int32) (ht_t1 : gTab[t1]? = some (qa_t1, qb_t1, qc_t1, .long, t1n, fun j => .long (t1f j))) (hf : f_X6_setKey t1 t1f t1n p2 c_aes_rounds c_aes_keys c_key = some (c_aes_rounds', c_aes_keys', c_key')) : Met l yX6_setKey wsX6_setKey ({ frames := 2, cells := 0, slots := 0, locals := 51 }) (zPc D cy tt sz [.ref h0, .ref (tt t1), .int p2] ([(h0, .inr (8, [.ref h0_aes, .ref h0_modes, .ref h0_gcm, .ref h0_sha, .ref h0_generator, .ref h0_key, .ref h0_work])), (h0_aes, .inr (2, [.ref h0_aes_keys, .int c_aes_rounds])), (h0_aes_keys, .inl (cy 1, 60, .inl c_aes_keys)), (h0_key, .inl (cy 0, 32, .inl c_key))])) (zQ D none ([(h0, .inr (8, [.ref h0_aes, .ref h0_modes, .ref h0_gcm, .ref h0_sha, .ref h0_generator, .ref h0_key, .ref h0_work])), (h0_aes, .inr (2, [.ref h0_aes_keys, .int c_aes_rounds'])), (h0_aes_keys, .inl (cy 1, 60, .inl c_aes_keys')), (h0_key, .inl (cy 0, 32, .inl c_key'))]) (va_A ([(h0, .inr (8, [.ref h0_aes, .ref h0_modes, .ref h0_gcm, .ref h0_sha, .ref h0_generator, .ref h0_key, .ref h0_work])), (h0_aes, .inr (2, [.ref h0_aes_keys, .int c_aes_rounds])), (h0_aes_keys, .inl (cy 1, 60, .inl c_aes_keys)), (h0_key, .inl (cy 0, 32, .inl c_key))]) sz)) 0 0 (va_A ([(h0, .inr (8, [.ref h0_aes, .ref h0_modes, .ref h0_gcm, .ref h0_sha, .ref h0_generator, .ref h0_key, .ref h0_work])), (h0_aes, .inr (2, [.ref h0_aes_keys, .int c_aes_rounds])), (h0_aes_keys, .inl (cy 1, 60, .inl c_aes_keys)), (h0_key, .inl (cy 0, 32, .inl c_key))]) sz) := by
  refine Met.ofW (cc := cX6_setKey) (maxL := 4) (ret := none) (by decide) rfl ?_
  intro p e s m args below meth c s₁ B hml hv
  obtain ⟨rfl, rfl, hP, hD0, hE⟩ := hv
  have hx := B.exec
  have hb := B.bytes
  have hr := B.returns
  have hts := atoms_spec (ws := wsX6_setKey) B.pre
  have hown : s.vm.findClass RX6 = some m.cls := findClass_of_methodNamed B.named
  have hlocks := B.notSynchronized
  clear B
  have hD := hD0.self (sz := s.heap.size)
  generalize hAe : va_A ([(h0, .inr (8, [.ref h0_aes, .ref h0_modes, .ref h0_gcm, .ref h0_sha, .ref h0_generator, .ref h0_key, .ref h0_work])), (h0_aes, .inr (2, [.ref h0_aes_keys, .int c_aes_rounds])), (h0_aes_keys, .inl (cy 1, 60, .inl c_aes_keys)), (h0_key, .inl (cy 0, 32, .inl c_key))]) s.heap.size = A at hD hE ⊢
  have hA : ∀ q : Nat, s.heap.size ≤ q → A q := fun q h => by rw [← hAe]; exact Or.inr h
  clear hAe hD0
  have hS : va_S A s.heap s.heap [] := va_S.rf
  have hK := hE.1
  have hw0 := hts (.fieldLink RX6 18 "SealedModule$SelfTests" "aes" "LSealedModule$Aes;") (by decide +kernel)
  have hw1 := hts (.fieldLink RX6 9 "SealedModule$SelfTests" "key" "[B") (by decide +kernel)
  have hw2 := hts (.initialized RX9) (by decide +kernel)
  have hw3 := hts (.static yX9_putLong) (by decide +kernel)
  have hcX6 : ∀ w ∈ u_ws RX6 TX6 7, w ∈ wsX6_setKey := (fun _ h => List.mem_cons_of_mem _ (List.mem_append_left _ (List.mem_append_right _ h)))
  have hl := lv_entry ([.ref h0, .ref (tt t1), .int p2]) (n := 4) (Nat.le_of_ble_eq_true rfl)
  rw [lg_entry_eq]
  generalize (lg_sl ([.ref h0, .ref (tt t1), .int p2]) ++ List.replicate (4 - (lg_sl ([.ref h0, .ref (tt t1), .int p2])).length) Slot.unset).toArray = ls at hl ⊢
  replace hl : lv_has ls 4 [(0, .ref h0), (1, .ref (tt t1)), (2, .int p2)] := hl
  unfold f_X6_setKey at hf
  refine zgo (fun GW hTo hFr => ?_)
  refine hFr _ _ _ ?_
  obtain ⟨H, hHe⟩ : ∃ H, H = s.heap := ⟨_, rfl⟩
  obtain ⟨locs, hLe⟩ : ∃ L : List Loc, L = [] := ⟨_, rfl⟩
  rw [← hHe] at hP
  replace hS : va_S A s.heap H locs := by rw [hHe, hLe]; exact hS
  refine zat hHe.symm hLe.symm ?_
  clear hHe hLe
  refine lv_iconst (pc := 0) (v := (0 : Int32)) hx hb (zdt_at zt_X6_setKey_0 0 rfl) (by decide) ?_
  refine lv_istore_n (pc := 1) (lv' := [(3, .int (0 : Int32)), (0, .ref h0), (1, .ref (tt t1)), (2, .int p2)]) hx hb (zdt_at zt_X6_setKey_0 1 rfl) rfl hl (by decide) rfl ?_
  clear hl
  intro ls hl
  replace hf := zj_s hf
  obtain ⟨K_4, eK_4, hf⟩ := hf
  have kK_4 : ∀ (c_key_3 : Nat → Int32) (H : Heap) (locs : List Loc) (ls : Array Slot), va_P D vwCl ([(h0, .inr (8, [.ref h0_aes, .ref h0_modes, .ref h0_gcm, .ref h0_sha, .ref h0_generator, .ref h0_key, .ref h0_work])), (h0_aes, .inr (2, [.ref h0_aes_keys, .int c_aes_rounds])), (h0_aes_keys, .inl (cy 1, 60, .inl c_aes_keys)), (h0_key, .inl (cy 0, 32, .inl c_key_3))]) H → va_D A ([(h0, .inr (8, [.ref h0_aes, .ref h0_modes, .ref h0_gcm, .ref h0_sha, .ref h0_generator, .ref h0_key, .ref h0_work])), (h0_aes, .inr (2, [.ref h0_aes_keys, .int c_aes_rounds])), (h0_aes_keys, .inl (cy 1, 60, .inl c_aes_keys)), (h0_key, .inl (cy 0, 32, .inl c_key_3))]) → va_S A s.heap H locs → lv_has ls 4 [(0, .ref h0), (2, .int p2)] → K_4 c_key_3 = some (c_aes_rounds', c_aes_keys', c_key') → GW H locs (F0 m 30 ls []) := by
    clear hf hl hP hD hS
    intro c_key_3 H locs ls hP hD hS hl hf
    rw [eK_4] at hf
    clear eK_4
    refine hFr _ _ _ ?_
    refine lv_aload_n (pc := 30) hx hb (zdt_at zt_X6_setKey_0 18 rfl) rfl (lv_at hl 0 rfl) ?_
    refine va_get (pc := 31) (D := D) (ci := 8) (v := .ref h0_aes) (C := RX6) (T := TX6) (N := 7) hx hb hts hcX6 hown hK hP 0 rfl rfl 0 (by decide) hw0 (fun _ h9 => h9) rfl (zdt_at zt_X6_setKey_0 19 rfl) ?_
    refine lv_aload_n (pc := 34) hx hb (zdt_at zt_X6_setKey_0 20 rfl) rfl (lv_at hl 0 rfl) ?_
    refine va_get (pc := 35) (D := D) (ci := 8) (v := .ref h0_key) (C := RX6) (T := TX6) (N := 7) hx hb hts hcX6 hown hK hP 0 rfl rfl 5 (by decide) hw1 (fun _ h9 => h9) rfl (zdt_at zt_X6_setKey_0 21 rfl) ?_
    refine lv_iload_n (pc := 38) hx hb (zdt_at zt_X6_setKey_0 22 rfl) rfl (lv_at hl 1 rfl) ?_
    replace hf := zb_s hf
    obtain ⟨⟨c_aes_rounds_5, c_aes_keys_6⟩, hc_, hf⟩ := hf
    refine zcn2 (pc := 39) (rv := none) (va_runV (As := [.ref h0_key, .int p2]) (rest := []) ⟨hx, hb, hml, hown, hts⟩ (c_X0_setKey l D cy tt H.size h0_aes h0_aes_keys h0_key 32 p2 c_aes_rounds c_aes_keys c_key_3 c_aes_rounds_5 c_aes_keys_6 hc_) (cwV 2 hts gX6_setKey_X0_setKey rfl rfl rfl (by decide +kernel) ⟨Nat.le_of_ble_eq_true rfl, Nat.le_of_ble_eq_true rfl⟩) ⟨zblind, va_recv hK hP (ci := 2) (q0 := 1) rfl rfl, zpre hE hS (hP.sub [1, 2, 3] rfl) (hD.sub [1, 2, 3] (by decide) rfl) (va_free hD hS hA [1, 2, 3] rfl)⟩ rfl rfl hl.1 rfl (lv_room (Nat.le_of_ble_eq_true rfl)) (zdt_at zt_X6_setKey_0 23 rfl) ⟨Nat.zero_le _, Nat.zero_le _⟩) hS hP hD (va_free hD hS hA [1, 2, 3] rfl) [1, 2, 3] rfl (by decide) rfl ?_
    clear hP hD hS hc_
    intro H locs hP hD hS
    replace hP : va_P D vwCl ([(h0, .inr (8, [.ref h0_aes, .ref h0_modes, .ref h0_gcm, .ref h0_sha, .ref h0_generator, .ref h0_key, .ref h0_work])), (h0_aes, .inr (2, [.ref h0_aes_keys, .int c_aes_rounds_5])), (h0_aes_keys, .inl (cy 1, 60, .inl c_aes_keys_6)), (h0_key, .inl (cy 0, 32, .inl c_key_3))]) H := hP
    replace hD : va_D A ([(h0, .inr (8, [.ref h0_aes, .ref h0_modes, .ref h0_gcm, .ref h0_sha, .ref h0_generator, .ref h0_key, .ref h0_work])), (h0_aes, .inr (2, [.ref h0_aes_keys, .int c_aes_rounds_5])), (h0_aes_keys, .inl (cy 1, 60, .inl c_aes_keys_6)), (h0_key, .inl (cy 0, 32, .inl c_key_3))]) := hD
    refine W.eq (g2 := F0 m 42 ls []) rfl ?_
    cases hf
    exact W.vret (pc := 42) hx hb hr (fun t ht hW => ⟨rfl, ⟨by rw [ht]; exact hP, hD⟩, hS.F ht⟩) hS.2.2 (zdt_at zt_X6_setKey_0 24 rfl)
  clear eK_4
  refine hTo _ _ _ (zl_go (fun z => match z with | (i_1, c_key_2) => ∀ (H : Heap) (locs : List Loc) (ls : Array Slot), va_P D vwCl ([(h0, .inr (8, [.ref h0_aes, .ref h0_modes, .ref h0_gcm, .ref h0_sha, .ref h0_generator, .ref h0_key, .ref h0_work])), (h0_aes, .inr (2, [.ref h0_aes_keys, .int c_aes_rounds])), (h0_aes_keys, .inl (cy 1, 60, .inl c_aes_keys)), (h0_key, .inl (cy 0, 32, .inl c_key_2))]) H → va_D A ([(h0, .inr (8, [.ref h0_aes, .ref h0_modes, .ref h0_gcm, .ref h0_sha, .ref h0_generator, .ref h0_key, .ref h0_work])), (h0_aes, .inr (2, [.ref h0_aes_keys, .int c_aes_rounds])), (h0_aes_keys, .inl (cy 1, 60, .inl c_aes_keys)), (h0_key, .inl (cy 0, 32, .inl c_key_2))]) → va_S A s.heap H locs → lv_has ls 4 [(0, .ref h0), (1, .ref (tt t1)), (2, .int p2), (3, .int i_1)] → GW H locs (F0 m 2 ls [])) hf ?_ H locs ls hP hD hS (lv_sub hl [1, 2, 3, 0] rfl))
  clear hf hl hP hD hS
  intro self_7 ihself_7 z hf
  obtain ⟨i_1, c_key_2⟩ := z
  intro H locs ls hP hD hS hl
  refine hFr _ _ _ ?_
  unfold b_X6_setKey_2 at hf
  refine lv_bipush (pc := 2) (v := (8 : Int32)) hx hb (zdt_at zt_X6_setKey_0 2 rfl) (by decide) ?_
  refine lv_iload_n (pc := 4) hx hb (zdt_at zt_X6_setKey_0 3 rfl) rfl (lv_at hl 3 rfl) ?_
  refine lv_imul (pc := 5) hx hb (zdt_at zt_X6_setKey_0 4 rfl) ?_
  refine lv_iload_n (pc := 6) hx hb (zdt_at zt_X6_setKey_0 5 rfl) rfl (lv_at hl 2 rfl) ?_
  refine lv_icmp_ge (pc := 7) (tgt := 30) hx hb (zdt_at zt_X6_setKey_0 6 rfl) (by decide) (fun cn_ => ?t_8) (fun cn_ => ?f_9)
  case t_8 =>
    replace hf := zt_s cn_ hf
    clear cn_
    exact hTo _ _ _ (kK_4 _ H locs ls hP hD hS (lv_sub hl [0, 2] rfl) hf)
  replace hf := ze_s cn_ hf
  clear cn_
  refine lv_aload_n (pc := 10) hx hb (zdt_at zt_X6_setKey_0 7 rfl) rfl (lv_at hl 0 rfl) ?_
  refine va_get (pc := 11) (D := D) (ci := 8) (v := .ref h0_key) (C := RX6) (T := TX6) (N := 7) hx hb hts hcX6 hown hK hP 0 rfl rfl 5 (by decide) hw1 (fun _ h9 => h9) rfl (zdt_at zt_X6_setKey_0 8 rfl) ?_
  refine lv_bipush (pc := 14) (v := (8 : Int32)) hx hb (zdt_at zt_X6_setKey_0 9 rfl) (by decide) ?_
  refine lv_iload_n (pc := 16) hx hb (zdt_at zt_X6_setKey_0 10 rfl) rfl (lv_at hl 3 rfl) ?_
  refine lv_imul (pc := 17) hx hb (zdt_at zt_X6_setKey_0 11 rfl) ?_
  refine lv_aload_n (pc := 18) hx hb (zdt_at zt_X6_setKey_0 12 rfl) rfl (lv_at hl 1 rfl) ?_
  refine lv_iload_n (pc := 19) hx hb (zdt_at zt_X6_setKey_0 13 rfl) rfl (lv_at hl 3 rfl) ?_
  replace hf := zk_s hf
  refine va_tl (pc := 20) hx hb (hE.2.2 t1 _ ht_t1).2 hS hf.1 (v := .long (t1f i_1.toNatClampNeg)) rfl (zdt_at zt_X6_setKey_0 14 rfl) ?_
  replace hf := hf.2
  replace hf := zb_s hf
  obtain ⟨c_key_10, hc_, hf⟩ := hf
  refine zcn2 (pc := 21) (rv := none) (va_runSN (As := [.ref h0_key, .int ((8 : Int32) * i_1), .long (t1f i_1.toNatClampNeg)]) (rest := []) ⟨hx, hb, hml, hown, hts⟩ (c_X9_putLong l D cy tt H.size h0_key 32 ((8 : Int32) * i_1) (t1f i_1.toNatClampNeg) c_key_2 c_key_10 hc_) ⟨va_cnB 3 hts gX6_setKey_X9_putLong_n182 rfl rfl rfl (gNs_12 hE.2.1) hw2 (by decide +kernel) ⟨Nat.le_of_ble_eq_true rfl, Nat.le_of_ble_eq_true rfl⟩, hw3, trivial⟩ ⟨zblind, zpre hE hS (hP.sub [3] rfl) (hD.sub [3] (by decide) rfl) (va_free hD hS hA [3] rfl)⟩ rfl rfl hl.1 rfl (lv_room (Nat.le_of_ble_eq_true rfl)) (zdt_at zt_X6_setKey_0 15 rfl) ⟨Nat.zero_le _, Nat.zero_le _⟩) hS hP hD (va_free hD hS hA [3] rfl) [3] rfl (by decide) rfl ?_
  clear hP hD hS hc_
  intro H locs hP hD hS
  replace hP : va_P D vwCl ([(h0, .inr (8, [.ref h0_aes, .ref h0_modes, .ref h0_gcm, .ref h0_sha, .ref h0_generator, .ref h0_key, .ref h0_work])), (h0_aes, .inr (2, [.ref h0_aes_keys, .int c_aes_rounds])), (h0_aes_keys, .inl (cy 1, 60, .inl c_aes_keys)), (h0_key, .inl (cy 0, 32, .inl c_key_10))]) H := hP
  replace hD : va_D A ([(h0, .inr (8, [.ref h0_aes, .ref h0_modes, .ref h0_gcm, .ref h0_sha, .ref h0_generator, .ref h0_key, .ref h0_work])), (h0_aes, .inr (2, [.ref h0_aes_keys, .int c_aes_rounds])), (h0_aes_keys, .inl (cy 1, 60, .inl c_aes_keys)), (h0_key, .inl (cy 0, 32, .inl c_key_10))]) := hD
  refine W.eq (g2 := F0 m 24 ls []) rfl ?_
  refine lv_iinc (pc := 24) (v := (i_1 + (1 : Int32))) (lv' := [(3, .int (i_1 + (1 : Int32))), (0, .ref h0), (1, .ref (tt t1)), (2, .int p2)]) hx hb (zdt_at zt_X6_setKey_0 16 rfl) hl (k := 3) rfl rfl (by decide) rfl ?_
  clear hl
  intro ls hl
  refine lv_goto (pc := 27) (tgt := 2) hx hb (zdt_at zt_X6_setKey_0 17 rfl) (by decide) ?_
  exact hTo _ _ _ (ihself_7 _ hf H locs ls hP hD hS (lv_sub hl [1, 2, 3, 0] rfl))
set_option maxHeartbeats 4000000 in
set_option maxRecDepth 100000 in
theorem c_X6_stands (l : Launch) (D : va_G) (cy : Nat → ClassId) (tt : Nat → Nat) (sz : Nat) (h0 : Nat) (h0_aes : Nat) (h0_modes : Nat) (h0_gcm : Nat) (h0_sha : Nat) (h0_generator : Nat) (h0_key : Nat) (h0_work : Nat) (t1 : Nat) (t1f : Nat → Int64) (t1n : Nat) (p2 : Int32) (c_work : Nat → Int32) (qa_t1 : String) (qb_t1 : String) (qc_t1 : String) (r_ : Int32) (ht_t1 : gTab[t1]? = some (qa_t1, qb_t1, qc_t1, .long, t1n, fun j => .long (t1f j))) (hf : f_X6_stands t1 t1f t1n p2 c_work = some r_) : Met l yX6_stands wsX6_stands ({ frames := 2, cells := 0, slots := 0, locals := 42 }) (zPc D cy tt sz [.ref h0, .ref (tt t1), .int p2] ([(h0, .inr (8, [.ref h0_aes, .ref h0_modes, .ref h0_gcm, .ref h0_sha, .ref h0_generator, .ref h0_key, .ref h0_work])), (h0_work, .inl (cy 0, 64, .inl c_work))])) (fun _ st o t => o = .returned (some (.int r_)) ∧ t.heap = st.heap) 0 0 (fun _ => False) := by
  refine Met.ofW (cc := cX6_stands) (maxL := 5) (ret := (some .boolean)) (by decide) rfl ?_
  intro p e s m args below meth c s₁ B hml hv
  obtain ⟨rfl, rfl, hP, hD0, hE⟩ := hv
  have hx := B.exec
  have hb := B.bytes
  have hr := B.returns
  have hts := atoms_spec (ws := wsX6_stands) B.pre
  have hown : s.vm.findClass RX6 = some m.cls := findClass_of_methodNamed B.named
  have hlocks := B.notSynchronized
  clear B
  have hD := hD0.self (sz := s.heap.size)
  generalize hAe : va_A ([(h0, .inr (8, [.ref h0_aes, .ref h0_modes, .ref h0_gcm, .ref h0_sha, .ref h0_generator, .ref h0_key, .ref h0_work])), (h0_work, .inl (cy 0, 64, .inl c_work))]) s.heap.size = A at hD hE
  have hA : ∀ q : Nat, s.heap.size ≤ q → A q := fun q h => by rw [← hAe]; exact Or.inr h
  clear hAe hD0
  have hS : va_S A s.heap s.heap [] := va_S.rf
  have hK := hE.1
  have hw0 := hts (.fieldLink RX6 15 "SealedModule$SelfTests" "work" "[B") (by decide +kernel)
  have hw1 := hts (.initialized RX9) (by decide +kernel)
  have hw2 := hts (.static yX9_longAt) (by decide +kernel)
  have hcX6 : ∀ w ∈ u_ws RX6 TX6 7, w ∈ wsX6_stands := (fun _ h => List.mem_cons_of_mem _ (List.mem_append_right _ h))
  have hl := lv_entry ([.ref h0, .ref (tt t1), .int p2]) (n := 5) (Nat.le_of_ble_eq_true rfl)
  rw [lg_entry_eq]
  generalize (lg_sl ([.ref h0, .ref (tt t1), .int p2]) ++ List.replicate (5 - (lg_sl ([.ref h0, .ref (tt t1), .int p2])).length) Slot.unset).toArray = ls at hl ⊢
  replace hl : lv_has ls 5 [(0, .ref h0), (1, .ref (tt t1)), (2, .int p2)] := hl
  unfold f_X6_stands at hf
  refine zgo (fun GW hTo hFr => ?_)
  refine hFr _ _ _ ?_
  refine lv_iconst (pc := 0) (v := (1 : Int32)) hx hb (zdt_at zt_X6_stands_0 0 rfl) (by decide) ?_
  refine lv_istore_n (pc := 1) (lv' := [(3, .int (1 : Int32)), (0, .ref h0), (1, .ref (tt t1)), (2, .int p2)]) hx hb (zdt_at zt_X6_stands_0 1 rfl) rfl hl (by decide) rfl ?_
  clear hl
  intro ls hl
  refine lv_iconst (pc := 2) (v := (0 : Int32)) hx hb (zdt_at zt_X6_stands_0 2 rfl) (by decide) ?_
  refine lv_istore (pc := 3) (lv' := [(4, .int (0 : Int32)), (3, .int (1 : Int32)), (0, .ref h0), (1, .ref (tt t1)), (2, .int p2)]) hx hb (zdt_at zt_X6_stands_0 3 rfl) hl (by decide) rfl ?_
  clear hl
  intro ls hl
  replace hf := zj_s hf
  obtain ⟨K_4, eK_4, hf⟩ := hf
  have kK_4 : ∀ (v_3 : Int32) (ls : Array Slot), lv_has ls 5 [(3, .int v_3)] → K_4 v_3 = some r_ → GW s.heap [] (F0 m 50 ls []) := by
    clear hf hl
    intro v_3 ls hl hf
    rw [eK_4] at hf
    clear eK_4
    refine hFr _ _ _ ?_
    refine lv_iload_n (pc := 50) hx hb (zdt_at zt_X6_stands_0 29 rfl) rfl (lv_at hl 0 rfl) ?_
    replace hf := zk_s hf
    have hv_ := hf.1
    replace hf := hf.2
    cases hf
    exact W.zret (pc := 51) hx hb hr (zz_nar hv_) (fun t ht hW => ⟨rfl, ht⟩) (fun _ h => nomatch h) (zdt_at zt_X6_stands_0 30 rfl)
  clear eK_4
  refine hTo _ _ _ (zl_go (fun z => match z with | (i_1, i_2) => ∀ (ls : Array Slot), lv_has ls 5 [(0, .ref h0), (1, .ref (tt t1)), (2, .int p2), (3, .int i_1), (4, .int i_2)] → GW s.heap [] (F0 m 5 ls [])) hf ?_ ls (lv_sub hl [2, 3, 4, 1, 0] rfl))
  clear hf hl
  intro self_5 ihself_5 z hf
  obtain ⟨i_1, i_2⟩ := z
  intro ls hl
  refine hFr _ _ _ ?_
  unfold b_X6_stands_5 at hf
  refine lv_iload (pc := 5) hx hb (zdt_at zt_X6_stands_0 4 rfl) (lv_at hl 4 rfl) ?_
  refine lv_aload_n (pc := 7) hx hb (zdt_at zt_X6_stands_0 5 rfl) rfl (lv_at hl 1 rfl) ?_
  refine va_tlen (pc := 8) hx hb (hE.2.2 t1 _ ht_t1).2 hS rfl (zdt_at zt_X6_stands_0 6 rfl) ?_
  refine lv_icmp_ge (pc := 9) (tgt := 50) hx hb (zdt_at zt_X6_stands_0 7 rfl) (by decide) (fun cn_ => ?t_6) (fun cn_ => ?f_7)
  case t_6 =>
    replace hf := zt_s cn_ hf
    clear cn_
    exact hTo _ _ _ (kK_4 _ ls (lv_sub hl [3] rfl) hf)
  replace hf := ze_s cn_ hf
  clear cn_
  refine lv_iload_n (pc := 12) hx hb (zdt_at zt_X6_stands_0 8 rfl) rfl (lv_at hl 3 rfl) ?_
  refine lv_if_eq (pc := 13) (tgt := 42) hx hb (zdt_at zt_X6_stands_0 9 rfl) (by decide) (fun cn_ => ?t_8) (fun cn_ => ?f_9)
  case t_8 =>
    replace hf := zt_s cn_ hf
    clear cn_
    refine lv_iconst (pc := 42) (v := (0 : Int32)) hx hb (zdt_at zt_X6_stands_0 25 rfl) (by decide) ?_
    refine lv_istore_n (pc := 43) (lv' := [(3, .int (0 : Int32)), (0, .ref h0), (1, .ref (tt t1)), (2, .int p2), (4, .int i_2)]) hx hb (zdt_at zt_X6_stands_0 26 rfl) rfl hl (by decide) rfl ?_
    clear hl
    intro ls hl
    refine lv_iinc (pc := 44) (v := (i_2 + (1 : Int32))) (lv' := [(4, .int (i_2 + (1 : Int32))), (3, .int (0 : Int32)), (0, .ref h0), (1, .ref (tt t1)), (2, .int p2)]) hx hb (zdt_at zt_X6_stands_0 27 rfl) hl (k := 4) rfl rfl (by decide) rfl ?_
    clear hl
    intro ls hl
    refine lv_goto (pc := 47) (tgt := 5) hx hb (zdt_at zt_X6_stands_0 28 rfl) (by decide) ?_
    exact hTo _ _ _ (ihself_5 _ hf ls (lv_sub hl [2, 3, 4, 1, 0] rfl))
  replace hf := ze_s cn_ hf
  clear cn_
  refine lv_aload_n (pc := 16) hx hb (zdt_at zt_X6_stands_0 10 rfl) rfl (lv_at hl 0 rfl) ?_
  refine va_get (pc := 17) (D := D) (ci := 8) (v := .ref h0_work) (C := RX6) (T := TX6) (N := 7) hx hb hts hcX6 hown hK hP 0 rfl rfl 6 (by decide) hw0 (fun _ h9 => h9) rfl (zdt_at zt_X6_stands_0 11 rfl) ?_
  refine lv_iload_n (pc := 20) hx hb (zdt_at zt_X6_stands_0 12 rfl) rfl (lv_at hl 2 rfl) ?_
  refine lv_bipush (pc := 21) (v := (8 : Int32)) hx hb (zdt_at zt_X6_stands_0 13 rfl) (by decide) ?_
  refine lv_iload (pc := 23) hx hb (zdt_at zt_X6_stands_0 14 rfl) (lv_at hl 4 rfl) ?_
  refine lv_imul (pc := 25) hx hb (zdt_at zt_X6_stands_0 15 rfl) ?_
  refine lv_iadd (pc := 26) hx hb (zdt_at zt_X6_stands_0 16 rfl) ?_
  replace hf := zb_s hf
  obtain ⟨r_10, hc_, hf⟩ := hf
  refine zcs (pc := 27) (rv := (some (.long r_10))) (va_runSN (As := [.ref h0_work, .int (p2 + ((8 : Int32) * i_2))]) (rest := []) ⟨hx, hb, hml, hown, hts⟩ (c_X9_longAt l D cy tt s.heap.size h0_work 64 (p2 + ((8 : Int32) * i_2)) c_work r_10 hc_) ⟨va_cnB 2 hts gX6_stands_X9_longAt_n214 rfl rfl rfl (gNs_13 hE.2.1) hw1 (by decide +kernel) ⟨Nat.le_of_ble_eq_true rfl, Nat.le_of_ble_eq_true rfl⟩, hw2, trivial⟩ ⟨zblind, zpre hE hS (hP.sub [1] rfl) (hD.sub [1] (by decide) rfl) (va_free hD hS hA [1] rfl)⟩ rfl rfl hl.1 rfl (lv_room (Nat.le_of_ble_eq_true rfl)) (zdt_at zt_X6_stands_0 17 rfl) ⟨Nat.zero_le _, Nat.zero_le _⟩) ?_
  clear hc_
  refine W.eq (g2 := F0 m 30 ls [.long r_10]) rfl ?_
  refine lv_aload_n (pc := 30) hx hb (zdt_at zt_X6_stands_0 18 rfl) rfl (lv_at hl 1 rfl) ?_
  refine lv_iload (pc := 31) hx hb (zdt_at zt_X6_stands_0 19 rfl) (lv_at hl 4 rfl) ?_
  replace hf := zk_s hf
  refine va_tl (pc := 33) hx hb (hE.2.2 t1 _ ht_t1).2 hS hf.1 (v := .long (t1f i_2.toNatClampNeg)) rfl (zdt_at zt_X6_stands_0 20 rfl) ?_
  replace hf := hf.2
  refine W.lcmp (pc := 34) hx hb (zdt_at zt_X6_stands_0 21 rfl) ?_
  refine lv_if_ne (pc := 35) (tgt := 42) hx hb (zdt_at zt_X6_stands_0 22 rfl) (by decide) (fun cn_ => ?t_11) (fun cn_ => ?f_12)
  case t_11 =>
    replace hf := ze_s cn_ hf
    clear cn_
    refine lv_iconst (pc := 42) (v := (0 : Int32)) hx hb (zdt_at zt_X6_stands_0 25 rfl) (by decide) ?_
    refine lv_istore_n (pc := 43) (lv' := [(3, .int (0 : Int32)), (0, .ref h0), (1, .ref (tt t1)), (2, .int p2), (4, .int i_2)]) hx hb (zdt_at zt_X6_stands_0 26 rfl) rfl hl (by decide) rfl ?_
    clear hl
    intro ls hl
    refine lv_iinc (pc := 44) (v := (i_2 + (1 : Int32))) (lv' := [(4, .int (i_2 + (1 : Int32))), (3, .int (0 : Int32)), (0, .ref h0), (1, .ref (tt t1)), (2, .int p2)]) hx hb (zdt_at zt_X6_stands_0 27 rfl) hl (k := 4) rfl rfl (by decide) rfl ?_
    clear hl
    intro ls hl
    refine lv_goto (pc := 47) (tgt := 5) hx hb (zdt_at zt_X6_stands_0 28 rfl) (by decide) ?_
    exact hTo _ _ _ (ihself_5 _ hf ls (lv_sub hl [2, 3, 4, 1, 0] rfl))
  replace hf := zt_s cn_ hf
  clear cn_
  refine lv_iconst (pc := 38) (v := (1 : Int32)) hx hb (zdt_at zt_X6_stands_0 23 rfl) (by decide) ?_
  refine lv_goto (pc := 39) (tgt := 43) hx hb (zdt_at zt_X6_stands_0 24 rfl) (by decide) ?_
  refine lv_istore_n (pc := 43) (lv' := [(3, .int (1 : Int32)), (0, .ref h0), (1, .ref (tt t1)), (2, .int p2), (4, .int i_2)]) hx hb (zdt_at zt_X6_stands_0 26 rfl) rfl hl (by decide) rfl ?_
  clear hl
  intro ls hl
  refine lv_iinc (pc := 44) (v := (i_2 + (1 : Int32))) (lv' := [(4, .int (i_2 + (1 : Int32))), (3, .int (1 : Int32)), (0, .ref h0), (1, .ref (tt t1)), (2, .int p2)]) hx hb (zdt_at zt_X6_stands_0 27 rfl) hl (k := 4) rfl rfl (by decide) rfl ?_
  clear hl
  intro ls hl
  refine lv_goto (pc := 47) (tgt := 5) hx hb (zdt_at zt_X6_stands_0 28 rfl) (by decide) ?_
  exact hTo _ _ _ (ihself_5 _ hf ls (lv_sub hl [2, 3, 4, 1, 0] rfl))
set_option maxHeartbeats 4000000 in
set_option maxRecDepth 100000 in
theorem c_X6_wrapRight (l : Launch) (D : va_G) (cy : Nat → ClassId) (tt : Nat → Nat) (sz : Nat) (h0 : Nat) (h0_aes : Nat) (h0_modes : Nat) (h0_gcm : Nat) (h0_sha : Nat) (h0_generator : Nat) (h0_key : Nat) (h0_work : Nat) (h0_aes_keys : Nat) (h0_modes_block : Nat) (h0_modes_pad : Nat) (p1 : Int32) (c_aes_rounds : Int32) (c_aes_keys : Nat → Int32) (c_key : Nat → Int32) (c_modes_block : Nat → Int32) (c_work : Nat → Int32) (r_ : Int32) (c_aes_rounds' : Int32) (c_aes_keys' : Nat → Int32) (c_key' : Nat → Int32) (c_modes_block' : Nat → Int32) (c_work' : Nat → Int32) (hf : f_X6_wrapRight p1 c_aes_rounds c_aes_keys c_key c_modes_block c_work = some (r_, c_aes_rounds', c_aes_keys', c_key', c_modes_block', c_work')) : Met l yX6_wrapRight wsX6_wrapRight ({ frames := 3, cells := 0, slots := 0, locals := 89 }) (zPc D cy tt sz [.ref h0, .int p1] ([(h0, .inr (8, [.ref h0_aes, .ref h0_modes, .ref h0_gcm, .ref h0_sha, .ref h0_generator, .ref h0_key, .ref h0_work])), (h0_aes, .inr (2, [.ref h0_aes_keys, .int c_aes_rounds])), (h0_aes_keys, .inl (cy 1, 60, .inl c_aes_keys)), (h0_key, .inl (cy 0, 32, .inl c_key)), (h0_modes, .inr (6, [.ref h0_aes, .ref h0_modes_block, .ref h0_modes_pad])), (h0_modes_block, .inl (cy 0, 16, .inl c_modes_block)), (h0_work, .inl (cy 0, 64, .inl c_work))])) (zQ D (some (.int r_)) ([(h0, .inr (8, [.ref h0_aes, .ref h0_modes, .ref h0_gcm, .ref h0_sha, .ref h0_generator, .ref h0_key, .ref h0_work])), (h0_aes, .inr (2, [.ref h0_aes_keys, .int c_aes_rounds'])), (h0_aes_keys, .inl (cy 1, 60, .inl c_aes_keys')), (h0_key, .inl (cy 0, 32, .inl c_key')), (h0_modes, .inr (6, [.ref h0_aes, .ref h0_modes_block, .ref h0_modes_pad])), (h0_modes_block, .inl (cy 0, 16, .inl c_modes_block')), (h0_work, .inl (cy 0, 64, .inl c_work'))]) (va_A ([(h0, .inr (8, [.ref h0_aes, .ref h0_modes, .ref h0_gcm, .ref h0_sha, .ref h0_generator, .ref h0_key, .ref h0_work])), (h0_aes, .inr (2, [.ref h0_aes_keys, .int c_aes_rounds])), (h0_aes_keys, .inl (cy 1, 60, .inl c_aes_keys)), (h0_key, .inl (cy 0, 32, .inl c_key)), (h0_modes, .inr (6, [.ref h0_aes, .ref h0_modes_block, .ref h0_modes_pad])), (h0_modes_block, .inl (cy 0, 16, .inl c_modes_block)), (h0_work, .inl (cy 0, 64, .inl c_work))]) sz)) 0 0 (va_A ([(h0, .inr (8, [.ref h0_aes, .ref h0_modes, .ref h0_gcm, .ref h0_sha, .ref h0_generator, .ref h0_key, .ref h0_work])), (h0_aes, .inr (2, [.ref h0_aes_keys, .int c_aes_rounds])), (h0_aes_keys, .inl (cy 1, 60, .inl c_aes_keys)), (h0_key, .inl (cy 0, 32, .inl c_key)), (h0_modes, .inr (6, [.ref h0_aes, .ref h0_modes_block, .ref h0_modes_pad])), (h0_modes_block, .inl (cy 0, 16, .inl c_modes_block)), (h0_work, .inl (cy 0, 64, .inl c_work))]) sz) := by
  refine Met.ofW (cc := cX6_wrapRight) (maxL := 2) (ret := (some .boolean)) (by decide) rfl ?_
  intro p e s m args below meth c s₁ B hml hv
  obtain ⟨rfl, rfl, hP, hD0, hE⟩ := hv
  have hx := B.exec
  have hb := B.bytes
  have hr := B.returns
  have hts := atoms_spec (ws := wsX6_wrapRight) B.pre
  have hown : s.vm.findClass RX6 = some m.cls := findClass_of_methodNamed B.named
  have hlocks := B.notSynchronized
  clear B
  have hD := hD0.self (sz := s.heap.size)
  generalize hAe : va_A ([(h0, .inr (8, [.ref h0_aes, .ref h0_modes, .ref h0_gcm, .ref h0_sha, .ref h0_generator, .ref h0_key, .ref h0_work])), (h0_aes, .inr (2, [.ref h0_aes_keys, .int c_aes_rounds])), (h0_aes_keys, .inl (cy 1, 60, .inl c_aes_keys)), (h0_key, .inl (cy 0, 32, .inl c_key)), (h0_modes, .inr (6, [.ref h0_aes, .ref h0_modes_block, .ref h0_modes_pad])), (h0_modes_block, .inl (cy 0, 16, .inl c_modes_block)), (h0_work, .inl (cy 0, 64, .inl c_work))]) s.heap.size = A at hD hE ⊢
  have hA : ∀ q : Nat, s.heap.size ≤ q → A q := fun q h => by rw [← hAe]; exact Or.inr h
  clear hAe hD0
  have hS : va_S A s.heap s.heap [] := va_S.rf
  have hK := hE.1
  have hw0 := hts (.fieldLink RX6 90 "SealedModule$SelfTests" "COUNTING_KEY" "[J") (by decide +kernel)
  have hw1 := hts (.fieldLink RX6 97 "SealedModule$SelfTests" "DOUBLED_DIGITS" "[J") (by decide +kernel)
  have hw2 := hts (.fieldLink RX6 15 "SealedModule$SelfTests" "work" "[B") (by decide +kernel)
  have hw3 := hts (.fieldLink RX6 22 "SealedModule$SelfTests" "modes" "LSealedModule$Modes;") (by decide +kernel)
  have hw4 := hts (.fieldLink RX6 199 "SealedModule$SelfTests" "WRAP_ANSWER" "[J") (by decide +kernel)
  have hcX6 : ∀ w ∈ u_ws RX6 TX6 7, w ∈ wsX6_wrapRight := (fun _ h => List.mem_cons_of_mem _ (List.mem_append_left _ (List.mem_append_left _ (List.mem_append_right _ h))))
  have hl := lv_entry ([.ref h0, .int p1]) (n := 2) (Nat.le_of_ble_eq_true rfl)
  rw [lg_entry_eq]
  generalize (lg_sl ([.ref h0, .int p1]) ++ List.replicate (2 - (lg_sl ([.ref h0, .int p1])).length) Slot.unset).toArray = ls at hl ⊢
  replace hl : lv_has ls 2 [(0, .ref h0), (1, .int p1)] := hl
  unfold f_X6_wrapRight at hf
  refine zgo (fun GW hTo hFr => ?_)
  refine hFr _ _ _ ?_
  obtain ⟨H, hHe⟩ : ∃ H, H = s.heap := ⟨_, rfl⟩
  obtain ⟨locs, hLe⟩ : ∃ L : List Loc, L = [] := ⟨_, rfl⟩
  rw [← hHe] at hP
  replace hS : va_S A s.heap H locs := by rw [hHe, hLe]; exact hS
  refine zat hHe.symm hLe.symm ?_
  clear hHe hLe
  refine lv_aload_n (pc := 0) hx hb (zdt_at zt_X6_wrapRight_0 0 rfl) rfl (lv_at hl 0 rfl) ?_
  refine va_gets (pc := 1) hx hb (gT_4 hE.2.2).1 hS hown hw0 (fun _ h9 => h9) (zdt_at zt_X6_wrapRight_0 1 rfl) ?_
  refine lv_bipush (pc := 4) (v := (16 : Int32)) hx hb (zdt_at zt_X6_wrapRight_0 2 rfl) (by decide) ?_
  replace hf := zb_s hf
  obtain ⟨⟨c_aes_rounds_1, c_aes_keys_2, c_key_3⟩, hc_, hf⟩ := hf
  refine zcn2 (pc := 6) (rv := none) (va_runV (As := [.ref (tt 4), .int (16 : Int32)]) (rest := []) ⟨hx, hb, hml, hown, hts⟩ (c_X6_setKey l D cy tt H.size h0 h0_aes h0_modes h0_gcm h0_sha h0_generator h0_key h0_work h0_aes_keys 4 (fun j => tb_COUNTING_KEY.getD j 0) 4 (16 : Int32) c_aes_rounds c_aes_keys c_key _ _ _ c_aes_rounds_1 c_aes_keys_2 c_key_3 rfl hc_) (cwV 2 hts gX6_wrapRight_X6_setKey rfl rfl rfl (by decide +kernel) ⟨Nat.le_of_ble_eq_true rfl, Nat.le_of_ble_eq_true rfl⟩) ⟨zblind, va_recv hK hP (ci := 8) (q0 := 0) rfl rfl, zpre hE hS (hP.sub [0, 1, 2, 3] rfl) (hD.sub [0, 1, 2, 3] (by decide) rfl) (va_free hD hS hA [0, 1, 2, 3] rfl)⟩ rfl rfl hl.1 rfl (lv_room (Nat.le_of_ble_eq_true rfl)) (zdt_at zt_X6_wrapRight_0 3 rfl) ⟨Nat.zero_le _, Nat.zero_le _⟩) hS hP hD (va_free hD hS hA [0, 1, 2, 3] rfl) [0, 1, 2, 3] rfl (by decide) rfl ?_
  clear hP hD hS hc_
  intro H locs hP hD hS
  replace hP : va_P D vwCl ([(h0, .inr (8, [.ref h0_aes, .ref h0_modes, .ref h0_gcm, .ref h0_sha, .ref h0_generator, .ref h0_key, .ref h0_work])), (h0_aes, .inr (2, [.ref h0_aes_keys, .int c_aes_rounds_1])), (h0_aes_keys, .inl (cy 1, 60, .inl c_aes_keys_2)), (h0_key, .inl (cy 0, 32, .inl c_key_3)), (h0_modes, .inr (6, [.ref h0_aes, .ref h0_modes_block, .ref h0_modes_pad])), (h0_modes_block, .inl (cy 0, 16, .inl c_modes_block)), (h0_work, .inl (cy 0, 64, .inl c_work))]) H := hP
  replace hD : va_D A ([(h0, .inr (8, [.ref h0_aes, .ref h0_modes, .ref h0_gcm, .ref h0_sha, .ref h0_generator, .ref h0_key, .ref h0_work])), (h0_aes, .inr (2, [.ref h0_aes_keys, .int c_aes_rounds_1])), (h0_aes_keys, .inl (cy 1, 60, .inl c_aes_keys_2)), (h0_key, .inl (cy 0, 32, .inl c_key_3)), (h0_modes, .inr (6, [.ref h0_aes, .ref h0_modes_block, .ref h0_modes_pad])), (h0_modes_block, .inl (cy 0, 16, .inl c_modes_block)), (h0_work, .inl (cy 0, 64, .inl c_work))]) := hD
  refine W.eq (g2 := F0 m 9 ls []) rfl ?_
  refine lv_aload_n (pc := 9) hx hb (zdt_at zt_X6_wrapRight_0 4 rfl) rfl (lv_at hl 0 rfl) ?_
  refine va_gets (pc := 10) hx hb (gT_5 hE.2.2).1 hS hown hw1 (fun _ h9 => h9) (zdt_at zt_X6_wrapRight_0 5 rfl) ?_
  refine lv_bipush (pc := 13) (v := (8 : Int32)) hx hb (zdt_at zt_X6_wrapRight_0 6 rfl) (by decide) ?_
  replace hf := zb_s hf
  obtain ⟨c_work_4, hc_, hf⟩ := hf
  refine zcn2 (pc := 15) (rv := none) (va_runV (As := [.ref (tt 5), .int (8 : Int32)]) (rest := []) ⟨hx, hb, hml, hown, hts⟩ (c_X6_put l D cy tt H.size h0 h0_aes h0_modes h0_gcm h0_sha h0_generator h0_key h0_work 5 (fun j => tb_DOUBLED_DIGITS.getD j 0) 2 (8 : Int32) c_work _ _ _ c_work_4 rfl hc_) (cwV 2 hts gX6_wrapRight_X6_put rfl rfl rfl (by decide +kernel) ⟨Nat.le_of_ble_eq_true rfl, Nat.le_of_ble_eq_true rfl⟩) ⟨zblind, va_recv hK hP (ci := 8) (q0 := 0) rfl rfl, zpre hE hS (hP.sub [0, 6] rfl) (hD.sub [0, 6] (by decide) rfl) (va_free hD hS hA [0, 6] rfl)⟩ rfl rfl hl.1 rfl (lv_room (Nat.le_of_ble_eq_true rfl)) (zdt_at zt_X6_wrapRight_0 7 rfl) ⟨Nat.zero_le _, Nat.zero_le _⟩) hS hP hD (va_free hD hS hA [0, 6] rfl) [0, 6] rfl (by decide) rfl ?_
  clear hP hD hS hc_
  intro H locs hP hD hS
  replace hP : va_P D vwCl ([(h0, .inr (8, [.ref h0_aes, .ref h0_modes, .ref h0_gcm, .ref h0_sha, .ref h0_generator, .ref h0_key, .ref h0_work])), (h0_aes, .inr (2, [.ref h0_aes_keys, .int c_aes_rounds_1])), (h0_aes_keys, .inl (cy 1, 60, .inl c_aes_keys_2)), (h0_key, .inl (cy 0, 32, .inl c_key_3)), (h0_modes, .inr (6, [.ref h0_aes, .ref h0_modes_block, .ref h0_modes_pad])), (h0_modes_block, .inl (cy 0, 16, .inl c_modes_block)), (h0_work, .inl (cy 0, 64, .inl c_work_4))]) H := hP
  replace hD : va_D A ([(h0, .inr (8, [.ref h0_aes, .ref h0_modes, .ref h0_gcm, .ref h0_sha, .ref h0_generator, .ref h0_key, .ref h0_work])), (h0_aes, .inr (2, [.ref h0_aes_keys, .int c_aes_rounds_1])), (h0_aes_keys, .inl (cy 1, 60, .inl c_aes_keys_2)), (h0_key, .inl (cy 0, 32, .inl c_key_3)), (h0_modes, .inr (6, [.ref h0_aes, .ref h0_modes_block, .ref h0_modes_pad])), (h0_modes_block, .inl (cy 0, 16, .inl c_modes_block)), (h0_work, .inl (cy 0, 64, .inl c_work_4))]) := hD
  refine W.eq (g2 := F0 m 18 ls []) rfl ?_
  refine lv_aload_n (pc := 18) hx hb (zdt_at zt_X6_wrapRight_0 8 rfl) rfl (lv_at hl 0 rfl) ?_
  refine va_get (pc := 19) (D := D) (ci := 8) (v := .ref h0_work) (C := RX6) (T := TX6) (N := 7) hx hb hts hcX6 hown hK hP 0 rfl rfl 6 (by decide) hw2 (fun _ h9 => h9) rfl (zdt_at zt_X6_wrapRight_0 9 rfl) ?_
  refine lv_bipush (pc := 22) (v := (8 : Int32)) hx hb (zdt_at zt_X6_wrapRight_0 10 rfl) (by decide) ?_
  refine lv_dup2_11 (pc := 24) hx hb (zdt_at zt_X6_wrapRight_0 11 rfl) rfl rfl ?_
  replace hf := zk_s hf
  refine va_bald (pc := 25) hx hb hK hP 6 0 rfl rfl hf.1 (zdt_at zt_X6_wrapRight_0 12 rfl) ?_
  replace hf := hf.2
  refine lv_iload_n (pc := 26) hx hb (zdt_at zt_X6_wrapRight_0 13 rfl) rfl (lv_at hl 1 rfl) ?_
  refine lv_ixor (pc := 27) hx hb (zdt_at zt_X6_wrapRight_0 14 rfl) ?_
  refine lv_i2b (pc := 28) hx hb (zdt_at zt_X6_wrapRight_0 15 rfl) rfl ?_
  replace hf := zk_s hf
  refine va_bast (pc := 29) hx hb hK hP hD hS 6 0 rfl rfl hf.1 (zdt_at zt_X6_wrapRight_0 16 rfl) ?_
  replace hf := hf.2
  clear hP hD hS
  intro H locs hP hD hS
  obtain ⟨c_work_5, e_⟩ : ∃ q : Nat → Int32, q = (upd c_work_4 (8 : Int32).toNatClampNeg (vp_nar .byte (((c_work_4 (8 : Int32).toNatClampNeg) ^^^ p1).toInt8.toInt32))) := ⟨_, rfl⟩
  replace hf := zn_s hf e_
  replace hP : va_P D vwCl ([(h0, .inr (8, [.ref h0_aes, .ref h0_modes, .ref h0_gcm, .ref h0_sha, .ref h0_generator, .ref h0_key, .ref h0_work])), (h0_aes, .inr (2, [.ref h0_aes_keys, .int c_aes_rounds_1])), (h0_aes_keys, .inl (cy 1, 60, .inl c_aes_keys_2)), (h0_key, .inl (cy 0, 32, .inl c_key_3)), (h0_modes, .inr (6, [.ref h0_aes, .ref h0_modes_block, .ref h0_modes_pad])), (h0_modes_block, .inl (cy 0, 16, .inl c_modes_block)), (h0_work, .inl (cy 0, 64, .inl c_work_5))]) H := by rw [e_]; exact hP
  replace hD : va_D A ([(h0, .inr (8, [.ref h0_aes, .ref h0_modes, .ref h0_gcm, .ref h0_sha, .ref h0_generator, .ref h0_key, .ref h0_work])), (h0_aes, .inr (2, [.ref h0_aes_keys, .int c_aes_rounds_1])), (h0_aes_keys, .inl (cy 1, 60, .inl c_aes_keys_2)), (h0_key, .inl (cy 0, 32, .inl c_key_3)), (h0_modes, .inr (6, [.ref h0_aes, .ref h0_modes_block, .ref h0_modes_pad])), (h0_modes_block, .inl (cy 0, 16, .inl c_modes_block)), (h0_work, .inl (cy 0, 64, .inl c_work_5))]) := by rw [e_]; exact hD
  clear e_
  refine lv_aload_n (pc := 30) hx hb (zdt_at zt_X6_wrapRight_0 17 rfl) rfl (lv_at hl 0 rfl) ?_
  refine va_get (pc := 31) (D := D) (ci := 8) (v := .ref h0_modes) (C := RX6) (T := TX6) (N := 7) hx hb hts hcX6 hown hK hP 0 rfl rfl 1 (by decide) hw3 (fun _ h9 => h9) rfl (zdt_at zt_X6_wrapRight_0 18 rfl) ?_
  refine lv_aload_n (pc := 34) hx hb (zdt_at zt_X6_wrapRight_0 19 rfl) rfl (lv_at hl 0 rfl) ?_
  refine va_get (pc := 35) (D := D) (ci := 8) (v := .ref h0_work) (C := RX6) (T := TX6) (N := 7) hx hb hts hcX6 hown hK hP 0 rfl rfl 6 (by decide) hw2 (fun _ h9 => h9) rfl (zdt_at zt_X6_wrapRight_0 20 rfl) ?_
  refine lv_bipush (pc := 38) (v := (24 : Int32)) hx hb (zdt_at zt_X6_wrapRight_0 21 rfl) (by decide) ?_
  replace hf := zb_s hf
  obtain ⟨⟨c_modes_block_6, c_work_7⟩, hc_, hf⟩ := hf
  refine zcn2 (pc := 40) (rv := none) (va_runV (As := [.ref h0_work, .int (24 : Int32)]) (rest := []) ⟨hx, hb, hml, hown, hts⟩ (c_X4_wrapIn l D cy tt H.size h0_modes h0_aes h0_modes_block h0_modes_pad h0_aes_keys h0_work 64 (24 : Int32) c_aes_rounds_1 c_aes_keys_2 c_modes_block c_work_5 c_modes_block_6 c_work_7 hc_) (cwV 2 hts gX6_wrapRight_X4_wrapIn rfl rfl rfl (by decide +kernel) ⟨Nat.le_of_ble_eq_true rfl, Nat.le_of_ble_eq_true rfl⟩) ⟨zblind, va_recv hK hP (ci := 6) (q0 := 4) rfl rfl, zpre hE hS (hP.sub [4, 1, 2, 5, 6] rfl) (hD.sub [4, 1, 2, 5, 6] (by decide) rfl) (va_free hD hS hA [4, 1, 2, 5, 6] rfl)⟩ rfl rfl hl.1 rfl (lv_room (Nat.le_of_ble_eq_true rfl)) (zdt_at zt_X6_wrapRight_0 22 rfl) ⟨Nat.zero_le _, Nat.zero_le _⟩) hS hP hD (va_free hD hS hA [4, 1, 2, 5, 6] rfl) [4, 1, 2, 5, 6] rfl (by decide) rfl ?_
  clear hP hD hS hc_
  intro H locs hP hD hS
  replace hP : va_P D vwCl ([(h0, .inr (8, [.ref h0_aes, .ref h0_modes, .ref h0_gcm, .ref h0_sha, .ref h0_generator, .ref h0_key, .ref h0_work])), (h0_aes, .inr (2, [.ref h0_aes_keys, .int c_aes_rounds_1])), (h0_aes_keys, .inl (cy 1, 60, .inl c_aes_keys_2)), (h0_key, .inl (cy 0, 32, .inl c_key_3)), (h0_modes, .inr (6, [.ref h0_aes, .ref h0_modes_block, .ref h0_modes_pad])), (h0_modes_block, .inl (cy 0, 16, .inl c_modes_block_6)), (h0_work, .inl (cy 0, 64, .inl c_work_7))]) H := hP
  replace hD : va_D A ([(h0, .inr (8, [.ref h0_aes, .ref h0_modes, .ref h0_gcm, .ref h0_sha, .ref h0_generator, .ref h0_key, .ref h0_work])), (h0_aes, .inr (2, [.ref h0_aes_keys, .int c_aes_rounds_1])), (h0_aes_keys, .inl (cy 1, 60, .inl c_aes_keys_2)), (h0_key, .inl (cy 0, 32, .inl c_key_3)), (h0_modes, .inr (6, [.ref h0_aes, .ref h0_modes_block, .ref h0_modes_pad])), (h0_modes_block, .inl (cy 0, 16, .inl c_modes_block_6)), (h0_work, .inl (cy 0, 64, .inl c_work_7))]) := hD
  refine W.eq (g2 := F0 m 43 ls []) rfl ?_
  refine lv_aload_n (pc := 43) hx hb (zdt_at zt_X6_wrapRight_0 23 rfl) rfl (lv_at hl 0 rfl) ?_
  refine va_gets (pc := 44) hx hb (gT_22 hE.2.2).1 hS hown hw4 (fun _ h9 => h9) (zdt_at zt_X6_wrapRight_0 24 rfl) ?_
  refine lv_iconst (pc := 47) (v := (0 : Int32)) hx hb (zdt_at zt_X6_wrapRight_0 25 rfl) (by decide) ?_
  replace hf := zb_s hf
  obtain ⟨r_8, hc_, hf⟩ := hf
  refine zcs (pc := 48) (rv := (some (.int r_8))) (va_runV (As := [.ref (tt 22), .int (0 : Int32)]) (rest := []) ⟨hx, hb, hml, hown, hts⟩ (c_X6_stands l D cy tt H.size h0 h0_aes h0_modes h0_gcm h0_sha h0_generator h0_key h0_work 22 (fun j => tb_WRAP_ANSWER.getD j 0) 3 (0 : Int32) c_work_7 _ _ _ r_8 rfl hc_) (cwV 2 hts gX6_wrapRight_X6_stands rfl rfl rfl (by decide +kernel) ⟨Nat.le_of_ble_eq_true rfl, Nat.le_of_ble_eq_true rfl⟩) ⟨zblind, va_recv hK hP (ci := 8) (q0 := 0) rfl rfl, zpre hE hS (hP.sub [0, 6] rfl) (hD.sub [0, 6] (by decide) rfl) (va_free hD hS hA [0, 6] rfl)⟩ rfl rfl hl.1 rfl (lv_room (Nat.le_of_ble_eq_true rfl)) (zdt_at zt_X6_wrapRight_0 26 rfl) ⟨Nat.zero_le _, Nat.zero_le _⟩) ?_
  clear hc_
  refine W.eq (g2 := F0 m 51 ls [.int r_8]) rfl ?_
  replace hf := zk_s hf
  have hv_ := hf.1
  replace hf := hf.2
  cases hf
  exact W.zret (pc := 51) hx hb hr (zz_nar hv_) (fun t ht hW => ⟨rfl, ⟨by rw [ht]; exact hP, hD⟩, hS.F ht⟩) hS.2.2 (zdt_at zt_X6_wrapRight_0 27 rfl)
set_option maxHeartbeats 4000000 in
set_option maxRecDepth 100000 in
theorem c_X6_hmacRight (l : Launch) (D : va_G) (cy : Nat → ClassId) (tt : Nat → Nat) (sz : Nat) (h0 : Nat) (h0_aes : Nat) (h0_modes : Nat) (h0_gcm : Nat) (h0_sha : Nat) (h0_generator : Nat) (h0_key : Nat) (h0_work : Nat) (h0_sha_sums : Nat) (h0_sha_schedule : Nat) (h0_sha_inner : Nat) (p1 : Int32) (c_key : Nat → Int32) (c_sha_filled : Int32) (c_sha_total : Int32) (c_sha_inner : Nat → Int32) (c_sha_schedule : Nat → Int32) (c_sha_sums : Nat → Int32) (c_work : Nat → Int32) (r_ : Int32) (c_key' : Nat → Int32) (c_sha_filled' : Int32) (c_sha_total' : Int32) (c_sha_inner' : Nat → Int32) (c_sha_schedule' : Nat → Int32) (c_sha_sums' : Nat → Int32) (c_work' : Nat → Int32) (hf : f_X6_hmacRight p1 c_key c_sha_filled c_sha_total c_sha_inner c_sha_schedule c_sha_sums c_work = some (r_, c_key', c_sha_filled', c_sha_total', c_sha_inner', c_sha_schedule', c_sha_sums', c_work')) : Met l yX6_hmacRight wsX6_hmacRight ({ frames := 4, cells := 0, slots := 0, locals := 111 }) (zPc D cy tt sz [.ref h0, .int p1] ([(h0, .inr (8, [.ref h0_aes, .ref h0_modes, .ref h0_gcm, .ref h0_sha, .ref h0_generator, .ref h0_key, .ref h0_work])), (h0_key, .inl (cy 0, 32, .inl c_key)), (h0_sha, .inr (9, [.ref h0_sha_sums, .ref h0_sha_schedule, .ref h0_sha_inner, .int c_sha_filled, .int c_sha_total])), (h0_sha_inner, .inl (cy 0, 32, .inl c_sha_inner)), (h0_sha_schedule, .inl (cy 1, 64, .inl c_sha_schedule)), (h0_sha_sums, .inl (cy 1, 8, .inl c_sha_sums)), (h0_work, .inl (cy 0, 64, .inl c_work))])) (zQ D (some (.int r_)) ([(h0, .inr (8, [.ref h0_aes, .ref h0_modes, .ref h0_gcm, .ref h0_sha, .ref h0_generator, .ref h0_key, .ref h0_work])), (h0_key, .inl (cy 0, 32, .inl c_key')), (h0_sha, .inr (9, [.ref h0_sha_sums, .ref h0_sha_schedule, .ref h0_sha_inner, .int c_sha_filled', .int c_sha_total'])), (h0_sha_inner, .inl (cy 0, 32, .inl c_sha_inner')), (h0_sha_schedule, .inl (cy 1, 64, .inl c_sha_schedule')), (h0_sha_sums, .inl (cy 1, 8, .inl c_sha_sums')), (h0_work, .inl (cy 0, 64, .inl c_work'))]) (va_A ([(h0, .inr (8, [.ref h0_aes, .ref h0_modes, .ref h0_gcm, .ref h0_sha, .ref h0_generator, .ref h0_key, .ref h0_work])), (h0_key, .inl (cy 0, 32, .inl c_key)), (h0_sha, .inr (9, [.ref h0_sha_sums, .ref h0_sha_schedule, .ref h0_sha_inner, .int c_sha_filled, .int c_sha_total])), (h0_sha_inner, .inl (cy 0, 32, .inl c_sha_inner)), (h0_sha_schedule, .inl (cy 1, 64, .inl c_sha_schedule)), (h0_sha_sums, .inl (cy 1, 8, .inl c_sha_sums)), (h0_work, .inl (cy 0, 64, .inl c_work))]) sz)) 0 0 (va_A ([(h0, .inr (8, [.ref h0_aes, .ref h0_modes, .ref h0_gcm, .ref h0_sha, .ref h0_generator, .ref h0_key, .ref h0_work])), (h0_key, .inl (cy 0, 32, .inl c_key)), (h0_sha, .inr (9, [.ref h0_sha_sums, .ref h0_sha_schedule, .ref h0_sha_inner, .int c_sha_filled, .int c_sha_total])), (h0_sha_inner, .inl (cy 0, 32, .inl c_sha_inner)), (h0_sha_schedule, .inl (cy 1, 64, .inl c_sha_schedule)), (h0_sha_sums, .inl (cy 1, 8, .inl c_sha_sums)), (h0_work, .inl (cy 0, 64, .inl c_work))]) sz) := by
  refine Met.ofW (cc := cX6_hmacRight) (maxL := 2) (ret := (some .boolean)) (by decide) rfl ?_
  intro p e s m args below meth c s₁ B hml hv
  obtain ⟨rfl, rfl, hP, hD0, hE⟩ := hv
  have hx := B.exec
  have hb := B.bytes
  have hr := B.returns
  have hts := atoms_spec (ws := wsX6_hmacRight) B.pre
  have hown : s.vm.findClass RX6 = some m.cls := findClass_of_methodNamed B.named
  have hlocks := B.notSynchronized
  clear B
  have hD := hD0.self (sz := s.heap.size)
  generalize hAe : va_A ([(h0, .inr (8, [.ref h0_aes, .ref h0_modes, .ref h0_gcm, .ref h0_sha, .ref h0_generator, .ref h0_key, .ref h0_work])), (h0_key, .inl (cy 0, 32, .inl c_key)), (h0_sha, .inr (9, [.ref h0_sha_sums, .ref h0_sha_schedule, .ref h0_sha_inner, .int c_sha_filled, .int c_sha_total])), (h0_sha_inner, .inl (cy 0, 32, .inl c_sha_inner)), (h0_sha_schedule, .inl (cy 1, 64, .inl c_sha_schedule)), (h0_sha_sums, .inl (cy 1, 8, .inl c_sha_sums)), (h0_work, .inl (cy 0, 64, .inl c_work))]) s.heap.size = A at hD hE ⊢
  have hA : ∀ q : Nat, s.heap.size ≤ q → A q := fun q h => by rw [← hAe]; exact Or.inr h
  clear hAe hD0
  have hS : va_S A s.heap s.heap [] := va_S.rf
  have hK := hE.1
  have hw0 := hts (.fieldLink RX6 9 "SealedModule$SelfTests" "key" "[B") (by decide +kernel)
  have hw1 := hts (.fieldLink RX6 179 "SealedModule$SelfTests" "JEFE" "[J") (by decide +kernel)
  have hw2 := hts (.initialized RX9) (by decide +kernel)
  have hw3 := hts (.static yX9_putLong) (by decide +kernel)
  have hw4 := hts (.fieldLink RX6 186 "SealedModule$SelfTests" "WHAT_DO_YA_WANT" "[J") (by decide +kernel)
  have hw5 := hts (.fieldLink RX6 15 "SealedModule$SelfTests" "work" "[B") (by decide +kernel)
  have hw6 := hts (.fieldLink RX6 30 "SealedModule$SelfTests" "sha" "LSealedModule$Sha256;") (by decide +kernel)
  have hw7 := hts (.fieldLink RX6 193 "SealedModule$SelfTests" "HMAC_ANSWER" "[J") (by decide +kernel)
  have hcX6 : ∀ w ∈ u_ws RX6 TX6 7, w ∈ wsX6_hmacRight := (fun _ h => List.mem_cons_of_mem _ (List.mem_append_left _ (List.mem_append_left _ (List.mem_append_right _ h))))
  have hl := lv_entry ([.ref h0, .int p1]) (n := 2) (Nat.le_of_ble_eq_true rfl)
  rw [lg_entry_eq]
  generalize (lg_sl ([.ref h0, .int p1]) ++ List.replicate (2 - (lg_sl ([.ref h0, .int p1])).length) Slot.unset).toArray = ls at hl ⊢
  replace hl : lv_has ls 2 [(0, .ref h0), (1, .int p1)] := hl
  unfold f_X6_hmacRight at hf
  refine zgo (fun GW hTo hFr => ?_)
  refine hFr _ _ _ ?_
  obtain ⟨H, hHe⟩ : ∃ H, H = s.heap := ⟨_, rfl⟩
  obtain ⟨locs, hLe⟩ : ∃ L : List Loc, L = [] := ⟨_, rfl⟩
  rw [← hHe] at hP
  replace hS : va_S A s.heap H locs := by rw [hHe, hLe]; exact hS
  refine zat hHe.symm hLe.symm ?_
  clear hHe hLe
  refine lv_aload_n (pc := 0) hx hb (zdt_at zt_X6_hmacRight_0 0 rfl) rfl (lv_at hl 0 rfl) ?_
  refine va_get (pc := 1) (D := D) (ci := 8) (v := .ref h0_key) (C := RX6) (T := TX6) (N := 7) hx hb hts hcX6 hown hK hP 0 rfl rfl 5 (by decide) hw0 (fun _ h9 => h9) rfl (zdt_at zt_X6_hmacRight_0 1 rfl) ?_
  refine lv_iconst (pc := 4) (v := (0 : Int32)) hx hb (zdt_at zt_X6_hmacRight_0 2 rfl) (by decide) ?_
  refine va_gets (pc := 5) hx hb (gT_19 hE.2.2).1 hS hown hw1 (fun _ h9 => h9) (zdt_at zt_X6_hmacRight_0 3 rfl) ?_
  refine lv_iconst (pc := 8) (v := (0 : Int32)) hx hb (zdt_at zt_X6_hmacRight_0 4 rfl) (by decide) ?_
  replace hf := zk_s hf
  refine va_tl (pc := 9) hx hb (gT_19 hE.2.2).2 hS hf.1 (v := .long (tb_JEFE.getD (0 : Int32).toNatClampNeg 0)) rfl (zdt_at zt_X6_hmacRight_0 5 rfl) ?_
  replace hf := hf.2
  replace hf := zb_s hf
  obtain ⟨c_key_1, hc_, hf⟩ := hf
  refine zcn2 (pc := 10) (rv := none) (va_runSN (As := [.ref h0_key, .int (0 : Int32), .long (tb_JEFE.getD (0 : Int32).toNatClampNeg 0)]) (rest := []) ⟨hx, hb, hml, hown, hts⟩ (c_X9_putLong l D cy tt H.size h0_key 32 (0 : Int32) (tb_JEFE.getD (0 : Int32).toNatClampNeg 0) c_key c_key_1 hc_) ⟨va_cnB 3 hts gX6_hmacRight_X9_putLong_n182 rfl rfl rfl (gNs_12 hE.2.1) hw2 (by decide +kernel) ⟨Nat.le_of_ble_eq_true rfl, Nat.le_of_ble_eq_true rfl⟩, hw3, trivial⟩ ⟨zblind, zpre hE hS (hP.sub [1] rfl) (hD.sub [1] (by decide) rfl) (va_free hD hS hA [1] rfl)⟩ rfl rfl hl.1 rfl (lv_room (Nat.le_of_ble_eq_true rfl)) (zdt_at zt_X6_hmacRight_0 6 rfl) ⟨Nat.zero_le _, Nat.zero_le _⟩) hS hP hD (va_free hD hS hA [1] rfl) [1] rfl (by decide) rfl ?_
  clear hP hD hS hc_
  intro H locs hP hD hS
  replace hP : va_P D vwCl ([(h0, .inr (8, [.ref h0_aes, .ref h0_modes, .ref h0_gcm, .ref h0_sha, .ref h0_generator, .ref h0_key, .ref h0_work])), (h0_key, .inl (cy 0, 32, .inl c_key_1)), (h0_sha, .inr (9, [.ref h0_sha_sums, .ref h0_sha_schedule, .ref h0_sha_inner, .int c_sha_filled, .int c_sha_total])), (h0_sha_inner, .inl (cy 0, 32, .inl c_sha_inner)), (h0_sha_schedule, .inl (cy 1, 64, .inl c_sha_schedule)), (h0_sha_sums, .inl (cy 1, 8, .inl c_sha_sums)), (h0_work, .inl (cy 0, 64, .inl c_work))]) H := hP
  replace hD : va_D A ([(h0, .inr (8, [.ref h0_aes, .ref h0_modes, .ref h0_gcm, .ref h0_sha, .ref h0_generator, .ref h0_key, .ref h0_work])), (h0_key, .inl (cy 0, 32, .inl c_key_1)), (h0_sha, .inr (9, [.ref h0_sha_sums, .ref h0_sha_schedule, .ref h0_sha_inner, .int c_sha_filled, .int c_sha_total])), (h0_sha_inner, .inl (cy 0, 32, .inl c_sha_inner)), (h0_sha_schedule, .inl (cy 1, 64, .inl c_sha_schedule)), (h0_sha_sums, .inl (cy 1, 8, .inl c_sha_sums)), (h0_work, .inl (cy 0, 64, .inl c_work))]) := hD
  refine W.eq (g2 := F0 m 13 ls []) rfl ?_
  refine lv_aload_n (pc := 13) hx hb (zdt_at zt_X6_hmacRight_0 7 rfl) rfl (lv_at hl 0 rfl) ?_
  refine va_gets (pc := 14) hx hb (gT_20 hE.2.2).1 hS hown hw4 (fun _ h9 => h9) (zdt_at zt_X6_hmacRight_0 8 rfl) ?_
  refine lv_iconst (pc := 17) (v := (0 : Int32)) hx hb (zdt_at zt_X6_hmacRight_0 9 rfl) (by decide) ?_
  replace hf := zb_s hf
  obtain ⟨c_work_2, hc_, hf⟩ := hf
  refine zcn2 (pc := 18) (rv := none) (va_runV (As := [.ref (tt 20), .int (0 : Int32)]) (rest := []) ⟨hx, hb, hml, hown, hts⟩ (c_X6_put l D cy tt H.size h0 h0_aes h0_modes h0_gcm h0_sha h0_generator h0_key h0_work 20 (fun j => tb_WHAT_DO_YA_WANT.getD j 0) 4 (0 : Int32) c_work _ _ _ c_work_2 rfl hc_) (cwV 2 hts gX6_hmacRight_X6_put rfl rfl rfl (by decide +kernel) ⟨Nat.le_of_ble_eq_true rfl, Nat.le_of_ble_eq_true rfl⟩) ⟨zblind, va_recv hK hP (ci := 8) (q0 := 0) rfl rfl, zpre hE hS (hP.sub [0, 6] rfl) (hD.sub [0, 6] (by decide) rfl) (va_free hD hS hA [0, 6] rfl)⟩ rfl rfl hl.1 rfl (lv_room (Nat.le_of_ble_eq_true rfl)) (zdt_at zt_X6_hmacRight_0 10 rfl) ⟨Nat.zero_le _, Nat.zero_le _⟩) hS hP hD (va_free hD hS hA [0, 6] rfl) [0, 6] rfl (by decide) rfl ?_
  clear hP hD hS hc_
  intro H locs hP hD hS
  replace hP : va_P D vwCl ([(h0, .inr (8, [.ref h0_aes, .ref h0_modes, .ref h0_gcm, .ref h0_sha, .ref h0_generator, .ref h0_key, .ref h0_work])), (h0_key, .inl (cy 0, 32, .inl c_key_1)), (h0_sha, .inr (9, [.ref h0_sha_sums, .ref h0_sha_schedule, .ref h0_sha_inner, .int c_sha_filled, .int c_sha_total])), (h0_sha_inner, .inl (cy 0, 32, .inl c_sha_inner)), (h0_sha_schedule, .inl (cy 1, 64, .inl c_sha_schedule)), (h0_sha_sums, .inl (cy 1, 8, .inl c_sha_sums)), (h0_work, .inl (cy 0, 64, .inl c_work_2))]) H := hP
  replace hD : va_D A ([(h0, .inr (8, [.ref h0_aes, .ref h0_modes, .ref h0_gcm, .ref h0_sha, .ref h0_generator, .ref h0_key, .ref h0_work])), (h0_key, .inl (cy 0, 32, .inl c_key_1)), (h0_sha, .inr (9, [.ref h0_sha_sums, .ref h0_sha_schedule, .ref h0_sha_inner, .int c_sha_filled, .int c_sha_total])), (h0_sha_inner, .inl (cy 0, 32, .inl c_sha_inner)), (h0_sha_schedule, .inl (cy 1, 64, .inl c_sha_schedule)), (h0_sha_sums, .inl (cy 1, 8, .inl c_sha_sums)), (h0_work, .inl (cy 0, 64, .inl c_work_2))]) := hD
  refine W.eq (g2 := F0 m 21 ls []) rfl ?_
  refine lv_aload_n (pc := 21) hx hb (zdt_at zt_X6_hmacRight_0 11 rfl) rfl (lv_at hl 0 rfl) ?_
  refine va_get (pc := 22) (D := D) (ci := 8) (v := .ref h0_work) (C := RX6) (T := TX6) (N := 7) hx hb hts hcX6 hown hK hP 0 rfl rfl 6 (by decide) hw5 (fun _ h9 => h9) rfl (zdt_at zt_X6_hmacRight_0 12 rfl) ?_
  refine lv_iconst (pc := 25) (v := (0 : Int32)) hx hb (zdt_at zt_X6_hmacRight_0 13 rfl) (by decide) ?_
  refine lv_dup2_11 (pc := 26) hx hb (zdt_at zt_X6_hmacRight_0 14 rfl) rfl rfl ?_
  replace hf := zk_s hf
  refine va_bald (pc := 27) hx hb hK hP 6 0 rfl rfl hf.1 (zdt_at zt_X6_hmacRight_0 15 rfl) ?_
  replace hf := hf.2
  refine lv_iload_n (pc := 28) hx hb (zdt_at zt_X6_hmacRight_0 16 rfl) rfl (lv_at hl 1 rfl) ?_
  refine lv_ixor (pc := 29) hx hb (zdt_at zt_X6_hmacRight_0 17 rfl) ?_
  refine lv_i2b (pc := 30) hx hb (zdt_at zt_X6_hmacRight_0 18 rfl) rfl ?_
  replace hf := zk_s hf
  refine va_bast (pc := 31) hx hb hK hP hD hS 6 0 rfl rfl hf.1 (zdt_at zt_X6_hmacRight_0 19 rfl) ?_
  replace hf := hf.2
  clear hP hD hS
  intro H locs hP hD hS
  obtain ⟨c_work_3, e_⟩ : ∃ q : Nat → Int32, q = (upd c_work_2 (0 : Int32).toNatClampNeg (vp_nar .byte (((c_work_2 (0 : Int32).toNatClampNeg) ^^^ p1).toInt8.toInt32))) := ⟨_, rfl⟩
  replace hf := zn_s hf e_
  replace hP : va_P D vwCl ([(h0, .inr (8, [.ref h0_aes, .ref h0_modes, .ref h0_gcm, .ref h0_sha, .ref h0_generator, .ref h0_key, .ref h0_work])), (h0_key, .inl (cy 0, 32, .inl c_key_1)), (h0_sha, .inr (9, [.ref h0_sha_sums, .ref h0_sha_schedule, .ref h0_sha_inner, .int c_sha_filled, .int c_sha_total])), (h0_sha_inner, .inl (cy 0, 32, .inl c_sha_inner)), (h0_sha_schedule, .inl (cy 1, 64, .inl c_sha_schedule)), (h0_sha_sums, .inl (cy 1, 8, .inl c_sha_sums)), (h0_work, .inl (cy 0, 64, .inl c_work_3))]) H := by rw [e_]; exact hP
  replace hD : va_D A ([(h0, .inr (8, [.ref h0_aes, .ref h0_modes, .ref h0_gcm, .ref h0_sha, .ref h0_generator, .ref h0_key, .ref h0_work])), (h0_key, .inl (cy 0, 32, .inl c_key_1)), (h0_sha, .inr (9, [.ref h0_sha_sums, .ref h0_sha_schedule, .ref h0_sha_inner, .int c_sha_filled, .int c_sha_total])), (h0_sha_inner, .inl (cy 0, 32, .inl c_sha_inner)), (h0_sha_schedule, .inl (cy 1, 64, .inl c_sha_schedule)), (h0_sha_sums, .inl (cy 1, 8, .inl c_sha_sums)), (h0_work, .inl (cy 0, 64, .inl c_work_3))]) := by rw [e_]; exact hD
  clear e_
  refine lv_aload_n (pc := 32) hx hb (zdt_at zt_X6_hmacRight_0 20 rfl) rfl (lv_at hl 0 rfl) ?_
  refine va_get (pc := 33) (D := D) (ci := 8) (v := .ref h0_sha) (C := RX6) (T := TX6) (N := 7) hx hb hts hcX6 hown hK hP 0 rfl rfl 3 (by decide) hw6 (fun _ h9 => h9) rfl (zdt_at zt_X6_hmacRight_0 21 rfl) ?_
  refine lv_aload_n (pc := 36) hx hb (zdt_at zt_X6_hmacRight_0 22 rfl) rfl (lv_at hl 0 rfl) ?_
  refine va_get (pc := 37) (D := D) (ci := 8) (v := .ref h0_key) (C := RX6) (T := TX6) (N := 7) hx hb hts hcX6 hown hK hP 0 rfl rfl 5 (by decide) hw0 (fun _ h9 => h9) rfl (zdt_at zt_X6_hmacRight_0 23 rfl) ?_
  refine lv_iconst (pc := 40) (v := (4 : Int32)) hx hb (zdt_at zt_X6_hmacRight_0 24 rfl) (by decide) ?_
  refine lv_aload_n (pc := 41) hx hb (zdt_at zt_X6_hmacRight_0 25 rfl) rfl (lv_at hl 0 rfl) ?_
  refine va_get (pc := 42) (D := D) (ci := 8) (v := .ref h0_work) (C := RX6) (T := TX6) (N := 7) hx hb hts hcX6 hown hK hP 0 rfl rfl 6 (by decide) hw5 (fun _ h9 => h9) rfl (zdt_at zt_X6_hmacRight_0 26 rfl) ?_
  refine lv_iconst (pc := 45) (v := (0 : Int32)) hx hb (zdt_at zt_X6_hmacRight_0 27 rfl) (by decide) ?_
  refine lv_bipush (pc := 46) (v := (28 : Int32)) hx hb (zdt_at zt_X6_hmacRight_0 28 rfl) (by decide) ?_
  refine lv_aload_n (pc := 48) hx hb (zdt_at zt_X6_hmacRight_0 29 rfl) rfl (lv_at hl 0 rfl) ?_
  refine va_get (pc := 49) (D := D) (ci := 8) (v := .ref h0_work) (C := RX6) (T := TX6) (N := 7) hx hb hts hcX6 hown hK hP 0 rfl rfl 6 (by decide) hw5 (fun _ h9 => h9) rfl (zdt_at zt_X6_hmacRight_0 30 rfl) ?_
  refine lv_iconst (pc := 52) (v := (0 : Int32)) hx hb (zdt_at zt_X6_hmacRight_0 31 rfl) (by decide) ?_
  replace hf := zb_s hf
  obtain ⟨⟨c_sha_filled_4, c_sha_total_5, c_sha_inner_6, c_sha_schedule_7, c_sha_sums_8, c_work_9⟩, hc_, hf⟩ := hf
  refine zcn2 (pc := 53) (rv := none) (va_runV (As := [.ref h0_key, .int (4 : Int32), .ref h0_work, .int (0 : Int32), .int (28 : Int32), .ref h0_work, .int (0 : Int32)]) (rest := []) ⟨hx, hb, hml, hown, hts⟩ (c_X7_mac_6a3 l D cy tt H.size h0_sha h0_sha_sums h0_sha_schedule h0_sha_inner h0_key h0_work 32 64 (4 : Int32) (0 : Int32) (28 : Int32) (0 : Int32) c_sha_filled c_sha_total c_sha_inner c_sha_schedule c_sha_sums c_key_1 c_work_3 c_sha_filled_4 c_sha_total_5 c_sha_inner_6 c_sha_schedule_7 c_sha_sums_8 c_work_9 hc_) (cwV 7 hts gX6_hmacRight_X7_mac rfl rfl rfl (by decide +kernel) ⟨Nat.le_of_ble_eq_true rfl, Nat.le_of_ble_eq_true rfl⟩) ⟨zblind, va_recv hK hP (ci := 9) (q0 := 2) rfl rfl, zpre hE hS (hP.sub [2, 3, 4, 5, 1, 6] rfl) (hD.sub [2, 3, 4, 5, 1, 6] (by decide) rfl) (va_free hD hS hA [2, 3, 4, 5, 1, 6] rfl)⟩ rfl rfl hl.1 rfl (lv_room (Nat.le_of_ble_eq_true rfl)) (zdt_at zt_X6_hmacRight_0 32 rfl) ⟨Nat.zero_le _, Nat.zero_le _⟩) hS hP hD (va_free hD hS hA [2, 3, 4, 5, 1, 6] rfl) [2, 3, 4, 5, 1, 6] rfl (by decide) rfl ?_
  clear hP hD hS hc_
  intro H locs hP hD hS
  replace hP : va_P D vwCl ([(h0, .inr (8, [.ref h0_aes, .ref h0_modes, .ref h0_gcm, .ref h0_sha, .ref h0_generator, .ref h0_key, .ref h0_work])), (h0_key, .inl (cy 0, 32, .inl c_key_1)), (h0_sha, .inr (9, [.ref h0_sha_sums, .ref h0_sha_schedule, .ref h0_sha_inner, .int c_sha_filled_4, .int c_sha_total_5])), (h0_sha_inner, .inl (cy 0, 32, .inl c_sha_inner_6)), (h0_sha_schedule, .inl (cy 1, 64, .inl c_sha_schedule_7)), (h0_sha_sums, .inl (cy 1, 8, .inl c_sha_sums_8)), (h0_work, .inl (cy 0, 64, .inl c_work_9))]) H := hP
  replace hD : va_D A ([(h0, .inr (8, [.ref h0_aes, .ref h0_modes, .ref h0_gcm, .ref h0_sha, .ref h0_generator, .ref h0_key, .ref h0_work])), (h0_key, .inl (cy 0, 32, .inl c_key_1)), (h0_sha, .inr (9, [.ref h0_sha_sums, .ref h0_sha_schedule, .ref h0_sha_inner, .int c_sha_filled_4, .int c_sha_total_5])), (h0_sha_inner, .inl (cy 0, 32, .inl c_sha_inner_6)), (h0_sha_schedule, .inl (cy 1, 64, .inl c_sha_schedule_7)), (h0_sha_sums, .inl (cy 1, 8, .inl c_sha_sums_8)), (h0_work, .inl (cy 0, 64, .inl c_work_9))]) := hD
  refine W.eq (g2 := F0 m 56 ls []) rfl ?_
  refine lv_aload_n (pc := 56) hx hb (zdt_at zt_X6_hmacRight_0 33 rfl) rfl (lv_at hl 0 rfl) ?_
  refine va_gets (pc := 57) hx hb (gT_21 hE.2.2).1 hS hown hw7 (fun _ h9 => h9) (zdt_at zt_X6_hmacRight_0 34 rfl) ?_
  refine lv_iconst (pc := 60) (v := (0 : Int32)) hx hb (zdt_at zt_X6_hmacRight_0 35 rfl) (by decide) ?_
  replace hf := zb_s hf
  obtain ⟨r_10, hc_, hf⟩ := hf
  refine zcs (pc := 61) (rv := (some (.int r_10))) (va_runV (As := [.ref (tt 21), .int (0 : Int32)]) (rest := []) ⟨hx, hb, hml, hown, hts⟩ (c_X6_stands l D cy tt H.size h0 h0_aes h0_modes h0_gcm h0_sha h0_generator h0_key h0_work 21 (fun j => tb_HMAC_ANSWER.getD j 0) 4 (0 : Int32) c_work_9 _ _ _ r_10 rfl hc_) (cwV 2 hts gX6_hmacRight_X6_stands rfl rfl rfl (by decide +kernel) ⟨Nat.le_of_ble_eq_true rfl, Nat.le_of_ble_eq_true rfl⟩) ⟨zblind, va_recv hK hP (ci := 8) (q0 := 0) rfl rfl, zpre hE hS (hP.sub [0, 6] rfl) (hD.sub [0, 6] (by decide) rfl) (va_free hD hS hA [0, 6] rfl)⟩ rfl rfl hl.1 rfl (lv_room (Nat.le_of_ble_eq_true rfl)) (zdt_at zt_X6_hmacRight_0 36 rfl) ⟨Nat.zero_le _, Nat.zero_le _⟩) ?_
  clear hc_
  refine W.eq (g2 := F0 m 64 ls [.int r_10]) rfl ?_
  replace hf := zk_s hf
  have hv_ := hf.1
  replace hf := hf.2
  cases hf
  exact W.zret (pc := 64) hx hb hr (zz_nar hv_) (fun t ht hW => ⟨rfl, ⟨by rw [ht]; exact hP, hD⟩, hS.F ht⟩) hS.2.2 (zdt_at zt_X6_hmacRight_0 37 rfl)
set_option maxHeartbeats 4000000 in
set_option maxRecDepth 100000 in
theorem c_X6_shaRight (l : Launch) (D : va_G) (cy : Nat → ClassId) (tt : Nat → Nat) (sz : Nat) (h0 : Nat) (h0_aes : Nat) (h0_modes : Nat) (h0_gcm : Nat) (h0_sha : Nat) (h0_generator : Nat) (h0_key : Nat) (h0_work : Nat) (h0_sha_sums : Nat) (h0_sha_schedule : Nat) (h0_sha_inner : Nat) (p1 : Int32) (c_sha_filled : Int32) (c_sha_total : Int32) (c_sha_schedule : Nat → Int32) (c_sha_sums : Nat → Int32) (c_work : Nat → Int32) (r_ : Int32) (c_sha_filled' : Int32) (c_sha_total' : Int32) (c_sha_schedule' : Nat → Int32) (c_sha_sums' : Nat → Int32) (c_work' : Nat → Int32) (hf : f_X6_shaRight p1 c_sha_filled c_sha_total c_sha_schedule c_sha_sums c_work = some (r_, c_sha_filled', c_sha_total', c_sha_schedule', c_sha_sums', c_work')) : Met l yX6_shaRight wsX6_shaRight ({ frames := 3, cells := 0, slots := 0, locals := 84 }) (zPc D cy tt sz [.ref h0, .int p1] ([(h0, .inr (8, [.ref h0_aes, .ref h0_modes, .ref h0_gcm, .ref h0_sha, .ref h0_generator, .ref h0_key, .ref h0_work])), (h0_sha, .inr (9, [.ref h0_sha_sums, .ref h0_sha_schedule, .ref h0_sha_inner, .int c_sha_filled, .int c_sha_total])), (h0_sha_schedule, .inl (cy 1, 64, .inl c_sha_schedule)), (h0_sha_sums, .inl (cy 1, 8, .inl c_sha_sums)), (h0_work, .inl (cy 0, 64, .inl c_work))])) (zQ D (some (.int r_)) ([(h0, .inr (8, [.ref h0_aes, .ref h0_modes, .ref h0_gcm, .ref h0_sha, .ref h0_generator, .ref h0_key, .ref h0_work])), (h0_sha, .inr (9, [.ref h0_sha_sums, .ref h0_sha_schedule, .ref h0_sha_inner, .int c_sha_filled', .int c_sha_total'])), (h0_sha_schedule, .inl (cy 1, 64, .inl c_sha_schedule')), (h0_sha_sums, .inl (cy 1, 8, .inl c_sha_sums')), (h0_work, .inl (cy 0, 64, .inl c_work'))]) (va_A ([(h0, .inr (8, [.ref h0_aes, .ref h0_modes, .ref h0_gcm, .ref h0_sha, .ref h0_generator, .ref h0_key, .ref h0_work])), (h0_sha, .inr (9, [.ref h0_sha_sums, .ref h0_sha_schedule, .ref h0_sha_inner, .int c_sha_filled, .int c_sha_total])), (h0_sha_schedule, .inl (cy 1, 64, .inl c_sha_schedule)), (h0_sha_sums, .inl (cy 1, 8, .inl c_sha_sums)), (h0_work, .inl (cy 0, 64, .inl c_work))]) sz)) 0 0 (va_A ([(h0, .inr (8, [.ref h0_aes, .ref h0_modes, .ref h0_gcm, .ref h0_sha, .ref h0_generator, .ref h0_key, .ref h0_work])), (h0_sha, .inr (9, [.ref h0_sha_sums, .ref h0_sha_schedule, .ref h0_sha_inner, .int c_sha_filled, .int c_sha_total])), (h0_sha_schedule, .inl (cy 1, 64, .inl c_sha_schedule)), (h0_sha_sums, .inl (cy 1, 8, .inl c_sha_sums)), (h0_work, .inl (cy 0, 64, .inl c_work))]) sz) := by
  refine Met.ofW (cc := cX6_shaRight) (maxL := 2) (ret := (some .boolean)) (by decide) rfl ?_
  intro p e s m args below meth c s₁ B hml hv
  obtain ⟨rfl, rfl, hP, hD0, hE⟩ := hv
  have hx := B.exec
  have hb := B.bytes
  have hr := B.returns
  have hts := atoms_spec (ws := wsX6_shaRight) B.pre
  have hown : s.vm.findClass RX6 = some m.cls := findClass_of_methodNamed B.named
  have hlocks := B.notSynchronized
  clear B
  have hD := hD0.self (sz := s.heap.size)
  generalize hAe : va_A ([(h0, .inr (8, [.ref h0_aes, .ref h0_modes, .ref h0_gcm, .ref h0_sha, .ref h0_generator, .ref h0_key, .ref h0_work])), (h0_sha, .inr (9, [.ref h0_sha_sums, .ref h0_sha_schedule, .ref h0_sha_inner, .int c_sha_filled, .int c_sha_total])), (h0_sha_schedule, .inl (cy 1, 64, .inl c_sha_schedule)), (h0_sha_sums, .inl (cy 1, 8, .inl c_sha_sums)), (h0_work, .inl (cy 0, 64, .inl c_work))]) s.heap.size = A at hD hE ⊢
  have hA : ∀ q : Nat, s.heap.size ≤ q → A q := fun q h => by rw [← hAe]; exact Or.inr h
  clear hAe hD0
  have hS : va_S A s.heap s.heap [] := va_S.rf
  have hK := hE.1
  have hw0 := hts (.fieldLink RX6 162 "SealedModule$SelfTests" "ABC" "[J") (by decide +kernel)
  have hw1 := hts (.fieldLink RX6 15 "SealedModule$SelfTests" "work" "[B") (by decide +kernel)
  have hw2 := hts (.fieldLink RX6 30 "SealedModule$SelfTests" "sha" "LSealedModule$Sha256;") (by decide +kernel)
  have hw3 := hts (.fieldLink RX6 176 "SealedModule$SelfTests" "ABC_DIGEST" "[J") (by decide +kernel)
  have hcX6 : ∀ w ∈ u_ws RX6 TX6 7, w ∈ wsX6_shaRight := (fun _ h => List.mem_cons_of_mem _ (List.mem_append_left _ (List.mem_append_left _ (List.mem_append_right _ h))))
  have hl := lv_entry ([.ref h0, .int p1]) (n := 2) (Nat.le_of_ble_eq_true rfl)
  rw [lg_entry_eq]
  generalize (lg_sl ([.ref h0, .int p1]) ++ List.replicate (2 - (lg_sl ([.ref h0, .int p1])).length) Slot.unset).toArray = ls at hl ⊢
  replace hl : lv_has ls 2 [(0, .ref h0), (1, .int p1)] := hl
  unfold f_X6_shaRight at hf
  refine zgo (fun GW hTo hFr => ?_)
  refine hFr _ _ _ ?_
  obtain ⟨H, hHe⟩ : ∃ H, H = s.heap := ⟨_, rfl⟩
  obtain ⟨locs, hLe⟩ : ∃ L : List Loc, L = [] := ⟨_, rfl⟩
  rw [← hHe] at hP
  replace hS : va_S A s.heap H locs := by rw [hHe, hLe]; exact hS
  refine zat hHe.symm hLe.symm ?_
  clear hHe hLe
  refine lv_aload_n (pc := 0) hx hb (zdt_at zt_X6_shaRight_0 0 rfl) rfl (lv_at hl 0 rfl) ?_
  refine va_gets (pc := 1) hx hb (gT_17 hE.2.2).1 hS hown hw0 (fun _ h9 => h9) (zdt_at zt_X6_shaRight_0 1 rfl) ?_
  refine lv_iconst (pc := 4) (v := (0 : Int32)) hx hb (zdt_at zt_X6_shaRight_0 2 rfl) (by decide) ?_
  replace hf := zb_s hf
  obtain ⟨c_work_1, hc_, hf⟩ := hf
  refine zcn2 (pc := 5) (rv := none) (va_runV (As := [.ref (tt 17), .int (0 : Int32)]) (rest := []) ⟨hx, hb, hml, hown, hts⟩ (c_X6_put l D cy tt H.size h0 h0_aes h0_modes h0_gcm h0_sha h0_generator h0_key h0_work 17 (fun j => tb_ABC.getD j 0) 1 (0 : Int32) c_work _ _ _ c_work_1 rfl hc_) (cwV 2 hts gX6_shaRight_X6_put rfl rfl rfl (by decide +kernel) ⟨Nat.le_of_ble_eq_true rfl, Nat.le_of_ble_eq_true rfl⟩) ⟨zblind, va_recv hK hP (ci := 8) (q0 := 0) rfl rfl, zpre hE hS (hP.sub [0, 4] rfl) (hD.sub [0, 4] (by decide) rfl) (va_free hD hS hA [0, 4] rfl)⟩ rfl rfl hl.1 rfl (lv_room (Nat.le_of_ble_eq_true rfl)) (zdt_at zt_X6_shaRight_0 3 rfl) ⟨Nat.zero_le _, Nat.zero_le _⟩) hS hP hD (va_free hD hS hA [0, 4] rfl) [0, 4] rfl (by decide) rfl ?_
  clear hP hD hS hc_
  intro H locs hP hD hS
  replace hP : va_P D vwCl ([(h0, .inr (8, [.ref h0_aes, .ref h0_modes, .ref h0_gcm, .ref h0_sha, .ref h0_generator, .ref h0_key, .ref h0_work])), (h0_sha, .inr (9, [.ref h0_sha_sums, .ref h0_sha_schedule, .ref h0_sha_inner, .int c_sha_filled, .int c_sha_total])), (h0_sha_schedule, .inl (cy 1, 64, .inl c_sha_schedule)), (h0_sha_sums, .inl (cy 1, 8, .inl c_sha_sums)), (h0_work, .inl (cy 0, 64, .inl c_work_1))]) H := hP
  replace hD : va_D A ([(h0, .inr (8, [.ref h0_aes, .ref h0_modes, .ref h0_gcm, .ref h0_sha, .ref h0_generator, .ref h0_key, .ref h0_work])), (h0_sha, .inr (9, [.ref h0_sha_sums, .ref h0_sha_schedule, .ref h0_sha_inner, .int c_sha_filled, .int c_sha_total])), (h0_sha_schedule, .inl (cy 1, 64, .inl c_sha_schedule)), (h0_sha_sums, .inl (cy 1, 8, .inl c_sha_sums)), (h0_work, .inl (cy 0, 64, .inl c_work_1))]) := hD
  refine W.eq (g2 := F0 m 8 ls []) rfl ?_
  refine lv_aload_n (pc := 8) hx hb (zdt_at zt_X6_shaRight_0 4 rfl) rfl (lv_at hl 0 rfl) ?_
  refine va_get (pc := 9) (D := D) (ci := 8) (v := .ref h0_work) (C := RX6) (T := TX6) (N := 7) hx hb hts hcX6 hown hK hP 0 rfl rfl 6 (by decide) hw1 (fun _ h9 => h9) rfl (zdt_at zt_X6_shaRight_0 5 rfl) ?_
  refine lv_iconst (pc := 12) (v := (0 : Int32)) hx hb (zdt_at zt_X6_shaRight_0 6 rfl) (by decide) ?_
  refine lv_dup2_11 (pc := 13) hx hb (zdt_at zt_X6_shaRight_0 7 rfl) rfl rfl ?_
  replace hf := zk_s hf
  refine va_bald (pc := 14) hx hb hK hP 4 0 rfl rfl hf.1 (zdt_at zt_X6_shaRight_0 8 rfl) ?_
  replace hf := hf.2
  refine lv_iload_n (pc := 15) hx hb (zdt_at zt_X6_shaRight_0 9 rfl) rfl (lv_at hl 1 rfl) ?_
  refine lv_ixor (pc := 16) hx hb (zdt_at zt_X6_shaRight_0 10 rfl) ?_
  refine lv_i2b (pc := 17) hx hb (zdt_at zt_X6_shaRight_0 11 rfl) rfl ?_
  replace hf := zk_s hf
  refine va_bast (pc := 18) hx hb hK hP hD hS 4 0 rfl rfl hf.1 (zdt_at zt_X6_shaRight_0 12 rfl) ?_
  replace hf := hf.2
  clear hP hD hS
  intro H locs hP hD hS
  obtain ⟨c_work_2, e_⟩ : ∃ q : Nat → Int32, q = (upd c_work_1 (0 : Int32).toNatClampNeg (vp_nar .byte (((c_work_1 (0 : Int32).toNatClampNeg) ^^^ p1).toInt8.toInt32))) := ⟨_, rfl⟩
  replace hf := zn_s hf e_
  replace hP : va_P D vwCl ([(h0, .inr (8, [.ref h0_aes, .ref h0_modes, .ref h0_gcm, .ref h0_sha, .ref h0_generator, .ref h0_key, .ref h0_work])), (h0_sha, .inr (9, [.ref h0_sha_sums, .ref h0_sha_schedule, .ref h0_sha_inner, .int c_sha_filled, .int c_sha_total])), (h0_sha_schedule, .inl (cy 1, 64, .inl c_sha_schedule)), (h0_sha_sums, .inl (cy 1, 8, .inl c_sha_sums)), (h0_work, .inl (cy 0, 64, .inl c_work_2))]) H := by rw [e_]; exact hP
  replace hD : va_D A ([(h0, .inr (8, [.ref h0_aes, .ref h0_modes, .ref h0_gcm, .ref h0_sha, .ref h0_generator, .ref h0_key, .ref h0_work])), (h0_sha, .inr (9, [.ref h0_sha_sums, .ref h0_sha_schedule, .ref h0_sha_inner, .int c_sha_filled, .int c_sha_total])), (h0_sha_schedule, .inl (cy 1, 64, .inl c_sha_schedule)), (h0_sha_sums, .inl (cy 1, 8, .inl c_sha_sums)), (h0_work, .inl (cy 0, 64, .inl c_work_2))]) := by rw [e_]; exact hD
  clear e_
  refine lv_aload_n (pc := 19) hx hb (zdt_at zt_X6_shaRight_0 13 rfl) rfl (lv_at hl 0 rfl) ?_
  refine va_get (pc := 20) (D := D) (ci := 8) (v := .ref h0_sha) (C := RX6) (T := TX6) (N := 7) hx hb hts hcX6 hown hK hP 0 rfl rfl 3 (by decide) hw2 (fun _ h9 => h9) rfl (zdt_at zt_X6_shaRight_0 14 rfl) ?_
  replace hf := zb_s hf
  obtain ⟨⟨c_sha_filled_3, c_sha_total_4, c_sha_sums_5⟩, hc_, hf⟩ := hf
  refine zcn2 (pc := 23) (rv := none) (va_runV (As := []) (rest := []) ⟨hx, hb, hml, hown, hts⟩ (c_X7_begin l D cy tt H.size h0_sha h0_sha_sums h0_sha_schedule h0_sha_inner c_sha_filled c_sha_total c_sha_sums c_sha_filled_3 c_sha_total_4 c_sha_sums_5 hc_) (cwV 0 hts gX6_shaRight_X7_begin rfl rfl rfl (by decide +kernel) ⟨Nat.le_of_ble_eq_true rfl, Nat.le_of_ble_eq_true rfl⟩) ⟨zblind, va_recv hK hP (ci := 9) (q0 := 1) rfl rfl, zpre hE hS (hP.sub [1, 3] rfl) (hD.sub [1, 3] (by decide) rfl) (va_free hD hS hA [1, 3] rfl)⟩ rfl rfl hl.1 rfl (lv_room (Nat.le_of_ble_eq_true rfl)) (zdt_at zt_X6_shaRight_0 15 rfl) ⟨Nat.zero_le _, Nat.zero_le _⟩) hS hP hD (va_free hD hS hA [1, 3] rfl) [1, 3] rfl (by decide) rfl ?_
  clear hP hD hS hc_
  intro H locs hP hD hS
  replace hP : va_P D vwCl ([(h0, .inr (8, [.ref h0_aes, .ref h0_modes, .ref h0_gcm, .ref h0_sha, .ref h0_generator, .ref h0_key, .ref h0_work])), (h0_sha, .inr (9, [.ref h0_sha_sums, .ref h0_sha_schedule, .ref h0_sha_inner, .int c_sha_filled_3, .int c_sha_total_4])), (h0_sha_schedule, .inl (cy 1, 64, .inl c_sha_schedule)), (h0_sha_sums, .inl (cy 1, 8, .inl c_sha_sums_5)), (h0_work, .inl (cy 0, 64, .inl c_work_2))]) H := hP
  replace hD : va_D A ([(h0, .inr (8, [.ref h0_aes, .ref h0_modes, .ref h0_gcm, .ref h0_sha, .ref h0_generator, .ref h0_key, .ref h0_work])), (h0_sha, .inr (9, [.ref h0_sha_sums, .ref h0_sha_schedule, .ref h0_sha_inner, .int c_sha_filled_3, .int c_sha_total_4])), (h0_sha_schedule, .inl (cy 1, 64, .inl c_sha_schedule)), (h0_sha_sums, .inl (cy 1, 8, .inl c_sha_sums_5)), (h0_work, .inl (cy 0, 64, .inl c_work_2))]) := hD
  refine W.eq (g2 := F0 m 26 ls []) rfl ?_
  refine lv_aload_n (pc := 26) hx hb (zdt_at zt_X6_shaRight_0 16 rfl) rfl (lv_at hl 0 rfl) ?_
  refine va_get (pc := 27) (D := D) (ci := 8) (v := .ref h0_sha) (C := RX6) (T := TX6) (N := 7) hx hb hts hcX6 hown hK hP 0 rfl rfl 3 (by decide) hw2 (fun _ h9 => h9) rfl (zdt_at zt_X6_shaRight_0 17 rfl) ?_
  refine lv_aload_n (pc := 30) hx hb (zdt_at zt_X6_shaRight_0 18 rfl) rfl (lv_at hl 0 rfl) ?_
  refine va_get (pc := 31) (D := D) (ci := 8) (v := .ref h0_work) (C := RX6) (T := TX6) (N := 7) hx hb hts hcX6 hown hK hP 0 rfl rfl 6 (by decide) hw1 (fun _ h9 => h9) rfl (zdt_at zt_X6_shaRight_0 19 rfl) ?_
  refine lv_iconst (pc := 34) (v := (0 : Int32)) hx hb (zdt_at zt_X6_shaRight_0 20 rfl) (by decide) ?_
  refine lv_iconst (pc := 35) (v := (3 : Int32)) hx hb (zdt_at zt_X6_shaRight_0 21 rfl) (by decide) ?_
  replace hf := zb_s hf
  obtain ⟨⟨c_sha_filled_6, c_sha_total_7, c_sha_schedule_8, c_sha_sums_9⟩, hc_, hf⟩ := hf
  refine zcn2 (pc := 36) (rv := none) (va_runV (As := [.ref h0_work, .int (0 : Int32), .int (3 : Int32)]) (rest := []) ⟨hx, hb, hml, hown, hts⟩ (c_X7_take l D cy tt H.size h0_sha h0_sha_sums h0_sha_schedule h0_sha_inner h0_work 64 (0 : Int32) (3 : Int32) c_sha_filled_3 c_sha_total_4 c_sha_schedule c_sha_sums_5 c_work_2 c_sha_filled_6 c_sha_total_7 c_sha_schedule_8 c_sha_sums_9 hc_) (cwV 3 hts gX6_shaRight_X7_take rfl rfl rfl (by decide +kernel) ⟨Nat.le_of_ble_eq_true rfl, Nat.le_of_ble_eq_true rfl⟩) ⟨zblind, va_recv hK hP (ci := 9) (q0 := 1) rfl rfl, zpre hE hS (hP.sub [1, 2, 3, 4] rfl) (hD.sub [1, 2, 3, 4] (by decide) rfl) (va_free hD hS hA [1, 2, 3, 4] rfl)⟩ rfl rfl hl.1 rfl (lv_room (Nat.le_of_ble_eq_true rfl)) (zdt_at zt_X6_shaRight_0 22 rfl) ⟨Nat.zero_le _, Nat.zero_le _⟩) hS hP hD (va_free hD hS hA [1, 2, 3, 4] rfl) [1, 2, 3, 4] rfl (by decide) rfl ?_
  clear hP hD hS hc_
  intro H locs hP hD hS
  replace hP : va_P D vwCl ([(h0, .inr (8, [.ref h0_aes, .ref h0_modes, .ref h0_gcm, .ref h0_sha, .ref h0_generator, .ref h0_key, .ref h0_work])), (h0_sha, .inr (9, [.ref h0_sha_sums, .ref h0_sha_schedule, .ref h0_sha_inner, .int c_sha_filled_6, .int c_sha_total_7])), (h0_sha_schedule, .inl (cy 1, 64, .inl c_sha_schedule_8)), (h0_sha_sums, .inl (cy 1, 8, .inl c_sha_sums_9)), (h0_work, .inl (cy 0, 64, .inl c_work_2))]) H := hP
  replace hD : va_D A ([(h0, .inr (8, [.ref h0_aes, .ref h0_modes, .ref h0_gcm, .ref h0_sha, .ref h0_generator, .ref h0_key, .ref h0_work])), (h0_sha, .inr (9, [.ref h0_sha_sums, .ref h0_sha_schedule, .ref h0_sha_inner, .int c_sha_filled_6, .int c_sha_total_7])), (h0_sha_schedule, .inl (cy 1, 64, .inl c_sha_schedule_8)), (h0_sha_sums, .inl (cy 1, 8, .inl c_sha_sums_9)), (h0_work, .inl (cy 0, 64, .inl c_work_2))]) := hD
  refine W.eq (g2 := F0 m 39 ls []) rfl ?_
  refine lv_aload_n (pc := 39) hx hb (zdt_at zt_X6_shaRight_0 23 rfl) rfl (lv_at hl 0 rfl) ?_
  refine va_get (pc := 40) (D := D) (ci := 8) (v := .ref h0_sha) (C := RX6) (T := TX6) (N := 7) hx hb hts hcX6 hown hK hP 0 rfl rfl 3 (by decide) hw2 (fun _ h9 => h9) rfl (zdt_at zt_X6_shaRight_0 24 rfl) ?_
  refine lv_aload_n (pc := 43) hx hb (zdt_at zt_X6_shaRight_0 25 rfl) rfl (lv_at hl 0 rfl) ?_
  refine va_get (pc := 44) (D := D) (ci := 8) (v := .ref h0_work) (C := RX6) (T := TX6) (N := 7) hx hb hts hcX6 hown hK hP 0 rfl rfl 6 (by decide) hw1 (fun _ h9 => h9) rfl (zdt_at zt_X6_shaRight_0 26 rfl) ?_
  refine lv_iconst (pc := 47) (v := (0 : Int32)) hx hb (zdt_at zt_X6_shaRight_0 27 rfl) (by decide) ?_
  replace hf := zb_s hf
  obtain ⟨⟨c_sha_filled_10, c_sha_schedule_11, c_sha_sums_12, c_work_13⟩, hc_, hf⟩ := hf
  refine zcn2 (pc := 48) (rv := none) (va_runV (As := [.ref h0_work, .int (0 : Int32)]) (rest := []) ⟨hx, hb, hml, hown, hts⟩ (c_X7_end l D cy tt H.size h0_sha h0_sha_sums h0_sha_schedule h0_sha_inner h0_work 64 (0 : Int32) c_sha_filled_6 c_sha_total_7 c_sha_schedule_8 c_sha_sums_9 c_work_2 c_sha_filled_10 c_sha_schedule_11 c_sha_sums_12 c_work_13 hc_) (cwV 2 hts gX6_shaRight_X7_end rfl rfl rfl (by decide +kernel) ⟨Nat.le_of_ble_eq_true rfl, Nat.le_of_ble_eq_true rfl⟩) ⟨zblind, va_recv hK hP (ci := 9) (q0 := 1) rfl rfl, zpre hE hS (hP.sub [1, 2, 3, 4] rfl) (hD.sub [1, 2, 3, 4] (by decide) rfl) (va_free hD hS hA [1, 2, 3, 4] rfl)⟩ rfl rfl hl.1 rfl (lv_room (Nat.le_of_ble_eq_true rfl)) (zdt_at zt_X6_shaRight_0 28 rfl) ⟨Nat.zero_le _, Nat.zero_le _⟩) hS hP hD (va_free hD hS hA [1, 2, 3, 4] rfl) [1, 2, 3, 4] rfl (by decide) rfl ?_
  clear hP hD hS hc_
  intro H locs hP hD hS
  replace hP : va_P D vwCl ([(h0, .inr (8, [.ref h0_aes, .ref h0_modes, .ref h0_gcm, .ref h0_sha, .ref h0_generator, .ref h0_key, .ref h0_work])), (h0_sha, .inr (9, [.ref h0_sha_sums, .ref h0_sha_schedule, .ref h0_sha_inner, .int c_sha_filled_10, .int c_sha_total_7])), (h0_sha_schedule, .inl (cy 1, 64, .inl c_sha_schedule_11)), (h0_sha_sums, .inl (cy 1, 8, .inl c_sha_sums_12)), (h0_work, .inl (cy 0, 64, .inl c_work_13))]) H := hP
  replace hD : va_D A ([(h0, .inr (8, [.ref h0_aes, .ref h0_modes, .ref h0_gcm, .ref h0_sha, .ref h0_generator, .ref h0_key, .ref h0_work])), (h0_sha, .inr (9, [.ref h0_sha_sums, .ref h0_sha_schedule, .ref h0_sha_inner, .int c_sha_filled_10, .int c_sha_total_7])), (h0_sha_schedule, .inl (cy 1, 64, .inl c_sha_schedule_11)), (h0_sha_sums, .inl (cy 1, 8, .inl c_sha_sums_12)), (h0_work, .inl (cy 0, 64, .inl c_work_13))]) := hD
  refine W.eq (g2 := F0 m 51 ls []) rfl ?_
  refine lv_aload_n (pc := 51) hx hb (zdt_at zt_X6_shaRight_0 29 rfl) rfl (lv_at hl 0 rfl) ?_
  refine va_gets (pc := 52) hx hb (gT_18 hE.2.2).1 hS hown hw3 (fun _ h9 => h9) (zdt_at zt_X6_shaRight_0 30 rfl) ?_
  refine lv_iconst (pc := 55) (v := (0 : Int32)) hx hb (zdt_at zt_X6_shaRight_0 31 rfl) (by decide) ?_
  replace hf := zb_s hf
  obtain ⟨r_14, hc_, hf⟩ := hf
  refine zcs (pc := 56) (rv := (some (.int r_14))) (va_runV (As := [.ref (tt 18), .int (0 : Int32)]) (rest := []) ⟨hx, hb, hml, hown, hts⟩ (c_X6_stands l D cy tt H.size h0 h0_aes h0_modes h0_gcm h0_sha h0_generator h0_key h0_work 18 (fun j => tb_ABC_DIGEST.getD j 0) 4 (0 : Int32) c_work_13 _ _ _ r_14 rfl hc_) (cwV 2 hts gX6_shaRight_X6_stands rfl rfl rfl (by decide +kernel) ⟨Nat.le_of_ble_eq_true rfl, Nat.le_of_ble_eq_true rfl⟩) ⟨zblind, va_recv hK hP (ci := 8) (q0 := 0) rfl rfl, zpre hE hS (hP.sub [0, 4] rfl) (hD.sub [0, 4] (by decide) rfl) (va_free hD hS hA [0, 4] rfl)⟩ rfl rfl hl.1 rfl (lv_room (Nat.le_of_ble_eq_true rfl)) (zdt_at zt_X6_shaRight_0 32 rfl) ⟨Nat.zero_le _, Nat.zero_le _⟩) ?_
  clear hc_
  refine W.eq (g2 := F0 m 59 ls [.int r_14]) rfl ?_
  replace hf := zk_s hf
  have hv_ := hf.1
  replace hf := hf.2
  cases hf
  exact W.zret (pc := 59) hx hb hr (zz_nar hv_) (fun t ht hW => ⟨rfl, ⟨by rw [ht]; exact hP, hD⟩, hS.F ht⟩) hS.2.2 (zdt_at zt_X6_shaRight_0 33 rfl)
set_option maxHeartbeats 4000000 in
set_option maxRecDepth 100000 in
theorem c_X4_cmac_4a1 (l : Launch) (D : va_G) (cy : Nat → ClassId) (tt : Nat → Nat) (sz : Nat) (h0 : Nat) (h0_aes : Nat) (h0_block : Nat) (h0_pad : Nat) (h0_aes_keys : Nat) (ha1 : Nat) (n_a1 : Nat) (p2 : Int32) (p3 : Int32) (p5 : Int32) (c_aes_rounds : Int32) (c_aes_keys : Nat → Int32) (c_block : Nat → Int32) (c_pad : Nat → Int32) (ca1 : Nat → Int32) (c_block' : Nat → Int32) (c_pad' : Nat → Int32) (ca1' : Nat → Int32) (hf : f_X4_cmac_4a1 n_a1 p2 p3 p5 c_aes_rounds c_aes_keys c_block c_pad ca1 = some (c_block', c_pad', ca1')) : Met l yX4_cmac wsX4_cmac ({ frames := 3, cells := 0, slots := 0, locals := 69 }) (zPc D cy tt sz [.ref h0, .ref ha1, .int p2, .int p3, .ref ha1, .int p5] ([(h0, .inr (6, [.ref h0_aes, .ref h0_block, .ref h0_pad])), (h0_aes, .inr (2, [.ref h0_aes_keys, .int c_aes_rounds])), (h0_aes_keys, .inl (cy 1, 60, .inl c_aes_keys)), (h0_block, .inl (cy 0, 16, .inl c_block)), (h0_pad, .inl (cy 0, 16, .inl c_pad)), (ha1, .inl (cy 0, n_a1, .inl ca1))])) (zQ D none ([(h0, .inr (6, [.ref h0_aes, .ref h0_block, .ref h0_pad])), (h0_aes, .inr (2, [.ref h0_aes_keys, .int c_aes_rounds])), (h0_aes_keys, .inl (cy 1, 60, .inl c_aes_keys)), (h0_block, .inl (cy 0, 16, .inl c_block')), (h0_pad, .inl (cy 0, 16, .inl c_pad')), (ha1, .inl (cy 0, n_a1, .inl ca1'))]) (va_A ([(h0, .inr (6, [.ref h0_aes, .ref h0_block, .ref h0_pad])), (h0_aes, .inr (2, [.ref h0_aes_keys, .int c_aes_rounds])), (h0_aes_keys, .inl (cy 1, 60, .inl c_aes_keys)), (h0_block, .inl (cy 0, 16, .inl c_block)), (h0_pad, .inl (cy 0, 16, .inl c_pad)), (ha1, .inl (cy 0, n_a1, .inl ca1))]) sz)) 0 0 (va_A ([(h0, .inr (6, [.ref h0_aes, .ref h0_block, .ref h0_pad])), (h0_aes, .inr (2, [.ref h0_aes_keys, .int c_aes_rounds])), (h0_aes_keys, .inl (cy 1, 60, .inl c_aes_keys)), (h0_block, .inl (cy 0, 16, .inl c_block)), (h0_pad, .inl (cy 0, 16, .inl c_pad)), (ha1, .inl (cy 0, n_a1, .inl ca1))]) sz) := by
  refine Met.ofW (cc := cX4_cmac) (maxL := 7) (ret := none) (by decide) rfl ?_
  intro p e s m args below meth c s₁ B hml hv
  obtain ⟨rfl, rfl, hP, hD0, hE⟩ := hv
  have hx := B.exec
  have hb := B.bytes
  have hr := B.returns
  have hts := atoms_spec (ws := wsX4_cmac) B.pre
  have hown : s.vm.findClass RX4 = some m.cls := findClass_of_methodNamed B.named
  have hlocks := B.notSynchronized
  clear B
  have hD := hD0.self (sz := s.heap.size)
  generalize hAe : va_A ([(h0, .inr (6, [.ref h0_aes, .ref h0_block, .ref h0_pad])), (h0_aes, .inr (2, [.ref h0_aes_keys, .int c_aes_rounds])), (h0_aes_keys, .inl (cy 1, 60, .inl c_aes_keys)), (h0_block, .inl (cy 0, 16, .inl c_block)), (h0_pad, .inl (cy 0, 16, .inl c_pad)), (ha1, .inl (cy 0, n_a1, .inl ca1))]) s.heap.size = A at hD hE ⊢
  have hA : ∀ q : Nat, s.heap.size ≤ q → A q := fun q h => by rw [← hAe]; exact Or.inr h
  clear hAe hD0
  have hS : va_S A s.heap s.heap [] := va_S.rf
  have hK := hE.1
  have hw0 := hts (.fieldLink RX4 15 "SealedModule$Modes" "pad" "[B") (by decide +kernel)
  have hw1 := hts (.fieldLink RX4 18 "SealedModule$Modes" "aes" "LSealedModule$Aes;") (by decide +kernel)
  have hw2 := hts (.fieldLink RX4 9 "SealedModule$Modes" "block" "[B") (by decide +kernel)
  have hw3 := hts (.initialized RX9) (by decide +kernel)
  have hw4 := hts (.static yX9_xorBytes) (by decide +kernel)
  have hw5 := hts (.methodLink RX4 35 arraycopyName) (by decide +kernel)
  have hw6 := hts (.native arraycopyName) (by decide +kernel)
  have hw7 := hts (.static arraycopyName) (by decide +kernel)
  have hw8 := hts (.initialized "java/lang/System") (by decide +kernel)
  have hcX4 : ∀ w ∈ u_ws RX4 TX4 3, w ∈ wsX4_cmac := (fun _ h => List.mem_cons_of_mem _ (List.mem_append_left _ (List.mem_append_right _ h)))
  have hl := lv_entry ([.ref h0, .ref ha1, .int p2, .int p3, .ref ha1, .int p5]) (n := 7) (Nat.le_of_ble_eq_true rfl)
  rw [lg_entry_eq]
  generalize (lg_sl ([.ref h0, .ref ha1, .int p2, .int p3, .ref ha1, .int p5]) ++ List.replicate (7 - (lg_sl ([.ref h0, .ref ha1, .int p2, .int p3, .ref ha1, .int p5])).length) Slot.unset).toArray = ls at hl ⊢
  replace hl : lv_has ls 7 [(0, .ref h0), (1, .ref ha1), (2, .int p2), (3, .int p3), (4, .ref ha1), (5, .int p5)] := hl
  unfold f_X4_cmac_4a1 at hf
  refine zgo (fun GW hTo hFr => ?_)
  refine hFr _ _ _ ?_
  obtain ⟨H, hHe⟩ : ∃ H, H = s.heap := ⟨_, rfl⟩
  obtain ⟨locs, hLe⟩ : ∃ L : List Loc, L = [] := ⟨_, rfl⟩
  rw [← hHe] at hP
  replace hS : va_S A s.heap H locs := by rw [hHe, hLe]; exact hS
  refine zat hHe.symm hLe.symm ?_
  clear hHe hLe
  refine lv_aload_n (pc := 0) hx hb (zdt_at zt_X4_cmac_0 0 rfl) rfl (lv_at hl 0 rfl) ?_
  refine va_get (pc := 1) (D := D) (ci := 6) (v := .ref h0_pad) (C := RX4) (T := TX4) (N := 3) hx hb hts hcX4 hown hK hP 0 rfl rfl 2 (by decide) hw0 (fun _ h9 => h9) rfl (zdt_at zt_X4_cmac_0 1 rfl) ?_
  refine lv_iconst (pc := 4) (v := (0 : Int32)) hx hb (zdt_at zt_X4_cmac_0 2 rfl) (by decide) ?_
  replace hf := zb_s hf
  obtain ⟨c_pad_1, hc_, hf⟩ := hf
  refine zcn2 (pc := 5) (rv := none) (va_runS (As := [.ref h0_pad, .int (0 : Int32)]) (rest := []) ⟨hx, hb, hml, hown, hts⟩ (c_J7_fill_031fb l D cy tt H.size h0_pad 16 (0 : Int32) c_pad c_pad_1 hc_) (va_cwS 2 hts gX4_cmac_J7_fill_031fb rfl rfl rfl (by decide +kernel) ⟨Nat.le_of_ble_eq_true rfl, Nat.le_of_ble_eq_true rfl⟩) ⟨zblind, zpre hE hS (hP.sub [4] rfl) (hD.sub [4] (by decide) rfl) (va_free hD hS hA [4] rfl)⟩ rfl rfl hl.1 rfl (lv_room (Nat.le_of_ble_eq_true rfl)) (zdt_at zt_X4_cmac_0 3 rfl) ⟨Nat.zero_le _, Nat.zero_le _⟩) hS hP hD (va_free hD hS hA [4] rfl) [4] rfl (by decide) rfl ?_
  clear hP hD hS hc_
  intro H locs hP hD hS
  replace hP : va_P D vwCl ([(h0, .inr (6, [.ref h0_aes, .ref h0_block, .ref h0_pad])), (h0_aes, .inr (2, [.ref h0_aes_keys, .int c_aes_rounds])), (h0_aes_keys, .inl (cy 1, 60, .inl c_aes_keys)), (h0_block, .inl (cy 0, 16, .inl c_block)), (h0_pad, .inl (cy 0, 16, .inl c_pad_1)), (ha1, .inl (cy 0, n_a1, .inl ca1))]) H := hP
  replace hD : va_D A ([(h0, .inr (6, [.ref h0_aes, .ref h0_block, .ref h0_pad])), (h0_aes, .inr (2, [.ref h0_aes_keys, .int c_aes_rounds])), (h0_aes_keys, .inl (cy 1, 60, .inl c_aes_keys)), (h0_block, .inl (cy 0, 16, .inl c_block)), (h0_pad, .inl (cy 0, 16, .inl c_pad_1)), (ha1, .inl (cy 0, n_a1, .inl ca1))]) := hD
  refine W.eq (g2 := F0 m 8 ls []) rfl ?_
  refine lv_aload_n (pc := 8) hx hb (zdt_at zt_X4_cmac_0 4 rfl) rfl (lv_at hl 0 rfl) ?_
  refine va_get (pc := 9) (D := D) (ci := 6) (v := .ref h0_aes) (C := RX4) (T := TX4) (N := 3) hx hb hts hcX4 hown hK hP 0 rfl rfl 0 (by decide) hw1 (fun _ h9 => h9) rfl (zdt_at zt_X4_cmac_0 5 rfl) ?_
  refine lv_aload_n (pc := 12) hx hb (zdt_at zt_X4_cmac_0 6 rfl) rfl (lv_at hl 0 rfl) ?_
  refine va_get (pc := 13) (D := D) (ci := 6) (v := .ref h0_pad) (C := RX4) (T := TX4) (N := 3) hx hb hts hcX4 hown hK hP 0 rfl rfl 2 (by decide) hw0 (fun _ h9 => h9) rfl (zdt_at zt_X4_cmac_0 7 rfl) ?_
  refine lv_iconst (pc := 16) (v := (0 : Int32)) hx hb (zdt_at zt_X4_cmac_0 8 rfl) (by decide) ?_
  replace hf := zb_s hf
  obtain ⟨c_pad_2, hc_, hf⟩ := hf
  refine zcn2 (pc := 17) (rv := none) (va_runV (As := [.ref h0_pad, .int (0 : Int32)]) (rest := []) ⟨hx, hb, hml, hown, hts⟩ (c_X0_encrypt l D cy tt H.size h0_aes h0_aes_keys h0_pad 16 (0 : Int32) c_aes_rounds c_aes_keys c_pad_1 c_pad_2 hc_) (cwV 2 hts gX4_cmac_X0_encrypt rfl rfl rfl (by decide +kernel) ⟨Nat.le_of_ble_eq_true rfl, Nat.le_of_ble_eq_true rfl⟩) ⟨zblind, va_recv hK hP (ci := 2) (q0 := 1) rfl rfl, zpre hE hS (hP.sub [1, 2, 4] rfl) (hD.sub [1, 2, 4] (by decide) rfl) (va_free hD hS hA [1, 2, 4] rfl)⟩ rfl rfl hl.1 rfl (lv_room (Nat.le_of_ble_eq_true rfl)) (zdt_at zt_X4_cmac_0 9 rfl) ⟨Nat.zero_le _, Nat.zero_le _⟩) hS hP hD (va_free hD hS hA [1, 2, 4] rfl) [1, 2, 4] rfl (by decide) rfl ?_
  clear hP hD hS hc_
  intro H locs hP hD hS
  replace hP : va_P D vwCl ([(h0, .inr (6, [.ref h0_aes, .ref h0_block, .ref h0_pad])), (h0_aes, .inr (2, [.ref h0_aes_keys, .int c_aes_rounds])), (h0_aes_keys, .inl (cy 1, 60, .inl c_aes_keys)), (h0_block, .inl (cy 0, 16, .inl c_block)), (h0_pad, .inl (cy 0, 16, .inl c_pad_2)), (ha1, .inl (cy 0, n_a1, .inl ca1))]) H := hP
  replace hD : va_D A ([(h0, .inr (6, [.ref h0_aes, .ref h0_block, .ref h0_pad])), (h0_aes, .inr (2, [.ref h0_aes_keys, .int c_aes_rounds])), (h0_aes_keys, .inl (cy 1, 60, .inl c_aes_keys)), (h0_block, .inl (cy 0, 16, .inl c_block)), (h0_pad, .inl (cy 0, 16, .inl c_pad_2)), (ha1, .inl (cy 0, n_a1, .inl ca1))]) := hD
  refine W.eq (g2 := F0 m 20 ls []) rfl ?_
  refine lv_aload_n (pc := 20) hx hb (zdt_at zt_X4_cmac_0 10 rfl) rfl (lv_at hl 0 rfl) ?_
  replace hf := zb_s hf
  obtain ⟨c_pad_3, hc_, hf⟩ := hf
  refine zcn2 (pc := 21) (rv := none) (va_runV (As := []) (rest := []) ⟨hx, hb, hml, hown, hts⟩ (c_X4_doublePad l D cy tt H.size h0 h0_aes h0_block h0_pad c_pad_2 c_pad_3 hc_) (cwV 0 hts gX4_cmac_X4_doublePad rfl rfl rfl (by decide +kernel) ⟨Nat.le_of_ble_eq_true rfl, Nat.le_of_ble_eq_true rfl⟩) ⟨zblind, va_recv hK hP (ci := 6) (q0 := 0) rfl rfl, zpre hE hS (hP.sub [0, 4] rfl) (hD.sub [0, 4] (by decide) rfl) (va_free hD hS hA [0, 4] rfl)⟩ rfl rfl hl.1 rfl (lv_room (Nat.le_of_ble_eq_true rfl)) (zdt_at zt_X4_cmac_0 11 rfl) ⟨Nat.zero_le _, Nat.zero_le _⟩) hS hP hD (va_free hD hS hA [0, 4] rfl) [0, 4] rfl (by decide) rfl ?_
  clear hP hD hS hc_
  intro H locs hP hD hS
  replace hP : va_P D vwCl ([(h0, .inr (6, [.ref h0_aes, .ref h0_block, .ref h0_pad])), (h0_aes, .inr (2, [.ref h0_aes_keys, .int c_aes_rounds])), (h0_aes_keys, .inl (cy 1, 60, .inl c_aes_keys)), (h0_block, .inl (cy 0, 16, .inl c_block)), (h0_pad, .inl (cy 0, 16, .inl c_pad_3)), (ha1, .inl (cy 0, n_a1, .inl ca1))]) H := hP
  replace hD : va_D A ([(h0, .inr (6, [.ref h0_aes, .ref h0_block, .ref h0_pad])), (h0_aes, .inr (2, [.ref h0_aes_keys, .int c_aes_rounds])), (h0_aes_keys, .inl (cy 1, 60, .inl c_aes_keys)), (h0_block, .inl (cy 0, 16, .inl c_block)), (h0_pad, .inl (cy 0, 16, .inl c_pad_3)), (ha1, .inl (cy 0, n_a1, .inl ca1))]) := hD
  refine W.eq (g2 := F0 m 24 ls []) rfl ?_
  refine lv_aload_n (pc := 24) hx hb (zdt_at zt_X4_cmac_0 12 rfl) rfl (lv_at hl 0 rfl) ?_
  refine va_get (pc := 25) (D := D) (ci := 6) (v := .ref h0_block) (C := RX4) (T := TX4) (N := 3) hx hb hts hcX4 hown hK hP 0 rfl rfl 1 (by decide) hw2 (fun _ h9 => h9) rfl (zdt_at zt_X4_cmac_0 13 rfl) ?_
  refine lv_iconst (pc := 28) (v := (0 : Int32)) hx hb (zdt_at zt_X4_cmac_0 14 rfl) (by decide) ?_
  replace hf := zb_s hf
  obtain ⟨c_block_4, hc_, hf⟩ := hf
  refine zcn2 (pc := 29) (rv := none) (va_runS (As := [.ref h0_block, .int (0 : Int32)]) (rest := []) ⟨hx, hb, hml, hown, hts⟩ (c_J7_fill_031fb l D cy tt H.size h0_block 16 (0 : Int32) c_block c_block_4 hc_) (va_cwS 2 hts gX4_cmac_J7_fill_031fb rfl rfl rfl (by decide +kernel) ⟨Nat.le_of_ble_eq_true rfl, Nat.le_of_ble_eq_true rfl⟩) ⟨zblind, zpre hE hS (hP.sub [3] rfl) (hD.sub [3] (by decide) rfl) (va_free hD hS hA [3] rfl)⟩ rfl rfl hl.1 rfl (lv_room (Nat.le_of_ble_eq_true rfl)) (zdt_at zt_X4_cmac_0 15 rfl) ⟨Nat.zero_le _, Nat.zero_le _⟩) hS hP hD (va_free hD hS hA [3] rfl) [3] rfl (by decide) rfl ?_
  clear hP hD hS hc_
  intro H locs hP hD hS
  replace hP : va_P D vwCl ([(h0, .inr (6, [.ref h0_aes, .ref h0_block, .ref h0_pad])), (h0_aes, .inr (2, [.ref h0_aes_keys, .int c_aes_rounds])), (h0_aes_keys, .inl (cy 1, 60, .inl c_aes_keys)), (h0_block, .inl (cy 0, 16, .inl c_block_4)), (h0_pad, .inl (cy 0, 16, .inl c_pad_3)), (ha1, .inl (cy 0, n_a1, .inl ca1))]) H := hP
  replace hD : va_D A ([(h0, .inr (6, [.ref h0_aes, .ref h0_block, .ref h0_pad])), (h0_aes, .inr (2, [.ref h0_aes_keys, .int c_aes_rounds])), (h0_aes_keys, .inl (cy 1, 60, .inl c_aes_keys)), (h0_block, .inl (cy 0, 16, .inl c_block_4)), (h0_pad, .inl (cy 0, 16, .inl c_pad_3)), (ha1, .inl (cy 0, n_a1, .inl ca1))]) := hD
  refine W.eq (g2 := F0 m 32 ls []) rfl ?_
  refine lv_iconst (pc := 32) (v := (0 : Int32)) hx hb (zdt_at zt_X4_cmac_0 16 rfl) (by decide) ?_
  refine lv_istore (pc := 33) (lv' := [(6, .int (0 : Int32)), (0, .ref h0), (1, .ref ha1), (2, .int p2), (3, .int p3), (4, .ref ha1), (5, .int p5)]) hx hb (zdt_at zt_X4_cmac_0 17 rfl) hl (by decide) rfl ?_
  clear hl
  intro ls hl
  replace hf := zj_s hf
  obtain ⟨K_9, eK_9, hf⟩ := hf
  have kK_9 : ∀ (v_7 : Int32) (c_block_8 : Nat → Int32) (H : Heap) (locs : List Loc) (ls : Array Slot), va_P D vwCl ([(h0, .inr (6, [.ref h0_aes, .ref h0_block, .ref h0_pad])), (h0_aes, .inr (2, [.ref h0_aes_keys, .int c_aes_rounds])), (h0_aes_keys, .inl (cy 1, 60, .inl c_aes_keys)), (h0_block, .inl (cy 0, 16, .inl c_block_8)), (h0_pad, .inl (cy 0, 16, .inl c_pad_3)), (ha1, .inl (cy 0, n_a1, .inl ca1))]) H → va_D A ([(h0, .inr (6, [.ref h0_aes, .ref h0_block, .ref h0_pad])), (h0_aes, .inr (2, [.ref h0_aes_keys, .int c_aes_rounds])), (h0_aes_keys, .inl (cy 1, 60, .inl c_aes_keys)), (h0_block, .inl (cy 0, 16, .inl c_block_8)), (h0_pad, .inl (cy 0, 16, .inl c_pad_3)), (ha1, .inl (cy 0, n_a1, .inl ca1))]) → va_S A s.heap H locs → lv_has ls 7 [(0, .ref h0), (1, .ref ha1), (2, .int p2), (3, .int p3), (4, .ref ha1), (5, .int p5), (6, .int v_7)] → K_9 v_7 c_block_8 = some (c_block', c_pad', ca1') → GW H locs (F0 m 77 ls []) := by
    clear hf hl hP hD hS
    intro v_7 c_block_8 H locs ls hP hD hS hl hf
    rw [eK_9] at hf
    clear eK_9
    refine hFr _ _ _ ?_
    refine lv_aload_n (pc := 77) hx hb (zdt_at zt_X4_cmac_0 40 rfl) rfl (lv_at hl 1 rfl) ?_
    refine lv_iload_n (pc := 78) hx hb (zdt_at zt_X4_cmac_0 41 rfl) rfl (lv_at hl 2 rfl) ?_
    refine lv_iload (pc := 79) hx hb (zdt_at zt_X4_cmac_0 42 rfl) (lv_at hl 6 rfl) ?_
    refine lv_iadd (pc := 81) hx hb (zdt_at zt_X4_cmac_0 43 rfl) ?_
    refine lv_aload_n (pc := 82) hx hb (zdt_at zt_X4_cmac_0 44 rfl) rfl (lv_at hl 0 rfl) ?_
    refine va_get (pc := 83) (D := D) (ci := 6) (v := .ref h0_block) (C := RX4) (T := TX4) (N := 3) hx hb hts hcX4 hown hK hP 0 rfl rfl 1 (by decide) hw2 (fun _ h9 => h9) rfl (zdt_at zt_X4_cmac_0 45 rfl) ?_
    refine lv_iconst (pc := 86) (v := (0 : Int32)) hx hb (zdt_at zt_X4_cmac_0 46 rfl) (by decide) ?_
    refine lv_iload_n (pc := 87) hx hb (zdt_at zt_X4_cmac_0 47 rfl) rfl (lv_at hl 3 rfl) ?_
    refine lv_iload (pc := 88) hx hb (zdt_at zt_X4_cmac_0 48 rfl) (lv_at hl 6 rfl) ?_
    refine lv_isub (pc := 90) hx hb (zdt_at zt_X4_cmac_0 49 rfl) ?_
    replace hf := zb_s hf
    obtain ⟨c_block_10, hc_, hf⟩ := hf
    refine zcn2 (pc := 91) (rv := none) (va_runSN (As := [.ref ha1, .int (p2 + v_7), .ref h0_block, .int (0 : Int32), .int (p3 - v_7)]) (rest := []) ⟨hx, hb, hml, hown, hts⟩ (c_X9_xorBytes l D cy tt H.size ha1 h0_block n_a1 16 (p2 + v_7) (0 : Int32) (p3 - v_7) ca1 c_block_8 c_block_10 hc_) ⟨va_cnB 5 hts gX4_cmac_X9_xorBytes_n31 rfl rfl rfl (gNs_7 hE.2.1) hw3 (by decide +kernel) ⟨Nat.le_of_ble_eq_true rfl, Nat.le_of_ble_eq_true rfl⟩, hw4, trivial⟩ ⟨zblind, zpre hE hS (hP.sub [5, 3] rfl) (hD.sub [5, 3] (by decide) rfl) (va_free hD hS hA [5, 3] rfl)⟩ rfl rfl hl.1 rfl (lv_room (Nat.le_of_ble_eq_true rfl)) (zdt_at zt_X4_cmac_0 50 rfl) ⟨Nat.zero_le _, Nat.zero_le _⟩) hS hP hD (va_free hD hS hA [5, 3] rfl) [5, 3] rfl (by decide) rfl ?_
    clear hP hD hS hc_
    intro H locs hP hD hS
    replace hP : va_P D vwCl ([(h0, .inr (6, [.ref h0_aes, .ref h0_block, .ref h0_pad])), (h0_aes, .inr (2, [.ref h0_aes_keys, .int c_aes_rounds])), (h0_aes_keys, .inl (cy 1, 60, .inl c_aes_keys)), (h0_block, .inl (cy 0, 16, .inl c_block_10)), (h0_pad, .inl (cy 0, 16, .inl c_pad_3)), (ha1, .inl (cy 0, n_a1, .inl ca1))]) H := hP
    replace hD : va_D A ([(h0, .inr (6, [.ref h0_aes, .ref h0_block, .ref h0_pad])), (h0_aes, .inr (2, [.ref h0_aes_keys, .int c_aes_rounds])), (h0_aes_keys, .inl (cy 1, 60, .inl c_aes_keys)), (h0_block, .inl (cy 0, 16, .inl c_block_10)), (h0_pad, .inl (cy 0, 16, .inl c_pad_3)), (ha1, .inl (cy 0, n_a1, .inl ca1))]) := hD
    refine W.eq (g2 := F0 m 94 ls []) rfl ?_
    refine lv_iload_n (pc := 94) hx hb (zdt_at zt_X4_cmac_0 51 rfl) rfl (lv_at hl 3 rfl) ?_
    refine lv_iload (pc := 95) hx hb (zdt_at zt_X4_cmac_0 52 rfl) (lv_at hl 6 rfl) ?_
    refine lv_isub (pc := 97) hx hb (zdt_at zt_X4_cmac_0 53 rfl) ?_
    refine lv_bipush (pc := 98) (v := (16 : Int32)) hx hb (zdt_at zt_X4_cmac_0 54 rfl) (by decide) ?_
    replace hf := zj_s hf
    obtain ⟨K_13, eK_13, hf⟩ := hf
    have kK_13 : ∀ (c_block_11 : Nat → Int32) (c_pad_12 : Nat → Int32) (H : Heap) (locs : List Loc) (ls : Array Slot), va_P D vwCl ([(h0, .inr (6, [.ref h0_aes, .ref h0_block, .ref h0_pad])), (h0_aes, .inr (2, [.ref h0_aes_keys, .int c_aes_rounds])), (h0_aes_keys, .inl (cy 1, 60, .inl c_aes_keys)), (h0_block, .inl (cy 0, 16, .inl c_block_11)), (h0_pad, .inl (cy 0, 16, .inl c_pad_12)), (ha1, .inl (cy 0, n_a1, .inl ca1))]) H → va_D A ([(h0, .inr (6, [.ref h0_aes, .ref h0_block, .ref h0_pad])), (h0_aes, .inr (2, [.ref h0_aes_keys, .int c_aes_rounds])), (h0_aes_keys, .inl (cy 1, 60, .inl c_aes_keys)), (h0_block, .inl (cy 0, 16, .inl c_block_11)), (h0_pad, .inl (cy 0, 16, .inl c_pad_12)), (ha1, .inl (cy 0, n_a1, .inl ca1))]) → va_S A s.heap H locs → lv_has ls 7 [(0, .ref h0), (4, .ref ha1), (5, .int p5)] → K_13 c_block_11 c_pad_12 = some (c_block', c_pad', ca1') → GW H locs (F0 m 122 ls []) := by
      clear hf hl hP hD hS
      intro c_block_11 c_pad_12 H locs ls hP hD hS hl hf
      rw [eK_13] at hf
      clear eK_13
      refine hFr _ _ _ ?_
      refine lv_aload_n (pc := 122) hx hb (zdt_at zt_X4_cmac_1 5 rfl) rfl (lv_at hl 0 rfl) ?_
      refine va_get (pc := 123) (D := D) (ci := 6) (v := .ref h0_pad) (C := RX4) (T := TX4) (N := 3) hx hb hts hcX4 hown hK hP 0 rfl rfl 2 (by decide) hw0 (fun _ h9 => h9) rfl (zdt_at zt_X4_cmac_1 6 rfl) ?_
      refine lv_iconst (pc := 126) (v := (0 : Int32)) hx hb (zdt_at zt_X4_cmac_1 7 rfl) (by decide) ?_
      refine lv_aload_n (pc := 127) hx hb (zdt_at zt_X4_cmac_1 8 rfl) rfl (lv_at hl 0 rfl) ?_
      refine va_get (pc := 128) (D := D) (ci := 6) (v := .ref h0_block) (C := RX4) (T := TX4) (N := 3) hx hb hts hcX4 hown hK hP 0 rfl rfl 1 (by decide) hw2 (fun _ h9 => h9) rfl (zdt_at zt_X4_cmac_1 9 rfl) ?_
      refine lv_iconst (pc := 131) (v := (0 : Int32)) hx hb (zdt_at zt_X4_cmac_1 10 rfl) (by decide) ?_
      refine lv_bipush (pc := 132) (v := (16 : Int32)) hx hb (zdt_at zt_X4_cmac_1 11 rfl) (by decide) ?_
      replace hf := zb_s hf
      obtain ⟨c_block_14, hc_, hf⟩ := hf
      refine zcn2 (pc := 134) (rv := none) (va_runSN (As := [.ref h0_pad, .int (0 : Int32), .ref h0_block, .int (0 : Int32), .int (16 : Int32)]) (rest := []) ⟨hx, hb, hml, hown, hts⟩ (c_X9_xorBytes l D cy tt H.size h0_pad h0_block 16 16 (0 : Int32) (0 : Int32) (16 : Int32) c_pad_12 c_block_11 c_block_14 hc_) ⟨va_cnB 5 hts gX4_cmac_X9_xorBytes_n31 rfl rfl rfl (gNs_7 hE.2.1) hw3 (by decide +kernel) ⟨Nat.le_of_ble_eq_true rfl, Nat.le_of_ble_eq_true rfl⟩, hw4, trivial⟩ ⟨zblind, zpre hE hS (hP.sub [4, 3] rfl) (hD.sub [4, 3] (by decide) rfl) (va_free hD hS hA [4, 3] rfl)⟩ rfl rfl hl.1 rfl (lv_room (Nat.le_of_ble_eq_true rfl)) (zdt_at zt_X4_cmac_1 12 rfl) ⟨Nat.zero_le _, Nat.zero_le _⟩) hS hP hD (va_free hD hS hA [4, 3] rfl) [4, 3] rfl (by decide) rfl ?_
      clear hP hD hS hc_
      intro H locs hP hD hS
      replace hP : va_P D vwCl ([(h0, .inr (6, [.ref h0_aes, .ref h0_block, .ref h0_pad])), (h0_aes, .inr (2, [.ref h0_aes_keys, .int c_aes_rounds])), (h0_aes_keys, .inl (cy 1, 60, .inl c_aes_keys)), (h0_block, .inl (cy 0, 16, .inl c_block_14)), (h0_pad, .inl (cy 0, 16, .inl c_pad_12)), (ha1, .inl (cy 0, n_a1, .inl ca1))]) H := hP
      replace hD : va_D A ([(h0, .inr (6, [.ref h0_aes, .ref h0_block, .ref h0_pad])), (h0_aes, .inr (2, [.ref h0_aes_keys, .int c_aes_rounds])), (h0_aes_keys, .inl (cy 1, 60, .inl c_aes_keys)), (h0_block, .inl (cy 0, 16, .inl c_block_14)), (h0_pad, .inl (cy 0, 16, .inl c_pad_12)), (ha1, .inl (cy 0, n_a1, .inl ca1))]) := hD
      refine W.eq (g2 := F0 m 137 ls []) rfl ?_
      refine lv_aload_n (pc := 137) hx hb (zdt_at zt_X4_cmac_1 13 rfl) rfl (lv_at hl 0 rfl) ?_
      refine va_get (pc := 138) (D := D) (ci := 6) (v := .ref h0_aes) (C := RX4) (T := TX4) (N := 3) hx hb hts hcX4 hown hK hP 0 rfl rfl 0 (by decide) hw1 (fun _ h9 => h9) rfl (zdt_at zt_X4_cmac_1 14 rfl) ?_
      refine lv_aload_n (pc := 141) hx hb (zdt_at zt_X4_cmac_1 15 rfl) rfl (lv_at hl 0 rfl) ?_
      refine va_get (pc := 142) (D := D) (ci := 6) (v := .ref h0_block) (C := RX4) (T := TX4) (N := 3) hx hb hts hcX4 hown hK hP 0 rfl rfl 1 (by decide) hw2 (fun _ h9 => h9) rfl (zdt_at zt_X4_cmac_1 16 rfl) ?_
      refine lv_iconst (pc := 145) (v := (0 : Int32)) hx hb (zdt_at zt_X4_cmac_1 17 rfl) (by decide) ?_
      replace hf := zb_s hf
      obtain ⟨c_block_15, hc_, hf⟩ := hf
      refine zcn2 (pc := 146) (rv := none) (va_runV (As := [.ref h0_block, .int (0 : Int32)]) (rest := []) ⟨hx, hb, hml, hown, hts⟩ (c_X0_encrypt l D cy tt H.size h0_aes h0_aes_keys h0_block 16 (0 : Int32) c_aes_rounds c_aes_keys c_block_14 c_block_15 hc_) (cwV 2 hts gX4_cmac_X0_encrypt rfl rfl rfl (by decide +kernel) ⟨Nat.le_of_ble_eq_true rfl, Nat.le_of_ble_eq_true rfl⟩) ⟨zblind, va_recv hK hP (ci := 2) (q0 := 1) rfl rfl, zpre hE hS (hP.sub [1, 2, 3] rfl) (hD.sub [1, 2, 3] (by decide) rfl) (va_free hD hS hA [1, 2, 3] rfl)⟩ rfl rfl hl.1 rfl (lv_room (Nat.le_of_ble_eq_true rfl)) (zdt_at zt_X4_cmac_1 18 rfl) ⟨Nat.zero_le _, Nat.zero_le _⟩) hS hP hD (va_free hD hS hA [1, 2, 3] rfl) [1, 2, 3] rfl (by decide) rfl ?_
      clear hP hD hS hc_
      intro H locs hP hD hS
      replace hP : va_P D vwCl ([(h0, .inr (6, [.ref h0_aes, .ref h0_block, .ref h0_pad])), (h0_aes, .inr (2, [.ref h0_aes_keys, .int c_aes_rounds])), (h0_aes_keys, .inl (cy 1, 60, .inl c_aes_keys)), (h0_block, .inl (cy 0, 16, .inl c_block_15)), (h0_pad, .inl (cy 0, 16, .inl c_pad_12)), (ha1, .inl (cy 0, n_a1, .inl ca1))]) H := hP
      replace hD : va_D A ([(h0, .inr (6, [.ref h0_aes, .ref h0_block, .ref h0_pad])), (h0_aes, .inr (2, [.ref h0_aes_keys, .int c_aes_rounds])), (h0_aes_keys, .inl (cy 1, 60, .inl c_aes_keys)), (h0_block, .inl (cy 0, 16, .inl c_block_15)), (h0_pad, .inl (cy 0, 16, .inl c_pad_12)), (ha1, .inl (cy 0, n_a1, .inl ca1))]) := hD
      refine W.eq (g2 := F0 m 149 ls []) rfl ?_
      refine lv_aload_n (pc := 149) hx hb (zdt_at zt_X4_cmac_1 19 rfl) rfl (lv_at hl 0 rfl) ?_
      refine va_get (pc := 150) (D := D) (ci := 6) (v := .ref h0_block) (C := RX4) (T := TX4) (N := 3) hx hb hts hcX4 hown hK hP 0 rfl rfl 1 (by decide) hw2 (fun _ h9 => h9) rfl (zdt_at zt_X4_cmac_1 20 rfl) ?_
      refine lv_iconst (pc := 153) (v := (0 : Int32)) hx hb (zdt_at zt_X4_cmac_1 21 rfl) (by decide) ?_
      refine lv_aload (pc := 154) hx hb (zdt_at zt_X4_cmac_1 22 rfl) (lv_at hl 1 rfl) ?_
      refine lv_iload (pc := 156) hx hb (zdt_at zt_X4_cmac_1 23 rfl) (lv_at hl 2 rfl) ?_
      refine lv_bipush (pc := 158) (v := (16 : Int32)) hx hb (zdt_at zt_X4_cmac_1 24 rfl) (by decide) ?_
      replace hf := zk_s hf
      refine va_copyi (pc := 160) hx hb (hml.trans hl.1.symm) hown hw5 hw6 hw7 hw8 hK hP hD hS 3 5 0 0 rfl rfl rfl rfl rfl hf.1.1 hf.1.2.1 hf.1.2.2.1 hf.1.2.2.2.1 hf.1.2.2.2.2.1 hf.1.2.2.2.2.2 (Nat.le_of_ble_eq_true rfl) (Nat.le_of_ble_eq_true rfl) (zdt_at zt_X4_cmac_1 25 rfl) ?_
      replace hf := hf.2
      clear hP hD hS
      intro H locs hP hD hS
      obtain ⟨ca1_16, e_⟩ : ∃ q : Nat → Int32, q = (va_cpy c_block_15 ca1 (0 : Int32).toNatClampNeg p5.toNatClampNeg (16 : Int32).toNatClampNeg) := ⟨_, rfl⟩
      replace hf := zn_s hf e_
      replace hP : va_P D vwCl ([(h0, .inr (6, [.ref h0_aes, .ref h0_block, .ref h0_pad])), (h0_aes, .inr (2, [.ref h0_aes_keys, .int c_aes_rounds])), (h0_aes_keys, .inl (cy 1, 60, .inl c_aes_keys)), (h0_block, .inl (cy 0, 16, .inl c_block_15)), (h0_pad, .inl (cy 0, 16, .inl c_pad_12)), (ha1, .inl (cy 0, n_a1, .inl ca1_16))]) H := by rw [e_]; exact hP
      replace hD : va_D A ([(h0, .inr (6, [.ref h0_aes, .ref h0_block, .ref h0_pad])), (h0_aes, .inr (2, [.ref h0_aes_keys, .int c_aes_rounds])), (h0_aes_keys, .inl (cy 1, 60, .inl c_aes_keys)), (h0_block, .inl (cy 0, 16, .inl c_block_15)), (h0_pad, .inl (cy 0, 16, .inl c_pad_12)), (ha1, .inl (cy 0, n_a1, .inl ca1_16))]) := by rw [e_]; exact hD
      clear e_
      cases hf
      exact W.vret (pc := 163) hx hb hr (fun t ht hW => ⟨rfl, ⟨by rw [ht]; exact hP, hD⟩, hS.F ht⟩) hS.2.2 (zdt_at zt_X4_cmac_1 26 rfl)
    clear eK_13
    refine lv_icmp_ge (pc := 100) (tgt := 122) hx hb (zdt_at zt_X4_cmac_0 55 rfl) (by decide) (fun cn_ => ?t_17) (fun cn_ => ?f_18)
    case t_17 =>
      replace hf := zt_s cn_ hf
      clear cn_
      exact hTo _ _ _ (kK_13 _ _ H locs ls hP hD hS (lv_sub hl [0, 4, 5] rfl) hf)
    replace hf := ze_s cn_ hf
    clear cn_
    refine lv_aload_n (pc := 103) hx hb (zdt_at zt_X4_cmac_0 56 rfl) rfl (lv_at hl 0 rfl) ?_
    replace hf := zb_s hf
    obtain ⟨c_pad_19, hc_, hf⟩ := hf
    refine zcn2 (pc := 104) (rv := none) (va_runV (As := []) (rest := []) ⟨hx, hb, hml, hown, hts⟩ (c_X4_doublePad l D cy tt H.size h0 h0_aes h0_block h0_pad c_pad_3 c_pad_19 hc_) (cwV 0 hts gX4_cmac_X4_doublePad rfl rfl rfl (by decide +kernel) ⟨Nat.le_of_ble_eq_true rfl, Nat.le_of_ble_eq_true rfl⟩) ⟨zblind, va_recv hK hP (ci := 6) (q0 := 0) rfl rfl, zpre hE hS (hP.sub [0, 4] rfl) (hD.sub [0, 4] (by decide) rfl) (va_free hD hS hA [0, 4] rfl)⟩ rfl rfl hl.1 rfl (lv_room (Nat.le_of_ble_eq_true rfl)) (zdt_at zt_X4_cmac_0 57 rfl) ⟨Nat.zero_le _, Nat.zero_le _⟩) hS hP hD (va_free hD hS hA [0, 4] rfl) [0, 4] rfl (by decide) rfl ?_
    clear hP hD hS hc_
    intro H locs hP hD hS
    replace hP : va_P D vwCl ([(h0, .inr (6, [.ref h0_aes, .ref h0_block, .ref h0_pad])), (h0_aes, .inr (2, [.ref h0_aes_keys, .int c_aes_rounds])), (h0_aes_keys, .inl (cy 1, 60, .inl c_aes_keys)), (h0_block, .inl (cy 0, 16, .inl c_block_10)), (h0_pad, .inl (cy 0, 16, .inl c_pad_19)), (ha1, .inl (cy 0, n_a1, .inl ca1))]) H := hP
    replace hD : va_D A ([(h0, .inr (6, [.ref h0_aes, .ref h0_block, .ref h0_pad])), (h0_aes, .inr (2, [.ref h0_aes_keys, .int c_aes_rounds])), (h0_aes_keys, .inl (cy 1, 60, .inl c_aes_keys)), (h0_block, .inl (cy 0, 16, .inl c_block_10)), (h0_pad, .inl (cy 0, 16, .inl c_pad_19)), (ha1, .inl (cy 0, n_a1, .inl ca1))]) := hD
    refine W.eq (g2 := F0 m 107 ls []) rfl ?_
    refine lv_aload_n (pc := 107) hx hb (zdt_at zt_X4_cmac_0 58 rfl) rfl (lv_at hl 0 rfl) ?_
    refine va_get (pc := 108) (D := D) (ci := 6) (v := .ref h0_block) (C := RX4) (T := TX4) (N := 3) hx hb hts hcX4 hown hK hP 0 rfl rfl 1 (by decide) hw2 (fun _ h9 => h9) rfl (zdt_at zt_X4_cmac_0 59 rfl) ?_
    refine lv_iload_n (pc := 111) hx hb (zdt_at zt_X4_cmac_0 60 rfl) rfl (lv_at hl 3 rfl) ?_
    refine lv_iload (pc := 112) hx hb (zdt_at zt_X4_cmac_0 61 rfl) (lv_at hl 6 rfl) ?_
    refine lv_isub (pc := 114) hx hb (zdt_at zt_X4_cmac_0 62 rfl) ?_
    refine lv_dup2_11 (pc := 115) hx hb (zdt_at zt_X4_cmac_0 63 rfl) rfl rfl ?_
    replace hf := zk_s hf
    refine va_bald (pc := 116) hx hb hK hP 3 0 rfl rfl hf.1 (zdt_at zt_X4_cmac_1 0 rfl) ?_
    replace hf := hf.2
    refine lv_bipush (pc := 117) (v := (-128 : Int32)) hx hb (zdt_at zt_X4_cmac_1 1 rfl) (by decide) ?_
    refine lv_ixor (pc := 119) hx hb (zdt_at zt_X4_cmac_1 2 rfl) ?_
    refine lv_i2b (pc := 120) hx hb (zdt_at zt_X4_cmac_1 3 rfl) rfl ?_
    replace hf := zk_s hf
    refine va_bast (pc := 121) hx hb hK hP hD hS 3 0 rfl rfl hf.1 (zdt_at zt_X4_cmac_1 4 rfl) ?_
    replace hf := hf.2
    clear hP hD hS
    intro H locs hP hD hS
    obtain ⟨c_block_20, e_⟩ : ∃ q : Nat → Int32, q = (upd c_block_10 (p3 - v_7).toNatClampNeg (vp_nar .byte (((c_block_10 (p3 - v_7).toNatClampNeg) ^^^ (-128 : Int32)).toInt8.toInt32))) := ⟨_, rfl⟩
    replace hf := zn_s hf e_
    replace hP : va_P D vwCl ([(h0, .inr (6, [.ref h0_aes, .ref h0_block, .ref h0_pad])), (h0_aes, .inr (2, [.ref h0_aes_keys, .int c_aes_rounds])), (h0_aes_keys, .inl (cy 1, 60, .inl c_aes_keys)), (h0_block, .inl (cy 0, 16, .inl c_block_20)), (h0_pad, .inl (cy 0, 16, .inl c_pad_19)), (ha1, .inl (cy 0, n_a1, .inl ca1))]) H := by rw [e_]; exact hP
    replace hD : va_D A ([(h0, .inr (6, [.ref h0_aes, .ref h0_block, .ref h0_pad])), (h0_aes, .inr (2, [.ref h0_aes_keys, .int c_aes_rounds])), (h0_aes_keys, .inl (cy 1, 60, .inl c_aes_keys)), (h0_block, .inl (cy 0, 16, .inl c_block_20)), (h0_pad, .inl (cy 0, 16, .inl c_pad_19)), (ha1, .inl (cy 0, n_a1, .inl ca1))]) := by rw [e_]; exact hD
    clear e_
    exact hTo _ _ _ (kK_13 _ _ H locs ls hP hD hS (lv_sub hl [0, 4, 5] rfl) hf)
  clear eK_9
  refine hTo _ _ _ (zl_go (fun z => match z with | (i_5, c_block_6) => ∀ (H : Heap) (locs : List Loc) (ls : Array Slot), va_P D vwCl ([(h0, .inr (6, [.ref h0_aes, .ref h0_block, .ref h0_pad])), (h0_aes, .inr (2, [.ref h0_aes_keys, .int c_aes_rounds])), (h0_aes_keys, .inl (cy 1, 60, .inl c_aes_keys)), (h0_block, .inl (cy 0, 16, .inl c_block_6)), (h0_pad, .inl (cy 0, 16, .inl c_pad_3)), (ha1, .inl (cy 0, n_a1, .inl ca1))]) H → va_D A ([(h0, .inr (6, [.ref h0_aes, .ref h0_block, .ref h0_pad])), (h0_aes, .inr (2, [.ref h0_aes_keys, .int c_aes_rounds])), (h0_aes_keys, .inl (cy 1, 60, .inl c_aes_keys)), (h0_block, .inl (cy 0, 16, .inl c_block_6)), (h0_pad, .inl (cy 0, 16, .inl c_pad_3)), (ha1, .inl (cy 0, n_a1, .inl ca1))]) → va_S A s.heap H locs → lv_has ls 7 [(0, .ref h0), (1, .ref ha1), (2, .int p2), (3, .int p3), (4, .ref ha1), (5, .int p5), (6, .int i_5)] → GW H locs (F0 m 35 ls [])) hf ?_ H locs ls hP hD hS (lv_sub hl [1, 2, 3, 4, 5, 6, 0] rfl))
  clear hf hl hP hD hS
  intro self_21 ihself_21 z hf
  obtain ⟨i_5, c_block_6⟩ := z
  intro H locs ls hP hD hS hl
  refine hFr _ _ _ ?_
  unfold b_X4_cmac_4a1_35 at hf
  refine lv_iload_n (pc := 35) hx hb (zdt_at zt_X4_cmac_0 18 rfl) rfl (lv_at hl 3 rfl) ?_
  refine lv_iload (pc := 36) hx hb (zdt_at zt_X4_cmac_0 19 rfl) (lv_at hl 6 rfl) ?_
  refine lv_isub (pc := 38) hx hb (zdt_at zt_X4_cmac_0 20 rfl) ?_
  refine lv_bipush (pc := 39) (v := (16 : Int32)) hx hb (zdt_at zt_X4_cmac_0 21 rfl) (by decide) ?_
  refine lv_icmp_le (pc := 41) (tgt := 77) hx hb (zdt_at zt_X4_cmac_0 22 rfl) (by decide) (fun cn_ => ?t_22) (fun cn_ => ?f_23)
  case t_22 =>
    replace hf := zt_s cn_ hf
    clear cn_
    exact hTo _ _ _ (kK_9 _ _ H locs ls hP hD hS (lv_sub hl [0, 1, 2, 3, 4, 5, 6] rfl) hf)
  replace hf := ze_s cn_ hf
  clear cn_
  refine lv_aload_n (pc := 44) hx hb (zdt_at zt_X4_cmac_0 23 rfl) rfl (lv_at hl 1 rfl) ?_
  refine lv_iload_n (pc := 45) hx hb (zdt_at zt_X4_cmac_0 24 rfl) rfl (lv_at hl 2 rfl) ?_
  refine lv_iload (pc := 46) hx hb (zdt_at zt_X4_cmac_0 25 rfl) (lv_at hl 6 rfl) ?_
  refine lv_iadd (pc := 48) hx hb (zdt_at zt_X4_cmac_0 26 rfl) ?_
  refine lv_aload_n (pc := 49) hx hb (zdt_at zt_X4_cmac_0 27 rfl) rfl (lv_at hl 0 rfl) ?_
  refine va_get (pc := 50) (D := D) (ci := 6) (v := .ref h0_block) (C := RX4) (T := TX4) (N := 3) hx hb hts hcX4 hown hK hP 0 rfl rfl 1 (by decide) hw2 (fun _ h9 => h9) rfl (zdt_at zt_X4_cmac_0 28 rfl) ?_
  refine lv_iconst (pc := 53) (v := (0 : Int32)) hx hb (zdt_at zt_X4_cmac_0 29 rfl) (by decide) ?_
  refine lv_bipush (pc := 54) (v := (16 : Int32)) hx hb (zdt_at zt_X4_cmac_0 30 rfl) (by decide) ?_
  replace hf := zb_s hf
  obtain ⟨c_block_24, hc_, hf⟩ := hf
  refine zcn2 (pc := 56) (rv := none) (va_runSN (As := [.ref ha1, .int (p2 + i_5), .ref h0_block, .int (0 : Int32), .int (16 : Int32)]) (rest := []) ⟨hx, hb, hml, hown, hts⟩ (c_X9_xorBytes l D cy tt H.size ha1 h0_block n_a1 16 (p2 + i_5) (0 : Int32) (16 : Int32) ca1 c_block_6 c_block_24 hc_) ⟨va_cnB 5 hts gX4_cmac_X9_xorBytes_n31 rfl rfl rfl (gNs_7 hE.2.1) hw3 (by decide +kernel) ⟨Nat.le_of_ble_eq_true rfl, Nat.le_of_ble_eq_true rfl⟩, hw4, trivial⟩ ⟨zblind, zpre hE hS (hP.sub [5, 3] rfl) (hD.sub [5, 3] (by decide) rfl) (va_free hD hS hA [5, 3] rfl)⟩ rfl rfl hl.1 rfl (lv_room (Nat.le_of_ble_eq_true rfl)) (zdt_at zt_X4_cmac_0 31 rfl) ⟨Nat.zero_le _, Nat.zero_le _⟩) hS hP hD (va_free hD hS hA [5, 3] rfl) [5, 3] rfl (by decide) rfl ?_
  clear hP hD hS hc_
  intro H locs hP hD hS
  replace hP : va_P D vwCl ([(h0, .inr (6, [.ref h0_aes, .ref h0_block, .ref h0_pad])), (h0_aes, .inr (2, [.ref h0_aes_keys, .int c_aes_rounds])), (h0_aes_keys, .inl (cy 1, 60, .inl c_aes_keys)), (h0_block, .inl (cy 0, 16, .inl c_block_24)), (h0_pad, .inl (cy 0, 16, .inl c_pad_3)), (ha1, .inl (cy 0, n_a1, .inl ca1))]) H := hP
  replace hD : va_D A ([(h0, .inr (6, [.ref h0_aes, .ref h0_block, .ref h0_pad])), (h0_aes, .inr (2, [.ref h0_aes_keys, .int c_aes_rounds])), (h0_aes_keys, .inl (cy 1, 60, .inl c_aes_keys)), (h0_block, .inl (cy 0, 16, .inl c_block_24)), (h0_pad, .inl (cy 0, 16, .inl c_pad_3)), (ha1, .inl (cy 0, n_a1, .inl ca1))]) := hD
  refine W.eq (g2 := F0 m 59 ls []) rfl ?_
  refine lv_aload_n (pc := 59) hx hb (zdt_at zt_X4_cmac_0 32 rfl) rfl (lv_at hl 0 rfl) ?_
  refine va_get (pc := 60) (D := D) (ci := 6) (v := .ref h0_aes) (C := RX4) (T := TX4) (N := 3) hx hb hts hcX4 hown hK hP 0 rfl rfl 0 (by decide) hw1 (fun _ h9 => h9) rfl (zdt_at zt_X4_cmac_0 33 rfl) ?_
  refine lv_aload_n (pc := 63) hx hb (zdt_at zt_X4_cmac_0 34 rfl) rfl (lv_at hl 0 rfl) ?_
  refine va_get (pc := 64) (D := D) (ci := 6) (v := .ref h0_block) (C := RX4) (T := TX4) (N := 3) hx hb hts hcX4 hown hK hP 0 rfl rfl 1 (by decide) hw2 (fun _ h9 => h9) rfl (zdt_at zt_X4_cmac_0 35 rfl) ?_
  refine lv_iconst (pc := 67) (v := (0 : Int32)) hx hb (zdt_at zt_X4_cmac_0 36 rfl) (by decide) ?_
  replace hf := zb_s hf
  obtain ⟨c_block_25, hc_, hf⟩ := hf
  refine zcn2 (pc := 68) (rv := none) (va_runV (As := [.ref h0_block, .int (0 : Int32)]) (rest := []) ⟨hx, hb, hml, hown, hts⟩ (c_X0_encrypt l D cy tt H.size h0_aes h0_aes_keys h0_block 16 (0 : Int32) c_aes_rounds c_aes_keys c_block_24 c_block_25 hc_) (cwV 2 hts gX4_cmac_X0_encrypt rfl rfl rfl (by decide +kernel) ⟨Nat.le_of_ble_eq_true rfl, Nat.le_of_ble_eq_true rfl⟩) ⟨zblind, va_recv hK hP (ci := 2) (q0 := 1) rfl rfl, zpre hE hS (hP.sub [1, 2, 3] rfl) (hD.sub [1, 2, 3] (by decide) rfl) (va_free hD hS hA [1, 2, 3] rfl)⟩ rfl rfl hl.1 rfl (lv_room (Nat.le_of_ble_eq_true rfl)) (zdt_at zt_X4_cmac_0 37 rfl) ⟨Nat.zero_le _, Nat.zero_le _⟩) hS hP hD (va_free hD hS hA [1, 2, 3] rfl) [1, 2, 3] rfl (by decide) rfl ?_
  clear hP hD hS hc_
  intro H locs hP hD hS
  replace hP : va_P D vwCl ([(h0, .inr (6, [.ref h0_aes, .ref h0_block, .ref h0_pad])), (h0_aes, .inr (2, [.ref h0_aes_keys, .int c_aes_rounds])), (h0_aes_keys, .inl (cy 1, 60, .inl c_aes_keys)), (h0_block, .inl (cy 0, 16, .inl c_block_25)), (h0_pad, .inl (cy 0, 16, .inl c_pad_3)), (ha1, .inl (cy 0, n_a1, .inl ca1))]) H := hP
  replace hD : va_D A ([(h0, .inr (6, [.ref h0_aes, .ref h0_block, .ref h0_pad])), (h0_aes, .inr (2, [.ref h0_aes_keys, .int c_aes_rounds])), (h0_aes_keys, .inl (cy 1, 60, .inl c_aes_keys)), (h0_block, .inl (cy 0, 16, .inl c_block_25)), (h0_pad, .inl (cy 0, 16, .inl c_pad_3)), (ha1, .inl (cy 0, n_a1, .inl ca1))]) := hD
  refine W.eq (g2 := F0 m 71 ls []) rfl ?_
  refine lv_iinc (pc := 71) (v := (i_5 + (16 : Int32))) (lv' := [(6, .int (i_5 + (16 : Int32))), (0, .ref h0), (1, .ref ha1), (2, .int p2), (3, .int p3), (4, .ref ha1), (5, .int p5)]) hx hb (zdt_at zt_X4_cmac_0 38 rfl) hl (k := 6) rfl rfl (by decide) rfl ?_
  clear hl
  intro ls hl
  refine lv_goto (pc := 74) (tgt := 35) hx hb (zdt_at zt_X4_cmac_0 39 rfl) (by decide) ?_
  exact hTo _ _ _ (ihself_21 _ hf H locs ls hP hD hS (lv_sub hl [1, 2, 3, 4, 5, 6, 0] rfl))
set_option maxHeartbeats 4000000 in
set_option maxRecDepth 100000 in
theorem c_X6_cmacRight (l : Launch) (D : va_G) (cy : Nat → ClassId) (tt : Nat → Nat) (sz : Nat) (h0 : Nat) (h0_aes : Nat) (h0_modes : Nat) (h0_gcm : Nat) (h0_sha : Nat) (h0_generator : Nat) (h0_key : Nat) (h0_work : Nat) (h0_aes_keys : Nat) (h0_modes_block : Nat) (h0_modes_pad : Nat) (p1 : Int32) (t2 : Nat) (t2f : Nat → Int64) (t2n : Nat) (p3 : Int32) (c_aes_rounds : Int32) (c_aes_keys : Nat → Int32) (c_key : Nat → Int32) (c_modes_block : Nat → Int32) (c_modes_pad : Nat → Int32) (c_work : Nat → Int32) (qa_t2 : String) (qb_t2 : String) (qc_t2 : String) (r_ : Int32) (c_aes_rounds' : Int32) (c_aes_keys' : Nat → Int32) (c_key' : Nat → Int32) (c_modes_block' : Nat → Int32) (c_modes_pad' : Nat → Int32) (c_work' : Nat → Int32) (ht_t2 : gTab[t2]? = some (qa_t2, qb_t2, qc_t2, .long, t2n, fun j => .long (t2f j))) (hf : f_X6_cmacRight p1 t2 t2f t2n p3 c_aes_rounds c_aes_keys c_key c_modes_block c_modes_pad c_work = some (r_, c_aes_rounds', c_aes_keys', c_key', c_modes_block', c_modes_pad', c_work')) : Met l yX6_cmacRight wsX6_cmacRight ({ frames := 4, cells := 0, slots := 0, locals := 95 }) (zPc D cy tt sz [.ref h0, .int p1, .ref (tt t2), .int p3] ([(h0, .inr (8, [.ref h0_aes, .ref h0_modes, .ref h0_gcm, .ref h0_sha, .ref h0_generator, .ref h0_key, .ref h0_work])), (h0_aes, .inr (2, [.ref h0_aes_keys, .int c_aes_rounds])), (h0_aes_keys, .inl (cy 1, 60, .inl c_aes_keys)), (h0_key, .inl (cy 0, 32, .inl c_key)), (h0_modes, .inr (6, [.ref h0_aes, .ref h0_modes_block, .ref h0_modes_pad])), (h0_modes_block, .inl (cy 0, 16, .inl c_modes_block)), (h0_modes_pad, .inl (cy 0, 16, .inl c_modes_pad)), (h0_work, .inl (cy 0, 64, .inl c_work))])) (zQ D (some (.int r_)) ([(h0, .inr (8, [.ref h0_aes, .ref h0_modes, .ref h0_gcm, .ref h0_sha, .ref h0_generator, .ref h0_key, .ref h0_work])), (h0_aes, .inr (2, [.ref h0_aes_keys, .int c_aes_rounds'])), (h0_aes_keys, .inl (cy 1, 60, .inl c_aes_keys')), (h0_key, .inl (cy 0, 32, .inl c_key')), (h0_modes, .inr (6, [.ref h0_aes, .ref h0_modes_block, .ref h0_modes_pad])), (h0_modes_block, .inl (cy 0, 16, .inl c_modes_block')), (h0_modes_pad, .inl (cy 0, 16, .inl c_modes_pad')), (h0_work, .inl (cy 0, 64, .inl c_work'))]) (va_A ([(h0, .inr (8, [.ref h0_aes, .ref h0_modes, .ref h0_gcm, .ref h0_sha, .ref h0_generator, .ref h0_key, .ref h0_work])), (h0_aes, .inr (2, [.ref h0_aes_keys, .int c_aes_rounds])), (h0_aes_keys, .inl (cy 1, 60, .inl c_aes_keys)), (h0_key, .inl (cy 0, 32, .inl c_key)), (h0_modes, .inr (6, [.ref h0_aes, .ref h0_modes_block, .ref h0_modes_pad])), (h0_modes_block, .inl (cy 0, 16, .inl c_modes_block)), (h0_modes_pad, .inl (cy 0, 16, .inl c_modes_pad)), (h0_work, .inl (cy 0, 64, .inl c_work))]) sz)) 0 0 (va_A ([(h0, .inr (8, [.ref h0_aes, .ref h0_modes, .ref h0_gcm, .ref h0_sha, .ref h0_generator, .ref h0_key, .ref h0_work])), (h0_aes, .inr (2, [.ref h0_aes_keys, .int c_aes_rounds])), (h0_aes_keys, .inl (cy 1, 60, .inl c_aes_keys)), (h0_key, .inl (cy 0, 32, .inl c_key)), (h0_modes, .inr (6, [.ref h0_aes, .ref h0_modes_block, .ref h0_modes_pad])), (h0_modes_block, .inl (cy 0, 16, .inl c_modes_block)), (h0_modes_pad, .inl (cy 0, 16, .inl c_modes_pad)), (h0_work, .inl (cy 0, 64, .inl c_work))]) sz) := by
  refine Met.ofW (cc := cX6_cmacRight) (maxL := 4) (ret := (some .boolean)) (by decide) rfl ?_
  intro p e s m args below meth c s₁ B hml hv
  obtain ⟨rfl, rfl, hP, hD0, hE⟩ := hv
  have hx := B.exec
  have hb := B.bytes
  have hr := B.returns
  have hts := atoms_spec (ws := wsX6_cmacRight) B.pre
  have hown : s.vm.findClass RX6 = some m.cls := findClass_of_methodNamed B.named
  have hlocks := B.notSynchronized
  clear B
  have hD := hD0.self (sz := s.heap.size)
  generalize hAe : va_A ([(h0, .inr (8, [.ref h0_aes, .ref h0_modes, .ref h0_gcm, .ref h0_sha, .ref h0_generator, .ref h0_key, .ref h0_work])), (h0_aes, .inr (2, [.ref h0_aes_keys, .int c_aes_rounds])), (h0_aes_keys, .inl (cy 1, 60, .inl c_aes_keys)), (h0_key, .inl (cy 0, 32, .inl c_key)), (h0_modes, .inr (6, [.ref h0_aes, .ref h0_modes_block, .ref h0_modes_pad])), (h0_modes_block, .inl (cy 0, 16, .inl c_modes_block)), (h0_modes_pad, .inl (cy 0, 16, .inl c_modes_pad)), (h0_work, .inl (cy 0, 64, .inl c_work))]) s.heap.size = A at hD hE ⊢
  have hA : ∀ q : Nat, s.heap.size ≤ q → A q := fun q h => by rw [← hAe]; exact Or.inr h
  clear hAe hD0
  have hS : va_S A s.heap s.heap [] := va_S.rf
  have hK := hE.1
  have hw0 := hts (.fieldLink RX6 116 "SealedModule$SelfTests" "MODES_KEY" "[J") (by decide +kernel)
  have hw1 := hts (.fieldLink RX6 119 "SealedModule$SelfTests" "MODES_TEXT" "[J") (by decide +kernel)
  have hw2 := hts (.fieldLink RX6 15 "SealedModule$SelfTests" "work" "[B") (by decide +kernel)
  have hw3 := hts (.fieldLink RX6 22 "SealedModule$SelfTests" "modes" "LSealedModule$Modes;") (by decide +kernel)
  have hcX6 : ∀ w ∈ u_ws RX6 TX6 7, w ∈ wsX6_cmacRight := (fun _ h => List.mem_cons_of_mem _ (List.mem_append_left _ (List.mem_append_left _ (List.mem_append_right _ h))))
  have hl := lv_entry ([.ref h0, .int p1, .ref (tt t2), .int p3]) (n := 4) (Nat.le_of_ble_eq_true rfl)
  rw [lg_entry_eq]
  generalize (lg_sl ([.ref h0, .int p1, .ref (tt t2), .int p3]) ++ List.replicate (4 - (lg_sl ([.ref h0, .int p1, .ref (tt t2), .int p3])).length) Slot.unset).toArray = ls at hl ⊢
  replace hl : lv_has ls 4 [(0, .ref h0), (1, .int p1), (2, .ref (tt t2)), (3, .int p3)] := hl
  unfold f_X6_cmacRight at hf
  refine zgo (fun GW hTo hFr => ?_)
  refine hFr _ _ _ ?_
  obtain ⟨H, hHe⟩ : ∃ H, H = s.heap := ⟨_, rfl⟩
  obtain ⟨locs, hLe⟩ : ∃ L : List Loc, L = [] := ⟨_, rfl⟩
  rw [← hHe] at hP
  replace hS : va_S A s.heap H locs := by rw [hHe, hLe]; exact hS
  refine zat hHe.symm hLe.symm ?_
  clear hHe hLe
  refine lv_aload_n (pc := 0) hx hb (zdt_at zt_X6_cmacRight_0 0 rfl) rfl (lv_at hl 0 rfl) ?_
  refine va_gets (pc := 1) hx hb (gT_8 hE.2.2).1 hS hown hw0 (fun _ h9 => h9) (zdt_at zt_X6_cmacRight_0 1 rfl) ?_
  refine lv_bipush (pc := 4) (v := (16 : Int32)) hx hb (zdt_at zt_X6_cmacRight_0 2 rfl) (by decide) ?_
  replace hf := zb_s hf
  obtain ⟨⟨c_aes_rounds_1, c_aes_keys_2, c_key_3⟩, hc_, hf⟩ := hf
  refine zcn2 (pc := 6) (rv := none) (va_runV (As := [.ref (tt 8), .int (16 : Int32)]) (rest := []) ⟨hx, hb, hml, hown, hts⟩ (c_X6_setKey l D cy tt H.size h0 h0_aes h0_modes h0_gcm h0_sha h0_generator h0_key h0_work h0_aes_keys 8 (fun j => tb_MODES_KEY.getD j 0) 2 (16 : Int32) c_aes_rounds c_aes_keys c_key _ _ _ c_aes_rounds_1 c_aes_keys_2 c_key_3 rfl hc_) (cwV 2 hts gX6_cmacRight_X6_setKey rfl rfl rfl (by decide +kernel) ⟨Nat.le_of_ble_eq_true rfl, Nat.le_of_ble_eq_true rfl⟩) ⟨zblind, va_recv hK hP (ci := 8) (q0 := 0) rfl rfl, zpre hE hS (hP.sub [0, 1, 2, 3] rfl) (hD.sub [0, 1, 2, 3] (by decide) rfl) (va_free hD hS hA [0, 1, 2, 3] rfl)⟩ rfl rfl hl.1 rfl (lv_room (Nat.le_of_ble_eq_true rfl)) (zdt_at zt_X6_cmacRight_0 3 rfl) ⟨Nat.zero_le _, Nat.zero_le _⟩) hS hP hD (va_free hD hS hA [0, 1, 2, 3] rfl) [0, 1, 2, 3] rfl (by decide) rfl ?_
  clear hP hD hS hc_
  intro H locs hP hD hS
  replace hP : va_P D vwCl ([(h0, .inr (8, [.ref h0_aes, .ref h0_modes, .ref h0_gcm, .ref h0_sha, .ref h0_generator, .ref h0_key, .ref h0_work])), (h0_aes, .inr (2, [.ref h0_aes_keys, .int c_aes_rounds_1])), (h0_aes_keys, .inl (cy 1, 60, .inl c_aes_keys_2)), (h0_key, .inl (cy 0, 32, .inl c_key_3)), (h0_modes, .inr (6, [.ref h0_aes, .ref h0_modes_block, .ref h0_modes_pad])), (h0_modes_block, .inl (cy 0, 16, .inl c_modes_block)), (h0_modes_pad, .inl (cy 0, 16, .inl c_modes_pad)), (h0_work, .inl (cy 0, 64, .inl c_work))]) H := hP
  replace hD : va_D A ([(h0, .inr (8, [.ref h0_aes, .ref h0_modes, .ref h0_gcm, .ref h0_sha, .ref h0_generator, .ref h0_key, .ref h0_work])), (h0_aes, .inr (2, [.ref h0_aes_keys, .int c_aes_rounds_1])), (h0_aes_keys, .inl (cy 1, 60, .inl c_aes_keys_2)), (h0_key, .inl (cy 0, 32, .inl c_key_3)), (h0_modes, .inr (6, [.ref h0_aes, .ref h0_modes_block, .ref h0_modes_pad])), (h0_modes_block, .inl (cy 0, 16, .inl c_modes_block)), (h0_modes_pad, .inl (cy 0, 16, .inl c_modes_pad)), (h0_work, .inl (cy 0, 64, .inl c_work))]) := hD
  refine W.eq (g2 := F0 m 9 ls []) rfl ?_
  refine lv_aload_n (pc := 9) hx hb (zdt_at zt_X6_cmacRight_0 4 rfl) rfl (lv_at hl 0 rfl) ?_
  refine va_gets (pc := 10) hx hb (gT_9 hE.2.2).1 hS hown hw1 (fun _ h9 => h9) (zdt_at zt_X6_cmacRight_0 5 rfl) ?_
  refine lv_iconst (pc := 13) (v := (0 : Int32)) hx hb (zdt_at zt_X6_cmacRight_0 6 rfl) (by decide) ?_
  replace hf := zb_s hf
  obtain ⟨c_work_4, hc_, hf⟩ := hf
  refine zcn2 (pc := 14) (rv := none) (va_runV (As := [.ref (tt 9), .int (0 : Int32)]) (rest := []) ⟨hx, hb, hml, hown, hts⟩ (c_X6_put l D cy tt H.size h0 h0_aes h0_modes h0_gcm h0_sha h0_generator h0_key h0_work 9 (fun j => tb_MODES_TEXT.getD j 0) 4 (0 : Int32) c_work _ _ _ c_work_4 rfl hc_) (cwV 2 hts gX6_cmacRight_X6_put rfl rfl rfl (by decide +kernel) ⟨Nat.le_of_ble_eq_true rfl, Nat.le_of_ble_eq_true rfl⟩) ⟨zblind, va_recv hK hP (ci := 8) (q0 := 0) rfl rfl, zpre hE hS (hP.sub [0, 7] rfl) (hD.sub [0, 7] (by decide) rfl) (va_free hD hS hA [0, 7] rfl)⟩ rfl rfl hl.1 rfl (lv_room (Nat.le_of_ble_eq_true rfl)) (zdt_at zt_X6_cmacRight_0 7 rfl) ⟨Nat.zero_le _, Nat.zero_le _⟩) hS hP hD (va_free hD hS hA [0, 7] rfl) [0, 7] rfl (by decide) rfl ?_
  clear hP hD hS hc_
  intro H locs hP hD hS
  replace hP : va_P D vwCl ([(h0, .inr (8, [.ref h0_aes, .ref h0_modes, .ref h0_gcm, .ref h0_sha, .ref h0_generator, .ref h0_key, .ref h0_work])), (h0_aes, .inr (2, [.ref h0_aes_keys, .int c_aes_rounds_1])), (h0_aes_keys, .inl (cy 1, 60, .inl c_aes_keys_2)), (h0_key, .inl (cy 0, 32, .inl c_key_3)), (h0_modes, .inr (6, [.ref h0_aes, .ref h0_modes_block, .ref h0_modes_pad])), (h0_modes_block, .inl (cy 0, 16, .inl c_modes_block)), (h0_modes_pad, .inl (cy 0, 16, .inl c_modes_pad)), (h0_work, .inl (cy 0, 64, .inl c_work_4))]) H := hP
  replace hD : va_D A ([(h0, .inr (8, [.ref h0_aes, .ref h0_modes, .ref h0_gcm, .ref h0_sha, .ref h0_generator, .ref h0_key, .ref h0_work])), (h0_aes, .inr (2, [.ref h0_aes_keys, .int c_aes_rounds_1])), (h0_aes_keys, .inl (cy 1, 60, .inl c_aes_keys_2)), (h0_key, .inl (cy 0, 32, .inl c_key_3)), (h0_modes, .inr (6, [.ref h0_aes, .ref h0_modes_block, .ref h0_modes_pad])), (h0_modes_block, .inl (cy 0, 16, .inl c_modes_block)), (h0_modes_pad, .inl (cy 0, 16, .inl c_modes_pad)), (h0_work, .inl (cy 0, 64, .inl c_work_4))]) := hD
  refine W.eq (g2 := F0 m 17 ls []) rfl ?_
  refine lv_aload_n (pc := 17) hx hb (zdt_at zt_X6_cmacRight_0 8 rfl) rfl (lv_at hl 0 rfl) ?_
  refine va_get (pc := 18) (D := D) (ci := 8) (v := .ref h0_work) (C := RX6) (T := TX6) (N := 7) hx hb hts hcX6 hown hK hP 0 rfl rfl 6 (by decide) hw2 (fun _ h9 => h9) rfl (zdt_at zt_X6_cmacRight_0 9 rfl) ?_
  refine lv_iconst (pc := 21) (v := (0 : Int32)) hx hb (zdt_at zt_X6_cmacRight_0 10 rfl) (by decide) ?_
  refine lv_dup2_11 (pc := 22) hx hb (zdt_at zt_X6_cmacRight_0 11 rfl) rfl rfl ?_
  replace hf := zk_s hf
  refine va_bald (pc := 23) hx hb hK hP 7 0 rfl rfl hf.1 (zdt_at zt_X6_cmacRight_0 12 rfl) ?_
  replace hf := hf.2
  refine lv_iload_n (pc := 24) hx hb (zdt_at zt_X6_cmacRight_0 13 rfl) rfl (lv_at hl 3 rfl) ?_
  refine lv_ixor (pc := 25) hx hb (zdt_at zt_X6_cmacRight_0 14 rfl) ?_
  refine lv_i2b (pc := 26) hx hb (zdt_at zt_X6_cmacRight_0 15 rfl) rfl ?_
  replace hf := zk_s hf
  refine va_bast (pc := 27) hx hb hK hP hD hS 7 0 rfl rfl hf.1 (zdt_at zt_X6_cmacRight_0 16 rfl) ?_
  replace hf := hf.2
  clear hP hD hS
  intro H locs hP hD hS
  obtain ⟨c_work_5, e_⟩ : ∃ q : Nat → Int32, q = (upd c_work_4 (0 : Int32).toNatClampNeg (vp_nar .byte (((c_work_4 (0 : Int32).toNatClampNeg) ^^^ p3).toInt8.toInt32))) := ⟨_, rfl⟩
  replace hf := zn_s hf e_
  replace hP : va_P D vwCl ([(h0, .inr (8, [.ref h0_aes, .ref h0_modes, .ref h0_gcm, .ref h0_sha, .ref h0_generator, .ref h0_key, .ref h0_work])), (h0_aes, .inr (2, [.ref h0_aes_keys, .int c_aes_rounds_1])), (h0_aes_keys, .inl (cy 1, 60, .inl c_aes_keys_2)), (h0_key, .inl (cy 0, 32, .inl c_key_3)), (h0_modes, .inr (6, [.ref h0_aes, .ref h0_modes_block, .ref h0_modes_pad])), (h0_modes_block, .inl (cy 0, 16, .inl c_modes_block)), (h0_modes_pad, .inl (cy 0, 16, .inl c_modes_pad)), (h0_work, .inl (cy 0, 64, .inl c_work_5))]) H := by rw [e_]; exact hP
  replace hD : va_D A ([(h0, .inr (8, [.ref h0_aes, .ref h0_modes, .ref h0_gcm, .ref h0_sha, .ref h0_generator, .ref h0_key, .ref h0_work])), (h0_aes, .inr (2, [.ref h0_aes_keys, .int c_aes_rounds_1])), (h0_aes_keys, .inl (cy 1, 60, .inl c_aes_keys_2)), (h0_key, .inl (cy 0, 32, .inl c_key_3)), (h0_modes, .inr (6, [.ref h0_aes, .ref h0_modes_block, .ref h0_modes_pad])), (h0_modes_block, .inl (cy 0, 16, .inl c_modes_block)), (h0_modes_pad, .inl (cy 0, 16, .inl c_modes_pad)), (h0_work, .inl (cy 0, 64, .inl c_work_5))]) := by rw [e_]; exact hD
  clear e_
  refine lv_aload_n (pc := 28) hx hb (zdt_at zt_X6_cmacRight_0 17 rfl) rfl (lv_at hl 0 rfl) ?_
  refine va_get (pc := 29) (D := D) (ci := 8) (v := .ref h0_modes) (C := RX6) (T := TX6) (N := 7) hx hb hts hcX6 hown hK hP 0 rfl rfl 1 (by decide) hw3 (fun _ h9 => h9) rfl (zdt_at zt_X6_cmacRight_0 18 rfl) ?_
  refine lv_aload_n (pc := 32) hx hb (zdt_at zt_X6_cmacRight_0 19 rfl) rfl (lv_at hl 0 rfl) ?_
  refine va_get (pc := 33) (D := D) (ci := 8) (v := .ref h0_work) (C := RX6) (T := TX6) (N := 7) hx hb hts hcX6 hown hK hP 0 rfl rfl 6 (by decide) hw2 (fun _ h9 => h9) rfl (zdt_at zt_X6_cmacRight_0 20 rfl) ?_
  refine lv_iconst (pc := 36) (v := (0 : Int32)) hx hb (zdt_at zt_X6_cmacRight_0 21 rfl) (by decide) ?_
  refine lv_iload_n (pc := 37) hx hb (zdt_at zt_X6_cmacRight_0 22 rfl) rfl (lv_at hl 1 rfl) ?_
  refine lv_aload_n (pc := 38) hx hb (zdt_at zt_X6_cmacRight_0 23 rfl) rfl (lv_at hl 0 rfl) ?_
  refine va_get (pc := 39) (D := D) (ci := 8) (v := .ref h0_work) (C := RX6) (T := TX6) (N := 7) hx hb hts hcX6 hown hK hP 0 rfl rfl 6 (by decide) hw2 (fun _ h9 => h9) rfl (zdt_at zt_X6_cmacRight_0 24 rfl) ?_
  refine lv_iconst (pc := 42) (v := (0 : Int32)) hx hb (zdt_at zt_X6_cmacRight_0 25 rfl) (by decide) ?_
  replace hf := zb_s hf
  obtain ⟨⟨c_modes_block_6, c_modes_pad_7, c_work_8⟩, hc_, hf⟩ := hf
  refine zcn2 (pc := 43) (rv := none) (va_runV (As := [.ref h0_work, .int (0 : Int32), .int p1, .ref h0_work, .int (0 : Int32)]) (rest := []) ⟨hx, hb, hml, hown, hts⟩ (c_X4_cmac_4a1 l D cy tt H.size h0_modes h0_aes h0_modes_block h0_modes_pad h0_aes_keys h0_work 64 (0 : Int32) p1 (0 : Int32) c_aes_rounds_1 c_aes_keys_2 c_modes_block c_modes_pad c_work_5 c_modes_block_6 c_modes_pad_7 c_work_8 hc_) (cwV 5 hts gX6_cmacRight_X4_cmac rfl rfl rfl (by decide +kernel) ⟨Nat.le_of_ble_eq_true rfl, Nat.le_of_ble_eq_true rfl⟩) ⟨zblind, va_recv hK hP (ci := 6) (q0 := 4) rfl rfl, zpre hE hS (hP.sub [4, 1, 2, 5, 6, 7] rfl) (hD.sub [4, 1, 2, 5, 6, 7] (by decide) rfl) (va_free hD hS hA [4, 1, 2, 5, 6, 7] rfl)⟩ rfl rfl hl.1 rfl (lv_room (Nat.le_of_ble_eq_true rfl)) (zdt_at zt_X6_cmacRight_0 26 rfl) ⟨Nat.zero_le _, Nat.zero_le _⟩) hS hP hD (va_free hD hS hA [4, 1, 2, 5, 6, 7] rfl) [4, 1, 2, 5, 6, 7] rfl (by decide) rfl ?_
  clear hP hD hS hc_
  intro H locs hP hD hS
  replace hP : va_P D vwCl ([(h0, .inr (8, [.ref h0_aes, .ref h0_modes, .ref h0_gcm, .ref h0_sha, .ref h0_generator, .ref h0_key, .ref h0_work])), (h0_aes, .inr (2, [.ref h0_aes_keys, .int c_aes_rounds_1])), (h0_aes_keys, .inl (cy 1, 60, .inl c_aes_keys_2)), (h0_key, .inl (cy 0, 32, .inl c_key_3)), (h0_modes, .inr (6, [.ref h0_aes, .ref h0_modes_block, .ref h0_modes_pad])), (h0_modes_block, .inl (cy 0, 16, .inl c_modes_block_6)), (h0_modes_pad, .inl (cy 0, 16, .inl c_modes_pad_7)), (h0_work, .inl (cy 0, 64, .inl c_work_8))]) H := hP
  replace hD : va_D A ([(h0, .inr (8, [.ref h0_aes, .ref h0_modes, .ref h0_gcm, .ref h0_sha, .ref h0_generator, .ref h0_key, .ref h0_work])), (h0_aes, .inr (2, [.ref h0_aes_keys, .int c_aes_rounds_1])), (h0_aes_keys, .inl (cy 1, 60, .inl c_aes_keys_2)), (h0_key, .inl (cy 0, 32, .inl c_key_3)), (h0_modes, .inr (6, [.ref h0_aes, .ref h0_modes_block, .ref h0_modes_pad])), (h0_modes_block, .inl (cy 0, 16, .inl c_modes_block_6)), (h0_modes_pad, .inl (cy 0, 16, .inl c_modes_pad_7)), (h0_work, .inl (cy 0, 64, .inl c_work_8))]) := hD
  refine W.eq (g2 := F0 m 46 ls []) rfl ?_
  refine lv_aload_n (pc := 46) hx hb (zdt_at zt_X6_cmacRight_0 27 rfl) rfl (lv_at hl 0 rfl) ?_
  refine lv_aload_n (pc := 47) hx hb (zdt_at zt_X6_cmacRight_0 28 rfl) rfl (lv_at hl 2 rfl) ?_
  refine lv_iconst (pc := 48) (v := (0 : Int32)) hx hb (zdt_at zt_X6_cmacRight_0 29 rfl) (by decide) ?_
  replace hf := zb_s hf
  obtain ⟨r_9, hc_, hf⟩ := hf
  refine zcs (pc := 49) (rv := (some (.int r_9))) (va_runV (As := [.ref (tt t2), .int (0 : Int32)]) (rest := []) ⟨hx, hb, hml, hown, hts⟩ (c_X6_stands l D cy tt H.size h0 h0_aes h0_modes h0_gcm h0_sha h0_generator h0_key h0_work t2 t2f t2n (0 : Int32) c_work_8 _ _ _ r_9 ht_t2 hc_) (cwV 2 hts gX6_cmacRight_X6_stands rfl rfl rfl (by decide +kernel) ⟨Nat.le_of_ble_eq_true rfl, Nat.le_of_ble_eq_true rfl⟩) ⟨zblind, va_recv hK hP (ci := 8) (q0 := 0) rfl rfl, zpre hE hS (hP.sub [0, 7] rfl) (hD.sub [0, 7] (by decide) rfl) (va_free hD hS hA [0, 7] rfl)⟩ rfl rfl hl.1 rfl (lv_room (Nat.le_of_ble_eq_true rfl)) (zdt_at zt_X6_cmacRight_0 30 rfl) ⟨Nat.zero_le _, Nat.zero_le _⟩) ?_
  clear hc_
  refine W.eq (g2 := F0 m 52 ls [.int r_9]) rfl ?_
  replace hf := zk_s hf
  have hv_ := hf.1
  replace hf := hf.2
  cases hf
  exact W.zret (pc := 52) hx hb hr (zz_nar hv_) (fun t ht hW => ⟨rfl, ⟨by rw [ht]; exact hP, hD⟩, hS.F ht⟩) hS.2.2 (zdt_at zt_X6_cmacRight_0 31 rfl)
set_option maxHeartbeats 4000000 in
set_option maxRecDepth 100000 in
theorem c_X6_gcmRight (l : Launch) (D : va_G) (cy : Nat → ClassId) (tt : Nat → Nat) (sz : Nat) (h0 : Nat) (h0_aes : Nat) (h0_modes : Nat) (h0_gcm : Nat) (h0_sha : Nat) (h0_generator : Nat) (h0_key : Nat) (h0_work : Nat) (h0_aes_keys : Nat) (h0_gcm_tag : Nat) (h0_modes_block : Nat) (h0_modes_pad : Nat) (p1 : Int32) (c_aes_rounds : Int32) (c_aes_keys : Nat → Int32) (c_gcm_keyHigh : Int64) (c_gcm_keyLow : Int64) (c_gcm_sumHigh : Int64) (c_gcm_sumLow : Int64) (c_gcm_tag : Nat → Int32) (c_key : Nat → Int32) (c_modes_block : Nat → Int32) (c_modes_pad : Nat → Int32) (c_work : Nat → Int32) (r_ : Int32) (c_aes_rounds' : Int32) (c_aes_keys' : Nat → Int32) (c_gcm_keyHigh' : Int64) (c_gcm_keyLow' : Int64) (c_gcm_sumHigh' : Int64) (c_gcm_sumLow' : Int64) (c_gcm_tag' : Nat → Int32) (c_key' : Nat → Int32) (c_modes_block' : Nat → Int32) (c_modes_pad' : Nat → Int32) (c_work' : Nat → Int32) (hf : f_X6_gcmRight p1 c_aes_rounds c_aes_keys c_gcm_keyHigh c_gcm_keyLow c_gcm_sumHigh c_gcm_sumLow c_gcm_tag c_key c_modes_block c_modes_pad c_work = some (r_, c_aes_rounds', c_aes_keys', c_gcm_keyHigh', c_gcm_keyLow', c_gcm_sumHigh', c_gcm_sumLow', c_gcm_tag', c_key', c_modes_block', c_modes_pad', c_work')) : Met l yX6_gcmRight wsX6_gcmRight ({ frames := 5, cells := 0, slots := 0, locals := 137 }) (zPc D cy tt sz [.ref h0, .int p1] ([(h0, .inr (8, [.ref h0_aes, .ref h0_modes, .ref h0_gcm, .ref h0_sha, .ref h0_generator, .ref h0_key, .ref h0_work])), (h0_aes, .inr (2, [.ref h0_aes_keys, .int c_aes_rounds])), (h0_aes_keys, .inl (cy 1, 60, .inl c_aes_keys)), (h0_gcm, .inr (4, [.ref h0_aes, .ref h0_modes, .ref h0_gcm_tag, .long c_gcm_keyHigh, .long c_gcm_keyLow, .long c_gcm_sumHigh, .long c_gcm_sumLow])), (h0_gcm_tag, .inl (cy 0, 16, .inl c_gcm_tag)), (h0_key, .inl (cy 0, 32, .inl c_key)), (h0_modes, .inr (6, [.ref h0_aes, .ref h0_modes_block, .ref h0_modes_pad])), (h0_modes_block, .inl (cy 0, 16, .inl c_modes_block)), (h0_modes_pad, .inl (cy 0, 16, .inl c_modes_pad)), (h0_work, .inl (cy 0, 64, .inl c_work))])) (zQ D (some (.int r_)) ([(h0, .inr (8, [.ref h0_aes, .ref h0_modes, .ref h0_gcm, .ref h0_sha, .ref h0_generator, .ref h0_key, .ref h0_work])), (h0_aes, .inr (2, [.ref h0_aes_keys, .int c_aes_rounds'])), (h0_aes_keys, .inl (cy 1, 60, .inl c_aes_keys')), (h0_gcm, .inr (4, [.ref h0_aes, .ref h0_modes, .ref h0_gcm_tag, .long c_gcm_keyHigh', .long c_gcm_keyLow', .long c_gcm_sumHigh', .long c_gcm_sumLow'])), (h0_gcm_tag, .inl (cy 0, 16, .inl c_gcm_tag')), (h0_key, .inl (cy 0, 32, .inl c_key')), (h0_modes, .inr (6, [.ref h0_aes, .ref h0_modes_block, .ref h0_modes_pad])), (h0_modes_block, .inl (cy 0, 16, .inl c_modes_block')), (h0_modes_pad, .inl (cy 0, 16, .inl c_modes_pad')), (h0_work, .inl (cy 0, 64, .inl c_work'))]) (va_A ([(h0, .inr (8, [.ref h0_aes, .ref h0_modes, .ref h0_gcm, .ref h0_sha, .ref h0_generator, .ref h0_key, .ref h0_work])), (h0_aes, .inr (2, [.ref h0_aes_keys, .int c_aes_rounds])), (h0_aes_keys, .inl (cy 1, 60, .inl c_aes_keys)), (h0_gcm, .inr (4, [.ref h0_aes, .ref h0_modes, .ref h0_gcm_tag, .long c_gcm_keyHigh, .long c_gcm_keyLow, .long c_gcm_sumHigh, .long c_gcm_sumLow])), (h0_gcm_tag, .inl (cy 0, 16, .inl c_gcm_tag)), (h0_key, .inl (cy 0, 32, .inl c_key)), (h0_modes, .inr (6, [.ref h0_aes, .ref h0_modes_block, .ref h0_modes_pad])), (h0_modes_block, .inl (cy 0, 16, .inl c_modes_block)), (h0_modes_pad, .inl (cy 0, 16, .inl c_modes_pad)), (h0_work, .inl (cy 0, 64, .inl c_work))]) sz)) 0 0 (va_A ([(h0, .inr (8, [.ref h0_aes, .ref h0_modes, .ref h0_gcm, .ref h0_sha, .ref h0_generator, .ref h0_key, .ref h0_work])), (h0_aes, .inr (2, [.ref h0_aes_keys, .int c_aes_rounds])), (h0_aes_keys, .inl (cy 1, 60, .inl c_aes_keys)), (h0_gcm, .inr (4, [.ref h0_aes, .ref h0_modes, .ref h0_gcm_tag, .long c_gcm_keyHigh, .long c_gcm_keyLow, .long c_gcm_sumHigh, .long c_gcm_sumLow])), (h0_gcm_tag, .inl (cy 0, 16, .inl c_gcm_tag)), (h0_key, .inl (cy 0, 32, .inl c_key)), (h0_modes, .inr (6, [.ref h0_aes, .ref h0_modes_block, .ref h0_modes_pad])), (h0_modes_block, .inl (cy 0, 16, .inl c_modes_block)), (h0_modes_pad, .inl (cy 0, 16, .inl c_modes_pad)), (h0_work, .inl (cy 0, 64, .inl c_work))]) sz) := by
  refine Met.ofW (cc := cX6_gcmRight) (maxL := 2) (ret := (some .boolean)) (by decide) rfl ?_
  intro p e s m args below meth c s₁ B hml hv
  obtain ⟨rfl, rfl, hP, hD0, hE⟩ := hv
  have hx := B.exec
  have hb := B.bytes
  have hr := B.returns
  have hts := atoms_spec (ws := wsX6_gcmRight) B.pre
  have hown : s.vm.findClass RX6 = some m.cls := findClass_of_methodNamed B.named
  have hlocks := B.notSynchronized
  clear B
  have hD := hD0.self (sz := s.heap.size)
  generalize hAe : va_A ([(h0, .inr (8, [.ref h0_aes, .ref h0_modes, .ref h0_gcm, .ref h0_sha, .ref h0_generator, .ref h0_key, .ref h0_work])), (h0_aes, .inr (2, [.ref h0_aes_keys, .int c_aes_rounds])), (h0_aes_keys, .inl (cy 1, 60, .inl c_aes_keys)), (h0_gcm, .inr (4, [.ref h0_aes, .ref h0_modes, .ref h0_gcm_tag, .long c_gcm_keyHigh, .long c_gcm_keyLow, .long c_gcm_sumHigh, .long c_gcm_sumLow])), (h0_gcm_tag, .inl (cy 0, 16, .inl c_gcm_tag)), (h0_key, .inl (cy 0, 32, .inl c_key)), (h0_modes, .inr (6, [.ref h0_aes, .ref h0_modes_block, .ref h0_modes_pad])), (h0_modes_block, .inl (cy 0, 16, .inl c_modes_block)), (h0_modes_pad, .inl (cy 0, 16, .inl c_modes_pad)), (h0_work, .inl (cy 0, 64, .inl c_work))]) s.heap.size = A at hD hE ⊢
  have hA : ∀ q : Nat, s.heap.size ≤ q → A q := fun q h => by rw [← hAe]; exact Or.inr h
  clear hAe hD0
  have hS : va_S A s.heap s.heap [] := va_S.rf
  have hK := hE.1
  have hw0 := hts (.fieldLink RX6 141 "SealedModule$SelfTests" "ZEROS" "[J") (by decide +kernel)
  have hw1 := hts (.fieldLink RX6 15 "SealedModule$SelfTests" "work" "[B") (by decide +kernel)
  have hw2 := hts (.fieldLink RX6 26 "SealedModule$SelfTests" "gcm" "LSealedModule$Gcm;") (by decide +kernel)
  have hw3 := hts (.fieldLink RX6 155 "SealedModule$SelfTests" "GCM_ANSWER" "[J") (by decide +kernel)
  have hcX6 : ∀ w ∈ u_ws RX6 TX6 7, w ∈ wsX6_gcmRight := (fun _ h => List.mem_cons_of_mem _ (List.mem_append_left _ (List.mem_append_left _ (List.mem_append_left _ (List.mem_append_right _ h)))))
  have hl := lv_entry ([.ref h0, .int p1]) (n := 2) (Nat.le_of_ble_eq_true rfl)
  rw [lg_entry_eq]
  generalize (lg_sl ([.ref h0, .int p1]) ++ List.replicate (2 - (lg_sl ([.ref h0, .int p1])).length) Slot.unset).toArray = ls at hl ⊢
  replace hl : lv_has ls 2 [(0, .ref h0), (1, .int p1)] := hl
  unfold f_X6_gcmRight at hf
  refine zgo (fun GW hTo hFr => ?_)
  refine hFr _ _ _ ?_
  obtain ⟨H, hHe⟩ : ∃ H, H = s.heap := ⟨_, rfl⟩
  obtain ⟨locs, hLe⟩ : ∃ L : List Loc, L = [] := ⟨_, rfl⟩
  rw [← hHe] at hP
  replace hS : va_S A s.heap H locs := by rw [hHe, hLe]; exact hS
  refine zat hHe.symm hLe.symm ?_
  clear hHe hLe
  refine lv_aload_n (pc := 0) hx hb (zdt_at zt_X6_gcmRight_0 0 rfl) rfl (lv_at hl 0 rfl) ?_
  refine va_gets (pc := 1) hx hb (gT_13 hE.2.2).1 hS hown hw0 (fun _ h9 => h9) (zdt_at zt_X6_gcmRight_0 1 rfl) ?_
  refine lv_bipush (pc := 4) (v := (16 : Int32)) hx hb (zdt_at zt_X6_gcmRight_0 2 rfl) (by decide) ?_
  replace hf := zb_s hf
  obtain ⟨⟨c_aes_rounds_1, c_aes_keys_2, c_key_3⟩, hc_, hf⟩ := hf
  refine zcn2 (pc := 6) (rv := none) (va_runV (As := [.ref (tt 13), .int (16 : Int32)]) (rest := []) ⟨hx, hb, hml, hown, hts⟩ (c_X6_setKey l D cy tt H.size h0 h0_aes h0_modes h0_gcm h0_sha h0_generator h0_key h0_work h0_aes_keys 13 (fun j => tb_ZEROS.getD j 0) 2 (16 : Int32) c_aes_rounds c_aes_keys c_key _ _ _ c_aes_rounds_1 c_aes_keys_2 c_key_3 rfl hc_) (cwV 2 hts gX6_gcmRight_X6_setKey rfl rfl rfl (by decide +kernel) ⟨Nat.le_of_ble_eq_true rfl, Nat.le_of_ble_eq_true rfl⟩) ⟨zblind, va_recv hK hP (ci := 8) (q0 := 0) rfl rfl, zpre hE hS (hP.sub [0, 1, 2, 5] rfl) (hD.sub [0, 1, 2, 5] (by decide) rfl) (va_free hD hS hA [0, 1, 2, 5] rfl)⟩ rfl rfl hl.1 rfl (lv_room (Nat.le_of_ble_eq_true rfl)) (zdt_at zt_X6_gcmRight_0 3 rfl) ⟨Nat.zero_le _, Nat.zero_le _⟩) hS hP hD (va_free hD hS hA [0, 1, 2, 5] rfl) [0, 1, 2, 5] rfl (by decide) rfl ?_
  clear hP hD hS hc_
  intro H locs hP hD hS
  replace hP : va_P D vwCl ([(h0, .inr (8, [.ref h0_aes, .ref h0_modes, .ref h0_gcm, .ref h0_sha, .ref h0_generator, .ref h0_key, .ref h0_work])), (h0_aes, .inr (2, [.ref h0_aes_keys, .int c_aes_rounds_1])), (h0_aes_keys, .inl (cy 1, 60, .inl c_aes_keys_2)), (h0_gcm, .inr (4, [.ref h0_aes, .ref h0_modes, .ref h0_gcm_tag, .long c_gcm_keyHigh, .long c_gcm_keyLow, .long c_gcm_sumHigh, .long c_gcm_sumLow])), (h0_gcm_tag, .inl (cy 0, 16, .inl c_gcm_tag)), (h0_key, .inl (cy 0, 32, .inl c_key_3)), (h0_modes, .inr (6, [.ref h0_aes, .ref h0_modes_block, .ref h0_modes_pad])), (h0_modes_block, .inl (cy 0, 16, .inl c_modes_block)), (h0_modes_pad, .inl (cy 0, 16, .inl c_modes_pad)), (h0_work, .inl (cy 0, 64, .inl c_work))]) H := hP
  replace hD : va_D A ([(h0, .inr (8, [.ref h0_aes, .ref h0_modes, .ref h0_gcm, .ref h0_sha, .ref h0_generator, .ref h0_key, .ref h0_work])), (h0_aes, .inr (2, [.ref h0_aes_keys, .int c_aes_rounds_1])), (h0_aes_keys, .inl (cy 1, 60, .inl c_aes_keys_2)), (h0_gcm, .inr (4, [.ref h0_aes, .ref h0_modes, .ref h0_gcm_tag, .long c_gcm_keyHigh, .long c_gcm_keyLow, .long c_gcm_sumHigh, .long c_gcm_sumLow])), (h0_gcm_tag, .inl (cy 0, 16, .inl c_gcm_tag)), (h0_key, .inl (cy 0, 32, .inl c_key_3)), (h0_modes, .inr (6, [.ref h0_aes, .ref h0_modes_block, .ref h0_modes_pad])), (h0_modes_block, .inl (cy 0, 16, .inl c_modes_block)), (h0_modes_pad, .inl (cy 0, 16, .inl c_modes_pad)), (h0_work, .inl (cy 0, 64, .inl c_work))]) := hD
  refine W.eq (g2 := F0 m 9 ls []) rfl ?_
  refine lv_aload_n (pc := 9) hx hb (zdt_at zt_X6_gcmRight_0 4 rfl) rfl (lv_at hl 0 rfl) ?_
  refine va_get (pc := 10) (D := D) (ci := 8) (v := .ref h0_work) (C := RX6) (T := TX6) (N := 7) hx hb hts hcX6 hown hK hP 0 rfl rfl 6 (by decide) hw1 (fun _ h9 => h9) rfl (zdt_at zt_X6_gcmRight_0 5 rfl) ?_
  refine lv_iconst (pc := 13) (v := (0 : Int32)) hx hb (zdt_at zt_X6_gcmRight_0 6 rfl) (by decide) ?_
  replace hf := zb_s hf
  obtain ⟨c_work_4, hc_, hf⟩ := hf
  refine zcn2 (pc := 14) (rv := none) (va_runS (As := [.ref h0_work, .int (0 : Int32)]) (rest := []) ⟨hx, hb, hml, hown, hts⟩ (c_J7_fill_031fb l D cy tt H.size h0_work 64 (0 : Int32) c_work c_work_4 hc_) (va_cwS 2 hts gX6_gcmRight_J7_fill_031fb rfl rfl rfl (by decide +kernel) ⟨Nat.le_of_ble_eq_true rfl, Nat.le_of_ble_eq_true rfl⟩) ⟨zblind, zpre hE hS (hP.sub [9] rfl) (hD.sub [9] (by decide) rfl) (va_free hD hS hA [9] rfl)⟩ rfl rfl hl.1 rfl (lv_room (Nat.le_of_ble_eq_true rfl)) (zdt_at zt_X6_gcmRight_0 7 rfl) ⟨Nat.zero_le _, Nat.zero_le _⟩) hS hP hD (va_free hD hS hA [9] rfl) [9] rfl (by decide) rfl ?_
  clear hP hD hS hc_
  intro H locs hP hD hS
  replace hP : va_P D vwCl ([(h0, .inr (8, [.ref h0_aes, .ref h0_modes, .ref h0_gcm, .ref h0_sha, .ref h0_generator, .ref h0_key, .ref h0_work])), (h0_aes, .inr (2, [.ref h0_aes_keys, .int c_aes_rounds_1])), (h0_aes_keys, .inl (cy 1, 60, .inl c_aes_keys_2)), (h0_gcm, .inr (4, [.ref h0_aes, .ref h0_modes, .ref h0_gcm_tag, .long c_gcm_keyHigh, .long c_gcm_keyLow, .long c_gcm_sumHigh, .long c_gcm_sumLow])), (h0_gcm_tag, .inl (cy 0, 16, .inl c_gcm_tag)), (h0_key, .inl (cy 0, 32, .inl c_key_3)), (h0_modes, .inr (6, [.ref h0_aes, .ref h0_modes_block, .ref h0_modes_pad])), (h0_modes_block, .inl (cy 0, 16, .inl c_modes_block)), (h0_modes_pad, .inl (cy 0, 16, .inl c_modes_pad)), (h0_work, .inl (cy 0, 64, .inl c_work_4))]) H := hP
  replace hD : va_D A ([(h0, .inr (8, [.ref h0_aes, .ref h0_modes, .ref h0_gcm, .ref h0_sha, .ref h0_generator, .ref h0_key, .ref h0_work])), (h0_aes, .inr (2, [.ref h0_aes_keys, .int c_aes_rounds_1])), (h0_aes_keys, .inl (cy 1, 60, .inl c_aes_keys_2)), (h0_gcm, .inr (4, [.ref h0_aes, .ref h0_modes, .ref h0_gcm_tag, .long c_gcm_keyHigh, .long c_gcm_keyLow, .long c_gcm_sumHigh, .long c_gcm_sumLow])), (h0_gcm_tag, .inl (cy 0, 16, .inl c_gcm_tag)), (h0_key, .inl (cy 0, 32, .inl c_key_3)), (h0_modes, .inr (6, [.ref h0_aes, .ref h0_modes_block, .ref h0_modes_pad])), (h0_modes_block, .inl (cy 0, 16, .inl c_modes_block)), (h0_modes_pad, .inl (cy 0, 16, .inl c_modes_pad)), (h0_work, .inl (cy 0, 64, .inl c_work_4))]) := hD
  refine W.eq (g2 := F0 m 17 ls []) rfl ?_
  refine lv_aload_n (pc := 17) hx hb (zdt_at zt_X6_gcmRight_0 8 rfl) rfl (lv_at hl 0 rfl) ?_
  refine va_get (pc := 18) (D := D) (ci := 8) (v := .ref h0_work) (C := RX6) (T := TX6) (N := 7) hx hb hts hcX6 hown hK hP 0 rfl rfl 6 (by decide) hw1 (fun _ h9 => h9) rfl (zdt_at zt_X6_gcmRight_0 9 rfl) ?_
  refine lv_bipush (pc := 21) (v := (12 : Int32)) hx hb (zdt_at zt_X6_gcmRight_0 10 rfl) (by decide) ?_
  refine lv_dup2_11 (pc := 23) hx hb (zdt_at zt_X6_gcmRight_0 11 rfl) rfl rfl ?_
  replace hf := zk_s hf
  refine va_bald (pc := 24) hx hb hK hP 9 0 rfl rfl hf.1 (zdt_at zt_X6_gcmRight_0 12 rfl) ?_
  replace hf := hf.2
  refine lv_iload_n (pc := 25) hx hb (zdt_at zt_X6_gcmRight_0 13 rfl) rfl (lv_at hl 1 rfl) ?_
  refine lv_ixor (pc := 26) hx hb (zdt_at zt_X6_gcmRight_0 14 rfl) ?_
  refine lv_i2b (pc := 27) hx hb (zdt_at zt_X6_gcmRight_0 15 rfl) rfl ?_
  replace hf := zk_s hf
  refine va_bast (pc := 28) hx hb hK hP hD hS 9 0 rfl rfl hf.1 (zdt_at zt_X6_gcmRight_0 16 rfl) ?_
  replace hf := hf.2
  clear hP hD hS
  intro H locs hP hD hS
  obtain ⟨c_work_5, e_⟩ : ∃ q : Nat → Int32, q = (upd c_work_4 (12 : Int32).toNatClampNeg (vp_nar .byte (((c_work_4 (12 : Int32).toNatClampNeg) ^^^ p1).toInt8.toInt32))) := ⟨_, rfl⟩
  replace hf := zn_s hf e_
  replace hP : va_P D vwCl ([(h0, .inr (8, [.ref h0_aes, .ref h0_modes, .ref h0_gcm, .ref h0_sha, .ref h0_generator, .ref h0_key, .ref h0_work])), (h0_aes, .inr (2, [.ref h0_aes_keys, .int c_aes_rounds_1])), (h0_aes_keys, .inl (cy 1, 60, .inl c_aes_keys_2)), (h0_gcm, .inr (4, [.ref h0_aes, .ref h0_modes, .ref h0_gcm_tag, .long c_gcm_keyHigh, .long c_gcm_keyLow, .long c_gcm_sumHigh, .long c_gcm_sumLow])), (h0_gcm_tag, .inl (cy 0, 16, .inl c_gcm_tag)), (h0_key, .inl (cy 0, 32, .inl c_key_3)), (h0_modes, .inr (6, [.ref h0_aes, .ref h0_modes_block, .ref h0_modes_pad])), (h0_modes_block, .inl (cy 0, 16, .inl c_modes_block)), (h0_modes_pad, .inl (cy 0, 16, .inl c_modes_pad)), (h0_work, .inl (cy 0, 64, .inl c_work_5))]) H := by rw [e_]; exact hP
  replace hD : va_D A ([(h0, .inr (8, [.ref h0_aes, .ref h0_modes, .ref h0_gcm, .ref h0_sha, .ref h0_generator, .ref h0_key, .ref h0_work])), (h0_aes, .inr (2, [.ref h0_aes_keys, .int c_aes_rounds_1])), (h0_aes_keys, .inl (cy 1, 60, .inl c_aes_keys_2)), (h0_gcm, .inr (4, [.ref h0_aes, .ref h0_modes, .ref h0_gcm_tag, .long c_gcm_keyHigh, .long c_gcm_keyLow, .long c_gcm_sumHigh, .long c_gcm_sumLow])), (h0_gcm_tag, .inl (cy 0, 16, .inl c_gcm_tag)), (h0_key, .inl (cy 0, 32, .inl c_key_3)), (h0_modes, .inr (6, [.ref h0_aes, .ref h0_modes_block, .ref h0_modes_pad])), (h0_modes_block, .inl (cy 0, 16, .inl c_modes_block)), (h0_modes_pad, .inl (cy 0, 16, .inl c_modes_pad)), (h0_work, .inl (cy 0, 64, .inl c_work_5))]) := by rw [e_]; exact hD
  clear e_
  refine lv_aload_n (pc := 29) hx hb (zdt_at zt_X6_gcmRight_0 17 rfl) rfl (lv_at hl 0 rfl) ?_
  refine va_get (pc := 30) (D := D) (ci := 8) (v := .ref h0_gcm) (C := RX6) (T := TX6) (N := 7) hx hb hts hcX6 hown hK hP 0 rfl rfl 2 (by decide) hw2 (fun _ h9 => h9) rfl (zdt_at zt_X6_gcmRight_0 18 rfl) ?_
  refine lv_aload_n (pc := 33) hx hb (zdt_at zt_X6_gcmRight_0 19 rfl) rfl (lv_at hl 0 rfl) ?_
  refine va_get (pc := 34) (D := D) (ci := 8) (v := .ref h0_work) (C := RX6) (T := TX6) (N := 7) hx hb hts hcX6 hown hK hP 0 rfl rfl 6 (by decide) hw1 (fun _ h9 => h9) rfl (zdt_at zt_X6_gcmRight_0 20 rfl) ?_
  refine lv_iconst (pc := 37) (v := (0 : Int32)) hx hb (zdt_at zt_X6_gcmRight_0 21 rfl) (by decide) ?_
  refine lv_iconst (pc := 38) (v := (0 : Int32)) hx hb (zdt_at zt_X6_gcmRight_0 22 rfl) (by decide) ?_
  refine lv_bipush (pc := 39) (v := (16 : Int32)) hx hb (zdt_at zt_X6_gcmRight_0 23 rfl) (by decide) ?_
  replace hf := zb_s hf
  obtain ⟨⟨c_gcm_keyHigh_6, c_gcm_keyLow_7, c_gcm_sumHigh_8, c_gcm_sumLow_9, c_modes_block_10, c_modes_pad_11, c_gcm_tag_12, c_work_13⟩, hc_, hf⟩ := hf
  refine zcn2 (pc := 41) (rv := none) (va_runV (As := [.ref h0_work, .int (0 : Int32), .int (0 : Int32), .int (16 : Int32)]) (rest := []) ⟨hx, hb, hml, hown, hts⟩ (c_X2_sealText l D cy tt H.size h0_gcm h0_aes h0_modes h0_gcm_tag h0_aes_keys h0_modes_block h0_modes_pad h0_work 64 (0 : Int32) (0 : Int32) (16 : Int32) c_gcm_keyHigh c_gcm_keyLow c_gcm_sumHigh c_gcm_sumLow c_aes_rounds_1 c_aes_keys_2 c_modes_block c_modes_pad c_gcm_tag c_work_5 c_gcm_keyHigh_6 c_gcm_keyLow_7 c_gcm_sumHigh_8 c_gcm_sumLow_9 c_modes_block_10 c_modes_pad_11 c_gcm_tag_12 c_work_13 hc_) (cwV 4 hts gX6_gcmRight_X2_sealText rfl rfl rfl (by decide +kernel) ⟨Nat.le_of_ble_eq_true rfl, Nat.le_of_ble_eq_true rfl⟩) ⟨zblind, va_recv hK hP (ci := 4) (q0 := 3) rfl rfl, zpre hE hS (hP.sub [3, 1, 2, 6, 7, 8, 4, 9] rfl) (hD.sub [3, 1, 2, 6, 7, 8, 4, 9] (by decide) rfl) (va_free hD hS hA [3, 1, 2, 6, 7, 8, 4, 9] rfl)⟩ rfl rfl hl.1 rfl (lv_room (Nat.le_of_ble_eq_true rfl)) (zdt_at zt_X6_gcmRight_0 24 rfl) ⟨Nat.zero_le _, Nat.zero_le _⟩) hS hP hD (va_free hD hS hA [3, 1, 2, 6, 7, 8, 4, 9] rfl) [3, 1, 2, 6, 7, 8, 4, 9] rfl (by decide) rfl ?_
  clear hP hD hS hc_
  intro H locs hP hD hS
  replace hP : va_P D vwCl ([(h0, .inr (8, [.ref h0_aes, .ref h0_modes, .ref h0_gcm, .ref h0_sha, .ref h0_generator, .ref h0_key, .ref h0_work])), (h0_aes, .inr (2, [.ref h0_aes_keys, .int c_aes_rounds_1])), (h0_aes_keys, .inl (cy 1, 60, .inl c_aes_keys_2)), (h0_gcm, .inr (4, [.ref h0_aes, .ref h0_modes, .ref h0_gcm_tag, .long c_gcm_keyHigh_6, .long c_gcm_keyLow_7, .long c_gcm_sumHigh_8, .long c_gcm_sumLow_9])), (h0_gcm_tag, .inl (cy 0, 16, .inl c_gcm_tag_12)), (h0_key, .inl (cy 0, 32, .inl c_key_3)), (h0_modes, .inr (6, [.ref h0_aes, .ref h0_modes_block, .ref h0_modes_pad])), (h0_modes_block, .inl (cy 0, 16, .inl c_modes_block_10)), (h0_modes_pad, .inl (cy 0, 16, .inl c_modes_pad_11)), (h0_work, .inl (cy 0, 64, .inl c_work_13))]) H := hP
  replace hD : va_D A ([(h0, .inr (8, [.ref h0_aes, .ref h0_modes, .ref h0_gcm, .ref h0_sha, .ref h0_generator, .ref h0_key, .ref h0_work])), (h0_aes, .inr (2, [.ref h0_aes_keys, .int c_aes_rounds_1])), (h0_aes_keys, .inl (cy 1, 60, .inl c_aes_keys_2)), (h0_gcm, .inr (4, [.ref h0_aes, .ref h0_modes, .ref h0_gcm_tag, .long c_gcm_keyHigh_6, .long c_gcm_keyLow_7, .long c_gcm_sumHigh_8, .long c_gcm_sumLow_9])), (h0_gcm_tag, .inl (cy 0, 16, .inl c_gcm_tag_12)), (h0_key, .inl (cy 0, 32, .inl c_key_3)), (h0_modes, .inr (6, [.ref h0_aes, .ref h0_modes_block, .ref h0_modes_pad])), (h0_modes_block, .inl (cy 0, 16, .inl c_modes_block_10)), (h0_modes_pad, .inl (cy 0, 16, .inl c_modes_pad_11)), (h0_work, .inl (cy 0, 64, .inl c_work_13))]) := hD
  refine W.eq (g2 := F0 m 44 ls []) rfl ?_
  refine lv_aload_n (pc := 44) hx hb (zdt_at zt_X6_gcmRight_0 25 rfl) rfl (lv_at hl 0 rfl) ?_
  refine va_gets (pc := 45) hx hb (gT_14 hE.2.2).1 hS hown hw3 (fun _ h9 => h9) (zdt_at zt_X6_gcmRight_0 26 rfl) ?_
  refine lv_bipush (pc := 48) (v := (12 : Int32)) hx hb (zdt_at zt_X6_gcmRight_0 27 rfl) (by decide) ?_
  replace hf := zb_s hf
  obtain ⟨r_14, hc_, hf⟩ := hf
  refine zcs (pc := 50) (rv := (some (.int r_14))) (va_runV (As := [.ref (tt 14), .int (12 : Int32)]) (rest := []) ⟨hx, hb, hml, hown, hts⟩ (c_X6_stands l D cy tt H.size h0 h0_aes h0_modes h0_gcm h0_sha h0_generator h0_key h0_work 14 (fun j => tb_GCM_ANSWER.getD j 0) 4 (12 : Int32) c_work_13 _ _ _ r_14 rfl hc_) (cwV 2 hts gX6_gcmRight_X6_stands rfl rfl rfl (by decide +kernel) ⟨Nat.le_of_ble_eq_true rfl, Nat.le_of_ble_eq_true rfl⟩) ⟨zblind, va_recv hK hP (ci := 8) (q0 := 0) rfl rfl, zpre hE hS (hP.sub [0, 9] rfl) (hD.sub [0, 9] (by decide) rfl) (va_free hD hS hA [0, 9] rfl)⟩ rfl rfl hl.1 rfl (lv_room (Nat.le_of_ble_eq_true rfl)) (zdt_at zt_X6_gcmRight_0 28 rfl) ⟨Nat.zero_le _, Nat.zero_le _⟩) ?_
  clear hc_
  refine W.eq (g2 := F0 m 53 ls [.int r_14]) rfl ?_
  replace hf := zk_s hf
  have hv_ := hf.1
  replace hf := hf.2
  cases hf
  exact W.zret (pc := 53) hx hb hr (zz_nar hv_) (fun t ht hW => ⟨rfl, ⟨by rw [ht]; exact hP, hD⟩, hS.F ht⟩) hS.2.2 (zdt_at zt_X6_gcmRight_0 29 rfl)
set_option maxHeartbeats 4000000 in
set_option maxRecDepth 100000 in
theorem c_X6_ctrRight (l : Launch) (D : va_G) (cy : Nat → ClassId) (tt : Nat → Nat) (sz : Nat) (h0 : Nat) (h0_aes : Nat) (h0_modes : Nat) (h0_gcm : Nat) (h0_sha : Nat) (h0_generator : Nat) (h0_key : Nat) (h0_work : Nat) (h0_aes_keys : Nat) (h0_modes_block : Nat) (h0_modes_pad : Nat) (p1 : Int32) (c_aes_rounds : Int32) (c_aes_keys : Nat → Int32) (c_key : Nat → Int32) (c_modes_block : Nat → Int32) (c_modes_pad : Nat → Int32) (c_work : Nat → Int32) (r_ : Int32) (c_aes_rounds' : Int32) (c_aes_keys' : Nat → Int32) (c_key' : Nat → Int32) (c_modes_block' : Nat → Int32) (c_modes_pad' : Nat → Int32) (c_work' : Nat → Int32) (hf : f_X6_ctrRight p1 c_aes_rounds c_aes_keys c_key c_modes_block c_modes_pad c_work = some (r_, c_aes_rounds', c_aes_keys', c_key', c_modes_block', c_modes_pad', c_work')) : Met l yX6_ctrRight wsX6_ctrRight ({ frames := 4, cells := 0, slots := 0, locals := 112 }) (zPc D cy tt sz [.ref h0, .int p1] ([(h0, .inr (8, [.ref h0_aes, .ref h0_modes, .ref h0_gcm, .ref h0_sha, .ref h0_generator, .ref h0_key, .ref h0_work])), (h0_aes, .inr (2, [.ref h0_aes_keys, .int c_aes_rounds])), (h0_aes_keys, .inl (cy 1, 60, .inl c_aes_keys)), (h0_key, .inl (cy 0, 32, .inl c_key)), (h0_modes, .inr (6, [.ref h0_aes, .ref h0_modes_block, .ref h0_modes_pad])), (h0_modes_block, .inl (cy 0, 16, .inl c_modes_block)), (h0_modes_pad, .inl (cy 0, 16, .inl c_modes_pad)), (h0_work, .inl (cy 0, 64, .inl c_work))])) (zQ D (some (.int r_)) ([(h0, .inr (8, [.ref h0_aes, .ref h0_modes, .ref h0_gcm, .ref h0_sha, .ref h0_generator, .ref h0_key, .ref h0_work])), (h0_aes, .inr (2, [.ref h0_aes_keys, .int c_aes_rounds'])), (h0_aes_keys, .inl (cy 1, 60, .inl c_aes_keys')), (h0_key, .inl (cy 0, 32, .inl c_key')), (h0_modes, .inr (6, [.ref h0_aes, .ref h0_modes_block, .ref h0_modes_pad])), (h0_modes_block, .inl (cy 0, 16, .inl c_modes_block')), (h0_modes_pad, .inl (cy 0, 16, .inl c_modes_pad')), (h0_work, .inl (cy 0, 64, .inl c_work'))]) (va_A ([(h0, .inr (8, [.ref h0_aes, .ref h0_modes, .ref h0_gcm, .ref h0_sha, .ref h0_generator, .ref h0_key, .ref h0_work])), (h0_aes, .inr (2, [.ref h0_aes_keys, .int c_aes_rounds])), (h0_aes_keys, .inl (cy 1, 60, .inl c_aes_keys)), (h0_key, .inl (cy 0, 32, .inl c_key)), (h0_modes, .inr (6, [.ref h0_aes, .ref h0_modes_block, .ref h0_modes_pad])), (h0_modes_block, .inl (cy 0, 16, .inl c_modes_block)), (h0_modes_pad, .inl (cy 0, 16, .inl c_modes_pad)), (h0_work, .inl (cy 0, 64, .inl c_work))]) sz)) 0 0 (va_A ([(h0, .inr (8, [.ref h0_aes, .ref h0_modes, .ref h0_gcm, .ref h0_sha, .ref h0_generator, .ref h0_key, .ref h0_work])), (h0_aes, .inr (2, [.ref h0_aes_keys, .int c_aes_rounds])), (h0_aes_keys, .inl (cy 1, 60, .inl c_aes_keys)), (h0_key, .inl (cy 0, 32, .inl c_key)), (h0_modes, .inr (6, [.ref h0_aes, .ref h0_modes_block, .ref h0_modes_pad])), (h0_modes_block, .inl (cy 0, 16, .inl c_modes_block)), (h0_modes_pad, .inl (cy 0, 16, .inl c_modes_pad)), (h0_work, .inl (cy 0, 64, .inl c_work))]) sz) := by
  refine Met.ofW (cc := cX6_ctrRight) (maxL := 2) (ret := (some .boolean)) (by decide) rfl ?_
  intro p e s m args below meth c s₁ B hml hv
  obtain ⟨rfl, rfl, hP, hD0, hE⟩ := hv
  have hx := B.exec
  have hb := B.bytes
  have hr := B.returns
  have hts := atoms_spec (ws := wsX6_ctrRight) B.pre
  have hown : s.vm.findClass RX6 = some m.cls := findClass_of_methodNamed B.named
  have hlocks := B.notSynchronized
  clear B
  have hD := hD0.self (sz := s.heap.size)
  generalize hAe : va_A ([(h0, .inr (8, [.ref h0_aes, .ref h0_modes, .ref h0_gcm, .ref h0_sha, .ref h0_generator, .ref h0_key, .ref h0_work])), (h0_aes, .inr (2, [.ref h0_aes_keys, .int c_aes_rounds])), (h0_aes_keys, .inl (cy 1, 60, .inl c_aes_keys)), (h0_key, .inl (cy 0, 32, .inl c_key)), (h0_modes, .inr (6, [.ref h0_aes, .ref h0_modes_block, .ref h0_modes_pad])), (h0_modes_block, .inl (cy 0, 16, .inl c_modes_block)), (h0_modes_pad, .inl (cy 0, 16, .inl c_modes_pad)), (h0_work, .inl (cy 0, 64, .inl c_work))]) s.heap.size = A at hD hE ⊢
  have hA : ∀ q : Nat, s.heap.size ≤ q → A q := fun q h => by rw [← hAe]; exact Or.inr h
  clear hAe hD0
  have hS : va_S A s.heap s.heap [] := va_S.rf
  have hK := hE.1
  have hw0 := hts (.fieldLink RX6 116 "SealedModule$SelfTests" "MODES_KEY" "[J") (by decide +kernel)
  have hw1 := hts (.fieldLink RX6 131 "SealedModule$SelfTests" "CTR_START" "[J") (by decide +kernel)
  have hw2 := hts (.fieldLink RX6 119 "SealedModule$SelfTests" "MODES_TEXT" "[J") (by decide +kernel)
  have hw3 := hts (.fieldLink RX6 15 "SealedModule$SelfTests" "work" "[B") (by decide +kernel)
  have hw4 := hts (.fieldLink RX6 22 "SealedModule$SelfTests" "modes" "LSealedModule$Modes;") (by decide +kernel)
  have hw5 := hts (.fieldLink RX6 138 "SealedModule$SelfTests" "CTR_ANSWER" "[J") (by decide +kernel)
  have hcX6 : ∀ w ∈ u_ws RX6 TX6 7, w ∈ wsX6_ctrRight := (fun _ h => List.mem_cons_of_mem _ (List.mem_append_left _ (List.mem_append_left _ (List.mem_append_right _ h))))
  have hl := lv_entry ([.ref h0, .int p1]) (n := 2) (Nat.le_of_ble_eq_true rfl)
  rw [lg_entry_eq]
  generalize (lg_sl ([.ref h0, .int p1]) ++ List.replicate (2 - (lg_sl ([.ref h0, .int p1])).length) Slot.unset).toArray = ls at hl ⊢
  replace hl : lv_has ls 2 [(0, .ref h0), (1, .int p1)] := hl
  unfold f_X6_ctrRight at hf
  refine zgo (fun GW hTo hFr => ?_)
  refine hFr _ _ _ ?_
  obtain ⟨H, hHe⟩ : ∃ H, H = s.heap := ⟨_, rfl⟩
  obtain ⟨locs, hLe⟩ : ∃ L : List Loc, L = [] := ⟨_, rfl⟩
  rw [← hHe] at hP
  replace hS : va_S A s.heap H locs := by rw [hHe, hLe]; exact hS
  refine zat hHe.symm hLe.symm ?_
  clear hHe hLe
  refine lv_aload_n (pc := 0) hx hb (zdt_at zt_X6_ctrRight_0 0 rfl) rfl (lv_at hl 0 rfl) ?_
  refine va_gets (pc := 1) hx hb (gT_8 hE.2.2).1 hS hown hw0 (fun _ h9 => h9) (zdt_at zt_X6_ctrRight_0 1 rfl) ?_
  refine lv_bipush (pc := 4) (v := (16 : Int32)) hx hb (zdt_at zt_X6_ctrRight_0 2 rfl) (by decide) ?_
  replace hf := zb_s hf
  obtain ⟨⟨c_aes_rounds_1, c_aes_keys_2, c_key_3⟩, hc_, hf⟩ := hf
  refine zcn2 (pc := 6) (rv := none) (va_runV (As := [.ref (tt 8), .int (16 : Int32)]) (rest := []) ⟨hx, hb, hml, hown, hts⟩ (c_X6_setKey l D cy tt H.size h0 h0_aes h0_modes h0_gcm h0_sha h0_generator h0_key h0_work h0_aes_keys 8 (fun j => tb_MODES_KEY.getD j 0) 2 (16 : Int32) c_aes_rounds c_aes_keys c_key _ _ _ c_aes_rounds_1 c_aes_keys_2 c_key_3 rfl hc_) (cwV 2 hts gX6_ctrRight_X6_setKey rfl rfl rfl (by decide +kernel) ⟨Nat.le_of_ble_eq_true rfl, Nat.le_of_ble_eq_true rfl⟩) ⟨zblind, va_recv hK hP (ci := 8) (q0 := 0) rfl rfl, zpre hE hS (hP.sub [0, 1, 2, 3] rfl) (hD.sub [0, 1, 2, 3] (by decide) rfl) (va_free hD hS hA [0, 1, 2, 3] rfl)⟩ rfl rfl hl.1 rfl (lv_room (Nat.le_of_ble_eq_true rfl)) (zdt_at zt_X6_ctrRight_0 3 rfl) ⟨Nat.zero_le _, Nat.zero_le _⟩) hS hP hD (va_free hD hS hA [0, 1, 2, 3] rfl) [0, 1, 2, 3] rfl (by decide) rfl ?_
  clear hP hD hS hc_
  intro H locs hP hD hS
  replace hP : va_P D vwCl ([(h0, .inr (8, [.ref h0_aes, .ref h0_modes, .ref h0_gcm, .ref h0_sha, .ref h0_generator, .ref h0_key, .ref h0_work])), (h0_aes, .inr (2, [.ref h0_aes_keys, .int c_aes_rounds_1])), (h0_aes_keys, .inl (cy 1, 60, .inl c_aes_keys_2)), (h0_key, .inl (cy 0, 32, .inl c_key_3)), (h0_modes, .inr (6, [.ref h0_aes, .ref h0_modes_block, .ref h0_modes_pad])), (h0_modes_block, .inl (cy 0, 16, .inl c_modes_block)), (h0_modes_pad, .inl (cy 0, 16, .inl c_modes_pad)), (h0_work, .inl (cy 0, 64, .inl c_work))]) H := hP
  replace hD : va_D A ([(h0, .inr (8, [.ref h0_aes, .ref h0_modes, .ref h0_gcm, .ref h0_sha, .ref h0_generator, .ref h0_key, .ref h0_work])), (h0_aes, .inr (2, [.ref h0_aes_keys, .int c_aes_rounds_1])), (h0_aes_keys, .inl (cy 1, 60, .inl c_aes_keys_2)), (h0_key, .inl (cy 0, 32, .inl c_key_3)), (h0_modes, .inr (6, [.ref h0_aes, .ref h0_modes_block, .ref h0_modes_pad])), (h0_modes_block, .inl (cy 0, 16, .inl c_modes_block)), (h0_modes_pad, .inl (cy 0, 16, .inl c_modes_pad)), (h0_work, .inl (cy 0, 64, .inl c_work))]) := hD
  refine W.eq (g2 := F0 m 9 ls []) rfl ?_
  refine lv_aload_n (pc := 9) hx hb (zdt_at zt_X6_ctrRight_0 4 rfl) rfl (lv_at hl 0 rfl) ?_
  refine va_gets (pc := 10) hx hb (gT_11 hE.2.2).1 hS hown hw1 (fun _ h9 => h9) (zdt_at zt_X6_ctrRight_0 5 rfl) ?_
  refine lv_iconst (pc := 13) (v := (0 : Int32)) hx hb (zdt_at zt_X6_ctrRight_0 6 rfl) (by decide) ?_
  replace hf := zb_s hf
  obtain ⟨c_work_4, hc_, hf⟩ := hf
  refine zcn2 (pc := 14) (rv := none) (va_runV (As := [.ref (tt 11), .int (0 : Int32)]) (rest := []) ⟨hx, hb, hml, hown, hts⟩ (c_X6_put l D cy tt H.size h0 h0_aes h0_modes h0_gcm h0_sha h0_generator h0_key h0_work 11 (fun j => tb_CTR_START.getD j 0) 2 (0 : Int32) c_work _ _ _ c_work_4 rfl hc_) (cwV 2 hts gX6_ctrRight_X6_put rfl rfl rfl (by decide +kernel) ⟨Nat.le_of_ble_eq_true rfl, Nat.le_of_ble_eq_true rfl⟩) ⟨zblind, va_recv hK hP (ci := 8) (q0 := 0) rfl rfl, zpre hE hS (hP.sub [0, 7] rfl) (hD.sub [0, 7] (by decide) rfl) (va_free hD hS hA [0, 7] rfl)⟩ rfl rfl hl.1 rfl (lv_room (Nat.le_of_ble_eq_true rfl)) (zdt_at zt_X6_ctrRight_0 7 rfl) ⟨Nat.zero_le _, Nat.zero_le _⟩) hS hP hD (va_free hD hS hA [0, 7] rfl) [0, 7] rfl (by decide) rfl ?_
  clear hP hD hS hc_
  intro H locs hP hD hS
  replace hP : va_P D vwCl ([(h0, .inr (8, [.ref h0_aes, .ref h0_modes, .ref h0_gcm, .ref h0_sha, .ref h0_generator, .ref h0_key, .ref h0_work])), (h0_aes, .inr (2, [.ref h0_aes_keys, .int c_aes_rounds_1])), (h0_aes_keys, .inl (cy 1, 60, .inl c_aes_keys_2)), (h0_key, .inl (cy 0, 32, .inl c_key_3)), (h0_modes, .inr (6, [.ref h0_aes, .ref h0_modes_block, .ref h0_modes_pad])), (h0_modes_block, .inl (cy 0, 16, .inl c_modes_block)), (h0_modes_pad, .inl (cy 0, 16, .inl c_modes_pad)), (h0_work, .inl (cy 0, 64, .inl c_work_4))]) H := hP
  replace hD : va_D A ([(h0, .inr (8, [.ref h0_aes, .ref h0_modes, .ref h0_gcm, .ref h0_sha, .ref h0_generator, .ref h0_key, .ref h0_work])), (h0_aes, .inr (2, [.ref h0_aes_keys, .int c_aes_rounds_1])), (h0_aes_keys, .inl (cy 1, 60, .inl c_aes_keys_2)), (h0_key, .inl (cy 0, 32, .inl c_key_3)), (h0_modes, .inr (6, [.ref h0_aes, .ref h0_modes_block, .ref h0_modes_pad])), (h0_modes_block, .inl (cy 0, 16, .inl c_modes_block)), (h0_modes_pad, .inl (cy 0, 16, .inl c_modes_pad)), (h0_work, .inl (cy 0, 64, .inl c_work_4))]) := hD
  refine W.eq (g2 := F0 m 17 ls []) rfl ?_
  refine lv_aload_n (pc := 17) hx hb (zdt_at zt_X6_ctrRight_0 8 rfl) rfl (lv_at hl 0 rfl) ?_
  refine va_gets (pc := 18) hx hb (gT_9 hE.2.2).1 hS hown hw2 (fun _ h9 => h9) (zdt_at zt_X6_ctrRight_0 9 rfl) ?_
  refine lv_bipush (pc := 21) (v := (16 : Int32)) hx hb (zdt_at zt_X6_ctrRight_0 10 rfl) (by decide) ?_
  replace hf := zb_s hf
  obtain ⟨c_work_5, hc_, hf⟩ := hf
  refine zcn2 (pc := 23) (rv := none) (va_runV (As := [.ref (tt 9), .int (16 : Int32)]) (rest := []) ⟨hx, hb, hml, hown, hts⟩ (c_X6_put l D cy tt H.size h0 h0_aes h0_modes h0_gcm h0_sha h0_generator h0_key h0_work 9 (fun j => tb_MODES_TEXT.getD j 0) 4 (16 : Int32) c_work_4 _ _ _ c_work_5 rfl hc_) (cwV 2 hts gX6_ctrRight_X6_put rfl rfl rfl (by decide +kernel) ⟨Nat.le_of_ble_eq_true rfl, Nat.le_of_ble_eq_true rfl⟩) ⟨zblind, va_recv hK hP (ci := 8) (q0 := 0) rfl rfl, zpre hE hS (hP.sub [0, 7] rfl) (hD.sub [0, 7] (by decide) rfl) (va_free hD hS hA [0, 7] rfl)⟩ rfl rfl hl.1 rfl (lv_room (Nat.le_of_ble_eq_true rfl)) (zdt_at zt_X6_ctrRight_0 11 rfl) ⟨Nat.zero_le _, Nat.zero_le _⟩) hS hP hD (va_free hD hS hA [0, 7] rfl) [0, 7] rfl (by decide) rfl ?_
  clear hP hD hS hc_
  intro H locs hP hD hS
  replace hP : va_P D vwCl ([(h0, .inr (8, [.ref h0_aes, .ref h0_modes, .ref h0_gcm, .ref h0_sha, .ref h0_generator, .ref h0_key, .ref h0_work])), (h0_aes, .inr (2, [.ref h0_aes_keys, .int c_aes_rounds_1])), (h0_aes_keys, .inl (cy 1, 60, .inl c_aes_keys_2)), (h0_key, .inl (cy 0, 32, .inl c_key_3)), (h0_modes, .inr (6, [.ref h0_aes, .ref h0_modes_block, .ref h0_modes_pad])), (h0_modes_block, .inl (cy 0, 16, .inl c_modes_block)), (h0_modes_pad, .inl (cy 0, 16, .inl c_modes_pad)), (h0_work, .inl (cy 0, 64, .inl c_work_5))]) H := hP
  replace hD : va_D A ([(h0, .inr (8, [.ref h0_aes, .ref h0_modes, .ref h0_gcm, .ref h0_sha, .ref h0_generator, .ref h0_key, .ref h0_work])), (h0_aes, .inr (2, [.ref h0_aes_keys, .int c_aes_rounds_1])), (h0_aes_keys, .inl (cy 1, 60, .inl c_aes_keys_2)), (h0_key, .inl (cy 0, 32, .inl c_key_3)), (h0_modes, .inr (6, [.ref h0_aes, .ref h0_modes_block, .ref h0_modes_pad])), (h0_modes_block, .inl (cy 0, 16, .inl c_modes_block)), (h0_modes_pad, .inl (cy 0, 16, .inl c_modes_pad)), (h0_work, .inl (cy 0, 64, .inl c_work_5))]) := hD
  refine W.eq (g2 := F0 m 26 ls []) rfl ?_
  refine lv_aload_n (pc := 26) hx hb (zdt_at zt_X6_ctrRight_0 12 rfl) rfl (lv_at hl 0 rfl) ?_
  refine va_get (pc := 27) (D := D) (ci := 8) (v := .ref h0_work) (C := RX6) (T := TX6) (N := 7) hx hb hts hcX6 hown hK hP 0 rfl rfl 6 (by decide) hw3 (fun _ h9 => h9) rfl (zdt_at zt_X6_ctrRight_0 13 rfl) ?_
  refine lv_bipush (pc := 30) (v := (16 : Int32)) hx hb (zdt_at zt_X6_ctrRight_0 14 rfl) (by decide) ?_
  refine lv_dup2_11 (pc := 32) hx hb (zdt_at zt_X6_ctrRight_0 15 rfl) rfl rfl ?_
  replace hf := zk_s hf
  refine va_bald (pc := 33) hx hb hK hP 7 0 rfl rfl hf.1 (zdt_at zt_X6_ctrRight_0 16 rfl) ?_
  replace hf := hf.2
  refine lv_iload_n (pc := 34) hx hb (zdt_at zt_X6_ctrRight_0 17 rfl) rfl (lv_at hl 1 rfl) ?_
  refine lv_ixor (pc := 35) hx hb (zdt_at zt_X6_ctrRight_0 18 rfl) ?_
  refine lv_i2b (pc := 36) hx hb (zdt_at zt_X6_ctrRight_0 19 rfl) rfl ?_
  replace hf := zk_s hf
  refine va_bast (pc := 37) hx hb hK hP hD hS 7 0 rfl rfl hf.1 (zdt_at zt_X6_ctrRight_0 20 rfl) ?_
  replace hf := hf.2
  clear hP hD hS
  intro H locs hP hD hS
  obtain ⟨c_work_6, e_⟩ : ∃ q : Nat → Int32, q = (upd c_work_5 (16 : Int32).toNatClampNeg (vp_nar .byte (((c_work_5 (16 : Int32).toNatClampNeg) ^^^ p1).toInt8.toInt32))) := ⟨_, rfl⟩
  replace hf := zn_s hf e_
  replace hP : va_P D vwCl ([(h0, .inr (8, [.ref h0_aes, .ref h0_modes, .ref h0_gcm, .ref h0_sha, .ref h0_generator, .ref h0_key, .ref h0_work])), (h0_aes, .inr (2, [.ref h0_aes_keys, .int c_aes_rounds_1])), (h0_aes_keys, .inl (cy 1, 60, .inl c_aes_keys_2)), (h0_key, .inl (cy 0, 32, .inl c_key_3)), (h0_modes, .inr (6, [.ref h0_aes, .ref h0_modes_block, .ref h0_modes_pad])), (h0_modes_block, .inl (cy 0, 16, .inl c_modes_block)), (h0_modes_pad, .inl (cy 0, 16, .inl c_modes_pad)), (h0_work, .inl (cy 0, 64, .inl c_work_6))]) H := by rw [e_]; exact hP
  replace hD : va_D A ([(h0, .inr (8, [.ref h0_aes, .ref h0_modes, .ref h0_gcm, .ref h0_sha, .ref h0_generator, .ref h0_key, .ref h0_work])), (h0_aes, .inr (2, [.ref h0_aes_keys, .int c_aes_rounds_1])), (h0_aes_keys, .inl (cy 1, 60, .inl c_aes_keys_2)), (h0_key, .inl (cy 0, 32, .inl c_key_3)), (h0_modes, .inr (6, [.ref h0_aes, .ref h0_modes_block, .ref h0_modes_pad])), (h0_modes_block, .inl (cy 0, 16, .inl c_modes_block)), (h0_modes_pad, .inl (cy 0, 16, .inl c_modes_pad)), (h0_work, .inl (cy 0, 64, .inl c_work_6))]) := by rw [e_]; exact hD
  clear e_
  refine lv_aload_n (pc := 38) hx hb (zdt_at zt_X6_ctrRight_0 21 rfl) rfl (lv_at hl 0 rfl) ?_
  refine va_get (pc := 39) (D := D) (ci := 8) (v := .ref h0_modes) (C := RX6) (T := TX6) (N := 7) hx hb hts hcX6 hown hK hP 0 rfl rfl 1 (by decide) hw4 (fun _ h9 => h9) rfl (zdt_at zt_X6_ctrRight_0 22 rfl) ?_
  refine lv_aload_n (pc := 42) hx hb (zdt_at zt_X6_ctrRight_0 23 rfl) rfl (lv_at hl 0 rfl) ?_
  refine va_get (pc := 43) (D := D) (ci := 8) (v := .ref h0_work) (C := RX6) (T := TX6) (N := 7) hx hb hts hcX6 hown hK hP 0 rfl rfl 6 (by decide) hw3 (fun _ h9 => h9) rfl (zdt_at zt_X6_ctrRight_0 24 rfl) ?_
  refine lv_iconst (pc := 46) (v := (0 : Int32)) hx hb (zdt_at zt_X6_ctrRight_0 25 rfl) (by decide) ?_
  refine lv_bipush (pc := 47) (v := (16 : Int32)) hx hb (zdt_at zt_X6_ctrRight_0 26 rfl) (by decide) ?_
  refine lv_bipush (pc := 49) (v := (32 : Int32)) hx hb (zdt_at zt_X6_ctrRight_0 27 rfl) (by decide) ?_
  replace hf := zb_s hf
  obtain ⟨⟨c_modes_block_7, c_modes_pad_8, c_work_9⟩, hc_, hf⟩ := hf
  refine zcn2 (pc := 51) (rv := none) (va_runV (As := [.ref h0_work, .int (0 : Int32), .int (16 : Int32), .int (32 : Int32)]) (rest := []) ⟨hx, hb, hml, hown, hts⟩ (c_X4_addStream l D cy tt H.size h0_modes h0_aes h0_modes_block h0_modes_pad h0_aes_keys h0_work 64 (0 : Int32) (16 : Int32) (32 : Int32) c_aes_rounds_1 c_aes_keys_2 c_modes_block c_modes_pad c_work_6 c_modes_block_7 c_modes_pad_8 c_work_9 hc_) (cwV 4 hts gX6_ctrRight_X4_addStream rfl rfl rfl (by decide +kernel) ⟨Nat.le_of_ble_eq_true rfl, Nat.le_of_ble_eq_true rfl⟩) ⟨zblind, va_recv hK hP (ci := 6) (q0 := 4) rfl rfl, zpre hE hS (hP.sub [4, 1, 2, 5, 6, 7] rfl) (hD.sub [4, 1, 2, 5, 6, 7] (by decide) rfl) (va_free hD hS hA [4, 1, 2, 5, 6, 7] rfl)⟩ rfl rfl hl.1 rfl (lv_room (Nat.le_of_ble_eq_true rfl)) (zdt_at zt_X6_ctrRight_0 28 rfl) ⟨Nat.zero_le _, Nat.zero_le _⟩) hS hP hD (va_free hD hS hA [4, 1, 2, 5, 6, 7] rfl) [4, 1, 2, 5, 6, 7] rfl (by decide) rfl ?_
  clear hP hD hS hc_
  intro H locs hP hD hS
  replace hP : va_P D vwCl ([(h0, .inr (8, [.ref h0_aes, .ref h0_modes, .ref h0_gcm, .ref h0_sha, .ref h0_generator, .ref h0_key, .ref h0_work])), (h0_aes, .inr (2, [.ref h0_aes_keys, .int c_aes_rounds_1])), (h0_aes_keys, .inl (cy 1, 60, .inl c_aes_keys_2)), (h0_key, .inl (cy 0, 32, .inl c_key_3)), (h0_modes, .inr (6, [.ref h0_aes, .ref h0_modes_block, .ref h0_modes_pad])), (h0_modes_block, .inl (cy 0, 16, .inl c_modes_block_7)), (h0_modes_pad, .inl (cy 0, 16, .inl c_modes_pad_8)), (h0_work, .inl (cy 0, 64, .inl c_work_9))]) H := hP
  replace hD : va_D A ([(h0, .inr (8, [.ref h0_aes, .ref h0_modes, .ref h0_gcm, .ref h0_sha, .ref h0_generator, .ref h0_key, .ref h0_work])), (h0_aes, .inr (2, [.ref h0_aes_keys, .int c_aes_rounds_1])), (h0_aes_keys, .inl (cy 1, 60, .inl c_aes_keys_2)), (h0_key, .inl (cy 0, 32, .inl c_key_3)), (h0_modes, .inr (6, [.ref h0_aes, .ref h0_modes_block, .ref h0_modes_pad])), (h0_modes_block, .inl (cy 0, 16, .inl c_modes_block_7)), (h0_modes_pad, .inl (cy 0, 16, .inl c_modes_pad_8)), (h0_work, .inl (cy 0, 64, .inl c_work_9))]) := hD
  refine W.eq (g2 := F0 m 54 ls []) rfl ?_
  refine lv_aload_n (pc := 54) hx hb (zdt_at zt_X6_ctrRight_0 29 rfl) rfl (lv_at hl 0 rfl) ?_
  refine va_gets (pc := 55) hx hb (gT_12 hE.2.2).1 hS hown hw5 (fun _ h9 => h9) (zdt_at zt_X6_ctrRight_0 30 rfl) ?_
  refine lv_bipush (pc := 58) (v := (16 : Int32)) hx hb (zdt_at zt_X6_ctrRight_0 31 rfl) (by decide) ?_
  replace hf := zb_s hf
  obtain ⟨r_10, hc_, hf⟩ := hf
  refine zcs (pc := 60) (rv := (some (.int r_10))) (va_runV (As := [.ref (tt 12), .int (16 : Int32)]) (rest := []) ⟨hx, hb, hml, hown, hts⟩ (c_X6_stands l D cy tt H.size h0 h0_aes h0_modes h0_gcm h0_sha h0_generator h0_key h0_work 12 (fun j => tb_CTR_ANSWER.getD j 0) 4 (16 : Int32) c_work_9 _ _ _ r_10 rfl hc_) (cwV 2 hts gX6_ctrRight_X6_stands rfl rfl rfl (by decide +kernel) ⟨Nat.le_of_ble_eq_true rfl, Nat.le_of_ble_eq_true rfl⟩) ⟨zblind, va_recv hK hP (ci := 8) (q0 := 0) rfl rfl, zpre hE hS (hP.sub [0, 7] rfl) (hD.sub [0, 7] (by decide) rfl) (va_free hD hS hA [0, 7] rfl)⟩ rfl rfl hl.1 rfl (lv_room (Nat.le_of_ble_eq_true rfl)) (zdt_at zt_X6_ctrRight_0 32 rfl) ⟨Nat.zero_le _, Nat.zero_le _⟩) ?_
  clear hc_
  refine W.eq (g2 := F0 m 63 ls [.int r_10]) rfl ?_
  replace hf := zk_s hf
  have hv_ := hf.1
  replace hf := hf.2
  cases hf
  exact W.zret (pc := 63) hx hb hr (zz_nar hv_) (fun t ht hW => ⟨rfl, ⟨by rw [ht]; exact hP, hD⟩, hS.F ht⟩) hS.2.2 (zdt_at zt_X6_ctrRight_0 33 rfl)
set_option maxHeartbeats 4000000 in
set_option maxRecDepth 100000 in
theorem c_X6_cbcRight (l : Launch) (D : va_G) (cy : Nat → ClassId) (tt : Nat → Nat) (sz : Nat) (h0 : Nat) (h0_aes : Nat) (h0_modes : Nat) (h0_gcm : Nat) (h0_sha : Nat) (h0_generator : Nat) (h0_key : Nat) (h0_work : Nat) (h0_aes_keys : Nat) (h0_modes_block : Nat) (h0_modes_pad : Nat) (p1 : Int32) (c_aes_rounds : Int32) (c_aes_keys : Nat → Int32) (c_key : Nat → Int32) (c_work : Nat → Int32) (r_ : Int32) (c_aes_rounds' : Int32) (c_aes_keys' : Nat → Int32) (c_key' : Nat → Int32) (c_work' : Nat → Int32) (hf : f_X6_cbcRight p1 c_aes_rounds c_aes_keys c_key c_work = some (r_, c_aes_rounds', c_aes_keys', c_key', c_work')) : Met l yX6_cbcRight wsX6_cbcRight ({ frames := 3, cells := 0, slots := 0, locals := 79 }) (zPc D cy tt sz [.ref h0, .int p1] ([(h0, .inr (8, [.ref h0_aes, .ref h0_modes, .ref h0_gcm, .ref h0_sha, .ref h0_generator, .ref h0_key, .ref h0_work])), (h0_aes, .inr (2, [.ref h0_aes_keys, .int c_aes_rounds])), (h0_aes_keys, .inl (cy 1, 60, .inl c_aes_keys)), (h0_key, .inl (cy 0, 32, .inl c_key)), (h0_modes, .inr (6, [.ref h0_aes, .ref h0_modes_block, .ref h0_modes_pad])), (h0_work, .inl (cy 0, 64, .inl c_work))])) (zQ D (some (.int r_)) ([(h0, .inr (8, [.ref h0_aes, .ref h0_modes, .ref h0_gcm, .ref h0_sha, .ref h0_generator, .ref h0_key, .ref h0_work])), (h0_aes, .inr (2, [.ref h0_aes_keys, .int c_aes_rounds'])), (h0_aes_keys, .inl (cy 1, 60, .inl c_aes_keys')), (h0_key, .inl (cy 0, 32, .inl c_key')), (h0_modes, .inr (6, [.ref h0_aes, .ref h0_modes_block, .ref h0_modes_pad])), (h0_work, .inl (cy 0, 64, .inl c_work'))]) (va_A ([(h0, .inr (8, [.ref h0_aes, .ref h0_modes, .ref h0_gcm, .ref h0_sha, .ref h0_generator, .ref h0_key, .ref h0_work])), (h0_aes, .inr (2, [.ref h0_aes_keys, .int c_aes_rounds])), (h0_aes_keys, .inl (cy 1, 60, .inl c_aes_keys)), (h0_key, .inl (cy 0, 32, .inl c_key)), (h0_modes, .inr (6, [.ref h0_aes, .ref h0_modes_block, .ref h0_modes_pad])), (h0_work, .inl (cy 0, 64, .inl c_work))]) sz)) 0 0 (va_A ([(h0, .inr (8, [.ref h0_aes, .ref h0_modes, .ref h0_gcm, .ref h0_sha, .ref h0_generator, .ref h0_key, .ref h0_work])), (h0_aes, .inr (2, [.ref h0_aes_keys, .int c_aes_rounds])), (h0_aes_keys, .inl (cy 1, 60, .inl c_aes_keys)), (h0_key, .inl (cy 0, 32, .inl c_key)), (h0_modes, .inr (6, [.ref h0_aes, .ref h0_modes_block, .ref h0_modes_pad])), (h0_work, .inl (cy 0, 64, .inl c_work))]) sz) := by
  refine Met.ofW (cc := cX6_cbcRight) (maxL := 2) (ret := (some .boolean)) (by decide) rfl ?_
  intro p e s m args below meth c s₁ B hml hv
  obtain ⟨rfl, rfl, hP, hD0, hE⟩ := hv
  have hx := B.exec
  have hb := B.bytes
  have hr := B.returns
  have hts := atoms_spec (ws := wsX6_cbcRight) B.pre
  have hown : s.vm.findClass RX6 = some m.cls := findClass_of_methodNamed B.named
  have hlocks := B.notSynchronized
  clear B
  have hD := hD0.self (sz := s.heap.size)
  generalize hAe : va_A ([(h0, .inr (8, [.ref h0_aes, .ref h0_modes, .ref h0_gcm, .ref h0_sha, .ref h0_generator, .ref h0_key, .ref h0_work])), (h0_aes, .inr (2, [.ref h0_aes_keys, .int c_aes_rounds])), (h0_aes_keys, .inl (cy 1, 60, .inl c_aes_keys)), (h0_key, .inl (cy 0, 32, .inl c_key)), (h0_modes, .inr (6, [.ref h0_aes, .ref h0_modes_block, .ref h0_modes_pad])), (h0_work, .inl (cy 0, 64, .inl c_work))]) s.heap.size = A at hD hE ⊢
  have hA : ∀ q : Nat, s.heap.size ≤ q → A q := fun q h => by rw [← hAe]; exact Or.inr h
  clear hAe hD0
  have hS : va_S A s.heap s.heap [] := va_S.rf
  have hK := hE.1
  have hw0 := hts (.fieldLink RX6 116 "SealedModule$SelfTests" "MODES_KEY" "[J") (by decide +kernel)
  have hw1 := hts (.fieldLink RX6 90 "SealedModule$SelfTests" "COUNTING_KEY" "[J") (by decide +kernel)
  have hw2 := hts (.fieldLink RX6 119 "SealedModule$SelfTests" "MODES_TEXT" "[J") (by decide +kernel)
  have hw3 := hts (.fieldLink RX6 15 "SealedModule$SelfTests" "work" "[B") (by decide +kernel)
  have hw4 := hts (.fieldLink RX6 22 "SealedModule$SelfTests" "modes" "LSealedModule$Modes;") (by decide +kernel)
  have hw5 := hts (.fieldLink RX6 128 "SealedModule$SelfTests" "CBC_ANSWER" "[J") (by decide +kernel)
  have hcX6 : ∀ w ∈ u_ws RX6 TX6 7, w ∈ wsX6_cbcRight := (fun _ h => List.mem_cons_of_mem _ (List.mem_append_left _ (List.mem_append_left _ (List.mem_append_right _ h))))
  have hl := lv_entry ([.ref h0, .int p1]) (n := 2) (Nat.le_of_ble_eq_true rfl)
  rw [lg_entry_eq]
  generalize (lg_sl ([.ref h0, .int p1]) ++ List.replicate (2 - (lg_sl ([.ref h0, .int p1])).length) Slot.unset).toArray = ls at hl ⊢
  replace hl : lv_has ls 2 [(0, .ref h0), (1, .int p1)] := hl
  unfold f_X6_cbcRight at hf
  refine zgo (fun GW hTo hFr => ?_)
  refine hFr _ _ _ ?_
  obtain ⟨H, hHe⟩ : ∃ H, H = s.heap := ⟨_, rfl⟩
  obtain ⟨locs, hLe⟩ : ∃ L : List Loc, L = [] := ⟨_, rfl⟩
  rw [← hHe] at hP
  replace hS : va_S A s.heap H locs := by rw [hHe, hLe]; exact hS
  refine zat hHe.symm hLe.symm ?_
  clear hHe hLe
  refine lv_aload_n (pc := 0) hx hb (zdt_at zt_X6_cbcRight_0 0 rfl) rfl (lv_at hl 0 rfl) ?_
  refine va_gets (pc := 1) hx hb (gT_8 hE.2.2).1 hS hown hw0 (fun _ h9 => h9) (zdt_at zt_X6_cbcRight_0 1 rfl) ?_
  refine lv_bipush (pc := 4) (v := (16 : Int32)) hx hb (zdt_at zt_X6_cbcRight_0 2 rfl) (by decide) ?_
  replace hf := zb_s hf
  obtain ⟨⟨c_aes_rounds_1, c_aes_keys_2, c_key_3⟩, hc_, hf⟩ := hf
  refine zcn2 (pc := 6) (rv := none) (va_runV (As := [.ref (tt 8), .int (16 : Int32)]) (rest := []) ⟨hx, hb, hml, hown, hts⟩ (c_X6_setKey l D cy tt H.size h0 h0_aes h0_modes h0_gcm h0_sha h0_generator h0_key h0_work h0_aes_keys 8 (fun j => tb_MODES_KEY.getD j 0) 2 (16 : Int32) c_aes_rounds c_aes_keys c_key _ _ _ c_aes_rounds_1 c_aes_keys_2 c_key_3 rfl hc_) (cwV 2 hts gX6_cbcRight_X6_setKey rfl rfl rfl (by decide +kernel) ⟨Nat.le_of_ble_eq_true rfl, Nat.le_of_ble_eq_true rfl⟩) ⟨zblind, va_recv hK hP (ci := 8) (q0 := 0) rfl rfl, zpre hE hS (hP.sub [0, 1, 2, 3] rfl) (hD.sub [0, 1, 2, 3] (by decide) rfl) (va_free hD hS hA [0, 1, 2, 3] rfl)⟩ rfl rfl hl.1 rfl (lv_room (Nat.le_of_ble_eq_true rfl)) (zdt_at zt_X6_cbcRight_0 3 rfl) ⟨Nat.zero_le _, Nat.zero_le _⟩) hS hP hD (va_free hD hS hA [0, 1, 2, 3] rfl) [0, 1, 2, 3] rfl (by decide) rfl ?_
  clear hP hD hS hc_
  intro H locs hP hD hS
  replace hP : va_P D vwCl ([(h0, .inr (8, [.ref h0_aes, .ref h0_modes, .ref h0_gcm, .ref h0_sha, .ref h0_generator, .ref h0_key, .ref h0_work])), (h0_aes, .inr (2, [.ref h0_aes_keys, .int c_aes_rounds_1])), (h0_aes_keys, .inl (cy 1, 60, .inl c_aes_keys_2)), (h0_key, .inl (cy 0, 32, .inl c_key_3)), (h0_modes, .inr (6, [.ref h0_aes, .ref h0_modes_block, .ref h0_modes_pad])), (h0_work, .inl (cy 0, 64, .inl c_work))]) H := hP
  replace hD : va_D A ([(h0, .inr (8, [.ref h0_aes, .ref h0_modes, .ref h0_gcm, .ref h0_sha, .ref h0_generator, .ref h0_key, .ref h0_work])), (h0_aes, .inr (2, [.ref h0_aes_keys, .int c_aes_rounds_1])), (h0_aes_keys, .inl (cy 1, 60, .inl c_aes_keys_2)), (h0_key, .inl (cy 0, 32, .inl c_key_3)), (h0_modes, .inr (6, [.ref h0_aes, .ref h0_modes_block, .ref h0_modes_pad])), (h0_work, .inl (cy 0, 64, .inl c_work))]) := hD
  refine W.eq (g2 := F0 m 9 ls []) rfl ?_
  refine lv_aload_n (pc := 9) hx hb (zdt_at zt_X6_cbcRight_0 4 rfl) rfl (lv_at hl 0 rfl) ?_
  refine va_gets (pc := 10) hx hb (gT_4 hE.2.2).1 hS hown hw1 (fun _ h9 => h9) (zdt_at zt_X6_cbcRight_0 5 rfl) ?_
  refine lv_iconst (pc := 13) (v := (0 : Int32)) hx hb (zdt_at zt_X6_cbcRight_0 6 rfl) (by decide) ?_
  replace hf := zb_s hf
  obtain ⟨c_work_4, hc_, hf⟩ := hf
  refine zcn2 (pc := 14) (rv := none) (va_runV (As := [.ref (tt 4), .int (0 : Int32)]) (rest := []) ⟨hx, hb, hml, hown, hts⟩ (c_X6_put l D cy tt H.size h0 h0_aes h0_modes h0_gcm h0_sha h0_generator h0_key h0_work 4 (fun j => tb_COUNTING_KEY.getD j 0) 4 (0 : Int32) c_work _ _ _ c_work_4 rfl hc_) (cwV 2 hts gX6_cbcRight_X6_put rfl rfl rfl (by decide +kernel) ⟨Nat.le_of_ble_eq_true rfl, Nat.le_of_ble_eq_true rfl⟩) ⟨zblind, va_recv hK hP (ci := 8) (q0 := 0) rfl rfl, zpre hE hS (hP.sub [0, 5] rfl) (hD.sub [0, 5] (by decide) rfl) (va_free hD hS hA [0, 5] rfl)⟩ rfl rfl hl.1 rfl (lv_room (Nat.le_of_ble_eq_true rfl)) (zdt_at zt_X6_cbcRight_0 7 rfl) ⟨Nat.zero_le _, Nat.zero_le _⟩) hS hP hD (va_free hD hS hA [0, 5] rfl) [0, 5] rfl (by decide) rfl ?_
  clear hP hD hS hc_
  intro H locs hP hD hS
  replace hP : va_P D vwCl ([(h0, .inr (8, [.ref h0_aes, .ref h0_modes, .ref h0_gcm, .ref h0_sha, .ref h0_generator, .ref h0_key, .ref h0_work])), (h0_aes, .inr (2, [.ref h0_aes_keys, .int c_aes_rounds_1])), (h0_aes_keys, .inl (cy 1, 60, .inl c_aes_keys_2)), (h0_key, .inl (cy 0, 32, .inl c_key_3)), (h0_modes, .inr (6, [.ref h0_aes, .ref h0_modes_block, .ref h0_modes_pad])), (h0_work, .inl (cy 0, 64, .inl c_work_4))]) H := hP
  replace hD : va_D A ([(h0, .inr (8, [.ref h0_aes, .ref h0_modes, .ref h0_gcm, .ref h0_sha, .ref h0_generator, .ref h0_key, .ref h0_work])), (h0_aes, .inr (2, [.ref h0_aes_keys, .int c_aes_rounds_1])), (h0_aes_keys, .inl (cy 1, 60, .inl c_aes_keys_2)), (h0_key, .inl (cy 0, 32, .inl c_key_3)), (h0_modes, .inr (6, [.ref h0_aes, .ref h0_modes_block, .ref h0_modes_pad])), (h0_work, .inl (cy 0, 64, .inl c_work_4))]) := hD
  refine W.eq (g2 := F0 m 17 ls []) rfl ?_
  refine lv_aload_n (pc := 17) hx hb (zdt_at zt_X6_cbcRight_0 8 rfl) rfl (lv_at hl 0 rfl) ?_
  refine va_gets (pc := 18) hx hb (gT_9 hE.2.2).1 hS hown hw2 (fun _ h9 => h9) (zdt_at zt_X6_cbcRight_0 9 rfl) ?_
  refine lv_bipush (pc := 21) (v := (16 : Int32)) hx hb (zdt_at zt_X6_cbcRight_0 10 rfl) (by decide) ?_
  replace hf := zb_s hf
  obtain ⟨c_work_5, hc_, hf⟩ := hf
  refine zcn2 (pc := 23) (rv := none) (va_runV (As := [.ref (tt 9), .int (16 : Int32)]) (rest := []) ⟨hx, hb, hml, hown, hts⟩ (c_X6_put l D cy tt H.size h0 h0_aes h0_modes h0_gcm h0_sha h0_generator h0_key h0_work 9 (fun j => tb_MODES_TEXT.getD j 0) 4 (16 : Int32) c_work_4 _ _ _ c_work_5 rfl hc_) (cwV 2 hts gX6_cbcRight_X6_put rfl rfl rfl (by decide +kernel) ⟨Nat.le_of_ble_eq_true rfl, Nat.le_of_ble_eq_true rfl⟩) ⟨zblind, va_recv hK hP (ci := 8) (q0 := 0) rfl rfl, zpre hE hS (hP.sub [0, 5] rfl) (hD.sub [0, 5] (by decide) rfl) (va_free hD hS hA [0, 5] rfl)⟩ rfl rfl hl.1 rfl (lv_room (Nat.le_of_ble_eq_true rfl)) (zdt_at zt_X6_cbcRight_0 11 rfl) ⟨Nat.zero_le _, Nat.zero_le _⟩) hS hP hD (va_free hD hS hA [0, 5] rfl) [0, 5] rfl (by decide) rfl ?_
  clear hP hD hS hc_
  intro H locs hP hD hS
  replace hP : va_P D vwCl ([(h0, .inr (8, [.ref h0_aes, .ref h0_modes, .ref h0_gcm, .ref h0_sha, .ref h0_generator, .ref h0_key, .ref h0_work])), (h0_aes, .inr (2, [.ref h0_aes_keys, .int c_aes_rounds_1])), (h0_aes_keys, .inl (cy 1, 60, .inl c_aes_keys_2)), (h0_key, .inl (cy 0, 32, .inl c_key_3)), (h0_modes, .inr (6, [.ref h0_aes, .ref h0_modes_block, .ref h0_modes_pad])), (h0_work, .inl (cy 0, 64, .inl c_work_5))]) H := hP
  replace hD : va_D A ([(h0, .inr (8, [.ref h0_aes, .ref h0_modes, .ref h0_gcm, .ref h0_sha, .ref h0_generator, .ref h0_key, .ref h0_work])), (h0_aes, .inr (2, [.ref h0_aes_keys, .int c_aes_rounds_1])), (h0_aes_keys, .inl (cy 1, 60, .inl c_aes_keys_2)), (h0_key, .inl (cy 0, 32, .inl c_key_3)), (h0_modes, .inr (6, [.ref h0_aes, .ref h0_modes_block, .ref h0_modes_pad])), (h0_work, .inl (cy 0, 64, .inl c_work_5))]) := hD
  refine W.eq (g2 := F0 m 26 ls []) rfl ?_
  refine lv_aload_n (pc := 26) hx hb (zdt_at zt_X6_cbcRight_0 12 rfl) rfl (lv_at hl 0 rfl) ?_
  refine va_get (pc := 27) (D := D) (ci := 8) (v := .ref h0_work) (C := RX6) (T := TX6) (N := 7) hx hb hts hcX6 hown hK hP 0 rfl rfl 6 (by decide) hw3 (fun _ h9 => h9) rfl (zdt_at zt_X6_cbcRight_0 13 rfl) ?_
  refine lv_bipush (pc := 30) (v := (16 : Int32)) hx hb (zdt_at zt_X6_cbcRight_0 14 rfl) (by decide) ?_
  refine lv_dup2_11 (pc := 32) hx hb (zdt_at zt_X6_cbcRight_0 15 rfl) rfl rfl ?_
  replace hf := zk_s hf
  refine va_bald (pc := 33) hx hb hK hP 5 0 rfl rfl hf.1 (zdt_at zt_X6_cbcRight_0 16 rfl) ?_
  replace hf := hf.2
  refine lv_iload_n (pc := 34) hx hb (zdt_at zt_X6_cbcRight_0 17 rfl) rfl (lv_at hl 1 rfl) ?_
  refine lv_ixor (pc := 35) hx hb (zdt_at zt_X6_cbcRight_0 18 rfl) ?_
  refine lv_i2b (pc := 36) hx hb (zdt_at zt_X6_cbcRight_0 19 rfl) rfl ?_
  replace hf := zk_s hf
  refine va_bast (pc := 37) hx hb hK hP hD hS 5 0 rfl rfl hf.1 (zdt_at zt_X6_cbcRight_0 20 rfl) ?_
  replace hf := hf.2
  clear hP hD hS
  intro H locs hP hD hS
  obtain ⟨c_work_6, e_⟩ : ∃ q : Nat → Int32, q = (upd c_work_5 (16 : Int32).toNatClampNeg (vp_nar .byte (((c_work_5 (16 : Int32).toNatClampNeg) ^^^ p1).toInt8.toInt32))) := ⟨_, rfl⟩
  replace hf := zn_s hf e_
  replace hP : va_P D vwCl ([(h0, .inr (8, [.ref h0_aes, .ref h0_modes, .ref h0_gcm, .ref h0_sha, .ref h0_generator, .ref h0_key, .ref h0_work])), (h0_aes, .inr (2, [.ref h0_aes_keys, .int c_aes_rounds_1])), (h0_aes_keys, .inl (cy 1, 60, .inl c_aes_keys_2)), (h0_key, .inl (cy 0, 32, .inl c_key_3)), (h0_modes, .inr (6, [.ref h0_aes, .ref h0_modes_block, .ref h0_modes_pad])), (h0_work, .inl (cy 0, 64, .inl c_work_6))]) H := by rw [e_]; exact hP
  replace hD : va_D A ([(h0, .inr (8, [.ref h0_aes, .ref h0_modes, .ref h0_gcm, .ref h0_sha, .ref h0_generator, .ref h0_key, .ref h0_work])), (h0_aes, .inr (2, [.ref h0_aes_keys, .int c_aes_rounds_1])), (h0_aes_keys, .inl (cy 1, 60, .inl c_aes_keys_2)), (h0_key, .inl (cy 0, 32, .inl c_key_3)), (h0_modes, .inr (6, [.ref h0_aes, .ref h0_modes_block, .ref h0_modes_pad])), (h0_work, .inl (cy 0, 64, .inl c_work_6))]) := by rw [e_]; exact hD
  clear e_
  refine lv_aload_n (pc := 38) hx hb (zdt_at zt_X6_cbcRight_0 21 rfl) rfl (lv_at hl 0 rfl) ?_
  refine va_get (pc := 39) (D := D) (ci := 8) (v := .ref h0_modes) (C := RX6) (T := TX6) (N := 7) hx hb hts hcX6 hown hK hP 0 rfl rfl 1 (by decide) hw4 (fun _ h9 => h9) rfl (zdt_at zt_X6_cbcRight_0 22 rfl) ?_
  refine lv_aload_n (pc := 42) hx hb (zdt_at zt_X6_cbcRight_0 23 rfl) rfl (lv_at hl 0 rfl) ?_
  refine va_get (pc := 43) (D := D) (ci := 8) (v := .ref h0_work) (C := RX6) (T := TX6) (N := 7) hx hb hts hcX6 hown hK hP 0 rfl rfl 6 (by decide) hw3 (fun _ h9 => h9) rfl (zdt_at zt_X6_cbcRight_0 24 rfl) ?_
  refine lv_iconst (pc := 46) (v := (0 : Int32)) hx hb (zdt_at zt_X6_cbcRight_0 25 rfl) (by decide) ?_
  refine lv_bipush (pc := 47) (v := (48 : Int32)) hx hb (zdt_at zt_X6_cbcRight_0 26 rfl) (by decide) ?_
  replace hf := zb_s hf
  obtain ⟨c_work_7, hc_, hf⟩ := hf
  refine zcn2 (pc := 49) (rv := none) (va_runV (As := [.ref h0_work, .int (0 : Int32), .int (48 : Int32)]) (rest := []) ⟨hx, hb, hml, hown, hts⟩ (c_X4_cbcSeal l D cy tt H.size h0_modes h0_aes h0_modes_block h0_modes_pad h0_aes_keys h0_work 64 (0 : Int32) (48 : Int32) c_aes_rounds_1 c_aes_keys_2 c_work_6 c_work_7 hc_) (cwV 3 hts gX6_cbcRight_X4_cbcSeal rfl rfl rfl (by decide +kernel) ⟨Nat.le_of_ble_eq_true rfl, Nat.le_of_ble_eq_true rfl⟩) ⟨zblind, va_recv hK hP (ci := 6) (q0 := 4) rfl rfl, zpre hE hS (hP.sub [4, 1, 2, 5] rfl) (hD.sub [4, 1, 2, 5] (by decide) rfl) (va_free hD hS hA [4, 1, 2, 5] rfl)⟩ rfl rfl hl.1 rfl (lv_room (Nat.le_of_ble_eq_true rfl)) (zdt_at zt_X6_cbcRight_0 27 rfl) ⟨Nat.zero_le _, Nat.zero_le _⟩) hS hP hD (va_free hD hS hA [4, 1, 2, 5] rfl) [4, 1, 2, 5] rfl (by decide) rfl ?_
  clear hP hD hS hc_
  intro H locs hP hD hS
  replace hP : va_P D vwCl ([(h0, .inr (8, [.ref h0_aes, .ref h0_modes, .ref h0_gcm, .ref h0_sha, .ref h0_generator, .ref h0_key, .ref h0_work])), (h0_aes, .inr (2, [.ref h0_aes_keys, .int c_aes_rounds_1])), (h0_aes_keys, .inl (cy 1, 60, .inl c_aes_keys_2)), (h0_key, .inl (cy 0, 32, .inl c_key_3)), (h0_modes, .inr (6, [.ref h0_aes, .ref h0_modes_block, .ref h0_modes_pad])), (h0_work, .inl (cy 0, 64, .inl c_work_7))]) H := hP
  replace hD : va_D A ([(h0, .inr (8, [.ref h0_aes, .ref h0_modes, .ref h0_gcm, .ref h0_sha, .ref h0_generator, .ref h0_key, .ref h0_work])), (h0_aes, .inr (2, [.ref h0_aes_keys, .int c_aes_rounds_1])), (h0_aes_keys, .inl (cy 1, 60, .inl c_aes_keys_2)), (h0_key, .inl (cy 0, 32, .inl c_key_3)), (h0_modes, .inr (6, [.ref h0_aes, .ref h0_modes_block, .ref h0_modes_pad])), (h0_work, .inl (cy 0, 64, .inl c_work_7))]) := hD
  refine W.eq (g2 := F0 m 52 ls []) rfl ?_
  refine lv_aload_n (pc := 52) hx hb (zdt_at zt_X6_cbcRight_0 28 rfl) rfl (lv_at hl 0 rfl) ?_
  refine va_gets (pc := 53) hx hb (gT_10 hE.2.2).1 hS hown hw5 (fun _ h9 => h9) (zdt_at zt_X6_cbcRight_0 29 rfl) ?_
  refine lv_bipush (pc := 56) (v := (16 : Int32)) hx hb (zdt_at zt_X6_cbcRight_0 30 rfl) (by decide) ?_
  replace hf := zb_s hf
  obtain ⟨r_8, hc_, hf⟩ := hf
  refine zcs (pc := 58) (rv := (some (.int r_8))) (va_runV (As := [.ref (tt 10), .int (16 : Int32)]) (rest := []) ⟨hx, hb, hml, hown, hts⟩ (c_X6_stands l D cy tt H.size h0 h0_aes h0_modes h0_gcm h0_sha h0_generator h0_key h0_work 10 (fun j => tb_CBC_ANSWER.getD j 0) 4 (16 : Int32) c_work_7 _ _ _ r_8 rfl hc_) (cwV 2 hts gX6_cbcRight_X6_stands rfl rfl rfl (by decide +kernel) ⟨Nat.le_of_ble_eq_true rfl, Nat.le_of_ble_eq_true rfl⟩) ⟨zblind, va_recv hK hP (ci := 8) (q0 := 0) rfl rfl, zpre hE hS (hP.sub [0, 5] rfl) (hD.sub [0, 5] (by decide) rfl) (va_free hD hS hA [0, 5] rfl)⟩ rfl rfl hl.1 rfl (lv_room (Nat.le_of_ble_eq_true rfl)) (zdt_at zt_X6_cbcRight_0 31 rfl) ⟨Nat.zero_le _, Nat.zero_le _⟩) ?_
  clear hc_
  refine W.eq (g2 := F0 m 61 ls [.int r_8]) rfl ?_
  replace hf := zk_s hf
  have hv_ := hf.1
  replace hf := hf.2
  cases hf
  exact W.zret (pc := 61) hx hb hr (zz_nar hv_) (fun t ht hW => ⟨rfl, ⟨by rw [ht]; exact hP, hD⟩, hS.F ht⟩) hS.2.2 (zdt_at zt_X6_cbcRight_0 32 rfl)
set_option maxHeartbeats 4000000 in
set_option maxRecDepth 100000 in
theorem c_X6_aesRight (l : Launch) (D : va_G) (cy : Nat → ClassId) (tt : Nat → Nat) (sz : Nat) (h0 : Nat) (h0_aes : Nat) (h0_modes : Nat) (h0_gcm : Nat) (h0_sha : Nat) (h0_generator : Nat) (h0_key : Nat) (h0_work : Nat) (h0_aes_keys : Nat) (p1 : Int32) (t2 : Nat) (t2f : Nat → Int64) (t2n : Nat) (p3 : Int32) (c_aes_rounds : Int32) (c_aes_keys : Nat → Int32) (c_key : Nat → Int32) (c_work : Nat → Int32) (qa_t2 : String) (qb_t2 : String) (qc_t2 : String) (r_ : Int32) (c_aes_rounds' : Int32) (c_aes_keys' : Nat → Int32) (c_key' : Nat → Int32) (c_work' : Nat → Int32) (ht_t2 : gTab[t2]? = some (qa_t2, qb_t2, qc_t2, .long, t2n, fun j => .long (t2f j))) (hf : f_X6_aesRight p1 t2 t2f t2n p3 c_aes_rounds c_aes_keys c_key c_work = some (r_, c_aes_rounds', c_aes_keys', c_key', c_work')) : Met l yX6_aesRight wsX6_aesRight ({ frames := 3, cells := 0, slots := 0, locals := 76 }) (zPc D cy tt sz [.ref h0, .int p1, .ref (tt t2), .int p3] ([(h0, .inr (8, [.ref h0_aes, .ref h0_modes, .ref h0_gcm, .ref h0_sha, .ref h0_generator, .ref h0_key, .ref h0_work])), (h0_aes, .inr (2, [.ref h0_aes_keys, .int c_aes_rounds])), (h0_aes_keys, .inl (cy 1, 60, .inl c_aes_keys)), (h0_key, .inl (cy 0, 32, .inl c_key)), (h0_work, .inl (cy 0, 64, .inl c_work))])) (zQ D (some (.int r_)) ([(h0, .inr (8, [.ref h0_aes, .ref h0_modes, .ref h0_gcm, .ref h0_sha, .ref h0_generator, .ref h0_key, .ref h0_work])), (h0_aes, .inr (2, [.ref h0_aes_keys, .int c_aes_rounds'])), (h0_aes_keys, .inl (cy 1, 60, .inl c_aes_keys')), (h0_key, .inl (cy 0, 32, .inl c_key')), (h0_work, .inl (cy 0, 64, .inl c_work'))]) (va_A ([(h0, .inr (8, [.ref h0_aes, .ref h0_modes, .ref h0_gcm, .ref h0_sha, .ref h0_generator, .ref h0_key, .ref h0_work])), (h0_aes, .inr (2, [.ref h0_aes_keys, .int c_aes_rounds])), (h0_aes_keys, .inl (cy 1, 60, .inl c_aes_keys)), (h0_key, .inl (cy 0, 32, .inl c_key)), (h0_work, .inl (cy 0, 64, .inl c_work))]) sz)) 0 0 (va_A ([(h0, .inr (8, [.ref h0_aes, .ref h0_modes, .ref h0_gcm, .ref h0_sha, .ref h0_generator, .ref h0_key, .ref h0_work])), (h0_aes, .inr (2, [.ref h0_aes_keys, .int c_aes_rounds])), (h0_aes_keys, .inl (cy 1, 60, .inl c_aes_keys)), (h0_key, .inl (cy 0, 32, .inl c_key)), (h0_work, .inl (cy 0, 64, .inl c_work))]) sz) := by
  refine Met.ofW (cc := cX6_aesRight) (maxL := 5) (ret := (some .boolean)) (by decide) rfl ?_
  intro p e s m args below meth c s₁ B hml hv
  obtain ⟨rfl, rfl, hP, hD0, hE⟩ := hv
  have hx := B.exec
  have hb := B.bytes
  have hr := B.returns
  have hts := atoms_spec (ws := wsX6_aesRight) B.pre
  have hown : s.vm.findClass RX6 = some m.cls := findClass_of_methodNamed B.named
  have hlocks := B.notSynchronized
  clear B
  have hD := hD0.self (sz := s.heap.size)
  generalize hAe : va_A ([(h0, .inr (8, [.ref h0_aes, .ref h0_modes, .ref h0_gcm, .ref h0_sha, .ref h0_generator, .ref h0_key, .ref h0_work])), (h0_aes, .inr (2, [.ref h0_aes_keys, .int c_aes_rounds])), (h0_aes_keys, .inl (cy 1, 60, .inl c_aes_keys)), (h0_key, .inl (cy 0, 32, .inl c_key)), (h0_work, .inl (cy 0, 64, .inl c_work))]) s.heap.size = A at hD hE ⊢
  have hA : ∀ q : Nat, s.heap.size ≤ q → A q := fun q h => by rw [← hAe]; exact Or.inr h
  clear hAe hD0
  have hS : va_S A s.heap s.heap [] := va_S.rf
  have hK := hE.1
  have hw0 := hts (.fieldLink RX6 90 "SealedModule$SelfTests" "COUNTING_KEY" "[J") (by decide +kernel)
  have hw1 := hts (.fieldLink RX6 97 "SealedModule$SelfTests" "DOUBLED_DIGITS" "[J") (by decide +kernel)
  have hw2 := hts (.fieldLink RX6 15 "SealedModule$SelfTests" "work" "[B") (by decide +kernel)
  have hw3 := hts (.fieldLink RX6 18 "SealedModule$SelfTests" "aes" "LSealedModule$Aes;") (by decide +kernel)
  have hcX6 : ∀ w ∈ u_ws RX6 TX6 7, w ∈ wsX6_aesRight := (fun _ h => List.mem_cons_of_mem _ (List.mem_append_left _ (List.mem_append_right _ h)))
  have hl := lv_entry ([.ref h0, .int p1, .ref (tt t2), .int p3]) (n := 5) (Nat.le_of_ble_eq_true rfl)
  rw [lg_entry_eq]
  generalize (lg_sl ([.ref h0, .int p1, .ref (tt t2), .int p3]) ++ List.replicate (5 - (lg_sl ([.ref h0, .int p1, .ref (tt t2), .int p3])).length) Slot.unset).toArray = ls at hl ⊢
  replace hl : lv_has ls 5 [(0, .ref h0), (1, .int p1), (2, .ref (tt t2)), (3, .int p3)] := hl
  unfold f_X6_aesRight at hf
  refine zgo (fun GW hTo hFr => ?_)
  refine hFr _ _ _ ?_
  obtain ⟨H, hHe⟩ : ∃ H, H = s.heap := ⟨_, rfl⟩
  obtain ⟨locs, hLe⟩ : ∃ L : List Loc, L = [] := ⟨_, rfl⟩
  rw [← hHe] at hP
  replace hS : va_S A s.heap H locs := by rw [hHe, hLe]; exact hS
  refine zat hHe.symm hLe.symm ?_
  clear hHe hLe
  refine lv_aload_n (pc := 0) hx hb (zdt_at zt_X6_aesRight_0 0 rfl) rfl (lv_at hl 0 rfl) ?_
  refine va_gets (pc := 1) hx hb (gT_4 hE.2.2).1 hS hown hw0 (fun _ h9 => h9) (zdt_at zt_X6_aesRight_0 1 rfl) ?_
  refine lv_iload_n (pc := 4) hx hb (zdt_at zt_X6_aesRight_0 2 rfl) rfl (lv_at hl 1 rfl) ?_
  replace hf := zb_s hf
  obtain ⟨⟨c_aes_rounds_1, c_aes_keys_2, c_key_3⟩, hc_, hf⟩ := hf
  refine zcn2 (pc := 5) (rv := none) (va_runV (As := [.ref (tt 4), .int p1]) (rest := []) ⟨hx, hb, hml, hown, hts⟩ (c_X6_setKey l D cy tt H.size h0 h0_aes h0_modes h0_gcm h0_sha h0_generator h0_key h0_work h0_aes_keys 4 (fun j => tb_COUNTING_KEY.getD j 0) 4 p1 c_aes_rounds c_aes_keys c_key _ _ _ c_aes_rounds_1 c_aes_keys_2 c_key_3 rfl hc_) (cwV 2 hts gX6_aesRight_X6_setKey rfl rfl rfl (by decide +kernel) ⟨Nat.le_of_ble_eq_true rfl, Nat.le_of_ble_eq_true rfl⟩) ⟨zblind, va_recv hK hP (ci := 8) (q0 := 0) rfl rfl, zpre hE hS (hP.sub [0, 1, 2, 3] rfl) (hD.sub [0, 1, 2, 3] (by decide) rfl) (va_free hD hS hA [0, 1, 2, 3] rfl)⟩ rfl rfl hl.1 rfl (lv_room (Nat.le_of_ble_eq_true rfl)) (zdt_at zt_X6_aesRight_0 3 rfl) ⟨Nat.zero_le _, Nat.zero_le _⟩) hS hP hD (va_free hD hS hA [0, 1, 2, 3] rfl) [0, 1, 2, 3] rfl (by decide) rfl ?_
  clear hP hD hS hc_
  intro H locs hP hD hS
  replace hP : va_P D vwCl ([(h0, .inr (8, [.ref h0_aes, .ref h0_modes, .ref h0_gcm, .ref h0_sha, .ref h0_generator, .ref h0_key, .ref h0_work])), (h0_aes, .inr (2, [.ref h0_aes_keys, .int c_aes_rounds_1])), (h0_aes_keys, .inl (cy 1, 60, .inl c_aes_keys_2)), (h0_key, .inl (cy 0, 32, .inl c_key_3)), (h0_work, .inl (cy 0, 64, .inl c_work))]) H := hP
  replace hD : va_D A ([(h0, .inr (8, [.ref h0_aes, .ref h0_modes, .ref h0_gcm, .ref h0_sha, .ref h0_generator, .ref h0_key, .ref h0_work])), (h0_aes, .inr (2, [.ref h0_aes_keys, .int c_aes_rounds_1])), (h0_aes_keys, .inl (cy 1, 60, .inl c_aes_keys_2)), (h0_key, .inl (cy 0, 32, .inl c_key_3)), (h0_work, .inl (cy 0, 64, .inl c_work))]) := hD
  refine W.eq (g2 := F0 m 8 ls []) rfl ?_
  refine lv_aload_n (pc := 8) hx hb (zdt_at zt_X6_aesRight_0 4 rfl) rfl (lv_at hl 0 rfl) ?_
  refine va_gets (pc := 9) hx hb (gT_5 hE.2.2).1 hS hown hw1 (fun _ h9 => h9) (zdt_at zt_X6_aesRight_0 5 rfl) ?_
  refine lv_iconst (pc := 12) (v := (0 : Int32)) hx hb (zdt_at zt_X6_aesRight_0 6 rfl) (by decide) ?_
  replace hf := zb_s hf
  obtain ⟨c_work_4, hc_, hf⟩ := hf
  refine zcn2 (pc := 13) (rv := none) (va_runV (As := [.ref (tt 5), .int (0 : Int32)]) (rest := []) ⟨hx, hb, hml, hown, hts⟩ (c_X6_put l D cy tt H.size h0 h0_aes h0_modes h0_gcm h0_sha h0_generator h0_key h0_work 5 (fun j => tb_DOUBLED_DIGITS.getD j 0) 2 (0 : Int32) c_work _ _ _ c_work_4 rfl hc_) (cwV 2 hts gX6_aesRight_X6_put rfl rfl rfl (by decide +kernel) ⟨Nat.le_of_ble_eq_true rfl, Nat.le_of_ble_eq_true rfl⟩) ⟨zblind, va_recv hK hP (ci := 8) (q0 := 0) rfl rfl, zpre hE hS (hP.sub [0, 4] rfl) (hD.sub [0, 4] (by decide) rfl) (va_free hD hS hA [0, 4] rfl)⟩ rfl rfl hl.1 rfl (lv_room (Nat.le_of_ble_eq_true rfl)) (zdt_at zt_X6_aesRight_0 7 rfl) ⟨Nat.zero_le _, Nat.zero_le _⟩) hS hP hD (va_free hD hS hA [0, 4] rfl) [0, 4] rfl (by decide) rfl ?_
  clear hP hD hS hc_
  intro H locs hP hD hS
  replace hP : va_P D vwCl ([(h0, .inr (8, [.ref h0_aes, .ref h0_modes, .ref h0_gcm, .ref h0_sha, .ref h0_generator, .ref h0_key, .ref h0_work])), (h0_aes, .inr (2, [.ref h0_aes_keys, .int c_aes_rounds_1])), (h0_aes_keys, .inl (cy 1, 60, .inl c_aes_keys_2)), (h0_key, .inl (cy 0, 32, .inl c_key_3)), (h0_work, .inl (cy 0, 64, .inl c_work_4))]) H := hP
  replace hD : va_D A ([(h0, .inr (8, [.ref h0_aes, .ref h0_modes, .ref h0_gcm, .ref h0_sha, .ref h0_generator, .ref h0_key, .ref h0_work])), (h0_aes, .inr (2, [.ref h0_aes_keys, .int c_aes_rounds_1])), (h0_aes_keys, .inl (cy 1, 60, .inl c_aes_keys_2)), (h0_key, .inl (cy 0, 32, .inl c_key_3)), (h0_work, .inl (cy 0, 64, .inl c_work_4))]) := hD
  refine W.eq (g2 := F0 m 16 ls []) rfl ?_
  refine lv_aload_n (pc := 16) hx hb (zdt_at zt_X6_aesRight_0 8 rfl) rfl (lv_at hl 0 rfl) ?_
  refine va_get (pc := 17) (D := D) (ci := 8) (v := .ref h0_work) (C := RX6) (T := TX6) (N := 7) hx hb hts hcX6 hown hK hP 0 rfl rfl 6 (by decide) hw2 (fun _ h9 => h9) rfl (zdt_at zt_X6_aesRight_0 9 rfl) ?_
  refine lv_iconst (pc := 20) (v := (0 : Int32)) hx hb (zdt_at zt_X6_aesRight_0 10 rfl) (by decide) ?_
  refine lv_dup2_11 (pc := 21) hx hb (zdt_at zt_X6_aesRight_0 11 rfl) rfl rfl ?_
  replace hf := zk_s hf
  refine va_bald (pc := 22) hx hb hK hP 4 0 rfl rfl hf.1 (zdt_at zt_X6_aesRight_0 12 rfl) ?_
  replace hf := hf.2
  refine lv_iload_n (pc := 23) hx hb (zdt_at zt_X6_aesRight_0 13 rfl) rfl (lv_at hl 3 rfl) ?_
  refine lv_ixor (pc := 24) hx hb (zdt_at zt_X6_aesRight_0 14 rfl) ?_
  refine lv_i2b (pc := 25) hx hb (zdt_at zt_X6_aesRight_0 15 rfl) rfl ?_
  replace hf := zk_s hf
  refine va_bast (pc := 26) hx hb hK hP hD hS 4 0 rfl rfl hf.1 (zdt_at zt_X6_aesRight_0 16 rfl) ?_
  replace hf := hf.2
  clear hP hD hS
  intro H locs hP hD hS
  obtain ⟨c_work_5, e_⟩ : ∃ q : Nat → Int32, q = (upd c_work_4 (0 : Int32).toNatClampNeg (vp_nar .byte (((c_work_4 (0 : Int32).toNatClampNeg) ^^^ p3).toInt8.toInt32))) := ⟨_, rfl⟩
  replace hf := zn_s hf e_
  replace hP : va_P D vwCl ([(h0, .inr (8, [.ref h0_aes, .ref h0_modes, .ref h0_gcm, .ref h0_sha, .ref h0_generator, .ref h0_key, .ref h0_work])), (h0_aes, .inr (2, [.ref h0_aes_keys, .int c_aes_rounds_1])), (h0_aes_keys, .inl (cy 1, 60, .inl c_aes_keys_2)), (h0_key, .inl (cy 0, 32, .inl c_key_3)), (h0_work, .inl (cy 0, 64, .inl c_work_5))]) H := by rw [e_]; exact hP
  replace hD : va_D A ([(h0, .inr (8, [.ref h0_aes, .ref h0_modes, .ref h0_gcm, .ref h0_sha, .ref h0_generator, .ref h0_key, .ref h0_work])), (h0_aes, .inr (2, [.ref h0_aes_keys, .int c_aes_rounds_1])), (h0_aes_keys, .inl (cy 1, 60, .inl c_aes_keys_2)), (h0_key, .inl (cy 0, 32, .inl c_key_3)), (h0_work, .inl (cy 0, 64, .inl c_work_5))]) := by rw [e_]; exact hD
  clear e_
  refine lv_aload_n (pc := 27) hx hb (zdt_at zt_X6_aesRight_0 17 rfl) rfl (lv_at hl 0 rfl) ?_
  refine va_get (pc := 28) (D := D) (ci := 8) (v := .ref h0_aes) (C := RX6) (T := TX6) (N := 7) hx hb hts hcX6 hown hK hP 0 rfl rfl 0 (by decide) hw3 (fun _ h9 => h9) rfl (zdt_at zt_X6_aesRight_0 18 rfl) ?_
  refine lv_aload_n (pc := 31) hx hb (zdt_at zt_X6_aesRight_0 19 rfl) rfl (lv_at hl 0 rfl) ?_
  refine va_get (pc := 32) (D := D) (ci := 8) (v := .ref h0_work) (C := RX6) (T := TX6) (N := 7) hx hb hts hcX6 hown hK hP 0 rfl rfl 6 (by decide) hw2 (fun _ h9 => h9) rfl (zdt_at zt_X6_aesRight_0 20 rfl) ?_
  refine lv_iconst (pc := 35) (v := (0 : Int32)) hx hb (zdt_at zt_X6_aesRight_0 21 rfl) (by decide) ?_
  replace hf := zb_s hf
  obtain ⟨c_work_6, hc_, hf⟩ := hf
  refine zcn2 (pc := 36) (rv := none) (va_runV (As := [.ref h0_work, .int (0 : Int32)]) (rest := []) ⟨hx, hb, hml, hown, hts⟩ (c_X0_encrypt l D cy tt H.size h0_aes h0_aes_keys h0_work 64 (0 : Int32) c_aes_rounds_1 c_aes_keys_2 c_work_5 c_work_6 hc_) (cwV 2 hts gX6_aesRight_X0_encrypt rfl rfl rfl (by decide +kernel) ⟨Nat.le_of_ble_eq_true rfl, Nat.le_of_ble_eq_true rfl⟩) ⟨zblind, va_recv hK hP (ci := 2) (q0 := 1) rfl rfl, zpre hE hS (hP.sub [1, 2, 4] rfl) (hD.sub [1, 2, 4] (by decide) rfl) (va_free hD hS hA [1, 2, 4] rfl)⟩ rfl rfl hl.1 rfl (lv_room (Nat.le_of_ble_eq_true rfl)) (zdt_at zt_X6_aesRight_0 22 rfl) ⟨Nat.zero_le _, Nat.zero_le _⟩) hS hP hD (va_free hD hS hA [1, 2, 4] rfl) [1, 2, 4] rfl (by decide) rfl ?_
  clear hP hD hS hc_
  intro H locs hP hD hS
  replace hP : va_P D vwCl ([(h0, .inr (8, [.ref h0_aes, .ref h0_modes, .ref h0_gcm, .ref h0_sha, .ref h0_generator, .ref h0_key, .ref h0_work])), (h0_aes, .inr (2, [.ref h0_aes_keys, .int c_aes_rounds_1])), (h0_aes_keys, .inl (cy 1, 60, .inl c_aes_keys_2)), (h0_key, .inl (cy 0, 32, .inl c_key_3)), (h0_work, .inl (cy 0, 64, .inl c_work_6))]) H := hP
  replace hD : va_D A ([(h0, .inr (8, [.ref h0_aes, .ref h0_modes, .ref h0_gcm, .ref h0_sha, .ref h0_generator, .ref h0_key, .ref h0_work])), (h0_aes, .inr (2, [.ref h0_aes_keys, .int c_aes_rounds_1])), (h0_aes_keys, .inl (cy 1, 60, .inl c_aes_keys_2)), (h0_key, .inl (cy 0, 32, .inl c_key_3)), (h0_work, .inl (cy 0, 64, .inl c_work_6))]) := hD
  refine W.eq (g2 := F0 m 39 ls []) rfl ?_
  refine lv_aload_n (pc := 39) hx hb (zdt_at zt_X6_aesRight_0 23 rfl) rfl (lv_at hl 0 rfl) ?_
  refine lv_aload_n (pc := 40) hx hb (zdt_at zt_X6_aesRight_0 24 rfl) rfl (lv_at hl 2 rfl) ?_
  refine lv_iconst (pc := 41) (v := (0 : Int32)) hx hb (zdt_at zt_X6_aesRight_0 25 rfl) (by decide) ?_
  replace hf := zb_s hf
  obtain ⟨r_7, hc_, hf⟩ := hf
  refine zcs (pc := 42) (rv := (some (.int r_7))) (va_runV (As := [.ref (tt t2), .int (0 : Int32)]) (rest := []) ⟨hx, hb, hml, hown, hts⟩ (c_X6_stands l D cy tt H.size h0 h0_aes h0_modes h0_gcm h0_sha h0_generator h0_key h0_work t2 t2f t2n (0 : Int32) c_work_6 _ _ _ r_7 ht_t2 hc_) (cwV 2 hts gX6_aesRight_X6_stands rfl rfl rfl (by decide +kernel) ⟨Nat.le_of_ble_eq_true rfl, Nat.le_of_ble_eq_true rfl⟩) ⟨zblind, va_recv hK hP (ci := 8) (q0 := 0) rfl rfl, zpre hE hS (hP.sub [0, 4] rfl) (hD.sub [0, 4] (by decide) rfl) (va_free hD hS hA [0, 4] rfl)⟩ rfl rfl hl.1 rfl (lv_room (Nat.le_of_ble_eq_true rfl)) (zdt_at zt_X6_aesRight_0 26 rfl) ⟨Nat.zero_le _, Nat.zero_le _⟩) ?_
  clear hc_
  refine W.eq (g2 := F0 m 45 ls [.int r_7]) rfl ?_
  refine lv_istore (pc := 45) (lv' := [(4, .int r_7), (0, .ref h0), (1, .int p1), (2, .ref (tt t2)), (3, .int p3)]) hx hb (zdt_at zt_X6_aesRight_0 27 rfl) hl (by decide) rfl ?_
  clear hl
  intro ls hl
  refine lv_aload_n (pc := 47) hx hb (zdt_at zt_X6_aesRight_0 28 rfl) rfl (lv_at hl 1 rfl) ?_
  refine va_get (pc := 48) (D := D) (ci := 8) (v := .ref h0_aes) (C := RX6) (T := TX6) (N := 7) hx hb hts hcX6 hown hK hP 0 rfl rfl 0 (by decide) hw3 (fun _ h9 => h9) rfl (zdt_at zt_X6_aesRight_0 29 rfl) ?_
  refine lv_aload_n (pc := 51) hx hb (zdt_at zt_X6_aesRight_0 30 rfl) rfl (lv_at hl 1 rfl) ?_
  refine va_get (pc := 52) (D := D) (ci := 8) (v := .ref h0_work) (C := RX6) (T := TX6) (N := 7) hx hb hts hcX6 hown hK hP 0 rfl rfl 6 (by decide) hw2 (fun _ h9 => h9) rfl (zdt_at zt_X6_aesRight_0 31 rfl) ?_
  refine lv_iconst (pc := 55) (v := (0 : Int32)) hx hb (zdt_at zt_X6_aesRight_0 32 rfl) (by decide) ?_
  replace hf := zb_s hf
  obtain ⟨c_work_8, hc_, hf⟩ := hf
  refine zcn2 (pc := 56) (rv := none) (va_runV (As := [.ref h0_work, .int (0 : Int32)]) (rest := []) ⟨hx, hb, hml, hown, hts⟩ (c_X0_decrypt l D cy tt H.size h0_aes h0_aes_keys h0_work 64 (0 : Int32) c_aes_rounds_1 c_aes_keys_2 c_work_6 c_work_8 hc_) (cwV 2 hts gX6_aesRight_X0_decrypt rfl rfl rfl (by decide +kernel) ⟨Nat.le_of_ble_eq_true rfl, Nat.le_of_ble_eq_true rfl⟩) ⟨zblind, va_recv hK hP (ci := 2) (q0 := 1) rfl rfl, zpre hE hS (hP.sub [1, 2, 4] rfl) (hD.sub [1, 2, 4] (by decide) rfl) (va_free hD hS hA [1, 2, 4] rfl)⟩ rfl rfl hl.1 rfl (lv_room (Nat.le_of_ble_eq_true rfl)) (zdt_at zt_X6_aesRight_0 33 rfl) ⟨Nat.zero_le _, Nat.zero_le _⟩) hS hP hD (va_free hD hS hA [1, 2, 4] rfl) [1, 2, 4] rfl (by decide) rfl ?_
  clear hP hD hS hc_
  intro H locs hP hD hS
  replace hP : va_P D vwCl ([(h0, .inr (8, [.ref h0_aes, .ref h0_modes, .ref h0_gcm, .ref h0_sha, .ref h0_generator, .ref h0_key, .ref h0_work])), (h0_aes, .inr (2, [.ref h0_aes_keys, .int c_aes_rounds_1])), (h0_aes_keys, .inl (cy 1, 60, .inl c_aes_keys_2)), (h0_key, .inl (cy 0, 32, .inl c_key_3)), (h0_work, .inl (cy 0, 64, .inl c_work_8))]) H := hP
  replace hD : va_D A ([(h0, .inr (8, [.ref h0_aes, .ref h0_modes, .ref h0_gcm, .ref h0_sha, .ref h0_generator, .ref h0_key, .ref h0_work])), (h0_aes, .inr (2, [.ref h0_aes_keys, .int c_aes_rounds_1])), (h0_aes_keys, .inl (cy 1, 60, .inl c_aes_keys_2)), (h0_key, .inl (cy 0, 32, .inl c_key_3)), (h0_work, .inl (cy 0, 64, .inl c_work_8))]) := hD
  refine W.eq (g2 := F0 m 59 ls []) rfl ?_
  refine lv_iload (pc := 59) hx hb (zdt_at zt_X6_aesRight_0 34 rfl) (lv_at hl 0 rfl) ?_
  refine lv_if_eq (pc := 61) (tgt := 79) hx hb (zdt_at zt_X6_aesRight_0 35 rfl) (by decide) (fun cn_ => ?t_9) (fun cn_ => ?f_10)
  case t_9 =>
    replace hf := zt_s cn_ hf
    clear cn_
    refine lv_iconst (pc := 79) (v := (0 : Int32)) hx hb (zdt_at zt_X6_aesRight_0 43 rfl) (by decide) ?_
    cases hf
    exact W.zret (pc := 80) hx hb hr rfl (fun t ht hW => ⟨rfl, ⟨by rw [ht]; exact hP, hD⟩, hS.F ht⟩) hS.2.2 (zdt_at zt_X6_aesRight_0 44 rfl)
  replace hf := ze_s cn_ hf
  clear cn_
  refine lv_aload_n (pc := 64) hx hb (zdt_at zt_X6_aesRight_0 36 rfl) rfl (lv_at hl 1 rfl) ?_
  refine va_gets (pc := 65) hx hb (gT_5 hE.2.2).1 hS hown hw1 (fun _ h9 => h9) (zdt_at zt_X6_aesRight_0 37 rfl) ?_
  refine lv_iconst (pc := 68) (v := (0 : Int32)) hx hb (zdt_at zt_X6_aesRight_0 38 rfl) (by decide) ?_
  replace hf := zb_s hf
  obtain ⟨r_11, hc_, hf⟩ := hf
  refine zcs (pc := 69) (rv := (some (.int r_11))) (va_runV (As := [.ref (tt 5), .int (0 : Int32)]) (rest := []) ⟨hx, hb, hml, hown, hts⟩ (c_X6_stands l D cy tt H.size h0 h0_aes h0_modes h0_gcm h0_sha h0_generator h0_key h0_work 5 (fun j => tb_DOUBLED_DIGITS.getD j 0) 2 (0 : Int32) c_work_8 _ _ _ r_11 rfl hc_) (cwV 2 hts gX6_aesRight_X6_stands rfl rfl rfl (by decide +kernel) ⟨Nat.le_of_ble_eq_true rfl, Nat.le_of_ble_eq_true rfl⟩) ⟨zblind, va_recv hK hP (ci := 8) (q0 := 0) rfl rfl, zpre hE hS (hP.sub [0, 4] rfl) (hD.sub [0, 4] (by decide) rfl) (va_free hD hS hA [0, 4] rfl)⟩ rfl rfl hl.1 rfl (lv_room (Nat.le_of_ble_eq_true rfl)) (zdt_at zt_X6_aesRight_0 39 rfl) ⟨Nat.zero_le _, Nat.zero_le _⟩) ?_
  clear hc_
  refine W.eq (g2 := F0 m 72 ls [.int r_11]) rfl ?_
  refine lv_if_eq (pc := 72) (tgt := 79) hx hb (zdt_at zt_X6_aesRight_0 40 rfl) (by decide) (fun cn_ => ?t_12) (fun cn_ => ?f_13)
  case t_12 =>
    replace hf := zt_s cn_ hf
    clear cn_
    refine lv_iconst (pc := 79) (v := (0 : Int32)) hx hb (zdt_at zt_X6_aesRight_0 43 rfl) (by decide) ?_
    cases hf
    exact W.zret (pc := 80) hx hb hr rfl (fun t ht hW => ⟨rfl, ⟨by rw [ht]; exact hP, hD⟩, hS.F ht⟩) hS.2.2 (zdt_at zt_X6_aesRight_0 44 rfl)
  replace hf := ze_s cn_ hf
  clear cn_
  refine lv_iconst (pc := 75) (v := (1 : Int32)) hx hb (zdt_at zt_X6_aesRight_0 41 rfl) (by decide) ?_
  refine lv_goto (pc := 76) (tgt := 80) hx hb (zdt_at zt_X6_aesRight_0 42 rfl) (by decide) ?_
  cases hf
  exact W.zret (pc := 80) hx hb hr rfl (fun t ht hW => ⟨rfl, ⟨by rw [ht]; exact hP, hD⟩, hS.F ht⟩) hS.2.2 (zdt_at zt_X6_aesRight_0 44 rfl)
set_option maxHeartbeats 4000000 in
set_option maxRecDepth 100000 in
theorem c_X6_comesRight (l : Launch) (D : va_G) (cy : Nat → ClassId) (tt : Nat → Nat) (sz : Nat) (h0 : Nat) (h0_aes : Nat) (h0_modes : Nat) (h0_gcm : Nat) (h0_sha : Nat) (h0_generator : Nat) (h0_key : Nat) (h0_work : Nat) (h0_aes_keys : Nat) (h0_gcm_tag : Nat) (h0_generator_key : Nat) (h0_generator_value : Nat) (h0_generator_message : Nat) (h0_modes_block : Nat) (h0_modes_pad : Nat) (h0_sha_sums : Nat) (h0_sha_schedule : Nat) (h0_sha_inner : Nat) (p1 : Int32) (p2 : Int32) (c_aes_rounds : Int32) (c_aes_keys : Nat → Int32) (c_gcm_keyHigh : Int64) (c_gcm_keyLow : Int64) (c_gcm_sumHigh : Int64) (c_gcm_sumLow : Int64) (c_gcm_tag : Nat → Int32) (c_generator_begun : Int32) (c_generator_requests : Int32) (c_generator_key : Nat → Int32) (c_generator_message : Nat → Int32) (c_generator_value : Nat → Int32) (c_key : Nat → Int32) (c_modes_block : Nat → Int32) (c_modes_pad : Nat → Int32) (c_sha_filled : Int32) (c_sha_total : Int32) (c_sha_inner : Nat → Int32) (c_sha_schedule : Nat → Int32) (c_sha_sums : Nat → Int32) (c_work : Nat → Int32) (r_ : Int32) (c_aes_rounds' : Int32) (c_aes_keys' : Nat → Int32) (c_gcm_keyHigh' : Int64) (c_gcm_keyLow' : Int64) (c_gcm_sumHigh' : Int64) (c_gcm_sumLow' : Int64) (c_gcm_tag' : Nat → Int32) (c_generator_begun' : Int32) (c_generator_requests' : Int32) (c_generator_key' : Nat → Int32) (c_generator_message' : Nat → Int32) (c_generator_value' : Nat → Int32) (c_key' : Nat → Int32) (c_modes_block' : Nat → Int32) (c_modes_pad' : Nat → Int32) (c_sha_filled' : Int32) (c_sha_total' : Int32) (c_sha_inner' : Nat → Int32) (c_sha_schedule' : Nat → Int32) (c_sha_sums' : Nat → Int32) (c_work' : Nat → Int32) (hf : f_X6_comesRight p1 p2 c_aes_rounds c_aes_keys c_gcm_keyHigh c_gcm_keyLow c_gcm_sumHigh c_gcm_sumLow c_gcm_tag c_generator_begun c_generator_requests c_generator_key c_generator_message c_generator_value c_key c_modes_block c_modes_pad c_sha_filled c_sha_total c_sha_inner c_sha_schedule c_sha_sums c_work = some (r_, c_aes_rounds', c_aes_keys', c_gcm_keyHigh', c_gcm_keyLow', c_gcm_sumHigh', c_gcm_sumLow', c_gcm_tag', c_generator_begun', c_generator_requests', c_generator_key', c_generator_message', c_generator_value', c_key', c_modes_block', c_modes_pad', c_sha_filled', c_sha_total', c_sha_inner', c_sha_schedule', c_sha_sums', c_work')) : Met l yX6_comesRight wsX6_comesRight ({ frames := 7, cells := 0, slots := 0, locals := 183 }) (zPc D cy tt sz [.ref h0, .int p1, .int p2] ([(h0, .inr (8, [.ref h0_aes, .ref h0_modes, .ref h0_gcm, .ref h0_sha, .ref h0_generator, .ref h0_key, .ref h0_work])), (h0_aes, .inr (2, [.ref h0_aes_keys, .int c_aes_rounds])), (h0_aes_keys, .inl (cy 1, 60, .inl c_aes_keys)), (h0_gcm, .inr (4, [.ref h0_aes, .ref h0_modes, .ref h0_gcm_tag, .long c_gcm_keyHigh, .long c_gcm_keyLow, .long c_gcm_sumHigh, .long c_gcm_sumLow])), (h0_gcm_tag, .inl (cy 0, 16, .inl c_gcm_tag)), (h0_generator, .inr (5, [.ref h0_sha, .ref h0_generator_key, .ref h0_generator_value, .ref h0_generator_message, .int c_generator_begun, .int c_generator_requests])), (h0_generator_key, .inl (cy 0, 32, .inl c_generator_key)), (h0_generator_message, .inl (cy 0, 97, .inl c_generator_message)), (h0_generator_value, .inl (cy 0, 32, .inl c_generator_value)), (h0_key, .inl (cy 0, 32, .inl c_key)), (h0_modes, .inr (6, [.ref h0_aes, .ref h0_modes_block, .ref h0_modes_pad])), (h0_modes_block, .inl (cy 0, 16, .inl c_modes_block)), (h0_modes_pad, .inl (cy 0, 16, .inl c_modes_pad)), (h0_sha, .inr (9, [.ref h0_sha_sums, .ref h0_sha_schedule, .ref h0_sha_inner, .int c_sha_filled, .int c_sha_total])), (h0_sha_inner, .inl (cy 0, 32, .inl c_sha_inner)), (h0_sha_schedule, .inl (cy 1, 64, .inl c_sha_schedule)), (h0_sha_sums, .inl (cy 1, 8, .inl c_sha_sums)), (h0_work, .inl (cy 0, 64, .inl c_work))])) (zQ D (some (.int r_)) ([(h0, .inr (8, [.ref h0_aes, .ref h0_modes, .ref h0_gcm, .ref h0_sha, .ref h0_generator, .ref h0_key, .ref h0_work])), (h0_aes, .inr (2, [.ref h0_aes_keys, .int c_aes_rounds'])), (h0_aes_keys, .inl (cy 1, 60, .inl c_aes_keys')), (h0_gcm, .inr (4, [.ref h0_aes, .ref h0_modes, .ref h0_gcm_tag, .long c_gcm_keyHigh', .long c_gcm_keyLow', .long c_gcm_sumHigh', .long c_gcm_sumLow'])), (h0_gcm_tag, .inl (cy 0, 16, .inl c_gcm_tag')), (h0_generator, .inr (5, [.ref h0_sha, .ref h0_generator_key, .ref h0_generator_value, .ref h0_generator_message, .int c_generator_begun', .int c_generator_requests'])), (h0_generator_key, .inl (cy 0, 32, .inl c_generator_key')), (h0_generator_message, .inl (cy 0, 97, .inl c_generator_message')), (h0_generator_value, .inl (cy 0, 32, .inl c_generator_value')), (h0_key, .inl (cy 0, 32, .inl c_key')), (h0_modes, .inr (6, [.ref h0_aes, .ref h0_modes_block, .ref h0_modes_pad])), (h0_modes_block, .inl (cy 0, 16, .inl c_modes_block')), (h0_modes_pad, .inl (cy 0, 16, .inl c_modes_pad')), (h0_sha, .inr (9, [.ref h0_sha_sums, .ref h0_sha_schedule, .ref h0_sha_inner, .int c_sha_filled', .int c_sha_total'])), (h0_sha_inner, .inl (cy 0, 32, .inl c_sha_inner')), (h0_sha_schedule, .inl (cy 1, 64, .inl c_sha_schedule')), (h0_sha_sums, .inl (cy 1, 8, .inl c_sha_sums')), (h0_work, .inl (cy 0, 64, .inl c_work'))]) (va_A ([(h0, .inr (8, [.ref h0_aes, .ref h0_modes, .ref h0_gcm, .ref h0_sha, .ref h0_generator, .ref h0_key, .ref h0_work])), (h0_aes, .inr (2, [.ref h0_aes_keys, .int c_aes_rounds])), (h0_aes_keys, .inl (cy 1, 60, .inl c_aes_keys)), (h0_gcm, .inr (4, [.ref h0_aes, .ref h0_modes, .ref h0_gcm_tag, .long c_gcm_keyHigh, .long c_gcm_keyLow, .long c_gcm_sumHigh, .long c_gcm_sumLow])), (h0_gcm_tag, .inl (cy 0, 16, .inl c_gcm_tag)), (h0_generator, .inr (5, [.ref h0_sha, .ref h0_generator_key, .ref h0_generator_value, .ref h0_generator_message, .int c_generator_begun, .int c_generator_requests])), (h0_generator_key, .inl (cy 0, 32, .inl c_generator_key)), (h0_generator_message, .inl (cy 0, 97, .inl c_generator_message)), (h0_generator_value, .inl (cy 0, 32, .inl c_generator_value)), (h0_key, .inl (cy 0, 32, .inl c_key)), (h0_modes, .inr (6, [.ref h0_aes, .ref h0_modes_block, .ref h0_modes_pad])), (h0_modes_block, .inl (cy 0, 16, .inl c_modes_block)), (h0_modes_pad, .inl (cy 0, 16, .inl c_modes_pad)), (h0_sha, .inr (9, [.ref h0_sha_sums, .ref h0_sha_schedule, .ref h0_sha_inner, .int c_sha_filled, .int c_sha_total])), (h0_sha_inner, .inl (cy 0, 32, .inl c_sha_inner)), (h0_sha_schedule, .inl (cy 1, 64, .inl c_sha_schedule)), (h0_sha_sums, .inl (cy 1, 8, .inl c_sha_sums)), (h0_work, .inl (cy 0, 64, .inl c_work))]) sz)) 0 0 (va_A ([(h0, .inr (8, [.ref h0_aes, .ref h0_modes, .ref h0_gcm, .ref h0_sha, .ref h0_generator, .ref h0_key, .ref h0_work])), (h0_aes, .inr (2, [.ref h0_aes_keys, .int c_aes_rounds])), (h0_aes_keys, .inl (cy 1, 60, .inl c_aes_keys)), (h0_gcm, .inr (4, [.ref h0_aes, .ref h0_modes, .ref h0_gcm_tag, .long c_gcm_keyHigh, .long c_gcm_keyLow, .long c_gcm_sumHigh, .long c_gcm_sumLow])), (h0_gcm_tag, .inl (cy 0, 16, .inl c_gcm_tag)), (h0_generator, .inr (5, [.ref h0_sha, .ref h0_generator_key, .ref h0_generator_value, .ref h0_generator_message, .int c_generator_begun, .int c_generator_requests])), (h0_generator_key, .inl (cy 0, 32, .inl c_generator_key)), (h0_generator_message, .inl (cy 0, 97, .inl c_generator_message)), (h0_generator_value, .inl (cy 0, 32, .inl c_generator_value)), (h0_key, .inl (cy 0, 32, .inl c_key)), (h0_modes, .inr (6, [.ref h0_aes, .ref h0_modes_block, .ref h0_modes_pad])), (h0_modes_block, .inl (cy 0, 16, .inl c_modes_block)), (h0_modes_pad, .inl (cy 0, 16, .inl c_modes_pad)), (h0_sha, .inr (9, [.ref h0_sha_sums, .ref h0_sha_schedule, .ref h0_sha_inner, .int c_sha_filled, .int c_sha_total])), (h0_sha_inner, .inl (cy 0, 32, .inl c_sha_inner)), (h0_sha_schedule, .inl (cy 1, 64, .inl c_sha_schedule)), (h0_sha_sums, .inl (cy 1, 8, .inl c_sha_sums)), (h0_work, .inl (cy 0, 64, .inl c_work))]) sz) := by
  refine Met.ofW (cc := cX6_comesRight) (maxL := 4) (ret := (some .boolean)) (by decide) rfl ?_
  intro p e s m args below meth c s₁ B hml hv
  obtain ⟨rfl, rfl, hP, hD0, hE⟩ := hv
  have hx := B.exec
  have hb := B.bytes
  have hr := B.returns
  have hts := atoms_spec (ws := wsX6_comesRight) B.pre
  have hown : s.vm.findClass RX6 = some m.cls := findClass_of_methodNamed B.named
  have hlocks := B.notSynchronized
  clear B
  have hD := hD0.self (sz := s.heap.size)
  generalize hAe : va_A ([(h0, .inr (8, [.ref h0_aes, .ref h0_modes, .ref h0_gcm, .ref h0_sha, .ref h0_generator, .ref h0_key, .ref h0_work])), (h0_aes, .inr (2, [.ref h0_aes_keys, .int c_aes_rounds])), (h0_aes_keys, .inl (cy 1, 60, .inl c_aes_keys)), (h0_gcm, .inr (4, [.ref h0_aes, .ref h0_modes, .ref h0_gcm_tag, .long c_gcm_keyHigh, .long c_gcm_keyLow, .long c_gcm_sumHigh, .long c_gcm_sumLow])), (h0_gcm_tag, .inl (cy 0, 16, .inl c_gcm_tag)), (h0_generator, .inr (5, [.ref h0_sha, .ref h0_generator_key, .ref h0_generator_value, .ref h0_generator_message, .int c_generator_begun, .int c_generator_requests])), (h0_generator_key, .inl (cy 0, 32, .inl c_generator_key)), (h0_generator_message, .inl (cy 0, 97, .inl c_generator_message)), (h0_generator_value, .inl (cy 0, 32, .inl c_generator_value)), (h0_key, .inl (cy 0, 32, .inl c_key)), (h0_modes, .inr (6, [.ref h0_aes, .ref h0_modes_block, .ref h0_modes_pad])), (h0_modes_block, .inl (cy 0, 16, .inl c_modes_block)), (h0_modes_pad, .inl (cy 0, 16, .inl c_modes_pad)), (h0_sha, .inr (9, [.ref h0_sha_sums, .ref h0_sha_schedule, .ref h0_sha_inner, .int c_sha_filled, .int c_sha_total])), (h0_sha_inner, .inl (cy 0, 32, .inl c_sha_inner)), (h0_sha_schedule, .inl (cy 1, 64, .inl c_sha_schedule)), (h0_sha_sums, .inl (cy 1, 8, .inl c_sha_sums)), (h0_work, .inl (cy 0, 64, .inl c_work))]) s.heap.size = A at hD hE ⊢
  have hA : ∀ q : Nat, s.heap.size ≤ q → A q := fun q h => by rw [← hAe]; exact Or.inr h
  clear hAe hD0
  have hS : va_S A s.heap s.heap [] := va_S.rf
  have hK := hE.1
  have hw0 := hts (.fieldLink RX6 43 "SealedModule$SelfTests" "AES_128_ANSWER" "[J") (by decide +kernel)
  have hw1 := hts (.fieldLink RX6 51 "SealedModule$SelfTests" "AES_256_ANSWER" "[J") (by decide +kernel)
  have hw2 := hts (.fieldLink RX6 64 "SealedModule$SelfTests" "CMAC_OF_NOTHING" "[J") (by decide +kernel)
  have hw3 := hts (.fieldLink RX6 70 "SealedModule$SelfTests" "CMAC_OF_BLOCK" "[J") (by decide +kernel)
  have hw4 := hts (.fieldLink RX6 9 "SealedModule$SelfTests" "key" "[B") (by decide +kernel)
  have hw5 := hts (.fieldLink RX6 15 "SealedModule$SelfTests" "work" "[B") (by decide +kernel)
  have hw6 := hts (.initialized RX9) (by decide +kernel)
  have hw7 := hts (.static yX9_alike) (by decide +kernel)
  have hcX6 : ∀ w ∈ u_ws RX6 TX6 7, w ∈ wsX6_comesRight := (fun _ h => List.mem_cons_of_mem _ (List.mem_append_left _ (List.mem_append_left _ (List.mem_append_left _ (List.mem_append_left _ (List.mem_append_left _ (List.mem_append_left _ (List.mem_append_right _ h))))))))
  have hl := lv_entry ([.ref h0, .int p1, .int p2]) (n := 4) (Nat.le_of_ble_eq_true rfl)
  rw [lg_entry_eq]
  generalize (lg_sl ([.ref h0, .int p1, .int p2]) ++ List.replicate (4 - (lg_sl ([.ref h0, .int p1, .int p2])).length) Slot.unset).toArray = ls at hl ⊢
  replace hl : lv_has ls 4 [(0, .ref h0), (1, .int p1), (2, .int p2)] := hl
  unfold f_X6_comesRight at hf
  refine zgo (fun GW hTo hFr => ?_)
  refine hFr _ _ _ ?_
  obtain ⟨H, hHe⟩ : ∃ H, H = s.heap := ⟨_, rfl⟩
  obtain ⟨locs, hLe⟩ : ∃ L : List Loc, L = [] := ⟨_, rfl⟩
  rw [← hHe] at hP
  replace hS : va_S A s.heap H locs := by rw [hHe, hLe]; exact hS
  refine zat hHe.symm hLe.symm ?_
  clear hHe hLe
  refine lv_iload_n (pc := 0) hx hb (zdt_at zt_X6_comesRight_0 0 rfl) rfl (lv_at hl 2 rfl) ?_
  replace hf := zj_s hf
  obtain ⟨K_2, eK_2, hf⟩ := hf
  have kK_2 : ∀ (v_1 : Int32) (H : Heap) (locs : List Loc) (ls : Array Slot), va_P D vwCl ([(h0, .inr (8, [.ref h0_aes, .ref h0_modes, .ref h0_gcm, .ref h0_sha, .ref h0_generator, .ref h0_key, .ref h0_work])), (h0_aes, .inr (2, [.ref h0_aes_keys, .int c_aes_rounds])), (h0_aes_keys, .inl (cy 1, 60, .inl c_aes_keys)), (h0_gcm, .inr (4, [.ref h0_aes, .ref h0_modes, .ref h0_gcm_tag, .long c_gcm_keyHigh, .long c_gcm_keyLow, .long c_gcm_sumHigh, .long c_gcm_sumLow])), (h0_gcm_tag, .inl (cy 0, 16, .inl c_gcm_tag)), (h0_generator, .inr (5, [.ref h0_sha, .ref h0_generator_key, .ref h0_generator_value, .ref h0_generator_message, .int c_generator_begun, .int c_generator_requests])), (h0_generator_key, .inl (cy 0, 32, .inl c_generator_key)), (h0_generator_message, .inl (cy 0, 97, .inl c_generator_message)), (h0_generator_value, .inl (cy 0, 32, .inl c_generator_value)), (h0_key, .inl (cy 0, 32, .inl c_key)), (h0_modes, .inr (6, [.ref h0_aes, .ref h0_modes_block, .ref h0_modes_pad])), (h0_modes_block, .inl (cy 0, 16, .inl c_modes_block)), (h0_modes_pad, .inl (cy 0, 16, .inl c_modes_pad)), (h0_sha, .inr (9, [.ref h0_sha_sums, .ref h0_sha_schedule, .ref h0_sha_inner, .int c_sha_filled, .int c_sha_total])), (h0_sha_inner, .inl (cy 0, 32, .inl c_sha_inner)), (h0_sha_schedule, .inl (cy 1, 64, .inl c_sha_schedule)), (h0_sha_sums, .inl (cy 1, 8, .inl c_sha_sums)), (h0_work, .inl (cy 0, 64, .inl c_work))]) H → va_D A ([(h0, .inr (8, [.ref h0_aes, .ref h0_modes, .ref h0_gcm, .ref h0_sha, .ref h0_generator, .ref h0_key, .ref h0_work])), (h0_aes, .inr (2, [.ref h0_aes_keys, .int c_aes_rounds])), (h0_aes_keys, .inl (cy 1, 60, .inl c_aes_keys)), (h0_gcm, .inr (4, [.ref h0_aes, .ref h0_modes, .ref h0_gcm_tag, .long c_gcm_keyHigh, .long c_gcm_keyLow, .long c_gcm_sumHigh, .long c_gcm_sumLow])), (h0_gcm_tag, .inl (cy 0, 16, .inl c_gcm_tag)), (h0_generator, .inr (5, [.ref h0_sha, .ref h0_generator_key, .ref h0_generator_value, .ref h0_generator_message, .int c_generator_begun, .int c_generator_requests])), (h0_generator_key, .inl (cy 0, 32, .inl c_generator_key)), (h0_generator_message, .inl (cy 0, 97, .inl c_generator_message)), (h0_generator_value, .inl (cy 0, 32, .inl c_generator_value)), (h0_key, .inl (cy 0, 32, .inl c_key)), (h0_modes, .inr (6, [.ref h0_aes, .ref h0_modes_block, .ref h0_modes_pad])), (h0_modes_block, .inl (cy 0, 16, .inl c_modes_block)), (h0_modes_pad, .inl (cy 0, 16, .inl c_modes_pad)), (h0_sha, .inr (9, [.ref h0_sha_sums, .ref h0_sha_schedule, .ref h0_sha_inner, .int c_sha_filled, .int c_sha_total])), (h0_sha_inner, .inl (cy 0, 32, .inl c_sha_inner)), (h0_sha_schedule, .inl (cy 1, 64, .inl c_sha_schedule)), (h0_sha_sums, .inl (cy 1, 8, .inl c_sha_sums)), (h0_work, .inl (cy 0, 64, .inl c_work))]) → va_S A s.heap H locs → lv_has ls 4 [(0, .ref h0), (1, .int p1)] → K_2 v_1 = some (r_, c_aes_rounds', c_aes_keys', c_gcm_keyHigh', c_gcm_keyLow', c_gcm_sumHigh', c_gcm_sumLow', c_gcm_tag', c_generator_begun', c_generator_requests', c_generator_key', c_generator_message', c_generator_value', c_key', c_modes_block', c_modes_pad', c_sha_filled', c_sha_total', c_sha_inner', c_sha_schedule', c_sha_sums', c_work') → GW H locs (F0 m 9 ls [.int v_1]) := by
    clear hf hl hP hD hS
    intro v_1 H locs ls hP hD hS hl hf
    rw [eK_2] at hf
    clear eK_2
    refine hFr _ _ _ ?_
    refine lv_istore_n (pc := 9) (lv' := [(3, .int v_1), (0, .ref h0), (1, .int p1)]) hx hb (zdt_at zt_X6_comesRight_0 5 rfl) rfl hl (by decide) rfl ?_
    clear hl
    intro ls hl
    refine lv_iload_n (pc := 10) hx hb (zdt_at zt_X6_comesRight_0 6 rfl) rfl (lv_at hl 2 rfl) ?_
    by_cases hs_8 : p1 = (0 : Int32)
    · replace hf := zt_s hs_8 hf
      refine lv_tableIn (pc := 11) (tgt := 60) (off := 49) hx hb (zdt_at zt_X6_comesRight_0 7 rfl) (by rw [hs_8]; decide) (by rw [hs_8]; decide) (by rw [hs_8]; rfl) (by decide) ?_
      clear hs_8
      refine lv_aload_n (pc := 60) hx hb (zdt_at zt_X6_comesRight_0 8 rfl) rfl (lv_at hl 1 rfl) ?_
      refine lv_bipush (pc := 61) (v := (16 : Int32)) hx hb (zdt_at zt_X6_comesRight_0 9 rfl) (by decide) ?_
      refine va_gets (pc := 63) hx hb (gT_6 hE.2.2).1 hS hown hw0 (fun _ h9 => h9) (zdt_at zt_X6_comesRight_0 10 rfl) ?_
      refine lv_iload_n (pc := 66) hx hb (zdt_at zt_X6_comesRight_0 11 rfl) rfl (lv_at hl 0 rfl) ?_
      replace hf := zb_s hf
      obtain ⟨⟨r_3, c_aes_rounds_4, c_aes_keys_5, c_key_6, c_work_7⟩, hc_, hf⟩ := hf
      refine zcn2 (pc := 67) (rv := (some (.int r_3))) (va_runV (As := [.int (16 : Int32), .ref (tt 6), .int v_1]) (rest := []) ⟨hx, hb, hml, hown, hts⟩ (c_X6_aesRight l D cy tt H.size h0 h0_aes h0_modes h0_gcm h0_sha h0_generator h0_key h0_work h0_aes_keys (16 : Int32) 6 (fun j => tb_AES_128_ANSWER.getD j 0) 2 v_1 c_aes_rounds c_aes_keys c_key c_work _ _ _ r_3 c_aes_rounds_4 c_aes_keys_5 c_key_6 c_work_7 rfl hc_) (cwV 3 hts gX6_comesRight_X6_aesRight rfl rfl rfl (by decide +kernel) ⟨Nat.le_of_ble_eq_true rfl, Nat.le_of_ble_eq_true rfl⟩) ⟨zblind, va_recv hK hP (ci := 8) (q0 := 0) rfl rfl, zpre hE hS (hP.sub [0, 1, 2, 9, 17] rfl) (hD.sub [0, 1, 2, 9, 17] (by decide) rfl) (va_free hD hS hA [0, 1, 2, 9, 17] rfl)⟩ rfl rfl hl.1 rfl (lv_room (Nat.le_of_ble_eq_true rfl)) (zdt_at zt_X6_comesRight_0 12 rfl) ⟨Nat.zero_le _, Nat.zero_le _⟩) hS hP hD (va_free hD hS hA [0, 1, 2, 9, 17] rfl) [0, 1, 2, 9, 17] rfl (by decide) rfl ?_
      clear hP hD hS hc_
      intro H locs hP hD hS
      replace hP : va_P D vwCl ([(h0, .inr (8, [.ref h0_aes, .ref h0_modes, .ref h0_gcm, .ref h0_sha, .ref h0_generator, .ref h0_key, .ref h0_work])), (h0_aes, .inr (2, [.ref h0_aes_keys, .int c_aes_rounds_4])), (h0_aes_keys, .inl (cy 1, 60, .inl c_aes_keys_5)), (h0_gcm, .inr (4, [.ref h0_aes, .ref h0_modes, .ref h0_gcm_tag, .long c_gcm_keyHigh, .long c_gcm_keyLow, .long c_gcm_sumHigh, .long c_gcm_sumLow])), (h0_gcm_tag, .inl (cy 0, 16, .inl c_gcm_tag)), (h0_generator, .inr (5, [.ref h0_sha, .ref h0_generator_key, .ref h0_generator_value, .ref h0_generator_message, .int c_generator_begun, .int c_generator_requests])), (h0_generator_key, .inl (cy 0, 32, .inl c_generator_key)), (h0_generator_message, .inl (cy 0, 97, .inl c_generator_message)), (h0_generator_value, .inl (cy 0, 32, .inl c_generator_value)), (h0_key, .inl (cy 0, 32, .inl c_key_6)), (h0_modes, .inr (6, [.ref h0_aes, .ref h0_modes_block, .ref h0_modes_pad])), (h0_modes_block, .inl (cy 0, 16, .inl c_modes_block)), (h0_modes_pad, .inl (cy 0, 16, .inl c_modes_pad)), (h0_sha, .inr (9, [.ref h0_sha_sums, .ref h0_sha_schedule, .ref h0_sha_inner, .int c_sha_filled, .int c_sha_total])), (h0_sha_inner, .inl (cy 0, 32, .inl c_sha_inner)), (h0_sha_schedule, .inl (cy 1, 64, .inl c_sha_schedule)), (h0_sha_sums, .inl (cy 1, 8, .inl c_sha_sums)), (h0_work, .inl (cy 0, 64, .inl c_work_7))]) H := hP
      replace hD : va_D A ([(h0, .inr (8, [.ref h0_aes, .ref h0_modes, .ref h0_gcm, .ref h0_sha, .ref h0_generator, .ref h0_key, .ref h0_work])), (h0_aes, .inr (2, [.ref h0_aes_keys, .int c_aes_rounds_4])), (h0_aes_keys, .inl (cy 1, 60, .inl c_aes_keys_5)), (h0_gcm, .inr (4, [.ref h0_aes, .ref h0_modes, .ref h0_gcm_tag, .long c_gcm_keyHigh, .long c_gcm_keyLow, .long c_gcm_sumHigh, .long c_gcm_sumLow])), (h0_gcm_tag, .inl (cy 0, 16, .inl c_gcm_tag)), (h0_generator, .inr (5, [.ref h0_sha, .ref h0_generator_key, .ref h0_generator_value, .ref h0_generator_message, .int c_generator_begun, .int c_generator_requests])), (h0_generator_key, .inl (cy 0, 32, .inl c_generator_key)), (h0_generator_message, .inl (cy 0, 97, .inl c_generator_message)), (h0_generator_value, .inl (cy 0, 32, .inl c_generator_value)), (h0_key, .inl (cy 0, 32, .inl c_key_6)), (h0_modes, .inr (6, [.ref h0_aes, .ref h0_modes_block, .ref h0_modes_pad])), (h0_modes_block, .inl (cy 0, 16, .inl c_modes_block)), (h0_modes_pad, .inl (cy 0, 16, .inl c_modes_pad)), (h0_sha, .inr (9, [.ref h0_sha_sums, .ref h0_sha_schedule, .ref h0_sha_inner, .int c_sha_filled, .int c_sha_total])), (h0_sha_inner, .inl (cy 0, 32, .inl c_sha_inner)), (h0_sha_schedule, .inl (cy 1, 64, .inl c_sha_schedule)), (h0_sha_sums, .inl (cy 1, 8, .inl c_sha_sums)), (h0_work, .inl (cy 0, 64, .inl c_work_7))]) := hD
      refine W.eq (g2 := F0 m 70 ls [.int r_3]) rfl ?_
      replace hf := zk_s hf
      have hv_ := hf.1
      replace hf := hf.2
      cases hf
      exact W.zret (pc := 70) hx hb hr (zz_nar hv_) (fun t ht hW => ⟨rfl, ⟨by rw [ht]; exact hP, hD⟩, hS.F ht⟩) hS.2.2 (zdt_at zt_X6_comesRight_0 13 rfl)
    replace hf := ze_s hs_8 hf
    by_cases hs_14 : p1 = (1 : Int32)
    · replace hf := zt_s hs_14 hf
      refine lv_tableIn (pc := 11) (tgt := 71) (off := 60) hx hb (zdt_at zt_X6_comesRight_0 7 rfl) (by rw [hs_14]; decide) (by rw [hs_14]; decide) (by rw [hs_14]; rfl) (by decide) ?_
      clear hs_14
      refine lv_aload_n (pc := 71) hx hb (zdt_at zt_X6_comesRight_0 14 rfl) rfl (lv_at hl 1 rfl) ?_
      refine lv_bipush (pc := 72) (v := (32 : Int32)) hx hb (zdt_at zt_X6_comesRight_0 15 rfl) (by decide) ?_
      refine va_gets (pc := 74) hx hb (gT_7 hE.2.2).1 hS hown hw1 (fun _ h9 => h9) (zdt_at zt_X6_comesRight_0 16 rfl) ?_
      refine lv_iload_n (pc := 77) hx hb (zdt_at zt_X6_comesRight_0 17 rfl) rfl (lv_at hl 0 rfl) ?_
      replace hf := zb_s hf
      obtain ⟨⟨r_9, c_aes_rounds_10, c_aes_keys_11, c_key_12, c_work_13⟩, hc_, hf⟩ := hf
      refine zcn2 (pc := 78) (rv := (some (.int r_9))) (va_runV (As := [.int (32 : Int32), .ref (tt 7), .int v_1]) (rest := []) ⟨hx, hb, hml, hown, hts⟩ (c_X6_aesRight l D cy tt H.size h0 h0_aes h0_modes h0_gcm h0_sha h0_generator h0_key h0_work h0_aes_keys (32 : Int32) 7 (fun j => tb_AES_256_ANSWER.getD j 0) 2 v_1 c_aes_rounds c_aes_keys c_key c_work _ _ _ r_9 c_aes_rounds_10 c_aes_keys_11 c_key_12 c_work_13 rfl hc_) (cwV 3 hts gX6_comesRight_X6_aesRight rfl rfl rfl (by decide +kernel) ⟨Nat.le_of_ble_eq_true rfl, Nat.le_of_ble_eq_true rfl⟩) ⟨zblind, va_recv hK hP (ci := 8) (q0 := 0) rfl rfl, zpre hE hS (hP.sub [0, 1, 2, 9, 17] rfl) (hD.sub [0, 1, 2, 9, 17] (by decide) rfl) (va_free hD hS hA [0, 1, 2, 9, 17] rfl)⟩ rfl rfl hl.1 rfl (lv_room (Nat.le_of_ble_eq_true rfl)) (zdt_at zt_X6_comesRight_0 18 rfl) ⟨Nat.zero_le _, Nat.zero_le _⟩) hS hP hD (va_free hD hS hA [0, 1, 2, 9, 17] rfl) [0, 1, 2, 9, 17] rfl (by decide) rfl ?_
      clear hP hD hS hc_
      intro H locs hP hD hS
      replace hP : va_P D vwCl ([(h0, .inr (8, [.ref h0_aes, .ref h0_modes, .ref h0_gcm, .ref h0_sha, .ref h0_generator, .ref h0_key, .ref h0_work])), (h0_aes, .inr (2, [.ref h0_aes_keys, .int c_aes_rounds_10])), (h0_aes_keys, .inl (cy 1, 60, .inl c_aes_keys_11)), (h0_gcm, .inr (4, [.ref h0_aes, .ref h0_modes, .ref h0_gcm_tag, .long c_gcm_keyHigh, .long c_gcm_keyLow, .long c_gcm_sumHigh, .long c_gcm_sumLow])), (h0_gcm_tag, .inl (cy 0, 16, .inl c_gcm_tag)), (h0_generator, .inr (5, [.ref h0_sha, .ref h0_generator_key, .ref h0_generator_value, .ref h0_generator_message, .int c_generator_begun, .int c_generator_requests])), (h0_generator_key, .inl (cy 0, 32, .inl c_generator_key)), (h0_generator_message, .inl (cy 0, 97, .inl c_generator_message)), (h0_generator_value, .inl (cy 0, 32, .inl c_generator_value)), (h0_key, .inl (cy 0, 32, .inl c_key_12)), (h0_modes, .inr (6, [.ref h0_aes, .ref h0_modes_block, .ref h0_modes_pad])), (h0_modes_block, .inl (cy 0, 16, .inl c_modes_block)), (h0_modes_pad, .inl (cy 0, 16, .inl c_modes_pad)), (h0_sha, .inr (9, [.ref h0_sha_sums, .ref h0_sha_schedule, .ref h0_sha_inner, .int c_sha_filled, .int c_sha_total])), (h0_sha_inner, .inl (cy 0, 32, .inl c_sha_inner)), (h0_sha_schedule, .inl (cy 1, 64, .inl c_sha_schedule)), (h0_sha_sums, .inl (cy 1, 8, .inl c_sha_sums)), (h0_work, .inl (cy 0, 64, .inl c_work_13))]) H := hP
      replace hD : va_D A ([(h0, .inr (8, [.ref h0_aes, .ref h0_modes, .ref h0_gcm, .ref h0_sha, .ref h0_generator, .ref h0_key, .ref h0_work])), (h0_aes, .inr (2, [.ref h0_aes_keys, .int c_aes_rounds_10])), (h0_aes_keys, .inl (cy 1, 60, .inl c_aes_keys_11)), (h0_gcm, .inr (4, [.ref h0_aes, .ref h0_modes, .ref h0_gcm_tag, .long c_gcm_keyHigh, .long c_gcm_keyLow, .long c_gcm_sumHigh, .long c_gcm_sumLow])), (h0_gcm_tag, .inl (cy 0, 16, .inl c_gcm_tag)), (h0_generator, .inr (5, [.ref h0_sha, .ref h0_generator_key, .ref h0_generator_value, .ref h0_generator_message, .int c_generator_begun, .int c_generator_requests])), (h0_generator_key, .inl (cy 0, 32, .inl c_generator_key)), (h0_generator_message, .inl (cy 0, 97, .inl c_generator_message)), (h0_generator_value, .inl (cy 0, 32, .inl c_generator_value)), (h0_key, .inl (cy 0, 32, .inl c_key_12)), (h0_modes, .inr (6, [.ref h0_aes, .ref h0_modes_block, .ref h0_modes_pad])), (h0_modes_block, .inl (cy 0, 16, .inl c_modes_block)), (h0_modes_pad, .inl (cy 0, 16, .inl c_modes_pad)), (h0_sha, .inr (9, [.ref h0_sha_sums, .ref h0_sha_schedule, .ref h0_sha_inner, .int c_sha_filled, .int c_sha_total])), (h0_sha_inner, .inl (cy 0, 32, .inl c_sha_inner)), (h0_sha_schedule, .inl (cy 1, 64, .inl c_sha_schedule)), (h0_sha_sums, .inl (cy 1, 8, .inl c_sha_sums)), (h0_work, .inl (cy 0, 64, .inl c_work_13))]) := hD
      refine W.eq (g2 := F0 m 81 ls [.int r_9]) rfl ?_
      replace hf := zk_s hf
      have hv_ := hf.1
      replace hf := hf.2
      cases hf
      exact W.zret (pc := 81) hx hb hr (zz_nar hv_) (fun t ht hW => ⟨rfl, ⟨by rw [ht]; exact hP, hD⟩, hS.F ht⟩) hS.2.2 (zdt_at zt_X6_comesRight_0 19 rfl)
    replace hf := ze_s hs_14 hf
    by_cases hs_20 : p1 = (2 : Int32)
    · replace hf := zt_s hs_20 hf
      refine lv_tableIn (pc := 11) (tgt := 82) (off := 71) hx hb (zdt_at zt_X6_comesRight_0 7 rfl) (by rw [hs_20]; decide) (by rw [hs_20]; decide) (by rw [hs_20]; rfl) (by decide) ?_
      clear hs_20
      refine lv_aload_n (pc := 82) hx hb (zdt_at zt_X6_comesRight_0 20 rfl) rfl (lv_at hl 1 rfl) ?_
      refine lv_iload_n (pc := 83) hx hb (zdt_at zt_X6_comesRight_0 21 rfl) rfl (lv_at hl 0 rfl) ?_
      replace hf := zb_s hf
      obtain ⟨⟨r_15, c_aes_rounds_16, c_aes_keys_17, c_key_18, c_work_19⟩, hc_, hf⟩ := hf
      refine zcn2 (pc := 84) (rv := (some (.int r_15))) (va_runV (As := [.int v_1]) (rest := []) ⟨hx, hb, hml, hown, hts⟩ (c_X6_cbcRight l D cy tt H.size h0 h0_aes h0_modes h0_gcm h0_sha h0_generator h0_key h0_work h0_aes_keys h0_modes_block h0_modes_pad v_1 c_aes_rounds c_aes_keys c_key c_work r_15 c_aes_rounds_16 c_aes_keys_17 c_key_18 c_work_19 hc_) (cwV 1 hts gX6_comesRight_X6_cbcRight rfl rfl rfl (by decide +kernel) ⟨Nat.le_of_ble_eq_true rfl, Nat.le_of_ble_eq_true rfl⟩) ⟨zblind, va_recv hK hP (ci := 8) (q0 := 0) rfl rfl, zpre hE hS (hP.sub [0, 1, 2, 9, 10, 17] rfl) (hD.sub [0, 1, 2, 9, 10, 17] (by decide) rfl) (va_free hD hS hA [0, 1, 2, 9, 10, 17] rfl)⟩ rfl rfl hl.1 rfl (lv_room (Nat.le_of_ble_eq_true rfl)) (zdt_at zt_X6_comesRight_0 22 rfl) ⟨Nat.zero_le _, Nat.zero_le _⟩) hS hP hD (va_free hD hS hA [0, 1, 2, 9, 10, 17] rfl) [0, 1, 2, 9, 10, 17] rfl (by decide) rfl ?_
      clear hP hD hS hc_
      intro H locs hP hD hS
      replace hP : va_P D vwCl ([(h0, .inr (8, [.ref h0_aes, .ref h0_modes, .ref h0_gcm, .ref h0_sha, .ref h0_generator, .ref h0_key, .ref h0_work])), (h0_aes, .inr (2, [.ref h0_aes_keys, .int c_aes_rounds_16])), (h0_aes_keys, .inl (cy 1, 60, .inl c_aes_keys_17)), (h0_gcm, .inr (4, [.ref h0_aes, .ref h0_modes, .ref h0_gcm_tag, .long c_gcm_keyHigh, .long c_gcm_keyLow, .long c_gcm_sumHigh, .long c_gcm_sumLow])), (h0_gcm_tag, .inl (cy 0, 16, .inl c_gcm_tag)), (h0_generator, .inr (5, [.ref h0_sha, .ref h0_generator_key, .ref h0_generator_value, .ref h0_generator_message, .int c_generator_begun, .int c_generator_requests])), (h0_generator_key, .inl (cy 0, 32, .inl c_generator_key)), (h0_generator_message, .inl (cy 0, 97, .inl c_generator_message)), (h0_generator_value, .inl (cy 0, 32, .inl c_generator_value)), (h0_key, .inl (cy 0, 32, .inl c_key_18)), (h0_modes, .inr (6, [.ref h0_aes, .ref h0_modes_block, .ref h0_modes_pad])), (h0_modes_block, .inl (cy 0, 16, .inl c_modes_block)), (h0_modes_pad, .inl (cy 0, 16, .inl c_modes_pad)), (h0_sha, .inr (9, [.ref h0_sha_sums, .ref h0_sha_schedule, .ref h0_sha_inner, .int c_sha_filled, .int c_sha_total])), (h0_sha_inner, .inl (cy 0, 32, .inl c_sha_inner)), (h0_sha_schedule, .inl (cy 1, 64, .inl c_sha_schedule)), (h0_sha_sums, .inl (cy 1, 8, .inl c_sha_sums)), (h0_work, .inl (cy 0, 64, .inl c_work_19))]) H := hP
      replace hD : va_D A ([(h0, .inr (8, [.ref h0_aes, .ref h0_modes, .ref h0_gcm, .ref h0_sha, .ref h0_generator, .ref h0_key, .ref h0_work])), (h0_aes, .inr (2, [.ref h0_aes_keys, .int c_aes_rounds_16])), (h0_aes_keys, .inl (cy 1, 60, .inl c_aes_keys_17)), (h0_gcm, .inr (4, [.ref h0_aes, .ref h0_modes, .ref h0_gcm_tag, .long c_gcm_keyHigh, .long c_gcm_keyLow, .long c_gcm_sumHigh, .long c_gcm_sumLow])), (h0_gcm_tag, .inl (cy 0, 16, .inl c_gcm_tag)), (h0_generator, .inr (5, [.ref h0_sha, .ref h0_generator_key, .ref h0_generator_value, .ref h0_generator_message, .int c_generator_begun, .int c_generator_requests])), (h0_generator_key, .inl (cy 0, 32, .inl c_generator_key)), (h0_generator_message, .inl (cy 0, 97, .inl c_generator_message)), (h0_generator_value, .inl (cy 0, 32, .inl c_generator_value)), (h0_key, .inl (cy 0, 32, .inl c_key_18)), (h0_modes, .inr (6, [.ref h0_aes, .ref h0_modes_block, .ref h0_modes_pad])), (h0_modes_block, .inl (cy 0, 16, .inl c_modes_block)), (h0_modes_pad, .inl (cy 0, 16, .inl c_modes_pad)), (h0_sha, .inr (9, [.ref h0_sha_sums, .ref h0_sha_schedule, .ref h0_sha_inner, .int c_sha_filled, .int c_sha_total])), (h0_sha_inner, .inl (cy 0, 32, .inl c_sha_inner)), (h0_sha_schedule, .inl (cy 1, 64, .inl c_sha_schedule)), (h0_sha_sums, .inl (cy 1, 8, .inl c_sha_sums)), (h0_work, .inl (cy 0, 64, .inl c_work_19))]) := hD
      refine W.eq (g2 := F0 m 87 ls [.int r_15]) rfl ?_
      replace hf := zk_s hf
      have hv_ := hf.1
      replace hf := hf.2
      cases hf
      exact W.zret (pc := 87) hx hb hr (zz_nar hv_) (fun t ht hW => ⟨rfl, ⟨by rw [ht]; exact hP, hD⟩, hS.F ht⟩) hS.2.2 (zdt_at zt_X6_comesRight_0 23 rfl)
    replace hf := ze_s hs_20 hf
    by_cases hs_28 : p1 = (3 : Int32)
    · replace hf := zt_s hs_28 hf
      refine lv_tableIn (pc := 11) (tgt := 88) (off := 77) hx hb (zdt_at zt_X6_comesRight_0 7 rfl) (by rw [hs_28]; decide) (by rw [hs_28]; decide) (by rw [hs_28]; rfl) (by decide) ?_
      clear hs_28
      refine lv_aload_n (pc := 88) hx hb (zdt_at zt_X6_comesRight_0 24 rfl) rfl (lv_at hl 1 rfl) ?_
      refine lv_iload_n (pc := 89) hx hb (zdt_at zt_X6_comesRight_0 25 rfl) rfl (lv_at hl 0 rfl) ?_
      replace hf := zb_s hf
      obtain ⟨⟨r_21, c_aes_rounds_22, c_aes_keys_23, c_key_24, c_modes_block_25, c_modes_pad_26, c_work_27⟩, hc_, hf⟩ := hf
      refine zcn2 (pc := 90) (rv := (some (.int r_21))) (va_runV (As := [.int v_1]) (rest := []) ⟨hx, hb, hml, hown, hts⟩ (c_X6_ctrRight l D cy tt H.size h0 h0_aes h0_modes h0_gcm h0_sha h0_generator h0_key h0_work h0_aes_keys h0_modes_block h0_modes_pad v_1 c_aes_rounds c_aes_keys c_key c_modes_block c_modes_pad c_work r_21 c_aes_rounds_22 c_aes_keys_23 c_key_24 c_modes_block_25 c_modes_pad_26 c_work_27 hc_) (cwV 1 hts gX6_comesRight_X6_ctrRight rfl rfl rfl (by decide +kernel) ⟨Nat.le_of_ble_eq_true rfl, Nat.le_of_ble_eq_true rfl⟩) ⟨zblind, va_recv hK hP (ci := 8) (q0 := 0) rfl rfl, zpre hE hS (hP.sub [0, 1, 2, 9, 10, 11, 12, 17] rfl) (hD.sub [0, 1, 2, 9, 10, 11, 12, 17] (by decide) rfl) (va_free hD hS hA [0, 1, 2, 9, 10, 11, 12, 17] rfl)⟩ rfl rfl hl.1 rfl (lv_room (Nat.le_of_ble_eq_true rfl)) (zdt_at zt_X6_comesRight_0 26 rfl) ⟨Nat.zero_le _, Nat.zero_le _⟩) hS hP hD (va_free hD hS hA [0, 1, 2, 9, 10, 11, 12, 17] rfl) [0, 1, 2, 9, 10, 11, 12, 17] rfl (by decide) rfl ?_
      clear hP hD hS hc_
      intro H locs hP hD hS
      replace hP : va_P D vwCl ([(h0, .inr (8, [.ref h0_aes, .ref h0_modes, .ref h0_gcm, .ref h0_sha, .ref h0_generator, .ref h0_key, .ref h0_work])), (h0_aes, .inr (2, [.ref h0_aes_keys, .int c_aes_rounds_22])), (h0_aes_keys, .inl (cy 1, 60, .inl c_aes_keys_23)), (h0_gcm, .inr (4, [.ref h0_aes, .ref h0_modes, .ref h0_gcm_tag, .long c_gcm_keyHigh, .long c_gcm_keyLow, .long c_gcm_sumHigh, .long c_gcm_sumLow])), (h0_gcm_tag, .inl (cy 0, 16, .inl c_gcm_tag)), (h0_generator, .inr (5, [.ref h0_sha, .ref h0_generator_key, .ref h0_generator_value, .ref h0_generator_message, .int c_generator_begun, .int c_generator_requests])), (h0_generator_key, .inl (cy 0, 32, .inl c_generator_key)), (h0_generator_message, .inl (cy 0, 97, .inl c_generator_message)), (h0_generator_value, .inl (cy 0, 32, .inl c_generator_value)), (h0_key, .inl (cy 0, 32, .inl c_key_24)), (h0_modes, .inr (6, [.ref h0_aes, .ref h0_modes_block, .ref h0_modes_pad])), (h0_modes_block, .inl (cy 0, 16, .inl c_modes_block_25)), (h0_modes_pad, .inl (cy 0, 16, .inl c_modes_pad_26)), (h0_sha, .inr (9, [.ref h0_sha_sums, .ref h0_sha_schedule, .ref h0_sha_inner, .int c_sha_filled, .int c_sha_total])), (h0_sha_inner, .inl (cy 0, 32, .inl c_sha_inner)), (h0_sha_schedule, .inl (cy 1, 64, .inl c_sha_schedule)), (h0_sha_sums, .inl (cy 1, 8, .inl c_sha_sums)), (h0_work, .inl (cy 0, 64, .inl c_work_27))]) H := hP
      replace hD : va_D A ([(h0, .inr (8, [.ref h0_aes, .ref h0_modes, .ref h0_gcm, .ref h0_sha, .ref h0_generator, .ref h0_key, .ref h0_work])), (h0_aes, .inr (2, [.ref h0_aes_keys, .int c_aes_rounds_22])), (h0_aes_keys, .inl (cy 1, 60, .inl c_aes_keys_23)), (h0_gcm, .inr (4, [.ref h0_aes, .ref h0_modes, .ref h0_gcm_tag, .long c_gcm_keyHigh, .long c_gcm_keyLow, .long c_gcm_sumHigh, .long c_gcm_sumLow])), (h0_gcm_tag, .inl (cy 0, 16, .inl c_gcm_tag)), (h0_generator, .inr (5, [.ref h0_sha, .ref h0_generator_key, .ref h0_generator_value, .ref h0_generator_message, .int c_generator_begun, .int c_generator_requests])), (h0_generator_key, .inl (cy 0, 32, .inl c_generator_key)), (h0_generator_message, .inl (cy 0, 97, .inl c_generator_message)), (h0_generator_value, .inl (cy 0, 32, .inl c_generator_value)), (h0_key, .inl (cy 0, 32, .inl c_key_24)), (h0_modes, .inr (6, [.ref h0_aes, .ref h0_modes_block, .ref h0_modes_pad])), (h0_modes_block, .inl (cy 0, 16, .inl c_modes_block_25)), (h0_modes_pad, .inl (cy 0, 16, .inl c_modes_pad_26)), (h0_sha, .inr (9, [.ref h0_sha_sums, .ref h0_sha_schedule, .ref h0_sha_inner, .int c_sha_filled, .int c_sha_total])), (h0_sha_inner, .inl (cy 0, 32, .inl c_sha_inner)), (h0_sha_schedule, .inl (cy 1, 64, .inl c_sha_schedule)), (h0_sha_sums, .inl (cy 1, 8, .inl c_sha_sums)), (h0_work, .inl (cy 0, 64, .inl c_work_27))]) := hD
      refine W.eq (g2 := F0 m 93 ls [.int r_21]) rfl ?_
      replace hf := zk_s hf
      have hv_ := hf.1
      replace hf := hf.2
      cases hf
      exact W.zret (pc := 93) hx hb hr (zz_nar hv_) (fun t ht hW => ⟨rfl, ⟨by rw [ht]; exact hP, hD⟩, hS.F ht⟩) hS.2.2 (zdt_at zt_X6_comesRight_0 27 rfl)
    replace hf := ze_s hs_28 hf
    by_cases hs_41 : p1 = (4 : Int32)
    · replace hf := zt_s hs_41 hf
      refine lv_tableIn (pc := 11) (tgt := 94) (off := 83) hx hb (zdt_at zt_X6_comesRight_0 7 rfl) (by rw [hs_41]; decide) (by rw [hs_41]; decide) (by rw [hs_41]; rfl) (by decide) ?_
      clear hs_41
      refine lv_aload_n (pc := 94) hx hb (zdt_at zt_X6_comesRight_0 28 rfl) rfl (lv_at hl 1 rfl) ?_
      refine lv_iload_n (pc := 95) hx hb (zdt_at zt_X6_comesRight_0 29 rfl) rfl (lv_at hl 0 rfl) ?_
      replace hf := zb_s hf
      obtain ⟨⟨r_29, c_aes_rounds_30, c_aes_keys_31, c_gcm_keyHigh_32, c_gcm_keyLow_33, c_gcm_sumHigh_34, c_gcm_sumLow_35, c_gcm_tag_36, c_key_37, c_modes_block_38, c_modes_pad_39, c_work_40⟩, hc_, hf⟩ := hf
      refine zcn2 (pc := 96) (rv := (some (.int r_29))) (va_runV (As := [.int v_1]) (rest := []) ⟨hx, hb, hml, hown, hts⟩ (c_X6_gcmRight l D cy tt H.size h0 h0_aes h0_modes h0_gcm h0_sha h0_generator h0_key h0_work h0_aes_keys h0_gcm_tag h0_modes_block h0_modes_pad v_1 c_aes_rounds c_aes_keys c_gcm_keyHigh c_gcm_keyLow c_gcm_sumHigh c_gcm_sumLow c_gcm_tag c_key c_modes_block c_modes_pad c_work r_29 c_aes_rounds_30 c_aes_keys_31 c_gcm_keyHigh_32 c_gcm_keyLow_33 c_gcm_sumHigh_34 c_gcm_sumLow_35 c_gcm_tag_36 c_key_37 c_modes_block_38 c_modes_pad_39 c_work_40 hc_) (cwV 1 hts gX6_comesRight_X6_gcmRight rfl rfl rfl (by decide +kernel) ⟨Nat.le_of_ble_eq_true rfl, Nat.le_of_ble_eq_true rfl⟩) ⟨zblind, va_recv hK hP (ci := 8) (q0 := 0) rfl rfl, zpre hE hS (hP.sub [0, 1, 2, 3, 4, 9, 10, 11, 12, 17] rfl) (hD.sub [0, 1, 2, 3, 4, 9, 10, 11, 12, 17] (by decide) rfl) (va_free hD hS hA [0, 1, 2, 3, 4, 9, 10, 11, 12, 17] rfl)⟩ rfl rfl hl.1 rfl (lv_room (Nat.le_of_ble_eq_true rfl)) (zdt_at zt_X6_comesRight_0 30 rfl) ⟨Nat.zero_le _, Nat.zero_le _⟩) hS hP hD (va_free hD hS hA [0, 1, 2, 3, 4, 9, 10, 11, 12, 17] rfl) [0, 1, 2, 3, 4, 9, 10, 11, 12, 17] rfl (by decide) rfl ?_
      clear hP hD hS hc_
      intro H locs hP hD hS
      replace hP : va_P D vwCl ([(h0, .inr (8, [.ref h0_aes, .ref h0_modes, .ref h0_gcm, .ref h0_sha, .ref h0_generator, .ref h0_key, .ref h0_work])), (h0_aes, .inr (2, [.ref h0_aes_keys, .int c_aes_rounds_30])), (h0_aes_keys, .inl (cy 1, 60, .inl c_aes_keys_31)), (h0_gcm, .inr (4, [.ref h0_aes, .ref h0_modes, .ref h0_gcm_tag, .long c_gcm_keyHigh_32, .long c_gcm_keyLow_33, .long c_gcm_sumHigh_34, .long c_gcm_sumLow_35])), (h0_gcm_tag, .inl (cy 0, 16, .inl c_gcm_tag_36)), (h0_generator, .inr (5, [.ref h0_sha, .ref h0_generator_key, .ref h0_generator_value, .ref h0_generator_message, .int c_generator_begun, .int c_generator_requests])), (h0_generator_key, .inl (cy 0, 32, .inl c_generator_key)), (h0_generator_message, .inl (cy 0, 97, .inl c_generator_message)), (h0_generator_value, .inl (cy 0, 32, .inl c_generator_value)), (h0_key, .inl (cy 0, 32, .inl c_key_37)), (h0_modes, .inr (6, [.ref h0_aes, .ref h0_modes_block, .ref h0_modes_pad])), (h0_modes_block, .inl (cy 0, 16, .inl c_modes_block_38)), (h0_modes_pad, .inl (cy 0, 16, .inl c_modes_pad_39)), (h0_sha, .inr (9, [.ref h0_sha_sums, .ref h0_sha_schedule, .ref h0_sha_inner, .int c_sha_filled, .int c_sha_total])), (h0_sha_inner, .inl (cy 0, 32, .inl c_sha_inner)), (h0_sha_schedule, .inl (cy 1, 64, .inl c_sha_schedule)), (h0_sha_sums, .inl (cy 1, 8, .inl c_sha_sums)), (h0_work, .inl (cy 0, 64, .inl c_work_40))]) H := hP
      replace hD : va_D A ([(h0, .inr (8, [.ref h0_aes, .ref h0_modes, .ref h0_gcm, .ref h0_sha, .ref h0_generator, .ref h0_key, .ref h0_work])), (h0_aes, .inr (2, [.ref h0_aes_keys, .int c_aes_rounds_30])), (h0_aes_keys, .inl (cy 1, 60, .inl c_aes_keys_31)), (h0_gcm, .inr (4, [.ref h0_aes, .ref h0_modes, .ref h0_gcm_tag, .long c_gcm_keyHigh_32, .long c_gcm_keyLow_33, .long c_gcm_sumHigh_34, .long c_gcm_sumLow_35])), (h0_gcm_tag, .inl (cy 0, 16, .inl c_gcm_tag_36)), (h0_generator, .inr (5, [.ref h0_sha, .ref h0_generator_key, .ref h0_generator_value, .ref h0_generator_message, .int c_generator_begun, .int c_generator_requests])), (h0_generator_key, .inl (cy 0, 32, .inl c_generator_key)), (h0_generator_message, .inl (cy 0, 97, .inl c_generator_message)), (h0_generator_value, .inl (cy 0, 32, .inl c_generator_value)), (h0_key, .inl (cy 0, 32, .inl c_key_37)), (h0_modes, .inr (6, [.ref h0_aes, .ref h0_modes_block, .ref h0_modes_pad])), (h0_modes_block, .inl (cy 0, 16, .inl c_modes_block_38)), (h0_modes_pad, .inl (cy 0, 16, .inl c_modes_pad_39)), (h0_sha, .inr (9, [.ref h0_sha_sums, .ref h0_sha_schedule, .ref h0_sha_inner, .int c_sha_filled, .int c_sha_total])), (h0_sha_inner, .inl (cy 0, 32, .inl c_sha_inner)), (h0_sha_schedule, .inl (cy 1, 64, .inl c_sha_schedule)), (h0_sha_sums, .inl (cy 1, 8, .inl c_sha_sums)), (h0_work, .inl (cy 0, 64, .inl c_work_40))]) := hD
      refine W.eq (g2 := F0 m 99 ls [.int r_29]) rfl ?_
      replace hf := zk_s hf
      have hv_ := hf.1
      replace hf := hf.2
      cases hf
      exact W.zret (pc := 99) hx hb hr (zz_nar hv_) (fun t ht hW => ⟨rfl, ⟨by rw [ht]; exact hP, hD⟩, hS.F ht⟩) hS.2.2 (zdt_at zt_X6_comesRight_0 31 rfl)
    replace hf := ze_s hs_41 hf
    by_cases hs_60 : p1 = (5 : Int32)
    · replace hf := zt_s hs_60 hf
      refine lv_tableIn (pc := 11) (tgt := 100) (off := 89) hx hb (zdt_at zt_X6_comesRight_0 7 rfl) (by rw [hs_60]; decide) (by rw [hs_60]; decide) (by rw [hs_60]; rfl) (by decide) ?_
      clear hs_60
      refine lv_aload_n (pc := 100) hx hb (zdt_at zt_X6_comesRight_0 32 rfl) rfl (lv_at hl 1 rfl) ?_
      refine lv_iconst (pc := 101) (v := (0 : Int32)) hx hb (zdt_at zt_X6_comesRight_0 33 rfl) (by decide) ?_
      refine va_gets (pc := 102) hx hb (gT_15 hE.2.2).1 hS hown hw2 (fun _ h9 => h9) (zdt_at zt_X6_comesRight_0 34 rfl) ?_
      refine lv_iconst (pc := 105) (v := (0 : Int32)) hx hb (zdt_at zt_X6_comesRight_0 35 rfl) (by decide) ?_
      replace hf := zb_s hf
      obtain ⟨⟨r_42, c_aes_rounds_43, c_aes_keys_44, c_key_45, c_modes_block_46, c_modes_pad_47, c_work_48⟩, hc_, hf⟩ := hf
      refine zcn2 (pc := 106) (rv := (some (.int r_42))) (va_runV (As := [.int (0 : Int32), .ref (tt 15), .int (0 : Int32)]) (rest := []) ⟨hx, hb, hml, hown, hts⟩ (c_X6_cmacRight l D cy tt H.size h0 h0_aes h0_modes h0_gcm h0_sha h0_generator h0_key h0_work h0_aes_keys h0_modes_block h0_modes_pad (0 : Int32) 15 (fun j => tb_CMAC_OF_NOTHING.getD j 0) 2 (0 : Int32) c_aes_rounds c_aes_keys c_key c_modes_block c_modes_pad c_work _ _ _ r_42 c_aes_rounds_43 c_aes_keys_44 c_key_45 c_modes_block_46 c_modes_pad_47 c_work_48 rfl hc_) (cwV 3 hts gX6_comesRight_X6_cmacRight rfl rfl rfl (by decide +kernel) ⟨Nat.le_of_ble_eq_true rfl, Nat.le_of_ble_eq_true rfl⟩) ⟨zblind, va_recv hK hP (ci := 8) (q0 := 0) rfl rfl, zpre hE hS (hP.sub [0, 1, 2, 9, 10, 11, 12, 17] rfl) (hD.sub [0, 1, 2, 9, 10, 11, 12, 17] (by decide) rfl) (va_free hD hS hA [0, 1, 2, 9, 10, 11, 12, 17] rfl)⟩ rfl rfl hl.1 rfl (lv_room (Nat.le_of_ble_eq_true rfl)) (zdt_at zt_X6_comesRight_0 36 rfl) ⟨Nat.zero_le _, Nat.zero_le _⟩) hS hP hD (va_free hD hS hA [0, 1, 2, 9, 10, 11, 12, 17] rfl) [0, 1, 2, 9, 10, 11, 12, 17] rfl (by decide) rfl ?_
      clear hP hD hS hc_
      intro H locs hP hD hS
      replace hP : va_P D vwCl ([(h0, .inr (8, [.ref h0_aes, .ref h0_modes, .ref h0_gcm, .ref h0_sha, .ref h0_generator, .ref h0_key, .ref h0_work])), (h0_aes, .inr (2, [.ref h0_aes_keys, .int c_aes_rounds_43])), (h0_aes_keys, .inl (cy 1, 60, .inl c_aes_keys_44)), (h0_gcm, .inr (4, [.ref h0_aes, .ref h0_modes, .ref h0_gcm_tag, .long c_gcm_keyHigh, .long c_gcm_keyLow, .long c_gcm_sumHigh, .long c_gcm_sumLow])), (h0_gcm_tag, .inl (cy 0, 16, .inl c_gcm_tag)), (h0_generator, .inr (5, [.ref h0_sha, .ref h0_generator_key, .ref h0_generator_value, .ref h0_generator_message, .int c_generator_begun, .int c_generator_requests])), (h0_generator_key, .inl (cy 0, 32, .inl c_generator_key)), (h0_generator_message, .inl (cy 0, 97, .inl c_generator_message)), (h0_generator_value, .inl (cy 0, 32, .inl c_generator_value)), (h0_key, .inl (cy 0, 32, .inl c_key_45)), (h0_modes, .inr (6, [.ref h0_aes, .ref h0_modes_block, .ref h0_modes_pad])), (h0_modes_block, .inl (cy 0, 16, .inl c_modes_block_46)), (h0_modes_pad, .inl (cy 0, 16, .inl c_modes_pad_47)), (h0_sha, .inr (9, [.ref h0_sha_sums, .ref h0_sha_schedule, .ref h0_sha_inner, .int c_sha_filled, .int c_sha_total])), (h0_sha_inner, .inl (cy 0, 32, .inl c_sha_inner)), (h0_sha_schedule, .inl (cy 1, 64, .inl c_sha_schedule)), (h0_sha_sums, .inl (cy 1, 8, .inl c_sha_sums)), (h0_work, .inl (cy 0, 64, .inl c_work_48))]) H := hP
      replace hD : va_D A ([(h0, .inr (8, [.ref h0_aes, .ref h0_modes, .ref h0_gcm, .ref h0_sha, .ref h0_generator, .ref h0_key, .ref h0_work])), (h0_aes, .inr (2, [.ref h0_aes_keys, .int c_aes_rounds_43])), (h0_aes_keys, .inl (cy 1, 60, .inl c_aes_keys_44)), (h0_gcm, .inr (4, [.ref h0_aes, .ref h0_modes, .ref h0_gcm_tag, .long c_gcm_keyHigh, .long c_gcm_keyLow, .long c_gcm_sumHigh, .long c_gcm_sumLow])), (h0_gcm_tag, .inl (cy 0, 16, .inl c_gcm_tag)), (h0_generator, .inr (5, [.ref h0_sha, .ref h0_generator_key, .ref h0_generator_value, .ref h0_generator_message, .int c_generator_begun, .int c_generator_requests])), (h0_generator_key, .inl (cy 0, 32, .inl c_generator_key)), (h0_generator_message, .inl (cy 0, 97, .inl c_generator_message)), (h0_generator_value, .inl (cy 0, 32, .inl c_generator_value)), (h0_key, .inl (cy 0, 32, .inl c_key_45)), (h0_modes, .inr (6, [.ref h0_aes, .ref h0_modes_block, .ref h0_modes_pad])), (h0_modes_block, .inl (cy 0, 16, .inl c_modes_block_46)), (h0_modes_pad, .inl (cy 0, 16, .inl c_modes_pad_47)), (h0_sha, .inr (9, [.ref h0_sha_sums, .ref h0_sha_schedule, .ref h0_sha_inner, .int c_sha_filled, .int c_sha_total])), (h0_sha_inner, .inl (cy 0, 32, .inl c_sha_inner)), (h0_sha_schedule, .inl (cy 1, 64, .inl c_sha_schedule)), (h0_sha_sums, .inl (cy 1, 8, .inl c_sha_sums)), (h0_work, .inl (cy 0, 64, .inl c_work_48))]) := hD
      refine W.eq (g2 := F0 m 109 ls [.int r_42]) rfl ?_
      refine lv_if_eq (pc := 109) (tgt := 129) hx hb (zdt_at zt_X6_comesRight_0 37 rfl) (by decide) (fun cn_ => ?t_49) (fun cn_ => ?f_50)
      case t_49 =>
        replace hf := zt_s cn_ hf
        clear cn_
        refine lv_iconst (pc := 129) (v := (0 : Int32)) hx hb (zdt_at zt_X6_comesRight_0 46 rfl) (by decide) ?_
        cases hf
        exact W.zret (pc := 130) hx hb hr rfl (fun t ht hW => ⟨rfl, ⟨by rw [ht]; exact hP, hD⟩, hS.F ht⟩) hS.2.2 (zdt_at zt_X6_comesRight_0 47 rfl)
      replace hf := ze_s cn_ hf
      clear cn_
      refine lv_aload_n (pc := 112) hx hb (zdt_at zt_X6_comesRight_0 38 rfl) rfl (lv_at hl 1 rfl) ?_
      refine lv_bipush (pc := 113) (v := (16 : Int32)) hx hb (zdt_at zt_X6_comesRight_0 39 rfl) (by decide) ?_
      refine va_gets (pc := 115) hx hb (gT_16 hE.2.2).1 hS hown hw3 (fun _ h9 => h9) (zdt_at zt_X6_comesRight_0 40 rfl) ?_
      refine lv_iload_n (pc := 118) hx hb (zdt_at zt_X6_comesRight_0 41 rfl) rfl (lv_at hl 0 rfl) ?_
      replace hf := zb_s hf
      obtain ⟨⟨r_51, c_aes_rounds_52, c_aes_keys_53, c_key_54, c_modes_block_55, c_modes_pad_56, c_work_57⟩, hc_, hf⟩ := hf
      refine zcn2 (pc := 119) (rv := (some (.int r_51))) (va_runV (As := [.int (16 : Int32), .ref (tt 16), .int v_1]) (rest := []) ⟨hx, hb, hml, hown, hts⟩ (c_X6_cmacRight l D cy tt H.size h0 h0_aes h0_modes h0_gcm h0_sha h0_generator h0_key h0_work h0_aes_keys h0_modes_block h0_modes_pad (16 : Int32) 16 (fun j => tb_CMAC_OF_BLOCK.getD j 0) 2 v_1 c_aes_rounds_43 c_aes_keys_44 c_key_45 c_modes_block_46 c_modes_pad_47 c_work_48 _ _ _ r_51 c_aes_rounds_52 c_aes_keys_53 c_key_54 c_modes_block_55 c_modes_pad_56 c_work_57 rfl hc_) (cwV 3 hts gX6_comesRight_X6_cmacRight rfl rfl rfl (by decide +kernel) ⟨Nat.le_of_ble_eq_true rfl, Nat.le_of_ble_eq_true rfl⟩) ⟨zblind, va_recv hK hP (ci := 8) (q0 := 0) rfl rfl, zpre hE hS (hP.sub [0, 1, 2, 9, 10, 11, 12, 17] rfl) (hD.sub [0, 1, 2, 9, 10, 11, 12, 17] (by decide) rfl) (va_free hD hS hA [0, 1, 2, 9, 10, 11, 12, 17] rfl)⟩ rfl rfl hl.1 rfl (lv_room (Nat.le_of_ble_eq_true rfl)) (zdt_at zt_X6_comesRight_0 42 rfl) ⟨Nat.zero_le _, Nat.zero_le _⟩) hS hP hD (va_free hD hS hA [0, 1, 2, 9, 10, 11, 12, 17] rfl) [0, 1, 2, 9, 10, 11, 12, 17] rfl (by decide) rfl ?_
      clear hP hD hS hc_
      intro H locs hP hD hS
      replace hP : va_P D vwCl ([(h0, .inr (8, [.ref h0_aes, .ref h0_modes, .ref h0_gcm, .ref h0_sha, .ref h0_generator, .ref h0_key, .ref h0_work])), (h0_aes, .inr (2, [.ref h0_aes_keys, .int c_aes_rounds_52])), (h0_aes_keys, .inl (cy 1, 60, .inl c_aes_keys_53)), (h0_gcm, .inr (4, [.ref h0_aes, .ref h0_modes, .ref h0_gcm_tag, .long c_gcm_keyHigh, .long c_gcm_keyLow, .long c_gcm_sumHigh, .long c_gcm_sumLow])), (h0_gcm_tag, .inl (cy 0, 16, .inl c_gcm_tag)), (h0_generator, .inr (5, [.ref h0_sha, .ref h0_generator_key, .ref h0_generator_value, .ref h0_generator_message, .int c_generator_begun, .int c_generator_requests])), (h0_generator_key, .inl (cy 0, 32, .inl c_generator_key)), (h0_generator_message, .inl (cy 0, 97, .inl c_generator_message)), (h0_generator_value, .inl (cy 0, 32, .inl c_generator_value)), (h0_key, .inl (cy 0, 32, .inl c_key_54)), (h0_modes, .inr (6, [.ref h0_aes, .ref h0_modes_block, .ref h0_modes_pad])), (h0_modes_block, .inl (cy 0, 16, .inl c_modes_block_55)), (h0_modes_pad, .inl (cy 0, 16, .inl c_modes_pad_56)), (h0_sha, .inr (9, [.ref h0_sha_sums, .ref h0_sha_schedule, .ref h0_sha_inner, .int c_sha_filled, .int c_sha_total])), (h0_sha_inner, .inl (cy 0, 32, .inl c_sha_inner)), (h0_sha_schedule, .inl (cy 1, 64, .inl c_sha_schedule)), (h0_sha_sums, .inl (cy 1, 8, .inl c_sha_sums)), (h0_work, .inl (cy 0, 64, .inl c_work_57))]) H := hP
      replace hD : va_D A ([(h0, .inr (8, [.ref h0_aes, .ref h0_modes, .ref h0_gcm, .ref h0_sha, .ref h0_generator, .ref h0_key, .ref h0_work])), (h0_aes, .inr (2, [.ref h0_aes_keys, .int c_aes_rounds_52])), (h0_aes_keys, .inl (cy 1, 60, .inl c_aes_keys_53)), (h0_gcm, .inr (4, [.ref h0_aes, .ref h0_modes, .ref h0_gcm_tag, .long c_gcm_keyHigh, .long c_gcm_keyLow, .long c_gcm_sumHigh, .long c_gcm_sumLow])), (h0_gcm_tag, .inl (cy 0, 16, .inl c_gcm_tag)), (h0_generator, .inr (5, [.ref h0_sha, .ref h0_generator_key, .ref h0_generator_value, .ref h0_generator_message, .int c_generator_begun, .int c_generator_requests])), (h0_generator_key, .inl (cy 0, 32, .inl c_generator_key)), (h0_generator_message, .inl (cy 0, 97, .inl c_generator_message)), (h0_generator_value, .inl (cy 0, 32, .inl c_generator_value)), (h0_key, .inl (cy 0, 32, .inl c_key_54)), (h0_modes, .inr (6, [.ref h0_aes, .ref h0_modes_block, .ref h0_modes_pad])), (h0_modes_block, .inl (cy 0, 16, .inl c_modes_block_55)), (h0_modes_pad, .inl (cy 0, 16, .inl c_modes_pad_56)), (h0_sha, .inr (9, [.ref h0_sha_sums, .ref h0_sha_schedule, .ref h0_sha_inner, .int c_sha_filled, .int c_sha_total])), (h0_sha_inner, .inl (cy 0, 32, .inl c_sha_inner)), (h0_sha_schedule, .inl (cy 1, 64, .inl c_sha_schedule)), (h0_sha_sums, .inl (cy 1, 8, .inl c_sha_sums)), (h0_work, .inl (cy 0, 64, .inl c_work_57))]) := hD
      refine W.eq (g2 := F0 m 122 ls [.int r_51]) rfl ?_
      refine lv_if_eq (pc := 122) (tgt := 129) hx hb (zdt_at zt_X6_comesRight_0 43 rfl) (by decide) (fun cn_ => ?t_58) (fun cn_ => ?f_59)
      case t_58 =>
        replace hf := zt_s cn_ hf
        clear cn_
        refine lv_iconst (pc := 129) (v := (0 : Int32)) hx hb (zdt_at zt_X6_comesRight_0 46 rfl) (by decide) ?_
        cases hf
        exact W.zret (pc := 130) hx hb hr rfl (fun t ht hW => ⟨rfl, ⟨by rw [ht]; exact hP, hD⟩, hS.F ht⟩) hS.2.2 (zdt_at zt_X6_comesRight_0 47 rfl)
      replace hf := ze_s cn_ hf
      clear cn_
      refine lv_iconst (pc := 125) (v := (1 : Int32)) hx hb (zdt_at zt_X6_comesRight_0 44 rfl) (by decide) ?_
      refine lv_goto (pc := 126) (tgt := 130) hx hb (zdt_at zt_X6_comesRight_0 45 rfl) (by decide) ?_
      cases hf
      exact W.zret (pc := 130) hx hb hr rfl (fun t ht hW => ⟨rfl, ⟨by rw [ht]; exact hP, hD⟩, hS.F ht⟩) hS.2.2 (zdt_at zt_X6_comesRight_0 47 rfl)
    replace hf := ze_s hs_60 hf
    by_cases hs_67 : p1 = (6 : Int32)
    · replace hf := zt_s hs_67 hf
      refine lv_tableIn (pc := 11) (tgt := 131) (off := 120) hx hb (zdt_at zt_X6_comesRight_0 7 rfl) (by rw [hs_67]; decide) (by rw [hs_67]; decide) (by rw [hs_67]; rfl) (by decide) ?_
      clear hs_67
      refine lv_aload_n (pc := 131) hx hb (zdt_at zt_X6_comesRight_0 48 rfl) rfl (lv_at hl 1 rfl) ?_
      refine lv_iload_n (pc := 132) hx hb (zdt_at zt_X6_comesRight_0 49 rfl) rfl (lv_at hl 0 rfl) ?_
      replace hf := zb_s hf
      obtain ⟨⟨r_61, c_sha_filled_62, c_sha_total_63, c_sha_schedule_64, c_sha_sums_65, c_work_66⟩, hc_, hf⟩ := hf
      refine zcn2 (pc := 133) (rv := (some (.int r_61))) (va_runV (As := [.int v_1]) (rest := []) ⟨hx, hb, hml, hown, hts⟩ (c_X6_shaRight l D cy tt H.size h0 h0_aes h0_modes h0_gcm h0_sha h0_generator h0_key h0_work h0_sha_sums h0_sha_schedule h0_sha_inner v_1 c_sha_filled c_sha_total c_sha_schedule c_sha_sums c_work r_61 c_sha_filled_62 c_sha_total_63 c_sha_schedule_64 c_sha_sums_65 c_work_66 hc_) (cwV 1 hts gX6_comesRight_X6_shaRight rfl rfl rfl (by decide +kernel) ⟨Nat.le_of_ble_eq_true rfl, Nat.le_of_ble_eq_true rfl⟩) ⟨zblind, va_recv hK hP (ci := 8) (q0 := 0) rfl rfl, zpre hE hS (hP.sub [0, 13, 15, 16, 17] rfl) (hD.sub [0, 13, 15, 16, 17] (by decide) rfl) (va_free hD hS hA [0, 13, 15, 16, 17] rfl)⟩ rfl rfl hl.1 rfl (lv_room (Nat.le_of_ble_eq_true rfl)) (zdt_at zt_X6_comesRight_0 50 rfl) ⟨Nat.zero_le _, Nat.zero_le _⟩) hS hP hD (va_free hD hS hA [0, 13, 15, 16, 17] rfl) [0, 13, 15, 16, 17] rfl (by decide) rfl ?_
      clear hP hD hS hc_
      intro H locs hP hD hS
      replace hP : va_P D vwCl ([(h0, .inr (8, [.ref h0_aes, .ref h0_modes, .ref h0_gcm, .ref h0_sha, .ref h0_generator, .ref h0_key, .ref h0_work])), (h0_aes, .inr (2, [.ref h0_aes_keys, .int c_aes_rounds])), (h0_aes_keys, .inl (cy 1, 60, .inl c_aes_keys)), (h0_gcm, .inr (4, [.ref h0_aes, .ref h0_modes, .ref h0_gcm_tag, .long c_gcm_keyHigh, .long c_gcm_keyLow, .long c_gcm_sumHigh, .long c_gcm_sumLow])), (h0_gcm_tag, .inl (cy 0, 16, .inl c_gcm_tag)), (h0_generator, .inr (5, [.ref h0_sha, .ref h0_generator_key, .ref h0_generator_value, .ref h0_generator_message, .int c_generator_begun, .int c_generator_requests])), (h0_generator_key, .inl (cy 0, 32, .inl c_generator_key)), (h0_generator_message, .inl (cy 0, 97, .inl c_generator_message)), (h0_generator_value, .inl (cy 0, 32, .inl c_generator_value)), (h0_key, .inl (cy 0, 32, .inl c_key)), (h0_modes, .inr (6, [.ref h0_aes, .ref h0_modes_block, .ref h0_modes_pad])), (h0_modes_block, .inl (cy 0, 16, .inl c_modes_block)), (h0_modes_pad, .inl (cy 0, 16, .inl c_modes_pad)), (h0_sha, .inr (9, [.ref h0_sha_sums, .ref h0_sha_schedule, .ref h0_sha_inner, .int c_sha_filled_62, .int c_sha_total_63])), (h0_sha_inner, .inl (cy 0, 32, .inl c_sha_inner)), (h0_sha_schedule, .inl (cy 1, 64, .inl c_sha_schedule_64)), (h0_sha_sums, .inl (cy 1, 8, .inl c_sha_sums_65)), (h0_work, .inl (cy 0, 64, .inl c_work_66))]) H := hP
      replace hD : va_D A ([(h0, .inr (8, [.ref h0_aes, .ref h0_modes, .ref h0_gcm, .ref h0_sha, .ref h0_generator, .ref h0_key, .ref h0_work])), (h0_aes, .inr (2, [.ref h0_aes_keys, .int c_aes_rounds])), (h0_aes_keys, .inl (cy 1, 60, .inl c_aes_keys)), (h0_gcm, .inr (4, [.ref h0_aes, .ref h0_modes, .ref h0_gcm_tag, .long c_gcm_keyHigh, .long c_gcm_keyLow, .long c_gcm_sumHigh, .long c_gcm_sumLow])), (h0_gcm_tag, .inl (cy 0, 16, .inl c_gcm_tag)), (h0_generator, .inr (5, [.ref h0_sha, .ref h0_generator_key, .ref h0_generator_value, .ref h0_generator_message, .int c_generator_begun, .int c_generator_requests])), (h0_generator_key, .inl (cy 0, 32, .inl c_generator_key)), (h0_generator_message, .inl (cy 0, 97, .inl c_generator_message)), (h0_generator_value, .inl (cy 0, 32, .inl c_generator_value)), (h0_key, .inl (cy 0, 32, .inl c_key)), (h0_modes, .inr (6, [.ref h0_aes, .ref h0_modes_block, .ref h0_modes_pad])), (h0_modes_block, .inl (cy 0, 16, .inl c_modes_block)), (h0_modes_pad, .inl (cy 0, 16, .inl c_modes_pad)), (h0_sha, .inr (9, [.ref h0_sha_sums, .ref h0_sha_schedule, .ref h0_sha_inner, .int c_sha_filled_62, .int c_sha_total_63])), (h0_sha_inner, .inl (cy 0, 32, .inl c_sha_inner)), (h0_sha_schedule, .inl (cy 1, 64, .inl c_sha_schedule_64)), (h0_sha_sums, .inl (cy 1, 8, .inl c_sha_sums_65)), (h0_work, .inl (cy 0, 64, .inl c_work_66))]) := hD
      refine W.eq (g2 := F0 m 136 ls [.int r_61]) rfl ?_
      replace hf := zk_s hf
      have hv_ := hf.1
      replace hf := hf.2
      cases hf
      exact W.zret (pc := 136) hx hb hr (zz_nar hv_) (fun t ht hW => ⟨rfl, ⟨by rw [ht]; exact hP, hD⟩, hS.F ht⟩) hS.2.2 (zdt_at zt_X6_comesRight_0 51 rfl)
    replace hf := ze_s hs_67 hf
    by_cases hs_76 : p1 = (7 : Int32)
    · replace hf := zt_s hs_76 hf
      refine lv_tableIn (pc := 11) (tgt := 137) (off := 126) hx hb (zdt_at zt_X6_comesRight_0 7 rfl) (by rw [hs_76]; decide) (by rw [hs_76]; decide) (by rw [hs_76]; rfl) (by decide) ?_
      clear hs_76
      refine lv_aload_n (pc := 137) hx hb (zdt_at zt_X6_comesRight_0 52 rfl) rfl (lv_at hl 1 rfl) ?_
      refine lv_iload_n (pc := 138) hx hb (zdt_at zt_X6_comesRight_0 53 rfl) rfl (lv_at hl 0 rfl) ?_
      replace hf := zb_s hf
      obtain ⟨⟨r_68, c_key_69, c_sha_filled_70, c_sha_total_71, c_sha_inner_72, c_sha_schedule_73, c_sha_sums_74, c_work_75⟩, hc_, hf⟩ := hf
      refine zcn2 (pc := 139) (rv := (some (.int r_68))) (va_runV (As := [.int v_1]) (rest := []) ⟨hx, hb, hml, hown, hts⟩ (c_X6_hmacRight l D cy tt H.size h0 h0_aes h0_modes h0_gcm h0_sha h0_generator h0_key h0_work h0_sha_sums h0_sha_schedule h0_sha_inner v_1 c_key c_sha_filled c_sha_total c_sha_inner c_sha_schedule c_sha_sums c_work r_68 c_key_69 c_sha_filled_70 c_sha_total_71 c_sha_inner_72 c_sha_schedule_73 c_sha_sums_74 c_work_75 hc_) (cwV 1 hts gX6_comesRight_X6_hmacRight rfl rfl rfl (by decide +kernel) ⟨Nat.le_of_ble_eq_true rfl, Nat.le_of_ble_eq_true rfl⟩) ⟨zblind, va_recv hK hP (ci := 8) (q0 := 0) rfl rfl, zpre hE hS (hP.sub [0, 9, 13, 14, 15, 16, 17] rfl) (hD.sub [0, 9, 13, 14, 15, 16, 17] (by decide) rfl) (va_free hD hS hA [0, 9, 13, 14, 15, 16, 17] rfl)⟩ rfl rfl hl.1 rfl (lv_room (Nat.le_of_ble_eq_true rfl)) (zdt_at zt_X6_comesRight_0 54 rfl) ⟨Nat.zero_le _, Nat.zero_le _⟩) hS hP hD (va_free hD hS hA [0, 9, 13, 14, 15, 16, 17] rfl) [0, 9, 13, 14, 15, 16, 17] rfl (by decide) rfl ?_
      clear hP hD hS hc_
      intro H locs hP hD hS
      replace hP : va_P D vwCl ([(h0, .inr (8, [.ref h0_aes, .ref h0_modes, .ref h0_gcm, .ref h0_sha, .ref h0_generator, .ref h0_key, .ref h0_work])), (h0_aes, .inr (2, [.ref h0_aes_keys, .int c_aes_rounds])), (h0_aes_keys, .inl (cy 1, 60, .inl c_aes_keys)), (h0_gcm, .inr (4, [.ref h0_aes, .ref h0_modes, .ref h0_gcm_tag, .long c_gcm_keyHigh, .long c_gcm_keyLow, .long c_gcm_sumHigh, .long c_gcm_sumLow])), (h0_gcm_tag, .inl (cy 0, 16, .inl c_gcm_tag)), (h0_generator, .inr (5, [.ref h0_sha, .ref h0_generator_key, .ref h0_generator_value, .ref h0_generator_message, .int c_generator_begun, .int c_generator_requests])), (h0_generator_key, .inl (cy 0, 32, .inl c_generator_key)), (h0_generator_message, .inl (cy 0, 97, .inl c_generator_message)), (h0_generator_value, .inl (cy 0, 32, .inl c_generator_value)), (h0_key, .inl (cy 0, 32, .inl c_key_69)), (h0_modes, .inr (6, [.ref h0_aes, .ref h0_modes_block, .ref h0_modes_pad])), (h0_modes_block, .inl (cy 0, 16, .inl c_modes_block)), (h0_modes_pad, .inl (cy 0, 16, .inl c_modes_pad)), (h0_sha, .inr (9, [.ref h0_sha_sums, .ref h0_sha_schedule, .ref h0_sha_inner, .int c_sha_filled_70, .int c_sha_total_71])), (h0_sha_inner, .inl (cy 0, 32, .inl c_sha_inner_72)), (h0_sha_schedule, .inl (cy 1, 64, .inl c_sha_schedule_73)), (h0_sha_sums, .inl (cy 1, 8, .inl c_sha_sums_74)), (h0_work, .inl (cy 0, 64, .inl c_work_75))]) H := hP
      replace hD : va_D A ([(h0, .inr (8, [.ref h0_aes, .ref h0_modes, .ref h0_gcm, .ref h0_sha, .ref h0_generator, .ref h0_key, .ref h0_work])), (h0_aes, .inr (2, [.ref h0_aes_keys, .int c_aes_rounds])), (h0_aes_keys, .inl (cy 1, 60, .inl c_aes_keys)), (h0_gcm, .inr (4, [.ref h0_aes, .ref h0_modes, .ref h0_gcm_tag, .long c_gcm_keyHigh, .long c_gcm_keyLow, .long c_gcm_sumHigh, .long c_gcm_sumLow])), (h0_gcm_tag, .inl (cy 0, 16, .inl c_gcm_tag)), (h0_generator, .inr (5, [.ref h0_sha, .ref h0_generator_key, .ref h0_generator_value, .ref h0_generator_message, .int c_generator_begun, .int c_generator_requests])), (h0_generator_key, .inl (cy 0, 32, .inl c_generator_key)), (h0_generator_message, .inl (cy 0, 97, .inl c_generator_message)), (h0_generator_value, .inl (cy 0, 32, .inl c_generator_value)), (h0_key, .inl (cy 0, 32, .inl c_key_69)), (h0_modes, .inr (6, [.ref h0_aes, .ref h0_modes_block, .ref h0_modes_pad])), (h0_modes_block, .inl (cy 0, 16, .inl c_modes_block)), (h0_modes_pad, .inl (cy 0, 16, .inl c_modes_pad)), (h0_sha, .inr (9, [.ref h0_sha_sums, .ref h0_sha_schedule, .ref h0_sha_inner, .int c_sha_filled_70, .int c_sha_total_71])), (h0_sha_inner, .inl (cy 0, 32, .inl c_sha_inner_72)), (h0_sha_schedule, .inl (cy 1, 64, .inl c_sha_schedule_73)), (h0_sha_sums, .inl (cy 1, 8, .inl c_sha_sums_74)), (h0_work, .inl (cy 0, 64, .inl c_work_75))]) := hD
      refine W.eq (g2 := F0 m 142 ls [.int r_68]) rfl ?_
      replace hf := zk_s hf
      have hv_ := hf.1
      replace hf := hf.2
      cases hf
      exact W.zret (pc := 142) hx hb hr (zz_nar hv_) (fun t ht hW => ⟨rfl, ⟨by rw [ht]; exact hP, hD⟩, hS.F ht⟩) hS.2.2 (zdt_at zt_X6_comesRight_0 55 rfl)
    replace hf := ze_s hs_76 hf
    by_cases hs_83 : p1 = (8 : Int32)
    · replace hf := zt_s hs_83 hf
      refine lv_tableIn (pc := 11) (tgt := 143) (off := 132) hx hb (zdt_at zt_X6_comesRight_0 7 rfl) (by rw [hs_83]; decide) (by rw [hs_83]; decide) (by rw [hs_83]; rfl) (by decide) ?_
      clear hs_83
      refine lv_aload_n (pc := 143) hx hb (zdt_at zt_X6_comesRight_0 56 rfl) rfl (lv_at hl 1 rfl) ?_
      refine lv_iload_n (pc := 144) hx hb (zdt_at zt_X6_comesRight_0 57 rfl) rfl (lv_at hl 0 rfl) ?_
      replace hf := zb_s hf
      obtain ⟨⟨r_77, c_aes_rounds_78, c_aes_keys_79, c_key_80, c_modes_block_81, c_work_82⟩, hc_, hf⟩ := hf
      refine zcn2 (pc := 145) (rv := (some (.int r_77))) (va_runV (As := [.int v_1]) (rest := []) ⟨hx, hb, hml, hown, hts⟩ (c_X6_wrapRight l D cy tt H.size h0 h0_aes h0_modes h0_gcm h0_sha h0_generator h0_key h0_work h0_aes_keys h0_modes_block h0_modes_pad v_1 c_aes_rounds c_aes_keys c_key c_modes_block c_work r_77 c_aes_rounds_78 c_aes_keys_79 c_key_80 c_modes_block_81 c_work_82 hc_) (cwV 1 hts gX6_comesRight_X6_wrapRight rfl rfl rfl (by decide +kernel) ⟨Nat.le_of_ble_eq_true rfl, Nat.le_of_ble_eq_true rfl⟩) ⟨zblind, va_recv hK hP (ci := 8) (q0 := 0) rfl rfl, zpre hE hS (hP.sub [0, 1, 2, 9, 10, 11, 17] rfl) (hD.sub [0, 1, 2, 9, 10, 11, 17] (by decide) rfl) (va_free hD hS hA [0, 1, 2, 9, 10, 11, 17] rfl)⟩ rfl rfl hl.1 rfl (lv_room (Nat.le_of_ble_eq_true rfl)) (zdt_at zt_X6_comesRight_0 58 rfl) ⟨Nat.zero_le _, Nat.zero_le _⟩) hS hP hD (va_free hD hS hA [0, 1, 2, 9, 10, 11, 17] rfl) [0, 1, 2, 9, 10, 11, 17] rfl (by decide) rfl ?_
      clear hP hD hS hc_
      intro H locs hP hD hS
      replace hP : va_P D vwCl ([(h0, .inr (8, [.ref h0_aes, .ref h0_modes, .ref h0_gcm, .ref h0_sha, .ref h0_generator, .ref h0_key, .ref h0_work])), (h0_aes, .inr (2, [.ref h0_aes_keys, .int c_aes_rounds_78])), (h0_aes_keys, .inl (cy 1, 60, .inl c_aes_keys_79)), (h0_gcm, .inr (4, [.ref h0_aes, .ref h0_modes, .ref h0_gcm_tag, .long c_gcm_keyHigh, .long c_gcm_keyLow, .long c_gcm_sumHigh, .long c_gcm_sumLow])), (h0_gcm_tag, .inl (cy 0, 16, .inl c_gcm_tag)), (h0_generator, .inr (5, [.ref h0_sha, .ref h0_generator_key, .ref h0_generator_value, .ref h0_generator_message, .int c_generator_begun, .int c_generator_requests])), (h0_generator_key, .inl (cy 0, 32, .inl c_generator_key)), (h0_generator_message, .inl (cy 0, 97, .inl c_generator_message)), (h0_generator_value, .inl (cy 0, 32, .inl c_generator_value)), (h0_key, .inl (cy 0, 32, .inl c_key_80)), (h0_modes, .inr (6, [.ref h0_aes, .ref h0_modes_block, .ref h0_modes_pad])), (h0_modes_block, .inl (cy 0, 16, .inl c_modes_block_81)), (h0_modes_pad, .inl (cy 0, 16, .inl c_modes_pad)), (h0_sha, .inr (9, [.ref h0_sha_sums, .ref h0_sha_schedule, .ref h0_sha_inner, .int c_sha_filled, .int c_sha_total])), (h0_sha_inner, .inl (cy 0, 32, .inl c_sha_inner)), (h0_sha_schedule, .inl (cy 1, 64, .inl c_sha_schedule)), (h0_sha_sums, .inl (cy 1, 8, .inl c_sha_sums)), (h0_work, .inl (cy 0, 64, .inl c_work_82))]) H := hP
      replace hD : va_D A ([(h0, .inr (8, [.ref h0_aes, .ref h0_modes, .ref h0_gcm, .ref h0_sha, .ref h0_generator, .ref h0_key, .ref h0_work])), (h0_aes, .inr (2, [.ref h0_aes_keys, .int c_aes_rounds_78])), (h0_aes_keys, .inl (cy 1, 60, .inl c_aes_keys_79)), (h0_gcm, .inr (4, [.ref h0_aes, .ref h0_modes, .ref h0_gcm_tag, .long c_gcm_keyHigh, .long c_gcm_keyLow, .long c_gcm_sumHigh, .long c_gcm_sumLow])), (h0_gcm_tag, .inl (cy 0, 16, .inl c_gcm_tag)), (h0_generator, .inr (5, [.ref h0_sha, .ref h0_generator_key, .ref h0_generator_value, .ref h0_generator_message, .int c_generator_begun, .int c_generator_requests])), (h0_generator_key, .inl (cy 0, 32, .inl c_generator_key)), (h0_generator_message, .inl (cy 0, 97, .inl c_generator_message)), (h0_generator_value, .inl (cy 0, 32, .inl c_generator_value)), (h0_key, .inl (cy 0, 32, .inl c_key_80)), (h0_modes, .inr (6, [.ref h0_aes, .ref h0_modes_block, .ref h0_modes_pad])), (h0_modes_block, .inl (cy 0, 16, .inl c_modes_block_81)), (h0_modes_pad, .inl (cy 0, 16, .inl c_modes_pad)), (h0_sha, .inr (9, [.ref h0_sha_sums, .ref h0_sha_schedule, .ref h0_sha_inner, .int c_sha_filled, .int c_sha_total])), (h0_sha_inner, .inl (cy 0, 32, .inl c_sha_inner)), (h0_sha_schedule, .inl (cy 1, 64, .inl c_sha_schedule)), (h0_sha_sums, .inl (cy 1, 8, .inl c_sha_sums)), (h0_work, .inl (cy 0, 64, .inl c_work_82))]) := hD
      refine W.eq (g2 := F0 m 148 ls [.int r_77]) rfl ?_
      replace hf := zk_s hf
      have hv_ := hf.1
      replace hf := hf.2
      cases hf
      exact W.zret (pc := 148) hx hb hr (zz_nar hv_) (fun t ht hW => ⟨rfl, ⟨by rw [ht]; exact hP, hD⟩, hS.F ht⟩) hS.2.2 (zdt_at zt_X6_comesRight_0 59 rfl)
    replace hf := ze_s hs_83 hf
    have kd_108 : GW H locs (F0 m 149 ls []) := by
      refine hFr _ _ _ ?_
      refine lv_aload_n (pc := 149) hx hb (zdt_at zt_X6_comesRight_0 60 rfl) rfl (lv_at hl 1 rfl) ?_
      refine lv_iconst (pc := 150) (v := (0 : Int32)) hx hb (zdt_at zt_X6_comesRight_0 61 rfl) (by decide) ?_
      refine lv_aload_n (pc := 151) hx hb (zdt_at zt_X6_comesRight_0 62 rfl) rfl (lv_at hl 1 rfl) ?_
      refine va_get (pc := 152) (D := D) (ci := 8) (v := .ref h0_key) (C := RX6) (T := TX6) (N := 7) hx hb hts hcX6 hown hK hP 0 rfl rfl 5 (by decide) hw4 (fun _ h9 => h9) rfl (zdt_at zt_X6_comesRight_0 63 rfl) ?_
      replace hf := zb_s hf
      obtain ⟨⟨c_generator_begun_84, c_generator_requests_85, c_generator_key_86, c_generator_message_87, c_generator_value_88, c_key_89, c_sha_filled_90, c_sha_total_91, c_sha_inner_92, c_sha_schedule_93, c_sha_sums_94, c_work_95⟩, hc_, hf⟩ := hf
      refine zcn2 (pc := 155) (rv := none) (va_runV (As := [.int (0 : Int32), .ref h0_key]) (rest := []) ⟨hx, hb, hml, hown, hts⟩ (c_X6_drawOnce_2t_key l D cy tt H.size h0 h0_aes h0_modes h0_gcm h0_sha h0_generator h0_key h0_work h0_generator_key h0_generator_value h0_generator_message h0_sha_sums h0_sha_schedule h0_sha_inner (0 : Int32) c_generator_begun c_generator_requests c_generator_key c_generator_message c_generator_value c_key c_sha_filled c_sha_total c_sha_inner c_sha_schedule c_sha_sums c_work c_generator_begun_84 c_generator_requests_85 c_generator_key_86 c_generator_message_87 c_generator_value_88 c_key_89 c_sha_filled_90 c_sha_total_91 c_sha_inner_92 c_sha_schedule_93 c_sha_sums_94 c_work_95 hc_) (cwV 2 hts gX6_comesRight_X6_drawOnce rfl rfl rfl (by decide +kernel) ⟨Nat.le_of_ble_eq_true rfl, Nat.le_of_ble_eq_true rfl⟩) ⟨zblind, va_recv hK hP (ci := 8) (q0 := 0) rfl rfl, zpre hE hS (hP.sub [0, 5, 6, 7, 8, 9, 13, 14, 15, 16, 17] rfl) (hD.sub [0, 5, 6, 7, 8, 9, 13, 14, 15, 16, 17] (by decide) rfl) (va_free hD hS hA [0, 5, 6, 7, 8, 9, 13, 14, 15, 16, 17] rfl)⟩ rfl rfl hl.1 rfl (lv_room (Nat.le_of_ble_eq_true rfl)) (zdt_at zt_X6_comesRight_1 0 rfl) ⟨Nat.zero_le _, Nat.zero_le _⟩) hS hP hD (va_free hD hS hA [0, 5, 6, 7, 8, 9, 13, 14, 15, 16, 17] rfl) [0, 5, 6, 7, 8, 9, 13, 14, 15, 16, 17] rfl (by decide) rfl ?_
      clear hP hD hS hc_
      intro H locs hP hD hS
      replace hP : va_P D vwCl ([(h0, .inr (8, [.ref h0_aes, .ref h0_modes, .ref h0_gcm, .ref h0_sha, .ref h0_generator, .ref h0_key, .ref h0_work])), (h0_aes, .inr (2, [.ref h0_aes_keys, .int c_aes_rounds])), (h0_aes_keys, .inl (cy 1, 60, .inl c_aes_keys)), (h0_gcm, .inr (4, [.ref h0_aes, .ref h0_modes, .ref h0_gcm_tag, .long c_gcm_keyHigh, .long c_gcm_keyLow, .long c_gcm_sumHigh, .long c_gcm_sumLow])), (h0_gcm_tag, .inl (cy 0, 16, .inl c_gcm_tag)), (h0_generator, .inr (5, [.ref h0_sha, .ref h0_generator_key, .ref h0_generator_value, .ref h0_generator_message, .int c_generator_begun_84, .int c_generator_requests_85])), (h0_generator_key, .inl (cy 0, 32, .inl c_generator_key_86)), (h0_generator_message, .inl (cy 0, 97, .inl c_generator_message_87)), (h0_generator_value, .inl (cy 0, 32, .inl c_generator_value_88)), (h0_key, .inl (cy 0, 32, .inl c_key_89)), (h0_modes, .inr (6, [.ref h0_aes, .ref h0_modes_block, .ref h0_modes_pad])), (h0_modes_block, .inl (cy 0, 16, .inl c_modes_block)), (h0_modes_pad, .inl (cy 0, 16, .inl c_modes_pad)), (h0_sha, .inr (9, [.ref h0_sha_sums, .ref h0_sha_schedule, .ref h0_sha_inner, .int c_sha_filled_90, .int c_sha_total_91])), (h0_sha_inner, .inl (cy 0, 32, .inl c_sha_inner_92)), (h0_sha_schedule, .inl (cy 1, 64, .inl c_sha_schedule_93)), (h0_sha_sums, .inl (cy 1, 8, .inl c_sha_sums_94)), (h0_work, .inl (cy 0, 64, .inl c_work_95))]) H := hP
      replace hD : va_D A ([(h0, .inr (8, [.ref h0_aes, .ref h0_modes, .ref h0_gcm, .ref h0_sha, .ref h0_generator, .ref h0_key, .ref h0_work])), (h0_aes, .inr (2, [.ref h0_aes_keys, .int c_aes_rounds])), (h0_aes_keys, .inl (cy 1, 60, .inl c_aes_keys)), (h0_gcm, .inr (4, [.ref h0_aes, .ref h0_modes, .ref h0_gcm_tag, .long c_gcm_keyHigh, .long c_gcm_keyLow, .long c_gcm_sumHigh, .long c_gcm_sumLow])), (h0_gcm_tag, .inl (cy 0, 16, .inl c_gcm_tag)), (h0_generator, .inr (5, [.ref h0_sha, .ref h0_generator_key, .ref h0_generator_value, .ref h0_generator_message, .int c_generator_begun_84, .int c_generator_requests_85])), (h0_generator_key, .inl (cy 0, 32, .inl c_generator_key_86)), (h0_generator_message, .inl (cy 0, 97, .inl c_generator_message_87)), (h0_generator_value, .inl (cy 0, 32, .inl c_generator_value_88)), (h0_key, .inl (cy 0, 32, .inl c_key_89)), (h0_modes, .inr (6, [.ref h0_aes, .ref h0_modes_block, .ref h0_modes_pad])), (h0_modes_block, .inl (cy 0, 16, .inl c_modes_block)), (h0_modes_pad, .inl (cy 0, 16, .inl c_modes_pad)), (h0_sha, .inr (9, [.ref h0_sha_sums, .ref h0_sha_schedule, .ref h0_sha_inner, .int c_sha_filled_90, .int c_sha_total_91])), (h0_sha_inner, .inl (cy 0, 32, .inl c_sha_inner_92)), (h0_sha_schedule, .inl (cy 1, 64, .inl c_sha_schedule_93)), (h0_sha_sums, .inl (cy 1, 8, .inl c_sha_sums_94)), (h0_work, .inl (cy 0, 64, .inl c_work_95))]) := hD
      refine W.eq (g2 := F0 m 158 ls []) rfl ?_
      refine lv_aload_n (pc := 158) hx hb (zdt_at zt_X6_comesRight_1 1 rfl) rfl (lv_at hl 1 rfl) ?_
      refine lv_iload_n (pc := 159) hx hb (zdt_at zt_X6_comesRight_1 2 rfl) rfl (lv_at hl 0 rfl) ?_
      refine lv_aload_n (pc := 160) hx hb (zdt_at zt_X6_comesRight_1 3 rfl) rfl (lv_at hl 1 rfl) ?_
      refine va_get (pc := 161) (D := D) (ci := 8) (v := .ref h0_work) (C := RX6) (T := TX6) (N := 7) hx hb hts hcX6 hown hK hP 0 rfl rfl 6 (by decide) hw5 (fun _ h9 => h9) rfl (zdt_at zt_X6_comesRight_1 4 rfl) ?_
      replace hf := zb_s hf
      obtain ⟨⟨c_generator_begun_96, c_generator_requests_97, c_generator_key_98, c_generator_message_99, c_generator_value_100, c_sha_filled_101, c_sha_total_102, c_sha_inner_103, c_sha_schedule_104, c_sha_sums_105, c_work_106⟩, hc_, hf⟩ := hf
      refine zcn2 (pc := 164) (rv := none) (va_runV (As := [.int v_1, .ref h0_work]) (rest := []) ⟨hx, hb, hml, hown, hts⟩ (c_X6_drawOnce_2t_work l D cy tt H.size h0 h0_aes h0_modes h0_gcm h0_sha h0_generator h0_key h0_work h0_generator_key h0_generator_value h0_generator_message h0_sha_sums h0_sha_schedule h0_sha_inner v_1 c_generator_begun_84 c_generator_requests_85 c_generator_key_86 c_generator_message_87 c_generator_value_88 c_sha_filled_90 c_sha_total_91 c_sha_inner_92 c_sha_schedule_93 c_sha_sums_94 c_work_95 c_generator_begun_96 c_generator_requests_97 c_generator_key_98 c_generator_message_99 c_generator_value_100 c_sha_filled_101 c_sha_total_102 c_sha_inner_103 c_sha_schedule_104 c_sha_sums_105 c_work_106 hc_) (cwV 2 hts gX6_comesRight_X6_drawOnce rfl rfl rfl (by decide +kernel) ⟨Nat.le_of_ble_eq_true rfl, Nat.le_of_ble_eq_true rfl⟩) ⟨zblind, va_recv hK hP (ci := 8) (q0 := 0) rfl rfl, zpre hE hS (hP.sub [0, 5, 6, 7, 8, 13, 14, 15, 16, 17] rfl) (hD.sub [0, 5, 6, 7, 8, 13, 14, 15, 16, 17] (by decide) rfl) (va_free hD hS hA [0, 5, 6, 7, 8, 13, 14, 15, 16, 17] rfl)⟩ rfl rfl hl.1 rfl (lv_room (Nat.le_of_ble_eq_true rfl)) (zdt_at zt_X6_comesRight_1 5 rfl) ⟨Nat.zero_le _, Nat.zero_le _⟩) hS hP hD (va_free hD hS hA [0, 5, 6, 7, 8, 13, 14, 15, 16, 17] rfl) [0, 5, 6, 7, 8, 13, 14, 15, 16, 17] rfl (by decide) rfl ?_
      clear hP hD hS hc_
      intro H locs hP hD hS
      replace hP : va_P D vwCl ([(h0, .inr (8, [.ref h0_aes, .ref h0_modes, .ref h0_gcm, .ref h0_sha, .ref h0_generator, .ref h0_key, .ref h0_work])), (h0_aes, .inr (2, [.ref h0_aes_keys, .int c_aes_rounds])), (h0_aes_keys, .inl (cy 1, 60, .inl c_aes_keys)), (h0_gcm, .inr (4, [.ref h0_aes, .ref h0_modes, .ref h0_gcm_tag, .long c_gcm_keyHigh, .long c_gcm_keyLow, .long c_gcm_sumHigh, .long c_gcm_sumLow])), (h0_gcm_tag, .inl (cy 0, 16, .inl c_gcm_tag)), (h0_generator, .inr (5, [.ref h0_sha, .ref h0_generator_key, .ref h0_generator_value, .ref h0_generator_message, .int c_generator_begun_96, .int c_generator_requests_97])), (h0_generator_key, .inl (cy 0, 32, .inl c_generator_key_98)), (h0_generator_message, .inl (cy 0, 97, .inl c_generator_message_99)), (h0_generator_value, .inl (cy 0, 32, .inl c_generator_value_100)), (h0_key, .inl (cy 0, 32, .inl c_key_89)), (h0_modes, .inr (6, [.ref h0_aes, .ref h0_modes_block, .ref h0_modes_pad])), (h0_modes_block, .inl (cy 0, 16, .inl c_modes_block)), (h0_modes_pad, .inl (cy 0, 16, .inl c_modes_pad)), (h0_sha, .inr (9, [.ref h0_sha_sums, .ref h0_sha_schedule, .ref h0_sha_inner, .int c_sha_filled_101, .int c_sha_total_102])), (h0_sha_inner, .inl (cy 0, 32, .inl c_sha_inner_103)), (h0_sha_schedule, .inl (cy 1, 64, .inl c_sha_schedule_104)), (h0_sha_sums, .inl (cy 1, 8, .inl c_sha_sums_105)), (h0_work, .inl (cy 0, 64, .inl c_work_106))]) H := hP
      replace hD : va_D A ([(h0, .inr (8, [.ref h0_aes, .ref h0_modes, .ref h0_gcm, .ref h0_sha, .ref h0_generator, .ref h0_key, .ref h0_work])), (h0_aes, .inr (2, [.ref h0_aes_keys, .int c_aes_rounds])), (h0_aes_keys, .inl (cy 1, 60, .inl c_aes_keys)), (h0_gcm, .inr (4, [.ref h0_aes, .ref h0_modes, .ref h0_gcm_tag, .long c_gcm_keyHigh, .long c_gcm_keyLow, .long c_gcm_sumHigh, .long c_gcm_sumLow])), (h0_gcm_tag, .inl (cy 0, 16, .inl c_gcm_tag)), (h0_generator, .inr (5, [.ref h0_sha, .ref h0_generator_key, .ref h0_generator_value, .ref h0_generator_message, .int c_generator_begun_96, .int c_generator_requests_97])), (h0_generator_key, .inl (cy 0, 32, .inl c_generator_key_98)), (h0_generator_message, .inl (cy 0, 97, .inl c_generator_message_99)), (h0_generator_value, .inl (cy 0, 32, .inl c_generator_value_100)), (h0_key, .inl (cy 0, 32, .inl c_key_89)), (h0_modes, .inr (6, [.ref h0_aes, .ref h0_modes_block, .ref h0_modes_pad])), (h0_modes_block, .inl (cy 0, 16, .inl c_modes_block)), (h0_modes_pad, .inl (cy 0, 16, .inl c_modes_pad)), (h0_sha, .inr (9, [.ref h0_sha_sums, .ref h0_sha_schedule, .ref h0_sha_inner, .int c_sha_filled_101, .int c_sha_total_102])), (h0_sha_inner, .inl (cy 0, 32, .inl c_sha_inner_103)), (h0_sha_schedule, .inl (cy 1, 64, .inl c_sha_schedule_104)), (h0_sha_sums, .inl (cy 1, 8, .inl c_sha_sums_105)), (h0_work, .inl (cy 0, 64, .inl c_work_106))]) := hD
      refine W.eq (g2 := F0 m 167 ls []) rfl ?_
      refine lv_aload_n (pc := 167) hx hb (zdt_at zt_X6_comesRight_1 6 rfl) rfl (lv_at hl 1 rfl) ?_
      refine va_get (pc := 168) (D := D) (ci := 8) (v := .ref h0_key) (C := RX6) (T := TX6) (N := 7) hx hb hts hcX6 hown hK hP 0 rfl rfl 5 (by decide) hw4 (fun _ h9 => h9) rfl (zdt_at zt_X6_comesRight_1 7 rfl) ?_
      refine lv_iconst (pc := 171) (v := (0 : Int32)) hx hb (zdt_at zt_X6_comesRight_1 8 rfl) (by decide) ?_
      refine lv_aload_n (pc := 172) hx hb (zdt_at zt_X6_comesRight_1 9 rfl) rfl (lv_at hl 1 rfl) ?_
      refine va_get (pc := 173) (D := D) (ci := 8) (v := .ref h0_work) (C := RX6) (T := TX6) (N := 7) hx hb hts hcX6 hown hK hP 0 rfl rfl 6 (by decide) hw5 (fun _ h9 => h9) rfl (zdt_at zt_X6_comesRight_1 10 rfl) ?_
      refine lv_iconst (pc := 176) (v := (0 : Int32)) hx hb (zdt_at zt_X6_comesRight_1 11 rfl) (by decide) ?_
      refine lv_bipush (pc := 177) (v := (32 : Int32)) hx hb (zdt_at zt_X6_comesRight_1 12 rfl) (by decide) ?_
      replace hf := zb_s hf
      obtain ⟨r_107, hc_, hf⟩ := hf
      refine zcs (pc := 179) (rv := (some (.int r_107))) (va_runSN (As := [.ref h0_key, .int (0 : Int32), .ref h0_work, .int (0 : Int32), .int (32 : Int32)]) (rest := []) ⟨hx, hb, hml, hown, hts⟩ (c_X9_alike l D cy tt H.size h0_key h0_work 32 64 (0 : Int32) (0 : Int32) (32 : Int32) c_key_89 c_work_106 r_107 hc_) ⟨va_cnB 5 hts gX6_comesRight_X9_alike_n86 rfl rfl rfl (gNs_11 hE.2.1) hw6 (by decide +kernel) ⟨Nat.le_of_ble_eq_true rfl, Nat.le_of_ble_eq_true rfl⟩, hw7, trivial⟩ ⟨zblind, zpre hE hS (hP.sub [9, 17] rfl) (hD.sub [9, 17] (by decide) rfl) (va_free hD hS hA [9, 17] rfl)⟩ rfl rfl hl.1 rfl (lv_room (Nat.le_of_ble_eq_true rfl)) (zdt_at zt_X6_comesRight_1 13 rfl) ⟨Nat.zero_le _, Nat.zero_le _⟩) ?_
      clear hc_
      refine W.eq (g2 := F0 m 182 ls [.int r_107]) rfl ?_
      replace hf := zk_s hf
      have hv_ := hf.1
      replace hf := hf.2
      cases hf
      exact W.zret (pc := 182) hx hb hr (zz_nar hv_) (fun t ht hW => ⟨rfl, ⟨by rw [ht]; exact hP, hD⟩, hS.F ht⟩) hS.2.2 (zdt_at zt_X6_comesRight_1 14 rfl)
    have n0_ : ¬ p1.toInt = 0 := lv_neT (k := (0 : Int32)) hs_8 (by decide)
    have n1_ : ¬ p1.toInt = 1 := lv_neT (k := (1 : Int32)) hs_14 (by decide)
    have n2_ : ¬ p1.toInt = 2 := lv_neT (k := (2 : Int32)) hs_20 (by decide)
    have n3_ : ¬ p1.toInt = 3 := lv_neT (k := (3 : Int32)) hs_28 (by decide)
    have n4_ : ¬ p1.toInt = 4 := lv_neT (k := (4 : Int32)) hs_41 (by decide)
    have n5_ : ¬ p1.toInt = 5 := lv_neT (k := (5 : Int32)) hs_60 (by decide)
    have n6_ : ¬ p1.toInt = 6 := lv_neT (k := (6 : Int32)) hs_67 (by decide)
    have n7_ : ¬ p1.toInt = 7 := lv_neT (k := (7 : Int32)) hs_76 (by decide)
    have n8_ : ¬ p1.toInt = 8 := lv_neT (k := (8 : Int32)) hs_83 (by decide)
    by_cases hr_ : p1.toInt < 0 ∨ 8 < p1.toInt
    · exact lv_tableOut (pc := 11) (tgt := 149) hx hb (zdt_at zt_X6_comesRight_0 7 rfl) hr_ (by decide) (hTo _ _ _ kd_108)
    · exact absurd hr_ (by omega)
  clear eK_2
  refine lv_if_eq (pc := 1) (tgt := 8) hx hb (zdt_at zt_X6_comesRight_0 1 rfl) (by decide) (fun cn_ => ?t_109) (fun cn_ => ?f_110)
  case t_109 =>
    replace hf := zt_s cn_ hf
    clear cn_
    refine lv_iconst (pc := 8) (v := (0 : Int32)) hx hb (zdt_at zt_X6_comesRight_0 4 rfl) (by decide) ?_
    exact hTo _ _ _ (kK_2 _ H locs ls hP hD hS (lv_sub hl [0, 1] rfl) hf)
  replace hf := ze_s cn_ hf
  clear cn_
  refine lv_iconst (pc := 4) (v := (1 : Int32)) hx hb (zdt_at zt_X6_comesRight_0 2 rfl) (by decide) ?_
  refine lv_goto (pc := 5) (tgt := 9) hx hb (zdt_at zt_X6_comesRight_0 3 rfl) (by decide) ?_
  exact hTo _ _ _ (kK_2 _ H locs ls hP hD hS (lv_sub hl [0, 1] rfl) hf)
set_option maxHeartbeats 4000000 in
set_option maxRecDepth 100000 in
theorem c_X6_drawOnce (l : Launch) (D : va_G) (cy : Nat → ClassId) (tt : Nat → Nat) (sz : Nat) (h0 : Nat) (h0_aes : Nat) (h0_modes : Nat) (h0_gcm : Nat) (h0_sha : Nat) (h0_generator : Nat) (h0_key : Nat) (h0_work : Nat) (h0_generator_key : Nat) (h0_generator_value : Nat) (h0_generator_message : Nat) (h0_sha_sums : Nat) (h0_sha_schedule : Nat) (h0_sha_inner : Nat) (ha2 : Nat) (n_a2 : Nat) (p1 : Int32) (c_generator_begun : Int32) (c_generator_requests : Int32) (c_generator_key : Nat → Int32) (c_generator_message : Nat → Int32) (c_generator_value : Nat → Int32) (c_sha_filled : Int32) (c_sha_total : Int32) (c_sha_inner : Nat → Int32) (c_sha_schedule : Nat → Int32) (c_sha_sums : Nat → Int32) (c_work : Nat → Int32) (ca2 : Nat → Int32) (c_generator_begun' : Int32) (c_generator_requests' : Int32) (c_generator_key' : Nat → Int32) (c_generator_message' : Nat → Int32) (c_generator_value' : Nat → Int32) (c_sha_filled' : Int32) (c_sha_total' : Int32) (c_sha_inner' : Nat → Int32) (c_sha_schedule' : Nat → Int32) (c_sha_sums' : Nat → Int32) (c_work' : Nat → Int32) (ca2' : Nat → Int32) (hf : f_X6_drawOnce n_a2 p1 c_generator_begun c_generator_requests c_generator_key c_generator_message c_generator_value c_sha_filled c_sha_total c_sha_inner c_sha_schedule c_sha_sums c_work ca2 = some (c_generator_begun', c_generator_requests', c_generator_key', c_generator_message', c_generator_value', c_sha_filled', c_sha_total', c_sha_inner', c_sha_schedule', c_sha_sums', c_work', ca2')) : Met l yX6_drawOnce wsX6_drawOnce ({ frames := 6, cells := 0, slots := 0, locals := 161 }) (zPc D cy tt sz [.ref h0, .int p1, .ref ha2] ([(h0, .inr (8, [.ref h0_aes, .ref h0_modes, .ref h0_gcm, .ref h0_sha, .ref h0_generator, .ref h0_key, .ref h0_work])), (h0_generator, .inr (5, [.ref h0_sha, .ref h0_generator_key, .ref h0_generator_value, .ref h0_generator_message, .int c_generator_begun, .int c_generator_requests])), (h0_generator_key, .inl (cy 0, 32, .inl c_generator_key)), (h0_generator_message, .inl (cy 0, 97, .inl c_generator_message)), (h0_generator_value, .inl (cy 0, 32, .inl c_generator_value)), (h0_sha, .inr (9, [.ref h0_sha_sums, .ref h0_sha_schedule, .ref h0_sha_inner, .int c_sha_filled, .int c_sha_total])), (h0_sha_inner, .inl (cy 0, 32, .inl c_sha_inner)), (h0_sha_schedule, .inl (cy 1, 64, .inl c_sha_schedule)), (h0_sha_sums, .inl (cy 1, 8, .inl c_sha_sums)), (h0_work, .inl (cy 0, 64, .inl c_work)), (ha2, .inl (cy 0, n_a2, .inl ca2))])) (zQ D none ([(h0, .inr (8, [.ref h0_aes, .ref h0_modes, .ref h0_gcm, .ref h0_sha, .ref h0_generator, .ref h0_key, .ref h0_work])), (h0_generator, .inr (5, [.ref h0_sha, .ref h0_generator_key, .ref h0_generator_value, .ref h0_generator_message, .int c_generator_begun', .int c_generator_requests'])), (h0_generator_key, .inl (cy 0, 32, .inl c_generator_key')), (h0_generator_message, .inl (cy 0, 97, .inl c_generator_message')), (h0_generator_value, .inl (cy 0, 32, .inl c_generator_value')), (h0_sha, .inr (9, [.ref h0_sha_sums, .ref h0_sha_schedule, .ref h0_sha_inner, .int c_sha_filled', .int c_sha_total'])), (h0_sha_inner, .inl (cy 0, 32, .inl c_sha_inner')), (h0_sha_schedule, .inl (cy 1, 64, .inl c_sha_schedule')), (h0_sha_sums, .inl (cy 1, 8, .inl c_sha_sums')), (h0_work, .inl (cy 0, 64, .inl c_work')), (ha2, .inl (cy 0, n_a2, .inl ca2'))]) (va_A ([(h0, .inr (8, [.ref h0_aes, .ref h0_modes, .ref h0_gcm, .ref h0_sha, .ref h0_generator, .ref h0_key, .ref h0_work])), (h0_generator, .inr (5, [.ref h0_sha, .ref h0_generator_key, .ref h0_generator_value, .ref h0_generator_message, .int c_generator_begun, .int c_generator_requests])), (h0_generator_key, .inl (cy 0, 32, .inl c_generator_key)), (h0_generator_message, .inl (cy 0, 97, .inl c_generator_message)), (h0_generator_value, .inl (cy 0, 32, .inl c_generator_value)), (h0_sha, .inr (9, [.ref h0_sha_sums, .ref h0_sha_schedule, .ref h0_sha_inner, .int c_sha_filled, .int c_sha_total])), (h0_sha_inner, .inl (cy 0, 32, .inl c_sha_inner)), (h0_sha_schedule, .inl (cy 1, 64, .inl c_sha_schedule)), (h0_sha_sums, .inl (cy 1, 8, .inl c_sha_sums)), (h0_work, .inl (cy 0, 64, .inl c_work)), (ha2, .inl (cy 0, n_a2, .inl ca2))]) sz)) 0 0 (va_A ([(h0, .inr (8, [.ref h0_aes, .ref h0_modes, .ref h0_gcm, .ref h0_sha, .ref h0_generator, .ref h0_key, .ref h0_work])), (h0_generator, .inr (5, [.ref h0_sha, .ref h0_generator_key, .ref h0_generator_value, .ref h0_generator_message, .int c_generator_begun, .int c_generator_requests])), (h0_generator_key, .inl (cy 0, 32, .inl c_generator_key)), (h0_generator_message, .inl (cy 0, 97, .inl c_generator_message)), (h0_generator_value, .inl (cy 0, 32, .inl c_generator_value)), (h0_sha, .inr (9, [.ref h0_sha_sums, .ref h0_sha_schedule, .ref h0_sha_inner, .int c_sha_filled, .int c_sha_total])), (h0_sha_inner, .inl (cy 0, 32, .inl c_sha_inner)), (h0_sha_schedule, .inl (cy 1, 64, .inl c_sha_schedule)), (h0_sha_sums, .inl (cy 1, 8, .inl c_sha_sums)), (h0_work, .inl (cy 0, 64, .inl c_work)), (ha2, .inl (cy 0, n_a2, .inl ca2))]) sz) := by
  refine Met.ofW (cc := cX6_drawOnce) (maxL := 3) (ret := none) (by decide) rfl ?_
  intro p e s m args below meth c s₁ B hml hv
  obtain ⟨rfl, rfl, hP, hD0, hE⟩ := hv
  have hx := B.exec
  have hb := B.bytes
  have hr := B.returns
  have hts := atoms_spec (ws := wsX6_drawOnce) B.pre
  have hown : s.vm.findClass RX6 = some m.cls := findClass_of_methodNamed B.named
  have hlocks := B.notSynchronized
  clear B
  have hD := hD0.self (sz := s.heap.size)
  generalize hAe : va_A ([(h0, .inr (8, [.ref h0_aes, .ref h0_modes, .ref h0_gcm, .ref h0_sha, .ref h0_generator, .ref h0_key, .ref h0_work])), (h0_generator, .inr (5, [.ref h0_sha, .ref h0_generator_key, .ref h0_generator_value, .ref h0_generator_message, .int c_generator_begun, .int c_generator_requests])), (h0_generator_key, .inl (cy 0, 32, .inl c_generator_key)), (h0_generator_message, .inl (cy 0, 97, .inl c_generator_message)), (h0_generator_value, .inl (cy 0, 32, .inl c_generator_value)), (h0_sha, .inr (9, [.ref h0_sha_sums, .ref h0_sha_schedule, .ref h0_sha_inner, .int c_sha_filled, .int c_sha_total])), (h0_sha_inner, .inl (cy 0, 32, .inl c_sha_inner)), (h0_sha_schedule, .inl (cy 1, 64, .inl c_sha_schedule)), (h0_sha_sums, .inl (cy 1, 8, .inl c_sha_sums)), (h0_work, .inl (cy 0, 64, .inl c_work)), (ha2, .inl (cy 0, n_a2, .inl ca2))]) s.heap.size = A at hD hE ⊢
  have hA : ∀ q : Nat, s.heap.size ≤ q → A q := fun q h => by rw [← hAe]; exact Or.inr h
  clear hAe hD0
  have hS : va_S A s.heap s.heap [] := va_S.rf
  have hK := hE.1
  have hw0 := hts (.fieldLink RX6 90 "SealedModule$SelfTests" "COUNTING_KEY" "[J") (by decide +kernel)
  have hw1 := hts (.fieldLink RX6 97 "SealedModule$SelfTests" "DOUBLED_DIGITS" "[J") (by decide +kernel)
  have hw2 := hts (.fieldLink RX6 15 "SealedModule$SelfTests" "work" "[B") (by decide +kernel)
  have hw3 := hts (.fieldLink RX6 39 "SealedModule$SelfTests" "generator" "LSealedModule$Generator;") (by decide +kernel)
  have hcX6 : ∀ w ∈ u_ws RX6 TX6 7, w ∈ wsX6_drawOnce := (fun _ h => List.mem_cons_of_mem _ (List.mem_append_left _ (List.mem_append_left _ (List.mem_append_left _ (List.mem_append_right _ h)))))
  have hl := lv_entry ([.ref h0, .int p1, .ref ha2]) (n := 3) (Nat.le_of_ble_eq_true rfl)
  rw [lg_entry_eq]
  generalize (lg_sl ([.ref h0, .int p1, .ref ha2]) ++ List.replicate (3 - (lg_sl ([.ref h0, .int p1, .ref ha2])).length) Slot.unset).toArray = ls at hl ⊢
  replace hl : lv_has ls 3 [(0, .ref h0), (1, .int p1), (2, .ref ha2)] := hl
  unfold f_X6_drawOnce at hf
  refine zgo (fun GW hTo hFr => ?_)
  refine hFr _ _ _ ?_
  obtain ⟨H, hHe⟩ : ∃ H, H = s.heap := ⟨_, rfl⟩
  obtain ⟨locs, hLe⟩ : ∃ L : List Loc, L = [] := ⟨_, rfl⟩
  rw [← hHe] at hP
  replace hS : va_S A s.heap H locs := by rw [hHe, hLe]; exact hS
  refine zat hHe.symm hLe.symm ?_
  clear hHe hLe
  refine lv_aload_n (pc := 0) hx hb (zdt_at zt_X6_drawOnce_0 0 rfl) rfl (lv_at hl 0 rfl) ?_
  refine va_gets (pc := 1) hx hb (gT_4 hE.2.2).1 hS hown hw0 (fun _ h9 => h9) (zdt_at zt_X6_drawOnce_0 1 rfl) ?_
  refine lv_iconst (pc := 4) (v := (0 : Int32)) hx hb (zdt_at zt_X6_drawOnce_0 2 rfl) (by decide) ?_
  replace hf := zb_s hf
  obtain ⟨c_work_1, hc_, hf⟩ := hf
  refine zcn2 (pc := 5) (rv := none) (va_runV (As := [.ref (tt 4), .int (0 : Int32)]) (rest := []) ⟨hx, hb, hml, hown, hts⟩ (c_X6_put l D cy tt H.size h0 h0_aes h0_modes h0_gcm h0_sha h0_generator h0_key h0_work 4 (fun j => tb_COUNTING_KEY.getD j 0) 4 (0 : Int32) c_work _ _ _ c_work_1 rfl hc_) (cwV 2 hts gX6_drawOnce_X6_put rfl rfl rfl (by decide +kernel) ⟨Nat.le_of_ble_eq_true rfl, Nat.le_of_ble_eq_true rfl⟩) ⟨zblind, va_recv hK hP (ci := 8) (q0 := 0) rfl rfl, zpre hE hS (hP.sub [0, 9] rfl) (hD.sub [0, 9] (by decide) rfl) (va_free hD hS hA [0, 9] rfl)⟩ rfl rfl hl.1 rfl (lv_room (Nat.le_of_ble_eq_true rfl)) (zdt_at zt_X6_drawOnce_0 3 rfl) ⟨Nat.zero_le _, Nat.zero_le _⟩) hS hP hD (va_free hD hS hA [0, 9] rfl) [0, 9] rfl (by decide) rfl ?_
  clear hP hD hS hc_
  intro H locs hP hD hS
  replace hP : va_P D vwCl ([(h0, .inr (8, [.ref h0_aes, .ref h0_modes, .ref h0_gcm, .ref h0_sha, .ref h0_generator, .ref h0_key, .ref h0_work])), (h0_generator, .inr (5, [.ref h0_sha, .ref h0_generator_key, .ref h0_generator_value, .ref h0_generator_message, .int c_generator_begun, .int c_generator_requests])), (h0_generator_key, .inl (cy 0, 32, .inl c_generator_key)), (h0_generator_message, .inl (cy 0, 97, .inl c_generator_message)), (h0_generator_value, .inl (cy 0, 32, .inl c_generator_value)), (h0_sha, .inr (9, [.ref h0_sha_sums, .ref h0_sha_schedule, .ref h0_sha_inner, .int c_sha_filled, .int c_sha_total])), (h0_sha_inner, .inl (cy 0, 32, .inl c_sha_inner)), (h0_sha_schedule, .inl (cy 1, 64, .inl c_sha_schedule)), (h0_sha_sums, .inl (cy 1, 8, .inl c_sha_sums)), (h0_work, .inl (cy 0, 64, .inl c_work_1)), (ha2, .inl (cy 0, n_a2, .inl ca2))]) H := hP
  replace hD : va_D A ([(h0, .inr (8, [.ref h0_aes, .ref h0_modes, .ref h0_gcm, .ref h0_sha, .ref h0_generator, .ref h0_key, .ref h0_work])), (h0_generator, .inr (5, [.ref h0_sha, .ref h0_generator_key, .ref h0_generator_value, .ref h0_generator_message, .int c_generator_begun, .int c_generator_requests])), (h0_generator_key, .inl (cy 0, 32, .inl c_generator_key)), (h0_generator_message, .inl (cy 0, 97, .inl c_generator_message)), (h0_generator_value, .inl (cy 0, 32, .inl c_generator_value)), (h0_sha, .inr (9, [.ref h0_sha_sums, .ref h0_sha_schedule, .ref h0_sha_inner, .int c_sha_filled, .int c_sha_total])), (h0_sha_inner, .inl (cy 0, 32, .inl c_sha_inner)), (h0_sha_schedule, .inl (cy 1, 64, .inl c_sha_schedule)), (h0_sha_sums, .inl (cy 1, 8, .inl c_sha_sums)), (h0_work, .inl (cy 0, 64, .inl c_work_1)), (ha2, .inl (cy 0, n_a2, .inl ca2))]) := hD
  refine W.eq (g2 := F0 m 8 ls []) rfl ?_
  refine lv_aload_n (pc := 8) hx hb (zdt_at zt_X6_drawOnce_0 4 rfl) rfl (lv_at hl 0 rfl) ?_
  refine va_gets (pc := 9) hx hb (gT_5 hE.2.2).1 hS hown hw1 (fun _ h9 => h9) (zdt_at zt_X6_drawOnce_0 5 rfl) ?_
  refine lv_bipush (pc := 12) (v := (32 : Int32)) hx hb (zdt_at zt_X6_drawOnce_0 6 rfl) (by decide) ?_
  replace hf := zb_s hf
  obtain ⟨c_work_2, hc_, hf⟩ := hf
  refine zcn2 (pc := 14) (rv := none) (va_runV (As := [.ref (tt 5), .int (32 : Int32)]) (rest := []) ⟨hx, hb, hml, hown, hts⟩ (c_X6_put l D cy tt H.size h0 h0_aes h0_modes h0_gcm h0_sha h0_generator h0_key h0_work 5 (fun j => tb_DOUBLED_DIGITS.getD j 0) 2 (32 : Int32) c_work_1 _ _ _ c_work_2 rfl hc_) (cwV 2 hts gX6_drawOnce_X6_put rfl rfl rfl (by decide +kernel) ⟨Nat.le_of_ble_eq_true rfl, Nat.le_of_ble_eq_true rfl⟩) ⟨zblind, va_recv hK hP (ci := 8) (q0 := 0) rfl rfl, zpre hE hS (hP.sub [0, 9] rfl) (hD.sub [0, 9] (by decide) rfl) (va_free hD hS hA [0, 9] rfl)⟩ rfl rfl hl.1 rfl (lv_room (Nat.le_of_ble_eq_true rfl)) (zdt_at zt_X6_drawOnce_0 7 rfl) ⟨Nat.zero_le _, Nat.zero_le _⟩) hS hP hD (va_free hD hS hA [0, 9] rfl) [0, 9] rfl (by decide) rfl ?_
  clear hP hD hS hc_
  intro H locs hP hD hS
  replace hP : va_P D vwCl ([(h0, .inr (8, [.ref h0_aes, .ref h0_modes, .ref h0_gcm, .ref h0_sha, .ref h0_generator, .ref h0_key, .ref h0_work])), (h0_generator, .inr (5, [.ref h0_sha, .ref h0_generator_key, .ref h0_generator_value, .ref h0_generator_message, .int c_generator_begun, .int c_generator_requests])), (h0_generator_key, .inl (cy 0, 32, .inl c_generator_key)), (h0_generator_message, .inl (cy 0, 97, .inl c_generator_message)), (h0_generator_value, .inl (cy 0, 32, .inl c_generator_value)), (h0_sha, .inr (9, [.ref h0_sha_sums, .ref h0_sha_schedule, .ref h0_sha_inner, .int c_sha_filled, .int c_sha_total])), (h0_sha_inner, .inl (cy 0, 32, .inl c_sha_inner)), (h0_sha_schedule, .inl (cy 1, 64, .inl c_sha_schedule)), (h0_sha_sums, .inl (cy 1, 8, .inl c_sha_sums)), (h0_work, .inl (cy 0, 64, .inl c_work_2)), (ha2, .inl (cy 0, n_a2, .inl ca2))]) H := hP
  replace hD : va_D A ([(h0, .inr (8, [.ref h0_aes, .ref h0_modes, .ref h0_gcm, .ref h0_sha, .ref h0_generator, .ref h0_key, .ref h0_work])), (h0_generator, .inr (5, [.ref h0_sha, .ref h0_generator_key, .ref h0_generator_value, .ref h0_generator_message, .int c_generator_begun, .int c_generator_requests])), (h0_generator_key, .inl (cy 0, 32, .inl c_generator_key)), (h0_generator_message, .inl (cy 0, 97, .inl c_generator_message)), (h0_generator_value, .inl (cy 0, 32, .inl c_generator_value)), (h0_sha, .inr (9, [.ref h0_sha_sums, .ref h0_sha_schedule, .ref h0_sha_inner, .int c_sha_filled, .int c_sha_total])), (h0_sha_inner, .inl (cy 0, 32, .inl c_sha_inner)), (h0_sha_schedule, .inl (cy 1, 64, .inl c_sha_schedule)), (h0_sha_sums, .inl (cy 1, 8, .inl c_sha_sums)), (h0_work, .inl (cy 0, 64, .inl c_work_2)), (ha2, .inl (cy 0, n_a2, .inl ca2))]) := hD
  refine W.eq (g2 := F0 m 17 ls []) rfl ?_
  refine lv_aload_n (pc := 17) hx hb (zdt_at zt_X6_drawOnce_0 8 rfl) rfl (lv_at hl 0 rfl) ?_
  refine va_get (pc := 18) (D := D) (ci := 8) (v := .ref h0_work) (C := RX6) (T := TX6) (N := 7) hx hb hts hcX6 hown hK hP 0 rfl rfl 6 (by decide) hw2 (fun _ h9 => h9) rfl (zdt_at zt_X6_drawOnce_0 9 rfl) ?_
  refine lv_iconst (pc := 21) (v := (0 : Int32)) hx hb (zdt_at zt_X6_drawOnce_0 10 rfl) (by decide) ?_
  refine lv_dup2_11 (pc := 22) hx hb (zdt_at zt_X6_drawOnce_0 11 rfl) rfl rfl ?_
  replace hf := zk_s hf
  refine va_bald (pc := 23) hx hb hK hP 9 0 rfl rfl hf.1 (zdt_at zt_X6_drawOnce_0 12 rfl) ?_
  replace hf := hf.2
  refine lv_iload_n (pc := 24) hx hb (zdt_at zt_X6_drawOnce_0 13 rfl) rfl (lv_at hl 1 rfl) ?_
  refine lv_ixor (pc := 25) hx hb (zdt_at zt_X6_drawOnce_0 14 rfl) ?_
  refine lv_i2b (pc := 26) hx hb (zdt_at zt_X6_drawOnce_0 15 rfl) rfl ?_
  replace hf := zk_s hf
  refine va_bast (pc := 27) hx hb hK hP hD hS 9 0 rfl rfl hf.1 (zdt_at zt_X6_drawOnce_0 16 rfl) ?_
  replace hf := hf.2
  clear hP hD hS
  intro H locs hP hD hS
  obtain ⟨c_work_3, e_⟩ : ∃ q : Nat → Int32, q = (upd c_work_2 (0 : Int32).toNatClampNeg (vp_nar .byte (((c_work_2 (0 : Int32).toNatClampNeg) ^^^ p1).toInt8.toInt32))) := ⟨_, rfl⟩
  replace hf := zn_s hf e_
  replace hP : va_P D vwCl ([(h0, .inr (8, [.ref h0_aes, .ref h0_modes, .ref h0_gcm, .ref h0_sha, .ref h0_generator, .ref h0_key, .ref h0_work])), (h0_generator, .inr (5, [.ref h0_sha, .ref h0_generator_key, .ref h0_generator_value, .ref h0_generator_message, .int c_generator_begun, .int c_generator_requests])), (h0_generator_key, .inl (cy 0, 32, .inl c_generator_key)), (h0_generator_message, .inl (cy 0, 97, .inl c_generator_message)), (h0_generator_value, .inl (cy 0, 32, .inl c_generator_value)), (h0_sha, .inr (9, [.ref h0_sha_sums, .ref h0_sha_schedule, .ref h0_sha_inner, .int c_sha_filled, .int c_sha_total])), (h0_sha_inner, .inl (cy 0, 32, .inl c_sha_inner)), (h0_sha_schedule, .inl (cy 1, 64, .inl c_sha_schedule)), (h0_sha_sums, .inl (cy 1, 8, .inl c_sha_sums)), (h0_work, .inl (cy 0, 64, .inl c_work_3)), (ha2, .inl (cy 0, n_a2, .inl ca2))]) H := by rw [e_]; exact hP
  replace hD : va_D A ([(h0, .inr (8, [.ref h0_aes, .ref h0_modes, .ref h0_gcm, .ref h0_sha, .ref h0_generator, .ref h0_key, .ref h0_work])), (h0_generator, .inr (5, [.ref h0_sha, .ref h0_generator_key, .ref h0_generator_value, .ref h0_generator_message, .int c_generator_begun, .int c_generator_requests])), (h0_generator_key, .inl (cy 0, 32, .inl c_generator_key)), (h0_generator_message, .inl (cy 0, 97, .inl c_generator_message)), (h0_generator_value, .inl (cy 0, 32, .inl c_generator_value)), (h0_sha, .inr (9, [.ref h0_sha_sums, .ref h0_sha_schedule, .ref h0_sha_inner, .int c_sha_filled, .int c_sha_total])), (h0_sha_inner, .inl (cy 0, 32, .inl c_sha_inner)), (h0_sha_schedule, .inl (cy 1, 64, .inl c_sha_schedule)), (h0_sha_sums, .inl (cy 1, 8, .inl c_sha_sums)), (h0_work, .inl (cy 0, 64, .inl c_work_3)), (ha2, .inl (cy 0, n_a2, .inl ca2))]) := by rw [e_]; exact hD
  clear e_
  refine lv_aload_n (pc := 28) hx hb (zdt_at zt_X6_drawOnce_0 17 rfl) rfl (lv_at hl 0 rfl) ?_
  refine va_get (pc := 29) (D := D) (ci := 8) (v := .ref h0_generator) (C := RX6) (T := TX6) (N := 7) hx hb hts hcX6 hown hK hP 0 rfl rfl 4 (by decide) hw3 (fun _ h9 => h9) rfl (zdt_at zt_X6_drawOnce_0 18 rfl) ?_
  replace hf := zb_s hf
  obtain ⟨⟨c_generator_begun_4, c_generator_key_5, c_generator_value_6⟩, hc_, hf⟩ := hf
  refine zcn2 (pc := 32) (rv := none) (va_runV (As := []) (rest := []) ⟨hx, hb, hml, hown, hts⟩ (c_X3_forget l D cy tt H.size h0_generator h0_sha h0_generator_key h0_generator_value h0_generator_message c_generator_begun c_generator_key c_generator_value c_generator_requests c_generator_begun_4 c_generator_key_5 c_generator_value_6 hc_) (cwV 0 hts gX6_drawOnce_X3_forget rfl rfl rfl (by decide +kernel) ⟨Nat.le_of_ble_eq_true rfl, Nat.le_of_ble_eq_true rfl⟩) ⟨zblind, va_recv hK hP (ci := 5) (q0 := 1) rfl rfl, zpre hE hS (hP.sub [1, 2, 4] rfl) (hD.sub [1, 2, 4] (by decide) rfl) (va_free hD hS hA [1, 2, 4] rfl)⟩ rfl rfl hl.1 rfl (lv_room (Nat.le_of_ble_eq_true rfl)) (zdt_at zt_X6_drawOnce_0 19 rfl) ⟨Nat.zero_le _, Nat.zero_le _⟩) hS hP hD (va_free hD hS hA [1, 2, 4] rfl) [1, 2, 4] rfl (by decide) rfl ?_
  clear hP hD hS hc_
  intro H locs hP hD hS
  replace hP : va_P D vwCl ([(h0, .inr (8, [.ref h0_aes, .ref h0_modes, .ref h0_gcm, .ref h0_sha, .ref h0_generator, .ref h0_key, .ref h0_work])), (h0_generator, .inr (5, [.ref h0_sha, .ref h0_generator_key, .ref h0_generator_value, .ref h0_generator_message, .int c_generator_begun_4, .int c_generator_requests])), (h0_generator_key, .inl (cy 0, 32, .inl c_generator_key_5)), (h0_generator_message, .inl (cy 0, 97, .inl c_generator_message)), (h0_generator_value, .inl (cy 0, 32, .inl c_generator_value_6)), (h0_sha, .inr (9, [.ref h0_sha_sums, .ref h0_sha_schedule, .ref h0_sha_inner, .int c_sha_filled, .int c_sha_total])), (h0_sha_inner, .inl (cy 0, 32, .inl c_sha_inner)), (h0_sha_schedule, .inl (cy 1, 64, .inl c_sha_schedule)), (h0_sha_sums, .inl (cy 1, 8, .inl c_sha_sums)), (h0_work, .inl (cy 0, 64, .inl c_work_3)), (ha2, .inl (cy 0, n_a2, .inl ca2))]) H := hP
  replace hD : va_D A ([(h0, .inr (8, [.ref h0_aes, .ref h0_modes, .ref h0_gcm, .ref h0_sha, .ref h0_generator, .ref h0_key, .ref h0_work])), (h0_generator, .inr (5, [.ref h0_sha, .ref h0_generator_key, .ref h0_generator_value, .ref h0_generator_message, .int c_generator_begun_4, .int c_generator_requests])), (h0_generator_key, .inl (cy 0, 32, .inl c_generator_key_5)), (h0_generator_message, .inl (cy 0, 97, .inl c_generator_message)), (h0_generator_value, .inl (cy 0, 32, .inl c_generator_value_6)), (h0_sha, .inr (9, [.ref h0_sha_sums, .ref h0_sha_schedule, .ref h0_sha_inner, .int c_sha_filled, .int c_sha_total])), (h0_sha_inner, .inl (cy 0, 32, .inl c_sha_inner)), (h0_sha_schedule, .inl (cy 1, 64, .inl c_sha_schedule)), (h0_sha_sums, .inl (cy 1, 8, .inl c_sha_sums)), (h0_work, .inl (cy 0, 64, .inl c_work_3)), (ha2, .inl (cy 0, n_a2, .inl ca2))]) := hD
  refine W.eq (g2 := F0 m 35 ls []) rfl ?_
  refine lv_aload_n (pc := 35) hx hb (zdt_at zt_X6_drawOnce_0 20 rfl) rfl (lv_at hl 0 rfl) ?_
  refine va_get (pc := 36) (D := D) (ci := 8) (v := .ref h0_generator) (C := RX6) (T := TX6) (N := 7) hx hb hts hcX6 hown hK hP 0 rfl rfl 4 (by decide) hw3 (fun _ h9 => h9) rfl (zdt_at zt_X6_drawOnce_0 21 rfl) ?_
  refine lv_aload_n (pc := 39) hx hb (zdt_at zt_X6_drawOnce_0 22 rfl) rfl (lv_at hl 0 rfl) ?_
  refine va_get (pc := 40) (D := D) (ci := 8) (v := .ref h0_work) (C := RX6) (T := TX6) (N := 7) hx hb hts hcX6 hown hK hP 0 rfl rfl 6 (by decide) hw2 (fun _ h9 => h9) rfl (zdt_at zt_X6_drawOnce_0 23 rfl) ?_
  refine lv_bipush (pc := 43) (v := (48 : Int32)) hx hb (zdt_at zt_X6_drawOnce_0 24 rfl) (by decide) ?_
  replace hf := zb_s hf
  obtain ⟨⟨c_generator_begun_7, c_generator_requests_8, c_generator_key_9, c_generator_message_10, c_sha_filled_11, c_sha_total_12, c_sha_inner_13, c_sha_schedule_14, c_sha_sums_15, c_generator_value_16⟩, hc_, hf⟩ := hf
  refine zcn2 (pc := 45) (rv := none) (va_runV (As := [.ref h0_work, .int (48 : Int32)]) (rest := []) ⟨hx, hb, hml, hown, hts⟩ (c_X3_feed l D cy tt H.size h0_generator h0_sha h0_generator_key h0_generator_value h0_generator_message h0_sha_sums h0_sha_schedule h0_sha_inner h0_work 64 (48 : Int32) c_generator_begun_4 c_generator_requests c_generator_key_5 c_generator_message c_sha_filled c_sha_total c_sha_inner c_sha_schedule c_sha_sums c_generator_value_6 c_work_3 c_generator_begun_7 c_generator_requests_8 c_generator_key_9 c_generator_message_10 c_sha_filled_11 c_sha_total_12 c_sha_inner_13 c_sha_schedule_14 c_sha_sums_15 c_generator_value_16 hc_) (cwV 2 hts gX6_drawOnce_X3_feed rfl rfl rfl (by decide +kernel) ⟨Nat.le_of_ble_eq_true rfl, Nat.le_of_ble_eq_true rfl⟩) ⟨zblind, va_recv hK hP (ci := 5) (q0 := 1) rfl rfl, zpre hE hS (hP.sub [1, 2, 3, 5, 6, 7, 8, 4, 9] rfl) (hD.sub [1, 2, 3, 5, 6, 7, 8, 4, 9] (by decide) rfl) (va_free hD hS hA [1, 2, 3, 5, 6, 7, 8, 4, 9] rfl)⟩ rfl rfl hl.1 rfl (lv_room (Nat.le_of_ble_eq_true rfl)) (zdt_at zt_X6_drawOnce_0 25 rfl) ⟨Nat.zero_le _, Nat.zero_le _⟩) hS hP hD (va_free hD hS hA [1, 2, 3, 5, 6, 7, 8, 4, 9] rfl) [1, 2, 3, 5, 6, 7, 8, 4, 9] rfl (by decide) rfl ?_
  clear hP hD hS hc_
  intro H locs hP hD hS
  replace hP : va_P D vwCl ([(h0, .inr (8, [.ref h0_aes, .ref h0_modes, .ref h0_gcm, .ref h0_sha, .ref h0_generator, .ref h0_key, .ref h0_work])), (h0_generator, .inr (5, [.ref h0_sha, .ref h0_generator_key, .ref h0_generator_value, .ref h0_generator_message, .int c_generator_begun_7, .int c_generator_requests_8])), (h0_generator_key, .inl (cy 0, 32, .inl c_generator_key_9)), (h0_generator_message, .inl (cy 0, 97, .inl c_generator_message_10)), (h0_generator_value, .inl (cy 0, 32, .inl c_generator_value_16)), (h0_sha, .inr (9, [.ref h0_sha_sums, .ref h0_sha_schedule, .ref h0_sha_inner, .int c_sha_filled_11, .int c_sha_total_12])), (h0_sha_inner, .inl (cy 0, 32, .inl c_sha_inner_13)), (h0_sha_schedule, .inl (cy 1, 64, .inl c_sha_schedule_14)), (h0_sha_sums, .inl (cy 1, 8, .inl c_sha_sums_15)), (h0_work, .inl (cy 0, 64, .inl c_work_3)), (ha2, .inl (cy 0, n_a2, .inl ca2))]) H := hP
  replace hD : va_D A ([(h0, .inr (8, [.ref h0_aes, .ref h0_modes, .ref h0_gcm, .ref h0_sha, .ref h0_generator, .ref h0_key, .ref h0_work])), (h0_generator, .inr (5, [.ref h0_sha, .ref h0_generator_key, .ref h0_generator_value, .ref h0_generator_message, .int c_generator_begun_7, .int c_generator_requests_8])), (h0_generator_key, .inl (cy 0, 32, .inl c_generator_key_9)), (h0_generator_message, .inl (cy 0, 97, .inl c_generator_message_10)), (h0_generator_value, .inl (cy 0, 32, .inl c_generator_value_16)), (h0_sha, .inr (9, [.ref h0_sha_sums, .ref h0_sha_schedule, .ref h0_sha_inner, .int c_sha_filled_11, .int c_sha_total_12])), (h0_sha_inner, .inl (cy 0, 32, .inl c_sha_inner_13)), (h0_sha_schedule, .inl (cy 1, 64, .inl c_sha_schedule_14)), (h0_sha_sums, .inl (cy 1, 8, .inl c_sha_sums_15)), (h0_work, .inl (cy 0, 64, .inl c_work_3)), (ha2, .inl (cy 0, n_a2, .inl ca2))]) := hD
  refine W.eq (g2 := F0 m 48 ls []) rfl ?_
  refine lv_aload_n (pc := 48) hx hb (zdt_at zt_X6_drawOnce_0 26 rfl) rfl (lv_at hl 0 rfl) ?_
  refine va_get (pc := 49) (D := D) (ci := 8) (v := .ref h0_generator) (C := RX6) (T := TX6) (N := 7) hx hb hts hcX6 hown hK hP 0 rfl rfl 4 (by decide) hw3 (fun _ h9 => h9) rfl (zdt_at zt_X6_drawOnce_0 27 rfl) ?_
  refine lv_aload_n (pc := 52) hx hb (zdt_at zt_X6_drawOnce_0 28 rfl) rfl (lv_at hl 0 rfl) ?_
  refine va_get (pc := 53) (D := D) (ci := 8) (v := .ref h0_work) (C := RX6) (T := TX6) (N := 7) hx hb hts hcX6 hown hK hP 0 rfl rfl 6 (by decide) hw2 (fun _ h9 => h9) rfl (zdt_at zt_X6_drawOnce_0 29 rfl) ?_
  refine lv_iconst (pc := 56) (v := (0 : Int32)) hx hb (zdt_at zt_X6_drawOnce_0 30 rfl) (by decide) ?_
  refine lv_aload_n (pc := 57) hx hb (zdt_at zt_X6_drawOnce_0 31 rfl) rfl (lv_at hl 2 rfl) ?_
  refine lv_iconst (pc := 58) (v := (0 : Int32)) hx hb (zdt_at zt_X6_drawOnce_0 32 rfl) (by decide) ?_
  refine lv_bipush (pc := 59) (v := (32 : Int32)) hx hb (zdt_at zt_X6_drawOnce_0 33 rfl) (by decide) ?_
  replace hf := zb_s hf
  obtain ⟨⟨c_generator_requests_17, c_generator_key_18, c_generator_message_19, c_sha_filled_20, c_sha_total_21, c_sha_inner_22, c_sha_schedule_23, c_sha_sums_24, c_generator_value_25, ca2_26⟩, hc_, hf⟩ := hf
  refine zcn2 (pc := 61) (rv := none) (va_runV (As := [.ref h0_work, .int (0 : Int32), .ref ha2, .int (0 : Int32), .int (32 : Int32)]) (rest := []) ⟨hx, hb, hml, hown, hts⟩ (c_X3_answer l D cy tt H.size h0_generator h0_sha h0_generator_key h0_generator_value h0_generator_message h0_sha_sums h0_sha_schedule h0_sha_inner h0_work ha2 64 n_a2 (0 : Int32) (0 : Int32) (32 : Int32) c_generator_requests_8 c_generator_key_9 c_generator_message_10 c_sha_filled_11 c_sha_total_12 c_sha_inner_13 c_sha_schedule_14 c_sha_sums_15 c_generator_value_16 c_work_3 ca2 c_generator_begun_7 c_generator_requests_17 c_generator_key_18 c_generator_message_19 c_sha_filled_20 c_sha_total_21 c_sha_inner_22 c_sha_schedule_23 c_sha_sums_24 c_generator_value_25 ca2_26 hc_) (cwV 5 hts gX6_drawOnce_X3_answer rfl rfl rfl (by decide +kernel) ⟨Nat.le_of_ble_eq_true rfl, Nat.le_of_ble_eq_true rfl⟩) ⟨zblind, va_recv hK hP (ci := 5) (q0 := 1) rfl rfl, zpre hE hS (hP.sub [1, 2, 3, 5, 6, 7, 8, 4, 9, 10] rfl) (hD.sub [1, 2, 3, 5, 6, 7, 8, 4, 9, 10] (by decide) rfl) (va_free hD hS hA [1, 2, 3, 5, 6, 7, 8, 4, 9, 10] rfl)⟩ rfl rfl hl.1 rfl (lv_room (Nat.le_of_ble_eq_true rfl)) (zdt_at zt_X6_drawOnce_0 34 rfl) ⟨Nat.zero_le _, Nat.zero_le _⟩) hS hP hD (va_free hD hS hA [1, 2, 3, 5, 6, 7, 8, 4, 9, 10] rfl) [1, 2, 3, 5, 6, 7, 8, 4, 9, 10] rfl (by decide) rfl ?_
  clear hP hD hS hc_
  intro H locs hP hD hS
  replace hP : va_P D vwCl ([(h0, .inr (8, [.ref h0_aes, .ref h0_modes, .ref h0_gcm, .ref h0_sha, .ref h0_generator, .ref h0_key, .ref h0_work])), (h0_generator, .inr (5, [.ref h0_sha, .ref h0_generator_key, .ref h0_generator_value, .ref h0_generator_message, .int c_generator_begun_7, .int c_generator_requests_17])), (h0_generator_key, .inl (cy 0, 32, .inl c_generator_key_18)), (h0_generator_message, .inl (cy 0, 97, .inl c_generator_message_19)), (h0_generator_value, .inl (cy 0, 32, .inl c_generator_value_25)), (h0_sha, .inr (9, [.ref h0_sha_sums, .ref h0_sha_schedule, .ref h0_sha_inner, .int c_sha_filled_20, .int c_sha_total_21])), (h0_sha_inner, .inl (cy 0, 32, .inl c_sha_inner_22)), (h0_sha_schedule, .inl (cy 1, 64, .inl c_sha_schedule_23)), (h0_sha_sums, .inl (cy 1, 8, .inl c_sha_sums_24)), (h0_work, .inl (cy 0, 64, .inl c_work_3)), (ha2, .inl (cy 0, n_a2, .inl ca2_26))]) H := hP
  replace hD : va_D A ([(h0, .inr (8, [.ref h0_aes, .ref h0_modes, .ref h0_gcm, .ref h0_sha, .ref h0_generator, .ref h0_key, .ref h0_work])), (h0_generator, .inr (5, [.ref h0_sha, .ref h0_generator_key, .ref h0_generator_value, .ref h0_generator_message, .int c_generator_begun_7, .int c_generator_requests_17])), (h0_generator_key, .inl (cy 0, 32, .inl c_generator_key_18)), (h0_generator_message, .inl (cy 0, 97, .inl c_generator_message_19)), (h0_generator_value, .inl (cy 0, 32, .inl c_generator_value_25)), (h0_sha, .inr (9, [.ref h0_sha_sums, .ref h0_sha_schedule, .ref h0_sha_inner, .int c_sha_filled_20, .int c_sha_total_21])), (h0_sha_inner, .inl (cy 0, 32, .inl c_sha_inner_22)), (h0_sha_schedule, .inl (cy 1, 64, .inl c_sha_schedule_23)), (h0_sha_sums, .inl (cy 1, 8, .inl c_sha_sums_24)), (h0_work, .inl (cy 0, 64, .inl c_work_3)), (ha2, .inl (cy 0, n_a2, .inl ca2_26))]) := hD
  refine W.eq (g2 := F0 m 64 ls []) rfl ?_
  cases hf
  exact W.vret (pc := 64) hx hb hr (fun t ht hW => ⟨rfl, ⟨by rw [ht]; exact hP, hD⟩, hS.F ht⟩) hS.2.2 (zdt_at zt_X6_drawOnce_0 35 rfl)
