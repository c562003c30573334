set_option maxHeartbeats 4000000 in
set_option maxRecDepth 100000 in
theorem c_X10_role (l : Launch) (D : va_G) (cy : Nat → ClassId) (tt : Nat → Nat) (sz : Nat) (h0 : Nat) (hm : Nat → Nat) (c_state : Int32) (c_thrown : Int32) (c_test : Int32) (c_words : Int32) (c_ill : Int32) (c_before : Int32) (c_inRow : Int32) (c_first : Int32) (c_inWindow : Int32) (c_same : Int32) (c_made : Int32) (c_requests : Int32) (c_total : Int64) (c_secrets : Int32) (c_rounds : Int32) (c_high : Int64) (c_low : Int64) (c_keyHigh : Int64) (c_keyLow : Int64) (r_ : Int32) (hf : f_X10_role c_state = some r_) : Met l yX10_role wsX10_role ({ frames := 0, cells := 0, slots := 0, locals := 0 }) (zPc D cy tt sz [.ref h0] ([(h0, .inr (12, zmo hm c_thrown c_state c_test c_words c_ill c_before c_inRow c_first c_inWindow c_same c_made c_requests c_total c_secrets c_rounds c_high c_low c_keyHigh c_keyLow))])) (fun _ st o t => o = .returned (some (.int r_)) ∧ t.heap = st.heap) 0 0 (fun _ => False) := by
  refine Met.ofW (cc := cX10_role) (maxL := 1) (ret := (some .int)) (by decide) rfl ?_
  intro p e s m args below meth c s₁ B hml hv
  obtain ⟨rfl, rfl, hP, hD0, hE⟩ := hv
  have hx := B.exec
  have hb := B.bytes
  have hr := B.returns
  have hts := atoms_spec (ws := wsX10_role) B.pre
  have hown : s.vm.findClass RX10 = some m.cls := findClass_of_methodNamed B.named
  have hlocks := B.notSynchronized
  clear B
  have hD := hD0.self (sz := s.heap.size)
  generalize hAe : va_A ([(h0, .inr (12, zmo hm c_thrown c_state c_test c_words c_ill c_before c_inRow c_first c_inWindow c_same c_made c_requests c_total c_secrets c_rounds c_high c_low c_keyHigh c_keyLow))]) s.heap.size = A at hD hE
  have hA : ∀ q : Nat, s.heap.size ≤ q → A q := fun q h => by rw [← hAe]; exact Or.inr h
  clear hAe hD0
  have hS : va_S A s.heap s.heap [] := va_S.rf
  have hK := hE.1
  have hw0 := hts (.fieldLink RX10 273 "SealedModuleModel" "state" "I") (by decide +kernel)
  have hcX10 : ∀ w ∈ u_ws RX10 TX10 52, w ∈ wsX10_role := (fun _ h => List.mem_cons_of_mem _ (List.mem_append_right _ h))
  have hl := lv_entry ([.ref h0]) (n := 1) (Nat.le_of_ble_eq_true rfl)
  rw [lg_entry_eq]
  generalize (lg_sl ([.ref h0]) ++ List.replicate (1 - (lg_sl ([.ref h0])).length) Slot.unset).toArray = ls at hl ⊢
  replace hl : lv_has ls 1 [(0, .ref h0)] := hl
  unfold f_X10_role at hf
  refine zgo (fun GW hTo hFr => ?_)
  refine hFr _ _ _ ?_
  refine lv_aload_n (pc := 0) hx hb (zdt_at zt_X10_role_0 0 rfl) rfl (lv_at hl 0 rfl) ?_
  refine va_get (pc := 1) (D := D) (ci := 12) (v := .int c_state) (C := RX10) (T := TX10) (N := 52) hx hb hts hcX10 hown hK hP 0 rfl rfl 2 (by decide) hw0 (fun _ h9 => h9) rfl (zdt_at zt_X10_role_0 1 rfl) ?_
  refine lv_iconst (pc := 4) (v := (2 : Int32)) hx hb (zdt_at zt_X10_role_0 2 rfl) (by decide) ?_
  refine lv_isub (pc := 5) hx hb (zdt_at zt_X10_role_0 3 rfl) ?_
  cases hf
  exact W.iret (pc := 6) hx hb hr (fun t ht hW => ⟨rfl, ht⟩) (fun _ h => nomatch h) (zdt_at zt_X10_role_0 4 rfl)
set_option maxHeartbeats 4000000 in
set_option maxRecDepth 100000 in
theorem c_X10_answer (l : Launch) (D : va_G) (cy : Nat → ClassId) (tt : Nat → Nat) (sz : Nat) (h0 : Nat) (hm : Nat → Nat) (p1 : Int32) (c_counters : Nat → Int32) (c_thrown : Int32) (c_state : Int32) (c_test : Int32) (c_words : Int32) (c_ill : Int32) (c_before : Int32) (c_inRow : Int32) (c_first : Int32) (c_inWindow : Int32) (c_same : Int32) (c_made : Int32) (c_requests : Int32) (c_total : Int64) (c_secrets : Int32) (c_rounds : Int32) (c_high : Int64) (c_low : Int64) (c_keyHigh : Int64) (c_keyLow : Int64) (r_ : Int32) (c_counters' : Nat → Int32) (hf : f_X10_answer p1 c_counters = some (r_, c_counters')) : Met l yX10_answer wsX10_answer ({ frames := 0, cells := 0, slots := 0, locals := 0 }) (zPc D cy tt sz [.ref h0, .int p1] ([(h0, .inr (12, zmo hm c_thrown c_state c_test c_words c_ill c_before c_inRow c_first c_inWindow c_same c_made c_requests c_total c_secrets c_rounds c_high c_low c_keyHigh c_keyLow)), ((hm 5), .inl (cy 1, 3, .inl c_counters))])) (zQ D (some (.int r_)) ([(h0, .inr (12, zmo hm c_thrown c_state c_test c_words c_ill c_before c_inRow c_first c_inWindow c_same c_made c_requests c_total c_secrets c_rounds c_high c_low c_keyHigh c_keyLow)), ((hm 5), .inl (cy 1, 3, .inl c_counters'))]) (va_A ([(h0, .inr (12, zmo hm c_thrown c_state c_test c_words c_ill c_before c_inRow c_first c_inWindow c_same c_made c_requests c_total c_secrets c_rounds c_high c_low c_keyHigh c_keyLow)), ((hm 5), .inl (cy 1, 3, .inl c_counters))]) sz)) 0 0 (va_A ([(h0, .inr (12, zmo hm c_thrown c_state c_test c_words c_ill c_before c_inRow c_first c_inWindow c_same c_made c_requests c_total c_secrets c_rounds c_high c_low c_keyHigh c_keyLow)), ((hm 5), .inl (cy 1, 3, .inl c_counters))]) sz) := by
  refine Met.ofW (cc := cX10_answer) (maxL := 2) (ret := (some .int)) (by decide) rfl ?_
  intro p e s m args below meth c s₁ B hml hv
  obtain ⟨rfl, rfl, hP, hD0, hE⟩ := hv
  have hx := B.exec
  have hb := B.bytes
  have hr := B.returns
  have hts := atoms_spec (ws := wsX10_answer) B.pre
  have hown : s.vm.findClass RX10 = some m.cls := findClass_of_methodNamed B.named
  have hlocks := B.notSynchronized
  clear B
  have hD := hD0.self (sz := s.heap.size)
  generalize hAe : va_A ([(h0, .inr (12, zmo hm c_thrown c_state c_test c_words c_ill c_before c_inRow c_first c_inWindow c_same c_made c_requests c_total c_secrets c_rounds c_high c_low c_keyHigh c_keyLow)), ((hm 5), .inl (cy 1, 3, .inl c_counters))]) s.heap.size = A at hD hE ⊢
  have hA : ∀ q : Nat, s.heap.size ≤ q → A q := fun q h => by rw [← hAe]; exact Or.inr h
  clear hAe hD0
  have hS : va_S A s.heap s.heap [] := va_S.rf
  have hK := hE.1
  have hw0 := hts (.fieldLink RX10 81 "SealedModuleModel" "counters" "[I") (by decide +kernel)
  have hcX10 : ∀ w ∈ u_ws RX10 TX10 52, w ∈ wsX10_answer := (fun _ h => List.mem_cons_of_mem _ (List.mem_append_right _ h))
  have hl := lv_entry ([.ref h0, .int p1]) (n := 2) (Nat.le_of_ble_eq_true rfl)
  rw [lg_entry_eq]
  generalize (lg_sl ([.ref h0, .int p1]) ++ List.replicate (2 - (lg_sl ([.ref h0, .int p1])).length) Slot.unset).toArray = ls at hl ⊢
  replace hl : lv_has ls 2 [(0, .ref h0), (1, .int p1)] := hl
  unfold f_X10_answer at hf
  refine zgo (fun GW hTo hFr => ?_)
  refine hFr _ _ _ ?_
  obtain ⟨H, hHe⟩ : ∃ H, H = s.heap := ⟨_, rfl⟩
  obtain ⟨locs, hLe⟩ : ∃ L : List Loc, L = [] := ⟨_, rfl⟩
  rw [← hHe] at hP
  replace hS : va_S A s.heap H locs := by rw [hHe, hLe]; exact hS
  refine zat hHe.symm hLe.symm ?_
  clear hHe hLe
  refine lv_aload_n (pc := 0) hx hb (zdt_at zt_X10_answer_0 0 rfl) rfl (lv_at hl 0 rfl) ?_
  refine va_get (pc := 1) (D := D) (ci := 12) (v := .ref (hm 5)) (C := RX10) (T := TX10) (N := 52) hx hb hts hcX10 hown hK hP 0 rfl rfl 5 (by decide) hw0 (fun _ h9 => h9) rfl (zdt_at zt_X10_answer_0 1 rfl) ?_
  refine lv_iload_n (pc := 4) hx hb (zdt_at zt_X10_answer_0 2 rfl) rfl (lv_at hl 1 rfl) ?_
  refine lv_if_ge (pc := 5) (tgt := 12) hx hb (zdt_at zt_X10_answer_0 3 rfl) (by decide) (fun cn_ => ?t_1) (fun cn_ => ?f_2)
  case t_1 =>
    replace hf := zt_s cn_ hf
    clear cn_
    refine lv_iconst (pc := 12) (v := (0 : Int32)) hx hb (zdt_at zt_X10_answer_0 6 rfl) (by decide) ?_
    refine lv_dup2_11 (pc := 13) hx hb (zdt_at zt_X10_answer_0 7 rfl) rfl rfl ?_
    replace hf := zk_s hf
    refine va_iald (pc := 14) hx hb hK hP 1 1 rfl rfl hf.1 (zdt_at zt_X10_answer_0 8 rfl) ?_
    replace hf := hf.2
    refine lv_iconst (pc := 15) (v := (1 : Int32)) hx hb (zdt_at zt_X10_answer_0 9 rfl) (by decide) ?_
    refine lv_iadd (pc := 16) hx hb (zdt_at zt_X10_answer_0 10 rfl) ?_
    replace hf := zk_s hf
    refine va_iast (pc := 17) hx hb hK hP hD hS 1 1 rfl rfl hf.1 (zdt_at zt_X10_answer_0 11 rfl) ?_
    replace hf := hf.2
    clear hP hD hS
    intro H locs hP hD hS
    obtain ⟨c_counters_3, e_⟩ : ∃ q : Nat → Int32, q = (upd c_counters (0 : Int32).toNatClampNeg ((c_counters (0 : Int32).toNatClampNeg) + (1 : Int32))) := ⟨_, rfl⟩
    replace hf := zn_s hf e_
    replace hP : va_P D vwCl ([(h0, .inr (12, zmo hm c_thrown c_state c_test c_words c_ill c_before c_inRow c_first c_inWindow c_same c_made c_requests c_total c_secrets c_rounds c_high c_low c_keyHigh c_keyLow)), ((hm 5), .inl (cy 1, 3, .inl c_counters_3))]) H := by rw [e_]; exact hP
    replace hD : va_D A ([(h0, .inr (12, zmo hm c_thrown c_state c_test c_words c_ill c_before c_inRow c_first c_inWindow c_same c_made c_requests c_total c_secrets c_rounds c_high c_low c_keyHigh c_keyLow)), ((hm 5), .inl (cy 1, 3, .inl c_counters_3))]) := by rw [e_]; exact hD
    clear e_
    refine lv_iload_n (pc := 18) hx hb (zdt_at zt_X10_answer_0 12 rfl) rfl (lv_at hl 1 rfl) ?_
    cases hf
    exact W.iret (pc := 19) hx hb hr (fun t ht hW => ⟨rfl, ⟨by rw [ht]; exact hP, hD⟩, hS.F ht⟩) hS.2.2 (zdt_at zt_X10_answer_0 13 rfl)
  replace hf := ze_s cn_ hf
  clear cn_
  refine lv_iconst (pc := 8) (v := (1 : Int32)) hx hb (zdt_at zt_X10_answer_0 4 rfl) (by decide) ?_
  refine lv_goto (pc := 9) (tgt := 13) hx hb (zdt_at zt_X10_answer_0 5 rfl) (by decide) ?_
  refine lv_dup2_11 (pc := 13) hx hb (zdt_at zt_X10_answer_0 7 rfl) rfl rfl ?_
  replace hf := zk_s hf
  refine va_iald (pc := 14) hx hb hK hP 1 1 rfl rfl hf.1 (zdt_at zt_X10_answer_0 8 rfl) ?_
  replace hf := hf.2
  refine lv_iconst (pc := 15) (v := (1 : Int32)) hx hb (zdt_at zt_X10_answer_0 9 rfl) (by decide) ?_
  refine lv_iadd (pc := 16) hx hb (zdt_at zt_X10_answer_0 10 rfl) ?_
  replace hf := zk_s hf
  refine va_iast (pc := 17) hx hb hK hP hD hS 1 1 rfl rfl hf.1 (zdt_at zt_X10_answer_0 11 rfl) ?_
  replace hf := hf.2
  clear hP hD hS
  intro H locs hP hD hS
  obtain ⟨c_counters_4, e_⟩ : ∃ q : Nat → Int32, q = (upd c_counters (1 : Int32).toNatClampNeg ((c_counters (1 : Int32).toNatClampNeg) + (1 : Int32))) := ⟨_, rfl⟩
  replace hf := zn_s hf e_
  replace hP : va_P D vwCl ([(h0, .inr (12, zmo hm c_thrown c_state c_test c_words c_ill c_before c_inRow c_first c_inWindow c_same c_made c_requests c_total c_secrets c_rounds c_high c_low c_keyHigh c_keyLow)), ((hm 5), .inl (cy 1, 3, .inl c_counters_4))]) H := by rw [e_]; exact hP
  replace hD : va_D A ([(h0, .inr (12, zmo hm c_thrown c_state c_test c_words c_ill c_before c_inRow c_first c_inWindow c_same c_made c_requests c_total c_secrets c_rounds c_high c_low c_keyHigh c_keyLow)), ((hm 5), .inl (cy 1, 3, .inl c_counters_4))]) := by rw [e_]; exact hD
  clear e_
  refine lv_iload_n (pc := 18) hx hb (zdt_at zt_X10_answer_0 12 rfl) rfl (lv_at hl 1 rfl) ?_
  cases hf
  exact W.iret (pc := 19) hx hb hr (fun t ht hW => ⟨rfl, ⟨by rw [ht]; exact hP, hD⟩, hS.F ht⟩) hS.2.2 (zdt_at zt_X10_answer_0 13 rfl)
set_option maxHeartbeats 4000000 in
set_option maxRecDepth 100000 in
theorem c_X10_login (l : Launch) (D : va_G) (cy : Nat → ClassId) (tt : Nat → Nat) (sz : Nat) (h0 : Nat) (hm : Nat → Nat) (p1 : Int32) (p2 : Int32) (c_state : Int32) (c_thrown : Int32) (c_counters : Nat → Int32) (c_pin : Nat → Int32) (c_tries : Nat → Int32) (c_test : Int32) (c_words : Int32) (c_ill : Int32) (c_before : Int32) (c_inRow : Int32) (c_first : Int32) (c_inWindow : Int32) (c_same : Int32) (c_made : Int32) (c_requests : Int32) (c_total : Int64) (c_secrets : Int32) (c_rounds : Int32) (c_high : Int64) (c_low : Int64) (c_keyHigh : Int64) (c_keyLow : Int64) (r_ : Int32) (c_state' : Int32) (c_thrown' : Int32) (c_counters' : Nat → Int32) (c_tries' : Nat → Int32) (hf : f_X10_login p1 p2 c_state c_thrown c_counters c_pin c_tries = some (r_, c_state', c_thrown', c_counters', c_tries')) : Met l yX10_login wsX10_login ({ frames := 1, cells := 0, slots := 0, locals := 22 }) (zPc D cy tt sz [.ref h0, .int p1, .int p2] ([(h0, .inr (12, zmo hm c_thrown c_state c_test c_words c_ill c_before c_inRow c_first c_inWindow c_same c_made c_requests c_total c_secrets c_rounds c_high c_low c_keyHigh c_keyLow)), ((hm 5), .inl (cy 1, 3, .inl c_counters)), ((hm 7), .inl (cy 1, 3, .inl c_pin)), ((hm 8), .inl (cy 1, 3, .inl c_tries))])) (zQ D (some (.int r_)) ([(h0, .inr (12, zmo hm c_thrown' c_state' c_test c_words c_ill c_before c_inRow c_first c_inWindow c_same c_made c_requests c_total c_secrets c_rounds c_high c_low c_keyHigh c_keyLow)), ((hm 5), .inl (cy 1, 3, .inl c_counters')), ((hm 7), .inl (cy 1, 3, .inl c_pin)), ((hm 8), .inl (cy 1, 3, .inl c_tries'))]) (va_A ([(h0, .inr (12, zmo hm c_thrown c_state c_test c_words c_ill c_before c_inRow c_first c_inWindow c_same c_made c_requests c_total c_secrets c_rounds c_high c_low c_keyHigh c_keyLow)), ((hm 5), .inl (cy 1, 3, .inl c_counters)), ((hm 7), .inl (cy 1, 3, .inl c_pin)), ((hm 8), .inl (cy 1, 3, .inl c_tries))]) sz)) 0 0 (va_A ([(h0, .inr (12, zmo hm c_thrown c_state c_test c_words c_ill c_before c_inRow c_first c_inWindow c_same c_made c_requests c_total c_secrets c_rounds c_high c_low c_keyHigh c_keyLow)), ((hm 5), .inl (cy 1, 3, .inl c_counters)), ((hm 7), .inl (cy 1, 3, .inl c_pin)), ((hm 8), .inl (cy 1, 3, .inl c_tries))]) sz) := by
  refine Met.ofW (cc := cX10_login) (maxL := 3) (ret := (some .int)) (by decide) rfl ?_
  intro p e s m args below meth c s₁ B hml hv
  obtain ⟨rfl, rfl, hP, hD0, hE⟩ := hv
  have hx := B.exec
  have hb := B.bytes
  have hr := B.returns
  have hts := atoms_spec (ws := wsX10_login) B.pre
  have hown : s.vm.findClass RX10 = some m.cls := findClass_of_methodNamed B.named
  have hlocks := B.notSynchronized
  clear B
  have hD := hD0.self (sz := s.heap.size)
  generalize hAe : va_A ([(h0, .inr (12, zmo hm c_thrown c_state c_test c_words c_ill c_before c_inRow c_first c_inWindow c_same c_made c_requests c_total c_secrets c_rounds c_high c_low c_keyHigh c_keyLow)), ((hm 5), .inl (cy 1, 3, .inl c_counters)), ((hm 7), .inl (cy 1, 3, .inl c_pin)), ((hm 8), .inl (cy 1, 3, .inl c_tries))]) s.heap.size = A at hD hE ⊢
  have hA : ∀ q : Nat, s.heap.size ≤ q → A q := fun q h => by rw [← hAe]; exact Or.inr h
  clear hAe hD0
  have hS : va_S A s.heap s.heap [] := va_S.rf
  have hK := hE.1
  have hw0 := hts (.fieldLink RX10 189 "SealedModuleModel" "thrown" "I") (by decide +kernel)
  have hw1 := hts (.fieldLink RX10 273 "SealedModuleModel" "state" "I") (by decide +kernel)
  have hw2 := hts (.fieldLink RX10 90 "SealedModuleModel" "tries" "[I") (by decide +kernel)
  have hw3 := hts (.fieldLink RX10 87 "SealedModuleModel" "pin" "[I") (by decide +kernel)
  have hcX10 : ∀ w ∈ u_ws RX10 TX10 52, w ∈ wsX10_login := (fun _ h => List.mem_cons_of_mem _ (List.mem_append_right _ h))
  have hl := lv_entry ([.ref h0, .int p1, .int p2]) (n := 3) (Nat.le_of_ble_eq_true rfl)
  rw [lg_entry_eq]
  generalize (lg_sl ([.ref h0, .int p1, .int p2]) ++ List.replicate (3 - (lg_sl ([.ref h0, .int p1, .int p2])).length) Slot.unset).toArray = ls at hl ⊢
  replace hl : lv_has ls 3 [(0, .ref h0), (1, .int p1), (2, .int p2)] := hl
  unfold f_X10_login at hf
  refine zgo (fun GW hTo hFr => ?_)
  refine hFr _ _ _ ?_
  obtain ⟨H, hHe⟩ : ∃ H, H = s.heap := ⟨_, rfl⟩
  obtain ⟨locs, hLe⟩ : ∃ L : List Loc, L = [] := ⟨_, rfl⟩
  rw [← hHe] at hP
  replace hS : va_S A s.heap H locs := by rw [hHe, hLe]; exact hS
  refine zat hHe.symm hLe.symm ?_
  clear hHe hLe
  refine lv_aload_n (pc := 0) hx hb (zdt_at zt_X10_login_0 0 rfl) rfl (lv_at hl 0 rfl) ?_
  refine lv_iconst (pc := 1) (v := (0 : Int32)) hx hb (zdt_at zt_X10_login_0 1 rfl) (by decide) ?_
  refine va_put (pc := 2) (D := D) (ci := 12) (v := .int (0 : Int32)) (ty := .int) (C := RX10) (T := TX10) (N := 52) hx hb hts hcX10 tyX10 tyX10_ok nmX10 hown hK hP hD hS 0 rfl rfl 1 (by decide) hw0 (fun _ h9 => h9) rfl (by decide +kernel) rfl rfl (Nat.le_of_ble_eq_true rfl) (zdt_at zt_X10_login_0 2 rfl) ?_
  clear hP hD hS
  intro H locs hP hD hS
  replace hP : va_P D vwCl ([(h0, .inr (12, zmo hm (0 : Int32) c_state c_test c_words c_ill c_before c_inRow c_first c_inWindow c_same c_made c_requests c_total c_secrets c_rounds c_high c_low c_keyHigh c_keyLow)), ((hm 5), .inl (cy 1, 3, .inl c_counters)), ((hm 7), .inl (cy 1, 3, .inl c_pin)), ((hm 8), .inl (cy 1, 3, .inl c_tries))]) H := hP
  replace hD : va_D A ([(h0, .inr (12, zmo hm (0 : Int32) c_state c_test c_words c_ill c_before c_inRow c_first c_inWindow c_same c_made c_requests c_total c_secrets c_rounds c_high c_low c_keyHigh c_keyLow)), ((hm 5), .inl (cy 1, 3, .inl c_counters)), ((hm 7), .inl (cy 1, 3, .inl c_pin)), ((hm 8), .inl (cy 1, 3, .inl c_tries))]) := hD
  refine lv_aload_n (pc := 5) hx hb (zdt_at zt_X10_login_0 3 rfl) rfl (lv_at hl 0 rfl) ?_
  refine va_get (pc := 6) (D := D) (ci := 12) (v := .int c_state) (C := RX10) (T := TX10) (N := 52) hx hb hts hcX10 hown hK hP 0 rfl rfl 2 (by decide) hw1 (fun _ h9 => h9) rfl (zdt_at zt_X10_login_0 4 rfl) ?_
  refine lv_iconst (pc := 9) (v := (2 : Int32)) hx hb (zdt_at zt_X10_login_0 5 rfl) (by decide) ?_
  refine lv_icmp_eq (pc := 10) (tgt := 19) hx hb (zdt_at zt_X10_login_0 6 rfl) (by decide) (fun cn_ => ?t_1) (fun cn_ => ?f_2)
  case f_2 =>
    replace hf := ze_s cn_ hf
    clear cn_
    refine lv_aload_n (pc := 13) hx hb (zdt_at zt_X10_login_0 7 rfl) rfl (lv_at hl 0 rfl) ?_
    refine lv_iconst (pc := 14) (v := (-1 : Int32)) hx hb (zdt_at zt_X10_login_0 8 rfl) (by decide) ?_
    replace hf := zb_s hf
    obtain ⟨⟨r_21, c_counters_22⟩, hc_, hf⟩ := hf
    refine zcn2 (pc := 15) (rv := (some (.int r_21))) (va_runV (As := [.int (-1 : Int32)]) (rest := []) ⟨hx, hb, hml, hown, hts⟩ (c_X10_answer l D cy tt H.size h0 hm (-1 : Int32) c_counters (0 : Int32) c_state c_test c_words c_ill c_before c_inRow c_first c_inWindow c_same c_made c_requests c_total c_secrets c_rounds c_high c_low c_keyHigh c_keyLow r_21 c_counters_22 hc_) (cwV 1 hts gX10_login_X10_answer rfl rfl rfl (by decide +kernel) ⟨Nat.le_of_ble_eq_true rfl, Nat.le_of_ble_eq_true rfl⟩) ⟨zblind, va_recv hK hP (ci := 12) (q0 := 0) rfl rfl, zpre hE hS (hP.sub [0, 1] rfl) (hD.sub [0, 1] (by decide) rfl) (va_free hD hS hA [0, 1] rfl)⟩ rfl rfl hl.1 rfl (lv_room (Nat.le_of_ble_eq_true rfl)) (zdt_at zt_X10_login_0 9 rfl) ⟨Nat.zero_le _, Nat.zero_le _⟩) hS hP hD (va_free hD hS hA [0, 1] rfl) [0, 1] rfl (by decide) rfl ?_
    clear hP hD hS hc_
    intro H locs hP hD hS
    replace hP : va_P D vwCl ([(h0, .inr (12, zmo hm (0 : Int32) c_state c_test c_words c_ill c_before c_inRow c_first c_inWindow c_same c_made c_requests c_total c_secrets c_rounds c_high c_low c_keyHigh c_keyLow)), ((hm 5), .inl (cy 1, 3, .inl c_counters_22)), ((hm 7), .inl (cy 1, 3, .inl c_pin)), ((hm 8), .inl (cy 1, 3, .inl c_tries))]) H := hP
    replace hD : va_D A ([(h0, .inr (12, zmo hm (0 : Int32) c_state c_test c_words c_ill c_before c_inRow c_first c_inWindow c_same c_made c_requests c_total c_secrets c_rounds c_high c_low c_keyHigh c_keyLow)), ((hm 5), .inl (cy 1, 3, .inl c_counters_22)), ((hm 7), .inl (cy 1, 3, .inl c_pin)), ((hm 8), .inl (cy 1, 3, .inl c_tries))]) := hD
    refine W.eq (g2 := F0 m 18 ls [.int r_21]) rfl ?_
    cases hf
    exact W.iret (pc := 18) hx hb hr (fun t ht hW => ⟨rfl, ⟨by rw [ht]; exact hP, hD⟩, hS.F ht⟩) hS.2.2 (zdt_at zt_X10_login_0 10 rfl)
  replace hf := zt_s cn_ hf
  clear cn_
  refine lv_iload_n (pc := 19) hx hb (zdt_at zt_X10_login_0 11 rfl) rfl (lv_at hl 1 rfl) ?_
  refine lv_iconst (pc := 20) (v := (1 : Int32)) hx hb (zdt_at zt_X10_login_0 12 rfl) (by decide) ?_
  refine lv_iconst (pc := 21) (v := (2 : Int32)) hx hb (zdt_at zt_X10_login_0 13 rfl) (by decide) ?_
  replace hf := zb_s hf
  obtain ⟨r_3, hc_, hf⟩ := hf
  refine zcs (pc := 22) (rv := (some (.int r_3))) (va_runS (As := [.int p1, .int (1 : Int32), .int (2 : Int32)]) (rest := []) ⟨hx, hb, hml, hown, hts⟩ (c_X10_in l D cy tt H.size p1 (1 : Int32) (2 : Int32) r_3 hc_) (va_cwS 3 hts gX10_login_X10_in rfl rfl rfl (by decide +kernel) ⟨Nat.le_of_ble_eq_true rfl, Nat.le_of_ble_eq_true rfl⟩) ⟨zblind, zpre hE hS (hP.sub [] rfl) (hD.sub [] (by decide) rfl) (va_free hD hS hA [] rfl)⟩ rfl rfl hl.1 rfl (lv_room (Nat.le_of_ble_eq_true rfl)) (zdt_at zt_X10_login_0 14 rfl) ⟨Nat.zero_le _, Nat.zero_le _⟩) ?_
  clear hc_
  refine W.eq (g2 := F0 m 25 ls [.int r_3]) rfl ?_
  refine lv_if_ne (pc := 25) (tgt := 35) hx hb (zdt_at zt_X10_login_0 15 rfl) (by decide) (fun cn_ => ?t_4) (fun cn_ => ?f_5)
  case f_5 =>
    replace hf := zt_s cn_ hf
    clear cn_
    refine lv_aload_n (pc := 28) hx hb (zdt_at zt_X10_login_0 16 rfl) rfl (lv_at hl 0 rfl) ?_
    refine lv_bipush (pc := 29) (v := (-2 : Int32)) hx hb (zdt_at zt_X10_login_0 17 rfl) (by decide) ?_
    replace hf := zb_s hf
    obtain ⟨⟨r_19, c_counters_20⟩, hc_, hf⟩ := hf
    refine zcn2 (pc := 31) (rv := (some (.int r_19))) (va_runV (As := [.int (-2 : Int32)]) (rest := []) ⟨hx, hb, hml, hown, hts⟩ (c_X10_answer l D cy tt H.size h0 hm (-2 : Int32) c_counters (0 : Int32) c_state c_test c_words c_ill c_before c_inRow c_first c_inWindow c_same c_made c_requests c_total c_secrets c_rounds c_high c_low c_keyHigh c_keyLow r_19 c_counters_20 hc_) (cwV 1 hts gX10_login_X10_answer rfl rfl rfl (by decide +kernel) ⟨Nat.le_of_ble_eq_true rfl, Nat.le_of_ble_eq_true rfl⟩) ⟨zblind, va_recv hK hP (ci := 12) (q0 := 0) rfl rfl, zpre hE hS (hP.sub [0, 1] rfl) (hD.sub [0, 1] (by decide) rfl) (va_free hD hS hA [0, 1] rfl)⟩ rfl rfl hl.1 rfl (lv_room (Nat.le_of_ble_eq_true rfl)) (zdt_at zt_X10_login_0 18 rfl) ⟨Nat.zero_le _, Nat.zero_le _⟩) hS hP hD (va_free hD hS hA [0, 1] rfl) [0, 1] rfl (by decide) rfl ?_
    clear hP hD hS hc_
    intro H locs hP hD hS
    replace hP : va_P D vwCl ([(h0, .inr (12, zmo hm (0 : Int32) c_state c_test c_words c_ill c_before c_inRow c_first c_inWindow c_same c_made c_requests c_total c_secrets c_rounds c_high c_low c_keyHigh c_keyLow)), ((hm 5), .inl (cy 1, 3, .inl c_counters_20)), ((hm 7), .inl (cy 1, 3, .inl c_pin)), ((hm 8), .inl (cy 1, 3, .inl c_tries))]) H := hP
    replace hD : va_D A ([(h0, .inr (12, zmo hm (0 : Int32) c_state c_test c_words c_ill c_before c_inRow c_first c_inWindow c_same c_made c_requests c_total c_secrets c_rounds c_high c_low c_keyHigh c_keyLow)), ((hm 5), .inl (cy 1, 3, .inl c_counters_20)), ((hm 7), .inl (cy 1, 3, .inl c_pin)), ((hm 8), .inl (cy 1, 3, .inl c_tries))]) := hD
    refine W.eq (g2 := F0 m 34 ls [.int r_19]) rfl ?_
    cases hf
    exact W.iret (pc := 34) hx hb hr (fun t ht hW => ⟨rfl, ⟨by rw [ht]; exact hP, hD⟩, hS.F ht⟩) hS.2.2 (zdt_at zt_X10_login_0 19 rfl)
  replace hf := ze_s cn_ hf
  clear cn_
  refine lv_aload_n (pc := 35) hx hb (zdt_at zt_X10_login_0 20 rfl) rfl (lv_at hl 0 rfl) ?_
  refine va_get (pc := 36) (D := D) (ci := 12) (v := .ref (hm 8)) (C := RX10) (T := TX10) (N := 52) hx hb hts hcX10 hown hK hP 0 rfl rfl 8 (by decide) hw2 (fun _ h9 => h9) rfl (zdt_at zt_X10_login_0 21 rfl) ?_
  refine lv_iload_n (pc := 39) hx hb (zdt_at zt_X10_login_0 22 rfl) rfl (lv_at hl 1 rfl) ?_
  replace hf := zk_s hf
  refine va_iald (pc := 40) hx hb hK hP 3 1 rfl rfl hf.1 (zdt_at zt_X10_login_0 23 rfl) ?_
  replace hf := hf.2
  refine lv_iconst (pc := 41) (v := (3 : Int32)) hx hb (zdt_at zt_X10_login_0 24 rfl) (by decide) ?_
  refine lv_icmp_ne (pc := 42) (tgt := 52) hx hb (zdt_at zt_X10_login_0 25 rfl) (by decide) (fun cn_ => ?t_6) (fun cn_ => ?f_7)
  case f_7 =>
    replace hf := zt_s cn_ hf
    clear cn_
    refine lv_aload_n (pc := 45) hx hb (zdt_at zt_X10_login_0 26 rfl) rfl (lv_at hl 0 rfl) ?_
    refine lv_bipush (pc := 46) (v := (-10 : Int32)) hx hb (zdt_at zt_X10_login_0 27 rfl) (by decide) ?_
    replace hf := zb_s hf
    obtain ⟨⟨r_17, c_counters_18⟩, hc_, hf⟩ := hf
    refine zcn2 (pc := 48) (rv := (some (.int r_17))) (va_runV (As := [.int (-10 : Int32)]) (rest := []) ⟨hx, hb, hml, hown, hts⟩ (c_X10_answer l D cy tt H.size h0 hm (-10 : Int32) c_counters (0 : Int32) c_state c_test c_words c_ill c_before c_inRow c_first c_inWindow c_same c_made c_requests c_total c_secrets c_rounds c_high c_low c_keyHigh c_keyLow r_17 c_counters_18 hc_) (cwV 1 hts gX10_login_X10_answer rfl rfl rfl (by decide +kernel) ⟨Nat.le_of_ble_eq_true rfl, Nat.le_of_ble_eq_true rfl⟩) ⟨zblind, va_recv hK hP (ci := 12) (q0 := 0) rfl rfl, zpre hE hS (hP.sub [0, 1] rfl) (hD.sub [0, 1] (by decide) rfl) (va_free hD hS hA [0, 1] rfl)⟩ rfl rfl hl.1 rfl (lv_room (Nat.le_of_ble_eq_true rfl)) (zdt_at zt_X10_login_0 28 rfl) ⟨Nat.zero_le _, Nat.zero_le _⟩) hS hP hD (va_free hD hS hA [0, 1] rfl) [0, 1] rfl (by decide) rfl ?_
    clear hP hD hS hc_
    intro H locs hP hD hS
    replace hP : va_P D vwCl ([(h0, .inr (12, zmo hm (0 : Int32) c_state c_test c_words c_ill c_before c_inRow c_first c_inWindow c_same c_made c_requests c_total c_secrets c_rounds c_high c_low c_keyHigh c_keyLow)), ((hm 5), .inl (cy 1, 3, .inl c_counters_18)), ((hm 7), .inl (cy 1, 3, .inl c_pin)), ((hm 8), .inl (cy 1, 3, .inl c_tries))]) H := hP
    replace hD : va_D A ([(h0, .inr (12, zmo hm (0 : Int32) c_state c_test c_words c_ill c_before c_inRow c_first c_inWindow c_same c_made c_requests c_total c_secrets c_rounds c_high c_low c_keyHigh c_keyLow)), ((hm 5), .inl (cy 1, 3, .inl c_counters_18)), ((hm 7), .inl (cy 1, 3, .inl c_pin)), ((hm 8), .inl (cy 1, 3, .inl c_tries))]) := hD
    refine W.eq (g2 := F0 m 51 ls [.int r_17]) rfl ?_
    cases hf
    exact W.iret (pc := 51) hx hb hr (fun t ht hW => ⟨rfl, ⟨by rw [ht]; exact hP, hD⟩, hS.F ht⟩) hS.2.2 (zdt_at zt_X10_login_0 29 rfl)
  replace hf := ze_s cn_ hf
  clear cn_
  refine lv_iload_n (pc := 52) hx hb (zdt_at zt_X10_login_0 30 rfl) rfl (lv_at hl 2 rfl) ?_
  refine lv_aload_n (pc := 53) hx hb (zdt_at zt_X10_login_0 31 rfl) rfl (lv_at hl 0 rfl) ?_
  refine va_get (pc := 54) (D := D) (ci := 12) (v := .ref (hm 7)) (C := RX10) (T := TX10) (N := 52) hx hb hts hcX10 hown hK hP 0 rfl rfl 7 (by decide) hw3 (fun _ h9 => h9) rfl (zdt_at zt_X10_login_0 32 rfl) ?_
  refine lv_iload_n (pc := 57) hx hb (zdt_at zt_X10_login_0 33 rfl) rfl (lv_at hl 1 rfl) ?_
  replace hf := zk_s hf
  refine va_iald (pc := 58) hx hb hK hP 2 1 rfl rfl hf.1 (zdt_at zt_X10_login_0 34 rfl) ?_
  replace hf := hf.2
  refine lv_icmp_eq (pc := 59) (tgt := 79) hx hb (zdt_at zt_X10_login_0 35 rfl) (by decide) (fun cn_ => ?t_8) (fun cn_ => ?f_9)
  case f_9 =>
    replace hf := ze_s cn_ hf
    clear cn_
    refine lv_aload_n (pc := 62) hx hb (zdt_at zt_X10_login_0 36 rfl) rfl (lv_at hl 0 rfl) ?_
    refine va_get (pc := 63) (D := D) (ci := 12) (v := .ref (hm 8)) (C := RX10) (T := TX10) (N := 52) hx hb hts hcX10 hown hK hP 0 rfl rfl 8 (by decide) hw2 (fun _ h9 => h9) rfl (zdt_at zt_X10_login_0 37 rfl) ?_
    refine lv_iload_n (pc := 66) hx hb (zdt_at zt_X10_login_0 38 rfl) rfl (lv_at hl 1 rfl) ?_
    refine lv_dup2_11 (pc := 67) hx hb (zdt_at zt_X10_login_0 39 rfl) rfl rfl ?_
    replace hf := zk_s hf
    refine va_iald (pc := 68) hx hb hK hP 3 1 rfl rfl hf.1 (zdt_at zt_X10_login_0 40 rfl) ?_
    replace hf := hf.2
    refine lv_iconst (pc := 69) (v := (1 : Int32)) hx hb (zdt_at zt_X10_login_0 41 rfl) (by decide) ?_
    refine lv_iadd (pc := 70) hx hb (zdt_at zt_X10_login_0 42 rfl) ?_
    replace hf := zk_s hf
    refine va_iast (pc := 71) hx hb hK hP hD hS 3 1 rfl rfl hf.1 (zdt_at zt_X10_login_0 43 rfl) ?_
    replace hf := hf.2
    clear hP hD hS
    intro H locs hP hD hS
    obtain ⟨c_tries_14, e_⟩ : ∃ q : Nat → Int32, q = (upd c_tries p1.toNatClampNeg ((c_tries p1.toNatClampNeg) + (1 : Int32))) := ⟨_, rfl⟩
    replace hf := zn_s hf e_
    replace hP : va_P D vwCl ([(h0, .inr (12, zmo hm (0 : Int32) c_state c_test c_words c_ill c_before c_inRow c_first c_inWindow c_same c_made c_requests c_total c_secrets c_rounds c_high c_low c_keyHigh c_keyLow)), ((hm 5), .inl (cy 1, 3, .inl c_counters)), ((hm 7), .inl (cy 1, 3, .inl c_pin)), ((hm 8), .inl (cy 1, 3, .inl c_tries_14))]) H := by rw [e_]; exact hP
    replace hD : va_D A ([(h0, .inr (12, zmo hm (0 : Int32) c_state c_test c_words c_ill c_before c_inRow c_first c_inWindow c_same c_made c_requests c_total c_secrets c_rounds c_high c_low c_keyHigh c_keyLow)), ((hm 5), .inl (cy 1, 3, .inl c_counters)), ((hm 7), .inl (cy 1, 3, .inl c_pin)), ((hm 8), .inl (cy 1, 3, .inl c_tries_14))]) := by rw [e_]; exact hD
    clear e_
    refine lv_aload_n (pc := 72) hx hb (zdt_at zt_X10_login_0 44 rfl) rfl (lv_at hl 0 rfl) ?_
    refine lv_bipush (pc := 73) (v := (-10 : Int32)) hx hb (zdt_at zt_X10_login_0 45 rfl) (by decide) ?_
    replace hf := zb_s hf
    obtain ⟨⟨r_15, c_counters_16⟩, hc_, hf⟩ := hf
    refine zcn2 (pc := 75) (rv := (some (.int r_15))) (va_runV (As := [.int (-10 : Int32)]) (rest := []) ⟨hx, hb, hml, hown, hts⟩ (c_X10_answer l D cy tt H.size h0 hm (-10 : Int32) c_counters (0 : Int32) c_state c_test c_words c_ill c_before c_inRow c_first c_inWindow c_same c_made c_requests c_total c_secrets c_rounds c_high c_low c_keyHigh c_keyLow r_15 c_counters_16 hc_) (cwV 1 hts gX10_login_X10_answer rfl rfl rfl (by decide +kernel) ⟨Nat.le_of_ble_eq_true rfl, Nat.le_of_ble_eq_true rfl⟩) ⟨zblind, va_recv hK hP (ci := 12) (q0 := 0) rfl rfl, zpre hE hS (hP.sub [0, 1] rfl) (hD.sub [0, 1] (by decide) rfl) (va_free hD hS hA [0, 1] rfl)⟩ rfl rfl hl.1 rfl (lv_room (Nat.le_of_ble_eq_true rfl)) (zdt_at zt_X10_login_0 46 rfl) ⟨Nat.zero_le _, Nat.zero_le _⟩) hS hP hD (va_free hD hS hA [0, 1] rfl) [0, 1] rfl (by decide) rfl ?_
    clear hP hD hS hc_
    intro H locs hP hD hS
    replace hP : va_P D vwCl ([(h0, .inr (12, zmo hm (0 : Int32) c_state c_test c_words c_ill c_before c_inRow c_first c_inWindow c_same c_made c_requests c_total c_secrets c_rounds c_high c_low c_keyHigh c_keyLow)), ((hm 5), .inl (cy 1, 3, .inl c_counters_16)), ((hm 7), .inl (cy 1, 3, .inl c_pin)), ((hm 8), .inl (cy 1, 3, .inl c_tries_14))]) H := hP
    replace hD : va_D A ([(h0, .inr (12, zmo hm (0 : Int32) c_state c_test c_words c_ill c_before c_inRow c_first c_inWindow c_same c_made c_requests c_total c_secrets c_rounds c_high c_low c_keyHigh c_keyLow)), ((hm 5), .inl (cy 1, 3, .inl c_counters_16)), ((hm 7), .inl (cy 1, 3, .inl c_pin)), ((hm 8), .inl (cy 1, 3, .inl c_tries_14))]) := hD
    refine W.eq (g2 := F0 m 78 ls [.int r_15]) rfl ?_
    cases hf
    exact W.iret (pc := 78) hx hb hr (fun t ht hW => ⟨rfl, ⟨by rw [ht]; exact hP, hD⟩, hS.F ht⟩) hS.2.2 (zdt_at zt_X10_login_0 47 rfl)
  replace hf := zt_s cn_ hf
  clear cn_
  refine lv_aload_n (pc := 79) hx hb (zdt_at zt_X10_login_0 48 rfl) rfl (lv_at hl 0 rfl) ?_
  refine va_get (pc := 80) (D := D) (ci := 12) (v := .ref (hm 8)) (C := RX10) (T := TX10) (N := 52) hx hb hts hcX10 hown hK hP 0 rfl rfl 8 (by decide) hw2 (fun _ h9 => h9) rfl (zdt_at zt_X10_login_0 49 rfl) ?_
  refine lv_iload_n (pc := 83) hx hb (zdt_at zt_X10_login_0 50 rfl) rfl (lv_at hl 1 rfl) ?_
  refine lv_iconst (pc := 84) (v := (0 : Int32)) hx hb (zdt_at zt_X10_login_0 51 rfl) (by decide) ?_
  replace hf := zk_s hf
  refine va_iast (pc := 85) hx hb hK hP hD hS 3 1 rfl rfl hf.1 (zdt_at zt_X10_login_0 52 rfl) ?_
  replace hf := hf.2
  clear hP hD hS
  intro H locs hP hD hS
  obtain ⟨c_tries_10, e_⟩ : ∃ q : Nat → Int32, q = (upd c_tries p1.toNatClampNeg (0 : Int32)) := ⟨_, rfl⟩
  replace hf := zn_s hf e_
  replace hP : va_P D vwCl ([(h0, .inr (12, zmo hm (0 : Int32) c_state c_test c_words c_ill c_before c_inRow c_first c_inWindow c_same c_made c_requests c_total c_secrets c_rounds c_high c_low c_keyHigh c_keyLow)), ((hm 5), .inl (cy 1, 3, .inl c_counters)), ((hm 7), .inl (cy 1, 3, .inl c_pin)), ((hm 8), .inl (cy 1, 3, .inl c_tries_10))]) H := by rw [e_]; exact hP
  replace hD : va_D A ([(h0, .inr (12, zmo hm (0 : Int32) c_state c_test c_words c_ill c_before c_inRow c_first c_inWindow c_same c_made c_requests c_total c_secrets c_rounds c_high c_low c_keyHigh c_keyLow)), ((hm 5), .inl (cy 1, 3, .inl c_counters)), ((hm 7), .inl (cy 1, 3, .inl c_pin)), ((hm 8), .inl (cy 1, 3, .inl c_tries_10))]) := by rw [e_]; exact hD
  clear e_
  refine lv_aload_n (pc := 86) hx hb (zdt_at zt_X10_login_0 53 rfl) rfl (lv_at hl 0 rfl) ?_
  refine lv_iconst (pc := 87) (v := (2 : Int32)) hx hb (zdt_at zt_X10_login_0 54 rfl) (by decide) ?_
  refine lv_iload_n (pc := 88) hx hb (zdt_at zt_X10_login_0 55 rfl) rfl (lv_at hl 1 rfl) ?_
  refine lv_iadd (pc := 89) hx hb (zdt_at zt_X10_login_0 56 rfl) ?_
  refine lv_topi (fun x_11 e_ => ?_)
  replace hf := zn_s hf e_
  clear e_
  refine va_put (pc := 90) (D := D) (ci := 12) (v := .int x_11) (ty := .int) (C := RX10) (T := TX10) (N := 52) hx hb hts hcX10 tyX10 tyX10_ok nmX10 hown hK hP hD hS 0 rfl rfl 2 (by decide) hw1 (fun _ h9 => h9) rfl (by decide +kernel) rfl rfl (Nat.le_of_ble_eq_true rfl) (zdt_at zt_X10_login_0 57 rfl) ?_
  clear hP hD hS
  intro H locs hP hD hS
  replace hP : va_P D vwCl ([(h0, .inr (12, zmo hm (0 : Int32) x_11 c_test c_words c_ill c_before c_inRow c_first c_inWindow c_same c_made c_requests c_total c_secrets c_rounds c_high c_low c_keyHigh c_keyLow)), ((hm 5), .inl (cy 1, 3, .inl c_counters)), ((hm 7), .inl (cy 1, 3, .inl c_pin)), ((hm 8), .inl (cy 1, 3, .inl c_tries_10))]) H := hP
  replace hD : va_D A ([(h0, .inr (12, zmo hm (0 : Int32) x_11 c_test c_words c_ill c_before c_inRow c_first c_inWindow c_same c_made c_requests c_total c_secrets c_rounds c_high c_low c_keyHigh c_keyLow)), ((hm 5), .inl (cy 1, 3, .inl c_counters)), ((hm 7), .inl (cy 1, 3, .inl c_pin)), ((hm 8), .inl (cy 1, 3, .inl c_tries_10))]) := hD
  refine lv_aload_n (pc := 93) hx hb (zdt_at zt_X10_login_0 58 rfl) rfl (lv_at hl 0 rfl) ?_
  refine lv_iconst (pc := 94) (v := (0 : Int32)) hx hb (zdt_at zt_X10_login_0 59 rfl) (by decide) ?_
  replace hf := zb_s hf
  obtain ⟨⟨r_12, c_counters_13⟩, hc_, hf⟩ := hf
  refine zcn2 (pc := 95) (rv := (some (.int r_12))) (va_runV (As := [.int (0 : Int32)]) (rest := []) ⟨hx, hb, hml, hown, hts⟩ (c_X10_answer l D cy tt H.size h0 hm (0 : Int32) c_counters (0 : Int32) x_11 c_test c_words c_ill c_before c_inRow c_first c_inWindow c_same c_made c_requests c_total c_secrets c_rounds c_high c_low c_keyHigh c_keyLow r_12 c_counters_13 hc_) (cwV 1 hts gX10_login_X10_answer rfl rfl rfl (by decide +kernel) ⟨Nat.le_of_ble_eq_true rfl, Nat.le_of_ble_eq_true rfl⟩) ⟨zblind, va_recv hK hP (ci := 12) (q0 := 0) rfl rfl, zpre hE hS (hP.sub [0, 1] rfl) (hD.sub [0, 1] (by decide) rfl) (va_free hD hS hA [0, 1] rfl)⟩ rfl rfl hl.1 rfl (lv_room (Nat.le_of_ble_eq_true rfl)) (zdt_at zt_X10_login_0 60 rfl) ⟨Nat.zero_le _, Nat.zero_le _⟩) hS hP hD (va_free hD hS hA [0, 1] rfl) [0, 1] rfl (by decide) rfl ?_
  clear hP hD hS hc_
  intro H locs hP hD hS
  replace hP : va_P D vwCl ([(h0, .inr (12, zmo hm (0 : Int32) x_11 c_test c_words c_ill c_before c_inRow c_first c_inWindow c_same c_made c_requests c_total c_secrets c_rounds c_high c_low c_keyHigh c_keyLow)), ((hm 5), .inl (cy 1, 3, .inl c_counters_13)), ((hm 7), .inl (cy 1, 3, .inl c_pin)), ((hm 8), .inl (cy 1, 3, .inl c_tries_10))]) H := hP
  replace hD : va_D A ([(h0, .inr (12, zmo hm (0 : Int32) x_11 c_test c_words c_ill c_before c_inRow c_first c_inWindow c_same c_made c_requests c_total c_secrets c_rounds c_high c_low c_keyHigh c_keyLow)), ((hm 5), .inl (cy 1, 3, .inl c_counters_13)), ((hm 7), .inl (cy 1, 3, .inl c_pin)), ((hm 8), .inl (cy 1, 3, .inl c_tries_10))]) := hD
  refine W.eq (g2 := F0 m 98 ls [.int r_12]) rfl ?_
  cases hf
  exact W.iret (pc := 98) hx hb hr (fun t ht hW => ⟨rfl, ⟨by rw [ht]; exact hP, hD⟩, hS.F ht⟩) hS.2.2 (zdt_at zt_X10_login_0 61 rfl)
set_option maxHeartbeats 4000000 in
set_option maxRecDepth 100000 in
theorem c_X10_logout (l : Launch) (D : va_G) (cy : Nat → ClassId) (tt : Nat → Nat) (sz : Nat) (h0 : Nat) (hm : Nat → Nat) (c_state : Int32) (c_thrown : Int32) (c_taken : Nat → Int64) (c_test : Int32) (c_words : Int32) (c_ill : Int32) (c_before : Int32) (c_inRow : Int32) (c_first : Int32) (c_inWindow : Int32) (c_same : Int32) (c_made : Int32) (c_requests : Int32) (c_total : Int64) (c_secrets : Int32) (c_rounds : Int32) (c_high : Int64) (c_low : Int64) (c_keyHigh : Int64) (c_keyLow : Int64) (c_state' : Int32) (c_thrown' : Int32) (c_taken' : Nat → Int64) (hf : f_X10_logout c_state c_thrown c_taken = some (c_state', c_thrown', c_taken')) : Met l yX10_logout wsX10_logout ({ frames := 1, cells := 0, slots := 0, locals := 20 }) (zPc D cy tt sz [.ref h0] ([(h0, .inr (12, zmo hm c_thrown c_state c_test c_words c_ill c_before c_inRow c_first c_inWindow c_same c_made c_requests c_total c_secrets c_rounds c_high c_low c_keyHigh c_keyLow)), ((hm 27), .inl (cy 2, 3, .inr (.inl c_taken)))])) (zQ D none ([(h0, .inr (12, zmo hm c_thrown' c_state' c_test c_words c_ill c_before c_inRow c_first c_inWindow c_same c_made c_requests c_total c_secrets c_rounds c_high c_low c_keyHigh c_keyLow)), ((hm 27), .inl (cy 2, 3, .inr (.inl c_taken')))]) (va_A ([(h0, .inr (12, zmo hm c_thrown c_state c_test c_words c_ill c_before c_inRow c_first c_inWindow c_same c_made c_requests c_total c_secrets c_rounds c_high c_low c_keyHigh c_keyLow)), ((hm 27), .inl (cy 2, 3, .inr (.inl c_taken)))]) sz)) 0 0 (va_A ([(h0, .inr (12, zmo hm c_thrown c_state c_test c_words c_ill c_before c_inRow c_first c_inWindow c_same c_made c_requests c_total c_secrets c_rounds c_high c_low c_keyHigh c_keyLow)), ((hm 27), .inl (cy 2, 3, .inr (.inl c_taken)))]) sz) := by
  refine Met.ofW (cc := cX10_logout) (maxL := 1) (ret := none) (by decide) rfl ?_
  intro p e s m args below meth c s₁ B hml hv
  obtain ⟨rfl, rfl, hP, hD0, hE⟩ := hv
  have hx := B.exec
  have hb := B.bytes
  have hr := B.returns
  have hts := atoms_spec (ws := wsX10_logout) B.pre
  have hown : s.vm.findClass RX10 = some m.cls := findClass_of_methodNamed B.named
  have hlocks := B.notSynchronized
  clear B
  have hD := hD0.self (sz := s.heap.size)
  generalize hAe : va_A ([(h0, .inr (12, zmo hm c_thrown c_state c_test c_words c_ill c_before c_inRow c_first c_inWindow c_same c_made c_requests c_total c_secrets c_rounds c_high c_low c_keyHigh c_keyLow)), ((hm 27), .inl (cy 2, 3, .inr (.inl c_taken)))]) s.heap.size = A at hD hE ⊢
  have hA : ∀ q : Nat, s.heap.size ≤ q → A q := fun q h => by rw [← hAe]; exact Or.inr h
  clear hAe hD0
  have hS : va_S A s.heap s.heap [] := va_S.rf
  have hK := hE.1
  have hw0 := hts (.fieldLink RX10 189 "SealedModuleModel" "thrown" "I") (by decide +kernel)
  have hw1 := hts (.fieldLink RX10 122 "SealedModuleModel" "taken" "[J") (by decide +kernel)
  have hw2 := hts (.constantLong RX10 120 (-1)) (by decide +kernel)
  have hw3 := hts (.fieldLink RX10 273 "SealedModuleModel" "state" "I") (by decide +kernel)
  have hcX10 : ∀ w ∈ u_ws RX10 TX10 52, w ∈ wsX10_logout := (fun _ h => List.mem_cons_of_mem _ (List.mem_append_right _ h))
  have hl := lv_entry ([.ref h0]) (n := 1) (Nat.le_of_ble_eq_true rfl)
  rw [lg_entry_eq]
  generalize (lg_sl ([.ref h0]) ++ List.replicate (1 - (lg_sl ([.ref h0])).length) Slot.unset).toArray = ls at hl ⊢
  replace hl : lv_has ls 1 [(0, .ref h0)] := hl
  unfold f_X10_logout at hf
  refine zgo (fun GW hTo hFr => ?_)
  refine hFr _ _ _ ?_
  obtain ⟨H, hHe⟩ : ∃ H, H = s.heap := ⟨_, rfl⟩
  obtain ⟨locs, hLe⟩ : ∃ L : List Loc, L = [] := ⟨_, rfl⟩
  rw [← hHe] at hP
  replace hS : va_S A s.heap H locs := by rw [hHe, hLe]; exact hS
  refine zat hHe.symm hLe.symm ?_
  clear hHe hLe
  refine lv_aload_n (pc := 0) hx hb (zdt_at zt_X10_logout_0 0 rfl) rfl (lv_at hl 0 rfl) ?_
  refine lv_aload_n (pc := 1) hx hb (zdt_at zt_X10_logout_0 1 rfl) rfl (lv_at hl 0 rfl) ?_
  replace hf := zb_s hf
  obtain ⟨r_1, hc_, hf⟩ := hf
  refine zcs (pc := 2) (rv := (some (.int r_1))) (va_runV (As := []) (rest := [.ref h0]) ⟨hx, hb, hml, hown, hts⟩ (c_X10_isIn l D cy tt H.size h0 hm c_state c_thrown c_test c_words c_ill c_before c_inRow c_first c_inWindow c_same c_made c_requests c_total c_secrets c_rounds c_high c_low c_keyHigh c_keyLow r_1 hc_) (cwV 0 hts gX10_logout_X10_isIn rfl rfl rfl (by decide +kernel) ⟨Nat.le_of_ble_eq_true rfl, Nat.le_of_ble_eq_true rfl⟩) ⟨zblind, va_recv hK hP (ci := 12) (q0 := 0) rfl rfl, zpre hE hS (hP.sub [0] rfl) (hD.sub [0] (by decide) rfl) (va_free hD hS hA [0] rfl)⟩ rfl rfl hl.1 rfl (lv_room (Nat.le_of_ble_eq_true rfl)) (zdt_at zt_X10_logout_0 2 rfl) ⟨Nat.zero_le _, Nat.zero_le _⟩) ?_
  clear hc_
  refine W.eq (g2 := F0 m 5 ls [.int r_1, .ref h0]) rfl ?_
  replace hf := zj_s hf
  obtain ⟨K_3, eK_3, hf⟩ := hf
  have kK_3 : ∀ (v_2 : Int32) (H : Heap) (locs : List Loc) (ls : Array Slot), va_P D vwCl ([(h0, .inr (12, zmo hm c_thrown c_state c_test c_words c_ill c_before c_inRow c_first c_inWindow c_same c_made c_requests c_total c_secrets c_rounds c_high c_low c_keyHigh c_keyLow)), ((hm 27), .inl (cy 2, 3, .inr (.inl c_taken)))]) H → va_D A ([(h0, .inr (12, zmo hm c_thrown c_state c_test c_words c_ill c_before c_inRow c_first c_inWindow c_same c_made c_requests c_total c_secrets c_rounds c_high c_low c_keyHigh c_keyLow)), ((hm 27), .inl (cy 2, 3, .inr (.inl c_taken)))]) → va_S A s.heap H locs → lv_has ls 1 [(0, .ref h0)] → K_3 v_2 = some (c_state', c_thrown', c_taken') → GW H locs (F0 m 13 ls [.int v_2, .ref h0]) := by
    clear hf hl hP hD hS
    intro v_2 H locs ls hP hD hS hl hf
    rw [eK_3] at hf
    clear eK_3
    refine hFr _ _ _ ?_
    refine va_put (pc := 13) (D := D) (ci := 12) (v := .int v_2) (ty := .int) (C := RX10) (T := TX10) (N := 52) hx hb hts hcX10 tyX10 tyX10_ok nmX10 hown hK hP hD hS 0 rfl rfl 1 (by decide) hw0 (fun _ h9 => h9) rfl (by decide +kernel) rfl rfl (Nat.le_of_ble_eq_true rfl) (zdt_at zt_X10_logout_0 7 rfl) ?_
    clear hP hD hS
    intro H locs hP hD hS
    replace hP : va_P D vwCl ([(h0, .inr (12, zmo hm v_2 c_state c_test c_words c_ill c_before c_inRow c_first c_inWindow c_same c_made c_requests c_total c_secrets c_rounds c_high c_low c_keyHigh c_keyLow)), ((hm 27), .inl (cy 2, 3, .inr (.inl c_taken)))]) H := hP
    replace hD : va_D A ([(h0, .inr (12, zmo hm v_2 c_state c_test c_words c_ill c_before c_inRow c_first c_inWindow c_same c_made c_requests c_total c_secrets c_rounds c_high c_low c_keyHigh c_keyLow)), ((hm 27), .inl (cy 2, 3, .inr (.inl c_taken)))]) := hD
    refine lv_aload_n (pc := 16) hx hb (zdt_at zt_X10_logout_0 8 rfl) rfl (lv_at hl 0 rfl) ?_
    refine va_get (pc := 17) (D := D) (ci := 12) (v := .int v_2) (C := RX10) (T := TX10) (N := 52) hx hb hts hcX10 hown hK hP 0 rfl rfl 1 (by decide) hw0 (fun _ h9 => h9) rfl (zdt_at zt_X10_logout_0 9 rfl) ?_
    refine lv_if_le (pc := 20) (tgt := 24) hx hb (zdt_at zt_X10_logout_0 10 rfl) (by decide) (fun cn_ => ?t_4) (fun cn_ => ?f_5)
    case f_5 =>
      replace hf := ze_s cn_ hf
      clear cn_
      cases hf
      exact W.vret (pc := 23) hx hb hr (fun t ht hW => ⟨rfl, ⟨by rw [ht]; exact hP, hD⟩, hS.F ht⟩) hS.2.2 (zdt_at zt_X10_logout_0 11 rfl)
    replace hf := zt_s cn_ hf
    clear cn_
    refine lv_aload_n (pc := 24) hx hb (zdt_at zt_X10_logout_0 12 rfl) rfl (lv_at hl 0 rfl) ?_
    refine va_get (pc := 25) (D := D) (ci := 12) (v := .ref (hm 27)) (C := RX10) (T := TX10) (N := 52) hx hb hts hcX10 hown hK hP 0 rfl rfl 27 (by decide) hw1 (fun _ h9 => h9) rfl (zdt_at zt_X10_logout_0 13 rfl) ?_
    refine lv_aload_n (pc := 28) hx hb (zdt_at zt_X10_logout_0 14 rfl) rfl (lv_at hl 0 rfl) ?_
    replace hf := zb_s hf
    obtain ⟨r_6, hc_, hf⟩ := hf
    refine zcs (pc := 29) (rv := (some (.int r_6))) (va_runV (As := []) (rest := [.ref (hm 27)]) ⟨hx, hb, hml, hown, hts⟩ (c_X10_role l D cy tt H.size h0 hm c_state v_2 c_test c_words c_ill c_before c_inRow c_first c_inWindow c_same c_made c_requests c_total c_secrets c_rounds c_high c_low c_keyHigh c_keyLow r_6 hc_) (cwV 0 hts gX10_logout_X10_role rfl rfl rfl (by decide +kernel) ⟨Nat.le_of_ble_eq_true rfl, Nat.le_of_ble_eq_true rfl⟩) ⟨zblind, va_recv hK hP (ci := 12) (q0 := 0) rfl rfl, zpre hE hS (hP.sub [0] rfl) (hD.sub [0] (by decide) rfl) (va_free hD hS hA [0] rfl)⟩ rfl rfl hl.1 rfl (lv_room (Nat.le_of_ble_eq_true rfl)) (zdt_at zt_X10_logout_0 15 rfl) ⟨Nat.zero_le _, Nat.zero_le _⟩) ?_
    clear hc_
    refine W.eq (g2 := F0 m 32 ls [.int r_6, .ref (hm 27)]) rfl ?_
    refine lv_ldc2 (pc := 32) hx hb hown hw2 (zdt_at zt_X10_logout_0 16 rfl) ?_
    replace hf := zk_s hf
    refine va_last (pc := 35) hx hb hK hP hD hS 1 2 rfl rfl hf.1 (zdt_at zt_X10_logout_0 17 rfl) ?_
    replace hf := hf.2
    clear hP hD hS
    intro H locs hP hD hS
    obtain ⟨c_taken_7, e_⟩ : ∃ q : Nat → Int64, q = (vp_updL c_taken r_6.toNatClampNeg (-1 : Int64)) := ⟨_, rfl⟩
    replace hf := zn_s hf e_
    replace hP : va_P D vwCl ([(h0, .inr (12, zmo hm v_2 c_state c_test c_words c_ill c_before c_inRow c_first c_inWindow c_same c_made c_requests c_total c_secrets c_rounds c_high c_low c_keyHigh c_keyLow)), ((hm 27), .inl (cy 2, 3, .inr (.inl c_taken_7)))]) H := by rw [e_]; exact hP
    replace hD : va_D A ([(h0, .inr (12, zmo hm v_2 c_state c_test c_words c_ill c_before c_inRow c_first c_inWindow c_same c_made c_requests c_total c_secrets c_rounds c_high c_low c_keyHigh c_keyLow)), ((hm 27), .inl (cy 2, 3, .inr (.inl c_taken_7)))]) := by rw [e_]; exact hD
    clear e_
    refine lv_aload_n (pc := 36) hx hb (zdt_at zt_X10_logout_0 18 rfl) rfl (lv_at hl 0 rfl) ?_
    refine lv_iconst (pc := 37) (v := (2 : Int32)) hx hb (zdt_at zt_X10_logout_0 19 rfl) (by decide) ?_
    refine va_put (pc := 38) (D := D) (ci := 12) (v := .int (2 : Int32)) (ty := .int) (C := RX10) (T := TX10) (N := 52) hx hb hts hcX10 tyX10 tyX10_ok nmX10 hown hK hP hD hS 0 rfl rfl 2 (by decide) hw3 (fun _ h9 => h9) rfl (by decide +kernel) rfl rfl (Nat.le_of_ble_eq_true rfl) (zdt_at zt_X10_logout_0 20 rfl) ?_
    clear hP hD hS
    intro H locs hP hD hS
    replace hP : va_P D vwCl ([(h0, .inr (12, zmo hm v_2 (2 : Int32) c_test c_words c_ill c_before c_inRow c_first c_inWindow c_same c_made c_requests c_total c_secrets c_rounds c_high c_low c_keyHigh c_keyLow)), ((hm 27), .inl (cy 2, 3, .inr (.inl c_taken_7)))]) H := hP
    replace hD : va_D A ([(h0, .inr (12, zmo hm v_2 (2 : Int32) c_test c_words c_ill c_before c_inRow c_first c_inWindow c_same c_made c_requests c_total c_secrets c_rounds c_high c_low c_keyHigh c_keyLow)), ((hm 27), .inl (cy 2, 3, .inr (.inl c_taken_7)))]) := hD
    cases hf
    exact W.vret (pc := 41) hx hb hr (fun t ht hW => ⟨rfl, ⟨by rw [ht]; exact hP, hD⟩, hS.F ht⟩) hS.2.2 (zdt_at zt_X10_logout_0 21 rfl)
  clear eK_3
  refine lv_if_eq (pc := 5) (tgt := 12) hx hb (zdt_at zt_X10_logout_0 3 rfl) (by decide) (fun cn_ => ?t_8) (fun cn_ => ?f_9)
  case t_8 =>
    replace hf := zt_s cn_ hf
    clear cn_
    refine lv_iconst (pc := 12) (v := (1 : Int32)) hx hb (zdt_at zt_X10_logout_0 6 rfl) (by decide) ?_
    exact hTo _ _ _ (kK_3 _ H locs ls hP hD hS (lv_sub hl [0] rfl) hf)
  replace hf := ze_s cn_ hf
  clear cn_
  refine lv_iconst (pc := 8) (v := (0 : Int32)) hx hb (zdt_at zt_X10_logout_0 4 rfl) (by decide) ?_
  refine lv_goto (pc := 9) (tgt := 13) hx hb (zdt_at zt_X10_logout_0 5 rfl) (by decide) ?_
  exact hTo _ _ _ (kK_3 _ H locs ls hP hD hS (lv_sub hl [0] rfl) hf)
set_option maxHeartbeats 4000000 in
set_option maxRecDepth 100000 in
theorem c_X10_setPin (l : Launch) (D : va_G) (cy : Nat → ClassId) (tt : Nat → Nat) (sz : Nat) (h0 : Nat) (hm : Nat → Nat) (p1 : Int32) (p2 : Int32) (c_state : Int32) (c_thrown : Int32) (c_counters : Nat → Int32) (c_pin : Nat → Int32) (c_tries : Nat → Int32) (c_test : Int32) (c_words : Int32) (c_ill : Int32) (c_before : Int32) (c_inRow : Int32) (c_first : Int32) (c_inWindow : Int32) (c_same : Int32) (c_made : Int32) (c_requests : Int32) (c_total : Int64) (c_secrets : Int32) (c_rounds : Int32) (c_high : Int64) (c_low : Int64) (c_keyHigh : Int64) (c_keyLow : Int64) (r_ : Int32) (c_thrown' : Int32) (c_counters' : Nat → Int32) (c_pin' : Nat → Int32) (c_tries' : Nat → Int32) (hf : f_X10_setPin p1 p2 c_state c_thrown c_counters c_pin c_tries = some (r_, c_thrown', c_counters', c_pin', c_tries')) : Met l yX10_setPin wsX10_setPin ({ frames := 1, cells := 0, slots := 0, locals := 22 }) (zPc D cy tt sz [.ref h0, .int p1, .int p2] ([(h0, .inr (12, zmo hm c_thrown c_state c_test c_words c_ill c_before c_inRow c_first c_inWindow c_same c_made c_requests c_total c_secrets c_rounds c_high c_low c_keyHigh c_keyLow)), ((hm 5), .inl (cy 1, 3, .inl c_counters)), ((hm 7), .inl (cy 1, 3, .inl c_pin)), ((hm 8), .inl (cy 1, 3, .inl c_tries))])) (zQ D (some (.int r_)) ([(h0, .inr (12, zmo hm c_thrown' c_state c_test c_words c_ill c_before c_inRow c_first c_inWindow c_same c_made c_requests c_total c_secrets c_rounds c_high c_low c_keyHigh c_keyLow)), ((hm 5), .inl (cy 1, 3, .inl c_counters')), ((hm 7), .inl (cy 1, 3, .inl c_pin')), ((hm 8), .inl (cy 1, 3, .inl c_tries'))]) (va_A ([(h0, .inr (12, zmo hm c_thrown c_state c_test c_words c_ill c_before c_inRow c_first c_inWindow c_same c_made c_requests c_total c_secrets c_rounds c_high c_low c_keyHigh c_keyLow)), ((hm 5), .inl (cy 1, 3, .inl c_counters)), ((hm 7), .inl (cy 1, 3, .inl c_pin)), ((hm 8), .inl (cy 1, 3, .inl c_tries))]) sz)) 0 0 (va_A ([(h0, .inr (12, zmo hm c_thrown c_state c_test c_words c_ill c_before c_inRow c_first c_inWindow c_same c_made c_requests c_total c_secrets c_rounds c_high c_low c_keyHigh c_keyLow)), ((hm 5), .inl (cy 1, 3, .inl c_counters)), ((hm 7), .inl (cy 1, 3, .inl c_pin)), ((hm 8), .inl (cy 1, 3, .inl c_tries))]) sz) := by
  refine Met.ofW (cc := cX10_setPin) (maxL := 3) (ret := (some .int)) (by decide) rfl ?_
  intro p e s m args below meth c s₁ B hml hv
  obtain ⟨rfl, rfl, hP, hD0, hE⟩ := hv
  have hx := B.exec
  have hb := B.bytes
  have hr := B.returns
  have hts := atoms_spec (ws := wsX10_setPin) B.pre
  have hown : s.vm.findClass RX10 = some m.cls := findClass_of_methodNamed B.named
  have hlocks := B.notSynchronized
  clear B
  have hD := hD0.self (sz := s.heap.size)
  generalize hAe : va_A ([(h0, .inr (12, zmo hm c_thrown c_state c_test c_words c_ill c_before c_inRow c_first c_inWindow c_same c_made c_requests c_total c_secrets c_rounds c_high c_low c_keyHigh c_keyLow)), ((hm 5), .inl (cy 1, 3, .inl c_counters)), ((hm 7), .inl (cy 1, 3, .inl c_pin)), ((hm 8), .inl (cy 1, 3, .inl c_tries))]) s.heap.size = A at hD hE ⊢
  have hA : ∀ q : Nat, s.heap.size ≤ q → A q := fun q h => by rw [← hAe]; exact Or.inr h
  clear hAe hD0
  have hS : va_S A s.heap s.heap [] := va_S.rf
  have hK := hE.1
  have hw0 := hts (.fieldLink RX10 189 "SealedModuleModel" "thrown" "I") (by decide +kernel)
  have hw1 := hts (.constant RX10 305 (999999)) (by decide +kernel)
  have hw2 := hts (.fieldLink RX10 87 "SealedModuleModel" "pin" "[I") (by decide +kernel)
  have hw3 := hts (.fieldLink RX10 90 "SealedModuleModel" "tries" "[I") (by decide +kernel)
  have hcX10 : ∀ w ∈ u_ws RX10 TX10 52, w ∈ wsX10_setPin := (fun _ h => List.mem_cons_of_mem _ (List.mem_append_right _ h))
  have hl := lv_entry ([.ref h0, .int p1, .int p2]) (n := 3) (Nat.le_of_ble_eq_true rfl)
  rw [lg_entry_eq]
  generalize (lg_sl ([.ref h0, .int p1, .int p2]) ++ List.replicate (3 - (lg_sl ([.ref h0, .int p1, .int p2])).length) Slot.unset).toArray = ls at hl ⊢
  replace hl : lv_has ls 3 [(0, .ref h0), (1, .int p1), (2, .int p2)] := hl
  unfold f_X10_setPin at hf
  refine zgo (fun GW hTo hFr => ?_)
  refine hFr _ _ _ ?_
  obtain ⟨H, hHe⟩ : ∃ H, H = s.heap := ⟨_, rfl⟩
  obtain ⟨locs, hLe⟩ : ∃ L : List Loc, L = [] := ⟨_, rfl⟩
  rw [← hHe] at hP
  replace hS : va_S A s.heap H locs := by rw [hHe, hLe]; exact hS
  refine zat hHe.symm hLe.symm ?_
  clear hHe hLe
  refine lv_aload_n (pc := 0) hx hb (zdt_at zt_X10_setPin_0 0 rfl) rfl (lv_at hl 0 rfl) ?_
  refine lv_iconst (pc := 1) (v := (0 : Int32)) hx hb (zdt_at zt_X10_setPin_0 1 rfl) (by decide) ?_
  refine va_put (pc := 2) (D := D) (ci := 12) (v := .int (0 : Int32)) (ty := .int) (C := RX10) (T := TX10) (N := 52) hx hb hts hcX10 tyX10 tyX10_ok nmX10 hown hK hP hD hS 0 rfl rfl 1 (by decide) hw0 (fun _ h9 => h9) rfl (by decide +kernel) rfl rfl (Nat.le_of_ble_eq_true rfl) (zdt_at zt_X10_setPin_0 2 rfl) ?_
  clear hP hD hS
  intro H locs hP hD hS
  replace hP : va_P D vwCl ([(h0, .inr (12, zmo hm (0 : Int32) c_state c_test c_words c_ill c_before c_inRow c_first c_inWindow c_same c_made c_requests c_total c_secrets c_rounds c_high c_low c_keyHigh c_keyLow)), ((hm 5), .inl (cy 1, 3, .inl c_counters)), ((hm 7), .inl (cy 1, 3, .inl c_pin)), ((hm 8), .inl (cy 1, 3, .inl c_tries))]) H := hP
  replace hD : va_D A ([(h0, .inr (12, zmo hm (0 : Int32) c_state c_test c_words c_ill c_before c_inRow c_first c_inWindow c_same c_made c_requests c_total c_secrets c_rounds c_high c_low c_keyHigh c_keyLow)), ((hm 5), .inl (cy 1, 3, .inl c_counters)), ((hm 7), .inl (cy 1, 3, .inl c_pin)), ((hm 8), .inl (cy 1, 3, .inl c_tries))]) := hD
  refine lv_aload_n (pc := 5) hx hb (zdt_at zt_X10_setPin_0 3 rfl) rfl (lv_at hl 0 rfl) ?_
  replace hf := zb_s hf
  obtain ⟨r_1, hc_, hf⟩ := hf
  refine zcs (pc := 6) (rv := (some (.int r_1))) (va_runV (As := []) (rest := []) ⟨hx, hb, hml, hown, hts⟩ (c_X10_isIn l D cy tt H.size h0 hm c_state (0 : Int32) c_test c_words c_ill c_before c_inRow c_first c_inWindow c_same c_made c_requests c_total c_secrets c_rounds c_high c_low c_keyHigh c_keyLow r_1 hc_) (cwV 0 hts gX10_setPin_X10_isIn rfl rfl rfl (by decide +kernel) ⟨Nat.le_of_ble_eq_true rfl, Nat.le_of_ble_eq_true rfl⟩) ⟨zblind, va_recv hK hP (ci := 12) (q0 := 0) rfl rfl, zpre hE hS (hP.sub [0] rfl) (hD.sub [0] (by decide) rfl) (va_free hD hS hA [0] rfl)⟩ rfl rfl hl.1 rfl (lv_room (Nat.le_of_ble_eq_true rfl)) (zdt_at zt_X10_setPin_0 4 rfl) ⟨Nat.zero_le _, Nat.zero_le _⟩) ?_
  clear hc_
  refine W.eq (g2 := F0 m 9 ls [.int r_1]) rfl ?_
  refine lv_if_ne (pc := 9) (tgt := 18) hx hb (zdt_at zt_X10_setPin_0 5 rfl) (by decide) (fun cn_ => ?t_2) (fun cn_ => ?f_3)
  case f_3 =>
    replace hf := zt_s cn_ hf
    clear cn_
    refine lv_aload_n (pc := 12) hx hb (zdt_at zt_X10_setPin_0 6 rfl) rfl (lv_at hl 0 rfl) ?_
    refine lv_iconst (pc := 13) (v := (-1 : Int32)) hx hb (zdt_at zt_X10_setPin_0 7 rfl) (by decide) ?_
    replace hf := zb_s hf
    obtain ⟨⟨r_23, c_counters_24⟩, hc_, hf⟩ := hf
    refine zcn2 (pc := 14) (rv := (some (.int r_23))) (va_runV (As := [.int (-1 : Int32)]) (rest := []) ⟨hx, hb, hml, hown, hts⟩ (c_X10_answer l D cy tt H.size h0 hm (-1 : Int32) c_counters (0 : Int32) c_state c_test c_words c_ill c_before c_inRow c_first c_inWindow c_same c_made c_requests c_total c_secrets c_rounds c_high c_low c_keyHigh c_keyLow r_23 c_counters_24 hc_) (cwV 1 hts gX10_setPin_X10_answer rfl rfl rfl (by decide +kernel) ⟨Nat.le_of_ble_eq_true rfl, Nat.le_of_ble_eq_true rfl⟩) ⟨zblind, va_recv hK hP (ci := 12) (q0 := 0) rfl rfl, zpre hE hS (hP.sub [0, 1] rfl) (hD.sub [0, 1] (by decide) rfl) (va_free hD hS hA [0, 1] rfl)⟩ rfl rfl hl.1 rfl (lv_room (Nat.le_of_ble_eq_true rfl)) (zdt_at zt_X10_setPin_0 8 rfl) ⟨Nat.zero_le _, Nat.zero_le _⟩) hS hP hD (va_free hD hS hA [0, 1] rfl) [0, 1] rfl (by decide) rfl ?_
    clear hP hD hS hc_
    intro H locs hP hD hS
    replace hP : va_P D vwCl ([(h0, .inr (12, zmo hm (0 : Int32) c_state c_test c_words c_ill c_before c_inRow c_first c_inWindow c_same c_made c_requests c_total c_secrets c_rounds c_high c_low c_keyHigh c_keyLow)), ((hm 5), .inl (cy 1, 3, .inl c_counters_24)), ((hm 7), .inl (cy 1, 3, .inl c_pin)), ((hm 8), .inl (cy 1, 3, .inl c_tries))]) H := hP
    replace hD : va_D A ([(h0, .inr (12, zmo hm (0 : Int32) c_state c_test c_words c_ill c_before c_inRow c_first c_inWindow c_same c_made c_requests c_total c_secrets c_rounds c_high c_low c_keyHigh c_keyLow)), ((hm 5), .inl (cy 1, 3, .inl c_counters_24)), ((hm 7), .inl (cy 1, 3, .inl c_pin)), ((hm 8), .inl (cy 1, 3, .inl c_tries))]) := hD
    refine W.eq (g2 := F0 m 17 ls [.int r_23]) rfl ?_
    cases hf
    exact W.iret (pc := 17) hx hb hr (fun t ht hW => ⟨rfl, ⟨by rw [ht]; exact hP, hD⟩, hS.F ht⟩) hS.2.2 (zdt_at zt_X10_setPin_0 9 rfl)
  replace hf := ze_s cn_ hf
  clear cn_
  refine lv_iload_n (pc := 18) hx hb (zdt_at zt_X10_setPin_0 10 rfl) rfl (lv_at hl 1 rfl) ?_
  refine lv_iconst (pc := 19) (v := (1 : Int32)) hx hb (zdt_at zt_X10_setPin_0 11 rfl) (by decide) ?_
  refine lv_iconst (pc := 20) (v := (2 : Int32)) hx hb (zdt_at zt_X10_setPin_0 12 rfl) (by decide) ?_
  replace hf := zb_s hf
  obtain ⟨r_4, hc_, hf⟩ := hf
  refine zcs (pc := 21) (rv := (some (.int r_4))) (va_runS (As := [.int p1, .int (1 : Int32), .int (2 : Int32)]) (rest := []) ⟨hx, hb, hml, hown, hts⟩ (c_X10_in l D cy tt H.size p1 (1 : Int32) (2 : Int32) r_4 hc_) (va_cwS 3 hts gX10_setPin_X10_in rfl rfl rfl (by decide +kernel) ⟨Nat.le_of_ble_eq_true rfl, Nat.le_of_ble_eq_true rfl⟩) ⟨zblind, zpre hE hS (hP.sub [] rfl) (hD.sub [] (by decide) rfl) (va_free hD hS hA [] rfl)⟩ rfl rfl hl.1 rfl (lv_room (Nat.le_of_ble_eq_true rfl)) (zdt_at zt_X10_setPin_0 13 rfl) ⟨Nat.zero_le _, Nat.zero_le _⟩) ?_
  clear hc_
  refine W.eq (g2 := F0 m 24 ls [.int r_4]) rfl ?_
  refine lv_if_eq (pc := 24) (tgt := 38) hx hb (zdt_at zt_X10_setPin_0 14 rfl) (by decide) (fun cn_ => ?t_5) (fun cn_ => ?f_6)
  case t_5 =>
    replace hf := zt_s cn_ hf
    clear cn_
    refine lv_aload_n (pc := 38) hx hb (zdt_at zt_X10_setPin_0 20 rfl) rfl (lv_at hl 0 rfl) ?_
    refine lv_bipush (pc := 39) (v := (-2 : Int32)) hx hb (zdt_at zt_X10_setPin_0 21 rfl) (by decide) ?_
    replace hf := zb_s hf
    obtain ⟨⟨r_7, c_counters_8⟩, hc_, hf⟩ := hf
    refine zcn2 (pc := 41) (rv := (some (.int r_7))) (va_runV (As := [.int (-2 : Int32)]) (rest := []) ⟨hx, hb, hml, hown, hts⟩ (c_X10_answer l D cy tt H.size h0 hm (-2 : Int32) c_counters (0 : Int32) c_state c_test c_words c_ill c_before c_inRow c_first c_inWindow c_same c_made c_requests c_total c_secrets c_rounds c_high c_low c_keyHigh c_keyLow r_7 c_counters_8 hc_) (cwV 1 hts gX10_setPin_X10_answer rfl rfl rfl (by decide +kernel) ⟨Nat.le_of_ble_eq_true rfl, Nat.le_of_ble_eq_true rfl⟩) ⟨zblind, va_recv hK hP (ci := 12) (q0 := 0) rfl rfl, zpre hE hS (hP.sub [0, 1] rfl) (hD.sub [0, 1] (by decide) rfl) (va_free hD hS hA [0, 1] rfl)⟩ rfl rfl hl.1 rfl (lv_room (Nat.le_of_ble_eq_true rfl)) (zdt_at zt_X10_setPin_0 22 rfl) ⟨Nat.zero_le _, Nat.zero_le _⟩) hS hP hD (va_free hD hS hA [0, 1] rfl) [0, 1] rfl (by decide) rfl ?_
    clear hP hD hS hc_
    intro H locs hP hD hS
    replace hP : va_P D vwCl ([(h0, .inr (12, zmo hm (0 : Int32) c_state c_test c_words c_ill c_before c_inRow c_first c_inWindow c_same c_made c_requests c_total c_secrets c_rounds c_high c_low c_keyHigh c_keyLow)), ((hm 5), .inl (cy 1, 3, .inl c_counters_8)), ((hm 7), .inl (cy 1, 3, .inl c_pin)), ((hm 8), .inl (cy 1, 3, .inl c_tries))]) H := hP
    replace hD : va_D A ([(h0, .inr (12, zmo hm (0 : Int32) c_state c_test c_words c_ill c_before c_inRow c_first c_inWindow c_same c_made c_requests c_total c_secrets c_rounds c_high c_low c_keyHigh c_keyLow)), ((hm 5), .inl (cy 1, 3, .inl c_counters_8)), ((hm 7), .inl (cy 1, 3, .inl c_pin)), ((hm 8), .inl (cy 1, 3, .inl c_tries))]) := hD
    refine W.eq (g2 := F0 m 44 ls [.int r_7]) rfl ?_
    cases hf
    exact W.iret (pc := 44) hx hb hr (fun t ht hW => ⟨rfl, ⟨by rw [ht]; exact hP, hD⟩, hS.F ht⟩) hS.2.2 (zdt_at zt_X10_setPin_0 23 rfl)
  replace hf := ze_s cn_ hf
  clear cn_
  refine lv_iload_n (pc := 27) hx hb (zdt_at zt_X10_setPin_0 15 rfl) rfl (lv_at hl 2 rfl) ?_
  refine lv_iconst (pc := 28) (v := (0 : Int32)) hx hb (zdt_at zt_X10_setPin_0 16 rfl) (by decide) ?_
  refine lv_ldcw (pc := 29) hx hb hown hw1 (zdt_at zt_X10_setPin_0 17 rfl) ?_
  replace hf := zb_s hf
  obtain ⟨r_9, hc_, hf⟩ := hf
  refine zcs (pc := 32) (rv := (some (.int r_9))) (va_runS (As := [.int p2, .int (0 : Int32), .int (999999 : Int32)]) (rest := []) ⟨hx, hb, hml, hown, hts⟩ (c_X10_in l D cy tt H.size p2 (0 : Int32) (999999 : Int32) r_9 hc_) (va_cwS 3 hts gX10_setPin_X10_in rfl rfl rfl (by decide +kernel) ⟨Nat.le_of_ble_eq_true rfl, Nat.le_of_ble_eq_true rfl⟩) ⟨zblind, zpre hE hS (hP.sub [] rfl) (hD.sub [] (by decide) rfl) (va_free hD hS hA [] rfl)⟩ rfl rfl hl.1 rfl (lv_room (Nat.le_of_ble_eq_true rfl)) (zdt_at zt_X10_setPin_0 18 rfl) ⟨Nat.zero_le _, Nat.zero_le _⟩) ?_
  clear hc_
  refine W.eq (g2 := F0 m 35 ls [.int r_9]) rfl ?_
  refine lv_if_ne (pc := 35) (tgt := 45) hx hb (zdt_at zt_X10_setPin_0 19 rfl) (by decide) (fun cn_ => ?t_10) (fun cn_ => ?f_11)
  case f_11 =>
    replace hf := zt_s cn_ hf
    clear cn_
    refine lv_aload_n (pc := 38) hx hb (zdt_at zt_X10_setPin_0 20 rfl) rfl (lv_at hl 0 rfl) ?_
    refine lv_bipush (pc := 39) (v := (-2 : Int32)) hx hb (zdt_at zt_X10_setPin_0 21 rfl) (by decide) ?_
    replace hf := zb_s hf
    obtain ⟨⟨r_21, c_counters_22⟩, hc_, hf⟩ := hf
    refine zcn2 (pc := 41) (rv := (some (.int r_21))) (va_runV (As := [.int (-2 : Int32)]) (rest := []) ⟨hx, hb, hml, hown, hts⟩ (c_X10_answer l D cy tt H.size h0 hm (-2 : Int32) c_counters (0 : Int32) c_state c_test c_words c_ill c_before c_inRow c_first c_inWindow c_same c_made c_requests c_total c_secrets c_rounds c_high c_low c_keyHigh c_keyLow r_21 c_counters_22 hc_) (cwV 1 hts gX10_setPin_X10_answer rfl rfl rfl (by decide +kernel) ⟨Nat.le_of_ble_eq_true rfl, Nat.le_of_ble_eq_true rfl⟩) ⟨zblind, va_recv hK hP (ci := 12) (q0 := 0) rfl rfl, zpre hE hS (hP.sub [0, 1] rfl) (hD.sub [0, 1] (by decide) rfl) (va_free hD hS hA [0, 1] rfl)⟩ rfl rfl hl.1 rfl (lv_room (Nat.le_of_ble_eq_true rfl)) (zdt_at zt_X10_setPin_0 22 rfl) ⟨Nat.zero_le _, Nat.zero_le _⟩) hS hP hD (va_free hD hS hA [0, 1] rfl) [0, 1] rfl (by decide) rfl ?_
    clear hP hD hS hc_
    intro H locs hP hD hS
    replace hP : va_P D vwCl ([(h0, .inr (12, zmo hm (0 : Int32) c_state c_test c_words c_ill c_before c_inRow c_first c_inWindow c_same c_made c_requests c_total c_secrets c_rounds c_high c_low c_keyHigh c_keyLow)), ((hm 5), .inl (cy 1, 3, .inl c_counters_22)), ((hm 7), .inl (cy 1, 3, .inl c_pin)), ((hm 8), .inl (cy 1, 3, .inl c_tries))]) H := hP
    replace hD : va_D A ([(h0, .inr (12, zmo hm (0 : Int32) c_state c_test c_words c_ill c_before c_inRow c_first c_inWindow c_same c_made c_requests c_total c_secrets c_rounds c_high c_low c_keyHigh c_keyLow)), ((hm 5), .inl (cy 1, 3, .inl c_counters_22)), ((hm 7), .inl (cy 1, 3, .inl c_pin)), ((hm 8), .inl (cy 1, 3, .inl c_tries))]) := hD
    refine W.eq (g2 := F0 m 44 ls [.int r_21]) rfl ?_
    cases hf
    exact W.iret (pc := 44) hx hb hr (fun t ht hW => ⟨rfl, ⟨by rw [ht]; exact hP, hD⟩, hS.F ht⟩) hS.2.2 (zdt_at zt_X10_setPin_0 23 rfl)
  replace hf := ze_s cn_ hf
  clear cn_
  refine lv_aload_n (pc := 45) hx hb (zdt_at zt_X10_setPin_0 24 rfl) rfl (lv_at hl 0 rfl) ?_
  replace hf := zb_s hf
  obtain ⟨r_12, hc_, hf⟩ := hf
  refine zcs (pc := 46) (rv := (some (.int r_12))) (va_runV (As := []) (rest := []) ⟨hx, hb, hml, hown, hts⟩ (c_X10_role l D cy tt H.size h0 hm c_state (0 : Int32) c_test c_words c_ill c_before c_inRow c_first c_inWindow c_same c_made c_requests c_total c_secrets c_rounds c_high c_low c_keyHigh c_keyLow r_12 hc_) (cwV 0 hts gX10_setPin_X10_role rfl rfl rfl (by decide +kernel) ⟨Nat.le_of_ble_eq_true rfl, Nat.le_of_ble_eq_true rfl⟩) ⟨zblind, va_recv hK hP (ci := 12) (q0 := 0) rfl rfl, zpre hE hS (hP.sub [0] rfl) (hD.sub [0] (by decide) rfl) (va_free hD hS hA [0] rfl)⟩ rfl rfl hl.1 rfl (lv_room (Nat.le_of_ble_eq_true rfl)) (zdt_at zt_X10_setPin_0 25 rfl) ⟨Nat.zero_le _, Nat.zero_le _⟩) ?_
  clear hc_
  refine W.eq (g2 := F0 m 49 ls [.int r_12]) rfl ?_
  refine lv_iconst (pc := 49) (v := (1 : Int32)) hx hb (zdt_at zt_X10_setPin_0 26 rfl) (by decide) ?_
  refine lv_icmp_eq (pc := 50) (tgt := 60) hx hb (zdt_at zt_X10_setPin_0 27 rfl) (by decide) (fun cn_ => ?t_13) (fun cn_ => ?f_14)
  case f_14 =>
    replace hf := ze_s cn_ hf
    clear cn_
    refine lv_aload_n (pc := 53) hx hb (zdt_at zt_X10_setPin_0 28 rfl) rfl (lv_at hl 0 rfl) ?_
    refine lv_bipush (pc := 54) (v := (-3 : Int32)) hx hb (zdt_at zt_X10_setPin_0 29 rfl) (by decide) ?_
    replace hf := zb_s hf
    obtain ⟨⟨r_19, c_counters_20⟩, hc_, hf⟩ := hf
    refine zcn2 (pc := 56) (rv := (some (.int r_19))) (va_runV (As := [.int (-3 : Int32)]) (rest := []) ⟨hx, hb, hml, hown, hts⟩ (c_X10_answer l D cy tt H.size h0 hm (-3 : Int32) c_counters (0 : Int32) c_state c_test c_words c_ill c_before c_inRow c_first c_inWindow c_same c_made c_requests c_total c_secrets c_rounds c_high c_low c_keyHigh c_keyLow r_19 c_counters_20 hc_) (cwV 1 hts gX10_setPin_X10_answer rfl rfl rfl (by decide +kernel) ⟨Nat.le_of_ble_eq_true rfl, Nat.le_of_ble_eq_true rfl⟩) ⟨zblind, va_recv hK hP (ci := 12) (q0 := 0) rfl rfl, zpre hE hS (hP.sub [0, 1] rfl) (hD.sub [0, 1] (by decide) rfl) (va_free hD hS hA [0, 1] rfl)⟩ rfl rfl hl.1 rfl (lv_room (Nat.le_of_ble_eq_true rfl)) (zdt_at zt_X10_setPin_0 30 rfl) ⟨Nat.zero_le _, Nat.zero_le _⟩) hS hP hD (va_free hD hS hA [0, 1] rfl) [0, 1] rfl (by decide) rfl ?_
    clear hP hD hS hc_
    intro H locs hP hD hS
    replace hP : va_P D vwCl ([(h0, .inr (12, zmo hm (0 : Int32) c_state c_test c_words c_ill c_before c_inRow c_first c_inWindow c_same c_made c_requests c_total c_secrets c_rounds c_high c_low c_keyHigh c_keyLow)), ((hm 5), .inl (cy 1, 3, .inl c_counters_20)), ((hm 7), .inl (cy 1, 3, .inl c_pin)), ((hm 8), .inl (cy 1, 3, .inl c_tries))]) H := hP
    replace hD : va_D A ([(h0, .inr (12, zmo hm (0 : Int32) c_state c_test c_words c_ill c_before c_inRow c_first c_inWindow c_same c_made c_requests c_total c_secrets c_rounds c_high c_low c_keyHigh c_keyLow)), ((hm 5), .inl (cy 1, 3, .inl c_counters_20)), ((hm 7), .inl (cy 1, 3, .inl c_pin)), ((hm 8), .inl (cy 1, 3, .inl c_tries))]) := hD
    refine W.eq (g2 := F0 m 59 ls [.int r_19]) rfl ?_
    cases hf
    exact W.iret (pc := 59) hx hb hr (fun t ht hW => ⟨rfl, ⟨by rw [ht]; exact hP, hD⟩, hS.F ht⟩) hS.2.2 (zdt_at zt_X10_setPin_0 31 rfl)
  replace hf := zt_s cn_ hf
  clear cn_
  refine lv_aload_n (pc := 60) hx hb (zdt_at zt_X10_setPin_0 32 rfl) rfl (lv_at hl 0 rfl) ?_
  refine va_get (pc := 61) (D := D) (ci := 12) (v := .ref (hm 7)) (C := RX10) (T := TX10) (N := 52) hx hb hts hcX10 hown hK hP 0 rfl rfl 7 (by decide) hw2 (fun _ h9 => h9) rfl (zdt_at zt_X10_setPin_0 33 rfl) ?_
  refine lv_iload_n (pc := 64) hx hb (zdt_at zt_X10_setPin_0 34 rfl) rfl (lv_at hl 1 rfl) ?_
  refine lv_iload_n (pc := 65) hx hb (zdt_at zt_X10_setPin_0 35 rfl) rfl (lv_at hl 2 rfl) ?_
  replace hf := zk_s hf
  refine va_iast (pc := 66) hx hb hK hP hD hS 2 1 rfl rfl hf.1 (zdt_at zt_X10_setPin_0 36 rfl) ?_
  replace hf := hf.2
  clear hP hD hS
  intro H locs hP hD hS
  obtain ⟨c_pin_15, e_⟩ : ∃ q : Nat → Int32, q = (upd c_pin p1.toNatClampNeg p2) := ⟨_, rfl⟩
  replace hf := zn_s hf e_
  replace hP : va_P D vwCl ([(h0, .inr (12, zmo hm (0 : Int32) c_state c_test c_words c_ill c_before c_inRow c_first c_inWindow c_same c_made c_requests c_total c_secrets c_rounds c_high c_low c_keyHigh c_keyLow)), ((hm 5), .inl (cy 1, 3, .inl c_counters)), ((hm 7), .inl (cy 1, 3, .inl c_pin_15)), ((hm 8), .inl (cy 1, 3, .inl c_tries))]) H := by rw [e_]; exact hP
  replace hD : va_D A ([(h0, .inr (12, zmo hm (0 : Int32) c_state c_test c_words c_ill c_before c_inRow c_first c_inWindow c_same c_made c_requests c_total c_secrets c_rounds c_high c_low c_keyHigh c_keyLow)), ((hm 5), .inl (cy 1, 3, .inl c_counters)), ((hm 7), .inl (cy 1, 3, .inl c_pin_15)), ((hm 8), .inl (cy 1, 3, .inl c_tries))]) := by rw [e_]; exact hD
  clear e_
  refine lv_aload_n (pc := 67) hx hb (zdt_at zt_X10_setPin_0 37 rfl) rfl (lv_at hl 0 rfl) ?_
  refine va_get (pc := 68) (D := D) (ci := 12) (v := .ref (hm 8)) (C := RX10) (T := TX10) (N := 52) hx hb hts hcX10 hown hK hP 0 rfl rfl 8 (by decide) hw3 (fun _ h9 => h9) rfl (zdt_at zt_X10_setPin_0 38 rfl) ?_
  refine lv_iload_n (pc := 71) hx hb (zdt_at zt_X10_setPin_0 39 rfl) rfl (lv_at hl 1 rfl) ?_
  refine lv_iconst (pc := 72) (v := (0 : Int32)) hx hb (zdt_at zt_X10_setPin_0 40 rfl) (by decide) ?_
  replace hf := zk_s hf
  refine va_iast (pc := 73) hx hb hK hP hD hS 3 1 rfl rfl hf.1 (zdt_at zt_X10_setPin_0 41 rfl) ?_
  replace hf := hf.2
  clear hP hD hS
  intro H locs hP hD hS
  obtain ⟨c_tries_16, e_⟩ : ∃ q : Nat → Int32, q = (upd c_tries p1.toNatClampNeg (0 : Int32)) := ⟨_, rfl⟩
  replace hf := zn_s hf e_
  replace hP : va_P D vwCl ([(h0, .inr (12, zmo hm (0 : Int32) c_state c_test c_words c_ill c_before c_inRow c_first c_inWindow c_same c_made c_requests c_total c_secrets c_rounds c_high c_low c_keyHigh c_keyLow)), ((hm 5), .inl (cy 1, 3, .inl c_counters)), ((hm 7), .inl (cy 1, 3, .inl c_pin_15)), ((hm 8), .inl (cy 1, 3, .inl c_tries_16))]) H := by rw [e_]; exact hP
  replace hD : va_D A ([(h0, .inr (12, zmo hm (0 : Int32) c_state c_test c_words c_ill c_before c_inRow c_first c_inWindow c_same c_made c_requests c_total c_secrets c_rounds c_high c_low c_keyHigh c_keyLow)), ((hm 5), .inl (cy 1, 3, .inl c_counters)), ((hm 7), .inl (cy 1, 3, .inl c_pin_15)), ((hm 8), .inl (cy 1, 3, .inl c_tries_16))]) := by rw [e_]; exact hD
  clear e_
  refine lv_aload_n (pc := 74) hx hb (zdt_at zt_X10_setPin_0 42 rfl) rfl (lv_at hl 0 rfl) ?_
  refine lv_iconst (pc := 75) (v := (0 : Int32)) hx hb (zdt_at zt_X10_setPin_0 43 rfl) (by decide) ?_
  replace hf := zb_s hf
  obtain ⟨⟨r_17, c_counters_18⟩, hc_, hf⟩ := hf
  refine zcn2 (pc := 76) (rv := (some (.int r_17))) (va_runV (As := [.int (0 : Int32)]) (rest := []) ⟨hx, hb, hml, hown, hts⟩ (c_X10_answer l D cy tt H.size h0 hm (0 : Int32) c_counters (0 : Int32) c_state c_test c_words c_ill c_before c_inRow c_first c_inWindow c_same c_made c_requests c_total c_secrets c_rounds c_high c_low c_keyHigh c_keyLow r_17 c_counters_18 hc_) (cwV 1 hts gX10_setPin_X10_answer rfl rfl rfl (by decide +kernel) ⟨Nat.le_of_ble_eq_true rfl, Nat.le_of_ble_eq_true rfl⟩) ⟨zblind, va_recv hK hP (ci := 12) (q0 := 0) rfl rfl, zpre hE hS (hP.sub [0, 1] rfl) (hD.sub [0, 1] (by decide) rfl) (va_free hD hS hA [0, 1] rfl)⟩ rfl rfl hl.1 rfl (lv_room (Nat.le_of_ble_eq_true rfl)) (zdt_at zt_X10_setPin_0 44 rfl) ⟨Nat.zero_le _, Nat.zero_le _⟩) hS hP hD (va_free hD hS hA [0, 1] rfl) [0, 1] rfl (by decide) rfl ?_
  clear hP hD hS hc_
  intro H locs hP hD hS
  replace hP : va_P D vwCl ([(h0, .inr (12, zmo hm (0 : Int32) c_state c_test c_words c_ill c_before c_inRow c_first c_inWindow c_same c_made c_requests c_total c_secrets c_rounds c_high c_low c_keyHigh c_keyLow)), ((hm 5), .inl (cy 1, 3, .inl c_counters_18)), ((hm 7), .inl (cy 1, 3, .inl c_pin_15)), ((hm 8), .inl (cy 1, 3, .inl c_tries_16))]) H := hP
  replace hD : va_D A ([(h0, .inr (12, zmo hm (0 : Int32) c_state c_test c_words c_ill c_before c_inRow c_first c_inWindow c_same c_made c_requests c_total c_secrets c_rounds c_high c_low c_keyHigh c_keyLow)), ((hm 5), .inl (cy 1, 3, .inl c_counters_18)), ((hm 7), .inl (cy 1, 3, .inl c_pin_15)), ((hm 8), .inl (cy 1, 3, .inl c_tries_16))]) := hD
  refine W.eq (g2 := F0 m 79 ls [.int r_17]) rfl ?_
  cases hf
  exact W.iret (pc := 79) hx hb hr (fun t ht hW => ⟨rfl, ⟨by rw [ht]; exact hP, hD⟩, hS.F ht⟩) hS.2.2 (zdt_at zt_X10_setPin_0 45 rfl)
set_option maxHeartbeats 4000000 in
set_option maxRecDepth 100000 in
theorem c_X10_entropy (l : Launch) (D : va_G) (cy : Nat → ClassId) (tt : Nat → Nat) (sz : Nat) (h0 : Nat) (hm : Nat → Nat) (p1 : Int32) (c_before : Int32) (c_first : Int32) (c_ill : Int32) (c_inRow : Int32) (c_inWindow : Int32) (c_same : Int32) (c_state : Int32) (c_thrown : Int32) (c_words : Int32) (c_word : Nat → Int32) (c_test : Int32) (c_made : Int32) (c_requests : Int32) (c_total : Int64) (c_secrets : Int32) (c_rounds : Int32) (c_high : Int64) (c_low : Int64) (c_keyHigh : Int64) (c_keyLow : Int64) (r_ : Int32) (c_before' : Int32) (c_first' : Int32) (c_ill' : Int32) (c_inRow' : Int32) (c_inWindow' : Int32) (c_same' : Int32) (c_thrown' : Int32) (c_words' : Int32) (c_word' : Nat → Int32) (hf : f_X10_entropy p1 c_before c_first c_ill c_inRow c_inWindow c_same c_state c_thrown c_words c_word = some (r_, c_before', c_first', c_ill', c_inRow', c_inWindow', c_same', c_thrown', c_words', c_word')) : Met l yX10_entropy wsX10_entropy ({ frames := 0, cells := 0, slots := 0, locals := 0 }) (zPc D cy tt sz [.ref h0, .int p1] ([(h0, .inr (12, zmo hm c_thrown c_state c_test c_words c_ill c_before c_inRow c_first c_inWindow c_same c_made c_requests c_total c_secrets c_rounds c_high c_low c_keyHigh c_keyLow)), ((hm 16), .inl (cy 1, 64, .inl c_word))])) (zQ D (some (.int r_)) ([(h0, .inr (12, zmo hm c_thrown' c_state c_test c_words' c_ill' c_before' c_inRow' c_first' c_inWindow' c_same' c_made c_requests c_total c_secrets c_rounds c_high c_low c_keyHigh c_keyLow)), ((hm 16), .inl (cy 1, 64, .inl c_word'))]) (va_A ([(h0, .inr (12, zmo hm c_thrown c_state c_test c_words c_ill c_before c_inRow c_first c_inWindow c_same c_made c_requests c_total c_secrets c_rounds c_high c_low c_keyHigh c_keyLow)), ((hm 16), .inl (cy 1, 64, .inl c_word))]) sz)) 0 0 (va_A ([(h0, .inr (12, zmo hm c_thrown c_state c_test c_words c_ill c_before c_inRow c_first c_inWindow c_same c_made c_requests c_total c_secrets c_rounds c_high c_low c_keyHigh c_keyLow)), ((hm 16), .inl (cy 1, 64, .inl c_word))]) sz) := by
  refine Met.ofW (cc := cX10_entropy) (maxL := 6) (ret := (some .int)) (by decide) rfl ?_
  intro p e s m args below meth c s₁ B hml hv
  obtain ⟨rfl, rfl, hP, hD0, hE⟩ := hv
  have hx := B.exec
  have hb := B.bytes
  have hr := B.returns
  have hts := atoms_spec (ws := wsX10_entropy) B.pre
  have hown : s.vm.findClass RX10 = some m.cls := findClass_of_methodNamed B.named
  have hlocks := B.notSynchronized
  clear B
  have hD := hD0.self (sz := s.heap.size)
  generalize hAe : va_A ([(h0, .inr (12, zmo hm c_thrown c_state c_test c_words c_ill c_before c_inRow c_first c_inWindow c_same c_made c_requests c_total c_secrets c_rounds c_high c_low c_keyHigh c_keyLow)), ((hm 16), .inl (cy 1, 64, .inl c_word))]) s.heap.size = A at hD hE ⊢
  have hA : ∀ q : Nat, s.heap.size ≤ q → A q := fun q h => by rw [← hAe]; exact Or.inr h
  clear hAe hD0
  have hS : va_S A s.heap s.heap [] := va_S.rf
  have hK := hE.1
  have hw0 := hts (.fieldLink RX10 273 "SealedModuleModel" "state" "I") (by decide +kernel)
  have hw1 := hts (.fieldLink RX10 189 "SealedModuleModel" "thrown" "I") (by decide +kernel)
  have hw2 := hts (.fieldLink RX10 257 "SealedModuleModel" "ill" "Z") (by decide +kernel)
  have hw3 := hts (.fieldLink RX10 279 "SealedModuleModel" "inRow" "I") (by decide +kernel)
  have hw4 := hts (.fieldLink RX10 282 "SealedModuleModel" "inWindow" "I") (by decide +kernel)
  have hw5 := hts (.fieldLink RX10 306 "SealedModuleModel" "before" "I") (by decide +kernel)
  have hw6 := hts (.fieldLink RX10 309 "SealedModuleModel" "first" "I") (by decide +kernel)
  have hw7 := hts (.fieldLink RX10 312 "SealedModuleModel" "same" "I") (by decide +kernel)
  have hw8 := hts (.fieldLink RX10 254 "SealedModuleModel" "words" "I") (by decide +kernel)
  have hw9 := hts (.fieldLink RX10 111 "SealedModuleModel" "word" "[I") (by decide +kernel)
  have hcX10 : ∀ w ∈ u_ws RX10 TX10 52, w ∈ wsX10_entropy := (fun _ h => List.mem_cons_of_mem _ (List.mem_append_right _ h))
  have hl := lv_entry ([.ref h0, .int p1]) (n := 6) (Nat.le_of_ble_eq_true rfl)
  rw [lg_entry_eq]
  generalize (lg_sl ([.ref h0, .int p1]) ++ List.replicate (6 - (lg_sl ([.ref h0, .int p1])).length) Slot.unset).toArray = ls at hl ⊢
  replace hl : lv_has ls 6 [(0, .ref h0), (1, .int p1)] := hl
  unfold f_X10_entropy at hf
  refine zgo (fun GW hTo hFr => ?_)
  refine hFr _ _ _ ?_
  obtain ⟨H, hHe⟩ : ∃ H, H = s.heap := ⟨_, rfl⟩
  obtain ⟨locs, hLe⟩ : ∃ L : List Loc, L = [] := ⟨_, rfl⟩
  rw [← hHe] at hP
  replace hS : va_S A s.heap H locs := by rw [hHe, hLe]; exact hS
  refine zat hHe.symm hLe.symm ?_
  clear hHe hLe
  refine lv_aload_n (pc := 0) hx hb (zdt_at zt_X10_entropy_0 0 rfl) rfl (lv_at hl 0 rfl) ?_
  refine lv_aload_n (pc := 1) hx hb (zdt_at zt_X10_entropy_0 1 rfl) rfl (lv_at hl 0 rfl) ?_
  refine va_get (pc := 2) (D := D) (ci := 12) (v := .int c_state) (C := RX10) (T := TX10) (N := 52) hx hb hts hcX10 hown hK hP 0 rfl rfl 2 (by decide) hw0 (fun _ h9 => h9) rfl (zdt_at zt_X10_entropy_0 2 rfl) ?_
  replace hf := zj_s hf
  obtain ⟨K_2, eK_2, hf⟩ := hf
  have kK_2 : ∀ (v_1 : Int32) (H : Heap) (locs : List Loc) (ls : Array Slot), va_P D vwCl ([(h0, .inr (12, zmo hm c_thrown c_state c_test c_words c_ill c_before c_inRow c_first c_inWindow c_same c_made c_requests c_total c_secrets c_rounds c_high c_low c_keyHigh c_keyLow)), ((hm 16), .inl (cy 1, 64, .inl c_word))]) H → va_D A ([(h0, .inr (12, zmo hm c_thrown c_state c_test c_words c_ill c_before c_inRow c_first c_inWindow c_same c_made c_requests c_total c_secrets c_rounds c_high c_low c_keyHigh c_keyLow)), ((hm 16), .inl (cy 1, 64, .inl c_word))]) → va_S A s.heap H locs → lv_has ls 6 [(0, .ref h0), (1, .int p1)] → K_2 v_1 = some (r_, c_before', c_first', c_ill', c_inRow', c_inWindow', c_same', c_thrown', c_words', c_word') → GW H locs (F0 m 13 ls [.int v_1, .ref h0]) := by
    clear hf hl hP hD hS
    intro v_1 H locs ls hP hD hS hl hf
    rw [eK_2] at hf
    clear eK_2
    refine hFr _ _ _ ?_
    refine va_put (pc := 13) (D := D) (ci := 12) (v := .int v_1) (ty := .int) (C := RX10) (T := TX10) (N := 52) hx hb hts hcX10 tyX10 tyX10_ok nmX10 hown hK hP hD hS 0 rfl rfl 1 (by decide) hw1 (fun _ h9 => h9) rfl (by decide +kernel) rfl rfl (Nat.le_of_ble_eq_true rfl) (zdt_at zt_X10_entropy_0 7 rfl) ?_
    clear hP hD hS
    intro H locs hP hD hS
    replace hP : va_P D vwCl ([(h0, .inr (12, zmo hm v_1 c_state c_test c_words c_ill c_before c_inRow c_first c_inWindow c_same c_made c_requests c_total c_secrets c_rounds c_high c_low c_keyHigh c_keyLow)), ((hm 16), .inl (cy 1, 64, .inl c_word))]) H := hP
    replace hD : va_D A ([(h0, .inr (12, zmo hm v_1 c_state c_test c_words c_ill c_before c_inRow c_first c_inWindow c_same c_made c_requests c_total c_secrets c_rounds c_high c_low c_keyHigh c_keyLow)), ((hm 16), .inl (cy 1, 64, .inl c_word))]) := hD
    refine lv_aload_n (pc := 16) hx hb (zdt_at zt_X10_entropy_0 8 rfl) rfl (lv_at hl 0 rfl) ?_
    refine va_get (pc := 17) (D := D) (ci := 12) (v := .int v_1) (C := RX10) (T := TX10) (N := 52) hx hb hts hcX10 hown hK hP 0 rfl rfl 1 (by decide) hw1 (fun _ h9 => h9) rfl (zdt_at zt_X10_entropy_0 9 rfl) ?_
    refine lv_if_gt (pc := 20) (tgt := 30) hx hb (zdt_at zt_X10_entropy_0 10 rfl) (by decide) (fun cn_ => ?t_3) (fun cn_ => ?f_4)
    case t_3 =>
      replace hf := zt_s cn_ hf
      clear cn_
      refine lv_iconst (pc := 30) (v := (0 : Int32)) hx hb (zdt_at zt_X10_entropy_0 14 rfl) (by decide) ?_
      cases hf
      exact W.iret (pc := 31) hx hb hr (fun t ht hW => ⟨rfl, ⟨by rw [ht]; exact hP, hD⟩, hS.F ht⟩) hS.2.2 (zdt_at zt_X10_entropy_0 15 rfl)
    replace hf := ze_s cn_ hf
    clear cn_
    refine lv_aload_n (pc := 23) hx hb (zdt_at zt_X10_entropy_0 11 rfl) rfl (lv_at hl 0 rfl) ?_
    refine va_get (pc := 24) (D := D) (ci := 12) (v := .int c_ill) (C := RX10) (T := TX10) (N := 52) hx hb hts hcX10 hown hK hP 0 rfl rfl 17 (by decide) hw2 (fun _ h9 => h9) rfl (zdt_at zt_X10_entropy_0 12 rfl) ?_
    refine lv_if_eq (pc := 27) (tgt := 32) hx hb (zdt_at zt_X10_entropy_0 13 rfl) (by decide) (fun cn_ => ?t_5) (fun cn_ => ?f_6)
    case f_6 =>
      replace hf := ze_s cn_ hf
      clear cn_
      refine lv_iconst (pc := 30) (v := (0 : Int32)) hx hb (zdt_at zt_X10_entropy_0 14 rfl) (by decide) ?_
      cases hf
      exact W.iret (pc := 31) hx hb hr (fun t ht hW => ⟨rfl, ⟨by rw [ht]; exact hP, hD⟩, hS.F ht⟩) hS.2.2 (zdt_at zt_X10_entropy_0 15 rfl)
    replace hf := zt_s cn_ hf
    clear cn_
    refine lv_aload_n (pc := 32) hx hb (zdt_at zt_X10_entropy_0 16 rfl) rfl (lv_at hl 0 rfl) ?_
    refine va_get (pc := 33) (D := D) (ci := 12) (v := .int c_inRow) (C := RX10) (T := TX10) (N := 52) hx hb hts hcX10 hown hK hP 0 rfl rfl 19 (by decide) hw3 (fun _ h9 => h9) rfl (zdt_at zt_X10_entropy_0 17 rfl) ?_
    replace hf := zj_s hf
    obtain ⟨K_8, eK_8, hf⟩ := hf
    have kK_8 : ∀ (v_7 : Int32) (H : Heap) (locs : List Loc) (ls : Array Slot), va_P D vwCl ([(h0, .inr (12, zmo hm v_1 c_state c_test c_words c_ill c_before c_inRow c_first c_inWindow c_same c_made c_requests c_total c_secrets c_rounds c_high c_low c_keyHigh c_keyLow)), ((hm 16), .inl (cy 1, 64, .inl c_word))]) H → va_D A ([(h0, .inr (12, zmo hm v_1 c_state c_test c_words c_ill c_before c_inRow c_first c_inWindow c_same c_made c_requests c_total c_secrets c_rounds c_high c_low c_keyHigh c_keyLow)), ((hm 16), .inl (cy 1, 64, .inl c_word))]) → va_S A s.heap H locs → lv_has ls 6 [(0, .ref h0), (1, .int p1)] → K_8 v_7 = some (r_, c_before', c_first', c_ill', c_inRow', c_inWindow', c_same', c_thrown', c_words', c_word') → GW H locs (F0 m 57 ls [.int v_7]) := by
      clear hf hl hP hD hS
      intro v_7 H locs ls hP hD hS hl hf
      rw [eK_8] at hf
      clear eK_8
      refine hFr _ _ _ ?_
      refine lv_istore_n (pc := 57) (lv' := [(2, .int v_7), (0, .ref h0), (1, .int p1)]) hx hb (zdt_at zt_X10_entropy_0 29 rfl) rfl hl (by decide) rfl ?_
      clear hl
      intro ls hl
      refine lv_aload_n (pc := 58) hx hb (zdt_at zt_X10_entropy_0 30 rfl) rfl (lv_at hl 1 rfl) ?_
      refine va_get (pc := 59) (D := D) (ci := 12) (v := .int c_inWindow) (C := RX10) (T := TX10) (N := 52) hx hb hts hcX10 hown hK hP 0 rfl rfl 21 (by decide) hw4 (fun _ h9 => h9) rfl (zdt_at zt_X10_entropy_0 31 rfl) ?_
      refine lv_bipush (pc := 62) (v := (16 : Int32)) hx hb (zdt_at zt_X10_entropy_0 32 rfl) (by decide) ?_
      replace hf := zj_s hf
      obtain ⟨K_10, eK_10, hf⟩ := hf
      have kK_10 : ∀ (v_9 : Int32) (H : Heap) (locs : List Loc) (ls : Array Slot), va_P D vwCl ([(h0, .inr (12, zmo hm v_1 c_state c_test c_words c_ill c_before c_inRow c_first c_inWindow c_same c_made c_requests c_total c_secrets c_rounds c_high c_low c_keyHigh c_keyLow)), ((hm 16), .inl (cy 1, 64, .inl c_word))]) H → va_D A ([(h0, .inr (12, zmo hm v_1 c_state c_test c_words c_ill c_before c_inRow c_first c_inWindow c_same c_made c_requests c_total c_secrets c_rounds c_high c_low c_keyHigh c_keyLow)), ((hm 16), .inl (cy 1, 64, .inl c_word))]) → va_S A s.heap H locs → lv_has ls 6 [(0, .ref h0), (1, .int p1), (2, .int v_7)] → K_10 v_9 = some (r_, c_before', c_first', c_ill', c_inRow', c_inWindow', c_same', c_thrown', c_words', c_word') → GW H locs (F0 m 75 ls [.int v_9]) := by
        clear hf hl hP hD hS
        intro v_9 H locs ls hP hD hS hl hf
        rw [eK_10] at hf
        clear eK_10
        refine hFr _ _ _ ?_
        refine lv_istore_n (pc := 75) (lv' := [(3, .int v_9), (0, .ref h0), (1, .int p1), (2, .int v_7)]) hx hb (zdt_at zt_X10_entropy_0 38 rfl) rfl hl (by decide) rfl ?_
        clear hl
        intro ls hl
        refine lv_iload_n (pc := 76) hx hb (zdt_at zt_X10_entropy_0 39 rfl) rfl (lv_at hl 0 rfl) ?_
        replace hf := zj_s hf
        obtain ⟨K_12, eK_12, hf⟩ := hf
        have kK_12 : ∀ (v_11 : Int32) (H : Heap) (locs : List Loc) (ls : Array Slot), va_P D vwCl ([(h0, .inr (12, zmo hm v_1 c_state c_test c_words c_ill c_before c_inRow c_first c_inWindow c_same c_made c_requests c_total c_secrets c_rounds c_high c_low c_keyHigh c_keyLow)), ((hm 16), .inl (cy 1, 64, .inl c_word))]) H → va_D A ([(h0, .inr (12, zmo hm v_1 c_state c_test c_words c_ill c_before c_inRow c_first c_inWindow c_same c_made c_requests c_total c_secrets c_rounds c_high c_low c_keyHigh c_keyLow)), ((hm 16), .inl (cy 1, 64, .inl c_word))]) → va_S A s.heap H locs → lv_has ls 6 [(0, .ref h0), (1, .int p1), (2, .int v_7), (3, .int v_9)] → K_12 v_11 = some (r_, c_before', c_first', c_ill', c_inRow', c_inWindow', c_same', c_thrown', c_words', c_word') → GW H locs (F0 m 88 ls [.int v_11]) := by
          clear hf hl hP hD hS
          intro v_11 H locs ls hP hD hS hl hf
          rw [eK_12] at hf
          clear eK_12
          refine hFr _ _ _ ?_
          refine lv_istore (pc := 88) (lv' := [(4, .int v_11), (0, .ref h0), (1, .int p1), (2, .int v_7), (3, .int v_9)]) hx hb (zdt_at zt_X10_entropy_0 45 rfl) hl (by decide) rfl ?_
          clear hl
          intro ls hl
          refine lv_iload_n (pc := 90) hx hb (zdt_at zt_X10_entropy_0 46 rfl) rfl (lv_at hl 4 rfl) ?_
          replace hf := zj_s hf
          obtain ⟨K_14, eK_14, hf⟩ := hf
          have kK_14 : ∀ (v_13 : Int32) (H : Heap) (locs : List Loc) (ls : Array Slot), va_P D vwCl ([(h0, .inr (12, zmo hm v_1 c_state c_test c_words c_ill c_before c_inRow c_first c_inWindow c_same c_made c_requests c_total c_secrets c_rounds c_high c_low c_keyHigh c_keyLow)), ((hm 16), .inl (cy 1, 64, .inl c_word))]) H → va_D A ([(h0, .inr (12, zmo hm v_1 c_state c_test c_words c_ill c_before c_inRow c_first c_inWindow c_same c_made c_requests c_total c_secrets c_rounds c_high c_low c_keyHigh c_keyLow)), ((hm 16), .inl (cy 1, 64, .inl c_word))]) → va_S A s.heap H locs → lv_has ls 6 [(0, .ref h0), (1, .int p1), (2, .int v_7), (3, .int v_9), (4, .int v_11)] → K_14 v_13 = some (r_, c_before', c_first', c_ill', c_inRow', c_inWindow', c_same', c_thrown', c_words', c_word') → GW H locs (F0 m 117 ls [.int v_13]) := by
            clear hf hl hP hD hS
            intro v_13 H locs ls hP hD hS hl hf
            rw [eK_14] at hf
            clear eK_14
            refine hFr _ _ _ ?_
            refine lv_istore (pc := 117) (lv' := [(5, .int v_13), (0, .ref h0), (1, .int p1), (2, .int v_7), (3, .int v_9), (4, .int v_11)]) hx hb (zdt_at zt_X10_entropy_0 60 rfl) hl (by decide) rfl ?_
            clear hl
            intro ls hl
            refine lv_iload_n (pc := 119) hx hb (zdt_at zt_X10_entropy_0 61 rfl) rfl (lv_at hl 3 rfl) ?_
            refine lv_iconst (pc := 120) (v := (4 : Int32)) hx hb (zdt_at zt_X10_entropy_0 62 rfl) (by decide) ?_
            refine lv_icmp_eq (pc := 121) (tgt := 131) hx hb (zdt_at zt_X10_entropy_0 63 rfl) (by decide) (fun cn_ => ?t_15) (fun cn_ => ?f_16)
            case t_15 =>
              replace hf := zt_s cn_ hf
              clear cn_
              refine lv_aload_n (pc := 131) hx hb (zdt_at zt_X10_entropy_1 3 rfl) rfl (lv_at hl 1 rfl) ?_
              refine lv_iconst (pc := 132) (v := (1 : Int32)) hx hb (zdt_at zt_X10_entropy_1 4 rfl) (by decide) ?_
              refine va_put (pc := 133) (D := D) (ci := 12) (v := .int (1 : Int32)) (ty := .boolean) (C := RX10) (T := TX10) (N := 52) hx hb hts hcX10 tyX10 tyX10_ok nmX10 hown hK hP hD hS 0 rfl rfl 17 (by decide) hw2 (fun _ h9 => h9) rfl (by decide +kernel) (by first | rfl | decide) (by first | rfl | decide) (Nat.le_of_ble_eq_true rfl) (zdt_at zt_X10_entropy_1 5 rfl) ?_
              clear hP hD hS
              intro H locs hP hD hS
              replace hP : va_P D vwCl ([(h0, .inr (12, zmo hm v_1 c_state c_test c_words (1 : Int32) c_before c_inRow c_first c_inWindow c_same c_made c_requests c_total c_secrets c_rounds c_high c_low c_keyHigh c_keyLow)), ((hm 16), .inl (cy 1, 64, .inl c_word))]) H := hP
              replace hD : va_D A ([(h0, .inr (12, zmo hm v_1 c_state c_test c_words (1 : Int32) c_before c_inRow c_first c_inWindow c_same c_made c_requests c_total c_secrets c_rounds c_high c_low c_keyHigh c_keyLow)), ((hm 16), .inl (cy 1, 64, .inl c_word))]) := hD
              refine lv_iconst (pc := 136) (v := (0 : Int32)) hx hb (zdt_at zt_X10_entropy_1 6 rfl) (by decide) ?_
              cases hf
              exact W.iret (pc := 137) hx hb hr (fun t ht hW => ⟨rfl, ⟨by rw [ht]; exact hP, hD⟩, hS.F ht⟩) hS.2.2 (zdt_at zt_X10_entropy_1 7 rfl)
            replace hf := ze_s cn_ hf
            clear cn_
            refine lv_iload (pc := 124) hx hb (zdt_at zt_X10_entropy_1 0 rfl) (lv_at hl 0 rfl) ?_
            refine lv_bipush (pc := 126) (v := (6 : Int32)) hx hb (zdt_at zt_X10_entropy_1 1 rfl) (by decide) ?_
            refine lv_icmp_ne (pc := 128) (tgt := 138) hx hb (zdt_at zt_X10_entropy_1 2 rfl) (by decide) (fun cn_ => ?t_17) (fun cn_ => ?f_18)
            case f_18 =>
              replace hf := zt_s cn_ hf
              clear cn_
              refine lv_aload_n (pc := 131) hx hb (zdt_at zt_X10_entropy_1 3 rfl) rfl (lv_at hl 1 rfl) ?_
              refine lv_iconst (pc := 132) (v := (1 : Int32)) hx hb (zdt_at zt_X10_entropy_1 4 rfl) (by decide) ?_
              refine va_put (pc := 133) (D := D) (ci := 12) (v := .int (1 : Int32)) (ty := .boolean) (C := RX10) (T := TX10) (N := 52) hx hb hts hcX10 tyX10 tyX10_ok nmX10 hown hK hP hD hS 0 rfl rfl 17 (by decide) hw2 (fun _ h9 => h9) rfl (by decide +kernel) (by first | rfl | decide) (by first | rfl | decide) (Nat.le_of_ble_eq_true rfl) (zdt_at zt_X10_entropy_1 5 rfl) ?_
              clear hP hD hS
              intro H locs hP hD hS
              replace hP : va_P D vwCl ([(h0, .inr (12, zmo hm v_1 c_state c_test c_words (1 : Int32) c_before c_inRow c_first c_inWindow c_same c_made c_requests c_total c_secrets c_rounds c_high c_low c_keyHigh c_keyLow)), ((hm 16), .inl (cy 1, 64, .inl c_word))]) H := hP
              replace hD : va_D A ([(h0, .inr (12, zmo hm v_1 c_state c_test c_words (1 : Int32) c_before c_inRow c_first c_inWindow c_same c_made c_requests c_total c_secrets c_rounds c_high c_low c_keyHigh c_keyLow)), ((hm 16), .inl (cy 1, 64, .inl c_word))]) := hD
              refine lv_iconst (pc := 136) (v := (0 : Int32)) hx hb (zdt_at zt_X10_entropy_1 6 rfl) (by decide) ?_
              cases hf
              exact W.iret (pc := 137) hx hb hr (fun t ht hW => ⟨rfl, ⟨by rw [ht]; exact hP, hD⟩, hS.F ht⟩) hS.2.2 (zdt_at zt_X10_entropy_1 7 rfl)
            replace hf := ze_s cn_ hf
            clear cn_
            refine lv_aload_n (pc := 138) hx hb (zdt_at zt_X10_entropy_1 8 rfl) rfl (lv_at hl 1 rfl) ?_
            refine lv_iload_n (pc := 139) hx hb (zdt_at zt_X10_entropy_1 9 rfl) rfl (lv_at hl 3 rfl) ?_
            refine va_put (pc := 140) (D := D) (ci := 12) (v := .int v_7) (ty := .int) (C := RX10) (T := TX10) (N := 52) hx hb hts hcX10 tyX10 tyX10_ok nmX10 hown hK hP hD hS 0 rfl rfl 19 (by decide) hw3 (fun _ h9 => h9) rfl (by decide +kernel) rfl rfl (Nat.le_of_ble_eq_true rfl) (zdt_at zt_X10_entropy_1 10 rfl) ?_
            clear hP hD hS
            intro H locs hP hD hS
            replace hP : va_P D vwCl ([(h0, .inr (12, zmo hm v_1 c_state c_test c_words c_ill c_before v_7 c_first c_inWindow c_same c_made c_requests c_total c_secrets c_rounds c_high c_low c_keyHigh c_keyLow)), ((hm 16), .inl (cy 1, 64, .inl c_word))]) H := hP
            replace hD : va_D A ([(h0, .inr (12, zmo hm v_1 c_state c_test c_words c_ill c_before v_7 c_first c_inWindow c_same c_made c_requests c_total c_secrets c_rounds c_high c_low c_keyHigh c_keyLow)), ((hm 16), .inl (cy 1, 64, .inl c_word))]) := hD
            refine lv_aload_n (pc := 143) hx hb (zdt_at zt_X10_entropy_1 11 rfl) rfl (lv_at hl 1 rfl) ?_
            refine lv_iload_n (pc := 144) hx hb (zdt_at zt_X10_entropy_1 12 rfl) rfl (lv_at hl 2 rfl) ?_
            refine va_put (pc := 145) (D := D) (ci := 12) (v := .int p1) (ty := .int) (C := RX10) (T := TX10) (N := 52) hx hb hts hcX10 tyX10 tyX10_ok nmX10 hown hK hP hD hS 0 rfl rfl 18 (by decide) hw5 (fun _ h9 => h9) rfl (by decide +kernel) rfl rfl (Nat.le_of_ble_eq_true rfl) (zdt_at zt_X10_entropy_1 13 rfl) ?_
            clear hP hD hS
            intro H locs hP hD hS
            replace hP : va_P D vwCl ([(h0, .inr (12, zmo hm v_1 c_state c_test c_words c_ill p1 v_7 c_first c_inWindow c_same c_made c_requests c_total c_secrets c_rounds c_high c_low c_keyHigh c_keyLow)), ((hm 16), .inl (cy 1, 64, .inl c_word))]) H := hP
            replace hD : va_D A ([(h0, .inr (12, zmo hm v_1 c_state c_test c_words c_ill p1 v_7 c_first c_inWindow c_same c_made c_requests c_total c_secrets c_rounds c_high c_low c_keyHigh c_keyLow)), ((hm 16), .inl (cy 1, 64, .inl c_word))]) := hD
            refine lv_aload_n (pc := 148) hx hb (zdt_at zt_X10_entropy_1 14 rfl) rfl (lv_at hl 1 rfl) ?_
            refine lv_iload (pc := 149) hx hb (zdt_at zt_X10_entropy_1 15 rfl) (lv_at hl 5 rfl) ?_
            refine va_put (pc := 151) (D := D) (ci := 12) (v := .int v_11) (ty := .int) (C := RX10) (T := TX10) (N := 52) hx hb hts hcX10 tyX10 tyX10_ok nmX10 hown hK hP hD hS 0 rfl rfl 20 (by decide) hw6 (fun _ h9 => h9) rfl (by decide +kernel) rfl rfl (Nat.le_of_ble_eq_true rfl) (zdt_at zt_X10_entropy_1 16 rfl) ?_
            clear hP hD hS
            intro H locs hP hD hS
            replace hP : va_P D vwCl ([(h0, .inr (12, zmo hm v_1 c_state c_test c_words c_ill p1 v_7 v_11 c_inWindow c_same c_made c_requests c_total c_secrets c_rounds c_high c_low c_keyHigh c_keyLow)), ((hm 16), .inl (cy 1, 64, .inl c_word))]) H := hP
            replace hD : va_D A ([(h0, .inr (12, zmo hm v_1 c_state c_test c_words c_ill p1 v_7 v_11 c_inWindow c_same c_made c_requests c_total c_secrets c_rounds c_high c_low c_keyHigh c_keyLow)), ((hm 16), .inl (cy 1, 64, .inl c_word))]) := hD
            refine lv_aload_n (pc := 154) hx hb (zdt_at zt_X10_entropy_1 17 rfl) rfl (lv_at hl 1 rfl) ?_
            refine lv_iload (pc := 155) hx hb (zdt_at zt_X10_entropy_1 18 rfl) (lv_at hl 0 rfl) ?_
            refine va_put (pc := 157) (D := D) (ci := 12) (v := .int v_13) (ty := .int) (C := RX10) (T := TX10) (N := 52) hx hb hts hcX10 tyX10 tyX10_ok nmX10 hown hK hP hD hS 0 rfl rfl 22 (by decide) hw7 (fun _ h9 => h9) rfl (by decide +kernel) rfl rfl (Nat.le_of_ble_eq_true rfl) (zdt_at zt_X10_entropy_1 19 rfl) ?_
            clear hP hD hS
            intro H locs hP hD hS
            replace hP : va_P D vwCl ([(h0, .inr (12, zmo hm v_1 c_state c_test c_words c_ill p1 v_7 v_11 c_inWindow v_13 c_made c_requests c_total c_secrets c_rounds c_high c_low c_keyHigh c_keyLow)), ((hm 16), .inl (cy 1, 64, .inl c_word))]) H := hP
            replace hD : va_D A ([(h0, .inr (12, zmo hm v_1 c_state c_test c_words c_ill p1 v_7 v_11 c_inWindow v_13 c_made c_requests c_total c_secrets c_rounds c_high c_low c_keyHigh c_keyLow)), ((hm 16), .inl (cy 1, 64, .inl c_word))]) := hD
            refine lv_aload_n (pc := 160) hx hb (zdt_at zt_X10_entropy_1 20 rfl) rfl (lv_at hl 1 rfl) ?_
            refine lv_iload_n (pc := 161) hx hb (zdt_at zt_X10_entropy_1 21 rfl) rfl (lv_at hl 4 rfl) ?_
            refine lv_iconst (pc := 162) (v := (1 : Int32)) hx hb (zdt_at zt_X10_entropy_1 22 rfl) (by decide) ?_
            refine lv_iadd (pc := 163) hx hb (zdt_at zt_X10_entropy_1 23 rfl) ?_
            refine lv_topi (fun x_19 e_ => ?_)
            replace hf := zn_s hf e_
            clear e_
            refine va_put (pc := 164) (D := D) (ci := 12) (v := .int x_19) (ty := .int) (C := RX10) (T := TX10) (N := 52) hx hb hts hcX10 tyX10 tyX10_ok nmX10 hown hK hP hD hS 0 rfl rfl 21 (by decide) hw4 (fun _ h9 => h9) rfl (by decide +kernel) rfl rfl (Nat.le_of_ble_eq_true rfl) (zdt_at zt_X10_entropy_1 24 rfl) ?_
            clear hP hD hS
            intro H locs hP hD hS
            replace hP : va_P D vwCl ([(h0, .inr (12, zmo hm v_1 c_state c_test c_words c_ill p1 v_7 v_11 x_19 v_13 c_made c_requests c_total c_secrets c_rounds c_high c_low c_keyHigh c_keyLow)), ((hm 16), .inl (cy 1, 64, .inl c_word))]) H := hP
            replace hD : va_D A ([(h0, .inr (12, zmo hm v_1 c_state c_test c_words c_ill p1 v_7 v_11 x_19 v_13 c_made c_requests c_total c_secrets c_rounds c_high c_low c_keyHigh c_keyLow)), ((hm 16), .inl (cy 1, 64, .inl c_word))]) := hD
            refine lv_aload_n (pc := 167) hx hb (zdt_at zt_X10_entropy_1 25 rfl) rfl (lv_at hl 1 rfl) ?_
            refine va_get (pc := 168) (D := D) (ci := 12) (v := .int c_words) (C := RX10) (T := TX10) (N := 52) hx hb hts hcX10 hown hK hP 0 rfl rfl 15 (by decide) hw8 (fun _ h9 => h9) rfl (zdt_at zt_X10_entropy_1 26 rfl) ?_
            refine lv_bipush (pc := 171) (v := (64 : Int32)) hx hb (zdt_at zt_X10_entropy_1 27 rfl) (by decide) ?_
            refine lv_icmp_ge (pc := 173) (tgt := 196) hx hb (zdt_at zt_X10_entropy_1 28 rfl) (by decide) (fun cn_ => ?t_20) (fun cn_ => ?f_21)
            case t_20 =>
              replace hf := zt_s cn_ hf
              clear cn_
              refine lv_iconst (pc := 196) (v := (1 : Int32)) hx hb (zdt_at zt_X10_entropy_1 41 rfl) (by decide) ?_
              cases hf
              exact W.iret (pc := 197) hx hb hr (fun t ht hW => ⟨rfl, ⟨by rw [ht]; exact hP, hD⟩, hS.F ht⟩) hS.2.2 (zdt_at zt_X10_entropy_1 42 rfl)
            replace hf := ze_s cn_ hf
            clear cn_
            refine lv_aload_n (pc := 176) hx hb (zdt_at zt_X10_entropy_1 29 rfl) rfl (lv_at hl 1 rfl) ?_
            refine va_get (pc := 177) (D := D) (ci := 12) (v := .ref (hm 16)) (C := RX10) (T := TX10) (N := 52) hx hb hts hcX10 hown hK hP 0 rfl rfl 16 (by decide) hw9 (fun _ h9 => h9) rfl (zdt_at zt_X10_entropy_1 30 rfl) ?_
            refine lv_aload_n (pc := 180) hx hb (zdt_at zt_X10_entropy_1 31 rfl) rfl (lv_at hl 1 rfl) ?_
            refine va_get (pc := 181) (D := D) (ci := 12) (v := .int c_words) (C := RX10) (T := TX10) (N := 52) hx hb hts hcX10 hown hK hP 0 rfl rfl 15 (by decide) hw8 (fun _ h9 => h9) rfl (zdt_at zt_X10_entropy_1 32 rfl) ?_
            refine lv_iload_n (pc := 184) hx hb (zdt_at zt_X10_entropy_1 33 rfl) rfl (lv_at hl 2 rfl) ?_
            replace hf := zk_s hf
            refine va_iast (pc := 185) hx hb hK hP hD hS 1 1 rfl rfl hf.1 (zdt_at zt_X10_entropy_1 34 rfl) ?_
            replace hf := hf.2
            clear hP hD hS
            intro H locs hP hD hS
            obtain ⟨c_word_22, e_⟩ : ∃ q : Nat → Int32, q = (upd c_word c_words.toNatClampNeg p1) := ⟨_, rfl⟩
            replace hf := zn_s hf e_
            replace hP : va_P D vwCl ([(h0, .inr (12, zmo hm v_1 c_state c_test c_words c_ill p1 v_7 v_11 x_19 v_13 c_made c_requests c_total c_secrets c_rounds c_high c_low c_keyHigh c_keyLow)), ((hm 16), .inl (cy 1, 64, .inl c_word_22))]) H := by rw [e_]; exact hP
            replace hD : va_D A ([(h0, .inr (12, zmo hm v_1 c_state c_test c_words c_ill p1 v_7 v_11 x_19 v_13 c_made c_requests c_total c_secrets c_rounds c_high c_low c_keyHigh c_keyLow)), ((hm 16), .inl (cy 1, 64, .inl c_word_22))]) := by rw [e_]; exact hD
            clear e_
            refine lv_aload_n (pc := 186) hx hb (zdt_at zt_X10_entropy_1 35 rfl) rfl (lv_at hl 1 rfl) ?_
            refine lv_dup (pc := 187) hx hb (zdt_at zt_X10_entropy_1 36 rfl) rfl ?_
            refine va_get (pc := 188) (D := D) (ci := 12) (v := .int c_words) (C := RX10) (T := TX10) (N := 52) hx hb hts hcX10 hown hK hP 0 rfl rfl 15 (by decide) hw8 (fun _ h9 => h9) rfl (zdt_at zt_X10_entropy_1 37 rfl) ?_
            refine lv_iconst (pc := 191) (v := (1 : Int32)) hx hb (zdt_at zt_X10_entropy_1 38 rfl) (by decide) ?_
            refine lv_iadd (pc := 192) hx hb (zdt_at zt_X10_entropy_1 39 rfl) ?_
            refine lv_topi (fun x_23 e_ => ?_)
            replace hf := zn_s hf e_
            clear e_
            refine va_put (pc := 193) (D := D) (ci := 12) (v := .int x_23) (ty := .int) (C := RX10) (T := TX10) (N := 52) hx hb hts hcX10 tyX10 tyX10_ok nmX10 hown hK hP hD hS 0 rfl rfl 15 (by decide) hw8 (fun _ h9 => h9) rfl (by decide +kernel) rfl rfl (Nat.le_of_ble_eq_true rfl) (zdt_at zt_X10_entropy_1 40 rfl) ?_
            clear hP hD hS
            intro H locs hP hD hS
            replace hP : va_P D vwCl ([(h0, .inr (12, zmo hm v_1 c_state c_test x_23 c_ill p1 v_7 v_11 x_19 v_13 c_made c_requests c_total c_secrets c_rounds c_high c_low c_keyHigh c_keyLow)), ((hm 16), .inl (cy 1, 64, .inl c_word_22))]) H := hP
            replace hD : va_D A ([(h0, .inr (12, zmo hm v_1 c_state c_test x_23 c_ill p1 v_7 v_11 x_19 v_13 c_made c_requests c_total c_secrets c_rounds c_high c_low c_keyHigh c_keyLow)), ((hm 16), .inl (cy 1, 64, .inl c_word_22))]) := hD
            refine lv_iconst (pc := 196) (v := (1 : Int32)) hx hb (zdt_at zt_X10_entropy_1 41 rfl) (by decide) ?_
            cases hf
            exact W.iret (pc := 197) hx hb hr (fun t ht hW => ⟨rfl, ⟨by rw [ht]; exact hP, hD⟩, hS.F ht⟩) hS.2.2 (zdt_at zt_X10_entropy_1 42 rfl)
          clear eK_14
          refine lv_if_ne (pc := 91) (tgt := 98) hx hb (zdt_at zt_X10_entropy_0 47 rfl) (by decide) (fun cn_ => ?t_24) (fun cn_ => ?f_25)
          case f_25 =>
            replace hf := zt_s cn_ hf
            clear cn_
            refine lv_iconst (pc := 94) (v := (1 : Int32)) hx hb (zdt_at zt_X10_entropy_0 48 rfl) (by decide) ?_
            refine lv_goto (pc := 95) (tgt := 117) hx hb (zdt_at zt_X10_entropy_0 49 rfl) (by decide) ?_
            exact hTo _ _ _ (kK_14 _ H locs ls hP hD hS (lv_sub hl [1, 2, 3, 4, 0] rfl) hf)
          replace hf := ze_s cn_ hf
          clear cn_
          refine lv_iload_n (pc := 98) hx hb (zdt_at zt_X10_entropy_0 50 rfl) rfl (lv_at hl 2 rfl) ?_
          refine lv_iload (pc := 99) hx hb (zdt_at zt_X10_entropy_0 51 rfl) (lv_at hl 0 rfl) ?_
          refine lv_icmp_ne (pc := 101) (tgt := 113) hx hb (zdt_at zt_X10_entropy_0 52 rfl) (by decide) (fun cn_ => ?t_26) (fun cn_ => ?f_27)
          case t_26 =>
            replace hf := ze_s cn_ hf
            clear cn_
            refine lv_aload_n (pc := 113) hx hb (zdt_at zt_X10_entropy_0 58 rfl) rfl (lv_at hl 1 rfl) ?_
            refine va_get (pc := 114) (D := D) (ci := 12) (v := .int c_same) (C := RX10) (T := TX10) (N := 52) hx hb hts hcX10 hown hK hP 0 rfl rfl 22 (by decide) hw7 (fun _ h9 => h9) rfl (zdt_at zt_X10_entropy_0 59 rfl) ?_
            exact hTo _ _ _ (kK_14 _ H locs ls hP hD hS (lv_sub hl [1, 2, 3, 4, 0] rfl) hf)
          replace hf := zt_s cn_ hf
          clear cn_
          refine lv_aload_n (pc := 104) hx hb (zdt_at zt_X10_entropy_0 53 rfl) rfl (lv_at hl 1 rfl) ?_
          refine va_get (pc := 105) (D := D) (ci := 12) (v := .int c_same) (C := RX10) (T := TX10) (N := 52) hx hb hts hcX10 hown hK hP 0 rfl rfl 22 (by decide) hw7 (fun _ h9 => h9) rfl (zdt_at zt_X10_entropy_0 54 rfl) ?_
          refine lv_iconst (pc := 108) (v := (1 : Int32)) hx hb (zdt_at zt_X10_entropy_0 55 rfl) (by decide) ?_
          refine lv_iadd (pc := 109) hx hb (zdt_at zt_X10_entropy_0 56 rfl) ?_
          refine lv_goto (pc := 110) (tgt := 117) hx hb (zdt_at zt_X10_entropy_0 57 rfl) (by decide) ?_
          exact hTo _ _ _ (kK_14 _ H locs ls hP hD hS (lv_sub hl [1, 2, 3, 4, 0] rfl) hf)
        clear eK_12
        refine lv_if_ne (pc := 77) (tgt := 84) hx hb (zdt_at zt_X10_entropy_0 40 rfl) (by decide) (fun cn_ => ?t_28) (fun cn_ => ?f_29)
        case t_28 =>
          replace hf := ze_s cn_ hf
          clear cn_
          refine lv_aload_n (pc := 84) hx hb (zdt_at zt_X10_entropy_0 43 rfl) rfl (lv_at hl 1 rfl) ?_
          refine va_get (pc := 85) (D := D) (ci := 12) (v := .int c_first) (C := RX10) (T := TX10) (N := 52) hx hb hts hcX10 hown hK hP 0 rfl rfl 20 (by decide) hw6 (fun _ h9 => h9) rfl (zdt_at zt_X10_entropy_0 44 rfl) ?_
          exact hTo _ _ _ (kK_12 _ H locs ls hP hD hS (lv_sub hl [1, 2, 3, 0] rfl) hf)
        replace hf := zt_s cn_ hf
        clear cn_
        refine lv_iload_n (pc := 80) hx hb (zdt_at zt_X10_entropy_0 41 rfl) rfl (lv_at hl 2 rfl) ?_
        refine lv_goto (pc := 81) (tgt := 88) hx hb (zdt_at zt_X10_entropy_0 42 rfl) (by decide) ?_
        exact hTo _ _ _ (kK_12 _ H locs ls hP hD hS (lv_sub hl [1, 2, 3, 0] rfl) hf)
      clear eK_10
      refine lv_icmp_ne (pc := 64) (tgt := 71) hx hb (zdt_at zt_X10_entropy_0 33 rfl) (by decide) (fun cn_ => ?t_30) (fun cn_ => ?f_31)
      case t_30 =>
        replace hf := ze_s cn_ hf
        clear cn_
        refine lv_aload_n (pc := 71) hx hb (zdt_at zt_X10_entropy_0 36 rfl) rfl (lv_at hl 1 rfl) ?_
        refine va_get (pc := 72) (D := D) (ci := 12) (v := .int c_inWindow) (C := RX10) (T := TX10) (N := 52) hx hb hts hcX10 hown hK hP 0 rfl rfl 21 (by decide) hw4 (fun _ h9 => h9) rfl (zdt_at zt_X10_entropy_0 37 rfl) ?_
        exact hTo _ _ _ (kK_10 _ H locs ls hP hD hS (lv_sub hl [1, 2, 0] rfl) hf)
      replace hf := zt_s cn_ hf
      clear cn_
      refine lv_iconst (pc := 67) (v := (0 : Int32)) hx hb (zdt_at zt_X10_entropy_0 34 rfl) (by decide) ?_
      refine lv_goto (pc := 68) (tgt := 75) hx hb (zdt_at zt_X10_entropy_0 35 rfl) (by decide) ?_
      exact hTo _ _ _ (kK_10 _ H locs ls hP hD hS (lv_sub hl [1, 2, 0] rfl) hf)
    clear eK_8
    replace hf := zj_s hf
    obtain ⟨K_32, eK_32, hf⟩ := hf
    have kK_32 : ∀  (H : Heap) (locs : List Loc) (ls : Array Slot), va_P D vwCl ([(h0, .inr (12, zmo hm v_1 c_state c_test c_words c_ill c_before c_inRow c_first c_inWindow c_same c_made c_requests c_total c_secrets c_rounds c_high c_low c_keyHigh c_keyLow)), ((hm 16), .inl (cy 1, 64, .inl c_word))]) H → va_D A ([(h0, .inr (12, zmo hm v_1 c_state c_test c_words c_ill c_before c_inRow c_first c_inWindow c_same c_made c_requests c_total c_secrets c_rounds c_high c_low c_keyHigh c_keyLow)), ((hm 16), .inl (cy 1, 64, .inl c_word))]) → va_S A s.heap H locs → lv_has ls 6 [(0, .ref h0), (1, .int p1)] → K_32 () = some (r_, c_before', c_first', c_ill', c_inRow', c_inWindow', c_same', c_thrown', c_words', c_word') → GW H locs (F0 m 56 ls []) := by
      clear hf hl hP hD hS
      intro  H locs ls hP hD hS hl hf
      rw [eK_32] at hf
      clear eK_32
      refine hFr _ _ _ ?_
      refine lv_iconst (pc := 56) (v := (1 : Int32)) hx hb (zdt_at zt_X10_entropy_0 28 rfl) (by decide) ?_
      exact hTo _ _ _ (kK_8 _ H locs ls hP hD hS (lv_sub hl [0, 1] rfl) hf)
    clear eK_32
    refine lv_if_le (pc := 36) (tgt := 56) hx hb (zdt_at zt_X10_entropy_0 18 rfl) (by decide) (fun cn_ => ?t_33) (fun cn_ => ?f_34)
    case t_33 =>
      replace hf := zt_s cn_ hf
      clear cn_
      exact hTo _ _ _ (kK_32  H locs ls hP hD hS (lv_sub hl [0, 1] rfl) hf)
    replace hf := ze_s cn_ hf
    clear cn_
    refine lv_iload_n (pc := 39) hx hb (zdt_at zt_X10_entropy_0 19 rfl) rfl (lv_at hl 1 rfl) ?_
    refine lv_aload_n (pc := 40) hx hb (zdt_at zt_X10_entropy_0 20 rfl) rfl (lv_at hl 0 rfl) ?_
    refine va_get (pc := 41) (D := D) (ci := 12) (v := .int c_before) (C := RX10) (T := TX10) (N := 52) hx hb hts hcX10 hown hK hP 0 rfl rfl 18 (by decide) hw5 (fun _ h9 => h9) rfl (zdt_at zt_X10_entropy_0 21 rfl) ?_
    refine lv_icmp_ne (pc := 44) (tgt := 56) hx hb (zdt_at zt_X10_entropy_0 22 rfl) (by decide) (fun cn_ => ?t_35) (fun cn_ => ?f_36)
    case t_35 =>
      replace hf := ze_s cn_ hf
      clear cn_
      exact hTo _ _ _ (kK_32  H locs ls hP hD hS (lv_sub hl [0, 1] rfl) hf)
    replace hf := zt_s cn_ hf
    clear cn_
    refine lv_aload_n (pc := 47) hx hb (zdt_at zt_X10_entropy_0 23 rfl) rfl (lv_at hl 0 rfl) ?_
    refine va_get (pc := 48) (D := D) (ci := 12) (v := .int c_inRow) (C := RX10) (T := TX10) (N := 52) hx hb hts hcX10 hown hK hP 0 rfl rfl 19 (by decide) hw3 (fun _ h9 => h9) rfl (zdt_at zt_X10_entropy_0 24 rfl) ?_
    refine lv_iconst (pc := 51) (v := (1 : Int32)) hx hb (zdt_at zt_X10_entropy_0 25 rfl) (by decide) ?_
    refine lv_iadd (pc := 52) hx hb (zdt_at zt_X10_entropy_0 26 rfl) ?_
    refine lv_goto (pc := 53) (tgt := 57) hx hb (zdt_at zt_X10_entropy_0 27 rfl) (by decide) ?_
    exact hTo _ _ _ (kK_8 _ H locs ls hP hD hS (lv_sub hl [0, 1] rfl) hf)
  clear eK_2
  refine lv_if_ne (pc := 5) (tgt := 12) hx hb (zdt_at zt_X10_entropy_0 3 rfl) (by decide) (fun cn_ => ?t_37) (fun cn_ => ?f_38)
  case t_37 =>
    replace hf := ze_s cn_ hf
    clear cn_
    refine lv_iconst (pc := 12) (v := (0 : Int32)) hx hb (zdt_at zt_X10_entropy_0 6 rfl) (by decide) ?_
    exact hTo _ _ _ (kK_2 _ H locs ls hP hD hS (lv_sub hl [0, 1] rfl) hf)
  replace hf := zt_s cn_ hf
  clear cn_
  refine lv_iconst (pc := 8) (v := (1 : Int32)) hx hb (zdt_at zt_X10_entropy_0 4 rfl) (by decide) ?_
  refine lv_goto (pc := 9) (tgt := 13) hx hb (zdt_at zt_X10_entropy_0 5 rfl) (by decide) ?_
  exact hTo _ _ _ (kK_2 _ H locs ls hP hD hS (lv_sub hl [0, 1] rfl) hf)
set_option maxHeartbeats 4000000 in
set_option maxRecDepth 100000 in
theorem c_X10_state (l : Launch) (D : va_G) (cy : Nat → ClassId) (tt : Nat → Nat) (sz : Nat) (h0 : Nat) (hm : Nat → Nat) (c_state : Int32) (c_thrown : Int32) (c_test : Int32) (c_words : Int32) (c_ill : Int32) (c_before : Int32) (c_inRow : Int32) (c_first : Int32) (c_inWindow : Int32) (c_same : Int32) (c_made : Int32) (c_requests : Int32) (c_total : Int64) (c_secrets : Int32) (c_rounds : Int32) (c_high : Int64) (c_low : Int64) (c_keyHigh : Int64) (c_keyLow : Int64) (r_ : Int32) (c_thrown' : Int32) (hf : f_X10_state c_state c_thrown = some (r_, c_thrown')) : Met l yX10_state wsX10_state ({ frames := 0, cells := 0, slots := 0, locals := 0 }) (zPc D cy tt sz [.ref h0] ([(h0, .inr (12, zmo hm c_thrown c_state c_test c_words c_ill c_before c_inRow c_first c_inWindow c_same c_made c_requests c_total c_secrets c_rounds c_high c_low c_keyHigh c_keyLow))])) (zQ D (some (.int r_)) ([(h0, .inr (12, zmo hm c_thrown' c_state c_test c_words c_ill c_before c_inRow c_first c_inWindow c_same c_made c_requests c_total c_secrets c_rounds c_high c_low c_keyHigh c_keyLow))]) (va_A ([(h0, .inr (12, zmo hm c_thrown c_state c_test c_words c_ill c_before c_inRow c_first c_inWindow c_same c_made c_requests c_total c_secrets c_rounds c_high c_low c_keyHigh c_keyLow))]) sz)) 0 0 (va_A ([(h0, .inr (12, zmo hm c_thrown c_state c_test c_words c_ill c_before c_inRow c_first c_inWindow c_same c_made c_requests c_total c_secrets c_rounds c_high c_low c_keyHigh c_keyLow))]) sz) := by
  refine Met.ofW (cc := cX10_state) (maxL := 1) (ret := (some .int)) (by decide) rfl ?_
  intro p e s m args below meth c s₁ B hml hv
  obtain ⟨rfl, rfl, hP, hD0, hE⟩ := hv
  have hx := B.exec
  have hb := B.bytes
  have hr := B.returns
  have hts := atoms_spec (ws := wsX10_state) B.pre
  have hown : s.vm.findClass RX10 = some m.cls := findClass_of_methodNamed B.named
  have hlocks := B.notSynchronized
  clear B
  have hD := hD0.self (sz := s.heap.size)
  generalize hAe : va_A ([(h0, .inr (12, zmo hm c_thrown c_state c_test c_words c_ill c_before c_inRow c_first c_inWindow c_same c_made c_requests c_total c_secrets c_rounds c_high c_low c_keyHigh c_keyLow))]) s.heap.size = A at hD hE ⊢
  have hA : ∀ q : Nat, s.heap.size ≤ q → A q := fun q h => by rw [← hAe]; exact Or.inr h
  clear hAe hD0
  have hS : va_S A s.heap s.heap [] := va_S.rf
  have hK := hE.1
  have hw0 := hts (.fieldLink RX10 189 "SealedModuleModel" "thrown" "I") (by decide +kernel)
  have hw1 := hts (.fieldLink RX10 273 "SealedModuleModel" "state" "I") (by decide +kernel)
  have hcX10 : ∀ w ∈ u_ws RX10 TX10 52, w ∈ wsX10_state := (fun _ h => List.mem_cons_of_mem _ (List.mem_append_right _ h))
  have hl := lv_entry ([.ref h0]) (n := 1) (Nat.le_of_ble_eq_true rfl)
  rw [lg_entry_eq]
  generalize (lg_sl ([.ref h0]) ++ List.replicate (1 - (lg_sl ([.ref h0])).length) Slot.unset).toArray = ls at hl ⊢
  replace hl : lv_has ls 1 [(0, .ref h0)] := hl
  unfold f_X10_state at hf
  refine zgo (fun GW hTo hFr => ?_)
  refine hFr _ _ _ ?_
  obtain ⟨H, hHe⟩ : ∃ H, H = s.heap := ⟨_, rfl⟩
  obtain ⟨locs, hLe⟩ : ∃ L : List Loc, L = [] := ⟨_, rfl⟩
  rw [← hHe] at hP
  replace hS : va_S A s.heap H locs := by rw [hHe, hLe]; exact hS
  refine zat hHe.symm hLe.symm ?_
  clear hHe hLe
  refine lv_aload_n (pc := 0) hx hb (zdt_at zt_X10_state_0 0 rfl) rfl (lv_at hl 0 rfl) ?_
  refine lv_iconst (pc := 1) (v := (0 : Int32)) hx hb (zdt_at zt_X10_state_0 1 rfl) (by decide) ?_
  refine va_put (pc := 2) (D := D) (ci := 12) (v := .int (0 : Int32)) (ty := .int) (C := RX10) (T := TX10) (N := 52) hx hb hts hcX10 tyX10 tyX10_ok nmX10 hown hK hP hD hS 0 rfl rfl 1 (by decide) hw0 (fun _ h9 => h9) rfl (by decide +kernel) rfl rfl (Nat.le_of_ble_eq_true rfl) (zdt_at zt_X10_state_0 2 rfl) ?_
  clear hP hD hS
  intro H locs hP hD hS
  replace hP : va_P D vwCl ([(h0, .inr (12, zmo hm (0 : Int32) c_state c_test c_words c_ill c_before c_inRow c_first c_inWindow c_same c_made c_requests c_total c_secrets c_rounds c_high c_low c_keyHigh c_keyLow))]) H := hP
  replace hD : va_D A ([(h0, .inr (12, zmo hm (0 : Int32) c_state c_test c_words c_ill c_before c_inRow c_first c_inWindow c_same c_made c_requests c_total c_secrets c_rounds c_high c_low c_keyHigh c_keyLow))]) := hD
  refine lv_aload_n (pc := 5) hx hb (zdt_at zt_X10_state_0 3 rfl) rfl (lv_at hl 0 rfl) ?_
  refine va_get (pc := 6) (D := D) (ci := 12) (v := .int c_state) (C := RX10) (T := TX10) (N := 52) hx hb hts hcX10 hown hK hP 0 rfl rfl 2 (by decide) hw1 (fun _ h9 => h9) rfl (zdt_at zt_X10_state_0 4 rfl) ?_
  cases hf
  exact W.iret (pc := 9) hx hb hr (fun t ht hW => ⟨rfl, ⟨by rw [ht]; exact hP, hD⟩, hS.F ht⟩) hS.2.2 (zdt_at zt_X10_state_0 5 rfl)
set_option maxHeartbeats 4000000 in
set_option maxRecDepth 100000 in
theorem c_X10_slotInfo (l : Launch) (D : va_G) (cy : Nat → ClassId) (tt : Nat → Nat) (sz : Nat) (h0 : Nat) (hm : Nat → Nat) (p1 : Int32) (p2 : Int32) (c_thrown : Int32) (c_holder : Nat → Int32) (c_kind : Nat → Int32) (c_length : Nat → Int32) (c_usage : Nat → Int32) (c_uses : Nat → Int32) (c_state : Int32) (c_test : Int32) (c_words : Int32) (c_ill : Int32) (c_before : Int32) (c_inRow : Int32) (c_first : Int32) (c_inWindow : Int32) (c_same : Int32) (c_made : Int32) (c_requests : Int32) (c_total : Int64) (c_secrets : Int32) (c_rounds : Int32) (c_high : Int64) (c_low : Int64) (c_keyHigh : Int64) (c_keyLow : Int64) (r_ : Int32) (c_thrown' : Int32) (hf : f_X10_slotInfo p1 p2 c_thrown c_holder c_kind c_length c_usage c_uses = some (r_, c_thrown')) : Met l yX10_slotInfo wsX10_slotInfo ({ frames := 1, cells := 0, slots := 0, locals := 22 }) (zPc D cy tt sz [.ref h0, .int p1, .int p2] ([(h0, .inr (12, zmo hm c_thrown c_state c_test c_words c_ill c_before c_inRow c_first c_inWindow c_same c_made c_requests c_total c_secrets c_rounds c_high c_low c_keyHigh c_keyLow)), ((hm 12), .inl (cy 1, 16, .inl c_holder)), ((hm 9), .inl (cy 1, 16, .inl c_kind)), ((hm 10), .inl (cy 1, 16, .inl c_length)), ((hm 11), .inl (cy 1, 16, .inl c_usage)), ((hm 13), .inl (cy 1, 16, .inl c_uses))])) (zQ D (some (.int r_)) ([(h0, .inr (12, zmo hm c_thrown' c_state c_test c_words c_ill c_before c_inRow c_first c_inWindow c_same c_made c_requests c_total c_secrets c_rounds c_high c_low c_keyHigh c_keyLow)), ((hm 12), .inl (cy 1, 16, .inl c_holder)), ((hm 9), .inl (cy 1, 16, .inl c_kind)), ((hm 10), .inl (cy 1, 16, .inl c_length)), ((hm 11), .inl (cy 1, 16, .inl c_usage)), ((hm 13), .inl (cy 1, 16, .inl c_uses))]) (va_A ([(h0, .inr (12, zmo hm c_thrown c_state c_test c_words c_ill c_before c_inRow c_first c_inWindow c_same c_made c_requests c_total c_secrets c_rounds c_high c_low c_keyHigh c_keyLow)), ((hm 12), .inl (cy 1, 16, .inl c_holder)), ((hm 9), .inl (cy 1, 16, .inl c_kind)), ((hm 10), .inl (cy 1, 16, .inl c_length)), ((hm 11), .inl (cy 1, 16, .inl c_usage)), ((hm 13), .inl (cy 1, 16, .inl c_uses))]) sz)) 0 0 (va_A ([(h0, .inr (12, zmo hm c_thrown c_state c_test c_words c_ill c_before c_inRow c_first c_inWindow c_same c_made c_requests c_total c_secrets c_rounds c_high c_low c_keyHigh c_keyLow)), ((hm 12), .inl (cy 1, 16, .inl c_holder)), ((hm 9), .inl (cy 1, 16, .inl c_kind)), ((hm 10), .inl (cy 1, 16, .inl c_length)), ((hm 11), .inl (cy 1, 16, .inl c_usage)), ((hm 13), .inl (cy 1, 16, .inl c_uses))]) sz) := by
  refine Met.ofW (cc := cX10_slotInfo) (maxL := 3) (ret := (some .int)) (by decide) rfl ?_
  intro p e s m args below meth c s₁ B hml hv
  obtain ⟨rfl, rfl, hP, hD0, hE⟩ := hv
  have hx := B.exec
  have hb := B.bytes
  have hr := B.returns
  have hts := atoms_spec (ws := wsX10_slotInfo) B.pre
  have hown : s.vm.findClass RX10 = some m.cls := findClass_of_methodNamed B.named
  have hlocks := B.notSynchronized
  clear B
  have hD := hD0.self (sz := s.heap.size)
  generalize hAe : va_A ([(h0, .inr (12, zmo hm c_thrown c_state c_test c_words c_ill c_before c_inRow c_first c_inWindow c_same c_made c_requests c_total c_secrets c_rounds c_high c_low c_keyHigh c_keyLow)), ((hm 12), .inl (cy 1, 16, .inl c_holder)), ((hm 9), .inl (cy 1, 16, .inl c_kind)), ((hm 10), .inl (cy 1, 16, .inl c_length)), ((hm 11), .inl (cy 1, 16, .inl c_usage)), ((hm 13), .inl (cy 1, 16, .inl c_uses))]) s.heap.size = A at hD hE ⊢
  have hA : ∀ q : Nat, s.heap.size ≤ q → A q := fun q h => by rw [← hAe]; exact Or.inr h
  clear hAe hD0
  have hS : va_S A s.heap s.heap [] := va_S.rf
  have hK := hE.1
  have hw0 := hts (.fieldLink RX10 189 "SealedModuleModel" "thrown" "I") (by decide +kernel)
  have hw1 := hts (.fieldLink RX10 93 "SealedModuleModel" "kind" "[I") (by decide +kernel)
  have hw2 := hts (.fieldLink RX10 105 "SealedModuleModel" "uses" "[I") (by decide +kernel)
  have hw3 := hts (.fieldLink RX10 102 "SealedModuleModel" "holder" "[I") (by decide +kernel)
  have hw4 := hts (.fieldLink RX10 99 "SealedModuleModel" "usage" "[I") (by decide +kernel)
  have hw5 := hts (.fieldLink RX10 96 "SealedModuleModel" "length" "[I") (by decide +kernel)
  have hcX10 : ∀ w ∈ u_ws RX10 TX10 52, w ∈ wsX10_slotInfo := (fun _ h => List.mem_cons_of_mem _ (List.mem_append_right _ h))
  have hl := lv_entry ([.ref h0, .int p1, .int p2]) (n := 3) (Nat.le_of_ble_eq_true rfl)
  rw [lg_entry_eq]
  generalize (lg_sl ([.ref h0, .int p1, .int p2]) ++ List.replicate (3 - (lg_sl ([.ref h0, .int p1, .int p2])).length) Slot.unset).toArray = ls at hl ⊢
  replace hl : lv_has ls 3 [(0, .ref h0), (1, .int p1), (2, .int p2)] := hl
  unfold f_X10_slotInfo at hf
  refine zgo (fun GW hTo hFr => ?_)
  refine hFr _ _ _ ?_
  obtain ⟨H, hHe⟩ : ∃ H, H = s.heap := ⟨_, rfl⟩
  obtain ⟨locs, hLe⟩ : ∃ L : List Loc, L = [] := ⟨_, rfl⟩
  rw [← hHe] at hP
  replace hS : va_S A s.heap H locs := by rw [hHe, hLe]; exact hS
  refine zat hHe.symm hLe.symm ?_
  clear hHe hLe
  refine lv_aload_n (pc := 0) hx hb (zdt_at zt_X10_slotInfo_0 0 rfl) rfl (lv_at hl 0 rfl) ?_
  refine lv_iload_n (pc := 1) hx hb (zdt_at zt_X10_slotInfo_0 1 rfl) rfl (lv_at hl 1 rfl) ?_
  refine lv_iconst (pc := 2) (v := (0 : Int32)) hx hb (zdt_at zt_X10_slotInfo_0 2 rfl) (by decide) ?_
  refine lv_bipush (pc := 3) (v := (15 : Int32)) hx hb (zdt_at zt_X10_slotInfo_0 3 rfl) (by decide) ?_
  replace hf := zb_s hf
  obtain ⟨r_1, hc_, hf⟩ := hf
  refine zcs (pc := 5) (rv := (some (.int r_1))) (va_runS (As := [.int p1, .int (0 : Int32), .int (15 : Int32)]) (rest := [.ref h0]) ⟨hx, hb, hml, hown, hts⟩ (c_X10_in l D cy tt H.size p1 (0 : Int32) (15 : Int32) r_1 hc_) (va_cwS 3 hts gX10_slotInfo_X10_in rfl rfl rfl (by decide +kernel) ⟨Nat.le_of_ble_eq_true rfl, Nat.le_of_ble_eq_true rfl⟩) ⟨zblind, zpre hE hS (hP.sub [] rfl) (hD.sub [] (by decide) rfl) (va_free hD hS hA [] rfl)⟩ rfl rfl hl.1 rfl (lv_room (Nat.le_of_ble_eq_true rfl)) (zdt_at zt_X10_slotInfo_0 4 rfl) ⟨Nat.zero_le _, Nat.zero_le _⟩) ?_
  clear hc_
  refine W.eq (g2 := F0 m 8 ls [.int r_1, .ref h0]) rfl ?_
  replace hf := zj_s hf
  obtain ⟨K_3, eK_3, hf⟩ := hf
  have kK_3 : ∀ (v_2 : Int32) (H : Heap) (locs : List Loc) (ls : Array Slot), va_P D vwCl ([(h0, .inr (12, zmo hm c_thrown c_state c_test c_words c_ill c_before c_inRow c_first c_inWindow c_same c_made c_requests c_total c_secrets c_rounds c_high c_low c_keyHigh c_keyLow)), ((hm 12), .inl (cy 1, 16, .inl c_holder)), ((hm 9), .inl (cy 1, 16, .inl c_kind)), ((hm 10), .inl (cy 1, 16, .inl c_length)), ((hm 11), .inl (cy 1, 16, .inl c_usage)), ((hm 13), .inl (cy 1, 16, .inl c_uses))]) H → va_D A ([(h0, .inr (12, zmo hm c_thrown c_state c_test c_words c_ill c_before c_inRow c_first c_inWindow c_same c_made c_requests c_total c_secrets c_rounds c_high c_low c_keyHigh c_keyLow)), ((hm 12), .inl (cy 1, 16, .inl c_holder)), ((hm 9), .inl (cy 1, 16, .inl c_kind)), ((hm 10), .inl (cy 1, 16, .inl c_length)), ((hm 11), .inl (cy 1, 16, .inl c_usage)), ((hm 13), .inl (cy 1, 16, .inl c_uses))]) → va_S A s.heap H locs → lv_has ls 3 [(0, .ref h0), (1, .int p1), (2, .int p2)] → K_3 v_2 = some (r_, c_thrown') → GW H locs (F0 m 25 ls [.int v_2, .ref h0]) := by
    clear hf hl hP hD hS
    intro v_2 H locs ls hP hD hS hl hf
    rw [eK_3] at hf
    clear eK_3
    refine hFr _ _ _ ?_
    refine va_put (pc := 25) (D := D) (ci := 12) (v := .int v_2) (ty := .int) (C := RX10) (T := TX10) (N := 52) hx hb hts hcX10 tyX10 tyX10_ok nmX10 hown hK hP hD hS 0 rfl rfl 1 (by decide) hw0 (fun _ h9 => h9) rfl (by decide +kernel) rfl rfl (Nat.le_of_ble_eq_true rfl) (zdt_at zt_X10_slotInfo_0 14 rfl) ?_
    clear hP hD hS
    intro H locs hP hD hS
    replace hP : va_P D vwCl ([(h0, .inr (12, zmo hm v_2 c_state c_test c_words c_ill c_before c_inRow c_first c_inWindow c_same c_made c_requests c_total c_secrets c_rounds c_high c_low c_keyHigh c_keyLow)), ((hm 12), .inl (cy 1, 16, .inl c_holder)), ((hm 9), .inl (cy 1, 16, .inl c_kind)), ((hm 10), .inl (cy 1, 16, .inl c_length)), ((hm 11), .inl (cy 1, 16, .inl c_usage)), ((hm 13), .inl (cy 1, 16, .inl c_uses))]) H := hP
    replace hD : va_D A ([(h0, .inr (12, zmo hm v_2 c_state c_test c_words c_ill c_before c_inRow c_first c_inWindow c_same c_made c_requests c_total c_secrets c_rounds c_high c_low c_keyHigh c_keyLow)), ((hm 12), .inl (cy 1, 16, .inl c_holder)), ((hm 9), .inl (cy 1, 16, .inl c_kind)), ((hm 10), .inl (cy 1, 16, .inl c_length)), ((hm 11), .inl (cy 1, 16, .inl c_usage)), ((hm 13), .inl (cy 1, 16, .inl c_uses))]) := hD
    refine lv_aload_n (pc := 28) hx hb (zdt_at zt_X10_slotInfo_0 15 rfl) rfl (lv_at hl 0 rfl) ?_
    refine va_get (pc := 29) (D := D) (ci := 12) (v := .int v_2) (C := RX10) (T := TX10) (N := 52) hx hb hts hcX10 hown hK hP 0 rfl rfl 1 (by decide) hw0 (fun _ h9 => h9) rfl (zdt_at zt_X10_slotInfo_0 16 rfl) ?_
    refine lv_if_le (pc := 32) (tgt := 37) hx hb (zdt_at zt_X10_slotInfo_0 17 rfl) (by decide) (fun cn_ => ?t_4) (fun cn_ => ?f_5)
    case f_5 =>
      replace hf := ze_s cn_ hf
      clear cn_
      refine lv_iconst (pc := 35) (v := (0 : Int32)) hx hb (zdt_at zt_X10_slotInfo_0 18 rfl) (by decide) ?_
      cases hf
      exact W.iret (pc := 36) hx hb hr (fun t ht hW => ⟨rfl, ⟨by rw [ht]; exact hP, hD⟩, hS.F ht⟩) hS.2.2 (zdt_at zt_X10_slotInfo_0 19 rfl)
    replace hf := zt_s cn_ hf
    clear cn_
    refine lv_aload_n (pc := 37) hx hb (zdt_at zt_X10_slotInfo_0 20 rfl) rfl (lv_at hl 0 rfl) ?_
    refine va_get (pc := 38) (D := D) (ci := 12) (v := .ref (hm 9)) (C := RX10) (T := TX10) (N := 52) hx hb hts hcX10 hown hK hP 0 rfl rfl 9 (by decide) hw1 (fun _ h9 => h9) rfl (zdt_at zt_X10_slotInfo_0 21 rfl) ?_
    refine lv_iload_n (pc := 41) hx hb (zdt_at zt_X10_slotInfo_0 22 rfl) rfl (lv_at hl 1 rfl) ?_
    replace hf := zk_s hf
    refine va_iald (pc := 42) hx hb hK hP 2 1 rfl rfl hf.1 (zdt_at zt_X10_slotInfo_0 23 rfl) ?_
    replace hf := hf.2
    refine lv_if_ne (pc := 43) (tgt := 48) hx hb (zdt_at zt_X10_slotInfo_0 24 rfl) (by decide) (fun cn_ => ?t_6) (fun cn_ => ?f_7)
    case f_7 =>
      replace hf := zt_s cn_ hf
      clear cn_
      refine lv_iconst (pc := 46) (v := (-1 : Int32)) hx hb (zdt_at zt_X10_slotInfo_0 25 rfl) (by decide) ?_
      cases hf
      exact W.iret (pc := 47) hx hb hr (fun t ht hW => ⟨rfl, ⟨by rw [ht]; exact hP, hD⟩, hS.F ht⟩) hS.2.2 (zdt_at zt_X10_slotInfo_0 26 rfl)
    replace hf := ze_s cn_ hf
    clear cn_
    refine lv_iload_n (pc := 48) hx hb (zdt_at zt_X10_slotInfo_0 27 rfl) rfl (lv_at hl 2 rfl) ?_
    refine lv_if_ne (pc := 49) (tgt := 61) hx hb (zdt_at zt_X10_slotInfo_0 28 rfl) (by decide) (fun cn_ => ?t_8) (fun cn_ => ?f_9)
    case f_9 =>
      replace hf := zt_s cn_ hf
      clear cn_
      refine lv_aload_n (pc := 52) hx hb (zdt_at zt_X10_slotInfo_0 29 rfl) rfl (lv_at hl 0 rfl) ?_
      refine va_get (pc := 53) (D := D) (ci := 12) (v := .ref (hm 9)) (C := RX10) (T := TX10) (N := 52) hx hb hts hcX10 hown hK hP 0 rfl rfl 9 (by decide) hw1 (fun _ h9 => h9) rfl (zdt_at zt_X10_slotInfo_0 30 rfl) ?_
      refine lv_iload_n (pc := 56) hx hb (zdt_at zt_X10_slotInfo_0 31 rfl) rfl (lv_at hl 1 rfl) ?_
      replace hf := zk_s hf
      refine va_iald (pc := 57) hx hb hK hP 2 1 rfl rfl hf.1 (zdt_at zt_X10_slotInfo_0 32 rfl) ?_
      replace hf := hf.2
      refine lv_goto (pc := 58) (tgt := 109) hx hb (zdt_at zt_X10_slotInfo_0 33 rfl) (by decide) ?_
      cases hf
      exact W.iret (pc := 109) hx hb hr (fun t ht hW => ⟨rfl, ⟨by rw [ht]; exact hP, hD⟩, hS.F ht⟩) hS.2.2 (zdt_at zt_X10_slotInfo_0 62 rfl)
    replace hf := ze_s cn_ hf
    clear cn_
    refine lv_iload_n (pc := 61) hx hb (zdt_at zt_X10_slotInfo_0 34 rfl) rfl (lv_at hl 2 rfl) ?_
    refine lv_iconst (pc := 62) (v := (1 : Int32)) hx hb (zdt_at zt_X10_slotInfo_0 35 rfl) (by decide) ?_
    refine lv_icmp_ne (pc := 63) (tgt := 75) hx hb (zdt_at zt_X10_slotInfo_0 36 rfl) (by decide) (fun cn_ => ?t_10) (fun cn_ => ?f_11)
    case f_11 =>
      replace hf := zt_s cn_ hf
      clear cn_
      refine lv_aload_n (pc := 66) hx hb (zdt_at zt_X10_slotInfo_0 37 rfl) rfl (lv_at hl 0 rfl) ?_
      refine va_get (pc := 67) (D := D) (ci := 12) (v := .ref (hm 10)) (C := RX10) (T := TX10) (N := 52) hx hb hts hcX10 hown hK hP 0 rfl rfl 10 (by decide) hw5 (fun _ h9 => h9) rfl (zdt_at zt_X10_slotInfo_0 38 rfl) ?_
      refine lv_iload_n (pc := 70) hx hb (zdt_at zt_X10_slotInfo_0 39 rfl) rfl (lv_at hl 1 rfl) ?_
      replace hf := zk_s hf
      refine va_iald (pc := 71) hx hb hK hP 3 1 rfl rfl hf.1 (zdt_at zt_X10_slotInfo_0 40 rfl) ?_
      replace hf := hf.2
      refine lv_goto (pc := 72) (tgt := 109) hx hb (zdt_at zt_X10_slotInfo_0 41 rfl) (by decide) ?_
      cases hf
      exact W.iret (pc := 109) hx hb hr (fun t ht hW => ⟨rfl, ⟨by rw [ht]; exact hP, hD⟩, hS.F ht⟩) hS.2.2 (zdt_at zt_X10_slotInfo_0 62 rfl)
    replace hf := ze_s cn_ hf
    clear cn_
    refine lv_iload_n (pc := 75) hx hb (zdt_at zt_X10_slotInfo_0 42 rfl) rfl (lv_at hl 2 rfl) ?_
    refine lv_iconst (pc := 76) (v := (2 : Int32)) hx hb (zdt_at zt_X10_slotInfo_0 43 rfl) (by decide) ?_
    refine lv_icmp_ne (pc := 77) (tgt := 89) hx hb (zdt_at zt_X10_slotInfo_0 44 rfl) (by decide) (fun cn_ => ?t_12) (fun cn_ => ?f_13)
    case f_13 =>
      replace hf := zt_s cn_ hf
      clear cn_
      refine lv_aload_n (pc := 80) hx hb (zdt_at zt_X10_slotInfo_0 45 rfl) rfl (lv_at hl 0 rfl) ?_
      refine va_get (pc := 81) (D := D) (ci := 12) (v := .ref (hm 11)) (C := RX10) (T := TX10) (N := 52) hx hb hts hcX10 hown hK hP 0 rfl rfl 11 (by decide) hw4 (fun _ h9 => h9) rfl (zdt_at zt_X10_slotInfo_0 46 rfl) ?_
      refine lv_iload_n (pc := 84) hx hb (zdt_at zt_X10_slotInfo_0 47 rfl) rfl (lv_at hl 1 rfl) ?_
      replace hf := zk_s hf
      refine va_iald (pc := 85) hx hb hK hP 4 1 rfl rfl hf.1 (zdt_at zt_X10_slotInfo_0 48 rfl) ?_
      replace hf := hf.2
      refine lv_goto (pc := 86) (tgt := 109) hx hb (zdt_at zt_X10_slotInfo_0 49 rfl) (by decide) ?_
      cases hf
      exact W.iret (pc := 109) hx hb hr (fun t ht hW => ⟨rfl, ⟨by rw [ht]; exact hP, hD⟩, hS.F ht⟩) hS.2.2 (zdt_at zt_X10_slotInfo_0 62 rfl)
    replace hf := ze_s cn_ hf
    clear cn_
    refine lv_iload_n (pc := 89) hx hb (zdt_at zt_X10_slotInfo_0 50 rfl) rfl (lv_at hl 2 rfl) ?_
    refine lv_iconst (pc := 90) (v := (3 : Int32)) hx hb (zdt_at zt_X10_slotInfo_0 51 rfl) (by decide) ?_
    refine lv_icmp_ne (pc := 91) (tgt := 103) hx hb (zdt_at zt_X10_slotInfo_0 52 rfl) (by decide) (fun cn_ => ?t_14) (fun cn_ => ?f_15)
    case t_14 =>
      replace hf := ze_s cn_ hf
      clear cn_
      refine lv_aload_n (pc := 103) hx hb (zdt_at zt_X10_slotInfo_0 58 rfl) rfl (lv_at hl 0 rfl) ?_
      refine va_get (pc := 104) (D := D) (ci := 12) (v := .ref (hm 13)) (C := RX10) (T := TX10) (N := 52) hx hb hts hcX10 hown hK hP 0 rfl rfl 13 (by decide) hw2 (fun _ h9 => h9) rfl (zdt_at zt_X10_slotInfo_0 59 rfl) ?_
      refine lv_iload_n (pc := 107) hx hb (zdt_at zt_X10_slotInfo_0 60 rfl) rfl (lv_at hl 1 rfl) ?_
      replace hf := zk_s hf
      refine va_iald (pc := 108) hx hb hK hP 5 1 rfl rfl hf.1 (zdt_at zt_X10_slotInfo_0 61 rfl) ?_
      replace hf := hf.2
      cases hf
      exact W.iret (pc := 109) hx hb hr (fun t ht hW => ⟨rfl, ⟨by rw [ht]; exact hP, hD⟩, hS.F ht⟩) hS.2.2 (zdt_at zt_X10_slotInfo_0 62 rfl)
    replace hf := zt_s cn_ hf
    clear cn_
    refine lv_aload_n (pc := 94) hx hb (zdt_at zt_X10_slotInfo_0 53 rfl) rfl (lv_at hl 0 rfl) ?_
    refine va_get (pc := 95) (D := D) (ci := 12) (v := .ref (hm 12)) (C := RX10) (T := TX10) (N := 52) hx hb hts hcX10 hown hK hP 0 rfl rfl 12 (by decide) hw3 (fun _ h9 => h9) rfl (zdt_at zt_X10_slotInfo_0 54 rfl) ?_
    refine lv_iload_n (pc := 98) hx hb (zdt_at zt_X10_slotInfo_0 55 rfl) rfl (lv_at hl 1 rfl) ?_
    replace hf := zk_s hf
    refine va_iald (pc := 99) hx hb hK hP 1 1 rfl rfl hf.1 (zdt_at zt_X10_slotInfo_0 56 rfl) ?_
    replace hf := hf.2
    refine lv_goto (pc := 100) (tgt := 109) hx hb (zdt_at zt_X10_slotInfo_0 57 rfl) (by decide) ?_
    cases hf
    exact W.iret (pc := 109) hx hb hr (fun t ht hW => ⟨rfl, ⟨by rw [ht]; exact hP, hD⟩, hS.F ht⟩) hS.2.2 (zdt_at zt_X10_slotInfo_0 62 rfl)
  clear eK_3
  replace hf := zj_s hf
  obtain ⟨K_16, eK_16, hf⟩ := hf
  have kK_16 : ∀  (H : Heap) (locs : List Loc) (ls : Array Slot), va_P D vwCl ([(h0, .inr (12, zmo hm c_thrown c_state c_test c_words c_ill c_before c_inRow c_first c_inWindow c_same c_made c_requests c_total c_secrets c_rounds c_high c_low c_keyHigh c_keyLow)), ((hm 12), .inl (cy 1, 16, .inl c_holder)), ((hm 9), .inl (cy 1, 16, .inl c_kind)), ((hm 10), .inl (cy 1, 16, .inl c_length)), ((hm 11), .inl (cy 1, 16, .inl c_usage)), ((hm 13), .inl (cy 1, 16, .inl c_uses))]) H → va_D A ([(h0, .inr (12, zmo hm c_thrown c_state c_test c_words c_ill c_before c_inRow c_first c_inWindow c_same c_made c_requests c_total c_secrets c_rounds c_high c_low c_keyHigh c_keyLow)), ((hm 12), .inl (cy 1, 16, .inl c_holder)), ((hm 9), .inl (cy 1, 16, .inl c_kind)), ((hm 10), .inl (cy 1, 16, .inl c_length)), ((hm 11), .inl (cy 1, 16, .inl c_usage)), ((hm 13), .inl (cy 1, 16, .inl c_uses))]) → va_S A s.heap H locs → lv_has ls 3 [(0, .ref h0), (1, .int p1), (2, .int p2)] → K_16 () = some (r_, c_thrown') → GW H locs (F0 m 24 ls [.ref h0]) := by
    clear hf hl hP hD hS
    intro  H locs ls hP hD hS hl hf
    rw [eK_16] at hf
    clear eK_16
    refine hFr _ _ _ ?_
    refine lv_iconst (pc := 24) (v := (1 : Int32)) hx hb (zdt_at zt_X10_slotInfo_0 13 rfl) (by decide) ?_
    exact hTo _ _ _ (kK_3 _ H locs ls hP hD hS (lv_sub hl [0, 1, 2] rfl) hf)
  clear eK_16
  refine lv_if_eq (pc := 8) (tgt := 24) hx hb (zdt_at zt_X10_slotInfo_0 5 rfl) (by decide) (fun cn_ => ?t_17) (fun cn_ => ?f_18)
  case t_17 =>
    replace hf := zt_s cn_ hf
    clear cn_
    exact hTo _ _ _ (kK_16  H locs ls hP hD hS (lv_sub hl [0, 1, 2] rfl) hf)
  replace hf := ze_s cn_ hf
  clear cn_
  refine lv_iload_n (pc := 11) hx hb (zdt_at zt_X10_slotInfo_0 6 rfl) rfl (lv_at hl 2 rfl) ?_
  refine lv_iconst (pc := 12) (v := (0 : Int32)) hx hb (zdt_at zt_X10_slotInfo_0 7 rfl) (by decide) ?_
  refine lv_iconst (pc := 13) (v := (4 : Int32)) hx hb (zdt_at zt_X10_slotInfo_0 8 rfl) (by decide) ?_
  replace hf := zb_s hf
  obtain ⟨r_19, hc_, hf⟩ := hf
  refine zcs (pc := 14) (rv := (some (.int r_19))) (va_runS (As := [.int p2, .int (0 : Int32), .int (4 : Int32)]) (rest := [.ref h0]) ⟨hx, hb, hml, hown, hts⟩ (c_X10_in l D cy tt H.size p2 (0 : Int32) (4 : Int32) r_19 hc_) (va_cwS 3 hts gX10_slotInfo_X10_in rfl rfl rfl (by decide +kernel) ⟨Nat.le_of_ble_eq_true rfl, Nat.le_of_ble_eq_true rfl⟩) ⟨zblind, zpre hE hS (hP.sub [] rfl) (hD.sub [] (by decide) rfl) (va_free hD hS hA [] rfl)⟩ rfl rfl hl.1 rfl (lv_room (Nat.le_of_ble_eq_true rfl)) (zdt_at zt_X10_slotInfo_0 9 rfl) ⟨Nat.zero_le _, Nat.zero_le _⟩) ?_
  clear hc_
  refine W.eq (g2 := F0 m 17 ls [.int r_19, .ref h0]) rfl ?_
  refine lv_if_eq (pc := 17) (tgt := 24) hx hb (zdt_at zt_X10_slotInfo_0 10 rfl) (by decide) (fun cn_ => ?t_20) (fun cn_ => ?f_21)
  case t_20 =>
    replace hf := zt_s cn_ hf
    clear cn_
    exact hTo _ _ _ (kK_16  H locs ls hP hD hS (lv_sub hl [0, 1, 2] rfl) hf)
  replace hf := ze_s cn_ hf
  clear cn_
  refine lv_iconst (pc := 20) (v := (0 : Int32)) hx hb (zdt_at zt_X10_slotInfo_0 11 rfl) (by decide) ?_
  refine lv_goto (pc := 21) (tgt := 25) hx hb (zdt_at zt_X10_slotInfo_0 12 rfl) (by decide) ?_
  exact hTo _ _ _ (kK_3 _ H locs ls hP hD hS (lv_sub hl [0, 1, 2] rfl) hf)
set_option maxHeartbeats 4000000 in
set_option maxRecDepth 100000 in
theorem c_X10_isOthers (l : Launch) (D : va_G) (cy : Nat → ClassId) (tt : Nat → Nat) (sz : Nat) (h0 : Nat) (hm : Nat → Nat) (p1 : Int32) (c_state : Int32) (c_holder : Nat → Int32) (c_kind : Nat → Int32) (c_thrown : Int32) (c_test : Int32) (c_words : Int32) (c_ill : Int32) (c_before : Int32) (c_inRow : Int32) (c_first : Int32) (c_inWindow : Int32) (c_same : Int32) (c_made : Int32) (c_requests : Int32) (c_total : Int64) (c_secrets : Int32) (c_rounds : Int32) (c_high : Int64) (c_low : Int64) (c_keyHigh : Int64) (c_keyLow : Int64) (r_ : Int32) (hf : f_X10_isOthers p1 c_state c_holder c_kind = some r_) : Met l yX10_isOthers wsX10_isOthers ({ frames := 1, cells := 0, slots := 0, locals := 20 }) (zPc D cy tt sz [.ref h0, .int p1] ([(h0, .inr (12, zmo hm c_thrown c_state c_test c_words c_ill c_before c_inRow c_first c_inWindow c_same c_made c_requests c_total c_secrets c_rounds c_high c_low c_keyHigh c_keyLow)), ((hm 12), .inl (cy 1, 16, .inl c_holder)), ((hm 9), .inl (cy 1, 16, .inl c_kind))])) (fun _ st o t => o = .returned (some (.int r_)) ∧ t.heap = st.heap) 0 0 (fun _ => False) := by
  refine Met.ofW (cc := cX10_isOthers) (maxL := 2) (ret := (some .boolean)) (by decide) rfl ?_
  intro p e s m args below meth c s₁ B hml hv
  obtain ⟨rfl, rfl, hP, hD0, hE⟩ := hv
  have hx := B.exec
  have hb := B.bytes
  have hr := B.returns
  have hts := atoms_spec (ws := wsX10_isOthers) B.pre
  have hown : s.vm.findClass RX10 = some m.cls := findClass_of_methodNamed B.named
  have hlocks := B.notSynchronized
  clear B
  have hD := hD0.self (sz := s.heap.size)
  generalize hAe : va_A ([(h0, .inr (12, zmo hm c_thrown c_state c_test c_words c_ill c_before c_inRow c_first c_inWindow c_same c_made c_requests c_total c_secrets c_rounds c_high c_low c_keyHigh c_keyLow)), ((hm 12), .inl (cy 1, 16, .inl c_holder)), ((hm 9), .inl (cy 1, 16, .inl c_kind))]) s.heap.size = A at hD hE
  have hA : ∀ q : Nat, s.heap.size ≤ q → A q := fun q h => by rw [← hAe]; exact Or.inr h
  clear hAe hD0
  have hS : va_S A s.heap s.heap [] := va_S.rf
  have hK := hE.1
  have hw0 := hts (.fieldLink RX10 93 "SealedModuleModel" "kind" "[I") (by decide +kernel)
  have hw1 := hts (.fieldLink RX10 102 "SealedModuleModel" "holder" "[I") (by decide +kernel)
  have hcX10 : ∀ w ∈ u_ws RX10 TX10 52, w ∈ wsX10_isOthers := (fun _ h => List.mem_cons_of_mem _ (List.mem_append_right _ h))
  have hl := lv_entry ([.ref h0, .int p1]) (n := 2) (Nat.le_of_ble_eq_true rfl)
  rw [lg_entry_eq]
  generalize (lg_sl ([.ref h0, .int p1]) ++ List.replicate (2 - (lg_sl ([.ref h0, .int p1])).length) Slot.unset).toArray = ls at hl ⊢
  replace hl : lv_has ls 2 [(0, .ref h0), (1, .int p1)] := hl
  unfold f_X10_isOthers at hf
  refine zgo (fun GW hTo hFr => ?_)
  refine hFr _ _ _ ?_
  refine lv_aload_n (pc := 0) hx hb (zdt_at zt_X10_isOthers_0 0 rfl) rfl (lv_at hl 0 rfl) ?_
  refine va_get (pc := 1) (D := D) (ci := 12) (v := .ref (hm 9)) (C := RX10) (T := TX10) (N := 52) hx hb hts hcX10 hown hK hP 0 rfl rfl 9 (by decide) hw0 (fun _ h9 => h9) rfl (zdt_at zt_X10_isOthers_0 1 rfl) ?_
  refine lv_iload_n (pc := 4) hx hb (zdt_at zt_X10_isOthers_0 2 rfl) rfl (lv_at hl 1 rfl) ?_
  replace hf := zk_s hf
  refine va_iald (pc := 5) hx hb hK hP 2 1 rfl rfl hf.1 (zdt_at zt_X10_isOthers_0 3 rfl) ?_
  replace hf := hf.2
  refine lv_if_le (pc := 6) (tgt := 26) hx hb (zdt_at zt_X10_isOthers_0 4 rfl) (by decide) (fun cn_ => ?t_1) (fun cn_ => ?f_2)
  case t_1 =>
    replace hf := zt_s cn_ hf
    clear cn_
    refine lv_iconst (pc := 26) (v := (0 : Int32)) hx hb (zdt_at zt_X10_isOthers_0 14 rfl) (by decide) ?_
    cases hf
    exact W.zret (pc := 27) hx hb hr rfl (fun t ht hW => ⟨rfl, ht⟩) (fun _ h => nomatch h) (zdt_at zt_X10_isOthers_0 15 rfl)
  replace hf := ze_s cn_ hf
  clear cn_
  refine lv_aload_n (pc := 9) hx hb (zdt_at zt_X10_isOthers_0 5 rfl) rfl (lv_at hl 0 rfl) ?_
  refine va_get (pc := 10) (D := D) (ci := 12) (v := .ref (hm 12)) (C := RX10) (T := TX10) (N := 52) hx hb hts hcX10 hown hK hP 0 rfl rfl 12 (by decide) hw1 (fun _ h9 => h9) rfl (zdt_at zt_X10_isOthers_0 6 rfl) ?_
  refine lv_iload_n (pc := 13) hx hb (zdt_at zt_X10_isOthers_0 7 rfl) rfl (lv_at hl 1 rfl) ?_
  replace hf := zk_s hf
  refine va_iald (pc := 14) hx hb hK hP 1 1 rfl rfl hf.1 (zdt_at zt_X10_isOthers_0 8 rfl) ?_
  replace hf := hf.2
  refine lv_aload_n (pc := 15) hx hb (zdt_at zt_X10_isOthers_0 9 rfl) rfl (lv_at hl 0 rfl) ?_
  replace hf := zb_s hf
  obtain ⟨r_3, hc_, hf⟩ := hf
  refine zcs (pc := 16) (rv := (some (.int r_3))) (va_runV (As := []) (rest := [.int (c_holder p1.toNatClampNeg)]) ⟨hx, hb, hml, hown, hts⟩ (c_X10_role l D cy tt s.heap.size h0 hm c_state c_thrown c_test c_words c_ill c_before c_inRow c_first c_inWindow c_same c_made c_requests c_total c_secrets c_rounds c_high c_low c_keyHigh c_keyLow r_3 hc_) (cwV 0 hts gX10_isOthers_X10_role rfl rfl rfl (by decide +kernel) ⟨Nat.le_of_ble_eq_true rfl, Nat.le_of_ble_eq_true rfl⟩) ⟨zblind, va_recv hK hP (ci := 12) (q0 := 0) rfl rfl, zpre hE hS (hP.sub [0] rfl) (hD.sub [0] (by decide) rfl) (va_free hD hS hA [0] rfl)⟩ rfl rfl hl.1 rfl (lv_room (Nat.le_of_ble_eq_true rfl)) (zdt_at zt_X10_isOthers_0 10 rfl) ⟨Nat.zero_le _, Nat.zero_le _⟩) ?_
  clear hc_
  refine W.eq (g2 := F0 m 19 ls [.int r_3, .int (c_holder p1.toNatClampNeg)]) rfl ?_
  refine lv_icmp_eq (pc := 19) (tgt := 26) hx hb (zdt_at zt_X10_isOthers_0 11 rfl) (by decide) (fun cn_ => ?t_4) (fun cn_ => ?f_5)
  case t_4 =>
    replace hf := zt_s cn_ hf
    clear cn_
    refine lv_iconst (pc := 26) (v := (0 : Int32)) hx hb (zdt_at zt_X10_isOthers_0 14 rfl) (by decide) ?_
    cases hf
    exact W.zret (pc := 27) hx hb hr rfl (fun t ht hW => ⟨rfl, ht⟩) (fun _ h => nomatch h) (zdt_at zt_X10_isOthers_0 15 rfl)
  replace hf := ze_s cn_ hf
  clear cn_
  refine lv_iconst (pc := 22) (v := (1 : Int32)) hx hb (zdt_at zt_X10_isOthers_0 12 rfl) (by decide) ?_
  refine lv_goto (pc := 23) (tgt := 27) hx hb (zdt_at zt_X10_isOthers_0 13 rfl) (by decide) ?_
  cases hf
  exact W.zret (pc := 27) hx hb hr rfl (fun t ht hW => ⟨rfl, ht⟩) (fun _ h => nomatch h) (zdt_at zt_X10_isOthers_0 15 rfl)
set_option maxHeartbeats 4000000 in
set_option maxRecDepth 100000 in
theorem c_X10_zeroise (l : Launch) (D : va_G) (cy : Nat → ClassId) (tt : Nat → Nat) (sz : Nat) (h0 : Nat) (hm : Nat → Nat) (p1 : Int32) (c_state : Int32) (c_thrown : Int32) (c_counters : Nat → Int32) (c_holder : Nat → Int32) (c_kind : Nat → Int32) (c_test : Int32) (c_words : Int32) (c_ill : Int32) (c_before : Int32) (c_inRow : Int32) (c_first : Int32) (c_inWindow : Int32) (c_same : Int32) (c_made : Int32) (c_requests : Int32) (c_total : Int64) (c_secrets : Int32) (c_rounds : Int32) (c_high : Int64) (c_low : Int64) (c_keyHigh : Int64) (c_keyLow : Int64) (r_ : Int32) (c_thrown' : Int32) (c_counters' : Nat → Int32) (c_kind' : Nat → Int32) (hf : f_X10_zeroise p1 c_state c_thrown c_counters c_holder c_kind = some (r_, c_thrown', c_counters', c_kind')) : Met l yX10_zeroise wsX10_zeroise ({ frames := 2, cells := 0, slots := 0, locals := 41 }) (zPc D cy tt sz [.ref h0, .int p1] ([(h0, .inr (12, zmo hm c_thrown c_state c_test c_words c_ill c_before c_inRow c_first c_inWindow c_same c_made c_requests c_total c_secrets c_rounds c_high c_low c_keyHigh c_keyLow)), ((hm 5), .inl (cy 1, 3, .inl c_counters)), ((hm 12), .inl (cy 1, 16, .inl c_holder)), ((hm 9), .inl (cy 1, 16, .inl c_kind))])) (zQ D (some (.int r_)) ([(h0, .inr (12, zmo hm c_thrown' c_state c_test c_words c_ill c_before c_inRow c_first c_inWindow c_same c_made c_requests c_total c_secrets c_rounds c_high c_low c_keyHigh c_keyLow)), ((hm 5), .inl (cy 1, 3, .inl c_counters')), ((hm 12), .inl (cy 1, 16, .inl c_holder)), ((hm 9), .inl (cy 1, 16, .inl c_kind'))]) (va_A ([(h0, .inr (12, zmo hm c_thrown c_state c_test c_words c_ill c_before c_inRow c_first c_inWindow c_same c_made c_requests c_total c_secrets c_rounds c_high c_low c_keyHigh c_keyLow)), ((hm 5), .inl (cy 1, 3, .inl c_counters)), ((hm 12), .inl (cy 1, 16, .inl c_holder)), ((hm 9), .inl (cy 1, 16, .inl c_kind))]) sz)) 0 0 (va_A ([(h0, .inr (12, zmo hm c_thrown c_state c_test c_words c_ill c_before c_inRow c_first c_inWindow c_same c_made c_requests c_total c_secrets c_rounds c_high c_low c_keyHigh c_keyLow)), ((hm 5), .inl (cy 1, 3, .inl c_counters)), ((hm 12), .inl (cy 1, 16, .inl c_holder)), ((hm 9), .inl (cy 1, 16, .inl c_kind))]) sz) := by
  refine Met.ofW (cc := cX10_zeroise) (maxL := 2) (ret := (some .int)) (by decide) rfl ?_
  intro p e s m args below meth c s₁ B hml hv
  obtain ⟨rfl, rfl, hP, hD0, hE⟩ := hv
  have hx := B.exec
  have hb := B.bytes
  have hr := B.returns
  have hts := atoms_spec (ws := wsX10_zeroise) B.pre
  have hown : s.vm.findClass RX10 = some m.cls := findClass_of_methodNamed B.named
  have hlocks := B.notSynchronized
  clear B
  have hD := hD0.self (sz := s.heap.size)
  generalize hAe : va_A ([(h0, .inr (12, zmo hm c_thrown c_state c_test c_words c_ill c_before c_inRow c_first c_inWindow c_same c_made c_requests c_total c_secrets c_rounds c_high c_low c_keyHigh c_keyLow)), ((hm 5), .inl (cy 1, 3, .inl c_counters)), ((hm 12), .inl (cy 1, 16, .inl c_holder)), ((hm 9), .inl (cy 1, 16, .inl c_kind))]) s.heap.size = A at hD hE ⊢
  have hA : ∀ q : Nat, s.heap.size ≤ q → A q := fun q h => by rw [← hAe]; exact Or.inr h
  clear hAe hD0
  have hS : va_S A s.heap s.heap [] := va_S.rf
  have hK := hE.1
  have hw0 := hts (.fieldLink RX10 189 "SealedModuleModel" "thrown" "I") (by decide +kernel)
  have hw1 := hts (.fieldLink RX10 93 "SealedModuleModel" "kind" "[I") (by decide +kernel)
  have hcX10 : ∀ w ∈ u_ws RX10 TX10 52, w ∈ wsX10_zeroise := (fun _ h => List.mem_cons_of_mem _ (List.mem_append_right _ h))
  have hl := lv_entry ([.ref h0, .int p1]) (n := 2) (Nat.le_of_ble_eq_true rfl)
  rw [lg_entry_eq]
  generalize (lg_sl ([.ref h0, .int p1]) ++ List.replicate (2 - (lg_sl ([.ref h0, .int p1])).length) Slot.unset).toArray = ls at hl ⊢
  replace hl : lv_has ls 2 [(0, .ref h0), (1, .int p1)] := hl
  unfold f_X10_zeroise at hf
  refine zgo (fun GW hTo hFr => ?_)
  refine hFr _ _ _ ?_
  obtain ⟨H, hHe⟩ : ∃ H, H = s.heap := ⟨_, rfl⟩
  obtain ⟨locs, hLe⟩ : ∃ L : List Loc, L = [] := ⟨_, rfl⟩
  rw [← hHe] at hP
  replace hS : va_S A s.heap H locs := by rw [hHe, hLe]; exact hS
  refine zat hHe.symm hLe.symm ?_
  clear hHe hLe
  refine lv_aload_n (pc := 0) hx hb (zdt_at zt_X10_zeroise_0 0 rfl) rfl (lv_at hl 0 rfl) ?_
  refine lv_iconst (pc := 1) (v := (0 : Int32)) hx hb (zdt_at zt_X10_zeroise_0 1 rfl) (by decide) ?_
  refine va_put (pc := 2) (D := D) (ci := 12) (v := .int (0 : Int32)) (ty := .int) (C := RX10) (T := TX10) (N := 52) hx hb hts hcX10 tyX10 tyX10_ok nmX10 hown hK hP hD hS 0 rfl rfl 1 (by decide) hw0 (fun _ h9 => h9) rfl (by decide +kernel) rfl rfl (Nat.le_of_ble_eq_true rfl) (zdt_at zt_X10_zeroise_0 2 rfl) ?_
  clear hP hD hS
  intro H locs hP hD hS
  replace hP : va_P D vwCl ([(h0, .inr (12, zmo hm (0 : Int32) c_state c_test c_words c_ill c_before c_inRow c_first c_inWindow c_same c_made c_requests c_total c_secrets c_rounds c_high c_low c_keyHigh c_keyLow)), ((hm 5), .inl (cy 1, 3, .inl c_counters)), ((hm 12), .inl (cy 1, 16, .inl c_holder)), ((hm 9), .inl (cy 1, 16, .inl c_kind))]) H := hP
  replace hD : va_D A ([(h0, .inr (12, zmo hm (0 : Int32) c_state c_test c_words c_ill c_before c_inRow c_first c_inWindow c_same c_made c_requests c_total c_secrets c_rounds c_high c_low c_keyHigh c_keyLow)), ((hm 5), .inl (cy 1, 3, .inl c_counters)), ((hm 12), .inl (cy 1, 16, .inl c_holder)), ((hm 9), .inl (cy 1, 16, .inl c_kind))]) := hD
  refine lv_aload_n (pc := 5) hx hb (zdt_at zt_X10_zeroise_0 3 rfl) rfl (lv_at hl 0 rfl) ?_
  replace hf := zb_s hf
  obtain ⟨r_1, hc_, hf⟩ := hf
  refine zcs (pc := 6) (rv := (some (.int r_1))) (va_runV (As := []) (rest := []) ⟨hx, hb, hml, hown, hts⟩ (c_X10_isIn l D cy tt H.size h0 hm c_state (0 : Int32) c_test c_words c_ill c_before c_inRow c_first c_inWindow c_same c_made c_requests c_total c_secrets c_rounds c_high c_low c_keyHigh c_keyLow r_1 hc_) (cwV 0 hts gX10_zeroise_X10_isIn rfl rfl rfl (by decide +kernel) ⟨Nat.le_of_ble_eq_true rfl, Nat.le_of_ble_eq_true rfl⟩) ⟨zblind, va_recv hK hP (ci := 12) (q0 := 0) rfl rfl, zpre hE hS (hP.sub [0] rfl) (hD.sub [0] (by decide) rfl) (va_free hD hS hA [0] rfl)⟩ rfl rfl hl.1 rfl (lv_room (Nat.le_of_ble_eq_true rfl)) (zdt_at zt_X10_zeroise_0 4 rfl) ⟨Nat.zero_le _, Nat.zero_le _⟩) ?_
  clear hc_
  refine W.eq (g2 := F0 m 9 ls [.int r_1]) rfl ?_
  refine lv_if_ne (pc := 9) (tgt := 18) hx hb (zdt_at zt_X10_zeroise_0 5 rfl) (by decide) (fun cn_ => ?t_2) (fun cn_ => ?f_3)
  case f_3 =>
    replace hf := zt_s cn_ hf
    clear cn_
    refine lv_aload_n (pc := 12) hx hb (zdt_at zt_X10_zeroise_0 6 rfl) rfl (lv_at hl 0 rfl) ?_
    refine lv_iconst (pc := 13) (v := (-1 : Int32)) hx hb (zdt_at zt_X10_zeroise_0 7 rfl) (by decide) ?_
    replace hf := zb_s hf
    obtain ⟨⟨r_21, c_counters_22⟩, hc_, hf⟩ := hf
    refine zcn2 (pc := 14) (rv := (some (.int r_21))) (va_runV (As := [.int (-1 : Int32)]) (rest := []) ⟨hx, hb, hml, hown, hts⟩ (c_X10_answer l D cy tt H.size h0 hm (-1 : Int32) c_counters (0 : Int32) c_state c_test c_words c_ill c_before c_inRow c_first c_inWindow c_same c_made c_requests c_total c_secrets c_rounds c_high c_low c_keyHigh c_keyLow r_21 c_counters_22 hc_) (cwV 1 hts gX10_zeroise_X10_answer rfl rfl rfl (by decide +kernel) ⟨Nat.le_of_ble_eq_true rfl, Nat.le_of_ble_eq_true rfl⟩) ⟨zblind, va_recv hK hP (ci := 12) (q0 := 0) rfl rfl, zpre hE hS (hP.sub [0, 1] rfl) (hD.sub [0, 1] (by decide) rfl) (va_free hD hS hA [0, 1] rfl)⟩ rfl rfl hl.1 rfl (lv_room (Nat.le_of_ble_eq_true rfl)) (zdt_at zt_X10_zeroise_0 8 rfl) ⟨Nat.zero_le _, Nat.zero_le _⟩) hS hP hD (va_free hD hS hA [0, 1] rfl) [0, 1] rfl (by decide) rfl ?_
    clear hP hD hS hc_
    intro H locs hP hD hS
    replace hP : va_P D vwCl ([(h0, .inr (12, zmo hm (0 : Int32) c_state c_test c_words c_ill c_before c_inRow c_first c_inWindow c_same c_made c_requests c_total c_secrets c_rounds c_high c_low c_keyHigh c_keyLow)), ((hm 5), .inl (cy 1, 3, .inl c_counters_22)), ((hm 12), .inl (cy 1, 16, .inl c_holder)), ((hm 9), .inl (cy 1, 16, .inl c_kind))]) H := hP
    replace hD : va_D A ([(h0, .inr (12, zmo hm (0 : Int32) c_state c_test c_words c_ill c_before c_inRow c_first c_inWindow c_same c_made c_requests c_total c_secrets c_rounds c_high c_low c_keyHigh c_keyLow)), ((hm 5), .inl (cy 1, 3, .inl c_counters_22)), ((hm 12), .inl (cy 1, 16, .inl c_holder)), ((hm 9), .inl (cy 1, 16, .inl c_kind))]) := hD
    refine W.eq (g2 := F0 m 17 ls [.int r_21]) rfl ?_
    cases hf
    exact W.iret (pc := 17) hx hb hr (fun t ht hW => ⟨rfl, ⟨by rw [ht]; exact hP, hD⟩, hS.F ht⟩) hS.2.2 (zdt_at zt_X10_zeroise_0 9 rfl)
  replace hf := ze_s cn_ hf
  clear cn_
  refine lv_iload_n (pc := 18) hx hb (zdt_at zt_X10_zeroise_0 10 rfl) rfl (lv_at hl 1 rfl) ?_
  refine lv_iconst (pc := 19) (v := (0 : Int32)) hx hb (zdt_at zt_X10_zeroise_0 11 rfl) (by decide) ?_
  refine lv_bipush (pc := 20) (v := (15 : Int32)) hx hb (zdt_at zt_X10_zeroise_0 12 rfl) (by decide) ?_
  replace hf := zb_s hf
  obtain ⟨r_4, hc_, hf⟩ := hf
  refine zcs (pc := 22) (rv := (some (.int r_4))) (va_runS (As := [.int p1, .int (0 : Int32), .int (15 : Int32)]) (rest := []) ⟨hx, hb, hml, hown, hts⟩ (c_X10_in l D cy tt H.size p1 (0 : Int32) (15 : Int32) r_4 hc_) (va_cwS 3 hts gX10_zeroise_X10_in rfl rfl rfl (by decide +kernel) ⟨Nat.le_of_ble_eq_true rfl, Nat.le_of_ble_eq_true rfl⟩) ⟨zblind, zpre hE hS (hP.sub [] rfl) (hD.sub [] (by decide) rfl) (va_free hD hS hA [] rfl)⟩ rfl rfl hl.1 rfl (lv_room (Nat.le_of_ble_eq_true rfl)) (zdt_at zt_X10_zeroise_0 13 rfl) ⟨Nat.zero_le _, Nat.zero_le _⟩) ?_
  clear hc_
  refine W.eq (g2 := F0 m 25 ls [.int r_4]) rfl ?_
  refine lv_if_ne (pc := 25) (tgt := 35) hx hb (zdt_at zt_X10_zeroise_0 14 rfl) (by decide) (fun cn_ => ?t_5) (fun cn_ => ?f_6)
  case f_6 =>
    replace hf := zt_s cn_ hf
    clear cn_
    refine lv_aload_n (pc := 28) hx hb (zdt_at zt_X10_zeroise_0 15 rfl) rfl (lv_at hl 0 rfl) ?_
    refine lv_bipush (pc := 29) (v := (-2 : Int32)) hx hb (zdt_at zt_X10_zeroise_0 16 rfl) (by decide) ?_
    replace hf := zb_s hf
    obtain ⟨⟨r_19, c_counters_20⟩, hc_, hf⟩ := hf
    refine zcn2 (pc := 31) (rv := (some (.int r_19))) (va_runV (As := [.int (-2 : Int32)]) (rest := []) ⟨hx, hb, hml, hown, hts⟩ (c_X10_answer l D cy tt H.size h0 hm (-2 : Int32) c_counters (0 : Int32) c_state c_test c_words c_ill c_before c_inRow c_first c_inWindow c_same c_made c_requests c_total c_secrets c_rounds c_high c_low c_keyHigh c_keyLow r_19 c_counters_20 hc_) (cwV 1 hts gX10_zeroise_X10_answer rfl rfl rfl (by decide +kernel) ⟨Nat.le_of_ble_eq_true rfl, Nat.le_of_ble_eq_true rfl⟩) ⟨zblind, va_recv hK hP (ci := 12) (q0 := 0) rfl rfl, zpre hE hS (hP.sub [0, 1] rfl) (hD.sub [0, 1] (by decide) rfl) (va_free hD hS hA [0, 1] rfl)⟩ rfl rfl hl.1 rfl (lv_room (Nat.le_of_ble_eq_true rfl)) (zdt_at zt_X10_zeroise_0 17 rfl) ⟨Nat.zero_le _, Nat.zero_le _⟩) hS hP hD (va_free hD hS hA [0, 1] rfl) [0, 1] rfl (by decide) rfl ?_
    clear hP hD hS hc_
    intro H locs hP hD hS
    replace hP : va_P D vwCl ([(h0, .inr (12, zmo hm (0 : Int32) c_state c_test c_words c_ill c_before c_inRow c_first c_inWindow c_same c_made c_requests c_total c_secrets c_rounds c_high c_low c_keyHigh c_keyLow)), ((hm 5), .inl (cy 1, 3, .inl c_counters_20)), ((hm 12), .inl (cy 1, 16, .inl c_holder)), ((hm 9), .inl (cy 1, 16, .inl c_kind))]) H := hP
    replace hD : va_D A ([(h0, .inr (12, zmo hm (0 : Int32) c_state c_test c_words c_ill c_before c_inRow c_first c_inWindow c_same c_made c_requests c_total c_secrets c_rounds c_high c_low c_keyHigh c_keyLow)), ((hm 5), .inl (cy 1, 3, .inl c_counters_20)), ((hm 12), .inl (cy 1, 16, .inl c_holder)), ((hm 9), .inl (cy 1, 16, .inl c_kind))]) := hD
    refine W.eq (g2 := F0 m 34 ls [.int r_19]) rfl ?_
    cases hf
    exact W.iret (pc := 34) hx hb hr (fun t ht hW => ⟨rfl, ⟨by rw [ht]; exact hP, hD⟩, hS.F ht⟩) hS.2.2 (zdt_at zt_X10_zeroise_0 18 rfl)
  replace hf := ze_s cn_ hf
  clear cn_
  refine lv_aload_n (pc := 35) hx hb (zdt_at zt_X10_zeroise_0 19 rfl) rfl (lv_at hl 0 rfl) ?_
  refine lv_iload_n (pc := 36) hx hb (zdt_at zt_X10_zeroise_0 20 rfl) rfl (lv_at hl 1 rfl) ?_
  replace hf := zb_s hf
  obtain ⟨r_7, hc_, hf⟩ := hf
  refine zcs (pc := 37) (rv := (some (.int r_7))) (va_runV (As := [.int p1]) (rest := []) ⟨hx, hb, hml, hown, hts⟩ (c_X10_isOthers l D cy tt H.size h0 hm p1 c_state c_holder c_kind (0 : Int32) c_test c_words c_ill c_before c_inRow c_first c_inWindow c_same c_made c_requests c_total c_secrets c_rounds c_high c_low c_keyHigh c_keyLow r_7 hc_) (cwV 1 hts gX10_zeroise_X10_isOthers rfl rfl rfl (by decide +kernel) ⟨Nat.le_of_ble_eq_true rfl, Nat.le_of_ble_eq_true rfl⟩) ⟨zblind, va_recv hK hP (ci := 12) (q0 := 0) rfl rfl, zpre hE hS (hP.sub [0, 2, 3] rfl) (hD.sub [0, 2, 3] (by decide) rfl) (va_free hD hS hA [0, 2, 3] rfl)⟩ rfl rfl hl.1 rfl (lv_room (Nat.le_of_ble_eq_true rfl)) (zdt_at zt_X10_zeroise_0 21 rfl) ⟨Nat.zero_le _, Nat.zero_le _⟩) ?_
  clear hc_
  refine W.eq (g2 := F0 m 40 ls [.int r_7]) rfl ?_
  refine lv_if_eq (pc := 40) (tgt := 50) hx hb (zdt_at zt_X10_zeroise_0 22 rfl) (by decide) (fun cn_ => ?t_8) (fun cn_ => ?f_9)
  case f_9 =>
    replace hf := ze_s cn_ hf
    clear cn_
    refine lv_aload_n (pc := 43) hx hb (zdt_at zt_X10_zeroise_0 23 rfl) rfl (lv_at hl 0 rfl) ?_
    refine lv_bipush (pc := 44) (v := (-3 : Int32)) hx hb (zdt_at zt_X10_zeroise_0 24 rfl) (by decide) ?_
    replace hf := zb_s hf
    obtain ⟨⟨r_17, c_counters_18⟩, hc_, hf⟩ := hf
    refine zcn2 (pc := 46) (rv := (some (.int r_17))) (va_runV (As := [.int (-3 : Int32)]) (rest := []) ⟨hx, hb, hml, hown, hts⟩ (c_X10_answer l D cy tt H.size h0 hm (-3 : Int32) c_counters (0 : Int32) c_state c_test c_words c_ill c_before c_inRow c_first c_inWindow c_same c_made c_requests c_total c_secrets c_rounds c_high c_low c_keyHigh c_keyLow r_17 c_counters_18 hc_) (cwV 1 hts gX10_zeroise_X10_answer rfl rfl rfl (by decide +kernel) ⟨Nat.le_of_ble_eq_true rfl, Nat.le_of_ble_eq_true rfl⟩) ⟨zblind, va_recv hK hP (ci := 12) (q0 := 0) rfl rfl, zpre hE hS (hP.sub [0, 1] rfl) (hD.sub [0, 1] (by decide) rfl) (va_free hD hS hA [0, 1] rfl)⟩ rfl rfl hl.1 rfl (lv_room (Nat.le_of_ble_eq_true rfl)) (zdt_at zt_X10_zeroise_0 25 rfl) ⟨Nat.zero_le _, Nat.zero_le _⟩) hS hP hD (va_free hD hS hA [0, 1] rfl) [0, 1] rfl (by decide) rfl ?_
    clear hP hD hS hc_
    intro H locs hP hD hS
    replace hP : va_P D vwCl ([(h0, .inr (12, zmo hm (0 : Int32) c_state c_test c_words c_ill c_before c_inRow c_first c_inWindow c_same c_made c_requests c_total c_secrets c_rounds c_high c_low c_keyHigh c_keyLow)), ((hm 5), .inl (cy 1, 3, .inl c_counters_18)), ((hm 12), .inl (cy 1, 16, .inl c_holder)), ((hm 9), .inl (cy 1, 16, .inl c_kind))]) H := hP
    replace hD : va_D A ([(h0, .inr (12, zmo hm (0 : Int32) c_state c_test c_words c_ill c_before c_inRow c_first c_inWindow c_same c_made c_requests c_total c_secrets c_rounds c_high c_low c_keyHigh c_keyLow)), ((hm 5), .inl (cy 1, 3, .inl c_counters_18)), ((hm 12), .inl (cy 1, 16, .inl c_holder)), ((hm 9), .inl (cy 1, 16, .inl c_kind))]) := hD
    refine W.eq (g2 := F0 m 49 ls [.int r_17]) rfl ?_
    cases hf
    exact W.iret (pc := 49) hx hb hr (fun t ht hW => ⟨rfl, ⟨by rw [ht]; exact hP, hD⟩, hS.F ht⟩) hS.2.2 (zdt_at zt_X10_zeroise_0 26 rfl)
  replace hf := zt_s cn_ hf
  clear cn_
  refine lv_aload_n (pc := 50) hx hb (zdt_at zt_X10_zeroise_0 27 rfl) rfl (lv_at hl 0 rfl) ?_
  refine va_get (pc := 51) (D := D) (ci := 12) (v := .ref (hm 9)) (C := RX10) (T := TX10) (N := 52) hx hb hts hcX10 hown hK hP 0 rfl rfl 9 (by decide) hw1 (fun _ h9 => h9) rfl (zdt_at zt_X10_zeroise_0 28 rfl) ?_
  refine lv_iload_n (pc := 54) hx hb (zdt_at zt_X10_zeroise_0 29 rfl) rfl (lv_at hl 1 rfl) ?_
  replace hf := zk_s hf
  refine va_iald (pc := 55) hx hb hK hP 3 1 rfl rfl hf.1 (zdt_at zt_X10_zeroise_0 30 rfl) ?_
  replace hf := hf.2
  refine lv_if_ne (pc := 56) (tgt := 66) hx hb (zdt_at zt_X10_zeroise_0 31 rfl) (by decide) (fun cn_ => ?t_10) (fun cn_ => ?f_11)
  case f_11 =>
    replace hf := zt_s cn_ hf
    clear cn_
    refine lv_aload_n (pc := 59) hx hb (zdt_at zt_X10_zeroise_0 32 rfl) rfl (lv_at hl 0 rfl) ?_
    refine lv_bipush (pc := 60) (v := (-4 : Int32)) hx hb (zdt_at zt_X10_zeroise_0 33 rfl) (by decide) ?_
    replace hf := zb_s hf
    obtain ⟨⟨r_15, c_counters_16⟩, hc_, hf⟩ := hf
    refine zcn2 (pc := 62) (rv := (some (.int r_15))) (va_runV (As := [.int (-4 : Int32)]) (rest := []) ⟨hx, hb, hml, hown, hts⟩ (c_X10_answer l D cy tt H.size h0 hm (-4 : Int32) c_counters (0 : Int32) c_state c_test c_words c_ill c_before c_inRow c_first c_inWindow c_same c_made c_requests c_total c_secrets c_rounds c_high c_low c_keyHigh c_keyLow r_15 c_counters_16 hc_) (cwV 1 hts gX10_zeroise_X10_answer rfl rfl rfl (by decide +kernel) ⟨Nat.le_of_ble_eq_true rfl, Nat.le_of_ble_eq_true rfl⟩) ⟨zblind, va_recv hK hP (ci := 12) (q0 := 0) rfl rfl, zpre hE hS (hP.sub [0, 1] rfl) (hD.sub [0, 1] (by decide) rfl) (va_free hD hS hA [0, 1] rfl)⟩ rfl rfl hl.1 rfl (lv_room (Nat.le_of_ble_eq_true rfl)) (zdt_at zt_X10_zeroise_0 34 rfl) ⟨Nat.zero_le _, Nat.zero_le _⟩) hS hP hD (va_free hD hS hA [0, 1] rfl) [0, 1] rfl (by decide) rfl ?_
    clear hP hD hS hc_
    intro H locs hP hD hS
    replace hP : va_P D vwCl ([(h0, .inr (12, zmo hm (0 : Int32) c_state c_test c_words c_ill c_before c_inRow c_first c_inWindow c_same c_made c_requests c_total c_secrets c_rounds c_high c_low c_keyHigh c_keyLow)), ((hm 5), .inl (cy 1, 3, .inl c_counters_16)), ((hm 12), .inl (cy 1, 16, .inl c_holder)), ((hm 9), .inl (cy 1, 16, .inl c_kind))]) H := hP
    replace hD : va_D A ([(h0, .inr (12, zmo hm (0 : Int32) c_state c_test c_words c_ill c_before c_inRow c_first c_inWindow c_same c_made c_requests c_total c_secrets c_rounds c_high c_low c_keyHigh c_keyLow)), ((hm 5), .inl (cy 1, 3, .inl c_counters_16)), ((hm 12), .inl (cy 1, 16, .inl c_holder)), ((hm 9), .inl (cy 1, 16, .inl c_kind))]) := hD
    refine W.eq (g2 := F0 m 65 ls [.int r_15]) rfl ?_
    cases hf
    exact W.iret (pc := 65) hx hb hr (fun t ht hW => ⟨rfl, ⟨by rw [ht]; exact hP, hD⟩, hS.F ht⟩) hS.2.2 (zdt_at zt_X10_zeroise_0 35 rfl)
  replace hf := ze_s cn_ hf
  clear cn_
  refine lv_aload_n (pc := 66) hx hb (zdt_at zt_X10_zeroise_0 36 rfl) rfl (lv_at hl 0 rfl) ?_
  refine va_get (pc := 67) (D := D) (ci := 12) (v := .ref (hm 9)) (C := RX10) (T := TX10) (N := 52) hx hb hts hcX10 hown hK hP 0 rfl rfl 9 (by decide) hw1 (fun _ h9 => h9) rfl (zdt_at zt_X10_zeroise_0 37 rfl) ?_
  refine lv_iload_n (pc := 70) hx hb (zdt_at zt_X10_zeroise_0 38 rfl) rfl (lv_at hl 1 rfl) ?_
  refine lv_iconst (pc := 71) (v := (0 : Int32)) hx hb (zdt_at zt_X10_zeroise_0 39 rfl) (by decide) ?_
  replace hf := zk_s hf
  refine va_iast (pc := 72) hx hb hK hP hD hS 3 1 rfl rfl hf.1 (zdt_at zt_X10_zeroise_0 40 rfl) ?_
  replace hf := hf.2
  clear hP hD hS
  intro H locs hP hD hS
  obtain ⟨c_kind_12, e_⟩ : ∃ q : Nat → Int32, q = (upd c_kind p1.toNatClampNeg (0 : Int32)) := ⟨_, rfl⟩
  replace hf := zn_s hf e_
  replace hP : va_P D vwCl ([(h0, .inr (12, zmo hm (0 : Int32) c_state c_test c_words c_ill c_before c_inRow c_first c_inWindow c_same c_made c_requests c_total c_secrets c_rounds c_high c_low c_keyHigh c_keyLow)), ((hm 5), .inl (cy 1, 3, .inl c_counters)), ((hm 12), .inl (cy 1, 16, .inl c_holder)), ((hm 9), .inl (cy 1, 16, .inl c_kind_12))]) H := by rw [e_]; exact hP
  replace hD : va_D A ([(h0, .inr (12, zmo hm (0 : Int32) c_state c_test c_words c_ill c_before c_inRow c_first c_inWindow c_same c_made c_requests c_total c_secrets c_rounds c_high c_low c_keyHigh c_keyLow)), ((hm 5), .inl (cy 1, 3, .inl c_counters)), ((hm 12), .inl (cy 1, 16, .inl c_holder)), ((hm 9), .inl (cy 1, 16, .inl c_kind_12))]) := by rw [e_]; exact hD
  clear e_
  refine lv_aload_n (pc := 73) hx hb (zdt_at zt_X10_zeroise_0 41 rfl) rfl (lv_at hl 0 rfl) ?_
  refine lv_iconst (pc := 74) (v := (0 : Int32)) hx hb (zdt_at zt_X10_zeroise_0 42 rfl) (by decide) ?_
  replace hf := zb_s hf
  obtain ⟨⟨r_13, c_counters_14⟩, hc_, hf⟩ := hf
  refine zcn2 (pc := 75) (rv := (some (.int r_13))) (va_runV (As := [.int (0 : Int32)]) (rest := []) ⟨hx, hb, hml, hown, hts⟩ (c_X10_answer l D cy tt H.size h0 hm (0 : Int32) c_counters (0 : Int32) c_state c_test c_words c_ill c_before c_inRow c_first c_inWindow c_same c_made c_requests c_total c_secrets c_rounds c_high c_low c_keyHigh c_keyLow r_13 c_counters_14 hc_) (cwV 1 hts gX10_zeroise_X10_answer rfl rfl rfl (by decide +kernel) ⟨Nat.le_of_ble_eq_true rfl, Nat.le_of_ble_eq_true rfl⟩) ⟨zblind, va_recv hK hP (ci := 12) (q0 := 0) rfl rfl, zpre hE hS (hP.sub [0, 1] rfl) (hD.sub [0, 1] (by decide) rfl) (va_free hD hS hA [0, 1] rfl)⟩ rfl rfl hl.1 rfl (lv_room (Nat.le_of_ble_eq_true rfl)) (zdt_at zt_X10_zeroise_0 43 rfl) ⟨Nat.zero_le _, Nat.zero_le _⟩) hS hP hD (va_free hD hS hA [0, 1] rfl) [0, 1] rfl (by decide) rfl ?_
  clear hP hD hS hc_
  intro H locs hP hD hS
  replace hP : va_P D vwCl ([(h0, .inr (12, zmo hm (0 : Int32) c_state c_test c_words c_ill c_before c_inRow c_first c_inWindow c_same c_made c_requests c_total c_secrets c_rounds c_high c_low c_keyHigh c_keyLow)), ((hm 5), .inl (cy 1, 3, .inl c_counters_14)), ((hm 12), .inl (cy 1, 16, .inl c_holder)), ((hm 9), .inl (cy 1, 16, .inl c_kind_12))]) H := hP
  replace hD : va_D A ([(h0, .inr (12, zmo hm (0 : Int32) c_state c_test c_words c_ill c_before c_inRow c_first c_inWindow c_same c_made c_requests c_total c_secrets c_rounds c_high c_low c_keyHigh c_keyLow)), ((hm 5), .inl (cy 1, 3, .inl c_counters_14)), ((hm 12), .inl (cy 1, 16, .inl c_holder)), ((hm 9), .inl (cy 1, 16, .inl c_kind_12))]) := hD
  refine W.eq (g2 := F0 m 78 ls [.int r_13]) rfl ?_
  cases hf
  exact W.iret (pc := 78) hx hb hr (fun t ht hW => ⟨rfl, ⟨by rw [ht]; exact hP, hD⟩, hS.F ht⟩) hS.2.2 (zdt_at zt_X10_zeroise_0 44 rfl)
set_option maxHeartbeats 4000000 in
set_option maxRecDepth 100000 in
theorem c_X10_zeroiseAll (l : Launch) (D : va_G) (cy : Nat → ClassId) (tt : Nat → Nat) (sz : Nat) (h0 : Nat) (hm : Nat → Nat) (c_made : Int32) (c_state : Int32) (c_thrown : Int32) (c_words : Int32) (c_kind : Nat → Int32) (c_pin : Nat → Int32) (c_taken : Nat → Int64) (c_tries : Nat → Int32) (c_test : Int32) (c_ill : Int32) (c_before : Int32) (c_inRow : Int32) (c_first : Int32) (c_inWindow : Int32) (c_same : Int32) (c_requests : Int32) (c_total : Int64) (c_secrets : Int32) (c_rounds : Int32) (c_high : Int64) (c_low : Int64) (c_keyHigh : Int64) (c_keyLow : Int64) (c_made' : Int32) (c_state' : Int32) (c_thrown' : Int32) (c_words' : Int32) (c_kind' : Nat → Int32) (c_pin' : Nat → Int32) (c_taken' : Nat → Int64) (c_tries' : Nat → Int32) (hf : f_X10_zeroiseAll c_made c_state c_thrown c_words c_kind c_pin c_taken c_tries = some (c_made', c_state', c_thrown', c_words', c_kind', c_pin', c_taken', c_tries')) : Met l yX10_zeroiseAll wsX10_zeroiseAll ({ frames := 1, cells := 0, slots := 0, locals := 20 }) (zPc D cy tt sz [.ref h0] ([(h0, .inr (12, zmo hm c_thrown c_state c_test c_words c_ill c_before c_inRow c_first c_inWindow c_same c_made c_requests c_total c_secrets c_rounds c_high c_low c_keyHigh c_keyLow)), ((hm 9), .inl (cy 1, 16, .inl c_kind)), ((hm 7), .inl (cy 1, 3, .inl c_pin)), ((hm 27), .inl (cy 2, 3, .inr (.inl c_taken))), ((hm 8), .inl (cy 1, 3, .inl c_tries))])) (zQ D none ([(h0, .inr (12, zmo hm c_thrown' c_state' c_test c_words' c_ill c_before c_inRow c_first c_inWindow c_same c_made' c_requests c_total c_secrets c_rounds c_high c_low c_keyHigh c_keyLow)), ((hm 9), .inl (cy 1, 16, .inl c_kind')), ((hm 7), .inl (cy 1, 3, .inl c_pin')), ((hm 27), .inl (cy 2, 3, .inr (.inl c_taken'))), ((hm 8), .inl (cy 1, 3, .inl c_tries'))]) (va_A ([(h0, .inr (12, zmo hm c_thrown c_state c_test c_words c_ill c_before c_inRow c_first c_inWindow c_same c_made c_requests c_total c_secrets c_rounds c_high c_low c_keyHigh c_keyLow)), ((hm 9), .inl (cy 1, 16, .inl c_kind)), ((hm 7), .inl (cy 1, 3, .inl c_pin)), ((hm 27), .inl (cy 2, 3, .inr (.inl c_taken))), ((hm 8), .inl (cy 1, 3, .inl c_tries))]) sz)) 0 0 (va_A ([(h0, .inr (12, zmo hm c_thrown c_state c_test c_words c_ill c_before c_inRow c_first c_inWindow c_same c_made c_requests c_total c_secrets c_rounds c_high c_low c_keyHigh c_keyLow)), ((hm 9), .inl (cy 1, 16, .inl c_kind)), ((hm 7), .inl (cy 1, 3, .inl c_pin)), ((hm 27), .inl (cy 2, 3, .inr (.inl c_taken))), ((hm 8), .inl (cy 1, 3, .inl c_tries))]) sz) := by
  refine Met.ofW (cc := cX10_zeroiseAll) (maxL := 2) (ret := none) (by decide) rfl ?_
  intro p e s m args below meth c s₁ B hml hv
  obtain ⟨rfl, rfl, hP, hD0, hE⟩ := hv
  have hx := B.exec
  have hb := B.bytes
  have hr := B.returns
  have hts := atoms_spec (ws := wsX10_zeroiseAll) B.pre
  have hown : s.vm.findClass RX10 = some m.cls := findClass_of_methodNamed B.named
  have hlocks := B.notSynchronized
  clear B
  have hD := hD0.self (sz := s.heap.size)
  generalize hAe : va_A ([(h0, .inr (12, zmo hm c_thrown c_state c_test c_words c_ill c_before c_inRow c_first c_inWindow c_same c_made c_requests c_total c_secrets c_rounds c_high c_low c_keyHigh c_keyLow)), ((hm 9), .inl (cy 1, 16, .inl c_kind)), ((hm 7), .inl (cy 1, 3, .inl c_pin)), ((hm 27), .inl (cy 2, 3, .inr (.inl c_taken))), ((hm 8), .inl (cy 1, 3, .inl c_tries))]) s.heap.size = A at hD hE ⊢
  have hA : ∀ q : Nat, s.heap.size ≤ q → A q := fun q h => by rw [← hAe]; exact Or.inr h
  clear hAe hD0
  have hS : va_S A s.heap s.heap [] := va_S.rf
  have hK := hE.1
  have hw0 := hts (.fieldLink RX10 189 "SealedModuleModel" "thrown" "I") (by decide +kernel)
  have hw1 := hts (.fieldLink RX10 87 "SealedModuleModel" "pin" "[I") (by decide +kernel)
  have hw2 := hts (.fieldLink RX10 90 "SealedModuleModel" "tries" "[I") (by decide +kernel)
  have hw3 := hts (.fieldLink RX10 254 "SealedModuleModel" "words" "I") (by decide +kernel)
  have hw4 := hts (.fieldLink RX10 273 "SealedModuleModel" "state" "I") (by decide +kernel)
  have hw5 := hts (.fieldLink RX10 93 "SealedModuleModel" "kind" "[I") (by decide +kernel)
  have hcX10 : ∀ w ∈ u_ws RX10 TX10 52, w ∈ wsX10_zeroiseAll := (fun _ h => List.mem_cons_of_mem _ (List.mem_append_right _ h))
  have hl := lv_entry ([.ref h0]) (n := 2) (Nat.le_of_ble_eq_true rfl)
  rw [lg_entry_eq]
  generalize (lg_sl ([.ref h0]) ++ List.replicate (2 - (lg_sl ([.ref h0])).length) Slot.unset).toArray = ls at hl ⊢
  replace hl : lv_has ls 2 [(0, .ref h0)] := hl
  unfold f_X10_zeroiseAll at hf
  refine zgo (fun GW hTo hFr => ?_)
  refine hFr _ _ _ ?_
  obtain ⟨H, hHe⟩ : ∃ H, H = s.heap := ⟨_, rfl⟩
  obtain ⟨locs, hLe⟩ : ∃ L : List Loc, L = [] := ⟨_, rfl⟩
  rw [← hHe] at hP
  replace hS : va_S A s.heap H locs := by rw [hHe, hLe]; exact hS
  refine zat hHe.symm hLe.symm ?_
  clear hHe hLe
  refine lv_aload_n (pc := 0) hx hb (zdt_at zt_X10_zeroiseAll_0 0 rfl) rfl (lv_at hl 0 rfl) ?_
  refine lv_iconst (pc := 1) (v := (0 : Int32)) hx hb (zdt_at zt_X10_zeroiseAll_0 1 rfl) (by decide) ?_
  refine va_put (pc := 2) (D := D) (ci := 12) (v := .int (0 : Int32)) (ty := .int) (C := RX10) (T := TX10) (N := 52) hx hb hts hcX10 tyX10 tyX10_ok nmX10 hown hK hP hD hS 0 rfl rfl 1 (by decide) hw0 (fun _ h9 => h9) rfl (by decide +kernel) rfl rfl (Nat.le_of_ble_eq_true rfl) (zdt_at zt_X10_zeroiseAll_0 2 rfl) ?_
  clear hP hD hS
  intro H locs hP hD hS
  replace hP : va_P D vwCl ([(h0, .inr (12, zmo hm (0 : Int32) c_state c_test c_words c_ill c_before c_inRow c_first c_inWindow c_same c_made c_requests c_total c_secrets c_rounds c_high c_low c_keyHigh c_keyLow)), ((hm 9), .inl (cy 1, 16, .inl c_kind)), ((hm 7), .inl (cy 1, 3, .inl c_pin)), ((hm 27), .inl (cy 2, 3, .inr (.inl c_taken))), ((hm 8), .inl (cy 1, 3, .inl c_tries))]) H := hP
  replace hD : va_D A ([(h0, .inr (12, zmo hm (0 : Int32) c_state c_test c_words c_ill c_before c_inRow c_first c_inWindow c_same c_made c_requests c_total c_secrets c_rounds c_high c_low c_keyHigh c_keyLow)), ((hm 9), .inl (cy 1, 16, .inl c_kind)), ((hm 7), .inl (cy 1, 3, .inl c_pin)), ((hm 27), .inl (cy 2, 3, .inr (.inl c_taken))), ((hm 8), .inl (cy 1, 3, .inl c_tries))]) := hD
  refine lv_iconst (pc := 5) (v := (0 : Int32)) hx hb (zdt_at zt_X10_zeroiseAll_0 3 rfl) (by decide) ?_
  refine lv_istore_n (pc := 6) (lv' := [(1, .int (0 : Int32)), (0, .ref h0)]) hx hb (zdt_at zt_X10_zeroiseAll_0 4 rfl) rfl hl (by decide) rfl ?_
  clear hl
  intro ls hl
  replace hf := zj_s hf
  obtain ⟨K_4, eK_4, hf⟩ := hf
  have kK_4 : ∀ (c_kind_3 : Nat → Int32) (H : Heap) (locs : List Loc) (ls : Array Slot), va_P D vwCl ([(h0, .inr (12, zmo hm (0 : Int32) c_state c_test c_words c_ill c_before c_inRow c_first c_inWindow c_same c_made c_requests c_total c_secrets c_rounds c_high c_low c_keyHigh c_keyLow)), ((hm 9), .inl (cy 1, 16, .inl c_kind_3)), ((hm 7), .inl (cy 1, 3, .inl c_pin)), ((hm 27), .inl (cy 2, 3, .inr (.inl c_taken))), ((hm 8), .inl (cy 1, 3, .inl c_tries))]) H → va_D A ([(h0, .inr (12, zmo hm (0 : Int32) c_state c_test c_words c_ill c_before c_inRow c_first c_inWindow c_same c_made c_requests c_total c_secrets c_rounds c_high c_low c_keyHigh c_keyLow)), ((hm 9), .inl (cy 1, 16, .inl c_kind_3)), ((hm 7), .inl (cy 1, 3, .inl c_pin)), ((hm 27), .inl (cy 2, 3, .inr (.inl c_taken))), ((hm 8), .inl (cy 1, 3, .inl c_tries))]) → va_S A s.heap H locs → lv_has ls 2 [(0, .ref h0)] → K_4 c_kind_3 = some (c_made', c_state', c_thrown', c_words', c_kind', c_pin', c_taken', c_tries') → GW H locs (F0 m 26 ls []) := by
    clear hf hl hP hD hS
    intro c_kind_3 H locs ls hP hD hS hl hf
    rw [eK_4] at hf
    clear eK_4
    refine hFr _ _ _ ?_
    refine lv_aload_n (pc := 26) hx hb (zdt_at zt_X10_zeroiseAll_0 15 rfl) rfl (lv_at hl 0 rfl) ?_
    refine va_get (pc := 27) (D := D) (ci := 12) (v := .ref (hm 7)) (C := RX10) (T := TX10) (N := 52) hx hb hts hcX10 hown hK hP 0 rfl rfl 7 (by decide) hw1 (fun _ h9 => h9) rfl (zdt_at zt_X10_zeroiseAll_0 16 rfl) ?_
    refine lv_iconst (pc := 30) (v := (1 : Int32)) hx hb (zdt_at zt_X10_zeroiseAll_0 17 rfl) (by decide) ?_
    refine lv_sipush (pc := 31) (v := (1111 : Int32)) hx hb (zdt_at zt_X10_zeroiseAll_0 18 rfl) (by decide) ?_
    replace hf := zk_s hf
    refine va_iast (pc := 34) hx hb hK hP hD hS 2 1 rfl rfl hf.1 (zdt_at zt_X10_zeroiseAll_0 19 rfl) ?_
    replace hf := hf.2
    clear hP hD hS
    intro H locs hP hD hS
    obtain ⟨c_pin_5, e_⟩ : ∃ q : Nat → Int32, q = (upd c_pin (1 : Int32).toNatClampNeg (1111 : Int32)) := ⟨_, rfl⟩
    replace hf := zn_s hf e_
    replace hP : va_P D vwCl ([(h0, .inr (12, zmo hm (0 : Int32) c_state c_test c_words c_ill c_before c_inRow c_first c_inWindow c_same c_made c_requests c_total c_secrets c_rounds c_high c_low c_keyHigh c_keyLow)), ((hm 9), .inl (cy 1, 16, .inl c_kind_3)), ((hm 7), .inl (cy 1, 3, .inl c_pin_5)), ((hm 27), .inl (cy 2, 3, .inr (.inl c_taken))), ((hm 8), .inl (cy 1, 3, .inl c_tries))]) H := by rw [e_]; exact hP
    replace hD : va_D A ([(h0, .inr (12, zmo hm (0 : Int32) c_state c_test c_words c_ill c_before c_inRow c_first c_inWindow c_same c_made c_requests c_total c_secrets c_rounds c_high c_low c_keyHigh c_keyLow)), ((hm 9), .inl (cy 1, 16, .inl c_kind_3)), ((hm 7), .inl (cy 1, 3, .inl c_pin_5)), ((hm 27), .inl (cy 2, 3, .inr (.inl c_taken))), ((hm 8), .inl (cy 1, 3, .inl c_tries))]) := by rw [e_]; exact hD
    clear e_
    refine lv_aload_n (pc := 35) hx hb (zdt_at zt_X10_zeroiseAll_0 20 rfl) rfl (lv_at hl 0 rfl) ?_
    refine va_get (pc := 36) (D := D) (ci := 12) (v := .ref (hm 7)) (C := RX10) (T := TX10) (N := 52) hx hb hts hcX10 hown hK hP 0 rfl rfl 7 (by decide) hw1 (fun _ h9 => h9) rfl (zdt_at zt_X10_zeroiseAll_0 21 rfl) ?_
    refine lv_iconst (pc := 39) (v := (2 : Int32)) hx hb (zdt_at zt_X10_zeroiseAll_0 22 rfl) (by decide) ?_
    refine lv_sipush (pc := 40) (v := (2222 : Int32)) hx hb (zdt_at zt_X10_zeroiseAll_0 23 rfl) (by decide) ?_
    replace hf := zk_s hf
    refine va_iast (pc := 43) hx hb hK hP hD hS 2 1 rfl rfl hf.1 (zdt_at zt_X10_zeroiseAll_0 24 rfl) ?_
    replace hf := hf.2
    clear hP hD hS
    intro H locs hP hD hS
    obtain ⟨c_pin_6, e_⟩ : ∃ q : Nat → Int32, q = (upd c_pin_5 (2 : Int32).toNatClampNeg (2222 : Int32)) := ⟨_, rfl⟩
    replace hf := zn_s hf e_
    replace hP : va_P D vwCl ([(h0, .inr (12, zmo hm (0 : Int32) c_state c_test c_words c_ill c_before c_inRow c_first c_inWindow c_same c_made c_requests c_total c_secrets c_rounds c_high c_low c_keyHigh c_keyLow)), ((hm 9), .inl (cy 1, 16, .inl c_kind_3)), ((hm 7), .inl (cy 1, 3, .inl c_pin_6)), ((hm 27), .inl (cy 2, 3, .inr (.inl c_taken))), ((hm 8), .inl (cy 1, 3, .inl c_tries))]) H := by rw [e_]; exact hP
    replace hD : va_D A ([(h0, .inr (12, zmo hm (0 : Int32) c_state c_test c_words c_ill c_before c_inRow c_first c_inWindow c_same c_made c_requests c_total c_secrets c_rounds c_high c_low c_keyHigh c_keyLow)), ((hm 9), .inl (cy 1, 16, .inl c_kind_3)), ((hm 7), .inl (cy 1, 3, .inl c_pin_6)), ((hm 27), .inl (cy 2, 3, .inr (.inl c_taken))), ((hm 8), .inl (cy 1, 3, .inl c_tries))]) := by rw [e_]; exact hD
    clear e_
    refine lv_aload_n (pc := 44) hx hb (zdt_at zt_X10_zeroiseAll_0 25 rfl) rfl (lv_at hl 0 rfl) ?_
    refine va_get (pc := 45) (D := D) (ci := 12) (v := .ref (hm 8)) (C := RX10) (T := TX10) (N := 52) hx hb hts hcX10 hown hK hP 0 rfl rfl 8 (by decide) hw2 (fun _ h9 => h9) rfl (zdt_at zt_X10_zeroiseAll_0 26 rfl) ?_
    refine lv_iconst (pc := 48) (v := (1 : Int32)) hx hb (zdt_at zt_X10_zeroiseAll_0 27 rfl) (by decide) ?_
    refine lv_iconst (pc := 49) (v := (0 : Int32)) hx hb (zdt_at zt_X10_zeroiseAll_0 28 rfl) (by decide) ?_
    replace hf := zk_s hf
    refine va_iast (pc := 50) hx hb hK hP hD hS 4 1 rfl rfl hf.1 (zdt_at zt_X10_zeroiseAll_0 29 rfl) ?_
    replace hf := hf.2
    clear hP hD hS
    intro H locs hP hD hS
    obtain ⟨c_tries_7, e_⟩ : ∃ q : Nat → Int32, q = (upd c_tries (1 : Int32).toNatClampNeg (0 : Int32)) := ⟨_, rfl⟩
    replace hf := zn_s hf e_
    replace hP : va_P D vwCl ([(h0, .inr (12, zmo hm (0 : Int32) c_state c_test c_words c_ill c_before c_inRow c_first c_inWindow c_same c_made c_requests c_total c_secrets c_rounds c_high c_low c_keyHigh c_keyLow)), ((hm 9), .inl (cy 1, 16, .inl c_kind_3)), ((hm 7), .inl (cy 1, 3, .inl c_pin_6)), ((hm 27), .inl (cy 2, 3, .inr (.inl c_taken))), ((hm 8), .inl (cy 1, 3, .inl c_tries_7))]) H := by rw [e_]; exact hP
    replace hD : va_D A ([(h0, .inr (12, zmo hm (0 : Int32) c_state c_test c_words c_ill c_before c_inRow c_first c_inWindow c_same c_made c_requests c_total c_secrets c_rounds c_high c_low c_keyHigh c_keyLow)), ((hm 9), .inl (cy 1, 16, .inl c_kind_3)), ((hm 7), .inl (cy 1, 3, .inl c_pin_6)), ((hm 27), .inl (cy 2, 3, .inr (.inl c_taken))), ((hm 8), .inl (cy 1, 3, .inl c_tries_7))]) := by rw [e_]; exact hD
    clear e_
    refine lv_aload_n (pc := 51) hx hb (zdt_at zt_X10_zeroiseAll_0 30 rfl) rfl (lv_at hl 0 rfl) ?_
    refine va_get (pc := 52) (D := D) (ci := 12) (v := .ref (hm 8)) (C := RX10) (T := TX10) (N := 52) hx hb hts hcX10 hown hK hP 0 rfl rfl 8 (by decide) hw2 (fun _ h9 => h9) rfl (zdt_at zt_X10_zeroiseAll_0 31 rfl) ?_
    refine lv_iconst (pc := 55) (v := (2 : Int32)) hx hb (zdt_at zt_X10_zeroiseAll_0 32 rfl) (by decide) ?_
    refine lv_iconst (pc := 56) (v := (0 : Int32)) hx hb (zdt_at zt_X10_zeroiseAll_0 33 rfl) (by decide) ?_
    replace hf := zk_s hf
    refine va_iast (pc := 57) hx hb hK hP hD hS 4 1 rfl rfl hf.1 (zdt_at zt_X10_zeroiseAll_0 34 rfl) ?_
    replace hf := hf.2
    clear hP hD hS
    intro H locs hP hD hS
    obtain ⟨c_tries_8, e_⟩ : ∃ q : Nat → Int32, q = (upd c_tries_7 (2 : Int32).toNatClampNeg (0 : Int32)) := ⟨_, rfl⟩
    replace hf := zn_s hf e_
    replace hP : va_P D vwCl ([(h0, .inr (12, zmo hm (0 : Int32) c_state c_test c_words c_ill c_before c_inRow c_first c_inWindow c_same c_made c_requests c_total c_secrets c_rounds c_high c_low c_keyHigh c_keyLow)), ((hm 9), .inl (cy 1, 16, .inl c_kind_3)), ((hm 7), .inl (cy 1, 3, .inl c_pin_6)), ((hm 27), .inl (cy 2, 3, .inr (.inl c_taken))), ((hm 8), .inl (cy 1, 3, .inl c_tries_8))]) H := by rw [e_]; exact hP
    replace hD : va_D A ([(h0, .inr (12, zmo hm (0 : Int32) c_state c_test c_words c_ill c_before c_inRow c_first c_inWindow c_same c_made c_requests c_total c_secrets c_rounds c_high c_low c_keyHigh c_keyLow)), ((hm 9), .inl (cy 1, 16, .inl c_kind_3)), ((hm 7), .inl (cy 1, 3, .inl c_pin_6)), ((hm 27), .inl (cy 2, 3, .inr (.inl c_taken))), ((hm 8), .inl (cy 1, 3, .inl c_tries_8))]) := by rw [e_]; exact hD
    clear e_
    refine lv_aload_n (pc := 58) hx hb (zdt_at zt_X10_zeroiseAll_0 35 rfl) rfl (lv_at hl 0 rfl) ?_
    refine lv_iconst (pc := 59) (v := (0 : Int32)) hx hb (zdt_at zt_X10_zeroiseAll_0 36 rfl) (by decide) ?_
    refine va_put (pc := 60) (D := D) (ci := 12) (v := .int (0 : Int32)) (ty := .int) (C := RX10) (T := TX10) (N := 52) hx hb hts hcX10 tyX10 tyX10_ok nmX10 hown hK hP hD hS 0 rfl rfl 15 (by decide) hw3 (fun _ h9 => h9) rfl (by decide +kernel) rfl rfl (Nat.le_of_ble_eq_true rfl) (zdt_at zt_X10_zeroiseAll_0 37 rfl) ?_
    clear hP hD hS
    intro H locs hP hD hS
    replace hP : va_P D vwCl ([(h0, .inr (12, zmo hm (0 : Int32) c_state c_test (0 : Int32) c_ill c_before c_inRow c_first c_inWindow c_same c_made c_requests c_total c_secrets c_rounds c_high c_low c_keyHigh c_keyLow)), ((hm 9), .inl (cy 1, 16, .inl c_kind_3)), ((hm 7), .inl (cy 1, 3, .inl c_pin_6)), ((hm 27), .inl (cy 2, 3, .inr (.inl c_taken))), ((hm 8), .inl (cy 1, 3, .inl c_tries_8))]) H := hP
    replace hD : va_D A ([(h0, .inr (12, zmo hm (0 : Int32) c_state c_test (0 : Int32) c_ill c_before c_inRow c_first c_inWindow c_same c_made c_requests c_total c_secrets c_rounds c_high c_low c_keyHigh c_keyLow)), ((hm 9), .inl (cy 1, 16, .inl c_kind_3)), ((hm 7), .inl (cy 1, 3, .inl c_pin_6)), ((hm 27), .inl (cy 2, 3, .inr (.inl c_taken))), ((hm 8), .inl (cy 1, 3, .inl c_tries_8))]) := hD
    refine lv_aload_n (pc := 63) hx hb (zdt_at zt_X10_zeroiseAll_0 38 rfl) rfl (lv_at hl 0 rfl) ?_
    replace hf := zb_s hf
    obtain ⟨⟨c_made_9, c_taken_10⟩, hc_, hf⟩ := hf
    refine zcn2 (pc := 64) (rv := none) (va_runV (As := []) (rest := []) ⟨hx, hb, hml, hown, hts⟩ (c_X10_forget l D cy tt H.size h0 hm c_made c_taken (0 : Int32) c_state c_test (0 : Int32) c_ill c_before c_inRow c_first c_inWindow c_same c_requests c_total c_secrets c_rounds c_high c_low c_keyHigh c_keyLow c_made_9 c_taken_10 hc_) (cwV 0 hts gX10_zeroiseAll_X10_forget rfl rfl rfl (by decide +kernel) ⟨Nat.le_of_ble_eq_true rfl, Nat.le_of_ble_eq_true rfl⟩) ⟨zblind, va_recv hK hP (ci := 12) (q0 := 0) rfl rfl, zpre hE hS (hP.sub [0, 3] rfl) (hD.sub [0, 3] (by decide) rfl) (va_free hD hS hA [0, 3] rfl)⟩ rfl rfl hl.1 rfl (lv_room (Nat.le_of_ble_eq_true rfl)) (zdt_at zt_X10_zeroiseAll_0 39 rfl) ⟨Nat.zero_le _, Nat.zero_le _⟩) hS hP hD (va_free hD hS hA [0, 3] rfl) [0, 3] rfl (by decide) rfl ?_
    clear hP hD hS hc_
    intro H locs hP hD hS
    replace hP : va_P D vwCl ([(h0, .inr (12, zmo hm (0 : Int32) c_state c_test (0 : Int32) c_ill c_before c_inRow c_first c_inWindow c_same c_made_9 c_requests c_total c_secrets c_rounds c_high c_low c_keyHigh c_keyLow)), ((hm 9), .inl (cy 1, 16, .inl c_kind_3)), ((hm 7), .inl (cy 1, 3, .inl c_pin_6)), ((hm 27), .inl (cy 2, 3, .inr (.inl c_taken_10))), ((hm 8), .inl (cy 1, 3, .inl c_tries_8))]) H := hP
    replace hD : va_D A ([(h0, .inr (12, zmo hm (0 : Int32) c_state c_test (0 : Int32) c_ill c_before c_inRow c_first c_inWindow c_same c_made_9 c_requests c_total c_secrets c_rounds c_high c_low c_keyHigh c_keyLow)), ((hm 9), .inl (cy 1, 16, .inl c_kind_3)), ((hm 7), .inl (cy 1, 3, .inl c_pin_6)), ((hm 27), .inl (cy 2, 3, .inr (.inl c_taken_10))), ((hm 8), .inl (cy 1, 3, .inl c_tries_8))]) := hD
    refine W.eq (g2 := F0 m 67 ls []) rfl ?_
    refine lv_aload_n (pc := 67) hx hb (zdt_at zt_X10_zeroiseAll_0 40 rfl) rfl (lv_at hl 0 rfl) ?_
    replace hf := zb_s hf
    obtain ⟨r_11, hc_, hf⟩ := hf
    refine zcs (pc := 68) (rv := (some (.int r_11))) (va_runV (As := []) (rest := []) ⟨hx, hb, hml, hown, hts⟩ (c_X10_isIn l D cy tt H.size h0 hm c_state (0 : Int32) c_test (0 : Int32) c_ill c_before c_inRow c_first c_inWindow c_same c_made_9 c_requests c_total c_secrets c_rounds c_high c_low c_keyHigh c_keyLow r_11 hc_) (cwV 0 hts gX10_zeroiseAll_X10_isIn rfl rfl rfl (by decide +kernel) ⟨Nat.le_of_ble_eq_true rfl, Nat.le_of_ble_eq_true rfl⟩) ⟨zblind, va_recv hK hP (ci := 12) (q0 := 0) rfl rfl, zpre hE hS (hP.sub [0] rfl) (hD.sub [0] (by decide) rfl) (va_free hD hS hA [0] rfl)⟩ rfl rfl hl.1 rfl (lv_room (Nat.le_of_ble_eq_true rfl)) (zdt_at zt_X10_zeroiseAll_0 41 rfl) ⟨Nat.zero_le _, Nat.zero_le _⟩) ?_
    clear hc_
    refine W.eq (g2 := F0 m 71 ls [.int r_11]) rfl ?_
    refine lv_if_eq (pc := 71) (tgt := 79) hx hb (zdt_at zt_X10_zeroiseAll_0 42 rfl) (by decide) (fun cn_ => ?t_12) (fun cn_ => ?f_13)
    case t_12 =>
      replace hf := zt_s cn_ hf
      clear cn_
      cases hf
      exact W.vret (pc := 79) hx hb hr (fun t ht hW => ⟨rfl, ⟨by rw [ht]; exact hP, hD⟩, hS.F ht⟩) hS.2.2 (zdt_at zt_X10_zeroiseAll_0 46 rfl)
    replace hf := ze_s cn_ hf
    clear cn_
    refine lv_aload_n (pc := 74) hx hb (zdt_at zt_X10_zeroiseAll_0 43 rfl) rfl (lv_at hl 0 rfl) ?_
    refine lv_iconst (pc := 75) (v := (2 : Int32)) hx hb (zdt_at zt_X10_zeroiseAll_0 44 rfl) (by decide) ?_
    refine va_put (pc := 76) (D := D) (ci := 12) (v := .int (2 : Int32)) (ty := .int) (C := RX10) (T := TX10) (N := 52) hx hb hts hcX10 tyX10 tyX10_ok nmX10 hown hK hP hD hS 0 rfl rfl 2 (by decide) hw4 (fun _ h9 => h9) rfl (by decide +kernel) rfl rfl (Nat.le_of_ble_eq_true rfl) (zdt_at zt_X10_zeroiseAll_0 45 rfl) ?_
    clear hP hD hS
    intro H locs hP hD hS
    replace hP : va_P D vwCl ([(h0, .inr (12, zmo hm (0 : Int32) (2 : Int32) c_test (0 : Int32) c_ill c_before c_inRow c_first c_inWindow c_same c_made_9 c_requests c_total c_secrets c_rounds c_high c_low c_keyHigh c_keyLow)), ((hm 9), .inl (cy 1, 16, .inl c_kind_3)), ((hm 7), .inl (cy 1, 3, .inl c_pin_6)), ((hm 27), .inl (cy 2, 3, .inr (.inl c_taken_10))), ((hm 8), .inl (cy 1, 3, .inl c_tries_8))]) H := hP
    replace hD : va_D A ([(h0, .inr (12, zmo hm (0 : Int32) (2 : Int32) c_test (0 : Int32) c_ill c_before c_inRow c_first c_inWindow c_same c_made_9 c_requests c_total c_secrets c_rounds c_high c_low c_keyHigh c_keyLow)), ((hm 9), .inl (cy 1, 16, .inl c_kind_3)), ((hm 7), .inl (cy 1, 3, .inl c_pin_6)), ((hm 27), .inl (cy 2, 3, .inr (.inl c_taken_10))), ((hm 8), .inl (cy 1, 3, .inl c_tries_8))]) := hD
    cases hf
    exact W.vret (pc := 79) hx hb hr (fun t ht hW => ⟨rfl, ⟨by rw [ht]; exact hP, hD⟩, hS.F ht⟩) hS.2.2 (zdt_at zt_X10_zeroiseAll_0 46 rfl)
  clear eK_4
  refine hTo _ _ _ (zl_go (fun z => match z with | (i_1, c_kind_2) => ∀ (H : Heap) (locs : List Loc) (ls : Array Slot), va_P D vwCl ([(h0, .inr (12, zmo hm (0 : Int32) c_state c_test c_words c_ill c_before c_inRow c_first c_inWindow c_same c_made c_requests c_total c_secrets c_rounds c_high c_low c_keyHigh c_keyLow)), ((hm 9), .inl (cy 1, 16, .inl c_kind_2)), ((hm 7), .inl (cy 1, 3, .inl c_pin)), ((hm 27), .inl (cy 2, 3, .inr (.inl c_taken))), ((hm 8), .inl (cy 1, 3, .inl c_tries))]) H → va_D A ([(h0, .inr (12, zmo hm (0 : Int32) c_state c_test c_words c_ill c_before c_inRow c_first c_inWindow c_same c_made c_requests c_total c_secrets c_rounds c_high c_low c_keyHigh c_keyLow)), ((hm 9), .inl (cy 1, 16, .inl c_kind_2)), ((hm 7), .inl (cy 1, 3, .inl c_pin)), ((hm 27), .inl (cy 2, 3, .inr (.inl c_taken))), ((hm 8), .inl (cy 1, 3, .inl c_tries))]) → va_S A s.heap H locs → lv_has ls 2 [(0, .ref h0), (1, .int i_1)] → GW H locs (F0 m 7 ls [])) hf ?_ H locs ls hP hD hS (lv_sub hl [1, 0] rfl))
  clear hf hl hP hD hS
  intro self_14 ihself_14 z hf
  obtain ⟨i_1, c_kind_2⟩ := z
  intro H locs ls hP hD hS hl
  refine hFr _ _ _ ?_
  unfold b_X10_zeroiseAll_7 at hf
  refine lv_iload_n (pc := 7) hx hb (zdt_at zt_X10_zeroiseAll_0 5 rfl) rfl (lv_at hl 1 rfl) ?_
  refine lv_bipush (pc := 8) (v := (16 : Int32)) hx hb (zdt_at zt_X10_zeroiseAll_0 6 rfl) (by decide) ?_
  refine lv_icmp_ge (pc := 10) (tgt := 26) hx hb (zdt_at zt_X10_zeroiseAll_0 7 rfl) (by decide) (fun cn_ => ?t_15) (fun cn_ => ?f_16)
  case t_15 =>
    replace hf := zt_s cn_ hf
    clear cn_
    exact hTo _ _ _ (kK_4 _ H locs ls hP hD hS (lv_sub hl [0] rfl) hf)
  replace hf := ze_s cn_ hf
  clear cn_
  refine lv_aload_n (pc := 13) hx hb (zdt_at zt_X10_zeroiseAll_0 8 rfl) rfl (lv_at hl 0 rfl) ?_
  refine va_get (pc := 14) (D := D) (ci := 12) (v := .ref (hm 9)) (C := RX10) (T := TX10) (N := 52) hx hb hts hcX10 hown hK hP 0 rfl rfl 9 (by decide) hw5 (fun _ h9 => h9) rfl (zdt_at zt_X10_zeroiseAll_0 9 rfl) ?_
  refine lv_iload_n (pc := 17) hx hb (zdt_at zt_X10_zeroiseAll_0 10 rfl) rfl (lv_at hl 1 rfl) ?_
  refine lv_iconst (pc := 18) (v := (0 : Int32)) hx hb (zdt_at zt_X10_zeroiseAll_0 11 rfl) (by decide) ?_
  replace hf := zk_s hf
  refine va_iast (pc := 19) hx hb hK hP hD hS 1 1 rfl rfl hf.1 (zdt_at zt_X10_zeroiseAll_0 12 rfl) ?_
  replace hf := hf.2
  clear hP hD hS
  intro H locs hP hD hS
  obtain ⟨c_kind_17, e_⟩ : ∃ q : Nat → Int32, q = (upd c_kind_2 i_1.toNatClampNeg (0 : Int32)) := ⟨_, rfl⟩
  replace hf := zn_s hf e_
  replace hP : va_P D vwCl ([(h0, .inr (12, zmo hm (0 : Int32) c_state c_test c_words c_ill c_before c_inRow c_first c_inWindow c_same c_made c_requests c_total c_secrets c_rounds c_high c_low c_keyHigh c_keyLow)), ((hm 9), .inl (cy 1, 16, .inl c_kind_17)), ((hm 7), .inl (cy 1, 3, .inl c_pin)), ((hm 27), .inl (cy 2, 3, .inr (.inl c_taken))), ((hm 8), .inl (cy 1, 3, .inl c_tries))]) H := by rw [e_]; exact hP
  replace hD : va_D A ([(h0, .inr (12, zmo hm (0 : Int32) c_state c_test c_words c_ill c_before c_inRow c_first c_inWindow c_same c_made c_requests c_total c_secrets c_rounds c_high c_low c_keyHigh c_keyLow)), ((hm 9), .inl (cy 1, 16, .inl c_kind_17)), ((hm 7), .inl (cy 1, 3, .inl c_pin)), ((hm 27), .inl (cy 2, 3, .inr (.inl c_taken))), ((hm 8), .inl (cy 1, 3, .inl c_tries))]) := by rw [e_]; exact hD
  clear e_
  refine lv_iinc (pc := 20) (v := (i_1 + (1 : Int32))) (lv' := [(1, .int (i_1 + (1 : Int32))), (0, .ref h0)]) hx hb (zdt_at zt_X10_zeroiseAll_0 13 rfl) hl (k := 1) rfl rfl (by decide) rfl ?_
  clear hl
  intro ls hl
  refine lv_goto (pc := 23) (tgt := 7) hx hb (zdt_at zt_X10_zeroiseAll_0 14 rfl) (by decide) ?_
  exact hTo _ _ _ (ihself_14 _ hf H locs ls hP hD hS (lv_sub hl [1, 0] rfl))
set_option maxHeartbeats 4000000 in
set_option maxRecDepth 100000 in
theorem c_X10_isKey (l : Launch) (D : va_G) (cy : Nat → ClassId) (tt : Nat → Nat) (sz : Nat) (p0 : Int32) (p1 : Int32) (r_ : Int32) (hf : f_X10_isKey p0 p1 = some r_) : Met l yX10_isKey wsX10_isKey ({ frames := 1, cells := 0, slots := 0, locals := 22 }) (zPc D cy tt sz [.int p0, .int p1] ([])) (fun _ st o t => o = .returned (some (.int r_)) ∧ t.heap = st.heap) 0 0 (fun _ => False) := by
  refine Met.ofW (cc := cX10_isKey) (maxL := 2) (ret := (some .boolean)) (by decide) rfl ?_
  intro p e s m args below meth c s₁ B hml hv
  obtain ⟨rfl, rfl, hP, hD0, hE⟩ := hv
  have hx := B.exec
  have hb := B.bytes
  have hr := B.returns
  have hts := atoms_spec (ws := wsX10_isKey) B.pre
  have hown : s.vm.findClass RX10 = some m.cls := findClass_of_methodNamed B.named
  have hlocks := B.notSynchronized
  clear B
  have hD := hD0.self (sz := s.heap.size)
  generalize hAe : va_A ([]) s.heap.size = A at hD hE
  have hA : ∀ q : Nat, s.heap.size ≤ q → A q := fun q h => by rw [← hAe]; exact Or.inr h
  clear hAe hD0
  have hS : va_S A s.heap s.heap [] := va_S.rf
  have hK := hE.1
  have hl := lv_entry ([.int p0, .int p1]) (n := 2) (Nat.le_of_ble_eq_true rfl)
  rw [lg_entry_eq]
  generalize (lg_sl ([.int p0, .int p1]) ++ List.replicate (2 - (lg_sl ([.int p0, .int p1])).length) Slot.unset).toArray = ls at hl ⊢
  replace hl : lv_has ls 2 [(0, .int p0), (1, .int p1)] := hl
  unfold f_X10_isKey at hf
  refine zgo (fun GW hTo hFr => ?_)
  refine hFr _ _ _ ?_
  refine lv_iload_n (pc := 0) hx hb (zdt_at zt_X10_isKey_0 0 rfl) rfl (lv_at hl 0 rfl) ?_
  refine lv_iconst (pc := 1) (v := (1 : Int32)) hx hb (zdt_at zt_X10_isKey_0 1 rfl) (by decide) ?_
  refine lv_icmp_ne (pc := 2) (tgt := 25) hx hb (zdt_at zt_X10_isKey_0 2 rfl) (by decide) (fun cn_ => ?t_1) (fun cn_ => ?f_2)
  case t_1 =>
    replace hf := ze_s cn_ hf
    clear cn_
    refine lv_iload_n (pc := 25) hx hb (zdt_at zt_X10_isKey_0 13 rfl) rfl (lv_at hl 1 rfl) ?_
    refine lv_iconst (pc := 26) (v := (1 : Int32)) hx hb (zdt_at zt_X10_isKey_0 14 rfl) (by decide) ?_
    refine lv_bipush (pc := 27) (v := (64 : Int32)) hx hb (zdt_at zt_X10_isKey_0 15 rfl) (by decide) ?_
    replace hf := zb_s hf
    obtain ⟨r_3, hc_, hf⟩ := hf
    refine zcs (pc := 29) (rv := (some (.int r_3))) (va_runS (As := [.int p1, .int (1 : Int32), .int (64 : Int32)]) (rest := []) ⟨hx, hb, hml, hown, hts⟩ (c_X10_in l D cy tt s.heap.size p1 (1 : Int32) (64 : Int32) r_3 hc_) (va_cwS 3 hts gX10_isKey_X10_in rfl rfl rfl (by decide +kernel) ⟨Nat.le_of_ble_eq_true rfl, Nat.le_of_ble_eq_true rfl⟩) ⟨zblind, zpre hE hS (hP.sub [] rfl) (hD.sub [] (by decide) rfl) (va_free hD hS hA [] rfl)⟩ rfl rfl hl.1 rfl (lv_room (Nat.le_of_ble_eq_true rfl)) (zdt_at zt_X10_isKey_0 16 rfl) ⟨Nat.zero_le _, Nat.zero_le _⟩) ?_
    clear hc_
    refine W.eq (g2 := F0 m 32 ls [.int r_3]) rfl ?_
    replace hf := zk_s hf
    have hv_ := hf.1
    replace hf := hf.2
    cases hf
    exact W.zret (pc := 32) hx hb hr (zz_nar hv_) (fun t ht hW => ⟨rfl, ht⟩) (fun _ h => nomatch h) (zdt_at zt_X10_isKey_0 17 rfl)
  replace hf := zt_s cn_ hf
  clear cn_
  refine lv_iload_n (pc := 5) hx hb (zdt_at zt_X10_isKey_0 3 rfl) rfl (lv_at hl 1 rfl) ?_
  refine lv_bipush (pc := 6) (v := (16 : Int32)) hx hb (zdt_at zt_X10_isKey_0 4 rfl) (by decide) ?_
  refine lv_icmp_eq (pc := 8) (tgt := 17) hx hb (zdt_at zt_X10_isKey_0 5 rfl) (by decide) (fun cn_ => ?t_4) (fun cn_ => ?f_5)
  case t_4 =>
    replace hf := zt_s cn_ hf
    clear cn_
    refine lv_iconst (pc := 17) (v := (1 : Int32)) hx hb (zdt_at zt_X10_isKey_0 9 rfl) (by decide) ?_
    refine lv_goto (pc := 18) (tgt := 32) hx hb (zdt_at zt_X10_isKey_0 10 rfl) (by decide) ?_
    cases hf
    exact W.zret (pc := 32) hx hb hr rfl (fun t ht hW => ⟨rfl, ht⟩) (fun _ h => nomatch h) (zdt_at zt_X10_isKey_0 17 rfl)
  replace hf := ze_s cn_ hf
  clear cn_
  refine lv_iload_n (pc := 11) hx hb (zdt_at zt_X10_isKey_0 6 rfl) rfl (lv_at hl 1 rfl) ?_
  refine lv_bipush (pc := 12) (v := (32 : Int32)) hx hb (zdt_at zt_X10_isKey_0 7 rfl) (by decide) ?_
  refine lv_icmp_ne (pc := 14) (tgt := 21) hx hb (zdt_at zt_X10_isKey_0 8 rfl) (by decide) (fun cn_ => ?t_6) (fun cn_ => ?f_7)
  case t_6 =>
    replace hf := ze_s cn_ hf
    clear cn_
    refine lv_iconst (pc := 21) (v := (0 : Int32)) hx hb (zdt_at zt_X10_isKey_0 11 rfl) (by decide) ?_
    refine lv_goto (pc := 22) (tgt := 32) hx hb (zdt_at zt_X10_isKey_0 12 rfl) (by decide) ?_
    cases hf
    exact W.zret (pc := 32) hx hb hr rfl (fun t ht hW => ⟨rfl, ht⟩) (fun _ h => nomatch h) (zdt_at zt_X10_isKey_0 17 rfl)
  replace hf := zt_s cn_ hf
  clear cn_
  refine lv_iconst (pc := 17) (v := (1 : Int32)) hx hb (zdt_at zt_X10_isKey_0 9 rfl) (by decide) ?_
  refine lv_goto (pc := 18) (tgt := 32) hx hb (zdt_at zt_X10_isKey_0 10 rfl) (by decide) ?_
  cases hf
  exact W.zret (pc := 32) hx hb hr rfl (fun t ht hW => ⟨rfl, ht⟩) (fun _ h => nomatch h) (zdt_at zt_X10_isKey_0 17 rfl)
set_option maxHeartbeats 4000000 in
set_option maxRecDepth 100000 in
theorem c_X10_fill (l : Launch) (D : va_G) (cy : Nat → ClassId) (tt : Nat → Nat) (sz : Nat) (h0 : Nat) (hm : Nat → Nat) (p1 : Int32) (p2 : Int32) (p3 : Int32) (p4 : Int32) (p5 : Int32) (p6 : Int32) (c_holder : Nat → Int32) (c_kind : Nat → Int32) (c_length : Nat → Int32) (c_usage : Nat → Int32) (c_uses : Nat → Int32) (c_thrown : Int32) (c_state : Int32) (c_test : Int32) (c_words : Int32) (c_ill : Int32) (c_before : Int32) (c_inRow : Int32) (c_first : Int32) (c_inWindow : Int32) (c_same : Int32) (c_made : Int32) (c_requests : Int32) (c_total : Int64) (c_secrets : Int32) (c_rounds : Int32) (c_high : Int64) (c_low : Int64) (c_keyHigh : Int64) (c_keyLow : Int64) (c_holder' : Nat → Int32) (c_kind' : Nat → Int32) (c_length' : Nat → Int32) (c_usage' : Nat → Int32) (c_uses' : Nat → Int32) (hf : f_X10_fill p1 p2 p3 p4 p5 p6 c_holder c_kind c_length c_usage c_uses = some (c_holder', c_kind', c_length', c_usage', c_uses')) : Met l yX10_fill wsX10_fill ({ frames := 0, cells := 0, slots := 0, locals := 0 }) (zPc D cy tt sz [.ref h0, .int p1, .int p2, .int p3, .int p4, .int p5, .int p6] ([(h0, .inr (12, zmo hm c_thrown c_state c_test c_words c_ill c_before c_inRow c_first c_inWindow c_same c_made c_requests c_total c_secrets c_rounds c_high c_low c_keyHigh c_keyLow)), ((hm 12), .inl (cy 1, 16, .inl c_holder)), ((hm 9), .inl (cy 1, 16, .inl c_kind)), ((hm 10), .inl (cy 1, 16, .inl c_length)), ((hm 11), .inl (cy 1, 16, .inl c_usage)), ((hm 13), .inl (cy 1, 16, .inl c_uses))])) (zQ D none ([(h0, .inr (12, zmo hm c_thrown c_state c_test c_words c_ill c_before c_inRow c_first c_inWindow c_same c_made c_requests c_total c_secrets c_rounds c_high c_low c_keyHigh c_keyLow)), ((hm 12), .inl (cy 1, 16, .inl c_holder')), ((hm 9), .inl (cy 1, 16, .inl c_kind')), ((hm 10), .inl (cy 1, 16, .inl c_length')), ((hm 11), .inl (cy 1, 16, .inl c_usage')), ((hm 13), .inl (cy 1, 16, .inl c_uses'))]) (va_A ([(h0, .inr (12, zmo hm c_thrown c_state c_test c_words c_ill c_before c_inRow c_first c_inWindow c_same c_made c_requests c_total c_secrets c_rounds c_high c_low c_keyHigh c_keyLow)), ((hm 12), .inl (cy 1, 16, .inl c_holder)), ((hm 9), .inl (cy 1, 16, .inl c_kind)), ((hm 10), .inl (cy 1, 16, .inl c_length)), ((hm 11), .inl (cy 1, 16, .inl c_usage)), ((hm 13), .inl (cy 1, 16, .inl c_uses))]) sz)) 0 0 (va_A ([(h0, .inr (12, zmo hm c_thrown c_state c_test c_words c_ill c_before c_inRow c_first c_inWindow c_same c_made c_requests c_total c_secrets c_rounds c_high c_low c_keyHigh c_keyLow)), ((hm 12), .inl (cy 1, 16, .inl c_holder)), ((hm 9), .inl (cy 1, 16, .inl c_kind)), ((hm 10), .inl (cy 1, 16, .inl c_length)), ((hm 11), .inl (cy 1, 16, .inl c_usage)), ((hm 13), .inl (cy 1, 16, .inl c_uses))]) sz) := by
  refine Met.ofW (cc := cX10_fill) (maxL := 7) (ret := none) (by decide) rfl ?_
  intro p e s m args below meth c s₁ B hml hv
  obtain ⟨rfl, rfl, hP, hD0, hE⟩ := hv
  have hx := B.exec
  have hb := B.bytes
  have hr := B.returns
  have hts := atoms_spec (ws := wsX10_fill) B.pre
  have hown : s.vm.findClass RX10 = some m.cls := findClass_of_methodNamed B.named
  have hlocks := B.notSynchronized
  clear B
  have hD := hD0.self (sz := s.heap.size)
  generalize hAe : va_A ([(h0, .inr (12, zmo hm c_thrown c_state c_test c_words c_ill c_before c_inRow c_first c_inWindow c_same c_made c_requests c_total c_secrets c_rounds c_high c_low c_keyHigh c_keyLow)), ((hm 12), .inl (cy 1, 16, .inl c_holder)), ((hm 9), .inl (cy 1, 16, .inl c_kind)), ((hm 10), .inl (cy 1, 16, .inl c_length)), ((hm 11), .inl (cy 1, 16, .inl c_usage)), ((hm 13), .inl (cy 1, 16, .inl c_uses))]) s.heap.size = A at hD hE ⊢
  have hA : ∀ q : Nat, s.heap.size ≤ q → A q := fun q h => by rw [← hAe]; exact Or.inr h
  clear hAe hD0
  have hS : va_S A s.heap s.heap [] := va_S.rf
  have hK := hE.1
  have hw0 := hts (.fieldLink RX10 93 "SealedModuleModel" "kind" "[I") (by decide +kernel)
  have hw1 := hts (.fieldLink RX10 96 "SealedModuleModel" "length" "[I") (by decide +kernel)
  have hw2 := hts (.fieldLink RX10 99 "SealedModuleModel" "usage" "[I") (by decide +kernel)
  have hw3 := hts (.fieldLink RX10 102 "SealedModuleModel" "holder" "[I") (by decide +kernel)
  have hw4 := hts (.fieldLink RX10 105 "SealedModuleModel" "uses" "[I") (by decide +kernel)
  have hcX10 : ∀ w ∈ u_ws RX10 TX10 52, w ∈ wsX10_fill := (fun _ h => List.mem_cons_of_mem _ (List.mem_append_right _ h))
  have hl := lv_entry ([.ref h0, .int p1, .int p2, .int p3, .int p4, .int p5, .int p6]) (n := 7) (Nat.le_of_ble_eq_true rfl)
  rw [lg_entry_eq]
  generalize (lg_sl ([.ref h0, .int p1, .int p2, .int p3, .int p4, .int p5, .int p6]) ++ List.replicate (7 - (lg_sl ([.ref h0, .int p1, .int p2, .int p3, .int p4, .int p5, .int p6])).length) Slot.unset).toArray = ls at hl ⊢
  replace hl : lv_has ls 7 [(0, .ref h0), (1, .int p1), (2, .int p2), (3, .int p3), (4, .int p4), (5, .int p5), (6, .int p6)] := hl
  unfold f_X10_fill at hf
  refine zgo (fun GW hTo hFr => ?_)
  refine hFr _ _ _ ?_
  obtain ⟨H, hHe⟩ : ∃ H, H = s.heap := ⟨_, rfl⟩
  obtain ⟨locs, hLe⟩ : ∃ L : List Loc, L = [] := ⟨_, rfl⟩
  rw [← hHe] at hP
  replace hS : va_S A s.heap H locs := by rw [hHe, hLe]; exact hS
  refine zat hHe.symm hLe.symm ?_
  clear hHe hLe
  refine lv_aload_n (pc := 0) hx hb (zdt_at zt_X10_fill_0 0 rfl) rfl (lv_at hl 0 rfl) ?_
  refine va_get (pc := 1) (D := D) (ci := 12) (v := .ref (hm 9)) (C := RX10) (T := TX10) (N := 52) hx hb hts hcX10 hown hK hP 0 rfl rfl 9 (by decide) hw0 (fun _ h9 => h9) rfl (zdt_at zt_X10_fill_0 1 rfl) ?_
  refine lv_iload_n (pc := 4) hx hb (zdt_at zt_X10_fill_0 2 rfl) rfl (lv_at hl 1 rfl) ?_
  refine lv_iload_n (pc := 5) hx hb (zdt_at zt_X10_fill_0 3 rfl) rfl (lv_at hl 2 rfl) ?_
  replace hf := zk_s hf
  refine va_iast (pc := 6) hx hb hK hP hD hS 2 1 rfl rfl hf.1 (zdt_at zt_X10_fill_0 4 rfl) ?_
  replace hf := hf.2
  clear hP hD hS
  intro H locs hP hD hS
  obtain ⟨c_kind_1, e_⟩ : ∃ q : Nat → Int32, q = (upd c_kind p1.toNatClampNeg p2) := ⟨_, rfl⟩
  replace hf := zn_s hf e_
  replace hP : va_P D vwCl ([(h0, .inr (12, zmo hm c_thrown c_state c_test c_words c_ill c_before c_inRow c_first c_inWindow c_same c_made c_requests c_total c_secrets c_rounds c_high c_low c_keyHigh c_keyLow)), ((hm 12), .inl (cy 1, 16, .inl c_holder)), ((hm 9), .inl (cy 1, 16, .inl c_kind_1)), ((hm 10), .inl (cy 1, 16, .inl c_length)), ((hm 11), .inl (cy 1, 16, .inl c_usage)), ((hm 13), .inl (cy 1, 16, .inl c_uses))]) H := by rw [e_]; exact hP
  replace hD : va_D A ([(h0, .inr (12, zmo hm c_thrown c_state c_test c_words c_ill c_before c_inRow c_first c_inWindow c_same c_made c_requests c_total c_secrets c_rounds c_high c_low c_keyHigh c_keyLow)), ((hm 12), .inl (cy 1, 16, .inl c_holder)), ((hm 9), .inl (cy 1, 16, .inl c_kind_1)), ((hm 10), .inl (cy 1, 16, .inl c_length)), ((hm 11), .inl (cy 1, 16, .inl c_usage)), ((hm 13), .inl (cy 1, 16, .inl c_uses))]) := by rw [e_]; exact hD
  clear e_
  refine lv_aload_n (pc := 7) hx hb (zdt_at zt_X10_fill_0 5 rfl) rfl (lv_at hl 0 rfl) ?_
  refine va_get (pc := 8) (D := D) (ci := 12) (v := .ref (hm 10)) (C := RX10) (T := TX10) (N := 52) hx hb hts hcX10 hown hK hP 0 rfl rfl 10 (by decide) hw1 (fun _ h9 => h9) rfl (zdt_at zt_X10_fill_0 6 rfl) ?_
  refine lv_iload_n (pc := 11) hx hb (zdt_at zt_X10_fill_0 7 rfl) rfl (lv_at hl 1 rfl) ?_
  refine lv_iload (pc := 12) hx hb (zdt_at zt_X10_fill_0 8 rfl) (lv_at hl 6 rfl) ?_
  replace hf := zk_s hf
  refine va_iast (pc := 14) hx hb hK hP hD hS 3 1 rfl rfl hf.1 (zdt_at zt_X10_fill_0 9 rfl) ?_
  replace hf := hf.2
  clear hP hD hS
  intro H locs hP hD hS
  obtain ⟨c_length_2, e_⟩ : ∃ q : Nat → Int32, q = (upd c_length p1.toNatClampNeg p6) := ⟨_, rfl⟩
  replace hf := zn_s hf e_
  replace hP : va_P D vwCl ([(h0, .inr (12, zmo hm c_thrown c_state c_test c_words c_ill c_before c_inRow c_first c_inWindow c_same c_made c_requests c_total c_secrets c_rounds c_high c_low c_keyHigh c_keyLow)), ((hm 12), .inl (cy 1, 16, .inl c_holder)), ((hm 9), .inl (cy 1, 16, .inl c_kind_1)), ((hm 10), .inl (cy 1, 16, .inl c_length_2)), ((hm 11), .inl (cy 1, 16, .inl c_usage)), ((hm 13), .inl (cy 1, 16, .inl c_uses))]) H := by rw [e_]; exact hP
  replace hD : va_D A ([(h0, .inr (12, zmo hm c_thrown c_state c_test c_words c_ill c_before c_inRow c_first c_inWindow c_same c_made c_requests c_total c_secrets c_rounds c_high c_low c_keyHigh c_keyLow)), ((hm 12), .inl (cy 1, 16, .inl c_holder)), ((hm 9), .inl (cy 1, 16, .inl c_kind_1)), ((hm 10), .inl (cy 1, 16, .inl c_length_2)), ((hm 11), .inl (cy 1, 16, .inl c_usage)), ((hm 13), .inl (cy 1, 16, .inl c_uses))]) := by rw [e_]; exact hD
  clear e_
  refine lv_aload_n (pc := 15) hx hb (zdt_at zt_X10_fill_0 10 rfl) rfl (lv_at hl 0 rfl) ?_
  refine va_get (pc := 16) (D := D) (ci := 12) (v := .ref (hm 11)) (C := RX10) (T := TX10) (N := 52) hx hb hts hcX10 hown hK hP 0 rfl rfl 11 (by decide) hw2 (fun _ h9 => h9) rfl (zdt_at zt_X10_fill_0 11 rfl) ?_
  refine lv_iload_n (pc := 19) hx hb (zdt_at zt_X10_fill_0 12 rfl) rfl (lv_at hl 1 rfl) ?_
  refine lv_iload_n (pc := 20) hx hb (zdt_at zt_X10_fill_0 13 rfl) rfl (lv_at hl 3 rfl) ?_
  replace hf := zk_s hf
  refine va_iast (pc := 21) hx hb hK hP hD hS 4 1 rfl rfl hf.1 (zdt_at zt_X10_fill_0 14 rfl) ?_
  replace hf := hf.2
  clear hP hD hS
  intro H locs hP hD hS
  obtain ⟨c_usage_3, e_⟩ : ∃ q : Nat → Int32, q = (upd c_usage p1.toNatClampNeg p3) := ⟨_, rfl⟩
  replace hf := zn_s hf e_
  replace hP : va_P D vwCl ([(h0, .inr (12, zmo hm c_thrown c_state c_test c_words c_ill c_before c_inRow c_first c_inWindow c_same c_made c_requests c_total c_secrets c_rounds c_high c_low c_keyHigh c_keyLow)), ((hm 12), .inl (cy 1, 16, .inl c_holder)), ((hm 9), .inl (cy 1, 16, .inl c_kind_1)), ((hm 10), .inl (cy 1, 16, .inl c_length_2)), ((hm 11), .inl (cy 1, 16, .inl c_usage_3)), ((hm 13), .inl (cy 1, 16, .inl c_uses))]) H := by rw [e_]; exact hP
  replace hD : va_D A ([(h0, .inr (12, zmo hm c_thrown c_state c_test c_words c_ill c_before c_inRow c_first c_inWindow c_same c_made c_requests c_total c_secrets c_rounds c_high c_low c_keyHigh c_keyLow)), ((hm 12), .inl (cy 1, 16, .inl c_holder)), ((hm 9), .inl (cy 1, 16, .inl c_kind_1)), ((hm 10), .inl (cy 1, 16, .inl c_length_2)), ((hm 11), .inl (cy 1, 16, .inl c_usage_3)), ((hm 13), .inl (cy 1, 16, .inl c_uses))]) := by rw [e_]; exact hD
  clear e_
  refine lv_aload_n (pc := 22) hx hb (zdt_at zt_X10_fill_0 15 rfl) rfl (lv_at hl 0 rfl) ?_
  refine va_get (pc := 23) (D := D) (ci := 12) (v := .ref (hm 12)) (C := RX10) (T := TX10) (N := 52) hx hb hts hcX10 hown hK hP 0 rfl rfl 12 (by decide) hw3 (fun _ h9 => h9) rfl (zdt_at zt_X10_fill_0 16 rfl) ?_
  refine lv_iload_n (pc := 26) hx hb (zdt_at zt_X10_fill_0 17 rfl) rfl (lv_at hl 1 rfl) ?_
  refine lv_iload (pc := 27) hx hb (zdt_at zt_X10_fill_0 18 rfl) (lv_at hl 4 rfl) ?_
  replace hf := zk_s hf
  refine va_iast (pc := 29) hx hb hK hP hD hS 1 1 rfl rfl hf.1 (zdt_at zt_X10_fill_0 19 rfl) ?_
  replace hf := hf.2
  clear hP hD hS
  intro H locs hP hD hS
  obtain ⟨c_holder_4, e_⟩ : ∃ q : Nat → Int32, q = (upd c_holder p1.toNatClampNeg p4) := ⟨_, rfl⟩
  replace hf := zn_s hf e_
  replace hP : va_P D vwCl ([(h0, .inr (12, zmo hm c_thrown c_state c_test c_words c_ill c_before c_inRow c_first c_inWindow c_same c_made c_requests c_total c_secrets c_rounds c_high c_low c_keyHigh c_keyLow)), ((hm 12), .inl (cy 1, 16, .inl c_holder_4)), ((hm 9), .inl (cy 1, 16, .inl c_kind_1)), ((hm 10), .inl (cy 1, 16, .inl c_length_2)), ((hm 11), .inl (cy 1, 16, .inl c_usage_3)), ((hm 13), .inl (cy 1, 16, .inl c_uses))]) H := by rw [e_]; exact hP
  replace hD : va_D A ([(h0, .inr (12, zmo hm c_thrown c_state c_test c_words c_ill c_before c_inRow c_first c_inWindow c_same c_made c_requests c_total c_secrets c_rounds c_high c_low c_keyHigh c_keyLow)), ((hm 12), .inl (cy 1, 16, .inl c_holder_4)), ((hm 9), .inl (cy 1, 16, .inl c_kind_1)), ((hm 10), .inl (cy 1, 16, .inl c_length_2)), ((hm 11), .inl (cy 1, 16, .inl c_usage_3)), ((hm 13), .inl (cy 1, 16, .inl c_uses))]) := by rw [e_]; exact hD
  clear e_
  refine lv_aload_n (pc := 30) hx hb (zdt_at zt_X10_fill_0 20 rfl) rfl (lv_at hl 0 rfl) ?_
  refine va_get (pc := 31) (D := D) (ci := 12) (v := .ref (hm 13)) (C := RX10) (T := TX10) (N := 52) hx hb hts hcX10 hown hK hP 0 rfl rfl 13 (by decide) hw4 (fun _ h9 => h9) rfl (zdt_at zt_X10_fill_0 21 rfl) ?_
  refine lv_iload_n (pc := 34) hx hb (zdt_at zt_X10_fill_0 22 rfl) rfl (lv_at hl 1 rfl) ?_
  refine lv_iload (pc := 35) hx hb (zdt_at zt_X10_fill_0 23 rfl) (lv_at hl 5 rfl) ?_
  replace hf := zk_s hf
  refine va_iast (pc := 37) hx hb hK hP hD hS 5 1 rfl rfl hf.1 (zdt_at zt_X10_fill_0 24 rfl) ?_
  replace hf := hf.2
  clear hP hD hS
  intro H locs hP hD hS
  obtain ⟨c_uses_5, e_⟩ : ∃ q : Nat → Int32, q = (upd c_uses p1.toNatClampNeg p5) := ⟨_, rfl⟩
  replace hf := zn_s hf e_
  replace hP : va_P D vwCl ([(h0, .inr (12, zmo hm c_thrown c_state c_test c_words c_ill c_before c_inRow c_first c_inWindow c_same c_made c_requests c_total c_secrets c_rounds c_high c_low c_keyHigh c_keyLow)), ((hm 12), .inl (cy 1, 16, .inl c_holder_4)), ((hm 9), .inl (cy 1, 16, .inl c_kind_1)), ((hm 10), .inl (cy 1, 16, .inl c_length_2)), ((hm 11), .inl (cy 1, 16, .inl c_usage_3)), ((hm 13), .inl (cy 1, 16, .inl c_uses_5))]) H := by rw [e_]; exact hP
  replace hD : va_D A ([(h0, .inr (12, zmo hm c_thrown c_state c_test c_words c_ill c_before c_inRow c_first c_inWindow c_same c_made c_requests c_total c_secrets c_rounds c_high c_low c_keyHigh c_keyLow)), ((hm 12), .inl (cy 1, 16, .inl c_holder_4)), ((hm 9), .inl (cy 1, 16, .inl c_kind_1)), ((hm 10), .inl (cy 1, 16, .inl c_length_2)), ((hm 11), .inl (cy 1, 16, .inl c_usage_3)), ((hm 13), .inl (cy 1, 16, .inl c_uses_5))]) := by rw [e_]; exact hD
  clear e_
  cases hf
  exact W.vret (pc := 38) hx hb hr (fun t ht hW => ⟨rfl, ⟨by rw [ht]; exact hP, hD⟩, hS.F ht⟩) hS.2.2 (zdt_at zt_X10_fill_0 25 rfl)
set_option maxHeartbeats 4000000 in
set_option maxRecDepth 100000 in
theorem c_X10_refuses (l : Launch) (D : va_G) (cy : Nat → ClassId) (tt : Nat → Nat) (sz : Nat) (h0 : Nat) (hm : Nat → Nat) (p1 : Int32) (p2 : Int32) (p3 : Int32) (p4 : Int32) (p5 : Int32) (p6 : Int32) (c_state : Int32) (c_kind : Nat → Int32) (c_thrown : Int32) (c_test : Int32) (c_words : Int32) (c_ill : Int32) (c_before : Int32) (c_inRow : Int32) (c_first : Int32) (c_inWindow : Int32) (c_same : Int32) (c_made : Int32) (c_requests : Int32) (c_total : Int64) (c_secrets : Int32) (c_rounds : Int32) (c_high : Int64) (c_low : Int64) (c_keyHigh : Int64) (c_keyLow : Int64) (r_ : Int32) (hf : f_X10_refuses p1 p2 p3 p4 p5 p6 c_state c_kind = some r_) : Met l yX10_refuses wsX10_refuses ({ frames := 2, cells := 0, slots := 0, locals := 43 }) (zPc D cy tt sz [.ref h0, .int p1, .int p2, .int p3, .int p4, .int p5, .int p6] ([(h0, .inr (12, zmo hm c_thrown c_state c_test c_words c_ill c_before c_inRow c_first c_inWindow c_same c_made c_requests c_total c_secrets c_rounds c_high c_low c_keyHigh c_keyLow)), ((hm 9), .inl (cy 1, 16, .inl c_kind))])) (fun _ st o t => o = .returned (some (.int r_)) ∧ t.heap = st.heap) 0 0 (fun _ => False) := by
  refine Met.ofW (cc := cX10_refuses) (maxL := 8) (ret := (some .int)) (by decide) rfl ?_
  intro p e s m args below meth c s₁ B hml hv
  obtain ⟨rfl, rfl, hP, hD0, hE⟩ := hv
  have hx := B.exec
  have hb := B.bytes
  have hr := B.returns
  have hts := atoms_spec (ws := wsX10_refuses) B.pre
  have hown : s.vm.findClass RX10 = some m.cls := findClass_of_methodNamed B.named
  have hlocks := B.notSynchronized
  clear B
  have hD := hD0.self (sz := s.heap.size)
  generalize hAe : va_A ([(h0, .inr (12, zmo hm c_thrown c_state c_test c_words c_ill c_before c_inRow c_first c_inWindow c_same c_made c_requests c_total c_secrets c_rounds c_high c_low c_keyHigh c_keyLow)), ((hm 9), .inl (cy 1, 16, .inl c_kind))]) s.heap.size = A at hD hE
  have hA : ∀ q : Nat, s.heap.size ≤ q → A q := fun q h => by rw [← hAe]; exact Or.inr h
  clear hAe hD0
  have hS : va_S A s.heap s.heap [] := va_S.rf
  have hK := hE.1
  have hw0 := hts (.constant RX10 319 (1000000)) (by decide +kernel)
  have hw1 := hts (.fieldLink RX10 93 "SealedModuleModel" "kind" "[I") (by decide +kernel)
  have hcX10 : ∀ w ∈ u_ws RX10 TX10 52, w ∈ wsX10_refuses := (fun _ h => List.mem_cons_of_mem _ (List.mem_append_right _ h))
  have hl := lv_entry ([.ref h0, .int p1, .int p2, .int p3, .int p4, .int p5, .int p6]) (n := 8) (Nat.le_of_ble_eq_true rfl)
  rw [lg_entry_eq]
  generalize (lg_sl ([.ref h0, .int p1, .int p2, .int p3, .int p4, .int p5, .int p6]) ++ List.replicate (8 - (lg_sl ([.ref h0, .int p1, .int p2, .int p3, .int p4, .int p5, .int p6])).length) Slot.unset).toArray = ls at hl ⊢
  replace hl : lv_has ls 8 [(0, .ref h0), (1, .int p1), (2, .int p2), (3, .int p3), (4, .int p4), (5, .int p5), (6, .int p6)] := hl
  unfold f_X10_refuses at hf
  refine zgo (fun GW hTo hFr => ?_)
  refine hFr _ _ _ ?_
  refine lv_aload_n (pc := 0) hx hb (zdt_at zt_X10_refuses_0 0 rfl) rfl (lv_at hl 0 rfl) ?_
  replace hf := zb_s hf
  obtain ⟨r_1, hc_, hf⟩ := hf
  refine zcs (pc := 1) (rv := (some (.int r_1))) (va_runV (As := []) (rest := []) ⟨hx, hb, hml, hown, hts⟩ (c_X10_isIn l D cy tt s.heap.size h0 hm c_state c_thrown c_test c_words c_ill c_before c_inRow c_first c_inWindow c_same c_made c_requests c_total c_secrets c_rounds c_high c_low c_keyHigh c_keyLow r_1 hc_) (cwV 0 hts gX10_refuses_X10_isIn rfl rfl rfl (by decide +kernel) ⟨Nat.le_of_ble_eq_true rfl, Nat.le_of_ble_eq_true rfl⟩) ⟨zblind, va_recv hK hP (ci := 12) (q0 := 0) rfl rfl, zpre hE hS (hP.sub [0] rfl) (hD.sub [0] (by decide) rfl) (va_free hD hS hA [0] rfl)⟩ rfl rfl hl.1 rfl (lv_room (Nat.le_of_ble_eq_true rfl)) (zdt_at zt_X10_refuses_0 1 rfl) ⟨Nat.zero_le _, Nat.zero_le _⟩) ?_
  clear hc_
  refine W.eq (g2 := F0 m 4 ls [.int r_1]) rfl ?_
  refine lv_if_ne (pc := 4) (tgt := 9) hx hb (zdt_at zt_X10_refuses_0 2 rfl) (by decide) (fun cn_ => ?t_2) (fun cn_ => ?f_3)
  case f_3 =>
    replace hf := zt_s cn_ hf
    clear cn_
    refine lv_iconst (pc := 7) (v := (-1 : Int32)) hx hb (zdt_at zt_X10_refuses_0 3 rfl) (by decide) ?_
    cases hf
    exact W.iret (pc := 8) hx hb hr (fun t ht hW => ⟨rfl, ht⟩) (fun _ h => nomatch h) (zdt_at zt_X10_refuses_0 4 rfl)
  replace hf := ze_s cn_ hf
  clear cn_
  refine lv_iload_n (pc := 9) hx hb (zdt_at zt_X10_refuses_0 5 rfl) rfl (lv_at hl 1 rfl) ?_
  refine lv_iconst (pc := 10) (v := (0 : Int32)) hx hb (zdt_at zt_X10_refuses_0 6 rfl) (by decide) ?_
  refine lv_bipush (pc := 11) (v := (15 : Int32)) hx hb (zdt_at zt_X10_refuses_0 7 rfl) (by decide) ?_
  replace hf := zb_s hf
  obtain ⟨r_4, hc_, hf⟩ := hf
  refine zcs (pc := 13) (rv := (some (.int r_4))) (va_runS (As := [.int p1, .int (0 : Int32), .int (15 : Int32)]) (rest := []) ⟨hx, hb, hml, hown, hts⟩ (c_X10_in l D cy tt s.heap.size p1 (0 : Int32) (15 : Int32) r_4 hc_) (va_cwS 3 hts gX10_refuses_X10_in rfl rfl rfl (by decide +kernel) ⟨Nat.le_of_ble_eq_true rfl, Nat.le_of_ble_eq_true rfl⟩) ⟨zblind, zpre hE hS (hP.sub [] rfl) (hD.sub [] (by decide) rfl) (va_free hD hS hA [] rfl)⟩ rfl rfl hl.1 rfl (lv_room (Nat.le_of_ble_eq_true rfl)) (zdt_at zt_X10_refuses_0 8 rfl) ⟨Nat.zero_le _, Nat.zero_le _⟩) ?_
  clear hc_
  refine W.eq (g2 := F0 m 16 ls [.int r_4]) rfl ?_
  replace hf := zj_s hf
  obtain ⟨K_6, eK_6, hf⟩ := hf
  have kK_6 : ∀ (v_5 : Int32) (ls : Array Slot), lv_has ls 8 [(0, .ref h0), (1, .int p1), (2, .int p2), (5, .int p5), (6, .int p6)] → K_6 v_5 = some r_ → GW s.heap [] (F0 m 53 ls [.int v_5]) := by
    clear hf hl
    intro v_5 ls hl hf
    rw [eK_6] at hf
    clear eK_6
    refine hFr _ _ _ ?_
    refine lv_istore (pc := 53) (lv' := [(7, .int v_5), (0, .ref h0), (1, .int p1), (2, .int p2), (5, .int p5), (6, .int p6)]) hx hb (zdt_at zt_X10_refuses_0 28 rfl) hl (by decide) rfl ?_
    clear hl
    intro ls hl
    refine lv_iload (pc := 55) hx hb (zdt_at zt_X10_refuses_0 29 rfl) (lv_at hl 0 rfl) ?_
    refine lv_if_eq (pc := 57) (tgt := 83) hx hb (zdt_at zt_X10_refuses_0 30 rfl) (by decide) (fun cn_ => ?t_7) (fun cn_ => ?f_8)
    case t_7 =>
      replace hf := zt_s cn_ hf
      clear cn_
      refine lv_bipush (pc := 83) (v := (-2 : Int32)) hx hb (zdt_at zt_X10_refuses_0 41 rfl) (by decide) ?_
      cases hf
      exact W.iret (pc := 85) hx hb hr (fun t ht hW => ⟨rfl, ht⟩) (fun _ h => nomatch h) (zdt_at zt_X10_refuses_0 42 rfl)
    replace hf := ze_s cn_ hf
    clear cn_
    refine lv_iload (pc := 60) hx hb (zdt_at zt_X10_refuses_0 31 rfl) (lv_at hl 4 rfl) ?_
    refine lv_iconst (pc := 62) (v := (-1 : Int32)) hx hb (zdt_at zt_X10_refuses_0 32 rfl) (by decide) ?_
    refine lv_ldcw (pc := 63) hx hb hown hw0 (zdt_at zt_X10_refuses_0 33 rfl) ?_
    replace hf := zb_s hf
    obtain ⟨r_9, hc_, hf⟩ := hf
    refine zcs (pc := 66) (rv := (some (.int r_9))) (va_runS (As := [.int p5, .int (-1 : Int32), .int (1000000 : Int32)]) (rest := []) ⟨hx, hb, hml, hown, hts⟩ (c_X10_in l D cy tt s.heap.size p5 (-1 : Int32) (1000000 : Int32) r_9 hc_) (va_cwS 3 hts gX10_refuses_X10_in rfl rfl rfl (by decide +kernel) ⟨Nat.le_of_ble_eq_true rfl, Nat.le_of_ble_eq_true rfl⟩) ⟨zblind, zpre hE hS (hP.sub [] rfl) (hD.sub [] (by decide) rfl) (va_free hD hS hA [] rfl)⟩ rfl rfl hl.1 rfl (lv_room (Nat.le_of_ble_eq_true rfl)) (zdt_at zt_X10_refuses_0 34 rfl) ⟨Nat.zero_le _, Nat.zero_le _⟩) ?_
    clear hc_
    refine W.eq (g2 := F0 m 69 ls [.int r_9]) rfl ?_
    refine lv_if_eq (pc := 69) (tgt := 83) hx hb (zdt_at zt_X10_refuses_0 35 rfl) (by decide) (fun cn_ => ?t_10) (fun cn_ => ?f_11)
    case t_10 =>
      replace hf := zt_s cn_ hf
      clear cn_
      refine lv_bipush (pc := 83) (v := (-2 : Int32)) hx hb (zdt_at zt_X10_refuses_0 41 rfl) (by decide) ?_
      cases hf
      exact W.iret (pc := 85) hx hb hr (fun t ht hW => ⟨rfl, ht⟩) (fun _ h => nomatch h) (zdt_at zt_X10_refuses_0 42 rfl)
    replace hf := ze_s cn_ hf
    clear cn_
    refine lv_iload (pc := 72) hx hb (zdt_at zt_X10_refuses_0 36 rfl) (lv_at hl 5 rfl) ?_
    refine lv_iconst (pc := 74) (v := (1 : Int32)) hx hb (zdt_at zt_X10_refuses_0 37 rfl) (by decide) ?_
    refine lv_bipush (pc := 75) (v := (64 : Int32)) hx hb (zdt_at zt_X10_refuses_0 38 rfl) (by decide) ?_
    replace hf := zb_s hf
    obtain ⟨r_12, hc_, hf⟩ := hf
    refine zcs (pc := 77) (rv := (some (.int r_12))) (va_runS (As := [.int p6, .int (1 : Int32), .int (64 : Int32)]) (rest := []) ⟨hx, hb, hml, hown, hts⟩ (c_X10_in l D cy tt s.heap.size p6 (1 : Int32) (64 : Int32) r_12 hc_) (va_cwS 3 hts gX10_refuses_X10_in rfl rfl rfl (by decide +kernel) ⟨Nat.le_of_ble_eq_true rfl, Nat.le_of_ble_eq_true rfl⟩) ⟨zblind, zpre hE hS (hP.sub [] rfl) (hD.sub [] (by decide) rfl) (va_free hD hS hA [] rfl)⟩ rfl rfl hl.1 rfl (lv_room (Nat.le_of_ble_eq_true rfl)) (zdt_at zt_X10_refuses_0 39 rfl) ⟨Nat.zero_le _, Nat.zero_le _⟩) ?_
    clear hc_
    refine W.eq (g2 := F0 m 80 ls [.int r_12]) rfl ?_
    refine lv_if_ne (pc := 80) (tgt := 86) hx hb (zdt_at zt_X10_refuses_0 40 rfl) (by decide) (fun cn_ => ?t_13) (fun cn_ => ?f_14)
    case f_14 =>
      replace hf := zt_s cn_ hf
      clear cn_
      refine lv_bipush (pc := 83) (v := (-2 : Int32)) hx hb (zdt_at zt_X10_refuses_0 41 rfl) (by decide) ?_
      cases hf
      exact W.iret (pc := 85) hx hb hr (fun t ht hW => ⟨rfl, ht⟩) (fun _ h => nomatch h) (zdt_at zt_X10_refuses_0 42 rfl)
    replace hf := ze_s cn_ hf
    clear cn_
    refine lv_aload_n (pc := 86) hx hb (zdt_at zt_X10_refuses_0 43 rfl) rfl (lv_at hl 1 rfl) ?_
    replace hf := zb_s hf
    obtain ⟨r_15, hc_, hf⟩ := hf
    refine zcs (pc := 87) (rv := (some (.int r_15))) (va_runV (As := []) (rest := []) ⟨hx, hb, hml, hown, hts⟩ (c_X10_role l D cy tt s.heap.size h0 hm c_state c_thrown c_test c_words c_ill c_before c_inRow c_first c_inWindow c_same c_made c_requests c_total c_secrets c_rounds c_high c_low c_keyHigh c_keyLow r_15 hc_) (cwV 0 hts gX10_refuses_X10_role rfl rfl rfl (by decide +kernel) ⟨Nat.le_of_ble_eq_true rfl, Nat.le_of_ble_eq_true rfl⟩) ⟨zblind, va_recv hK hP (ci := 12) (q0 := 0) rfl rfl, zpre hE hS (hP.sub [0] rfl) (hD.sub [0] (by decide) rfl) (va_free hD hS hA [0] rfl)⟩ rfl rfl hl.1 rfl (lv_room (Nat.le_of_ble_eq_true rfl)) (zdt_at zt_X10_refuses_0 44 rfl) ⟨Nat.zero_le _, Nat.zero_le _⟩) ?_
    clear hc_
    refine W.eq (g2 := F0 m 90 ls [.int r_15]) rfl ?_
    refine lv_iconst (pc := 90) (v := (1 : Int32)) hx hb (zdt_at zt_X10_refuses_0 45 rfl) (by decide) ?_
    refine lv_icmp_eq (pc := 91) (tgt := 99) hx hb (zdt_at zt_X10_refuses_0 46 rfl) (by decide) (fun cn_ => ?t_16) (fun cn_ => ?f_17)
    case f_17 =>
      replace hf := ze_s cn_ hf
      clear cn_
      refine lv_bipush (pc := 94) (v := (-3 : Int32)) hx hb (zdt_at zt_X10_refuses_0 47 rfl) (by decide) ?_
      refine lv_goto (pc := 96) (tgt := 128) hx hb (zdt_at zt_X10_refuses_0 48 rfl) (by decide) ?_
      cases hf
      exact W.iret (pc := 128) hx hb hr (fun t ht hW => ⟨rfl, ht⟩) (fun _ h => nomatch h) (zdt_at zt_X10_refuses_0 63 rfl)
    replace hf := zt_s cn_ hf
    clear cn_
    refine lv_aload_n (pc := 99) hx hb (zdt_at zt_X10_refuses_0 49 rfl) rfl (lv_at hl 1 rfl) ?_
    refine va_get (pc := 100) (D := D) (ci := 12) (v := .ref (hm 9)) (C := RX10) (T := TX10) (N := 52) hx hb hts hcX10 hown hK hP 0 rfl rfl 9 (by decide) hw1 (fun _ h9 => h9) rfl (zdt_at zt_X10_refuses_0 50 rfl) ?_
    refine lv_iload_n (pc := 103) hx hb (zdt_at zt_X10_refuses_0 51 rfl) rfl (lv_at hl 2 rfl) ?_
    replace hf := zk_s hf
    refine va_iald (pc := 104) hx hb hK hP 1 1 rfl rfl hf.1 (zdt_at zt_X10_refuses_0 52 rfl) ?_
    replace hf := hf.2
    refine lv_if_le (pc := 105) (tgt := 113) hx hb (zdt_at zt_X10_refuses_0 53 rfl) (by decide) (fun cn_ => ?t_18) (fun cn_ => ?f_19)
    case f_19 =>
      replace hf := ze_s cn_ hf
      clear cn_
      refine lv_bipush (pc := 108) (v := (-4 : Int32)) hx hb (zdt_at zt_X10_refuses_0 54 rfl) (by decide) ?_
      refine lv_goto (pc := 110) (tgt := 128) hx hb (zdt_at zt_X10_refuses_0 55 rfl) (by decide) ?_
      cases hf
      exact W.iret (pc := 128) hx hb hr (fun t ht hW => ⟨rfl, ht⟩) (fun _ h => nomatch h) (zdt_at zt_X10_refuses_0 63 rfl)
    replace hf := zt_s cn_ hf
    clear cn_
    refine lv_iload_n (pc := 113) hx hb (zdt_at zt_X10_refuses_0 56 rfl) rfl (lv_at hl 3 rfl) ?_
    refine lv_iload (pc := 114) hx hb (zdt_at zt_X10_refuses_0 57 rfl) (lv_at hl 5 rfl) ?_
    replace hf := zb_s hf
    obtain ⟨r_20, hc_, hf⟩ := hf
    refine zcs (pc := 116) (rv := (some (.int r_20))) (va_runS (As := [.int p2, .int p6]) (rest := []) ⟨hx, hb, hml, hown, hts⟩ (c_X10_isKey l D cy tt s.heap.size p2 p6 r_20 hc_) (va_cwS 2 hts gX10_refuses_X10_isKey rfl rfl rfl (by decide +kernel) ⟨Nat.le_of_ble_eq_true rfl, Nat.le_of_ble_eq_true rfl⟩) ⟨zblind, zpre hE hS (hP.sub [] rfl) (hD.sub [] (by decide) rfl) (va_free hD hS hA [] rfl)⟩ rfl rfl hl.1 rfl (lv_room (Nat.le_of_ble_eq_true rfl)) (zdt_at zt_X10_refuses_0 58 rfl) ⟨Nat.zero_le _, Nat.zero_le _⟩) ?_
    clear hc_
    refine W.eq (g2 := F0 m 119 ls [.int r_20]) rfl ?_
    refine lv_if_eq (pc := 119) (tgt := 126) hx hb (zdt_at zt_X10_refuses_0 59 rfl) (by decide) (fun cn_ => ?t_21) (fun cn_ => ?f_22)
    case t_21 =>
      replace hf := zt_s cn_ hf
      clear cn_
      refine lv_bipush (pc := 126) (v := (-5 : Int32)) hx hb (zdt_at zt_X10_refuses_0 62 rfl) (by decide) ?_
      cases hf
      exact W.iret (pc := 128) hx hb hr (fun t ht hW => ⟨rfl, ht⟩) (fun _ h => nomatch h) (zdt_at zt_X10_refuses_0 63 rfl)
    replace hf := ze_s cn_ hf
    clear cn_
    refine lv_iconst (pc := 122) (v := (0 : Int32)) hx hb (zdt_at zt_X10_refuses_0 60 rfl) (by decide) ?_
    refine lv_goto (pc := 123) (tgt := 128) hx hb (zdt_at zt_X10_refuses_0 61 rfl) (by decide) ?_
    cases hf
    exact W.iret (pc := 128) hx hb hr (fun t ht hW => ⟨rfl, ht⟩) (fun _ h => nomatch h) (zdt_at zt_X10_refuses_0 63 rfl)
  clear eK_6
  replace hf := zj_s hf
  obtain ⟨K_23, eK_23, hf⟩ := hf
  have kK_23 : ∀  (ls : Array Slot), lv_has ls 8 [(0, .ref h0), (1, .int p1), (2, .int p2), (5, .int p5), (6, .int p6)] → K_23 () = some r_ → GW s.heap [] (F0 m 52 ls []) := by
    clear hf hl
    intro  ls hl hf
    rw [eK_23] at hf
    clear eK_23
    refine hFr _ _ _ ?_
    refine lv_iconst (pc := 52) (v := (0 : Int32)) hx hb (zdt_at zt_X10_refuses_0 27 rfl) (by decide) ?_
    exact hTo _ _ _ (kK_6 _ ls (lv_sub hl [0, 1, 2, 3, 4] rfl) hf)
  clear eK_23
  refine lv_if_eq (pc := 16) (tgt := 52) hx hb (zdt_at zt_X10_refuses_0 9 rfl) (by decide) (fun cn_ => ?t_24) (fun cn_ => ?f_25)
  case t_24 =>
    replace hf := zt_s cn_ hf
    clear cn_
    exact hTo _ _ _ (kK_23  ls (lv_sub hl [0, 1, 2, 5, 6] rfl) hf)
  replace hf := ze_s cn_ hf
  clear cn_
  refine lv_iload_n (pc := 19) hx hb (zdt_at zt_X10_refuses_0 10 rfl) rfl (lv_at hl 2 rfl) ?_
  refine lv_iconst (pc := 20) (v := (1 : Int32)) hx hb (zdt_at zt_X10_refuses_0 11 rfl) (by decide) ?_
  refine lv_iconst (pc := 21) (v := (2 : Int32)) hx hb (zdt_at zt_X10_refuses_0 12 rfl) (by decide) ?_
  replace hf := zb_s hf
  obtain ⟨r_26, hc_, hf⟩ := hf
  refine zcs (pc := 22) (rv := (some (.int r_26))) (va_runS (As := [.int p2, .int (1 : Int32), .int (2 : Int32)]) (rest := []) ⟨hx, hb, hml, hown, hts⟩ (c_X10_in l D cy tt s.heap.size p2 (1 : Int32) (2 : Int32) r_26 hc_) (va_cwS 3 hts gX10_refuses_X10_in rfl rfl rfl (by decide +kernel) ⟨Nat.le_of_ble_eq_true rfl, Nat.le_of_ble_eq_true rfl⟩) ⟨zblind, zpre hE hS (hP.sub [] rfl) (hD.sub [] (by decide) rfl) (va_free hD hS hA [] rfl)⟩ rfl rfl hl.1 rfl (lv_room (Nat.le_of_ble_eq_true rfl)) (zdt_at zt_X10_refuses_0 13 rfl) ⟨Nat.zero_le _, Nat.zero_le _⟩) ?_
  clear hc_
  refine W.eq (g2 := F0 m 25 ls [.int r_26]) rfl ?_
  refine lv_if_eq (pc := 25) (tgt := 52) hx hb (zdt_at zt_X10_refuses_0 14 rfl) (by decide) (fun cn_ => ?t_27) (fun cn_ => ?f_28)
  case t_27 =>
    replace hf := zt_s cn_ hf
    clear cn_
    exact hTo _ _ _ (kK_23  ls (lv_sub hl [0, 1, 2, 5, 6] rfl) hf)
  replace hf := ze_s cn_ hf
  clear cn_
  refine lv_iload_n (pc := 28) hx hb (zdt_at zt_X10_refuses_0 15 rfl) rfl (lv_at hl 3 rfl) ?_
  refine lv_iconst (pc := 29) (v := (0 : Int32)) hx hb (zdt_at zt_X10_refuses_0 16 rfl) (by decide) ?_
  refine lv_bipush (pc := 30) (v := (63 : Int32)) hx hb (zdt_at zt_X10_refuses_0 17 rfl) (by decide) ?_
  replace hf := zb_s hf
  obtain ⟨r_29, hc_, hf⟩ := hf
  refine zcs (pc := 32) (rv := (some (.int r_29))) (va_runS (As := [.int p3, .int (0 : Int32), .int (63 : Int32)]) (rest := []) ⟨hx, hb, hml, hown, hts⟩ (c_X10_in l D cy tt s.heap.size p3 (0 : Int32) (63 : Int32) r_29 hc_) (va_cwS 3 hts gX10_refuses_X10_in rfl rfl rfl (by decide +kernel) ⟨Nat.le_of_ble_eq_true rfl, Nat.le_of_ble_eq_true rfl⟩) ⟨zblind, zpre hE hS (hP.sub [] rfl) (hD.sub [] (by decide) rfl) (va_free hD hS hA [] rfl)⟩ rfl rfl hl.1 rfl (lv_room (Nat.le_of_ble_eq_true rfl)) (zdt_at zt_X10_refuses_0 18 rfl) ⟨Nat.zero_le _, Nat.zero_le _⟩) ?_
  clear hc_
  refine W.eq (g2 := F0 m 35 ls [.int r_29]) rfl ?_
  refine lv_if_eq (pc := 35) (tgt := 52) hx hb (zdt_at zt_X10_refuses_0 19 rfl) (by decide) (fun cn_ => ?t_30) (fun cn_ => ?f_31)
  case t_30 =>
    replace hf := zt_s cn_ hf
    clear cn_
    exact hTo _ _ _ (kK_23  ls (lv_sub hl [0, 1, 2, 5, 6] rfl) hf)
  replace hf := ze_s cn_ hf
  clear cn_
  refine lv_iload (pc := 38) hx hb (zdt_at zt_X10_refuses_0 20 rfl) (lv_at hl 4 rfl) ?_
  refine lv_iconst (pc := 40) (v := (1 : Int32)) hx hb (zdt_at zt_X10_refuses_0 21 rfl) (by decide) ?_
  refine lv_iconst (pc := 41) (v := (2 : Int32)) hx hb (zdt_at zt_X10_refuses_0 22 rfl) (by decide) ?_
  replace hf := zb_s hf
  obtain ⟨r_32, hc_, hf⟩ := hf
  refine zcs (pc := 42) (rv := (some (.int r_32))) (va_runS (As := [.int p4, .int (1 : Int32), .int (2 : Int32)]) (rest := []) ⟨hx, hb, hml, hown, hts⟩ (c_X10_in l D cy tt s.heap.size p4 (1 : Int32) (2 : Int32) r_32 hc_) (va_cwS 3 hts gX10_refuses_X10_in rfl rfl rfl (by decide +kernel) ⟨Nat.le_of_ble_eq_true rfl, Nat.le_of_ble_eq_true rfl⟩) ⟨zblind, zpre hE hS (hP.sub [] rfl) (hD.sub [] (by decide) rfl) (va_free hD hS hA [] rfl)⟩ rfl rfl hl.1 rfl (lv_room (Nat.le_of_ble_eq_true rfl)) (zdt_at zt_X10_refuses_0 23 rfl) ⟨Nat.zero_le _, Nat.zero_le _⟩) ?_
  clear hc_
  refine W.eq (g2 := F0 m 45 ls [.int r_32]) rfl ?_
  refine lv_if_eq (pc := 45) (tgt := 52) hx hb (zdt_at zt_X10_refuses_0 24 rfl) (by decide) (fun cn_ => ?t_33) (fun cn_ => ?f_34)
  case t_33 =>
    replace hf := zt_s cn_ hf
    clear cn_
    exact hTo _ _ _ (kK_23  ls (lv_sub hl [0, 1, 2, 5, 6] rfl) hf)
  replace hf := ze_s cn_ hf
  clear cn_
  refine lv_iconst (pc := 48) (v := (1 : Int32)) hx hb (zdt_at zt_X10_refuses_0 25 rfl) (by decide) ?_
  refine lv_goto (pc := 49) (tgt := 53) hx hb (zdt_at zt_X10_refuses_0 26 rfl) (by decide) ?_
  exact hTo _ _ _ (kK_6 _ ls (lv_sub hl [0, 1, 2, 5, 6] rfl) hf)
set_option maxHeartbeats 4000000 in
set_option maxRecDepth 100000 in
theorem c_X10_load (l : Launch) (D : va_G) (cy : Nat → ClassId) (tt : Nat → Nat) (sz : Nat) (h0 : Nat) (hm : Nat → Nat) (p1 : Int32) (p2 : Int32) (p3 : Int32) (p4 : Int32) (p5 : Int32) (p6 : Int32) (c_state : Int32) (c_thrown : Int32) (c_buffer : Nat → Int32) (c_counters : Nat → Int32) (c_holder : Nat → Int32) (c_keys : Nat → Int32) (c_kind : Nat → Int32) (c_length : Nat → Int32) (c_usage : Nat → Int32) (c_uses : Nat → Int32) (c_test : Int32) (c_words : Int32) (c_ill : Int32) (c_before : Int32) (c_inRow : Int32) (c_first : Int32) (c_inWindow : Int32) (c_same : Int32) (c_made : Int32) (c_requests : Int32) (c_total : Int64) (c_secrets : Int32) (c_rounds : Int32) (c_high : Int64) (c_low : Int64) (c_keyHigh : Int64) (c_keyLow : Int64) (r_ : Int32) (c_thrown' : Int32) (c_counters' : Nat → Int32) (c_holder' : Nat → Int32) (c_keys' : Nat → Int32) (c_kind' : Nat → Int32) (c_length' : Nat → Int32) (c_usage' : Nat → Int32) (c_uses' : Nat → Int32) (hf : f_X10_load p1 p2 p3 p4 p5 p6 c_state c_thrown c_buffer c_counters c_holder c_keys c_kind c_length c_usage c_uses = some (r_, c_thrown', c_counters', c_holder', c_keys', c_kind', c_length', c_usage', c_uses')) : Met l yX10_load wsX10_load ({ frames := 3, cells := 0, slots := 0, locals := 70 }) (zPc D cy tt sz [.ref h0, .int p1, .int p2, .int p3, .int p4, .int p5, .int p6] ([(h0, .inr (12, zmo hm c_thrown c_state c_test c_words c_ill c_before c_inRow c_first c_inWindow c_same c_made c_requests c_total c_secrets c_rounds c_high c_low c_keyHigh c_keyLow)), ((hm 6), .inl (cy 1, 512, .inl c_buffer)), ((hm 5), .inl (cy 1, 3, .inl c_counters)), ((hm 12), .inl (cy 1, 16, .inl c_holder)), ((hm 14), .inl (cy 1, 1024, .inl c_keys)), ((hm 9), .inl (cy 1, 16, .inl c_kind)), ((hm 10), .inl (cy 1, 16, .inl c_length)), ((hm 11), .inl (cy 1, 16, .inl c_usage)), ((hm 13), .inl (cy 1, 16, .inl c_uses))])) (zQ D (some (.int r_)) ([(h0, .inr (12, zmo hm c_thrown' c_state c_test c_words c_ill c_before c_inRow c_first c_inWindow c_same c_made c_requests c_total c_secrets c_rounds c_high c_low c_keyHigh c_keyLow)), ((hm 6), .inl (cy 1, 512, .inl c_buffer)), ((hm 5), .inl (cy 1, 3, .inl c_counters')), ((hm 12), .inl (cy 1, 16, .inl c_holder')), ((hm 14), .inl (cy 1, 1024, .inl c_keys')), ((hm 9), .inl (cy 1, 16, .inl c_kind')), ((hm 10), .inl (cy 1, 16, .inl c_length')), ((hm 11), .inl (cy 1, 16, .inl c_usage')), ((hm 13), .inl (cy 1, 16, .inl c_uses'))]) (va_A ([(h0, .inr (12, zmo hm c_thrown c_state c_test c_words c_ill c_before c_inRow c_first c_inWindow c_same c_made c_requests c_total c_secrets c_rounds c_high c_low c_keyHigh c_keyLow)), ((hm 6), .inl (cy 1, 512, .inl c_buffer)), ((hm 5), .inl (cy 1, 3, .inl c_counters)), ((hm 12), .inl (cy 1, 16, .inl c_holder)), ((hm 14), .inl (cy 1, 1024, .inl c_keys)), ((hm 9), .inl (cy 1, 16, .inl c_kind)), ((hm 10), .inl (cy 1, 16, .inl c_length)), ((hm 11), .inl (cy 1, 16, .inl c_usage)), ((hm 13), .inl (cy 1, 16, .inl c_uses))]) sz)) 0 0 (va_A ([(h0, .inr (12, zmo hm c_thrown c_state c_test c_words c_ill c_before c_inRow c_first c_inWindow c_same c_made c_requests c_total c_secrets c_rounds c_high c_low c_keyHigh c_keyLow)), ((hm 6), .inl (cy 1, 512, .inl c_buffer)), ((hm 5), .inl (cy 1, 3, .inl c_counters)), ((hm 12), .inl (cy 1, 16, .inl c_holder)), ((hm 14), .inl (cy 1, 1024, .inl c_keys)), ((hm 9), .inl (cy 1, 16, .inl c_kind)), ((hm 10), .inl (cy 1, 16, .inl c_length)), ((hm 11), .inl (cy 1, 16, .inl c_usage)), ((hm 13), .inl (cy 1, 16, .inl c_uses))]) sz) := by
  refine Met.ofW (cc := cX10_load) (maxL := 9) (ret := (some .int)) (by decide) rfl ?_
  intro p e s m args below meth c s₁ B hml hv
  obtain ⟨rfl, rfl, hP, hD0, hE⟩ := hv
  have hx := B.exec
  have hb := B.bytes
  have hr := B.returns
  have hts := atoms_spec (ws := wsX10_load) B.pre
  have hown : s.vm.findClass RX10 = some m.cls := findClass_of_methodNamed B.named
  have hlocks := B.notSynchronized
  clear B
  have hD := hD0.self (sz := s.heap.size)
  generalize hAe : va_A ([(h0, .inr (12, zmo hm c_thrown c_state c_test c_words c_ill c_before c_inRow c_first c_inWindow c_same c_made c_requests c_total c_secrets c_rounds c_high c_low c_keyHigh c_keyLow)), ((hm 6), .inl (cy 1, 512, .inl c_buffer)), ((hm 5), .inl (cy 1, 3, .inl c_counters)), ((hm 12), .inl (cy 1, 16, .inl c_holder)), ((hm 14), .inl (cy 1, 1024, .inl c_keys)), ((hm 9), .inl (cy 1, 16, .inl c_kind)), ((hm 10), .inl (cy 1, 16, .inl c_length)), ((hm 11), .inl (cy 1, 16, .inl c_usage)), ((hm 13), .inl (cy 1, 16, .inl c_uses))]) s.heap.size = A at hD hE ⊢
  have hA : ∀ q : Nat, s.heap.size ≤ q → A q := fun q h => by rw [← hAe]; exact Or.inr h
  clear hAe hD0
  have hS : va_S A s.heap s.heap [] := va_S.rf
  have hK := hE.1
  have hw0 := hts (.fieldLink RX10 189 "SealedModuleModel" "thrown" "I") (by decide +kernel)
  have hw1 := hts (.fieldLink RX10 108 "SealedModuleModel" "keys" "[I") (by decide +kernel)
  have hw2 := hts (.fieldLink RX10 84 "SealedModuleModel" "buffer" "[I") (by decide +kernel)
  have hcX10 : ∀ w ∈ u_ws RX10 TX10 52, w ∈ wsX10_load := (fun _ h => List.mem_cons_of_mem _ (List.mem_append_right _ h))
  have hl := lv_entry ([.ref h0, .int p1, .int p2, .int p3, .int p4, .int p5, .int p6]) (n := 9) (Nat.le_of_ble_eq_true rfl)
  rw [lg_entry_eq]
  generalize (lg_sl ([.ref h0, .int p1, .int p2, .int p3, .int p4, .int p5, .int p6]) ++ List.replicate (9 - (lg_sl ([.ref h0, .int p1, .int p2, .int p3, .int p4, .int p5, .int p6])).length) Slot.unset).toArray = ls at hl ⊢
  replace hl : lv_has ls 9 [(0, .ref h0), (1, .int p1), (2, .int p2), (3, .int p3), (4, .int p4), (5, .int p5), (6, .int p6)] := hl
  unfold f_X10_load at hf
  refine zgo (fun GW hTo hFr => ?_)
  refine hFr _ _ _ ?_
  obtain ⟨H, hHe⟩ : ∃ H, H = s.heap := ⟨_, rfl⟩
  obtain ⟨locs, hLe⟩ : ∃ L : List Loc, L = [] := ⟨_, rfl⟩
  rw [← hHe] at hP
  replace hS : va_S A s.heap H locs := by rw [hHe, hLe]; exact hS
  refine zat hHe.symm hLe.symm ?_
  clear hHe hLe
  refine lv_aload_n (pc := 0) hx hb (zdt_at zt_X10_load_0 0 rfl) rfl (lv_at hl 0 rfl) ?_
  refine lv_iconst (pc := 1) (v := (0 : Int32)) hx hb (zdt_at zt_X10_load_0 1 rfl) (by decide) ?_
  refine va_put (pc := 2) (D := D) (ci := 12) (v := .int (0 : Int32)) (ty := .int) (C := RX10) (T := TX10) (N := 52) hx hb hts hcX10 tyX10 tyX10_ok nmX10 hown hK hP hD hS 0 rfl rfl 1 (by decide) hw0 (fun _ h9 => h9) rfl (by decide +kernel) rfl rfl (Nat.le_of_ble_eq_true rfl) (zdt_at zt_X10_load_0 2 rfl) ?_
  clear hP hD hS
  intro H locs hP hD hS
  replace hP : va_P D vwCl ([(h0, .inr (12, zmo hm (0 : Int32) c_state c_test c_words c_ill c_before c_inRow c_first c_inWindow c_same c_made c_requests c_total c_secrets c_rounds c_high c_low c_keyHigh c_keyLow)), ((hm 6), .inl (cy 1, 512, .inl c_buffer)), ((hm 5), .inl (cy 1, 3, .inl c_counters)), ((hm 12), .inl (cy 1, 16, .inl c_holder)), ((hm 14), .inl (cy 1, 1024, .inl c_keys)), ((hm 9), .inl (cy 1, 16, .inl c_kind)), ((hm 10), .inl (cy 1, 16, .inl c_length)), ((hm 11), .inl (cy 1, 16, .inl c_usage)), ((hm 13), .inl (cy 1, 16, .inl c_uses))]) H := hP
  replace hD : va_D A ([(h0, .inr (12, zmo hm (0 : Int32) c_state c_test c_words c_ill c_before c_inRow c_first c_inWindow c_same c_made c_requests c_total c_secrets c_rounds c_high c_low c_keyHigh c_keyLow)), ((hm 6), .inl (cy 1, 512, .inl c_buffer)), ((hm 5), .inl (cy 1, 3, .inl c_counters)), ((hm 12), .inl (cy 1, 16, .inl c_holder)), ((hm 14), .inl (cy 1, 1024, .inl c_keys)), ((hm 9), .inl (cy 1, 16, .inl c_kind)), ((hm 10), .inl (cy 1, 16, .inl c_length)), ((hm 11), .inl (cy 1, 16, .inl c_usage)), ((hm 13), .inl (cy 1, 16, .inl c_uses))]) := hD
  refine lv_aload_n (pc := 5) hx hb (zdt_at zt_X10_load_0 3 rfl) rfl (lv_at hl 0 rfl) ?_
  refine lv_iload_n (pc := 6) hx hb (zdt_at zt_X10_load_0 4 rfl) rfl (lv_at hl 1 rfl) ?_
  refine lv_iload_n (pc := 7) hx hb (zdt_at zt_X10_load_0 5 rfl) rfl (lv_at hl 2 rfl) ?_
  refine lv_iload_n (pc := 8) hx hb (zdt_at zt_X10_load_0 6 rfl) rfl (lv_at hl 3 rfl) ?_
  refine lv_iload (pc := 9) hx hb (zdt_at zt_X10_load_0 7 rfl) (lv_at hl 4 rfl) ?_
  refine lv_iload (pc := 11) hx hb (zdt_at zt_X10_load_0 8 rfl) (lv_at hl 5 rfl) ?_
  refine lv_iload (pc := 13) hx hb (zdt_at zt_X10_load_0 9 rfl) (lv_at hl 6 rfl) ?_
  replace hf := zb_s hf
  obtain ⟨r_1, hc_, hf⟩ := hf
  refine zcs (pc := 15) (rv := (some (.int r_1))) (va_runV (As := [.int p1, .int p2, .int p3, .int p4, .int p5, .int p6]) (rest := []) ⟨hx, hb, hml, hown, hts⟩ (c_X10_refuses l D cy tt H.size h0 hm p1 p2 p3 p4 p5 p6 c_state c_kind (0 : Int32) c_test c_words c_ill c_before c_inRow c_first c_inWindow c_same c_made c_requests c_total c_secrets c_rounds c_high c_low c_keyHigh c_keyLow r_1 hc_) (cwV 6 hts gX10_load_X10_refuses rfl rfl rfl (by decide +kernel) ⟨Nat.le_of_ble_eq_true rfl, Nat.le_of_ble_eq_true rfl⟩) ⟨zblind, va_recv hK hP (ci := 12) (q0 := 0) rfl rfl, zpre hE hS (hP.sub [0, 5] rfl) (hD.sub [0, 5] (by decide) rfl) (va_free hD hS hA [0, 5] rfl)⟩ rfl rfl hl.1 rfl (lv_room (Nat.le_of_ble_eq_true rfl)) (zdt_at zt_X10_load_0 10 rfl) ⟨Nat.zero_le _, Nat.zero_le _⟩) ?_
  clear hc_
  refine W.eq (g2 := F0 m 18 ls [.int r_1]) rfl ?_
  refine lv_istore (pc := 18) (lv' := [(7, .int r_1), (0, .ref h0), (1, .int p1), (2, .int p2), (3, .int p3), (4, .int p4), (5, .int p5), (6, .int p6)]) hx hb (zdt_at zt_X10_load_0 11 rfl) hl (by decide) rfl ?_
  clear hl
  intro ls hl
  refine lv_iload (pc := 20) hx hb (zdt_at zt_X10_load_0 12 rfl) (lv_at hl 0 rfl) ?_
  refine lv_if_ge (pc := 22) (tgt := 32) hx hb (zdt_at zt_X10_load_0 13 rfl) (by decide) (fun cn_ => ?t_2) (fun cn_ => ?f_3)
  case f_3 =>
    replace hf := ze_s cn_ hf
    clear cn_
    refine lv_aload_n (pc := 25) hx hb (zdt_at zt_X10_load_0 14 rfl) rfl (lv_at hl 1 rfl) ?_
    refine lv_iload (pc := 26) hx hb (zdt_at zt_X10_load_0 15 rfl) (lv_at hl 0 rfl) ?_
    replace hf := zb_s hf
    obtain ⟨⟨r_19, c_counters_20⟩, hc_, hf⟩ := hf
    refine zcn2 (pc := 28) (rv := (some (.int r_19))) (va_runV (As := [.int r_1]) (rest := []) ⟨hx, hb, hml, hown, hts⟩ (c_X10_answer l D cy tt H.size h0 hm r_1 c_counters (0 : Int32) c_state c_test c_words c_ill c_before c_inRow c_first c_inWindow c_same c_made c_requests c_total c_secrets c_rounds c_high c_low c_keyHigh c_keyLow r_19 c_counters_20 hc_) (cwV 1 hts gX10_load_X10_answer rfl rfl rfl (by decide +kernel) ⟨Nat.le_of_ble_eq_true rfl, Nat.le_of_ble_eq_true rfl⟩) ⟨zblind, va_recv hK hP (ci := 12) (q0 := 0) rfl rfl, zpre hE hS (hP.sub [0, 2] rfl) (hD.sub [0, 2] (by decide) rfl) (va_free hD hS hA [0, 2] rfl)⟩ rfl rfl hl.1 rfl (lv_room (Nat.le_of_ble_eq_true rfl)) (zdt_at zt_X10_load_0 16 rfl) ⟨Nat.zero_le _, Nat.zero_le _⟩) hS hP hD (va_free hD hS hA [0, 2] rfl) [0, 2] rfl (by decide) rfl ?_
    clear hP hD hS hc_
    intro H locs hP hD hS
    replace hP : va_P D vwCl ([(h0, .inr (12, zmo hm (0 : Int32) c_state c_test c_words c_ill c_before c_inRow c_first c_inWindow c_same c_made c_requests c_total c_secrets c_rounds c_high c_low c_keyHigh c_keyLow)), ((hm 6), .inl (cy 1, 512, .inl c_buffer)), ((hm 5), .inl (cy 1, 3, .inl c_counters_20)), ((hm 12), .inl (cy 1, 16, .inl c_holder)), ((hm 14), .inl (cy 1, 1024, .inl c_keys)), ((hm 9), .inl (cy 1, 16, .inl c_kind)), ((hm 10), .inl (cy 1, 16, .inl c_length)), ((hm 11), .inl (cy 1, 16, .inl c_usage)), ((hm 13), .inl (cy 1, 16, .inl c_uses))]) H := hP
    replace hD : va_D A ([(h0, .inr (12, zmo hm (0 : Int32) c_state c_test c_words c_ill c_before c_inRow c_first c_inWindow c_same c_made c_requests c_total c_secrets c_rounds c_high c_low c_keyHigh c_keyLow)), ((hm 6), .inl (cy 1, 512, .inl c_buffer)), ((hm 5), .inl (cy 1, 3, .inl c_counters_20)), ((hm 12), .inl (cy 1, 16, .inl c_holder)), ((hm 14), .inl (cy 1, 1024, .inl c_keys)), ((hm 9), .inl (cy 1, 16, .inl c_kind)), ((hm 10), .inl (cy 1, 16, .inl c_length)), ((hm 11), .inl (cy 1, 16, .inl c_usage)), ((hm 13), .inl (cy 1, 16, .inl c_uses))]) := hD
    refine W.eq (g2 := F0 m 31 ls [.int r_19]) rfl ?_
    cases hf
    exact W.iret (pc := 31) hx hb hr (fun t ht hW => ⟨rfl, ⟨by rw [ht]; exact hP, hD⟩, hS.F ht⟩) hS.2.2 (zdt_at zt_X10_load_0 17 rfl)
  replace hf := zt_s cn_ hf
  clear cn_
  refine lv_aload_n (pc := 32) hx hb (zdt_at zt_X10_load_0 18 rfl) rfl (lv_at hl 1 rfl) ?_
  refine lv_iload_n (pc := 33) hx hb (zdt_at zt_X10_load_0 19 rfl) rfl (lv_at hl 2 rfl) ?_
  refine lv_iload_n (pc := 34) hx hb (zdt_at zt_X10_load_0 20 rfl) rfl (lv_at hl 3 rfl) ?_
  refine lv_iload_n (pc := 35) hx hb (zdt_at zt_X10_load_0 21 rfl) rfl (lv_at hl 4 rfl) ?_
  refine lv_iload (pc := 36) hx hb (zdt_at zt_X10_load_0 22 rfl) (lv_at hl 5 rfl) ?_
  refine lv_iload (pc := 38) hx hb (zdt_at zt_X10_load_0 23 rfl) (lv_at hl 6 rfl) ?_
  refine lv_iload (pc := 40) hx hb (zdt_at zt_X10_load_0 24 rfl) (lv_at hl 7 rfl) ?_
  replace hf := zb_s hf
  obtain ⟨⟨c_holder_4, c_kind_5, c_length_6, c_usage_7, c_uses_8⟩, hc_, hf⟩ := hf
  refine zcn2 (pc := 42) (rv := none) (va_runV (As := [.int p1, .int p2, .int p3, .int p4, .int p5, .int p6]) (rest := []) ⟨hx, hb, hml, hown, hts⟩ (c_X10_fill l D cy tt H.size h0 hm p1 p2 p3 p4 p5 p6 c_holder c_kind c_length c_usage c_uses (0 : Int32) c_state c_test c_words c_ill c_before c_inRow c_first c_inWindow c_same c_made c_requests c_total c_secrets c_rounds c_high c_low c_keyHigh c_keyLow c_holder_4 c_kind_5 c_length_6 c_usage_7 c_uses_8 hc_) (cwV 6 hts gX10_load_X10_fill rfl rfl rfl (by decide +kernel) ⟨Nat.le_of_ble_eq_true rfl, Nat.le_of_ble_eq_true rfl⟩) ⟨zblind, va_recv hK hP (ci := 12) (q0 := 0) rfl rfl, zpre hE hS (hP.sub [0, 3, 5, 6, 7, 8] rfl) (hD.sub [0, 3, 5, 6, 7, 8] (by decide) rfl) (va_free hD hS hA [0, 3, 5, 6, 7, 8] rfl)⟩ rfl rfl hl.1 rfl (lv_room (Nat.le_of_ble_eq_true rfl)) (zdt_at zt_X10_load_0 25 rfl) ⟨Nat.zero_le _, Nat.zero_le _⟩) hS hP hD (va_free hD hS hA [0, 3, 5, 6, 7, 8] rfl) [0, 3, 5, 6, 7, 8] rfl (by decide) rfl ?_
  clear hP hD hS hc_
  intro H locs hP hD hS
  replace hP : va_P D vwCl ([(h0, .inr (12, zmo hm (0 : Int32) c_state c_test c_words c_ill c_before c_inRow c_first c_inWindow c_same c_made c_requests c_total c_secrets c_rounds c_high c_low c_keyHigh c_keyLow)), ((hm 6), .inl (cy 1, 512, .inl c_buffer)), ((hm 5), .inl (cy 1, 3, .inl c_counters)), ((hm 12), .inl (cy 1, 16, .inl c_holder_4)), ((hm 14), .inl (cy 1, 1024, .inl c_keys)), ((hm 9), .inl (cy 1, 16, .inl c_kind_5)), ((hm 10), .inl (cy 1, 16, .inl c_length_6)), ((hm 11), .inl (cy 1, 16, .inl c_usage_7)), ((hm 13), .inl (cy 1, 16, .inl c_uses_8))]) H := hP
  replace hD : va_D A ([(h0, .inr (12, zmo hm (0 : Int32) c_state c_test c_words c_ill c_before c_inRow c_first c_inWindow c_same c_made c_requests c_total c_secrets c_rounds c_high c_low c_keyHigh c_keyLow)), ((hm 6), .inl (cy 1, 512, .inl c_buffer)), ((hm 5), .inl (cy 1, 3, .inl c_counters)), ((hm 12), .inl (cy 1, 16, .inl c_holder_4)), ((hm 14), .inl (cy 1, 1024, .inl c_keys)), ((hm 9), .inl (cy 1, 16, .inl c_kind_5)), ((hm 10), .inl (cy 1, 16, .inl c_length_6)), ((hm 11), .inl (cy 1, 16, .inl c_usage_7)), ((hm 13), .inl (cy 1, 16, .inl c_uses_8))]) := hD
  refine W.eq (g2 := F0 m 45 ls []) rfl ?_
  refine lv_iconst (pc := 45) (v := (0 : Int32)) hx hb (zdt_at zt_X10_load_0 26 rfl) (by decide) ?_
  refine lv_istore (pc := 46) (lv' := [(8, .int (0 : Int32)), (7, .int r_1), (0, .ref h0), (1, .int p1), (2, .int p2), (3, .int p3), (4, .int p4), (5, .int p5), (6, .int p6)]) hx hb (zdt_at zt_X10_load_0 27 rfl) hl (by decide) rfl ?_
  clear hl
  intro ls hl
  replace hf := zj_s hf
  obtain ⟨K_12, eK_12, hf⟩ := hf
  have kK_12 : ∀ (c_keys_11 : Nat → Int32) (H : Heap) (locs : List Loc) (ls : Array Slot), va_P D vwCl ([(h0, .inr (12, zmo hm (0 : Int32) c_state c_test c_words c_ill c_before c_inRow c_first c_inWindow c_same c_made c_requests c_total c_secrets c_rounds c_high c_low c_keyHigh c_keyLow)), ((hm 6), .inl (cy 1, 512, .inl c_buffer)), ((hm 5), .inl (cy 1, 3, .inl c_counters)), ((hm 12), .inl (cy 1, 16, .inl c_holder_4)), ((hm 14), .inl (cy 1, 1024, .inl c_keys_11)), ((hm 9), .inl (cy 1, 16, .inl c_kind_5)), ((hm 10), .inl (cy 1, 16, .inl c_length_6)), ((hm 11), .inl (cy 1, 16, .inl c_usage_7)), ((hm 13), .inl (cy 1, 16, .inl c_uses_8))]) H → va_D A ([(h0, .inr (12, zmo hm (0 : Int32) c_state c_test c_words c_ill c_before c_inRow c_first c_inWindow c_same c_made c_requests c_total c_secrets c_rounds c_high c_low c_keyHigh c_keyLow)), ((hm 6), .inl (cy 1, 512, .inl c_buffer)), ((hm 5), .inl (cy 1, 3, .inl c_counters)), ((hm 12), .inl (cy 1, 16, .inl c_holder_4)), ((hm 14), .inl (cy 1, 1024, .inl c_keys_11)), ((hm 9), .inl (cy 1, 16, .inl c_kind_5)), ((hm 10), .inl (cy 1, 16, .inl c_length_6)), ((hm 11), .inl (cy 1, 16, .inl c_usage_7)), ((hm 13), .inl (cy 1, 16, .inl c_uses_8))]) → va_S A s.heap H locs → lv_has ls 9 [(0, .ref h0)] → K_12 c_keys_11 = some (r_, c_thrown', c_counters', c_holder', c_keys', c_kind', c_length', c_usage', c_uses') → GW H locs (F0 m 80 ls []) := by
    clear hf hl hP hD hS
    intro c_keys_11 H locs ls hP hD hS hl hf
    rw [eK_12] at hf
    clear eK_12
    refine hFr _ _ _ ?_
    refine lv_aload_n (pc := 80) hx hb (zdt_at zt_X10_load_0 45 rfl) rfl (lv_at hl 0 rfl) ?_
    refine lv_iconst (pc := 81) (v := (0 : Int32)) hx hb (zdt_at zt_X10_load_0 46 rfl) (by decide) ?_
    replace hf := zb_s hf
    obtain ⟨⟨r_13, c_counters_14⟩, hc_, hf⟩ := hf
    refine zcn2 (pc := 82) (rv := (some (.int r_13))) (va_runV (As := [.int (0 : Int32)]) (rest := []) ⟨hx, hb, hml, hown, hts⟩ (c_X10_answer l D cy tt H.size h0 hm (0 : Int32) c_counters (0 : Int32) c_state c_test c_words c_ill c_before c_inRow c_first c_inWindow c_same c_made c_requests c_total c_secrets c_rounds c_high c_low c_keyHigh c_keyLow r_13 c_counters_14 hc_) (cwV 1 hts gX10_load_X10_answer rfl rfl rfl (by decide +kernel) ⟨Nat.le_of_ble_eq_true rfl, Nat.le_of_ble_eq_true rfl⟩) ⟨zblind, va_recv hK hP (ci := 12) (q0 := 0) rfl rfl, zpre hE hS (hP.sub [0, 2] rfl) (hD.sub [0, 2] (by decide) rfl) (va_free hD hS hA [0, 2] rfl)⟩ rfl rfl hl.1 rfl (lv_room (Nat.le_of_ble_eq_true rfl)) (zdt_at zt_X10_load_0 47 rfl) ⟨Nat.zero_le _, Nat.zero_le _⟩) hS hP hD (va_free hD hS hA [0, 2] rfl) [0, 2] rfl (by decide) rfl ?_
    clear hP hD hS hc_
    intro H locs hP hD hS
    replace hP : va_P D vwCl ([(h0, .inr (12, zmo hm (0 : Int32) c_state c_test c_words c_ill c_before c_inRow c_first c_inWindow c_same c_made c_requests c_total c_secrets c_rounds c_high c_low c_keyHigh c_keyLow)), ((hm 6), .inl (cy 1, 512, .inl c_buffer)), ((hm 5), .inl (cy 1, 3, .inl c_counters_14)), ((hm 12), .inl (cy 1, 16, .inl c_holder_4)), ((hm 14), .inl (cy 1, 1024, .inl c_keys_11)), ((hm 9), .inl (cy 1, 16, .inl c_kind_5)), ((hm 10), .inl (cy 1, 16, .inl c_length_6)), ((hm 11), .inl (cy 1, 16, .inl c_usage_7)), ((hm 13), .inl (cy 1, 16, .inl c_uses_8))]) H := hP
    replace hD : va_D A ([(h0, .inr (12, zmo hm (0 : Int32) c_state c_test c_words c_ill c_before c_inRow c_first c_inWindow c_same c_made c_requests c_total c_secrets c_rounds c_high c_low c_keyHigh c_keyLow)), ((hm 6), .inl (cy 1, 512, .inl c_buffer)), ((hm 5), .inl (cy 1, 3, .inl c_counters_14)), ((hm 12), .inl (cy 1, 16, .inl c_holder_4)), ((hm 14), .inl (cy 1, 1024, .inl c_keys_11)), ((hm 9), .inl (cy 1, 16, .inl c_kind_5)), ((hm 10), .inl (cy 1, 16, .inl c_length_6)), ((hm 11), .inl (cy 1, 16, .inl c_usage_7)), ((hm 13), .inl (cy 1, 16, .inl c_uses_8))]) := hD
    refine W.eq (g2 := F0 m 85 ls [.int r_13]) rfl ?_
    cases hf
    exact W.iret (pc := 85) hx hb hr (fun t ht hW => ⟨rfl, ⟨by rw [ht]; exact hP, hD⟩, hS.F ht⟩) hS.2.2 (zdt_at zt_X10_load_0 48 rfl)
  clear eK_12
  refine hTo _ _ _ (zl_go (fun z => match z with | (i_9, c_keys_10) => ∀ (H : Heap) (locs : List Loc) (ls : Array Slot), va_P D vwCl ([(h0, .inr (12, zmo hm (0 : Int32) c_state c_test c_words c_ill c_before c_inRow c_first c_inWindow c_same c_made c_requests c_total c_secrets c_rounds c_high c_low c_keyHigh c_keyLow)), ((hm 6), .inl (cy 1, 512, .inl c_buffer)), ((hm 5), .inl (cy 1, 3, .inl c_counters)), ((hm 12), .inl (cy 1, 16, .inl c_holder_4)), ((hm 14), .inl (cy 1, 1024, .inl c_keys_10)), ((hm 9), .inl (cy 1, 16, .inl c_kind_5)), ((hm 10), .inl (cy 1, 16, .inl c_length_6)), ((hm 11), .inl (cy 1, 16, .inl c_usage_7)), ((hm 13), .inl (cy 1, 16, .inl c_uses_8))]) H → va_D A ([(h0, .inr (12, zmo hm (0 : Int32) c_state c_test c_words c_ill c_before c_inRow c_first c_inWindow c_same c_made c_requests c_total c_secrets c_rounds c_high c_low c_keyHigh c_keyLow)), ((hm 6), .inl (cy 1, 512, .inl c_buffer)), ((hm 5), .inl (cy 1, 3, .inl c_counters)), ((hm 12), .inl (cy 1, 16, .inl c_holder_4)), ((hm 14), .inl (cy 1, 1024, .inl c_keys_10)), ((hm 9), .inl (cy 1, 16, .inl c_kind_5)), ((hm 10), .inl (cy 1, 16, .inl c_length_6)), ((hm 11), .inl (cy 1, 16, .inl c_usage_7)), ((hm 13), .inl (cy 1, 16, .inl c_uses_8))]) → va_S A s.heap H locs → lv_has ls 9 [(0, .ref h0), (1, .int p1), (6, .int p6), (8, .int i_9)] → GW H locs (F0 m 48 ls [])) hf ?_ H locs ls hP hD hS (lv_sub hl [2, 3, 8, 0] rfl))
  clear hf hl hP hD hS
  intro self_15 ihself_15 z hf
  obtain ⟨i_9, c_keys_10⟩ := z
  intro H locs ls hP hD hS hl
  refine hFr _ _ _ ?_
  unfold b_X10_load_48 at hf
  refine lv_iload (pc := 48) hx hb (zdt_at zt_X10_load_0 28 rfl) (lv_at hl 3 rfl) ?_
  refine lv_iload (pc := 50) hx hb (zdt_at zt_X10_load_0 29 rfl) (lv_at hl 2 rfl) ?_
  refine lv_icmp_ge (pc := 52) (tgt := 80) hx hb (zdt_at zt_X10_load_0 30 rfl) (by decide) (fun cn_ => ?t_16) (fun cn_ => ?f_17)
  case t_16 =>
    replace hf := zt_s cn_ hf
    clear cn_
    exact hTo _ _ _ (kK_12 _ H locs ls hP hD hS (lv_sub hl [0] rfl) hf)
  replace hf := ze_s cn_ hf
  clear cn_
  refine lv_aload_n (pc := 55) hx hb (zdt_at zt_X10_load_0 31 rfl) rfl (lv_at hl 0 rfl) ?_
  refine va_get (pc := 56) (D := D) (ci := 12) (v := .ref (hm 14)) (C := RX10) (T := TX10) (N := 52) hx hb hts hcX10 hown hK hP 0 rfl rfl 14 (by decide) hw1 (fun _ h9 => h9) rfl (zdt_at zt_X10_load_0 32 rfl) ?_
  refine lv_bipush (pc := 59) (v := (64 : Int32)) hx hb (zdt_at zt_X10_load_0 33 rfl) (by decide) ?_
  refine lv_iload_n (pc := 61) hx hb (zdt_at zt_X10_load_0 34 rfl) rfl (lv_at hl 1 rfl) ?_
  refine lv_imul (pc := 62) hx hb (zdt_at zt_X10_load_0 35 rfl) ?_
  refine lv_iload (pc := 63) hx hb (zdt_at zt_X10_load_0 36 rfl) (lv_at hl 3 rfl) ?_
  refine lv_iadd (pc := 65) hx hb (zdt_at zt_X10_load_0 37 rfl) ?_
  refine lv_aload_n (pc := 66) hx hb (zdt_at zt_X10_load_0 38 rfl) rfl (lv_at hl 0 rfl) ?_
  refine va_get (pc := 67) (D := D) (ci := 12) (v := .ref (hm 6)) (C := RX10) (T := TX10) (N := 52) hx hb hts hcX10 hown hK hP 0 rfl rfl 6 (by decide) hw2 (fun _ h9 => h9) rfl (zdt_at zt_X10_load_0 39 rfl) ?_
  refine lv_iload (pc := 70) hx hb (zdt_at zt_X10_load_0 40 rfl) (lv_at hl 3 rfl) ?_
  replace hf := zk_s hf
  refine va_iald (pc := 72) hx hb hK hP 1 1 rfl rfl hf.1 (zdt_at zt_X10_load_0 41 rfl) ?_
  replace hf := hf.2
  replace hf := zk_s hf
  refine va_iast (pc := 73) hx hb hK hP hD hS 4 1 rfl rfl hf.1 (zdt_at zt_X10_load_0 42 rfl) ?_
  replace hf := hf.2
  clear hP hD hS
  intro H locs hP hD hS
  obtain ⟨c_keys_18, e_⟩ : ∃ q : Nat → Int32, q = (upd c_keys_10 (((64 : Int32) * p1) + i_9).toNatClampNeg (c_buffer i_9.toNatClampNeg)) := ⟨_, rfl⟩
  replace hf := zn_s hf e_
  replace hP : va_P D vwCl ([(h0, .inr (12, zmo hm (0 : Int32) c_state c_test c_words c_ill c_before c_inRow c_first c_inWindow c_same c_made c_requests c_total c_secrets c_rounds c_high c_low c_keyHigh c_keyLow)), ((hm 6), .inl (cy 1, 512, .inl c_buffer)), ((hm 5), .inl (cy 1, 3, .inl c_counters)), ((hm 12), .inl (cy 1, 16, .inl c_holder_4)), ((hm 14), .inl (cy 1, 1024, .inl c_keys_18)), ((hm 9), .inl (cy 1, 16, .inl c_kind_5)), ((hm 10), .inl (cy 1, 16, .inl c_length_6)), ((hm 11), .inl (cy 1, 16, .inl c_usage_7)), ((hm 13), .inl (cy 1, 16, .inl c_uses_8))]) H := by rw [e_]; exact hP
  replace hD : va_D A ([(h0, .inr (12, zmo hm (0 : Int32) c_state c_test c_words c_ill c_before c_inRow c_first c_inWindow c_same c_made c_requests c_total c_secrets c_rounds c_high c_low c_keyHigh c_keyLow)), ((hm 6), .inl (cy 1, 512, .inl c_buffer)), ((hm 5), .inl (cy 1, 3, .inl c_counters)), ((hm 12), .inl (cy 1, 16, .inl c_holder_4)), ((hm 14), .inl (cy 1, 1024, .inl c_keys_18)), ((hm 9), .inl (cy 1, 16, .inl c_kind_5)), ((hm 10), .inl (cy 1, 16, .inl c_length_6)), ((hm 11), .inl (cy 1, 16, .inl c_usage_7)), ((hm 13), .inl (cy 1, 16, .inl c_uses_8))]) := by rw [e_]; exact hD
  clear e_
  refine lv_iinc (pc := 74) (v := (i_9 + (1 : Int32))) (lv' := [(8, .int (i_9 + (1 : Int32))), (0, .ref h0), (1, .int p1), (6, .int p6)]) hx hb (zdt_at zt_X10_load_0 43 rfl) hl (k := 3) rfl rfl (by decide) rfl ?_
  clear hl
  intro ls hl
  refine lv_goto (pc := 77) (tgt := 48) hx hb (zdt_at zt_X10_load_0 44 rfl) (by decide) ?_
  exact hTo _ _ _ (ihself_15 _ hf H locs ls hP hD hS (lv_sub hl [1, 2, 3, 0] rfl))
set_option maxHeartbeats 4000000 in
set_option maxRecDepth 100000 in
theorem c_X10_make (l : Launch) (D : va_G) (cy : Nat → ClassId) (tt : Nat → Nat) (sz : Nat) (h0 : Nat) (hm : Nat → Nat) (p1 : Int32) (p2 : Int32) (p3 : Int32) (p4 : Int32) (p5 : Int32) (p6 : Int32) (c_ill : Int32) (c_made : Int32) (c_requests : Int32) (c_secrets : Int32) (c_state : Int32) (c_thrown : Int32) (c_total : Int64) (c_words : Int32) (c_ROUND : Nat → Int32) (c_START : Nat → Int32) (c_buffer : Nat → Int32) (c_counters : Nat → Int32) (c_digest : Nat → Int32) (c_h : Nat → Int32) (c_holder : Nat → Int32) (c_inner : Nat → Int32) (c_k : Nat → Int32) (c_keys : Nat → Int32) (c_kind : Nat → Int32) (c_length : Nat → Int32) (c_message : Nat → Int32) (c_result : Nat → Int32) (c_secret : Nat → Int32) (c_usage : Nat → Int32) (c_uses : Nat → Int32) (c_v : Nat → Int32) (c_w : Nat → Int32) (c_word : Nat → Int32) (c_x : Nat → Int32) (c_test : Int32) (c_before : Int32) (c_inRow : Int32) (c_first : Int32) (c_inWindow : Int32) (c_same : Int32) (c_rounds : Int32) (c_high : Int64) (c_low : Int64) (c_keyHigh : Int64) (c_keyLow : Int64) (r_ : Int32) (c_made' : Int32) (c_requests' : Int32) (c_secrets' : Int32) (c_thrown' : Int32) (c_total' : Int64) (c_words' : Int32) (c_counters' : Nat → Int32) (c_digest' : Nat → Int32) (c_h' : Nat → Int32) (c_holder' : Nat → Int32) (c_inner' : Nat → Int32) (c_k' : Nat → Int32) (c_keys' : Nat → Int32) (c_kind' : Nat → Int32) (c_length' : Nat → Int32) (c_message' : Nat → Int32) (c_result' : Nat → Int32) (c_secret' : Nat → Int32) (c_usage' : Nat → Int32) (c_uses' : Nat → Int32) (c_v' : Nat → Int32) (c_w' : Nat → Int32) (c_word' : Nat → Int32) (c_x' : Nat → Int32) (hf : f_X10_make p1 p2 p3 p4 p5 p6 c_ill c_made c_requests c_secrets c_state c_thrown c_total c_words c_ROUND c_START c_buffer c_counters c_digest c_h c_holder c_inner c_k c_keys c_kind c_length c_message c_result c_secret c_usage c_uses c_v c_w c_word c_x = some (r_, c_made', c_requests', c_secrets', c_thrown', c_total', c_words', c_counters', c_digest', c_h', c_holder', c_inner', c_k', c_keys', c_kind', c_length', c_message', c_result', c_secret', c_usage', c_uses', c_v', c_w', c_word', c_x')) : Met l yX10_make wsX10_make ({ frames := 8, cells := 0, slots := 0, locals := 177 }) (zPc D cy tt sz [.ref h0, .int p1, .int p2, .int p3, .int p4, .int p5, .int p6] ([(h0, .inr (12, zmo hm c_thrown c_state c_test c_words c_ill c_before c_inRow c_first c_inWindow c_same c_made c_requests c_total c_secrets c_rounds c_high c_low c_keyHigh c_keyLow)), ((hm 0), .inl (cy 1, 64, .inl c_ROUND)), ((hm 47), .inl (cy 1, 8, .inl c_START)), ((hm 6), .inl (cy 1, 512, .inl c_buffer)), ((hm 5), .inl (cy 1, 3, .inl c_counters)), ((hm 35), .inl (cy 1, 32, .inl c_digest)), ((hm 30), .inl (cy 1, 8, .inl c_h)), ((hm 12), .inl (cy 1, 16, .inl c_holder)), ((hm 36), .inl (cy 1, 32, .inl c_inner)), ((hm 25), .inl (cy 1, 32, .inl c_k)), ((hm 14), .inl (cy 1, 1024, .inl c_keys)), ((hm 9), .inl (cy 1, 16, .inl c_kind)), ((hm 10), .inl (cy 1, 16, .inl c_length)), ((hm 33), .inl (cy 1, 64, .inl c_message)), ((hm 45), .inl (cy 1, 600, .inl c_result)), ((hm 37), .inl (cy 1, 64, .inl c_secret)), ((hm 11), .inl (cy 1, 16, .inl c_usage)), ((hm 13), .inl (cy 1, 16, .inl c_uses)), ((hm 26), .inl (cy 1, 32, .inl c_v)), ((hm 31), .inl (cy 1, 64, .inl c_w)), ((hm 16), .inl (cy 1, 64, .inl c_word)), ((hm 32), .inl (cy 1, 8, .inl c_x))])) (zQ D (some (.int r_)) ([(h0, .inr (12, zmo hm c_thrown' c_state c_test c_words' c_ill c_before c_inRow c_first c_inWindow c_same c_made' c_requests' c_total' c_secrets' c_rounds c_high c_low c_keyHigh c_keyLow)), ((hm 0), .inl (cy 1, 64, .inl c_ROUND)), ((hm 47), .inl (cy 1, 8, .inl c_START)), ((hm 6), .inl (cy 1, 512, .inl c_buffer)), ((hm 5), .inl (cy 1, 3, .inl c_counters')), ((hm 35), .inl (cy 1, 32, .inl c_digest')), ((hm 30), .inl (cy 1, 8, .inl c_h')), ((hm 12), .inl (cy 1, 16, .inl c_holder')), ((hm 36), .inl (cy 1, 32, .inl c_inner')), ((hm 25), .inl (cy 1, 32, .inl c_k')), ((hm 14), .inl (cy 1, 1024, .inl c_keys')), ((hm 9), .inl (cy 1, 16, .inl c_kind')), ((hm 10), .inl (cy 1, 16, .inl c_length')), ((hm 33), .inl (cy 1, 64, .inl c_message')), ((hm 45), .inl (cy 1, 600, .inl c_result')), ((hm 37), .inl (cy 1, 64, .inl c_secret')), ((hm 11), .inl (cy 1, 16, .inl c_usage')), ((hm 13), .inl (cy 1, 16, .inl c_uses')), ((hm 26), .inl (cy 1, 32, .inl c_v')), ((hm 31), .inl (cy 1, 64, .inl c_w')), ((hm 16), .inl (cy 1, 64, .inl c_word')), ((hm 32), .inl (cy 1, 8, .inl c_x'))]) (va_A ([(h0, .inr (12, zmo hm c_thrown c_state c_test c_words c_ill c_before c_inRow c_first c_inWindow c_same c_made c_requests c_total c_secrets c_rounds c_high c_low c_keyHigh c_keyLow)), ((hm 0), .inl (cy 1, 64, .inl c_ROUND)), ((hm 47), .inl (cy 1, 8, .inl c_START)), ((hm 6), .inl (cy 1, 512, .inl c_buffer)), ((hm 5), .inl (cy 1, 3, .inl c_counters)), ((hm 35), .inl (cy 1, 32, .inl c_digest)), ((hm 30), .inl (cy 1, 8, .inl c_h)), ((hm 12), .inl (cy 1, 16, .inl c_holder)), ((hm 36), .inl (cy 1, 32, .inl c_inner)), ((hm 25), .inl (cy 1, 32, .inl c_k)), ((hm 14), .inl (cy 1, 1024, .inl c_keys)), ((hm 9), .inl (cy 1, 16, .inl c_kind)), ((hm 10), .inl (cy 1, 16, .inl c_length)), ((hm 33), .inl (cy 1, 64, .inl c_message)), ((hm 45), .inl (cy 1, 600, .inl c_result)), ((hm 37), .inl (cy 1, 64, .inl c_secret)), ((hm 11), .inl (cy 1, 16, .inl c_usage)), ((hm 13), .inl (cy 1, 16, .inl c_uses)), ((hm 26), .inl (cy 1, 32, .inl c_v)), ((hm 31), .inl (cy 1, 64, .inl c_w)), ((hm 16), .inl (cy 1, 64, .inl c_word)), ((hm 32), .inl (cy 1, 8, .inl c_x))]) sz)) 0 0 (va_A ([(h0, .inr (12, zmo hm c_thrown c_state c_test c_words c_ill c_before c_inRow c_first c_inWindow c_same c_made c_requests c_total c_secrets c_rounds c_high c_low c_keyHigh c_keyLow)), ((hm 0), .inl (cy 1, 64, .inl c_ROUND)), ((hm 47), .inl (cy 1, 8, .inl c_START)), ((hm 6), .inl (cy 1, 512, .inl c_buffer)), ((hm 5), .inl (cy 1, 3, .inl c_counters)), ((hm 35), .inl (cy 1, 32, .inl c_digest)), ((hm 30), .inl (cy 1, 8, .inl c_h)), ((hm 12), .inl (cy 1, 16, .inl c_holder)), ((hm 36), .inl (cy 1, 32, .inl c_inner)), ((hm 25), .inl (cy 1, 32, .inl c_k)), ((hm 14), .inl (cy 1, 1024, .inl c_keys)), ((hm 9), .inl (cy 1, 16, .inl c_kind)), ((hm 10), .inl (cy 1, 16, .inl c_length)), ((hm 33), .inl (cy 1, 64, .inl c_message)), ((hm 45), .inl (cy 1, 600, .inl c_result)), ((hm 37), .inl (cy 1, 64, .inl c_secret)), ((hm 11), .inl (cy 1, 16, .inl c_usage)), ((hm 13), .inl (cy 1, 16, .inl c_uses)), ((hm 26), .inl (cy 1, 32, .inl c_v)), ((hm 31), .inl (cy 1, 64, .inl c_w)), ((hm 16), .inl (cy 1, 64, .inl c_word)), ((hm 32), .inl (cy 1, 8, .inl c_x))]) sz) := by
  refine Met.ofW (cc := cX10_make) (maxL := 9) (ret := (some .int)) (by decide) rfl ?_
  intro p e s m args below meth c s₁ B hml hv
  obtain ⟨rfl, rfl, hP, hD0, hE⟩ := hv
  have hx := B.exec
  have hb := B.bytes
  have hr := B.returns
  have hts := atoms_spec (ws := wsX10_make) B.pre
  have hown : s.vm.findClass RX10 = some m.cls := findClass_of_methodNamed B.named
  have hlocks := B.notSynchronized
  clear B
  have hD := hD0.self (sz := s.heap.size)
  generalize hAe : va_A ([(h0, .inr (12, zmo hm c_thrown c_state c_test c_words c_ill c_before c_inRow c_first c_inWindow c_same c_made c_requests c_total c_secrets c_rounds c_high c_low c_keyHigh c_keyLow)), ((hm 0), .inl (cy 1, 64, .inl c_ROUND)), ((hm 47), .inl (cy 1, 8, .inl c_START)), ((hm 6), .inl (cy 1, 512, .inl c_buffer)), ((hm 5), .inl (cy 1, 3, .inl c_counters)), ((hm 35), .inl (cy 1, 32, .inl c_digest)), ((hm 30), .inl (cy 1, 8, .inl c_h)), ((hm 12), .inl (cy 1, 16, .inl c_holder)), ((hm 36), .inl (cy 1, 32, .inl c_inner)), ((hm 25), .inl (cy 1, 32, .inl c_k)), ((hm 14), .inl (cy 1, 1024, .inl c_keys)), ((hm 9), .inl (cy 1, 16, .inl c_kind)), ((hm 10), .inl (cy 1, 16, .inl c_length)), ((hm 33), .inl (cy 1, 64, .inl c_message)), ((hm 45), .inl (cy 1, 600, .inl c_result)), ((hm 37), .inl (cy 1, 64, .inl c_secret)), ((hm 11), .inl (cy 1, 16, .inl c_usage)), ((hm 13), .inl (cy 1, 16, .inl c_uses)), ((hm 26), .inl (cy 1, 32, .inl c_v)), ((hm 31), .inl (cy 1, 64, .inl c_w)), ((hm 16), .inl (cy 1, 64, .inl c_word)), ((hm 32), .inl (cy 1, 8, .inl c_x))]) s.heap.size = A at hD hE ⊢
  have hA : ∀ q : Nat, s.heap.size ≤ q → A q := fun q h => by rw [← hAe]; exact Or.inr h
  clear hAe hD0
  have hS : va_S A s.heap s.heap [] := va_S.rf
  have hK := hE.1
  have hw0 := hts (.fieldLink RX10 189 "SealedModuleModel" "thrown" "I") (by decide +kernel)
  have hw1 := hts (.fieldLink RX10 108 "SealedModuleModel" "keys" "[I") (by decide +kernel)
  have hw2 := hts (.fieldLink RX10 168 "SealedModuleModel" "result" "[I") (by decide +kernel)
  have hcX10 : ∀ w ∈ u_ws RX10 TX10 52, w ∈ wsX10_make := (fun _ h => List.mem_cons_of_mem _ (List.mem_append_right _ h))
  have hl := lv_entry ([.ref h0, .int p1, .int p2, .int p3, .int p4, .int p5, .int p6]) (n := 9) (Nat.le_of_ble_eq_true rfl)
  rw [lg_entry_eq]
  generalize (lg_sl ([.ref h0, .int p1, .int p2, .int p3, .int p4, .int p5, .int p6]) ++ List.replicate (9 - (lg_sl ([.ref h0, .int p1, .int p2, .int p3, .int p4, .int p5, .int p6])).length) Slot.unset).toArray = ls at hl ⊢
  replace hl : lv_has ls 9 [(0, .ref h0), (1, .int p1), (2, .int p2), (3, .int p3), (4, .int p4), (5, .int p5), (6, .int p6)] := hl
  unfold f_X10_make at hf
  refine zgo (fun GW hTo hFr => ?_)
  refine hFr _ _ _ ?_
  obtain ⟨H, hHe⟩ : ∃ H, H = s.heap := ⟨_, rfl⟩
  obtain ⟨locs, hLe⟩ : ∃ L : List Loc, L = [] := ⟨_, rfl⟩
  rw [← hHe] at hP
  replace hS : va_S A s.heap H locs := by rw [hHe, hLe]; exact hS
  refine zat hHe.symm hLe.symm ?_
  clear hHe hLe
  refine lv_aload_n (pc := 0) hx hb (zdt_at zt_X10_make_0 0 rfl) rfl (lv_at hl 0 rfl) ?_
  refine lv_iconst (pc := 1) (v := (0 : Int32)) hx hb (zdt_at zt_X10_make_0 1 rfl) (by decide) ?_
  refine va_put (pc := 2) (D := D) (ci := 12) (v := .int (0 : Int32)) (ty := .int) (C := RX10) (T := TX10) (N := 52) hx hb hts hcX10 tyX10 tyX10_ok nmX10 hown hK hP hD hS 0 rfl rfl 1 (by decide) hw0 (fun _ h9 => h9) rfl (by decide +kernel) rfl rfl (Nat.le_of_ble_eq_true rfl) (zdt_at zt_X10_make_0 2 rfl) ?_
  clear hP hD hS
  intro H locs hP hD hS
  replace hP : va_P D vwCl ([(h0, .inr (12, zmo hm (0 : Int32) c_state c_test c_words c_ill c_before c_inRow c_first c_inWindow c_same c_made c_requests c_total c_secrets c_rounds c_high c_low c_keyHigh c_keyLow)), ((hm 0), .inl (cy 1, 64, .inl c_ROUND)), ((hm 47), .inl (cy 1, 8, .inl c_START)), ((hm 6), .inl (cy 1, 512, .inl c_buffer)), ((hm 5), .inl (cy 1, 3, .inl c_counters)), ((hm 35), .inl (cy 1, 32, .inl c_digest)), ((hm 30), .inl (cy 1, 8, .inl c_h)), ((hm 12), .inl (cy 1, 16, .inl c_holder)), ((hm 36), .inl (cy 1, 32, .inl c_inner)), ((hm 25), .inl (cy 1, 32, .inl c_k)), ((hm 14), .inl (cy 1, 1024, .inl c_keys)), ((hm 9), .inl (cy 1, 16, .inl c_kind)), ((hm 10), .inl (cy 1, 16, .inl c_length)), ((hm 33), .inl (cy 1, 64, .inl c_message)), ((hm 45), .inl (cy 1, 600, .inl c_result)), ((hm 37), .inl (cy 1, 64, .inl c_secret)), ((hm 11), .inl (cy 1, 16, .inl c_usage)), ((hm 13), .inl (cy 1, 16, .inl c_uses)), ((hm 26), .inl (cy 1, 32, .inl c_v)), ((hm 31), .inl (cy 1, 64, .inl c_w)), ((hm 16), .inl (cy 1, 64, .inl c_word)), ((hm 32), .inl (cy 1, 8, .inl c_x))]) H := hP
  replace hD : va_D A ([(h0, .inr (12, zmo hm (0 : Int32) c_state c_test c_words c_ill c_before c_inRow c_first c_inWindow c_same c_made c_requests c_total c_secrets c_rounds c_high c_low c_keyHigh c_keyLow)), ((hm 0), .inl (cy 1, 64, .inl c_ROUND)), ((hm 47), .inl (cy 1, 8, .inl c_START)), ((hm 6), .inl (cy 1, 512, .inl c_buffer)), ((hm 5), .inl (cy 1, 3, .inl c_counters)), ((hm 35), .inl (cy 1, 32, .inl c_digest)), ((hm 30), .inl (cy 1, 8, .inl c_h)), ((hm 12), .inl (cy 1, 16, .inl c_holder)), ((hm 36), .inl (cy 1, 32, .inl c_inner)), ((hm 25), .inl (cy 1, 32, .inl c_k)), ((hm 14), .inl (cy 1, 1024, .inl c_keys)), ((hm 9), .inl (cy 1, 16, .inl c_kind)), ((hm 10), .inl (cy 1, 16, .inl c_length)), ((hm 33), .inl (cy 1, 64, .inl c_message)), ((hm 45), .inl (cy 1, 600, .inl c_result)), ((hm 37), .inl (cy 1, 64, .inl c_secret)), ((hm 11), .inl (cy 1, 16, .inl c_usage)), ((hm 13), .inl (cy 1, 16, .inl c_uses)), ((hm 26), .inl (cy 1, 32, .inl c_v)), ((hm 31), .inl (cy 1, 64, .inl c_w)), ((hm 16), .inl (cy 1, 64, .inl c_word)), ((hm 32), .inl (cy 1, 8, .inl c_x))]) := hD
  refine lv_aload_n (pc := 5) hx hb (zdt_at zt_X10_make_0 3 rfl) rfl (lv_at hl 0 rfl) ?_
  refine lv_iload_n (pc := 6) hx hb (zdt_at zt_X10_make_0 4 rfl) rfl (lv_at hl 1 rfl) ?_
  refine lv_iload_n (pc := 7) hx hb (zdt_at zt_X10_make_0 5 rfl) rfl (lv_at hl 2 rfl) ?_
  refine lv_iload_n (pc := 8) hx hb (zdt_at zt_X10_make_0 6 rfl) rfl (lv_at hl 3 rfl) ?_
  refine lv_iload (pc := 9) hx hb (zdt_at zt_X10_make_0 7 rfl) (lv_at hl 4 rfl) ?_
  refine lv_iload (pc := 11) hx hb (zdt_at zt_X10_make_0 8 rfl) (lv_at hl 5 rfl) ?_
  refine lv_iload (pc := 13) hx hb (zdt_at zt_X10_make_0 9 rfl) (lv_at hl 6 rfl) ?_
  replace hf := zb_s hf
  obtain ⟨r_1, hc_, hf⟩ := hf
  refine zcs (pc := 15) (rv := (some (.int r_1))) (va_runV (As := [.int p1, .int p2, .int p3, .int p4, .int p5, .int p6]) (rest := []) ⟨hx, hb, hml, hown, hts⟩ (c_X10_refuses l D cy tt H.size h0 hm p1 p2 p3 p4 p5 p6 c_state c_kind (0 : Int32) c_test c_words c_ill c_before c_inRow c_first c_inWindow c_same c_made c_requests c_total c_secrets c_rounds c_high c_low c_keyHigh c_keyLow r_1 hc_) (cwV 6 hts gX10_make_X10_refuses rfl rfl rfl (by decide +kernel) ⟨Nat.le_of_ble_eq_true rfl, Nat.le_of_ble_eq_true rfl⟩) ⟨zblind, va_recv hK hP (ci := 12) (q0 := 0) rfl rfl, zpre hE hS (hP.sub [0, 11] rfl) (hD.sub [0, 11] (by decide) rfl) (va_free hD hS hA [0, 11] rfl)⟩ rfl rfl hl.1 rfl (lv_room (Nat.le_of_ble_eq_true rfl)) (zdt_at zt_X10_make_0 10 rfl) ⟨Nat.zero_le _, Nat.zero_le _⟩) ?_
  clear hc_
  refine W.eq (g2 := F0 m 18 ls [.int r_1]) rfl ?_
  refine lv_istore (pc := 18) (lv' := [(7, .int r_1), (0, .ref h0), (1, .int p1), (2, .int p2), (3, .int p3), (4, .int p4), (5, .int p5), (6, .int p6)]) hx hb (zdt_at zt_X10_make_0 11 rfl) hl (by decide) rfl ?_
  clear hl
  intro ls hl
  refine lv_iload (pc := 20) hx hb (zdt_at zt_X10_make_0 12 rfl) (lv_at hl 0 rfl) ?_
  replace hf := zj_s hf
  obtain ⟨K_3, eK_3, hf⟩ := hf
  have kK_3 : ∀ (v_2 : Int32) (H : Heap) (locs : List Loc) (ls : Array Slot), va_P D vwCl ([(h0, .inr (12, zmo hm (0 : Int32) c_state c_test c_words c_ill c_before c_inRow c_first c_inWindow c_same c_made c_requests c_total c_secrets c_rounds c_high c_low c_keyHigh c_keyLow)), ((hm 0), .inl (cy 1, 64, .inl c_ROUND)), ((hm 47), .inl (cy 1, 8, .inl c_START)), ((hm 6), .inl (cy 1, 512, .inl c_buffer)), ((hm 5), .inl (cy 1, 3, .inl c_counters)), ((hm 35), .inl (cy 1, 32, .inl c_digest)), ((hm 30), .inl (cy 1, 8, .inl c_h)), ((hm 12), .inl (cy 1, 16, .inl c_holder)), ((hm 36), .inl (cy 1, 32, .inl c_inner)), ((hm 25), .inl (cy 1, 32, .inl c_k)), ((hm 14), .inl (cy 1, 1024, .inl c_keys)), ((hm 9), .inl (cy 1, 16, .inl c_kind)), ((hm 10), .inl (cy 1, 16, .inl c_length)), ((hm 33), .inl (cy 1, 64, .inl c_message)), ((hm 45), .inl (cy 1, 600, .inl c_result)), ((hm 37), .inl (cy 1, 64, .inl c_secret)), ((hm 11), .inl (cy 1, 16, .inl c_usage)), ((hm 13), .inl (cy 1, 16, .inl c_uses)), ((hm 26), .inl (cy 1, 32, .inl c_v)), ((hm 31), .inl (cy 1, 64, .inl c_w)), ((hm 16), .inl (cy 1, 64, .inl c_word)), ((hm 32), .inl (cy 1, 8, .inl c_x))]) H → va_D A ([(h0, .inr (12, zmo hm (0 : Int32) c_state c_test c_words c_ill c_before c_inRow c_first c_inWindow c_same c_made c_requests c_total c_secrets c_rounds c_high c_low c_keyHigh c_keyLow)), ((hm 0), .inl (cy 1, 64, .inl c_ROUND)), ((hm 47), .inl (cy 1, 8, .inl c_START)), ((hm 6), .inl (cy 1, 512, .inl c_buffer)), ((hm 5), .inl (cy 1, 3, .inl c_counters)), ((hm 35), .inl (cy 1, 32, .inl c_digest)), ((hm 30), .inl (cy 1, 8, .inl c_h)), ((hm 12), .inl (cy 1, 16, .inl c_holder)), ((hm 36), .inl (cy 1, 32, .inl c_inner)), ((hm 25), .inl (cy 1, 32, .inl c_k)), ((hm 14), .inl (cy 1, 1024, .inl c_keys)), ((hm 9), .inl (cy 1, 16, .inl c_kind)), ((hm 10), .inl (cy 1, 16, .inl c_length)), ((hm 33), .inl (cy 1, 64, .inl c_message)), ((hm 45), .inl (cy 1, 600, .inl c_result)), ((hm 37), .inl (cy 1, 64, .inl c_secret)), ((hm 11), .inl (cy 1, 16, .inl c_usage)), ((hm 13), .inl (cy 1, 16, .inl c_uses)), ((hm 26), .inl (cy 1, 32, .inl c_v)), ((hm 31), .inl (cy 1, 64, .inl c_w)), ((hm 16), .inl (cy 1, 64, .inl c_word)), ((hm 32), .inl (cy 1, 8, .inl c_x))]) → va_S A s.heap H locs → lv_has ls 9 [(0, .ref h0), (1, .int p1), (2, .int p2), (3, .int p3), (4, .int p4), (5, .int p5), (6, .int p6), (7, .int v_2)] → K_3 v_2 = some (r_, c_made', c_requests', c_secrets', c_thrown', c_total', c_words', c_counters', c_digest', c_h', c_holder', c_inner', c_k', c_keys', c_kind', c_length', c_message', c_result', c_secret', c_usage', c_uses', c_v', c_w', c_word', c_x') → GW H locs (F0 m 36 ls []) := by
    clear hf hl hP hD hS
    intro v_2 H locs ls hP hD hS hl hf
    rw [eK_3] at hf
    clear eK_3
    refine hFr _ _ _ ?_
    refine lv_iload (pc := 36) hx hb (zdt_at zt_X10_make_0 19 rfl) (lv_at hl 7 rfl) ?_
    refine lv_if_ge (pc := 38) (tgt := 48) hx hb (zdt_at zt_X10_make_0 20 rfl) (by decide) (fun cn_ => ?t_4) (fun cn_ => ?f_5)
    case f_5 =>
      replace hf := ze_s cn_ hf
      clear cn_
      refine lv_aload_n (pc := 41) hx hb (zdt_at zt_X10_make_0 21 rfl) rfl (lv_at hl 0 rfl) ?_
      refine lv_iload (pc := 42) hx hb (zdt_at zt_X10_make_0 22 rfl) (lv_at hl 7 rfl) ?_
      replace hf := zb_s hf
      obtain ⟨⟨r_37, c_counters_38⟩, hc_, hf⟩ := hf
      refine zcn2 (pc := 44) (rv := (some (.int r_37))) (va_runV (As := [.int v_2]) (rest := []) ⟨hx, hb, hml, hown, hts⟩ (c_X10_answer l D cy tt H.size h0 hm v_2 c_counters (0 : Int32) c_state c_test c_words c_ill c_before c_inRow c_first c_inWindow c_same c_made c_requests c_total c_secrets c_rounds c_high c_low c_keyHigh c_keyLow r_37 c_counters_38 hc_) (cwV 1 hts gX10_make_X10_answer rfl rfl rfl (by decide +kernel) ⟨Nat.le_of_ble_eq_true rfl, Nat.le_of_ble_eq_true rfl⟩) ⟨zblind, va_recv hK hP (ci := 12) (q0 := 0) rfl rfl, zpre hE hS (hP.sub [0, 4] rfl) (hD.sub [0, 4] (by decide) rfl) (va_free hD hS hA [0, 4] rfl)⟩ rfl rfl hl.1 rfl (lv_room (Nat.le_of_ble_eq_true rfl)) (zdt_at zt_X10_make_0 23 rfl) ⟨Nat.zero_le _, Nat.zero_le _⟩) hS hP hD (va_free hD hS hA [0, 4] rfl) [0, 4] rfl (by decide) rfl ?_
      clear hP hD hS hc_
      intro H locs hP hD hS
      replace hP : va_P D vwCl ([(h0, .inr (12, zmo hm (0 : Int32) c_state c_test c_words c_ill c_before c_inRow c_first c_inWindow c_same c_made c_requests c_total c_secrets c_rounds c_high c_low c_keyHigh c_keyLow)), ((hm 0), .inl (cy 1, 64, .inl c_ROUND)), ((hm 47), .inl (cy 1, 8, .inl c_START)), ((hm 6), .inl (cy 1, 512, .inl c_buffer)), ((hm 5), .inl (cy 1, 3, .inl c_counters_38)), ((hm 35), .inl (cy 1, 32, .inl c_digest)), ((hm 30), .inl (cy 1, 8, .inl c_h)), ((hm 12), .inl (cy 1, 16, .inl c_holder)), ((hm 36), .inl (cy 1, 32, .inl c_inner)), ((hm 25), .inl (cy 1, 32, .inl c_k)), ((hm 14), .inl (cy 1, 1024, .inl c_keys)), ((hm 9), .inl (cy 1, 16, .inl c_kind)), ((hm 10), .inl (cy 1, 16, .inl c_length)), ((hm 33), .inl (cy 1, 64, .inl c_message)), ((hm 45), .inl (cy 1, 600, .inl c_result)), ((hm 37), .inl (cy 1, 64, .inl c_secret)), ((hm 11), .inl (cy 1, 16, .inl c_usage)), ((hm 13), .inl (cy 1, 16, .inl c_uses)), ((hm 26), .inl (cy 1, 32, .inl c_v)), ((hm 31), .inl (cy 1, 64, .inl c_w)), ((hm 16), .inl (cy 1, 64, .inl c_word)), ((hm 32), .inl (cy 1, 8, .inl c_x))]) H := hP
      replace hD : va_D A ([(h0, .inr (12, zmo hm (0 : Int32) c_state c_test c_words c_ill c_before c_inRow c_first c_inWindow c_same c_made c_requests c_total c_secrets c_rounds c_high c_low c_keyHigh c_keyLow)), ((hm 0), .inl (cy 1, 64, .inl c_ROUND)), ((hm 47), .inl (cy 1, 8, .inl c_START)), ((hm 6), .inl (cy 1, 512, .inl c_buffer)), ((hm 5), .inl (cy 1, 3, .inl c_counters_38)), ((hm 35), .inl (cy 1, 32, .inl c_digest)), ((hm 30), .inl (cy 1, 8, .inl c_h)), ((hm 12), .inl (cy 1, 16, .inl c_holder)), ((hm 36), .inl (cy 1, 32, .inl c_inner)), ((hm 25), .inl (cy 1, 32, .inl c_k)), ((hm 14), .inl (cy 1, 1024, .inl c_keys)), ((hm 9), .inl (cy 1, 16, .inl c_kind)), ((hm 10), .inl (cy 1, 16, .inl c_length)), ((hm 33), .inl (cy 1, 64, .inl c_message)), ((hm 45), .inl (cy 1, 600, .inl c_result)), ((hm 37), .inl (cy 1, 64, .inl c_secret)), ((hm 11), .inl (cy 1, 16, .inl c_usage)), ((hm 13), .inl (cy 1, 16, .inl c_uses)), ((hm 26), .inl (cy 1, 32, .inl c_v)), ((hm 31), .inl (cy 1, 64, .inl c_w)), ((hm 16), .inl (cy 1, 64, .inl c_word)), ((hm 32), .inl (cy 1, 8, .inl c_x))]) := hD
      refine W.eq (g2 := F0 m 47 ls [.int r_37]) rfl ?_
      cases hf
      exact W.iret (pc := 47) hx hb hr (fun t ht hW => ⟨rfl, ⟨by rw [ht]; exact hP, hD⟩, hS.F ht⟩) hS.2.2 (zdt_at zt_X10_make_0 24 rfl)
    replace hf := zt_s cn_ hf
    clear cn_
    refine lv_aload_n (pc := 48) hx hb (zdt_at zt_X10_make_0 25 rfl) rfl (lv_at hl 0 rfl) ?_
    refine lv_iload (pc := 49) hx hb (zdt_at zt_X10_make_0 26 rfl) (lv_at hl 6 rfl) ?_
    refine lv_iconst (pc := 51) (v := (0 : Int32)) hx hb (zdt_at zt_X10_make_0 27 rfl) (by decide) ?_
    replace hf := zb_s hf
    obtain ⟨⟨c_made_6, c_requests_7, c_secrets_8, c_total_9, c_words_10, c_digest_11, c_h_12, c_inner_13, c_k_14, c_message_15, c_result_16, c_secret_17, c_v_18, c_w_19, c_word_20, c_x_21⟩, hc_, hf⟩ := hf
    refine zcn2 (pc := 52) (rv := none) (va_runV (As := [.int p6, .int (0 : Int32)]) (rest := []) ⟨hx, hb, hml, hown, hts⟩ (c_X10_generate l D cy tt H.size h0 hm p6 (0 : Int32) c_made c_requests c_secrets c_total c_words c_ROUND c_START c_buffer c_digest c_h c_inner c_k c_message c_result c_secret c_v c_w c_word c_x (0 : Int32) c_state c_test c_ill c_before c_inRow c_first c_inWindow c_same c_rounds c_high c_low c_keyHigh c_keyLow c_made_6 c_requests_7 c_secrets_8 c_total_9 c_words_10 c_digest_11 c_h_12 c_inner_13 c_k_14 c_message_15 c_result_16 c_secret_17 c_v_18 c_w_19 c_word_20 c_x_21 hc_) (cwV 2 hts gX10_make_X10_generate rfl rfl rfl (by decide +kernel) ⟨Nat.le_of_ble_eq_true rfl, Nat.le_of_ble_eq_true rfl⟩) ⟨zblind, va_recv hK hP (ci := 12) (q0 := 0) rfl rfl, zpre hE hS (hP.sub [0, 1, 2, 3, 5, 6, 8, 9, 13, 14, 15, 18, 19, 20, 21] rfl) (hD.sub [0, 1, 2, 3, 5, 6, 8, 9, 13, 14, 15, 18, 19, 20, 21] (by decide) rfl) (va_free hD hS hA [0, 1, 2, 3, 5, 6, 8, 9, 13, 14, 15, 18, 19, 20, 21] rfl)⟩ rfl rfl hl.1 rfl (lv_room (Nat.le_of_ble_eq_true rfl)) (zdt_at zt_X10_make_0 28 rfl) ⟨Nat.zero_le _, Nat.zero_le _⟩) hS hP hD (va_free hD hS hA [0, 1, 2, 3, 5, 6, 8, 9, 13, 14, 15, 18, 19, 20, 21] rfl) [0, 1, 2, 3, 5, 6, 8, 9, 13, 14, 15, 18, 19, 20, 21] rfl (by decide) rfl ?_
    clear hP hD hS hc_
    intro H locs hP hD hS
    replace hP : va_P D vwCl ([(h0, .inr (12, zmo hm (0 : Int32) c_state c_test c_words_10 c_ill c_before c_inRow c_first c_inWindow c_same c_made_6 c_requests_7 c_total_9 c_secrets_8 c_rounds c_high c_low c_keyHigh c_keyLow)), ((hm 0), .inl (cy 1, 64, .inl c_ROUND)), ((hm 47), .inl (cy 1, 8, .inl c_START)), ((hm 6), .inl (cy 1, 512, .inl c_buffer)), ((hm 5), .inl (cy 1, 3, .inl c_counters)), ((hm 35), .inl (cy 1, 32, .inl c_digest_11)), ((hm 30), .inl (cy 1, 8, .inl c_h_12)), ((hm 12), .inl (cy 1, 16, .inl c_holder)), ((hm 36), .inl (cy 1, 32, .inl c_inner_13)), ((hm 25), .inl (cy 1, 32, .inl c_k_14)), ((hm 14), .inl (cy 1, 1024, .inl c_keys)), ((hm 9), .inl (cy 1, 16, .inl c_kind)), ((hm 10), .inl (cy 1, 16, .inl c_length)), ((hm 33), .inl (cy 1, 64, .inl c_message_15)), ((hm 45), .inl (cy 1, 600, .inl c_result_16)), ((hm 37), .inl (cy 1, 64, .inl c_secret_17)), ((hm 11), .inl (cy 1, 16, .inl c_usage)), ((hm 13), .inl (cy 1, 16, .inl c_uses)), ((hm 26), .inl (cy 1, 32, .inl c_v_18)), ((hm 31), .inl (cy 1, 64, .inl c_w_19)), ((hm 16), .inl (cy 1, 64, .inl c_word_20)), ((hm 32), .inl (cy 1, 8, .inl c_x_21))]) H := hP
    replace hD : va_D A ([(h0, .inr (12, zmo hm (0 : Int32) c_state c_test c_words_10 c_ill c_before c_inRow c_first c_inWindow c_same c_made_6 c_requests_7 c_total_9 c_secrets_8 c_rounds c_high c_low c_keyHigh c_keyLow)), ((hm 0), .inl (cy 1, 64, .inl c_ROUND)), ((hm 47), .inl (cy 1, 8, .inl c_START)), ((hm 6), .inl (cy 1, 512, .inl c_buffer)), ((hm 5), .inl (cy 1, 3, .inl c_counters)), ((hm 35), .inl (cy 1, 32, .inl c_digest_11)), ((hm 30), .inl (cy 1, 8, .inl c_h_12)), ((hm 12), .inl (cy 1, 16, .inl c_holder)), ((hm 36), .inl (cy 1, 32, .inl c_inner_13)), ((hm 25), .inl (cy 1, 32, .inl c_k_14)), ((hm 14), .inl (cy 1, 1024, .inl c_keys)), ((hm 9), .inl (cy 1, 16, .inl c_kind)), ((hm 10), .inl (cy 1, 16, .inl c_length)), ((hm 33), .inl (cy 1, 64, .inl c_message_15)), ((hm 45), .inl (cy 1, 600, .inl c_result_16)), ((hm 37), .inl (cy 1, 64, .inl c_secret_17)), ((hm 11), .inl (cy 1, 16, .inl c_usage)), ((hm 13), .inl (cy 1, 16, .inl c_uses)), ((hm 26), .inl (cy 1, 32, .inl c_v_18)), ((hm 31), .inl (cy 1, 64, .inl c_w_19)), ((hm 16), .inl (cy 1, 64, .inl c_word_20)), ((hm 32), .inl (cy 1, 8, .inl c_x_21))]) := hD
    refine W.eq (g2 := F0 m 55 ls []) rfl ?_
    refine lv_aload_n (pc := 55) hx hb (zdt_at zt_X10_make_0 29 rfl) rfl (lv_at hl 0 rfl) ?_
    refine lv_iload_n (pc := 56) hx hb (zdt_at zt_X10_make_0 30 rfl) rfl (lv_at hl 1 rfl) ?_
    refine lv_iload_n (pc := 57) hx hb (zdt_at zt_X10_make_0 31 rfl) rfl (lv_at hl 2 rfl) ?_
    refine lv_iload_n (pc := 58) hx hb (zdt_at zt_X10_make_0 32 rfl) rfl (lv_at hl 3 rfl) ?_
    refine lv_iload (pc := 59) hx hb (zdt_at zt_X10_make_0 33 rfl) (lv_at hl 4 rfl) ?_
    refine lv_iload (pc := 61) hx hb (zdt_at zt_X10_make_0 34 rfl) (lv_at hl 5 rfl) ?_
    refine lv_iload (pc := 63) hx hb (zdt_at zt_X10_make_0 35 rfl) (lv_at hl 6 rfl) ?_
    replace hf := zb_s hf
    obtain ⟨⟨c_holder_22, c_kind_23, c_length_24, c_usage_25, c_uses_26⟩, hc_, hf⟩ := hf
    refine zcn2 (pc := 65) (rv := none) (va_runV (As := [.int p1, .int p2, .int p3, .int p4, .int p5, .int p6]) (rest := []) ⟨hx, hb, hml, hown, hts⟩ (c_X10_fill l D cy tt H.size h0 hm p1 p2 p3 p4 p5 p6 c_holder c_kind c_length c_usage c_uses (0 : Int32) c_state c_test c_words_10 c_ill c_before c_inRow c_first c_inWindow c_same c_made_6 c_requests_7 c_total_9 c_secrets_8 c_rounds c_high c_low c_keyHigh c_keyLow c_holder_22 c_kind_23 c_length_24 c_usage_25 c_uses_26 hc_) (cwV 6 hts gX10_make_X10_fill rfl rfl rfl (by decide +kernel) ⟨Nat.le_of_ble_eq_true rfl, Nat.le_of_ble_eq_true rfl⟩) ⟨zblind, va_recv hK hP (ci := 12) (q0 := 0) rfl rfl, zpre hE hS (hP.sub [0, 7, 11, 12, 16, 17] rfl) (hD.sub [0, 7, 11, 12, 16, 17] (by decide) rfl) (va_free hD hS hA [0, 7, 11, 12, 16, 17] rfl)⟩ rfl rfl hl.1 rfl (lv_room (Nat.le_of_ble_eq_true rfl)) (zdt_at zt_X10_make_0 36 rfl) ⟨Nat.zero_le _, Nat.zero_le _⟩) hS hP hD (va_free hD hS hA [0, 7, 11, 12, 16, 17] rfl) [0, 7, 11, 12, 16, 17] rfl (by decide) rfl ?_
    clear hP hD hS hc_
    intro H locs hP hD hS
    replace hP : va_P D vwCl ([(h0, .inr (12, zmo hm (0 : Int32) c_state c_test c_words_10 c_ill c_before c_inRow c_first c_inWindow c_same c_made_6 c_requests_7 c_total_9 c_secrets_8 c_rounds c_high c_low c_keyHigh c_keyLow)), ((hm 0), .inl (cy 1, 64, .inl c_ROUND)), ((hm 47), .inl (cy 1, 8, .inl c_START)), ((hm 6), .inl (cy 1, 512, .inl c_buffer)), ((hm 5), .inl (cy 1, 3, .inl c_counters)), ((hm 35), .inl (cy 1, 32, .inl c_digest_11)), ((hm 30), .inl (cy 1, 8, .inl c_h_12)), ((hm 12), .inl (cy 1, 16, .inl c_holder_22)), ((hm 36), .inl (cy 1, 32, .inl c_inner_13)), ((hm 25), .inl (cy 1, 32, .inl c_k_14)), ((hm 14), .inl (cy 1, 1024, .inl c_keys)), ((hm 9), .inl (cy 1, 16, .inl c_kind_23)), ((hm 10), .inl (cy 1, 16, .inl c_length_24)), ((hm 33), .inl (cy 1, 64, .inl c_message_15)), ((hm 45), .inl (cy 1, 600, .inl c_result_16)), ((hm 37), .inl (cy 1, 64, .inl c_secret_17)), ((hm 11), .inl (cy 1, 16, .inl c_usage_25)), ((hm 13), .inl (cy 1, 16, .inl c_uses_26)), ((hm 26), .inl (cy 1, 32, .inl c_v_18)), ((hm 31), .inl (cy 1, 64, .inl c_w_19)), ((hm 16), .inl (cy 1, 64, .inl c_word_20)), ((hm 32), .inl (cy 1, 8, .inl c_x_21))]) H := hP
    replace hD : va_D A ([(h0, .inr (12, zmo hm (0 : Int32) c_state c_test c_words_10 c_ill c_before c_inRow c_first c_inWindow c_same c_made_6 c_requests_7 c_total_9 c_secrets_8 c_rounds c_high c_low c_keyHigh c_keyLow)), ((hm 0), .inl (cy 1, 64, .inl c_ROUND)), ((hm 47), .inl (cy 1, 8, .inl c_START)), ((hm 6), .inl (cy 1, 512, .inl c_buffer)), ((hm 5), .inl (cy 1, 3, .inl c_counters)), ((hm 35), .inl (cy 1, 32, .inl c_digest_11)), ((hm 30), .inl (cy 1, 8, .inl c_h_12)), ((hm 12), .inl (cy 1, 16, .inl c_holder_22)), ((hm 36), .inl (cy 1, 32, .inl c_inner_13)), ((hm 25), .inl (cy 1, 32, .inl c_k_14)), ((hm 14), .inl (cy 1, 1024, .inl c_keys)), ((hm 9), .inl (cy 1, 16, .inl c_kind_23)), ((hm 10), .inl (cy 1, 16, .inl c_length_24)), ((hm 33), .inl (cy 1, 64, .inl c_message_15)), ((hm 45), .inl (cy 1, 600, .inl c_result_16)), ((hm 37), .inl (cy 1, 64, .inl c_secret_17)), ((hm 11), .inl (cy 1, 16, .inl c_usage_25)), ((hm 13), .inl (cy 1, 16, .inl c_uses_26)), ((hm 26), .inl (cy 1, 32, .inl c_v_18)), ((hm 31), .inl (cy 1, 64, .inl c_w_19)), ((hm 16), .inl (cy 1, 64, .inl c_word_20)), ((hm 32), .inl (cy 1, 8, .inl c_x_21))]) := hD
    refine W.eq (g2 := F0 m 68 ls []) rfl ?_
    refine lv_iconst (pc := 68) (v := (0 : Int32)) hx hb (zdt_at zt_X10_make_0 37 rfl) (by decide) ?_
    refine lv_istore (pc := 69) (lv' := [(8, .int (0 : Int32)), (0, .ref h0), (1, .int p1), (2, .int p2), (3, .int p3), (4, .int p4), (5, .int p5), (6, .int p6), (7, .int v_2)]) hx hb (zdt_at zt_X10_make_0 38 rfl) hl (by decide) rfl ?_
    clear hl
    intro ls hl
    replace hf := zj_s hf
    obtain ⟨K_30, eK_30, hf⟩ := hf
    have kK_30 : ∀ (c_keys_29 : Nat → Int32) (H : Heap) (locs : List Loc) (ls : Array Slot), va_P D vwCl ([(h0, .inr (12, zmo hm (0 : Int32) c_state c_test c_words_10 c_ill c_before c_inRow c_first c_inWindow c_same c_made_6 c_requests_7 c_total_9 c_secrets_8 c_rounds c_high c_low c_keyHigh c_keyLow)), ((hm 0), .inl (cy 1, 64, .inl c_ROUND)), ((hm 47), .inl (cy 1, 8, .inl c_START)), ((hm 6), .inl (cy 1, 512, .inl c_buffer)), ((hm 5), .inl (cy 1, 3, .inl c_counters)), ((hm 35), .inl (cy 1, 32, .inl c_digest_11)), ((hm 30), .inl (cy 1, 8, .inl c_h_12)), ((hm 12), .inl (cy 1, 16, .inl c_holder_22)), ((hm 36), .inl (cy 1, 32, .inl c_inner_13)), ((hm 25), .inl (cy 1, 32, .inl c_k_14)), ((hm 14), .inl (cy 1, 1024, .inl c_keys_29)), ((hm 9), .inl (cy 1, 16, .inl c_kind_23)), ((hm 10), .inl (cy 1, 16, .inl c_length_24)), ((hm 33), .inl (cy 1, 64, .inl c_message_15)), ((hm 45), .inl (cy 1, 600, .inl c_result_16)), ((hm 37), .inl (cy 1, 64, .inl c_secret_17)), ((hm 11), .inl (cy 1, 16, .inl c_usage_25)), ((hm 13), .inl (cy 1, 16, .inl c_uses_26)), ((hm 26), .inl (cy 1, 32, .inl c_v_18)), ((hm 31), .inl (cy 1, 64, .inl c_w_19)), ((hm 16), .inl (cy 1, 64, .inl c_word_20)), ((hm 32), .inl (cy 1, 8, .inl c_x_21))]) H → va_D A ([(h0, .inr (12, zmo hm (0 : Int32) c_state c_test c_words_10 c_ill c_before c_inRow c_first c_inWindow c_same c_made_6 c_requests_7 c_total_9 c_secrets_8 c_rounds c_high c_low c_keyHigh c_keyLow)), ((hm 0), .inl (cy 1, 64, .inl c_ROUND)), ((hm 47), .inl (cy 1, 8, .inl c_START)), ((hm 6), .inl (cy 1, 512, .inl c_buffer)), ((hm 5), .inl (cy 1, 3, .inl c_counters)), ((hm 35), .inl (cy 1, 32, .inl c_digest_11)), ((hm 30), .inl (cy 1, 8, .inl c_h_12)), ((hm 12), .inl (cy 1, 16, .inl c_holder_22)), ((hm 36), .inl (cy 1, 32, .inl c_inner_13)), ((hm 25), .inl (cy 1, 32, .inl c_k_14)), ((hm 14), .inl (cy 1, 1024, .inl c_keys_29)), ((hm 9), .inl (cy 1, 16, .inl c_kind_23)), ((hm 10), .inl (cy 1, 16, .inl c_length_24)), ((hm 33), .inl (cy 1, 64, .inl c_message_15)), ((hm 45), .inl (cy 1, 600, .inl c_result_16)), ((hm 37), .inl (cy 1, 64, .inl c_secret_17)), ((hm 11), .inl (cy 1, 16, .inl c_usage_25)), ((hm 13), .inl (cy 1, 16, .inl c_uses_26)), ((hm 26), .inl (cy 1, 32, .inl c_v_18)), ((hm 31), .inl (cy 1, 64, .inl c_w_19)), ((hm 16), .inl (cy 1, 64, .inl c_word_20)), ((hm 32), .inl (cy 1, 8, .inl c_x_21))]) → va_S A s.heap H locs → lv_has ls 9 [(0, .ref h0)] → K_30 c_keys_29 = some (r_, c_made', c_requests', c_secrets', c_thrown', c_total', c_words', c_counters', c_digest', c_h', c_holder', c_inner', c_k', c_keys', c_kind', c_length', c_message', c_result', c_secret', c_usage', c_uses', c_v', c_w', c_word', c_x') → GW H locs (F0 m 106 ls []) := by
      clear hf hl hP hD hS
      intro c_keys_29 H locs ls hP hD hS hl hf
      rw [eK_30] at hf
      clear eK_30
      refine hFr _ _ _ ?_
      refine lv_aload_n (pc := 106) hx hb (zdt_at zt_X10_make_0 58 rfl) rfl (lv_at hl 0 rfl) ?_
      refine lv_iconst (pc := 107) (v := (0 : Int32)) hx hb (zdt_at zt_X10_make_0 59 rfl) (by decide) ?_
      replace hf := zb_s hf
      obtain ⟨⟨r_31, c_counters_32⟩, hc_, hf⟩ := hf
      refine zcn2 (pc := 108) (rv := (some (.int r_31))) (va_runV (As := [.int (0 : Int32)]) (rest := []) ⟨hx, hb, hml, hown, hts⟩ (c_X10_answer l D cy tt H.size h0 hm (0 : Int32) c_counters (0 : Int32) c_state c_test c_words_10 c_ill c_before c_inRow c_first c_inWindow c_same c_made_6 c_requests_7 c_total_9 c_secrets_8 c_rounds c_high c_low c_keyHigh c_keyLow r_31 c_counters_32 hc_) (cwV 1 hts gX10_make_X10_answer rfl rfl rfl (by decide +kernel) ⟨Nat.le_of_ble_eq_true rfl, Nat.le_of_ble_eq_true rfl⟩) ⟨zblind, va_recv hK hP (ci := 12) (q0 := 0) rfl rfl, zpre hE hS (hP.sub [0, 4] rfl) (hD.sub [0, 4] (by decide) rfl) (va_free hD hS hA [0, 4] rfl)⟩ rfl rfl hl.1 rfl (lv_room (Nat.le_of_ble_eq_true rfl)) (zdt_at zt_X10_make_0 60 rfl) ⟨Nat.zero_le _, Nat.zero_le _⟩) hS hP hD (va_free hD hS hA [0, 4] rfl) [0, 4] rfl (by decide) rfl ?_
      clear hP hD hS hc_
      intro H locs hP hD hS
      replace hP : va_P D vwCl ([(h0, .inr (12, zmo hm (0 : Int32) c_state c_test c_words_10 c_ill c_before c_inRow c_first c_inWindow c_same c_made_6 c_requests_7 c_total_9 c_secrets_8 c_rounds c_high c_low c_keyHigh c_keyLow)), ((hm 0), .inl (cy 1, 64, .inl c_ROUND)), ((hm 47), .inl (cy 1, 8, .inl c_START)), ((hm 6), .inl (cy 1, 512, .inl c_buffer)), ((hm 5), .inl (cy 1, 3, .inl c_counters_32)), ((hm 35), .inl (cy 1, 32, .inl c_digest_11)), ((hm 30), .inl (cy 1, 8, .inl c_h_12)), ((hm 12), .inl (cy 1, 16, .inl c_holder_22)), ((hm 36), .inl (cy 1, 32, .inl c_inner_13)), ((hm 25), .inl (cy 1, 32, .inl c_k_14)), ((hm 14), .inl (cy 1, 1024, .inl c_keys_29)), ((hm 9), .inl (cy 1, 16, .inl c_kind_23)), ((hm 10), .inl (cy 1, 16, .inl c_length_24)), ((hm 33), .inl (cy 1, 64, .inl c_message_15)), ((hm 45), .inl (cy 1, 600, .inl c_result_16)), ((hm 37), .inl (cy 1, 64, .inl c_secret_17)), ((hm 11), .inl (cy 1, 16, .inl c_usage_25)), ((hm 13), .inl (cy 1, 16, .inl c_uses_26)), ((hm 26), .inl (cy 1, 32, .inl c_v_18)), ((hm 31), .inl (cy 1, 64, .inl c_w_19)), ((hm 16), .inl (cy 1, 64, .inl c_word_20)), ((hm 32), .inl (cy 1, 8, .inl c_x_21))]) H := hP
      replace hD : va_D A ([(h0, .inr (12, zmo hm (0 : Int32) c_state c_test c_words_10 c_ill c_before c_inRow c_first c_inWindow c_same c_made_6 c_requests_7 c_total_9 c_secrets_8 c_rounds c_high c_low c_keyHigh c_keyLow)), ((hm 0), .inl (cy 1, 64, .inl c_ROUND)), ((hm 47), .inl (cy 1, 8, .inl c_START)), ((hm 6), .inl (cy 1, 512, .inl c_buffer)), ((hm 5), .inl (cy 1, 3, .inl c_counters_32)), ((hm 35), .inl (cy 1, 32, .inl c_digest_11)), ((hm 30), .inl (cy 1, 8, .inl c_h_12)), ((hm 12), .inl (cy 1, 16, .inl c_holder_22)), ((hm 36), .inl (cy 1, 32, .inl c_inner_13)), ((hm 25), .inl (cy 1, 32, .inl c_k_14)), ((hm 14), .inl (cy 1, 1024, .inl c_keys_29)), ((hm 9), .inl (cy 1, 16, .inl c_kind_23)), ((hm 10), .inl (cy 1, 16, .inl c_length_24)), ((hm 33), .inl (cy 1, 64, .inl c_message_15)), ((hm 45), .inl (cy 1, 600, .inl c_result_16)), ((hm 37), .inl (cy 1, 64, .inl c_secret_17)), ((hm 11), .inl (cy 1, 16, .inl c_usage_25)), ((hm 13), .inl (cy 1, 16, .inl c_uses_26)), ((hm 26), .inl (cy 1, 32, .inl c_v_18)), ((hm 31), .inl (cy 1, 64, .inl c_w_19)), ((hm 16), .inl (cy 1, 64, .inl c_word_20)), ((hm 32), .inl (cy 1, 8, .inl c_x_21))]) := hD
      refine W.eq (g2 := F0 m 111 ls [.int r_31]) rfl ?_
      cases hf
      exact W.iret (pc := 111) hx hb hr (fun t ht hW => ⟨rfl, ⟨by rw [ht]; exact hP, hD⟩, hS.F ht⟩) hS.2.2 (zdt_at zt_X10_make_0 61 rfl)
    clear eK_30
    refine hTo _ _ _ (zl_go (fun z => match z with | (i_27, c_keys_28) => ∀ (H : Heap) (locs : List Loc) (ls : Array Slot), va_P D vwCl ([(h0, .inr (12, zmo hm (0 : Int32) c_state c_test c_words_10 c_ill c_before c_inRow c_first c_inWindow c_same c_made_6 c_requests_7 c_total_9 c_secrets_8 c_rounds c_high c_low c_keyHigh c_keyLow)), ((hm 0), .inl (cy 1, 64, .inl c_ROUND)), ((hm 47), .inl (cy 1, 8, .inl c_START)), ((hm 6), .inl (cy 1, 512, .inl c_buffer)), ((hm 5), .inl (cy 1, 3, .inl c_counters)), ((hm 35), .inl (cy 1, 32, .inl c_digest_11)), ((hm 30), .inl (cy 1, 8, .inl c_h_12)), ((hm 12), .inl (cy 1, 16, .inl c_holder_22)), ((hm 36), .inl (cy 1, 32, .inl c_inner_13)), ((hm 25), .inl (cy 1, 32, .inl c_k_14)), ((hm 14), .inl (cy 1, 1024, .inl c_keys_28)), ((hm 9), .inl (cy 1, 16, .inl c_kind_23)), ((hm 10), .inl (cy 1, 16, .inl c_length_24)), ((hm 33), .inl (cy 1, 64, .inl c_message_15)), ((hm 45), .inl (cy 1, 600, .inl c_result_16)), ((hm 37), .inl (cy 1, 64, .inl c_secret_17)), ((hm 11), .inl (cy 1, 16, .inl c_usage_25)), ((hm 13), .inl (cy 1, 16, .inl c_uses_26)), ((hm 26), .inl (cy 1, 32, .inl c_v_18)), ((hm 31), .inl (cy 1, 64, .inl c_w_19)), ((hm 16), .inl (cy 1, 64, .inl c_word_20)), ((hm 32), .inl (cy 1, 8, .inl c_x_21))]) H → va_D A ([(h0, .inr (12, zmo hm (0 : Int32) c_state c_test c_words_10 c_ill c_before c_inRow c_first c_inWindow c_same c_made_6 c_requests_7 c_total_9 c_secrets_8 c_rounds c_high c_low c_keyHigh c_keyLow)), ((hm 0), .inl (cy 1, 64, .inl c_ROUND)), ((hm 47), .inl (cy 1, 8, .inl c_START)), ((hm 6), .inl (cy 1, 512, .inl c_buffer)), ((hm 5), .inl (cy 1, 3, .inl c_counters)), ((hm 35), .inl (cy 1, 32, .inl c_digest_11)), ((hm 30), .inl (cy 1, 8, .inl c_h_12)), ((hm 12), .inl (cy 1, 16, .inl c_holder_22)), ((hm 36), .inl (cy 1, 32, .inl c_inner_13)), ((hm 25), .inl (cy 1, 32, .inl c_k_14)), ((hm 14), .inl (cy 1, 1024, .inl c_keys_28)), ((hm 9), .inl (cy 1, 16, .inl c_kind_23)), ((hm 10), .inl (cy 1, 16, .inl c_length_24)), ((hm 33), .inl (cy 1, 64, .inl c_message_15)), ((hm 45), .inl (cy 1, 600, .inl c_result_16)), ((hm 37), .inl (cy 1, 64, .inl c_secret_17)), ((hm 11), .inl (cy 1, 16, .inl c_usage_25)), ((hm 13), .inl (cy 1, 16, .inl c_uses_26)), ((hm 26), .inl (cy 1, 32, .inl c_v_18)), ((hm 31), .inl (cy 1, 64, .inl c_w_19)), ((hm 16), .inl (cy 1, 64, .inl c_word_20)), ((hm 32), .inl (cy 1, 8, .inl c_x_21))]) → va_S A s.heap H locs → lv_has ls 9 [(0, .ref h0), (1, .int p1), (6, .int p6), (8, .int i_27)] → GW H locs (F0 m 71 ls [])) hf ?_ H locs ls hP hD hS (lv_sub hl [1, 2, 7, 0] rfl))
    clear hf hl hP hD hS
    intro self_33 ihself_33 z hf
    obtain ⟨i_27, c_keys_28⟩ := z
    intro H locs ls hP hD hS hl
    refine hFr _ _ _ ?_
    unfold b_X10_make_71 at hf
    refine lv_iload (pc := 71) hx hb (zdt_at zt_X10_make_0 39 rfl) (lv_at hl 3 rfl) ?_
    refine lv_iload (pc := 73) hx hb (zdt_at zt_X10_make_0 40 rfl) (lv_at hl 2 rfl) ?_
    refine lv_icmp_ge (pc := 75) (tgt := 106) hx hb (zdt_at zt_X10_make_0 41 rfl) (by decide) (fun cn_ => ?t_34) (fun cn_ => ?f_35)
    case t_34 =>
      replace hf := zt_s cn_ hf
      clear cn_
      exact hTo _ _ _ (kK_30 _ H locs ls hP hD hS (lv_sub hl [0] rfl) hf)
    replace hf := ze_s cn_ hf
    clear cn_
    refine lv_aload_n (pc := 78) hx hb (zdt_at zt_X10_make_0 42 rfl) rfl (lv_at hl 0 rfl) ?_
    refine va_get (pc := 79) (D := D) (ci := 12) (v := .ref (hm 14)) (C := RX10) (T := TX10) (N := 52) hx hb hts hcX10 hown hK hP 0 rfl rfl 14 (by decide) hw1 (fun _ h9 => h9) rfl (zdt_at zt_X10_make_0 43 rfl) ?_
    refine lv_bipush (pc := 82) (v := (64 : Int32)) hx hb (zdt_at zt_X10_make_0 44 rfl) (by decide) ?_
    refine lv_iload_n (pc := 84) hx hb (zdt_at zt_X10_make_0 45 rfl) rfl (lv_at hl 1 rfl) ?_
    refine lv_imul (pc := 85) hx hb (zdt_at zt_X10_make_0 46 rfl) ?_
    refine lv_iload (pc := 86) hx hb (zdt_at zt_X10_make_0 47 rfl) (lv_at hl 3 rfl) ?_
    refine lv_iadd (pc := 88) hx hb (zdt_at zt_X10_make_0 48 rfl) ?_
    refine lv_aload_n (pc := 89) hx hb (zdt_at zt_X10_make_0 49 rfl) rfl (lv_at hl 0 rfl) ?_
    refine va_get (pc := 90) (D := D) (ci := 12) (v := .ref (hm 45)) (C := RX10) (T := TX10) (N := 52) hx hb hts hcX10 hown hK hP 0 rfl rfl 45 (by decide) hw2 (fun _ h9 => h9) rfl (zdt_at zt_X10_make_0 50 rfl) ?_
    refine lv_bipush (pc := 93) (v := (64 : Int32)) hx hb (zdt_at zt_X10_make_0 51 rfl) (by decide) ?_
    refine lv_iload (pc := 95) hx hb (zdt_at zt_X10_make_0 52 rfl) (lv_at hl 3 rfl) ?_
    refine lv_iadd (pc := 97) hx hb (zdt_at zt_X10_make_0 53 rfl) ?_
    replace hf := zk_s hf
    refine va_iald (pc := 98) hx hb hK hP 14 1 rfl rfl hf.1 (zdt_at zt_X10_make_0 54 rfl) ?_
    replace hf := hf.2
    replace hf := zk_s hf
    refine va_iast (pc := 99) hx hb hK hP hD hS 10 1 rfl rfl hf.1 (zdt_at zt_X10_make_0 55 rfl) ?_
    replace hf := hf.2
    clear hP hD hS
    intro H locs hP hD hS
    obtain ⟨c_keys_36, e_⟩ : ∃ q : Nat → Int32, q = (upd c_keys_28 (((64 : Int32) * p1) + i_27).toNatClampNeg (c_result_16 ((64 : Int32) + i_27).toNatClampNeg)) := ⟨_, rfl⟩
    replace hf := zn_s hf e_
    replace hP : va_P D vwCl ([(h0, .inr (12, zmo hm (0 : Int32) c_state c_test c_words_10 c_ill c_before c_inRow c_first c_inWindow c_same c_made_6 c_requests_7 c_total_9 c_secrets_8 c_rounds c_high c_low c_keyHigh c_keyLow)), ((hm 0), .inl (cy 1, 64, .inl c_ROUND)), ((hm 47), .inl (cy 1, 8, .inl c_START)), ((hm 6), .inl (cy 1, 512, .inl c_buffer)), ((hm 5), .inl (cy 1, 3, .inl c_counters)), ((hm 35), .inl (cy 1, 32, .inl c_digest_11)), ((hm 30), .inl (cy 1, 8, .inl c_h_12)), ((hm 12), .inl (cy 1, 16, .inl c_holder_22)), ((hm 36), .inl (cy 1, 32, .inl c_inner_13)), ((hm 25), .inl (cy 1, 32, .inl c_k_14)), ((hm 14), .inl (cy 1, 1024, .inl c_keys_36)), ((hm 9), .inl (cy 1, 16, .inl c_kind_23)), ((hm 10), .inl (cy 1, 16, .inl c_length_24)), ((hm 33), .inl (cy 1, 64, .inl c_message_15)), ((hm 45), .inl (cy 1, 600, .inl c_result_16)), ((hm 37), .inl (cy 1, 64, .inl c_secret_17)), ((hm 11), .inl (cy 1, 16, .inl c_usage_25)), ((hm 13), .inl (cy 1, 16, .inl c_uses_26)), ((hm 26), .inl (cy 1, 32, .inl c_v_18)), ((hm 31), .inl (cy 1, 64, .inl c_w_19)), ((hm 16), .inl (cy 1, 64, .inl c_word_20)), ((hm 32), .inl (cy 1, 8, .inl c_x_21))]) H := by rw [e_]; exact hP
    replace hD : va_D A ([(h0, .inr (12, zmo hm (0 : Int32) c_state c_test c_words_10 c_ill c_before c_inRow c_first c_inWindow c_same c_made_6 c_requests_7 c_total_9 c_secrets_8 c_rounds c_high c_low c_keyHigh c_keyLow)), ((hm 0), .inl (cy 1, 64, .inl c_ROUND)), ((hm 47), .inl (cy 1, 8, .inl c_START)), ((hm 6), .inl (cy 1, 512, .inl c_buffer)), ((hm 5), .inl (cy 1, 3, .inl c_counters)), ((hm 35), .inl (cy 1, 32, .inl c_digest_11)), ((hm 30), .inl (cy 1, 8, .inl c_h_12)), ((hm 12), .inl (cy 1, 16, .inl c_holder_22)), ((hm 36), .inl (cy 1, 32, .inl c_inner_13)), ((hm 25), .inl (cy 1, 32, .inl c_k_14)), ((hm 14), .inl (cy 1, 1024, .inl c_keys_36)), ((hm 9), .inl (cy 1, 16, .inl c_kind_23)), ((hm 10), .inl (cy 1, 16, .inl c_length_24)), ((hm 33), .inl (cy 1, 64, .inl c_message_15)), ((hm 45), .inl (cy 1, 600, .inl c_result_16)), ((hm 37), .inl (cy 1, 64, .inl c_secret_17)), ((hm 11), .inl (cy 1, 16, .inl c_usage_25)), ((hm 13), .inl (cy 1, 16, .inl c_uses_26)), ((hm 26), .inl (cy 1, 32, .inl c_v_18)), ((hm 31), .inl (cy 1, 64, .inl c_w_19)), ((hm 16), .inl (cy 1, 64, .inl c_word_20)), ((hm 32), .inl (cy 1, 8, .inl c_x_21))]) := by rw [e_]; exact hD
    clear e_
    refine lv_iinc (pc := 100) (v := (i_27 + (1 : Int32))) (lv' := [(8, .int (i_27 + (1 : Int32))), (0, .ref h0), (1, .int p1), (6, .int p6)]) hx hb (zdt_at zt_X10_make_0 56 rfl) hl (k := 3) rfl rfl (by decide) rfl ?_
    clear hl
    intro ls hl
    refine lv_goto (pc := 103) (tgt := 71) hx hb (zdt_at zt_X10_make_0 57 rfl) (by decide) ?_
    exact hTo _ _ _ (ihself_33 _ hf H locs ls hP hD hS (lv_sub hl [1, 2, 3, 0] rfl))
  clear eK_3
  refine lv_if_ne (pc := 22) (tgt := 36) hx hb (zdt_at zt_X10_make_0 13 rfl) (by decide) (fun cn_ => ?t_39) (fun cn_ => ?f_40)
  case t_39 =>
    replace hf := ze_s cn_ hf
    clear cn_
    exact hTo _ _ _ (kK_3 _ H locs ls hP hD hS (lv_sub hl [1, 2, 3, 4, 5, 6, 7, 0] rfl) hf)
  replace hf := zt_s cn_ hf
  clear cn_
  refine lv_aload_n (pc := 25) hx hb (zdt_at zt_X10_make_0 14 rfl) rfl (lv_at hl 1 rfl) ?_
  replace hf := zb_s hf
  obtain ⟨r_41, hc_, hf⟩ := hf
  refine zcs (pc := 26) (rv := (some (.int r_41))) (va_runV (As := []) (rest := []) ⟨hx, hb, hml, hown, hts⟩ (c_X10_canGenerate l D cy tt H.size h0 hm c_ill c_made c_requests c_words (0 : Int32) c_state c_test c_before c_inRow c_first c_inWindow c_same c_total c_secrets c_rounds c_high c_low c_keyHigh c_keyLow r_41 hc_) (cwV 0 hts gX10_make_X10_canGenerate rfl rfl rfl (by decide +kernel) ⟨Nat.le_of_ble_eq_true rfl, Nat.le_of_ble_eq_true rfl⟩) ⟨zblind, va_recv hK hP (ci := 12) (q0 := 0) rfl rfl, zpre hE hS (hP.sub [0] rfl) (hD.sub [0] (by decide) rfl) (va_free hD hS hA [0] rfl)⟩ rfl rfl hl.1 rfl (lv_room (Nat.le_of_ble_eq_true rfl)) (zdt_at zt_X10_make_0 15 rfl) ⟨Nat.zero_le _, Nat.zero_le _⟩) ?_
  clear hc_
  refine W.eq (g2 := F0 m 29 ls [.int r_41]) rfl ?_
  refine lv_if_ne (pc := 29) (tgt := 36) hx hb (zdt_at zt_X10_make_0 16 rfl) (by decide) (fun cn_ => ?t_42) (fun cn_ => ?f_43)
  case t_42 =>
    replace hf := ze_s cn_ hf
    clear cn_
    exact hTo _ _ _ (kK_3 _ H locs ls hP hD hS (lv_sub hl [1, 2, 3, 4, 5, 6, 7, 0] rfl) hf)
  replace hf := zt_s cn_ hf
  clear cn_
  refine lv_bipush (pc := 32) (v := (-8 : Int32)) hx hb (zdt_at zt_X10_make_0 17 rfl) (by decide) ?_
  refine lv_istore (pc := 34) (lv' := [(7, .int (-8 : Int32)), (0, .ref h0), (1, .int p1), (2, .int p2), (3, .int p3), (4, .int p4), (5, .int p5), (6, .int p6)]) hx hb (zdt_at zt_X10_make_0 18 rfl) hl (by decide) rfl ?_
  clear hl
  intro ls hl
  exact hTo _ _ _ (kK_3 _ H locs ls hP hD hS (lv_sub hl [1, 2, 3, 4, 5, 6, 7, 0] rfl) hf)
set_option maxHeartbeats 4000000 in
set_option maxRecDepth 100000 in
theorem c_X10_use (l : Launch) (D : va_G) (cy : Nat → ClassId) (tt : Nat → Nat) (sz : Nat) (h0 : Nat) (hm : Nat → Nat) (p1 : Int32) (c_uses : Nat → Int32) (c_thrown : Int32) (c_state : Int32) (c_test : Int32) (c_words : Int32) (c_ill : Int32) (c_before : Int32) (c_inRow : Int32) (c_first : Int32) (c_inWindow : Int32) (c_same : Int32) (c_made : Int32) (c_requests : Int32) (c_total : Int64) (c_secrets : Int32) (c_rounds : Int32) (c_high : Int64) (c_low : Int64) (c_keyHigh : Int64) (c_keyLow : Int64) (c_uses' : Nat → Int32) (hf : f_X10_use p1 c_uses = some c_uses') : Met l yX10_use wsX10_use ({ frames := 0, cells := 0, slots := 0, locals := 0 }) (zPc D cy tt sz [.ref h0, .int p1] ([(h0, .inr (12, zmo hm c_thrown c_state c_test c_words c_ill c_before c_inRow c_first c_inWindow c_same c_made c_requests c_total c_secrets c_rounds c_high c_low c_keyHigh c_keyLow)), ((hm 13), .inl (cy 1, 16, .inl c_uses))])) (zQ D none ([(h0, .inr (12, zmo hm c_thrown c_state c_test c_words c_ill c_before c_inRow c_first c_inWindow c_same c_made c_requests c_total c_secrets c_rounds c_high c_low c_keyHigh c_keyLow)), ((hm 13), .inl (cy 1, 16, .inl c_uses'))]) (va_A ([(h0, .inr (12, zmo hm c_thrown c_state c_test c_words c_ill c_before c_inRow c_first c_inWindow c_same c_made c_requests c_total c_secrets c_rounds c_high c_low c_keyHigh c_keyLow)), ((hm 13), .inl (cy 1, 16, .inl c_uses))]) sz)) 0 0 (va_A ([(h0, .inr (12, zmo hm c_thrown c_state c_test c_words c_ill c_before c_inRow c_first c_inWindow c_same c_made c_requests c_total c_secrets c_rounds c_high c_low c_keyHigh c_keyLow)), ((hm 13), .inl (cy 1, 16, .inl c_uses))]) sz) := by
  refine Met.ofW (cc := cX10_use) (maxL := 2) (ret := none) (by decide) rfl ?_
  intro p e s m args below meth c s₁ B hml hv
  obtain ⟨rfl, rfl, hP, hD0, hE⟩ := hv
  have hx := B.exec
  have hb := B.bytes
  have hr := B.returns
  have hts := atoms_spec (ws := wsX10_use) B.pre
  have hown : s.vm.findClass RX10 = some m.cls := findClass_of_methodNamed B.named
  have hlocks := B.notSynchronized
  clear B
  have hD := hD0.self (sz := s.heap.size)
  generalize hAe : va_A ([(h0, .inr (12, zmo hm c_thrown c_state c_test c_words c_ill c_before c_inRow c_first c_inWindow c_same c_made c_requests c_total c_secrets c_rounds c_high c_low c_keyHigh c_keyLow)), ((hm 13), .inl (cy 1, 16, .inl c_uses))]) s.heap.size = A at hD hE ⊢
  have hA : ∀ q : Nat, s.heap.size ≤ q → A q := fun q h => by rw [← hAe]; exact Or.inr h
  clear hAe hD0
  have hS : va_S A s.heap s.heap [] := va_S.rf
  have hK := hE.1
  have hw0 := hts (.fieldLink RX10 105 "SealedModuleModel" "uses" "[I") (by decide +kernel)
  have hcX10 : ∀ w ∈ u_ws RX10 TX10 52, w ∈ wsX10_use := (fun _ h => List.mem_cons_of_mem _ (List.mem_append_right _ h))
  have hl := lv_entry ([.ref h0, .int p1]) (n := 2) (Nat.le_of_ble_eq_true rfl)
  rw [lg_entry_eq]
  generalize (lg_sl ([.ref h0, .int p1]) ++ List.replicate (2 - (lg_sl ([.ref h0, .int p1])).length) Slot.unset).toArray = ls at hl ⊢
  replace hl : lv_has ls 2 [(0, .ref h0), (1, .int p1)] := hl
  unfold f_X10_use at hf
  refine zgo (fun GW hTo hFr => ?_)
  refine hFr _ _ _ ?_
  obtain ⟨H, hHe⟩ : ∃ H, H = s.heap := ⟨_, rfl⟩
  obtain ⟨locs, hLe⟩ : ∃ L : List Loc, L = [] := ⟨_, rfl⟩
  rw [← hHe] at hP
  replace hS : va_S A s.heap H locs := by rw [hHe, hLe]; exact hS
  refine zat hHe.symm hLe.symm ?_
  clear hHe hLe
  refine lv_aload_n (pc := 0) hx hb (zdt_at zt_X10_use_0 0 rfl) rfl (lv_at hl 0 rfl) ?_
  refine va_get (pc := 1) (D := D) (ci := 12) (v := .ref (hm 13)) (C := RX10) (T := TX10) (N := 52) hx hb hts hcX10 hown hK hP 0 rfl rfl 13 (by decide) hw0 (fun _ h9 => h9) rfl (zdt_at zt_X10_use_0 1 rfl) ?_
  refine lv_iload_n (pc := 4) hx hb (zdt_at zt_X10_use_0 2 rfl) rfl (lv_at hl 1 rfl) ?_
  replace hf := zk_s hf
  refine va_iald (pc := 5) hx hb hK hP 1 1 rfl rfl hf.1 (zdt_at zt_X10_use_0 3 rfl) ?_
  replace hf := hf.2
  refine lv_if_le (pc := 6) (tgt := 19) hx hb (zdt_at zt_X10_use_0 4 rfl) (by decide) (fun cn_ => ?t_1) (fun cn_ => ?f_2)
  case t_1 =>
    replace hf := zt_s cn_ hf
    clear cn_
    cases hf
    exact W.vret (pc := 19) hx hb hr (fun t ht hW => ⟨rfl, ⟨by rw [ht]; exact hP, hD⟩, hS.F ht⟩) hS.2.2 (zdt_at zt_X10_use_0 13 rfl)
  replace hf := ze_s cn_ hf
  clear cn_
  refine lv_aload_n (pc := 9) hx hb (zdt_at zt_X10_use_0 5 rfl) rfl (lv_at hl 0 rfl) ?_
  refine va_get (pc := 10) (D := D) (ci := 12) (v := .ref (hm 13)) (C := RX10) (T := TX10) (N := 52) hx hb hts hcX10 hown hK hP 0 rfl rfl 13 (by decide) hw0 (fun _ h9 => h9) rfl (zdt_at zt_X10_use_0 6 rfl) ?_
  refine lv_iload_n (pc := 13) hx hb (zdt_at zt_X10_use_0 7 rfl) rfl (lv_at hl 1 rfl) ?_
  refine lv_dup2_11 (pc := 14) hx hb (zdt_at zt_X10_use_0 8 rfl) rfl rfl ?_
  replace hf := zk_s hf
  refine va_iald (pc := 15) hx hb hK hP 1 1 rfl rfl hf.1 (zdt_at zt_X10_use_0 9 rfl) ?_
  replace hf := hf.2
  refine lv_iconst (pc := 16) (v := (1 : Int32)) hx hb (zdt_at zt_X10_use_0 10 rfl) (by decide) ?_
  refine lv_isub (pc := 17) hx hb (zdt_at zt_X10_use_0 11 rfl) ?_
  replace hf := zk_s hf
  refine va_iast (pc := 18) hx hb hK hP hD hS 1 1 rfl rfl hf.1 (zdt_at zt_X10_use_0 12 rfl) ?_
  replace hf := hf.2
  clear hP hD hS
  intro H locs hP hD hS
  obtain ⟨c_uses_3, e_⟩ : ∃ q : Nat → Int32, q = (upd c_uses p1.toNatClampNeg ((c_uses p1.toNatClampNeg) - (1 : Int32))) := ⟨_, rfl⟩
  replace hf := zn_s hf e_
  replace hP : va_P D vwCl ([(h0, .inr (12, zmo hm c_thrown c_state c_test c_words c_ill c_before c_inRow c_first c_inWindow c_same c_made c_requests c_total c_secrets c_rounds c_high c_low c_keyHigh c_keyLow)), ((hm 13), .inl (cy 1, 16, .inl c_uses_3))]) H := by rw [e_]; exact hP
  replace hD : va_D A ([(h0, .inr (12, zmo hm c_thrown c_state c_test c_words c_ill c_before c_inRow c_first c_inWindow c_same c_made c_requests c_total c_secrets c_rounds c_high c_low c_keyHigh c_keyLow)), ((hm 13), .inl (cy 1, 16, .inl c_uses_3))]) := by rw [e_]; exact hD
  clear e_
  cases hf
  exact W.vret (pc := 19) hx hb hr (fun t ht hW => ⟨rfl, ⟨by rw [ht]; exact hP, hD⟩, hS.F ht⟩) hS.2.2 (zdt_at zt_X10_use_0 13 rfl)
