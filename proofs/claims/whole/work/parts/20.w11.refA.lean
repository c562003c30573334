set_option maxHeartbeats 4000000 in
set_option maxRecDepth 100000 in
theorem c_X10_thrown (l : Launch) (D : va_G) (cy : Nat → ClassId) (tt : Nat → Nat) (sz : Nat) (h0 : Nat) (hm : Nat → Nat) (c_thrown : Int32) (c_state : Int32) (c_test : Int32) (c_words : Int32) (c_ill : Int32) (c_before : Int32) (c_inRow : Int32) (c_first : Int32) (c_inWindow : Int32) (c_same : Int32) (c_made : Int32) (c_requests : Int32) (c_total : Int64) (c_secrets : Int32) (c_rounds : Int32) (c_high : Int64) (c_low : Int64) (c_keyHigh : Int64) (c_keyLow : Int64) (r_ : Int32) (hf : f_X10_thrown c_thrown = some r_) : Met l yX10_thrown wsX10_thrown ({ frames := 0, cells := 0, slots := 0, locals := 0 }) (zPc D cy tt sz [.ref h0] ([(h0, .inr (12, zmo hm c_thrown c_state c_test c_words c_ill c_before c_inRow c_first c_inWindow c_same c_made c_requests c_total c_secrets c_rounds c_high c_low c_keyHigh c_keyLow))])) (fun _ st o t => o = .returned (some (.int r_)) ∧ t.heap = st.heap) 0 0 (fun _ => False) := by
  refine Met.ofW (cc := cX10_thrown) (maxL := 1) (ret := (some .int)) (by decide) rfl ?_
  intro p e s m args below meth c s₁ B hml hv
  obtain ⟨rfl, rfl, hP, hD0, hE⟩ := hv
  have hx := B.exec
  have hb := B.bytes
  have hr := B.returns
  have hts := atoms_spec (ws := wsX10_thrown) B.pre
  have hown : s.vm.findClass RX10 = some m.cls := findClass_of_methodNamed B.named
  have hlocks := B.notSynchronized
  clear B
  have hD := hD0.self (sz := s.heap.size)
  generalize hAe : va_A ([(h0, .inr (12, zmo hm c_thrown c_state c_test c_words c_ill c_before c_inRow c_first c_inWindow c_same c_made c_requests c_total c_secrets c_rounds c_high c_low c_keyHigh c_keyLow))]) s.heap.size = A at hD hE
  have hA : ∀ q : Nat, s.heap.size ≤ q → A q := fun q h => by rw [← hAe]; exact Or.inr h
  clear hAe hD0
  have hS : va_S A s.heap s.heap [] := va_S.rf
  have hK := hE.1
  have hw0 := hts (.fieldLink RX10 189 "SealedModuleModel" "thrown" "I") (by decide +kernel)
  have hcX10 : ∀ w ∈ u_ws RX10 TX10 52, w ∈ wsX10_thrown := (fun _ h => List.mem_cons_of_mem _ (List.mem_append_right _ h))
  have hl := lv_entry ([.ref h0]) (n := 1) (Nat.le_of_ble_eq_true rfl)
  rw [lg_entry_eq]
  generalize (lg_sl ([.ref h0]) ++ List.replicate (1 - (lg_sl ([.ref h0])).length) Slot.unset).toArray = ls at hl ⊢
  replace hl : lv_has ls 1 [(0, .ref h0)] := hl
  unfold f_X10_thrown at hf
  refine zgo (fun GW hTo hFr => ?_)
  refine hFr _ _ _ ?_
  refine lv_aload_n (pc := 0) hx hb (zdt_at zt_X10_thrown_0 0 rfl) rfl (lv_at hl 0 rfl) ?_
  refine va_get (pc := 1) (D := D) (ci := 12) (v := .int c_thrown) (C := RX10) (T := TX10) (N := 52) hx hb hts hcX10 hown hK hP 0 rfl rfl 1 (by decide) hw0 (fun _ h9 => h9) rfl (zdt_at zt_X10_thrown_0 1 rfl) ?_
  cases hf
  exact W.iret (pc := 4) hx hb hr (fun t ht hW => ⟨rfl, ht⟩) (fun _ h => nomatch h) (zdt_at zt_X10_thrown_0 2 rfl)
set_option maxHeartbeats 4000000 in
set_option maxRecDepth 100000 in
theorem c_X10_in (l : Launch) (D : va_G) (cy : Nat → ClassId) (tt : Nat → Nat) (sz : Nat) (p0 : Int32) (p1 : Int32) (p2 : Int32) (r_ : Int32) (hf : f_X10_in p0 p1 p2 = some r_) : Met l yX10_in wsX10_in ({ frames := 0, cells := 0, slots := 0, locals := 0 }) (zPc D cy tt sz [.int p0, .int p1, .int p2] ([])) (fun _ st o t => o = .returned (some (.int r_)) ∧ t.heap = st.heap) 0 0 (fun _ => False) := by
  refine Met.ofW (cc := cX10_in) (maxL := 3) (ret := (some .boolean)) (by decide) rfl ?_
  intro p e s m args below meth c s₁ B hml hv
  obtain ⟨rfl, rfl, hP, hD0, hE⟩ := hv
  have hx := B.exec
  have hb := B.bytes
  have hr := B.returns
  have hts := atoms_spec (ws := wsX10_in) B.pre
  have hown : s.vm.findClass RX10 = some m.cls := findClass_of_methodNamed B.named
  have hlocks := B.notSynchronized
  clear B
  have hD := hD0.self (sz := s.heap.size)
  generalize hAe : va_A ([]) s.heap.size = A at hD hE
  have hA : ∀ q : Nat, s.heap.size ≤ q → A q := fun q h => by rw [← hAe]; exact Or.inr h
  clear hAe hD0
  have hS : va_S A s.heap s.heap [] := va_S.rf
  have hK := hE.1
  have hl := lv_entry ([.int p0, .int p1, .int p2]) (n := 3) (Nat.le_of_ble_eq_true rfl)
  rw [lg_entry_eq]
  generalize (lg_sl ([.int p0, .int p1, .int p2]) ++ List.replicate (3 - (lg_sl ([.int p0, .int p1, .int p2])).length) Slot.unset).toArray = ls at hl ⊢
  replace hl : lv_has ls 3 [(0, .int p0), (1, .int p1), (2, .int p2)] := hl
  unfold f_X10_in at hf
  refine zgo (fun GW hTo hFr => ?_)
  refine hFr _ _ _ ?_
  refine lv_iload_n (pc := 0) hx hb (zdt_at zt_X10_in_0 0 rfl) rfl (lv_at hl 0 rfl) ?_
  refine lv_iload_n (pc := 1) hx hb (zdt_at zt_X10_in_0 1 rfl) rfl (lv_at hl 1 rfl) ?_
  refine lv_icmp_lt (pc := 2) (tgt := 14) hx hb (zdt_at zt_X10_in_0 2 rfl) (by decide) (fun cn_ => ?t_1) (fun cn_ => ?f_2)
  case t_1 =>
    replace hf := zt_s cn_ hf
    clear cn_
    refine lv_iconst (pc := 14) (v := (0 : Int32)) hx hb (zdt_at zt_X10_in_0 8 rfl) (by decide) ?_
    cases hf
    exact W.zret (pc := 15) hx hb hr rfl (fun t ht hW => ⟨rfl, ht⟩) (fun _ h => nomatch h) (zdt_at zt_X10_in_0 9 rfl)
  replace hf := ze_s cn_ hf
  clear cn_
  refine lv_iload_n (pc := 5) hx hb (zdt_at zt_X10_in_0 3 rfl) rfl (lv_at hl 0 rfl) ?_
  refine lv_iload_n (pc := 6) hx hb (zdt_at zt_X10_in_0 4 rfl) rfl (lv_at hl 2 rfl) ?_
  refine lv_icmp_gt (pc := 7) (tgt := 14) hx hb (zdt_at zt_X10_in_0 5 rfl) (by decide) (fun cn_ => ?t_3) (fun cn_ => ?f_4)
  case t_3 =>
    replace hf := zt_s cn_ hf
    clear cn_
    refine lv_iconst (pc := 14) (v := (0 : Int32)) hx hb (zdt_at zt_X10_in_0 8 rfl) (by decide) ?_
    cases hf
    exact W.zret (pc := 15) hx hb hr rfl (fun t ht hW => ⟨rfl, ht⟩) (fun _ h => nomatch h) (zdt_at zt_X10_in_0 9 rfl)
  replace hf := ze_s cn_ hf
  clear cn_
  refine lv_iconst (pc := 10) (v := (1 : Int32)) hx hb (zdt_at zt_X10_in_0 6 rfl) (by decide) ?_
  refine lv_goto (pc := 11) (tgt := 15) hx hb (zdt_at zt_X10_in_0 7 rfl) (by decide) ?_
  cases hf
  exact W.zret (pc := 15) hx hb hr rfl (fun t ht hW => ⟨rfl, ht⟩) (fun _ h => nomatch h) (zdt_at zt_X10_in_0 9 rfl)
set_option maxHeartbeats 4000000 in
set_option maxRecDepth 100000 in
theorem c_X10_times (l : Launch) (D : va_G) (cy : Nat → ClassId) (tt : Nat → Nat) (sz : Nat) (p0 : Int32) (p1 : Int32) (r_ : Int32) (hf : f_X10_times p0 p1 = some r_) : Met l yX10_times wsX10_times ({ frames := 0, cells := 0, slots := 0, locals := 0 }) (zPc D cy tt sz [.int p0, .int p1] ([])) (fun _ st o t => o = .returned (some (.int r_)) ∧ t.heap = st.heap) 0 0 (fun _ => False) := by
  refine Met.ofW (cc := cX10_times) (maxL := 5) (ret := (some .int)) (by decide) rfl ?_
  intro p e s m args below meth c s₁ B hml hv
  obtain ⟨rfl, rfl, hP, hD0, hE⟩ := hv
  have hx := B.exec
  have hb := B.bytes
  have hr := B.returns
  have hts := atoms_spec (ws := wsX10_times) B.pre
  have hown : s.vm.findClass RX10 = some m.cls := findClass_of_methodNamed B.named
  have hlocks := B.notSynchronized
  clear B
  have hD := hD0.self (sz := s.heap.size)
  generalize hAe : va_A ([]) s.heap.size = A at hD hE
  have hA : ∀ q : Nat, s.heap.size ≤ q → A q := fun q h => by rw [← hAe]; exact Or.inr h
  clear hAe hD0
  have hS : va_S A s.heap s.heap [] := va_S.rf
  have hK := hE.1
  have hl := lv_entry ([.int p0, .int p1]) (n := 5) (Nat.le_of_ble_eq_true rfl)
  rw [lg_entry_eq]
  generalize (lg_sl ([.int p0, .int p1]) ++ List.replicate (5 - (lg_sl ([.int p0, .int p1])).length) Slot.unset).toArray = ls at hl ⊢
  replace hl : lv_has ls 5 [(0, .int p0), (1, .int p1)] := hl
  unfold f_X10_times at hf
  refine zgo (fun GW hTo hFr => ?_)
  refine hFr _ _ _ ?_
  refine lv_iconst (pc := 0) (v := (0 : Int32)) hx hb (zdt_at zt_X10_times_0 0 rfl) (by decide) ?_
  refine lv_istore_n (pc := 1) (lv' := [(2, .int (0 : Int32)), (0, .int p0), (1, .int p1)]) hx hb (zdt_at zt_X10_times_0 1 rfl) rfl hl (by decide) rfl ?_
  clear hl
  intro ls hl
  refine lv_iload_n (pc := 2) hx hb (zdt_at zt_X10_times_0 2 rfl) rfl (lv_at hl 1 rfl) ?_
  refine lv_istore_n (pc := 3) (lv' := [(3, .int p0), (2, .int (0 : Int32)), (0, .int p0), (1, .int p1)]) hx hb (zdt_at zt_X10_times_0 3 rfl) rfl hl (by decide) rfl ?_
  clear hl
  intro ls hl
  refine lv_iconst (pc := 4) (v := (0 : Int32)) hx hb (zdt_at zt_X10_times_0 4 rfl) (by decide) ?_
  refine lv_istore (pc := 5) (lv' := [(4, .int (0 : Int32)), (3, .int p0), (2, .int (0 : Int32)), (0, .int p0), (1, .int p1)]) hx hb (zdt_at zt_X10_times_0 5 rfl) hl (by decide) rfl ?_
  clear hl
  intro ls hl
  replace hf := zj_s hf
  obtain ⟨K_5, eK_5, hf⟩ := hf
  have kK_5 : ∀ (v_4 : Int32) (ls : Array Slot), lv_has ls 5 [(2, .int v_4)] → K_5 v_4 = some r_ → GW s.heap [] (F0 m 52 ls []) := by
    clear hf hl
    intro v_4 ls hl hf
    rw [eK_5] at hf
    clear eK_5
    refine hFr _ _ _ ?_
    refine lv_iload_n (pc := 52) hx hb (zdt_at zt_X10_times_0 33 rfl) rfl (lv_at hl 0 rfl) ?_
    cases hf
    exact W.iret (pc := 53) hx hb hr (fun t ht hW => ⟨rfl, ht⟩) (fun _ h => nomatch h) (zdt_at zt_X10_times_0 34 rfl)
  clear eK_5
  refine hTo _ _ _ (zl_go (fun z => match z with | (i_1, i_2, i_3) => ∀ (ls : Array Slot), lv_has ls 5 [(1, .int p1), (2, .int i_1), (3, .int i_2), (4, .int i_3)] → GW s.heap [] (F0 m 7 ls [])) hf ?_ ls (lv_sub hl [4, 2, 1, 0] rfl))
  clear hf hl
  intro self_6 ihself_6 z hf
  obtain ⟨i_1, i_2, i_3⟩ := z
  intro ls hl
  refine hFr _ _ _ ?_
  unfold b_X10_times_7 at hf
  refine lv_iload (pc := 7) hx hb (zdt_at zt_X10_times_0 6 rfl) (lv_at hl 3 rfl) ?_
  refine lv_bipush (pc := 9) (v := (8 : Int32)) hx hb (zdt_at zt_X10_times_0 7 rfl) (by decide) ?_
  refine lv_icmp_ge (pc := 11) (tgt := 52) hx hb (zdt_at zt_X10_times_0 8 rfl) (by decide) (fun cn_ => ?t_7) (fun cn_ => ?f_8)
  case t_7 =>
    replace hf := zt_s cn_ hf
    clear cn_
    exact hTo _ _ _ (kK_5 _ ls (lv_sub hl [1] rfl) hf)
  replace hf := ze_s cn_ hf
  clear cn_
  refine lv_iload_n (pc := 14) hx hb (zdt_at zt_X10_times_0 9 rfl) rfl (lv_at hl 0 rfl) ?_
  refine lv_iload (pc := 15) hx hb (zdt_at zt_X10_times_0 10 rfl) (lv_at hl 3 rfl) ?_
  refine lv_ishr (pc := 17) hx hb (zdt_at zt_X10_times_0 11 rfl) ?_
  refine lv_iconst (pc := 18) (v := (1 : Int32)) hx hb (zdt_at zt_X10_times_0 12 rfl) (by decide) ?_
  refine lv_iand (pc := 19) hx hb (zdt_at zt_X10_times_0 13 rfl) ?_
  refine lv_iconst (pc := 20) (v := (1 : Int32)) hx hb (zdt_at zt_X10_times_0 14 rfl) (by decide) ?_
  replace hf := zj_s hf
  obtain ⟨K_10, eK_10, hf⟩ := hf
  have kK_10 : ∀ (v_9 : Int32) (ls : Array Slot), lv_has ls 5 [(1, .int p1), (2, .int v_9), (3, .int i_2), (4, .int i_3)] → K_10 v_9 = some r_ → GW s.heap [] (F0 m 28 ls []) := by
    clear hf hl
    intro v_9 ls hl hf
    rw [eK_10] at hf
    clear eK_10
    refine hFr _ _ _ ?_
    refine lv_iload_n (pc := 28) hx hb (zdt_at zt_X10_times_0 20 rfl) rfl (lv_at hl 2 rfl) ?_
    refine lv_iconst (pc := 29) (v := (1 : Int32)) hx hb (zdt_at zt_X10_times_0 21 rfl) (by decide) ?_
    refine lv_ishl (pc := 30) hx hb (zdt_at zt_X10_times_0 22 rfl) ?_
    refine lv_iload_n (pc := 31) hx hb (zdt_at zt_X10_times_0 23 rfl) rfl (lv_at hl 2 rfl) ?_
    refine lv_bipush (pc := 32) (v := (127 : Int32)) hx hb (zdt_at zt_X10_times_0 24 rfl) (by decide) ?_
    refine lv_icmp_le (pc := 34) (tgt := 43) hx hb (zdt_at zt_X10_times_0 25 rfl) (by decide) (fun cn_ => ?t_11) (fun cn_ => ?f_12)
    case t_11 =>
      replace hf := zt_s cn_ hf
      clear cn_
      refine lv_iconst (pc := 43) (v := (0 : Int32)) hx hb (zdt_at zt_X10_times_0 28 rfl) (by decide) ?_
      refine lv_ixor (pc := 44) hx hb (zdt_at zt_X10_times_0 29 rfl) ?_
      refine lv_topi (fun x_13 e_ => ?_)
      replace hf := zn_s hf e_
      clear e_
      refine lv_istore_n (pc := 45) (lv' := [(3, .int x_13), (1, .int p1), (2, .int v_9), (4, .int i_3)]) hx hb (zdt_at zt_X10_times_0 30 rfl) rfl hl (by decide) rfl ?_
      clear hl
      intro ls hl
      refine lv_iinc (pc := 46) (v := (i_3 + (1 : Int32))) (lv' := [(4, .int (i_3 + (1 : Int32))), (3, .int x_13), (1, .int p1), (2, .int v_9)]) hx hb (zdt_at zt_X10_times_0 31 rfl) hl (k := 3) rfl rfl (by decide) rfl ?_
      clear hl
      intro ls hl
      refine lv_goto (pc := 49) (tgt := 7) hx hb (zdt_at zt_X10_times_0 32 rfl) (by decide) ?_
      exact hTo _ _ _ (ihself_6 _ hf ls (lv_sub hl [2, 3, 1, 0] rfl))
    replace hf := ze_s cn_ hf
    clear cn_
    refine lv_sipush (pc := 37) (v := (283 : Int32)) hx hb (zdt_at zt_X10_times_0 26 rfl) (by decide) ?_
    refine lv_goto (pc := 40) (tgt := 44) hx hb (zdt_at zt_X10_times_0 27 rfl) (by decide) ?_
    refine lv_ixor (pc := 44) hx hb (zdt_at zt_X10_times_0 29 rfl) ?_
    refine lv_topi (fun x_14 e_ => ?_)
    replace hf := zn_s hf e_
    clear e_
    refine lv_istore_n (pc := 45) (lv' := [(3, .int x_14), (1, .int p1), (2, .int v_9), (4, .int i_3)]) hx hb (zdt_at zt_X10_times_0 30 rfl) rfl hl (by decide) rfl ?_
    clear hl
    intro ls hl
    refine lv_iinc (pc := 46) (v := (i_3 + (1 : Int32))) (lv' := [(4, .int (i_3 + (1 : Int32))), (3, .int x_14), (1, .int p1), (2, .int v_9)]) hx hb (zdt_at zt_X10_times_0 31 rfl) hl (k := 3) rfl rfl (by decide) rfl ?_
    clear hl
    intro ls hl
    refine lv_goto (pc := 49) (tgt := 7) hx hb (zdt_at zt_X10_times_0 32 rfl) (by decide) ?_
    exact hTo _ _ _ (ihself_6 _ hf ls (lv_sub hl [2, 3, 1, 0] rfl))
  clear eK_10
  refine lv_icmp_ne (pc := 21) (tgt := 28) hx hb (zdt_at zt_X10_times_0 15 rfl) (by decide) (fun cn_ => ?t_15) (fun cn_ => ?f_16)
  case t_15 =>
    replace hf := ze_s cn_ hf
    clear cn_
    exact hTo _ _ _ (kK_10 _ ls (lv_sub hl [0, 1, 2, 3] rfl) hf)
  replace hf := zt_s cn_ hf
  clear cn_
  refine lv_iload_n (pc := 24) hx hb (zdt_at zt_X10_times_0 16 rfl) rfl (lv_at hl 1 rfl) ?_
  refine lv_iload_n (pc := 25) hx hb (zdt_at zt_X10_times_0 17 rfl) rfl (lv_at hl 2 rfl) ?_
  refine lv_ixor (pc := 26) hx hb (zdt_at zt_X10_times_0 18 rfl) ?_
  refine lv_topi (fun x_17 e_ => ?_)
  replace hf := zn_s hf e_
  clear e_
  refine lv_istore_n (pc := 27) (lv' := [(2, .int x_17), (1, .int p1), (3, .int i_2), (4, .int i_3)]) hx hb (zdt_at zt_X10_times_0 19 rfl) rfl hl (by decide) rfl ?_
  clear hl
  intro ls hl
  exact hTo _ _ _ (kK_10 _ ls (lv_sub hl [1, 0, 2, 3] rfl) hf)
set_option maxHeartbeats 4000000 in
set_option maxRecDepth 100000 in
theorem c_X10_inverse (l : Launch) (D : va_G) (cy : Nat → ClassId) (tt : Nat → Nat) (sz : Nat) (p0 : Int32) (r_ : Int32) (hf : f_X10_inverse p0 = some r_) : Met l yX10_inverse wsX10_inverse ({ frames := 1, cells := 0, slots := 0, locals := 24 }) (zPc D cy tt sz [.int p0] ([])) (fun _ st o t => o = .returned (some (.int r_)) ∧ t.heap = st.heap) 0 0 (fun _ => False) := by
  refine Met.ofW (cc := cX10_inverse) (maxL := 2) (ret := (some .int)) (by decide) rfl ?_
  intro p e s m args below meth c s₁ B hml hv
  obtain ⟨rfl, rfl, hP, hD0, hE⟩ := hv
  have hx := B.exec
  have hb := B.bytes
  have hr := B.returns
  have hts := atoms_spec (ws := wsX10_inverse) B.pre
  have hown : s.vm.findClass RX10 = some m.cls := findClass_of_methodNamed B.named
  have hlocks := B.notSynchronized
  clear B
  have hD := hD0.self (sz := s.heap.size)
  generalize hAe : va_A ([]) s.heap.size = A at hD hE
  have hA : ∀ q : Nat, s.heap.size ≤ q → A q := fun q h => by rw [← hAe]; exact Or.inr h
  clear hAe hD0
  have hS : va_S A s.heap s.heap [] := va_S.rf
  have hK := hE.1
  have hl := lv_entry ([.int p0]) (n := 2) (Nat.le_of_ble_eq_true rfl)
  rw [lg_entry_eq]
  generalize (lg_sl ([.int p0]) ++ List.replicate (2 - (lg_sl ([.int p0])).length) Slot.unset).toArray = ls at hl ⊢
  replace hl : lv_has ls 2 [(0, .int p0)] := hl
  unfold f_X10_inverse at hf
  refine zgo (fun GW hTo hFr => ?_)
  refine hFr _ _ _ ?_
  refine lv_iconst (pc := 0) (v := (1 : Int32)) hx hb (zdt_at zt_X10_inverse_0 0 rfl) (by decide) ?_
  refine lv_istore_n (pc := 1) (lv' := [(1, .int (1 : Int32)), (0, .int p0)]) hx hb (zdt_at zt_X10_inverse_0 1 rfl) rfl hl (by decide) rfl ?_
  clear hl
  intro ls hl
  replace hf := zj_s hf
  obtain ⟨K_3, eK_3, hf⟩ := hf
  have kK_3 : ∀ (v_2 : Int32) (ls : Array Slot), lv_has ls 2 [(1, .int v_2)] → K_3 v_2 = some r_ → GW s.heap [] (F0 m 18 ls []) := by
    clear hf hl
    intro v_2 ls hl hf
    rw [eK_3] at hf
    clear eK_3
    refine hFr _ _ _ ?_
    refine lv_iload_n (pc := 18) hx hb (zdt_at zt_X10_inverse_0 10 rfl) rfl (lv_at hl 0 rfl) ?_
    cases hf
    exact W.iret (pc := 19) hx hb hr (fun t ht hW => ⟨rfl, ht⟩) (fun _ h => nomatch h) (zdt_at zt_X10_inverse_0 11 rfl)
  clear eK_3
  refine hTo _ _ _ (zl_go (fun i_1 => ∀ (ls : Array Slot), lv_has ls 2 [(0, .int p0), (1, .int i_1)] → GW s.heap [] (F0 m 2 ls [])) hf ?_ ls (lv_sub hl [1, 0] rfl))
  clear hf hl
  intro self_4 ihself_4 i_1 hf
  intro ls hl
  refine hFr _ _ _ ?_
  unfold b_X10_inverse_2 at hf
  refine lv_iload_n (pc := 2) hx hb (zdt_at zt_X10_inverse_0 2 rfl) rfl (lv_at hl 1 rfl) ?_
  refine lv_sipush (pc := 3) (v := (256 : Int32)) hx hb (zdt_at zt_X10_inverse_0 3 rfl) (by decide) ?_
  refine lv_icmp_ge (pc := 6) (tgt := 26) hx hb (zdt_at zt_X10_inverse_0 4 rfl) (by decide) (fun cn_ => ?t_5) (fun cn_ => ?f_6)
  case t_5 =>
    replace hf := zt_s cn_ hf
    clear cn_
    refine lv_iconst (pc := 26) (v := (0 : Int32)) hx hb (zdt_at zt_X10_inverse_0 14 rfl) (by decide) ?_
    cases hf
    exact W.iret (pc := 27) hx hb hr (fun t ht hW => ⟨rfl, ht⟩) (fun _ h => nomatch h) (zdt_at zt_X10_inverse_0 15 rfl)
  replace hf := ze_s cn_ hf
  clear cn_
  refine lv_iload_n (pc := 9) hx hb (zdt_at zt_X10_inverse_0 5 rfl) rfl (lv_at hl 0 rfl) ?_
  refine lv_iload_n (pc := 10) hx hb (zdt_at zt_X10_inverse_0 6 rfl) rfl (lv_at hl 1 rfl) ?_
  replace hf := zb_s hf
  obtain ⟨r_7, hc_, hf⟩ := hf
  refine zcs (pc := 11) (rv := (some (.int r_7))) (va_runS (As := [.int p0, .int i_1]) (rest := []) ⟨hx, hb, hml, hown, hts⟩ (c_X10_times l D cy tt s.heap.size p0 i_1 r_7 hc_) (va_cwS 2 hts gX10_inverse_X10_times rfl rfl rfl (by decide +kernel) ⟨Nat.le_of_ble_eq_true rfl, Nat.le_of_ble_eq_true rfl⟩) ⟨zblind, zpre hE hS (hP.sub [] rfl) (hD.sub [] (by decide) rfl) (va_free hD hS hA [] rfl)⟩ rfl rfl hl.1 rfl (lv_room (Nat.le_of_ble_eq_true rfl)) (zdt_at zt_X10_inverse_0 7 rfl) ⟨Nat.zero_le _, Nat.zero_le _⟩) ?_
  clear hc_
  refine W.eq (g2 := F0 m 14 ls [.int r_7]) rfl ?_
  refine lv_iconst (pc := 14) (v := (1 : Int32)) hx hb (zdt_at zt_X10_inverse_0 8 rfl) (by decide) ?_
  refine lv_icmp_ne (pc := 15) (tgt := 20) hx hb (zdt_at zt_X10_inverse_0 9 rfl) (by decide) (fun cn_ => ?t_8) (fun cn_ => ?f_9)
  case f_9 =>
    replace hf := zt_s cn_ hf
    clear cn_
    exact hTo _ _ _ (kK_3 _ ls (lv_sub hl [1] rfl) hf)
  replace hf := ze_s cn_ hf
  clear cn_
  refine lv_iinc (pc := 20) (v := (i_1 + (1 : Int32))) (lv' := [(1, .int (i_1 + (1 : Int32))), (0, .int p0)]) hx hb (zdt_at zt_X10_inverse_0 12 rfl) hl (k := 1) rfl rfl (by decide) rfl ?_
  clear hl
  intro ls hl
  refine lv_goto (pc := 23) (tgt := 2) hx hb (zdt_at zt_X10_inverse_0 13 rfl) (by decide) ?_
  exact hTo _ _ _ (ihself_4 _ hf ls (lv_sub hl [1, 0] rfl))
set_option maxHeartbeats 4000000 in
set_option maxRecDepth 100000 in
theorem c_X10_schedule (l : Launch) (D : va_G) (cy : Nat → ClassId) (tt : Nat → Nat) (sz : Nat) (h0 : Nat) (hm : Nat → Nat) (p1 : Int32) (c_rounds : Int32) (c_box : Nat → Int32) (c_keys : Nat → Int32) (c_length : Nat → Int32) (c_round : Nat → Int32) (c_thrown : Int32) (c_state : Int32) (c_test : Int32) (c_words : Int32) (c_ill : Int32) (c_before : Int32) (c_inRow : Int32) (c_first : Int32) (c_inWindow : Int32) (c_same : Int32) (c_made : Int32) (c_requests : Int32) (c_total : Int64) (c_secrets : Int32) (c_high : Int64) (c_low : Int64) (c_keyHigh : Int64) (c_keyLow : Int64) (c_rounds' : Int32) (c_round' : Nat → Int32) (hf : f_X10_schedule p1 c_rounds c_box c_keys c_length c_round = some (c_rounds', c_round')) : Met l yX10_schedule wsX10_schedule ({ frames := 1, cells := 0, slots := 0, locals := 24 }) (zPc D cy tt sz [.ref h0, .int p1] ([(h0, .inr (12, zmo hm c_thrown c_state c_test c_words c_ill c_before c_inRow c_first c_inWindow c_same c_made c_requests c_total c_secrets c_rounds c_high c_low c_keyHigh c_keyLow)), ((hm 39), .inl (cy 1, 256, .inl c_box)), ((hm 14), .inl (cy 1, 1024, .inl c_keys)), ((hm 10), .inl (cy 1, 16, .inl c_length)), ((hm 41), .inl (cy 1, 240, .inl c_round))])) (zQ D none ([(h0, .inr (12, zmo hm c_thrown c_state c_test c_words c_ill c_before c_inRow c_first c_inWindow c_same c_made c_requests c_total c_secrets c_rounds' c_high c_low c_keyHigh c_keyLow)), ((hm 39), .inl (cy 1, 256, .inl c_box)), ((hm 14), .inl (cy 1, 1024, .inl c_keys)), ((hm 10), .inl (cy 1, 16, .inl c_length)), ((hm 41), .inl (cy 1, 240, .inl c_round'))]) (va_A ([(h0, .inr (12, zmo hm c_thrown c_state c_test c_words c_ill c_before c_inRow c_first c_inWindow c_same c_made c_requests c_total c_secrets c_rounds c_high c_low c_keyHigh c_keyLow)), ((hm 39), .inl (cy 1, 256, .inl c_box)), ((hm 14), .inl (cy 1, 1024, .inl c_keys)), ((hm 10), .inl (cy 1, 16, .inl c_length)), ((hm 41), .inl (cy 1, 240, .inl c_round))]) sz)) 0 0 (va_A ([(h0, .inr (12, zmo hm c_thrown c_state c_test c_words c_ill c_before c_inRow c_first c_inWindow c_same c_made c_requests c_total c_secrets c_rounds c_high c_low c_keyHigh c_keyLow)), ((hm 39), .inl (cy 1, 256, .inl c_box)), ((hm 14), .inl (cy 1, 1024, .inl c_keys)), ((hm 10), .inl (cy 1, 16, .inl c_length)), ((hm 41), .inl (cy 1, 240, .inl c_round))]) sz) := by
  refine Met.ofW (cc := cX10_schedule) (maxL := 8) (ret := none) (by decide) rfl ?_
  intro p e s m args below meth c s₁ B hml hv
  obtain ⟨rfl, rfl, hP, hD0, hE⟩ := hv
  have hx := B.exec
  have hb := B.bytes
  have hr := B.returns
  have hts := atoms_spec (ws := wsX10_schedule) B.pre
  have hown : s.vm.findClass RX10 = some m.cls := findClass_of_methodNamed B.named
  have hlocks := B.notSynchronized
  clear B
  have hD := hD0.self (sz := s.heap.size)
  generalize hAe : va_A ([(h0, .inr (12, zmo hm c_thrown c_state c_test c_words c_ill c_before c_inRow c_first c_inWindow c_same c_made c_requests c_total c_secrets c_rounds c_high c_low c_keyHigh c_keyLow)), ((hm 39), .inl (cy 1, 256, .inl c_box)), ((hm 14), .inl (cy 1, 1024, .inl c_keys)), ((hm 10), .inl (cy 1, 16, .inl c_length)), ((hm 41), .inl (cy 1, 240, .inl c_round))]) s.heap.size = A at hD hE ⊢
  have hA : ∀ q : Nat, s.heap.size ≤ q → A q := fun q h => by rw [← hAe]; exact Or.inr h
  clear hAe hD0
  have hS : va_S A s.heap s.heap [] := va_S.rf
  have hK := hE.1
  have hw0 := hts (.fieldLink RX10 96 "SealedModuleModel" "length" "[I") (by decide +kernel)
  have hw1 := hts (.fieldLink RX10 197 "SealedModuleModel" "rounds" "I") (by decide +kernel)
  have hw2 := hts (.fieldLink RX10 159 "SealedModuleModel" "round" "[I") (by decide +kernel)
  have hw3 := hts (.fieldLink RX10 153 "SealedModuleModel" "box" "[I") (by decide +kernel)
  have hw4 := hts (.fieldLink RX10 108 "SealedModuleModel" "keys" "[I") (by decide +kernel)
  have hcX10 : ∀ w ∈ u_ws RX10 TX10 52, w ∈ wsX10_schedule := (fun _ h => List.mem_cons_of_mem _ (List.mem_append_right _ h))
  have hl := lv_entry ([.ref h0, .int p1]) (n := 8) (Nat.le_of_ble_eq_true rfl)
  rw [lg_entry_eq]
  generalize (lg_sl ([.ref h0, .int p1]) ++ List.replicate (8 - (lg_sl ([.ref h0, .int p1])).length) Slot.unset).toArray = ls at hl ⊢
  replace hl : lv_has ls 8 [(0, .ref h0), (1, .int p1)] := hl
  unfold f_X10_schedule at hf
  refine zgo (fun GW hTo hFr => ?_)
  refine hFr _ _ _ ?_
  obtain ⟨H, hHe⟩ : ∃ H, H = s.heap := ⟨_, rfl⟩
  obtain ⟨locs, hLe⟩ : ∃ L : List Loc, L = [] := ⟨_, rfl⟩
  rw [← hHe] at hP
  replace hS : va_S A s.heap H locs := by rw [hHe, hLe]; exact hS
  refine zat hHe.symm hLe.symm ?_
  clear hHe hLe
  refine lv_aload_n (pc := 0) hx hb (zdt_at zt_X10_schedule_0 0 rfl) rfl (lv_at hl 0 rfl) ?_
  refine va_get (pc := 1) (D := D) (ci := 12) (v := .ref (hm 10)) (C := RX10) (T := TX10) (N := 52) hx hb hts hcX10 hown hK hP 0 rfl rfl 10 (by decide) hw0 (fun _ h9 => h9) rfl (zdt_at zt_X10_schedule_0 1 rfl) ?_
  refine lv_iload_n (pc := 4) hx hb (zdt_at zt_X10_schedule_0 2 rfl) rfl (lv_at hl 1 rfl) ?_
  replace hf := zk_s hf
  refine va_iald (pc := 5) hx hb hK hP 3 1 rfl rfl hf.1 (zdt_at zt_X10_schedule_0 3 rfl) ?_
  replace hf := hf.2
  refine lv_topi (fun x_1 e_ => ?_)
  replace hf := zn_s hf e_
  clear e_
  refine lv_istore_n (pc := 6) (lv' := [(2, .int x_1), (0, .ref h0), (1, .int p1)]) hx hb (zdt_at zt_X10_schedule_0 4 rfl) rfl hl (by decide) rfl ?_
  clear hl
  intro ls hl
  refine lv_aload_n (pc := 7) hx hb (zdt_at zt_X10_schedule_0 5 rfl) rfl (lv_at hl 1 rfl) ?_
  refine lv_iload_n (pc := 8) hx hb (zdt_at zt_X10_schedule_0 6 rfl) rfl (lv_at hl 0 rfl) ?_
  refine lv_iconst (pc := 9) (v := (4 : Int32)) hx hb (zdt_at zt_X10_schedule_0 7 rfl) (by decide) ?_
  replace hf := zk_s hf
  refine lv_idiv (pc := 10) hx hb (zdt_at zt_X10_schedule_0 8 rfl) hf.1 ?_
  replace hf := hf.2
  refine lv_bipush (pc := 11) (v := (6 : Int32)) hx hb (zdt_at zt_X10_schedule_0 9 rfl) (by decide) ?_
  refine lv_iadd (pc := 13) hx hb (zdt_at zt_X10_schedule_0 10 rfl) ?_
  refine lv_topi (fun x_2 e_ => ?_)
  replace hf := zn_s hf e_
  clear e_
  refine va_put (pc := 14) (D := D) (ci := 12) (v := .int x_2) (ty := .int) (C := RX10) (T := TX10) (N := 52) hx hb hts hcX10 tyX10 tyX10_ok nmX10 hown hK hP hD hS 0 rfl rfl 42 (by decide) hw1 (fun _ h9 => h9) rfl (by decide +kernel) rfl rfl (Nat.le_of_ble_eq_true rfl) (zdt_at zt_X10_schedule_0 11 rfl) ?_
  clear hP hD hS
  intro H locs hP hD hS
  replace hP : va_P D vwCl ([(h0, .inr (12, zmo hm c_thrown c_state c_test c_words c_ill c_before c_inRow c_first c_inWindow c_same c_made c_requests c_total c_secrets x_2 c_high c_low c_keyHigh c_keyLow)), ((hm 39), .inl (cy 1, 256, .inl c_box)), ((hm 14), .inl (cy 1, 1024, .inl c_keys)), ((hm 10), .inl (cy 1, 16, .inl c_length)), ((hm 41), .inl (cy 1, 240, .inl c_round))]) H := hP
  replace hD : va_D A ([(h0, .inr (12, zmo hm c_thrown c_state c_test c_words c_ill c_before c_inRow c_first c_inWindow c_same c_made c_requests c_total c_secrets x_2 c_high c_low c_keyHigh c_keyLow)), ((hm 39), .inl (cy 1, 256, .inl c_box)), ((hm 14), .inl (cy 1, 1024, .inl c_keys)), ((hm 10), .inl (cy 1, 16, .inl c_length)), ((hm 41), .inl (cy 1, 240, .inl c_round))]) := hD
  refine lv_iconst (pc := 17) (v := (0 : Int32)) hx hb (zdt_at zt_X10_schedule_0 12 rfl) (by decide) ?_
  refine lv_istore_n (pc := 18) (lv' := [(3, .int (0 : Int32)), (2, .int x_1), (0, .ref h0), (1, .int p1)]) hx hb (zdt_at zt_X10_schedule_0 13 rfl) rfl hl (by decide) rfl ?_
  clear hl
  intro ls hl
  replace hf := zj_s hf
  obtain ⟨K_6, eK_6, hf⟩ := hf
  have kK_6 : ∀ (c_round_5 : Nat → Int32) (H : Heap) (locs : List Loc) (ls : Array Slot), va_P D vwCl ([(h0, .inr (12, zmo hm c_thrown c_state c_test c_words c_ill c_before c_inRow c_first c_inWindow c_same c_made c_requests c_total c_secrets x_2 c_high c_low c_keyHigh c_keyLow)), ((hm 39), .inl (cy 1, 256, .inl c_box)), ((hm 14), .inl (cy 1, 1024, .inl c_keys)), ((hm 10), .inl (cy 1, 16, .inl c_length)), ((hm 41), .inl (cy 1, 240, .inl c_round_5))]) H → va_D A ([(h0, .inr (12, zmo hm c_thrown c_state c_test c_words c_ill c_before c_inRow c_first c_inWindow c_same c_made c_requests c_total c_secrets x_2 c_high c_low c_keyHigh c_keyLow)), ((hm 39), .inl (cy 1, 256, .inl c_box)), ((hm 14), .inl (cy 1, 1024, .inl c_keys)), ((hm 10), .inl (cy 1, 16, .inl c_length)), ((hm 41), .inl (cy 1, 240, .inl c_round_5))]) → va_S A s.heap H locs → lv_has ls 8 [(0, .ref h0), (2, .int x_1)] → K_6 c_round_5 = some (c_rounds', c_round') → GW H locs (F0 m 47 ls []) := by
    clear hf hl hP hD hS
    intro c_round_5 H locs ls hP hD hS hl hf
    rw [eK_6] at hf
    clear eK_6
    refine hFr _ _ _ ?_
    refine lv_iconst (pc := 47) (v := (1 : Int32)) hx hb (zdt_at zt_X10_schedule_0 31 rfl) (by decide) ?_
    refine lv_istore_n (pc := 48) (lv' := [(3, .int (1 : Int32)), (0, .ref h0), (2, .int x_1)]) hx hb (zdt_at zt_X10_schedule_0 32 rfl) rfl hl (by decide) rfl ?_
    clear hl
    intro ls hl
    refine lv_iload_n (pc := 49) hx hb (zdt_at zt_X10_schedule_0 33 rfl) rfl (lv_at hl 2 rfl) ?_
    refine lv_iconst (pc := 50) (v := (4 : Int32)) hx hb (zdt_at zt_X10_schedule_0 34 rfl) (by decide) ?_
    replace hf := zk_s hf
    refine lv_idiv (pc := 51) hx hb (zdt_at zt_X10_schedule_0 35 rfl) hf.1 ?_
    replace hf := hf.2
    refine lv_topi (fun x_7 e_ => ?_)
    replace hf := zn_s hf e_
    clear e_
    refine lv_istore (pc := 52) (lv' := [(4, .int x_7), (3, .int (1 : Int32)), (0, .ref h0), (2, .int x_1)]) hx hb (zdt_at zt_X10_schedule_0 36 rfl) hl (by decide) rfl ?_
    clear hl
    intro ls hl
    replace hf := zj_s hf
    obtain ⟨K_12, eK_12, hf⟩ := hf
    have kK_12 : ∀ (c_round_11 : Nat → Int32) (H : Heap) (locs : List Loc) (ls : Array Slot), va_P D vwCl ([(h0, .inr (12, zmo hm c_thrown c_state c_test c_words c_ill c_before c_inRow c_first c_inWindow c_same c_made c_requests c_total c_secrets x_2 c_high c_low c_keyHigh c_keyLow)), ((hm 39), .inl (cy 1, 256, .inl c_box)), ((hm 14), .inl (cy 1, 1024, .inl c_keys)), ((hm 10), .inl (cy 1, 16, .inl c_length)), ((hm 41), .inl (cy 1, 240, .inl c_round_11))]) H → va_D A ([(h0, .inr (12, zmo hm c_thrown c_state c_test c_words c_ill c_before c_inRow c_first c_inWindow c_same c_made c_requests c_total c_secrets x_2 c_high c_low c_keyHigh c_keyLow)), ((hm 39), .inl (cy 1, 256, .inl c_box)), ((hm 14), .inl (cy 1, 1024, .inl c_keys)), ((hm 10), .inl (cy 1, 16, .inl c_length)), ((hm 41), .inl (cy 1, 240, .inl c_round_11))]) → va_S A s.heap H locs → lv_has ls 8 [] → K_12 c_round_11 = some (c_rounds', c_round') → GW H locs (F0 m 223 ls []) := by
      clear hf hl hP hD hS
      intro c_round_11 H locs ls hP hD hS hl hf
      rw [eK_12] at hf
      clear eK_12
      refine hFr _ _ _ ?_
      cases hf
      exact W.vret (pc := 223) hx hb hr (fun t ht hW => ⟨rfl, ⟨by rw [ht]; exact hP, hD⟩, hS.F ht⟩) hS.2.2 (zdt_at zt_X10_schedule_2 8 rfl)
    clear eK_12
    refine hTo _ _ _ (zl_go (fun z => match z with | (i_8, i_9, c_round_10) => ∀ (H : Heap) (locs : List Loc) (ls : Array Slot), va_P D vwCl ([(h0, .inr (12, zmo hm c_thrown c_state c_test c_words c_ill c_before c_inRow c_first c_inWindow c_same c_made c_requests c_total c_secrets x_2 c_high c_low c_keyHigh c_keyLow)), ((hm 39), .inl (cy 1, 256, .inl c_box)), ((hm 14), .inl (cy 1, 1024, .inl c_keys)), ((hm 10), .inl (cy 1, 16, .inl c_length)), ((hm 41), .inl (cy 1, 240, .inl c_round_10))]) H → va_D A ([(h0, .inr (12, zmo hm c_thrown c_state c_test c_words c_ill c_before c_inRow c_first c_inWindow c_same c_made c_requests c_total c_secrets x_2 c_high c_low c_keyHigh c_keyLow)), ((hm 39), .inl (cy 1, 256, .inl c_box)), ((hm 14), .inl (cy 1, 1024, .inl c_keys)), ((hm 10), .inl (cy 1, 16, .inl c_length)), ((hm 41), .inl (cy 1, 240, .inl c_round_10))]) → va_S A s.heap H locs → lv_has ls 8 [(0, .ref h0), (2, .int x_1), (3, .int i_8), (4, .int i_9)] → GW H locs (F0 m 54 ls [])) hf ?_ H locs ls hP hD hS (lv_sub hl [2, 3, 1, 0] rfl))
    clear hf hl hP hD hS
    intro self_13 ihself_13 z hf
    obtain ⟨i_8, i_9, c_round_10⟩ := z
    intro H locs ls hP hD hS hl
    refine hFr _ _ _ ?_
    unfold b_X10_schedule_54 at hf
    refine lv_iload (pc := 54) hx hb (zdt_at zt_X10_schedule_0 37 rfl) (lv_at hl 3 rfl) ?_
    refine lv_iconst (pc := 56) (v := (4 : Int32)) hx hb (zdt_at zt_X10_schedule_0 38 rfl) (by decide) ?_
    refine lv_aload_n (pc := 57) hx hb (zdt_at zt_X10_schedule_0 39 rfl) rfl (lv_at hl 0 rfl) ?_
    refine va_get (pc := 58) (D := D) (ci := 12) (v := .int x_2) (C := RX10) (T := TX10) (N := 52) hx hb hts hcX10 hown hK hP 0 rfl rfl 42 (by decide) hw1 (fun _ h9 => h9) rfl (zdt_at zt_X10_schedule_0 40 rfl) ?_
    refine lv_iconst (pc := 61) (v := (1 : Int32)) hx hb (zdt_at zt_X10_schedule_0 41 rfl) (by decide) ?_
    refine lv_iadd (pc := 62) hx hb (zdt_at zt_X10_schedule_0 42 rfl) ?_
    refine lv_imul (pc := 63) hx hb (zdt_at zt_X10_schedule_0 43 rfl) ?_
    refine lv_icmp_ge (pc := 64) (tgt := 223) hx hb (zdt_at zt_X10_schedule_0 44 rfl) (by decide) (fun cn_ => ?t_14) (fun cn_ => ?f_15)
    case t_14 =>
      replace hf := zt_s cn_ hf
      clear cn_
      exact hTo _ _ _ (kK_12 _ H locs ls hP hD hS (lv_sub hl [] rfl) hf)
    replace hf := ze_s cn_ hf
    clear cn_
    refine lv_iconst (pc := 67) (v := (0 : Int32)) hx hb (zdt_at zt_X10_schedule_0 45 rfl) (by decide) ?_
    refine lv_istore (pc := 68) (lv' := [(5, .int (0 : Int32)), (0, .ref h0), (2, .int x_1), (3, .int i_8), (4, .int i_9)]) hx hb (zdt_at zt_X10_schedule_0 46 rfl) hl (by decide) rfl ?_
    clear hl
    intro ls hl
    replace hf := zj_s hf
    obtain ⟨K_19, eK_19, hf⟩ := hf
    have kK_19 : ∀ (c_round_18 : Nat → Int32) (H : Heap) (locs : List Loc) (ls : Array Slot), va_P D vwCl ([(h0, .inr (12, zmo hm c_thrown c_state c_test c_words c_ill c_before c_inRow c_first c_inWindow c_same c_made c_requests c_total c_secrets x_2 c_high c_low c_keyHigh c_keyLow)), ((hm 39), .inl (cy 1, 256, .inl c_box)), ((hm 14), .inl (cy 1, 1024, .inl c_keys)), ((hm 10), .inl (cy 1, 16, .inl c_length)), ((hm 41), .inl (cy 1, 240, .inl c_round_18))]) H → va_D A ([(h0, .inr (12, zmo hm c_thrown c_state c_test c_words c_ill c_before c_inRow c_first c_inWindow c_same c_made c_requests c_total c_secrets x_2 c_high c_low c_keyHigh c_keyLow)), ((hm 39), .inl (cy 1, 256, .inl c_box)), ((hm 14), .inl (cy 1, 1024, .inl c_keys)), ((hm 10), .inl (cy 1, 16, .inl c_length)), ((hm 41), .inl (cy 1, 240, .inl c_round_18))]) → va_S A s.heap H locs → lv_has ls 8 [(0, .ref h0), (2, .int x_1), (3, .int i_8), (4, .int i_9)] → K_19 c_round_18 = some (c_rounds', c_round') → GW H locs (F0 m 202 ls []) := by
      clear hf hl hP hD hS
      intro c_round_18 H locs ls hP hD hS hl hf
      rw [eK_19] at hf
      clear eK_19
      refine hFr _ _ _ ?_
      refine lv_iload (pc := 202) hx hb (zdt_at zt_X10_schedule_1 60 rfl) (lv_at hl 3 rfl) ?_
      refine lv_iload_n (pc := 204) hx hb (zdt_at zt_X10_schedule_1 61 rfl) rfl (lv_at hl 1 rfl) ?_
      refine lv_iconst (pc := 205) (v := (4 : Int32)) hx hb (zdt_at zt_X10_schedule_1 62 rfl) (by decide) ?_
      replace hf := zk_s hf
      refine lv_idiv (pc := 206) hx hb (zdt_at zt_X10_schedule_1 63 rfl) hf.1 ?_
      replace hf := hf.2
      replace hf := zk_s hf
      refine lv_irem (pc := 207) hx hb (zdt_at zt_X10_schedule_2 0 rfl) hf.1 ?_
      replace hf := hf.2
      refine lv_if_ne (pc := 208) (tgt := 217) hx hb (zdt_at zt_X10_schedule_2 1 rfl) (by decide) (fun cn_ => ?t_20) (fun cn_ => ?f_21)
      case t_20 =>
        replace hf := ze_s cn_ hf
        clear cn_
        refine lv_iinc (pc := 217) (v := (i_9 + (1 : Int32))) (lv' := [(4, .int (i_9 + (1 : Int32))), (0, .ref h0), (2, .int x_1), (3, .int i_8)]) hx hb (zdt_at zt_X10_schedule_2 6 rfl) hl (k := 3) rfl rfl (by decide) rfl ?_
        clear hl
        intro ls hl
        refine lv_goto (pc := 220) (tgt := 54) hx hb (zdt_at zt_X10_schedule_2 7 rfl) (by decide) ?_
        exact hTo _ _ _ (ihself_13 _ hf H locs ls hP hD hS (lv_sub hl [1, 2, 3, 0] rfl))
      replace hf := zt_s cn_ hf
      clear cn_
      refine lv_iload_n (pc := 211) hx hb (zdt_at zt_X10_schedule_2 2 rfl) rfl (lv_at hl 2 rfl) ?_
      refine lv_iconst (pc := 212) (v := (2 : Int32)) hx hb (zdt_at zt_X10_schedule_2 3 rfl) (by decide) ?_
      replace hf := zb_s hf
      obtain ⟨r_22, hc_, hf⟩ := hf
      refine zcs (pc := 213) (rv := (some (.int r_22))) (va_runS (As := [.int i_8, .int (2 : Int32)]) (rest := []) ⟨hx, hb, hml, hown, hts⟩ (c_X10_times l D cy tt H.size i_8 (2 : Int32) r_22 hc_) (va_cwS 2 hts gX10_schedule_X10_times rfl rfl rfl (by decide +kernel) ⟨Nat.le_of_ble_eq_true rfl, Nat.le_of_ble_eq_true rfl⟩) ⟨zblind, zpre hE hS (hP.sub [] rfl) (hD.sub [] (by decide) rfl) (va_free hD hS hA [] rfl)⟩ rfl rfl hl.1 rfl (lv_room (Nat.le_of_ble_eq_true rfl)) (zdt_at zt_X10_schedule_2 4 rfl) ⟨Nat.zero_le _, Nat.zero_le _⟩) ?_
      clear hc_
      refine W.eq (g2 := F0 m 216 ls [.int r_22]) rfl ?_
      refine lv_istore_n (pc := 216) (lv' := [(3, .int r_22), (0, .ref h0), (2, .int x_1), (4, .int i_9)]) hx hb (zdt_at zt_X10_schedule_2 5 rfl) rfl hl (by decide) rfl ?_
      clear hl
      intro ls hl
      refine lv_iinc (pc := 217) (v := (i_9 + (1 : Int32))) (lv' := [(4, .int (i_9 + (1 : Int32))), (3, .int r_22), (0, .ref h0), (2, .int x_1)]) hx hb (zdt_at zt_X10_schedule_2 6 rfl) hl (k := 3) rfl rfl (by decide) rfl ?_
      clear hl
      intro ls hl
      refine lv_goto (pc := 220) (tgt := 54) hx hb (zdt_at zt_X10_schedule_2 7 rfl) (by decide) ?_
      exact hTo _ _ _ (ihself_13 _ hf H locs ls hP hD hS (lv_sub hl [2, 3, 1, 0] rfl))
    clear eK_19
    refine hTo _ _ _ (zl_go (fun z => match z with | (i_16, c_round_17) => ∀ (H : Heap) (locs : List Loc) (ls : Array Slot), va_P D vwCl ([(h0, .inr (12, zmo hm c_thrown c_state c_test c_words c_ill c_before c_inRow c_first c_inWindow c_same c_made c_requests c_total c_secrets x_2 c_high c_low c_keyHigh c_keyLow)), ((hm 39), .inl (cy 1, 256, .inl c_box)), ((hm 14), .inl (cy 1, 1024, .inl c_keys)), ((hm 10), .inl (cy 1, 16, .inl c_length)), ((hm 41), .inl (cy 1, 240, .inl c_round_17))]) H → va_D A ([(h0, .inr (12, zmo hm c_thrown c_state c_test c_words c_ill c_before c_inRow c_first c_inWindow c_same c_made c_requests c_total c_secrets x_2 c_high c_low c_keyHigh c_keyLow)), ((hm 39), .inl (cy 1, 256, .inl c_box)), ((hm 14), .inl (cy 1, 1024, .inl c_keys)), ((hm 10), .inl (cy 1, 16, .inl c_length)), ((hm 41), .inl (cy 1, 240, .inl c_round_17))]) → va_S A s.heap H locs → lv_has ls 8 [(0, .ref h0), (2, .int x_1), (3, .int i_8), (4, .int i_9), (5, .int i_16)] → GW H locs (F0 m 70 ls [])) hf ?_ H locs ls hP hD hS (lv_sub hl [1, 2, 3, 4, 0] rfl))
    clear hf hl hP hD hS
    intro self_23 ihself_23 z hf
    obtain ⟨i_16, c_round_17⟩ := z
    intro H locs ls hP hD hS hl
    refine hFr _ _ _ ?_
    unfold b_X10_schedule_70 at hf
    refine lv_iload (pc := 70) hx hb (zdt_at zt_X10_schedule_0 47 rfl) (lv_at hl 4 rfl) ?_
    refine lv_iconst (pc := 72) (v := (4 : Int32)) hx hb (zdt_at zt_X10_schedule_0 48 rfl) (by decide) ?_
    refine lv_icmp_ge (pc := 73) (tgt := 202) hx hb (zdt_at zt_X10_schedule_0 49 rfl) (by decide) (fun cn_ => ?t_24) (fun cn_ => ?f_25)
    case t_24 =>
      replace hf := zt_s cn_ hf
      clear cn_
      exact hTo _ _ _ (kK_19 _ H locs ls hP hD hS (lv_sub hl [0, 1, 2, 3] rfl) hf)
    replace hf := ze_s cn_ hf
    clear cn_
    refine lv_iload (pc := 76) hx hb (zdt_at zt_X10_schedule_0 50 rfl) (lv_at hl 3 rfl) ?_
    refine lv_iload_n (pc := 78) hx hb (zdt_at zt_X10_schedule_0 51 rfl) rfl (lv_at hl 1 rfl) ?_
    refine lv_iconst (pc := 79) (v := (4 : Int32)) hx hb (zdt_at zt_X10_schedule_0 52 rfl) (by decide) ?_
    replace hf := zk_s hf
    refine lv_idiv (pc := 80) hx hb (zdt_at zt_X10_schedule_0 53 rfl) hf.1 ?_
    replace hf := hf.2
    replace hf := zk_s hf
    refine lv_irem (pc := 81) hx hb (zdt_at zt_X10_schedule_0 54 rfl) hf.1 ?_
    replace hf := hf.2
    replace hf := zj_s hf
    obtain ⟨K_27, eK_27, hf⟩ := hf
    have kK_27 : ∀ (v_26 : Int32) (H : Heap) (locs : List Loc) (ls : Array Slot), va_P D vwCl ([(h0, .inr (12, zmo hm c_thrown c_state c_test c_words c_ill c_before c_inRow c_first c_inWindow c_same c_made c_requests c_total c_secrets x_2 c_high c_low c_keyHigh c_keyLow)), ((hm 39), .inl (cy 1, 256, .inl c_box)), ((hm 14), .inl (cy 1, 1024, .inl c_keys)), ((hm 10), .inl (cy 1, 16, .inl c_length)), ((hm 41), .inl (cy 1, 240, .inl c_round_17))]) H → va_D A ([(h0, .inr (12, zmo hm c_thrown c_state c_test c_words c_ill c_before c_inRow c_first c_inWindow c_same c_made c_requests c_total c_secrets x_2 c_high c_low c_keyHigh c_keyLow)), ((hm 39), .inl (cy 1, 256, .inl c_box)), ((hm 14), .inl (cy 1, 1024, .inl c_keys)), ((hm 10), .inl (cy 1, 16, .inl c_length)), ((hm 41), .inl (cy 1, 240, .inl c_round_17))]) → va_S A s.heap H locs → lv_has ls 8 [(0, .ref h0), (2, .int x_1), (3, .int i_8), (4, .int i_9), (5, .int i_16)] → K_27 v_26 = some (c_rounds', c_round') → GW H locs (F0 m 90 ls [.int v_26]) := by
      clear hf hl hP hD hS
      intro v_26 H locs ls hP hD hS hl hf
      rw [eK_27] at hf
      clear eK_27
      refine hFr _ _ _ ?_
      refine lv_istore (pc := 90) (lv' := [(6, .int v_26), (0, .ref h0), (2, .int x_1), (3, .int i_8), (4, .int i_9), (5, .int i_16)]) hx hb (zdt_at zt_X10_schedule_0 59 rfl) hl (by decide) rfl ?_
      clear hl
      intro ls hl
      refine lv_aload_n (pc := 92) hx hb (zdt_at zt_X10_schedule_0 60 rfl) rfl (lv_at hl 1 rfl) ?_
      refine va_get (pc := 93) (D := D) (ci := 12) (v := .ref (hm 41)) (C := RX10) (T := TX10) (N := 52) hx hb hts hcX10 hown hK hP 0 rfl rfl 41 (by decide) hw2 (fun _ h9 => h9) rfl (zdt_at zt_X10_schedule_0 61 rfl) ?_
      refine lv_iconst (pc := 96) (v := (4 : Int32)) hx hb (zdt_at zt_X10_schedule_0 62 rfl) (by decide) ?_
      refine lv_iload (pc := 97) hx hb (zdt_at zt_X10_schedule_0 63 rfl) (lv_at hl 4 rfl) ?_
      refine lv_iconst (pc := 99) (v := (1 : Int32)) hx hb (zdt_at zt_X10_schedule_1 0 rfl) (by decide) ?_
      refine lv_isub (pc := 100) hx hb (zdt_at zt_X10_schedule_1 1 rfl) ?_
      refine lv_imul (pc := 101) hx hb (zdt_at zt_X10_schedule_1 2 rfl) ?_
      refine lv_iload (pc := 102) hx hb (zdt_at zt_X10_schedule_1 3 rfl) (lv_at hl 0 rfl) ?_
      replace hf := zj_s hf
      obtain ⟨K_29, eK_29, hf⟩ := hf
      have kK_29 : ∀ (v_28 : Int32) (H : Heap) (locs : List Loc) (ls : Array Slot), va_P D vwCl ([(h0, .inr (12, zmo hm c_thrown c_state c_test c_words c_ill c_before c_inRow c_first c_inWindow c_same c_made c_requests c_total c_secrets x_2 c_high c_low c_keyHigh c_keyLow)), ((hm 39), .inl (cy 1, 256, .inl c_box)), ((hm 14), .inl (cy 1, 1024, .inl c_keys)), ((hm 10), .inl (cy 1, 16, .inl c_length)), ((hm 41), .inl (cy 1, 240, .inl c_round_17))]) H → va_D A ([(h0, .inr (12, zmo hm c_thrown c_state c_test c_words c_ill c_before c_inRow c_first c_inWindow c_same c_made c_requests c_total c_secrets x_2 c_high c_low c_keyHigh c_keyLow)), ((hm 39), .inl (cy 1, 256, .inl c_box)), ((hm 14), .inl (cy 1, 1024, .inl c_keys)), ((hm 10), .inl (cy 1, 16, .inl c_length)), ((hm 41), .inl (cy 1, 240, .inl c_round_17))]) → va_S A s.heap H locs → lv_has ls 8 [(0, .ref h0), (2, .int x_1), (3, .int i_8), (4, .int i_9), (5, .int i_16), (6, .int v_26)] → K_29 v_28 = some (c_rounds', c_round') → GW H locs (F0 m 118 ls [.int v_28, .int ((4 : Int32) * (i_9 - (1 : Int32))), .ref (hm 41)]) := by
        clear hf hl hP hD hS
        intro v_28 H locs ls hP hD hS hl hf
        rw [eK_29] at hf
        clear eK_29
        refine hFr _ _ _ ?_
        refine lv_iadd (pc := 118) hx hb (zdt_at zt_X10_schedule_1 12 rfl) ?_
        replace hf := zk_s hf
        refine va_iald (pc := 119) hx hb hK hP 4 1 rfl rfl hf.1 (zdt_at zt_X10_schedule_1 13 rfl) ?_
        replace hf := hf.2
        refine lv_topi (fun x_30 e_ => ?_)
        replace hf := zn_s hf e_
        clear e_
        refine lv_istore (pc := 120) (lv' := [(7, .int x_30), (0, .ref h0), (2, .int x_1), (3, .int i_8), (4, .int i_9), (5, .int i_16), (6, .int v_26)]) hx hb (zdt_at zt_X10_schedule_1 14 rfl) hl (by decide) rfl ?_
        clear hl
        intro ls hl
        refine lv_iload (pc := 122) hx hb (zdt_at zt_X10_schedule_1 15 rfl) (lv_at hl 6 rfl) ?_
        replace hf := zj_s hf
        obtain ⟨K_32, eK_32, hf⟩ := hf
        have kK_32 : ∀ (v_31 : Int32) (H : Heap) (locs : List Loc) (ls : Array Slot), va_P D vwCl ([(h0, .inr (12, zmo hm c_thrown c_state c_test c_words c_ill c_before c_inRow c_first c_inWindow c_same c_made c_requests c_total c_secrets x_2 c_high c_low c_keyHigh c_keyLow)), ((hm 39), .inl (cy 1, 256, .inl c_box)), ((hm 14), .inl (cy 1, 1024, .inl c_keys)), ((hm 10), .inl (cy 1, 16, .inl c_length)), ((hm 41), .inl (cy 1, 240, .inl c_round_17))]) H → va_D A ([(h0, .inr (12, zmo hm c_thrown c_state c_test c_words c_ill c_before c_inRow c_first c_inWindow c_same c_made c_requests c_total c_secrets x_2 c_high c_low c_keyHigh c_keyLow)), ((hm 39), .inl (cy 1, 256, .inl c_box)), ((hm 14), .inl (cy 1, 1024, .inl c_keys)), ((hm 10), .inl (cy 1, 16, .inl c_length)), ((hm 41), .inl (cy 1, 240, .inl c_round_17))]) → va_S A s.heap H locs → lv_has ls 8 [(0, .ref h0), (2, .int x_1), (3, .int i_8), (4, .int i_9), (5, .int i_16), (6, .int v_26), (7, .int v_31)] → K_32 v_31 = some (c_rounds', c_round') → GW H locs (F0 m 151 ls []) := by
          clear hf hl hP hD hS
          intro v_31 H locs ls hP hD hS hl hf
          rw [eK_32] at hf
          clear eK_32
          refine hFr _ _ _ ?_
          refine lv_iload (pc := 151) hx hb (zdt_at zt_X10_schedule_1 30 rfl) (lv_at hl 5 rfl) ?_
          replace hf := zj_s hf
          obtain ⟨K_34, eK_34, hf⟩ := hf
          have kK_34 : ∀ (v_33 : Int32) (H : Heap) (locs : List Loc) (ls : Array Slot), va_P D vwCl ([(h0, .inr (12, zmo hm c_thrown c_state c_test c_words c_ill c_before c_inRow c_first c_inWindow c_same c_made c_requests c_total c_secrets x_2 c_high c_low c_keyHigh c_keyLow)), ((hm 39), .inl (cy 1, 256, .inl c_box)), ((hm 14), .inl (cy 1, 1024, .inl c_keys)), ((hm 10), .inl (cy 1, 16, .inl c_length)), ((hm 41), .inl (cy 1, 240, .inl c_round_17))]) H → va_D A ([(h0, .inr (12, zmo hm c_thrown c_state c_test c_words c_ill c_before c_inRow c_first c_inWindow c_same c_made c_requests c_total c_secrets x_2 c_high c_low c_keyHigh c_keyLow)), ((hm 39), .inl (cy 1, 256, .inl c_box)), ((hm 14), .inl (cy 1, 1024, .inl c_keys)), ((hm 10), .inl (cy 1, 16, .inl c_length)), ((hm 41), .inl (cy 1, 240, .inl c_round_17))]) → va_S A s.heap H locs → lv_has ls 8 [(0, .ref h0), (2, .int x_1), (3, .int i_8), (4, .int i_9), (5, .int i_16), (7, .int v_33)] → K_34 v_33 = some (c_rounds', c_round') → GW H locs (F0 m 167 ls []) := by
            clear hf hl hP hD hS
            intro v_33 H locs ls hP hD hS hl hf
            rw [eK_34] at hf
            clear eK_34
            refine hFr _ _ _ ?_
            refine lv_aload_n (pc := 167) hx hb (zdt_at zt_X10_schedule_1 38 rfl) rfl (lv_at hl 0 rfl) ?_
            refine va_get (pc := 168) (D := D) (ci := 12) (v := .ref (hm 41)) (C := RX10) (T := TX10) (N := 52) hx hb hts hcX10 hown hK hP 0 rfl rfl 41 (by decide) hw2 (fun _ h9 => h9) rfl (zdt_at zt_X10_schedule_1 39 rfl) ?_
            refine lv_iconst (pc := 171) (v := (4 : Int32)) hx hb (zdt_at zt_X10_schedule_1 40 rfl) (by decide) ?_
            refine lv_iload (pc := 172) hx hb (zdt_at zt_X10_schedule_1 41 rfl) (lv_at hl 3 rfl) ?_
            refine lv_imul (pc := 174) hx hb (zdt_at zt_X10_schedule_1 42 rfl) ?_
            refine lv_iload (pc := 175) hx hb (zdt_at zt_X10_schedule_1 43 rfl) (lv_at hl 4 rfl) ?_
            refine lv_iadd (pc := 177) hx hb (zdt_at zt_X10_schedule_1 44 rfl) ?_
            refine lv_aload_n (pc := 178) hx hb (zdt_at zt_X10_schedule_1 45 rfl) rfl (lv_at hl 0 rfl) ?_
            refine va_get (pc := 179) (D := D) (ci := 12) (v := .ref (hm 41)) (C := RX10) (T := TX10) (N := 52) hx hb hts hcX10 hown hK hP 0 rfl rfl 41 (by decide) hw2 (fun _ h9 => h9) rfl (zdt_at zt_X10_schedule_1 46 rfl) ?_
            refine lv_iconst (pc := 182) (v := (4 : Int32)) hx hb (zdt_at zt_X10_schedule_1 47 rfl) (by decide) ?_
            refine lv_iload (pc := 183) hx hb (zdt_at zt_X10_schedule_1 48 rfl) (lv_at hl 3 rfl) ?_
            refine lv_imul (pc := 185) hx hb (zdt_at zt_X10_schedule_1 49 rfl) ?_
            refine lv_iload_n (pc := 186) hx hb (zdt_at zt_X10_schedule_1 50 rfl) rfl (lv_at hl 1 rfl) ?_
            refine lv_isub (pc := 187) hx hb (zdt_at zt_X10_schedule_1 51 rfl) ?_
            refine lv_iload (pc := 188) hx hb (zdt_at zt_X10_schedule_1 52 rfl) (lv_at hl 4 rfl) ?_
            refine lv_iadd (pc := 190) hx hb (zdt_at zt_X10_schedule_1 53 rfl) ?_
            replace hf := zk_s hf
            refine va_iald (pc := 191) hx hb hK hP 4 1 rfl rfl hf.1 (zdt_at zt_X10_schedule_1 54 rfl) ?_
            replace hf := hf.2
            refine lv_iload (pc := 192) hx hb (zdt_at zt_X10_schedule_1 55 rfl) (lv_at hl 5 rfl) ?_
            refine lv_ixor (pc := 194) hx hb (zdt_at zt_X10_schedule_1 56 rfl) ?_
            replace hf := zk_s hf
            refine va_iast (pc := 195) hx hb hK hP hD hS 4 1 rfl rfl hf.1 (zdt_at zt_X10_schedule_1 57 rfl) ?_
            replace hf := hf.2
            clear hP hD hS
            intro H locs hP hD hS
            obtain ⟨c_round_35, e_⟩ : ∃ q : Nat → Int32, q = (upd c_round_17 (((4 : Int32) * i_9) + i_16).toNatClampNeg ((c_round_17 ((((4 : Int32) * i_9) - x_1) + i_16).toNatClampNeg) ^^^ v_33)) := ⟨_, rfl⟩
            replace hf := zn_s hf e_
            replace hP : va_P D vwCl ([(h0, .inr (12, zmo hm c_thrown c_state c_test c_words c_ill c_before c_inRow c_first c_inWindow c_same c_made c_requests c_total c_secrets x_2 c_high c_low c_keyHigh c_keyLow)), ((hm 39), .inl (cy 1, 256, .inl c_box)), ((hm 14), .inl (cy 1, 1024, .inl c_keys)), ((hm 10), .inl (cy 1, 16, .inl c_length)), ((hm 41), .inl (cy 1, 240, .inl c_round_35))]) H := by rw [e_]; exact hP
            replace hD : va_D A ([(h0, .inr (12, zmo hm c_thrown c_state c_test c_words c_ill c_before c_inRow c_first c_inWindow c_same c_made c_requests c_total c_secrets x_2 c_high c_low c_keyHigh c_keyLow)), ((hm 39), .inl (cy 1, 256, .inl c_box)), ((hm 14), .inl (cy 1, 1024, .inl c_keys)), ((hm 10), .inl (cy 1, 16, .inl c_length)), ((hm 41), .inl (cy 1, 240, .inl c_round_35))]) := by rw [e_]; exact hD
            clear e_
            refine lv_iinc (pc := 196) (v := (i_16 + (1 : Int32))) (lv' := [(5, .int (i_16 + (1 : Int32))), (0, .ref h0), (2, .int x_1), (3, .int i_8), (4, .int i_9), (7, .int v_33)]) hx hb (zdt_at zt_X10_schedule_1 58 rfl) hl (k := 4) rfl rfl (by decide) rfl ?_
            clear hl
            intro ls hl
            refine lv_goto (pc := 199) (tgt := 70) hx hb (zdt_at zt_X10_schedule_1 59 rfl) (by decide) ?_
            exact hTo _ _ _ (ihself_23 _ hf H locs ls hP hD hS (lv_sub hl [1, 2, 3, 4, 0] rfl))
          clear eK_34
          refine lv_if_eq (pc := 153) (tgt := 167) hx hb (zdt_at zt_X10_schedule_1 31 rfl) (by decide) (fun cn_ => ?t_36) (fun cn_ => ?f_37)
          case t_36 =>
            replace hf := zt_s cn_ hf
            clear cn_
            exact hTo _ _ _ (kK_34 _ H locs ls hP hD hS (lv_sub hl [0, 1, 2, 3, 4, 6] rfl) hf)
          replace hf := ze_s cn_ hf
          clear cn_
          refine lv_iload (pc := 156) hx hb (zdt_at zt_X10_schedule_1 32 rfl) (lv_at hl 4 rfl) ?_
          refine lv_if_ne (pc := 158) (tgt := 167) hx hb (zdt_at zt_X10_schedule_1 33 rfl) (by decide) (fun cn_ => ?t_38) (fun cn_ => ?f_39)
          case t_38 =>
            replace hf := ze_s cn_ hf
            clear cn_
            exact hTo _ _ _ (kK_34 _ H locs ls hP hD hS (lv_sub hl [0, 1, 2, 3, 4, 6] rfl) hf)
          replace hf := zt_s cn_ hf
          clear cn_
          refine lv_iload (pc := 161) hx hb (zdt_at zt_X10_schedule_1 34 rfl) (lv_at hl 6 rfl) ?_
          refine lv_iload_n (pc := 163) hx hb (zdt_at zt_X10_schedule_1 35 rfl) rfl (lv_at hl 2 rfl) ?_
          refine lv_ixor (pc := 164) hx hb (zdt_at zt_X10_schedule_1 36 rfl) ?_
          refine lv_topi (fun x_40 e_ => ?_)
          replace hf := zn_s hf e_
          clear e_
          refine lv_istore (pc := 165) (lv' := [(7, .int x_40), (0, .ref h0), (2, .int x_1), (3, .int i_8), (4, .int i_9), (5, .int i_16), (6, .int v_26)]) hx hb (zdt_at zt_X10_schedule_1 37 rfl) hl (by decide) rfl ?_
          clear hl
          intro ls hl
          exact hTo _ _ _ (kK_34 _ H locs ls hP hD hS (lv_sub hl [1, 2, 3, 4, 5, 0] rfl) hf)
        clear eK_32
        replace hf := zj_s hf
        obtain ⟨K_41, eK_41, hf⟩ := hf
        have kK_41 : ∀  (H : Heap) (locs : List Loc) (ls : Array Slot), va_P D vwCl ([(h0, .inr (12, zmo hm c_thrown c_state c_test c_words c_ill c_before c_inRow c_first c_inWindow c_same c_made c_requests c_total c_secrets x_2 c_high c_low c_keyHigh c_keyLow)), ((hm 39), .inl (cy 1, 256, .inl c_box)), ((hm 14), .inl (cy 1, 1024, .inl c_keys)), ((hm 10), .inl (cy 1, 16, .inl c_length)), ((hm 41), .inl (cy 1, 240, .inl c_round_17))]) H → va_D A ([(h0, .inr (12, zmo hm c_thrown c_state c_test c_words c_ill c_before c_inRow c_first c_inWindow c_same c_made c_requests c_total c_secrets x_2 c_high c_low c_keyHigh c_keyLow)), ((hm 39), .inl (cy 1, 256, .inl c_box)), ((hm 14), .inl (cy 1, 1024, .inl c_keys)), ((hm 10), .inl (cy 1, 16, .inl c_length)), ((hm 41), .inl (cy 1, 240, .inl c_round_17))]) → va_S A s.heap H locs → lv_has ls 8 [(0, .ref h0), (2, .int x_1), (3, .int i_8), (4, .int i_9), (5, .int i_16), (6, .int v_26), (7, .int x_30)] → K_41 () = some (c_rounds', c_round') → GW H locs (F0 m 142 ls []) := by
          clear hf hl hP hD hS
          intro  H locs ls hP hD hS hl hf
          rw [eK_41] at hf
          clear eK_41
          refine hFr _ _ _ ?_
          refine lv_aload_n (pc := 142) hx hb (zdt_at zt_X10_schedule_1 25 rfl) rfl (lv_at hl 0 rfl) ?_
          refine va_get (pc := 143) (D := D) (ci := 12) (v := .ref (hm 39)) (C := RX10) (T := TX10) (N := 52) hx hb hts hcX10 hown hK hP 0 rfl rfl 39 (by decide) hw3 (fun _ h9 => h9) rfl (zdt_at zt_X10_schedule_1 26 rfl) ?_
          refine lv_iload (pc := 146) hx hb (zdt_at zt_X10_schedule_1 27 rfl) (lv_at hl 6 rfl) ?_
          replace hf := zk_s hf
          refine va_iald (pc := 148) hx hb hK hP 1 1 rfl rfl hf.1 (zdt_at zt_X10_schedule_1 28 rfl) ?_
          replace hf := hf.2
          refine lv_topi (fun x_42 e_ => ?_)
          replace hf := zn_s hf e_
          clear e_
          refine lv_istore (pc := 149) (lv' := [(7, .int x_42), (0, .ref h0), (2, .int x_1), (3, .int i_8), (4, .int i_9), (5, .int i_16), (6, .int v_26)]) hx hb (zdt_at zt_X10_schedule_1 29 rfl) hl (by decide) rfl ?_
          clear hl
          intro ls hl
          exact hTo _ _ _ (kK_32 _ H locs ls hP hD hS (lv_sub hl [1, 2, 3, 4, 5, 6, 0] rfl) hf)
        clear eK_41
        refine lv_if_ne (pc := 124) (tgt := 142) hx hb (zdt_at zt_X10_schedule_1 16 rfl) (by decide) (fun cn_ => ?t_43) (fun cn_ => ?f_44)
        case t_43 =>
          replace hf := ze_s cn_ hf
          clear cn_
          exact hTo _ _ _ (kK_41  H locs ls hP hD hS (lv_sub hl [1, 2, 3, 4, 5, 6, 0] rfl) hf)
        replace hf := zt_s cn_ hf
        clear cn_
        refine lv_iload_n (pc := 127) hx hb (zdt_at zt_X10_schedule_1 17 rfl) rfl (lv_at hl 2 rfl) ?_
        refine lv_bipush (pc := 128) (v := (32 : Int32)) hx hb (zdt_at zt_X10_schedule_1 18 rfl) (by decide) ?_
        refine lv_icmp_ne (pc := 130) (tgt := 151) hx hb (zdt_at zt_X10_schedule_1 19 rfl) (by decide) (fun cn_ => ?t_45) (fun cn_ => ?f_46)
        case t_45 =>
          replace hf := ze_s cn_ hf
          clear cn_
          exact hTo _ _ _ (kK_32 _ H locs ls hP hD hS (lv_sub hl [1, 2, 3, 4, 5, 6, 0] rfl) hf)
        replace hf := zt_s cn_ hf
        clear cn_
        refine lv_iload (pc := 133) hx hb (zdt_at zt_X10_schedule_1 20 rfl) (lv_at hl 4 rfl) ?_
        refine lv_bipush (pc := 135) (v := (8 : Int32)) hx hb (zdt_at zt_X10_schedule_1 21 rfl) (by decide) ?_
        replace hf := zk_s hf
        refine lv_irem (pc := 137) hx hb (zdt_at zt_X10_schedule_1 22 rfl) hf.1 ?_
        replace hf := hf.2
        refine lv_iconst (pc := 138) (v := (4 : Int32)) hx hb (zdt_at zt_X10_schedule_1 23 rfl) (by decide) ?_
        refine lv_icmp_ne (pc := 139) (tgt := 151) hx hb (zdt_at zt_X10_schedule_1 24 rfl) (by decide) (fun cn_ => ?t_47) (fun cn_ => ?f_48)
        case t_47 =>
          replace hf := ze_s cn_ hf
          clear cn_
          exact hTo _ _ _ (kK_32 _ H locs ls hP hD hS (lv_sub hl [1, 2, 3, 4, 5, 6, 0] rfl) hf)
        replace hf := zt_s cn_ hf
        clear cn_
        exact hTo _ _ _ (kK_41  H locs ls hP hD hS (lv_sub hl [1, 2, 3, 4, 5, 6, 0] rfl) hf)
      clear eK_29
      refine lv_if_eq (pc := 104) (tgt := 116) hx hb (zdt_at zt_X10_schedule_1 4 rfl) (by decide) (fun cn_ => ?t_49) (fun cn_ => ?f_50)
      case t_49 =>
        replace hf := zt_s cn_ hf
        clear cn_
        refine lv_iload (pc := 116) hx hb (zdt_at zt_X10_schedule_1 11 rfl) (lv_at hl 5 rfl) ?_
        exact hTo _ _ _ (kK_29 _ H locs ls hP hD hS (lv_sub hl [1, 2, 3, 4, 5, 0] rfl) hf)
      replace hf := ze_s cn_ hf
      clear cn_
      refine lv_iload (pc := 107) hx hb (zdt_at zt_X10_schedule_1 5 rfl) (lv_at hl 5 rfl) ?_
      refine lv_iconst (pc := 109) (v := (1 : Int32)) hx hb (zdt_at zt_X10_schedule_1 6 rfl) (by decide) ?_
      refine lv_iadd (pc := 110) hx hb (zdt_at zt_X10_schedule_1 7 rfl) ?_
      refine lv_iconst (pc := 111) (v := (4 : Int32)) hx hb (zdt_at zt_X10_schedule_1 8 rfl) (by decide) ?_
      replace hf := zk_s hf
      refine lv_irem (pc := 112) hx hb (zdt_at zt_X10_schedule_1 9 rfl) hf.1 ?_
      replace hf := hf.2
      refine lv_goto (pc := 113) (tgt := 118) hx hb (zdt_at zt_X10_schedule_1 10 rfl) (by decide) ?_
      exact hTo _ _ _ (kK_29 _ H locs ls hP hD hS (lv_sub hl [1, 2, 3, 4, 5, 0] rfl) hf)
    clear eK_27
    refine lv_if_ne (pc := 82) (tgt := 89) hx hb (zdt_at zt_X10_schedule_0 55 rfl) (by decide) (fun cn_ => ?t_51) (fun cn_ => ?f_52)
    case t_51 =>
      replace hf := ze_s cn_ hf
      clear cn_
      refine lv_iconst (pc := 89) (v := (0 : Int32)) hx hb (zdt_at zt_X10_schedule_0 58 rfl) (by decide) ?_
      exact hTo _ _ _ (kK_27 _ H locs ls hP hD hS (lv_sub hl [0, 1, 2, 3, 4] rfl) hf)
    replace hf := zt_s cn_ hf
    clear cn_
    refine lv_iconst (pc := 85) (v := (1 : Int32)) hx hb (zdt_at zt_X10_schedule_0 56 rfl) (by decide) ?_
    refine lv_goto (pc := 86) (tgt := 90) hx hb (zdt_at zt_X10_schedule_0 57 rfl) (by decide) ?_
    exact hTo _ _ _ (kK_27 _ H locs ls hP hD hS (lv_sub hl [0, 1, 2, 3, 4] rfl) hf)
  clear eK_6
  refine hTo _ _ _ (zl_go (fun z => match z with | (i_3, c_round_4) => ∀ (H : Heap) (locs : List Loc) (ls : Array Slot), va_P D vwCl ([(h0, .inr (12, zmo hm c_thrown c_state c_test c_words c_ill c_before c_inRow c_first c_inWindow c_same c_made c_requests c_total c_secrets x_2 c_high c_low c_keyHigh c_keyLow)), ((hm 39), .inl (cy 1, 256, .inl c_box)), ((hm 14), .inl (cy 1, 1024, .inl c_keys)), ((hm 10), .inl (cy 1, 16, .inl c_length)), ((hm 41), .inl (cy 1, 240, .inl c_round_4))]) H → va_D A ([(h0, .inr (12, zmo hm c_thrown c_state c_test c_words c_ill c_before c_inRow c_first c_inWindow c_same c_made c_requests c_total c_secrets x_2 c_high c_low c_keyHigh c_keyLow)), ((hm 39), .inl (cy 1, 256, .inl c_box)), ((hm 14), .inl (cy 1, 1024, .inl c_keys)), ((hm 10), .inl (cy 1, 16, .inl c_length)), ((hm 41), .inl (cy 1, 240, .inl c_round_4))]) → va_S A s.heap H locs → lv_has ls 8 [(0, .ref h0), (1, .int p1), (2, .int x_1), (3, .int i_3)] → GW H locs (F0 m 19 ls [])) hf ?_ H locs ls hP hD hS (lv_sub hl [2, 3, 1, 0] rfl))
  clear hf hl hP hD hS
  intro self_53 ihself_53 z hf
  obtain ⟨i_3, c_round_4⟩ := z
  intro H locs ls hP hD hS hl
  refine hFr _ _ _ ?_
  unfold b_X10_schedule_19 at hf
  refine lv_iload_n (pc := 19) hx hb (zdt_at zt_X10_schedule_0 14 rfl) rfl (lv_at hl 3 rfl) ?_
  refine lv_iload_n (pc := 20) hx hb (zdt_at zt_X10_schedule_0 15 rfl) rfl (lv_at hl 2 rfl) ?_
  refine lv_icmp_ge (pc := 21) (tgt := 47) hx hb (zdt_at zt_X10_schedule_0 16 rfl) (by decide) (fun cn_ => ?t_54) (fun cn_ => ?f_55)
  case t_54 =>
    replace hf := zt_s cn_ hf
    clear cn_
    exact hTo _ _ _ (kK_6 _ H locs ls hP hD hS (lv_sub hl [0, 2] rfl) hf)
  replace hf := ze_s cn_ hf
  clear cn_
  refine lv_aload_n (pc := 24) hx hb (zdt_at zt_X10_schedule_0 17 rfl) rfl (lv_at hl 0 rfl) ?_
  refine va_get (pc := 25) (D := D) (ci := 12) (v := .ref (hm 41)) (C := RX10) (T := TX10) (N := 52) hx hb hts hcX10 hown hK hP 0 rfl rfl 41 (by decide) hw2 (fun _ h9 => h9) rfl (zdt_at zt_X10_schedule_0 18 rfl) ?_
  refine lv_iload_n (pc := 28) hx hb (zdt_at zt_X10_schedule_0 19 rfl) rfl (lv_at hl 3 rfl) ?_
  refine lv_aload_n (pc := 29) hx hb (zdt_at zt_X10_schedule_0 20 rfl) rfl (lv_at hl 0 rfl) ?_
  refine va_get (pc := 30) (D := D) (ci := 12) (v := .ref (hm 14)) (C := RX10) (T := TX10) (N := 52) hx hb hts hcX10 hown hK hP 0 rfl rfl 14 (by decide) hw4 (fun _ h9 => h9) rfl (zdt_at zt_X10_schedule_0 21 rfl) ?_
  refine lv_bipush (pc := 33) (v := (64 : Int32)) hx hb (zdt_at zt_X10_schedule_0 22 rfl) (by decide) ?_
  refine lv_iload_n (pc := 35) hx hb (zdt_at zt_X10_schedule_0 23 rfl) rfl (lv_at hl 1 rfl) ?_
  refine lv_imul (pc := 36) hx hb (zdt_at zt_X10_schedule_0 24 rfl) ?_
  refine lv_iload_n (pc := 37) hx hb (zdt_at zt_X10_schedule_0 25 rfl) rfl (lv_at hl 3 rfl) ?_
  refine lv_iadd (pc := 38) hx hb (zdt_at zt_X10_schedule_0 26 rfl) ?_
  replace hf := zk_s hf
  refine va_iald (pc := 39) hx hb hK hP 2 1 rfl rfl hf.1 (zdt_at zt_X10_schedule_0 27 rfl) ?_
  replace hf := hf.2
  replace hf := zk_s hf
  refine va_iast (pc := 40) hx hb hK hP hD hS 4 1 rfl rfl hf.1 (zdt_at zt_X10_schedule_0 28 rfl) ?_
  replace hf := hf.2
  clear hP hD hS
  intro H locs hP hD hS
  obtain ⟨c_round_56, e_⟩ : ∃ q : Nat → Int32, q = (upd c_round_4 i_3.toNatClampNeg (c_keys (((64 : Int32) * p1) + i_3).toNatClampNeg)) := ⟨_, rfl⟩
  replace hf := zn_s hf e_
  replace hP : va_P D vwCl ([(h0, .inr (12, zmo hm c_thrown c_state c_test c_words c_ill c_before c_inRow c_first c_inWindow c_same c_made c_requests c_total c_secrets x_2 c_high c_low c_keyHigh c_keyLow)), ((hm 39), .inl (cy 1, 256, .inl c_box)), ((hm 14), .inl (cy 1, 1024, .inl c_keys)), ((hm 10), .inl (cy 1, 16, .inl c_length)), ((hm 41), .inl (cy 1, 240, .inl c_round_56))]) H := by rw [e_]; exact hP
  replace hD : va_D A ([(h0, .inr (12, zmo hm c_thrown c_state c_test c_words c_ill c_before c_inRow c_first c_inWindow c_same c_made c_requests c_total c_secrets x_2 c_high c_low c_keyHigh c_keyLow)), ((hm 39), .inl (cy 1, 256, .inl c_box)), ((hm 14), .inl (cy 1, 1024, .inl c_keys)), ((hm 10), .inl (cy 1, 16, .inl c_length)), ((hm 41), .inl (cy 1, 240, .inl c_round_56))]) := by rw [e_]; exact hD
  clear e_
  refine lv_iinc (pc := 41) (v := (i_3 + (1 : Int32))) (lv' := [(3, .int (i_3 + (1 : Int32))), (0, .ref h0), (1, .int p1), (2, .int x_1)]) hx hb (zdt_at zt_X10_schedule_0 29 rfl) hl (k := 3) rfl rfl (by decide) rfl ?_
  clear hl
  intro ls hl
  refine lv_goto (pc := 44) (tgt := 19) hx hb (zdt_at zt_X10_schedule_0 30 rfl) (by decide) ?_
  exact hTo _ _ _ (ihself_53 _ hf H locs ls hP hD hS (lv_sub hl [1, 2, 3, 0] rfl))
set_option maxHeartbeats 4000000 in
set_option maxRecDepth 100000 in
theorem c_X10_addRound (l : Launch) (D : va_G) (cy : Nat → ClassId) (tt : Nat → Nat) (sz : Nat) (h0 : Nat) (hm : Nat → Nat) (p1 : Int32) (c_block : Nat → Int32) (c_round : Nat → Int32) (c_thrown : Int32) (c_state : Int32) (c_test : Int32) (c_words : Int32) (c_ill : Int32) (c_before : Int32) (c_inRow : Int32) (c_first : Int32) (c_inWindow : Int32) (c_same : Int32) (c_made : Int32) (c_requests : Int32) (c_total : Int64) (c_secrets : Int32) (c_rounds : Int32) (c_high : Int64) (c_low : Int64) (c_keyHigh : Int64) (c_keyLow : Int64) (c_block' : Nat → Int32) (hf : f_X10_addRound p1 c_block c_round = some c_block') : Met l yX10_addRound wsX10_addRound ({ frames := 0, cells := 0, slots := 0, locals := 0 }) (zPc D cy tt sz [.ref h0, .int p1] ([(h0, .inr (12, zmo hm c_thrown c_state c_test c_words c_ill c_before c_inRow c_first c_inWindow c_same c_made c_requests c_total c_secrets c_rounds c_high c_low c_keyHigh c_keyLow)), ((hm 43), .inl (cy 1, 16, .inl c_block)), ((hm 41), .inl (cy 1, 240, .inl c_round))])) (zQ D none ([(h0, .inr (12, zmo hm c_thrown c_state c_test c_words c_ill c_before c_inRow c_first c_inWindow c_same c_made c_requests c_total c_secrets c_rounds c_high c_low c_keyHigh c_keyLow)), ((hm 43), .inl (cy 1, 16, .inl c_block')), ((hm 41), .inl (cy 1, 240, .inl c_round))]) (va_A ([(h0, .inr (12, zmo hm c_thrown c_state c_test c_words c_ill c_before c_inRow c_first c_inWindow c_same c_made c_requests c_total c_secrets c_rounds c_high c_low c_keyHigh c_keyLow)), ((hm 43), .inl (cy 1, 16, .inl c_block)), ((hm 41), .inl (cy 1, 240, .inl c_round))]) sz)) 0 0 (va_A ([(h0, .inr (12, zmo hm c_thrown c_state c_test c_words c_ill c_before c_inRow c_first c_inWindow c_same c_made c_requests c_total c_secrets c_rounds c_high c_low c_keyHigh c_keyLow)), ((hm 43), .inl (cy 1, 16, .inl c_block)), ((hm 41), .inl (cy 1, 240, .inl c_round))]) sz) := by
  refine Met.ofW (cc := cX10_addRound) (maxL := 3) (ret := none) (by decide) rfl ?_
  intro p e s m args below meth c s₁ B hml hv
  obtain ⟨rfl, rfl, hP, hD0, hE⟩ := hv
  have hx := B.exec
  have hb := B.bytes
  have hr := B.returns
  have hts := atoms_spec (ws := wsX10_addRound) B.pre
  have hown : s.vm.findClass RX10 = some m.cls := findClass_of_methodNamed B.named
  have hlocks := B.notSynchronized
  clear B
  have hD := hD0.self (sz := s.heap.size)
  generalize hAe : va_A ([(h0, .inr (12, zmo hm c_thrown c_state c_test c_words c_ill c_before c_inRow c_first c_inWindow c_same c_made c_requests c_total c_secrets c_rounds c_high c_low c_keyHigh c_keyLow)), ((hm 43), .inl (cy 1, 16, .inl c_block)), ((hm 41), .inl (cy 1, 240, .inl c_round))]) s.heap.size = A at hD hE ⊢
  have hA : ∀ q : Nat, s.heap.size ≤ q → A q := fun q h => by rw [← hAe]; exact Or.inr h
  clear hAe hD0
  have hS : va_S A s.heap s.heap [] := va_S.rf
  have hK := hE.1
  have hw0 := hts (.fieldLink RX10 162 "SealedModuleModel" "block" "[I") (by decide +kernel)
  have hw1 := hts (.fieldLink RX10 159 "SealedModuleModel" "round" "[I") (by decide +kernel)
  have hcX10 : ∀ w ∈ u_ws RX10 TX10 52, w ∈ wsX10_addRound := (fun _ h => List.mem_cons_of_mem _ (List.mem_append_right _ h))
  have hl := lv_entry ([.ref h0, .int p1]) (n := 3) (Nat.le_of_ble_eq_true rfl)
  rw [lg_entry_eq]
  generalize (lg_sl ([.ref h0, .int p1]) ++ List.replicate (3 - (lg_sl ([.ref h0, .int p1])).length) Slot.unset).toArray = ls at hl ⊢
  replace hl : lv_has ls 3 [(0, .ref h0), (1, .int p1)] := hl
  unfold f_X10_addRound at hf
  refine zgo (fun GW hTo hFr => ?_)
  refine hFr _ _ _ ?_
  obtain ⟨H, hHe⟩ : ∃ H, H = s.heap := ⟨_, rfl⟩
  obtain ⟨locs, hLe⟩ : ∃ L : List Loc, L = [] := ⟨_, rfl⟩
  rw [← hHe] at hP
  replace hS : va_S A s.heap H locs := by rw [hHe, hLe]; exact hS
  refine zat hHe.symm hLe.symm ?_
  clear hHe hLe
  refine lv_iconst (pc := 0) (v := (0 : Int32)) hx hb (zdt_at zt_X10_addRound_0 0 rfl) (by decide) ?_
  refine lv_istore_n (pc := 1) (lv' := [(2, .int (0 : Int32)), (0, .ref h0), (1, .int p1)]) hx hb (zdt_at zt_X10_addRound_0 1 rfl) rfl hl (by decide) rfl ?_
  clear hl
  intro ls hl
  replace hf := zj_s hf
  obtain ⟨K_4, eK_4, hf⟩ := hf
  have kK_4 : ∀ (c_block_3 : Nat → Int32) (H : Heap) (locs : List Loc) (ls : Array Slot), va_P D vwCl ([(h0, .inr (12, zmo hm c_thrown c_state c_test c_words c_ill c_before c_inRow c_first c_inWindow c_same c_made c_requests c_total c_secrets c_rounds c_high c_low c_keyHigh c_keyLow)), ((hm 43), .inl (cy 1, 16, .inl c_block_3)), ((hm 41), .inl (cy 1, 240, .inl c_round))]) H → va_D A ([(h0, .inr (12, zmo hm c_thrown c_state c_test c_words c_ill c_before c_inRow c_first c_inWindow c_same c_made c_requests c_total c_secrets c_rounds c_high c_low c_keyHigh c_keyLow)), ((hm 43), .inl (cy 1, 16, .inl c_block_3)), ((hm 41), .inl (cy 1, 240, .inl c_round))]) → va_S A s.heap H locs → lv_has ls 3 [] → K_4 c_block_3 = some c_block' → GW H locs (F0 m 38 ls []) := by
    clear hf hl hP hD hS
    intro c_block_3 H locs ls hP hD hS hl hf
    rw [eK_4] at hf
    clear eK_4
    refine hFr _ _ _ ?_
    cases hf
    exact W.vret (pc := 38) hx hb hr (fun t ht hW => ⟨rfl, ⟨by rw [ht]; exact hP, hD⟩, hS.F ht⟩) hS.2.2 (zdt_at zt_X10_addRound_0 24 rfl)
  clear eK_4
  refine hTo _ _ _ (zl_go (fun z => match z with | (i_1, c_block_2) => ∀ (H : Heap) (locs : List Loc) (ls : Array Slot), va_P D vwCl ([(h0, .inr (12, zmo hm c_thrown c_state c_test c_words c_ill c_before c_inRow c_first c_inWindow c_same c_made c_requests c_total c_secrets c_rounds c_high c_low c_keyHigh c_keyLow)), ((hm 43), .inl (cy 1, 16, .inl c_block_2)), ((hm 41), .inl (cy 1, 240, .inl c_round))]) H → va_D A ([(h0, .inr (12, zmo hm c_thrown c_state c_test c_words c_ill c_before c_inRow c_first c_inWindow c_same c_made c_requests c_total c_secrets c_rounds c_high c_low c_keyHigh c_keyLow)), ((hm 43), .inl (cy 1, 16, .inl c_block_2)), ((hm 41), .inl (cy 1, 240, .inl c_round))]) → va_S A s.heap H locs → lv_has ls 3 [(0, .ref h0), (1, .int p1), (2, .int i_1)] → GW H locs (F0 m 2 ls [])) hf ?_ H locs ls hP hD hS (lv_sub hl [1, 2, 0] rfl))
  clear hf hl hP hD hS
  intro self_5 ihself_5 z hf
  obtain ⟨i_1, c_block_2⟩ := z
  intro H locs ls hP hD hS hl
  refine hFr _ _ _ ?_
  unfold b_X10_addRound_2 at hf
  refine lv_iload_n (pc := 2) hx hb (zdt_at zt_X10_addRound_0 2 rfl) rfl (lv_at hl 2 rfl) ?_
  refine lv_bipush (pc := 3) (v := (16 : Int32)) hx hb (zdt_at zt_X10_addRound_0 3 rfl) (by decide) ?_
  refine lv_icmp_ge (pc := 5) (tgt := 38) hx hb (zdt_at zt_X10_addRound_0 4 rfl) (by decide) (fun cn_ => ?t_6) (fun cn_ => ?f_7)
  case t_6 =>
    replace hf := zt_s cn_ hf
    clear cn_
    exact hTo _ _ _ (kK_4 _ H locs ls hP hD hS (lv_sub hl [] rfl) hf)
  replace hf := ze_s cn_ hf
  clear cn_
  refine lv_aload_n (pc := 8) hx hb (zdt_at zt_X10_addRound_0 5 rfl) rfl (lv_at hl 0 rfl) ?_
  refine va_get (pc := 9) (D := D) (ci := 12) (v := .ref (hm 43)) (C := RX10) (T := TX10) (N := 52) hx hb hts hcX10 hown hK hP 0 rfl rfl 43 (by decide) hw0 (fun _ h9 => h9) rfl (zdt_at zt_X10_addRound_0 6 rfl) ?_
  refine lv_iload_n (pc := 12) hx hb (zdt_at zt_X10_addRound_0 7 rfl) rfl (lv_at hl 2 rfl) ?_
  refine lv_aload_n (pc := 13) hx hb (zdt_at zt_X10_addRound_0 8 rfl) rfl (lv_at hl 0 rfl) ?_
  refine va_get (pc := 14) (D := D) (ci := 12) (v := .ref (hm 43)) (C := RX10) (T := TX10) (N := 52) hx hb hts hcX10 hown hK hP 0 rfl rfl 43 (by decide) hw0 (fun _ h9 => h9) rfl (zdt_at zt_X10_addRound_0 9 rfl) ?_
  refine lv_iload_n (pc := 17) hx hb (zdt_at zt_X10_addRound_0 10 rfl) rfl (lv_at hl 2 rfl) ?_
  replace hf := zk_s hf
  refine va_iald (pc := 18) hx hb hK hP 1 1 rfl rfl hf.1 (zdt_at zt_X10_addRound_0 11 rfl) ?_
  replace hf := hf.2
  refine lv_aload_n (pc := 19) hx hb (zdt_at zt_X10_addRound_0 12 rfl) rfl (lv_at hl 0 rfl) ?_
  refine va_get (pc := 20) (D := D) (ci := 12) (v := .ref (hm 41)) (C := RX10) (T := TX10) (N := 52) hx hb hts hcX10 hown hK hP 0 rfl rfl 41 (by decide) hw1 (fun _ h9 => h9) rfl (zdt_at zt_X10_addRound_0 13 rfl) ?_
  refine lv_bipush (pc := 23) (v := (16 : Int32)) hx hb (zdt_at zt_X10_addRound_0 14 rfl) (by decide) ?_
  refine lv_iload_n (pc := 25) hx hb (zdt_at zt_X10_addRound_0 15 rfl) rfl (lv_at hl 1 rfl) ?_
  refine lv_imul (pc := 26) hx hb (zdt_at zt_X10_addRound_0 16 rfl) ?_
  refine lv_iload_n (pc := 27) hx hb (zdt_at zt_X10_addRound_0 17 rfl) rfl (lv_at hl 2 rfl) ?_
  refine lv_iadd (pc := 28) hx hb (zdt_at zt_X10_addRound_0 18 rfl) ?_
  replace hf := zk_s hf
  refine va_iald (pc := 29) hx hb hK hP 2 1 rfl rfl hf.1 (zdt_at zt_X10_addRound_0 19 rfl) ?_
  replace hf := hf.2
  refine lv_ixor (pc := 30) hx hb (zdt_at zt_X10_addRound_0 20 rfl) ?_
  replace hf := zk_s hf
  refine va_iast (pc := 31) hx hb hK hP hD hS 1 1 rfl rfl hf.1 (zdt_at zt_X10_addRound_0 21 rfl) ?_
  replace hf := hf.2
  clear hP hD hS
  intro H locs hP hD hS
  obtain ⟨c_block_8, e_⟩ : ∃ q : Nat → Int32, q = (upd c_block_2 i_1.toNatClampNeg ((c_block_2 i_1.toNatClampNeg) ^^^ (c_round (((16 : Int32) * p1) + i_1).toNatClampNeg))) := ⟨_, rfl⟩
  replace hf := zn_s hf e_
  replace hP : va_P D vwCl ([(h0, .inr (12, zmo hm c_thrown c_state c_test c_words c_ill c_before c_inRow c_first c_inWindow c_same c_made c_requests c_total c_secrets c_rounds c_high c_low c_keyHigh c_keyLow)), ((hm 43), .inl (cy 1, 16, .inl c_block_8)), ((hm 41), .inl (cy 1, 240, .inl c_round))]) H := by rw [e_]; exact hP
  replace hD : va_D A ([(h0, .inr (12, zmo hm c_thrown c_state c_test c_words c_ill c_before c_inRow c_first c_inWindow c_same c_made c_requests c_total c_secrets c_rounds c_high c_low c_keyHigh c_keyLow)), ((hm 43), .inl (cy 1, 16, .inl c_block_8)), ((hm 41), .inl (cy 1, 240, .inl c_round))]) := by rw [e_]; exact hD
  clear e_
  refine lv_iinc (pc := 32) (v := (i_1 + (1 : Int32))) (lv' := [(2, .int (i_1 + (1 : Int32))), (0, .ref h0), (1, .int p1)]) hx hb (zdt_at zt_X10_addRound_0 22 rfl) hl (k := 2) rfl rfl (by decide) rfl ?_
  clear hl
  intro ls hl
  refine lv_goto (pc := 35) (tgt := 2) hx hb (zdt_at zt_X10_addRound_0 23 rfl) (by decide) ?_
  exact hTo _ _ _ (ihself_5 _ hf H locs ls hP hD hS (lv_sub hl [1, 2, 0] rfl))
set_option maxHeartbeats 4000000 in
set_option maxRecDepth 100000 in
theorem c_X10_substitute (l : Launch) (D : va_G) (cy : Nat → ClassId) (tt : Nat → Nat) (sz : Nat) (h0 : Nat) (hm : Nat → Nat) (c_block : Nat → Int32) (c_box : Nat → Int32) (c_other : Nat → Int32) (c_thrown : Int32) (c_state : Int32) (c_test : Int32) (c_words : Int32) (c_ill : Int32) (c_before : Int32) (c_inRow : Int32) (c_first : Int32) (c_inWindow : Int32) (c_same : Int32) (c_made : Int32) (c_requests : Int32) (c_total : Int64) (c_secrets : Int32) (c_rounds : Int32) (c_high : Int64) (c_low : Int64) (c_keyHigh : Int64) (c_keyLow : Int64) (c_block' : Nat → Int32) (c_other' : Nat → Int32) (hf : f_X10_substitute c_block c_box c_other = some (c_block', c_other')) : Met l yX10_substitute wsX10_substitute ({ frames := 0, cells := 0, slots := 0, locals := 0 }) (zPc D cy tt sz [.ref h0] ([(h0, .inr (12, zmo hm c_thrown c_state c_test c_words c_ill c_before c_inRow c_first c_inWindow c_same c_made c_requests c_total c_secrets c_rounds c_high c_low c_keyHigh c_keyLow)), ((hm 43), .inl (cy 1, 16, .inl c_block)), ((hm 39), .inl (cy 1, 256, .inl c_box)), ((hm 44), .inl (cy 1, 16, .inl c_other))])) (zQ D none ([(h0, .inr (12, zmo hm c_thrown c_state c_test c_words c_ill c_before c_inRow c_first c_inWindow c_same c_made c_requests c_total c_secrets c_rounds c_high c_low c_keyHigh c_keyLow)), ((hm 43), .inl (cy 1, 16, .inl c_block')), ((hm 39), .inl (cy 1, 256, .inl c_box)), ((hm 44), .inl (cy 1, 16, .inl c_other'))]) (va_A ([(h0, .inr (12, zmo hm c_thrown c_state c_test c_words c_ill c_before c_inRow c_first c_inWindow c_same c_made c_requests c_total c_secrets c_rounds c_high c_low c_keyHigh c_keyLow)), ((hm 43), .inl (cy 1, 16, .inl c_block)), ((hm 39), .inl (cy 1, 256, .inl c_box)), ((hm 44), .inl (cy 1, 16, .inl c_other))]) sz)) 0 0 (va_A ([(h0, .inr (12, zmo hm c_thrown c_state c_test c_words c_ill c_before c_inRow c_first c_inWindow c_same c_made c_requests c_total c_secrets c_rounds c_high c_low c_keyHigh c_keyLow)), ((hm 43), .inl (cy 1, 16, .inl c_block)), ((hm 39), .inl (cy 1, 256, .inl c_box)), ((hm 44), .inl (cy 1, 16, .inl c_other))]) sz) := by
  refine Met.ofW (cc := cX10_substitute) (maxL := 2) (ret := none) (by decide) rfl ?_
  intro p e s m args below meth c s₁ B hml hv
  obtain ⟨rfl, rfl, hP, hD0, hE⟩ := hv
  have hx := B.exec
  have hb := B.bytes
  have hr := B.returns
  have hts := atoms_spec (ws := wsX10_substitute) B.pre
  have hown : s.vm.findClass RX10 = some m.cls := findClass_of_methodNamed B.named
  have hlocks := B.notSynchronized
  clear B
  have hD := hD0.self (sz := s.heap.size)
  generalize hAe : va_A ([(h0, .inr (12, zmo hm c_thrown c_state c_test c_words c_ill c_before c_inRow c_first c_inWindow c_same c_made c_requests c_total c_secrets c_rounds c_high c_low c_keyHigh c_keyLow)), ((hm 43), .inl (cy 1, 16, .inl c_block)), ((hm 39), .inl (cy 1, 256, .inl c_box)), ((hm 44), .inl (cy 1, 16, .inl c_other))]) s.heap.size = A at hD hE ⊢
  have hA : ∀ q : Nat, s.heap.size ≤ q → A q := fun q h => by rw [← hAe]; exact Or.inr h
  clear hAe hD0
  have hS : va_S A s.heap s.heap [] := va_S.rf
  have hK := hE.1
  have hw0 := hts (.fieldLink RX10 162 "SealedModuleModel" "block" "[I") (by decide +kernel)
  have hw1 := hts (.fieldLink RX10 165 "SealedModuleModel" "other" "[I") (by decide +kernel)
  have hw2 := hts (.fieldLink RX10 153 "SealedModuleModel" "box" "[I") (by decide +kernel)
  have hcX10 : ∀ w ∈ u_ws RX10 TX10 52, w ∈ wsX10_substitute := (fun _ h => List.mem_cons_of_mem _ (List.mem_append_right _ h))
  have hl := lv_entry ([.ref h0]) (n := 2) (Nat.le_of_ble_eq_true rfl)
  rw [lg_entry_eq]
  generalize (lg_sl ([.ref h0]) ++ List.replicate (2 - (lg_sl ([.ref h0])).length) Slot.unset).toArray = ls at hl ⊢
  replace hl : lv_has ls 2 [(0, .ref h0)] := hl
  unfold f_X10_substitute at hf
  refine zgo (fun GW hTo hFr => ?_)
  refine hFr _ _ _ ?_
  obtain ⟨H, hHe⟩ : ∃ H, H = s.heap := ⟨_, rfl⟩
  obtain ⟨locs, hLe⟩ : ∃ L : List Loc, L = [] := ⟨_, rfl⟩
  rw [← hHe] at hP
  replace hS : va_S A s.heap H locs := by rw [hHe, hLe]; exact hS
  refine zat hHe.symm hLe.symm ?_
  clear hHe hLe
  refine lv_iconst (pc := 0) (v := (0 : Int32)) hx hb (zdt_at zt_X10_substitute_0 0 rfl) (by decide) ?_
  refine lv_istore_n (pc := 1) (lv' := [(1, .int (0 : Int32)), (0, .ref h0)]) hx hb (zdt_at zt_X10_substitute_0 1 rfl) rfl hl (by decide) rfl ?_
  clear hl
  intro ls hl
  replace hf := zj_s hf
  obtain ⟨K_4, eK_4, hf⟩ := hf
  have kK_4 : ∀ (c_other_3 : Nat → Int32) (H : Heap) (locs : List Loc) (ls : Array Slot), va_P D vwCl ([(h0, .inr (12, zmo hm c_thrown c_state c_test c_words c_ill c_before c_inRow c_first c_inWindow c_same c_made c_requests c_total c_secrets c_rounds c_high c_low c_keyHigh c_keyLow)), ((hm 43), .inl (cy 1, 16, .inl c_block)), ((hm 39), .inl (cy 1, 256, .inl c_box)), ((hm 44), .inl (cy 1, 16, .inl c_other_3))]) H → va_D A ([(h0, .inr (12, zmo hm c_thrown c_state c_test c_words c_ill c_before c_inRow c_first c_inWindow c_same c_made c_requests c_total c_secrets c_rounds c_high c_low c_keyHigh c_keyLow)), ((hm 43), .inl (cy 1, 16, .inl c_block)), ((hm 39), .inl (cy 1, 256, .inl c_box)), ((hm 44), .inl (cy 1, 16, .inl c_other_3))]) → va_S A s.heap H locs → lv_has ls 2 [(0, .ref h0)] → K_4 c_other_3 = some (c_block', c_other') → GW H locs (F0 m 40 ls []) := by
    clear hf hl hP hD hS
    intro c_other_3 H locs ls hP hD hS hl hf
    rw [eK_4] at hf
    clear eK_4
    refine hFr _ _ _ ?_
    refine lv_iconst (pc := 40) (v := (0 : Int32)) hx hb (zdt_at zt_X10_substitute_0 26 rfl) (by decide) ?_
    refine lv_istore_n (pc := 41) (lv' := [(1, .int (0 : Int32)), (0, .ref h0)]) hx hb (zdt_at zt_X10_substitute_0 27 rfl) rfl hl (by decide) rfl ?_
    clear hl
    intro ls hl
    replace hf := zj_s hf
    obtain ⟨K_8, eK_8, hf⟩ := hf
    have kK_8 : ∀ (c_block_7 : Nat → Int32) (H : Heap) (locs : List Loc) (ls : Array Slot), va_P D vwCl ([(h0, .inr (12, zmo hm c_thrown c_state c_test c_words c_ill c_before c_inRow c_first c_inWindow c_same c_made c_requests c_total c_secrets c_rounds c_high c_low c_keyHigh c_keyLow)), ((hm 43), .inl (cy 1, 16, .inl c_block_7)), ((hm 39), .inl (cy 1, 256, .inl c_box)), ((hm 44), .inl (cy 1, 16, .inl c_other_3))]) H → va_D A ([(h0, .inr (12, zmo hm c_thrown c_state c_test c_words c_ill c_before c_inRow c_first c_inWindow c_same c_made c_requests c_total c_secrets c_rounds c_high c_low c_keyHigh c_keyLow)), ((hm 43), .inl (cy 1, 16, .inl c_block_7)), ((hm 39), .inl (cy 1, 256, .inl c_box)), ((hm 44), .inl (cy 1, 16, .inl c_other_3))]) → va_S A s.heap H locs → lv_has ls 2 [] → K_8 c_block_7 = some (c_block', c_other') → GW H locs (F0 m 66 ls []) := by
      clear hf hl hP hD hS
      intro c_block_7 H locs ls hP hD hS hl hf
      rw [eK_8] at hf
      clear eK_8
      refine hFr _ _ _ ?_
      cases hf
      exact W.vret (pc := 66) hx hb hr (fun t ht hW => ⟨rfl, ⟨by rw [ht]; exact hP, hD⟩, hS.F ht⟩) hS.2.2 (zdt_at zt_X10_substitute_0 41 rfl)
    clear eK_8
    refine hTo _ _ _ (zl_go (fun z => match z with | (i_5, c_block_6) => ∀ (H : Heap) (locs : List Loc) (ls : Array Slot), va_P D vwCl ([(h0, .inr (12, zmo hm c_thrown c_state c_test c_words c_ill c_before c_inRow c_first c_inWindow c_same c_made c_requests c_total c_secrets c_rounds c_high c_low c_keyHigh c_keyLow)), ((hm 43), .inl (cy 1, 16, .inl c_block_6)), ((hm 39), .inl (cy 1, 256, .inl c_box)), ((hm 44), .inl (cy 1, 16, .inl c_other_3))]) H → va_D A ([(h0, .inr (12, zmo hm c_thrown c_state c_test c_words c_ill c_before c_inRow c_first c_inWindow c_same c_made c_requests c_total c_secrets c_rounds c_high c_low c_keyHigh c_keyLow)), ((hm 43), .inl (cy 1, 16, .inl c_block_6)), ((hm 39), .inl (cy 1, 256, .inl c_box)), ((hm 44), .inl (cy 1, 16, .inl c_other_3))]) → va_S A s.heap H locs → lv_has ls 2 [(0, .ref h0), (1, .int i_5)] → GW H locs (F0 m 42 ls [])) hf ?_ H locs ls hP hD hS (lv_sub hl [1, 0] rfl))
    clear hf hl hP hD hS
    intro self_9 ihself_9 z hf
    obtain ⟨i_5, c_block_6⟩ := z
    intro H locs ls hP hD hS hl
    refine hFr _ _ _ ?_
    unfold b_X10_substitute_42 at hf
    refine lv_iload_n (pc := 42) hx hb (zdt_at zt_X10_substitute_0 28 rfl) rfl (lv_at hl 1 rfl) ?_
    refine lv_bipush (pc := 43) (v := (16 : Int32)) hx hb (zdt_at zt_X10_substitute_0 29 rfl) (by decide) ?_
    refine lv_icmp_ge (pc := 45) (tgt := 66) hx hb (zdt_at zt_X10_substitute_0 30 rfl) (by decide) (fun cn_ => ?t_10) (fun cn_ => ?f_11)
    case t_10 =>
      replace hf := zt_s cn_ hf
      clear cn_
      exact hTo _ _ _ (kK_8 _ H locs ls hP hD hS (lv_sub hl [] rfl) hf)
    replace hf := ze_s cn_ hf
    clear cn_
    refine lv_aload_n (pc := 48) hx hb (zdt_at zt_X10_substitute_0 31 rfl) rfl (lv_at hl 0 rfl) ?_
    refine va_get (pc := 49) (D := D) (ci := 12) (v := .ref (hm 43)) (C := RX10) (T := TX10) (N := 52) hx hb hts hcX10 hown hK hP 0 rfl rfl 43 (by decide) hw0 (fun _ h9 => h9) rfl (zdt_at zt_X10_substitute_0 32 rfl) ?_
    refine lv_iload_n (pc := 52) hx hb (zdt_at zt_X10_substitute_0 33 rfl) rfl (lv_at hl 1 rfl) ?_
    refine lv_aload_n (pc := 53) hx hb (zdt_at zt_X10_substitute_0 34 rfl) rfl (lv_at hl 0 rfl) ?_
    refine va_get (pc := 54) (D := D) (ci := 12) (v := .ref (hm 44)) (C := RX10) (T := TX10) (N := 52) hx hb hts hcX10 hown hK hP 0 rfl rfl 44 (by decide) hw1 (fun _ h9 => h9) rfl (zdt_at zt_X10_substitute_0 35 rfl) ?_
    refine lv_iload_n (pc := 57) hx hb (zdt_at zt_X10_substitute_0 36 rfl) rfl (lv_at hl 1 rfl) ?_
    replace hf := zk_s hf
    refine va_iald (pc := 58) hx hb hK hP 3 1 rfl rfl hf.1 (zdt_at zt_X10_substitute_0 37 rfl) ?_
    replace hf := hf.2
    replace hf := zk_s hf
    refine va_iast (pc := 59) hx hb hK hP hD hS 1 1 rfl rfl hf.1 (zdt_at zt_X10_substitute_0 38 rfl) ?_
    replace hf := hf.2
    clear hP hD hS
    intro H locs hP hD hS
    obtain ⟨c_block_12, e_⟩ : ∃ q : Nat → Int32, q = (upd c_block_6 i_5.toNatClampNeg (c_other_3 i_5.toNatClampNeg)) := ⟨_, rfl⟩
    replace hf := zn_s hf e_
    replace hP : va_P D vwCl ([(h0, .inr (12, zmo hm c_thrown c_state c_test c_words c_ill c_before c_inRow c_first c_inWindow c_same c_made c_requests c_total c_secrets c_rounds c_high c_low c_keyHigh c_keyLow)), ((hm 43), .inl (cy 1, 16, .inl c_block_12)), ((hm 39), .inl (cy 1, 256, .inl c_box)), ((hm 44), .inl (cy 1, 16, .inl c_other_3))]) H := by rw [e_]; exact hP
    replace hD : va_D A ([(h0, .inr (12, zmo hm c_thrown c_state c_test c_words c_ill c_before c_inRow c_first c_inWindow c_same c_made c_requests c_total c_secrets c_rounds c_high c_low c_keyHigh c_keyLow)), ((hm 43), .inl (cy 1, 16, .inl c_block_12)), ((hm 39), .inl (cy 1, 256, .inl c_box)), ((hm 44), .inl (cy 1, 16, .inl c_other_3))]) := by rw [e_]; exact hD
    clear e_
    refine lv_iinc (pc := 60) (v := (i_5 + (1 : Int32))) (lv' := [(1, .int (i_5 + (1 : Int32))), (0, .ref h0)]) hx hb (zdt_at zt_X10_substitute_0 39 rfl) hl (k := 1) rfl rfl (by decide) rfl ?_
    clear hl
    intro ls hl
    refine lv_goto (pc := 63) (tgt := 42) hx hb (zdt_at zt_X10_substitute_0 40 rfl) (by decide) ?_
    exact hTo _ _ _ (ihself_9 _ hf H locs ls hP hD hS (lv_sub hl [1, 0] rfl))
  clear eK_4
  refine hTo _ _ _ (zl_go (fun z => match z with | (i_1, c_other_2) => ∀ (H : Heap) (locs : List Loc) (ls : Array Slot), va_P D vwCl ([(h0, .inr (12, zmo hm c_thrown c_state c_test c_words c_ill c_before c_inRow c_first c_inWindow c_same c_made c_requests c_total c_secrets c_rounds c_high c_low c_keyHigh c_keyLow)), ((hm 43), .inl (cy 1, 16, .inl c_block)), ((hm 39), .inl (cy 1, 256, .inl c_box)), ((hm 44), .inl (cy 1, 16, .inl c_other_2))]) H → va_D A ([(h0, .inr (12, zmo hm c_thrown c_state c_test c_words c_ill c_before c_inRow c_first c_inWindow c_same c_made c_requests c_total c_secrets c_rounds c_high c_low c_keyHigh c_keyLow)), ((hm 43), .inl (cy 1, 16, .inl c_block)), ((hm 39), .inl (cy 1, 256, .inl c_box)), ((hm 44), .inl (cy 1, 16, .inl c_other_2))]) → va_S A s.heap H locs → lv_has ls 2 [(0, .ref h0), (1, .int i_1)] → GW H locs (F0 m 2 ls [])) hf ?_ H locs ls hP hD hS (lv_sub hl [1, 0] rfl))
  clear hf hl hP hD hS
  intro self_13 ihself_13 z hf
  obtain ⟨i_1, c_other_2⟩ := z
  intro H locs ls hP hD hS hl
  refine hFr _ _ _ ?_
  unfold b_X10_substitute_2 at hf
  refine lv_iload_n (pc := 2) hx hb (zdt_at zt_X10_substitute_0 2 rfl) rfl (lv_at hl 1 rfl) ?_
  refine lv_bipush (pc := 3) (v := (16 : Int32)) hx hb (zdt_at zt_X10_substitute_0 3 rfl) (by decide) ?_
  refine lv_icmp_ge (pc := 5) (tgt := 40) hx hb (zdt_at zt_X10_substitute_0 4 rfl) (by decide) (fun cn_ => ?t_14) (fun cn_ => ?f_15)
  case t_14 =>
    replace hf := zt_s cn_ hf
    clear cn_
    exact hTo _ _ _ (kK_4 _ H locs ls hP hD hS (lv_sub hl [0] rfl) hf)
  replace hf := ze_s cn_ hf
  clear cn_
  refine lv_aload_n (pc := 8) hx hb (zdt_at zt_X10_substitute_0 5 rfl) rfl (lv_at hl 0 rfl) ?_
  refine va_get (pc := 9) (D := D) (ci := 12) (v := .ref (hm 44)) (C := RX10) (T := TX10) (N := 52) hx hb hts hcX10 hown hK hP 0 rfl rfl 44 (by decide) hw1 (fun _ h9 => h9) rfl (zdt_at zt_X10_substitute_0 6 rfl) ?_
  refine lv_iload_n (pc := 12) hx hb (zdt_at zt_X10_substitute_0 7 rfl) rfl (lv_at hl 1 rfl) ?_
  refine lv_aload_n (pc := 13) hx hb (zdt_at zt_X10_substitute_0 8 rfl) rfl (lv_at hl 0 rfl) ?_
  refine va_get (pc := 14) (D := D) (ci := 12) (v := .ref (hm 39)) (C := RX10) (T := TX10) (N := 52) hx hb hts hcX10 hown hK hP 0 rfl rfl 39 (by decide) hw2 (fun _ h9 => h9) rfl (zdt_at zt_X10_substitute_0 9 rfl) ?_
  refine lv_aload_n (pc := 17) hx hb (zdt_at zt_X10_substitute_0 10 rfl) rfl (lv_at hl 0 rfl) ?_
  refine va_get (pc := 18) (D := D) (ci := 12) (v := .ref (hm 43)) (C := RX10) (T := TX10) (N := 52) hx hb hts hcX10 hown hK hP 0 rfl rfl 43 (by decide) hw0 (fun _ h9 => h9) rfl (zdt_at zt_X10_substitute_0 11 rfl) ?_
  refine lv_iload_n (pc := 21) hx hb (zdt_at zt_X10_substitute_0 12 rfl) rfl (lv_at hl 1 rfl) ?_
  refine lv_iconst (pc := 22) (v := (4 : Int32)) hx hb (zdt_at zt_X10_substitute_0 13 rfl) (by decide) ?_
  refine lv_iload_n (pc := 23) hx hb (zdt_at zt_X10_substitute_0 14 rfl) rfl (lv_at hl 1 rfl) ?_
  refine lv_iconst (pc := 24) (v := (4 : Int32)) hx hb (zdt_at zt_X10_substitute_0 15 rfl) (by decide) ?_
  replace hf := zk_s hf
  refine lv_irem (pc := 25) hx hb (zdt_at zt_X10_substitute_0 16 rfl) hf.1 ?_
  replace hf := hf.2
  refine lv_imul (pc := 26) hx hb (zdt_at zt_X10_substitute_0 17 rfl) ?_
  refine lv_iadd (pc := 27) hx hb (zdt_at zt_X10_substitute_0 18 rfl) ?_
  refine lv_bipush (pc := 28) (v := (16 : Int32)) hx hb (zdt_at zt_X10_substitute_0 19 rfl) (by decide) ?_
  replace hf := zk_s hf
  refine lv_irem (pc := 30) hx hb (zdt_at zt_X10_substitute_0 20 rfl) hf.1 ?_
  replace hf := hf.2
  replace hf := zk_s hf
  refine va_iald (pc := 31) hx hb hK hP 1 1 rfl rfl hf.1 (zdt_at zt_X10_substitute_0 21 rfl) ?_
  replace hf := hf.2
  replace hf := zk_s hf
  refine va_iald (pc := 32) hx hb hK hP 2 1 rfl rfl hf.1 (zdt_at zt_X10_substitute_0 22 rfl) ?_
  replace hf := hf.2
  replace hf := zk_s hf
  refine va_iast (pc := 33) hx hb hK hP hD hS 3 1 rfl rfl hf.1 (zdt_at zt_X10_substitute_0 23 rfl) ?_
  replace hf := hf.2
  clear hP hD hS
  intro H locs hP hD hS
  obtain ⟨c_other_16, e_⟩ : ∃ q : Nat → Int32, q = (upd c_other_2 i_1.toNatClampNeg (c_box (c_block ((i_1 + ((4 : Int32) * (i_1 - i_1 / (4 : Int32) * (4 : Int32)))) - (i_1 + ((4 : Int32) * (i_1 - i_1 / (4 : Int32) * (4 : Int32)))) / (16 : Int32) * (16 : Int32)).toNatClampNeg).toNatClampNeg)) := ⟨_, rfl⟩
  replace hf := zn_s hf e_
  replace hP : va_P D vwCl ([(h0, .inr (12, zmo hm c_thrown c_state c_test c_words c_ill c_before c_inRow c_first c_inWindow c_same c_made c_requests c_total c_secrets c_rounds c_high c_low c_keyHigh c_keyLow)), ((hm 43), .inl (cy 1, 16, .inl c_block)), ((hm 39), .inl (cy 1, 256, .inl c_box)), ((hm 44), .inl (cy 1, 16, .inl c_other_16))]) H := by rw [e_]; exact hP
  replace hD : va_D A ([(h0, .inr (12, zmo hm c_thrown c_state c_test c_words c_ill c_before c_inRow c_first c_inWindow c_same c_made c_requests c_total c_secrets c_rounds c_high c_low c_keyHigh c_keyLow)), ((hm 43), .inl (cy 1, 16, .inl c_block)), ((hm 39), .inl (cy 1, 256, .inl c_box)), ((hm 44), .inl (cy 1, 16, .inl c_other_16))]) := by rw [e_]; exact hD
  clear e_
  refine lv_iinc (pc := 34) (v := (i_1 + (1 : Int32))) (lv' := [(1, .int (i_1 + (1 : Int32))), (0, .ref h0)]) hx hb (zdt_at zt_X10_substitute_0 24 rfl) hl (k := 1) rfl rfl (by decide) rfl ?_
  clear hl
  intro ls hl
  refine lv_goto (pc := 37) (tgt := 2) hx hb (zdt_at zt_X10_substitute_0 25 rfl) (by decide) ?_
  exact hTo _ _ _ (ihself_13 _ hf H locs ls hP hD hS (lv_sub hl [1, 0] rfl))
set_option maxHeartbeats 4000000 in
set_option maxRecDepth 100000 in
theorem c_X10_substituteBack (l : Launch) (D : va_G) (cy : Nat → ClassId) (tt : Nat → Nat) (sz : Nat) (h0 : Nat) (hm : Nat → Nat) (c_back : Nat → Int32) (c_block : Nat → Int32) (c_other : Nat → Int32) (c_thrown : Int32) (c_state : Int32) (c_test : Int32) (c_words : Int32) (c_ill : Int32) (c_before : Int32) (c_inRow : Int32) (c_first : Int32) (c_inWindow : Int32) (c_same : Int32) (c_made : Int32) (c_requests : Int32) (c_total : Int64) (c_secrets : Int32) (c_rounds : Int32) (c_high : Int64) (c_low : Int64) (c_keyHigh : Int64) (c_keyLow : Int64) (c_block' : Nat → Int32) (c_other' : Nat → Int32) (hf : f_X10_substituteBack c_back c_block c_other = some (c_block', c_other')) : Met l yX10_substituteBack wsX10_substituteBack ({ frames := 0, cells := 0, slots := 0, locals := 0 }) (zPc D cy tt sz [.ref h0] ([(h0, .inr (12, zmo hm c_thrown c_state c_test c_words c_ill c_before c_inRow c_first c_inWindow c_same c_made c_requests c_total c_secrets c_rounds c_high c_low c_keyHigh c_keyLow)), ((hm 40), .inl (cy 1, 256, .inl c_back)), ((hm 43), .inl (cy 1, 16, .inl c_block)), ((hm 44), .inl (cy 1, 16, .inl c_other))])) (zQ D none ([(h0, .inr (12, zmo hm c_thrown c_state c_test c_words c_ill c_before c_inRow c_first c_inWindow c_same c_made c_requests c_total c_secrets c_rounds c_high c_low c_keyHigh c_keyLow)), ((hm 40), .inl (cy 1, 256, .inl c_back)), ((hm 43), .inl (cy 1, 16, .inl c_block')), ((hm 44), .inl (cy 1, 16, .inl c_other'))]) (va_A ([(h0, .inr (12, zmo hm c_thrown c_state c_test c_words c_ill c_before c_inRow c_first c_inWindow c_same c_made c_requests c_total c_secrets c_rounds c_high c_low c_keyHigh c_keyLow)), ((hm 40), .inl (cy 1, 256, .inl c_back)), ((hm 43), .inl (cy 1, 16, .inl c_block)), ((hm 44), .inl (cy 1, 16, .inl c_other))]) sz)) 0 0 (va_A ([(h0, .inr (12, zmo hm c_thrown c_state c_test c_words c_ill c_before c_inRow c_first c_inWindow c_same c_made c_requests c_total c_secrets c_rounds c_high c_low c_keyHigh c_keyLow)), ((hm 40), .inl (cy 1, 256, .inl c_back)), ((hm 43), .inl (cy 1, 16, .inl c_block)), ((hm 44), .inl (cy 1, 16, .inl c_other))]) sz) := by
  refine Met.ofW (cc := cX10_substituteBack) (maxL := 2) (ret := none) (by decide) rfl ?_
  intro p e s m args below meth c s₁ B hml hv
  obtain ⟨rfl, rfl, hP, hD0, hE⟩ := hv
  have hx := B.exec
  have hb := B.bytes
  have hr := B.returns
  have hts := atoms_spec (ws := wsX10_substituteBack) B.pre
  have hown : s.vm.findClass RX10 = some m.cls := findClass_of_methodNamed B.named
  have hlocks := B.notSynchronized
  clear B
  have hD := hD0.self (sz := s.heap.size)
  generalize hAe : va_A ([(h0, .inr (12, zmo hm c_thrown c_state c_test c_words c_ill c_before c_inRow c_first c_inWindow c_same c_made c_requests c_total c_secrets c_rounds c_high c_low c_keyHigh c_keyLow)), ((hm 40), .inl (cy 1, 256, .inl c_back)), ((hm 43), .inl (cy 1, 16, .inl c_block)), ((hm 44), .inl (cy 1, 16, .inl c_other))]) s.heap.size = A at hD hE ⊢
  have hA : ∀ q : Nat, s.heap.size ≤ q → A q := fun q h => by rw [← hAe]; exact Or.inr h
  clear hAe hD0
  have hS : va_S A s.heap s.heap [] := va_S.rf
  have hK := hE.1
  have hw0 := hts (.fieldLink RX10 162 "SealedModuleModel" "block" "[I") (by decide +kernel)
  have hw1 := hts (.fieldLink RX10 165 "SealedModuleModel" "other" "[I") (by decide +kernel)
  have hw2 := hts (.fieldLink RX10 156 "SealedModuleModel" "back" "[I") (by decide +kernel)
  have hcX10 : ∀ w ∈ u_ws RX10 TX10 52, w ∈ wsX10_substituteBack := (fun _ h => List.mem_cons_of_mem _ (List.mem_append_right _ h))
  have hl := lv_entry ([.ref h0]) (n := 2) (Nat.le_of_ble_eq_true rfl)
  rw [lg_entry_eq]
  generalize (lg_sl ([.ref h0]) ++ List.replicate (2 - (lg_sl ([.ref h0])).length) Slot.unset).toArray = ls at hl ⊢
  replace hl : lv_has ls 2 [(0, .ref h0)] := hl
  unfold f_X10_substituteBack at hf
  refine zgo (fun GW hTo hFr => ?_)
  refine hFr _ _ _ ?_
  obtain ⟨H, hHe⟩ : ∃ H, H = s.heap := ⟨_, rfl⟩
  obtain ⟨locs, hLe⟩ : ∃ L : List Loc, L = [] := ⟨_, rfl⟩
  rw [← hHe] at hP
  replace hS : va_S A s.heap H locs := by rw [hHe, hLe]; exact hS
  refine zat hHe.symm hLe.symm ?_
  clear hHe hLe
  refine lv_iconst (pc := 0) (v := (0 : Int32)) hx hb (zdt_at zt_X10_substituteBack_0 0 rfl) (by decide) ?_
  refine lv_istore_n (pc := 1) (lv' := [(1, .int (0 : Int32)), (0, .ref h0)]) hx hb (zdt_at zt_X10_substituteBack_0 1 rfl) rfl hl (by decide) rfl ?_
  clear hl
  intro ls hl
  replace hf := zj_s hf
  obtain ⟨K_4, eK_4, hf⟩ := hf
  have kK_4 : ∀ (c_other_3 : Nat → Int32) (H : Heap) (locs : List Loc) (ls : Array Slot), va_P D vwCl ([(h0, .inr (12, zmo hm c_thrown c_state c_test c_words c_ill c_before c_inRow c_first c_inWindow c_same c_made c_requests c_total c_secrets c_rounds c_high c_low c_keyHigh c_keyLow)), ((hm 40), .inl (cy 1, 256, .inl c_back)), ((hm 43), .inl (cy 1, 16, .inl c_block)), ((hm 44), .inl (cy 1, 16, .inl c_other_3))]) H → va_D A ([(h0, .inr (12, zmo hm c_thrown c_state c_test c_words c_ill c_before c_inRow c_first c_inWindow c_same c_made c_requests c_total c_secrets c_rounds c_high c_low c_keyHigh c_keyLow)), ((hm 40), .inl (cy 1, 256, .inl c_back)), ((hm 43), .inl (cy 1, 16, .inl c_block)), ((hm 44), .inl (cy 1, 16, .inl c_other_3))]) → va_S A s.heap H locs → lv_has ls 2 [(0, .ref h0)] → K_4 c_other_3 = some (c_block', c_other') → GW H locs (F0 m 40 ls []) := by
    clear hf hl hP hD hS
    intro c_other_3 H locs ls hP hD hS hl hf
    rw [eK_4] at hf
    clear eK_4
    refine hFr _ _ _ ?_
    refine lv_iconst (pc := 40) (v := (0 : Int32)) hx hb (zdt_at zt_X10_substituteBack_0 26 rfl) (by decide) ?_
    refine lv_istore_n (pc := 41) (lv' := [(1, .int (0 : Int32)), (0, .ref h0)]) hx hb (zdt_at zt_X10_substituteBack_0 27 rfl) rfl hl (by decide) rfl ?_
    clear hl
    intro ls hl
    replace hf := zj_s hf
    obtain ⟨K_8, eK_8, hf⟩ := hf
    have kK_8 : ∀ (c_block_7 : Nat → Int32) (H : Heap) (locs : List Loc) (ls : Array Slot), va_P D vwCl ([(h0, .inr (12, zmo hm c_thrown c_state c_test c_words c_ill c_before c_inRow c_first c_inWindow c_same c_made c_requests c_total c_secrets c_rounds c_high c_low c_keyHigh c_keyLow)), ((hm 40), .inl (cy 1, 256, .inl c_back)), ((hm 43), .inl (cy 1, 16, .inl c_block_7)), ((hm 44), .inl (cy 1, 16, .inl c_other_3))]) H → va_D A ([(h0, .inr (12, zmo hm c_thrown c_state c_test c_words c_ill c_before c_inRow c_first c_inWindow c_same c_made c_requests c_total c_secrets c_rounds c_high c_low c_keyHigh c_keyLow)), ((hm 40), .inl (cy 1, 256, .inl c_back)), ((hm 43), .inl (cy 1, 16, .inl c_block_7)), ((hm 44), .inl (cy 1, 16, .inl c_other_3))]) → va_S A s.heap H locs → lv_has ls 2 [] → K_8 c_block_7 = some (c_block', c_other') → GW H locs (F0 m 66 ls []) := by
      clear hf hl hP hD hS
      intro c_block_7 H locs ls hP hD hS hl hf
      rw [eK_8] at hf
      clear eK_8
      refine hFr _ _ _ ?_
      cases hf
      exact W.vret (pc := 66) hx hb hr (fun t ht hW => ⟨rfl, ⟨by rw [ht]; exact hP, hD⟩, hS.F ht⟩) hS.2.2 (zdt_at zt_X10_substituteBack_0 41 rfl)
    clear eK_8
    refine hTo _ _ _ (zl_go (fun z => match z with | (i_5, c_block_6) => ∀ (H : Heap) (locs : List Loc) (ls : Array Slot), va_P D vwCl ([(h0, .inr (12, zmo hm c_thrown c_state c_test c_words c_ill c_before c_inRow c_first c_inWindow c_same c_made c_requests c_total c_secrets c_rounds c_high c_low c_keyHigh c_keyLow)), ((hm 40), .inl (cy 1, 256, .inl c_back)), ((hm 43), .inl (cy 1, 16, .inl c_block_6)), ((hm 44), .inl (cy 1, 16, .inl c_other_3))]) H → va_D A ([(h0, .inr (12, zmo hm c_thrown c_state c_test c_words c_ill c_before c_inRow c_first c_inWindow c_same c_made c_requests c_total c_secrets c_rounds c_high c_low c_keyHigh c_keyLow)), ((hm 40), .inl (cy 1, 256, .inl c_back)), ((hm 43), .inl (cy 1, 16, .inl c_block_6)), ((hm 44), .inl (cy 1, 16, .inl c_other_3))]) → va_S A s.heap H locs → lv_has ls 2 [(0, .ref h0), (1, .int i_5)] → GW H locs (F0 m 42 ls [])) hf ?_ H locs ls hP hD hS (lv_sub hl [1, 0] rfl))
    clear hf hl hP hD hS
    intro self_9 ihself_9 z hf
    obtain ⟨i_5, c_block_6⟩ := z
    intro H locs ls hP hD hS hl
    refine hFr _ _ _ ?_
    unfold b_X10_substituteBack_42 at hf
    refine lv_iload_n (pc := 42) hx hb (zdt_at zt_X10_substituteBack_0 28 rfl) rfl (lv_at hl 1 rfl) ?_
    refine lv_bipush (pc := 43) (v := (16 : Int32)) hx hb (zdt_at zt_X10_substituteBack_0 29 rfl) (by decide) ?_
    refine lv_icmp_ge (pc := 45) (tgt := 66) hx hb (zdt_at zt_X10_substituteBack_0 30 rfl) (by decide) (fun cn_ => ?t_10) (fun cn_ => ?f_11)
    case t_10 =>
      replace hf := zt_s cn_ hf
      clear cn_
      exact hTo _ _ _ (kK_8 _ H locs ls hP hD hS (lv_sub hl [] rfl) hf)
    replace hf := ze_s cn_ hf
    clear cn_
    refine lv_aload_n (pc := 48) hx hb (zdt_at zt_X10_substituteBack_0 31 rfl) rfl (lv_at hl 0 rfl) ?_
    refine va_get (pc := 49) (D := D) (ci := 12) (v := .ref (hm 43)) (C := RX10) (T := TX10) (N := 52) hx hb hts hcX10 hown hK hP 0 rfl rfl 43 (by decide) hw0 (fun _ h9 => h9) rfl (zdt_at zt_X10_substituteBack_0 32 rfl) ?_
    refine lv_iload_n (pc := 52) hx hb (zdt_at zt_X10_substituteBack_0 33 rfl) rfl (lv_at hl 1 rfl) ?_
    refine lv_aload_n (pc := 53) hx hb (zdt_at zt_X10_substituteBack_0 34 rfl) rfl (lv_at hl 0 rfl) ?_
    refine va_get (pc := 54) (D := D) (ci := 12) (v := .ref (hm 44)) (C := RX10) (T := TX10) (N := 52) hx hb hts hcX10 hown hK hP 0 rfl rfl 44 (by decide) hw1 (fun _ h9 => h9) rfl (zdt_at zt_X10_substituteBack_0 35 rfl) ?_
    refine lv_iload_n (pc := 57) hx hb (zdt_at zt_X10_substituteBack_0 36 rfl) rfl (lv_at hl 1 rfl) ?_
    replace hf := zk_s hf
    refine va_iald (pc := 58) hx hb hK hP 3 1 rfl rfl hf.1 (zdt_at zt_X10_substituteBack_0 37 rfl) ?_
    replace hf := hf.2
    replace hf := zk_s hf
    refine va_iast (pc := 59) hx hb hK hP hD hS 2 1 rfl rfl hf.1 (zdt_at zt_X10_substituteBack_0 38 rfl) ?_
    replace hf := hf.2
    clear hP hD hS
    intro H locs hP hD hS
    obtain ⟨c_block_12, e_⟩ : ∃ q : Nat → Int32, q = (upd c_block_6 i_5.toNatClampNeg (c_other_3 i_5.toNatClampNeg)) := ⟨_, rfl⟩
    replace hf := zn_s hf e_
    replace hP : va_P D vwCl ([(h0, .inr (12, zmo hm c_thrown c_state c_test c_words c_ill c_before c_inRow c_first c_inWindow c_same c_made c_requests c_total c_secrets c_rounds c_high c_low c_keyHigh c_keyLow)), ((hm 40), .inl (cy 1, 256, .inl c_back)), ((hm 43), .inl (cy 1, 16, .inl c_block_12)), ((hm 44), .inl (cy 1, 16, .inl c_other_3))]) H := by rw [e_]; exact hP
    replace hD : va_D A ([(h0, .inr (12, zmo hm c_thrown c_state c_test c_words c_ill c_before c_inRow c_first c_inWindow c_same c_made c_requests c_total c_secrets c_rounds c_high c_low c_keyHigh c_keyLow)), ((hm 40), .inl (cy 1, 256, .inl c_back)), ((hm 43), .inl (cy 1, 16, .inl c_block_12)), ((hm 44), .inl (cy 1, 16, .inl c_other_3))]) := by rw [e_]; exact hD
    clear e_
    refine lv_iinc (pc := 60) (v := (i_5 + (1 : Int32))) (lv' := [(1, .int (i_5 + (1 : Int32))), (0, .ref h0)]) hx hb (zdt_at zt_X10_substituteBack_0 39 rfl) hl (k := 1) rfl rfl (by decide) rfl ?_
    clear hl
    intro ls hl
    refine lv_goto (pc := 63) (tgt := 42) hx hb (zdt_at zt_X10_substituteBack_0 40 rfl) (by decide) ?_
    exact hTo _ _ _ (ihself_9 _ hf H locs ls hP hD hS (lv_sub hl [1, 0] rfl))
  clear eK_4
  refine hTo _ _ _ (zl_go (fun z => match z with | (i_1, c_other_2) => ∀ (H : Heap) (locs : List Loc) (ls : Array Slot), va_P D vwCl ([(h0, .inr (12, zmo hm c_thrown c_state c_test c_words c_ill c_before c_inRow c_first c_inWindow c_same c_made c_requests c_total c_secrets c_rounds c_high c_low c_keyHigh c_keyLow)), ((hm 40), .inl (cy 1, 256, .inl c_back)), ((hm 43), .inl (cy 1, 16, .inl c_block)), ((hm 44), .inl (cy 1, 16, .inl c_other_2))]) H → va_D A ([(h0, .inr (12, zmo hm c_thrown c_state c_test c_words c_ill c_before c_inRow c_first c_inWindow c_same c_made c_requests c_total c_secrets c_rounds c_high c_low c_keyHigh c_keyLow)), ((hm 40), .inl (cy 1, 256, .inl c_back)), ((hm 43), .inl (cy 1, 16, .inl c_block)), ((hm 44), .inl (cy 1, 16, .inl c_other_2))]) → va_S A s.heap H locs → lv_has ls 2 [(0, .ref h0), (1, .int i_1)] → GW H locs (F0 m 2 ls [])) hf ?_ H locs ls hP hD hS (lv_sub hl [1, 0] rfl))
  clear hf hl hP hD hS
  intro self_13 ihself_13 z hf
  obtain ⟨i_1, c_other_2⟩ := z
  intro H locs ls hP hD hS hl
  refine hFr _ _ _ ?_
  unfold b_X10_substituteBack_2 at hf
  refine lv_iload_n (pc := 2) hx hb (zdt_at zt_X10_substituteBack_0 2 rfl) rfl (lv_at hl 1 rfl) ?_
  refine lv_bipush (pc := 3) (v := (16 : Int32)) hx hb (zdt_at zt_X10_substituteBack_0 3 rfl) (by decide) ?_
  refine lv_icmp_ge (pc := 5) (tgt := 40) hx hb (zdt_at zt_X10_substituteBack_0 4 rfl) (by decide) (fun cn_ => ?t_14) (fun cn_ => ?f_15)
  case t_14 =>
    replace hf := zt_s cn_ hf
    clear cn_
    exact hTo _ _ _ (kK_4 _ H locs ls hP hD hS (lv_sub hl [0] rfl) hf)
  replace hf := ze_s cn_ hf
  clear cn_
  refine lv_aload_n (pc := 8) hx hb (zdt_at zt_X10_substituteBack_0 5 rfl) rfl (lv_at hl 0 rfl) ?_
  refine va_get (pc := 9) (D := D) (ci := 12) (v := .ref (hm 44)) (C := RX10) (T := TX10) (N := 52) hx hb hts hcX10 hown hK hP 0 rfl rfl 44 (by decide) hw1 (fun _ h9 => h9) rfl (zdt_at zt_X10_substituteBack_0 6 rfl) ?_
  refine lv_iload_n (pc := 12) hx hb (zdt_at zt_X10_substituteBack_0 7 rfl) rfl (lv_at hl 1 rfl) ?_
  refine lv_iconst (pc := 13) (v := (4 : Int32)) hx hb (zdt_at zt_X10_substituteBack_0 8 rfl) (by decide) ?_
  refine lv_iload_n (pc := 14) hx hb (zdt_at zt_X10_substituteBack_0 9 rfl) rfl (lv_at hl 1 rfl) ?_
  refine lv_iconst (pc := 15) (v := (4 : Int32)) hx hb (zdt_at zt_X10_substituteBack_0 10 rfl) (by decide) ?_
  replace hf := zk_s hf
  refine lv_irem (pc := 16) hx hb (zdt_at zt_X10_substituteBack_0 11 rfl) hf.1 ?_
  replace hf := hf.2
  refine lv_imul (pc := 17) hx hb (zdt_at zt_X10_substituteBack_0 12 rfl) ?_
  refine lv_iadd (pc := 18) hx hb (zdt_at zt_X10_substituteBack_0 13 rfl) ?_
  refine lv_bipush (pc := 19) (v := (16 : Int32)) hx hb (zdt_at zt_X10_substituteBack_0 14 rfl) (by decide) ?_
  replace hf := zk_s hf
  refine lv_irem (pc := 21) hx hb (zdt_at zt_X10_substituteBack_0 15 rfl) hf.1 ?_
  replace hf := hf.2
  refine lv_aload_n (pc := 22) hx hb (zdt_at zt_X10_substituteBack_0 16 rfl) rfl (lv_at hl 0 rfl) ?_
  refine va_get (pc := 23) (D := D) (ci := 12) (v := .ref (hm 40)) (C := RX10) (T := TX10) (N := 52) hx hb hts hcX10 hown hK hP 0 rfl rfl 40 (by decide) hw2 (fun _ h9 => h9) rfl (zdt_at zt_X10_substituteBack_0 17 rfl) ?_
  refine lv_aload_n (pc := 26) hx hb (zdt_at zt_X10_substituteBack_0 18 rfl) rfl (lv_at hl 0 rfl) ?_
  refine va_get (pc := 27) (D := D) (ci := 12) (v := .ref (hm 43)) (C := RX10) (T := TX10) (N := 52) hx hb hts hcX10 hown hK hP 0 rfl rfl 43 (by decide) hw0 (fun _ h9 => h9) rfl (zdt_at zt_X10_substituteBack_0 19 rfl) ?_
  refine lv_iload_n (pc := 30) hx hb (zdt_at zt_X10_substituteBack_0 20 rfl) rfl (lv_at hl 1 rfl) ?_
  replace hf := zk_s hf
  refine va_iald (pc := 31) hx hb hK hP 2 1 rfl rfl hf.1 (zdt_at zt_X10_substituteBack_0 21 rfl) ?_
  replace hf := hf.2
  replace hf := zk_s hf
  refine va_iald (pc := 32) hx hb hK hP 1 1 rfl rfl hf.1 (zdt_at zt_X10_substituteBack_0 22 rfl) ?_
  replace hf := hf.2
  replace hf := zk_s hf
  refine va_iast (pc := 33) hx hb hK hP hD hS 3 1 rfl rfl hf.1 (zdt_at zt_X10_substituteBack_0 23 rfl) ?_
  replace hf := hf.2
  clear hP hD hS
  intro H locs hP hD hS
  obtain ⟨c_other_16, e_⟩ : ∃ q : Nat → Int32, q = (upd c_other_2 ((i_1 + ((4 : Int32) * (i_1 - i_1 / (4 : Int32) * (4 : Int32)))) - (i_1 + ((4 : Int32) * (i_1 - i_1 / (4 : Int32) * (4 : Int32)))) / (16 : Int32) * (16 : Int32)).toNatClampNeg (c_back (c_block i_1.toNatClampNeg).toNatClampNeg)) := ⟨_, rfl⟩
  replace hf := zn_s hf e_
  replace hP : va_P D vwCl ([(h0, .inr (12, zmo hm c_thrown c_state c_test c_words c_ill c_before c_inRow c_first c_inWindow c_same c_made c_requests c_total c_secrets c_rounds c_high c_low c_keyHigh c_keyLow)), ((hm 40), .inl (cy 1, 256, .inl c_back)), ((hm 43), .inl (cy 1, 16, .inl c_block)), ((hm 44), .inl (cy 1, 16, .inl c_other_16))]) H := by rw [e_]; exact hP
  replace hD : va_D A ([(h0, .inr (12, zmo hm c_thrown c_state c_test c_words c_ill c_before c_inRow c_first c_inWindow c_same c_made c_requests c_total c_secrets c_rounds c_high c_low c_keyHigh c_keyLow)), ((hm 40), .inl (cy 1, 256, .inl c_back)), ((hm 43), .inl (cy 1, 16, .inl c_block)), ((hm 44), .inl (cy 1, 16, .inl c_other_16))]) := by rw [e_]; exact hD
  clear e_
  refine lv_iinc (pc := 34) (v := (i_1 + (1 : Int32))) (lv' := [(1, .int (i_1 + (1 : Int32))), (0, .ref h0)]) hx hb (zdt_at zt_X10_substituteBack_0 24 rfl) hl (k := 1) rfl rfl (by decide) rfl ?_
  clear hl
  intro ls hl
  refine lv_goto (pc := 37) (tgt := 2) hx hb (zdt_at zt_X10_substituteBack_0 25 rfl) (by decide) ?_
  exact hTo _ _ _ (ihself_13 _ hf H locs ls hP hD hS (lv_sub hl [1, 0] rfl))
set_option maxHeartbeats 4000000 in
set_option maxRecDepth 100000 in
theorem c_X10_mix (l : Launch) (D : va_G) (cy : Nat → ClassId) (tt : Nat → Nat) (sz : Nat) (h0 : Nat) (hm : Nat → Nat) (p1 : Int32) (p2 : Int32) (p3 : Int32) (p4 : Int32) (c_block : Nat → Int32) (c_other : Nat → Int32) (c_thrown : Int32) (c_state : Int32) (c_test : Int32) (c_words : Int32) (c_ill : Int32) (c_before : Int32) (c_inRow : Int32) (c_first : Int32) (c_inWindow : Int32) (c_same : Int32) (c_made : Int32) (c_requests : Int32) (c_total : Int64) (c_secrets : Int32) (c_rounds : Int32) (c_high : Int64) (c_low : Int64) (c_keyHigh : Int64) (c_keyLow : Int64) (c_block' : Nat → Int32) (c_other' : Nat → Int32) (hf : f_X10_mix p1 p2 p3 p4 c_block c_other = some (c_block', c_other')) : Met l yX10_mix wsX10_mix ({ frames := 1, cells := 0, slots := 0, locals := 24 }) (zPc D cy tt sz [.ref h0, .int p1, .int p2, .int p3, .int p4] ([(h0, .inr (12, zmo hm c_thrown c_state c_test c_words c_ill c_before c_inRow c_first c_inWindow c_same c_made c_requests c_total c_secrets c_rounds c_high c_low c_keyHigh c_keyLow)), ((hm 43), .inl (cy 1, 16, .inl c_block)), ((hm 44), .inl (cy 1, 16, .inl c_other))])) (zQ D none ([(h0, .inr (12, zmo hm c_thrown c_state c_test c_words c_ill c_before c_inRow c_first c_inWindow c_same c_made c_requests c_total c_secrets c_rounds c_high c_low c_keyHigh c_keyLow)), ((hm 43), .inl (cy 1, 16, .inl c_block')), ((hm 44), .inl (cy 1, 16, .inl c_other'))]) (va_A ([(h0, .inr (12, zmo hm c_thrown c_state c_test c_words c_ill c_before c_inRow c_first c_inWindow c_same c_made c_requests c_total c_secrets c_rounds c_high c_low c_keyHigh c_keyLow)), ((hm 43), .inl (cy 1, 16, .inl c_block)), ((hm 44), .inl (cy 1, 16, .inl c_other))]) sz)) 0 0 (va_A ([(h0, .inr (12, zmo hm c_thrown c_state c_test c_words c_ill c_before c_inRow c_first c_inWindow c_same c_made c_requests c_total c_secrets c_rounds c_high c_low c_keyHigh c_keyLow)), ((hm 43), .inl (cy 1, 16, .inl c_block)), ((hm 44), .inl (cy 1, 16, .inl c_other))]) sz) := by
  refine Met.ofW (cc := cX10_mix) (maxL := 7) (ret := none) (by decide) rfl ?_
  intro p e s m args below meth c s₁ B hml hv
  obtain ⟨rfl, rfl, hP, hD0, hE⟩ := hv
  have hx := B.exec
  have hb := B.bytes
  have hr := B.returns
  have hts := atoms_spec (ws := wsX10_mix) B.pre
  have hown : s.vm.findClass RX10 = some m.cls := findClass_of_methodNamed B.named
  have hlocks := B.notSynchronized
  clear B
  have hD := hD0.self (sz := s.heap.size)
  generalize hAe : va_A ([(h0, .inr (12, zmo hm c_thrown c_state c_test c_words c_ill c_before c_inRow c_first c_inWindow c_same c_made c_requests c_total c_secrets c_rounds c_high c_low c_keyHigh c_keyLow)), ((hm 43), .inl (cy 1, 16, .inl c_block)), ((hm 44), .inl (cy 1, 16, .inl c_other))]) s.heap.size = A at hD hE ⊢
  have hA : ∀ q : Nat, s.heap.size ≤ q → A q := fun q h => by rw [← hAe]; exact Or.inr h
  clear hAe hD0
  have hS : va_S A s.heap s.heap [] := va_S.rf
  have hK := hE.1
  have hw0 := hts (.fieldLink RX10 162 "SealedModuleModel" "block" "[I") (by decide +kernel)
  have hw1 := hts (.fieldLink RX10 165 "SealedModuleModel" "other" "[I") (by decide +kernel)
  have hcX10 : ∀ w ∈ u_ws RX10 TX10 52, w ∈ wsX10_mix := (fun _ h => List.mem_cons_of_mem _ (List.mem_append_right _ h))
  have hl := lv_entry ([.ref h0, .int p1, .int p2, .int p3, .int p4]) (n := 7) (Nat.le_of_ble_eq_true rfl)
  rw [lg_entry_eq]
  generalize (lg_sl ([.ref h0, .int p1, .int p2, .int p3, .int p4]) ++ List.replicate (7 - (lg_sl ([.ref h0, .int p1, .int p2, .int p3, .int p4])).length) Slot.unset).toArray = ls at hl ⊢
  replace hl : lv_has ls 7 [(0, .ref h0), (1, .int p1), (2, .int p2), (3, .int p3), (4, .int p4)] := hl
  unfold f_X10_mix at hf
  refine zgo (fun GW hTo hFr => ?_)
  refine hFr _ _ _ ?_
  obtain ⟨H, hHe⟩ : ∃ H, H = s.heap := ⟨_, rfl⟩
  obtain ⟨locs, hLe⟩ : ∃ L : List Loc, L = [] := ⟨_, rfl⟩
  rw [← hHe] at hP
  replace hS : va_S A s.heap H locs := by rw [hHe, hLe]; exact hS
  refine zat hHe.symm hLe.symm ?_
  clear hHe hLe
  refine lv_iconst (pc := 0) (v := (0 : Int32)) hx hb (zdt_at zt_X10_mix_0 0 rfl) (by decide) ?_
  refine lv_istore (pc := 1) (lv' := [(5, .int (0 : Int32)), (0, .ref h0), (1, .int p1), (2, .int p2), (3, .int p3), (4, .int p4)]) hx hb (zdt_at zt_X10_mix_0 1 rfl) hl (by decide) rfl ?_
  clear hl
  intro ls hl
  replace hf := zj_s hf
  obtain ⟨K_4, eK_4, hf⟩ := hf
  have kK_4 : ∀ (c_other_3 : Nat → Int32) (H : Heap) (locs : List Loc) (ls : Array Slot), va_P D vwCl ([(h0, .inr (12, zmo hm c_thrown c_state c_test c_words c_ill c_before c_inRow c_first c_inWindow c_same c_made c_requests c_total c_secrets c_rounds c_high c_low c_keyHigh c_keyLow)), ((hm 43), .inl (cy 1, 16, .inl c_block)), ((hm 44), .inl (cy 1, 16, .inl c_other_3))]) H → va_D A ([(h0, .inr (12, zmo hm c_thrown c_state c_test c_words c_ill c_before c_inRow c_first c_inWindow c_same c_made c_requests c_total c_secrets c_rounds c_high c_low c_keyHigh c_keyLow)), ((hm 43), .inl (cy 1, 16, .inl c_block)), ((hm 44), .inl (cy 1, 16, .inl c_other_3))]) → va_S A s.heap H locs → lv_has ls 7 [(0, .ref h0)] → K_4 c_other_3 = some (c_block', c_other') → GW H locs (F0 m 101 ls []) := by
    clear hf hl hP hD hS
    intro c_other_3 H locs ls hP hD hS hl hf
    rw [eK_4] at hf
    clear eK_4
    refine hFr _ _ _ ?_
    refine lv_iconst (pc := 101) (v := (0 : Int32)) hx hb (zdt_at zt_X10_mix_0 62 rfl) (by decide) ?_
    refine lv_istore (pc := 102) (lv' := [(5, .int (0 : Int32)), (0, .ref h0)]) hx hb (zdt_at zt_X10_mix_0 63 rfl) hl (by decide) rfl ?_
    clear hl
    intro ls hl
    replace hf := zj_s hf
    obtain ⟨K_8, eK_8, hf⟩ := hf
    have kK_8 : ∀ (c_block_7 : Nat → Int32) (H : Heap) (locs : List Loc) (ls : Array Slot), va_P D vwCl ([(h0, .inr (12, zmo hm c_thrown c_state c_test c_words c_ill c_before c_inRow c_first c_inWindow c_same c_made c_requests c_total c_secrets c_rounds c_high c_low c_keyHigh c_keyLow)), ((hm 43), .inl (cy 1, 16, .inl c_block_7)), ((hm 44), .inl (cy 1, 16, .inl c_other_3))]) H → va_D A ([(h0, .inr (12, zmo hm c_thrown c_state c_test c_words c_ill c_before c_inRow c_first c_inWindow c_same c_made c_requests c_total c_secrets c_rounds c_high c_low c_keyHigh c_keyLow)), ((hm 43), .inl (cy 1, 16, .inl c_block_7)), ((hm 44), .inl (cy 1, 16, .inl c_other_3))]) → va_S A s.heap H locs → lv_has ls 7 [] → K_8 c_block_7 = some (c_block', c_other') → GW H locs (F0 m 131 ls []) := by
      clear hf hl hP hD hS
      intro c_block_7 H locs ls hP hD hS hl hf
      rw [eK_8] at hf
      clear eK_8
      refine hFr _ _ _ ?_
      cases hf
      exact W.vret (pc := 131) hx hb hr (fun t ht hW => ⟨rfl, ⟨by rw [ht]; exact hP, hD⟩, hS.F ht⟩) hS.2.2 (zdt_at zt_X10_mix_1 13 rfl)
    clear eK_8
    refine hTo _ _ _ (zl_go (fun z => match z with | (i_5, c_block_6) => ∀ (H : Heap) (locs : List Loc) (ls : Array Slot), va_P D vwCl ([(h0, .inr (12, zmo hm c_thrown c_state c_test c_words c_ill c_before c_inRow c_first c_inWindow c_same c_made c_requests c_total c_secrets c_rounds c_high c_low c_keyHigh c_keyLow)), ((hm 43), .inl (cy 1, 16, .inl c_block_6)), ((hm 44), .inl (cy 1, 16, .inl c_other_3))]) H → va_D A ([(h0, .inr (12, zmo hm c_thrown c_state c_test c_words c_ill c_before c_inRow c_first c_inWindow c_same c_made c_requests c_total c_secrets c_rounds c_high c_low c_keyHigh c_keyLow)), ((hm 43), .inl (cy 1, 16, .inl c_block_6)), ((hm 44), .inl (cy 1, 16, .inl c_other_3))]) → va_S A s.heap H locs → lv_has ls 7 [(0, .ref h0), (5, .int i_5)] → GW H locs (F0 m 104 ls [])) hf ?_ H locs ls hP hD hS (lv_sub hl [1, 0] rfl))
    clear hf hl hP hD hS
    intro self_9 ihself_9 z hf
    obtain ⟨i_5, c_block_6⟩ := z
    intro H locs ls hP hD hS hl
    refine hFr _ _ _ ?_
    unfold b_X10_mix_104 at hf
    refine lv_iload (pc := 104) hx hb (zdt_at zt_X10_mix_1 0 rfl) (lv_at hl 1 rfl) ?_
    refine lv_bipush (pc := 106) (v := (16 : Int32)) hx hb (zdt_at zt_X10_mix_1 1 rfl) (by decide) ?_
    refine lv_icmp_ge (pc := 108) (tgt := 131) hx hb (zdt_at zt_X10_mix_1 2 rfl) (by decide) (fun cn_ => ?t_10) (fun cn_ => ?f_11)
    case t_10 =>
      replace hf := zt_s cn_ hf
      clear cn_
      exact hTo _ _ _ (kK_8 _ H locs ls hP hD hS (lv_sub hl [] rfl) hf)
    replace hf := ze_s cn_ hf
    clear cn_
    refine lv_aload_n (pc := 111) hx hb (zdt_at zt_X10_mix_1 3 rfl) rfl (lv_at hl 0 rfl) ?_
    refine va_get (pc := 112) (D := D) (ci := 12) (v := .ref (hm 43)) (C := RX10) (T := TX10) (N := 52) hx hb hts hcX10 hown hK hP 0 rfl rfl 43 (by decide) hw0 (fun _ h9 => h9) rfl (zdt_at zt_X10_mix_1 4 rfl) ?_
    refine lv_iload (pc := 115) hx hb (zdt_at zt_X10_mix_1 5 rfl) (lv_at hl 1 rfl) ?_
    refine lv_aload_n (pc := 117) hx hb (zdt_at zt_X10_mix_1 6 rfl) rfl (lv_at hl 0 rfl) ?_
    refine va_get (pc := 118) (D := D) (ci := 12) (v := .ref (hm 44)) (C := RX10) (T := TX10) (N := 52) hx hb hts hcX10 hown hK hP 0 rfl rfl 44 (by decide) hw1 (fun _ h9 => h9) rfl (zdt_at zt_X10_mix_1 7 rfl) ?_
    refine lv_iload (pc := 121) hx hb (zdt_at zt_X10_mix_1 8 rfl) (lv_at hl 1 rfl) ?_
    replace hf := zk_s hf
    refine va_iald (pc := 123) hx hb hK hP 2 1 rfl rfl hf.1 (zdt_at zt_X10_mix_1 9 rfl) ?_
    replace hf := hf.2
    replace hf := zk_s hf
    refine va_iast (pc := 124) hx hb hK hP hD hS 1 1 rfl rfl hf.1 (zdt_at zt_X10_mix_1 10 rfl) ?_
    replace hf := hf.2
    clear hP hD hS
    intro H locs hP hD hS
    obtain ⟨c_block_12, e_⟩ : ∃ q : Nat → Int32, q = (upd c_block_6 i_5.toNatClampNeg (c_other_3 i_5.toNatClampNeg)) := ⟨_, rfl⟩
    replace hf := zn_s hf e_
    replace hP : va_P D vwCl ([(h0, .inr (12, zmo hm c_thrown c_state c_test c_words c_ill c_before c_inRow c_first c_inWindow c_same c_made c_requests c_total c_secrets c_rounds c_high c_low c_keyHigh c_keyLow)), ((hm 43), .inl (cy 1, 16, .inl c_block_12)), ((hm 44), .inl (cy 1, 16, .inl c_other_3))]) H := by rw [e_]; exact hP
    replace hD : va_D A ([(h0, .inr (12, zmo hm c_thrown c_state c_test c_words c_ill c_before c_inRow c_first c_inWindow c_same c_made c_requests c_total c_secrets c_rounds c_high c_low c_keyHigh c_keyLow)), ((hm 43), .inl (cy 1, 16, .inl c_block_12)), ((hm 44), .inl (cy 1, 16, .inl c_other_3))]) := by rw [e_]; exact hD
    clear e_
    refine lv_iinc (pc := 125) (v := (i_5 + (1 : Int32))) (lv' := [(5, .int (i_5 + (1 : Int32))), (0, .ref h0)]) hx hb (zdt_at zt_X10_mix_1 11 rfl) hl (k := 1) rfl rfl (by decide) rfl ?_
    clear hl
    intro ls hl
    refine lv_goto (pc := 128) (tgt := 104) hx hb (zdt_at zt_X10_mix_1 12 rfl) (by decide) ?_
    exact hTo _ _ _ (ihself_9 _ hf H locs ls hP hD hS (lv_sub hl [1, 0] rfl))
  clear eK_4
  refine hTo _ _ _ (zl_go (fun z => match z with | (i_1, c_other_2) => ∀ (H : Heap) (locs : List Loc) (ls : Array Slot), va_P D vwCl ([(h0, .inr (12, zmo hm c_thrown c_state c_test c_words c_ill c_before c_inRow c_first c_inWindow c_same c_made c_requests c_total c_secrets c_rounds c_high c_low c_keyHigh c_keyLow)), ((hm 43), .inl (cy 1, 16, .inl c_block)), ((hm 44), .inl (cy 1, 16, .inl c_other_2))]) H → va_D A ([(h0, .inr (12, zmo hm c_thrown c_state c_test c_words c_ill c_before c_inRow c_first c_inWindow c_same c_made c_requests c_total c_secrets c_rounds c_high c_low c_keyHigh c_keyLow)), ((hm 43), .inl (cy 1, 16, .inl c_block)), ((hm 44), .inl (cy 1, 16, .inl c_other_2))]) → va_S A s.heap H locs → lv_has ls 7 [(0, .ref h0), (1, .int p1), (2, .int p2), (3, .int p3), (4, .int p4), (5, .int i_1)] → GW H locs (F0 m 3 ls [])) hf ?_ H locs ls hP hD hS (lv_sub hl [1, 2, 3, 4, 5, 0] rfl))
  clear hf hl hP hD hS
  intro self_13 ihself_13 z hf
  obtain ⟨i_1, c_other_2⟩ := z
  intro H locs ls hP hD hS hl
  refine hFr _ _ _ ?_
  unfold b_X10_mix_3 at hf
  refine lv_iload (pc := 3) hx hb (zdt_at zt_X10_mix_0 2 rfl) (lv_at hl 5 rfl) ?_
  refine lv_bipush (pc := 5) (v := (16 : Int32)) hx hb (zdt_at zt_X10_mix_0 3 rfl) (by decide) ?_
  refine lv_icmp_ge (pc := 7) (tgt := 101) hx hb (zdt_at zt_X10_mix_0 4 rfl) (by decide) (fun cn_ => ?t_14) (fun cn_ => ?f_15)
  case t_14 =>
    replace hf := zt_s cn_ hf
    clear cn_
    exact hTo _ _ _ (kK_4 _ H locs ls hP hD hS (lv_sub hl [0] rfl) hf)
  replace hf := ze_s cn_ hf
  clear cn_
  refine lv_iload (pc := 10) hx hb (zdt_at zt_X10_mix_0 5 rfl) (lv_at hl 5 rfl) ?_
  refine lv_iload (pc := 12) hx hb (zdt_at zt_X10_mix_0 6 rfl) (lv_at hl 5 rfl) ?_
  refine lv_iconst (pc := 14) (v := (4 : Int32)) hx hb (zdt_at zt_X10_mix_0 7 rfl) (by decide) ?_
  replace hf := zk_s hf
  refine lv_irem (pc := 15) hx hb (zdt_at zt_X10_mix_0 8 rfl) hf.1 ?_
  replace hf := hf.2
  refine lv_isub (pc := 16) hx hb (zdt_at zt_X10_mix_0 9 rfl) ?_
  refine lv_topi (fun x_16 e_ => ?_)
  replace hf := zn_s hf e_
  clear e_
  refine lv_istore (pc := 17) (lv' := [(6, .int x_16), (0, .ref h0), (1, .int p1), (2, .int p2), (3, .int p3), (4, .int p4), (5, .int i_1)]) hx hb (zdt_at zt_X10_mix_0 10 rfl) hl (by decide) rfl ?_
  clear hl
  intro ls hl
  refine lv_aload_n (pc := 19) hx hb (zdt_at zt_X10_mix_0 11 rfl) rfl (lv_at hl 1 rfl) ?_
  refine va_get (pc := 20) (D := D) (ci := 12) (v := .ref (hm 44)) (C := RX10) (T := TX10) (N := 52) hx hb hts hcX10 hown hK hP 0 rfl rfl 44 (by decide) hw1 (fun _ h9 => h9) rfl (zdt_at zt_X10_mix_0 12 rfl) ?_
  refine lv_iload (pc := 23) hx hb (zdt_at zt_X10_mix_0 13 rfl) (lv_at hl 6 rfl) ?_
  refine lv_aload_n (pc := 25) hx hb (zdt_at zt_X10_mix_0 14 rfl) rfl (lv_at hl 1 rfl) ?_
  refine va_get (pc := 26) (D := D) (ci := 12) (v := .ref (hm 43)) (C := RX10) (T := TX10) (N := 52) hx hb hts hcX10 hown hK hP 0 rfl rfl 43 (by decide) hw0 (fun _ h9 => h9) rfl (zdt_at zt_X10_mix_0 15 rfl) ?_
  refine lv_iload (pc := 29) hx hb (zdt_at zt_X10_mix_0 16 rfl) (lv_at hl 6 rfl) ?_
  replace hf := zk_s hf
  refine va_iald (pc := 31) hx hb hK hP 1 1 rfl rfl hf.1 (zdt_at zt_X10_mix_0 17 rfl) ?_
  replace hf := hf.2
  refine lv_iload_n (pc := 32) hx hb (zdt_at zt_X10_mix_0 18 rfl) rfl (lv_at hl 2 rfl) ?_
  replace hf := zb_s hf
  obtain ⟨r_17, hc_, hf⟩ := hf
  refine zcs (pc := 33) (rv := (some (.int r_17))) (va_runS (As := [.int (c_block i_1.toNatClampNeg), .int p1]) (rest := [.int i_1, .ref (hm 44)]) ⟨hx, hb, hml, hown, hts⟩ (c_X10_times l D cy tt H.size (c_block i_1.toNatClampNeg) p1 r_17 hc_) (va_cwS 2 hts gX10_mix_X10_times rfl rfl rfl (by decide +kernel) ⟨Nat.le_of_ble_eq_true rfl, Nat.le_of_ble_eq_true rfl⟩) ⟨zblind, zpre hE hS (hP.sub [] rfl) (hD.sub [] (by decide) rfl) (va_free hD hS hA [] rfl)⟩ rfl rfl hl.1 rfl (lv_room (Nat.le_of_ble_eq_true rfl)) (zdt_at zt_X10_mix_0 19 rfl) ⟨Nat.zero_le _, Nat.zero_le _⟩) ?_
  clear hc_
  refine W.eq (g2 := F0 m 36 ls [.int r_17, .int i_1, .ref (hm 44)]) rfl ?_
  refine lv_aload_n (pc := 36) hx hb (zdt_at zt_X10_mix_0 20 rfl) rfl (lv_at hl 1 rfl) ?_
  refine va_get (pc := 37) (D := D) (ci := 12) (v := .ref (hm 43)) (C := RX10) (T := TX10) (N := 52) hx hb hts hcX10 hown hK hP 0 rfl rfl 43 (by decide) hw0 (fun _ h9 => h9) rfl (zdt_at zt_X10_mix_0 21 rfl) ?_
  refine lv_iload (pc := 40) hx hb (zdt_at zt_X10_mix_0 22 rfl) (lv_at hl 0 rfl) ?_
  refine lv_iload (pc := 42) hx hb (zdt_at zt_X10_mix_0 23 rfl) (lv_at hl 6 rfl) ?_
  refine lv_iconst (pc := 44) (v := (1 : Int32)) hx hb (zdt_at zt_X10_mix_0 24 rfl) (by decide) ?_
  refine lv_iadd (pc := 45) hx hb (zdt_at zt_X10_mix_0 25 rfl) ?_
  refine lv_iconst (pc := 46) (v := (4 : Int32)) hx hb (zdt_at zt_X10_mix_0 26 rfl) (by decide) ?_
  replace hf := zk_s hf
  refine lv_irem (pc := 47) hx hb (zdt_at zt_X10_mix_0 27 rfl) hf.1 ?_
  replace hf := hf.2
  refine lv_iadd (pc := 48) hx hb (zdt_at zt_X10_mix_0 28 rfl) ?_
  replace hf := zk_s hf
  refine va_iald (pc := 49) hx hb hK hP 1 1 rfl rfl hf.1 (zdt_at zt_X10_mix_0 29 rfl) ?_
  replace hf := hf.2
  refine lv_iload_n (pc := 50) hx hb (zdt_at zt_X10_mix_0 30 rfl) rfl (lv_at hl 3 rfl) ?_
  replace hf := zb_s hf
  obtain ⟨r_18, hc_, hf⟩ := hf
  refine zcs (pc := 51) (rv := (some (.int r_18))) (va_runS (As := [.int (c_block (x_16 + ((i_1 + (1 : Int32)) - (i_1 + (1 : Int32)) / (4 : Int32) * (4 : Int32))).toNatClampNeg), .int p2]) (rest := [.int r_17, .int i_1, .ref (hm 44)]) ⟨hx, hb, hml, hown, hts⟩ (c_X10_times l D cy tt H.size (c_block (x_16 + ((i_1 + (1 : Int32)) - (i_1 + (1 : Int32)) / (4 : Int32) * (4 : Int32))).toNatClampNeg) p2 r_18 hc_) (va_cwS 2 hts gX10_mix_X10_times rfl rfl rfl (by decide +kernel) ⟨Nat.le_of_ble_eq_true rfl, Nat.le_of_ble_eq_true rfl⟩) ⟨zblind, zpre hE hS (hP.sub [] rfl) (hD.sub [] (by decide) rfl) (va_free hD hS hA [] rfl)⟩ rfl rfl hl.1 rfl (lv_room (Nat.le_of_ble_eq_true rfl)) (zdt_at zt_X10_mix_0 31 rfl) ⟨Nat.zero_le _, Nat.zero_le _⟩) ?_
  clear hc_
  refine W.eq (g2 := F0 m 54 ls [.int r_18, .int r_17, .int i_1, .ref (hm 44)]) rfl ?_
  refine lv_ixor (pc := 54) hx hb (zdt_at zt_X10_mix_0 32 rfl) ?_
  refine lv_aload_n (pc := 55) hx hb (zdt_at zt_X10_mix_0 33 rfl) rfl (lv_at hl 1 rfl) ?_
  refine va_get (pc := 56) (D := D) (ci := 12) (v := .ref (hm 43)) (C := RX10) (T := TX10) (N := 52) hx hb hts hcX10 hown hK hP 0 rfl rfl 43 (by decide) hw0 (fun _ h9 => h9) rfl (zdt_at zt_X10_mix_0 34 rfl) ?_
  refine lv_iload (pc := 59) hx hb (zdt_at zt_X10_mix_0 35 rfl) (lv_at hl 0 rfl) ?_
  refine lv_iload (pc := 61) hx hb (zdt_at zt_X10_mix_0 36 rfl) (lv_at hl 6 rfl) ?_
  refine lv_iconst (pc := 63) (v := (2 : Int32)) hx hb (zdt_at zt_X10_mix_0 37 rfl) (by decide) ?_
  refine lv_iadd (pc := 64) hx hb (zdt_at zt_X10_mix_0 38 rfl) ?_
  refine lv_iconst (pc := 65) (v := (4 : Int32)) hx hb (zdt_at zt_X10_mix_0 39 rfl) (by decide) ?_
  replace hf := zk_s hf
  refine lv_irem (pc := 66) hx hb (zdt_at zt_X10_mix_0 40 rfl) hf.1 ?_
  replace hf := hf.2
  refine lv_iadd (pc := 67) hx hb (zdt_at zt_X10_mix_0 41 rfl) ?_
  replace hf := zk_s hf
  refine va_iald (pc := 68) hx hb hK hP 1 1 rfl rfl hf.1 (zdt_at zt_X10_mix_0 42 rfl) ?_
  replace hf := hf.2
  refine lv_iload_n (pc := 69) hx hb (zdt_at zt_X10_mix_0 43 rfl) rfl (lv_at hl 4 rfl) ?_
  replace hf := zb_s hf
  obtain ⟨r_19, hc_, hf⟩ := hf
  refine zcs (pc := 70) (rv := (some (.int r_19))) (va_runS (As := [.int (c_block (x_16 + ((i_1 + (2 : Int32)) - (i_1 + (2 : Int32)) / (4 : Int32) * (4 : Int32))).toNatClampNeg), .int p3]) (rest := [.int (r_17 ^^^ r_18), .int i_1, .ref (hm 44)]) ⟨hx, hb, hml, hown, hts⟩ (c_X10_times l D cy tt H.size (c_block (x_16 + ((i_1 + (2 : Int32)) - (i_1 + (2 : Int32)) / (4 : Int32) * (4 : Int32))).toNatClampNeg) p3 r_19 hc_) (va_cwS 2 hts gX10_mix_X10_times rfl rfl rfl (by decide +kernel) ⟨Nat.le_of_ble_eq_true rfl, Nat.le_of_ble_eq_true rfl⟩) ⟨zblind, zpre hE hS (hP.sub [] rfl) (hD.sub [] (by decide) rfl) (va_free hD hS hA [] rfl)⟩ rfl rfl hl.1 rfl (lv_room (Nat.le_of_ble_eq_true rfl)) (zdt_at zt_X10_mix_0 44 rfl) ⟨Nat.zero_le _, Nat.zero_le _⟩) ?_
  clear hc_
  refine W.eq (g2 := F0 m 73 ls [.int r_19, .int (r_17 ^^^ r_18), .int i_1, .ref (hm 44)]) rfl ?_
  refine lv_ixor (pc := 73) hx hb (zdt_at zt_X10_mix_0 45 rfl) ?_
  refine lv_aload_n (pc := 74) hx hb (zdt_at zt_X10_mix_0 46 rfl) rfl (lv_at hl 1 rfl) ?_
  refine va_get (pc := 75) (D := D) (ci := 12) (v := .ref (hm 43)) (C := RX10) (T := TX10) (N := 52) hx hb hts hcX10 hown hK hP 0 rfl rfl 43 (by decide) hw0 (fun _ h9 => h9) rfl (zdt_at zt_X10_mix_0 47 rfl) ?_
  refine lv_iload (pc := 78) hx hb (zdt_at zt_X10_mix_0 48 rfl) (lv_at hl 0 rfl) ?_
  refine lv_iload (pc := 80) hx hb (zdt_at zt_X10_mix_0 49 rfl) (lv_at hl 6 rfl) ?_
  refine lv_iconst (pc := 82) (v := (3 : Int32)) hx hb (zdt_at zt_X10_mix_0 50 rfl) (by decide) ?_
  refine lv_iadd (pc := 83) hx hb (zdt_at zt_X10_mix_0 51 rfl) ?_
  refine lv_iconst (pc := 84) (v := (4 : Int32)) hx hb (zdt_at zt_X10_mix_0 52 rfl) (by decide) ?_
  replace hf := zk_s hf
  refine lv_irem (pc := 85) hx hb (zdt_at zt_X10_mix_0 53 rfl) hf.1 ?_
  replace hf := hf.2
  refine lv_iadd (pc := 86) hx hb (zdt_at zt_X10_mix_0 54 rfl) ?_
  replace hf := zk_s hf
  refine va_iald (pc := 87) hx hb hK hP 1 1 rfl rfl hf.1 (zdt_at zt_X10_mix_0 55 rfl) ?_
  replace hf := hf.2
  refine lv_iload (pc := 88) hx hb (zdt_at zt_X10_mix_0 56 rfl) (lv_at hl 5 rfl) ?_
  replace hf := zb_s hf
  obtain ⟨r_20, hc_, hf⟩ := hf
  refine zcs (pc := 90) (rv := (some (.int r_20))) (va_runS (As := [.int (c_block (x_16 + ((i_1 + (3 : Int32)) - (i_1 + (3 : Int32)) / (4 : Int32) * (4 : Int32))).toNatClampNeg), .int p4]) (rest := [.int ((r_17 ^^^ r_18) ^^^ r_19), .int i_1, .ref (hm 44)]) ⟨hx, hb, hml, hown, hts⟩ (c_X10_times l D cy tt H.size (c_block (x_16 + ((i_1 + (3 : Int32)) - (i_1 + (3 : Int32)) / (4 : Int32) * (4 : Int32))).toNatClampNeg) p4 r_20 hc_) (va_cwS 2 hts gX10_mix_X10_times rfl rfl rfl (by decide +kernel) ⟨Nat.le_of_ble_eq_true rfl, Nat.le_of_ble_eq_true rfl⟩) ⟨zblind, zpre hE hS (hP.sub [] rfl) (hD.sub [] (by decide) rfl) (va_free hD hS hA [] rfl)⟩ rfl rfl hl.1 rfl (lv_room (Nat.le_of_ble_eq_true rfl)) (zdt_at zt_X10_mix_0 57 rfl) ⟨Nat.zero_le _, Nat.zero_le _⟩) ?_
  clear hc_
  refine W.eq (g2 := F0 m 93 ls [.int r_20, .int ((r_17 ^^^ r_18) ^^^ r_19), .int i_1, .ref (hm 44)]) rfl ?_
  refine lv_ixor (pc := 93) hx hb (zdt_at zt_X10_mix_0 58 rfl) ?_
  replace hf := zk_s hf
  refine va_iast (pc := 94) hx hb hK hP hD hS 2 1 rfl rfl hf.1 (zdt_at zt_X10_mix_0 59 rfl) ?_
  replace hf := hf.2
  clear hP hD hS
  intro H locs hP hD hS
  obtain ⟨c_other_21, e_⟩ : ∃ q : Nat → Int32, q = (upd c_other_2 i_1.toNatClampNeg (((r_17 ^^^ r_18) ^^^ r_19) ^^^ r_20)) := ⟨_, rfl⟩
  replace hf := zn_s hf e_
  replace hP : va_P D vwCl ([(h0, .inr (12, zmo hm c_thrown c_state c_test c_words c_ill c_before c_inRow c_first c_inWindow c_same c_made c_requests c_total c_secrets c_rounds c_high c_low c_keyHigh c_keyLow)), ((hm 43), .inl (cy 1, 16, .inl c_block)), ((hm 44), .inl (cy 1, 16, .inl c_other_21))]) H := by rw [e_]; exact hP
  replace hD : va_D A ([(h0, .inr (12, zmo hm c_thrown c_state c_test c_words c_ill c_before c_inRow c_first c_inWindow c_same c_made c_requests c_total c_secrets c_rounds c_high c_low c_keyHigh c_keyLow)), ((hm 43), .inl (cy 1, 16, .inl c_block)), ((hm 44), .inl (cy 1, 16, .inl c_other_21))]) := by rw [e_]; exact hD
  clear e_
  refine lv_iinc (pc := 95) (v := (i_1 + (1 : Int32))) (lv' := [(5, .int (i_1 + (1 : Int32))), (6, .int x_16), (0, .ref h0), (1, .int p1), (2, .int p2), (3, .int p3), (4, .int p4)]) hx hb (zdt_at zt_X10_mix_0 60 rfl) hl (k := 6) rfl rfl (by decide) rfl ?_
  clear hl
  intro ls hl
  refine lv_goto (pc := 98) (tgt := 3) hx hb (zdt_at zt_X10_mix_0 61 rfl) (by decide) ?_
  exact hTo _ _ _ (ihself_13 _ hf H locs ls hP hD hS (lv_sub hl [2, 3, 4, 5, 6, 0] rfl))
set_option maxHeartbeats 4000000 in
set_option maxRecDepth 100000 in
theorem c_X10_seal (l : Launch) (D : va_G) (cy : Nat → ClassId) (tt : Nat → Nat) (sz : Nat) (h0 : Nat) (hm : Nat → Nat) (c_rounds : Int32) (c_block : Nat → Int32) (c_box : Nat → Int32) (c_other : Nat → Int32) (c_round : Nat → Int32) (c_thrown : Int32) (c_state : Int32) (c_test : Int32) (c_words : Int32) (c_ill : Int32) (c_before : Int32) (c_inRow : Int32) (c_first : Int32) (c_inWindow : Int32) (c_same : Int32) (c_made : Int32) (c_requests : Int32) (c_total : Int64) (c_secrets : Int32) (c_high : Int64) (c_low : Int64) (c_keyHigh : Int64) (c_keyLow : Int64) (c_block' : Nat → Int32) (c_other' : Nat → Int32) (hf : f_X10_seal c_rounds c_block c_box c_other c_round = some (c_block', c_other')) : Met l yX10_seal wsX10_seal ({ frames := 2, cells := 0, slots := 0, locals := 50 }) (zPc D cy tt sz [.ref h0] ([(h0, .inr (12, zmo hm c_thrown c_state c_test c_words c_ill c_before c_inRow c_first c_inWindow c_same c_made c_requests c_total c_secrets c_rounds c_high c_low c_keyHigh c_keyLow)), ((hm 43), .inl (cy 1, 16, .inl c_block)), ((hm 39), .inl (cy 1, 256, .inl c_box)), ((hm 44), .inl (cy 1, 16, .inl c_other)), ((hm 41), .inl (cy 1, 240, .inl c_round))])) (zQ D none ([(h0, .inr (12, zmo hm c_thrown c_state c_test c_words c_ill c_before c_inRow c_first c_inWindow c_same c_made c_requests c_total c_secrets c_rounds c_high c_low c_keyHigh c_keyLow)), ((hm 43), .inl (cy 1, 16, .inl c_block')), ((hm 39), .inl (cy 1, 256, .inl c_box)), ((hm 44), .inl (cy 1, 16, .inl c_other')), ((hm 41), .inl (cy 1, 240, .inl c_round))]) (va_A ([(h0, .inr (12, zmo hm c_thrown c_state c_test c_words c_ill c_before c_inRow c_first c_inWindow c_same c_made c_requests c_total c_secrets c_rounds c_high c_low c_keyHigh c_keyLow)), ((hm 43), .inl (cy 1, 16, .inl c_block)), ((hm 39), .inl (cy 1, 256, .inl c_box)), ((hm 44), .inl (cy 1, 16, .inl c_other)), ((hm 41), .inl (cy 1, 240, .inl c_round))]) sz)) 0 0 (va_A ([(h0, .inr (12, zmo hm c_thrown c_state c_test c_words c_ill c_before c_inRow c_first c_inWindow c_same c_made c_requests c_total c_secrets c_rounds c_high c_low c_keyHigh c_keyLow)), ((hm 43), .inl (cy 1, 16, .inl c_block)), ((hm 39), .inl (cy 1, 256, .inl c_box)), ((hm 44), .inl (cy 1, 16, .inl c_other)), ((hm 41), .inl (cy 1, 240, .inl c_round))]) sz) := by
  refine Met.ofW (cc := cX10_seal) (maxL := 2) (ret := none) (by decide) rfl ?_
  intro p e s m args below meth c s₁ B hml hv
  obtain ⟨rfl, rfl, hP, hD0, hE⟩ := hv
  have hx := B.exec
  have hb := B.bytes
  have hr := B.returns
  have hts := atoms_spec (ws := wsX10_seal) B.pre
  have hown : s.vm.findClass RX10 = some m.cls := findClass_of_methodNamed B.named
  have hlocks := B.notSynchronized
  clear B
  have hD := hD0.self (sz := s.heap.size)
  generalize hAe : va_A ([(h0, .inr (12, zmo hm c_thrown c_state c_test c_words c_ill c_before c_inRow c_first c_inWindow c_same c_made c_requests c_total c_secrets c_rounds c_high c_low c_keyHigh c_keyLow)), ((hm 43), .inl (cy 1, 16, .inl c_block)), ((hm 39), .inl (cy 1, 256, .inl c_box)), ((hm 44), .inl (cy 1, 16, .inl c_other)), ((hm 41), .inl (cy 1, 240, .inl c_round))]) s.heap.size = A at hD hE ⊢
  have hA : ∀ q : Nat, s.heap.size ≤ q → A q := fun q h => by rw [← hAe]; exact Or.inr h
  clear hAe hD0
  have hS : va_S A s.heap s.heap [] := va_S.rf
  have hK := hE.1
  have hw0 := hts (.fieldLink RX10 197 "SealedModuleModel" "rounds" "I") (by decide +kernel)
  have hcX10 : ∀ w ∈ u_ws RX10 TX10 52, w ∈ wsX10_seal := (fun _ h => List.mem_cons_of_mem _ (List.mem_append_right _ h))
  have hl := lv_entry ([.ref h0]) (n := 2) (Nat.le_of_ble_eq_true rfl)
  rw [lg_entry_eq]
  generalize (lg_sl ([.ref h0]) ++ List.replicate (2 - (lg_sl ([.ref h0])).length) Slot.unset).toArray = ls at hl ⊢
  replace hl : lv_has ls 2 [(0, .ref h0)] := hl
  unfold f_X10_seal at hf
  refine zgo (fun GW hTo hFr => ?_)
  refine hFr _ _ _ ?_
  obtain ⟨H, hHe⟩ : ∃ H, H = s.heap := ⟨_, rfl⟩
  obtain ⟨locs, hLe⟩ : ∃ L : List Loc, L = [] := ⟨_, rfl⟩
  rw [← hHe] at hP
  replace hS : va_S A s.heap H locs := by rw [hHe, hLe]; exact hS
  refine zat hHe.symm hLe.symm ?_
  clear hHe hLe
  refine lv_aload_n (pc := 0) hx hb (zdt_at zt_X10_seal_0 0 rfl) rfl (lv_at hl 0 rfl) ?_
  refine lv_iconst (pc := 1) (v := (0 : Int32)) hx hb (zdt_at zt_X10_seal_0 1 rfl) (by decide) ?_
  replace hf := zb_s hf
  obtain ⟨c_block_1, hc_, hf⟩ := hf
  refine zcn2 (pc := 2) (rv := none) (va_runV (As := [.int (0 : Int32)]) (rest := []) ⟨hx, hb, hml, hown, hts⟩ (c_X10_addRound l D cy tt H.size h0 hm (0 : Int32) c_block c_round c_thrown c_state c_test c_words c_ill c_before c_inRow c_first c_inWindow c_same c_made c_requests c_total c_secrets c_rounds c_high c_low c_keyHigh c_keyLow c_block_1 hc_) (cwV 1 hts gX10_seal_X10_addRound rfl rfl rfl (by decide +kernel) ⟨Nat.le_of_ble_eq_true rfl, Nat.le_of_ble_eq_true rfl⟩) ⟨zblind, va_recv hK hP (ci := 12) (q0 := 0) rfl rfl, zpre hE hS (hP.sub [0, 1, 4] rfl) (hD.sub [0, 1, 4] (by decide) rfl) (va_free hD hS hA [0, 1, 4] rfl)⟩ rfl rfl hl.1 rfl (lv_room (Nat.le_of_ble_eq_true rfl)) (zdt_at zt_X10_seal_0 2 rfl) ⟨Nat.zero_le _, Nat.zero_le _⟩) hS hP hD (va_free hD hS hA [0, 1, 4] rfl) [0, 1, 4] rfl (by decide) rfl ?_
  clear hP hD hS hc_
  intro H locs hP hD hS
  replace hP : va_P D vwCl ([(h0, .inr (12, zmo hm c_thrown c_state c_test c_words c_ill c_before c_inRow c_first c_inWindow c_same c_made c_requests c_total c_secrets c_rounds c_high c_low c_keyHigh c_keyLow)), ((hm 43), .inl (cy 1, 16, .inl c_block_1)), ((hm 39), .inl (cy 1, 256, .inl c_box)), ((hm 44), .inl (cy 1, 16, .inl c_other)), ((hm 41), .inl (cy 1, 240, .inl c_round))]) H := hP
  replace hD : va_D A ([(h0, .inr (12, zmo hm c_thrown c_state c_test c_words c_ill c_before c_inRow c_first c_inWindow c_same c_made c_requests c_total c_secrets c_rounds c_high c_low c_keyHigh c_keyLow)), ((hm 43), .inl (cy 1, 16, .inl c_block_1)), ((hm 39), .inl (cy 1, 256, .inl c_box)), ((hm 44), .inl (cy 1, 16, .inl c_other)), ((hm 41), .inl (cy 1, 240, .inl c_round))]) := hD
  refine W.eq (g2 := F0 m 5 ls []) rfl ?_
  refine lv_iconst (pc := 5) (v := (1 : Int32)) hx hb (zdt_at zt_X10_seal_0 3 rfl) (by decide) ?_
  refine lv_istore_n (pc := 6) (lv' := [(1, .int (1 : Int32)), (0, .ref h0)]) hx hb (zdt_at zt_X10_seal_0 4 rfl) rfl hl (by decide) rfl ?_
  clear hl
  intro ls hl
  replace hf := zj_s hf
  obtain ⟨K_7, eK_7, hf⟩ := hf
  have kK_7 : ∀ (c_block_5 : Nat → Int32) (c_other_6 : Nat → Int32) (H : Heap) (locs : List Loc) (ls : Array Slot), va_P D vwCl ([(h0, .inr (12, zmo hm c_thrown c_state c_test c_words c_ill c_before c_inRow c_first c_inWindow c_same c_made c_requests c_total c_secrets c_rounds c_high c_low c_keyHigh c_keyLow)), ((hm 43), .inl (cy 1, 16, .inl c_block_5)), ((hm 39), .inl (cy 1, 256, .inl c_box)), ((hm 44), .inl (cy 1, 16, .inl c_other_6)), ((hm 41), .inl (cy 1, 240, .inl c_round))]) H → va_D A ([(h0, .inr (12, zmo hm c_thrown c_state c_test c_words c_ill c_before c_inRow c_first c_inWindow c_same c_made c_requests c_total c_secrets c_rounds c_high c_low c_keyHigh c_keyLow)), ((hm 43), .inl (cy 1, 16, .inl c_block_5)), ((hm 39), .inl (cy 1, 256, .inl c_box)), ((hm 44), .inl (cy 1, 16, .inl c_other_6)), ((hm 41), .inl (cy 1, 240, .inl c_round))]) → va_S A s.heap H locs → lv_has ls 2 [] → K_7 c_block_5 c_other_6 = some (c_block', c_other') → GW H locs (F0 m 46 ls []) := by
    clear hf hl hP hD hS
    intro c_block_5 c_other_6 H locs ls hP hD hS hl hf
    rw [eK_7] at hf
    clear eK_7
    refine hFr _ _ _ ?_
    cases hf
    exact W.vret (pc := 46) hx hb hr (fun t ht hW => ⟨rfl, ⟨by rw [ht]; exact hP, hD⟩, hS.F ht⟩) hS.2.2 (zdt_at zt_X10_seal_0 26 rfl)
  clear eK_7
  refine hTo _ _ _ (zl_go (fun z => match z with | (i_2, c_block_3, c_other_4) => ∀ (H : Heap) (locs : List Loc) (ls : Array Slot), va_P D vwCl ([(h0, .inr (12, zmo hm c_thrown c_state c_test c_words c_ill c_before c_inRow c_first c_inWindow c_same c_made c_requests c_total c_secrets c_rounds c_high c_low c_keyHigh c_keyLow)), ((hm 43), .inl (cy 1, 16, .inl c_block_3)), ((hm 39), .inl (cy 1, 256, .inl c_box)), ((hm 44), .inl (cy 1, 16, .inl c_other_4)), ((hm 41), .inl (cy 1, 240, .inl c_round))]) H → va_D A ([(h0, .inr (12, zmo hm c_thrown c_state c_test c_words c_ill c_before c_inRow c_first c_inWindow c_same c_made c_requests c_total c_secrets c_rounds c_high c_low c_keyHigh c_keyLow)), ((hm 43), .inl (cy 1, 16, .inl c_block_3)), ((hm 39), .inl (cy 1, 256, .inl c_box)), ((hm 44), .inl (cy 1, 16, .inl c_other_4)), ((hm 41), .inl (cy 1, 240, .inl c_round))]) → va_S A s.heap H locs → lv_has ls 2 [(0, .ref h0), (1, .int i_2)] → GW H locs (F0 m 7 ls [])) hf ?_ H locs ls hP hD hS (lv_sub hl [1, 0] rfl))
  clear hf hl hP hD hS
  intro self_8 ihself_8 z hf
  obtain ⟨i_2, c_block_3, c_other_4⟩ := z
  intro H locs ls hP hD hS hl
  refine hFr _ _ _ ?_
  unfold b_X10_seal_7 at hf
  refine lv_iload_n (pc := 7) hx hb (zdt_at zt_X10_seal_0 5 rfl) rfl (lv_at hl 1 rfl) ?_
  refine lv_aload_n (pc := 8) hx hb (zdt_at zt_X10_seal_0 6 rfl) rfl (lv_at hl 0 rfl) ?_
  refine va_get (pc := 9) (D := D) (ci := 12) (v := .int c_rounds) (C := RX10) (T := TX10) (N := 52) hx hb hts hcX10 hown hK hP 0 rfl rfl 42 (by decide) hw0 (fun _ h9 => h9) rfl (zdt_at zt_X10_seal_0 7 rfl) ?_
  refine lv_icmp_gt (pc := 12) (tgt := 46) hx hb (zdt_at zt_X10_seal_0 8 rfl) (by decide) (fun cn_ => ?t_9) (fun cn_ => ?f_10)
  case t_9 =>
    replace hf := zt_s cn_ hf
    clear cn_
    exact hTo _ _ _ (kK_7 _ _ H locs ls hP hD hS (lv_sub hl [] rfl) hf)
  replace hf := ze_s cn_ hf
  clear cn_
  refine lv_aload_n (pc := 15) hx hb (zdt_at zt_X10_seal_0 9 rfl) rfl (lv_at hl 0 rfl) ?_
  replace hf := zb_s hf
  obtain ⟨⟨c_block_11, c_other_12⟩, hc_, hf⟩ := hf
  refine zcn2 (pc := 16) (rv := none) (va_runV (As := []) (rest := []) ⟨hx, hb, hml, hown, hts⟩ (c_X10_substitute l D cy tt H.size h0 hm c_block_3 c_box c_other_4 c_thrown c_state c_test c_words c_ill c_before c_inRow c_first c_inWindow c_same c_made c_requests c_total c_secrets c_rounds c_high c_low c_keyHigh c_keyLow c_block_11 c_other_12 hc_) (cwV 0 hts gX10_seal_X10_substitute rfl rfl rfl (by decide +kernel) ⟨Nat.le_of_ble_eq_true rfl, Nat.le_of_ble_eq_true rfl⟩) ⟨zblind, va_recv hK hP (ci := 12) (q0 := 0) rfl rfl, zpre hE hS (hP.sub [0, 1, 2, 3] rfl) (hD.sub [0, 1, 2, 3] (by decide) rfl) (va_free hD hS hA [0, 1, 2, 3] rfl)⟩ rfl rfl hl.1 rfl (lv_room (Nat.le_of_ble_eq_true rfl)) (zdt_at zt_X10_seal_0 10 rfl) ⟨Nat.zero_le _, Nat.zero_le _⟩) hS hP hD (va_free hD hS hA [0, 1, 2, 3] rfl) [0, 1, 2, 3] rfl (by decide) rfl ?_
  clear hP hD hS hc_
  intro H locs hP hD hS
  replace hP : va_P D vwCl ([(h0, .inr (12, zmo hm c_thrown c_state c_test c_words c_ill c_before c_inRow c_first c_inWindow c_same c_made c_requests c_total c_secrets c_rounds c_high c_low c_keyHigh c_keyLow)), ((hm 43), .inl (cy 1, 16, .inl c_block_11)), ((hm 39), .inl (cy 1, 256, .inl c_box)), ((hm 44), .inl (cy 1, 16, .inl c_other_12)), ((hm 41), .inl (cy 1, 240, .inl c_round))]) H := hP
  replace hD : va_D A ([(h0, .inr (12, zmo hm c_thrown c_state c_test c_words c_ill c_before c_inRow c_first c_inWindow c_same c_made c_requests c_total c_secrets c_rounds c_high c_low c_keyHigh c_keyLow)), ((hm 43), .inl (cy 1, 16, .inl c_block_11)), ((hm 39), .inl (cy 1, 256, .inl c_box)), ((hm 44), .inl (cy 1, 16, .inl c_other_12)), ((hm 41), .inl (cy 1, 240, .inl c_round))]) := hD
  refine W.eq (g2 := F0 m 19 ls []) rfl ?_
  refine lv_iload_n (pc := 19) hx hb (zdt_at zt_X10_seal_0 11 rfl) rfl (lv_at hl 1 rfl) ?_
  refine lv_aload_n (pc := 20) hx hb (zdt_at zt_X10_seal_0 12 rfl) rfl (lv_at hl 0 rfl) ?_
  refine va_get (pc := 21) (D := D) (ci := 12) (v := .int c_rounds) (C := RX10) (T := TX10) (N := 52) hx hb hts hcX10 hown hK hP 0 rfl rfl 42 (by decide) hw0 (fun _ h9 => h9) rfl (zdt_at zt_X10_seal_0 13 rfl) ?_
  refine lv_icmp_ge (pc := 24) (tgt := 35) hx hb (zdt_at zt_X10_seal_0 14 rfl) (by decide) (fun cn_ => ?t_13) (fun cn_ => ?f_14)
  case t_13 =>
    replace hf := zt_s cn_ hf
    clear cn_
    refine lv_aload_n (pc := 35) hx hb (zdt_at zt_X10_seal_0 21 rfl) rfl (lv_at hl 0 rfl) ?_
    refine lv_iload_n (pc := 36) hx hb (zdt_at zt_X10_seal_0 22 rfl) rfl (lv_at hl 1 rfl) ?_
    replace hf := zb_s hf
    obtain ⟨c_block_15, hc_, hf⟩ := hf
    refine zcn2 (pc := 37) (rv := none) (va_runV (As := [.int i_2]) (rest := []) ⟨hx, hb, hml, hown, hts⟩ (c_X10_addRound l D cy tt H.size h0 hm i_2 c_block_11 c_round c_thrown c_state c_test c_words c_ill c_before c_inRow c_first c_inWindow c_same c_made c_requests c_total c_secrets c_rounds c_high c_low c_keyHigh c_keyLow c_block_15 hc_) (cwV 1 hts gX10_seal_X10_addRound rfl rfl rfl (by decide +kernel) ⟨Nat.le_of_ble_eq_true rfl, Nat.le_of_ble_eq_true rfl⟩) ⟨zblind, va_recv hK hP (ci := 12) (q0 := 0) rfl rfl, zpre hE hS (hP.sub [0, 1, 4] rfl) (hD.sub [0, 1, 4] (by decide) rfl) (va_free hD hS hA [0, 1, 4] rfl)⟩ rfl rfl hl.1 rfl (lv_room (Nat.le_of_ble_eq_true rfl)) (zdt_at zt_X10_seal_0 23 rfl) ⟨Nat.zero_le _, Nat.zero_le _⟩) hS hP hD (va_free hD hS hA [0, 1, 4] rfl) [0, 1, 4] rfl (by decide) rfl ?_
    clear hP hD hS hc_
    intro H locs hP hD hS
    replace hP : va_P D vwCl ([(h0, .inr (12, zmo hm c_thrown c_state c_test c_words c_ill c_before c_inRow c_first c_inWindow c_same c_made c_requests c_total c_secrets c_rounds c_high c_low c_keyHigh c_keyLow)), ((hm 43), .inl (cy 1, 16, .inl c_block_15)), ((hm 39), .inl (cy 1, 256, .inl c_box)), ((hm 44), .inl (cy 1, 16, .inl c_other_12)), ((hm 41), .inl (cy 1, 240, .inl c_round))]) H := hP
    replace hD : va_D A ([(h0, .inr (12, zmo hm c_thrown c_state c_test c_words c_ill c_before c_inRow c_first c_inWindow c_same c_made c_requests c_total c_secrets c_rounds c_high c_low c_keyHigh c_keyLow)), ((hm 43), .inl (cy 1, 16, .inl c_block_15)), ((hm 39), .inl (cy 1, 256, .inl c_box)), ((hm 44), .inl (cy 1, 16, .inl c_other_12)), ((hm 41), .inl (cy 1, 240, .inl c_round))]) := hD
    refine W.eq (g2 := F0 m 40 ls []) rfl ?_
    refine lv_iinc (pc := 40) (v := (i_2 + (1 : Int32))) (lv' := [(1, .int (i_2 + (1 : Int32))), (0, .ref h0)]) hx hb (zdt_at zt_X10_seal_0 24 rfl) hl (k := 1) rfl rfl (by decide) rfl ?_
    clear hl
    intro ls hl
    refine lv_goto (pc := 43) (tgt := 7) hx hb (zdt_at zt_X10_seal_0 25 rfl) (by decide) ?_
    exact hTo _ _ _ (ihself_8 _ hf H locs ls hP hD hS (lv_sub hl [1, 0] rfl))
  replace hf := ze_s cn_ hf
  clear cn_
  refine lv_aload_n (pc := 27) hx hb (zdt_at zt_X10_seal_0 15 rfl) rfl (lv_at hl 0 rfl) ?_
  refine lv_iconst (pc := 28) (v := (2 : Int32)) hx hb (zdt_at zt_X10_seal_0 16 rfl) (by decide) ?_
  refine lv_iconst (pc := 29) (v := (3 : Int32)) hx hb (zdt_at zt_X10_seal_0 17 rfl) (by decide) ?_
  refine lv_iconst (pc := 30) (v := (1 : Int32)) hx hb (zdt_at zt_X10_seal_0 18 rfl) (by decide) ?_
  refine lv_iconst (pc := 31) (v := (1 : Int32)) hx hb (zdt_at zt_X10_seal_0 19 rfl) (by decide) ?_
  replace hf := zb_s hf
  obtain ⟨⟨c_block_16, c_other_17⟩, hc_, hf⟩ := hf
  refine zcn2 (pc := 32) (rv := none) (va_runV (As := [.int (2 : Int32), .int (3 : Int32), .int (1 : Int32), .int (1 : Int32)]) (rest := []) ⟨hx, hb, hml, hown, hts⟩ (c_X10_mix l D cy tt H.size h0 hm (2 : Int32) (3 : Int32) (1 : Int32) (1 : Int32) c_block_11 c_other_12 c_thrown c_state c_test c_words c_ill c_before c_inRow c_first c_inWindow c_same c_made c_requests c_total c_secrets c_rounds c_high c_low c_keyHigh c_keyLow c_block_16 c_other_17 hc_) (cwV 4 hts gX10_seal_X10_mix rfl rfl rfl (by decide +kernel) ⟨Nat.le_of_ble_eq_true rfl, Nat.le_of_ble_eq_true rfl⟩) ⟨zblind, va_recv hK hP (ci := 12) (q0 := 0) rfl rfl, zpre hE hS (hP.sub [0, 1, 3] rfl) (hD.sub [0, 1, 3] (by decide) rfl) (va_free hD hS hA [0, 1, 3] rfl)⟩ rfl rfl hl.1 rfl (lv_room (Nat.le_of_ble_eq_true rfl)) (zdt_at zt_X10_seal_0 20 rfl) ⟨Nat.zero_le _, Nat.zero_le _⟩) hS hP hD (va_free hD hS hA [0, 1, 3] rfl) [0, 1, 3] rfl (by decide) rfl ?_
  clear hP hD hS hc_
  intro H locs hP hD hS
  replace hP : va_P D vwCl ([(h0, .inr (12, zmo hm c_thrown c_state c_test c_words c_ill c_before c_inRow c_first c_inWindow c_same c_made c_requests c_total c_secrets c_rounds c_high c_low c_keyHigh c_keyLow)), ((hm 43), .inl (cy 1, 16, .inl c_block_16)), ((hm 39), .inl (cy 1, 256, .inl c_box)), ((hm 44), .inl (cy 1, 16, .inl c_other_17)), ((hm 41), .inl (cy 1, 240, .inl c_round))]) H := hP
  replace hD : va_D A ([(h0, .inr (12, zmo hm c_thrown c_state c_test c_words c_ill c_before c_inRow c_first c_inWindow c_same c_made c_requests c_total c_secrets c_rounds c_high c_low c_keyHigh c_keyLow)), ((hm 43), .inl (cy 1, 16, .inl c_block_16)), ((hm 39), .inl (cy 1, 256, .inl c_box)), ((hm 44), .inl (cy 1, 16, .inl c_other_17)), ((hm 41), .inl (cy 1, 240, .inl c_round))]) := hD
  refine W.eq (g2 := F0 m 35 ls []) rfl ?_
  refine lv_aload_n (pc := 35) hx hb (zdt_at zt_X10_seal_0 21 rfl) rfl (lv_at hl 0 rfl) ?_
  refine lv_iload_n (pc := 36) hx hb (zdt_at zt_X10_seal_0 22 rfl) rfl (lv_at hl 1 rfl) ?_
  replace hf := zb_s hf
  obtain ⟨c_block_18, hc_, hf⟩ := hf
  refine zcn2 (pc := 37) (rv := none) (va_runV (As := [.int i_2]) (rest := []) ⟨hx, hb, hml, hown, hts⟩ (c_X10_addRound l D cy tt H.size h0 hm i_2 c_block_16 c_round c_thrown c_state c_test c_words c_ill c_before c_inRow c_first c_inWindow c_same c_made c_requests c_total c_secrets c_rounds c_high c_low c_keyHigh c_keyLow c_block_18 hc_) (cwV 1 hts gX10_seal_X10_addRound rfl rfl rfl (by decide +kernel) ⟨Nat.le_of_ble_eq_true rfl, Nat.le_of_ble_eq_true rfl⟩) ⟨zblind, va_recv hK hP (ci := 12) (q0 := 0) rfl rfl, zpre hE hS (hP.sub [0, 1, 4] rfl) (hD.sub [0, 1, 4] (by decide) rfl) (va_free hD hS hA [0, 1, 4] rfl)⟩ rfl rfl hl.1 rfl (lv_room (Nat.le_of_ble_eq_true rfl)) (zdt_at zt_X10_seal_0 23 rfl) ⟨Nat.zero_le _, Nat.zero_le _⟩) hS hP hD (va_free hD hS hA [0, 1, 4] rfl) [0, 1, 4] rfl (by decide) rfl ?_
  clear hP hD hS hc_
  intro H locs hP hD hS
  replace hP : va_P D vwCl ([(h0, .inr (12, zmo hm c_thrown c_state c_test c_words c_ill c_before c_inRow c_first c_inWindow c_same c_made c_requests c_total c_secrets c_rounds c_high c_low c_keyHigh c_keyLow)), ((hm 43), .inl (cy 1, 16, .inl c_block_18)), ((hm 39), .inl (cy 1, 256, .inl c_box)), ((hm 44), .inl (cy 1, 16, .inl c_other_17)), ((hm 41), .inl (cy 1, 240, .inl c_round))]) H := hP
  replace hD : va_D A ([(h0, .inr (12, zmo hm c_thrown c_state c_test c_words c_ill c_before c_inRow c_first c_inWindow c_same c_made c_requests c_total c_secrets c_rounds c_high c_low c_keyHigh c_keyLow)), ((hm 43), .inl (cy 1, 16, .inl c_block_18)), ((hm 39), .inl (cy 1, 256, .inl c_box)), ((hm 44), .inl (cy 1, 16, .inl c_other_17)), ((hm 41), .inl (cy 1, 240, .inl c_round))]) := hD
  refine W.eq (g2 := F0 m 40 ls []) rfl ?_
  refine lv_iinc (pc := 40) (v := (i_2 + (1 : Int32))) (lv' := [(1, .int (i_2 + (1 : Int32))), (0, .ref h0)]) hx hb (zdt_at zt_X10_seal_0 24 rfl) hl (k := 1) rfl rfl (by decide) rfl ?_
  clear hl
  intro ls hl
  refine lv_goto (pc := 43) (tgt := 7) hx hb (zdt_at zt_X10_seal_0 25 rfl) (by decide) ?_
  exact hTo _ _ _ (ihself_8 _ hf H locs ls hP hD hS (lv_sub hl [1, 0] rfl))
set_option maxHeartbeats 4000000 in
set_option maxRecDepth 100000 in
theorem c_X10_unseal (l : Launch) (D : va_G) (cy : Nat → ClassId) (tt : Nat → Nat) (sz : Nat) (h0 : Nat) (hm : Nat → Nat) (c_rounds : Int32) (c_back : Nat → Int32) (c_block : Nat → Int32) (c_other : Nat → Int32) (c_round : Nat → Int32) (c_thrown : Int32) (c_state : Int32) (c_test : Int32) (c_words : Int32) (c_ill : Int32) (c_before : Int32) (c_inRow : Int32) (c_first : Int32) (c_inWindow : Int32) (c_same : Int32) (c_made : Int32) (c_requests : Int32) (c_total : Int64) (c_secrets : Int32) (c_high : Int64) (c_low : Int64) (c_keyHigh : Int64) (c_keyLow : Int64) (c_block' : Nat → Int32) (c_other' : Nat → Int32) (hf : f_X10_unseal c_rounds c_back c_block c_other c_round = some (c_block', c_other')) : Met l yX10_unseal wsX10_unseal ({ frames := 2, cells := 0, slots := 0, locals := 50 }) (zPc D cy tt sz [.ref h0] ([(h0, .inr (12, zmo hm c_thrown c_state c_test c_words c_ill c_before c_inRow c_first c_inWindow c_same c_made c_requests c_total c_secrets c_rounds c_high c_low c_keyHigh c_keyLow)), ((hm 40), .inl (cy 1, 256, .inl c_back)), ((hm 43), .inl (cy 1, 16, .inl c_block)), ((hm 44), .inl (cy 1, 16, .inl c_other)), ((hm 41), .inl (cy 1, 240, .inl c_round))])) (zQ D none ([(h0, .inr (12, zmo hm c_thrown c_state c_test c_words c_ill c_before c_inRow c_first c_inWindow c_same c_made c_requests c_total c_secrets c_rounds c_high c_low c_keyHigh c_keyLow)), ((hm 40), .inl (cy 1, 256, .inl c_back)), ((hm 43), .inl (cy 1, 16, .inl c_block')), ((hm 44), .inl (cy 1, 16, .inl c_other')), ((hm 41), .inl (cy 1, 240, .inl c_round))]) (va_A ([(h0, .inr (12, zmo hm c_thrown c_state c_test c_words c_ill c_before c_inRow c_first c_inWindow c_same c_made c_requests c_total c_secrets c_rounds c_high c_low c_keyHigh c_keyLow)), ((hm 40), .inl (cy 1, 256, .inl c_back)), ((hm 43), .inl (cy 1, 16, .inl c_block)), ((hm 44), .inl (cy 1, 16, .inl c_other)), ((hm 41), .inl (cy 1, 240, .inl c_round))]) sz)) 0 0 (va_A ([(h0, .inr (12, zmo hm c_thrown c_state c_test c_words c_ill c_before c_inRow c_first c_inWindow c_same c_made c_requests c_total c_secrets c_rounds c_high c_low c_keyHigh c_keyLow)), ((hm 40), .inl (cy 1, 256, .inl c_back)), ((hm 43), .inl (cy 1, 16, .inl c_block)), ((hm 44), .inl (cy 1, 16, .inl c_other)), ((hm 41), .inl (cy 1, 240, .inl c_round))]) sz) := by
  refine Met.ofW (cc := cX10_unseal) (maxL := 2) (ret := none) (by decide) rfl ?_
  intro p e s m args below meth c s₁ B hml hv
  obtain ⟨rfl, rfl, hP, hD0, hE⟩ := hv
  have hx := B.exec
  have hb := B.bytes
  have hr := B.returns
  have hts := atoms_spec (ws := wsX10_unseal) B.pre
  have hown : s.vm.findClass RX10 = some m.cls := findClass_of_methodNamed B.named
  have hlocks := B.notSynchronized
  clear B
  have hD := hD0.self (sz := s.heap.size)
  generalize hAe : va_A ([(h0, .inr (12, zmo hm c_thrown c_state c_test c_words c_ill c_before c_inRow c_first c_inWindow c_same c_made c_requests c_total c_secrets c_rounds c_high c_low c_keyHigh c_keyLow)), ((hm 40), .inl (cy 1, 256, .inl c_back)), ((hm 43), .inl (cy 1, 16, .inl c_block)), ((hm 44), .inl (cy 1, 16, .inl c_other)), ((hm 41), .inl (cy 1, 240, .inl c_round))]) s.heap.size = A at hD hE ⊢
  have hA : ∀ q : Nat, s.heap.size ≤ q → A q := fun q h => by rw [← hAe]; exact Or.inr h
  clear hAe hD0
  have hS : va_S A s.heap s.heap [] := va_S.rf
  have hK := hE.1
  have hw0 := hts (.fieldLink RX10 197 "SealedModuleModel" "rounds" "I") (by decide +kernel)
  have hcX10 : ∀ w ∈ u_ws RX10 TX10 52, w ∈ wsX10_unseal := (fun _ h => List.mem_cons_of_mem _ (List.mem_append_right _ h))
  have hl := lv_entry ([.ref h0]) (n := 2) (Nat.le_of_ble_eq_true rfl)
  rw [lg_entry_eq]
  generalize (lg_sl ([.ref h0]) ++ List.replicate (2 - (lg_sl ([.ref h0])).length) Slot.unset).toArray = ls at hl ⊢
  replace hl : lv_has ls 2 [(0, .ref h0)] := hl
  unfold f_X10_unseal at hf
  refine zgo (fun GW hTo hFr => ?_)
  refine hFr _ _ _ ?_
  obtain ⟨H, hHe⟩ : ∃ H, H = s.heap := ⟨_, rfl⟩
  obtain ⟨locs, hLe⟩ : ∃ L : List Loc, L = [] := ⟨_, rfl⟩
  rw [← hHe] at hP
  replace hS : va_S A s.heap H locs := by rw [hHe, hLe]; exact hS
  refine zat hHe.symm hLe.symm ?_
  clear hHe hLe
  refine lv_aload_n (pc := 0) hx hb (zdt_at zt_X10_unseal_0 0 rfl) rfl (lv_at hl 0 rfl) ?_
  refine va_get (pc := 1) (D := D) (ci := 12) (v := .int c_rounds) (C := RX10) (T := TX10) (N := 52) hx hb hts hcX10 hown hK hP 0 rfl rfl 42 (by decide) hw0 (fun _ h9 => h9) rfl (zdt_at zt_X10_unseal_0 1 rfl) ?_
  refine lv_istore_n (pc := 4) (lv' := [(1, .int c_rounds), (0, .ref h0)]) hx hb (zdt_at zt_X10_unseal_0 2 rfl) rfl hl (by decide) rfl ?_
  clear hl
  intro ls hl
  replace hf := zj_s hf
  obtain ⟨K_6, eK_6, hf⟩ := hf
  have kK_6 : ∀ (c_block_4 : Nat → Int32) (c_other_5 : Nat → Int32) (H : Heap) (locs : List Loc) (ls : Array Slot), va_P D vwCl ([(h0, .inr (12, zmo hm c_thrown c_state c_test c_words c_ill c_before c_inRow c_first c_inWindow c_same c_made c_requests c_total c_secrets c_rounds c_high c_low c_keyHigh c_keyLow)), ((hm 40), .inl (cy 1, 256, .inl c_back)), ((hm 43), .inl (cy 1, 16, .inl c_block_4)), ((hm 44), .inl (cy 1, 16, .inl c_other_5)), ((hm 41), .inl (cy 1, 240, .inl c_round))]) H → va_D A ([(h0, .inr (12, zmo hm c_thrown c_state c_test c_words c_ill c_before c_inRow c_first c_inWindow c_same c_made c_requests c_total c_secrets c_rounds c_high c_low c_keyHigh c_keyLow)), ((hm 40), .inl (cy 1, 256, .inl c_back)), ((hm 43), .inl (cy 1, 16, .inl c_block_4)), ((hm 44), .inl (cy 1, 16, .inl c_other_5)), ((hm 41), .inl (cy 1, 240, .inl c_round))]) → va_S A s.heap H locs → lv_has ls 2 [(0, .ref h0)] → K_6 c_block_4 c_other_5 = some (c_block', c_other') → GW H locs (F0 m 44 ls []) := by
    clear hf hl hP hD hS
    intro c_block_4 c_other_5 H locs ls hP hD hS hl hf
    rw [eK_6] at hf
    clear eK_6
    refine hFr _ _ _ ?_
    refine lv_aload_n (pc := 44) hx hb (zdt_at zt_X10_unseal_0 22 rfl) rfl (lv_at hl 0 rfl) ?_
    refine lv_iconst (pc := 45) (v := (0 : Int32)) hx hb (zdt_at zt_X10_unseal_0 23 rfl) (by decide) ?_
    replace hf := zb_s hf
    obtain ⟨c_block_7, hc_, hf⟩ := hf
    refine zcn2 (pc := 46) (rv := none) (va_runV (As := [.int (0 : Int32)]) (rest := []) ⟨hx, hb, hml, hown, hts⟩ (c_X10_addRound l D cy tt H.size h0 hm (0 : Int32) c_block_4 c_round c_thrown c_state c_test c_words c_ill c_before c_inRow c_first c_inWindow c_same c_made c_requests c_total c_secrets c_rounds c_high c_low c_keyHigh c_keyLow c_block_7 hc_) (cwV 1 hts gX10_unseal_X10_addRound rfl rfl rfl (by decide +kernel) ⟨Nat.le_of_ble_eq_true rfl, Nat.le_of_ble_eq_true rfl⟩) ⟨zblind, va_recv hK hP (ci := 12) (q0 := 0) rfl rfl, zpre hE hS (hP.sub [0, 2, 4] rfl) (hD.sub [0, 2, 4] (by decide) rfl) (va_free hD hS hA [0, 2, 4] rfl)⟩ rfl rfl hl.1 rfl (lv_room (Nat.le_of_ble_eq_true rfl)) (zdt_at zt_X10_unseal_0 24 rfl) ⟨Nat.zero_le _, Nat.zero_le _⟩) hS hP hD (va_free hD hS hA [0, 2, 4] rfl) [0, 2, 4] rfl (by decide) rfl ?_
    clear hP hD hS hc_
    intro H locs hP hD hS
    replace hP : va_P D vwCl ([(h0, .inr (12, zmo hm c_thrown c_state c_test c_words c_ill c_before c_inRow c_first c_inWindow c_same c_made c_requests c_total c_secrets c_rounds c_high c_low c_keyHigh c_keyLow)), ((hm 40), .inl (cy 1, 256, .inl c_back)), ((hm 43), .inl (cy 1, 16, .inl c_block_7)), ((hm 44), .inl (cy 1, 16, .inl c_other_5)), ((hm 41), .inl (cy 1, 240, .inl c_round))]) H := hP
    replace hD : va_D A ([(h0, .inr (12, zmo hm c_thrown c_state c_test c_words c_ill c_before c_inRow c_first c_inWindow c_same c_made c_requests c_total c_secrets c_rounds c_high c_low c_keyHigh c_keyLow)), ((hm 40), .inl (cy 1, 256, .inl c_back)), ((hm 43), .inl (cy 1, 16, .inl c_block_7)), ((hm 44), .inl (cy 1, 16, .inl c_other_5)), ((hm 41), .inl (cy 1, 240, .inl c_round))]) := hD
    refine W.eq (g2 := F0 m 49 ls []) rfl ?_
    cases hf
    exact W.vret (pc := 49) hx hb hr (fun t ht hW => ⟨rfl, ⟨by rw [ht]; exact hP, hD⟩, hS.F ht⟩) hS.2.2 (zdt_at zt_X10_unseal_0 25 rfl)
  clear eK_6
  refine hTo _ _ _ (zl_go (fun z => match z with | (i_1, c_block_2, c_other_3) => ∀ (H : Heap) (locs : List Loc) (ls : Array Slot), va_P D vwCl ([(h0, .inr (12, zmo hm c_thrown c_state c_test c_words c_ill c_before c_inRow c_first c_inWindow c_same c_made c_requests c_total c_secrets c_rounds c_high c_low c_keyHigh c_keyLow)), ((hm 40), .inl (cy 1, 256, .inl c_back)), ((hm 43), .inl (cy 1, 16, .inl c_block_2)), ((hm 44), .inl (cy 1, 16, .inl c_other_3)), ((hm 41), .inl (cy 1, 240, .inl c_round))]) H → va_D A ([(h0, .inr (12, zmo hm c_thrown c_state c_test c_words c_ill c_before c_inRow c_first c_inWindow c_same c_made c_requests c_total c_secrets c_rounds c_high c_low c_keyHigh c_keyLow)), ((hm 40), .inl (cy 1, 256, .inl c_back)), ((hm 43), .inl (cy 1, 16, .inl c_block_2)), ((hm 44), .inl (cy 1, 16, .inl c_other_3)), ((hm 41), .inl (cy 1, 240, .inl c_round))]) → va_S A s.heap H locs → lv_has ls 2 [(0, .ref h0), (1, .int i_1)] → GW H locs (F0 m 5 ls [])) hf ?_ H locs ls hP hD hS (lv_sub hl [1, 0] rfl))
  clear hf hl hP hD hS
  intro self_8 ihself_8 z hf
  obtain ⟨i_1, c_block_2, c_other_3⟩ := z
  intro H locs ls hP hD hS hl
  refine hFr _ _ _ ?_
  unfold b_X10_unseal_5 at hf
  refine lv_iload_n (pc := 5) hx hb (zdt_at zt_X10_unseal_0 3 rfl) rfl (lv_at hl 1 rfl) ?_
  refine lv_if_le (pc := 6) (tgt := 44) hx hb (zdt_at zt_X10_unseal_0 4 rfl) (by decide) (fun cn_ => ?t_9) (fun cn_ => ?f_10)
  case t_9 =>
    replace hf := zt_s cn_ hf
    clear cn_
    exact hTo _ _ _ (kK_6 _ _ H locs ls hP hD hS (lv_sub hl [0] rfl) hf)
  replace hf := ze_s cn_ hf
  clear cn_
  refine lv_aload_n (pc := 9) hx hb (zdt_at zt_X10_unseal_0 5 rfl) rfl (lv_at hl 0 rfl) ?_
  refine lv_iload_n (pc := 10) hx hb (zdt_at zt_X10_unseal_0 6 rfl) rfl (lv_at hl 1 rfl) ?_
  replace hf := zb_s hf
  obtain ⟨c_block_11, hc_, hf⟩ := hf
  refine zcn2 (pc := 11) (rv := none) (va_runV (As := [.int i_1]) (rest := []) ⟨hx, hb, hml, hown, hts⟩ (c_X10_addRound l D cy tt H.size h0 hm i_1 c_block_2 c_round c_thrown c_state c_test c_words c_ill c_before c_inRow c_first c_inWindow c_same c_made c_requests c_total c_secrets c_rounds c_high c_low c_keyHigh c_keyLow c_block_11 hc_) (cwV 1 hts gX10_unseal_X10_addRound rfl rfl rfl (by decide +kernel) ⟨Nat.le_of_ble_eq_true rfl, Nat.le_of_ble_eq_true rfl⟩) ⟨zblind, va_recv hK hP (ci := 12) (q0 := 0) rfl rfl, zpre hE hS (hP.sub [0, 2, 4] rfl) (hD.sub [0, 2, 4] (by decide) rfl) (va_free hD hS hA [0, 2, 4] rfl)⟩ rfl rfl hl.1 rfl (lv_room (Nat.le_of_ble_eq_true rfl)) (zdt_at zt_X10_unseal_0 7 rfl) ⟨Nat.zero_le _, Nat.zero_le _⟩) hS hP hD (va_free hD hS hA [0, 2, 4] rfl) [0, 2, 4] rfl (by decide) rfl ?_
  clear hP hD hS hc_
  intro H locs hP hD hS
  replace hP : va_P D vwCl ([(h0, .inr (12, zmo hm c_thrown c_state c_test c_words c_ill c_before c_inRow c_first c_inWindow c_same c_made c_requests c_total c_secrets c_rounds c_high c_low c_keyHigh c_keyLow)), ((hm 40), .inl (cy 1, 256, .inl c_back)), ((hm 43), .inl (cy 1, 16, .inl c_block_11)), ((hm 44), .inl (cy 1, 16, .inl c_other_3)), ((hm 41), .inl (cy 1, 240, .inl c_round))]) H := hP
  replace hD : va_D A ([(h0, .inr (12, zmo hm c_thrown c_state c_test c_words c_ill c_before c_inRow c_first c_inWindow c_same c_made c_requests c_total c_secrets c_rounds c_high c_low c_keyHigh c_keyLow)), ((hm 40), .inl (cy 1, 256, .inl c_back)), ((hm 43), .inl (cy 1, 16, .inl c_block_11)), ((hm 44), .inl (cy 1, 16, .inl c_other_3)), ((hm 41), .inl (cy 1, 240, .inl c_round))]) := hD
  refine W.eq (g2 := F0 m 14 ls []) rfl ?_
  refine lv_iload_n (pc := 14) hx hb (zdt_at zt_X10_unseal_0 8 rfl) rfl (lv_at hl 1 rfl) ?_
  refine lv_aload_n (pc := 15) hx hb (zdt_at zt_X10_unseal_0 9 rfl) rfl (lv_at hl 0 rfl) ?_
  refine va_get (pc := 16) (D := D) (ci := 12) (v := .int c_rounds) (C := RX10) (T := TX10) (N := 52) hx hb hts hcX10 hown hK hP 0 rfl rfl 42 (by decide) hw0 (fun _ h9 => h9) rfl (zdt_at zt_X10_unseal_0 10 rfl) ?_
  refine lv_icmp_ge (pc := 19) (tgt := 34) hx hb (zdt_at zt_X10_unseal_0 11 rfl) (by decide) (fun cn_ => ?t_12) (fun cn_ => ?f_13)
  case t_12 =>
    replace hf := zt_s cn_ hf
    clear cn_
    refine lv_aload_n (pc := 34) hx hb (zdt_at zt_X10_unseal_0 18 rfl) rfl (lv_at hl 0 rfl) ?_
    replace hf := zb_s hf
    obtain ⟨⟨c_block_14, c_other_15⟩, hc_, hf⟩ := hf
    refine zcn2 (pc := 35) (rv := none) (va_runV (As := []) (rest := []) ⟨hx, hb, hml, hown, hts⟩ (c_X10_substituteBack l D cy tt H.size h0 hm c_back c_block_11 c_other_3 c_thrown c_state c_test c_words c_ill c_before c_inRow c_first c_inWindow c_same c_made c_requests c_total c_secrets c_rounds c_high c_low c_keyHigh c_keyLow c_block_14 c_other_15 hc_) (cwV 0 hts gX10_unseal_X10_substituteBack rfl rfl rfl (by decide +kernel) ⟨Nat.le_of_ble_eq_true rfl, Nat.le_of_ble_eq_true rfl⟩) ⟨zblind, va_recv hK hP (ci := 12) (q0 := 0) rfl rfl, zpre hE hS (hP.sub [0, 1, 2, 3] rfl) (hD.sub [0, 1, 2, 3] (by decide) rfl) (va_free hD hS hA [0, 1, 2, 3] rfl)⟩ rfl rfl hl.1 rfl (lv_room (Nat.le_of_ble_eq_true rfl)) (zdt_at zt_X10_unseal_0 19 rfl) ⟨Nat.zero_le _, Nat.zero_le _⟩) hS hP hD (va_free hD hS hA [0, 1, 2, 3] rfl) [0, 1, 2, 3] rfl (by decide) rfl ?_
    clear hP hD hS hc_
    intro H locs hP hD hS
    replace hP : va_P D vwCl ([(h0, .inr (12, zmo hm c_thrown c_state c_test c_words c_ill c_before c_inRow c_first c_inWindow c_same c_made c_requests c_total c_secrets c_rounds c_high c_low c_keyHigh c_keyLow)), ((hm 40), .inl (cy 1, 256, .inl c_back)), ((hm 43), .inl (cy 1, 16, .inl c_block_14)), ((hm 44), .inl (cy 1, 16, .inl c_other_15)), ((hm 41), .inl (cy 1, 240, .inl c_round))]) H := hP
    replace hD : va_D A ([(h0, .inr (12, zmo hm c_thrown c_state c_test c_words c_ill c_before c_inRow c_first c_inWindow c_same c_made c_requests c_total c_secrets c_rounds c_high c_low c_keyHigh c_keyLow)), ((hm 40), .inl (cy 1, 256, .inl c_back)), ((hm 43), .inl (cy 1, 16, .inl c_block_14)), ((hm 44), .inl (cy 1, 16, .inl c_other_15)), ((hm 41), .inl (cy 1, 240, .inl c_round))]) := hD
    refine W.eq (g2 := F0 m 38 ls []) rfl ?_
    refine lv_iinc (pc := 38) (v := (i_1 + (-1 : Int32))) (lv' := [(1, .int (i_1 + (-1 : Int32))), (0, .ref h0)]) hx hb (zdt_at zt_X10_unseal_0 20 rfl) hl (k := 1) rfl rfl (by decide) rfl ?_
    clear hl
    intro ls hl
    refine lv_goto (pc := 41) (tgt := 5) hx hb (zdt_at zt_X10_unseal_0 21 rfl) (by decide) ?_
    exact hTo _ _ _ (ihself_8 _ hf H locs ls hP hD hS (lv_sub hl [1, 0] rfl))
  replace hf := ze_s cn_ hf
  clear cn_
  refine lv_aload_n (pc := 22) hx hb (zdt_at zt_X10_unseal_0 12 rfl) rfl (lv_at hl 0 rfl) ?_
  refine lv_bipush (pc := 23) (v := (14 : Int32)) hx hb (zdt_at zt_X10_unseal_0 13 rfl) (by decide) ?_
  refine lv_bipush (pc := 25) (v := (11 : Int32)) hx hb (zdt_at zt_X10_unseal_0 14 rfl) (by decide) ?_
  refine lv_bipush (pc := 27) (v := (13 : Int32)) hx hb (zdt_at zt_X10_unseal_0 15 rfl) (by decide) ?_
  refine lv_bipush (pc := 29) (v := (9 : Int32)) hx hb (zdt_at zt_X10_unseal_0 16 rfl) (by decide) ?_
  replace hf := zb_s hf
  obtain ⟨⟨c_block_16, c_other_17⟩, hc_, hf⟩ := hf
  refine zcn2 (pc := 31) (rv := none) (va_runV (As := [.int (14 : Int32), .int (11 : Int32), .int (13 : Int32), .int (9 : Int32)]) (rest := []) ⟨hx, hb, hml, hown, hts⟩ (c_X10_mix l D cy tt H.size h0 hm (14 : Int32) (11 : Int32) (13 : Int32) (9 : Int32) c_block_11 c_other_3 c_thrown c_state c_test c_words c_ill c_before c_inRow c_first c_inWindow c_same c_made c_requests c_total c_secrets c_rounds c_high c_low c_keyHigh c_keyLow c_block_16 c_other_17 hc_) (cwV 4 hts gX10_unseal_X10_mix rfl rfl rfl (by decide +kernel) ⟨Nat.le_of_ble_eq_true rfl, Nat.le_of_ble_eq_true rfl⟩) ⟨zblind, va_recv hK hP (ci := 12) (q0 := 0) rfl rfl, zpre hE hS (hP.sub [0, 2, 3] rfl) (hD.sub [0, 2, 3] (by decide) rfl) (va_free hD hS hA [0, 2, 3] rfl)⟩ rfl rfl hl.1 rfl (lv_room (Nat.le_of_ble_eq_true rfl)) (zdt_at zt_X10_unseal_0 17 rfl) ⟨Nat.zero_le _, Nat.zero_le _⟩) hS hP hD (va_free hD hS hA [0, 2, 3] rfl) [0, 2, 3] rfl (by decide) rfl ?_
  clear hP hD hS hc_
  intro H locs hP hD hS
  replace hP : va_P D vwCl ([(h0, .inr (12, zmo hm c_thrown c_state c_test c_words c_ill c_before c_inRow c_first c_inWindow c_same c_made c_requests c_total c_secrets c_rounds c_high c_low c_keyHigh c_keyLow)), ((hm 40), .inl (cy 1, 256, .inl c_back)), ((hm 43), .inl (cy 1, 16, .inl c_block_16)), ((hm 44), .inl (cy 1, 16, .inl c_other_17)), ((hm 41), .inl (cy 1, 240, .inl c_round))]) H := hP
  replace hD : va_D A ([(h0, .inr (12, zmo hm c_thrown c_state c_test c_words c_ill c_before c_inRow c_first c_inWindow c_same c_made c_requests c_total c_secrets c_rounds c_high c_low c_keyHigh c_keyLow)), ((hm 40), .inl (cy 1, 256, .inl c_back)), ((hm 43), .inl (cy 1, 16, .inl c_block_16)), ((hm 44), .inl (cy 1, 16, .inl c_other_17)), ((hm 41), .inl (cy 1, 240, .inl c_round))]) := hD
  refine W.eq (g2 := F0 m 34 ls []) rfl ?_
  refine lv_aload_n (pc := 34) hx hb (zdt_at zt_X10_unseal_0 18 rfl) rfl (lv_at hl 0 rfl) ?_
  replace hf := zb_s hf
  obtain ⟨⟨c_block_18, c_other_19⟩, hc_, hf⟩ := hf
  refine zcn2 (pc := 35) (rv := none) (va_runV (As := []) (rest := []) ⟨hx, hb, hml, hown, hts⟩ (c_X10_substituteBack l D cy tt H.size h0 hm c_back c_block_16 c_other_17 c_thrown c_state c_test c_words c_ill c_before c_inRow c_first c_inWindow c_same c_made c_requests c_total c_secrets c_rounds c_high c_low c_keyHigh c_keyLow c_block_18 c_other_19 hc_) (cwV 0 hts gX10_unseal_X10_substituteBack rfl rfl rfl (by decide +kernel) ⟨Nat.le_of_ble_eq_true rfl, Nat.le_of_ble_eq_true rfl⟩) ⟨zblind, va_recv hK hP (ci := 12) (q0 := 0) rfl rfl, zpre hE hS (hP.sub [0, 1, 2, 3] rfl) (hD.sub [0, 1, 2, 3] (by decide) rfl) (va_free hD hS hA [0, 1, 2, 3] rfl)⟩ rfl rfl hl.1 rfl (lv_room (Nat.le_of_ble_eq_true rfl)) (zdt_at zt_X10_unseal_0 19 rfl) ⟨Nat.zero_le _, Nat.zero_le _⟩) hS hP hD (va_free hD hS hA [0, 1, 2, 3] rfl) [0, 1, 2, 3] rfl (by decide) rfl ?_
  clear hP hD hS hc_
  intro H locs hP hD hS
  replace hP : va_P D vwCl ([(h0, .inr (12, zmo hm c_thrown c_state c_test c_words c_ill c_before c_inRow c_first c_inWindow c_same c_made c_requests c_total c_secrets c_rounds c_high c_low c_keyHigh c_keyLow)), ((hm 40), .inl (cy 1, 256, .inl c_back)), ((hm 43), .inl (cy 1, 16, .inl c_block_18)), ((hm 44), .inl (cy 1, 16, .inl c_other_19)), ((hm 41), .inl (cy 1, 240, .inl c_round))]) H := hP
  replace hD : va_D A ([(h0, .inr (12, zmo hm c_thrown c_state c_test c_words c_ill c_before c_inRow c_first c_inWindow c_same c_made c_requests c_total c_secrets c_rounds c_high c_low c_keyHigh c_keyLow)), ((hm 40), .inl (cy 1, 256, .inl c_back)), ((hm 43), .inl (cy 1, 16, .inl c_block_18)), ((hm 44), .inl (cy 1, 16, .inl c_other_19)), ((hm 41), .inl (cy 1, 240, .inl c_round))]) := hD
  refine W.eq (g2 := F0 m 38 ls []) rfl ?_
  refine lv_iinc (pc := 38) (v := (i_1 + (-1 : Int32))) (lv' := [(1, .int (i_1 + (-1 : Int32))), (0, .ref h0)]) hx hb (zdt_at zt_X10_unseal_0 20 rfl) hl (k := 1) rfl rfl (by decide) rfl ?_
  clear hl
  intro ls hl
  refine lv_goto (pc := 41) (tgt := 5) hx hb (zdt_at zt_X10_unseal_0 21 rfl) (by decide) ?_
  exact hTo _ _ _ (ihself_8 _ hf H locs ls hP hD hS (lv_sub hl [1, 0] rfl))
set_option maxHeartbeats 4000000 in
set_option maxRecDepth 100000 in
theorem c_X10_start (l : Launch) (D : va_G) (cy : Nat → ClassId) (tt : Nat → Nat) (sz : Nat) (h0 : Nat) (hm : Nat → Nat) (c_total : Int64) (c_START : Nat → Int32) (c_h : Nat → Int32) (c_thrown : Int32) (c_state : Int32) (c_test : Int32) (c_words : Int32) (c_ill : Int32) (c_before : Int32) (c_inRow : Int32) (c_first : Int32) (c_inWindow : Int32) (c_same : Int32) (c_made : Int32) (c_requests : Int32) (c_secrets : Int32) (c_rounds : Int32) (c_high : Int64) (c_low : Int64) (c_keyHigh : Int64) (c_keyLow : Int64) (c_total' : Int64) (c_h' : Nat → Int32) (hf : f_X10_start c_total c_START c_h = some (c_total', c_h')) : Met l yX10_start wsX10_start ({ frames := 0, cells := 0, slots := 0, locals := 0 }) (zPc D cy tt sz [.ref h0] ([(h0, .inr (12, zmo hm c_thrown c_state c_test c_words c_ill c_before c_inRow c_first c_inWindow c_same c_made c_requests c_total c_secrets c_rounds c_high c_low c_keyHigh c_keyLow)), ((hm 47), .inl (cy 1, 8, .inl c_START)), ((hm 30), .inl (cy 1, 8, .inl c_h))])) (zQ D none ([(h0, .inr (12, zmo hm c_thrown c_state c_test c_words c_ill c_before c_inRow c_first c_inWindow c_same c_made c_requests c_total' c_secrets c_rounds c_high c_low c_keyHigh c_keyLow)), ((hm 47), .inl (cy 1, 8, .inl c_START)), ((hm 30), .inl (cy 1, 8, .inl c_h'))]) (va_A ([(h0, .inr (12, zmo hm c_thrown c_state c_test c_words c_ill c_before c_inRow c_first c_inWindow c_same c_made c_requests c_total c_secrets c_rounds c_high c_low c_keyHigh c_keyLow)), ((hm 47), .inl (cy 1, 8, .inl c_START)), ((hm 30), .inl (cy 1, 8, .inl c_h))]) sz)) 0 0 (va_A ([(h0, .inr (12, zmo hm c_thrown c_state c_test c_words c_ill c_before c_inRow c_first c_inWindow c_same c_made c_requests c_total c_secrets c_rounds c_high c_low c_keyHigh c_keyLow)), ((hm 47), .inl (cy 1, 8, .inl c_START)), ((hm 30), .inl (cy 1, 8, .inl c_h))]) sz) := by
  refine Met.ofW (cc := cX10_start) (maxL := 2) (ret := none) (by decide) rfl ?_
  intro p e s m args below meth c s₁ B hml hv
  obtain ⟨rfl, rfl, hP, hD0, hE⟩ := hv
  have hx := B.exec
  have hb := B.bytes
  have hr := B.returns
  have hts := atoms_spec (ws := wsX10_start) B.pre
  have hown : s.vm.findClass RX10 = some m.cls := findClass_of_methodNamed B.named
  have hlocks := B.notSynchronized
  clear B
  have hD := hD0.self (sz := s.heap.size)
  generalize hAe : va_A ([(h0, .inr (12, zmo hm c_thrown c_state c_test c_words c_ill c_before c_inRow c_first c_inWindow c_same c_made c_requests c_total c_secrets c_rounds c_high c_low c_keyHigh c_keyLow)), ((hm 47), .inl (cy 1, 8, .inl c_START)), ((hm 30), .inl (cy 1, 8, .inl c_h))]) s.heap.size = A at hD hE ⊢
  have hA : ∀ q : Nat, s.heap.size ≤ q → A q := fun q h => by rw [← hAe]; exact Or.inr h
  clear hAe hD0
  have hS : va_S A s.heap s.heap [] := va_S.rf
  have hK := hE.1
  have hw0 := hts (.fieldLink RX10 214 "SealedModuleModel" "total" "J") (by decide +kernel)
  have hw1 := hts (.fieldLink RX10 132 "SealedModuleModel" "h" "[I") (by decide +kernel)
  have hw2 := hts (.fieldLink RX10 182 "SealedModuleModel" "START" "[I") (by decide +kernel)
  have hcX10 : ∀ w ∈ u_ws RX10 TX10 52, w ∈ wsX10_start := (fun _ h => List.mem_cons_of_mem _ (List.mem_append_right _ h))
  have hl := lv_entry ([.ref h0]) (n := 2) (Nat.le_of_ble_eq_true rfl)
  rw [lg_entry_eq]
  generalize (lg_sl ([.ref h0]) ++ List.replicate (2 - (lg_sl ([.ref h0])).length) Slot.unset).toArray = ls at hl ⊢
  replace hl : lv_has ls 2 [(0, .ref h0)] := hl
  unfold f_X10_start at hf
  refine zgo (fun GW hTo hFr => ?_)
  refine hFr _ _ _ ?_
  obtain ⟨H, hHe⟩ : ∃ H, H = s.heap := ⟨_, rfl⟩
  obtain ⟨locs, hLe⟩ : ∃ L : List Loc, L = [] := ⟨_, rfl⟩
  rw [← hHe] at hP
  replace hS : va_S A s.heap H locs := by rw [hHe, hLe]; exact hS
  refine zat hHe.symm hLe.symm ?_
  clear hHe hLe
  refine lv_iconst (pc := 0) (v := (0 : Int32)) hx hb (zdt_at zt_X10_start_0 0 rfl) (by decide) ?_
  refine lv_istore_n (pc := 1) (lv' := [(1, .int (0 : Int32)), (0, .ref h0)]) hx hb (zdt_at zt_X10_start_0 1 rfl) rfl hl (by decide) rfl ?_
  clear hl
  intro ls hl
  replace hf := zj_s hf
  obtain ⟨K_4, eK_4, hf⟩ := hf
  have kK_4 : ∀ (c_h_3 : Nat → Int32) (H : Heap) (locs : List Loc) (ls : Array Slot), va_P D vwCl ([(h0, .inr (12, zmo hm c_thrown c_state c_test c_words c_ill c_before c_inRow c_first c_inWindow c_same c_made c_requests c_total c_secrets c_rounds c_high c_low c_keyHigh c_keyLow)), ((hm 47), .inl (cy 1, 8, .inl c_START)), ((hm 30), .inl (cy 1, 8, .inl c_h_3))]) H → va_D A ([(h0, .inr (12, zmo hm c_thrown c_state c_test c_words c_ill c_before c_inRow c_first c_inWindow c_same c_made c_requests c_total c_secrets c_rounds c_high c_low c_keyHigh c_keyLow)), ((hm 47), .inl (cy 1, 8, .inl c_START)), ((hm 30), .inl (cy 1, 8, .inl c_h_3))]) → va_S A s.heap H locs → lv_has ls 2 [(0, .ref h0)] → K_4 c_h_3 = some (c_total', c_h') → GW H locs (F0 m 26 ls []) := by
    clear hf hl hP hD hS
    intro c_h_3 H locs ls hP hD hS hl hf
    rw [eK_4] at hf
    clear eK_4
    refine hFr _ _ _ ?_
    refine lv_aload_n (pc := 26) hx hb (zdt_at zt_X10_start_0 15 rfl) rfl (lv_at hl 0 rfl) ?_
    refine lv_lconst (pc := 27) (v := (0 : Int64)) hx hb (zdt_at zt_X10_start_0 16 rfl) (by decide) ?_
    refine va_put (pc := 28) (D := D) (ci := 12) (v := .long (0 : Int64)) (ty := .long) (C := RX10) (T := TX10) (N := 52) hx hb hts hcX10 tyX10 tyX10_ok nmX10 hown hK hP hD hS 0 rfl rfl 34 (by decide) hw0 (fun _ h9 => h9) rfl (by decide +kernel) rfl rfl (Nat.le_of_ble_eq_true rfl) (zdt_at zt_X10_start_0 17 rfl) ?_
    clear hP hD hS
    intro H locs hP hD hS
    replace hP : va_P D vwCl ([(h0, .inr (12, zmo hm c_thrown c_state c_test c_words c_ill c_before c_inRow c_first c_inWindow c_same c_made c_requests (0 : Int64) c_secrets c_rounds c_high c_low c_keyHigh c_keyLow)), ((hm 47), .inl (cy 1, 8, .inl c_START)), ((hm 30), .inl (cy 1, 8, .inl c_h_3))]) H := hP
    replace hD : va_D A ([(h0, .inr (12, zmo hm c_thrown c_state c_test c_words c_ill c_before c_inRow c_first c_inWindow c_same c_made c_requests (0 : Int64) c_secrets c_rounds c_high c_low c_keyHigh c_keyLow)), ((hm 47), .inl (cy 1, 8, .inl c_START)), ((hm 30), .inl (cy 1, 8, .inl c_h_3))]) := hD
    cases hf
    exact W.vret (pc := 31) hx hb hr (fun t ht hW => ⟨rfl, ⟨by rw [ht]; exact hP, hD⟩, hS.F ht⟩) hS.2.2 (zdt_at zt_X10_start_0 18 rfl)
  clear eK_4
  refine hTo _ _ _ (zl_go (fun z => match z with | (i_1, c_h_2) => ∀ (H : Heap) (locs : List Loc) (ls : Array Slot), va_P D vwCl ([(h0, .inr (12, zmo hm c_thrown c_state c_test c_words c_ill c_before c_inRow c_first c_inWindow c_same c_made c_requests c_total c_secrets c_rounds c_high c_low c_keyHigh c_keyLow)), ((hm 47), .inl (cy 1, 8, .inl c_START)), ((hm 30), .inl (cy 1, 8, .inl c_h_2))]) H → va_D A ([(h0, .inr (12, zmo hm c_thrown c_state c_test c_words c_ill c_before c_inRow c_first c_inWindow c_same c_made c_requests c_total c_secrets c_rounds c_high c_low c_keyHigh c_keyLow)), ((hm 47), .inl (cy 1, 8, .inl c_START)), ((hm 30), .inl (cy 1, 8, .inl c_h_2))]) → va_S A s.heap H locs → lv_has ls 2 [(0, .ref h0), (1, .int i_1)] → GW H locs (F0 m 2 ls [])) hf ?_ H locs ls hP hD hS (lv_sub hl [1, 0] rfl))
  clear hf hl hP hD hS
  intro self_5 ihself_5 z hf
  obtain ⟨i_1, c_h_2⟩ := z
  intro H locs ls hP hD hS hl
  refine hFr _ _ _ ?_
  unfold b_X10_start_2 at hf
  refine lv_iload_n (pc := 2) hx hb (zdt_at zt_X10_start_0 2 rfl) rfl (lv_at hl 1 rfl) ?_
  refine lv_bipush (pc := 3) (v := (8 : Int32)) hx hb (zdt_at zt_X10_start_0 3 rfl) (by decide) ?_
  refine lv_icmp_ge (pc := 5) (tgt := 26) hx hb (zdt_at zt_X10_start_0 4 rfl) (by decide) (fun cn_ => ?t_6) (fun cn_ => ?f_7)
  case t_6 =>
    replace hf := zt_s cn_ hf
    clear cn_
    exact hTo _ _ _ (kK_4 _ H locs ls hP hD hS (lv_sub hl [0] rfl) hf)
  replace hf := ze_s cn_ hf
  clear cn_
  refine lv_aload_n (pc := 8) hx hb (zdt_at zt_X10_start_0 5 rfl) rfl (lv_at hl 0 rfl) ?_
  refine va_get (pc := 9) (D := D) (ci := 12) (v := .ref (hm 30)) (C := RX10) (T := TX10) (N := 52) hx hb hts hcX10 hown hK hP 0 rfl rfl 30 (by decide) hw1 (fun _ h9 => h9) rfl (zdt_at zt_X10_start_0 6 rfl) ?_
  refine lv_iload_n (pc := 12) hx hb (zdt_at zt_X10_start_0 7 rfl) rfl (lv_at hl 1 rfl) ?_
  refine lv_aload_n (pc := 13) hx hb (zdt_at zt_X10_start_0 8 rfl) rfl (lv_at hl 0 rfl) ?_
  refine va_get (pc := 14) (D := D) (ci := 12) (v := .ref (hm 47)) (C := RX10) (T := TX10) (N := 52) hx hb hts hcX10 hown hK hP 0 rfl rfl 47 (by decide) hw2 (fun _ h9 => h9) rfl (zdt_at zt_X10_start_0 9 rfl) ?_
  refine lv_iload_n (pc := 17) hx hb (zdt_at zt_X10_start_0 10 rfl) rfl (lv_at hl 1 rfl) ?_
  replace hf := zk_s hf
  refine va_iald (pc := 18) hx hb hK hP 1 1 rfl rfl hf.1 (zdt_at zt_X10_start_0 11 rfl) ?_
  replace hf := hf.2
  replace hf := zk_s hf
  refine va_iast (pc := 19) hx hb hK hP hD hS 2 1 rfl rfl hf.1 (zdt_at zt_X10_start_0 12 rfl) ?_
  replace hf := hf.2
  clear hP hD hS
  intro H locs hP hD hS
  obtain ⟨c_h_8, e_⟩ : ∃ q : Nat → Int32, q = (upd c_h_2 i_1.toNatClampNeg (c_START i_1.toNatClampNeg)) := ⟨_, rfl⟩
  replace hf := zn_s hf e_
  replace hP : va_P D vwCl ([(h0, .inr (12, zmo hm c_thrown c_state c_test c_words c_ill c_before c_inRow c_first c_inWindow c_same c_made c_requests c_total c_secrets c_rounds c_high c_low c_keyHigh c_keyLow)), ((hm 47), .inl (cy 1, 8, .inl c_START)), ((hm 30), .inl (cy 1, 8, .inl c_h_8))]) H := by rw [e_]; exact hP
  replace hD : va_D A ([(h0, .inr (12, zmo hm c_thrown c_state c_test c_words c_ill c_before c_inRow c_first c_inWindow c_same c_made c_requests c_total c_secrets c_rounds c_high c_low c_keyHigh c_keyLow)), ((hm 47), .inl (cy 1, 8, .inl c_START)), ((hm 30), .inl (cy 1, 8, .inl c_h_8))]) := by rw [e_]; exact hD
  clear e_
  refine lv_iinc (pc := 20) (v := (i_1 + (1 : Int32))) (lv' := [(1, .int (i_1 + (1 : Int32))), (0, .ref h0)]) hx hb (zdt_at zt_X10_start_0 13 rfl) hl (k := 1) rfl rfl (by decide) rfl ?_
  clear hl
  intro ls hl
  refine lv_goto (pc := 23) (tgt := 2) hx hb (zdt_at zt_X10_start_0 14 rfl) (by decide) ?_
  exact hTo _ _ _ (ihself_5 _ hf H locs ls hP hD hS (lv_sub hl [1, 0] rfl))
set_option maxHeartbeats 4000000 in
set_option maxRecDepth 100000 in
theorem c_X10_turn (l : Launch) (D : va_G) (cy : Nat → ClassId) (tt : Nat → Nat) (sz : Nat) (p0 : Int32) (p1 : Int32) (r_ : Int32) (hf : f_X10_turn p0 p1 = some r_) : Met l yX10_turn wsX10_turn ({ frames := 0, cells := 0, slots := 0, locals := 0 }) (zPc D cy tt sz [.int p0, .int p1] ([])) (fun _ st o t => o = .returned (some (.int r_)) ∧ t.heap = st.heap) 0 0 (fun _ => False) := by
  refine Met.ofW (cc := cX10_turn) (maxL := 2) (ret := (some .int)) (by decide) rfl ?_
  intro p e s m args below meth c s₁ B hml hv
  obtain ⟨rfl, rfl, hP, hD0, hE⟩ := hv
  have hx := B.exec
  have hb := B.bytes
  have hr := B.returns
  have hts := atoms_spec (ws := wsX10_turn) B.pre
  have hown : s.vm.findClass RX10 = some m.cls := findClass_of_methodNamed B.named
  have hlocks := B.notSynchronized
  clear B
  have hD := hD0.self (sz := s.heap.size)
  generalize hAe : va_A ([]) s.heap.size = A at hD hE
  have hA : ∀ q : Nat, s.heap.size ≤ q → A q := fun q h => by rw [← hAe]; exact Or.inr h
  clear hAe hD0
  have hS : va_S A s.heap s.heap [] := va_S.rf
  have hK := hE.1
  have hl := lv_entry ([.int p0, .int p1]) (n := 2) (Nat.le_of_ble_eq_true rfl)
  rw [lg_entry_eq]
  generalize (lg_sl ([.int p0, .int p1]) ++ List.replicate (2 - (lg_sl ([.int p0, .int p1])).length) Slot.unset).toArray = ls at hl ⊢
  replace hl : lv_has ls 2 [(0, .int p0), (1, .int p1)] := hl
  unfold f_X10_turn at hf
  refine zgo (fun GW hTo hFr => ?_)
  refine hFr _ _ _ ?_
  refine lv_iload_n (pc := 0) hx hb (zdt_at zt_X10_turn_0 0 rfl) rfl (lv_at hl 0 rfl) ?_
  refine lv_iload_n (pc := 1) hx hb (zdt_at zt_X10_turn_0 1 rfl) rfl (lv_at hl 1 rfl) ?_
  refine lv_iushr (pc := 2) hx hb (zdt_at zt_X10_turn_0 2 rfl) rfl ?_
  refine lv_iload_n (pc := 3) hx hb (zdt_at zt_X10_turn_0 3 rfl) rfl (lv_at hl 0 rfl) ?_
  refine lv_bipush (pc := 4) (v := (32 : Int32)) hx hb (zdt_at zt_X10_turn_0 4 rfl) (by decide) ?_
  refine lv_iload_n (pc := 6) hx hb (zdt_at zt_X10_turn_0 5 rfl) rfl (lv_at hl 1 rfl) ?_
  refine lv_isub (pc := 7) hx hb (zdt_at zt_X10_turn_0 6 rfl) ?_
  refine lv_ishl (pc := 8) hx hb (zdt_at zt_X10_turn_0 7 rfl) ?_
  refine lv_ior (pc := 9) hx hb (zdt_at zt_X10_turn_0 8 rfl) ?_
  cases hf
  exact W.iret (pc := 10) hx hb hr (fun t ht hW => ⟨rfl, ht⟩) (fun _ h => nomatch h) (zdt_at zt_X10_turn_0 9 rfl)
set_option maxHeartbeats 4000000 in
set_option maxRecDepth 100000 in
theorem c_X10_compress (l : Launch) (D : va_G) (cy : Nat → ClassId) (tt : Nat → Nat) (sz : Nat) (h0 : Nat) (hm : Nat → Nat) (c_ROUND : Nat → Int32) (c_h : Nat → Int32) (c_message : Nat → Int32) (c_w : Nat → Int32) (c_x : Nat → Int32) (c_thrown : Int32) (c_state : Int32) (c_test : Int32) (c_words : Int32) (c_ill : Int32) (c_before : Int32) (c_inRow : Int32) (c_first : Int32) (c_inWindow : Int32) (c_same : Int32) (c_made : Int32) (c_requests : Int32) (c_total : Int64) (c_secrets : Int32) (c_rounds : Int32) (c_high : Int64) (c_low : Int64) (c_keyHigh : Int64) (c_keyLow : Int64) (c_h' : Nat → Int32) (c_w' : Nat → Int32) (c_x' : Nat → Int32) (hf : f_X10_compress c_ROUND c_h c_message c_w c_x = some (c_h', c_w', c_x')) : Met l yX10_compress wsX10_compress ({ frames := 1, cells := 0, slots := 0, locals := 21 }) (zPc D cy tt sz [.ref h0] ([(h0, .inr (12, zmo hm c_thrown c_state c_test c_words c_ill c_before c_inRow c_first c_inWindow c_same c_made c_requests c_total c_secrets c_rounds c_high c_low c_keyHigh c_keyLow)), ((hm 0), .inl (cy 1, 64, .inl c_ROUND)), ((hm 30), .inl (cy 1, 8, .inl c_h)), ((hm 33), .inl (cy 1, 64, .inl c_message)), ((hm 31), .inl (cy 1, 64, .inl c_w)), ((hm 32), .inl (cy 1, 8, .inl c_x))])) (zQ D none ([(h0, .inr (12, zmo hm c_thrown c_state c_test c_words c_ill c_before c_inRow c_first c_inWindow c_same c_made c_requests c_total c_secrets c_rounds c_high c_low c_keyHigh c_keyLow)), ((hm 0), .inl (cy 1, 64, .inl c_ROUND)), ((hm 30), .inl (cy 1, 8, .inl c_h')), ((hm 33), .inl (cy 1, 64, .inl c_message)), ((hm 31), .inl (cy 1, 64, .inl c_w')), ((hm 32), .inl (cy 1, 8, .inl c_x'))]) (va_A ([(h0, .inr (12, zmo hm c_thrown c_state c_test c_words c_ill c_before c_inRow c_first c_inWindow c_same c_made c_requests c_total c_secrets c_rounds c_high c_low c_keyHigh c_keyLow)), ((hm 0), .inl (cy 1, 64, .inl c_ROUND)), ((hm 30), .inl (cy 1, 8, .inl c_h)), ((hm 33), .inl (cy 1, 64, .inl c_message)), ((hm 31), .inl (cy 1, 64, .inl c_w)), ((hm 32), .inl (cy 1, 8, .inl c_x))]) sz)) 0 0 (va_A ([(h0, .inr (12, zmo hm c_thrown c_state c_test c_words c_ill c_before c_inRow c_first c_inWindow c_same c_made c_requests c_total c_secrets c_rounds c_high c_low c_keyHigh c_keyLow)), ((hm 0), .inl (cy 1, 64, .inl c_ROUND)), ((hm 30), .inl (cy 1, 8, .inl c_h)), ((hm 33), .inl (cy 1, 64, .inl c_message)), ((hm 31), .inl (cy 1, 64, .inl c_w)), ((hm 32), .inl (cy 1, 8, .inl c_x))]) sz) := by
  refine Met.ofW (cc := cX10_compress) (maxL := 5) (ret := none) (by decide) rfl ?_
  intro p e s m args below meth c s₁ B hml hv
  obtain ⟨rfl, rfl, hP, hD0, hE⟩ := hv
  have hx := B.exec
  have hb := B.bytes
  have hr := B.returns
  have hts := atoms_spec (ws := wsX10_compress) B.pre
  have hown : s.vm.findClass RX10 = some m.cls := findClass_of_methodNamed B.named
  have hlocks := B.notSynchronized
  clear B
  have hD := hD0.self (sz := s.heap.size)
  generalize hAe : va_A ([(h0, .inr (12, zmo hm c_thrown c_state c_test c_words c_ill c_before c_inRow c_first c_inWindow c_same c_made c_requests c_total c_secrets c_rounds c_high c_low c_keyHigh c_keyLow)), ((hm 0), .inl (cy 1, 64, .inl c_ROUND)), ((hm 30), .inl (cy 1, 8, .inl c_h)), ((hm 33), .inl (cy 1, 64, .inl c_message)), ((hm 31), .inl (cy 1, 64, .inl c_w)), ((hm 32), .inl (cy 1, 8, .inl c_x))]) s.heap.size = A at hD hE ⊢
  have hA : ∀ q : Nat, s.heap.size ≤ q → A q := fun q h => by rw [← hAe]; exact Or.inr h
  clear hAe hD0
  have hS : va_S A s.heap s.heap [] := va_S.rf
  have hK := hE.1
  have hw0 := hts (.fieldLink RX10 132 "SealedModuleModel" "h" "[I") (by decide +kernel)
  have hw1 := hts (.fieldLink RX10 138 "SealedModuleModel" "x" "[I") (by decide +kernel)
  have hw2 := hts (.fieldLink RX10 71 "SealedModuleModel" "ROUND" "[I") (by decide +kernel)
  have hw3 := hts (.fieldLink RX10 135 "SealedModuleModel" "w" "[I") (by decide +kernel)
  have hw4 := hts (.fieldLink RX10 141 "SealedModuleModel" "message" "[I") (by decide +kernel)
  have hcX10 : ∀ w ∈ u_ws RX10 TX10 52, w ∈ wsX10_compress := (fun _ h => List.mem_cons_of_mem _ (List.mem_append_right _ h))
  have hl := lv_entry ([.ref h0]) (n := 5) (Nat.le_of_ble_eq_true rfl)
  rw [lg_entry_eq]
  generalize (lg_sl ([.ref h0]) ++ List.replicate (5 - (lg_sl ([.ref h0])).length) Slot.unset).toArray = ls at hl ⊢
  replace hl : lv_has ls 5 [(0, .ref h0)] := hl
  unfold f_X10_compress at hf
  refine zgo (fun GW hTo hFr => ?_)
  refine hFr _ _ _ ?_
  obtain ⟨H, hHe⟩ : ∃ H, H = s.heap := ⟨_, rfl⟩
  obtain ⟨locs, hLe⟩ : ∃ L : List Loc, L = [] := ⟨_, rfl⟩
  rw [← hHe] at hP
  replace hS : va_S A s.heap H locs := by rw [hHe, hLe]; exact hS
  refine zat hHe.symm hLe.symm ?_
  clear hHe hLe
  refine lv_iconst (pc := 0) (v := (0 : Int32)) hx hb (zdt_at zt_X10_compress_0 0 rfl) (by decide) ?_
  refine lv_istore_n (pc := 1) (lv' := [(1, .int (0 : Int32)), (0, .ref h0)]) hx hb (zdt_at zt_X10_compress_0 1 rfl) rfl hl (by decide) rfl ?_
  clear hl
  intro ls hl
  replace hf := zj_s hf
  obtain ⟨K_4, eK_4, hf⟩ := hf
  have kK_4 : ∀ (c_w_3 : Nat → Int32) (H : Heap) (locs : List Loc) (ls : Array Slot), va_P D vwCl ([(h0, .inr (12, zmo hm c_thrown c_state c_test c_words c_ill c_before c_inRow c_first c_inWindow c_same c_made c_requests c_total c_secrets c_rounds c_high c_low c_keyHigh c_keyLow)), ((hm 0), .inl (cy 1, 64, .inl c_ROUND)), ((hm 30), .inl (cy 1, 8, .inl c_h)), ((hm 33), .inl (cy 1, 64, .inl c_message)), ((hm 31), .inl (cy 1, 64, .inl c_w_3)), ((hm 32), .inl (cy 1, 8, .inl c_x))]) H → va_D A ([(h0, .inr (12, zmo hm c_thrown c_state c_test c_words c_ill c_before c_inRow c_first c_inWindow c_same c_made c_requests c_total c_secrets c_rounds c_high c_low c_keyHigh c_keyLow)), ((hm 0), .inl (cy 1, 64, .inl c_ROUND)), ((hm 30), .inl (cy 1, 8, .inl c_h)), ((hm 33), .inl (cy 1, 64, .inl c_message)), ((hm 31), .inl (cy 1, 64, .inl c_w_3)), ((hm 32), .inl (cy 1, 8, .inl c_x))]) → va_S A s.heap H locs → lv_has ls 5 [(0, .ref h0)] → K_4 c_w_3 = some (c_h', c_w', c_x') → GW H locs (F0 m 70 ls []) := by
    clear hf hl hP hD hS
    intro c_w_3 H locs ls hP hD hS hl hf
    rw [eK_4] at hf
    clear eK_4
    refine hFr _ _ _ ?_
    refine lv_bipush (pc := 70) (v := (16 : Int32)) hx hb (zdt_at zt_X10_compress_0 50 rfl) (by decide) ?_
    refine lv_istore_n (pc := 72) (lv' := [(1, .int (16 : Int32)), (0, .ref h0)]) hx hb (zdt_at zt_X10_compress_0 51 rfl) rfl hl (by decide) rfl ?_
    clear hl
    intro ls hl
    replace hf := zj_s hf
    obtain ⟨K_8, eK_8, hf⟩ := hf
    have kK_8 : ∀ (c_w_7 : Nat → Int32) (H : Heap) (locs : List Loc) (ls : Array Slot), va_P D vwCl ([(h0, .inr (12, zmo hm c_thrown c_state c_test c_words c_ill c_before c_inRow c_first c_inWindow c_same c_made c_requests c_total c_secrets c_rounds c_high c_low c_keyHigh c_keyLow)), ((hm 0), .inl (cy 1, 64, .inl c_ROUND)), ((hm 30), .inl (cy 1, 8, .inl c_h)), ((hm 33), .inl (cy 1, 64, .inl c_message)), ((hm 31), .inl (cy 1, 64, .inl c_w_7)), ((hm 32), .inl (cy 1, 8, .inl c_x))]) H → va_D A ([(h0, .inr (12, zmo hm c_thrown c_state c_test c_words c_ill c_before c_inRow c_first c_inWindow c_same c_made c_requests c_total c_secrets c_rounds c_high c_low c_keyHigh c_keyLow)), ((hm 0), .inl (cy 1, 64, .inl c_ROUND)), ((hm 30), .inl (cy 1, 8, .inl c_h)), ((hm 33), .inl (cy 1, 64, .inl c_message)), ((hm 31), .inl (cy 1, 64, .inl c_w_7)), ((hm 32), .inl (cy 1, 8, .inl c_x))]) → va_S A s.heap H locs → lv_has ls 5 [(0, .ref h0)] → K_8 c_w_7 = some (c_h', c_w', c_x') → GW H locs (F0 m 192 ls []) := by
      clear hf hl hP hD hS
      intro c_w_7 H locs ls hP hD hS hl hf
      rw [eK_8] at hf
      clear eK_8
      refine hFr _ _ _ ?_
      refine lv_iconst (pc := 192) (v := (0 : Int32)) hx hb (zdt_at zt_X10_compress_2 0 rfl) (by decide) ?_
      refine lv_istore_n (pc := 193) (lv' := [(1, .int (0 : Int32)), (0, .ref h0)]) hx hb (zdt_at zt_X10_compress_2 1 rfl) rfl hl (by decide) rfl ?_
      clear hl
      intro ls hl
      replace hf := zj_s hf
      obtain ⟨K_12, eK_12, hf⟩ := hf
      have kK_12 : ∀ (c_x_11 : Nat → Int32) (H : Heap) (locs : List Loc) (ls : Array Slot), va_P D vwCl ([(h0, .inr (12, zmo hm c_thrown c_state c_test c_words c_ill c_before c_inRow c_first c_inWindow c_same c_made c_requests c_total c_secrets c_rounds c_high c_low c_keyHigh c_keyLow)), ((hm 0), .inl (cy 1, 64, .inl c_ROUND)), ((hm 30), .inl (cy 1, 8, .inl c_h)), ((hm 33), .inl (cy 1, 64, .inl c_message)), ((hm 31), .inl (cy 1, 64, .inl c_w_7)), ((hm 32), .inl (cy 1, 8, .inl c_x_11))]) H → va_D A ([(h0, .inr (12, zmo hm c_thrown c_state c_test c_words c_ill c_before c_inRow c_first c_inWindow c_same c_made c_requests c_total c_secrets c_rounds c_high c_low c_keyHigh c_keyLow)), ((hm 0), .inl (cy 1, 64, .inl c_ROUND)), ((hm 30), .inl (cy 1, 8, .inl c_h)), ((hm 33), .inl (cy 1, 64, .inl c_message)), ((hm 31), .inl (cy 1, 64, .inl c_w_7)), ((hm 32), .inl (cy 1, 8, .inl c_x_11))]) → va_S A s.heap H locs → lv_has ls 5 [(0, .ref h0)] → K_12 c_x_11 = some (c_h', c_w', c_x') → GW H locs (F0 m 218 ls []) := by
        clear hf hl hP hD hS
        intro c_x_11 H locs ls hP hD hS hl hf
        rw [eK_12] at hf
        clear eK_12
        refine hFr _ _ _ ?_
        refine lv_iconst (pc := 218) (v := (0 : Int32)) hx hb (zdt_at zt_X10_compress_2 15 rfl) (by decide) ?_
        refine lv_istore_n (pc := 219) (lv' := [(1, .int (0 : Int32)), (0, .ref h0)]) hx hb (zdt_at zt_X10_compress_2 16 rfl) rfl hl (by decide) rfl ?_
        clear hl
        intro ls hl
        replace hf := zj_s hf
        obtain ⟨K_16, eK_16, hf⟩ := hf
        have kK_16 : ∀ (c_x_15 : Nat → Int32) (H : Heap) (locs : List Loc) (ls : Array Slot), va_P D vwCl ([(h0, .inr (12, zmo hm c_thrown c_state c_test c_words c_ill c_before c_inRow c_first c_inWindow c_same c_made c_requests c_total c_secrets c_rounds c_high c_low c_keyHigh c_keyLow)), ((hm 0), .inl (cy 1, 64, .inl c_ROUND)), ((hm 30), .inl (cy 1, 8, .inl c_h)), ((hm 33), .inl (cy 1, 64, .inl c_message)), ((hm 31), .inl (cy 1, 64, .inl c_w_7)), ((hm 32), .inl (cy 1, 8, .inl c_x_15))]) H → va_D A ([(h0, .inr (12, zmo hm c_thrown c_state c_test c_words c_ill c_before c_inRow c_first c_inWindow c_same c_made c_requests c_total c_secrets c_rounds c_high c_low c_keyHigh c_keyLow)), ((hm 0), .inl (cy 1, 64, .inl c_ROUND)), ((hm 30), .inl (cy 1, 8, .inl c_h)), ((hm 33), .inl (cy 1, 64, .inl c_message)), ((hm 31), .inl (cy 1, 64, .inl c_w_7)), ((hm 32), .inl (cy 1, 8, .inl c_x_15))]) → va_S A s.heap H locs → lv_has ls 5 [(0, .ref h0)] → K_16 c_x_15 = some (c_h', c_w', c_x') → GW H locs (F0 m 452 ls []) := by
          clear hf hl hP hD hS
          intro c_x_15 H locs ls hP hD hS hl hf
          rw [eK_16] at hf
          clear eK_16
          refine hFr _ _ _ ?_
          refine lv_iconst (pc := 452) (v := (0 : Int32)) hx hb (zdt_at zt_X10_compress_4 36 rfl) (by decide) ?_
          refine lv_istore_n (pc := 453) (lv' := [(1, .int (0 : Int32)), (0, .ref h0)]) hx hb (zdt_at zt_X10_compress_4 37 rfl) rfl hl (by decide) rfl ?_
          clear hl
          intro ls hl
          replace hf := zj_s hf
          obtain ⟨K_20, eK_20, hf⟩ := hf
          have kK_20 : ∀ (c_h_19 : Nat → Int32) (H : Heap) (locs : List Loc) (ls : Array Slot), va_P D vwCl ([(h0, .inr (12, zmo hm c_thrown c_state c_test c_words c_ill c_before c_inRow c_first c_inWindow c_same c_made c_requests c_total c_secrets c_rounds c_high c_low c_keyHigh c_keyLow)), ((hm 0), .inl (cy 1, 64, .inl c_ROUND)), ((hm 30), .inl (cy 1, 8, .inl c_h_19)), ((hm 33), .inl (cy 1, 64, .inl c_message)), ((hm 31), .inl (cy 1, 64, .inl c_w_7)), ((hm 32), .inl (cy 1, 8, .inl c_x_15))]) H → va_D A ([(h0, .inr (12, zmo hm c_thrown c_state c_test c_words c_ill c_before c_inRow c_first c_inWindow c_same c_made c_requests c_total c_secrets c_rounds c_high c_low c_keyHigh c_keyLow)), ((hm 0), .inl (cy 1, 64, .inl c_ROUND)), ((hm 30), .inl (cy 1, 8, .inl c_h_19)), ((hm 33), .inl (cy 1, 64, .inl c_message)), ((hm 31), .inl (cy 1, 64, .inl c_w_7)), ((hm 32), .inl (cy 1, 8, .inl c_x_15))]) → va_S A s.heap H locs → lv_has ls 5 [] → K_20 c_h_19 = some (c_h', c_w', c_x') → GW H locs (F0 m 485 ls []) := by
            clear hf hl hP hD hS
            intro c_h_19 H locs ls hP hD hS hl hf
            rw [eK_20] at hf
            clear eK_20
            refine hFr _ _ _ ?_
            cases hf
            exact W.vret (pc := 485) hx hb hr (fun t ht hW => ⟨rfl, ⟨by rw [ht]; exact hP, hD⟩, hS.F ht⟩) hS.2.2 (zdt_at zt_X10_compress_4 56 rfl)
          clear eK_20
          refine hTo _ _ _ (zl_go (fun z => match z with | (i_17, c_h_18) => ∀ (H : Heap) (locs : List Loc) (ls : Array Slot), va_P D vwCl ([(h0, .inr (12, zmo hm c_thrown c_state c_test c_words c_ill c_before c_inRow c_first c_inWindow c_same c_made c_requests c_total c_secrets c_rounds c_high c_low c_keyHigh c_keyLow)), ((hm 0), .inl (cy 1, 64, .inl c_ROUND)), ((hm 30), .inl (cy 1, 8, .inl c_h_18)), ((hm 33), .inl (cy 1, 64, .inl c_message)), ((hm 31), .inl (cy 1, 64, .inl c_w_7)), ((hm 32), .inl (cy 1, 8, .inl c_x_15))]) H → va_D A ([(h0, .inr (12, zmo hm c_thrown c_state c_test c_words c_ill c_before c_inRow c_first c_inWindow c_same c_made c_requests c_total c_secrets c_rounds c_high c_low c_keyHigh c_keyLow)), ((hm 0), .inl (cy 1, 64, .inl c_ROUND)), ((hm 30), .inl (cy 1, 8, .inl c_h_18)), ((hm 33), .inl (cy 1, 64, .inl c_message)), ((hm 31), .inl (cy 1, 64, .inl c_w_7)), ((hm 32), .inl (cy 1, 8, .inl c_x_15))]) → va_S A s.heap H locs → lv_has ls 5 [(0, .ref h0), (1, .int i_17)] → GW H locs (F0 m 454 ls [])) hf ?_ H locs ls hP hD hS (lv_sub hl [1, 0] rfl))
          clear hf hl hP hD hS
          intro self_21 ihself_21 z hf
          obtain ⟨i_17, c_h_18⟩ := z
          intro H locs ls hP hD hS hl
          refine hFr _ _ _ ?_
          unfold b_X10_compress_454 at hf
          refine lv_iload_n (pc := 454) hx hb (zdt_at zt_X10_compress_4 38 rfl) rfl (lv_at hl 1 rfl) ?_
          refine lv_bipush (pc := 455) (v := (8 : Int32)) hx hb (zdt_at zt_X10_compress_4 39 rfl) (by decide) ?_
          refine lv_icmp_ge (pc := 457) (tgt := 485) hx hb (zdt_at zt_X10_compress_4 40 rfl) (by decide) (fun cn_ => ?t_22) (fun cn_ => ?f_23)
          case t_22 =>
            replace hf := zt_s cn_ hf
            clear cn_
            exact hTo _ _ _ (kK_20 _ H locs ls hP hD hS (lv_sub hl [] rfl) hf)
          replace hf := ze_s cn_ hf
          clear cn_
          refine lv_aload_n (pc := 460) hx hb (zdt_at zt_X10_compress_4 41 rfl) rfl (lv_at hl 0 rfl) ?_
          refine va_get (pc := 461) (D := D) (ci := 12) (v := .ref (hm 30)) (C := RX10) (T := TX10) (N := 52) hx hb hts hcX10 hown hK hP 0 rfl rfl 30 (by decide) hw0 (fun _ h9 => h9) rfl (zdt_at zt_X10_compress_4 42 rfl) ?_
          refine lv_iload_n (pc := 464) hx hb (zdt_at zt_X10_compress_4 43 rfl) rfl (lv_at hl 1 rfl) ?_
          refine lv_aload_n (pc := 465) hx hb (zdt_at zt_X10_compress_4 44 rfl) rfl (lv_at hl 0 rfl) ?_
          refine va_get (pc := 466) (D := D) (ci := 12) (v := .ref (hm 30)) (C := RX10) (T := TX10) (N := 52) hx hb hts hcX10 hown hK hP 0 rfl rfl 30 (by decide) hw0 (fun _ h9 => h9) rfl (zdt_at zt_X10_compress_4 45 rfl) ?_
          refine lv_iload_n (pc := 469) hx hb (zdt_at zt_X10_compress_4 46 rfl) rfl (lv_at hl 1 rfl) ?_
          replace hf := zk_s hf
          refine va_iald (pc := 470) hx hb hK hP 2 1 rfl rfl hf.1 (zdt_at zt_X10_compress_4 47 rfl) ?_
          replace hf := hf.2
          refine lv_aload_n (pc := 471) hx hb (zdt_at zt_X10_compress_4 48 rfl) rfl (lv_at hl 0 rfl) ?_
          refine va_get (pc := 472) (D := D) (ci := 12) (v := .ref (hm 32)) (C := RX10) (T := TX10) (N := 52) hx hb hts hcX10 hown hK hP 0 rfl rfl 32 (by decide) hw1 (fun _ h9 => h9) rfl (zdt_at zt_X10_compress_4 49 rfl) ?_
          refine lv_iload_n (pc := 475) hx hb (zdt_at zt_X10_compress_4 50 rfl) rfl (lv_at hl 1 rfl) ?_
          replace hf := zk_s hf
          refine va_iald (pc := 476) hx hb hK hP 5 1 rfl rfl hf.1 (zdt_at zt_X10_compress_4 51 rfl) ?_
          replace hf := hf.2
          refine lv_iadd (pc := 477) hx hb (zdt_at zt_X10_compress_4 52 rfl) ?_
          replace hf := zk_s hf
          refine va_iast (pc := 478) hx hb hK hP hD hS 2 1 rfl rfl hf.1 (zdt_at zt_X10_compress_4 53 rfl) ?_
          replace hf := hf.2
          clear hP hD hS
          intro H locs hP hD hS
          obtain ⟨c_h_24, e_⟩ : ∃ q : Nat → Int32, q = (upd c_h_18 i_17.toNatClampNeg ((c_h_18 i_17.toNatClampNeg) + (c_x_15 i_17.toNatClampNeg))) := ⟨_, rfl⟩
          replace hf := zn_s hf e_
          replace hP : va_P D vwCl ([(h0, .inr (12, zmo hm c_thrown c_state c_test c_words c_ill c_before c_inRow c_first c_inWindow c_same c_made c_requests c_total c_secrets c_rounds c_high c_low c_keyHigh c_keyLow)), ((hm 0), .inl (cy 1, 64, .inl c_ROUND)), ((hm 30), .inl (cy 1, 8, .inl c_h_24)), ((hm 33), .inl (cy 1, 64, .inl c_message)), ((hm 31), .inl (cy 1, 64, .inl c_w_7)), ((hm 32), .inl (cy 1, 8, .inl c_x_15))]) H := by rw [e_]; exact hP
          replace hD : va_D A ([(h0, .inr (12, zmo hm c_thrown c_state c_test c_words c_ill c_before c_inRow c_first c_inWindow c_same c_made c_requests c_total c_secrets c_rounds c_high c_low c_keyHigh c_keyLow)), ((hm 0), .inl (cy 1, 64, .inl c_ROUND)), ((hm 30), .inl (cy 1, 8, .inl c_h_24)), ((hm 33), .inl (cy 1, 64, .inl c_message)), ((hm 31), .inl (cy 1, 64, .inl c_w_7)), ((hm 32), .inl (cy 1, 8, .inl c_x_15))]) := by rw [e_]; exact hD
          clear e_
          refine lv_iinc (pc := 479) (v := (i_17 + (1 : Int32))) (lv' := [(1, .int (i_17 + (1 : Int32))), (0, .ref h0)]) hx hb (zdt_at zt_X10_compress_4 54 rfl) hl (k := 1) rfl rfl (by decide) rfl ?_
          clear hl
          intro ls hl
          refine lv_goto (pc := 482) (tgt := 454) hx hb (zdt_at zt_X10_compress_4 55 rfl) (by decide) ?_
          exact hTo _ _ _ (ihself_21 _ hf H locs ls hP hD hS (lv_sub hl [1, 0] rfl))
        clear eK_16
        refine hTo _ _ _ (zl_go (fun z => match z with | (i_13, c_x_14) => ∀ (H : Heap) (locs : List Loc) (ls : Array Slot), va_P D vwCl ([(h0, .inr (12, zmo hm c_thrown c_state c_test c_words c_ill c_before c_inRow c_first c_inWindow c_same c_made c_requests c_total c_secrets c_rounds c_high c_low c_keyHigh c_keyLow)), ((hm 0), .inl (cy 1, 64, .inl c_ROUND)), ((hm 30), .inl (cy 1, 8, .inl c_h)), ((hm 33), .inl (cy 1, 64, .inl c_message)), ((hm 31), .inl (cy 1, 64, .inl c_w_7)), ((hm 32), .inl (cy 1, 8, .inl c_x_14))]) H → va_D A ([(h0, .inr (12, zmo hm c_thrown c_state c_test c_words c_ill c_before c_inRow c_first c_inWindow c_same c_made c_requests c_total c_secrets c_rounds c_high c_low c_keyHigh c_keyLow)), ((hm 0), .inl (cy 1, 64, .inl c_ROUND)), ((hm 30), .inl (cy 1, 8, .inl c_h)), ((hm 33), .inl (cy 1, 64, .inl c_message)), ((hm 31), .inl (cy 1, 64, .inl c_w_7)), ((hm 32), .inl (cy 1, 8, .inl c_x_14))]) → va_S A s.heap H locs → lv_has ls 5 [(0, .ref h0), (1, .int i_13)] → GW H locs (F0 m 220 ls [])) hf ?_ H locs ls hP hD hS (lv_sub hl [1, 0] rfl))
        clear hf hl hP hD hS
        intro self_25 ihself_25 z hf
        obtain ⟨i_13, c_x_14⟩ := z
        intro H locs ls hP hD hS hl
        refine hFr _ _ _ ?_
        unfold b_X10_compress_220 at hf
        refine lv_iload_n (pc := 220) hx hb (zdt_at zt_X10_compress_2 17 rfl) rfl (lv_at hl 1 rfl) ?_
        refine lv_bipush (pc := 221) (v := (64 : Int32)) hx hb (zdt_at zt_X10_compress_2 18 rfl) (by decide) ?_
        refine lv_icmp_ge (pc := 223) (tgt := 452) hx hb (zdt_at zt_X10_compress_2 19 rfl) (by decide) (fun cn_ => ?t_26) (fun cn_ => ?f_27)
        case t_26 =>
          replace hf := zt_s cn_ hf
          clear cn_
          exact hTo _ _ _ (kK_16 _ H locs ls hP hD hS (lv_sub hl [0] rfl) hf)
        replace hf := ze_s cn_ hf
        clear cn_
        refine lv_aload_n (pc := 226) hx hb (zdt_at zt_X10_compress_2 20 rfl) rfl (lv_at hl 0 rfl) ?_
        refine va_get (pc := 227) (D := D) (ci := 12) (v := .ref (hm 32)) (C := RX10) (T := TX10) (N := 52) hx hb hts hcX10 hown hK hP 0 rfl rfl 32 (by decide) hw1 (fun _ h9 => h9) rfl (zdt_at zt_X10_compress_2 21 rfl) ?_
        refine lv_bipush (pc := 230) (v := (7 : Int32)) hx hb (zdt_at zt_X10_compress_2 22 rfl) (by decide) ?_
        replace hf := zk_s hf
        refine va_iald (pc := 232) hx hb hK hP 5 1 rfl rfl hf.1 (zdt_at zt_X10_compress_2 23 rfl) ?_
        replace hf := hf.2
        refine lv_aload_n (pc := 233) hx hb (zdt_at zt_X10_compress_2 24 rfl) rfl (lv_at hl 0 rfl) ?_
        refine va_get (pc := 234) (D := D) (ci := 12) (v := .ref (hm 32)) (C := RX10) (T := TX10) (N := 52) hx hb hts hcX10 hown hK hP 0 rfl rfl 32 (by decide) hw1 (fun _ h9 => h9) rfl (zdt_at zt_X10_compress_2 25 rfl) ?_
        refine lv_iconst (pc := 237) (v := (4 : Int32)) hx hb (zdt_at zt_X10_compress_2 26 rfl) (by decide) ?_
        replace hf := zk_s hf
        refine va_iald (pc := 238) hx hb hK hP 5 1 rfl rfl hf.1 (zdt_at zt_X10_compress_2 27 rfl) ?_
        replace hf := hf.2
        refine lv_bipush (pc := 239) (v := (6 : Int32)) hx hb (zdt_at zt_X10_compress_2 28 rfl) (by decide) ?_
        replace hf := zb_s hf
        obtain ⟨r_28, hc_, hf⟩ := hf
        refine zcs (pc := 241) (rv := (some (.int r_28))) (va_runS (As := [.int (c_x_14 (4 : Int32).toNatClampNeg), .int (6 : Int32)]) (rest := [.int (c_x_14 (7 : Int32).toNatClampNeg)]) ⟨hx, hb, hml, hown, hts⟩ (c_X10_turn l D cy tt H.size (c_x_14 (4 : Int32).toNatClampNeg) (6 : Int32) r_28 hc_) (va_cwS 2 hts gX10_compress_X10_turn rfl rfl rfl (by decide +kernel) ⟨Nat.le_of_ble_eq_true rfl, Nat.le_of_ble_eq_true rfl⟩) ⟨zblind, zpre hE hS (hP.sub [] rfl) (hD.sub [] (by decide) rfl) (va_free hD hS hA [] rfl)⟩ rfl rfl hl.1 rfl (lv_room (Nat.le_of_ble_eq_true rfl)) (zdt_at zt_X10_compress_2 29 rfl) ⟨Nat.zero_le _, Nat.zero_le _⟩) ?_
        clear hc_
        refine W.eq (g2 := F0 m 244 ls [.int r_28, .int (c_x_14 (7 : Int32).toNatClampNeg)]) rfl ?_
        refine lv_aload_n (pc := 244) hx hb (zdt_at zt_X10_compress_2 30 rfl) rfl (lv_at hl 0 rfl) ?_
        refine va_get (pc := 245) (D := D) (ci := 12) (v := .ref (hm 32)) (C := RX10) (T := TX10) (N := 52) hx hb hts hcX10 hown hK hP 0 rfl rfl 32 (by decide) hw1 (fun _ h9 => h9) rfl (zdt_at zt_X10_compress_2 31 rfl) ?_
        refine lv_iconst (pc := 248) (v := (4 : Int32)) hx hb (zdt_at zt_X10_compress_2 32 rfl) (by decide) ?_
        replace hf := zk_s hf
        refine va_iald (pc := 249) hx hb hK hP 5 1 rfl rfl hf.1 (zdt_at zt_X10_compress_2 33 rfl) ?_
        replace hf := hf.2
        refine lv_bipush (pc := 250) (v := (11 : Int32)) hx hb (zdt_at zt_X10_compress_2 34 rfl) (by decide) ?_
        replace hf := zb_s hf
        obtain ⟨r_29, hc_, hf⟩ := hf
        refine zcs (pc := 252) (rv := (some (.int r_29))) (va_runS (As := [.int (c_x_14 (4 : Int32).toNatClampNeg), .int (11 : Int32)]) (rest := [.int r_28, .int (c_x_14 (7 : Int32).toNatClampNeg)]) ⟨hx, hb, hml, hown, hts⟩ (c_X10_turn l D cy tt H.size (c_x_14 (4 : Int32).toNatClampNeg) (11 : Int32) r_29 hc_) (va_cwS 2 hts gX10_compress_X10_turn rfl rfl rfl (by decide +kernel) ⟨Nat.le_of_ble_eq_true rfl, Nat.le_of_ble_eq_true rfl⟩) ⟨zblind, zpre hE hS (hP.sub [] rfl) (hD.sub [] (by decide) rfl) (va_free hD hS hA [] rfl)⟩ rfl rfl hl.1 rfl (lv_room (Nat.le_of_ble_eq_true rfl)) (zdt_at zt_X10_compress_2 35 rfl) ⟨Nat.zero_le _, Nat.zero_le _⟩) ?_
        clear hc_
        refine W.eq (g2 := F0 m 255 ls [.int r_29, .int r_28, .int (c_x_14 (7 : Int32).toNatClampNeg)]) rfl ?_
        refine lv_ixor (pc := 255) hx hb (zdt_at zt_X10_compress_2 36 rfl) ?_
        refine lv_aload_n (pc := 256) hx hb (zdt_at zt_X10_compress_2 37 rfl) rfl (lv_at hl 0 rfl) ?_
        refine va_get (pc := 257) (D := D) (ci := 12) (v := .ref (hm 32)) (C := RX10) (T := TX10) (N := 52) hx hb hts hcX10 hown hK hP 0 rfl rfl 32 (by decide) hw1 (fun _ h9 => h9) rfl (zdt_at zt_X10_compress_2 38 rfl) ?_
        refine lv_iconst (pc := 260) (v := (4 : Int32)) hx hb (zdt_at zt_X10_compress_2 39 rfl) (by decide) ?_
        replace hf := zk_s hf
        refine va_iald (pc := 261) hx hb hK hP 5 1 rfl rfl hf.1 (zdt_at zt_X10_compress_2 40 rfl) ?_
        replace hf := hf.2
        refine lv_bipush (pc := 262) (v := (25 : Int32)) hx hb (zdt_at zt_X10_compress_2 41 rfl) (by decide) ?_
        replace hf := zb_s hf
        obtain ⟨r_30, hc_, hf⟩ := hf
        refine zcs (pc := 264) (rv := (some (.int r_30))) (va_runS (As := [.int (c_x_14 (4 : Int32).toNatClampNeg), .int (25 : Int32)]) (rest := [.int (r_28 ^^^ r_29), .int (c_x_14 (7 : Int32).toNatClampNeg)]) ⟨hx, hb, hml, hown, hts⟩ (c_X10_turn l D cy tt H.size (c_x_14 (4 : Int32).toNatClampNeg) (25 : Int32) r_30 hc_) (va_cwS 2 hts gX10_compress_X10_turn rfl rfl rfl (by decide +kernel) ⟨Nat.le_of_ble_eq_true rfl, Nat.le_of_ble_eq_true rfl⟩) ⟨zblind, zpre hE hS (hP.sub [] rfl) (hD.sub [] (by decide) rfl) (va_free hD hS hA [] rfl)⟩ rfl rfl hl.1 rfl (lv_room (Nat.le_of_ble_eq_true rfl)) (zdt_at zt_X10_compress_2 42 rfl) ⟨Nat.zero_le _, Nat.zero_le _⟩) ?_
        clear hc_
        refine W.eq (g2 := F0 m 267 ls [.int r_30, .int (r_28 ^^^ r_29), .int (c_x_14 (7 : Int32).toNatClampNeg)]) rfl ?_
        refine lv_ixor (pc := 267) hx hb (zdt_at zt_X10_compress_2 43 rfl) ?_
        refine lv_iadd (pc := 268) hx hb (zdt_at zt_X10_compress_2 44 rfl) ?_
        refine lv_aload_n (pc := 269) hx hb (zdt_at zt_X10_compress_2 45 rfl) rfl (lv_at hl 0 rfl) ?_
        refine va_get (pc := 270) (D := D) (ci := 12) (v := .ref (hm 32)) (C := RX10) (T := TX10) (N := 52) hx hb hts hcX10 hown hK hP 0 rfl rfl 32 (by decide) hw1 (fun _ h9 => h9) rfl (zdt_at zt_X10_compress_2 46 rfl) ?_
        refine lv_iconst (pc := 273) (v := (4 : Int32)) hx hb (zdt_at zt_X10_compress_2 47 rfl) (by decide) ?_
        replace hf := zk_s hf
        refine va_iald (pc := 274) hx hb hK hP 5 1 rfl rfl hf.1 (zdt_at zt_X10_compress_2 48 rfl) ?_
        replace hf := hf.2
        refine lv_aload_n (pc := 275) hx hb (zdt_at zt_X10_compress_2 49 rfl) rfl (lv_at hl 0 rfl) ?_
        refine va_get (pc := 276) (D := D) (ci := 12) (v := .ref (hm 32)) (C := RX10) (T := TX10) (N := 52) hx hb hts hcX10 hown hK hP 0 rfl rfl 32 (by decide) hw1 (fun _ h9 => h9) rfl (zdt_at zt_X10_compress_2 50 rfl) ?_
        refine lv_iconst (pc := 279) (v := (5 : Int32)) hx hb (zdt_at zt_X10_compress_2 51 rfl) (by decide) ?_
        replace hf := zk_s hf
        refine va_iald (pc := 280) hx hb hK hP 5 1 rfl rfl hf.1 (zdt_at zt_X10_compress_2 52 rfl) ?_
        replace hf := hf.2
        refine lv_iand (pc := 281) hx hb (zdt_at zt_X10_compress_2 53 rfl) ?_
        refine lv_aload_n (pc := 282) hx hb (zdt_at zt_X10_compress_2 54 rfl) rfl (lv_at hl 0 rfl) ?_
        refine va_get (pc := 283) (D := D) (ci := 12) (v := .ref (hm 32)) (C := RX10) (T := TX10) (N := 52) hx hb hts hcX10 hown hK hP 0 rfl rfl 32 (by decide) hw1 (fun _ h9 => h9) rfl (zdt_at zt_X10_compress_2 55 rfl) ?_
        refine lv_iconst (pc := 286) (v := (4 : Int32)) hx hb (zdt_at zt_X10_compress_2 56 rfl) (by decide) ?_
        replace hf := zk_s hf
        refine va_iald (pc := 287) hx hb hK hP 5 1 rfl rfl hf.1 (zdt_at zt_X10_compress_2 57 rfl) ?_
        replace hf := hf.2
        refine lv_iconst (pc := 288) (v := (-1 : Int32)) hx hb (zdt_at zt_X10_compress_2 58 rfl) (by decide) ?_
        refine lv_ixor (pc := 289) hx hb (zdt_at zt_X10_compress_2 59 rfl) ?_
        refine lv_aload_n (pc := 290) hx hb (zdt_at zt_X10_compress_2 60 rfl) rfl (lv_at hl 0 rfl) ?_
        refine va_get (pc := 291) (D := D) (ci := 12) (v := .ref (hm 32)) (C := RX10) (T := TX10) (N := 52) hx hb hts hcX10 hown hK hP 0 rfl rfl 32 (by decide) hw1 (fun _ h9 => h9) rfl (zdt_at zt_X10_compress_2 61 rfl) ?_
        refine lv_bipush (pc := 294) (v := (6 : Int32)) hx hb (zdt_at zt_X10_compress_2 62 rfl) (by decide) ?_
        replace hf := zk_s hf
        refine va_iald (pc := 296) hx hb hK hP 5 1 rfl rfl hf.1 (zdt_at zt_X10_compress_2 63 rfl) ?_
        replace hf := hf.2
        refine lv_iand (pc := 297) hx hb (zdt_at zt_X10_compress_3 0 rfl) ?_
        refine lv_ixor (pc := 298) hx hb (zdt_at zt_X10_compress_3 1 rfl) ?_
        refine lv_iadd (pc := 299) hx hb (zdt_at zt_X10_compress_3 2 rfl) ?_
        refine lv_aload_n (pc := 300) hx hb (zdt_at zt_X10_compress_3 3 rfl) rfl (lv_at hl 0 rfl) ?_
        refine va_get (pc := 301) (D := D) (ci := 12) (v := .ref (hm 0)) (C := RX10) (T := TX10) (N := 52) hx hb hts hcX10 hown hK hP 0 rfl rfl 0 (by decide) hw2 (fun _ h9 => h9) rfl (zdt_at zt_X10_compress_3 4 rfl) ?_
        refine lv_iload_n (pc := 304) hx hb (zdt_at zt_X10_compress_3 5 rfl) rfl (lv_at hl 1 rfl) ?_
        replace hf := zk_s hf
        refine va_iald (pc := 305) hx hb hK hP 1 1 rfl rfl hf.1 (zdt_at zt_X10_compress_3 6 rfl) ?_
        replace hf := hf.2
        refine lv_iadd (pc := 306) hx hb (zdt_at zt_X10_compress_3 7 rfl) ?_
        refine lv_aload_n (pc := 307) hx hb (zdt_at zt_X10_compress_3 8 rfl) rfl (lv_at hl 0 rfl) ?_
        refine va_get (pc := 308) (D := D) (ci := 12) (v := .ref (hm 31)) (C := RX10) (T := TX10) (N := 52) hx hb hts hcX10 hown hK hP 0 rfl rfl 31 (by decide) hw3 (fun _ h9 => h9) rfl (zdt_at zt_X10_compress_3 9 rfl) ?_
        refine lv_iload_n (pc := 311) hx hb (zdt_at zt_X10_compress_3 10 rfl) rfl (lv_at hl 1 rfl) ?_
        replace hf := zk_s hf
        refine va_iald (pc := 312) hx hb hK hP 4 1 rfl rfl hf.1 (zdt_at zt_X10_compress_3 11 rfl) ?_
        replace hf := hf.2
        refine lv_iadd (pc := 313) hx hb (zdt_at zt_X10_compress_3 12 rfl) ?_
        refine lv_topi (fun x_31 e_ => ?_)
        replace hf := zn_s hf e_
        clear e_
        refine lv_istore_n (pc := 314) (lv' := [(2, .int x_31), (0, .ref h0), (1, .int i_13)]) hx hb (zdt_at zt_X10_compress_3 13 rfl) rfl hl (by decide) rfl ?_
        clear hl
        intro ls hl
        refine lv_aload_n (pc := 315) hx hb (zdt_at zt_X10_compress_3 14 rfl) rfl (lv_at hl 1 rfl) ?_
        refine va_get (pc := 316) (D := D) (ci := 12) (v := .ref (hm 32)) (C := RX10) (T := TX10) (N := 52) hx hb hts hcX10 hown hK hP 0 rfl rfl 32 (by decide) hw1 (fun _ h9 => h9) rfl (zdt_at zt_X10_compress_3 15 rfl) ?_
        refine lv_iconst (pc := 319) (v := (0 : Int32)) hx hb (zdt_at zt_X10_compress_3 16 rfl) (by decide) ?_
        replace hf := zk_s hf
        refine va_iald (pc := 320) hx hb hK hP 5 1 rfl rfl hf.1 (zdt_at zt_X10_compress_3 17 rfl) ?_
        replace hf := hf.2
        refine lv_iconst (pc := 321) (v := (2 : Int32)) hx hb (zdt_at zt_X10_compress_3 18 rfl) (by decide) ?_
        replace hf := zb_s hf
        obtain ⟨r_32, hc_, hf⟩ := hf
        refine zcs (pc := 322) (rv := (some (.int r_32))) (va_runS (As := [.int (c_x_14 (0 : Int32).toNatClampNeg), .int (2 : Int32)]) (rest := []) ⟨hx, hb, hml, hown, hts⟩ (c_X10_turn l D cy tt H.size (c_x_14 (0 : Int32).toNatClampNeg) (2 : Int32) r_32 hc_) (va_cwS 2 hts gX10_compress_X10_turn rfl rfl rfl (by decide +kernel) ⟨Nat.le_of_ble_eq_true rfl, Nat.le_of_ble_eq_true rfl⟩) ⟨zblind, zpre hE hS (hP.sub [] rfl) (hD.sub [] (by decide) rfl) (va_free hD hS hA [] rfl)⟩ rfl rfl hl.1 rfl (lv_room (Nat.le_of_ble_eq_true rfl)) (zdt_at zt_X10_compress_3 19 rfl) ⟨Nat.zero_le _, Nat.zero_le _⟩) ?_
        clear hc_
        refine W.eq (g2 := F0 m 325 ls [.int r_32]) rfl ?_
        refine lv_aload_n (pc := 325) hx hb (zdt_at zt_X10_compress_3 20 rfl) rfl (lv_at hl 1 rfl) ?_
        refine va_get (pc := 326) (D := D) (ci := 12) (v := .ref (hm 32)) (C := RX10) (T := TX10) (N := 52) hx hb hts hcX10 hown hK hP 0 rfl rfl 32 (by decide) hw1 (fun _ h9 => h9) rfl (zdt_at zt_X10_compress_3 21 rfl) ?_
        refine lv_iconst (pc := 329) (v := (0 : Int32)) hx hb (zdt_at zt_X10_compress_3 22 rfl) (by decide) ?_
        replace hf := zk_s hf
        refine va_iald (pc := 330) hx hb hK hP 5 1 rfl rfl hf.1 (zdt_at zt_X10_compress_3 23 rfl) ?_
        replace hf := hf.2
        refine lv_bipush (pc := 331) (v := (13 : Int32)) hx hb (zdt_at zt_X10_compress_3 24 rfl) (by decide) ?_
        replace hf := zb_s hf
        obtain ⟨r_33, hc_, hf⟩ := hf
        refine zcs (pc := 333) (rv := (some (.int r_33))) (va_runS (As := [.int (c_x_14 (0 : Int32).toNatClampNeg), .int (13 : Int32)]) (rest := [.int r_32]) ⟨hx, hb, hml, hown, hts⟩ (c_X10_turn l D cy tt H.size (c_x_14 (0 : Int32).toNatClampNeg) (13 : Int32) r_33 hc_) (va_cwS 2 hts gX10_compress_X10_turn rfl rfl rfl (by decide +kernel) ⟨Nat.le_of_ble_eq_true rfl, Nat.le_of_ble_eq_true rfl⟩) ⟨zblind, zpre hE hS (hP.sub [] rfl) (hD.sub [] (by decide) rfl) (va_free hD hS hA [] rfl)⟩ rfl rfl hl.1 rfl (lv_room (Nat.le_of_ble_eq_true rfl)) (zdt_at zt_X10_compress_3 25 rfl) ⟨Nat.zero_le _, Nat.zero_le _⟩) ?_
        clear hc_
        refine W.eq (g2 := F0 m 336 ls [.int r_33, .int r_32]) rfl ?_
        refine lv_ixor (pc := 336) hx hb (zdt_at zt_X10_compress_3 26 rfl) ?_
        refine lv_aload_n (pc := 337) hx hb (zdt_at zt_X10_compress_3 27 rfl) rfl (lv_at hl 1 rfl) ?_
        refine va_get (pc := 338) (D := D) (ci := 12) (v := .ref (hm 32)) (C := RX10) (T := TX10) (N := 52) hx hb hts hcX10 hown hK hP 0 rfl rfl 32 (by decide) hw1 (fun _ h9 => h9) rfl (zdt_at zt_X10_compress_3 28 rfl) ?_
        refine lv_iconst (pc := 341) (v := (0 : Int32)) hx hb (zdt_at zt_X10_compress_3 29 rfl) (by decide) ?_
        replace hf := zk_s hf
        refine va_iald (pc := 342) hx hb hK hP 5 1 rfl rfl hf.1 (zdt_at zt_X10_compress_3 30 rfl) ?_
        replace hf := hf.2
        refine lv_bipush (pc := 343) (v := (22 : Int32)) hx hb (zdt_at zt_X10_compress_3 31 rfl) (by decide) ?_
        replace hf := zb_s hf
        obtain ⟨r_34, hc_, hf⟩ := hf
        refine zcs (pc := 345) (rv := (some (.int r_34))) (va_runS (As := [.int (c_x_14 (0 : Int32).toNatClampNeg), .int (22 : Int32)]) (rest := [.int (r_32 ^^^ r_33)]) ⟨hx, hb, hml, hown, hts⟩ (c_X10_turn l D cy tt H.size (c_x_14 (0 : Int32).toNatClampNeg) (22 : Int32) r_34 hc_) (va_cwS 2 hts gX10_compress_X10_turn rfl rfl rfl (by decide +kernel) ⟨Nat.le_of_ble_eq_true rfl, Nat.le_of_ble_eq_true rfl⟩) ⟨zblind, zpre hE hS (hP.sub [] rfl) (hD.sub [] (by decide) rfl) (va_free hD hS hA [] rfl)⟩ rfl rfl hl.1 rfl (lv_room (Nat.le_of_ble_eq_true rfl)) (zdt_at zt_X10_compress_3 32 rfl) ⟨Nat.zero_le _, Nat.zero_le _⟩) ?_
        clear hc_
        refine W.eq (g2 := F0 m 348 ls [.int r_34, .int (r_32 ^^^ r_33)]) rfl ?_
        refine lv_ixor (pc := 348) hx hb (zdt_at zt_X10_compress_3 33 rfl) ?_
        refine lv_aload_n (pc := 349) hx hb (zdt_at zt_X10_compress_3 34 rfl) rfl (lv_at hl 1 rfl) ?_
        refine va_get (pc := 350) (D := D) (ci := 12) (v := .ref (hm 32)) (C := RX10) (T := TX10) (N := 52) hx hb hts hcX10 hown hK hP 0 rfl rfl 32 (by decide) hw1 (fun _ h9 => h9) rfl (zdt_at zt_X10_compress_3 35 rfl) ?_
        refine lv_iconst (pc := 353) (v := (0 : Int32)) hx hb (zdt_at zt_X10_compress_3 36 rfl) (by decide) ?_
        replace hf := zk_s hf
        refine va_iald (pc := 354) hx hb hK hP 5 1 rfl rfl hf.1 (zdt_at zt_X10_compress_3 37 rfl) ?_
        replace hf := hf.2
        refine lv_aload_n (pc := 355) hx hb (zdt_at zt_X10_compress_3 38 rfl) rfl (lv_at hl 1 rfl) ?_
        refine va_get (pc := 356) (D := D) (ci := 12) (v := .ref (hm 32)) (C := RX10) (T := TX10) (N := 52) hx hb hts hcX10 hown hK hP 0 rfl rfl 32 (by decide) hw1 (fun _ h9 => h9) rfl (zdt_at zt_X10_compress_3 39 rfl) ?_
        refine lv_iconst (pc := 359) (v := (1 : Int32)) hx hb (zdt_at zt_X10_compress_3 40 rfl) (by decide) ?_
        replace hf := zk_s hf
        refine va_iald (pc := 360) hx hb hK hP 5 1 rfl rfl hf.1 (zdt_at zt_X10_compress_3 41 rfl) ?_
        replace hf := hf.2
        refine lv_iand (pc := 361) hx hb (zdt_at zt_X10_compress_3 42 rfl) ?_
        refine lv_aload_n (pc := 362) hx hb (zdt_at zt_X10_compress_3 43 rfl) rfl (lv_at hl 1 rfl) ?_
        refine va_get (pc := 363) (D := D) (ci := 12) (v := .ref (hm 32)) (C := RX10) (T := TX10) (N := 52) hx hb hts hcX10 hown hK hP 0 rfl rfl 32 (by decide) hw1 (fun _ h9 => h9) rfl (zdt_at zt_X10_compress_3 44 rfl) ?_
        refine lv_iconst (pc := 366) (v := (0 : Int32)) hx hb (zdt_at zt_X10_compress_3 45 rfl) (by decide) ?_
        replace hf := zk_s hf
        refine va_iald (pc := 367) hx hb hK hP 5 1 rfl rfl hf.1 (zdt_at zt_X10_compress_3 46 rfl) ?_
        replace hf := hf.2
        refine lv_aload_n (pc := 368) hx hb (zdt_at zt_X10_compress_3 47 rfl) rfl (lv_at hl 1 rfl) ?_
        refine va_get (pc := 369) (D := D) (ci := 12) (v := .ref (hm 32)) (C := RX10) (T := TX10) (N := 52) hx hb hts hcX10 hown hK hP 0 rfl rfl 32 (by decide) hw1 (fun _ h9 => h9) rfl (zdt_at zt_X10_compress_3 48 rfl) ?_
        refine lv_iconst (pc := 372) (v := (2 : Int32)) hx hb (zdt_at zt_X10_compress_3 49 rfl) (by decide) ?_
        replace hf := zk_s hf
        refine va_iald (pc := 373) hx hb hK hP 5 1 rfl rfl hf.1 (zdt_at zt_X10_compress_3 50 rfl) ?_
        replace hf := hf.2
        refine lv_iand (pc := 374) hx hb (zdt_at zt_X10_compress_3 51 rfl) ?_
        refine lv_ixor (pc := 375) hx hb (zdt_at zt_X10_compress_3 52 rfl) ?_
        refine lv_aload_n (pc := 376) hx hb (zdt_at zt_X10_compress_3 53 rfl) rfl (lv_at hl 1 rfl) ?_
        refine va_get (pc := 377) (D := D) (ci := 12) (v := .ref (hm 32)) (C := RX10) (T := TX10) (N := 52) hx hb hts hcX10 hown hK hP 0 rfl rfl 32 (by decide) hw1 (fun _ h9 => h9) rfl (zdt_at zt_X10_compress_3 54 rfl) ?_
        refine lv_iconst (pc := 380) (v := (1 : Int32)) hx hb (zdt_at zt_X10_compress_3 55 rfl) (by decide) ?_
        replace hf := zk_s hf
        refine va_iald (pc := 381) hx hb hK hP 5 1 rfl rfl hf.1 (zdt_at zt_X10_compress_3 56 rfl) ?_
        replace hf := hf.2
        refine lv_aload_n (pc := 382) hx hb (zdt_at zt_X10_compress_3 57 rfl) rfl (lv_at hl 1 rfl) ?_
        refine va_get (pc := 383) (D := D) (ci := 12) (v := .ref (hm 32)) (C := RX10) (T := TX10) (N := 52) hx hb hts hcX10 hown hK hP 0 rfl rfl 32 (by decide) hw1 (fun _ h9 => h9) rfl (zdt_at zt_X10_compress_3 58 rfl) ?_
        refine lv_iconst (pc := 386) (v := (2 : Int32)) hx hb (zdt_at zt_X10_compress_3 59 rfl) (by decide) ?_
        replace hf := zk_s hf
        refine va_iald (pc := 387) hx hb hK hP 5 1 rfl rfl hf.1 (zdt_at zt_X10_compress_3 60 rfl) ?_
        replace hf := hf.2
        refine lv_iand (pc := 388) hx hb (zdt_at zt_X10_compress_3 61 rfl) ?_
        refine lv_ixor (pc := 389) hx hb (zdt_at zt_X10_compress_3 62 rfl) ?_
        refine lv_iadd (pc := 390) hx hb (zdt_at zt_X10_compress_3 63 rfl) ?_
        refine lv_topi (fun x_35 e_ => ?_)
        replace hf := zn_s hf e_
        clear e_
        refine lv_istore_n (pc := 391) (lv' := [(3, .int x_35), (2, .int x_31), (0, .ref h0), (1, .int i_13)]) hx hb (zdt_at zt_X10_compress_4 0 rfl) rfl hl (by decide) rfl ?_
        clear hl
        intro ls hl
        refine lv_bipush (pc := 392) (v := (7 : Int32)) hx hb (zdt_at zt_X10_compress_4 1 rfl) (by decide) ?_
        refine lv_istore (pc := 394) (lv' := [(4, .int (7 : Int32)), (3, .int x_35), (2, .int x_31), (0, .ref h0), (1, .int i_13)]) hx hb (zdt_at zt_X10_compress_4 2 rfl) hl (by decide) rfl ?_
        clear hl
        intro ls hl
        replace hf := zj_s hf
        obtain ⟨K_39, eK_39, hf⟩ := hf
        have kK_39 : ∀ (c_x_38 : Nat → Int32) (H : Heap) (locs : List Loc) (ls : Array Slot), va_P D vwCl ([(h0, .inr (12, zmo hm c_thrown c_state c_test c_words c_ill c_before c_inRow c_first c_inWindow c_same c_made c_requests c_total c_secrets c_rounds c_high c_low c_keyHigh c_keyLow)), ((hm 0), .inl (cy 1, 64, .inl c_ROUND)), ((hm 30), .inl (cy 1, 8, .inl c_h)), ((hm 33), .inl (cy 1, 64, .inl c_message)), ((hm 31), .inl (cy 1, 64, .inl c_w_7)), ((hm 32), .inl (cy 1, 8, .inl c_x_38))]) H → va_D A ([(h0, .inr (12, zmo hm c_thrown c_state c_test c_words c_ill c_before c_inRow c_first c_inWindow c_same c_made c_requests c_total c_secrets c_rounds c_high c_low c_keyHigh c_keyLow)), ((hm 0), .inl (cy 1, 64, .inl c_ROUND)), ((hm 30), .inl (cy 1, 8, .inl c_h)), ((hm 33), .inl (cy 1, 64, .inl c_message)), ((hm 31), .inl (cy 1, 64, .inl c_w_7)), ((hm 32), .inl (cy 1, 8, .inl c_x_38))]) → va_S A s.heap H locs → lv_has ls 5 [(0, .ref h0), (1, .int i_13), (2, .int x_31), (3, .int x_35)] → K_39 c_x_38 = some (c_h', c_w', c_x') → GW H locs (F0 m 423 ls []) := by
          clear hf hl hP hD hS
          intro c_x_38 H locs ls hP hD hS hl hf
          rw [eK_39] at hf
          clear eK_39
          refine hFr _ _ _ ?_
          refine lv_aload_n (pc := 423) hx hb (zdt_at zt_X10_compress_4 17 rfl) rfl (lv_at hl 0 rfl) ?_
          refine va_get (pc := 424) (D := D) (ci := 12) (v := .ref (hm 32)) (C := RX10) (T := TX10) (N := 52) hx hb hts hcX10 hown hK hP 0 rfl rfl 32 (by decide) hw1 (fun _ h9 => h9) rfl (zdt_at zt_X10_compress_4 18 rfl) ?_
          refine lv_iconst (pc := 427) (v := (4 : Int32)) hx hb (zdt_at zt_X10_compress_4 19 rfl) (by decide) ?_
          refine lv_aload_n (pc := 428) hx hb (zdt_at zt_X10_compress_4 20 rfl) rfl (lv_at hl 0 rfl) ?_
          refine va_get (pc := 429) (D := D) (ci := 12) (v := .ref (hm 32)) (C := RX10) (T := TX10) (N := 52) hx hb hts hcX10 hown hK hP 0 rfl rfl 32 (by decide) hw1 (fun _ h9 => h9) rfl (zdt_at zt_X10_compress_4 21 rfl) ?_
          refine lv_iconst (pc := 432) (v := (4 : Int32)) hx hb (zdt_at zt_X10_compress_4 22 rfl) (by decide) ?_
          replace hf := zk_s hf
          refine va_iald (pc := 433) hx hb hK hP 5 1 rfl rfl hf.1 (zdt_at zt_X10_compress_4 23 rfl) ?_
          replace hf := hf.2
          refine lv_iload_n (pc := 434) hx hb (zdt_at zt_X10_compress_4 24 rfl) rfl (lv_at hl 2 rfl) ?_
          refine lv_iadd (pc := 435) hx hb (zdt_at zt_X10_compress_4 25 rfl) ?_
          replace hf := zk_s hf
          refine va_iast (pc := 436) hx hb hK hP hD hS 5 1 rfl rfl hf.1 (zdt_at zt_X10_compress_4 26 rfl) ?_
          replace hf := hf.2
          clear hP hD hS
          intro H locs hP hD hS
          obtain ⟨c_x_40, e_⟩ : ∃ q : Nat → Int32, q = (upd c_x_38 (4 : Int32).toNatClampNeg ((c_x_38 (4 : Int32).toNatClampNeg) + x_31)) := ⟨_, rfl⟩
          replace hf := zn_s hf e_
          replace hP : va_P D vwCl ([(h0, .inr (12, zmo hm c_thrown c_state c_test c_words c_ill c_before c_inRow c_first c_inWindow c_same c_made c_requests c_total c_secrets c_rounds c_high c_low c_keyHigh c_keyLow)), ((hm 0), .inl (cy 1, 64, .inl c_ROUND)), ((hm 30), .inl (cy 1, 8, .inl c_h)), ((hm 33), .inl (cy 1, 64, .inl c_message)), ((hm 31), .inl (cy 1, 64, .inl c_w_7)), ((hm 32), .inl (cy 1, 8, .inl c_x_40))]) H := by rw [e_]; exact hP
          replace hD : va_D A ([(h0, .inr (12, zmo hm c_thrown c_state c_test c_words c_ill c_before c_inRow c_first c_inWindow c_same c_made c_requests c_total c_secrets c_rounds c_high c_low c_keyHigh c_keyLow)), ((hm 0), .inl (cy 1, 64, .inl c_ROUND)), ((hm 30), .inl (cy 1, 8, .inl c_h)), ((hm 33), .inl (cy 1, 64, .inl c_message)), ((hm 31), .inl (cy 1, 64, .inl c_w_7)), ((hm 32), .inl (cy 1, 8, .inl c_x_40))]) := by rw [e_]; exact hD
          clear e_
          refine lv_aload_n (pc := 437) hx hb (zdt_at zt_X10_compress_4 27 rfl) rfl (lv_at hl 0 rfl) ?_
          refine va_get (pc := 438) (D := D) (ci := 12) (v := .ref (hm 32)) (C := RX10) (T := TX10) (N := 52) hx hb hts hcX10 hown hK hP 0 rfl rfl 32 (by decide) hw1 (fun _ h9 => h9) rfl (zdt_at zt_X10_compress_4 28 rfl) ?_
          refine lv_iconst (pc := 441) (v := (0 : Int32)) hx hb (zdt_at zt_X10_compress_4 29 rfl) (by decide) ?_
          refine lv_iload_n (pc := 442) hx hb (zdt_at zt_X10_compress_4 30 rfl) rfl (lv_at hl 2 rfl) ?_
          refine lv_iload_n (pc := 443) hx hb (zdt_at zt_X10_compress_4 31 rfl) rfl (lv_at hl 3 rfl) ?_
          refine lv_iadd (pc := 444) hx hb (zdt_at zt_X10_compress_4 32 rfl) ?_
          replace hf := zk_s hf
          refine va_iast (pc := 445) hx hb hK hP hD hS 5 1 rfl rfl hf.1 (zdt_at zt_X10_compress_4 33 rfl) ?_
          replace hf := hf.2
          clear hP hD hS
          intro H locs hP hD hS
          obtain ⟨c_x_41, e_⟩ : ∃ q : Nat → Int32, q = (upd c_x_40 (0 : Int32).toNatClampNeg (x_31 + x_35)) := ⟨_, rfl⟩
          replace hf := zn_s hf e_
          replace hP : va_P D vwCl ([(h0, .inr (12, zmo hm c_thrown c_state c_test c_words c_ill c_before c_inRow c_first c_inWindow c_same c_made c_requests c_total c_secrets c_rounds c_high c_low c_keyHigh c_keyLow)), ((hm 0), .inl (cy 1, 64, .inl c_ROUND)), ((hm 30), .inl (cy 1, 8, .inl c_h)), ((hm 33), .inl (cy 1, 64, .inl c_message)), ((hm 31), .inl (cy 1, 64, .inl c_w_7)), ((hm 32), .inl (cy 1, 8, .inl c_x_41))]) H := by rw [e_]; exact hP
          replace hD : va_D A ([(h0, .inr (12, zmo hm c_thrown c_state c_test c_words c_ill c_before c_inRow c_first c_inWindow c_same c_made c_requests c_total c_secrets c_rounds c_high c_low c_keyHigh c_keyLow)), ((hm 0), .inl (cy 1, 64, .inl c_ROUND)), ((hm 30), .inl (cy 1, 8, .inl c_h)), ((hm 33), .inl (cy 1, 64, .inl c_message)), ((hm 31), .inl (cy 1, 64, .inl c_w_7)), ((hm 32), .inl (cy 1, 8, .inl c_x_41))]) := by rw [e_]; exact hD
          clear e_
          refine lv_iinc (pc := 446) (v := (i_13 + (1 : Int32))) (lv' := [(1, .int (i_13 + (1 : Int32))), (0, .ref h0), (2, .int x_31), (3, .int x_35)]) hx hb (zdt_at zt_X10_compress_4 34 rfl) hl (k := 1) rfl rfl (by decide) rfl ?_
          clear hl
          intro ls hl
          refine lv_goto (pc := 449) (tgt := 220) hx hb (zdt_at zt_X10_compress_4 35 rfl) (by decide) ?_
          exact hTo _ _ _ (ihself_25 _ hf H locs ls hP hD hS (lv_sub hl [1, 0] rfl))
        clear eK_39
        refine hTo _ _ _ (zl_go (fun z => match z with | (i_36, c_x_37) => ∀ (H : Heap) (locs : List Loc) (ls : Array Slot), va_P D vwCl ([(h0, .inr (12, zmo hm c_thrown c_state c_test c_words c_ill c_before c_inRow c_first c_inWindow c_same c_made c_requests c_total c_secrets c_rounds c_high c_low c_keyHigh c_keyLow)), ((hm 0), .inl (cy 1, 64, .inl c_ROUND)), ((hm 30), .inl (cy 1, 8, .inl c_h)), ((hm 33), .inl (cy 1, 64, .inl c_message)), ((hm 31), .inl (cy 1, 64, .inl c_w_7)), ((hm 32), .inl (cy 1, 8, .inl c_x_37))]) H → va_D A ([(h0, .inr (12, zmo hm c_thrown c_state c_test c_words c_ill c_before c_inRow c_first c_inWindow c_same c_made c_requests c_total c_secrets c_rounds c_high c_low c_keyHigh c_keyLow)), ((hm 0), .inl (cy 1, 64, .inl c_ROUND)), ((hm 30), .inl (cy 1, 8, .inl c_h)), ((hm 33), .inl (cy 1, 64, .inl c_message)), ((hm 31), .inl (cy 1, 64, .inl c_w_7)), ((hm 32), .inl (cy 1, 8, .inl c_x_37))]) → va_S A s.heap H locs → lv_has ls 5 [(0, .ref h0), (1, .int i_13), (2, .int x_31), (3, .int x_35), (4, .int i_36)] → GW H locs (F0 m 396 ls [])) hf ?_ H locs ls hP hD hS (lv_sub hl [3, 4, 2, 1, 0] rfl))
        clear hf hl hP hD hS
        intro self_42 ihself_42 z hf
        obtain ⟨i_36, c_x_37⟩ := z
        intro H locs ls hP hD hS hl
        refine hFr _ _ _ ?_
        unfold b_X10_compress_396 at hf
        refine lv_iload (pc := 396) hx hb (zdt_at zt_X10_compress_4 3 rfl) (lv_at hl 4 rfl) ?_
        refine lv_if_le (pc := 398) (tgt := 423) hx hb (zdt_at zt_X10_compress_4 4 rfl) (by decide) (fun cn_ => ?t_43) (fun cn_ => ?f_44)
        case t_43 =>
          replace hf := zt_s cn_ hf
          clear cn_
          exact hTo _ _ _ (kK_39 _ H locs ls hP hD hS (lv_sub hl [0, 1, 2, 3] rfl) hf)
        replace hf := ze_s cn_ hf
        clear cn_
        refine lv_aload_n (pc := 401) hx hb (zdt_at zt_X10_compress_4 5 rfl) rfl (lv_at hl 0 rfl) ?_
        refine va_get (pc := 402) (D := D) (ci := 12) (v := .ref (hm 32)) (C := RX10) (T := TX10) (N := 52) hx hb hts hcX10 hown hK hP 0 rfl rfl 32 (by decide) hw1 (fun _ h9 => h9) rfl (zdt_at zt_X10_compress_4 6 rfl) ?_
        refine lv_iload (pc := 405) hx hb (zdt_at zt_X10_compress_4 7 rfl) (lv_at hl 4 rfl) ?_
        refine lv_aload_n (pc := 407) hx hb (zdt_at zt_X10_compress_4 8 rfl) rfl (lv_at hl 0 rfl) ?_
        refine va_get (pc := 408) (D := D) (ci := 12) (v := .ref (hm 32)) (C := RX10) (T := TX10) (N := 52) hx hb hts hcX10 hown hK hP 0 rfl rfl 32 (by decide) hw1 (fun _ h9 => h9) rfl (zdt_at zt_X10_compress_4 9 rfl) ?_
        refine lv_iload (pc := 411) hx hb (zdt_at zt_X10_compress_4 10 rfl) (lv_at hl 4 rfl) ?_
        refine lv_iconst (pc := 413) (v := (1 : Int32)) hx hb (zdt_at zt_X10_compress_4 11 rfl) (by decide) ?_
        refine lv_isub (pc := 414) hx hb (zdt_at zt_X10_compress_4 12 rfl) ?_
        replace hf := zk_s hf
        refine va_iald (pc := 415) hx hb hK hP 5 1 rfl rfl hf.1 (zdt_at zt_X10_compress_4 13 rfl) ?_
        replace hf := hf.2
        replace hf := zk_s hf
        refine va_iast (pc := 416) hx hb hK hP hD hS 5 1 rfl rfl hf.1 (zdt_at zt_X10_compress_4 14 rfl) ?_
        replace hf := hf.2
        clear hP hD hS
        intro H locs hP hD hS
        obtain ⟨c_x_45, e_⟩ : ∃ q : Nat → Int32, q = (upd c_x_37 i_36.toNatClampNeg (c_x_37 (i_36 - (1 : Int32)).toNatClampNeg)) := ⟨_, rfl⟩
        replace hf := zn_s hf e_
        replace hP : va_P D vwCl ([(h0, .inr (12, zmo hm c_thrown c_state c_test c_words c_ill c_before c_inRow c_first c_inWindow c_same c_made c_requests c_total c_secrets c_rounds c_high c_low c_keyHigh c_keyLow)), ((hm 0), .inl (cy 1, 64, .inl c_ROUND)), ((hm 30), .inl (cy 1, 8, .inl c_h)), ((hm 33), .inl (cy 1, 64, .inl c_message)), ((hm 31), .inl (cy 1, 64, .inl c_w_7)), ((hm 32), .inl (cy 1, 8, .inl c_x_45))]) H := by rw [e_]; exact hP
        replace hD : va_D A ([(h0, .inr (12, zmo hm c_thrown c_state c_test c_words c_ill c_before c_inRow c_first c_inWindow c_same c_made c_requests c_total c_secrets c_rounds c_high c_low c_keyHigh c_keyLow)), ((hm 0), .inl (cy 1, 64, .inl c_ROUND)), ((hm 30), .inl (cy 1, 8, .inl c_h)), ((hm 33), .inl (cy 1, 64, .inl c_message)), ((hm 31), .inl (cy 1, 64, .inl c_w_7)), ((hm 32), .inl (cy 1, 8, .inl c_x_45))]) := by rw [e_]; exact hD
        clear e_
        refine lv_iinc (pc := 417) (v := (i_36 + (-1 : Int32))) (lv' := [(4, .int (i_36 + (-1 : Int32))), (0, .ref h0), (1, .int i_13), (2, .int x_31), (3, .int x_35)]) hx hb (zdt_at zt_X10_compress_4 15 rfl) hl (k := 4) rfl rfl (by decide) rfl ?_
        clear hl
        intro ls hl
        refine lv_goto (pc := 420) (tgt := 396) hx hb (zdt_at zt_X10_compress_4 16 rfl) (by decide) ?_
        exact hTo _ _ _ (ihself_42 _ hf H locs ls hP hD hS (lv_sub hl [1, 2, 3, 4, 0] rfl))
      clear eK_12
      refine hTo _ _ _ (zl_go (fun z => match z with | (i_9, c_x_10) => ∀ (H : Heap) (locs : List Loc) (ls : Array Slot), va_P D vwCl ([(h0, .inr (12, zmo hm c_thrown c_state c_test c_words c_ill c_before c_inRow c_first c_inWindow c_same c_made c_requests c_total c_secrets c_rounds c_high c_low c_keyHigh c_keyLow)), ((hm 0), .inl (cy 1, 64, .inl c_ROUND)), ((hm 30), .inl (cy 1, 8, .inl c_h)), ((hm 33), .inl (cy 1, 64, .inl c_message)), ((hm 31), .inl (cy 1, 64, .inl c_w_7)), ((hm 32), .inl (cy 1, 8, .inl c_x_10))]) H → va_D A ([(h0, .inr (12, zmo hm c_thrown c_state c_test c_words c_ill c_before c_inRow c_first c_inWindow c_same c_made c_requests c_total c_secrets c_rounds c_high c_low c_keyHigh c_keyLow)), ((hm 0), .inl (cy 1, 64, .inl c_ROUND)), ((hm 30), .inl (cy 1, 8, .inl c_h)), ((hm 33), .inl (cy 1, 64, .inl c_message)), ((hm 31), .inl (cy 1, 64, .inl c_w_7)), ((hm 32), .inl (cy 1, 8, .inl c_x_10))]) → va_S A s.heap H locs → lv_has ls 5 [(0, .ref h0), (1, .int i_9)] → GW H locs (F0 m 194 ls [])) hf ?_ H locs ls hP hD hS (lv_sub hl [1, 0] rfl))
      clear hf hl hP hD hS
      intro self_46 ihself_46 z hf
      obtain ⟨i_9, c_x_10⟩ := z
      intro H locs ls hP hD hS hl
      refine hFr _ _ _ ?_
      unfold b_X10_compress_194 at hf
      refine lv_iload_n (pc := 194) hx hb (zdt_at zt_X10_compress_2 2 rfl) rfl (lv_at hl 1 rfl) ?_
      refine lv_bipush (pc := 195) (v := (8 : Int32)) hx hb (zdt_at zt_X10_compress_2 3 rfl) (by decide) ?_
      refine lv_icmp_ge (pc := 197) (tgt := 218) hx hb (zdt_at zt_X10_compress_2 4 rfl) (by decide) (fun cn_ => ?t_47) (fun cn_ => ?f_48)
      case t_47 =>
        replace hf := zt_s cn_ hf
        clear cn_
        exact hTo _ _ _ (kK_12 _ H locs ls hP hD hS (lv_sub hl [0] rfl) hf)
      replace hf := ze_s cn_ hf
      clear cn_
      refine lv_aload_n (pc := 200) hx hb (zdt_at zt_X10_compress_2 5 rfl) rfl (lv_at hl 0 rfl) ?_
      refine va_get (pc := 201) (D := D) (ci := 12) (v := .ref (hm 32)) (C := RX10) (T := TX10) (N := 52) hx hb hts hcX10 hown hK hP 0 rfl rfl 32 (by decide) hw1 (fun _ h9 => h9) rfl (zdt_at zt_X10_compress_2 6 rfl) ?_
      refine lv_iload_n (pc := 204) hx hb (zdt_at zt_X10_compress_2 7 rfl) rfl (lv_at hl 1 rfl) ?_
      refine lv_aload_n (pc := 205) hx hb (zdt_at zt_X10_compress_2 8 rfl) rfl (lv_at hl 0 rfl) ?_
      refine va_get (pc := 206) (D := D) (ci := 12) (v := .ref (hm 30)) (C := RX10) (T := TX10) (N := 52) hx hb hts hcX10 hown hK hP 0 rfl rfl 30 (by decide) hw0 (fun _ h9 => h9) rfl (zdt_at zt_X10_compress_2 9 rfl) ?_
      refine lv_iload_n (pc := 209) hx hb (zdt_at zt_X10_compress_2 10 rfl) rfl (lv_at hl 1 rfl) ?_
      replace hf := zk_s hf
      refine va_iald (pc := 210) hx hb hK hP 2 1 rfl rfl hf.1 (zdt_at zt_X10_compress_2 11 rfl) ?_
      replace hf := hf.2
      replace hf := zk_s hf
      refine va_iast (pc := 211) hx hb hK hP hD hS 5 1 rfl rfl hf.1 (zdt_at zt_X10_compress_2 12 rfl) ?_
      replace hf := hf.2
      clear hP hD hS
      intro H locs hP hD hS
      obtain ⟨c_x_49, e_⟩ : ∃ q : Nat → Int32, q = (upd c_x_10 i_9.toNatClampNeg (c_h i_9.toNatClampNeg)) := ⟨_, rfl⟩
      replace hf := zn_s hf e_
      replace hP : va_P D vwCl ([(h0, .inr (12, zmo hm c_thrown c_state c_test c_words c_ill c_before c_inRow c_first c_inWindow c_same c_made c_requests c_total c_secrets c_rounds c_high c_low c_keyHigh c_keyLow)), ((hm 0), .inl (cy 1, 64, .inl c_ROUND)), ((hm 30), .inl (cy 1, 8, .inl c_h)), ((hm 33), .inl (cy 1, 64, .inl c_message)), ((hm 31), .inl (cy 1, 64, .inl c_w_7)), ((hm 32), .inl (cy 1, 8, .inl c_x_49))]) H := by rw [e_]; exact hP
      replace hD : va_D A ([(h0, .inr (12, zmo hm c_thrown c_state c_test c_words c_ill c_before c_inRow c_first c_inWindow c_same c_made c_requests c_total c_secrets c_rounds c_high c_low c_keyHigh c_keyLow)), ((hm 0), .inl (cy 1, 64, .inl c_ROUND)), ((hm 30), .inl (cy 1, 8, .inl c_h)), ((hm 33), .inl (cy 1, 64, .inl c_message)), ((hm 31), .inl (cy 1, 64, .inl c_w_7)), ((hm 32), .inl (cy 1, 8, .inl c_x_49))]) := by rw [e_]; exact hD
      clear e_
      refine lv_iinc (pc := 212) (v := (i_9 + (1 : Int32))) (lv' := [(1, .int (i_9 + (1 : Int32))), (0, .ref h0)]) hx hb (zdt_at zt_X10_compress_2 13 rfl) hl (k := 1) rfl rfl (by decide) rfl ?_
      clear hl
      intro ls hl
      refine lv_goto (pc := 215) (tgt := 194) hx hb (zdt_at zt_X10_compress_2 14 rfl) (by decide) ?_
      exact hTo _ _ _ (ihself_46 _ hf H locs ls hP hD hS (lv_sub hl [1, 0] rfl))
    clear eK_8
    refine hTo _ _ _ (zl_go (fun z => match z with | (i_5, c_w_6) => ∀ (H : Heap) (locs : List Loc) (ls : Array Slot), va_P D vwCl ([(h0, .inr (12, zmo hm c_thrown c_state c_test c_words c_ill c_before c_inRow c_first c_inWindow c_same c_made c_requests c_total c_secrets c_rounds c_high c_low c_keyHigh c_keyLow)), ((hm 0), .inl (cy 1, 64, .inl c_ROUND)), ((hm 30), .inl (cy 1, 8, .inl c_h)), ((hm 33), .inl (cy 1, 64, .inl c_message)), ((hm 31), .inl (cy 1, 64, .inl c_w_6)), ((hm 32), .inl (cy 1, 8, .inl c_x))]) H → va_D A ([(h0, .inr (12, zmo hm c_thrown c_state c_test c_words c_ill c_before c_inRow c_first c_inWindow c_same c_made c_requests c_total c_secrets c_rounds c_high c_low c_keyHigh c_keyLow)), ((hm 0), .inl (cy 1, 64, .inl c_ROUND)), ((hm 30), .inl (cy 1, 8, .inl c_h)), ((hm 33), .inl (cy 1, 64, .inl c_message)), ((hm 31), .inl (cy 1, 64, .inl c_w_6)), ((hm 32), .inl (cy 1, 8, .inl c_x))]) → va_S A s.heap H locs → lv_has ls 5 [(0, .ref h0), (1, .int i_5)] → GW H locs (F0 m 73 ls [])) hf ?_ H locs ls hP hD hS (lv_sub hl [1, 0] rfl))
    clear hf hl hP hD hS
    intro self_50 ihself_50 z hf
    obtain ⟨i_5, c_w_6⟩ := z
    intro H locs ls hP hD hS hl
    refine hFr _ _ _ ?_
    unfold b_X10_compress_73 at hf
    refine lv_iload_n (pc := 73) hx hb (zdt_at zt_X10_compress_0 52 rfl) rfl (lv_at hl 1 rfl) ?_
    refine lv_bipush (pc := 74) (v := (64 : Int32)) hx hb (zdt_at zt_X10_compress_0 53 rfl) (by decide) ?_
    refine lv_icmp_ge (pc := 76) (tgt := 192) hx hb (zdt_at zt_X10_compress_0 54 rfl) (by decide) (fun cn_ => ?t_51) (fun cn_ => ?f_52)
    case t_51 =>
      replace hf := zt_s cn_ hf
      clear cn_
      exact hTo _ _ _ (kK_8 _ H locs ls hP hD hS (lv_sub hl [0] rfl) hf)
    replace hf := ze_s cn_ hf
    clear cn_
    refine lv_aload_n (pc := 79) hx hb (zdt_at zt_X10_compress_0 55 rfl) rfl (lv_at hl 0 rfl) ?_
    refine va_get (pc := 80) (D := D) (ci := 12) (v := .ref (hm 31)) (C := RX10) (T := TX10) (N := 52) hx hb hts hcX10 hown hK hP 0 rfl rfl 31 (by decide) hw3 (fun _ h9 => h9) rfl (zdt_at zt_X10_compress_0 56 rfl) ?_
    refine lv_iload_n (pc := 83) hx hb (zdt_at zt_X10_compress_0 57 rfl) rfl (lv_at hl 1 rfl) ?_
    refine lv_aload_n (pc := 84) hx hb (zdt_at zt_X10_compress_0 58 rfl) rfl (lv_at hl 0 rfl) ?_
    refine va_get (pc := 85) (D := D) (ci := 12) (v := .ref (hm 31)) (C := RX10) (T := TX10) (N := 52) hx hb hts hcX10 hown hK hP 0 rfl rfl 31 (by decide) hw3 (fun _ h9 => h9) rfl (zdt_at zt_X10_compress_0 59 rfl) ?_
    refine lv_iload_n (pc := 88) hx hb (zdt_at zt_X10_compress_0 60 rfl) rfl (lv_at hl 1 rfl) ?_
    refine lv_bipush (pc := 89) (v := (16 : Int32)) hx hb (zdt_at zt_X10_compress_0 61 rfl) (by decide) ?_
    refine lv_isub (pc := 91) hx hb (zdt_at zt_X10_compress_0 62 rfl) ?_
    replace hf := zk_s hf
    refine va_iald (pc := 92) hx hb hK hP 4 1 rfl rfl hf.1 (zdt_at zt_X10_compress_0 63 rfl) ?_
    replace hf := hf.2
    refine lv_aload_n (pc := 93) hx hb (zdt_at zt_X10_compress_1 0 rfl) rfl (lv_at hl 0 rfl) ?_
    refine va_get (pc := 94) (D := D) (ci := 12) (v := .ref (hm 31)) (C := RX10) (T := TX10) (N := 52) hx hb hts hcX10 hown hK hP 0 rfl rfl 31 (by decide) hw3 (fun _ h9 => h9) rfl (zdt_at zt_X10_compress_1 1 rfl) ?_
    refine lv_iload_n (pc := 97) hx hb (zdt_at zt_X10_compress_1 2 rfl) rfl (lv_at hl 1 rfl) ?_
    refine lv_bipush (pc := 98) (v := (7 : Int32)) hx hb (zdt_at zt_X10_compress_1 3 rfl) (by decide) ?_
    refine lv_isub (pc := 100) hx hb (zdt_at zt_X10_compress_1 4 rfl) ?_
    replace hf := zk_s hf
    refine va_iald (pc := 101) hx hb hK hP 4 1 rfl rfl hf.1 (zdt_at zt_X10_compress_1 5 rfl) ?_
    replace hf := hf.2
    refine lv_iadd (pc := 102) hx hb (zdt_at zt_X10_compress_1 6 rfl) ?_
    refine lv_aload_n (pc := 103) hx hb (zdt_at zt_X10_compress_1 7 rfl) rfl (lv_at hl 0 rfl) ?_
    refine va_get (pc := 104) (D := D) (ci := 12) (v := .ref (hm 31)) (C := RX10) (T := TX10) (N := 52) hx hb hts hcX10 hown hK hP 0 rfl rfl 31 (by decide) hw3 (fun _ h9 => h9) rfl (zdt_at zt_X10_compress_1 8 rfl) ?_
    refine lv_iload_n (pc := 107) hx hb (zdt_at zt_X10_compress_1 9 rfl) rfl (lv_at hl 1 rfl) ?_
    refine lv_bipush (pc := 108) (v := (15 : Int32)) hx hb (zdt_at zt_X10_compress_1 10 rfl) (by decide) ?_
    refine lv_isub (pc := 110) hx hb (zdt_at zt_X10_compress_1 11 rfl) ?_
    replace hf := zk_s hf
    refine va_iald (pc := 111) hx hb hK hP 4 1 rfl rfl hf.1 (zdt_at zt_X10_compress_1 12 rfl) ?_
    replace hf := hf.2
    refine lv_bipush (pc := 112) (v := (7 : Int32)) hx hb (zdt_at zt_X10_compress_1 13 rfl) (by decide) ?_
    replace hf := zb_s hf
    obtain ⟨r_53, hc_, hf⟩ := hf
    refine zcs (pc := 114) (rv := (some (.int r_53))) (va_runS (As := [.int (c_w_6 (i_5 - (15 : Int32)).toNatClampNeg), .int (7 : Int32)]) (rest := [.int ((c_w_6 (i_5 - (16 : Int32)).toNatClampNeg) + (c_w_6 (i_5 - (7 : Int32)).toNatClampNeg)), .int i_5, .ref (hm 31)]) ⟨hx, hb, hml, hown, hts⟩ (c_X10_turn l D cy tt H.size (c_w_6 (i_5 - (15 : Int32)).toNatClampNeg) (7 : Int32) r_53 hc_) (va_cwS 2 hts gX10_compress_X10_turn rfl rfl rfl (by decide +kernel) ⟨Nat.le_of_ble_eq_true rfl, Nat.le_of_ble_eq_true rfl⟩) ⟨zblind, zpre hE hS (hP.sub [] rfl) (hD.sub [] (by decide) rfl) (va_free hD hS hA [] rfl)⟩ rfl rfl hl.1 rfl (lv_room (Nat.le_of_ble_eq_true rfl)) (zdt_at zt_X10_compress_1 14 rfl) ⟨Nat.zero_le _, Nat.zero_le _⟩) ?_
    clear hc_
    refine W.eq (g2 := F0 m 117 ls [.int r_53, .int ((c_w_6 (i_5 - (16 : Int32)).toNatClampNeg) + (c_w_6 (i_5 - (7 : Int32)).toNatClampNeg)), .int i_5, .ref (hm 31)]) rfl ?_
    refine lv_aload_n (pc := 117) hx hb (zdt_at zt_X10_compress_1 15 rfl) rfl (lv_at hl 0 rfl) ?_
    refine va_get (pc := 118) (D := D) (ci := 12) (v := .ref (hm 31)) (C := RX10) (T := TX10) (N := 52) hx hb hts hcX10 hown hK hP 0 rfl rfl 31 (by decide) hw3 (fun _ h9 => h9) rfl (zdt_at zt_X10_compress_1 16 rfl) ?_
    refine lv_iload_n (pc := 121) hx hb (zdt_at zt_X10_compress_1 17 rfl) rfl (lv_at hl 1 rfl) ?_
    refine lv_bipush (pc := 122) (v := (15 : Int32)) hx hb (zdt_at zt_X10_compress_1 18 rfl) (by decide) ?_
    refine lv_isub (pc := 124) hx hb (zdt_at zt_X10_compress_1 19 rfl) ?_
    replace hf := zk_s hf
    refine va_iald (pc := 125) hx hb hK hP 4 1 rfl rfl hf.1 (zdt_at zt_X10_compress_1 20 rfl) ?_
    replace hf := hf.2
    refine lv_bipush (pc := 126) (v := (18 : Int32)) hx hb (zdt_at zt_X10_compress_1 21 rfl) (by decide) ?_
    replace hf := zb_s hf
    obtain ⟨r_54, hc_, hf⟩ := hf
    refine zcs (pc := 128) (rv := (some (.int r_54))) (va_runS (As := [.int (c_w_6 (i_5 - (15 : Int32)).toNatClampNeg), .int (18 : Int32)]) (rest := [.int r_53, .int ((c_w_6 (i_5 - (16 : Int32)).toNatClampNeg) + (c_w_6 (i_5 - (7 : Int32)).toNatClampNeg)), .int i_5, .ref (hm 31)]) ⟨hx, hb, hml, hown, hts⟩ (c_X10_turn l D cy tt H.size (c_w_6 (i_5 - (15 : Int32)).toNatClampNeg) (18 : Int32) r_54 hc_) (va_cwS 2 hts gX10_compress_X10_turn rfl rfl rfl (by decide +kernel) ⟨Nat.le_of_ble_eq_true rfl, Nat.le_of_ble_eq_true rfl⟩) ⟨zblind, zpre hE hS (hP.sub [] rfl) (hD.sub [] (by decide) rfl) (va_free hD hS hA [] rfl)⟩ rfl rfl hl.1 rfl (lv_room (Nat.le_of_ble_eq_true rfl)) (zdt_at zt_X10_compress_1 22 rfl) ⟨Nat.zero_le _, Nat.zero_le _⟩) ?_
    clear hc_
    refine W.eq (g2 := F0 m 131 ls [.int r_54, .int r_53, .int ((c_w_6 (i_5 - (16 : Int32)).toNatClampNeg) + (c_w_6 (i_5 - (7 : Int32)).toNatClampNeg)), .int i_5, .ref (hm 31)]) rfl ?_
    refine lv_ixor (pc := 131) hx hb (zdt_at zt_X10_compress_1 23 rfl) ?_
    refine lv_aload_n (pc := 132) hx hb (zdt_at zt_X10_compress_1 24 rfl) rfl (lv_at hl 0 rfl) ?_
    refine va_get (pc := 133) (D := D) (ci := 12) (v := .ref (hm 31)) (C := RX10) (T := TX10) (N := 52) hx hb hts hcX10 hown hK hP 0 rfl rfl 31 (by decide) hw3 (fun _ h9 => h9) rfl (zdt_at zt_X10_compress_1 25 rfl) ?_
    refine lv_iload_n (pc := 136) hx hb (zdt_at zt_X10_compress_1 26 rfl) rfl (lv_at hl 1 rfl) ?_
    refine lv_bipush (pc := 137) (v := (15 : Int32)) hx hb (zdt_at zt_X10_compress_1 27 rfl) (by decide) ?_
    refine lv_isub (pc := 139) hx hb (zdt_at zt_X10_compress_1 28 rfl) ?_
    replace hf := zk_s hf
    refine va_iald (pc := 140) hx hb hK hP 4 1 rfl rfl hf.1 (zdt_at zt_X10_compress_1 29 rfl) ?_
    replace hf := hf.2
    refine lv_iconst (pc := 141) (v := (3 : Int32)) hx hb (zdt_at zt_X10_compress_1 30 rfl) (by decide) ?_
    refine lv_iushr (pc := 142) hx hb (zdt_at zt_X10_compress_1 31 rfl) rfl ?_
    refine lv_ixor (pc := 143) hx hb (zdt_at zt_X10_compress_1 32 rfl) ?_
    refine lv_iadd (pc := 144) hx hb (zdt_at zt_X10_compress_1 33 rfl) ?_
    refine lv_aload_n (pc := 145) hx hb (zdt_at zt_X10_compress_1 34 rfl) rfl (lv_at hl 0 rfl) ?_
    refine va_get (pc := 146) (D := D) (ci := 12) (v := .ref (hm 31)) (C := RX10) (T := TX10) (N := 52) hx hb hts hcX10 hown hK hP 0 rfl rfl 31 (by decide) hw3 (fun _ h9 => h9) rfl (zdt_at zt_X10_compress_1 35 rfl) ?_
    refine lv_iload_n (pc := 149) hx hb (zdt_at zt_X10_compress_1 36 rfl) rfl (lv_at hl 1 rfl) ?_
    refine lv_iconst (pc := 150) (v := (2 : Int32)) hx hb (zdt_at zt_X10_compress_1 37 rfl) (by decide) ?_
    refine lv_isub (pc := 151) hx hb (zdt_at zt_X10_compress_1 38 rfl) ?_
    replace hf := zk_s hf
    refine va_iald (pc := 152) hx hb hK hP 4 1 rfl rfl hf.1 (zdt_at zt_X10_compress_1 39 rfl) ?_
    replace hf := hf.2
    refine lv_bipush (pc := 153) (v := (17 : Int32)) hx hb (zdt_at zt_X10_compress_1 40 rfl) (by decide) ?_
    replace hf := zb_s hf
    obtain ⟨r_55, hc_, hf⟩ := hf
    refine zcs (pc := 155) (rv := (some (.int r_55))) (va_runS (As := [.int (c_w_6 (i_5 - (2 : Int32)).toNatClampNeg), .int (17 : Int32)]) (rest := [.int (((c_w_6 (i_5 - (16 : Int32)).toNatClampNeg) + (c_w_6 (i_5 - (7 : Int32)).toNatClampNeg)) + ((r_53 ^^^ r_54) ^^^ ((c_w_6 (i_5 - (15 : Int32)).toNatClampNeg).toUInt32 >>> ((3 : Int32).toUInt32 &&& Int32.toUInt32 31)).toInt32)), .int i_5, .ref (hm 31)]) ⟨hx, hb, hml, hown, hts⟩ (c_X10_turn l D cy tt H.size (c_w_6 (i_5 - (2 : Int32)).toNatClampNeg) (17 : Int32) r_55 hc_) (va_cwS 2 hts gX10_compress_X10_turn rfl rfl rfl (by decide +kernel) ⟨Nat.le_of_ble_eq_true rfl, Nat.le_of_ble_eq_true rfl⟩) ⟨zblind, zpre hE hS (hP.sub [] rfl) (hD.sub [] (by decide) rfl) (va_free hD hS hA [] rfl)⟩ rfl rfl hl.1 rfl (lv_room (Nat.le_of_ble_eq_true rfl)) (zdt_at zt_X10_compress_1 41 rfl) ⟨Nat.zero_le _, Nat.zero_le _⟩) ?_
    clear hc_
    refine W.eq (g2 := F0 m 158 ls [.int r_55, .int (((c_w_6 (i_5 - (16 : Int32)).toNatClampNeg) + (c_w_6 (i_5 - (7 : Int32)).toNatClampNeg)) + ((r_53 ^^^ r_54) ^^^ ((c_w_6 (i_5 - (15 : Int32)).toNatClampNeg).toUInt32 >>> ((3 : Int32).toUInt32 &&& Int32.toUInt32 31)).toInt32)), .int i_5, .ref (hm 31)]) rfl ?_
    refine lv_aload_n (pc := 158) hx hb (zdt_at zt_X10_compress_1 42 rfl) rfl (lv_at hl 0 rfl) ?_
    refine va_get (pc := 159) (D := D) (ci := 12) (v := .ref (hm 31)) (C := RX10) (T := TX10) (N := 52) hx hb hts hcX10 hown hK hP 0 rfl rfl 31 (by decide) hw3 (fun _ h9 => h9) rfl (zdt_at zt_X10_compress_1 43 rfl) ?_
    refine lv_iload_n (pc := 162) hx hb (zdt_at zt_X10_compress_1 44 rfl) rfl (lv_at hl 1 rfl) ?_
    refine lv_iconst (pc := 163) (v := (2 : Int32)) hx hb (zdt_at zt_X10_compress_1 45 rfl) (by decide) ?_
    refine lv_isub (pc := 164) hx hb (zdt_at zt_X10_compress_1 46 rfl) ?_
    replace hf := zk_s hf
    refine va_iald (pc := 165) hx hb hK hP 4 1 rfl rfl hf.1 (zdt_at zt_X10_compress_1 47 rfl) ?_
    replace hf := hf.2
    refine lv_bipush (pc := 166) (v := (19 : Int32)) hx hb (zdt_at zt_X10_compress_1 48 rfl) (by decide) ?_
    replace hf := zb_s hf
    obtain ⟨r_56, hc_, hf⟩ := hf
    refine zcs (pc := 168) (rv := (some (.int r_56))) (va_runS (As := [.int (c_w_6 (i_5 - (2 : Int32)).toNatClampNeg), .int (19 : Int32)]) (rest := [.int r_55, .int (((c_w_6 (i_5 - (16 : Int32)).toNatClampNeg) + (c_w_6 (i_5 - (7 : Int32)).toNatClampNeg)) + ((r_53 ^^^ r_54) ^^^ ((c_w_6 (i_5 - (15 : Int32)).toNatClampNeg).toUInt32 >>> ((3 : Int32).toUInt32 &&& Int32.toUInt32 31)).toInt32)), .int i_5, .ref (hm 31)]) ⟨hx, hb, hml, hown, hts⟩ (c_X10_turn l D cy tt H.size (c_w_6 (i_5 - (2 : Int32)).toNatClampNeg) (19 : Int32) r_56 hc_) (va_cwS 2 hts gX10_compress_X10_turn rfl rfl rfl (by decide +kernel) ⟨Nat.le_of_ble_eq_true rfl, Nat.le_of_ble_eq_true rfl⟩) ⟨zblind, zpre hE hS (hP.sub [] rfl) (hD.sub [] (by decide) rfl) (va_free hD hS hA [] rfl)⟩ rfl rfl hl.1 rfl (lv_room (Nat.le_of_ble_eq_true rfl)) (zdt_at zt_X10_compress_1 49 rfl) ⟨Nat.zero_le _, Nat.zero_le _⟩) ?_
    clear hc_
    refine W.eq (g2 := F0 m 171 ls [.int r_56, .int r_55, .int (((c_w_6 (i_5 - (16 : Int32)).toNatClampNeg) + (c_w_6 (i_5 - (7 : Int32)).toNatClampNeg)) + ((r_53 ^^^ r_54) ^^^ ((c_w_6 (i_5 - (15 : Int32)).toNatClampNeg).toUInt32 >>> ((3 : Int32).toUInt32 &&& Int32.toUInt32 31)).toInt32)), .int i_5, .ref (hm 31)]) rfl ?_
    refine lv_ixor (pc := 171) hx hb (zdt_at zt_X10_compress_1 50 rfl) ?_
    refine lv_aload_n (pc := 172) hx hb (zdt_at zt_X10_compress_1 51 rfl) rfl (lv_at hl 0 rfl) ?_
    refine va_get (pc := 173) (D := D) (ci := 12) (v := .ref (hm 31)) (C := RX10) (T := TX10) (N := 52) hx hb hts hcX10 hown hK hP 0 rfl rfl 31 (by decide) hw3 (fun _ h9 => h9) rfl (zdt_at zt_X10_compress_1 52 rfl) ?_
    refine lv_iload_n (pc := 176) hx hb (zdt_at zt_X10_compress_1 53 rfl) rfl (lv_at hl 1 rfl) ?_
    refine lv_iconst (pc := 177) (v := (2 : Int32)) hx hb (zdt_at zt_X10_compress_1 54 rfl) (by decide) ?_
    refine lv_isub (pc := 178) hx hb (zdt_at zt_X10_compress_1 55 rfl) ?_
    replace hf := zk_s hf
    refine va_iald (pc := 179) hx hb hK hP 4 1 rfl rfl hf.1 (zdt_at zt_X10_compress_1 56 rfl) ?_
    replace hf := hf.2
    refine lv_bipush (pc := 180) (v := (10 : Int32)) hx hb (zdt_at zt_X10_compress_1 57 rfl) (by decide) ?_
    refine lv_iushr (pc := 182) hx hb (zdt_at zt_X10_compress_1 58 rfl) rfl ?_
    refine lv_ixor (pc := 183) hx hb (zdt_at zt_X10_compress_1 59 rfl) ?_
    refine lv_iadd (pc := 184) hx hb (zdt_at zt_X10_compress_1 60 rfl) ?_
    replace hf := zk_s hf
    refine va_iast (pc := 185) hx hb hK hP hD hS 4 1 rfl rfl hf.1 (zdt_at zt_X10_compress_1 61 rfl) ?_
    replace hf := hf.2
    clear hP hD hS
    intro H locs hP hD hS
    obtain ⟨c_w_57, e_⟩ : ∃ q : Nat → Int32, q = (upd c_w_6 i_5.toNatClampNeg ((((c_w_6 (i_5 - (16 : Int32)).toNatClampNeg) + (c_w_6 (i_5 - (7 : Int32)).toNatClampNeg)) + ((r_53 ^^^ r_54) ^^^ ((c_w_6 (i_5 - (15 : Int32)).toNatClampNeg).toUInt32 >>> ((3 : Int32).toUInt32 &&& Int32.toUInt32 31)).toInt32)) + ((r_55 ^^^ r_56) ^^^ ((c_w_6 (i_5 - (2 : Int32)).toNatClampNeg).toUInt32 >>> ((10 : Int32).toUInt32 &&& Int32.toUInt32 31)).toInt32))) := ⟨_, rfl⟩
    replace hf := zn_s hf e_
    replace hP : va_P D vwCl ([(h0, .inr (12, zmo hm c_thrown c_state c_test c_words c_ill c_before c_inRow c_first c_inWindow c_same c_made c_requests c_total c_secrets c_rounds c_high c_low c_keyHigh c_keyLow)), ((hm 0), .inl (cy 1, 64, .inl c_ROUND)), ((hm 30), .inl (cy 1, 8, .inl c_h)), ((hm 33), .inl (cy 1, 64, .inl c_message)), ((hm 31), .inl (cy 1, 64, .inl c_w_57)), ((hm 32), .inl (cy 1, 8, .inl c_x))]) H := by rw [e_]; exact hP
    replace hD : va_D A ([(h0, .inr (12, zmo hm c_thrown c_state c_test c_words c_ill c_before c_inRow c_first c_inWindow c_same c_made c_requests c_total c_secrets c_rounds c_high c_low c_keyHigh c_keyLow)), ((hm 0), .inl (cy 1, 64, .inl c_ROUND)), ((hm 30), .inl (cy 1, 8, .inl c_h)), ((hm 33), .inl (cy 1, 64, .inl c_message)), ((hm 31), .inl (cy 1, 64, .inl c_w_57)), ((hm 32), .inl (cy 1, 8, .inl c_x))]) := by rw [e_]; exact hD
    clear e_
    refine lv_iinc (pc := 186) (v := (i_5 + (1 : Int32))) (lv' := [(1, .int (i_5 + (1 : Int32))), (0, .ref h0)]) hx hb (zdt_at zt_X10_compress_1 62 rfl) hl (k := 1) rfl rfl (by decide) rfl ?_
    clear hl
    intro ls hl
    refine lv_goto (pc := 189) (tgt := 73) hx hb (zdt_at zt_X10_compress_1 63 rfl) (by decide) ?_
    exact hTo _ _ _ (ihself_50 _ hf H locs ls hP hD hS (lv_sub hl [1, 0] rfl))
  clear eK_4
  refine hTo _ _ _ (zl_go (fun z => match z with | (i_1, c_w_2) => ∀ (H : Heap) (locs : List Loc) (ls : Array Slot), va_P D vwCl ([(h0, .inr (12, zmo hm c_thrown c_state c_test c_words c_ill c_before c_inRow c_first c_inWindow c_same c_made c_requests c_total c_secrets c_rounds c_high c_low c_keyHigh c_keyLow)), ((hm 0), .inl (cy 1, 64, .inl c_ROUND)), ((hm 30), .inl (cy 1, 8, .inl c_h)), ((hm 33), .inl (cy 1, 64, .inl c_message)), ((hm 31), .inl (cy 1, 64, .inl c_w_2)), ((hm 32), .inl (cy 1, 8, .inl c_x))]) H → va_D A ([(h0, .inr (12, zmo hm c_thrown c_state c_test c_words c_ill c_before c_inRow c_first c_inWindow c_same c_made c_requests c_total c_secrets c_rounds c_high c_low c_keyHigh c_keyLow)), ((hm 0), .inl (cy 1, 64, .inl c_ROUND)), ((hm 30), .inl (cy 1, 8, .inl c_h)), ((hm 33), .inl (cy 1, 64, .inl c_message)), ((hm 31), .inl (cy 1, 64, .inl c_w_2)), ((hm 32), .inl (cy 1, 8, .inl c_x))]) → va_S A s.heap H locs → lv_has ls 5 [(0, .ref h0), (1, .int i_1)] → GW H locs (F0 m 2 ls [])) hf ?_ H locs ls hP hD hS (lv_sub hl [1, 0] rfl))
  clear hf hl hP hD hS
  intro self_58 ihself_58 z hf
  obtain ⟨i_1, c_w_2⟩ := z
  intro H locs ls hP hD hS hl
  refine hFr _ _ _ ?_
  unfold b_X10_compress_2 at hf
  refine lv_iload_n (pc := 2) hx hb (zdt_at zt_X10_compress_0 2 rfl) rfl (lv_at hl 1 rfl) ?_
  refine lv_bipush (pc := 3) (v := (16 : Int32)) hx hb (zdt_at zt_X10_compress_0 3 rfl) (by decide) ?_
  refine lv_icmp_ge (pc := 5) (tgt := 70) hx hb (zdt_at zt_X10_compress_0 4 rfl) (by decide) (fun cn_ => ?t_59) (fun cn_ => ?f_60)
  case t_59 =>
    replace hf := zt_s cn_ hf
    clear cn_
    exact hTo _ _ _ (kK_4 _ H locs ls hP hD hS (lv_sub hl [0] rfl) hf)
  replace hf := ze_s cn_ hf
  clear cn_
  refine lv_aload_n (pc := 8) hx hb (zdt_at zt_X10_compress_0 5 rfl) rfl (lv_at hl 0 rfl) ?_
  refine va_get (pc := 9) (D := D) (ci := 12) (v := .ref (hm 31)) (C := RX10) (T := TX10) (N := 52) hx hb hts hcX10 hown hK hP 0 rfl rfl 31 (by decide) hw3 (fun _ h9 => h9) rfl (zdt_at zt_X10_compress_0 6 rfl) ?_
  refine lv_iload_n (pc := 12) hx hb (zdt_at zt_X10_compress_0 7 rfl) rfl (lv_at hl 1 rfl) ?_
  refine lv_aload_n (pc := 13) hx hb (zdt_at zt_X10_compress_0 8 rfl) rfl (lv_at hl 0 rfl) ?_
  refine va_get (pc := 14) (D := D) (ci := 12) (v := .ref (hm 33)) (C := RX10) (T := TX10) (N := 52) hx hb hts hcX10 hown hK hP 0 rfl rfl 33 (by decide) hw4 (fun _ h9 => h9) rfl (zdt_at zt_X10_compress_0 9 rfl) ?_
  refine lv_iconst (pc := 17) (v := (4 : Int32)) hx hb (zdt_at zt_X10_compress_0 10 rfl) (by decide) ?_
  refine lv_iload_n (pc := 18) hx hb (zdt_at zt_X10_compress_0 11 rfl) rfl (lv_at hl 1 rfl) ?_
  refine lv_imul (pc := 19) hx hb (zdt_at zt_X10_compress_0 12 rfl) ?_
  replace hf := zk_s hf
  refine va_iald (pc := 20) hx hb hK hP 3 1 rfl rfl hf.1 (zdt_at zt_X10_compress_0 13 rfl) ?_
  replace hf := hf.2
  refine lv_bipush (pc := 21) (v := (24 : Int32)) hx hb (zdt_at zt_X10_compress_0 14 rfl) (by decide) ?_
  refine lv_ishl (pc := 23) hx hb (zdt_at zt_X10_compress_0 15 rfl) ?_
  refine lv_aload_n (pc := 24) hx hb (zdt_at zt_X10_compress_0 16 rfl) rfl (lv_at hl 0 rfl) ?_
  refine va_get (pc := 25) (D := D) (ci := 12) (v := .ref (hm 33)) (C := RX10) (T := TX10) (N := 52) hx hb hts hcX10 hown hK hP 0 rfl rfl 33 (by decide) hw4 (fun _ h9 => h9) rfl (zdt_at zt_X10_compress_0 17 rfl) ?_
  refine lv_iconst (pc := 28) (v := (4 : Int32)) hx hb (zdt_at zt_X10_compress_0 18 rfl) (by decide) ?_
  refine lv_iload_n (pc := 29) hx hb (zdt_at zt_X10_compress_0 19 rfl) rfl (lv_at hl 1 rfl) ?_
  refine lv_imul (pc := 30) hx hb (zdt_at zt_X10_compress_0 20 rfl) ?_
  refine lv_iconst (pc := 31) (v := (1 : Int32)) hx hb (zdt_at zt_X10_compress_0 21 rfl) (by decide) ?_
  refine lv_iadd (pc := 32) hx hb (zdt_at zt_X10_compress_0 22 rfl) ?_
  replace hf := zk_s hf
  refine va_iald (pc := 33) hx hb hK hP 3 1 rfl rfl hf.1 (zdt_at zt_X10_compress_0 23 rfl) ?_
  replace hf := hf.2
  refine lv_bipush (pc := 34) (v := (16 : Int32)) hx hb (zdt_at zt_X10_compress_0 24 rfl) (by decide) ?_
  refine lv_ishl (pc := 36) hx hb (zdt_at zt_X10_compress_0 25 rfl) ?_
  refine lv_ior (pc := 37) hx hb (zdt_at zt_X10_compress_0 26 rfl) ?_
  refine lv_aload_n (pc := 38) hx hb (zdt_at zt_X10_compress_0 27 rfl) rfl (lv_at hl 0 rfl) ?_
  refine va_get (pc := 39) (D := D) (ci := 12) (v := .ref (hm 33)) (C := RX10) (T := TX10) (N := 52) hx hb hts hcX10 hown hK hP 0 rfl rfl 33 (by decide) hw4 (fun _ h9 => h9) rfl (zdt_at zt_X10_compress_0 28 rfl) ?_
  refine lv_iconst (pc := 42) (v := (4 : Int32)) hx hb (zdt_at zt_X10_compress_0 29 rfl) (by decide) ?_
  refine lv_iload_n (pc := 43) hx hb (zdt_at zt_X10_compress_0 30 rfl) rfl (lv_at hl 1 rfl) ?_
  refine lv_imul (pc := 44) hx hb (zdt_at zt_X10_compress_0 31 rfl) ?_
  refine lv_iconst (pc := 45) (v := (2 : Int32)) hx hb (zdt_at zt_X10_compress_0 32 rfl) (by decide) ?_
  refine lv_iadd (pc := 46) hx hb (zdt_at zt_X10_compress_0 33 rfl) ?_
  replace hf := zk_s hf
  refine va_iald (pc := 47) hx hb hK hP 3 1 rfl rfl hf.1 (zdt_at zt_X10_compress_0 34 rfl) ?_
  replace hf := hf.2
  refine lv_bipush (pc := 48) (v := (8 : Int32)) hx hb (zdt_at zt_X10_compress_0 35 rfl) (by decide) ?_
  refine lv_ishl (pc := 50) hx hb (zdt_at zt_X10_compress_0 36 rfl) ?_
  refine lv_ior (pc := 51) hx hb (zdt_at zt_X10_compress_0 37 rfl) ?_
  refine lv_aload_n (pc := 52) hx hb (zdt_at zt_X10_compress_0 38 rfl) rfl (lv_at hl 0 rfl) ?_
  refine va_get (pc := 53) (D := D) (ci := 12) (v := .ref (hm 33)) (C := RX10) (T := TX10) (N := 52) hx hb hts hcX10 hown hK hP 0 rfl rfl 33 (by decide) hw4 (fun _ h9 => h9) rfl (zdt_at zt_X10_compress_0 39 rfl) ?_
  refine lv_iconst (pc := 56) (v := (4 : Int32)) hx hb (zdt_at zt_X10_compress_0 40 rfl) (by decide) ?_
  refine lv_iload_n (pc := 57) hx hb (zdt_at zt_X10_compress_0 41 rfl) rfl (lv_at hl 1 rfl) ?_
  refine lv_imul (pc := 58) hx hb (zdt_at zt_X10_compress_0 42 rfl) ?_
  refine lv_iconst (pc := 59) (v := (3 : Int32)) hx hb (zdt_at zt_X10_compress_0 43 rfl) (by decide) ?_
  refine lv_iadd (pc := 60) hx hb (zdt_at zt_X10_compress_0 44 rfl) ?_
  replace hf := zk_s hf
  refine va_iald (pc := 61) hx hb hK hP 3 1 rfl rfl hf.1 (zdt_at zt_X10_compress_0 45 rfl) ?_
  replace hf := hf.2
  refine lv_ior (pc := 62) hx hb (zdt_at zt_X10_compress_0 46 rfl) ?_
  replace hf := zk_s hf
  refine va_iast (pc := 63) hx hb hK hP hD hS 4 1 rfl rfl hf.1 (zdt_at zt_X10_compress_0 47 rfl) ?_
  replace hf := hf.2
  clear hP hD hS
  intro H locs hP hD hS
  obtain ⟨c_w_61, e_⟩ : ∃ q : Nat → Int32, q = (upd c_w_2 i_1.toNatClampNeg (((((c_message ((4 : Int32) * i_1).toNatClampNeg) <<< ((24 : Int32) &&& 31)) ||| ((c_message (((4 : Int32) * i_1) + (1 : Int32)).toNatClampNeg) <<< ((16 : Int32) &&& 31))) ||| ((c_message (((4 : Int32) * i_1) + (2 : Int32)).toNatClampNeg) <<< ((8 : Int32) &&& 31))) ||| (c_message (((4 : Int32) * i_1) + (3 : Int32)).toNatClampNeg))) := ⟨_, rfl⟩
  replace hf := zn_s hf e_
  replace hP : va_P D vwCl ([(h0, .inr (12, zmo hm c_thrown c_state c_test c_words c_ill c_before c_inRow c_first c_inWindow c_same c_made c_requests c_total c_secrets c_rounds c_high c_low c_keyHigh c_keyLow)), ((hm 0), .inl (cy 1, 64, .inl c_ROUND)), ((hm 30), .inl (cy 1, 8, .inl c_h)), ((hm 33), .inl (cy 1, 64, .inl c_message)), ((hm 31), .inl (cy 1, 64, .inl c_w_61)), ((hm 32), .inl (cy 1, 8, .inl c_x))]) H := by rw [e_]; exact hP
  replace hD : va_D A ([(h0, .inr (12, zmo hm c_thrown c_state c_test c_words c_ill c_before c_inRow c_first c_inWindow c_same c_made c_requests c_total c_secrets c_rounds c_high c_low c_keyHigh c_keyLow)), ((hm 0), .inl (cy 1, 64, .inl c_ROUND)), ((hm 30), .inl (cy 1, 8, .inl c_h)), ((hm 33), .inl (cy 1, 64, .inl c_message)), ((hm 31), .inl (cy 1, 64, .inl c_w_61)), ((hm 32), .inl (cy 1, 8, .inl c_x))]) := by rw [e_]; exact hD
  clear e_
  refine lv_iinc (pc := 64) (v := (i_1 + (1 : Int32))) (lv' := [(1, .int (i_1 + (1 : Int32))), (0, .ref h0)]) hx hb (zdt_at zt_X10_compress_0 48 rfl) hl (k := 1) rfl rfl (by decide) rfl ?_
  clear hl
  intro ls hl
  refine lv_goto (pc := 67) (tgt := 2) hx hb (zdt_at zt_X10_compress_0 49 rfl) (by decide) ?_
  exact hTo _ _ _ (ihself_58 _ hf H locs ls hP hD hS (lv_sub hl [1, 0] rfl))
set_option maxHeartbeats 4000000 in
set_option maxRecDepth 100000 in
theorem c_X10_say (l : Launch) (D : va_G) (cy : Nat → ClassId) (tt : Nat → Nat) (sz : Nat) (h0 : Nat) (hm : Nat → Nat) (p1 : Int32) (c_total : Int64) (c_ROUND : Nat → Int32) (c_h : Nat → Int32) (c_message : Nat → Int32) (c_w : Nat → Int32) (c_x : Nat → Int32) (c_thrown : Int32) (c_state : Int32) (c_test : Int32) (c_words : Int32) (c_ill : Int32) (c_before : Int32) (c_inRow : Int32) (c_first : Int32) (c_inWindow : Int32) (c_same : Int32) (c_made : Int32) (c_requests : Int32) (c_secrets : Int32) (c_rounds : Int32) (c_high : Int64) (c_low : Int64) (c_keyHigh : Int64) (c_keyLow : Int64) (c_total' : Int64) (c_h' : Nat → Int32) (c_message' : Nat → Int32) (c_w' : Nat → Int32) (c_x' : Nat → Int32) (hf : f_X10_say p1 c_total c_ROUND c_h c_message c_w c_x = some (c_total', c_h', c_message', c_w', c_x')) : Met l yX10_say wsX10_say ({ frames := 2, cells := 0, slots := 0, locals := 45 }) (zPc D cy tt sz [.ref h0, .int p1] ([(h0, .inr (12, zmo hm c_thrown c_state c_test c_words c_ill c_before c_inRow c_first c_inWindow c_same c_made c_requests c_total c_secrets c_rounds c_high c_low c_keyHigh c_keyLow)), ((hm 0), .inl (cy 1, 64, .inl c_ROUND)), ((hm 30), .inl (cy 1, 8, .inl c_h)), ((hm 33), .inl (cy 1, 64, .inl c_message)), ((hm 31), .inl (cy 1, 64, .inl c_w)), ((hm 32), .inl (cy 1, 8, .inl c_x))])) (zQ D none ([(h0, .inr (12, zmo hm c_thrown c_state c_test c_words c_ill c_before c_inRow c_first c_inWindow c_same c_made c_requests c_total' c_secrets c_rounds c_high c_low c_keyHigh c_keyLow)), ((hm 0), .inl (cy 1, 64, .inl c_ROUND)), ((hm 30), .inl (cy 1, 8, .inl c_h')), ((hm 33), .inl (cy 1, 64, .inl c_message')), ((hm 31), .inl (cy 1, 64, .inl c_w')), ((hm 32), .inl (cy 1, 8, .inl c_x'))]) (va_A ([(h0, .inr (12, zmo hm c_thrown c_state c_test c_words c_ill c_before c_inRow c_first c_inWindow c_same c_made c_requests c_total c_secrets c_rounds c_high c_low c_keyHigh c_keyLow)), ((hm 0), .inl (cy 1, 64, .inl c_ROUND)), ((hm 30), .inl (cy 1, 8, .inl c_h)), ((hm 33), .inl (cy 1, 64, .inl c_message)), ((hm 31), .inl (cy 1, 64, .inl c_w)), ((hm 32), .inl (cy 1, 8, .inl c_x))]) sz)) 0 0 (va_A ([(h0, .inr (12, zmo hm c_thrown c_state c_test c_words c_ill c_before c_inRow c_first c_inWindow c_same c_made c_requests c_total c_secrets c_rounds c_high c_low c_keyHigh c_keyLow)), ((hm 0), .inl (cy 1, 64, .inl c_ROUND)), ((hm 30), .inl (cy 1, 8, .inl c_h)), ((hm 33), .inl (cy 1, 64, .inl c_message)), ((hm 31), .inl (cy 1, 64, .inl c_w)), ((hm 32), .inl (cy 1, 8, .inl c_x))]) sz) := by
  refine Met.ofW (cc := cX10_say) (maxL := 2) (ret := none) (by decide) rfl ?_
  intro p e s m args below meth c s₁ B hml hv
  obtain ⟨rfl, rfl, hP, hD0, hE⟩ := hv
  have hx := B.exec
  have hb := B.bytes
  have hr := B.returns
  have hts := atoms_spec (ws := wsX10_say) B.pre
  have hown : s.vm.findClass RX10 = some m.cls := findClass_of_methodNamed B.named
  have hlocks := B.notSynchronized
  clear B
  have hD := hD0.self (sz := s.heap.size)
  generalize hAe : va_A ([(h0, .inr (12, zmo hm c_thrown c_state c_test c_words c_ill c_before c_inRow c_first c_inWindow c_same c_made c_requests c_total c_secrets c_rounds c_high c_low c_keyHigh c_keyLow)), ((hm 0), .inl (cy 1, 64, .inl c_ROUND)), ((hm 30), .inl (cy 1, 8, .inl c_h)), ((hm 33), .inl (cy 1, 64, .inl c_message)), ((hm 31), .inl (cy 1, 64, .inl c_w)), ((hm 32), .inl (cy 1, 8, .inl c_x))]) s.heap.size = A at hD hE ⊢
  have hA : ∀ q : Nat, s.heap.size ≤ q → A q := fun q h => by rw [← hAe]; exact Or.inr h
  clear hAe hD0
  have hS : va_S A s.heap s.heap [] := va_S.rf
  have hK := hE.1
  have hw0 := hts (.fieldLink RX10 141 "SealedModuleModel" "message" "[I") (by decide +kernel)
  have hw1 := hts (.fieldLink RX10 214 "SealedModuleModel" "total" "J") (by decide +kernel)
  have hw2 := hts (.constantLong RX10 218 (64)) (by decide +kernel)
  have hcX10 : ∀ w ∈ u_ws RX10 TX10 52, w ∈ wsX10_say := (fun _ h => List.mem_cons_of_mem _ (List.mem_append_right _ h))
  have hl := lv_entry ([.ref h0, .int p1]) (n := 2) (Nat.le_of_ble_eq_true rfl)
  rw [lg_entry_eq]
  generalize (lg_sl ([.ref h0, .int p1]) ++ List.replicate (2 - (lg_sl ([.ref h0, .int p1])).length) Slot.unset).toArray = ls at hl ⊢
  replace hl : lv_has ls 2 [(0, .ref h0), (1, .int p1)] := hl
  unfold f_X10_say at hf
  refine zgo (fun GW hTo hFr => ?_)
  refine hFr _ _ _ ?_
  obtain ⟨H, hHe⟩ : ∃ H, H = s.heap := ⟨_, rfl⟩
  obtain ⟨locs, hLe⟩ : ∃ L : List Loc, L = [] := ⟨_, rfl⟩
  rw [← hHe] at hP
  replace hS : va_S A s.heap H locs := by rw [hHe, hLe]; exact hS
  refine zat hHe.symm hLe.symm ?_
  clear hHe hLe
  refine lv_aload_n (pc := 0) hx hb (zdt_at zt_X10_say_0 0 rfl) rfl (lv_at hl 0 rfl) ?_
  refine va_get (pc := 1) (D := D) (ci := 12) (v := .ref (hm 33)) (C := RX10) (T := TX10) (N := 52) hx hb hts hcX10 hown hK hP 0 rfl rfl 33 (by decide) hw0 (fun _ h9 => h9) rfl (zdt_at zt_X10_say_0 1 rfl) ?_
  refine lv_aload_n (pc := 4) hx hb (zdt_at zt_X10_say_0 2 rfl) rfl (lv_at hl 0 rfl) ?_
  refine va_get (pc := 5) (D := D) (ci := 12) (v := .long c_total) (C := RX10) (T := TX10) (N := 52) hx hb hts hcX10 hown hK hP 0 rfl rfl 34 (by decide) hw1 (fun _ h9 => h9) rfl (zdt_at zt_X10_say_0 3 rfl) ?_
  refine lv_ldc2 (pc := 8) hx hb hown hw2 (zdt_at zt_X10_say_0 4 rfl) ?_
  replace hf := zk_s hf
  refine lv_lrem (pc := 11) hx hb (zdt_at zt_X10_say_0 5 rfl) hf.1 ?_
  replace hf := hf.2
  refine lv_l2i (pc := 12) hx hb (zdt_at zt_X10_say_0 6 rfl) rfl ?_
  refine lv_iload_n (pc := 13) hx hb (zdt_at zt_X10_say_0 7 rfl) rfl (lv_at hl 1 rfl) ?_
  refine lv_sipush (pc := 14) (v := (255 : Int32)) hx hb (zdt_at zt_X10_say_0 8 rfl) (by decide) ?_
  refine lv_iand (pc := 17) hx hb (zdt_at zt_X10_say_0 9 rfl) ?_
  replace hf := zk_s hf
  refine va_iast (pc := 18) hx hb hK hP hD hS 3 1 rfl rfl hf.1 (zdt_at zt_X10_say_0 10 rfl) ?_
  replace hf := hf.2
  clear hP hD hS
  intro H locs hP hD hS
  obtain ⟨c_message_1, e_⟩ : ∃ q : Nat → Int32, q = (upd c_message ((c_total - c_total / (64 : Int64) * (64 : Int64)).toInt32).toNatClampNeg (p1 &&& (255 : Int32))) := ⟨_, rfl⟩
  replace hf := zn_s hf e_
  replace hP : va_P D vwCl ([(h0, .inr (12, zmo hm c_thrown c_state c_test c_words c_ill c_before c_inRow c_first c_inWindow c_same c_made c_requests c_total c_secrets c_rounds c_high c_low c_keyHigh c_keyLow)), ((hm 0), .inl (cy 1, 64, .inl c_ROUND)), ((hm 30), .inl (cy 1, 8, .inl c_h)), ((hm 33), .inl (cy 1, 64, .inl c_message_1)), ((hm 31), .inl (cy 1, 64, .inl c_w)), ((hm 32), .inl (cy 1, 8, .inl c_x))]) H := by rw [e_]; exact hP
  replace hD : va_D A ([(h0, .inr (12, zmo hm c_thrown c_state c_test c_words c_ill c_before c_inRow c_first c_inWindow c_same c_made c_requests c_total c_secrets c_rounds c_high c_low c_keyHigh c_keyLow)), ((hm 0), .inl (cy 1, 64, .inl c_ROUND)), ((hm 30), .inl (cy 1, 8, .inl c_h)), ((hm 33), .inl (cy 1, 64, .inl c_message_1)), ((hm 31), .inl (cy 1, 64, .inl c_w)), ((hm 32), .inl (cy 1, 8, .inl c_x))]) := by rw [e_]; exact hD
  clear e_
  refine lv_aload_n (pc := 19) hx hb (zdt_at zt_X10_say_0 11 rfl) rfl (lv_at hl 0 rfl) ?_
  refine lv_dup (pc := 20) hx hb (zdt_at zt_X10_say_0 12 rfl) rfl ?_
  refine va_get (pc := 21) (D := D) (ci := 12) (v := .long c_total) (C := RX10) (T := TX10) (N := 52) hx hb hts hcX10 hown hK hP 0 rfl rfl 34 (by decide) hw1 (fun _ h9 => h9) rfl (zdt_at zt_X10_say_0 13 rfl) ?_
  refine lv_lconst (pc := 24) (v := (1 : Int64)) hx hb (zdt_at zt_X10_say_0 14 rfl) (by decide) ?_
  refine lv_ladd (pc := 25) hx hb (zdt_at zt_X10_say_0 15 rfl) ?_
  refine lv_topl (fun x_2 e_ => ?_)
  replace hf := zn_s hf e_
  clear e_
  refine va_put (pc := 26) (D := D) (ci := 12) (v := .long x_2) (ty := .long) (C := RX10) (T := TX10) (N := 52) hx hb hts hcX10 tyX10 tyX10_ok nmX10 hown hK hP hD hS 0 rfl rfl 34 (by decide) hw1 (fun _ h9 => h9) rfl (by decide +kernel) rfl rfl (Nat.le_of_ble_eq_true rfl) (zdt_at zt_X10_say_0 16 rfl) ?_
  clear hP hD hS
  intro H locs hP hD hS
  replace hP : va_P D vwCl ([(h0, .inr (12, zmo hm c_thrown c_state c_test c_words c_ill c_before c_inRow c_first c_inWindow c_same c_made c_requests x_2 c_secrets c_rounds c_high c_low c_keyHigh c_keyLow)), ((hm 0), .inl (cy 1, 64, .inl c_ROUND)), ((hm 30), .inl (cy 1, 8, .inl c_h)), ((hm 33), .inl (cy 1, 64, .inl c_message_1)), ((hm 31), .inl (cy 1, 64, .inl c_w)), ((hm 32), .inl (cy 1, 8, .inl c_x))]) H := hP
  replace hD : va_D A ([(h0, .inr (12, zmo hm c_thrown c_state c_test c_words c_ill c_before c_inRow c_first c_inWindow c_same c_made c_requests x_2 c_secrets c_rounds c_high c_low c_keyHigh c_keyLow)), ((hm 0), .inl (cy 1, 64, .inl c_ROUND)), ((hm 30), .inl (cy 1, 8, .inl c_h)), ((hm 33), .inl (cy 1, 64, .inl c_message_1)), ((hm 31), .inl (cy 1, 64, .inl c_w)), ((hm 32), .inl (cy 1, 8, .inl c_x))]) := hD
  refine lv_aload_n (pc := 29) hx hb (zdt_at zt_X10_say_0 17 rfl) rfl (lv_at hl 0 rfl) ?_
  refine va_get (pc := 30) (D := D) (ci := 12) (v := .long x_2) (C := RX10) (T := TX10) (N := 52) hx hb hts hcX10 hown hK hP 0 rfl rfl 34 (by decide) hw1 (fun _ h9 => h9) rfl (zdt_at zt_X10_say_0 18 rfl) ?_
  refine lv_ldc2 (pc := 33) hx hb hown hw2 (zdt_at zt_X10_say_0 19 rfl) ?_
  replace hf := zk_s hf
  refine lv_lrem (pc := 36) hx hb (zdt_at zt_X10_say_0 20 rfl) hf.1 ?_
  replace hf := hf.2
  refine lv_lconst (pc := 37) (v := (0 : Int64)) hx hb (zdt_at zt_X10_say_0 21 rfl) (by decide) ?_
  refine W.lcmp (pc := 38) hx hb (zdt_at zt_X10_say_0 22 rfl) ?_
  refine lv_if_ne (pc := 39) (tgt := 46) hx hb (zdt_at zt_X10_say_0 23 rfl) (by decide) (fun cn_ => ?t_3) (fun cn_ => ?f_4)
  case t_3 =>
    replace hf := ze_s cn_ hf
    clear cn_
    cases hf
    exact W.vret (pc := 46) hx hb hr (fun t ht hW => ⟨rfl, ⟨by rw [ht]; exact hP, hD⟩, hS.F ht⟩) hS.2.2 (zdt_at zt_X10_say_0 26 rfl)
  replace hf := zt_s cn_ hf
  clear cn_
  refine lv_aload_n (pc := 42) hx hb (zdt_at zt_X10_say_0 24 rfl) rfl (lv_at hl 0 rfl) ?_
  replace hf := zb_s hf
  obtain ⟨⟨c_h_5, c_w_6, c_x_7⟩, hc_, hf⟩ := hf
  refine zcn2 (pc := 43) (rv := none) (va_runV (As := []) (rest := []) ⟨hx, hb, hml, hown, hts⟩ (c_X10_compress l D cy tt H.size h0 hm c_ROUND c_h c_message_1 c_w c_x c_thrown c_state c_test c_words c_ill c_before c_inRow c_first c_inWindow c_same c_made c_requests x_2 c_secrets c_rounds c_high c_low c_keyHigh c_keyLow c_h_5 c_w_6 c_x_7 hc_) (cwV 0 hts gX10_say_X10_compress rfl rfl rfl (by decide +kernel) ⟨Nat.le_of_ble_eq_true rfl, Nat.le_of_ble_eq_true rfl⟩) ⟨zblind, va_recv hK hP (ci := 12) (q0 := 0) rfl rfl, zpre hE hS (hP.sub [0, 1, 2, 3, 4, 5] rfl) (hD.sub [0, 1, 2, 3, 4, 5] (by decide) rfl) (va_free hD hS hA [0, 1, 2, 3, 4, 5] rfl)⟩ rfl rfl hl.1 rfl (lv_room (Nat.le_of_ble_eq_true rfl)) (zdt_at zt_X10_say_0 25 rfl) ⟨Nat.zero_le _, Nat.zero_le _⟩) hS hP hD (va_free hD hS hA [0, 1, 2, 3, 4, 5] rfl) [0, 1, 2, 3, 4, 5] rfl (by decide) rfl ?_
  clear hP hD hS hc_
  intro H locs hP hD hS
  replace hP : va_P D vwCl ([(h0, .inr (12, zmo hm c_thrown c_state c_test c_words c_ill c_before c_inRow c_first c_inWindow c_same c_made c_requests x_2 c_secrets c_rounds c_high c_low c_keyHigh c_keyLow)), ((hm 0), .inl (cy 1, 64, .inl c_ROUND)), ((hm 30), .inl (cy 1, 8, .inl c_h_5)), ((hm 33), .inl (cy 1, 64, .inl c_message_1)), ((hm 31), .inl (cy 1, 64, .inl c_w_6)), ((hm 32), .inl (cy 1, 8, .inl c_x_7))]) H := hP
  replace hD : va_D A ([(h0, .inr (12, zmo hm c_thrown c_state c_test c_words c_ill c_before c_inRow c_first c_inWindow c_same c_made c_requests x_2 c_secrets c_rounds c_high c_low c_keyHigh c_keyLow)), ((hm 0), .inl (cy 1, 64, .inl c_ROUND)), ((hm 30), .inl (cy 1, 8, .inl c_h_5)), ((hm 33), .inl (cy 1, 64, .inl c_message_1)), ((hm 31), .inl (cy 1, 64, .inl c_w_6)), ((hm 32), .inl (cy 1, 8, .inl c_x_7))]) := hD
  refine W.eq (g2 := F0 m 46 ls []) rfl ?_
  cases hf
  exact W.vret (pc := 46) hx hb hr (fun t ht hW => ⟨rfl, ⟨by rw [ht]; exact hP, hD⟩, hS.F ht⟩) hS.2.2 (zdt_at zt_X10_say_0 26 rfl)
set_option maxHeartbeats 4000000 in
set_option maxRecDepth 100000 in
theorem c_X10_finish (l : Launch) (D : va_G) (cy : Nat → ClassId) (tt : Nat → Nat) (sz : Nat) (h0 : Nat) (hm : Nat → Nat) (c_total : Int64) (c_ROUND : Nat → Int32) (c_digest : Nat → Int32) (c_h : Nat → Int32) (c_message : Nat → Int32) (c_w : Nat → Int32) (c_x : Nat → Int32) (c_thrown : Int32) (c_state : Int32) (c_test : Int32) (c_words : Int32) (c_ill : Int32) (c_before : Int32) (c_inRow : Int32) (c_first : Int32) (c_inWindow : Int32) (c_same : Int32) (c_made : Int32) (c_requests : Int32) (c_secrets : Int32) (c_rounds : Int32) (c_high : Int64) (c_low : Int64) (c_keyHigh : Int64) (c_keyLow : Int64) (c_total' : Int64) (c_digest' : Nat → Int32) (c_h' : Nat → Int32) (c_message' : Nat → Int32) (c_w' : Nat → Int32) (c_x' : Nat → Int32) (hf : f_X10_finish c_total c_ROUND c_digest c_h c_message c_w c_x = some (c_total', c_digest', c_h', c_message', c_w', c_x')) : Met l yX10_finish wsX10_finish ({ frames := 3, cells := 0, slots := 0, locals := 66 }) (zPc D cy tt sz [.ref h0] ([(h0, .inr (12, zmo hm c_thrown c_state c_test c_words c_ill c_before c_inRow c_first c_inWindow c_same c_made c_requests c_total c_secrets c_rounds c_high c_low c_keyHigh c_keyLow)), ((hm 0), .inl (cy 1, 64, .inl c_ROUND)), ((hm 35), .inl (cy 1, 32, .inl c_digest)), ((hm 30), .inl (cy 1, 8, .inl c_h)), ((hm 33), .inl (cy 1, 64, .inl c_message)), ((hm 31), .inl (cy 1, 64, .inl c_w)), ((hm 32), .inl (cy 1, 8, .inl c_x))])) (zQ D none ([(h0, .inr (12, zmo hm c_thrown c_state c_test c_words c_ill c_before c_inRow c_first c_inWindow c_same c_made c_requests c_total' c_secrets c_rounds c_high c_low c_keyHigh c_keyLow)), ((hm 0), .inl (cy 1, 64, .inl c_ROUND)), ((hm 35), .inl (cy 1, 32, .inl c_digest')), ((hm 30), .inl (cy 1, 8, .inl c_h')), ((hm 33), .inl (cy 1, 64, .inl c_message')), ((hm 31), .inl (cy 1, 64, .inl c_w')), ((hm 32), .inl (cy 1, 8, .inl c_x'))]) (va_A ([(h0, .inr (12, zmo hm c_thrown c_state c_test c_words c_ill c_before c_inRow c_first c_inWindow c_same c_made c_requests c_total c_secrets c_rounds c_high c_low c_keyHigh c_keyLow)), ((hm 0), .inl (cy 1, 64, .inl c_ROUND)), ((hm 35), .inl (cy 1, 32, .inl c_digest)), ((hm 30), .inl (cy 1, 8, .inl c_h)), ((hm 33), .inl (cy 1, 64, .inl c_message)), ((hm 31), .inl (cy 1, 64, .inl c_w)), ((hm 32), .inl (cy 1, 8, .inl c_x))]) sz)) 0 0 (va_A ([(h0, .inr (12, zmo hm c_thrown c_state c_test c_words c_ill c_before c_inRow c_first c_inWindow c_same c_made c_requests c_total c_secrets c_rounds c_high c_low c_keyHigh c_keyLow)), ((hm 0), .inl (cy 1, 64, .inl c_ROUND)), ((hm 35), .inl (cy 1, 32, .inl c_digest)), ((hm 30), .inl (cy 1, 8, .inl c_h)), ((hm 33), .inl (cy 1, 64, .inl c_message)), ((hm 31), .inl (cy 1, 64, .inl c_w)), ((hm 32), .inl (cy 1, 8, .inl c_x))]) sz) := by
  refine Met.ofW (cc := cX10_finish) (maxL := 4) (ret := none) (by decide) rfl ?_
  intro p e s m args below meth c s₁ B hml hv
  obtain ⟨rfl, rfl, hP, hD0, hE⟩ := hv
  have hx := B.exec
  have hb := B.bytes
  have hr := B.returns
  have hts := atoms_spec (ws := wsX10_finish) B.pre
  have hown : s.vm.findClass RX10 = some m.cls := findClass_of_methodNamed B.named
  have hlocks := B.notSynchronized
  clear B
  have hD := hD0.self (sz := s.heap.size)
  generalize hAe : va_A ([(h0, .inr (12, zmo hm c_thrown c_state c_test c_words c_ill c_before c_inRow c_first c_inWindow c_same c_made c_requests c_total c_secrets c_rounds c_high c_low c_keyHigh c_keyLow)), ((hm 0), .inl (cy 1, 64, .inl c_ROUND)), ((hm 35), .inl (cy 1, 32, .inl c_digest)), ((hm 30), .inl (cy 1, 8, .inl c_h)), ((hm 33), .inl (cy 1, 64, .inl c_message)), ((hm 31), .inl (cy 1, 64, .inl c_w)), ((hm 32), .inl (cy 1, 8, .inl c_x))]) s.heap.size = A at hD hE ⊢
  have hA : ∀ q : Nat, s.heap.size ≤ q → A q := fun q h => by rw [← hAe]; exact Or.inr h
  clear hAe hD0
  have hS : va_S A s.heap s.heap [] := va_S.rf
  have hK := hE.1
  have hw0 := hts (.constantLong RX10 226 (8)) (by decide +kernel)
  have hw1 := hts (.fieldLink RX10 214 "SealedModuleModel" "total" "J") (by decide +kernel)
  have hw2 := hts (.fieldLink RX10 144 "SealedModuleModel" "digest" "[I") (by decide +kernel)
  have hw3 := hts (.fieldLink RX10 132 "SealedModuleModel" "h" "[I") (by decide +kernel)
  have hw4 := hts (.constantLong RX10 218 (64)) (by decide +kernel)
  have hw5 := hts (.constantLong RX10 231 (56)) (by decide +kernel)
  have hcX10 : ∀ w ∈ u_ws RX10 TX10 52, w ∈ wsX10_finish := (fun _ h => List.mem_cons_of_mem _ (List.mem_append_right _ h))
  have hl := lv_entry ([.ref h0]) (n := 4) (Nat.le_of_ble_eq_true rfl)
  rw [lg_entry_eq]
  generalize (lg_sl ([.ref h0]) ++ List.replicate (4 - (lg_sl ([.ref h0])).length) Slot.unset).toArray = ls at hl ⊢
  replace hl : lv_has ls 4 [(0, .ref h0)] := hl
  unfold f_X10_finish at hf
  refine zgo (fun GW hTo hFr => ?_)
  refine hFr _ _ _ ?_
  obtain ⟨H, hHe⟩ : ∃ H, H = s.heap := ⟨_, rfl⟩
  obtain ⟨locs, hLe⟩ : ∃ L : List Loc, L = [] := ⟨_, rfl⟩
  rw [← hHe] at hP
  replace hS : va_S A s.heap H locs := by rw [hHe, hLe]; exact hS
  refine zat hHe.symm hLe.symm ?_
  clear hHe hLe
  refine lv_ldc2 (pc := 0) hx hb hown hw0 (zdt_at zt_X10_finish_0 0 rfl) ?_
  refine lv_aload_n (pc := 3) hx hb (zdt_at zt_X10_finish_0 1 rfl) rfl (lv_at hl 0 rfl) ?_
  refine va_get (pc := 4) (D := D) (ci := 12) (v := .long c_total) (C := RX10) (T := TX10) (N := 52) hx hb hts hcX10 hown hK hP 0 rfl rfl 34 (by decide) hw1 (fun _ h9 => h9) rfl (zdt_at zt_X10_finish_0 2 rfl) ?_
  refine lv_lmul (pc := 7) hx hb (zdt_at zt_X10_finish_0 3 rfl) ?_
  refine lv_topl (fun x_1 e_ => ?_)
  replace hf := zn_s hf e_
  clear e_
  refine lv_lstore_n (pc := 8) (lv' := [(1, .long x_1), (0, .ref h0)]) hx hb (zdt_at zt_X10_finish_0 4 rfl) rfl hl (by decide) rfl ?_
  clear hl
  intro ls hl
  refine lv_aload_n (pc := 9) hx hb (zdt_at zt_X10_finish_0 5 rfl) rfl (lv_at hl 1 rfl) ?_
  refine lv_sipush (pc := 10) (v := (128 : Int32)) hx hb (zdt_at zt_X10_finish_0 6 rfl) (by decide) ?_
  replace hf := zb_s hf
  obtain ⟨⟨c_total_2, c_h_3, c_message_4, c_w_5, c_x_6⟩, hc_, hf⟩ := hf
  refine zcn2 (pc := 13) (rv := none) (va_runV (As := [.int (128 : Int32)]) (rest := []) ⟨hx, hb, hml, hown, hts⟩ (c_X10_say l D cy tt H.size h0 hm (128 : Int32) c_total c_ROUND c_h c_message c_w c_x c_thrown c_state c_test c_words c_ill c_before c_inRow c_first c_inWindow c_same c_made c_requests c_secrets c_rounds c_high c_low c_keyHigh c_keyLow c_total_2 c_h_3 c_message_4 c_w_5 c_x_6 hc_) (cwV 1 hts gX10_finish_X10_say rfl rfl rfl (by decide +kernel) ⟨Nat.le_of_ble_eq_true rfl, Nat.le_of_ble_eq_true rfl⟩) ⟨zblind, va_recv hK hP (ci := 12) (q0 := 0) rfl rfl, zpre hE hS (hP.sub [0, 1, 3, 4, 5, 6] rfl) (hD.sub [0, 1, 3, 4, 5, 6] (by decide) rfl) (va_free hD hS hA [0, 1, 3, 4, 5, 6] rfl)⟩ rfl rfl hl.1 rfl (lv_room (Nat.le_of_ble_eq_true rfl)) (zdt_at zt_X10_finish_0 7 rfl) ⟨Nat.zero_le _, Nat.zero_le _⟩) hS hP hD (va_free hD hS hA [0, 1, 3, 4, 5, 6] rfl) [0, 1, 3, 4, 5, 6] rfl (by decide) rfl ?_
  clear hP hD hS hc_
  intro H locs hP hD hS
  replace hP : va_P D vwCl ([(h0, .inr (12, zmo hm c_thrown c_state c_test c_words c_ill c_before c_inRow c_first c_inWindow c_same c_made c_requests c_total_2 c_secrets c_rounds c_high c_low c_keyHigh c_keyLow)), ((hm 0), .inl (cy 1, 64, .inl c_ROUND)), ((hm 35), .inl (cy 1, 32, .inl c_digest)), ((hm 30), .inl (cy 1, 8, .inl c_h_3)), ((hm 33), .inl (cy 1, 64, .inl c_message_4)), ((hm 31), .inl (cy 1, 64, .inl c_w_5)), ((hm 32), .inl (cy 1, 8, .inl c_x_6))]) H := hP
  replace hD : va_D A ([(h0, .inr (12, zmo hm c_thrown c_state c_test c_words c_ill c_before c_inRow c_first c_inWindow c_same c_made c_requests c_total_2 c_secrets c_rounds c_high c_low c_keyHigh c_keyLow)), ((hm 0), .inl (cy 1, 64, .inl c_ROUND)), ((hm 35), .inl (cy 1, 32, .inl c_digest)), ((hm 30), .inl (cy 1, 8, .inl c_h_3)), ((hm 33), .inl (cy 1, 64, .inl c_message_4)), ((hm 31), .inl (cy 1, 64, .inl c_w_5)), ((hm 32), .inl (cy 1, 8, .inl c_x_6))]) := hD
  refine W.eq (g2 := F0 m 16 ls []) rfl ?_
  replace hf := zj_s hf
  obtain ⟨K_17, eK_17, hf⟩ := hf
  have kK_17 : ∀ (c_h_12 : Nat → Int32) (c_message_13 : Nat → Int32) (c_total_14 : Int64) (c_w_15 : Nat → Int32) (c_x_16 : Nat → Int32) (H : Heap) (locs : List Loc) (ls : Array Slot), va_P D vwCl ([(h0, .inr (12, zmo hm c_thrown c_state c_test c_words c_ill c_before c_inRow c_first c_inWindow c_same c_made c_requests c_total_14 c_secrets c_rounds c_high c_low c_keyHigh c_keyLow)), ((hm 0), .inl (cy 1, 64, .inl c_ROUND)), ((hm 35), .inl (cy 1, 32, .inl c_digest)), ((hm 30), .inl (cy 1, 8, .inl c_h_12)), ((hm 33), .inl (cy 1, 64, .inl c_message_13)), ((hm 31), .inl (cy 1, 64, .inl c_w_15)), ((hm 32), .inl (cy 1, 8, .inl c_x_16))]) H → va_D A ([(h0, .inr (12, zmo hm c_thrown c_state c_test c_words c_ill c_before c_inRow c_first c_inWindow c_same c_made c_requests c_total_14 c_secrets c_rounds c_high c_low c_keyHigh c_keyLow)), ((hm 0), .inl (cy 1, 64, .inl c_ROUND)), ((hm 35), .inl (cy 1, 32, .inl c_digest)), ((hm 30), .inl (cy 1, 8, .inl c_h_12)), ((hm 33), .inl (cy 1, 64, .inl c_message_13)), ((hm 31), .inl (cy 1, 64, .inl c_w_15)), ((hm 32), .inl (cy 1, 8, .inl c_x_16))]) → va_S A s.heap H locs → lv_has ls 4 [(0, .ref h0), (1, .long x_1)] → K_17 c_h_12 c_message_13 c_total_14 c_w_15 c_x_16 = some (c_total', c_digest', c_h', c_message', c_w', c_x') → GW H locs (F0 m 39 ls []) := by
    clear hf hl hP hD hS
    intro c_h_12 c_message_13 c_total_14 c_w_15 c_x_16 H locs ls hP hD hS hl hf
    rw [eK_17] at hf
    clear eK_17
    refine hFr _ _ _ ?_
    refine lv_bipush (pc := 39) (v := (7 : Int32)) hx hb (zdt_at zt_X10_finish_0 19 rfl) (by decide) ?_
    refine lv_istore_n (pc := 41) (lv' := [(3, .int (7 : Int32)), (0, .ref h0), (1, .long x_1)]) hx hb (zdt_at zt_X10_finish_0 20 rfl) rfl hl (by decide) rfl ?_
    clear hl
    intro ls hl
    replace hf := zj_s hf
    obtain ⟨K_29, eK_29, hf⟩ := hf
    have kK_29 : ∀ (c_h_24 : Nat → Int32) (c_message_25 : Nat → Int32) (c_total_26 : Int64) (c_w_27 : Nat → Int32) (c_x_28 : Nat → Int32) (H : Heap) (locs : List Loc) (ls : Array Slot), va_P D vwCl ([(h0, .inr (12, zmo hm c_thrown c_state c_test c_words c_ill c_before c_inRow c_first c_inWindow c_same c_made c_requests c_total_26 c_secrets c_rounds c_high c_low c_keyHigh c_keyLow)), ((hm 0), .inl (cy 1, 64, .inl c_ROUND)), ((hm 35), .inl (cy 1, 32, .inl c_digest)), ((hm 30), .inl (cy 1, 8, .inl c_h_24)), ((hm 33), .inl (cy 1, 64, .inl c_message_25)), ((hm 31), .inl (cy 1, 64, .inl c_w_27)), ((hm 32), .inl (cy 1, 8, .inl c_x_28))]) H → va_D A ([(h0, .inr (12, zmo hm c_thrown c_state c_test c_words c_ill c_before c_inRow c_first c_inWindow c_same c_made c_requests c_total_26 c_secrets c_rounds c_high c_low c_keyHigh c_keyLow)), ((hm 0), .inl (cy 1, 64, .inl c_ROUND)), ((hm 35), .inl (cy 1, 32, .inl c_digest)), ((hm 30), .inl (cy 1, 8, .inl c_h_24)), ((hm 33), .inl (cy 1, 64, .inl c_message_25)), ((hm 31), .inl (cy 1, 64, .inl c_w_27)), ((hm 32), .inl (cy 1, 8, .inl c_x_28))]) → va_S A s.heap H locs → lv_has ls 4 [(0, .ref h0)] → K_29 c_h_24 c_message_25 c_total_26 c_w_27 c_x_28 = some (c_total', c_digest', c_h', c_message', c_w', c_x') → GW H locs (F0 m 63 ls []) := by
      clear hf hl hP hD hS
      intro c_h_24 c_message_25 c_total_26 c_w_27 c_x_28 H locs ls hP hD hS hl hf
      rw [eK_29] at hf
      clear eK_29
      refine hFr _ _ _ ?_
      refine lv_iconst (pc := 63) (v := (0 : Int32)) hx hb (zdt_at zt_X10_finish_0 33 rfl) (by decide) ?_
      refine lv_istore_n (pc := 64) (lv' := [(3, .int (0 : Int32)), (0, .ref h0)]) hx hb (zdt_at zt_X10_finish_0 34 rfl) rfl hl (by decide) rfl ?_
      clear hl
      intro ls hl
      replace hf := zj_s hf
      obtain ⟨K_33, eK_33, hf⟩ := hf
      have kK_33 : ∀ (c_digest_32 : Nat → Int32) (H : Heap) (locs : List Loc) (ls : Array Slot), va_P D vwCl ([(h0, .inr (12, zmo hm c_thrown c_state c_test c_words c_ill c_before c_inRow c_first c_inWindow c_same c_made c_requests c_total_26 c_secrets c_rounds c_high c_low c_keyHigh c_keyLow)), ((hm 0), .inl (cy 1, 64, .inl c_ROUND)), ((hm 35), .inl (cy 1, 32, .inl c_digest_32)), ((hm 30), .inl (cy 1, 8, .inl c_h_24)), ((hm 33), .inl (cy 1, 64, .inl c_message_25)), ((hm 31), .inl (cy 1, 64, .inl c_w_27)), ((hm 32), .inl (cy 1, 8, .inl c_x_28))]) H → va_D A ([(h0, .inr (12, zmo hm c_thrown c_state c_test c_words c_ill c_before c_inRow c_first c_inWindow c_same c_made c_requests c_total_26 c_secrets c_rounds c_high c_low c_keyHigh c_keyLow)), ((hm 0), .inl (cy 1, 64, .inl c_ROUND)), ((hm 35), .inl (cy 1, 32, .inl c_digest_32)), ((hm 30), .inl (cy 1, 8, .inl c_h_24)), ((hm 33), .inl (cy 1, 64, .inl c_message_25)), ((hm 31), .inl (cy 1, 64, .inl c_w_27)), ((hm 32), .inl (cy 1, 8, .inl c_x_28))]) → va_S A s.heap H locs → lv_has ls 4 [] → K_33 c_digest_32 = some (c_total', c_digest', c_h', c_message', c_w', c_x') → GW H locs (F0 m 105 ls []) := by
        clear hf hl hP hD hS
        intro c_digest_32 H locs ls hP hD hS hl hf
        rw [eK_33] at hf
        clear eK_33
        refine hFr _ _ _ ?_
        cases hf
        exact W.vret (pc := 105) hx hb hr (fun t ht hW => ⟨rfl, ⟨by rw [ht]; exact hP, hD⟩, hS.F ht⟩) hS.2.2 (zdt_at zt_X10_finish_0 60 rfl)
      clear eK_33
      refine hTo _ _ _ (zl_go (fun z => match z with | (i_30, c_digest_31) => ∀ (H : Heap) (locs : List Loc) (ls : Array Slot), va_P D vwCl ([(h0, .inr (12, zmo hm c_thrown c_state c_test c_words c_ill c_before c_inRow c_first c_inWindow c_same c_made c_requests c_total_26 c_secrets c_rounds c_high c_low c_keyHigh c_keyLow)), ((hm 0), .inl (cy 1, 64, .inl c_ROUND)), ((hm 35), .inl (cy 1, 32, .inl c_digest_31)), ((hm 30), .inl (cy 1, 8, .inl c_h_24)), ((hm 33), .inl (cy 1, 64, .inl c_message_25)), ((hm 31), .inl (cy 1, 64, .inl c_w_27)), ((hm 32), .inl (cy 1, 8, .inl c_x_28))]) H → va_D A ([(h0, .inr (12, zmo hm c_thrown c_state c_test c_words c_ill c_before c_inRow c_first c_inWindow c_same c_made c_requests c_total_26 c_secrets c_rounds c_high c_low c_keyHigh c_keyLow)), ((hm 0), .inl (cy 1, 64, .inl c_ROUND)), ((hm 35), .inl (cy 1, 32, .inl c_digest_31)), ((hm 30), .inl (cy 1, 8, .inl c_h_24)), ((hm 33), .inl (cy 1, 64, .inl c_message_25)), ((hm 31), .inl (cy 1, 64, .inl c_w_27)), ((hm 32), .inl (cy 1, 8, .inl c_x_28))]) → va_S A s.heap H locs → lv_has ls 4 [(0, .ref h0), (3, .int i_30)] → GW H locs (F0 m 65 ls [])) hf ?_ H locs ls hP hD hS (lv_sub hl [1, 0] rfl))
      clear hf hl hP hD hS
      intro self_34 ihself_34 z hf
      obtain ⟨i_30, c_digest_31⟩ := z
      intro H locs ls hP hD hS hl
      refine hFr _ _ _ ?_
      unfold b_X10_finish_65 at hf
      refine lv_iload_n (pc := 65) hx hb (zdt_at zt_X10_finish_0 35 rfl) rfl (lv_at hl 1 rfl) ?_
      refine lv_bipush (pc := 66) (v := (32 : Int32)) hx hb (zdt_at zt_X10_finish_0 36 rfl) (by decide) ?_
      refine lv_icmp_ge (pc := 68) (tgt := 105) hx hb (zdt_at zt_X10_finish_0 37 rfl) (by decide) (fun cn_ => ?t_35) (fun cn_ => ?f_36)
      case t_35 =>
        replace hf := zt_s cn_ hf
        clear cn_
        exact hTo _ _ _ (kK_33 _ H locs ls hP hD hS (lv_sub hl [] rfl) hf)
      replace hf := ze_s cn_ hf
      clear cn_
      refine lv_aload_n (pc := 71) hx hb (zdt_at zt_X10_finish_0 38 rfl) rfl (lv_at hl 0 rfl) ?_
      refine va_get (pc := 72) (D := D) (ci := 12) (v := .ref (hm 35)) (C := RX10) (T := TX10) (N := 52) hx hb hts hcX10 hown hK hP 0 rfl rfl 35 (by decide) hw2 (fun _ h9 => h9) rfl (zdt_at zt_X10_finish_0 39 rfl) ?_
      refine lv_iload_n (pc := 75) hx hb (zdt_at zt_X10_finish_0 40 rfl) rfl (lv_at hl 1 rfl) ?_
      refine lv_aload_n (pc := 76) hx hb (zdt_at zt_X10_finish_0 41 rfl) rfl (lv_at hl 0 rfl) ?_
      refine va_get (pc := 77) (D := D) (ci := 12) (v := .ref (hm 30)) (C := RX10) (T := TX10) (N := 52) hx hb hts hcX10 hown hK hP 0 rfl rfl 30 (by decide) hw3 (fun _ h9 => h9) rfl (zdt_at zt_X10_finish_0 42 rfl) ?_
      refine lv_iload_n (pc := 80) hx hb (zdt_at zt_X10_finish_0 43 rfl) rfl (lv_at hl 1 rfl) ?_
      refine lv_iconst (pc := 81) (v := (4 : Int32)) hx hb (zdt_at zt_X10_finish_0 44 rfl) (by decide) ?_
      replace hf := zk_s hf
      refine lv_idiv (pc := 82) hx hb (zdt_at zt_X10_finish_0 45 rfl) hf.1 ?_
      replace hf := hf.2
      replace hf := zk_s hf
      refine va_iald (pc := 83) hx hb hK hP 3 1 rfl rfl hf.1 (zdt_at zt_X10_finish_0 46 rfl) ?_
      replace hf := hf.2
      refine lv_bipush (pc := 84) (v := (24 : Int32)) hx hb (zdt_at zt_X10_finish_0 47 rfl) (by decide) ?_
      refine lv_bipush (pc := 86) (v := (8 : Int32)) hx hb (zdt_at zt_X10_finish_0 48 rfl) (by decide) ?_
      refine lv_iload_n (pc := 88) hx hb (zdt_at zt_X10_finish_0 49 rfl) rfl (lv_at hl 1 rfl) ?_
      refine lv_iconst (pc := 89) (v := (4 : Int32)) hx hb (zdt_at zt_X10_finish_0 50 rfl) (by decide) ?_
      replace hf := zk_s hf
      refine lv_irem (pc := 90) hx hb (zdt_at zt_X10_finish_0 51 rfl) hf.1 ?_
      replace hf := hf.2
      refine lv_imul (pc := 91) hx hb (zdt_at zt_X10_finish_0 52 rfl) ?_
      refine lv_isub (pc := 92) hx hb (zdt_at zt_X10_finish_0 53 rfl) ?_
      refine lv_ishr (pc := 93) hx hb (zdt_at zt_X10_finish_0 54 rfl) ?_
      refine lv_sipush (pc := 94) (v := (255 : Int32)) hx hb (zdt_at zt_X10_finish_0 55 rfl) (by decide) ?_
      refine lv_iand (pc := 97) hx hb (zdt_at zt_X10_finish_0 56 rfl) ?_
      replace hf := zk_s hf
      refine va_iast (pc := 98) hx hb hK hP hD hS 2 1 rfl rfl hf.1 (zdt_at zt_X10_finish_0 57 rfl) ?_
      replace hf := hf.2
      clear hP hD hS
      intro H locs hP hD hS
      obtain ⟨c_digest_37, e_⟩ : ∃ q : Nat → Int32, q = (upd c_digest_31 i_30.toNatClampNeg (((c_h_24 (i_30 / (4 : Int32)).toNatClampNeg) >>> (((24 : Int32) - ((8 : Int32) * (i_30 - i_30 / (4 : Int32) * (4 : Int32)))) &&& 31)) &&& (255 : Int32))) := ⟨_, rfl⟩
      replace hf := zn_s hf e_
      replace hP : va_P D vwCl ([(h0, .inr (12, zmo hm c_thrown c_state c_test c_words c_ill c_before c_inRow c_first c_inWindow c_same c_made c_requests c_total_26 c_secrets c_rounds c_high c_low c_keyHigh c_keyLow)), ((hm 0), .inl (cy 1, 64, .inl c_ROUND)), ((hm 35), .inl (cy 1, 32, .inl c_digest_37)), ((hm 30), .inl (cy 1, 8, .inl c_h_24)), ((hm 33), .inl (cy 1, 64, .inl c_message_25)), ((hm 31), .inl (cy 1, 64, .inl c_w_27)), ((hm 32), .inl (cy 1, 8, .inl c_x_28))]) H := by rw [e_]; exact hP
      replace hD : va_D A ([(h0, .inr (12, zmo hm c_thrown c_state c_test c_words c_ill c_before c_inRow c_first c_inWindow c_same c_made c_requests c_total_26 c_secrets c_rounds c_high c_low c_keyHigh c_keyLow)), ((hm 0), .inl (cy 1, 64, .inl c_ROUND)), ((hm 35), .inl (cy 1, 32, .inl c_digest_37)), ((hm 30), .inl (cy 1, 8, .inl c_h_24)), ((hm 33), .inl (cy 1, 64, .inl c_message_25)), ((hm 31), .inl (cy 1, 64, .inl c_w_27)), ((hm 32), .inl (cy 1, 8, .inl c_x_28))]) := by rw [e_]; exact hD
      clear e_
      refine lv_iinc (pc := 99) (v := (i_30 + (1 : Int32))) (lv' := [(3, .int (i_30 + (1 : Int32))), (0, .ref h0)]) hx hb (zdt_at zt_X10_finish_0 58 rfl) hl (k := 1) rfl rfl (by decide) rfl ?_
      clear hl
      intro ls hl
      refine lv_goto (pc := 102) (tgt := 65) hx hb (zdt_at zt_X10_finish_0 59 rfl) (by decide) ?_
      exact hTo _ _ _ (ihself_34 _ hf H locs ls hP hD hS (lv_sub hl [1, 0] rfl))
    clear eK_29
    refine hTo _ _ _ (zl_go (fun z => match z with | (i_18, c_h_19, c_message_20, c_total_21, c_w_22, c_x_23) => ∀ (H : Heap) (locs : List Loc) (ls : Array Slot), va_P D vwCl ([(h0, .inr (12, zmo hm c_thrown c_state c_test c_words c_ill c_before c_inRow c_first c_inWindow c_same c_made c_requests c_total_21 c_secrets c_rounds c_high c_low c_keyHigh c_keyLow)), ((hm 0), .inl (cy 1, 64, .inl c_ROUND)), ((hm 35), .inl (cy 1, 32, .inl c_digest)), ((hm 30), .inl (cy 1, 8, .inl c_h_19)), ((hm 33), .inl (cy 1, 64, .inl c_message_20)), ((hm 31), .inl (cy 1, 64, .inl c_w_22)), ((hm 32), .inl (cy 1, 8, .inl c_x_23))]) H → va_D A ([(h0, .inr (12, zmo hm c_thrown c_state c_test c_words c_ill c_before c_inRow c_first c_inWindow c_same c_made c_requests c_total_21 c_secrets c_rounds c_high c_low c_keyHigh c_keyLow)), ((hm 0), .inl (cy 1, 64, .inl c_ROUND)), ((hm 35), .inl (cy 1, 32, .inl c_digest)), ((hm 30), .inl (cy 1, 8, .inl c_h_19)), ((hm 33), .inl (cy 1, 64, .inl c_message_20)), ((hm 31), .inl (cy 1, 64, .inl c_w_22)), ((hm 32), .inl (cy 1, 8, .inl c_x_23))]) → va_S A s.heap H locs → lv_has ls 4 [(0, .ref h0), (1, .long x_1), (3, .int i_18)] → GW H locs (F0 m 42 ls [])) hf ?_ H locs ls hP hD hS (lv_sub hl [1, 2, 0] rfl))
    clear hf hl hP hD hS
    intro self_38 ihself_38 z hf
    obtain ⟨i_18, c_h_19, c_message_20, c_total_21, c_w_22, c_x_23⟩ := z
    intro H locs ls hP hD hS hl
    refine hFr _ _ _ ?_
    unfold b_X10_finish_42 at hf
    refine lv_iload_n (pc := 42) hx hb (zdt_at zt_X10_finish_0 21 rfl) rfl (lv_at hl 2 rfl) ?_
    refine lv_if_lt (pc := 43) (tgt := 63) hx hb (zdt_at zt_X10_finish_0 22 rfl) (by decide) (fun cn_ => ?t_39) (fun cn_ => ?f_40)
    case t_39 =>
      replace hf := zt_s cn_ hf
      clear cn_
      exact hTo _ _ _ (kK_29 _ _ _ _ _ H locs ls hP hD hS (lv_sub hl [0] rfl) hf)
    replace hf := ze_s cn_ hf
    clear cn_
    refine lv_aload_n (pc := 46) hx hb (zdt_at zt_X10_finish_0 23 rfl) rfl (lv_at hl 0 rfl) ?_
    refine lv_lload_n (pc := 47) hx hb (zdt_at zt_X10_finish_0 24 rfl) rfl (lv_at hl 1 rfl) ?_
    refine lv_bipush (pc := 48) (v := (8 : Int32)) hx hb (zdt_at zt_X10_finish_0 25 rfl) (by decide) ?_
    refine lv_iload_n (pc := 50) hx hb (zdt_at zt_X10_finish_0 26 rfl) rfl (lv_at hl 2 rfl) ?_
    refine lv_imul (pc := 51) hx hb (zdt_at zt_X10_finish_0 27 rfl) ?_
    refine lv_lushr (pc := 52) hx hb (zdt_at zt_X10_finish_0 28 rfl) rfl ?_
    refine lv_l2i (pc := 53) hx hb (zdt_at zt_X10_finish_0 29 rfl) rfl ?_
    replace hf := zb_s hf
    obtain ⟨⟨c_total_41, c_h_42, c_message_43, c_w_44, c_x_45⟩, hc_, hf⟩ := hf
    refine zcn2 (pc := 54) (rv := none) (va_runV (As := [.int (((x_1.toUInt64 >>> (((8 : Int32) * i_18).toInt64.toUInt64 &&& Int64.toUInt64 63)).toInt64).toInt32)]) (rest := []) ⟨hx, hb, hml, hown, hts⟩ (c_X10_say l D cy tt H.size h0 hm (((x_1.toUInt64 >>> (((8 : Int32) * i_18).toInt64.toUInt64 &&& Int64.toUInt64 63)).toInt64).toInt32) c_total_21 c_ROUND c_h_19 c_message_20 c_w_22 c_x_23 c_thrown c_state c_test c_words c_ill c_before c_inRow c_first c_inWindow c_same c_made c_requests c_secrets c_rounds c_high c_low c_keyHigh c_keyLow c_total_41 c_h_42 c_message_43 c_w_44 c_x_45 hc_) (cwV 1 hts gX10_finish_X10_say rfl rfl rfl (by decide +kernel) ⟨Nat.le_of_ble_eq_true rfl, Nat.le_of_ble_eq_true rfl⟩) ⟨zblind, va_recv hK hP (ci := 12) (q0 := 0) rfl rfl, zpre hE hS (hP.sub [0, 1, 3, 4, 5, 6] rfl) (hD.sub [0, 1, 3, 4, 5, 6] (by decide) rfl) (va_free hD hS hA [0, 1, 3, 4, 5, 6] rfl)⟩ rfl rfl hl.1 rfl (lv_room (Nat.le_of_ble_eq_true rfl)) (zdt_at zt_X10_finish_0 30 rfl) ⟨Nat.zero_le _, Nat.zero_le _⟩) hS hP hD (va_free hD hS hA [0, 1, 3, 4, 5, 6] rfl) [0, 1, 3, 4, 5, 6] rfl (by decide) rfl ?_
    clear hP hD hS hc_
    intro H locs hP hD hS
    replace hP : va_P D vwCl ([(h0, .inr (12, zmo hm c_thrown c_state c_test c_words c_ill c_before c_inRow c_first c_inWindow c_same c_made c_requests c_total_41 c_secrets c_rounds c_high c_low c_keyHigh c_keyLow)), ((hm 0), .inl (cy 1, 64, .inl c_ROUND)), ((hm 35), .inl (cy 1, 32, .inl c_digest)), ((hm 30), .inl (cy 1, 8, .inl c_h_42)), ((hm 33), .inl (cy 1, 64, .inl c_message_43)), ((hm 31), .inl (cy 1, 64, .inl c_w_44)), ((hm 32), .inl (cy 1, 8, .inl c_x_45))]) H := hP
    replace hD : va_D A ([(h0, .inr (12, zmo hm c_thrown c_state c_test c_words c_ill c_before c_inRow c_first c_inWindow c_same c_made c_requests c_total_41 c_secrets c_rounds c_high c_low c_keyHigh c_keyLow)), ((hm 0), .inl (cy 1, 64, .inl c_ROUND)), ((hm 35), .inl (cy 1, 32, .inl c_digest)), ((hm 30), .inl (cy 1, 8, .inl c_h_42)), ((hm 33), .inl (cy 1, 64, .inl c_message_43)), ((hm 31), .inl (cy 1, 64, .inl c_w_44)), ((hm 32), .inl (cy 1, 8, .inl c_x_45))]) := hD
    refine W.eq (g2 := F0 m 57 ls []) rfl ?_
    refine lv_iinc (pc := 57) (v := (i_18 + (-1 : Int32))) (lv' := [(3, .int (i_18 + (-1 : Int32))), (0, .ref h0), (1, .long x_1)]) hx hb (zdt_at zt_X10_finish_0 31 rfl) hl (k := 2) rfl rfl (by decide) rfl ?_
    clear hl
    intro ls hl
    refine lv_goto (pc := 60) (tgt := 42) hx hb (zdt_at zt_X10_finish_0 32 rfl) (by decide) ?_
    exact hTo _ _ _ (ihself_38 _ hf H locs ls hP hD hS (lv_sub hl [1, 2, 0] rfl))
  clear eK_17
  refine hTo _ _ _ (zl_go (fun z => match z with | (c_h_7, c_message_8, c_total_9, c_w_10, c_x_11) => ∀ (H : Heap) (locs : List Loc) (ls : Array Slot), va_P D vwCl ([(h0, .inr (12, zmo hm c_thrown c_state c_test c_words c_ill c_before c_inRow c_first c_inWindow c_same c_made c_requests c_total_9 c_secrets c_rounds c_high c_low c_keyHigh c_keyLow)), ((hm 0), .inl (cy 1, 64, .inl c_ROUND)), ((hm 35), .inl (cy 1, 32, .inl c_digest)), ((hm 30), .inl (cy 1, 8, .inl c_h_7)), ((hm 33), .inl (cy 1, 64, .inl c_message_8)), ((hm 31), .inl (cy 1, 64, .inl c_w_10)), ((hm 32), .inl (cy 1, 8, .inl c_x_11))]) H → va_D A ([(h0, .inr (12, zmo hm c_thrown c_state c_test c_words c_ill c_before c_inRow c_first c_inWindow c_same c_made c_requests c_total_9 c_secrets c_rounds c_high c_low c_keyHigh c_keyLow)), ((hm 0), .inl (cy 1, 64, .inl c_ROUND)), ((hm 35), .inl (cy 1, 32, .inl c_digest)), ((hm 30), .inl (cy 1, 8, .inl c_h_7)), ((hm 33), .inl (cy 1, 64, .inl c_message_8)), ((hm 31), .inl (cy 1, 64, .inl c_w_10)), ((hm 32), .inl (cy 1, 8, .inl c_x_11))]) → va_S A s.heap H locs → lv_has ls 4 [(0, .ref h0), (1, .long x_1)] → GW H locs (F0 m 16 ls [])) hf ?_ H locs ls hP hD hS (lv_sub hl [1, 0] rfl))
  clear hf hl hP hD hS
  intro self_46 ihself_46 z hf
  obtain ⟨c_h_7, c_message_8, c_total_9, c_w_10, c_x_11⟩ := z
  intro H locs ls hP hD hS hl
  refine hFr _ _ _ ?_
  unfold b_X10_finish_16 at hf
  refine lv_aload_n (pc := 16) hx hb (zdt_at zt_X10_finish_0 8 rfl) rfl (lv_at hl 0 rfl) ?_
  refine va_get (pc := 17) (D := D) (ci := 12) (v := .long c_total_9) (C := RX10) (T := TX10) (N := 52) hx hb hts hcX10 hown hK hP 0 rfl rfl 34 (by decide) hw1 (fun _ h9 => h9) rfl (zdt_at zt_X10_finish_0 9 rfl) ?_
  refine lv_ldc2 (pc := 20) hx hb hown hw4 (zdt_at zt_X10_finish_0 10 rfl) ?_
  replace hf := zk_s hf
  refine lv_lrem (pc := 23) hx hb (zdt_at zt_X10_finish_0 11 rfl) hf.1 ?_
  replace hf := hf.2
  refine lv_ldc2 (pc := 24) hx hb hown hw5 (zdt_at zt_X10_finish_0 12 rfl) ?_
  refine W.lcmp (pc := 27) hx hb (zdt_at zt_X10_finish_0 13 rfl) ?_
  refine lv_if_eq (pc := 28) (tgt := 39) hx hb (zdt_at zt_X10_finish_0 14 rfl) (by decide) (fun cn_ => ?t_47) (fun cn_ => ?f_48)
  case t_47 =>
    replace hf := zt_s cn_ hf
    clear cn_
    exact hTo _ _ _ (kK_17 _ _ _ _ _ H locs ls hP hD hS (lv_sub hl [0, 1] rfl) hf)
  replace hf := ze_s cn_ hf
  clear cn_
  refine lv_aload_n (pc := 31) hx hb (zdt_at zt_X10_finish_0 15 rfl) rfl (lv_at hl 0 rfl) ?_
  refine lv_iconst (pc := 32) (v := (0 : Int32)) hx hb (zdt_at zt_X10_finish_0 16 rfl) (by decide) ?_
  replace hf := zb_s hf
  obtain ⟨⟨c_total_49, c_h_50, c_message_51, c_w_52, c_x_53⟩, hc_, hf⟩ := hf
  refine zcn2 (pc := 33) (rv := none) (va_runV (As := [.int (0 : Int32)]) (rest := []) ⟨hx, hb, hml, hown, hts⟩ (c_X10_say l D cy tt H.size h0 hm (0 : Int32) c_total_9 c_ROUND c_h_7 c_message_8 c_w_10 c_x_11 c_thrown c_state c_test c_words c_ill c_before c_inRow c_first c_inWindow c_same c_made c_requests c_secrets c_rounds c_high c_low c_keyHigh c_keyLow c_total_49 c_h_50 c_message_51 c_w_52 c_x_53 hc_) (cwV 1 hts gX10_finish_X10_say rfl rfl rfl (by decide +kernel) ⟨Nat.le_of_ble_eq_true rfl, Nat.le_of_ble_eq_true rfl⟩) ⟨zblind, va_recv hK hP (ci := 12) (q0 := 0) rfl rfl, zpre hE hS (hP.sub [0, 1, 3, 4, 5, 6] rfl) (hD.sub [0, 1, 3, 4, 5, 6] (by decide) rfl) (va_free hD hS hA [0, 1, 3, 4, 5, 6] rfl)⟩ rfl rfl hl.1 rfl (lv_room (Nat.le_of_ble_eq_true rfl)) (zdt_at zt_X10_finish_0 17 rfl) ⟨Nat.zero_le _, Nat.zero_le _⟩) hS hP hD (va_free hD hS hA [0, 1, 3, 4, 5, 6] rfl) [0, 1, 3, 4, 5, 6] rfl (by decide) rfl ?_
  clear hP hD hS hc_
  intro H locs hP hD hS
  replace hP : va_P D vwCl ([(h0, .inr (12, zmo hm c_thrown c_state c_test c_words c_ill c_before c_inRow c_first c_inWindow c_same c_made c_requests c_total_49 c_secrets c_rounds c_high c_low c_keyHigh c_keyLow)), ((hm 0), .inl (cy 1, 64, .inl c_ROUND)), ((hm 35), .inl (cy 1, 32, .inl c_digest)), ((hm 30), .inl (cy 1, 8, .inl c_h_50)), ((hm 33), .inl (cy 1, 64, .inl c_message_51)), ((hm 31), .inl (cy 1, 64, .inl c_w_52)), ((hm 32), .inl (cy 1, 8, .inl c_x_53))]) H := hP
  replace hD : va_D A ([(h0, .inr (12, zmo hm c_thrown c_state c_test c_words c_ill c_before c_inRow c_first c_inWindow c_same c_made c_requests c_total_49 c_secrets c_rounds c_high c_low c_keyHigh c_keyLow)), ((hm 0), .inl (cy 1, 64, .inl c_ROUND)), ((hm 35), .inl (cy 1, 32, .inl c_digest)), ((hm 30), .inl (cy 1, 8, .inl c_h_50)), ((hm 33), .inl (cy 1, 64, .inl c_message_51)), ((hm 31), .inl (cy 1, 64, .inl c_w_52)), ((hm 32), .inl (cy 1, 8, .inl c_x_53))]) := hD
  refine W.eq (g2 := F0 m 36 ls []) rfl ?_
  refine lv_goto (pc := 36) (tgt := 16) hx hb (zdt_at zt_X10_finish_0 18 rfl) (by decide) ?_
  exact hTo _ _ _ (ihself_46 _ hf H locs ls hP hD hS (lv_sub hl [0, 1] rfl))
