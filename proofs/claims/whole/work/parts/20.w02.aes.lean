set_option maxHeartbeats 4000000 in
set_option maxRecDepth 100000 in
theorem c_X0_boxed (l : Launch) (D : va_G) (cy : Nat → ClassId) (tt : Nat → Nat) (sz : Nat) (p0 : Int32) (p1 : Int32) (p2 : Int32) (p3 : Int32) (r_ : Int32) (hf : f_X0_boxed p0 p1 p2 p3 = some r_) : Met l yX0_boxed wsX0_boxed ({ frames := 0, cells := 0, slots := 0, locals := 0 }) (zPc D cy tt sz [.int p0, .int p1, .int p2, .int p3] ([])) (fun _ st o t => o = .returned (some (.int r_)) ∧ t.heap = st.heap) 0 0 (fun _ => False) := by
  refine Met.ofW (cc := cX0_boxed) (maxL := 4) (ret := (some .int)) (by decide) rfl ?_
  intro p e s m args below meth c s₁ B hml hv
  obtain ⟨rfl, rfl, hP, hD0, hE⟩ := hv
  have hx := B.exec
  have hb := B.bytes
  have hr := B.returns
  have hts := atoms_spec (ws := wsX0_boxed) B.pre
  have hown : s.vm.findClass RX0 = some m.cls := findClass_of_methodNamed B.named
  have hlocks := B.notSynchronized
  clear B
  have hD := hD0.self (sz := s.heap.size)
  generalize hAe : va_A ([]) s.heap.size = A at hD hE
  have hA : ∀ q : Nat, s.heap.size ≤ q → A q := fun q h => by rw [← hAe]; exact Or.inr h
  clear hAe hD0
  have hS : va_S A s.heap s.heap [] := va_S.rf
  have hK := hE.1
  have hw0 := hts (.fieldLink RX0 44 "SealedModule$Aes" "BOX" "[I") (by decide +kernel)
  have hl := lv_entry ([.int p0, .int p1, .int p2, .int p3]) (n := 4) (Nat.le_of_ble_eq_true rfl)
  rw [lg_entry_eq]
  generalize (lg_sl ([.int p0, .int p1, .int p2, .int p3]) ++ List.replicate (4 - (lg_sl ([.int p0, .int p1, .int p2, .int p3])).length) Slot.unset).toArray = ls at hl ⊢
  replace hl : lv_has ls 4 [(0, .int p0), (1, .int p1), (2, .int p2), (3, .int p3)] := hl
  unfold f_X0_boxed at hf
  refine zgo (fun GW hTo hFr => ?_)
  refine hFr _ _ _ ?_
  refine va_gets (pc := 0) hx hb (gT_0 hE.2.2).1 hS hown hw0 (fun _ h9 => h9) (zdt_at zt_X0_boxed_0 0 rfl) ?_
  refine lv_iload_n (pc := 3) hx hb (zdt_at zt_X0_boxed_0 1 rfl) rfl (lv_at hl 0 rfl) ?_
  refine lv_bipush (pc := 4) (v := (24 : Int32)) hx hb (zdt_at zt_X0_boxed_0 2 rfl) (by decide) ?_
  refine lv_iushr (pc := 6) hx hb (zdt_at zt_X0_boxed_0 3 rfl) rfl ?_
  replace hf := zk_s hf
  refine va_ti (pc := 7) hx hb (gT_0 hE.2.2).2 hS hf.1 (v := .int (tb_BOX.getD ((p0.toUInt32 >>> ((24 : Int32).toUInt32 &&& Int32.toUInt32 31)).toInt32).toNatClampNeg 0)) rfl (zdt_at zt_X0_boxed_0 4 rfl) ?_
  replace hf := hf.2
  refine lv_bipush (pc := 8) (v := (24 : Int32)) hx hb (zdt_at zt_X0_boxed_0 5 rfl) (by decide) ?_
  refine lv_ishl (pc := 10) hx hb (zdt_at zt_X0_boxed_0 6 rfl) ?_
  refine va_gets (pc := 11) hx hb (gT_0 hE.2.2).1 hS hown hw0 (fun _ h9 => h9) (zdt_at zt_X0_boxed_0 7 rfl) ?_
  refine lv_iload_n (pc := 14) hx hb (zdt_at zt_X0_boxed_0 8 rfl) rfl (lv_at hl 1 rfl) ?_
  refine lv_bipush (pc := 15) (v := (16 : Int32)) hx hb (zdt_at zt_X0_boxed_0 9 rfl) (by decide) ?_
  refine lv_iushr (pc := 17) hx hb (zdt_at zt_X0_boxed_0 10 rfl) rfl ?_
  refine lv_sipush (pc := 18) (v := (255 : Int32)) hx hb (zdt_at zt_X0_boxed_0 11 rfl) (by decide) ?_
  refine lv_iand (pc := 21) hx hb (zdt_at zt_X0_boxed_0 12 rfl) ?_
  replace hf := zk_s hf
  refine va_ti (pc := 22) hx hb (gT_0 hE.2.2).2 hS hf.1 (v := .int (tb_BOX.getD ((p1.toUInt32 >>> ((16 : Int32).toUInt32 &&& Int32.toUInt32 31)).toInt32 &&& (255 : Int32)).toNatClampNeg 0)) rfl (zdt_at zt_X0_boxed_0 13 rfl) ?_
  replace hf := hf.2
  refine lv_bipush (pc := 23) (v := (16 : Int32)) hx hb (zdt_at zt_X0_boxed_0 14 rfl) (by decide) ?_
  refine lv_ishl (pc := 25) hx hb (zdt_at zt_X0_boxed_0 15 rfl) ?_
  refine lv_ior (pc := 26) hx hb (zdt_at zt_X0_boxed_0 16 rfl) ?_
  refine va_gets (pc := 27) hx hb (gT_0 hE.2.2).1 hS hown hw0 (fun _ h9 => h9) (zdt_at zt_X0_boxed_0 17 rfl) ?_
  refine lv_iload_n (pc := 30) hx hb (zdt_at zt_X0_boxed_0 18 rfl) rfl (lv_at hl 2 rfl) ?_
  refine lv_bipush (pc := 31) (v := (8 : Int32)) hx hb (zdt_at zt_X0_boxed_0 19 rfl) (by decide) ?_
  refine lv_iushr (pc := 33) hx hb (zdt_at zt_X0_boxed_0 20 rfl) rfl ?_
  refine lv_sipush (pc := 34) (v := (255 : Int32)) hx hb (zdt_at zt_X0_boxed_0 21 rfl) (by decide) ?_
  refine lv_iand (pc := 37) hx hb (zdt_at zt_X0_boxed_0 22 rfl) ?_
  replace hf := zk_s hf
  refine va_ti (pc := 38) hx hb (gT_0 hE.2.2).2 hS hf.1 (v := .int (tb_BOX.getD ((p2.toUInt32 >>> ((8 : Int32).toUInt32 &&& Int32.toUInt32 31)).toInt32 &&& (255 : Int32)).toNatClampNeg 0)) rfl (zdt_at zt_X0_boxed_0 23 rfl) ?_
  replace hf := hf.2
  refine lv_bipush (pc := 39) (v := (8 : Int32)) hx hb (zdt_at zt_X0_boxed_0 24 rfl) (by decide) ?_
  refine lv_ishl (pc := 41) hx hb (zdt_at zt_X0_boxed_0 25 rfl) ?_
  refine lv_ior (pc := 42) hx hb (zdt_at zt_X0_boxed_0 26 rfl) ?_
  refine va_gets (pc := 43) hx hb (gT_0 hE.2.2).1 hS hown hw0 (fun _ h9 => h9) (zdt_at zt_X0_boxed_0 27 rfl) ?_
  refine lv_iload_n (pc := 46) hx hb (zdt_at zt_X0_boxed_0 28 rfl) rfl (lv_at hl 3 rfl) ?_
  refine lv_sipush (pc := 47) (v := (255 : Int32)) hx hb (zdt_at zt_X0_boxed_0 29 rfl) (by decide) ?_
  refine lv_iand (pc := 50) hx hb (zdt_at zt_X0_boxed_0 30 rfl) ?_
  replace hf := zk_s hf
  refine va_ti (pc := 51) hx hb (gT_0 hE.2.2).2 hS hf.1 (v := .int (tb_BOX.getD (p3 &&& (255 : Int32)).toNatClampNeg 0)) rfl (zdt_at zt_X0_boxed_0 31 rfl) ?_
  replace hf := hf.2
  refine lv_ior (pc := 52) hx hb (zdt_at zt_X0_boxed_0 32 rfl) ?_
  cases hf
  exact W.iret (pc := 53) hx hb hr (fun t ht hW => ⟨rfl, ht⟩) (fun _ h => nomatch h) (zdt_at zt_X0_boxed_0 33 rfl)
set_option maxHeartbeats 4000000 in
set_option maxRecDepth 100000 in
theorem c_X0_setKey (l : Launch) (D : va_G) (cy : Nat → ClassId) (tt : Nat → Nat) (sz : Nat) (h0 : Nat) (h0_keys : Nat) (ha1 : Nat) (n_a1 : Nat) (p2 : Int32) (c_rounds : Int32) (c_keys : Nat → Int32) (ca1 : Nat → Int32) (c_rounds' : Int32) (c_keys' : Nat → Int32) (hf : f_X0_setKey n_a1 p2 c_rounds c_keys ca1 = some (c_rounds', c_keys')) : Met l yX0_setKey wsX0_setKey ({ frames := 1, cells := 0, slots := 0, locals := 23 }) (zPc D cy tt sz [.ref h0, .ref ha1, .int p2] ([(h0, .inr (2, [.ref h0_keys, .int c_rounds])), (h0_keys, .inl (cy 1, 60, .inl c_keys)), (ha1, .inl (cy 0, n_a1, .inl ca1))])) (zQ D none ([(h0, .inr (2, [.ref h0_keys, .int c_rounds'])), (h0_keys, .inl (cy 1, 60, .inl c_keys')), (ha1, .inl (cy 0, n_a1, .inl ca1))]) (va_A ([(h0, .inr (2, [.ref h0_keys, .int c_rounds])), (h0_keys, .inl (cy 1, 60, .inl c_keys)), (ha1, .inl (cy 0, n_a1, .inl ca1))]) sz)) 0 0 (va_A ([(h0, .inr (2, [.ref h0_keys, .int c_rounds])), (h0_keys, .inl (cy 1, 60, .inl c_keys)), (ha1, .inl (cy 0, n_a1, .inl ca1))]) sz) := by
  refine Met.ofW (cc := cX0_setKey) (maxL := 9) (ret := none) (by decide) rfl ?_
  intro p e s m args below meth c s₁ B hml hv
  obtain ⟨rfl, rfl, hP, hD0, hE⟩ := hv
  have hx := B.exec
  have hb := B.bytes
  have hr := B.returns
  have hts := atoms_spec (ws := wsX0_setKey) B.pre
  have hown : s.vm.findClass RX0 = some m.cls := findClass_of_methodNamed B.named
  have hlocks := B.notSynchronized
  clear B
  have hD := hD0.self (sz := s.heap.size)
  generalize hAe : va_A ([(h0, .inr (2, [.ref h0_keys, .int c_rounds])), (h0_keys, .inl (cy 1, 60, .inl c_keys)), (ha1, .inl (cy 0, n_a1, .inl ca1))]) s.heap.size = A at hD hE ⊢
  have hA : ∀ q : Nat, s.heap.size ≤ q → A q := fun q h => by rw [← hAe]; exact Or.inr h
  clear hAe hD0
  have hS : va_S A s.heap s.heap [] := va_S.rf
  have hK := hE.1
  have hw0 := hts (.fieldLink RX0 13 "SealedModule$Aes" "rounds" "I") (by decide +kernel)
  have hw1 := hts (.constant RX0 23 (16777216)) (by decide +kernel)
  have hw2 := hts (.fieldLink RX0 7 "SealedModule$Aes" "keys" "[I") (by decide +kernel)
  have hw3 := hts (.constant RX0 28 (-2147483648)) (by decide +kernel)
  have hw4 := hts (.constant RX0 29 (452984832)) (by decide +kernel)
  have hw5 := hts (.initialized RX9) (by decide +kernel)
  have hw6 := hts (.static yX9_intAt) (by decide +kernel)
  have hcX0 : ∀ w ∈ u_ws RX0 TX0 2, w ∈ wsX0_setKey := (fun _ h => List.mem_cons_of_mem _ (List.mem_append_right _ h))
  have hl := lv_entry ([.ref h0, .ref ha1, .int p2]) (n := 9) (Nat.le_of_ble_eq_true rfl)
  rw [lg_entry_eq]
  generalize (lg_sl ([.ref h0, .ref ha1, .int p2]) ++ List.replicate (9 - (lg_sl ([.ref h0, .ref ha1, .int p2])).length) Slot.unset).toArray = ls at hl ⊢
  replace hl : lv_has ls 9 [(0, .ref h0), (1, .ref ha1), (2, .int p2)] := hl
  unfold f_X0_setKey at hf
  refine zgo (fun GW hTo hFr => ?_)
  refine hFr _ _ _ ?_
  obtain ⟨H, hHe⟩ : ∃ H, H = s.heap := ⟨_, rfl⟩
  obtain ⟨locs, hLe⟩ : ∃ L : List Loc, L = [] := ⟨_, rfl⟩
  rw [← hHe] at hP
  replace hS : va_S A s.heap H locs := by rw [hHe, hLe]; exact hS
  refine zat hHe.symm hLe.symm ?_
  clear hHe hLe
  refine lv_iload_n (pc := 0) hx hb (zdt_at zt_X0_setKey_0 0 rfl) rfl (lv_at hl 2 rfl) ?_
  refine lv_bipush (pc := 1) (v := (32 : Int32)) hx hb (zdt_at zt_X0_setKey_0 1 rfl) (by decide) ?_
  replace hf := zj_s hf
  obtain ⟨K_2, eK_2, hf⟩ := hf
  have kK_2 : ∀ (v_1 : Int32) (H : Heap) (locs : List Loc) (ls : Array Slot), va_P D vwCl ([(h0, .inr (2, [.ref h0_keys, .int c_rounds])), (h0_keys, .inl (cy 1, 60, .inl c_keys)), (ha1, .inl (cy 0, n_a1, .inl ca1))]) H → va_D A ([(h0, .inr (2, [.ref h0_keys, .int c_rounds])), (h0_keys, .inl (cy 1, 60, .inl c_keys)), (ha1, .inl (cy 0, n_a1, .inl ca1))]) → va_S A s.heap H locs → lv_has ls 9 [(0, .ref h0), (1, .ref ha1)] → K_2 v_1 = some (c_rounds', c_keys') → GW H locs (F0 m 12 ls [.int v_1]) := by
    clear hf hl hP hD hS
    intro v_1 H locs ls hP hD hS hl hf
    rw [eK_2] at hf
    clear eK_2
    refine hFr _ _ _ ?_
    refine lv_istore_n (pc := 12) (lv' := [(3, .int v_1), (0, .ref h0), (1, .ref ha1)]) hx hb (zdt_at zt_X0_setKey_0 6 rfl) rfl hl (by decide) rfl ?_
    clear hl
    intro ls hl
    refine lv_aload_n (pc := 13) hx hb (zdt_at zt_X0_setKey_0 7 rfl) rfl (lv_at hl 1 rfl) ?_
    refine lv_iload_n (pc := 14) hx hb (zdt_at zt_X0_setKey_0 8 rfl) rfl (lv_at hl 0 rfl) ?_
    refine lv_bipush (pc := 15) (v := (6 : Int32)) hx hb (zdt_at zt_X0_setKey_0 9 rfl) (by decide) ?_
    refine lv_iadd (pc := 17) hx hb (zdt_at zt_X0_setKey_0 10 rfl) ?_
    refine lv_topi (fun x_3 e_ => ?_)
    replace hf := zn_s hf e_
    clear e_
    refine va_put (pc := 18) (D := D) (ci := 2) (v := .int x_3) (ty := .int) (C := RX0) (T := TX0) (N := 2) hx hb hts hcX0 tyX0 tyX0_ok nmX0 hown hK hP hD hS 0 rfl rfl 1 (by decide) hw0 (fun _ h9 => h9) rfl (by decide +kernel) rfl rfl (Nat.le_of_ble_eq_true rfl) (zdt_at zt_X0_setKey_0 11 rfl) ?_
    clear hP hD hS
    intro H locs hP hD hS
    replace hP : va_P D vwCl ([(h0, .inr (2, [.ref h0_keys, .int x_3])), (h0_keys, .inl (cy 1, 60, .inl c_keys)), (ha1, .inl (cy 0, n_a1, .inl ca1))]) H := hP
    replace hD : va_D A ([(h0, .inr (2, [.ref h0_keys, .int x_3])), (h0_keys, .inl (cy 1, 60, .inl c_keys)), (ha1, .inl (cy 0, n_a1, .inl ca1))]) := hD
    refine lv_iconst (pc := 21) (v := (0 : Int32)) hx hb (zdt_at zt_X0_setKey_0 12 rfl) (by decide) ?_
    refine lv_istore (pc := 22) (lv' := [(4, .int (0 : Int32)), (3, .int v_1), (0, .ref h0), (1, .ref ha1)]) hx hb (zdt_at zt_X0_setKey_0 13 rfl) hl (by decide) rfl ?_
    clear hl
    intro ls hl
    replace hf := zj_s hf
    obtain ⟨K_7, eK_7, hf⟩ := hf
    have kK_7 : ∀ (c_keys_6 : Nat → Int32) (H : Heap) (locs : List Loc) (ls : Array Slot), va_P D vwCl ([(h0, .inr (2, [.ref h0_keys, .int x_3])), (h0_keys, .inl (cy 1, 60, .inl c_keys_6)), (ha1, .inl (cy 0, n_a1, .inl ca1))]) H → va_D A ([(h0, .inr (2, [.ref h0_keys, .int x_3])), (h0_keys, .inl (cy 1, 60, .inl c_keys_6)), (ha1, .inl (cy 0, n_a1, .inl ca1))]) → va_S A s.heap H locs → lv_has ls 9 [(0, .ref h0), (3, .int v_1)] → K_7 c_keys_6 = some (c_rounds', c_keys') → GW H locs (F0 m 51 ls []) := by
      clear hf hl hP hD hS
      intro c_keys_6 H locs ls hP hD hS hl hf
      rw [eK_7] at hf
      clear eK_7
      refine hFr _ _ _ ?_
      refine lv_ldc (pc := 51) hx hb hown hw1 (zdt_at zt_X0_setKey_0 28 rfl) ?_
      refine lv_istore (pc := 53) (lv' := [(4, .int (16777216 : Int32)), (0, .ref h0), (3, .int v_1)]) hx hb (zdt_at zt_X0_setKey_0 29 rfl) hl (by decide) rfl ?_
      clear hl
      intro ls hl
      refine lv_iload_n (pc := 55) hx hb (zdt_at zt_X0_setKey_0 30 rfl) rfl (lv_at hl 2 rfl) ?_
      refine lv_istore (pc := 56) (lv' := [(5, .int v_1), (4, .int (16777216 : Int32)), (0, .ref h0), (3, .int v_1)]) hx hb (zdt_at zt_X0_setKey_0 31 rfl) hl (by decide) rfl ?_
      clear hl
      intro ls hl
      replace hf := zj_s hf
      obtain ⟨K_12, eK_12, hf⟩ := hf
      have kK_12 : ∀ (c_keys_11 : Nat → Int32) (H : Heap) (locs : List Loc) (ls : Array Slot), va_P D vwCl ([(h0, .inr (2, [.ref h0_keys, .int x_3])), (h0_keys, .inl (cy 1, 60, .inl c_keys_11)), (ha1, .inl (cy 0, n_a1, .inl ca1))]) H → va_D A ([(h0, .inr (2, [.ref h0_keys, .int x_3])), (h0_keys, .inl (cy 1, 60, .inl c_keys_11)), (ha1, .inl (cy 0, n_a1, .inl ca1))]) → va_S A s.heap H locs → lv_has ls 9 [] → K_12 c_keys_11 = some (c_rounds', c_keys') → GW H locs (F0 m 189 ls []) := by
        clear hf hl hP hD hS
        intro c_keys_11 H locs ls hP hD hS hl hf
        rw [eK_12] at hf
        clear eK_12
        refine hFr _ _ _ ?_
        cases hf
        exact W.vret (pc := 189) hx hb hr (fun t ht hW => ⟨rfl, ⟨by rw [ht]; exact hP, hD⟩, hS.F ht⟩) hS.2.2 (zdt_at zt_X0_setKey_1 40 rfl)
      clear eK_12
      refine hTo _ _ _ (zl_go (fun z => match z with | (i_8, i_9, c_keys_10) => ∀ (H : Heap) (locs : List Loc) (ls : Array Slot), va_P D vwCl ([(h0, .inr (2, [.ref h0_keys, .int x_3])), (h0_keys, .inl (cy 1, 60, .inl c_keys_10)), (ha1, .inl (cy 0, n_a1, .inl ca1))]) H → va_D A ([(h0, .inr (2, [.ref h0_keys, .int x_3])), (h0_keys, .inl (cy 1, 60, .inl c_keys_10)), (ha1, .inl (cy 0, n_a1, .inl ca1))]) → va_S A s.heap H locs → lv_has ls 9 [(0, .ref h0), (3, .int v_1), (4, .int i_8), (5, .int i_9)] → GW H locs (F0 m 58 ls [])) hf ?_ H locs ls hP hD hS (lv_sub hl [2, 3, 1, 0] rfl))
      clear hf hl hP hD hS
      intro self_13 ihself_13 z hf
      obtain ⟨i_8, i_9, c_keys_10⟩ := z
      intro H locs ls hP hD hS hl
      refine hFr _ _ _ ?_
      unfold b_X0_setKey_58 at hf
      refine lv_iload (pc := 58) hx hb (zdt_at zt_X0_setKey_0 32 rfl) (lv_at hl 3 rfl) ?_
      refine lv_iconst (pc := 60) (v := (4 : Int32)) hx hb (zdt_at zt_X0_setKey_0 33 rfl) (by decide) ?_
      refine lv_aload_n (pc := 61) hx hb (zdt_at zt_X0_setKey_0 34 rfl) rfl (lv_at hl 0 rfl) ?_
      refine va_get (pc := 62) (D := D) (ci := 2) (v := .int x_3) (C := RX0) (T := TX0) (N := 2) hx hb hts hcX0 hown hK hP 0 rfl rfl 1 (by decide) hw0 (fun _ h9 => h9) rfl (zdt_at zt_X0_setKey_0 35 rfl) ?_
      refine lv_imul (pc := 65) hx hb (zdt_at zt_X0_setKey_0 36 rfl) ?_
      refine lv_iconst (pc := 66) (v := (4 : Int32)) hx hb (zdt_at zt_X0_setKey_0 37 rfl) (by decide) ?_
      refine lv_iadd (pc := 67) hx hb (zdt_at zt_X0_setKey_0 38 rfl) ?_
      refine lv_icmp_ge (pc := 68) (tgt := 189) hx hb (zdt_at zt_X0_setKey_0 39 rfl) (by decide) (fun cn_ => ?t_14) (fun cn_ => ?f_15)
      case t_14 =>
        replace hf := zt_s cn_ hf
        clear cn_
        exact hTo _ _ _ (kK_12 _ H locs ls hP hD hS (lv_sub hl [] rfl) hf)
      replace hf := ze_s cn_ hf
      clear cn_
      refine lv_aload_n (pc := 71) hx hb (zdt_at zt_X0_setKey_0 40 rfl) rfl (lv_at hl 0 rfl) ?_
      refine va_get (pc := 72) (D := D) (ci := 2) (v := .ref h0_keys) (C := RX0) (T := TX0) (N := 2) hx hb hts hcX0 hown hK hP 0 rfl rfl 0 (by decide) hw2 (fun _ h9 => h9) rfl (zdt_at zt_X0_setKey_0 41 rfl) ?_
      refine lv_iload (pc := 75) hx hb (zdt_at zt_X0_setKey_0 42 rfl) (lv_at hl 3 rfl) ?_
      refine lv_iconst (pc := 77) (v := (1 : Int32)) hx hb (zdt_at zt_X0_setKey_0 43 rfl) (by decide) ?_
      refine lv_isub (pc := 78) hx hb (zdt_at zt_X0_setKey_0 44 rfl) ?_
      replace hf := zk_s hf
      refine va_iald (pc := 79) hx hb hK hP 1 1 rfl rfl hf.1 (zdt_at zt_X0_setKey_0 45 rfl) ?_
      replace hf := hf.2
      refine lv_topi (fun x_16 e_ => ?_)
      replace hf := zn_s hf e_
      clear e_
      refine lv_istore (pc := 80) (lv' := [(6, .int x_16), (0, .ref h0), (3, .int v_1), (4, .int i_8), (5, .int i_9)]) hx hb (zdt_at zt_X0_setKey_0 46 rfl) hl (by decide) rfl ?_
      clear hl
      intro ls hl
      refine lv_iload (pc := 82) hx hb (zdt_at zt_X0_setKey_0 47 rfl) (lv_at hl 4 rfl) ?_
      refine lv_iload_n (pc := 84) hx hb (zdt_at zt_X0_setKey_0 48 rfl) rfl (lv_at hl 2 rfl) ?_
      refine lv_iconst (pc := 85) (v := (1 : Int32)) hx hb (zdt_at zt_X0_setKey_0 49 rfl) (by decide) ?_
      refine lv_isub (pc := 86) hx hb (zdt_at zt_X0_setKey_0 50 rfl) ?_
      refine lv_iand (pc := 87) hx hb (zdt_at zt_X0_setKey_0 51 rfl) ?_
      refine lv_topi (fun x_17 e_ => ?_)
      replace hf := zn_s hf e_
      clear e_
      refine lv_istore (pc := 88) (lv' := [(7, .int x_17), (6, .int x_16), (0, .ref h0), (3, .int v_1), (4, .int i_8), (5, .int i_9)]) hx hb (zdt_at zt_X0_setKey_0 52 rfl) hl (by decide) rfl ?_
      clear hl
      intro ls hl
      refine lv_iload (pc := 90) hx hb (zdt_at zt_X0_setKey_0 53 rfl) (lv_at hl 0 rfl) ?_
      refine lv_if_ne (pc := 92) (tgt := 145) hx hb (zdt_at zt_X0_setKey_0 54 rfl) (by decide) (fun cn_ => ?t_18) (fun cn_ => ?f_19)
      case t_18 =>
        replace hf := ze_s cn_ hf
        clear cn_
        refine lv_iload (pc := 145) hx hb (zdt_at zt_X0_setKey_1 17 rfl) (lv_at hl 0 rfl) ?_
        refine lv_iconst (pc := 147) (v := (4 : Int32)) hx hb (zdt_at zt_X0_setKey_1 18 rfl) (by decide) ?_
        refine lv_icmp_ne (pc := 148) (tgt := 164) hx hb (zdt_at zt_X0_setKey_1 19 rfl) (by decide) (fun cn_ => ?t_20) (fun cn_ => ?f_21)
        case t_20 =>
          replace hf := ze_s cn_ hf
          clear cn_
          refine lv_aload_n (pc := 164) hx hb (zdt_at zt_X0_setKey_1 26 rfl) rfl (lv_at hl 2 rfl) ?_
          refine va_get (pc := 165) (D := D) (ci := 2) (v := .ref h0_keys) (C := RX0) (T := TX0) (N := 2) hx hb hts hcX0 hown hK hP 0 rfl rfl 0 (by decide) hw2 (fun _ h9 => h9) rfl (zdt_at zt_X0_setKey_1 27 rfl) ?_
          refine lv_iload (pc := 168) hx hb (zdt_at zt_X0_setKey_1 28 rfl) (lv_at hl 5 rfl) ?_
          refine lv_aload_n (pc := 170) hx hb (zdt_at zt_X0_setKey_1 29 rfl) rfl (lv_at hl 2 rfl) ?_
          refine va_get (pc := 171) (D := D) (ci := 2) (v := .ref h0_keys) (C := RX0) (T := TX0) (N := 2) hx hb hts hcX0 hown hK hP 0 rfl rfl 0 (by decide) hw2 (fun _ h9 => h9) rfl (zdt_at zt_X0_setKey_1 30 rfl) ?_
          refine lv_iload (pc := 174) hx hb (zdt_at zt_X0_setKey_1 31 rfl) (lv_at hl 5 rfl) ?_
          refine lv_iload_n (pc := 176) hx hb (zdt_at zt_X0_setKey_1 32 rfl) rfl (lv_at hl 3 rfl) ?_
          refine lv_isub (pc := 177) hx hb (zdt_at zt_X0_setKey_1 33 rfl) ?_
          replace hf := zk_s hf
          refine va_iald (pc := 178) hx hb hK hP 1 1 rfl rfl hf.1 (zdt_at zt_X0_setKey_1 34 rfl) ?_
          replace hf := hf.2
          refine lv_iload (pc := 179) hx hb (zdt_at zt_X0_setKey_1 35 rfl) (lv_at hl 1 rfl) ?_
          refine lv_ixor (pc := 181) hx hb (zdt_at zt_X0_setKey_1 36 rfl) ?_
          replace hf := zk_s hf
          refine va_iast (pc := 182) hx hb hK hP hD hS 1 1 rfl rfl hf.1 (zdt_at zt_X0_setKey_1 37 rfl) ?_
          replace hf := hf.2
          clear hP hD hS
          intro H locs hP hD hS
          obtain ⟨c_keys_22, e_⟩ : ∃ q : Nat → Int32, q = (upd c_keys_10 i_9.toNatClampNeg ((c_keys_10 (i_9 - v_1).toNatClampNeg) ^^^ x_16)) := ⟨_, rfl⟩
          replace hf := zn_s hf e_
          replace hP : va_P D vwCl ([(h0, .inr (2, [.ref h0_keys, .int x_3])), (h0_keys, .inl (cy 1, 60, .inl c_keys_22)), (ha1, .inl (cy 0, n_a1, .inl ca1))]) H := by rw [e_]; exact hP
          replace hD : va_D A ([(h0, .inr (2, [.ref h0_keys, .int x_3])), (h0_keys, .inl (cy 1, 60, .inl c_keys_22)), (ha1, .inl (cy 0, n_a1, .inl ca1))]) := by rw [e_]; exact hD
          clear e_
          refine lv_iinc (pc := 183) (v := (i_9 + (1 : Int32))) (lv' := [(5, .int (i_9 + (1 : Int32))), (7, .int x_17), (6, .int x_16), (0, .ref h0), (3, .int v_1), (4, .int i_8)]) hx hb (zdt_at zt_X0_setKey_1 38 rfl) hl (k := 5) rfl rfl (by decide) rfl ?_
          clear hl
          intro ls hl
          refine lv_goto (pc := 186) (tgt := 58) hx hb (zdt_at zt_X0_setKey_1 39 rfl) (by decide) ?_
          exact hTo _ _ _ (ihself_13 _ hf H locs ls hP hD hS (lv_sub hl [3, 4, 5, 0] rfl))
        replace hf := zt_s cn_ hf
        clear cn_
        refine lv_iload (pc := 151) hx hb (zdt_at zt_X0_setKey_1 20 rfl) (lv_at hl 1 rfl) ?_
        refine lv_iload (pc := 153) hx hb (zdt_at zt_X0_setKey_1 21 rfl) (lv_at hl 1 rfl) ?_
        refine lv_iload (pc := 155) hx hb (zdt_at zt_X0_setKey_1 22 rfl) (lv_at hl 1 rfl) ?_
        refine lv_iload (pc := 157) hx hb (zdt_at zt_X0_setKey_1 23 rfl) (lv_at hl 1 rfl) ?_
        replace hf := zb_s hf
        obtain ⟨r_23, hc_, hf⟩ := hf
        refine zcs (pc := 159) (rv := (some (.int r_23))) (va_runS (As := [.int x_16, .int x_16, .int x_16, .int x_16]) (rest := []) ⟨hx, hb, hml, hown, hts⟩ (c_X0_boxed l D cy tt H.size x_16 x_16 x_16 x_16 r_23 hc_) (va_cwS 4 hts gX0_setKey_X0_boxed rfl rfl rfl (by decide +kernel) ⟨Nat.le_of_ble_eq_true rfl, Nat.le_of_ble_eq_true rfl⟩) ⟨zblind, zpre hE hS (hP.sub [] rfl) (hD.sub [] (by decide) rfl) (va_free hD hS hA [] rfl)⟩ rfl rfl hl.1 rfl (lv_room (Nat.le_of_ble_eq_true rfl)) (zdt_at zt_X0_setKey_1 24 rfl) ⟨Nat.zero_le _, Nat.zero_le _⟩) ?_
        clear hc_
        refine W.eq (g2 := F0 m 162 ls [.int r_23]) rfl ?_
        refine lv_istore (pc := 162) (lv' := [(6, .int r_23), (7, .int x_17), (0, .ref h0), (3, .int v_1), (4, .int i_8), (5, .int i_9)]) hx hb (zdt_at zt_X0_setKey_1 25 rfl) hl (by decide) rfl ?_
        clear hl
        intro ls hl
        refine lv_aload_n (pc := 164) hx hb (zdt_at zt_X0_setKey_1 26 rfl) rfl (lv_at hl 2 rfl) ?_
        refine va_get (pc := 165) (D := D) (ci := 2) (v := .ref h0_keys) (C := RX0) (T := TX0) (N := 2) hx hb hts hcX0 hown hK hP 0 rfl rfl 0 (by decide) hw2 (fun _ h9 => h9) rfl (zdt_at zt_X0_setKey_1 27 rfl) ?_
        refine lv_iload (pc := 168) hx hb (zdt_at zt_X0_setKey_1 28 rfl) (lv_at hl 5 rfl) ?_
        refine lv_aload_n (pc := 170) hx hb (zdt_at zt_X0_setKey_1 29 rfl) rfl (lv_at hl 2 rfl) ?_
        refine va_get (pc := 171) (D := D) (ci := 2) (v := .ref h0_keys) (C := RX0) (T := TX0) (N := 2) hx hb hts hcX0 hown hK hP 0 rfl rfl 0 (by decide) hw2 (fun _ h9 => h9) rfl (zdt_at zt_X0_setKey_1 30 rfl) ?_
        refine lv_iload (pc := 174) hx hb (zdt_at zt_X0_setKey_1 31 rfl) (lv_at hl 5 rfl) ?_
        refine lv_iload_n (pc := 176) hx hb (zdt_at zt_X0_setKey_1 32 rfl) rfl (lv_at hl 3 rfl) ?_
        refine lv_isub (pc := 177) hx hb (zdt_at zt_X0_setKey_1 33 rfl) ?_
        replace hf := zk_s hf
        refine va_iald (pc := 178) hx hb hK hP 1 1 rfl rfl hf.1 (zdt_at zt_X0_setKey_1 34 rfl) ?_
        replace hf := hf.2
        refine lv_iload (pc := 179) hx hb (zdt_at zt_X0_setKey_1 35 rfl) (lv_at hl 0 rfl) ?_
        refine lv_ixor (pc := 181) hx hb (zdt_at zt_X0_setKey_1 36 rfl) ?_
        replace hf := zk_s hf
        refine va_iast (pc := 182) hx hb hK hP hD hS 1 1 rfl rfl hf.1 (zdt_at zt_X0_setKey_1 37 rfl) ?_
        replace hf := hf.2
        clear hP hD hS
        intro H locs hP hD hS
        obtain ⟨c_keys_24, e_⟩ : ∃ q : Nat → Int32, q = (upd c_keys_10 i_9.toNatClampNeg ((c_keys_10 (i_9 - v_1).toNatClampNeg) ^^^ r_23)) := ⟨_, rfl⟩
        replace hf := zn_s hf e_
        replace hP : va_P D vwCl ([(h0, .inr (2, [.ref h0_keys, .int x_3])), (h0_keys, .inl (cy 1, 60, .inl c_keys_24)), (ha1, .inl (cy 0, n_a1, .inl ca1))]) H := by rw [e_]; exact hP
        replace hD : va_D A ([(h0, .inr (2, [.ref h0_keys, .int x_3])), (h0_keys, .inl (cy 1, 60, .inl c_keys_24)), (ha1, .inl (cy 0, n_a1, .inl ca1))]) := by rw [e_]; exact hD
        clear e_
        refine lv_iinc (pc := 183) (v := (i_9 + (1 : Int32))) (lv' := [(5, .int (i_9 + (1 : Int32))), (6, .int r_23), (7, .int x_17), (0, .ref h0), (3, .int v_1), (4, .int i_8)]) hx hb (zdt_at zt_X0_setKey_1 38 rfl) hl (k := 5) rfl rfl (by decide) rfl ?_
        clear hl
        intro ls hl
        refine lv_goto (pc := 186) (tgt := 58) hx hb (zdt_at zt_X0_setKey_1 39 rfl) (by decide) ?_
        exact hTo _ _ _ (ihself_13 _ hf H locs ls hP hD hS (lv_sub hl [3, 4, 5, 0] rfl))
      replace hf := zt_s cn_ hf
      clear cn_
      refine lv_iload (pc := 95) hx hb (zdt_at zt_X0_setKey_0 55 rfl) (lv_at hl 1 rfl) ?_
      refine lv_bipush (pc := 97) (v := (8 : Int32)) hx hb (zdt_at zt_X0_setKey_0 56 rfl) (by decide) ?_
      refine lv_ishl (pc := 99) hx hb (zdt_at zt_X0_setKey_0 57 rfl) ?_
      refine lv_iload (pc := 100) hx hb (zdt_at zt_X0_setKey_0 58 rfl) (lv_at hl 1 rfl) ?_
      refine lv_bipush (pc := 102) (v := (24 : Int32)) hx hb (zdt_at zt_X0_setKey_0 59 rfl) (by decide) ?_
      refine lv_iushr (pc := 104) hx hb (zdt_at zt_X0_setKey_0 60 rfl) rfl ?_
      refine lv_ior (pc := 105) hx hb (zdt_at zt_X0_setKey_0 61 rfl) ?_
      refine lv_topi (fun x_25 e_ => ?_)
      replace hf := zn_s hf e_
      clear e_
      refine lv_istore (pc := 106) (lv' := [(8, .int x_25), (7, .int x_17), (6, .int x_16), (0, .ref h0), (3, .int v_1), (4, .int i_8), (5, .int i_9)]) hx hb (zdt_at zt_X0_setKey_0 62 rfl) hl (by decide) rfl ?_
      clear hl
      intro ls hl
      refine lv_iload (pc := 108) hx hb (zdt_at zt_X0_setKey_0 63 rfl) (lv_at hl 0 rfl) ?_
      refine lv_iload (pc := 110) hx hb (zdt_at zt_X0_setKey_1 0 rfl) (lv_at hl 0 rfl) ?_
      refine lv_iload (pc := 112) hx hb (zdt_at zt_X0_setKey_1 1 rfl) (lv_at hl 0 rfl) ?_
      refine lv_iload (pc := 114) hx hb (zdt_at zt_X0_setKey_1 2 rfl) (lv_at hl 0 rfl) ?_
      replace hf := zb_s hf
      obtain ⟨r_26, hc_, hf⟩ := hf
      refine zcs (pc := 116) (rv := (some (.int r_26))) (va_runS (As := [.int x_25, .int x_25, .int x_25, .int x_25]) (rest := []) ⟨hx, hb, hml, hown, hts⟩ (c_X0_boxed l D cy tt H.size x_25 x_25 x_25 x_25 r_26 hc_) (va_cwS 4 hts gX0_setKey_X0_boxed rfl rfl rfl (by decide +kernel) ⟨Nat.le_of_ble_eq_true rfl, Nat.le_of_ble_eq_true rfl⟩) ⟨zblind, zpre hE hS (hP.sub [] rfl) (hD.sub [] (by decide) rfl) (va_free hD hS hA [] rfl)⟩ rfl rfl hl.1 rfl (lv_room (Nat.le_of_ble_eq_true rfl)) (zdt_at zt_X0_setKey_1 3 rfl) ⟨Nat.zero_le _, Nat.zero_le _⟩) ?_
      clear hc_
      refine W.eq (g2 := F0 m 119 ls [.int r_26]) rfl ?_
      refine lv_iload (pc := 119) hx hb (zdt_at zt_X0_setKey_1 4 rfl) (lv_at hl 5 rfl) ?_
      refine lv_ixor (pc := 121) hx hb (zdt_at zt_X0_setKey_1 5 rfl) ?_
      refine lv_topi (fun x_27 e_ => ?_)
      replace hf := zn_s hf e_
      clear e_
      refine lv_istore (pc := 122) (lv' := [(6, .int x_27), (8, .int x_25), (7, .int x_17), (0, .ref h0), (3, .int v_1), (4, .int i_8), (5, .int i_9)]) hx hb (zdt_at zt_X0_setKey_1 6 rfl) hl (by decide) rfl ?_
      clear hl
      intro ls hl
      refine lv_iload (pc := 124) hx hb (zdt_at zt_X0_setKey_1 7 rfl) (lv_at hl 5 rfl) ?_
      refine lv_ldc (pc := 126) hx hb hown hw3 (zdt_at zt_X0_setKey_1 8 rfl) ?_
      replace hf := zj_s hf
      obtain ⟨K_29, eK_29, hf⟩ := hf
      have kK_29 : ∀ (v_28 : Int32) (H : Heap) (locs : List Loc) (ls : Array Slot), va_P D vwCl ([(h0, .inr (2, [.ref h0_keys, .int x_3])), (h0_keys, .inl (cy 1, 60, .inl c_keys_10)), (ha1, .inl (cy 0, n_a1, .inl ca1))]) H → va_D A ([(h0, .inr (2, [.ref h0_keys, .int x_3])), (h0_keys, .inl (cy 1, 60, .inl c_keys_10)), (ha1, .inl (cy 0, n_a1, .inl ca1))]) → va_S A s.heap H locs → lv_has ls 9 [(0, .ref h0), (3, .int v_1), (5, .int i_9), (6, .int x_27)] → K_29 v_28 = some (c_rounds', c_keys') → GW H locs (F0 m 140 ls [.int v_28]) := by
        clear hf hl hP hD hS
        intro v_28 H locs ls hP hD hS hl hf
        rw [eK_29] at hf
        clear eK_29
        refine hFr _ _ _ ?_
        refine lv_istore (pc := 140) (lv' := [(4, .int v_28), (0, .ref h0), (3, .int v_1), (5, .int i_9), (6, .int x_27)]) hx hb (zdt_at zt_X0_setKey_1 15 rfl) hl (by decide) rfl ?_
        clear hl
        intro ls hl
        refine lv_goto (pc := 142) (tgt := 164) hx hb (zdt_at zt_X0_setKey_1 16 rfl) (by decide) ?_
        refine lv_aload_n (pc := 164) hx hb (zdt_at zt_X0_setKey_1 26 rfl) rfl (lv_at hl 1 rfl) ?_
        refine va_get (pc := 165) (D := D) (ci := 2) (v := .ref h0_keys) (C := RX0) (T := TX0) (N := 2) hx hb hts hcX0 hown hK hP 0 rfl rfl 0 (by decide) hw2 (fun _ h9 => h9) rfl (zdt_at zt_X0_setKey_1 27 rfl) ?_
        refine lv_iload (pc := 168) hx hb (zdt_at zt_X0_setKey_1 28 rfl) (lv_at hl 3 rfl) ?_
        refine lv_aload_n (pc := 170) hx hb (zdt_at zt_X0_setKey_1 29 rfl) rfl (lv_at hl 1 rfl) ?_
        refine va_get (pc := 171) (D := D) (ci := 2) (v := .ref h0_keys) (C := RX0) (T := TX0) (N := 2) hx hb hts hcX0 hown hK hP 0 rfl rfl 0 (by decide) hw2 (fun _ h9 => h9) rfl (zdt_at zt_X0_setKey_1 30 rfl) ?_
        refine lv_iload (pc := 174) hx hb (zdt_at zt_X0_setKey_1 31 rfl) (lv_at hl 3 rfl) ?_
        refine lv_iload_n (pc := 176) hx hb (zdt_at zt_X0_setKey_1 32 rfl) rfl (lv_at hl 2 rfl) ?_
        refine lv_isub (pc := 177) hx hb (zdt_at zt_X0_setKey_1 33 rfl) ?_
        replace hf := zk_s hf
        refine va_iald (pc := 178) hx hb hK hP 1 1 rfl rfl hf.1 (zdt_at zt_X0_setKey_1 34 rfl) ?_
        replace hf := hf.2
        refine lv_iload (pc := 179) hx hb (zdt_at zt_X0_setKey_1 35 rfl) (lv_at hl 4 rfl) ?_
        refine lv_ixor (pc := 181) hx hb (zdt_at zt_X0_setKey_1 36 rfl) ?_
        replace hf := zk_s hf
        refine va_iast (pc := 182) hx hb hK hP hD hS 1 1 rfl rfl hf.1 (zdt_at zt_X0_setKey_1 37 rfl) ?_
        replace hf := hf.2
        clear hP hD hS
        intro H locs hP hD hS
        obtain ⟨c_keys_30, e_⟩ : ∃ q : Nat → Int32, q = (upd c_keys_10 i_9.toNatClampNeg ((c_keys_10 (i_9 - v_1).toNatClampNeg) ^^^ x_27)) := ⟨_, rfl⟩
        replace hf := zn_s hf e_
        replace hP : va_P D vwCl ([(h0, .inr (2, [.ref h0_keys, .int x_3])), (h0_keys, .inl (cy 1, 60, .inl c_keys_30)), (ha1, .inl (cy 0, n_a1, .inl ca1))]) H := by rw [e_]; exact hP
        replace hD : va_D A ([(h0, .inr (2, [.ref h0_keys, .int x_3])), (h0_keys, .inl (cy 1, 60, .inl c_keys_30)), (ha1, .inl (cy 0, n_a1, .inl ca1))]) := by rw [e_]; exact hD
        clear e_
        refine lv_iinc (pc := 183) (v := (i_9 + (1 : Int32))) (lv' := [(5, .int (i_9 + (1 : Int32))), (4, .int v_28), (0, .ref h0), (3, .int v_1), (6, .int x_27)]) hx hb (zdt_at zt_X0_setKey_1 38 rfl) hl (k := 3) rfl rfl (by decide) rfl ?_
        clear hl
        intro ls hl
        refine lv_goto (pc := 186) (tgt := 58) hx hb (zdt_at zt_X0_setKey_1 39 rfl) (by decide) ?_
        exact hTo _ _ _ (ihself_13 _ hf H locs ls hP hD hS (lv_sub hl [2, 3, 1, 0] rfl))
      clear eK_29
      refine lv_icmp_ne (pc := 128) (tgt := 136) hx hb (zdt_at zt_X0_setKey_1 9 rfl) (by decide) (fun cn_ => ?t_31) (fun cn_ => ?f_32)
      case f_32 =>
        replace hf := zt_s cn_ hf
        clear cn_
        refine lv_ldc (pc := 131) hx hb hown hw4 (zdt_at zt_X0_setKey_1 10 rfl) ?_
        refine lv_goto (pc := 133) (tgt := 140) hx hb (zdt_at zt_X0_setKey_1 11 rfl) (by decide) ?_
        exact hTo _ _ _ (kK_29 _ H locs ls hP hD hS (lv_sub hl [3, 4, 6, 0] rfl) hf)
      replace hf := ze_s cn_ hf
      clear cn_
      refine lv_iload (pc := 136) hx hb (zdt_at zt_X0_setKey_1 12 rfl) (lv_at hl 5 rfl) ?_
      refine lv_iconst (pc := 138) (v := (1 : Int32)) hx hb (zdt_at zt_X0_setKey_1 13 rfl) (by decide) ?_
      refine lv_ishl (pc := 139) hx hb (zdt_at zt_X0_setKey_1 14 rfl) ?_
      exact hTo _ _ _ (kK_29 _ H locs ls hP hD hS (lv_sub hl [3, 4, 6, 0] rfl) hf)
    clear eK_7
    refine hTo _ _ _ (zl_go (fun z => match z with | (i_4, c_keys_5) => ∀ (H : Heap) (locs : List Loc) (ls : Array Slot), va_P D vwCl ([(h0, .inr (2, [.ref h0_keys, .int x_3])), (h0_keys, .inl (cy 1, 60, .inl c_keys_5)), (ha1, .inl (cy 0, n_a1, .inl ca1))]) H → va_D A ([(h0, .inr (2, [.ref h0_keys, .int x_3])), (h0_keys, .inl (cy 1, 60, .inl c_keys_5)), (ha1, .inl (cy 0, n_a1, .inl ca1))]) → va_S A s.heap H locs → lv_has ls 9 [(0, .ref h0), (1, .ref ha1), (3, .int v_1), (4, .int i_4)] → GW H locs (F0 m 24 ls [])) hf ?_ H locs ls hP hD hS (lv_sub hl [2, 3, 1, 0] rfl))
    clear hf hl hP hD hS
    intro self_33 ihself_33 z hf
    obtain ⟨i_4, c_keys_5⟩ := z
    intro H locs ls hP hD hS hl
    refine hFr _ _ _ ?_
    unfold b_X0_setKey_24 at hf
    refine lv_iload (pc := 24) hx hb (zdt_at zt_X0_setKey_0 14 rfl) (lv_at hl 3 rfl) ?_
    refine lv_iload_n (pc := 26) hx hb (zdt_at zt_X0_setKey_0 15 rfl) rfl (lv_at hl 2 rfl) ?_
    refine lv_icmp_ge (pc := 27) (tgt := 51) hx hb (zdt_at zt_X0_setKey_0 16 rfl) (by decide) (fun cn_ => ?t_34) (fun cn_ => ?f_35)
    case t_34 =>
      replace hf := zt_s cn_ hf
      clear cn_
      exact hTo _ _ _ (kK_7 _ H locs ls hP hD hS (lv_sub hl [0, 2] rfl) hf)
    replace hf := ze_s cn_ hf
    clear cn_
    refine lv_aload_n (pc := 30) hx hb (zdt_at zt_X0_setKey_0 17 rfl) rfl (lv_at hl 0 rfl) ?_
    refine va_get (pc := 31) (D := D) (ci := 2) (v := .ref h0_keys) (C := RX0) (T := TX0) (N := 2) hx hb hts hcX0 hown hK hP 0 rfl rfl 0 (by decide) hw2 (fun _ h9 => h9) rfl (zdt_at zt_X0_setKey_0 18 rfl) ?_
    refine lv_iload (pc := 34) hx hb (zdt_at zt_X0_setKey_0 19 rfl) (lv_at hl 3 rfl) ?_
    refine lv_aload_n (pc := 36) hx hb (zdt_at zt_X0_setKey_0 20 rfl) rfl (lv_at hl 1 rfl) ?_
    refine lv_iconst (pc := 37) (v := (4 : Int32)) hx hb (zdt_at zt_X0_setKey_0 21 rfl) (by decide) ?_
    refine lv_iload (pc := 38) hx hb (zdt_at zt_X0_setKey_0 22 rfl) (lv_at hl 3 rfl) ?_
    refine lv_imul (pc := 40) hx hb (zdt_at zt_X0_setKey_0 23 rfl) ?_
    replace hf := zb_s hf
    obtain ⟨r_36, hc_, hf⟩ := hf
    refine zcs (pc := 41) (rv := (some (.int r_36))) (va_runSN (As := [.ref ha1, .int ((4 : Int32) * i_4)]) (rest := [.int i_4, .ref h0_keys]) ⟨hx, hb, hml, hown, hts⟩ (c_X9_intAt l D cy tt H.size ha1 n_a1 ((4 : Int32) * i_4) ca1 r_36 hc_) ⟨va_cnB 2 hts gX0_setKey_X9_intAt_n17 rfl rfl rfl (gNs_0 hE.2.1) hw5 (by decide +kernel) ⟨Nat.le_of_ble_eq_true rfl, Nat.le_of_ble_eq_true rfl⟩, hw6, trivial⟩ ⟨zblind, zpre hE hS (hP.sub [2] rfl) (hD.sub [2] (by decide) rfl) (va_free hD hS hA [2] rfl)⟩ rfl rfl hl.1 rfl (lv_room (Nat.le_of_ble_eq_true rfl)) (zdt_at zt_X0_setKey_0 24 rfl) ⟨Nat.zero_le _, Nat.zero_le _⟩) ?_
    clear hc_
    refine W.eq (g2 := F0 m 44 ls [.int r_36, .int i_4, .ref h0_keys]) rfl ?_
    replace hf := zk_s hf
    refine va_iast (pc := 44) hx hb hK hP hD hS 1 1 rfl rfl hf.1 (zdt_at zt_X0_setKey_0 25 rfl) ?_
    replace hf := hf.2
    clear hP hD hS
    intro H locs hP hD hS
    obtain ⟨c_keys_37, e_⟩ : ∃ q : Nat → Int32, q = (upd c_keys_5 i_4.toNatClampNeg r_36) := ⟨_, rfl⟩
    replace hf := zn_s hf e_
    replace hP : va_P D vwCl ([(h0, .inr (2, [.ref h0_keys, .int x_3])), (h0_keys, .inl (cy 1, 60, .inl c_keys_37)), (ha1, .inl (cy 0, n_a1, .inl ca1))]) H := by rw [e_]; exact hP
    replace hD : va_D A ([(h0, .inr (2, [.ref h0_keys, .int x_3])), (h0_keys, .inl (cy 1, 60, .inl c_keys_37)), (ha1, .inl (cy 0, n_a1, .inl ca1))]) := by rw [e_]; exact hD
    clear e_
    refine lv_iinc (pc := 45) (v := (i_4 + (1 : Int32))) (lv' := [(4, .int (i_4 + (1 : Int32))), (0, .ref h0), (1, .ref ha1), (3, .int v_1)]) hx hb (zdt_at zt_X0_setKey_0 26 rfl) hl (k := 3) rfl rfl (by decide) rfl ?_
    clear hl
    intro ls hl
    refine lv_goto (pc := 48) (tgt := 24) hx hb (zdt_at zt_X0_setKey_0 27 rfl) (by decide) ?_
    exact hTo _ _ _ (ihself_33 _ hf H locs ls hP hD hS (lv_sub hl [1, 2, 3, 0] rfl))
  clear eK_2
  refine lv_icmp_ne (pc := 3) (tgt := 11) hx hb (zdt_at zt_X0_setKey_0 2 rfl) (by decide) (fun cn_ => ?t_38) (fun cn_ => ?f_39)
  case t_38 =>
    replace hf := ze_s cn_ hf
    clear cn_
    refine lv_iconst (pc := 11) (v := (4 : Int32)) hx hb (zdt_at zt_X0_setKey_0 5 rfl) (by decide) ?_
    exact hTo _ _ _ (kK_2 _ H locs ls hP hD hS (lv_sub hl [0, 1] rfl) hf)
  replace hf := zt_s cn_ hf
  clear cn_
  refine lv_bipush (pc := 6) (v := (8 : Int32)) hx hb (zdt_at zt_X0_setKey_0 3 rfl) (by decide) ?_
  refine lv_goto (pc := 8) (tgt := 12) hx hb (zdt_at zt_X0_setKey_0 4 rfl) (by decide) ?_
  exact hTo _ _ _ (kK_2 _ H locs ls hP hD hS (lv_sub hl [0, 1] rfl) hf)
set_option maxHeartbeats 4000000 in
set_option maxRecDepth 100000 in
theorem c_X0_mixed (l : Launch) (D : va_G) (cy : Nat → ClassId) (tt : Nat → Nat) (sz : Nat) (p0 : Int32) (r_ : Int32) (hf : f_X0_mixed p0 = some r_) : Met l yX0_mixed wsX0_mixed ({ frames := 0, cells := 0, slots := 0, locals := 0 }) (zPc D cy tt sz [.int p0] ([])) (fun _ st o t => o = .returned (some (.int r_)) ∧ t.heap = st.heap) 0 0 (fun _ => False) := by
  refine Met.ofW (cc := cX0_mixed) (maxL := 3) (ret := (some .int)) (by decide) rfl ?_
  intro p e s m args below meth c s₁ B hml hv
  obtain ⟨rfl, rfl, hP, hD0, hE⟩ := hv
  have hx := B.exec
  have hb := B.bytes
  have hr := B.returns
  have hts := atoms_spec (ws := wsX0_mixed) B.pre
  have hown : s.vm.findClass RX0 = some m.cls := findClass_of_methodNamed B.named
  have hlocks := B.notSynchronized
  clear B
  have hD := hD0.self (sz := s.heap.size)
  generalize hAe : va_A ([]) s.heap.size = A at hD hE
  have hA : ∀ q : Nat, s.heap.size ≤ q → A q := fun q h => by rw [← hAe]; exact Or.inr h
  clear hAe hD0
  have hS : va_S A s.heap s.heap [] := va_S.rf
  have hK := hE.1
  have hw0 := hts (.constant RX0 50 (2139062143)) (by decide +kernel)
  have hw1 := hts (.constant RX0 51 (16843009)) (by decide +kernel)
  have hl := lv_entry ([.int p0]) (n := 3) (Nat.le_of_ble_eq_true rfl)
  rw [lg_entry_eq]
  generalize (lg_sl ([.int p0]) ++ List.replicate (3 - (lg_sl ([.int p0])).length) Slot.unset).toArray = ls at hl ⊢
  replace hl : lv_has ls 3 [(0, .int p0)] := hl
  unfold f_X0_mixed at hf
  refine zgo (fun GW hTo hFr => ?_)
  refine hFr _ _ _ ?_
  refine lv_iload_n (pc := 0) hx hb (zdt_at zt_X0_mixed_0 0 rfl) rfl (lv_at hl 0 rfl) ?_
  refine lv_ldc (pc := 1) hx hb hown hw0 (zdt_at zt_X0_mixed_0 1 rfl) ?_
  refine lv_iand (pc := 3) hx hb (zdt_at zt_X0_mixed_0 2 rfl) ?_
  refine lv_iconst (pc := 4) (v := (1 : Int32)) hx hb (zdt_at zt_X0_mixed_0 3 rfl) (by decide) ?_
  refine lv_ishl (pc := 5) hx hb (zdt_at zt_X0_mixed_0 4 rfl) ?_
  refine lv_iload_n (pc := 6) hx hb (zdt_at zt_X0_mixed_0 5 rfl) rfl (lv_at hl 0 rfl) ?_
  refine lv_bipush (pc := 7) (v := (7 : Int32)) hx hb (zdt_at zt_X0_mixed_0 6 rfl) (by decide) ?_
  refine lv_iushr (pc := 9) hx hb (zdt_at zt_X0_mixed_0 7 rfl) rfl ?_
  refine lv_ldc (pc := 10) hx hb hown hw1 (zdt_at zt_X0_mixed_0 8 rfl) ?_
  refine lv_iand (pc := 12) hx hb (zdt_at zt_X0_mixed_0 9 rfl) ?_
  refine lv_bipush (pc := 13) (v := (27 : Int32)) hx hb (zdt_at zt_X0_mixed_0 10 rfl) (by decide) ?_
  refine lv_imul (pc := 15) hx hb (zdt_at zt_X0_mixed_0 11 rfl) ?_
  refine lv_ixor (pc := 16) hx hb (zdt_at zt_X0_mixed_0 12 rfl) ?_
  refine lv_topi (fun x_1 e_ => ?_)
  replace hf := zn_s hf e_
  clear e_
  refine lv_istore_n (pc := 17) (lv' := [(1, .int x_1), (0, .int p0)]) hx hb (zdt_at zt_X0_mixed_0 13 rfl) rfl hl (by decide) rfl ?_
  clear hl
  intro ls hl
  refine lv_iload_n (pc := 18) hx hb (zdt_at zt_X0_mixed_0 14 rfl) rfl (lv_at hl 0 rfl) ?_
  refine lv_iload_n (pc := 19) hx hb (zdt_at zt_X0_mixed_0 15 rfl) rfl (lv_at hl 1 rfl) ?_
  refine lv_ixor (pc := 20) hx hb (zdt_at zt_X0_mixed_0 16 rfl) ?_
  refine lv_topi (fun x_2 e_ => ?_)
  replace hf := zn_s hf e_
  clear e_
  refine lv_istore_n (pc := 21) (lv' := [(2, .int x_2), (1, .int x_1), (0, .int p0)]) hx hb (zdt_at zt_X0_mixed_0 17 rfl) rfl hl (by decide) rfl ?_
  clear hl
  intro ls hl
  refine lv_iload_n (pc := 22) hx hb (zdt_at zt_X0_mixed_0 18 rfl) rfl (lv_at hl 1 rfl) ?_
  refine lv_iload_n (pc := 23) hx hb (zdt_at zt_X0_mixed_0 19 rfl) rfl (lv_at hl 0 rfl) ?_
  refine lv_bipush (pc := 24) (v := (8 : Int32)) hx hb (zdt_at zt_X0_mixed_0 20 rfl) (by decide) ?_
  refine lv_ishl (pc := 26) hx hb (zdt_at zt_X0_mixed_0 21 rfl) ?_
  refine lv_iload_n (pc := 27) hx hb (zdt_at zt_X0_mixed_0 22 rfl) rfl (lv_at hl 0 rfl) ?_
  refine lv_bipush (pc := 28) (v := (24 : Int32)) hx hb (zdt_at zt_X0_mixed_0 23 rfl) (by decide) ?_
  refine lv_iushr (pc := 30) hx hb (zdt_at zt_X0_mixed_0 24 rfl) rfl ?_
  refine lv_ior (pc := 31) hx hb (zdt_at zt_X0_mixed_0 25 rfl) ?_
  refine lv_ixor (pc := 32) hx hb (zdt_at zt_X0_mixed_0 26 rfl) ?_
  refine lv_iload_n (pc := 33) hx hb (zdt_at zt_X0_mixed_0 27 rfl) rfl (lv_at hl 2 rfl) ?_
  refine lv_bipush (pc := 34) (v := (16 : Int32)) hx hb (zdt_at zt_X0_mixed_0 28 rfl) (by decide) ?_
  refine lv_ishl (pc := 36) hx hb (zdt_at zt_X0_mixed_0 29 rfl) ?_
  refine lv_iload_n (pc := 37) hx hb (zdt_at zt_X0_mixed_0 30 rfl) rfl (lv_at hl 2 rfl) ?_
  refine lv_bipush (pc := 38) (v := (16 : Int32)) hx hb (zdt_at zt_X0_mixed_0 31 rfl) (by decide) ?_
  refine lv_iushr (pc := 40) hx hb (zdt_at zt_X0_mixed_0 32 rfl) rfl ?_
  refine lv_ior (pc := 41) hx hb (zdt_at zt_X0_mixed_0 33 rfl) ?_
  refine lv_ixor (pc := 42) hx hb (zdt_at zt_X0_mixed_0 34 rfl) ?_
  refine lv_iload_n (pc := 43) hx hb (zdt_at zt_X0_mixed_0 35 rfl) rfl (lv_at hl 2 rfl) ?_
  refine lv_bipush (pc := 44) (v := (24 : Int32)) hx hb (zdt_at zt_X0_mixed_0 36 rfl) (by decide) ?_
  refine lv_ishl (pc := 46) hx hb (zdt_at zt_X0_mixed_0 37 rfl) ?_
  refine lv_iload_n (pc := 47) hx hb (zdt_at zt_X0_mixed_0 38 rfl) rfl (lv_at hl 2 rfl) ?_
  refine lv_bipush (pc := 48) (v := (8 : Int32)) hx hb (zdt_at zt_X0_mixed_0 39 rfl) (by decide) ?_
  refine lv_iushr (pc := 50) hx hb (zdt_at zt_X0_mixed_0 40 rfl) rfl ?_
  refine lv_ior (pc := 51) hx hb (zdt_at zt_X0_mixed_0 41 rfl) ?_
  refine lv_ixor (pc := 52) hx hb (zdt_at zt_X0_mixed_0 42 rfl) ?_
  cases hf
  exact W.iret (pc := 53) hx hb hr (fun t ht hW => ⟨rfl, ht⟩) (fun _ h => nomatch h) (zdt_at zt_X0_mixed_0 43 rfl)
set_option maxHeartbeats 4000000 in
set_option maxRecDepth 100000 in
theorem c_X0_encrypt (l : Launch) (D : va_G) (cy : Nat → ClassId) (tt : Nat → Nat) (sz : Nat) (h0 : Nat) (h0_keys : Nat) (ha1 : Nat) (n_a1 : Nat) (p2 : Int32) (c_rounds : Int32) (c_keys : Nat → Int32) (ca1 : Nat → Int32) (ca1' : Nat → Int32) (hf : f_X0_encrypt n_a1 p2 c_rounds c_keys ca1 = some ca1') : Met l yX0_encrypt wsX0_encrypt ({ frames := 1, cells := 0, slots := 0, locals := 23 }) (zPc D cy tt sz [.ref h0, .ref ha1, .int p2] ([(h0, .inr (2, [.ref h0_keys, .int c_rounds])), (h0_keys, .inl (cy 1, 60, .inl c_keys)), (ha1, .inl (cy 0, n_a1, .inl ca1))])) (zQ D none ([(h0, .inr (2, [.ref h0_keys, .int c_rounds])), (h0_keys, .inl (cy 1, 60, .inl c_keys)), (ha1, .inl (cy 0, n_a1, .inl ca1'))]) (va_A ([(h0, .inr (2, [.ref h0_keys, .int c_rounds])), (h0_keys, .inl (cy 1, 60, .inl c_keys)), (ha1, .inl (cy 0, n_a1, .inl ca1))]) sz)) 0 0 (va_A ([(h0, .inr (2, [.ref h0_keys, .int c_rounds])), (h0_keys, .inl (cy 1, 60, .inl c_keys)), (ha1, .inl (cy 0, n_a1, .inl ca1))]) sz) := by
  refine Met.ofW (cc := cX0_encrypt) (maxL := 13) (ret := none) (by decide) rfl ?_
  intro p e s m args below meth c s₁ B hml hv
  obtain ⟨rfl, rfl, hP, hD0, hE⟩ := hv
  have hx := B.exec
  have hb := B.bytes
  have hr := B.returns
  have hts := atoms_spec (ws := wsX0_encrypt) B.pre
  have hown : s.vm.findClass RX0 = some m.cls := findClass_of_methodNamed B.named
  have hlocks := B.notSynchronized
  clear B
  have hD := hD0.self (sz := s.heap.size)
  generalize hAe : va_A ([(h0, .inr (2, [.ref h0_keys, .int c_rounds])), (h0_keys, .inl (cy 1, 60, .inl c_keys)), (ha1, .inl (cy 0, n_a1, .inl ca1))]) s.heap.size = A at hD hE ⊢
  have hA : ∀ q : Nat, s.heap.size ≤ q → A q := fun q h => by rw [← hAe]; exact Or.inr h
  clear hAe hD0
  have hS : va_S A s.heap s.heap [] := va_S.rf
  have hK := hE.1
  have hw0 := hts (.initialized RX9) (by decide +kernel)
  have hw1 := hts (.static yX9_intAt) (by decide +kernel)
  have hw2 := hts (.fieldLink RX0 7 "SealedModule$Aes" "keys" "[I") (by decide +kernel)
  have hw3 := hts (.fieldLink RX0 13 "SealedModule$Aes" "rounds" "I") (by decide +kernel)
  have hw4 := hts (.static yX9_putInt) (by decide +kernel)
  have hcX0 : ∀ w ∈ u_ws RX0 TX0 2, w ∈ wsX0_encrypt := (fun _ h => List.mem_cons_of_mem _ (List.mem_append_right _ h))
  have hl := lv_entry ([.ref h0, .ref ha1, .int p2]) (n := 13) (Nat.le_of_ble_eq_true rfl)
  rw [lg_entry_eq]
  generalize (lg_sl ([.ref h0, .ref ha1, .int p2]) ++ List.replicate (13 - (lg_sl ([.ref h0, .ref ha1, .int p2])).length) Slot.unset).toArray = ls at hl ⊢
  replace hl : lv_has ls 13 [(0, .ref h0), (1, .ref ha1), (2, .int p2)] := hl
  unfold f_X0_encrypt at hf
  refine zgo (fun GW hTo hFr => ?_)
  refine hFr _ _ _ ?_
  obtain ⟨H, hHe⟩ : ∃ H, H = s.heap := ⟨_, rfl⟩
  obtain ⟨locs, hLe⟩ : ∃ L : List Loc, L = [] := ⟨_, rfl⟩
  rw [← hHe] at hP
  replace hS : va_S A s.heap H locs := by rw [hHe, hLe]; exact hS
  refine zat hHe.symm hLe.symm ?_
  clear hHe hLe
  refine lv_aload_n (pc := 0) hx hb (zdt_at zt_X0_encrypt_0 0 rfl) rfl (lv_at hl 1 rfl) ?_
  refine lv_iload_n (pc := 1) hx hb (zdt_at zt_X0_encrypt_0 1 rfl) rfl (lv_at hl 2 rfl) ?_
  replace hf := zb_s hf
  obtain ⟨r_1, hc_, hf⟩ := hf
  refine zcs (pc := 2) (rv := (some (.int r_1))) (va_runSN (As := [.ref ha1, .int p2]) (rest := []) ⟨hx, hb, hml, hown, hts⟩ (c_X9_intAt l D cy tt H.size ha1 n_a1 p2 ca1 r_1 hc_) ⟨va_cnB 2 hts gX0_encrypt_X9_intAt_n17 rfl rfl rfl (gNs_0 hE.2.1) hw0 (by decide +kernel) ⟨Nat.le_of_ble_eq_true rfl, Nat.le_of_ble_eq_true rfl⟩, hw1, trivial⟩ ⟨zblind, zpre hE hS (hP.sub [2] rfl) (hD.sub [2] (by decide) rfl) (va_free hD hS hA [2] rfl)⟩ rfl rfl hl.1 rfl (lv_room (Nat.le_of_ble_eq_true rfl)) (zdt_at zt_X0_encrypt_0 2 rfl) ⟨Nat.zero_le _, Nat.zero_le _⟩) ?_
  clear hc_
  refine W.eq (g2 := F0 m 5 ls [.int r_1]) rfl ?_
  refine lv_aload_n (pc := 5) hx hb (zdt_at zt_X0_encrypt_0 3 rfl) rfl (lv_at hl 0 rfl) ?_
  refine va_get (pc := 6) (D := D) (ci := 2) (v := .ref h0_keys) (C := RX0) (T := TX0) (N := 2) hx hb hts hcX0 hown hK hP 0 rfl rfl 0 (by decide) hw2 (fun _ h9 => h9) rfl (zdt_at zt_X0_encrypt_0 4 rfl) ?_
  refine lv_iconst (pc := 9) (v := (0 : Int32)) hx hb (zdt_at zt_X0_encrypt_0 5 rfl) (by decide) ?_
  replace hf := zk_s hf
  refine va_iald (pc := 10) hx hb hK hP 1 1 rfl rfl hf.1 (zdt_at zt_X0_encrypt_0 6 rfl) ?_
  replace hf := hf.2
  refine lv_ixor (pc := 11) hx hb (zdt_at zt_X0_encrypt_0 7 rfl) ?_
  refine lv_topi (fun x_2 e_ => ?_)
  replace hf := zn_s hf e_
  clear e_
  refine lv_istore_n (pc := 12) (lv' := [(3, .int x_2), (0, .ref h0), (1, .ref ha1), (2, .int p2)]) hx hb (zdt_at zt_X0_encrypt_0 8 rfl) rfl hl (by decide) rfl ?_
  clear hl
  intro ls hl
  refine lv_aload_n (pc := 13) hx hb (zdt_at zt_X0_encrypt_0 9 rfl) rfl (lv_at hl 2 rfl) ?_
  refine lv_iload_n (pc := 14) hx hb (zdt_at zt_X0_encrypt_0 10 rfl) rfl (lv_at hl 3 rfl) ?_
  refine lv_iconst (pc := 15) (v := (4 : Int32)) hx hb (zdt_at zt_X0_encrypt_0 11 rfl) (by decide) ?_
  refine lv_iadd (pc := 16) hx hb (zdt_at zt_X0_encrypt_0 12 rfl) ?_
  replace hf := zb_s hf
  obtain ⟨r_3, hc_, hf⟩ := hf
  refine zcs (pc := 17) (rv := (some (.int r_3))) (va_runSN (As := [.ref ha1, .int (p2 + (4 : Int32))]) (rest := []) ⟨hx, hb, hml, hown, hts⟩ (c_X9_intAt l D cy tt H.size ha1 n_a1 (p2 + (4 : Int32)) ca1 r_3 hc_) ⟨va_cnB 2 hts gX0_encrypt_X9_intAt_n17 rfl rfl rfl (gNs_0 hE.2.1) hw0 (by decide +kernel) ⟨Nat.le_of_ble_eq_true rfl, Nat.le_of_ble_eq_true rfl⟩, hw1, trivial⟩ ⟨zblind, zpre hE hS (hP.sub [2] rfl) (hD.sub [2] (by decide) rfl) (va_free hD hS hA [2] rfl)⟩ rfl rfl hl.1 rfl (lv_room (Nat.le_of_ble_eq_true rfl)) (zdt_at zt_X0_encrypt_0 13 rfl) ⟨Nat.zero_le _, Nat.zero_le _⟩) ?_
  clear hc_
  refine W.eq (g2 := F0 m 20 ls [.int r_3]) rfl ?_
  refine lv_aload_n (pc := 20) hx hb (zdt_at zt_X0_encrypt_0 14 rfl) rfl (lv_at hl 1 rfl) ?_
  refine va_get (pc := 21) (D := D) (ci := 2) (v := .ref h0_keys) (C := RX0) (T := TX0) (N := 2) hx hb hts hcX0 hown hK hP 0 rfl rfl 0 (by decide) hw2 (fun _ h9 => h9) rfl (zdt_at zt_X0_encrypt_0 15 rfl) ?_
  refine lv_iconst (pc := 24) (v := (1 : Int32)) hx hb (zdt_at zt_X0_encrypt_0 16 rfl) (by decide) ?_
  replace hf := zk_s hf
  refine va_iald (pc := 25) hx hb hK hP 1 1 rfl rfl hf.1 (zdt_at zt_X0_encrypt_0 17 rfl) ?_
  replace hf := hf.2
  refine lv_ixor (pc := 26) hx hb (zdt_at zt_X0_encrypt_0 18 rfl) ?_
  refine lv_topi (fun x_4 e_ => ?_)
  replace hf := zn_s hf e_
  clear e_
  refine lv_istore (pc := 27) (lv' := [(4, .int x_4), (3, .int x_2), (0, .ref h0), (1, .ref ha1), (2, .int p2)]) hx hb (zdt_at zt_X0_encrypt_0 19 rfl) hl (by decide) rfl ?_
  clear hl
  intro ls hl
  refine lv_aload_n (pc := 29) hx hb (zdt_at zt_X0_encrypt_0 20 rfl) rfl (lv_at hl 3 rfl) ?_
  refine lv_iload_n (pc := 30) hx hb (zdt_at zt_X0_encrypt_0 21 rfl) rfl (lv_at hl 4 rfl) ?_
  refine lv_bipush (pc := 31) (v := (8 : Int32)) hx hb (zdt_at zt_X0_encrypt_0 22 rfl) (by decide) ?_
  refine lv_iadd (pc := 33) hx hb (zdt_at zt_X0_encrypt_0 23 rfl) ?_
  replace hf := zb_s hf
  obtain ⟨r_5, hc_, hf⟩ := hf
  refine zcs (pc := 34) (rv := (some (.int r_5))) (va_runSN (As := [.ref ha1, .int (p2 + (8 : Int32))]) (rest := []) ⟨hx, hb, hml, hown, hts⟩ (c_X9_intAt l D cy tt H.size ha1 n_a1 (p2 + (8 : Int32)) ca1 r_5 hc_) ⟨va_cnB 2 hts gX0_encrypt_X9_intAt_n17 rfl rfl rfl (gNs_0 hE.2.1) hw0 (by decide +kernel) ⟨Nat.le_of_ble_eq_true rfl, Nat.le_of_ble_eq_true rfl⟩, hw1, trivial⟩ ⟨zblind, zpre hE hS (hP.sub [2] rfl) (hD.sub [2] (by decide) rfl) (va_free hD hS hA [2] rfl)⟩ rfl rfl hl.1 rfl (lv_room (Nat.le_of_ble_eq_true rfl)) (zdt_at zt_X0_encrypt_0 24 rfl) ⟨Nat.zero_le _, Nat.zero_le _⟩) ?_
  clear hc_
  refine W.eq (g2 := F0 m 37 ls [.int r_5]) rfl ?_
  refine lv_aload_n (pc := 37) hx hb (zdt_at zt_X0_encrypt_0 25 rfl) rfl (lv_at hl 2 rfl) ?_
  refine va_get (pc := 38) (D := D) (ci := 2) (v := .ref h0_keys) (C := RX0) (T := TX0) (N := 2) hx hb hts hcX0 hown hK hP 0 rfl rfl 0 (by decide) hw2 (fun _ h9 => h9) rfl (zdt_at zt_X0_encrypt_0 26 rfl) ?_
  refine lv_iconst (pc := 41) (v := (2 : Int32)) hx hb (zdt_at zt_X0_encrypt_0 27 rfl) (by decide) ?_
  replace hf := zk_s hf
  refine va_iald (pc := 42) hx hb hK hP 1 1 rfl rfl hf.1 (zdt_at zt_X0_encrypt_0 28 rfl) ?_
  replace hf := hf.2
  refine lv_ixor (pc := 43) hx hb (zdt_at zt_X0_encrypt_0 29 rfl) ?_
  refine lv_topi (fun x_6 e_ => ?_)
  replace hf := zn_s hf e_
  clear e_
  refine lv_istore (pc := 44) (lv' := [(5, .int x_6), (4, .int x_4), (3, .int x_2), (0, .ref h0), (1, .ref ha1), (2, .int p2)]) hx hb (zdt_at zt_X0_encrypt_0 30 rfl) hl (by decide) rfl ?_
  clear hl
  intro ls hl
  refine lv_aload_n (pc := 46) hx hb (zdt_at zt_X0_encrypt_0 31 rfl) rfl (lv_at hl 4 rfl) ?_
  refine lv_iload_n (pc := 47) hx hb (zdt_at zt_X0_encrypt_0 32 rfl) rfl (lv_at hl 5 rfl) ?_
  refine lv_bipush (pc := 48) (v := (12 : Int32)) hx hb (zdt_at zt_X0_encrypt_0 33 rfl) (by decide) ?_
  refine lv_iadd (pc := 50) hx hb (zdt_at zt_X0_encrypt_0 34 rfl) ?_
  replace hf := zb_s hf
  obtain ⟨r_7, hc_, hf⟩ := hf
  refine zcs (pc := 51) (rv := (some (.int r_7))) (va_runSN (As := [.ref ha1, .int (p2 + (12 : Int32))]) (rest := []) ⟨hx, hb, hml, hown, hts⟩ (c_X9_intAt l D cy tt H.size ha1 n_a1 (p2 + (12 : Int32)) ca1 r_7 hc_) ⟨va_cnB 2 hts gX0_encrypt_X9_intAt_n17 rfl rfl rfl (gNs_0 hE.2.1) hw0 (by decide +kernel) ⟨Nat.le_of_ble_eq_true rfl, Nat.le_of_ble_eq_true rfl⟩, hw1, trivial⟩ ⟨zblind, zpre hE hS (hP.sub [2] rfl) (hD.sub [2] (by decide) rfl) (va_free hD hS hA [2] rfl)⟩ rfl rfl hl.1 rfl (lv_room (Nat.le_of_ble_eq_true rfl)) (zdt_at zt_X0_encrypt_0 35 rfl) ⟨Nat.zero_le _, Nat.zero_le _⟩) ?_
  clear hc_
  refine W.eq (g2 := F0 m 54 ls [.int r_7]) rfl ?_
  refine lv_aload_n (pc := 54) hx hb (zdt_at zt_X0_encrypt_0 36 rfl) rfl (lv_at hl 3 rfl) ?_
  refine va_get (pc := 55) (D := D) (ci := 2) (v := .ref h0_keys) (C := RX0) (T := TX0) (N := 2) hx hb hts hcX0 hown hK hP 0 rfl rfl 0 (by decide) hw2 (fun _ h9 => h9) rfl (zdt_at zt_X0_encrypt_0 37 rfl) ?_
  refine lv_iconst (pc := 58) (v := (3 : Int32)) hx hb (zdt_at zt_X0_encrypt_0 38 rfl) (by decide) ?_
  replace hf := zk_s hf
  refine va_iald (pc := 59) hx hb hK hP 1 1 rfl rfl hf.1 (zdt_at zt_X0_encrypt_0 39 rfl) ?_
  replace hf := hf.2
  refine lv_ixor (pc := 60) hx hb (zdt_at zt_X0_encrypt_0 40 rfl) ?_
  refine lv_topi (fun x_8 e_ => ?_)
  replace hf := zn_s hf e_
  clear e_
  refine lv_istore (pc := 61) (lv' := [(6, .int x_8), (5, .int x_6), (4, .int x_4), (3, .int x_2), (0, .ref h0), (1, .ref ha1), (2, .int p2)]) hx hb (zdt_at zt_X0_encrypt_0 41 rfl) hl (by decide) rfl ?_
  clear hl
  intro ls hl
  refine lv_iconst (pc := 63) (v := (4 : Int32)) hx hb (zdt_at zt_X0_encrypt_0 42 rfl) (by decide) ?_
  refine lv_aload_n (pc := 64) hx hb (zdt_at zt_X0_encrypt_0 43 rfl) rfl (lv_at hl 4 rfl) ?_
  refine va_get (pc := 65) (D := D) (ci := 2) (v := .int c_rounds) (C := RX0) (T := TX0) (N := 2) hx hb hts hcX0 hown hK hP 0 rfl rfl 1 (by decide) hw3 (fun _ h9 => h9) rfl (zdt_at zt_X0_encrypt_0 44 rfl) ?_
  refine lv_imul (pc := 68) hx hb (zdt_at zt_X0_encrypt_0 45 rfl) ?_
  refine lv_topi (fun x_9 e_ => ?_)
  replace hf := zn_s hf e_
  clear e_
  refine lv_istore (pc := 69) (lv' := [(7, .int x_9), (6, .int x_8), (5, .int x_6), (4, .int x_4), (3, .int x_2), (0, .ref h0), (1, .ref ha1), (2, .int p2)]) hx hb (zdt_at zt_X0_encrypt_0 46 rfl) hl (by decide) rfl ?_
  clear hl
  intro ls hl
  refine lv_iconst (pc := 71) (v := (4 : Int32)) hx hb (zdt_at zt_X0_encrypt_0 47 rfl) (by decide) ?_
  refine lv_istore (pc := 72) (lv' := [(8, .int (4 : Int32)), (7, .int x_9), (6, .int x_8), (5, .int x_6), (4, .int x_4), (3, .int x_2), (0, .ref h0), (1, .ref ha1), (2, .int p2)]) hx hb (zdt_at zt_X0_encrypt_0 48 rfl) hl (by decide) rfl ?_
  clear hl
  intro ls hl
  replace hf := zj_s hf
  obtain ⟨K_19, eK_19, hf⟩ := hf
  have kK_19 : ∀ (v_15 : Int32) (v_16 : Int32) (v_17 : Int32) (v_18 : Int32) (H : Heap) (locs : List Loc) (ls : Array Slot), va_P D vwCl ([(h0, .inr (2, [.ref h0_keys, .int c_rounds])), (h0_keys, .inl (cy 1, 60, .inl c_keys)), (ha1, .inl (cy 0, n_a1, .inl ca1))]) H → va_D A ([(h0, .inr (2, [.ref h0_keys, .int c_rounds])), (h0_keys, .inl (cy 1, 60, .inl c_keys)), (ha1, .inl (cy 0, n_a1, .inl ca1))]) → va_S A s.heap H locs → lv_has ls 13 [(0, .ref h0), (1, .ref ha1), (2, .int p2), (3, .int v_15), (4, .int v_16), (5, .int v_17), (6, .int v_18), (7, .int x_9)] → K_19 v_15 v_16 v_17 v_18 = some ca1' → GW H locs (F0 m 200 ls []) := by
    clear hf hl hP hD hS
    intro v_15 v_16 v_17 v_18 H locs ls hP hD hS hl hf
    rw [eK_19] at hf
    clear eK_19
    refine hFr _ _ _ ?_
    refine lv_aload_n (pc := 200) hx hb (zdt_at zt_X0_encrypt_1 52 rfl) rfl (lv_at hl 1 rfl) ?_
    refine lv_iload_n (pc := 201) hx hb (zdt_at zt_X0_encrypt_1 53 rfl) rfl (lv_at hl 2 rfl) ?_
    refine lv_iload_n (pc := 202) hx hb (zdt_at zt_X0_encrypt_1 54 rfl) rfl (lv_at hl 3 rfl) ?_
    refine lv_iload (pc := 203) hx hb (zdt_at zt_X0_encrypt_1 55 rfl) (lv_at hl 4 rfl) ?_
    refine lv_iload (pc := 205) hx hb (zdt_at zt_X0_encrypt_1 56 rfl) (lv_at hl 5 rfl) ?_
    refine lv_iload (pc := 207) hx hb (zdt_at zt_X0_encrypt_1 57 rfl) (lv_at hl 6 rfl) ?_
    replace hf := zb_s hf
    obtain ⟨r_20, hc_, hf⟩ := hf
    refine zcs (pc := 209) (rv := (some (.int r_20))) (va_runS (As := [.int v_15, .int v_16, .int v_17, .int v_18]) (rest := [.int p2, .ref ha1]) ⟨hx, hb, hml, hown, hts⟩ (c_X0_boxed l D cy tt H.size v_15 v_16 v_17 v_18 r_20 hc_) (va_cwS 4 hts gX0_encrypt_X0_boxed rfl rfl rfl (by decide +kernel) ⟨Nat.le_of_ble_eq_true rfl, Nat.le_of_ble_eq_true rfl⟩) ⟨zblind, zpre hE hS (hP.sub [] rfl) (hD.sub [] (by decide) rfl) (va_free hD hS hA [] rfl)⟩ rfl rfl hl.1 rfl (lv_room (Nat.le_of_ble_eq_true rfl)) (zdt_at zt_X0_encrypt_1 58 rfl) ⟨Nat.zero_le _, Nat.zero_le _⟩) ?_
    clear hc_
    refine W.eq (g2 := F0 m 212 ls [.int r_20, .int p2, .ref ha1]) rfl ?_
    refine lv_aload_n (pc := 212) hx hb (zdt_at zt_X0_encrypt_1 59 rfl) rfl (lv_at hl 0 rfl) ?_
    refine va_get (pc := 213) (D := D) (ci := 2) (v := .ref h0_keys) (C := RX0) (T := TX0) (N := 2) hx hb hts hcX0 hown hK hP 0 rfl rfl 0 (by decide) hw2 (fun _ h9 => h9) rfl (zdt_at zt_X0_encrypt_1 60 rfl) ?_
    refine lv_iload (pc := 216) hx hb (zdt_at zt_X0_encrypt_1 61 rfl) (lv_at hl 7 rfl) ?_
    replace hf := zk_s hf
    refine va_iald (pc := 218) hx hb hK hP 1 1 rfl rfl hf.1 (zdt_at zt_X0_encrypt_1 62 rfl) ?_
    replace hf := hf.2
    refine lv_ixor (pc := 219) hx hb (zdt_at zt_X0_encrypt_1 63 rfl) ?_
    replace hf := zb_s hf
    obtain ⟨ca1_21, hc_, hf⟩ := hf
    refine zcn2 (pc := 220) (rv := none) (va_runSN (As := [.ref ha1, .int p2, .int (r_20 ^^^ (c_keys x_9.toNatClampNeg))]) (rest := []) ⟨hx, hb, hml, hown, hts⟩ (c_X9_putInt l D cy tt H.size ha1 n_a1 p2 (r_20 ^^^ (c_keys x_9.toNatClampNeg)) ca1 ca1_21 hc_) ⟨va_cnB 3 hts gX0_encrypt_X9_putInt_n34 rfl rfl rfl (gNs_1 hE.2.1) hw0 (by decide +kernel) ⟨Nat.le_of_ble_eq_true rfl, Nat.le_of_ble_eq_true rfl⟩, hw4, trivial⟩ ⟨zblind, zpre hE hS (hP.sub [2] rfl) (hD.sub [2] (by decide) rfl) (va_free hD hS hA [2] rfl)⟩ rfl rfl hl.1 rfl (lv_room (Nat.le_of_ble_eq_true rfl)) (zdt_at zt_X0_encrypt_2 0 rfl) ⟨Nat.zero_le _, Nat.zero_le _⟩) hS hP hD (va_free hD hS hA [2] rfl) [2] rfl (by decide) rfl ?_
    clear hP hD hS hc_
    intro H locs hP hD hS
    replace hP : va_P D vwCl ([(h0, .inr (2, [.ref h0_keys, .int c_rounds])), (h0_keys, .inl (cy 1, 60, .inl c_keys)), (ha1, .inl (cy 0, n_a1, .inl ca1_21))]) H := hP
    replace hD : va_D A ([(h0, .inr (2, [.ref h0_keys, .int c_rounds])), (h0_keys, .inl (cy 1, 60, .inl c_keys)), (ha1, .inl (cy 0, n_a1, .inl ca1_21))]) := hD
    refine W.eq (g2 := F0 m 223 ls []) rfl ?_
    refine lv_aload_n (pc := 223) hx hb (zdt_at zt_X0_encrypt_2 1 rfl) rfl (lv_at hl 1 rfl) ?_
    refine lv_iload_n (pc := 224) hx hb (zdt_at zt_X0_encrypt_2 2 rfl) rfl (lv_at hl 2 rfl) ?_
    refine lv_iconst (pc := 225) (v := (4 : Int32)) hx hb (zdt_at zt_X0_encrypt_2 3 rfl) (by decide) ?_
    refine lv_iadd (pc := 226) hx hb (zdt_at zt_X0_encrypt_2 4 rfl) ?_
    refine lv_iload (pc := 227) hx hb (zdt_at zt_X0_encrypt_2 5 rfl) (lv_at hl 4 rfl) ?_
    refine lv_iload (pc := 229) hx hb (zdt_at zt_X0_encrypt_2 6 rfl) (lv_at hl 5 rfl) ?_
    refine lv_iload (pc := 231) hx hb (zdt_at zt_X0_encrypt_2 7 rfl) (lv_at hl 6 rfl) ?_
    refine lv_iload_n (pc := 233) hx hb (zdt_at zt_X0_encrypt_2 8 rfl) rfl (lv_at hl 3 rfl) ?_
    replace hf := zb_s hf
    obtain ⟨r_22, hc_, hf⟩ := hf
    refine zcs (pc := 234) (rv := (some (.int r_22))) (va_runS (As := [.int v_16, .int v_17, .int v_18, .int v_15]) (rest := [.int (p2 + (4 : Int32)), .ref ha1]) ⟨hx, hb, hml, hown, hts⟩ (c_X0_boxed l D cy tt H.size v_16 v_17 v_18 v_15 r_22 hc_) (va_cwS 4 hts gX0_encrypt_X0_boxed rfl rfl rfl (by decide +kernel) ⟨Nat.le_of_ble_eq_true rfl, Nat.le_of_ble_eq_true rfl⟩) ⟨zblind, zpre hE hS (hP.sub [] rfl) (hD.sub [] (by decide) rfl) (va_free hD hS hA [] rfl)⟩ rfl rfl hl.1 rfl (lv_room (Nat.le_of_ble_eq_true rfl)) (zdt_at zt_X0_encrypt_2 9 rfl) ⟨Nat.zero_le _, Nat.zero_le _⟩) ?_
    clear hc_
    refine W.eq (g2 := F0 m 237 ls [.int r_22, .int (p2 + (4 : Int32)), .ref ha1]) rfl ?_
    refine lv_aload_n (pc := 237) hx hb (zdt_at zt_X0_encrypt_2 10 rfl) rfl (lv_at hl 0 rfl) ?_
    refine va_get (pc := 238) (D := D) (ci := 2) (v := .ref h0_keys) (C := RX0) (T := TX0) (N := 2) hx hb hts hcX0 hown hK hP 0 rfl rfl 0 (by decide) hw2 (fun _ h9 => h9) rfl (zdt_at zt_X0_encrypt_2 11 rfl) ?_
    refine lv_iload (pc := 241) hx hb (zdt_at zt_X0_encrypt_2 12 rfl) (lv_at hl 7 rfl) ?_
    refine lv_iconst (pc := 243) (v := (1 : Int32)) hx hb (zdt_at zt_X0_encrypt_2 13 rfl) (by decide) ?_
    refine lv_iadd (pc := 244) hx hb (zdt_at zt_X0_encrypt_2 14 rfl) ?_
    replace hf := zk_s hf
    refine va_iald (pc := 245) hx hb hK hP 1 1 rfl rfl hf.1 (zdt_at zt_X0_encrypt_2 15 rfl) ?_
    replace hf := hf.2
    refine lv_ixor (pc := 246) hx hb (zdt_at zt_X0_encrypt_2 16 rfl) ?_
    replace hf := zb_s hf
    obtain ⟨ca1_23, hc_, hf⟩ := hf
    refine zcn2 (pc := 247) (rv := none) (va_runSN (As := [.ref ha1, .int (p2 + (4 : Int32)), .int (r_22 ^^^ (c_keys (x_9 + (1 : Int32)).toNatClampNeg))]) (rest := []) ⟨hx, hb, hml, hown, hts⟩ (c_X9_putInt l D cy tt H.size ha1 n_a1 (p2 + (4 : Int32)) (r_22 ^^^ (c_keys (x_9 + (1 : Int32)).toNatClampNeg)) ca1_21 ca1_23 hc_) ⟨va_cnB 3 hts gX0_encrypt_X9_putInt_n34 rfl rfl rfl (gNs_1 hE.2.1) hw0 (by decide +kernel) ⟨Nat.le_of_ble_eq_true rfl, Nat.le_of_ble_eq_true rfl⟩, hw4, trivial⟩ ⟨zblind, zpre hE hS (hP.sub [2] rfl) (hD.sub [2] (by decide) rfl) (va_free hD hS hA [2] rfl)⟩ rfl rfl hl.1 rfl (lv_room (Nat.le_of_ble_eq_true rfl)) (zdt_at zt_X0_encrypt_2 17 rfl) ⟨Nat.zero_le _, Nat.zero_le _⟩) hS hP hD (va_free hD hS hA [2] rfl) [2] rfl (by decide) rfl ?_
    clear hP hD hS hc_
    intro H locs hP hD hS
    replace hP : va_P D vwCl ([(h0, .inr (2, [.ref h0_keys, .int c_rounds])), (h0_keys, .inl (cy 1, 60, .inl c_keys)), (ha1, .inl (cy 0, n_a1, .inl ca1_23))]) H := hP
    replace hD : va_D A ([(h0, .inr (2, [.ref h0_keys, .int c_rounds])), (h0_keys, .inl (cy 1, 60, .inl c_keys)), (ha1, .inl (cy 0, n_a1, .inl ca1_23))]) := hD
    refine W.eq (g2 := F0 m 250 ls []) rfl ?_
    refine lv_aload_n (pc := 250) hx hb (zdt_at zt_X0_encrypt_2 18 rfl) rfl (lv_at hl 1 rfl) ?_
    refine lv_iload_n (pc := 251) hx hb (zdt_at zt_X0_encrypt_2 19 rfl) rfl (lv_at hl 2 rfl) ?_
    refine lv_bipush (pc := 252) (v := (8 : Int32)) hx hb (zdt_at zt_X0_encrypt_2 20 rfl) (by decide) ?_
    refine lv_iadd (pc := 254) hx hb (zdt_at zt_X0_encrypt_2 21 rfl) ?_
    refine lv_iload (pc := 255) hx hb (zdt_at zt_X0_encrypt_2 22 rfl) (lv_at hl 5 rfl) ?_
    refine lv_iload (pc := 257) hx hb (zdt_at zt_X0_encrypt_2 23 rfl) (lv_at hl 6 rfl) ?_
    refine lv_iload_n (pc := 259) hx hb (zdt_at zt_X0_encrypt_2 24 rfl) rfl (lv_at hl 3 rfl) ?_
    refine lv_iload (pc := 260) hx hb (zdt_at zt_X0_encrypt_2 25 rfl) (lv_at hl 4 rfl) ?_
    replace hf := zb_s hf
    obtain ⟨r_24, hc_, hf⟩ := hf
    refine zcs (pc := 262) (rv := (some (.int r_24))) (va_runS (As := [.int v_17, .int v_18, .int v_15, .int v_16]) (rest := [.int (p2 + (8 : Int32)), .ref ha1]) ⟨hx, hb, hml, hown, hts⟩ (c_X0_boxed l D cy tt H.size v_17 v_18 v_15 v_16 r_24 hc_) (va_cwS 4 hts gX0_encrypt_X0_boxed rfl rfl rfl (by decide +kernel) ⟨Nat.le_of_ble_eq_true rfl, Nat.le_of_ble_eq_true rfl⟩) ⟨zblind, zpre hE hS (hP.sub [] rfl) (hD.sub [] (by decide) rfl) (va_free hD hS hA [] rfl)⟩ rfl rfl hl.1 rfl (lv_room (Nat.le_of_ble_eq_true rfl)) (zdt_at zt_X0_encrypt_2 26 rfl) ⟨Nat.zero_le _, Nat.zero_le _⟩) ?_
    clear hc_
    refine W.eq (g2 := F0 m 265 ls [.int r_24, .int (p2 + (8 : Int32)), .ref ha1]) rfl ?_
    refine lv_aload_n (pc := 265) hx hb (zdt_at zt_X0_encrypt_2 27 rfl) rfl (lv_at hl 0 rfl) ?_
    refine va_get (pc := 266) (D := D) (ci := 2) (v := .ref h0_keys) (C := RX0) (T := TX0) (N := 2) hx hb hts hcX0 hown hK hP 0 rfl rfl 0 (by decide) hw2 (fun _ h9 => h9) rfl (zdt_at zt_X0_encrypt_2 28 rfl) ?_
    refine lv_iload (pc := 269) hx hb (zdt_at zt_X0_encrypt_2 29 rfl) (lv_at hl 7 rfl) ?_
    refine lv_iconst (pc := 271) (v := (2 : Int32)) hx hb (zdt_at zt_X0_encrypt_2 30 rfl) (by decide) ?_
    refine lv_iadd (pc := 272) hx hb (zdt_at zt_X0_encrypt_2 31 rfl) ?_
    replace hf := zk_s hf
    refine va_iald (pc := 273) hx hb hK hP 1 1 rfl rfl hf.1 (zdt_at zt_X0_encrypt_2 32 rfl) ?_
    replace hf := hf.2
    refine lv_ixor (pc := 274) hx hb (zdt_at zt_X0_encrypt_2 33 rfl) ?_
    replace hf := zb_s hf
    obtain ⟨ca1_25, hc_, hf⟩ := hf
    refine zcn2 (pc := 275) (rv := none) (va_runSN (As := [.ref ha1, .int (p2 + (8 : Int32)), .int (r_24 ^^^ (c_keys (x_9 + (2 : Int32)).toNatClampNeg))]) (rest := []) ⟨hx, hb, hml, hown, hts⟩ (c_X9_putInt l D cy tt H.size ha1 n_a1 (p2 + (8 : Int32)) (r_24 ^^^ (c_keys (x_9 + (2 : Int32)).toNatClampNeg)) ca1_23 ca1_25 hc_) ⟨va_cnB 3 hts gX0_encrypt_X9_putInt_n34 rfl rfl rfl (gNs_1 hE.2.1) hw0 (by decide +kernel) ⟨Nat.le_of_ble_eq_true rfl, Nat.le_of_ble_eq_true rfl⟩, hw4, trivial⟩ ⟨zblind, zpre hE hS (hP.sub [2] rfl) (hD.sub [2] (by decide) rfl) (va_free hD hS hA [2] rfl)⟩ rfl rfl hl.1 rfl (lv_room (Nat.le_of_ble_eq_true rfl)) (zdt_at zt_X0_encrypt_2 34 rfl) ⟨Nat.zero_le _, Nat.zero_le _⟩) hS hP hD (va_free hD hS hA [2] rfl) [2] rfl (by decide) rfl ?_
    clear hP hD hS hc_
    intro H locs hP hD hS
    replace hP : va_P D vwCl ([(h0, .inr (2, [.ref h0_keys, .int c_rounds])), (h0_keys, .inl (cy 1, 60, .inl c_keys)), (ha1, .inl (cy 0, n_a1, .inl ca1_25))]) H := hP
    replace hD : va_D A ([(h0, .inr (2, [.ref h0_keys, .int c_rounds])), (h0_keys, .inl (cy 1, 60, .inl c_keys)), (ha1, .inl (cy 0, n_a1, .inl ca1_25))]) := hD
    refine W.eq (g2 := F0 m 278 ls []) rfl ?_
    refine lv_aload_n (pc := 278) hx hb (zdt_at zt_X0_encrypt_2 35 rfl) rfl (lv_at hl 1 rfl) ?_
    refine lv_iload_n (pc := 279) hx hb (zdt_at zt_X0_encrypt_2 36 rfl) rfl (lv_at hl 2 rfl) ?_
    refine lv_bipush (pc := 280) (v := (12 : Int32)) hx hb (zdt_at zt_X0_encrypt_2 37 rfl) (by decide) ?_
    refine lv_iadd (pc := 282) hx hb (zdt_at zt_X0_encrypt_2 38 rfl) ?_
    refine lv_iload (pc := 283) hx hb (zdt_at zt_X0_encrypt_2 39 rfl) (lv_at hl 6 rfl) ?_
    refine lv_iload_n (pc := 285) hx hb (zdt_at zt_X0_encrypt_2 40 rfl) rfl (lv_at hl 3 rfl) ?_
    refine lv_iload (pc := 286) hx hb (zdt_at zt_X0_encrypt_2 41 rfl) (lv_at hl 4 rfl) ?_
    refine lv_iload (pc := 288) hx hb (zdt_at zt_X0_encrypt_2 42 rfl) (lv_at hl 5 rfl) ?_
    replace hf := zb_s hf
    obtain ⟨r_26, hc_, hf⟩ := hf
    refine zcs (pc := 290) (rv := (some (.int r_26))) (va_runS (As := [.int v_18, .int v_15, .int v_16, .int v_17]) (rest := [.int (p2 + (12 : Int32)), .ref ha1]) ⟨hx, hb, hml, hown, hts⟩ (c_X0_boxed l D cy tt H.size v_18 v_15 v_16 v_17 r_26 hc_) (va_cwS 4 hts gX0_encrypt_X0_boxed rfl rfl rfl (by decide +kernel) ⟨Nat.le_of_ble_eq_true rfl, Nat.le_of_ble_eq_true rfl⟩) ⟨zblind, zpre hE hS (hP.sub [] rfl) (hD.sub [] (by decide) rfl) (va_free hD hS hA [] rfl)⟩ rfl rfl hl.1 rfl (lv_room (Nat.le_of_ble_eq_true rfl)) (zdt_at zt_X0_encrypt_2 43 rfl) ⟨Nat.zero_le _, Nat.zero_le _⟩) ?_
    clear hc_
    refine W.eq (g2 := F0 m 293 ls [.int r_26, .int (p2 + (12 : Int32)), .ref ha1]) rfl ?_
    refine lv_aload_n (pc := 293) hx hb (zdt_at zt_X0_encrypt_2 44 rfl) rfl (lv_at hl 0 rfl) ?_
    refine va_get (pc := 294) (D := D) (ci := 2) (v := .ref h0_keys) (C := RX0) (T := TX0) (N := 2) hx hb hts hcX0 hown hK hP 0 rfl rfl 0 (by decide) hw2 (fun _ h9 => h9) rfl (zdt_at zt_X0_encrypt_2 45 rfl) ?_
    refine lv_iload (pc := 297) hx hb (zdt_at zt_X0_encrypt_2 46 rfl) (lv_at hl 7 rfl) ?_
    refine lv_iconst (pc := 299) (v := (3 : Int32)) hx hb (zdt_at zt_X0_encrypt_2 47 rfl) (by decide) ?_
    refine lv_iadd (pc := 300) hx hb (zdt_at zt_X0_encrypt_2 48 rfl) ?_
    replace hf := zk_s hf
    refine va_iald (pc := 301) hx hb hK hP 1 1 rfl rfl hf.1 (zdt_at zt_X0_encrypt_2 49 rfl) ?_
    replace hf := hf.2
    refine lv_ixor (pc := 302) hx hb (zdt_at zt_X0_encrypt_2 50 rfl) ?_
    replace hf := zb_s hf
    obtain ⟨ca1_27, hc_, hf⟩ := hf
    refine zcn2 (pc := 303) (rv := none) (va_runSN (As := [.ref ha1, .int (p2 + (12 : Int32)), .int (r_26 ^^^ (c_keys (x_9 + (3 : Int32)).toNatClampNeg))]) (rest := []) ⟨hx, hb, hml, hown, hts⟩ (c_X9_putInt l D cy tt H.size ha1 n_a1 (p2 + (12 : Int32)) (r_26 ^^^ (c_keys (x_9 + (3 : Int32)).toNatClampNeg)) ca1_25 ca1_27 hc_) ⟨va_cnB 3 hts gX0_encrypt_X9_putInt_n34 rfl rfl rfl (gNs_1 hE.2.1) hw0 (by decide +kernel) ⟨Nat.le_of_ble_eq_true rfl, Nat.le_of_ble_eq_true rfl⟩, hw4, trivial⟩ ⟨zblind, zpre hE hS (hP.sub [2] rfl) (hD.sub [2] (by decide) rfl) (va_free hD hS hA [2] rfl)⟩ rfl rfl hl.1 rfl (lv_room (Nat.le_of_ble_eq_true rfl)) (zdt_at zt_X0_encrypt_2 51 rfl) ⟨Nat.zero_le _, Nat.zero_le _⟩) hS hP hD (va_free hD hS hA [2] rfl) [2] rfl (by decide) rfl ?_
    clear hP hD hS hc_
    intro H locs hP hD hS
    replace hP : va_P D vwCl ([(h0, .inr (2, [.ref h0_keys, .int c_rounds])), (h0_keys, .inl (cy 1, 60, .inl c_keys)), (ha1, .inl (cy 0, n_a1, .inl ca1_27))]) H := hP
    replace hD : va_D A ([(h0, .inr (2, [.ref h0_keys, .int c_rounds])), (h0_keys, .inl (cy 1, 60, .inl c_keys)), (ha1, .inl (cy 0, n_a1, .inl ca1_27))]) := hD
    refine W.eq (g2 := F0 m 306 ls []) rfl ?_
    cases hf
    exact W.vret (pc := 306) hx hb hr (fun t ht hW => ⟨rfl, ⟨by rw [ht]; exact hP, hD⟩, hS.F ht⟩) hS.2.2 (zdt_at zt_X0_encrypt_2 52 rfl)
  clear eK_19
  refine hTo _ _ _ (zl_go (fun z => match z with | (i_10, i_11, i_12, i_13, i_14) => ∀ (H : Heap) (locs : List Loc) (ls : Array Slot), va_P D vwCl ([(h0, .inr (2, [.ref h0_keys, .int c_rounds])), (h0_keys, .inl (cy 1, 60, .inl c_keys)), (ha1, .inl (cy 0, n_a1, .inl ca1))]) H → va_D A ([(h0, .inr (2, [.ref h0_keys, .int c_rounds])), (h0_keys, .inl (cy 1, 60, .inl c_keys)), (ha1, .inl (cy 0, n_a1, .inl ca1))]) → va_S A s.heap H locs → lv_has ls 13 [(0, .ref h0), (1, .ref ha1), (2, .int p2), (3, .int i_10), (4, .int i_11), (5, .int i_12), (6, .int i_13), (7, .int x_9), (8, .int i_14)] → GW H locs (F0 m 74 ls [])) hf ?_ H locs ls hP hD hS (lv_sub hl [6, 7, 8, 5, 4, 3, 2, 1, 0] rfl))
  clear hf hl hP hD hS
  intro self_28 ihself_28 z hf
  obtain ⟨i_10, i_11, i_12, i_13, i_14⟩ := z
  intro H locs ls hP hD hS hl
  refine hFr _ _ _ ?_
  unfold b_X0_encrypt_74 at hf
  refine lv_iload (pc := 74) hx hb (zdt_at zt_X0_encrypt_0 49 rfl) (lv_at hl 8 rfl) ?_
  refine lv_iload (pc := 76) hx hb (zdt_at zt_X0_encrypt_0 50 rfl) (lv_at hl 7 rfl) ?_
  refine lv_icmp_ge (pc := 78) (tgt := 200) hx hb (zdt_at zt_X0_encrypt_0 51 rfl) (by decide) (fun cn_ => ?t_29) (fun cn_ => ?f_30)
  case t_29 =>
    replace hf := zt_s cn_ hf
    clear cn_
    exact hTo _ _ _ (kK_19 _ _ _ _ H locs ls hP hD hS (lv_sub hl [0, 1, 2, 3, 4, 5, 6, 7] rfl) hf)
  replace hf := ze_s cn_ hf
  clear cn_
  refine lv_iload_n (pc := 81) hx hb (zdt_at zt_X0_encrypt_0 52 rfl) rfl (lv_at hl 3 rfl) ?_
  refine lv_iload (pc := 82) hx hb (zdt_at zt_X0_encrypt_0 53 rfl) (lv_at hl 4 rfl) ?_
  refine lv_iload (pc := 84) hx hb (zdt_at zt_X0_encrypt_0 54 rfl) (lv_at hl 5 rfl) ?_
  refine lv_iload (pc := 86) hx hb (zdt_at zt_X0_encrypt_0 55 rfl) (lv_at hl 6 rfl) ?_
  replace hf := zb_s hf
  obtain ⟨r_31, hc_, hf⟩ := hf
  refine zcs (pc := 88) (rv := (some (.int r_31))) (va_runS (As := [.int i_10, .int i_11, .int i_12, .int i_13]) (rest := []) ⟨hx, hb, hml, hown, hts⟩ (c_X0_boxed l D cy tt H.size i_10 i_11 i_12 i_13 r_31 hc_) (va_cwS 4 hts gX0_encrypt_X0_boxed rfl rfl rfl (by decide +kernel) ⟨Nat.le_of_ble_eq_true rfl, Nat.le_of_ble_eq_true rfl⟩) ⟨zblind, zpre hE hS (hP.sub [] rfl) (hD.sub [] (by decide) rfl) (va_free hD hS hA [] rfl)⟩ rfl rfl hl.1 rfl (lv_room (Nat.le_of_ble_eq_true rfl)) (zdt_at zt_X0_encrypt_0 56 rfl) ⟨Nat.zero_le _, Nat.zero_le _⟩) ?_
  clear hc_
  refine W.eq (g2 := F0 m 91 ls [.int r_31]) rfl ?_
  replace hf := zb_s hf
  obtain ⟨r_32, hc_, hf⟩ := hf
  refine zcs (pc := 91) (rv := (some (.int r_32))) (va_runS (As := [.int r_31]) (rest := []) ⟨hx, hb, hml, hown, hts⟩ (c_X0_mixed l D cy tt H.size r_31 r_32 hc_) (va_cwS 1 hts gX0_encrypt_X0_mixed rfl rfl rfl (by decide +kernel) ⟨Nat.le_of_ble_eq_true rfl, Nat.le_of_ble_eq_true rfl⟩) ⟨zblind, zpre hE hS (hP.sub [] rfl) (hD.sub [] (by decide) rfl) (va_free hD hS hA [] rfl)⟩ rfl rfl hl.1 rfl (lv_room (Nat.le_of_ble_eq_true rfl)) (zdt_at zt_X0_encrypt_0 57 rfl) ⟨Nat.zero_le _, Nat.zero_le _⟩) ?_
  clear hc_
  refine W.eq (g2 := F0 m 94 ls [.int r_32]) rfl ?_
  refine lv_aload_n (pc := 94) hx hb (zdt_at zt_X0_encrypt_0 58 rfl) rfl (lv_at hl 0 rfl) ?_
  refine va_get (pc := 95) (D := D) (ci := 2) (v := .ref h0_keys) (C := RX0) (T := TX0) (N := 2) hx hb hts hcX0 hown hK hP 0 rfl rfl 0 (by decide) hw2 (fun _ h9 => h9) rfl (zdt_at zt_X0_encrypt_0 59 rfl) ?_
  refine lv_iload (pc := 98) hx hb (zdt_at zt_X0_encrypt_0 60 rfl) (lv_at hl 8 rfl) ?_
  replace hf := zk_s hf
  refine va_iald (pc := 100) hx hb hK hP 1 1 rfl rfl hf.1 (zdt_at zt_X0_encrypt_0 61 rfl) ?_
  replace hf := hf.2
  refine lv_ixor (pc := 101) hx hb (zdt_at zt_X0_encrypt_0 62 rfl) ?_
  refine lv_topi (fun x_33 e_ => ?_)
  replace hf := zn_s hf e_
  clear e_
  refine lv_istore (pc := 102) (lv' := [(9, .int x_33), (0, .ref h0), (1, .ref ha1), (2, .int p2), (3, .int i_10), (4, .int i_11), (5, .int i_12), (6, .int i_13), (7, .int x_9), (8, .int i_14)]) hx hb (zdt_at zt_X0_encrypt_0 63 rfl) hl (by decide) rfl ?_
  clear hl
  intro ls hl
  refine lv_iload (pc := 104) hx hb (zdt_at zt_X0_encrypt_1 0 rfl) (lv_at hl 5 rfl) ?_
  refine lv_iload (pc := 106) hx hb (zdt_at zt_X0_encrypt_1 1 rfl) (lv_at hl 6 rfl) ?_
  refine lv_iload (pc := 108) hx hb (zdt_at zt_X0_encrypt_1 2 rfl) (lv_at hl 7 rfl) ?_
  refine lv_iload_n (pc := 110) hx hb (zdt_at zt_X0_encrypt_1 3 rfl) rfl (lv_at hl 4 rfl) ?_
  replace hf := zb_s hf
  obtain ⟨r_34, hc_, hf⟩ := hf
  refine zcs (pc := 111) (rv := (some (.int r_34))) (va_runS (As := [.int i_11, .int i_12, .int i_13, .int i_10]) (rest := []) ⟨hx, hb, hml, hown, hts⟩ (c_X0_boxed l D cy tt H.size i_11 i_12 i_13 i_10 r_34 hc_) (va_cwS 4 hts gX0_encrypt_X0_boxed rfl rfl rfl (by decide +kernel) ⟨Nat.le_of_ble_eq_true rfl, Nat.le_of_ble_eq_true rfl⟩) ⟨zblind, zpre hE hS (hP.sub [] rfl) (hD.sub [] (by decide) rfl) (va_free hD hS hA [] rfl)⟩ rfl rfl hl.1 rfl (lv_room (Nat.le_of_ble_eq_true rfl)) (zdt_at zt_X0_encrypt_1 4 rfl) ⟨Nat.zero_le _, Nat.zero_le _⟩) ?_
  clear hc_
  refine W.eq (g2 := F0 m 114 ls [.int r_34]) rfl ?_
  replace hf := zb_s hf
  obtain ⟨r_35, hc_, hf⟩ := hf
  refine zcs (pc := 114) (rv := (some (.int r_35))) (va_runS (As := [.int r_34]) (rest := []) ⟨hx, hb, hml, hown, hts⟩ (c_X0_mixed l D cy tt H.size r_34 r_35 hc_) (va_cwS 1 hts gX0_encrypt_X0_mixed rfl rfl rfl (by decide +kernel) ⟨Nat.le_of_ble_eq_true rfl, Nat.le_of_ble_eq_true rfl⟩) ⟨zblind, zpre hE hS (hP.sub [] rfl) (hD.sub [] (by decide) rfl) (va_free hD hS hA [] rfl)⟩ rfl rfl hl.1 rfl (lv_room (Nat.le_of_ble_eq_true rfl)) (zdt_at zt_X0_encrypt_1 5 rfl) ⟨Nat.zero_le _, Nat.zero_le _⟩) ?_
  clear hc_
  refine W.eq (g2 := F0 m 117 ls [.int r_35]) rfl ?_
  refine lv_aload_n (pc := 117) hx hb (zdt_at zt_X0_encrypt_1 6 rfl) rfl (lv_at hl 1 rfl) ?_
  refine va_get (pc := 118) (D := D) (ci := 2) (v := .ref h0_keys) (C := RX0) (T := TX0) (N := 2) hx hb hts hcX0 hown hK hP 0 rfl rfl 0 (by decide) hw2 (fun _ h9 => h9) rfl (zdt_at zt_X0_encrypt_1 7 rfl) ?_
  refine lv_iload (pc := 121) hx hb (zdt_at zt_X0_encrypt_1 8 rfl) (lv_at hl 9 rfl) ?_
  refine lv_iconst (pc := 123) (v := (1 : Int32)) hx hb (zdt_at zt_X0_encrypt_1 9 rfl) (by decide) ?_
  refine lv_iadd (pc := 124) hx hb (zdt_at zt_X0_encrypt_1 10 rfl) ?_
  replace hf := zk_s hf
  refine va_iald (pc := 125) hx hb hK hP 1 1 rfl rfl hf.1 (zdt_at zt_X0_encrypt_1 11 rfl) ?_
  replace hf := hf.2
  refine lv_ixor (pc := 126) hx hb (zdt_at zt_X0_encrypt_1 12 rfl) ?_
  refine lv_topi (fun x_36 e_ => ?_)
  replace hf := zn_s hf e_
  clear e_
  refine lv_istore (pc := 127) (lv' := [(10, .int x_36), (9, .int x_33), (0, .ref h0), (1, .ref ha1), (2, .int p2), (3, .int i_10), (4, .int i_11), (5, .int i_12), (6, .int i_13), (7, .int x_9), (8, .int i_14)]) hx hb (zdt_at zt_X0_encrypt_1 13 rfl) hl (by decide) rfl ?_
  clear hl
  intro ls hl
  refine lv_iload (pc := 129) hx hb (zdt_at zt_X0_encrypt_1 14 rfl) (lv_at hl 7 rfl) ?_
  refine lv_iload (pc := 131) hx hb (zdt_at zt_X0_encrypt_1 15 rfl) (lv_at hl 8 rfl) ?_
  refine lv_iload_n (pc := 133) hx hb (zdt_at zt_X0_encrypt_1 16 rfl) rfl (lv_at hl 5 rfl) ?_
  refine lv_iload (pc := 134) hx hb (zdt_at zt_X0_encrypt_1 17 rfl) (lv_at hl 6 rfl) ?_
  replace hf := zb_s hf
  obtain ⟨r_37, hc_, hf⟩ := hf
  refine zcs (pc := 136) (rv := (some (.int r_37))) (va_runS (As := [.int i_12, .int i_13, .int i_10, .int i_11]) (rest := []) ⟨hx, hb, hml, hown, hts⟩ (c_X0_boxed l D cy tt H.size i_12 i_13 i_10 i_11 r_37 hc_) (va_cwS 4 hts gX0_encrypt_X0_boxed rfl rfl rfl (by decide +kernel) ⟨Nat.le_of_ble_eq_true rfl, Nat.le_of_ble_eq_true rfl⟩) ⟨zblind, zpre hE hS (hP.sub [] rfl) (hD.sub [] (by decide) rfl) (va_free hD hS hA [] rfl)⟩ rfl rfl hl.1 rfl (lv_room (Nat.le_of_ble_eq_true rfl)) (zdt_at zt_X0_encrypt_1 18 rfl) ⟨Nat.zero_le _, Nat.zero_le _⟩) ?_
  clear hc_
  refine W.eq (g2 := F0 m 139 ls [.int r_37]) rfl ?_
  replace hf := zb_s hf
  obtain ⟨r_38, hc_, hf⟩ := hf
  refine zcs (pc := 139) (rv := (some (.int r_38))) (va_runS (As := [.int r_37]) (rest := []) ⟨hx, hb, hml, hown, hts⟩ (c_X0_mixed l D cy tt H.size r_37 r_38 hc_) (va_cwS 1 hts gX0_encrypt_X0_mixed rfl rfl rfl (by decide +kernel) ⟨Nat.le_of_ble_eq_true rfl, Nat.le_of_ble_eq_true rfl⟩) ⟨zblind, zpre hE hS (hP.sub [] rfl) (hD.sub [] (by decide) rfl) (va_free hD hS hA [] rfl)⟩ rfl rfl hl.1 rfl (lv_room (Nat.le_of_ble_eq_true rfl)) (zdt_at zt_X0_encrypt_1 19 rfl) ⟨Nat.zero_le _, Nat.zero_le _⟩) ?_
  clear hc_
  refine W.eq (g2 := F0 m 142 ls [.int r_38]) rfl ?_
  refine lv_aload_n (pc := 142) hx hb (zdt_at zt_X0_encrypt_1 20 rfl) rfl (lv_at hl 2 rfl) ?_
  refine va_get (pc := 143) (D := D) (ci := 2) (v := .ref h0_keys) (C := RX0) (T := TX0) (N := 2) hx hb hts hcX0 hown hK hP 0 rfl rfl 0 (by decide) hw2 (fun _ h9 => h9) rfl (zdt_at zt_X0_encrypt_1 21 rfl) ?_
  refine lv_iload (pc := 146) hx hb (zdt_at zt_X0_encrypt_1 22 rfl) (lv_at hl 10 rfl) ?_
  refine lv_iconst (pc := 148) (v := (2 : Int32)) hx hb (zdt_at zt_X0_encrypt_1 23 rfl) (by decide) ?_
  refine lv_iadd (pc := 149) hx hb (zdt_at zt_X0_encrypt_1 24 rfl) ?_
  replace hf := zk_s hf
  refine va_iald (pc := 150) hx hb hK hP 1 1 rfl rfl hf.1 (zdt_at zt_X0_encrypt_1 25 rfl) ?_
  replace hf := hf.2
  refine lv_ixor (pc := 151) hx hb (zdt_at zt_X0_encrypt_1 26 rfl) ?_
  refine lv_topi (fun x_39 e_ => ?_)
  replace hf := zn_s hf e_
  clear e_
  refine lv_istore (pc := 152) (lv' := [(11, .int x_39), (10, .int x_36), (9, .int x_33), (0, .ref h0), (1, .ref ha1), (2, .int p2), (3, .int i_10), (4, .int i_11), (5, .int i_12), (6, .int i_13), (7, .int x_9), (8, .int i_14)]) hx hb (zdt_at zt_X0_encrypt_1 27 rfl) hl (by decide) rfl ?_
  clear hl
  intro ls hl
  refine lv_iload (pc := 154) hx hb (zdt_at zt_X0_encrypt_1 28 rfl) (lv_at hl 9 rfl) ?_
  refine lv_iload_n (pc := 156) hx hb (zdt_at zt_X0_encrypt_1 29 rfl) rfl (lv_at hl 6 rfl) ?_
  refine lv_iload (pc := 157) hx hb (zdt_at zt_X0_encrypt_1 30 rfl) (lv_at hl 7 rfl) ?_
  refine lv_iload (pc := 159) hx hb (zdt_at zt_X0_encrypt_1 31 rfl) (lv_at hl 8 rfl) ?_
  replace hf := zb_s hf
  obtain ⟨r_40, hc_, hf⟩ := hf
  refine zcs (pc := 161) (rv := (some (.int r_40))) (va_runS (As := [.int i_13, .int i_10, .int i_11, .int i_12]) (rest := []) ⟨hx, hb, hml, hown, hts⟩ (c_X0_boxed l D cy tt H.size i_13 i_10 i_11 i_12 r_40 hc_) (va_cwS 4 hts gX0_encrypt_X0_boxed rfl rfl rfl (by decide +kernel) ⟨Nat.le_of_ble_eq_true rfl, Nat.le_of_ble_eq_true rfl⟩) ⟨zblind, zpre hE hS (hP.sub [] rfl) (hD.sub [] (by decide) rfl) (va_free hD hS hA [] rfl)⟩ rfl rfl hl.1 rfl (lv_room (Nat.le_of_ble_eq_true rfl)) (zdt_at zt_X0_encrypt_1 32 rfl) ⟨Nat.zero_le _, Nat.zero_le _⟩) ?_
  clear hc_
  refine W.eq (g2 := F0 m 164 ls [.int r_40]) rfl ?_
  replace hf := zb_s hf
  obtain ⟨r_41, hc_, hf⟩ := hf
  refine zcs (pc := 164) (rv := (some (.int r_41))) (va_runS (As := [.int r_40]) (rest := []) ⟨hx, hb, hml, hown, hts⟩ (c_X0_mixed l D cy tt H.size r_40 r_41 hc_) (va_cwS 1 hts gX0_encrypt_X0_mixed rfl rfl rfl (by decide +kernel) ⟨Nat.le_of_ble_eq_true rfl, Nat.le_of_ble_eq_true rfl⟩) ⟨zblind, zpre hE hS (hP.sub [] rfl) (hD.sub [] (by decide) rfl) (va_free hD hS hA [] rfl)⟩ rfl rfl hl.1 rfl (lv_room (Nat.le_of_ble_eq_true rfl)) (zdt_at zt_X0_encrypt_1 33 rfl) ⟨Nat.zero_le _, Nat.zero_le _⟩) ?_
  clear hc_
  refine W.eq (g2 := F0 m 167 ls [.int r_41]) rfl ?_
  refine lv_aload_n (pc := 167) hx hb (zdt_at zt_X0_encrypt_1 34 rfl) rfl (lv_at hl 3 rfl) ?_
  refine va_get (pc := 168) (D := D) (ci := 2) (v := .ref h0_keys) (C := RX0) (T := TX0) (N := 2) hx hb hts hcX0 hown hK hP 0 rfl rfl 0 (by decide) hw2 (fun _ h9 => h9) rfl (zdt_at zt_X0_encrypt_1 35 rfl) ?_
  refine lv_iload (pc := 171) hx hb (zdt_at zt_X0_encrypt_1 36 rfl) (lv_at hl 11 rfl) ?_
  refine lv_iconst (pc := 173) (v := (3 : Int32)) hx hb (zdt_at zt_X0_encrypt_1 37 rfl) (by decide) ?_
  refine lv_iadd (pc := 174) hx hb (zdt_at zt_X0_encrypt_1 38 rfl) ?_
  replace hf := zk_s hf
  refine va_iald (pc := 175) hx hb hK hP 1 1 rfl rfl hf.1 (zdt_at zt_X0_encrypt_1 39 rfl) ?_
  replace hf := hf.2
  refine lv_ixor (pc := 176) hx hb (zdt_at zt_X0_encrypt_1 40 rfl) ?_
  refine lv_topi (fun x_42 e_ => ?_)
  replace hf := zn_s hf e_
  clear e_
  refine lv_istore (pc := 177) (lv' := [(12, .int x_42), (11, .int x_39), (10, .int x_36), (9, .int x_33), (0, .ref h0), (1, .ref ha1), (2, .int p2), (3, .int i_10), (4, .int i_11), (5, .int i_12), (6, .int i_13), (7, .int x_9), (8, .int i_14)]) hx hb (zdt_at zt_X0_encrypt_1 41 rfl) hl (by decide) rfl ?_
  clear hl
  intro ls hl
  refine lv_iload (pc := 179) hx hb (zdt_at zt_X0_encrypt_1 42 rfl) (lv_at hl 3 rfl) ?_
  refine lv_istore_n (pc := 181) (lv' := [(3, .int x_33), (12, .int x_42), (11, .int x_39), (10, .int x_36), (9, .int x_33), (0, .ref h0), (1, .ref ha1), (2, .int p2), (4, .int i_11), (5, .int i_12), (6, .int i_13), (7, .int x_9), (8, .int i_14)]) hx hb (zdt_at zt_X0_encrypt_1 43 rfl) rfl hl (by decide) rfl ?_
  clear hl
  intro ls hl
  refine lv_iload (pc := 182) hx hb (zdt_at zt_X0_encrypt_1 44 rfl) (lv_at hl 3 rfl) ?_
  refine lv_istore (pc := 184) (lv' := [(4, .int x_36), (3, .int x_33), (12, .int x_42), (11, .int x_39), (10, .int x_36), (9, .int x_33), (0, .ref h0), (1, .ref ha1), (2, .int p2), (5, .int i_12), (6, .int i_13), (7, .int x_9), (8, .int i_14)]) hx hb (zdt_at zt_X0_encrypt_1 45 rfl) hl (by decide) rfl ?_
  clear hl
  intro ls hl
  refine lv_iload (pc := 186) hx hb (zdt_at zt_X0_encrypt_1 46 rfl) (lv_at hl 3 rfl) ?_
  refine lv_istore (pc := 188) (lv' := [(5, .int x_39), (4, .int x_36), (3, .int x_33), (12, .int x_42), (11, .int x_39), (10, .int x_36), (9, .int x_33), (0, .ref h0), (1, .ref ha1), (2, .int p2), (6, .int i_13), (7, .int x_9), (8, .int i_14)]) hx hb (zdt_at zt_X0_encrypt_1 47 rfl) hl (by decide) rfl ?_
  clear hl
  intro ls hl
  refine lv_iload (pc := 190) hx hb (zdt_at zt_X0_encrypt_1 48 rfl) (lv_at hl 3 rfl) ?_
  refine lv_istore (pc := 192) (lv' := [(6, .int x_42), (5, .int x_39), (4, .int x_36), (3, .int x_33), (12, .int x_42), (11, .int x_39), (10, .int x_36), (9, .int x_33), (0, .ref h0), (1, .ref ha1), (2, .int p2), (7, .int x_9), (8, .int i_14)]) hx hb (zdt_at zt_X0_encrypt_1 49 rfl) hl (by decide) rfl ?_
  clear hl
  intro ls hl
  refine lv_iinc (pc := 194) (v := (i_14 + (4 : Int32))) (lv' := [(8, .int (i_14 + (4 : Int32))), (6, .int x_42), (5, .int x_39), (4, .int x_36), (3, .int x_33), (12, .int x_42), (11, .int x_39), (10, .int x_36), (9, .int x_33), (0, .ref h0), (1, .ref ha1), (2, .int p2), (7, .int x_9)]) hx hb (zdt_at zt_X0_encrypt_1 50 rfl) hl (k := 12) rfl rfl (by decide) rfl ?_
  clear hl
  intro ls hl
  refine lv_goto (pc := 197) (tgt := 74) hx hb (zdt_at zt_X0_encrypt_1 51 rfl) (by decide) ?_
  exact hTo _ _ _ (ihself_28 _ hf H locs ls hP hD hS (lv_sub hl [9, 10, 11, 4, 3, 2, 1, 12, 0] rfl))
set_option maxHeartbeats 4000000 in
set_option maxRecDepth 100000 in
theorem c_X0_unboxed (l : Launch) (D : va_G) (cy : Nat → ClassId) (tt : Nat → Nat) (sz : Nat) (p0 : Int32) (p1 : Int32) (p2 : Int32) (p3 : Int32) (r_ : Int32) (hf : f_X0_unboxed p0 p1 p2 p3 = some r_) : Met l yX0_unboxed wsX0_unboxed ({ frames := 0, cells := 0, slots := 0, locals := 0 }) (zPc D cy tt sz [.int p0, .int p1, .int p2, .int p3] ([])) (fun _ st o t => o = .returned (some (.int r_)) ∧ t.heap = st.heap) 0 0 (fun _ => False) := by
  refine Met.ofW (cc := cX0_unboxed) (maxL := 4) (ret := (some .int)) (by decide) rfl ?_
  intro p e s m args below meth c s₁ B hml hv
  obtain ⟨rfl, rfl, hP, hD0, hE⟩ := hv
  have hx := B.exec
  have hb := B.bytes
  have hr := B.returns
  have hts := atoms_spec (ws := wsX0_unboxed) B.pre
  have hown : s.vm.findClass RX0 = some m.cls := findClass_of_methodNamed B.named
  have hlocks := B.notSynchronized
  clear B
  have hD := hD0.self (sz := s.heap.size)
  generalize hAe : va_A ([]) s.heap.size = A at hD hE
  have hA : ∀ q : Nat, s.heap.size ≤ q → A q := fun q h => by rw [← hAe]; exact Or.inr h
  clear hAe hD0
  have hS : va_S A s.heap s.heap [] := va_S.rf
  have hK := hE.1
  have hw0 := hts (.fieldLink RX0 47 "SealedModule$Aes" "BOX_BACK" "[I") (by decide +kernel)
  have hl := lv_entry ([.int p0, .int p1, .int p2, .int p3]) (n := 4) (Nat.le_of_ble_eq_true rfl)
  rw [lg_entry_eq]
  generalize (lg_sl ([.int p0, .int p1, .int p2, .int p3]) ++ List.replicate (4 - (lg_sl ([.int p0, .int p1, .int p2, .int p3])).length) Slot.unset).toArray = ls at hl ⊢
  replace hl : lv_has ls 4 [(0, .int p0), (1, .int p1), (2, .int p2), (3, .int p3)] := hl
  unfold f_X0_unboxed at hf
  refine zgo (fun GW hTo hFr => ?_)
  refine hFr _ _ _ ?_
  refine va_gets (pc := 0) hx hb (gT_1 hE.2.2).1 hS hown hw0 (fun _ h9 => h9) (zdt_at zt_X0_unboxed_0 0 rfl) ?_
  refine lv_iload_n (pc := 3) hx hb (zdt_at zt_X0_unboxed_0 1 rfl) rfl (lv_at hl 0 rfl) ?_
  refine lv_bipush (pc := 4) (v := (24 : Int32)) hx hb (zdt_at zt_X0_unboxed_0 2 rfl) (by decide) ?_
  refine lv_iushr (pc := 6) hx hb (zdt_at zt_X0_unboxed_0 3 rfl) rfl ?_
  replace hf := zk_s hf
  refine va_ti (pc := 7) hx hb (gT_1 hE.2.2).2 hS hf.1 (v := .int (tb_BOX_BACK.getD ((p0.toUInt32 >>> ((24 : Int32).toUInt32 &&& Int32.toUInt32 31)).toInt32).toNatClampNeg 0)) rfl (zdt_at zt_X0_unboxed_0 4 rfl) ?_
  replace hf := hf.2
  refine lv_bipush (pc := 8) (v := (24 : Int32)) hx hb (zdt_at zt_X0_unboxed_0 5 rfl) (by decide) ?_
  refine lv_ishl (pc := 10) hx hb (zdt_at zt_X0_unboxed_0 6 rfl) ?_
  refine va_gets (pc := 11) hx hb (gT_1 hE.2.2).1 hS hown hw0 (fun _ h9 => h9) (zdt_at zt_X0_unboxed_0 7 rfl) ?_
  refine lv_iload_n (pc := 14) hx hb (zdt_at zt_X0_unboxed_0 8 rfl) rfl (lv_at hl 1 rfl) ?_
  refine lv_bipush (pc := 15) (v := (16 : Int32)) hx hb (zdt_at zt_X0_unboxed_0 9 rfl) (by decide) ?_
  refine lv_iushr (pc := 17) hx hb (zdt_at zt_X0_unboxed_0 10 rfl) rfl ?_
  refine lv_sipush (pc := 18) (v := (255 : Int32)) hx hb (zdt_at zt_X0_unboxed_0 11 rfl) (by decide) ?_
  refine lv_iand (pc := 21) hx hb (zdt_at zt_X0_unboxed_0 12 rfl) ?_
  replace hf := zk_s hf
  refine va_ti (pc := 22) hx hb (gT_1 hE.2.2).2 hS hf.1 (v := .int (tb_BOX_BACK.getD ((p1.toUInt32 >>> ((16 : Int32).toUInt32 &&& Int32.toUInt32 31)).toInt32 &&& (255 : Int32)).toNatClampNeg 0)) rfl (zdt_at zt_X0_unboxed_0 13 rfl) ?_
  replace hf := hf.2
  refine lv_bipush (pc := 23) (v := (16 : Int32)) hx hb (zdt_at zt_X0_unboxed_0 14 rfl) (by decide) ?_
  refine lv_ishl (pc := 25) hx hb (zdt_at zt_X0_unboxed_0 15 rfl) ?_
  refine lv_ior (pc := 26) hx hb (zdt_at zt_X0_unboxed_0 16 rfl) ?_
  refine va_gets (pc := 27) hx hb (gT_1 hE.2.2).1 hS hown hw0 (fun _ h9 => h9) (zdt_at zt_X0_unboxed_0 17 rfl) ?_
  refine lv_iload_n (pc := 30) hx hb (zdt_at zt_X0_unboxed_0 18 rfl) rfl (lv_at hl 2 rfl) ?_
  refine lv_bipush (pc := 31) (v := (8 : Int32)) hx hb (zdt_at zt_X0_unboxed_0 19 rfl) (by decide) ?_
  refine lv_iushr (pc := 33) hx hb (zdt_at zt_X0_unboxed_0 20 rfl) rfl ?_
  refine lv_sipush (pc := 34) (v := (255 : Int32)) hx hb (zdt_at zt_X0_unboxed_0 21 rfl) (by decide) ?_
  refine lv_iand (pc := 37) hx hb (zdt_at zt_X0_unboxed_0 22 rfl) ?_
  replace hf := zk_s hf
  refine va_ti (pc := 38) hx hb (gT_1 hE.2.2).2 hS hf.1 (v := .int (tb_BOX_BACK.getD ((p2.toUInt32 >>> ((8 : Int32).toUInt32 &&& Int32.toUInt32 31)).toInt32 &&& (255 : Int32)).toNatClampNeg 0)) rfl (zdt_at zt_X0_unboxed_0 23 rfl) ?_
  replace hf := hf.2
  refine lv_bipush (pc := 39) (v := (8 : Int32)) hx hb (zdt_at zt_X0_unboxed_0 24 rfl) (by decide) ?_
  refine lv_ishl (pc := 41) hx hb (zdt_at zt_X0_unboxed_0 25 rfl) ?_
  refine lv_ior (pc := 42) hx hb (zdt_at zt_X0_unboxed_0 26 rfl) ?_
  refine va_gets (pc := 43) hx hb (gT_1 hE.2.2).1 hS hown hw0 (fun _ h9 => h9) (zdt_at zt_X0_unboxed_0 27 rfl) ?_
  refine lv_iload_n (pc := 46) hx hb (zdt_at zt_X0_unboxed_0 28 rfl) rfl (lv_at hl 3 rfl) ?_
  refine lv_sipush (pc := 47) (v := (255 : Int32)) hx hb (zdt_at zt_X0_unboxed_0 29 rfl) (by decide) ?_
  refine lv_iand (pc := 50) hx hb (zdt_at zt_X0_unboxed_0 30 rfl) ?_
  replace hf := zk_s hf
  refine va_ti (pc := 51) hx hb (gT_1 hE.2.2).2 hS hf.1 (v := .int (tb_BOX_BACK.getD (p3 &&& (255 : Int32)).toNatClampNeg 0)) rfl (zdt_at zt_X0_unboxed_0 31 rfl) ?_
  replace hf := hf.2
  refine lv_ior (pc := 52) hx hb (zdt_at zt_X0_unboxed_0 32 rfl) ?_
  cases hf
  exact W.iret (pc := 53) hx hb hr (fun t ht hW => ⟨rfl, ht⟩) (fun _ h => nomatch h) (zdt_at zt_X0_unboxed_0 33 rfl)
set_option maxHeartbeats 4000000 in
set_option maxRecDepth 100000 in
theorem c_X0_unmixed (l : Launch) (D : va_G) (cy : Nat → ClassId) (tt : Nat → Nat) (sz : Nat) (p0 : Int32) (r_ : Int32) (hf : f_X0_unmixed p0 = some r_) : Met l yX0_unmixed wsX0_unmixed ({ frames := 1, cells := 0, slots := 0, locals := 22 }) (zPc D cy tt sz [.int p0] ([])) (fun _ st o t => o = .returned (some (.int r_)) ∧ t.heap = st.heap) 0 0 (fun _ => False) := by
  refine Met.ofW (cc := cX0_unmixed) (maxL := 3) (ret := (some .int)) (by decide) rfl ?_
  intro p e s m args below meth c s₁ B hml hv
  obtain ⟨rfl, rfl, hP, hD0, hE⟩ := hv
  have hx := B.exec
  have hb := B.bytes
  have hr := B.returns
  have hts := atoms_spec (ws := wsX0_unmixed) B.pre
  have hown : s.vm.findClass RX0 = some m.cls := findClass_of_methodNamed B.named
  have hlocks := B.notSynchronized
  clear B
  have hD := hD0.self (sz := s.heap.size)
  generalize hAe : va_A ([]) s.heap.size = A at hD hE
  have hA : ∀ q : Nat, s.heap.size ≤ q → A q := fun q h => by rw [← hAe]; exact Or.inr h
  clear hAe hD0
  have hS : va_S A s.heap s.heap [] := va_S.rf
  have hK := hE.1
  have hw0 := hts (.constant RX0 52 (1061109567)) (by decide +kernel)
  have hw1 := hts (.constant RX0 51 (16843009)) (by decide +kernel)
  have hl := lv_entry ([.int p0]) (n := 3) (Nat.le_of_ble_eq_true rfl)
  rw [lg_entry_eq]
  generalize (lg_sl ([.int p0]) ++ List.replicate (3 - (lg_sl ([.int p0])).length) Slot.unset).toArray = ls at hl ⊢
  replace hl : lv_has ls 3 [(0, .int p0)] := hl
  unfold f_X0_unmixed at hf
  refine zgo (fun GW hTo hFr => ?_)
  refine hFr _ _ _ ?_
  refine lv_iload_n (pc := 0) hx hb (zdt_at zt_X0_unmixed_0 0 rfl) rfl (lv_at hl 0 rfl) ?_
  refine lv_iload_n (pc := 1) hx hb (zdt_at zt_X0_unmixed_0 1 rfl) rfl (lv_at hl 0 rfl) ?_
  refine lv_bipush (pc := 2) (v := (16 : Int32)) hx hb (zdt_at zt_X0_unmixed_0 2 rfl) (by decide) ?_
  refine lv_ishl (pc := 4) hx hb (zdt_at zt_X0_unmixed_0 3 rfl) ?_
  refine lv_iload_n (pc := 5) hx hb (zdt_at zt_X0_unmixed_0 4 rfl) rfl (lv_at hl 0 rfl) ?_
  refine lv_bipush (pc := 6) (v := (16 : Int32)) hx hb (zdt_at zt_X0_unmixed_0 5 rfl) (by decide) ?_
  refine lv_iushr (pc := 8) hx hb (zdt_at zt_X0_unmixed_0 6 rfl) rfl ?_
  refine lv_ior (pc := 9) hx hb (zdt_at zt_X0_unmixed_0 7 rfl) ?_
  refine lv_ixor (pc := 10) hx hb (zdt_at zt_X0_unmixed_0 8 rfl) ?_
  refine lv_topi (fun x_1 e_ => ?_)
  replace hf := zn_s hf e_
  clear e_
  refine lv_istore_n (pc := 11) (lv' := [(1, .int x_1), (0, .int p0)]) hx hb (zdt_at zt_X0_unmixed_0 9 rfl) rfl hl (by decide) rfl ?_
  clear hl
  intro ls hl
  refine lv_iload_n (pc := 12) hx hb (zdt_at zt_X0_unmixed_0 10 rfl) rfl (lv_at hl 0 rfl) ?_
  refine lv_ldc (pc := 13) hx hb hown hw0 (zdt_at zt_X0_unmixed_0 11 rfl) ?_
  refine lv_iand (pc := 15) hx hb (zdt_at zt_X0_unmixed_0 12 rfl) ?_
  refine lv_iconst (pc := 16) (v := (2 : Int32)) hx hb (zdt_at zt_X0_unmixed_0 13 rfl) (by decide) ?_
  refine lv_ishl (pc := 17) hx hb (zdt_at zt_X0_unmixed_0 14 rfl) ?_
  refine lv_iload_n (pc := 18) hx hb (zdt_at zt_X0_unmixed_0 15 rfl) rfl (lv_at hl 0 rfl) ?_
  refine lv_bipush (pc := 19) (v := (6 : Int32)) hx hb (zdt_at zt_X0_unmixed_0 16 rfl) (by decide) ?_
  refine lv_iushr (pc := 21) hx hb (zdt_at zt_X0_unmixed_0 17 rfl) rfl ?_
  refine lv_ldc (pc := 22) hx hb hown hw1 (zdt_at zt_X0_unmixed_0 18 rfl) ?_
  refine lv_iand (pc := 24) hx hb (zdt_at zt_X0_unmixed_0 19 rfl) ?_
  refine lv_bipush (pc := 25) (v := (27 : Int32)) hx hb (zdt_at zt_X0_unmixed_0 20 rfl) (by decide) ?_
  refine lv_imul (pc := 27) hx hb (zdt_at zt_X0_unmixed_0 21 rfl) ?_
  refine lv_ixor (pc := 28) hx hb (zdt_at zt_X0_unmixed_0 22 rfl) ?_
  refine lv_iload_n (pc := 29) hx hb (zdt_at zt_X0_unmixed_0 23 rfl) rfl (lv_at hl 0 rfl) ?_
  refine lv_bipush (pc := 30) (v := (7 : Int32)) hx hb (zdt_at zt_X0_unmixed_0 24 rfl) (by decide) ?_
  refine lv_iushr (pc := 32) hx hb (zdt_at zt_X0_unmixed_0 25 rfl) rfl ?_
  refine lv_ldc (pc := 33) hx hb hown hw1 (zdt_at zt_X0_unmixed_0 26 rfl) ?_
  refine lv_iand (pc := 35) hx hb (zdt_at zt_X0_unmixed_0 27 rfl) ?_
  refine lv_bipush (pc := 36) (v := (54 : Int32)) hx hb (zdt_at zt_X0_unmixed_0 28 rfl) (by decide) ?_
  refine lv_imul (pc := 38) hx hb (zdt_at zt_X0_unmixed_0 29 rfl) ?_
  refine lv_ixor (pc := 39) hx hb (zdt_at zt_X0_unmixed_0 30 rfl) ?_
  refine lv_topi (fun x_2 e_ => ?_)
  replace hf := zn_s hf e_
  clear e_
  refine lv_istore_n (pc := 40) (lv' := [(2, .int x_2), (1, .int x_1), (0, .int p0)]) hx hb (zdt_at zt_X0_unmixed_0 31 rfl) rfl hl (by decide) rfl ?_
  clear hl
  intro ls hl
  refine lv_iload_n (pc := 41) hx hb (zdt_at zt_X0_unmixed_0 32 rfl) rfl (lv_at hl 2 rfl) ?_
  refine lv_iload_n (pc := 42) hx hb (zdt_at zt_X0_unmixed_0 33 rfl) rfl (lv_at hl 0 rfl) ?_
  refine lv_ixor (pc := 43) hx hb (zdt_at zt_X0_unmixed_0 34 rfl) ?_
  replace hf := zb_s hf
  obtain ⟨r_3, hc_, hf⟩ := hf
  refine zcs (pc := 44) (rv := (some (.int r_3))) (va_runS (As := [.int (p0 ^^^ x_2)]) (rest := []) ⟨hx, hb, hml, hown, hts⟩ (c_X0_mixed l D cy tt s.heap.size (p0 ^^^ x_2) r_3 hc_) (va_cwS 1 hts gX0_unmixed_X0_mixed rfl rfl rfl (by decide +kernel) ⟨Nat.le_of_ble_eq_true rfl, Nat.le_of_ble_eq_true rfl⟩) ⟨zblind, zpre hE hS (hP.sub [] rfl) (hD.sub [] (by decide) rfl) (va_free hD hS hA [] rfl)⟩ rfl rfl hl.1 rfl (lv_room (Nat.le_of_ble_eq_true rfl)) (zdt_at zt_X0_unmixed_0 35 rfl) ⟨Nat.zero_le _, Nat.zero_le _⟩) ?_
  clear hc_
  refine W.eq (g2 := F0 m 47 ls [.int r_3]) rfl ?_
  cases hf
  exact W.iret (pc := 47) hx hb hr (fun t ht hW => ⟨rfl, ht⟩) (fun _ h => nomatch h) (zdt_at zt_X0_unmixed_0 36 rfl)
set_option maxHeartbeats 4000000 in
set_option maxRecDepth 100000 in
theorem c_X0_decrypt (l : Launch) (D : va_G) (cy : Nat → ClassId) (tt : Nat → Nat) (sz : Nat) (h0 : Nat) (h0_keys : Nat) (ha1 : Nat) (n_a1 : Nat) (p2 : Int32) (c_rounds : Int32) (c_keys : Nat → Int32) (ca1 : Nat → Int32) (ca1' : Nat → Int32) (hf : f_X0_decrypt n_a1 p2 c_rounds c_keys ca1 = some ca1') : Met l yX0_decrypt wsX0_decrypt ({ frames := 2, cells := 0, slots := 0, locals := 44 }) (zPc D cy tt sz [.ref h0, .ref ha1, .int p2] ([(h0, .inr (2, [.ref h0_keys, .int c_rounds])), (h0_keys, .inl (cy 1, 60, .inl c_keys)), (ha1, .inl (cy 0, n_a1, .inl ca1))])) (zQ D none ([(h0, .inr (2, [.ref h0_keys, .int c_rounds])), (h0_keys, .inl (cy 1, 60, .inl c_keys)), (ha1, .inl (cy 0, n_a1, .inl ca1'))]) (va_A ([(h0, .inr (2, [.ref h0_keys, .int c_rounds])), (h0_keys, .inl (cy 1, 60, .inl c_keys)), (ha1, .inl (cy 0, n_a1, .inl ca1))]) sz)) 0 0 (va_A ([(h0, .inr (2, [.ref h0_keys, .int c_rounds])), (h0_keys, .inl (cy 1, 60, .inl c_keys)), (ha1, .inl (cy 0, n_a1, .inl ca1))]) sz) := by
  refine Met.ofW (cc := cX0_decrypt) (maxL := 13) (ret := none) (by decide) rfl ?_
  intro p e s m args below meth c s₁ B hml hv
  obtain ⟨rfl, rfl, hP, hD0, hE⟩ := hv
  have hx := B.exec
  have hb := B.bytes
  have hr := B.returns
  have hts := atoms_spec (ws := wsX0_decrypt) B.pre
  have hown : s.vm.findClass RX0 = some m.cls := findClass_of_methodNamed B.named
  have hlocks := B.notSynchronized
  clear B
  have hD := hD0.self (sz := s.heap.size)
  generalize hAe : va_A ([(h0, .inr (2, [.ref h0_keys, .int c_rounds])), (h0_keys, .inl (cy 1, 60, .inl c_keys)), (ha1, .inl (cy 0, n_a1, .inl ca1))]) s.heap.size = A at hD hE ⊢
  have hA : ∀ q : Nat, s.heap.size ≤ q → A q := fun q h => by rw [← hAe]; exact Or.inr h
  clear hAe hD0
  have hS : va_S A s.heap s.heap [] := va_S.rf
  have hK := hE.1
  have hw0 := hts (.fieldLink RX0 13 "SealedModule$Aes" "rounds" "I") (by decide +kernel)
  have hw1 := hts (.initialized RX9) (by decide +kernel)
  have hw2 := hts (.static yX9_intAt) (by decide +kernel)
  have hw3 := hts (.fieldLink RX0 7 "SealedModule$Aes" "keys" "[I") (by decide +kernel)
  have hw4 := hts (.static yX9_putInt) (by decide +kernel)
  have hcX0 : ∀ w ∈ u_ws RX0 TX0 2, w ∈ wsX0_decrypt := (fun _ h => List.mem_cons_of_mem _ (List.mem_append_right _ h))
  have hl := lv_entry ([.ref h0, .ref ha1, .int p2]) (n := 13) (Nat.le_of_ble_eq_true rfl)
  rw [lg_entry_eq]
  generalize (lg_sl ([.ref h0, .ref ha1, .int p2]) ++ List.replicate (13 - (lg_sl ([.ref h0, .ref ha1, .int p2])).length) Slot.unset).toArray = ls at hl ⊢
  replace hl : lv_has ls 13 [(0, .ref h0), (1, .ref ha1), (2, .int p2)] := hl
  unfold f_X0_decrypt at hf
  refine zgo (fun GW hTo hFr => ?_)
  refine hFr _ _ _ ?_
  obtain ⟨H, hHe⟩ : ∃ H, H = s.heap := ⟨_, rfl⟩
  obtain ⟨locs, hLe⟩ : ∃ L : List Loc, L = [] := ⟨_, rfl⟩
  rw [← hHe] at hP
  replace hS : va_S A s.heap H locs := by rw [hHe, hLe]; exact hS
  refine zat hHe.symm hLe.symm ?_
  clear hHe hLe
  refine lv_iconst (pc := 0) (v := (4 : Int32)) hx hb (zdt_at zt_X0_decrypt_0 0 rfl) (by decide) ?_
  refine lv_aload_n (pc := 1) hx hb (zdt_at zt_X0_decrypt_0 1 rfl) rfl (lv_at hl 0 rfl) ?_
  refine va_get (pc := 2) (D := D) (ci := 2) (v := .int c_rounds) (C := RX0) (T := TX0) (N := 2) hx hb hts hcX0 hown hK hP 0 rfl rfl 1 (by decide) hw0 (fun _ h9 => h9) rfl (zdt_at zt_X0_decrypt_0 2 rfl) ?_
  refine lv_imul (pc := 5) hx hb (zdt_at zt_X0_decrypt_0 3 rfl) ?_
  refine lv_topi (fun x_1 e_ => ?_)
  replace hf := zn_s hf e_
  clear e_
  refine lv_istore_n (pc := 6) (lv' := [(3, .int x_1), (0, .ref h0), (1, .ref ha1), (2, .int p2)]) hx hb (zdt_at zt_X0_decrypt_0 4 rfl) rfl hl (by decide) rfl ?_
  clear hl
  intro ls hl
  refine lv_aload_n (pc := 7) hx hb (zdt_at zt_X0_decrypt_0 5 rfl) rfl (lv_at hl 2 rfl) ?_
  refine lv_iload_n (pc := 8) hx hb (zdt_at zt_X0_decrypt_0 6 rfl) rfl (lv_at hl 3 rfl) ?_
  replace hf := zb_s hf
  obtain ⟨r_2, hc_, hf⟩ := hf
  refine zcs (pc := 9) (rv := (some (.int r_2))) (va_runSN (As := [.ref ha1, .int p2]) (rest := []) ⟨hx, hb, hml, hown, hts⟩ (c_X9_intAt l D cy tt H.size ha1 n_a1 p2 ca1 r_2 hc_) ⟨va_cnB 2 hts gX0_decrypt_X9_intAt_n17 rfl rfl rfl (gNs_0 hE.2.1) hw1 (by decide +kernel) ⟨Nat.le_of_ble_eq_true rfl, Nat.le_of_ble_eq_true rfl⟩, hw2, trivial⟩ ⟨zblind, zpre hE hS (hP.sub [2] rfl) (hD.sub [2] (by decide) rfl) (va_free hD hS hA [2] rfl)⟩ rfl rfl hl.1 rfl (lv_room (Nat.le_of_ble_eq_true rfl)) (zdt_at zt_X0_decrypt_0 7 rfl) ⟨Nat.zero_le _, Nat.zero_le _⟩) ?_
  clear hc_
  refine W.eq (g2 := F0 m 12 ls [.int r_2]) rfl ?_
  refine lv_aload_n (pc := 12) hx hb (zdt_at zt_X0_decrypt_0 8 rfl) rfl (lv_at hl 1 rfl) ?_
  refine va_get (pc := 13) (D := D) (ci := 2) (v := .ref h0_keys) (C := RX0) (T := TX0) (N := 2) hx hb hts hcX0 hown hK hP 0 rfl rfl 0 (by decide) hw3 (fun _ h9 => h9) rfl (zdt_at zt_X0_decrypt_0 9 rfl) ?_
  refine lv_iload_n (pc := 16) hx hb (zdt_at zt_X0_decrypt_0 10 rfl) rfl (lv_at hl 0 rfl) ?_
  replace hf := zk_s hf
  refine va_iald (pc := 17) hx hb hK hP 1 1 rfl rfl hf.1 (zdt_at zt_X0_decrypt_0 11 rfl) ?_
  replace hf := hf.2
  refine lv_ixor (pc := 18) hx hb (zdt_at zt_X0_decrypt_0 12 rfl) ?_
  refine lv_topi (fun x_3 e_ => ?_)
  replace hf := zn_s hf e_
  clear e_
  refine lv_istore (pc := 19) (lv' := [(4, .int x_3), (3, .int x_1), (0, .ref h0), (1, .ref ha1), (2, .int p2)]) hx hb (zdt_at zt_X0_decrypt_0 13 rfl) hl (by decide) rfl ?_
  clear hl
  intro ls hl
  refine lv_aload_n (pc := 21) hx hb (zdt_at zt_X0_decrypt_0 14 rfl) rfl (lv_at hl 3 rfl) ?_
  refine lv_iload_n (pc := 22) hx hb (zdt_at zt_X0_decrypt_0 15 rfl) rfl (lv_at hl 4 rfl) ?_
  refine lv_iconst (pc := 23) (v := (4 : Int32)) hx hb (zdt_at zt_X0_decrypt_0 16 rfl) (by decide) ?_
  refine lv_iadd (pc := 24) hx hb (zdt_at zt_X0_decrypt_0 17 rfl) ?_
  replace hf := zb_s hf
  obtain ⟨r_4, hc_, hf⟩ := hf
  refine zcs (pc := 25) (rv := (some (.int r_4))) (va_runSN (As := [.ref ha1, .int (p2 + (4 : Int32))]) (rest := []) ⟨hx, hb, hml, hown, hts⟩ (c_X9_intAt l D cy tt H.size ha1 n_a1 (p2 + (4 : Int32)) ca1 r_4 hc_) ⟨va_cnB 2 hts gX0_decrypt_X9_intAt_n17 rfl rfl rfl (gNs_0 hE.2.1) hw1 (by decide +kernel) ⟨Nat.le_of_ble_eq_true rfl, Nat.le_of_ble_eq_true rfl⟩, hw2, trivial⟩ ⟨zblind, zpre hE hS (hP.sub [2] rfl) (hD.sub [2] (by decide) rfl) (va_free hD hS hA [2] rfl)⟩ rfl rfl hl.1 rfl (lv_room (Nat.le_of_ble_eq_true rfl)) (zdt_at zt_X0_decrypt_0 18 rfl) ⟨Nat.zero_le _, Nat.zero_le _⟩) ?_
  clear hc_
  refine W.eq (g2 := F0 m 28 ls [.int r_4]) rfl ?_
  refine lv_aload_n (pc := 28) hx hb (zdt_at zt_X0_decrypt_0 19 rfl) rfl (lv_at hl 2 rfl) ?_
  refine va_get (pc := 29) (D := D) (ci := 2) (v := .ref h0_keys) (C := RX0) (T := TX0) (N := 2) hx hb hts hcX0 hown hK hP 0 rfl rfl 0 (by decide) hw3 (fun _ h9 => h9) rfl (zdt_at zt_X0_decrypt_0 20 rfl) ?_
  refine lv_iload_n (pc := 32) hx hb (zdt_at zt_X0_decrypt_0 21 rfl) rfl (lv_at hl 1 rfl) ?_
  refine lv_iconst (pc := 33) (v := (1 : Int32)) hx hb (zdt_at zt_X0_decrypt_0 22 rfl) (by decide) ?_
  refine lv_iadd (pc := 34) hx hb (zdt_at zt_X0_decrypt_0 23 rfl) ?_
  replace hf := zk_s hf
  refine va_iald (pc := 35) hx hb hK hP 1 1 rfl rfl hf.1 (zdt_at zt_X0_decrypt_0 24 rfl) ?_
  replace hf := hf.2
  refine lv_ixor (pc := 36) hx hb (zdt_at zt_X0_decrypt_0 25 rfl) ?_
  refine lv_topi (fun x_5 e_ => ?_)
  replace hf := zn_s hf e_
  clear e_
  refine lv_istore (pc := 37) (lv' := [(5, .int x_5), (4, .int x_3), (3, .int x_1), (0, .ref h0), (1, .ref ha1), (2, .int p2)]) hx hb (zdt_at zt_X0_decrypt_0 26 rfl) hl (by decide) rfl ?_
  clear hl
  intro ls hl
  refine lv_aload_n (pc := 39) hx hb (zdt_at zt_X0_decrypt_0 27 rfl) rfl (lv_at hl 4 rfl) ?_
  refine lv_iload_n (pc := 40) hx hb (zdt_at zt_X0_decrypt_0 28 rfl) rfl (lv_at hl 5 rfl) ?_
  refine lv_bipush (pc := 41) (v := (8 : Int32)) hx hb (zdt_at zt_X0_decrypt_0 29 rfl) (by decide) ?_
  refine lv_iadd (pc := 43) hx hb (zdt_at zt_X0_decrypt_0 30 rfl) ?_
  replace hf := zb_s hf
  obtain ⟨r_6, hc_, hf⟩ := hf
  refine zcs (pc := 44) (rv := (some (.int r_6))) (va_runSN (As := [.ref ha1, .int (p2 + (8 : Int32))]) (rest := []) ⟨hx, hb, hml, hown, hts⟩ (c_X9_intAt l D cy tt H.size ha1 n_a1 (p2 + (8 : Int32)) ca1 r_6 hc_) ⟨va_cnB 2 hts gX0_decrypt_X9_intAt_n17 rfl rfl rfl (gNs_0 hE.2.1) hw1 (by decide +kernel) ⟨Nat.le_of_ble_eq_true rfl, Nat.le_of_ble_eq_true rfl⟩, hw2, trivial⟩ ⟨zblind, zpre hE hS (hP.sub [2] rfl) (hD.sub [2] (by decide) rfl) (va_free hD hS hA [2] rfl)⟩ rfl rfl hl.1 rfl (lv_room (Nat.le_of_ble_eq_true rfl)) (zdt_at zt_X0_decrypt_0 31 rfl) ⟨Nat.zero_le _, Nat.zero_le _⟩) ?_
  clear hc_
  refine W.eq (g2 := F0 m 47 ls [.int r_6]) rfl ?_
  refine lv_aload_n (pc := 47) hx hb (zdt_at zt_X0_decrypt_0 32 rfl) rfl (lv_at hl 3 rfl) ?_
  refine va_get (pc := 48) (D := D) (ci := 2) (v := .ref h0_keys) (C := RX0) (T := TX0) (N := 2) hx hb hts hcX0 hown hK hP 0 rfl rfl 0 (by decide) hw3 (fun _ h9 => h9) rfl (zdt_at zt_X0_decrypt_0 33 rfl) ?_
  refine lv_iload_n (pc := 51) hx hb (zdt_at zt_X0_decrypt_0 34 rfl) rfl (lv_at hl 2 rfl) ?_
  refine lv_iconst (pc := 52) (v := (2 : Int32)) hx hb (zdt_at zt_X0_decrypt_0 35 rfl) (by decide) ?_
  refine lv_iadd (pc := 53) hx hb (zdt_at zt_X0_decrypt_0 36 rfl) ?_
  replace hf := zk_s hf
  refine va_iald (pc := 54) hx hb hK hP 1 1 rfl rfl hf.1 (zdt_at zt_X0_decrypt_0 37 rfl) ?_
  replace hf := hf.2
  refine lv_ixor (pc := 55) hx hb (zdt_at zt_X0_decrypt_0 38 rfl) ?_
  refine lv_topi (fun x_7 e_ => ?_)
  replace hf := zn_s hf e_
  clear e_
  refine lv_istore (pc := 56) (lv' := [(6, .int x_7), (5, .int x_5), (4, .int x_3), (3, .int x_1), (0, .ref h0), (1, .ref ha1), (2, .int p2)]) hx hb (zdt_at zt_X0_decrypt_0 39 rfl) hl (by decide) rfl ?_
  clear hl
  intro ls hl
  refine lv_aload_n (pc := 58) hx hb (zdt_at zt_X0_decrypt_0 40 rfl) rfl (lv_at hl 5 rfl) ?_
  refine lv_iload_n (pc := 59) hx hb (zdt_at zt_X0_decrypt_0 41 rfl) rfl (lv_at hl 6 rfl) ?_
  refine lv_bipush (pc := 60) (v := (12 : Int32)) hx hb (zdt_at zt_X0_decrypt_0 42 rfl) (by decide) ?_
  refine lv_iadd (pc := 62) hx hb (zdt_at zt_X0_decrypt_0 43 rfl) ?_
  replace hf := zb_s hf
  obtain ⟨r_8, hc_, hf⟩ := hf
  refine zcs (pc := 63) (rv := (some (.int r_8))) (va_runSN (As := [.ref ha1, .int (p2 + (12 : Int32))]) (rest := []) ⟨hx, hb, hml, hown, hts⟩ (c_X9_intAt l D cy tt H.size ha1 n_a1 (p2 + (12 : Int32)) ca1 r_8 hc_) ⟨va_cnB 2 hts gX0_decrypt_X9_intAt_n17 rfl rfl rfl (gNs_0 hE.2.1) hw1 (by decide +kernel) ⟨Nat.le_of_ble_eq_true rfl, Nat.le_of_ble_eq_true rfl⟩, hw2, trivial⟩ ⟨zblind, zpre hE hS (hP.sub [2] rfl) (hD.sub [2] (by decide) rfl) (va_free hD hS hA [2] rfl)⟩ rfl rfl hl.1 rfl (lv_room (Nat.le_of_ble_eq_true rfl)) (zdt_at zt_X0_decrypt_0 44 rfl) ⟨Nat.zero_le _, Nat.zero_le _⟩) ?_
  clear hc_
  refine W.eq (g2 := F0 m 66 ls [.int r_8]) rfl ?_
  refine lv_aload_n (pc := 66) hx hb (zdt_at zt_X0_decrypt_0 45 rfl) rfl (lv_at hl 4 rfl) ?_
  refine va_get (pc := 67) (D := D) (ci := 2) (v := .ref h0_keys) (C := RX0) (T := TX0) (N := 2) hx hb hts hcX0 hown hK hP 0 rfl rfl 0 (by decide) hw3 (fun _ h9 => h9) rfl (zdt_at zt_X0_decrypt_0 46 rfl) ?_
  refine lv_iload_n (pc := 70) hx hb (zdt_at zt_X0_decrypt_0 47 rfl) rfl (lv_at hl 3 rfl) ?_
  refine lv_iconst (pc := 71) (v := (3 : Int32)) hx hb (zdt_at zt_X0_decrypt_0 48 rfl) (by decide) ?_
  refine lv_iadd (pc := 72) hx hb (zdt_at zt_X0_decrypt_0 49 rfl) ?_
  replace hf := zk_s hf
  refine va_iald (pc := 73) hx hb hK hP 1 1 rfl rfl hf.1 (zdt_at zt_X0_decrypt_0 50 rfl) ?_
  replace hf := hf.2
  refine lv_ixor (pc := 74) hx hb (zdt_at zt_X0_decrypt_0 51 rfl) ?_
  refine lv_topi (fun x_9 e_ => ?_)
  replace hf := zn_s hf e_
  clear e_
  refine lv_istore (pc := 75) (lv' := [(7, .int x_9), (6, .int x_7), (5, .int x_5), (4, .int x_3), (3, .int x_1), (0, .ref h0), (1, .ref ha1), (2, .int p2)]) hx hb (zdt_at zt_X0_decrypt_0 52 rfl) hl (by decide) rfl ?_
  clear hl
  intro ls hl
  refine lv_iload_n (pc := 77) hx hb (zdt_at zt_X0_decrypt_0 53 rfl) rfl (lv_at hl 4 rfl) ?_
  refine lv_iconst (pc := 78) (v := (4 : Int32)) hx hb (zdt_at zt_X0_decrypt_0 54 rfl) (by decide) ?_
  refine lv_isub (pc := 79) hx hb (zdt_at zt_X0_decrypt_0 55 rfl) ?_
  refine lv_topi (fun x_10 e_ => ?_)
  replace hf := zn_s hf e_
  clear e_
  refine lv_istore (pc := 80) (lv' := [(8, .int x_10), (7, .int x_9), (6, .int x_7), (5, .int x_5), (4, .int x_3), (3, .int x_1), (0, .ref h0), (1, .ref ha1), (2, .int p2)]) hx hb (zdt_at zt_X0_decrypt_0 56 rfl) hl (by decide) rfl ?_
  clear hl
  intro ls hl
  replace hf := zj_s hf
  obtain ⟨K_20, eK_20, hf⟩ := hf
  have kK_20 : ∀ (v_16 : Int32) (v_17 : Int32) (v_18 : Int32) (v_19 : Int32) (H : Heap) (locs : List Loc) (ls : Array Slot), va_P D vwCl ([(h0, .inr (2, [.ref h0_keys, .int c_rounds])), (h0_keys, .inl (cy 1, 60, .inl c_keys)), (ha1, .inl (cy 0, n_a1, .inl ca1))]) H → va_D A ([(h0, .inr (2, [.ref h0_keys, .int c_rounds])), (h0_keys, .inl (cy 1, 60, .inl c_keys)), (ha1, .inl (cy 0, n_a1, .inl ca1))]) → va_S A s.heap H locs → lv_has ls 13 [(0, .ref h0), (1, .ref ha1), (2, .int p2), (4, .int v_16), (5, .int v_17), (6, .int v_18), (7, .int v_19)] → K_20 v_16 v_17 v_18 v_19 = some ca1' → GW H locs (F0 m 211 ls []) := by
    clear hf hl hP hD hS
    intro v_16 v_17 v_18 v_19 H locs ls hP hD hS hl hf
    rw [eK_20] at hf
    clear eK_20
    refine hFr _ _ _ ?_
    refine lv_aload_n (pc := 211) hx hb (zdt_at zt_X0_decrypt_1 59 rfl) rfl (lv_at hl 1 rfl) ?_
    refine lv_iload_n (pc := 212) hx hb (zdt_at zt_X0_decrypt_1 60 rfl) rfl (lv_at hl 2 rfl) ?_
    refine lv_iload (pc := 213) hx hb (zdt_at zt_X0_decrypt_1 61 rfl) (lv_at hl 3 rfl) ?_
    refine lv_iload (pc := 215) hx hb (zdt_at zt_X0_decrypt_1 62 rfl) (lv_at hl 6 rfl) ?_
    refine lv_iload (pc := 217) hx hb (zdt_at zt_X0_decrypt_1 63 rfl) (lv_at hl 5 rfl) ?_
    refine lv_iload (pc := 219) hx hb (zdt_at zt_X0_decrypt_2 0 rfl) (lv_at hl 4 rfl) ?_
    replace hf := zb_s hf
    obtain ⟨r_21, hc_, hf⟩ := hf
    refine zcs (pc := 221) (rv := (some (.int r_21))) (va_runS (As := [.int v_16, .int v_19, .int v_18, .int v_17]) (rest := [.int p2, .ref ha1]) ⟨hx, hb, hml, hown, hts⟩ (c_X0_unboxed l D cy tt H.size v_16 v_19 v_18 v_17 r_21 hc_) (va_cwS 4 hts gX0_decrypt_X0_unboxed rfl rfl rfl (by decide +kernel) ⟨Nat.le_of_ble_eq_true rfl, Nat.le_of_ble_eq_true rfl⟩) ⟨zblind, zpre hE hS (hP.sub [] rfl) (hD.sub [] (by decide) rfl) (va_free hD hS hA [] rfl)⟩ rfl rfl hl.1 rfl (lv_room (Nat.le_of_ble_eq_true rfl)) (zdt_at zt_X0_decrypt_2 1 rfl) ⟨Nat.zero_le _, Nat.zero_le _⟩) ?_
    clear hc_
    refine W.eq (g2 := F0 m 224 ls [.int r_21, .int p2, .ref ha1]) rfl ?_
    refine lv_aload_n (pc := 224) hx hb (zdt_at zt_X0_decrypt_2 2 rfl) rfl (lv_at hl 0 rfl) ?_
    refine va_get (pc := 225) (D := D) (ci := 2) (v := .ref h0_keys) (C := RX0) (T := TX0) (N := 2) hx hb hts hcX0 hown hK hP 0 rfl rfl 0 (by decide) hw3 (fun _ h9 => h9) rfl (zdt_at zt_X0_decrypt_2 3 rfl) ?_
    refine lv_iconst (pc := 228) (v := (0 : Int32)) hx hb (zdt_at zt_X0_decrypt_2 4 rfl) (by decide) ?_
    replace hf := zk_s hf
    refine va_iald (pc := 229) hx hb hK hP 1 1 rfl rfl hf.1 (zdt_at zt_X0_decrypt_2 5 rfl) ?_
    replace hf := hf.2
    refine lv_ixor (pc := 230) hx hb (zdt_at zt_X0_decrypt_2 6 rfl) ?_
    replace hf := zb_s hf
    obtain ⟨ca1_22, hc_, hf⟩ := hf
    refine zcn2 (pc := 231) (rv := none) (va_runSN (As := [.ref ha1, .int p2, .int (r_21 ^^^ (c_keys (0 : Int32).toNatClampNeg))]) (rest := []) ⟨hx, hb, hml, hown, hts⟩ (c_X9_putInt l D cy tt H.size ha1 n_a1 p2 (r_21 ^^^ (c_keys (0 : Int32).toNatClampNeg)) ca1 ca1_22 hc_) ⟨va_cnB 3 hts gX0_decrypt_X9_putInt_n34 rfl rfl rfl (gNs_1 hE.2.1) hw1 (by decide +kernel) ⟨Nat.le_of_ble_eq_true rfl, Nat.le_of_ble_eq_true rfl⟩, hw4, trivial⟩ ⟨zblind, zpre hE hS (hP.sub [2] rfl) (hD.sub [2] (by decide) rfl) (va_free hD hS hA [2] rfl)⟩ rfl rfl hl.1 rfl (lv_room (Nat.le_of_ble_eq_true rfl)) (zdt_at zt_X0_decrypt_2 7 rfl) ⟨Nat.zero_le _, Nat.zero_le _⟩) hS hP hD (va_free hD hS hA [2] rfl) [2] rfl (by decide) rfl ?_
    clear hP hD hS hc_
    intro H locs hP hD hS
    replace hP : va_P D vwCl ([(h0, .inr (2, [.ref h0_keys, .int c_rounds])), (h0_keys, .inl (cy 1, 60, .inl c_keys)), (ha1, .inl (cy 0, n_a1, .inl ca1_22))]) H := hP
    replace hD : va_D A ([(h0, .inr (2, [.ref h0_keys, .int c_rounds])), (h0_keys, .inl (cy 1, 60, .inl c_keys)), (ha1, .inl (cy 0, n_a1, .inl ca1_22))]) := hD
    refine W.eq (g2 := F0 m 234 ls []) rfl ?_
    refine lv_aload_n (pc := 234) hx hb (zdt_at zt_X0_decrypt_2 8 rfl) rfl (lv_at hl 1 rfl) ?_
    refine lv_iload_n (pc := 235) hx hb (zdt_at zt_X0_decrypt_2 9 rfl) rfl (lv_at hl 2 rfl) ?_
    refine lv_iconst (pc := 236) (v := (4 : Int32)) hx hb (zdt_at zt_X0_decrypt_2 10 rfl) (by decide) ?_
    refine lv_iadd (pc := 237) hx hb (zdt_at zt_X0_decrypt_2 11 rfl) ?_
    refine lv_iload (pc := 238) hx hb (zdt_at zt_X0_decrypt_2 12 rfl) (lv_at hl 4 rfl) ?_
    refine lv_iload (pc := 240) hx hb (zdt_at zt_X0_decrypt_2 13 rfl) (lv_at hl 3 rfl) ?_
    refine lv_iload (pc := 242) hx hb (zdt_at zt_X0_decrypt_2 14 rfl) (lv_at hl 6 rfl) ?_
    refine lv_iload (pc := 244) hx hb (zdt_at zt_X0_decrypt_2 15 rfl) (lv_at hl 5 rfl) ?_
    replace hf := zb_s hf
    obtain ⟨r_23, hc_, hf⟩ := hf
    refine zcs (pc := 246) (rv := (some (.int r_23))) (va_runS (As := [.int v_17, .int v_16, .int v_19, .int v_18]) (rest := [.int (p2 + (4 : Int32)), .ref ha1]) ⟨hx, hb, hml, hown, hts⟩ (c_X0_unboxed l D cy tt H.size v_17 v_16 v_19 v_18 r_23 hc_) (va_cwS 4 hts gX0_decrypt_X0_unboxed rfl rfl rfl (by decide +kernel) ⟨Nat.le_of_ble_eq_true rfl, Nat.le_of_ble_eq_true rfl⟩) ⟨zblind, zpre hE hS (hP.sub [] rfl) (hD.sub [] (by decide) rfl) (va_free hD hS hA [] rfl)⟩ rfl rfl hl.1 rfl (lv_room (Nat.le_of_ble_eq_true rfl)) (zdt_at zt_X0_decrypt_2 16 rfl) ⟨Nat.zero_le _, Nat.zero_le _⟩) ?_
    clear hc_
    refine W.eq (g2 := F0 m 249 ls [.int r_23, .int (p2 + (4 : Int32)), .ref ha1]) rfl ?_
    refine lv_aload_n (pc := 249) hx hb (zdt_at zt_X0_decrypt_2 17 rfl) rfl (lv_at hl 0 rfl) ?_
    refine va_get (pc := 250) (D := D) (ci := 2) (v := .ref h0_keys) (C := RX0) (T := TX0) (N := 2) hx hb hts hcX0 hown hK hP 0 rfl rfl 0 (by decide) hw3 (fun _ h9 => h9) rfl (zdt_at zt_X0_decrypt_2 18 rfl) ?_
    refine lv_iconst (pc := 253) (v := (1 : Int32)) hx hb (zdt_at zt_X0_decrypt_2 19 rfl) (by decide) ?_
    replace hf := zk_s hf
    refine va_iald (pc := 254) hx hb hK hP 1 1 rfl rfl hf.1 (zdt_at zt_X0_decrypt_2 20 rfl) ?_
    replace hf := hf.2
    refine lv_ixor (pc := 255) hx hb (zdt_at zt_X0_decrypt_2 21 rfl) ?_
    replace hf := zb_s hf
    obtain ⟨ca1_24, hc_, hf⟩ := hf
    refine zcn2 (pc := 256) (rv := none) (va_runSN (As := [.ref ha1, .int (p2 + (4 : Int32)), .int (r_23 ^^^ (c_keys (1 : Int32).toNatClampNeg))]) (rest := []) ⟨hx, hb, hml, hown, hts⟩ (c_X9_putInt l D cy tt H.size ha1 n_a1 (p2 + (4 : Int32)) (r_23 ^^^ (c_keys (1 : Int32).toNatClampNeg)) ca1_22 ca1_24 hc_) ⟨va_cnB 3 hts gX0_decrypt_X9_putInt_n34 rfl rfl rfl (gNs_1 hE.2.1) hw1 (by decide +kernel) ⟨Nat.le_of_ble_eq_true rfl, Nat.le_of_ble_eq_true rfl⟩, hw4, trivial⟩ ⟨zblind, zpre hE hS (hP.sub [2] rfl) (hD.sub [2] (by decide) rfl) (va_free hD hS hA [2] rfl)⟩ rfl rfl hl.1 rfl (lv_room (Nat.le_of_ble_eq_true rfl)) (zdt_at zt_X0_decrypt_2 22 rfl) ⟨Nat.zero_le _, Nat.zero_le _⟩) hS hP hD (va_free hD hS hA [2] rfl) [2] rfl (by decide) rfl ?_
    clear hP hD hS hc_
    intro H locs hP hD hS
    replace hP : va_P D vwCl ([(h0, .inr (2, [.ref h0_keys, .int c_rounds])), (h0_keys, .inl (cy 1, 60, .inl c_keys)), (ha1, .inl (cy 0, n_a1, .inl ca1_24))]) H := hP
    replace hD : va_D A ([(h0, .inr (2, [.ref h0_keys, .int c_rounds])), (h0_keys, .inl (cy 1, 60, .inl c_keys)), (ha1, .inl (cy 0, n_a1, .inl ca1_24))]) := hD
    refine W.eq (g2 := F0 m 259 ls []) rfl ?_
    refine lv_aload_n (pc := 259) hx hb (zdt_at zt_X0_decrypt_2 23 rfl) rfl (lv_at hl 1 rfl) ?_
    refine lv_iload_n (pc := 260) hx hb (zdt_at zt_X0_decrypt_2 24 rfl) rfl (lv_at hl 2 rfl) ?_
    refine lv_bipush (pc := 261) (v := (8 : Int32)) hx hb (zdt_at zt_X0_decrypt_2 25 rfl) (by decide) ?_
    refine lv_iadd (pc := 263) hx hb (zdt_at zt_X0_decrypt_2 26 rfl) ?_
    refine lv_iload (pc := 264) hx hb (zdt_at zt_X0_decrypt_2 27 rfl) (lv_at hl 5 rfl) ?_
    refine lv_iload (pc := 266) hx hb (zdt_at zt_X0_decrypt_2 28 rfl) (lv_at hl 4 rfl) ?_
    refine lv_iload (pc := 268) hx hb (zdt_at zt_X0_decrypt_2 29 rfl) (lv_at hl 3 rfl) ?_
    refine lv_iload (pc := 270) hx hb (zdt_at zt_X0_decrypt_2 30 rfl) (lv_at hl 6 rfl) ?_
    replace hf := zb_s hf
    obtain ⟨r_25, hc_, hf⟩ := hf
    refine zcs (pc := 272) (rv := (some (.int r_25))) (va_runS (As := [.int v_18, .int v_17, .int v_16, .int v_19]) (rest := [.int (p2 + (8 : Int32)), .ref ha1]) ⟨hx, hb, hml, hown, hts⟩ (c_X0_unboxed l D cy tt H.size v_18 v_17 v_16 v_19 r_25 hc_) (va_cwS 4 hts gX0_decrypt_X0_unboxed rfl rfl rfl (by decide +kernel) ⟨Nat.le_of_ble_eq_true rfl, Nat.le_of_ble_eq_true rfl⟩) ⟨zblind, zpre hE hS (hP.sub [] rfl) (hD.sub [] (by decide) rfl) (va_free hD hS hA [] rfl)⟩ rfl rfl hl.1 rfl (lv_room (Nat.le_of_ble_eq_true rfl)) (zdt_at zt_X0_decrypt_2 31 rfl) ⟨Nat.zero_le _, Nat.zero_le _⟩) ?_
    clear hc_
    refine W.eq (g2 := F0 m 275 ls [.int r_25, .int (p2 + (8 : Int32)), .ref ha1]) rfl ?_
    refine lv_aload_n (pc := 275) hx hb (zdt_at zt_X0_decrypt_2 32 rfl) rfl (lv_at hl 0 rfl) ?_
    refine va_get (pc := 276) (D := D) (ci := 2) (v := .ref h0_keys) (C := RX0) (T := TX0) (N := 2) hx hb hts hcX0 hown hK hP 0 rfl rfl 0 (by decide) hw3 (fun _ h9 => h9) rfl (zdt_at zt_X0_decrypt_2 33 rfl) ?_
    refine lv_iconst (pc := 279) (v := (2 : Int32)) hx hb (zdt_at zt_X0_decrypt_2 34 rfl) (by decide) ?_
    replace hf := zk_s hf
    refine va_iald (pc := 280) hx hb hK hP 1 1 rfl rfl hf.1 (zdt_at zt_X0_decrypt_2 35 rfl) ?_
    replace hf := hf.2
    refine lv_ixor (pc := 281) hx hb (zdt_at zt_X0_decrypt_2 36 rfl) ?_
    replace hf := zb_s hf
    obtain ⟨ca1_26, hc_, hf⟩ := hf
    refine zcn2 (pc := 282) (rv := none) (va_runSN (As := [.ref ha1, .int (p2 + (8 : Int32)), .int (r_25 ^^^ (c_keys (2 : Int32).toNatClampNeg))]) (rest := []) ⟨hx, hb, hml, hown, hts⟩ (c_X9_putInt l D cy tt H.size ha1 n_a1 (p2 + (8 : Int32)) (r_25 ^^^ (c_keys (2 : Int32).toNatClampNeg)) ca1_24 ca1_26 hc_) ⟨va_cnB 3 hts gX0_decrypt_X9_putInt_n34 rfl rfl rfl (gNs_1 hE.2.1) hw1 (by decide +kernel) ⟨Nat.le_of_ble_eq_true rfl, Nat.le_of_ble_eq_true rfl⟩, hw4, trivial⟩ ⟨zblind, zpre hE hS (hP.sub [2] rfl) (hD.sub [2] (by decide) rfl) (va_free hD hS hA [2] rfl)⟩ rfl rfl hl.1 rfl (lv_room (Nat.le_of_ble_eq_true rfl)) (zdt_at zt_X0_decrypt_2 37 rfl) ⟨Nat.zero_le _, Nat.zero_le _⟩) hS hP hD (va_free hD hS hA [2] rfl) [2] rfl (by decide) rfl ?_
    clear hP hD hS hc_
    intro H locs hP hD hS
    replace hP : va_P D vwCl ([(h0, .inr (2, [.ref h0_keys, .int c_rounds])), (h0_keys, .inl (cy 1, 60, .inl c_keys)), (ha1, .inl (cy 0, n_a1, .inl ca1_26))]) H := hP
    replace hD : va_D A ([(h0, .inr (2, [.ref h0_keys, .int c_rounds])), (h0_keys, .inl (cy 1, 60, .inl c_keys)), (ha1, .inl (cy 0, n_a1, .inl ca1_26))]) := hD
    refine W.eq (g2 := F0 m 285 ls []) rfl ?_
    refine lv_aload_n (pc := 285) hx hb (zdt_at zt_X0_decrypt_2 38 rfl) rfl (lv_at hl 1 rfl) ?_
    refine lv_iload_n (pc := 286) hx hb (zdt_at zt_X0_decrypt_2 39 rfl) rfl (lv_at hl 2 rfl) ?_
    refine lv_bipush (pc := 287) (v := (12 : Int32)) hx hb (zdt_at zt_X0_decrypt_2 40 rfl) (by decide) ?_
    refine lv_iadd (pc := 289) hx hb (zdt_at zt_X0_decrypt_2 41 rfl) ?_
    refine lv_iload (pc := 290) hx hb (zdt_at zt_X0_decrypt_2 42 rfl) (lv_at hl 6 rfl) ?_
    refine lv_iload (pc := 292) hx hb (zdt_at zt_X0_decrypt_2 43 rfl) (lv_at hl 5 rfl) ?_
    refine lv_iload (pc := 294) hx hb (zdt_at zt_X0_decrypt_2 44 rfl) (lv_at hl 4 rfl) ?_
    refine lv_iload (pc := 296) hx hb (zdt_at zt_X0_decrypt_2 45 rfl) (lv_at hl 3 rfl) ?_
    replace hf := zb_s hf
    obtain ⟨r_27, hc_, hf⟩ := hf
    refine zcs (pc := 298) (rv := (some (.int r_27))) (va_runS (As := [.int v_19, .int v_18, .int v_17, .int v_16]) (rest := [.int (p2 + (12 : Int32)), .ref ha1]) ⟨hx, hb, hml, hown, hts⟩ (c_X0_unboxed l D cy tt H.size v_19 v_18 v_17 v_16 r_27 hc_) (va_cwS 4 hts gX0_decrypt_X0_unboxed rfl rfl rfl (by decide +kernel) ⟨Nat.le_of_ble_eq_true rfl, Nat.le_of_ble_eq_true rfl⟩) ⟨zblind, zpre hE hS (hP.sub [] rfl) (hD.sub [] (by decide) rfl) (va_free hD hS hA [] rfl)⟩ rfl rfl hl.1 rfl (lv_room (Nat.le_of_ble_eq_true rfl)) (zdt_at zt_X0_decrypt_2 46 rfl) ⟨Nat.zero_le _, Nat.zero_le _⟩) ?_
    clear hc_
    refine W.eq (g2 := F0 m 301 ls [.int r_27, .int (p2 + (12 : Int32)), .ref ha1]) rfl ?_
    refine lv_aload_n (pc := 301) hx hb (zdt_at zt_X0_decrypt_2 47 rfl) rfl (lv_at hl 0 rfl) ?_
    refine va_get (pc := 302) (D := D) (ci := 2) (v := .ref h0_keys) (C := RX0) (T := TX0) (N := 2) hx hb hts hcX0 hown hK hP 0 rfl rfl 0 (by decide) hw3 (fun _ h9 => h9) rfl (zdt_at zt_X0_decrypt_2 48 rfl) ?_
    refine lv_iconst (pc := 305) (v := (3 : Int32)) hx hb (zdt_at zt_X0_decrypt_2 49 rfl) (by decide) ?_
    replace hf := zk_s hf
    refine va_iald (pc := 306) hx hb hK hP 1 1 rfl rfl hf.1 (zdt_at zt_X0_decrypt_2 50 rfl) ?_
    replace hf := hf.2
    refine lv_ixor (pc := 307) hx hb (zdt_at zt_X0_decrypt_2 51 rfl) ?_
    replace hf := zb_s hf
    obtain ⟨ca1_28, hc_, hf⟩ := hf
    refine zcn2 (pc := 308) (rv := none) (va_runSN (As := [.ref ha1, .int (p2 + (12 : Int32)), .int (r_27 ^^^ (c_keys (3 : Int32).toNatClampNeg))]) (rest := []) ⟨hx, hb, hml, hown, hts⟩ (c_X9_putInt l D cy tt H.size ha1 n_a1 (p2 + (12 : Int32)) (r_27 ^^^ (c_keys (3 : Int32).toNatClampNeg)) ca1_26 ca1_28 hc_) ⟨va_cnB 3 hts gX0_decrypt_X9_putInt_n34 rfl rfl rfl (gNs_1 hE.2.1) hw1 (by decide +kernel) ⟨Nat.le_of_ble_eq_true rfl, Nat.le_of_ble_eq_true rfl⟩, hw4, trivial⟩ ⟨zblind, zpre hE hS (hP.sub [2] rfl) (hD.sub [2] (by decide) rfl) (va_free hD hS hA [2] rfl)⟩ rfl rfl hl.1 rfl (lv_room (Nat.le_of_ble_eq_true rfl)) (zdt_at zt_X0_decrypt_2 52 rfl) ⟨Nat.zero_le _, Nat.zero_le _⟩) hS hP hD (va_free hD hS hA [2] rfl) [2] rfl (by decide) rfl ?_
    clear hP hD hS hc_
    intro H locs hP hD hS
    replace hP : va_P D vwCl ([(h0, .inr (2, [.ref h0_keys, .int c_rounds])), (h0_keys, .inl (cy 1, 60, .inl c_keys)), (ha1, .inl (cy 0, n_a1, .inl ca1_28))]) H := hP
    replace hD : va_D A ([(h0, .inr (2, [.ref h0_keys, .int c_rounds])), (h0_keys, .inl (cy 1, 60, .inl c_keys)), (ha1, .inl (cy 0, n_a1, .inl ca1_28))]) := hD
    refine W.eq (g2 := F0 m 311 ls []) rfl ?_
    cases hf
    exact W.vret (pc := 311) hx hb hr (fun t ht hW => ⟨rfl, ⟨by rw [ht]; exact hP, hD⟩, hS.F ht⟩) hS.2.2 (zdt_at zt_X0_decrypt_2 53 rfl)
  clear eK_20
  refine hTo _ _ _ (zl_go (fun z => match z with | (i_11, i_12, i_13, i_14, i_15) => ∀ (H : Heap) (locs : List Loc) (ls : Array Slot), va_P D vwCl ([(h0, .inr (2, [.ref h0_keys, .int c_rounds])), (h0_keys, .inl (cy 1, 60, .inl c_keys)), (ha1, .inl (cy 0, n_a1, .inl ca1))]) H → va_D A ([(h0, .inr (2, [.ref h0_keys, .int c_rounds])), (h0_keys, .inl (cy 1, 60, .inl c_keys)), (ha1, .inl (cy 0, n_a1, .inl ca1))]) → va_S A s.heap H locs → lv_has ls 13 [(0, .ref h0), (1, .ref ha1), (2, .int p2), (4, .int i_11), (5, .int i_12), (6, .int i_13), (7, .int i_14), (8, .int i_15)] → GW H locs (F0 m 82 ls [])) hf ?_ H locs ls hP hD hS (lv_sub hl [6, 7, 8, 4, 3, 2, 1, 0] rfl))
  clear hf hl hP hD hS
  intro self_29 ihself_29 z hf
  obtain ⟨i_11, i_12, i_13, i_14, i_15⟩ := z
  intro H locs ls hP hD hS hl
  refine hFr _ _ _ ?_
  unfold b_X0_decrypt_82 at hf
  refine lv_iload (pc := 82) hx hb (zdt_at zt_X0_decrypt_0 57 rfl) (lv_at hl 7 rfl) ?_
  refine lv_if_le (pc := 84) (tgt := 211) hx hb (zdt_at zt_X0_decrypt_0 58 rfl) (by decide) (fun cn_ => ?t_30) (fun cn_ => ?f_31)
  case t_30 =>
    replace hf := zt_s cn_ hf
    clear cn_
    exact hTo _ _ _ (kK_20 _ _ _ _ H locs ls hP hD hS (lv_sub hl [0, 1, 2, 3, 4, 5, 6] rfl) hf)
  replace hf := ze_s cn_ hf
  clear cn_
  refine lv_iload (pc := 87) hx hb (zdt_at zt_X0_decrypt_0 59 rfl) (lv_at hl 3 rfl) ?_
  refine lv_iload (pc := 89) hx hb (zdt_at zt_X0_decrypt_0 60 rfl) (lv_at hl 6 rfl) ?_
  refine lv_iload (pc := 91) hx hb (zdt_at zt_X0_decrypt_0 61 rfl) (lv_at hl 5 rfl) ?_
  refine lv_iload (pc := 93) hx hb (zdt_at zt_X0_decrypt_0 62 rfl) (lv_at hl 4 rfl) ?_
  replace hf := zb_s hf
  obtain ⟨r_32, hc_, hf⟩ := hf
  refine zcs (pc := 95) (rv := (some (.int r_32))) (va_runS (As := [.int i_11, .int i_14, .int i_13, .int i_12]) (rest := []) ⟨hx, hb, hml, hown, hts⟩ (c_X0_unboxed l D cy tt H.size i_11 i_14 i_13 i_12 r_32 hc_) (va_cwS 4 hts gX0_decrypt_X0_unboxed rfl rfl rfl (by decide +kernel) ⟨Nat.le_of_ble_eq_true rfl, Nat.le_of_ble_eq_true rfl⟩) ⟨zblind, zpre hE hS (hP.sub [] rfl) (hD.sub [] (by decide) rfl) (va_free hD hS hA [] rfl)⟩ rfl rfl hl.1 rfl (lv_room (Nat.le_of_ble_eq_true rfl)) (zdt_at zt_X0_decrypt_0 63 rfl) ⟨Nat.zero_le _, Nat.zero_le _⟩) ?_
  clear hc_
  refine W.eq (g2 := F0 m 98 ls [.int r_32]) rfl ?_
  refine lv_aload_n (pc := 98) hx hb (zdt_at zt_X0_decrypt_1 0 rfl) rfl (lv_at hl 0 rfl) ?_
  refine va_get (pc := 99) (D := D) (ci := 2) (v := .ref h0_keys) (C := RX0) (T := TX0) (N := 2) hx hb hts hcX0 hown hK hP 0 rfl rfl 0 (by decide) hw3 (fun _ h9 => h9) rfl (zdt_at zt_X0_decrypt_1 1 rfl) ?_
  refine lv_iload (pc := 102) hx hb (zdt_at zt_X0_decrypt_1 2 rfl) (lv_at hl 7 rfl) ?_
  replace hf := zk_s hf
  refine va_iald (pc := 104) hx hb hK hP 1 1 rfl rfl hf.1 (zdt_at zt_X0_decrypt_1 3 rfl) ?_
  replace hf := hf.2
  refine lv_ixor (pc := 105) hx hb (zdt_at zt_X0_decrypt_1 4 rfl) ?_
  replace hf := zb_s hf
  obtain ⟨r_33, hc_, hf⟩ := hf
  refine zcs (pc := 106) (rv := (some (.int r_33))) (va_runS (As := [.int (r_32 ^^^ (c_keys i_15.toNatClampNeg))]) (rest := []) ⟨hx, hb, hml, hown, hts⟩ (c_X0_unmixed l D cy tt H.size (r_32 ^^^ (c_keys i_15.toNatClampNeg)) r_33 hc_) (va_cwS 1 hts gX0_decrypt_X0_unmixed rfl rfl rfl (by decide +kernel) ⟨Nat.le_of_ble_eq_true rfl, Nat.le_of_ble_eq_true rfl⟩) ⟨zblind, zpre hE hS (hP.sub [] rfl) (hD.sub [] (by decide) rfl) (va_free hD hS hA [] rfl)⟩ rfl rfl hl.1 rfl (lv_room (Nat.le_of_ble_eq_true rfl)) (zdt_at zt_X0_decrypt_1 5 rfl) ⟨Nat.zero_le _, Nat.zero_le _⟩) ?_
  clear hc_
  refine W.eq (g2 := F0 m 109 ls [.int r_33]) rfl ?_
  refine lv_istore (pc := 109) (lv' := [(9, .int r_33), (0, .ref h0), (1, .ref ha1), (2, .int p2), (4, .int i_11), (5, .int i_12), (6, .int i_13), (7, .int i_14), (8, .int i_15)]) hx hb (zdt_at zt_X0_decrypt_1 6 rfl) hl (by decide) rfl ?_
  clear hl
  intro ls hl
  refine lv_iload (pc := 111) hx hb (zdt_at zt_X0_decrypt_1 7 rfl) (lv_at hl 5 rfl) ?_
  refine lv_iload (pc := 113) hx hb (zdt_at zt_X0_decrypt_1 8 rfl) (lv_at hl 4 rfl) ?_
  refine lv_iload (pc := 115) hx hb (zdt_at zt_X0_decrypt_1 9 rfl) (lv_at hl 7 rfl) ?_
  refine lv_iload (pc := 117) hx hb (zdt_at zt_X0_decrypt_1 10 rfl) (lv_at hl 6 rfl) ?_
  replace hf := zb_s hf
  obtain ⟨r_34, hc_, hf⟩ := hf
  refine zcs (pc := 119) (rv := (some (.int r_34))) (va_runS (As := [.int i_12, .int i_11, .int i_14, .int i_13]) (rest := []) ⟨hx, hb, hml, hown, hts⟩ (c_X0_unboxed l D cy tt H.size i_12 i_11 i_14 i_13 r_34 hc_) (va_cwS 4 hts gX0_decrypt_X0_unboxed rfl rfl rfl (by decide +kernel) ⟨Nat.le_of_ble_eq_true rfl, Nat.le_of_ble_eq_true rfl⟩) ⟨zblind, zpre hE hS (hP.sub [] rfl) (hD.sub [] (by decide) rfl) (va_free hD hS hA [] rfl)⟩ rfl rfl hl.1 rfl (lv_room (Nat.le_of_ble_eq_true rfl)) (zdt_at zt_X0_decrypt_1 11 rfl) ⟨Nat.zero_le _, Nat.zero_le _⟩) ?_
  clear hc_
  refine W.eq (g2 := F0 m 122 ls [.int r_34]) rfl ?_
  refine lv_aload_n (pc := 122) hx hb (zdt_at zt_X0_decrypt_1 12 rfl) rfl (lv_at hl 1 rfl) ?_
  refine va_get (pc := 123) (D := D) (ci := 2) (v := .ref h0_keys) (C := RX0) (T := TX0) (N := 2) hx hb hts hcX0 hown hK hP 0 rfl rfl 0 (by decide) hw3 (fun _ h9 => h9) rfl (zdt_at zt_X0_decrypt_1 13 rfl) ?_
  refine lv_iload (pc := 126) hx hb (zdt_at zt_X0_decrypt_1 14 rfl) (lv_at hl 8 rfl) ?_
  refine lv_iconst (pc := 128) (v := (1 : Int32)) hx hb (zdt_at zt_X0_decrypt_1 15 rfl) (by decide) ?_
  refine lv_iadd (pc := 129) hx hb (zdt_at zt_X0_decrypt_1 16 rfl) ?_
  replace hf := zk_s hf
  refine va_iald (pc := 130) hx hb hK hP 1 1 rfl rfl hf.1 (zdt_at zt_X0_decrypt_1 17 rfl) ?_
  replace hf := hf.2
  refine lv_ixor (pc := 131) hx hb (zdt_at zt_X0_decrypt_1 18 rfl) ?_
  replace hf := zb_s hf
  obtain ⟨r_35, hc_, hf⟩ := hf
  refine zcs (pc := 132) (rv := (some (.int r_35))) (va_runS (As := [.int (r_34 ^^^ (c_keys (i_15 + (1 : Int32)).toNatClampNeg))]) (rest := []) ⟨hx, hb, hml, hown, hts⟩ (c_X0_unmixed l D cy tt H.size (r_34 ^^^ (c_keys (i_15 + (1 : Int32)).toNatClampNeg)) r_35 hc_) (va_cwS 1 hts gX0_decrypt_X0_unmixed rfl rfl rfl (by decide +kernel) ⟨Nat.le_of_ble_eq_true rfl, Nat.le_of_ble_eq_true rfl⟩) ⟨zblind, zpre hE hS (hP.sub [] rfl) (hD.sub [] (by decide) rfl) (va_free hD hS hA [] rfl)⟩ rfl rfl hl.1 rfl (lv_room (Nat.le_of_ble_eq_true rfl)) (zdt_at zt_X0_decrypt_1 19 rfl) ⟨Nat.zero_le _, Nat.zero_le _⟩) ?_
  clear hc_
  refine W.eq (g2 := F0 m 135 ls [.int r_35]) rfl ?_
  refine lv_istore (pc := 135) (lv' := [(10, .int r_35), (9, .int r_33), (0, .ref h0), (1, .ref ha1), (2, .int p2), (4, .int i_11), (5, .int i_12), (6, .int i_13), (7, .int i_14), (8, .int i_15)]) hx hb (zdt_at zt_X0_decrypt_1 20 rfl) hl (by decide) rfl ?_
  clear hl
  intro ls hl
  refine lv_iload (pc := 137) hx hb (zdt_at zt_X0_decrypt_1 21 rfl) (lv_at hl 7 rfl) ?_
  refine lv_iload (pc := 139) hx hb (zdt_at zt_X0_decrypt_1 22 rfl) (lv_at hl 6 rfl) ?_
  refine lv_iload (pc := 141) hx hb (zdt_at zt_X0_decrypt_1 23 rfl) (lv_at hl 5 rfl) ?_
  refine lv_iload (pc := 143) hx hb (zdt_at zt_X0_decrypt_1 24 rfl) (lv_at hl 8 rfl) ?_
  replace hf := zb_s hf
  obtain ⟨r_36, hc_, hf⟩ := hf
  refine zcs (pc := 145) (rv := (some (.int r_36))) (va_runS (As := [.int i_13, .int i_12, .int i_11, .int i_14]) (rest := []) ⟨hx, hb, hml, hown, hts⟩ (c_X0_unboxed l D cy tt H.size i_13 i_12 i_11 i_14 r_36 hc_) (va_cwS 4 hts gX0_decrypt_X0_unboxed rfl rfl rfl (by decide +kernel) ⟨Nat.le_of_ble_eq_true rfl, Nat.le_of_ble_eq_true rfl⟩) ⟨zblind, zpre hE hS (hP.sub [] rfl) (hD.sub [] (by decide) rfl) (va_free hD hS hA [] rfl)⟩ rfl rfl hl.1 rfl (lv_room (Nat.le_of_ble_eq_true rfl)) (zdt_at zt_X0_decrypt_1 25 rfl) ⟨Nat.zero_le _, Nat.zero_le _⟩) ?_
  clear hc_
  refine W.eq (g2 := F0 m 148 ls [.int r_36]) rfl ?_
  refine lv_aload_n (pc := 148) hx hb (zdt_at zt_X0_decrypt_1 26 rfl) rfl (lv_at hl 2 rfl) ?_
  refine va_get (pc := 149) (D := D) (ci := 2) (v := .ref h0_keys) (C := RX0) (T := TX0) (N := 2) hx hb hts hcX0 hown hK hP 0 rfl rfl 0 (by decide) hw3 (fun _ h9 => h9) rfl (zdt_at zt_X0_decrypt_1 27 rfl) ?_
  refine lv_iload (pc := 152) hx hb (zdt_at zt_X0_decrypt_1 28 rfl) (lv_at hl 9 rfl) ?_
  refine lv_iconst (pc := 154) (v := (2 : Int32)) hx hb (zdt_at zt_X0_decrypt_1 29 rfl) (by decide) ?_
  refine lv_iadd (pc := 155) hx hb (zdt_at zt_X0_decrypt_1 30 rfl) ?_
  replace hf := zk_s hf
  refine va_iald (pc := 156) hx hb hK hP 1 1 rfl rfl hf.1 (zdt_at zt_X0_decrypt_1 31 rfl) ?_
  replace hf := hf.2
  refine lv_ixor (pc := 157) hx hb (zdt_at zt_X0_decrypt_1 32 rfl) ?_
  replace hf := zb_s hf
  obtain ⟨r_37, hc_, hf⟩ := hf
  refine zcs (pc := 158) (rv := (some (.int r_37))) (va_runS (As := [.int (r_36 ^^^ (c_keys (i_15 + (2 : Int32)).toNatClampNeg))]) (rest := []) ⟨hx, hb, hml, hown, hts⟩ (c_X0_unmixed l D cy tt H.size (r_36 ^^^ (c_keys (i_15 + (2 : Int32)).toNatClampNeg)) r_37 hc_) (va_cwS 1 hts gX0_decrypt_X0_unmixed rfl rfl rfl (by decide +kernel) ⟨Nat.le_of_ble_eq_true rfl, Nat.le_of_ble_eq_true rfl⟩) ⟨zblind, zpre hE hS (hP.sub [] rfl) (hD.sub [] (by decide) rfl) (va_free hD hS hA [] rfl)⟩ rfl rfl hl.1 rfl (lv_room (Nat.le_of_ble_eq_true rfl)) (zdt_at zt_X0_decrypt_1 33 rfl) ⟨Nat.zero_le _, Nat.zero_le _⟩) ?_
  clear hc_
  refine W.eq (g2 := F0 m 161 ls [.int r_37]) rfl ?_
  refine lv_istore (pc := 161) (lv' := [(11, .int r_37), (10, .int r_35), (9, .int r_33), (0, .ref h0), (1, .ref ha1), (2, .int p2), (4, .int i_11), (5, .int i_12), (6, .int i_13), (7, .int i_14), (8, .int i_15)]) hx hb (zdt_at zt_X0_decrypt_1 34 rfl) hl (by decide) rfl ?_
  clear hl
  intro ls hl
  refine lv_iload (pc := 163) hx hb (zdt_at zt_X0_decrypt_1 35 rfl) (lv_at hl 9 rfl) ?_
  refine lv_iload (pc := 165) hx hb (zdt_at zt_X0_decrypt_1 36 rfl) (lv_at hl 8 rfl) ?_
  refine lv_iload (pc := 167) hx hb (zdt_at zt_X0_decrypt_1 37 rfl) (lv_at hl 7 rfl) ?_
  refine lv_iload (pc := 169) hx hb (zdt_at zt_X0_decrypt_1 38 rfl) (lv_at hl 6 rfl) ?_
  replace hf := zb_s hf
  obtain ⟨r_38, hc_, hf⟩ := hf
  refine zcs (pc := 171) (rv := (some (.int r_38))) (va_runS (As := [.int i_14, .int i_13, .int i_12, .int i_11]) (rest := []) ⟨hx, hb, hml, hown, hts⟩ (c_X0_unboxed l D cy tt H.size i_14 i_13 i_12 i_11 r_38 hc_) (va_cwS 4 hts gX0_decrypt_X0_unboxed rfl rfl rfl (by decide +kernel) ⟨Nat.le_of_ble_eq_true rfl, Nat.le_of_ble_eq_true rfl⟩) ⟨zblind, zpre hE hS (hP.sub [] rfl) (hD.sub [] (by decide) rfl) (va_free hD hS hA [] rfl)⟩ rfl rfl hl.1 rfl (lv_room (Nat.le_of_ble_eq_true rfl)) (zdt_at zt_X0_decrypt_1 39 rfl) ⟨Nat.zero_le _, Nat.zero_le _⟩) ?_
  clear hc_
  refine W.eq (g2 := F0 m 174 ls [.int r_38]) rfl ?_
  refine lv_aload_n (pc := 174) hx hb (zdt_at zt_X0_decrypt_1 40 rfl) rfl (lv_at hl 3 rfl) ?_
  refine va_get (pc := 175) (D := D) (ci := 2) (v := .ref h0_keys) (C := RX0) (T := TX0) (N := 2) hx hb hts hcX0 hown hK hP 0 rfl rfl 0 (by decide) hw3 (fun _ h9 => h9) rfl (zdt_at zt_X0_decrypt_1 41 rfl) ?_
  refine lv_iload (pc := 178) hx hb (zdt_at zt_X0_decrypt_1 42 rfl) (lv_at hl 10 rfl) ?_
  refine lv_iconst (pc := 180) (v := (3 : Int32)) hx hb (zdt_at zt_X0_decrypt_1 43 rfl) (by decide) ?_
  refine lv_iadd (pc := 181) hx hb (zdt_at zt_X0_decrypt_1 44 rfl) ?_
  replace hf := zk_s hf
  refine va_iald (pc := 182) hx hb hK hP 1 1 rfl rfl hf.1 (zdt_at zt_X0_decrypt_1 45 rfl) ?_
  replace hf := hf.2
  refine lv_ixor (pc := 183) hx hb (zdt_at zt_X0_decrypt_1 46 rfl) ?_
  replace hf := zb_s hf
  obtain ⟨r_39, hc_, hf⟩ := hf
  refine zcs (pc := 184) (rv := (some (.int r_39))) (va_runS (As := [.int (r_38 ^^^ (c_keys (i_15 + (3 : Int32)).toNatClampNeg))]) (rest := []) ⟨hx, hb, hml, hown, hts⟩ (c_X0_unmixed l D cy tt H.size (r_38 ^^^ (c_keys (i_15 + (3 : Int32)).toNatClampNeg)) r_39 hc_) (va_cwS 1 hts gX0_decrypt_X0_unmixed rfl rfl rfl (by decide +kernel) ⟨Nat.le_of_ble_eq_true rfl, Nat.le_of_ble_eq_true rfl⟩) ⟨zblind, zpre hE hS (hP.sub [] rfl) (hD.sub [] (by decide) rfl) (va_free hD hS hA [] rfl)⟩ rfl rfl hl.1 rfl (lv_room (Nat.le_of_ble_eq_true rfl)) (zdt_at zt_X0_decrypt_1 47 rfl) ⟨Nat.zero_le _, Nat.zero_le _⟩) ?_
  clear hc_
  refine W.eq (g2 := F0 m 187 ls [.int r_39]) rfl ?_
  refine lv_istore (pc := 187) (lv' := [(12, .int r_39), (11, .int r_37), (10, .int r_35), (9, .int r_33), (0, .ref h0), (1, .ref ha1), (2, .int p2), (4, .int i_11), (5, .int i_12), (6, .int i_13), (7, .int i_14), (8, .int i_15)]) hx hb (zdt_at zt_X0_decrypt_1 48 rfl) hl (by decide) rfl ?_
  clear hl
  intro ls hl
  refine lv_iload (pc := 189) hx hb (zdt_at zt_X0_decrypt_1 49 rfl) (lv_at hl 3 rfl) ?_
  refine lv_istore (pc := 191) (lv' := [(4, .int r_33), (12, .int r_39), (11, .int r_37), (10, .int r_35), (9, .int r_33), (0, .ref h0), (1, .ref ha1), (2, .int p2), (5, .int i_12), (6, .int i_13), (7, .int i_14), (8, .int i_15)]) hx hb (zdt_at zt_X0_decrypt_1 50 rfl) hl (by decide) rfl ?_
  clear hl
  intro ls hl
  refine lv_iload (pc := 193) hx hb (zdt_at zt_X0_decrypt_1 51 rfl) (lv_at hl 3 rfl) ?_
  refine lv_istore (pc := 195) (lv' := [(5, .int r_35), (4, .int r_33), (12, .int r_39), (11, .int r_37), (10, .int r_35), (9, .int r_33), (0, .ref h0), (1, .ref ha1), (2, .int p2), (6, .int i_13), (7, .int i_14), (8, .int i_15)]) hx hb (zdt_at zt_X0_decrypt_1 52 rfl) hl (by decide) rfl ?_
  clear hl
  intro ls hl
  refine lv_iload (pc := 197) hx hb (zdt_at zt_X0_decrypt_1 53 rfl) (lv_at hl 3 rfl) ?_
  refine lv_istore (pc := 199) (lv' := [(6, .int r_37), (5, .int r_35), (4, .int r_33), (12, .int r_39), (11, .int r_37), (10, .int r_35), (9, .int r_33), (0, .ref h0), (1, .ref ha1), (2, .int p2), (7, .int i_14), (8, .int i_15)]) hx hb (zdt_at zt_X0_decrypt_1 54 rfl) hl (by decide) rfl ?_
  clear hl
  intro ls hl
  refine lv_iload (pc := 201) hx hb (zdt_at zt_X0_decrypt_1 55 rfl) (lv_at hl 3 rfl) ?_
  refine lv_istore (pc := 203) (lv' := [(7, .int r_39), (6, .int r_37), (5, .int r_35), (4, .int r_33), (12, .int r_39), (11, .int r_37), (10, .int r_35), (9, .int r_33), (0, .ref h0), (1, .ref ha1), (2, .int p2), (8, .int i_15)]) hx hb (zdt_at zt_X0_decrypt_1 56 rfl) hl (by decide) rfl ?_
  clear hl
  intro ls hl
  refine lv_iinc (pc := 205) (v := (i_15 + (-4 : Int32))) (lv' := [(8, .int (i_15 + (-4 : Int32))), (7, .int r_39), (6, .int r_37), (5, .int r_35), (4, .int r_33), (12, .int r_39), (11, .int r_37), (10, .int r_35), (9, .int r_33), (0, .ref h0), (1, .ref ha1), (2, .int p2)]) hx hb (zdt_at zt_X0_decrypt_1 57 rfl) hl (k := 11) rfl rfl (by decide) rfl ?_
  clear hl
  intro ls hl
  refine lv_goto (pc := 208) (tgt := 82) hx hb (zdt_at zt_X0_decrypt_1 58 rfl) (by decide) ?_
  exact hTo _ _ _ (ihself_29 _ hf H locs ls hP hD hS (lv_sub hl [9, 10, 11, 4, 3, 2, 1, 0] rfl))
set_option maxHeartbeats 4000000 in
set_option maxRecDepth 100000 in
theorem c_X1_forgetKept (l : Launch) (D : va_G) (cy : Nat → ClassId) (tt : Nat → Nat) (sz : Nat) (h0 : Nat) (h0_kept : Nat) (c_count : Int32) (c_kept : Nat → Int32) (c_healthy : Int32) (c_last : Int32) (c_row : Int32) (c_first : Int32) (c_placeInWindow : Int32) (c_timesInWindow : Int32) (c_count' : Int32) (c_kept' : Nat → Int32) (hf : f_X1_forgetKept c_count c_kept = some (c_count', c_kept')) : Met l yX1_forgetKept wsX1_forgetKept ({ frames := 1, cells := 0, slots := 0, locals := 23 }) (zPc D cy tt sz [.ref h0] ([(h0, .inr (3, [.ref h0_kept, .int c_count, .int c_healthy, .int c_last, .int c_row, .int c_first, .int c_placeInWindow, .int c_timesInWindow])), (h0_kept, .inl (cy 1, 64, .inl c_kept))])) (zQ D none ([(h0, .inr (3, [.ref h0_kept, .int c_count', .int c_healthy, .int c_last, .int c_row, .int c_first, .int c_placeInWindow, .int c_timesInWindow])), (h0_kept, .inl (cy 1, 64, .inl c_kept'))]) (va_A ([(h0, .inr (3, [.ref h0_kept, .int c_count, .int c_healthy, .int c_last, .int c_row, .int c_first, .int c_placeInWindow, .int c_timesInWindow])), (h0_kept, .inl (cy 1, 64, .inl c_kept))]) sz)) 0 0 (va_A ([(h0, .inr (3, [.ref h0_kept, .int c_count, .int c_healthy, .int c_last, .int c_row, .int c_first, .int c_placeInWindow, .int c_timesInWindow])), (h0_kept, .inl (cy 1, 64, .inl c_kept))]) sz) := by
  refine Met.ofW (cc := cX1_forgetKept) (maxL := 1) (ret := none) (by decide) rfl ?_
  intro p e s m args below meth c s₁ B hml hv
  obtain ⟨rfl, rfl, hP, hD0, hE⟩ := hv
  have hx := B.exec
  have hb := B.bytes
  have hr := B.returns
  have hts := atoms_spec (ws := wsX1_forgetKept) B.pre
  have hown : s.vm.findClass RX1 = some m.cls := findClass_of_methodNamed B.named
  have hlocks := B.notSynchronized
  clear B
  have hD := hD0.self (sz := s.heap.size)
  generalize hAe : va_A ([(h0, .inr (3, [.ref h0_kept, .int c_count, .int c_healthy, .int c_last, .int c_row, .int c_first, .int c_placeInWindow, .int c_timesInWindow])), (h0_kept, .inl (cy 1, 64, .inl c_kept))]) s.heap.size = A at hD hE ⊢
  have hA : ∀ q : Nat, s.heap.size ≤ q → A q := fun q h => by rw [← hAe]; exact Or.inr h
  clear hAe hD0
  have hS : va_S A s.heap s.heap [] := va_S.rf
  have hK := hE.1
  have hw0 := hts (.fieldLink RX1 9 "SealedModule$Entropy" "kept" "[I") (by decide +kernel)
  have hw1 := hts (.fieldLink RX1 13 "SealedModule$Entropy" "count" "I") (by decide +kernel)
  have hcX1 : ∀ w ∈ u_ws RX1 TX1 8, w ∈ wsX1_forgetKept := (fun _ h => List.mem_cons_of_mem _ (List.mem_append_right _ h))
  have hl := lv_entry ([.ref h0]) (n := 1) (Nat.le_of_ble_eq_true rfl)
  rw [lg_entry_eq]
  generalize (lg_sl ([.ref h0]) ++ List.replicate (1 - (lg_sl ([.ref h0])).length) Slot.unset).toArray = ls at hl ⊢
  replace hl : lv_has ls 1 [(0, .ref h0)] := hl
  unfold f_X1_forgetKept at hf
  refine zgo (fun GW hTo hFr => ?_)
  refine hFr _ _ _ ?_
  obtain ⟨H, hHe⟩ : ∃ H, H = s.heap := ⟨_, rfl⟩
  obtain ⟨locs, hLe⟩ : ∃ L : List Loc, L = [] := ⟨_, rfl⟩
  rw [← hHe] at hP
  replace hS : va_S A s.heap H locs := by rw [hHe, hLe]; exact hS
  refine zat hHe.symm hLe.symm ?_
  clear hHe hLe
  refine lv_aload_n (pc := 0) hx hb (zdt_at zt_X1_forgetKept_0 0 rfl) rfl (lv_at hl 0 rfl) ?_
  refine va_get (pc := 1) (D := D) (ci := 3) (v := .ref h0_kept) (C := RX1) (T := TX1) (N := 8) hx hb hts hcX1 hown hK hP 0 rfl rfl 0 (by decide) hw0 (fun _ h9 => h9) rfl (zdt_at zt_X1_forgetKept_0 1 rfl) ?_
  refine lv_iconst (pc := 4) (v := (0 : Int32)) hx hb (zdt_at zt_X1_forgetKept_0 2 rfl) (by decide) ?_
  replace hf := zb_s hf
  obtain ⟨c_kept_1, hc_, hf⟩ := hf
  refine zcn2 (pc := 5) (rv := none) (va_runS (As := [.ref h0_kept, .int (0 : Int32)]) (rest := []) ⟨hx, hb, hml, hown, hts⟩ (c_J7_fill_53178 l D cy tt H.size h0_kept 64 (0 : Int32) c_kept c_kept_1 hc_) (va_cwS 2 hts gX1_forgetKept_J7_fill_53178 rfl rfl rfl (by decide +kernel) ⟨Nat.le_of_ble_eq_true rfl, Nat.le_of_ble_eq_true rfl⟩) ⟨zblind, zpre hE hS (hP.sub [1] rfl) (hD.sub [1] (by decide) rfl) (va_free hD hS hA [1] rfl)⟩ rfl rfl hl.1 rfl (lv_room (Nat.le_of_ble_eq_true rfl)) (zdt_at zt_X1_forgetKept_0 3 rfl) ⟨Nat.zero_le _, Nat.zero_le _⟩) hS hP hD (va_free hD hS hA [1] rfl) [1] rfl (by decide) rfl ?_
  clear hP hD hS hc_
  intro H locs hP hD hS
  replace hP : va_P D vwCl ([(h0, .inr (3, [.ref h0_kept, .int c_count, .int c_healthy, .int c_last, .int c_row, .int c_first, .int c_placeInWindow, .int c_timesInWindow])), (h0_kept, .inl (cy 1, 64, .inl c_kept_1))]) H := hP
  replace hD : va_D A ([(h0, .inr (3, [.ref h0_kept, .int c_count, .int c_healthy, .int c_last, .int c_row, .int c_first, .int c_placeInWindow, .int c_timesInWindow])), (h0_kept, .inl (cy 1, 64, .inl c_kept_1))]) := hD
  refine W.eq (g2 := F0 m 8 ls []) rfl ?_
  refine lv_aload_n (pc := 8) hx hb (zdt_at zt_X1_forgetKept_0 4 rfl) rfl (lv_at hl 0 rfl) ?_
  refine lv_iconst (pc := 9) (v := (0 : Int32)) hx hb (zdt_at zt_X1_forgetKept_0 5 rfl) (by decide) ?_
  refine va_put (pc := 10) (D := D) (ci := 3) (v := .int (0 : Int32)) (ty := .int) (C := RX1) (T := TX1) (N := 8) hx hb hts hcX1 tyX1 tyX1_ok nmX1 hown hK hP hD hS 0 rfl rfl 1 (by decide) hw1 (fun _ h9 => h9) rfl (by decide +kernel) rfl rfl (Nat.le_of_ble_eq_true rfl) (zdt_at zt_X1_forgetKept_0 6 rfl) ?_
  clear hP hD hS
  intro H locs hP hD hS
  replace hP : va_P D vwCl ([(h0, .inr (3, [.ref h0_kept, .int (0 : Int32), .int c_healthy, .int c_last, .int c_row, .int c_first, .int c_placeInWindow, .int c_timesInWindow])), (h0_kept, .inl (cy 1, 64, .inl c_kept_1))]) H := hP
  replace hD : va_D A ([(h0, .inr (3, [.ref h0_kept, .int (0 : Int32), .int c_healthy, .int c_last, .int c_row, .int c_first, .int c_placeInWindow, .int c_timesInWindow])), (h0_kept, .inl (cy 1, 64, .inl c_kept_1))]) := hD
  cases hf
  exact W.vret (pc := 13) hx hb hr (fun t ht hW => ⟨rfl, ⟨by rw [ht]; exact hP, hD⟩, hS.F ht⟩) hS.2.2 (zdt_at zt_X1_forgetKept_0 7 rfl)
set_option maxHeartbeats 4000000 in
set_option maxRecDepth 100000 in
theorem c_X1_forgetAll (l : Launch) (D : va_G) (cy : Nat → ClassId) (tt : Nat → Nat) (sz : Nat) (h0 : Nat) (h0_kept : Nat) (c_count : Int32) (c_healthy : Int32) (c_placeInWindow : Int32) (c_row : Int32) (c_timesInWindow : Int32) (c_kept : Nat → Int32) (c_last : Int32) (c_first : Int32) (c_count' : Int32) (c_healthy' : Int32) (c_placeInWindow' : Int32) (c_row' : Int32) (c_timesInWindow' : Int32) (c_kept' : Nat → Int32) (hf : f_X1_forgetAll c_count c_healthy c_placeInWindow c_row c_timesInWindow c_kept = some (c_count', c_healthy', c_placeInWindow', c_row', c_timesInWindow', c_kept')) : Met l yX1_forgetAll wsX1_forgetAll ({ frames := 2, cells := 0, slots := 0, locals := 43 }) (zPc D cy tt sz [.ref h0] ([(h0, .inr (3, [.ref h0_kept, .int c_count, .int c_healthy, .int c_last, .int c_row, .int c_first, .int c_placeInWindow, .int c_timesInWindow])), (h0_kept, .inl (cy 1, 64, .inl c_kept))])) (zQ D none ([(h0, .inr (3, [.ref h0_kept, .int c_count', .int c_healthy', .int c_last, .int c_row', .int c_first, .int c_placeInWindow', .int c_timesInWindow'])), (h0_kept, .inl (cy 1, 64, .inl c_kept'))]) (va_A ([(h0, .inr (3, [.ref h0_kept, .int c_count, .int c_healthy, .int c_last, .int c_row, .int c_first, .int c_placeInWindow, .int c_timesInWindow])), (h0_kept, .inl (cy 1, 64, .inl c_kept))]) sz)) 0 0 (va_A ([(h0, .inr (3, [.ref h0_kept, .int c_count, .int c_healthy, .int c_last, .int c_row, .int c_first, .int c_placeInWindow, .int c_timesInWindow])), (h0_kept, .inl (cy 1, 64, .inl c_kept))]) sz) := by
  refine Met.ofW (cc := cX1_forgetAll) (maxL := 1) (ret := none) (by decide) rfl ?_
  intro p e s m args below meth c s₁ B hml hv
  obtain ⟨rfl, rfl, hP, hD0, hE⟩ := hv
  have hx := B.exec
  have hb := B.bytes
  have hr := B.returns
  have hts := atoms_spec (ws := wsX1_forgetAll) B.pre
  have hown : s.vm.findClass RX1 = some m.cls := findClass_of_methodNamed B.named
  have hlocks := B.notSynchronized
  clear B
  have hD := hD0.self (sz := s.heap.size)
  generalize hAe : va_A ([(h0, .inr (3, [.ref h0_kept, .int c_count, .int c_healthy, .int c_last, .int c_row, .int c_first, .int c_placeInWindow, .int c_timesInWindow])), (h0_kept, .inl (cy 1, 64, .inl c_kept))]) s.heap.size = A at hD hE ⊢
  have hA : ∀ q : Nat, s.heap.size ≤ q → A q := fun q h => by rw [← hAe]; exact Or.inr h
  clear hAe hD0
  have hS : va_S A s.heap s.heap [] := va_S.rf
  have hK := hE.1
  have hw0 := hts (.fieldLink RX1 17 "SealedModule$Entropy" "healthy" "Z") (by decide +kernel)
  have hw1 := hts (.fieldLink RX1 24 "SealedModule$Entropy" "row" "I") (by decide +kernel)
  have hw2 := hts (.fieldLink RX1 30 "SealedModule$Entropy" "placeInWindow" "I") (by decide +kernel)
  have hw3 := hts (.fieldLink RX1 33 "SealedModule$Entropy" "timesInWindow" "I") (by decide +kernel)
  have hcX1 : ∀ w ∈ u_ws RX1 TX1 8, w ∈ wsX1_forgetAll := (fun _ h => List.mem_cons_of_mem _ (List.mem_append_right _ h))
  have hl := lv_entry ([.ref h0]) (n := 1) (Nat.le_of_ble_eq_true rfl)
  rw [lg_entry_eq]
  generalize (lg_sl ([.ref h0]) ++ List.replicate (1 - (lg_sl ([.ref h0])).length) Slot.unset).toArray = ls at hl ⊢
  replace hl : lv_has ls 1 [(0, .ref h0)] := hl
  unfold f_X1_forgetAll at hf
  refine zgo (fun GW hTo hFr => ?_)
  refine hFr _ _ _ ?_
  obtain ⟨H, hHe⟩ : ∃ H, H = s.heap := ⟨_, rfl⟩
  obtain ⟨locs, hLe⟩ : ∃ L : List Loc, L = [] := ⟨_, rfl⟩
  rw [← hHe] at hP
  replace hS : va_S A s.heap H locs := by rw [hHe, hLe]; exact hS
  refine zat hHe.symm hLe.symm ?_
  clear hHe hLe
  refine lv_aload_n (pc := 0) hx hb (zdt_at zt_X1_forgetAll_0 0 rfl) rfl (lv_at hl 0 rfl) ?_
  replace hf := zb_s hf
  obtain ⟨⟨c_count_1, c_kept_2⟩, hc_, hf⟩ := hf
  refine zcn2 (pc := 1) (rv := none) (va_runV (As := []) (rest := []) ⟨hx, hb, hml, hown, hts⟩ (c_X1_forgetKept l D cy tt H.size h0 h0_kept c_count c_kept c_healthy c_last c_row c_first c_placeInWindow c_timesInWindow c_count_1 c_kept_2 hc_) (cwV 0 hts gX1_forgetAll_X1_forgetKept rfl rfl rfl (by decide +kernel) ⟨Nat.le_of_ble_eq_true rfl, Nat.le_of_ble_eq_true rfl⟩) ⟨zblind, va_recv hK hP (ci := 3) (q0 := 0) rfl rfl, zpre hE hS (hP.sub [0, 1] rfl) (hD.sub [0, 1] (by decide) rfl) (va_free hD hS hA [0, 1] rfl)⟩ rfl rfl hl.1 rfl (lv_room (Nat.le_of_ble_eq_true rfl)) (zdt_at zt_X1_forgetAll_0 1 rfl) ⟨Nat.zero_le _, Nat.zero_le _⟩) hS hP hD (va_free hD hS hA [0, 1] rfl) [0, 1] rfl (by decide) rfl ?_
  clear hP hD hS hc_
  intro H locs hP hD hS
  replace hP : va_P D vwCl ([(h0, .inr (3, [.ref h0_kept, .int c_count_1, .int c_healthy, .int c_last, .int c_row, .int c_first, .int c_placeInWindow, .int c_timesInWindow])), (h0_kept, .inl (cy 1, 64, .inl c_kept_2))]) H := hP
  replace hD : va_D A ([(h0, .inr (3, [.ref h0_kept, .int c_count_1, .int c_healthy, .int c_last, .int c_row, .int c_first, .int c_placeInWindow, .int c_timesInWindow])), (h0_kept, .inl (cy 1, 64, .inl c_kept_2))]) := hD
  refine W.eq (g2 := F0 m 4 ls []) rfl ?_
  refine lv_aload_n (pc := 4) hx hb (zdt_at zt_X1_forgetAll_0 2 rfl) rfl (lv_at hl 0 rfl) ?_
  refine lv_iconst (pc := 5) (v := (1 : Int32)) hx hb (zdt_at zt_X1_forgetAll_0 3 rfl) (by decide) ?_
  refine va_put (pc := 6) (D := D) (ci := 3) (v := .int (1 : Int32)) (ty := .boolean) (C := RX1) (T := TX1) (N := 8) hx hb hts hcX1 tyX1 tyX1_ok nmX1 hown hK hP hD hS 0 rfl rfl 2 (by decide) hw0 (fun _ h9 => h9) rfl (by decide +kernel) (by first | rfl | decide) (by first | rfl | decide) (Nat.le_of_ble_eq_true rfl) (zdt_at zt_X1_forgetAll_0 4 rfl) ?_
  clear hP hD hS
  intro H locs hP hD hS
  replace hP : va_P D vwCl ([(h0, .inr (3, [.ref h0_kept, .int c_count_1, .int (1 : Int32), .int c_last, .int c_row, .int c_first, .int c_placeInWindow, .int c_timesInWindow])), (h0_kept, .inl (cy 1, 64, .inl c_kept_2))]) H := hP
  replace hD : va_D A ([(h0, .inr (3, [.ref h0_kept, .int c_count_1, .int (1 : Int32), .int c_last, .int c_row, .int c_first, .int c_placeInWindow, .int c_timesInWindow])), (h0_kept, .inl (cy 1, 64, .inl c_kept_2))]) := hD
  refine lv_aload_n (pc := 9) hx hb (zdt_at zt_X1_forgetAll_0 5 rfl) rfl (lv_at hl 0 rfl) ?_
  refine lv_iconst (pc := 10) (v := (0 : Int32)) hx hb (zdt_at zt_X1_forgetAll_0 6 rfl) (by decide) ?_
  refine va_put (pc := 11) (D := D) (ci := 3) (v := .int (0 : Int32)) (ty := .int) (C := RX1) (T := TX1) (N := 8) hx hb hts hcX1 tyX1 tyX1_ok nmX1 hown hK hP hD hS 0 rfl rfl 4 (by decide) hw1 (fun _ h9 => h9) rfl (by decide +kernel) rfl rfl (Nat.le_of_ble_eq_true rfl) (zdt_at zt_X1_forgetAll_0 7 rfl) ?_
  clear hP hD hS
  intro H locs hP hD hS
  replace hP : va_P D vwCl ([(h0, .inr (3, [.ref h0_kept, .int c_count_1, .int (1 : Int32), .int c_last, .int (0 : Int32), .int c_first, .int c_placeInWindow, .int c_timesInWindow])), (h0_kept, .inl (cy 1, 64, .inl c_kept_2))]) H := hP
  replace hD : va_D A ([(h0, .inr (3, [.ref h0_kept, .int c_count_1, .int (1 : Int32), .int c_last, .int (0 : Int32), .int c_first, .int c_placeInWindow, .int c_timesInWindow])), (h0_kept, .inl (cy 1, 64, .inl c_kept_2))]) := hD
  refine lv_aload_n (pc := 14) hx hb (zdt_at zt_X1_forgetAll_0 8 rfl) rfl (lv_at hl 0 rfl) ?_
  refine lv_iconst (pc := 15) (v := (0 : Int32)) hx hb (zdt_at zt_X1_forgetAll_0 9 rfl) (by decide) ?_
  refine va_put (pc := 16) (D := D) (ci := 3) (v := .int (0 : Int32)) (ty := .int) (C := RX1) (T := TX1) (N := 8) hx hb hts hcX1 tyX1 tyX1_ok nmX1 hown hK hP hD hS 0 rfl rfl 6 (by decide) hw2 (fun _ h9 => h9) rfl (by decide +kernel) rfl rfl (Nat.le_of_ble_eq_true rfl) (zdt_at zt_X1_forgetAll_0 10 rfl) ?_
  clear hP hD hS
  intro H locs hP hD hS
  replace hP : va_P D vwCl ([(h0, .inr (3, [.ref h0_kept, .int c_count_1, .int (1 : Int32), .int c_last, .int (0 : Int32), .int c_first, .int (0 : Int32), .int c_timesInWindow])), (h0_kept, .inl (cy 1, 64, .inl c_kept_2))]) H := hP
  replace hD : va_D A ([(h0, .inr (3, [.ref h0_kept, .int c_count_1, .int (1 : Int32), .int c_last, .int (0 : Int32), .int c_first, .int (0 : Int32), .int c_timesInWindow])), (h0_kept, .inl (cy 1, 64, .inl c_kept_2))]) := hD
  refine lv_aload_n (pc := 19) hx hb (zdt_at zt_X1_forgetAll_0 11 rfl) rfl (lv_at hl 0 rfl) ?_
  refine lv_iconst (pc := 20) (v := (0 : Int32)) hx hb (zdt_at zt_X1_forgetAll_0 12 rfl) (by decide) ?_
  refine va_put (pc := 21) (D := D) (ci := 3) (v := .int (0 : Int32)) (ty := .int) (C := RX1) (T := TX1) (N := 8) hx hb hts hcX1 tyX1 tyX1_ok nmX1 hown hK hP hD hS 0 rfl rfl 7 (by decide) hw3 (fun _ h9 => h9) rfl (by decide +kernel) rfl rfl (Nat.le_of_ble_eq_true rfl) (zdt_at zt_X1_forgetAll_0 13 rfl) ?_
  clear hP hD hS
  intro H locs hP hD hS
  replace hP : va_P D vwCl ([(h0, .inr (3, [.ref h0_kept, .int c_count_1, .int (1 : Int32), .int c_last, .int (0 : Int32), .int c_first, .int (0 : Int32), .int (0 : Int32)])), (h0_kept, .inl (cy 1, 64, .inl c_kept_2))]) H := hP
  replace hD : va_D A ([(h0, .inr (3, [.ref h0_kept, .int c_count_1, .int (1 : Int32), .int c_last, .int (0 : Int32), .int c_first, .int (0 : Int32), .int (0 : Int32)])), (h0_kept, .inl (cy 1, 64, .inl c_kept_2))]) := hD
  cases hf
  exact W.vret (pc := 24) hx hb hr (fun t ht hW => ⟨rfl, ⟨by rw [ht]; exact hP, hD⟩, hS.F ht⟩) hS.2.2 (zdt_at zt_X1_forgetAll_0 14 rfl)
set_option maxHeartbeats 4000000 in
set_option maxRecDepth 100000 in
theorem c_X1_watchRow (l : Launch) (D : va_G) (cy : Nat → ClassId) (tt : Nat → Nat) (sz : Nat) (h0 : Nat) (h0_kept : Nat) (p1 : Int32) (c_last : Int32) (c_row : Int32) (c_count : Int32) (c_healthy : Int32) (c_first : Int32) (c_placeInWindow : Int32) (c_timesInWindow : Int32) (c_last' : Int32) (c_row' : Int32) (hf : f_X1_watchRow p1 c_last c_row = some (c_last', c_row')) : Met l yX1_watchRow wsX1_watchRow ({ frames := 0, cells := 0, slots := 0, locals := 0 }) (zPc D cy tt sz [.ref h0, .int p1] ([(h0, .inr (3, [.ref h0_kept, .int c_count, .int c_healthy, .int c_last, .int c_row, .int c_first, .int c_placeInWindow, .int c_timesInWindow]))])) (zQ D none ([(h0, .inr (3, [.ref h0_kept, .int c_count, .int c_healthy, .int c_last', .int c_row', .int c_first, .int c_placeInWindow, .int c_timesInWindow]))]) (va_A ([(h0, .inr (3, [.ref h0_kept, .int c_count, .int c_healthy, .int c_last, .int c_row, .int c_first, .int c_placeInWindow, .int c_timesInWindow]))]) sz)) 0 0 (va_A ([(h0, .inr (3, [.ref h0_kept, .int c_count, .int c_healthy, .int c_last, .int c_row, .int c_first, .int c_placeInWindow, .int c_timesInWindow]))]) sz) := by
  refine Met.ofW (cc := cX1_watchRow) (maxL := 2) (ret := none) (by decide) rfl ?_
  intro p e s m args below meth c s₁ B hml hv
  obtain ⟨rfl, rfl, hP, hD0, hE⟩ := hv
  have hx := B.exec
  have hb := B.bytes
  have hr := B.returns
  have hts := atoms_spec (ws := wsX1_watchRow) B.pre
  have hown : s.vm.findClass RX1 = some m.cls := findClass_of_methodNamed B.named
  have hlocks := B.notSynchronized
  clear B
  have hD := hD0.self (sz := s.heap.size)
  generalize hAe : va_A ([(h0, .inr (3, [.ref h0_kept, .int c_count, .int c_healthy, .int c_last, .int c_row, .int c_first, .int c_placeInWindow, .int c_timesInWindow]))]) s.heap.size = A at hD hE ⊢
  have hA : ∀ q : Nat, s.heap.size ≤ q → A q := fun q h => by rw [← hAe]; exact Or.inr h
  clear hAe hD0
  have hS : va_S A s.heap s.heap [] := va_S.rf
  have hK := hE.1
  have hw0 := hts (.fieldLink RX1 24 "SealedModule$Entropy" "row" "I") (by decide +kernel)
  have hw1 := hts (.fieldLink RX1 21 "SealedModule$Entropy" "last" "I") (by decide +kernel)
  have hcX1 : ∀ w ∈ u_ws RX1 TX1 8, w ∈ wsX1_watchRow := (fun _ h => List.mem_cons_of_mem _ (List.mem_append_right _ h))
  have hl := lv_entry ([.ref h0, .int p1]) (n := 2) (Nat.le_of_ble_eq_true rfl)
  rw [lg_entry_eq]
  generalize (lg_sl ([.ref h0, .int p1]) ++ List.replicate (2 - (lg_sl ([.ref h0, .int p1])).length) Slot.unset).toArray = ls at hl ⊢
  replace hl : lv_has ls 2 [(0, .ref h0), (1, .int p1)] := hl
  unfold f_X1_watchRow at hf
  refine zgo (fun GW hTo hFr => ?_)
  refine hFr _ _ _ ?_
  obtain ⟨H, hHe⟩ : ∃ H, H = s.heap := ⟨_, rfl⟩
  obtain ⟨locs, hLe⟩ : ∃ L : List Loc, L = [] := ⟨_, rfl⟩
  rw [← hHe] at hP
  replace hS : va_S A s.heap H locs := by rw [hHe, hLe]; exact hS
  refine zat hHe.symm hLe.symm ?_
  clear hHe hLe
  refine lv_aload_n (pc := 0) hx hb (zdt_at zt_X1_watchRow_0 0 rfl) rfl (lv_at hl 0 rfl) ?_
  refine lv_aload_n (pc := 1) hx hb (zdt_at zt_X1_watchRow_0 1 rfl) rfl (lv_at hl 0 rfl) ?_
  refine va_get (pc := 2) (D := D) (ci := 3) (v := .int c_row) (C := RX1) (T := TX1) (N := 8) hx hb hts hcX1 hown hK hP 0 rfl rfl 4 (by decide) hw0 (fun _ h9 => h9) rfl (zdt_at zt_X1_watchRow_0 2 rfl) ?_
  refine lv_if_le (pc := 5) (tgt := 25) hx hb (zdt_at zt_X1_watchRow_0 3 rfl) (by decide) (fun cn_ => ?t_1) (fun cn_ => ?f_2)
  case t_1 =>
    replace hf := zt_s cn_ hf
    clear cn_
    refine lv_iconst (pc := 25) (v := (1 : Int32)) hx hb (zdt_at zt_X1_watchRow_0 13 rfl) (by decide) ?_
    refine va_put (pc := 26) (D := D) (ci := 3) (v := .int (1 : Int32)) (ty := .int) (C := RX1) (T := TX1) (N := 8) hx hb hts hcX1 tyX1 tyX1_ok nmX1 hown hK hP hD hS 0 rfl rfl 4 (by decide) hw0 (fun _ h9 => h9) rfl (by decide +kernel) rfl rfl (Nat.le_of_ble_eq_true rfl) (zdt_at zt_X1_watchRow_0 14 rfl) ?_
    clear hP hD hS
    intro H locs hP hD hS
    replace hP : va_P D vwCl ([(h0, .inr (3, [.ref h0_kept, .int c_count, .int c_healthy, .int c_last, .int (1 : Int32), .int c_first, .int c_placeInWindow, .int c_timesInWindow]))]) H := hP
    replace hD : va_D A ([(h0, .inr (3, [.ref h0_kept, .int c_count, .int c_healthy, .int c_last, .int (1 : Int32), .int c_first, .int c_placeInWindow, .int c_timesInWindow]))]) := hD
    refine lv_aload_n (pc := 29) hx hb (zdt_at zt_X1_watchRow_0 15 rfl) rfl (lv_at hl 0 rfl) ?_
    refine lv_iload_n (pc := 30) hx hb (zdt_at zt_X1_watchRow_0 16 rfl) rfl (lv_at hl 1 rfl) ?_
    refine va_put (pc := 31) (D := D) (ci := 3) (v := .int p1) (ty := .int) (C := RX1) (T := TX1) (N := 8) hx hb hts hcX1 tyX1 tyX1_ok nmX1 hown hK hP hD hS 0 rfl rfl 3 (by decide) hw1 (fun _ h9 => h9) rfl (by decide +kernel) rfl rfl (Nat.le_of_ble_eq_true rfl) (zdt_at zt_X1_watchRow_0 17 rfl) ?_
    clear hP hD hS
    intro H locs hP hD hS
    replace hP : va_P D vwCl ([(h0, .inr (3, [.ref h0_kept, .int c_count, .int c_healthy, .int p1, .int (1 : Int32), .int c_first, .int c_placeInWindow, .int c_timesInWindow]))]) H := hP
    replace hD : va_D A ([(h0, .inr (3, [.ref h0_kept, .int c_count, .int c_healthy, .int p1, .int (1 : Int32), .int c_first, .int c_placeInWindow, .int c_timesInWindow]))]) := hD
    cases hf
    exact W.vret (pc := 34) hx hb hr (fun t ht hW => ⟨rfl, ⟨by rw [ht]; exact hP, hD⟩, hS.F ht⟩) hS.2.2 (zdt_at zt_X1_watchRow_0 18 rfl)
  replace hf := ze_s cn_ hf
  clear cn_
  refine lv_iload_n (pc := 8) hx hb (zdt_at zt_X1_watchRow_0 4 rfl) rfl (lv_at hl 1 rfl) ?_
  refine lv_aload_n (pc := 9) hx hb (zdt_at zt_X1_watchRow_0 5 rfl) rfl (lv_at hl 0 rfl) ?_
  refine va_get (pc := 10) (D := D) (ci := 3) (v := .int c_last) (C := RX1) (T := TX1) (N := 8) hx hb hts hcX1 hown hK hP 0 rfl rfl 3 (by decide) hw1 (fun _ h9 => h9) rfl (zdt_at zt_X1_watchRow_0 6 rfl) ?_
  refine lv_icmp_ne (pc := 13) (tgt := 25) hx hb (zdt_at zt_X1_watchRow_0 7 rfl) (by decide) (fun cn_ => ?t_3) (fun cn_ => ?f_4)
  case t_3 =>
    replace hf := ze_s cn_ hf
    clear cn_
    refine lv_iconst (pc := 25) (v := (1 : Int32)) hx hb (zdt_at zt_X1_watchRow_0 13 rfl) (by decide) ?_
    refine va_put (pc := 26) (D := D) (ci := 3) (v := .int (1 : Int32)) (ty := .int) (C := RX1) (T := TX1) (N := 8) hx hb hts hcX1 tyX1 tyX1_ok nmX1 hown hK hP hD hS 0 rfl rfl 4 (by decide) hw0 (fun _ h9 => h9) rfl (by decide +kernel) rfl rfl (Nat.le_of_ble_eq_true rfl) (zdt_at zt_X1_watchRow_0 14 rfl) ?_
    clear hP hD hS
    intro H locs hP hD hS
    replace hP : va_P D vwCl ([(h0, .inr (3, [.ref h0_kept, .int c_count, .int c_healthy, .int c_last, .int (1 : Int32), .int c_first, .int c_placeInWindow, .int c_timesInWindow]))]) H := hP
    replace hD : va_D A ([(h0, .inr (3, [.ref h0_kept, .int c_count, .int c_healthy, .int c_last, .int (1 : Int32), .int c_first, .int c_placeInWindow, .int c_timesInWindow]))]) := hD
    refine lv_aload_n (pc := 29) hx hb (zdt_at zt_X1_watchRow_0 15 rfl) rfl (lv_at hl 0 rfl) ?_
    refine lv_iload_n (pc := 30) hx hb (zdt_at zt_X1_watchRow_0 16 rfl) rfl (lv_at hl 1 rfl) ?_
    refine va_put (pc := 31) (D := D) (ci := 3) (v := .int p1) (ty := .int) (C := RX1) (T := TX1) (N := 8) hx hb hts hcX1 tyX1 tyX1_ok nmX1 hown hK hP hD hS 0 rfl rfl 3 (by decide) hw1 (fun _ h9 => h9) rfl (by decide +kernel) rfl rfl (Nat.le_of_ble_eq_true rfl) (zdt_at zt_X1_watchRow_0 17 rfl) ?_
    clear hP hD hS
    intro H locs hP hD hS
    replace hP : va_P D vwCl ([(h0, .inr (3, [.ref h0_kept, .int c_count, .int c_healthy, .int p1, .int (1 : Int32), .int c_first, .int c_placeInWindow, .int c_timesInWindow]))]) H := hP
    replace hD : va_D A ([(h0, .inr (3, [.ref h0_kept, .int c_count, .int c_healthy, .int p1, .int (1 : Int32), .int c_first, .int c_placeInWindow, .int c_timesInWindow]))]) := hD
    cases hf
    exact W.vret (pc := 34) hx hb hr (fun t ht hW => ⟨rfl, ⟨by rw [ht]; exact hP, hD⟩, hS.F ht⟩) hS.2.2 (zdt_at zt_X1_watchRow_0 18 rfl)
  replace hf := zt_s cn_ hf
  clear cn_
  refine lv_aload_n (pc := 16) hx hb (zdt_at zt_X1_watchRow_0 8 rfl) rfl (lv_at hl 0 rfl) ?_
  refine va_get (pc := 17) (D := D) (ci := 3) (v := .int c_row) (C := RX1) (T := TX1) (N := 8) hx hb hts hcX1 hown hK hP 0 rfl rfl 4 (by decide) hw0 (fun _ h9 => h9) rfl (zdt_at zt_X1_watchRow_0 9 rfl) ?_
  refine lv_iconst (pc := 20) (v := (1 : Int32)) hx hb (zdt_at zt_X1_watchRow_0 10 rfl) (by decide) ?_
  refine lv_iadd (pc := 21) hx hb (zdt_at zt_X1_watchRow_0 11 rfl) ?_
  refine lv_goto (pc := 22) (tgt := 26) hx hb (zdt_at zt_X1_watchRow_0 12 rfl) (by decide) ?_
  refine lv_topi (fun x_5 e_ => ?_)
  replace hf := zn_s hf e_
  clear e_
  refine va_put (pc := 26) (D := D) (ci := 3) (v := .int x_5) (ty := .int) (C := RX1) (T := TX1) (N := 8) hx hb hts hcX1 tyX1 tyX1_ok nmX1 hown hK hP hD hS 0 rfl rfl 4 (by decide) hw0 (fun _ h9 => h9) rfl (by decide +kernel) rfl rfl (Nat.le_of_ble_eq_true rfl) (zdt_at zt_X1_watchRow_0 14 rfl) ?_
  clear hP hD hS
  intro H locs hP hD hS
  replace hP : va_P D vwCl ([(h0, .inr (3, [.ref h0_kept, .int c_count, .int c_healthy, .int c_last, .int x_5, .int c_first, .int c_placeInWindow, .int c_timesInWindow]))]) H := hP
  replace hD : va_D A ([(h0, .inr (3, [.ref h0_kept, .int c_count, .int c_healthy, .int c_last, .int x_5, .int c_first, .int c_placeInWindow, .int c_timesInWindow]))]) := hD
  refine lv_aload_n (pc := 29) hx hb (zdt_at zt_X1_watchRow_0 15 rfl) rfl (lv_at hl 0 rfl) ?_
  refine lv_iload_n (pc := 30) hx hb (zdt_at zt_X1_watchRow_0 16 rfl) rfl (lv_at hl 1 rfl) ?_
  refine va_put (pc := 31) (D := D) (ci := 3) (v := .int p1) (ty := .int) (C := RX1) (T := TX1) (N := 8) hx hb hts hcX1 tyX1 tyX1_ok nmX1 hown hK hP hD hS 0 rfl rfl 3 (by decide) hw1 (fun _ h9 => h9) rfl (by decide +kernel) rfl rfl (Nat.le_of_ble_eq_true rfl) (zdt_at zt_X1_watchRow_0 17 rfl) ?_
  clear hP hD hS
  intro H locs hP hD hS
  replace hP : va_P D vwCl ([(h0, .inr (3, [.ref h0_kept, .int c_count, .int c_healthy, .int p1, .int x_5, .int c_first, .int c_placeInWindow, .int c_timesInWindow]))]) H := hP
  replace hD : va_D A ([(h0, .inr (3, [.ref h0_kept, .int c_count, .int c_healthy, .int p1, .int x_5, .int c_first, .int c_placeInWindow, .int c_timesInWindow]))]) := hD
  cases hf
  exact W.vret (pc := 34) hx hb hr (fun t ht hW => ⟨rfl, ⟨by rw [ht]; exact hP, hD⟩, hS.F ht⟩) hS.2.2 (zdt_at zt_X1_watchRow_0 18 rfl)
set_option maxHeartbeats 4000000 in
set_option maxRecDepth 100000 in
theorem c_X1_watchWindow (l : Launch) (D : va_G) (cy : Nat → ClassId) (tt : Nat → Nat) (sz : Nat) (h0 : Nat) (h0_kept : Nat) (p1 : Int32) (c_first : Int32) (c_placeInWindow : Int32) (c_timesInWindow : Int32) (c_count : Int32) (c_healthy : Int32) (c_last : Int32) (c_row : Int32) (c_first' : Int32) (c_placeInWindow' : Int32) (c_timesInWindow' : Int32) (hf : f_X1_watchWindow p1 c_first c_placeInWindow c_timesInWindow = some (c_first', c_placeInWindow', c_timesInWindow')) : Met l yX1_watchWindow wsX1_watchWindow ({ frames := 0, cells := 0, slots := 0, locals := 0 }) (zPc D cy tt sz [.ref h0, .int p1] ([(h0, .inr (3, [.ref h0_kept, .int c_count, .int c_healthy, .int c_last, .int c_row, .int c_first, .int c_placeInWindow, .int c_timesInWindow]))])) (zQ D none ([(h0, .inr (3, [.ref h0_kept, .int c_count, .int c_healthy, .int c_last, .int c_row, .int c_first', .int c_placeInWindow', .int c_timesInWindow']))]) (va_A ([(h0, .inr (3, [.ref h0_kept, .int c_count, .int c_healthy, .int c_last, .int c_row, .int c_first, .int c_placeInWindow, .int c_timesInWindow]))]) sz)) 0 0 (va_A ([(h0, .inr (3, [.ref h0_kept, .int c_count, .int c_healthy, .int c_last, .int c_row, .int c_first, .int c_placeInWindow, .int c_timesInWindow]))]) sz) := by
  refine Met.ofW (cc := cX1_watchWindow) (maxL := 2) (ret := none) (by decide) rfl ?_
  intro p e s m args below meth c s₁ B hml hv
  obtain ⟨rfl, rfl, hP, hD0, hE⟩ := hv
  have hx := B.exec
  have hb := B.bytes
  have hr := B.returns
  have hts := atoms_spec (ws := wsX1_watchWindow) B.pre
  have hown : s.vm.findClass RX1 = some m.cls := findClass_of_methodNamed B.named
  have hlocks := B.notSynchronized
  clear B
  have hD := hD0.self (sz := s.heap.size)
  generalize hAe : va_A ([(h0, .inr (3, [.ref h0_kept, .int c_count, .int c_healthy, .int c_last, .int c_row, .int c_first, .int c_placeInWindow, .int c_timesInWindow]))]) s.heap.size = A at hD hE ⊢
  have hA : ∀ q : Nat, s.heap.size ≤ q → A q := fun q h => by rw [← hAe]; exact Or.inr h
  clear hAe hD0
  have hS : va_S A s.heap s.heap [] := va_S.rf
  have hK := hE.1
  have hw0 := hts (.fieldLink RX1 30 "SealedModule$Entropy" "placeInWindow" "I") (by decide +kernel)
  have hw1 := hts (.fieldLink RX1 27 "SealedModule$Entropy" "first" "I") (by decide +kernel)
  have hw2 := hts (.fieldLink RX1 33 "SealedModule$Entropy" "timesInWindow" "I") (by decide +kernel)
  have hcX1 : ∀ w ∈ u_ws RX1 TX1 8, w ∈ wsX1_watchWindow := (fun _ h => List.mem_cons_of_mem _ (List.mem_append_right _ h))
  have hl := lv_entry ([.ref h0, .int p1]) (n := 2) (Nat.le_of_ble_eq_true rfl)
  rw [lg_entry_eq]
  generalize (lg_sl ([.ref h0, .int p1]) ++ List.replicate (2 - (lg_sl ([.ref h0, .int p1])).length) Slot.unset).toArray = ls at hl ⊢
  replace hl : lv_has ls 2 [(0, .ref h0), (1, .int p1)] := hl
  unfold f_X1_watchWindow at hf
  refine zgo (fun GW hTo hFr => ?_)
  refine hFr _ _ _ ?_
  obtain ⟨H, hHe⟩ : ∃ H, H = s.heap := ⟨_, rfl⟩
  obtain ⟨locs, hLe⟩ : ∃ L : List Loc, L = [] := ⟨_, rfl⟩
  rw [← hHe] at hP
  replace hS : va_S A s.heap H locs := by rw [hHe, hLe]; exact hS
  refine zat hHe.symm hLe.symm ?_
  clear hHe hLe
  refine lv_aload_n (pc := 0) hx hb (zdt_at zt_X1_watchWindow_0 0 rfl) rfl (lv_at hl 0 rfl) ?_
  refine va_get (pc := 1) (D := D) (ci := 3) (v := .int c_placeInWindow) (C := RX1) (T := TX1) (N := 8) hx hb hts hcX1 hown hK hP 0 rfl rfl 6 (by decide) hw0 (fun _ h9 => h9) rfl (zdt_at zt_X1_watchWindow_0 1 rfl) ?_
  replace hf := zj_s hf
  obtain ⟨K_3, eK_3, hf⟩ := hf
  have kK_3 : ∀ (c_first_1 : Int32) (c_timesInWindow_2 : Int32) (H : Heap) (locs : List Loc) (ls : Array Slot), va_P D vwCl ([(h0, .inr (3, [.ref h0_kept, .int c_count, .int c_healthy, .int c_last, .int c_row, .int c_first_1, .int c_placeInWindow, .int c_timesInWindow_2]))]) H → va_D A ([(h0, .inr (3, [.ref h0_kept, .int c_count, .int c_healthy, .int c_last, .int c_row, .int c_first_1, .int c_placeInWindow, .int c_timesInWindow_2]))]) → va_S A s.heap H locs → lv_has ls 2 [(0, .ref h0), (1, .int p1)] → K_3 c_first_1 c_timesInWindow_2 = some (c_first', c_placeInWindow', c_timesInWindow') → GW H locs (F0 m 17 ls []) := by
    clear hf hl hP hD hS
    intro c_first_1 c_timesInWindow_2 H locs ls hP hD hS hl hf
    rw [eK_3] at hf
    clear eK_3
    refine hFr _ _ _ ?_
    refine lv_iload_n (pc := 17) hx hb (zdt_at zt_X1_watchWindow_0 9 rfl) rfl (lv_at hl 1 rfl) ?_
    refine lv_aload_n (pc := 18) hx hb (zdt_at zt_X1_watchWindow_0 10 rfl) rfl (lv_at hl 0 rfl) ?_
    refine va_get (pc := 19) (D := D) (ci := 3) (v := .int c_first_1) (C := RX1) (T := TX1) (N := 8) hx hb hts hcX1 hown hK hP 0 rfl rfl 5 (by decide) hw1 (fun _ h9 => h9) rfl (zdt_at zt_X1_watchWindow_0 11 rfl) ?_
    refine lv_icmp_ne (pc := 22) (tgt := 35) hx hb (zdt_at zt_X1_watchWindow_0 12 rfl) (by decide) (fun cn_ => ?t_4) (fun cn_ => ?f_5)
    case t_4 =>
      replace hf := ze_s cn_ hf
      clear cn_
      refine lv_aload_n (pc := 35) hx hb (zdt_at zt_X1_watchWindow_0 19 rfl) rfl (lv_at hl 0 rfl) ?_
      refine lv_aload_n (pc := 36) hx hb (zdt_at zt_X1_watchWindow_0 20 rfl) rfl (lv_at hl 0 rfl) ?_
      refine va_get (pc := 37) (D := D) (ci := 3) (v := .int c_placeInWindow) (C := RX1) (T := TX1) (N := 8) hx hb hts hcX1 hown hK hP 0 rfl rfl 6 (by decide) hw0 (fun _ h9 => h9) rfl (zdt_at zt_X1_watchWindow_0 21 rfl) ?_
      refine lv_iconst (pc := 40) (v := (1 : Int32)) hx hb (zdt_at zt_X1_watchWindow_0 22 rfl) (by decide) ?_
      refine lv_iadd (pc := 41) hx hb (zdt_at zt_X1_watchWindow_0 23 rfl) ?_
      refine lv_bipush (pc := 42) (v := (16 : Int32)) hx hb (zdt_at zt_X1_watchWindow_0 24 rfl) (by decide) ?_
      replace hf := zk_s hf
      refine lv_irem (pc := 44) hx hb (zdt_at zt_X1_watchWindow_0 25 rfl) hf.1 ?_
      replace hf := hf.2
      refine lv_topi (fun x_6 e_ => ?_)
      replace hf := zn_s hf e_
      clear e_
      refine va_put (pc := 45) (D := D) (ci := 3) (v := .int x_6) (ty := .int) (C := RX1) (T := TX1) (N := 8) hx hb hts hcX1 tyX1 tyX1_ok nmX1 hown hK hP hD hS 0 rfl rfl 6 (by decide) hw0 (fun _ h9 => h9) rfl (by decide +kernel) rfl rfl (Nat.le_of_ble_eq_true rfl) (zdt_at zt_X1_watchWindow_0 26 rfl) ?_
      clear hP hD hS
      intro H locs hP hD hS
      replace hP : va_P D vwCl ([(h0, .inr (3, [.ref h0_kept, .int c_count, .int c_healthy, .int c_last, .int c_row, .int c_first_1, .int x_6, .int c_timesInWindow_2]))]) H := hP
      replace hD : va_D A ([(h0, .inr (3, [.ref h0_kept, .int c_count, .int c_healthy, .int c_last, .int c_row, .int c_first_1, .int x_6, .int c_timesInWindow_2]))]) := hD
      cases hf
      exact W.vret (pc := 48) hx hb hr (fun t ht hW => ⟨rfl, ⟨by rw [ht]; exact hP, hD⟩, hS.F ht⟩) hS.2.2 (zdt_at zt_X1_watchWindow_0 27 rfl)
    replace hf := zt_s cn_ hf
    clear cn_
    refine lv_aload_n (pc := 25) hx hb (zdt_at zt_X1_watchWindow_0 13 rfl) rfl (lv_at hl 0 rfl) ?_
    refine lv_dup (pc := 26) hx hb (zdt_at zt_X1_watchWindow_0 14 rfl) rfl ?_
    refine va_get (pc := 27) (D := D) (ci := 3) (v := .int c_timesInWindow_2) (C := RX1) (T := TX1) (N := 8) hx hb hts hcX1 hown hK hP 0 rfl rfl 7 (by decide) hw2 (fun _ h9 => h9) rfl (zdt_at zt_X1_watchWindow_0 15 rfl) ?_
    refine lv_iconst (pc := 30) (v := (1 : Int32)) hx hb (zdt_at zt_X1_watchWindow_0 16 rfl) (by decide) ?_
    refine lv_iadd (pc := 31) hx hb (zdt_at zt_X1_watchWindow_0 17 rfl) ?_
    refine lv_topi (fun x_7 e_ => ?_)
    replace hf := zn_s hf e_
    clear e_
    refine va_put (pc := 32) (D := D) (ci := 3) (v := .int x_7) (ty := .int) (C := RX1) (T := TX1) (N := 8) hx hb hts hcX1 tyX1 tyX1_ok nmX1 hown hK hP hD hS 0 rfl rfl 7 (by decide) hw2 (fun _ h9 => h9) rfl (by decide +kernel) rfl rfl (Nat.le_of_ble_eq_true rfl) (zdt_at zt_X1_watchWindow_0 18 rfl) ?_
    clear hP hD hS
    intro H locs hP hD hS
    replace hP : va_P D vwCl ([(h0, .inr (3, [.ref h0_kept, .int c_count, .int c_healthy, .int c_last, .int c_row, .int c_first_1, .int c_placeInWindow, .int x_7]))]) H := hP
    replace hD : va_D A ([(h0, .inr (3, [.ref h0_kept, .int c_count, .int c_healthy, .int c_last, .int c_row, .int c_first_1, .int c_placeInWindow, .int x_7]))]) := hD
    refine lv_aload_n (pc := 35) hx hb (zdt_at zt_X1_watchWindow_0 19 rfl) rfl (lv_at hl 0 rfl) ?_
    refine lv_aload_n (pc := 36) hx hb (zdt_at zt_X1_watchWindow_0 20 rfl) rfl (lv_at hl 0 rfl) ?_
    refine va_get (pc := 37) (D := D) (ci := 3) (v := .int c_placeInWindow) (C := RX1) (T := TX1) (N := 8) hx hb hts hcX1 hown hK hP 0 rfl rfl 6 (by decide) hw0 (fun _ h9 => h9) rfl (zdt_at zt_X1_watchWindow_0 21 rfl) ?_
    refine lv_iconst (pc := 40) (v := (1 : Int32)) hx hb (zdt_at zt_X1_watchWindow_0 22 rfl) (by decide) ?_
    refine lv_iadd (pc := 41) hx hb (zdt_at zt_X1_watchWindow_0 23 rfl) ?_
    refine lv_bipush (pc := 42) (v := (16 : Int32)) hx hb (zdt_at zt_X1_watchWindow_0 24 rfl) (by decide) ?_
    replace hf := zk_s hf
    refine lv_irem (pc := 44) hx hb (zdt_at zt_X1_watchWindow_0 25 rfl) hf.1 ?_
    replace hf := hf.2
    refine lv_topi (fun x_8 e_ => ?_)
    replace hf := zn_s hf e_
    clear e_
    refine va_put (pc := 45) (D := D) (ci := 3) (v := .int x_8) (ty := .int) (C := RX1) (T := TX1) (N := 8) hx hb hts hcX1 tyX1 tyX1_ok nmX1 hown hK hP hD hS 0 rfl rfl 6 (by decide) hw0 (fun _ h9 => h9) rfl (by decide +kernel) rfl rfl (Nat.le_of_ble_eq_true rfl) (zdt_at zt_X1_watchWindow_0 26 rfl) ?_
    clear hP hD hS
    intro H locs hP hD hS
    replace hP : va_P D vwCl ([(h0, .inr (3, [.ref h0_kept, .int c_count, .int c_healthy, .int c_last, .int c_row, .int c_first_1, .int x_8, .int x_7]))]) H := hP
    replace hD : va_D A ([(h0, .inr (3, [.ref h0_kept, .int c_count, .int c_healthy, .int c_last, .int c_row, .int c_first_1, .int x_8, .int x_7]))]) := hD
    cases hf
    exact W.vret (pc := 48) hx hb hr (fun t ht hW => ⟨rfl, ⟨by rw [ht]; exact hP, hD⟩, hS.F ht⟩) hS.2.2 (zdt_at zt_X1_watchWindow_0 27 rfl)
  clear eK_3
  refine lv_if_ne (pc := 4) (tgt := 17) hx hb (zdt_at zt_X1_watchWindow_0 2 rfl) (by decide) (fun cn_ => ?t_9) (fun cn_ => ?f_10)
  case t_9 =>
    replace hf := ze_s cn_ hf
    clear cn_
    exact hTo _ _ _ (kK_3 _ _ H locs ls hP hD hS (lv_sub hl [0, 1] rfl) hf)
  replace hf := zt_s cn_ hf
  clear cn_
  refine lv_aload_n (pc := 7) hx hb (zdt_at zt_X1_watchWindow_0 3 rfl) rfl (lv_at hl 0 rfl) ?_
  refine lv_iload_n (pc := 8) hx hb (zdt_at zt_X1_watchWindow_0 4 rfl) rfl (lv_at hl 1 rfl) ?_
  refine va_put (pc := 9) (D := D) (ci := 3) (v := .int p1) (ty := .int) (C := RX1) (T := TX1) (N := 8) hx hb hts hcX1 tyX1 tyX1_ok nmX1 hown hK hP hD hS 0 rfl rfl 5 (by decide) hw1 (fun _ h9 => h9) rfl (by decide +kernel) rfl rfl (Nat.le_of_ble_eq_true rfl) (zdt_at zt_X1_watchWindow_0 5 rfl) ?_
  clear hP hD hS
  intro H locs hP hD hS
  replace hP : va_P D vwCl ([(h0, .inr (3, [.ref h0_kept, .int c_count, .int c_healthy, .int c_last, .int c_row, .int p1, .int c_placeInWindow, .int c_timesInWindow]))]) H := hP
  replace hD : va_D A ([(h0, .inr (3, [.ref h0_kept, .int c_count, .int c_healthy, .int c_last, .int c_row, .int p1, .int c_placeInWindow, .int c_timesInWindow]))]) := hD
  refine lv_aload_n (pc := 12) hx hb (zdt_at zt_X1_watchWindow_0 6 rfl) rfl (lv_at hl 0 rfl) ?_
  refine lv_iconst (pc := 13) (v := (0 : Int32)) hx hb (zdt_at zt_X1_watchWindow_0 7 rfl) (by decide) ?_
  refine va_put (pc := 14) (D := D) (ci := 3) (v := .int (0 : Int32)) (ty := .int) (C := RX1) (T := TX1) (N := 8) hx hb hts hcX1 tyX1 tyX1_ok nmX1 hown hK hP hD hS 0 rfl rfl 7 (by decide) hw2 (fun _ h9 => h9) rfl (by decide +kernel) rfl rfl (Nat.le_of_ble_eq_true rfl) (zdt_at zt_X1_watchWindow_0 8 rfl) ?_
  clear hP hD hS
  intro H locs hP hD hS
  replace hP : va_P D vwCl ([(h0, .inr (3, [.ref h0_kept, .int c_count, .int c_healthy, .int c_last, .int c_row, .int p1, .int c_placeInWindow, .int (0 : Int32)]))]) H := hP
  replace hD : va_D A ([(h0, .inr (3, [.ref h0_kept, .int c_count, .int c_healthy, .int c_last, .int c_row, .int p1, .int c_placeInWindow, .int (0 : Int32)]))]) := hD
  exact hTo _ _ _ (kK_3 _ _ H locs ls hP hD hS (lv_sub hl [0, 1] rfl) hf)
set_option maxHeartbeats 4000000 in
set_option maxRecDepth 100000 in
theorem c_X1_accepts (l : Launch) (D : va_G) (cy : Nat → ClassId) (tt : Nat → Nat) (sz : Nat) (h0 : Nat) (h0_kept : Nat) (p1 : Int32) (c_count : Int32) (c_first : Int32) (c_healthy : Int32) (c_last : Int32) (c_placeInWindow : Int32) (c_row : Int32) (c_timesInWindow : Int32) (c_kept : Nat → Int32) (r_ : Int32) (c_count' : Int32) (c_first' : Int32) (c_healthy' : Int32) (c_last' : Int32) (c_placeInWindow' : Int32) (c_row' : Int32) (c_timesInWindow' : Int32) (c_kept' : Nat → Int32) (hf : f_X1_accepts p1 c_count c_first c_healthy c_last c_placeInWindow c_row c_timesInWindow c_kept = some (r_, c_count', c_first', c_healthy', c_last', c_placeInWindow', c_row', c_timesInWindow', c_kept')) : Met l yX1_accepts wsX1_accepts ({ frames := 1, cells := 0, slots := 0, locals := 21 }) (zPc D cy tt sz [.ref h0, .int p1] ([(h0, .inr (3, [.ref h0_kept, .int c_count, .int c_healthy, .int c_last, .int c_row, .int c_first, .int c_placeInWindow, .int c_timesInWindow])), (h0_kept, .inl (cy 1, 64, .inl c_kept))])) (zQ D (some (.int r_)) ([(h0, .inr (3, [.ref h0_kept, .int c_count', .int c_healthy', .int c_last', .int c_row', .int c_first', .int c_placeInWindow', .int c_timesInWindow'])), (h0_kept, .inl (cy 1, 64, .inl c_kept'))]) (va_A ([(h0, .inr (3, [.ref h0_kept, .int c_count, .int c_healthy, .int c_last, .int c_row, .int c_first, .int c_placeInWindow, .int c_timesInWindow])), (h0_kept, .inl (cy 1, 64, .inl c_kept))]) sz)) 0 0 (va_A ([(h0, .inr (3, [.ref h0_kept, .int c_count, .int c_healthy, .int c_last, .int c_row, .int c_first, .int c_placeInWindow, .int c_timesInWindow])), (h0_kept, .inl (cy 1, 64, .inl c_kept))]) sz) := by
  refine Met.ofW (cc := cX1_accepts) (maxL := 2) (ret := (some .boolean)) (by decide) rfl ?_
  intro p e s m args below meth c s₁ B hml hv
  obtain ⟨rfl, rfl, hP, hD0, hE⟩ := hv
  have hx := B.exec
  have hb := B.bytes
  have hr := B.returns
  have hts := atoms_spec (ws := wsX1_accepts) B.pre
  have hown : s.vm.findClass RX1 = some m.cls := findClass_of_methodNamed B.named
  have hlocks := B.notSynchronized
  clear B
  have hD := hD0.self (sz := s.heap.size)
  generalize hAe : va_A ([(h0, .inr (3, [.ref h0_kept, .int c_count, .int c_healthy, .int c_last, .int c_row, .int c_first, .int c_placeInWindow, .int c_timesInWindow])), (h0_kept, .inl (cy 1, 64, .inl c_kept))]) s.heap.size = A at hD hE ⊢
  have hA : ∀ q : Nat, s.heap.size ≤ q → A q := fun q h => by rw [← hAe]; exact Or.inr h
  clear hAe hD0
  have hS : va_S A s.heap s.heap [] := va_S.rf
  have hK := hE.1
  have hw0 := hts (.fieldLink RX1 17 "SealedModule$Entropy" "healthy" "Z") (by decide +kernel)
  have hw1 := hts (.fieldLink RX1 24 "SealedModule$Entropy" "row" "I") (by decide +kernel)
  have hw2 := hts (.fieldLink RX1 33 "SealedModule$Entropy" "timesInWindow" "I") (by decide +kernel)
  have hw3 := hts (.fieldLink RX1 13 "SealedModule$Entropy" "count" "I") (by decide +kernel)
  have hw4 := hts (.fieldLink RX1 9 "SealedModule$Entropy" "kept" "[I") (by decide +kernel)
  have hcX1 : ∀ w ∈ u_ws RX1 TX1 8, w ∈ wsX1_accepts := (fun _ h => List.mem_cons_of_mem _ (List.mem_append_right _ h))
  have hl := lv_entry ([.ref h0, .int p1]) (n := 2) (Nat.le_of_ble_eq_true rfl)
  rw [lg_entry_eq]
  generalize (lg_sl ([.ref h0, .int p1]) ++ List.replicate (2 - (lg_sl ([.ref h0, .int p1])).length) Slot.unset).toArray = ls at hl ⊢
  replace hl : lv_has ls 2 [(0, .ref h0), (1, .int p1)] := hl
  unfold f_X1_accepts at hf
  refine zgo (fun GW hTo hFr => ?_)
  refine hFr _ _ _ ?_
  obtain ⟨H, hHe⟩ : ∃ H, H = s.heap := ⟨_, rfl⟩
  obtain ⟨locs, hLe⟩ : ∃ L : List Loc, L = [] := ⟨_, rfl⟩
  rw [← hHe] at hP
  replace hS : va_S A s.heap H locs := by rw [hHe, hLe]; exact hS
  refine zat hHe.symm hLe.symm ?_
  clear hHe hLe
  refine lv_aload_n (pc := 0) hx hb (zdt_at zt_X1_accepts_0 0 rfl) rfl (lv_at hl 0 rfl) ?_
  refine va_get (pc := 1) (D := D) (ci := 3) (v := .int c_healthy) (C := RX1) (T := TX1) (N := 8) hx hb hts hcX1 hown hK hP 0 rfl rfl 2 (by decide) hw0 (fun _ h9 => h9) rfl (zdt_at zt_X1_accepts_0 1 rfl) ?_
  refine lv_if_ne (pc := 4) (tgt := 9) hx hb (zdt_at zt_X1_accepts_0 2 rfl) (by decide) (fun cn_ => ?t_1) (fun cn_ => ?f_2)
  case f_2 =>
    replace hf := zt_s cn_ hf
    clear cn_
    refine lv_iconst (pc := 7) (v := (0 : Int32)) hx hb (zdt_at zt_X1_accepts_0 3 rfl) (by decide) ?_
    cases hf
    exact W.zret (pc := 8) hx hb hr rfl (fun t ht hW => ⟨rfl, ⟨by rw [ht]; exact hP, hD⟩, hS.F ht⟩) hS.2.2 (zdt_at zt_X1_accepts_0 4 rfl)
  replace hf := ze_s cn_ hf
  clear cn_
  refine lv_aload_n (pc := 9) hx hb (zdt_at zt_X1_accepts_0 5 rfl) rfl (lv_at hl 0 rfl) ?_
  refine lv_iload_n (pc := 10) hx hb (zdt_at zt_X1_accepts_0 6 rfl) rfl (lv_at hl 1 rfl) ?_
  replace hf := zb_s hf
  obtain ⟨⟨c_last_3, c_row_4⟩, hc_, hf⟩ := hf
  refine zcn2 (pc := 11) (rv := none) (va_runV (As := [.int p1]) (rest := []) ⟨hx, hb, hml, hown, hts⟩ (c_X1_watchRow l D cy tt H.size h0 h0_kept p1 c_last c_row c_count c_healthy c_first c_placeInWindow c_timesInWindow c_last_3 c_row_4 hc_) (cwV 1 hts gX1_accepts_X1_watchRow rfl rfl rfl (by decide +kernel) ⟨Nat.le_of_ble_eq_true rfl, Nat.le_of_ble_eq_true rfl⟩) ⟨zblind, va_recv hK hP (ci := 3) (q0 := 0) rfl rfl, zpre hE hS (hP.sub [0] rfl) (hD.sub [0] (by decide) rfl) (va_free hD hS hA [0] rfl)⟩ rfl rfl hl.1 rfl (lv_room (Nat.le_of_ble_eq_true rfl)) (zdt_at zt_X1_accepts_0 7 rfl) ⟨Nat.zero_le _, Nat.zero_le _⟩) hS hP hD (va_free hD hS hA [0] rfl) [0] rfl (by decide) rfl ?_
  clear hP hD hS hc_
  intro H locs hP hD hS
  replace hP : va_P D vwCl ([(h0, .inr (3, [.ref h0_kept, .int c_count, .int c_healthy, .int c_last_3, .int c_row_4, .int c_first, .int c_placeInWindow, .int c_timesInWindow])), (h0_kept, .inl (cy 1, 64, .inl c_kept))]) H := hP
  replace hD : va_D A ([(h0, .inr (3, [.ref h0_kept, .int c_count, .int c_healthy, .int c_last_3, .int c_row_4, .int c_first, .int c_placeInWindow, .int c_timesInWindow])), (h0_kept, .inl (cy 1, 64, .inl c_kept))]) := hD
  refine W.eq (g2 := F0 m 14 ls []) rfl ?_
  refine lv_aload_n (pc := 14) hx hb (zdt_at zt_X1_accepts_0 8 rfl) rfl (lv_at hl 0 rfl) ?_
  refine lv_iload_n (pc := 15) hx hb (zdt_at zt_X1_accepts_0 9 rfl) rfl (lv_at hl 1 rfl) ?_
  replace hf := zb_s hf
  obtain ⟨⟨c_first_5, c_placeInWindow_6, c_timesInWindow_7⟩, hc_, hf⟩ := hf
  refine zcn2 (pc := 16) (rv := none) (va_runV (As := [.int p1]) (rest := []) ⟨hx, hb, hml, hown, hts⟩ (c_X1_watchWindow l D cy tt H.size h0 h0_kept p1 c_first c_placeInWindow c_timesInWindow c_count c_healthy c_last_3 c_row_4 c_first_5 c_placeInWindow_6 c_timesInWindow_7 hc_) (cwV 1 hts gX1_accepts_X1_watchWindow rfl rfl rfl (by decide +kernel) ⟨Nat.le_of_ble_eq_true rfl, Nat.le_of_ble_eq_true rfl⟩) ⟨zblind, va_recv hK hP (ci := 3) (q0 := 0) rfl rfl, zpre hE hS (hP.sub [0] rfl) (hD.sub [0] (by decide) rfl) (va_free hD hS hA [0] rfl)⟩ rfl rfl hl.1 rfl (lv_room (Nat.le_of_ble_eq_true rfl)) (zdt_at zt_X1_accepts_0 10 rfl) ⟨Nat.zero_le _, Nat.zero_le _⟩) hS hP hD (va_free hD hS hA [0] rfl) [0] rfl (by decide) rfl ?_
  clear hP hD hS hc_
  intro H locs hP hD hS
  replace hP : va_P D vwCl ([(h0, .inr (3, [.ref h0_kept, .int c_count, .int c_healthy, .int c_last_3, .int c_row_4, .int c_first_5, .int c_placeInWindow_6, .int c_timesInWindow_7])), (h0_kept, .inl (cy 1, 64, .inl c_kept))]) H := hP
  replace hD : va_D A ([(h0, .inr (3, [.ref h0_kept, .int c_count, .int c_healthy, .int c_last_3, .int c_row_4, .int c_first_5, .int c_placeInWindow_6, .int c_timesInWindow_7])), (h0_kept, .inl (cy 1, 64, .inl c_kept))]) := hD
  refine W.eq (g2 := F0 m 19 ls []) rfl ?_
  refine lv_aload_n (pc := 19) hx hb (zdt_at zt_X1_accepts_0 11 rfl) rfl (lv_at hl 0 rfl) ?_
  refine va_get (pc := 20) (D := D) (ci := 3) (v := .int c_row_4) (C := RX1) (T := TX1) (N := 8) hx hb hts hcX1 hown hK hP 0 rfl rfl 4 (by decide) hw1 (fun _ h9 => h9) rfl (zdt_at zt_X1_accepts_0 12 rfl) ?_
  refine lv_iconst (pc := 23) (v := (4 : Int32)) hx hb (zdt_at zt_X1_accepts_0 13 rfl) (by decide) ?_
  refine lv_icmp_ge (pc := 24) (tgt := 36) hx hb (zdt_at zt_X1_accepts_0 14 rfl) (by decide) (fun cn_ => ?t_8) (fun cn_ => ?f_9)
  case t_8 =>
    replace hf := zt_s cn_ hf
    clear cn_
    refine lv_aload_n (pc := 36) hx hb (zdt_at zt_X1_accepts_0 19 rfl) rfl (lv_at hl 0 rfl) ?_
    refine lv_iconst (pc := 37) (v := (0 : Int32)) hx hb (zdt_at zt_X1_accepts_0 20 rfl) (by decide) ?_
    refine va_put (pc := 38) (D := D) (ci := 3) (v := .int (0 : Int32)) (ty := .boolean) (C := RX1) (T := TX1) (N := 8) hx hb hts hcX1 tyX1 tyX1_ok nmX1 hown hK hP hD hS 0 rfl rfl 2 (by decide) hw0 (fun _ h9 => h9) rfl (by decide +kernel) (by first | rfl | decide) (by first | rfl | decide) (Nat.le_of_ble_eq_true rfl) (zdt_at zt_X1_accepts_0 21 rfl) ?_
    clear hP hD hS
    intro H locs hP hD hS
    replace hP : va_P D vwCl ([(h0, .inr (3, [.ref h0_kept, .int c_count, .int (0 : Int32), .int c_last_3, .int c_row_4, .int c_first_5, .int c_placeInWindow_6, .int c_timesInWindow_7])), (h0_kept, .inl (cy 1, 64, .inl c_kept))]) H := hP
    replace hD : va_D A ([(h0, .inr (3, [.ref h0_kept, .int c_count, .int (0 : Int32), .int c_last_3, .int c_row_4, .int c_first_5, .int c_placeInWindow_6, .int c_timesInWindow_7])), (h0_kept, .inl (cy 1, 64, .inl c_kept))]) := hD
    refine lv_iconst (pc := 41) (v := (0 : Int32)) hx hb (zdt_at zt_X1_accepts_0 22 rfl) (by decide) ?_
    cases hf
    exact W.zret (pc := 42) hx hb hr rfl (fun t ht hW => ⟨rfl, ⟨by rw [ht]; exact hP, hD⟩, hS.F ht⟩) hS.2.2 (zdt_at zt_X1_accepts_0 23 rfl)
  replace hf := ze_s cn_ hf
  clear cn_
  refine lv_aload_n (pc := 27) hx hb (zdt_at zt_X1_accepts_0 15 rfl) rfl (lv_at hl 0 rfl) ?_
  refine va_get (pc := 28) (D := D) (ci := 3) (v := .int c_timesInWindow_7) (C := RX1) (T := TX1) (N := 8) hx hb hts hcX1 hown hK hP 0 rfl rfl 7 (by decide) hw2 (fun _ h9 => h9) rfl (zdt_at zt_X1_accepts_0 16 rfl) ?_
  refine lv_bipush (pc := 31) (v := (6 : Int32)) hx hb (zdt_at zt_X1_accepts_0 17 rfl) (by decide) ?_
  refine lv_icmp_lt (pc := 33) (tgt := 43) hx hb (zdt_at zt_X1_accepts_0 18 rfl) (by decide) (fun cn_ => ?t_10) (fun cn_ => ?f_11)
  case f_11 =>
    replace hf := ze_s cn_ hf
    clear cn_
    refine lv_aload_n (pc := 36) hx hb (zdt_at zt_X1_accepts_0 19 rfl) rfl (lv_at hl 0 rfl) ?_
    refine lv_iconst (pc := 37) (v := (0 : Int32)) hx hb (zdt_at zt_X1_accepts_0 20 rfl) (by decide) ?_
    refine va_put (pc := 38) (D := D) (ci := 3) (v := .int (0 : Int32)) (ty := .boolean) (C := RX1) (T := TX1) (N := 8) hx hb hts hcX1 tyX1 tyX1_ok nmX1 hown hK hP hD hS 0 rfl rfl 2 (by decide) hw0 (fun _ h9 => h9) rfl (by decide +kernel) (by first | rfl | decide) (by first | rfl | decide) (Nat.le_of_ble_eq_true rfl) (zdt_at zt_X1_accepts_0 21 rfl) ?_
    clear hP hD hS
    intro H locs hP hD hS
    replace hP : va_P D vwCl ([(h0, .inr (3, [.ref h0_kept, .int c_count, .int (0 : Int32), .int c_last_3, .int c_row_4, .int c_first_5, .int c_placeInWindow_6, .int c_timesInWindow_7])), (h0_kept, .inl (cy 1, 64, .inl c_kept))]) H := hP
    replace hD : va_D A ([(h0, .inr (3, [.ref h0_kept, .int c_count, .int (0 : Int32), .int c_last_3, .int c_row_4, .int c_first_5, .int c_placeInWindow_6, .int c_timesInWindow_7])), (h0_kept, .inl (cy 1, 64, .inl c_kept))]) := hD
    refine lv_iconst (pc := 41) (v := (0 : Int32)) hx hb (zdt_at zt_X1_accepts_0 22 rfl) (by decide) ?_
    cases hf
    exact W.zret (pc := 42) hx hb hr rfl (fun t ht hW => ⟨rfl, ⟨by rw [ht]; exact hP, hD⟩, hS.F ht⟩) hS.2.2 (zdt_at zt_X1_accepts_0 23 rfl)
  replace hf := zt_s cn_ hf
  clear cn_
  refine lv_aload_n (pc := 43) hx hb (zdt_at zt_X1_accepts_0 24 rfl) rfl (lv_at hl 0 rfl) ?_
  refine va_get (pc := 44) (D := D) (ci := 3) (v := .int c_count) (C := RX1) (T := TX1) (N := 8) hx hb hts hcX1 hown hK hP 0 rfl rfl 1 (by decide) hw3 (fun _ h9 => h9) rfl (zdt_at zt_X1_accepts_0 25 rfl) ?_
  refine lv_bipush (pc := 47) (v := (64 : Int32)) hx hb (zdt_at zt_X1_accepts_0 26 rfl) (by decide) ?_
  refine lv_icmp_ge (pc := 49) (tgt := 72) hx hb (zdt_at zt_X1_accepts_0 27 rfl) (by decide) (fun cn_ => ?t_12) (fun cn_ => ?f_13)
  case t_12 =>
    replace hf := zt_s cn_ hf
    clear cn_
    refine lv_iconst (pc := 72) (v := (1 : Int32)) hx hb (zdt_at zt_X1_accepts_0 40 rfl) (by decide) ?_
    cases hf
    exact W.zret (pc := 73) hx hb hr rfl (fun t ht hW => ⟨rfl, ⟨by rw [ht]; exact hP, hD⟩, hS.F ht⟩) hS.2.2 (zdt_at zt_X1_accepts_0 41 rfl)
  replace hf := ze_s cn_ hf
  clear cn_
  refine lv_aload_n (pc := 52) hx hb (zdt_at zt_X1_accepts_0 28 rfl) rfl (lv_at hl 0 rfl) ?_
  refine va_get (pc := 53) (D := D) (ci := 3) (v := .ref h0_kept) (C := RX1) (T := TX1) (N := 8) hx hb hts hcX1 hown hK hP 0 rfl rfl 0 (by decide) hw4 (fun _ h9 => h9) rfl (zdt_at zt_X1_accepts_0 29 rfl) ?_
  refine lv_aload_n (pc := 56) hx hb (zdt_at zt_X1_accepts_0 30 rfl) rfl (lv_at hl 0 rfl) ?_
  refine va_get (pc := 57) (D := D) (ci := 3) (v := .int c_count) (C := RX1) (T := TX1) (N := 8) hx hb hts hcX1 hown hK hP 0 rfl rfl 1 (by decide) hw3 (fun _ h9 => h9) rfl (zdt_at zt_X1_accepts_0 31 rfl) ?_
  refine lv_iload_n (pc := 60) hx hb (zdt_at zt_X1_accepts_0 32 rfl) rfl (lv_at hl 1 rfl) ?_
  replace hf := zk_s hf
  refine va_iast (pc := 61) hx hb hK hP hD hS 1 1 rfl rfl hf.1 (zdt_at zt_X1_accepts_0 33 rfl) ?_
  replace hf := hf.2
  clear hP hD hS
  intro H locs hP hD hS
  obtain ⟨c_kept_14, e_⟩ : ∃ q : Nat → Int32, q = (upd c_kept c_count.toNatClampNeg p1) := ⟨_, rfl⟩
  replace hf := zn_s hf e_
  replace hP : va_P D vwCl ([(h0, .inr (3, [.ref h0_kept, .int c_count, .int c_healthy, .int c_last_3, .int c_row_4, .int c_first_5, .int c_placeInWindow_6, .int c_timesInWindow_7])), (h0_kept, .inl (cy 1, 64, .inl c_kept_14))]) H := by rw [e_]; exact hP
  replace hD : va_D A ([(h0, .inr (3, [.ref h0_kept, .int c_count, .int c_healthy, .int c_last_3, .int c_row_4, .int c_first_5, .int c_placeInWindow_6, .int c_timesInWindow_7])), (h0_kept, .inl (cy 1, 64, .inl c_kept_14))]) := by rw [e_]; exact hD
  clear e_
  refine lv_aload_n (pc := 62) hx hb (zdt_at zt_X1_accepts_0 34 rfl) rfl (lv_at hl 0 rfl) ?_
  refine lv_dup (pc := 63) hx hb (zdt_at zt_X1_accepts_0 35 rfl) rfl ?_
  refine va_get (pc := 64) (D := D) (ci := 3) (v := .int c_count) (C := RX1) (T := TX1) (N := 8) hx hb hts hcX1 hown hK hP 0 rfl rfl 1 (by decide) hw3 (fun _ h9 => h9) rfl (zdt_at zt_X1_accepts_0 36 rfl) ?_
  refine lv_iconst (pc := 67) (v := (1 : Int32)) hx hb (zdt_at zt_X1_accepts_0 37 rfl) (by decide) ?_
  refine lv_iadd (pc := 68) hx hb (zdt_at zt_X1_accepts_0 38 rfl) ?_
  refine lv_topi (fun x_15 e_ => ?_)
  replace hf := zn_s hf e_
  clear e_
  refine va_put (pc := 69) (D := D) (ci := 3) (v := .int x_15) (ty := .int) (C := RX1) (T := TX1) (N := 8) hx hb hts hcX1 tyX1 tyX1_ok nmX1 hown hK hP hD hS 0 rfl rfl 1 (by decide) hw3 (fun _ h9 => h9) rfl (by decide +kernel) rfl rfl (Nat.le_of_ble_eq_true rfl) (zdt_at zt_X1_accepts_0 39 rfl) ?_
  clear hP hD hS
  intro H locs hP hD hS
  replace hP : va_P D vwCl ([(h0, .inr (3, [.ref h0_kept, .int x_15, .int c_healthy, .int c_last_3, .int c_row_4, .int c_first_5, .int c_placeInWindow_6, .int c_timesInWindow_7])), (h0_kept, .inl (cy 1, 64, .inl c_kept_14))]) H := hP
  replace hD : va_D A ([(h0, .inr (3, [.ref h0_kept, .int x_15, .int c_healthy, .int c_last_3, .int c_row_4, .int c_first_5, .int c_placeInWindow_6, .int c_timesInWindow_7])), (h0_kept, .inl (cy 1, 64, .inl c_kept_14))]) := hD
  refine lv_iconst (pc := 72) (v := (1 : Int32)) hx hb (zdt_at zt_X1_accepts_0 40 rfl) (by decide) ?_
  cases hf
  exact W.zret (pc := 73) hx hb hr rfl (fun t ht hW => ⟨rfl, ⟨by rw [ht]; exact hP, hD⟩, hS.F ht⟩) hS.2.2 (zdt_at zt_X1_accepts_0 41 rfl)
set_option maxHeartbeats 4000000 in
set_option maxRecDepth 100000 in
theorem c_X1_canGive (l : Launch) (D : va_G) (cy : Nat → ClassId) (tt : Nat → Nat) (sz : Nat) (h0 : Nat) (h0_kept : Nat) (p1 : Int32) (c_count : Int32) (c_healthy : Int32) (c_last : Int32) (c_row : Int32) (c_first : Int32) (c_placeInWindow : Int32) (c_timesInWindow : Int32) (r_ : Int32) (hf : f_X1_canGive p1 c_count c_healthy = some r_) : Met l yX1_canGive wsX1_canGive ({ frames := 0, cells := 0, slots := 0, locals := 0 }) (zPc D cy tt sz [.ref h0, .int p1] ([(h0, .inr (3, [.ref h0_kept, .int c_count, .int c_healthy, .int c_last, .int c_row, .int c_first, .int c_placeInWindow, .int c_timesInWindow]))])) (fun _ st o t => o = .returned (some (.int r_)) ∧ t.heap = st.heap) 0 0 (fun _ => False) := by
  refine Met.ofW (cc := cX1_canGive) (maxL := 2) (ret := (some .boolean)) (by decide) rfl ?_
  intro p e s m args below meth c s₁ B hml hv
  obtain ⟨rfl, rfl, hP, hD0, hE⟩ := hv
  have hx := B.exec
  have hb := B.bytes
  have hr := B.returns
  have hts := atoms_spec (ws := wsX1_canGive) B.pre
  have hown : s.vm.findClass RX1 = some m.cls := findClass_of_methodNamed B.named
  have hlocks := B.notSynchronized
  clear B
  have hD := hD0.self (sz := s.heap.size)
  generalize hAe : va_A ([(h0, .inr (3, [.ref h0_kept, .int c_count, .int c_healthy, .int c_last, .int c_row, .int c_first, .int c_placeInWindow, .int c_timesInWindow]))]) s.heap.size = A at hD hE
  have hA : ∀ q : Nat, s.heap.size ≤ q → A q := fun q h => by rw [← hAe]; exact Or.inr h
  clear hAe hD0
  have hS : va_S A s.heap s.heap [] := va_S.rf
  have hK := hE.1
  have hw0 := hts (.fieldLink RX1 17 "SealedModule$Entropy" "healthy" "Z") (by decide +kernel)
  have hw1 := hts (.fieldLink RX1 13 "SealedModule$Entropy" "count" "I") (by decide +kernel)
  have hcX1 : ∀ w ∈ u_ws RX1 TX1 8, w ∈ wsX1_canGive := (fun _ h => List.mem_cons_of_mem _ (List.mem_append_right _ h))
  have hl := lv_entry ([.ref h0, .int p1]) (n := 2) (Nat.le_of_ble_eq_true rfl)
  rw [lg_entry_eq]
  generalize (lg_sl ([.ref h0, .int p1]) ++ List.replicate (2 - (lg_sl ([.ref h0, .int p1])).length) Slot.unset).toArray = ls at hl ⊢
  replace hl : lv_has ls 2 [(0, .ref h0), (1, .int p1)] := hl
  unfold f_X1_canGive at hf
  refine zgo (fun GW hTo hFr => ?_)
  refine hFr _ _ _ ?_
  refine lv_aload_n (pc := 0) hx hb (zdt_at zt_X1_canGive_0 0 rfl) rfl (lv_at hl 0 rfl) ?_
  refine va_get (pc := 1) (D := D) (ci := 3) (v := .int c_healthy) (C := RX1) (T := TX1) (N := 8) hx hb hts hcX1 hown hK hP 0 rfl rfl 2 (by decide) hw0 (fun _ h9 => h9) rfl (zdt_at zt_X1_canGive_0 1 rfl) ?_
  refine lv_if_eq (pc := 4) (tgt := 19) hx hb (zdt_at zt_X1_canGive_0 2 rfl) (by decide) (fun cn_ => ?t_1) (fun cn_ => ?f_2)
  case t_1 =>
    replace hf := zt_s cn_ hf
    clear cn_
    refine lv_iconst (pc := 19) (v := (0 : Int32)) hx hb (zdt_at zt_X1_canGive_0 9 rfl) (by decide) ?_
    cases hf
    exact W.zret (pc := 20) hx hb hr rfl (fun t ht hW => ⟨rfl, ht⟩) (fun _ h => nomatch h) (zdt_at zt_X1_canGive_0 10 rfl)
  replace hf := ze_s cn_ hf
  clear cn_
  refine lv_aload_n (pc := 7) hx hb (zdt_at zt_X1_canGive_0 3 rfl) rfl (lv_at hl 0 rfl) ?_
  refine va_get (pc := 8) (D := D) (ci := 3) (v := .int c_count) (C := RX1) (T := TX1) (N := 8) hx hb hts hcX1 hown hK hP 0 rfl rfl 1 (by decide) hw1 (fun _ h9 => h9) rfl (zdt_at zt_X1_canGive_0 4 rfl) ?_
  refine lv_iload_n (pc := 11) hx hb (zdt_at zt_X1_canGive_0 5 rfl) rfl (lv_at hl 1 rfl) ?_
  refine lv_icmp_lt (pc := 12) (tgt := 19) hx hb (zdt_at zt_X1_canGive_0 6 rfl) (by decide) (fun cn_ => ?t_3) (fun cn_ => ?f_4)
  case t_3 =>
    replace hf := zt_s cn_ hf
    clear cn_
    refine lv_iconst (pc := 19) (v := (0 : Int32)) hx hb (zdt_at zt_X1_canGive_0 9 rfl) (by decide) ?_
    cases hf
    exact W.zret (pc := 20) hx hb hr rfl (fun t ht hW => ⟨rfl, ht⟩) (fun _ h => nomatch h) (zdt_at zt_X1_canGive_0 10 rfl)
  replace hf := ze_s cn_ hf
  clear cn_
  refine lv_iconst (pc := 15) (v := (1 : Int32)) hx hb (zdt_at zt_X1_canGive_0 7 rfl) (by decide) ?_
  refine lv_goto (pc := 16) (tgt := 20) hx hb (zdt_at zt_X1_canGive_0 8 rfl) (by decide) ?_
  cases hf
  exact W.zret (pc := 20) hx hb hr rfl (fun t ht hW => ⟨rfl, ht⟩) (fun _ h => nomatch h) (zdt_at zt_X1_canGive_0 10 rfl)
set_option maxHeartbeats 4000000 in
set_option maxRecDepth 100000 in
theorem c_X1_give (l : Launch) (D : va_G) (cy : Nat → ClassId) (tt : Nat → Nat) (sz : Nat) (h0 : Nat) (h0_kept : Nat) (ha2 : Nat) (n_a2 : Nat) (p1 : Int32) (c_count : Int32) (c_kept : Nat → Int32) (ca2 : Nat → Int32) (c_healthy : Int32) (c_last : Int32) (c_row : Int32) (c_first : Int32) (c_placeInWindow : Int32) (c_timesInWindow : Int32) (c_count' : Int32) (c_kept' : Nat → Int32) (ca2' : Nat → Int32) (hf : f_X1_give n_a2 p1 c_count c_kept ca2 = some (c_count', c_kept', ca2')) : Met l yX1_give wsX1_give ({ frames := 1, cells := 0, slots := 0, locals := 22 }) (zPc D cy tt sz [.ref h0, .int p1, .ref ha2] ([(h0, .inr (3, [.ref h0_kept, .int c_count, .int c_healthy, .int c_last, .int c_row, .int c_first, .int c_placeInWindow, .int c_timesInWindow])), (h0_kept, .inl (cy 1, 64, .inl c_kept)), (ha2, .inl (cy 0, n_a2, .inl ca2))])) (zQ D none ([(h0, .inr (3, [.ref h0_kept, .int c_count', .int c_healthy, .int c_last, .int c_row, .int c_first, .int c_placeInWindow, .int c_timesInWindow])), (h0_kept, .inl (cy 1, 64, .inl c_kept')), (ha2, .inl (cy 0, n_a2, .inl ca2'))]) (va_A ([(h0, .inr (3, [.ref h0_kept, .int c_count, .int c_healthy, .int c_last, .int c_row, .int c_first, .int c_placeInWindow, .int c_timesInWindow])), (h0_kept, .inl (cy 1, 64, .inl c_kept)), (ha2, .inl (cy 0, n_a2, .inl ca2))]) sz)) 0 0 (va_A ([(h0, .inr (3, [.ref h0_kept, .int c_count, .int c_healthy, .int c_last, .int c_row, .int c_first, .int c_placeInWindow, .int c_timesInWindow])), (h0_kept, .inl (cy 1, 64, .inl c_kept)), (ha2, .inl (cy 0, n_a2, .inl ca2))]) sz) := by
  refine Met.ofW (cc := cX1_give) (maxL := 4) (ret := none) (by decide) rfl ?_
  intro p e s m args below meth c s₁ B hml hv
  obtain ⟨rfl, rfl, hP, hD0, hE⟩ := hv
  have hx := B.exec
  have hb := B.bytes
  have hr := B.returns
  have hts := atoms_spec (ws := wsX1_give) B.pre
  have hown : s.vm.findClass RX1 = some m.cls := findClass_of_methodNamed B.named
  have hlocks := B.notSynchronized
  clear B
  have hD := hD0.self (sz := s.heap.size)
  generalize hAe : va_A ([(h0, .inr (3, [.ref h0_kept, .int c_count, .int c_healthy, .int c_last, .int c_row, .int c_first, .int c_placeInWindow, .int c_timesInWindow])), (h0_kept, .inl (cy 1, 64, .inl c_kept)), (ha2, .inl (cy 0, n_a2, .inl ca2))]) s.heap.size = A at hD hE ⊢
  have hA : ∀ q : Nat, s.heap.size ≤ q → A q := fun q h => by rw [← hAe]; exact Or.inr h
  clear hAe hD0
  have hS : va_S A s.heap s.heap [] := va_S.rf
  have hK := hE.1
  have hw0 := hts (.fieldLink RX1 13 "SealedModule$Entropy" "count" "I") (by decide +kernel)
  have hw1 := hts (.fieldLink RX1 9 "SealedModule$Entropy" "kept" "[I") (by decide +kernel)
  have hw2 := hts (.initialized RX9) (by decide +kernel)
  have hw3 := hts (.static yX9_putInt) (by decide +kernel)
  have hcX1 : ∀ w ∈ u_ws RX1 TX1 8, w ∈ wsX1_give := (fun _ h => List.mem_cons_of_mem _ (List.mem_append_right _ h))
  have hl := lv_entry ([.ref h0, .int p1, .ref ha2]) (n := 4) (Nat.le_of_ble_eq_true rfl)
  rw [lg_entry_eq]
  generalize (lg_sl ([.ref h0, .int p1, .ref ha2]) ++ List.replicate (4 - (lg_sl ([.ref h0, .int p1, .ref ha2])).length) Slot.unset).toArray = ls at hl ⊢
  replace hl : lv_has ls 4 [(0, .ref h0), (1, .int p1), (2, .ref ha2)] := hl
  unfold f_X1_give at hf
  refine zgo (fun GW hTo hFr => ?_)
  refine hFr _ _ _ ?_
  obtain ⟨H, hHe⟩ : ∃ H, H = s.heap := ⟨_, rfl⟩
  obtain ⟨locs, hLe⟩ : ∃ L : List Loc, L = [] := ⟨_, rfl⟩
  rw [← hHe] at hP
  replace hS : va_S A s.heap H locs := by rw [hHe, hLe]; exact hS
  refine zat hHe.symm hLe.symm ?_
  clear hHe hLe
  refine lv_iconst (pc := 0) (v := (0 : Int32)) hx hb (zdt_at zt_X1_give_0 0 rfl) (by decide) ?_
  refine lv_istore_n (pc := 1) (lv' := [(3, .int (0 : Int32)), (0, .ref h0), (1, .int p1), (2, .ref ha2)]) hx hb (zdt_at zt_X1_give_0 1 rfl) rfl hl (by decide) rfl ?_
  clear hl
  intro ls hl
  replace hf := zj_s hf
  obtain ⟨K_4, eK_4, hf⟩ := hf
  have kK_4 : ∀ (ca2_3 : Nat → Int32) (H : Heap) (locs : List Loc) (ls : Array Slot), va_P D vwCl ([(h0, .inr (3, [.ref h0_kept, .int c_count, .int c_healthy, .int c_last, .int c_row, .int c_first, .int c_placeInWindow, .int c_timesInWindow])), (h0_kept, .inl (cy 1, 64, .inl c_kept)), (ha2, .inl (cy 0, n_a2, .inl ca2_3))]) H → va_D A ([(h0, .inr (3, [.ref h0_kept, .int c_count, .int c_healthy, .int c_last, .int c_row, .int c_first, .int c_placeInWindow, .int c_timesInWindow])), (h0_kept, .inl (cy 1, 64, .inl c_kept)), (ha2, .inl (cy 0, n_a2, .inl ca2_3))]) → va_S A s.heap H locs → lv_has ls 4 [(0, .ref h0), (1, .int p1)] → K_4 ca2_3 = some (c_count', c_kept', ca2') → GW H locs (F0 m 26 ls []) := by
    clear hf hl hP hD hS
    intro ca2_3 H locs ls hP hD hS hl hf
    rw [eK_4] at hf
    clear eK_4
    refine hFr _ _ _ ?_
    refine lv_iload_n (pc := 26) hx hb (zdt_at zt_X1_give_0 16 rfl) rfl (lv_at hl 1 rfl) ?_
    refine lv_istore_n (pc := 27) (lv' := [(3, .int p1), (0, .ref h0), (1, .int p1)]) hx hb (zdt_at zt_X1_give_0 17 rfl) rfl hl (by decide) rfl ?_
    clear hl
    intro ls hl
    replace hf := zj_s hf
    obtain ⟨K_8, eK_8, hf⟩ := hf
    have kK_8 : ∀ (c_kept_7 : Nat → Int32) (H : Heap) (locs : List Loc) (ls : Array Slot), va_P D vwCl ([(h0, .inr (3, [.ref h0_kept, .int c_count, .int c_healthy, .int c_last, .int c_row, .int c_first, .int c_placeInWindow, .int c_timesInWindow])), (h0_kept, .inl (cy 1, 64, .inl c_kept_7)), (ha2, .inl (cy 0, n_a2, .inl ca2_3))]) H → va_D A ([(h0, .inr (3, [.ref h0_kept, .int c_count, .int c_healthy, .int c_last, .int c_row, .int c_first, .int c_placeInWindow, .int c_timesInWindow])), (h0_kept, .inl (cy 1, 64, .inl c_kept_7)), (ha2, .inl (cy 0, n_a2, .inl ca2_3))]) → va_S A s.heap H locs → lv_has ls 4 [(0, .ref h0), (1, .int p1)] → K_8 c_kept_7 = some (c_count', c_kept', ca2') → GW H locs (F0 m 56 ls []) := by
      clear hf hl hP hD hS
      intro c_kept_7 H locs ls hP hD hS hl hf
      rw [eK_8] at hf
      clear eK_8
      refine hFr _ _ _ ?_
      refine lv_aload_n (pc := 56) hx hb (zdt_at zt_X1_give_0 34 rfl) rfl (lv_at hl 0 rfl) ?_
      refine lv_dup (pc := 57) hx hb (zdt_at zt_X1_give_0 35 rfl) rfl ?_
      refine va_get (pc := 58) (D := D) (ci := 3) (v := .int c_count) (C := RX1) (T := TX1) (N := 8) hx hb hts hcX1 hown hK hP 0 rfl rfl 1 (by decide) hw0 (fun _ h9 => h9) rfl (zdt_at zt_X1_give_0 36 rfl) ?_
      refine lv_iload_n (pc := 61) hx hb (zdt_at zt_X1_give_0 37 rfl) rfl (lv_at hl 1 rfl) ?_
      refine lv_isub (pc := 62) hx hb (zdt_at zt_X1_give_0 38 rfl) ?_
      refine lv_topi (fun x_9 e_ => ?_)
      replace hf := zn_s hf e_
      clear e_
      refine va_put (pc := 63) (D := D) (ci := 3) (v := .int x_9) (ty := .int) (C := RX1) (T := TX1) (N := 8) hx hb hts hcX1 tyX1 tyX1_ok nmX1 hown hK hP hD hS 0 rfl rfl 1 (by decide) hw0 (fun _ h9 => h9) rfl (by decide +kernel) rfl rfl (Nat.le_of_ble_eq_true rfl) (zdt_at zt_X1_give_0 39 rfl) ?_
      clear hP hD hS
      intro H locs hP hD hS
      replace hP : va_P D vwCl ([(h0, .inr (3, [.ref h0_kept, .int x_9, .int c_healthy, .int c_last, .int c_row, .int c_first, .int c_placeInWindow, .int c_timesInWindow])), (h0_kept, .inl (cy 1, 64, .inl c_kept_7)), (ha2, .inl (cy 0, n_a2, .inl ca2_3))]) H := hP
      replace hD : va_D A ([(h0, .inr (3, [.ref h0_kept, .int x_9, .int c_healthy, .int c_last, .int c_row, .int c_first, .int c_placeInWindow, .int c_timesInWindow])), (h0_kept, .inl (cy 1, 64, .inl c_kept_7)), (ha2, .inl (cy 0, n_a2, .inl ca2_3))]) := hD
      cases hf
      exact W.vret (pc := 66) hx hb hr (fun t ht hW => ⟨rfl, ⟨by rw [ht]; exact hP, hD⟩, hS.F ht⟩) hS.2.2 (zdt_at zt_X1_give_0 40 rfl)
    clear eK_8
    refine hTo _ _ _ (zl_go (fun z => match z with | (i_5, c_kept_6) => ∀ (H : Heap) (locs : List Loc) (ls : Array Slot), va_P D vwCl ([(h0, .inr (3, [.ref h0_kept, .int c_count, .int c_healthy, .int c_last, .int c_row, .int c_first, .int c_placeInWindow, .int c_timesInWindow])), (h0_kept, .inl (cy 1, 64, .inl c_kept_6)), (ha2, .inl (cy 0, n_a2, .inl ca2_3))]) H → va_D A ([(h0, .inr (3, [.ref h0_kept, .int c_count, .int c_healthy, .int c_last, .int c_row, .int c_first, .int c_placeInWindow, .int c_timesInWindow])), (h0_kept, .inl (cy 1, 64, .inl c_kept_6)), (ha2, .inl (cy 0, n_a2, .inl ca2_3))]) → va_S A s.heap H locs → lv_has ls 4 [(0, .ref h0), (1, .int p1), (3, .int i_5)] → GW H locs (F0 m 28 ls [])) hf ?_ H locs ls hP hD hS (lv_sub hl [1, 2, 0] rfl))
    clear hf hl hP hD hS
    intro self_10 ihself_10 z hf
    obtain ⟨i_5, c_kept_6⟩ := z
    intro H locs ls hP hD hS hl
    refine hFr _ _ _ ?_
    unfold b_X1_give_28 at hf
    refine lv_iload_n (pc := 28) hx hb (zdt_at zt_X1_give_0 18 rfl) rfl (lv_at hl 2 rfl) ?_
    refine lv_aload_n (pc := 29) hx hb (zdt_at zt_X1_give_0 19 rfl) rfl (lv_at hl 0 rfl) ?_
    refine va_get (pc := 30) (D := D) (ci := 3) (v := .int c_count) (C := RX1) (T := TX1) (N := 8) hx hb hts hcX1 hown hK hP 0 rfl rfl 1 (by decide) hw0 (fun _ h9 => h9) rfl (zdt_at zt_X1_give_0 20 rfl) ?_
    refine lv_icmp_ge (pc := 33) (tgt := 56) hx hb (zdt_at zt_X1_give_0 21 rfl) (by decide) (fun cn_ => ?t_11) (fun cn_ => ?f_12)
    case t_11 =>
      replace hf := zt_s cn_ hf
      clear cn_
      exact hTo _ _ _ (kK_8 _ H locs ls hP hD hS (lv_sub hl [0, 1] rfl) hf)
    replace hf := ze_s cn_ hf
    clear cn_
    refine lv_aload_n (pc := 36) hx hb (zdt_at zt_X1_give_0 22 rfl) rfl (lv_at hl 0 rfl) ?_
    refine va_get (pc := 37) (D := D) (ci := 3) (v := .ref h0_kept) (C := RX1) (T := TX1) (N := 8) hx hb hts hcX1 hown hK hP 0 rfl rfl 0 (by decide) hw1 (fun _ h9 => h9) rfl (zdt_at zt_X1_give_0 23 rfl) ?_
    refine lv_iload_n (pc := 40) hx hb (zdt_at zt_X1_give_0 24 rfl) rfl (lv_at hl 2 rfl) ?_
    refine lv_iload_n (pc := 41) hx hb (zdt_at zt_X1_give_0 25 rfl) rfl (lv_at hl 1 rfl) ?_
    refine lv_isub (pc := 42) hx hb (zdt_at zt_X1_give_0 26 rfl) ?_
    refine lv_aload_n (pc := 43) hx hb (zdt_at zt_X1_give_0 27 rfl) rfl (lv_at hl 0 rfl) ?_
    refine va_get (pc := 44) (D := D) (ci := 3) (v := .ref h0_kept) (C := RX1) (T := TX1) (N := 8) hx hb hts hcX1 hown hK hP 0 rfl rfl 0 (by decide) hw1 (fun _ h9 => h9) rfl (zdt_at zt_X1_give_0 28 rfl) ?_
    refine lv_iload_n (pc := 47) hx hb (zdt_at zt_X1_give_0 29 rfl) rfl (lv_at hl 2 rfl) ?_
    replace hf := zk_s hf
    refine va_iald (pc := 48) hx hb hK hP 1 1 rfl rfl hf.1 (zdt_at zt_X1_give_0 30 rfl) ?_
    replace hf := hf.2
    replace hf := zk_s hf
    refine va_iast (pc := 49) hx hb hK hP hD hS 1 1 rfl rfl hf.1 (zdt_at zt_X1_give_0 31 rfl) ?_
    replace hf := hf.2
    clear hP hD hS
    intro H locs hP hD hS
    obtain ⟨c_kept_13, e_⟩ : ∃ q : Nat → Int32, q = (upd c_kept_6 (i_5 - p1).toNatClampNeg (c_kept_6 i_5.toNatClampNeg)) := ⟨_, rfl⟩
    replace hf := zn_s hf e_
    replace hP : va_P D vwCl ([(h0, .inr (3, [.ref h0_kept, .int c_count, .int c_healthy, .int c_last, .int c_row, .int c_first, .int c_placeInWindow, .int c_timesInWindow])), (h0_kept, .inl (cy 1, 64, .inl c_kept_13)), (ha2, .inl (cy 0, n_a2, .inl ca2_3))]) H := by rw [e_]; exact hP
    replace hD : va_D A ([(h0, .inr (3, [.ref h0_kept, .int c_count, .int c_healthy, .int c_last, .int c_row, .int c_first, .int c_placeInWindow, .int c_timesInWindow])), (h0_kept, .inl (cy 1, 64, .inl c_kept_13)), (ha2, .inl (cy 0, n_a2, .inl ca2_3))]) := by rw [e_]; exact hD
    clear e_
    refine lv_iinc (pc := 50) (v := (i_5 + (1 : Int32))) (lv' := [(3, .int (i_5 + (1 : Int32))), (0, .ref h0), (1, .int p1)]) hx hb (zdt_at zt_X1_give_0 32 rfl) hl (k := 2) rfl rfl (by decide) rfl ?_
    clear hl
    intro ls hl
    refine lv_goto (pc := 53) (tgt := 28) hx hb (zdt_at zt_X1_give_0 33 rfl) (by decide) ?_
    exact hTo _ _ _ (ihself_10 _ hf H locs ls hP hD hS (lv_sub hl [1, 2, 0] rfl))
  clear eK_4
  refine hTo _ _ _ (zl_go (fun z => match z with | (i_1, ca2_2) => ∀ (H : Heap) (locs : List Loc) (ls : Array Slot), va_P D vwCl ([(h0, .inr (3, [.ref h0_kept, .int c_count, .int c_healthy, .int c_last, .int c_row, .int c_first, .int c_placeInWindow, .int c_timesInWindow])), (h0_kept, .inl (cy 1, 64, .inl c_kept)), (ha2, .inl (cy 0, n_a2, .inl ca2_2))]) H → va_D A ([(h0, .inr (3, [.ref h0_kept, .int c_count, .int c_healthy, .int c_last, .int c_row, .int c_first, .int c_placeInWindow, .int c_timesInWindow])), (h0_kept, .inl (cy 1, 64, .inl c_kept)), (ha2, .inl (cy 0, n_a2, .inl ca2_2))]) → va_S A s.heap H locs → lv_has ls 4 [(0, .ref h0), (1, .int p1), (2, .ref ha2), (3, .int i_1)] → GW H locs (F0 m 2 ls [])) hf ?_ H locs ls hP hD hS (lv_sub hl [1, 2, 3, 0] rfl))
  clear hf hl hP hD hS
  intro self_14 ihself_14 z hf
  obtain ⟨i_1, ca2_2⟩ := z
  intro H locs ls hP hD hS hl
  refine hFr _ _ _ ?_
  unfold b_X1_give_2 at hf
  refine lv_iload_n (pc := 2) hx hb (zdt_at zt_X1_give_0 2 rfl) rfl (lv_at hl 3 rfl) ?_
  refine lv_iload_n (pc := 3) hx hb (zdt_at zt_X1_give_0 3 rfl) rfl (lv_at hl 1 rfl) ?_
  refine lv_icmp_ge (pc := 4) (tgt := 26) hx hb (zdt_at zt_X1_give_0 4 rfl) (by decide) (fun cn_ => ?t_15) (fun cn_ => ?f_16)
  case t_15 =>
    replace hf := zt_s cn_ hf
    clear cn_
    exact hTo _ _ _ (kK_4 _ H locs ls hP hD hS (lv_sub hl [0, 1] rfl) hf)
  replace hf := ze_s cn_ hf
  clear cn_
  refine lv_aload_n (pc := 7) hx hb (zdt_at zt_X1_give_0 5 rfl) rfl (lv_at hl 2 rfl) ?_
  refine lv_iconst (pc := 8) (v := (4 : Int32)) hx hb (zdt_at zt_X1_give_0 6 rfl) (by decide) ?_
  refine lv_iload_n (pc := 9) hx hb (zdt_at zt_X1_give_0 7 rfl) rfl (lv_at hl 3 rfl) ?_
  refine lv_imul (pc := 10) hx hb (zdt_at zt_X1_give_0 8 rfl) ?_
  refine lv_aload_n (pc := 11) hx hb (zdt_at zt_X1_give_0 9 rfl) rfl (lv_at hl 0 rfl) ?_
  refine va_get (pc := 12) (D := D) (ci := 3) (v := .ref h0_kept) (C := RX1) (T := TX1) (N := 8) hx hb hts hcX1 hown hK hP 0 rfl rfl 0 (by decide) hw1 (fun _ h9 => h9) rfl (zdt_at zt_X1_give_0 10 rfl) ?_
  refine lv_iload_n (pc := 15) hx hb (zdt_at zt_X1_give_0 11 rfl) rfl (lv_at hl 3 rfl) ?_
  replace hf := zk_s hf
  refine va_iald (pc := 16) hx hb hK hP 1 1 rfl rfl hf.1 (zdt_at zt_X1_give_0 12 rfl) ?_
  replace hf := hf.2
  replace hf := zb_s hf
  obtain ⟨ca2_17, hc_, hf⟩ := hf
  refine zcn2 (pc := 17) (rv := none) (va_runSN (As := [.ref ha2, .int ((4 : Int32) * i_1), .int (c_kept i_1.toNatClampNeg)]) (rest := []) ⟨hx, hb, hml, hown, hts⟩ (c_X9_putInt l D cy tt H.size ha2 n_a2 ((4 : Int32) * i_1) (c_kept i_1.toNatClampNeg) ca2_2 ca2_17 hc_) ⟨va_cnB 3 hts gX1_give_X9_putInt_n52 rfl rfl rfl (gNs_2 hE.2.1) hw2 (by decide +kernel) ⟨Nat.le_of_ble_eq_true rfl, Nat.le_of_ble_eq_true rfl⟩, hw3, trivial⟩ ⟨zblind, zpre hE hS (hP.sub [2] rfl) (hD.sub [2] (by decide) rfl) (va_free hD hS hA [2] rfl)⟩ rfl rfl hl.1 rfl (lv_room (Nat.le_of_ble_eq_true rfl)) (zdt_at zt_X1_give_0 13 rfl) ⟨Nat.zero_le _, Nat.zero_le _⟩) hS hP hD (va_free hD hS hA [2] rfl) [2] rfl (by decide) rfl ?_
  clear hP hD hS hc_
  intro H locs hP hD hS
  replace hP : va_P D vwCl ([(h0, .inr (3, [.ref h0_kept, .int c_count, .int c_healthy, .int c_last, .int c_row, .int c_first, .int c_placeInWindow, .int c_timesInWindow])), (h0_kept, .inl (cy 1, 64, .inl c_kept)), (ha2, .inl (cy 0, n_a2, .inl ca2_17))]) H := hP
  replace hD : va_D A ([(h0, .inr (3, [.ref h0_kept, .int c_count, .int c_healthy, .int c_last, .int c_row, .int c_first, .int c_placeInWindow, .int c_timesInWindow])), (h0_kept, .inl (cy 1, 64, .inl c_kept)), (ha2, .inl (cy 0, n_a2, .inl ca2_17))]) := hD
  refine W.eq (g2 := F0 m 20 ls []) rfl ?_
  refine lv_iinc (pc := 20) (v := (i_1 + (1 : Int32))) (lv' := [(3, .int (i_1 + (1 : Int32))), (0, .ref h0), (1, .int p1), (2, .ref ha2)]) hx hb (zdt_at zt_X1_give_0 14 rfl) hl (k := 3) rfl rfl (by decide) rfl ?_
  clear hl
  intro ls hl
  refine lv_goto (pc := 23) (tgt := 2) hx hb (zdt_at zt_X1_give_0 15 rfl) (by decide) ?_
  exact hTo _ _ _ (ihself_14 _ hf H locs ls hP hD hS (lv_sub hl [1, 2, 3, 0] rfl))
set_option maxHeartbeats 4000000 in
set_option maxRecDepth 100000 in
theorem c_X5_opens (l : Launch) (D : va_G) (cy : Nat → ClassId) (tt : Nat → Nat) (sz : Nat) (h0 : Nat) (p1 : Int32) (c_number : Int32) (c_tries : Int32) (r_ : Int32) (c_tries' : Int32) (hf : f_X5_opens p1 c_number c_tries = some (r_, c_tries')) : Met l yX5_opens wsX5_opens ({ frames := 0, cells := 0, slots := 0, locals := 0 }) (zPc D cy tt sz [.ref h0, .int p1] ([(h0, .inr (7, [.int c_number, .int c_tries]))])) (zQ D (some (.int r_)) ([(h0, .inr (7, [.int c_number, .int c_tries']))]) (va_A ([(h0, .inr (7, [.int c_number, .int c_tries]))]) sz)) 0 0 (va_A ([(h0, .inr (7, [.int c_number, .int c_tries]))]) sz) := by
  refine Met.ofW (cc := cX5_opens) (maxL := 2) (ret := (some .boolean)) (by decide) rfl ?_
  intro p e s m args below meth c s₁ B hml hv
  obtain ⟨rfl, rfl, hP, hD0, hE⟩ := hv
  have hx := B.exec
  have hb := B.bytes
  have hr := B.returns
  have hts := atoms_spec (ws := wsX5_opens) B.pre
  have hown : s.vm.findClass RX5 = some m.cls := findClass_of_methodNamed B.named
  have hlocks := B.notSynchronized
  clear B
  have hD := hD0.self (sz := s.heap.size)
  generalize hAe : va_A ([(h0, .inr (7, [.int c_number, .int c_tries]))]) s.heap.size = A at hD hE ⊢
  have hA : ∀ q : Nat, s.heap.size ≤ q → A q := fun q h => by rw [← hAe]; exact Or.inr h
  clear hAe hD0
  have hS : va_S A s.heap s.heap [] := va_S.rf
  have hK := hE.1
  have hw0 := hts (.fieldLink RX5 7 "SealedModule$Pin" "tries" "I") (by decide +kernel)
  have hw1 := hts (.fieldLink RX5 13 "SealedModule$Pin" "number" "I") (by decide +kernel)
  have hcX5 : ∀ w ∈ u_ws RX5 TX5 2, w ∈ wsX5_opens := (fun _ h => List.mem_cons_of_mem _ (List.mem_append_right _ h))
  have hl := lv_entry ([.ref h0, .int p1]) (n := 2) (Nat.le_of_ble_eq_true rfl)
  rw [lg_entry_eq]
  generalize (lg_sl ([.ref h0, .int p1]) ++ List.replicate (2 - (lg_sl ([.ref h0, .int p1])).length) Slot.unset).toArray = ls at hl ⊢
  replace hl : lv_has ls 2 [(0, .ref h0), (1, .int p1)] := hl
  unfold f_X5_opens at hf
  refine zgo (fun GW hTo hFr => ?_)
  refine hFr _ _ _ ?_
  obtain ⟨H, hHe⟩ : ∃ H, H = s.heap := ⟨_, rfl⟩
  obtain ⟨locs, hLe⟩ : ∃ L : List Loc, L = [] := ⟨_, rfl⟩
  rw [← hHe] at hP
  replace hS : va_S A s.heap H locs := by rw [hHe, hLe]; exact hS
  refine zat hHe.symm hLe.symm ?_
  clear hHe hLe
  refine lv_aload_n (pc := 0) hx hb (zdt_at zt_X5_opens_0 0 rfl) rfl (lv_at hl 0 rfl) ?_
  refine va_get (pc := 1) (D := D) (ci := 7) (v := .int c_tries) (C := RX5) (T := TX5) (N := 2) hx hb hts hcX5 hown hK hP 0 rfl rfl 1 (by decide) hw0 (fun _ h9 => h9) rfl (zdt_at zt_X5_opens_0 1 rfl) ?_
  refine lv_iconst (pc := 4) (v := (3 : Int32)) hx hb (zdt_at zt_X5_opens_0 2 rfl) (by decide) ?_
  refine lv_icmp_ne (pc := 5) (tgt := 10) hx hb (zdt_at zt_X5_opens_0 3 rfl) (by decide) (fun cn_ => ?t_1) (fun cn_ => ?f_2)
  case f_2 =>
    replace hf := zt_s cn_ hf
    clear cn_
    refine lv_iconst (pc := 8) (v := (0 : Int32)) hx hb (zdt_at zt_X5_opens_0 4 rfl) (by decide) ?_
    cases hf
    exact W.zret (pc := 9) hx hb hr rfl (fun t ht hW => ⟨rfl, ⟨by rw [ht]; exact hP, hD⟩, hS.F ht⟩) hS.2.2 (zdt_at zt_X5_opens_0 5 rfl)
  replace hf := ze_s cn_ hf
  clear cn_
  refine lv_aload_n (pc := 10) hx hb (zdt_at zt_X5_opens_0 6 rfl) rfl (lv_at hl 0 rfl) ?_
  refine lv_iload_n (pc := 11) hx hb (zdt_at zt_X5_opens_0 7 rfl) rfl (lv_at hl 1 rfl) ?_
  refine lv_aload_n (pc := 12) hx hb (zdt_at zt_X5_opens_0 8 rfl) rfl (lv_at hl 0 rfl) ?_
  refine va_get (pc := 13) (D := D) (ci := 7) (v := .int c_number) (C := RX5) (T := TX5) (N := 2) hx hb hts hcX5 hown hK hP 0 rfl rfl 0 (by decide) hw1 (fun _ h9 => h9) rfl (zdt_at zt_X5_opens_0 9 rfl) ?_
  refine lv_icmp_ne (pc := 16) (tgt := 23) hx hb (zdt_at zt_X5_opens_0 10 rfl) (by decide) (fun cn_ => ?t_3) (fun cn_ => ?f_4)
  case f_4 =>
    replace hf := zt_s cn_ hf
    clear cn_
    refine lv_iconst (pc := 19) (v := (0 : Int32)) hx hb (zdt_at zt_X5_opens_0 11 rfl) (by decide) ?_
    refine lv_goto (pc := 20) (tgt := 29) hx hb (zdt_at zt_X5_opens_0 12 rfl) (by decide) ?_
    refine va_put (pc := 29) (D := D) (ci := 7) (v := .int (0 : Int32)) (ty := .int) (C := RX5) (T := TX5) (N := 2) hx hb hts hcX5 tyX5 tyX5_ok nmX5 hown hK hP hD hS 0 rfl rfl 1 (by decide) hw0 (fun _ h9 => h9) rfl (by decide +kernel) rfl rfl (Nat.le_of_ble_eq_true rfl) (zdt_at zt_X5_opens_0 17 rfl) ?_
    clear hP hD hS
    intro H locs hP hD hS
    replace hP : va_P D vwCl ([(h0, .inr (7, [.int c_number, .int (0 : Int32)]))]) H := hP
    replace hD : va_D A ([(h0, .inr (7, [.int c_number, .int (0 : Int32)]))]) := hD
    refine lv_iload_n (pc := 32) hx hb (zdt_at zt_X5_opens_0 18 rfl) rfl (lv_at hl 1 rfl) ?_
    refine lv_aload_n (pc := 33) hx hb (zdt_at zt_X5_opens_0 19 rfl) rfl (lv_at hl 0 rfl) ?_
    refine va_get (pc := 34) (D := D) (ci := 7) (v := .int c_number) (C := RX5) (T := TX5) (N := 2) hx hb hts hcX5 hown hK hP 0 rfl rfl 0 (by decide) hw1 (fun _ h9 => h9) rfl (zdt_at zt_X5_opens_0 20 rfl) ?_
    refine lv_icmp_ne (pc := 37) (tgt := 44) hx hb (zdt_at zt_X5_opens_0 21 rfl) (by decide) (fun cn_ => ?t_8) (fun cn_ => ?f_9)
    case t_8 =>
      replace hf := ze_s cn_ hf
      clear cn_
      refine lv_iconst (pc := 44) (v := (0 : Int32)) hx hb (zdt_at zt_X5_opens_0 24 rfl) (by decide) ?_
      cases hf
      exact W.zret (pc := 45) hx hb hr rfl (fun t ht hW => ⟨rfl, ⟨by rw [ht]; exact hP, hD⟩, hS.F ht⟩) hS.2.2 (zdt_at zt_X5_opens_0 25 rfl)
    replace hf := zt_s cn_ hf
    clear cn_
    refine lv_iconst (pc := 40) (v := (1 : Int32)) hx hb (zdt_at zt_X5_opens_0 22 rfl) (by decide) ?_
    refine lv_goto (pc := 41) (tgt := 45) hx hb (zdt_at zt_X5_opens_0 23 rfl) (by decide) ?_
    cases hf
    exact W.zret (pc := 45) hx hb hr rfl (fun t ht hW => ⟨rfl, ⟨by rw [ht]; exact hP, hD⟩, hS.F ht⟩) hS.2.2 (zdt_at zt_X5_opens_0 25 rfl)
  replace hf := ze_s cn_ hf
  clear cn_
  refine lv_aload_n (pc := 23) hx hb (zdt_at zt_X5_opens_0 13 rfl) rfl (lv_at hl 0 rfl) ?_
  refine va_get (pc := 24) (D := D) (ci := 7) (v := .int c_tries) (C := RX5) (T := TX5) (N := 2) hx hb hts hcX5 hown hK hP 0 rfl rfl 1 (by decide) hw0 (fun _ h9 => h9) rfl (zdt_at zt_X5_opens_0 14 rfl) ?_
  refine lv_iconst (pc := 27) (v := (1 : Int32)) hx hb (zdt_at zt_X5_opens_0 15 rfl) (by decide) ?_
  refine lv_iadd (pc := 28) hx hb (zdt_at zt_X5_opens_0 16 rfl) ?_
  refine lv_topi (fun x_5 e_ => ?_)
  replace hf := zn_s hf e_
  clear e_
  refine va_put (pc := 29) (D := D) (ci := 7) (v := .int x_5) (ty := .int) (C := RX5) (T := TX5) (N := 2) hx hb hts hcX5 tyX5 tyX5_ok nmX5 hown hK hP hD hS 0 rfl rfl 1 (by decide) hw0 (fun _ h9 => h9) rfl (by decide +kernel) rfl rfl (Nat.le_of_ble_eq_true rfl) (zdt_at zt_X5_opens_0 17 rfl) ?_
  clear hP hD hS
  intro H locs hP hD hS
  replace hP : va_P D vwCl ([(h0, .inr (7, [.int c_number, .int x_5]))]) H := hP
  replace hD : va_D A ([(h0, .inr (7, [.int c_number, .int x_5]))]) := hD
  refine lv_iload_n (pc := 32) hx hb (zdt_at zt_X5_opens_0 18 rfl) rfl (lv_at hl 1 rfl) ?_
  refine lv_aload_n (pc := 33) hx hb (zdt_at zt_X5_opens_0 19 rfl) rfl (lv_at hl 0 rfl) ?_
  refine va_get (pc := 34) (D := D) (ci := 7) (v := .int c_number) (C := RX5) (T := TX5) (N := 2) hx hb hts hcX5 hown hK hP 0 rfl rfl 0 (by decide) hw1 (fun _ h9 => h9) rfl (zdt_at zt_X5_opens_0 20 rfl) ?_
  refine lv_icmp_ne (pc := 37) (tgt := 44) hx hb (zdt_at zt_X5_opens_0 21 rfl) (by decide) (fun cn_ => ?t_6) (fun cn_ => ?f_7)
  case t_6 =>
    replace hf := ze_s cn_ hf
    clear cn_
    refine lv_iconst (pc := 44) (v := (0 : Int32)) hx hb (zdt_at zt_X5_opens_0 24 rfl) (by decide) ?_
    cases hf
    exact W.zret (pc := 45) hx hb hr rfl (fun t ht hW => ⟨rfl, ⟨by rw [ht]; exact hP, hD⟩, hS.F ht⟩) hS.2.2 (zdt_at zt_X5_opens_0 25 rfl)
  replace hf := zt_s cn_ hf
  clear cn_
  refine lv_iconst (pc := 40) (v := (1 : Int32)) hx hb (zdt_at zt_X5_opens_0 22 rfl) (by decide) ?_
  refine lv_goto (pc := 41) (tgt := 45) hx hb (zdt_at zt_X5_opens_0 23 rfl) (by decide) ?_
  cases hf
  exact W.zret (pc := 45) hx hb hr rfl (fun t ht hW => ⟨rfl, ⟨by rw [ht]; exact hP, hD⟩, hS.F ht⟩) hS.2.2 (zdt_at zt_X5_opens_0 25 rfl)
set_option maxHeartbeats 4000000 in
set_option maxRecDepth 100000 in
theorem c_X5_renew (l : Launch) (D : va_G) (cy : Nat → ClassId) (tt : Nat → Nat) (sz : Nat) (h0 : Nat) (p1 : Int32) (c_number : Int32) (c_tries : Int32) (c_number' : Int32) (c_tries' : Int32) (hf : f_X5_renew p1 c_number c_tries = some (c_number', c_tries')) : Met l yX5_renew wsX5_renew ({ frames := 0, cells := 0, slots := 0, locals := 0 }) (zPc D cy tt sz [.ref h0, .int p1] ([(h0, .inr (7, [.int c_number, .int c_tries]))])) (zQ D none ([(h0, .inr (7, [.int c_number', .int c_tries']))]) (va_A ([(h0, .inr (7, [.int c_number, .int c_tries]))]) sz)) 0 0 (va_A ([(h0, .inr (7, [.int c_number, .int c_tries]))]) sz) := by
  refine Met.ofW (cc := cX5_renew) (maxL := 2) (ret := none) (by decide) rfl ?_
  intro p e s m args below meth c s₁ B hml hv
  obtain ⟨rfl, rfl, hP, hD0, hE⟩ := hv
  have hx := B.exec
  have hb := B.bytes
  have hr := B.returns
  have hts := atoms_spec (ws := wsX5_renew) B.pre
  have hown : s.vm.findClass RX5 = some m.cls := findClass_of_methodNamed B.named
  have hlocks := B.notSynchronized
  clear B
  have hD := hD0.self (sz := s.heap.size)
  generalize hAe : va_A ([(h0, .inr (7, [.int c_number, .int c_tries]))]) s.heap.size = A at hD hE ⊢
  have hA : ∀ q : Nat, s.heap.size ≤ q → A q := fun q h => by rw [← hAe]; exact Or.inr h
  clear hAe hD0
  have hS : va_S A s.heap s.heap [] := va_S.rf
  have hK := hE.1
  have hw0 := hts (.fieldLink RX5 13 "SealedModule$Pin" "number" "I") (by decide +kernel)
  have hw1 := hts (.fieldLink RX5 7 "SealedModule$Pin" "tries" "I") (by decide +kernel)
  have hcX5 : ∀ w ∈ u_ws RX5 TX5 2, w ∈ wsX5_renew := (fun _ h => List.mem_cons_of_mem _ (List.mem_append_right _ h))
  have hl := lv_entry ([.ref h0, .int p1]) (n := 2) (Nat.le_of_ble_eq_true rfl)
  rw [lg_entry_eq]
  generalize (lg_sl ([.ref h0, .int p1]) ++ List.replicate (2 - (lg_sl ([.ref h0, .int p1])).length) Slot.unset).toArray = ls at hl ⊢
  replace hl : lv_has ls 2 [(0, .ref h0), (1, .int p1)] := hl
  unfold f_X5_renew at hf
  refine zgo (fun GW hTo hFr => ?_)
  refine hFr _ _ _ ?_
  obtain ⟨H, hHe⟩ : ∃ H, H = s.heap := ⟨_, rfl⟩
  obtain ⟨locs, hLe⟩ : ∃ L : List Loc, L = [] := ⟨_, rfl⟩
  rw [← hHe] at hP
  replace hS : va_S A s.heap H locs := by rw [hHe, hLe]; exact hS
  refine zat hHe.symm hLe.symm ?_
  clear hHe hLe
  refine lv_aload_n (pc := 0) hx hb (zdt_at zt_X5_renew_0 0 rfl) rfl (lv_at hl 0 rfl) ?_
  refine lv_iload_n (pc := 1) hx hb (zdt_at zt_X5_renew_0 1 rfl) rfl (lv_at hl 1 rfl) ?_
  refine va_put (pc := 2) (D := D) (ci := 7) (v := .int p1) (ty := .int) (C := RX5) (T := TX5) (N := 2) hx hb hts hcX5 tyX5 tyX5_ok nmX5 hown hK hP hD hS 0 rfl rfl 0 (by decide) hw0 (fun _ h9 => h9) rfl (by decide +kernel) rfl rfl (Nat.le_of_ble_eq_true rfl) (zdt_at zt_X5_renew_0 2 rfl) ?_
  clear hP hD hS
  intro H locs hP hD hS
  replace hP : va_P D vwCl ([(h0, .inr (7, [.int p1, .int c_tries]))]) H := hP
  replace hD : va_D A ([(h0, .inr (7, [.int p1, .int c_tries]))]) := hD
  refine lv_aload_n (pc := 5) hx hb (zdt_at zt_X5_renew_0 3 rfl) rfl (lv_at hl 0 rfl) ?_
  refine lv_iconst (pc := 6) (v := (0 : Int32)) hx hb (zdt_at zt_X5_renew_0 4 rfl) (by decide) ?_
  refine va_put (pc := 7) (D := D) (ci := 7) (v := .int (0 : Int32)) (ty := .int) (C := RX5) (T := TX5) (N := 2) hx hb hts hcX5 tyX5 tyX5_ok nmX5 hown hK hP hD hS 0 rfl rfl 1 (by decide) hw1 (fun _ h9 => h9) rfl (by decide +kernel) rfl rfl (Nat.le_of_ble_eq_true rfl) (zdt_at zt_X5_renew_0 5 rfl) ?_
  clear hP hD hS
  intro H locs hP hD hS
  replace hP : va_P D vwCl ([(h0, .inr (7, [.int p1, .int (0 : Int32)]))]) H := hP
  replace hD : va_D A ([(h0, .inr (7, [.int p1, .int (0 : Int32)]))]) := hD
  cases hf
  exact W.vret (pc := 10) hx hb hr (fun t ht hW => ⟨rfl, ⟨by rw [ht]; exact hP, hD⟩, hS.F ht⟩) hS.2.2 (zdt_at zt_X5_renew_0 6 rfl)
