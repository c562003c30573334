set_option maxHeartbeats 4000000 in
set_option maxRecDepth 100000 in
theorem c_X10_hash (l : Launch) (D : va_G) (cy : Nat → ClassId) (tt : Nat → Nat) (sz : Nat) (h0 : Nat) (hm : Nat → Nat) (p1 : Int32) (p2 : Int32) (p3 : Int32) (c_state : Int32) (c_thrown : Int32) (c_total : Int64) (c_ROUND : Nat → Int32) (c_START : Nat → Int32) (c_buffer : Nat → Int32) (c_counters : Nat → Int32) (c_digest : Nat → Int32) (c_h : Nat → Int32) (c_message : Nat → Int32) (c_streamBlock : Nat → Int32) (c_streamHash : Nat → Int32) (c_taken : Nat → Int64) (c_w : Nat → Int32) (c_x : Nat → Int32) (c_test : Int32) (c_words : Int32) (c_ill : Int32) (c_before : Int32) (c_inRow : Int32) (c_first : Int32) (c_inWindow : Int32) (c_same : Int32) (c_made : Int32) (c_requests : Int32) (c_secrets : Int32) (c_rounds : Int32) (c_high : Int64) (c_low : Int64) (c_keyHigh : Int64) (c_keyLow : Int64) (r_ : Int32) (c_thrown' : Int32) (c_total' : Int64) (c_buffer' : Nat → Int32) (c_counters' : Nat → Int32) (c_digest' : Nat → Int32) (c_h' : Nat → Int32) (c_message' : Nat → Int32) (c_streamBlock' : Nat → Int32) (c_streamHash' : Nat → Int32) (c_taken' : Nat → Int64) (c_w' : Nat → Int32) (c_x' : Nat → Int32) (hf : f_X10_hash p1 p2 p3 c_state c_thrown c_total c_ROUND c_START c_buffer c_counters c_digest c_h c_message c_streamBlock c_streamHash c_taken c_w c_x = some (r_, c_thrown', c_total', c_buffer', c_counters', c_digest', c_h', c_message', c_streamBlock', c_streamHash', c_taken', c_w', c_x')) : Met l yX10_hash wsX10_hash ({ frames := 4, cells := 0, slots := 0, locals := 89 }) (zPc D cy tt sz [.ref h0, .int p1, .int p2, .int p3] ([(h0, .inr (12, zmo hm c_thrown c_state c_test c_words c_ill c_before c_inRow c_first c_inWindow c_same c_made c_requests c_total c_secrets c_rounds c_high c_low c_keyHigh c_keyLow)), ((hm 0), .inl (cy 1, 64, .inl c_ROUND)), ((hm 47), .inl (cy 1, 8, .inl c_START)), ((hm 6), .inl (cy 1, 512, .inl c_buffer)), ((hm 5), .inl (cy 1, 3, .inl c_counters)), ((hm 35), .inl (cy 1, 32, .inl c_digest)), ((hm 30), .inl (cy 1, 8, .inl c_h)), ((hm 33), .inl (cy 1, 64, .inl c_message)), ((hm 29), .inl (cy 1, 192, .inl c_streamBlock)), ((hm 28), .inl (cy 1, 24, .inl c_streamHash)), ((hm 27), .inl (cy 2, 3, .inr (.inl c_taken))), ((hm 31), .inl (cy 1, 64, .inl c_w)), ((hm 32), .inl (cy 1, 8, .inl c_x))])) (zQ D (some (.int r_)) ([(h0, .inr (12, zmo hm c_thrown' c_state c_test c_words c_ill c_before c_inRow c_first c_inWindow c_same c_made c_requests c_total' c_secrets c_rounds c_high c_low c_keyHigh c_keyLow)), ((hm 0), .inl (cy 1, 64, .inl c_ROUND)), ((hm 47), .inl (cy 1, 8, .inl c_START)), ((hm 6), .inl (cy 1, 512, .inl c_buffer')), ((hm 5), .inl (cy 1, 3, .inl c_counters')), ((hm 35), .inl (cy 1, 32, .inl c_digest')), ((hm 30), .inl (cy 1, 8, .inl c_h')), ((hm 33), .inl (cy 1, 64, .inl c_message')), ((hm 29), .inl (cy 1, 192, .inl c_streamBlock')), ((hm 28), .inl (cy 1, 24, .inl c_streamHash')), ((hm 27), .inl (cy 2, 3, .inr (.inl c_taken'))), ((hm 31), .inl (cy 1, 64, .inl c_w')), ((hm 32), .inl (cy 1, 8, .inl c_x'))]) (va_A ([(h0, .inr (12, zmo hm c_thrown c_state c_test c_words c_ill c_before c_inRow c_first c_inWindow c_same c_made c_requests c_total c_secrets c_rounds c_high c_low c_keyHigh c_keyLow)), ((hm 0), .inl (cy 1, 64, .inl c_ROUND)), ((hm 47), .inl (cy 1, 8, .inl c_START)), ((hm 6), .inl (cy 1, 512, .inl c_buffer)), ((hm 5), .inl (cy 1, 3, .inl c_counters)), ((hm 35), .inl (cy 1, 32, .inl c_digest)), ((hm 30), .inl (cy 1, 8, .inl c_h)), ((hm 33), .inl (cy 1, 64, .inl c_message)), ((hm 29), .inl (cy 1, 192, .inl c_streamBlock)), ((hm 28), .inl (cy 1, 24, .inl c_streamHash)), ((hm 27), .inl (cy 2, 3, .inr (.inl c_taken))), ((hm 31), .inl (cy 1, 64, .inl c_w)), ((hm 32), .inl (cy 1, 8, .inl c_x))]) sz)) 0 0 (va_A ([(h0, .inr (12, zmo hm c_thrown c_state c_test c_words c_ill c_before c_inRow c_first c_inWindow c_same c_made c_requests c_total c_secrets c_rounds c_high c_low c_keyHigh c_keyLow)), ((hm 0), .inl (cy 1, 64, .inl c_ROUND)), ((hm 47), .inl (cy 1, 8, .inl c_START)), ((hm 6), .inl (cy 1, 512, .inl c_buffer)), ((hm 5), .inl (cy 1, 3, .inl c_counters)), ((hm 35), .inl (cy 1, 32, .inl c_digest)), ((hm 30), .inl (cy 1, 8, .inl c_h)), ((hm 33), .inl (cy 1, 64, .inl c_message)), ((hm 29), .inl (cy 1, 192, .inl c_streamBlock)), ((hm 28), .inl (cy 1, 24, .inl c_streamHash)), ((hm 27), .inl (cy 2, 3, .inr (.inl c_taken))), ((hm 31), .inl (cy 1, 64, .inl c_w)), ((hm 32), .inl (cy 1, 8, .inl c_x))]) sz) := by
  refine Met.ofW (cc := cX10_hash) (maxL := 7) (ret := (some .int)) (by decide) rfl ?_
  intro p e s m args below meth c s₁ B hml hv
  obtain ⟨rfl, rfl, hP, hD0, hE⟩ := hv
  have hx := B.exec
  have hb := B.bytes
  have hr := B.returns
  have hts := atoms_spec (ws := wsX10_hash) B.pre
  have hown : s.vm.findClass RX10 = some m.cls := findClass_of_methodNamed B.named
  have hlocks := B.notSynchronized
  clear B
  have hD := hD0.self (sz := s.heap.size)
  generalize hAe : va_A ([(h0, .inr (12, zmo hm c_thrown c_state c_test c_words c_ill c_before c_inRow c_first c_inWindow c_same c_made c_requests c_total c_secrets c_rounds c_high c_low c_keyHigh c_keyLow)), ((hm 0), .inl (cy 1, 64, .inl c_ROUND)), ((hm 47), .inl (cy 1, 8, .inl c_START)), ((hm 6), .inl (cy 1, 512, .inl c_buffer)), ((hm 5), .inl (cy 1, 3, .inl c_counters)), ((hm 35), .inl (cy 1, 32, .inl c_digest)), ((hm 30), .inl (cy 1, 8, .inl c_h)), ((hm 33), .inl (cy 1, 64, .inl c_message)), ((hm 29), .inl (cy 1, 192, .inl c_streamBlock)), ((hm 28), .inl (cy 1, 24, .inl c_streamHash)), ((hm 27), .inl (cy 2, 3, .inr (.inl c_taken))), ((hm 31), .inl (cy 1, 64, .inl c_w)), ((hm 32), .inl (cy 1, 8, .inl c_x))]) s.heap.size = A at hD hE ⊢
  have hA : ∀ q : Nat, s.heap.size ≤ q → A q := fun q h => by rw [← hAe]; exact Or.inr h
  clear hAe hD0
  have hS : va_S A s.heap s.heap [] := va_S.rf
  have hK := hE.1
  have hw0 := hts (.fieldLink RX10 189 "SealedModuleModel" "thrown" "I") (by decide +kernel)
  have hw1 := hts (.fieldLink RX10 122 "SealedModuleModel" "taken" "[J") (by decide +kernel)
  have hw2 := hts (.fieldLink RX10 84 "SealedModuleModel" "buffer" "[I") (by decide +kernel)
  have hw3 := hts (.fieldLink RX10 144 "SealedModuleModel" "digest" "[I") (by decide +kernel)
  have hcX10 : ∀ w ∈ u_ws RX10 TX10 52, w ∈ wsX10_hash := (fun _ h => List.mem_cons_of_mem _ (List.mem_append_right _ h))
  have hl := lv_entry ([.ref h0, .int p1, .int p2, .int p3]) (n := 7) (Nat.le_of_ble_eq_true rfl)
  rw [lg_entry_eq]
  generalize (lg_sl ([.ref h0, .int p1, .int p2, .int p3]) ++ List.replicate (7 - (lg_sl ([.ref h0, .int p1, .int p2, .int p3])).length) Slot.unset).toArray = ls at hl ⊢
  replace hl : lv_has ls 7 [(0, .ref h0), (1, .int p1), (2, .int p2), (3, .int p3)] := hl
  unfold f_X10_hash at hf
  refine zgo (fun GW hTo hFr => ?_)
  refine hFr _ _ _ ?_
  obtain ⟨H, hHe⟩ : ∃ H, H = s.heap := ⟨_, rfl⟩
  obtain ⟨locs, hLe⟩ : ∃ L : List Loc, L = [] := ⟨_, rfl⟩
  rw [← hHe] at hP
  replace hS : va_S A s.heap H locs := by rw [hHe, hLe]; exact hS
  refine zat hHe.symm hLe.symm ?_
  clear hHe hLe
  refine lv_aload_n (pc := 0) hx hb (zdt_at zt_X10_hash_0 0 rfl) rfl (lv_at hl 0 rfl) ?_
  refine lv_iconst (pc := 1) (v := (0 : Int32)) hx hb (zdt_at zt_X10_hash_0 1 rfl) (by decide) ?_
  refine va_put (pc := 2) (D := D) (ci := 12) (v := .int (0 : Int32)) (ty := .int) (C := RX10) (T := TX10) (N := 52) hx hb hts hcX10 tyX10 tyX10_ok nmX10 hown hK hP hD hS 0 rfl rfl 1 (by decide) hw0 (fun _ h9 => h9) rfl (by decide +kernel) rfl rfl (Nat.le_of_ble_eq_true rfl) (zdt_at zt_X10_hash_0 2 rfl) ?_
  clear hP hD hS
  intro H locs hP hD hS
  replace hP : va_P D vwCl ([(h0, .inr (12, zmo hm (0 : Int32) c_state c_test c_words c_ill c_before c_inRow c_first c_inWindow c_same c_made c_requests c_total c_secrets c_rounds c_high c_low c_keyHigh c_keyLow)), ((hm 0), .inl (cy 1, 64, .inl c_ROUND)), ((hm 47), .inl (cy 1, 8, .inl c_START)), ((hm 6), .inl (cy 1, 512, .inl c_buffer)), ((hm 5), .inl (cy 1, 3, .inl c_counters)), ((hm 35), .inl (cy 1, 32, .inl c_digest)), ((hm 30), .inl (cy 1, 8, .inl c_h)), ((hm 33), .inl (cy 1, 64, .inl c_message)), ((hm 29), .inl (cy 1, 192, .inl c_streamBlock)), ((hm 28), .inl (cy 1, 24, .inl c_streamHash)), ((hm 27), .inl (cy 2, 3, .inr (.inl c_taken))), ((hm 31), .inl (cy 1, 64, .inl c_w)), ((hm 32), .inl (cy 1, 8, .inl c_x))]) H := hP
  replace hD : va_D A ([(h0, .inr (12, zmo hm (0 : Int32) c_state c_test c_words c_ill c_before c_inRow c_first c_inWindow c_same c_made c_requests c_total c_secrets c_rounds c_high c_low c_keyHigh c_keyLow)), ((hm 0), .inl (cy 1, 64, .inl c_ROUND)), ((hm 47), .inl (cy 1, 8, .inl c_START)), ((hm 6), .inl (cy 1, 512, .inl c_buffer)), ((hm 5), .inl (cy 1, 3, .inl c_counters)), ((hm 35), .inl (cy 1, 32, .inl c_digest)), ((hm 30), .inl (cy 1, 8, .inl c_h)), ((hm 33), .inl (cy 1, 64, .inl c_message)), ((hm 29), .inl (cy 1, 192, .inl c_streamBlock)), ((hm 28), .inl (cy 1, 24, .inl c_streamHash)), ((hm 27), .inl (cy 2, 3, .inr (.inl c_taken))), ((hm 31), .inl (cy 1, 64, .inl c_w)), ((hm 32), .inl (cy 1, 8, .inl c_x))]) := hD
  refine lv_aload_n (pc := 5) hx hb (zdt_at zt_X10_hash_0 3 rfl) rfl (lv_at hl 0 rfl) ?_
  replace hf := zb_s hf
  obtain ⟨r_1, hc_, hf⟩ := hf
  refine zcs (pc := 6) (rv := (some (.int r_1))) (va_runV (As := []) (rest := []) ⟨hx, hb, hml, hown, hts⟩ (c_X10_isIn l D cy tt H.size h0 hm c_state (0 : Int32) c_test c_words c_ill c_before c_inRow c_first c_inWindow c_same c_made c_requests c_total c_secrets c_rounds c_high c_low c_keyHigh c_keyLow r_1 hc_) (cwV 0 hts gX10_hash_X10_isIn rfl rfl rfl (by decide +kernel) ⟨Nat.le_of_ble_eq_true rfl, Nat.le_of_ble_eq_true rfl⟩) ⟨zblind, va_recv hK hP (ci := 12) (q0 := 0) rfl rfl, zpre hE hS (hP.sub [0] rfl) (hD.sub [0] (by decide) rfl) (va_free hD hS hA [0] rfl)⟩ rfl rfl hl.1 rfl (lv_room (Nat.le_of_ble_eq_true rfl)) (zdt_at zt_X10_hash_0 4 rfl) ⟨Nat.zero_le _, Nat.zero_le _⟩) ?_
  clear hc_
  refine W.eq (g2 := F0 m 9 ls [.int r_1]) rfl ?_
  refine lv_if_ne (pc := 9) (tgt := 18) hx hb (zdt_at zt_X10_hash_0 5 rfl) (by decide) (fun cn_ => ?t_2) (fun cn_ => ?f_3)
  case f_3 =>
    replace hf := zt_s cn_ hf
    clear cn_
    refine lv_aload_n (pc := 12) hx hb (zdt_at zt_X10_hash_0 6 rfl) rfl (lv_at hl 0 rfl) ?_
    refine lv_iconst (pc := 13) (v := (-1 : Int32)) hx hb (zdt_at zt_X10_hash_0 7 rfl) (by decide) ?_
    replace hf := zb_s hf
    obtain ⟨⟨r_98, c_counters_99⟩, hc_, hf⟩ := hf
    refine zcn2 (pc := 14) (rv := (some (.int r_98))) (va_runV (As := [.int (-1 : Int32)]) (rest := []) ⟨hx, hb, hml, hown, hts⟩ (c_X10_answer l D cy tt H.size h0 hm (-1 : Int32) c_counters (0 : Int32) c_state c_test c_words c_ill c_before c_inRow c_first c_inWindow c_same c_made c_requests c_total c_secrets c_rounds c_high c_low c_keyHigh c_keyLow r_98 c_counters_99 hc_) (cwV 1 hts gX10_hash_X10_answer rfl rfl rfl (by decide +kernel) ⟨Nat.le_of_ble_eq_true rfl, Nat.le_of_ble_eq_true rfl⟩) ⟨zblind, va_recv hK hP (ci := 12) (q0 := 0) rfl rfl, zpre hE hS (hP.sub [0, 4] rfl) (hD.sub [0, 4] (by decide) rfl) (va_free hD hS hA [0, 4] rfl)⟩ rfl rfl hl.1 rfl (lv_room (Nat.le_of_ble_eq_true rfl)) (zdt_at zt_X10_hash_0 8 rfl) ⟨Nat.zero_le _, Nat.zero_le _⟩) hS hP hD (va_free hD hS hA [0, 4] rfl) [0, 4] rfl (by decide) rfl ?_
    clear hP hD hS hc_
    intro H locs hP hD hS
    replace hP : va_P D vwCl ([(h0, .inr (12, zmo hm (0 : Int32) c_state c_test c_words c_ill c_before c_inRow c_first c_inWindow c_same c_made c_requests c_total c_secrets c_rounds c_high c_low c_keyHigh c_keyLow)), ((hm 0), .inl (cy 1, 64, .inl c_ROUND)), ((hm 47), .inl (cy 1, 8, .inl c_START)), ((hm 6), .inl (cy 1, 512, .inl c_buffer)), ((hm 5), .inl (cy 1, 3, .inl c_counters_99)), ((hm 35), .inl (cy 1, 32, .inl c_digest)), ((hm 30), .inl (cy 1, 8, .inl c_h)), ((hm 33), .inl (cy 1, 64, .inl c_message)), ((hm 29), .inl (cy 1, 192, .inl c_streamBlock)), ((hm 28), .inl (cy 1, 24, .inl c_streamHash)), ((hm 27), .inl (cy 2, 3, .inr (.inl c_taken))), ((hm 31), .inl (cy 1, 64, .inl c_w)), ((hm 32), .inl (cy 1, 8, .inl c_x))]) H := hP
    replace hD : va_D A ([(h0, .inr (12, zmo hm (0 : Int32) c_state c_test c_words c_ill c_before c_inRow c_first c_inWindow c_same c_made c_requests c_total c_secrets c_rounds c_high c_low c_keyHigh c_keyLow)), ((hm 0), .inl (cy 1, 64, .inl c_ROUND)), ((hm 47), .inl (cy 1, 8, .inl c_START)), ((hm 6), .inl (cy 1, 512, .inl c_buffer)), ((hm 5), .inl (cy 1, 3, .inl c_counters_99)), ((hm 35), .inl (cy 1, 32, .inl c_digest)), ((hm 30), .inl (cy 1, 8, .inl c_h)), ((hm 33), .inl (cy 1, 64, .inl c_message)), ((hm 29), .inl (cy 1, 192, .inl c_streamBlock)), ((hm 28), .inl (cy 1, 24, .inl c_streamHash)), ((hm 27), .inl (cy 2, 3, .inr (.inl c_taken))), ((hm 31), .inl (cy 1, 64, .inl c_w)), ((hm 32), .inl (cy 1, 8, .inl c_x))]) := hD
    refine W.eq (g2 := F0 m 17 ls [.int r_98]) rfl ?_
    cases hf
    exact W.iret (pc := 17) hx hb hr (fun t ht hW => ⟨rfl, ⟨by rw [ht]; exact hP, hD⟩, hS.F ht⟩) hS.2.2 (zdt_at zt_X10_hash_0 9 rfl)
  replace hf := ze_s cn_ hf
  clear cn_
  refine lv_iload_n (pc := 18) hx hb (zdt_at zt_X10_hash_0 10 rfl) rfl (lv_at hl 1 rfl) ?_
  replace hf := zj_s hf
  obtain ⟨K_5, eK_5, hf⟩ := hf
  have kK_5 : ∀ (v_4 : Int32) (H : Heap) (locs : List Loc) (ls : Array Slot), va_P D vwCl ([(h0, .inr (12, zmo hm (0 : Int32) c_state c_test c_words c_ill c_before c_inRow c_first c_inWindow c_same c_made c_requests c_total c_secrets c_rounds c_high c_low c_keyHigh c_keyLow)), ((hm 0), .inl (cy 1, 64, .inl c_ROUND)), ((hm 47), .inl (cy 1, 8, .inl c_START)), ((hm 6), .inl (cy 1, 512, .inl c_buffer)), ((hm 5), .inl (cy 1, 3, .inl c_counters)), ((hm 35), .inl (cy 1, 32, .inl c_digest)), ((hm 30), .inl (cy 1, 8, .inl c_h)), ((hm 33), .inl (cy 1, 64, .inl c_message)), ((hm 29), .inl (cy 1, 192, .inl c_streamBlock)), ((hm 28), .inl (cy 1, 24, .inl c_streamHash)), ((hm 27), .inl (cy 2, 3, .inr (.inl c_taken))), ((hm 31), .inl (cy 1, 64, .inl c_w)), ((hm 32), .inl (cy 1, 8, .inl c_x))]) H → va_D A ([(h0, .inr (12, zmo hm (0 : Int32) c_state c_test c_words c_ill c_before c_inRow c_first c_inWindow c_same c_made c_requests c_total c_secrets c_rounds c_high c_low c_keyHigh c_keyLow)), ((hm 0), .inl (cy 1, 64, .inl c_ROUND)), ((hm 47), .inl (cy 1, 8, .inl c_START)), ((hm 6), .inl (cy 1, 512, .inl c_buffer)), ((hm 5), .inl (cy 1, 3, .inl c_counters)), ((hm 35), .inl (cy 1, 32, .inl c_digest)), ((hm 30), .inl (cy 1, 8, .inl c_h)), ((hm 33), .inl (cy 1, 64, .inl c_message)), ((hm 29), .inl (cy 1, 192, .inl c_streamBlock)), ((hm 28), .inl (cy 1, 24, .inl c_streamHash)), ((hm 27), .inl (cy 2, 3, .inr (.inl c_taken))), ((hm 31), .inl (cy 1, 64, .inl c_w)), ((hm 32), .inl (cy 1, 8, .inl c_x))]) → va_S A s.heap H locs → lv_has ls 7 [(0, .ref h0), (1, .int p1), (2, .int p2), (3, .int p3)] → K_5 v_4 = some (r_, c_thrown', c_total', c_buffer', c_counters', c_digest', c_h', c_message', c_streamBlock', c_streamHash', c_taken', c_w', c_x') → GW H locs (F0 m 72 ls [.int v_4]) := by
    clear hf hl hP hD hS
    intro v_4 H locs ls hP hD hS hl hf
    rw [eK_5] at hf
    clear eK_5
    refine hFr _ _ _ ?_
    refine lv_istore (pc := 72) (lv' := [(4, .int v_4), (0, .ref h0), (1, .int p1), (2, .int p2), (3, .int p3)]) hx hb (zdt_at zt_X10_hash_0 38 rfl) hl (by decide) rfl ?_
    clear hl
    intro ls hl
    refine lv_iload (pc := 74) hx hb (zdt_at zt_X10_hash_0 39 rfl) (lv_at hl 0 rfl) ?_
    refine lv_if_ne (pc := 76) (tgt := 86) hx hb (zdt_at zt_X10_hash_0 40 rfl) (by decide) (fun cn_ => ?t_6) (fun cn_ => ?f_7)
    case f_7 =>
      replace hf := zt_s cn_ hf
      clear cn_
      refine lv_aload_n (pc := 79) hx hb (zdt_at zt_X10_hash_0 41 rfl) rfl (lv_at hl 1 rfl) ?_
      refine lv_bipush (pc := 80) (v := (-2 : Int32)) hx hb (zdt_at zt_X10_hash_0 42 rfl) (by decide) ?_
      replace hf := zb_s hf
      obtain ⟨⟨r_77, c_counters_78⟩, hc_, hf⟩ := hf
      refine zcn2 (pc := 82) (rv := (some (.int r_77))) (va_runV (As := [.int (-2 : Int32)]) (rest := []) ⟨hx, hb, hml, hown, hts⟩ (c_X10_answer l D cy tt H.size h0 hm (-2 : Int32) c_counters (0 : Int32) c_state c_test c_words c_ill c_before c_inRow c_first c_inWindow c_same c_made c_requests c_total c_secrets c_rounds c_high c_low c_keyHigh c_keyLow r_77 c_counters_78 hc_) (cwV 1 hts gX10_hash_X10_answer rfl rfl rfl (by decide +kernel) ⟨Nat.le_of_ble_eq_true rfl, Nat.le_of_ble_eq_true rfl⟩) ⟨zblind, va_recv hK hP (ci := 12) (q0 := 0) rfl rfl, zpre hE hS (hP.sub [0, 4] rfl) (hD.sub [0, 4] (by decide) rfl) (va_free hD hS hA [0, 4] rfl)⟩ rfl rfl hl.1 rfl (lv_room (Nat.le_of_ble_eq_true rfl)) (zdt_at zt_X10_hash_0 43 rfl) ⟨Nat.zero_le _, Nat.zero_le _⟩) hS hP hD (va_free hD hS hA [0, 4] rfl) [0, 4] rfl (by decide) rfl ?_
      clear hP hD hS hc_
      intro H locs hP hD hS
      replace hP : va_P D vwCl ([(h0, .inr (12, zmo hm (0 : Int32) c_state c_test c_words c_ill c_before c_inRow c_first c_inWindow c_same c_made c_requests c_total c_secrets c_rounds c_high c_low c_keyHigh c_keyLow)), ((hm 0), .inl (cy 1, 64, .inl c_ROUND)), ((hm 47), .inl (cy 1, 8, .inl c_START)), ((hm 6), .inl (cy 1, 512, .inl c_buffer)), ((hm 5), .inl (cy 1, 3, .inl c_counters_78)), ((hm 35), .inl (cy 1, 32, .inl c_digest)), ((hm 30), .inl (cy 1, 8, .inl c_h)), ((hm 33), .inl (cy 1, 64, .inl c_message)), ((hm 29), .inl (cy 1, 192, .inl c_streamBlock)), ((hm 28), .inl (cy 1, 24, .inl c_streamHash)), ((hm 27), .inl (cy 2, 3, .inr (.inl c_taken))), ((hm 31), .inl (cy 1, 64, .inl c_w)), ((hm 32), .inl (cy 1, 8, .inl c_x))]) H := hP
      replace hD : va_D A ([(h0, .inr (12, zmo hm (0 : Int32) c_state c_test c_words c_ill c_before c_inRow c_first c_inWindow c_same c_made c_requests c_total c_secrets c_rounds c_high c_low c_keyHigh c_keyLow)), ((hm 0), .inl (cy 1, 64, .inl c_ROUND)), ((hm 47), .inl (cy 1, 8, .inl c_START)), ((hm 6), .inl (cy 1, 512, .inl c_buffer)), ((hm 5), .inl (cy 1, 3, .inl c_counters_78)), ((hm 35), .inl (cy 1, 32, .inl c_digest)), ((hm 30), .inl (cy 1, 8, .inl c_h)), ((hm 33), .inl (cy 1, 64, .inl c_message)), ((hm 29), .inl (cy 1, 192, .inl c_streamBlock)), ((hm 28), .inl (cy 1, 24, .inl c_streamHash)), ((hm 27), .inl (cy 2, 3, .inr (.inl c_taken))), ((hm 31), .inl (cy 1, 64, .inl c_w)), ((hm 32), .inl (cy 1, 8, .inl c_x))]) := hD
      refine W.eq (g2 := F0 m 85 ls [.int r_77]) rfl ?_
      cases hf
      exact W.iret (pc := 85) hx hb hr (fun t ht hW => ⟨rfl, ⟨by rw [ht]; exact hP, hD⟩, hS.F ht⟩) hS.2.2 (zdt_at zt_X10_hash_0 44 rfl)
    replace hf := ze_s cn_ hf
    clear cn_
    refine lv_aload_n (pc := 86) hx hb (zdt_at zt_X10_hash_0 45 rfl) rfl (lv_at hl 1 rfl) ?_
    replace hf := zb_s hf
    obtain ⟨r_8, hc_, hf⟩ := hf
    refine zcs (pc := 87) (rv := (some (.int r_8))) (va_runV (As := []) (rest := []) ⟨hx, hb, hml, hown, hts⟩ (c_X10_role l D cy tt H.size h0 hm c_state (0 : Int32) c_test c_words c_ill c_before c_inRow c_first c_inWindow c_same c_made c_requests c_total c_secrets c_rounds c_high c_low c_keyHigh c_keyLow r_8 hc_) (cwV 0 hts gX10_hash_X10_role rfl rfl rfl (by decide +kernel) ⟨Nat.le_of_ble_eq_true rfl, Nat.le_of_ble_eq_true rfl⟩) ⟨zblind, va_recv hK hP (ci := 12) (q0 := 0) rfl rfl, zpre hE hS (hP.sub [0] rfl) (hD.sub [0] (by decide) rfl) (va_free hD hS hA [0] rfl)⟩ rfl rfl hl.1 rfl (lv_room (Nat.le_of_ble_eq_true rfl)) (zdt_at zt_X10_hash_0 46 rfl) ⟨Nat.zero_le _, Nat.zero_le _⟩) ?_
    clear hc_
    refine W.eq (g2 := F0 m 90 ls [.int r_8]) rfl ?_
    refine lv_istore (pc := 90) (lv' := [(5, .int r_8), (4, .int v_4), (0, .ref h0), (1, .int p1), (2, .int p2), (3, .int p3)]) hx hb (zdt_at zt_X10_hash_0 47 rfl) hl (by decide) rfl ?_
    clear hl
    intro ls hl
    refine lv_iload_n (pc := 92) hx hb (zdt_at zt_X10_hash_0 48 rfl) rfl (lv_at hl 3 rfl) ?_
    refine lv_if_ne (pc := 93) (tgt := 113) hx hb (zdt_at zt_X10_hash_0 49 rfl) (by decide) (fun cn_ => ?t_9) (fun cn_ => ?f_10)
    case f_10 =>
      replace hf := zt_s cn_ hf
      clear cn_
      refine lv_aload_n (pc := 96) hx hb (zdt_at zt_X10_hash_0 50 rfl) rfl (lv_at hl 2 rfl) ?_
      replace hf := zb_s hf
      obtain ⟨⟨c_total_67, c_h_68⟩, hc_, hf⟩ := hf
      refine zcn2 (pc := 97) (rv := none) (va_runV (As := []) (rest := []) ⟨hx, hb, hml, hown, hts⟩ (c_X10_start l D cy tt H.size h0 hm c_total c_START c_h (0 : Int32) c_state c_test c_words c_ill c_before c_inRow c_first c_inWindow c_same c_made c_requests c_secrets c_rounds c_high c_low c_keyHigh c_keyLow c_total_67 c_h_68 hc_) (cwV 0 hts gX10_hash_X10_start rfl rfl rfl (by decide +kernel) ⟨Nat.le_of_ble_eq_true rfl, Nat.le_of_ble_eq_true rfl⟩) ⟨zblind, va_recv hK hP (ci := 12) (q0 := 0) rfl rfl, zpre hE hS (hP.sub [0, 2, 6] rfl) (hD.sub [0, 2, 6] (by decide) rfl) (va_free hD hS hA [0, 2, 6] rfl)⟩ rfl rfl hl.1 rfl (lv_room (Nat.le_of_ble_eq_true rfl)) (zdt_at zt_X10_hash_0 51 rfl) ⟨Nat.zero_le _, Nat.zero_le _⟩) hS hP hD (va_free hD hS hA [0, 2, 6] rfl) [0, 2, 6] rfl (by decide) rfl ?_
      clear hP hD hS hc_
      intro H locs hP hD hS
      replace hP : va_P D vwCl ([(h0, .inr (12, zmo hm (0 : Int32) c_state c_test c_words c_ill c_before c_inRow c_first c_inWindow c_same c_made c_requests c_total_67 c_secrets c_rounds c_high c_low c_keyHigh c_keyLow)), ((hm 0), .inl (cy 1, 64, .inl c_ROUND)), ((hm 47), .inl (cy 1, 8, .inl c_START)), ((hm 6), .inl (cy 1, 512, .inl c_buffer)), ((hm 5), .inl (cy 1, 3, .inl c_counters)), ((hm 35), .inl (cy 1, 32, .inl c_digest)), ((hm 30), .inl (cy 1, 8, .inl c_h_68)), ((hm 33), .inl (cy 1, 64, .inl c_message)), ((hm 29), .inl (cy 1, 192, .inl c_streamBlock)), ((hm 28), .inl (cy 1, 24, .inl c_streamHash)), ((hm 27), .inl (cy 2, 3, .inr (.inl c_taken))), ((hm 31), .inl (cy 1, 64, .inl c_w)), ((hm 32), .inl (cy 1, 8, .inl c_x))]) H := hP
      replace hD : va_D A ([(h0, .inr (12, zmo hm (0 : Int32) c_state c_test c_words c_ill c_before c_inRow c_first c_inWindow c_same c_made c_requests c_total_67 c_secrets c_rounds c_high c_low c_keyHigh c_keyLow)), ((hm 0), .inl (cy 1, 64, .inl c_ROUND)), ((hm 47), .inl (cy 1, 8, .inl c_START)), ((hm 6), .inl (cy 1, 512, .inl c_buffer)), ((hm 5), .inl (cy 1, 3, .inl c_counters)), ((hm 35), .inl (cy 1, 32, .inl c_digest)), ((hm 30), .inl (cy 1, 8, .inl c_h_68)), ((hm 33), .inl (cy 1, 64, .inl c_message)), ((hm 29), .inl (cy 1, 192, .inl c_streamBlock)), ((hm 28), .inl (cy 1, 24, .inl c_streamHash)), ((hm 27), .inl (cy 2, 3, .inr (.inl c_taken))), ((hm 31), .inl (cy 1, 64, .inl c_w)), ((hm 32), .inl (cy 1, 8, .inl c_x))]) := hD
      refine W.eq (g2 := F0 m 100 ls []) rfl ?_
      refine lv_aload_n (pc := 100) hx hb (zdt_at zt_X10_hash_0 52 rfl) rfl (lv_at hl 2 rfl) ?_
      refine lv_iload (pc := 101) hx hb (zdt_at zt_X10_hash_0 53 rfl) (lv_at hl 0 rfl) ?_
      refine lv_iconst (pc := 103) (v := (1 : Int32)) hx hb (zdt_at zt_X10_hash_0 54 rfl) (by decide) ?_
      replace hf := zb_s hf
      obtain ⟨⟨c_total_69, c_h_70, c_message_71, c_streamBlock_72, c_streamHash_73, c_taken_74⟩, hc_, hf⟩ := hf
      refine zcn2 (pc := 104) (rv := none) (va_runV (As := [.int r_8, .int (1 : Int32)]) (rest := []) ⟨hx, hb, hml, hown, hts⟩ (c_X10_swap l D cy tt H.size h0 hm r_8 (1 : Int32) c_total_67 c_h_68 c_message c_streamBlock c_streamHash c_taken (0 : Int32) c_state c_test c_words c_ill c_before c_inRow c_first c_inWindow c_same c_made c_requests c_secrets c_rounds c_high c_low c_keyHigh c_keyLow c_total_69 c_h_70 c_message_71 c_streamBlock_72 c_streamHash_73 c_taken_74 hc_) (cwV 2 hts gX10_hash_X10_swap rfl rfl rfl (by decide +kernel) ⟨Nat.le_of_ble_eq_true rfl, Nat.le_of_ble_eq_true rfl⟩) ⟨zblind, va_recv hK hP (ci := 12) (q0 := 0) rfl rfl, zpre hE hS (hP.sub [0, 6, 7, 8, 9, 10] rfl) (hD.sub [0, 6, 7, 8, 9, 10] (by decide) rfl) (va_free hD hS hA [0, 6, 7, 8, 9, 10] rfl)⟩ rfl rfl hl.1 rfl (lv_room (Nat.le_of_ble_eq_true rfl)) (zdt_at zt_X10_hash_0 55 rfl) ⟨Nat.zero_le _, Nat.zero_le _⟩) hS hP hD (va_free hD hS hA [0, 6, 7, 8, 9, 10] rfl) [0, 6, 7, 8, 9, 10] rfl (by decide) rfl ?_
      clear hP hD hS hc_
      intro H locs hP hD hS
      replace hP : va_P D vwCl ([(h0, .inr (12, zmo hm (0 : Int32) c_state c_test c_words c_ill c_before c_inRow c_first c_inWindow c_same c_made c_requests c_total_69 c_secrets c_rounds c_high c_low c_keyHigh c_keyLow)), ((hm 0), .inl (cy 1, 64, .inl c_ROUND)), ((hm 47), .inl (cy 1, 8, .inl c_START)), ((hm 6), .inl (cy 1, 512, .inl c_buffer)), ((hm 5), .inl (cy 1, 3, .inl c_counters)), ((hm 35), .inl (cy 1, 32, .inl c_digest)), ((hm 30), .inl (cy 1, 8, .inl c_h_70)), ((hm 33), .inl (cy 1, 64, .inl c_message_71)), ((hm 29), .inl (cy 1, 192, .inl c_streamBlock_72)), ((hm 28), .inl (cy 1, 24, .inl c_streamHash_73)), ((hm 27), .inl (cy 2, 3, .inr (.inl c_taken_74))), ((hm 31), .inl (cy 1, 64, .inl c_w)), ((hm 32), .inl (cy 1, 8, .inl c_x))]) H := hP
      replace hD : va_D A ([(h0, .inr (12, zmo hm (0 : Int32) c_state c_test c_words c_ill c_before c_inRow c_first c_inWindow c_same c_made c_requests c_total_69 c_secrets c_rounds c_high c_low c_keyHigh c_keyLow)), ((hm 0), .inl (cy 1, 64, .inl c_ROUND)), ((hm 47), .inl (cy 1, 8, .inl c_START)), ((hm 6), .inl (cy 1, 512, .inl c_buffer)), ((hm 5), .inl (cy 1, 3, .inl c_counters)), ((hm 35), .inl (cy 1, 32, .inl c_digest)), ((hm 30), .inl (cy 1, 8, .inl c_h_70)), ((hm 33), .inl (cy 1, 64, .inl c_message_71)), ((hm 29), .inl (cy 1, 192, .inl c_streamBlock_72)), ((hm 28), .inl (cy 1, 24, .inl c_streamHash_73)), ((hm 27), .inl (cy 2, 3, .inr (.inl c_taken_74))), ((hm 31), .inl (cy 1, 64, .inl c_w)), ((hm 32), .inl (cy 1, 8, .inl c_x))]) := hD
      refine W.eq (g2 := F0 m 107 ls []) rfl ?_
      refine lv_aload_n (pc := 107) hx hb (zdt_at zt_X10_hash_0 56 rfl) rfl (lv_at hl 2 rfl) ?_
      refine lv_iconst (pc := 108) (v := (0 : Int32)) hx hb (zdt_at zt_X10_hash_0 57 rfl) (by decide) ?_
      replace hf := zb_s hf
      obtain ⟨⟨r_75, c_counters_76⟩, hc_, hf⟩ := hf
      refine zcn2 (pc := 109) (rv := (some (.int r_75))) (va_runV (As := [.int (0 : Int32)]) (rest := []) ⟨hx, hb, hml, hown, hts⟩ (c_X10_answer l D cy tt H.size h0 hm (0 : Int32) c_counters (0 : Int32) c_state c_test c_words c_ill c_before c_inRow c_first c_inWindow c_same c_made c_requests c_total_69 c_secrets c_rounds c_high c_low c_keyHigh c_keyLow r_75 c_counters_76 hc_) (cwV 1 hts gX10_hash_X10_answer rfl rfl rfl (by decide +kernel) ⟨Nat.le_of_ble_eq_true rfl, Nat.le_of_ble_eq_true rfl⟩) ⟨zblind, va_recv hK hP (ci := 12) (q0 := 0) rfl rfl, zpre hE hS (hP.sub [0, 4] rfl) (hD.sub [0, 4] (by decide) rfl) (va_free hD hS hA [0, 4] rfl)⟩ rfl rfl hl.1 rfl (lv_room (Nat.le_of_ble_eq_true rfl)) (zdt_at zt_X10_hash_0 58 rfl) ⟨Nat.zero_le _, Nat.zero_le _⟩) hS hP hD (va_free hD hS hA [0, 4] rfl) [0, 4] rfl (by decide) rfl ?_
      clear hP hD hS hc_
      intro H locs hP hD hS
      replace hP : va_P D vwCl ([(h0, .inr (12, zmo hm (0 : Int32) c_state c_test c_words c_ill c_before c_inRow c_first c_inWindow c_same c_made c_requests c_total_69 c_secrets c_rounds c_high c_low c_keyHigh c_keyLow)), ((hm 0), .inl (cy 1, 64, .inl c_ROUND)), ((hm 47), .inl (cy 1, 8, .inl c_START)), ((hm 6), .inl (cy 1, 512, .inl c_buffer)), ((hm 5), .inl (cy 1, 3, .inl c_counters_76)), ((hm 35), .inl (cy 1, 32, .inl c_digest)), ((hm 30), .inl (cy 1, 8, .inl c_h_70)), ((hm 33), .inl (cy 1, 64, .inl c_message_71)), ((hm 29), .inl (cy 1, 192, .inl c_streamBlock_72)), ((hm 28), .inl (cy 1, 24, .inl c_streamHash_73)), ((hm 27), .inl (cy 2, 3, .inr (.inl c_taken_74))), ((hm 31), .inl (cy 1, 64, .inl c_w)), ((hm 32), .inl (cy 1, 8, .inl c_x))]) H := hP
      replace hD : va_D A ([(h0, .inr (12, zmo hm (0 : Int32) c_state c_test c_words c_ill c_before c_inRow c_first c_inWindow c_same c_made c_requests c_total_69 c_secrets c_rounds c_high c_low c_keyHigh c_keyLow)), ((hm 0), .inl (cy 1, 64, .inl c_ROUND)), ((hm 47), .inl (cy 1, 8, .inl c_START)), ((hm 6), .inl (cy 1, 512, .inl c_buffer)), ((hm 5), .inl (cy 1, 3, .inl c_counters_76)), ((hm 35), .inl (cy 1, 32, .inl c_digest)), ((hm 30), .inl (cy 1, 8, .inl c_h_70)), ((hm 33), .inl (cy 1, 64, .inl c_message_71)), ((hm 29), .inl (cy 1, 192, .inl c_streamBlock_72)), ((hm 28), .inl (cy 1, 24, .inl c_streamHash_73)), ((hm 27), .inl (cy 2, 3, .inr (.inl c_taken_74))), ((hm 31), .inl (cy 1, 64, .inl c_w)), ((hm 32), .inl (cy 1, 8, .inl c_x))]) := hD
      refine W.eq (g2 := F0 m 112 ls [.int r_75]) rfl ?_
      cases hf
      exact W.iret (pc := 112) hx hb hr (fun t ht hW => ⟨rfl, ⟨by rw [ht]; exact hP, hD⟩, hS.F ht⟩) hS.2.2 (zdt_at zt_X10_hash_0 59 rfl)
    replace hf := ze_s cn_ hf
    clear cn_
    refine lv_aload_n (pc := 113) hx hb (zdt_at zt_X10_hash_0 60 rfl) rfl (lv_at hl 2 rfl) ?_
    refine va_get (pc := 114) (D := D) (ci := 12) (v := .ref (hm 27)) (C := RX10) (T := TX10) (N := 52) hx hb hts hcX10 hown hK hP 0 rfl rfl 27 (by decide) hw1 (fun _ h9 => h9) rfl (zdt_at zt_X10_hash_0 61 rfl) ?_
    refine lv_iload (pc := 117) hx hb (zdt_at zt_X10_hash_0 62 rfl) (lv_at hl 0 rfl) ?_
    replace hf := zk_s hf
    refine va_lald (pc := 119) hx hb hK hP 10 2 rfl rfl hf.1 (zdt_at zt_X10_hash_0 63 rfl) ?_
    replace hf := hf.2
    refine lv_lconst (pc := 120) (v := (0 : Int64)) hx hb (zdt_at zt_X10_hash_1 0 rfl) (by decide) ?_
    refine W.lcmp (pc := 121) hx hb (zdt_at zt_X10_hash_1 1 rfl) ?_
    refine lv_if_ge (pc := 122) (tgt := 132) hx hb (zdt_at zt_X10_hash_1 2 rfl) (by decide) (fun cn_ => ?t_11) (fun cn_ => ?f_12)
    case f_12 =>
      replace hf := ze_s cn_ hf
      clear cn_
      refine lv_aload_n (pc := 125) hx hb (zdt_at zt_X10_hash_1 3 rfl) rfl (lv_at hl 2 rfl) ?_
      refine lv_bipush (pc := 126) (v := (-4 : Int32)) hx hb (zdt_at zt_X10_hash_1 4 rfl) (by decide) ?_
      replace hf := zb_s hf
      obtain ⟨⟨r_65, c_counters_66⟩, hc_, hf⟩ := hf
      refine zcn2 (pc := 128) (rv := (some (.int r_65))) (va_runV (As := [.int (-4 : Int32)]) (rest := []) ⟨hx, hb, hml, hown, hts⟩ (c_X10_answer l D cy tt H.size h0 hm (-4 : Int32) c_counters (0 : Int32) c_state c_test c_words c_ill c_before c_inRow c_first c_inWindow c_same c_made c_requests c_total c_secrets c_rounds c_high c_low c_keyHigh c_keyLow r_65 c_counters_66 hc_) (cwV 1 hts gX10_hash_X10_answer rfl rfl rfl (by decide +kernel) ⟨Nat.le_of_ble_eq_true rfl, Nat.le_of_ble_eq_true rfl⟩) ⟨zblind, va_recv hK hP (ci := 12) (q0 := 0) rfl rfl, zpre hE hS (hP.sub [0, 4] rfl) (hD.sub [0, 4] (by decide) rfl) (va_free hD hS hA [0, 4] rfl)⟩ rfl rfl hl.1 rfl (lv_room (Nat.le_of_ble_eq_true rfl)) (zdt_at zt_X10_hash_1 5 rfl) ⟨Nat.zero_le _, Nat.zero_le _⟩) hS hP hD (va_free hD hS hA [0, 4] rfl) [0, 4] rfl (by decide) rfl ?_
      clear hP hD hS hc_
      intro H locs hP hD hS
      replace hP : va_P D vwCl ([(h0, .inr (12, zmo hm (0 : Int32) c_state c_test c_words c_ill c_before c_inRow c_first c_inWindow c_same c_made c_requests c_total c_secrets c_rounds c_high c_low c_keyHigh c_keyLow)), ((hm 0), .inl (cy 1, 64, .inl c_ROUND)), ((hm 47), .inl (cy 1, 8, .inl c_START)), ((hm 6), .inl (cy 1, 512, .inl c_buffer)), ((hm 5), .inl (cy 1, 3, .inl c_counters_66)), ((hm 35), .inl (cy 1, 32, .inl c_digest)), ((hm 30), .inl (cy 1, 8, .inl c_h)), ((hm 33), .inl (cy 1, 64, .inl c_message)), ((hm 29), .inl (cy 1, 192, .inl c_streamBlock)), ((hm 28), .inl (cy 1, 24, .inl c_streamHash)), ((hm 27), .inl (cy 2, 3, .inr (.inl c_taken))), ((hm 31), .inl (cy 1, 64, .inl c_w)), ((hm 32), .inl (cy 1, 8, .inl c_x))]) H := hP
      replace hD : va_D A ([(h0, .inr (12, zmo hm (0 : Int32) c_state c_test c_words c_ill c_before c_inRow c_first c_inWindow c_same c_made c_requests c_total c_secrets c_rounds c_high c_low c_keyHigh c_keyLow)), ((hm 0), .inl (cy 1, 64, .inl c_ROUND)), ((hm 47), .inl (cy 1, 8, .inl c_START)), ((hm 6), .inl (cy 1, 512, .inl c_buffer)), ((hm 5), .inl (cy 1, 3, .inl c_counters_66)), ((hm 35), .inl (cy 1, 32, .inl c_digest)), ((hm 30), .inl (cy 1, 8, .inl c_h)), ((hm 33), .inl (cy 1, 64, .inl c_message)), ((hm 29), .inl (cy 1, 192, .inl c_streamBlock)), ((hm 28), .inl (cy 1, 24, .inl c_streamHash)), ((hm 27), .inl (cy 2, 3, .inr (.inl c_taken))), ((hm 31), .inl (cy 1, 64, .inl c_w)), ((hm 32), .inl (cy 1, 8, .inl c_x))]) := hD
      refine W.eq (g2 := F0 m 131 ls [.int r_65]) rfl ?_
      cases hf
      exact W.iret (pc := 131) hx hb hr (fun t ht hW => ⟨rfl, ⟨by rw [ht]; exact hP, hD⟩, hS.F ht⟩) hS.2.2 (zdt_at zt_X10_hash_1 6 rfl)
    replace hf := zt_s cn_ hf
    clear cn_
    refine lv_aload_n (pc := 132) hx hb (zdt_at zt_X10_hash_1 7 rfl) rfl (lv_at hl 2 rfl) ?_
    refine lv_iload (pc := 133) hx hb (zdt_at zt_X10_hash_1 8 rfl) (lv_at hl 0 rfl) ?_
    refine lv_iconst (pc := 135) (v := (0 : Int32)) hx hb (zdt_at zt_X10_hash_1 9 rfl) (by decide) ?_
    replace hf := zb_s hf
    obtain ⟨⟨c_total_13, c_h_14, c_message_15, c_streamBlock_16, c_streamHash_17, c_taken_18⟩, hc_, hf⟩ := hf
    refine zcn2 (pc := 136) (rv := none) (va_runV (As := [.int r_8, .int (0 : Int32)]) (rest := []) ⟨hx, hb, hml, hown, hts⟩ (c_X10_swap l D cy tt H.size h0 hm r_8 (0 : Int32) c_total c_h c_message c_streamBlock c_streamHash c_taken (0 : Int32) c_state c_test c_words c_ill c_before c_inRow c_first c_inWindow c_same c_made c_requests c_secrets c_rounds c_high c_low c_keyHigh c_keyLow c_total_13 c_h_14 c_message_15 c_streamBlock_16 c_streamHash_17 c_taken_18 hc_) (cwV 2 hts gX10_hash_X10_swap rfl rfl rfl (by decide +kernel) ⟨Nat.le_of_ble_eq_true rfl, Nat.le_of_ble_eq_true rfl⟩) ⟨zblind, va_recv hK hP (ci := 12) (q0 := 0) rfl rfl, zpre hE hS (hP.sub [0, 6, 7, 8, 9, 10] rfl) (hD.sub [0, 6, 7, 8, 9, 10] (by decide) rfl) (va_free hD hS hA [0, 6, 7, 8, 9, 10] rfl)⟩ rfl rfl hl.1 rfl (lv_room (Nat.le_of_ble_eq_true rfl)) (zdt_at zt_X10_hash_1 10 rfl) ⟨Nat.zero_le _, Nat.zero_le _⟩) hS hP hD (va_free hD hS hA [0, 6, 7, 8, 9, 10] rfl) [0, 6, 7, 8, 9, 10] rfl (by decide) rfl ?_
    clear hP hD hS hc_
    intro H locs hP hD hS
    replace hP : va_P D vwCl ([(h0, .inr (12, zmo hm (0 : Int32) c_state c_test c_words c_ill c_before c_inRow c_first c_inWindow c_same c_made c_requests c_total_13 c_secrets c_rounds c_high c_low c_keyHigh c_keyLow)), ((hm 0), .inl (cy 1, 64, .inl c_ROUND)), ((hm 47), .inl (cy 1, 8, .inl c_START)), ((hm 6), .inl (cy 1, 512, .inl c_buffer)), ((hm 5), .inl (cy 1, 3, .inl c_counters)), ((hm 35), .inl (cy 1, 32, .inl c_digest)), ((hm 30), .inl (cy 1, 8, .inl c_h_14)), ((hm 33), .inl (cy 1, 64, .inl c_message_15)), ((hm 29), .inl (cy 1, 192, .inl c_streamBlock_16)), ((hm 28), .inl (cy 1, 24, .inl c_streamHash_17)), ((hm 27), .inl (cy 2, 3, .inr (.inl c_taken_18))), ((hm 31), .inl (cy 1, 64, .inl c_w)), ((hm 32), .inl (cy 1, 8, .inl c_x))]) H := hP
    replace hD : va_D A ([(h0, .inr (12, zmo hm (0 : Int32) c_state c_test c_words c_ill c_before c_inRow c_first c_inWindow c_same c_made c_requests c_total_13 c_secrets c_rounds c_high c_low c_keyHigh c_keyLow)), ((hm 0), .inl (cy 1, 64, .inl c_ROUND)), ((hm 47), .inl (cy 1, 8, .inl c_START)), ((hm 6), .inl (cy 1, 512, .inl c_buffer)), ((hm 5), .inl (cy 1, 3, .inl c_counters)), ((hm 35), .inl (cy 1, 32, .inl c_digest)), ((hm 30), .inl (cy 1, 8, .inl c_h_14)), ((hm 33), .inl (cy 1, 64, .inl c_message_15)), ((hm 29), .inl (cy 1, 192, .inl c_streamBlock_16)), ((hm 28), .inl (cy 1, 24, .inl c_streamHash_17)), ((hm 27), .inl (cy 2, 3, .inr (.inl c_taken_18))), ((hm 31), .inl (cy 1, 64, .inl c_w)), ((hm 32), .inl (cy 1, 8, .inl c_x))]) := hD
    refine W.eq (g2 := F0 m 139 ls []) rfl ?_
    refine lv_iload_n (pc := 139) hx hb (zdt_at zt_X10_hash_1 11 rfl) rfl (lv_at hl 3 rfl) ?_
    refine lv_iconst (pc := 140) (v := (1 : Int32)) hx hb (zdt_at zt_X10_hash_1 12 rfl) (by decide) ?_
    refine lv_icmp_ne (pc := 141) (tgt := 185) hx hb (zdt_at zt_X10_hash_1 13 rfl) (by decide) (fun cn_ => ?t_19) (fun cn_ => ?f_20)
    case f_20 =>
      replace hf := zt_s cn_ hf
      clear cn_
      refine lv_iconst (pc := 144) (v := (0 : Int32)) hx hb (zdt_at zt_X10_hash_1 14 rfl) (by decide) ?_
      refine lv_istore (pc := 145) (lv' := [(6, .int (0 : Int32)), (5, .int r_8), (4, .int v_4), (0, .ref h0), (1, .int p1), (2, .int p2), (3, .int p3)]) hx hb (zdt_at zt_X10_hash_1 15 rfl) hl (by decide) rfl ?_
      clear hl
      intro ls hl
      replace hf := zj_s hf
      obtain ⟨K_48, eK_48, hf⟩ := hf
      have kK_48 : ∀ (c_h_43 : Nat → Int32) (c_message_44 : Nat → Int32) (c_total_45 : Int64) (c_w_46 : Nat → Int32) (c_x_47 : Nat → Int32) (H : Heap) (locs : List Loc) (ls : Array Slot), va_P D vwCl ([(h0, .inr (12, zmo hm (0 : Int32) c_state c_test c_words c_ill c_before c_inRow c_first c_inWindow c_same c_made c_requests c_total_45 c_secrets c_rounds c_high c_low c_keyHigh c_keyLow)), ((hm 0), .inl (cy 1, 64, .inl c_ROUND)), ((hm 47), .inl (cy 1, 8, .inl c_START)), ((hm 6), .inl (cy 1, 512, .inl c_buffer)), ((hm 5), .inl (cy 1, 3, .inl c_counters)), ((hm 35), .inl (cy 1, 32, .inl c_digest)), ((hm 30), .inl (cy 1, 8, .inl c_h_43)), ((hm 33), .inl (cy 1, 64, .inl c_message_44)), ((hm 29), .inl (cy 1, 192, .inl c_streamBlock_16)), ((hm 28), .inl (cy 1, 24, .inl c_streamHash_17)), ((hm 27), .inl (cy 2, 3, .inr (.inl c_taken_18))), ((hm 31), .inl (cy 1, 64, .inl c_w_46)), ((hm 32), .inl (cy 1, 8, .inl c_x_47))]) H → va_D A ([(h0, .inr (12, zmo hm (0 : Int32) c_state c_test c_words c_ill c_before c_inRow c_first c_inWindow c_same c_made c_requests c_total_45 c_secrets c_rounds c_high c_low c_keyHigh c_keyLow)), ((hm 0), .inl (cy 1, 64, .inl c_ROUND)), ((hm 47), .inl (cy 1, 8, .inl c_START)), ((hm 6), .inl (cy 1, 512, .inl c_buffer)), ((hm 5), .inl (cy 1, 3, .inl c_counters)), ((hm 35), .inl (cy 1, 32, .inl c_digest)), ((hm 30), .inl (cy 1, 8, .inl c_h_43)), ((hm 33), .inl (cy 1, 64, .inl c_message_44)), ((hm 29), .inl (cy 1, 192, .inl c_streamBlock_16)), ((hm 28), .inl (cy 1, 24, .inl c_streamHash_17)), ((hm 27), .inl (cy 2, 3, .inr (.inl c_taken_18))), ((hm 31), .inl (cy 1, 64, .inl c_w_46)), ((hm 32), .inl (cy 1, 8, .inl c_x_47))]) → va_S A s.heap H locs → lv_has ls 7 [(0, .ref h0), (3, .int p3), (5, .int r_8)] → K_48 c_h_43 c_message_44 c_total_45 c_w_46 c_x_47 = some (r_, c_thrown', c_total', c_buffer', c_counters', c_digest', c_h', c_message', c_streamBlock', c_streamHash', c_taken', c_w', c_x') → GW H locs (F0 m 172 ls []) := by
        clear hf hl hP hD hS
        intro c_h_43 c_message_44 c_total_45 c_w_46 c_x_47 H locs ls hP hD hS hl hf
        rw [eK_48] at hf
        clear eK_48
        refine hFr _ _ _ ?_
        refine lv_aload_n (pc := 172) hx hb (zdt_at zt_X10_hash_1 29 rfl) rfl (lv_at hl 0 rfl) ?_
        refine lv_iload (pc := 173) hx hb (zdt_at zt_X10_hash_1 30 rfl) (lv_at hl 2 rfl) ?_
        refine lv_iconst (pc := 175) (v := (1 : Int32)) hx hb (zdt_at zt_X10_hash_1 31 rfl) (by decide) ?_
        replace hf := zb_s hf
        obtain ⟨⟨c_total_49, c_h_50, c_message_51, c_streamBlock_52, c_streamHash_53, c_taken_54⟩, hc_, hf⟩ := hf
        refine zcn2 (pc := 176) (rv := none) (va_runV (As := [.int r_8, .int (1 : Int32)]) (rest := []) ⟨hx, hb, hml, hown, hts⟩ (c_X10_swap l D cy tt H.size h0 hm r_8 (1 : Int32) c_total_45 c_h_43 c_message_44 c_streamBlock_16 c_streamHash_17 c_taken_18 (0 : Int32) c_state c_test c_words c_ill c_before c_inRow c_first c_inWindow c_same c_made c_requests c_secrets c_rounds c_high c_low c_keyHigh c_keyLow c_total_49 c_h_50 c_message_51 c_streamBlock_52 c_streamHash_53 c_taken_54 hc_) (cwV 2 hts gX10_hash_X10_swap rfl rfl rfl (by decide +kernel) ⟨Nat.le_of_ble_eq_true rfl, Nat.le_of_ble_eq_true rfl⟩) ⟨zblind, va_recv hK hP (ci := 12) (q0 := 0) rfl rfl, zpre hE hS (hP.sub [0, 6, 7, 8, 9, 10] rfl) (hD.sub [0, 6, 7, 8, 9, 10] (by decide) rfl) (va_free hD hS hA [0, 6, 7, 8, 9, 10] rfl)⟩ rfl rfl hl.1 rfl (lv_room (Nat.le_of_ble_eq_true rfl)) (zdt_at zt_X10_hash_1 32 rfl) ⟨Nat.zero_le _, Nat.zero_le _⟩) hS hP hD (va_free hD hS hA [0, 6, 7, 8, 9, 10] rfl) [0, 6, 7, 8, 9, 10] rfl (by decide) rfl ?_
        clear hP hD hS hc_
        intro H locs hP hD hS
        replace hP : va_P D vwCl ([(h0, .inr (12, zmo hm (0 : Int32) c_state c_test c_words c_ill c_before c_inRow c_first c_inWindow c_same c_made c_requests c_total_49 c_secrets c_rounds c_high c_low c_keyHigh c_keyLow)), ((hm 0), .inl (cy 1, 64, .inl c_ROUND)), ((hm 47), .inl (cy 1, 8, .inl c_START)), ((hm 6), .inl (cy 1, 512, .inl c_buffer)), ((hm 5), .inl (cy 1, 3, .inl c_counters)), ((hm 35), .inl (cy 1, 32, .inl c_digest)), ((hm 30), .inl (cy 1, 8, .inl c_h_50)), ((hm 33), .inl (cy 1, 64, .inl c_message_51)), ((hm 29), .inl (cy 1, 192, .inl c_streamBlock_52)), ((hm 28), .inl (cy 1, 24, .inl c_streamHash_53)), ((hm 27), .inl (cy 2, 3, .inr (.inl c_taken_54))), ((hm 31), .inl (cy 1, 64, .inl c_w_46)), ((hm 32), .inl (cy 1, 8, .inl c_x_47))]) H := hP
        replace hD : va_D A ([(h0, .inr (12, zmo hm (0 : Int32) c_state c_test c_words c_ill c_before c_inRow c_first c_inWindow c_same c_made c_requests c_total_49 c_secrets c_rounds c_high c_low c_keyHigh c_keyLow)), ((hm 0), .inl (cy 1, 64, .inl c_ROUND)), ((hm 47), .inl (cy 1, 8, .inl c_START)), ((hm 6), .inl (cy 1, 512, .inl c_buffer)), ((hm 5), .inl (cy 1, 3, .inl c_counters)), ((hm 35), .inl (cy 1, 32, .inl c_digest)), ((hm 30), .inl (cy 1, 8, .inl c_h_50)), ((hm 33), .inl (cy 1, 64, .inl c_message_51)), ((hm 29), .inl (cy 1, 192, .inl c_streamBlock_52)), ((hm 28), .inl (cy 1, 24, .inl c_streamHash_53)), ((hm 27), .inl (cy 2, 3, .inr (.inl c_taken_54))), ((hm 31), .inl (cy 1, 64, .inl c_w_46)), ((hm 32), .inl (cy 1, 8, .inl c_x_47))]) := hD
        refine W.eq (g2 := F0 m 179 ls []) rfl ?_
        refine lv_aload_n (pc := 179) hx hb (zdt_at zt_X10_hash_1 33 rfl) rfl (lv_at hl 0 rfl) ?_
        refine lv_iload_n (pc := 180) hx hb (zdt_at zt_X10_hash_1 34 rfl) rfl (lv_at hl 1 rfl) ?_
        replace hf := zb_s hf
        obtain ⟨⟨r_55, c_counters_56⟩, hc_, hf⟩ := hf
        refine zcn2 (pc := 181) (rv := (some (.int r_55))) (va_runV (As := [.int p3]) (rest := []) ⟨hx, hb, hml, hown, hts⟩ (c_X10_answer l D cy tt H.size h0 hm p3 c_counters (0 : Int32) c_state c_test c_words c_ill c_before c_inRow c_first c_inWindow c_same c_made c_requests c_total_49 c_secrets c_rounds c_high c_low c_keyHigh c_keyLow r_55 c_counters_56 hc_) (cwV 1 hts gX10_hash_X10_answer rfl rfl rfl (by decide +kernel) ⟨Nat.le_of_ble_eq_true rfl, Nat.le_of_ble_eq_true rfl⟩) ⟨zblind, va_recv hK hP (ci := 12) (q0 := 0) rfl rfl, zpre hE hS (hP.sub [0, 4] rfl) (hD.sub [0, 4] (by decide) rfl) (va_free hD hS hA [0, 4] rfl)⟩ rfl rfl hl.1 rfl (lv_room (Nat.le_of_ble_eq_true rfl)) (zdt_at zt_X10_hash_1 35 rfl) ⟨Nat.zero_le _, Nat.zero_le _⟩) hS hP hD (va_free hD hS hA [0, 4] rfl) [0, 4] rfl (by decide) rfl ?_
        clear hP hD hS hc_
        intro H locs hP hD hS
        replace hP : va_P D vwCl ([(h0, .inr (12, zmo hm (0 : Int32) c_state c_test c_words c_ill c_before c_inRow c_first c_inWindow c_same c_made c_requests c_total_49 c_secrets c_rounds c_high c_low c_keyHigh c_keyLow)), ((hm 0), .inl (cy 1, 64, .inl c_ROUND)), ((hm 47), .inl (cy 1, 8, .inl c_START)), ((hm 6), .inl (cy 1, 512, .inl c_buffer)), ((hm 5), .inl (cy 1, 3, .inl c_counters_56)), ((hm 35), .inl (cy 1, 32, .inl c_digest)), ((hm 30), .inl (cy 1, 8, .inl c_h_50)), ((hm 33), .inl (cy 1, 64, .inl c_message_51)), ((hm 29), .inl (cy 1, 192, .inl c_streamBlock_52)), ((hm 28), .inl (cy 1, 24, .inl c_streamHash_53)), ((hm 27), .inl (cy 2, 3, .inr (.inl c_taken_54))), ((hm 31), .inl (cy 1, 64, .inl c_w_46)), ((hm 32), .inl (cy 1, 8, .inl c_x_47))]) H := hP
        replace hD : va_D A ([(h0, .inr (12, zmo hm (0 : Int32) c_state c_test c_words c_ill c_before c_inRow c_first c_inWindow c_same c_made c_requests c_total_49 c_secrets c_rounds c_high c_low c_keyHigh c_keyLow)), ((hm 0), .inl (cy 1, 64, .inl c_ROUND)), ((hm 47), .inl (cy 1, 8, .inl c_START)), ((hm 6), .inl (cy 1, 512, .inl c_buffer)), ((hm 5), .inl (cy 1, 3, .inl c_counters_56)), ((hm 35), .inl (cy 1, 32, .inl c_digest)), ((hm 30), .inl (cy 1, 8, .inl c_h_50)), ((hm 33), .inl (cy 1, 64, .inl c_message_51)), ((hm 29), .inl (cy 1, 192, .inl c_streamBlock_52)), ((hm 28), .inl (cy 1, 24, .inl c_streamHash_53)), ((hm 27), .inl (cy 2, 3, .inr (.inl c_taken_54))), ((hm 31), .inl (cy 1, 64, .inl c_w_46)), ((hm 32), .inl (cy 1, 8, .inl c_x_47))]) := hD
        refine W.eq (g2 := F0 m 184 ls [.int r_55]) rfl ?_
        cases hf
        exact W.iret (pc := 184) hx hb hr (fun t ht hW => ⟨rfl, ⟨by rw [ht]; exact hP, hD⟩, hS.F ht⟩) hS.2.2 (zdt_at zt_X10_hash_1 36 rfl)
      clear eK_48
      refine hTo _ _ _ (zl_go (fun z => match z with | (i_37, c_h_38, c_message_39, c_total_40, c_w_41, c_x_42) => ∀ (H : Heap) (locs : List Loc) (ls : Array Slot), va_P D vwCl ([(h0, .inr (12, zmo hm (0 : Int32) c_state c_test c_words c_ill c_before c_inRow c_first c_inWindow c_same c_made c_requests c_total_40 c_secrets c_rounds c_high c_low c_keyHigh c_keyLow)), ((hm 0), .inl (cy 1, 64, .inl c_ROUND)), ((hm 47), .inl (cy 1, 8, .inl c_START)), ((hm 6), .inl (cy 1, 512, .inl c_buffer)), ((hm 5), .inl (cy 1, 3, .inl c_counters)), ((hm 35), .inl (cy 1, 32, .inl c_digest)), ((hm 30), .inl (cy 1, 8, .inl c_h_38)), ((hm 33), .inl (cy 1, 64, .inl c_message_39)), ((hm 29), .inl (cy 1, 192, .inl c_streamBlock_16)), ((hm 28), .inl (cy 1, 24, .inl c_streamHash_17)), ((hm 27), .inl (cy 2, 3, .inr (.inl c_taken_18))), ((hm 31), .inl (cy 1, 64, .inl c_w_41)), ((hm 32), .inl (cy 1, 8, .inl c_x_42))]) H → va_D A ([(h0, .inr (12, zmo hm (0 : Int32) c_state c_test c_words c_ill c_before c_inRow c_first c_inWindow c_same c_made c_requests c_total_40 c_secrets c_rounds c_high c_low c_keyHigh c_keyLow)), ((hm 0), .inl (cy 1, 64, .inl c_ROUND)), ((hm 47), .inl (cy 1, 8, .inl c_START)), ((hm 6), .inl (cy 1, 512, .inl c_buffer)), ((hm 5), .inl (cy 1, 3, .inl c_counters)), ((hm 35), .inl (cy 1, 32, .inl c_digest)), ((hm 30), .inl (cy 1, 8, .inl c_h_38)), ((hm 33), .inl (cy 1, 64, .inl c_message_39)), ((hm 29), .inl (cy 1, 192, .inl c_streamBlock_16)), ((hm 28), .inl (cy 1, 24, .inl c_streamHash_17)), ((hm 27), .inl (cy 2, 3, .inr (.inl c_taken_18))), ((hm 31), .inl (cy 1, 64, .inl c_w_41)), ((hm 32), .inl (cy 1, 8, .inl c_x_42))]) → va_S A s.heap H locs → lv_has ls 7 [(0, .ref h0), (2, .int p2), (3, .int p3), (5, .int r_8), (6, .int i_37)] → GW H locs (F0 m 147 ls [])) hf ?_ H locs ls hP hD hS (lv_sub hl [3, 5, 6, 1, 0] rfl))
      clear hf hl hP hD hS
      intro self_57 ihself_57 z hf
      obtain ⟨i_37, c_h_38, c_message_39, c_total_40, c_w_41, c_x_42⟩ := z
      intro H locs ls hP hD hS hl
      refine hFr _ _ _ ?_
      unfold b_X10_hash_147 at hf
      refine lv_iload (pc := 147) hx hb (zdt_at zt_X10_hash_1 16 rfl) (lv_at hl 4 rfl) ?_
      refine lv_iload_n (pc := 149) hx hb (zdt_at zt_X10_hash_1 17 rfl) rfl (lv_at hl 2 rfl) ?_
      refine lv_icmp_ge (pc := 150) (tgt := 172) hx hb (zdt_at zt_X10_hash_1 18 rfl) (by decide) (fun cn_ => ?t_58) (fun cn_ => ?f_59)
      case t_58 =>
        replace hf := zt_s cn_ hf
        clear cn_
        exact hTo _ _ _ (kK_48 _ _ _ _ _ H locs ls hP hD hS (lv_sub hl [0, 2, 3] rfl) hf)
      replace hf := ze_s cn_ hf
      clear cn_
      refine lv_aload_n (pc := 153) hx hb (zdt_at zt_X10_hash_1 19 rfl) rfl (lv_at hl 0 rfl) ?_
      refine lv_aload_n (pc := 154) hx hb (zdt_at zt_X10_hash_1 20 rfl) rfl (lv_at hl 0 rfl) ?_
      refine va_get (pc := 155) (D := D) (ci := 12) (v := .ref (hm 6)) (C := RX10) (T := TX10) (N := 52) hx hb hts hcX10 hown hK hP 0 rfl rfl 6 (by decide) hw2 (fun _ h9 => h9) rfl (zdt_at zt_X10_hash_1 21 rfl) ?_
      refine lv_iload_n (pc := 158) hx hb (zdt_at zt_X10_hash_1 22 rfl) rfl (lv_at hl 1 rfl) ?_
      refine lv_iload (pc := 159) hx hb (zdt_at zt_X10_hash_1 23 rfl) (lv_at hl 4 rfl) ?_
      refine lv_iadd (pc := 161) hx hb (zdt_at zt_X10_hash_1 24 rfl) ?_
      replace hf := zk_s hf
      refine va_iald (pc := 162) hx hb hK hP 3 1 rfl rfl hf.1 (zdt_at zt_X10_hash_1 25 rfl) ?_
      replace hf := hf.2
      replace hf := zb_s hf
      obtain ⟨⟨c_total_60, c_h_61, c_message_62, c_w_63, c_x_64⟩, hc_, hf⟩ := hf
      refine zcn2 (pc := 163) (rv := none) (va_runV (As := [.int (c_buffer (p2 + i_37).toNatClampNeg)]) (rest := []) ⟨hx, hb, hml, hown, hts⟩ (c_X10_say l D cy tt H.size h0 hm (c_buffer (p2 + i_37).toNatClampNeg) c_total_40 c_ROUND c_h_38 c_message_39 c_w_41 c_x_42 (0 : Int32) c_state c_test c_words c_ill c_before c_inRow c_first c_inWindow c_same c_made c_requests c_secrets c_rounds c_high c_low c_keyHigh c_keyLow c_total_60 c_h_61 c_message_62 c_w_63 c_x_64 hc_) (cwV 1 hts gX10_hash_X10_say rfl rfl rfl (by decide +kernel) ⟨Nat.le_of_ble_eq_true rfl, Nat.le_of_ble_eq_true rfl⟩) ⟨zblind, va_recv hK hP (ci := 12) (q0 := 0) rfl rfl, zpre hE hS (hP.sub [0, 1, 6, 7, 11, 12] rfl) (hD.sub [0, 1, 6, 7, 11, 12] (by decide) rfl) (va_free hD hS hA [0, 1, 6, 7, 11, 12] rfl)⟩ rfl rfl hl.1 rfl (lv_room (Nat.le_of_ble_eq_true rfl)) (zdt_at zt_X10_hash_1 26 rfl) ⟨Nat.zero_le _, Nat.zero_le _⟩) hS hP hD (va_free hD hS hA [0, 1, 6, 7, 11, 12] rfl) [0, 1, 6, 7, 11, 12] rfl (by decide) rfl ?_
      clear hP hD hS hc_
      intro H locs hP hD hS
      replace hP : va_P D vwCl ([(h0, .inr (12, zmo hm (0 : Int32) c_state c_test c_words c_ill c_before c_inRow c_first c_inWindow c_same c_made c_requests c_total_60 c_secrets c_rounds c_high c_low c_keyHigh c_keyLow)), ((hm 0), .inl (cy 1, 64, .inl c_ROUND)), ((hm 47), .inl (cy 1, 8, .inl c_START)), ((hm 6), .inl (cy 1, 512, .inl c_buffer)), ((hm 5), .inl (cy 1, 3, .inl c_counters)), ((hm 35), .inl (cy 1, 32, .inl c_digest)), ((hm 30), .inl (cy 1, 8, .inl c_h_61)), ((hm 33), .inl (cy 1, 64, .inl c_message_62)), ((hm 29), .inl (cy 1, 192, .inl c_streamBlock_16)), ((hm 28), .inl (cy 1, 24, .inl c_streamHash_17)), ((hm 27), .inl (cy 2, 3, .inr (.inl c_taken_18))), ((hm 31), .inl (cy 1, 64, .inl c_w_63)), ((hm 32), .inl (cy 1, 8, .inl c_x_64))]) H := hP
      replace hD : va_D A ([(h0, .inr (12, zmo hm (0 : Int32) c_state c_test c_words c_ill c_before c_inRow c_first c_inWindow c_same c_made c_requests c_total_60 c_secrets c_rounds c_high c_low c_keyHigh c_keyLow)), ((hm 0), .inl (cy 1, 64, .inl c_ROUND)), ((hm 47), .inl (cy 1, 8, .inl c_START)), ((hm 6), .inl (cy 1, 512, .inl c_buffer)), ((hm 5), .inl (cy 1, 3, .inl c_counters)), ((hm 35), .inl (cy 1, 32, .inl c_digest)), ((hm 30), .inl (cy 1, 8, .inl c_h_61)), ((hm 33), .inl (cy 1, 64, .inl c_message_62)), ((hm 29), .inl (cy 1, 192, .inl c_streamBlock_16)), ((hm 28), .inl (cy 1, 24, .inl c_streamHash_17)), ((hm 27), .inl (cy 2, 3, .inr (.inl c_taken_18))), ((hm 31), .inl (cy 1, 64, .inl c_w_63)), ((hm 32), .inl (cy 1, 8, .inl c_x_64))]) := hD
      refine W.eq (g2 := F0 m 166 ls []) rfl ?_
      refine lv_iinc (pc := 166) (v := (i_37 + (1 : Int32))) (lv' := [(6, .int (i_37 + (1 : Int32))), (0, .ref h0), (2, .int p2), (3, .int p3), (5, .int r_8)]) hx hb (zdt_at zt_X10_hash_1 27 rfl) hl (k := 4) rfl rfl (by decide) rfl ?_
      clear hl
      intro ls hl
      refine lv_goto (pc := 169) (tgt := 147) hx hb (zdt_at zt_X10_hash_1 28 rfl) (by decide) ?_
      exact hTo _ _ _ (ihself_57 _ hf H locs ls hP hD hS (lv_sub hl [1, 2, 3, 4, 0] rfl))
    replace hf := ze_s cn_ hf
    clear cn_
    refine lv_aload_n (pc := 185) hx hb (zdt_at zt_X10_hash_1 37 rfl) rfl (lv_at hl 2 rfl) ?_
    replace hf := zb_s hf
    obtain ⟨⟨c_total_21, c_digest_22, c_h_23, c_message_24, c_w_25, c_x_26⟩, hc_, hf⟩ := hf
    refine zcn2 (pc := 186) (rv := none) (va_runV (As := []) (rest := []) ⟨hx, hb, hml, hown, hts⟩ (c_X10_finish l D cy tt H.size h0 hm c_total_13 c_ROUND c_digest c_h_14 c_message_15 c_w c_x (0 : Int32) c_state c_test c_words c_ill c_before c_inRow c_first c_inWindow c_same c_made c_requests c_secrets c_rounds c_high c_low c_keyHigh c_keyLow c_total_21 c_digest_22 c_h_23 c_message_24 c_w_25 c_x_26 hc_) (cwV 0 hts gX10_hash_X10_finish rfl rfl rfl (by decide +kernel) ⟨Nat.le_of_ble_eq_true rfl, Nat.le_of_ble_eq_true rfl⟩) ⟨zblind, va_recv hK hP (ci := 12) (q0 := 0) rfl rfl, zpre hE hS (hP.sub [0, 1, 5, 6, 7, 11, 12] rfl) (hD.sub [0, 1, 5, 6, 7, 11, 12] (by decide) rfl) (va_free hD hS hA [0, 1, 5, 6, 7, 11, 12] rfl)⟩ rfl rfl hl.1 rfl (lv_room (Nat.le_of_ble_eq_true rfl)) (zdt_at zt_X10_hash_1 38 rfl) ⟨Nat.zero_le _, Nat.zero_le _⟩) hS hP hD (va_free hD hS hA [0, 1, 5, 6, 7, 11, 12] rfl) [0, 1, 5, 6, 7, 11, 12] rfl (by decide) rfl ?_
    clear hP hD hS hc_
    intro H locs hP hD hS
    replace hP : va_P D vwCl ([(h0, .inr (12, zmo hm (0 : Int32) c_state c_test c_words c_ill c_before c_inRow c_first c_inWindow c_same c_made c_requests c_total_21 c_secrets c_rounds c_high c_low c_keyHigh c_keyLow)), ((hm 0), .inl (cy 1, 64, .inl c_ROUND)), ((hm 47), .inl (cy 1, 8, .inl c_START)), ((hm 6), .inl (cy 1, 512, .inl c_buffer)), ((hm 5), .inl (cy 1, 3, .inl c_counters)), ((hm 35), .inl (cy 1, 32, .inl c_digest_22)), ((hm 30), .inl (cy 1, 8, .inl c_h_23)), ((hm 33), .inl (cy 1, 64, .inl c_message_24)), ((hm 29), .inl (cy 1, 192, .inl c_streamBlock_16)), ((hm 28), .inl (cy 1, 24, .inl c_streamHash_17)), ((hm 27), .inl (cy 2, 3, .inr (.inl c_taken_18))), ((hm 31), .inl (cy 1, 64, .inl c_w_25)), ((hm 32), .inl (cy 1, 8, .inl c_x_26))]) H := hP
    replace hD : va_D A ([(h0, .inr (12, zmo hm (0 : Int32) c_state c_test c_words c_ill c_before c_inRow c_first c_inWindow c_same c_made c_requests c_total_21 c_secrets c_rounds c_high c_low c_keyHigh c_keyLow)), ((hm 0), .inl (cy 1, 64, .inl c_ROUND)), ((hm 47), .inl (cy 1, 8, .inl c_START)), ((hm 6), .inl (cy 1, 512, .inl c_buffer)), ((hm 5), .inl (cy 1, 3, .inl c_counters)), ((hm 35), .inl (cy 1, 32, .inl c_digest_22)), ((hm 30), .inl (cy 1, 8, .inl c_h_23)), ((hm 33), .inl (cy 1, 64, .inl c_message_24)), ((hm 29), .inl (cy 1, 192, .inl c_streamBlock_16)), ((hm 28), .inl (cy 1, 24, .inl c_streamHash_17)), ((hm 27), .inl (cy 2, 3, .inr (.inl c_taken_18))), ((hm 31), .inl (cy 1, 64, .inl c_w_25)), ((hm 32), .inl (cy 1, 8, .inl c_x_26))]) := hD
    refine W.eq (g2 := F0 m 189 ls []) rfl ?_
    refine lv_iconst (pc := 189) (v := (0 : Int32)) hx hb (zdt_at zt_X10_hash_1 39 rfl) (by decide) ?_
    refine lv_istore (pc := 190) (lv' := [(6, .int (0 : Int32)), (5, .int r_8), (4, .int v_4), (0, .ref h0), (1, .int p1), (2, .int p2), (3, .int p3)]) hx hb (zdt_at zt_X10_hash_1 40 rfl) hl (by decide) rfl ?_
    clear hl
    intro ls hl
    replace hf := zj_s hf
    obtain ⟨K_30, eK_30, hf⟩ := hf
    have kK_30 : ∀ (c_buffer_29 : Nat → Int32) (H : Heap) (locs : List Loc) (ls : Array Slot), va_P D vwCl ([(h0, .inr (12, zmo hm (0 : Int32) c_state c_test c_words c_ill c_before c_inRow c_first c_inWindow c_same c_made c_requests c_total_21 c_secrets c_rounds c_high c_low c_keyHigh c_keyLow)), ((hm 0), .inl (cy 1, 64, .inl c_ROUND)), ((hm 47), .inl (cy 1, 8, .inl c_START)), ((hm 6), .inl (cy 1, 512, .inl c_buffer_29)), ((hm 5), .inl (cy 1, 3, .inl c_counters)), ((hm 35), .inl (cy 1, 32, .inl c_digest_22)), ((hm 30), .inl (cy 1, 8, .inl c_h_23)), ((hm 33), .inl (cy 1, 64, .inl c_message_24)), ((hm 29), .inl (cy 1, 192, .inl c_streamBlock_16)), ((hm 28), .inl (cy 1, 24, .inl c_streamHash_17)), ((hm 27), .inl (cy 2, 3, .inr (.inl c_taken_18))), ((hm 31), .inl (cy 1, 64, .inl c_w_25)), ((hm 32), .inl (cy 1, 8, .inl c_x_26))]) H → va_D A ([(h0, .inr (12, zmo hm (0 : Int32) c_state c_test c_words c_ill c_before c_inRow c_first c_inWindow c_same c_made c_requests c_total_21 c_secrets c_rounds c_high c_low c_keyHigh c_keyLow)), ((hm 0), .inl (cy 1, 64, .inl c_ROUND)), ((hm 47), .inl (cy 1, 8, .inl c_START)), ((hm 6), .inl (cy 1, 512, .inl c_buffer_29)), ((hm 5), .inl (cy 1, 3, .inl c_counters)), ((hm 35), .inl (cy 1, 32, .inl c_digest_22)), ((hm 30), .inl (cy 1, 8, .inl c_h_23)), ((hm 33), .inl (cy 1, 64, .inl c_message_24)), ((hm 29), .inl (cy 1, 192, .inl c_streamBlock_16)), ((hm 28), .inl (cy 1, 24, .inl c_streamHash_17)), ((hm 27), .inl (cy 2, 3, .inr (.inl c_taken_18))), ((hm 31), .inl (cy 1, 64, .inl c_w_25)), ((hm 32), .inl (cy 1, 8, .inl c_x_26))]) → va_S A s.heap H locs → lv_has ls 7 [(0, .ref h0)] → K_30 c_buffer_29 = some (r_, c_thrown', c_total', c_buffer', c_counters', c_digest', c_h', c_message', c_streamBlock', c_streamHash', c_taken', c_w', c_x') → GW H locs (F0 m 221 ls []) := by
      clear hf hl hP hD hS
      intro c_buffer_29 H locs ls hP hD hS hl hf
      rw [eK_30] at hf
      clear eK_30
      refine hFr _ _ _ ?_
      refine lv_aload_n (pc := 221) hx hb (zdt_at zt_X10_hash_1 56 rfl) rfl (lv_at hl 0 rfl) ?_
      refine lv_bipush (pc := 222) (v := (32 : Int32)) hx hb (zdt_at zt_X10_hash_1 57 rfl) (by decide) ?_
      replace hf := zb_s hf
      obtain ⟨⟨r_31, c_counters_32⟩, hc_, hf⟩ := hf
      refine zcn2 (pc := 224) (rv := (some (.int r_31))) (va_runV (As := [.int (32 : Int32)]) (rest := []) ⟨hx, hb, hml, hown, hts⟩ (c_X10_answer l D cy tt H.size h0 hm (32 : Int32) c_counters (0 : Int32) c_state c_test c_words c_ill c_before c_inRow c_first c_inWindow c_same c_made c_requests c_total_21 c_secrets c_rounds c_high c_low c_keyHigh c_keyLow r_31 c_counters_32 hc_) (cwV 1 hts gX10_hash_X10_answer rfl rfl rfl (by decide +kernel) ⟨Nat.le_of_ble_eq_true rfl, Nat.le_of_ble_eq_true rfl⟩) ⟨zblind, va_recv hK hP (ci := 12) (q0 := 0) rfl rfl, zpre hE hS (hP.sub [0, 4] rfl) (hD.sub [0, 4] (by decide) rfl) (va_free hD hS hA [0, 4] rfl)⟩ rfl rfl hl.1 rfl (lv_room (Nat.le_of_ble_eq_true rfl)) (zdt_at zt_X10_hash_1 58 rfl) ⟨Nat.zero_le _, Nat.zero_le _⟩) hS hP hD (va_free hD hS hA [0, 4] rfl) [0, 4] rfl (by decide) rfl ?_
      clear hP hD hS hc_
      intro H locs hP hD hS
      replace hP : va_P D vwCl ([(h0, .inr (12, zmo hm (0 : Int32) c_state c_test c_words c_ill c_before c_inRow c_first c_inWindow c_same c_made c_requests c_total_21 c_secrets c_rounds c_high c_low c_keyHigh c_keyLow)), ((hm 0), .inl (cy 1, 64, .inl c_ROUND)), ((hm 47), .inl (cy 1, 8, .inl c_START)), ((hm 6), .inl (cy 1, 512, .inl c_buffer_29)), ((hm 5), .inl (cy 1, 3, .inl c_counters_32)), ((hm 35), .inl (cy 1, 32, .inl c_digest_22)), ((hm 30), .inl (cy 1, 8, .inl c_h_23)), ((hm 33), .inl (cy 1, 64, .inl c_message_24)), ((hm 29), .inl (cy 1, 192, .inl c_streamBlock_16)), ((hm 28), .inl (cy 1, 24, .inl c_streamHash_17)), ((hm 27), .inl (cy 2, 3, .inr (.inl c_taken_18))), ((hm 31), .inl (cy 1, 64, .inl c_w_25)), ((hm 32), .inl (cy 1, 8, .inl c_x_26))]) H := hP
      replace hD : va_D A ([(h0, .inr (12, zmo hm (0 : Int32) c_state c_test c_words c_ill c_before c_inRow c_first c_inWindow c_same c_made c_requests c_total_21 c_secrets c_rounds c_high c_low c_keyHigh c_keyLow)), ((hm 0), .inl (cy 1, 64, .inl c_ROUND)), ((hm 47), .inl (cy 1, 8, .inl c_START)), ((hm 6), .inl (cy 1, 512, .inl c_buffer_29)), ((hm 5), .inl (cy 1, 3, .inl c_counters_32)), ((hm 35), .inl (cy 1, 32, .inl c_digest_22)), ((hm 30), .inl (cy 1, 8, .inl c_h_23)), ((hm 33), .inl (cy 1, 64, .inl c_message_24)), ((hm 29), .inl (cy 1, 192, .inl c_streamBlock_16)), ((hm 28), .inl (cy 1, 24, .inl c_streamHash_17)), ((hm 27), .inl (cy 2, 3, .inr (.inl c_taken_18))), ((hm 31), .inl (cy 1, 64, .inl c_w_25)), ((hm 32), .inl (cy 1, 8, .inl c_x_26))]) := hD
      refine W.eq (g2 := F0 m 227 ls [.int r_31]) rfl ?_
      cases hf
      exact W.iret (pc := 227) hx hb hr (fun t ht hW => ⟨rfl, ⟨by rw [ht]; exact hP, hD⟩, hS.F ht⟩) hS.2.2 (zdt_at zt_X10_hash_1 59 rfl)
    clear eK_30
    refine hTo _ _ _ (zl_go (fun z => match z with | (i_27, c_buffer_28) => ∀ (H : Heap) (locs : List Loc) (ls : Array Slot), va_P D vwCl ([(h0, .inr (12, zmo hm (0 : Int32) c_state c_test c_words c_ill c_before c_inRow c_first c_inWindow c_same c_made c_requests c_total_21 c_secrets c_rounds c_high c_low c_keyHigh c_keyLow)), ((hm 0), .inl (cy 1, 64, .inl c_ROUND)), ((hm 47), .inl (cy 1, 8, .inl c_START)), ((hm 6), .inl (cy 1, 512, .inl c_buffer_28)), ((hm 5), .inl (cy 1, 3, .inl c_counters)), ((hm 35), .inl (cy 1, 32, .inl c_digest_22)), ((hm 30), .inl (cy 1, 8, .inl c_h_23)), ((hm 33), .inl (cy 1, 64, .inl c_message_24)), ((hm 29), .inl (cy 1, 192, .inl c_streamBlock_16)), ((hm 28), .inl (cy 1, 24, .inl c_streamHash_17)), ((hm 27), .inl (cy 2, 3, .inr (.inl c_taken_18))), ((hm 31), .inl (cy 1, 64, .inl c_w_25)), ((hm 32), .inl (cy 1, 8, .inl c_x_26))]) H → va_D A ([(h0, .inr (12, zmo hm (0 : Int32) c_state c_test c_words c_ill c_before c_inRow c_first c_inWindow c_same c_made c_requests c_total_21 c_secrets c_rounds c_high c_low c_keyHigh c_keyLow)), ((hm 0), .inl (cy 1, 64, .inl c_ROUND)), ((hm 47), .inl (cy 1, 8, .inl c_START)), ((hm 6), .inl (cy 1, 512, .inl c_buffer_28)), ((hm 5), .inl (cy 1, 3, .inl c_counters)), ((hm 35), .inl (cy 1, 32, .inl c_digest_22)), ((hm 30), .inl (cy 1, 8, .inl c_h_23)), ((hm 33), .inl (cy 1, 64, .inl c_message_24)), ((hm 29), .inl (cy 1, 192, .inl c_streamBlock_16)), ((hm 28), .inl (cy 1, 24, .inl c_streamHash_17)), ((hm 27), .inl (cy 2, 3, .inr (.inl c_taken_18))), ((hm 31), .inl (cy 1, 64, .inl c_w_25)), ((hm 32), .inl (cy 1, 8, .inl c_x_26))]) → va_S A s.heap H locs → lv_has ls 7 [(0, .ref h0), (2, .int p2), (6, .int i_27)] → GW H locs (F0 m 192 ls [])) hf ?_ H locs ls hP hD hS (lv_sub hl [3, 5, 0] rfl))
    clear hf hl hP hD hS
    intro self_33 ihself_33 z hf
    obtain ⟨i_27, c_buffer_28⟩ := z
    intro H locs ls hP hD hS hl
    refine hFr _ _ _ ?_
    unfold b_X10_hash_192 at hf
    refine lv_iload (pc := 192) hx hb (zdt_at zt_X10_hash_1 41 rfl) (lv_at hl 2 rfl) ?_
    refine lv_bipush (pc := 194) (v := (32 : Int32)) hx hb (zdt_at zt_X10_hash_1 42 rfl) (by decide) ?_
    refine lv_icmp_ge (pc := 196) (tgt := 221) hx hb (zdt_at zt_X10_hash_1 43 rfl) (by decide) (fun cn_ => ?t_34) (fun cn_ => ?f_35)
    case t_34 =>
      replace hf := zt_s cn_ hf
      clear cn_
      exact hTo _ _ _ (kK_30 _ H locs ls hP hD hS (lv_sub hl [0] rfl) hf)
    replace hf := ze_s cn_ hf
    clear cn_
    refine lv_aload_n (pc := 199) hx hb (zdt_at zt_X10_hash_1 44 rfl) rfl (lv_at hl 0 rfl) ?_
    refine va_get (pc := 200) (D := D) (ci := 12) (v := .ref (hm 6)) (C := RX10) (T := TX10) (N := 52) hx hb hts hcX10 hown hK hP 0 rfl rfl 6 (by decide) hw2 (fun _ h9 => h9) rfl (zdt_at zt_X10_hash_1 45 rfl) ?_
    refine lv_iload_n (pc := 203) hx hb (zdt_at zt_X10_hash_1 46 rfl) rfl (lv_at hl 1 rfl) ?_
    refine lv_iload (pc := 204) hx hb (zdt_at zt_X10_hash_1 47 rfl) (lv_at hl 2 rfl) ?_
    refine lv_iadd (pc := 206) hx hb (zdt_at zt_X10_hash_1 48 rfl) ?_
    refine lv_aload_n (pc := 207) hx hb (zdt_at zt_X10_hash_1 49 rfl) rfl (lv_at hl 0 rfl) ?_
    refine va_get (pc := 208) (D := D) (ci := 12) (v := .ref (hm 35)) (C := RX10) (T := TX10) (N := 52) hx hb hts hcX10 hown hK hP 0 rfl rfl 35 (by decide) hw3 (fun _ h9 => h9) rfl (zdt_at zt_X10_hash_1 50 rfl) ?_
    refine lv_iload (pc := 211) hx hb (zdt_at zt_X10_hash_1 51 rfl) (lv_at hl 2 rfl) ?_
    replace hf := zk_s hf
    refine va_iald (pc := 213) hx hb hK hP 5 1 rfl rfl hf.1 (zdt_at zt_X10_hash_1 52 rfl) ?_
    replace hf := hf.2
    replace hf := zk_s hf
    refine va_iast (pc := 214) hx hb hK hP hD hS 3 1 rfl rfl hf.1 (zdt_at zt_X10_hash_1 53 rfl) ?_
    replace hf := hf.2
    clear hP hD hS
    intro H locs hP hD hS
    obtain ⟨c_buffer_36, e_⟩ : ∃ q : Nat → Int32, q = (upd c_buffer_28 (p2 + i_27).toNatClampNeg (c_digest_22 i_27.toNatClampNeg)) := ⟨_, rfl⟩
    replace hf := zn_s hf e_
    replace hP : va_P D vwCl ([(h0, .inr (12, zmo hm (0 : Int32) c_state c_test c_words c_ill c_before c_inRow c_first c_inWindow c_same c_made c_requests c_total_21 c_secrets c_rounds c_high c_low c_keyHigh c_keyLow)), ((hm 0), .inl (cy 1, 64, .inl c_ROUND)), ((hm 47), .inl (cy 1, 8, .inl c_START)), ((hm 6), .inl (cy 1, 512, .inl c_buffer_36)), ((hm 5), .inl (cy 1, 3, .inl c_counters)), ((hm 35), .inl (cy 1, 32, .inl c_digest_22)), ((hm 30), .inl (cy 1, 8, .inl c_h_23)), ((hm 33), .inl (cy 1, 64, .inl c_message_24)), ((hm 29), .inl (cy 1, 192, .inl c_streamBlock_16)), ((hm 28), .inl (cy 1, 24, .inl c_streamHash_17)), ((hm 27), .inl (cy 2, 3, .inr (.inl c_taken_18))), ((hm 31), .inl (cy 1, 64, .inl c_w_25)), ((hm 32), .inl (cy 1, 8, .inl c_x_26))]) H := by rw [e_]; exact hP
    replace hD : va_D A ([(h0, .inr (12, zmo hm (0 : Int32) c_state c_test c_words c_ill c_before c_inRow c_first c_inWindow c_same c_made c_requests c_total_21 c_secrets c_rounds c_high c_low c_keyHigh c_keyLow)), ((hm 0), .inl (cy 1, 64, .inl c_ROUND)), ((hm 47), .inl (cy 1, 8, .inl c_START)), ((hm 6), .inl (cy 1, 512, .inl c_buffer_36)), ((hm 5), .inl (cy 1, 3, .inl c_counters)), ((hm 35), .inl (cy 1, 32, .inl c_digest_22)), ((hm 30), .inl (cy 1, 8, .inl c_h_23)), ((hm 33), .inl (cy 1, 64, .inl c_message_24)), ((hm 29), .inl (cy 1, 192, .inl c_streamBlock_16)), ((hm 28), .inl (cy 1, 24, .inl c_streamHash_17)), ((hm 27), .inl (cy 2, 3, .inr (.inl c_taken_18))), ((hm 31), .inl (cy 1, 64, .inl c_w_25)), ((hm 32), .inl (cy 1, 8, .inl c_x_26))]) := by rw [e_]; exact hD
    clear e_
    refine lv_iinc (pc := 215) (v := (i_27 + (1 : Int32))) (lv' := [(6, .int (i_27 + (1 : Int32))), (0, .ref h0), (2, .int p2)]) hx hb (zdt_at zt_X10_hash_1 54 rfl) hl (k := 2) rfl rfl (by decide) rfl ?_
    clear hl
    intro ls hl
    refine lv_goto (pc := 218) (tgt := 192) hx hb (zdt_at zt_X10_hash_1 55 rfl) (by decide) ?_
    exact hTo _ _ _ (ihself_33 _ hf H locs ls hP hD hS (lv_sub hl [1, 2, 0] rfl))
  clear eK_5
  replace hf := zj_s hf
  obtain ⟨K_79, eK_79, hf⟩ := hf
  have kK_79 : ∀  (H : Heap) (locs : List Loc) (ls : Array Slot), va_P D vwCl ([(h0, .inr (12, zmo hm (0 : Int32) c_state c_test c_words c_ill c_before c_inRow c_first c_inWindow c_same c_made c_requests c_total c_secrets c_rounds c_high c_low c_keyHigh c_keyLow)), ((hm 0), .inl (cy 1, 64, .inl c_ROUND)), ((hm 47), .inl (cy 1, 8, .inl c_START)), ((hm 6), .inl (cy 1, 512, .inl c_buffer)), ((hm 5), .inl (cy 1, 3, .inl c_counters)), ((hm 35), .inl (cy 1, 32, .inl c_digest)), ((hm 30), .inl (cy 1, 8, .inl c_h)), ((hm 33), .inl (cy 1, 64, .inl c_message)), ((hm 29), .inl (cy 1, 192, .inl c_streamBlock)), ((hm 28), .inl (cy 1, 24, .inl c_streamHash)), ((hm 27), .inl (cy 2, 3, .inr (.inl c_taken))), ((hm 31), .inl (cy 1, 64, .inl c_w)), ((hm 32), .inl (cy 1, 8, .inl c_x))]) H → va_D A ([(h0, .inr (12, zmo hm (0 : Int32) c_state c_test c_words c_ill c_before c_inRow c_first c_inWindow c_same c_made c_requests c_total c_secrets c_rounds c_high c_low c_keyHigh c_keyLow)), ((hm 0), .inl (cy 1, 64, .inl c_ROUND)), ((hm 47), .inl (cy 1, 8, .inl c_START)), ((hm 6), .inl (cy 1, 512, .inl c_buffer)), ((hm 5), .inl (cy 1, 3, .inl c_counters)), ((hm 35), .inl (cy 1, 32, .inl c_digest)), ((hm 30), .inl (cy 1, 8, .inl c_h)), ((hm 33), .inl (cy 1, 64, .inl c_message)), ((hm 29), .inl (cy 1, 192, .inl c_streamBlock)), ((hm 28), .inl (cy 1, 24, .inl c_streamHash)), ((hm 27), .inl (cy 2, 3, .inr (.inl c_taken))), ((hm 31), .inl (cy 1, 64, .inl c_w)), ((hm 32), .inl (cy 1, 8, .inl c_x))]) → va_S A s.heap H locs → lv_has ls 7 [(0, .ref h0), (1, .int p1), (2, .int p2), (3, .int p3)] → K_79 () = some (r_, c_thrown', c_total', c_buffer', c_counters', c_digest', c_h', c_message', c_streamBlock', c_streamHash', c_taken', c_w', c_x') → GW H locs (F0 m 67 ls []) := by
    clear hf hl hP hD hS
    intro  H locs ls hP hD hS hl hf
    rw [eK_79] at hf
    clear eK_79
    refine hFr _ _ _ ?_
    refine lv_iconst (pc := 67) (v := (1 : Int32)) hx hb (zdt_at zt_X10_hash_0 35 rfl) (by decide) ?_
    refine lv_goto (pc := 68) (tgt := 72) hx hb (zdt_at zt_X10_hash_0 36 rfl) (by decide) ?_
    exact hTo _ _ _ (kK_5 _ H locs ls hP hD hS (lv_sub hl [0, 1, 2, 3] rfl) hf)
  clear eK_79
  refine lv_if_eq (pc := 19) (tgt := 67) hx hb (zdt_at zt_X10_hash_0 11 rfl) (by decide) (fun cn_ => ?t_80) (fun cn_ => ?f_81)
  case t_80 =>
    replace hf := zt_s cn_ hf
    clear cn_
    exact hTo _ _ _ (kK_79  H locs ls hP hD hS (lv_sub hl [0, 1, 2, 3] rfl) hf)
  replace hf := ze_s cn_ hf
  clear cn_
  refine lv_iload_n (pc := 22) hx hb (zdt_at zt_X10_hash_0 12 rfl) rfl (lv_at hl 1 rfl) ?_
  refine lv_iconst (pc := 23) (v := (1 : Int32)) hx hb (zdt_at zt_X10_hash_0 13 rfl) (by decide) ?_
  replace hf := zj_s hf
  obtain ⟨K_82, eK_82, hf⟩ := hf
  have kK_82 : ∀  (H : Heap) (locs : List Loc) (ls : Array Slot), va_P D vwCl ([(h0, .inr (12, zmo hm (0 : Int32) c_state c_test c_words c_ill c_before c_inRow c_first c_inWindow c_same c_made c_requests c_total c_secrets c_rounds c_high c_low c_keyHigh c_keyLow)), ((hm 0), .inl (cy 1, 64, .inl c_ROUND)), ((hm 47), .inl (cy 1, 8, .inl c_START)), ((hm 6), .inl (cy 1, 512, .inl c_buffer)), ((hm 5), .inl (cy 1, 3, .inl c_counters)), ((hm 35), .inl (cy 1, 32, .inl c_digest)), ((hm 30), .inl (cy 1, 8, .inl c_h)), ((hm 33), .inl (cy 1, 64, .inl c_message)), ((hm 29), .inl (cy 1, 192, .inl c_streamBlock)), ((hm 28), .inl (cy 1, 24, .inl c_streamHash)), ((hm 27), .inl (cy 2, 3, .inr (.inl c_taken))), ((hm 31), .inl (cy 1, 64, .inl c_w)), ((hm 32), .inl (cy 1, 8, .inl c_x))]) H → va_D A ([(h0, .inr (12, zmo hm (0 : Int32) c_state c_test c_words c_ill c_before c_inRow c_first c_inWindow c_same c_made c_requests c_total c_secrets c_rounds c_high c_low c_keyHigh c_keyLow)), ((hm 0), .inl (cy 1, 64, .inl c_ROUND)), ((hm 47), .inl (cy 1, 8, .inl c_START)), ((hm 6), .inl (cy 1, 512, .inl c_buffer)), ((hm 5), .inl (cy 1, 3, .inl c_counters)), ((hm 35), .inl (cy 1, 32, .inl c_digest)), ((hm 30), .inl (cy 1, 8, .inl c_h)), ((hm 33), .inl (cy 1, 64, .inl c_message)), ((hm 29), .inl (cy 1, 192, .inl c_streamBlock)), ((hm 28), .inl (cy 1, 24, .inl c_streamHash)), ((hm 27), .inl (cy 2, 3, .inr (.inl c_taken))), ((hm 31), .inl (cy 1, 64, .inl c_w)), ((hm 32), .inl (cy 1, 8, .inl c_x))]) → va_S A s.heap H locs → lv_has ls 7 [(0, .ref h0), (1, .int p1), (2, .int p2), (3, .int p3)] → K_82 () = some (r_, c_thrown', c_total', c_buffer', c_counters', c_digest', c_h', c_message', c_streamBlock', c_streamHash', c_taken', c_w', c_x') → GW H locs (F0 m 51 ls []) := by
    clear hf hl hP hD hS
    intro  H locs ls hP hD hS hl hf
    rw [eK_82] at hf
    clear eK_82
    refine hFr _ _ _ ?_
    refine lv_iload_n (pc := 51) hx hb (zdt_at zt_X10_hash_0 27 rfl) rfl (lv_at hl 1 rfl) ?_
    refine lv_iconst (pc := 52) (v := (2 : Int32)) hx hb (zdt_at zt_X10_hash_0 28 rfl) (by decide) ?_
    replace hf := zj_s hf
    obtain ⟨K_83, eK_83, hf⟩ := hf
    have kK_83 : ∀  (H : Heap) (locs : List Loc) (ls : Array Slot), va_P D vwCl ([(h0, .inr (12, zmo hm (0 : Int32) c_state c_test c_words c_ill c_before c_inRow c_first c_inWindow c_same c_made c_requests c_total c_secrets c_rounds c_high c_low c_keyHigh c_keyLow)), ((hm 0), .inl (cy 1, 64, .inl c_ROUND)), ((hm 47), .inl (cy 1, 8, .inl c_START)), ((hm 6), .inl (cy 1, 512, .inl c_buffer)), ((hm 5), .inl (cy 1, 3, .inl c_counters)), ((hm 35), .inl (cy 1, 32, .inl c_digest)), ((hm 30), .inl (cy 1, 8, .inl c_h)), ((hm 33), .inl (cy 1, 64, .inl c_message)), ((hm 29), .inl (cy 1, 192, .inl c_streamBlock)), ((hm 28), .inl (cy 1, 24, .inl c_streamHash)), ((hm 27), .inl (cy 2, 3, .inr (.inl c_taken))), ((hm 31), .inl (cy 1, 64, .inl c_w)), ((hm 32), .inl (cy 1, 8, .inl c_x))]) H → va_D A ([(h0, .inr (12, zmo hm (0 : Int32) c_state c_test c_words c_ill c_before c_inRow c_first c_inWindow c_same c_made c_requests c_total c_secrets c_rounds c_high c_low c_keyHigh c_keyLow)), ((hm 0), .inl (cy 1, 64, .inl c_ROUND)), ((hm 47), .inl (cy 1, 8, .inl c_START)), ((hm 6), .inl (cy 1, 512, .inl c_buffer)), ((hm 5), .inl (cy 1, 3, .inl c_counters)), ((hm 35), .inl (cy 1, 32, .inl c_digest)), ((hm 30), .inl (cy 1, 8, .inl c_h)), ((hm 33), .inl (cy 1, 64, .inl c_message)), ((hm 29), .inl (cy 1, 192, .inl c_streamBlock)), ((hm 28), .inl (cy 1, 24, .inl c_streamHash)), ((hm 27), .inl (cy 2, 3, .inr (.inl c_taken))), ((hm 31), .inl (cy 1, 64, .inl c_w)), ((hm 32), .inl (cy 1, 8, .inl c_x))]) → va_S A s.heap H locs → lv_has ls 7 [(0, .ref h0), (1, .int p1), (2, .int p2), (3, .int p3)] → K_83 () = some (r_, c_thrown', c_total', c_buffer', c_counters', c_digest', c_h', c_message', c_streamBlock', c_streamHash', c_taken', c_w', c_x') → GW H locs (F0 m 71 ls []) := by
      clear hf hl hP hD hS
      intro  H locs ls hP hD hS hl hf
      rw [eK_83] at hf
      clear eK_83
      refine hFr _ _ _ ?_
      refine lv_iconst (pc := 71) (v := (0 : Int32)) hx hb (zdt_at zt_X10_hash_0 37 rfl) (by decide) ?_
      exact hTo _ _ _ (kK_5 _ H locs ls hP hD hS (lv_sub hl [0, 1, 2, 3] rfl) hf)
    clear eK_83
    refine lv_icmp_ne (pc := 53) (tgt := 71) hx hb (zdt_at zt_X10_hash_0 29 rfl) (by decide) (fun cn_ => ?t_84) (fun cn_ => ?f_85)
    case t_84 =>
      replace hf := ze_s cn_ hf
      clear cn_
      exact hTo _ _ _ (kK_83  H locs ls hP hD hS (lv_sub hl [0, 1, 2, 3] rfl) hf)
    replace hf := zt_s cn_ hf
    clear cn_
    refine lv_iload_n (pc := 56) hx hb (zdt_at zt_X10_hash_0 30 rfl) rfl (lv_at hl 2 rfl) ?_
    refine lv_iconst (pc := 57) (v := (0 : Int32)) hx hb (zdt_at zt_X10_hash_0 31 rfl) (by decide) ?_
    refine lv_sipush (pc := 58) (v := (480 : Int32)) hx hb (zdt_at zt_X10_hash_0 32 rfl) (by decide) ?_
    replace hf := zb_s hf
    obtain ⟨r_86, hc_, hf⟩ := hf
    refine zcs (pc := 61) (rv := (some (.int r_86))) (va_runS (As := [.int p2, .int (0 : Int32), .int (480 : Int32)]) (rest := []) ⟨hx, hb, hml, hown, hts⟩ (c_X10_in l D cy tt H.size p2 (0 : Int32) (480 : Int32) r_86 hc_) (va_cwS 3 hts gX10_hash_X10_in rfl rfl rfl (by decide +kernel) ⟨Nat.le_of_ble_eq_true rfl, Nat.le_of_ble_eq_true rfl⟩) ⟨zblind, zpre hE hS (hP.sub [] rfl) (hD.sub [] (by decide) rfl) (va_free hD hS hA [] rfl)⟩ rfl rfl hl.1 rfl (lv_room (Nat.le_of_ble_eq_true rfl)) (zdt_at zt_X10_hash_0 33 rfl) ⟨Nat.zero_le _, Nat.zero_le _⟩) ?_
    clear hc_
    refine W.eq (g2 := F0 m 64 ls [.int r_86]) rfl ?_
    refine lv_if_eq (pc := 64) (tgt := 71) hx hb (zdt_at zt_X10_hash_0 34 rfl) (by decide) (fun cn_ => ?t_87) (fun cn_ => ?f_88)
    case t_87 =>
      replace hf := zt_s cn_ hf
      clear cn_
      exact hTo _ _ _ (kK_83  H locs ls hP hD hS (lv_sub hl [0, 1, 2, 3] rfl) hf)
    replace hf := ze_s cn_ hf
    clear cn_
    exact hTo _ _ _ (kK_79  H locs ls hP hD hS (lv_sub hl [0, 1, 2, 3] rfl) hf)
  clear eK_82
  refine lv_icmp_ne (pc := 24) (tgt := 51) hx hb (zdt_at zt_X10_hash_0 14 rfl) (by decide) (fun cn_ => ?t_89) (fun cn_ => ?f_90)
  case t_89 =>
    replace hf := ze_s cn_ hf
    clear cn_
    exact hTo _ _ _ (kK_82  H locs ls hP hD hS (lv_sub hl [0, 1, 2, 3] rfl) hf)
  replace hf := zt_s cn_ hf
  clear cn_
  refine lv_iload_n (pc := 27) hx hb (zdt_at zt_X10_hash_0 15 rfl) rfl (lv_at hl 3 rfl) ?_
  refine lv_if_lt (pc := 28) (tgt := 51) hx hb (zdt_at zt_X10_hash_0 16 rfl) (by decide) (fun cn_ => ?t_91) (fun cn_ => ?f_92)
  case t_91 =>
    replace hf := zt_s cn_ hf
    clear cn_
    exact hTo _ _ _ (kK_82  H locs ls hP hD hS (lv_sub hl [0, 1, 2, 3] rfl) hf)
  replace hf := ze_s cn_ hf
  clear cn_
  refine lv_iload_n (pc := 31) hx hb (zdt_at zt_X10_hash_0 17 rfl) rfl (lv_at hl 2 rfl) ?_
  refine lv_iconst (pc := 32) (v := (0 : Int32)) hx hb (zdt_at zt_X10_hash_0 18 rfl) (by decide) ?_
  refine lv_sipush (pc := 33) (v := (512 : Int32)) hx hb (zdt_at zt_X10_hash_0 19 rfl) (by decide) ?_
  replace hf := zb_s hf
  obtain ⟨r_93, hc_, hf⟩ := hf
  refine zcs (pc := 36) (rv := (some (.int r_93))) (va_runS (As := [.int p2, .int (0 : Int32), .int (512 : Int32)]) (rest := []) ⟨hx, hb, hml, hown, hts⟩ (c_X10_in l D cy tt H.size p2 (0 : Int32) (512 : Int32) r_93 hc_) (va_cwS 3 hts gX10_hash_X10_in rfl rfl rfl (by decide +kernel) ⟨Nat.le_of_ble_eq_true rfl, Nat.le_of_ble_eq_true rfl⟩) ⟨zblind, zpre hE hS (hP.sub [] rfl) (hD.sub [] (by decide) rfl) (va_free hD hS hA [] rfl)⟩ rfl rfl hl.1 rfl (lv_room (Nat.le_of_ble_eq_true rfl)) (zdt_at zt_X10_hash_0 20 rfl) ⟨Nat.zero_le _, Nat.zero_le _⟩) ?_
  clear hc_
  refine W.eq (g2 := F0 m 39 ls [.int r_93]) rfl ?_
  refine lv_if_eq (pc := 39) (tgt := 51) hx hb (zdt_at zt_X10_hash_0 21 rfl) (by decide) (fun cn_ => ?t_94) (fun cn_ => ?f_95)
  case t_94 =>
    replace hf := zt_s cn_ hf
    clear cn_
    exact hTo _ _ _ (kK_82  H locs ls hP hD hS (lv_sub hl [0, 1, 2, 3] rfl) hf)
  replace hf := ze_s cn_ hf
  clear cn_
  refine lv_iload_n (pc := 42) hx hb (zdt_at zt_X10_hash_0 22 rfl) rfl (lv_at hl 3 rfl) ?_
  refine lv_sipush (pc := 43) (v := (512 : Int32)) hx hb (zdt_at zt_X10_hash_0 23 rfl) (by decide) ?_
  refine lv_iload_n (pc := 46) hx hb (zdt_at zt_X10_hash_0 24 rfl) rfl (lv_at hl 2 rfl) ?_
  refine lv_isub (pc := 47) hx hb (zdt_at zt_X10_hash_0 25 rfl) ?_
  refine lv_icmp_le (pc := 48) (tgt := 67) hx hb (zdt_at zt_X10_hash_0 26 rfl) (by decide) (fun cn_ => ?t_96) (fun cn_ => ?f_97)
  case t_96 =>
    replace hf := zt_s cn_ hf
    clear cn_
    exact hTo _ _ _ (kK_79  H locs ls hP hD hS (lv_sub hl [0, 1, 2, 3] rfl) hf)
  replace hf := ze_s cn_ hf
  clear cn_
  exact hTo _ _ _ (kK_82  H locs ls hP hD hS (lv_sub hl [0, 1, 2, 3] rfl) hf)
set_option maxHeartbeats 4000000 in
set_option maxRecDepth 100000 in
theorem c_X10_counter (l : Launch) (D : va_G) (cy : Nat → ClassId) (tt : Nat → Nat) (sz : Nat) (h0 : Nat) (hm : Nat → Nat) (p1 : Int32) (c_thrown : Int32) (c_counters : Nat → Int32) (c_state : Int32) (c_test : Int32) (c_words : Int32) (c_ill : Int32) (c_before : Int32) (c_inRow : Int32) (c_first : Int32) (c_inWindow : Int32) (c_same : Int32) (c_made : Int32) (c_requests : Int32) (c_total : Int64) (c_secrets : Int32) (c_rounds : Int32) (c_high : Int64) (c_low : Int64) (c_keyHigh : Int64) (c_keyLow : Int64) (r_ : Int32) (c_thrown' : Int32) (hf : f_X10_counter p1 c_thrown c_counters = some (r_, c_thrown')) : Met l yX10_counter wsX10_counter ({ frames := 1, cells := 0, slots := 0, locals := 22 }) (zPc D cy tt sz [.ref h0, .int p1] ([(h0, .inr (12, zmo hm c_thrown c_state c_test c_words c_ill c_before c_inRow c_first c_inWindow c_same c_made c_requests c_total c_secrets c_rounds c_high c_low c_keyHigh c_keyLow)), ((hm 5), .inl (cy 1, 3, .inl c_counters))])) (zQ D (some (.int r_)) ([(h0, .inr (12, zmo hm c_thrown' c_state c_test c_words c_ill c_before c_inRow c_first c_inWindow c_same c_made c_requests c_total c_secrets c_rounds c_high c_low c_keyHigh c_keyLow)), ((hm 5), .inl (cy 1, 3, .inl c_counters))]) (va_A ([(h0, .inr (12, zmo hm c_thrown c_state c_test c_words c_ill c_before c_inRow c_first c_inWindow c_same c_made c_requests c_total c_secrets c_rounds c_high c_low c_keyHigh c_keyLow)), ((hm 5), .inl (cy 1, 3, .inl c_counters))]) sz)) 0 0 (va_A ([(h0, .inr (12, zmo hm c_thrown c_state c_test c_words c_ill c_before c_inRow c_first c_inWindow c_same c_made c_requests c_total c_secrets c_rounds c_high c_low c_keyHigh c_keyLow)), ((hm 5), .inl (cy 1, 3, .inl c_counters))]) sz) := by
  refine Met.ofW (cc := cX10_counter) (maxL := 2) (ret := (some .int)) (by decide) rfl ?_
  intro p e s m args below meth c s₁ B hml hv
  obtain ⟨rfl, rfl, hP, hD0, hE⟩ := hv
  have hx := B.exec
  have hb := B.bytes
  have hr := B.returns
  have hts := atoms_spec (ws := wsX10_counter) B.pre
  have hown : s.vm.findClass RX10 = some m.cls := findClass_of_methodNamed B.named
  have hlocks := B.notSynchronized
  clear B
  have hD := hD0.self (sz := s.heap.size)
  generalize hAe : va_A ([(h0, .inr (12, zmo hm c_thrown c_state c_test c_words c_ill c_before c_inRow c_first c_inWindow c_same c_made c_requests c_total c_secrets c_rounds c_high c_low c_keyHigh c_keyLow)), ((hm 5), .inl (cy 1, 3, .inl c_counters))]) s.heap.size = A at hD hE ⊢
  have hA : ∀ q : Nat, s.heap.size ≤ q → A q := fun q h => by rw [← hAe]; exact Or.inr h
  clear hAe hD0
  have hS : va_S A s.heap s.heap [] := va_S.rf
  have hK := hE.1
  have hw0 := hts (.fieldLink RX10 189 "SealedModuleModel" "thrown" "I") (by decide +kernel)
  have hw1 := hts (.fieldLink RX10 81 "SealedModuleModel" "counters" "[I") (by decide +kernel)
  have hcX10 : ∀ w ∈ u_ws RX10 TX10 52, w ∈ wsX10_counter := (fun _ h => List.mem_cons_of_mem _ (List.mem_append_right _ h))
  have hl := lv_entry ([.ref h0, .int p1]) (n := 2) (Nat.le_of_ble_eq_true rfl)
  rw [lg_entry_eq]
  generalize (lg_sl ([.ref h0, .int p1]) ++ List.replicate (2 - (lg_sl ([.ref h0, .int p1])).length) Slot.unset).toArray = ls at hl ⊢
  replace hl : lv_has ls 2 [(0, .ref h0), (1, .int p1)] := hl
  unfold f_X10_counter at hf
  refine zgo (fun GW hTo hFr => ?_)
  refine hFr _ _ _ ?_
  obtain ⟨H, hHe⟩ : ∃ H, H = s.heap := ⟨_, rfl⟩
  obtain ⟨locs, hLe⟩ : ∃ L : List Loc, L = [] := ⟨_, rfl⟩
  rw [← hHe] at hP
  replace hS : va_S A s.heap H locs := by rw [hHe, hLe]; exact hS
  refine zat hHe.symm hLe.symm ?_
  clear hHe hLe
  refine lv_aload_n (pc := 0) hx hb (zdt_at zt_X10_counter_0 0 rfl) rfl (lv_at hl 0 rfl) ?_
  refine lv_iload_n (pc := 1) hx hb (zdt_at zt_X10_counter_0 1 rfl) rfl (lv_at hl 1 rfl) ?_
  refine lv_iconst (pc := 2) (v := (0 : Int32)) hx hb (zdt_at zt_X10_counter_0 2 rfl) (by decide) ?_
  refine lv_iconst (pc := 3) (v := (2 : Int32)) hx hb (zdt_at zt_X10_counter_0 3 rfl) (by decide) ?_
  replace hf := zb_s hf
  obtain ⟨r_1, hc_, hf⟩ := hf
  refine zcs (pc := 4) (rv := (some (.int r_1))) (va_runS (As := [.int p1, .int (0 : Int32), .int (2 : Int32)]) (rest := [.ref h0]) ⟨hx, hb, hml, hown, hts⟩ (c_X10_in l D cy tt H.size p1 (0 : Int32) (2 : Int32) r_1 hc_) (va_cwS 3 hts gX10_counter_X10_in rfl rfl rfl (by decide +kernel) ⟨Nat.le_of_ble_eq_true rfl, Nat.le_of_ble_eq_true rfl⟩) ⟨zblind, zpre hE hS (hP.sub [] rfl) (hD.sub [] (by decide) rfl) (va_free hD hS hA [] rfl)⟩ rfl rfl hl.1 rfl (lv_room (Nat.le_of_ble_eq_true rfl)) (zdt_at zt_X10_counter_0 4 rfl) ⟨Nat.zero_le _, Nat.zero_le _⟩) ?_
  clear hc_
  refine W.eq (g2 := F0 m 7 ls [.int r_1, .ref h0]) rfl ?_
  refine lv_if_eq (pc := 7) (tgt := 14) hx hb (zdt_at zt_X10_counter_0 5 rfl) (by decide) (fun cn_ => ?t_2) (fun cn_ => ?f_3)
  case t_2 =>
    replace hf := zt_s cn_ hf
    clear cn_
    refine lv_iconst (pc := 14) (v := (1 : Int32)) hx hb (zdt_at zt_X10_counter_0 8 rfl) (by decide) ?_
    refine va_put (pc := 15) (D := D) (ci := 12) (v := .int (1 : Int32)) (ty := .int) (C := RX10) (T := TX10) (N := 52) hx hb hts hcX10 tyX10 tyX10_ok nmX10 hown hK hP hD hS 0 rfl rfl 1 (by decide) hw0 (fun _ h9 => h9) rfl (by decide +kernel) rfl rfl (Nat.le_of_ble_eq_true rfl) (zdt_at zt_X10_counter_0 9 rfl) ?_
    clear hP hD hS
    intro H locs hP hD hS
    replace hP : va_P D vwCl ([(h0, .inr (12, zmo hm (1 : Int32) c_state c_test c_words c_ill c_before c_inRow c_first c_inWindow c_same c_made c_requests c_total c_secrets c_rounds c_high c_low c_keyHigh c_keyLow)), ((hm 5), .inl (cy 1, 3, .inl c_counters))]) H := hP
    replace hD : va_D A ([(h0, .inr (12, zmo hm (1 : Int32) c_state c_test c_words c_ill c_before c_inRow c_first c_inWindow c_same c_made c_requests c_total c_secrets c_rounds c_high c_low c_keyHigh c_keyLow)), ((hm 5), .inl (cy 1, 3, .inl c_counters))]) := hD
    refine lv_aload_n (pc := 18) hx hb (zdt_at zt_X10_counter_0 10 rfl) rfl (lv_at hl 0 rfl) ?_
    refine va_get (pc := 19) (D := D) (ci := 12) (v := .int (1 : Int32)) (C := RX10) (T := TX10) (N := 52) hx hb hts hcX10 hown hK hP 0 rfl rfl 1 (by decide) hw0 (fun _ h9 => h9) rfl (zdt_at zt_X10_counter_0 11 rfl) ?_
    refine lv_if_le (pc := 22) (tgt := 29) hx hb (zdt_at zt_X10_counter_0 12 rfl) (by decide) (fun cn_ => ?t_4) (fun cn_ => ?f_5)
    case f_5 =>
      replace hf := ze_s cn_ hf
      clear cn_
      refine lv_iconst (pc := 25) (v := (0 : Int32)) hx hb (zdt_at zt_X10_counter_0 13 rfl) (by decide) ?_
      refine lv_goto (pc := 26) (tgt := 35) hx hb (zdt_at zt_X10_counter_0 14 rfl) (by decide) ?_
      cases hf
      exact W.iret (pc := 35) hx hb hr (fun t ht hW => ⟨rfl, ⟨by rw [ht]; exact hP, hD⟩, hS.F ht⟩) hS.2.2 (zdt_at zt_X10_counter_0 19 rfl)
    replace hf := zt_s cn_ hf
    clear cn_
    refine lv_aload_n (pc := 29) hx hb (zdt_at zt_X10_counter_0 15 rfl) rfl (lv_at hl 0 rfl) ?_
    refine va_get (pc := 30) (D := D) (ci := 12) (v := .ref (hm 5)) (C := RX10) (T := TX10) (N := 52) hx hb hts hcX10 hown hK hP 0 rfl rfl 5 (by decide) hw1 (fun _ h9 => h9) rfl (zdt_at zt_X10_counter_0 16 rfl) ?_
    refine lv_iload_n (pc := 33) hx hb (zdt_at zt_X10_counter_0 17 rfl) rfl (lv_at hl 1 rfl) ?_
    replace hf := zk_s hf
    refine va_iald (pc := 34) hx hb hK hP 1 1 rfl rfl hf.1 (zdt_at zt_X10_counter_0 18 rfl) ?_
    replace hf := hf.2
    cases hf
    exact W.iret (pc := 35) hx hb hr (fun t ht hW => ⟨rfl, ⟨by rw [ht]; exact hP, hD⟩, hS.F ht⟩) hS.2.2 (zdt_at zt_X10_counter_0 19 rfl)
  replace hf := ze_s cn_ hf
  clear cn_
  refine lv_iconst (pc := 10) (v := (0 : Int32)) hx hb (zdt_at zt_X10_counter_0 6 rfl) (by decide) ?_
  refine lv_goto (pc := 11) (tgt := 15) hx hb (zdt_at zt_X10_counter_0 7 rfl) (by decide) ?_
  refine va_put (pc := 15) (D := D) (ci := 12) (v := .int (0 : Int32)) (ty := .int) (C := RX10) (T := TX10) (N := 52) hx hb hts hcX10 tyX10 tyX10_ok nmX10 hown hK hP hD hS 0 rfl rfl 1 (by decide) hw0 (fun _ h9 => h9) rfl (by decide +kernel) rfl rfl (Nat.le_of_ble_eq_true rfl) (zdt_at zt_X10_counter_0 9 rfl) ?_
  clear hP hD hS
  intro H locs hP hD hS
  replace hP : va_P D vwCl ([(h0, .inr (12, zmo hm (0 : Int32) c_state c_test c_words c_ill c_before c_inRow c_first c_inWindow c_same c_made c_requests c_total c_secrets c_rounds c_high c_low c_keyHigh c_keyLow)), ((hm 5), .inl (cy 1, 3, .inl c_counters))]) H := hP
  replace hD : va_D A ([(h0, .inr (12, zmo hm (0 : Int32) c_state c_test c_words c_ill c_before c_inRow c_first c_inWindow c_same c_made c_requests c_total c_secrets c_rounds c_high c_low c_keyHigh c_keyLow)), ((hm 5), .inl (cy 1, 3, .inl c_counters))]) := hD
  refine lv_aload_n (pc := 18) hx hb (zdt_at zt_X10_counter_0 10 rfl) rfl (lv_at hl 0 rfl) ?_
  refine va_get (pc := 19) (D := D) (ci := 12) (v := .int (0 : Int32)) (C := RX10) (T := TX10) (N := 52) hx hb hts hcX10 hown hK hP 0 rfl rfl 1 (by decide) hw0 (fun _ h9 => h9) rfl (zdt_at zt_X10_counter_0 11 rfl) ?_
  refine lv_if_le (pc := 22) (tgt := 29) hx hb (zdt_at zt_X10_counter_0 12 rfl) (by decide) (fun cn_ => ?t_6) (fun cn_ => ?f_7)
  case f_7 =>
    replace hf := ze_s cn_ hf
    clear cn_
    refine lv_iconst (pc := 25) (v := (0 : Int32)) hx hb (zdt_at zt_X10_counter_0 13 rfl) (by decide) ?_
    refine lv_goto (pc := 26) (tgt := 35) hx hb (zdt_at zt_X10_counter_0 14 rfl) (by decide) ?_
    cases hf
    exact W.iret (pc := 35) hx hb hr (fun t ht hW => ⟨rfl, ⟨by rw [ht]; exact hP, hD⟩, hS.F ht⟩) hS.2.2 (zdt_at zt_X10_counter_0 19 rfl)
  replace hf := zt_s cn_ hf
  clear cn_
  refine lv_aload_n (pc := 29) hx hb (zdt_at zt_X10_counter_0 15 rfl) rfl (lv_at hl 0 rfl) ?_
  refine va_get (pc := 30) (D := D) (ci := 12) (v := .ref (hm 5)) (C := RX10) (T := TX10) (N := 52) hx hb hts hcX10 hown hK hP 0 rfl rfl 5 (by decide) hw1 (fun _ h9 => h9) rfl (zdt_at zt_X10_counter_0 16 rfl) ?_
  refine lv_iload_n (pc := 33) hx hb (zdt_at zt_X10_counter_0 17 rfl) rfl (lv_at hl 1 rfl) ?_
  replace hf := zk_s hf
  refine va_iald (pc := 34) hx hb hK hP 1 1 rfl rfl hf.1 (zdt_at zt_X10_counter_0 18 rfl) ?_
  replace hf := hf.2
  cases hf
  exact W.iret (pc := 35) hx hb hr (fun t ht hW => ⟨rfl, ⟨by rw [ht]; exact hP, hD⟩, hS.F ht⟩) hS.2.2 (zdt_at zt_X10_counter_0 19 rfl)
set_option maxHeartbeats 4000000 in
set_option maxRecDepth 100000 in
theorem c_X10_same (l : Launch) (D : va_G) (cy : Nat → ClassId) (tt : Nat → Nat) (sz : Nat) (h0 : Nat) (hm : Nat → Nat) (p1 : Int32) (p2 : Int32) (c_thrown : Int32) (c_buffer : Nat → Int32) (c_keys : Nat → Int32) (c_kind : Nat → Int32) (c_length : Nat → Int32) (c_state : Int32) (c_test : Int32) (c_words : Int32) (c_ill : Int32) (c_before : Int32) (c_inRow : Int32) (c_first : Int32) (c_inWindow : Int32) (c_same : Int32) (c_made : Int32) (c_requests : Int32) (c_total : Int64) (c_secrets : Int32) (c_rounds : Int32) (c_high : Int64) (c_low : Int64) (c_keyHigh : Int64) (c_keyLow : Int64) (r_ : Int32) (c_thrown' : Int32) (hf : f_X10_same p1 p2 c_thrown c_buffer c_keys c_kind c_length = some (r_, c_thrown')) : Met l yX10_same wsX10_same ({ frames := 1, cells := 0, slots := 0, locals := 22 }) (zPc D cy tt sz [.ref h0, .int p1, .int p2] ([(h0, .inr (12, zmo hm c_thrown c_state c_test c_words c_ill c_before c_inRow c_first c_inWindow c_same c_made c_requests c_total c_secrets c_rounds c_high c_low c_keyHigh c_keyLow)), ((hm 6), .inl (cy 1, 512, .inl c_buffer)), ((hm 14), .inl (cy 1, 1024, .inl c_keys)), ((hm 9), .inl (cy 1, 16, .inl c_kind)), ((hm 10), .inl (cy 1, 16, .inl c_length))])) (zQ D (some (.int r_)) ([(h0, .inr (12, zmo hm c_thrown' c_state c_test c_words c_ill c_before c_inRow c_first c_inWindow c_same c_made c_requests c_total c_secrets c_rounds c_high c_low c_keyHigh c_keyLow)), ((hm 6), .inl (cy 1, 512, .inl c_buffer)), ((hm 14), .inl (cy 1, 1024, .inl c_keys)), ((hm 9), .inl (cy 1, 16, .inl c_kind)), ((hm 10), .inl (cy 1, 16, .inl c_length))]) (va_A ([(h0, .inr (12, zmo hm c_thrown c_state c_test c_words c_ill c_before c_inRow c_first c_inWindow c_same c_made c_requests c_total c_secrets c_rounds c_high c_low c_keyHigh c_keyLow)), ((hm 6), .inl (cy 1, 512, .inl c_buffer)), ((hm 14), .inl (cy 1, 1024, .inl c_keys)), ((hm 9), .inl (cy 1, 16, .inl c_kind)), ((hm 10), .inl (cy 1, 16, .inl c_length))]) sz)) 0 0 (va_A ([(h0, .inr (12, zmo hm c_thrown c_state c_test c_words c_ill c_before c_inRow c_first c_inWindow c_same c_made c_requests c_total c_secrets c_rounds c_high c_low c_keyHigh c_keyLow)), ((hm 6), .inl (cy 1, 512, .inl c_buffer)), ((hm 14), .inl (cy 1, 1024, .inl c_keys)), ((hm 9), .inl (cy 1, 16, .inl c_kind)), ((hm 10), .inl (cy 1, 16, .inl c_length))]) sz) := by
  refine Met.ofW (cc := cX10_same) (maxL := 4) (ret := (some .boolean)) (by decide) rfl ?_
  intro p e s m args below meth c s₁ B hml hv
  obtain ⟨rfl, rfl, hP, hD0, hE⟩ := hv
  have hx := B.exec
  have hb := B.bytes
  have hr := B.returns
  have hts := atoms_spec (ws := wsX10_same) B.pre
  have hown : s.vm.findClass RX10 = some m.cls := findClass_of_methodNamed B.named
  have hlocks := B.notSynchronized
  clear B
  have hD := hD0.self (sz := s.heap.size)
  generalize hAe : va_A ([(h0, .inr (12, zmo hm c_thrown c_state c_test c_words c_ill c_before c_inRow c_first c_inWindow c_same c_made c_requests c_total c_secrets c_rounds c_high c_low c_keyHigh c_keyLow)), ((hm 6), .inl (cy 1, 512, .inl c_buffer)), ((hm 14), .inl (cy 1, 1024, .inl c_keys)), ((hm 9), .inl (cy 1, 16, .inl c_kind)), ((hm 10), .inl (cy 1, 16, .inl c_length))]) s.heap.size = A at hD hE ⊢
  have hA : ∀ q : Nat, s.heap.size ≤ q → A q := fun q h => by rw [← hAe]; exact Or.inr h
  clear hAe hD0
  have hS : va_S A s.heap s.heap [] := va_S.rf
  have hK := hE.1
  have hw0 := hts (.fieldLink RX10 189 "SealedModuleModel" "thrown" "I") (by decide +kernel)
  have hw1 := hts (.fieldLink RX10 93 "SealedModuleModel" "kind" "[I") (by decide +kernel)
  have hw2 := hts (.fieldLink RX10 96 "SealedModuleModel" "length" "[I") (by decide +kernel)
  have hw3 := hts (.fieldLink RX10 108 "SealedModuleModel" "keys" "[I") (by decide +kernel)
  have hw4 := hts (.fieldLink RX10 84 "SealedModuleModel" "buffer" "[I") (by decide +kernel)
  have hcX10 : ∀ w ∈ u_ws RX10 TX10 52, w ∈ wsX10_same := (fun _ h => List.mem_cons_of_mem _ (List.mem_append_right _ h))
  have hl := lv_entry ([.ref h0, .int p1, .int p2]) (n := 4) (Nat.le_of_ble_eq_true rfl)
  rw [lg_entry_eq]
  generalize (lg_sl ([.ref h0, .int p1, .int p2]) ++ List.replicate (4 - (lg_sl ([.ref h0, .int p1, .int p2])).length) Slot.unset).toArray = ls at hl ⊢
  replace hl : lv_has ls 4 [(0, .ref h0), (1, .int p1), (2, .int p2)] := hl
  unfold f_X10_same at hf
  refine zgo (fun GW hTo hFr => ?_)
  refine hFr _ _ _ ?_
  obtain ⟨H, hHe⟩ : ∃ H, H = s.heap := ⟨_, rfl⟩
  obtain ⟨locs, hLe⟩ : ∃ L : List Loc, L = [] := ⟨_, rfl⟩
  rw [← hHe] at hP
  replace hS : va_S A s.heap H locs := by rw [hHe, hLe]; exact hS
  refine zat hHe.symm hLe.symm ?_
  clear hHe hLe
  refine lv_aload_n (pc := 0) hx hb (zdt_at zt_X10_same_0 0 rfl) rfl (lv_at hl 0 rfl) ?_
  refine lv_iload_n (pc := 1) hx hb (zdt_at zt_X10_same_0 1 rfl) rfl (lv_at hl 1 rfl) ?_
  refine lv_iconst (pc := 2) (v := (0 : Int32)) hx hb (zdt_at zt_X10_same_0 2 rfl) (by decide) ?_
  refine lv_bipush (pc := 3) (v := (15 : Int32)) hx hb (zdt_at zt_X10_same_0 3 rfl) (by decide) ?_
  replace hf := zb_s hf
  obtain ⟨r_1, hc_, hf⟩ := hf
  refine zcs (pc := 5) (rv := (some (.int r_1))) (va_runS (As := [.int p1, .int (0 : Int32), .int (15 : Int32)]) (rest := [.ref h0]) ⟨hx, hb, hml, hown, hts⟩ (c_X10_in l D cy tt H.size p1 (0 : Int32) (15 : Int32) r_1 hc_) (va_cwS 3 hts gX10_same_X10_in rfl rfl rfl (by decide +kernel) ⟨Nat.le_of_ble_eq_true rfl, Nat.le_of_ble_eq_true rfl⟩) ⟨zblind, zpre hE hS (hP.sub [] rfl) (hD.sub [] (by decide) rfl) (va_free hD hS hA [] rfl)⟩ rfl rfl hl.1 rfl (lv_room (Nat.le_of_ble_eq_true rfl)) (zdt_at zt_X10_same_0 4 rfl) ⟨Nat.zero_le _, Nat.zero_le _⟩) ?_
  clear hc_
  refine W.eq (g2 := F0 m 8 ls [.int r_1, .ref h0]) rfl ?_
  replace hf := zj_s hf
  obtain ⟨K_3, eK_3, hf⟩ := hf
  have kK_3 : ∀ (v_2 : Int32) (H : Heap) (locs : List Loc) (ls : Array Slot), va_P D vwCl ([(h0, .inr (12, zmo hm c_thrown c_state c_test c_words c_ill c_before c_inRow c_first c_inWindow c_same c_made c_requests c_total c_secrets c_rounds c_high c_low c_keyHigh c_keyLow)), ((hm 6), .inl (cy 1, 512, .inl c_buffer)), ((hm 14), .inl (cy 1, 1024, .inl c_keys)), ((hm 9), .inl (cy 1, 16, .inl c_kind)), ((hm 10), .inl (cy 1, 16, .inl c_length))]) H → va_D A ([(h0, .inr (12, zmo hm c_thrown c_state c_test c_words c_ill c_before c_inRow c_first c_inWindow c_same c_made c_requests c_total c_secrets c_rounds c_high c_low c_keyHigh c_keyLow)), ((hm 6), .inl (cy 1, 512, .inl c_buffer)), ((hm 14), .inl (cy 1, 1024, .inl c_keys)), ((hm 9), .inl (cy 1, 16, .inl c_kind)), ((hm 10), .inl (cy 1, 16, .inl c_length))]) → va_S A s.heap H locs → lv_has ls 4 [(0, .ref h0), (1, .int p1), (2, .int p2)] → K_3 v_2 = some (r_, c_thrown') → GW H locs (F0 m 16 ls [.int v_2, .ref h0]) := by
    clear hf hl hP hD hS
    intro v_2 H locs ls hP hD hS hl hf
    rw [eK_3] at hf
    clear eK_3
    refine hFr _ _ _ ?_
    refine va_put (pc := 16) (D := D) (ci := 12) (v := .int v_2) (ty := .int) (C := RX10) (T := TX10) (N := 52) hx hb hts hcX10 tyX10 tyX10_ok nmX10 hown hK hP hD hS 0 rfl rfl 1 (by decide) hw0 (fun _ h9 => h9) rfl (by decide +kernel) rfl rfl (Nat.le_of_ble_eq_true rfl) (zdt_at zt_X10_same_0 9 rfl) ?_
    clear hP hD hS
    intro H locs hP hD hS
    replace hP : va_P D vwCl ([(h0, .inr (12, zmo hm v_2 c_state c_test c_words c_ill c_before c_inRow c_first c_inWindow c_same c_made c_requests c_total c_secrets c_rounds c_high c_low c_keyHigh c_keyLow)), ((hm 6), .inl (cy 1, 512, .inl c_buffer)), ((hm 14), .inl (cy 1, 1024, .inl c_keys)), ((hm 9), .inl (cy 1, 16, .inl c_kind)), ((hm 10), .inl (cy 1, 16, .inl c_length))]) H := hP
    replace hD : va_D A ([(h0, .inr (12, zmo hm v_2 c_state c_test c_words c_ill c_before c_inRow c_first c_inWindow c_same c_made c_requests c_total c_secrets c_rounds c_high c_low c_keyHigh c_keyLow)), ((hm 6), .inl (cy 1, 512, .inl c_buffer)), ((hm 14), .inl (cy 1, 1024, .inl c_keys)), ((hm 9), .inl (cy 1, 16, .inl c_kind)), ((hm 10), .inl (cy 1, 16, .inl c_length))]) := hD
    refine lv_aload_n (pc := 19) hx hb (zdt_at zt_X10_same_0 10 rfl) rfl (lv_at hl 0 rfl) ?_
    refine va_get (pc := 20) (D := D) (ci := 12) (v := .int v_2) (C := RX10) (T := TX10) (N := 52) hx hb hts hcX10 hown hK hP 0 rfl rfl 1 (by decide) hw0 (fun _ h9 => h9) rfl (zdt_at zt_X10_same_0 11 rfl) ?_
    refine lv_if_gt (pc := 23) (tgt := 45) hx hb (zdt_at zt_X10_same_0 12 rfl) (by decide) (fun cn_ => ?t_4) (fun cn_ => ?f_5)
    case t_4 =>
      replace hf := zt_s cn_ hf
      clear cn_
      refine lv_iconst (pc := 45) (v := (0 : Int32)) hx hb (zdt_at zt_X10_same_0 24 rfl) (by decide) ?_
      cases hf
      exact W.zret (pc := 46) hx hb hr rfl (fun t ht hW => ⟨rfl, ⟨by rw [ht]; exact hP, hD⟩, hS.F ht⟩) hS.2.2 (zdt_at zt_X10_same_0 25 rfl)
    replace hf := ze_s cn_ hf
    clear cn_
    refine lv_aload_n (pc := 26) hx hb (zdt_at zt_X10_same_0 13 rfl) rfl (lv_at hl 0 rfl) ?_
    refine va_get (pc := 27) (D := D) (ci := 12) (v := .ref (hm 9)) (C := RX10) (T := TX10) (N := 52) hx hb hts hcX10 hown hK hP 0 rfl rfl 9 (by decide) hw1 (fun _ h9 => h9) rfl (zdt_at zt_X10_same_0 14 rfl) ?_
    refine lv_iload_n (pc := 30) hx hb (zdt_at zt_X10_same_0 15 rfl) rfl (lv_at hl 1 rfl) ?_
    replace hf := zk_s hf
    refine va_iald (pc := 31) hx hb hK hP 3 1 rfl rfl hf.1 (zdt_at zt_X10_same_0 16 rfl) ?_
    replace hf := hf.2
    refine lv_if_eq (pc := 32) (tgt := 45) hx hb (zdt_at zt_X10_same_0 17 rfl) (by decide) (fun cn_ => ?t_6) (fun cn_ => ?f_7)
    case t_6 =>
      replace hf := zt_s cn_ hf
      clear cn_
      refine lv_iconst (pc := 45) (v := (0 : Int32)) hx hb (zdt_at zt_X10_same_0 24 rfl) (by decide) ?_
      cases hf
      exact W.zret (pc := 46) hx hb hr rfl (fun t ht hW => ⟨rfl, ⟨by rw [ht]; exact hP, hD⟩, hS.F ht⟩) hS.2.2 (zdt_at zt_X10_same_0 25 rfl)
    replace hf := ze_s cn_ hf
    clear cn_
    refine lv_iload_n (pc := 35) hx hb (zdt_at zt_X10_same_0 18 rfl) rfl (lv_at hl 2 rfl) ?_
    refine lv_aload_n (pc := 36) hx hb (zdt_at zt_X10_same_0 19 rfl) rfl (lv_at hl 0 rfl) ?_
    refine va_get (pc := 37) (D := D) (ci := 12) (v := .ref (hm 10)) (C := RX10) (T := TX10) (N := 52) hx hb hts hcX10 hown hK hP 0 rfl rfl 10 (by decide) hw2 (fun _ h9 => h9) rfl (zdt_at zt_X10_same_0 20 rfl) ?_
    refine lv_iload_n (pc := 40) hx hb (zdt_at zt_X10_same_0 21 rfl) rfl (lv_at hl 1 rfl) ?_
    replace hf := zk_s hf
    refine va_iald (pc := 41) hx hb hK hP 4 1 rfl rfl hf.1 (zdt_at zt_X10_same_0 22 rfl) ?_
    replace hf := hf.2
    refine lv_icmp_eq (pc := 42) (tgt := 47) hx hb (zdt_at zt_X10_same_0 23 rfl) (by decide) (fun cn_ => ?t_8) (fun cn_ => ?f_9)
    case f_9 =>
      replace hf := ze_s cn_ hf
      clear cn_
      refine lv_iconst (pc := 45) (v := (0 : Int32)) hx hb (zdt_at zt_X10_same_0 24 rfl) (by decide) ?_
      cases hf
      exact W.zret (pc := 46) hx hb hr rfl (fun t ht hW => ⟨rfl, ⟨by rw [ht]; exact hP, hD⟩, hS.F ht⟩) hS.2.2 (zdt_at zt_X10_same_0 25 rfl)
    replace hf := zt_s cn_ hf
    clear cn_
    refine lv_iconst (pc := 47) (v := (0 : Int32)) hx hb (zdt_at zt_X10_same_0 26 rfl) (by decide) ?_
    refine lv_istore_n (pc := 48) (lv' := [(3, .int (0 : Int32)), (0, .ref h0), (1, .int p1), (2, .int p2)]) hx hb (zdt_at zt_X10_same_0 27 rfl) rfl hl (by decide) rfl ?_
    clear hl
    intro ls hl
    replace hf := zj_s hf
    obtain ⟨K_11, eK_11, hf⟩ := hf
    have kK_11 : ∀  (H : Heap) (locs : List Loc) (ls : Array Slot), va_P D vwCl ([(h0, .inr (12, zmo hm v_2 c_state c_test c_words c_ill c_before c_inRow c_first c_inWindow c_same c_made c_requests c_total c_secrets c_rounds c_high c_low c_keyHigh c_keyLow)), ((hm 6), .inl (cy 1, 512, .inl c_buffer)), ((hm 14), .inl (cy 1, 1024, .inl c_keys)), ((hm 9), .inl (cy 1, 16, .inl c_kind)), ((hm 10), .inl (cy 1, 16, .inl c_length))]) H → va_D A ([(h0, .inr (12, zmo hm v_2 c_state c_test c_words c_ill c_before c_inRow c_first c_inWindow c_same c_made c_requests c_total c_secrets c_rounds c_high c_low c_keyHigh c_keyLow)), ((hm 6), .inl (cy 1, 512, .inl c_buffer)), ((hm 14), .inl (cy 1, 1024, .inl c_keys)), ((hm 9), .inl (cy 1, 16, .inl c_kind)), ((hm 10), .inl (cy 1, 16, .inl c_length))]) → va_S A s.heap H locs → lv_has ls 4 [] → K_11 () = some (r_, c_thrown') → GW H locs (F0 m 82 ls []) := by
      clear hf hl hP hD hS
      intro  H locs ls hP hD hS hl hf
      rw [eK_11] at hf
      clear eK_11
      refine hFr _ _ _ ?_
      refine lv_iconst (pc := 82) (v := (1 : Int32)) hx hb (zdt_at zt_X10_same_0 48 rfl) (by decide) ?_
      cases hf
      exact W.zret (pc := 83) hx hb hr rfl (fun t ht hW => ⟨rfl, ⟨by rw [ht]; exact hP, hD⟩, hS.F ht⟩) hS.2.2 (zdt_at zt_X10_same_0 49 rfl)
    clear eK_11
    refine hTo _ _ _ (zl_go (fun i_10 => ∀ (H : Heap) (locs : List Loc) (ls : Array Slot), va_P D vwCl ([(h0, .inr (12, zmo hm v_2 c_state c_test c_words c_ill c_before c_inRow c_first c_inWindow c_same c_made c_requests c_total c_secrets c_rounds c_high c_low c_keyHigh c_keyLow)), ((hm 6), .inl (cy 1, 512, .inl c_buffer)), ((hm 14), .inl (cy 1, 1024, .inl c_keys)), ((hm 9), .inl (cy 1, 16, .inl c_kind)), ((hm 10), .inl (cy 1, 16, .inl c_length))]) H → va_D A ([(h0, .inr (12, zmo hm v_2 c_state c_test c_words c_ill c_before c_inRow c_first c_inWindow c_same c_made c_requests c_total c_secrets c_rounds c_high c_low c_keyHigh c_keyLow)), ((hm 6), .inl (cy 1, 512, .inl c_buffer)), ((hm 14), .inl (cy 1, 1024, .inl c_keys)), ((hm 9), .inl (cy 1, 16, .inl c_kind)), ((hm 10), .inl (cy 1, 16, .inl c_length))]) → va_S A s.heap H locs → lv_has ls 4 [(0, .ref h0), (1, .int p1), (2, .int p2), (3, .int i_10)] → GW H locs (F0 m 49 ls [])) hf ?_ H locs ls hP hD hS (lv_sub hl [1, 2, 3, 0] rfl))
    clear hf hl hP hD hS
    intro self_12 ihself_12 i_10 hf
    intro H locs ls hP hD hS hl
    refine hFr _ _ _ ?_
    unfold b_X10_same_49 at hf
    refine lv_iload_n (pc := 49) hx hb (zdt_at zt_X10_same_0 28 rfl) rfl (lv_at hl 3 rfl) ?_
    refine lv_iload_n (pc := 50) hx hb (zdt_at zt_X10_same_0 29 rfl) rfl (lv_at hl 2 rfl) ?_
    refine lv_icmp_ge (pc := 51) (tgt := 82) hx hb (zdt_at zt_X10_same_0 30 rfl) (by decide) (fun cn_ => ?t_13) (fun cn_ => ?f_14)
    case t_13 =>
      replace hf := zt_s cn_ hf
      clear cn_
      exact hTo _ _ _ (kK_11  H locs ls hP hD hS (lv_sub hl [] rfl) hf)
    replace hf := ze_s cn_ hf
    clear cn_
    refine lv_aload_n (pc := 54) hx hb (zdt_at zt_X10_same_0 31 rfl) rfl (lv_at hl 0 rfl) ?_
    refine va_get (pc := 55) (D := D) (ci := 12) (v := .ref (hm 14)) (C := RX10) (T := TX10) (N := 52) hx hb hts hcX10 hown hK hP 0 rfl rfl 14 (by decide) hw3 (fun _ h9 => h9) rfl (zdt_at zt_X10_same_0 32 rfl) ?_
    refine lv_bipush (pc := 58) (v := (64 : Int32)) hx hb (zdt_at zt_X10_same_0 33 rfl) (by decide) ?_
    refine lv_iload_n (pc := 60) hx hb (zdt_at zt_X10_same_0 34 rfl) rfl (lv_at hl 1 rfl) ?_
    refine lv_imul (pc := 61) hx hb (zdt_at zt_X10_same_0 35 rfl) ?_
    refine lv_iload_n (pc := 62) hx hb (zdt_at zt_X10_same_0 36 rfl) rfl (lv_at hl 3 rfl) ?_
    refine lv_iadd (pc := 63) hx hb (zdt_at zt_X10_same_0 37 rfl) ?_
    replace hf := zk_s hf
    refine va_iald (pc := 64) hx hb hK hP 2 1 rfl rfl hf.1 (zdt_at zt_X10_same_0 38 rfl) ?_
    replace hf := hf.2
    refine lv_aload_n (pc := 65) hx hb (zdt_at zt_X10_same_0 39 rfl) rfl (lv_at hl 0 rfl) ?_
    refine va_get (pc := 66) (D := D) (ci := 12) (v := .ref (hm 6)) (C := RX10) (T := TX10) (N := 52) hx hb hts hcX10 hown hK hP 0 rfl rfl 6 (by decide) hw4 (fun _ h9 => h9) rfl (zdt_at zt_X10_same_0 40 rfl) ?_
    refine lv_iload_n (pc := 69) hx hb (zdt_at zt_X10_same_0 41 rfl) rfl (lv_at hl 3 rfl) ?_
    replace hf := zk_s hf
    refine va_iald (pc := 70) hx hb hK hP 1 1 rfl rfl hf.1 (zdt_at zt_X10_same_0 42 rfl) ?_
    replace hf := hf.2
    refine lv_icmp_eq (pc := 71) (tgt := 76) hx hb (zdt_at zt_X10_same_0 43 rfl) (by decide) (fun cn_ => ?t_15) (fun cn_ => ?f_16)
    case f_16 =>
      replace hf := ze_s cn_ hf
      clear cn_
      refine lv_iconst (pc := 74) (v := (0 : Int32)) hx hb (zdt_at zt_X10_same_0 44 rfl) (by decide) ?_
      cases hf
      exact W.zret (pc := 75) hx hb hr rfl (fun t ht hW => ⟨rfl, ⟨by rw [ht]; exact hP, hD⟩, hS.F ht⟩) hS.2.2 (zdt_at zt_X10_same_0 45 rfl)
    replace hf := zt_s cn_ hf
    clear cn_
    refine lv_iinc (pc := 76) (v := (i_10 + (1 : Int32))) (lv' := [(3, .int (i_10 + (1 : Int32))), (0, .ref h0), (1, .int p1), (2, .int p2)]) hx hb (zdt_at zt_X10_same_0 46 rfl) hl (k := 3) rfl rfl (by decide) rfl ?_
    clear hl
    intro ls hl
    refine lv_goto (pc := 79) (tgt := 49) hx hb (zdt_at zt_X10_same_0 47 rfl) (by decide) ?_
    exact hTo _ _ _ (ihself_12 _ hf H locs ls hP hD hS (lv_sub hl [1, 2, 3, 0] rfl))
  clear eK_3
  refine lv_if_eq (pc := 8) (tgt := 15) hx hb (zdt_at zt_X10_same_0 5 rfl) (by decide) (fun cn_ => ?t_17) (fun cn_ => ?f_18)
  case t_17 =>
    replace hf := zt_s cn_ hf
    clear cn_
    refine lv_iconst (pc := 15) (v := (1 : Int32)) hx hb (zdt_at zt_X10_same_0 8 rfl) (by decide) ?_
    exact hTo _ _ _ (kK_3 _ H locs ls hP hD hS (lv_sub hl [0, 1, 2] rfl) hf)
  replace hf := ze_s cn_ hf
  clear cn_
  refine lv_iconst (pc := 11) (v := (0 : Int32)) hx hb (zdt_at zt_X10_same_0 6 rfl) (by decide) ?_
  refine lv_goto (pc := 12) (tgt := 16) hx hb (zdt_at zt_X10_same_0 7 rfl) (by decide) ?_
  exact hTo _ _ _ (kK_3 _ H locs ls hP hD hS (lv_sub hl [0, 1, 2] rfl) hf)
