set_option maxHeartbeats 4000000 in
set_option maxRecDepth 100000 in
theorem c_X4_ecbSeal (l : Launch) (D : va_G) (cy : Nat → ClassId) (tt : Nat → Nat) (sz : Nat) (h0 : Nat) (h0_aes : Nat) (h0_block : Nat) (h0_pad : Nat) (h0_aes_keys : Nat) (ha1 : Nat) (n_a1 : Nat) (p2 : Int32) (p3 : Int32) (c_aes_rounds : Int32) (c_aes_keys : Nat → Int32) (ca1 : Nat → Int32) (ca1' : Nat → Int32) (hf : f_X4_ecbSeal n_a1 p2 p3 c_aes_rounds c_aes_keys ca1 = some ca1') : Met l yX4_ecbSeal wsX4_ecbSeal ({ frames := 2, cells := 0, slots := 0, locals := 55 }) (zPc D cy tt sz [.ref h0, .ref ha1, .int p2, .int p3] ([(h0, .inr (6, [.ref h0_aes, .ref h0_block, .ref h0_pad])), (h0_aes, .inr (2, [.ref h0_aes_keys, .int c_aes_rounds])), (h0_aes_keys, .inl (cy 1, 60, .inl c_aes_keys)), (ha1, .inl (cy 0, n_a1, .inl ca1))])) (zQ D none ([(h0, .inr (6, [.ref h0_aes, .ref h0_block, .ref h0_pad])), (h0_aes, .inr (2, [.ref h0_aes_keys, .int c_aes_rounds])), (h0_aes_keys, .inl (cy 1, 60, .inl c_aes_keys)), (ha1, .inl (cy 0, n_a1, .inl ca1'))]) (va_A ([(h0, .inr (6, [.ref h0_aes, .ref h0_block, .ref h0_pad])), (h0_aes, .inr (2, [.ref h0_aes_keys, .int c_aes_rounds])), (h0_aes_keys, .inl (cy 1, 60, .inl c_aes_keys)), (ha1, .inl (cy 0, n_a1, .inl ca1))]) sz)) 0 0 (va_A ([(h0, .inr (6, [.ref h0_aes, .ref h0_block, .ref h0_pad])), (h0_aes, .inr (2, [.ref h0_aes_keys, .int c_aes_rounds])), (h0_aes_keys, .inl (cy 1, 60, .inl c_aes_keys)), (ha1, .inl (cy 0, n_a1, .inl ca1))]) sz) := by
  refine Met.ofW (cc := cX4_ecbSeal) (maxL := 5) (ret := none) (by decide) rfl ?_
  intro p e s m args below meth c s₁ B hml hv
  obtain ⟨rfl, rfl, hP, hD0, hE⟩ := hv
  have hx := B.exec
  have hb := B.bytes
  have hr := B.returns
  have hts := atoms_spec (ws := wsX4_ecbSeal) B.pre
  have hown : s.vm.findClass RX4 = some m.cls := findClass_of_methodNamed B.named
  have hlocks := B.notSynchronized
  clear B
  have hD := hD0.self (sz := s.heap.size)
  generalize hAe : va_A ([(h0, .inr (6, [.ref h0_aes, .ref h0_block, .ref h0_pad])), (h0_aes, .inr (2, [.ref h0_aes_keys, .int c_aes_rounds])), (h0_aes_keys, .inl (cy 1, 60, .inl c_aes_keys)), (ha1, .inl (cy 0, n_a1, .inl ca1))]) s.heap.size = A at hD hE ⊢
  have hA : ∀ q : Nat, s.heap.size ≤ q → A q := fun q h => by rw [← hAe]; exact Or.inr h
  clear hAe hD0
  have hS : va_S A s.heap s.heap [] := va_S.rf
  have hK := hE.1
  have hw0 := hts (.fieldLink RX4 18 "SealedModule$Modes" "aes" "LSealedModule$Aes;") (by decide +kernel)
  have hcX4 : ∀ w ∈ u_ws RX4 TX4 3, w ∈ wsX4_ecbSeal := (fun _ h => List.mem_cons_of_mem _ (List.mem_append_left _ (List.mem_append_right _ h)))
  have hl := lv_entry ([.ref h0, .ref ha1, .int p2, .int p3]) (n := 5) (Nat.le_of_ble_eq_true rfl)
  rw [lg_entry_eq]
  generalize (lg_sl ([.ref h0, .ref ha1, .int p2, .int p3]) ++ List.replicate (5 - (lg_sl ([.ref h0, .ref ha1, .int p2, .int p3])).length) Slot.unset).toArray = ls at hl ⊢
  replace hl : lv_has ls 5 [(0, .ref h0), (1, .ref ha1), (2, .int p2), (3, .int p3)] := hl
  unfold f_X4_ecbSeal at hf
  refine zgo (fun GW hTo hFr => ?_)
  refine hFr _ _ _ ?_
  obtain ⟨H, hHe⟩ : ∃ H, H = s.heap := ⟨_, rfl⟩
  obtain ⟨locs, hLe⟩ : ∃ L : List Loc, L = [] := ⟨_, rfl⟩
  rw [← hHe] at hP
  replace hS : va_S A s.heap H locs := by rw [hHe, hLe]; exact hS
  refine zat hHe.symm hLe.symm ?_
  clear hHe hLe
  refine lv_iconst (pc := 0) (v := (0 : Int32)) hx hb (zdt_at zt_X4_ecbSeal_0 0 rfl) (by decide) ?_
  refine lv_istore (pc := 1) (lv' := [(4, .int (0 : Int32)), (0, .ref h0), (1, .ref ha1), (2, .int p2), (3, .int p3)]) hx hb (zdt_at zt_X4_ecbSeal_0 1 rfl) hl (by decide) rfl ?_
  clear hl
  intro ls hl
  replace hf := zj_s hf
  obtain ⟨K_4, eK_4, hf⟩ := hf
  have kK_4 : ∀ (ca1_3 : Nat → Int32) (H : Heap) (locs : List Loc) (ls : Array Slot), va_P D vwCl ([(h0, .inr (6, [.ref h0_aes, .ref h0_block, .ref h0_pad])), (h0_aes, .inr (2, [.ref h0_aes_keys, .int c_aes_rounds])), (h0_aes_keys, .inl (cy 1, 60, .inl c_aes_keys)), (ha1, .inl (cy 0, n_a1, .inl ca1_3))]) H → va_D A ([(h0, .inr (6, [.ref h0_aes, .ref h0_block, .ref h0_pad])), (h0_aes, .inr (2, [.ref h0_aes_keys, .int c_aes_rounds])), (h0_aes_keys, .inl (cy 1, 60, .inl c_aes_keys)), (ha1, .inl (cy 0, n_a1, .inl ca1_3))]) → va_S A s.heap H locs → lv_has ls 5 [] → K_4 ca1_3 = some ca1' → GW H locs (F0 m 27 ls []) := by
    clear hf hl hP hD hS
    intro ca1_3 H locs ls hP hD hS hl hf
    rw [eK_4] at hf
    clear eK_4
    refine hFr _ _ _ ?_
    cases hf
    exact W.vret (pc := 27) hx hb hr (fun t ht hW => ⟨rfl, ⟨by rw [ht]; exact hP, hD⟩, hS.F ht⟩) hS.2.2 (zdt_at zt_X4_ecbSeal_0 14 rfl)
  clear eK_4
  refine hTo _ _ _ (zl_go (fun z => match z with | (i_1, ca1_2) => ∀ (H : Heap) (locs : List Loc) (ls : Array Slot), va_P D vwCl ([(h0, .inr (6, [.ref h0_aes, .ref h0_block, .ref h0_pad])), (h0_aes, .inr (2, [.ref h0_aes_keys, .int c_aes_rounds])), (h0_aes_keys, .inl (cy 1, 60, .inl c_aes_keys)), (ha1, .inl (cy 0, n_a1, .inl ca1_2))]) H → va_D A ([(h0, .inr (6, [.ref h0_aes, .ref h0_block, .ref h0_pad])), (h0_aes, .inr (2, [.ref h0_aes_keys, .int c_aes_rounds])), (h0_aes_keys, .inl (cy 1, 60, .inl c_aes_keys)), (ha1, .inl (cy 0, n_a1, .inl ca1_2))]) → va_S A s.heap H locs → lv_has ls 5 [(0, .ref h0), (1, .ref ha1), (2, .int p2), (3, .int p3), (4, .int i_1)] → GW H locs (F0 m 3 ls [])) hf ?_ H locs ls hP hD hS (lv_sub hl [1, 2, 3, 4, 0] rfl))
  clear hf hl hP hD hS
  intro self_5 ihself_5 z hf
  obtain ⟨i_1, ca1_2⟩ := z
  intro H locs ls hP hD hS hl
  refine hFr _ _ _ ?_
  unfold b_X4_ecbSeal_3 at hf
  refine lv_iload (pc := 3) hx hb (zdt_at zt_X4_ecbSeal_0 2 rfl) (lv_at hl 4 rfl) ?_
  refine lv_iload_n (pc := 5) hx hb (zdt_at zt_X4_ecbSeal_0 3 rfl) rfl (lv_at hl 3 rfl) ?_
  refine lv_icmp_ge (pc := 6) (tgt := 27) hx hb (zdt_at zt_X4_ecbSeal_0 4 rfl) (by decide) (fun cn_ => ?t_6) (fun cn_ => ?f_7)
  case t_6 =>
    replace hf := zt_s cn_ hf
    clear cn_
    exact hTo _ _ _ (kK_4 _ H locs ls hP hD hS (lv_sub hl [] rfl) hf)
  replace hf := ze_s cn_ hf
  clear cn_
  refine lv_aload_n (pc := 9) hx hb (zdt_at zt_X4_ecbSeal_0 5 rfl) rfl (lv_at hl 0 rfl) ?_
  refine va_get (pc := 10) (D := D) (ci := 6) (v := .ref h0_aes) (C := RX4) (T := TX4) (N := 3) hx hb hts hcX4 hown hK hP 0 rfl rfl 0 (by decide) hw0 (fun _ h9 => h9) rfl (zdt_at zt_X4_ecbSeal_0 6 rfl) ?_
  refine lv_aload_n (pc := 13) hx hb (zdt_at zt_X4_ecbSeal_0 7 rfl) rfl (lv_at hl 1 rfl) ?_
  refine lv_iload_n (pc := 14) hx hb (zdt_at zt_X4_ecbSeal_0 8 rfl) rfl (lv_at hl 2 rfl) ?_
  refine lv_iload (pc := 15) hx hb (zdt_at zt_X4_ecbSeal_0 9 rfl) (lv_at hl 4 rfl) ?_
  refine lv_iadd (pc := 17) hx hb (zdt_at zt_X4_ecbSeal_0 10 rfl) ?_
  replace hf := zb_s hf
  obtain ⟨ca1_8, hc_, hf⟩ := hf
  refine zcn2 (pc := 18) (rv := none) (va_runV (As := [.ref ha1, .int (p2 + i_1)]) (rest := []) ⟨hx, hb, hml, hown, hts⟩ (c_X0_encrypt l D cy tt H.size h0_aes h0_aes_keys ha1 n_a1 (p2 + i_1) c_aes_rounds c_aes_keys ca1_2 ca1_8 hc_) (cwV 2 hts gX4_ecbSeal_X0_encrypt rfl rfl rfl (by decide +kernel) ⟨Nat.le_of_ble_eq_true rfl, Nat.le_of_ble_eq_true rfl⟩) ⟨zblind, va_recv hK hP (ci := 2) (q0 := 1) rfl rfl, zpre hE hS (hP.sub [1, 2, 3] rfl) (hD.sub [1, 2, 3] (by decide) rfl) (va_free hD hS hA [1, 2, 3] rfl)⟩ rfl rfl hl.1 rfl (lv_room (Nat.le_of_ble_eq_true rfl)) (zdt_at zt_X4_ecbSeal_0 11 rfl) ⟨Nat.zero_le _, Nat.zero_le _⟩) hS hP hD (va_free hD hS hA [1, 2, 3] rfl) [1, 2, 3] rfl (by decide) rfl ?_
  clear hP hD hS hc_
  intro H locs hP hD hS
  replace hP : va_P D vwCl ([(h0, .inr (6, [.ref h0_aes, .ref h0_block, .ref h0_pad])), (h0_aes, .inr (2, [.ref h0_aes_keys, .int c_aes_rounds])), (h0_aes_keys, .inl (cy 1, 60, .inl c_aes_keys)), (ha1, .inl (cy 0, n_a1, .inl ca1_8))]) H := hP
  replace hD : va_D A ([(h0, .inr (6, [.ref h0_aes, .ref h0_block, .ref h0_pad])), (h0_aes, .inr (2, [.ref h0_aes_keys, .int c_aes_rounds])), (h0_aes_keys, .inl (cy 1, 60, .inl c_aes_keys)), (ha1, .inl (cy 0, n_a1, .inl ca1_8))]) := hD
  refine W.eq (g2 := F0 m 21 ls []) rfl ?_
  refine lv_iinc (pc := 21) (v := (i_1 + (16 : Int32))) (lv' := [(4, .int (i_1 + (16 : Int32))), (0, .ref h0), (1, .ref ha1), (2, .int p2), (3, .int p3)]) hx hb (zdt_at zt_X4_ecbSeal_0 12 rfl) hl (k := 4) rfl rfl (by decide) rfl ?_
  clear hl
  intro ls hl
  refine lv_goto (pc := 24) (tgt := 3) hx hb (zdt_at zt_X4_ecbSeal_0 13 rfl) (by decide) ?_
  exact hTo _ _ _ (ihself_5 _ hf H locs ls hP hD hS (lv_sub hl [1, 2, 3, 4, 0] rfl))
set_option maxHeartbeats 4000000 in
set_option maxRecDepth 100000 in
theorem c_X4_ecbOpen (l : Launch) (D : va_G) (cy : Nat → ClassId) (tt : Nat → Nat) (sz : Nat) (h0 : Nat) (h0_aes : Nat) (h0_block : Nat) (h0_pad : Nat) (h0_aes_keys : Nat) (ha1 : Nat) (n_a1 : Nat) (p2 : Int32) (p3 : Int32) (c_aes_rounds : Int32) (c_aes_keys : Nat → Int32) (ca1 : Nat → Int32) (ca1' : Nat → Int32) (hf : f_X4_ecbOpen n_a1 p2 p3 c_aes_rounds c_aes_keys ca1 = some ca1') : Met l yX4_ecbOpen wsX4_ecbOpen ({ frames := 3, cells := 0, slots := 0, locals := 76 }) (zPc D cy tt sz [.ref h0, .ref ha1, .int p2, .int p3] ([(h0, .inr (6, [.ref h0_aes, .ref h0_block, .ref h0_pad])), (h0_aes, .inr (2, [.ref h0_aes_keys, .int c_aes_rounds])), (h0_aes_keys, .inl (cy 1, 60, .inl c_aes_keys)), (ha1, .inl (cy 0, n_a1, .inl ca1))])) (zQ D none ([(h0, .inr (6, [.ref h0_aes, .ref h0_block, .ref h0_pad])), (h0_aes, .inr (2, [.ref h0_aes_keys, .int c_aes_rounds])), (h0_aes_keys, .inl (cy 1, 60, .inl c_aes_keys)), (ha1, .inl (cy 0, n_a1, .inl ca1'))]) (va_A ([(h0, .inr (6, [.ref h0_aes, .ref h0_block, .ref h0_pad])), (h0_aes, .inr (2, [.ref h0_aes_keys, .int c_aes_rounds])), (h0_aes_keys, .inl (cy 1, 60, .inl c_aes_keys)), (ha1, .inl (cy 0, n_a1, .inl ca1))]) sz)) 0 0 (va_A ([(h0, .inr (6, [.ref h0_aes, .ref h0_block, .ref h0_pad])), (h0_aes, .inr (2, [.ref h0_aes_keys, .int c_aes_rounds])), (h0_aes_keys, .inl (cy 1, 60, .inl c_aes_keys)), (ha1, .inl (cy 0, n_a1, .inl ca1))]) sz) := by
  refine Met.ofW (cc := cX4_ecbOpen) (maxL := 5) (ret := none) (by decide) rfl ?_
  intro p e s m args below meth c s₁ B hml hv
  obtain ⟨rfl, rfl, hP, hD0, hE⟩ := hv
  have hx := B.exec
  have hb := B.bytes
  have hr := B.returns
  have hts := atoms_spec (ws := wsX4_ecbOpen) B.pre
  have hown : s.vm.findClass RX4 = some m.cls := findClass_of_methodNamed B.named
  have hlocks := B.notSynchronized
  clear B
  have hD := hD0.self (sz := s.heap.size)
  generalize hAe : va_A ([(h0, .inr (6, [.ref h0_aes, .ref h0_block, .ref h0_pad])), (h0_aes, .inr (2, [.ref h0_aes_keys, .int c_aes_rounds])), (h0_aes_keys, .inl (cy 1, 60, .inl c_aes_keys)), (ha1, .inl (cy 0, n_a1, .inl ca1))]) s.heap.size = A at hD hE ⊢
  have hA : ∀ q : Nat, s.heap.size ≤ q → A q := fun q h => by rw [← hAe]; exact Or.inr h
  clear hAe hD0
  have hS : va_S A s.heap s.heap [] := va_S.rf
  have hK := hE.1
  have hw0 := hts (.fieldLink RX4 18 "SealedModule$Modes" "aes" "LSealedModule$Aes;") (by decide +kernel)
  have hcX4 : ∀ w ∈ u_ws RX4 TX4 3, w ∈ wsX4_ecbOpen := (fun _ h => List.mem_cons_of_mem _ (List.mem_append_left _ (List.mem_append_right _ h)))
  have hl := lv_entry ([.ref h0, .ref ha1, .int p2, .int p3]) (n := 5) (Nat.le_of_ble_eq_true rfl)
  rw [lg_entry_eq]
  generalize (lg_sl ([.ref h0, .ref ha1, .int p2, .int p3]) ++ List.replicate (5 - (lg_sl ([.ref h0, .ref ha1, .int p2, .int p3])).length) Slot.unset).toArray = ls at hl ⊢
  replace hl : lv_has ls 5 [(0, .ref h0), (1, .ref ha1), (2, .int p2), (3, .int p3)] := hl
  unfold f_X4_ecbOpen at hf
  refine zgo (fun GW hTo hFr => ?_)
  refine hFr _ _ _ ?_
  obtain ⟨H, hHe⟩ : ∃ H, H = s.heap := ⟨_, rfl⟩
  obtain ⟨locs, hLe⟩ : ∃ L : List Loc, L = [] := ⟨_, rfl⟩
  rw [← hHe] at hP
  replace hS : va_S A s.heap H locs := by rw [hHe, hLe]; exact hS
  refine zat hHe.symm hLe.symm ?_
  clear hHe hLe
  refine lv_iconst (pc := 0) (v := (0 : Int32)) hx hb (zdt_at zt_X4_ecbOpen_0 0 rfl) (by decide) ?_
  refine lv_istore (pc := 1) (lv' := [(4, .int (0 : Int32)), (0, .ref h0), (1, .ref ha1), (2, .int p2), (3, .int p3)]) hx hb (zdt_at zt_X4_ecbOpen_0 1 rfl) hl (by decide) rfl ?_
  clear hl
  intro ls hl
  replace hf := zj_s hf
  obtain ⟨K_4, eK_4, hf⟩ := hf
  have kK_4 : ∀ (ca1_3 : Nat → Int32) (H : Heap) (locs : List Loc) (ls : Array Slot), va_P D vwCl ([(h0, .inr (6, [.ref h0_aes, .ref h0_block, .ref h0_pad])), (h0_aes, .inr (2, [.ref h0_aes_keys, .int c_aes_rounds])), (h0_aes_keys, .inl (cy 1, 60, .inl c_aes_keys)), (ha1, .inl (cy 0, n_a1, .inl ca1_3))]) H → va_D A ([(h0, .inr (6, [.ref h0_aes, .ref h0_block, .ref h0_pad])), (h0_aes, .inr (2, [.ref h0_aes_keys, .int c_aes_rounds])), (h0_aes_keys, .inl (cy 1, 60, .inl c_aes_keys)), (ha1, .inl (cy 0, n_a1, .inl ca1_3))]) → va_S A s.heap H locs → lv_has ls 5 [] → K_4 ca1_3 = some ca1' → GW H locs (F0 m 27 ls []) := by
    clear hf hl hP hD hS
    intro ca1_3 H locs ls hP hD hS hl hf
    rw [eK_4] at hf
    clear eK_4
    refine hFr _ _ _ ?_
    cases hf
    exact W.vret (pc := 27) hx hb hr (fun t ht hW => ⟨rfl, ⟨by rw [ht]; exact hP, hD⟩, hS.F ht⟩) hS.2.2 (zdt_at zt_X4_ecbOpen_0 14 rfl)
  clear eK_4
  refine hTo _ _ _ (zl_go (fun z => match z with | (i_1, ca1_2) => ∀ (H : Heap) (locs : List Loc) (ls : Array Slot), va_P D vwCl ([(h0, .inr (6, [.ref h0_aes, .ref h0_block, .ref h0_pad])), (h0_aes, .inr (2, [.ref h0_aes_keys, .int c_aes_rounds])), (h0_aes_keys, .inl (cy 1, 60, .inl c_aes_keys)), (ha1, .inl (cy 0, n_a1, .inl ca1_2))]) H → va_D A ([(h0, .inr (6, [.ref h0_aes, .ref h0_block, .ref h0_pad])), (h0_aes, .inr (2, [.ref h0_aes_keys, .int c_aes_rounds])), (h0_aes_keys, .inl (cy 1, 60, .inl c_aes_keys)), (ha1, .inl (cy 0, n_a1, .inl ca1_2))]) → va_S A s.heap H locs → lv_has ls 5 [(0, .ref h0), (1, .ref ha1), (2, .int p2), (3, .int p3), (4, .int i_1)] → GW H locs (F0 m 3 ls [])) hf ?_ H locs ls hP hD hS (lv_sub hl [1, 2, 3, 4, 0] rfl))
  clear hf hl hP hD hS
  intro self_5 ihself_5 z hf
  obtain ⟨i_1, ca1_2⟩ := z
  intro H locs ls hP hD hS hl
  refine hFr _ _ _ ?_
  unfold b_X4_ecbOpen_3 at hf
  refine lv_iload (pc := 3) hx hb (zdt_at zt_X4_ecbOpen_0 2 rfl) (lv_at hl 4 rfl) ?_
  refine lv_iload_n (pc := 5) hx hb (zdt_at zt_X4_ecbOpen_0 3 rfl) rfl (lv_at hl 3 rfl) ?_
  refine lv_icmp_ge (pc := 6) (tgt := 27) hx hb (zdt_at zt_X4_ecbOpen_0 4 rfl) (by decide) (fun cn_ => ?t_6) (fun cn_ => ?f_7)
  case t_6 =>
    replace hf := zt_s cn_ hf
    clear cn_
    exact hTo _ _ _ (kK_4 _ H locs ls hP hD hS (lv_sub hl [] rfl) hf)
  replace hf := ze_s cn_ hf
  clear cn_
  refine lv_aload_n (pc := 9) hx hb (zdt_at zt_X4_ecbOpen_0 5 rfl) rfl (lv_at hl 0 rfl) ?_
  refine va_get (pc := 10) (D := D) (ci := 6) (v := .ref h0_aes) (C := RX4) (T := TX4) (N := 3) hx hb hts hcX4 hown hK hP 0 rfl rfl 0 (by decide) hw0 (fun _ h9 => h9) rfl (zdt_at zt_X4_ecbOpen_0 6 rfl) ?_
  refine lv_aload_n (pc := 13) hx hb (zdt_at zt_X4_ecbOpen_0 7 rfl) rfl (lv_at hl 1 rfl) ?_
  refine lv_iload_n (pc := 14) hx hb (zdt_at zt_X4_ecbOpen_0 8 rfl) rfl (lv_at hl 2 rfl) ?_
  refine lv_iload (pc := 15) hx hb (zdt_at zt_X4_ecbOpen_0 9 rfl) (lv_at hl 4 rfl) ?_
  refine lv_iadd (pc := 17) hx hb (zdt_at zt_X4_ecbOpen_0 10 rfl) ?_
  replace hf := zb_s hf
  obtain ⟨ca1_8, hc_, hf⟩ := hf
  refine zcn2 (pc := 18) (rv := none) (va_runV (As := [.ref ha1, .int (p2 + i_1)]) (rest := []) ⟨hx, hb, hml, hown, hts⟩ (c_X0_decrypt l D cy tt H.size h0_aes h0_aes_keys ha1 n_a1 (p2 + i_1) c_aes_rounds c_aes_keys ca1_2 ca1_8 hc_) (cwV 2 hts gX4_ecbOpen_X0_decrypt rfl rfl rfl (by decide +kernel) ⟨Nat.le_of_ble_eq_true rfl, Nat.le_of_ble_eq_true rfl⟩) ⟨zblind, va_recv hK hP (ci := 2) (q0 := 1) rfl rfl, zpre hE hS (hP.sub [1, 2, 3] rfl) (hD.sub [1, 2, 3] (by decide) rfl) (va_free hD hS hA [1, 2, 3] rfl)⟩ rfl rfl hl.1 rfl (lv_room (Nat.le_of_ble_eq_true rfl)) (zdt_at zt_X4_ecbOpen_0 11 rfl) ⟨Nat.zero_le _, Nat.zero_le _⟩) hS hP hD (va_free hD hS hA [1, 2, 3] rfl) [1, 2, 3] rfl (by decide) rfl ?_
  clear hP hD hS hc_
  intro H locs hP hD hS
  replace hP : va_P D vwCl ([(h0, .inr (6, [.ref h0_aes, .ref h0_block, .ref h0_pad])), (h0_aes, .inr (2, [.ref h0_aes_keys, .int c_aes_rounds])), (h0_aes_keys, .inl (cy 1, 60, .inl c_aes_keys)), (ha1, .inl (cy 0, n_a1, .inl ca1_8))]) H := hP
  replace hD : va_D A ([(h0, .inr (6, [.ref h0_aes, .ref h0_block, .ref h0_pad])), (h0_aes, .inr (2, [.ref h0_aes_keys, .int c_aes_rounds])), (h0_aes_keys, .inl (cy 1, 60, .inl c_aes_keys)), (ha1, .inl (cy 0, n_a1, .inl ca1_8))]) := hD
  refine W.eq (g2 := F0 m 21 ls []) rfl ?_
  refine lv_iinc (pc := 21) (v := (i_1 + (16 : Int32))) (lv' := [(4, .int (i_1 + (16 : Int32))), (0, .ref h0), (1, .ref ha1), (2, .int p2), (3, .int p3)]) hx hb (zdt_at zt_X4_ecbOpen_0 12 rfl) hl (k := 4) rfl rfl (by decide) rfl ?_
  clear hl
  intro ls hl
  refine lv_goto (pc := 24) (tgt := 3) hx hb (zdt_at zt_X4_ecbOpen_0 13 rfl) (by decide) ?_
  exact hTo _ _ _ (ihself_5 _ hf H locs ls hP hD hS (lv_sub hl [1, 2, 3, 4, 0] rfl))
set_option maxHeartbeats 4000000 in
set_option maxRecDepth 100000 in
theorem c_X9_xorBytes_2a0 (l : Launch) (D : va_G) (cy : Nat → ClassId) (tt : Nat → Nat) (sz : Nat) (ha0 : Nat) (n_a0 : Nat) (p1 : Int32) (p3 : Int32) (p4 : Int32) (ca0 : Nat → Int32) (ca0' : Nat → Int32) (hf : f_X9_xorBytes_2a0 n_a0 p1 p3 p4 ca0 = some ca0') : Met l yX9_xorBytes wsX9_xorBytes ({ frames := 0, cells := 0, slots := 0, locals := 0 }) (zPc D cy tt sz [.ref ha0, .int p1, .ref ha0, .int p3, .int p4] ([(ha0, .inl (cy 0, n_a0, .inl ca0))])) (zQ D none ([(ha0, .inl (cy 0, n_a0, .inl ca0'))]) (va_A ([(ha0, .inl (cy 0, n_a0, .inl ca0))]) sz)) 0 0 (va_A ([(ha0, .inl (cy 0, n_a0, .inl ca0))]) sz) := by
  refine Met.ofW (cc := cX9_xorBytes) (maxL := 6) (ret := none) (by decide) rfl ?_
  intro p e s m args below meth c s₁ B hml hv
  obtain ⟨rfl, rfl, hP, hD0, hE⟩ := hv
  have hx := B.exec
  have hb := B.bytes
  have hr := B.returns
  have hts := atoms_spec (ws := wsX9_xorBytes) B.pre
  have hown : s.vm.findClass RX9 = some m.cls := findClass_of_methodNamed B.named
  have hlocks := B.notSynchronized
  clear B
  have hD := hD0.self (sz := s.heap.size)
  generalize hAe : va_A ([(ha0, .inl (cy 0, n_a0, .inl ca0))]) s.heap.size = A at hD hE ⊢
  have hA : ∀ q : Nat, s.heap.size ≤ q → A q := fun q h => by rw [← hAe]; exact Or.inr h
  clear hAe hD0
  have hS : va_S A s.heap s.heap [] := va_S.rf
  have hK := hE.1
  have hl := lv_entry ([.ref ha0, .int p1, .ref ha0, .int p3, .int p4]) (n := 6) (Nat.le_of_ble_eq_true rfl)
  rw [lg_entry_eq]
  generalize (lg_sl ([.ref ha0, .int p1, .ref ha0, .int p3, .int p4]) ++ List.replicate (6 - (lg_sl ([.ref ha0, .int p1, .ref ha0, .int p3, .int p4])).length) Slot.unset).toArray = ls at hl ⊢
  replace hl : lv_has ls 6 [(0, .ref ha0), (1, .int p1), (2, .ref ha0), (3, .int p3), (4, .int p4)] := hl
  unfold f_X9_xorBytes_2a0 at hf
  refine zgo (fun GW hTo hFr => ?_)
  refine hFr _ _ _ ?_
  obtain ⟨H, hHe⟩ : ∃ H, H = s.heap := ⟨_, rfl⟩
  obtain ⟨locs, hLe⟩ : ∃ L : List Loc, L = [] := ⟨_, rfl⟩
  rw [← hHe] at hP
  replace hS : va_S A s.heap H locs := by rw [hHe, hLe]; exact hS
  refine zat hHe.symm hLe.symm ?_
  clear hHe hLe
  refine lv_iconst (pc := 0) (v := (0 : Int32)) hx hb (zdt_at zt_X9_xorBytes_0 0 rfl) (by decide) ?_
  refine lv_istore (pc := 1) (lv' := [(5, .int (0 : Int32)), (0, .ref ha0), (1, .int p1), (2, .ref ha0), (3, .int p3), (4, .int p4)]) hx hb (zdt_at zt_X9_xorBytes_0 1 rfl) hl (by decide) rfl ?_
  clear hl
  intro ls hl
  replace hf := zj_s hf
  obtain ⟨K_4, eK_4, hf⟩ := hf
  have kK_4 : ∀ (ca0_3 : Nat → Int32) (H : Heap) (locs : List Loc) (ls : Array Slot), va_P D vwCl ([(ha0, .inl (cy 0, n_a0, .inl ca0_3))]) H → va_D A ([(ha0, .inl (cy 0, n_a0, .inl ca0_3))]) → va_S A s.heap H locs → lv_has ls 6 [] → K_4 ca0_3 = some ca0' → GW H locs (F0 m 32 ls []) := by
    clear hf hl hP hD hS
    intro ca0_3 H locs ls hP hD hS hl hf
    rw [eK_4] at hf
    clear eK_4
    refine hFr _ _ _ ?_
    cases hf
    exact W.vret (pc := 32) hx hb hr (fun t ht hW => ⟨rfl, ⟨by rw [ht]; exact hP, hD⟩, hS.F ht⟩) hS.2.2 (zdt_at zt_X9_xorBytes_0 21 rfl)
  clear eK_4
  refine hTo _ _ _ (zl_go (fun z => match z with | (i_1, ca0_2) => ∀ (H : Heap) (locs : List Loc) (ls : Array Slot), va_P D vwCl ([(ha0, .inl (cy 0, n_a0, .inl ca0_2))]) H → va_D A ([(ha0, .inl (cy 0, n_a0, .inl ca0_2))]) → va_S A s.heap H locs → lv_has ls 6 [(0, .ref ha0), (1, .int p1), (2, .ref ha0), (3, .int p3), (4, .int p4), (5, .int i_1)] → GW H locs (F0 m 3 ls [])) hf ?_ H locs ls hP hD hS (lv_sub hl [1, 2, 3, 4, 5, 0] rfl))
  clear hf hl hP hD hS
  intro self_5 ihself_5 z hf
  obtain ⟨i_1, ca0_2⟩ := z
  intro H locs ls hP hD hS hl
  refine hFr _ _ _ ?_
  unfold b_X9_xorBytes_2a0_3 at hf
  refine lv_iload (pc := 3) hx hb (zdt_at zt_X9_xorBytes_0 2 rfl) (lv_at hl 5 rfl) ?_
  refine lv_iload (pc := 5) hx hb (zdt_at zt_X9_xorBytes_0 3 rfl) (lv_at hl 4 rfl) ?_
  refine lv_icmp_ge (pc := 7) (tgt := 32) hx hb (zdt_at zt_X9_xorBytes_0 4 rfl) (by decide) (fun cn_ => ?t_6) (fun cn_ => ?f_7)
  case t_6 =>
    replace hf := zt_s cn_ hf
    clear cn_
    exact hTo _ _ _ (kK_4 _ H locs ls hP hD hS (lv_sub hl [] rfl) hf)
  replace hf := ze_s cn_ hf
  clear cn_
  refine lv_aload_n (pc := 10) hx hb (zdt_at zt_X9_xorBytes_0 5 rfl) rfl (lv_at hl 2 rfl) ?_
  refine lv_iload_n (pc := 11) hx hb (zdt_at zt_X9_xorBytes_0 6 rfl) rfl (lv_at hl 3 rfl) ?_
  refine lv_iload (pc := 12) hx hb (zdt_at zt_X9_xorBytes_0 7 rfl) (lv_at hl 5 rfl) ?_
  refine lv_iadd (pc := 14) hx hb (zdt_at zt_X9_xorBytes_0 8 rfl) ?_
  refine lv_dup2_11 (pc := 15) hx hb (zdt_at zt_X9_xorBytes_0 9 rfl) rfl rfl ?_
  replace hf := zk_s hf
  refine va_bald (pc := 16) hx hb hK hP 0 0 rfl rfl hf.1 (zdt_at zt_X9_xorBytes_0 10 rfl) ?_
  replace hf := hf.2
  refine lv_aload_n (pc := 17) hx hb (zdt_at zt_X9_xorBytes_0 11 rfl) rfl (lv_at hl 0 rfl) ?_
  refine lv_iload_n (pc := 18) hx hb (zdt_at zt_X9_xorBytes_0 12 rfl) rfl (lv_at hl 1 rfl) ?_
  refine lv_iload (pc := 19) hx hb (zdt_at zt_X9_xorBytes_0 13 rfl) (lv_at hl 5 rfl) ?_
  refine lv_iadd (pc := 21) hx hb (zdt_at zt_X9_xorBytes_0 14 rfl) ?_
  replace hf := zk_s hf
  refine va_bald (pc := 22) hx hb hK hP 0 0 rfl rfl hf.1 (zdt_at zt_X9_xorBytes_0 15 rfl) ?_
  replace hf := hf.2
  refine lv_ixor (pc := 23) hx hb (zdt_at zt_X9_xorBytes_0 16 rfl) ?_
  refine lv_i2b (pc := 24) hx hb (zdt_at zt_X9_xorBytes_0 17 rfl) rfl ?_
  replace hf := zk_s hf
  refine va_bast (pc := 25) hx hb hK hP hD hS 0 0 rfl rfl hf.1 (zdt_at zt_X9_xorBytes_0 18 rfl) ?_
  replace hf := hf.2
  clear hP hD hS
  intro H locs hP hD hS
  obtain ⟨ca0_8, e_⟩ : ∃ q : Nat → Int32, q = (upd ca0_2 (p3 + i_1).toNatClampNeg (vp_nar .byte (((ca0_2 (p3 + i_1).toNatClampNeg) ^^^ (ca0_2 (p1 + i_1).toNatClampNeg)).toInt8.toInt32))) := ⟨_, rfl⟩
  replace hf := zn_s hf e_
  replace hP : va_P D vwCl ([(ha0, .inl (cy 0, n_a0, .inl ca0_8))]) H := by rw [e_]; exact hP
  replace hD : va_D A ([(ha0, .inl (cy 0, n_a0, .inl ca0_8))]) := by rw [e_]; exact hD
  clear e_
  refine lv_iinc (pc := 26) (v := (i_1 + (1 : Int32))) (lv' := [(5, .int (i_1 + (1 : Int32))), (0, .ref ha0), (1, .int p1), (2, .ref ha0), (3, .int p3), (4, .int p4)]) hx hb (zdt_at zt_X9_xorBytes_0 19 rfl) hl (k := 5) rfl rfl (by decide) rfl ?_
  clear hl
  intro ls hl
  refine lv_goto (pc := 29) (tgt := 3) hx hb (zdt_at zt_X9_xorBytes_0 20 rfl) (by decide) ?_
  exact hTo _ _ _ (ihself_5 _ hf H locs ls hP hD hS (lv_sub hl [1, 2, 3, 4, 5, 0] rfl))
set_option maxHeartbeats 4000000 in
set_option maxRecDepth 100000 in
theorem c_X4_cbcSeal (l : Launch) (D : va_G) (cy : Nat → ClassId) (tt : Nat → Nat) (sz : Nat) (h0 : Nat) (h0_aes : Nat) (h0_block : Nat) (h0_pad : Nat) (h0_aes_keys : Nat) (ha1 : Nat) (n_a1 : Nat) (p2 : Int32) (p3 : Int32) (c_aes_rounds : Int32) (c_aes_keys : Nat → Int32) (ca1 : Nat → Int32) (ca1' : Nat → Int32) (hf : f_X4_cbcSeal n_a1 p2 p3 c_aes_rounds c_aes_keys ca1 = some ca1') : Met l yX4_cbcSeal wsX4_cbcSeal ({ frames := 2, cells := 0, slots := 0, locals := 55 }) (zPc D cy tt sz [.ref h0, .ref ha1, .int p2, .int p3] ([(h0, .inr (6, [.ref h0_aes, .ref h0_block, .ref h0_pad])), (h0_aes, .inr (2, [.ref h0_aes_keys, .int c_aes_rounds])), (h0_aes_keys, .inl (cy 1, 60, .inl c_aes_keys)), (ha1, .inl (cy 0, n_a1, .inl ca1))])) (zQ D none ([(h0, .inr (6, [.ref h0_aes, .ref h0_block, .ref h0_pad])), (h0_aes, .inr (2, [.ref h0_aes_keys, .int c_aes_rounds])), (h0_aes_keys, .inl (cy 1, 60, .inl c_aes_keys)), (ha1, .inl (cy 0, n_a1, .inl ca1'))]) (va_A ([(h0, .inr (6, [.ref h0_aes, .ref h0_block, .ref h0_pad])), (h0_aes, .inr (2, [.ref h0_aes_keys, .int c_aes_rounds])), (h0_aes_keys, .inl (cy 1, 60, .inl c_aes_keys)), (ha1, .inl (cy 0, n_a1, .inl ca1))]) sz)) 0 0 (va_A ([(h0, .inr (6, [.ref h0_aes, .ref h0_block, .ref h0_pad])), (h0_aes, .inr (2, [.ref h0_aes_keys, .int c_aes_rounds])), (h0_aes_keys, .inl (cy 1, 60, .inl c_aes_keys)), (ha1, .inl (cy 0, n_a1, .inl ca1))]) sz) := by
  refine Met.ofW (cc := cX4_cbcSeal) (maxL := 5) (ret := none) (by decide) rfl ?_
  intro p e s m args below meth c s₁ B hml hv
  obtain ⟨rfl, rfl, hP, hD0, hE⟩ := hv
  have hx := B.exec
  have hb := B.bytes
  have hr := B.returns
  have hts := atoms_spec (ws := wsX4_cbcSeal) B.pre
  have hown : s.vm.findClass RX4 = some m.cls := findClass_of_methodNamed B.named
  have hlocks := B.notSynchronized
  clear B
  have hD := hD0.self (sz := s.heap.size)
  generalize hAe : va_A ([(h0, .inr (6, [.ref h0_aes, .ref h0_block, .ref h0_pad])), (h0_aes, .inr (2, [.ref h0_aes_keys, .int c_aes_rounds])), (h0_aes_keys, .inl (cy 1, 60, .inl c_aes_keys)), (ha1, .inl (cy 0, n_a1, .inl ca1))]) s.heap.size = A at hD hE ⊢
  have hA : ∀ q : Nat, s.heap.size ≤ q → A q := fun q h => by rw [← hAe]; exact Or.inr h
  clear hAe hD0
  have hS : va_S A s.heap s.heap [] := va_S.rf
  have hK := hE.1
  have hw0 := hts (.initialized RX9) (by decide +kernel)
  have hw1 := hts (.static yX9_xorBytes) (by decide +kernel)
  have hw2 := hts (.fieldLink RX4 18 "SealedModule$Modes" "aes" "LSealedModule$Aes;") (by decide +kernel)
  have hcX4 : ∀ w ∈ u_ws RX4 TX4 3, w ∈ wsX4_cbcSeal := (fun _ h => List.mem_cons_of_mem _ (List.mem_append_left _ (List.mem_append_right _ h)))
  have hl := lv_entry ([.ref h0, .ref ha1, .int p2, .int p3]) (n := 5) (Nat.le_of_ble_eq_true rfl)
  rw [lg_entry_eq]
  generalize (lg_sl ([.ref h0, .ref ha1, .int p2, .int p3]) ++ List.replicate (5 - (lg_sl ([.ref h0, .ref ha1, .int p2, .int p3])).length) Slot.unset).toArray = ls at hl ⊢
  replace hl : lv_has ls 5 [(0, .ref h0), (1, .ref ha1), (2, .int p2), (3, .int p3)] := hl
  unfold f_X4_cbcSeal at hf
  refine zgo (fun GW hTo hFr => ?_)
  refine hFr _ _ _ ?_
  obtain ⟨H, hHe⟩ : ∃ H, H = s.heap := ⟨_, rfl⟩
  obtain ⟨locs, hLe⟩ : ∃ L : List Loc, L = [] := ⟨_, rfl⟩
  rw [← hHe] at hP
  replace hS : va_S A s.heap H locs := by rw [hHe, hLe]; exact hS
  refine zat hHe.symm hLe.symm ?_
  clear hHe hLe
  refine lv_bipush (pc := 0) (v := (16 : Int32)) hx hb (zdt_at zt_X4_cbcSeal_0 0 rfl) (by decide) ?_
  refine lv_istore (pc := 2) (lv' := [(4, .int (16 : Int32)), (0, .ref h0), (1, .ref ha1), (2, .int p2), (3, .int p3)]) hx hb (zdt_at zt_X4_cbcSeal_0 1 rfl) hl (by decide) rfl ?_
  clear hl
  intro ls hl
  replace hf := zj_s hf
  obtain ⟨K_4, eK_4, hf⟩ := hf
  have kK_4 : ∀ (ca1_3 : Nat → Int32) (H : Heap) (locs : List Loc) (ls : Array Slot), va_P D vwCl ([(h0, .inr (6, [.ref h0_aes, .ref h0_block, .ref h0_pad])), (h0_aes, .inr (2, [.ref h0_aes_keys, .int c_aes_rounds])), (h0_aes_keys, .inl (cy 1, 60, .inl c_aes_keys)), (ha1, .inl (cy 0, n_a1, .inl ca1_3))]) H → va_D A ([(h0, .inr (6, [.ref h0_aes, .ref h0_block, .ref h0_pad])), (h0_aes, .inr (2, [.ref h0_aes_keys, .int c_aes_rounds])), (h0_aes_keys, .inl (cy 1, 60, .inl c_aes_keys)), (ha1, .inl (cy 0, n_a1, .inl ca1_3))]) → va_S A s.heap H locs → lv_has ls 5 [] → K_4 ca1_3 = some ca1' → GW H locs (F0 m 46 ls []) := by
    clear hf hl hP hD hS
    intro ca1_3 H locs ls hP hD hS hl hf
    rw [eK_4] at hf
    clear eK_4
    refine hFr _ _ _ ?_
    cases hf
    exact W.vret (pc := 46) hx hb hr (fun t ht hW => ⟨rfl, ⟨by rw [ht]; exact hP, hD⟩, hS.F ht⟩) hS.2.2 (zdt_at zt_X4_cbcSeal_0 26 rfl)
  clear eK_4
  refine hTo _ _ _ (zl_go (fun z => match z with | (i_1, ca1_2) => ∀ (H : Heap) (locs : List Loc) (ls : Array Slot), va_P D vwCl ([(h0, .inr (6, [.ref h0_aes, .ref h0_block, .ref h0_pad])), (h0_aes, .inr (2, [.ref h0_aes_keys, .int c_aes_rounds])), (h0_aes_keys, .inl (cy 1, 60, .inl c_aes_keys)), (ha1, .inl (cy 0, n_a1, .inl ca1_2))]) H → va_D A ([(h0, .inr (6, [.ref h0_aes, .ref h0_block, .ref h0_pad])), (h0_aes, .inr (2, [.ref h0_aes_keys, .int c_aes_rounds])), (h0_aes_keys, .inl (cy 1, 60, .inl c_aes_keys)), (ha1, .inl (cy 0, n_a1, .inl ca1_2))]) → va_S A s.heap H locs → lv_has ls 5 [(0, .ref h0), (1, .ref ha1), (2, .int p2), (3, .int p3), (4, .int i_1)] → GW H locs (F0 m 4 ls [])) hf ?_ H locs ls hP hD hS (lv_sub hl [1, 2, 3, 4, 0] rfl))
  clear hf hl hP hD hS
  intro self_5 ihself_5 z hf
  obtain ⟨i_1, ca1_2⟩ := z
  intro H locs ls hP hD hS hl
  refine hFr _ _ _ ?_
  unfold b_X4_cbcSeal_4 at hf
  refine lv_iload (pc := 4) hx hb (zdt_at zt_X4_cbcSeal_0 2 rfl) (lv_at hl 4 rfl) ?_
  refine lv_iload_n (pc := 6) hx hb (zdt_at zt_X4_cbcSeal_0 3 rfl) rfl (lv_at hl 3 rfl) ?_
  refine lv_icmp_ge (pc := 7) (tgt := 46) hx hb (zdt_at zt_X4_cbcSeal_0 4 rfl) (by decide) (fun cn_ => ?t_6) (fun cn_ => ?f_7)
  case t_6 =>
    replace hf := zt_s cn_ hf
    clear cn_
    exact hTo _ _ _ (kK_4 _ H locs ls hP hD hS (lv_sub hl [] rfl) hf)
  replace hf := ze_s cn_ hf
  clear cn_
  refine lv_aload_n (pc := 10) hx hb (zdt_at zt_X4_cbcSeal_0 5 rfl) rfl (lv_at hl 1 rfl) ?_
  refine lv_iload_n (pc := 11) hx hb (zdt_at zt_X4_cbcSeal_0 6 rfl) rfl (lv_at hl 2 rfl) ?_
  refine lv_iload (pc := 12) hx hb (zdt_at zt_X4_cbcSeal_0 7 rfl) (lv_at hl 4 rfl) ?_
  refine lv_iadd (pc := 14) hx hb (zdt_at zt_X4_cbcSeal_0 8 rfl) ?_
  refine lv_bipush (pc := 15) (v := (16 : Int32)) hx hb (zdt_at zt_X4_cbcSeal_0 9 rfl) (by decide) ?_
  refine lv_isub (pc := 17) hx hb (zdt_at zt_X4_cbcSeal_0 10 rfl) ?_
  refine lv_aload_n (pc := 18) hx hb (zdt_at zt_X4_cbcSeal_0 11 rfl) rfl (lv_at hl 1 rfl) ?_
  refine lv_iload_n (pc := 19) hx hb (zdt_at zt_X4_cbcSeal_0 12 rfl) rfl (lv_at hl 2 rfl) ?_
  refine lv_iload (pc := 20) hx hb (zdt_at zt_X4_cbcSeal_0 13 rfl) (lv_at hl 4 rfl) ?_
  refine lv_iadd (pc := 22) hx hb (zdt_at zt_X4_cbcSeal_0 14 rfl) ?_
  refine lv_bipush (pc := 23) (v := (16 : Int32)) hx hb (zdt_at zt_X4_cbcSeal_0 15 rfl) (by decide) ?_
  replace hf := zb_s hf
  obtain ⟨ca1_8, hc_, hf⟩ := hf
  refine zcn2 (pc := 25) (rv := none) (va_runSN (As := [.ref ha1, .int ((p2 + i_1) - (16 : Int32)), .ref ha1, .int (p2 + i_1), .int (16 : Int32)]) (rest := []) ⟨hx, hb, hml, hown, hts⟩ (c_X9_xorBytes_2a0 l D cy tt H.size ha1 n_a1 ((p2 + i_1) - (16 : Int32)) (p2 + i_1) (16 : Int32) ca1_2 ca1_8 hc_) ⟨va_cnB 5 hts gX4_cbcSeal_X9_xorBytes_n31 rfl rfl rfl (gNs_7 hE.2.1) hw0 (by decide +kernel) ⟨Nat.le_of_ble_eq_true rfl, Nat.le_of_ble_eq_true rfl⟩, hw1, trivial⟩ ⟨zblind, zpre hE hS (hP.sub [3] rfl) (hD.sub [3] (by decide) rfl) (va_free hD hS hA [3] rfl)⟩ rfl rfl hl.1 rfl (lv_room (Nat.le_of_ble_eq_true rfl)) (zdt_at zt_X4_cbcSeal_0 16 rfl) ⟨Nat.zero_le _, Nat.zero_le _⟩) hS hP hD (va_free hD hS hA [3] rfl) [3] rfl (by decide) rfl ?_
  clear hP hD hS hc_
  intro H locs hP hD hS
  replace hP : va_P D vwCl ([(h0, .inr (6, [.ref h0_aes, .ref h0_block, .ref h0_pad])), (h0_aes, .inr (2, [.ref h0_aes_keys, .int c_aes_rounds])), (h0_aes_keys, .inl (cy 1, 60, .inl c_aes_keys)), (ha1, .inl (cy 0, n_a1, .inl ca1_8))]) H := hP
  replace hD : va_D A ([(h0, .inr (6, [.ref h0_aes, .ref h0_block, .ref h0_pad])), (h0_aes, .inr (2, [.ref h0_aes_keys, .int c_aes_rounds])), (h0_aes_keys, .inl (cy 1, 60, .inl c_aes_keys)), (ha1, .inl (cy 0, n_a1, .inl ca1_8))]) := hD
  refine W.eq (g2 := F0 m 28 ls []) rfl ?_
  refine lv_aload_n (pc := 28) hx hb (zdt_at zt_X4_cbcSeal_0 17 rfl) rfl (lv_at hl 0 rfl) ?_
  refine va_get (pc := 29) (D := D) (ci := 6) (v := .ref h0_aes) (C := RX4) (T := TX4) (N := 3) hx hb hts hcX4 hown hK hP 0 rfl rfl 0 (by decide) hw2 (fun _ h9 => h9) rfl (zdt_at zt_X4_cbcSeal_0 18 rfl) ?_
  refine lv_aload_n (pc := 32) hx hb (zdt_at zt_X4_cbcSeal_0 19 rfl) rfl (lv_at hl 1 rfl) ?_
  refine lv_iload_n (pc := 33) hx hb (zdt_at zt_X4_cbcSeal_0 20 rfl) rfl (lv_at hl 2 rfl) ?_
  refine lv_iload (pc := 34) hx hb (zdt_at zt_X4_cbcSeal_0 21 rfl) (lv_at hl 4 rfl) ?_
  refine lv_iadd (pc := 36) hx hb (zdt_at zt_X4_cbcSeal_0 22 rfl) ?_
  replace hf := zb_s hf
  obtain ⟨ca1_9, hc_, hf⟩ := hf
  refine zcn2 (pc := 37) (rv := none) (va_runV (As := [.ref ha1, .int (p2 + i_1)]) (rest := []) ⟨hx, hb, hml, hown, hts⟩ (c_X0_encrypt l D cy tt H.size h0_aes h0_aes_keys ha1 n_a1 (p2 + i_1) c_aes_rounds c_aes_keys ca1_8 ca1_9 hc_) (cwV 2 hts gX4_cbcSeal_X0_encrypt rfl rfl rfl (by decide +kernel) ⟨Nat.le_of_ble_eq_true rfl, Nat.le_of_ble_eq_true rfl⟩) ⟨zblind, va_recv hK hP (ci := 2) (q0 := 1) rfl rfl, zpre hE hS (hP.sub [1, 2, 3] rfl) (hD.sub [1, 2, 3] (by decide) rfl) (va_free hD hS hA [1, 2, 3] rfl)⟩ rfl rfl hl.1 rfl (lv_room (Nat.le_of_ble_eq_true rfl)) (zdt_at zt_X4_cbcSeal_0 23 rfl) ⟨Nat.zero_le _, Nat.zero_le _⟩) hS hP hD (va_free hD hS hA [1, 2, 3] rfl) [1, 2, 3] rfl (by decide) rfl ?_
  clear hP hD hS hc_
  intro H locs hP hD hS
  replace hP : va_P D vwCl ([(h0, .inr (6, [.ref h0_aes, .ref h0_block, .ref h0_pad])), (h0_aes, .inr (2, [.ref h0_aes_keys, .int c_aes_rounds])), (h0_aes_keys, .inl (cy 1, 60, .inl c_aes_keys)), (ha1, .inl (cy 0, n_a1, .inl ca1_9))]) H := hP
  replace hD : va_D A ([(h0, .inr (6, [.ref h0_aes, .ref h0_block, .ref h0_pad])), (h0_aes, .inr (2, [.ref h0_aes_keys, .int c_aes_rounds])), (h0_aes_keys, .inl (cy 1, 60, .inl c_aes_keys)), (ha1, .inl (cy 0, n_a1, .inl ca1_9))]) := hD
  refine W.eq (g2 := F0 m 40 ls []) rfl ?_
  refine lv_iinc (pc := 40) (v := (i_1 + (16 : Int32))) (lv' := [(4, .int (i_1 + (16 : Int32))), (0, .ref h0), (1, .ref ha1), (2, .int p2), (3, .int p3)]) hx hb (zdt_at zt_X4_cbcSeal_0 24 rfl) hl (k := 4) rfl rfl (by decide) rfl ?_
  clear hl
  intro ls hl
  refine lv_goto (pc := 43) (tgt := 4) hx hb (zdt_at zt_X4_cbcSeal_0 25 rfl) (by decide) ?_
  exact hTo _ _ _ (ihself_5 _ hf H locs ls hP hD hS (lv_sub hl [1, 2, 3, 4, 0] rfl))
set_option maxHeartbeats 4000000 in
set_option maxRecDepth 100000 in
theorem c_X4_cbcOpen (l : Launch) (D : va_G) (cy : Nat → ClassId) (tt : Nat → Nat) (sz : Nat) (h0 : Nat) (h0_aes : Nat) (h0_block : Nat) (h0_pad : Nat) (h0_aes_keys : Nat) (ha1 : Nat) (n_a1 : Nat) (p2 : Int32) (p3 : Int32) (c_aes_rounds : Int32) (c_aes_keys : Nat → Int32) (ca1 : Nat → Int32) (ca1' : Nat → Int32) (hf : f_X4_cbcOpen n_a1 p2 p3 c_aes_rounds c_aes_keys ca1 = some ca1') : Met l yX4_cbcOpen wsX4_cbcOpen ({ frames := 3, cells := 0, slots := 0, locals := 76 }) (zPc D cy tt sz [.ref h0, .ref ha1, .int p2, .int p3] ([(h0, .inr (6, [.ref h0_aes, .ref h0_block, .ref h0_pad])), (h0_aes, .inr (2, [.ref h0_aes_keys, .int c_aes_rounds])), (h0_aes_keys, .inl (cy 1, 60, .inl c_aes_keys)), (ha1, .inl (cy 0, n_a1, .inl ca1))])) (zQ D none ([(h0, .inr (6, [.ref h0_aes, .ref h0_block, .ref h0_pad])), (h0_aes, .inr (2, [.ref h0_aes_keys, .int c_aes_rounds])), (h0_aes_keys, .inl (cy 1, 60, .inl c_aes_keys)), (ha1, .inl (cy 0, n_a1, .inl ca1'))]) (va_A ([(h0, .inr (6, [.ref h0_aes, .ref h0_block, .ref h0_pad])), (h0_aes, .inr (2, [.ref h0_aes_keys, .int c_aes_rounds])), (h0_aes_keys, .inl (cy 1, 60, .inl c_aes_keys)), (ha1, .inl (cy 0, n_a1, .inl ca1))]) sz)) 0 0 (va_A ([(h0, .inr (6, [.ref h0_aes, .ref h0_block, .ref h0_pad])), (h0_aes, .inr (2, [.ref h0_aes_keys, .int c_aes_rounds])), (h0_aes_keys, .inl (cy 1, 60, .inl c_aes_keys)), (ha1, .inl (cy 0, n_a1, .inl ca1))]) sz) := by
  refine Met.ofW (cc := cX4_cbcOpen) (maxL := 5) (ret := none) (by decide) rfl ?_
  intro p e s m args below meth c s₁ B hml hv
  obtain ⟨rfl, rfl, hP, hD0, hE⟩ := hv
  have hx := B.exec
  have hb := B.bytes
  have hr := B.returns
  have hts := atoms_spec (ws := wsX4_cbcOpen) B.pre
  have hown : s.vm.findClass RX4 = some m.cls := findClass_of_methodNamed B.named
  have hlocks := B.notSynchronized
  clear B
  have hD := hD0.self (sz := s.heap.size)
  generalize hAe : va_A ([(h0, .inr (6, [.ref h0_aes, .ref h0_block, .ref h0_pad])), (h0_aes, .inr (2, [.ref h0_aes_keys, .int c_aes_rounds])), (h0_aes_keys, .inl (cy 1, 60, .inl c_aes_keys)), (ha1, .inl (cy 0, n_a1, .inl ca1))]) s.heap.size = A at hD hE ⊢
  have hA : ∀ q : Nat, s.heap.size ≤ q → A q := fun q h => by rw [← hAe]; exact Or.inr h
  clear hAe hD0
  have hS : va_S A s.heap s.heap [] := va_S.rf
  have hK := hE.1
  have hw0 := hts (.fieldLink RX4 18 "SealedModule$Modes" "aes" "LSealedModule$Aes;") (by decide +kernel)
  have hw1 := hts (.initialized RX9) (by decide +kernel)
  have hw2 := hts (.static yX9_xorBytes) (by decide +kernel)
  have hcX4 : ∀ w ∈ u_ws RX4 TX4 3, w ∈ wsX4_cbcOpen := (fun _ h => List.mem_cons_of_mem _ (List.mem_append_left _ (List.mem_append_right _ h)))
  have hl := lv_entry ([.ref h0, .ref ha1, .int p2, .int p3]) (n := 5) (Nat.le_of_ble_eq_true rfl)
  rw [lg_entry_eq]
  generalize (lg_sl ([.ref h0, .ref ha1, .int p2, .int p3]) ++ List.replicate (5 - (lg_sl ([.ref h0, .ref ha1, .int p2, .int p3])).length) Slot.unset).toArray = ls at hl ⊢
  replace hl : lv_has ls 5 [(0, .ref h0), (1, .ref ha1), (2, .int p2), (3, .int p3)] := hl
  unfold f_X4_cbcOpen at hf
  refine zgo (fun GW hTo hFr => ?_)
  refine hFr _ _ _ ?_
  obtain ⟨H, hHe⟩ : ∃ H, H = s.heap := ⟨_, rfl⟩
  obtain ⟨locs, hLe⟩ : ∃ L : List Loc, L = [] := ⟨_, rfl⟩
  rw [← hHe] at hP
  replace hS : va_S A s.heap H locs := by rw [hHe, hLe]; exact hS
  refine zat hHe.symm hLe.symm ?_
  clear hHe hLe
  refine lv_iload_n (pc := 0) hx hb (zdt_at zt_X4_cbcOpen_0 0 rfl) rfl (lv_at hl 3 rfl) ?_
  refine lv_bipush (pc := 1) (v := (16 : Int32)) hx hb (zdt_at zt_X4_cbcOpen_0 1 rfl) (by decide) ?_
  refine lv_isub (pc := 3) hx hb (zdt_at zt_X4_cbcOpen_0 2 rfl) ?_
  refine lv_topi (fun x_1 e_ => ?_)
  replace hf := zn_s hf e_
  clear e_
  refine lv_istore (pc := 4) (lv' := [(4, .int x_1), (0, .ref h0), (1, .ref ha1), (2, .int p2), (3, .int p3)]) hx hb (zdt_at zt_X4_cbcOpen_0 3 rfl) hl (by decide) rfl ?_
  clear hl
  intro ls hl
  replace hf := zj_s hf
  obtain ⟨K_5, eK_5, hf⟩ := hf
  have kK_5 : ∀ (ca1_4 : Nat → Int32) (H : Heap) (locs : List Loc) (ls : Array Slot), va_P D vwCl ([(h0, .inr (6, [.ref h0_aes, .ref h0_block, .ref h0_pad])), (h0_aes, .inr (2, [.ref h0_aes_keys, .int c_aes_rounds])), (h0_aes_keys, .inl (cy 1, 60, .inl c_aes_keys)), (ha1, .inl (cy 0, n_a1, .inl ca1_4))]) H → va_D A ([(h0, .inr (6, [.ref h0_aes, .ref h0_block, .ref h0_pad])), (h0_aes, .inr (2, [.ref h0_aes_keys, .int c_aes_rounds])), (h0_aes_keys, .inl (cy 1, 60, .inl c_aes_keys)), (ha1, .inl (cy 0, n_a1, .inl ca1_4))]) → va_S A s.heap H locs → lv_has ls 5 [] → K_5 ca1_4 = some ca1' → GW H locs (F0 m 47 ls []) := by
    clear hf hl hP hD hS
    intro ca1_4 H locs ls hP hD hS hl hf
    rw [eK_5] at hf
    clear eK_5
    refine hFr _ _ _ ?_
    cases hf
    exact W.vret (pc := 47) hx hb hr (fun t ht hW => ⟨rfl, ⟨by rw [ht]; exact hP, hD⟩, hS.F ht⟩) hS.2.2 (zdt_at zt_X4_cbcOpen_0 27 rfl)
  clear eK_5
  refine hTo _ _ _ (zl_go (fun z => match z with | (i_2, ca1_3) => ∀ (H : Heap) (locs : List Loc) (ls : Array Slot), va_P D vwCl ([(h0, .inr (6, [.ref h0_aes, .ref h0_block, .ref h0_pad])), (h0_aes, .inr (2, [.ref h0_aes_keys, .int c_aes_rounds])), (h0_aes_keys, .inl (cy 1, 60, .inl c_aes_keys)), (ha1, .inl (cy 0, n_a1, .inl ca1_3))]) H → va_D A ([(h0, .inr (6, [.ref h0_aes, .ref h0_block, .ref h0_pad])), (h0_aes, .inr (2, [.ref h0_aes_keys, .int c_aes_rounds])), (h0_aes_keys, .inl (cy 1, 60, .inl c_aes_keys)), (ha1, .inl (cy 0, n_a1, .inl ca1_3))]) → va_S A s.heap H locs → lv_has ls 5 [(0, .ref h0), (1, .ref ha1), (2, .int p2), (4, .int i_2)] → GW H locs (F0 m 6 ls [])) hf ?_ H locs ls hP hD hS (lv_sub hl [1, 2, 3, 0] rfl))
  clear hf hl hP hD hS
  intro self_6 ihself_6 z hf
  obtain ⟨i_2, ca1_3⟩ := z
  intro H locs ls hP hD hS hl
  refine hFr _ _ _ ?_
  unfold b_X4_cbcOpen_6 at hf
  refine lv_iload (pc := 6) hx hb (zdt_at zt_X4_cbcOpen_0 4 rfl) (lv_at hl 3 rfl) ?_
  refine lv_if_le (pc := 8) (tgt := 47) hx hb (zdt_at zt_X4_cbcOpen_0 5 rfl) (by decide) (fun cn_ => ?t_7) (fun cn_ => ?f_8)
  case t_7 =>
    replace hf := zt_s cn_ hf
    clear cn_
    exact hTo _ _ _ (kK_5 _ H locs ls hP hD hS (lv_sub hl [] rfl) hf)
  replace hf := ze_s cn_ hf
  clear cn_
  refine lv_aload_n (pc := 11) hx hb (zdt_at zt_X4_cbcOpen_0 6 rfl) rfl (lv_at hl 0 rfl) ?_
  refine va_get (pc := 12) (D := D) (ci := 6) (v := .ref h0_aes) (C := RX4) (T := TX4) (N := 3) hx hb hts hcX4 hown hK hP 0 rfl rfl 0 (by decide) hw0 (fun _ h9 => h9) rfl (zdt_at zt_X4_cbcOpen_0 7 rfl) ?_
  refine lv_aload_n (pc := 15) hx hb (zdt_at zt_X4_cbcOpen_0 8 rfl) rfl (lv_at hl 1 rfl) ?_
  refine lv_iload_n (pc := 16) hx hb (zdt_at zt_X4_cbcOpen_0 9 rfl) rfl (lv_at hl 2 rfl) ?_
  refine lv_iload (pc := 17) hx hb (zdt_at zt_X4_cbcOpen_0 10 rfl) (lv_at hl 3 rfl) ?_
  refine lv_iadd (pc := 19) hx hb (zdt_at zt_X4_cbcOpen_0 11 rfl) ?_
  replace hf := zb_s hf
  obtain ⟨ca1_9, hc_, hf⟩ := hf
  refine zcn2 (pc := 20) (rv := none) (va_runV (As := [.ref ha1, .int (p2 + i_2)]) (rest := []) ⟨hx, hb, hml, hown, hts⟩ (c_X0_decrypt l D cy tt H.size h0_aes h0_aes_keys ha1 n_a1 (p2 + i_2) c_aes_rounds c_aes_keys ca1_3 ca1_9 hc_) (cwV 2 hts gX4_cbcOpen_X0_decrypt rfl rfl rfl (by decide +kernel) ⟨Nat.le_of_ble_eq_true rfl, Nat.le_of_ble_eq_true rfl⟩) ⟨zblind, va_recv hK hP (ci := 2) (q0 := 1) rfl rfl, zpre hE hS (hP.sub [1, 2, 3] rfl) (hD.sub [1, 2, 3] (by decide) rfl) (va_free hD hS hA [1, 2, 3] rfl)⟩ rfl rfl hl.1 rfl (lv_room (Nat.le_of_ble_eq_true rfl)) (zdt_at zt_X4_cbcOpen_0 12 rfl) ⟨Nat.zero_le _, Nat.zero_le _⟩) hS hP hD (va_free hD hS hA [1, 2, 3] rfl) [1, 2, 3] rfl (by decide) rfl ?_
  clear hP hD hS hc_
  intro H locs hP hD hS
  replace hP : va_P D vwCl ([(h0, .inr (6, [.ref h0_aes, .ref h0_block, .ref h0_pad])), (h0_aes, .inr (2, [.ref h0_aes_keys, .int c_aes_rounds])), (h0_aes_keys, .inl (cy 1, 60, .inl c_aes_keys)), (ha1, .inl (cy 0, n_a1, .inl ca1_9))]) H := hP
  replace hD : va_D A ([(h0, .inr (6, [.ref h0_aes, .ref h0_block, .ref h0_pad])), (h0_aes, .inr (2, [.ref h0_aes_keys, .int c_aes_rounds])), (h0_aes_keys, .inl (cy 1, 60, .inl c_aes_keys)), (ha1, .inl (cy 0, n_a1, .inl ca1_9))]) := hD
  refine W.eq (g2 := F0 m 23 ls []) rfl ?_
  refine lv_aload_n (pc := 23) hx hb (zdt_at zt_X4_cbcOpen_0 13 rfl) rfl (lv_at hl 1 rfl) ?_
  refine lv_iload_n (pc := 24) hx hb (zdt_at zt_X4_cbcOpen_0 14 rfl) rfl (lv_at hl 2 rfl) ?_
  refine lv_iload (pc := 25) hx hb (zdt_at zt_X4_cbcOpen_0 15 rfl) (lv_at hl 3 rfl) ?_
  refine lv_iadd (pc := 27) hx hb (zdt_at zt_X4_cbcOpen_0 16 rfl) ?_
  refine lv_bipush (pc := 28) (v := (16 : Int32)) hx hb (zdt_at zt_X4_cbcOpen_0 17 rfl) (by decide) ?_
  refine lv_isub (pc := 30) hx hb (zdt_at zt_X4_cbcOpen_0 18 rfl) ?_
  refine lv_aload_n (pc := 31) hx hb (zdt_at zt_X4_cbcOpen_0 19 rfl) rfl (lv_at hl 1 rfl) ?_
  refine lv_iload_n (pc := 32) hx hb (zdt_at zt_X4_cbcOpen_0 20 rfl) rfl (lv_at hl 2 rfl) ?_
  refine lv_iload (pc := 33) hx hb (zdt_at zt_X4_cbcOpen_0 21 rfl) (lv_at hl 3 rfl) ?_
  refine lv_iadd (pc := 35) hx hb (zdt_at zt_X4_cbcOpen_0 22 rfl) ?_
  refine lv_bipush (pc := 36) (v := (16 : Int32)) hx hb (zdt_at zt_X4_cbcOpen_0 23 rfl) (by decide) ?_
  replace hf := zb_s hf
  obtain ⟨ca1_10, hc_, hf⟩ := hf
  refine zcn2 (pc := 38) (rv := none) (va_runSN (As := [.ref ha1, .int ((p2 + i_2) - (16 : Int32)), .ref ha1, .int (p2 + i_2), .int (16 : Int32)]) (rest := []) ⟨hx, hb, hml, hown, hts⟩ (c_X9_xorBytes_2a0 l D cy tt H.size ha1 n_a1 ((p2 + i_2) - (16 : Int32)) (p2 + i_2) (16 : Int32) ca1_9 ca1_10 hc_) ⟨va_cnB 5 hts gX4_cbcOpen_X9_xorBytes_n31 rfl rfl rfl (gNs_7 hE.2.1) hw1 (by decide +kernel) ⟨Nat.le_of_ble_eq_true rfl, Nat.le_of_ble_eq_true rfl⟩, hw2, trivial⟩ ⟨zblind, zpre hE hS (hP.sub [3] rfl) (hD.sub [3] (by decide) rfl) (va_free hD hS hA [3] rfl)⟩ rfl rfl hl.1 rfl (lv_room (Nat.le_of_ble_eq_true rfl)) (zdt_at zt_X4_cbcOpen_0 24 rfl) ⟨Nat.zero_le _, Nat.zero_le _⟩) hS hP hD (va_free hD hS hA [3] rfl) [3] rfl (by decide) rfl ?_
  clear hP hD hS hc_
  intro H locs hP hD hS
  replace hP : va_P D vwCl ([(h0, .inr (6, [.ref h0_aes, .ref h0_block, .ref h0_pad])), (h0_aes, .inr (2, [.ref h0_aes_keys, .int c_aes_rounds])), (h0_aes_keys, .inl (cy 1, 60, .inl c_aes_keys)), (ha1, .inl (cy 0, n_a1, .inl ca1_10))]) H := hP
  replace hD : va_D A ([(h0, .inr (6, [.ref h0_aes, .ref h0_block, .ref h0_pad])), (h0_aes, .inr (2, [.ref h0_aes_keys, .int c_aes_rounds])), (h0_aes_keys, .inl (cy 1, 60, .inl c_aes_keys)), (ha1, .inl (cy 0, n_a1, .inl ca1_10))]) := hD
  refine W.eq (g2 := F0 m 41 ls []) rfl ?_
  refine lv_iinc (pc := 41) (v := (i_2 + (-16 : Int32))) (lv' := [(4, .int (i_2 + (-16 : Int32))), (0, .ref h0), (1, .ref ha1), (2, .int p2)]) hx hb (zdt_at zt_X4_cbcOpen_0 25 rfl) hl (k := 3) rfl rfl (by decide) rfl ?_
  clear hl
  intro ls hl
  refine lv_goto (pc := 44) (tgt := 6) hx hb (zdt_at zt_X4_cbcOpen_0 26 rfl) (by decide) ?_
  exact hTo _ _ _ (ihself_6 _ hf H locs ls hP hD hS (lv_sub hl [1, 2, 3, 0] rfl))
set_option maxHeartbeats 4000000 in
set_option maxRecDepth 100000 in
theorem c_X4_countUp (l : Launch) (D : va_G) (cy : Nat → ClassId) (tt : Nat → Nat) (sz : Nat) (h0 : Nat) (h0_aes : Nat) (h0_block : Nat) (h0_pad : Nat) (c_block : Nat → Int32) (c_block' : Nat → Int32) (hf : f_X4_countUp c_block = some c_block') : Met l yX4_countUp wsX4_countUp ({ frames := 0, cells := 0, slots := 0, locals := 0 }) (zPc D cy tt sz [.ref h0] ([(h0, .inr (6, [.ref h0_aes, .ref h0_block, .ref h0_pad])), (h0_block, .inl (cy 0, 16, .inl c_block))])) (zQ D none ([(h0, .inr (6, [.ref h0_aes, .ref h0_block, .ref h0_pad])), (h0_block, .inl (cy 0, 16, .inl c_block'))]) (va_A ([(h0, .inr (6, [.ref h0_aes, .ref h0_block, .ref h0_pad])), (h0_block, .inl (cy 0, 16, .inl c_block))]) sz)) 0 0 (va_A ([(h0, .inr (6, [.ref h0_aes, .ref h0_block, .ref h0_pad])), (h0_block, .inl (cy 0, 16, .inl c_block))]) sz) := by
  refine Met.ofW (cc := cX4_countUp) (maxL := 3) (ret := none) (by decide) rfl ?_
  intro p e s m args below meth c s₁ B hml hv
  obtain ⟨rfl, rfl, hP, hD0, hE⟩ := hv
  have hx := B.exec
  have hb := B.bytes
  have hr := B.returns
  have hts := atoms_spec (ws := wsX4_countUp) B.pre
  have hown : s.vm.findClass RX4 = some m.cls := findClass_of_methodNamed B.named
  have hlocks := B.notSynchronized
  clear B
  have hD := hD0.self (sz := s.heap.size)
  generalize hAe : va_A ([(h0, .inr (6, [.ref h0_aes, .ref h0_block, .ref h0_pad])), (h0_block, .inl (cy 0, 16, .inl c_block))]) s.heap.size = A at hD hE ⊢
  have hA : ∀ q : Nat, s.heap.size ≤ q → A q := fun q h => by rw [← hAe]; exact Or.inr h
  clear hAe hD0
  have hS : va_S A s.heap s.heap [] := va_S.rf
  have hK := hE.1
  have hw0 := hts (.fieldLink RX4 9 "SealedModule$Modes" "block" "[B") (by decide +kernel)
  have hcX4 : ∀ w ∈ u_ws RX4 TX4 3, w ∈ wsX4_countUp := (fun _ h => List.mem_cons_of_mem _ (List.mem_append_right _ h))
  have hl := lv_entry ([.ref h0]) (n := 3) (Nat.le_of_ble_eq_true rfl)
  rw [lg_entry_eq]
  generalize (lg_sl ([.ref h0]) ++ List.replicate (3 - (lg_sl ([.ref h0])).length) Slot.unset).toArray = ls at hl ⊢
  replace hl : lv_has ls 3 [(0, .ref h0)] := hl
  unfold f_X4_countUp at hf
  refine zgo (fun GW hTo hFr => ?_)
  refine hFr _ _ _ ?_
  obtain ⟨H, hHe⟩ : ∃ H, H = s.heap := ⟨_, rfl⟩
  obtain ⟨locs, hLe⟩ : ∃ L : List Loc, L = [] := ⟨_, rfl⟩
  rw [← hHe] at hP
  replace hS : va_S A s.heap H locs := by rw [hHe, hLe]; exact hS
  refine zat hHe.symm hLe.symm ?_
  clear hHe hLe
  refine lv_iconst (pc := 0) (v := (1 : Int32)) hx hb (zdt_at zt_X4_countUp_0 0 rfl) (by decide) ?_
  refine lv_istore_n (pc := 1) (lv' := [(1, .int (1 : Int32)), (0, .ref h0)]) hx hb (zdt_at zt_X4_countUp_0 1 rfl) rfl hl (by decide) rfl ?_
  clear hl
  intro ls hl
  refine lv_bipush (pc := 2) (v := (15 : Int32)) hx hb (zdt_at zt_X4_countUp_0 2 rfl) (by decide) ?_
  refine lv_istore_n (pc := 4) (lv' := [(2, .int (15 : Int32)), (1, .int (1 : Int32)), (0, .ref h0)]) hx hb (zdt_at zt_X4_countUp_0 3 rfl) rfl hl (by decide) rfl ?_
  clear hl
  intro ls hl
  replace hf := zj_s hf
  obtain ⟨K_5, eK_5, hf⟩ := hf
  have kK_5 : ∀ (c_block_4 : Nat → Int32) (H : Heap) (locs : List Loc) (ls : Array Slot), va_P D vwCl ([(h0, .inr (6, [.ref h0_aes, .ref h0_block, .ref h0_pad])), (h0_block, .inl (cy 0, 16, .inl c_block_4))]) H → va_D A ([(h0, .inr (6, [.ref h0_aes, .ref h0_block, .ref h0_pad])), (h0_block, .inl (cy 0, 16, .inl c_block_4))]) → va_S A s.heap H locs → lv_has ls 3 [] → K_5 c_block_4 = some c_block' → GW H locs (F0 m 45 ls []) := by
    clear hf hl hP hD hS
    intro c_block_4 H locs ls hP hD hS hl hf
    rw [eK_5] at hf
    clear eK_5
    refine hFr _ _ _ ?_
    cases hf
    exact W.vret (pc := 45) hx hb hr (fun t ht hW => ⟨rfl, ⟨by rw [ht]; exact hP, hD⟩, hS.F ht⟩) hS.2.2 (zdt_at zt_X4_countUp_0 28 rfl)
  clear eK_5
  refine hTo _ _ _ (zl_go (fun z => match z with | (i_1, i_2, c_block_3) => ∀ (H : Heap) (locs : List Loc) (ls : Array Slot), va_P D vwCl ([(h0, .inr (6, [.ref h0_aes, .ref h0_block, .ref h0_pad])), (h0_block, .inl (cy 0, 16, .inl c_block_3))]) H → va_D A ([(h0, .inr (6, [.ref h0_aes, .ref h0_block, .ref h0_pad])), (h0_block, .inl (cy 0, 16, .inl c_block_3))]) → va_S A s.heap H locs → lv_has ls 3 [(0, .ref h0), (1, .int i_1), (2, .int i_2)] → GW H locs (F0 m 5 ls [])) hf ?_ H locs ls hP hD hS (lv_sub hl [2, 1, 0] rfl))
  clear hf hl hP hD hS
  intro self_6 ihself_6 z hf
  obtain ⟨i_1, i_2, c_block_3⟩ := z
  intro H locs ls hP hD hS hl
  refine hFr _ _ _ ?_
  unfold b_X4_countUp_5 at hf
  refine lv_iload_n (pc := 5) hx hb (zdt_at zt_X4_countUp_0 4 rfl) rfl (lv_at hl 2 rfl) ?_
  refine lv_if_lt (pc := 6) (tgt := 45) hx hb (zdt_at zt_X4_countUp_0 5 rfl) (by decide) (fun cn_ => ?t_7) (fun cn_ => ?f_8)
  case t_7 =>
    replace hf := zt_s cn_ hf
    clear cn_
    exact hTo _ _ _ (kK_5 _ H locs ls hP hD hS (lv_sub hl [] rfl) hf)
  replace hf := ze_s cn_ hf
  clear cn_
  refine lv_iload_n (pc := 9) hx hb (zdt_at zt_X4_countUp_0 6 rfl) rfl (lv_at hl 1 rfl) ?_
  refine lv_if_eq (pc := 10) (tgt := 45) hx hb (zdt_at zt_X4_countUp_0 7 rfl) (by decide) (fun cn_ => ?t_9) (fun cn_ => ?f_10)
  case t_9 =>
    replace hf := zt_s cn_ hf
    clear cn_
    exact hTo _ _ _ (kK_5 _ H locs ls hP hD hS (lv_sub hl [] rfl) hf)
  replace hf := ze_s cn_ hf
  clear cn_
  refine lv_aload_n (pc := 13) hx hb (zdt_at zt_X4_countUp_0 8 rfl) rfl (lv_at hl 0 rfl) ?_
  refine va_get (pc := 14) (D := D) (ci := 6) (v := .ref h0_block) (C := RX4) (T := TX4) (N := 3) hx hb hts hcX4 hown hK hP 0 rfl rfl 1 (by decide) hw0 (fun _ h9 => h9) rfl (zdt_at zt_X4_countUp_0 9 rfl) ?_
  refine lv_iload_n (pc := 17) hx hb (zdt_at zt_X4_countUp_0 10 rfl) rfl (lv_at hl 2 rfl) ?_
  refine lv_dup2_11 (pc := 18) hx hb (zdt_at zt_X4_countUp_0 11 rfl) rfl rfl ?_
  replace hf := zk_s hf
  refine va_bald (pc := 19) hx hb hK hP 1 0 rfl rfl hf.1 (zdt_at zt_X4_countUp_0 12 rfl) ?_
  replace hf := hf.2
  refine lv_iconst (pc := 20) (v := (1 : Int32)) hx hb (zdt_at zt_X4_countUp_0 13 rfl) (by decide) ?_
  refine lv_iadd (pc := 21) hx hb (zdt_at zt_X4_countUp_0 14 rfl) ?_
  refine lv_i2b (pc := 22) hx hb (zdt_at zt_X4_countUp_0 15 rfl) rfl ?_
  replace hf := zk_s hf
  refine va_bast (pc := 23) hx hb hK hP hD hS 1 0 rfl rfl hf.1 (zdt_at zt_X4_countUp_0 16 rfl) ?_
  replace hf := hf.2
  clear hP hD hS
  intro H locs hP hD hS
  obtain ⟨c_block_11, e_⟩ : ∃ q : Nat → Int32, q = (upd c_block_3 i_2.toNatClampNeg (vp_nar .byte (((c_block_3 i_2.toNatClampNeg) + (1 : Int32)).toInt8.toInt32))) := ⟨_, rfl⟩
  replace hf := zn_s hf e_
  replace hP : va_P D vwCl ([(h0, .inr (6, [.ref h0_aes, .ref h0_block, .ref h0_pad])), (h0_block, .inl (cy 0, 16, .inl c_block_11))]) H := by rw [e_]; exact hP
  replace hD : va_D A ([(h0, .inr (6, [.ref h0_aes, .ref h0_block, .ref h0_pad])), (h0_block, .inl (cy 0, 16, .inl c_block_11))]) := by rw [e_]; exact hD
  clear e_
  refine lv_aload_n (pc := 24) hx hb (zdt_at zt_X4_countUp_0 17 rfl) rfl (lv_at hl 0 rfl) ?_
  refine va_get (pc := 25) (D := D) (ci := 6) (v := .ref h0_block) (C := RX4) (T := TX4) (N := 3) hx hb hts hcX4 hown hK hP 0 rfl rfl 1 (by decide) hw0 (fun _ h9 => h9) rfl (zdt_at zt_X4_countUp_0 18 rfl) ?_
  refine lv_iload_n (pc := 28) hx hb (zdt_at zt_X4_countUp_0 19 rfl) rfl (lv_at hl 2 rfl) ?_
  replace hf := zk_s hf
  refine va_bald (pc := 29) hx hb hK hP 1 0 rfl rfl hf.1 (zdt_at zt_X4_countUp_0 20 rfl) ?_
  replace hf := hf.2
  refine lv_if_ne (pc := 30) (tgt := 37) hx hb (zdt_at zt_X4_countUp_0 21 rfl) (by decide) (fun cn_ => ?t_12) (fun cn_ => ?f_13)
  case t_12 =>
    replace hf := ze_s cn_ hf
    clear cn_
    refine lv_iconst (pc := 37) (v := (0 : Int32)) hx hb (zdt_at zt_X4_countUp_0 24 rfl) (by decide) ?_
    refine lv_istore_n (pc := 38) (lv' := [(1, .int (0 : Int32)), (0, .ref h0), (2, .int i_2)]) hx hb (zdt_at zt_X4_countUp_0 25 rfl) rfl hl (by decide) rfl ?_
    clear hl
    intro ls hl
    refine lv_iinc (pc := 39) (v := (i_2 + (-1 : Int32))) (lv' := [(2, .int (i_2 + (-1 : Int32))), (1, .int (0 : Int32)), (0, .ref h0)]) hx hb (zdt_at zt_X4_countUp_0 26 rfl) hl (k := 2) rfl rfl (by decide) rfl ?_
    clear hl
    intro ls hl
    refine lv_goto (pc := 42) (tgt := 5) hx hb (zdt_at zt_X4_countUp_0 27 rfl) (by decide) ?_
    exact hTo _ _ _ (ihself_6 _ hf H locs ls hP hD hS (lv_sub hl [2, 1, 0] rfl))
  replace hf := zt_s cn_ hf
  clear cn_
  refine lv_iconst (pc := 33) (v := (1 : Int32)) hx hb (zdt_at zt_X4_countUp_0 22 rfl) (by decide) ?_
  refine lv_goto (pc := 34) (tgt := 38) hx hb (zdt_at zt_X4_countUp_0 23 rfl) (by decide) ?_
  refine lv_istore_n (pc := 38) (lv' := [(1, .int (1 : Int32)), (0, .ref h0), (2, .int i_2)]) hx hb (zdt_at zt_X4_countUp_0 25 rfl) rfl hl (by decide) rfl ?_
  clear hl
  intro ls hl
  refine lv_iinc (pc := 39) (v := (i_2 + (-1 : Int32))) (lv' := [(2, .int (i_2 + (-1 : Int32))), (1, .int (1 : Int32)), (0, .ref h0)]) hx hb (zdt_at zt_X4_countUp_0 26 rfl) hl (k := 2) rfl rfl (by decide) rfl ?_
  clear hl
  intro ls hl
  refine lv_goto (pc := 42) (tgt := 5) hx hb (zdt_at zt_X4_countUp_0 27 rfl) (by decide) ?_
  exact hTo _ _ _ (ihself_6 _ hf H locs ls hP hD hS (lv_sub hl [2, 1, 0] rfl))
set_option maxHeartbeats 4000000 in
set_option maxRecDepth 100000 in
theorem c_X4_addStreamOfBlock (l : Launch) (D : va_G) (cy : Nat → ClassId) (tt : Nat → Nat) (sz : Nat) (h0 : Nat) (h0_aes : Nat) (h0_block : Nat) (h0_pad : Nat) (h0_aes_keys : Nat) (ha1 : Nat) (n_a1 : Nat) (p2 : Int32) (p3 : Int32) (c_aes_rounds : Int32) (c_aes_keys : Nat → Int32) (c_block : Nat → Int32) (c_pad : Nat → Int32) (ca1 : Nat → Int32) (c_block' : Nat → Int32) (c_pad' : Nat → Int32) (ca1' : Nat → Int32) (hf : f_X4_addStreamOfBlock n_a1 p2 p3 c_aes_rounds c_aes_keys c_block c_pad ca1 = some (c_block', c_pad', ca1')) : Met l yX4_addStreamOfBlock wsX4_addStreamOfBlock ({ frames := 2, cells := 0, slots := 0, locals := 64 }) (zPc D cy tt sz [.ref h0, .ref ha1, .int p2, .int p3] ([(h0, .inr (6, [.ref h0_aes, .ref h0_block, .ref h0_pad])), (h0_aes, .inr (2, [.ref h0_aes_keys, .int c_aes_rounds])), (h0_aes_keys, .inl (cy 1, 60, .inl c_aes_keys)), (h0_block, .inl (cy 0, 16, .inl c_block)), (h0_pad, .inl (cy 0, 16, .inl c_pad)), (ha1, .inl (cy 0, n_a1, .inl ca1))])) (zQ D none ([(h0, .inr (6, [.ref h0_aes, .ref h0_block, .ref h0_pad])), (h0_aes, .inr (2, [.ref h0_aes_keys, .int c_aes_rounds])), (h0_aes_keys, .inl (cy 1, 60, .inl c_aes_keys)), (h0_block, .inl (cy 0, 16, .inl c_block')), (h0_pad, .inl (cy 0, 16, .inl c_pad')), (ha1, .inl (cy 0, n_a1, .inl ca1'))]) (va_A ([(h0, .inr (6, [.ref h0_aes, .ref h0_block, .ref h0_pad])), (h0_aes, .inr (2, [.ref h0_aes_keys, .int c_aes_rounds])), (h0_aes_keys, .inl (cy 1, 60, .inl c_aes_keys)), (h0_block, .inl (cy 0, 16, .inl c_block)), (h0_pad, .inl (cy 0, 16, .inl c_pad)), (ha1, .inl (cy 0, n_a1, .inl ca1))]) sz)) 0 0 (va_A ([(h0, .inr (6, [.ref h0_aes, .ref h0_block, .ref h0_pad])), (h0_aes, .inr (2, [.ref h0_aes_keys, .int c_aes_rounds])), (h0_aes_keys, .inl (cy 1, 60, .inl c_aes_keys)), (h0_block, .inl (cy 0, 16, .inl c_block)), (h0_pad, .inl (cy 0, 16, .inl c_pad)), (ha1, .inl (cy 0, n_a1, .inl ca1))]) sz) := by
  refine Met.ofW (cc := cX4_addStreamOfBlock) (maxL := 5) (ret := none) (by decide) rfl ?_
  intro p e s m args below meth c s₁ B hml hv
  obtain ⟨rfl, rfl, hP, hD0, hE⟩ := hv
  have hx := B.exec
  have hb := B.bytes
  have hr := B.returns
  have hts := atoms_spec (ws := wsX4_addStreamOfBlock) B.pre
  have hown : s.vm.findClass RX4 = some m.cls := findClass_of_methodNamed B.named
  have hlocks := B.notSynchronized
  clear B
  have hD := hD0.self (sz := s.heap.size)
  generalize hAe : va_A ([(h0, .inr (6, [.ref h0_aes, .ref h0_block, .ref h0_pad])), (h0_aes, .inr (2, [.ref h0_aes_keys, .int c_aes_rounds])), (h0_aes_keys, .inl (cy 1, 60, .inl c_aes_keys)), (h0_block, .inl (cy 0, 16, .inl c_block)), (h0_pad, .inl (cy 0, 16, .inl c_pad)), (ha1, .inl (cy 0, n_a1, .inl ca1))]) s.heap.size = A at hD hE ⊢
  have hA : ∀ q : Nat, s.heap.size ≤ q → A q := fun q h => by rw [← hAe]; exact Or.inr h
  clear hAe hD0
  have hS : va_S A s.heap s.heap [] := va_S.rf
  have hK := hE.1
  have hw0 := hts (.fieldLink RX4 9 "SealedModule$Modes" "block" "[B") (by decide +kernel)
  have hw1 := hts (.fieldLink RX4 15 "SealedModule$Modes" "pad" "[B") (by decide +kernel)
  have hw2 := hts (.methodLink RX4 35 arraycopyName) (by decide +kernel)
  have hw3 := hts (.native arraycopyName) (by decide +kernel)
  have hw4 := hts (.static arraycopyName) (by decide +kernel)
  have hw5 := hts (.initialized "java/lang/System") (by decide +kernel)
  have hw6 := hts (.fieldLink RX4 18 "SealedModule$Modes" "aes" "LSealedModule$Aes;") (by decide +kernel)
  have hw7 := hts (.methodLink RX4 48 Lib.Math.min.name) (by decide +kernel)
  have hw8 := hts (.static Lib.Math.min.name) (by decide +kernel)
  have hw9 := hts (.initialized "java/lang/Math") (by decide +kernel)
  have hw10 := hts (.code Lib.Math.min.name Lib.Math.min.code 2 (some .int)) (by decide +kernel)
  have hw11 := hts (.initialized RX9) (by decide +kernel)
  have hw12 := hts (.static yX9_xorBytes) (by decide +kernel)
  have hcX4 : ∀ w ∈ u_ws RX4 TX4 3, w ∈ wsX4_addStreamOfBlock := (fun _ h => List.mem_cons_of_mem _ (List.mem_append_left _ (List.mem_append_right _ h)))
  have hl := lv_entry ([.ref h0, .ref ha1, .int p2, .int p3]) (n := 5) (Nat.le_of_ble_eq_true rfl)
  rw [lg_entry_eq]
  generalize (lg_sl ([.ref h0, .ref ha1, .int p2, .int p3]) ++ List.replicate (5 - (lg_sl ([.ref h0, .ref ha1, .int p2, .int p3])).length) Slot.unset).toArray = ls at hl ⊢
  replace hl : lv_has ls 5 [(0, .ref h0), (1, .ref ha1), (2, .int p2), (3, .int p3)] := hl
  unfold f_X4_addStreamOfBlock at hf
  refine zgo (fun GW hTo hFr => ?_)
  refine hFr _ _ _ ?_
  obtain ⟨H, hHe⟩ : ∃ H, H = s.heap := ⟨_, rfl⟩
  obtain ⟨locs, hLe⟩ : ∃ L : List Loc, L = [] := ⟨_, rfl⟩
  rw [← hHe] at hP
  replace hS : va_S A s.heap H locs := by rw [hHe, hLe]; exact hS
  refine zat hHe.symm hLe.symm ?_
  clear hHe hLe
  refine lv_iconst (pc := 0) (v := (0 : Int32)) hx hb (zdt_at zt_X4_addStreamOfBlock_0 0 rfl) (by decide) ?_
  refine lv_istore (pc := 1) (lv' := [(4, .int (0 : Int32)), (0, .ref h0), (1, .ref ha1), (2, .int p2), (3, .int p3)]) hx hb (zdt_at zt_X4_addStreamOfBlock_0 1 rfl) hl (by decide) rfl ?_
  clear hl
  intro ls hl
  replace hf := zj_s hf
  obtain ⟨K_8, eK_8, hf⟩ := hf
  have kK_8 : ∀ (c_block_5 : Nat → Int32) (c_pad_6 : Nat → Int32) (ca1_7 : Nat → Int32) (H : Heap) (locs : List Loc) (ls : Array Slot), va_P D vwCl ([(h0, .inr (6, [.ref h0_aes, .ref h0_block, .ref h0_pad])), (h0_aes, .inr (2, [.ref h0_aes_keys, .int c_aes_rounds])), (h0_aes_keys, .inl (cy 1, 60, .inl c_aes_keys)), (h0_block, .inl (cy 0, 16, .inl c_block_5)), (h0_pad, .inl (cy 0, 16, .inl c_pad_6)), (ha1, .inl (cy 0, n_a1, .inl ca1_7))]) H → va_D A ([(h0, .inr (6, [.ref h0_aes, .ref h0_block, .ref h0_pad])), (h0_aes, .inr (2, [.ref h0_aes_keys, .int c_aes_rounds])), (h0_aes_keys, .inl (cy 1, 60, .inl c_aes_keys)), (h0_block, .inl (cy 0, 16, .inl c_block_5)), (h0_pad, .inl (cy 0, 16, .inl c_pad_6)), (ha1, .inl (cy 0, n_a1, .inl ca1_7))]) → va_S A s.heap H locs → lv_has ls 5 [] → K_8 c_block_5 c_pad_6 ca1_7 = some (c_block', c_pad', ca1') → GW H locs (F0 m 68 ls []) := by
    clear hf hl hP hD hS
    intro c_block_5 c_pad_6 ca1_7 H locs ls hP hD hS hl hf
    rw [eK_8] at hf
    clear eK_8
    refine hFr _ _ _ ?_
    cases hf
    exact W.vret (pc := 68) hx hb hr (fun t ht hW => ⟨rfl, ⟨by rw [ht]; exact hP, hD⟩, hS.F ht⟩) hS.2.2 (zdt_at zt_X4_addStreamOfBlock_0 36 rfl)
  clear eK_8
  refine hTo _ _ _ (zl_go (fun z => match z with | (i_1, c_block_2, c_pad_3, ca1_4) => ∀ (H : Heap) (locs : List Loc) (ls : Array Slot), va_P D vwCl ([(h0, .inr (6, [.ref h0_aes, .ref h0_block, .ref h0_pad])), (h0_aes, .inr (2, [.ref h0_aes_keys, .int c_aes_rounds])), (h0_aes_keys, .inl (cy 1, 60, .inl c_aes_keys)), (h0_block, .inl (cy 0, 16, .inl c_block_2)), (h0_pad, .inl (cy 0, 16, .inl c_pad_3)), (ha1, .inl (cy 0, n_a1, .inl ca1_4))]) H → va_D A ([(h0, .inr (6, [.ref h0_aes, .ref h0_block, .ref h0_pad])), (h0_aes, .inr (2, [.ref h0_aes_keys, .int c_aes_rounds])), (h0_aes_keys, .inl (cy 1, 60, .inl c_aes_keys)), (h0_block, .inl (cy 0, 16, .inl c_block_2)), (h0_pad, .inl (cy 0, 16, .inl c_pad_3)), (ha1, .inl (cy 0, n_a1, .inl ca1_4))]) → va_S A s.heap H locs → lv_has ls 5 [(0, .ref h0), (1, .ref ha1), (2, .int p2), (3, .int p3), (4, .int i_1)] → GW H locs (F0 m 3 ls [])) hf ?_ H locs ls hP hD hS (lv_sub hl [1, 2, 3, 4, 0] rfl))
  clear hf hl hP hD hS
  intro self_9 ihself_9 z hf
  obtain ⟨i_1, c_block_2, c_pad_3, ca1_4⟩ := z
  intro H locs ls hP hD hS hl
  refine hFr _ _ _ ?_
  unfold b_X4_addStreamOfBlock_3 at hf
  refine lv_iload (pc := 3) hx hb (zdt_at zt_X4_addStreamOfBlock_0 2 rfl) (lv_at hl 4 rfl) ?_
  refine lv_iload_n (pc := 5) hx hb (zdt_at zt_X4_addStreamOfBlock_0 3 rfl) rfl (lv_at hl 3 rfl) ?_
  refine lv_icmp_ge (pc := 6) (tgt := 68) hx hb (zdt_at zt_X4_addStreamOfBlock_0 4 rfl) (by decide) (fun cn_ => ?t_10) (fun cn_ => ?f_11)
  case t_10 =>
    replace hf := zt_s cn_ hf
    clear cn_
    exact hTo _ _ _ (kK_8 _ _ _ H locs ls hP hD hS (lv_sub hl [] rfl) hf)
  replace hf := ze_s cn_ hf
  clear cn_
  refine lv_aload_n (pc := 9) hx hb (zdt_at zt_X4_addStreamOfBlock_0 5 rfl) rfl (lv_at hl 0 rfl) ?_
  refine va_get (pc := 10) (D := D) (ci := 6) (v := .ref h0_block) (C := RX4) (T := TX4) (N := 3) hx hb hts hcX4 hown hK hP 0 rfl rfl 1 (by decide) hw0 (fun _ h9 => h9) rfl (zdt_at zt_X4_addStreamOfBlock_0 6 rfl) ?_
  refine lv_iconst (pc := 13) (v := (0 : Int32)) hx hb (zdt_at zt_X4_addStreamOfBlock_0 7 rfl) (by decide) ?_
  refine lv_aload_n (pc := 14) hx hb (zdt_at zt_X4_addStreamOfBlock_0 8 rfl) rfl (lv_at hl 0 rfl) ?_
  refine va_get (pc := 15) (D := D) (ci := 6) (v := .ref h0_pad) (C := RX4) (T := TX4) (N := 3) hx hb hts hcX4 hown hK hP 0 rfl rfl 2 (by decide) hw1 (fun _ h9 => h9) rfl (zdt_at zt_X4_addStreamOfBlock_0 9 rfl) ?_
  refine lv_iconst (pc := 18) (v := (0 : Int32)) hx hb (zdt_at zt_X4_addStreamOfBlock_0 10 rfl) (by decide) ?_
  refine lv_bipush (pc := 19) (v := (16 : Int32)) hx hb (zdt_at zt_X4_addStreamOfBlock_0 11 rfl) (by decide) ?_
  replace hf := zk_s hf
  refine va_copyi (pc := 21) hx hb (hml.trans hl.1.symm) hown hw2 hw3 hw4 hw5 hK hP hD hS 3 4 0 0 rfl rfl rfl rfl rfl hf.1.1 hf.1.2.1 hf.1.2.2.1 hf.1.2.2.2.1 hf.1.2.2.2.2.1 hf.1.2.2.2.2.2 (Nat.le_of_ble_eq_true rfl) (Nat.le_of_ble_eq_true rfl) (zdt_at zt_X4_addStreamOfBlock_0 12 rfl) ?_
  replace hf := hf.2
  clear hP hD hS
  intro H locs hP hD hS
  obtain ⟨c_pad_12, e_⟩ : ∃ q : Nat → Int32, q = (va_cpy c_block_2 c_pad_3 (0 : Int32).toNatClampNeg (0 : Int32).toNatClampNeg (16 : Int32).toNatClampNeg) := ⟨_, rfl⟩
  replace hf := zn_s hf e_
  replace hP : va_P D vwCl ([(h0, .inr (6, [.ref h0_aes, .ref h0_block, .ref h0_pad])), (h0_aes, .inr (2, [.ref h0_aes_keys, .int c_aes_rounds])), (h0_aes_keys, .inl (cy 1, 60, .inl c_aes_keys)), (h0_block, .inl (cy 0, 16, .inl c_block_2)), (h0_pad, .inl (cy 0, 16, .inl c_pad_12)), (ha1, .inl (cy 0, n_a1, .inl ca1_4))]) H := by rw [e_]; exact hP
  replace hD : va_D A ([(h0, .inr (6, [.ref h0_aes, .ref h0_block, .ref h0_pad])), (h0_aes, .inr (2, [.ref h0_aes_keys, .int c_aes_rounds])), (h0_aes_keys, .inl (cy 1, 60, .inl c_aes_keys)), (h0_block, .inl (cy 0, 16, .inl c_block_2)), (h0_pad, .inl (cy 0, 16, .inl c_pad_12)), (ha1, .inl (cy 0, n_a1, .inl ca1_4))]) := by rw [e_]; exact hD
  clear e_
  refine lv_aload_n (pc := 24) hx hb (zdt_at zt_X4_addStreamOfBlock_0 13 rfl) rfl (lv_at hl 0 rfl) ?_
  refine va_get (pc := 25) (D := D) (ci := 6) (v := .ref h0_aes) (C := RX4) (T := TX4) (N := 3) hx hb hts hcX4 hown hK hP 0 rfl rfl 0 (by decide) hw6 (fun _ h9 => h9) rfl (zdt_at zt_X4_addStreamOfBlock_0 14 rfl) ?_
  refine lv_aload_n (pc := 28) hx hb (zdt_at zt_X4_addStreamOfBlock_0 15 rfl) rfl (lv_at hl 0 rfl) ?_
  refine va_get (pc := 29) (D := D) (ci := 6) (v := .ref h0_pad) (C := RX4) (T := TX4) (N := 3) hx hb hts hcX4 hown hK hP 0 rfl rfl 2 (by decide) hw1 (fun _ h9 => h9) rfl (zdt_at zt_X4_addStreamOfBlock_0 16 rfl) ?_
  refine lv_iconst (pc := 32) (v := (0 : Int32)) hx hb (zdt_at zt_X4_addStreamOfBlock_0 17 rfl) (by decide) ?_
  replace hf := zb_s hf
  obtain ⟨c_pad_13, hc_, hf⟩ := hf
  refine zcn2 (pc := 33) (rv := none) (va_runV (As := [.ref h0_pad, .int (0 : Int32)]) (rest := []) ⟨hx, hb, hml, hown, hts⟩ (c_X0_encrypt l D cy tt H.size h0_aes h0_aes_keys h0_pad 16 (0 : Int32) c_aes_rounds c_aes_keys c_pad_12 c_pad_13 hc_) (cwV 2 hts gX4_addStreamOfBlock_X0_encrypt rfl rfl rfl (by decide +kernel) ⟨Nat.le_of_ble_eq_true rfl, Nat.le_of_ble_eq_true rfl⟩) ⟨zblind, va_recv hK hP (ci := 2) (q0 := 1) rfl rfl, zpre hE hS (hP.sub [1, 2, 4] rfl) (hD.sub [1, 2, 4] (by decide) rfl) (va_free hD hS hA [1, 2, 4] rfl)⟩ rfl rfl hl.1 rfl (lv_room (Nat.le_of_ble_eq_true rfl)) (zdt_at zt_X4_addStreamOfBlock_0 18 rfl) ⟨Nat.zero_le _, Nat.zero_le _⟩) hS hP hD (va_free hD hS hA [1, 2, 4] rfl) [1, 2, 4] rfl (by decide) rfl ?_
  clear hP hD hS hc_
  intro H locs hP hD hS
  replace hP : va_P D vwCl ([(h0, .inr (6, [.ref h0_aes, .ref h0_block, .ref h0_pad])), (h0_aes, .inr (2, [.ref h0_aes_keys, .int c_aes_rounds])), (h0_aes_keys, .inl (cy 1, 60, .inl c_aes_keys)), (h0_block, .inl (cy 0, 16, .inl c_block_2)), (h0_pad, .inl (cy 0, 16, .inl c_pad_13)), (ha1, .inl (cy 0, n_a1, .inl ca1_4))]) H := hP
  replace hD : va_D A ([(h0, .inr (6, [.ref h0_aes, .ref h0_block, .ref h0_pad])), (h0_aes, .inr (2, [.ref h0_aes_keys, .int c_aes_rounds])), (h0_aes_keys, .inl (cy 1, 60, .inl c_aes_keys)), (h0_block, .inl (cy 0, 16, .inl c_block_2)), (h0_pad, .inl (cy 0, 16, .inl c_pad_13)), (ha1, .inl (cy 0, n_a1, .inl ca1_4))]) := hD
  refine W.eq (g2 := F0 m 36 ls []) rfl ?_
  refine lv_aload_n (pc := 36) hx hb (zdt_at zt_X4_addStreamOfBlock_0 19 rfl) rfl (lv_at hl 0 rfl) ?_
  refine va_get (pc := 37) (D := D) (ci := 6) (v := .ref h0_pad) (C := RX4) (T := TX4) (N := 3) hx hb hts hcX4 hown hK hP 0 rfl rfl 2 (by decide) hw1 (fun _ h9 => h9) rfl (zdt_at zt_X4_addStreamOfBlock_0 20 rfl) ?_
  refine lv_iconst (pc := 40) (v := (0 : Int32)) hx hb (zdt_at zt_X4_addStreamOfBlock_0 21 rfl) (by decide) ?_
  refine lv_aload_n (pc := 41) hx hb (zdt_at zt_X4_addStreamOfBlock_0 22 rfl) rfl (lv_at hl 1 rfl) ?_
  refine lv_iload_n (pc := 42) hx hb (zdt_at zt_X4_addStreamOfBlock_0 23 rfl) rfl (lv_at hl 2 rfl) ?_
  refine lv_iload (pc := 43) hx hb (zdt_at zt_X4_addStreamOfBlock_0 24 rfl) (lv_at hl 4 rfl) ?_
  refine lv_iadd (pc := 45) hx hb (zdt_at zt_X4_addStreamOfBlock_0 25 rfl) ?_
  refine lv_bipush (pc := 46) (v := (16 : Int32)) hx hb (zdt_at zt_X4_addStreamOfBlock_0 26 rfl) (by decide) ?_
  refine lv_iload_n (pc := 48) hx hb (zdt_at zt_X4_addStreamOfBlock_0 27 rfl) rfl (lv_at hl 3 rfl) ?_
  refine lv_iload (pc := 49) hx hb (zdt_at zt_X4_addStreamOfBlock_0 28 rfl) (lv_at hl 4 rfl) ?_
  refine lv_isub (pc := 51) hx hb (zdt_at zt_X4_addStreamOfBlock_0 29 rfl) ?_
  refine va_mmin (pc := 52) hx hb (hml.trans hl.1.symm) hown hw7 hw8 hw9 hw10 (Nat.le_of_ble_eq_true rfl) (Nat.le_of_ble_eq_true rfl) (Nat.zero_le _) (Nat.zero_le _) (zdt_at zt_X4_addStreamOfBlock_0 30 rfl) ?_
  replace hf := zb_s hf
  obtain ⟨ca1_14, hc_, hf⟩ := hf
  refine zcn2 (pc := 55) (rv := none) (va_runSN (As := [.ref h0_pad, .int (0 : Int32), .ref ha1, .int (p2 + i_1), .int (if (p3 - i_1) < (16 : Int32) then (p3 - i_1) else (16 : Int32))]) (rest := []) ⟨hx, hb, hml, hown, hts⟩ (c_X9_xorBytes l D cy tt H.size h0_pad ha1 16 n_a1 (0 : Int32) (p2 + i_1) (if (p3 - i_1) < (16 : Int32) then (p3 - i_1) else (16 : Int32)) c_pad_13 ca1_4 ca1_14 hc_) ⟨va_cnB 5 hts gX4_addStreamOfBlock_X9_xorBytes_n31 rfl rfl rfl (gNs_7 hE.2.1) hw11 (by decide +kernel) ⟨Nat.le_of_ble_eq_true rfl, Nat.le_of_ble_eq_true rfl⟩, hw12, trivial⟩ ⟨zblind, zpre hE hS (hP.sub [4, 5] rfl) (hD.sub [4, 5] (by decide) rfl) (va_free hD hS hA [4, 5] rfl)⟩ rfl rfl hl.1 rfl (lv_room (Nat.le_of_ble_eq_true rfl)) (zdt_at zt_X4_addStreamOfBlock_0 31 rfl) ⟨Nat.zero_le _, Nat.zero_le _⟩) hS hP hD (va_free hD hS hA [4, 5] rfl) [4, 5] rfl (by decide) rfl ?_
  clear hP hD hS hc_
  intro H locs hP hD hS
  replace hP : va_P D vwCl ([(h0, .inr (6, [.ref h0_aes, .ref h0_block, .ref h0_pad])), (h0_aes, .inr (2, [.ref h0_aes_keys, .int c_aes_rounds])), (h0_aes_keys, .inl (cy 1, 60, .inl c_aes_keys)), (h0_block, .inl (cy 0, 16, .inl c_block_2)), (h0_pad, .inl (cy 0, 16, .inl c_pad_13)), (ha1, .inl (cy 0, n_a1, .inl ca1_14))]) H := hP
  replace hD : va_D A ([(h0, .inr (6, [.ref h0_aes, .ref h0_block, .ref h0_pad])), (h0_aes, .inr (2, [.ref h0_aes_keys, .int c_aes_rounds])), (h0_aes_keys, .inl (cy 1, 60, .inl c_aes_keys)), (h0_block, .inl (cy 0, 16, .inl c_block_2)), (h0_pad, .inl (cy 0, 16, .inl c_pad_13)), (ha1, .inl (cy 0, n_a1, .inl ca1_14))]) := hD
  refine W.eq (g2 := F0 m 58 ls []) rfl ?_
  refine lv_aload_n (pc := 58) hx hb (zdt_at zt_X4_addStreamOfBlock_0 32 rfl) rfl (lv_at hl 0 rfl) ?_
  replace hf := zb_s hf
  obtain ⟨c_block_15, hc_, hf⟩ := hf
  refine zcn2 (pc := 59) (rv := none) (va_runV (As := []) (rest := []) ⟨hx, hb, hml, hown, hts⟩ (c_X4_countUp l D cy tt H.size h0 h0_aes h0_block h0_pad c_block_2 c_block_15 hc_) (cwV 0 hts gX4_addStreamOfBlock_X4_countUp rfl rfl rfl (by decide +kernel) ⟨Nat.le_of_ble_eq_true rfl, Nat.le_of_ble_eq_true rfl⟩) ⟨zblind, va_recv hK hP (ci := 6) (q0 := 0) rfl rfl, zpre hE hS (hP.sub [0, 3] rfl) (hD.sub [0, 3] (by decide) rfl) (va_free hD hS hA [0, 3] rfl)⟩ rfl rfl hl.1 rfl (lv_room (Nat.le_of_ble_eq_true rfl)) (zdt_at zt_X4_addStreamOfBlock_0 33 rfl) ⟨Nat.zero_le _, Nat.zero_le _⟩) hS hP hD (va_free hD hS hA [0, 3] rfl) [0, 3] rfl (by decide) rfl ?_
  clear hP hD hS hc_
  intro H locs hP hD hS
  replace hP : va_P D vwCl ([(h0, .inr (6, [.ref h0_aes, .ref h0_block, .ref h0_pad])), (h0_aes, .inr (2, [.ref h0_aes_keys, .int c_aes_rounds])), (h0_aes_keys, .inl (cy 1, 60, .inl c_aes_keys)), (h0_block, .inl (cy 0, 16, .inl c_block_15)), (h0_pad, .inl (cy 0, 16, .inl c_pad_13)), (ha1, .inl (cy 0, n_a1, .inl ca1_14))]) H := hP
  replace hD : va_D A ([(h0, .inr (6, [.ref h0_aes, .ref h0_block, .ref h0_pad])), (h0_aes, .inr (2, [.ref h0_aes_keys, .int c_aes_rounds])), (h0_aes_keys, .inl (cy 1, 60, .inl c_aes_keys)), (h0_block, .inl (cy 0, 16, .inl c_block_15)), (h0_pad, .inl (cy 0, 16, .inl c_pad_13)), (ha1, .inl (cy 0, n_a1, .inl ca1_14))]) := hD
  refine W.eq (g2 := F0 m 62 ls []) rfl ?_
  refine lv_iinc (pc := 62) (v := (i_1 + (16 : Int32))) (lv' := [(4, .int (i_1 + (16 : Int32))), (0, .ref h0), (1, .ref ha1), (2, .int p2), (3, .int p3)]) hx hb (zdt_at zt_X4_addStreamOfBlock_0 34 rfl) hl (k := 4) rfl rfl (by decide) rfl ?_
  clear hl
  intro ls hl
  refine lv_goto (pc := 65) (tgt := 3) hx hb (zdt_at zt_X4_addStreamOfBlock_0 35 rfl) (by decide) ?_
  exact hTo _ _ _ (ihself_9 _ hf H locs ls hP hD hS (lv_sub hl [1, 2, 3, 4, 0] rfl))
set_option maxHeartbeats 4000000 in
set_option maxRecDepth 100000 in
theorem c_X4_addStream (l : Launch) (D : va_G) (cy : Nat → ClassId) (tt : Nat → Nat) (sz : Nat) (h0 : Nat) (h0_aes : Nat) (h0_block : Nat) (h0_pad : Nat) (h0_aes_keys : Nat) (ha1 : Nat) (n_a1 : Nat) (p2 : Int32) (p3 : Int32) (p4 : Int32) (c_aes_rounds : Int32) (c_aes_keys : Nat → Int32) (c_block : Nat → Int32) (c_pad : Nat → Int32) (ca1 : Nat → Int32) (c_block' : Nat → Int32) (c_pad' : Nat → Int32) (ca1' : Nat → Int32) (hf : f_X4_addStream n_a1 p2 p3 p4 c_aes_rounds c_aes_keys c_block c_pad ca1 = some (c_block', c_pad', ca1')) : Met l yX4_addStream wsX4_addStream ({ frames := 3, cells := 0, slots := 0, locals := 88 }) (zPc D cy tt sz [.ref h0, .ref ha1, .int p2, .int p3, .int p4] ([(h0, .inr (6, [.ref h0_aes, .ref h0_block, .ref h0_pad])), (h0_aes, .inr (2, [.ref h0_aes_keys, .int c_aes_rounds])), (h0_aes_keys, .inl (cy 1, 60, .inl c_aes_keys)), (h0_block, .inl (cy 0, 16, .inl c_block)), (h0_pad, .inl (cy 0, 16, .inl c_pad)), (ha1, .inl (cy 0, n_a1, .inl ca1))])) (zQ D none ([(h0, .inr (6, [.ref h0_aes, .ref h0_block, .ref h0_pad])), (h0_aes, .inr (2, [.ref h0_aes_keys, .int c_aes_rounds])), (h0_aes_keys, .inl (cy 1, 60, .inl c_aes_keys)), (h0_block, .inl (cy 0, 16, .inl c_block')), (h0_pad, .inl (cy 0, 16, .inl c_pad')), (ha1, .inl (cy 0, n_a1, .inl ca1'))]) (va_A ([(h0, .inr (6, [.ref h0_aes, .ref h0_block, .ref h0_pad])), (h0_aes, .inr (2, [.ref h0_aes_keys, .int c_aes_rounds])), (h0_aes_keys, .inl (cy 1, 60, .inl c_aes_keys)), (h0_block, .inl (cy 0, 16, .inl c_block)), (h0_pad, .inl (cy 0, 16, .inl c_pad)), (ha1, .inl (cy 0, n_a1, .inl ca1))]) sz)) 0 0 (va_A ([(h0, .inr (6, [.ref h0_aes, .ref h0_block, .ref h0_pad])), (h0_aes, .inr (2, [.ref h0_aes_keys, .int c_aes_rounds])), (h0_aes_keys, .inl (cy 1, 60, .inl c_aes_keys)), (h0_block, .inl (cy 0, 16, .inl c_block)), (h0_pad, .inl (cy 0, 16, .inl c_pad)), (ha1, .inl (cy 0, n_a1, .inl ca1))]) sz) := by
  refine Met.ofW (cc := cX4_addStream) (maxL := 5) (ret := none) (by decide) rfl ?_
  intro p e s m args below meth c s₁ B hml hv
  obtain ⟨rfl, rfl, hP, hD0, hE⟩ := hv
  have hx := B.exec
  have hb := B.bytes
  have hr := B.returns
  have hts := atoms_spec (ws := wsX4_addStream) B.pre
  have hown : s.vm.findClass RX4 = some m.cls := findClass_of_methodNamed B.named
  have hlocks := B.notSynchronized
  clear B
  have hD := hD0.self (sz := s.heap.size)
  generalize hAe : va_A ([(h0, .inr (6, [.ref h0_aes, .ref h0_block, .ref h0_pad])), (h0_aes, .inr (2, [.ref h0_aes_keys, .int c_aes_rounds])), (h0_aes_keys, .inl (cy 1, 60, .inl c_aes_keys)), (h0_block, .inl (cy 0, 16, .inl c_block)), (h0_pad, .inl (cy 0, 16, .inl c_pad)), (ha1, .inl (cy 0, n_a1, .inl ca1))]) s.heap.size = A at hD hE ⊢
  have hA : ∀ q : Nat, s.heap.size ≤ q → A q := fun q h => by rw [← hAe]; exact Or.inr h
  clear hAe hD0
  have hS : va_S A s.heap s.heap [] := va_S.rf
  have hK := hE.1
  have hw0 := hts (.fieldLink RX4 9 "SealedModule$Modes" "block" "[B") (by decide +kernel)
  have hw1 := hts (.methodLink RX4 35 arraycopyName) (by decide +kernel)
  have hw2 := hts (.native arraycopyName) (by decide +kernel)
  have hw3 := hts (.static arraycopyName) (by decide +kernel)
  have hw4 := hts (.initialized "java/lang/System") (by decide +kernel)
  have hcX4 : ∀ w ∈ u_ws RX4 TX4 3, w ∈ wsX4_addStream := (fun _ h => List.mem_cons_of_mem _ (List.mem_append_left _ (List.mem_append_right _ h)))
  have hl := lv_entry ([.ref h0, .ref ha1, .int p2, .int p3, .int p4]) (n := 5) (Nat.le_of_ble_eq_true rfl)
  rw [lg_entry_eq]
  generalize (lg_sl ([.ref h0, .ref ha1, .int p2, .int p3, .int p4]) ++ List.replicate (5 - (lg_sl ([.ref h0, .ref ha1, .int p2, .int p3, .int p4])).length) Slot.unset).toArray = ls at hl ⊢
  replace hl : lv_has ls 5 [(0, .ref h0), (1, .ref ha1), (2, .int p2), (3, .int p3), (4, .int p4)] := hl
  unfold f_X4_addStream at hf
  refine zgo (fun GW hTo hFr => ?_)
  refine hFr _ _ _ ?_
  obtain ⟨H, hHe⟩ : ∃ H, H = s.heap := ⟨_, rfl⟩
  obtain ⟨locs, hLe⟩ : ∃ L : List Loc, L = [] := ⟨_, rfl⟩
  rw [← hHe] at hP
  replace hS : va_S A s.heap H locs := by rw [hHe, hLe]; exact hS
  refine zat hHe.symm hLe.symm ?_
  clear hHe hLe
  refine lv_aload_n (pc := 0) hx hb (zdt_at zt_X4_addStream_0 0 rfl) rfl (lv_at hl 1 rfl) ?_
  refine lv_iload_n (pc := 1) hx hb (zdt_at zt_X4_addStream_0 1 rfl) rfl (lv_at hl 2 rfl) ?_
  refine lv_aload_n (pc := 2) hx hb (zdt_at zt_X4_addStream_0 2 rfl) rfl (lv_at hl 0 rfl) ?_
  refine va_get (pc := 3) (D := D) (ci := 6) (v := .ref h0_block) (C := RX4) (T := TX4) (N := 3) hx hb hts hcX4 hown hK hP 0 rfl rfl 1 (by decide) hw0 (fun _ h9 => h9) rfl (zdt_at zt_X4_addStream_0 3 rfl) ?_
  refine lv_iconst (pc := 6) (v := (0 : Int32)) hx hb (zdt_at zt_X4_addStream_0 4 rfl) (by decide) ?_
  refine lv_bipush (pc := 7) (v := (16 : Int32)) hx hb (zdt_at zt_X4_addStream_0 5 rfl) (by decide) ?_
  replace hf := zk_s hf
  refine va_copyi (pc := 9) hx hb (hml.trans hl.1.symm) hown hw1 hw2 hw3 hw4 hK hP hD hS 5 3 0 0 rfl rfl rfl rfl rfl hf.1.1 hf.1.2.1 hf.1.2.2.1 hf.1.2.2.2.1 hf.1.2.2.2.2.1 hf.1.2.2.2.2.2 (Nat.le_of_ble_eq_true rfl) (Nat.le_of_ble_eq_true rfl) (zdt_at zt_X4_addStream_0 6 rfl) ?_
  replace hf := hf.2
  clear hP hD hS
  intro H locs hP hD hS
  obtain ⟨c_block_1, e_⟩ : ∃ q : Nat → Int32, q = (va_cpy ca1 c_block p2.toNatClampNeg (0 : Int32).toNatClampNeg (16 : Int32).toNatClampNeg) := ⟨_, rfl⟩
  replace hf := zn_s hf e_
  replace hP : va_P D vwCl ([(h0, .inr (6, [.ref h0_aes, .ref h0_block, .ref h0_pad])), (h0_aes, .inr (2, [.ref h0_aes_keys, .int c_aes_rounds])), (h0_aes_keys, .inl (cy 1, 60, .inl c_aes_keys)), (h0_block, .inl (cy 0, 16, .inl c_block_1)), (h0_pad, .inl (cy 0, 16, .inl c_pad)), (ha1, .inl (cy 0, n_a1, .inl ca1))]) H := by rw [e_]; exact hP
  replace hD : va_D A ([(h0, .inr (6, [.ref h0_aes, .ref h0_block, .ref h0_pad])), (h0_aes, .inr (2, [.ref h0_aes_keys, .int c_aes_rounds])), (h0_aes_keys, .inl (cy 1, 60, .inl c_aes_keys)), (h0_block, .inl (cy 0, 16, .inl c_block_1)), (h0_pad, .inl (cy 0, 16, .inl c_pad)), (ha1, .inl (cy 0, n_a1, .inl ca1))]) := by rw [e_]; exact hD
  clear e_
  refine lv_aload_n (pc := 12) hx hb (zdt_at zt_X4_addStream_0 7 rfl) rfl (lv_at hl 0 rfl) ?_
  refine lv_aload_n (pc := 13) hx hb (zdt_at zt_X4_addStream_0 8 rfl) rfl (lv_at hl 1 rfl) ?_
  refine lv_iload_n (pc := 14) hx hb (zdt_at zt_X4_addStream_0 9 rfl) rfl (lv_at hl 3 rfl) ?_
  refine lv_iload (pc := 15) hx hb (zdt_at zt_X4_addStream_0 10 rfl) (lv_at hl 4 rfl) ?_
  replace hf := zb_s hf
  obtain ⟨⟨c_block_2, c_pad_3, ca1_4⟩, hc_, hf⟩ := hf
  refine zcn2 (pc := 17) (rv := none) (va_runV (As := [.ref ha1, .int p3, .int p4]) (rest := []) ⟨hx, hb, hml, hown, hts⟩ (c_X4_addStreamOfBlock l D cy tt H.size h0 h0_aes h0_block h0_pad h0_aes_keys ha1 n_a1 p3 p4 c_aes_rounds c_aes_keys c_block_1 c_pad ca1 c_block_2 c_pad_3 ca1_4 hc_) (cwV 3 hts gX4_addStream_X4_addStreamOfBlock rfl rfl rfl (by decide +kernel) ⟨Nat.le_of_ble_eq_true rfl, Nat.le_of_ble_eq_true rfl⟩) ⟨zblind, va_recv hK hP (ci := 6) (q0 := 0) rfl rfl, zpre hE hS (hP.sub [0, 1, 2, 3, 4, 5] rfl) (hD.sub [0, 1, 2, 3, 4, 5] (by decide) rfl) (va_free hD hS hA [0, 1, 2, 3, 4, 5] rfl)⟩ rfl rfl hl.1 rfl (lv_room (Nat.le_of_ble_eq_true rfl)) (zdt_at zt_X4_addStream_0 11 rfl) ⟨Nat.zero_le _, Nat.zero_le _⟩) hS hP hD (va_free hD hS hA [0, 1, 2, 3, 4, 5] rfl) [0, 1, 2, 3, 4, 5] rfl (by decide) rfl ?_
  clear hP hD hS hc_
  intro H locs hP hD hS
  replace hP : va_P D vwCl ([(h0, .inr (6, [.ref h0_aes, .ref h0_block, .ref h0_pad])), (h0_aes, .inr (2, [.ref h0_aes_keys, .int c_aes_rounds])), (h0_aes_keys, .inl (cy 1, 60, .inl c_aes_keys)), (h0_block, .inl (cy 0, 16, .inl c_block_2)), (h0_pad, .inl (cy 0, 16, .inl c_pad_3)), (ha1, .inl (cy 0, n_a1, .inl ca1_4))]) H := hP
  replace hD : va_D A ([(h0, .inr (6, [.ref h0_aes, .ref h0_block, .ref h0_pad])), (h0_aes, .inr (2, [.ref h0_aes_keys, .int c_aes_rounds])), (h0_aes_keys, .inl (cy 1, 60, .inl c_aes_keys)), (h0_block, .inl (cy 0, 16, .inl c_block_2)), (h0_pad, .inl (cy 0, 16, .inl c_pad_3)), (ha1, .inl (cy 0, n_a1, .inl ca1_4))]) := hD
  refine W.eq (g2 := F0 m 20 ls []) rfl ?_
  cases hf
  exact W.vret (pc := 20) hx hb hr (fun t ht hW => ⟨rfl, ⟨by rw [ht]; exact hP, hD⟩, hS.F ht⟩) hS.2.2 (zdt_at zt_X4_addStream_0 12 rfl)
set_option maxHeartbeats 4000000 in
set_option maxRecDepth 100000 in
theorem c_X4_addNonceStream (l : Launch) (D : va_G) (cy : Nat → ClassId) (tt : Nat → Nat) (sz : Nat) (h0 : Nat) (h0_aes : Nat) (h0_block : Nat) (h0_pad : Nat) (h0_aes_keys : Nat) (ha1 : Nat) (n_a1 : Nat) (p2 : Int32) (p3 : Int32) (p4 : Int32) (c_aes_rounds : Int32) (c_aes_keys : Nat → Int32) (c_block : Nat → Int32) (c_pad : Nat → Int32) (ca1 : Nat → Int32) (c_block' : Nat → Int32) (c_pad' : Nat → Int32) (ca1' : Nat → Int32) (hf : f_X4_addNonceStream n_a1 p2 p3 p4 c_aes_rounds c_aes_keys c_block c_pad ca1 = some (c_block', c_pad', ca1')) : Met l yX4_addNonceStream wsX4_addNonceStream ({ frames := 3, cells := 0, slots := 0, locals := 88 }) (zPc D cy tt sz [.ref h0, .ref ha1, .int p2, .int p3, .int p4] ([(h0, .inr (6, [.ref h0_aes, .ref h0_block, .ref h0_pad])), (h0_aes, .inr (2, [.ref h0_aes_keys, .int c_aes_rounds])), (h0_aes_keys, .inl (cy 1, 60, .inl c_aes_keys)), (h0_block, .inl (cy 0, 16, .inl c_block)), (h0_pad, .inl (cy 0, 16, .inl c_pad)), (ha1, .inl (cy 0, n_a1, .inl ca1))])) (zQ D none ([(h0, .inr (6, [.ref h0_aes, .ref h0_block, .ref h0_pad])), (h0_aes, .inr (2, [.ref h0_aes_keys, .int c_aes_rounds])), (h0_aes_keys, .inl (cy 1, 60, .inl c_aes_keys)), (h0_block, .inl (cy 0, 16, .inl c_block')), (h0_pad, .inl (cy 0, 16, .inl c_pad')), (ha1, .inl (cy 0, n_a1, .inl ca1'))]) (va_A ([(h0, .inr (6, [.ref h0_aes, .ref h0_block, .ref h0_pad])), (h0_aes, .inr (2, [.ref h0_aes_keys, .int c_aes_rounds])), (h0_aes_keys, .inl (cy 1, 60, .inl c_aes_keys)), (h0_block, .inl (cy 0, 16, .inl c_block)), (h0_pad, .inl (cy 0, 16, .inl c_pad)), (ha1, .inl (cy 0, n_a1, .inl ca1))]) sz)) 0 0 (va_A ([(h0, .inr (6, [.ref h0_aes, .ref h0_block, .ref h0_pad])), (h0_aes, .inr (2, [.ref h0_aes_keys, .int c_aes_rounds])), (h0_aes_keys, .inl (cy 1, 60, .inl c_aes_keys)), (h0_block, .inl (cy 0, 16, .inl c_block)), (h0_pad, .inl (cy 0, 16, .inl c_pad)), (ha1, .inl (cy 0, n_a1, .inl ca1))]) sz) := by
  refine Met.ofW (cc := cX4_addNonceStream) (maxL := 5) (ret := none) (by decide) rfl ?_
  intro p e s m args below meth c s₁ B hml hv
  obtain ⟨rfl, rfl, hP, hD0, hE⟩ := hv
  have hx := B.exec
  have hb := B.bytes
  have hr := B.returns
  have hts := atoms_spec (ws := wsX4_addNonceStream) B.pre
  have hown : s.vm.findClass RX4 = some m.cls := findClass_of_methodNamed B.named
  have hlocks := B.notSynchronized
  clear B
  have hD := hD0.self (sz := s.heap.size)
  generalize hAe : va_A ([(h0, .inr (6, [.ref h0_aes, .ref h0_block, .ref h0_pad])), (h0_aes, .inr (2, [.ref h0_aes_keys, .int c_aes_rounds])), (h0_aes_keys, .inl (cy 1, 60, .inl c_aes_keys)), (h0_block, .inl (cy 0, 16, .inl c_block)), (h0_pad, .inl (cy 0, 16, .inl c_pad)), (ha1, .inl (cy 0, n_a1, .inl ca1))]) s.heap.size = A at hD hE ⊢
  have hA : ∀ q : Nat, s.heap.size ≤ q → A q := fun q h => by rw [← hAe]; exact Or.inr h
  clear hAe hD0
  have hS : va_S A s.heap s.heap [] := va_S.rf
  have hK := hE.1
  have hw0 := hts (.fieldLink RX4 9 "SealedModule$Modes" "block" "[B") (by decide +kernel)
  have hw1 := hts (.methodLink RX4 35 arraycopyName) (by decide +kernel)
  have hw2 := hts (.native arraycopyName) (by decide +kernel)
  have hw3 := hts (.static arraycopyName) (by decide +kernel)
  have hw4 := hts (.initialized "java/lang/System") (by decide +kernel)
  have hw5 := hts (.initialized RX9) (by decide +kernel)
  have hw6 := hts (.static yX9_putInt) (by decide +kernel)
  have hcX4 : ∀ w ∈ u_ws RX4 TX4 3, w ∈ wsX4_addNonceStream := (fun _ h => List.mem_cons_of_mem _ (List.mem_append_left _ (List.mem_append_right _ h)))
  have hl := lv_entry ([.ref h0, .ref ha1, .int p2, .int p3, .int p4]) (n := 5) (Nat.le_of_ble_eq_true rfl)
  rw [lg_entry_eq]
  generalize (lg_sl ([.ref h0, .ref ha1, .int p2, .int p3, .int p4]) ++ List.replicate (5 - (lg_sl ([.ref h0, .ref ha1, .int p2, .int p3, .int p4])).length) Slot.unset).toArray = ls at hl ⊢
  replace hl : lv_has ls 5 [(0, .ref h0), (1, .ref ha1), (2, .int p2), (3, .int p3), (4, .int p4)] := hl
  unfold f_X4_addNonceStream at hf
  refine zgo (fun GW hTo hFr => ?_)
  refine hFr _ _ _ ?_
  obtain ⟨H, hHe⟩ : ∃ H, H = s.heap := ⟨_, rfl⟩
  obtain ⟨locs, hLe⟩ : ∃ L : List Loc, L = [] := ⟨_, rfl⟩
  rw [← hHe] at hP
  replace hS : va_S A s.heap H locs := by rw [hHe, hLe]; exact hS
  refine zat hHe.symm hLe.symm ?_
  clear hHe hLe
  refine lv_aload_n (pc := 0) hx hb (zdt_at zt_X4_addNonceStream_0 0 rfl) rfl (lv_at hl 1 rfl) ?_
  refine lv_iload_n (pc := 1) hx hb (zdt_at zt_X4_addNonceStream_0 1 rfl) rfl (lv_at hl 2 rfl) ?_
  refine lv_aload_n (pc := 2) hx hb (zdt_at zt_X4_addNonceStream_0 2 rfl) rfl (lv_at hl 0 rfl) ?_
  refine va_get (pc := 3) (D := D) (ci := 6) (v := .ref h0_block) (C := RX4) (T := TX4) (N := 3) hx hb hts hcX4 hown hK hP 0 rfl rfl 1 (by decide) hw0 (fun _ h9 => h9) rfl (zdt_at zt_X4_addNonceStream_0 3 rfl) ?_
  refine lv_iconst (pc := 6) (v := (0 : Int32)) hx hb (zdt_at zt_X4_addNonceStream_0 4 rfl) (by decide) ?_
  refine lv_bipush (pc := 7) (v := (12 : Int32)) hx hb (zdt_at zt_X4_addNonceStream_0 5 rfl) (by decide) ?_
  replace hf := zk_s hf
  refine va_copyi (pc := 9) hx hb (hml.trans hl.1.symm) hown hw1 hw2 hw3 hw4 hK hP hD hS 5 3 0 0 rfl rfl rfl rfl rfl hf.1.1 hf.1.2.1 hf.1.2.2.1 hf.1.2.2.2.1 hf.1.2.2.2.2.1 hf.1.2.2.2.2.2 (Nat.le_of_ble_eq_true rfl) (Nat.le_of_ble_eq_true rfl) (zdt_at zt_X4_addNonceStream_0 6 rfl) ?_
  replace hf := hf.2
  clear hP hD hS
  intro H locs hP hD hS
  obtain ⟨c_block_1, e_⟩ : ∃ q : Nat → Int32, q = (va_cpy ca1 c_block p2.toNatClampNeg (0 : Int32).toNatClampNeg (12 : Int32).toNatClampNeg) := ⟨_, rfl⟩
  replace hf := zn_s hf e_
  replace hP : va_P D vwCl ([(h0, .inr (6, [.ref h0_aes, .ref h0_block, .ref h0_pad])), (h0_aes, .inr (2, [.ref h0_aes_keys, .int c_aes_rounds])), (h0_aes_keys, .inl (cy 1, 60, .inl c_aes_keys)), (h0_block, .inl (cy 0, 16, .inl c_block_1)), (h0_pad, .inl (cy 0, 16, .inl c_pad)), (ha1, .inl (cy 0, n_a1, .inl ca1))]) H := by rw [e_]; exact hP
  replace hD : va_D A ([(h0, .inr (6, [.ref h0_aes, .ref h0_block, .ref h0_pad])), (h0_aes, .inr (2, [.ref h0_aes_keys, .int c_aes_rounds])), (h0_aes_keys, .inl (cy 1, 60, .inl c_aes_keys)), (h0_block, .inl (cy 0, 16, .inl c_block_1)), (h0_pad, .inl (cy 0, 16, .inl c_pad)), (ha1, .inl (cy 0, n_a1, .inl ca1))]) := by rw [e_]; exact hD
  clear e_
  refine lv_aload_n (pc := 12) hx hb (zdt_at zt_X4_addNonceStream_0 7 rfl) rfl (lv_at hl 0 rfl) ?_
  refine va_get (pc := 13) (D := D) (ci := 6) (v := .ref h0_block) (C := RX4) (T := TX4) (N := 3) hx hb hts hcX4 hown hK hP 0 rfl rfl 1 (by decide) hw0 (fun _ h9 => h9) rfl (zdt_at zt_X4_addNonceStream_0 8 rfl) ?_
  refine lv_bipush (pc := 16) (v := (12 : Int32)) hx hb (zdt_at zt_X4_addNonceStream_0 9 rfl) (by decide) ?_
  refine lv_iconst (pc := 18) (v := (2 : Int32)) hx hb (zdt_at zt_X4_addNonceStream_0 10 rfl) (by decide) ?_
  replace hf := zb_s hf
  obtain ⟨c_block_2, hc_, hf⟩ := hf
  refine zcn2 (pc := 19) (rv := none) (va_runSN (As := [.ref h0_block, .int (12 : Int32), .int (2 : Int32)]) (rest := []) ⟨hx, hb, hml, hown, hts⟩ (c_X9_putInt l D cy tt H.size h0_block 16 (12 : Int32) (2 : Int32) c_block_1 c_block_2 hc_) ⟨va_cnB 3 hts gX4_addNonceStream_X9_putInt_n45 rfl rfl rfl (gNs_8 hE.2.1) hw5 (by decide +kernel) ⟨Nat.le_of_ble_eq_true rfl, Nat.le_of_ble_eq_true rfl⟩, hw6, trivial⟩ ⟨zblind, zpre hE hS (hP.sub [3] rfl) (hD.sub [3] (by decide) rfl) (va_free hD hS hA [3] rfl)⟩ rfl rfl hl.1 rfl (lv_room (Nat.le_of_ble_eq_true rfl)) (zdt_at zt_X4_addNonceStream_0 11 rfl) ⟨Nat.zero_le _, Nat.zero_le _⟩) hS hP hD (va_free hD hS hA [3] rfl) [3] rfl (by decide) rfl ?_
  clear hP hD hS hc_
  intro H locs hP hD hS
  replace hP : va_P D vwCl ([(h0, .inr (6, [.ref h0_aes, .ref h0_block, .ref h0_pad])), (h0_aes, .inr (2, [.ref h0_aes_keys, .int c_aes_rounds])), (h0_aes_keys, .inl (cy 1, 60, .inl c_aes_keys)), (h0_block, .inl (cy 0, 16, .inl c_block_2)), (h0_pad, .inl (cy 0, 16, .inl c_pad)), (ha1, .inl (cy 0, n_a1, .inl ca1))]) H := hP
  replace hD : va_D A ([(h0, .inr (6, [.ref h0_aes, .ref h0_block, .ref h0_pad])), (h0_aes, .inr (2, [.ref h0_aes_keys, .int c_aes_rounds])), (h0_aes_keys, .inl (cy 1, 60, .inl c_aes_keys)), (h0_block, .inl (cy 0, 16, .inl c_block_2)), (h0_pad, .inl (cy 0, 16, .inl c_pad)), (ha1, .inl (cy 0, n_a1, .inl ca1))]) := hD
  refine W.eq (g2 := F0 m 22 ls []) rfl ?_
  refine lv_aload_n (pc := 22) hx hb (zdt_at zt_X4_addNonceStream_0 12 rfl) rfl (lv_at hl 0 rfl) ?_
  refine lv_aload_n (pc := 23) hx hb (zdt_at zt_X4_addNonceStream_0 13 rfl) rfl (lv_at hl 1 rfl) ?_
  refine lv_iload_n (pc := 24) hx hb (zdt_at zt_X4_addNonceStream_0 14 rfl) rfl (lv_at hl 3 rfl) ?_
  refine lv_iload (pc := 25) hx hb (zdt_at zt_X4_addNonceStream_0 15 rfl) (lv_at hl 4 rfl) ?_
  replace hf := zb_s hf
  obtain ⟨⟨c_block_3, c_pad_4, ca1_5⟩, hc_, hf⟩ := hf
  refine zcn2 (pc := 27) (rv := none) (va_runV (As := [.ref ha1, .int p3, .int p4]) (rest := []) ⟨hx, hb, hml, hown, hts⟩ (c_X4_addStreamOfBlock l D cy tt H.size h0 h0_aes h0_block h0_pad h0_aes_keys ha1 n_a1 p3 p4 c_aes_rounds c_aes_keys c_block_2 c_pad ca1 c_block_3 c_pad_4 ca1_5 hc_) (cwV 3 hts gX4_addNonceStream_X4_addStreamOfBlock rfl rfl rfl (by decide +kernel) ⟨Nat.le_of_ble_eq_true rfl, Nat.le_of_ble_eq_true rfl⟩) ⟨zblind, va_recv hK hP (ci := 6) (q0 := 0) rfl rfl, zpre hE hS (hP.sub [0, 1, 2, 3, 4, 5] rfl) (hD.sub [0, 1, 2, 3, 4, 5] (by decide) rfl) (va_free hD hS hA [0, 1, 2, 3, 4, 5] rfl)⟩ rfl rfl hl.1 rfl (lv_room (Nat.le_of_ble_eq_true rfl)) (zdt_at zt_X4_addNonceStream_0 16 rfl) ⟨Nat.zero_le _, Nat.zero_le _⟩) hS hP hD (va_free hD hS hA [0, 1, 2, 3, 4, 5] rfl) [0, 1, 2, 3, 4, 5] rfl (by decide) rfl ?_
  clear hP hD hS hc_
  intro H locs hP hD hS
  replace hP : va_P D vwCl ([(h0, .inr (6, [.ref h0_aes, .ref h0_block, .ref h0_pad])), (h0_aes, .inr (2, [.ref h0_aes_keys, .int c_aes_rounds])), (h0_aes_keys, .inl (cy 1, 60, .inl c_aes_keys)), (h0_block, .inl (cy 0, 16, .inl c_block_3)), (h0_pad, .inl (cy 0, 16, .inl c_pad_4)), (ha1, .inl (cy 0, n_a1, .inl ca1_5))]) H := hP
  replace hD : va_D A ([(h0, .inr (6, [.ref h0_aes, .ref h0_block, .ref h0_pad])), (h0_aes, .inr (2, [.ref h0_aes_keys, .int c_aes_rounds])), (h0_aes_keys, .inl (cy 1, 60, .inl c_aes_keys)), (h0_block, .inl (cy 0, 16, .inl c_block_3)), (h0_pad, .inl (cy 0, 16, .inl c_pad_4)), (ha1, .inl (cy 0, n_a1, .inl ca1_5))]) := hD
  refine W.eq (g2 := F0 m 30 ls []) rfl ?_
  cases hf
  exact W.vret (pc := 30) hx hb hr (fun t ht hW => ⟨rfl, ⟨by rw [ht]; exact hP, hD⟩, hS.F ht⟩) hS.2.2 (zdt_at zt_X4_addNonceStream_0 17 rfl)
set_option maxHeartbeats 4000000 in
set_option maxRecDepth 100000 in
theorem c_X4_doublePad (l : Launch) (D : va_G) (cy : Nat → ClassId) (tt : Nat → Nat) (sz : Nat) (h0 : Nat) (h0_aes : Nat) (h0_block : Nat) (h0_pad : Nat) (c_pad : Nat → Int32) (c_pad' : Nat → Int32) (hf : f_X4_doublePad c_pad = some c_pad') : Met l yX4_doublePad wsX4_doublePad ({ frames := 2, cells := 0, slots := 0, locals := 45 }) (zPc D cy tt sz [.ref h0] ([(h0, .inr (6, [.ref h0_aes, .ref h0_block, .ref h0_pad])), (h0_pad, .inl (cy 0, 16, .inl c_pad))])) (zQ D none ([(h0, .inr (6, [.ref h0_aes, .ref h0_block, .ref h0_pad])), (h0_pad, .inl (cy 0, 16, .inl c_pad'))]) (va_A ([(h0, .inr (6, [.ref h0_aes, .ref h0_block, .ref h0_pad])), (h0_pad, .inl (cy 0, 16, .inl c_pad))]) sz)) 0 0 (va_A ([(h0, .inr (6, [.ref h0_aes, .ref h0_block, .ref h0_pad])), (h0_pad, .inl (cy 0, 16, .inl c_pad))]) sz) := by
  refine Met.ofW (cc := cX4_doublePad) (maxL := 5) (ret := none) (by decide) rfl ?_
  intro p e s m args below meth c s₁ B hml hv
  obtain ⟨rfl, rfl, hP, hD0, hE⟩ := hv
  have hx := B.exec
  have hb := B.bytes
  have hr := B.returns
  have hts := atoms_spec (ws := wsX4_doublePad) B.pre
  have hown : s.vm.findClass RX4 = some m.cls := findClass_of_methodNamed B.named
  have hlocks := B.notSynchronized
  clear B
  have hD := hD0.self (sz := s.heap.size)
  generalize hAe : va_A ([(h0, .inr (6, [.ref h0_aes, .ref h0_block, .ref h0_pad])), (h0_pad, .inl (cy 0, 16, .inl c_pad))]) s.heap.size = A at hD hE ⊢
  have hA : ∀ q : Nat, s.heap.size ≤ q → A q := fun q h => by rw [← hAe]; exact Or.inr h
  clear hAe hD0
  have hS : va_S A s.heap s.heap [] := va_S.rf
  have hK := hE.1
  have hw0 := hts (.fieldLink RX4 15 "SealedModule$Modes" "pad" "[B") (by decide +kernel)
  have hw1 := hts (.initialized RX9) (by decide +kernel)
  have hw2 := hts (.static yX9_longAt) (by decide +kernel)
  have hw3 := hts (.static yX9_putLong) (by decide +kernel)
  have hcX4 : ∀ w ∈ u_ws RX4 TX4 3, w ∈ wsX4_doublePad := (fun _ h => List.mem_cons_of_mem _ (List.mem_append_right _ h))
  have hl := lv_entry ([.ref h0]) (n := 5) (Nat.le_of_ble_eq_true rfl)
  rw [lg_entry_eq]
  generalize (lg_sl ([.ref h0]) ++ List.replicate (5 - (lg_sl ([.ref h0])).length) Slot.unset).toArray = ls at hl ⊢
  replace hl : lv_has ls 5 [(0, .ref h0)] := hl
  unfold f_X4_doublePad at hf
  refine zgo (fun GW hTo hFr => ?_)
  refine hFr _ _ _ ?_
  obtain ⟨H, hHe⟩ : ∃ H, H = s.heap := ⟨_, rfl⟩
  obtain ⟨locs, hLe⟩ : ∃ L : List Loc, L = [] := ⟨_, rfl⟩
  rw [← hHe] at hP
  replace hS : va_S A s.heap H locs := by rw [hHe, hLe]; exact hS
  refine zat hHe.symm hLe.symm ?_
  clear hHe hLe
  refine lv_aload_n (pc := 0) hx hb (zdt_at zt_X4_doublePad_0 0 rfl) rfl (lv_at hl 0 rfl) ?_
  refine va_get (pc := 1) (D := D) (ci := 6) (v := .ref h0_pad) (C := RX4) (T := TX4) (N := 3) hx hb hts hcX4 hown hK hP 0 rfl rfl 2 (by decide) hw0 (fun _ h9 => h9) rfl (zdt_at zt_X4_doublePad_0 1 rfl) ?_
  refine lv_iconst (pc := 4) (v := (0 : Int32)) hx hb (zdt_at zt_X4_doublePad_0 2 rfl) (by decide) ?_
  replace hf := zb_s hf
  obtain ⟨r_1, hc_, hf⟩ := hf
  refine zcs (pc := 5) (rv := (some (.long r_1))) (va_runSN (As := [.ref h0_pad, .int (0 : Int32)]) (rest := []) ⟨hx, hb, hml, hown, hts⟩ (c_X9_longAt l D cy tt H.size h0_pad 16 (0 : Int32) c_pad r_1 hc_) ⟨va_cnB 2 hts gX4_doublePad_X9_longAt_n66 rfl rfl rfl (gNs_9 hE.2.1) hw1 (by decide +kernel) ⟨Nat.le_of_ble_eq_true rfl, Nat.le_of_ble_eq_true rfl⟩, hw2, trivial⟩ ⟨zblind, zpre hE hS (hP.sub [1] rfl) (hD.sub [1] (by decide) rfl) (va_free hD hS hA [1] rfl)⟩ rfl rfl hl.1 rfl (lv_room (Nat.le_of_ble_eq_true rfl)) (zdt_at zt_X4_doublePad_0 3 rfl) ⟨Nat.zero_le _, Nat.zero_le _⟩) ?_
  clear hc_
  refine W.eq (g2 := F0 m 8 ls [.long r_1]) rfl ?_
  refine lv_lstore_n (pc := 8) (lv' := [(1, .long r_1), (0, .ref h0)]) hx hb (zdt_at zt_X4_doublePad_0 4 rfl) rfl hl (by decide) rfl ?_
  clear hl
  intro ls hl
  refine lv_aload_n (pc := 9) hx hb (zdt_at zt_X4_doublePad_0 5 rfl) rfl (lv_at hl 1 rfl) ?_
  refine va_get (pc := 10) (D := D) (ci := 6) (v := .ref h0_pad) (C := RX4) (T := TX4) (N := 3) hx hb hts hcX4 hown hK hP 0 rfl rfl 2 (by decide) hw0 (fun _ h9 => h9) rfl (zdt_at zt_X4_doublePad_0 6 rfl) ?_
  refine lv_bipush (pc := 13) (v := (8 : Int32)) hx hb (zdt_at zt_X4_doublePad_0 7 rfl) (by decide) ?_
  replace hf := zb_s hf
  obtain ⟨r_2, hc_, hf⟩ := hf
  refine zcs (pc := 15) (rv := (some (.long r_2))) (va_runSN (As := [.ref h0_pad, .int (8 : Int32)]) (rest := []) ⟨hx, hb, hml, hown, hts⟩ (c_X9_longAt l D cy tt H.size h0_pad 16 (8 : Int32) c_pad r_2 hc_) ⟨va_cnB 2 hts gX4_doublePad_X9_longAt_n66 rfl rfl rfl (gNs_9 hE.2.1) hw1 (by decide +kernel) ⟨Nat.le_of_ble_eq_true rfl, Nat.le_of_ble_eq_true rfl⟩, hw2, trivial⟩ ⟨zblind, zpre hE hS (hP.sub [1] rfl) (hD.sub [1] (by decide) rfl) (va_free hD hS hA [1] rfl)⟩ rfl rfl hl.1 rfl (lv_room (Nat.le_of_ble_eq_true rfl)) (zdt_at zt_X4_doublePad_0 8 rfl) ⟨Nat.zero_le _, Nat.zero_le _⟩) ?_
  clear hc_
  refine W.eq (g2 := F0 m 18 ls [.long r_2]) rfl ?_
  refine lv_lstore_n (pc := 18) (lv' := [(3, .long r_2), (1, .long r_1), (0, .ref h0)]) hx hb (zdt_at zt_X4_doublePad_0 9 rfl) rfl hl (by decide) rfl ?_
  clear hl
  intro ls hl
  refine lv_aload_n (pc := 19) hx hb (zdt_at zt_X4_doublePad_0 10 rfl) rfl (lv_at hl 2 rfl) ?_
  refine va_get (pc := 20) (D := D) (ci := 6) (v := .ref h0_pad) (C := RX4) (T := TX4) (N := 3) hx hb hts hcX4 hown hK hP 0 rfl rfl 2 (by decide) hw0 (fun _ h9 => h9) rfl (zdt_at zt_X4_doublePad_0 11 rfl) ?_
  refine lv_iconst (pc := 23) (v := (0 : Int32)) hx hb (zdt_at zt_X4_doublePad_0 12 rfl) (by decide) ?_
  refine lv_lload_n (pc := 24) hx hb (zdt_at zt_X4_doublePad_0 13 rfl) rfl (lv_at hl 1 rfl) ?_
  refine lv_iconst (pc := 25) (v := (1 : Int32)) hx hb (zdt_at zt_X4_doublePad_0 14 rfl) (by decide) ?_
  refine lv_lshl (pc := 26) hx hb (zdt_at zt_X4_doublePad_0 15 rfl) rfl ?_
  refine lv_lload_n (pc := 27) hx hb (zdt_at zt_X4_doublePad_0 16 rfl) rfl (lv_at hl 0 rfl) ?_
  refine lv_bipush (pc := 28) (v := (63 : Int32)) hx hb (zdt_at zt_X4_doublePad_0 17 rfl) (by decide) ?_
  refine lv_lushr (pc := 30) hx hb (zdt_at zt_X4_doublePad_0 18 rfl) rfl ?_
  refine lv_lor (pc := 31) hx hb (zdt_at zt_X4_doublePad_0 19 rfl) ?_
  replace hf := zb_s hf
  obtain ⟨c_pad_3, hc_, hf⟩ := hf
  refine zcn2 (pc := 32) (rv := none) (va_runSN (As := [.ref h0_pad, .int (0 : Int32), .long ((r_1 <<< ((1 : Int32).toInt64 &&& 63)) ||| (r_2.toUInt64 >>> ((63 : Int32).toInt64.toUInt64 &&& Int64.toUInt64 63)).toInt64)]) (rest := []) ⟨hx, hb, hml, hown, hts⟩ (c_X9_putLong l D cy tt H.size h0_pad 16 (0 : Int32) ((r_1 <<< ((1 : Int32).toInt64 &&& 63)) ||| (r_2.toUInt64 >>> ((63 : Int32).toInt64.toUInt64 &&& Int64.toUInt64 63)).toInt64) c_pad c_pad_3 hc_) ⟨va_cnB 3 hts gX4_doublePad_X9_putLong_n70 rfl rfl rfl (gNs_10 hE.2.1) hw1 (by decide +kernel) ⟨Nat.le_of_ble_eq_true rfl, Nat.le_of_ble_eq_true rfl⟩, hw3, trivial⟩ ⟨zblind, zpre hE hS (hP.sub [1] rfl) (hD.sub [1] (by decide) rfl) (va_free hD hS hA [1] rfl)⟩ rfl rfl hl.1 rfl (lv_room (Nat.le_of_ble_eq_true rfl)) (zdt_at zt_X4_doublePad_0 20 rfl) ⟨Nat.zero_le _, Nat.zero_le _⟩) hS hP hD (va_free hD hS hA [1] rfl) [1] rfl (by decide) rfl ?_
  clear hP hD hS hc_
  intro H locs hP hD hS
  replace hP : va_P D vwCl ([(h0, .inr (6, [.ref h0_aes, .ref h0_block, .ref h0_pad])), (h0_pad, .inl (cy 0, 16, .inl c_pad_3))]) H := hP
  replace hD : va_D A ([(h0, .inr (6, [.ref h0_aes, .ref h0_block, .ref h0_pad])), (h0_pad, .inl (cy 0, 16, .inl c_pad_3))]) := hD
  refine W.eq (g2 := F0 m 35 ls []) rfl ?_
  refine lv_aload_n (pc := 35) hx hb (zdt_at zt_X4_doublePad_0 21 rfl) rfl (lv_at hl 2 rfl) ?_
  refine va_get (pc := 36) (D := D) (ci := 6) (v := .ref h0_pad) (C := RX4) (T := TX4) (N := 3) hx hb hts hcX4 hown hK hP 0 rfl rfl 2 (by decide) hw0 (fun _ h9 => h9) rfl (zdt_at zt_X4_doublePad_0 22 rfl) ?_
  refine lv_bipush (pc := 39) (v := (8 : Int32)) hx hb (zdt_at zt_X4_doublePad_0 23 rfl) (by decide) ?_
  refine lv_lload_n (pc := 41) hx hb (zdt_at zt_X4_doublePad_0 24 rfl) rfl (lv_at hl 0 rfl) ?_
  refine lv_iconst (pc := 42) (v := (1 : Int32)) hx hb (zdt_at zt_X4_doublePad_0 25 rfl) (by decide) ?_
  refine lv_lshl (pc := 43) hx hb (zdt_at zt_X4_doublePad_0 26 rfl) rfl ?_
  refine lv_lload_n (pc := 44) hx hb (zdt_at zt_X4_doublePad_0 27 rfl) rfl (lv_at hl 1 rfl) ?_
  refine lv_lconst (pc := 45) (v := (0 : Int64)) hx hb (zdt_at zt_X4_doublePad_0 28 rfl) (by decide) ?_
  refine W.lcmp (pc := 46) hx hb (zdt_at zt_X4_doublePad_0 29 rfl) ?_
  refine lv_if_ge (pc := 47) (tgt := 56) hx hb (zdt_at zt_X4_doublePad_0 30 rfl) (by decide) (fun cn_ => ?t_4) (fun cn_ => ?f_5)
  case t_4 =>
    replace hf := zt_s cn_ hf
    clear cn_
    refine lv_iconst (pc := 56) (v := (0 : Int32)) hx hb (zdt_at zt_X4_doublePad_0 33 rfl) (by decide) ?_
    refine lv_i2l (pc := 57) hx hb (zdt_at zt_X4_doublePad_0 34 rfl) rfl ?_
    refine lv_lxor (pc := 58) hx hb (zdt_at zt_X4_doublePad_0 35 rfl) ?_
    replace hf := zb_s hf
    obtain ⟨c_pad_6, hc_, hf⟩ := hf
    refine zcn2 (pc := 59) (rv := none) (va_runSN (As := [.ref h0_pad, .int (8 : Int32), .long ((r_2 <<< ((1 : Int32).toInt64 &&& 63)) ^^^ (0 : Int32).toInt64)]) (rest := []) ⟨hx, hb, hml, hown, hts⟩ (c_X9_putLong l D cy tt H.size h0_pad 16 (8 : Int32) ((r_2 <<< ((1 : Int32).toInt64 &&& 63)) ^^^ (0 : Int32).toInt64) c_pad_3 c_pad_6 hc_) ⟨va_cnB 3 hts gX4_doublePad_X9_putLong_n70 rfl rfl rfl (gNs_10 hE.2.1) hw1 (by decide +kernel) ⟨Nat.le_of_ble_eq_true rfl, Nat.le_of_ble_eq_true rfl⟩, hw3, trivial⟩ ⟨zblind, zpre hE hS (hP.sub [1] rfl) (hD.sub [1] (by decide) rfl) (va_free hD hS hA [1] rfl)⟩ rfl rfl hl.1 rfl (lv_room (Nat.le_of_ble_eq_true rfl)) (zdt_at zt_X4_doublePad_0 36 rfl) ⟨Nat.zero_le _, Nat.zero_le _⟩) hS hP hD (va_free hD hS hA [1] rfl) [1] rfl (by decide) rfl ?_
    clear hP hD hS hc_
    intro H locs hP hD hS
    replace hP : va_P D vwCl ([(h0, .inr (6, [.ref h0_aes, .ref h0_block, .ref h0_pad])), (h0_pad, .inl (cy 0, 16, .inl c_pad_6))]) H := hP
    replace hD : va_D A ([(h0, .inr (6, [.ref h0_aes, .ref h0_block, .ref h0_pad])), (h0_pad, .inl (cy 0, 16, .inl c_pad_6))]) := hD
    refine W.eq (g2 := F0 m 62 ls []) rfl ?_
    cases hf
    exact W.vret (pc := 62) hx hb hr (fun t ht hW => ⟨rfl, ⟨by rw [ht]; exact hP, hD⟩, hS.F ht⟩) hS.2.2 (zdt_at zt_X4_doublePad_0 37 rfl)
  replace hf := ze_s cn_ hf
  clear cn_
  refine lv_sipush (pc := 50) (v := (135 : Int32)) hx hb (zdt_at zt_X4_doublePad_0 31 rfl) (by decide) ?_
  refine lv_goto (pc := 53) (tgt := 57) hx hb (zdt_at zt_X4_doublePad_0 32 rfl) (by decide) ?_
  refine lv_i2l (pc := 57) hx hb (zdt_at zt_X4_doublePad_0 34 rfl) rfl ?_
  refine lv_lxor (pc := 58) hx hb (zdt_at zt_X4_doublePad_0 35 rfl) ?_
  replace hf := zb_s hf
  obtain ⟨c_pad_7, hc_, hf⟩ := hf
  refine zcn2 (pc := 59) (rv := none) (va_runSN (As := [.ref h0_pad, .int (8 : Int32), .long ((r_2 <<< ((1 : Int32).toInt64 &&& 63)) ^^^ (135 : Int32).toInt64)]) (rest := []) ⟨hx, hb, hml, hown, hts⟩ (c_X9_putLong l D cy tt H.size h0_pad 16 (8 : Int32) ((r_2 <<< ((1 : Int32).toInt64 &&& 63)) ^^^ (135 : Int32).toInt64) c_pad_3 c_pad_7 hc_) ⟨va_cnB 3 hts gX4_doublePad_X9_putLong_n70 rfl rfl rfl (gNs_10 hE.2.1) hw1 (by decide +kernel) ⟨Nat.le_of_ble_eq_true rfl, Nat.le_of_ble_eq_true rfl⟩, hw3, trivial⟩ ⟨zblind, zpre hE hS (hP.sub [1] rfl) (hD.sub [1] (by decide) rfl) (va_free hD hS hA [1] rfl)⟩ rfl rfl hl.1 rfl (lv_room (Nat.le_of_ble_eq_true rfl)) (zdt_at zt_X4_doublePad_0 36 rfl) ⟨Nat.zero_le _, Nat.zero_le _⟩) hS hP hD (va_free hD hS hA [1] rfl) [1] rfl (by decide) rfl ?_
  clear hP hD hS hc_
  intro H locs hP hD hS
  replace hP : va_P D vwCl ([(h0, .inr (6, [.ref h0_aes, .ref h0_block, .ref h0_pad])), (h0_pad, .inl (cy 0, 16, .inl c_pad_7))]) H := hP
  replace hD : va_D A ([(h0, .inr (6, [.ref h0_aes, .ref h0_block, .ref h0_pad])), (h0_pad, .inl (cy 0, 16, .inl c_pad_7))]) := hD
  refine W.eq (g2 := F0 m 62 ls []) rfl ?_
  cases hf
  exact W.vret (pc := 62) hx hb hr (fun t ht hW => ⟨rfl, ⟨by rw [ht]; exact hP, hD⟩, hS.F ht⟩) hS.2.2 (zdt_at zt_X4_doublePad_0 37 rfl)
set_option maxHeartbeats 4000000 in
set_option maxRecDepth 100000 in
theorem c_X4_cmac (l : Launch) (D : va_G) (cy : Nat → ClassId) (tt : Nat → Nat) (sz : Nat) (h0 : Nat) (h0_aes : Nat) (h0_block : Nat) (h0_pad : Nat) (h0_aes_keys : Nat) (ha1 : Nat) (ha4 : Nat) (n_a1 : Nat) (n_a4 : Nat) (p2 : Int32) (p3 : Int32) (p5 : Int32) (c_aes_rounds : Int32) (c_aes_keys : Nat → Int32) (c_block : Nat → Int32) (c_pad : Nat → Int32) (ca1 : Nat → Int32) (ca4 : Nat → Int32) (c_block' : Nat → Int32) (c_pad' : Nat → Int32) (ca4' : Nat → Int32) (hf : f_X4_cmac n_a1 n_a4 p2 p3 p5 c_aes_rounds c_aes_keys c_block c_pad ca1 ca4 = some (c_block', c_pad', ca4')) : Met l yX4_cmac wsX4_cmac ({ frames := 3, cells := 0, slots := 0, locals := 69 }) (zPc D cy tt sz [.ref h0, .ref ha1, .int p2, .int p3, .ref ha4, .int p5] ([(h0, .inr (6, [.ref h0_aes, .ref h0_block, .ref h0_pad])), (h0_aes, .inr (2, [.ref h0_aes_keys, .int c_aes_rounds])), (h0_aes_keys, .inl (cy 1, 60, .inl c_aes_keys)), (h0_block, .inl (cy 0, 16, .inl c_block)), (h0_pad, .inl (cy 0, 16, .inl c_pad)), (ha1, .inl (cy 0, n_a1, .inl ca1)), (ha4, .inl (cy 0, n_a4, .inl ca4))])) (zQ D none ([(h0, .inr (6, [.ref h0_aes, .ref h0_block, .ref h0_pad])), (h0_aes, .inr (2, [.ref h0_aes_keys, .int c_aes_rounds])), (h0_aes_keys, .inl (cy 1, 60, .inl c_aes_keys)), (h0_block, .inl (cy 0, 16, .inl c_block')), (h0_pad, .inl (cy 0, 16, .inl c_pad')), (ha1, .inl (cy 0, n_a1, .inl ca1)), (ha4, .inl (cy 0, n_a4, .inl ca4'))]) (va_A ([(h0, .inr (6, [.ref h0_aes, .ref h0_block, .ref h0_pad])), (h0_aes, .inr (2, [.ref h0_aes_keys, .int c_aes_rounds])), (h0_aes_keys, .inl (cy 1, 60, .inl c_aes_keys)), (h0_block, .inl (cy 0, 16, .inl c_block)), (h0_pad, .inl (cy 0, 16, .inl c_pad)), (ha1, .inl (cy 0, n_a1, .inl ca1)), (ha4, .inl (cy 0, n_a4, .inl ca4))]) sz)) 0 0 (va_A ([(h0, .inr (6, [.ref h0_aes, .ref h0_block, .ref h0_pad])), (h0_aes, .inr (2, [.ref h0_aes_keys, .int c_aes_rounds])), (h0_aes_keys, .inl (cy 1, 60, .inl c_aes_keys)), (h0_block, .inl (cy 0, 16, .inl c_block)), (h0_pad, .inl (cy 0, 16, .inl c_pad)), (ha1, .inl (cy 0, n_a1, .inl ca1)), (ha4, .inl (cy 0, n_a4, .inl ca4))]) sz) := by
  refine Met.ofW (cc := cX4_cmac) (maxL := 7) (ret := none) (by decide) rfl ?_
  intro p e s m args below meth c s₁ B hml hv
  obtain ⟨rfl, rfl, hP, hD0, hE⟩ := hv
  have hx := B.exec
  have hb := B.bytes
  have hr := B.returns
  have hts := atoms_spec (ws := wsX4_cmac) B.pre
  have hown : s.vm.findClass RX4 = some m.cls := findClass_of_methodNamed B.named
  have hlocks := B.notSynchronized
  clear B
  have hD := hD0.self (sz := s.heap.size)
  generalize hAe : va_A ([(h0, .inr (6, [.ref h0_aes, .ref h0_block, .ref h0_pad])), (h0_aes, .inr (2, [.ref h0_aes_keys, .int c_aes_rounds])), (h0_aes_keys, .inl (cy 1, 60, .inl c_aes_keys)), (h0_block, .inl (cy 0, 16, .inl c_block)), (h0_pad, .inl (cy 0, 16, .inl c_pad)), (ha1, .inl (cy 0, n_a1, .inl ca1)), (ha4, .inl (cy 0, n_a4, .inl ca4))]) s.heap.size = A at hD hE ⊢
  have hA : ∀ q : Nat, s.heap.size ≤ q → A q := fun q h => by rw [← hAe]; exact Or.inr h
  clear hAe hD0
  have hS : va_S A s.heap s.heap [] := va_S.rf
  have hK := hE.1
  have hw0 := hts (.fieldLink RX4 15 "SealedModule$Modes" "pad" "[B") (by decide +kernel)
  have hw1 := hts (.fieldLink RX4 18 "SealedModule$Modes" "aes" "LSealedModule$Aes;") (by decide +kernel)
  have hw2 := hts (.fieldLink RX4 9 "SealedModule$Modes" "block" "[B") (by decide +kernel)
  have hw3 := hts (.initialized RX9) (by decide +kernel)
  have hw4 := hts (.static yX9_xorBytes) (by decide +kernel)
  have hw5 := hts (.methodLink RX4 35 arraycopyName) (by decide +kernel)
  have hw6 := hts (.native arraycopyName) (by decide +kernel)
  have hw7 := hts (.static arraycopyName) (by decide +kernel)
  have hw8 := hts (.initialized "java/lang/System") (by decide +kernel)
  have hcX4 : ∀ w ∈ u_ws RX4 TX4 3, w ∈ wsX4_cmac := (fun _ h => List.mem_cons_of_mem _ (List.mem_append_left _ (List.mem_append_right _ h)))
  have hl := lv_entry ([.ref h0, .ref ha1, .int p2, .int p3, .ref ha4, .int p5]) (n := 7) (Nat.le_of_ble_eq_true rfl)
  rw [lg_entry_eq]
  generalize (lg_sl ([.ref h0, .ref ha1, .int p2, .int p3, .ref ha4, .int p5]) ++ List.replicate (7 - (lg_sl ([.ref h0, .ref ha1, .int p2, .int p3, .ref ha4, .int p5])).length) Slot.unset).toArray = ls at hl ⊢
  replace hl : lv_has ls 7 [(0, .ref h0), (1, .ref ha1), (2, .int p2), (3, .int p3), (4, .ref ha4), (5, .int p5)] := hl
  unfold f_X4_cmac at hf
  refine zgo (fun GW hTo hFr => ?_)
  refine hFr _ _ _ ?_
  obtain ⟨H, hHe⟩ : ∃ H, H = s.heap := ⟨_, rfl⟩
  obtain ⟨locs, hLe⟩ : ∃ L : List Loc, L = [] := ⟨_, rfl⟩
  rw [← hHe] at hP
  replace hS : va_S A s.heap H locs := by rw [hHe, hLe]; exact hS
  refine zat hHe.symm hLe.symm ?_
  clear hHe hLe
  refine lv_aload_n (pc := 0) hx hb (zdt_at zt_X4_cmac_0 0 rfl) rfl (lv_at hl 0 rfl) ?_
  refine va_get (pc := 1) (D := D) (ci := 6) (v := .ref h0_pad) (C := RX4) (T := TX4) (N := 3) hx hb hts hcX4 hown hK hP 0 rfl rfl 2 (by decide) hw0 (fun _ h9 => h9) rfl (zdt_at zt_X4_cmac_0 1 rfl) ?_
  refine lv_iconst (pc := 4) (v := (0 : Int32)) hx hb (zdt_at zt_X4_cmac_0 2 rfl) (by decide) ?_
  replace hf := zb_s hf
  obtain ⟨c_pad_1, hc_, hf⟩ := hf
  refine zcn2 (pc := 5) (rv := none) (va_runS (As := [.ref h0_pad, .int (0 : Int32)]) (rest := []) ⟨hx, hb, hml, hown, hts⟩ (c_J7_fill_031fb l D cy tt H.size h0_pad 16 (0 : Int32) c_pad c_pad_1 hc_) (va_cwS 2 hts gX4_cmac_J7_fill_031fb rfl rfl rfl (by decide +kernel) ⟨Nat.le_of_ble_eq_true rfl, Nat.le_of_ble_eq_true rfl⟩) ⟨zblind, zpre hE hS (hP.sub [4] rfl) (hD.sub [4] (by decide) rfl) (va_free hD hS hA [4] rfl)⟩ rfl rfl hl.1 rfl (lv_room (Nat.le_of_ble_eq_true rfl)) (zdt_at zt_X4_cmac_0 3 rfl) ⟨Nat.zero_le _, Nat.zero_le _⟩) hS hP hD (va_free hD hS hA [4] rfl) [4] rfl (by decide) rfl ?_
  clear hP hD hS hc_
  intro H locs hP hD hS
  replace hP : va_P D vwCl ([(h0, .inr (6, [.ref h0_aes, .ref h0_block, .ref h0_pad])), (h0_aes, .inr (2, [.ref h0_aes_keys, .int c_aes_rounds])), (h0_aes_keys, .inl (cy 1, 60, .inl c_aes_keys)), (h0_block, .inl (cy 0, 16, .inl c_block)), (h0_pad, .inl (cy 0, 16, .inl c_pad_1)), (ha1, .inl (cy 0, n_a1, .inl ca1)), (ha4, .inl (cy 0, n_a4, .inl ca4))]) H := hP
  replace hD : va_D A ([(h0, .inr (6, [.ref h0_aes, .ref h0_block, .ref h0_pad])), (h0_aes, .inr (2, [.ref h0_aes_keys, .int c_aes_rounds])), (h0_aes_keys, .inl (cy 1, 60, .inl c_aes_keys)), (h0_block, .inl (cy 0, 16, .inl c_block)), (h0_pad, .inl (cy 0, 16, .inl c_pad_1)), (ha1, .inl (cy 0, n_a1, .inl ca1)), (ha4, .inl (cy 0, n_a4, .inl ca4))]) := hD
  refine W.eq (g2 := F0 m 8 ls []) rfl ?_
  refine lv_aload_n (pc := 8) hx hb (zdt_at zt_X4_cmac_0 4 rfl) rfl (lv_at hl 0 rfl) ?_
  refine va_get (pc := 9) (D := D) (ci := 6) (v := .ref h0_aes) (C := RX4) (T := TX4) (N := 3) hx hb hts hcX4 hown hK hP 0 rfl rfl 0 (by decide) hw1 (fun _ h9 => h9) rfl (zdt_at zt_X4_cmac_0 5 rfl) ?_
  refine lv_aload_n (pc := 12) hx hb (zdt_at zt_X4_cmac_0 6 rfl) rfl (lv_at hl 0 rfl) ?_
  refine va_get (pc := 13) (D := D) (ci := 6) (v := .ref h0_pad) (C := RX4) (T := TX4) (N := 3) hx hb hts hcX4 hown hK hP 0 rfl rfl 2 (by decide) hw0 (fun _ h9 => h9) rfl (zdt_at zt_X4_cmac_0 7 rfl) ?_
  refine lv_iconst (pc := 16) (v := (0 : Int32)) hx hb (zdt_at zt_X4_cmac_0 8 rfl) (by decide) ?_
  replace hf := zb_s hf
  obtain ⟨c_pad_2, hc_, hf⟩ := hf
  refine zcn2 (pc := 17) (rv := none) (va_runV (As := [.ref h0_pad, .int (0 : Int32)]) (rest := []) ⟨hx, hb, hml, hown, hts⟩ (c_X0_encrypt l D cy tt H.size h0_aes h0_aes_keys h0_pad 16 (0 : Int32) c_aes_rounds c_aes_keys c_pad_1 c_pad_2 hc_) (cwV 2 hts gX4_cmac_X0_encrypt rfl rfl rfl (by decide +kernel) ⟨Nat.le_of_ble_eq_true rfl, Nat.le_of_ble_eq_true rfl⟩) ⟨zblind, va_recv hK hP (ci := 2) (q0 := 1) rfl rfl, zpre hE hS (hP.sub [1, 2, 4] rfl) (hD.sub [1, 2, 4] (by decide) rfl) (va_free hD hS hA [1, 2, 4] rfl)⟩ rfl rfl hl.1 rfl (lv_room (Nat.le_of_ble_eq_true rfl)) (zdt_at zt_X4_cmac_0 9 rfl) ⟨Nat.zero_le _, Nat.zero_le _⟩) hS hP hD (va_free hD hS hA [1, 2, 4] rfl) [1, 2, 4] rfl (by decide) rfl ?_
  clear hP hD hS hc_
  intro H locs hP hD hS
  replace hP : va_P D vwCl ([(h0, .inr (6, [.ref h0_aes, .ref h0_block, .ref h0_pad])), (h0_aes, .inr (2, [.ref h0_aes_keys, .int c_aes_rounds])), (h0_aes_keys, .inl (cy 1, 60, .inl c_aes_keys)), (h0_block, .inl (cy 0, 16, .inl c_block)), (h0_pad, .inl (cy 0, 16, .inl c_pad_2)), (ha1, .inl (cy 0, n_a1, .inl ca1)), (ha4, .inl (cy 0, n_a4, .inl ca4))]) H := hP
  replace hD : va_D A ([(h0, .inr (6, [.ref h0_aes, .ref h0_block, .ref h0_pad])), (h0_aes, .inr (2, [.ref h0_aes_keys, .int c_aes_rounds])), (h0_aes_keys, .inl (cy 1, 60, .inl c_aes_keys)), (h0_block, .inl (cy 0, 16, .inl c_block)), (h0_pad, .inl (cy 0, 16, .inl c_pad_2)), (ha1, .inl (cy 0, n_a1, .inl ca1)), (ha4, .inl (cy 0, n_a4, .inl ca4))]) := hD
  refine W.eq (g2 := F0 m 20 ls []) rfl ?_
  refine lv_aload_n (pc := 20) hx hb (zdt_at zt_X4_cmac_0 10 rfl) rfl (lv_at hl 0 rfl) ?_
  replace hf := zb_s hf
  obtain ⟨c_pad_3, hc_, hf⟩ := hf
  refine zcn2 (pc := 21) (rv := none) (va_runV (As := []) (rest := []) ⟨hx, hb, hml, hown, hts⟩ (c_X4_doublePad l D cy tt H.size h0 h0_aes h0_block h0_pad c_pad_2 c_pad_3 hc_) (cwV 0 hts gX4_cmac_X4_doublePad rfl rfl rfl (by decide +kernel) ⟨Nat.le_of_ble_eq_true rfl, Nat.le_of_ble_eq_true rfl⟩) ⟨zblind, va_recv hK hP (ci := 6) (q0 := 0) rfl rfl, zpre hE hS (hP.sub [0, 4] rfl) (hD.sub [0, 4] (by decide) rfl) (va_free hD hS hA [0, 4] rfl)⟩ rfl rfl hl.1 rfl (lv_room (Nat.le_of_ble_eq_true rfl)) (zdt_at zt_X4_cmac_0 11 rfl) ⟨Nat.zero_le _, Nat.zero_le _⟩) hS hP hD (va_free hD hS hA [0, 4] rfl) [0, 4] rfl (by decide) rfl ?_
  clear hP hD hS hc_
  intro H locs hP hD hS
  replace hP : va_P D vwCl ([(h0, .inr (6, [.ref h0_aes, .ref h0_block, .ref h0_pad])), (h0_aes, .inr (2, [.ref h0_aes_keys, .int c_aes_rounds])), (h0_aes_keys, .inl (cy 1, 60, .inl c_aes_keys)), (h0_block, .inl (cy 0, 16, .inl c_block)), (h0_pad, .inl (cy 0, 16, .inl c_pad_3)), (ha1, .inl (cy 0, n_a1, .inl ca1)), (ha4, .inl (cy 0, n_a4, .inl ca4))]) H := hP
  replace hD : va_D A ([(h0, .inr (6, [.ref h0_aes, .ref h0_block, .ref h0_pad])), (h0_aes, .inr (2, [.ref h0_aes_keys, .int c_aes_rounds])), (h0_aes_keys, .inl (cy 1, 60, .inl c_aes_keys)), (h0_block, .inl (cy 0, 16, .inl c_block)), (h0_pad, .inl (cy 0, 16, .inl c_pad_3)), (ha1, .inl (cy 0, n_a1, .inl ca1)), (ha4, .inl (cy 0, n_a4, .inl ca4))]) := hD
  refine W.eq (g2 := F0 m 24 ls []) rfl ?_
  refine lv_aload_n (pc := 24) hx hb (zdt_at zt_X4_cmac_0 12 rfl) rfl (lv_at hl 0 rfl) ?_
  refine va_get (pc := 25) (D := D) (ci := 6) (v := .ref h0_block) (C := RX4) (T := TX4) (N := 3) hx hb hts hcX4 hown hK hP 0 rfl rfl 1 (by decide) hw2 (fun _ h9 => h9) rfl (zdt_at zt_X4_cmac_0 13 rfl) ?_
  refine lv_iconst (pc := 28) (v := (0 : Int32)) hx hb (zdt_at zt_X4_cmac_0 14 rfl) (by decide) ?_
  replace hf := zb_s hf
  obtain ⟨c_block_4, hc_, hf⟩ := hf
  refine zcn2 (pc := 29) (rv := none) (va_runS (As := [.ref h0_block, .int (0 : Int32)]) (rest := []) ⟨hx, hb, hml, hown, hts⟩ (c_J7_fill_031fb l D cy tt H.size h0_block 16 (0 : Int32) c_block c_block_4 hc_) (va_cwS 2 hts gX4_cmac_J7_fill_031fb rfl rfl rfl (by decide +kernel) ⟨Nat.le_of_ble_eq_true rfl, Nat.le_of_ble_eq_true rfl⟩) ⟨zblind, zpre hE hS (hP.sub [3] rfl) (hD.sub [3] (by decide) rfl) (va_free hD hS hA [3] rfl)⟩ rfl rfl hl.1 rfl (lv_room (Nat.le_of_ble_eq_true rfl)) (zdt_at zt_X4_cmac_0 15 rfl) ⟨Nat.zero_le _, Nat.zero_le _⟩) hS hP hD (va_free hD hS hA [3] rfl) [3] rfl (by decide) rfl ?_
  clear hP hD hS hc_
  intro H locs hP hD hS
  replace hP : va_P D vwCl ([(h0, .inr (6, [.ref h0_aes, .ref h0_block, .ref h0_pad])), (h0_aes, .inr (2, [.ref h0_aes_keys, .int c_aes_rounds])), (h0_aes_keys, .inl (cy 1, 60, .inl c_aes_keys)), (h0_block, .inl (cy 0, 16, .inl c_block_4)), (h0_pad, .inl (cy 0, 16, .inl c_pad_3)), (ha1, .inl (cy 0, n_a1, .inl ca1)), (ha4, .inl (cy 0, n_a4, .inl ca4))]) H := hP
  replace hD : va_D A ([(h0, .inr (6, [.ref h0_aes, .ref h0_block, .ref h0_pad])), (h0_aes, .inr (2, [.ref h0_aes_keys, .int c_aes_rounds])), (h0_aes_keys, .inl (cy 1, 60, .inl c_aes_keys)), (h0_block, .inl (cy 0, 16, .inl c_block_4)), (h0_pad, .inl (cy 0, 16, .inl c_pad_3)), (ha1, .inl (cy 0, n_a1, .inl ca1)), (ha4, .inl (cy 0, n_a4, .inl ca4))]) := hD
  refine W.eq (g2 := F0 m 32 ls []) rfl ?_
  refine lv_iconst (pc := 32) (v := (0 : Int32)) hx hb (zdt_at zt_X4_cmac_0 16 rfl) (by decide) ?_
  refine lv_istore (pc := 33) (lv' := [(6, .int (0 : Int32)), (0, .ref h0), (1, .ref ha1), (2, .int p2), (3, .int p3), (4, .ref ha4), (5, .int p5)]) hx hb (zdt_at zt_X4_cmac_0 17 rfl) hl (by decide) rfl ?_
  clear hl
  intro ls hl
  replace hf := zj_s hf
  obtain ⟨K_9, eK_9, hf⟩ := hf
  have kK_9 : ∀ (v_7 : Int32) (c_block_8 : Nat → Int32) (H : Heap) (locs : List Loc) (ls : Array Slot), va_P D vwCl ([(h0, .inr (6, [.ref h0_aes, .ref h0_block, .ref h0_pad])), (h0_aes, .inr (2, [.ref h0_aes_keys, .int c_aes_rounds])), (h0_aes_keys, .inl (cy 1, 60, .inl c_aes_keys)), (h0_block, .inl (cy 0, 16, .inl c_block_8)), (h0_pad, .inl (cy 0, 16, .inl c_pad_3)), (ha1, .inl (cy 0, n_a1, .inl ca1)), (ha4, .inl (cy 0, n_a4, .inl ca4))]) H → va_D A ([(h0, .inr (6, [.ref h0_aes, .ref h0_block, .ref h0_pad])), (h0_aes, .inr (2, [.ref h0_aes_keys, .int c_aes_rounds])), (h0_aes_keys, .inl (cy 1, 60, .inl c_aes_keys)), (h0_block, .inl (cy 0, 16, .inl c_block_8)), (h0_pad, .inl (cy 0, 16, .inl c_pad_3)), (ha1, .inl (cy 0, n_a1, .inl ca1)), (ha4, .inl (cy 0, n_a4, .inl ca4))]) → va_S A s.heap H locs → lv_has ls 7 [(0, .ref h0), (1, .ref ha1), (2, .int p2), (3, .int p3), (4, .ref ha4), (5, .int p5), (6, .int v_7)] → K_9 v_7 c_block_8 = some (c_block', c_pad', ca4') → GW H locs (F0 m 77 ls []) := by
    clear hf hl hP hD hS
    intro v_7 c_block_8 H locs ls hP hD hS hl hf
    rw [eK_9] at hf
    clear eK_9
    refine hFr _ _ _ ?_
    refine lv_aload_n (pc := 77) hx hb (zdt_at zt_X4_cmac_0 40 rfl) rfl (lv_at hl 1 rfl) ?_
    refine lv_iload_n (pc := 78) hx hb (zdt_at zt_X4_cmac_0 41 rfl) rfl (lv_at hl 2 rfl) ?_
    refine lv_iload (pc := 79) hx hb (zdt_at zt_X4_cmac_0 42 rfl) (lv_at hl 6 rfl) ?_
    refine lv_iadd (pc := 81) hx hb (zdt_at zt_X4_cmac_0 43 rfl) ?_
    refine lv_aload_n (pc := 82) hx hb (zdt_at zt_X4_cmac_0 44 rfl) rfl (lv_at hl 0 rfl) ?_
    refine va_get (pc := 83) (D := D) (ci := 6) (v := .ref h0_block) (C := RX4) (T := TX4) (N := 3) hx hb hts hcX4 hown hK hP 0 rfl rfl 1 (by decide) hw2 (fun _ h9 => h9) rfl (zdt_at zt_X4_cmac_0 45 rfl) ?_
    refine lv_iconst (pc := 86) (v := (0 : Int32)) hx hb (zdt_at zt_X4_cmac_0 46 rfl) (by decide) ?_
    refine lv_iload_n (pc := 87) hx hb (zdt_at zt_X4_cmac_0 47 rfl) rfl (lv_at hl 3 rfl) ?_
    refine lv_iload (pc := 88) hx hb (zdt_at zt_X4_cmac_0 48 rfl) (lv_at hl 6 rfl) ?_
    refine lv_isub (pc := 90) hx hb (zdt_at zt_X4_cmac_0 49 rfl) ?_
    replace hf := zb_s hf
    obtain ⟨c_block_10, hc_, hf⟩ := hf
    refine zcn2 (pc := 91) (rv := none) (va_runSN (As := [.ref ha1, .int (p2 + v_7), .ref h0_block, .int (0 : Int32), .int (p3 - v_7)]) (rest := []) ⟨hx, hb, hml, hown, hts⟩ (c_X9_xorBytes l D cy tt H.size ha1 h0_block n_a1 16 (p2 + v_7) (0 : Int32) (p3 - v_7) ca1 c_block_8 c_block_10 hc_) ⟨va_cnB 5 hts gX4_cmac_X9_xorBytes_n31 rfl rfl rfl (gNs_7 hE.2.1) hw3 (by decide +kernel) ⟨Nat.le_of_ble_eq_true rfl, Nat.le_of_ble_eq_true rfl⟩, hw4, trivial⟩ ⟨zblind, zpre hE hS (hP.sub [5, 3] rfl) (hD.sub [5, 3] (by decide) rfl) (va_free hD hS hA [5, 3] rfl)⟩ rfl rfl hl.1 rfl (lv_room (Nat.le_of_ble_eq_true rfl)) (zdt_at zt_X4_cmac_0 50 rfl) ⟨Nat.zero_le _, Nat.zero_le _⟩) hS hP hD (va_free hD hS hA [5, 3] rfl) [5, 3] rfl (by decide) rfl ?_
    clear hP hD hS hc_
    intro H locs hP hD hS
    replace hP : va_P D vwCl ([(h0, .inr (6, [.ref h0_aes, .ref h0_block, .ref h0_pad])), (h0_aes, .inr (2, [.ref h0_aes_keys, .int c_aes_rounds])), (h0_aes_keys, .inl (cy 1, 60, .inl c_aes_keys)), (h0_block, .inl (cy 0, 16, .inl c_block_10)), (h0_pad, .inl (cy 0, 16, .inl c_pad_3)), (ha1, .inl (cy 0, n_a1, .inl ca1)), (ha4, .inl (cy 0, n_a4, .inl ca4))]) H := hP
    replace hD : va_D A ([(h0, .inr (6, [.ref h0_aes, .ref h0_block, .ref h0_pad])), (h0_aes, .inr (2, [.ref h0_aes_keys, .int c_aes_rounds])), (h0_aes_keys, .inl (cy 1, 60, .inl c_aes_keys)), (h0_block, .inl (cy 0, 16, .inl c_block_10)), (h0_pad, .inl (cy 0, 16, .inl c_pad_3)), (ha1, .inl (cy 0, n_a1, .inl ca1)), (ha4, .inl (cy 0, n_a4, .inl ca4))]) := hD
    refine W.eq (g2 := F0 m 94 ls []) rfl ?_
    refine lv_iload_n (pc := 94) hx hb (zdt_at zt_X4_cmac_0 51 rfl) rfl (lv_at hl 3 rfl) ?_
    refine lv_iload (pc := 95) hx hb (zdt_at zt_X4_cmac_0 52 rfl) (lv_at hl 6 rfl) ?_
    refine lv_isub (pc := 97) hx hb (zdt_at zt_X4_cmac_0 53 rfl) ?_
    refine lv_bipush (pc := 98) (v := (16 : Int32)) hx hb (zdt_at zt_X4_cmac_0 54 rfl) (by decide) ?_
    replace hf := zj_s hf
    obtain ⟨K_13, eK_13, hf⟩ := hf
    have kK_13 : ∀ (c_block_11 : Nat → Int32) (c_pad_12 : Nat → Int32) (H : Heap) (locs : List Loc) (ls : Array Slot), va_P D vwCl ([(h0, .inr (6, [.ref h0_aes, .ref h0_block, .ref h0_pad])), (h0_aes, .inr (2, [.ref h0_aes_keys, .int c_aes_rounds])), (h0_aes_keys, .inl (cy 1, 60, .inl c_aes_keys)), (h0_block, .inl (cy 0, 16, .inl c_block_11)), (h0_pad, .inl (cy 0, 16, .inl c_pad_12)), (ha1, .inl (cy 0, n_a1, .inl ca1)), (ha4, .inl (cy 0, n_a4, .inl ca4))]) H → va_D A ([(h0, .inr (6, [.ref h0_aes, .ref h0_block, .ref h0_pad])), (h0_aes, .inr (2, [.ref h0_aes_keys, .int c_aes_rounds])), (h0_aes_keys, .inl (cy 1, 60, .inl c_aes_keys)), (h0_block, .inl (cy 0, 16, .inl c_block_11)), (h0_pad, .inl (cy 0, 16, .inl c_pad_12)), (ha1, .inl (cy 0, n_a1, .inl ca1)), (ha4, .inl (cy 0, n_a4, .inl ca4))]) → va_S A s.heap H locs → lv_has ls 7 [(0, .ref h0), (4, .ref ha4), (5, .int p5)] → K_13 c_block_11 c_pad_12 = some (c_block', c_pad', ca4') → GW H locs (F0 m 122 ls []) := by
      clear hf hl hP hD hS
      intro c_block_11 c_pad_12 H locs ls hP hD hS hl hf
      rw [eK_13] at hf
      clear eK_13
      refine hFr _ _ _ ?_
      refine lv_aload_n (pc := 122) hx hb (zdt_at zt_X4_cmac_1 5 rfl) rfl (lv_at hl 0 rfl) ?_
      refine va_get (pc := 123) (D := D) (ci := 6) (v := .ref h0_pad) (C := RX4) (T := TX4) (N := 3) hx hb hts hcX4 hown hK hP 0 rfl rfl 2 (by decide) hw0 (fun _ h9 => h9) rfl (zdt_at zt_X4_cmac_1 6 rfl) ?_
      refine lv_iconst (pc := 126) (v := (0 : Int32)) hx hb (zdt_at zt_X4_cmac_1 7 rfl) (by decide) ?_
      refine lv_aload_n (pc := 127) hx hb (zdt_at zt_X4_cmac_1 8 rfl) rfl (lv_at hl 0 rfl) ?_
      refine va_get (pc := 128) (D := D) (ci := 6) (v := .ref h0_block) (C := RX4) (T := TX4) (N := 3) hx hb hts hcX4 hown hK hP 0 rfl rfl 1 (by decide) hw2 (fun _ h9 => h9) rfl (zdt_at zt_X4_cmac_1 9 rfl) ?_
      refine lv_iconst (pc := 131) (v := (0 : Int32)) hx hb (zdt_at zt_X4_cmac_1 10 rfl) (by decide) ?_
      refine lv_bipush (pc := 132) (v := (16 : Int32)) hx hb (zdt_at zt_X4_cmac_1 11 rfl) (by decide) ?_
      replace hf := zb_s hf
      obtain ⟨c_block_14, hc_, hf⟩ := hf
      refine zcn2 (pc := 134) (rv := none) (va_runSN (As := [.ref h0_pad, .int (0 : Int32), .ref h0_block, .int (0 : Int32), .int (16 : Int32)]) (rest := []) ⟨hx, hb, hml, hown, hts⟩ (c_X9_xorBytes l D cy tt H.size h0_pad h0_block 16 16 (0 : Int32) (0 : Int32) (16 : Int32) c_pad_12 c_block_11 c_block_14 hc_) ⟨va_cnB 5 hts gX4_cmac_X9_xorBytes_n31 rfl rfl rfl (gNs_7 hE.2.1) hw3 (by decide +kernel) ⟨Nat.le_of_ble_eq_true rfl, Nat.le_of_ble_eq_true rfl⟩, hw4, trivial⟩ ⟨zblind, zpre hE hS (hP.sub [4, 3] rfl) (hD.sub [4, 3] (by decide) rfl) (va_free hD hS hA [4, 3] rfl)⟩ rfl rfl hl.1 rfl (lv_room (Nat.le_of_ble_eq_true rfl)) (zdt_at zt_X4_cmac_1 12 rfl) ⟨Nat.zero_le _, Nat.zero_le _⟩) hS hP hD (va_free hD hS hA [4, 3] rfl) [4, 3] rfl (by decide) rfl ?_
      clear hP hD hS hc_
      intro H locs hP hD hS
      replace hP : va_P D vwCl ([(h0, .inr (6, [.ref h0_aes, .ref h0_block, .ref h0_pad])), (h0_aes, .inr (2, [.ref h0_aes_keys, .int c_aes_rounds])), (h0_aes_keys, .inl (cy 1, 60, .inl c_aes_keys)), (h0_block, .inl (cy 0, 16, .inl c_block_14)), (h0_pad, .inl (cy 0, 16, .inl c_pad_12)), (ha1, .inl (cy 0, n_a1, .inl ca1)), (ha4, .inl (cy 0, n_a4, .inl ca4))]) H := hP
      replace hD : va_D A ([(h0, .inr (6, [.ref h0_aes, .ref h0_block, .ref h0_pad])), (h0_aes, .inr (2, [.ref h0_aes_keys, .int c_aes_rounds])), (h0_aes_keys, .inl (cy 1, 60, .inl c_aes_keys)), (h0_block, .inl (cy 0, 16, .inl c_block_14)), (h0_pad, .inl (cy 0, 16, .inl c_pad_12)), (ha1, .inl (cy 0, n_a1, .inl ca1)), (ha4, .inl (cy 0, n_a4, .inl ca4))]) := hD
      refine W.eq (g2 := F0 m 137 ls []) rfl ?_
      refine lv_aload_n (pc := 137) hx hb (zdt_at zt_X4_cmac_1 13 rfl) rfl (lv_at hl 0 rfl) ?_
      refine va_get (pc := 138) (D := D) (ci := 6) (v := .ref h0_aes) (C := RX4) (T := TX4) (N := 3) hx hb hts hcX4 hown hK hP 0 rfl rfl 0 (by decide) hw1 (fun _ h9 => h9) rfl (zdt_at zt_X4_cmac_1 14 rfl) ?_
      refine lv_aload_n (pc := 141) hx hb (zdt_at zt_X4_cmac_1 15 rfl) rfl (lv_at hl 0 rfl) ?_
      refine va_get (pc := 142) (D := D) (ci := 6) (v := .ref h0_block) (C := RX4) (T := TX4) (N := 3) hx hb hts hcX4 hown hK hP 0 rfl rfl 1 (by decide) hw2 (fun _ h9 => h9) rfl (zdt_at zt_X4_cmac_1 16 rfl) ?_
      refine lv_iconst (pc := 145) (v := (0 : Int32)) hx hb (zdt_at zt_X4_cmac_1 17 rfl) (by decide) ?_
      replace hf := zb_s hf
      obtain ⟨c_block_15, hc_, hf⟩ := hf
      refine zcn2 (pc := 146) (rv := none) (va_runV (As := [.ref h0_block, .int (0 : Int32)]) (rest := []) ⟨hx, hb, hml, hown, hts⟩ (c_X0_encrypt l D cy tt H.size h0_aes h0_aes_keys h0_block 16 (0 : Int32) c_aes_rounds c_aes_keys c_block_14 c_block_15 hc_) (cwV 2 hts gX4_cmac_X0_encrypt rfl rfl rfl (by decide +kernel) ⟨Nat.le_of_ble_eq_true rfl, Nat.le_of_ble_eq_true rfl⟩) ⟨zblind, va_recv hK hP (ci := 2) (q0 := 1) rfl rfl, zpre hE hS (hP.sub [1, 2, 3] rfl) (hD.sub [1, 2, 3] (by decide) rfl) (va_free hD hS hA [1, 2, 3] rfl)⟩ rfl rfl hl.1 rfl (lv_room (Nat.le_of_ble_eq_true rfl)) (zdt_at zt_X4_cmac_1 18 rfl) ⟨Nat.zero_le _, Nat.zero_le _⟩) hS hP hD (va_free hD hS hA [1, 2, 3] rfl) [1, 2, 3] rfl (by decide) rfl ?_
      clear hP hD hS hc_
      intro H locs hP hD hS
      replace hP : va_P D vwCl ([(h0, .inr (6, [.ref h0_aes, .ref h0_block, .ref h0_pad])), (h0_aes, .inr (2, [.ref h0_aes_keys, .int c_aes_rounds])), (h0_aes_keys, .inl (cy 1, 60, .inl c_aes_keys)), (h0_block, .inl (cy 0, 16, .inl c_block_15)), (h0_pad, .inl (cy 0, 16, .inl c_pad_12)), (ha1, .inl (cy 0, n_a1, .inl ca1)), (ha4, .inl (cy 0, n_a4, .inl ca4))]) H := hP
      replace hD : va_D A ([(h0, .inr (6, [.ref h0_aes, .ref h0_block, .ref h0_pad])), (h0_aes, .inr (2, [.ref h0_aes_keys, .int c_aes_rounds])), (h0_aes_keys, .inl (cy 1, 60, .inl c_aes_keys)), (h0_block, .inl (cy 0, 16, .inl c_block_15)), (h0_pad, .inl (cy 0, 16, .inl c_pad_12)), (ha1, .inl (cy 0, n_a1, .inl ca1)), (ha4, .inl (cy 0, n_a4, .inl ca4))]) := hD
      refine W.eq (g2 := F0 m 149 ls []) rfl ?_
      refine lv_aload_n (pc := 149) hx hb (zdt_at zt_X4_cmac_1 19 rfl) rfl (lv_at hl 0 rfl) ?_
      refine va_get (pc := 150) (D := D) (ci := 6) (v := .ref h0_block) (C := RX4) (T := TX4) (N := 3) hx hb hts hcX4 hown hK hP 0 rfl rfl 1 (by decide) hw2 (fun _ h9 => h9) rfl (zdt_at zt_X4_cmac_1 20 rfl) ?_
      refine lv_iconst (pc := 153) (v := (0 : Int32)) hx hb (zdt_at zt_X4_cmac_1 21 rfl) (by decide) ?_
      refine lv_aload (pc := 154) hx hb (zdt_at zt_X4_cmac_1 22 rfl) (lv_at hl 1 rfl) ?_
      refine lv_iload (pc := 156) hx hb (zdt_at zt_X4_cmac_1 23 rfl) (lv_at hl 2 rfl) ?_
      refine lv_bipush (pc := 158) (v := (16 : Int32)) hx hb (zdt_at zt_X4_cmac_1 24 rfl) (by decide) ?_
      replace hf := zk_s hf
      refine va_copyi (pc := 160) hx hb (hml.trans hl.1.symm) hown hw5 hw6 hw7 hw8 hK hP hD hS 3 6 0 0 rfl rfl rfl rfl rfl hf.1.1 hf.1.2.1 hf.1.2.2.1 hf.1.2.2.2.1 hf.1.2.2.2.2.1 hf.1.2.2.2.2.2 (Nat.le_of_ble_eq_true rfl) (Nat.le_of_ble_eq_true rfl) (zdt_at zt_X4_cmac_1 25 rfl) ?_
      replace hf := hf.2
      clear hP hD hS
      intro H locs hP hD hS
      obtain ⟨ca4_16, e_⟩ : ∃ q : Nat → Int32, q = (va_cpy c_block_15 ca4 (0 : Int32).toNatClampNeg p5.toNatClampNeg (16 : Int32).toNatClampNeg) := ⟨_, rfl⟩
      replace hf := zn_s hf e_
      replace hP : va_P D vwCl ([(h0, .inr (6, [.ref h0_aes, .ref h0_block, .ref h0_pad])), (h0_aes, .inr (2, [.ref h0_aes_keys, .int c_aes_rounds])), (h0_aes_keys, .inl (cy 1, 60, .inl c_aes_keys)), (h0_block, .inl (cy 0, 16, .inl c_block_15)), (h0_pad, .inl (cy 0, 16, .inl c_pad_12)), (ha1, .inl (cy 0, n_a1, .inl ca1)), (ha4, .inl (cy 0, n_a4, .inl ca4_16))]) H := by rw [e_]; exact hP
      replace hD : va_D A ([(h0, .inr (6, [.ref h0_aes, .ref h0_block, .ref h0_pad])), (h0_aes, .inr (2, [.ref h0_aes_keys, .int c_aes_rounds])), (h0_aes_keys, .inl (cy 1, 60, .inl c_aes_keys)), (h0_block, .inl (cy 0, 16, .inl c_block_15)), (h0_pad, .inl (cy 0, 16, .inl c_pad_12)), (ha1, .inl (cy 0, n_a1, .inl ca1)), (ha4, .inl (cy 0, n_a4, .inl ca4_16))]) := by rw [e_]; exact hD
      clear e_
      cases hf
      exact W.vret (pc := 163) hx hb hr (fun t ht hW => ⟨rfl, ⟨by rw [ht]; exact hP, hD⟩, hS.F ht⟩) hS.2.2 (zdt_at zt_X4_cmac_1 26 rfl)
    clear eK_13
    refine lv_icmp_ge (pc := 100) (tgt := 122) hx hb (zdt_at zt_X4_cmac_0 55 rfl) (by decide) (fun cn_ => ?t_17) (fun cn_ => ?f_18)
    case t_17 =>
      replace hf := zt_s cn_ hf
      clear cn_
      exact hTo _ _ _ (kK_13 _ _ H locs ls hP hD hS (lv_sub hl [0, 4, 5] rfl) hf)
    replace hf := ze_s cn_ hf
    clear cn_
    refine lv_aload_n (pc := 103) hx hb (zdt_at zt_X4_cmac_0 56 rfl) rfl (lv_at hl 0 rfl) ?_
    replace hf := zb_s hf
    obtain ⟨c_pad_19, hc_, hf⟩ := hf
    refine zcn2 (pc := 104) (rv := none) (va_runV (As := []) (rest := []) ⟨hx, hb, hml, hown, hts⟩ (c_X4_doublePad l D cy tt H.size h0 h0_aes h0_block h0_pad c_pad_3 c_pad_19 hc_) (cwV 0 hts gX4_cmac_X4_doublePad rfl rfl rfl (by decide +kernel) ⟨Nat.le_of_ble_eq_true rfl, Nat.le_of_ble_eq_true rfl⟩) ⟨zblind, va_recv hK hP (ci := 6) (q0 := 0) rfl rfl, zpre hE hS (hP.sub [0, 4] rfl) (hD.sub [0, 4] (by decide) rfl) (va_free hD hS hA [0, 4] rfl)⟩ rfl rfl hl.1 rfl (lv_room (Nat.le_of_ble_eq_true rfl)) (zdt_at zt_X4_cmac_0 57 rfl) ⟨Nat.zero_le _, Nat.zero_le _⟩) hS hP hD (va_free hD hS hA [0, 4] rfl) [0, 4] rfl (by decide) rfl ?_
    clear hP hD hS hc_
    intro H locs hP hD hS
    replace hP : va_P D vwCl ([(h0, .inr (6, [.ref h0_aes, .ref h0_block, .ref h0_pad])), (h0_aes, .inr (2, [.ref h0_aes_keys, .int c_aes_rounds])), (h0_aes_keys, .inl (cy 1, 60, .inl c_aes_keys)), (h0_block, .inl (cy 0, 16, .inl c_block_10)), (h0_pad, .inl (cy 0, 16, .inl c_pad_19)), (ha1, .inl (cy 0, n_a1, .inl ca1)), (ha4, .inl (cy 0, n_a4, .inl ca4))]) H := hP
    replace hD : va_D A ([(h0, .inr (6, [.ref h0_aes, .ref h0_block, .ref h0_pad])), (h0_aes, .inr (2, [.ref h0_aes_keys, .int c_aes_rounds])), (h0_aes_keys, .inl (cy 1, 60, .inl c_aes_keys)), (h0_block, .inl (cy 0, 16, .inl c_block_10)), (h0_pad, .inl (cy 0, 16, .inl c_pad_19)), (ha1, .inl (cy 0, n_a1, .inl ca1)), (ha4, .inl (cy 0, n_a4, .inl ca4))]) := hD
    refine W.eq (g2 := F0 m 107 ls []) rfl ?_
    refine lv_aload_n (pc := 107) hx hb (zdt_at zt_X4_cmac_0 58 rfl) rfl (lv_at hl 0 rfl) ?_
    refine va_get (pc := 108) (D := D) (ci := 6) (v := .ref h0_block) (C := RX4) (T := TX4) (N := 3) hx hb hts hcX4 hown hK hP 0 rfl rfl 1 (by decide) hw2 (fun _ h9 => h9) rfl (zdt_at zt_X4_cmac_0 59 rfl) ?_
    refine lv_iload_n (pc := 111) hx hb (zdt_at zt_X4_cmac_0 60 rfl) rfl (lv_at hl 3 rfl) ?_
    refine lv_iload (pc := 112) hx hb (zdt_at zt_X4_cmac_0 61 rfl) (lv_at hl 6 rfl) ?_
    refine lv_isub (pc := 114) hx hb (zdt_at zt_X4_cmac_0 62 rfl) ?_
    refine lv_dup2_11 (pc := 115) hx hb (zdt_at zt_X4_cmac_0 63 rfl) rfl rfl ?_
    replace hf := zk_s hf
    refine va_bald (pc := 116) hx hb hK hP 3 0 rfl rfl hf.1 (zdt_at zt_X4_cmac_1 0 rfl) ?_
    replace hf := hf.2
    refine lv_bipush (pc := 117) (v := (-128 : Int32)) hx hb (zdt_at zt_X4_cmac_1 1 rfl) (by decide) ?_
    refine lv_ixor (pc := 119) hx hb (zdt_at zt_X4_cmac_1 2 rfl) ?_
    refine lv_i2b (pc := 120) hx hb (zdt_at zt_X4_cmac_1 3 rfl) rfl ?_
    replace hf := zk_s hf
    refine va_bast (pc := 121) hx hb hK hP hD hS 3 0 rfl rfl hf.1 (zdt_at zt_X4_cmac_1 4 rfl) ?_
    replace hf := hf.2
    clear hP hD hS
    intro H locs hP hD hS
    obtain ⟨c_block_20, e_⟩ : ∃ q : Nat → Int32, q = (upd c_block_10 (p3 - v_7).toNatClampNeg (vp_nar .byte (((c_block_10 (p3 - v_7).toNatClampNeg) ^^^ (-128 : Int32)).toInt8.toInt32))) := ⟨_, rfl⟩
    replace hf := zn_s hf e_
    replace hP : va_P D vwCl ([(h0, .inr (6, [.ref h0_aes, .ref h0_block, .ref h0_pad])), (h0_aes, .inr (2, [.ref h0_aes_keys, .int c_aes_rounds])), (h0_aes_keys, .inl (cy 1, 60, .inl c_aes_keys)), (h0_block, .inl (cy 0, 16, .inl c_block_20)), (h0_pad, .inl (cy 0, 16, .inl c_pad_19)), (ha1, .inl (cy 0, n_a1, .inl ca1)), (ha4, .inl (cy 0, n_a4, .inl ca4))]) H := by rw [e_]; exact hP
    replace hD : va_D A ([(h0, .inr (6, [.ref h0_aes, .ref h0_block, .ref h0_pad])), (h0_aes, .inr (2, [.ref h0_aes_keys, .int c_aes_rounds])), (h0_aes_keys, .inl (cy 1, 60, .inl c_aes_keys)), (h0_block, .inl (cy 0, 16, .inl c_block_20)), (h0_pad, .inl (cy 0, 16, .inl c_pad_19)), (ha1, .inl (cy 0, n_a1, .inl ca1)), (ha4, .inl (cy 0, n_a4, .inl ca4))]) := by rw [e_]; exact hD
    clear e_
    exact hTo _ _ _ (kK_13 _ _ H locs ls hP hD hS (lv_sub hl [0, 4, 5] rfl) hf)
  clear eK_9
  refine hTo _ _ _ (zl_go (fun z => match z with | (i_5, c_block_6) => ∀ (H : Heap) (locs : List Loc) (ls : Array Slot), va_P D vwCl ([(h0, .inr (6, [.ref h0_aes, .ref h0_block, .ref h0_pad])), (h0_aes, .inr (2, [.ref h0_aes_keys, .int c_aes_rounds])), (h0_aes_keys, .inl (cy 1, 60, .inl c_aes_keys)), (h0_block, .inl (cy 0, 16, .inl c_block_6)), (h0_pad, .inl (cy 0, 16, .inl c_pad_3)), (ha1, .inl (cy 0, n_a1, .inl ca1)), (ha4, .inl (cy 0, n_a4, .inl ca4))]) H → va_D A ([(h0, .inr (6, [.ref h0_aes, .ref h0_block, .ref h0_pad])), (h0_aes, .inr (2, [.ref h0_aes_keys, .int c_aes_rounds])), (h0_aes_keys, .inl (cy 1, 60, .inl c_aes_keys)), (h0_block, .inl (cy 0, 16, .inl c_block_6)), (h0_pad, .inl (cy 0, 16, .inl c_pad_3)), (ha1, .inl (cy 0, n_a1, .inl ca1)), (ha4, .inl (cy 0, n_a4, .inl ca4))]) → va_S A s.heap H locs → lv_has ls 7 [(0, .ref h0), (1, .ref ha1), (2, .int p2), (3, .int p3), (4, .ref ha4), (5, .int p5), (6, .int i_5)] → GW H locs (F0 m 35 ls [])) hf ?_ H locs ls hP hD hS (lv_sub hl [1, 2, 3, 4, 5, 6, 0] rfl))
  clear hf hl hP hD hS
  intro self_21 ihself_21 z hf
  obtain ⟨i_5, c_block_6⟩ := z
  intro H locs ls hP hD hS hl
  refine hFr _ _ _ ?_
  unfold b_X4_cmac_35 at hf
  refine lv_iload_n (pc := 35) hx hb (zdt_at zt_X4_cmac_0 18 rfl) rfl (lv_at hl 3 rfl) ?_
  refine lv_iload (pc := 36) hx hb (zdt_at zt_X4_cmac_0 19 rfl) (lv_at hl 6 rfl) ?_
  refine lv_isub (pc := 38) hx hb (zdt_at zt_X4_cmac_0 20 rfl) ?_
  refine lv_bipush (pc := 39) (v := (16 : Int32)) hx hb (zdt_at zt_X4_cmac_0 21 rfl) (by decide) ?_
  refine lv_icmp_le (pc := 41) (tgt := 77) hx hb (zdt_at zt_X4_cmac_0 22 rfl) (by decide) (fun cn_ => ?t_22) (fun cn_ => ?f_23)
  case t_22 =>
    replace hf := zt_s cn_ hf
    clear cn_
    exact hTo _ _ _ (kK_9 _ _ H locs ls hP hD hS (lv_sub hl [0, 1, 2, 3, 4, 5, 6] rfl) hf)
  replace hf := ze_s cn_ hf
  clear cn_
  refine lv_aload_n (pc := 44) hx hb (zdt_at zt_X4_cmac_0 23 rfl) rfl (lv_at hl 1 rfl) ?_
  refine lv_iload_n (pc := 45) hx hb (zdt_at zt_X4_cmac_0 24 rfl) rfl (lv_at hl 2 rfl) ?_
  refine lv_iload (pc := 46) hx hb (zdt_at zt_X4_cmac_0 25 rfl) (lv_at hl 6 rfl) ?_
  refine lv_iadd (pc := 48) hx hb (zdt_at zt_X4_cmac_0 26 rfl) ?_
  refine lv_aload_n (pc := 49) hx hb (zdt_at zt_X4_cmac_0 27 rfl) rfl (lv_at hl 0 rfl) ?_
  refine va_get (pc := 50) (D := D) (ci := 6) (v := .ref h0_block) (C := RX4) (T := TX4) (N := 3) hx hb hts hcX4 hown hK hP 0 rfl rfl 1 (by decide) hw2 (fun _ h9 => h9) rfl (zdt_at zt_X4_cmac_0 28 rfl) ?_
  refine lv_iconst (pc := 53) (v := (0 : Int32)) hx hb (zdt_at zt_X4_cmac_0 29 rfl) (by decide) ?_
  refine lv_bipush (pc := 54) (v := (16 : Int32)) hx hb (zdt_at zt_X4_cmac_0 30 rfl) (by decide) ?_
  replace hf := zb_s hf
  obtain ⟨c_block_24, hc_, hf⟩ := hf
  refine zcn2 (pc := 56) (rv := none) (va_runSN (As := [.ref ha1, .int (p2 + i_5), .ref h0_block, .int (0 : Int32), .int (16 : Int32)]) (rest := []) ⟨hx, hb, hml, hown, hts⟩ (c_X9_xorBytes l D cy tt H.size ha1 h0_block n_a1 16 (p2 + i_5) (0 : Int32) (16 : Int32) ca1 c_block_6 c_block_24 hc_) ⟨va_cnB 5 hts gX4_cmac_X9_xorBytes_n31 rfl rfl rfl (gNs_7 hE.2.1) hw3 (by decide +kernel) ⟨Nat.le_of_ble_eq_true rfl, Nat.le_of_ble_eq_true rfl⟩, hw4, trivial⟩ ⟨zblind, zpre hE hS (hP.sub [5, 3] rfl) (hD.sub [5, 3] (by decide) rfl) (va_free hD hS hA [5, 3] rfl)⟩ rfl rfl hl.1 rfl (lv_room (Nat.le_of_ble_eq_true rfl)) (zdt_at zt_X4_cmac_0 31 rfl) ⟨Nat.zero_le _, Nat.zero_le _⟩) hS hP hD (va_free hD hS hA [5, 3] rfl) [5, 3] rfl (by decide) rfl ?_
  clear hP hD hS hc_
  intro H locs hP hD hS
  replace hP : va_P D vwCl ([(h0, .inr (6, [.ref h0_aes, .ref h0_block, .ref h0_pad])), (h0_aes, .inr (2, [.ref h0_aes_keys, .int c_aes_rounds])), (h0_aes_keys, .inl (cy 1, 60, .inl c_aes_keys)), (h0_block, .inl (cy 0, 16, .inl c_block_24)), (h0_pad, .inl (cy 0, 16, .inl c_pad_3)), (ha1, .inl (cy 0, n_a1, .inl ca1)), (ha4, .inl (cy 0, n_a4, .inl ca4))]) H := hP
  replace hD : va_D A ([(h0, .inr (6, [.ref h0_aes, .ref h0_block, .ref h0_pad])), (h0_aes, .inr (2, [.ref h0_aes_keys, .int c_aes_rounds])), (h0_aes_keys, .inl (cy 1, 60, .inl c_aes_keys)), (h0_block, .inl (cy 0, 16, .inl c_block_24)), (h0_pad, .inl (cy 0, 16, .inl c_pad_3)), (ha1, .inl (cy 0, n_a1, .inl ca1)), (ha4, .inl (cy 0, n_a4, .inl ca4))]) := hD
  refine W.eq (g2 := F0 m 59 ls []) rfl ?_
  refine lv_aload_n (pc := 59) hx hb (zdt_at zt_X4_cmac_0 32 rfl) rfl (lv_at hl 0 rfl) ?_
  refine va_get (pc := 60) (D := D) (ci := 6) (v := .ref h0_aes) (C := RX4) (T := TX4) (N := 3) hx hb hts hcX4 hown hK hP 0 rfl rfl 0 (by decide) hw1 (fun _ h9 => h9) rfl (zdt_at zt_X4_cmac_0 33 rfl) ?_
  refine lv_aload_n (pc := 63) hx hb (zdt_at zt_X4_cmac_0 34 rfl) rfl (lv_at hl 0 rfl) ?_
  refine va_get (pc := 64) (D := D) (ci := 6) (v := .ref h0_block) (C := RX4) (T := TX4) (N := 3) hx hb hts hcX4 hown hK hP 0 rfl rfl 1 (by decide) hw2 (fun _ h9 => h9) rfl (zdt_at zt_X4_cmac_0 35 rfl) ?_
  refine lv_iconst (pc := 67) (v := (0 : Int32)) hx hb (zdt_at zt_X4_cmac_0 36 rfl) (by decide) ?_
  replace hf := zb_s hf
  obtain ⟨c_block_25, hc_, hf⟩ := hf
  refine zcn2 (pc := 68) (rv := none) (va_runV (As := [.ref h0_block, .int (0 : Int32)]) (rest := []) ⟨hx, hb, hml, hown, hts⟩ (c_X0_encrypt l D cy tt H.size h0_aes h0_aes_keys h0_block 16 (0 : Int32) c_aes_rounds c_aes_keys c_block_24 c_block_25 hc_) (cwV 2 hts gX4_cmac_X0_encrypt rfl rfl rfl (by decide +kernel) ⟨Nat.le_of_ble_eq_true rfl, Nat.le_of_ble_eq_true rfl⟩) ⟨zblind, va_recv hK hP (ci := 2) (q0 := 1) rfl rfl, zpre hE hS (hP.sub [1, 2, 3] rfl) (hD.sub [1, 2, 3] (by decide) rfl) (va_free hD hS hA [1, 2, 3] rfl)⟩ rfl rfl hl.1 rfl (lv_room (Nat.le_of_ble_eq_true rfl)) (zdt_at zt_X4_cmac_0 37 rfl) ⟨Nat.zero_le _, Nat.zero_le _⟩) hS hP hD (va_free hD hS hA [1, 2, 3] rfl) [1, 2, 3] rfl (by decide) rfl ?_
  clear hP hD hS hc_
  intro H locs hP hD hS
  replace hP : va_P D vwCl ([(h0, .inr (6, [.ref h0_aes, .ref h0_block, .ref h0_pad])), (h0_aes, .inr (2, [.ref h0_aes_keys, .int c_aes_rounds])), (h0_aes_keys, .inl (cy 1, 60, .inl c_aes_keys)), (h0_block, .inl (cy 0, 16, .inl c_block_25)), (h0_pad, .inl (cy 0, 16, .inl c_pad_3)), (ha1, .inl (cy 0, n_a1, .inl ca1)), (ha4, .inl (cy 0, n_a4, .inl ca4))]) H := hP
  replace hD : va_D A ([(h0, .inr (6, [.ref h0_aes, .ref h0_block, .ref h0_pad])), (h0_aes, .inr (2, [.ref h0_aes_keys, .int c_aes_rounds])), (h0_aes_keys, .inl (cy 1, 60, .inl c_aes_keys)), (h0_block, .inl (cy 0, 16, .inl c_block_25)), (h0_pad, .inl (cy 0, 16, .inl c_pad_3)), (ha1, .inl (cy 0, n_a1, .inl ca1)), (ha4, .inl (cy 0, n_a4, .inl ca4))]) := hD
  refine W.eq (g2 := F0 m 71 ls []) rfl ?_
  refine lv_iinc (pc := 71) (v := (i_5 + (16 : Int32))) (lv' := [(6, .int (i_5 + (16 : Int32))), (0, .ref h0), (1, .ref ha1), (2, .int p2), (3, .int p3), (4, .ref ha4), (5, .int p5)]) hx hb (zdt_at zt_X4_cmac_0 38 rfl) hl (k := 6) rfl rfl (by decide) rfl ?_
  clear hl
  intro ls hl
  refine lv_goto (pc := 74) (tgt := 35) hx hb (zdt_at zt_X4_cmac_0 39 rfl) (by decide) ?_
  exact hTo _ _ _ (ihself_21 _ hf H locs ls hP hD hS (lv_sub hl [1, 2, 3, 4, 5, 6, 0] rfl))
set_option maxHeartbeats 4000000 in
set_option maxRecDepth 100000 in
theorem c_X4_wrapIn (l : Launch) (D : va_G) (cy : Nat → ClassId) (tt : Nat → Nat) (sz : Nat) (h0 : Nat) (h0_aes : Nat) (h0_block : Nat) (h0_pad : Nat) (h0_aes_keys : Nat) (ha1 : Nat) (n_a1 : Nat) (p2 : Int32) (c_aes_rounds : Int32) (c_aes_keys : Nat → Int32) (c_block : Nat → Int32) (ca1 : Nat → Int32) (c_block' : Nat → Int32) (ca1' : Nat → Int32) (hf : f_X4_wrapIn n_a1 p2 c_aes_rounds c_aes_keys c_block ca1 = some (c_block', ca1')) : Met l yX4_wrapIn wsX4_wrapIn ({ frames := 2, cells := 0, slots := 0, locals := 64 }) (zPc D cy tt sz [.ref h0, .ref ha1, .int p2] ([(h0, .inr (6, [.ref h0_aes, .ref h0_block, .ref h0_pad])), (h0_aes, .inr (2, [.ref h0_aes_keys, .int c_aes_rounds])), (h0_aes_keys, .inl (cy 1, 60, .inl c_aes_keys)), (h0_block, .inl (cy 0, 16, .inl c_block)), (ha1, .inl (cy 0, n_a1, .inl ca1))])) (zQ D none ([(h0, .inr (6, [.ref h0_aes, .ref h0_block, .ref h0_pad])), (h0_aes, .inr (2, [.ref h0_aes_keys, .int c_aes_rounds])), (h0_aes_keys, .inl (cy 1, 60, .inl c_aes_keys)), (h0_block, .inl (cy 0, 16, .inl c_block')), (ha1, .inl (cy 0, n_a1, .inl ca1'))]) (va_A ([(h0, .inr (6, [.ref h0_aes, .ref h0_block, .ref h0_pad])), (h0_aes, .inr (2, [.ref h0_aes_keys, .int c_aes_rounds])), (h0_aes_keys, .inl (cy 1, 60, .inl c_aes_keys)), (h0_block, .inl (cy 0, 16, .inl c_block)), (ha1, .inl (cy 0, n_a1, .inl ca1))]) sz)) 0 0 (va_A ([(h0, .inr (6, [.ref h0_aes, .ref h0_block, .ref h0_pad])), (h0_aes, .inr (2, [.ref h0_aes_keys, .int c_aes_rounds])), (h0_aes_keys, .inl (cy 1, 60, .inl c_aes_keys)), (h0_block, .inl (cy 0, 16, .inl c_block)), (ha1, .inl (cy 0, n_a1, .inl ca1))]) sz) := by
  refine Met.ofW (cc := cX4_wrapIn) (maxL := 6) (ret := none) (by decide) rfl ?_
  intro p e s m args below meth c s₁ B hml hv
  obtain ⟨rfl, rfl, hP, hD0, hE⟩ := hv
  have hx := B.exec
  have hb := B.bytes
  have hr := B.returns
  have hts := atoms_spec (ws := wsX4_wrapIn) B.pre
  have hown : s.vm.findClass RX4 = some m.cls := findClass_of_methodNamed B.named
  have hlocks := B.notSynchronized
  clear B
  have hD := hD0.self (sz := s.heap.size)
  generalize hAe : va_A ([(h0, .inr (6, [.ref h0_aes, .ref h0_block, .ref h0_pad])), (h0_aes, .inr (2, [.ref h0_aes_keys, .int c_aes_rounds])), (h0_aes_keys, .inl (cy 1, 60, .inl c_aes_keys)), (h0_block, .inl (cy 0, 16, .inl c_block)), (ha1, .inl (cy 0, n_a1, .inl ca1))]) s.heap.size = A at hD hE ⊢
  have hA : ∀ q : Nat, s.heap.size ≤ q → A q := fun q h => by rw [← hAe]; exact Or.inr h
  clear hAe hD0
  have hS : va_S A s.heap s.heap [] := va_S.rf
  have hK := hE.1
  have hw0 := hts (.fieldLink RX4 9 "SealedModule$Modes" "block" "[B") (by decide +kernel)
  have hw1 := hts (.constantLong RX4 74 (-6438275382588823898)) (by decide +kernel)
  have hw2 := hts (.initialized RX9) (by decide +kernel)
  have hw3 := hts (.static yX9_putLong) (by decide +kernel)
  have hw4 := hts (.methodLink RX4 35 arraycopyName) (by decide +kernel)
  have hw5 := hts (.native arraycopyName) (by decide +kernel)
  have hw6 := hts (.static arraycopyName) (by decide +kernel)
  have hw7 := hts (.initialized "java/lang/System") (by decide +kernel)
  have hw8 := hts (.fieldLink RX4 18 "SealedModule$Modes" "aes" "LSealedModule$Aes;") (by decide +kernel)
  have hw9 := hts (.static yX9_longAt) (by decide +kernel)
  have hcX4 : ∀ w ∈ u_ws RX4 TX4 3, w ∈ wsX4_wrapIn := (fun _ h => List.mem_cons_of_mem _ (List.mem_append_left _ (List.mem_append_right _ h)))
  have hl := lv_entry ([.ref h0, .ref ha1, .int p2]) (n := 6) (Nat.le_of_ble_eq_true rfl)
  rw [lg_entry_eq]
  generalize (lg_sl ([.ref h0, .ref ha1, .int p2]) ++ List.replicate (6 - (lg_sl ([.ref h0, .ref ha1, .int p2])).length) Slot.unset).toArray = ls at hl ⊢
  replace hl : lv_has ls 6 [(0, .ref h0), (1, .ref ha1), (2, .int p2)] := hl
  unfold f_X4_wrapIn at hf
  refine zgo (fun GW hTo hFr => ?_)
  refine hFr _ _ _ ?_
  obtain ⟨H, hHe⟩ : ∃ H, H = s.heap := ⟨_, rfl⟩
  obtain ⟨locs, hLe⟩ : ∃ L : List Loc, L = [] := ⟨_, rfl⟩
  rw [← hHe] at hP
  replace hS : va_S A s.heap H locs := by rw [hHe, hLe]; exact hS
  refine zat hHe.symm hLe.symm ?_
  clear hHe hLe
  refine lv_aload_n (pc := 0) hx hb (zdt_at zt_X4_wrapIn_0 0 rfl) rfl (lv_at hl 0 rfl) ?_
  refine va_get (pc := 1) (D := D) (ci := 6) (v := .ref h0_block) (C := RX4) (T := TX4) (N := 3) hx hb hts hcX4 hown hK hP 0 rfl rfl 1 (by decide) hw0 (fun _ h9 => h9) rfl (zdt_at zt_X4_wrapIn_0 1 rfl) ?_
  refine lv_iconst (pc := 4) (v := (0 : Int32)) hx hb (zdt_at zt_X4_wrapIn_0 2 rfl) (by decide) ?_
  refine lv_ldc2 (pc := 5) hx hb hown hw1 (zdt_at zt_X4_wrapIn_0 3 rfl) ?_
  replace hf := zb_s hf
  obtain ⟨c_block_1, hc_, hf⟩ := hf
  refine zcn2 (pc := 8) (rv := none) (va_runSN (As := [.ref h0_block, .int (0 : Int32), .long (-6438275382588823898 : Int64)]) (rest := []) ⟨hx, hb, hml, hown, hts⟩ (c_X9_putLong l D cy tt H.size h0_block 16 (0 : Int32) (-6438275382588823898 : Int64) c_block c_block_1 hc_) ⟨va_cnB 3 hts gX4_wrapIn_X9_putLong_n70 rfl rfl rfl (gNs_10 hE.2.1) hw2 (by decide +kernel) ⟨Nat.le_of_ble_eq_true rfl, Nat.le_of_ble_eq_true rfl⟩, hw3, trivial⟩ ⟨zblind, zpre hE hS (hP.sub [3] rfl) (hD.sub [3] (by decide) rfl) (va_free hD hS hA [3] rfl)⟩ rfl rfl hl.1 rfl (lv_room (Nat.le_of_ble_eq_true rfl)) (zdt_at zt_X4_wrapIn_0 4 rfl) ⟨Nat.zero_le _, Nat.zero_le _⟩) hS hP hD (va_free hD hS hA [3] rfl) [3] rfl (by decide) rfl ?_
  clear hP hD hS hc_
  intro H locs hP hD hS
  replace hP : va_P D vwCl ([(h0, .inr (6, [.ref h0_aes, .ref h0_block, .ref h0_pad])), (h0_aes, .inr (2, [.ref h0_aes_keys, .int c_aes_rounds])), (h0_aes_keys, .inl (cy 1, 60, .inl c_aes_keys)), (h0_block, .inl (cy 0, 16, .inl c_block_1)), (ha1, .inl (cy 0, n_a1, .inl ca1))]) H := hP
  replace hD : va_D A ([(h0, .inr (6, [.ref h0_aes, .ref h0_block, .ref h0_pad])), (h0_aes, .inr (2, [.ref h0_aes_keys, .int c_aes_rounds])), (h0_aes_keys, .inl (cy 1, 60, .inl c_aes_keys)), (h0_block, .inl (cy 0, 16, .inl c_block_1)), (ha1, .inl (cy 0, n_a1, .inl ca1))]) := hD
  refine W.eq (g2 := F0 m 11 ls []) rfl ?_
  refine lv_iconst (pc := 11) (v := (0 : Int32)) hx hb (zdt_at zt_X4_wrapIn_0 5 rfl) (by decide) ?_
  refine lv_istore_n (pc := 12) (lv' := [(3, .int (0 : Int32)), (0, .ref h0), (1, .ref ha1), (2, .int p2)]) hx hb (zdt_at zt_X4_wrapIn_0 6 rfl) rfl hl (by decide) rfl ?_
  clear hl
  intro ls hl
  refine lv_iconst (pc := 13) (v := (0 : Int32)) hx hb (zdt_at zt_X4_wrapIn_0 7 rfl) (by decide) ?_
  refine lv_istore (pc := 14) (lv' := [(4, .int (0 : Int32)), (3, .int (0 : Int32)), (0, .ref h0), (1, .ref ha1), (2, .int p2)]) hx hb (zdt_at zt_X4_wrapIn_0 8 rfl) hl (by decide) rfl ?_
  clear hl
  intro ls hl
  replace hf := zj_s hf
  obtain ⟨K_8, eK_8, hf⟩ := hf
  have kK_8 : ∀ (c_block_6 : Nat → Int32) (ca1_7 : Nat → Int32) (H : Heap) (locs : List Loc) (ls : Array Slot), va_P D vwCl ([(h0, .inr (6, [.ref h0_aes, .ref h0_block, .ref h0_pad])), (h0_aes, .inr (2, [.ref h0_aes_keys, .int c_aes_rounds])), (h0_aes_keys, .inl (cy 1, 60, .inl c_aes_keys)), (h0_block, .inl (cy 0, 16, .inl c_block_6)), (ha1, .inl (cy 0, n_a1, .inl ca1_7))]) H → va_D A ([(h0, .inr (6, [.ref h0_aes, .ref h0_block, .ref h0_pad])), (h0_aes, .inr (2, [.ref h0_aes_keys, .int c_aes_rounds])), (h0_aes_keys, .inl (cy 1, 60, .inl c_aes_keys)), (h0_block, .inl (cy 0, 16, .inl c_block_6)), (ha1, .inl (cy 0, n_a1, .inl ca1_7))]) → va_S A s.heap H locs → lv_has ls 6 [(0, .ref h0), (1, .ref ha1)] → K_8 c_block_6 ca1_7 = some (c_block', ca1') → GW H locs (F0 m 107 ls []) := by
    clear hf hl hP hD hS
    intro c_block_6 ca1_7 H locs ls hP hD hS hl hf
    rw [eK_8] at hf
    clear eK_8
    refine hFr _ _ _ ?_
    refine lv_aload_n (pc := 107) hx hb (zdt_at zt_X4_wrapIn_0 53 rfl) rfl (lv_at hl 0 rfl) ?_
    refine va_get (pc := 108) (D := D) (ci := 6) (v := .ref h0_block) (C := RX4) (T := TX4) (N := 3) hx hb hts hcX4 hown hK hP 0 rfl rfl 1 (by decide) hw0 (fun _ h9 => h9) rfl (zdt_at zt_X4_wrapIn_0 54 rfl) ?_
    refine lv_iconst (pc := 111) (v := (0 : Int32)) hx hb (zdt_at zt_X4_wrapIn_0 55 rfl) (by decide) ?_
    refine lv_aload_n (pc := 112) hx hb (zdt_at zt_X4_wrapIn_0 56 rfl) rfl (lv_at hl 1 rfl) ?_
    refine lv_iconst (pc := 113) (v := (0 : Int32)) hx hb (zdt_at zt_X4_wrapIn_0 57 rfl) (by decide) ?_
    refine lv_bipush (pc := 114) (v := (8 : Int32)) hx hb (zdt_at zt_X4_wrapIn_0 58 rfl) (by decide) ?_
    replace hf := zk_s hf
    refine va_copyi (pc := 116) hx hb (hml.trans hl.1.symm) hown hw4 hw5 hw6 hw7 hK hP hD hS 3 4 0 0 rfl rfl rfl rfl rfl hf.1.1 hf.1.2.1 hf.1.2.2.1 hf.1.2.2.2.1 hf.1.2.2.2.2.1 hf.1.2.2.2.2.2 (Nat.le_of_ble_eq_true rfl) (Nat.le_of_ble_eq_true rfl) (zdt_at zt_X4_wrapIn_0 59 rfl) ?_
    replace hf := hf.2
    clear hP hD hS
    intro H locs hP hD hS
    obtain ⟨ca1_9, e_⟩ : ∃ q : Nat → Int32, q = (va_cpy c_block_6 ca1_7 (0 : Int32).toNatClampNeg (0 : Int32).toNatClampNeg (8 : Int32).toNatClampNeg) := ⟨_, rfl⟩
    replace hf := zn_s hf e_
    replace hP : va_P D vwCl ([(h0, .inr (6, [.ref h0_aes, .ref h0_block, .ref h0_pad])), (h0_aes, .inr (2, [.ref h0_aes_keys, .int c_aes_rounds])), (h0_aes_keys, .inl (cy 1, 60, .inl c_aes_keys)), (h0_block, .inl (cy 0, 16, .inl c_block_6)), (ha1, .inl (cy 0, n_a1, .inl ca1_9))]) H := by rw [e_]; exact hP
    replace hD : va_D A ([(h0, .inr (6, [.ref h0_aes, .ref h0_block, .ref h0_pad])), (h0_aes, .inr (2, [.ref h0_aes_keys, .int c_aes_rounds])), (h0_aes_keys, .inl (cy 1, 60, .inl c_aes_keys)), (h0_block, .inl (cy 0, 16, .inl c_block_6)), (ha1, .inl (cy 0, n_a1, .inl ca1_9))]) := by rw [e_]; exact hD
    clear e_
    cases hf
    exact W.vret (pc := 119) hx hb hr (fun t ht hW => ⟨rfl, ⟨by rw [ht]; exact hP, hD⟩, hS.F ht⟩) hS.2.2 (zdt_at zt_X4_wrapIn_0 60 rfl)
  clear eK_8
  refine hTo _ _ _ (zl_go (fun z => match z with | (i_2, i_3, c_block_4, ca1_5) => ∀ (H : Heap) (locs : List Loc) (ls : Array Slot), va_P D vwCl ([(h0, .inr (6, [.ref h0_aes, .ref h0_block, .ref h0_pad])), (h0_aes, .inr (2, [.ref h0_aes_keys, .int c_aes_rounds])), (h0_aes_keys, .inl (cy 1, 60, .inl c_aes_keys)), (h0_block, .inl (cy 0, 16, .inl c_block_4)), (ha1, .inl (cy 0, n_a1, .inl ca1_5))]) H → va_D A ([(h0, .inr (6, [.ref h0_aes, .ref h0_block, .ref h0_pad])), (h0_aes, .inr (2, [.ref h0_aes_keys, .int c_aes_rounds])), (h0_aes_keys, .inl (cy 1, 60, .inl c_aes_keys)), (h0_block, .inl (cy 0, 16, .inl c_block_4)), (ha1, .inl (cy 0, n_a1, .inl ca1_5))]) → va_S A s.heap H locs → lv_has ls 6 [(0, .ref h0), (1, .ref ha1), (2, .int p2), (3, .int i_2), (4, .int i_3)] → GW H locs (F0 m 16 ls [])) hf ?_ H locs ls hP hD hS (lv_sub hl [2, 3, 4, 1, 0] rfl))
  clear hf hl hP hD hS
  intro self_10 ihself_10 z hf
  obtain ⟨i_2, i_3, c_block_4, ca1_5⟩ := z
  intro H locs ls hP hD hS hl
  refine hFr _ _ _ ?_
  unfold b_X4_wrapIn_16 at hf
  refine lv_iload (pc := 16) hx hb (zdt_at zt_X4_wrapIn_0 9 rfl) (lv_at hl 4 rfl) ?_
  refine lv_bipush (pc := 18) (v := (6 : Int32)) hx hb (zdt_at zt_X4_wrapIn_0 10 rfl) (by decide) ?_
  refine lv_icmp_ge (pc := 20) (tgt := 107) hx hb (zdt_at zt_X4_wrapIn_0 11 rfl) (by decide) (fun cn_ => ?t_11) (fun cn_ => ?f_12)
  case t_11 =>
    replace hf := zt_s cn_ hf
    clear cn_
    exact hTo _ _ _ (kK_8 _ _ H locs ls hP hD hS (lv_sub hl [0, 1] rfl) hf)
  replace hf := ze_s cn_ hf
  clear cn_
  refine lv_bipush (pc := 23) (v := (8 : Int32)) hx hb (zdt_at zt_X4_wrapIn_0 12 rfl) (by decide) ?_
  refine lv_istore (pc := 25) (lv' := [(5, .int (8 : Int32)), (0, .ref h0), (1, .ref ha1), (2, .int p2), (3, .int i_2), (4, .int i_3)]) hx hb (zdt_at zt_X4_wrapIn_0 13 rfl) hl (by decide) rfl ?_
  clear hl
  intro ls hl
  replace hf := zj_s hf
  obtain ⟨K_20, eK_20, hf⟩ := hf
  have kK_20 : ∀ (v_17 : Int32) (c_block_18 : Nat → Int32) (ca1_19 : Nat → Int32) (H : Heap) (locs : List Loc) (ls : Array Slot), va_P D vwCl ([(h0, .inr (6, [.ref h0_aes, .ref h0_block, .ref h0_pad])), (h0_aes, .inr (2, [.ref h0_aes_keys, .int c_aes_rounds])), (h0_aes_keys, .inl (cy 1, 60, .inl c_aes_keys)), (h0_block, .inl (cy 0, 16, .inl c_block_18)), (ha1, .inl (cy 0, n_a1, .inl ca1_19))]) H → va_D A ([(h0, .inr (6, [.ref h0_aes, .ref h0_block, .ref h0_pad])), (h0_aes, .inr (2, [.ref h0_aes_keys, .int c_aes_rounds])), (h0_aes_keys, .inl (cy 1, 60, .inl c_aes_keys)), (h0_block, .inl (cy 0, 16, .inl c_block_18)), (ha1, .inl (cy 0, n_a1, .inl ca1_19))]) → va_S A s.heap H locs → lv_has ls 6 [(0, .ref h0), (1, .ref ha1), (2, .int p2), (3, .int v_17), (4, .int i_3)] → K_20 v_17 c_block_18 ca1_19 = some (c_block', ca1') → GW H locs (F0 m 101 ls []) := by
    clear hf hl hP hD hS
    intro v_17 c_block_18 ca1_19 H locs ls hP hD hS hl hf
    rw [eK_20] at hf
    clear eK_20
    refine hFr _ _ _ ?_
    refine lv_iinc (pc := 101) (v := (i_3 + (1 : Int32))) (lv' := [(4, .int (i_3 + (1 : Int32))), (0, .ref h0), (1, .ref ha1), (2, .int p2), (3, .int v_17)]) hx hb (zdt_at zt_X4_wrapIn_0 51 rfl) hl (k := 4) rfl rfl (by decide) rfl ?_
    clear hl
    intro ls hl
    refine lv_goto (pc := 104) (tgt := 16) hx hb (zdt_at zt_X4_wrapIn_0 52 rfl) (by decide) ?_
    exact hTo _ _ _ (ihself_10 _ hf H locs ls hP hD hS (lv_sub hl [1, 2, 3, 4, 0] rfl))
  clear eK_20
  refine hTo _ _ _ (zl_go (fun z => match z with | (i_13, i_14, c_block_15, ca1_16) => ∀ (H : Heap) (locs : List Loc) (ls : Array Slot), va_P D vwCl ([(h0, .inr (6, [.ref h0_aes, .ref h0_block, .ref h0_pad])), (h0_aes, .inr (2, [.ref h0_aes_keys, .int c_aes_rounds])), (h0_aes_keys, .inl (cy 1, 60, .inl c_aes_keys)), (h0_block, .inl (cy 0, 16, .inl c_block_15)), (ha1, .inl (cy 0, n_a1, .inl ca1_16))]) H → va_D A ([(h0, .inr (6, [.ref h0_aes, .ref h0_block, .ref h0_pad])), (h0_aes, .inr (2, [.ref h0_aes_keys, .int c_aes_rounds])), (h0_aes_keys, .inl (cy 1, 60, .inl c_aes_keys)), (h0_block, .inl (cy 0, 16, .inl c_block_15)), (ha1, .inl (cy 0, n_a1, .inl ca1_16))]) → va_S A s.heap H locs → lv_has ls 6 [(0, .ref h0), (1, .ref ha1), (2, .int p2), (3, .int i_13), (4, .int i_3), (5, .int i_14)] → GW H locs (F0 m 27 ls [])) hf ?_ H locs ls hP hD hS (lv_sub hl [1, 2, 3, 4, 5, 0] rfl))
  clear hf hl hP hD hS
  intro self_21 ihself_21 z hf
  obtain ⟨i_13, i_14, c_block_15, ca1_16⟩ := z
  intro H locs ls hP hD hS hl
  refine hFr _ _ _ ?_
  unfold b_X4_wrapIn_27 at hf
  refine lv_iload (pc := 27) hx hb (zdt_at zt_X4_wrapIn_0 14 rfl) (lv_at hl 5 rfl) ?_
  refine lv_iload_n (pc := 29) hx hb (zdt_at zt_X4_wrapIn_0 15 rfl) rfl (lv_at hl 2 rfl) ?_
  refine lv_icmp_ge (pc := 30) (tgt := 101) hx hb (zdt_at zt_X4_wrapIn_0 16 rfl) (by decide) (fun cn_ => ?t_22) (fun cn_ => ?f_23)
  case t_22 =>
    replace hf := zt_s cn_ hf
    clear cn_
    exact hTo _ _ _ (kK_20 _ _ _ H locs ls hP hD hS (lv_sub hl [0, 1, 2, 3, 4] rfl) hf)
  replace hf := ze_s cn_ hf
  clear cn_
  refine lv_iinc (pc := 33) (v := (i_13 + (1 : Int32))) (lv' := [(3, .int (i_13 + (1 : Int32))), (0, .ref h0), (1, .ref ha1), (2, .int p2), (4, .int i_3), (5, .int i_14)]) hx hb (zdt_at zt_X4_wrapIn_0 17 rfl) hl (k := 3) rfl rfl (by decide) rfl ?_
  clear hl
  intro ls hl
  refine lv_aload_n (pc := 36) hx hb (zdt_at zt_X4_wrapIn_0 18 rfl) rfl (lv_at hl 2 rfl) ?_
  refine lv_iload (pc := 37) hx hb (zdt_at zt_X4_wrapIn_0 19 rfl) (lv_at hl 5 rfl) ?_
  refine lv_aload_n (pc := 39) hx hb (zdt_at zt_X4_wrapIn_0 20 rfl) rfl (lv_at hl 1 rfl) ?_
  refine va_get (pc := 40) (D := D) (ci := 6) (v := .ref h0_block) (C := RX4) (T := TX4) (N := 3) hx hb hts hcX4 hown hK hP 0 rfl rfl 1 (by decide) hw0 (fun _ h9 => h9) rfl (zdt_at zt_X4_wrapIn_0 21 rfl) ?_
  refine lv_bipush (pc := 43) (v := (8 : Int32)) hx hb (zdt_at zt_X4_wrapIn_0 22 rfl) (by decide) ?_
  refine lv_bipush (pc := 45) (v := (8 : Int32)) hx hb (zdt_at zt_X4_wrapIn_0 23 rfl) (by decide) ?_
  replace hf := zk_s hf
  refine va_copyi (pc := 47) hx hb (hml.trans hl.1.symm) hown hw4 hw5 hw6 hw7 hK hP hD hS 4 3 0 0 rfl rfl rfl rfl rfl hf.1.1 hf.1.2.1 hf.1.2.2.1 hf.1.2.2.2.1 hf.1.2.2.2.2.1 hf.1.2.2.2.2.2 (Nat.le_of_ble_eq_true rfl) (Nat.le_of_ble_eq_true rfl) (zdt_at zt_X4_wrapIn_0 24 rfl) ?_
  replace hf := hf.2
  clear hP hD hS
  intro H locs hP hD hS
  obtain ⟨c_block_24, e_⟩ : ∃ q : Nat → Int32, q = (va_cpy ca1_16 c_block_15 i_14.toNatClampNeg (8 : Int32).toNatClampNeg (8 : Int32).toNatClampNeg) := ⟨_, rfl⟩
  replace hf := zn_s hf e_
  replace hP : va_P D vwCl ([(h0, .inr (6, [.ref h0_aes, .ref h0_block, .ref h0_pad])), (h0_aes, .inr (2, [.ref h0_aes_keys, .int c_aes_rounds])), (h0_aes_keys, .inl (cy 1, 60, .inl c_aes_keys)), (h0_block, .inl (cy 0, 16, .inl c_block_24)), (ha1, .inl (cy 0, n_a1, .inl ca1_16))]) H := by rw [e_]; exact hP
  replace hD : va_D A ([(h0, .inr (6, [.ref h0_aes, .ref h0_block, .ref h0_pad])), (h0_aes, .inr (2, [.ref h0_aes_keys, .int c_aes_rounds])), (h0_aes_keys, .inl (cy 1, 60, .inl c_aes_keys)), (h0_block, .inl (cy 0, 16, .inl c_block_24)), (ha1, .inl (cy 0, n_a1, .inl ca1_16))]) := by rw [e_]; exact hD
  clear e_
  refine lv_aload_n (pc := 50) hx hb (zdt_at zt_X4_wrapIn_0 25 rfl) rfl (lv_at hl 1 rfl) ?_
  refine va_get (pc := 51) (D := D) (ci := 6) (v := .ref h0_aes) (C := RX4) (T := TX4) (N := 3) hx hb hts hcX4 hown hK hP 0 rfl rfl 0 (by decide) hw8 (fun _ h9 => h9) rfl (zdt_at zt_X4_wrapIn_0 26 rfl) ?_
  refine lv_aload_n (pc := 54) hx hb (zdt_at zt_X4_wrapIn_0 27 rfl) rfl (lv_at hl 1 rfl) ?_
  refine va_get (pc := 55) (D := D) (ci := 6) (v := .ref h0_block) (C := RX4) (T := TX4) (N := 3) hx hb hts hcX4 hown hK hP 0 rfl rfl 1 (by decide) hw0 (fun _ h9 => h9) rfl (zdt_at zt_X4_wrapIn_0 28 rfl) ?_
  refine lv_iconst (pc := 58) (v := (0 : Int32)) hx hb (zdt_at zt_X4_wrapIn_0 29 rfl) (by decide) ?_
  replace hf := zb_s hf
  obtain ⟨c_block_25, hc_, hf⟩ := hf
  refine zcn2 (pc := 59) (rv := none) (va_runV (As := [.ref h0_block, .int (0 : Int32)]) (rest := []) ⟨hx, hb, hml, hown, hts⟩ (c_X0_encrypt l D cy tt H.size h0_aes h0_aes_keys h0_block 16 (0 : Int32) c_aes_rounds c_aes_keys c_block_24 c_block_25 hc_) (cwV 2 hts gX4_wrapIn_X0_encrypt rfl rfl rfl (by decide +kernel) ⟨Nat.le_of_ble_eq_true rfl, Nat.le_of_ble_eq_true rfl⟩) ⟨zblind, va_recv hK hP (ci := 2) (q0 := 1) rfl rfl, zpre hE hS (hP.sub [1, 2, 3] rfl) (hD.sub [1, 2, 3] (by decide) rfl) (va_free hD hS hA [1, 2, 3] rfl)⟩ rfl rfl hl.1 rfl (lv_room (Nat.le_of_ble_eq_true rfl)) (zdt_at zt_X4_wrapIn_0 30 rfl) ⟨Nat.zero_le _, Nat.zero_le _⟩) hS hP hD (va_free hD hS hA [1, 2, 3] rfl) [1, 2, 3] rfl (by decide) rfl ?_
  clear hP hD hS hc_
  intro H locs hP hD hS
  replace hP : va_P D vwCl ([(h0, .inr (6, [.ref h0_aes, .ref h0_block, .ref h0_pad])), (h0_aes, .inr (2, [.ref h0_aes_keys, .int c_aes_rounds])), (h0_aes_keys, .inl (cy 1, 60, .inl c_aes_keys)), (h0_block, .inl (cy 0, 16, .inl c_block_25)), (ha1, .inl (cy 0, n_a1, .inl ca1_16))]) H := hP
  replace hD : va_D A ([(h0, .inr (6, [.ref h0_aes, .ref h0_block, .ref h0_pad])), (h0_aes, .inr (2, [.ref h0_aes_keys, .int c_aes_rounds])), (h0_aes_keys, .inl (cy 1, 60, .inl c_aes_keys)), (h0_block, .inl (cy 0, 16, .inl c_block_25)), (ha1, .inl (cy 0, n_a1, .inl ca1_16))]) := hD
  refine W.eq (g2 := F0 m 62 ls []) rfl ?_
  refine lv_aload_n (pc := 62) hx hb (zdt_at zt_X4_wrapIn_0 31 rfl) rfl (lv_at hl 1 rfl) ?_
  refine va_get (pc := 63) (D := D) (ci := 6) (v := .ref h0_block) (C := RX4) (T := TX4) (N := 3) hx hb hts hcX4 hown hK hP 0 rfl rfl 1 (by decide) hw0 (fun _ h9 => h9) rfl (zdt_at zt_X4_wrapIn_0 32 rfl) ?_
  refine lv_iconst (pc := 66) (v := (0 : Int32)) hx hb (zdt_at zt_X4_wrapIn_0 33 rfl) (by decide) ?_
  refine lv_aload_n (pc := 67) hx hb (zdt_at zt_X4_wrapIn_0 34 rfl) rfl (lv_at hl 1 rfl) ?_
  refine va_get (pc := 68) (D := D) (ci := 6) (v := .ref h0_block) (C := RX4) (T := TX4) (N := 3) hx hb hts hcX4 hown hK hP 0 rfl rfl 1 (by decide) hw0 (fun _ h9 => h9) rfl (zdt_at zt_X4_wrapIn_0 35 rfl) ?_
  refine lv_iconst (pc := 71) (v := (0 : Int32)) hx hb (zdt_at zt_X4_wrapIn_0 36 rfl) (by decide) ?_
  replace hf := zb_s hf
  obtain ⟨r_26, hc_, hf⟩ := hf
  refine zcs (pc := 72) (rv := (some (.long r_26))) (va_runSN (As := [.ref h0_block, .int (0 : Int32)]) (rest := [.int (0 : Int32), .ref h0_block]) ⟨hx, hb, hml, hown, hts⟩ (c_X9_longAt l D cy tt H.size h0_block 16 (0 : Int32) c_block_25 r_26 hc_) ⟨va_cnB 2 hts gX4_wrapIn_X9_longAt_n66 rfl rfl rfl (gNs_9 hE.2.1) hw2 (by decide +kernel) ⟨Nat.le_of_ble_eq_true rfl, Nat.le_of_ble_eq_true rfl⟩, hw9, trivial⟩ ⟨zblind, zpre hE hS (hP.sub [3] rfl) (hD.sub [3] (by decide) rfl) (va_free hD hS hA [3] rfl)⟩ rfl rfl hl.1 rfl (lv_room (Nat.le_of_ble_eq_true rfl)) (zdt_at zt_X4_wrapIn_0 37 rfl) ⟨Nat.zero_le _, Nat.zero_le _⟩) ?_
  clear hc_
  refine W.eq (g2 := F0 m 75 ls [.long r_26, .int (0 : Int32), .ref h0_block]) rfl ?_
  refine lv_iload_n (pc := 75) hx hb (zdt_at zt_X4_wrapIn_0 38 rfl) rfl (lv_at hl 0 rfl) ?_
  refine lv_i2l (pc := 76) hx hb (zdt_at zt_X4_wrapIn_0 39 rfl) rfl ?_
  refine lv_lxor (pc := 77) hx hb (zdt_at zt_X4_wrapIn_0 40 rfl) ?_
  replace hf := zb_s hf
  obtain ⟨c_block_27, hc_, hf⟩ := hf
  refine zcn2 (pc := 78) (rv := none) (va_runSN (As := [.ref h0_block, .int (0 : Int32), .long (r_26 ^^^ (i_13 + (1 : Int32)).toInt64)]) (rest := []) ⟨hx, hb, hml, hown, hts⟩ (c_X9_putLong l D cy tt H.size h0_block 16 (0 : Int32) (r_26 ^^^ (i_13 + (1 : Int32)).toInt64) c_block_25 c_block_27 hc_) ⟨va_cnB 3 hts gX4_wrapIn_X9_putLong_n70 rfl rfl rfl (gNs_10 hE.2.1) hw2 (by decide +kernel) ⟨Nat.le_of_ble_eq_true rfl, Nat.le_of_ble_eq_true rfl⟩, hw3, trivial⟩ ⟨zblind, zpre hE hS (hP.sub [3] rfl) (hD.sub [3] (by decide) rfl) (va_free hD hS hA [3] rfl)⟩ rfl rfl hl.1 rfl (lv_room (Nat.le_of_ble_eq_true rfl)) (zdt_at zt_X4_wrapIn_0 41 rfl) ⟨Nat.zero_le _, Nat.zero_le _⟩) hS hP hD (va_free hD hS hA [3] rfl) [3] rfl (by decide) rfl ?_
  clear hP hD hS hc_
  intro H locs hP hD hS
  replace hP : va_P D vwCl ([(h0, .inr (6, [.ref h0_aes, .ref h0_block, .ref h0_pad])), (h0_aes, .inr (2, [.ref h0_aes_keys, .int c_aes_rounds])), (h0_aes_keys, .inl (cy 1, 60, .inl c_aes_keys)), (h0_block, .inl (cy 0, 16, .inl c_block_27)), (ha1, .inl (cy 0, n_a1, .inl ca1_16))]) H := hP
  replace hD : va_D A ([(h0, .inr (6, [.ref h0_aes, .ref h0_block, .ref h0_pad])), (h0_aes, .inr (2, [.ref h0_aes_keys, .int c_aes_rounds])), (h0_aes_keys, .inl (cy 1, 60, .inl c_aes_keys)), (h0_block, .inl (cy 0, 16, .inl c_block_27)), (ha1, .inl (cy 0, n_a1, .inl ca1_16))]) := hD
  refine W.eq (g2 := F0 m 81 ls []) rfl ?_
  refine lv_aload_n (pc := 81) hx hb (zdt_at zt_X4_wrapIn_0 42 rfl) rfl (lv_at hl 1 rfl) ?_
  refine va_get (pc := 82) (D := D) (ci := 6) (v := .ref h0_block) (C := RX4) (T := TX4) (N := 3) hx hb hts hcX4 hown hK hP 0 rfl rfl 1 (by decide) hw0 (fun _ h9 => h9) rfl (zdt_at zt_X4_wrapIn_0 43 rfl) ?_
  refine lv_bipush (pc := 85) (v := (8 : Int32)) hx hb (zdt_at zt_X4_wrapIn_0 44 rfl) (by decide) ?_
  refine lv_aload_n (pc := 87) hx hb (zdt_at zt_X4_wrapIn_0 45 rfl) rfl (lv_at hl 2 rfl) ?_
  refine lv_iload (pc := 88) hx hb (zdt_at zt_X4_wrapIn_0 46 rfl) (lv_at hl 5 rfl) ?_
  refine lv_bipush (pc := 90) (v := (8 : Int32)) hx hb (zdt_at zt_X4_wrapIn_0 47 rfl) (by decide) ?_
  replace hf := zk_s hf
  refine va_copyi (pc := 92) hx hb (hml.trans hl.1.symm) hown hw4 hw5 hw6 hw7 hK hP hD hS 3 4 0 0 rfl rfl rfl rfl rfl hf.1.1 hf.1.2.1 hf.1.2.2.1 hf.1.2.2.2.1 hf.1.2.2.2.2.1 hf.1.2.2.2.2.2 (Nat.le_of_ble_eq_true rfl) (Nat.le_of_ble_eq_true rfl) (zdt_at zt_X4_wrapIn_0 48 rfl) ?_
  replace hf := hf.2
  clear hP hD hS
  intro H locs hP hD hS
  obtain ⟨ca1_28, e_⟩ : ∃ q : Nat → Int32, q = (va_cpy c_block_27 ca1_16 (8 : Int32).toNatClampNeg i_14.toNatClampNeg (8 : Int32).toNatClampNeg) := ⟨_, rfl⟩
  replace hf := zn_s hf e_
  replace hP : va_P D vwCl ([(h0, .inr (6, [.ref h0_aes, .ref h0_block, .ref h0_pad])), (h0_aes, .inr (2, [.ref h0_aes_keys, .int c_aes_rounds])), (h0_aes_keys, .inl (cy 1, 60, .inl c_aes_keys)), (h0_block, .inl (cy 0, 16, .inl c_block_27)), (ha1, .inl (cy 0, n_a1, .inl ca1_28))]) H := by rw [e_]; exact hP
  replace hD : va_D A ([(h0, .inr (6, [.ref h0_aes, .ref h0_block, .ref h0_pad])), (h0_aes, .inr (2, [.ref h0_aes_keys, .int c_aes_rounds])), (h0_aes_keys, .inl (cy 1, 60, .inl c_aes_keys)), (h0_block, .inl (cy 0, 16, .inl c_block_27)), (ha1, .inl (cy 0, n_a1, .inl ca1_28))]) := by rw [e_]; exact hD
  clear e_
  refine lv_iinc (pc := 95) (v := (i_14 + (8 : Int32))) (lv' := [(5, .int (i_14 + (8 : Int32))), (3, .int (i_13 + (1 : Int32))), (0, .ref h0), (1, .ref ha1), (2, .int p2), (4, .int i_3)]) hx hb (zdt_at zt_X4_wrapIn_0 49 rfl) hl (k := 5) rfl rfl (by decide) rfl ?_
  clear hl
  intro ls hl
  refine lv_goto (pc := 98) (tgt := 27) hx hb (zdt_at zt_X4_wrapIn_0 50 rfl) (by decide) ?_
  exact hTo _ _ _ (ihself_21 _ hf H locs ls hP hD hS (lv_sub hl [2, 3, 4, 1, 5, 0] rfl))
set_option maxHeartbeats 4000000 in
set_option maxRecDepth 100000 in
theorem c_X4_wrapOut (l : Launch) (D : va_G) (cy : Nat → ClassId) (tt : Nat → Nat) (sz : Nat) (h0 : Nat) (h0_aes : Nat) (h0_block : Nat) (h0_pad : Nat) (h0_aes_keys : Nat) (ha1 : Nat) (n_a1 : Nat) (p2 : Int32) (c_aes_rounds : Int32) (c_aes_keys : Nat → Int32) (c_block : Nat → Int32) (ca1 : Nat → Int32) (r_ : Int32) (c_block' : Nat → Int32) (ca1' : Nat → Int32) (hf : f_X4_wrapOut n_a1 p2 c_aes_rounds c_aes_keys c_block ca1 = some (r_, c_block', ca1')) : Met l yX4_wrapOut wsX4_wrapOut ({ frames := 3, cells := 0, slots := 0, locals := 76 }) (zPc D cy tt sz [.ref h0, .ref ha1, .int p2] ([(h0, .inr (6, [.ref h0_aes, .ref h0_block, .ref h0_pad])), (h0_aes, .inr (2, [.ref h0_aes_keys, .int c_aes_rounds])), (h0_aes_keys, .inl (cy 1, 60, .inl c_aes_keys)), (h0_block, .inl (cy 0, 16, .inl c_block)), (ha1, .inl (cy 0, n_a1, .inl ca1))])) (zQ D (some (.int r_)) ([(h0, .inr (6, [.ref h0_aes, .ref h0_block, .ref h0_pad])), (h0_aes, .inr (2, [.ref h0_aes_keys, .int c_aes_rounds])), (h0_aes_keys, .inl (cy 1, 60, .inl c_aes_keys)), (h0_block, .inl (cy 0, 16, .inl c_block')), (ha1, .inl (cy 0, n_a1, .inl ca1'))]) (va_A ([(h0, .inr (6, [.ref h0_aes, .ref h0_block, .ref h0_pad])), (h0_aes, .inr (2, [.ref h0_aes_keys, .int c_aes_rounds])), (h0_aes_keys, .inl (cy 1, 60, .inl c_aes_keys)), (h0_block, .inl (cy 0, 16, .inl c_block)), (ha1, .inl (cy 0, n_a1, .inl ca1))]) sz)) 0 0 (va_A ([(h0, .inr (6, [.ref h0_aes, .ref h0_block, .ref h0_pad])), (h0_aes, .inr (2, [.ref h0_aes_keys, .int c_aes_rounds])), (h0_aes_keys, .inl (cy 1, 60, .inl c_aes_keys)), (h0_block, .inl (cy 0, 16, .inl c_block)), (ha1, .inl (cy 0, n_a1, .inl ca1))]) sz) := by
  refine Met.ofW (cc := cX4_wrapOut) (maxL := 6) (ret := (some .boolean)) (by decide) rfl ?_
  intro p e s m args below meth c s₁ B hml hv
  obtain ⟨rfl, rfl, hP, hD0, hE⟩ := hv
  have hx := B.exec
  have hb := B.bytes
  have hr := B.returns
  have hts := atoms_spec (ws := wsX4_wrapOut) B.pre
  have hown : s.vm.findClass RX4 = some m.cls := findClass_of_methodNamed B.named
  have hlocks := B.notSynchronized
  clear B
  have hD := hD0.self (sz := s.heap.size)
  generalize hAe : va_A ([(h0, .inr (6, [.ref h0_aes, .ref h0_block, .ref h0_pad])), (h0_aes, .inr (2, [.ref h0_aes_keys, .int c_aes_rounds])), (h0_aes_keys, .inl (cy 1, 60, .inl c_aes_keys)), (h0_block, .inl (cy 0, 16, .inl c_block)), (ha1, .inl (cy 0, n_a1, .inl ca1))]) s.heap.size = A at hD hE ⊢
  have hA : ∀ q : Nat, s.heap.size ≤ q → A q := fun q h => by rw [← hAe]; exact Or.inr h
  clear hAe hD0
  have hS : va_S A s.heap s.heap [] := va_S.rf
  have hK := hE.1
  have hw0 := hts (.fieldLink RX4 9 "SealedModule$Modes" "block" "[B") (by decide +kernel)
  have hw1 := hts (.methodLink RX4 35 arraycopyName) (by decide +kernel)
  have hw2 := hts (.native arraycopyName) (by decide +kernel)
  have hw3 := hts (.static arraycopyName) (by decide +kernel)
  have hw4 := hts (.initialized "java/lang/System") (by decide +kernel)
  have hw5 := hts (.initialized RX9) (by decide +kernel)
  have hw6 := hts (.static yX9_longAt) (by decide +kernel)
  have hw7 := hts (.constantLong RX4 74 (-6438275382588823898)) (by decide +kernel)
  have hw8 := hts (.static yX9_putLong) (by decide +kernel)
  have hw9 := hts (.fieldLink RX4 18 "SealedModule$Modes" "aes" "LSealedModule$Aes;") (by decide +kernel)
  have hcX4 : ∀ w ∈ u_ws RX4 TX4 3, w ∈ wsX4_wrapOut := (fun _ h => List.mem_cons_of_mem _ (List.mem_append_left _ (List.mem_append_right _ h)))
  have hl := lv_entry ([.ref h0, .ref ha1, .int p2]) (n := 6) (Nat.le_of_ble_eq_true rfl)
  rw [lg_entry_eq]
  generalize (lg_sl ([.ref h0, .ref ha1, .int p2]) ++ List.replicate (6 - (lg_sl ([.ref h0, .ref ha1, .int p2])).length) Slot.unset).toArray = ls at hl ⊢
  replace hl : lv_has ls 6 [(0, .ref h0), (1, .ref ha1), (2, .int p2)] := hl
  unfold f_X4_wrapOut at hf
  refine zgo (fun GW hTo hFr => ?_)
  refine hFr _ _ _ ?_
  obtain ⟨H, hHe⟩ : ∃ H, H = s.heap := ⟨_, rfl⟩
  obtain ⟨locs, hLe⟩ : ∃ L : List Loc, L = [] := ⟨_, rfl⟩
  rw [← hHe] at hP
  replace hS : va_S A s.heap H locs := by rw [hHe, hLe]; exact hS
  refine zat hHe.symm hLe.symm ?_
  clear hHe hLe
  refine lv_aload_n (pc := 0) hx hb (zdt_at zt_X4_wrapOut_0 0 rfl) rfl (lv_at hl 1 rfl) ?_
  refine lv_iconst (pc := 1) (v := (0 : Int32)) hx hb (zdt_at zt_X4_wrapOut_0 1 rfl) (by decide) ?_
  refine lv_aload_n (pc := 2) hx hb (zdt_at zt_X4_wrapOut_0 2 rfl) rfl (lv_at hl 0 rfl) ?_
  refine va_get (pc := 3) (D := D) (ci := 6) (v := .ref h0_block) (C := RX4) (T := TX4) (N := 3) hx hb hts hcX4 hown hK hP 0 rfl rfl 1 (by decide) hw0 (fun _ h9 => h9) rfl (zdt_at zt_X4_wrapOut_0 3 rfl) ?_
  refine lv_iconst (pc := 6) (v := (0 : Int32)) hx hb (zdt_at zt_X4_wrapOut_0 4 rfl) (by decide) ?_
  refine lv_bipush (pc := 7) (v := (8 : Int32)) hx hb (zdt_at zt_X4_wrapOut_0 5 rfl) (by decide) ?_
  replace hf := zk_s hf
  refine va_copyi (pc := 9) hx hb (hml.trans hl.1.symm) hown hw1 hw2 hw3 hw4 hK hP hD hS 4 3 0 0 rfl rfl rfl rfl rfl hf.1.1 hf.1.2.1 hf.1.2.2.1 hf.1.2.2.2.1 hf.1.2.2.2.2.1 hf.1.2.2.2.2.2 (Nat.le_of_ble_eq_true rfl) (Nat.le_of_ble_eq_true rfl) (zdt_at zt_X4_wrapOut_0 6 rfl) ?_
  replace hf := hf.2
  clear hP hD hS
  intro H locs hP hD hS
  obtain ⟨c_block_1, e_⟩ : ∃ q : Nat → Int32, q = (va_cpy ca1 c_block (0 : Int32).toNatClampNeg (0 : Int32).toNatClampNeg (8 : Int32).toNatClampNeg) := ⟨_, rfl⟩
  replace hf := zn_s hf e_
  replace hP : va_P D vwCl ([(h0, .inr (6, [.ref h0_aes, .ref h0_block, .ref h0_pad])), (h0_aes, .inr (2, [.ref h0_aes_keys, .int c_aes_rounds])), (h0_aes_keys, .inl (cy 1, 60, .inl c_aes_keys)), (h0_block, .inl (cy 0, 16, .inl c_block_1)), (ha1, .inl (cy 0, n_a1, .inl ca1))]) H := by rw [e_]; exact hP
  replace hD : va_D A ([(h0, .inr (6, [.ref h0_aes, .ref h0_block, .ref h0_pad])), (h0_aes, .inr (2, [.ref h0_aes_keys, .int c_aes_rounds])), (h0_aes_keys, .inl (cy 1, 60, .inl c_aes_keys)), (h0_block, .inl (cy 0, 16, .inl c_block_1)), (ha1, .inl (cy 0, n_a1, .inl ca1))]) := by rw [e_]; exact hD
  clear e_
  refine lv_bipush (pc := 12) (v := (6 : Int32)) hx hb (zdt_at zt_X4_wrapOut_0 7 rfl) (by decide) ?_
  refine lv_iload_n (pc := 14) hx hb (zdt_at zt_X4_wrapOut_0 8 rfl) rfl (lv_at hl 2 rfl) ?_
  refine lv_bipush (pc := 15) (v := (8 : Int32)) hx hb (zdt_at zt_X4_wrapOut_0 9 rfl) (by decide) ?_
  replace hf := zk_s hf
  refine lv_idiv (pc := 17) hx hb (zdt_at zt_X4_wrapOut_0 10 rfl) hf.1 ?_
  replace hf := hf.2
  refine lv_iconst (pc := 18) (v := (1 : Int32)) hx hb (zdt_at zt_X4_wrapOut_0 11 rfl) (by decide) ?_
  refine lv_isub (pc := 19) hx hb (zdt_at zt_X4_wrapOut_0 12 rfl) ?_
  refine lv_imul (pc := 20) hx hb (zdt_at zt_X4_wrapOut_0 13 rfl) ?_
  refine lv_topi (fun x_2 e_ => ?_)
  replace hf := zn_s hf e_
  clear e_
  refine lv_istore_n (pc := 21) (lv' := [(3, .int x_2), (0, .ref h0), (1, .ref ha1), (2, .int p2)]) hx hb (zdt_at zt_X4_wrapOut_0 14 rfl) rfl hl (by decide) rfl ?_
  clear hl
  intro ls hl
  refine lv_iconst (pc := 22) (v := (0 : Int32)) hx hb (zdt_at zt_X4_wrapOut_0 15 rfl) (by decide) ?_
  refine lv_istore (pc := 23) (lv' := [(4, .int (0 : Int32)), (3, .int x_2), (0, .ref h0), (1, .ref ha1), (2, .int p2)]) hx hb (zdt_at zt_X4_wrapOut_0 16 rfl) hl (by decide) rfl ?_
  clear hl
  intro ls hl
  replace hf := zj_s hf
  obtain ⟨K_9, eK_9, hf⟩ := hf
  have kK_9 : ∀ (c_block_7 : Nat → Int32) (ca1_8 : Nat → Int32) (H : Heap) (locs : List Loc) (ls : Array Slot), va_P D vwCl ([(h0, .inr (6, [.ref h0_aes, .ref h0_block, .ref h0_pad])), (h0_aes, .inr (2, [.ref h0_aes_keys, .int c_aes_rounds])), (h0_aes_keys, .inl (cy 1, 60, .inl c_aes_keys)), (h0_block, .inl (cy 0, 16, .inl c_block_7)), (ha1, .inl (cy 0, n_a1, .inl ca1_8))]) H → va_D A ([(h0, .inr (6, [.ref h0_aes, .ref h0_block, .ref h0_pad])), (h0_aes, .inr (2, [.ref h0_aes_keys, .int c_aes_rounds])), (h0_aes_keys, .inl (cy 1, 60, .inl c_aes_keys)), (h0_block, .inl (cy 0, 16, .inl c_block_7)), (ha1, .inl (cy 0, n_a1, .inl ca1_8))]) → va_S A s.heap H locs → lv_has ls 6 [(0, .ref h0)] → K_9 c_block_7 ca1_8 = some (r_, c_block', ca1') → GW H locs (F0 m 117 ls []) := by
    clear hf hl hP hD hS
    intro c_block_7 ca1_8 H locs ls hP hD hS hl hf
    rw [eK_9] at hf
    clear eK_9
    refine hFr _ _ _ ?_
    refine lv_aload_n (pc := 117) hx hb (zdt_at zt_X4_wrapOut_0 62 rfl) rfl (lv_at hl 0 rfl) ?_
    refine va_get (pc := 118) (D := D) (ci := 6) (v := .ref h0_block) (C := RX4) (T := TX4) (N := 3) hx hb hts hcX4 hown hK hP 0 rfl rfl 1 (by decide) hw0 (fun _ h9 => h9) rfl (zdt_at zt_X4_wrapOut_0 63 rfl) ?_
    refine lv_iconst (pc := 121) (v := (0 : Int32)) hx hb (zdt_at zt_X4_wrapOut_1 0 rfl) (by decide) ?_
    replace hf := zb_s hf
    obtain ⟨r_10, hc_, hf⟩ := hf
    refine zcs (pc := 122) (rv := (some (.long r_10))) (va_runSN (As := [.ref h0_block, .int (0 : Int32)]) (rest := []) ⟨hx, hb, hml, hown, hts⟩ (c_X9_longAt l D cy tt H.size h0_block 16 (0 : Int32) c_block_7 r_10 hc_) ⟨va_cnB 2 hts gX4_wrapOut_X9_longAt_n66 rfl rfl rfl (gNs_9 hE.2.1) hw5 (by decide +kernel) ⟨Nat.le_of_ble_eq_true rfl, Nat.le_of_ble_eq_true rfl⟩, hw6, trivial⟩ ⟨zblind, zpre hE hS (hP.sub [3] rfl) (hD.sub [3] (by decide) rfl) (va_free hD hS hA [3] rfl)⟩ rfl rfl hl.1 rfl (lv_room (Nat.le_of_ble_eq_true rfl)) (zdt_at zt_X4_wrapOut_1 1 rfl) ⟨Nat.zero_le _, Nat.zero_le _⟩) ?_
    clear hc_
    refine W.eq (g2 := F0 m 125 ls [.long r_10]) rfl ?_
    refine lv_ldc2 (pc := 125) hx hb hown hw7 (zdt_at zt_X4_wrapOut_1 2 rfl) ?_
    refine W.lcmp (pc := 128) hx hb (zdt_at zt_X4_wrapOut_1 3 rfl) ?_
    refine lv_if_ne (pc := 129) (tgt := 136) hx hb (zdt_at zt_X4_wrapOut_1 4 rfl) (by decide) (fun cn_ => ?t_11) (fun cn_ => ?f_12)
    case t_11 =>
      replace hf := ze_s cn_ hf
      clear cn_
      refine lv_iconst (pc := 136) (v := (0 : Int32)) hx hb (zdt_at zt_X4_wrapOut_1 7 rfl) (by decide) ?_
      cases hf
      exact W.zret (pc := 137) hx hb hr rfl (fun t ht hW => ⟨rfl, ⟨by rw [ht]; exact hP, hD⟩, hS.F ht⟩) hS.2.2 (zdt_at zt_X4_wrapOut_1 8 rfl)
    replace hf := zt_s cn_ hf
    clear cn_
    refine lv_iconst (pc := 132) (v := (1 : Int32)) hx hb (zdt_at zt_X4_wrapOut_1 5 rfl) (by decide) ?_
    refine lv_goto (pc := 133) (tgt := 137) hx hb (zdt_at zt_X4_wrapOut_1 6 rfl) (by decide) ?_
    cases hf
    exact W.zret (pc := 137) hx hb hr rfl (fun t ht hW => ⟨rfl, ⟨by rw [ht]; exact hP, hD⟩, hS.F ht⟩) hS.2.2 (zdt_at zt_X4_wrapOut_1 8 rfl)
  clear eK_9
  refine hTo _ _ _ (zl_go (fun z => match z with | (i_3, i_4, c_block_5, ca1_6) => ∀ (H : Heap) (locs : List Loc) (ls : Array Slot), va_P D vwCl ([(h0, .inr (6, [.ref h0_aes, .ref h0_block, .ref h0_pad])), (h0_aes, .inr (2, [.ref h0_aes_keys, .int c_aes_rounds])), (h0_aes_keys, .inl (cy 1, 60, .inl c_aes_keys)), (h0_block, .inl (cy 0, 16, .inl c_block_5)), (ha1, .inl (cy 0, n_a1, .inl ca1_6))]) H → va_D A ([(h0, .inr (6, [.ref h0_aes, .ref h0_block, .ref h0_pad])), (h0_aes, .inr (2, [.ref h0_aes_keys, .int c_aes_rounds])), (h0_aes_keys, .inl (cy 1, 60, .inl c_aes_keys)), (h0_block, .inl (cy 0, 16, .inl c_block_5)), (ha1, .inl (cy 0, n_a1, .inl ca1_6))]) → va_S A s.heap H locs → lv_has ls 6 [(0, .ref h0), (1, .ref ha1), (2, .int p2), (3, .int i_3), (4, .int i_4)] → GW H locs (F0 m 25 ls [])) hf ?_ H locs ls hP hD hS (lv_sub hl [2, 3, 4, 1, 0] rfl))
  clear hf hl hP hD hS
  intro self_13 ihself_13 z hf
  obtain ⟨i_3, i_4, c_block_5, ca1_6⟩ := z
  intro H locs ls hP hD hS hl
  refine hFr _ _ _ ?_
  unfold b_X4_wrapOut_25 at hf
  refine lv_iload (pc := 25) hx hb (zdt_at zt_X4_wrapOut_0 17 rfl) (lv_at hl 4 rfl) ?_
  refine lv_bipush (pc := 27) (v := (6 : Int32)) hx hb (zdt_at zt_X4_wrapOut_0 18 rfl) (by decide) ?_
  refine lv_icmp_ge (pc := 29) (tgt := 117) hx hb (zdt_at zt_X4_wrapOut_0 19 rfl) (by decide) (fun cn_ => ?t_14) (fun cn_ => ?f_15)
  case t_14 =>
    replace hf := zt_s cn_ hf
    clear cn_
    exact hTo _ _ _ (kK_9 _ _ H locs ls hP hD hS (lv_sub hl [0] rfl) hf)
  replace hf := ze_s cn_ hf
  clear cn_
  refine lv_iload_n (pc := 32) hx hb (zdt_at zt_X4_wrapOut_0 20 rfl) rfl (lv_at hl 2 rfl) ?_
  refine lv_bipush (pc := 33) (v := (8 : Int32)) hx hb (zdt_at zt_X4_wrapOut_0 21 rfl) (by decide) ?_
  refine lv_isub (pc := 35) hx hb (zdt_at zt_X4_wrapOut_0 22 rfl) ?_
  refine lv_topi (fun x_16 e_ => ?_)
  replace hf := zn_s hf e_
  clear e_
  refine lv_istore (pc := 36) (lv' := [(5, .int x_16), (0, .ref h0), (1, .ref ha1), (2, .int p2), (3, .int i_3), (4, .int i_4)]) hx hb (zdt_at zt_X4_wrapOut_0 23 rfl) hl (by decide) rfl ?_
  clear hl
  intro ls hl
  replace hf := zj_s hf
  obtain ⟨K_24, eK_24, hf⟩ := hf
  have kK_24 : ∀ (v_21 : Int32) (c_block_22 : Nat → Int32) (ca1_23 : Nat → Int32) (H : Heap) (locs : List Loc) (ls : Array Slot), va_P D vwCl ([(h0, .inr (6, [.ref h0_aes, .ref h0_block, .ref h0_pad])), (h0_aes, .inr (2, [.ref h0_aes_keys, .int c_aes_rounds])), (h0_aes_keys, .inl (cy 1, 60, .inl c_aes_keys)), (h0_block, .inl (cy 0, 16, .inl c_block_22)), (ha1, .inl (cy 0, n_a1, .inl ca1_23))]) H → va_D A ([(h0, .inr (6, [.ref h0_aes, .ref h0_block, .ref h0_pad])), (h0_aes, .inr (2, [.ref h0_aes_keys, .int c_aes_rounds])), (h0_aes_keys, .inl (cy 1, 60, .inl c_aes_keys)), (h0_block, .inl (cy 0, 16, .inl c_block_22)), (ha1, .inl (cy 0, n_a1, .inl ca1_23))]) → va_S A s.heap H locs → lv_has ls 6 [(0, .ref h0), (1, .ref ha1), (2, .int p2), (3, .int v_21), (4, .int i_4)] → K_24 v_21 c_block_22 ca1_23 = some (r_, c_block', ca1') → GW H locs (F0 m 111 ls []) := by
    clear hf hl hP hD hS
    intro v_21 c_block_22 ca1_23 H locs ls hP hD hS hl hf
    rw [eK_24] at hf
    clear eK_24
    refine hFr _ _ _ ?_
    refine lv_iinc (pc := 111) (v := (i_4 + (1 : Int32))) (lv' := [(4, .int (i_4 + (1 : Int32))), (0, .ref h0), (1, .ref ha1), (2, .int p2), (3, .int v_21)]) hx hb (zdt_at zt_X4_wrapOut_0 60 rfl) hl (k := 4) rfl rfl (by decide) rfl ?_
    clear hl
    intro ls hl
    refine lv_goto (pc := 114) (tgt := 25) hx hb (zdt_at zt_X4_wrapOut_0 61 rfl) (by decide) ?_
    exact hTo _ _ _ (ihself_13 _ hf H locs ls hP hD hS (lv_sub hl [1, 2, 3, 4, 0] rfl))
  clear eK_24
  refine hTo _ _ _ (zl_go (fun z => match z with | (i_17, i_18, c_block_19, ca1_20) => ∀ (H : Heap) (locs : List Loc) (ls : Array Slot), va_P D vwCl ([(h0, .inr (6, [.ref h0_aes, .ref h0_block, .ref h0_pad])), (h0_aes, .inr (2, [.ref h0_aes_keys, .int c_aes_rounds])), (h0_aes_keys, .inl (cy 1, 60, .inl c_aes_keys)), (h0_block, .inl (cy 0, 16, .inl c_block_19)), (ha1, .inl (cy 0, n_a1, .inl ca1_20))]) H → va_D A ([(h0, .inr (6, [.ref h0_aes, .ref h0_block, .ref h0_pad])), (h0_aes, .inr (2, [.ref h0_aes_keys, .int c_aes_rounds])), (h0_aes_keys, .inl (cy 1, 60, .inl c_aes_keys)), (h0_block, .inl (cy 0, 16, .inl c_block_19)), (ha1, .inl (cy 0, n_a1, .inl ca1_20))]) → va_S A s.heap H locs → lv_has ls 6 [(0, .ref h0), (1, .ref ha1), (2, .int p2), (3, .int i_17), (4, .int i_4), (5, .int i_18)] → GW H locs (F0 m 38 ls [])) hf ?_ H locs ls hP hD hS (lv_sub hl [1, 2, 3, 4, 5, 0] rfl))
  clear hf hl hP hD hS
  intro self_25 ihself_25 z hf
  obtain ⟨i_17, i_18, c_block_19, ca1_20⟩ := z
  intro H locs ls hP hD hS hl
  refine hFr _ _ _ ?_
  unfold b_X4_wrapOut_38 at hf
  refine lv_iload (pc := 38) hx hb (zdt_at zt_X4_wrapOut_0 24 rfl) (lv_at hl 5 rfl) ?_
  refine lv_if_le (pc := 40) (tgt := 111) hx hb (zdt_at zt_X4_wrapOut_0 25 rfl) (by decide) (fun cn_ => ?t_26) (fun cn_ => ?f_27)
  case t_26 =>
    replace hf := zt_s cn_ hf
    clear cn_
    exact hTo _ _ _ (kK_24 _ _ _ H locs ls hP hD hS (lv_sub hl [0, 1, 2, 3, 4] rfl) hf)
  replace hf := ze_s cn_ hf
  clear cn_
  refine lv_aload_n (pc := 43) hx hb (zdt_at zt_X4_wrapOut_0 26 rfl) rfl (lv_at hl 0 rfl) ?_
  refine va_get (pc := 44) (D := D) (ci := 6) (v := .ref h0_block) (C := RX4) (T := TX4) (N := 3) hx hb hts hcX4 hown hK hP 0 rfl rfl 1 (by decide) hw0 (fun _ h9 => h9) rfl (zdt_at zt_X4_wrapOut_0 27 rfl) ?_
  refine lv_iconst (pc := 47) (v := (0 : Int32)) hx hb (zdt_at zt_X4_wrapOut_0 28 rfl) (by decide) ?_
  refine lv_aload_n (pc := 48) hx hb (zdt_at zt_X4_wrapOut_0 29 rfl) rfl (lv_at hl 0 rfl) ?_
  refine va_get (pc := 49) (D := D) (ci := 6) (v := .ref h0_block) (C := RX4) (T := TX4) (N := 3) hx hb hts hcX4 hown hK hP 0 rfl rfl 1 (by decide) hw0 (fun _ h9 => h9) rfl (zdt_at zt_X4_wrapOut_0 30 rfl) ?_
  refine lv_iconst (pc := 52) (v := (0 : Int32)) hx hb (zdt_at zt_X4_wrapOut_0 31 rfl) (by decide) ?_
  replace hf := zb_s hf
  obtain ⟨r_28, hc_, hf⟩ := hf
  refine zcs (pc := 53) (rv := (some (.long r_28))) (va_runSN (As := [.ref h0_block, .int (0 : Int32)]) (rest := [.int (0 : Int32), .ref h0_block]) ⟨hx, hb, hml, hown, hts⟩ (c_X9_longAt l D cy tt H.size h0_block 16 (0 : Int32) c_block_19 r_28 hc_) ⟨va_cnB 2 hts gX4_wrapOut_X9_longAt_n66 rfl rfl rfl (gNs_9 hE.2.1) hw5 (by decide +kernel) ⟨Nat.le_of_ble_eq_true rfl, Nat.le_of_ble_eq_true rfl⟩, hw6, trivial⟩ ⟨zblind, zpre hE hS (hP.sub [3] rfl) (hD.sub [3] (by decide) rfl) (va_free hD hS hA [3] rfl)⟩ rfl rfl hl.1 rfl (lv_room (Nat.le_of_ble_eq_true rfl)) (zdt_at zt_X4_wrapOut_0 32 rfl) ⟨Nat.zero_le _, Nat.zero_le _⟩) ?_
  clear hc_
  refine W.eq (g2 := F0 m 56 ls [.long r_28, .int (0 : Int32), .ref h0_block]) rfl ?_
  refine lv_iload_n (pc := 56) hx hb (zdt_at zt_X4_wrapOut_0 33 rfl) rfl (lv_at hl 3 rfl) ?_
  refine lv_i2l (pc := 57) hx hb (zdt_at zt_X4_wrapOut_0 34 rfl) rfl ?_
  refine lv_lxor (pc := 58) hx hb (zdt_at zt_X4_wrapOut_0 35 rfl) ?_
  replace hf := zb_s hf
  obtain ⟨c_block_29, hc_, hf⟩ := hf
  refine zcn2 (pc := 59) (rv := none) (va_runSN (As := [.ref h0_block, .int (0 : Int32), .long (r_28 ^^^ i_17.toInt64)]) (rest := []) ⟨hx, hb, hml, hown, hts⟩ (c_X9_putLong l D cy tt H.size h0_block 16 (0 : Int32) (r_28 ^^^ i_17.toInt64) c_block_19 c_block_29 hc_) ⟨va_cnB 3 hts gX4_wrapOut_X9_putLong_n70 rfl rfl rfl (gNs_10 hE.2.1) hw5 (by decide +kernel) ⟨Nat.le_of_ble_eq_true rfl, Nat.le_of_ble_eq_true rfl⟩, hw8, trivial⟩ ⟨zblind, zpre hE hS (hP.sub [3] rfl) (hD.sub [3] (by decide) rfl) (va_free hD hS hA [3] rfl)⟩ rfl rfl hl.1 rfl (lv_room (Nat.le_of_ble_eq_true rfl)) (zdt_at zt_X4_wrapOut_0 36 rfl) ⟨Nat.zero_le _, Nat.zero_le _⟩) hS hP hD (va_free hD hS hA [3] rfl) [3] rfl (by decide) rfl ?_
  clear hP hD hS hc_
  intro H locs hP hD hS
  replace hP : va_P D vwCl ([(h0, .inr (6, [.ref h0_aes, .ref h0_block, .ref h0_pad])), (h0_aes, .inr (2, [.ref h0_aes_keys, .int c_aes_rounds])), (h0_aes_keys, .inl (cy 1, 60, .inl c_aes_keys)), (h0_block, .inl (cy 0, 16, .inl c_block_29)), (ha1, .inl (cy 0, n_a1, .inl ca1_20))]) H := hP
  replace hD : va_D A ([(h0, .inr (6, [.ref h0_aes, .ref h0_block, .ref h0_pad])), (h0_aes, .inr (2, [.ref h0_aes_keys, .int c_aes_rounds])), (h0_aes_keys, .inl (cy 1, 60, .inl c_aes_keys)), (h0_block, .inl (cy 0, 16, .inl c_block_29)), (ha1, .inl (cy 0, n_a1, .inl ca1_20))]) := hD
  refine W.eq (g2 := F0 m 62 ls []) rfl ?_
  refine lv_aload_n (pc := 62) hx hb (zdt_at zt_X4_wrapOut_0 37 rfl) rfl (lv_at hl 1 rfl) ?_
  refine lv_iload (pc := 63) hx hb (zdt_at zt_X4_wrapOut_0 38 rfl) (lv_at hl 5 rfl) ?_
  refine lv_aload_n (pc := 65) hx hb (zdt_at zt_X4_wrapOut_0 39 rfl) rfl (lv_at hl 0 rfl) ?_
  refine va_get (pc := 66) (D := D) (ci := 6) (v := .ref h0_block) (C := RX4) (T := TX4) (N := 3) hx hb hts hcX4 hown hK hP 0 rfl rfl 1 (by decide) hw0 (fun _ h9 => h9) rfl (zdt_at zt_X4_wrapOut_0 40 rfl) ?_
  refine lv_bipush (pc := 69) (v := (8 : Int32)) hx hb (zdt_at zt_X4_wrapOut_0 41 rfl) (by decide) ?_
  refine lv_bipush (pc := 71) (v := (8 : Int32)) hx hb (zdt_at zt_X4_wrapOut_0 42 rfl) (by decide) ?_
  replace hf := zk_s hf
  refine va_copyi (pc := 73) hx hb (hml.trans hl.1.symm) hown hw1 hw2 hw3 hw4 hK hP hD hS 4 3 0 0 rfl rfl rfl rfl rfl hf.1.1 hf.1.2.1 hf.1.2.2.1 hf.1.2.2.2.1 hf.1.2.2.2.2.1 hf.1.2.2.2.2.2 (Nat.le_of_ble_eq_true rfl) (Nat.le_of_ble_eq_true rfl) (zdt_at zt_X4_wrapOut_0 43 rfl) ?_
  replace hf := hf.2
  clear hP hD hS
  intro H locs hP hD hS
  obtain ⟨c_block_30, e_⟩ : ∃ q : Nat → Int32, q = (va_cpy ca1_20 c_block_29 i_18.toNatClampNeg (8 : Int32).toNatClampNeg (8 : Int32).toNatClampNeg) := ⟨_, rfl⟩
  replace hf := zn_s hf e_
  replace hP : va_P D vwCl ([(h0, .inr (6, [.ref h0_aes, .ref h0_block, .ref h0_pad])), (h0_aes, .inr (2, [.ref h0_aes_keys, .int c_aes_rounds])), (h0_aes_keys, .inl (cy 1, 60, .inl c_aes_keys)), (h0_block, .inl (cy 0, 16, .inl c_block_30)), (ha1, .inl (cy 0, n_a1, .inl ca1_20))]) H := by rw [e_]; exact hP
  replace hD : va_D A ([(h0, .inr (6, [.ref h0_aes, .ref h0_block, .ref h0_pad])), (h0_aes, .inr (2, [.ref h0_aes_keys, .int c_aes_rounds])), (h0_aes_keys, .inl (cy 1, 60, .inl c_aes_keys)), (h0_block, .inl (cy 0, 16, .inl c_block_30)), (ha1, .inl (cy 0, n_a1, .inl ca1_20))]) := by rw [e_]; exact hD
  clear e_
  refine lv_aload_n (pc := 76) hx hb (zdt_at zt_X4_wrapOut_0 44 rfl) rfl (lv_at hl 0 rfl) ?_
  refine va_get (pc := 77) (D := D) (ci := 6) (v := .ref h0_aes) (C := RX4) (T := TX4) (N := 3) hx hb hts hcX4 hown hK hP 0 rfl rfl 0 (by decide) hw9 (fun _ h9 => h9) rfl (zdt_at zt_X4_wrapOut_0 45 rfl) ?_
  refine lv_aload_n (pc := 80) hx hb (zdt_at zt_X4_wrapOut_0 46 rfl) rfl (lv_at hl 0 rfl) ?_
  refine va_get (pc := 81) (D := D) (ci := 6) (v := .ref h0_block) (C := RX4) (T := TX4) (N := 3) hx hb hts hcX4 hown hK hP 0 rfl rfl 1 (by decide) hw0 (fun _ h9 => h9) rfl (zdt_at zt_X4_wrapOut_0 47 rfl) ?_
  refine lv_iconst (pc := 84) (v := (0 : Int32)) hx hb (zdt_at zt_X4_wrapOut_0 48 rfl) (by decide) ?_
  replace hf := zb_s hf
  obtain ⟨c_block_31, hc_, hf⟩ := hf
  refine zcn2 (pc := 85) (rv := none) (va_runV (As := [.ref h0_block, .int (0 : Int32)]) (rest := []) ⟨hx, hb, hml, hown, hts⟩ (c_X0_decrypt l D cy tt H.size h0_aes h0_aes_keys h0_block 16 (0 : Int32) c_aes_rounds c_aes_keys c_block_30 c_block_31 hc_) (cwV 2 hts gX4_wrapOut_X0_decrypt rfl rfl rfl (by decide +kernel) ⟨Nat.le_of_ble_eq_true rfl, Nat.le_of_ble_eq_true rfl⟩) ⟨zblind, va_recv hK hP (ci := 2) (q0 := 1) rfl rfl, zpre hE hS (hP.sub [1, 2, 3] rfl) (hD.sub [1, 2, 3] (by decide) rfl) (va_free hD hS hA [1, 2, 3] rfl)⟩ rfl rfl hl.1 rfl (lv_room (Nat.le_of_ble_eq_true rfl)) (zdt_at zt_X4_wrapOut_0 49 rfl) ⟨Nat.zero_le _, Nat.zero_le _⟩) hS hP hD (va_free hD hS hA [1, 2, 3] rfl) [1, 2, 3] rfl (by decide) rfl ?_
  clear hP hD hS hc_
  intro H locs hP hD hS
  replace hP : va_P D vwCl ([(h0, .inr (6, [.ref h0_aes, .ref h0_block, .ref h0_pad])), (h0_aes, .inr (2, [.ref h0_aes_keys, .int c_aes_rounds])), (h0_aes_keys, .inl (cy 1, 60, .inl c_aes_keys)), (h0_block, .inl (cy 0, 16, .inl c_block_31)), (ha1, .inl (cy 0, n_a1, .inl ca1_20))]) H := hP
  replace hD : va_D A ([(h0, .inr (6, [.ref h0_aes, .ref h0_block, .ref h0_pad])), (h0_aes, .inr (2, [.ref h0_aes_keys, .int c_aes_rounds])), (h0_aes_keys, .inl (cy 1, 60, .inl c_aes_keys)), (h0_block, .inl (cy 0, 16, .inl c_block_31)), (ha1, .inl (cy 0, n_a1, .inl ca1_20))]) := hD
  refine W.eq (g2 := F0 m 88 ls []) rfl ?_
  refine lv_aload_n (pc := 88) hx hb (zdt_at zt_X4_wrapOut_0 50 rfl) rfl (lv_at hl 0 rfl) ?_
  refine va_get (pc := 89) (D := D) (ci := 6) (v := .ref h0_block) (C := RX4) (T := TX4) (N := 3) hx hb hts hcX4 hown hK hP 0 rfl rfl 1 (by decide) hw0 (fun _ h9 => h9) rfl (zdt_at zt_X4_wrapOut_0 51 rfl) ?_
  refine lv_bipush (pc := 92) (v := (8 : Int32)) hx hb (zdt_at zt_X4_wrapOut_0 52 rfl) (by decide) ?_
  refine lv_aload_n (pc := 94) hx hb (zdt_at zt_X4_wrapOut_0 53 rfl) rfl (lv_at hl 1 rfl) ?_
  refine lv_iload (pc := 95) hx hb (zdt_at zt_X4_wrapOut_0 54 rfl) (lv_at hl 5 rfl) ?_
  refine lv_bipush (pc := 97) (v := (8 : Int32)) hx hb (zdt_at zt_X4_wrapOut_0 55 rfl) (by decide) ?_
  replace hf := zk_s hf
  refine va_copyi (pc := 99) hx hb (hml.trans hl.1.symm) hown hw1 hw2 hw3 hw4 hK hP hD hS 3 4 0 0 rfl rfl rfl rfl rfl hf.1.1 hf.1.2.1 hf.1.2.2.1 hf.1.2.2.2.1 hf.1.2.2.2.2.1 hf.1.2.2.2.2.2 (Nat.le_of_ble_eq_true rfl) (Nat.le_of_ble_eq_true rfl) (zdt_at zt_X4_wrapOut_0 56 rfl) ?_
  replace hf := hf.2
  clear hP hD hS
  intro H locs hP hD hS
  obtain ⟨ca1_32, e_⟩ : ∃ q : Nat → Int32, q = (va_cpy c_block_31 ca1_20 (8 : Int32).toNatClampNeg i_18.toNatClampNeg (8 : Int32).toNatClampNeg) := ⟨_, rfl⟩
  replace hf := zn_s hf e_
  replace hP : va_P D vwCl ([(h0, .inr (6, [.ref h0_aes, .ref h0_block, .ref h0_pad])), (h0_aes, .inr (2, [.ref h0_aes_keys, .int c_aes_rounds])), (h0_aes_keys, .inl (cy 1, 60, .inl c_aes_keys)), (h0_block, .inl (cy 0, 16, .inl c_block_31)), (ha1, .inl (cy 0, n_a1, .inl ca1_32))]) H := by rw [e_]; exact hP
  replace hD : va_D A ([(h0, .inr (6, [.ref h0_aes, .ref h0_block, .ref h0_pad])), (h0_aes, .inr (2, [.ref h0_aes_keys, .int c_aes_rounds])), (h0_aes_keys, .inl (cy 1, 60, .inl c_aes_keys)), (h0_block, .inl (cy 0, 16, .inl c_block_31)), (ha1, .inl (cy 0, n_a1, .inl ca1_32))]) := by rw [e_]; exact hD
  clear e_
  refine lv_iinc (pc := 102) (v := (i_17 + (-1 : Int32))) (lv' := [(3, .int (i_17 + (-1 : Int32))), (0, .ref h0), (1, .ref ha1), (2, .int p2), (4, .int i_4), (5, .int i_18)]) hx hb (zdt_at zt_X4_wrapOut_0 57 rfl) hl (k := 3) rfl rfl (by decide) rfl ?_
  clear hl
  intro ls hl
  refine lv_iinc (pc := 105) (v := (i_18 + (-8 : Int32))) (lv' := [(5, .int (i_18 + (-8 : Int32))), (3, .int (i_17 + (-1 : Int32))), (0, .ref h0), (1, .ref ha1), (2, .int p2), (4, .int i_4)]) hx hb (zdt_at zt_X4_wrapOut_0 58 rfl) hl (k := 5) rfl rfl (by decide) rfl ?_
  clear hl
  intro ls hl
  refine lv_goto (pc := 108) (tgt := 38) hx hb (zdt_at zt_X4_wrapOut_0 59 rfl) (by decide) ?_
  exact hTo _ _ _ (ihself_25 _ hf H locs ls hP hD hS (lv_sub hl [2, 3, 4, 1, 5, 0] rfl))
set_option maxHeartbeats 4000000 in
set_option maxRecDepth 100000 in
theorem c_X2_paddedLong (l : Launch) (D : va_G) (cy : Nat → ClassId) (tt : Nat → Nat) (sz : Nat) (ha0 : Nat) (n_a0 : Nat) (p1 : Int32) (p2 : Int32) (ca0 : Nat → Int32) (r_ : Int64) (hf : f_X2_paddedLong n_a0 p1 p2 ca0 = some r_) : Met l yX2_paddedLong wsX2_paddedLong ({ frames := 0, cells := 0, slots := 0, locals := 0 }) (zPc D cy tt sz [.ref ha0, .int p1, .int p2] ([(ha0, .inl (cy 0, n_a0, .inl ca0))])) (fun _ st o t => o = .returned (some (.long r_)) ∧ t.heap = st.heap) 0 0 (fun _ => False) := by
  refine Met.ofW (cc := cX2_paddedLong) (maxL := 6) (ret := (some .long)) (by decide) rfl ?_
  intro p e s m args below meth c s₁ B hml hv
  obtain ⟨rfl, rfl, hP, hD0, hE⟩ := hv
  have hx := B.exec
  have hb := B.bytes
  have hr := B.returns
  have hts := atoms_spec (ws := wsX2_paddedLong) B.pre
  have hown : s.vm.findClass RX2 = some m.cls := findClass_of_methodNamed B.named
  have hlocks := B.notSynchronized
  clear B
  have hD := hD0.self (sz := s.heap.size)
  generalize hAe : va_A ([(ha0, .inl (cy 0, n_a0, .inl ca0))]) s.heap.size = A at hD hE
  have hA : ∀ q : Nat, s.heap.size ≤ q → A q := fun q h => by rw [← hAe]; exact Or.inr h
  clear hAe hD0
  have hS : va_S A s.heap s.heap [] := va_S.rf
  have hK := hE.1
  have hl := lv_entry ([.ref ha0, .int p1, .int p2]) (n := 6) (Nat.le_of_ble_eq_true rfl)
  rw [lg_entry_eq]
  generalize (lg_sl ([.ref ha0, .int p1, .int p2]) ++ List.replicate (6 - (lg_sl ([.ref ha0, .int p1, .int p2])).length) Slot.unset).toArray = ls at hl ⊢
  replace hl : lv_has ls 6 [(0, .ref ha0), (1, .int p1), (2, .int p2)] := hl
  unfold f_X2_paddedLong at hf
  refine zgo (fun GW hTo hFr => ?_)
  refine hFr _ _ _ ?_
  refine lv_lconst (pc := 0) (v := (0 : Int64)) hx hb (zdt_at zt_X2_paddedLong_0 0 rfl) (by decide) ?_
  refine lv_lstore_n (pc := 1) (lv' := [(3, .long (0 : Int64)), (0, .ref ha0), (1, .int p1), (2, .int p2)]) hx hb (zdt_at zt_X2_paddedLong_0 1 rfl) rfl hl (by decide) rfl ?_
  clear hl
  intro ls hl
  refine lv_iconst (pc := 2) (v := (0 : Int32)) hx hb (zdt_at zt_X2_paddedLong_0 2 rfl) (by decide) ?_
  refine lv_istore (pc := 3) (lv' := [(5, .int (0 : Int32)), (3, .long (0 : Int64)), (0, .ref ha0), (1, .int p1), (2, .int p2)]) hx hb (zdt_at zt_X2_paddedLong_0 3 rfl) hl (by decide) rfl ?_
  clear hl
  intro ls hl
  replace hf := zj_s hf
  obtain ⟨K_4, eK_4, hf⟩ := hf
  have kK_4 : ∀ (v_3 : Int64) (ls : Array Slot), lv_has ls 6 [(3, .long v_3)] → K_4 v_3 = some r_ → GW s.heap [] (F0 m 45 ls []) := by
    clear hf hl
    intro v_3 ls hl hf
    rw [eK_4] at hf
    clear eK_4
    refine hFr _ _ _ ?_
    refine lv_lload_n (pc := 45) hx hb (zdt_at zt_X2_paddedLong_0 27 rfl) rfl (lv_at hl 0 rfl) ?_
    cases hf
    exact W.lret (pc := 46) hx hb hr (fun t ht hW => ⟨rfl, ht⟩) (fun _ h => nomatch h) (zdt_at zt_X2_paddedLong_0 28 rfl)
  clear eK_4
  refine hTo _ _ _ (zl_go (fun z => match z with | (i_1, i_2) => ∀ (ls : Array Slot), lv_has ls 6 [(0, .ref ha0), (1, .int p1), (2, .int p2), (3, .long i_1), (5, .int i_2)] → GW s.heap [] (F0 m 5 ls [])) hf ?_ ls (lv_sub hl [2, 3, 4, 1, 0] rfl))
  clear hf hl
  intro self_5 ihself_5 z hf
  obtain ⟨i_1, i_2⟩ := z
  intro ls hl
  refine hFr _ _ _ ?_
  unfold b_X2_paddedLong_5 at hf
  refine lv_iload (pc := 5) hx hb (zdt_at zt_X2_paddedLong_0 4 rfl) (lv_at hl 4 rfl) ?_
  refine lv_bipush (pc := 7) (v := (8 : Int32)) hx hb (zdt_at zt_X2_paddedLong_0 5 rfl) (by decide) ?_
  refine lv_icmp_ge (pc := 9) (tgt := 45) hx hb (zdt_at zt_X2_paddedLong_0 6 rfl) (by decide) (fun cn_ => ?t_6) (fun cn_ => ?f_7)
  case t_6 =>
    replace hf := zt_s cn_ hf
    clear cn_
    exact hTo _ _ _ (kK_4 _ ls (lv_sub hl [3] rfl) hf)
  replace hf := ze_s cn_ hf
  clear cn_
  refine lv_lload_n (pc := 12) hx hb (zdt_at zt_X2_paddedLong_0 7 rfl) rfl (lv_at hl 3 rfl) ?_
  refine lv_bipush (pc := 13) (v := (8 : Int32)) hx hb (zdt_at zt_X2_paddedLong_0 8 rfl) (by decide) ?_
  refine lv_lshl (pc := 15) hx hb (zdt_at zt_X2_paddedLong_0 9 rfl) rfl ?_
  refine lv_iload (pc := 16) hx hb (zdt_at zt_X2_paddedLong_0 10 rfl) (lv_at hl 4 rfl) ?_
  refine lv_iload_n (pc := 18) hx hb (zdt_at zt_X2_paddedLong_0 11 rfl) rfl (lv_at hl 2 rfl) ?_
  refine lv_icmp_ge (pc := 19) (tgt := 35) hx hb (zdt_at zt_X2_paddedLong_0 12 rfl) (by decide) (fun cn_ => ?t_8) (fun cn_ => ?f_9)
  case t_8 =>
    replace hf := zt_s cn_ hf
    clear cn_
    refine lv_iconst (pc := 35) (v := (0 : Int32)) hx hb (zdt_at zt_X2_paddedLong_0 21 rfl) (by decide) ?_
    refine lv_i2l (pc := 36) hx hb (zdt_at zt_X2_paddedLong_0 22 rfl) rfl ?_
    refine lv_lor (pc := 37) hx hb (zdt_at zt_X2_paddedLong_0 23 rfl) ?_
    refine lv_topl (fun x_10 e_ => ?_)
    replace hf := zn_s hf e_
    clear e_
    refine lv_lstore_n (pc := 38) (lv' := [(3, .long x_10), (0, .ref ha0), (1, .int p1), (2, .int p2), (5, .int i_2)]) hx hb (zdt_at zt_X2_paddedLong_0 24 rfl) rfl hl (by decide) rfl ?_
    clear hl
    intro ls hl
    refine lv_iinc (pc := 39) (v := (i_2 + (1 : Int32))) (lv' := [(5, .int (i_2 + (1 : Int32))), (3, .long x_10), (0, .ref ha0), (1, .int p1), (2, .int p2)]) hx hb (zdt_at zt_X2_paddedLong_0 25 rfl) hl (k := 4) rfl rfl (by decide) rfl ?_
    clear hl
    intro ls hl
    refine lv_goto (pc := 42) (tgt := 5) hx hb (zdt_at zt_X2_paddedLong_0 26 rfl) (by decide) ?_
    exact hTo _ _ _ (ihself_5 _ hf ls (lv_sub hl [2, 3, 4, 1, 0] rfl))
  replace hf := ze_s cn_ hf
  clear cn_
  refine lv_aload_n (pc := 22) hx hb (zdt_at zt_X2_paddedLong_0 13 rfl) rfl (lv_at hl 0 rfl) ?_
  refine lv_iload_n (pc := 23) hx hb (zdt_at zt_X2_paddedLong_0 14 rfl) rfl (lv_at hl 1 rfl) ?_
  refine lv_iload (pc := 24) hx hb (zdt_at zt_X2_paddedLong_0 15 rfl) (lv_at hl 4 rfl) ?_
  refine lv_iadd (pc := 26) hx hb (zdt_at zt_X2_paddedLong_0 16 rfl) ?_
  replace hf := zk_s hf
  refine va_bald (pc := 27) hx hb hK hP 0 0 rfl rfl hf.1 (zdt_at zt_X2_paddedLong_0 17 rfl) ?_
  replace hf := hf.2
  refine lv_sipush (pc := 28) (v := (255 : Int32)) hx hb (zdt_at zt_X2_paddedLong_0 18 rfl) (by decide) ?_
  refine lv_iand (pc := 31) hx hb (zdt_at zt_X2_paddedLong_0 19 rfl) ?_
  refine lv_goto (pc := 32) (tgt := 36) hx hb (zdt_at zt_X2_paddedLong_0 20 rfl) (by decide) ?_
  refine lv_i2l (pc := 36) hx hb (zdt_at zt_X2_paddedLong_0 22 rfl) rfl ?_
  refine lv_lor (pc := 37) hx hb (zdt_at zt_X2_paddedLong_0 23 rfl) ?_
  refine lv_topl (fun x_11 e_ => ?_)
  replace hf := zn_s hf e_
  clear e_
  refine lv_lstore_n (pc := 38) (lv' := [(3, .long x_11), (0, .ref ha0), (1, .int p1), (2, .int p2), (5, .int i_2)]) hx hb (zdt_at zt_X2_paddedLong_0 24 rfl) rfl hl (by decide) rfl ?_
  clear hl
  intro ls hl
  refine lv_iinc (pc := 39) (v := (i_2 + (1 : Int32))) (lv' := [(5, .int (i_2 + (1 : Int32))), (3, .long x_11), (0, .ref ha0), (1, .int p1), (2, .int p2)]) hx hb (zdt_at zt_X2_paddedLong_0 25 rfl) hl (k := 4) rfl rfl (by decide) rfl ?_
  clear hl
  intro ls hl
  refine lv_goto (pc := 42) (tgt := 5) hx hb (zdt_at zt_X2_paddedLong_0 26 rfl) (by decide) ?_
  exact hTo _ _ _ (ihself_5 _ hf ls (lv_sub hl [2, 3, 4, 1, 0] rfl))
set_option maxHeartbeats 4000000 in
set_option maxRecDepth 100000 in
theorem c_X2_multiply (l : Launch) (D : va_G) (cy : Nat → ClassId) (tt : Nat → Nat) (sz : Nat) (h0 : Nat) (h0_aes : Nat) (h0_modes : Nat) (h0_tag : Nat) (c_keyHigh : Int64) (c_keyLow : Int64) (c_sumHigh : Int64) (c_sumLow : Int64) (c_sumHigh' : Int64) (c_sumLow' : Int64) (hf : f_X2_multiply c_keyHigh c_keyLow c_sumHigh c_sumLow = some (c_sumHigh', c_sumLow')) : Met l yX2_multiply wsX2_multiply ({ frames := 0, cells := 0, slots := 0, locals := 0 }) (zPc D cy tt sz [.ref h0] ([(h0, .inr (4, [.ref h0_aes, .ref h0_modes, .ref h0_tag, .long c_keyHigh, .long c_keyLow, .long c_sumHigh, .long c_sumLow]))])) (zQ D none ([(h0, .inr (4, [.ref h0_aes, .ref h0_modes, .ref h0_tag, .long c_keyHigh, .long c_keyLow, .long c_sumHigh', .long c_sumLow']))]) (va_A ([(h0, .inr (4, [.ref h0_aes, .ref h0_modes, .ref h0_tag, .long c_keyHigh, .long c_keyLow, .long c_sumHigh, .long c_sumLow]))]) sz)) 0 0 (va_A ([(h0, .inr (4, [.ref h0_aes, .ref h0_modes, .ref h0_tag, .long c_keyHigh, .long c_keyLow, .long c_sumHigh, .long c_sumLow]))]) sz) := by
  refine Met.ofW (cc := cX2_multiply) (maxL := 13) (ret := none) (by decide) rfl ?_
  intro p e s m args below meth c s₁ B hml hv
  obtain ⟨rfl, rfl, hP, hD0, hE⟩ := hv
  have hx := B.exec
  have hb := B.bytes
  have hr := B.returns
  have hts := atoms_spec (ws := wsX2_multiply) B.pre
  have hown : s.vm.findClass RX2 = some m.cls := findClass_of_methodNamed B.named
  have hlocks := B.notSynchronized
  clear B
  have hD := hD0.self (sz := s.heap.size)
  generalize hAe : va_A ([(h0, .inr (4, [.ref h0_aes, .ref h0_modes, .ref h0_tag, .long c_keyHigh, .long c_keyLow, .long c_sumHigh, .long c_sumLow]))]) s.heap.size = A at hD hE ⊢
  have hA : ∀ q : Nat, s.heap.size ≤ q → A q := fun q h => by rw [← hAe]; exact Or.inr h
  clear hAe hD0
  have hS : va_S A s.heap s.heap [] := va_S.rf
  have hK := hE.1
  have hw0 := hts (.fieldLink RX2 15 "SealedModule$Gcm" "keyHigh" "J") (by decide +kernel)
  have hw1 := hts (.fieldLink RX2 19 "SealedModule$Gcm" "keyLow" "J") (by decide +kernel)
  have hw2 := hts (.fieldLink RX2 22 "SealedModule$Gcm" "sumHigh" "J") (by decide +kernel)
  have hw3 := hts (.fieldLink RX2 25 "SealedModule$Gcm" "sumLow" "J") (by decide +kernel)
  have hw4 := hts (.constantLong RX2 91 (-2233785415175766016)) (by decide +kernel)
  have hcX2 : ∀ w ∈ u_ws RX2 TX2 7, w ∈ wsX2_multiply := (fun _ h => List.mem_cons_of_mem _ (List.mem_append_right _ h))
  have hl := lv_entry ([.ref h0]) (n := 13) (Nat.le_of_ble_eq_true rfl)
  rw [lg_entry_eq]
  generalize (lg_sl ([.ref h0]) ++ List.replicate (13 - (lg_sl ([.ref h0])).length) Slot.unset).toArray = ls at hl ⊢
  replace hl : lv_has ls 13 [(0, .ref h0)] := hl
  unfold f_X2_multiply at hf
  refine zgo (fun GW hTo hFr => ?_)
  refine hFr _ _ _ ?_
  obtain ⟨H, hHe⟩ : ∃ H, H = s.heap := ⟨_, rfl⟩
  obtain ⟨locs, hLe⟩ : ∃ L : List Loc, L = [] := ⟨_, rfl⟩
  rw [← hHe] at hP
  replace hS : va_S A s.heap H locs := by rw [hHe, hLe]; exact hS
  refine zat hHe.symm hLe.symm ?_
  clear hHe hLe
  refine lv_lconst (pc := 0) (v := (0 : Int64)) hx hb (zdt_at zt_X2_multiply_0 0 rfl) (by decide) ?_
  refine lv_lstore_n (pc := 1) (lv' := [(1, .long (0 : Int64)), (0, .ref h0)]) hx hb (zdt_at zt_X2_multiply_0 1 rfl) rfl hl (by decide) rfl ?_
  clear hl
  intro ls hl
  refine lv_lconst (pc := 2) (v := (0 : Int64)) hx hb (zdt_at zt_X2_multiply_0 2 rfl) (by decide) ?_
  refine lv_lstore_n (pc := 3) (lv' := [(3, .long (0 : Int64)), (1, .long (0 : Int64)), (0, .ref h0)]) hx hb (zdt_at zt_X2_multiply_0 3 rfl) rfl hl (by decide) rfl ?_
  clear hl
  intro ls hl
  refine lv_aload_n (pc := 4) hx hb (zdt_at zt_X2_multiply_0 4 rfl) rfl (lv_at hl 2 rfl) ?_
  refine va_get (pc := 5) (D := D) (ci := 4) (v := .long c_keyHigh) (C := RX2) (T := TX2) (N := 7) hx hb hts hcX2 hown hK hP 0 rfl rfl 3 (by decide) hw0 (fun _ h9 => h9) rfl (zdt_at zt_X2_multiply_0 5 rfl) ?_
  refine lv_lstore (pc := 8) (lv' := [(5, .long c_keyHigh), (3, .long (0 : Int64)), (1, .long (0 : Int64)), (0, .ref h0)]) hx hb (zdt_at zt_X2_multiply_0 6 rfl) hl (by decide) rfl ?_
  clear hl
  intro ls hl
  refine lv_aload_n (pc := 10) hx hb (zdt_at zt_X2_multiply_0 7 rfl) rfl (lv_at hl 3 rfl) ?_
  refine va_get (pc := 11) (D := D) (ci := 4) (v := .long c_keyLow) (C := RX2) (T := TX2) (N := 7) hx hb hts hcX2 hown hK hP 0 rfl rfl 4 (by decide) hw1 (fun _ h9 => h9) rfl (zdt_at zt_X2_multiply_0 8 rfl) ?_
  refine lv_lstore (pc := 14) (lv' := [(7, .long c_keyLow), (5, .long c_keyHigh), (3, .long (0 : Int64)), (1, .long (0 : Int64)), (0, .ref h0)]) hx hb (zdt_at zt_X2_multiply_0 9 rfl) hl (by decide) rfl ?_
  clear hl
  intro ls hl
  refine lv_iconst (pc := 16) (v := (0 : Int32)) hx hb (zdt_at zt_X2_multiply_0 10 rfl) (by decide) ?_
  refine lv_istore (pc := 17) (lv' := [(9, .int (0 : Int32)), (7, .long c_keyLow), (5, .long c_keyHigh), (3, .long (0 : Int64)), (1, .long (0 : Int64)), (0, .ref h0)]) hx hb (zdt_at zt_X2_multiply_0 11 rfl) hl (by decide) rfl ?_
  clear hl
  intro ls hl
  replace hf := zj_s hf
  obtain ⟨K_8, eK_8, hf⟩ := hf
  have kK_8 : ∀ (v_6 : Int64) (v_7 : Int64) (H : Heap) (locs : List Loc) (ls : Array Slot), va_P D vwCl ([(h0, .inr (4, [.ref h0_aes, .ref h0_modes, .ref h0_tag, .long c_keyHigh, .long c_keyLow, .long c_sumHigh, .long c_sumLow]))]) H → va_D A ([(h0, .inr (4, [.ref h0_aes, .ref h0_modes, .ref h0_tag, .long c_keyHigh, .long c_keyLow, .long c_sumHigh, .long c_sumLow]))]) → va_S A s.heap H locs → lv_has ls 13 [(0, .ref h0), (1, .long v_6), (3, .long v_7)] → K_8 v_6 v_7 = some (c_sumHigh', c_sumLow') → GW H locs (F0 m 123 ls []) := by
    clear hf hl hP hD hS
    intro v_6 v_7 H locs ls hP hD hS hl hf
    rw [eK_8] at hf
    clear eK_8
    refine hFr _ _ _ ?_
    refine lv_aload_n (pc := 123) hx hb (zdt_at zt_X2_multiply_1 6 rfl) rfl (lv_at hl 0 rfl) ?_
    refine lv_lload_n (pc := 124) hx hb (zdt_at zt_X2_multiply_1 7 rfl) rfl (lv_at hl 1 rfl) ?_
    refine va_put (pc := 125) (D := D) (ci := 4) (v := .long v_6) (ty := .long) (C := RX2) (T := TX2) (N := 7) hx hb hts hcX2 tyX2 tyX2_ok nmX2 hown hK hP hD hS 0 rfl rfl 5 (by decide) hw2 (fun _ h9 => h9) rfl (by decide +kernel) rfl rfl (Nat.le_of_ble_eq_true rfl) (zdt_at zt_X2_multiply_1 8 rfl) ?_
    clear hP hD hS
    intro H locs hP hD hS
    replace hP : va_P D vwCl ([(h0, .inr (4, [.ref h0_aes, .ref h0_modes, .ref h0_tag, .long c_keyHigh, .long c_keyLow, .long v_6, .long c_sumLow]))]) H := hP
    replace hD : va_D A ([(h0, .inr (4, [.ref h0_aes, .ref h0_modes, .ref h0_tag, .long c_keyHigh, .long c_keyLow, .long v_6, .long c_sumLow]))]) := hD
    refine lv_aload_n (pc := 128) hx hb (zdt_at zt_X2_multiply_1 9 rfl) rfl (lv_at hl 0 rfl) ?_
    refine lv_lload_n (pc := 129) hx hb (zdt_at zt_X2_multiply_1 10 rfl) rfl (lv_at hl 2 rfl) ?_
    refine va_put (pc := 130) (D := D) (ci := 4) (v := .long v_7) (ty := .long) (C := RX2) (T := TX2) (N := 7) hx hb hts hcX2 tyX2 tyX2_ok nmX2 hown hK hP hD hS 0 rfl rfl 6 (by decide) hw3 (fun _ h9 => h9) rfl (by decide +kernel) rfl rfl (Nat.le_of_ble_eq_true rfl) (zdt_at zt_X2_multiply_1 11 rfl) ?_
    clear hP hD hS
    intro H locs hP hD hS
    replace hP : va_P D vwCl ([(h0, .inr (4, [.ref h0_aes, .ref h0_modes, .ref h0_tag, .long c_keyHigh, .long c_keyLow, .long v_6, .long v_7]))]) H := hP
    replace hD : va_D A ([(h0, .inr (4, [.ref h0_aes, .ref h0_modes, .ref h0_tag, .long c_keyHigh, .long c_keyLow, .long v_6, .long v_7]))]) := hD
    cases hf
    exact W.vret (pc := 133) hx hb hr (fun t ht hW => ⟨rfl, ⟨by rw [ht]; exact hP, hD⟩, hS.F ht⟩) hS.2.2 (zdt_at zt_X2_multiply_1 12 rfl)
  clear eK_8
  refine hTo _ _ _ (zl_go (fun z => match z with | (i_1, i_2, i_3, i_4, i_5) => ∀ (H : Heap) (locs : List Loc) (ls : Array Slot), va_P D vwCl ([(h0, .inr (4, [.ref h0_aes, .ref h0_modes, .ref h0_tag, .long c_keyHigh, .long c_keyLow, .long c_sumHigh, .long c_sumLow]))]) H → va_D A ([(h0, .inr (4, [.ref h0_aes, .ref h0_modes, .ref h0_tag, .long c_keyHigh, .long c_keyLow, .long c_sumHigh, .long c_sumLow]))]) → va_S A s.heap H locs → lv_has ls 13 [(0, .ref h0), (1, .long i_1), (3, .long i_2), (5, .long i_3), (7, .long i_4), (9, .int i_5)] → GW H locs (F0 m 19 ls [])) hf ?_ H locs ls hP hD hS (lv_sub hl [5, 4, 3, 2, 1, 0] rfl))
  clear hf hl hP hD hS
  intro self_9 ihself_9 z hf
  obtain ⟨i_1, i_2, i_3, i_4, i_5⟩ := z
  intro H locs ls hP hD hS hl
  refine hFr _ _ _ ?_
  unfold b_X2_multiply_19 at hf
  refine lv_iload (pc := 19) hx hb (zdt_at zt_X2_multiply_0 12 rfl) (lv_at hl 5 rfl) ?_
  refine lv_sipush (pc := 21) (v := (128 : Int32)) hx hb (zdt_at zt_X2_multiply_0 13 rfl) (by decide) ?_
  refine lv_icmp_ge (pc := 24) (tgt := 123) hx hb (zdt_at zt_X2_multiply_0 14 rfl) (by decide) (fun cn_ => ?t_10) (fun cn_ => ?f_11)
  case t_10 =>
    replace hf := zt_s cn_ hf
    clear cn_
    exact hTo _ _ _ (kK_8 _ _ H locs ls hP hD hS (lv_sub hl [0, 1, 2] rfl) hf)
  replace hf := ze_s cn_ hf
  clear cn_
  refine lv_iload (pc := 27) hx hb (zdt_at zt_X2_multiply_0 15 rfl) (lv_at hl 5 rfl) ?_
  refine lv_bipush (pc := 29) (v := (64 : Int32)) hx hb (zdt_at zt_X2_multiply_0 16 rfl) (by decide) ?_
  replace hf := zj_s hf
  obtain ⟨K_13, eK_13, hf⟩ := hf
  have kK_13 : ∀ (v_12 : Int64) (H : Heap) (locs : List Loc) (ls : Array Slot), va_P D vwCl ([(h0, .inr (4, [.ref h0_aes, .ref h0_modes, .ref h0_tag, .long c_keyHigh, .long c_keyLow, .long c_sumHigh, .long c_sumLow]))]) H → va_D A ([(h0, .inr (4, [.ref h0_aes, .ref h0_modes, .ref h0_tag, .long c_keyHigh, .long c_keyLow, .long c_sumHigh, .long c_sumLow]))]) → va_S A s.heap H locs → lv_has ls 13 [(0, .ref h0), (1, .long i_1), (3, .long i_2), (5, .long i_3), (7, .long i_4), (9, .int i_5)] → K_13 v_12 = some (c_sumHigh', c_sumLow') → GW H locs (F0 m 45 ls [.long v_12]) := by
    clear hf hl hP hD hS
    intro v_12 H locs ls hP hD hS hl hf
    rw [eK_13] at hf
    clear eK_13
    refine hFr _ _ _ ?_
    refine lv_lstore (pc := 45) (lv' := [(10, .long v_12), (0, .ref h0), (1, .long i_1), (3, .long i_2), (5, .long i_3), (7, .long i_4), (9, .int i_5)]) hx hb (zdt_at zt_X2_multiply_0 23 rfl) hl (by decide) rfl ?_
    clear hl
    intro ls hl
    refine lv_lload (pc := 47) hx hb (zdt_at zt_X2_multiply_0 24 rfl) (lv_at hl 0 rfl) ?_
    refine lv_iload (pc := 49) hx hb (zdt_at zt_X2_multiply_0 25 rfl) (lv_at hl 6 rfl) ?_
    refine lv_bipush (pc := 51) (v := (63 : Int32)) hx hb (zdt_at zt_X2_multiply_0 26 rfl) (by decide) ?_
    refine lv_iand (pc := 53) hx hb (zdt_at zt_X2_multiply_0 27 rfl) ?_
    refine lv_lshl (pc := 54) hx hb (zdt_at zt_X2_multiply_0 28 rfl) rfl ?_
    refine lv_lconst (pc := 55) (v := (0 : Int64)) hx hb (zdt_at zt_X2_multiply_0 29 rfl) (by decide) ?_
    refine W.lcmp (pc := 56) hx hb (zdt_at zt_X2_multiply_0 30 rfl) ?_
    replace hf := zj_s hf
    obtain ⟨K_16, eK_16, hf⟩ := hf
    have kK_16 : ∀ (v_14 : Int64) (v_15 : Int64) (H : Heap) (locs : List Loc) (ls : Array Slot), va_P D vwCl ([(h0, .inr (4, [.ref h0_aes, .ref h0_modes, .ref h0_tag, .long c_keyHigh, .long c_keyLow, .long c_sumHigh, .long c_sumLow]))]) H → va_D A ([(h0, .inr (4, [.ref h0_aes, .ref h0_modes, .ref h0_tag, .long c_keyHigh, .long c_keyLow, .long c_sumHigh, .long c_sumLow]))]) → va_S A s.heap H locs → lv_has ls 13 [(0, .ref h0), (1, .long v_14), (3, .long v_15), (5, .long i_3), (7, .long i_4), (9, .int i_5)] → K_16 v_14 v_15 = some (c_sumHigh', c_sumLow') → GW H locs (F0 m 70 ls []) := by
      clear hf hl hP hD hS
      intro v_14 v_15 H locs ls hP hD hS hl hf
      rw [eK_16] at hf
      clear eK_16
      refine hFr _ _ _ ?_
      refine lv_lload (pc := 70) hx hb (zdt_at zt_X2_multiply_0 40 rfl) (lv_at hl 4 rfl) ?_
      refine lv_lconst (pc := 72) (v := (1 : Int64)) hx hb (zdt_at zt_X2_multiply_0 41 rfl) (by decide) ?_
      refine lv_land (pc := 73) hx hb (zdt_at zt_X2_multiply_0 42 rfl) ?_
      refine lv_lconst (pc := 74) (v := (0 : Int64)) hx hb (zdt_at zt_X2_multiply_0 43 rfl) (by decide) ?_
      refine W.lcmp (pc := 75) hx hb (zdt_at zt_X2_multiply_0 44 rfl) ?_
      replace hf := zj_s hf
      obtain ⟨K_18, eK_18, hf⟩ := hf
      have kK_18 : ∀ (v_17 : Int32) (H : Heap) (locs : List Loc) (ls : Array Slot), va_P D vwCl ([(h0, .inr (4, [.ref h0_aes, .ref h0_modes, .ref h0_tag, .long c_keyHigh, .long c_keyLow, .long c_sumHigh, .long c_sumLow]))]) H → va_D A ([(h0, .inr (4, [.ref h0_aes, .ref h0_modes, .ref h0_tag, .long c_keyHigh, .long c_keyLow, .long c_sumHigh, .long c_sumLow]))]) → va_S A s.heap H locs → lv_has ls 13 [(0, .ref h0), (1, .long v_14), (3, .long v_15), (5, .long i_3), (7, .long i_4), (9, .int i_5)] → K_18 v_17 = some (c_sumHigh', c_sumLow') → GW H locs (F0 m 84 ls [.int v_17]) := by
        clear hf hl hP hD hS
        intro v_17 H locs ls hP hD hS hl hf
        rw [eK_18] at hf
        clear eK_18
        refine hFr _ _ _ ?_
        refine lv_istore (pc := 84) (lv' := [(12, .int v_17), (0, .ref h0), (1, .long v_14), (3, .long v_15), (5, .long i_3), (7, .long i_4), (9, .int i_5)]) hx hb (zdt_at zt_X2_multiply_0 49 rfl) hl (by decide) rfl ?_
        clear hl
        intro ls hl
        refine lv_lload (pc := 86) hx hb (zdt_at zt_X2_multiply_0 50 rfl) (lv_at hl 5 rfl) ?_
        refine lv_iconst (pc := 88) (v := (1 : Int32)) hx hb (zdt_at zt_X2_multiply_0 51 rfl) (by decide) ?_
        refine lv_lushr (pc := 89) hx hb (zdt_at zt_X2_multiply_0 52 rfl) rfl ?_
        refine lv_lload (pc := 90) hx hb (zdt_at zt_X2_multiply_0 53 rfl) (lv_at hl 4 rfl) ?_
        refine lv_bipush (pc := 92) (v := (63 : Int32)) hx hb (zdt_at zt_X2_multiply_0 54 rfl) (by decide) ?_
        refine lv_lshl (pc := 94) hx hb (zdt_at zt_X2_multiply_0 55 rfl) rfl ?_
        refine lv_lor (pc := 95) hx hb (zdt_at zt_X2_multiply_0 56 rfl) ?_
        refine lv_topl (fun x_19 e_ => ?_)
        replace hf := zn_s hf e_
        clear e_
        refine lv_lstore (pc := 96) (lv' := [(7, .long x_19), (12, .int v_17), (0, .ref h0), (1, .long v_14), (3, .long v_15), (5, .long i_3), (9, .int i_5)]) hx hb (zdt_at zt_X2_multiply_0 57 rfl) hl (by decide) rfl ?_
        clear hl
        intro ls hl
        refine lv_lload (pc := 98) hx hb (zdt_at zt_X2_multiply_0 58 rfl) (lv_at hl 5 rfl) ?_
        refine lv_iconst (pc := 100) (v := (1 : Int32)) hx hb (zdt_at zt_X2_multiply_0 59 rfl) (by decide) ?_
        refine lv_lushr (pc := 101) hx hb (zdt_at zt_X2_multiply_0 60 rfl) rfl ?_
        refine lv_iload (pc := 102) hx hb (zdt_at zt_X2_multiply_0 61 rfl) (lv_at hl 1 rfl) ?_
        refine lv_if_eq (pc := 104) (tgt := 113) hx hb (zdt_at zt_X2_multiply_0 62 rfl) (by decide) (fun cn_ => ?t_20) (fun cn_ => ?f_21)
        case t_20 =>
          replace hf := zt_s cn_ hf
          clear cn_
          refine lv_lconst (pc := 113) (v := (0 : Int64)) hx hb (zdt_at zt_X2_multiply_1 1 rfl) (by decide) ?_
          refine lv_lxor (pc := 114) hx hb (zdt_at zt_X2_multiply_1 2 rfl) ?_
          refine lv_topl (fun x_22 e_ => ?_)
          replace hf := zn_s hf e_
          clear e_
          refine lv_lstore (pc := 115) (lv' := [(5, .long x_22), (7, .long x_19), (12, .int v_17), (0, .ref h0), (1, .long v_14), (3, .long v_15), (9, .int i_5)]) hx hb (zdt_at zt_X2_multiply_1 3 rfl) hl (by decide) rfl ?_
          clear hl
          intro ls hl
          refine lv_iinc (pc := 117) (v := (i_5 + (1 : Int32))) (lv' := [(9, .int (i_5 + (1 : Int32))), (5, .long x_22), (7, .long x_19), (12, .int v_17), (0, .ref h0), (1, .long v_14), (3, .long v_15)]) hx hb (zdt_at zt_X2_multiply_1 4 rfl) hl (k := 6) rfl rfl (by decide) rfl ?_
          clear hl
          intro ls hl
          refine lv_goto (pc := 120) (tgt := 19) hx hb (zdt_at zt_X2_multiply_1 5 rfl) (by decide) ?_
          exact hTo _ _ _ (ihself_9 _ hf H locs ls hP hD hS (lv_sub hl [4, 5, 6, 1, 2, 0] rfl))
        replace hf := ze_s cn_ hf
        clear cn_
        refine lv_ldc2 (pc := 107) hx hb hown hw4 (zdt_at zt_X2_multiply_0 63 rfl) ?_
        refine lv_goto (pc := 110) (tgt := 114) hx hb (zdt_at zt_X2_multiply_1 0 rfl) (by decide) ?_
        refine lv_lxor (pc := 114) hx hb (zdt_at zt_X2_multiply_1 2 rfl) ?_
        refine lv_topl (fun x_23 e_ => ?_)
        replace hf := zn_s hf e_
        clear e_
        refine lv_lstore (pc := 115) (lv' := [(5, .long x_23), (7, .long x_19), (12, .int v_17), (0, .ref h0), (1, .long v_14), (3, .long v_15), (9, .int i_5)]) hx hb (zdt_at zt_X2_multiply_1 3 rfl) hl (by decide) rfl ?_
        clear hl
        intro ls hl
        refine lv_iinc (pc := 117) (v := (i_5 + (1 : Int32))) (lv' := [(9, .int (i_5 + (1 : Int32))), (5, .long x_23), (7, .long x_19), (12, .int v_17), (0, .ref h0), (1, .long v_14), (3, .long v_15)]) hx hb (zdt_at zt_X2_multiply_1 4 rfl) hl (k := 6) rfl rfl (by decide) rfl ?_
        clear hl
        intro ls hl
        refine lv_goto (pc := 120) (tgt := 19) hx hb (zdt_at zt_X2_multiply_1 5 rfl) (by decide) ?_
        exact hTo _ _ _ (ihself_9 _ hf H locs ls hP hD hS (lv_sub hl [4, 5, 6, 1, 2, 0] rfl))
      clear eK_18
      refine lv_if_eq (pc := 76) (tgt := 83) hx hb (zdt_at zt_X2_multiply_0 45 rfl) (by decide) (fun cn_ => ?t_24) (fun cn_ => ?f_25)
      case t_24 =>
        replace hf := zt_s cn_ hf
        clear cn_
        refine lv_iconst (pc := 83) (v := (0 : Int32)) hx hb (zdt_at zt_X2_multiply_0 48 rfl) (by decide) ?_
        exact hTo _ _ _ (kK_18 _ H locs ls hP hD hS (lv_sub hl [0, 1, 2, 3, 4, 5] rfl) hf)
      replace hf := ze_s cn_ hf
      clear cn_
      refine lv_iconst (pc := 79) (v := (1 : Int32)) hx hb (zdt_at zt_X2_multiply_0 46 rfl) (by decide) ?_
      refine lv_goto (pc := 80) (tgt := 84) hx hb (zdt_at zt_X2_multiply_0 47 rfl) (by decide) ?_
      exact hTo _ _ _ (kK_18 _ H locs ls hP hD hS (lv_sub hl [0, 1, 2, 3, 4, 5] rfl) hf)
    clear eK_16
    refine lv_if_ge (pc := 57) (tgt := 70) hx hb (zdt_at zt_X2_multiply_0 31 rfl) (by decide) (fun cn_ => ?t_26) (fun cn_ => ?f_27)
    case t_26 =>
      replace hf := zt_s cn_ hf
      clear cn_
      exact hTo _ _ _ (kK_16 _ _ H locs ls hP hD hS (lv_sub hl [1, 2, 3, 4, 5, 6] rfl) hf)
    replace hf := ze_s cn_ hf
    clear cn_
    refine lv_lload_n (pc := 60) hx hb (zdt_at zt_X2_multiply_0 32 rfl) rfl (lv_at hl 2 rfl) ?_
    refine lv_lload (pc := 61) hx hb (zdt_at zt_X2_multiply_0 33 rfl) (lv_at hl 4 rfl) ?_
    refine lv_lxor (pc := 63) hx hb (zdt_at zt_X2_multiply_0 34 rfl) ?_
    refine lv_topl (fun x_28 e_ => ?_)
    replace hf := zn_s hf e_
    clear e_
    refine lv_lstore_n (pc := 64) (lv' := [(1, .long x_28), (10, .long v_12), (0, .ref h0), (3, .long i_2), (5, .long i_3), (7, .long i_4), (9, .int i_5)]) hx hb (zdt_at zt_X2_multiply_0 35 rfl) rfl hl (by decide) rfl ?_
    clear hl
    intro ls hl
    refine lv_lload_n (pc := 65) hx hb (zdt_at zt_X2_multiply_0 36 rfl) rfl (lv_at hl 3 rfl) ?_
    refine lv_lload (pc := 66) hx hb (zdt_at zt_X2_multiply_0 37 rfl) (lv_at hl 5 rfl) ?_
    refine lv_lxor (pc := 68) hx hb (zdt_at zt_X2_multiply_0 38 rfl) ?_
    refine lv_topl (fun x_29 e_ => ?_)
    replace hf := zn_s hf e_
    clear e_
    refine lv_lstore_n (pc := 69) (lv' := [(3, .long x_29), (1, .long x_28), (10, .long v_12), (0, .ref h0), (5, .long i_3), (7, .long i_4), (9, .int i_5)]) hx hb (zdt_at zt_X2_multiply_0 39 rfl) rfl hl (by decide) rfl ?_
    clear hl
    intro ls hl
    exact hTo _ _ _ (kK_16 _ _ H locs ls hP hD hS (lv_sub hl [3, 1, 0, 4, 5, 6] rfl) hf)
  clear eK_13
  refine lv_icmp_ge (pc := 31) (tgt := 41) hx hb (zdt_at zt_X2_multiply_0 17 rfl) (by decide) (fun cn_ => ?t_30) (fun cn_ => ?f_31)
  case t_30 =>
    replace hf := zt_s cn_ hf
    clear cn_
    refine lv_aload_n (pc := 41) hx hb (zdt_at zt_X2_multiply_0 21 rfl) rfl (lv_at hl 0 rfl) ?_
    refine va_get (pc := 42) (D := D) (ci := 4) (v := .long c_sumLow) (C := RX2) (T := TX2) (N := 7) hx hb hts hcX2 hown hK hP 0 rfl rfl 6 (by decide) hw3 (fun _ h9 => h9) rfl (zdt_at zt_X2_multiply_0 22 rfl) ?_
    exact hTo _ _ _ (kK_13 _ H locs ls hP hD hS (lv_sub hl [0, 1, 2, 3, 4, 5] rfl) hf)
  replace hf := ze_s cn_ hf
  clear cn_
  refine lv_aload_n (pc := 34) hx hb (zdt_at zt_X2_multiply_0 18 rfl) rfl (lv_at hl 0 rfl) ?_
  refine va_get (pc := 35) (D := D) (ci := 4) (v := .long c_sumHigh) (C := RX2) (T := TX2) (N := 7) hx hb hts hcX2 hown hK hP 0 rfl rfl 5 (by decide) hw2 (fun _ h9 => h9) rfl (zdt_at zt_X2_multiply_0 19 rfl) ?_
  refine lv_goto (pc := 38) (tgt := 45) hx hb (zdt_at zt_X2_multiply_0 20 rfl) (by decide) ?_
  exact hTo _ _ _ (kK_13 _ H locs ls hP hD hS (lv_sub hl [0, 1, 2, 3, 4, 5] rfl) hf)
set_option maxHeartbeats 4000000 in
set_option maxRecDepth 100000 in
theorem c_X2_absorb (l : Launch) (D : va_G) (cy : Nat → ClassId) (tt : Nat → Nat) (sz : Nat) (h0 : Nat) (h0_aes : Nat) (h0_modes : Nat) (h0_tag : Nat) (ha1 : Nat) (n_a1 : Nat) (p2 : Int32) (p3 : Int32) (c_keyHigh : Int64) (c_keyLow : Int64) (c_sumHigh : Int64) (c_sumLow : Int64) (ca1 : Nat → Int32) (c_sumHigh' : Int64) (c_sumLow' : Int64) (hf : f_X2_absorb n_a1 p2 p3 c_keyHigh c_keyLow c_sumHigh c_sumLow ca1 = some (c_sumHigh', c_sumLow')) : Met l yX2_absorb wsX2_absorb ({ frames := 1, cells := 0, slots := 0, locals := 32 }) (zPc D cy tt sz [.ref h0, .ref ha1, .int p2, .int p3] ([(h0, .inr (4, [.ref h0_aes, .ref h0_modes, .ref h0_tag, .long c_keyHigh, .long c_keyLow, .long c_sumHigh, .long c_sumLow])), (ha1, .inl (cy 0, n_a1, .inl ca1))])) (zQ D none ([(h0, .inr (4, [.ref h0_aes, .ref h0_modes, .ref h0_tag, .long c_keyHigh, .long c_keyLow, .long c_sumHigh', .long c_sumLow'])), (ha1, .inl (cy 0, n_a1, .inl ca1))]) (va_A ([(h0, .inr (4, [.ref h0_aes, .ref h0_modes, .ref h0_tag, .long c_keyHigh, .long c_keyLow, .long c_sumHigh, .long c_sumLow])), (ha1, .inl (cy 0, n_a1, .inl ca1))]) sz)) 0 0 (va_A ([(h0, .inr (4, [.ref h0_aes, .ref h0_modes, .ref h0_tag, .long c_keyHigh, .long c_keyLow, .long c_sumHigh, .long c_sumLow])), (ha1, .inl (cy 0, n_a1, .inl ca1))]) sz) := by
  refine Met.ofW (cc := cX2_absorb) (maxL := 5) (ret := none) (by decide) rfl ?_
  intro p e s m args below meth c s₁ B hml hv
  obtain ⟨rfl, rfl, hP, hD0, hE⟩ := hv
  have hx := B.exec
  have hb := B.bytes
  have hr := B.returns
  have hts := atoms_spec (ws := wsX2_absorb) B.pre
  have hown : s.vm.findClass RX2 = some m.cls := findClass_of_methodNamed B.named
  have hlocks := B.notSynchronized
  clear B
  have hD := hD0.self (sz := s.heap.size)
  generalize hAe : va_A ([(h0, .inr (4, [.ref h0_aes, .ref h0_modes, .ref h0_tag, .long c_keyHigh, .long c_keyLow, .long c_sumHigh, .long c_sumLow])), (ha1, .inl (cy 0, n_a1, .inl ca1))]) s.heap.size = A at hD hE ⊢
  have hA : ∀ q : Nat, s.heap.size ≤ q → A q := fun q h => by rw [← hAe]; exact Or.inr h
  clear hAe hD0
  have hS : va_S A s.heap s.heap [] := va_S.rf
  have hK := hE.1
  have hw0 := hts (.fieldLink RX2 22 "SealedModule$Gcm" "sumHigh" "J") (by decide +kernel)
  have hw1 := hts (.fieldLink RX2 25 "SealedModule$Gcm" "sumLow" "J") (by decide +kernel)
  have hcX2 : ∀ w ∈ u_ws RX2 TX2 7, w ∈ wsX2_absorb := (fun _ h => List.mem_cons_of_mem _ (List.mem_append_right _ h))
  have hl := lv_entry ([.ref h0, .ref ha1, .int p2, .int p3]) (n := 5) (Nat.le_of_ble_eq_true rfl)
  rw [lg_entry_eq]
  generalize (lg_sl ([.ref h0, .ref ha1, .int p2, .int p3]) ++ List.replicate (5 - (lg_sl ([.ref h0, .ref ha1, .int p2, .int p3])).length) Slot.unset).toArray = ls at hl ⊢
  replace hl : lv_has ls 5 [(0, .ref h0), (1, .ref ha1), (2, .int p2), (3, .int p3)] := hl
  unfold f_X2_absorb at hf
  refine zgo (fun GW hTo hFr => ?_)
  refine hFr _ _ _ ?_
  obtain ⟨H, hHe⟩ : ∃ H, H = s.heap := ⟨_, rfl⟩
  obtain ⟨locs, hLe⟩ : ∃ L : List Loc, L = [] := ⟨_, rfl⟩
  rw [← hHe] at hP
  replace hS : va_S A s.heap H locs := by rw [hHe, hLe]; exact hS
  refine zat hHe.symm hLe.symm ?_
  clear hHe hLe
  refine lv_iconst (pc := 0) (v := (0 : Int32)) hx hb (zdt_at zt_X2_absorb_0 0 rfl) (by decide) ?_
  refine lv_istore (pc := 1) (lv' := [(4, .int (0 : Int32)), (0, .ref h0), (1, .ref ha1), (2, .int p2), (3, .int p3)]) hx hb (zdt_at zt_X2_absorb_0 1 rfl) hl (by decide) rfl ?_
  clear hl
  intro ls hl
  replace hf := zj_s hf
  obtain ⟨K_6, eK_6, hf⟩ := hf
  have kK_6 : ∀ (c_sumHigh_4 : Int64) (c_sumLow_5 : Int64) (H : Heap) (locs : List Loc) (ls : Array Slot), va_P D vwCl ([(h0, .inr (4, [.ref h0_aes, .ref h0_modes, .ref h0_tag, .long c_keyHigh, .long c_keyLow, .long c_sumHigh_4, .long c_sumLow_5])), (ha1, .inl (cy 0, n_a1, .inl ca1))]) H → va_D A ([(h0, .inr (4, [.ref h0_aes, .ref h0_modes, .ref h0_tag, .long c_keyHigh, .long c_keyLow, .long c_sumHigh_4, .long c_sumLow_5])), (ha1, .inl (cy 0, n_a1, .inl ca1))]) → va_S A s.heap H locs → lv_has ls 5 [] → K_6 c_sumHigh_4 c_sumLow_5 = some (c_sumHigh', c_sumLow') → GW H locs (F0 m 67 ls []) := by
    clear hf hl hP hD hS
    intro c_sumHigh_4 c_sumLow_5 H locs ls hP hD hS hl hf
    rw [eK_6] at hf
    clear eK_6
    refine hFr _ _ _ ?_
    cases hf
    exact W.vret (pc := 67) hx hb hr (fun t ht hW => ⟨rfl, ⟨by rw [ht]; exact hP, hD⟩, hS.F ht⟩) hS.2.2 (zdt_at zt_X2_absorb_0 39 rfl)
  clear eK_6
  refine hTo _ _ _ (zl_go (fun z => match z with | (i_1, c_sumHigh_2, c_sumLow_3) => ∀ (H : Heap) (locs : List Loc) (ls : Array Slot), va_P D vwCl ([(h0, .inr (4, [.ref h0_aes, .ref h0_modes, .ref h0_tag, .long c_keyHigh, .long c_keyLow, .long c_sumHigh_2, .long c_sumLow_3])), (ha1, .inl (cy 0, n_a1, .inl ca1))]) H → va_D A ([(h0, .inr (4, [.ref h0_aes, .ref h0_modes, .ref h0_tag, .long c_keyHigh, .long c_keyLow, .long c_sumHigh_2, .long c_sumLow_3])), (ha1, .inl (cy 0, n_a1, .inl ca1))]) → va_S A s.heap H locs → lv_has ls 5 [(0, .ref h0), (1, .ref ha1), (2, .int p2), (3, .int p3), (4, .int i_1)] → GW H locs (F0 m 3 ls [])) hf ?_ H locs ls hP hD hS (lv_sub hl [1, 2, 3, 4, 0] rfl))
  clear hf hl hP hD hS
  intro self_7 ihself_7 z hf
  obtain ⟨i_1, c_sumHigh_2, c_sumLow_3⟩ := z
  intro H locs ls hP hD hS hl
  refine hFr _ _ _ ?_
  unfold b_X2_absorb_3 at hf
  refine lv_iload (pc := 3) hx hb (zdt_at zt_X2_absorb_0 2 rfl) (lv_at hl 4 rfl) ?_
  refine lv_iload_n (pc := 5) hx hb (zdt_at zt_X2_absorb_0 3 rfl) rfl (lv_at hl 3 rfl) ?_
  refine lv_icmp_ge (pc := 6) (tgt := 67) hx hb (zdt_at zt_X2_absorb_0 4 rfl) (by decide) (fun cn_ => ?t_8) (fun cn_ => ?f_9)
  case t_8 =>
    replace hf := zt_s cn_ hf
    clear cn_
    exact hTo _ _ _ (kK_6 _ _ H locs ls hP hD hS (lv_sub hl [] rfl) hf)
  replace hf := ze_s cn_ hf
  clear cn_
  refine lv_aload_n (pc := 9) hx hb (zdt_at zt_X2_absorb_0 5 rfl) rfl (lv_at hl 0 rfl) ?_
  refine lv_dup (pc := 10) hx hb (zdt_at zt_X2_absorb_0 6 rfl) rfl ?_
  refine va_get (pc := 11) (D := D) (ci := 4) (v := .long c_sumHigh_2) (C := RX2) (T := TX2) (N := 7) hx hb hts hcX2 hown hK hP 0 rfl rfl 5 (by decide) hw0 (fun _ h9 => h9) rfl (zdt_at zt_X2_absorb_0 7 rfl) ?_
  refine lv_aload_n (pc := 14) hx hb (zdt_at zt_X2_absorb_0 8 rfl) rfl (lv_at hl 1 rfl) ?_
  refine lv_iload_n (pc := 15) hx hb (zdt_at zt_X2_absorb_0 9 rfl) rfl (lv_at hl 2 rfl) ?_
  refine lv_iload (pc := 16) hx hb (zdt_at zt_X2_absorb_0 10 rfl) (lv_at hl 4 rfl) ?_
  refine lv_iadd (pc := 18) hx hb (zdt_at zt_X2_absorb_0 11 rfl) ?_
  refine lv_iload_n (pc := 19) hx hb (zdt_at zt_X2_absorb_0 12 rfl) rfl (lv_at hl 3 rfl) ?_
  refine lv_iload (pc := 20) hx hb (zdt_at zt_X2_absorb_0 13 rfl) (lv_at hl 4 rfl) ?_
  refine lv_isub (pc := 22) hx hb (zdt_at zt_X2_absorb_0 14 rfl) ?_
  replace hf := zb_s hf
  obtain ⟨r_10, hc_, hf⟩ := hf
  refine zcs (pc := 23) (rv := (some (.long r_10))) (va_runS (As := [.ref ha1, .int (p2 + i_1), .int (p3 - i_1)]) (rest := [.long c_sumHigh_2, .ref h0]) ⟨hx, hb, hml, hown, hts⟩ (c_X2_paddedLong l D cy tt H.size ha1 n_a1 (p2 + i_1) (p3 - i_1) ca1 r_10 hc_) (va_cwS 3 hts gX2_absorb_X2_paddedLong rfl rfl rfl (by decide +kernel) ⟨Nat.le_of_ble_eq_true rfl, Nat.le_of_ble_eq_true rfl⟩) ⟨zblind, zpre hE hS (hP.sub [1] rfl) (hD.sub [1] (by decide) rfl) (va_free hD hS hA [1] rfl)⟩ rfl rfl hl.1 rfl (lv_room (Nat.le_of_ble_eq_true rfl)) (zdt_at zt_X2_absorb_0 15 rfl) ⟨Nat.zero_le _, Nat.zero_le _⟩) ?_
  clear hc_
  refine W.eq (g2 := F0 m 26 ls [.long r_10, .long c_sumHigh_2, .ref h0]) rfl ?_
  refine lv_lxor (pc := 26) hx hb (zdt_at zt_X2_absorb_0 16 rfl) ?_
  refine lv_topl (fun x_11 e_ => ?_)
  replace hf := zn_s hf e_
  clear e_
  refine va_put (pc := 27) (D := D) (ci := 4) (v := .long x_11) (ty := .long) (C := RX2) (T := TX2) (N := 7) hx hb hts hcX2 tyX2 tyX2_ok nmX2 hown hK hP hD hS 0 rfl rfl 5 (by decide) hw0 (fun _ h9 => h9) rfl (by decide +kernel) rfl rfl (Nat.le_of_ble_eq_true rfl) (zdt_at zt_X2_absorb_0 17 rfl) ?_
  clear hP hD hS
  intro H locs hP hD hS
  replace hP : va_P D vwCl ([(h0, .inr (4, [.ref h0_aes, .ref h0_modes, .ref h0_tag, .long c_keyHigh, .long c_keyLow, .long x_11, .long c_sumLow_3])), (ha1, .inl (cy 0, n_a1, .inl ca1))]) H := hP
  replace hD : va_D A ([(h0, .inr (4, [.ref h0_aes, .ref h0_modes, .ref h0_tag, .long c_keyHigh, .long c_keyLow, .long x_11, .long c_sumLow_3])), (ha1, .inl (cy 0, n_a1, .inl ca1))]) := hD
  refine lv_aload_n (pc := 30) hx hb (zdt_at zt_X2_absorb_0 18 rfl) rfl (lv_at hl 0 rfl) ?_
  refine lv_dup (pc := 31) hx hb (zdt_at zt_X2_absorb_0 19 rfl) rfl ?_
  refine va_get (pc := 32) (D := D) (ci := 4) (v := .long c_sumLow_3) (C := RX2) (T := TX2) (N := 7) hx hb hts hcX2 hown hK hP 0 rfl rfl 6 (by decide) hw1 (fun _ h9 => h9) rfl (zdt_at zt_X2_absorb_0 20 rfl) ?_
  refine lv_aload_n (pc := 35) hx hb (zdt_at zt_X2_absorb_0 21 rfl) rfl (lv_at hl 1 rfl) ?_
  refine lv_iload_n (pc := 36) hx hb (zdt_at zt_X2_absorb_0 22 rfl) rfl (lv_at hl 2 rfl) ?_
  refine lv_iload (pc := 37) hx hb (zdt_at zt_X2_absorb_0 23 rfl) (lv_at hl 4 rfl) ?_
  refine lv_iadd (pc := 39) hx hb (zdt_at zt_X2_absorb_0 24 rfl) ?_
  refine lv_bipush (pc := 40) (v := (8 : Int32)) hx hb (zdt_at zt_X2_absorb_0 25 rfl) (by decide) ?_
  refine lv_iadd (pc := 42) hx hb (zdt_at zt_X2_absorb_0 26 rfl) ?_
  refine lv_iload_n (pc := 43) hx hb (zdt_at zt_X2_absorb_0 27 rfl) rfl (lv_at hl 3 rfl) ?_
  refine lv_iload (pc := 44) hx hb (zdt_at zt_X2_absorb_0 28 rfl) (lv_at hl 4 rfl) ?_
  refine lv_isub (pc := 46) hx hb (zdt_at zt_X2_absorb_0 29 rfl) ?_
  refine lv_bipush (pc := 47) (v := (8 : Int32)) hx hb (zdt_at zt_X2_absorb_0 30 rfl) (by decide) ?_
  refine lv_isub (pc := 49) hx hb (zdt_at zt_X2_absorb_0 31 rfl) ?_
  replace hf := zb_s hf
  obtain ⟨r_12, hc_, hf⟩ := hf
  refine zcs (pc := 50) (rv := (some (.long r_12))) (va_runS (As := [.ref ha1, .int ((p2 + i_1) + (8 : Int32)), .int ((p3 - i_1) - (8 : Int32))]) (rest := [.long c_sumLow_3, .ref h0]) ⟨hx, hb, hml, hown, hts⟩ (c_X2_paddedLong l D cy tt H.size ha1 n_a1 ((p2 + i_1) + (8 : Int32)) ((p3 - i_1) - (8 : Int32)) ca1 r_12 hc_) (va_cwS 3 hts gX2_absorb_X2_paddedLong rfl rfl rfl (by decide +kernel) ⟨Nat.le_of_ble_eq_true rfl, Nat.le_of_ble_eq_true rfl⟩) ⟨zblind, zpre hE hS (hP.sub [1] rfl) (hD.sub [1] (by decide) rfl) (va_free hD hS hA [1] rfl)⟩ rfl rfl hl.1 rfl (lv_room (Nat.le_of_ble_eq_true rfl)) (zdt_at zt_X2_absorb_0 32 rfl) ⟨Nat.zero_le _, Nat.zero_le _⟩) ?_
  clear hc_
  refine W.eq (g2 := F0 m 53 ls [.long r_12, .long c_sumLow_3, .ref h0]) rfl ?_
  refine lv_lxor (pc := 53) hx hb (zdt_at zt_X2_absorb_0 33 rfl) ?_
  refine lv_topl (fun x_13 e_ => ?_)
  replace hf := zn_s hf e_
  clear e_
  refine va_put (pc := 54) (D := D) (ci := 4) (v := .long x_13) (ty := .long) (C := RX2) (T := TX2) (N := 7) hx hb hts hcX2 tyX2 tyX2_ok nmX2 hown hK hP hD hS 0 rfl rfl 6 (by decide) hw1 (fun _ h9 => h9) rfl (by decide +kernel) rfl rfl (Nat.le_of_ble_eq_true rfl) (zdt_at zt_X2_absorb_0 34 rfl) ?_
  clear hP hD hS
  intro H locs hP hD hS
  replace hP : va_P D vwCl ([(h0, .inr (4, [.ref h0_aes, .ref h0_modes, .ref h0_tag, .long c_keyHigh, .long c_keyLow, .long x_11, .long x_13])), (ha1, .inl (cy 0, n_a1, .inl ca1))]) H := hP
  replace hD : va_D A ([(h0, .inr (4, [.ref h0_aes, .ref h0_modes, .ref h0_tag, .long c_keyHigh, .long c_keyLow, .long x_11, .long x_13])), (ha1, .inl (cy 0, n_a1, .inl ca1))]) := hD
  refine lv_aload_n (pc := 57) hx hb (zdt_at zt_X2_absorb_0 35 rfl) rfl (lv_at hl 0 rfl) ?_
  replace hf := zb_s hf
  obtain ⟨⟨c_sumHigh_14, c_sumLow_15⟩, hc_, hf⟩ := hf
  refine zcn2 (pc := 58) (rv := none) (va_runV (As := []) (rest := []) ⟨hx, hb, hml, hown, hts⟩ (c_X2_multiply l D cy tt H.size h0 h0_aes h0_modes h0_tag c_keyHigh c_keyLow x_11 x_13 c_sumHigh_14 c_sumLow_15 hc_) (cwV 0 hts gX2_absorb_X2_multiply rfl rfl rfl (by decide +kernel) ⟨Nat.le_of_ble_eq_true rfl, Nat.le_of_ble_eq_true rfl⟩) ⟨zblind, va_recv hK hP (ci := 4) (q0 := 0) rfl rfl, zpre hE hS (hP.sub [0] rfl) (hD.sub [0] (by decide) rfl) (va_free hD hS hA [0] rfl)⟩ rfl rfl hl.1 rfl (lv_room (Nat.le_of_ble_eq_true rfl)) (zdt_at zt_X2_absorb_0 36 rfl) ⟨Nat.zero_le _, Nat.zero_le _⟩) hS hP hD (va_free hD hS hA [0] rfl) [0] rfl (by decide) rfl ?_
  clear hP hD hS hc_
  intro H locs hP hD hS
  replace hP : va_P D vwCl ([(h0, .inr (4, [.ref h0_aes, .ref h0_modes, .ref h0_tag, .long c_keyHigh, .long c_keyLow, .long c_sumHigh_14, .long c_sumLow_15])), (ha1, .inl (cy 0, n_a1, .inl ca1))]) H := hP
  replace hD : va_D A ([(h0, .inr (4, [.ref h0_aes, .ref h0_modes, .ref h0_tag, .long c_keyHigh, .long c_keyLow, .long c_sumHigh_14, .long c_sumLow_15])), (ha1, .inl (cy 0, n_a1, .inl ca1))]) := hD
  refine W.eq (g2 := F0 m 61 ls []) rfl ?_
  refine lv_iinc (pc := 61) (v := (i_1 + (16 : Int32))) (lv' := [(4, .int (i_1 + (16 : Int32))), (0, .ref h0), (1, .ref ha1), (2, .int p2), (3, .int p3)]) hx hb (zdt_at zt_X2_absorb_0 37 rfl) hl (k := 4) rfl rfl (by decide) rfl ?_
  clear hl
  intro ls hl
  refine lv_goto (pc := 64) (tgt := 3) hx hb (zdt_at zt_X2_absorb_0 38 rfl) (by decide) ?_
  exact hTo _ _ _ (ihself_7 _ hf H locs ls hP hD hS (lv_sub hl [1, 2, 3, 4, 0] rfl))
set_option maxHeartbeats 4000000 in
set_option maxRecDepth 100000 in
theorem c_X2_findTag (l : Launch) (D : va_G) (cy : Nat → ClassId) (tt : Nat → Nat) (sz : Nat) (h0 : Nat) (h0_aes : Nat) (h0_modes : Nat) (h0_tag : Nat) (h0_aes_keys : Nat) (ha1 : Nat) (n_a1 : Nat) (p2 : Int32) (p3 : Int32) (p4 : Int32) (c_keyHigh : Int64) (c_keyLow : Int64) (c_sumHigh : Int64) (c_sumLow : Int64) (c_aes_rounds : Int32) (c_aes_keys : Nat → Int32) (c_tag : Nat → Int32) (ca1 : Nat → Int32) (c_keyHigh' : Int64) (c_keyLow' : Int64) (c_sumHigh' : Int64) (c_sumLow' : Int64) (c_tag' : Nat → Int32) (hf : f_X2_findTag n_a1 p2 p3 p4 c_keyHigh c_keyLow c_sumHigh c_sumLow c_aes_rounds c_aes_keys c_tag ca1 = some (c_keyHigh', c_keyLow', c_sumHigh', c_sumLow', c_tag')) : Met l yX2_findTag wsX2_findTag ({ frames := 2, cells := 0, slots := 0, locals := 64 }) (zPc D cy tt sz [.ref h0, .ref ha1, .int p2, .int p3, .int p4] ([(h0, .inr (4, [.ref h0_aes, .ref h0_modes, .ref h0_tag, .long c_keyHigh, .long c_keyLow, .long c_sumHigh, .long c_sumLow])), (h0_aes, .inr (2, [.ref h0_aes_keys, .int c_aes_rounds])), (h0_aes_keys, .inl (cy 1, 60, .inl c_aes_keys)), (h0_tag, .inl (cy 0, 16, .inl c_tag)), (ha1, .inl (cy 0, n_a1, .inl ca1))])) (zQ D none ([(h0, .inr (4, [.ref h0_aes, .ref h0_modes, .ref h0_tag, .long c_keyHigh', .long c_keyLow', .long c_sumHigh', .long c_sumLow'])), (h0_aes, .inr (2, [.ref h0_aes_keys, .int c_aes_rounds])), (h0_aes_keys, .inl (cy 1, 60, .inl c_aes_keys)), (h0_tag, .inl (cy 0, 16, .inl c_tag')), (ha1, .inl (cy 0, n_a1, .inl ca1))]) (va_A ([(h0, .inr (4, [.ref h0_aes, .ref h0_modes, .ref h0_tag, .long c_keyHigh, .long c_keyLow, .long c_sumHigh, .long c_sumLow])), (h0_aes, .inr (2, [.ref h0_aes_keys, .int c_aes_rounds])), (h0_aes_keys, .inl (cy 1, 60, .inl c_aes_keys)), (h0_tag, .inl (cy 0, 16, .inl c_tag)), (ha1, .inl (cy 0, n_a1, .inl ca1))]) sz)) 0 0 (va_A ([(h0, .inr (4, [.ref h0_aes, .ref h0_modes, .ref h0_tag, .long c_keyHigh, .long c_keyLow, .long c_sumHigh, .long c_sumLow])), (h0_aes, .inr (2, [.ref h0_aes_keys, .int c_aes_rounds])), (h0_aes_keys, .inl (cy 1, 60, .inl c_aes_keys)), (h0_tag, .inl (cy 0, 16, .inl c_tag)), (ha1, .inl (cy 0, n_a1, .inl ca1))]) sz) := by
  refine Met.ofW (cc := cX2_findTag) (maxL := 5) (ret := none) (by decide) rfl ?_
  intro p e s m args below meth c s₁ B hml hv
  obtain ⟨rfl, rfl, hP, hD0, hE⟩ := hv
  have hx := B.exec
  have hb := B.bytes
  have hr := B.returns
  have hts := atoms_spec (ws := wsX2_findTag) B.pre
  have hown : s.vm.findClass RX2 = some m.cls := findClass_of_methodNamed B.named
  have hlocks := B.notSynchronized
  clear B
  have hD := hD0.self (sz := s.heap.size)
  generalize hAe : va_A ([(h0, .inr (4, [.ref h0_aes, .ref h0_modes, .ref h0_tag, .long c_keyHigh, .long c_keyLow, .long c_sumHigh, .long c_sumLow])), (h0_aes, .inr (2, [.ref h0_aes_keys, .int c_aes_rounds])), (h0_aes_keys, .inl (cy 1, 60, .inl c_aes_keys)), (h0_tag, .inl (cy 0, 16, .inl c_tag)), (ha1, .inl (cy 0, n_a1, .inl ca1))]) s.heap.size = A at hD hE ⊢
  have hA : ∀ q : Nat, s.heap.size ≤ q → A q := fun q h => by rw [← hAe]; exact Or.inr h
  clear hAe hD0
  have hS : va_S A s.heap s.heap [] := va_S.rf
  have hK := hE.1
  have hw0 := hts (.fieldLink RX2 9 "SealedModule$Gcm" "tag" "[B") (by decide +kernel)
  have hw1 := hts (.fieldLink RX2 28 "SealedModule$Gcm" "aes" "LSealedModule$Aes;") (by decide +kernel)
  have hw2 := hts (.initialized RX9) (by decide +kernel)
  have hw3 := hts (.static yX9_longAt) (by decide +kernel)
  have hw4 := hts (.fieldLink RX2 15 "SealedModule$Gcm" "keyHigh" "J") (by decide +kernel)
  have hw5 := hts (.fieldLink RX2 19 "SealedModule$Gcm" "keyLow" "J") (by decide +kernel)
  have hw6 := hts (.fieldLink RX2 22 "SealedModule$Gcm" "sumHigh" "J") (by decide +kernel)
  have hw7 := hts (.fieldLink RX2 25 "SealedModule$Gcm" "sumLow" "J") (by decide +kernel)
  have hw8 := hts (.constantLong RX2 75 (8)) (by decide +kernel)
  have hw9 := hts (.methodLink RX2 45 arraycopyName) (by decide +kernel)
  have hw10 := hts (.native arraycopyName) (by decide +kernel)
  have hw11 := hts (.static arraycopyName) (by decide +kernel)
  have hw12 := hts (.initialized "java/lang/System") (by decide +kernel)
  have hw13 := hts (.static yX9_putInt) (by decide +kernel)
  have hw14 := hts (.static yX9_putLong) (by decide +kernel)
  have hcX2 : ∀ w ∈ u_ws RX2 TX2 7, w ∈ wsX2_findTag := (fun _ h => List.mem_cons_of_mem _ (List.mem_append_left _ (List.mem_append_right _ h)))
  have hl := lv_entry ([.ref h0, .ref ha1, .int p2, .int p3, .int p4]) (n := 5) (Nat.le_of_ble_eq_true rfl)
  rw [lg_entry_eq]
  generalize (lg_sl ([.ref h0, .ref ha1, .int p2, .int p3, .int p4]) ++ List.replicate (5 - (lg_sl ([.ref h0, .ref ha1, .int p2, .int p3, .int p4])).length) Slot.unset).toArray = ls at hl ⊢
  replace hl : lv_has ls 5 [(0, .ref h0), (1, .ref ha1), (2, .int p2), (3, .int p3), (4, .int p4)] := hl
  unfold f_X2_findTag at hf
  refine zgo (fun GW hTo hFr => ?_)
  refine hFr _ _ _ ?_
  obtain ⟨H, hHe⟩ : ∃ H, H = s.heap := ⟨_, rfl⟩
  obtain ⟨locs, hLe⟩ : ∃ L : List Loc, L = [] := ⟨_, rfl⟩
  rw [← hHe] at hP
  replace hS : va_S A s.heap H locs := by rw [hHe, hLe]; exact hS
  refine zat hHe.symm hLe.symm ?_
  clear hHe hLe
  refine lv_aload_n (pc := 0) hx hb (zdt_at zt_X2_findTag_0 0 rfl) rfl (lv_at hl 0 rfl) ?_
  refine va_get (pc := 1) (D := D) (ci := 4) (v := .ref h0_tag) (C := RX2) (T := TX2) (N := 7) hx hb hts hcX2 hown hK hP 0 rfl rfl 2 (by decide) hw0 (fun _ h9 => h9) rfl (zdt_at zt_X2_findTag_0 1 rfl) ?_
  refine lv_iconst (pc := 4) (v := (0 : Int32)) hx hb (zdt_at zt_X2_findTag_0 2 rfl) (by decide) ?_
  replace hf := zb_s hf
  obtain ⟨c_tag_1, hc_, hf⟩ := hf
  refine zcn2 (pc := 5) (rv := none) (va_runS (As := [.ref h0_tag, .int (0 : Int32)]) (rest := []) ⟨hx, hb, hml, hown, hts⟩ (c_J7_fill_031fb l D cy tt H.size h0_tag 16 (0 : Int32) c_tag c_tag_1 hc_) (va_cwS 2 hts gX2_findTag_J7_fill_031fb rfl rfl rfl (by decide +kernel) ⟨Nat.le_of_ble_eq_true rfl, Nat.le_of_ble_eq_true rfl⟩) ⟨zblind, zpre hE hS (hP.sub [3] rfl) (hD.sub [3] (by decide) rfl) (va_free hD hS hA [3] rfl)⟩ rfl rfl hl.1 rfl (lv_room (Nat.le_of_ble_eq_true rfl)) (zdt_at zt_X2_findTag_0 3 rfl) ⟨Nat.zero_le _, Nat.zero_le _⟩) hS hP hD (va_free hD hS hA [3] rfl) [3] rfl (by decide) rfl ?_
  clear hP hD hS hc_
  intro H locs hP hD hS
  replace hP : va_P D vwCl ([(h0, .inr (4, [.ref h0_aes, .ref h0_modes, .ref h0_tag, .long c_keyHigh, .long c_keyLow, .long c_sumHigh, .long c_sumLow])), (h0_aes, .inr (2, [.ref h0_aes_keys, .int c_aes_rounds])), (h0_aes_keys, .inl (cy 1, 60, .inl c_aes_keys)), (h0_tag, .inl (cy 0, 16, .inl c_tag_1)), (ha1, .inl (cy 0, n_a1, .inl ca1))]) H := hP
  replace hD : va_D A ([(h0, .inr (4, [.ref h0_aes, .ref h0_modes, .ref h0_tag, .long c_keyHigh, .long c_keyLow, .long c_sumHigh, .long c_sumLow])), (h0_aes, .inr (2, [.ref h0_aes_keys, .int c_aes_rounds])), (h0_aes_keys, .inl (cy 1, 60, .inl c_aes_keys)), (h0_tag, .inl (cy 0, 16, .inl c_tag_1)), (ha1, .inl (cy 0, n_a1, .inl ca1))]) := hD
  refine W.eq (g2 := F0 m 8 ls []) rfl ?_
  refine lv_aload_n (pc := 8) hx hb (zdt_at zt_X2_findTag_0 4 rfl) rfl (lv_at hl 0 rfl) ?_
  refine va_get (pc := 9) (D := D) (ci := 4) (v := .ref h0_aes) (C := RX2) (T := TX2) (N := 7) hx hb hts hcX2 hown hK hP 0 rfl rfl 0 (by decide) hw1 (fun _ h9 => h9) rfl (zdt_at zt_X2_findTag_0 5 rfl) ?_
  refine lv_aload_n (pc := 12) hx hb (zdt_at zt_X2_findTag_0 6 rfl) rfl (lv_at hl 0 rfl) ?_
  refine va_get (pc := 13) (D := D) (ci := 4) (v := .ref h0_tag) (C := RX2) (T := TX2) (N := 7) hx hb hts hcX2 hown hK hP 0 rfl rfl 2 (by decide) hw0 (fun _ h9 => h9) rfl (zdt_at zt_X2_findTag_0 7 rfl) ?_
  refine lv_iconst (pc := 16) (v := (0 : Int32)) hx hb (zdt_at zt_X2_findTag_0 8 rfl) (by decide) ?_
  replace hf := zb_s hf
  obtain ⟨c_tag_2, hc_, hf⟩ := hf
  refine zcn2 (pc := 17) (rv := none) (va_runV (As := [.ref h0_tag, .int (0 : Int32)]) (rest := []) ⟨hx, hb, hml, hown, hts⟩ (c_X0_encrypt l D cy tt H.size h0_aes h0_aes_keys h0_tag 16 (0 : Int32) c_aes_rounds c_aes_keys c_tag_1 c_tag_2 hc_) (cwV 2 hts gX2_findTag_X0_encrypt rfl rfl rfl (by decide +kernel) ⟨Nat.le_of_ble_eq_true rfl, Nat.le_of_ble_eq_true rfl⟩) ⟨zblind, va_recv hK hP (ci := 2) (q0 := 1) rfl rfl, zpre hE hS (hP.sub [1, 2, 3] rfl) (hD.sub [1, 2, 3] (by decide) rfl) (va_free hD hS hA [1, 2, 3] rfl)⟩ rfl rfl hl.1 rfl (lv_room (Nat.le_of_ble_eq_true rfl)) (zdt_at zt_X2_findTag_0 9 rfl) ⟨Nat.zero_le _, Nat.zero_le _⟩) hS hP hD (va_free hD hS hA [1, 2, 3] rfl) [1, 2, 3] rfl (by decide) rfl ?_
  clear hP hD hS hc_
  intro H locs hP hD hS
  replace hP : va_P D vwCl ([(h0, .inr (4, [.ref h0_aes, .ref h0_modes, .ref h0_tag, .long c_keyHigh, .long c_keyLow, .long c_sumHigh, .long c_sumLow])), (h0_aes, .inr (2, [.ref h0_aes_keys, .int c_aes_rounds])), (h0_aes_keys, .inl (cy 1, 60, .inl c_aes_keys)), (h0_tag, .inl (cy 0, 16, .inl c_tag_2)), (ha1, .inl (cy 0, n_a1, .inl ca1))]) H := hP
  replace hD : va_D A ([(h0, .inr (4, [.ref h0_aes, .ref h0_modes, .ref h0_tag, .long c_keyHigh, .long c_keyLow, .long c_sumHigh, .long c_sumLow])), (h0_aes, .inr (2, [.ref h0_aes_keys, .int c_aes_rounds])), (h0_aes_keys, .inl (cy 1, 60, .inl c_aes_keys)), (h0_tag, .inl (cy 0, 16, .inl c_tag_2)), (ha1, .inl (cy 0, n_a1, .inl ca1))]) := hD
  refine W.eq (g2 := F0 m 20 ls []) rfl ?_
  refine lv_aload_n (pc := 20) hx hb (zdt_at zt_X2_findTag_0 10 rfl) rfl (lv_at hl 0 rfl) ?_
  refine lv_aload_n (pc := 21) hx hb (zdt_at zt_X2_findTag_0 11 rfl) rfl (lv_at hl 0 rfl) ?_
  refine va_get (pc := 22) (D := D) (ci := 4) (v := .ref h0_tag) (C := RX2) (T := TX2) (N := 7) hx hb hts hcX2 hown hK hP 0 rfl rfl 2 (by decide) hw0 (fun _ h9 => h9) rfl (zdt_at zt_X2_findTag_0 12 rfl) ?_
  refine lv_iconst (pc := 25) (v := (0 : Int32)) hx hb (zdt_at zt_X2_findTag_0 13 rfl) (by decide) ?_
  replace hf := zb_s hf
  obtain ⟨r_3, hc_, hf⟩ := hf
  refine zcs (pc := 26) (rv := (some (.long r_3))) (va_runSN (As := [.ref h0_tag, .int (0 : Int32)]) (rest := [.ref h0]) ⟨hx, hb, hml, hown, hts⟩ (c_X9_longAt l D cy tt H.size h0_tag 16 (0 : Int32) c_tag_2 r_3 hc_) ⟨va_cnB 2 hts gX2_findTag_X9_longAt_n67 rfl rfl rfl (gNs_4 hE.2.1) hw2 (by decide +kernel) ⟨Nat.le_of_ble_eq_true rfl, Nat.le_of_ble_eq_true rfl⟩, hw3, trivial⟩ ⟨zblind, zpre hE hS (hP.sub [3] rfl) (hD.sub [3] (by decide) rfl) (va_free hD hS hA [3] rfl)⟩ rfl rfl hl.1 rfl (lv_room (Nat.le_of_ble_eq_true rfl)) (zdt_at zt_X2_findTag_0 14 rfl) ⟨Nat.zero_le _, Nat.zero_le _⟩) ?_
  clear hc_
  refine W.eq (g2 := F0 m 29 ls [.long r_3, .ref h0]) rfl ?_
  refine va_put (pc := 29) (D := D) (ci := 4) (v := .long r_3) (ty := .long) (C := RX2) (T := TX2) (N := 7) hx hb hts hcX2 tyX2 tyX2_ok nmX2 hown hK hP hD hS 0 rfl rfl 3 (by decide) hw4 (fun _ h9 => h9) rfl (by decide +kernel) rfl rfl (Nat.le_of_ble_eq_true rfl) (zdt_at zt_X2_findTag_0 15 rfl) ?_
  clear hP hD hS
  intro H locs hP hD hS
  replace hP : va_P D vwCl ([(h0, .inr (4, [.ref h0_aes, .ref h0_modes, .ref h0_tag, .long r_3, .long c_keyLow, .long c_sumHigh, .long c_sumLow])), (h0_aes, .inr (2, [.ref h0_aes_keys, .int c_aes_rounds])), (h0_aes_keys, .inl (cy 1, 60, .inl c_aes_keys)), (h0_tag, .inl (cy 0, 16, .inl c_tag_2)), (ha1, .inl (cy 0, n_a1, .inl ca1))]) H := hP
  replace hD : va_D A ([(h0, .inr (4, [.ref h0_aes, .ref h0_modes, .ref h0_tag, .long r_3, .long c_keyLow, .long c_sumHigh, .long c_sumLow])), (h0_aes, .inr (2, [.ref h0_aes_keys, .int c_aes_rounds])), (h0_aes_keys, .inl (cy 1, 60, .inl c_aes_keys)), (h0_tag, .inl (cy 0, 16, .inl c_tag_2)), (ha1, .inl (cy 0, n_a1, .inl ca1))]) := hD
  refine lv_aload_n (pc := 32) hx hb (zdt_at zt_X2_findTag_0 16 rfl) rfl (lv_at hl 0 rfl) ?_
  refine lv_aload_n (pc := 33) hx hb (zdt_at zt_X2_findTag_0 17 rfl) rfl (lv_at hl 0 rfl) ?_
  refine va_get (pc := 34) (D := D) (ci := 4) (v := .ref h0_tag) (C := RX2) (T := TX2) (N := 7) hx hb hts hcX2 hown hK hP 0 rfl rfl 2 (by decide) hw0 (fun _ h9 => h9) rfl (zdt_at zt_X2_findTag_0 18 rfl) ?_
  refine lv_bipush (pc := 37) (v := (8 : Int32)) hx hb (zdt_at zt_X2_findTag_0 19 rfl) (by decide) ?_
  replace hf := zb_s hf
  obtain ⟨r_4, hc_, hf⟩ := hf
  refine zcs (pc := 39) (rv := (some (.long r_4))) (va_runSN (As := [.ref h0_tag, .int (8 : Int32)]) (rest := [.ref h0]) ⟨hx, hb, hml, hown, hts⟩ (c_X9_longAt l D cy tt H.size h0_tag 16 (8 : Int32) c_tag_2 r_4 hc_) ⟨va_cnB 2 hts gX2_findTag_X9_longAt_n67 rfl rfl rfl (gNs_4 hE.2.1) hw2 (by decide +kernel) ⟨Nat.le_of_ble_eq_true rfl, Nat.le_of_ble_eq_true rfl⟩, hw3, trivial⟩ ⟨zblind, zpre hE hS (hP.sub [3] rfl) (hD.sub [3] (by decide) rfl) (va_free hD hS hA [3] rfl)⟩ rfl rfl hl.1 rfl (lv_room (Nat.le_of_ble_eq_true rfl)) (zdt_at zt_X2_findTag_0 20 rfl) ⟨Nat.zero_le _, Nat.zero_le _⟩) ?_
  clear hc_
  refine W.eq (g2 := F0 m 42 ls [.long r_4, .ref h0]) rfl ?_
  refine va_put (pc := 42) (D := D) (ci := 4) (v := .long r_4) (ty := .long) (C := RX2) (T := TX2) (N := 7) hx hb hts hcX2 tyX2 tyX2_ok nmX2 hown hK hP hD hS 0 rfl rfl 4 (by decide) hw5 (fun _ h9 => h9) rfl (by decide +kernel) rfl rfl (Nat.le_of_ble_eq_true rfl) (zdt_at zt_X2_findTag_0 21 rfl) ?_
  clear hP hD hS
  intro H locs hP hD hS
  replace hP : va_P D vwCl ([(h0, .inr (4, [.ref h0_aes, .ref h0_modes, .ref h0_tag, .long r_3, .long r_4, .long c_sumHigh, .long c_sumLow])), (h0_aes, .inr (2, [.ref h0_aes_keys, .int c_aes_rounds])), (h0_aes_keys, .inl (cy 1, 60, .inl c_aes_keys)), (h0_tag, .inl (cy 0, 16, .inl c_tag_2)), (ha1, .inl (cy 0, n_a1, .inl ca1))]) H := hP
  replace hD : va_D A ([(h0, .inr (4, [.ref h0_aes, .ref h0_modes, .ref h0_tag, .long r_3, .long r_4, .long c_sumHigh, .long c_sumLow])), (h0_aes, .inr (2, [.ref h0_aes_keys, .int c_aes_rounds])), (h0_aes_keys, .inl (cy 1, 60, .inl c_aes_keys)), (h0_tag, .inl (cy 0, 16, .inl c_tag_2)), (ha1, .inl (cy 0, n_a1, .inl ca1))]) := hD
  refine lv_aload_n (pc := 45) hx hb (zdt_at zt_X2_findTag_0 22 rfl) rfl (lv_at hl 0 rfl) ?_
  refine lv_lconst (pc := 46) (v := (0 : Int64)) hx hb (zdt_at zt_X2_findTag_0 23 rfl) (by decide) ?_
  refine va_put (pc := 47) (D := D) (ci := 4) (v := .long (0 : Int64)) (ty := .long) (C := RX2) (T := TX2) (N := 7) hx hb hts hcX2 tyX2 tyX2_ok nmX2 hown hK hP hD hS 0 rfl rfl 5 (by decide) hw6 (fun _ h9 => h9) rfl (by decide +kernel) rfl rfl (Nat.le_of_ble_eq_true rfl) (zdt_at zt_X2_findTag_0 24 rfl) ?_
  clear hP hD hS
  intro H locs hP hD hS
  replace hP : va_P D vwCl ([(h0, .inr (4, [.ref h0_aes, .ref h0_modes, .ref h0_tag, .long r_3, .long r_4, .long (0 : Int64), .long c_sumLow])), (h0_aes, .inr (2, [.ref h0_aes_keys, .int c_aes_rounds])), (h0_aes_keys, .inl (cy 1, 60, .inl c_aes_keys)), (h0_tag, .inl (cy 0, 16, .inl c_tag_2)), (ha1, .inl (cy 0, n_a1, .inl ca1))]) H := hP
  replace hD : va_D A ([(h0, .inr (4, [.ref h0_aes, .ref h0_modes, .ref h0_tag, .long r_3, .long r_4, .long (0 : Int64), .long c_sumLow])), (h0_aes, .inr (2, [.ref h0_aes_keys, .int c_aes_rounds])), (h0_aes_keys, .inl (cy 1, 60, .inl c_aes_keys)), (h0_tag, .inl (cy 0, 16, .inl c_tag_2)), (ha1, .inl (cy 0, n_a1, .inl ca1))]) := hD
  refine lv_aload_n (pc := 50) hx hb (zdt_at zt_X2_findTag_0 25 rfl) rfl (lv_at hl 0 rfl) ?_
  refine lv_lconst (pc := 51) (v := (0 : Int64)) hx hb (zdt_at zt_X2_findTag_0 26 rfl) (by decide) ?_
  refine va_put (pc := 52) (D := D) (ci := 4) (v := .long (0 : Int64)) (ty := .long) (C := RX2) (T := TX2) (N := 7) hx hb hts hcX2 tyX2 tyX2_ok nmX2 hown hK hP hD hS 0 rfl rfl 6 (by decide) hw7 (fun _ h9 => h9) rfl (by decide +kernel) rfl rfl (Nat.le_of_ble_eq_true rfl) (zdt_at zt_X2_findTag_0 27 rfl) ?_
  clear hP hD hS
  intro H locs hP hD hS
  replace hP : va_P D vwCl ([(h0, .inr (4, [.ref h0_aes, .ref h0_modes, .ref h0_tag, .long r_3, .long r_4, .long (0 : Int64), .long (0 : Int64)])), (h0_aes, .inr (2, [.ref h0_aes_keys, .int c_aes_rounds])), (h0_aes_keys, .inl (cy 1, 60, .inl c_aes_keys)), (h0_tag, .inl (cy 0, 16, .inl c_tag_2)), (ha1, .inl (cy 0, n_a1, .inl ca1))]) H := hP
  replace hD : va_D A ([(h0, .inr (4, [.ref h0_aes, .ref h0_modes, .ref h0_tag, .long r_3, .long r_4, .long (0 : Int64), .long (0 : Int64)])), (h0_aes, .inr (2, [.ref h0_aes_keys, .int c_aes_rounds])), (h0_aes_keys, .inl (cy 1, 60, .inl c_aes_keys)), (h0_tag, .inl (cy 0, 16, .inl c_tag_2)), (ha1, .inl (cy 0, n_a1, .inl ca1))]) := hD
  refine lv_aload_n (pc := 55) hx hb (zdt_at zt_X2_findTag_0 28 rfl) rfl (lv_at hl 0 rfl) ?_
  refine lv_aload_n (pc := 56) hx hb (zdt_at zt_X2_findTag_0 29 rfl) rfl (lv_at hl 1 rfl) ?_
  refine lv_iload_n (pc := 57) hx hb (zdt_at zt_X2_findTag_0 30 rfl) rfl (lv_at hl 2 rfl) ?_
  refine lv_bipush (pc := 58) (v := (12 : Int32)) hx hb (zdt_at zt_X2_findTag_0 31 rfl) (by decide) ?_
  refine lv_iadd (pc := 60) hx hb (zdt_at zt_X2_findTag_0 32 rfl) ?_
  refine lv_iload_n (pc := 61) hx hb (zdt_at zt_X2_findTag_0 33 rfl) rfl (lv_at hl 3 rfl) ?_
  replace hf := zb_s hf
  obtain ⟨⟨c_sumHigh_5, c_sumLow_6⟩, hc_, hf⟩ := hf
  refine zcn2 (pc := 62) (rv := none) (va_runV (As := [.ref ha1, .int (p2 + (12 : Int32)), .int p3]) (rest := []) ⟨hx, hb, hml, hown, hts⟩ (c_X2_absorb l D cy tt H.size h0 h0_aes h0_modes h0_tag ha1 n_a1 (p2 + (12 : Int32)) p3 r_3 r_4 (0 : Int64) (0 : Int64) ca1 c_sumHigh_5 c_sumLow_6 hc_) (cwV 3 hts gX2_findTag_X2_absorb rfl rfl rfl (by decide +kernel) ⟨Nat.le_of_ble_eq_true rfl, Nat.le_of_ble_eq_true rfl⟩) ⟨zblind, va_recv hK hP (ci := 4) (q0 := 0) rfl rfl, zpre hE hS (hP.sub [0, 4] rfl) (hD.sub [0, 4] (by decide) rfl) (va_free hD hS hA [0, 4] rfl)⟩ rfl rfl hl.1 rfl (lv_room (Nat.le_of_ble_eq_true rfl)) (zdt_at zt_X2_findTag_0 34 rfl) ⟨Nat.zero_le _, Nat.zero_le _⟩) hS hP hD (va_free hD hS hA [0, 4] rfl) [0, 4] rfl (by decide) rfl ?_
  clear hP hD hS hc_
  intro H locs hP hD hS
  replace hP : va_P D vwCl ([(h0, .inr (4, [.ref h0_aes, .ref h0_modes, .ref h0_tag, .long r_3, .long r_4, .long c_sumHigh_5, .long c_sumLow_6])), (h0_aes, .inr (2, [.ref h0_aes_keys, .int c_aes_rounds])), (h0_aes_keys, .inl (cy 1, 60, .inl c_aes_keys)), (h0_tag, .inl (cy 0, 16, .inl c_tag_2)), (ha1, .inl (cy 0, n_a1, .inl ca1))]) H := hP
  replace hD : va_D A ([(h0, .inr (4, [.ref h0_aes, .ref h0_modes, .ref h0_tag, .long r_3, .long r_4, .long c_sumHigh_5, .long c_sumLow_6])), (h0_aes, .inr (2, [.ref h0_aes_keys, .int c_aes_rounds])), (h0_aes_keys, .inl (cy 1, 60, .inl c_aes_keys)), (h0_tag, .inl (cy 0, 16, .inl c_tag_2)), (ha1, .inl (cy 0, n_a1, .inl ca1))]) := hD
  refine W.eq (g2 := F0 m 65 ls []) rfl ?_
  refine lv_aload_n (pc := 65) hx hb (zdt_at zt_X2_findTag_0 35 rfl) rfl (lv_at hl 0 rfl) ?_
  refine lv_aload_n (pc := 66) hx hb (zdt_at zt_X2_findTag_0 36 rfl) rfl (lv_at hl 1 rfl) ?_
  refine lv_iload_n (pc := 67) hx hb (zdt_at zt_X2_findTag_0 37 rfl) rfl (lv_at hl 2 rfl) ?_
  refine lv_bipush (pc := 68) (v := (12 : Int32)) hx hb (zdt_at zt_X2_findTag_0 38 rfl) (by decide) ?_
  refine lv_iadd (pc := 70) hx hb (zdt_at zt_X2_findTag_0 39 rfl) ?_
  refine lv_iload_n (pc := 71) hx hb (zdt_at zt_X2_findTag_0 40 rfl) rfl (lv_at hl 3 rfl) ?_
  refine lv_iadd (pc := 72) hx hb (zdt_at zt_X2_findTag_0 41 rfl) ?_
  refine lv_iload (pc := 73) hx hb (zdt_at zt_X2_findTag_0 42 rfl) (lv_at hl 4 rfl) ?_
  replace hf := zb_s hf
  obtain ⟨⟨c_sumHigh_7, c_sumLow_8⟩, hc_, hf⟩ := hf
  refine zcn2 (pc := 75) (rv := none) (va_runV (As := [.ref ha1, .int ((p2 + (12 : Int32)) + p3), .int p4]) (rest := []) ⟨hx, hb, hml, hown, hts⟩ (c_X2_absorb l D cy tt H.size h0 h0_aes h0_modes h0_tag ha1 n_a1 ((p2 + (12 : Int32)) + p3) p4 r_3 r_4 c_sumHigh_5 c_sumLow_6 ca1 c_sumHigh_7 c_sumLow_8 hc_) (cwV 3 hts gX2_findTag_X2_absorb rfl rfl rfl (by decide +kernel) ⟨Nat.le_of_ble_eq_true rfl, Nat.le_of_ble_eq_true rfl⟩) ⟨zblind, va_recv hK hP (ci := 4) (q0 := 0) rfl rfl, zpre hE hS (hP.sub [0, 4] rfl) (hD.sub [0, 4] (by decide) rfl) (va_free hD hS hA [0, 4] rfl)⟩ rfl rfl hl.1 rfl (lv_room (Nat.le_of_ble_eq_true rfl)) (zdt_at zt_X2_findTag_0 43 rfl) ⟨Nat.zero_le _, Nat.zero_le _⟩) hS hP hD (va_free hD hS hA [0, 4] rfl) [0, 4] rfl (by decide) rfl ?_
  clear hP hD hS hc_
  intro H locs hP hD hS
  replace hP : va_P D vwCl ([(h0, .inr (4, [.ref h0_aes, .ref h0_modes, .ref h0_tag, .long r_3, .long r_4, .long c_sumHigh_7, .long c_sumLow_8])), (h0_aes, .inr (2, [.ref h0_aes_keys, .int c_aes_rounds])), (h0_aes_keys, .inl (cy 1, 60, .inl c_aes_keys)), (h0_tag, .inl (cy 0, 16, .inl c_tag_2)), (ha1, .inl (cy 0, n_a1, .inl ca1))]) H := hP
  replace hD : va_D A ([(h0, .inr (4, [.ref h0_aes, .ref h0_modes, .ref h0_tag, .long r_3, .long r_4, .long c_sumHigh_7, .long c_sumLow_8])), (h0_aes, .inr (2, [.ref h0_aes_keys, .int c_aes_rounds])), (h0_aes_keys, .inl (cy 1, 60, .inl c_aes_keys)), (h0_tag, .inl (cy 0, 16, .inl c_tag_2)), (ha1, .inl (cy 0, n_a1, .inl ca1))]) := hD
  refine W.eq (g2 := F0 m 78 ls []) rfl ?_
  refine lv_aload_n (pc := 78) hx hb (zdt_at zt_X2_findTag_0 44 rfl) rfl (lv_at hl 0 rfl) ?_
  refine lv_dup (pc := 79) hx hb (zdt_at zt_X2_findTag_0 45 rfl) rfl ?_
  refine va_get (pc := 80) (D := D) (ci := 4) (v := .long c_sumHigh_7) (C := RX2) (T := TX2) (N := 7) hx hb hts hcX2 hown hK hP 0 rfl rfl 5 (by decide) hw6 (fun _ h9 => h9) rfl (zdt_at zt_X2_findTag_0 46 rfl) ?_
  refine lv_ldc2 (pc := 83) hx hb hown hw8 (zdt_at zt_X2_findTag_0 47 rfl) ?_
  refine lv_iload_n (pc := 86) hx hb (zdt_at zt_X2_findTag_0 48 rfl) rfl (lv_at hl 3 rfl) ?_
  refine lv_i2l (pc := 87) hx hb (zdt_at zt_X2_findTag_0 49 rfl) rfl ?_
  refine lv_lmul (pc := 88) hx hb (zdt_at zt_X2_findTag_0 50 rfl) ?_
  refine lv_lxor (pc := 89) hx hb (zdt_at zt_X2_findTag_0 51 rfl) ?_
  refine lv_topl (fun x_9 e_ => ?_)
  replace hf := zn_s hf e_
  clear e_
  refine va_put (pc := 90) (D := D) (ci := 4) (v := .long x_9) (ty := .long) (C := RX2) (T := TX2) (N := 7) hx hb hts hcX2 tyX2 tyX2_ok nmX2 hown hK hP hD hS 0 rfl rfl 5 (by decide) hw6 (fun _ h9 => h9) rfl (by decide +kernel) rfl rfl (Nat.le_of_ble_eq_true rfl) (zdt_at zt_X2_findTag_0 52 rfl) ?_
  clear hP hD hS
  intro H locs hP hD hS
  replace hP : va_P D vwCl ([(h0, .inr (4, [.ref h0_aes, .ref h0_modes, .ref h0_tag, .long r_3, .long r_4, .long x_9, .long c_sumLow_8])), (h0_aes, .inr (2, [.ref h0_aes_keys, .int c_aes_rounds])), (h0_aes_keys, .inl (cy 1, 60, .inl c_aes_keys)), (h0_tag, .inl (cy 0, 16, .inl c_tag_2)), (ha1, .inl (cy 0, n_a1, .inl ca1))]) H := hP
  replace hD : va_D A ([(h0, .inr (4, [.ref h0_aes, .ref h0_modes, .ref h0_tag, .long r_3, .long r_4, .long x_9, .long c_sumLow_8])), (h0_aes, .inr (2, [.ref h0_aes_keys, .int c_aes_rounds])), (h0_aes_keys, .inl (cy 1, 60, .inl c_aes_keys)), (h0_tag, .inl (cy 0, 16, .inl c_tag_2)), (ha1, .inl (cy 0, n_a1, .inl ca1))]) := hD
  refine lv_aload_n (pc := 93) hx hb (zdt_at zt_X2_findTag_0 53 rfl) rfl (lv_at hl 0 rfl) ?_
  refine lv_dup (pc := 94) hx hb (zdt_at zt_X2_findTag_0 54 rfl) rfl ?_
  refine va_get (pc := 95) (D := D) (ci := 4) (v := .long c_sumLow_8) (C := RX2) (T := TX2) (N := 7) hx hb hts hcX2 hown hK hP 0 rfl rfl 6 (by decide) hw7 (fun _ h9 => h9) rfl (zdt_at zt_X2_findTag_0 55 rfl) ?_
  refine lv_ldc2 (pc := 98) hx hb hown hw8 (zdt_at zt_X2_findTag_0 56 rfl) ?_
  refine lv_iload (pc := 101) hx hb (zdt_at zt_X2_findTag_0 57 rfl) (lv_at hl 4 rfl) ?_
  refine lv_i2l (pc := 103) hx hb (zdt_at zt_X2_findTag_0 58 rfl) rfl ?_
  refine lv_lmul (pc := 104) hx hb (zdt_at zt_X2_findTag_0 59 rfl) ?_
  refine lv_lxor (pc := 105) hx hb (zdt_at zt_X2_findTag_0 60 rfl) ?_
  refine lv_topl (fun x_10 e_ => ?_)
  replace hf := zn_s hf e_
  clear e_
  refine va_put (pc := 106) (D := D) (ci := 4) (v := .long x_10) (ty := .long) (C := RX2) (T := TX2) (N := 7) hx hb hts hcX2 tyX2 tyX2_ok nmX2 hown hK hP hD hS 0 rfl rfl 6 (by decide) hw7 (fun _ h9 => h9) rfl (by decide +kernel) rfl rfl (Nat.le_of_ble_eq_true rfl) (zdt_at zt_X2_findTag_0 61 rfl) ?_
  clear hP hD hS
  intro H locs hP hD hS
  replace hP : va_P D vwCl ([(h0, .inr (4, [.ref h0_aes, .ref h0_modes, .ref h0_tag, .long r_3, .long r_4, .long x_9, .long x_10])), (h0_aes, .inr (2, [.ref h0_aes_keys, .int c_aes_rounds])), (h0_aes_keys, .inl (cy 1, 60, .inl c_aes_keys)), (h0_tag, .inl (cy 0, 16, .inl c_tag_2)), (ha1, .inl (cy 0, n_a1, .inl ca1))]) H := hP
  replace hD : va_D A ([(h0, .inr (4, [.ref h0_aes, .ref h0_modes, .ref h0_tag, .long r_3, .long r_4, .long x_9, .long x_10])), (h0_aes, .inr (2, [.ref h0_aes_keys, .int c_aes_rounds])), (h0_aes_keys, .inl (cy 1, 60, .inl c_aes_keys)), (h0_tag, .inl (cy 0, 16, .inl c_tag_2)), (ha1, .inl (cy 0, n_a1, .inl ca1))]) := hD
  refine lv_aload_n (pc := 109) hx hb (zdt_at zt_X2_findTag_0 62 rfl) rfl (lv_at hl 0 rfl) ?_
  replace hf := zb_s hf
  obtain ⟨⟨c_sumHigh_11, c_sumLow_12⟩, hc_, hf⟩ := hf
  refine zcn2 (pc := 110) (rv := none) (va_runV (As := []) (rest := []) ⟨hx, hb, hml, hown, hts⟩ (c_X2_multiply l D cy tt H.size h0 h0_aes h0_modes h0_tag r_3 r_4 x_9 x_10 c_sumHigh_11 c_sumLow_12 hc_) (cwV 0 hts gX2_findTag_X2_multiply rfl rfl rfl (by decide +kernel) ⟨Nat.le_of_ble_eq_true rfl, Nat.le_of_ble_eq_true rfl⟩) ⟨zblind, va_recv hK hP (ci := 4) (q0 := 0) rfl rfl, zpre hE hS (hP.sub [0] rfl) (hD.sub [0] (by decide) rfl) (va_free hD hS hA [0] rfl)⟩ rfl rfl hl.1 rfl (lv_room (Nat.le_of_ble_eq_true rfl)) (zdt_at zt_X2_findTag_0 63 rfl) ⟨Nat.zero_le _, Nat.zero_le _⟩) hS hP hD (va_free hD hS hA [0] rfl) [0] rfl (by decide) rfl ?_
  clear hP hD hS hc_
  intro H locs hP hD hS
  replace hP : va_P D vwCl ([(h0, .inr (4, [.ref h0_aes, .ref h0_modes, .ref h0_tag, .long r_3, .long r_4, .long c_sumHigh_11, .long c_sumLow_12])), (h0_aes, .inr (2, [.ref h0_aes_keys, .int c_aes_rounds])), (h0_aes_keys, .inl (cy 1, 60, .inl c_aes_keys)), (h0_tag, .inl (cy 0, 16, .inl c_tag_2)), (ha1, .inl (cy 0, n_a1, .inl ca1))]) H := hP
  replace hD : va_D A ([(h0, .inr (4, [.ref h0_aes, .ref h0_modes, .ref h0_tag, .long r_3, .long r_4, .long c_sumHigh_11, .long c_sumLow_12])), (h0_aes, .inr (2, [.ref h0_aes_keys, .int c_aes_rounds])), (h0_aes_keys, .inl (cy 1, 60, .inl c_aes_keys)), (h0_tag, .inl (cy 0, 16, .inl c_tag_2)), (ha1, .inl (cy 0, n_a1, .inl ca1))]) := hD
  refine W.eq (g2 := F0 m 113 ls []) rfl ?_
  refine lv_aload_n (pc := 113) hx hb (zdt_at zt_X2_findTag_1 0 rfl) rfl (lv_at hl 1 rfl) ?_
  refine lv_iload_n (pc := 114) hx hb (zdt_at zt_X2_findTag_1 1 rfl) rfl (lv_at hl 2 rfl) ?_
  refine lv_aload_n (pc := 115) hx hb (zdt_at zt_X2_findTag_1 2 rfl) rfl (lv_at hl 0 rfl) ?_
  refine va_get (pc := 116) (D := D) (ci := 4) (v := .ref h0_tag) (C := RX2) (T := TX2) (N := 7) hx hb hts hcX2 hown hK hP 0 rfl rfl 2 (by decide) hw0 (fun _ h9 => h9) rfl (zdt_at zt_X2_findTag_1 3 rfl) ?_
  refine lv_iconst (pc := 119) (v := (0 : Int32)) hx hb (zdt_at zt_X2_findTag_1 4 rfl) (by decide) ?_
  refine lv_bipush (pc := 120) (v := (12 : Int32)) hx hb (zdt_at zt_X2_findTag_1 5 rfl) (by decide) ?_
  replace hf := zk_s hf
  refine va_copyi (pc := 122) hx hb (hml.trans hl.1.symm) hown hw9 hw10 hw11 hw12 hK hP hD hS 4 3 0 0 rfl rfl rfl rfl rfl hf.1.1 hf.1.2.1 hf.1.2.2.1 hf.1.2.2.2.1 hf.1.2.2.2.2.1 hf.1.2.2.2.2.2 (Nat.le_of_ble_eq_true rfl) (Nat.le_of_ble_eq_true rfl) (zdt_at zt_X2_findTag_1 6 rfl) ?_
  replace hf := hf.2
  clear hP hD hS
  intro H locs hP hD hS
  obtain ⟨c_tag_13, e_⟩ : ∃ q : Nat → Int32, q = (va_cpy ca1 c_tag_2 p2.toNatClampNeg (0 : Int32).toNatClampNeg (12 : Int32).toNatClampNeg) := ⟨_, rfl⟩
  replace hf := zn_s hf e_
  replace hP : va_P D vwCl ([(h0, .inr (4, [.ref h0_aes, .ref h0_modes, .ref h0_tag, .long r_3, .long r_4, .long c_sumHigh_11, .long c_sumLow_12])), (h0_aes, .inr (2, [.ref h0_aes_keys, .int c_aes_rounds])), (h0_aes_keys, .inl (cy 1, 60, .inl c_aes_keys)), (h0_tag, .inl (cy 0, 16, .inl c_tag_13)), (ha1, .inl (cy 0, n_a1, .inl ca1))]) H := by rw [e_]; exact hP
  replace hD : va_D A ([(h0, .inr (4, [.ref h0_aes, .ref h0_modes, .ref h0_tag, .long r_3, .long r_4, .long c_sumHigh_11, .long c_sumLow_12])), (h0_aes, .inr (2, [.ref h0_aes_keys, .int c_aes_rounds])), (h0_aes_keys, .inl (cy 1, 60, .inl c_aes_keys)), (h0_tag, .inl (cy 0, 16, .inl c_tag_13)), (ha1, .inl (cy 0, n_a1, .inl ca1))]) := by rw [e_]; exact hD
  clear e_
  refine lv_aload_n (pc := 125) hx hb (zdt_at zt_X2_findTag_1 7 rfl) rfl (lv_at hl 0 rfl) ?_
  refine va_get (pc := 126) (D := D) (ci := 4) (v := .ref h0_tag) (C := RX2) (T := TX2) (N := 7) hx hb hts hcX2 hown hK hP 0 rfl rfl 2 (by decide) hw0 (fun _ h9 => h9) rfl (zdt_at zt_X2_findTag_1 8 rfl) ?_
  refine lv_bipush (pc := 129) (v := (12 : Int32)) hx hb (zdt_at zt_X2_findTag_1 9 rfl) (by decide) ?_
  refine lv_iconst (pc := 131) (v := (1 : Int32)) hx hb (zdt_at zt_X2_findTag_1 10 rfl) (by decide) ?_
  replace hf := zb_s hf
  obtain ⟨c_tag_14, hc_, hf⟩ := hf
  refine zcn2 (pc := 132) (rv := none) (va_runSN (As := [.ref h0_tag, .int (12 : Int32), .int (1 : Int32)]) (rest := []) ⟨hx, hb, hml, hown, hts⟩ (c_X9_putInt l D cy tt H.size h0_tag 16 (12 : Int32) (1 : Int32) c_tag_13 c_tag_14 hc_) ⟨va_cnB 3 hts gX2_findTag_X9_putInt_n80 rfl rfl rfl (gNs_5 hE.2.1) hw2 (by decide +kernel) ⟨Nat.le_of_ble_eq_true rfl, Nat.le_of_ble_eq_true rfl⟩, hw13, trivial⟩ ⟨zblind, zpre hE hS (hP.sub [3] rfl) (hD.sub [3] (by decide) rfl) (va_free hD hS hA [3] rfl)⟩ rfl rfl hl.1 rfl (lv_room (Nat.le_of_ble_eq_true rfl)) (zdt_at zt_X2_findTag_1 11 rfl) ⟨Nat.zero_le _, Nat.zero_le _⟩) hS hP hD (va_free hD hS hA [3] rfl) [3] rfl (by decide) rfl ?_
  clear hP hD hS hc_
  intro H locs hP hD hS
  replace hP : va_P D vwCl ([(h0, .inr (4, [.ref h0_aes, .ref h0_modes, .ref h0_tag, .long r_3, .long r_4, .long c_sumHigh_11, .long c_sumLow_12])), (h0_aes, .inr (2, [.ref h0_aes_keys, .int c_aes_rounds])), (h0_aes_keys, .inl (cy 1, 60, .inl c_aes_keys)), (h0_tag, .inl (cy 0, 16, .inl c_tag_14)), (ha1, .inl (cy 0, n_a1, .inl ca1))]) H := hP
  replace hD : va_D A ([(h0, .inr (4, [.ref h0_aes, .ref h0_modes, .ref h0_tag, .long r_3, .long r_4, .long c_sumHigh_11, .long c_sumLow_12])), (h0_aes, .inr (2, [.ref h0_aes_keys, .int c_aes_rounds])), (h0_aes_keys, .inl (cy 1, 60, .inl c_aes_keys)), (h0_tag, .inl (cy 0, 16, .inl c_tag_14)), (ha1, .inl (cy 0, n_a1, .inl ca1))]) := hD
  refine W.eq (g2 := F0 m 135 ls []) rfl ?_
  refine lv_aload_n (pc := 135) hx hb (zdt_at zt_X2_findTag_1 12 rfl) rfl (lv_at hl 0 rfl) ?_
  refine va_get (pc := 136) (D := D) (ci := 4) (v := .ref h0_aes) (C := RX2) (T := TX2) (N := 7) hx hb hts hcX2 hown hK hP 0 rfl rfl 0 (by decide) hw1 (fun _ h9 => h9) rfl (zdt_at zt_X2_findTag_1 13 rfl) ?_
  refine lv_aload_n (pc := 139) hx hb (zdt_at zt_X2_findTag_1 14 rfl) rfl (lv_at hl 0 rfl) ?_
  refine va_get (pc := 140) (D := D) (ci := 4) (v := .ref h0_tag) (C := RX2) (T := TX2) (N := 7) hx hb hts hcX2 hown hK hP 0 rfl rfl 2 (by decide) hw0 (fun _ h9 => h9) rfl (zdt_at zt_X2_findTag_1 15 rfl) ?_
  refine lv_iconst (pc := 143) (v := (0 : Int32)) hx hb (zdt_at zt_X2_findTag_1 16 rfl) (by decide) ?_
  replace hf := zb_s hf
  obtain ⟨c_tag_15, hc_, hf⟩ := hf
  refine zcn2 (pc := 144) (rv := none) (va_runV (As := [.ref h0_tag, .int (0 : Int32)]) (rest := []) ⟨hx, hb, hml, hown, hts⟩ (c_X0_encrypt l D cy tt H.size h0_aes h0_aes_keys h0_tag 16 (0 : Int32) c_aes_rounds c_aes_keys c_tag_14 c_tag_15 hc_) (cwV 2 hts gX2_findTag_X0_encrypt rfl rfl rfl (by decide +kernel) ⟨Nat.le_of_ble_eq_true rfl, Nat.le_of_ble_eq_true rfl⟩) ⟨zblind, va_recv hK hP (ci := 2) (q0 := 1) rfl rfl, zpre hE hS (hP.sub [1, 2, 3] rfl) (hD.sub [1, 2, 3] (by decide) rfl) (va_free hD hS hA [1, 2, 3] rfl)⟩ rfl rfl hl.1 rfl (lv_room (Nat.le_of_ble_eq_true rfl)) (zdt_at zt_X2_findTag_1 17 rfl) ⟨Nat.zero_le _, Nat.zero_le _⟩) hS hP hD (va_free hD hS hA [1, 2, 3] rfl) [1, 2, 3] rfl (by decide) rfl ?_
  clear hP hD hS hc_
  intro H locs hP hD hS
  replace hP : va_P D vwCl ([(h0, .inr (4, [.ref h0_aes, .ref h0_modes, .ref h0_tag, .long r_3, .long r_4, .long c_sumHigh_11, .long c_sumLow_12])), (h0_aes, .inr (2, [.ref h0_aes_keys, .int c_aes_rounds])), (h0_aes_keys, .inl (cy 1, 60, .inl c_aes_keys)), (h0_tag, .inl (cy 0, 16, .inl c_tag_15)), (ha1, .inl (cy 0, n_a1, .inl ca1))]) H := hP
  replace hD : va_D A ([(h0, .inr (4, [.ref h0_aes, .ref h0_modes, .ref h0_tag, .long r_3, .long r_4, .long c_sumHigh_11, .long c_sumLow_12])), (h0_aes, .inr (2, [.ref h0_aes_keys, .int c_aes_rounds])), (h0_aes_keys, .inl (cy 1, 60, .inl c_aes_keys)), (h0_tag, .inl (cy 0, 16, .inl c_tag_15)), (ha1, .inl (cy 0, n_a1, .inl ca1))]) := hD
  refine W.eq (g2 := F0 m 147 ls []) rfl ?_
  refine lv_aload_n (pc := 147) hx hb (zdt_at zt_X2_findTag_1 18 rfl) rfl (lv_at hl 0 rfl) ?_
  refine va_get (pc := 148) (D := D) (ci := 4) (v := .ref h0_tag) (C := RX2) (T := TX2) (N := 7) hx hb hts hcX2 hown hK hP 0 rfl rfl 2 (by decide) hw0 (fun _ h9 => h9) rfl (zdt_at zt_X2_findTag_1 19 rfl) ?_
  refine lv_iconst (pc := 151) (v := (0 : Int32)) hx hb (zdt_at zt_X2_findTag_1 20 rfl) (by decide) ?_
  refine lv_aload_n (pc := 152) hx hb (zdt_at zt_X2_findTag_1 21 rfl) rfl (lv_at hl 0 rfl) ?_
  refine va_get (pc := 153) (D := D) (ci := 4) (v := .ref h0_tag) (C := RX2) (T := TX2) (N := 7) hx hb hts hcX2 hown hK hP 0 rfl rfl 2 (by decide) hw0 (fun _ h9 => h9) rfl (zdt_at zt_X2_findTag_1 22 rfl) ?_
  refine lv_iconst (pc := 156) (v := (0 : Int32)) hx hb (zdt_at zt_X2_findTag_1 23 rfl) (by decide) ?_
  replace hf := zb_s hf
  obtain ⟨r_16, hc_, hf⟩ := hf
  refine zcs (pc := 157) (rv := (some (.long r_16))) (va_runSN (As := [.ref h0_tag, .int (0 : Int32)]) (rest := [.int (0 : Int32), .ref h0_tag]) ⟨hx, hb, hml, hown, hts⟩ (c_X9_longAt l D cy tt H.size h0_tag 16 (0 : Int32) c_tag_15 r_16 hc_) ⟨va_cnB 2 hts gX2_findTag_X9_longAt_n67 rfl rfl rfl (gNs_4 hE.2.1) hw2 (by decide +kernel) ⟨Nat.le_of_ble_eq_true rfl, Nat.le_of_ble_eq_true rfl⟩, hw3, trivial⟩ ⟨zblind, zpre hE hS (hP.sub [3] rfl) (hD.sub [3] (by decide) rfl) (va_free hD hS hA [3] rfl)⟩ rfl rfl hl.1 rfl (lv_room (Nat.le_of_ble_eq_true rfl)) (zdt_at zt_X2_findTag_1 24 rfl) ⟨Nat.zero_le _, Nat.zero_le _⟩) ?_
  clear hc_
  refine W.eq (g2 := F0 m 160 ls [.long r_16, .int (0 : Int32), .ref h0_tag]) rfl ?_
  refine lv_aload_n (pc := 160) hx hb (zdt_at zt_X2_findTag_1 25 rfl) rfl (lv_at hl 0 rfl) ?_
  refine va_get (pc := 161) (D := D) (ci := 4) (v := .long c_sumHigh_11) (C := RX2) (T := TX2) (N := 7) hx hb hts hcX2 hown hK hP 0 rfl rfl 5 (by decide) hw6 (fun _ h9 => h9) rfl (zdt_at zt_X2_findTag_1 26 rfl) ?_
  refine lv_lxor (pc := 164) hx hb (zdt_at zt_X2_findTag_1 27 rfl) ?_
  replace hf := zb_s hf
  obtain ⟨c_tag_17, hc_, hf⟩ := hf
  refine zcn2 (pc := 165) (rv := none) (va_runSN (As := [.ref h0_tag, .int (0 : Int32), .long (r_16 ^^^ c_sumHigh_11)]) (rest := []) ⟨hx, hb, hml, hown, hts⟩ (c_X9_putLong l D cy tt H.size h0_tag 16 (0 : Int32) (r_16 ^^^ c_sumHigh_11) c_tag_15 c_tag_17 hc_) ⟨va_cnB 3 hts gX2_findTag_X9_putLong_n83 rfl rfl rfl (gNs_6 hE.2.1) hw2 (by decide +kernel) ⟨Nat.le_of_ble_eq_true rfl, Nat.le_of_ble_eq_true rfl⟩, hw14, trivial⟩ ⟨zblind, zpre hE hS (hP.sub [3] rfl) (hD.sub [3] (by decide) rfl) (va_free hD hS hA [3] rfl)⟩ rfl rfl hl.1 rfl (lv_room (Nat.le_of_ble_eq_true rfl)) (zdt_at zt_X2_findTag_1 28 rfl) ⟨Nat.zero_le _, Nat.zero_le _⟩) hS hP hD (va_free hD hS hA [3] rfl) [3] rfl (by decide) rfl ?_
  clear hP hD hS hc_
  intro H locs hP hD hS
  replace hP : va_P D vwCl ([(h0, .inr (4, [.ref h0_aes, .ref h0_modes, .ref h0_tag, .long r_3, .long r_4, .long c_sumHigh_11, .long c_sumLow_12])), (h0_aes, .inr (2, [.ref h0_aes_keys, .int c_aes_rounds])), (h0_aes_keys, .inl (cy 1, 60, .inl c_aes_keys)), (h0_tag, .inl (cy 0, 16, .inl c_tag_17)), (ha1, .inl (cy 0, n_a1, .inl ca1))]) H := hP
  replace hD : va_D A ([(h0, .inr (4, [.ref h0_aes, .ref h0_modes, .ref h0_tag, .long r_3, .long r_4, .long c_sumHigh_11, .long c_sumLow_12])), (h0_aes, .inr (2, [.ref h0_aes_keys, .int c_aes_rounds])), (h0_aes_keys, .inl (cy 1, 60, .inl c_aes_keys)), (h0_tag, .inl (cy 0, 16, .inl c_tag_17)), (ha1, .inl (cy 0, n_a1, .inl ca1))]) := hD
  refine W.eq (g2 := F0 m 168 ls []) rfl ?_
  refine lv_aload_n (pc := 168) hx hb (zdt_at zt_X2_findTag_1 29 rfl) rfl (lv_at hl 0 rfl) ?_
  refine va_get (pc := 169) (D := D) (ci := 4) (v := .ref h0_tag) (C := RX2) (T := TX2) (N := 7) hx hb hts hcX2 hown hK hP 0 rfl rfl 2 (by decide) hw0 (fun _ h9 => h9) rfl (zdt_at zt_X2_findTag_1 30 rfl) ?_
  refine lv_bipush (pc := 172) (v := (8 : Int32)) hx hb (zdt_at zt_X2_findTag_1 31 rfl) (by decide) ?_
  refine lv_aload_n (pc := 174) hx hb (zdt_at zt_X2_findTag_1 32 rfl) rfl (lv_at hl 0 rfl) ?_
  refine va_get (pc := 175) (D := D) (ci := 4) (v := .ref h0_tag) (C := RX2) (T := TX2) (N := 7) hx hb hts hcX2 hown hK hP 0 rfl rfl 2 (by decide) hw0 (fun _ h9 => h9) rfl (zdt_at zt_X2_findTag_1 33 rfl) ?_
  refine lv_bipush (pc := 178) (v := (8 : Int32)) hx hb (zdt_at zt_X2_findTag_1 34 rfl) (by decide) ?_
  replace hf := zb_s hf
  obtain ⟨r_18, hc_, hf⟩ := hf
  refine zcs (pc := 180) (rv := (some (.long r_18))) (va_runSN (As := [.ref h0_tag, .int (8 : Int32)]) (rest := [.int (8 : Int32), .ref h0_tag]) ⟨hx, hb, hml, hown, hts⟩ (c_X9_longAt l D cy tt H.size h0_tag 16 (8 : Int32) c_tag_17 r_18 hc_) ⟨va_cnB 2 hts gX2_findTag_X9_longAt_n67 rfl rfl rfl (gNs_4 hE.2.1) hw2 (by decide +kernel) ⟨Nat.le_of_ble_eq_true rfl, Nat.le_of_ble_eq_true rfl⟩, hw3, trivial⟩ ⟨zblind, zpre hE hS (hP.sub [3] rfl) (hD.sub [3] (by decide) rfl) (va_free hD hS hA [3] rfl)⟩ rfl rfl hl.1 rfl (lv_room (Nat.le_of_ble_eq_true rfl)) (zdt_at zt_X2_findTag_1 35 rfl) ⟨Nat.zero_le _, Nat.zero_le _⟩) ?_
  clear hc_
  refine W.eq (g2 := F0 m 183 ls [.long r_18, .int (8 : Int32), .ref h0_tag]) rfl ?_
  refine lv_aload_n (pc := 183) hx hb (zdt_at zt_X2_findTag_1 36 rfl) rfl (lv_at hl 0 rfl) ?_
  refine va_get (pc := 184) (D := D) (ci := 4) (v := .long c_sumLow_12) (C := RX2) (T := TX2) (N := 7) hx hb hts hcX2 hown hK hP 0 rfl rfl 6 (by decide) hw7 (fun _ h9 => h9) rfl (zdt_at zt_X2_findTag_1 37 rfl) ?_
  refine lv_lxor (pc := 187) hx hb (zdt_at zt_X2_findTag_1 38 rfl) ?_
  replace hf := zb_s hf
  obtain ⟨c_tag_19, hc_, hf⟩ := hf
  refine zcn2 (pc := 188) (rv := none) (va_runSN (As := [.ref h0_tag, .int (8 : Int32), .long (r_18 ^^^ c_sumLow_12)]) (rest := []) ⟨hx, hb, hml, hown, hts⟩ (c_X9_putLong l D cy tt H.size h0_tag 16 (8 : Int32) (r_18 ^^^ c_sumLow_12) c_tag_17 c_tag_19 hc_) ⟨va_cnB 3 hts gX2_findTag_X9_putLong_n83 rfl rfl rfl (gNs_6 hE.2.1) hw2 (by decide +kernel) ⟨Nat.le_of_ble_eq_true rfl, Nat.le_of_ble_eq_true rfl⟩, hw14, trivial⟩ ⟨zblind, zpre hE hS (hP.sub [3] rfl) (hD.sub [3] (by decide) rfl) (va_free hD hS hA [3] rfl)⟩ rfl rfl hl.1 rfl (lv_room (Nat.le_of_ble_eq_true rfl)) (zdt_at zt_X2_findTag_1 39 rfl) ⟨Nat.zero_le _, Nat.zero_le _⟩) hS hP hD (va_free hD hS hA [3] rfl) [3] rfl (by decide) rfl ?_
  clear hP hD hS hc_
  intro H locs hP hD hS
  replace hP : va_P D vwCl ([(h0, .inr (4, [.ref h0_aes, .ref h0_modes, .ref h0_tag, .long r_3, .long r_4, .long c_sumHigh_11, .long c_sumLow_12])), (h0_aes, .inr (2, [.ref h0_aes_keys, .int c_aes_rounds])), (h0_aes_keys, .inl (cy 1, 60, .inl c_aes_keys)), (h0_tag, .inl (cy 0, 16, .inl c_tag_19)), (ha1, .inl (cy 0, n_a1, .inl ca1))]) H := hP
  replace hD : va_D A ([(h0, .inr (4, [.ref h0_aes, .ref h0_modes, .ref h0_tag, .long r_3, .long r_4, .long c_sumHigh_11, .long c_sumLow_12])), (h0_aes, .inr (2, [.ref h0_aes_keys, .int c_aes_rounds])), (h0_aes_keys, .inl (cy 1, 60, .inl c_aes_keys)), (h0_tag, .inl (cy 0, 16, .inl c_tag_19)), (ha1, .inl (cy 0, n_a1, .inl ca1))]) := hD
  refine W.eq (g2 := F0 m 191 ls []) rfl ?_
  cases hf
  exact W.vret (pc := 191) hx hb hr (fun t ht hW => ⟨rfl, ⟨by rw [ht]; exact hP, hD⟩, hS.F ht⟩) hS.2.2 (zdt_at zt_X2_findTag_1 40 rfl)
set_option maxHeartbeats 4000000 in
set_option maxRecDepth 100000 in
theorem c_X2_sealText (l : Launch) (D : va_G) (cy : Nat → ClassId) (tt : Nat → Nat) (sz : Nat) (h0 : Nat) (h0_aes : Nat) (h0_modes : Nat) (h0_tag : Nat) (h0_aes_keys : Nat) (h0_modes_block : Nat) (h0_modes_pad : Nat) (ha1 : Nat) (n_a1 : Nat) (p2 : Int32) (p3 : Int32) (p4 : Int32) (c_keyHigh : Int64) (c_keyLow : Int64) (c_sumHigh : Int64) (c_sumLow : Int64) (c_aes_rounds : Int32) (c_aes_keys : Nat → Int32) (c_modes_block : Nat → Int32) (c_modes_pad : Nat → Int32) (c_tag : Nat → Int32) (ca1 : Nat → Int32) (c_keyHigh' : Int64) (c_keyLow' : Int64) (c_sumHigh' : Int64) (c_sumLow' : Int64) (c_modes_block' : Nat → Int32) (c_modes_pad' : Nat → Int32) (c_tag' : Nat → Int32) (ca1' : Nat → Int32) (hf : f_X2_sealText n_a1 p2 p3 p4 c_keyHigh c_keyLow c_sumHigh c_sumLow c_aes_rounds c_aes_keys c_modes_block c_modes_pad c_tag ca1 = some (c_keyHigh', c_keyLow', c_sumHigh', c_sumLow', c_modes_block', c_modes_pad', c_tag', ca1')) : Met l yX2_sealText wsX2_sealText ({ frames := 4, cells := 0, slots := 0, locals := 112 }) (zPc D cy tt sz [.ref h0, .ref ha1, .int p2, .int p3, .int p4] ([(h0, .inr (4, [.ref h0_aes, .ref h0_modes, .ref h0_tag, .long c_keyHigh, .long c_keyLow, .long c_sumHigh, .long c_sumLow])), (h0_aes, .inr (2, [.ref h0_aes_keys, .int c_aes_rounds])), (h0_aes_keys, .inl (cy 1, 60, .inl c_aes_keys)), (h0_modes, .inr (6, [.ref h0_aes, .ref h0_modes_block, .ref h0_modes_pad])), (h0_modes_block, .inl (cy 0, 16, .inl c_modes_block)), (h0_modes_pad, .inl (cy 0, 16, .inl c_modes_pad)), (h0_tag, .inl (cy 0, 16, .inl c_tag)), (ha1, .inl (cy 0, n_a1, .inl ca1))])) (zQ D none ([(h0, .inr (4, [.ref h0_aes, .ref h0_modes, .ref h0_tag, .long c_keyHigh', .long c_keyLow', .long c_sumHigh', .long c_sumLow'])), (h0_aes, .inr (2, [.ref h0_aes_keys, .int c_aes_rounds])), (h0_aes_keys, .inl (cy 1, 60, .inl c_aes_keys)), (h0_modes, .inr (6, [.ref h0_aes, .ref h0_modes_block, .ref h0_modes_pad])), (h0_modes_block, .inl (cy 0, 16, .inl c_modes_block')), (h0_modes_pad, .inl (cy 0, 16, .inl c_modes_pad')), (h0_tag, .inl (cy 0, 16, .inl c_tag')), (ha1, .inl (cy 0, n_a1, .inl ca1'))]) (va_A ([(h0, .inr (4, [.ref h0_aes, .ref h0_modes, .ref h0_tag, .long c_keyHigh, .long c_keyLow, .long c_sumHigh, .long c_sumLow])), (h0_aes, .inr (2, [.ref h0_aes_keys, .int c_aes_rounds])), (h0_aes_keys, .inl (cy 1, 60, .inl c_aes_keys)), (h0_modes, .inr (6, [.ref h0_aes, .ref h0_modes_block, .ref h0_modes_pad])), (h0_modes_block, .inl (cy 0, 16, .inl c_modes_block)), (h0_modes_pad, .inl (cy 0, 16, .inl c_modes_pad)), (h0_tag, .inl (cy 0, 16, .inl c_tag)), (ha1, .inl (cy 0, n_a1, .inl ca1))]) sz)) 0 0 (va_A ([(h0, .inr (4, [.ref h0_aes, .ref h0_modes, .ref h0_tag, .long c_keyHigh, .long c_keyLow, .long c_sumHigh, .long c_sumLow])), (h0_aes, .inr (2, [.ref h0_aes_keys, .int c_aes_rounds])), (h0_aes_keys, .inl (cy 1, 60, .inl c_aes_keys)), (h0_modes, .inr (6, [.ref h0_aes, .ref h0_modes_block, .ref h0_modes_pad])), (h0_modes_block, .inl (cy 0, 16, .inl c_modes_block)), (h0_modes_pad, .inl (cy 0, 16, .inl c_modes_pad)), (h0_tag, .inl (cy 0, 16, .inl c_tag)), (ha1, .inl (cy 0, n_a1, .inl ca1))]) sz) := by
  refine Met.ofW (cc := cX2_sealText) (maxL := 6) (ret := none) (by decide) rfl ?_
  intro p e s m args below meth c s₁ B hml hv
  obtain ⟨rfl, rfl, hP, hD0, hE⟩ := hv
  have hx := B.exec
  have hb := B.bytes
  have hr := B.returns
  have hts := atoms_spec (ws := wsX2_sealText) B.pre
  have hown : s.vm.findClass RX2 = some m.cls := findClass_of_methodNamed B.named
  have hlocks := B.notSynchronized
  clear B
  have hD := hD0.self (sz := s.heap.size)
  generalize hAe : va_A ([(h0, .inr (4, [.ref h0_aes, .ref h0_modes, .ref h0_tag, .long c_keyHigh, .long c_keyLow, .long c_sumHigh, .long c_sumLow])), (h0_aes, .inr (2, [.ref h0_aes_keys, .int c_aes_rounds])), (h0_aes_keys, .inl (cy 1, 60, .inl c_aes_keys)), (h0_modes, .inr (6, [.ref h0_aes, .ref h0_modes_block, .ref h0_modes_pad])), (h0_modes_block, .inl (cy 0, 16, .inl c_modes_block)), (h0_modes_pad, .inl (cy 0, 16, .inl c_modes_pad)), (h0_tag, .inl (cy 0, 16, .inl c_tag)), (ha1, .inl (cy 0, n_a1, .inl ca1))]) s.heap.size = A at hD hE ⊢
  have hA : ∀ q : Nat, s.heap.size ≤ q → A q := fun q h => by rw [← hAe]; exact Or.inr h
  clear hAe hD0
  have hS : va_S A s.heap s.heap [] := va_S.rf
  have hK := hE.1
  have hw0 := hts (.fieldLink RX2 32 "SealedModule$Gcm" "modes" "LSealedModule$Modes;") (by decide +kernel)
  have hw1 := hts (.fieldLink RX2 9 "SealedModule$Gcm" "tag" "[B") (by decide +kernel)
  have hw2 := hts (.methodLink RX2 45 arraycopyName) (by decide +kernel)
  have hw3 := hts (.native arraycopyName) (by decide +kernel)
  have hw4 := hts (.static arraycopyName) (by decide +kernel)
  have hw5 := hts (.initialized "java/lang/System") (by decide +kernel)
  have hcX2 : ∀ w ∈ u_ws RX2 TX2 7, w ∈ wsX2_sealText := (fun _ h => List.mem_cons_of_mem _ (List.mem_append_left _ (List.mem_append_left _ (List.mem_append_right _ h))))
  have hl := lv_entry ([.ref h0, .ref ha1, .int p2, .int p3, .int p4]) (n := 6) (Nat.le_of_ble_eq_true rfl)
  rw [lg_entry_eq]
  generalize (lg_sl ([.ref h0, .ref ha1, .int p2, .int p3, .int p4]) ++ List.replicate (6 - (lg_sl ([.ref h0, .ref ha1, .int p2, .int p3, .int p4])).length) Slot.unset).toArray = ls at hl ⊢
  replace hl : lv_has ls 6 [(0, .ref h0), (1, .ref ha1), (2, .int p2), (3, .int p3), (4, .int p4)] := hl
  unfold f_X2_sealText at hf
  refine zgo (fun GW hTo hFr => ?_)
  refine hFr _ _ _ ?_
  obtain ⟨H, hHe⟩ : ∃ H, H = s.heap := ⟨_, rfl⟩
  obtain ⟨locs, hLe⟩ : ∃ L : List Loc, L = [] := ⟨_, rfl⟩
  rw [← hHe] at hP
  replace hS : va_S A s.heap H locs := by rw [hHe, hLe]; exact hS
  refine zat hHe.symm hLe.symm ?_
  clear hHe hLe
  refine lv_iload_n (pc := 0) hx hb (zdt_at zt_X2_sealText_0 0 rfl) rfl (lv_at hl 2 rfl) ?_
  refine lv_bipush (pc := 1) (v := (12 : Int32)) hx hb (zdt_at zt_X2_sealText_0 1 rfl) (by decide) ?_
  refine lv_iadd (pc := 3) hx hb (zdt_at zt_X2_sealText_0 2 rfl) ?_
  refine lv_iload_n (pc := 4) hx hb (zdt_at zt_X2_sealText_0 3 rfl) rfl (lv_at hl 3 rfl) ?_
  refine lv_iadd (pc := 5) hx hb (zdt_at zt_X2_sealText_0 4 rfl) ?_
  refine lv_topi (fun x_1 e_ => ?_)
  replace hf := zn_s hf e_
  clear e_
  refine lv_istore (pc := 6) (lv' := [(5, .int x_1), (0, .ref h0), (1, .ref ha1), (2, .int p2), (3, .int p3), (4, .int p4)]) hx hb (zdt_at zt_X2_sealText_0 5 rfl) hl (by decide) rfl ?_
  clear hl
  intro ls hl
  refine lv_aload_n (pc := 8) hx hb (zdt_at zt_X2_sealText_0 6 rfl) rfl (lv_at hl 1 rfl) ?_
  refine va_get (pc := 9) (D := D) (ci := 4) (v := .ref h0_modes) (C := RX2) (T := TX2) (N := 7) hx hb hts hcX2 hown hK hP 0 rfl rfl 1 (by decide) hw0 (fun _ h9 => h9) rfl (zdt_at zt_X2_sealText_0 7 rfl) ?_
  refine lv_aload_n (pc := 12) hx hb (zdt_at zt_X2_sealText_0 8 rfl) rfl (lv_at hl 2 rfl) ?_
  refine lv_iload_n (pc := 13) hx hb (zdt_at zt_X2_sealText_0 9 rfl) rfl (lv_at hl 3 rfl) ?_
  refine lv_iload (pc := 14) hx hb (zdt_at zt_X2_sealText_0 10 rfl) (lv_at hl 0 rfl) ?_
  refine lv_iload (pc := 16) hx hb (zdt_at zt_X2_sealText_0 11 rfl) (lv_at hl 5 rfl) ?_
  replace hf := zb_s hf
  obtain ⟨⟨c_modes_block_2, c_modes_pad_3, ca1_4⟩, hc_, hf⟩ := hf
  refine zcn2 (pc := 18) (rv := none) (va_runV (As := [.ref ha1, .int p2, .int x_1, .int p4]) (rest := []) ⟨hx, hb, hml, hown, hts⟩ (c_X4_addNonceStream l D cy tt H.size h0_modes h0_aes h0_modes_block h0_modes_pad h0_aes_keys ha1 n_a1 p2 x_1 p4 c_aes_rounds c_aes_keys c_modes_block c_modes_pad ca1 c_modes_block_2 c_modes_pad_3 ca1_4 hc_) (cwV 4 hts gX2_sealText_X4_addNonceStream rfl rfl rfl (by decide +kernel) ⟨Nat.le_of_ble_eq_true rfl, Nat.le_of_ble_eq_true rfl⟩) ⟨zblind, va_recv hK hP (ci := 6) (q0 := 3) rfl rfl, zpre hE hS (hP.sub [3, 1, 2, 4, 5, 7] rfl) (hD.sub [3, 1, 2, 4, 5, 7] (by decide) rfl) (va_free hD hS hA [3, 1, 2, 4, 5, 7] rfl)⟩ rfl rfl hl.1 rfl (lv_room (Nat.le_of_ble_eq_true rfl)) (zdt_at zt_X2_sealText_0 12 rfl) ⟨Nat.zero_le _, Nat.zero_le _⟩) hS hP hD (va_free hD hS hA [3, 1, 2, 4, 5, 7] rfl) [3, 1, 2, 4, 5, 7] rfl (by decide) rfl ?_
  clear hP hD hS hc_
  intro H locs hP hD hS
  replace hP : va_P D vwCl ([(h0, .inr (4, [.ref h0_aes, .ref h0_modes, .ref h0_tag, .long c_keyHigh, .long c_keyLow, .long c_sumHigh, .long c_sumLow])), (h0_aes, .inr (2, [.ref h0_aes_keys, .int c_aes_rounds])), (h0_aes_keys, .inl (cy 1, 60, .inl c_aes_keys)), (h0_modes, .inr (6, [.ref h0_aes, .ref h0_modes_block, .ref h0_modes_pad])), (h0_modes_block, .inl (cy 0, 16, .inl c_modes_block_2)), (h0_modes_pad, .inl (cy 0, 16, .inl c_modes_pad_3)), (h0_tag, .inl (cy 0, 16, .inl c_tag)), (ha1, .inl (cy 0, n_a1, .inl ca1_4))]) H := hP
  replace hD : va_D A ([(h0, .inr (4, [.ref h0_aes, .ref h0_modes, .ref h0_tag, .long c_keyHigh, .long c_keyLow, .long c_sumHigh, .long c_sumLow])), (h0_aes, .inr (2, [.ref h0_aes_keys, .int c_aes_rounds])), (h0_aes_keys, .inl (cy 1, 60, .inl c_aes_keys)), (h0_modes, .inr (6, [.ref h0_aes, .ref h0_modes_block, .ref h0_modes_pad])), (h0_modes_block, .inl (cy 0, 16, .inl c_modes_block_2)), (h0_modes_pad, .inl (cy 0, 16, .inl c_modes_pad_3)), (h0_tag, .inl (cy 0, 16, .inl c_tag)), (ha1, .inl (cy 0, n_a1, .inl ca1_4))]) := hD
  refine W.eq (g2 := F0 m 21 ls []) rfl ?_
  refine lv_aload_n (pc := 21) hx hb (zdt_at zt_X2_sealText_0 13 rfl) rfl (lv_at hl 1 rfl) ?_
  refine lv_aload_n (pc := 22) hx hb (zdt_at zt_X2_sealText_0 14 rfl) rfl (lv_at hl 2 rfl) ?_
  refine lv_iload_n (pc := 23) hx hb (zdt_at zt_X2_sealText_0 15 rfl) rfl (lv_at hl 3 rfl) ?_
  refine lv_iload_n (pc := 24) hx hb (zdt_at zt_X2_sealText_0 16 rfl) rfl (lv_at hl 4 rfl) ?_
  refine lv_iload (pc := 25) hx hb (zdt_at zt_X2_sealText_0 17 rfl) (lv_at hl 5 rfl) ?_
  replace hf := zb_s hf
  obtain ⟨⟨c_keyHigh_5, c_keyLow_6, c_sumHigh_7, c_sumLow_8, c_tag_9⟩, hc_, hf⟩ := hf
  refine zcn2 (pc := 27) (rv := none) (va_runV (As := [.ref ha1, .int p2, .int p3, .int p4]) (rest := []) ⟨hx, hb, hml, hown, hts⟩ (c_X2_findTag l D cy tt H.size h0 h0_aes h0_modes h0_tag h0_aes_keys ha1 n_a1 p2 p3 p4 c_keyHigh c_keyLow c_sumHigh c_sumLow c_aes_rounds c_aes_keys c_tag ca1_4 c_keyHigh_5 c_keyLow_6 c_sumHigh_7 c_sumLow_8 c_tag_9 hc_) (cwV 4 hts gX2_sealText_X2_findTag rfl rfl rfl (by decide +kernel) ⟨Nat.le_of_ble_eq_true rfl, Nat.le_of_ble_eq_true rfl⟩) ⟨zblind, va_recv hK hP (ci := 4) (q0 := 0) rfl rfl, zpre hE hS (hP.sub [0, 1, 2, 6, 7] rfl) (hD.sub [0, 1, 2, 6, 7] (by decide) rfl) (va_free hD hS hA [0, 1, 2, 6, 7] rfl)⟩ rfl rfl hl.1 rfl (lv_room (Nat.le_of_ble_eq_true rfl)) (zdt_at zt_X2_sealText_0 18 rfl) ⟨Nat.zero_le _, Nat.zero_le _⟩) hS hP hD (va_free hD hS hA [0, 1, 2, 6, 7] rfl) [0, 1, 2, 6, 7] rfl (by decide) rfl ?_
  clear hP hD hS hc_
  intro H locs hP hD hS
  replace hP : va_P D vwCl ([(h0, .inr (4, [.ref h0_aes, .ref h0_modes, .ref h0_tag, .long c_keyHigh_5, .long c_keyLow_6, .long c_sumHigh_7, .long c_sumLow_8])), (h0_aes, .inr (2, [.ref h0_aes_keys, .int c_aes_rounds])), (h0_aes_keys, .inl (cy 1, 60, .inl c_aes_keys)), (h0_modes, .inr (6, [.ref h0_aes, .ref h0_modes_block, .ref h0_modes_pad])), (h0_modes_block, .inl (cy 0, 16, .inl c_modes_block_2)), (h0_modes_pad, .inl (cy 0, 16, .inl c_modes_pad_3)), (h0_tag, .inl (cy 0, 16, .inl c_tag_9)), (ha1, .inl (cy 0, n_a1, .inl ca1_4))]) H := hP
  replace hD : va_D A ([(h0, .inr (4, [.ref h0_aes, .ref h0_modes, .ref h0_tag, .long c_keyHigh_5, .long c_keyLow_6, .long c_sumHigh_7, .long c_sumLow_8])), (h0_aes, .inr (2, [.ref h0_aes_keys, .int c_aes_rounds])), (h0_aes_keys, .inl (cy 1, 60, .inl c_aes_keys)), (h0_modes, .inr (6, [.ref h0_aes, .ref h0_modes_block, .ref h0_modes_pad])), (h0_modes_block, .inl (cy 0, 16, .inl c_modes_block_2)), (h0_modes_pad, .inl (cy 0, 16, .inl c_modes_pad_3)), (h0_tag, .inl (cy 0, 16, .inl c_tag_9)), (ha1, .inl (cy 0, n_a1, .inl ca1_4))]) := hD
  refine W.eq (g2 := F0 m 30 ls []) rfl ?_
  refine lv_aload_n (pc := 30) hx hb (zdt_at zt_X2_sealText_0 19 rfl) rfl (lv_at hl 1 rfl) ?_
  refine va_get (pc := 31) (D := D) (ci := 4) (v := .ref h0_tag) (C := RX2) (T := TX2) (N := 7) hx hb hts hcX2 hown hK hP 0 rfl rfl 2 (by decide) hw1 (fun _ h9 => h9) rfl (zdt_at zt_X2_sealText_0 20 rfl) ?_
  refine lv_iconst (pc := 34) (v := (0 : Int32)) hx hb (zdt_at zt_X2_sealText_0 21 rfl) (by decide) ?_
  refine lv_aload_n (pc := 35) hx hb (zdt_at zt_X2_sealText_0 22 rfl) rfl (lv_at hl 2 rfl) ?_
  refine lv_iload (pc := 36) hx hb (zdt_at zt_X2_sealText_0 23 rfl) (lv_at hl 0 rfl) ?_
  refine lv_iload (pc := 38) hx hb (zdt_at zt_X2_sealText_0 24 rfl) (lv_at hl 5 rfl) ?_
  refine lv_iadd (pc := 40) hx hb (zdt_at zt_X2_sealText_0 25 rfl) ?_
  refine lv_bipush (pc := 41) (v := (16 : Int32)) hx hb (zdt_at zt_X2_sealText_0 26 rfl) (by decide) ?_
  replace hf := zk_s hf
  refine va_copyi (pc := 43) hx hb (hml.trans hl.1.symm) hown hw2 hw3 hw4 hw5 hK hP hD hS 6 7 0 0 rfl rfl rfl rfl rfl hf.1.1 hf.1.2.1 hf.1.2.2.1 hf.1.2.2.2.1 hf.1.2.2.2.2.1 hf.1.2.2.2.2.2 (Nat.le_of_ble_eq_true rfl) (Nat.le_of_ble_eq_true rfl) (zdt_at zt_X2_sealText_0 27 rfl) ?_
  replace hf := hf.2
  clear hP hD hS
  intro H locs hP hD hS
  obtain ⟨ca1_10, e_⟩ : ∃ q : Nat → Int32, q = (va_cpy c_tag_9 ca1_4 (0 : Int32).toNatClampNeg (x_1 + p4).toNatClampNeg (16 : Int32).toNatClampNeg) := ⟨_, rfl⟩
  replace hf := zn_s hf e_
  replace hP : va_P D vwCl ([(h0, .inr (4, [.ref h0_aes, .ref h0_modes, .ref h0_tag, .long c_keyHigh_5, .long c_keyLow_6, .long c_sumHigh_7, .long c_sumLow_8])), (h0_aes, .inr (2, [.ref h0_aes_keys, .int c_aes_rounds])), (h0_aes_keys, .inl (cy 1, 60, .inl c_aes_keys)), (h0_modes, .inr (6, [.ref h0_aes, .ref h0_modes_block, .ref h0_modes_pad])), (h0_modes_block, .inl (cy 0, 16, .inl c_modes_block_2)), (h0_modes_pad, .inl (cy 0, 16, .inl c_modes_pad_3)), (h0_tag, .inl (cy 0, 16, .inl c_tag_9)), (ha1, .inl (cy 0, n_a1, .inl ca1_10))]) H := by rw [e_]; exact hP
  replace hD : va_D A ([(h0, .inr (4, [.ref h0_aes, .ref h0_modes, .ref h0_tag, .long c_keyHigh_5, .long c_keyLow_6, .long c_sumHigh_7, .long c_sumLow_8])), (h0_aes, .inr (2, [.ref h0_aes_keys, .int c_aes_rounds])), (h0_aes_keys, .inl (cy 1, 60, .inl c_aes_keys)), (h0_modes, .inr (6, [.ref h0_aes, .ref h0_modes_block, .ref h0_modes_pad])), (h0_modes_block, .inl (cy 0, 16, .inl c_modes_block_2)), (h0_modes_pad, .inl (cy 0, 16, .inl c_modes_pad_3)), (h0_tag, .inl (cy 0, 16, .inl c_tag_9)), (ha1, .inl (cy 0, n_a1, .inl ca1_10))]) := by rw [e_]; exact hD
  clear e_
  cases hf
  exact W.vret (pc := 46) hx hb hr (fun t ht hW => ⟨rfl, ⟨by rw [ht]; exact hP, hD⟩, hS.F ht⟩) hS.2.2 (zdt_at zt_X2_sealText_0 28 rfl)
set_option maxHeartbeats 4000000 in
set_option maxRecDepth 100000 in
theorem c_X2_openText (l : Launch) (D : va_G) (cy : Nat → ClassId) (tt : Nat → Nat) (sz : Nat) (h0 : Nat) (h0_aes : Nat) (h0_modes : Nat) (h0_tag : Nat) (h0_aes_keys : Nat) (h0_modes_block : Nat) (h0_modes_pad : Nat) (ha1 : Nat) (n_a1 : Nat) (p2 : Int32) (p3 : Int32) (p4 : Int32) (c_keyHigh : Int64) (c_keyLow : Int64) (c_sumHigh : Int64) (c_sumLow : Int64) (c_aes_rounds : Int32) (c_aes_keys : Nat → Int32) (c_modes_block : Nat → Int32) (c_modes_pad : Nat → Int32) (c_tag : Nat → Int32) (ca1 : Nat → Int32) (r_ : Int32) (c_keyHigh' : Int64) (c_keyLow' : Int64) (c_sumHigh' : Int64) (c_sumLow' : Int64) (c_modes_block' : Nat → Int32) (c_modes_pad' : Nat → Int32) (c_tag' : Nat → Int32) (ca1' : Nat → Int32) (hf : f_X2_openText n_a1 p2 p3 p4 c_keyHigh c_keyLow c_sumHigh c_sumLow c_aes_rounds c_aes_keys c_modes_block c_modes_pad c_tag ca1 = some (r_, c_keyHigh', c_keyLow', c_sumHigh', c_sumLow', c_modes_block', c_modes_pad', c_tag', ca1')) : Met l yX2_openText wsX2_openText ({ frames := 4, cells := 0, slots := 0, locals := 112 }) (zPc D cy tt sz [.ref h0, .ref ha1, .int p2, .int p3, .int p4] ([(h0, .inr (4, [.ref h0_aes, .ref h0_modes, .ref h0_tag, .long c_keyHigh, .long c_keyLow, .long c_sumHigh, .long c_sumLow])), (h0_aes, .inr (2, [.ref h0_aes_keys, .int c_aes_rounds])), (h0_aes_keys, .inl (cy 1, 60, .inl c_aes_keys)), (h0_modes, .inr (6, [.ref h0_aes, .ref h0_modes_block, .ref h0_modes_pad])), (h0_modes_block, .inl (cy 0, 16, .inl c_modes_block)), (h0_modes_pad, .inl (cy 0, 16, .inl c_modes_pad)), (h0_tag, .inl (cy 0, 16, .inl c_tag)), (ha1, .inl (cy 0, n_a1, .inl ca1))])) (zQ D (some (.int r_)) ([(h0, .inr (4, [.ref h0_aes, .ref h0_modes, .ref h0_tag, .long c_keyHigh', .long c_keyLow', .long c_sumHigh', .long c_sumLow'])), (h0_aes, .inr (2, [.ref h0_aes_keys, .int c_aes_rounds])), (h0_aes_keys, .inl (cy 1, 60, .inl c_aes_keys)), (h0_modes, .inr (6, [.ref h0_aes, .ref h0_modes_block, .ref h0_modes_pad])), (h0_modes_block, .inl (cy 0, 16, .inl c_modes_block')), (h0_modes_pad, .inl (cy 0, 16, .inl c_modes_pad')), (h0_tag, .inl (cy 0, 16, .inl c_tag')), (ha1, .inl (cy 0, n_a1, .inl ca1'))]) (va_A ([(h0, .inr (4, [.ref h0_aes, .ref h0_modes, .ref h0_tag, .long c_keyHigh, .long c_keyLow, .long c_sumHigh, .long c_sumLow])), (h0_aes, .inr (2, [.ref h0_aes_keys, .int c_aes_rounds])), (h0_aes_keys, .inl (cy 1, 60, .inl c_aes_keys)), (h0_modes, .inr (6, [.ref h0_aes, .ref h0_modes_block, .ref h0_modes_pad])), (h0_modes_block, .inl (cy 0, 16, .inl c_modes_block)), (h0_modes_pad, .inl (cy 0, 16, .inl c_modes_pad)), (h0_tag, .inl (cy 0, 16, .inl c_tag)), (ha1, .inl (cy 0, n_a1, .inl ca1))]) sz)) 0 0 (va_A ([(h0, .inr (4, [.ref h0_aes, .ref h0_modes, .ref h0_tag, .long c_keyHigh, .long c_keyLow, .long c_sumHigh, .long c_sumLow])), (h0_aes, .inr (2, [.ref h0_aes_keys, .int c_aes_rounds])), (h0_aes_keys, .inl (cy 1, 60, .inl c_aes_keys)), (h0_modes, .inr (6, [.ref h0_aes, .ref h0_modes_block, .ref h0_modes_pad])), (h0_modes_block, .inl (cy 0, 16, .inl c_modes_block)), (h0_modes_pad, .inl (cy 0, 16, .inl c_modes_pad)), (h0_tag, .inl (cy 0, 16, .inl c_tag)), (ha1, .inl (cy 0, n_a1, .inl ca1))]) sz) := by
  refine Met.ofW (cc := cX2_openText) (maxL := 6) (ret := (some .boolean)) (by decide) rfl ?_
  intro p e s m args below meth c s₁ B hml hv
  obtain ⟨rfl, rfl, hP, hD0, hE⟩ := hv
  have hx := B.exec
  have hb := B.bytes
  have hr := B.returns
  have hts := atoms_spec (ws := wsX2_openText) B.pre
  have hown : s.vm.findClass RX2 = some m.cls := findClass_of_methodNamed B.named
  have hlocks := B.notSynchronized
  clear B
  have hD := hD0.self (sz := s.heap.size)
  generalize hAe : va_A ([(h0, .inr (4, [.ref h0_aes, .ref h0_modes, .ref h0_tag, .long c_keyHigh, .long c_keyLow, .long c_sumHigh, .long c_sumLow])), (h0_aes, .inr (2, [.ref h0_aes_keys, .int c_aes_rounds])), (h0_aes_keys, .inl (cy 1, 60, .inl c_aes_keys)), (h0_modes, .inr (6, [.ref h0_aes, .ref h0_modes_block, .ref h0_modes_pad])), (h0_modes_block, .inl (cy 0, 16, .inl c_modes_block)), (h0_modes_pad, .inl (cy 0, 16, .inl c_modes_pad)), (h0_tag, .inl (cy 0, 16, .inl c_tag)), (ha1, .inl (cy 0, n_a1, .inl ca1))]) s.heap.size = A at hD hE ⊢
  have hA : ∀ q : Nat, s.heap.size ≤ q → A q := fun q h => by rw [← hAe]; exact Or.inr h
  clear hAe hD0
  have hS : va_S A s.heap s.heap [] := va_S.rf
  have hK := hE.1
  have hw0 := hts (.fieldLink RX2 9 "SealedModule$Gcm" "tag" "[B") (by decide +kernel)
  have hw1 := hts (.initialized RX9) (by decide +kernel)
  have hw2 := hts (.static yX9_alike) (by decide +kernel)
  have hw3 := hts (.fieldLink RX2 32 "SealedModule$Gcm" "modes" "LSealedModule$Modes;") (by decide +kernel)
  have hcX2 : ∀ w ∈ u_ws RX2 TX2 7, w ∈ wsX2_openText := (fun _ h => List.mem_cons_of_mem _ (List.mem_append_left _ (List.mem_append_left _ (List.mem_append_right _ h))))
  have hl := lv_entry ([.ref h0, .ref ha1, .int p2, .int p3, .int p4]) (n := 6) (Nat.le_of_ble_eq_true rfl)
  rw [lg_entry_eq]
  generalize (lg_sl ([.ref h0, .ref ha1, .int p2, .int p3, .int p4]) ++ List.replicate (6 - (lg_sl ([.ref h0, .ref ha1, .int p2, .int p3, .int p4])).length) Slot.unset).toArray = ls at hl ⊢
  replace hl : lv_has ls 6 [(0, .ref h0), (1, .ref ha1), (2, .int p2), (3, .int p3), (4, .int p4)] := hl
  unfold f_X2_openText at hf
  refine zgo (fun GW hTo hFr => ?_)
  refine hFr _ _ _ ?_
  obtain ⟨H, hHe⟩ : ∃ H, H = s.heap := ⟨_, rfl⟩
  obtain ⟨locs, hLe⟩ : ∃ L : List Loc, L = [] := ⟨_, rfl⟩
  rw [← hHe] at hP
  replace hS : va_S A s.heap H locs := by rw [hHe, hLe]; exact hS
  refine zat hHe.symm hLe.symm ?_
  clear hHe hLe
  refine lv_iload_n (pc := 0) hx hb (zdt_at zt_X2_openText_0 0 rfl) rfl (lv_at hl 2 rfl) ?_
  refine lv_bipush (pc := 1) (v := (12 : Int32)) hx hb (zdt_at zt_X2_openText_0 1 rfl) (by decide) ?_
  refine lv_iadd (pc := 3) hx hb (zdt_at zt_X2_openText_0 2 rfl) ?_
  refine lv_iload_n (pc := 4) hx hb (zdt_at zt_X2_openText_0 3 rfl) rfl (lv_at hl 3 rfl) ?_
  refine lv_iadd (pc := 5) hx hb (zdt_at zt_X2_openText_0 4 rfl) ?_
  refine lv_topi (fun x_1 e_ => ?_)
  replace hf := zn_s hf e_
  clear e_
  refine lv_istore (pc := 6) (lv' := [(5, .int x_1), (0, .ref h0), (1, .ref ha1), (2, .int p2), (3, .int p3), (4, .int p4)]) hx hb (zdt_at zt_X2_openText_0 5 rfl) hl (by decide) rfl ?_
  clear hl
  intro ls hl
  refine lv_aload_n (pc := 8) hx hb (zdt_at zt_X2_openText_0 6 rfl) rfl (lv_at hl 1 rfl) ?_
  refine lv_aload_n (pc := 9) hx hb (zdt_at zt_X2_openText_0 7 rfl) rfl (lv_at hl 2 rfl) ?_
  refine lv_iload_n (pc := 10) hx hb (zdt_at zt_X2_openText_0 8 rfl) rfl (lv_at hl 3 rfl) ?_
  refine lv_iload_n (pc := 11) hx hb (zdt_at zt_X2_openText_0 9 rfl) rfl (lv_at hl 4 rfl) ?_
  refine lv_iload (pc := 12) hx hb (zdt_at zt_X2_openText_0 10 rfl) (lv_at hl 5 rfl) ?_
  replace hf := zb_s hf
  obtain ⟨⟨c_keyHigh_2, c_keyLow_3, c_sumHigh_4, c_sumLow_5, c_tag_6⟩, hc_, hf⟩ := hf
  refine zcn2 (pc := 14) (rv := none) (va_runV (As := [.ref ha1, .int p2, .int p3, .int p4]) (rest := []) ⟨hx, hb, hml, hown, hts⟩ (c_X2_findTag l D cy tt H.size h0 h0_aes h0_modes h0_tag h0_aes_keys ha1 n_a1 p2 p3 p4 c_keyHigh c_keyLow c_sumHigh c_sumLow c_aes_rounds c_aes_keys c_tag ca1 c_keyHigh_2 c_keyLow_3 c_sumHigh_4 c_sumLow_5 c_tag_6 hc_) (cwV 4 hts gX2_openText_X2_findTag rfl rfl rfl (by decide +kernel) ⟨Nat.le_of_ble_eq_true rfl, Nat.le_of_ble_eq_true rfl⟩) ⟨zblind, va_recv hK hP (ci := 4) (q0 := 0) rfl rfl, zpre hE hS (hP.sub [0, 1, 2, 6, 7] rfl) (hD.sub [0, 1, 2, 6, 7] (by decide) rfl) (va_free hD hS hA [0, 1, 2, 6, 7] rfl)⟩ rfl rfl hl.1 rfl (lv_room (Nat.le_of_ble_eq_true rfl)) (zdt_at zt_X2_openText_0 11 rfl) ⟨Nat.zero_le _, Nat.zero_le _⟩) hS hP hD (va_free hD hS hA [0, 1, 2, 6, 7] rfl) [0, 1, 2, 6, 7] rfl (by decide) rfl ?_
  clear hP hD hS hc_
  intro H locs hP hD hS
  replace hP : va_P D vwCl ([(h0, .inr (4, [.ref h0_aes, .ref h0_modes, .ref h0_tag, .long c_keyHigh_2, .long c_keyLow_3, .long c_sumHigh_4, .long c_sumLow_5])), (h0_aes, .inr (2, [.ref h0_aes_keys, .int c_aes_rounds])), (h0_aes_keys, .inl (cy 1, 60, .inl c_aes_keys)), (h0_modes, .inr (6, [.ref h0_aes, .ref h0_modes_block, .ref h0_modes_pad])), (h0_modes_block, .inl (cy 0, 16, .inl c_modes_block)), (h0_modes_pad, .inl (cy 0, 16, .inl c_modes_pad)), (h0_tag, .inl (cy 0, 16, .inl c_tag_6)), (ha1, .inl (cy 0, n_a1, .inl ca1))]) H := hP
  replace hD : va_D A ([(h0, .inr (4, [.ref h0_aes, .ref h0_modes, .ref h0_tag, .long c_keyHigh_2, .long c_keyLow_3, .long c_sumHigh_4, .long c_sumLow_5])), (h0_aes, .inr (2, [.ref h0_aes_keys, .int c_aes_rounds])), (h0_aes_keys, .inl (cy 1, 60, .inl c_aes_keys)), (h0_modes, .inr (6, [.ref h0_aes, .ref h0_modes_block, .ref h0_modes_pad])), (h0_modes_block, .inl (cy 0, 16, .inl c_modes_block)), (h0_modes_pad, .inl (cy 0, 16, .inl c_modes_pad)), (h0_tag, .inl (cy 0, 16, .inl c_tag_6)), (ha1, .inl (cy 0, n_a1, .inl ca1))]) := hD
  refine W.eq (g2 := F0 m 17 ls []) rfl ?_
  refine lv_aload_n (pc := 17) hx hb (zdt_at zt_X2_openText_0 12 rfl) rfl (lv_at hl 1 rfl) ?_
  refine va_get (pc := 18) (D := D) (ci := 4) (v := .ref h0_tag) (C := RX2) (T := TX2) (N := 7) hx hb hts hcX2 hown hK hP 0 rfl rfl 2 (by decide) hw0 (fun _ h9 => h9) rfl (zdt_at zt_X2_openText_0 13 rfl) ?_
  refine lv_iconst (pc := 21) (v := (0 : Int32)) hx hb (zdt_at zt_X2_openText_0 14 rfl) (by decide) ?_
  refine lv_aload_n (pc := 22) hx hb (zdt_at zt_X2_openText_0 15 rfl) rfl (lv_at hl 2 rfl) ?_
  refine lv_iload (pc := 23) hx hb (zdt_at zt_X2_openText_0 16 rfl) (lv_at hl 0 rfl) ?_
  refine lv_iload (pc := 25) hx hb (zdt_at zt_X2_openText_0 17 rfl) (lv_at hl 5 rfl) ?_
  refine lv_iadd (pc := 27) hx hb (zdt_at zt_X2_openText_0 18 rfl) ?_
  refine lv_bipush (pc := 28) (v := (16 : Int32)) hx hb (zdt_at zt_X2_openText_0 19 rfl) (by decide) ?_
  replace hf := zb_s hf
  obtain ⟨r_7, hc_, hf⟩ := hf
  refine zcs (pc := 30) (rv := (some (.int r_7))) (va_runSN (As := [.ref h0_tag, .int (0 : Int32), .ref ha1, .int (x_1 + p4), .int (16 : Int32)]) (rest := []) ⟨hx, hb, hml, hown, hts⟩ (c_X9_alike l D cy tt H.size h0_tag ha1 16 n_a1 (0 : Int32) (x_1 + p4) (16 : Int32) c_tag_6 ca1 r_7 hc_) ⟨va_cnB 5 hts gX2_openText_X9_alike_n51 rfl rfl rfl (gNs_3 hE.2.1) hw1 (by decide +kernel) ⟨Nat.le_of_ble_eq_true rfl, Nat.le_of_ble_eq_true rfl⟩, hw2, trivial⟩ ⟨zblind, zpre hE hS (hP.sub [6, 7] rfl) (hD.sub [6, 7] (by decide) rfl) (va_free hD hS hA [6, 7] rfl)⟩ rfl rfl hl.1 rfl (lv_room (Nat.le_of_ble_eq_true rfl)) (zdt_at zt_X2_openText_0 20 rfl) ⟨Nat.zero_le _, Nat.zero_le _⟩) ?_
  clear hc_
  refine W.eq (g2 := F0 m 33 ls [.int r_7]) rfl ?_
  refine lv_if_ne (pc := 33) (tgt := 38) hx hb (zdt_at zt_X2_openText_0 21 rfl) (by decide) (fun cn_ => ?t_8) (fun cn_ => ?f_9)
  case f_9 =>
    replace hf := zt_s cn_ hf
    clear cn_
    refine lv_iconst (pc := 36) (v := (0 : Int32)) hx hb (zdt_at zt_X2_openText_0 22 rfl) (by decide) ?_
    cases hf
    exact W.zret (pc := 37) hx hb hr rfl (fun t ht hW => ⟨rfl, ⟨by rw [ht]; exact hP, hD⟩, hS.F ht⟩) hS.2.2 (zdt_at zt_X2_openText_0 23 rfl)
  replace hf := ze_s cn_ hf
  clear cn_
  refine lv_aload_n (pc := 38) hx hb (zdt_at zt_X2_openText_0 24 rfl) rfl (lv_at hl 1 rfl) ?_
  refine va_get (pc := 39) (D := D) (ci := 4) (v := .ref h0_modes) (C := RX2) (T := TX2) (N := 7) hx hb hts hcX2 hown hK hP 0 rfl rfl 1 (by decide) hw3 (fun _ h9 => h9) rfl (zdt_at zt_X2_openText_0 25 rfl) ?_
  refine lv_aload_n (pc := 42) hx hb (zdt_at zt_X2_openText_0 26 rfl) rfl (lv_at hl 2 rfl) ?_
  refine lv_iload_n (pc := 43) hx hb (zdt_at zt_X2_openText_0 27 rfl) rfl (lv_at hl 3 rfl) ?_
  refine lv_iload (pc := 44) hx hb (zdt_at zt_X2_openText_0 28 rfl) (lv_at hl 0 rfl) ?_
  refine lv_iload (pc := 46) hx hb (zdt_at zt_X2_openText_0 29 rfl) (lv_at hl 5 rfl) ?_
  replace hf := zb_s hf
  obtain ⟨⟨c_modes_block_10, c_modes_pad_11, ca1_12⟩, hc_, hf⟩ := hf
  refine zcn2 (pc := 48) (rv := none) (va_runV (As := [.ref ha1, .int p2, .int x_1, .int p4]) (rest := []) ⟨hx, hb, hml, hown, hts⟩ (c_X4_addNonceStream l D cy tt H.size h0_modes h0_aes h0_modes_block h0_modes_pad h0_aes_keys ha1 n_a1 p2 x_1 p4 c_aes_rounds c_aes_keys c_modes_block c_modes_pad ca1 c_modes_block_10 c_modes_pad_11 ca1_12 hc_) (cwV 4 hts gX2_openText_X4_addNonceStream rfl rfl rfl (by decide +kernel) ⟨Nat.le_of_ble_eq_true rfl, Nat.le_of_ble_eq_true rfl⟩) ⟨zblind, va_recv hK hP (ci := 6) (q0 := 3) rfl rfl, zpre hE hS (hP.sub [3, 1, 2, 4, 5, 7] rfl) (hD.sub [3, 1, 2, 4, 5, 7] (by decide) rfl) (va_free hD hS hA [3, 1, 2, 4, 5, 7] rfl)⟩ rfl rfl hl.1 rfl (lv_room (Nat.le_of_ble_eq_true rfl)) (zdt_at zt_X2_openText_0 30 rfl) ⟨Nat.zero_le _, Nat.zero_le _⟩) hS hP hD (va_free hD hS hA [3, 1, 2, 4, 5, 7] rfl) [3, 1, 2, 4, 5, 7] rfl (by decide) rfl ?_
  clear hP hD hS hc_
  intro H locs hP hD hS
  replace hP : va_P D vwCl ([(h0, .inr (4, [.ref h0_aes, .ref h0_modes, .ref h0_tag, .long c_keyHigh_2, .long c_keyLow_3, .long c_sumHigh_4, .long c_sumLow_5])), (h0_aes, .inr (2, [.ref h0_aes_keys, .int c_aes_rounds])), (h0_aes_keys, .inl (cy 1, 60, .inl c_aes_keys)), (h0_modes, .inr (6, [.ref h0_aes, .ref h0_modes_block, .ref h0_modes_pad])), (h0_modes_block, .inl (cy 0, 16, .inl c_modes_block_10)), (h0_modes_pad, .inl (cy 0, 16, .inl c_modes_pad_11)), (h0_tag, .inl (cy 0, 16, .inl c_tag_6)), (ha1, .inl (cy 0, n_a1, .inl ca1_12))]) H := hP
  replace hD : va_D A ([(h0, .inr (4, [.ref h0_aes, .ref h0_modes, .ref h0_tag, .long c_keyHigh_2, .long c_keyLow_3, .long c_sumHigh_4, .long c_sumLow_5])), (h0_aes, .inr (2, [.ref h0_aes_keys, .int c_aes_rounds])), (h0_aes_keys, .inl (cy 1, 60, .inl c_aes_keys)), (h0_modes, .inr (6, [.ref h0_aes, .ref h0_modes_block, .ref h0_modes_pad])), (h0_modes_block, .inl (cy 0, 16, .inl c_modes_block_10)), (h0_modes_pad, .inl (cy 0, 16, .inl c_modes_pad_11)), (h0_tag, .inl (cy 0, 16, .inl c_tag_6)), (ha1, .inl (cy 0, n_a1, .inl ca1_12))]) := hD
  refine W.eq (g2 := F0 m 51 ls []) rfl ?_
  refine lv_iconst (pc := 51) (v := (1 : Int32)) hx hb (zdt_at zt_X2_openText_0 31 rfl) (by decide) ?_
  cases hf
  exact W.zret (pc := 52) hx hb hr rfl (fun t ht hW => ⟨rfl, ⟨by rw [ht]; exact hP, hD⟩, hS.F ht⟩) hS.2.2 (zdt_at zt_X2_openText_0 32 rfl)
