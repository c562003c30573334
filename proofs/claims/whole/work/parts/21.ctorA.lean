set_option maxHeartbeats 4000000 in
set_option maxRecDepth 100000 in
theorem c_X0_init (l : Launch) (D : va_G) (cy : Nat → ClassId) (tt : Nat → Nat) (sz : Nat) (h0 : Nat) (c_rounds' : Int32) (c_keys' : Nat → Int32) (hf : f_X0_init = some (c_rounds', c_keys')) : Met l yX0_init wsX0_init ({ frames := 1, cells := 1, slots := 60, locals := 12 }) (zPc D cy tt sz [.ref h0] ([(h0, .inr (2, [.null, .int (0 : Int32)]))])) (zQI D (fun w1 => ∃ (h0_keys : Nat), w1 = [(h0, .inr (2, [.ref h0_keys, .int c_rounds'])), (h0_keys, .inl (cy 1, 60, .inl c_keys'))]) (va_A ([(h0, .inr (2, [.null, .int (0 : Int32)]))]) sz)) 1 60 (va_A ([(h0, .inr (2, [.null, .int (0 : Int32)]))]) sz) := by
  refine Met.ofW (cc := cX0_init) (maxL := 1) (ret := none) (by decide) rfl ?_
  intro p e s m args below meth c s₁ B hml hv
  obtain ⟨rfl, rfl, hP, hD0, hE⟩ := hv
  have hx := B.exec
  have hb := B.bytes
  have hr := B.returns
  have hts := atoms_spec (ws := wsX0_init) B.pre
  have hown : s.vm.findClass RX0 = some m.cls := findClass_of_methodNamed B.named
  have hlocks := B.notSynchronized
  have hin : meth.name = "<init>" := (name_of_methodNamed B.named B.method).1
  clear B
  have hD := hD0.self (sz := s.heap.size)
  generalize hAe : va_A ([(h0, .inr (2, [.null, .int (0 : Int32)]))]) s.heap.size = A at hD hE ⊢
  have hA : ∀ q : Nat, s.heap.size ≤ q → A q := fun q h => by rw [← hAe]; exact Or.inr h
  clear hAe hD0
  have hS : va_S A s.heap s.heap [] := va_S.rf
  have hK := hE.1
  have hw0 := hts (.methodLink RX0 1 objectInit) (by decide +kernel)
  have hw1 := hts (.instanceMethod objectInit) (by decide +kernel)
  have hw2 := hts (.code objectInit ⟨#[0xb1]⟩ 1 none) (by decide +kernel)
  have hw3 := hts (.arrayClass .int) (by decide +kernel)
  have hw4 := hts (.fieldLink RX0 7 "SealedModule$Aes" "keys" "[I") (by decide +kernel)
  have hw5 := hts (.fieldLink RX0 13 "SealedModule$Aes" "rounds" "I") (by decide +kernel)
  have hcX0 : ∀ w ∈ u_ws RX0 TX0 2, w ∈ wsX0_init := (fun _ h => List.mem_cons_of_mem _ (List.mem_append_right _ h))
  have hl := lv_entry ([.ref h0]) (n := 1) (Nat.le_of_ble_eq_true rfl)
  rw [lg_entry_eq]
  generalize (lg_sl ([.ref h0]) ++ List.replicate (1 - (lg_sl ([.ref h0])).length) Slot.unset).toArray = ls at hl ⊢
  replace hl : lv_has ls 1 [(0, .ref h0)] := hl
  unfold f_X0_init at hf
  obtain ⟨H, hHe⟩ : ∃ H, H = s.heap := ⟨_, rfl⟩
  obtain ⟨locs, hLe⟩ : ∃ L : List Loc, L = [] := ⟨_, rfl⟩
  rw [← hHe] at hP
  replace hS : va_S A s.heap H locs := by rw [hHe, hLe]; exact hS
  refine zat hHe.symm hLe.symm ?_
  clear hHe hLe
  refine lv_aload_n (pc := 0) hx hb (zdt_at zt_X0_init_0 0 rfl) rfl (lv_at hl 0 rfl) ?_
  refine W.objInit hx hb hown hw0 hw1 hw2 rfl (by rw [hml]; exact hl.1) rfl (zdt_at zt_X0_init_0 1 rfl) (Nat.le_of_ble_eq_true rfl) (Nat.le_of_ble_eq_true rfl) ?_
  refine W.eq (g2 := F0 m 4 ls []) rfl ?_
  refine lv_aload_n (pc := 4) hx hb (zdt_at zt_X0_init_0 2 rfl) rfl (lv_at hl 0 rfl) ?_
  refine lv_bipush (pc := 5) (v := (60 : Int32)) hx hb (zdt_at zt_X0_init_0 3 rfl) (by decide) ?_
  refine znewI (pc := 7) (N' := 60) hx hb hw3 hK hP hD hS hA (by decide) (by decide) (by decide) (Nat.le_of_ble_eq_true rfl) (Nat.le_of_ble_eq_true rfl) (zdt_at zt_X0_init_0 4 rfl) (fun h0_keys H hP_ hD_ hS_ => ?_)
  clear hP hD hS
  have hP := hP_
  have hD := hD_
  have hS := hS_
  clear hP_ hD_ hS_
  replace hP : va_P D vwCl ([(h0, .inr (2, [.null, .int (0 : Int32)])), (h0_keys, .inl (cy 1, 60, .inl (fun _ => 0)))]) H := hP
  replace hD : va_D A ([(h0, .inr (2, [.null, .int (0 : Int32)])), (h0_keys, .inl (cy 1, 60, .inl (fun _ => 0)))]) := hD
  refine va_putF (pc := 9) (D := D) (ci := 2) (v := .ref h0_keys) (ty := .array .int) (C := RX0) (T := TX0) (N := 2) hx hb hts hcX0 tyX0 tyX0_ok nmX0 hown hK hP hD hS 0 rfl rfl 0 (by decide) hw4 (fun _ h9 => h9) rfl hin rfl (by decide +kernel) rfl rfl (Nat.le_of_ble_eq_true rfl) (zdt_at zt_X0_init_0 5 rfl) ?_
  clear hP hD hS
  intro H locs hP hD hS
  replace hP : va_P D vwCl ([(h0, .inr (2, [.ref h0_keys, .int (0 : Int32)])), (h0_keys, .inl (cy 1, 60, .inl (fun _ => 0)))]) H := hP
  replace hD : va_D A ([(h0, .inr (2, [.ref h0_keys, .int (0 : Int32)])), (h0_keys, .inl (cy 1, 60, .inl (fun _ => 0)))]) := hD
  refine lv_aload_n (pc := 12) hx hb (zdt_at zt_X0_init_0 6 rfl) rfl (lv_at hl 0 rfl) ?_
  refine lv_bipush (pc := 13) (v := (10 : Int32)) hx hb (zdt_at zt_X0_init_0 7 rfl) (by decide) ?_
  refine va_put (pc := 15) (D := D) (ci := 2) (v := .int (10 : Int32)) (ty := .int) (C := RX0) (T := TX0) (N := 2) hx hb hts hcX0 tyX0 tyX0_ok nmX0 hown hK hP hD hS 0 rfl rfl 1 (by decide) hw5 (fun _ h9 => h9) rfl (by decide +kernel) rfl rfl (Nat.le_of_ble_eq_true rfl) (zdt_at zt_X0_init_0 8 rfl) ?_
  clear hP hD hS
  intro H locs hP hD hS
  replace hP : va_P D vwCl ([(h0, .inr (2, [.ref h0_keys, .int (10 : Int32)])), (h0_keys, .inl (cy 1, 60, .inl (fun _ => 0)))]) H := hP
  replace hD : va_D A ([(h0, .inr (2, [.ref h0_keys, .int (10 : Int32)])), (h0_keys, .inl (cy 1, 60, .inl (fun _ => 0)))]) := hD
  cases hf
  exact W.vret (pc := 18) hx hb hr (fun t ht hW => ⟨rfl, ⟨_, ⟨h0_keys, rfl⟩, by rw [ht]; exact hP, hD⟩, hS.F ht⟩) hS.2.2 (zdt_at zt_X0_init_0 9 rfl)
set_option maxHeartbeats 4000000 in
set_option maxRecDepth 100000 in
theorem c_X1_init (l : Launch) (D : va_G) (cy : Nat → ClassId) (tt : Nat → Nat) (sz : Nat) (h0 : Nat) (c_count' : Int32) (c_healthy' : Int32) (c_last' : Int32) (c_row' : Int32) (c_first' : Int32) (c_placeInWindow' : Int32) (c_timesInWindow' : Int32) (c_kept' : Nat → Int32) (hf : f_X1_init = some (c_count', c_healthy', c_last', c_row', c_first', c_placeInWindow', c_timesInWindow', c_kept')) : Met l yX1_init wsX1_init ({ frames := 1, cells := 1, slots := 64, locals := 12 }) (zPc D cy tt sz [.ref h0] ([(h0, .inr (3, [.null, .int (0 : Int32), .int (0 : Int32), .int (0 : Int32), .int (0 : Int32), .int (0 : Int32), .int (0 : Int32), .int (0 : Int32)]))])) (zQI D (fun w1 => ∃ (h0_kept : Nat), w1 = [(h0, .inr (3, [.ref h0_kept, .int c_count', .int c_healthy', .int c_last', .int c_row', .int c_first', .int c_placeInWindow', .int c_timesInWindow'])), (h0_kept, .inl (cy 1, 64, .inl c_kept'))]) (va_A ([(h0, .inr (3, [.null, .int (0 : Int32), .int (0 : Int32), .int (0 : Int32), .int (0 : Int32), .int (0 : Int32), .int (0 : Int32), .int (0 : Int32)]))]) sz)) 1 64 (va_A ([(h0, .inr (3, [.null, .int (0 : Int32), .int (0 : Int32), .int (0 : Int32), .int (0 : Int32), .int (0 : Int32), .int (0 : Int32), .int (0 : Int32)]))]) sz) := by
  refine Met.ofW (cc := cX1_init) (maxL := 1) (ret := none) (by decide) rfl ?_
  intro p e s m args below meth c s₁ B hml hv
  obtain ⟨rfl, rfl, hP, hD0, hE⟩ := hv
  have hx := B.exec
  have hb := B.bytes
  have hr := B.returns
  have hts := atoms_spec (ws := wsX1_init) B.pre
  have hown : s.vm.findClass RX1 = some m.cls := findClass_of_methodNamed B.named
  have hlocks := B.notSynchronized
  have hin : meth.name = "<init>" := (name_of_methodNamed B.named B.method).1
  clear B
  have hD := hD0.self (sz := s.heap.size)
  generalize hAe : va_A ([(h0, .inr (3, [.null, .int (0 : Int32), .int (0 : Int32), .int (0 : Int32), .int (0 : Int32), .int (0 : Int32), .int (0 : Int32), .int (0 : Int32)]))]) s.heap.size = A at hD hE ⊢
  have hA : ∀ q : Nat, s.heap.size ≤ q → A q := fun q h => by rw [← hAe]; exact Or.inr h
  clear hAe hD0
  have hS : va_S A s.heap s.heap [] := va_S.rf
  have hK := hE.1
  have hw0 := hts (.methodLink RX1 1 objectInit) (by decide +kernel)
  have hw1 := hts (.instanceMethod objectInit) (by decide +kernel)
  have hw2 := hts (.code objectInit ⟨#[0xb1]⟩ 1 none) (by decide +kernel)
  have hw3 := hts (.arrayClass .int) (by decide +kernel)
  have hw4 := hts (.fieldLink RX1 9 "SealedModule$Entropy" "kept" "[I") (by decide +kernel)
  have hw5 := hts (.fieldLink RX1 13 "SealedModule$Entropy" "count" "I") (by decide +kernel)
  have hw6 := hts (.fieldLink RX1 17 "SealedModule$Entropy" "healthy" "Z") (by decide +kernel)
  have hw7 := hts (.fieldLink RX1 21 "SealedModule$Entropy" "last" "I") (by decide +kernel)
  have hw8 := hts (.fieldLink RX1 24 "SealedModule$Entropy" "row" "I") (by decide +kernel)
  have hw9 := hts (.fieldLink RX1 27 "SealedModule$Entropy" "first" "I") (by decide +kernel)
  have hw10 := hts (.fieldLink RX1 30 "SealedModule$Entropy" "placeInWindow" "I") (by decide +kernel)
  have hw11 := hts (.fieldLink RX1 33 "SealedModule$Entropy" "timesInWindow" "I") (by decide +kernel)
  have hcX1 : ∀ w ∈ u_ws RX1 TX1 8, w ∈ wsX1_init := (fun _ h => List.mem_cons_of_mem _ (List.mem_append_right _ h))
  have hl := lv_entry ([.ref h0]) (n := 1) (Nat.le_of_ble_eq_true rfl)
  rw [lg_entry_eq]
  generalize (lg_sl ([.ref h0]) ++ List.replicate (1 - (lg_sl ([.ref h0])).length) Slot.unset).toArray = ls at hl ⊢
  replace hl : lv_has ls 1 [(0, .ref h0)] := hl
  unfold f_X1_init at hf
  obtain ⟨H, hHe⟩ : ∃ H, H = s.heap := ⟨_, rfl⟩
  obtain ⟨locs, hLe⟩ : ∃ L : List Loc, L = [] := ⟨_, rfl⟩
  rw [← hHe] at hP
  replace hS : va_S A s.heap H locs := by rw [hHe, hLe]; exact hS
  refine zat hHe.symm hLe.symm ?_
  clear hHe hLe
  refine lv_aload_n (pc := 0) hx hb (zdt_at zt_X1_init_0 0 rfl) rfl (lv_at hl 0 rfl) ?_
  refine W.objInit hx hb hown hw0 hw1 hw2 rfl (by rw [hml]; exact hl.1) rfl (zdt_at zt_X1_init_0 1 rfl) (Nat.le_of_ble_eq_true rfl) (Nat.le_of_ble_eq_true rfl) ?_
  refine W.eq (g2 := F0 m 4 ls []) rfl ?_
  refine lv_aload_n (pc := 4) hx hb (zdt_at zt_X1_init_0 2 rfl) rfl (lv_at hl 0 rfl) ?_
  refine lv_bipush (pc := 5) (v := (64 : Int32)) hx hb (zdt_at zt_X1_init_0 3 rfl) (by decide) ?_
  refine znewI (pc := 7) (N' := 64) hx hb hw3 hK hP hD hS hA (by decide) (by decide) (by decide) (Nat.le_of_ble_eq_true rfl) (Nat.le_of_ble_eq_true rfl) (zdt_at zt_X1_init_0 4 rfl) (fun h0_kept H hP_ hD_ hS_ => ?_)
  clear hP hD hS
  have hP := hP_
  have hD := hD_
  have hS := hS_
  clear hP_ hD_ hS_
  replace hP : va_P D vwCl ([(h0, .inr (3, [.null, .int (0 : Int32), .int (0 : Int32), .int (0 : Int32), .int (0 : Int32), .int (0 : Int32), .int (0 : Int32), .int (0 : Int32)])), (h0_kept, .inl (cy 1, 64, .inl (fun _ => 0)))]) H := hP
  replace hD : va_D A ([(h0, .inr (3, [.null, .int (0 : Int32), .int (0 : Int32), .int (0 : Int32), .int (0 : Int32), .int (0 : Int32), .int (0 : Int32), .int (0 : Int32)])), (h0_kept, .inl (cy 1, 64, .inl (fun _ => 0)))]) := hD
  refine va_putF (pc := 9) (D := D) (ci := 3) (v := .ref h0_kept) (ty := .array .int) (C := RX1) (T := TX1) (N := 8) hx hb hts hcX1 tyX1 tyX1_ok nmX1 hown hK hP hD hS 0 rfl rfl 0 (by decide) hw4 (fun _ h9 => h9) rfl hin rfl (by decide +kernel) rfl rfl (Nat.le_of_ble_eq_true rfl) (zdt_at zt_X1_init_0 5 rfl) ?_
  clear hP hD hS
  intro H locs hP hD hS
  replace hP : va_P D vwCl ([(h0, .inr (3, [.ref h0_kept, .int (0 : Int32), .int (0 : Int32), .int (0 : Int32), .int (0 : Int32), .int (0 : Int32), .int (0 : Int32), .int (0 : Int32)])), (h0_kept, .inl (cy 1, 64, .inl (fun _ => 0)))]) H := hP
  replace hD : va_D A ([(h0, .inr (3, [.ref h0_kept, .int (0 : Int32), .int (0 : Int32), .int (0 : Int32), .int (0 : Int32), .int (0 : Int32), .int (0 : Int32), .int (0 : Int32)])), (h0_kept, .inl (cy 1, 64, .inl (fun _ => 0)))]) := hD
  refine lv_aload_n (pc := 12) hx hb (zdt_at zt_X1_init_0 6 rfl) rfl (lv_at hl 0 rfl) ?_
  refine lv_iconst (pc := 13) (v := (0 : Int32)) hx hb (zdt_at zt_X1_init_0 7 rfl) (by decide) ?_
  refine va_put (pc := 14) (D := D) (ci := 3) (v := .int (0 : Int32)) (ty := .int) (C := RX1) (T := TX1) (N := 8) hx hb hts hcX1 tyX1 tyX1_ok nmX1 hown hK hP hD hS 0 rfl rfl 1 (by decide) hw5 (fun _ h9 => h9) rfl (by decide +kernel) rfl rfl (Nat.le_of_ble_eq_true rfl) (zdt_at zt_X1_init_0 8 rfl) ?_
  clear hP hD hS
  intro H locs hP hD hS
  replace hP : va_P D vwCl ([(h0, .inr (3, [.ref h0_kept, .int (0 : Int32), .int (0 : Int32), .int (0 : Int32), .int (0 : Int32), .int (0 : Int32), .int (0 : Int32), .int (0 : Int32)])), (h0_kept, .inl (cy 1, 64, .inl (fun _ => 0)))]) H := hP
  replace hD : va_D A ([(h0, .inr (3, [.ref h0_kept, .int (0 : Int32), .int (0 : Int32), .int (0 : Int32), .int (0 : Int32), .int (0 : Int32), .int (0 : Int32), .int (0 : Int32)])), (h0_kept, .inl (cy 1, 64, .inl (fun _ => 0)))]) := hD
  refine lv_aload_n (pc := 17) hx hb (zdt_at zt_X1_init_0 9 rfl) rfl (lv_at hl 0 rfl) ?_
  refine lv_iconst (pc := 18) (v := (1 : Int32)) hx hb (zdt_at zt_X1_init_0 10 rfl) (by decide) ?_
  refine va_put (pc := 19) (D := D) (ci := 3) (v := .int (1 : Int32)) (ty := .boolean) (C := RX1) (T := TX1) (N := 8) hx hb hts hcX1 tyX1 tyX1_ok nmX1 hown hK hP hD hS 0 rfl rfl 2 (by decide) hw6 (fun _ h9 => h9) rfl (by decide +kernel) (by first | rfl | decide) (by first | rfl | decide) (Nat.le_of_ble_eq_true rfl) (zdt_at zt_X1_init_0 11 rfl) ?_
  clear hP hD hS
  intro H locs hP hD hS
  replace hP : va_P D vwCl ([(h0, .inr (3, [.ref h0_kept, .int (0 : Int32), .int (1 : Int32), .int (0 : Int32), .int (0 : Int32), .int (0 : Int32), .int (0 : Int32), .int (0 : Int32)])), (h0_kept, .inl (cy 1, 64, .inl (fun _ => 0)))]) H := hP
  replace hD : va_D A ([(h0, .inr (3, [.ref h0_kept, .int (0 : Int32), .int (1 : Int32), .int (0 : Int32), .int (0 : Int32), .int (0 : Int32), .int (0 : Int32), .int (0 : Int32)])), (h0_kept, .inl (cy 1, 64, .inl (fun _ => 0)))]) := hD
  refine lv_aload_n (pc := 22) hx hb (zdt_at zt_X1_init_0 12 rfl) rfl (lv_at hl 0 rfl) ?_
  refine lv_iconst (pc := 23) (v := (0 : Int32)) hx hb (zdt_at zt_X1_init_0 13 rfl) (by decide) ?_
  refine va_put (pc := 24) (D := D) (ci := 3) (v := .int (0 : Int32)) (ty := .int) (C := RX1) (T := TX1) (N := 8) hx hb hts hcX1 tyX1 tyX1_ok nmX1 hown hK hP hD hS 0 rfl rfl 3 (by decide) hw7 (fun _ h9 => h9) rfl (by decide +kernel) rfl rfl (Nat.le_of_ble_eq_true rfl) (zdt_at zt_X1_init_0 14 rfl) ?_
  clear hP hD hS
  intro H locs hP hD hS
  replace hP : va_P D vwCl ([(h0, .inr (3, [.ref h0_kept, .int (0 : Int32), .int (1 : Int32), .int (0 : Int32), .int (0 : Int32), .int (0 : Int32), .int (0 : Int32), .int (0 : Int32)])), (h0_kept, .inl (cy 1, 64, .inl (fun _ => 0)))]) H := hP
  replace hD : va_D A ([(h0, .inr (3, [.ref h0_kept, .int (0 : Int32), .int (1 : Int32), .int (0 : Int32), .int (0 : Int32), .int (0 : Int32), .int (0 : Int32), .int (0 : Int32)])), (h0_kept, .inl (cy 1, 64, .inl (fun _ => 0)))]) := hD
  refine lv_aload_n (pc := 27) hx hb (zdt_at zt_X1_init_0 15 rfl) rfl (lv_at hl 0 rfl) ?_
  refine lv_iconst (pc := 28) (v := (0 : Int32)) hx hb (zdt_at zt_X1_init_0 16 rfl) (by decide) ?_
  refine va_put (pc := 29) (D := D) (ci := 3) (v := .int (0 : Int32)) (ty := .int) (C := RX1) (T := TX1) (N := 8) hx hb hts hcX1 tyX1 tyX1_ok nmX1 hown hK hP hD hS 0 rfl rfl 4 (by decide) hw8 (fun _ h9 => h9) rfl (by decide +kernel) rfl rfl (Nat.le_of_ble_eq_true rfl) (zdt_at zt_X1_init_0 17 rfl) ?_
  clear hP hD hS
  intro H locs hP hD hS
  replace hP : va_P D vwCl ([(h0, .inr (3, [.ref h0_kept, .int (0 : Int32), .int (1 : Int32), .int (0 : Int32), .int (0 : Int32), .int (0 : Int32), .int (0 : Int32), .int (0 : Int32)])), (h0_kept, .inl (cy 1, 64, .inl (fun _ => 0)))]) H := hP
  replace hD : va_D A ([(h0, .inr (3, [.ref h0_kept, .int (0 : Int32), .int (1 : Int32), .int (0 : Int32), .int (0 : Int32), .int (0 : Int32), .int (0 : Int32), .int (0 : Int32)])), (h0_kept, .inl (cy 1, 64, .inl (fun _ => 0)))]) := hD
  refine lv_aload_n (pc := 32) hx hb (zdt_at zt_X1_init_0 18 rfl) rfl (lv_at hl 0 rfl) ?_
  refine lv_iconst (pc := 33) (v := (0 : Int32)) hx hb (zdt_at zt_X1_init_0 19 rfl) (by decide) ?_
  refine va_put (pc := 34) (D := D) (ci := 3) (v := .int (0 : Int32)) (ty := .int) (C := RX1) (T := TX1) (N := 8) hx hb hts hcX1 tyX1 tyX1_ok nmX1 hown hK hP hD hS 0 rfl rfl 5 (by decide) hw9 (fun _ h9 => h9) rfl (by decide +kernel) rfl rfl (Nat.le_of_ble_eq_true rfl) (zdt_at zt_X1_init_0 20 rfl) ?_
  clear hP hD hS
  intro H locs hP hD hS
  replace hP : va_P D vwCl ([(h0, .inr (3, [.ref h0_kept, .int (0 : Int32), .int (1 : Int32), .int (0 : Int32), .int (0 : Int32), .int (0 : Int32), .int (0 : Int32), .int (0 : Int32)])), (h0_kept, .inl (cy 1, 64, .inl (fun _ => 0)))]) H := hP
  replace hD : va_D A ([(h0, .inr (3, [.ref h0_kept, .int (0 : Int32), .int (1 : Int32), .int (0 : Int32), .int (0 : Int32), .int (0 : Int32), .int (0 : Int32), .int (0 : Int32)])), (h0_kept, .inl (cy 1, 64, .inl (fun _ => 0)))]) := hD
  refine lv_aload_n (pc := 37) hx hb (zdt_at zt_X1_init_0 21 rfl) rfl (lv_at hl 0 rfl) ?_
  refine lv_iconst (pc := 38) (v := (0 : Int32)) hx hb (zdt_at zt_X1_init_0 22 rfl) (by decide) ?_
  refine va_put (pc := 39) (D := D) (ci := 3) (v := .int (0 : Int32)) (ty := .int) (C := RX1) (T := TX1) (N := 8) hx hb hts hcX1 tyX1 tyX1_ok nmX1 hown hK hP hD hS 0 rfl rfl 6 (by decide) hw10 (fun _ h9 => h9) rfl (by decide +kernel) rfl rfl (Nat.le_of_ble_eq_true rfl) (zdt_at zt_X1_init_0 23 rfl) ?_
  clear hP hD hS
  intro H locs hP hD hS
  replace hP : va_P D vwCl ([(h0, .inr (3, [.ref h0_kept, .int (0 : Int32), .int (1 : Int32), .int (0 : Int32), .int (0 : Int32), .int (0 : Int32), .int (0 : Int32), .int (0 : Int32)])), (h0_kept, .inl (cy 1, 64, .inl (fun _ => 0)))]) H := hP
  replace hD : va_D A ([(h0, .inr (3, [.ref h0_kept, .int (0 : Int32), .int (1 : Int32), .int (0 : Int32), .int (0 : Int32), .int (0 : Int32), .int (0 : Int32), .int (0 : Int32)])), (h0_kept, .inl (cy 1, 64, .inl (fun _ => 0)))]) := hD
  refine lv_aload_n (pc := 42) hx hb (zdt_at zt_X1_init_0 24 rfl) rfl (lv_at hl 0 rfl) ?_
  refine lv_iconst (pc := 43) (v := (0 : Int32)) hx hb (zdt_at zt_X1_init_0 25 rfl) (by decide) ?_
  refine va_put (pc := 44) (D := D) (ci := 3) (v := .int (0 : Int32)) (ty := .int) (C := RX1) (T := TX1) (N := 8) hx hb hts hcX1 tyX1 tyX1_ok nmX1 hown hK hP hD hS 0 rfl rfl 7 (by decide) hw11 (fun _ h9 => h9) rfl (by decide +kernel) rfl rfl (Nat.le_of_ble_eq_true rfl) (zdt_at zt_X1_init_0 26 rfl) ?_
  clear hP hD hS
  intro H locs hP hD hS
  replace hP : va_P D vwCl ([(h0, .inr (3, [.ref h0_kept, .int (0 : Int32), .int (1 : Int32), .int (0 : Int32), .int (0 : Int32), .int (0 : Int32), .int (0 : Int32), .int (0 : Int32)])), (h0_kept, .inl (cy 1, 64, .inl (fun _ => 0)))]) H := hP
  replace hD : va_D A ([(h0, .inr (3, [.ref h0_kept, .int (0 : Int32), .int (1 : Int32), .int (0 : Int32), .int (0 : Int32), .int (0 : Int32), .int (0 : Int32), .int (0 : Int32)])), (h0_kept, .inl (cy 1, 64, .inl (fun _ => 0)))]) := hD
  cases hf
  exact W.vret (pc := 47) hx hb hr (fun t ht hW => ⟨rfl, ⟨_, ⟨h0_kept, rfl⟩, by rw [ht]; exact hP, hD⟩, hS.F ht⟩) hS.2.2 (zdt_at zt_X1_init_0 27 rfl)
set_option maxHeartbeats 4000000 in
set_option maxRecDepth 100000 in
theorem c_X5_init (l : Launch) (D : va_G) (cy : Nat → ClassId) (tt : Nat → Nat) (sz : Nat) (h0 : Nat) (p1 : Int32) (c_number' : Int32) (c_tries' : Int32) (hf : f_X5_init p1 = some (c_number', c_tries')) : Met l yX5_init wsX5_init ({ frames := 1, cells := 0, slots := 0, locals := 12 }) (zPc D cy tt sz [.ref h0, .int p1] ([(h0, .inr (7, [.int (0 : Int32), .int (0 : Int32)]))])) (zQI D (fun w1 => w1 = [(h0, .inr (7, [.int c_number', .int c_tries']))]) (va_A ([(h0, .inr (7, [.int (0 : Int32), .int (0 : Int32)]))]) sz)) 0 0 (va_A ([(h0, .inr (7, [.int (0 : Int32), .int (0 : Int32)]))]) sz) := by
  refine Met.ofW (cc := cX5_init) (maxL := 2) (ret := none) (by decide) rfl ?_
  intro p e s m args below meth c s₁ B hml hv
  obtain ⟨rfl, rfl, hP, hD0, hE⟩ := hv
  have hx := B.exec
  have hb := B.bytes
  have hr := B.returns
  have hts := atoms_spec (ws := wsX5_init) B.pre
  have hown : s.vm.findClass RX5 = some m.cls := findClass_of_methodNamed B.named
  have hlocks := B.notSynchronized
  have hin : meth.name = "<init>" := (name_of_methodNamed B.named B.method).1
  clear B
  have hD := hD0.self (sz := s.heap.size)
  generalize hAe : va_A ([(h0, .inr (7, [.int (0 : Int32), .int (0 : Int32)]))]) s.heap.size = A at hD hE ⊢
  have hA : ∀ q : Nat, s.heap.size ≤ q → A q := fun q h => by rw [← hAe]; exact Or.inr h
  clear hAe hD0
  have hS : va_S A s.heap s.heap [] := va_S.rf
  have hK := hE.1
  have hw0 := hts (.methodLink RX5 1 objectInit) (by decide +kernel)
  have hw1 := hts (.instanceMethod objectInit) (by decide +kernel)
  have hw2 := hts (.code objectInit ⟨#[0xb1]⟩ 1 none) (by decide +kernel)
  have hw3 := hts (.fieldLink RX5 7 "SealedModule$Pin" "tries" "I") (by decide +kernel)
  have hw4 := hts (.fieldLink RX5 13 "SealedModule$Pin" "number" "I") (by decide +kernel)
  have hcX5 : ∀ w ∈ u_ws RX5 TX5 2, w ∈ wsX5_init := (fun _ h => List.mem_cons_of_mem _ (List.mem_append_right _ h))
  have hl := lv_entry ([.ref h0, .int p1]) (n := 2) (Nat.le_of_ble_eq_true rfl)
  rw [lg_entry_eq]
  generalize (lg_sl ([.ref h0, .int p1]) ++ List.replicate (2 - (lg_sl ([.ref h0, .int p1])).length) Slot.unset).toArray = ls at hl ⊢
  replace hl : lv_has ls 2 [(0, .ref h0), (1, .int p1)] := hl
  unfold f_X5_init at hf
  obtain ⟨H, hHe⟩ : ∃ H, H = s.heap := ⟨_, rfl⟩
  obtain ⟨locs, hLe⟩ : ∃ L : List Loc, L = [] := ⟨_, rfl⟩
  rw [← hHe] at hP
  replace hS : va_S A s.heap H locs := by rw [hHe, hLe]; exact hS
  refine zat hHe.symm hLe.symm ?_
  clear hHe hLe
  refine lv_aload_n (pc := 0) hx hb (zdt_at zt_X5_init_0 0 rfl) rfl (lv_at hl 0 rfl) ?_
  refine W.objInit hx hb hown hw0 hw1 hw2 rfl (by rw [hml]; exact hl.1) rfl (zdt_at zt_X5_init_0 1 rfl) (Nat.le_of_ble_eq_true rfl) (Nat.le_of_ble_eq_true rfl) ?_
  refine W.eq (g2 := F0 m 4 ls []) rfl ?_
  refine lv_aload_n (pc := 4) hx hb (zdt_at zt_X5_init_0 2 rfl) rfl (lv_at hl 0 rfl) ?_
  refine lv_iconst (pc := 5) (v := (0 : Int32)) hx hb (zdt_at zt_X5_init_0 3 rfl) (by decide) ?_
  refine va_put (pc := 6) (D := D) (ci := 7) (v := .int (0 : Int32)) (ty := .int) (C := RX5) (T := TX5) (N := 2) hx hb hts hcX5 tyX5 tyX5_ok nmX5 hown hK hP hD hS 0 rfl rfl 1 (by decide) hw3 (fun _ h9 => h9) rfl (by decide +kernel) rfl rfl (Nat.le_of_ble_eq_true rfl) (zdt_at zt_X5_init_0 4 rfl) ?_
  clear hP hD hS
  intro H locs hP hD hS
  replace hP : va_P D vwCl ([(h0, .inr (7, [.int (0 : Int32), .int (0 : Int32)]))]) H := hP
  replace hD : va_D A ([(h0, .inr (7, [.int (0 : Int32), .int (0 : Int32)]))]) := hD
  refine lv_aload_n (pc := 9) hx hb (zdt_at zt_X5_init_0 5 rfl) rfl (lv_at hl 0 rfl) ?_
  refine lv_iload_n (pc := 10) hx hb (zdt_at zt_X5_init_0 6 rfl) rfl (lv_at hl 1 rfl) ?_
  refine va_put (pc := 11) (D := D) (ci := 7) (v := .int p1) (ty := .int) (C := RX5) (T := TX5) (N := 2) hx hb hts hcX5 tyX5 tyX5_ok nmX5 hown hK hP hD hS 0 rfl rfl 0 (by decide) hw4 (fun _ h9 => h9) rfl (by decide +kernel) rfl rfl (Nat.le_of_ble_eq_true rfl) (zdt_at zt_X5_init_0 7 rfl) ?_
  clear hP hD hS
  intro H locs hP hD hS
  replace hP : va_P D vwCl ([(h0, .inr (7, [.int p1, .int (0 : Int32)]))]) H := hP
  replace hD : va_D A ([(h0, .inr (7, [.int p1, .int (0 : Int32)]))]) := hD
  cases hf
  exact W.vret (pc := 14) hx hb hr (fun t ht hW => ⟨rfl, ⟨_, rfl, by rw [ht]; exact hP, hD⟩, hS.F ht⟩) hS.2.2 (zdt_at zt_X5_init_0 8 rfl)
set_option maxHeartbeats 4000000 in
set_option maxRecDepth 100000 in
theorem c_X7_init (l : Launch) (D : va_G) (cy : Nat → ClassId) (tt : Nat → Nat) (sz : Nat) (h0 : Nat) (c_filled' : Int32) (c_total' : Int32) (c_sums' : Nat → Int32) (c_schedule' : Nat → Int32) (c_inner' : Nat → Int32) (hf : f_X7_init = some (c_filled', c_total', c_sums', c_schedule', c_inner')) : Met l yX7_init wsX7_init ({ frames := 1, cells := 3, slots := 104, locals := 12 }) (zPc D cy tt sz [.ref h0] ([(h0, .inr (9, [.null, .null, .null, .int (0 : Int32), .int (0 : Int32)]))])) (zQI D (fun w1 => ∃ (h0_sums : Nat), ∃ (h0_schedule : Nat), ∃ (h0_inner : Nat), w1 = [(h0, .inr (9, [.ref h0_sums, .ref h0_schedule, .ref h0_inner, .int c_filled', .int c_total'])), (h0_sums, .inl (cy 1, 8, .inl c_sums')), (h0_schedule, .inl (cy 1, 64, .inl c_schedule')), (h0_inner, .inl (cy 0, 32, .inl c_inner'))]) (va_A ([(h0, .inr (9, [.null, .null, .null, .int (0 : Int32), .int (0 : Int32)]))]) sz)) 3 104 (va_A ([(h0, .inr (9, [.null, .null, .null, .int (0 : Int32), .int (0 : Int32)]))]) sz) := by
  refine Met.ofW (cc := cX7_init) (maxL := 1) (ret := none) (by decide) rfl ?_
  intro p e s m args below meth c s₁ B hml hv
  obtain ⟨rfl, rfl, hP, hD0, hE⟩ := hv
  have hx := B.exec
  have hb := B.bytes
  have hr := B.returns
  have hts := atoms_spec (ws := wsX7_init) B.pre
  have hown : s.vm.findClass RX7 = some m.cls := findClass_of_methodNamed B.named
  have hlocks := B.notSynchronized
  have hin : meth.name = "<init>" := (name_of_methodNamed B.named B.method).1
  clear B
  have hD := hD0.self (sz := s.heap.size)
  generalize hAe : va_A ([(h0, .inr (9, [.null, .null, .null, .int (0 : Int32), .int (0 : Int32)]))]) s.heap.size = A at hD hE ⊢
  have hA : ∀ q : Nat, s.heap.size ≤ q → A q := fun q h => by rw [← hAe]; exact Or.inr h
  clear hAe hD0
  have hS : va_S A s.heap s.heap [] := va_S.rf
  have hK := hE.1
  have hw0 := hts (.methodLink RX7 3 objectInit) (by decide +kernel)
  have hw1 := hts (.instanceMethod objectInit) (by decide +kernel)
  have hw2 := hts (.code objectInit ⟨#[0xb1]⟩ 1 none) (by decide +kernel)
  have hw3 := hts (.arrayClass .int) (by decide +kernel)
  have hw4 := hts (.fieldLink RX7 9 "SealedModule$Sha256" "sums" "[I") (by decide +kernel)
  have hw5 := hts (.fieldLink RX7 15 "SealedModule$Sha256" "schedule" "[I") (by decide +kernel)
  have hw6 := hts (.arrayClass .byte) (by decide +kernel)
  have hw7 := hts (.fieldLink RX7 18 "SealedModule$Sha256" "inner" "[B") (by decide +kernel)
  have hw8 := hts (.fieldLink RX7 22 "SealedModule$Sha256" "filled" "I") (by decide +kernel)
  have hw9 := hts (.fieldLink RX7 26 "SealedModule$Sha256" "total" "I") (by decide +kernel)
  have hcX7 : ∀ w ∈ u_ws RX7 TX7 5, w ∈ wsX7_init := (fun _ h => List.mem_cons_of_mem _ (List.mem_append_right _ h))
  have hl := lv_entry ([.ref h0]) (n := 1) (Nat.le_of_ble_eq_true rfl)
  rw [lg_entry_eq]
  generalize (lg_sl ([.ref h0]) ++ List.replicate (1 - (lg_sl ([.ref h0])).length) Slot.unset).toArray = ls at hl ⊢
  replace hl : lv_has ls 1 [(0, .ref h0)] := hl
  unfold f_X7_init at hf
  obtain ⟨H, hHe⟩ : ∃ H, H = s.heap := ⟨_, rfl⟩
  obtain ⟨locs, hLe⟩ : ∃ L : List Loc, L = [] := ⟨_, rfl⟩
  rw [← hHe] at hP
  replace hS : va_S A s.heap H locs := by rw [hHe, hLe]; exact hS
  refine zat hHe.symm hLe.symm ?_
  clear hHe hLe
  refine lv_aload_n (pc := 0) hx hb (zdt_at zt_X7_init_0 0 rfl) rfl (lv_at hl 0 rfl) ?_
  refine W.objInit hx hb hown hw0 hw1 hw2 rfl (by rw [hml]; exact hl.1) rfl (zdt_at zt_X7_init_0 1 rfl) (Nat.le_of_ble_eq_true rfl) (Nat.le_of_ble_eq_true rfl) ?_
  refine W.eq (g2 := F0 m 4 ls []) rfl ?_
  refine lv_aload_n (pc := 4) hx hb (zdt_at zt_X7_init_0 2 rfl) rfl (lv_at hl 0 rfl) ?_
  refine lv_bipush (pc := 5) (v := (8 : Int32)) hx hb (zdt_at zt_X7_init_0 3 rfl) (by decide) ?_
  refine znewI (pc := 7) (N' := 8) hx hb hw3 hK hP hD hS hA (by decide) (by decide) (by decide) (Nat.le_of_ble_eq_true rfl) (Nat.le_of_ble_eq_true rfl) (zdt_at zt_X7_init_0 4 rfl) (fun h0_sums H hP_ hD_ hS_ => ?_)
  clear hP hD hS
  have hP := hP_
  have hD := hD_
  have hS := hS_
  clear hP_ hD_ hS_
  replace hP : va_P D vwCl ([(h0, .inr (9, [.null, .null, .null, .int (0 : Int32), .int (0 : Int32)])), (h0_sums, .inl (cy 1, 8, .inl (fun _ => 0)))]) H := hP
  replace hD : va_D A ([(h0, .inr (9, [.null, .null, .null, .int (0 : Int32), .int (0 : Int32)])), (h0_sums, .inl (cy 1, 8, .inl (fun _ => 0)))]) := hD
  refine va_putF (pc := 9) (D := D) (ci := 9) (v := .ref h0_sums) (ty := .array .int) (C := RX7) (T := TX7) (N := 5) hx hb hts hcX7 tyX7 tyX7_ok nmX7 hown hK hP hD hS 0 rfl rfl 0 (by decide) hw4 (fun _ h9 => h9) rfl hin rfl (by decide +kernel) rfl rfl (Nat.le_of_ble_eq_true rfl) (zdt_at zt_X7_init_0 5 rfl) ?_
  clear hP hD hS
  intro H locs hP hD hS
  replace hP : va_P D vwCl ([(h0, .inr (9, [.ref h0_sums, .null, .null, .int (0 : Int32), .int (0 : Int32)])), (h0_sums, .inl (cy 1, 8, .inl (fun _ => 0)))]) H := hP
  replace hD : va_D A ([(h0, .inr (9, [.ref h0_sums, .null, .null, .int (0 : Int32), .int (0 : Int32)])), (h0_sums, .inl (cy 1, 8, .inl (fun _ => 0)))]) := hD
  refine lv_aload_n (pc := 12) hx hb (zdt_at zt_X7_init_0 6 rfl) rfl (lv_at hl 0 rfl) ?_
  refine lv_bipush (pc := 13) (v := (64 : Int32)) hx hb (zdt_at zt_X7_init_0 7 rfl) (by decide) ?_
  refine znewI (pc := 15) (N' := 64) hx hb hw3 hK hP hD hS hA (by decide) (by decide) (by decide) (Nat.le_of_ble_eq_true rfl) (Nat.le_of_ble_eq_true rfl) (zdt_at zt_X7_init_0 8 rfl) (fun h0_schedule H hP_ hD_ hS_ => ?_)
  clear hP hD hS
  have hP := hP_
  have hD := hD_
  have hS := hS_
  clear hP_ hD_ hS_
  replace hP : va_P D vwCl ([(h0, .inr (9, [.ref h0_sums, .null, .null, .int (0 : Int32), .int (0 : Int32)])), (h0_sums, .inl (cy 1, 8, .inl (fun _ => 0))), (h0_schedule, .inl (cy 1, 64, .inl (fun _ => 0)))]) H := hP
  replace hD : va_D A ([(h0, .inr (9, [.ref h0_sums, .null, .null, .int (0 : Int32), .int (0 : Int32)])), (h0_sums, .inl (cy 1, 8, .inl (fun _ => 0))), (h0_schedule, .inl (cy 1, 64, .inl (fun _ => 0)))]) := hD
  refine va_putF (pc := 17) (D := D) (ci := 9) (v := .ref h0_schedule) (ty := .array .int) (C := RX7) (T := TX7) (N := 5) hx hb hts hcX7 tyX7 tyX7_ok nmX7 hown hK hP hD hS 0 rfl rfl 1 (by decide) hw5 (fun _ h9 => h9) rfl hin rfl (by decide +kernel) rfl rfl (Nat.le_of_ble_eq_true rfl) (zdt_at zt_X7_init_0 9 rfl) ?_
  clear hP hD hS
  intro H locs hP hD hS
  replace hP : va_P D vwCl ([(h0, .inr (9, [.ref h0_sums, .ref h0_schedule, .null, .int (0 : Int32), .int (0 : Int32)])), (h0_sums, .inl (cy 1, 8, .inl (fun _ => 0))), (h0_schedule, .inl (cy 1, 64, .inl (fun _ => 0)))]) H := hP
  replace hD : va_D A ([(h0, .inr (9, [.ref h0_sums, .ref h0_schedule, .null, .int (0 : Int32), .int (0 : Int32)])), (h0_sums, .inl (cy 1, 8, .inl (fun _ => 0))), (h0_schedule, .inl (cy 1, 64, .inl (fun _ => 0)))]) := hD
  refine lv_aload_n (pc := 20) hx hb (zdt_at zt_X7_init_0 10 rfl) rfl (lv_at hl 0 rfl) ?_
  refine lv_bipush (pc := 21) (v := (32 : Int32)) hx hb (zdt_at zt_X7_init_0 11 rfl) (by decide) ?_
  refine znewB (pc := 23) (N' := 32) hx hb hw6 hK hP hD hS hA (by decide) (by decide) (by decide) (Nat.le_of_ble_eq_true rfl) (Nat.le_of_ble_eq_true rfl) (zdt_at zt_X7_init_0 12 rfl) (fun h0_inner H hP_ hD_ hS_ => ?_)
  clear hP hD hS
  have hP := hP_
  have hD := hD_
  have hS := hS_
  clear hP_ hD_ hS_
  replace hP : va_P D vwCl ([(h0, .inr (9, [.ref h0_sums, .ref h0_schedule, .null, .int (0 : Int32), .int (0 : Int32)])), (h0_sums, .inl (cy 1, 8, .inl (fun _ => 0))), (h0_schedule, .inl (cy 1, 64, .inl (fun _ => 0))), (h0_inner, .inl (cy 0, 32, .inl (fun _ => 0)))]) H := hP
  replace hD : va_D A ([(h0, .inr (9, [.ref h0_sums, .ref h0_schedule, .null, .int (0 : Int32), .int (0 : Int32)])), (h0_sums, .inl (cy 1, 8, .inl (fun _ => 0))), (h0_schedule, .inl (cy 1, 64, .inl (fun _ => 0))), (h0_inner, .inl (cy 0, 32, .inl (fun _ => 0)))]) := hD
  refine va_putF (pc := 25) (D := D) (ci := 9) (v := .ref h0_inner) (ty := .array .byte) (C := RX7) (T := TX7) (N := 5) hx hb hts hcX7 tyX7 tyX7_ok nmX7 hown hK hP hD hS 0 rfl rfl 2 (by decide) hw7 (fun _ h9 => h9) rfl hin rfl (by decide +kernel) rfl rfl (Nat.le_of_ble_eq_true rfl) (zdt_at zt_X7_init_0 13 rfl) ?_
  clear hP hD hS
  intro H locs hP hD hS
  replace hP : va_P D vwCl ([(h0, .inr (9, [.ref h0_sums, .ref h0_schedule, .ref h0_inner, .int (0 : Int32), .int (0 : Int32)])), (h0_sums, .inl (cy 1, 8, .inl (fun _ => 0))), (h0_schedule, .inl (cy 1, 64, .inl (fun _ => 0))), (h0_inner, .inl (cy 0, 32, .inl (fun _ => 0)))]) H := hP
  replace hD : va_D A ([(h0, .inr (9, [.ref h0_sums, .ref h0_schedule, .ref h0_inner, .int (0 : Int32), .int (0 : Int32)])), (h0_sums, .inl (cy 1, 8, .inl (fun _ => 0))), (h0_schedule, .inl (cy 1, 64, .inl (fun _ => 0))), (h0_inner, .inl (cy 0, 32, .inl (fun _ => 0)))]) := hD
  refine lv_aload_n (pc := 28) hx hb (zdt_at zt_X7_init_0 14 rfl) rfl (lv_at hl 0 rfl) ?_
  refine lv_iconst (pc := 29) (v := (0 : Int32)) hx hb (zdt_at zt_X7_init_0 15 rfl) (by decide) ?_
  refine va_put (pc := 30) (D := D) (ci := 9) (v := .int (0 : Int32)) (ty := .int) (C := RX7) (T := TX7) (N := 5) hx hb hts hcX7 tyX7 tyX7_ok nmX7 hown hK hP hD hS 0 rfl rfl 3 (by decide) hw8 (fun _ h9 => h9) rfl (by decide +kernel) rfl rfl (Nat.le_of_ble_eq_true rfl) (zdt_at zt_X7_init_0 16 rfl) ?_
  clear hP hD hS
  intro H locs hP hD hS
  replace hP : va_P D vwCl ([(h0, .inr (9, [.ref h0_sums, .ref h0_schedule, .ref h0_inner, .int (0 : Int32), .int (0 : Int32)])), (h0_sums, .inl (cy 1, 8, .inl (fun _ => 0))), (h0_schedule, .inl (cy 1, 64, .inl (fun _ => 0))), (h0_inner, .inl (cy 0, 32, .inl (fun _ => 0)))]) H := hP
  replace hD : va_D A ([(h0, .inr (9, [.ref h0_sums, .ref h0_schedule, .ref h0_inner, .int (0 : Int32), .int (0 : Int32)])), (h0_sums, .inl (cy 1, 8, .inl (fun _ => 0))), (h0_schedule, .inl (cy 1, 64, .inl (fun _ => 0))), (h0_inner, .inl (cy 0, 32, .inl (fun _ => 0)))]) := hD
  refine lv_aload_n (pc := 33) hx hb (zdt_at zt_X7_init_0 17 rfl) rfl (lv_at hl 0 rfl) ?_
  refine lv_iconst (pc := 34) (v := (0 : Int32)) hx hb (zdt_at zt_X7_init_0 18 rfl) (by decide) ?_
  refine va_put (pc := 35) (D := D) (ci := 9) (v := .int (0 : Int32)) (ty := .int) (C := RX7) (T := TX7) (N := 5) hx hb hts hcX7 tyX7 tyX7_ok nmX7 hown hK hP hD hS 0 rfl rfl 4 (by decide) hw9 (fun _ h9 => h9) rfl (by decide +kernel) rfl rfl (Nat.le_of_ble_eq_true rfl) (zdt_at zt_X7_init_0 19 rfl) ?_
  clear hP hD hS
  intro H locs hP hD hS
  replace hP : va_P D vwCl ([(h0, .inr (9, [.ref h0_sums, .ref h0_schedule, .ref h0_inner, .int (0 : Int32), .int (0 : Int32)])), (h0_sums, .inl (cy 1, 8, .inl (fun _ => 0))), (h0_schedule, .inl (cy 1, 64, .inl (fun _ => 0))), (h0_inner, .inl (cy 0, 32, .inl (fun _ => 0)))]) H := hP
  replace hD : va_D A ([(h0, .inr (9, [.ref h0_sums, .ref h0_schedule, .ref h0_inner, .int (0 : Int32), .int (0 : Int32)])), (h0_sums, .inl (cy 1, 8, .inl (fun _ => 0))), (h0_schedule, .inl (cy 1, 64, .inl (fun _ => 0))), (h0_inner, .inl (cy 0, 32, .inl (fun _ => 0)))]) := hD
  cases hf
  exact W.vret (pc := 38) hx hb hr (fun t ht hW => ⟨rfl, ⟨_, ⟨h0_sums, h0_schedule, h0_inner, rfl⟩, by rw [ht]; exact hP, hD⟩, hS.F ht⟩) hS.2.2 (zdt_at zt_X7_init_0 20 rfl)
set_option maxHeartbeats 4000000 in
set_option maxRecDepth 100000 in
theorem c_X8_init (l : Launch) (D : va_G) (cy : Nat → ClassId) (tt : Nat → Nat) (sz : Nat) (h0 : Nat) (c_kind' : Int32) (c_length' : Int32) (c_usage' : Int32) (c_role' : Int32) (c_uses' : Int32) (c_key' : Nat → Int32) (hf : f_X8_init = some (c_kind', c_length', c_usage', c_role', c_uses', c_key')) : Met l yX8_init wsX8_init ({ frames := 1, cells := 1, slots := 64, locals := 12 }) (zPc D cy tt sz [.ref h0] ([(h0, .inr (10, [.null, .int (0 : Int32), .int (0 : Int32), .int (0 : Int32), .int (0 : Int32), .int (0 : Int32)]))])) (zQI D (fun w1 => ∃ (h0_key : Nat), w1 = [(h0, .inr (10, [.ref h0_key, .int c_kind', .int c_length', .int c_usage', .int c_role', .int c_uses'])), (h0_key, .inl (cy 0, 64, .inl c_key'))]) (va_A ([(h0, .inr (10, [.null, .int (0 : Int32), .int (0 : Int32), .int (0 : Int32), .int (0 : Int32), .int (0 : Int32)]))]) sz)) 1 64 (va_A ([(h0, .inr (10, [.null, .int (0 : Int32), .int (0 : Int32), .int (0 : Int32), .int (0 : Int32), .int (0 : Int32)]))]) sz) := by
  refine Met.ofW (cc := cX8_init) (maxL := 1) (ret := none) (by decide) rfl ?_
  intro p e s m args below meth c s₁ B hml hv
  obtain ⟨rfl, rfl, hP, hD0, hE⟩ := hv
  have hx := B.exec
  have hb := B.bytes
  have hr := B.returns
  have hts := atoms_spec (ws := wsX8_init) B.pre
  have hown : s.vm.findClass RX8 = some m.cls := findClass_of_methodNamed B.named
  have hlocks := B.notSynchronized
  have hin : meth.name = "<init>" := (name_of_methodNamed B.named B.method).1
  clear B
  have hD := hD0.self (sz := s.heap.size)
  generalize hAe : va_A ([(h0, .inr (10, [.null, .int (0 : Int32), .int (0 : Int32), .int (0 : Int32), .int (0 : Int32), .int (0 : Int32)]))]) s.heap.size = A at hD hE ⊢
  have hA : ∀ q : Nat, s.heap.size ≤ q → A q := fun q h => by rw [← hAe]; exact Or.inr h
  clear hAe hD0
  have hS : va_S A s.heap s.heap [] := va_S.rf
  have hK := hE.1
  have hw0 := hts (.methodLink RX8 1 objectInit) (by decide +kernel)
  have hw1 := hts (.instanceMethod objectInit) (by decide +kernel)
  have hw2 := hts (.code objectInit ⟨#[0xb1]⟩ 1 none) (by decide +kernel)
  have hw3 := hts (.arrayClass .byte) (by decide +kernel)
  have hw4 := hts (.fieldLink RX8 9 "SealedModule$Slot" "key" "[B") (by decide +kernel)
  have hw5 := hts (.fieldLink RX8 13 "SealedModule$Slot" "kind" "I") (by decide +kernel)
  have hw6 := hts (.fieldLink RX8 17 "SealedModule$Slot" "length" "I") (by decide +kernel)
  have hw7 := hts (.fieldLink RX8 20 "SealedModule$Slot" "usage" "I") (by decide +kernel)
  have hw8 := hts (.fieldLink RX8 23 "SealedModule$Slot" "role" "I") (by decide +kernel)
  have hw9 := hts (.fieldLink RX8 26 "SealedModule$Slot" "uses" "I") (by decide +kernel)
  have hcX8 : ∀ w ∈ u_ws RX8 TX8 6, w ∈ wsX8_init := (fun _ h => List.mem_cons_of_mem _ (List.mem_append_right _ h))
  have hl := lv_entry ([.ref h0]) (n := 1) (Nat.le_of_ble_eq_true rfl)
  rw [lg_entry_eq]
  generalize (lg_sl ([.ref h0]) ++ List.replicate (1 - (lg_sl ([.ref h0])).length) Slot.unset).toArray = ls at hl ⊢
  replace hl : lv_has ls 1 [(0, .ref h0)] := hl
  unfold f_X8_init at hf
  obtain ⟨H, hHe⟩ : ∃ H, H = s.heap := ⟨_, rfl⟩
  obtain ⟨locs, hLe⟩ : ∃ L : List Loc, L = [] := ⟨_, rfl⟩
  rw [← hHe] at hP
  replace hS : va_S A s.heap H locs := by rw [hHe, hLe]; exact hS
  refine zat hHe.symm hLe.symm ?_
  clear hHe hLe
  refine lv_aload_n (pc := 0) hx hb (zdt_at zt_X8_init_0 0 rfl) rfl (lv_at hl 0 rfl) ?_
  refine W.objInit hx hb hown hw0 hw1 hw2 rfl (by rw [hml]; exact hl.1) rfl (zdt_at zt_X8_init_0 1 rfl) (Nat.le_of_ble_eq_true rfl) (Nat.le_of_ble_eq_true rfl) ?_
  refine W.eq (g2 := F0 m 4 ls []) rfl ?_
  refine lv_aload_n (pc := 4) hx hb (zdt_at zt_X8_init_0 2 rfl) rfl (lv_at hl 0 rfl) ?_
  refine lv_bipush (pc := 5) (v := (64 : Int32)) hx hb (zdt_at zt_X8_init_0 3 rfl) (by decide) ?_
  refine znewB (pc := 7) (N' := 64) hx hb hw3 hK hP hD hS hA (by decide) (by decide) (by decide) (Nat.le_of_ble_eq_true rfl) (Nat.le_of_ble_eq_true rfl) (zdt_at zt_X8_init_0 4 rfl) (fun h0_key H hP_ hD_ hS_ => ?_)
  clear hP hD hS
  have hP := hP_
  have hD := hD_
  have hS := hS_
  clear hP_ hD_ hS_
  replace hP : va_P D vwCl ([(h0, .inr (10, [.null, .int (0 : Int32), .int (0 : Int32), .int (0 : Int32), .int (0 : Int32), .int (0 : Int32)])), (h0_key, .inl (cy 0, 64, .inl (fun _ => 0)))]) H := hP
  replace hD : va_D A ([(h0, .inr (10, [.null, .int (0 : Int32), .int (0 : Int32), .int (0 : Int32), .int (0 : Int32), .int (0 : Int32)])), (h0_key, .inl (cy 0, 64, .inl (fun _ => 0)))]) := hD
  refine va_putF (pc := 9) (D := D) (ci := 10) (v := .ref h0_key) (ty := .array .byte) (C := RX8) (T := TX8) (N := 6) hx hb hts hcX8 tyX8 tyX8_ok nmX8 hown hK hP hD hS 0 rfl rfl 0 (by decide) hw4 (fun _ h9 => h9) rfl hin rfl (by decide +kernel) rfl rfl (Nat.le_of_ble_eq_true rfl) (zdt_at zt_X8_init_0 5 rfl) ?_
  clear hP hD hS
  intro H locs hP hD hS
  replace hP : va_P D vwCl ([(h0, .inr (10, [.ref h0_key, .int (0 : Int32), .int (0 : Int32), .int (0 : Int32), .int (0 : Int32), .int (0 : Int32)])), (h0_key, .inl (cy 0, 64, .inl (fun _ => 0)))]) H := hP
  replace hD : va_D A ([(h0, .inr (10, [.ref h0_key, .int (0 : Int32), .int (0 : Int32), .int (0 : Int32), .int (0 : Int32), .int (0 : Int32)])), (h0_key, .inl (cy 0, 64, .inl (fun _ => 0)))]) := hD
  refine lv_aload_n (pc := 12) hx hb (zdt_at zt_X8_init_0 6 rfl) rfl (lv_at hl 0 rfl) ?_
  refine lv_iconst (pc := 13) (v := (0 : Int32)) hx hb (zdt_at zt_X8_init_0 7 rfl) (by decide) ?_
  refine va_put (pc := 14) (D := D) (ci := 10) (v := .int (0 : Int32)) (ty := .int) (C := RX8) (T := TX8) (N := 6) hx hb hts hcX8 tyX8 tyX8_ok nmX8 hown hK hP hD hS 0 rfl rfl 1 (by decide) hw5 (fun _ h9 => h9) rfl (by decide +kernel) rfl rfl (Nat.le_of_ble_eq_true rfl) (zdt_at zt_X8_init_0 8 rfl) ?_
  clear hP hD hS
  intro H locs hP hD hS
  replace hP : va_P D vwCl ([(h0, .inr (10, [.ref h0_key, .int (0 : Int32), .int (0 : Int32), .int (0 : Int32), .int (0 : Int32), .int (0 : Int32)])), (h0_key, .inl (cy 0, 64, .inl (fun _ => 0)))]) H := hP
  replace hD : va_D A ([(h0, .inr (10, [.ref h0_key, .int (0 : Int32), .int (0 : Int32), .int (0 : Int32), .int (0 : Int32), .int (0 : Int32)])), (h0_key, .inl (cy 0, 64, .inl (fun _ => 0)))]) := hD
  refine lv_aload_n (pc := 17) hx hb (zdt_at zt_X8_init_0 9 rfl) rfl (lv_at hl 0 rfl) ?_
  refine lv_iconst (pc := 18) (v := (0 : Int32)) hx hb (zdt_at zt_X8_init_0 10 rfl) (by decide) ?_
  refine va_put (pc := 19) (D := D) (ci := 10) (v := .int (0 : Int32)) (ty := .int) (C := RX8) (T := TX8) (N := 6) hx hb hts hcX8 tyX8 tyX8_ok nmX8 hown hK hP hD hS 0 rfl rfl 2 (by decide) hw6 (fun _ h9 => h9) rfl (by decide +kernel) rfl rfl (Nat.le_of_ble_eq_true rfl) (zdt_at zt_X8_init_0 11 rfl) ?_
  clear hP hD hS
  intro H locs hP hD hS
  replace hP : va_P D vwCl ([(h0, .inr (10, [.ref h0_key, .int (0 : Int32), .int (0 : Int32), .int (0 : Int32), .int (0 : Int32), .int (0 : Int32)])), (h0_key, .inl (cy 0, 64, .inl (fun _ => 0)))]) H := hP
  replace hD : va_D A ([(h0, .inr (10, [.ref h0_key, .int (0 : Int32), .int (0 : Int32), .int (0 : Int32), .int (0 : Int32), .int (0 : Int32)])), (h0_key, .inl (cy 0, 64, .inl (fun _ => 0)))]) := hD
  refine lv_aload_n (pc := 22) hx hb (zdt_at zt_X8_init_0 12 rfl) rfl (lv_at hl 0 rfl) ?_
  refine lv_iconst (pc := 23) (v := (0 : Int32)) hx hb (zdt_at zt_X8_init_0 13 rfl) (by decide) ?_
  refine va_put (pc := 24) (D := D) (ci := 10) (v := .int (0 : Int32)) (ty := .int) (C := RX8) (T := TX8) (N := 6) hx hb hts hcX8 tyX8 tyX8_ok nmX8 hown hK hP hD hS 0 rfl rfl 3 (by decide) hw7 (fun _ h9 => h9) rfl (by decide +kernel) rfl rfl (Nat.le_of_ble_eq_true rfl) (zdt_at zt_X8_init_0 14 rfl) ?_
  clear hP hD hS
  intro H locs hP hD hS
  replace hP : va_P D vwCl ([(h0, .inr (10, [.ref h0_key, .int (0 : Int32), .int (0 : Int32), .int (0 : Int32), .int (0 : Int32), .int (0 : Int32)])), (h0_key, .inl (cy 0, 64, .inl (fun _ => 0)))]) H := hP
  replace hD : va_D A ([(h0, .inr (10, [.ref h0_key, .int (0 : Int32), .int (0 : Int32), .int (0 : Int32), .int (0 : Int32), .int (0 : Int32)])), (h0_key, .inl (cy 0, 64, .inl (fun _ => 0)))]) := hD
  refine lv_aload_n (pc := 27) hx hb (zdt_at zt_X8_init_0 15 rfl) rfl (lv_at hl 0 rfl) ?_
  refine lv_iconst (pc := 28) (v := (0 : Int32)) hx hb (zdt_at zt_X8_init_0 16 rfl) (by decide) ?_
  refine va_put (pc := 29) (D := D) (ci := 10) (v := .int (0 : Int32)) (ty := .int) (C := RX8) (T := TX8) (N := 6) hx hb hts hcX8 tyX8 tyX8_ok nmX8 hown hK hP hD hS 0 rfl rfl 4 (by decide) hw8 (fun _ h9 => h9) rfl (by decide +kernel) rfl rfl (Nat.le_of_ble_eq_true rfl) (zdt_at zt_X8_init_0 17 rfl) ?_
  clear hP hD hS
  intro H locs hP hD hS
  replace hP : va_P D vwCl ([(h0, .inr (10, [.ref h0_key, .int (0 : Int32), .int (0 : Int32), .int (0 : Int32), .int (0 : Int32), .int (0 : Int32)])), (h0_key, .inl (cy 0, 64, .inl (fun _ => 0)))]) H := hP
  replace hD : va_D A ([(h0, .inr (10, [.ref h0_key, .int (0 : Int32), .int (0 : Int32), .int (0 : Int32), .int (0 : Int32), .int (0 : Int32)])), (h0_key, .inl (cy 0, 64, .inl (fun _ => 0)))]) := hD
  refine lv_aload_n (pc := 32) hx hb (zdt_at zt_X8_init_0 18 rfl) rfl (lv_at hl 0 rfl) ?_
  refine lv_iconst (pc := 33) (v := (0 : Int32)) hx hb (zdt_at zt_X8_init_0 19 rfl) (by decide) ?_
  refine va_put (pc := 34) (D := D) (ci := 10) (v := .int (0 : Int32)) (ty := .int) (C := RX8) (T := TX8) (N := 6) hx hb hts hcX8 tyX8 tyX8_ok nmX8 hown hK hP hD hS 0 rfl rfl 5 (by decide) hw9 (fun _ h9 => h9) rfl (by decide +kernel) rfl rfl (Nat.le_of_ble_eq_true rfl) (zdt_at zt_X8_init_0 20 rfl) ?_
  clear hP hD hS
  intro H locs hP hD hS
  replace hP : va_P D vwCl ([(h0, .inr (10, [.ref h0_key, .int (0 : Int32), .int (0 : Int32), .int (0 : Int32), .int (0 : Int32), .int (0 : Int32)])), (h0_key, .inl (cy 0, 64, .inl (fun _ => 0)))]) H := hP
  replace hD : va_D A ([(h0, .inr (10, [.ref h0_key, .int (0 : Int32), .int (0 : Int32), .int (0 : Int32), .int (0 : Int32), .int (0 : Int32)])), (h0_key, .inl (cy 0, 64, .inl (fun _ => 0)))]) := hD
  cases hf
  exact W.vret (pc := 37) hx hb hr (fun t ht hW => ⟨rfl, ⟨_, ⟨h0_key, rfl⟩, by rw [ht]; exact hP, hD⟩, hS.F ht⟩) hS.2.2 (zdt_at zt_X8_init_0 21 rfl)
set_option maxHeartbeats 4000000 in
set_option maxRecDepth 100000 in
theorem c_X4_init (l : Launch) (D : va_G) (cy : Nat → ClassId) (tt : Nat → Nat) (sz : Nat) (h0 : Nat) (h0_aes : Nat) (c_block' : Nat → Int32) (c_pad' : Nat → Int32) (hf : f_X4_init = some (c_block', c_pad')) : Met l yX4_init wsX4_init ({ frames := 1, cells := 2, slots := 32, locals := 12 }) (zPc D cy tt sz [.ref h0, .ref h0_aes] ([(h0, .inr (6, [.null, .null, .null]))])) (zQI D (fun w1 => ∃ (h0_block : Nat), ∃ (h0_pad : Nat), w1 = [(h0, .inr (6, [.ref h0_aes, .ref h0_block, .ref h0_pad])), (h0_block, .inl (cy 0, 16, .inl c_block')), (h0_pad, .inl (cy 0, 16, .inl c_pad'))]) (va_A ([(h0, .inr (6, [.null, .null, .null]))]) sz)) 2 32 (va_A ([(h0, .inr (6, [.null, .null, .null]))]) sz) := by
  refine Met.ofW (cc := cX4_init) (maxL := 2) (ret := none) (by decide) rfl ?_
  intro p e s m args below meth c s₁ B hml hv
  obtain ⟨rfl, rfl, hP, hD0, hE⟩ := hv
  have hx := B.exec
  have hb := B.bytes
  have hr := B.returns
  have hts := atoms_spec (ws := wsX4_init) B.pre
  have hown : s.vm.findClass RX4 = some m.cls := findClass_of_methodNamed B.named
  have hlocks := B.notSynchronized
  have hin : meth.name = "<init>" := (name_of_methodNamed B.named B.method).1
  clear B
  have hD := hD0.self (sz := s.heap.size)
  generalize hAe : va_A ([(h0, .inr (6, [.null, .null, .null]))]) s.heap.size = A at hD hE ⊢
  have hA : ∀ q : Nat, s.heap.size ≤ q → A q := fun q h => by rw [← hAe]; exact Or.inr h
  clear hAe hD0
  have hS : va_S A s.heap s.heap [] := va_S.rf
  have hK := hE.1
  have hw0 := hts (.methodLink RX4 3 objectInit) (by decide +kernel)
  have hw1 := hts (.instanceMethod objectInit) (by decide +kernel)
  have hw2 := hts (.code objectInit ⟨#[0xb1]⟩ 1 none) (by decide +kernel)
  have hw3 := hts (.arrayClass .byte) (by decide +kernel)
  have hw4 := hts (.fieldLink RX4 9 "SealedModule$Modes" "block" "[B") (by decide +kernel)
  have hw5 := hts (.fieldLink RX4 15 "SealedModule$Modes" "pad" "[B") (by decide +kernel)
  have hw6 := hts (.fieldLink RX4 18 "SealedModule$Modes" "aes" "LSealedModule$Aes;") (by decide +kernel)
  have hcX4 : ∀ w ∈ u_ws RX4 TX4 3, w ∈ wsX4_init := (fun _ h => List.mem_cons_of_mem _ (List.mem_append_right _ h))
  have hl := lv_entry ([.ref h0, .ref h0_aes]) (n := 2) (Nat.le_of_ble_eq_true rfl)
  rw [lg_entry_eq]
  generalize (lg_sl ([.ref h0, .ref h0_aes]) ++ List.replicate (2 - (lg_sl ([.ref h0, .ref h0_aes])).length) Slot.unset).toArray = ls at hl ⊢
  replace hl : lv_has ls 2 [(0, .ref h0), (1, .ref h0_aes)] := hl
  unfold f_X4_init at hf
  obtain ⟨H, hHe⟩ : ∃ H, H = s.heap := ⟨_, rfl⟩
  obtain ⟨locs, hLe⟩ : ∃ L : List Loc, L = [] := ⟨_, rfl⟩
  rw [← hHe] at hP
  replace hS : va_S A s.heap H locs := by rw [hHe, hLe]; exact hS
  refine zat hHe.symm hLe.symm ?_
  clear hHe hLe
  refine lv_aload_n (pc := 0) hx hb (zdt_at zt_X4_init_0 0 rfl) rfl (lv_at hl 0 rfl) ?_
  refine W.objInit hx hb hown hw0 hw1 hw2 rfl (by rw [hml]; exact hl.1) rfl (zdt_at zt_X4_init_0 1 rfl) (Nat.le_of_ble_eq_true rfl) (Nat.le_of_ble_eq_true rfl) ?_
  refine W.eq (g2 := F0 m 4 ls []) rfl ?_
  refine lv_aload_n (pc := 4) hx hb (zdt_at zt_X4_init_0 2 rfl) rfl (lv_at hl 0 rfl) ?_
  refine lv_bipush (pc := 5) (v := (16 : Int32)) hx hb (zdt_at zt_X4_init_0 3 rfl) (by decide) ?_
  refine znewB (pc := 7) (N' := 16) hx hb hw3 hK hP hD hS hA (by decide) (by decide) (by decide) (Nat.le_of_ble_eq_true rfl) (Nat.le_of_ble_eq_true rfl) (zdt_at zt_X4_init_0 4 rfl) (fun h0_block H hP_ hD_ hS_ => ?_)
  clear hP hD hS
  have hP := hP_
  have hD := hD_
  have hS := hS_
  clear hP_ hD_ hS_
  replace hP : va_P D vwCl ([(h0, .inr (6, [.null, .null, .null])), (h0_block, .inl (cy 0, 16, .inl (fun _ => 0)))]) H := hP
  replace hD : va_D A ([(h0, .inr (6, [.null, .null, .null])), (h0_block, .inl (cy 0, 16, .inl (fun _ => 0)))]) := hD
  refine va_putF (pc := 9) (D := D) (ci := 6) (v := .ref h0_block) (ty := .array .byte) (C := RX4) (T := TX4) (N := 3) hx hb hts hcX4 tyX4 tyX4_ok nmX4 hown hK hP hD hS 0 rfl rfl 1 (by decide) hw4 (fun _ h9 => h9) rfl hin rfl (by decide +kernel) rfl rfl (Nat.le_of_ble_eq_true rfl) (zdt_at zt_X4_init_0 5 rfl) ?_
  clear hP hD hS
  intro H locs hP hD hS
  replace hP : va_P D vwCl ([(h0, .inr (6, [.null, .ref h0_block, .null])), (h0_block, .inl (cy 0, 16, .inl (fun _ => 0)))]) H := hP
  replace hD : va_D A ([(h0, .inr (6, [.null, .ref h0_block, .null])), (h0_block, .inl (cy 0, 16, .inl (fun _ => 0)))]) := hD
  refine lv_aload_n (pc := 12) hx hb (zdt_at zt_X4_init_0 6 rfl) rfl (lv_at hl 0 rfl) ?_
  refine lv_bipush (pc := 13) (v := (16 : Int32)) hx hb (zdt_at zt_X4_init_0 7 rfl) (by decide) ?_
  refine znewB (pc := 15) (N' := 16) hx hb hw3 hK hP hD hS hA (by decide) (by decide) (by decide) (Nat.le_of_ble_eq_true rfl) (Nat.le_of_ble_eq_true rfl) (zdt_at zt_X4_init_0 8 rfl) (fun h0_pad H hP_ hD_ hS_ => ?_)
  clear hP hD hS
  have hP := hP_
  have hD := hD_
  have hS := hS_
  clear hP_ hD_ hS_
  replace hP : va_P D vwCl ([(h0, .inr (6, [.null, .ref h0_block, .null])), (h0_block, .inl (cy 0, 16, .inl (fun _ => 0))), (h0_pad, .inl (cy 0, 16, .inl (fun _ => 0)))]) H := hP
  replace hD : va_D A ([(h0, .inr (6, [.null, .ref h0_block, .null])), (h0_block, .inl (cy 0, 16, .inl (fun _ => 0))), (h0_pad, .inl (cy 0, 16, .inl (fun _ => 0)))]) := hD
  refine va_putF (pc := 17) (D := D) (ci := 6) (v := .ref h0_pad) (ty := .array .byte) (C := RX4) (T := TX4) (N := 3) hx hb hts hcX4 tyX4 tyX4_ok nmX4 hown hK hP hD hS 0 rfl rfl 2 (by decide) hw5 (fun _ h9 => h9) rfl hin rfl (by decide +kernel) rfl rfl (Nat.le_of_ble_eq_true rfl) (zdt_at zt_X4_init_0 9 rfl) ?_
  clear hP hD hS
  intro H locs hP hD hS
  replace hP : va_P D vwCl ([(h0, .inr (6, [.null, .ref h0_block, .ref h0_pad])), (h0_block, .inl (cy 0, 16, .inl (fun _ => 0))), (h0_pad, .inl (cy 0, 16, .inl (fun _ => 0)))]) H := hP
  replace hD : va_D A ([(h0, .inr (6, [.null, .ref h0_block, .ref h0_pad])), (h0_block, .inl (cy 0, 16, .inl (fun _ => 0))), (h0_pad, .inl (cy 0, 16, .inl (fun _ => 0)))]) := hD
  refine lv_aload_n (pc := 20) hx hb (zdt_at zt_X4_init_0 10 rfl) rfl (lv_at hl 0 rfl) ?_
  refine lv_aload_n (pc := 21) hx hb (zdt_at zt_X4_init_0 11 rfl) rfl (lv_at hl 1 rfl) ?_
  refine va_putF (pc := 22) (D := D) (ci := 6) (v := .ref h0_aes) (ty := .object "SealedModule$Aes") (C := RX4) (T := TX4) (N := 3) hx hb hts hcX4 tyX4 tyX4_ok nmX4 hown hK hP hD hS 0 rfl rfl 0 (by decide) hw6 (fun _ h9 => h9) rfl hin rfl (by decide +kernel) rfl rfl (Nat.le_of_ble_eq_true rfl) (zdt_at zt_X4_init_0 12 rfl) ?_
  clear hP hD hS
  intro H locs hP hD hS
  replace hP : va_P D vwCl ([(h0, .inr (6, [.ref h0_aes, .ref h0_block, .ref h0_pad])), (h0_block, .inl (cy 0, 16, .inl (fun _ => 0))), (h0_pad, .inl (cy 0, 16, .inl (fun _ => 0)))]) H := hP
  replace hD : va_D A ([(h0, .inr (6, [.ref h0_aes, .ref h0_block, .ref h0_pad])), (h0_block, .inl (cy 0, 16, .inl (fun _ => 0))), (h0_pad, .inl (cy 0, 16, .inl (fun _ => 0)))]) := hD
  cases hf
  exact W.vret (pc := 25) hx hb hr (fun t ht hW => ⟨rfl, ⟨_, ⟨h0_block, h0_pad, rfl⟩, by rw [ht]; exact hP, hD⟩, hS.F ht⟩) hS.2.2 (zdt_at zt_X4_init_0 13 rfl)
set_option maxHeartbeats 4000000 in
set_option maxRecDepth 100000 in
theorem c_X2_init (l : Launch) (D : va_G) (cy : Nat → ClassId) (tt : Nat → Nat) (sz : Nat) (h0 : Nat) (h0_aes : Nat) (h0_modes : Nat) (c_keyHigh' : Int64) (c_keyLow' : Int64) (c_sumHigh' : Int64) (c_sumLow' : Int64) (c_tag' : Nat → Int32) (hf : f_X2_init = some (c_keyHigh', c_keyLow', c_sumHigh', c_sumLow', c_tag')) : Met l yX2_init wsX2_init ({ frames := 1, cells := 1, slots := 16, locals := 12 }) (zPc D cy tt sz [.ref h0, .ref h0_aes, .ref h0_modes] ([(h0, .inr (4, [.null, .null, .null, .long (0 : Int64), .long (0 : Int64), .long (0 : Int64), .long (0 : Int64)]))])) (zQI D (fun w1 => ∃ (h0_tag : Nat), w1 = [(h0, .inr (4, [.ref h0_aes, .ref h0_modes, .ref h0_tag, .long c_keyHigh', .long c_keyLow', .long c_sumHigh', .long c_sumLow'])), (h0_tag, .inl (cy 0, 16, .inl c_tag'))]) (va_A ([(h0, .inr (4, [.null, .null, .null, .long (0 : Int64), .long (0 : Int64), .long (0 : Int64), .long (0 : Int64)]))]) sz)) 1 16 (va_A ([(h0, .inr (4, [.null, .null, .null, .long (0 : Int64), .long (0 : Int64), .long (0 : Int64), .long (0 : Int64)]))]) sz) := by
  refine Met.ofW (cc := cX2_init) (maxL := 3) (ret := none) (by decide) rfl ?_
  intro p e s m args below meth c s₁ B hml hv
  obtain ⟨rfl, rfl, hP, hD0, hE⟩ := hv
  have hx := B.exec
  have hb := B.bytes
  have hr := B.returns
  have hts := atoms_spec (ws := wsX2_init) B.pre
  have hown : s.vm.findClass RX2 = some m.cls := findClass_of_methodNamed B.named
  have hlocks := B.notSynchronized
  have hin : meth.name = "<init>" := (name_of_methodNamed B.named B.method).1
  clear B
  have hD := hD0.self (sz := s.heap.size)
  generalize hAe : va_A ([(h0, .inr (4, [.null, .null, .null, .long (0 : Int64), .long (0 : Int64), .long (0 : Int64), .long (0 : Int64)]))]) s.heap.size = A at hD hE ⊢
  have hA : ∀ q : Nat, s.heap.size ≤ q → A q := fun q h => by rw [← hAe]; exact Or.inr h
  clear hAe hD0
  have hS : va_S A s.heap s.heap [] := va_S.rf
  have hK := hE.1
  have hw0 := hts (.methodLink RX2 3 objectInit) (by decide +kernel)
  have hw1 := hts (.instanceMethod objectInit) (by decide +kernel)
  have hw2 := hts (.code objectInit ⟨#[0xb1]⟩ 1 none) (by decide +kernel)
  have hw3 := hts (.arrayClass .byte) (by decide +kernel)
  have hw4 := hts (.fieldLink RX2 9 "SealedModule$Gcm" "tag" "[B") (by decide +kernel)
  have hw5 := hts (.fieldLink RX2 15 "SealedModule$Gcm" "keyHigh" "J") (by decide +kernel)
  have hw6 := hts (.fieldLink RX2 19 "SealedModule$Gcm" "keyLow" "J") (by decide +kernel)
  have hw7 := hts (.fieldLink RX2 22 "SealedModule$Gcm" "sumHigh" "J") (by decide +kernel)
  have hw8 := hts (.fieldLink RX2 25 "SealedModule$Gcm" "sumLow" "J") (by decide +kernel)
  have hw9 := hts (.fieldLink RX2 28 "SealedModule$Gcm" "aes" "LSealedModule$Aes;") (by decide +kernel)
  have hw10 := hts (.fieldLink RX2 32 "SealedModule$Gcm" "modes" "LSealedModule$Modes;") (by decide +kernel)
  have hcX2 : ∀ w ∈ u_ws RX2 TX2 7, w ∈ wsX2_init := (fun _ h => List.mem_cons_of_mem _ (List.mem_append_right _ h))
  have hl := lv_entry ([.ref h0, .ref h0_aes, .ref h0_modes]) (n := 3) (Nat.le_of_ble_eq_true rfl)
  rw [lg_entry_eq]
  generalize (lg_sl ([.ref h0, .ref h0_aes, .ref h0_modes]) ++ List.replicate (3 - (lg_sl ([.ref h0, .ref h0_aes, .ref h0_modes])).length) Slot.unset).toArray = ls at hl ⊢
  replace hl : lv_has ls 3 [(0, .ref h0), (1, .ref h0_aes), (2, .ref h0_modes)] := hl
  unfold f_X2_init at hf
  obtain ⟨H, hHe⟩ : ∃ H, H = s.heap := ⟨_, rfl⟩
  obtain ⟨locs, hLe⟩ : ∃ L : List Loc, L = [] := ⟨_, rfl⟩
  rw [← hHe] at hP
  replace hS : va_S A s.heap H locs := by rw [hHe, hLe]; exact hS
  refine zat hHe.symm hLe.symm ?_
  clear hHe hLe
  refine lv_aload_n (pc := 0) hx hb (zdt_at zt_X2_init_0 0 rfl) rfl (lv_at hl 0 rfl) ?_
  refine W.objInit hx hb hown hw0 hw1 hw2 rfl (by rw [hml]; exact hl.1) rfl (zdt_at zt_X2_init_0 1 rfl) (Nat.le_of_ble_eq_true rfl) (Nat.le_of_ble_eq_true rfl) ?_
  refine W.eq (g2 := F0 m 4 ls []) rfl ?_
  refine lv_aload_n (pc := 4) hx hb (zdt_at zt_X2_init_0 2 rfl) rfl (lv_at hl 0 rfl) ?_
  refine lv_bipush (pc := 5) (v := (16 : Int32)) hx hb (zdt_at zt_X2_init_0 3 rfl) (by decide) ?_
  refine znewB (pc := 7) (N' := 16) hx hb hw3 hK hP hD hS hA (by decide) (by decide) (by decide) (Nat.le_of_ble_eq_true rfl) (Nat.le_of_ble_eq_true rfl) (zdt_at zt_X2_init_0 4 rfl) (fun h0_tag H hP_ hD_ hS_ => ?_)
  clear hP hD hS
  have hP := hP_
  have hD := hD_
  have hS := hS_
  clear hP_ hD_ hS_
  replace hP : va_P D vwCl ([(h0, .inr (4, [.null, .null, .null, .long (0 : Int64), .long (0 : Int64), .long (0 : Int64), .long (0 : Int64)])), (h0_tag, .inl (cy 0, 16, .inl (fun _ => 0)))]) H := hP
  replace hD : va_D A ([(h0, .inr (4, [.null, .null, .null, .long (0 : Int64), .long (0 : Int64), .long (0 : Int64), .long (0 : Int64)])), (h0_tag, .inl (cy 0, 16, .inl (fun _ => 0)))]) := hD
  refine va_putF (pc := 9) (D := D) (ci := 4) (v := .ref h0_tag) (ty := .array .byte) (C := RX2) (T := TX2) (N := 7) hx hb hts hcX2 tyX2 tyX2_ok nmX2 hown hK hP hD hS 0 rfl rfl 2 (by decide) hw4 (fun _ h9 => h9) rfl hin rfl (by decide +kernel) rfl rfl (Nat.le_of_ble_eq_true rfl) (zdt_at zt_X2_init_0 5 rfl) ?_
  clear hP hD hS
  intro H locs hP hD hS
  replace hP : va_P D vwCl ([(h0, .inr (4, [.null, .null, .ref h0_tag, .long (0 : Int64), .long (0 : Int64), .long (0 : Int64), .long (0 : Int64)])), (h0_tag, .inl (cy 0, 16, .inl (fun _ => 0)))]) H := hP
  replace hD : va_D A ([(h0, .inr (4, [.null, .null, .ref h0_tag, .long (0 : Int64), .long (0 : Int64), .long (0 : Int64), .long (0 : Int64)])), (h0_tag, .inl (cy 0, 16, .inl (fun _ => 0)))]) := hD
  refine lv_aload_n (pc := 12) hx hb (zdt_at zt_X2_init_0 6 rfl) rfl (lv_at hl 0 rfl) ?_
  refine lv_lconst (pc := 13) (v := (0 : Int64)) hx hb (zdt_at zt_X2_init_0 7 rfl) (by decide) ?_
  refine va_put (pc := 14) (D := D) (ci := 4) (v := .long (0 : Int64)) (ty := .long) (C := RX2) (T := TX2) (N := 7) hx hb hts hcX2 tyX2 tyX2_ok nmX2 hown hK hP hD hS 0 rfl rfl 3 (by decide) hw5 (fun _ h9 => h9) rfl (by decide +kernel) rfl rfl (Nat.le_of_ble_eq_true rfl) (zdt_at zt_X2_init_0 8 rfl) ?_
  clear hP hD hS
  intro H locs hP hD hS
  replace hP : va_P D vwCl ([(h0, .inr (4, [.null, .null, .ref h0_tag, .long (0 : Int64), .long (0 : Int64), .long (0 : Int64), .long (0 : Int64)])), (h0_tag, .inl (cy 0, 16, .inl (fun _ => 0)))]) H := hP
  replace hD : va_D A ([(h0, .inr (4, [.null, .null, .ref h0_tag, .long (0 : Int64), .long (0 : Int64), .long (0 : Int64), .long (0 : Int64)])), (h0_tag, .inl (cy 0, 16, .inl (fun _ => 0)))]) := hD
  refine lv_aload_n (pc := 17) hx hb (zdt_at zt_X2_init_0 9 rfl) rfl (lv_at hl 0 rfl) ?_
  refine lv_lconst (pc := 18) (v := (0 : Int64)) hx hb (zdt_at zt_X2_init_0 10 rfl) (by decide) ?_
  refine va_put (pc := 19) (D := D) (ci := 4) (v := .long (0 : Int64)) (ty := .long) (C := RX2) (T := TX2) (N := 7) hx hb hts hcX2 tyX2 tyX2_ok nmX2 hown hK hP hD hS 0 rfl rfl 4 (by decide) hw6 (fun _ h9 => h9) rfl (by decide +kernel) rfl rfl (Nat.le_of_ble_eq_true rfl) (zdt_at zt_X2_init_0 11 rfl) ?_
  clear hP hD hS
  intro H locs hP hD hS
  replace hP : va_P D vwCl ([(h0, .inr (4, [.null, .null, .ref h0_tag, .long (0 : Int64), .long (0 : Int64), .long (0 : Int64), .long (0 : Int64)])), (h0_tag, .inl (cy 0, 16, .inl (fun _ => 0)))]) H := hP
  replace hD : va_D A ([(h0, .inr (4, [.null, .null, .ref h0_tag, .long (0 : Int64), .long (0 : Int64), .long (0 : Int64), .long (0 : Int64)])), (h0_tag, .inl (cy 0, 16, .inl (fun _ => 0)))]) := hD
  refine lv_aload_n (pc := 22) hx hb (zdt_at zt_X2_init_0 12 rfl) rfl (lv_at hl 0 rfl) ?_
  refine lv_lconst (pc := 23) (v := (0 : Int64)) hx hb (zdt_at zt_X2_init_0 13 rfl) (by decide) ?_
  refine va_put (pc := 24) (D := D) (ci := 4) (v := .long (0 : Int64)) (ty := .long) (C := RX2) (T := TX2) (N := 7) hx hb hts hcX2 tyX2 tyX2_ok nmX2 hown hK hP hD hS 0 rfl rfl 5 (by decide) hw7 (fun _ h9 => h9) rfl (by decide +kernel) rfl rfl (Nat.le_of_ble_eq_true rfl) (zdt_at zt_X2_init_0 14 rfl) ?_
  clear hP hD hS
  intro H locs hP hD hS
  replace hP : va_P D vwCl ([(h0, .inr (4, [.null, .null, .ref h0_tag, .long (0 : Int64), .long (0 : Int64), .long (0 : Int64), .long (0 : Int64)])), (h0_tag, .inl (cy 0, 16, .inl (fun _ => 0)))]) H := hP
  replace hD : va_D A ([(h0, .inr (4, [.null, .null, .ref h0_tag, .long (0 : Int64), .long (0 : Int64), .long (0 : Int64), .long (0 : Int64)])), (h0_tag, .inl (cy 0, 16, .inl (fun _ => 0)))]) := hD
  refine lv_aload_n (pc := 27) hx hb (zdt_at zt_X2_init_0 15 rfl) rfl (lv_at hl 0 rfl) ?_
  refine lv_lconst (pc := 28) (v := (0 : Int64)) hx hb (zdt_at zt_X2_init_0 16 rfl) (by decide) ?_
  refine va_put (pc := 29) (D := D) (ci := 4) (v := .long (0 : Int64)) (ty := .long) (C := RX2) (T := TX2) (N := 7) hx hb hts hcX2 tyX2 tyX2_ok nmX2 hown hK hP hD hS 0 rfl rfl 6 (by decide) hw8 (fun _ h9 => h9) rfl (by decide +kernel) rfl rfl (Nat.le_of_ble_eq_true rfl) (zdt_at zt_X2_init_0 17 rfl) ?_
  clear hP hD hS
  intro H locs hP hD hS
  replace hP : va_P D vwCl ([(h0, .inr (4, [.null, .null, .ref h0_tag, .long (0 : Int64), .long (0 : Int64), .long (0 : Int64), .long (0 : Int64)])), (h0_tag, .inl (cy 0, 16, .inl (fun _ => 0)))]) H := hP
  replace hD : va_D A ([(h0, .inr (4, [.null, .null, .ref h0_tag, .long (0 : Int64), .long (0 : Int64), .long (0 : Int64), .long (0 : Int64)])), (h0_tag, .inl (cy 0, 16, .inl (fun _ => 0)))]) := hD
  refine lv_aload_n (pc := 32) hx hb (zdt_at zt_X2_init_0 18 rfl) rfl (lv_at hl 0 rfl) ?_
  refine lv_aload_n (pc := 33) hx hb (zdt_at zt_X2_init_0 19 rfl) rfl (lv_at hl 1 rfl) ?_
  refine va_putF (pc := 34) (D := D) (ci := 4) (v := .ref h0_aes) (ty := .object "SealedModule$Aes") (C := RX2) (T := TX2) (N := 7) hx hb hts hcX2 tyX2 tyX2_ok nmX2 hown hK hP hD hS 0 rfl rfl 0 (by decide) hw9 (fun _ h9 => h9) rfl hin rfl (by decide +kernel) rfl rfl (Nat.le_of_ble_eq_true rfl) (zdt_at zt_X2_init_0 20 rfl) ?_
  clear hP hD hS
  intro H locs hP hD hS
  replace hP : va_P D vwCl ([(h0, .inr (4, [.ref h0_aes, .null, .ref h0_tag, .long (0 : Int64), .long (0 : Int64), .long (0 : Int64), .long (0 : Int64)])), (h0_tag, .inl (cy 0, 16, .inl (fun _ => 0)))]) H := hP
  replace hD : va_D A ([(h0, .inr (4, [.ref h0_aes, .null, .ref h0_tag, .long (0 : Int64), .long (0 : Int64), .long (0 : Int64), .long (0 : Int64)])), (h0_tag, .inl (cy 0, 16, .inl (fun _ => 0)))]) := hD
  refine lv_aload_n (pc := 37) hx hb (zdt_at zt_X2_init_0 21 rfl) rfl (lv_at hl 0 rfl) ?_
  refine lv_aload_n (pc := 38) hx hb (zdt_at zt_X2_init_0 22 rfl) rfl (lv_at hl 2 rfl) ?_
  refine va_putF (pc := 39) (D := D) (ci := 4) (v := .ref h0_modes) (ty := .object "SealedModule$Modes") (C := RX2) (T := TX2) (N := 7) hx hb hts hcX2 tyX2 tyX2_ok nmX2 hown hK hP hD hS 0 rfl rfl 1 (by decide) hw10 (fun _ h9 => h9) rfl hin rfl (by decide +kernel) rfl rfl (Nat.le_of_ble_eq_true rfl) (zdt_at zt_X2_init_0 23 rfl) ?_
  clear hP hD hS
  intro H locs hP hD hS
  replace hP : va_P D vwCl ([(h0, .inr (4, [.ref h0_aes, .ref h0_modes, .ref h0_tag, .long (0 : Int64), .long (0 : Int64), .long (0 : Int64), .long (0 : Int64)])), (h0_tag, .inl (cy 0, 16, .inl (fun _ => 0)))]) H := hP
  replace hD : va_D A ([(h0, .inr (4, [.ref h0_aes, .ref h0_modes, .ref h0_tag, .long (0 : Int64), .long (0 : Int64), .long (0 : Int64), .long (0 : Int64)])), (h0_tag, .inl (cy 0, 16, .inl (fun _ => 0)))]) := hD
  cases hf
  exact W.vret (pc := 42) hx hb hr (fun t ht hW => ⟨rfl, ⟨_, ⟨h0_tag, rfl⟩, by rw [ht]; exact hP, hD⟩, hS.F ht⟩) hS.2.2 (zdt_at zt_X2_init_0 24 rfl)
set_option maxHeartbeats 4000000 in
set_option maxRecDepth 100000 in
theorem c_X3_init (l : Launch) (D : va_G) (cy : Nat → ClassId) (tt : Nat → Nat) (sz : Nat) (h0 : Nat) (h0_sha : Nat) (c_begun' : Int32) (c_requests' : Int32) (c_key' : Nat → Int32) (c_value' : Nat → Int32) (c_message' : Nat → Int32) (hf : f_X3_init = some (c_begun', c_requests', c_key', c_value', c_message')) : Met l yX3_init wsX3_init ({ frames := 1, cells := 3, slots := 161, locals := 12 }) (zPc D cy tt sz [.ref h0, .ref h0_sha] ([(h0, .inr (5, [.null, .null, .null, .null, .int (0 : Int32), .int (0 : Int32)]))])) (zQI D (fun w1 => ∃ (h0_key : Nat), ∃ (h0_value : Nat), ∃ (h0_message : Nat), w1 = [(h0, .inr (5, [.ref h0_sha, .ref h0_key, .ref h0_value, .ref h0_message, .int c_begun', .int c_requests'])), (h0_key, .inl (cy 0, 32, .inl c_key')), (h0_value, .inl (cy 0, 32, .inl c_value')), (h0_message, .inl (cy 0, 97, .inl c_message'))]) (va_A ([(h0, .inr (5, [.null, .null, .null, .null, .int (0 : Int32), .int (0 : Int32)]))]) sz)) 3 161 (va_A ([(h0, .inr (5, [.null, .null, .null, .null, .int (0 : Int32), .int (0 : Int32)]))]) sz) := by
  refine Met.ofW (cc := cX3_init) (maxL := 2) (ret := none) (by decide) rfl ?_
  intro p e s m args below meth c s₁ B hml hv
  obtain ⟨rfl, rfl, hP, hD0, hE⟩ := hv
  have hx := B.exec
  have hb := B.bytes
  have hr := B.returns
  have hts := atoms_spec (ws := wsX3_init) B.pre
  have hown : s.vm.findClass RX3 = some m.cls := findClass_of_methodNamed B.named
  have hlocks := B.notSynchronized
  have hin : meth.name = "<init>" := (name_of_methodNamed B.named B.method).1
  clear B
  have hD := hD0.self (sz := s.heap.size)
  generalize hAe : va_A ([(h0, .inr (5, [.null, .null, .null, .null, .int (0 : Int32), .int (0 : Int32)]))]) s.heap.size = A at hD hE ⊢
  have hA : ∀ q : Nat, s.heap.size ≤ q → A q := fun q h => by rw [← hAe]; exact Or.inr h
  clear hAe hD0
  have hS : va_S A s.heap s.heap [] := va_S.rf
  have hK := hE.1
  have hw0 := hts (.methodLink RX3 3 objectInit) (by decide +kernel)
  have hw1 := hts (.instanceMethod objectInit) (by decide +kernel)
  have hw2 := hts (.code objectInit ⟨#[0xb1]⟩ 1 none) (by decide +kernel)
  have hw3 := hts (.arrayClass .byte) (by decide +kernel)
  have hw4 := hts (.fieldLink RX3 9 "SealedModule$Generator" "key" "[B") (by decide +kernel)
  have hw5 := hts (.fieldLink RX3 15 "SealedModule$Generator" "value" "[B") (by decide +kernel)
  have hw6 := hts (.fieldLink RX3 18 "SealedModule$Generator" "message" "[B") (by decide +kernel)
  have hw7 := hts (.fieldLink RX3 21 "SealedModule$Generator" "begun" "Z") (by decide +kernel)
  have hw8 := hts (.fieldLink RX3 25 "SealedModule$Generator" "requests" "I") (by decide +kernel)
  have hw9 := hts (.fieldLink RX3 29 "SealedModule$Generator" "sha" "LSealedModule$Sha256;") (by decide +kernel)
  have hcX3 : ∀ w ∈ u_ws RX3 TX3 6, w ∈ wsX3_init := (fun _ h => List.mem_cons_of_mem _ (List.mem_append_right _ h))
  have hl := lv_entry ([.ref h0, .ref h0_sha]) (n := 2) (Nat.le_of_ble_eq_true rfl)
  rw [lg_entry_eq]
  generalize (lg_sl ([.ref h0, .ref h0_sha]) ++ List.replicate (2 - (lg_sl ([.ref h0, .ref h0_sha])).length) Slot.unset).toArray = ls at hl ⊢
  replace hl : lv_has ls 2 [(0, .ref h0), (1, .ref h0_sha)] := hl
  unfold f_X3_init at hf
  obtain ⟨H, hHe⟩ : ∃ H, H = s.heap := ⟨_, rfl⟩
  obtain ⟨locs, hLe⟩ : ∃ L : List Loc, L = [] := ⟨_, rfl⟩
  rw [← hHe] at hP
  replace hS : va_S A s.heap H locs := by rw [hHe, hLe]; exact hS
  refine zat hHe.symm hLe.symm ?_
  clear hHe hLe
  refine lv_aload_n (pc := 0) hx hb (zdt_at zt_X3_init_0 0 rfl) rfl (lv_at hl 0 rfl) ?_
  refine W.objInit hx hb hown hw0 hw1 hw2 rfl (by rw [hml]; exact hl.1) rfl (zdt_at zt_X3_init_0 1 rfl) (Nat.le_of_ble_eq_true rfl) (Nat.le_of_ble_eq_true rfl) ?_
  refine W.eq (g2 := F0 m 4 ls []) rfl ?_
  refine lv_aload_n (pc := 4) hx hb (zdt_at zt_X3_init_0 2 rfl) rfl (lv_at hl 0 rfl) ?_
  refine lv_bipush (pc := 5) (v := (32 : Int32)) hx hb (zdt_at zt_X3_init_0 3 rfl) (by decide) ?_
  refine znewB (pc := 7) (N' := 32) hx hb hw3 hK hP hD hS hA (by decide) (by decide) (by decide) (Nat.le_of_ble_eq_true rfl) (Nat.le_of_ble_eq_true rfl) (zdt_at zt_X3_init_0 4 rfl) (fun h0_key H hP_ hD_ hS_ => ?_)
  clear hP hD hS
  have hP := hP_
  have hD := hD_
  have hS := hS_
  clear hP_ hD_ hS_
  replace hP : va_P D vwCl ([(h0, .inr (5, [.null, .null, .null, .null, .int (0 : Int32), .int (0 : Int32)])), (h0_key, .inl (cy 0, 32, .inl (fun _ => 0)))]) H := hP
  replace hD : va_D A ([(h0, .inr (5, [.null, .null, .null, .null, .int (0 : Int32), .int (0 : Int32)])), (h0_key, .inl (cy 0, 32, .inl (fun _ => 0)))]) := hD
  refine va_putF (pc := 9) (D := D) (ci := 5) (v := .ref h0_key) (ty := .array .byte) (C := RX3) (T := TX3) (N := 6) hx hb hts hcX3 tyX3 tyX3_ok nmX3 hown hK hP hD hS 0 rfl rfl 1 (by decide) hw4 (fun _ h9 => h9) rfl hin rfl (by decide +kernel) rfl rfl (Nat.le_of_ble_eq_true rfl) (zdt_at zt_X3_init_0 5 rfl) ?_
  clear hP hD hS
  intro H locs hP hD hS
  replace hP : va_P D vwCl ([(h0, .inr (5, [.null, .ref h0_key, .null, .null, .int (0 : Int32), .int (0 : Int32)])), (h0_key, .inl (cy 0, 32, .inl (fun _ => 0)))]) H := hP
  replace hD : va_D A ([(h0, .inr (5, [.null, .ref h0_key, .null, .null, .int (0 : Int32), .int (0 : Int32)])), (h0_key, .inl (cy 0, 32, .inl (fun _ => 0)))]) := hD
  refine lv_aload_n (pc := 12) hx hb (zdt_at zt_X3_init_0 6 rfl) rfl (lv_at hl 0 rfl) ?_
  refine lv_bipush (pc := 13) (v := (32 : Int32)) hx hb (zdt_at zt_X3_init_0 7 rfl) (by decide) ?_
  refine znewB (pc := 15) (N' := 32) hx hb hw3 hK hP hD hS hA (by decide) (by decide) (by decide) (Nat.le_of_ble_eq_true rfl) (Nat.le_of_ble_eq_true rfl) (zdt_at zt_X3_init_0 8 rfl) (fun h0_value H hP_ hD_ hS_ => ?_)
  clear hP hD hS
  have hP := hP_
  have hD := hD_
  have hS := hS_
  clear hP_ hD_ hS_
  replace hP : va_P D vwCl ([(h0, .inr (5, [.null, .ref h0_key, .null, .null, .int (0 : Int32), .int (0 : Int32)])), (h0_key, .inl (cy 0, 32, .inl (fun _ => 0))), (h0_value, .inl (cy 0, 32, .inl (fun _ => 0)))]) H := hP
  replace hD : va_D A ([(h0, .inr (5, [.null, .ref h0_key, .null, .null, .int (0 : Int32), .int (0 : Int32)])), (h0_key, .inl (cy 0, 32, .inl (fun _ => 0))), (h0_value, .inl (cy 0, 32, .inl (fun _ => 0)))]) := hD
  refine va_putF (pc := 17) (D := D) (ci := 5) (v := .ref h0_value) (ty := .array .byte) (C := RX3) (T := TX3) (N := 6) hx hb hts hcX3 tyX3 tyX3_ok nmX3 hown hK hP hD hS 0 rfl rfl 2 (by decide) hw5 (fun _ h9 => h9) rfl hin rfl (by decide +kernel) rfl rfl (Nat.le_of_ble_eq_true rfl) (zdt_at zt_X3_init_0 9 rfl) ?_
  clear hP hD hS
  intro H locs hP hD hS
  replace hP : va_P D vwCl ([(h0, .inr (5, [.null, .ref h0_key, .ref h0_value, .null, .int (0 : Int32), .int (0 : Int32)])), (h0_key, .inl (cy 0, 32, .inl (fun _ => 0))), (h0_value, .inl (cy 0, 32, .inl (fun _ => 0)))]) H := hP
  replace hD : va_D A ([(h0, .inr (5, [.null, .ref h0_key, .ref h0_value, .null, .int (0 : Int32), .int (0 : Int32)])), (h0_key, .inl (cy 0, 32, .inl (fun _ => 0))), (h0_value, .inl (cy 0, 32, .inl (fun _ => 0)))]) := hD
  refine lv_aload_n (pc := 20) hx hb (zdt_at zt_X3_init_0 10 rfl) rfl (lv_at hl 0 rfl) ?_
  refine lv_bipush (pc := 21) (v := (97 : Int32)) hx hb (zdt_at zt_X3_init_0 11 rfl) (by decide) ?_
  refine znewB (pc := 23) (N' := 97) hx hb hw3 hK hP hD hS hA (by decide) (by decide) (by decide) (Nat.le_of_ble_eq_true rfl) (Nat.le_of_ble_eq_true rfl) (zdt_at zt_X3_init_0 12 rfl) (fun h0_message H hP_ hD_ hS_ => ?_)
  clear hP hD hS
  have hP := hP_
  have hD := hD_
  have hS := hS_
  clear hP_ hD_ hS_
  replace hP : va_P D vwCl ([(h0, .inr (5, [.null, .ref h0_key, .ref h0_value, .null, .int (0 : Int32), .int (0 : Int32)])), (h0_key, .inl (cy 0, 32, .inl (fun _ => 0))), (h0_value, .inl (cy 0, 32, .inl (fun _ => 0))), (h0_message, .inl (cy 0, 97, .inl (fun _ => 0)))]) H := hP
  replace hD : va_D A ([(h0, .inr (5, [.null, .ref h0_key, .ref h0_value, .null, .int (0 : Int32), .int (0 : Int32)])), (h0_key, .inl (cy 0, 32, .inl (fun _ => 0))), (h0_value, .inl (cy 0, 32, .inl (fun _ => 0))), (h0_message, .inl (cy 0, 97, .inl (fun _ => 0)))]) := hD
  refine va_putF (pc := 25) (D := D) (ci := 5) (v := .ref h0_message) (ty := .array .byte) (C := RX3) (T := TX3) (N := 6) hx hb hts hcX3 tyX3 tyX3_ok nmX3 hown hK hP hD hS 0 rfl rfl 3 (by decide) hw6 (fun _ h9 => h9) rfl hin rfl (by decide +kernel) rfl rfl (Nat.le_of_ble_eq_true rfl) (zdt_at zt_X3_init_0 13 rfl) ?_
  clear hP hD hS
  intro H locs hP hD hS
  replace hP : va_P D vwCl ([(h0, .inr (5, [.null, .ref h0_key, .ref h0_value, .ref h0_message, .int (0 : Int32), .int (0 : Int32)])), (h0_key, .inl (cy 0, 32, .inl (fun _ => 0))), (h0_value, .inl (cy 0, 32, .inl (fun _ => 0))), (h0_message, .inl (cy 0, 97, .inl (fun _ => 0)))]) H := hP
  replace hD : va_D A ([(h0, .inr (5, [.null, .ref h0_key, .ref h0_value, .ref h0_message, .int (0 : Int32), .int (0 : Int32)])), (h0_key, .inl (cy 0, 32, .inl (fun _ => 0))), (h0_value, .inl (cy 0, 32, .inl (fun _ => 0))), (h0_message, .inl (cy 0, 97, .inl (fun _ => 0)))]) := hD
  refine lv_aload_n (pc := 28) hx hb (zdt_at zt_X3_init_0 14 rfl) rfl (lv_at hl 0 rfl) ?_
  refine lv_iconst (pc := 29) (v := (0 : Int32)) hx hb (zdt_at zt_X3_init_0 15 rfl) (by decide) ?_
  refine va_put (pc := 30) (D := D) (ci := 5) (v := .int (0 : Int32)) (ty := .boolean) (C := RX3) (T := TX3) (N := 6) hx hb hts hcX3 tyX3 tyX3_ok nmX3 hown hK hP hD hS 0 rfl rfl 4 (by decide) hw7 (fun _ h9 => h9) rfl (by decide +kernel) (by first | rfl | decide) (by first | rfl | decide) (Nat.le_of_ble_eq_true rfl) (zdt_at zt_X3_init_0 16 rfl) ?_
  clear hP hD hS
  intro H locs hP hD hS
  replace hP : va_P D vwCl ([(h0, .inr (5, [.null, .ref h0_key, .ref h0_value, .ref h0_message, .int (0 : Int32), .int (0 : Int32)])), (h0_key, .inl (cy 0, 32, .inl (fun _ => 0))), (h0_value, .inl (cy 0, 32, .inl (fun _ => 0))), (h0_message, .inl (cy 0, 97, .inl (fun _ => 0)))]) H := hP
  replace hD : va_D A ([(h0, .inr (5, [.null, .ref h0_key, .ref h0_value, .ref h0_message, .int (0 : Int32), .int (0 : Int32)])), (h0_key, .inl (cy 0, 32, .inl (fun _ => 0))), (h0_value, .inl (cy 0, 32, .inl (fun _ => 0))), (h0_message, .inl (cy 0, 97, .inl (fun _ => 0)))]) := hD
  refine lv_aload_n (pc := 33) hx hb (zdt_at zt_X3_init_0 17 rfl) rfl (lv_at hl 0 rfl) ?_
  refine lv_iconst (pc := 34) (v := (0 : Int32)) hx hb (zdt_at zt_X3_init_0 18 rfl) (by decide) ?_
  refine va_put (pc := 35) (D := D) (ci := 5) (v := .int (0 : Int32)) (ty := .int) (C := RX3) (T := TX3) (N := 6) hx hb hts hcX3 tyX3 tyX3_ok nmX3 hown hK hP hD hS 0 rfl rfl 5 (by decide) hw8 (fun _ h9 => h9) rfl (by decide +kernel) rfl rfl (Nat.le_of_ble_eq_true rfl) (zdt_at zt_X3_init_0 19 rfl) ?_
  clear hP hD hS
  intro H locs hP hD hS
  replace hP : va_P D vwCl ([(h0, .inr (5, [.null, .ref h0_key, .ref h0_value, .ref h0_message, .int (0 : Int32), .int (0 : Int32)])), (h0_key, .inl (cy 0, 32, .inl (fun _ => 0))), (h0_value, .inl (cy 0, 32, .inl (fun _ => 0))), (h0_message, .inl (cy 0, 97, .inl (fun _ => 0)))]) H := hP
  replace hD : va_D A ([(h0, .inr (5, [.null, .ref h0_key, .ref h0_value, .ref h0_message, .int (0 : Int32), .int (0 : Int32)])), (h0_key, .inl (cy 0, 32, .inl (fun _ => 0))), (h0_value, .inl (cy 0, 32, .inl (fun _ => 0))), (h0_message, .inl (cy 0, 97, .inl (fun _ => 0)))]) := hD
  refine lv_aload_n (pc := 38) hx hb (zdt_at zt_X3_init_0 20 rfl) rfl (lv_at hl 0 rfl) ?_
  refine lv_aload_n (pc := 39) hx hb (zdt_at zt_X3_init_0 21 rfl) rfl (lv_at hl 1 rfl) ?_
  refine va_putF (pc := 40) (D := D) (ci := 5) (v := .ref h0_sha) (ty := .object "SealedModule$Sha256") (C := RX3) (T := TX3) (N := 6) hx hb hts hcX3 tyX3 tyX3_ok nmX3 hown hK hP hD hS 0 rfl rfl 0 (by decide) hw9 (fun _ h9 => h9) rfl hin rfl (by decide +kernel) rfl rfl (Nat.le_of_ble_eq_true rfl) (zdt_at zt_X3_init_0 22 rfl) ?_
  clear hP hD hS
  intro H locs hP hD hS
  replace hP : va_P D vwCl ([(h0, .inr (5, [.ref h0_sha, .ref h0_key, .ref h0_value, .ref h0_message, .int (0 : Int32), .int (0 : Int32)])), (h0_key, .inl (cy 0, 32, .inl (fun _ => 0))), (h0_value, .inl (cy 0, 32, .inl (fun _ => 0))), (h0_message, .inl (cy 0, 97, .inl (fun _ => 0)))]) H := hP
  replace hD : va_D A ([(h0, .inr (5, [.ref h0_sha, .ref h0_key, .ref h0_value, .ref h0_message, .int (0 : Int32), .int (0 : Int32)])), (h0_key, .inl (cy 0, 32, .inl (fun _ => 0))), (h0_value, .inl (cy 0, 32, .inl (fun _ => 0))), (h0_message, .inl (cy 0, 97, .inl (fun _ => 0)))]) := hD
  cases hf
  exact W.vret (pc := 43) hx hb hr (fun t ht hW => ⟨rfl, ⟨_, ⟨h0_key, h0_value, h0_message, rfl⟩, by rw [ht]; exact hP, hD⟩, hS.F ht⟩) hS.2.2 (zdt_at zt_X3_init_0 23 rfl)
set_option maxHeartbeats 4000000 in
set_option maxRecDepth 100000 in
theorem c_X6_init (l : Launch) (D : va_G) (cy : Nat → ClassId) (tt : Nat → Nat) (sz : Nat) (h0 : Nat) (h0_aes : Nat) (h0_modes : Nat) (h0_gcm : Nat) (h0_sha : Nat) (c_key' : Nat → Int32) (c_work' : Nat → Int32) (c_generator_begun' : Int32) (c_generator_requests' : Int32) (c_generator_key' : Nat → Int32) (c_generator_value' : Nat → Int32) (c_generator_message' : Nat → Int32) (hf : f_X6_init = some (c_key', c_work', c_generator_begun', c_generator_requests', c_generator_key', c_generator_value', c_generator_message')) : Met l yX6_init wsX6_init ({ frames := 2, cells := 6, slots := 263, locals := 33 }) (zPc D cy tt sz [.ref h0, .ref h0_aes, .ref h0_modes, .ref h0_gcm, .ref h0_sha] ([(h0, .inr (8, [.null, .null, .null, .null, .null, .null, .null]))])) (zQI D (fun w1 => ∃ (h0_key : Nat), ∃ (h0_work : Nat), ∃ (h0_generator : Nat), ∃ (h0_generator_key : Nat), ∃ (h0_generator_value : Nat), ∃ (h0_generator_message : Nat), w1 = [(h0, .inr (8, [.ref h0_aes, .ref h0_modes, .ref h0_gcm, .ref h0_sha, .ref h0_generator, .ref h0_key, .ref h0_work])), (h0_key, .inl (cy 0, 32, .inl c_key')), (h0_work, .inl (cy 0, 64, .inl c_work')), (h0_generator, .inr (5, [.ref h0_sha, .ref h0_generator_key, .ref h0_generator_value, .ref h0_generator_message, .int c_generator_begun', .int c_generator_requests'])), (h0_generator_key, .inl (cy 0, 32, .inl c_generator_key')), (h0_generator_value, .inl (cy 0, 32, .inl c_generator_value')), (h0_generator_message, .inl (cy 0, 97, .inl c_generator_message'))]) (va_A ([(h0, .inr (8, [.null, .null, .null, .null, .null, .null, .null]))]) sz)) 6 263 (va_A ([(h0, .inr (8, [.null, .null, .null, .null, .null, .null, .null]))]) sz) := by
  refine Met.ofW (cc := cX6_init) (maxL := 5) (ret := none) (by decide) rfl ?_
  intro p e s m args below meth c s₁ B hml hv
  obtain ⟨rfl, rfl, hP, hD0, hE⟩ := hv
  have hx := B.exec
  have hb := B.bytes
  have hr := B.returns
  have hts := atoms_spec (ws := wsX6_init) B.pre
  have hown : s.vm.findClass RX6 = some m.cls := findClass_of_methodNamed B.named
  have hlocks := B.notSynchronized
  have hin : meth.name = "<init>" := (name_of_methodNamed B.named B.method).1
  clear B
  have hD := hD0.self (sz := s.heap.size)
  generalize hAe : va_A ([(h0, .inr (8, [.null, .null, .null, .null, .null, .null, .null]))]) s.heap.size = A at hD hE ⊢
  have hA : ∀ q : Nat, s.heap.size ≤ q → A q := fun q h => by rw [← hAe]; exact Or.inr h
  clear hAe hD0
  have hS : va_S A s.heap s.heap [] := va_S.rf
  have hK := hE.1
  have hw0 := hts (.methodLink RX6 3 objectInit) (by decide +kernel)
  have hw1 := hts (.instanceMethod objectInit) (by decide +kernel)
  have hw2 := hts (.code objectInit ⟨#[0xb1]⟩ 1 none) (by decide +kernel)
  have hw3 := hts (.arrayClass .byte) (by decide +kernel)
  have hw4 := hts (.fieldLink RX6 9 "SealedModule$SelfTests" "key" "[B") (by decide +kernel)
  have hw5 := hts (.fieldLink RX6 15 "SealedModule$SelfTests" "work" "[B") (by decide +kernel)
  have hw6 := hts (.fieldLink RX6 18 "SealedModule$SelfTests" "aes" "LSealedModule$Aes;") (by decide +kernel)
  have hw7 := hts (.fieldLink RX6 22 "SealedModule$SelfTests" "modes" "LSealedModule$Modes;") (by decide +kernel)
  have hw8 := hts (.fieldLink RX6 26 "SealedModule$SelfTests" "gcm" "LSealedModule$Gcm;") (by decide +kernel)
  have hw9 := hts (.fieldLink RX6 30 "SealedModule$SelfTests" "sha" "LSealedModule$Sha256;") (by decide +kernel)
  have hw10 := hts (.classLink RX6 34 RX3) (by decide +kernel)
  have hw11 := hts (.instantiable RX3 6) (by decide +kernel)
  have hw12 := hts (.initialized RX3) (by decide +kernel)
  have hw13 := hts (.methodLink RX6 36 yX3_init) (by decide +kernel)
  have hw14 := hts (.instanceMethod yX3_init) (by decide +kernel)
  have hw15 := hts (.fieldLink RX6 39 "SealedModule$SelfTests" "generator" "LSealedModule$Generator;") (by decide +kernel)
  have hcX6 : ∀ w ∈ u_ws RX6 TX6 7, w ∈ wsX6_init := (fun _ h => List.mem_cons_of_mem _ (List.mem_append_left _ (List.mem_append_right _ h)))
  have hcX3 : ∀ w ∈ u_ws RX3 TX3 6, w ∈ wsX6_init := (fun _ h => List.mem_cons_of_mem _ (List.mem_append_right _ h))
  have hl := lv_entry ([.ref h0, .ref h0_aes, .ref h0_modes, .ref h0_gcm, .ref h0_sha]) (n := 5) (Nat.le_of_ble_eq_true rfl)
  rw [lg_entry_eq]
  generalize (lg_sl ([.ref h0, .ref h0_aes, .ref h0_modes, .ref h0_gcm, .ref h0_sha]) ++ List.replicate (5 - (lg_sl ([.ref h0, .ref h0_aes, .ref h0_modes, .ref h0_gcm, .ref h0_sha])).length) Slot.unset).toArray = ls at hl ⊢
  replace hl : lv_has ls 5 [(0, .ref h0), (1, .ref h0_aes), (2, .ref h0_modes), (3, .ref h0_gcm), (4, .ref h0_sha)] := hl
  unfold f_X6_init at hf
  obtain ⟨H, hHe⟩ : ∃ H, H = s.heap := ⟨_, rfl⟩
  obtain ⟨locs, hLe⟩ : ∃ L : List Loc, L = [] := ⟨_, rfl⟩
  rw [← hHe] at hP
  replace hS : va_S A s.heap H locs := by rw [hHe, hLe]; exact hS
  refine zat hHe.symm hLe.symm ?_
  clear hHe hLe
  refine lv_aload_n (pc := 0) hx hb (zdt_at zt_X6_init_0 0 rfl) rfl (lv_at hl 0 rfl) ?_
  refine W.objInit hx hb hown hw0 hw1 hw2 rfl (by rw [hml]; exact hl.1) rfl (zdt_at zt_X6_init_0 1 rfl) (Nat.le_of_ble_eq_true rfl) (Nat.le_of_ble_eq_true rfl) ?_
  refine W.eq (g2 := F0 m 4 ls []) rfl ?_
  refine lv_aload_n (pc := 4) hx hb (zdt_at zt_X6_init_0 2 rfl) rfl (lv_at hl 0 rfl) ?_
  refine lv_bipush (pc := 5) (v := (32 : Int32)) hx hb (zdt_at zt_X6_init_0 3 rfl) (by decide) ?_
  refine znewB (pc := 7) (N' := 32) hx hb hw3 hK hP hD hS hA (by decide) (by decide) (by decide) (Nat.le_of_ble_eq_true rfl) (Nat.le_of_ble_eq_true rfl) (zdt_at zt_X6_init_0 4 rfl) (fun h0_key H hP_ hD_ hS_ => ?_)
  clear hP hD hS
  have hP := hP_
  have hD := hD_
  have hS := hS_
  clear hP_ hD_ hS_
  replace hP : va_P D vwCl ([(h0, .inr (8, [.null, .null, .null, .null, .null, .null, .null])), (h0_key, .inl (cy 0, 32, .inl (fun _ => 0)))]) H := hP
  replace hD : va_D A ([(h0, .inr (8, [.null, .null, .null, .null, .null, .null, .null])), (h0_key, .inl (cy 0, 32, .inl (fun _ => 0)))]) := hD
  refine va_putF (pc := 9) (D := D) (ci := 8) (v := .ref h0_key) (ty := .array .byte) (C := RX6) (T := TX6) (N := 7) hx hb hts hcX6 tyX6 tyX6_ok nmX6 hown hK hP hD hS 0 rfl rfl 5 (by decide) hw4 (fun _ h9 => h9) rfl hin rfl (by decide +kernel) rfl rfl (Nat.le_of_ble_eq_true rfl) (zdt_at zt_X6_init_0 5 rfl) ?_
  clear hP hD hS
  intro H locs hP hD hS
  replace hP : va_P D vwCl ([(h0, .inr (8, [.null, .null, .null, .null, .null, .ref h0_key, .null])), (h0_key, .inl (cy 0, 32, .inl (fun _ => 0)))]) H := hP
  replace hD : va_D A ([(h0, .inr (8, [.null, .null, .null, .null, .null, .ref h0_key, .null])), (h0_key, .inl (cy 0, 32, .inl (fun _ => 0)))]) := hD
  refine lv_aload_n (pc := 12) hx hb (zdt_at zt_X6_init_0 6 rfl) rfl (lv_at hl 0 rfl) ?_
  refine lv_bipush (pc := 13) (v := (64 : Int32)) hx hb (zdt_at zt_X6_init_0 7 rfl) (by decide) ?_
  refine znewB (pc := 15) (N' := 64) hx hb hw3 hK hP hD hS hA (by decide) (by decide) (by decide) (Nat.le_of_ble_eq_true rfl) (Nat.le_of_ble_eq_true rfl) (zdt_at zt_X6_init_0 8 rfl) (fun h0_work H hP_ hD_ hS_ => ?_)
  clear hP hD hS
  have hP := hP_
  have hD := hD_
  have hS := hS_
  clear hP_ hD_ hS_
  replace hP : va_P D vwCl ([(h0, .inr (8, [.null, .null, .null, .null, .null, .ref h0_key, .null])), (h0_key, .inl (cy 0, 32, .inl (fun _ => 0))), (h0_work, .inl (cy 0, 64, .inl (fun _ => 0)))]) H := hP
  replace hD : va_D A ([(h0, .inr (8, [.null, .null, .null, .null, .null, .ref h0_key, .null])), (h0_key, .inl (cy 0, 32, .inl (fun _ => 0))), (h0_work, .inl (cy 0, 64, .inl (fun _ => 0)))]) := hD
  refine va_putF (pc := 17) (D := D) (ci := 8) (v := .ref h0_work) (ty := .array .byte) (C := RX6) (T := TX6) (N := 7) hx hb hts hcX6 tyX6 tyX6_ok nmX6 hown hK hP hD hS 0 rfl rfl 6 (by decide) hw5 (fun _ h9 => h9) rfl hin rfl (by decide +kernel) rfl rfl (Nat.le_of_ble_eq_true rfl) (zdt_at zt_X6_init_0 9 rfl) ?_
  clear hP hD hS
  intro H locs hP hD hS
  replace hP : va_P D vwCl ([(h0, .inr (8, [.null, .null, .null, .null, .null, .ref h0_key, .ref h0_work])), (h0_key, .inl (cy 0, 32, .inl (fun _ => 0))), (h0_work, .inl (cy 0, 64, .inl (fun _ => 0)))]) H := hP
  replace hD : va_D A ([(h0, .inr (8, [.null, .null, .null, .null, .null, .ref h0_key, .ref h0_work])), (h0_key, .inl (cy 0, 32, .inl (fun _ => 0))), (h0_work, .inl (cy 0, 64, .inl (fun _ => 0)))]) := hD
  refine lv_aload_n (pc := 20) hx hb (zdt_at zt_X6_init_0 10 rfl) rfl (lv_at hl 0 rfl) ?_
  refine lv_aload_n (pc := 21) hx hb (zdt_at zt_X6_init_0 11 rfl) rfl (lv_at hl 1 rfl) ?_
  refine va_putF (pc := 22) (D := D) (ci := 8) (v := .ref h0_aes) (ty := .object "SealedModule$Aes") (C := RX6) (T := TX6) (N := 7) hx hb hts hcX6 tyX6 tyX6_ok nmX6 hown hK hP hD hS 0 rfl rfl 0 (by decide) hw6 (fun _ h9 => h9) rfl hin rfl (by decide +kernel) rfl rfl (Nat.le_of_ble_eq_true rfl) (zdt_at zt_X6_init_0 12 rfl) ?_
  clear hP hD hS
  intro H locs hP hD hS
  replace hP : va_P D vwCl ([(h0, .inr (8, [.ref h0_aes, .null, .null, .null, .null, .ref h0_key, .ref h0_work])), (h0_key, .inl (cy 0, 32, .inl (fun _ => 0))), (h0_work, .inl (cy 0, 64, .inl (fun _ => 0)))]) H := hP
  replace hD : va_D A ([(h0, .inr (8, [.ref h0_aes, .null, .null, .null, .null, .ref h0_key, .ref h0_work])), (h0_key, .inl (cy 0, 32, .inl (fun _ => 0))), (h0_work, .inl (cy 0, 64, .inl (fun _ => 0)))]) := hD
  refine lv_aload_n (pc := 25) hx hb (zdt_at zt_X6_init_0 13 rfl) rfl (lv_at hl 0 rfl) ?_
  refine lv_aload_n (pc := 26) hx hb (zdt_at zt_X6_init_0 14 rfl) rfl (lv_at hl 2 rfl) ?_
  refine va_putF (pc := 27) (D := D) (ci := 8) (v := .ref h0_modes) (ty := .object "SealedModule$Modes") (C := RX6) (T := TX6) (N := 7) hx hb hts hcX6 tyX6 tyX6_ok nmX6 hown hK hP hD hS 0 rfl rfl 1 (by decide) hw7 (fun _ h9 => h9) rfl hin rfl (by decide +kernel) rfl rfl (Nat.le_of_ble_eq_true rfl) (zdt_at zt_X6_init_0 15 rfl) ?_
  clear hP hD hS
  intro H locs hP hD hS
  replace hP : va_P D vwCl ([(h0, .inr (8, [.ref h0_aes, .ref h0_modes, .null, .null, .null, .ref h0_key, .ref h0_work])), (h0_key, .inl (cy 0, 32, .inl (fun _ => 0))), (h0_work, .inl (cy 0, 64, .inl (fun _ => 0)))]) H := hP
  replace hD : va_D A ([(h0, .inr (8, [.ref h0_aes, .ref h0_modes, .null, .null, .null, .ref h0_key, .ref h0_work])), (h0_key, .inl (cy 0, 32, .inl (fun _ => 0))), (h0_work, .inl (cy 0, 64, .inl (fun _ => 0)))]) := hD
  refine lv_aload_n (pc := 30) hx hb (zdt_at zt_X6_init_0 16 rfl) rfl (lv_at hl 0 rfl) ?_
  refine lv_aload_n (pc := 31) hx hb (zdt_at zt_X6_init_0 17 rfl) rfl (lv_at hl 3 rfl) ?_
  refine va_putF (pc := 32) (D := D) (ci := 8) (v := .ref h0_gcm) (ty := .object "SealedModule$Gcm") (C := RX6) (T := TX6) (N := 7) hx hb hts hcX6 tyX6 tyX6_ok nmX6 hown hK hP hD hS 0 rfl rfl 2 (by decide) hw8 (fun _ h9 => h9) rfl hin rfl (by decide +kernel) rfl rfl (Nat.le_of_ble_eq_true rfl) (zdt_at zt_X6_init_0 18 rfl) ?_
  clear hP hD hS
  intro H locs hP hD hS
  replace hP : va_P D vwCl ([(h0, .inr (8, [.ref h0_aes, .ref h0_modes, .ref h0_gcm, .null, .null, .ref h0_key, .ref h0_work])), (h0_key, .inl (cy 0, 32, .inl (fun _ => 0))), (h0_work, .inl (cy 0, 64, .inl (fun _ => 0)))]) H := hP
  replace hD : va_D A ([(h0, .inr (8, [.ref h0_aes, .ref h0_modes, .ref h0_gcm, .null, .null, .ref h0_key, .ref h0_work])), (h0_key, .inl (cy 0, 32, .inl (fun _ => 0))), (h0_work, .inl (cy 0, 64, .inl (fun _ => 0)))]) := hD
  refine lv_aload_n (pc := 35) hx hb (zdt_at zt_X6_init_0 19 rfl) rfl (lv_at hl 0 rfl) ?_
  refine lv_aload (pc := 36) hx hb (zdt_at zt_X6_init_0 20 rfl) (lv_at hl 4 rfl) ?_
  refine va_putF (pc := 38) (D := D) (ci := 8) (v := .ref h0_sha) (ty := .object "SealedModule$Sha256") (C := RX6) (T := TX6) (N := 7) hx hb hts hcX6 tyX6 tyX6_ok nmX6 hown hK hP hD hS 0 rfl rfl 3 (by decide) hw9 (fun _ h9 => h9) rfl hin rfl (by decide +kernel) rfl rfl (Nat.le_of_ble_eq_true rfl) (zdt_at zt_X6_init_0 21 rfl) ?_
  clear hP hD hS
  intro H locs hP hD hS
  replace hP : va_P D vwCl ([(h0, .inr (8, [.ref h0_aes, .ref h0_modes, .ref h0_gcm, .ref h0_sha, .null, .ref h0_key, .ref h0_work])), (h0_key, .inl (cy 0, 32, .inl (fun _ => 0))), (h0_work, .inl (cy 0, 64, .inl (fun _ => 0)))]) H := hP
  replace hD : va_D A ([(h0, .inr (8, [.ref h0_aes, .ref h0_modes, .ref h0_gcm, .ref h0_sha, .null, .ref h0_key, .ref h0_work])), (h0_key, .inl (cy 0, 32, .inl (fun _ => 0))), (h0_work, .inl (cy 0, 64, .inl (fun _ => 0)))]) := hD
  refine lv_aload_n (pc := 41) hx hb (zdt_at zt_X6_init_0 22 rfl) rfl (lv_at hl 0 rfl) ?_
  refine va_new (pc := 42) (ci := 5) (fs := [.null, .null, .null, .null, .int (0 : Int32), .int (0 : Int32)]) (C := RX3) (T := TX3) (N := 6) hx hb hts hcX3 tyX3 tyX3_ok hown hw10 hw11 hw12 hK hP hD hS hA rfl (fun j hj => by rcases (show j = 0 ∨ j = 1 ∨ j = 2 ∨ j = 3 ∨ j = 4 ∨ j = 5 by omega) with rfl | rfl | rfl | rfl | rfl | rfl <;> rfl) (Nat.le_of_ble_eq_true rfl) (Nat.le_of_ble_eq_true rfl) (zdt_at zt_X6_init_0 23 rfl) (fun h0_generator H hP_ hD_ hS_ => ?_)
  clear hP hD hS
  have hP := hP_
  have hD := hD_
  have hS := hS_
  clear hP_ hD_ hS_
  replace hP : va_P D vwCl ([(h0, .inr (8, [.ref h0_aes, .ref h0_modes, .ref h0_gcm, .ref h0_sha, .null, .ref h0_key, .ref h0_work])), (h0_key, .inl (cy 0, 32, .inl (fun _ => 0))), (h0_work, .inl (cy 0, 64, .inl (fun _ => 0))), (h0_generator, .inr (5, [.null, .null, .null, .null, .int (0 : Int32), .int (0 : Int32)]))]) H := hP
  replace hD : va_D A ([(h0, .inr (8, [.ref h0_aes, .ref h0_modes, .ref h0_gcm, .ref h0_sha, .null, .ref h0_key, .ref h0_work])), (h0_key, .inl (cy 0, 32, .inl (fun _ => 0))), (h0_work, .inl (cy 0, 64, .inl (fun _ => 0))), (h0_generator, .inr (5, [.null, .null, .null, .null, .int (0 : Int32), .int (0 : Int32)]))]) := hD
  refine lv_dup (pc := 45) hx hb (zdt_at zt_X6_init_0 24 rfl) rfl ?_
  refine lv_aload (pc := 46) hx hb (zdt_at zt_X6_init_0 25 rfl) (lv_at hl 4 rfl) ?_
  replace hf := zb_s hf
  obtain ⟨⟨c_generator_begun_1, c_generator_requests_2, c_generator_key_3, c_generator_value_4, c_generator_message_5⟩, hc_, hf⟩ := hf
  have hFc := (va_free (wc := [(h0_generator, .inr (5, [.null, .null, .null, .null, .int (0 : Int32), .int (0 : Int32)]))]) hD hS hA [3] rfl)
  refine zcx (pc := 48) (wc := [(h0_generator, .inr (5, [.null, .null, .null, .null, .int (0 : Int32), .int (0 : Int32)]))]) (wr := [(h0, .inr (8, [.ref h0_aes, .ref h0_modes, .ref h0_gcm, .ref h0_sha, .null, .ref h0_key, .ref h0_work])), (h0_key, .inl (cy 0, 32, .inl (fun _ => 0))), (h0_work, .inl (cy 0, 64, .inl (fun _ => 0)))]) (va_runI (As := [.ref h0_sha]) (rest := [.ref h0_generator, .ref h0]) ⟨hx, hb, hml, hown, hts⟩ (c_X3_init l D cy tt H.size h0_generator h0_sha c_generator_begun_1 c_generator_requests_2 c_generator_key_3 c_generator_value_4 c_generator_message_5 hc_) (cwI 1 hts gX6_init_X3_init rfl rfl rfl hw12 hw13 hw14 rfl (by decide +kernel) ⟨Nat.le_of_ble_eq_true rfl, Nat.le_of_ble_eq_true rfl⟩) ⟨zblind, zpre hE hS (hP.sub (ws' := [(h0_generator, .inr (5, [.null, .null, .null, .null, .int (0 : Int32), .int (0 : Int32)]))]) [3] rfl) (hD.sub (ws' := [(h0_generator, .inr (5, [.null, .null, .null, .null, .int (0 : Int32), .int (0 : Int32)]))]) [3] (by decide) rfl) hFc⟩ rfl rfl hl.1 rfl (lv_room (Nat.le_of_ble_eq_true rfl)) (zdt_at zt_X6_init_0 26 rfl) ⟨Nat.le_of_ble_eq_true rfl, Nat.le_of_ble_eq_true rfl⟩) hS hP hD hFc [3] [0, 1, 2] rfl rfl (by decide) (by decide) (fun w1_ H locs hB_ hP_ hD_ hS_ => ?_)
  clear hP hD hS hFc hc_
  have hP := hP_
  have hD := hD_
  have hS := hS_
  clear hP_ hD_ hS_
  obtain ⟨h0_generator_key, h0_generator_value, h0_generator_message, rfl⟩ := hB_
  replace hP := hP.sub (ws' := [(h0, .inr (8, [.ref h0_aes, .ref h0_modes, .ref h0_gcm, .ref h0_sha, .null, .ref h0_key, .ref h0_work])), (h0_key, .inl (cy 0, 32, .inl (fun _ => 0))), (h0_work, .inl (cy 0, 64, .inl (fun _ => 0))), (h0_generator, .inr (5, [.ref h0_sha, .ref h0_generator_key, .ref h0_generator_value, .ref h0_generator_message, .int c_generator_begun_1, .int c_generator_requests_2])), (h0_generator_key, .inl (cy 0, 32, .inl c_generator_key_3)), (h0_generator_value, .inl (cy 0, 32, .inl c_generator_value_4)), (h0_generator_message, .inl (cy 0, 97, .inl c_generator_message_5))]) [0, 1, 2, 3, 4, 5, 6] rfl
  replace hD := hD.sub (ws' := [(h0, .inr (8, [.ref h0_aes, .ref h0_modes, .ref h0_gcm, .ref h0_sha, .null, .ref h0_key, .ref h0_work])), (h0_key, .inl (cy 0, 32, .inl (fun _ => 0))), (h0_work, .inl (cy 0, 64, .inl (fun _ => 0))), (h0_generator, .inr (5, [.ref h0_sha, .ref h0_generator_key, .ref h0_generator_value, .ref h0_generator_message, .int c_generator_begun_1, .int c_generator_requests_2])), (h0_generator_key, .inl (cy 0, 32, .inl c_generator_key_3)), (h0_generator_value, .inl (cy 0, 32, .inl c_generator_value_4)), (h0_generator_message, .inl (cy 0, 97, .inl c_generator_message_5))]) [0, 1, 2, 3, 4, 5, 6] (by decide) rfl
  refine W.eq (g2 := F0 m 51 ls [.ref h0_generator, .ref h0]) rfl ?_
  refine va_putF (pc := 51) (D := D) (ci := 8) (v := .ref h0_generator) (ty := .object "SealedModule$Generator") (C := RX6) (T := TX6) (N := 7) hx hb hts hcX6 tyX6 tyX6_ok nmX6 hown hK hP hD hS 0 rfl rfl 4 (by decide) hw15 (fun _ h9 => h9) rfl hin rfl (by decide +kernel) rfl rfl (Nat.le_of_ble_eq_true rfl) (zdt_at zt_X6_init_0 27 rfl) ?_
  clear hP hD hS
  intro H locs hP hD hS
  replace hP : va_P D vwCl ([(h0, .inr (8, [.ref h0_aes, .ref h0_modes, .ref h0_gcm, .ref h0_sha, .ref h0_generator, .ref h0_key, .ref h0_work])), (h0_key, .inl (cy 0, 32, .inl (fun _ => 0))), (h0_work, .inl (cy 0, 64, .inl (fun _ => 0))), (h0_generator, .inr (5, [.ref h0_sha, .ref h0_generator_key, .ref h0_generator_value, .ref h0_generator_message, .int c_generator_begun_1, .int c_generator_requests_2])), (h0_generator_key, .inl (cy 0, 32, .inl c_generator_key_3)), (h0_generator_value, .inl (cy 0, 32, .inl c_generator_value_4)), (h0_generator_message, .inl (cy 0, 97, .inl c_generator_message_5))]) H := hP
  replace hD : va_D A ([(h0, .inr (8, [.ref h0_aes, .ref h0_modes, .ref h0_gcm, .ref h0_sha, .ref h0_generator, .ref h0_key, .ref h0_work])), (h0_key, .inl (cy 0, 32, .inl (fun _ => 0))), (h0_work, .inl (cy 0, 64, .inl (fun _ => 0))), (h0_generator, .inr (5, [.ref h0_sha, .ref h0_generator_key, .ref h0_generator_value, .ref h0_generator_message, .int c_generator_begun_1, .int c_generator_requests_2])), (h0_generator_key, .inl (cy 0, 32, .inl c_generator_key_3)), (h0_generator_value, .inl (cy 0, 32, .inl c_generator_value_4)), (h0_generator_message, .inl (cy 0, 97, .inl c_generator_message_5))]) := hD
  cases hf
  exact W.vret (pc := 54) hx hb hr (fun t ht hW => ⟨rfl, ⟨_, ⟨h0_key, h0_work, h0_generator, h0_generator_key, h0_generator_value, h0_generator_message, rfl⟩, by rw [ht]; exact hP, hD⟩, hS.F ht⟩) hS.2.2 (zdt_at zt_X6_init_0 28 rfl)
