set_option maxHeartbeats 4000000 in
set_option maxRecDepth 100000 in
theorem c_X7_begin (l : Launch) (D : va_G) (cy : Nat → ClassId) (tt : Nat → Nat) (sz : Nat) (h0 : Nat) (h0_sums : Nat) (h0_schedule : Nat) (h0_inner : Nat) (c_filled : Int32) (c_total : Int32) (c_sums : Nat → Int32) (c_filled' : Int32) (c_total' : Int32) (c_sums' : Nat → Int32) (hf : f_X7_begin c_filled c_total c_sums = some (c_filled', c_total', c_sums')) : Met l yX7_begin wsX7_begin ({ frames := 1, cells := 0, slots := 0, locals := 64 }) (zPc D cy tt sz [.ref h0] ([(h0, .inr (9, [.ref h0_sums, .ref h0_schedule, .ref h0_inner, .int c_filled, .int c_total])), (h0_sums, .inl (cy 1, 8, .inl c_sums))])) (zQ D none ([(h0, .inr (9, [.ref h0_sums, .ref h0_schedule, .ref h0_inner, .int c_filled', .int c_total'])), (h0_sums, .inl (cy 1, 8, .inl c_sums'))]) (va_A ([(h0, .inr (9, [.ref h0_sums, .ref h0_schedule, .ref h0_inner, .int c_filled, .int c_total])), (h0_sums, .inl (cy 1, 8, .inl c_sums))]) sz)) 0 0 (va_A ([(h0, .inr (9, [.ref h0_sums, .ref h0_schedule, .ref h0_inner, .int c_filled, .int c_total])), (h0_sums, .inl (cy 1, 8, .inl c_sums))]) sz) := by
  refine Met.ofW (cc := cX7_begin) (maxL := 1) (ret := none) (by decide) rfl ?_
  intro p e s m args below meth c s₁ B hml hv
  obtain ⟨rfl, rfl, hP, hD0, hE⟩ := hv
  have hx := B.exec
  have hb := B.bytes
  have hr := B.returns
  have hts := atoms_spec (ws := wsX7_begin) B.pre
  have hown : s.vm.findClass RX7 = some m.cls := findClass_of_methodNamed B.named
  have hlocks := B.notSynchronized
  clear B
  have hD := hD0.self (sz := s.heap.size)
  generalize hAe : va_A ([(h0, .inr (9, [.ref h0_sums, .ref h0_schedule, .ref h0_inner, .int c_filled, .int c_total])), (h0_sums, .inl (cy 1, 8, .inl c_sums))]) s.heap.size = A at hD hE ⊢
  have hA : ∀ q : Nat, s.heap.size ≤ q → A q := fun q h => by rw [← hAe]; exact Or.inr h
  clear hAe hD0
  have hS : va_S A s.heap s.heap [] := va_S.rf
  have hK := hE.1
  have hw0 := hts (.fieldLink RX7 29 "SealedModule$Sha256" "BEGINNING" "[I") (by decide +kernel)
  have hw1 := hts (.fieldLink RX7 9 "SealedModule$Sha256" "sums" "[I") (by decide +kernel)
  have hw2 := hts (.methodLink RX7 32 arraycopyName) (by decide +kernel)
  have hw3 := hts (.native arraycopyName) (by decide +kernel)
  have hw4 := hts (.static arraycopyName) (by decide +kernel)
  have hw5 := hts (.initialized "java/lang/System") (by decide +kernel)
  have hw6 := hts (.fieldLink RX7 22 "SealedModule$Sha256" "filled" "I") (by decide +kernel)
  have hw7 := hts (.fieldLink RX7 26 "SealedModule$Sha256" "total" "I") (by decide +kernel)
  have hcX7 : ∀ w ∈ u_ws RX7 TX7 5, w ∈ wsX7_begin := (fun _ h => List.mem_cons_of_mem _ (List.mem_append_right _ h))
  have hl := lv_entry ([.ref h0]) (n := 1) (Nat.le_of_ble_eq_true rfl)
  rw [lg_entry_eq]
  generalize (lg_sl ([.ref h0]) ++ List.replicate (1 - (lg_sl ([.ref h0])).length) Slot.unset).toArray = ls at hl ⊢
  replace hl : lv_has ls 1 [(0, .ref h0)] := hl
  unfold f_X7_begin at hf
  refine zgo (fun GW hTo hFr => ?_)
  refine hFr _ _ _ ?_
  obtain ⟨H, hHe⟩ : ∃ H, H = s.heap := ⟨_, rfl⟩
  obtain ⟨locs, hLe⟩ : ∃ L : List Loc, L = [] := ⟨_, rfl⟩
  rw [← hHe] at hP
  replace hS : va_S A s.heap H locs := by rw [hHe, hLe]; exact hS
  refine zat hHe.symm hLe.symm ?_
  clear hHe hLe
  refine va_gets (pc := 0) hx hb (gT_2 hE.2.2).1 hS hown hw0 (fun _ h9 => h9) (zdt_at zt_X7_begin_0 0 rfl) ?_
  refine lv_iconst (pc := 3) (v := (0 : Int32)) hx hb (zdt_at zt_X7_begin_0 1 rfl) (by decide) ?_
  refine lv_aload_n (pc := 4) hx hb (zdt_at zt_X7_begin_0 2 rfl) rfl (lv_at hl 0 rfl) ?_
  refine va_get (pc := 5) (D := D) (ci := 9) (v := .ref h0_sums) (C := RX7) (T := TX7) (N := 5) hx hb hts hcX7 hown hK hP 0 rfl rfl 0 (by decide) hw1 (fun _ h9 => h9) rfl (zdt_at zt_X7_begin_0 3 rfl) ?_
  refine lv_iconst (pc := 8) (v := (0 : Int32)) hx hb (zdt_at zt_X7_begin_0 4 rfl) (by decide) ?_
  refine lv_bipush (pc := 9) (v := (8 : Int32)) hx hb (zdt_at zt_X7_begin_0 5 rfl) (by decide) ?_
  replace hf := zk_s hf
  refine zcopyT (pc := 11) hx hb (hml.trans hl.1.symm) hown hw2 hw3 hw4 hw5 hK hP hD hS (gT_2 hE.2.2).2 1 1 (f := (fun j => tb_BEGINNING.getD j 0)) (fun _ => rfl) rfl rfl hf.1.1 hf.1.2.1 hf.1.2.2.1 hf.1.2.2.2.1 hf.1.2.2.2.2 (Nat.le_of_ble_eq_true rfl) (Nat.le_of_ble_eq_true rfl) (zdt_at zt_X7_begin_0 6 rfl) ?_
  replace hf := hf.2
  clear hP hD hS
  intro H locs hP hD hS
  obtain ⟨c_sums_1, e_⟩ : ∃ q : Nat → Int32, q = (va_cpy (fun j => tb_BEGINNING.getD j 0) c_sums (0 : Int32).toNatClampNeg (0 : Int32).toNatClampNeg (8 : Int32).toNatClampNeg) := ⟨_, rfl⟩
  replace hf := zn_s hf e_
  replace hP : va_P D vwCl ([(h0, .inr (9, [.ref h0_sums, .ref h0_schedule, .ref h0_inner, .int c_filled, .int c_total])), (h0_sums, .inl (cy 1, 8, .inl c_sums_1))]) H := by rw [e_]; exact hP
  replace hD : va_D A ([(h0, .inr (9, [.ref h0_sums, .ref h0_schedule, .ref h0_inner, .int c_filled, .int c_total])), (h0_sums, .inl (cy 1, 8, .inl c_sums_1))]) := by rw [e_]; exact hD
  clear e_
  refine lv_aload_n (pc := 14) hx hb (zdt_at zt_X7_begin_0 7 rfl) rfl (lv_at hl 0 rfl) ?_
  refine lv_iconst (pc := 15) (v := (0 : Int32)) hx hb (zdt_at zt_X7_begin_0 8 rfl) (by decide) ?_
  refine va_put (pc := 16) (D := D) (ci := 9) (v := .int (0 : Int32)) (ty := .int) (C := RX7) (T := TX7) (N := 5) hx hb hts hcX7 tyX7 tyX7_ok nmX7 hown hK hP hD hS 0 rfl rfl 3 (by decide) hw6 (fun _ h9 => h9) rfl (by decide +kernel) rfl rfl (Nat.le_of_ble_eq_true rfl) (zdt_at zt_X7_begin_0 9 rfl) ?_
  clear hP hD hS
  intro H locs hP hD hS
  replace hP : va_P D vwCl ([(h0, .inr (9, [.ref h0_sums, .ref h0_schedule, .ref h0_inner, .int (0 : Int32), .int c_total])), (h0_sums, .inl (cy 1, 8, .inl c_sums_1))]) H := hP
  replace hD : va_D A ([(h0, .inr (9, [.ref h0_sums, .ref h0_schedule, .ref h0_inner, .int (0 : Int32), .int c_total])), (h0_sums, .inl (cy 1, 8, .inl c_sums_1))]) := hD
  refine lv_aload_n (pc := 19) hx hb (zdt_at zt_X7_begin_0 10 rfl) rfl (lv_at hl 0 rfl) ?_
  refine lv_iconst (pc := 20) (v := (0 : Int32)) hx hb (zdt_at zt_X7_begin_0 11 rfl) (by decide) ?_
  refine va_put (pc := 21) (D := D) (ci := 9) (v := .int (0 : Int32)) (ty := .int) (C := RX7) (T := TX7) (N := 5) hx hb hts hcX7 tyX7 tyX7_ok nmX7 hown hK hP hD hS 0 rfl rfl 4 (by decide) hw7 (fun _ h9 => h9) rfl (by decide +kernel) rfl rfl (Nat.le_of_ble_eq_true rfl) (zdt_at zt_X7_begin_0 12 rfl) ?_
  clear hP hD hS
  intro H locs hP hD hS
  replace hP : va_P D vwCl ([(h0, .inr (9, [.ref h0_sums, .ref h0_schedule, .ref h0_inner, .int (0 : Int32), .int (0 : Int32)])), (h0_sums, .inl (cy 1, 8, .inl c_sums_1))]) H := hP
  replace hD : va_D A ([(h0, .inr (9, [.ref h0_sums, .ref h0_schedule, .ref h0_inner, .int (0 : Int32), .int (0 : Int32)])), (h0_sums, .inl (cy 1, 8, .inl c_sums_1))]) := hD
  cases hf
  exact W.vret (pc := 24) hx hb hr (fun t ht hW => ⟨rfl, ⟨by rw [ht]; exact hP, hD⟩, hS.F ht⟩) hS.2.2 (zdt_at zt_X7_begin_0 13 rfl)
set_option maxHeartbeats 4000000 in
set_option maxRecDepth 100000 in
theorem c_X7_copyFrom (l : Launch) (D : va_G) (cy : Nat → ClassId) (tt : Nat → Nat) (sz : Nat) (h0 : Nat) (h0_sums : Nat) (h0_schedule : Nat) (h0_inner : Nat) (ha1 : Nat) (ha1_sums : Nat) (ha1_schedule : Nat) (ha1_inner : Nat) (c_filled : Int32) (c_total : Int32) (c_schedule : Nat → Int32) (c_sums : Nat → Int32) (ca1_filled : Int32) (ca1_total : Int32) (ca1_schedule : Nat → Int32) (ca1_sums : Nat → Int32) (c_filled' : Int32) (c_total' : Int32) (c_schedule' : Nat → Int32) (c_sums' : Nat → Int32) (hf : f_X7_copyFrom c_filled c_total c_schedule c_sums ca1_filled ca1_total ca1_schedule ca1_sums = some (c_filled', c_total', c_schedule', c_sums')) : Met l yX7_copyFrom wsX7_copyFrom ({ frames := 1, cells := 0, slots := 0, locals := 64 }) (zPc D cy tt sz [.ref h0, .ref ha1] ([(h0, .inr (9, [.ref h0_sums, .ref h0_schedule, .ref h0_inner, .int c_filled, .int c_total])), (h0_schedule, .inl (cy 1, 64, .inl c_schedule)), (h0_sums, .inl (cy 1, 8, .inl c_sums)), (ha1, .inr (9, [.ref ha1_sums, .ref ha1_schedule, .ref ha1_inner, .int ca1_filled, .int ca1_total])), (ha1_schedule, .inl (cy 1, 64, .inl ca1_schedule)), (ha1_sums, .inl (cy 1, 8, .inl ca1_sums))])) (zQ D none ([(h0, .inr (9, [.ref h0_sums, .ref h0_schedule, .ref h0_inner, .int c_filled', .int c_total'])), (h0_schedule, .inl (cy 1, 64, .inl c_schedule')), (h0_sums, .inl (cy 1, 8, .inl c_sums')), (ha1, .inr (9, [.ref ha1_sums, .ref ha1_schedule, .ref ha1_inner, .int ca1_filled, .int ca1_total])), (ha1_schedule, .inl (cy 1, 64, .inl ca1_schedule)), (ha1_sums, .inl (cy 1, 8, .inl ca1_sums))]) (va_A ([(h0, .inr (9, [.ref h0_sums, .ref h0_schedule, .ref h0_inner, .int c_filled, .int c_total])), (h0_schedule, .inl (cy 1, 64, .inl c_schedule)), (h0_sums, .inl (cy 1, 8, .inl c_sums)), (ha1, .inr (9, [.ref ha1_sums, .ref ha1_schedule, .ref ha1_inner, .int ca1_filled, .int ca1_total])), (ha1_schedule, .inl (cy 1, 64, .inl ca1_schedule)), (ha1_sums, .inl (cy 1, 8, .inl ca1_sums))]) sz)) 0 0 (va_A ([(h0, .inr (9, [.ref h0_sums, .ref h0_schedule, .ref h0_inner, .int c_filled, .int c_total])), (h0_schedule, .inl (cy 1, 64, .inl c_schedule)), (h0_sums, .inl (cy 1, 8, .inl c_sums)), (ha1, .inr (9, [.ref ha1_sums, .ref ha1_schedule, .ref ha1_inner, .int ca1_filled, .int ca1_total])), (ha1_schedule, .inl (cy 1, 64, .inl ca1_schedule)), (ha1_sums, .inl (cy 1, 8, .inl ca1_sums))]) sz) := by
  refine Met.ofW (cc := cX7_copyFrom) (maxL := 2) (ret := none) (by decide) rfl ?_
  intro p e s m args below meth c s₁ B hml hv
  obtain ⟨rfl, rfl, hP, hD0, hE⟩ := hv
  have hx := B.exec
  have hb := B.bytes
  have hr := B.returns
  have hts := atoms_spec (ws := wsX7_copyFrom) B.pre
  have hown : s.vm.findClass RX7 = some m.cls := findClass_of_methodNamed B.named
  have hlocks := B.notSynchronized
  clear B
  have hD := hD0.self (sz := s.heap.size)
  generalize hAe : va_A ([(h0, .inr (9, [.ref h0_sums, .ref h0_schedule, .ref h0_inner, .int c_filled, .int c_total])), (h0_schedule, .inl (cy 1, 64, .inl c_schedule)), (h0_sums, .inl (cy 1, 8, .inl c_sums)), (ha1, .inr (9, [.ref ha1_sums, .ref ha1_schedule, .ref ha1_inner, .int ca1_filled, .int ca1_total])), (ha1_schedule, .inl (cy 1, 64, .inl ca1_schedule)), (ha1_sums, .inl (cy 1, 8, .inl ca1_sums))]) s.heap.size = A at hD hE ⊢
  have hA : ∀ q : Nat, s.heap.size ≤ q → A q := fun q h => by rw [← hAe]; exact Or.inr h
  clear hAe hD0
  have hS : va_S A s.heap s.heap [] := va_S.rf
  have hK := hE.1
  have hw0 := hts (.fieldLink RX7 9 "SealedModule$Sha256" "sums" "[I") (by decide +kernel)
  have hw1 := hts (.methodLink RX7 32 arraycopyName) (by decide +kernel)
  have hw2 := hts (.native arraycopyName) (by decide +kernel)
  have hw3 := hts (.static arraycopyName) (by decide +kernel)
  have hw4 := hts (.initialized "java/lang/System") (by decide +kernel)
  have hw5 := hts (.fieldLink RX7 15 "SealedModule$Sha256" "schedule" "[I") (by decide +kernel)
  have hw6 := hts (.fieldLink RX7 22 "SealedModule$Sha256" "filled" "I") (by decide +kernel)
  have hw7 := hts (.fieldLink RX7 26 "SealedModule$Sha256" "total" "I") (by decide +kernel)
  have hcX7 : ∀ w ∈ u_ws RX7 TX7 5, w ∈ wsX7_copyFrom := (fun _ h => List.mem_cons_of_mem _ (List.mem_append_right _ h))
  have hl := lv_entry ([.ref h0, .ref ha1]) (n := 2) (Nat.le_of_ble_eq_true rfl)
  rw [lg_entry_eq]
  generalize (lg_sl ([.ref h0, .ref ha1]) ++ List.replicate (2 - (lg_sl ([.ref h0, .ref ha1])).length) Slot.unset).toArray = ls at hl ⊢
  replace hl : lv_has ls 2 [(0, .ref h0), (1, .ref ha1)] := hl
  unfold f_X7_copyFrom at hf
  refine zgo (fun GW hTo hFr => ?_)
  refine hFr _ _ _ ?_
  obtain ⟨H, hHe⟩ : ∃ H, H = s.heap := ⟨_, rfl⟩
  obtain ⟨locs, hLe⟩ : ∃ L : List Loc, L = [] := ⟨_, rfl⟩
  rw [← hHe] at hP
  replace hS : va_S A s.heap H locs := by rw [hHe, hLe]; exact hS
  refine zat hHe.symm hLe.symm ?_
  clear hHe hLe
  refine lv_aload_n (pc := 0) hx hb (zdt_at zt_X7_copyFrom_0 0 rfl) rfl (lv_at hl 1 rfl) ?_
  refine va_get (pc := 1) (D := D) (ci := 9) (v := .ref ha1_sums) (C := RX7) (T := TX7) (N := 5) hx hb hts hcX7 hown hK hP 3 rfl rfl 0 (by decide) hw0 (fun _ h9 => h9) rfl (zdt_at zt_X7_copyFrom_0 1 rfl) ?_
  refine lv_iconst (pc := 4) (v := (0 : Int32)) hx hb (zdt_at zt_X7_copyFrom_0 2 rfl) (by decide) ?_
  refine lv_aload_n (pc := 5) hx hb (zdt_at zt_X7_copyFrom_0 3 rfl) rfl (lv_at hl 0 rfl) ?_
  refine va_get (pc := 6) (D := D) (ci := 9) (v := .ref h0_sums) (C := RX7) (T := TX7) (N := 5) hx hb hts hcX7 hown hK hP 0 rfl rfl 0 (by decide) hw0 (fun _ h9 => h9) rfl (zdt_at zt_X7_copyFrom_0 4 rfl) ?_
  refine lv_iconst (pc := 9) (v := (0 : Int32)) hx hb (zdt_at zt_X7_copyFrom_0 5 rfl) (by decide) ?_
  refine lv_bipush (pc := 10) (v := (8 : Int32)) hx hb (zdt_at zt_X7_copyFrom_0 6 rfl) (by decide) ?_
  replace hf := zk_s hf
  refine va_copyi (pc := 12) hx hb (hml.trans hl.1.symm) hown hw1 hw2 hw3 hw4 hK hP hD hS 5 2 1 1 rfl rfl rfl rfl rfl hf.1.1 hf.1.2.1 hf.1.2.2.1 hf.1.2.2.2.1 hf.1.2.2.2.2 (fun _ _ => rfl) (Nat.le_of_ble_eq_true rfl) (Nat.le_of_ble_eq_true rfl) (zdt_at zt_X7_copyFrom_0 7 rfl) ?_
  replace hf := hf.2
  clear hP hD hS
  intro H locs hP hD hS
  obtain ⟨c_sums_1, e_⟩ : ∃ q : Nat → Int32, q = (va_cpy ca1_sums c_sums (0 : Int32).toNatClampNeg (0 : Int32).toNatClampNeg (8 : Int32).toNatClampNeg) := ⟨_, rfl⟩
  replace hf := zn_s hf e_
  replace hP : va_P D vwCl ([(h0, .inr (9, [.ref h0_sums, .ref h0_schedule, .ref h0_inner, .int c_filled, .int c_total])), (h0_schedule, .inl (cy 1, 64, .inl c_schedule)), (h0_sums, .inl (cy 1, 8, .inl c_sums_1)), (ha1, .inr (9, [.ref ha1_sums, .ref ha1_schedule, .ref ha1_inner, .int ca1_filled, .int ca1_total])), (ha1_schedule, .inl (cy 1, 64, .inl ca1_schedule)), (ha1_sums, .inl (cy 1, 8, .inl ca1_sums))]) H := by rw [e_]; exact hP
  replace hD : va_D A ([(h0, .inr (9, [.ref h0_sums, .ref h0_schedule, .ref h0_inner, .int c_filled, .int c_total])), (h0_schedule, .inl (cy 1, 64, .inl c_schedule)), (h0_sums, .inl (cy 1, 8, .inl c_sums_1)), (ha1, .inr (9, [.ref ha1_sums, .ref ha1_schedule, .ref ha1_inner, .int ca1_filled, .int ca1_total])), (ha1_schedule, .inl (cy 1, 64, .inl ca1_schedule)), (ha1_sums, .inl (cy 1, 8, .inl ca1_sums))]) := by rw [e_]; exact hD
  clear e_
  refine lv_aload_n (pc := 15) hx hb (zdt_at zt_X7_copyFrom_0 8 rfl) rfl (lv_at hl 1 rfl) ?_
  refine va_get (pc := 16) (D := D) (ci := 9) (v := .ref ha1_schedule) (C := RX7) (T := TX7) (N := 5) hx hb hts hcX7 hown hK hP 3 rfl rfl 1 (by decide) hw5 (fun _ h9 => h9) rfl (zdt_at zt_X7_copyFrom_0 9 rfl) ?_
  refine lv_iconst (pc := 19) (v := (0 : Int32)) hx hb (zdt_at zt_X7_copyFrom_0 10 rfl) (by decide) ?_
  refine lv_aload_n (pc := 20) hx hb (zdt_at zt_X7_copyFrom_0 11 rfl) rfl (lv_at hl 0 rfl) ?_
  refine va_get (pc := 21) (D := D) (ci := 9) (v := .ref h0_schedule) (C := RX7) (T := TX7) (N := 5) hx hb hts hcX7 hown hK hP 0 rfl rfl 1 (by decide) hw5 (fun _ h9 => h9) rfl (zdt_at zt_X7_copyFrom_0 12 rfl) ?_
  refine lv_iconst (pc := 24) (v := (0 : Int32)) hx hb (zdt_at zt_X7_copyFrom_0 13 rfl) (by decide) ?_
  refine lv_bipush (pc := 25) (v := (16 : Int32)) hx hb (zdt_at zt_X7_copyFrom_0 14 rfl) (by decide) ?_
  replace hf := zk_s hf
  refine va_copyi (pc := 27) hx hb (hml.trans hl.1.symm) hown hw1 hw2 hw3 hw4 hK hP hD hS 4 1 1 1 rfl rfl rfl rfl rfl hf.1.1 hf.1.2.1 hf.1.2.2.1 hf.1.2.2.2.1 hf.1.2.2.2.2 (fun _ _ => rfl) (Nat.le_of_ble_eq_true rfl) (Nat.le_of_ble_eq_true rfl) (zdt_at zt_X7_copyFrom_0 15 rfl) ?_
  replace hf := hf.2
  clear hP hD hS
  intro H locs hP hD hS
  obtain ⟨c_schedule_2, e_⟩ : ∃ q : Nat → Int32, q = (va_cpy ca1_schedule c_schedule (0 : Int32).toNatClampNeg (0 : Int32).toNatClampNeg (16 : Int32).toNatClampNeg) := ⟨_, rfl⟩
  replace hf := zn_s hf e_
  replace hP : va_P D vwCl ([(h0, .inr (9, [.ref h0_sums, .ref h0_schedule, .ref h0_inner, .int c_filled, .int c_total])), (h0_schedule, .inl (cy 1, 64, .inl c_schedule_2)), (h0_sums, .inl (cy 1, 8, .inl c_sums_1)), (ha1, .inr (9, [.ref ha1_sums, .ref ha1_schedule, .ref ha1_inner, .int ca1_filled, .int ca1_total])), (ha1_schedule, .inl (cy 1, 64, .inl ca1_schedule)), (ha1_sums, .inl (cy 1, 8, .inl ca1_sums))]) H := by rw [e_]; exact hP
  replace hD : va_D A ([(h0, .inr (9, [.ref h0_sums, .ref h0_schedule, .ref h0_inner, .int c_filled, .int c_total])), (h0_schedule, .inl (cy 1, 64, .inl c_schedule_2)), (h0_sums, .inl (cy 1, 8, .inl c_sums_1)), (ha1, .inr (9, [.ref ha1_sums, .ref ha1_schedule, .ref ha1_inner, .int ca1_filled, .int ca1_total])), (ha1_schedule, .inl (cy 1, 64, .inl ca1_schedule)), (ha1_sums, .inl (cy 1, 8, .inl ca1_sums))]) := by rw [e_]; exact hD
  clear e_
  refine lv_aload_n (pc := 30) hx hb (zdt_at zt_X7_copyFrom_0 16 rfl) rfl (lv_at hl 0 rfl) ?_
  refine lv_aload_n (pc := 31) hx hb (zdt_at zt_X7_copyFrom_0 17 rfl) rfl (lv_at hl 1 rfl) ?_
  refine va_get (pc := 32) (D := D) (ci := 9) (v := .int ca1_filled) (C := RX7) (T := TX7) (N := 5) hx hb hts hcX7 hown hK hP 3 rfl rfl 3 (by decide) hw6 (fun _ h9 => h9) rfl (zdt_at zt_X7_copyFrom_0 18 rfl) ?_
  refine va_put (pc := 35) (D := D) (ci := 9) (v := .int ca1_filled) (ty := .int) (C := RX7) (T := TX7) (N := 5) hx hb hts hcX7 tyX7 tyX7_ok nmX7 hown hK hP hD hS 0 rfl rfl 3 (by decide) hw6 (fun _ h9 => h9) rfl (by decide +kernel) rfl rfl (Nat.le_of_ble_eq_true rfl) (zdt_at zt_X7_copyFrom_0 19 rfl) ?_
  clear hP hD hS
  intro H locs hP hD hS
  replace hP : va_P D vwCl ([(h0, .inr (9, [.ref h0_sums, .ref h0_schedule, .ref h0_inner, .int ca1_filled, .int c_total])), (h0_schedule, .inl (cy 1, 64, .inl c_schedule_2)), (h0_sums, .inl (cy 1, 8, .inl c_sums_1)), (ha1, .inr (9, [.ref ha1_sums, .ref ha1_schedule, .ref ha1_inner, .int ca1_filled, .int ca1_total])), (ha1_schedule, .inl (cy 1, 64, .inl ca1_schedule)), (ha1_sums, .inl (cy 1, 8, .inl ca1_sums))]) H := hP
  replace hD : va_D A ([(h0, .inr (9, [.ref h0_sums, .ref h0_schedule, .ref h0_inner, .int ca1_filled, .int c_total])), (h0_schedule, .inl (cy 1, 64, .inl c_schedule_2)), (h0_sums, .inl (cy 1, 8, .inl c_sums_1)), (ha1, .inr (9, [.ref ha1_sums, .ref ha1_schedule, .ref ha1_inner, .int ca1_filled, .int ca1_total])), (ha1_schedule, .inl (cy 1, 64, .inl ca1_schedule)), (ha1_sums, .inl (cy 1, 8, .inl ca1_sums))]) := hD
  refine lv_aload_n (pc := 38) hx hb (zdt_at zt_X7_copyFrom_0 20 rfl) rfl (lv_at hl 0 rfl) ?_
  refine lv_aload_n (pc := 39) hx hb (zdt_at zt_X7_copyFrom_0 21 rfl) rfl (lv_at hl 1 rfl) ?_
  refine va_get (pc := 40) (D := D) (ci := 9) (v := .int ca1_total) (C := RX7) (T := TX7) (N := 5) hx hb hts hcX7 hown hK hP 3 rfl rfl 4 (by decide) hw7 (fun _ h9 => h9) rfl (zdt_at zt_X7_copyFrom_0 22 rfl) ?_
  refine va_put (pc := 43) (D := D) (ci := 9) (v := .int ca1_total) (ty := .int) (C := RX7) (T := TX7) (N := 5) hx hb hts hcX7 tyX7 tyX7_ok nmX7 hown hK hP hD hS 0 rfl rfl 4 (by decide) hw7 (fun _ h9 => h9) rfl (by decide +kernel) rfl rfl (Nat.le_of_ble_eq_true rfl) (zdt_at zt_X7_copyFrom_0 23 rfl) ?_
  clear hP hD hS
  intro H locs hP hD hS
  replace hP : va_P D vwCl ([(h0, .inr (9, [.ref h0_sums, .ref h0_schedule, .ref h0_inner, .int ca1_filled, .int ca1_total])), (h0_schedule, .inl (cy 1, 64, .inl c_schedule_2)), (h0_sums, .inl (cy 1, 8, .inl c_sums_1)), (ha1, .inr (9, [.ref ha1_sums, .ref ha1_schedule, .ref ha1_inner, .int ca1_filled, .int ca1_total])), (ha1_schedule, .inl (cy 1, 64, .inl ca1_schedule)), (ha1_sums, .inl (cy 1, 8, .inl ca1_sums))]) H := hP
  replace hD : va_D A ([(h0, .inr (9, [.ref h0_sums, .ref h0_schedule, .ref h0_inner, .int ca1_filled, .int ca1_total])), (h0_schedule, .inl (cy 1, 64, .inl c_schedule_2)), (h0_sums, .inl (cy 1, 8, .inl c_sums_1)), (ha1, .inr (9, [.ref ha1_sums, .ref ha1_schedule, .ref ha1_inner, .int ca1_filled, .int ca1_total])), (ha1_schedule, .inl (cy 1, 64, .inl ca1_schedule)), (ha1_sums, .inl (cy 1, 8, .inl ca1_sums))]) := hD
  cases hf
  exact W.vret (pc := 46) hx hb hr (fun t ht hW => ⟨rfl, ⟨by rw [ht]; exact hP, hD⟩, hS.F ht⟩) hS.2.2 (zdt_at zt_X7_copyFrom_0 24 rfl)
set_option maxHeartbeats 4000000 in
set_option maxRecDepth 100000 in
theorem c_X7_compress (l : Launch) (D : va_G) (cy : Nat → ClassId) (tt : Nat → Nat) (sz : Nat) (h0 : Nat) (h0_sums : Nat) (h0_schedule : Nat) (h0_inner : Nat) (c_filled : Int32) (c_schedule : Nat → Int32) (c_sums : Nat → Int32) (c_total : Int32) (c_filled' : Int32) (c_schedule' : Nat → Int32) (c_sums' : Nat → Int32) (hf : f_X7_compress c_filled c_schedule c_sums = some (c_filled', c_schedule', c_sums')) : Met l yX7_compress wsX7_compress ({ frames := 0, cells := 0, slots := 0, locals := 0 }) (zPc D cy tt sz [.ref h0] ([(h0, .inr (9, [.ref h0_sums, .ref h0_schedule, .ref h0_inner, .int c_filled, .int c_total])), (h0_schedule, .inl (cy 1, 64, .inl c_schedule)), (h0_sums, .inl (cy 1, 8, .inl c_sums))])) (zQ D none ([(h0, .inr (9, [.ref h0_sums, .ref h0_schedule, .ref h0_inner, .int c_filled', .int c_total])), (h0_schedule, .inl (cy 1, 64, .inl c_schedule')), (h0_sums, .inl (cy 1, 8, .inl c_sums'))]) (va_A ([(h0, .inr (9, [.ref h0_sums, .ref h0_schedule, .ref h0_inner, .int c_filled, .int c_total])), (h0_schedule, .inl (cy 1, 64, .inl c_schedule)), (h0_sums, .inl (cy 1, 8, .inl c_sums))]) sz)) 0 0 (va_A ([(h0, .inr (9, [.ref h0_sums, .ref h0_schedule, .ref h0_inner, .int c_filled, .int c_total])), (h0_schedule, .inl (cy 1, 64, .inl c_schedule)), (h0_sums, .inl (cy 1, 8, .inl c_sums))]) sz) := by
  refine Met.ofW (cc := cX7_compress) (maxL := 13) (ret := none) (by decide) rfl ?_
  intro p e s m args below meth c s₁ B hml hv
  obtain ⟨rfl, rfl, hP, hD0, hE⟩ := hv
  have hx := B.exec
  have hb := B.bytes
  have hr := B.returns
  have hts := atoms_spec (ws := wsX7_compress) B.pre
  have hown : s.vm.findClass RX7 = some m.cls := findClass_of_methodNamed B.named
  have hlocks := B.notSynchronized
  clear B
  have hD := hD0.self (sz := s.heap.size)
  generalize hAe : va_A ([(h0, .inr (9, [.ref h0_sums, .ref h0_schedule, .ref h0_inner, .int c_filled, .int c_total])), (h0_schedule, .inl (cy 1, 64, .inl c_schedule)), (h0_sums, .inl (cy 1, 8, .inl c_sums))]) s.heap.size = A at hD hE ⊢
  have hA : ∀ q : Nat, s.heap.size ≤ q → A q := fun q h => by rw [← hAe]; exact Or.inr h
  clear hAe hD0
  have hS : va_S A s.heap s.heap [] := va_S.rf
  have hK := hE.1
  have hw0 := hts (.fieldLink RX7 9 "SealedModule$Sha256" "sums" "[I") (by decide +kernel)
  have hw1 := hts (.fieldLink RX7 22 "SealedModule$Sha256" "filled" "I") (by decide +kernel)
  have hw2 := hts (.fieldLink RX7 64 "SealedModule$Sha256" "CONSTANTS" "[I") (by decide +kernel)
  have hw3 := hts (.fieldLink RX7 15 "SealedModule$Sha256" "schedule" "[I") (by decide +kernel)
  have hcX7 : ∀ w ∈ u_ws RX7 TX7 5, w ∈ wsX7_compress := (fun _ h => List.mem_cons_of_mem _ (List.mem_append_right _ h))
  have hl := lv_entry ([.ref h0]) (n := 13) (Nat.le_of_ble_eq_true rfl)
  rw [lg_entry_eq]
  generalize (lg_sl ([.ref h0]) ++ List.replicate (13 - (lg_sl ([.ref h0])).length) Slot.unset).toArray = ls at hl ⊢
  replace hl : lv_has ls 13 [(0, .ref h0)] := hl
  unfold f_X7_compress at hf
  refine zgo (fun GW hTo hFr => ?_)
  refine hFr _ _ _ ?_
  obtain ⟨H, hHe⟩ : ∃ H, H = s.heap := ⟨_, rfl⟩
  obtain ⟨locs, hLe⟩ : ∃ L : List Loc, L = [] := ⟨_, rfl⟩
  rw [← hHe] at hP
  replace hS : va_S A s.heap H locs := by rw [hHe, hLe]; exact hS
  refine zat hHe.symm hLe.symm ?_
  clear hHe hLe
  refine lv_bipush (pc := 0) (v := (16 : Int32)) hx hb (zdt_at zt_X7_compress_0 0 rfl) (by decide) ?_
  refine lv_istore_n (pc := 2) (lv' := [(1, .int (16 : Int32)), (0, .ref h0)]) hx hb (zdt_at zt_X7_compress_0 1 rfl) rfl hl (by decide) rfl ?_
  clear hl
  intro ls hl
  replace hf := zj_s hf
  obtain ⟨K_4, eK_4, hf⟩ := hf
  have kK_4 : ∀ (c_schedule_3 : Nat → Int32) (H : Heap) (locs : List Loc) (ls : Array Slot), va_P D vwCl ([(h0, .inr (9, [.ref h0_sums, .ref h0_schedule, .ref h0_inner, .int c_filled, .int c_total])), (h0_schedule, .inl (cy 1, 64, .inl c_schedule_3)), (h0_sums, .inl (cy 1, 8, .inl c_sums))]) H → va_D A ([(h0, .inr (9, [.ref h0_sums, .ref h0_schedule, .ref h0_inner, .int c_filled, .int c_total])), (h0_schedule, .inl (cy 1, 64, .inl c_schedule_3)), (h0_sums, .inl (cy 1, 8, .inl c_sums))]) → va_S A s.heap H locs → lv_has ls 13 [(0, .ref h0)] → K_4 c_schedule_3 = some (c_filled', c_schedule', c_sums') → GW H locs (F0 m 116 ls []) := by
    clear hf hl hP hD hS
    intro c_schedule_3 H locs ls hP hD hS hl hf
    rw [eK_4] at hf
    clear eK_4
    refine hFr _ _ _ ?_
    refine lv_aload_n (pc := 116) hx hb (zdt_at zt_X7_compress_1 18 rfl) rfl (lv_at hl 0 rfl) ?_
    refine va_get (pc := 117) (D := D) (ci := 9) (v := .ref h0_sums) (C := RX7) (T := TX7) (N := 5) hx hb hts hcX7 hown hK hP 0 rfl rfl 0 (by decide) hw0 (fun _ h9 => h9) rfl (zdt_at zt_X7_compress_1 19 rfl) ?_
    refine lv_iconst (pc := 120) (v := (0 : Int32)) hx hb (zdt_at zt_X7_compress_1 20 rfl) (by decide) ?_
    replace hf := zk_s hf
    refine va_iald (pc := 121) hx hb hK hP 2 1 rfl rfl hf.1 (zdt_at zt_X7_compress_1 21 rfl) ?_
    replace hf := hf.2
    refine lv_topi (fun x_5 e_ => ?_)
    replace hf := zn_s hf e_
    clear e_
    refine lv_istore_n (pc := 122) (lv' := [(1, .int x_5), (0, .ref h0)]) hx hb (zdt_at zt_X7_compress_1 22 rfl) rfl hl (by decide) rfl ?_
    clear hl
    intro ls hl
    refine lv_aload_n (pc := 123) hx hb (zdt_at zt_X7_compress_1 23 rfl) rfl (lv_at hl 1 rfl) ?_
    refine va_get (pc := 124) (D := D) (ci := 9) (v := .ref h0_sums) (C := RX7) (T := TX7) (N := 5) hx hb hts hcX7 hown hK hP 0 rfl rfl 0 (by decide) hw0 (fun _ h9 => h9) rfl (zdt_at zt_X7_compress_1 24 rfl) ?_
    refine lv_iconst (pc := 127) (v := (1 : Int32)) hx hb (zdt_at zt_X7_compress_1 25 rfl) (by decide) ?_
    replace hf := zk_s hf
    refine va_iald (pc := 128) hx hb hK hP 2 1 rfl rfl hf.1 (zdt_at zt_X7_compress_1 26 rfl) ?_
    replace hf := hf.2
    refine lv_topi (fun x_6 e_ => ?_)
    replace hf := zn_s hf e_
    clear e_
    refine lv_istore_n (pc := 129) (lv' := [(2, .int x_6), (1, .int x_5), (0, .ref h0)]) hx hb (zdt_at zt_X7_compress_1 27 rfl) rfl hl (by decide) rfl ?_
    clear hl
    intro ls hl
    refine lv_aload_n (pc := 130) hx hb (zdt_at zt_X7_compress_1 28 rfl) rfl (lv_at hl 2 rfl) ?_
    refine va_get (pc := 131) (D := D) (ci := 9) (v := .ref h0_sums) (C := RX7) (T := TX7) (N := 5) hx hb hts hcX7 hown hK hP 0 rfl rfl 0 (by decide) hw0 (fun _ h9 => h9) rfl (zdt_at zt_X7_compress_1 29 rfl) ?_
    refine lv_iconst (pc := 134) (v := (2 : Int32)) hx hb (zdt_at zt_X7_compress_1 30 rfl) (by decide) ?_
    replace hf := zk_s hf
    refine va_iald (pc := 135) hx hb hK hP 2 1 rfl rfl hf.1 (zdt_at zt_X7_compress_1 31 rfl) ?_
    replace hf := hf.2
    refine lv_topi (fun x_7 e_ => ?_)
    replace hf := zn_s hf e_
    clear e_
    refine lv_istore_n (pc := 136) (lv' := [(3, .int x_7), (2, .int x_6), (1, .int x_5), (0, .ref h0)]) hx hb (zdt_at zt_X7_compress_1 32 rfl) rfl hl (by decide) rfl ?_
    clear hl
    intro ls hl
    refine lv_aload_n (pc := 137) hx hb (zdt_at zt_X7_compress_1 33 rfl) rfl (lv_at hl 3 rfl) ?_
    refine va_get (pc := 138) (D := D) (ci := 9) (v := .ref h0_sums) (C := RX7) (T := TX7) (N := 5) hx hb hts hcX7 hown hK hP 0 rfl rfl 0 (by decide) hw0 (fun _ h9 => h9) rfl (zdt_at zt_X7_compress_1 34 rfl) ?_
    refine lv_iconst (pc := 141) (v := (3 : Int32)) hx hb (zdt_at zt_X7_compress_1 35 rfl) (by decide) ?_
    replace hf := zk_s hf
    refine va_iald (pc := 142) hx hb hK hP 2 1 rfl rfl hf.1 (zdt_at zt_X7_compress_1 36 rfl) ?_
    replace hf := hf.2
    refine lv_topi (fun x_8 e_ => ?_)
    replace hf := zn_s hf e_
    clear e_
    refine lv_istore (pc := 143) (lv' := [(4, .int x_8), (3, .int x_7), (2, .int x_6), (1, .int x_5), (0, .ref h0)]) hx hb (zdt_at zt_X7_compress_1 37 rfl) hl (by decide) rfl ?_
    clear hl
    intro ls hl
    refine lv_aload_n (pc := 145) hx hb (zdt_at zt_X7_compress_1 38 rfl) rfl (lv_at hl 4 rfl) ?_
    refine va_get (pc := 146) (D := D) (ci := 9) (v := .ref h0_sums) (C := RX7) (T := TX7) (N := 5) hx hb hts hcX7 hown hK hP 0 rfl rfl 0 (by decide) hw0 (fun _ h9 => h9) rfl (zdt_at zt_X7_compress_1 39 rfl) ?_
    refine lv_iconst (pc := 149) (v := (4 : Int32)) hx hb (zdt_at zt_X7_compress_1 40 rfl) (by decide) ?_
    replace hf := zk_s hf
    refine va_iald (pc := 150) hx hb hK hP 2 1 rfl rfl hf.1 (zdt_at zt_X7_compress_1 41 rfl) ?_
    replace hf := hf.2
    refine lv_topi (fun x_9 e_ => ?_)
    replace hf := zn_s hf e_
    clear e_
    refine lv_istore (pc := 151) (lv' := [(5, .int x_9), (4, .int x_8), (3, .int x_7), (2, .int x_6), (1, .int x_5), (0, .ref h0)]) hx hb (zdt_at zt_X7_compress_1 42 rfl) hl (by decide) rfl ?_
    clear hl
    intro ls hl
    refine lv_aload_n (pc := 153) hx hb (zdt_at zt_X7_compress_1 43 rfl) rfl (lv_at hl 5 rfl) ?_
    refine va_get (pc := 154) (D := D) (ci := 9) (v := .ref h0_sums) (C := RX7) (T := TX7) (N := 5) hx hb hts hcX7 hown hK hP 0 rfl rfl 0 (by decide) hw0 (fun _ h9 => h9) rfl (zdt_at zt_X7_compress_1 44 rfl) ?_
    refine lv_iconst (pc := 157) (v := (5 : Int32)) hx hb (zdt_at zt_X7_compress_1 45 rfl) (by decide) ?_
    replace hf := zk_s hf
    refine va_iald (pc := 158) hx hb hK hP 2 1 rfl rfl hf.1 (zdt_at zt_X7_compress_1 46 rfl) ?_
    replace hf := hf.2
    refine lv_topi (fun x_10 e_ => ?_)
    replace hf := zn_s hf e_
    clear e_
    refine lv_istore (pc := 159) (lv' := [(6, .int x_10), (5, .int x_9), (4, .int x_8), (3, .int x_7), (2, .int x_6), (1, .int x_5), (0, .ref h0)]) hx hb (zdt_at zt_X7_compress_1 47 rfl) hl (by decide) rfl ?_
    clear hl
    intro ls hl
    refine lv_aload_n (pc := 161) hx hb (zdt_at zt_X7_compress_1 48 rfl) rfl (lv_at hl 6 rfl) ?_
    refine va_get (pc := 162) (D := D) (ci := 9) (v := .ref h0_sums) (C := RX7) (T := TX7) (N := 5) hx hb hts hcX7 hown hK hP 0 rfl rfl 0 (by decide) hw0 (fun _ h9 => h9) rfl (zdt_at zt_X7_compress_1 49 rfl) ?_
    refine lv_bipush (pc := 165) (v := (6 : Int32)) hx hb (zdt_at zt_X7_compress_1 50 rfl) (by decide) ?_
    replace hf := zk_s hf
    refine va_iald (pc := 167) hx hb hK hP 2 1 rfl rfl hf.1 (zdt_at zt_X7_compress_1 51 rfl) ?_
    replace hf := hf.2
    refine lv_topi (fun x_11 e_ => ?_)
    replace hf := zn_s hf e_
    clear e_
    refine lv_istore (pc := 168) (lv' := [(7, .int x_11), (6, .int x_10), (5, .int x_9), (4, .int x_8), (3, .int x_7), (2, .int x_6), (1, .int x_5), (0, .ref h0)]) hx hb (zdt_at zt_X7_compress_1 52 rfl) hl (by decide) rfl ?_
    clear hl
    intro ls hl
    refine lv_aload_n (pc := 170) hx hb (zdt_at zt_X7_compress_1 53 rfl) rfl (lv_at hl 7 rfl) ?_
    refine va_get (pc := 171) (D := D) (ci := 9) (v := .ref h0_sums) (C := RX7) (T := TX7) (N := 5) hx hb hts hcX7 hown hK hP 0 rfl rfl 0 (by decide) hw0 (fun _ h9 => h9) rfl (zdt_at zt_X7_compress_1 54 rfl) ?_
    refine lv_bipush (pc := 174) (v := (7 : Int32)) hx hb (zdt_at zt_X7_compress_1 55 rfl) (by decide) ?_
    replace hf := zk_s hf
    refine va_iald (pc := 176) hx hb hK hP 2 1 rfl rfl hf.1 (zdt_at zt_X7_compress_1 56 rfl) ?_
    replace hf := hf.2
    refine lv_topi (fun x_12 e_ => ?_)
    replace hf := zn_s hf e_
    clear e_
    refine lv_istore (pc := 177) (lv' := [(8, .int x_12), (7, .int x_11), (6, .int x_10), (5, .int x_9), (4, .int x_8), (3, .int x_7), (2, .int x_6), (1, .int x_5), (0, .ref h0)]) hx hb (zdt_at zt_X7_compress_1 57 rfl) hl (by decide) rfl ?_
    clear hl
    intro ls hl
    refine lv_iconst (pc := 179) (v := (0 : Int32)) hx hb (zdt_at zt_X7_compress_1 58 rfl) (by decide) ?_
    refine lv_istore (pc := 180) (lv' := [(9, .int (0 : Int32)), (8, .int x_12), (7, .int x_11), (6, .int x_10), (5, .int x_9), (4, .int x_8), (3, .int x_7), (2, .int x_6), (1, .int x_5), (0, .ref h0)]) hx hb (zdt_at zt_X7_compress_1 59 rfl) hl (by decide) rfl ?_
    clear hl
    intro ls hl
    replace hf := zj_s hf
    obtain ⟨K_30, eK_30, hf⟩ := hf
    have kK_30 : ∀ (v_22 : Int32) (v_23 : Int32) (v_24 : Int32) (v_25 : Int32) (v_26 : Int32) (v_27 : Int32) (v_28 : Int32) (v_29 : Int32) (H : Heap) (locs : List Loc) (ls : Array Slot), va_P D vwCl ([(h0, .inr (9, [.ref h0_sums, .ref h0_schedule, .ref h0_inner, .int c_filled, .int c_total])), (h0_schedule, .inl (cy 1, 64, .inl c_schedule_3)), (h0_sums, .inl (cy 1, 8, .inl c_sums))]) H → va_D A ([(h0, .inr (9, [.ref h0_sums, .ref h0_schedule, .ref h0_inner, .int c_filled, .int c_total])), (h0_schedule, .inl (cy 1, 64, .inl c_schedule_3)), (h0_sums, .inl (cy 1, 8, .inl c_sums))]) → va_S A s.heap H locs → lv_has ls 13 [(0, .ref h0), (1, .int v_22), (2, .int v_23), (3, .int v_24), (4, .int v_25), (5, .int v_26), (6, .int v_27), (7, .int v_28), (8, .int v_29)] → K_30 v_22 v_23 v_24 v_25 v_26 v_27 v_28 v_29 = some (c_filled', c_schedule', c_sums') → GW H locs (F0 m 346 ls []) := by
      clear hf hl hP hD hS
      intro v_22 v_23 v_24 v_25 v_26 v_27 v_28 v_29 H locs ls hP hD hS hl hf
      rw [eK_30] at hf
      clear eK_30
      refine hFr _ _ _ ?_
      refine lv_aload_n (pc := 346) hx hb (zdt_at zt_X7_compress_3 42 rfl) rfl (lv_at hl 0 rfl) ?_
      refine va_get (pc := 347) (D := D) (ci := 9) (v := .ref h0_sums) (C := RX7) (T := TX7) (N := 5) hx hb hts hcX7 hown hK hP 0 rfl rfl 0 (by decide) hw0 (fun _ h9 => h9) rfl (zdt_at zt_X7_compress_3 43 rfl) ?_
      refine lv_iconst (pc := 350) (v := (0 : Int32)) hx hb (zdt_at zt_X7_compress_3 44 rfl) (by decide) ?_
      refine lv_dup2_11 (pc := 351) hx hb (zdt_at zt_X7_compress_3 45 rfl) rfl rfl ?_
      replace hf := zk_s hf
      refine va_iald (pc := 352) hx hb hK hP 2 1 rfl rfl hf.1 (zdt_at zt_X7_compress_3 46 rfl) ?_
      replace hf := hf.2
      refine lv_iload_n (pc := 353) hx hb (zdt_at zt_X7_compress_3 47 rfl) rfl (lv_at hl 1 rfl) ?_
      refine lv_iadd (pc := 354) hx hb (zdt_at zt_X7_compress_3 48 rfl) ?_
      replace hf := zk_s hf
      refine va_iast (pc := 355) hx hb hK hP hD hS 2 1 rfl rfl hf.1 (zdt_at zt_X7_compress_3 49 rfl) ?_
      replace hf := hf.2
      clear hP hD hS
      intro H locs hP hD hS
      obtain ⟨c_sums_31, e_⟩ : ∃ q : Nat → Int32, q = (upd c_sums (0 : Int32).toNatClampNeg ((c_sums (0 : Int32).toNatClampNeg) + v_22)) := ⟨_, rfl⟩
      replace hf := zn_s hf e_
      replace hP : va_P D vwCl ([(h0, .inr (9, [.ref h0_sums, .ref h0_schedule, .ref h0_inner, .int c_filled, .int c_total])), (h0_schedule, .inl (cy 1, 64, .inl c_schedule_3)), (h0_sums, .inl (cy 1, 8, .inl c_sums_31))]) H := by rw [e_]; exact hP
      replace hD : va_D A ([(h0, .inr (9, [.ref h0_sums, .ref h0_schedule, .ref h0_inner, .int c_filled, .int c_total])), (h0_schedule, .inl (cy 1, 64, .inl c_schedule_3)), (h0_sums, .inl (cy 1, 8, .inl c_sums_31))]) := by rw [e_]; exact hD
      clear e_
      refine lv_aload_n (pc := 356) hx hb (zdt_at zt_X7_compress_3 50 rfl) rfl (lv_at hl 0 rfl) ?_
      refine va_get (pc := 357) (D := D) (ci := 9) (v := .ref h0_sums) (C := RX7) (T := TX7) (N := 5) hx hb hts hcX7 hown hK hP 0 rfl rfl 0 (by decide) hw0 (fun _ h9 => h9) rfl (zdt_at zt_X7_compress_3 51 rfl) ?_
      refine lv_iconst (pc := 360) (v := (1 : Int32)) hx hb (zdt_at zt_X7_compress_3 52 rfl) (by decide) ?_
      refine lv_dup2_11 (pc := 361) hx hb (zdt_at zt_X7_compress_3 53 rfl) rfl rfl ?_
      replace hf := zk_s hf
      refine va_iald (pc := 362) hx hb hK hP 2 1 rfl rfl hf.1 (zdt_at zt_X7_compress_3 54 rfl) ?_
      replace hf := hf.2
      refine lv_iload_n (pc := 363) hx hb (zdt_at zt_X7_compress_3 55 rfl) rfl (lv_at hl 2 rfl) ?_
      refine lv_iadd (pc := 364) hx hb (zdt_at zt_X7_compress_3 56 rfl) ?_
      replace hf := zk_s hf
      refine va_iast (pc := 365) hx hb hK hP hD hS 2 1 rfl rfl hf.1 (zdt_at zt_X7_compress_3 57 rfl) ?_
      replace hf := hf.2
      clear hP hD hS
      intro H locs hP hD hS
      obtain ⟨c_sums_32, e_⟩ : ∃ q : Nat → Int32, q = (upd c_sums_31 (1 : Int32).toNatClampNeg ((c_sums_31 (1 : Int32).toNatClampNeg) + v_23)) := ⟨_, rfl⟩
      replace hf := zn_s hf e_
      replace hP : va_P D vwCl ([(h0, .inr (9, [.ref h0_sums, .ref h0_schedule, .ref h0_inner, .int c_filled, .int c_total])), (h0_schedule, .inl (cy 1, 64, .inl c_schedule_3)), (h0_sums, .inl (cy 1, 8, .inl c_sums_32))]) H := by rw [e_]; exact hP
      replace hD : va_D A ([(h0, .inr (9, [.ref h0_sums, .ref h0_schedule, .ref h0_inner, .int c_filled, .int c_total])), (h0_schedule, .inl (cy 1, 64, .inl c_schedule_3)), (h0_sums, .inl (cy 1, 8, .inl c_sums_32))]) := by rw [e_]; exact hD
      clear e_
      refine lv_aload_n (pc := 366) hx hb (zdt_at zt_X7_compress_3 58 rfl) rfl (lv_at hl 0 rfl) ?_
      refine va_get (pc := 367) (D := D) (ci := 9) (v := .ref h0_sums) (C := RX7) (T := TX7) (N := 5) hx hb hts hcX7 hown hK hP 0 rfl rfl 0 (by decide) hw0 (fun _ h9 => h9) rfl (zdt_at zt_X7_compress_3 59 rfl) ?_
      refine lv_iconst (pc := 370) (v := (2 : Int32)) hx hb (zdt_at zt_X7_compress_3 60 rfl) (by decide) ?_
      refine lv_dup2_11 (pc := 371) hx hb (zdt_at zt_X7_compress_3 61 rfl) rfl rfl ?_
      replace hf := zk_s hf
      refine va_iald (pc := 372) hx hb hK hP 2 1 rfl rfl hf.1 (zdt_at zt_X7_compress_3 62 rfl) ?_
      replace hf := hf.2
      refine lv_iload_n (pc := 373) hx hb (zdt_at zt_X7_compress_3 63 rfl) rfl (lv_at hl 3 rfl) ?_
      refine lv_iadd (pc := 374) hx hb (zdt_at zt_X7_compress_4 0 rfl) ?_
      replace hf := zk_s hf
      refine va_iast (pc := 375) hx hb hK hP hD hS 2 1 rfl rfl hf.1 (zdt_at zt_X7_compress_4 1 rfl) ?_
      replace hf := hf.2
      clear hP hD hS
      intro H locs hP hD hS
      obtain ⟨c_sums_33, e_⟩ : ∃ q : Nat → Int32, q = (upd c_sums_32 (2 : Int32).toNatClampNeg ((c_sums_32 (2 : Int32).toNatClampNeg) + v_24)) := ⟨_, rfl⟩
      replace hf := zn_s hf e_
      replace hP : va_P D vwCl ([(h0, .inr (9, [.ref h0_sums, .ref h0_schedule, .ref h0_inner, .int c_filled, .int c_total])), (h0_schedule, .inl (cy 1, 64, .inl c_schedule_3)), (h0_sums, .inl (cy 1, 8, .inl c_sums_33))]) H := by rw [e_]; exact hP
      replace hD : va_D A ([(h0, .inr (9, [.ref h0_sums, .ref h0_schedule, .ref h0_inner, .int c_filled, .int c_total])), (h0_schedule, .inl (cy 1, 64, .inl c_schedule_3)), (h0_sums, .inl (cy 1, 8, .inl c_sums_33))]) := by rw [e_]; exact hD
      clear e_
      refine lv_aload_n (pc := 376) hx hb (zdt_at zt_X7_compress_4 2 rfl) rfl (lv_at hl 0 rfl) ?_
      refine va_get (pc := 377) (D := D) (ci := 9) (v := .ref h0_sums) (C := RX7) (T := TX7) (N := 5) hx hb hts hcX7 hown hK hP 0 rfl rfl 0 (by decide) hw0 (fun _ h9 => h9) rfl (zdt_at zt_X7_compress_4 3 rfl) ?_
      refine lv_iconst (pc := 380) (v := (3 : Int32)) hx hb (zdt_at zt_X7_compress_4 4 rfl) (by decide) ?_
      refine lv_dup2_11 (pc := 381) hx hb (zdt_at zt_X7_compress_4 5 rfl) rfl rfl ?_
      replace hf := zk_s hf
      refine va_iald (pc := 382) hx hb hK hP 2 1 rfl rfl hf.1 (zdt_at zt_X7_compress_4 6 rfl) ?_
      replace hf := hf.2
      refine lv_iload (pc := 383) hx hb (zdt_at zt_X7_compress_4 7 rfl) (lv_at hl 4 rfl) ?_
      refine lv_iadd (pc := 385) hx hb (zdt_at zt_X7_compress_4 8 rfl) ?_
      replace hf := zk_s hf
      refine va_iast (pc := 386) hx hb hK hP hD hS 2 1 rfl rfl hf.1 (zdt_at zt_X7_compress_4 9 rfl) ?_
      replace hf := hf.2
      clear hP hD hS
      intro H locs hP hD hS
      obtain ⟨c_sums_34, e_⟩ : ∃ q : Nat → Int32, q = (upd c_sums_33 (3 : Int32).toNatClampNeg ((c_sums_33 (3 : Int32).toNatClampNeg) + v_25)) := ⟨_, rfl⟩
      replace hf := zn_s hf e_
      replace hP : va_P D vwCl ([(h0, .inr (9, [.ref h0_sums, .ref h0_schedule, .ref h0_inner, .int c_filled, .int c_total])), (h0_schedule, .inl (cy 1, 64, .inl c_schedule_3)), (h0_sums, .inl (cy 1, 8, .inl c_sums_34))]) H := by rw [e_]; exact hP
      replace hD : va_D A ([(h0, .inr (9, [.ref h0_sums, .ref h0_schedule, .ref h0_inner, .int c_filled, .int c_total])), (h0_schedule, .inl (cy 1, 64, .inl c_schedule_3)), (h0_sums, .inl (cy 1, 8, .inl c_sums_34))]) := by rw [e_]; exact hD
      clear e_
      refine lv_aload_n (pc := 387) hx hb (zdt_at zt_X7_compress_4 10 rfl) rfl (lv_at hl 0 rfl) ?_
      refine va_get (pc := 388) (D := D) (ci := 9) (v := .ref h0_sums) (C := RX7) (T := TX7) (N := 5) hx hb hts hcX7 hown hK hP 0 rfl rfl 0 (by decide) hw0 (fun _ h9 => h9) rfl (zdt_at zt_X7_compress_4 11 rfl) ?_
      refine lv_iconst (pc := 391) (v := (4 : Int32)) hx hb (zdt_at zt_X7_compress_4 12 rfl) (by decide) ?_
      refine lv_dup2_11 (pc := 392) hx hb (zdt_at zt_X7_compress_4 13 rfl) rfl rfl ?_
      replace hf := zk_s hf
      refine va_iald (pc := 393) hx hb hK hP 2 1 rfl rfl hf.1 (zdt_at zt_X7_compress_4 14 rfl) ?_
      replace hf := hf.2
      refine lv_iload (pc := 394) hx hb (zdt_at zt_X7_compress_4 15 rfl) (lv_at hl 5 rfl) ?_
      refine lv_iadd (pc := 396) hx hb (zdt_at zt_X7_compress_4 16 rfl) ?_
      replace hf := zk_s hf
      refine va_iast (pc := 397) hx hb hK hP hD hS 2 1 rfl rfl hf.1 (zdt_at zt_X7_compress_4 17 rfl) ?_
      replace hf := hf.2
      clear hP hD hS
      intro H locs hP hD hS
      obtain ⟨c_sums_35, e_⟩ : ∃ q : Nat → Int32, q = (upd c_sums_34 (4 : Int32).toNatClampNeg ((c_sums_34 (4 : Int32).toNatClampNeg) + v_26)) := ⟨_, rfl⟩
      replace hf := zn_s hf e_
      replace hP : va_P D vwCl ([(h0, .inr (9, [.ref h0_sums, .ref h0_schedule, .ref h0_inner, .int c_filled, .int c_total])), (h0_schedule, .inl (cy 1, 64, .inl c_schedule_3)), (h0_sums, .inl (cy 1, 8, .inl c_sums_35))]) H := by rw [e_]; exact hP
      replace hD : va_D A ([(h0, .inr (9, [.ref h0_sums, .ref h0_schedule, .ref h0_inner, .int c_filled, .int c_total])), (h0_schedule, .inl (cy 1, 64, .inl c_schedule_3)), (h0_sums, .inl (cy 1, 8, .inl c_sums_35))]) := by rw [e_]; exact hD
      clear e_
      refine lv_aload_n (pc := 398) hx hb (zdt_at zt_X7_compress_4 18 rfl) rfl (lv_at hl 0 rfl) ?_
      refine va_get (pc := 399) (D := D) (ci := 9) (v := .ref h0_sums) (C := RX7) (T := TX7) (N := 5) hx hb hts hcX7 hown hK hP 0 rfl rfl 0 (by decide) hw0 (fun _ h9 => h9) rfl (zdt_at zt_X7_compress_4 19 rfl) ?_
      refine lv_iconst (pc := 402) (v := (5 : Int32)) hx hb (zdt_at zt_X7_compress_4 20 rfl) (by decide) ?_
      refine lv_dup2_11 (pc := 403) hx hb (zdt_at zt_X7_compress_4 21 rfl) rfl rfl ?_
      replace hf := zk_s hf
      refine va_iald (pc := 404) hx hb hK hP 2 1 rfl rfl hf.1 (zdt_at zt_X7_compress_4 22 rfl) ?_
      replace hf := hf.2
      refine lv_iload (pc := 405) hx hb (zdt_at zt_X7_compress_4 23 rfl) (lv_at hl 6 rfl) ?_
      refine lv_iadd (pc := 407) hx hb (zdt_at zt_X7_compress_4 24 rfl) ?_
      replace hf := zk_s hf
      refine va_iast (pc := 408) hx hb hK hP hD hS 2 1 rfl rfl hf.1 (zdt_at zt_X7_compress_4 25 rfl) ?_
      replace hf := hf.2
      clear hP hD hS
      intro H locs hP hD hS
      obtain ⟨c_sums_36, e_⟩ : ∃ q : Nat → Int32, q = (upd c_sums_35 (5 : Int32).toNatClampNeg ((c_sums_35 (5 : Int32).toNatClampNeg) + v_27)) := ⟨_, rfl⟩
      replace hf := zn_s hf e_
      replace hP : va_P D vwCl ([(h0, .inr (9, [.ref h0_sums, .ref h0_schedule, .ref h0_inner, .int c_filled, .int c_total])), (h0_schedule, .inl (cy 1, 64, .inl c_schedule_3)), (h0_sums, .inl (cy 1, 8, .inl c_sums_36))]) H := by rw [e_]; exact hP
      replace hD : va_D A ([(h0, .inr (9, [.ref h0_sums, .ref h0_schedule, .ref h0_inner, .int c_filled, .int c_total])), (h0_schedule, .inl (cy 1, 64, .inl c_schedule_3)), (h0_sums, .inl (cy 1, 8, .inl c_sums_36))]) := by rw [e_]; exact hD
      clear e_
      refine lv_aload_n (pc := 409) hx hb (zdt_at zt_X7_compress_4 26 rfl) rfl (lv_at hl 0 rfl) ?_
      refine va_get (pc := 410) (D := D) (ci := 9) (v := .ref h0_sums) (C := RX7) (T := TX7) (N := 5) hx hb hts hcX7 hown hK hP 0 rfl rfl 0 (by decide) hw0 (fun _ h9 => h9) rfl (zdt_at zt_X7_compress_4 27 rfl) ?_
      refine lv_bipush (pc := 413) (v := (6 : Int32)) hx hb (zdt_at zt_X7_compress_4 28 rfl) (by decide) ?_
      refine lv_dup2_11 (pc := 415) hx hb (zdt_at zt_X7_compress_4 29 rfl) rfl rfl ?_
      replace hf := zk_s hf
      refine va_iald (pc := 416) hx hb hK hP 2 1 rfl rfl hf.1 (zdt_at zt_X7_compress_4 30 rfl) ?_
      replace hf := hf.2
      refine lv_iload (pc := 417) hx hb (zdt_at zt_X7_compress_4 31 rfl) (lv_at hl 7 rfl) ?_
      refine lv_iadd (pc := 419) hx hb (zdt_at zt_X7_compress_4 32 rfl) ?_
      replace hf := zk_s hf
      refine va_iast (pc := 420) hx hb hK hP hD hS 2 1 rfl rfl hf.1 (zdt_at zt_X7_compress_4 33 rfl) ?_
      replace hf := hf.2
      clear hP hD hS
      intro H locs hP hD hS
      obtain ⟨c_sums_37, e_⟩ : ∃ q : Nat → Int32, q = (upd c_sums_36 (6 : Int32).toNatClampNeg ((c_sums_36 (6 : Int32).toNatClampNeg) + v_28)) := ⟨_, rfl⟩
      replace hf := zn_s hf e_
      replace hP : va_P D vwCl ([(h0, .inr (9, [.ref h0_sums, .ref h0_schedule, .ref h0_inner, .int c_filled, .int c_total])), (h0_schedule, .inl (cy 1, 64, .inl c_schedule_3)), (h0_sums, .inl (cy 1, 8, .inl c_sums_37))]) H := by rw [e_]; exact hP
      replace hD : va_D A ([(h0, .inr (9, [.ref h0_sums, .ref h0_schedule, .ref h0_inner, .int c_filled, .int c_total])), (h0_schedule, .inl (cy 1, 64, .inl c_schedule_3)), (h0_sums, .inl (cy 1, 8, .inl c_sums_37))]) := by rw [e_]; exact hD
      clear e_
      refine lv_aload_n (pc := 421) hx hb (zdt_at zt_X7_compress_4 34 rfl) rfl (lv_at hl 0 rfl) ?_
      refine va_get (pc := 422) (D := D) (ci := 9) (v := .ref h0_sums) (C := RX7) (T := TX7) (N := 5) hx hb hts hcX7 hown hK hP 0 rfl rfl 0 (by decide) hw0 (fun _ h9 => h9) rfl (zdt_at zt_X7_compress_4 35 rfl) ?_
      refine lv_bipush (pc := 425) (v := (7 : Int32)) hx hb (zdt_at zt_X7_compress_4 36 rfl) (by decide) ?_
      refine lv_dup2_11 (pc := 427) hx hb (zdt_at zt_X7_compress_4 37 rfl) rfl rfl ?_
      replace hf := zk_s hf
      refine va_iald (pc := 428) hx hb hK hP 2 1 rfl rfl hf.1 (zdt_at zt_X7_compress_4 38 rfl) ?_
      replace hf := hf.2
      refine lv_iload (pc := 429) hx hb (zdt_at zt_X7_compress_4 39 rfl) (lv_at hl 8 rfl) ?_
      refine lv_iadd (pc := 431) hx hb (zdt_at zt_X7_compress_4 40 rfl) ?_
      replace hf := zk_s hf
      refine va_iast (pc := 432) hx hb hK hP hD hS 2 1 rfl rfl hf.1 (zdt_at zt_X7_compress_4 41 rfl) ?_
      replace hf := hf.2
      clear hP hD hS
      intro H locs hP hD hS
      obtain ⟨c_sums_38, e_⟩ : ∃ q : Nat → Int32, q = (upd c_sums_37 (7 : Int32).toNatClampNeg ((c_sums_37 (7 : Int32).toNatClampNeg) + v_29)) := ⟨_, rfl⟩
      replace hf := zn_s hf e_
      replace hP : va_P D vwCl ([(h0, .inr (9, [.ref h0_sums, .ref h0_schedule, .ref h0_inner, .int c_filled, .int c_total])), (h0_schedule, .inl (cy 1, 64, .inl c_schedule_3)), (h0_sums, .inl (cy 1, 8, .inl c_sums_38))]) H := by rw [e_]; exact hP
      replace hD : va_D A ([(h0, .inr (9, [.ref h0_sums, .ref h0_schedule, .ref h0_inner, .int c_filled, .int c_total])), (h0_schedule, .inl (cy 1, 64, .inl c_schedule_3)), (h0_sums, .inl (cy 1, 8, .inl c_sums_38))]) := by rw [e_]; exact hD
      clear e_
      refine lv_aload_n (pc := 433) hx hb (zdt_at zt_X7_compress_4 42 rfl) rfl (lv_at hl 0 rfl) ?_
      refine lv_iconst (pc := 434) (v := (0 : Int32)) hx hb (zdt_at zt_X7_compress_4 43 rfl) (by decide) ?_
      refine va_put (pc := 435) (D := D) (ci := 9) (v := .int (0 : Int32)) (ty := .int) (C := RX7) (T := TX7) (N := 5) hx hb hts hcX7 tyX7 tyX7_ok nmX7 hown hK hP hD hS 0 rfl rfl 3 (by decide) hw1 (fun _ h9 => h9) rfl (by decide +kernel) rfl rfl (Nat.le_of_ble_eq_true rfl) (zdt_at zt_X7_compress_4 44 rfl) ?_
      clear hP hD hS
      intro H locs hP hD hS
      replace hP : va_P D vwCl ([(h0, .inr (9, [.ref h0_sums, .ref h0_schedule, .ref h0_inner, .int (0 : Int32), .int c_total])), (h0_schedule, .inl (cy 1, 64, .inl c_schedule_3)), (h0_sums, .inl (cy 1, 8, .inl c_sums_38))]) H := hP
      replace hD : va_D A ([(h0, .inr (9, [.ref h0_sums, .ref h0_schedule, .ref h0_inner, .int (0 : Int32), .int c_total])), (h0_schedule, .inl (cy 1, 64, .inl c_schedule_3)), (h0_sums, .inl (cy 1, 8, .inl c_sums_38))]) := hD
      cases hf
      exact W.vret (pc := 438) hx hb hr (fun t ht hW => ⟨rfl, ⟨by rw [ht]; exact hP, hD⟩, hS.F ht⟩) hS.2.2 (zdt_at zt_X7_compress_4 45 rfl)
    clear eK_30
    refine hTo _ _ _ (zl_go (fun z => match z with | (i_13, i_14, i_15, i_16, i_17, i_18, i_19, i_20, i_21) => ∀ (H : Heap) (locs : List Loc) (ls : Array Slot), va_P D vwCl ([(h0, .inr (9, [.ref h0_sums, .ref h0_schedule, .ref h0_inner, .int c_filled, .int c_total])), (h0_schedule, .inl (cy 1, 64, .inl c_schedule_3)), (h0_sums, .inl (cy 1, 8, .inl c_sums))]) H → va_D A ([(h0, .inr (9, [.ref h0_sums, .ref h0_schedule, .ref h0_inner, .int c_filled, .int c_total])), (h0_schedule, .inl (cy 1, 64, .inl c_schedule_3)), (h0_sums, .inl (cy 1, 8, .inl c_sums))]) → va_S A s.heap H locs → lv_has ls 13 [(0, .ref h0), (1, .int i_13), (2, .int i_14), (3, .int i_15), (4, .int i_16), (5, .int i_17), (6, .int i_18), (7, .int i_19), (8, .int i_20), (9, .int i_21)] → GW H locs (F0 m 182 ls [])) hf ?_ H locs ls hP hD hS (lv_sub hl [9, 8, 7, 6, 5, 4, 3, 2, 1, 0] rfl))
    clear hf hl hP hD hS
    intro self_39 ihself_39 z hf
    obtain ⟨i_13, i_14, i_15, i_16, i_17, i_18, i_19, i_20, i_21⟩ := z
    intro H locs ls hP hD hS hl
    refine hFr _ _ _ ?_
    unfold b_X7_compress_182 at hf
    refine lv_iload (pc := 182) hx hb (zdt_at zt_X7_compress_1 60 rfl) (lv_at hl 9 rfl) ?_
    refine lv_bipush (pc := 184) (v := (64 : Int32)) hx hb (zdt_at zt_X7_compress_1 61 rfl) (by decide) ?_
    refine lv_icmp_ge (pc := 186) (tgt := 346) hx hb (zdt_at zt_X7_compress_1 62 rfl) (by decide) (fun cn_ => ?t_40) (fun cn_ => ?f_41)
    case t_40 =>
      replace hf := zt_s cn_ hf
      clear cn_
      exact hTo _ _ _ (kK_30 _ _ _ _ _ _ _ _ H locs ls hP hD hS (lv_sub hl [0, 1, 2, 3, 4, 5, 6, 7, 8] rfl) hf)
    replace hf := ze_s cn_ hf
    clear cn_
    refine lv_iload (pc := 189) hx hb (zdt_at zt_X7_compress_1 63 rfl) (lv_at hl 5 rfl) ?_
    refine lv_bipush (pc := 191) (v := (6 : Int32)) hx hb (zdt_at zt_X7_compress_2 0 rfl) (by decide) ?_
    refine lv_iushr (pc := 193) hx hb (zdt_at zt_X7_compress_2 1 rfl) rfl ?_
    refine lv_iload (pc := 194) hx hb (zdt_at zt_X7_compress_2 2 rfl) (lv_at hl 5 rfl) ?_
    refine lv_bipush (pc := 196) (v := (26 : Int32)) hx hb (zdt_at zt_X7_compress_2 3 rfl) (by decide) ?_
    refine lv_ishl (pc := 198) hx hb (zdt_at zt_X7_compress_2 4 rfl) ?_
    refine lv_ior (pc := 199) hx hb (zdt_at zt_X7_compress_2 5 rfl) ?_
    refine lv_iload (pc := 200) hx hb (zdt_at zt_X7_compress_2 6 rfl) (lv_at hl 5 rfl) ?_
    refine lv_bipush (pc := 202) (v := (11 : Int32)) hx hb (zdt_at zt_X7_compress_2 7 rfl) (by decide) ?_
    refine lv_iushr (pc := 204) hx hb (zdt_at zt_X7_compress_2 8 rfl) rfl ?_
    refine lv_iload (pc := 205) hx hb (zdt_at zt_X7_compress_2 9 rfl) (lv_at hl 5 rfl) ?_
    refine lv_bipush (pc := 207) (v := (21 : Int32)) hx hb (zdt_at zt_X7_compress_2 10 rfl) (by decide) ?_
    refine lv_ishl (pc := 209) hx hb (zdt_at zt_X7_compress_2 11 rfl) ?_
    refine lv_ior (pc := 210) hx hb (zdt_at zt_X7_compress_2 12 rfl) ?_
    refine lv_ixor (pc := 211) hx hb (zdt_at zt_X7_compress_2 13 rfl) ?_
    refine lv_iload (pc := 212) hx hb (zdt_at zt_X7_compress_2 14 rfl) (lv_at hl 5 rfl) ?_
    refine lv_bipush (pc := 214) (v := (25 : Int32)) hx hb (zdt_at zt_X7_compress_2 15 rfl) (by decide) ?_
    refine lv_iushr (pc := 216) hx hb (zdt_at zt_X7_compress_2 16 rfl) rfl ?_
    refine lv_iload (pc := 217) hx hb (zdt_at zt_X7_compress_2 17 rfl) (lv_at hl 5 rfl) ?_
    refine lv_bipush (pc := 219) (v := (7 : Int32)) hx hb (zdt_at zt_X7_compress_2 18 rfl) (by decide) ?_
    refine lv_ishl (pc := 221) hx hb (zdt_at zt_X7_compress_2 19 rfl) ?_
    refine lv_ior (pc := 222) hx hb (zdt_at zt_X7_compress_2 20 rfl) ?_
    refine lv_ixor (pc := 223) hx hb (zdt_at zt_X7_compress_2 21 rfl) ?_
    refine lv_topi (fun x_42 e_ => ?_)
    replace hf := zn_s hf e_
    clear e_
    refine lv_istore (pc := 224) (lv' := [(10, .int x_42), (0, .ref h0), (1, .int i_13), (2, .int i_14), (3, .int i_15), (4, .int i_16), (5, .int i_17), (6, .int i_18), (7, .int i_19), (8, .int i_20), (9, .int i_21)]) hx hb (zdt_at zt_X7_compress_2 22 rfl) hl (by decide) rfl ?_
    clear hl
    intro ls hl
    refine lv_iload (pc := 226) hx hb (zdt_at zt_X7_compress_2 23 rfl) (lv_at hl 9 rfl) ?_
    refine lv_iload (pc := 228) hx hb (zdt_at zt_X7_compress_2 24 rfl) (lv_at hl 0 rfl) ?_
    refine lv_iadd (pc := 230) hx hb (zdt_at zt_X7_compress_2 25 rfl) ?_
    refine lv_iload (pc := 231) hx hb (zdt_at zt_X7_compress_2 26 rfl) (lv_at hl 6 rfl) ?_
    refine lv_iload (pc := 233) hx hb (zdt_at zt_X7_compress_2 27 rfl) (lv_at hl 7 rfl) ?_
    refine lv_iand (pc := 235) hx hb (zdt_at zt_X7_compress_2 28 rfl) ?_
    refine lv_iload (pc := 236) hx hb (zdt_at zt_X7_compress_2 29 rfl) (lv_at hl 6 rfl) ?_
    refine lv_iconst (pc := 238) (v := (-1 : Int32)) hx hb (zdt_at zt_X7_compress_2 30 rfl) (by decide) ?_
    refine lv_ixor (pc := 239) hx hb (zdt_at zt_X7_compress_2 31 rfl) ?_
    refine lv_iload (pc := 240) hx hb (zdt_at zt_X7_compress_2 32 rfl) (lv_at hl 8 rfl) ?_
    refine lv_iand (pc := 242) hx hb (zdt_at zt_X7_compress_2 33 rfl) ?_
    refine lv_ixor (pc := 243) hx hb (zdt_at zt_X7_compress_2 34 rfl) ?_
    refine lv_iadd (pc := 244) hx hb (zdt_at zt_X7_compress_2 35 rfl) ?_
    refine va_gets (pc := 245) hx hb (gT_3 hE.2.2).1 hS hown hw2 (fun _ h9 => h9) (zdt_at zt_X7_compress_2 36 rfl) ?_
    refine lv_iload (pc := 248) hx hb (zdt_at zt_X7_compress_2 37 rfl) (lv_at hl 10 rfl) ?_
    replace hf := zk_s hf
    refine va_ti (pc := 250) hx hb (gT_3 hE.2.2).2 hS hf.1 (v := .int (tb_CONSTANTS.getD i_21.toNatClampNeg 0)) rfl (zdt_at zt_X7_compress_2 38 rfl) ?_
    replace hf := hf.2
    refine lv_iadd (pc := 251) hx hb (zdt_at zt_X7_compress_2 39 rfl) ?_
    refine lv_aload_n (pc := 252) hx hb (zdt_at zt_X7_compress_2 40 rfl) rfl (lv_at hl 1 rfl) ?_
    refine va_get (pc := 253) (D := D) (ci := 9) (v := .ref h0_schedule) (C := RX7) (T := TX7) (N := 5) hx hb hts hcX7 hown hK hP 0 rfl rfl 1 (by decide) hw3 (fun _ h9 => h9) rfl (zdt_at zt_X7_compress_2 41 rfl) ?_
    refine lv_iload (pc := 256) hx hb (zdt_at zt_X7_compress_2 42 rfl) (lv_at hl 10 rfl) ?_
    replace hf := zk_s hf
    refine va_iald (pc := 258) hx hb hK hP 1 1 rfl rfl hf.1 (zdt_at zt_X7_compress_2 43 rfl) ?_
    replace hf := hf.2
    refine lv_iadd (pc := 259) hx hb (zdt_at zt_X7_compress_2 44 rfl) ?_
    refine lv_topi (fun x_43 e_ => ?_)
    replace hf := zn_s hf e_
    clear e_
    refine lv_istore (pc := 260) (lv' := [(11, .int x_43), (10, .int x_42), (0, .ref h0), (1, .int i_13), (2, .int i_14), (3, .int i_15), (4, .int i_16), (5, .int i_17), (6, .int i_18), (7, .int i_19), (8, .int i_20), (9, .int i_21)]) hx hb (zdt_at zt_X7_compress_2 45 rfl) hl (by decide) rfl ?_
    clear hl
    intro ls hl
    refine lv_iload_n (pc := 262) hx hb (zdt_at zt_X7_compress_2 46 rfl) rfl (lv_at hl 3 rfl) ?_
    refine lv_iconst (pc := 263) (v := (2 : Int32)) hx hb (zdt_at zt_X7_compress_2 47 rfl) (by decide) ?_
    refine lv_iushr (pc := 264) hx hb (zdt_at zt_X7_compress_2 48 rfl) rfl ?_
    refine lv_iload_n (pc := 265) hx hb (zdt_at zt_X7_compress_2 49 rfl) rfl (lv_at hl 3 rfl) ?_
    refine lv_bipush (pc := 266) (v := (30 : Int32)) hx hb (zdt_at zt_X7_compress_2 50 rfl) (by decide) ?_
    refine lv_ishl (pc := 268) hx hb (zdt_at zt_X7_compress_2 51 rfl) ?_
    refine lv_ior (pc := 269) hx hb (zdt_at zt_X7_compress_2 52 rfl) ?_
    refine lv_iload_n (pc := 270) hx hb (zdt_at zt_X7_compress_2 53 rfl) rfl (lv_at hl 3 rfl) ?_
    refine lv_bipush (pc := 271) (v := (13 : Int32)) hx hb (zdt_at zt_X7_compress_2 54 rfl) (by decide) ?_
    refine lv_iushr (pc := 273) hx hb (zdt_at zt_X7_compress_2 55 rfl) rfl ?_
    refine lv_iload_n (pc := 274) hx hb (zdt_at zt_X7_compress_2 56 rfl) rfl (lv_at hl 3 rfl) ?_
    refine lv_bipush (pc := 275) (v := (19 : Int32)) hx hb (zdt_at zt_X7_compress_2 57 rfl) (by decide) ?_
    refine lv_ishl (pc := 277) hx hb (zdt_at zt_X7_compress_2 58 rfl) ?_
    refine lv_ior (pc := 278) hx hb (zdt_at zt_X7_compress_2 59 rfl) ?_
    refine lv_ixor (pc := 279) hx hb (zdt_at zt_X7_compress_2 60 rfl) ?_
    refine lv_iload_n (pc := 280) hx hb (zdt_at zt_X7_compress_2 61 rfl) rfl (lv_at hl 3 rfl) ?_
    refine lv_bipush (pc := 281) (v := (22 : Int32)) hx hb (zdt_at zt_X7_compress_2 62 rfl) (by decide) ?_
    refine lv_iushr (pc := 283) hx hb (zdt_at zt_X7_compress_2 63 rfl) rfl ?_
    refine lv_iload_n (pc := 284) hx hb (zdt_at zt_X7_compress_3 0 rfl) rfl (lv_at hl 3 rfl) ?_
    refine lv_bipush (pc := 285) (v := (10 : Int32)) hx hb (zdt_at zt_X7_compress_3 1 rfl) (by decide) ?_
    refine lv_ishl (pc := 287) hx hb (zdt_at zt_X7_compress_3 2 rfl) ?_
    refine lv_ior (pc := 288) hx hb (zdt_at zt_X7_compress_3 3 rfl) ?_
    refine lv_ixor (pc := 289) hx hb (zdt_at zt_X7_compress_3 4 rfl) ?_
    refine lv_topi (fun x_44 e_ => ?_)
    replace hf := zn_s hf e_
    clear e_
    refine lv_istore (pc := 290) (lv' := [(10, .int x_44), (11, .int x_43), (0, .ref h0), (1, .int i_13), (2, .int i_14), (3, .int i_15), (4, .int i_16), (5, .int i_17), (6, .int i_18), (7, .int i_19), (8, .int i_20), (9, .int i_21)]) hx hb (zdt_at zt_X7_compress_3 5 rfl) hl (by decide) rfl ?_
    clear hl
    intro ls hl
    refine lv_iload (pc := 292) hx hb (zdt_at zt_X7_compress_3 6 rfl) (lv_at hl 0 rfl) ?_
    refine lv_iload_n (pc := 294) hx hb (zdt_at zt_X7_compress_3 7 rfl) rfl (lv_at hl 3 rfl) ?_
    refine lv_iload_n (pc := 295) hx hb (zdt_at zt_X7_compress_3 8 rfl) rfl (lv_at hl 4 rfl) ?_
    refine lv_iand (pc := 296) hx hb (zdt_at zt_X7_compress_3 9 rfl) ?_
    refine lv_iload_n (pc := 297) hx hb (zdt_at zt_X7_compress_3 10 rfl) rfl (lv_at hl 3 rfl) ?_
    refine lv_iload_n (pc := 298) hx hb (zdt_at zt_X7_compress_3 11 rfl) rfl (lv_at hl 5 rfl) ?_
    refine lv_iand (pc := 299) hx hb (zdt_at zt_X7_compress_3 12 rfl) ?_
    refine lv_ixor (pc := 300) hx hb (zdt_at zt_X7_compress_3 13 rfl) ?_
    refine lv_iload_n (pc := 301) hx hb (zdt_at zt_X7_compress_3 14 rfl) rfl (lv_at hl 4 rfl) ?_
    refine lv_iload_n (pc := 302) hx hb (zdt_at zt_X7_compress_3 15 rfl) rfl (lv_at hl 5 rfl) ?_
    refine lv_iand (pc := 303) hx hb (zdt_at zt_X7_compress_3 16 rfl) ?_
    refine lv_ixor (pc := 304) hx hb (zdt_at zt_X7_compress_3 17 rfl) ?_
    refine lv_iadd (pc := 305) hx hb (zdt_at zt_X7_compress_3 18 rfl) ?_
    refine lv_topi (fun x_45 e_ => ?_)
    replace hf := zn_s hf e_
    clear e_
    refine lv_istore (pc := 306) (lv' := [(12, .int x_45), (10, .int x_44), (11, .int x_43), (0, .ref h0), (1, .int i_13), (2, .int i_14), (3, .int i_15), (4, .int i_16), (5, .int i_17), (6, .int i_18), (7, .int i_19), (8, .int i_20), (9, .int i_21)]) hx hb (zdt_at zt_X7_compress_3 19 rfl) hl (by decide) rfl ?_
    clear hl
    intro ls hl
    refine lv_iload (pc := 308) hx hb (zdt_at zt_X7_compress_3 20 rfl) (lv_at hl 10 rfl) ?_
    refine lv_istore (pc := 310) (lv' := [(8, .int i_19), (12, .int x_45), (10, .int x_44), (11, .int x_43), (0, .ref h0), (1, .int i_13), (2, .int i_14), (3, .int i_15), (4, .int i_16), (5, .int i_17), (6, .int i_18), (7, .int i_19), (9, .int i_21)]) hx hb (zdt_at zt_X7_compress_3 21 rfl) hl (by decide) rfl ?_
    clear hl
    intro ls hl
    refine lv_iload (pc := 312) hx hb (zdt_at zt_X7_compress_3 22 rfl) (lv_at hl 10 rfl) ?_
    refine lv_istore (pc := 314) (lv' := [(7, .int i_18), (8, .int i_19), (12, .int x_45), (10, .int x_44), (11, .int x_43), (0, .ref h0), (1, .int i_13), (2, .int i_14), (3, .int i_15), (4, .int i_16), (5, .int i_17), (6, .int i_18), (9, .int i_21)]) hx hb (zdt_at zt_X7_compress_3 23 rfl) hl (by decide) rfl ?_
    clear hl
    intro ls hl
    refine lv_iload (pc := 316) hx hb (zdt_at zt_X7_compress_3 24 rfl) (lv_at hl 10 rfl) ?_
    refine lv_istore (pc := 318) (lv' := [(6, .int i_17), (7, .int i_18), (8, .int i_19), (12, .int x_45), (10, .int x_44), (11, .int x_43), (0, .ref h0), (1, .int i_13), (2, .int i_14), (3, .int i_15), (4, .int i_16), (5, .int i_17), (9, .int i_21)]) hx hb (zdt_at zt_X7_compress_3 25 rfl) hl (by decide) rfl ?_
    clear hl
    intro ls hl
    refine lv_iload (pc := 320) hx hb (zdt_at zt_X7_compress_3 26 rfl) (lv_at hl 10 rfl) ?_
    refine lv_iload (pc := 322) hx hb (zdt_at zt_X7_compress_3 27 rfl) (lv_at hl 5 rfl) ?_
    refine lv_iadd (pc := 324) hx hb (zdt_at zt_X7_compress_3 28 rfl) ?_
    refine lv_topi (fun x_46 e_ => ?_)
    replace hf := zn_s hf e_
    clear e_
    refine lv_istore (pc := 325) (lv' := [(5, .int x_46), (6, .int i_17), (7, .int i_18), (8, .int i_19), (12, .int x_45), (10, .int x_44), (11, .int x_43), (0, .ref h0), (1, .int i_13), (2, .int i_14), (3, .int i_15), (4, .int i_16), (9, .int i_21)]) hx hb (zdt_at zt_X7_compress_3 29 rfl) hl (by decide) rfl ?_
    clear hl
    intro ls hl
    refine lv_iload_n (pc := 327) hx hb (zdt_at zt_X7_compress_3 30 rfl) rfl (lv_at hl 10 rfl) ?_
    refine lv_istore (pc := 328) (lv' := [(4, .int i_15), (5, .int x_46), (6, .int i_17), (7, .int i_18), (8, .int i_19), (12, .int x_45), (10, .int x_44), (11, .int x_43), (0, .ref h0), (1, .int i_13), (2, .int i_14), (3, .int i_15), (9, .int i_21)]) hx hb (zdt_at zt_X7_compress_3 31 rfl) hl (by decide) rfl ?_
    clear hl
    intro ls hl
    refine lv_iload_n (pc := 330) hx hb (zdt_at zt_X7_compress_3 32 rfl) rfl (lv_at hl 10 rfl) ?_
    refine lv_istore_n (pc := 331) (lv' := [(3, .int i_14), (4, .int i_15), (5, .int x_46), (6, .int i_17), (7, .int i_18), (8, .int i_19), (12, .int x_45), (10, .int x_44), (11, .int x_43), (0, .ref h0), (1, .int i_13), (2, .int i_14), (9, .int i_21)]) hx hb (zdt_at zt_X7_compress_3 33 rfl) rfl hl (by decide) rfl ?_
    clear hl
    intro ls hl
    refine lv_iload_n (pc := 332) hx hb (zdt_at zt_X7_compress_3 34 rfl) rfl (lv_at hl 10 rfl) ?_
    refine lv_istore_n (pc := 333) (lv' := [(2, .int i_13), (3, .int i_14), (4, .int i_15), (5, .int x_46), (6, .int i_17), (7, .int i_18), (8, .int i_19), (12, .int x_45), (10, .int x_44), (11, .int x_43), (0, .ref h0), (1, .int i_13), (9, .int i_21)]) hx hb (zdt_at zt_X7_compress_3 35 rfl) rfl hl (by decide) rfl ?_
    clear hl
    intro ls hl
    refine lv_iload (pc := 334) hx hb (zdt_at zt_X7_compress_3 36 rfl) (lv_at hl 9 rfl) ?_
    refine lv_iload (pc := 336) hx hb (zdt_at zt_X7_compress_3 37 rfl) (lv_at hl 7 rfl) ?_
    refine lv_iadd (pc := 338) hx hb (zdt_at zt_X7_compress_3 38 rfl) ?_
    refine lv_topi (fun x_47 e_ => ?_)
    replace hf := zn_s hf e_
    clear e_
    refine lv_istore_n (pc := 339) (lv' := [(1, .int x_47), (2, .int i_13), (3, .int i_14), (4, .int i_15), (5, .int x_46), (6, .int i_17), (7, .int i_18), (8, .int i_19), (12, .int x_45), (10, .int x_44), (11, .int x_43), (0, .ref h0), (9, .int i_21)]) hx hb (zdt_at zt_X7_compress_3 39 rfl) rfl hl (by decide) rfl ?_
    clear hl
    intro ls hl
    refine lv_iinc (pc := 340) (v := (i_21 + (1 : Int32))) (lv' := [(9, .int (i_21 + (1 : Int32))), (1, .int x_47), (2, .int i_13), (3, .int i_14), (4, .int i_15), (5, .int x_46), (6, .int i_17), (7, .int i_18), (8, .int i_19), (12, .int x_45), (10, .int x_44), (11, .int x_43), (0, .ref h0)]) hx hb (zdt_at zt_X7_compress_3 40 rfl) hl (k := 12) rfl rfl (by decide) rfl ?_
    clear hl
    intro ls hl
    refine lv_goto (pc := 343) (tgt := 182) hx hb (zdt_at zt_X7_compress_3 41 rfl) (by decide) ?_
    exact hTo _ _ _ (ihself_39 _ hf H locs ls hP hD hS (lv_sub hl [12, 1, 2, 3, 4, 5, 6, 7, 8, 0] rfl))
  clear eK_4
  refine hTo _ _ _ (zl_go (fun z => match z with | (i_1, c_schedule_2) => ∀ (H : Heap) (locs : List Loc) (ls : Array Slot), va_P D vwCl ([(h0, .inr (9, [.ref h0_sums, .ref h0_schedule, .ref h0_inner, .int c_filled, .int c_total])), (h0_schedule, .inl (cy 1, 64, .inl c_schedule_2)), (h0_sums, .inl (cy 1, 8, .inl c_sums))]) H → va_D A ([(h0, .inr (9, [.ref h0_sums, .ref h0_schedule, .ref h0_inner, .int c_filled, .int c_total])), (h0_schedule, .inl (cy 1, 64, .inl c_schedule_2)), (h0_sums, .inl (cy 1, 8, .inl c_sums))]) → va_S A s.heap H locs → lv_has ls 13 [(0, .ref h0), (1, .int i_1)] → GW H locs (F0 m 3 ls [])) hf ?_ H locs ls hP hD hS (lv_sub hl [1, 0] rfl))
  clear hf hl hP hD hS
  intro self_48 ihself_48 z hf
  obtain ⟨i_1, c_schedule_2⟩ := z
  intro H locs ls hP hD hS hl
  refine hFr _ _ _ ?_
  unfold b_X7_compress_3 at hf
  refine lv_iload_n (pc := 3) hx hb (zdt_at zt_X7_compress_0 2 rfl) rfl (lv_at hl 1 rfl) ?_
  refine lv_bipush (pc := 4) (v := (64 : Int32)) hx hb (zdt_at zt_X7_compress_0 3 rfl) (by decide) ?_
  refine lv_icmp_ge (pc := 6) (tgt := 116) hx hb (zdt_at zt_X7_compress_0 4 rfl) (by decide) (fun cn_ => ?t_49) (fun cn_ => ?f_50)
  case t_49 =>
    replace hf := zt_s cn_ hf
    clear cn_
    exact hTo _ _ _ (kK_4 _ H locs ls hP hD hS (lv_sub hl [0] rfl) hf)
  replace hf := ze_s cn_ hf
  clear cn_
  refine lv_aload_n (pc := 9) hx hb (zdt_at zt_X7_compress_0 5 rfl) rfl (lv_at hl 0 rfl) ?_
  refine va_get (pc := 10) (D := D) (ci := 9) (v := .ref h0_schedule) (C := RX7) (T := TX7) (N := 5) hx hb hts hcX7 hown hK hP 0 rfl rfl 1 (by decide) hw3 (fun _ h9 => h9) rfl (zdt_at zt_X7_compress_0 6 rfl) ?_
  refine lv_iload_n (pc := 13) hx hb (zdt_at zt_X7_compress_0 7 rfl) rfl (lv_at hl 1 rfl) ?_
  refine lv_bipush (pc := 14) (v := (15 : Int32)) hx hb (zdt_at zt_X7_compress_0 8 rfl) (by decide) ?_
  refine lv_isub (pc := 16) hx hb (zdt_at zt_X7_compress_0 9 rfl) ?_
  replace hf := zk_s hf
  refine va_iald (pc := 17) hx hb hK hP 1 1 rfl rfl hf.1 (zdt_at zt_X7_compress_0 10 rfl) ?_
  replace hf := hf.2
  refine lv_topi (fun x_51 e_ => ?_)
  replace hf := zn_s hf e_
  clear e_
  refine lv_istore_n (pc := 18) (lv' := [(2, .int x_51), (0, .ref h0), (1, .int i_1)]) hx hb (zdt_at zt_X7_compress_0 11 rfl) rfl hl (by decide) rfl ?_
  clear hl
  intro ls hl
  refine lv_aload_n (pc := 19) hx hb (zdt_at zt_X7_compress_0 12 rfl) rfl (lv_at hl 1 rfl) ?_
  refine va_get (pc := 20) (D := D) (ci := 9) (v := .ref h0_schedule) (C := RX7) (T := TX7) (N := 5) hx hb hts hcX7 hown hK hP 0 rfl rfl 1 (by decide) hw3 (fun _ h9 => h9) rfl (zdt_at zt_X7_compress_0 13 rfl) ?_
  refine lv_iload_n (pc := 23) hx hb (zdt_at zt_X7_compress_0 14 rfl) rfl (lv_at hl 2 rfl) ?_
  refine lv_iconst (pc := 24) (v := (2 : Int32)) hx hb (zdt_at zt_X7_compress_0 15 rfl) (by decide) ?_
  refine lv_isub (pc := 25) hx hb (zdt_at zt_X7_compress_0 16 rfl) ?_
  replace hf := zk_s hf
  refine va_iald (pc := 26) hx hb hK hP 1 1 rfl rfl hf.1 (zdt_at zt_X7_compress_0 17 rfl) ?_
  replace hf := hf.2
  refine lv_topi (fun x_52 e_ => ?_)
  replace hf := zn_s hf e_
  clear e_
  refine lv_istore_n (pc := 27) (lv' := [(3, .int x_52), (2, .int x_51), (0, .ref h0), (1, .int i_1)]) hx hb (zdt_at zt_X7_compress_0 18 rfl) rfl hl (by decide) rfl ?_
  clear hl
  intro ls hl
  refine lv_iload_n (pc := 28) hx hb (zdt_at zt_X7_compress_0 19 rfl) rfl (lv_at hl 1 rfl) ?_
  refine lv_bipush (pc := 29) (v := (7 : Int32)) hx hb (zdt_at zt_X7_compress_0 20 rfl) (by decide) ?_
  refine lv_iushr (pc := 31) hx hb (zdt_at zt_X7_compress_0 21 rfl) rfl ?_
  refine lv_iload_n (pc := 32) hx hb (zdt_at zt_X7_compress_0 22 rfl) rfl (lv_at hl 1 rfl) ?_
  refine lv_bipush (pc := 33) (v := (25 : Int32)) hx hb (zdt_at zt_X7_compress_0 23 rfl) (by decide) ?_
  refine lv_ishl (pc := 35) hx hb (zdt_at zt_X7_compress_0 24 rfl) ?_
  refine lv_ior (pc := 36) hx hb (zdt_at zt_X7_compress_0 25 rfl) ?_
  refine lv_iload_n (pc := 37) hx hb (zdt_at zt_X7_compress_0 26 rfl) rfl (lv_at hl 1 rfl) ?_
  refine lv_bipush (pc := 38) (v := (18 : Int32)) hx hb (zdt_at zt_X7_compress_0 27 rfl) (by decide) ?_
  refine lv_iushr (pc := 40) hx hb (zdt_at zt_X7_compress_0 28 rfl) rfl ?_
  refine lv_iload_n (pc := 41) hx hb (zdt_at zt_X7_compress_0 29 rfl) rfl (lv_at hl 1 rfl) ?_
  refine lv_bipush (pc := 42) (v := (14 : Int32)) hx hb (zdt_at zt_X7_compress_0 30 rfl) (by decide) ?_
  refine lv_ishl (pc := 44) hx hb (zdt_at zt_X7_compress_0 31 rfl) ?_
  refine lv_ior (pc := 45) hx hb (zdt_at zt_X7_compress_0 32 rfl) ?_
  refine lv_ixor (pc := 46) hx hb (zdt_at zt_X7_compress_0 33 rfl) ?_
  refine lv_iload_n (pc := 47) hx hb (zdt_at zt_X7_compress_0 34 rfl) rfl (lv_at hl 1 rfl) ?_
  refine lv_iconst (pc := 48) (v := (3 : Int32)) hx hb (zdt_at zt_X7_compress_0 35 rfl) (by decide) ?_
  refine lv_iushr (pc := 49) hx hb (zdt_at zt_X7_compress_0 36 rfl) rfl ?_
  refine lv_ixor (pc := 50) hx hb (zdt_at zt_X7_compress_0 37 rfl) ?_
  refine lv_topi (fun x_53 e_ => ?_)
  replace hf := zn_s hf e_
  clear e_
  refine lv_istore (pc := 51) (lv' := [(4, .int x_53), (3, .int x_52), (2, .int x_51), (0, .ref h0), (1, .int i_1)]) hx hb (zdt_at zt_X7_compress_0 38 rfl) hl (by decide) rfl ?_
  clear hl
  intro ls hl
  refine lv_iload_n (pc := 53) hx hb (zdt_at zt_X7_compress_0 39 rfl) rfl (lv_at hl 1 rfl) ?_
  refine lv_bipush (pc := 54) (v := (17 : Int32)) hx hb (zdt_at zt_X7_compress_0 40 rfl) (by decide) ?_
  refine lv_iushr (pc := 56) hx hb (zdt_at zt_X7_compress_0 41 rfl) rfl ?_
  refine lv_iload_n (pc := 57) hx hb (zdt_at zt_X7_compress_0 42 rfl) rfl (lv_at hl 1 rfl) ?_
  refine lv_bipush (pc := 58) (v := (15 : Int32)) hx hb (zdt_at zt_X7_compress_0 43 rfl) (by decide) ?_
  refine lv_ishl (pc := 60) hx hb (zdt_at zt_X7_compress_0 44 rfl) ?_
  refine lv_ior (pc := 61) hx hb (zdt_at zt_X7_compress_0 45 rfl) ?_
  refine lv_iload_n (pc := 62) hx hb (zdt_at zt_X7_compress_0 46 rfl) rfl (lv_at hl 1 rfl) ?_
  refine lv_bipush (pc := 63) (v := (19 : Int32)) hx hb (zdt_at zt_X7_compress_0 47 rfl) (by decide) ?_
  refine lv_iushr (pc := 65) hx hb (zdt_at zt_X7_compress_0 48 rfl) rfl ?_
  refine lv_iload_n (pc := 66) hx hb (zdt_at zt_X7_compress_0 49 rfl) rfl (lv_at hl 1 rfl) ?_
  refine lv_bipush (pc := 67) (v := (13 : Int32)) hx hb (zdt_at zt_X7_compress_0 50 rfl) (by decide) ?_
  refine lv_ishl (pc := 69) hx hb (zdt_at zt_X7_compress_0 51 rfl) ?_
  refine lv_ior (pc := 70) hx hb (zdt_at zt_X7_compress_0 52 rfl) ?_
  refine lv_ixor (pc := 71) hx hb (zdt_at zt_X7_compress_0 53 rfl) ?_
  refine lv_iload_n (pc := 72) hx hb (zdt_at zt_X7_compress_0 54 rfl) rfl (lv_at hl 1 rfl) ?_
  refine lv_bipush (pc := 73) (v := (10 : Int32)) hx hb (zdt_at zt_X7_compress_0 55 rfl) (by decide) ?_
  refine lv_iushr (pc := 75) hx hb (zdt_at zt_X7_compress_0 56 rfl) rfl ?_
  refine lv_ixor (pc := 76) hx hb (zdt_at zt_X7_compress_0 57 rfl) ?_
  refine lv_topi (fun x_54 e_ => ?_)
  replace hf := zn_s hf e_
  clear e_
  refine lv_istore (pc := 77) (lv' := [(5, .int x_54), (4, .int x_53), (3, .int x_52), (2, .int x_51), (0, .ref h0), (1, .int i_1)]) hx hb (zdt_at zt_X7_compress_0 58 rfl) hl (by decide) rfl ?_
  clear hl
  intro ls hl
  refine lv_aload_n (pc := 79) hx hb (zdt_at zt_X7_compress_0 59 rfl) rfl (lv_at hl 4 rfl) ?_
  refine va_get (pc := 80) (D := D) (ci := 9) (v := .ref h0_schedule) (C := RX7) (T := TX7) (N := 5) hx hb hts hcX7 hown hK hP 0 rfl rfl 1 (by decide) hw3 (fun _ h9 => h9) rfl (zdt_at zt_X7_compress_0 60 rfl) ?_
  refine lv_iload_n (pc := 83) hx hb (zdt_at zt_X7_compress_0 61 rfl) rfl (lv_at hl 5 rfl) ?_
  refine lv_aload_n (pc := 84) hx hb (zdt_at zt_X7_compress_0 62 rfl) rfl (lv_at hl 4 rfl) ?_
  refine va_get (pc := 85) (D := D) (ci := 9) (v := .ref h0_schedule) (C := RX7) (T := TX7) (N := 5) hx hb hts hcX7 hown hK hP 0 rfl rfl 1 (by decide) hw3 (fun _ h9 => h9) rfl (zdt_at zt_X7_compress_0 63 rfl) ?_
  refine lv_iload_n (pc := 88) hx hb (zdt_at zt_X7_compress_1 0 rfl) rfl (lv_at hl 5 rfl) ?_
  refine lv_bipush (pc := 89) (v := (16 : Int32)) hx hb (zdt_at zt_X7_compress_1 1 rfl) (by decide) ?_
  refine lv_isub (pc := 91) hx hb (zdt_at zt_X7_compress_1 2 rfl) ?_
  replace hf := zk_s hf
  refine va_iald (pc := 92) hx hb hK hP 1 1 rfl rfl hf.1 (zdt_at zt_X7_compress_1 3 rfl) ?_
  replace hf := hf.2
  refine lv_iload (pc := 93) hx hb (zdt_at zt_X7_compress_1 4 rfl) (lv_at hl 1 rfl) ?_
  refine lv_iadd (pc := 95) hx hb (zdt_at zt_X7_compress_1 5 rfl) ?_
  refine lv_aload_n (pc := 96) hx hb (zdt_at zt_X7_compress_1 6 rfl) rfl (lv_at hl 4 rfl) ?_
  refine va_get (pc := 97) (D := D) (ci := 9) (v := .ref h0_schedule) (C := RX7) (T := TX7) (N := 5) hx hb hts hcX7 hown hK hP 0 rfl rfl 1 (by decide) hw3 (fun _ h9 => h9) rfl (zdt_at zt_X7_compress_1 7 rfl) ?_
  refine lv_iload_n (pc := 100) hx hb (zdt_at zt_X7_compress_1 8 rfl) rfl (lv_at hl 5 rfl) ?_
  refine lv_bipush (pc := 101) (v := (7 : Int32)) hx hb (zdt_at zt_X7_compress_1 9 rfl) (by decide) ?_
  refine lv_isub (pc := 103) hx hb (zdt_at zt_X7_compress_1 10 rfl) ?_
  replace hf := zk_s hf
  refine va_iald (pc := 104) hx hb hK hP 1 1 rfl rfl hf.1 (zdt_at zt_X7_compress_1 11 rfl) ?_
  replace hf := hf.2
  refine lv_iadd (pc := 105) hx hb (zdt_at zt_X7_compress_1 12 rfl) ?_
  refine lv_iload (pc := 106) hx hb (zdt_at zt_X7_compress_1 13 rfl) (lv_at hl 0 rfl) ?_
  refine lv_iadd (pc := 108) hx hb (zdt_at zt_X7_compress_1 14 rfl) ?_
  replace hf := zk_s hf
  refine va_iast (pc := 109) hx hb hK hP hD hS 1 1 rfl rfl hf.1 (zdt_at zt_X7_compress_1 15 rfl) ?_
  replace hf := hf.2
  clear hP hD hS
  intro H locs hP hD hS
  obtain ⟨c_schedule_55, e_⟩ : ∃ q : Nat → Int32, q = (upd c_schedule_2 i_1.toNatClampNeg ((((c_schedule_2 (i_1 - (16 : Int32)).toNatClampNeg) + x_53) + (c_schedule_2 (i_1 - (7 : Int32)).toNatClampNeg)) + x_54)) := ⟨_, rfl⟩
  replace hf := zn_s hf e_
  replace hP : va_P D vwCl ([(h0, .inr (9, [.ref h0_sums, .ref h0_schedule, .ref h0_inner, .int c_filled, .int c_total])), (h0_schedule, .inl (cy 1, 64, .inl c_schedule_55)), (h0_sums, .inl (cy 1, 8, .inl c_sums))]) H := by rw [e_]; exact hP
  replace hD : va_D A ([(h0, .inr (9, [.ref h0_sums, .ref h0_schedule, .ref h0_inner, .int c_filled, .int c_total])), (h0_schedule, .inl (cy 1, 64, .inl c_schedule_55)), (h0_sums, .inl (cy 1, 8, .inl c_sums))]) := by rw [e_]; exact hD
  clear e_
  refine lv_iinc (pc := 110) (v := (i_1 + (1 : Int32))) (lv' := [(1, .int (i_1 + (1 : Int32))), (5, .int x_54), (4, .int x_53), (3, .int x_52), (2, .int x_51), (0, .ref h0)]) hx hb (zdt_at zt_X7_compress_1 16 rfl) hl (k := 5) rfl rfl (by decide) rfl ?_
  clear hl
  intro ls hl
  refine lv_goto (pc := 113) (tgt := 3) hx hb (zdt_at zt_X7_compress_1 17 rfl) (by decide) ?_
  exact hTo _ _ _ (ihself_48 _ hf H locs ls hP hD hS (lv_sub hl [5, 0] rfl))
set_option maxHeartbeats 4000000 in
set_option maxRecDepth 100000 in
theorem c_X7_take (l : Launch) (D : va_G) (cy : Nat → ClassId) (tt : Nat → Nat) (sz : Nat) (h0 : Nat) (h0_sums : Nat) (h0_schedule : Nat) (h0_inner : Nat) (ha1 : Nat) (n_a1 : Nat) (p2 : Int32) (p3 : Int32) (c_filled : Int32) (c_total : Int32) (c_schedule : Nat → Int32) (c_sums : Nat → Int32) (ca1 : Nat → Int32) (c_filled' : Int32) (c_total' : Int32) (c_schedule' : Nat → Int32) (c_sums' : Nat → Int32) (hf : f_X7_take n_a1 p2 p3 c_filled c_total c_schedule c_sums ca1 = some (c_filled', c_total', c_schedule', c_sums')) : Met l yX7_take wsX7_take ({ frames := 1, cells := 0, slots := 0, locals := 32 }) (zPc D cy tt sz [.ref h0, .ref ha1, .int p2, .int p3] ([(h0, .inr (9, [.ref h0_sums, .ref h0_schedule, .ref h0_inner, .int c_filled, .int c_total])), (h0_schedule, .inl (cy 1, 64, .inl c_schedule)), (h0_sums, .inl (cy 1, 8, .inl c_sums)), (ha1, .inl (cy 0, n_a1, .inl ca1))])) (zQ D none ([(h0, .inr (9, [.ref h0_sums, .ref h0_schedule, .ref h0_inner, .int c_filled', .int c_total'])), (h0_schedule, .inl (cy 1, 64, .inl c_schedule')), (h0_sums, .inl (cy 1, 8, .inl c_sums')), (ha1, .inl (cy 0, n_a1, .inl ca1))]) (va_A ([(h0, .inr (9, [.ref h0_sums, .ref h0_schedule, .ref h0_inner, .int c_filled, .int c_total])), (h0_schedule, .inl (cy 1, 64, .inl c_schedule)), (h0_sums, .inl (cy 1, 8, .inl c_sums)), (ha1, .inl (cy 0, n_a1, .inl ca1))]) sz)) 0 0 (va_A ([(h0, .inr (9, [.ref h0_sums, .ref h0_schedule, .ref h0_inner, .int c_filled, .int c_total])), (h0_schedule, .inl (cy 1, 64, .inl c_schedule)), (h0_sums, .inl (cy 1, 8, .inl c_sums)), (ha1, .inl (cy 0, n_a1, .inl ca1))]) sz) := by
  refine Met.ofW (cc := cX7_take) (maxL := 6) (ret := none) (by decide) rfl ?_
  intro p e s m args below meth c s₁ B hml hv
  obtain ⟨rfl, rfl, hP, hD0, hE⟩ := hv
  have hx := B.exec
  have hb := B.bytes
  have hr := B.returns
  have hts := atoms_spec (ws := wsX7_take) B.pre
  have hown : s.vm.findClass RX7 = some m.cls := findClass_of_methodNamed B.named
  have hlocks := B.notSynchronized
  clear B
  have hD := hD0.self (sz := s.heap.size)
  generalize hAe : va_A ([(h0, .inr (9, [.ref h0_sums, .ref h0_schedule, .ref h0_inner, .int c_filled, .int c_total])), (h0_schedule, .inl (cy 1, 64, .inl c_schedule)), (h0_sums, .inl (cy 1, 8, .inl c_sums)), (ha1, .inl (cy 0, n_a1, .inl ca1))]) s.heap.size = A at hD hE ⊢
  have hA : ∀ q : Nat, s.heap.size ≤ q → A q := fun q h => by rw [← hAe]; exact Or.inr h
  clear hAe hD0
  have hS : va_S A s.heap s.heap [] := va_S.rf
  have hK := hE.1
  have hw0 := hts (.fieldLink RX7 26 "SealedModule$Sha256" "total" "I") (by decide +kernel)
  have hw1 := hts (.fieldLink RX7 22 "SealedModule$Sha256" "filled" "I") (by decide +kernel)
  have hw2 := hts (.fieldLink RX7 15 "SealedModule$Sha256" "schedule" "[I") (by decide +kernel)
  have hcX7 : ∀ w ∈ u_ws RX7 TX7 5, w ∈ wsX7_take := (fun _ h => List.mem_cons_of_mem _ (List.mem_append_right _ h))
  have hl := lv_entry ([.ref h0, .ref ha1, .int p2, .int p3]) (n := 6) (Nat.le_of_ble_eq_true rfl)
  rw [lg_entry_eq]
  generalize (lg_sl ([.ref h0, .ref ha1, .int p2, .int p3]) ++ List.replicate (6 - (lg_sl ([.ref h0, .ref ha1, .int p2, .int p3])).length) Slot.unset).toArray = ls at hl ⊢
  replace hl : lv_has ls 6 [(0, .ref h0), (1, .ref ha1), (2, .int p2), (3, .int p3)] := hl
  unfold f_X7_take at hf
  refine zgo (fun GW hTo hFr => ?_)
  refine hFr _ _ _ ?_
  obtain ⟨H, hHe⟩ : ∃ H, H = s.heap := ⟨_, rfl⟩
  obtain ⟨locs, hLe⟩ : ∃ L : List Loc, L = [] := ⟨_, rfl⟩
  rw [← hHe] at hP
  replace hS : va_S A s.heap H locs := by rw [hHe, hLe]; exact hS
  refine zat hHe.symm hLe.symm ?_
  clear hHe hLe
  refine lv_iconst (pc := 0) (v := (0 : Int32)) hx hb (zdt_at zt_X7_take_0 0 rfl) (by decide) ?_
  refine lv_istore (pc := 1) (lv' := [(4, .int (0 : Int32)), (0, .ref h0), (1, .ref ha1), (2, .int p2), (3, .int p3)]) hx hb (zdt_at zt_X7_take_0 1 rfl) hl (by decide) rfl ?_
  clear hl
  intro ls hl
  replace hf := zj_s hf
  obtain ⟨K_8, eK_8, hf⟩ := hf
  have kK_8 : ∀ (c_filled_5 : Int32) (c_schedule_6 : Nat → Int32) (c_sums_7 : Nat → Int32) (H : Heap) (locs : List Loc) (ls : Array Slot), va_P D vwCl ([(h0, .inr (9, [.ref h0_sums, .ref h0_schedule, .ref h0_inner, .int c_filled_5, .int c_total])), (h0_schedule, .inl (cy 1, 64, .inl c_schedule_6)), (h0_sums, .inl (cy 1, 8, .inl c_sums_7)), (ha1, .inl (cy 0, n_a1, .inl ca1))]) H → va_D A ([(h0, .inr (9, [.ref h0_sums, .ref h0_schedule, .ref h0_inner, .int c_filled_5, .int c_total])), (h0_schedule, .inl (cy 1, 64, .inl c_schedule_6)), (h0_sums, .inl (cy 1, 8, .inl c_sums_7)), (ha1, .inl (cy 0, n_a1, .inl ca1))]) → va_S A s.heap H locs → lv_has ls 6 [(0, .ref h0), (3, .int p3)] → K_8 c_filled_5 c_schedule_6 c_sums_7 = some (c_filled', c_total', c_schedule', c_sums') → GW H locs (F0 m 74 ls []) := by
    clear hf hl hP hD hS
    intro c_filled_5 c_schedule_6 c_sums_7 H locs ls hP hD hS hl hf
    rw [eK_8] at hf
    clear eK_8
    refine hFr _ _ _ ?_
    refine lv_aload_n (pc := 74) hx hb (zdt_at zt_X7_take_0 42 rfl) rfl (lv_at hl 0 rfl) ?_
    refine lv_dup (pc := 75) hx hb (zdt_at zt_X7_take_0 43 rfl) rfl ?_
    refine va_get (pc := 76) (D := D) (ci := 9) (v := .int c_total) (C := RX7) (T := TX7) (N := 5) hx hb hts hcX7 hown hK hP 0 rfl rfl 4 (by decide) hw0 (fun _ h9 => h9) rfl (zdt_at zt_X7_take_0 44 rfl) ?_
    refine lv_iload_n (pc := 79) hx hb (zdt_at zt_X7_take_0 45 rfl) rfl (lv_at hl 1 rfl) ?_
    refine lv_iadd (pc := 80) hx hb (zdt_at zt_X7_take_0 46 rfl) ?_
    refine lv_topi (fun x_9 e_ => ?_)
    replace hf := zn_s hf e_
    clear e_
    refine va_put (pc := 81) (D := D) (ci := 9) (v := .int x_9) (ty := .int) (C := RX7) (T := TX7) (N := 5) hx hb hts hcX7 tyX7 tyX7_ok nmX7 hown hK hP hD hS 0 rfl rfl 4 (by decide) hw0 (fun _ h9 => h9) rfl (by decide +kernel) rfl rfl (Nat.le_of_ble_eq_true rfl) (zdt_at zt_X7_take_0 47 rfl) ?_
    clear hP hD hS
    intro H locs hP hD hS
    replace hP : va_P D vwCl ([(h0, .inr (9, [.ref h0_sums, .ref h0_schedule, .ref h0_inner, .int c_filled_5, .int x_9])), (h0_schedule, .inl (cy 1, 64, .inl c_schedule_6)), (h0_sums, .inl (cy 1, 8, .inl c_sums_7)), (ha1, .inl (cy 0, n_a1, .inl ca1))]) H := hP
    replace hD : va_D A ([(h0, .inr (9, [.ref h0_sums, .ref h0_schedule, .ref h0_inner, .int c_filled_5, .int x_9])), (h0_schedule, .inl (cy 1, 64, .inl c_schedule_6)), (h0_sums, .inl (cy 1, 8, .inl c_sums_7)), (ha1, .inl (cy 0, n_a1, .inl ca1))]) := hD
    cases hf
    exact W.vret (pc := 84) hx hb hr (fun t ht hW => ⟨rfl, ⟨by rw [ht]; exact hP, hD⟩, hS.F ht⟩) hS.2.2 (zdt_at zt_X7_take_0 48 rfl)
  clear eK_8
  refine hTo _ _ _ (zl_go (fun z => match z with | (i_1, c_filled_2, c_schedule_3, c_sums_4) => ∀ (H : Heap) (locs : List Loc) (ls : Array Slot), va_P D vwCl ([(h0, .inr (9, [.ref h0_sums, .ref h0_schedule, .ref h0_inner, .int c_filled_2, .int c_total])), (h0_schedule, .inl (cy 1, 64, .inl c_schedule_3)), (h0_sums, .inl (cy 1, 8, .inl c_sums_4)), (ha1, .inl (cy 0, n_a1, .inl ca1))]) H → va_D A ([(h0, .inr (9, [.ref h0_sums, .ref h0_schedule, .ref h0_inner, .int c_filled_2, .int c_total])), (h0_schedule, .inl (cy 1, 64, .inl c_schedule_3)), (h0_sums, .inl (cy 1, 8, .inl c_sums_4)), (ha1, .inl (cy 0, n_a1, .inl ca1))]) → va_S A s.heap H locs → lv_has ls 6 [(0, .ref h0), (1, .ref ha1), (2, .int p2), (3, .int p3), (4, .int i_1)] → GW H locs (F0 m 3 ls [])) hf ?_ H locs ls hP hD hS (lv_sub hl [1, 2, 3, 4, 0] rfl))
  clear hf hl hP hD hS
  intro self_10 ihself_10 z hf
  obtain ⟨i_1, c_filled_2, c_schedule_3, c_sums_4⟩ := z
  intro H locs ls hP hD hS hl
  refine hFr _ _ _ ?_
  unfold b_X7_take_3 at hf
  refine lv_iload (pc := 3) hx hb (zdt_at zt_X7_take_0 2 rfl) (lv_at hl 4 rfl) ?_
  refine lv_iload_n (pc := 5) hx hb (zdt_at zt_X7_take_0 3 rfl) rfl (lv_at hl 3 rfl) ?_
  refine lv_icmp_ge (pc := 6) (tgt := 74) hx hb (zdt_at zt_X7_take_0 4 rfl) (by decide) (fun cn_ => ?t_11) (fun cn_ => ?f_12)
  case t_11 =>
    replace hf := zt_s cn_ hf
    clear cn_
    exact hTo _ _ _ (kK_8 _ _ _ H locs ls hP hD hS (lv_sub hl [0, 3] rfl) hf)
  replace hf := ze_s cn_ hf
  clear cn_
  refine lv_aload_n (pc := 9) hx hb (zdt_at zt_X7_take_0 5 rfl) rfl (lv_at hl 0 rfl) ?_
  refine va_get (pc := 10) (D := D) (ci := 9) (v := .int c_filled_2) (C := RX7) (T := TX7) (N := 5) hx hb hts hcX7 hown hK hP 0 rfl rfl 3 (by decide) hw1 (fun _ h9 => h9) rfl (zdt_at zt_X7_take_0 6 rfl) ?_
  refine lv_iconst (pc := 13) (v := (2 : Int32)) hx hb (zdt_at zt_X7_take_0 7 rfl) (by decide) ?_
  refine lv_ishr (pc := 14) hx hb (zdt_at zt_X7_take_0 8 rfl) ?_
  refine lv_topi (fun x_13 e_ => ?_)
  replace hf := zn_s hf e_
  clear e_
  refine lv_istore (pc := 15) (lv' := [(5, .int x_13), (0, .ref h0), (1, .ref ha1), (2, .int p2), (3, .int p3), (4, .int i_1)]) hx hb (zdt_at zt_X7_take_0 9 rfl) hl (by decide) rfl ?_
  clear hl
  intro ls hl
  refine lv_aload_n (pc := 17) hx hb (zdt_at zt_X7_take_0 10 rfl) rfl (lv_at hl 1 rfl) ?_
  refine va_get (pc := 18) (D := D) (ci := 9) (v := .ref h0_schedule) (C := RX7) (T := TX7) (N := 5) hx hb hts hcX7 hown hK hP 0 rfl rfl 1 (by decide) hw2 (fun _ h9 => h9) rfl (zdt_at zt_X7_take_0 11 rfl) ?_
  refine lv_iload (pc := 21) hx hb (zdt_at zt_X7_take_0 12 rfl) (lv_at hl 0 rfl) ?_
  refine lv_aload_n (pc := 23) hx hb (zdt_at zt_X7_take_0 13 rfl) rfl (lv_at hl 1 rfl) ?_
  refine va_get (pc := 24) (D := D) (ci := 9) (v := .ref h0_schedule) (C := RX7) (T := TX7) (N := 5) hx hb hts hcX7 hown hK hP 0 rfl rfl 1 (by decide) hw2 (fun _ h9 => h9) rfl (zdt_at zt_X7_take_0 14 rfl) ?_
  refine lv_iload (pc := 27) hx hb (zdt_at zt_X7_take_0 15 rfl) (lv_at hl 0 rfl) ?_
  replace hf := zk_s hf
  refine va_iald (pc := 29) hx hb hK hP 1 1 rfl rfl hf.1 (zdt_at zt_X7_take_0 16 rfl) ?_
  replace hf := hf.2
  refine lv_bipush (pc := 30) (v := (8 : Int32)) hx hb (zdt_at zt_X7_take_0 17 rfl) (by decide) ?_
  refine lv_ishl (pc := 32) hx hb (zdt_at zt_X7_take_0 18 rfl) ?_
  refine lv_aload_n (pc := 33) hx hb (zdt_at zt_X7_take_0 19 rfl) rfl (lv_at hl 2 rfl) ?_
  refine lv_iload_n (pc := 34) hx hb (zdt_at zt_X7_take_0 20 rfl) rfl (lv_at hl 3 rfl) ?_
  refine lv_iload (pc := 35) hx hb (zdt_at zt_X7_take_0 21 rfl) (lv_at hl 5 rfl) ?_
  refine lv_iadd (pc := 37) hx hb (zdt_at zt_X7_take_0 22 rfl) ?_
  replace hf := zk_s hf
  refine va_bald (pc := 38) hx hb hK hP 3 0 rfl rfl hf.1 (zdt_at zt_X7_take_0 23 rfl) ?_
  replace hf := hf.2
  refine lv_sipush (pc := 39) (v := (255 : Int32)) hx hb (zdt_at zt_X7_take_0 24 rfl) (by decide) ?_
  refine lv_iand (pc := 42) hx hb (zdt_at zt_X7_take_0 25 rfl) ?_
  refine lv_ior (pc := 43) hx hb (zdt_at zt_X7_take_0 26 rfl) ?_
  replace hf := zk_s hf
  refine va_iast (pc := 44) hx hb hK hP hD hS 1 1 rfl rfl hf.1 (zdt_at zt_X7_take_0 27 rfl) ?_
  replace hf := hf.2
  clear hP hD hS
  intro H locs hP hD hS
  obtain ⟨c_schedule_14, e_⟩ : ∃ q : Nat → Int32, q = (upd c_schedule_3 x_13.toNatClampNeg (((c_schedule_3 x_13.toNatClampNeg) <<< ((8 : Int32) &&& 31)) ||| ((ca1 (p2 + i_1).toNatClampNeg) &&& (255 : Int32)))) := ⟨_, rfl⟩
  replace hf := zn_s hf e_
  replace hP : va_P D vwCl ([(h0, .inr (9, [.ref h0_sums, .ref h0_schedule, .ref h0_inner, .int c_filled_2, .int c_total])), (h0_schedule, .inl (cy 1, 64, .inl c_schedule_14)), (h0_sums, .inl (cy 1, 8, .inl c_sums_4)), (ha1, .inl (cy 0, n_a1, .inl ca1))]) H := by rw [e_]; exact hP
  replace hD : va_D A ([(h0, .inr (9, [.ref h0_sums, .ref h0_schedule, .ref h0_inner, .int c_filled_2, .int c_total])), (h0_schedule, .inl (cy 1, 64, .inl c_schedule_14)), (h0_sums, .inl (cy 1, 8, .inl c_sums_4)), (ha1, .inl (cy 0, n_a1, .inl ca1))]) := by rw [e_]; exact hD
  clear e_
  refine lv_aload_n (pc := 45) hx hb (zdt_at zt_X7_take_0 28 rfl) rfl (lv_at hl 1 rfl) ?_
  refine lv_dup (pc := 46) hx hb (zdt_at zt_X7_take_0 29 rfl) rfl ?_
  refine va_get (pc := 47) (D := D) (ci := 9) (v := .int c_filled_2) (C := RX7) (T := TX7) (N := 5) hx hb hts hcX7 hown hK hP 0 rfl rfl 3 (by decide) hw1 (fun _ h9 => h9) rfl (zdt_at zt_X7_take_0 30 rfl) ?_
  refine lv_iconst (pc := 50) (v := (1 : Int32)) hx hb (zdt_at zt_X7_take_0 31 rfl) (by decide) ?_
  refine lv_iadd (pc := 51) hx hb (zdt_at zt_X7_take_0 32 rfl) ?_
  refine lv_topi (fun x_15 e_ => ?_)
  replace hf := zn_s hf e_
  clear e_
  refine va_put (pc := 52) (D := D) (ci := 9) (v := .int x_15) (ty := .int) (C := RX7) (T := TX7) (N := 5) hx hb hts hcX7 tyX7 tyX7_ok nmX7 hown hK hP hD hS 0 rfl rfl 3 (by decide) hw1 (fun _ h9 => h9) rfl (by decide +kernel) rfl rfl (Nat.le_of_ble_eq_true rfl) (zdt_at zt_X7_take_0 33 rfl) ?_
  clear hP hD hS
  intro H locs hP hD hS
  replace hP : va_P D vwCl ([(h0, .inr (9, [.ref h0_sums, .ref h0_schedule, .ref h0_inner, .int x_15, .int c_total])), (h0_schedule, .inl (cy 1, 64, .inl c_schedule_14)), (h0_sums, .inl (cy 1, 8, .inl c_sums_4)), (ha1, .inl (cy 0, n_a1, .inl ca1))]) H := hP
  replace hD : va_D A ([(h0, .inr (9, [.ref h0_sums, .ref h0_schedule, .ref h0_inner, .int x_15, .int c_total])), (h0_schedule, .inl (cy 1, 64, .inl c_schedule_14)), (h0_sums, .inl (cy 1, 8, .inl c_sums_4)), (ha1, .inl (cy 0, n_a1, .inl ca1))]) := hD
  refine lv_aload_n (pc := 55) hx hb (zdt_at zt_X7_take_0 34 rfl) rfl (lv_at hl 1 rfl) ?_
  refine va_get (pc := 56) (D := D) (ci := 9) (v := .int x_15) (C := RX7) (T := TX7) (N := 5) hx hb hts hcX7 hown hK hP 0 rfl rfl 3 (by decide) hw1 (fun _ h9 => h9) rfl (zdt_at zt_X7_take_0 35 rfl) ?_
  refine lv_bipush (pc := 59) (v := (64 : Int32)) hx hb (zdt_at zt_X7_take_0 36 rfl) (by decide) ?_
  refine lv_icmp_ne (pc := 61) (tgt := 68) hx hb (zdt_at zt_X7_take_0 37 rfl) (by decide) (fun cn_ => ?t_16) (fun cn_ => ?f_17)
  case t_16 =>
    replace hf := ze_s cn_ hf
    clear cn_
    refine lv_iinc (pc := 68) (v := (i_1 + (1 : Int32))) (lv' := [(4, .int (i_1 + (1 : Int32))), (5, .int x_13), (0, .ref h0), (1, .ref ha1), (2, .int p2), (3, .int p3)]) hx hb (zdt_at zt_X7_take_0 40 rfl) hl (k := 5) rfl rfl (by decide) rfl ?_
    clear hl
    intro ls hl
    refine lv_goto (pc := 71) (tgt := 3) hx hb (zdt_at zt_X7_take_0 41 rfl) (by decide) ?_
    exact hTo _ _ _ (ihself_10 _ hf H locs ls hP hD hS (lv_sub hl [2, 3, 4, 5, 0] rfl))
  replace hf := zt_s cn_ hf
  clear cn_
  refine lv_aload_n (pc := 64) hx hb (zdt_at zt_X7_take_0 38 rfl) rfl (lv_at hl 1 rfl) ?_
  replace hf := zb_s hf
  obtain ⟨⟨c_filled_18, c_schedule_19, c_sums_20⟩, hc_, hf⟩ := hf
  refine zcn2 (pc := 65) (rv := none) (va_runV (As := []) (rest := []) ⟨hx, hb, hml, hown, hts⟩ (c_X7_compress l D cy tt H.size h0 h0_sums h0_schedule h0_inner x_15 c_schedule_14 c_sums_4 c_total c_filled_18 c_schedule_19 c_sums_20 hc_) (cwV 0 hts gX7_take_X7_compress rfl rfl rfl (by decide +kernel) ⟨Nat.le_of_ble_eq_true rfl, Nat.le_of_ble_eq_true rfl⟩) ⟨zblind, va_recv hK hP (ci := 9) (q0 := 0) rfl rfl, zpre hE hS (hP.sub [0, 1, 2] rfl) (hD.sub [0, 1, 2] (by decide) rfl) (va_free hD hS hA [0, 1, 2] rfl)⟩ rfl rfl hl.1 rfl (lv_room (Nat.le_of_ble_eq_true rfl)) (zdt_at zt_X7_take_0 39 rfl) ⟨Nat.zero_le _, Nat.zero_le _⟩) hS hP hD (va_free hD hS hA [0, 1, 2] rfl) [0, 1, 2] rfl (by decide) rfl ?_
  clear hP hD hS hc_
  intro H locs hP hD hS
  replace hP : va_P D vwCl ([(h0, .inr (9, [.ref h0_sums, .ref h0_schedule, .ref h0_inner, .int c_filled_18, .int c_total])), (h0_schedule, .inl (cy 1, 64, .inl c_schedule_19)), (h0_sums, .inl (cy 1, 8, .inl c_sums_20)), (ha1, .inl (cy 0, n_a1, .inl ca1))]) H := hP
  replace hD : va_D A ([(h0, .inr (9, [.ref h0_sums, .ref h0_schedule, .ref h0_inner, .int c_filled_18, .int c_total])), (h0_schedule, .inl (cy 1, 64, .inl c_schedule_19)), (h0_sums, .inl (cy 1, 8, .inl c_sums_20)), (ha1, .inl (cy 0, n_a1, .inl ca1))]) := hD
  refine W.eq (g2 := F0 m 68 ls []) rfl ?_
  refine lv_iinc (pc := 68) (v := (i_1 + (1 : Int32))) (lv' := [(4, .int (i_1 + (1 : Int32))), (5, .int x_13), (0, .ref h0), (1, .ref ha1), (2, .int p2), (3, .int p3)]) hx hb (zdt_at zt_X7_take_0 40 rfl) hl (k := 5) rfl rfl (by decide) rfl ?_
  clear hl
  intro ls hl
  refine lv_goto (pc := 71) (tgt := 3) hx hb (zdt_at zt_X7_take_0 41 rfl) (by decide) ?_
  exact hTo _ _ _ (ihself_10 _ hf H locs ls hP hD hS (lv_sub hl [2, 3, 4, 5, 0] rfl))
set_option maxHeartbeats 4000000 in
set_option maxRecDepth 100000 in
theorem c_X7_end (l : Launch) (D : va_G) (cy : Nat → ClassId) (tt : Nat → Nat) (sz : Nat) (h0 : Nat) (h0_sums : Nat) (h0_schedule : Nat) (h0_inner : Nat) (ha1 : Nat) (n_a1 : Nat) (p2 : Int32) (c_filled : Int32) (c_total : Int32) (c_schedule : Nat → Int32) (c_sums : Nat → Int32) (ca1 : Nat → Int32) (c_filled' : Int32) (c_schedule' : Nat → Int32) (c_sums' : Nat → Int32) (ca1' : Nat → Int32) (hf : f_X7_end n_a1 p2 c_filled c_total c_schedule c_sums ca1 = some (c_filled', c_schedule', c_sums', ca1')) : Met l yX7_end wsX7_end ({ frames := 2, cells := 0, slots := 0, locals := 46 }) (zPc D cy tt sz [.ref h0, .ref ha1, .int p2] ([(h0, .inr (9, [.ref h0_sums, .ref h0_schedule, .ref h0_inner, .int c_filled, .int c_total])), (h0_schedule, .inl (cy 1, 64, .inl c_schedule)), (h0_sums, .inl (cy 1, 8, .inl c_sums)), (ha1, .inl (cy 0, n_a1, .inl ca1))])) (zQ D none ([(h0, .inr (9, [.ref h0_sums, .ref h0_schedule, .ref h0_inner, .int c_filled', .int c_total])), (h0_schedule, .inl (cy 1, 64, .inl c_schedule')), (h0_sums, .inl (cy 1, 8, .inl c_sums')), (ha1, .inl (cy 0, n_a1, .inl ca1'))]) (va_A ([(h0, .inr (9, [.ref h0_sums, .ref h0_schedule, .ref h0_inner, .int c_filled, .int c_total])), (h0_schedule, .inl (cy 1, 64, .inl c_schedule)), (h0_sums, .inl (cy 1, 8, .inl c_sums)), (ha1, .inl (cy 0, n_a1, .inl ca1))]) sz)) 0 0 (va_A ([(h0, .inr (9, [.ref h0_sums, .ref h0_schedule, .ref h0_inner, .int c_filled, .int c_total])), (h0_schedule, .inl (cy 1, 64, .inl c_schedule)), (h0_sums, .inl (cy 1, 8, .inl c_sums)), (ha1, .inl (cy 0, n_a1, .inl ca1))]) sz) := by
  refine Met.ofW (cc := cX7_end) (maxL := 5) (ret := none) (by decide) rfl ?_
  intro p e s m args below meth c s₁ B hml hv
  obtain ⟨rfl, rfl, hP, hD0, hE⟩ := hv
  have hx := B.exec
  have hb := B.bytes
  have hr := B.returns
  have hts := atoms_spec (ws := wsX7_end) B.pre
  have hown : s.vm.findClass RX7 = some m.cls := findClass_of_methodNamed B.named
  have hlocks := B.notSynchronized
  clear B
  have hD := hD0.self (sz := s.heap.size)
  generalize hAe : va_A ([(h0, .inr (9, [.ref h0_sums, .ref h0_schedule, .ref h0_inner, .int c_filled, .int c_total])), (h0_schedule, .inl (cy 1, 64, .inl c_schedule)), (h0_sums, .inl (cy 1, 8, .inl c_sums)), (ha1, .inl (cy 0, n_a1, .inl ca1))]) s.heap.size = A at hD hE ⊢
  have hA : ∀ q : Nat, s.heap.size ≤ q → A q := fun q h => by rw [← hAe]; exact Or.inr h
  clear hAe hD0
  have hS : va_S A s.heap s.heap [] := va_S.rf
  have hK := hE.1
  have hw0 := hts (.fieldLink RX7 22 "SealedModule$Sha256" "filled" "I") (by decide +kernel)
  have hw1 := hts (.fieldLink RX7 15 "SealedModule$Sha256" "schedule" "[I") (by decide +kernel)
  have hw2 := hts (.fieldLink RX7 26 "SealedModule$Sha256" "total" "I") (by decide +kernel)
  have hw3 := hts (.fieldLink RX7 9 "SealedModule$Sha256" "sums" "[I") (by decide +kernel)
  have hw4 := hts (.initialized RX9) (by decide +kernel)
  have hw5 := hts (.static yX9_putInt) (by decide +kernel)
  have hcX7 : ∀ w ∈ u_ws RX7 TX7 5, w ∈ wsX7_end := (fun _ h => List.mem_cons_of_mem _ (List.mem_append_left _ (List.mem_append_right _ h)))
  have hl := lv_entry ([.ref h0, .ref ha1, .int p2]) (n := 5) (Nat.le_of_ble_eq_true rfl)
  rw [lg_entry_eq]
  generalize (lg_sl ([.ref h0, .ref ha1, .int p2]) ++ List.replicate (5 - (lg_sl ([.ref h0, .ref ha1, .int p2])).length) Slot.unset).toArray = ls at hl ⊢
  replace hl : lv_has ls 5 [(0, .ref h0), (1, .ref ha1), (2, .int p2)] := hl
  unfold f_X7_end at hf
  refine zgo (fun GW hTo hFr => ?_)
  refine hFr _ _ _ ?_
  obtain ⟨H, hHe⟩ : ∃ H, H = s.heap := ⟨_, rfl⟩
  obtain ⟨locs, hLe⟩ : ∃ L : List Loc, L = [] := ⟨_, rfl⟩
  rw [← hHe] at hP
  replace hS : va_S A s.heap H locs := by rw [hHe, hLe]; exact hS
  refine zat hHe.symm hLe.symm ?_
  clear hHe hLe
  refine lv_aload_n (pc := 0) hx hb (zdt_at zt_X7_end_0 0 rfl) rfl (lv_at hl 0 rfl) ?_
  refine va_get (pc := 1) (D := D) (ci := 9) (v := .int c_filled) (C := RX7) (T := TX7) (N := 5) hx hb hts hcX7 hown hK hP 0 rfl rfl 3 (by decide) hw0 (fun _ h9 => h9) rfl (zdt_at zt_X7_end_0 1 rfl) ?_
  refine lv_iconst (pc := 4) (v := (2 : Int32)) hx hb (zdt_at zt_X7_end_0 2 rfl) (by decide) ?_
  refine lv_ishr (pc := 5) hx hb (zdt_at zt_X7_end_0 3 rfl) ?_
  refine lv_topi (fun x_1 e_ => ?_)
  replace hf := zn_s hf e_
  clear e_
  refine lv_istore_n (pc := 6) (lv' := [(3, .int x_1), (0, .ref h0), (1, .ref ha1), (2, .int p2)]) hx hb (zdt_at zt_X7_end_0 4 rfl) rfl hl (by decide) rfl ?_
  clear hl
  intro ls hl
  refine lv_aload_n (pc := 7) hx hb (zdt_at zt_X7_end_0 5 rfl) rfl (lv_at hl 1 rfl) ?_
  refine va_get (pc := 8) (D := D) (ci := 9) (v := .ref h0_schedule) (C := RX7) (T := TX7) (N := 5) hx hb hts hcX7 hown hK hP 0 rfl rfl 1 (by decide) hw1 (fun _ h9 => h9) rfl (zdt_at zt_X7_end_0 6 rfl) ?_
  refine lv_iload_n (pc := 11) hx hb (zdt_at zt_X7_end_0 7 rfl) rfl (lv_at hl 0 rfl) ?_
  refine lv_aload_n (pc := 12) hx hb (zdt_at zt_X7_end_0 8 rfl) rfl (lv_at hl 1 rfl) ?_
  refine va_get (pc := 13) (D := D) (ci := 9) (v := .ref h0_schedule) (C := RX7) (T := TX7) (N := 5) hx hb hts hcX7 hown hK hP 0 rfl rfl 1 (by decide) hw1 (fun _ h9 => h9) rfl (zdt_at zt_X7_end_0 9 rfl) ?_
  refine lv_iload_n (pc := 16) hx hb (zdt_at zt_X7_end_0 10 rfl) rfl (lv_at hl 0 rfl) ?_
  replace hf := zk_s hf
  refine va_iald (pc := 17) hx hb hK hP 1 1 rfl rfl hf.1 (zdt_at zt_X7_end_0 11 rfl) ?_
  replace hf := hf.2
  refine lv_bipush (pc := 18) (v := (8 : Int32)) hx hb (zdt_at zt_X7_end_0 12 rfl) (by decide) ?_
  refine lv_ishl (pc := 20) hx hb (zdt_at zt_X7_end_0 13 rfl) ?_
  refine lv_sipush (pc := 21) (v := (128 : Int32)) hx hb (zdt_at zt_X7_end_0 14 rfl) (by decide) ?_
  refine lv_ior (pc := 24) hx hb (zdt_at zt_X7_end_0 15 rfl) ?_
  refine lv_bipush (pc := 25) (v := (24 : Int32)) hx hb (zdt_at zt_X7_end_0 16 rfl) (by decide) ?_
  refine lv_bipush (pc := 27) (v := (8 : Int32)) hx hb (zdt_at zt_X7_end_0 17 rfl) (by decide) ?_
  refine lv_aload_n (pc := 29) hx hb (zdt_at zt_X7_end_0 18 rfl) rfl (lv_at hl 1 rfl) ?_
  refine va_get (pc := 30) (D := D) (ci := 9) (v := .int c_filled) (C := RX7) (T := TX7) (N := 5) hx hb hts hcX7 hown hK hP 0 rfl rfl 3 (by decide) hw0 (fun _ h9 => h9) rfl (zdt_at zt_X7_end_0 19 rfl) ?_
  refine lv_iconst (pc := 33) (v := (3 : Int32)) hx hb (zdt_at zt_X7_end_0 20 rfl) (by decide) ?_
  refine lv_iand (pc := 34) hx hb (zdt_at zt_X7_end_0 21 rfl) ?_
  refine lv_imul (pc := 35) hx hb (zdt_at zt_X7_end_0 22 rfl) ?_
  refine lv_isub (pc := 36) hx hb (zdt_at zt_X7_end_0 23 rfl) ?_
  refine lv_ishl (pc := 37) hx hb (zdt_at zt_X7_end_0 24 rfl) ?_
  replace hf := zk_s hf
  refine va_iast (pc := 38) hx hb hK hP hD hS 1 1 rfl rfl hf.1 (zdt_at zt_X7_end_0 25 rfl) ?_
  replace hf := hf.2
  clear hP hD hS
  intro H locs hP hD hS
  obtain ⟨c_schedule_2, e_⟩ : ∃ q : Nat → Int32, q = (upd c_schedule x_1.toNatClampNeg ((((c_schedule x_1.toNatClampNeg) <<< ((8 : Int32) &&& 31)) ||| (128 : Int32)) <<< (((24 : Int32) - ((8 : Int32) * (c_filled &&& (3 : Int32)))) &&& 31))) := ⟨_, rfl⟩
  replace hf := zn_s hf e_
  replace hP : va_P D vwCl ([(h0, .inr (9, [.ref h0_sums, .ref h0_schedule, .ref h0_inner, .int c_filled, .int c_total])), (h0_schedule, .inl (cy 1, 64, .inl c_schedule_2)), (h0_sums, .inl (cy 1, 8, .inl c_sums)), (ha1, .inl (cy 0, n_a1, .inl ca1))]) H := by rw [e_]; exact hP
  replace hD : va_D A ([(h0, .inr (9, [.ref h0_sums, .ref h0_schedule, .ref h0_inner, .int c_filled, .int c_total])), (h0_schedule, .inl (cy 1, 64, .inl c_schedule_2)), (h0_sums, .inl (cy 1, 8, .inl c_sums)), (ha1, .inl (cy 0, n_a1, .inl ca1))]) := by rw [e_]; exact hD
  clear e_
  refine lv_aload_n (pc := 39) hx hb (zdt_at zt_X7_end_0 26 rfl) rfl (lv_at hl 1 rfl) ?_
  refine va_get (pc := 40) (D := D) (ci := 9) (v := .ref h0_schedule) (C := RX7) (T := TX7) (N := 5) hx hb hts hcX7 hown hK hP 0 rfl rfl 1 (by decide) hw1 (fun _ h9 => h9) rfl (zdt_at zt_X7_end_0 27 rfl) ?_
  refine lv_iload_n (pc := 43) hx hb (zdt_at zt_X7_end_0 28 rfl) rfl (lv_at hl 0 rfl) ?_
  refine lv_iconst (pc := 44) (v := (1 : Int32)) hx hb (zdt_at zt_X7_end_0 29 rfl) (by decide) ?_
  refine lv_iadd (pc := 45) hx hb (zdt_at zt_X7_end_0 30 rfl) ?_
  refine lv_bipush (pc := 46) (v := (16 : Int32)) hx hb (zdt_at zt_X7_end_0 31 rfl) (by decide) ?_
  refine lv_iconst (pc := 48) (v := (0 : Int32)) hx hb (zdt_at zt_X7_end_0 32 rfl) (by decide) ?_
  replace hf := zb_s hf
  obtain ⟨c_schedule_3, hc_, hf⟩ := hf
  refine zcn2 (pc := 49) (rv := none) (va_runS (As := [.ref h0_schedule, .int (x_1 + (1 : Int32)), .int (16 : Int32), .int (0 : Int32)]) (rest := []) ⟨hx, hb, hml, hown, hts⟩ (c_J7_fill_fda19 l D cy tt H.size h0_schedule 64 (x_1 + (1 : Int32)) (16 : Int32) (0 : Int32) c_schedule_2 c_schedule_3 hc_) (va_cwS 4 hts gX7_end_J7_fill_fda19 rfl rfl rfl (by decide +kernel) ⟨Nat.le_of_ble_eq_true rfl, Nat.le_of_ble_eq_true rfl⟩) ⟨zblind, zpre hE hS (hP.sub [1] rfl) (hD.sub [1] (by decide) rfl) (va_free hD hS hA [1] rfl)⟩ rfl rfl hl.1 rfl (lv_room (Nat.le_of_ble_eq_true rfl)) (zdt_at zt_X7_end_0 33 rfl) ⟨Nat.zero_le _, Nat.zero_le _⟩) hS hP hD (va_free hD hS hA [1] rfl) [1] rfl (by decide) rfl ?_
  clear hP hD hS hc_
  intro H locs hP hD hS
  replace hP : va_P D vwCl ([(h0, .inr (9, [.ref h0_sums, .ref h0_schedule, .ref h0_inner, .int c_filled, .int c_total])), (h0_schedule, .inl (cy 1, 64, .inl c_schedule_3)), (h0_sums, .inl (cy 1, 8, .inl c_sums)), (ha1, .inl (cy 0, n_a1, .inl ca1))]) H := hP
  replace hD : va_D A ([(h0, .inr (9, [.ref h0_sums, .ref h0_schedule, .ref h0_inner, .int c_filled, .int c_total])), (h0_schedule, .inl (cy 1, 64, .inl c_schedule_3)), (h0_sums, .inl (cy 1, 8, .inl c_sums)), (ha1, .inl (cy 0, n_a1, .inl ca1))]) := hD
  refine W.eq (g2 := F0 m 52 ls []) rfl ?_
  refine lv_aload_n (pc := 52) hx hb (zdt_at zt_X7_end_0 34 rfl) rfl (lv_at hl 1 rfl) ?_
  refine va_get (pc := 53) (D := D) (ci := 9) (v := .int c_filled) (C := RX7) (T := TX7) (N := 5) hx hb hts hcX7 hown hK hP 0 rfl rfl 3 (by decide) hw0 (fun _ h9 => h9) rfl (zdt_at zt_X7_end_0 35 rfl) ?_
  refine lv_bipush (pc := 56) (v := (56 : Int32)) hx hb (zdt_at zt_X7_end_0 36 rfl) (by decide) ?_
  replace hf := zj_s hf
  obtain ⟨K_7, eK_7, hf⟩ := hf
  have kK_7 : ∀ (c_filled_4 : Int32) (c_schedule_5 : Nat → Int32) (c_sums_6 : Nat → Int32) (H : Heap) (locs : List Loc) (ls : Array Slot), va_P D vwCl ([(h0, .inr (9, [.ref h0_sums, .ref h0_schedule, .ref h0_inner, .int c_filled_4, .int c_total])), (h0_schedule, .inl (cy 1, 64, .inl c_schedule_5)), (h0_sums, .inl (cy 1, 8, .inl c_sums_6)), (ha1, .inl (cy 0, n_a1, .inl ca1))]) H → va_D A ([(h0, .inr (9, [.ref h0_sums, .ref h0_schedule, .ref h0_inner, .int c_filled_4, .int c_total])), (h0_schedule, .inl (cy 1, 64, .inl c_schedule_5)), (h0_sums, .inl (cy 1, 8, .inl c_sums_6)), (ha1, .inl (cy 0, n_a1, .inl ca1))]) → va_S A s.heap H locs → lv_has ls 5 [(0, .ref h0), (1, .ref ha1), (2, .int p2)] → K_7 c_filled_4 c_schedule_5 c_sums_6 = some (c_filled', c_schedule', c_sums', ca1') → GW H locs (F0 m 76 ls []) := by
    clear hf hl hP hD hS
    intro c_filled_4 c_schedule_5 c_sums_6 H locs ls hP hD hS hl hf
    rw [eK_7] at hf
    clear eK_7
    refine hFr _ _ _ ?_
    refine lv_aload_n (pc := 76) hx hb (zdt_at zt_X7_end_0 46 rfl) rfl (lv_at hl 0 rfl) ?_
    refine va_get (pc := 77) (D := D) (ci := 9) (v := .ref h0_schedule) (C := RX7) (T := TX7) (N := 5) hx hb hts hcX7 hown hK hP 0 rfl rfl 1 (by decide) hw1 (fun _ h9 => h9) rfl (zdt_at zt_X7_end_0 47 rfl) ?_
    refine lv_bipush (pc := 80) (v := (15 : Int32)) hx hb (zdt_at zt_X7_end_0 48 rfl) (by decide) ?_
    refine lv_bipush (pc := 82) (v := (8 : Int32)) hx hb (zdt_at zt_X7_end_0 49 rfl) (by decide) ?_
    refine lv_aload_n (pc := 84) hx hb (zdt_at zt_X7_end_0 50 rfl) rfl (lv_at hl 0 rfl) ?_
    refine va_get (pc := 85) (D := D) (ci := 9) (v := .int c_total) (C := RX7) (T := TX7) (N := 5) hx hb hts hcX7 hown hK hP 0 rfl rfl 4 (by decide) hw2 (fun _ h9 => h9) rfl (zdt_at zt_X7_end_0 51 rfl) ?_
    refine lv_imul (pc := 88) hx hb (zdt_at zt_X7_end_0 52 rfl) ?_
    replace hf := zk_s hf
    refine va_iast (pc := 89) hx hb hK hP hD hS 1 1 rfl rfl hf.1 (zdt_at zt_X7_end_0 53 rfl) ?_
    replace hf := hf.2
    clear hP hD hS
    intro H locs hP hD hS
    obtain ⟨c_schedule_8, e_⟩ : ∃ q : Nat → Int32, q = (upd c_schedule_5 (15 : Int32).toNatClampNeg ((8 : Int32) * c_total)) := ⟨_, rfl⟩
    replace hf := zn_s hf e_
    replace hP : va_P D vwCl ([(h0, .inr (9, [.ref h0_sums, .ref h0_schedule, .ref h0_inner, .int c_filled_4, .int c_total])), (h0_schedule, .inl (cy 1, 64, .inl c_schedule_8)), (h0_sums, .inl (cy 1, 8, .inl c_sums_6)), (ha1, .inl (cy 0, n_a1, .inl ca1))]) H := by rw [e_]; exact hP
    replace hD : va_D A ([(h0, .inr (9, [.ref h0_sums, .ref h0_schedule, .ref h0_inner, .int c_filled_4, .int c_total])), (h0_schedule, .inl (cy 1, 64, .inl c_schedule_8)), (h0_sums, .inl (cy 1, 8, .inl c_sums_6)), (ha1, .inl (cy 0, n_a1, .inl ca1))]) := by rw [e_]; exact hD
    clear e_
    refine lv_aload_n (pc := 90) hx hb (zdt_at zt_X7_end_0 54 rfl) rfl (lv_at hl 0 rfl) ?_
    replace hf := zb_s hf
    obtain ⟨⟨c_filled_9, c_schedule_10, c_sums_11⟩, hc_, hf⟩ := hf
    refine zcn2 (pc := 91) (rv := none) (va_runV (As := []) (rest := []) ⟨hx, hb, hml, hown, hts⟩ (c_X7_compress l D cy tt H.size h0 h0_sums h0_schedule h0_inner c_filled_4 c_schedule_8 c_sums_6 c_total c_filled_9 c_schedule_10 c_sums_11 hc_) (cwV 0 hts gX7_end_X7_compress rfl rfl rfl (by decide +kernel) ⟨Nat.le_of_ble_eq_true rfl, Nat.le_of_ble_eq_true rfl⟩) ⟨zblind, va_recv hK hP (ci := 9) (q0 := 0) rfl rfl, zpre hE hS (hP.sub [0, 1, 2] rfl) (hD.sub [0, 1, 2] (by decide) rfl) (va_free hD hS hA [0, 1, 2] rfl)⟩ rfl rfl hl.1 rfl (lv_room (Nat.le_of_ble_eq_true rfl)) (zdt_at zt_X7_end_0 55 rfl) ⟨Nat.zero_le _, Nat.zero_le _⟩) hS hP hD (va_free hD hS hA [0, 1, 2] rfl) [0, 1, 2] rfl (by decide) rfl ?_
    clear hP hD hS hc_
    intro H locs hP hD hS
    replace hP : va_P D vwCl ([(h0, .inr (9, [.ref h0_sums, .ref h0_schedule, .ref h0_inner, .int c_filled_9, .int c_total])), (h0_schedule, .inl (cy 1, 64, .inl c_schedule_10)), (h0_sums, .inl (cy 1, 8, .inl c_sums_11)), (ha1, .inl (cy 0, n_a1, .inl ca1))]) H := hP
    replace hD : va_D A ([(h0, .inr (9, [.ref h0_sums, .ref h0_schedule, .ref h0_inner, .int c_filled_9, .int c_total])), (h0_schedule, .inl (cy 1, 64, .inl c_schedule_10)), (h0_sums, .inl (cy 1, 8, .inl c_sums_11)), (ha1, .inl (cy 0, n_a1, .inl ca1))]) := hD
    refine W.eq (g2 := F0 m 94 ls []) rfl ?_
    refine lv_iconst (pc := 94) (v := (0 : Int32)) hx hb (zdt_at zt_X7_end_0 56 rfl) (by decide) ?_
    refine lv_istore (pc := 95) (lv' := [(4, .int (0 : Int32)), (0, .ref h0), (1, .ref ha1), (2, .int p2)]) hx hb (zdt_at zt_X7_end_0 57 rfl) hl (by decide) rfl ?_
    clear hl
    intro ls hl
    replace hf := zj_s hf
    obtain ⟨K_15, eK_15, hf⟩ := hf
    have kK_15 : ∀ (ca1_14 : Nat → Int32) (H : Heap) (locs : List Loc) (ls : Array Slot), va_P D vwCl ([(h0, .inr (9, [.ref h0_sums, .ref h0_schedule, .ref h0_inner, .int c_filled_9, .int c_total])), (h0_schedule, .inl (cy 1, 64, .inl c_schedule_10)), (h0_sums, .inl (cy 1, 8, .inl c_sums_11)), (ha1, .inl (cy 0, n_a1, .inl ca1_14))]) H → va_D A ([(h0, .inr (9, [.ref h0_sums, .ref h0_schedule, .ref h0_inner, .int c_filled_9, .int c_total])), (h0_schedule, .inl (cy 1, 64, .inl c_schedule_10)), (h0_sums, .inl (cy 1, 8, .inl c_sums_11)), (ha1, .inl (cy 0, n_a1, .inl ca1_14))]) → va_S A s.heap H locs → lv_has ls 5 [] → K_15 ca1_14 = some (c_filled', c_schedule', c_sums', ca1') → GW H locs (F0 m 127 ls []) := by
      clear hf hl hP hD hS
      intro ca1_14 H locs ls hP hD hS hl hf
      rw [eK_15] at hf
      clear eK_15
      refine hFr _ _ _ ?_
      cases hf
      exact W.vret (pc := 127) hx hb hr (fun t ht hW => ⟨rfl, ⟨by rw [ht]; exact hP, hD⟩, hS.F ht⟩) hS.2.2 (zdt_at zt_X7_end_1 10 rfl)
    clear eK_15
    refine hTo _ _ _ (zl_go (fun z => match z with | (i_12, ca1_13) => ∀ (H : Heap) (locs : List Loc) (ls : Array Slot), va_P D vwCl ([(h0, .inr (9, [.ref h0_sums, .ref h0_schedule, .ref h0_inner, .int c_filled_9, .int c_total])), (h0_schedule, .inl (cy 1, 64, .inl c_schedule_10)), (h0_sums, .inl (cy 1, 8, .inl c_sums_11)), (ha1, .inl (cy 0, n_a1, .inl ca1_13))]) H → va_D A ([(h0, .inr (9, [.ref h0_sums, .ref h0_schedule, .ref h0_inner, .int c_filled_9, .int c_total])), (h0_schedule, .inl (cy 1, 64, .inl c_schedule_10)), (h0_sums, .inl (cy 1, 8, .inl c_sums_11)), (ha1, .inl (cy 0, n_a1, .inl ca1_13))]) → va_S A s.heap H locs → lv_has ls 5 [(0, .ref h0), (1, .ref ha1), (2, .int p2), (4, .int i_12)] → GW H locs (F0 m 97 ls [])) hf ?_ H locs ls hP hD hS (lv_sub hl [1, 2, 3, 0] rfl))
    clear hf hl hP hD hS
    intro self_16 ihself_16 z hf
    obtain ⟨i_12, ca1_13⟩ := z
    intro H locs ls hP hD hS hl
    refine hFr _ _ _ ?_
    unfold b_X7_end_97 at hf
    refine lv_iload (pc := 97) hx hb (zdt_at zt_X7_end_0 58 rfl) (lv_at hl 3 rfl) ?_
    refine lv_bipush (pc := 99) (v := (8 : Int32)) hx hb (zdt_at zt_X7_end_0 59 rfl) (by decide) ?_
    refine lv_icmp_ge (pc := 101) (tgt := 127) hx hb (zdt_at zt_X7_end_0 60 rfl) (by decide) (fun cn_ => ?t_17) (fun cn_ => ?f_18)
    case t_17 =>
      replace hf := zt_s cn_ hf
      clear cn_
      exact hTo _ _ _ (kK_15 _ H locs ls hP hD hS (lv_sub hl [] rfl) hf)
    replace hf := ze_s cn_ hf
    clear cn_
    refine lv_aload_n (pc := 104) hx hb (zdt_at zt_X7_end_0 61 rfl) rfl (lv_at hl 1 rfl) ?_
    refine lv_iload_n (pc := 105) hx hb (zdt_at zt_X7_end_0 62 rfl) rfl (lv_at hl 2 rfl) ?_
    refine lv_iconst (pc := 106) (v := (4 : Int32)) hx hb (zdt_at zt_X7_end_0 63 rfl) (by decide) ?_
    refine lv_iload (pc := 107) hx hb (zdt_at zt_X7_end_1 0 rfl) (lv_at hl 3 rfl) ?_
    refine lv_imul (pc := 109) hx hb (zdt_at zt_X7_end_1 1 rfl) ?_
    refine lv_iadd (pc := 110) hx hb (zdt_at zt_X7_end_1 2 rfl) ?_
    refine lv_aload_n (pc := 111) hx hb (zdt_at zt_X7_end_1 3 rfl) rfl (lv_at hl 0 rfl) ?_
    refine va_get (pc := 112) (D := D) (ci := 9) (v := .ref h0_sums) (C := RX7) (T := TX7) (N := 5) hx hb hts hcX7 hown hK hP 0 rfl rfl 0 (by decide) hw3 (fun _ h9 => h9) rfl (zdt_at zt_X7_end_1 4 rfl) ?_
    refine lv_iload (pc := 115) hx hb (zdt_at zt_X7_end_1 5 rfl) (lv_at hl 3 rfl) ?_
    replace hf := zk_s hf
    refine va_iald (pc := 117) hx hb hK hP 2 1 rfl rfl hf.1 (zdt_at zt_X7_end_1 6 rfl) ?_
    replace hf := hf.2
    replace hf := zb_s hf
    obtain ⟨ca1_19, hc_, hf⟩ := hf
    refine zcn2 (pc := 118) (rv := none) (va_runSN (As := [.ref ha1, .int (p2 + ((4 : Int32) * i_12)), .int (c_sums_11 i_12.toNatClampNeg)]) (rest := []) ⟨hx, hb, hml, hown, hts⟩ (c_X9_putInt l D cy tt H.size ha1 n_a1 (p2 + ((4 : Int32) * i_12)) (c_sums_11 i_12.toNatClampNeg) ca1_13 ca1_19 hc_) ⟨va_cnB 3 hts gX7_end_X9_putInt_n47 rfl rfl rfl (gNs_14 hE.2.1) hw4 (by decide +kernel) ⟨Nat.le_of_ble_eq_true rfl, Nat.le_of_ble_eq_true rfl⟩, hw5, trivial⟩ ⟨zblind, zpre hE hS (hP.sub [3] rfl) (hD.sub [3] (by decide) rfl) (va_free hD hS hA [3] rfl)⟩ rfl rfl hl.1 rfl (lv_room (Nat.le_of_ble_eq_true rfl)) (zdt_at zt_X7_end_1 7 rfl) ⟨Nat.zero_le _, Nat.zero_le _⟩) hS hP hD (va_free hD hS hA [3] rfl) [3] rfl (by decide) rfl ?_
    clear hP hD hS hc_
    intro H locs hP hD hS
    replace hP : va_P D vwCl ([(h0, .inr (9, [.ref h0_sums, .ref h0_schedule, .ref h0_inner, .int c_filled_9, .int c_total])), (h0_schedule, .inl (cy 1, 64, .inl c_schedule_10)), (h0_sums, .inl (cy 1, 8, .inl c_sums_11)), (ha1, .inl (cy 0, n_a1, .inl ca1_19))]) H := hP
    replace hD : va_D A ([(h0, .inr (9, [.ref h0_sums, .ref h0_schedule, .ref h0_inner, .int c_filled_9, .int c_total])), (h0_schedule, .inl (cy 1, 64, .inl c_schedule_10)), (h0_sums, .inl (cy 1, 8, .inl c_sums_11)), (ha1, .inl (cy 0, n_a1, .inl ca1_19))]) := hD
    refine W.eq (g2 := F0 m 121 ls []) rfl ?_
    refine lv_iinc (pc := 121) (v := (i_12 + (1 : Int32))) (lv' := [(4, .int (i_12 + (1 : Int32))), (0, .ref h0), (1, .ref ha1), (2, .int p2)]) hx hb (zdt_at zt_X7_end_1 8 rfl) hl (k := 3) rfl rfl (by decide) rfl ?_
    clear hl
    intro ls hl
    refine lv_goto (pc := 124) (tgt := 97) hx hb (zdt_at zt_X7_end_1 9 rfl) (by decide) ?_
    exact hTo _ _ _ (ihself_16 _ hf H locs ls hP hD hS (lv_sub hl [1, 2, 3, 0] rfl))
  clear eK_7
  refine lv_icmp_lt (pc := 58) (tgt := 76) hx hb (zdt_at zt_X7_end_0 37 rfl) (by decide) (fun cn_ => ?t_20) (fun cn_ => ?f_21)
  case t_20 =>
    replace hf := zt_s cn_ hf
    clear cn_
    exact hTo _ _ _ (kK_7 _ _ _ H locs ls hP hD hS (lv_sub hl [1, 2, 3] rfl) hf)
  replace hf := ze_s cn_ hf
  clear cn_
  refine lv_aload_n (pc := 61) hx hb (zdt_at zt_X7_end_0 38 rfl) rfl (lv_at hl 1 rfl) ?_
  replace hf := zb_s hf
  obtain ⟨⟨c_filled_22, c_schedule_23, c_sums_24⟩, hc_, hf⟩ := hf
  refine zcn2 (pc := 62) (rv := none) (va_runV (As := []) (rest := []) ⟨hx, hb, hml, hown, hts⟩ (c_X7_compress l D cy tt H.size h0 h0_sums h0_schedule h0_inner c_filled c_schedule_3 c_sums c_total c_filled_22 c_schedule_23 c_sums_24 hc_) (cwV 0 hts gX7_end_X7_compress rfl rfl rfl (by decide +kernel) ⟨Nat.le_of_ble_eq_true rfl, Nat.le_of_ble_eq_true rfl⟩) ⟨zblind, va_recv hK hP (ci := 9) (q0 := 0) rfl rfl, zpre hE hS (hP.sub [0, 1, 2] rfl) (hD.sub [0, 1, 2] (by decide) rfl) (va_free hD hS hA [0, 1, 2] rfl)⟩ rfl rfl hl.1 rfl (lv_room (Nat.le_of_ble_eq_true rfl)) (zdt_at zt_X7_end_0 39 rfl) ⟨Nat.zero_le _, Nat.zero_le _⟩) hS hP hD (va_free hD hS hA [0, 1, 2] rfl) [0, 1, 2] rfl (by decide) rfl ?_
  clear hP hD hS hc_
  intro H locs hP hD hS
  replace hP : va_P D vwCl ([(h0, .inr (9, [.ref h0_sums, .ref h0_schedule, .ref h0_inner, .int c_filled_22, .int c_total])), (h0_schedule, .inl (cy 1, 64, .inl c_schedule_23)), (h0_sums, .inl (cy 1, 8, .inl c_sums_24)), (ha1, .inl (cy 0, n_a1, .inl ca1))]) H := hP
  replace hD : va_D A ([(h0, .inr (9, [.ref h0_sums, .ref h0_schedule, .ref h0_inner, .int c_filled_22, .int c_total])), (h0_schedule, .inl (cy 1, 64, .inl c_schedule_23)), (h0_sums, .inl (cy 1, 8, .inl c_sums_24)), (ha1, .inl (cy 0, n_a1, .inl ca1))]) := hD
  refine W.eq (g2 := F0 m 65 ls []) rfl ?_
  refine lv_aload_n (pc := 65) hx hb (zdt_at zt_X7_end_0 40 rfl) rfl (lv_at hl 1 rfl) ?_
  refine va_get (pc := 66) (D := D) (ci := 9) (v := .ref h0_schedule) (C := RX7) (T := TX7) (N := 5) hx hb hts hcX7 hown hK hP 0 rfl rfl 1 (by decide) hw1 (fun _ h9 => h9) rfl (zdt_at zt_X7_end_0 41 rfl) ?_
  refine lv_iconst (pc := 69) (v := (0 : Int32)) hx hb (zdt_at zt_X7_end_0 42 rfl) (by decide) ?_
  refine lv_bipush (pc := 70) (v := (16 : Int32)) hx hb (zdt_at zt_X7_end_0 43 rfl) (by decide) ?_
  refine lv_iconst (pc := 72) (v := (0 : Int32)) hx hb (zdt_at zt_X7_end_0 44 rfl) (by decide) ?_
  replace hf := zb_s hf
  obtain ⟨c_schedule_25, hc_, hf⟩ := hf
  refine zcn2 (pc := 73) (rv := none) (va_runS (As := [.ref h0_schedule, .int (0 : Int32), .int (16 : Int32), .int (0 : Int32)]) (rest := []) ⟨hx, hb, hml, hown, hts⟩ (c_J7_fill_fda19 l D cy tt H.size h0_schedule 64 (0 : Int32) (16 : Int32) (0 : Int32) c_schedule_23 c_schedule_25 hc_) (va_cwS 4 hts gX7_end_J7_fill_fda19 rfl rfl rfl (by decide +kernel) ⟨Nat.le_of_ble_eq_true rfl, Nat.le_of_ble_eq_true rfl⟩) ⟨zblind, zpre hE hS (hP.sub [1] rfl) (hD.sub [1] (by decide) rfl) (va_free hD hS hA [1] rfl)⟩ rfl rfl hl.1 rfl (lv_room (Nat.le_of_ble_eq_true rfl)) (zdt_at zt_X7_end_0 45 rfl) ⟨Nat.zero_le _, Nat.zero_le _⟩) hS hP hD (va_free hD hS hA [1] rfl) [1] rfl (by decide) rfl ?_
  clear hP hD hS hc_
  intro H locs hP hD hS
  replace hP : va_P D vwCl ([(h0, .inr (9, [.ref h0_sums, .ref h0_schedule, .ref h0_inner, .int c_filled_22, .int c_total])), (h0_schedule, .inl (cy 1, 64, .inl c_schedule_25)), (h0_sums, .inl (cy 1, 8, .inl c_sums_24)), (ha1, .inl (cy 0, n_a1, .inl ca1))]) H := hP
  replace hD : va_D A ([(h0, .inr (9, [.ref h0_sums, .ref h0_schedule, .ref h0_inner, .int c_filled_22, .int c_total])), (h0_schedule, .inl (cy 1, 64, .inl c_schedule_25)), (h0_sums, .inl (cy 1, 8, .inl c_sums_24)), (ha1, .inl (cy 0, n_a1, .inl ca1))]) := hD
  refine W.eq (g2 := F0 m 76 ls []) rfl ?_
  exact hTo _ _ _ (kK_7 _ _ _ H locs ls hP hD hS (lv_sub hl [1, 2, 3] rfl) hf)
set_option maxHeartbeats 4000000 in
set_option maxRecDepth 100000 in
theorem c_X7_takePadded (l : Launch) (D : va_G) (cy : Nat → ClassId) (tt : Nat → Nat) (sz : Nat) (h0 : Nat) (h0_sums : Nat) (h0_schedule : Nat) (h0_inner : Nat) (ha1 : Nat) (n_a1 : Nat) (p2 : Int32) (p3 : Int32) (c_filled : Int32) (c_total : Int32) (c_schedule : Nat → Int32) (c_sums : Nat → Int32) (ca1 : Nat → Int32) (c_filled' : Int32) (c_total' : Int32) (c_schedule' : Nat → Int32) (c_sums' : Nat → Int32) (hf : f_X7_takePadded n_a1 p2 p3 c_filled c_total c_schedule c_sums ca1 = some (c_filled', c_total', c_schedule', c_sums')) : Met l yX7_takePadded wsX7_takePadded ({ frames := 1, cells := 0, slots := 0, locals := 32 }) (zPc D cy tt sz [.ref h0, .ref ha1, .int p2, .int p3] ([(h0, .inr (9, [.ref h0_sums, .ref h0_schedule, .ref h0_inner, .int c_filled, .int c_total])), (h0_schedule, .inl (cy 1, 64, .inl c_schedule)), (h0_sums, .inl (cy 1, 8, .inl c_sums)), (ha1, .inl (cy 0, n_a1, .inl ca1))])) (zQ D none ([(h0, .inr (9, [.ref h0_sums, .ref h0_schedule, .ref h0_inner, .int c_filled', .int c_total'])), (h0_schedule, .inl (cy 1, 64, .inl c_schedule')), (h0_sums, .inl (cy 1, 8, .inl c_sums')), (ha1, .inl (cy 0, n_a1, .inl ca1))]) (va_A ([(h0, .inr (9, [.ref h0_sums, .ref h0_schedule, .ref h0_inner, .int c_filled, .int c_total])), (h0_schedule, .inl (cy 1, 64, .inl c_schedule)), (h0_sums, .inl (cy 1, 8, .inl c_sums)), (ha1, .inl (cy 0, n_a1, .inl ca1))]) sz)) 0 0 (va_A ([(h0, .inr (9, [.ref h0_sums, .ref h0_schedule, .ref h0_inner, .int c_filled, .int c_total])), (h0_schedule, .inl (cy 1, 64, .inl c_schedule)), (h0_sums, .inl (cy 1, 8, .inl c_sums)), (ha1, .inl (cy 0, n_a1, .inl ca1))]) sz) := by
  refine Met.ofW (cc := cX7_takePadded) (maxL := 6) (ret := none) (by decide) rfl ?_
  intro p e s m args below meth c s₁ B hml hv
  obtain ⟨rfl, rfl, hP, hD0, hE⟩ := hv
  have hx := B.exec
  have hb := B.bytes
  have hr := B.returns
  have hts := atoms_spec (ws := wsX7_takePadded) B.pre
  have hown : s.vm.findClass RX7 = some m.cls := findClass_of_methodNamed B.named
  have hlocks := B.notSynchronized
  clear B
  have hD := hD0.self (sz := s.heap.size)
  generalize hAe : va_A ([(h0, .inr (9, [.ref h0_sums, .ref h0_schedule, .ref h0_inner, .int c_filled, .int c_total])), (h0_schedule, .inl (cy 1, 64, .inl c_schedule)), (h0_sums, .inl (cy 1, 8, .inl c_sums)), (ha1, .inl (cy 0, n_a1, .inl ca1))]) s.heap.size = A at hD hE ⊢
  have hA : ∀ q : Nat, s.heap.size ≤ q → A q := fun q h => by rw [← hAe]; exact Or.inr h
  clear hAe hD0
  have hS : va_S A s.heap s.heap [] := va_S.rf
  have hK := hE.1
  have hw0 := hts (.fieldLink RX7 26 "SealedModule$Sha256" "total" "I") (by decide +kernel)
  have hw1 := hts (.fieldLink RX7 15 "SealedModule$Sha256" "schedule" "[I") (by decide +kernel)
  have hcX7 : ∀ w ∈ u_ws RX7 TX7 5, w ∈ wsX7_takePadded := (fun _ h => List.mem_cons_of_mem _ (List.mem_append_right _ h))
  have hl := lv_entry ([.ref h0, .ref ha1, .int p2, .int p3]) (n := 6) (Nat.le_of_ble_eq_true rfl)
  rw [lg_entry_eq]
  generalize (lg_sl ([.ref h0, .ref ha1, .int p2, .int p3]) ++ List.replicate (6 - (lg_sl ([.ref h0, .ref ha1, .int p2, .int p3])).length) Slot.unset).toArray = ls at hl ⊢
  replace hl : lv_has ls 6 [(0, .ref h0), (1, .ref ha1), (2, .int p2), (3, .int p3)] := hl
  unfold f_X7_takePadded at hf
  refine zgo (fun GW hTo hFr => ?_)
  refine hFr _ _ _ ?_
  obtain ⟨H, hHe⟩ : ∃ H, H = s.heap := ⟨_, rfl⟩
  obtain ⟨locs, hLe⟩ : ∃ L : List Loc, L = [] := ⟨_, rfl⟩
  rw [← hHe] at hP
  replace hS : va_S A s.heap H locs := by rw [hHe, hLe]; exact hS
  refine zat hHe.symm hLe.symm ?_
  clear hHe hLe
  refine lv_iconst (pc := 0) (v := (0 : Int32)) hx hb (zdt_at zt_X7_takePadded_0 0 rfl) (by decide) ?_
  refine lv_istore (pc := 1) (lv' := [(4, .int (0 : Int32)), (0, .ref h0), (1, .ref ha1), (2, .int p2), (3, .int p3)]) hx hb (zdt_at zt_X7_takePadded_0 1 rfl) hl (by decide) rfl ?_
  clear hl
  intro ls hl
  replace hf := zj_s hf
  obtain ⟨K_4, eK_4, hf⟩ := hf
  have kK_4 : ∀ (c_schedule_3 : Nat → Int32) (H : Heap) (locs : List Loc) (ls : Array Slot), va_P D vwCl ([(h0, .inr (9, [.ref h0_sums, .ref h0_schedule, .ref h0_inner, .int c_filled, .int c_total])), (h0_schedule, .inl (cy 1, 64, .inl c_schedule_3)), (h0_sums, .inl (cy 1, 8, .inl c_sums)), (ha1, .inl (cy 0, n_a1, .inl ca1))]) H → va_D A ([(h0, .inr (9, [.ref h0_sums, .ref h0_schedule, .ref h0_inner, .int c_filled, .int c_total])), (h0_schedule, .inl (cy 1, 64, .inl c_schedule_3)), (h0_sums, .inl (cy 1, 8, .inl c_sums)), (ha1, .inl (cy 0, n_a1, .inl ca1))]) → va_S A s.heap H locs → lv_has ls 6 [(0, .ref h0)] → K_4 c_schedule_3 = some (c_filled', c_total', c_schedule', c_sums') → GW H locs (F0 m 62 ls []) := by
    clear hf hl hP hD hS
    intro c_schedule_3 H locs ls hP hD hS hl hf
    rw [eK_4] at hf
    clear eK_4
    refine hFr _ _ _ ?_
    refine lv_aload_n (pc := 62) hx hb (zdt_at zt_X7_takePadded_0 36 rfl) rfl (lv_at hl 0 rfl) ?_
    replace hf := zb_s hf
    obtain ⟨⟨c_filled_5, c_schedule_6, c_sums_7⟩, hc_, hf⟩ := hf
    refine zcn2 (pc := 63) (rv := none) (va_runV (As := []) (rest := []) ⟨hx, hb, hml, hown, hts⟩ (c_X7_compress l D cy tt H.size h0 h0_sums h0_schedule h0_inner c_filled c_schedule_3 c_sums c_total c_filled_5 c_schedule_6 c_sums_7 hc_) (cwV 0 hts gX7_takePadded_X7_compress rfl rfl rfl (by decide +kernel) ⟨Nat.le_of_ble_eq_true rfl, Nat.le_of_ble_eq_true rfl⟩) ⟨zblind, va_recv hK hP (ci := 9) (q0 := 0) rfl rfl, zpre hE hS (hP.sub [0, 1, 2] rfl) (hD.sub [0, 1, 2] (by decide) rfl) (va_free hD hS hA [0, 1, 2] rfl)⟩ rfl rfl hl.1 rfl (lv_room (Nat.le_of_ble_eq_true rfl)) (zdt_at zt_X7_takePadded_0 37 rfl) ⟨Nat.zero_le _, Nat.zero_le _⟩) hS hP hD (va_free hD hS hA [0, 1, 2] rfl) [0, 1, 2] rfl (by decide) rfl ?_
    clear hP hD hS hc_
    intro H locs hP hD hS
    replace hP : va_P D vwCl ([(h0, .inr (9, [.ref h0_sums, .ref h0_schedule, .ref h0_inner, .int c_filled_5, .int c_total])), (h0_schedule, .inl (cy 1, 64, .inl c_schedule_6)), (h0_sums, .inl (cy 1, 8, .inl c_sums_7)), (ha1, .inl (cy 0, n_a1, .inl ca1))]) H := hP
    replace hD : va_D A ([(h0, .inr (9, [.ref h0_sums, .ref h0_schedule, .ref h0_inner, .int c_filled_5, .int c_total])), (h0_schedule, .inl (cy 1, 64, .inl c_schedule_6)), (h0_sums, .inl (cy 1, 8, .inl c_sums_7)), (ha1, .inl (cy 0, n_a1, .inl ca1))]) := hD
    refine W.eq (g2 := F0 m 66 ls []) rfl ?_
    refine lv_aload_n (pc := 66) hx hb (zdt_at zt_X7_takePadded_0 38 rfl) rfl (lv_at hl 0 rfl) ?_
    refine lv_bipush (pc := 67) (v := (64 : Int32)) hx hb (zdt_at zt_X7_takePadded_0 39 rfl) (by decide) ?_
    refine va_put (pc := 69) (D := D) (ci := 9) (v := .int (64 : Int32)) (ty := .int) (C := RX7) (T := TX7) (N := 5) hx hb hts hcX7 tyX7 tyX7_ok nmX7 hown hK hP hD hS 0 rfl rfl 4 (by decide) hw0 (fun _ h9 => h9) rfl (by decide +kernel) rfl rfl (Nat.le_of_ble_eq_true rfl) (zdt_at zt_X7_takePadded_0 40 rfl) ?_
    clear hP hD hS
    intro H locs hP hD hS
    replace hP : va_P D vwCl ([(h0, .inr (9, [.ref h0_sums, .ref h0_schedule, .ref h0_inner, .int c_filled_5, .int (64 : Int32)])), (h0_schedule, .inl (cy 1, 64, .inl c_schedule_6)), (h0_sums, .inl (cy 1, 8, .inl c_sums_7)), (ha1, .inl (cy 0, n_a1, .inl ca1))]) H := hP
    replace hD : va_D A ([(h0, .inr (9, [.ref h0_sums, .ref h0_schedule, .ref h0_inner, .int c_filled_5, .int (64 : Int32)])), (h0_schedule, .inl (cy 1, 64, .inl c_schedule_6)), (h0_sums, .inl (cy 1, 8, .inl c_sums_7)), (ha1, .inl (cy 0, n_a1, .inl ca1))]) := hD
    cases hf
    exact W.vret (pc := 72) hx hb hr (fun t ht hW => ⟨rfl, ⟨by rw [ht]; exact hP, hD⟩, hS.F ht⟩) hS.2.2 (zdt_at zt_X7_takePadded_0 41 rfl)
  clear eK_4
  refine hTo _ _ _ (zl_go (fun z => match z with | (i_1, c_schedule_2) => ∀ (H : Heap) (locs : List Loc) (ls : Array Slot), va_P D vwCl ([(h0, .inr (9, [.ref h0_sums, .ref h0_schedule, .ref h0_inner, .int c_filled, .int c_total])), (h0_schedule, .inl (cy 1, 64, .inl c_schedule_2)), (h0_sums, .inl (cy 1, 8, .inl c_sums)), (ha1, .inl (cy 0, n_a1, .inl ca1))]) H → va_D A ([(h0, .inr (9, [.ref h0_sums, .ref h0_schedule, .ref h0_inner, .int c_filled, .int c_total])), (h0_schedule, .inl (cy 1, 64, .inl c_schedule_2)), (h0_sums, .inl (cy 1, 8, .inl c_sums)), (ha1, .inl (cy 0, n_a1, .inl ca1))]) → va_S A s.heap H locs → lv_has ls 6 [(0, .ref h0), (1, .ref ha1), (2, .int p2), (3, .int p3), (4, .int i_1)] → GW H locs (F0 m 3 ls [])) hf ?_ H locs ls hP hD hS (lv_sub hl [1, 2, 3, 4, 0] rfl))
  clear hf hl hP hD hS
  intro self_8 ihself_8 z hf
  obtain ⟨i_1, c_schedule_2⟩ := z
  intro H locs ls hP hD hS hl
  refine hFr _ _ _ ?_
  unfold b_X7_takePadded_3 at hf
  refine lv_iload (pc := 3) hx hb (zdt_at zt_X7_takePadded_0 2 rfl) (lv_at hl 4 rfl) ?_
  refine lv_bipush (pc := 5) (v := (64 : Int32)) hx hb (zdt_at zt_X7_takePadded_0 3 rfl) (by decide) ?_
  refine lv_icmp_ge (pc := 7) (tgt := 62) hx hb (zdt_at zt_X7_takePadded_0 4 rfl) (by decide) (fun cn_ => ?t_9) (fun cn_ => ?f_10)
  case t_9 =>
    replace hf := zt_s cn_ hf
    clear cn_
    exact hTo _ _ _ (kK_4 _ H locs ls hP hD hS (lv_sub hl [0] rfl) hf)
  replace hf := ze_s cn_ hf
  clear cn_
  refine lv_iload (pc := 10) hx hb (zdt_at zt_X7_takePadded_0 5 rfl) (lv_at hl 4 rfl) ?_
  refine lv_iload_n (pc := 12) hx hb (zdt_at zt_X7_takePadded_0 6 rfl) rfl (lv_at hl 2 rfl) ?_
  replace hf := zj_s hf
  obtain ⟨K_12, eK_12, hf⟩ := hf
  have kK_12 : ∀ (v_11 : Int32) (H : Heap) (locs : List Loc) (ls : Array Slot), va_P D vwCl ([(h0, .inr (9, [.ref h0_sums, .ref h0_schedule, .ref h0_inner, .int c_filled, .int c_total])), (h0_schedule, .inl (cy 1, 64, .inl c_schedule_2)), (h0_sums, .inl (cy 1, 8, .inl c_sums)), (ha1, .inl (cy 0, n_a1, .inl ca1))]) H → va_D A ([(h0, .inr (9, [.ref h0_sums, .ref h0_schedule, .ref h0_inner, .int c_filled, .int c_total])), (h0_schedule, .inl (cy 1, 64, .inl c_schedule_2)), (h0_sums, .inl (cy 1, 8, .inl c_sums)), (ha1, .inl (cy 0, n_a1, .inl ca1))]) → va_S A s.heap H locs → lv_has ls 6 [(0, .ref h0), (1, .ref ha1), (2, .int p2), (3, .int p3), (4, .int i_1)] → K_12 v_11 = some (c_filled', c_total', c_schedule', c_sums') → GW H locs (F0 m 28 ls [.int v_11]) := by
    clear hf hl hP hD hS
    intro v_11 H locs ls hP hD hS hl hf
    rw [eK_12] at hf
    clear eK_12
    refine hFr _ _ _ ?_
    refine lv_istore (pc := 28) (lv' := [(5, .int v_11), (0, .ref h0), (1, .ref ha1), (2, .int p2), (3, .int p3), (4, .int i_1)]) hx hb (zdt_at zt_X7_takePadded_0 15 rfl) hl (by decide) rfl ?_
    clear hl
    intro ls hl
    refine lv_aload_n (pc := 30) hx hb (zdt_at zt_X7_takePadded_0 16 rfl) rfl (lv_at hl 1 rfl) ?_
    refine va_get (pc := 31) (D := D) (ci := 9) (v := .ref h0_schedule) (C := RX7) (T := TX7) (N := 5) hx hb hts hcX7 hown hK hP 0 rfl rfl 1 (by decide) hw1 (fun _ h9 => h9) rfl (zdt_at zt_X7_takePadded_0 17 rfl) ?_
    refine lv_iload (pc := 34) hx hb (zdt_at zt_X7_takePadded_0 18 rfl) (lv_at hl 5 rfl) ?_
    refine lv_iconst (pc := 36) (v := (2 : Int32)) hx hb (zdt_at zt_X7_takePadded_0 19 rfl) (by decide) ?_
    refine lv_ishr (pc := 37) hx hb (zdt_at zt_X7_takePadded_0 20 rfl) ?_
    refine lv_aload_n (pc := 38) hx hb (zdt_at zt_X7_takePadded_0 21 rfl) rfl (lv_at hl 1 rfl) ?_
    refine va_get (pc := 39) (D := D) (ci := 9) (v := .ref h0_schedule) (C := RX7) (T := TX7) (N := 5) hx hb hts hcX7 hown hK hP 0 rfl rfl 1 (by decide) hw1 (fun _ h9 => h9) rfl (zdt_at zt_X7_takePadded_0 22 rfl) ?_
    refine lv_iload (pc := 42) hx hb (zdt_at zt_X7_takePadded_0 23 rfl) (lv_at hl 5 rfl) ?_
    refine lv_iconst (pc := 44) (v := (2 : Int32)) hx hb (zdt_at zt_X7_takePadded_0 24 rfl) (by decide) ?_
    refine lv_ishr (pc := 45) hx hb (zdt_at zt_X7_takePadded_0 25 rfl) ?_
    replace hf := zk_s hf
    refine va_iald (pc := 46) hx hb hK hP 1 1 rfl rfl hf.1 (zdt_at zt_X7_takePadded_0 26 rfl) ?_
    replace hf := hf.2
    refine lv_bipush (pc := 47) (v := (8 : Int32)) hx hb (zdt_at zt_X7_takePadded_0 27 rfl) (by decide) ?_
    refine lv_ishl (pc := 49) hx hb (zdt_at zt_X7_takePadded_0 28 rfl) ?_
    refine lv_iload (pc := 50) hx hb (zdt_at zt_X7_takePadded_0 29 rfl) (lv_at hl 0 rfl) ?_
    refine lv_iload_n (pc := 52) hx hb (zdt_at zt_X7_takePadded_0 30 rfl) rfl (lv_at hl 4 rfl) ?_
    refine lv_ixor (pc := 53) hx hb (zdt_at zt_X7_takePadded_0 31 rfl) ?_
    refine lv_ior (pc := 54) hx hb (zdt_at zt_X7_takePadded_0 32 rfl) ?_
    replace hf := zk_s hf
    refine va_iast (pc := 55) hx hb hK hP hD hS 1 1 rfl rfl hf.1 (zdt_at zt_X7_takePadded_0 33 rfl) ?_
    replace hf := hf.2
    clear hP hD hS
    intro H locs hP hD hS
    obtain ⟨c_schedule_13, e_⟩ : ∃ q : Nat → Int32, q = (upd c_schedule_2 (i_1 >>> ((2 : Int32) &&& 31)).toNatClampNeg (((c_schedule_2 (i_1 >>> ((2 : Int32) &&& 31)).toNatClampNeg) <<< ((8 : Int32) &&& 31)) ||| (v_11 ^^^ p3))) := ⟨_, rfl⟩
    replace hf := zn_s hf e_
    replace hP : va_P D vwCl ([(h0, .inr (9, [.ref h0_sums, .ref h0_schedule, .ref h0_inner, .int c_filled, .int c_total])), (h0_schedule, .inl (cy 1, 64, .inl c_schedule_13)), (h0_sums, .inl (cy 1, 8, .inl c_sums)), (ha1, .inl (cy 0, n_a1, .inl ca1))]) H := by rw [e_]; exact hP
    replace hD : va_D A ([(h0, .inr (9, [.ref h0_sums, .ref h0_schedule, .ref h0_inner, .int c_filled, .int c_total])), (h0_schedule, .inl (cy 1, 64, .inl c_schedule_13)), (h0_sums, .inl (cy 1, 8, .inl c_sums)), (ha1, .inl (cy 0, n_a1, .inl ca1))]) := by rw [e_]; exact hD
    clear e_
    refine lv_iinc (pc := 56) (v := (i_1 + (1 : Int32))) (lv' := [(4, .int (i_1 + (1 : Int32))), (5, .int v_11), (0, .ref h0), (1, .ref ha1), (2, .int p2), (3, .int p3)]) hx hb (zdt_at zt_X7_takePadded_0 34 rfl) hl (k := 5) rfl rfl (by decide) rfl ?_
    clear hl
    intro ls hl
    refine lv_goto (pc := 59) (tgt := 3) hx hb (zdt_at zt_X7_takePadded_0 35 rfl) (by decide) ?_
    exact hTo _ _ _ (ihself_8 _ hf H locs ls hP hD hS (lv_sub hl [2, 3, 4, 5, 0] rfl))
  clear eK_12
  refine lv_icmp_ge (pc := 13) (tgt := 27) hx hb (zdt_at zt_X7_takePadded_0 7 rfl) (by decide) (fun cn_ => ?t_14) (fun cn_ => ?f_15)
  case t_14 =>
    replace hf := zt_s cn_ hf
    clear cn_
    refine lv_iconst (pc := 27) (v := (0 : Int32)) hx hb (zdt_at zt_X7_takePadded_0 14 rfl) (by decide) ?_
    exact hTo _ _ _ (kK_12 _ H locs ls hP hD hS (lv_sub hl [0, 1, 2, 3, 4] rfl) hf)
  replace hf := ze_s cn_ hf
  clear cn_
  refine lv_aload_n (pc := 16) hx hb (zdt_at zt_X7_takePadded_0 8 rfl) rfl (lv_at hl 1 rfl) ?_
  refine lv_iload (pc := 17) hx hb (zdt_at zt_X7_takePadded_0 9 rfl) (lv_at hl 4 rfl) ?_
  replace hf := zk_s hf
  refine va_bald (pc := 19) hx hb hK hP 3 0 rfl rfl hf.1 (zdt_at zt_X7_takePadded_0 10 rfl) ?_
  replace hf := hf.2
  refine lv_sipush (pc := 20) (v := (255 : Int32)) hx hb (zdt_at zt_X7_takePadded_0 11 rfl) (by decide) ?_
  refine lv_iand (pc := 23) hx hb (zdt_at zt_X7_takePadded_0 12 rfl) ?_
  refine lv_goto (pc := 24) (tgt := 28) hx hb (zdt_at zt_X7_takePadded_0 13 rfl) (by decide) ?_
  exact hTo _ _ _ (kK_12 _ H locs ls hP hD hS (lv_sub hl [0, 1, 2, 3, 4] rfl) hf)
set_option maxHeartbeats 4000000 in
set_option maxRecDepth 100000 in
theorem c_X7_end_1t_inner (l : Launch) (D : va_G) (cy : Nat → ClassId) (tt : Nat → Nat) (sz : Nat) (h0 : Nat) (h0_sums : Nat) (h0_schedule : Nat) (h0_inner : Nat) (p2 : Int32) (c_filled : Int32) (c_total : Int32) (c_inner : Nat → Int32) (c_schedule : Nat → Int32) (c_sums : Nat → Int32) (c_filled' : Int32) (c_inner' : Nat → Int32) (c_schedule' : Nat → Int32) (c_sums' : Nat → Int32) (hf : f_X7_end_1t_inner p2 c_filled c_total c_inner c_schedule c_sums = some (c_filled', c_inner', c_schedule', c_sums')) : Met l yX7_end wsX7_end ({ frames := 2, cells := 0, slots := 0, locals := 46 }) (zPc D cy tt sz [.ref h0, .ref h0_inner, .int p2] ([(h0, .inr (9, [.ref h0_sums, .ref h0_schedule, .ref h0_inner, .int c_filled, .int c_total])), (h0_inner, .inl (cy 0, 32, .inl c_inner)), (h0_schedule, .inl (cy 1, 64, .inl c_schedule)), (h0_sums, .inl (cy 1, 8, .inl c_sums))])) (zQ D none ([(h0, .inr (9, [.ref h0_sums, .ref h0_schedule, .ref h0_inner, .int c_filled', .int c_total])), (h0_inner, .inl (cy 0, 32, .inl c_inner')), (h0_schedule, .inl (cy 1, 64, .inl c_schedule')), (h0_sums, .inl (cy 1, 8, .inl c_sums'))]) (va_A ([(h0, .inr (9, [.ref h0_sums, .ref h0_schedule, .ref h0_inner, .int c_filled, .int c_total])), (h0_inner, .inl (cy 0, 32, .inl c_inner)), (h0_schedule, .inl (cy 1, 64, .inl c_schedule)), (h0_sums, .inl (cy 1, 8, .inl c_sums))]) sz)) 0 0 (va_A ([(h0, .inr (9, [.ref h0_sums, .ref h0_schedule, .ref h0_inner, .int c_filled, .int c_total])), (h0_inner, .inl (cy 0, 32, .inl c_inner)), (h0_schedule, .inl (cy 1, 64, .inl c_schedule)), (h0_sums, .inl (cy 1, 8, .inl c_sums))]) sz) := by
  refine Met.ofW (cc := cX7_end) (maxL := 5) (ret := none) (by decide) rfl ?_
  intro p e s m args below meth c s₁ B hml hv
  obtain ⟨rfl, rfl, hP, hD0, hE⟩ := hv
  have hx := B.exec
  have hb := B.bytes
  have hr := B.returns
  have hts := atoms_spec (ws := wsX7_end) B.pre
  have hown : s.vm.findClass RX7 = some m.cls := findClass_of_methodNamed B.named
  have hlocks := B.notSynchronized
  clear B
  have hD := hD0.self (sz := s.heap.size)
  generalize hAe : va_A ([(h0, .inr (9, [.ref h0_sums, .ref h0_schedule, .ref h0_inner, .int c_filled, .int c_total])), (h0_inner, .inl (cy 0, 32, .inl c_inner)), (h0_schedule, .inl (cy 1, 64, .inl c_schedule)), (h0_sums, .inl (cy 1, 8, .inl c_sums))]) s.heap.size = A at hD hE ⊢
  have hA : ∀ q : Nat, s.heap.size ≤ q → A q := fun q h => by rw [← hAe]; exact Or.inr h
  clear hAe hD0
  have hS : va_S A s.heap s.heap [] := va_S.rf
  have hK := hE.1
  have hw0 := hts (.fieldLink RX7 22 "SealedModule$Sha256" "filled" "I") (by decide +kernel)
  have hw1 := hts (.fieldLink RX7 15 "SealedModule$Sha256" "schedule" "[I") (by decide +kernel)
  have hw2 := hts (.fieldLink RX7 26 "SealedModule$Sha256" "total" "I") (by decide +kernel)
  have hw3 := hts (.fieldLink RX7 9 "SealedModule$Sha256" "sums" "[I") (by decide +kernel)
  have hw4 := hts (.initialized RX9) (by decide +kernel)
  have hw5 := hts (.static yX9_putInt) (by decide +kernel)
  have hcX7 : ∀ w ∈ u_ws RX7 TX7 5, w ∈ wsX7_end := (fun _ h => List.mem_cons_of_mem _ (List.mem_append_left _ (List.mem_append_right _ h)))
  have hl := lv_entry ([.ref h0, .ref h0_inner, .int p2]) (n := 5) (Nat.le_of_ble_eq_true rfl)
  rw [lg_entry_eq]
  generalize (lg_sl ([.ref h0, .ref h0_inner, .int p2]) ++ List.replicate (5 - (lg_sl ([.ref h0, .ref h0_inner, .int p2])).length) Slot.unset).toArray = ls at hl ⊢
  replace hl : lv_has ls 5 [(0, .ref h0), (1, .ref h0_inner), (2, .int p2)] := hl
  unfold f_X7_end_1t_inner at hf
  refine zgo (fun GW hTo hFr => ?_)
  refine hFr _ _ _ ?_
  obtain ⟨H, hHe⟩ : ∃ H, H = s.heap := ⟨_, rfl⟩
  obtain ⟨locs, hLe⟩ : ∃ L : List Loc, L = [] := ⟨_, rfl⟩
  rw [← hHe] at hP
  replace hS : va_S A s.heap H locs := by rw [hHe, hLe]; exact hS
  refine zat hHe.symm hLe.symm ?_
  clear hHe hLe
  refine lv_aload_n (pc := 0) hx hb (zdt_at zt_X7_end_0 0 rfl) rfl (lv_at hl 0 rfl) ?_
  refine va_get (pc := 1) (D := D) (ci := 9) (v := .int c_filled) (C := RX7) (T := TX7) (N := 5) hx hb hts hcX7 hown hK hP 0 rfl rfl 3 (by decide) hw0 (fun _ h9 => h9) rfl (zdt_at zt_X7_end_0 1 rfl) ?_
  refine lv_iconst (pc := 4) (v := (2 : Int32)) hx hb (zdt_at zt_X7_end_0 2 rfl) (by decide) ?_
  refine lv_ishr (pc := 5) hx hb (zdt_at zt_X7_end_0 3 rfl) ?_
  refine lv_topi (fun x_1 e_ => ?_)
  replace hf := zn_s hf e_
  clear e_
  refine lv_istore_n (pc := 6) (lv' := [(3, .int x_1), (0, .ref h0), (1, .ref h0_inner), (2, .int p2)]) hx hb (zdt_at zt_X7_end_0 4 rfl) rfl hl (by decide) rfl ?_
  clear hl
  intro ls hl
  refine lv_aload_n (pc := 7) hx hb (zdt_at zt_X7_end_0 5 rfl) rfl (lv_at hl 1 rfl) ?_
  refine va_get (pc := 8) (D := D) (ci := 9) (v := .ref h0_schedule) (C := RX7) (T := TX7) (N := 5) hx hb hts hcX7 hown hK hP 0 rfl rfl 1 (by decide) hw1 (fun _ h9 => h9) rfl (zdt_at zt_X7_end_0 6 rfl) ?_
  refine lv_iload_n (pc := 11) hx hb (zdt_at zt_X7_end_0 7 rfl) rfl (lv_at hl 0 rfl) ?_
  refine lv_aload_n (pc := 12) hx hb (zdt_at zt_X7_end_0 8 rfl) rfl (lv_at hl 1 rfl) ?_
  refine va_get (pc := 13) (D := D) (ci := 9) (v := .ref h0_schedule) (C := RX7) (T := TX7) (N := 5) hx hb hts hcX7 hown hK hP 0 rfl rfl 1 (by decide) hw1 (fun _ h9 => h9) rfl (zdt_at zt_X7_end_0 9 rfl) ?_
  refine lv_iload_n (pc := 16) hx hb (zdt_at zt_X7_end_0 10 rfl) rfl (lv_at hl 0 rfl) ?_
  replace hf := zk_s hf
  refine va_iald (pc := 17) hx hb hK hP 2 1 rfl rfl hf.1 (zdt_at zt_X7_end_0 11 rfl) ?_
  replace hf := hf.2
  refine lv_bipush (pc := 18) (v := (8 : Int32)) hx hb (zdt_at zt_X7_end_0 12 rfl) (by decide) ?_
  refine lv_ishl (pc := 20) hx hb (zdt_at zt_X7_end_0 13 rfl) ?_
  refine lv_sipush (pc := 21) (v := (128 : Int32)) hx hb (zdt_at zt_X7_end_0 14 rfl) (by decide) ?_
  refine lv_ior (pc := 24) hx hb (zdt_at zt_X7_end_0 15 rfl) ?_
  refine lv_bipush (pc := 25) (v := (24 : Int32)) hx hb (zdt_at zt_X7_end_0 16 rfl) (by decide) ?_
  refine lv_bipush (pc := 27) (v := (8 : Int32)) hx hb (zdt_at zt_X7_end_0 17 rfl) (by decide) ?_
  refine lv_aload_n (pc := 29) hx hb (zdt_at zt_X7_end_0 18 rfl) rfl (lv_at hl 1 rfl) ?_
  refine va_get (pc := 30) (D := D) (ci := 9) (v := .int c_filled) (C := RX7) (T := TX7) (N := 5) hx hb hts hcX7 hown hK hP 0 rfl rfl 3 (by decide) hw0 (fun _ h9 => h9) rfl (zdt_at zt_X7_end_0 19 rfl) ?_
  refine lv_iconst (pc := 33) (v := (3 : Int32)) hx hb (zdt_at zt_X7_end_0 20 rfl) (by decide) ?_
  refine lv_iand (pc := 34) hx hb (zdt_at zt_X7_end_0 21 rfl) ?_
  refine lv_imul (pc := 35) hx hb (zdt_at zt_X7_end_0 22 rfl) ?_
  refine lv_isub (pc := 36) hx hb (zdt_at zt_X7_end_0 23 rfl) ?_
  refine lv_ishl (pc := 37) hx hb (zdt_at zt_X7_end_0 24 rfl) ?_
  replace hf := zk_s hf
  refine va_iast (pc := 38) hx hb hK hP hD hS 2 1 rfl rfl hf.1 (zdt_at zt_X7_end_0 25 rfl) ?_
  replace hf := hf.2
  clear hP hD hS
  intro H locs hP hD hS
  obtain ⟨c_schedule_2, e_⟩ : ∃ q : Nat → Int32, q = (upd c_schedule x_1.toNatClampNeg ((((c_schedule x_1.toNatClampNeg) <<< ((8 : Int32) &&& 31)) ||| (128 : Int32)) <<< (((24 : Int32) - ((8 : Int32) * (c_filled &&& (3 : Int32)))) &&& 31))) := ⟨_, rfl⟩
  replace hf := zn_s hf e_
  replace hP : va_P D vwCl ([(h0, .inr (9, [.ref h0_sums, .ref h0_schedule, .ref h0_inner, .int c_filled, .int c_total])), (h0_inner, .inl (cy 0, 32, .inl c_inner)), (h0_schedule, .inl (cy 1, 64, .inl c_schedule_2)), (h0_sums, .inl (cy 1, 8, .inl c_sums))]) H := by rw [e_]; exact hP
  replace hD : va_D A ([(h0, .inr (9, [.ref h0_sums, .ref h0_schedule, .ref h0_inner, .int c_filled, .int c_total])), (h0_inner, .inl (cy 0, 32, .inl c_inner)), (h0_schedule, .inl (cy 1, 64, .inl c_schedule_2)), (h0_sums, .inl (cy 1, 8, .inl c_sums))]) := by rw [e_]; exact hD
  clear e_
  refine lv_aload_n (pc := 39) hx hb (zdt_at zt_X7_end_0 26 rfl) rfl (lv_at hl 1 rfl) ?_
  refine va_get (pc := 40) (D := D) (ci := 9) (v := .ref h0_schedule) (C := RX7) (T := TX7) (N := 5) hx hb hts hcX7 hown hK hP 0 rfl rfl 1 (by decide) hw1 (fun _ h9 => h9) rfl (zdt_at zt_X7_end_0 27 rfl) ?_
  refine lv_iload_n (pc := 43) hx hb (zdt_at zt_X7_end_0 28 rfl) rfl (lv_at hl 0 rfl) ?_
  refine lv_iconst (pc := 44) (v := (1 : Int32)) hx hb (zdt_at zt_X7_end_0 29 rfl) (by decide) ?_
  refine lv_iadd (pc := 45) hx hb (zdt_at zt_X7_end_0 30 rfl) ?_
  refine lv_bipush (pc := 46) (v := (16 : Int32)) hx hb (zdt_at zt_X7_end_0 31 rfl) (by decide) ?_
  refine lv_iconst (pc := 48) (v := (0 : Int32)) hx hb (zdt_at zt_X7_end_0 32 rfl) (by decide) ?_
  replace hf := zb_s hf
  obtain ⟨c_schedule_3, hc_, hf⟩ := hf
  refine zcn2 (pc := 49) (rv := none) (va_runS (As := [.ref h0_schedule, .int (x_1 + (1 : Int32)), .int (16 : Int32), .int (0 : Int32)]) (rest := []) ⟨hx, hb, hml, hown, hts⟩ (c_J7_fill_fda19 l D cy tt H.size h0_schedule 64 (x_1 + (1 : Int32)) (16 : Int32) (0 : Int32) c_schedule_2 c_schedule_3 hc_) (va_cwS 4 hts gX7_end_J7_fill_fda19 rfl rfl rfl (by decide +kernel) ⟨Nat.le_of_ble_eq_true rfl, Nat.le_of_ble_eq_true rfl⟩) ⟨zblind, zpre hE hS (hP.sub [2] rfl) (hD.sub [2] (by decide) rfl) (va_free hD hS hA [2] rfl)⟩ rfl rfl hl.1 rfl (lv_room (Nat.le_of_ble_eq_true rfl)) (zdt_at zt_X7_end_0 33 rfl) ⟨Nat.zero_le _, Nat.zero_le _⟩) hS hP hD (va_free hD hS hA [2] rfl) [2] rfl (by decide) rfl ?_
  clear hP hD hS hc_
  intro H locs hP hD hS
  replace hP : va_P D vwCl ([(h0, .inr (9, [.ref h0_sums, .ref h0_schedule, .ref h0_inner, .int c_filled, .int c_total])), (h0_inner, .inl (cy 0, 32, .inl c_inner)), (h0_schedule, .inl (cy 1, 64, .inl c_schedule_3)), (h0_sums, .inl (cy 1, 8, .inl c_sums))]) H := hP
  replace hD : va_D A ([(h0, .inr (9, [.ref h0_sums, .ref h0_schedule, .ref h0_inner, .int c_filled, .int c_total])), (h0_inner, .inl (cy 0, 32, .inl c_inner)), (h0_schedule, .inl (cy 1, 64, .inl c_schedule_3)), (h0_sums, .inl (cy 1, 8, .inl c_sums))]) := hD
  refine W.eq (g2 := F0 m 52 ls []) rfl ?_
  refine lv_aload_n (pc := 52) hx hb (zdt_at zt_X7_end_0 34 rfl) rfl (lv_at hl 1 rfl) ?_
  refine va_get (pc := 53) (D := D) (ci := 9) (v := .int c_filled) (C := RX7) (T := TX7) (N := 5) hx hb hts hcX7 hown hK hP 0 rfl rfl 3 (by decide) hw0 (fun _ h9 => h9) rfl (zdt_at zt_X7_end_0 35 rfl) ?_
  refine lv_bipush (pc := 56) (v := (56 : Int32)) hx hb (zdt_at zt_X7_end_0 36 rfl) (by decide) ?_
  replace hf := zj_s hf
  obtain ⟨K_7, eK_7, hf⟩ := hf
  have kK_7 : ∀ (c_filled_4 : Int32) (c_schedule_5 : Nat → Int32) (c_sums_6 : Nat → Int32) (H : Heap) (locs : List Loc) (ls : Array Slot), va_P D vwCl ([(h0, .inr (9, [.ref h0_sums, .ref h0_schedule, .ref h0_inner, .int c_filled_4, .int c_total])), (h0_inner, .inl (cy 0, 32, .inl c_inner)), (h0_schedule, .inl (cy 1, 64, .inl c_schedule_5)), (h0_sums, .inl (cy 1, 8, .inl c_sums_6))]) H → va_D A ([(h0, .inr (9, [.ref h0_sums, .ref h0_schedule, .ref h0_inner, .int c_filled_4, .int c_total])), (h0_inner, .inl (cy 0, 32, .inl c_inner)), (h0_schedule, .inl (cy 1, 64, .inl c_schedule_5)), (h0_sums, .inl (cy 1, 8, .inl c_sums_6))]) → va_S A s.heap H locs → lv_has ls 5 [(0, .ref h0), (1, .ref h0_inner), (2, .int p2)] → K_7 c_filled_4 c_schedule_5 c_sums_6 = some (c_filled', c_inner', c_schedule', c_sums') → GW H locs (F0 m 76 ls []) := by
    clear hf hl hP hD hS
    intro c_filled_4 c_schedule_5 c_sums_6 H locs ls hP hD hS hl hf
    rw [eK_7] at hf
    clear eK_7
    refine hFr _ _ _ ?_
    refine lv_aload_n (pc := 76) hx hb (zdt_at zt_X7_end_0 46 rfl) rfl (lv_at hl 0 rfl) ?_
    refine va_get (pc := 77) (D := D) (ci := 9) (v := .ref h0_schedule) (C := RX7) (T := TX7) (N := 5) hx hb hts hcX7 hown hK hP 0 rfl rfl 1 (by decide) hw1 (fun _ h9 => h9) rfl (zdt_at zt_X7_end_0 47 rfl) ?_
    refine lv_bipush (pc := 80) (v := (15 : Int32)) hx hb (zdt_at zt_X7_end_0 48 rfl) (by decide) ?_
    refine lv_bipush (pc := 82) (v := (8 : Int32)) hx hb (zdt_at zt_X7_end_0 49 rfl) (by decide) ?_
    refine lv_aload_n (pc := 84) hx hb (zdt_at zt_X7_end_0 50 rfl) rfl (lv_at hl 0 rfl) ?_
    refine va_get (pc := 85) (D := D) (ci := 9) (v := .int c_total) (C := RX7) (T := TX7) (N := 5) hx hb hts hcX7 hown hK hP 0 rfl rfl 4 (by decide) hw2 (fun _ h9 => h9) rfl (zdt_at zt_X7_end_0 51 rfl) ?_
    refine lv_imul (pc := 88) hx hb (zdt_at zt_X7_end_0 52 rfl) ?_
    replace hf := zk_s hf
    refine va_iast (pc := 89) hx hb hK hP hD hS 2 1 rfl rfl hf.1 (zdt_at zt_X7_end_0 53 rfl) ?_
    replace hf := hf.2
    clear hP hD hS
    intro H locs hP hD hS
    obtain ⟨c_schedule_8, e_⟩ : ∃ q : Nat → Int32, q = (upd c_schedule_5 (15 : Int32).toNatClampNeg ((8 : Int32) * c_total)) := ⟨_, rfl⟩
    replace hf := zn_s hf e_
    replace hP : va_P D vwCl ([(h0, .inr (9, [.ref h0_sums, .ref h0_schedule, .ref h0_inner, .int c_filled_4, .int c_total])), (h0_inner, .inl (cy 0, 32, .inl c_inner)), (h0_schedule, .inl (cy 1, 64, .inl c_schedule_8)), (h0_sums, .inl (cy 1, 8, .inl c_sums_6))]) H := by rw [e_]; exact hP
    replace hD : va_D A ([(h0, .inr (9, [.ref h0_sums, .ref h0_schedule, .ref h0_inner, .int c_filled_4, .int c_total])), (h0_inner, .inl (cy 0, 32, .inl c_inner)), (h0_schedule, .inl (cy 1, 64, .inl c_schedule_8)), (h0_sums, .inl (cy 1, 8, .inl c_sums_6))]) := by rw [e_]; exact hD
    clear e_
    refine lv_aload_n (pc := 90) hx hb (zdt_at zt_X7_end_0 54 rfl) rfl (lv_at hl 0 rfl) ?_
    replace hf := zb_s hf
    obtain ⟨⟨c_filled_9, c_schedule_10, c_sums_11⟩, hc_, hf⟩ := hf
    refine zcn2 (pc := 91) (rv := none) (va_runV (As := []) (rest := []) ⟨hx, hb, hml, hown, hts⟩ (c_X7_compress l D cy tt H.size h0 h0_sums h0_schedule h0_inner c_filled_4 c_schedule_8 c_sums_6 c_total c_filled_9 c_schedule_10 c_sums_11 hc_) (cwV 0 hts gX7_end_X7_compress rfl rfl rfl (by decide +kernel) ⟨Nat.le_of_ble_eq_true rfl, Nat.le_of_ble_eq_true rfl⟩) ⟨zblind, va_recv hK hP (ci := 9) (q0 := 0) rfl rfl, zpre hE hS (hP.sub [0, 2, 3] rfl) (hD.sub [0, 2, 3] (by decide) rfl) (va_free hD hS hA [0, 2, 3] rfl)⟩ rfl rfl hl.1 rfl (lv_room (Nat.le_of_ble_eq_true rfl)) (zdt_at zt_X7_end_0 55 rfl) ⟨Nat.zero_le _, Nat.zero_le _⟩) hS hP hD (va_free hD hS hA [0, 2, 3] rfl) [0, 2, 3] rfl (by decide) rfl ?_
    clear hP hD hS hc_
    intro H locs hP hD hS
    replace hP : va_P D vwCl ([(h0, .inr (9, [.ref h0_sums, .ref h0_schedule, .ref h0_inner, .int c_filled_9, .int c_total])), (h0_inner, .inl (cy 0, 32, .inl c_inner)), (h0_schedule, .inl (cy 1, 64, .inl c_schedule_10)), (h0_sums, .inl (cy 1, 8, .inl c_sums_11))]) H := hP
    replace hD : va_D A ([(h0, .inr (9, [.ref h0_sums, .ref h0_schedule, .ref h0_inner, .int c_filled_9, .int c_total])), (h0_inner, .inl (cy 0, 32, .inl c_inner)), (h0_schedule, .inl (cy 1, 64, .inl c_schedule_10)), (h0_sums, .inl (cy 1, 8, .inl c_sums_11))]) := hD
    refine W.eq (g2 := F0 m 94 ls []) rfl ?_
    refine lv_iconst (pc := 94) (v := (0 : Int32)) hx hb (zdt_at zt_X7_end_0 56 rfl) (by decide) ?_
    refine lv_istore (pc := 95) (lv' := [(4, .int (0 : Int32)), (0, .ref h0), (1, .ref h0_inner), (2, .int p2)]) hx hb (zdt_at zt_X7_end_0 57 rfl) hl (by decide) rfl ?_
    clear hl
    intro ls hl
    replace hf := zj_s hf
    obtain ⟨K_15, eK_15, hf⟩ := hf
    have kK_15 : ∀ (c_inner_14 : Nat → Int32) (H : Heap) (locs : List Loc) (ls : Array Slot), va_P D vwCl ([(h0, .inr (9, [.ref h0_sums, .ref h0_schedule, .ref h0_inner, .int c_filled_9, .int c_total])), (h0_inner, .inl (cy 0, 32, .inl c_inner_14)), (h0_schedule, .inl (cy 1, 64, .inl c_schedule_10)), (h0_sums, .inl (cy 1, 8, .inl c_sums_11))]) H → va_D A ([(h0, .inr (9, [.ref h0_sums, .ref h0_schedule, .ref h0_inner, .int c_filled_9, .int c_total])), (h0_inner, .inl (cy 0, 32, .inl c_inner_14)), (h0_schedule, .inl (cy 1, 64, .inl c_schedule_10)), (h0_sums, .inl (cy 1, 8, .inl c_sums_11))]) → va_S A s.heap H locs → lv_has ls 5 [] → K_15 c_inner_14 = some (c_filled', c_inner', c_schedule', c_sums') → GW H locs (F0 m 127 ls []) := by
      clear hf hl hP hD hS
      intro c_inner_14 H locs ls hP hD hS hl hf
      rw [eK_15] at hf
      clear eK_15
      refine hFr _ _ _ ?_
      cases hf
      exact W.vret (pc := 127) hx hb hr (fun t ht hW => ⟨rfl, ⟨by rw [ht]; exact hP, hD⟩, hS.F ht⟩) hS.2.2 (zdt_at zt_X7_end_1 10 rfl)
    clear eK_15
    refine hTo _ _ _ (zl_go (fun z => match z with | (i_12, c_inner_13) => ∀ (H : Heap) (locs : List Loc) (ls : Array Slot), va_P D vwCl ([(h0, .inr (9, [.ref h0_sums, .ref h0_schedule, .ref h0_inner, .int c_filled_9, .int c_total])), (h0_inner, .inl (cy 0, 32, .inl c_inner_13)), (h0_schedule, .inl (cy 1, 64, .inl c_schedule_10)), (h0_sums, .inl (cy 1, 8, .inl c_sums_11))]) H → va_D A ([(h0, .inr (9, [.ref h0_sums, .ref h0_schedule, .ref h0_inner, .int c_filled_9, .int c_total])), (h0_inner, .inl (cy 0, 32, .inl c_inner_13)), (h0_schedule, .inl (cy 1, 64, .inl c_schedule_10)), (h0_sums, .inl (cy 1, 8, .inl c_sums_11))]) → va_S A s.heap H locs → lv_has ls 5 [(0, .ref h0), (1, .ref h0_inner), (2, .int p2), (4, .int i_12)] → GW H locs (F0 m 97 ls [])) hf ?_ H locs ls hP hD hS (lv_sub hl [1, 2, 3, 0] rfl))
    clear hf hl hP hD hS
    intro self_16 ihself_16 z hf
    obtain ⟨i_12, c_inner_13⟩ := z
    intro H locs ls hP hD hS hl
    refine hFr _ _ _ ?_
    unfold b_X7_end_1t_inner_97 at hf
    refine lv_iload (pc := 97) hx hb (zdt_at zt_X7_end_0 58 rfl) (lv_at hl 3 rfl) ?_
    refine lv_bipush (pc := 99) (v := (8 : Int32)) hx hb (zdt_at zt_X7_end_0 59 rfl) (by decide) ?_
    refine lv_icmp_ge (pc := 101) (tgt := 127) hx hb (zdt_at zt_X7_end_0 60 rfl) (by decide) (fun cn_ => ?t_17) (fun cn_ => ?f_18)
    case t_17 =>
      replace hf := zt_s cn_ hf
      clear cn_
      exact hTo _ _ _ (kK_15 _ H locs ls hP hD hS (lv_sub hl [] rfl) hf)
    replace hf := ze_s cn_ hf
    clear cn_
    refine lv_aload_n (pc := 104) hx hb (zdt_at zt_X7_end_0 61 rfl) rfl (lv_at hl 1 rfl) ?_
    refine lv_iload_n (pc := 105) hx hb (zdt_at zt_X7_end_0 62 rfl) rfl (lv_at hl 2 rfl) ?_
    refine lv_iconst (pc := 106) (v := (4 : Int32)) hx hb (zdt_at zt_X7_end_0 63 rfl) (by decide) ?_
    refine lv_iload (pc := 107) hx hb (zdt_at zt_X7_end_1 0 rfl) (lv_at hl 3 rfl) ?_
    refine lv_imul (pc := 109) hx hb (zdt_at zt_X7_end_1 1 rfl) ?_
    refine lv_iadd (pc := 110) hx hb (zdt_at zt_X7_end_1 2 rfl) ?_
    refine lv_aload_n (pc := 111) hx hb (zdt_at zt_X7_end_1 3 rfl) rfl (lv_at hl 0 rfl) ?_
    refine va_get (pc := 112) (D := D) (ci := 9) (v := .ref h0_sums) (C := RX7) (T := TX7) (N := 5) hx hb hts hcX7 hown hK hP 0 rfl rfl 0 (by decide) hw3 (fun _ h9 => h9) rfl (zdt_at zt_X7_end_1 4 rfl) ?_
    refine lv_iload (pc := 115) hx hb (zdt_at zt_X7_end_1 5 rfl) (lv_at hl 3 rfl) ?_
    replace hf := zk_s hf
    refine va_iald (pc := 117) hx hb hK hP 3 1 rfl rfl hf.1 (zdt_at zt_X7_end_1 6 rfl) ?_
    replace hf := hf.2
    replace hf := zb_s hf
    obtain ⟨c_inner_19, hc_, hf⟩ := hf
    refine zcn2 (pc := 118) (rv := none) (va_runSN (As := [.ref h0_inner, .int (p2 + ((4 : Int32) * i_12)), .int (c_sums_11 i_12.toNatClampNeg)]) (rest := []) ⟨hx, hb, hml, hown, hts⟩ (c_X9_putInt l D cy tt H.size h0_inner 32 (p2 + ((4 : Int32) * i_12)) (c_sums_11 i_12.toNatClampNeg) c_inner_13 c_inner_19 hc_) ⟨va_cnB 3 hts gX7_end_X9_putInt_n47 rfl rfl rfl (gNs_14 hE.2.1) hw4 (by decide +kernel) ⟨Nat.le_of_ble_eq_true rfl, Nat.le_of_ble_eq_true rfl⟩, hw5, trivial⟩ ⟨zblind, zpre hE hS (hP.sub [1] rfl) (hD.sub [1] (by decide) rfl) (va_free hD hS hA [1] rfl)⟩ rfl rfl hl.1 rfl (lv_room (Nat.le_of_ble_eq_true rfl)) (zdt_at zt_X7_end_1 7 rfl) ⟨Nat.zero_le _, Nat.zero_le _⟩) hS hP hD (va_free hD hS hA [1] rfl) [1] rfl (by decide) rfl ?_
    clear hP hD hS hc_
    intro H locs hP hD hS
    replace hP : va_P D vwCl ([(h0, .inr (9, [.ref h0_sums, .ref h0_schedule, .ref h0_inner, .int c_filled_9, .int c_total])), (h0_inner, .inl (cy 0, 32, .inl c_inner_19)), (h0_schedule, .inl (cy 1, 64, .inl c_schedule_10)), (h0_sums, .inl (cy 1, 8, .inl c_sums_11))]) H := hP
    replace hD : va_D A ([(h0, .inr (9, [.ref h0_sums, .ref h0_schedule, .ref h0_inner, .int c_filled_9, .int c_total])), (h0_inner, .inl (cy 0, 32, .inl c_inner_19)), (h0_schedule, .inl (cy 1, 64, .inl c_schedule_10)), (h0_sums, .inl (cy 1, 8, .inl c_sums_11))]) := hD
    refine W.eq (g2 := F0 m 121 ls []) rfl ?_
    refine lv_iinc (pc := 121) (v := (i_12 + (1 : Int32))) (lv' := [(4, .int (i_12 + (1 : Int32))), (0, .ref h0), (1, .ref h0_inner), (2, .int p2)]) hx hb (zdt_at zt_X7_end_1 8 rfl) hl (k := 3) rfl rfl (by decide) rfl ?_
    clear hl
    intro ls hl
    refine lv_goto (pc := 124) (tgt := 97) hx hb (zdt_at zt_X7_end_1 9 rfl) (by decide) ?_
    exact hTo _ _ _ (ihself_16 _ hf H locs ls hP hD hS (lv_sub hl [1, 2, 3, 0] rfl))
  clear eK_7
  refine lv_icmp_lt (pc := 58) (tgt := 76) hx hb (zdt_at zt_X7_end_0 37 rfl) (by decide) (fun cn_ => ?t_20) (fun cn_ => ?f_21)
  case t_20 =>
    replace hf := zt_s cn_ hf
    clear cn_
    exact hTo _ _ _ (kK_7 _ _ _ H locs ls hP hD hS (lv_sub hl [1, 2, 3] rfl) hf)
  replace hf := ze_s cn_ hf
  clear cn_
  refine lv_aload_n (pc := 61) hx hb (zdt_at zt_X7_end_0 38 rfl) rfl (lv_at hl 1 rfl) ?_
  replace hf := zb_s hf
  obtain ⟨⟨c_filled_22, c_schedule_23, c_sums_24⟩, hc_, hf⟩ := hf
  refine zcn2 (pc := 62) (rv := none) (va_runV (As := []) (rest := []) ⟨hx, hb, hml, hown, hts⟩ (c_X7_compress l D cy tt H.size h0 h0_sums h0_schedule h0_inner c_filled c_schedule_3 c_sums c_total c_filled_22 c_schedule_23 c_sums_24 hc_) (cwV 0 hts gX7_end_X7_compress rfl rfl rfl (by decide +kernel) ⟨Nat.le_of_ble_eq_true rfl, Nat.le_of_ble_eq_true rfl⟩) ⟨zblind, va_recv hK hP (ci := 9) (q0 := 0) rfl rfl, zpre hE hS (hP.sub [0, 2, 3] rfl) (hD.sub [0, 2, 3] (by decide) rfl) (va_free hD hS hA [0, 2, 3] rfl)⟩ rfl rfl hl.1 rfl (lv_room (Nat.le_of_ble_eq_true rfl)) (zdt_at zt_X7_end_0 39 rfl) ⟨Nat.zero_le _, Nat.zero_le _⟩) hS hP hD (va_free hD hS hA [0, 2, 3] rfl) [0, 2, 3] rfl (by decide) rfl ?_
  clear hP hD hS hc_
  intro H locs hP hD hS
  replace hP : va_P D vwCl ([(h0, .inr (9, [.ref h0_sums, .ref h0_schedule, .ref h0_inner, .int c_filled_22, .int c_total])), (h0_inner, .inl (cy 0, 32, .inl c_inner)), (h0_schedule, .inl (cy 1, 64, .inl c_schedule_23)), (h0_sums, .inl (cy 1, 8, .inl c_sums_24))]) H := hP
  replace hD : va_D A ([(h0, .inr (9, [.ref h0_sums, .ref h0_schedule, .ref h0_inner, .int c_filled_22, .int c_total])), (h0_inner, .inl (cy 0, 32, .inl c_inner)), (h0_schedule, .inl (cy 1, 64, .inl c_schedule_23)), (h0_sums, .inl (cy 1, 8, .inl c_sums_24))]) := hD
  refine W.eq (g2 := F0 m 65 ls []) rfl ?_
  refine lv_aload_n (pc := 65) hx hb (zdt_at zt_X7_end_0 40 rfl) rfl (lv_at hl 1 rfl) ?_
  refine va_get (pc := 66) (D := D) (ci := 9) (v := .ref h0_schedule) (C := RX7) (T := TX7) (N := 5) hx hb hts hcX7 hown hK hP 0 rfl rfl 1 (by decide) hw1 (fun _ h9 => h9) rfl (zdt_at zt_X7_end_0 41 rfl) ?_
  refine lv_iconst (pc := 69) (v := (0 : Int32)) hx hb (zdt_at zt_X7_end_0 42 rfl) (by decide) ?_
  refine lv_bipush (pc := 70) (v := (16 : Int32)) hx hb (zdt_at zt_X7_end_0 43 rfl) (by decide) ?_
  refine lv_iconst (pc := 72) (v := (0 : Int32)) hx hb (zdt_at zt_X7_end_0 44 rfl) (by decide) ?_
  replace hf := zb_s hf
  obtain ⟨c_schedule_25, hc_, hf⟩ := hf
  refine zcn2 (pc := 73) (rv := none) (va_runS (As := [.ref h0_schedule, .int (0 : Int32), .int (16 : Int32), .int (0 : Int32)]) (rest := []) ⟨hx, hb, hml, hown, hts⟩ (c_J7_fill_fda19 l D cy tt H.size h0_schedule 64 (0 : Int32) (16 : Int32) (0 : Int32) c_schedule_23 c_schedule_25 hc_) (va_cwS 4 hts gX7_end_J7_fill_fda19 rfl rfl rfl (by decide +kernel) ⟨Nat.le_of_ble_eq_true rfl, Nat.le_of_ble_eq_true rfl⟩) ⟨zblind, zpre hE hS (hP.sub [2] rfl) (hD.sub [2] (by decide) rfl) (va_free hD hS hA [2] rfl)⟩ rfl rfl hl.1 rfl (lv_room (Nat.le_of_ble_eq_true rfl)) (zdt_at zt_X7_end_0 45 rfl) ⟨Nat.zero_le _, Nat.zero_le _⟩) hS hP hD (va_free hD hS hA [2] rfl) [2] rfl (by decide) rfl ?_
  clear hP hD hS hc_
  intro H locs hP hD hS
  replace hP : va_P D vwCl ([(h0, .inr (9, [.ref h0_sums, .ref h0_schedule, .ref h0_inner, .int c_filled_22, .int c_total])), (h0_inner, .inl (cy 0, 32, .inl c_inner)), (h0_schedule, .inl (cy 1, 64, .inl c_schedule_25)), (h0_sums, .inl (cy 1, 8, .inl c_sums_24))]) H := hP
  replace hD : va_D A ([(h0, .inr (9, [.ref h0_sums, .ref h0_schedule, .ref h0_inner, .int c_filled_22, .int c_total])), (h0_inner, .inl (cy 0, 32, .inl c_inner)), (h0_schedule, .inl (cy 1, 64, .inl c_schedule_25)), (h0_sums, .inl (cy 1, 8, .inl c_sums_24))]) := hD
  refine W.eq (g2 := F0 m 76 ls []) rfl ?_
  exact hTo _ _ _ (kK_7 _ _ _ H locs ls hP hD hS (lv_sub hl [1, 2, 3] rfl) hf)
set_option maxHeartbeats 4000000 in
set_option maxRecDepth 100000 in
theorem c_X7_take_1t_inner (l : Launch) (D : va_G) (cy : Nat → ClassId) (tt : Nat → Nat) (sz : Nat) (h0 : Nat) (h0_sums : Nat) (h0_schedule : Nat) (h0_inner : Nat) (p2 : Int32) (p3 : Int32) (c_filled : Int32) (c_total : Int32) (c_inner : Nat → Int32) (c_schedule : Nat → Int32) (c_sums : Nat → Int32) (c_filled' : Int32) (c_total' : Int32) (c_schedule' : Nat → Int32) (c_sums' : Nat → Int32) (hf : f_X7_take_1t_inner p2 p3 c_filled c_total c_inner c_schedule c_sums = some (c_filled', c_total', c_schedule', c_sums')) : Met l yX7_take wsX7_take ({ frames := 1, cells := 0, slots := 0, locals := 32 }) (zPc D cy tt sz [.ref h0, .ref h0_inner, .int p2, .int p3] ([(h0, .inr (9, [.ref h0_sums, .ref h0_schedule, .ref h0_inner, .int c_filled, .int c_total])), (h0_inner, .inl (cy 0, 32, .inl c_inner)), (h0_schedule, .inl (cy 1, 64, .inl c_schedule)), (h0_sums, .inl (cy 1, 8, .inl c_sums))])) (zQ D none ([(h0, .inr (9, [.ref h0_sums, .ref h0_schedule, .ref h0_inner, .int c_filled', .int c_total'])), (h0_inner, .inl (cy 0, 32, .inl c_inner)), (h0_schedule, .inl (cy 1, 64, .inl c_schedule')), (h0_sums, .inl (cy 1, 8, .inl c_sums'))]) (va_A ([(h0, .inr (9, [.ref h0_sums, .ref h0_schedule, .ref h0_inner, .int c_filled, .int c_total])), (h0_inner, .inl (cy 0, 32, .inl c_inner)), (h0_schedule, .inl (cy 1, 64, .inl c_schedule)), (h0_sums, .inl (cy 1, 8, .inl c_sums))]) sz)) 0 0 (va_A ([(h0, .inr (9, [.ref h0_sums, .ref h0_schedule, .ref h0_inner, .int c_filled, .int c_total])), (h0_inner, .inl (cy 0, 32, .inl c_inner)), (h0_schedule, .inl (cy 1, 64, .inl c_schedule)), (h0_sums, .inl (cy 1, 8, .inl c_sums))]) sz) := by
  refine Met.ofW (cc := cX7_take) (maxL := 6) (ret := none) (by decide) rfl ?_
  intro p e s m args below meth c s₁ B hml hv
  obtain ⟨rfl, rfl, hP, hD0, hE⟩ := hv
  have hx := B.exec
  have hb := B.bytes
  have hr := B.returns
  have hts := atoms_spec (ws := wsX7_take) B.pre
  have hown : s.vm.findClass RX7 = some m.cls := findClass_of_methodNamed B.named
  have hlocks := B.notSynchronized
  clear B
  have hD := hD0.self (sz := s.heap.size)
  generalize hAe : va_A ([(h0, .inr (9, [.ref h0_sums, .ref h0_schedule, .ref h0_inner, .int c_filled, .int c_total])), (h0_inner, .inl (cy 0, 32, .inl c_inner)), (h0_schedule, .inl (cy 1, 64, .inl c_schedule)), (h0_sums, .inl (cy 1, 8, .inl c_sums))]) s.heap.size = A at hD hE ⊢
  have hA : ∀ q : Nat, s.heap.size ≤ q → A q := fun q h => by rw [← hAe]; exact Or.inr h
  clear hAe hD0
  have hS : va_S A s.heap s.heap [] := va_S.rf
  have hK := hE.1
  have hw0 := hts (.fieldLink RX7 26 "SealedModule$Sha256" "total" "I") (by decide +kernel)
  have hw1 := hts (.fieldLink RX7 22 "SealedModule$Sha256" "filled" "I") (by decide +kernel)
  have hw2 := hts (.fieldLink RX7 15 "SealedModule$Sha256" "schedule" "[I") (by decide +kernel)
  have hcX7 : ∀ w ∈ u_ws RX7 TX7 5, w ∈ wsX7_take := (fun _ h => List.mem_cons_of_mem _ (List.mem_append_right _ h))
  have hl := lv_entry ([.ref h0, .ref h0_inner, .int p2, .int p3]) (n := 6) (Nat.le_of_ble_eq_true rfl)
  rw [lg_entry_eq]
  generalize (lg_sl ([.ref h0, .ref h0_inner, .int p2, .int p3]) ++ List.replicate (6 - (lg_sl ([.ref h0, .ref h0_inner, .int p2, .int p3])).length) Slot.unset).toArray = ls at hl ⊢
  replace hl : lv_has ls 6 [(0, .ref h0), (1, .ref h0_inner), (2, .int p2), (3, .int p3)] := hl
  unfold f_X7_take_1t_inner at hf
  refine zgo (fun GW hTo hFr => ?_)
  refine hFr _ _ _ ?_
  obtain ⟨H, hHe⟩ : ∃ H, H = s.heap := ⟨_, rfl⟩
  obtain ⟨locs, hLe⟩ : ∃ L : List Loc, L = [] := ⟨_, rfl⟩
  rw [← hHe] at hP
  replace hS : va_S A s.heap H locs := by rw [hHe, hLe]; exact hS
  refine zat hHe.symm hLe.symm ?_
  clear hHe hLe
  refine lv_iconst (pc := 0) (v := (0 : Int32)) hx hb (zdt_at zt_X7_take_0 0 rfl) (by decide) ?_
  refine lv_istore (pc := 1) (lv' := [(4, .int (0 : Int32)), (0, .ref h0), (1, .ref h0_inner), (2, .int p2), (3, .int p3)]) hx hb (zdt_at zt_X7_take_0 1 rfl) hl (by decide) rfl ?_
  clear hl
  intro ls hl
  replace hf := zj_s hf
  obtain ⟨K_8, eK_8, hf⟩ := hf
  have kK_8 : ∀ (c_filled_5 : Int32) (c_schedule_6 : Nat → Int32) (c_sums_7 : Nat → Int32) (H : Heap) (locs : List Loc) (ls : Array Slot), va_P D vwCl ([(h0, .inr (9, [.ref h0_sums, .ref h0_schedule, .ref h0_inner, .int c_filled_5, .int c_total])), (h0_inner, .inl (cy 0, 32, .inl c_inner)), (h0_schedule, .inl (cy 1, 64, .inl c_schedule_6)), (h0_sums, .inl (cy 1, 8, .inl c_sums_7))]) H → va_D A ([(h0, .inr (9, [.ref h0_sums, .ref h0_schedule, .ref h0_inner, .int c_filled_5, .int c_total])), (h0_inner, .inl (cy 0, 32, .inl c_inner)), (h0_schedule, .inl (cy 1, 64, .inl c_schedule_6)), (h0_sums, .inl (cy 1, 8, .inl c_sums_7))]) → va_S A s.heap H locs → lv_has ls 6 [(0, .ref h0), (3, .int p3)] → K_8 c_filled_5 c_schedule_6 c_sums_7 = some (c_filled', c_total', c_schedule', c_sums') → GW H locs (F0 m 74 ls []) := by
    clear hf hl hP hD hS
    intro c_filled_5 c_schedule_6 c_sums_7 H locs ls hP hD hS hl hf
    rw [eK_8] at hf
    clear eK_8
    refine hFr _ _ _ ?_
    refine lv_aload_n (pc := 74) hx hb (zdt_at zt_X7_take_0 42 rfl) rfl (lv_at hl 0 rfl) ?_
    refine lv_dup (pc := 75) hx hb (zdt_at zt_X7_take_0 43 rfl) rfl ?_
    refine va_get (pc := 76) (D := D) (ci := 9) (v := .int c_total) (C := RX7) (T := TX7) (N := 5) hx hb hts hcX7 hown hK hP 0 rfl rfl 4 (by decide) hw0 (fun _ h9 => h9) rfl (zdt_at zt_X7_take_0 44 rfl) ?_
    refine lv_iload_n (pc := 79) hx hb (zdt_at zt_X7_take_0 45 rfl) rfl (lv_at hl 1 rfl) ?_
    refine lv_iadd (pc := 80) hx hb (zdt_at zt_X7_take_0 46 rfl) ?_
    refine lv_topi (fun x_9 e_ => ?_)
    replace hf := zn_s hf e_
    clear e_
    refine va_put (pc := 81) (D := D) (ci := 9) (v := .int x_9) (ty := .int) (C := RX7) (T := TX7) (N := 5) hx hb hts hcX7 tyX7 tyX7_ok nmX7 hown hK hP hD hS 0 rfl rfl 4 (by decide) hw0 (fun _ h9 => h9) rfl (by decide +kernel) rfl rfl (Nat.le_of_ble_eq_true rfl) (zdt_at zt_X7_take_0 47 rfl) ?_
    clear hP hD hS
    intro H locs hP hD hS
    replace hP : va_P D vwCl ([(h0, .inr (9, [.ref h0_sums, .ref h0_schedule, .ref h0_inner, .int c_filled_5, .int x_9])), (h0_inner, .inl (cy 0, 32, .inl c_inner)), (h0_schedule, .inl (cy 1, 64, .inl c_schedule_6)), (h0_sums, .inl (cy 1, 8, .inl c_sums_7))]) H := hP
    replace hD : va_D A ([(h0, .inr (9, [.ref h0_sums, .ref h0_schedule, .ref h0_inner, .int c_filled_5, .int x_9])), (h0_inner, .inl (cy 0, 32, .inl c_inner)), (h0_schedule, .inl (cy 1, 64, .inl c_schedule_6)), (h0_sums, .inl (cy 1, 8, .inl c_sums_7))]) := hD
    cases hf
    exact W.vret (pc := 84) hx hb hr (fun t ht hW => ⟨rfl, ⟨by rw [ht]; exact hP, hD⟩, hS.F ht⟩) hS.2.2 (zdt_at zt_X7_take_0 48 rfl)
  clear eK_8
  refine hTo _ _ _ (zl_go (fun z => match z with | (i_1, c_filled_2, c_schedule_3, c_sums_4) => ∀ (H : Heap) (locs : List Loc) (ls : Array Slot), va_P D vwCl ([(h0, .inr (9, [.ref h0_sums, .ref h0_schedule, .ref h0_inner, .int c_filled_2, .int c_total])), (h0_inner, .inl (cy 0, 32, .inl c_inner)), (h0_schedule, .inl (cy 1, 64, .inl c_schedule_3)), (h0_sums, .inl (cy 1, 8, .inl c_sums_4))]) H → va_D A ([(h0, .inr (9, [.ref h0_sums, .ref h0_schedule, .ref h0_inner, .int c_filled_2, .int c_total])), (h0_inner, .inl (cy 0, 32, .inl c_inner)), (h0_schedule, .inl (cy 1, 64, .inl c_schedule_3)), (h0_sums, .inl (cy 1, 8, .inl c_sums_4))]) → va_S A s.heap H locs → lv_has ls 6 [(0, .ref h0), (1, .ref h0_inner), (2, .int p2), (3, .int p3), (4, .int i_1)] → GW H locs (F0 m 3 ls [])) hf ?_ H locs ls hP hD hS (lv_sub hl [1, 2, 3, 4, 0] rfl))
  clear hf hl hP hD hS
  intro self_10 ihself_10 z hf
  obtain ⟨i_1, c_filled_2, c_schedule_3, c_sums_4⟩ := z
  intro H locs ls hP hD hS hl
  refine hFr _ _ _ ?_
  unfold b_X7_take_1t_inner_3 at hf
  refine lv_iload (pc := 3) hx hb (zdt_at zt_X7_take_0 2 rfl) (lv_at hl 4 rfl) ?_
  refine lv_iload_n (pc := 5) hx hb (zdt_at zt_X7_take_0 3 rfl) rfl (lv_at hl 3 rfl) ?_
  refine lv_icmp_ge (pc := 6) (tgt := 74) hx hb (zdt_at zt_X7_take_0 4 rfl) (by decide) (fun cn_ => ?t_11) (fun cn_ => ?f_12)
  case t_11 =>
    replace hf := zt_s cn_ hf
    clear cn_
    exact hTo _ _ _ (kK_8 _ _ _ H locs ls hP hD hS (lv_sub hl [0, 3] rfl) hf)
  replace hf := ze_s cn_ hf
  clear cn_
  refine lv_aload_n (pc := 9) hx hb (zdt_at zt_X7_take_0 5 rfl) rfl (lv_at hl 0 rfl) ?_
  refine va_get (pc := 10) (D := D) (ci := 9) (v := .int c_filled_2) (C := RX7) (T := TX7) (N := 5) hx hb hts hcX7 hown hK hP 0 rfl rfl 3 (by decide) hw1 (fun _ h9 => h9) rfl (zdt_at zt_X7_take_0 6 rfl) ?_
  refine lv_iconst (pc := 13) (v := (2 : Int32)) hx hb (zdt_at zt_X7_take_0 7 rfl) (by decide) ?_
  refine lv_ishr (pc := 14) hx hb (zdt_at zt_X7_take_0 8 rfl) ?_
  refine lv_topi (fun x_13 e_ => ?_)
  replace hf := zn_s hf e_
  clear e_
  refine lv_istore (pc := 15) (lv' := [(5, .int x_13), (0, .ref h0), (1, .ref h0_inner), (2, .int p2), (3, .int p3), (4, .int i_1)]) hx hb (zdt_at zt_X7_take_0 9 rfl) hl (by decide) rfl ?_
  clear hl
  intro ls hl
  refine lv_aload_n (pc := 17) hx hb (zdt_at zt_X7_take_0 10 rfl) rfl (lv_at hl 1 rfl) ?_
  refine va_get (pc := 18) (D := D) (ci := 9) (v := .ref h0_schedule) (C := RX7) (T := TX7) (N := 5) hx hb hts hcX7 hown hK hP 0 rfl rfl 1 (by decide) hw2 (fun _ h9 => h9) rfl (zdt_at zt_X7_take_0 11 rfl) ?_
  refine lv_iload (pc := 21) hx hb (zdt_at zt_X7_take_0 12 rfl) (lv_at hl 0 rfl) ?_
  refine lv_aload_n (pc := 23) hx hb (zdt_at zt_X7_take_0 13 rfl) rfl (lv_at hl 1 rfl) ?_
  refine va_get (pc := 24) (D := D) (ci := 9) (v := .ref h0_schedule) (C := RX7) (T := TX7) (N := 5) hx hb hts hcX7 hown hK hP 0 rfl rfl 1 (by decide) hw2 (fun _ h9 => h9) rfl (zdt_at zt_X7_take_0 14 rfl) ?_
  refine lv_iload (pc := 27) hx hb (zdt_at zt_X7_take_0 15 rfl) (lv_at hl 0 rfl) ?_
  replace hf := zk_s hf
  refine va_iald (pc := 29) hx hb hK hP 2 1 rfl rfl hf.1 (zdt_at zt_X7_take_0 16 rfl) ?_
  replace hf := hf.2
  refine lv_bipush (pc := 30) (v := (8 : Int32)) hx hb (zdt_at zt_X7_take_0 17 rfl) (by decide) ?_
  refine lv_ishl (pc := 32) hx hb (zdt_at zt_X7_take_0 18 rfl) ?_
  refine lv_aload_n (pc := 33) hx hb (zdt_at zt_X7_take_0 19 rfl) rfl (lv_at hl 2 rfl) ?_
  refine lv_iload_n (pc := 34) hx hb (zdt_at zt_X7_take_0 20 rfl) rfl (lv_at hl 3 rfl) ?_
  refine lv_iload (pc := 35) hx hb (zdt_at zt_X7_take_0 21 rfl) (lv_at hl 5 rfl) ?_
  refine lv_iadd (pc := 37) hx hb (zdt_at zt_X7_take_0 22 rfl) ?_
  replace hf := zk_s hf
  refine va_bald (pc := 38) hx hb hK hP 1 0 rfl rfl hf.1 (zdt_at zt_X7_take_0 23 rfl) ?_
  replace hf := hf.2
  refine lv_sipush (pc := 39) (v := (255 : Int32)) hx hb (zdt_at zt_X7_take_0 24 rfl) (by decide) ?_
  refine lv_iand (pc := 42) hx hb (zdt_at zt_X7_take_0 25 rfl) ?_
  refine lv_ior (pc := 43) hx hb (zdt_at zt_X7_take_0 26 rfl) ?_
  replace hf := zk_s hf
  refine va_iast (pc := 44) hx hb hK hP hD hS 2 1 rfl rfl hf.1 (zdt_at zt_X7_take_0 27 rfl) ?_
  replace hf := hf.2
  clear hP hD hS
  intro H locs hP hD hS
  obtain ⟨c_schedule_14, e_⟩ : ∃ q : Nat → Int32, q = (upd c_schedule_3 x_13.toNatClampNeg (((c_schedule_3 x_13.toNatClampNeg) <<< ((8 : Int32) &&& 31)) ||| ((c_inner (p2 + i_1).toNatClampNeg) &&& (255 : Int32)))) := ⟨_, rfl⟩
  replace hf := zn_s hf e_
  replace hP : va_P D vwCl ([(h0, .inr (9, [.ref h0_sums, .ref h0_schedule, .ref h0_inner, .int c_filled_2, .int c_total])), (h0_inner, .inl (cy 0, 32, .inl c_inner)), (h0_schedule, .inl (cy 1, 64, .inl c_schedule_14)), (h0_sums, .inl (cy 1, 8, .inl c_sums_4))]) H := by rw [e_]; exact hP
  replace hD : va_D A ([(h0, .inr (9, [.ref h0_sums, .ref h0_schedule, .ref h0_inner, .int c_filled_2, .int c_total])), (h0_inner, .inl (cy 0, 32, .inl c_inner)), (h0_schedule, .inl (cy 1, 64, .inl c_schedule_14)), (h0_sums, .inl (cy 1, 8, .inl c_sums_4))]) := by rw [e_]; exact hD
  clear e_
  refine lv_aload_n (pc := 45) hx hb (zdt_at zt_X7_take_0 28 rfl) rfl (lv_at hl 1 rfl) ?_
  refine lv_dup (pc := 46) hx hb (zdt_at zt_X7_take_0 29 rfl) rfl ?_
  refine va_get (pc := 47) (D := D) (ci := 9) (v := .int c_filled_2) (C := RX7) (T := TX7) (N := 5) hx hb hts hcX7 hown hK hP 0 rfl rfl 3 (by decide) hw1 (fun _ h9 => h9) rfl (zdt_at zt_X7_take_0 30 rfl) ?_
  refine lv_iconst (pc := 50) (v := (1 : Int32)) hx hb (zdt_at zt_X7_take_0 31 rfl) (by decide) ?_
  refine lv_iadd (pc := 51) hx hb (zdt_at zt_X7_take_0 32 rfl) ?_
  refine lv_topi (fun x_15 e_ => ?_)
  replace hf := zn_s hf e_
  clear e_
  refine va_put (pc := 52) (D := D) (ci := 9) (v := .int x_15) (ty := .int) (C := RX7) (T := TX7) (N := 5) hx hb hts hcX7 tyX7 tyX7_ok nmX7 hown hK hP hD hS 0 rfl rfl 3 (by decide) hw1 (fun _ h9 => h9) rfl (by decide +kernel) rfl rfl (Nat.le_of_ble_eq_true rfl) (zdt_at zt_X7_take_0 33 rfl) ?_
  clear hP hD hS
  intro H locs hP hD hS
  replace hP : va_P D vwCl ([(h0, .inr (9, [.ref h0_sums, .ref h0_schedule, .ref h0_inner, .int x_15, .int c_total])), (h0_inner, .inl (cy 0, 32, .inl c_inner)), (h0_schedule, .inl (cy 1, 64, .inl c_schedule_14)), (h0_sums, .inl (cy 1, 8, .inl c_sums_4))]) H := hP
  replace hD : va_D A ([(h0, .inr (9, [.ref h0_sums, .ref h0_schedule, .ref h0_inner, .int x_15, .int c_total])), (h0_inner, .inl (cy 0, 32, .inl c_inner)), (h0_schedule, .inl (cy 1, 64, .inl c_schedule_14)), (h0_sums, .inl (cy 1, 8, .inl c_sums_4))]) := hD
  refine lv_aload_n (pc := 55) hx hb (zdt_at zt_X7_take_0 34 rfl) rfl (lv_at hl 1 rfl) ?_
  refine va_get (pc := 56) (D := D) (ci := 9) (v := .int x_15) (C := RX7) (T := TX7) (N := 5) hx hb hts hcX7 hown hK hP 0 rfl rfl 3 (by decide) hw1 (fun _ h9 => h9) rfl (zdt_at zt_X7_take_0 35 rfl) ?_
  refine lv_bipush (pc := 59) (v := (64 : Int32)) hx hb (zdt_at zt_X7_take_0 36 rfl) (by decide) ?_
  refine lv_icmp_ne (pc := 61) (tgt := 68) hx hb (zdt_at zt_X7_take_0 37 rfl) (by decide) (fun cn_ => ?t_16) (fun cn_ => ?f_17)
  case t_16 =>
    replace hf := ze_s cn_ hf
    clear cn_
    refine lv_iinc (pc := 68) (v := (i_1 + (1 : Int32))) (lv' := [(4, .int (i_1 + (1 : Int32))), (5, .int x_13), (0, .ref h0), (1, .ref h0_inner), (2, .int p2), (3, .int p3)]) hx hb (zdt_at zt_X7_take_0 40 rfl) hl (k := 5) rfl rfl (by decide) rfl ?_
    clear hl
    intro ls hl
    refine lv_goto (pc := 71) (tgt := 3) hx hb (zdt_at zt_X7_take_0 41 rfl) (by decide) ?_
    exact hTo _ _ _ (ihself_10 _ hf H locs ls hP hD hS (lv_sub hl [2, 3, 4, 5, 0] rfl))
  replace hf := zt_s cn_ hf
  clear cn_
  refine lv_aload_n (pc := 64) hx hb (zdt_at zt_X7_take_0 38 rfl) rfl (lv_at hl 1 rfl) ?_
  replace hf := zb_s hf
  obtain ⟨⟨c_filled_18, c_schedule_19, c_sums_20⟩, hc_, hf⟩ := hf
  refine zcn2 (pc := 65) (rv := none) (va_runV (As := []) (rest := []) ⟨hx, hb, hml, hown, hts⟩ (c_X7_compress l D cy tt H.size h0 h0_sums h0_schedule h0_inner x_15 c_schedule_14 c_sums_4 c_total c_filled_18 c_schedule_19 c_sums_20 hc_) (cwV 0 hts gX7_take_X7_compress rfl rfl rfl (by decide +kernel) ⟨Nat.le_of_ble_eq_true rfl, Nat.le_of_ble_eq_true rfl⟩) ⟨zblind, va_recv hK hP (ci := 9) (q0 := 0) rfl rfl, zpre hE hS (hP.sub [0, 2, 3] rfl) (hD.sub [0, 2, 3] (by decide) rfl) (va_free hD hS hA [0, 2, 3] rfl)⟩ rfl rfl hl.1 rfl (lv_room (Nat.le_of_ble_eq_true rfl)) (zdt_at zt_X7_take_0 39 rfl) ⟨Nat.zero_le _, Nat.zero_le _⟩) hS hP hD (va_free hD hS hA [0, 2, 3] rfl) [0, 2, 3] rfl (by decide) rfl ?_
  clear hP hD hS hc_
  intro H locs hP hD hS
  replace hP : va_P D vwCl ([(h0, .inr (9, [.ref h0_sums, .ref h0_schedule, .ref h0_inner, .int c_filled_18, .int c_total])), (h0_inner, .inl (cy 0, 32, .inl c_inner)), (h0_schedule, .inl (cy 1, 64, .inl c_schedule_19)), (h0_sums, .inl (cy 1, 8, .inl c_sums_20))]) H := hP
  replace hD : va_D A ([(h0, .inr (9, [.ref h0_sums, .ref h0_schedule, .ref h0_inner, .int c_filled_18, .int c_total])), (h0_inner, .inl (cy 0, 32, .inl c_inner)), (h0_schedule, .inl (cy 1, 64, .inl c_schedule_19)), (h0_sums, .inl (cy 1, 8, .inl c_sums_20))]) := hD
  refine W.eq (g2 := F0 m 68 ls []) rfl ?_
  refine lv_iinc (pc := 68) (v := (i_1 + (1 : Int32))) (lv' := [(4, .int (i_1 + (1 : Int32))), (5, .int x_13), (0, .ref h0), (1, .ref h0_inner), (2, .int p2), (3, .int p3)]) hx hb (zdt_at zt_X7_take_0 40 rfl) hl (k := 5) rfl rfl (by decide) rfl ?_
  clear hl
  intro ls hl
  refine lv_goto (pc := 71) (tgt := 3) hx hb (zdt_at zt_X7_take_0 41 rfl) (by decide) ?_
  exact hTo _ _ _ (ihself_10 _ hf H locs ls hP hD hS (lv_sub hl [2, 3, 4, 5, 0] rfl))
set_option maxHeartbeats 4000000 in
set_option maxRecDepth 100000 in
theorem c_X7_mac (l : Launch) (D : va_G) (cy : Nat → ClassId) (tt : Nat → Nat) (sz : Nat) (h0 : Nat) (h0_sums : Nat) (h0_schedule : Nat) (h0_inner : Nat) (ha1 : Nat) (ha3 : Nat) (ha6 : Nat) (n_a1 : Nat) (n_a3 : Nat) (n_a6 : Nat) (p2 : Int32) (p4 : Int32) (p5 : Int32) (p7 : Int32) (c_filled : Int32) (c_total : Int32) (c_inner : Nat → Int32) (c_schedule : Nat → Int32) (c_sums : Nat → Int32) (ca1 : Nat → Int32) (ca3 : Nat → Int32) (ca6 : Nat → Int32) (c_filled' : Int32) (c_total' : Int32) (c_inner' : Nat → Int32) (c_schedule' : Nat → Int32) (c_sums' : Nat → Int32) (ca6' : Nat → Int32) (hf : f_X7_mac n_a1 n_a3 n_a6 p2 p4 p5 p7 c_filled c_total c_inner c_schedule c_sums ca1 ca3 ca6 = some (c_filled', c_total', c_inner', c_schedule', c_sums', ca6')) : Met l yX7_mac wsX7_mac ({ frames := 3, cells := 0, slots := 0, locals := 84 }) (zPc D cy tt sz [.ref h0, .ref ha1, .int p2, .ref ha3, .int p4, .int p5, .ref ha6, .int p7] ([(h0, .inr (9, [.ref h0_sums, .ref h0_schedule, .ref h0_inner, .int c_filled, .int c_total])), (h0_inner, .inl (cy 0, 32, .inl c_inner)), (h0_schedule, .inl (cy 1, 64, .inl c_schedule)), (h0_sums, .inl (cy 1, 8, .inl c_sums)), (ha1, .inl (cy 0, n_a1, .inl ca1)), (ha3, .inl (cy 0, n_a3, .inl ca3)), (ha6, .inl (cy 0, n_a6, .inl ca6))])) (zQ D none ([(h0, .inr (9, [.ref h0_sums, .ref h0_schedule, .ref h0_inner, .int c_filled', .int c_total'])), (h0_inner, .inl (cy 0, 32, .inl c_inner')), (h0_schedule, .inl (cy 1, 64, .inl c_schedule')), (h0_sums, .inl (cy 1, 8, .inl c_sums')), (ha1, .inl (cy 0, n_a1, .inl ca1)), (ha3, .inl (cy 0, n_a3, .inl ca3)), (ha6, .inl (cy 0, n_a6, .inl ca6'))]) (va_A ([(h0, .inr (9, [.ref h0_sums, .ref h0_schedule, .ref h0_inner, .int c_filled, .int c_total])), (h0_inner, .inl (cy 0, 32, .inl c_inner)), (h0_schedule, .inl (cy 1, 64, .inl c_schedule)), (h0_sums, .inl (cy 1, 8, .inl c_sums)), (ha1, .inl (cy 0, n_a1, .inl ca1)), (ha3, .inl (cy 0, n_a3, .inl ca3)), (ha6, .inl (cy 0, n_a6, .inl ca6))]) sz)) 0 0 (va_A ([(h0, .inr (9, [.ref h0_sums, .ref h0_schedule, .ref h0_inner, .int c_filled, .int c_total])), (h0_inner, .inl (cy 0, 32, .inl c_inner)), (h0_schedule, .inl (cy 1, 64, .inl c_schedule)), (h0_sums, .inl (cy 1, 8, .inl c_sums)), (ha1, .inl (cy 0, n_a1, .inl ca1)), (ha3, .inl (cy 0, n_a3, .inl ca3)), (ha6, .inl (cy 0, n_a6, .inl ca6))]) sz) := by
  refine Met.ofW (cc := cX7_mac) (maxL := 8) (ret := none) (by decide) rfl ?_
  intro p e s m args below meth c s₁ B hml hv
  obtain ⟨rfl, rfl, hP, hD0, hE⟩ := hv
  have hx := B.exec
  have hb := B.bytes
  have hr := B.returns
  have hts := atoms_spec (ws := wsX7_mac) B.pre
  have hown : s.vm.findClass RX7 = some m.cls := findClass_of_methodNamed B.named
  have hlocks := B.notSynchronized
  clear B
  have hD := hD0.self (sz := s.heap.size)
  generalize hAe : va_A ([(h0, .inr (9, [.ref h0_sums, .ref h0_schedule, .ref h0_inner, .int c_filled, .int c_total])), (h0_inner, .inl (cy 0, 32, .inl c_inner)), (h0_schedule, .inl (cy 1, 64, .inl c_schedule)), (h0_sums, .inl (cy 1, 8, .inl c_sums)), (ha1, .inl (cy 0, n_a1, .inl ca1)), (ha3, .inl (cy 0, n_a3, .inl ca3)), (ha6, .inl (cy 0, n_a6, .inl ca6))]) s.heap.size = A at hD hE ⊢
  have hA : ∀ q : Nat, s.heap.size ≤ q → A q := fun q h => by rw [← hAe]; exact Or.inr h
  clear hAe hD0
  have hS : va_S A s.heap s.heap [] := va_S.rf
  have hK := hE.1
  have hw0 := hts (.fieldLink RX7 18 "SealedModule$Sha256" "inner" "[B") (by decide +kernel)
  have hcX7 : ∀ w ∈ u_ws RX7 TX7 5, w ∈ wsX7_mac := (fun _ h => List.mem_cons_of_mem _ (List.mem_append_left _ (List.mem_append_right _ h)))
  have hl := lv_entry ([.ref h0, .ref ha1, .int p2, .ref ha3, .int p4, .int p5, .ref ha6, .int p7]) (n := 8) (Nat.le_of_ble_eq_true rfl)
  rw [lg_entry_eq]
  generalize (lg_sl ([.ref h0, .ref ha1, .int p2, .ref ha3, .int p4, .int p5, .ref ha6, .int p7]) ++ List.replicate (8 - (lg_sl ([.ref h0, .ref ha1, .int p2, .ref ha3, .int p4, .int p5, .ref ha6, .int p7])).length) Slot.unset).toArray = ls at hl ⊢
  replace hl : lv_has ls 8 [(0, .ref h0), (1, .ref ha1), (2, .int p2), (3, .ref ha3), (4, .int p4), (5, .int p5), (6, .ref ha6), (7, .int p7)] := hl
  unfold f_X7_mac at hf
  refine zgo (fun GW hTo hFr => ?_)
  refine hFr _ _ _ ?_
  obtain ⟨H, hHe⟩ : ∃ H, H = s.heap := ⟨_, rfl⟩
  obtain ⟨locs, hLe⟩ : ∃ L : List Loc, L = [] := ⟨_, rfl⟩
  rw [← hHe] at hP
  replace hS : va_S A s.heap H locs := by rw [hHe, hLe]; exact hS
  refine zat hHe.symm hLe.symm ?_
  clear hHe hLe
  refine lv_aload_n (pc := 0) hx hb (zdt_at zt_X7_mac_0 0 rfl) rfl (lv_at hl 0 rfl) ?_
  replace hf := zb_s hf
  obtain ⟨⟨c_filled_1, c_total_2, c_sums_3⟩, hc_, hf⟩ := hf
  refine zcn2 (pc := 1) (rv := none) (va_runV (As := []) (rest := []) ⟨hx, hb, hml, hown, hts⟩ (c_X7_begin l D cy tt H.size h0 h0_sums h0_schedule h0_inner c_filled c_total c_sums c_filled_1 c_total_2 c_sums_3 hc_) (cwV 0 hts gX7_mac_X7_begin rfl rfl rfl (by decide +kernel) ⟨Nat.le_of_ble_eq_true rfl, Nat.le_of_ble_eq_true rfl⟩) ⟨zblind, va_recv hK hP (ci := 9) (q0 := 0) rfl rfl, zpre hE hS (hP.sub [0, 3] rfl) (hD.sub [0, 3] (by decide) rfl) (va_free hD hS hA [0, 3] rfl)⟩ rfl rfl hl.1 rfl (lv_room (Nat.le_of_ble_eq_true rfl)) (zdt_at zt_X7_mac_0 1 rfl) ⟨Nat.zero_le _, Nat.zero_le _⟩) hS hP hD (va_free hD hS hA [0, 3] rfl) [0, 3] rfl (by decide) rfl ?_
  clear hP hD hS hc_
  intro H locs hP hD hS
  replace hP : va_P D vwCl ([(h0, .inr (9, [.ref h0_sums, .ref h0_schedule, .ref h0_inner, .int c_filled_1, .int c_total_2])), (h0_inner, .inl (cy 0, 32, .inl c_inner)), (h0_schedule, .inl (cy 1, 64, .inl c_schedule)), (h0_sums, .inl (cy 1, 8, .inl c_sums_3)), (ha1, .inl (cy 0, n_a1, .inl ca1)), (ha3, .inl (cy 0, n_a3, .inl ca3)), (ha6, .inl (cy 0, n_a6, .inl ca6))]) H := hP
  replace hD : va_D A ([(h0, .inr (9, [.ref h0_sums, .ref h0_schedule, .ref h0_inner, .int c_filled_1, .int c_total_2])), (h0_inner, .inl (cy 0, 32, .inl c_inner)), (h0_schedule, .inl (cy 1, 64, .inl c_schedule)), (h0_sums, .inl (cy 1, 8, .inl c_sums_3)), (ha1, .inl (cy 0, n_a1, .inl ca1)), (ha3, .inl (cy 0, n_a3, .inl ca3)), (ha6, .inl (cy 0, n_a6, .inl ca6))]) := hD
  refine W.eq (g2 := F0 m 4 ls []) rfl ?_
  refine lv_aload_n (pc := 4) hx hb (zdt_at zt_X7_mac_0 2 rfl) rfl (lv_at hl 0 rfl) ?_
  refine lv_aload_n (pc := 5) hx hb (zdt_at zt_X7_mac_0 3 rfl) rfl (lv_at hl 1 rfl) ?_
  refine lv_iload_n (pc := 6) hx hb (zdt_at zt_X7_mac_0 4 rfl) rfl (lv_at hl 2 rfl) ?_
  refine lv_bipush (pc := 7) (v := (54 : Int32)) hx hb (zdt_at zt_X7_mac_0 5 rfl) (by decide) ?_
  replace hf := zb_s hf
  obtain ⟨⟨c_filled_4, c_total_5, c_schedule_6, c_sums_7⟩, hc_, hf⟩ := hf
  refine zcn2 (pc := 9) (rv := none) (va_runV (As := [.ref ha1, .int p2, .int (54 : Int32)]) (rest := []) ⟨hx, hb, hml, hown, hts⟩ (c_X7_takePadded l D cy tt H.size h0 h0_sums h0_schedule h0_inner ha1 n_a1 p2 (54 : Int32) c_filled_1 c_total_2 c_schedule c_sums_3 ca1 c_filled_4 c_total_5 c_schedule_6 c_sums_7 hc_) (cwV 3 hts gX7_mac_X7_takePadded rfl rfl rfl (by decide +kernel) ⟨Nat.le_of_ble_eq_true rfl, Nat.le_of_ble_eq_true rfl⟩) ⟨zblind, va_recv hK hP (ci := 9) (q0 := 0) rfl rfl, zpre hE hS (hP.sub [0, 2, 3, 4] rfl) (hD.sub [0, 2, 3, 4] (by decide) rfl) (va_free hD hS hA [0, 2, 3, 4] rfl)⟩ rfl rfl hl.1 rfl (lv_room (Nat.le_of_ble_eq_true rfl)) (zdt_at zt_X7_mac_0 6 rfl) ⟨Nat.zero_le _, Nat.zero_le _⟩) hS hP hD (va_free hD hS hA [0, 2, 3, 4] rfl) [0, 2, 3, 4] rfl (by decide) rfl ?_
  clear hP hD hS hc_
  intro H locs hP hD hS
  replace hP : va_P D vwCl ([(h0, .inr (9, [.ref h0_sums, .ref h0_schedule, .ref h0_inner, .int c_filled_4, .int c_total_5])), (h0_inner, .inl (cy 0, 32, .inl c_inner)), (h0_schedule, .inl (cy 1, 64, .inl c_schedule_6)), (h0_sums, .inl (cy 1, 8, .inl c_sums_7)), (ha1, .inl (cy 0, n_a1, .inl ca1)), (ha3, .inl (cy 0, n_a3, .inl ca3)), (ha6, .inl (cy 0, n_a6, .inl ca6))]) H := hP
  replace hD : va_D A ([(h0, .inr (9, [.ref h0_sums, .ref h0_schedule, .ref h0_inner, .int c_filled_4, .int c_total_5])), (h0_inner, .inl (cy 0, 32, .inl c_inner)), (h0_schedule, .inl (cy 1, 64, .inl c_schedule_6)), (h0_sums, .inl (cy 1, 8, .inl c_sums_7)), (ha1, .inl (cy 0, n_a1, .inl ca1)), (ha3, .inl (cy 0, n_a3, .inl ca3)), (ha6, .inl (cy 0, n_a6, .inl ca6))]) := hD
  refine W.eq (g2 := F0 m 12 ls []) rfl ?_
  refine lv_aload_n (pc := 12) hx hb (zdt_at zt_X7_mac_0 7 rfl) rfl (lv_at hl 0 rfl) ?_
  refine lv_aload_n (pc := 13) hx hb (zdt_at zt_X7_mac_0 8 rfl) rfl (lv_at hl 3 rfl) ?_
  refine lv_iload (pc := 14) hx hb (zdt_at zt_X7_mac_0 9 rfl) (lv_at hl 4 rfl) ?_
  refine lv_iload (pc := 16) hx hb (zdt_at zt_X7_mac_0 10 rfl) (lv_at hl 5 rfl) ?_
  replace hf := zb_s hf
  obtain ⟨⟨c_filled_8, c_total_9, c_schedule_10, c_sums_11⟩, hc_, hf⟩ := hf
  refine zcn2 (pc := 18) (rv := none) (va_runV (As := [.ref ha3, .int p4, .int p5]) (rest := []) ⟨hx, hb, hml, hown, hts⟩ (c_X7_take l D cy tt H.size h0 h0_sums h0_schedule h0_inner ha3 n_a3 p4 p5 c_filled_4 c_total_5 c_schedule_6 c_sums_7 ca3 c_filled_8 c_total_9 c_schedule_10 c_sums_11 hc_) (cwV 3 hts gX7_mac_X7_take rfl rfl rfl (by decide +kernel) ⟨Nat.le_of_ble_eq_true rfl, Nat.le_of_ble_eq_true rfl⟩) ⟨zblind, va_recv hK hP (ci := 9) (q0 := 0) rfl rfl, zpre hE hS (hP.sub [0, 2, 3, 5] rfl) (hD.sub [0, 2, 3, 5] (by decide) rfl) (va_free hD hS hA [0, 2, 3, 5] rfl)⟩ rfl rfl hl.1 rfl (lv_room (Nat.le_of_ble_eq_true rfl)) (zdt_at zt_X7_mac_0 11 rfl) ⟨Nat.zero_le _, Nat.zero_le _⟩) hS hP hD (va_free hD hS hA [0, 2, 3, 5] rfl) [0, 2, 3, 5] rfl (by decide) rfl ?_
  clear hP hD hS hc_
  intro H locs hP hD hS
  replace hP : va_P D vwCl ([(h0, .inr (9, [.ref h0_sums, .ref h0_schedule, .ref h0_inner, .int c_filled_8, .int c_total_9])), (h0_inner, .inl (cy 0, 32, .inl c_inner)), (h0_schedule, .inl (cy 1, 64, .inl c_schedule_10)), (h0_sums, .inl (cy 1, 8, .inl c_sums_11)), (ha1, .inl (cy 0, n_a1, .inl ca1)), (ha3, .inl (cy 0, n_a3, .inl ca3)), (ha6, .inl (cy 0, n_a6, .inl ca6))]) H := hP
  replace hD : va_D A ([(h0, .inr (9, [.ref h0_sums, .ref h0_schedule, .ref h0_inner, .int c_filled_8, .int c_total_9])), (h0_inner, .inl (cy 0, 32, .inl c_inner)), (h0_schedule, .inl (cy 1, 64, .inl c_schedule_10)), (h0_sums, .inl (cy 1, 8, .inl c_sums_11)), (ha1, .inl (cy 0, n_a1, .inl ca1)), (ha3, .inl (cy 0, n_a3, .inl ca3)), (ha6, .inl (cy 0, n_a6, .inl ca6))]) := hD
  refine W.eq (g2 := F0 m 21 ls []) rfl ?_
  refine lv_aload_n (pc := 21) hx hb (zdt_at zt_X7_mac_0 12 rfl) rfl (lv_at hl 0 rfl) ?_
  refine lv_aload_n (pc := 22) hx hb (zdt_at zt_X7_mac_0 13 rfl) rfl (lv_at hl 0 rfl) ?_
  refine va_get (pc := 23) (D := D) (ci := 9) (v := .ref h0_inner) (C := RX7) (T := TX7) (N := 5) hx hb hts hcX7 hown hK hP 0 rfl rfl 2 (by decide) hw0 (fun _ h9 => h9) rfl (zdt_at zt_X7_mac_0 14 rfl) ?_
  refine lv_iconst (pc := 26) (v := (0 : Int32)) hx hb (zdt_at zt_X7_mac_0 15 rfl) (by decide) ?_
  replace hf := zb_s hf
  obtain ⟨⟨c_filled_12, c_inner_13, c_schedule_14, c_sums_15⟩, hc_, hf⟩ := hf
  refine zcn2 (pc := 27) (rv := none) (va_runV (As := [.ref h0_inner, .int (0 : Int32)]) (rest := []) ⟨hx, hb, hml, hown, hts⟩ (c_X7_end_1t_inner l D cy tt H.size h0 h0_sums h0_schedule h0_inner (0 : Int32) c_filled_8 c_total_9 c_inner c_schedule_10 c_sums_11 c_filled_12 c_inner_13 c_schedule_14 c_sums_15 hc_) (cwV 2 hts gX7_mac_X7_end rfl rfl rfl (by decide +kernel) ⟨Nat.le_of_ble_eq_true rfl, Nat.le_of_ble_eq_true rfl⟩) ⟨zblind, va_recv hK hP (ci := 9) (q0 := 0) rfl rfl, zpre hE hS (hP.sub [0, 1, 2, 3] rfl) (hD.sub [0, 1, 2, 3] (by decide) rfl) (va_free hD hS hA [0, 1, 2, 3] rfl)⟩ rfl rfl hl.1 rfl (lv_room (Nat.le_of_ble_eq_true rfl)) (zdt_at zt_X7_mac_0 16 rfl) ⟨Nat.zero_le _, Nat.zero_le _⟩) hS hP hD (va_free hD hS hA [0, 1, 2, 3] rfl) [0, 1, 2, 3] rfl (by decide) rfl ?_
  clear hP hD hS hc_
  intro H locs hP hD hS
  replace hP : va_P D vwCl ([(h0, .inr (9, [.ref h0_sums, .ref h0_schedule, .ref h0_inner, .int c_filled_12, .int c_total_9])), (h0_inner, .inl (cy 0, 32, .inl c_inner_13)), (h0_schedule, .inl (cy 1, 64, .inl c_schedule_14)), (h0_sums, .inl (cy 1, 8, .inl c_sums_15)), (ha1, .inl (cy 0, n_a1, .inl ca1)), (ha3, .inl (cy 0, n_a3, .inl ca3)), (ha6, .inl (cy 0, n_a6, .inl ca6))]) H := hP
  replace hD : va_D A ([(h0, .inr (9, [.ref h0_sums, .ref h0_schedule, .ref h0_inner, .int c_filled_12, .int c_total_9])), (h0_inner, .inl (cy 0, 32, .inl c_inner_13)), (h0_schedule, .inl (cy 1, 64, .inl c_schedule_14)), (h0_sums, .inl (cy 1, 8, .inl c_sums_15)), (ha1, .inl (cy 0, n_a1, .inl ca1)), (ha3, .inl (cy 0, n_a3, .inl ca3)), (ha6, .inl (cy 0, n_a6, .inl ca6))]) := hD
  refine W.eq (g2 := F0 m 30 ls []) rfl ?_
  refine lv_aload_n (pc := 30) hx hb (zdt_at zt_X7_mac_0 17 rfl) rfl (lv_at hl 0 rfl) ?_
  replace hf := zb_s hf
  obtain ⟨⟨c_filled_16, c_total_17, c_sums_18⟩, hc_, hf⟩ := hf
  refine zcn2 (pc := 31) (rv := none) (va_runV (As := []) (rest := []) ⟨hx, hb, hml, hown, hts⟩ (c_X7_begin l D cy tt H.size h0 h0_sums h0_schedule h0_inner c_filled_12 c_total_9 c_sums_15 c_filled_16 c_total_17 c_sums_18 hc_) (cwV 0 hts gX7_mac_X7_begin rfl rfl rfl (by decide +kernel) ⟨Nat.le_of_ble_eq_true rfl, Nat.le_of_ble_eq_true rfl⟩) ⟨zblind, va_recv hK hP (ci := 9) (q0 := 0) rfl rfl, zpre hE hS (hP.sub [0, 3] rfl) (hD.sub [0, 3] (by decide) rfl) (va_free hD hS hA [0, 3] rfl)⟩ rfl rfl hl.1 rfl (lv_room (Nat.le_of_ble_eq_true rfl)) (zdt_at zt_X7_mac_0 18 rfl) ⟨Nat.zero_le _, Nat.zero_le _⟩) hS hP hD (va_free hD hS hA [0, 3] rfl) [0, 3] rfl (by decide) rfl ?_
  clear hP hD hS hc_
  intro H locs hP hD hS
  replace hP : va_P D vwCl ([(h0, .inr (9, [.ref h0_sums, .ref h0_schedule, .ref h0_inner, .int c_filled_16, .int c_total_17])), (h0_inner, .inl (cy 0, 32, .inl c_inner_13)), (h0_schedule, .inl (cy 1, 64, .inl c_schedule_14)), (h0_sums, .inl (cy 1, 8, .inl c_sums_18)), (ha1, .inl (cy 0, n_a1, .inl ca1)), (ha3, .inl (cy 0, n_a3, .inl ca3)), (ha6, .inl (cy 0, n_a6, .inl ca6))]) H := hP
  replace hD : va_D A ([(h0, .inr (9, [.ref h0_sums, .ref h0_schedule, .ref h0_inner, .int c_filled_16, .int c_total_17])), (h0_inner, .inl (cy 0, 32, .inl c_inner_13)), (h0_schedule, .inl (cy 1, 64, .inl c_schedule_14)), (h0_sums, .inl (cy 1, 8, .inl c_sums_18)), (ha1, .inl (cy 0, n_a1, .inl ca1)), (ha3, .inl (cy 0, n_a3, .inl ca3)), (ha6, .inl (cy 0, n_a6, .inl ca6))]) := hD
  refine W.eq (g2 := F0 m 34 ls []) rfl ?_
  refine lv_aload_n (pc := 34) hx hb (zdt_at zt_X7_mac_0 19 rfl) rfl (lv_at hl 0 rfl) ?_
  refine lv_aload_n (pc := 35) hx hb (zdt_at zt_X7_mac_0 20 rfl) rfl (lv_at hl 1 rfl) ?_
  refine lv_iload_n (pc := 36) hx hb (zdt_at zt_X7_mac_0 21 rfl) rfl (lv_at hl 2 rfl) ?_
  refine lv_bipush (pc := 37) (v := (92 : Int32)) hx hb (zdt_at zt_X7_mac_0 22 rfl) (by decide) ?_
  replace hf := zb_s hf
  obtain ⟨⟨c_filled_19, c_total_20, c_schedule_21, c_sums_22⟩, hc_, hf⟩ := hf
  refine zcn2 (pc := 39) (rv := none) (va_runV (As := [.ref ha1, .int p2, .int (92 : Int32)]) (rest := []) ⟨hx, hb, hml, hown, hts⟩ (c_X7_takePadded l D cy tt H.size h0 h0_sums h0_schedule h0_inner ha1 n_a1 p2 (92 : Int32) c_filled_16 c_total_17 c_schedule_14 c_sums_18 ca1 c_filled_19 c_total_20 c_schedule_21 c_sums_22 hc_) (cwV 3 hts gX7_mac_X7_takePadded rfl rfl rfl (by decide +kernel) ⟨Nat.le_of_ble_eq_true rfl, Nat.le_of_ble_eq_true rfl⟩) ⟨zblind, va_recv hK hP (ci := 9) (q0 := 0) rfl rfl, zpre hE hS (hP.sub [0, 2, 3, 4] rfl) (hD.sub [0, 2, 3, 4] (by decide) rfl) (va_free hD hS hA [0, 2, 3, 4] rfl)⟩ rfl rfl hl.1 rfl (lv_room (Nat.le_of_ble_eq_true rfl)) (zdt_at zt_X7_mac_0 23 rfl) ⟨Nat.zero_le _, Nat.zero_le _⟩) hS hP hD (va_free hD hS hA [0, 2, 3, 4] rfl) [0, 2, 3, 4] rfl (by decide) rfl ?_
  clear hP hD hS hc_
  intro H locs hP hD hS
  replace hP : va_P D vwCl ([(h0, .inr (9, [.ref h0_sums, .ref h0_schedule, .ref h0_inner, .int c_filled_19, .int c_total_20])), (h0_inner, .inl (cy 0, 32, .inl c_inner_13)), (h0_schedule, .inl (cy 1, 64, .inl c_schedule_21)), (h0_sums, .inl (cy 1, 8, .inl c_sums_22)), (ha1, .inl (cy 0, n_a1, .inl ca1)), (ha3, .inl (cy 0, n_a3, .inl ca3)), (ha6, .inl (cy 0, n_a6, .inl ca6))]) H := hP
  replace hD : va_D A ([(h0, .inr (9, [.ref h0_sums, .ref h0_schedule, .ref h0_inner, .int c_filled_19, .int c_total_20])), (h0_inner, .inl (cy 0, 32, .inl c_inner_13)), (h0_schedule, .inl (cy 1, 64, .inl c_schedule_21)), (h0_sums, .inl (cy 1, 8, .inl c_sums_22)), (ha1, .inl (cy 0, n_a1, .inl ca1)), (ha3, .inl (cy 0, n_a3, .inl ca3)), (ha6, .inl (cy 0, n_a6, .inl ca6))]) := hD
  refine W.eq (g2 := F0 m 42 ls []) rfl ?_
  refine lv_aload_n (pc := 42) hx hb (zdt_at zt_X7_mac_0 24 rfl) rfl (lv_at hl 0 rfl) ?_
  refine lv_aload_n (pc := 43) hx hb (zdt_at zt_X7_mac_0 25 rfl) rfl (lv_at hl 0 rfl) ?_
  refine va_get (pc := 44) (D := D) (ci := 9) (v := .ref h0_inner) (C := RX7) (T := TX7) (N := 5) hx hb hts hcX7 hown hK hP 0 rfl rfl 2 (by decide) hw0 (fun _ h9 => h9) rfl (zdt_at zt_X7_mac_0 26 rfl) ?_
  refine lv_iconst (pc := 47) (v := (0 : Int32)) hx hb (zdt_at zt_X7_mac_0 27 rfl) (by decide) ?_
  refine lv_bipush (pc := 48) (v := (32 : Int32)) hx hb (zdt_at zt_X7_mac_0 28 rfl) (by decide) ?_
  replace hf := zb_s hf
  obtain ⟨⟨c_filled_23, c_total_24, c_schedule_25, c_sums_26⟩, hc_, hf⟩ := hf
  refine zcn2 (pc := 50) (rv := none) (va_runV (As := [.ref h0_inner, .int (0 : Int32), .int (32 : Int32)]) (rest := []) ⟨hx, hb, hml, hown, hts⟩ (c_X7_take_1t_inner l D cy tt H.size h0 h0_sums h0_schedule h0_inner (0 : Int32) (32 : Int32) c_filled_19 c_total_20 c_inner_13 c_schedule_21 c_sums_22 c_filled_23 c_total_24 c_schedule_25 c_sums_26 hc_) (cwV 3 hts gX7_mac_X7_take rfl rfl rfl (by decide +kernel) ⟨Nat.le_of_ble_eq_true rfl, Nat.le_of_ble_eq_true rfl⟩) ⟨zblind, va_recv hK hP (ci := 9) (q0 := 0) rfl rfl, zpre hE hS (hP.sub [0, 1, 2, 3] rfl) (hD.sub [0, 1, 2, 3] (by decide) rfl) (va_free hD hS hA [0, 1, 2, 3] rfl)⟩ rfl rfl hl.1 rfl (lv_room (Nat.le_of_ble_eq_true rfl)) (zdt_at zt_X7_mac_0 29 rfl) ⟨Nat.zero_le _, Nat.zero_le _⟩) hS hP hD (va_free hD hS hA [0, 1, 2, 3] rfl) [0, 1, 2, 3] rfl (by decide) rfl ?_
  clear hP hD hS hc_
  intro H locs hP hD hS
  replace hP : va_P D vwCl ([(h0, .inr (9, [.ref h0_sums, .ref h0_schedule, .ref h0_inner, .int c_filled_23, .int c_total_24])), (h0_inner, .inl (cy 0, 32, .inl c_inner_13)), (h0_schedule, .inl (cy 1, 64, .inl c_schedule_25)), (h0_sums, .inl (cy 1, 8, .inl c_sums_26)), (ha1, .inl (cy 0, n_a1, .inl ca1)), (ha3, .inl (cy 0, n_a3, .inl ca3)), (ha6, .inl (cy 0, n_a6, .inl ca6))]) H := hP
  replace hD : va_D A ([(h0, .inr (9, [.ref h0_sums, .ref h0_schedule, .ref h0_inner, .int c_filled_23, .int c_total_24])), (h0_inner, .inl (cy 0, 32, .inl c_inner_13)), (h0_schedule, .inl (cy 1, 64, .inl c_schedule_25)), (h0_sums, .inl (cy 1, 8, .inl c_sums_26)), (ha1, .inl (cy 0, n_a1, .inl ca1)), (ha3, .inl (cy 0, n_a3, .inl ca3)), (ha6, .inl (cy 0, n_a6, .inl ca6))]) := hD
  refine W.eq (g2 := F0 m 53 ls []) rfl ?_
  refine lv_aload_n (pc := 53) hx hb (zdt_at zt_X7_mac_0 30 rfl) rfl (lv_at hl 0 rfl) ?_
  refine lv_aload (pc := 54) hx hb (zdt_at zt_X7_mac_0 31 rfl) (lv_at hl 6 rfl) ?_
  refine lv_iload (pc := 56) hx hb (zdt_at zt_X7_mac_0 32 rfl) (lv_at hl 7 rfl) ?_
  replace hf := zb_s hf
  obtain ⟨⟨c_filled_27, c_schedule_28, c_sums_29, ca6_30⟩, hc_, hf⟩ := hf
  refine zcn2 (pc := 58) (rv := none) (va_runV (As := [.ref ha6, .int p7]) (rest := []) ⟨hx, hb, hml, hown, hts⟩ (c_X7_end l D cy tt H.size h0 h0_sums h0_schedule h0_inner ha6 n_a6 p7 c_filled_23 c_total_24 c_schedule_25 c_sums_26 ca6 c_filled_27 c_schedule_28 c_sums_29 ca6_30 hc_) (cwV 2 hts gX7_mac_X7_end rfl rfl rfl (by decide +kernel) ⟨Nat.le_of_ble_eq_true rfl, Nat.le_of_ble_eq_true rfl⟩) ⟨zblind, va_recv hK hP (ci := 9) (q0 := 0) rfl rfl, zpre hE hS (hP.sub [0, 2, 3, 6] rfl) (hD.sub [0, 2, 3, 6] (by decide) rfl) (va_free hD hS hA [0, 2, 3, 6] rfl)⟩ rfl rfl hl.1 rfl (lv_room (Nat.le_of_ble_eq_true rfl)) (zdt_at zt_X7_mac_0 33 rfl) ⟨Nat.zero_le _, Nat.zero_le _⟩) hS hP hD (va_free hD hS hA [0, 2, 3, 6] rfl) [0, 2, 3, 6] rfl (by decide) rfl ?_
  clear hP hD hS hc_
  intro H locs hP hD hS
  replace hP : va_P D vwCl ([(h0, .inr (9, [.ref h0_sums, .ref h0_schedule, .ref h0_inner, .int c_filled_27, .int c_total_24])), (h0_inner, .inl (cy 0, 32, .inl c_inner_13)), (h0_schedule, .inl (cy 1, 64, .inl c_schedule_28)), (h0_sums, .inl (cy 1, 8, .inl c_sums_29)), (ha1, .inl (cy 0, n_a1, .inl ca1)), (ha3, .inl (cy 0, n_a3, .inl ca3)), (ha6, .inl (cy 0, n_a6, .inl ca6_30))]) H := hP
  replace hD : va_D A ([(h0, .inr (9, [.ref h0_sums, .ref h0_schedule, .ref h0_inner, .int c_filled_27, .int c_total_24])), (h0_inner, .inl (cy 0, 32, .inl c_inner_13)), (h0_schedule, .inl (cy 1, 64, .inl c_schedule_28)), (h0_sums, .inl (cy 1, 8, .inl c_sums_29)), (ha1, .inl (cy 0, n_a1, .inl ca1)), (ha3, .inl (cy 0, n_a3, .inl ca3)), (ha6, .inl (cy 0, n_a6, .inl ca6_30))]) := hD
  refine W.eq (g2 := F0 m 61 ls []) rfl ?_
  cases hf
  exact W.vret (pc := 61) hx hb hr (fun t ht hW => ⟨rfl, ⟨by rw [ht]; exact hP, hD⟩, hS.F ht⟩) hS.2.2 (zdt_at zt_X7_mac_0 34 rfl)
