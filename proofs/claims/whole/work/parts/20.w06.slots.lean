set_option maxHeartbeats 4000000 in
set_option maxRecDepth 100000 in
theorem c_X8_isEmpty (l : Launch) (D : va_G) (cy : Nat → ClassId) (tt : Nat → Nat) (sz : Nat) (hP_o : Nat → Nat) (hP_k : Nat → Nat) (j0 : Nat) (cP_kind : Nat → Int32) (cP_length : Nat → Int32) (cP_usage : Nat → Int32) (cP_role : Nat → Int32) (cP_uses : Nat → Int32) (cPK : Nat → Nat → Int32) (r_ : Int32) (hj_j0 : j0 < 16) (hf : f_X8_isEmpty j0 cP_kind = some r_) : Met l yX8_isEmpty wsX8_isEmpty ({ frames := 0, cells := 0, slots := 0, locals := 0 }) (zPc D cy tt sz [.ref (hP_o j0)] ([] ++ zpl (cy 0) hP_o hP_k cP_kind cP_length cP_usage cP_role cP_uses cPK)) (fun _ st o t => o = .returned (some (.int r_)) ∧ t.heap = st.heap) 0 0 (fun _ => False) := by
  refine Met.ofW (cc := cX8_isEmpty) (maxL := 1) (ret := (some .boolean)) (by decide) rfl ?_
  intro p e s m args below meth c s₁ B hml hv
  obtain ⟨rfl, rfl, hP, hD0, hE⟩ := hv
  have hx := B.exec
  have hb := B.bytes
  have hr := B.returns
  have hts := atoms_spec (ws := wsX8_isEmpty) B.pre
  have hown : s.vm.findClass RX8 = some m.cls := findClass_of_methodNamed B.named
  have hlocks := B.notSynchronized
  clear B
  have hD := hD0.self (sz := s.heap.size)
  generalize hAe : va_A ([] ++ zpl (cy 0) hP_o hP_k cP_kind cP_length cP_usage cP_role cP_uses cPK) s.heap.size = A at hD hE
  have hA : ∀ q : Nat, s.heap.size ≤ q → A q := fun q h => by rw [← hAe]; exact Or.inr h
  clear hAe hD0
  have hS : va_S A s.heap s.heap [] := va_S.rf
  have hK := hE.1
  have hw0 := hts (.fieldLink RX8 13 "SealedModule$Slot" "kind" "I") (by decide +kernel)
  have hcX8 : ∀ w ∈ u_ws RX8 TX8 6, w ∈ wsX8_isEmpty := (fun _ h => List.mem_cons_of_mem _ (List.mem_append_right _ h))
  have hl := lv_entry ([.ref (hP_o j0)]) (n := 1) (Nat.le_of_ble_eq_true rfl)
  rw [lg_entry_eq]
  generalize (lg_sl ([.ref (hP_o j0)]) ++ List.replicate (1 - (lg_sl ([.ref (hP_o j0)])).length) Slot.unset).toArray = ls at hl ⊢
  replace hl : lv_has ls 1 [(0, .ref (hP_o j0))] := hl
  unfold f_X8_isEmpty at hf
  refine zgo (fun GW hTo hFr => ?_)
  refine hFr _ _ _ ?_
  refine lv_aload_n (pc := 0) hx hb (zdt_at zt_X8_isEmpty_0 0 rfl) rfl (lv_at hl 0 rfl) ?_
  refine va_get (pc := 1) (D := D) (ci := 10) (v := .int (cP_kind j0)) (C := RX8) (T := TX8) (N := 6) hx hb hts hcX8 hown hK hP (0 + j0) (zplO_get (X := []) (n := 0) rfl hj_j0) rfl 1 (by decide) hw0 (fun _ h9 => h9) rfl (zdt_at zt_X8_isEmpty_0 1 rfl) ?_
  refine lv_if_ne (pc := 4) (tgt := 11) hx hb (zdt_at zt_X8_isEmpty_0 2 rfl) (by decide) (fun cn_ => ?t_1) (fun cn_ => ?f_2)
  case t_1 =>
    replace hf := ze_s cn_ hf
    clear cn_
    refine lv_iconst (pc := 11) (v := (0 : Int32)) hx hb (zdt_at zt_X8_isEmpty_0 5 rfl) (by decide) ?_
    cases hf
    exact W.zret (pc := 12) hx hb hr rfl (fun t ht hW => ⟨rfl, ht⟩) (fun _ h => nomatch h) (zdt_at zt_X8_isEmpty_0 6 rfl)
  replace hf := zt_s cn_ hf
  clear cn_
  refine lv_iconst (pc := 7) (v := (1 : Int32)) hx hb (zdt_at zt_X8_isEmpty_0 3 rfl) (by decide) ?_
  refine lv_goto (pc := 8) (tgt := 12) hx hb (zdt_at zt_X8_isEmpty_0 4 rfl) (by decide) ?_
  cases hf
  exact W.zret (pc := 12) hx hb hr rfl (fun t ht hW => ⟨rfl, ht⟩) (fun _ h => nomatch h) (zdt_at zt_X8_isEmpty_0 6 rfl)
set_option maxHeartbeats 4000000 in
set_option maxRecDepth 100000 in
theorem c_X8_allows (l : Launch) (D : va_G) (cy : Nat → ClassId) (tt : Nat → Nat) (sz : Nat) (hP_o : Nat → Nat) (hP_k : Nat → Nat) (j0 : Nat) (p1 : Int32) (cP_usage : Nat → Int32) (cP_kind : Nat → Int32) (cP_length : Nat → Int32) (cP_role : Nat → Int32) (cP_uses : Nat → Int32) (cPK : Nat → Nat → Int32) (r_ : Int32) (hj_j0 : j0 < 16) (hf : f_X8_allows j0 p1 cP_usage = some r_) : Met l yX8_allows wsX8_allows ({ frames := 0, cells := 0, slots := 0, locals := 0 }) (zPc D cy tt sz [.ref (hP_o j0), .int p1] ([] ++ zpl (cy 0) hP_o hP_k cP_kind cP_length cP_usage cP_role cP_uses cPK)) (fun _ st o t => o = .returned (some (.int r_)) ∧ t.heap = st.heap) 0 0 (fun _ => False) := by
  refine Met.ofW (cc := cX8_allows) (maxL := 2) (ret := (some .boolean)) (by decide) rfl ?_
  intro p e s m args below meth c s₁ B hml hv
  obtain ⟨rfl, rfl, hP, hD0, hE⟩ := hv
  have hx := B.exec
  have hb := B.bytes
  have hr := B.returns
  have hts := atoms_spec (ws := wsX8_allows) B.pre
  have hown : s.vm.findClass RX8 = some m.cls := findClass_of_methodNamed B.named
  have hlocks := B.notSynchronized
  clear B
  have hD := hD0.self (sz := s.heap.size)
  generalize hAe : va_A ([] ++ zpl (cy 0) hP_o hP_k cP_kind cP_length cP_usage cP_role cP_uses cPK) s.heap.size = A at hD hE
  have hA : ∀ q : Nat, s.heap.size ≤ q → A q := fun q h => by rw [← hAe]; exact Or.inr h
  clear hAe hD0
  have hS : va_S A s.heap s.heap [] := va_S.rf
  have hK := hE.1
  have hw0 := hts (.fieldLink RX8 20 "SealedModule$Slot" "usage" "I") (by decide +kernel)
  have hcX8 : ∀ w ∈ u_ws RX8 TX8 6, w ∈ wsX8_allows := (fun _ h => List.mem_cons_of_mem _ (List.mem_append_right _ h))
  have hl := lv_entry ([.ref (hP_o j0), .int p1]) (n := 2) (Nat.le_of_ble_eq_true rfl)
  rw [lg_entry_eq]
  generalize (lg_sl ([.ref (hP_o j0), .int p1]) ++ List.replicate (2 - (lg_sl ([.ref (hP_o j0), .int p1])).length) Slot.unset).toArray = ls at hl ⊢
  replace hl : lv_has ls 2 [(0, .ref (hP_o j0)), (1, .int p1)] := hl
  unfold f_X8_allows at hf
  refine zgo (fun GW hTo hFr => ?_)
  refine hFr _ _ _ ?_
  refine lv_aload_n (pc := 0) hx hb (zdt_at zt_X8_allows_0 0 rfl) rfl (lv_at hl 0 rfl) ?_
  refine va_get (pc := 1) (D := D) (ci := 10) (v := .int (cP_usage j0)) (C := RX8) (T := TX8) (N := 6) hx hb hts hcX8 hown hK hP (0 + j0) (zplO_get (X := []) (n := 0) rfl hj_j0) rfl 3 (by decide) hw0 (fun _ h9 => h9) rfl (zdt_at zt_X8_allows_0 1 rfl) ?_
  refine lv_iload_n (pc := 4) hx hb (zdt_at zt_X8_allows_0 2 rfl) rfl (lv_at hl 1 rfl) ?_
  refine lv_iand (pc := 5) hx hb (zdt_at zt_X8_allows_0 3 rfl) ?_
  refine lv_if_eq (pc := 6) (tgt := 13) hx hb (zdt_at zt_X8_allows_0 4 rfl) (by decide) (fun cn_ => ?t_1) (fun cn_ => ?f_2)
  case t_1 =>
    replace hf := zt_s cn_ hf
    clear cn_
    refine lv_iconst (pc := 13) (v := (0 : Int32)) hx hb (zdt_at zt_X8_allows_0 7 rfl) (by decide) ?_
    cases hf
    exact W.zret (pc := 14) hx hb hr rfl (fun t ht hW => ⟨rfl, ht⟩) (fun _ h => nomatch h) (zdt_at zt_X8_allows_0 8 rfl)
  replace hf := ze_s cn_ hf
  clear cn_
  refine lv_iconst (pc := 9) (v := (1 : Int32)) hx hb (zdt_at zt_X8_allows_0 5 rfl) (by decide) ?_
  refine lv_goto (pc := 10) (tgt := 14) hx hb (zdt_at zt_X8_allows_0 6 rfl) (by decide) ?_
  cases hf
  exact W.zret (pc := 14) hx hb hr rfl (fun t ht hW => ⟨rfl, ht⟩) (fun _ h => nomatch h) (zdt_at zt_X8_allows_0 8 rfl)
set_option maxHeartbeats 4000000 in
set_option maxRecDepth 100000 in
theorem c_X8_fill (l : Launch) (D : va_G) (cy : Nat → ClassId) (tt : Nat → Nat) (sz : Nat) (ha5 : Nat) (hP_o : Nat → Nat) (hP_k : Nat → Nat) (n_a5 : Nat) (j0 : Nat) (p1 : Int32) (p2 : Int32) (p3 : Int32) (p4 : Int32) (p6 : Int32) (p7 : Int32) (ca5 : Nat → Int32) (cP_kind : Nat → Int32) (cP_length : Nat → Int32) (cP_role : Nat → Int32) (cP_usage : Nat → Int32) (cP_uses : Nat → Int32) (cPK : Nat → Nat → Int32) (cP_kind' : Nat → Int32) (cP_length' : Nat → Int32) (cP_role' : Nat → Int32) (cP_usage' : Nat → Int32) (cP_uses' : Nat → Int32) (cPK' : Nat → Nat → Int32) (hj_j0 : j0 < 16) (hf : f_X8_fill n_a5 j0 p1 p2 p3 p4 p6 p7 ca5 cP_kind cP_length cP_role cP_usage cP_uses cPK = some (cP_kind', cP_length', cP_role', cP_usage', cP_uses', cPK')) : Met l yX8_fill wsX8_fill ({ frames := 1, cells := 0, slots := 0, locals := 64 }) (zPc D cy tt sz [.ref (hP_o j0), .int p1, .int p2, .int p3, .int p4, .ref ha5, .int p6, .int p7] ([(ha5, .inl (cy 0, n_a5, .inl ca5))] ++ zpl (cy 0) hP_o hP_k cP_kind cP_length cP_usage cP_role cP_uses cPK)) (zQ D none ([(ha5, .inl (cy 0, n_a5, .inl ca5))] ++ zpl (cy 0) hP_o hP_k cP_kind' cP_length' cP_usage' cP_role' cP_uses' cPK') (va_A ([(ha5, .inl (cy 0, n_a5, .inl ca5))] ++ zpl (cy 0) hP_o hP_k cP_kind cP_length cP_usage cP_role cP_uses cPK) sz)) 0 0 (va_A ([(ha5, .inl (cy 0, n_a5, .inl ca5))] ++ zpl (cy 0) hP_o hP_k cP_kind cP_length cP_usage cP_role cP_uses cPK) sz) := by
  refine Met.ofW (cc := cX8_fill) (maxL := 8) (ret := none) (by decide) rfl ?_
  intro p e s m args below meth c s₁ B hml hv
  obtain ⟨rfl, rfl, hP, hD0, hE⟩ := hv
  have hx := B.exec
  have hb := B.bytes
  have hr := B.returns
  have hts := atoms_spec (ws := wsX8_fill) B.pre
  have hown : s.vm.findClass RX8 = some m.cls := findClass_of_methodNamed B.named
  have hlocks := B.notSynchronized
  clear B
  have hD := hD0.self (sz := s.heap.size)
  generalize hAe : va_A ([(ha5, .inl (cy 0, n_a5, .inl ca5))] ++ zpl (cy 0) hP_o hP_k cP_kind cP_length cP_usage cP_role cP_uses cPK) s.heap.size = A at hD hE ⊢
  have hA : ∀ q : Nat, s.heap.size ≤ q → A q := fun q h => by rw [← hAe]; exact Or.inr h
  clear hAe hD0
  have hS : va_S A s.heap s.heap [] := va_S.rf
  have hK := hE.1
  have hw0 := hts (.fieldLink RX8 13 "SealedModule$Slot" "kind" "I") (by decide +kernel)
  have hw1 := hts (.fieldLink RX8 20 "SealedModule$Slot" "usage" "I") (by decide +kernel)
  have hw2 := hts (.fieldLink RX8 23 "SealedModule$Slot" "role" "I") (by decide +kernel)
  have hw3 := hts (.fieldLink RX8 26 "SealedModule$Slot" "uses" "I") (by decide +kernel)
  have hw4 := hts (.fieldLink RX8 17 "SealedModule$Slot" "length" "I") (by decide +kernel)
  have hw5 := hts (.fieldLink RX8 9 "SealedModule$Slot" "key" "[B") (by decide +kernel)
  have hw6 := hts (.methodLink RX8 29 arraycopyName) (by decide +kernel)
  have hw7 := hts (.native arraycopyName) (by decide +kernel)
  have hw8 := hts (.static arraycopyName) (by decide +kernel)
  have hw9 := hts (.initialized "java/lang/System") (by decide +kernel)
  have hcX8 : ∀ w ∈ u_ws RX8 TX8 6, w ∈ wsX8_fill := (fun _ h => List.mem_cons_of_mem _ (List.mem_append_right _ h))
  have hl := lv_entry ([.ref (hP_o j0), .int p1, .int p2, .int p3, .int p4, .ref ha5, .int p6, .int p7]) (n := 8) (Nat.le_of_ble_eq_true rfl)
  rw [lg_entry_eq]
  generalize (lg_sl ([.ref (hP_o j0), .int p1, .int p2, .int p3, .int p4, .ref ha5, .int p6, .int p7]) ++ List.replicate (8 - (lg_sl ([.ref (hP_o j0), .int p1, .int p2, .int p3, .int p4, .ref ha5, .int p6, .int p7])).length) Slot.unset).toArray = ls at hl ⊢
  replace hl : lv_has ls 8 [(0, .ref (hP_o j0)), (1, .int p1), (2, .int p2), (3, .int p3), (4, .int p4), (5, .ref ha5), (6, .int p6), (7, .int p7)] := hl
  unfold f_X8_fill at hf
  refine zgo (fun GW hTo hFr => ?_)
  refine hFr _ _ _ ?_
  obtain ⟨H, hHe⟩ : ∃ H, H = s.heap := ⟨_, rfl⟩
  obtain ⟨locs, hLe⟩ : ∃ L : List Loc, L = [] := ⟨_, rfl⟩
  rw [← hHe] at hP
  replace hS : va_S A s.heap H locs := by rw [hHe, hLe]; exact hS
  refine zat hHe.symm hLe.symm ?_
  clear hHe hLe
  refine lv_aload_n (pc := 0) hx hb (zdt_at zt_X8_fill_0 0 rfl) rfl (lv_at hl 0 rfl) ?_
  refine lv_iload_n (pc := 1) hx hb (zdt_at zt_X8_fill_0 1 rfl) rfl (lv_at hl 1 rfl) ?_
  refine va_put (pc := 2) (D := D) (ci := 10) (v := .int p1) (ty := .int) (C := RX8) (T := TX8) (N := 6) hx hb hts hcX8 tyX8 tyX8_ok nmX8 hown hK hP hD hS (1 + j0) (zplO_get (X := [(ha5, .inl (cy 0, n_a5, .inl ca5))]) (n := 1) rfl hj_j0) rfl 1 (by decide) hw0 (fun _ h9 => h9) rfl (by decide +kernel) rfl rfl (Nat.le_of_ble_eq_true rfl) (zdt_at zt_X8_fill_0 2 rfl) ?_
  clear hP hD hS
  intro H locs hP hD hS
  replace hP : va_P D vwCl ([(ha5, .inl (cy 0, n_a5, .inl ca5))] ++ zpl (cy 0) hP_o hP_k (upd cP_kind j0 p1) cP_length cP_usage cP_role cP_uses cPK) H := Eq.mp (congrArg (fun w => va_P D vwCl w H) (zplO_set_kind (X := [(ha5, .inl (cy 0, n_a5, .inl ca5))]) (n := 1) (v := p1) rfl hj_j0)) hP
  replace hD : va_D A ([(ha5, .inl (cy 0, n_a5, .inl ca5))] ++ zpl (cy 0) hP_o hP_k (upd cP_kind j0 p1) cP_length cP_usage cP_role cP_uses cPK) := Eq.mp (congrArg (fun w => va_D A w) (zplO_set_kind (X := [(ha5, .inl (cy 0, n_a5, .inl ca5))]) (n := 1) (v := p1) rfl hj_j0)) hD
  refine lv_aload_n (pc := 5) hx hb (zdt_at zt_X8_fill_0 3 rfl) rfl (lv_at hl 0 rfl) ?_
  refine lv_iload_n (pc := 6) hx hb (zdt_at zt_X8_fill_0 4 rfl) rfl (lv_at hl 2 rfl) ?_
  refine va_put (pc := 7) (D := D) (ci := 10) (v := .int p2) (ty := .int) (C := RX8) (T := TX8) (N := 6) hx hb hts hcX8 tyX8 tyX8_ok nmX8 hown hK hP hD hS (1 + j0) (zplO_get (X := [(ha5, .inl (cy 0, n_a5, .inl ca5))]) (n := 1) rfl hj_j0) rfl 3 (by decide) hw1 (fun _ h9 => h9) rfl (by decide +kernel) rfl rfl (Nat.le_of_ble_eq_true rfl) (zdt_at zt_X8_fill_0 5 rfl) ?_
  clear hP hD hS
  intro H locs hP hD hS
  replace hP : va_P D vwCl ([(ha5, .inl (cy 0, n_a5, .inl ca5))] ++ zpl (cy 0) hP_o hP_k (upd cP_kind j0 p1) cP_length (upd cP_usage j0 p2) cP_role cP_uses cPK) H := Eq.mp (congrArg (fun w => va_P D vwCl w H) (zplO_set_usage (X := [(ha5, .inl (cy 0, n_a5, .inl ca5))]) (n := 1) (v := p2) rfl hj_j0)) hP
  replace hD : va_D A ([(ha5, .inl (cy 0, n_a5, .inl ca5))] ++ zpl (cy 0) hP_o hP_k (upd cP_kind j0 p1) cP_length (upd cP_usage j0 p2) cP_role cP_uses cPK) := Eq.mp (congrArg (fun w => va_D A w) (zplO_set_usage (X := [(ha5, .inl (cy 0, n_a5, .inl ca5))]) (n := 1) (v := p2) rfl hj_j0)) hD
  refine lv_aload_n (pc := 10) hx hb (zdt_at zt_X8_fill_0 6 rfl) rfl (lv_at hl 0 rfl) ?_
  refine lv_iload_n (pc := 11) hx hb (zdt_at zt_X8_fill_0 7 rfl) rfl (lv_at hl 3 rfl) ?_
  refine va_put (pc := 12) (D := D) (ci := 10) (v := .int p3) (ty := .int) (C := RX8) (T := TX8) (N := 6) hx hb hts hcX8 tyX8 tyX8_ok nmX8 hown hK hP hD hS (1 + j0) (zplO_get (X := [(ha5, .inl (cy 0, n_a5, .inl ca5))]) (n := 1) rfl hj_j0) rfl 4 (by decide) hw2 (fun _ h9 => h9) rfl (by decide +kernel) rfl rfl (Nat.le_of_ble_eq_true rfl) (zdt_at zt_X8_fill_0 8 rfl) ?_
  clear hP hD hS
  intro H locs hP hD hS
  replace hP : va_P D vwCl ([(ha5, .inl (cy 0, n_a5, .inl ca5))] ++ zpl (cy 0) hP_o hP_k (upd cP_kind j0 p1) cP_length (upd cP_usage j0 p2) (upd cP_role j0 p3) cP_uses cPK) H := Eq.mp (congrArg (fun w => va_P D vwCl w H) (zplO_set_role (X := [(ha5, .inl (cy 0, n_a5, .inl ca5))]) (n := 1) (v := p3) rfl hj_j0)) hP
  replace hD : va_D A ([(ha5, .inl (cy 0, n_a5, .inl ca5))] ++ zpl (cy 0) hP_o hP_k (upd cP_kind j0 p1) cP_length (upd cP_usage j0 p2) (upd cP_role j0 p3) cP_uses cPK) := Eq.mp (congrArg (fun w => va_D A w) (zplO_set_role (X := [(ha5, .inl (cy 0, n_a5, .inl ca5))]) (n := 1) (v := p3) rfl hj_j0)) hD
  refine lv_aload_n (pc := 15) hx hb (zdt_at zt_X8_fill_0 9 rfl) rfl (lv_at hl 0 rfl) ?_
  refine lv_iload (pc := 16) hx hb (zdt_at zt_X8_fill_0 10 rfl) (lv_at hl 4 rfl) ?_
  refine va_put (pc := 18) (D := D) (ci := 10) (v := .int p4) (ty := .int) (C := RX8) (T := TX8) (N := 6) hx hb hts hcX8 tyX8 tyX8_ok nmX8 hown hK hP hD hS (1 + j0) (zplO_get (X := [(ha5, .inl (cy 0, n_a5, .inl ca5))]) (n := 1) rfl hj_j0) rfl 5 (by decide) hw3 (fun _ h9 => h9) rfl (by decide +kernel) rfl rfl (Nat.le_of_ble_eq_true rfl) (zdt_at zt_X8_fill_0 11 rfl) ?_
  clear hP hD hS
  intro H locs hP hD hS
  replace hP : va_P D vwCl ([(ha5, .inl (cy 0, n_a5, .inl ca5))] ++ zpl (cy 0) hP_o hP_k (upd cP_kind j0 p1) cP_length (upd cP_usage j0 p2) (upd cP_role j0 p3) (upd cP_uses j0 p4) cPK) H := Eq.mp (congrArg (fun w => va_P D vwCl w H) (zplO_set_uses (X := [(ha5, .inl (cy 0, n_a5, .inl ca5))]) (n := 1) (v := p4) rfl hj_j0)) hP
  replace hD : va_D A ([(ha5, .inl (cy 0, n_a5, .inl ca5))] ++ zpl (cy 0) hP_o hP_k (upd cP_kind j0 p1) cP_length (upd cP_usage j0 p2) (upd cP_role j0 p3) (upd cP_uses j0 p4) cPK) := Eq.mp (congrArg (fun w => va_D A w) (zplO_set_uses (X := [(ha5, .inl (cy 0, n_a5, .inl ca5))]) (n := 1) (v := p4) rfl hj_j0)) hD
  refine lv_aload_n (pc := 21) hx hb (zdt_at zt_X8_fill_0 12 rfl) rfl (lv_at hl 0 rfl) ?_
  refine lv_iload (pc := 22) hx hb (zdt_at zt_X8_fill_0 13 rfl) (lv_at hl 7 rfl) ?_
  refine va_put (pc := 24) (D := D) (ci := 10) (v := .int p7) (ty := .int) (C := RX8) (T := TX8) (N := 6) hx hb hts hcX8 tyX8 tyX8_ok nmX8 hown hK hP hD hS (1 + j0) (zplO_get (X := [(ha5, .inl (cy 0, n_a5, .inl ca5))]) (n := 1) rfl hj_j0) rfl 2 (by decide) hw4 (fun _ h9 => h9) rfl (by decide +kernel) rfl rfl (Nat.le_of_ble_eq_true rfl) (zdt_at zt_X8_fill_0 14 rfl) ?_
  clear hP hD hS
  intro H locs hP hD hS
  replace hP : va_P D vwCl ([(ha5, .inl (cy 0, n_a5, .inl ca5))] ++ zpl (cy 0) hP_o hP_k (upd cP_kind j0 p1) (upd cP_length j0 p7) (upd cP_usage j0 p2) (upd cP_role j0 p3) (upd cP_uses j0 p4) cPK) H := Eq.mp (congrArg (fun w => va_P D vwCl w H) (zplO_set_length (X := [(ha5, .inl (cy 0, n_a5, .inl ca5))]) (n := 1) (v := p7) rfl hj_j0)) hP
  replace hD : va_D A ([(ha5, .inl (cy 0, n_a5, .inl ca5))] ++ zpl (cy 0) hP_o hP_k (upd cP_kind j0 p1) (upd cP_length j0 p7) (upd cP_usage j0 p2) (upd cP_role j0 p3) (upd cP_uses j0 p4) cPK) := Eq.mp (congrArg (fun w => va_D A w) (zplO_set_length (X := [(ha5, .inl (cy 0, n_a5, .inl ca5))]) (n := 1) (v := p7) rfl hj_j0)) hD
  refine lv_aload (pc := 27) hx hb (zdt_at zt_X8_fill_0 15 rfl) (lv_at hl 5 rfl) ?_
  refine lv_iload (pc := 29) hx hb (zdt_at zt_X8_fill_0 16 rfl) (lv_at hl 6 rfl) ?_
  refine lv_aload_n (pc := 31) hx hb (zdt_at zt_X8_fill_0 17 rfl) rfl (lv_at hl 0 rfl) ?_
  refine va_get (pc := 32) (D := D) (ci := 10) (v := .ref (hP_k j0)) (C := RX8) (T := TX8) (N := 6) hx hb hts hcX8 hown hK hP (1 + j0) (zplO_get (X := [(ha5, .inl (cy 0, n_a5, .inl ca5))]) (n := 1) rfl hj_j0) rfl 0 (by decide) hw5 (fun _ h9 => h9) rfl (zdt_at zt_X8_fill_0 18 rfl) ?_
  refine lv_iconst (pc := 35) (v := (0 : Int32)) hx hb (zdt_at zt_X8_fill_0 19 rfl) (by decide) ?_
  refine lv_iload (pc := 36) hx hb (zdt_at zt_X8_fill_0 20 rfl) (lv_at hl 7 rfl) ?_
  replace hf := zk_s hf
  refine va_copyi (pc := 38) hx hb (hml.trans hl.1.symm) hown hw6 hw7 hw8 hw9 hK hP hD hS 0 (17 + j0) 0 0 rfl (zplK_get (X := [(ha5, .inl (cy 0, n_a5, .inl ca5))]) (n := 1) rfl hj_j0) rfl rfl rfl hf.1.1 hf.1.2.1 hf.1.2.2.1 hf.1.2.2.2.1 hf.1.2.2.2.2.1 hf.1.2.2.2.2.2 (Nat.le_of_ble_eq_true rfl) (Nat.le_of_ble_eq_true rfl) (zdt_at zt_X8_fill_0 21 rfl) ?_
  replace hf := hf.2
  clear hP hD hS
  intro H locs hP hD hS
  replace hP : va_P D vwCl ([(ha5, .inl (cy 0, n_a5, .inl ca5))] ++ zpl (cy 0) hP_o hP_k (upd cP_kind j0 p1) (upd cP_length j0 p7) (upd cP_usage j0 p2) (upd cP_role j0 p3) (upd cP_uses j0 p4) (va_up cPK j0 (va_cpy ca5 (cPK j0) p6.toNatClampNeg (0 : Int32).toNatClampNeg p7.toNatClampNeg))) H := Eq.mp (congrArg (fun w => va_P D vwCl w H) (zplK_set (X := [(ha5, .inl (cy 0, n_a5, .inl ca5))]) (n := 1) rfl hj_j0)) hP
  replace hD : va_D A ([(ha5, .inl (cy 0, n_a5, .inl ca5))] ++ zpl (cy 0) hP_o hP_k (upd cP_kind j0 p1) (upd cP_length j0 p7) (upd cP_usage j0 p2) (upd cP_role j0 p3) (upd cP_uses j0 p4) (va_up cPK j0 (va_cpy ca5 (cPK j0) p6.toNatClampNeg (0 : Int32).toNatClampNeg p7.toNatClampNeg))) := Eq.mp (congrArg (fun w => va_D A w) (zplK_set (X := [(ha5, .inl (cy 0, n_a5, .inl ca5))]) (n := 1) rfl hj_j0)) hD
  cases hf
  exact W.vret (pc := 41) hx hb hr (fun t ht hW => ⟨rfl, ⟨by rw [ht]; exact hP, hD⟩, hS.F ht⟩) hS.2.2 (zdt_at zt_X8_fill_0 22 rfl)
set_option maxHeartbeats 4000000 in
set_option maxRecDepth 100000 in
theorem c_J7_fill_031fb_0PK (l : Launch) (D : va_G) (cy : Nat → ClassId) (tt : Nat → Nat) (sz : Nat) (hP_o : Nat → Nat) (hP_k : Nat → Nat) (j0 : Nat) (p1 : Int32) (cPK : Nat → Nat → Int32) (cP_kind : Nat → Int32) (cP_length : Nat → Int32) (cP_usage : Nat → Int32) (cP_role : Nat → Int32) (cP_uses : Nat → Int32) (cPK' : Nat → Nat → Int32) (hj_j0 : j0 < 16) (hf : f_J7_fill_031fb_0PK j0 p1 cPK = some cPK') : Met l yJ7_fill_031fb wsJ7_fill_031fb ({ frames := 0, cells := 0, slots := 0, locals := 0 }) (zPc D cy tt sz [.ref (hP_k j0), .int p1] ([] ++ zpl (cy 0) hP_o hP_k cP_kind cP_length cP_usage cP_role cP_uses cPK)) (zQ D none ([] ++ zpl (cy 0) hP_o hP_k cP_kind cP_length cP_usage cP_role cP_uses cPK') (va_A ([] ++ zpl (cy 0) hP_o hP_k cP_kind cP_length cP_usage cP_role cP_uses cPK) sz)) 0 0 (va_A ([] ++ zpl (cy 0) hP_o hP_k cP_kind cP_length cP_usage cP_role cP_uses cPK) sz) := by
  refine Met.ofW (cc := cJ7_fill_031fb) (maxL := 4) (ret := none) (by decide) rfl ?_
  intro p e s m args below meth c s₁ B hml hv
  obtain ⟨rfl, rfl, hP, hD0, hE⟩ := hv
  have hx := B.exec
  have hb := B.bytes
  have hr := B.returns
  have hts := atoms_spec (ws := wsJ7_fill_031fb) B.pre
  have hown : s.vm.findClass RJ7 = some m.cls := findClass_of_methodNamed B.named
  have hlocks := B.notSynchronized
  clear B
  have hD := hD0.self (sz := s.heap.size)
  generalize hAe : va_A ([] ++ zpl (cy 0) hP_o hP_k cP_kind cP_length cP_usage cP_role cP_uses cPK) s.heap.size = A at hD hE ⊢
  have hA : ∀ q : Nat, s.heap.size ≤ q → A q := fun q h => by rw [← hAe]; exact Or.inr h
  clear hAe hD0
  have hS : va_S A s.heap s.heap [] := va_S.rf
  have hK := hE.1
  have hl := lv_entry ([.ref (hP_k j0), .int p1]) (n := 4) (Nat.le_of_ble_eq_true rfl)
  rw [lg_entry_eq]
  generalize (lg_sl ([.ref (hP_k j0), .int p1]) ++ List.replicate (4 - (lg_sl ([.ref (hP_k j0), .int p1])).length) Slot.unset).toArray = ls at hl ⊢
  replace hl : lv_has ls 4 [(0, .ref (hP_k j0)), (1, .int p1)] := hl
  unfold f_J7_fill_031fb_0PK at hf
  refine zgo (fun GW hTo hFr => ?_)
  refine hFr _ _ _ ?_
  obtain ⟨H, hHe⟩ : ∃ H, H = s.heap := ⟨_, rfl⟩
  obtain ⟨locs, hLe⟩ : ∃ L : List Loc, L = [] := ⟨_, rfl⟩
  rw [← hHe] at hP
  replace hS : va_S A s.heap H locs := by rw [hHe, hLe]; exact hS
  refine zat hHe.symm hLe.symm ?_
  clear hHe hLe
  refine lv_iconst (pc := 0) (v := (0 : Int32)) hx hb (zdt_at zt_J7_fill_031fb_0 0 rfl) (by decide) ?_
  refine lv_istore_n (pc := 1) (lv' := [(2, .int (0 : Int32)), (0, .ref (hP_k j0)), (1, .int p1)]) hx hb (zdt_at zt_J7_fill_031fb_0 1 rfl) rfl hl (by decide) rfl ?_
  clear hl
  intro ls hl
  refine lv_aload_n (pc := 2) hx hb (zdt_at zt_J7_fill_031fb_0 2 rfl) rfl (lv_at hl 1 rfl) ?_
  refine va_alen (pc := 3) hx hb hK hP (16 + j0) 0 (zplK_get (X := []) (n := 0) rfl hj_j0) rfl (v := (64 : Int32)) rfl (zdt_at zt_J7_fill_031fb_0 3 rfl) ?_
  refine lv_istore_n (pc := 4) (lv' := [(3, .int (64 : Int32)), (2, .int (0 : Int32)), (0, .ref (hP_k j0)), (1, .int p1)]) hx hb (zdt_at zt_J7_fill_031fb_0 4 rfl) rfl hl (by decide) rfl ?_
  clear hl
  intro ls hl
  replace hf := zj_s hf
  obtain ⟨K_4, eK_4, hf⟩ := hf
  have kK_4 : ∀ (cPK_3 : Nat → Nat → Int32) (H : Heap) (locs : List Loc) (ls : Array Slot), va_P D vwCl ([] ++ zpl (cy 0) hP_o hP_k cP_kind cP_length cP_usage cP_role cP_uses cPK_3) H → va_D A ([] ++ zpl (cy 0) hP_o hP_k cP_kind cP_length cP_usage cP_role cP_uses cPK_3) → va_S A s.heap H locs → lv_has ls 4 [] → K_4 cPK_3 = some cPK' → GW H locs (F0 m 20 ls []) := by
    clear hf hl hP hD hS
    intro cPK_3 H locs ls hP hD hS hl hf
    rw [eK_4] at hf
    clear eK_4
    refine hFr _ _ _ ?_
    cases hf
    exact W.vret (pc := 20) hx hb hr (fun t ht hW => ⟨rfl, ⟨by rw [ht]; exact hP, hD⟩, hS.F ht⟩) hS.2.2 (zdt_at zt_J7_fill_031fb_0 14 rfl)
  clear eK_4
  refine hTo _ _ _ (zl_go (fun z => match z with | (i_1, cPK_2) => ∀ (H : Heap) (locs : List Loc) (ls : Array Slot), va_P D vwCl ([] ++ zpl (cy 0) hP_o hP_k cP_kind cP_length cP_usage cP_role cP_uses cPK_2) H → va_D A ([] ++ zpl (cy 0) hP_o hP_k cP_kind cP_length cP_usage cP_role cP_uses cPK_2) → va_S A s.heap H locs → lv_has ls 4 [(0, .ref (hP_k j0)), (1, .int p1), (2, .int i_1), (3, .int (64 : Int32))] → GW H locs (F0 m 5 ls [])) hf ?_ H locs ls hP hD hS (lv_sub hl [2, 3, 1, 0] rfl))
  clear hf hl hP hD hS
  intro self_5 ihself_5 z hf
  obtain ⟨i_1, cPK_2⟩ := z
  intro H locs ls hP hD hS hl
  refine hFr _ _ _ ?_
  unfold b_J7_fill_031fb_0PK_5 at hf
  refine lv_iload_n (pc := 5) hx hb (zdt_at zt_J7_fill_031fb_0 5 rfl) rfl (lv_at hl 2 rfl) ?_
  refine lv_iload_n (pc := 6) hx hb (zdt_at zt_J7_fill_031fb_0 6 rfl) rfl (lv_at hl 3 rfl) ?_
  refine lv_icmp_ge (pc := 7) (tgt := 20) hx hb (zdt_at zt_J7_fill_031fb_0 7 rfl) (by decide) (fun cn_ => ?t_6) (fun cn_ => ?f_7)
  case t_6 =>
    replace hf := zt_s cn_ hf
    clear cn_
    exact hTo _ _ _ (kK_4 _ H locs ls hP hD hS (lv_sub hl [] rfl) hf)
  replace hf := ze_s cn_ hf
  clear cn_
  refine lv_aload_n (pc := 10) hx hb (zdt_at zt_J7_fill_031fb_0 8 rfl) rfl (lv_at hl 0 rfl) ?_
  refine lv_iload_n (pc := 11) hx hb (zdt_at zt_J7_fill_031fb_0 9 rfl) rfl (lv_at hl 2 rfl) ?_
  refine lv_iload_n (pc := 12) hx hb (zdt_at zt_J7_fill_031fb_0 10 rfl) rfl (lv_at hl 1 rfl) ?_
  replace hf := zk_s hf
  refine va_bast (pc := 13) hx hb hK hP hD hS (16 + j0) 0 (zplK_get (X := []) (n := 0) rfl hj_j0) rfl hf.1 (zdt_at zt_J7_fill_031fb_0 11 rfl) ?_
  replace hf := hf.2
  clear hP hD hS
  intro H locs hP hD hS
  replace hP : va_P D vwCl ([] ++ zpl (cy 0) hP_o hP_k cP_kind cP_length cP_usage cP_role cP_uses (va_up cPK_2 j0 (upd (cPK_2 j0) i_1.toNatClampNeg (vp_nar .byte p1)))) H := Eq.mp (congrArg (fun w => va_P D vwCl w H) (zplK_set (X := []) (n := 0) rfl hj_j0)) hP
  replace hD : va_D A ([] ++ zpl (cy 0) hP_o hP_k cP_kind cP_length cP_usage cP_role cP_uses (va_up cPK_2 j0 (upd (cPK_2 j0) i_1.toNatClampNeg (vp_nar .byte p1)))) := Eq.mp (congrArg (fun w => va_D A w) (zplK_set (X := []) (n := 0) rfl hj_j0)) hD
  refine lv_iinc (pc := 14) (v := (i_1 + (1 : Int32))) (lv' := [(2, .int (i_1 + (1 : Int32))), (0, .ref (hP_k j0)), (1, .int p1), (3, .int (64 : Int32))]) hx hb (zdt_at zt_J7_fill_031fb_0 12 rfl) hl (k := 2) rfl rfl (by decide) rfl ?_
  clear hl
  intro ls hl
  refine lv_goto (pc := 17) (tgt := 5) hx hb (zdt_at zt_J7_fill_031fb_0 13 rfl) (by decide) ?_
  exact hTo _ _ _ (ihself_5 _ hf H locs ls hP hD hS (lv_sub hl [1, 2, 0, 3] rfl))
set_option maxHeartbeats 4000000 in
set_option maxRecDepth 100000 in
theorem c_X8_clear (l : Launch) (D : va_G) (cy : Nat → ClassId) (tt : Nat → Nat) (sz : Nat) (hP_o : Nat → Nat) (hP_k : Nat → Nat) (j0 : Nat) (cP_kind : Nat → Int32) (cPK : Nat → Nat → Int32) (cP_length : Nat → Int32) (cP_usage : Nat → Int32) (cP_role : Nat → Int32) (cP_uses : Nat → Int32) (cP_kind' : Nat → Int32) (cPK' : Nat → Nat → Int32) (hj_j0 : j0 < 16) (hf : f_X8_clear j0 cP_kind cPK = some (cP_kind', cPK')) : Met l yX8_clear wsX8_clear ({ frames := 1, cells := 0, slots := 0, locals := 23 }) (zPc D cy tt sz [.ref (hP_o j0)] ([] ++ zpl (cy 0) hP_o hP_k cP_kind cP_length cP_usage cP_role cP_uses cPK)) (zQ D none ([] ++ zpl (cy 0) hP_o hP_k cP_kind' cP_length cP_usage cP_role cP_uses cPK') (va_A ([] ++ zpl (cy 0) hP_o hP_k cP_kind cP_length cP_usage cP_role cP_uses cPK) sz)) 0 0 (va_A ([] ++ zpl (cy 0) hP_o hP_k cP_kind cP_length cP_usage cP_role cP_uses cPK) sz) := by
  refine Met.ofW (cc := cX8_clear) (maxL := 1) (ret := none) (by decide) rfl ?_
  intro p e s m args below meth c s₁ B hml hv
  obtain ⟨rfl, rfl, hP, hD0, hE⟩ := hv
  have hx := B.exec
  have hb := B.bytes
  have hr := B.returns
  have hts := atoms_spec (ws := wsX8_clear) B.pre
  have hown : s.vm.findClass RX8 = some m.cls := findClass_of_methodNamed B.named
  have hlocks := B.notSynchronized
  clear B
  have hD := hD0.self (sz := s.heap.size)
  generalize hAe : va_A ([] ++ zpl (cy 0) hP_o hP_k cP_kind cP_length cP_usage cP_role cP_uses cPK) s.heap.size = A at hD hE ⊢
  have hA : ∀ q : Nat, s.heap.size ≤ q → A q := fun q h => by rw [← hAe]; exact Or.inr h
  clear hAe hD0
  have hS : va_S A s.heap s.heap [] := va_S.rf
  have hK := hE.1
  have hw0 := hts (.fieldLink RX8 13 "SealedModule$Slot" "kind" "I") (by decide +kernel)
  have hw1 := hts (.fieldLink RX8 9 "SealedModule$Slot" "key" "[B") (by decide +kernel)
  have hcX8 : ∀ w ∈ u_ws RX8 TX8 6, w ∈ wsX8_clear := (fun _ h => List.mem_cons_of_mem _ (List.mem_append_right _ h))
  have hl := lv_entry ([.ref (hP_o j0)]) (n := 1) (Nat.le_of_ble_eq_true rfl)
  rw [lg_entry_eq]
  generalize (lg_sl ([.ref (hP_o j0)]) ++ List.replicate (1 - (lg_sl ([.ref (hP_o j0)])).length) Slot.unset).toArray = ls at hl ⊢
  replace hl : lv_has ls 1 [(0, .ref (hP_o j0))] := hl
  unfold f_X8_clear at hf
  refine zgo (fun GW hTo hFr => ?_)
  refine hFr _ _ _ ?_
  obtain ⟨H, hHe⟩ : ∃ H, H = s.heap := ⟨_, rfl⟩
  obtain ⟨locs, hLe⟩ : ∃ L : List Loc, L = [] := ⟨_, rfl⟩
  rw [← hHe] at hP
  replace hS : va_S A s.heap H locs := by rw [hHe, hLe]; exact hS
  refine zat hHe.symm hLe.symm ?_
  clear hHe hLe
  refine lv_aload_n (pc := 0) hx hb (zdt_at zt_X8_clear_0 0 rfl) rfl (lv_at hl 0 rfl) ?_
  refine lv_iconst (pc := 1) (v := (0 : Int32)) hx hb (zdt_at zt_X8_clear_0 1 rfl) (by decide) ?_
  refine va_put (pc := 2) (D := D) (ci := 10) (v := .int (0 : Int32)) (ty := .int) (C := RX8) (T := TX8) (N := 6) hx hb hts hcX8 tyX8 tyX8_ok nmX8 hown hK hP hD hS (0 + j0) (zplO_get (X := []) (n := 0) rfl hj_j0) rfl 1 (by decide) hw0 (fun _ h9 => h9) rfl (by decide +kernel) rfl rfl (Nat.le_of_ble_eq_true rfl) (zdt_at zt_X8_clear_0 2 rfl) ?_
  clear hP hD hS
  intro H locs hP hD hS
  replace hP : va_P D vwCl ([] ++ zpl (cy 0) hP_o hP_k (upd cP_kind j0 (0 : Int32)) cP_length cP_usage cP_role cP_uses cPK) H := Eq.mp (congrArg (fun w => va_P D vwCl w H) (zplO_set_kind (X := []) (n := 0) (v := (0 : Int32)) rfl hj_j0)) hP
  replace hD : va_D A ([] ++ zpl (cy 0) hP_o hP_k (upd cP_kind j0 (0 : Int32)) cP_length cP_usage cP_role cP_uses cPK) := Eq.mp (congrArg (fun w => va_D A w) (zplO_set_kind (X := []) (n := 0) (v := (0 : Int32)) rfl hj_j0)) hD
  refine lv_aload_n (pc := 5) hx hb (zdt_at zt_X8_clear_0 3 rfl) rfl (lv_at hl 0 rfl) ?_
  refine va_get (pc := 6) (D := D) (ci := 10) (v := .ref (hP_k j0)) (C := RX8) (T := TX8) (N := 6) hx hb hts hcX8 hown hK hP (0 + j0) (zplO_get (X := []) (n := 0) rfl hj_j0) rfl 0 (by decide) hw1 (fun _ h9 => h9) rfl (zdt_at zt_X8_clear_0 4 rfl) ?_
  refine lv_iconst (pc := 9) (v := (0 : Int32)) hx hb (zdt_at zt_X8_clear_0 5 rfl) (by decide) ?_
  replace hf := zb_s hf
  obtain ⟨cPK_1, hc_, hf⟩ := hf
  refine zcnP (pc := 10) (X := []) (rv := none) (va_runS (As := [.ref (hP_k j0), .int (0 : Int32)]) (rest := []) ⟨hx, hb, hml, hown, hts⟩ (c_J7_fill_031fb_0PK l D cy tt H.size hP_o hP_k j0 (0 : Int32) cPK (upd cP_kind j0 (0 : Int32)) cP_length cP_usage cP_role cP_uses cPK_1 hj_j0 hc_) (va_cwS 2 hts gX8_clear_J7_fill_031fb rfl rfl rfl (by decide +kernel) ⟨Nat.le_of_ble_eq_true rfl, Nat.le_of_ble_eq_true rfl⟩) ⟨zblind, zpre hE hS (va_P.part (X := []) hP [] rfl) (va_D.part (X := []) hD [] (by decide) rfl) (va_freeP (X := []) hD hS hA [] rfl)⟩ rfl rfl hl.1 rfl (lv_room (Nat.le_of_ble_eq_true rfl)) (zdt_at zt_X8_clear_0 6 rfl) ⟨Nat.zero_le _, Nat.zero_le _⟩) hS hP hD (va_freeP (X := []) hD hS hA [] rfl) [] rfl (by decide) rfl rfl zpl_adr ?_
  clear hP hD hS hc_
  intro H locs hP hD hS
  replace hP : va_P D vwCl ([] ++ zpl (cy 0) hP_o hP_k (upd cP_kind j0 (0 : Int32)) cP_length cP_usage cP_role cP_uses cPK_1) H := hP
  replace hD : va_D A ([] ++ zpl (cy 0) hP_o hP_k (upd cP_kind j0 (0 : Int32)) cP_length cP_usage cP_role cP_uses cPK_1) := hD
  refine W.eq (g2 := F0 m 13 ls []) rfl ?_
  cases hf
  exact W.vret (pc := 13) hx hb hr (fun t ht hW => ⟨rfl, ⟨by rw [ht]; exact hP, hD⟩, hS.F ht⟩) hS.2.2 (zdt_at zt_X8_clear_0 7 rfl)
set_option maxHeartbeats 4000000 in
set_option maxRecDepth 100000 in
theorem c_X8_takeUse (l : Launch) (D : va_G) (cy : Nat → ClassId) (tt : Nat → Nat) (sz : Nat) (hP_o : Nat → Nat) (hP_k : Nat → Nat) (j0 : Nat) (cP_uses : Nat → Int32) (cP_kind : Nat → Int32) (cP_length : Nat → Int32) (cP_usage : Nat → Int32) (cP_role : Nat → Int32) (cPK : Nat → Nat → Int32) (cP_uses' : Nat → Int32) (hj_j0 : j0 < 16) (hf : f_X8_takeUse j0 cP_uses = some cP_uses') : Met l yX8_takeUse wsX8_takeUse ({ frames := 0, cells := 0, slots := 0, locals := 0 }) (zPc D cy tt sz [.ref (hP_o j0)] ([] ++ zpl (cy 0) hP_o hP_k cP_kind cP_length cP_usage cP_role cP_uses cPK)) (zQ D none ([] ++ zpl (cy 0) hP_o hP_k cP_kind cP_length cP_usage cP_role cP_uses' cPK) (va_A ([] ++ zpl (cy 0) hP_o hP_k cP_kind cP_length cP_usage cP_role cP_uses cPK) sz)) 0 0 (va_A ([] ++ zpl (cy 0) hP_o hP_k cP_kind cP_length cP_usage cP_role cP_uses cPK) sz) := by
  refine Met.ofW (cc := cX8_takeUse) (maxL := 1) (ret := none) (by decide) rfl ?_
  intro p e s m args below meth c s₁ B hml hv
  obtain ⟨rfl, rfl, hP, hD0, hE⟩ := hv
  have hx := B.exec
  have hb := B.bytes
  have hr := B.returns
  have hts := atoms_spec (ws := wsX8_takeUse) B.pre
  have hown : s.vm.findClass RX8 = some m.cls := findClass_of_methodNamed B.named
  have hlocks := B.notSynchronized
  clear B
  have hD := hD0.self (sz := s.heap.size)
  generalize hAe : va_A ([] ++ zpl (cy 0) hP_o hP_k cP_kind cP_length cP_usage cP_role cP_uses cPK) s.heap.size = A at hD hE ⊢
  have hA : ∀ q : Nat, s.heap.size ≤ q → A q := fun q h => by rw [← hAe]; exact Or.inr h
  clear hAe hD0
  have hS : va_S A s.heap s.heap [] := va_S.rf
  have hK := hE.1
  have hw0 := hts (.fieldLink RX8 26 "SealedModule$Slot" "uses" "I") (by decide +kernel)
  have hcX8 : ∀ w ∈ u_ws RX8 TX8 6, w ∈ wsX8_takeUse := (fun _ h => List.mem_cons_of_mem _ (List.mem_append_right _ h))
  have hl := lv_entry ([.ref (hP_o j0)]) (n := 1) (Nat.le_of_ble_eq_true rfl)
  rw [lg_entry_eq]
  generalize (lg_sl ([.ref (hP_o j0)]) ++ List.replicate (1 - (lg_sl ([.ref (hP_o j0)])).length) Slot.unset).toArray = ls at hl ⊢
  replace hl : lv_has ls 1 [(0, .ref (hP_o j0))] := hl
  unfold f_X8_takeUse at hf
  refine zgo (fun GW hTo hFr => ?_)
  refine hFr _ _ _ ?_
  obtain ⟨H, hHe⟩ : ∃ H, H = s.heap := ⟨_, rfl⟩
  obtain ⟨locs, hLe⟩ : ∃ L : List Loc, L = [] := ⟨_, rfl⟩
  rw [← hHe] at hP
  replace hS : va_S A s.heap H locs := by rw [hHe, hLe]; exact hS
  refine zat hHe.symm hLe.symm ?_
  clear hHe hLe
  refine lv_aload_n (pc := 0) hx hb (zdt_at zt_X8_takeUse_0 0 rfl) rfl (lv_at hl 0 rfl) ?_
  refine va_get (pc := 1) (D := D) (ci := 10) (v := .int (cP_uses j0)) (C := RX8) (T := TX8) (N := 6) hx hb hts hcX8 hown hK hP (0 + j0) (zplO_get (X := []) (n := 0) rfl hj_j0) rfl 5 (by decide) hw0 (fun _ h9 => h9) rfl (zdt_at zt_X8_takeUse_0 1 rfl) ?_
  refine lv_if_le (pc := 4) (tgt := 17) hx hb (zdt_at zt_X8_takeUse_0 2 rfl) (by decide) (fun cn_ => ?t_1) (fun cn_ => ?f_2)
  case t_1 =>
    replace hf := zt_s cn_ hf
    clear cn_
    cases hf
    exact W.vret (pc := 17) hx hb hr (fun t ht hW => ⟨rfl, ⟨by rw [ht]; exact hP, hD⟩, hS.F ht⟩) hS.2.2 (zdt_at zt_X8_takeUse_0 9 rfl)
  replace hf := ze_s cn_ hf
  clear cn_
  refine lv_aload_n (pc := 7) hx hb (zdt_at zt_X8_takeUse_0 3 rfl) rfl (lv_at hl 0 rfl) ?_
  refine lv_dup (pc := 8) hx hb (zdt_at zt_X8_takeUse_0 4 rfl) rfl ?_
  refine va_get (pc := 9) (D := D) (ci := 10) (v := .int (cP_uses j0)) (C := RX8) (T := TX8) (N := 6) hx hb hts hcX8 hown hK hP (0 + j0) (zplO_get (X := []) (n := 0) rfl hj_j0) rfl 5 (by decide) hw0 (fun _ h9 => h9) rfl (zdt_at zt_X8_takeUse_0 5 rfl) ?_
  refine lv_iconst (pc := 12) (v := (1 : Int32)) hx hb (zdt_at zt_X8_takeUse_0 6 rfl) (by decide) ?_
  refine lv_isub (pc := 13) hx hb (zdt_at zt_X8_takeUse_0 7 rfl) ?_
  refine lv_topi (fun x_3 e_ => ?_)
  replace hf := zn_s hf e_
  clear e_
  refine va_put (pc := 14) (D := D) (ci := 10) (v := .int x_3) (ty := .int) (C := RX8) (T := TX8) (N := 6) hx hb hts hcX8 tyX8 tyX8_ok nmX8 hown hK hP hD hS (0 + j0) (zplO_get (X := []) (n := 0) rfl hj_j0) rfl 5 (by decide) hw0 (fun _ h9 => h9) rfl (by decide +kernel) rfl rfl (Nat.le_of_ble_eq_true rfl) (zdt_at zt_X8_takeUse_0 8 rfl) ?_
  clear hP hD hS
  intro H locs hP hD hS
  replace hP : va_P D vwCl ([] ++ zpl (cy 0) hP_o hP_k cP_kind cP_length cP_usage cP_role (upd cP_uses j0 x_3) cPK) H := Eq.mp (congrArg (fun w => va_P D vwCl w H) (zplO_set_uses (X := []) (n := 0) (v := x_3) rfl hj_j0)) hP
  replace hD : va_D A ([] ++ zpl (cy 0) hP_o hP_k cP_kind cP_length cP_usage cP_role (upd cP_uses j0 x_3) cPK) := Eq.mp (congrArg (fun w => va_D A w) (zplO_set_uses (X := []) (n := 0) (v := x_3) rfl hj_j0)) hD
  cases hf
  exact W.vret (pc := 17) hx hb hr (fun t ht hW => ⟨rfl, ⟨by rw [ht]; exact hP, hD⟩, hS.F ht⟩) hS.2.2 (zdt_at zt_X8_takeUse_0 9 rfl)
