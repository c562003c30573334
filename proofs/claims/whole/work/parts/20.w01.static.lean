set_option maxHeartbeats 4000000 in
set_option maxRecDepth 100000 in
theorem c_J7_rangeCheck_23922 (l : Launch) (D : va_G) (cy : Nat → ClassId) (tt : Nat → Nat) (sz : Nat) (p0 : Int32) (p1 : Int32) (p2 : Int32) (hf : f_J7_rangeCheck_23922 p0 p1 p2 = some ()) : Met l yJ7_rangeCheck_23922 wsJ7_rangeCheck_23922 ({ frames := 0, cells := 0, slots := 0, locals := 0 }) (zPc D cy tt sz [.int p0, .int p1, .int p2] ([])) (fun _ st o t => o = .returned none ∧ t.heap = st.heap) 0 0 (fun _ => False) := by
  refine Met.ofW (cc := cJ7_rangeCheck_23922) (maxL := 3) (ret := none) (by decide) rfl ?_
  intro p e s m args below meth c s₁ B hml hv
  obtain ⟨rfl, rfl, hP, hD0, hE⟩ := hv
  have hx := B.exec
  have hb := B.bytes
  have hr := B.returns
  have hts := atoms_spec (ws := wsJ7_rangeCheck_23922) B.pre
  have hown : s.vm.findClass RJ7 = some m.cls := findClass_of_methodNamed B.named
  have hlocks := B.notSynchronized
  clear B
  have hD := hD0.self (sz := s.heap.size)
  generalize hAe : va_A ([]) s.heap.size = A at hD hE
  have hA : ∀ q : Nat, s.heap.size ≤ q → A q := fun q h => by rw [← hAe]; exact Or.inr h
  clear hAe hD0
  have hS : va_S A s.heap s.heap [] := va_S.rf
  have hK := hE.1
  have hl := lv_entry ([.int p0, .int p1, .int p2]) (n := 3) (Nat.le_of_ble_eq_true rfl)
  rw [lg_entry_eq]
  generalize (lg_sl ([.int p0, .int p1, .int p2]) ++ List.replicate (3 - (lg_sl ([.int p0, .int p1, .int p2])).length) Slot.unset).toArray = ls at hl ⊢
  replace hl : lv_has ls 3 [(0, .int p0), (1, .int p1), (2, .int p2)] := hl
  unfold f_J7_rangeCheck_23922 at hf
  refine zgo (fun GW hTo hFr => ?_)
  refine hFr _ _ _ ?_
  refine lv_iload_n (pc := 0) hx hb (zdt_at zt_J7_rangeCheck_23922_0 0 rfl) rfl (lv_at hl 1 rfl) ?_
  refine lv_iload_n (pc := 1) hx hb (zdt_at zt_J7_rangeCheck_23922_0 1 rfl) rfl (lv_at hl 2 rfl) ?_
  refine lv_icmp_le (pc := 2) (tgt := 46) hx hb (zdt_at zt_J7_rangeCheck_23922_0 2 rfl) (by decide) (fun cn_ => ?t_1) (fun cn_ => ?f_2)
  case f_2 =>
    replace hf := ze_s cn_ hf
    clear cn_
    exact absurd hf (by simp)
  replace hf := zt_s cn_ hf
  clear cn_
  refine lv_iload_n (pc := 46) hx hb (zdt_at zt_J7_rangeCheck_23922_0 21 rfl) rfl (lv_at hl 1 rfl) ?_
  refine lv_if_ge (pc := 47) (tgt := 59) hx hb (zdt_at zt_J7_rangeCheck_23922_0 22 rfl) (by decide) (fun cn_ => ?t_3) (fun cn_ => ?f_4)
  case f_4 =>
    replace hf := ze_s cn_ hf
    clear cn_
    exact absurd hf (by simp)
  replace hf := zt_s cn_ hf
  clear cn_
  refine lv_iload_n (pc := 59) hx hb (zdt_at zt_J7_rangeCheck_23922_0 28 rfl) rfl (lv_at hl 2 rfl) ?_
  refine lv_iload_n (pc := 60) hx hb (zdt_at zt_J7_rangeCheck_23922_0 29 rfl) rfl (lv_at hl 0 rfl) ?_
  refine lv_icmp_le (pc := 61) (tgt := 73) hx hb (zdt_at zt_J7_rangeCheck_23922_0 30 rfl) (by decide) (fun cn_ => ?t_5) (fun cn_ => ?f_6)
  case f_6 =>
    replace hf := ze_s cn_ hf
    clear cn_
    exact absurd hf (by simp)
  replace hf := zt_s cn_ hf
  clear cn_
  cases hf
  exact W.vret (pc := 73) hx hb hr (fun t ht hW => ⟨rfl, ht⟩) (fun _ h => nomatch h) (zdt_at zt_J7_rangeCheck_23922_0 36 rfl)
set_option maxHeartbeats 4000000 in
set_option maxRecDepth 100000 in
theorem c_J7_fill_53178 (l : Launch) (D : va_G) (cy : Nat → ClassId) (tt : Nat → Nat) (sz : Nat) (ha0 : Nat) (n_a0 : Nat) (p1 : Int32) (ca0 : Nat → Int32) (ca0' : Nat → Int32) (hf : f_J7_fill_53178 n_a0 p1 ca0 = some ca0') : Met l yJ7_fill_53178 wsJ7_fill_53178 ({ frames := 0, cells := 0, slots := 0, locals := 0 }) (zPc D cy tt sz [.ref ha0, .int p1] ([(ha0, .inl (cy 1, n_a0, .inl ca0))])) (zQ D none ([(ha0, .inl (cy 1, n_a0, .inl ca0'))]) (va_A ([(ha0, .inl (cy 1, n_a0, .inl ca0))]) sz)) 0 0 (va_A ([(ha0, .inl (cy 1, n_a0, .inl ca0))]) sz) := by
  refine Met.ofW (cc := cJ7_fill_53178) (maxL := 4) (ret := none) (by decide) rfl ?_
  intro p e s m args below meth c s₁ B hml hv
  obtain ⟨rfl, rfl, hP, hD0, hE⟩ := hv
  have hx := B.exec
  have hb := B.bytes
  have hr := B.returns
  have hts := atoms_spec (ws := wsJ7_fill_53178) B.pre
  have hown : s.vm.findClass RJ7 = some m.cls := findClass_of_methodNamed B.named
  have hlocks := B.notSynchronized
  clear B
  have hD := hD0.self (sz := s.heap.size)
  generalize hAe : va_A ([(ha0, .inl (cy 1, n_a0, .inl ca0))]) s.heap.size = A at hD hE ⊢
  have hA : ∀ q : Nat, s.heap.size ≤ q → A q := fun q h => by rw [← hAe]; exact Or.inr h
  clear hAe hD0
  have hS : va_S A s.heap s.heap [] := va_S.rf
  have hK := hE.1
  have hl := lv_entry ([.ref ha0, .int p1]) (n := 4) (Nat.le_of_ble_eq_true rfl)
  rw [lg_entry_eq]
  generalize (lg_sl ([.ref ha0, .int p1]) ++ List.replicate (4 - (lg_sl ([.ref ha0, .int p1])).length) Slot.unset).toArray = ls at hl ⊢
  replace hl : lv_has ls 4 [(0, .ref ha0), (1, .int p1)] := hl
  unfold f_J7_fill_53178 at hf
  refine zgo (fun GW hTo hFr => ?_)
  refine hFr _ _ _ ?_
  obtain ⟨H, hHe⟩ : ∃ H, H = s.heap := ⟨_, rfl⟩
  obtain ⟨locs, hLe⟩ : ∃ L : List Loc, L = [] := ⟨_, rfl⟩
  rw [← hHe] at hP
  replace hS : va_S A s.heap H locs := by rw [hHe, hLe]; exact hS
  refine zat hHe.symm hLe.symm ?_
  clear hHe hLe
  refine lv_iconst (pc := 0) (v := (0 : Int32)) hx hb (zdt_at zt_J7_fill_53178_0 0 rfl) (by decide) ?_
  refine lv_istore_n (pc := 1) (lv' := [(2, .int (0 : Int32)), (0, .ref ha0), (1, .int p1)]) hx hb (zdt_at zt_J7_fill_53178_0 1 rfl) rfl hl (by decide) rfl ?_
  clear hl
  intro ls hl
  refine lv_aload_n (pc := 2) hx hb (zdt_at zt_J7_fill_53178_0 2 rfl) rfl (lv_at hl 1 rfl) ?_
  refine va_alen (pc := 3) hx hb hK hP 0 1 rfl rfl (v := (Int32.ofNat n_a0)) rfl (zdt_at zt_J7_fill_53178_0 3 rfl) ?_
  refine lv_topi (fun x_1 e_ => ?_)
  replace hf := zn_s hf e_
  clear e_
  refine lv_istore_n (pc := 4) (lv' := [(3, .int x_1), (2, .int (0 : Int32)), (0, .ref ha0), (1, .int p1)]) hx hb (zdt_at zt_J7_fill_53178_0 4 rfl) rfl hl (by decide) rfl ?_
  clear hl
  intro ls hl
  replace hf := zj_s hf
  obtain ⟨K_5, eK_5, hf⟩ := hf
  have kK_5 : ∀ (ca0_4 : Nat → Int32) (H : Heap) (locs : List Loc) (ls : Array Slot), va_P D vwCl ([(ha0, .inl (cy 1, n_a0, .inl ca0_4))]) H → va_D A ([(ha0, .inl (cy 1, n_a0, .inl ca0_4))]) → va_S A s.heap H locs → lv_has ls 4 [] → K_5 ca0_4 = some ca0' → GW H locs (F0 m 20 ls []) := by
    clear hf hl hP hD hS
    intro ca0_4 H locs ls hP hD hS hl hf
    rw [eK_5] at hf
    clear eK_5
    refine hFr _ _ _ ?_
    cases hf
    exact W.vret (pc := 20) hx hb hr (fun t ht hW => ⟨rfl, ⟨by rw [ht]; exact hP, hD⟩, hS.F ht⟩) hS.2.2 (zdt_at zt_J7_fill_53178_0 14 rfl)
  clear eK_5
  refine hTo _ _ _ (zl_go (fun z => match z with | (i_2, ca0_3) => ∀ (H : Heap) (locs : List Loc) (ls : Array Slot), va_P D vwCl ([(ha0, .inl (cy 1, n_a0, .inl ca0_3))]) H → va_D A ([(ha0, .inl (cy 1, n_a0, .inl ca0_3))]) → va_S A s.heap H locs → lv_has ls 4 [(0, .ref ha0), (1, .int p1), (2, .int i_2), (3, .int x_1)] → GW H locs (F0 m 5 ls [])) hf ?_ H locs ls hP hD hS (lv_sub hl [2, 3, 1, 0] rfl))
  clear hf hl hP hD hS
  intro self_6 ihself_6 z hf
  obtain ⟨i_2, ca0_3⟩ := z
  intro H locs ls hP hD hS hl
  refine hFr _ _ _ ?_
  unfold b_J7_fill_53178_5 at hf
  refine lv_iload_n (pc := 5) hx hb (zdt_at zt_J7_fill_53178_0 5 rfl) rfl (lv_at hl 2 rfl) ?_
  refine lv_iload_n (pc := 6) hx hb (zdt_at zt_J7_fill_53178_0 6 rfl) rfl (lv_at hl 3 rfl) ?_
  refine lv_icmp_ge (pc := 7) (tgt := 20) hx hb (zdt_at zt_J7_fill_53178_0 7 rfl) (by decide) (fun cn_ => ?t_7) (fun cn_ => ?f_8)
  case t_7 =>
    replace hf := zt_s cn_ hf
    clear cn_
    exact hTo _ _ _ (kK_5 _ H locs ls hP hD hS (lv_sub hl [] rfl) hf)
  replace hf := ze_s cn_ hf
  clear cn_
  refine lv_aload_n (pc := 10) hx hb (zdt_at zt_J7_fill_53178_0 8 rfl) rfl (lv_at hl 0 rfl) ?_
  refine lv_iload_n (pc := 11) hx hb (zdt_at zt_J7_fill_53178_0 9 rfl) rfl (lv_at hl 2 rfl) ?_
  refine lv_iload_n (pc := 12) hx hb (zdt_at zt_J7_fill_53178_0 10 rfl) rfl (lv_at hl 1 rfl) ?_
  replace hf := zk_s hf
  refine va_iast (pc := 13) hx hb hK hP hD hS 0 1 rfl rfl hf.1 (zdt_at zt_J7_fill_53178_0 11 rfl) ?_
  replace hf := hf.2
  clear hP hD hS
  intro H locs hP hD hS
  obtain ⟨ca0_9, e_⟩ : ∃ q : Nat → Int32, q = (upd ca0_3 i_2.toNatClampNeg p1) := ⟨_, rfl⟩
  replace hf := zn_s hf e_
  replace hP : va_P D vwCl ([(ha0, .inl (cy 1, n_a0, .inl ca0_9))]) H := by rw [e_]; exact hP
  replace hD : va_D A ([(ha0, .inl (cy 1, n_a0, .inl ca0_9))]) := by rw [e_]; exact hD
  clear e_
  refine lv_iinc (pc := 14) (v := (i_2 + (1 : Int32))) (lv' := [(2, .int (i_2 + (1 : Int32))), (0, .ref ha0), (1, .int p1), (3, .int x_1)]) hx hb (zdt_at zt_J7_fill_53178_0 12 rfl) hl (k := 2) rfl rfl (by decide) rfl ?_
  clear hl
  intro ls hl
  refine lv_goto (pc := 17) (tgt := 5) hx hb (zdt_at zt_J7_fill_53178_0 13 rfl) (by decide) ?_
  exact hTo _ _ _ (ihself_6 _ hf H locs ls hP hD hS (lv_sub hl [1, 2, 0, 3] rfl))
set_option maxHeartbeats 4000000 in
set_option maxRecDepth 100000 in
theorem c_J7_fill_fda19 (l : Launch) (D : va_G) (cy : Nat → ClassId) (tt : Nat → Nat) (sz : Nat) (ha0 : Nat) (n_a0 : Nat) (p1 : Int32) (p2 : Int32) (p3 : Int32) (ca0 : Nat → Int32) (ca0' : Nat → Int32) (hf : f_J7_fill_fda19 n_a0 p1 p2 p3 ca0 = some ca0') : Met l yJ7_fill_fda19 wsJ7_fill_fda19 ({ frames := 1, cells := 0, slots := 0, locals := 22 }) (zPc D cy tt sz [.ref ha0, .int p1, .int p2, .int p3] ([(ha0, .inl (cy 1, n_a0, .inl ca0))])) (zQ D none ([(ha0, .inl (cy 1, n_a0, .inl ca0'))]) (va_A ([(ha0, .inl (cy 1, n_a0, .inl ca0))]) sz)) 0 0 (va_A ([(ha0, .inl (cy 1, n_a0, .inl ca0))]) sz) := by
  refine Met.ofW (cc := cJ7_fill_fda19) (maxL := 5) (ret := none) (by decide) rfl ?_
  intro p e s m args below meth c s₁ B hml hv
  obtain ⟨rfl, rfl, hP, hD0, hE⟩ := hv
  have hx := B.exec
  have hb := B.bytes
  have hr := B.returns
  have hts := atoms_spec (ws := wsJ7_fill_fda19) B.pre
  have hown : s.vm.findClass RJ7 = some m.cls := findClass_of_methodNamed B.named
  have hlocks := B.notSynchronized
  clear B
  have hD := hD0.self (sz := s.heap.size)
  generalize hAe : va_A ([(ha0, .inl (cy 1, n_a0, .inl ca0))]) s.heap.size = A at hD hE ⊢
  have hA : ∀ q : Nat, s.heap.size ≤ q → A q := fun q h => by rw [← hAe]; exact Or.inr h
  clear hAe hD0
  have hS : va_S A s.heap s.heap [] := va_S.rf
  have hK := hE.1
  have hl := lv_entry ([.ref ha0, .int p1, .int p2, .int p3]) (n := 5) (Nat.le_of_ble_eq_true rfl)
  rw [lg_entry_eq]
  generalize (lg_sl ([.ref ha0, .int p1, .int p2, .int p3]) ++ List.replicate (5 - (lg_sl ([.ref ha0, .int p1, .int p2, .int p3])).length) Slot.unset).toArray = ls at hl ⊢
  replace hl : lv_has ls 5 [(0, .ref ha0), (1, .int p1), (2, .int p2), (3, .int p3)] := hl
  unfold f_J7_fill_fda19 at hf
  refine zgo (fun GW hTo hFr => ?_)
  refine hFr _ _ _ ?_
  obtain ⟨H, hHe⟩ : ∃ H, H = s.heap := ⟨_, rfl⟩
  obtain ⟨locs, hLe⟩ : ∃ L : List Loc, L = [] := ⟨_, rfl⟩
  rw [← hHe] at hP
  replace hS : va_S A s.heap H locs := by rw [hHe, hLe]; exact hS
  refine zat hHe.symm hLe.symm ?_
  clear hHe hLe
  refine lv_aload_n (pc := 0) hx hb (zdt_at zt_J7_fill_fda19_0 0 rfl) rfl (lv_at hl 0 rfl) ?_
  refine va_alen (pc := 1) hx hb hK hP 0 1 rfl rfl (v := (Int32.ofNat n_a0)) rfl (zdt_at zt_J7_fill_fda19_0 1 rfl) ?_
  refine lv_iload_n (pc := 2) hx hb (zdt_at zt_J7_fill_fda19_0 2 rfl) rfl (lv_at hl 1 rfl) ?_
  refine lv_iload_n (pc := 3) hx hb (zdt_at zt_J7_fill_fda19_0 3 rfl) rfl (lv_at hl 2 rfl) ?_
  replace hf := zb_s hf
  obtain ⟨⟨⟩, hc_, hf⟩ := hf
  refine zcs (pc := 4) (rv := none) (va_runS (As := [.int (Int32.ofNat n_a0), .int p1, .int p2]) (rest := []) ⟨hx, hb, hml, hown, hts⟩ (c_J7_rangeCheck_23922 l D cy tt H.size (Int32.ofNat n_a0) p1 p2 hc_) (va_cwS 3 hts gJ7_fill_fda19_J7_rangeCheck_23922 rfl rfl rfl (by decide +kernel) ⟨Nat.le_of_ble_eq_true rfl, Nat.le_of_ble_eq_true rfl⟩) ⟨zblind, zpre hE hS (hP.sub [] rfl) (hD.sub [] (by decide) rfl) (va_free hD hS hA [] rfl)⟩ rfl rfl hl.1 rfl (lv_room (Nat.le_of_ble_eq_true rfl)) (zdt_at zt_J7_fill_fda19_0 4 rfl) ⟨Nat.zero_le _, Nat.zero_le _⟩) ?_
  clear hc_
  refine W.eq (g2 := F0 m 7 ls []) rfl ?_
  refine lv_iload_n (pc := 7) hx hb (zdt_at zt_J7_fill_fda19_0 5 rfl) rfl (lv_at hl 1 rfl) ?_
  refine lv_istore (pc := 8) (lv' := [(4, .int p1), (0, .ref ha0), (1, .int p1), (2, .int p2), (3, .int p3)]) hx hb (zdt_at zt_J7_fill_fda19_0 6 rfl) hl (by decide) rfl ?_
  clear hl
  intro ls hl
  replace hf := zj_s hf
  obtain ⟨K_4, eK_4, hf⟩ := hf
  have kK_4 : ∀ (ca0_3 : Nat → Int32) (H : Heap) (locs : List Loc) (ls : Array Slot), va_P D vwCl ([(ha0, .inl (cy 1, n_a0, .inl ca0_3))]) H → va_D A ([(ha0, .inl (cy 1, n_a0, .inl ca0_3))]) → va_S A s.heap H locs → lv_has ls 5 [] → K_4 ca0_3 = some ca0' → GW H locs (F0 m 27 ls []) := by
    clear hf hl hP hD hS
    intro ca0_3 H locs ls hP hD hS hl hf
    rw [eK_4] at hf
    clear eK_4
    refine hFr _ _ _ ?_
    cases hf
    exact W.vret (pc := 27) hx hb hr (fun t ht hW => ⟨rfl, ⟨by rw [ht]; exact hP, hD⟩, hS.F ht⟩) hS.2.2 (zdt_at zt_J7_fill_fda19_0 16 rfl)
  clear eK_4
  refine hTo _ _ _ (zl_go (fun z => match z with | (i_1, ca0_2) => ∀ (H : Heap) (locs : List Loc) (ls : Array Slot), va_P D vwCl ([(ha0, .inl (cy 1, n_a0, .inl ca0_2))]) H → va_D A ([(ha0, .inl (cy 1, n_a0, .inl ca0_2))]) → va_S A s.heap H locs → lv_has ls 5 [(0, .ref ha0), (2, .int p2), (3, .int p3), (4, .int i_1)] → GW H locs (F0 m 10 ls [])) hf ?_ H locs ls hP hD hS (lv_sub hl [1, 3, 4, 0] rfl))
  clear hf hl hP hD hS
  intro self_5 ihself_5 z hf
  obtain ⟨i_1, ca0_2⟩ := z
  intro H locs ls hP hD hS hl
  refine hFr _ _ _ ?_
  unfold b_J7_fill_fda19_10 at hf
  refine lv_iload (pc := 10) hx hb (zdt_at zt_J7_fill_fda19_0 7 rfl) (lv_at hl 3 rfl) ?_
  refine lv_iload_n (pc := 12) hx hb (zdt_at zt_J7_fill_fda19_0 8 rfl) rfl (lv_at hl 1 rfl) ?_
  refine lv_icmp_ge (pc := 13) (tgt := 27) hx hb (zdt_at zt_J7_fill_fda19_0 9 rfl) (by decide) (fun cn_ => ?t_6) (fun cn_ => ?f_7)
  case t_6 =>
    replace hf := zt_s cn_ hf
    clear cn_
    exact hTo _ _ _ (kK_4 _ H locs ls hP hD hS (lv_sub hl [] rfl) hf)
  replace hf := ze_s cn_ hf
  clear cn_
  refine lv_aload_n (pc := 16) hx hb (zdt_at zt_J7_fill_fda19_0 10 rfl) rfl (lv_at hl 0 rfl) ?_
  refine lv_iload (pc := 17) hx hb (zdt_at zt_J7_fill_fda19_0 11 rfl) (lv_at hl 3 rfl) ?_
  refine lv_iload_n (pc := 19) hx hb (zdt_at zt_J7_fill_fda19_0 12 rfl) rfl (lv_at hl 2 rfl) ?_
  replace hf := zk_s hf
  refine va_iast (pc := 20) hx hb hK hP hD hS 0 1 rfl rfl hf.1 (zdt_at zt_J7_fill_fda19_0 13 rfl) ?_
  replace hf := hf.2
  clear hP hD hS
  intro H locs hP hD hS
  obtain ⟨ca0_8, e_⟩ : ∃ q : Nat → Int32, q = (upd ca0_2 i_1.toNatClampNeg p3) := ⟨_, rfl⟩
  replace hf := zn_s hf e_
  replace hP : va_P D vwCl ([(ha0, .inl (cy 1, n_a0, .inl ca0_8))]) H := by rw [e_]; exact hP
  replace hD : va_D A ([(ha0, .inl (cy 1, n_a0, .inl ca0_8))]) := by rw [e_]; exact hD
  clear e_
  refine lv_iinc (pc := 21) (v := (i_1 + (1 : Int32))) (lv' := [(4, .int (i_1 + (1 : Int32))), (0, .ref ha0), (2, .int p2), (3, .int p3)]) hx hb (zdt_at zt_J7_fill_fda19_0 14 rfl) hl (k := 3) rfl rfl (by decide) rfl ?_
  clear hl
  intro ls hl
  refine lv_goto (pc := 24) (tgt := 10) hx hb (zdt_at zt_J7_fill_fda19_0 15 rfl) (by decide) ?_
  exact hTo _ _ _ (ihself_5 _ hf H locs ls hP hD hS (lv_sub hl [1, 2, 3, 0] rfl))
set_option maxHeartbeats 4000000 in
set_option maxRecDepth 100000 in
theorem c_J7_fill_031fb (l : Launch) (D : va_G) (cy : Nat → ClassId) (tt : Nat → Nat) (sz : Nat) (ha0 : Nat) (n_a0 : Nat) (p1 : Int32) (ca0 : Nat → Int32) (ca0' : Nat → Int32) (hf : f_J7_fill_031fb n_a0 p1 ca0 = some ca0') : Met l yJ7_fill_031fb wsJ7_fill_031fb ({ frames := 0, cells := 0, slots := 0, locals := 0 }) (zPc D cy tt sz [.ref ha0, .int p1] ([(ha0, .inl (cy 0, n_a0, .inl ca0))])) (zQ D none ([(ha0, .inl (cy 0, n_a0, .inl ca0'))]) (va_A ([(ha0, .inl (cy 0, n_a0, .inl ca0))]) sz)) 0 0 (va_A ([(ha0, .inl (cy 0, n_a0, .inl ca0))]) sz) := by
  refine Met.ofW (cc := cJ7_fill_031fb) (maxL := 4) (ret := none) (by decide) rfl ?_
  intro p e s m args below meth c s₁ B hml hv
  obtain ⟨rfl, rfl, hP, hD0, hE⟩ := hv
  have hx := B.exec
  have hb := B.bytes
  have hr := B.returns
  have hts := atoms_spec (ws := wsJ7_fill_031fb) B.pre
  have hown : s.vm.findClass RJ7 = some m.cls := findClass_of_methodNamed B.named
  have hlocks := B.notSynchronized
  clear B
  have hD := hD0.self (sz := s.heap.size)
  generalize hAe : va_A ([(ha0, .inl (cy 0, n_a0, .inl ca0))]) s.heap.size = A at hD hE ⊢
  have hA : ∀ q : Nat, s.heap.size ≤ q → A q := fun q h => by rw [← hAe]; exact Or.inr h
  clear hAe hD0
  have hS : va_S A s.heap s.heap [] := va_S.rf
  have hK := hE.1
  have hl := lv_entry ([.ref ha0, .int p1]) (n := 4) (Nat.le_of_ble_eq_true rfl)
  rw [lg_entry_eq]
  generalize (lg_sl ([.ref ha0, .int p1]) ++ List.replicate (4 - (lg_sl ([.ref ha0, .int p1])).length) Slot.unset).toArray = ls at hl ⊢
  replace hl : lv_has ls 4 [(0, .ref ha0), (1, .int p1)] := hl
  unfold f_J7_fill_031fb at hf
  refine zgo (fun GW hTo hFr => ?_)
  refine hFr _ _ _ ?_
  obtain ⟨H, hHe⟩ : ∃ H, H = s.heap := ⟨_, rfl⟩
  obtain ⟨locs, hLe⟩ : ∃ L : List Loc, L = [] := ⟨_, rfl⟩
  rw [← hHe] at hP
  replace hS : va_S A s.heap H locs := by rw [hHe, hLe]; exact hS
  refine zat hHe.symm hLe.symm ?_
  clear hHe hLe
  refine lv_iconst (pc := 0) (v := (0 : Int32)) hx hb (zdt_at zt_J7_fill_031fb_0 0 rfl) (by decide) ?_
  refine lv_istore_n (pc := 1) (lv' := [(2, .int (0 : Int32)), (0, .ref ha0), (1, .int p1)]) hx hb (zdt_at zt_J7_fill_031fb_0 1 rfl) rfl hl (by decide) rfl ?_
  clear hl
  intro ls hl
  refine lv_aload_n (pc := 2) hx hb (zdt_at zt_J7_fill_031fb_0 2 rfl) rfl (lv_at hl 1 rfl) ?_
  refine va_alen (pc := 3) hx hb hK hP 0 0 rfl rfl (v := (Int32.ofNat n_a0)) rfl (zdt_at zt_J7_fill_031fb_0 3 rfl) ?_
  refine lv_topi (fun x_1 e_ => ?_)
  replace hf := zn_s hf e_
  clear e_
  refine lv_istore_n (pc := 4) (lv' := [(3, .int x_1), (2, .int (0 : Int32)), (0, .ref ha0), (1, .int p1)]) hx hb (zdt_at zt_J7_fill_031fb_0 4 rfl) rfl hl (by decide) rfl ?_
  clear hl
  intro ls hl
  replace hf := zj_s hf
  obtain ⟨K_5, eK_5, hf⟩ := hf
  have kK_5 : ∀ (ca0_4 : Nat → Int32) (H : Heap) (locs : List Loc) (ls : Array Slot), va_P D vwCl ([(ha0, .inl (cy 0, n_a0, .inl ca0_4))]) H → va_D A ([(ha0, .inl (cy 0, n_a0, .inl ca0_4))]) → va_S A s.heap H locs → lv_has ls 4 [] → K_5 ca0_4 = some ca0' → GW H locs (F0 m 20 ls []) := by
    clear hf hl hP hD hS
    intro ca0_4 H locs ls hP hD hS hl hf
    rw [eK_5] at hf
    clear eK_5
    refine hFr _ _ _ ?_
    cases hf
    exact W.vret (pc := 20) hx hb hr (fun t ht hW => ⟨rfl, ⟨by rw [ht]; exact hP, hD⟩, hS.F ht⟩) hS.2.2 (zdt_at zt_J7_fill_031fb_0 14 rfl)
  clear eK_5
  refine hTo _ _ _ (zl_go (fun z => match z with | (i_2, ca0_3) => ∀ (H : Heap) (locs : List Loc) (ls : Array Slot), va_P D vwCl ([(ha0, .inl (cy 0, n_a0, .inl ca0_3))]) H → va_D A ([(ha0, .inl (cy 0, n_a0, .inl ca0_3))]) → va_S A s.heap H locs → lv_has ls 4 [(0, .ref ha0), (1, .int p1), (2, .int i_2), (3, .int x_1)] → GW H locs (F0 m 5 ls [])) hf ?_ H locs ls hP hD hS (lv_sub hl [2, 3, 1, 0] rfl))
  clear hf hl hP hD hS
  intro self_6 ihself_6 z hf
  obtain ⟨i_2, ca0_3⟩ := z
  intro H locs ls hP hD hS hl
  refine hFr _ _ _ ?_
  unfold b_J7_fill_031fb_5 at hf
  refine lv_iload_n (pc := 5) hx hb (zdt_at zt_J7_fill_031fb_0 5 rfl) rfl (lv_at hl 2 rfl) ?_
  refine lv_iload_n (pc := 6) hx hb (zdt_at zt_J7_fill_031fb_0 6 rfl) rfl (lv_at hl 3 rfl) ?_
  refine lv_icmp_ge (pc := 7) (tgt := 20) hx hb (zdt_at zt_J7_fill_031fb_0 7 rfl) (by decide) (fun cn_ => ?t_7) (fun cn_ => ?f_8)
  case t_7 =>
    replace hf := zt_s cn_ hf
    clear cn_
    exact hTo _ _ _ (kK_5 _ H locs ls hP hD hS (lv_sub hl [] rfl) hf)
  replace hf := ze_s cn_ hf
  clear cn_
  refine lv_aload_n (pc := 10) hx hb (zdt_at zt_J7_fill_031fb_0 8 rfl) rfl (lv_at hl 0 rfl) ?_
  refine lv_iload_n (pc := 11) hx hb (zdt_at zt_J7_fill_031fb_0 9 rfl) rfl (lv_at hl 2 rfl) ?_
  refine lv_iload_n (pc := 12) hx hb (zdt_at zt_J7_fill_031fb_0 10 rfl) rfl (lv_at hl 1 rfl) ?_
  replace hf := zk_s hf
  refine va_bast (pc := 13) hx hb hK hP hD hS 0 0 rfl rfl hf.1 (zdt_at zt_J7_fill_031fb_0 11 rfl) ?_
  replace hf := hf.2
  clear hP hD hS
  intro H locs hP hD hS
  obtain ⟨ca0_9, e_⟩ : ∃ q : Nat → Int32, q = (upd ca0_3 i_2.toNatClampNeg (vp_nar .byte p1)) := ⟨_, rfl⟩
  replace hf := zn_s hf e_
  replace hP : va_P D vwCl ([(ha0, .inl (cy 0, n_a0, .inl ca0_9))]) H := by rw [e_]; exact hP
  replace hD : va_D A ([(ha0, .inl (cy 0, n_a0, .inl ca0_9))]) := by rw [e_]; exact hD
  clear e_
  refine lv_iinc (pc := 14) (v := (i_2 + (1 : Int32))) (lv' := [(2, .int (i_2 + (1 : Int32))), (0, .ref ha0), (1, .int p1), (3, .int x_1)]) hx hb (zdt_at zt_J7_fill_031fb_0 12 rfl) hl (k := 2) rfl rfl (by decide) rfl ?_
  clear hl
  intro ls hl
  refine lv_goto (pc := 17) (tgt := 5) hx hb (zdt_at zt_J7_fill_031fb_0 13 rfl) (by decide) ?_
  exact hTo _ _ _ (ihself_6 _ hf H locs ls hP hD hS (lv_sub hl [1, 2, 0, 3] rfl))
set_option maxHeartbeats 4000000 in
set_option maxRecDepth 100000 in
theorem c_J7_fill_eb02e (l : Launch) (D : va_G) (cy : Nat → ClassId) (tt : Nat → Nat) (sz : Nat) (ha0 : Nat) (n_a0 : Nat) (p1 : Int32) (p2 : Int32) (p3 : Int32) (ca0 : Nat → Int32) (ca0' : Nat → Int32) (hf : f_J7_fill_eb02e n_a0 p1 p2 p3 ca0 = some ca0') : Met l yJ7_fill_eb02e wsJ7_fill_eb02e ({ frames := 1, cells := 0, slots := 0, locals := 22 }) (zPc D cy tt sz [.ref ha0, .int p1, .int p2, .int p3] ([(ha0, .inl (cy 0, n_a0, .inl ca0))])) (zQ D none ([(ha0, .inl (cy 0, n_a0, .inl ca0'))]) (va_A ([(ha0, .inl (cy 0, n_a0, .inl ca0))]) sz)) 0 0 (va_A ([(ha0, .inl (cy 0, n_a0, .inl ca0))]) sz) := by
  refine Met.ofW (cc := cJ7_fill_eb02e) (maxL := 5) (ret := none) (by decide) rfl ?_
  intro p e s m args below meth c s₁ B hml hv
  obtain ⟨rfl, rfl, hP, hD0, hE⟩ := hv
  have hx := B.exec
  have hb := B.bytes
  have hr := B.returns
  have hts := atoms_spec (ws := wsJ7_fill_eb02e) B.pre
  have hown : s.vm.findClass RJ7 = some m.cls := findClass_of_methodNamed B.named
  have hlocks := B.notSynchronized
  clear B
  have hD := hD0.self (sz := s.heap.size)
  generalize hAe : va_A ([(ha0, .inl (cy 0, n_a0, .inl ca0))]) s.heap.size = A at hD hE ⊢
  have hA : ∀ q : Nat, s.heap.size ≤ q → A q := fun q h => by rw [← hAe]; exact Or.inr h
  clear hAe hD0
  have hS : va_S A s.heap s.heap [] := va_S.rf
  have hK := hE.1
  have hl := lv_entry ([.ref ha0, .int p1, .int p2, .int p3]) (n := 5) (Nat.le_of_ble_eq_true rfl)
  rw [lg_entry_eq]
  generalize (lg_sl ([.ref ha0, .int p1, .int p2, .int p3]) ++ List.replicate (5 - (lg_sl ([.ref ha0, .int p1, .int p2, .int p3])).length) Slot.unset).toArray = ls at hl ⊢
  replace hl : lv_has ls 5 [(0, .ref ha0), (1, .int p1), (2, .int p2), (3, .int p3)] := hl
  unfold f_J7_fill_eb02e at hf
  refine zgo (fun GW hTo hFr => ?_)
  refine hFr _ _ _ ?_
  obtain ⟨H, hHe⟩ : ∃ H, H = s.heap := ⟨_, rfl⟩
  obtain ⟨locs, hLe⟩ : ∃ L : List Loc, L = [] := ⟨_, rfl⟩
  rw [← hHe] at hP
  replace hS : va_S A s.heap H locs := by rw [hHe, hLe]; exact hS
  refine zat hHe.symm hLe.symm ?_
  clear hHe hLe
  refine lv_aload_n (pc := 0) hx hb (zdt_at zt_J7_fill_eb02e_0 0 rfl) rfl (lv_at hl 0 rfl) ?_
  refine va_alen (pc := 1) hx hb hK hP 0 0 rfl rfl (v := (Int32.ofNat n_a0)) rfl (zdt_at zt_J7_fill_eb02e_0 1 rfl) ?_
  refine lv_iload_n (pc := 2) hx hb (zdt_at zt_J7_fill_eb02e_0 2 rfl) rfl (lv_at hl 1 rfl) ?_
  refine lv_iload_n (pc := 3) hx hb (zdt_at zt_J7_fill_eb02e_0 3 rfl) rfl (lv_at hl 2 rfl) ?_
  replace hf := zb_s hf
  obtain ⟨⟨⟩, hc_, hf⟩ := hf
  refine zcs (pc := 4) (rv := none) (va_runS (As := [.int (Int32.ofNat n_a0), .int p1, .int p2]) (rest := []) ⟨hx, hb, hml, hown, hts⟩ (c_J7_rangeCheck_23922 l D cy tt H.size (Int32.ofNat n_a0) p1 p2 hc_) (va_cwS 3 hts gJ7_fill_eb02e_J7_rangeCheck_23922 rfl rfl rfl (by decide +kernel) ⟨Nat.le_of_ble_eq_true rfl, Nat.le_of_ble_eq_true rfl⟩) ⟨zblind, zpre hE hS (hP.sub [] rfl) (hD.sub [] (by decide) rfl) (va_free hD hS hA [] rfl)⟩ rfl rfl hl.1 rfl (lv_room (Nat.le_of_ble_eq_true rfl)) (zdt_at zt_J7_fill_eb02e_0 4 rfl) ⟨Nat.zero_le _, Nat.zero_le _⟩) ?_
  clear hc_
  refine W.eq (g2 := F0 m 7 ls []) rfl ?_
  refine lv_iload_n (pc := 7) hx hb (zdt_at zt_J7_fill_eb02e_0 5 rfl) rfl (lv_at hl 1 rfl) ?_
  refine lv_istore (pc := 8) (lv' := [(4, .int p1), (0, .ref ha0), (1, .int p1), (2, .int p2), (3, .int p3)]) hx hb (zdt_at zt_J7_fill_eb02e_0 6 rfl) hl (by decide) rfl ?_
  clear hl
  intro ls hl
  replace hf := zj_s hf
  obtain ⟨K_4, eK_4, hf⟩ := hf
  have kK_4 : ∀ (ca0_3 : Nat → Int32) (H : Heap) (locs : List Loc) (ls : Array Slot), va_P D vwCl ([(ha0, .inl (cy 0, n_a0, .inl ca0_3))]) H → va_D A ([(ha0, .inl (cy 0, n_a0, .inl ca0_3))]) → va_S A s.heap H locs → lv_has ls 5 [] → K_4 ca0_3 = some ca0' → GW H locs (F0 m 27 ls []) := by
    clear hf hl hP hD hS
    intro ca0_3 H locs ls hP hD hS hl hf
    rw [eK_4] at hf
    clear eK_4
    refine hFr _ _ _ ?_
    cases hf
    exact W.vret (pc := 27) hx hb hr (fun t ht hW => ⟨rfl, ⟨by rw [ht]; exact hP, hD⟩, hS.F ht⟩) hS.2.2 (zdt_at zt_J7_fill_eb02e_0 16 rfl)
  clear eK_4
  refine hTo _ _ _ (zl_go (fun z => match z with | (i_1, ca0_2) => ∀ (H : Heap) (locs : List Loc) (ls : Array Slot), va_P D vwCl ([(ha0, .inl (cy 0, n_a0, .inl ca0_2))]) H → va_D A ([(ha0, .inl (cy 0, n_a0, .inl ca0_2))]) → va_S A s.heap H locs → lv_has ls 5 [(0, .ref ha0), (2, .int p2), (3, .int p3), (4, .int i_1)] → GW H locs (F0 m 10 ls [])) hf ?_ H locs ls hP hD hS (lv_sub hl [1, 3, 4, 0] rfl))
  clear hf hl hP hD hS
  intro self_5 ihself_5 z hf
  obtain ⟨i_1, ca0_2⟩ := z
  intro H locs ls hP hD hS hl
  refine hFr _ _ _ ?_
  unfold b_J7_fill_eb02e_10 at hf
  refine lv_iload (pc := 10) hx hb (zdt_at zt_J7_fill_eb02e_0 7 rfl) (lv_at hl 3 rfl) ?_
  refine lv_iload_n (pc := 12) hx hb (zdt_at zt_J7_fill_eb02e_0 8 rfl) rfl (lv_at hl 1 rfl) ?_
  refine lv_icmp_ge (pc := 13) (tgt := 27) hx hb (zdt_at zt_J7_fill_eb02e_0 9 rfl) (by decide) (fun cn_ => ?t_6) (fun cn_ => ?f_7)
  case t_6 =>
    replace hf := zt_s cn_ hf
    clear cn_
    exact hTo _ _ _ (kK_4 _ H locs ls hP hD hS (lv_sub hl [] rfl) hf)
  replace hf := ze_s cn_ hf
  clear cn_
  refine lv_aload_n (pc := 16) hx hb (zdt_at zt_J7_fill_eb02e_0 10 rfl) rfl (lv_at hl 0 rfl) ?_
  refine lv_iload (pc := 17) hx hb (zdt_at zt_J7_fill_eb02e_0 11 rfl) (lv_at hl 3 rfl) ?_
  refine lv_iload_n (pc := 19) hx hb (zdt_at zt_J7_fill_eb02e_0 12 rfl) rfl (lv_at hl 2 rfl) ?_
  replace hf := zk_s hf
  refine va_bast (pc := 20) hx hb hK hP hD hS 0 0 rfl rfl hf.1 (zdt_at zt_J7_fill_eb02e_0 13 rfl) ?_
  replace hf := hf.2
  clear hP hD hS
  intro H locs hP hD hS
  obtain ⟨ca0_8, e_⟩ : ∃ q : Nat → Int32, q = (upd ca0_2 i_1.toNatClampNeg (vp_nar .byte p3)) := ⟨_, rfl⟩
  replace hf := zn_s hf e_
  replace hP : va_P D vwCl ([(ha0, .inl (cy 0, n_a0, .inl ca0_8))]) H := by rw [e_]; exact hP
  replace hD : va_D A ([(ha0, .inl (cy 0, n_a0, .inl ca0_8))]) := by rw [e_]; exact hD
  clear e_
  refine lv_iinc (pc := 21) (v := (i_1 + (1 : Int32))) (lv' := [(4, .int (i_1 + (1 : Int32))), (0, .ref ha0), (2, .int p2), (3, .int p3)]) hx hb (zdt_at zt_J7_fill_eb02e_0 14 rfl) hl (k := 3) rfl rfl (by decide) rfl ?_
  clear hl
  intro ls hl
  refine lv_goto (pc := 24) (tgt := 10) hx hb (zdt_at zt_J7_fill_eb02e_0 15 rfl) (by decide) ?_
  exact hTo _ _ _ (ihself_5 _ hf H locs ls hP hD hS (lv_sub hl [1, 2, 3, 0] rfl))
set_option maxHeartbeats 4000000 in
set_option maxRecDepth 100000 in
theorem c_X9_isKind (l : Launch) (D : va_G) (cy : Nat → ClassId) (tt : Nat → Nat) (sz : Nat) (p0 : Int32) (r_ : Int32) (hf : f_X9_isKind p0 = some r_) : Met l yX9_isKind wsX9_isKind ({ frames := 0, cells := 0, slots := 0, locals := 0 }) (zPc D cy tt sz [.int p0] ([])) (fun _ st o t => o = .returned (some (.int r_)) ∧ t.heap = st.heap) 0 0 (fun _ => False) := by
  refine Met.ofW (cc := cX9_isKind) (maxL := 1) (ret := (some .boolean)) (by decide) rfl ?_
  intro p e s m args below meth c s₁ B hml hv
  obtain ⟨rfl, rfl, hP, hD0, hE⟩ := hv
  have hx := B.exec
  have hb := B.bytes
  have hr := B.returns
  have hts := atoms_spec (ws := wsX9_isKind) B.pre
  have hown : s.vm.findClass RX9 = some m.cls := findClass_of_methodNamed B.named
  have hlocks := B.notSynchronized
  clear B
  have hD := hD0.self (sz := s.heap.size)
  generalize hAe : va_A ([]) s.heap.size = A at hD hE
  have hA : ∀ q : Nat, s.heap.size ≤ q → A q := fun q h => by rw [← hAe]; exact Or.inr h
  clear hAe hD0
  have hS : va_S A s.heap s.heap [] := va_S.rf
  have hK := hE.1
  have hl := lv_entry ([.int p0]) (n := 1) (Nat.le_of_ble_eq_true rfl)
  rw [lg_entry_eq]
  generalize (lg_sl ([.int p0]) ++ List.replicate (1 - (lg_sl ([.int p0])).length) Slot.unset).toArray = ls at hl ⊢
  replace hl : lv_has ls 1 [(0, .int p0)] := hl
  unfold f_X9_isKind at hf
  refine zgo (fun GW hTo hFr => ?_)
  refine hFr _ _ _ ?_
  refine lv_iload_n (pc := 0) hx hb (zdt_at zt_X9_isKind_0 0 rfl) rfl (lv_at hl 0 rfl) ?_
  refine lv_iconst (pc := 1) (v := (1 : Int32)) hx hb (zdt_at zt_X9_isKind_0 1 rfl) (by decide) ?_
  refine lv_icmp_eq (pc := 2) (tgt := 10) hx hb (zdt_at zt_X9_isKind_0 2 rfl) (by decide) (fun cn_ => ?t_1) (fun cn_ => ?f_2)
  case t_1 =>
    replace hf := zt_s cn_ hf
    clear cn_
    refine lv_iconst (pc := 10) (v := (1 : Int32)) hx hb (zdt_at zt_X9_isKind_0 6 rfl) (by decide) ?_
    refine lv_goto (pc := 11) (tgt := 15) hx hb (zdt_at zt_X9_isKind_0 7 rfl) (by decide) ?_
    cases hf
    exact W.zret (pc := 15) hx hb hr rfl (fun t ht hW => ⟨rfl, ht⟩) (fun _ h => nomatch h) (zdt_at zt_X9_isKind_0 9 rfl)
  replace hf := ze_s cn_ hf
  clear cn_
  refine lv_iload_n (pc := 5) hx hb (zdt_at zt_X9_isKind_0 3 rfl) rfl (lv_at hl 0 rfl) ?_
  refine lv_iconst (pc := 6) (v := (2 : Int32)) hx hb (zdt_at zt_X9_isKind_0 4 rfl) (by decide) ?_
  refine lv_icmp_ne (pc := 7) (tgt := 14) hx hb (zdt_at zt_X9_isKind_0 5 rfl) (by decide) (fun cn_ => ?t_3) (fun cn_ => ?f_4)
  case t_3 =>
    replace hf := ze_s cn_ hf
    clear cn_
    refine lv_iconst (pc := 14) (v := (0 : Int32)) hx hb (zdt_at zt_X9_isKind_0 8 rfl) (by decide) ?_
    cases hf
    exact W.zret (pc := 15) hx hb hr rfl (fun t ht hW => ⟨rfl, ht⟩) (fun _ h => nomatch h) (zdt_at zt_X9_isKind_0 9 rfl)
  replace hf := zt_s cn_ hf
  clear cn_
  refine lv_iconst (pc := 10) (v := (1 : Int32)) hx hb (zdt_at zt_X9_isKind_0 6 rfl) (by decide) ?_
  refine lv_goto (pc := 11) (tgt := 15) hx hb (zdt_at zt_X9_isKind_0 7 rfl) (by decide) ?_
  cases hf
  exact W.zret (pc := 15) hx hb hr rfl (fun t ht hW => ⟨rfl, ht⟩) (fun _ h => nomatch h) (zdt_at zt_X9_isKind_0 9 rfl)
set_option maxHeartbeats 4000000 in
set_option maxRecDepth 100000 in
theorem c_X9_isKeyLength (l : Launch) (D : va_G) (cy : Nat → ClassId) (tt : Nat → Nat) (sz : Nat) (p0 : Int32) (r_ : Int32) (hf : f_X9_isKeyLength p0 = some r_) : Met l yX9_isKeyLength wsX9_isKeyLength ({ frames := 0, cells := 0, slots := 0, locals := 0 }) (zPc D cy tt sz [.int p0] ([])) (fun _ st o t => o = .returned (some (.int r_)) ∧ t.heap = st.heap) 0 0 (fun _ => False) := by
  refine Met.ofW (cc := cX9_isKeyLength) (maxL := 1) (ret := (some .boolean)) (by decide) rfl ?_
  intro p e s m args below meth c s₁ B hml hv
  obtain ⟨rfl, rfl, hP, hD0, hE⟩ := hv
  have hx := B.exec
  have hb := B.bytes
  have hr := B.returns
  have hts := atoms_spec (ws := wsX9_isKeyLength) B.pre
  have hown : s.vm.findClass RX9 = some m.cls := findClass_of_methodNamed B.named
  have hlocks := B.notSynchronized
  clear B
  have hD := hD0.self (sz := s.heap.size)
  generalize hAe : va_A ([]) s.heap.size = A at hD hE
  have hA : ∀ q : Nat, s.heap.size ≤ q → A q := fun q h => by rw [← hAe]; exact Or.inr h
  clear hAe hD0
  have hS : va_S A s.heap s.heap [] := va_S.rf
  have hK := hE.1
  have hl := lv_entry ([.int p0]) (n := 1) (Nat.le_of_ble_eq_true rfl)
  rw [lg_entry_eq]
  generalize (lg_sl ([.int p0]) ++ List.replicate (1 - (lg_sl ([.int p0])).length) Slot.unset).toArray = ls at hl ⊢
  replace hl : lv_has ls 1 [(0, .int p0)] := hl
  unfold f_X9_isKeyLength at hf
  refine zgo (fun GW hTo hFr => ?_)
  refine hFr _ _ _ ?_
  refine lv_iload_n (pc := 0) hx hb (zdt_at zt_X9_isKeyLength_0 0 rfl) rfl (lv_at hl 0 rfl) ?_
  refine lv_iconst (pc := 1) (v := (1 : Int32)) hx hb (zdt_at zt_X9_isKeyLength_0 1 rfl) (by decide) ?_
  refine lv_icmp_lt (pc := 2) (tgt := 15) hx hb (zdt_at zt_X9_isKeyLength_0 2 rfl) (by decide) (fun cn_ => ?t_1) (fun cn_ => ?f_2)
  case t_1 =>
    replace hf := zt_s cn_ hf
    clear cn_
    refine lv_iconst (pc := 15) (v := (0 : Int32)) hx hb (zdt_at zt_X9_isKeyLength_0 8 rfl) (by decide) ?_
    cases hf
    exact W.zret (pc := 16) hx hb hr rfl (fun t ht hW => ⟨rfl, ht⟩) (fun _ h => nomatch h) (zdt_at zt_X9_isKeyLength_0 9 rfl)
  replace hf := ze_s cn_ hf
  clear cn_
  refine lv_iload_n (pc := 5) hx hb (zdt_at zt_X9_isKeyLength_0 3 rfl) rfl (lv_at hl 0 rfl) ?_
  refine lv_bipush (pc := 6) (v := (64 : Int32)) hx hb (zdt_at zt_X9_isKeyLength_0 4 rfl) (by decide) ?_
  refine lv_icmp_gt (pc := 8) (tgt := 15) hx hb (zdt_at zt_X9_isKeyLength_0 5 rfl) (by decide) (fun cn_ => ?t_3) (fun cn_ => ?f_4)
  case t_3 =>
    replace hf := zt_s cn_ hf
    clear cn_
    refine lv_iconst (pc := 15) (v := (0 : Int32)) hx hb (zdt_at zt_X9_isKeyLength_0 8 rfl) (by decide) ?_
    cases hf
    exact W.zret (pc := 16) hx hb hr rfl (fun t ht hW => ⟨rfl, ht⟩) (fun _ h => nomatch h) (zdt_at zt_X9_isKeyLength_0 9 rfl)
  replace hf := ze_s cn_ hf
  clear cn_
  refine lv_iconst (pc := 11) (v := (1 : Int32)) hx hb (zdt_at zt_X9_isKeyLength_0 6 rfl) (by decide) ?_
  refine lv_goto (pc := 12) (tgt := 16) hx hb (zdt_at zt_X9_isKeyLength_0 7 rfl) (by decide) ?_
  cases hf
  exact W.zret (pc := 16) hx hb hr rfl (fun t ht hW => ⟨rfl, ht⟩) (fun _ h => nomatch h) (zdt_at zt_X9_isKeyLength_0 9 rfl)
set_option maxHeartbeats 4000000 in
set_option maxRecDepth 100000 in
theorem c_X9_lengthFits (l : Launch) (D : va_G) (cy : Nat → ClassId) (tt : Nat → Nat) (sz : Nat) (p0 : Int32) (p1 : Int32) (r_ : Int32) (hf : f_X9_lengthFits p0 p1 = some r_) : Met l yX9_lengthFits wsX9_lengthFits ({ frames := 1, cells := 0, slots := 0, locals := 20 }) (zPc D cy tt sz [.int p0, .int p1] ([])) (fun _ st o t => o = .returned (some (.int r_)) ∧ t.heap = st.heap) 0 0 (fun _ => False) := by
  refine Met.ofW (cc := cX9_lengthFits) (maxL := 2) (ret := (some .boolean)) (by decide) rfl ?_
  intro p e s m args below meth c s₁ B hml hv
  obtain ⟨rfl, rfl, hP, hD0, hE⟩ := hv
  have hx := B.exec
  have hb := B.bytes
  have hr := B.returns
  have hts := atoms_spec (ws := wsX9_lengthFits) B.pre
  have hown : s.vm.findClass RX9 = some m.cls := findClass_of_methodNamed B.named
  have hlocks := B.notSynchronized
  clear B
  have hD := hD0.self (sz := s.heap.size)
  generalize hAe : va_A ([]) s.heap.size = A at hD hE
  have hA : ∀ q : Nat, s.heap.size ≤ q → A q := fun q h => by rw [← hAe]; exact Or.inr h
  clear hAe hD0
  have hS : va_S A s.heap s.heap [] := va_S.rf
  have hK := hE.1
  have hl := lv_entry ([.int p0, .int p1]) (n := 2) (Nat.le_of_ble_eq_true rfl)
  rw [lg_entry_eq]
  generalize (lg_sl ([.int p0, .int p1]) ++ List.replicate (2 - (lg_sl ([.int p0, .int p1])).length) Slot.unset).toArray = ls at hl ⊢
  replace hl : lv_has ls 2 [(0, .int p0), (1, .int p1)] := hl
  unfold f_X9_lengthFits at hf
  refine zgo (fun GW hTo hFr => ?_)
  refine hFr _ _ _ ?_
  refine lv_iload_n (pc := 0) hx hb (zdt_at zt_X9_lengthFits_0 0 rfl) rfl (lv_at hl 0 rfl) ?_
  refine lv_iconst (pc := 1) (v := (1 : Int32)) hx hb (zdt_at zt_X9_lengthFits_0 1 rfl) (by decide) ?_
  refine lv_icmp_ne (pc := 2) (tgt := 25) hx hb (zdt_at zt_X9_lengthFits_0 2 rfl) (by decide) (fun cn_ => ?t_1) (fun cn_ => ?f_2)
  case t_1 =>
    replace hf := ze_s cn_ hf
    clear cn_
    refine lv_iload_n (pc := 25) hx hb (zdt_at zt_X9_lengthFits_0 13 rfl) rfl (lv_at hl 1 rfl) ?_
    replace hf := zb_s hf
    obtain ⟨r_3, hc_, hf⟩ := hf
    refine zcs (pc := 26) (rv := (some (.int r_3))) (va_runS (As := [.int p1]) (rest := []) ⟨hx, hb, hml, hown, hts⟩ (c_X9_isKeyLength l D cy tt s.heap.size p1 r_3 hc_) (va_cwS 1 hts gX9_lengthFits_X9_isKeyLength rfl rfl rfl (by decide +kernel) ⟨Nat.le_of_ble_eq_true rfl, Nat.le_of_ble_eq_true rfl⟩) ⟨zblind, zpre hE hS (hP.sub [] rfl) (hD.sub [] (by decide) rfl) (va_free hD hS hA [] rfl)⟩ rfl rfl hl.1 rfl (lv_room (Nat.le_of_ble_eq_true rfl)) (zdt_at zt_X9_lengthFits_0 14 rfl) ⟨Nat.zero_le _, Nat.zero_le _⟩) ?_
    clear hc_
    refine W.eq (g2 := F0 m 29 ls [.int r_3]) rfl ?_
    replace hf := zk_s hf
    have hv_ := hf.1
    replace hf := hf.2
    cases hf
    exact W.zret (pc := 29) hx hb hr (zz_nar hv_) (fun t ht hW => ⟨rfl, ht⟩) (fun _ h => nomatch h) (zdt_at zt_X9_lengthFits_0 15 rfl)
  replace hf := zt_s cn_ hf
  clear cn_
  refine lv_iload_n (pc := 5) hx hb (zdt_at zt_X9_lengthFits_0 3 rfl) rfl (lv_at hl 1 rfl) ?_
  refine lv_bipush (pc := 6) (v := (16 : Int32)) hx hb (zdt_at zt_X9_lengthFits_0 4 rfl) (by decide) ?_
  refine lv_icmp_eq (pc := 8) (tgt := 17) hx hb (zdt_at zt_X9_lengthFits_0 5 rfl) (by decide) (fun cn_ => ?t_4) (fun cn_ => ?f_5)
  case t_4 =>
    replace hf := zt_s cn_ hf
    clear cn_
    refine lv_iconst (pc := 17) (v := (1 : Int32)) hx hb (zdt_at zt_X9_lengthFits_0 9 rfl) (by decide) ?_
    refine lv_goto (pc := 18) (tgt := 29) hx hb (zdt_at zt_X9_lengthFits_0 10 rfl) (by decide) ?_
    cases hf
    exact W.zret (pc := 29) hx hb hr rfl (fun t ht hW => ⟨rfl, ht⟩) (fun _ h => nomatch h) (zdt_at zt_X9_lengthFits_0 15 rfl)
  replace hf := ze_s cn_ hf
  clear cn_
  refine lv_iload_n (pc := 11) hx hb (zdt_at zt_X9_lengthFits_0 6 rfl) rfl (lv_at hl 1 rfl) ?_
  refine lv_bipush (pc := 12) (v := (32 : Int32)) hx hb (zdt_at zt_X9_lengthFits_0 7 rfl) (by decide) ?_
  refine lv_icmp_ne (pc := 14) (tgt := 21) hx hb (zdt_at zt_X9_lengthFits_0 8 rfl) (by decide) (fun cn_ => ?t_6) (fun cn_ => ?f_7)
  case t_6 =>
    replace hf := ze_s cn_ hf
    clear cn_
    refine lv_iconst (pc := 21) (v := (0 : Int32)) hx hb (zdt_at zt_X9_lengthFits_0 11 rfl) (by decide) ?_
    refine lv_goto (pc := 22) (tgt := 29) hx hb (zdt_at zt_X9_lengthFits_0 12 rfl) (by decide) ?_
    cases hf
    exact W.zret (pc := 29) hx hb hr rfl (fun t ht hW => ⟨rfl, ht⟩) (fun _ h => nomatch h) (zdt_at zt_X9_lengthFits_0 15 rfl)
  replace hf := zt_s cn_ hf
  clear cn_
  refine lv_iconst (pc := 17) (v := (1 : Int32)) hx hb (zdt_at zt_X9_lengthFits_0 9 rfl) (by decide) ?_
  refine lv_goto (pc := 18) (tgt := 29) hx hb (zdt_at zt_X9_lengthFits_0 10 rfl) (by decide) ?_
  cases hf
  exact W.zret (pc := 29) hx hb hr rfl (fun t ht hW => ⟨rfl, ht⟩) (fun _ h => nomatch h) (zdt_at zt_X9_lengthFits_0 15 rfl)
set_option maxHeartbeats 4000000 in
set_option maxRecDepth 100000 in
theorem c_X9_isUsage (l : Launch) (D : va_G) (cy : Nat → ClassId) (tt : Nat → Nat) (sz : Nat) (p0 : Int32) (r_ : Int32) (hf : f_X9_isUsage p0 = some r_) : Met l yX9_isUsage wsX9_isUsage ({ frames := 0, cells := 0, slots := 0, locals := 0 }) (zPc D cy tt sz [.int p0] ([])) (fun _ st o t => o = .returned (some (.int r_)) ∧ t.heap = st.heap) 0 0 (fun _ => False) := by
  refine Met.ofW (cc := cX9_isUsage) (maxL := 1) (ret := (some .boolean)) (by decide) rfl ?_
  intro p e s m args below meth c s₁ B hml hv
  obtain ⟨rfl, rfl, hP, hD0, hE⟩ := hv
  have hx := B.exec
  have hb := B.bytes
  have hr := B.returns
  have hts := atoms_spec (ws := wsX9_isUsage) B.pre
  have hown : s.vm.findClass RX9 = some m.cls := findClass_of_methodNamed B.named
  have hlocks := B.notSynchronized
  clear B
  have hD := hD0.self (sz := s.heap.size)
  generalize hAe : va_A ([]) s.heap.size = A at hD hE
  have hA : ∀ q : Nat, s.heap.size ≤ q → A q := fun q h => by rw [← hAe]; exact Or.inr h
  clear hAe hD0
  have hS : va_S A s.heap s.heap [] := va_S.rf
  have hK := hE.1
  have hl := lv_entry ([.int p0]) (n := 1) (Nat.le_of_ble_eq_true rfl)
  rw [lg_entry_eq]
  generalize (lg_sl ([.int p0]) ++ List.replicate (1 - (lg_sl ([.int p0])).length) Slot.unset).toArray = ls at hl ⊢
  replace hl : lv_has ls 1 [(0, .int p0)] := hl
  unfold f_X9_isUsage at hf
  refine zgo (fun GW hTo hFr => ?_)
  refine hFr _ _ _ ?_
  refine lv_iload_n (pc := 0) hx hb (zdt_at zt_X9_isUsage_0 0 rfl) rfl (lv_at hl 0 rfl) ?_
  refine lv_if_lt (pc := 1) (tgt := 14) hx hb (zdt_at zt_X9_isUsage_0 1 rfl) (by decide) (fun cn_ => ?t_1) (fun cn_ => ?f_2)
  case t_1 =>
    replace hf := zt_s cn_ hf
    clear cn_
    refine lv_iconst (pc := 14) (v := (0 : Int32)) hx hb (zdt_at zt_X9_isUsage_0 7 rfl) (by decide) ?_
    cases hf
    exact W.zret (pc := 15) hx hb hr rfl (fun t ht hW => ⟨rfl, ht⟩) (fun _ h => nomatch h) (zdt_at zt_X9_isUsage_0 8 rfl)
  replace hf := ze_s cn_ hf
  clear cn_
  refine lv_iload_n (pc := 4) hx hb (zdt_at zt_X9_isUsage_0 2 rfl) rfl (lv_at hl 0 rfl) ?_
  refine lv_bipush (pc := 5) (v := (63 : Int32)) hx hb (zdt_at zt_X9_isUsage_0 3 rfl) (by decide) ?_
  refine lv_icmp_gt (pc := 7) (tgt := 14) hx hb (zdt_at zt_X9_isUsage_0 4 rfl) (by decide) (fun cn_ => ?t_3) (fun cn_ => ?f_4)
  case t_3 =>
    replace hf := zt_s cn_ hf
    clear cn_
    refine lv_iconst (pc := 14) (v := (0 : Int32)) hx hb (zdt_at zt_X9_isUsage_0 7 rfl) (by decide) ?_
    cases hf
    exact W.zret (pc := 15) hx hb hr rfl (fun t ht hW => ⟨rfl, ht⟩) (fun _ h => nomatch h) (zdt_at zt_X9_isUsage_0 8 rfl)
  replace hf := ze_s cn_ hf
  clear cn_
  refine lv_iconst (pc := 10) (v := (1 : Int32)) hx hb (zdt_at zt_X9_isUsage_0 5 rfl) (by decide) ?_
  refine lv_goto (pc := 11) (tgt := 15) hx hb (zdt_at zt_X9_isUsage_0 6 rfl) (by decide) ?_
  cases hf
  exact W.zret (pc := 15) hx hb hr rfl (fun t ht hW => ⟨rfl, ht⟩) (fun _ h => nomatch h) (zdt_at zt_X9_isUsage_0 8 rfl)
set_option maxHeartbeats 4000000 in
set_option maxRecDepth 100000 in
theorem c_X9_isRole (l : Launch) (D : va_G) (cy : Nat → ClassId) (tt : Nat → Nat) (sz : Nat) (p0 : Int32) (r_ : Int32) (hf : f_X9_isRole p0 = some r_) : Met l yX9_isRole wsX9_isRole ({ frames := 0, cells := 0, slots := 0, locals := 0 }) (zPc D cy tt sz [.int p0] ([])) (fun _ st o t => o = .returned (some (.int r_)) ∧ t.heap = st.heap) 0 0 (fun _ => False) := by
  refine Met.ofW (cc := cX9_isRole) (maxL := 1) (ret := (some .boolean)) (by decide) rfl ?_
  intro p e s m args below meth c s₁ B hml hv
  obtain ⟨rfl, rfl, hP, hD0, hE⟩ := hv
  have hx := B.exec
  have hb := B.bytes
  have hr := B.returns
  have hts := atoms_spec (ws := wsX9_isRole) B.pre
  have hown : s.vm.findClass RX9 = some m.cls := findClass_of_methodNamed B.named
  have hlocks := B.notSynchronized
  clear B
  have hD := hD0.self (sz := s.heap.size)
  generalize hAe : va_A ([]) s.heap.size = A at hD hE
  have hA : ∀ q : Nat, s.heap.size ≤ q → A q := fun q h => by rw [← hAe]; exact Or.inr h
  clear hAe hD0
  have hS : va_S A s.heap s.heap [] := va_S.rf
  have hK := hE.1
  have hl := lv_entry ([.int p0]) (n := 1) (Nat.le_of_ble_eq_true rfl)
  rw [lg_entry_eq]
  generalize (lg_sl ([.int p0]) ++ List.replicate (1 - (lg_sl ([.int p0])).length) Slot.unset).toArray = ls at hl ⊢
  replace hl : lv_has ls 1 [(0, .int p0)] := hl
  unfold f_X9_isRole at hf
  refine zgo (fun GW hTo hFr => ?_)
  refine hFr _ _ _ ?_
  refine lv_iload_n (pc := 0) hx hb (zdt_at zt_X9_isRole_0 0 rfl) rfl (lv_at hl 0 rfl) ?_
  refine lv_iconst (pc := 1) (v := (1 : Int32)) hx hb (zdt_at zt_X9_isRole_0 1 rfl) (by decide) ?_
  refine lv_icmp_eq (pc := 2) (tgt := 10) hx hb (zdt_at zt_X9_isRole_0 2 rfl) (by decide) (fun cn_ => ?t_1) (fun cn_ => ?f_2)
  case t_1 =>
    replace hf := zt_s cn_ hf
    clear cn_
    refine lv_iconst (pc := 10) (v := (1 : Int32)) hx hb (zdt_at zt_X9_isRole_0 6 rfl) (by decide) ?_
    refine lv_goto (pc := 11) (tgt := 15) hx hb (zdt_at zt_X9_isRole_0 7 rfl) (by decide) ?_
    cases hf
    exact W.zret (pc := 15) hx hb hr rfl (fun t ht hW => ⟨rfl, ht⟩) (fun _ h => nomatch h) (zdt_at zt_X9_isRole_0 9 rfl)
  replace hf := ze_s cn_ hf
  clear cn_
  refine lv_iload_n (pc := 5) hx hb (zdt_at zt_X9_isRole_0 3 rfl) rfl (lv_at hl 0 rfl) ?_
  refine lv_iconst (pc := 6) (v := (2 : Int32)) hx hb (zdt_at zt_X9_isRole_0 4 rfl) (by decide) ?_
  refine lv_icmp_ne (pc := 7) (tgt := 14) hx hb (zdt_at zt_X9_isRole_0 5 rfl) (by decide) (fun cn_ => ?t_3) (fun cn_ => ?f_4)
  case t_3 =>
    replace hf := ze_s cn_ hf
    clear cn_
    refine lv_iconst (pc := 14) (v := (0 : Int32)) hx hb (zdt_at zt_X9_isRole_0 8 rfl) (by decide) ?_
    cases hf
    exact W.zret (pc := 15) hx hb hr rfl (fun t ht hW => ⟨rfl, ht⟩) (fun _ h => nomatch h) (zdt_at zt_X9_isRole_0 9 rfl)
  replace hf := zt_s cn_ hf
  clear cn_
  refine lv_iconst (pc := 10) (v := (1 : Int32)) hx hb (zdt_at zt_X9_isRole_0 6 rfl) (by decide) ?_
  refine lv_goto (pc := 11) (tgt := 15) hx hb (zdt_at zt_X9_isRole_0 7 rfl) (by decide) ?_
  cases hf
  exact W.zret (pc := 15) hx hb hr rfl (fun t ht hW => ⟨rfl, ht⟩) (fun _ h => nomatch h) (zdt_at zt_X9_isRole_0 9 rfl)
set_option maxHeartbeats 4000000 in
set_option maxRecDepth 100000 in
theorem c_X9_isWrappedHead (l : Launch) (D : va_G) (cy : Nat → ClassId) (tt : Nat → Nat) (sz : Nat) (ha0 : Nat) (n_a0 : Nat) (p1 : Int32) (ca0 : Nat → Int32) (r_ : Int32) (hf : f_X9_isWrappedHead n_a0 p1 ca0 = some r_) : Met l yX9_isWrappedHead wsX9_isWrappedHead ({ frames := 2, cells := 0, slots := 0, locals := 41 }) (zPc D cy tt sz [.ref ha0, .int p1] ([(ha0, .inl (cy 0, n_a0, .inl ca0))])) (fun _ st o t => o = .returned (some (.int r_)) ∧ t.heap = st.heap) 0 0 (fun _ => False) := by
  refine Met.ofW (cc := cX9_isWrappedHead) (maxL := 4) (ret := (some .boolean)) (by decide) rfl ?_
  intro p e s m args below meth c s₁ B hml hv
  obtain ⟨rfl, rfl, hP, hD0, hE⟩ := hv
  have hx := B.exec
  have hb := B.bytes
  have hr := B.returns
  have hts := atoms_spec (ws := wsX9_isWrappedHead) B.pre
  have hown : s.vm.findClass RX9 = some m.cls := findClass_of_methodNamed B.named
  have hlocks := B.notSynchronized
  clear B
  have hD := hD0.self (sz := s.heap.size)
  generalize hAe : va_A ([(ha0, .inl (cy 0, n_a0, .inl ca0))]) s.heap.size = A at hD hE
  have hA : ∀ q : Nat, s.heap.size ≤ q → A q := fun q h => by rw [← hAe]; exact Or.inr h
  clear hAe hD0
  have hS : va_S A s.heap s.heap [] := va_S.rf
  have hK := hE.1
  have hl := lv_entry ([.ref ha0, .int p1]) (n := 4) (Nat.le_of_ble_eq_true rfl)
  rw [lg_entry_eq]
  generalize (lg_sl ([.ref ha0, .int p1]) ++ List.replicate (4 - (lg_sl ([.ref ha0, .int p1])).length) Slot.unset).toArray = ls at hl ⊢
  replace hl : lv_has ls 4 [(0, .ref ha0), (1, .int p1)] := hl
  unfold f_X9_isWrappedHead at hf
  refine zgo (fun GW hTo hFr => ?_)
  refine hFr _ _ _ ?_
  refine lv_iconst (pc := 0) (v := (1 : Int32)) hx hb (zdt_at zt_X9_isWrappedHead_0 0 rfl) (by decide) ?_
  refine lv_istore_n (pc := 1) (lv' := [(2, .int (1 : Int32)), (0, .ref ha0), (1, .int p1)]) hx hb (zdt_at zt_X9_isWrappedHead_0 1 rfl) rfl hl (by decide) rfl ?_
  clear hl
  intro ls hl
  refine lv_bipush (pc := 2) (v := (11 : Int32)) hx hb (zdt_at zt_X9_isWrappedHead_0 2 rfl) (by decide) ?_
  refine lv_istore_n (pc := 4) (lv' := [(3, .int (11 : Int32)), (2, .int (1 : Int32)), (0, .ref ha0), (1, .int p1)]) hx hb (zdt_at zt_X9_isWrappedHead_0 3 rfl) rfl hl (by decide) rfl ?_
  clear hl
  intro ls hl
  replace hf := zj_s hf
  obtain ⟨K_4, eK_4, hf⟩ := hf
  have kK_4 : ∀ (v_3 : Int32) (ls : Array Slot), lv_has ls 4 [(0, .ref ha0), (1, .int p1), (2, .int v_3)] → K_4 v_3 = some r_ → GW s.heap [] (F0 m 33 ls []) := by
    clear hf hl
    intro v_3 ls hl hf
    rw [eK_4] at hf
    clear eK_4
    refine hFr _ _ _ ?_
    refine lv_iload_n (pc := 33) hx hb (zdt_at zt_X9_isWrappedHead_0 19 rfl) rfl (lv_at hl 2 rfl) ?_
    refine lv_if_eq (pc := 34) (tgt := 92) hx hb (zdt_at zt_X9_isWrappedHead_0 20 rfl) (by decide) (fun cn_ => ?t_5) (fun cn_ => ?f_6)
    case t_5 =>
      replace hf := zt_s cn_ hf
      clear cn_
      refine lv_iconst (pc := 92) (v := (0 : Int32)) hx hb (zdt_at zt_X9_isWrappedHead_0 50 rfl) (by decide) ?_
      cases hf
      exact W.zret (pc := 93) hx hb hr rfl (fun t ht hW => ⟨rfl, ht⟩) (fun _ h => nomatch h) (zdt_at zt_X9_isWrappedHead_0 51 rfl)
    replace hf := ze_s cn_ hf
    clear cn_
    refine lv_aload_n (pc := 37) hx hb (zdt_at zt_X9_isWrappedHead_0 21 rfl) rfl (lv_at hl 0 rfl) ?_
    refine lv_bipush (pc := 38) (v := (8 : Int32)) hx hb (zdt_at zt_X9_isWrappedHead_0 22 rfl) (by decide) ?_
    replace hf := zk_s hf
    refine va_bald (pc := 40) hx hb hK hP 0 0 rfl rfl hf.1 (zdt_at zt_X9_isWrappedHead_0 23 rfl) ?_
    replace hf := hf.2
    replace hf := zb_s hf
    obtain ⟨r_7, hc_, hf⟩ := hf
    refine zcs (pc := 41) (rv := (some (.int r_7))) (va_runS (As := [.int (ca0 (8 : Int32).toNatClampNeg)]) (rest := []) ⟨hx, hb, hml, hown, hts⟩ (c_X9_isKind l D cy tt s.heap.size (ca0 (8 : Int32).toNatClampNeg) r_7 hc_) (va_cwS 1 hts gX9_isWrappedHead_X9_isKind rfl rfl rfl (by decide +kernel) ⟨Nat.le_of_ble_eq_true rfl, Nat.le_of_ble_eq_true rfl⟩) ⟨zblind, zpre hE hS (hP.sub [] rfl) (hD.sub [] (by decide) rfl) (va_free hD hS hA [] rfl)⟩ rfl rfl hl.1 rfl (lv_room (Nat.le_of_ble_eq_true rfl)) (zdt_at zt_X9_isWrappedHead_0 24 rfl) ⟨Nat.zero_le _, Nat.zero_le _⟩) ?_
    clear hc_
    refine W.eq (g2 := F0 m 44 ls [.int r_7]) rfl ?_
    refine lv_if_eq (pc := 44) (tgt := 92) hx hb (zdt_at zt_X9_isWrappedHead_0 25 rfl) (by decide) (fun cn_ => ?t_8) (fun cn_ => ?f_9)
    case t_8 =>
      replace hf := zt_s cn_ hf
      clear cn_
      refine lv_iconst (pc := 92) (v := (0 : Int32)) hx hb (zdt_at zt_X9_isWrappedHead_0 50 rfl) (by decide) ?_
      cases hf
      exact W.zret (pc := 93) hx hb hr rfl (fun t ht hW => ⟨rfl, ht⟩) (fun _ h => nomatch h) (zdt_at zt_X9_isWrappedHead_0 51 rfl)
    replace hf := ze_s cn_ hf
    clear cn_
    refine lv_aload_n (pc := 47) hx hb (zdt_at zt_X9_isWrappedHead_0 26 rfl) rfl (lv_at hl 0 rfl) ?_
    refine lv_bipush (pc := 48) (v := (8 : Int32)) hx hb (zdt_at zt_X9_isWrappedHead_0 27 rfl) (by decide) ?_
    replace hf := zk_s hf
    refine va_bald (pc := 50) hx hb hK hP 0 0 rfl rfl hf.1 (zdt_at zt_X9_isWrappedHead_0 28 rfl) ?_
    replace hf := hf.2
    refine lv_iload_n (pc := 51) hx hb (zdt_at zt_X9_isWrappedHead_0 29 rfl) rfl (lv_at hl 1 rfl) ?_
    replace hf := zb_s hf
    obtain ⟨r_10, hc_, hf⟩ := hf
    refine zcs (pc := 52) (rv := (some (.int r_10))) (va_runS (As := [.int (ca0 (8 : Int32).toNatClampNeg), .int p1]) (rest := []) ⟨hx, hb, hml, hown, hts⟩ (c_X9_lengthFits l D cy tt s.heap.size (ca0 (8 : Int32).toNatClampNeg) p1 r_10 hc_) (va_cwS 2 hts gX9_isWrappedHead_X9_lengthFits rfl rfl rfl (by decide +kernel) ⟨Nat.le_of_ble_eq_true rfl, Nat.le_of_ble_eq_true rfl⟩) ⟨zblind, zpre hE hS (hP.sub [] rfl) (hD.sub [] (by decide) rfl) (va_free hD hS hA [] rfl)⟩ rfl rfl hl.1 rfl (lv_room (Nat.le_of_ble_eq_true rfl)) (zdt_at zt_X9_isWrappedHead_0 30 rfl) ⟨Nat.zero_le _, Nat.zero_le _⟩) ?_
    clear hc_
    refine W.eq (g2 := F0 m 55 ls [.int r_10]) rfl ?_
    refine lv_if_eq (pc := 55) (tgt := 92) hx hb (zdt_at zt_X9_isWrappedHead_0 31 rfl) (by decide) (fun cn_ => ?t_11) (fun cn_ => ?f_12)
    case t_11 =>
      replace hf := zt_s cn_ hf
      clear cn_
      refine lv_iconst (pc := 92) (v := (0 : Int32)) hx hb (zdt_at zt_X9_isWrappedHead_0 50 rfl) (by decide) ?_
      cases hf
      exact W.zret (pc := 93) hx hb hr rfl (fun t ht hW => ⟨rfl, ht⟩) (fun _ h => nomatch h) (zdt_at zt_X9_isWrappedHead_0 51 rfl)
    replace hf := ze_s cn_ hf
    clear cn_
    refine lv_aload_n (pc := 58) hx hb (zdt_at zt_X9_isWrappedHead_0 32 rfl) rfl (lv_at hl 0 rfl) ?_
    refine lv_bipush (pc := 59) (v := (9 : Int32)) hx hb (zdt_at zt_X9_isWrappedHead_0 33 rfl) (by decide) ?_
    replace hf := zk_s hf
    refine va_bald (pc := 61) hx hb hK hP 0 0 rfl rfl hf.1 (zdt_at zt_X9_isWrappedHead_0 34 rfl) ?_
    replace hf := hf.2
    replace hf := zb_s hf
    obtain ⟨r_13, hc_, hf⟩ := hf
    refine zcs (pc := 62) (rv := (some (.int r_13))) (va_runS (As := [.int (ca0 (9 : Int32).toNatClampNeg)]) (rest := []) ⟨hx, hb, hml, hown, hts⟩ (c_X9_isUsage l D cy tt s.heap.size (ca0 (9 : Int32).toNatClampNeg) r_13 hc_) (va_cwS 1 hts gX9_isWrappedHead_X9_isUsage rfl rfl rfl (by decide +kernel) ⟨Nat.le_of_ble_eq_true rfl, Nat.le_of_ble_eq_true rfl⟩) ⟨zblind, zpre hE hS (hP.sub [] rfl) (hD.sub [] (by decide) rfl) (va_free hD hS hA [] rfl)⟩ rfl rfl hl.1 rfl (lv_room (Nat.le_of_ble_eq_true rfl)) (zdt_at zt_X9_isWrappedHead_0 35 rfl) ⟨Nat.zero_le _, Nat.zero_le _⟩) ?_
    clear hc_
    refine W.eq (g2 := F0 m 65 ls [.int r_13]) rfl ?_
    refine lv_if_eq (pc := 65) (tgt := 92) hx hb (zdt_at zt_X9_isWrappedHead_0 36 rfl) (by decide) (fun cn_ => ?t_14) (fun cn_ => ?f_15)
    case t_14 =>
      replace hf := zt_s cn_ hf
      clear cn_
      refine lv_iconst (pc := 92) (v := (0 : Int32)) hx hb (zdt_at zt_X9_isWrappedHead_0 50 rfl) (by decide) ?_
      cases hf
      exact W.zret (pc := 93) hx hb hr rfl (fun t ht hW => ⟨rfl, ht⟩) (fun _ h => nomatch h) (zdt_at zt_X9_isWrappedHead_0 51 rfl)
    replace hf := ze_s cn_ hf
    clear cn_
    refine lv_aload_n (pc := 68) hx hb (zdt_at zt_X9_isWrappedHead_0 37 rfl) rfl (lv_at hl 0 rfl) ?_
    refine lv_bipush (pc := 69) (v := (9 : Int32)) hx hb (zdt_at zt_X9_isWrappedHead_0 38 rfl) (by decide) ?_
    replace hf := zk_s hf
    refine va_bald (pc := 71) hx hb hK hP 0 0 rfl rfl hf.1 (zdt_at zt_X9_isWrappedHead_0 39 rfl) ?_
    replace hf := hf.2
    refine lv_bipush (pc := 72) (v := (32 : Int32)) hx hb (zdt_at zt_X9_isWrappedHead_0 40 rfl) (by decide) ?_
    refine lv_iand (pc := 74) hx hb (zdt_at zt_X9_isWrappedHead_0 41 rfl) ?_
    refine lv_if_eq (pc := 75) (tgt := 92) hx hb (zdt_at zt_X9_isWrappedHead_0 42 rfl) (by decide) (fun cn_ => ?t_16) (fun cn_ => ?f_17)
    case t_16 =>
      replace hf := zt_s cn_ hf
      clear cn_
      refine lv_iconst (pc := 92) (v := (0 : Int32)) hx hb (zdt_at zt_X9_isWrappedHead_0 50 rfl) (by decide) ?_
      cases hf
      exact W.zret (pc := 93) hx hb hr rfl (fun t ht hW => ⟨rfl, ht⟩) (fun _ h => nomatch h) (zdt_at zt_X9_isWrappedHead_0 51 rfl)
    replace hf := ze_s cn_ hf
    clear cn_
    refine lv_aload_n (pc := 78) hx hb (zdt_at zt_X9_isWrappedHead_0 43 rfl) rfl (lv_at hl 0 rfl) ?_
    refine lv_bipush (pc := 79) (v := (10 : Int32)) hx hb (zdt_at zt_X9_isWrappedHead_0 44 rfl) (by decide) ?_
    replace hf := zk_s hf
    refine va_bald (pc := 81) hx hb hK hP 0 0 rfl rfl hf.1 (zdt_at zt_X9_isWrappedHead_0 45 rfl) ?_
    replace hf := hf.2
    replace hf := zb_s hf
    obtain ⟨r_18, hc_, hf⟩ := hf
    refine zcs (pc := 82) (rv := (some (.int r_18))) (va_runS (As := [.int (ca0 (10 : Int32).toNatClampNeg)]) (rest := []) ⟨hx, hb, hml, hown, hts⟩ (c_X9_isRole l D cy tt s.heap.size (ca0 (10 : Int32).toNatClampNeg) r_18 hc_) (va_cwS 1 hts gX9_isWrappedHead_X9_isRole rfl rfl rfl (by decide +kernel) ⟨Nat.le_of_ble_eq_true rfl, Nat.le_of_ble_eq_true rfl⟩) ⟨zblind, zpre hE hS (hP.sub [] rfl) (hD.sub [] (by decide) rfl) (va_free hD hS hA [] rfl)⟩ rfl rfl hl.1 rfl (lv_room (Nat.le_of_ble_eq_true rfl)) (zdt_at zt_X9_isWrappedHead_0 46 rfl) ⟨Nat.zero_le _, Nat.zero_le _⟩) ?_
    clear hc_
    refine W.eq (g2 := F0 m 85 ls [.int r_18]) rfl ?_
    refine lv_if_eq (pc := 85) (tgt := 92) hx hb (zdt_at zt_X9_isWrappedHead_0 47 rfl) (by decide) (fun cn_ => ?t_19) (fun cn_ => ?f_20)
    case t_19 =>
      replace hf := zt_s cn_ hf
      clear cn_
      refine lv_iconst (pc := 92) (v := (0 : Int32)) hx hb (zdt_at zt_X9_isWrappedHead_0 50 rfl) (by decide) ?_
      cases hf
      exact W.zret (pc := 93) hx hb hr rfl (fun t ht hW => ⟨rfl, ht⟩) (fun _ h => nomatch h) (zdt_at zt_X9_isWrappedHead_0 51 rfl)
    replace hf := ze_s cn_ hf
    clear cn_
    refine lv_iconst (pc := 88) (v := (1 : Int32)) hx hb (zdt_at zt_X9_isWrappedHead_0 48 rfl) (by decide) ?_
    refine lv_goto (pc := 89) (tgt := 93) hx hb (zdt_at zt_X9_isWrappedHead_0 49 rfl) (by decide) ?_
    cases hf
    exact W.zret (pc := 93) hx hb hr rfl (fun t ht hW => ⟨rfl, ht⟩) (fun _ h => nomatch h) (zdt_at zt_X9_isWrappedHead_0 51 rfl)
  clear eK_4
  refine hTo _ _ _ (zl_go (fun z => match z with | (i_1, i_2) => ∀ (ls : Array Slot), lv_has ls 4 [(0, .ref ha0), (1, .int p1), (2, .int i_1), (3, .int i_2)] → GW s.heap [] (F0 m 5 ls [])) hf ?_ ls (lv_sub hl [2, 3, 1, 0] rfl))
  clear hf hl
  intro self_21 ihself_21 z hf
  obtain ⟨i_1, i_2⟩ := z
  intro ls hl
  refine hFr _ _ _ ?_
  unfold b_X9_isWrappedHead_5 at hf
  refine lv_iload_n (pc := 5) hx hb (zdt_at zt_X9_isWrappedHead_0 4 rfl) rfl (lv_at hl 3 rfl) ?_
  refine lv_bipush (pc := 6) (v := (16 : Int32)) hx hb (zdt_at zt_X9_isWrappedHead_0 5 rfl) (by decide) ?_
  refine lv_icmp_ge (pc := 8) (tgt := 33) hx hb (zdt_at zt_X9_isWrappedHead_0 6 rfl) (by decide) (fun cn_ => ?t_22) (fun cn_ => ?f_23)
  case t_22 =>
    replace hf := zt_s cn_ hf
    clear cn_
    exact hTo _ _ _ (kK_4 _ ls (lv_sub hl [0, 1, 2] rfl) hf)
  replace hf := ze_s cn_ hf
  clear cn_
  refine lv_iload_n (pc := 11) hx hb (zdt_at zt_X9_isWrappedHead_0 7 rfl) rfl (lv_at hl 2 rfl) ?_
  refine lv_if_eq (pc := 12) (tgt := 25) hx hb (zdt_at zt_X9_isWrappedHead_0 8 rfl) (by decide) (fun cn_ => ?t_24) (fun cn_ => ?f_25)
  case t_24 =>
    replace hf := zt_s cn_ hf
    clear cn_
    refine lv_iconst (pc := 25) (v := (0 : Int32)) hx hb (zdt_at zt_X9_isWrappedHead_0 15 rfl) (by decide) ?_
    refine lv_istore_n (pc := 26) (lv' := [(2, .int (0 : Int32)), (0, .ref ha0), (1, .int p1), (3, .int i_2)]) hx hb (zdt_at zt_X9_isWrappedHead_0 16 rfl) rfl hl (by decide) rfl ?_
    clear hl
    intro ls hl
    refine lv_iinc (pc := 27) (v := (i_2 + (1 : Int32))) (lv' := [(3, .int (i_2 + (1 : Int32))), (2, .int (0 : Int32)), (0, .ref ha0), (1, .int p1)]) hx hb (zdt_at zt_X9_isWrappedHead_0 17 rfl) hl (k := 3) rfl rfl (by decide) rfl ?_
    clear hl
    intro ls hl
    refine lv_goto (pc := 30) (tgt := 5) hx hb (zdt_at zt_X9_isWrappedHead_0 18 rfl) (by decide) ?_
    exact hTo _ _ _ (ihself_21 _ hf ls (lv_sub hl [2, 3, 1, 0] rfl))
  replace hf := ze_s cn_ hf
  clear cn_
  refine lv_aload_n (pc := 15) hx hb (zdt_at zt_X9_isWrappedHead_0 9 rfl) rfl (lv_at hl 0 rfl) ?_
  refine lv_iload_n (pc := 16) hx hb (zdt_at zt_X9_isWrappedHead_0 10 rfl) rfl (lv_at hl 3 rfl) ?_
  replace hf := zk_s hf
  refine va_bald (pc := 17) hx hb hK hP 0 0 rfl rfl hf.1 (zdt_at zt_X9_isWrappedHead_0 11 rfl) ?_
  replace hf := hf.2
  refine lv_if_ne (pc := 18) (tgt := 25) hx hb (zdt_at zt_X9_isWrappedHead_0 12 rfl) (by decide) (fun cn_ => ?t_26) (fun cn_ => ?f_27)
  case t_26 =>
    replace hf := ze_s cn_ hf
    clear cn_
    refine lv_iconst (pc := 25) (v := (0 : Int32)) hx hb (zdt_at zt_X9_isWrappedHead_0 15 rfl) (by decide) ?_
    refine lv_istore_n (pc := 26) (lv' := [(2, .int (0 : Int32)), (0, .ref ha0), (1, .int p1), (3, .int i_2)]) hx hb (zdt_at zt_X9_isWrappedHead_0 16 rfl) rfl hl (by decide) rfl ?_
    clear hl
    intro ls hl
    refine lv_iinc (pc := 27) (v := (i_2 + (1 : Int32))) (lv' := [(3, .int (i_2 + (1 : Int32))), (2, .int (0 : Int32)), (0, .ref ha0), (1, .int p1)]) hx hb (zdt_at zt_X9_isWrappedHead_0 17 rfl) hl (k := 3) rfl rfl (by decide) rfl ?_
    clear hl
    intro ls hl
    refine lv_goto (pc := 30) (tgt := 5) hx hb (zdt_at zt_X9_isWrappedHead_0 18 rfl) (by decide) ?_
    exact hTo _ _ _ (ihself_21 _ hf ls (lv_sub hl [2, 3, 1, 0] rfl))
  replace hf := zt_s cn_ hf
  clear cn_
  refine lv_iconst (pc := 21) (v := (1 : Int32)) hx hb (zdt_at zt_X9_isWrappedHead_0 13 rfl) (by decide) ?_
  refine lv_goto (pc := 22) (tgt := 26) hx hb (zdt_at zt_X9_isWrappedHead_0 14 rfl) (by decide) ?_
  refine lv_istore_n (pc := 26) (lv' := [(2, .int (1 : Int32)), (0, .ref ha0), (1, .int p1), (3, .int i_2)]) hx hb (zdt_at zt_X9_isWrappedHead_0 16 rfl) rfl hl (by decide) rfl ?_
  clear hl
  intro ls hl
  refine lv_iinc (pc := 27) (v := (i_2 + (1 : Int32))) (lv' := [(3, .int (i_2 + (1 : Int32))), (2, .int (1 : Int32)), (0, .ref ha0), (1, .int p1)]) hx hb (zdt_at zt_X9_isWrappedHead_0 17 rfl) hl (k := 3) rfl rfl (by decide) rfl ?_
  clear hl
  intro ls hl
  refine lv_goto (pc := 30) (tgt := 5) hx hb (zdt_at zt_X9_isWrappedHead_0 18 rfl) (by decide) ?_
  exact hTo _ _ _ (ihself_21 _ hf ls (lv_sub hl [2, 3, 1, 0] rfl))
set_option maxHeartbeats 4000000 in
set_option maxRecDepth 100000 in
theorem c_X9_inBuffer (l : Launch) (D : va_G) (cy : Nat → ClassId) (tt : Nat → Nat) (sz : Nat) (p0 : Int32) (p1 : Int32) (r_ : Int32) (hf : f_X9_inBuffer p0 p1 = some r_) : Met l yX9_inBuffer wsX9_inBuffer ({ frames := 0, cells := 0, slots := 0, locals := 0 }) (zPc D cy tt sz [.int p0, .int p1] ([])) (fun _ st o t => o = .returned (some (.int r_)) ∧ t.heap = st.heap) 0 0 (fun _ => False) := by
  refine Met.ofW (cc := cX9_inBuffer) (maxL := 2) (ret := (some .boolean)) (by decide) rfl ?_
  intro p e s m args below meth c s₁ B hml hv
  obtain ⟨rfl, rfl, hP, hD0, hE⟩ := hv
  have hx := B.exec
  have hb := B.bytes
  have hr := B.returns
  have hts := atoms_spec (ws := wsX9_inBuffer) B.pre
  have hown : s.vm.findClass RX9 = some m.cls := findClass_of_methodNamed B.named
  have hlocks := B.notSynchronized
  clear B
  have hD := hD0.self (sz := s.heap.size)
  generalize hAe : va_A ([]) s.heap.size = A at hD hE
  have hA : ∀ q : Nat, s.heap.size ≤ q → A q := fun q h => by rw [← hAe]; exact Or.inr h
  clear hAe hD0
  have hS : va_S A s.heap s.heap [] := va_S.rf
  have hK := hE.1
  have hl := lv_entry ([.int p0, .int p1]) (n := 2) (Nat.le_of_ble_eq_true rfl)
  rw [lg_entry_eq]
  generalize (lg_sl ([.int p0, .int p1]) ++ List.replicate (2 - (lg_sl ([.int p0, .int p1])).length) Slot.unset).toArray = ls at hl ⊢
  replace hl : lv_has ls 2 [(0, .int p0), (1, .int p1)] := hl
  unfold f_X9_inBuffer at hf
  refine zgo (fun GW hTo hFr => ?_)
  refine hFr _ _ _ ?_
  refine lv_iload_n (pc := 0) hx hb (zdt_at zt_X9_inBuffer_0 0 rfl) rfl (lv_at hl 0 rfl) ?_
  refine lv_if_lt (pc := 1) (tgt := 28) hx hb (zdt_at zt_X9_inBuffer_0 1 rfl) (by decide) (fun cn_ => ?t_1) (fun cn_ => ?f_2)
  case t_1 =>
    replace hf := zt_s cn_ hf
    clear cn_
    refine lv_iconst (pc := 28) (v := (0 : Int32)) hx hb (zdt_at zt_X9_inBuffer_0 14 rfl) (by decide) ?_
    cases hf
    exact W.zret (pc := 29) hx hb hr rfl (fun t ht hW => ⟨rfl, ht⟩) (fun _ h => nomatch h) (zdt_at zt_X9_inBuffer_0 15 rfl)
  replace hf := ze_s cn_ hf
  clear cn_
  refine lv_iload_n (pc := 4) hx hb (zdt_at zt_X9_inBuffer_0 2 rfl) rfl (lv_at hl 0 rfl) ?_
  refine lv_sipush (pc := 5) (v := (512 : Int32)) hx hb (zdt_at zt_X9_inBuffer_0 3 rfl) (by decide) ?_
  refine lv_icmp_gt (pc := 8) (tgt := 28) hx hb (zdt_at zt_X9_inBuffer_0 4 rfl) (by decide) (fun cn_ => ?t_3) (fun cn_ => ?f_4)
  case t_3 =>
    replace hf := zt_s cn_ hf
    clear cn_
    refine lv_iconst (pc := 28) (v := (0 : Int32)) hx hb (zdt_at zt_X9_inBuffer_0 14 rfl) (by decide) ?_
    cases hf
    exact W.zret (pc := 29) hx hb hr rfl (fun t ht hW => ⟨rfl, ht⟩) (fun _ h => nomatch h) (zdt_at zt_X9_inBuffer_0 15 rfl)
  replace hf := ze_s cn_ hf
  clear cn_
  refine lv_iload_n (pc := 11) hx hb (zdt_at zt_X9_inBuffer_0 5 rfl) rfl (lv_at hl 1 rfl) ?_
  refine lv_if_lt (pc := 12) (tgt := 28) hx hb (zdt_at zt_X9_inBuffer_0 6 rfl) (by decide) (fun cn_ => ?t_5) (fun cn_ => ?f_6)
  case t_5 =>
    replace hf := zt_s cn_ hf
    clear cn_
    refine lv_iconst (pc := 28) (v := (0 : Int32)) hx hb (zdt_at zt_X9_inBuffer_0 14 rfl) (by decide) ?_
    cases hf
    exact W.zret (pc := 29) hx hb hr rfl (fun t ht hW => ⟨rfl, ht⟩) (fun _ h => nomatch h) (zdt_at zt_X9_inBuffer_0 15 rfl)
  replace hf := ze_s cn_ hf
  clear cn_
  refine lv_iload_n (pc := 15) hx hb (zdt_at zt_X9_inBuffer_0 7 rfl) rfl (lv_at hl 1 rfl) ?_
  refine lv_sipush (pc := 16) (v := (512 : Int32)) hx hb (zdt_at zt_X9_inBuffer_0 8 rfl) (by decide) ?_
  refine lv_iload_n (pc := 19) hx hb (zdt_at zt_X9_inBuffer_0 9 rfl) rfl (lv_at hl 0 rfl) ?_
  refine lv_isub (pc := 20) hx hb (zdt_at zt_X9_inBuffer_0 10 rfl) ?_
  refine lv_icmp_gt (pc := 21) (tgt := 28) hx hb (zdt_at zt_X9_inBuffer_0 11 rfl) (by decide) (fun cn_ => ?t_7) (fun cn_ => ?f_8)
  case t_7 =>
    replace hf := zt_s cn_ hf
    clear cn_
    refine lv_iconst (pc := 28) (v := (0 : Int32)) hx hb (zdt_at zt_X9_inBuffer_0 14 rfl) (by decide) ?_
    cases hf
    exact W.zret (pc := 29) hx hb hr rfl (fun t ht hW => ⟨rfl, ht⟩) (fun _ h => nomatch h) (zdt_at zt_X9_inBuffer_0 15 rfl)
  replace hf := ze_s cn_ hf
  clear cn_
  refine lv_iconst (pc := 24) (v := (1 : Int32)) hx hb (zdt_at zt_X9_inBuffer_0 12 rfl) (by decide) ?_
  refine lv_goto (pc := 25) (tgt := 29) hx hb (zdt_at zt_X9_inBuffer_0 13 rfl) (by decide) ?_
  cases hf
  exact W.zret (pc := 29) hx hb hr rfl (fun t ht hW => ⟨rfl, ht⟩) (fun _ h => nomatch h) (zdt_at zt_X9_inBuffer_0 15 rfl)
set_option maxHeartbeats 4000000 in
set_option maxRecDepth 100000 in
theorem c_X9_placesFit (l : Launch) (D : va_G) (cy : Nat → ClassId) (tt : Nat → Nat) (sz : Nat) (p0 : Int32) (p1 : Int32) (p2 : Int32) (p3 : Int32) (r_ : Int32) (hf : f_X9_placesFit p0 p1 p2 p3 = some r_) : Met l yX9_placesFit wsX9_placesFit ({ frames := 1, cells := 0, slots := 0, locals := 21 }) (zPc D cy tt sz [.int p0, .int p1, .int p2, .int p3] ([])) (fun _ st o t => o = .returned (some (.int r_)) ∧ t.heap = st.heap) 0 0 (fun _ => False) := by
  refine Met.ofW (cc := cX9_placesFit) (maxL := 4) (ret := (some .boolean)) (by decide) rfl ?_
  intro p e s m args below meth c s₁ B hml hv
  obtain ⟨rfl, rfl, hP, hD0, hE⟩ := hv
  have hx := B.exec
  have hb := B.bytes
  have hr := B.returns
  have hts := atoms_spec (ws := wsX9_placesFit) B.pre
  have hown : s.vm.findClass RX9 = some m.cls := findClass_of_methodNamed B.named
  have hlocks := B.notSynchronized
  clear B
  have hD := hD0.self (sz := s.heap.size)
  generalize hAe : va_A ([]) s.heap.size = A at hD hE
  have hA : ∀ q : Nat, s.heap.size ≤ q → A q := fun q h => by rw [← hAe]; exact Or.inr h
  clear hAe hD0
  have hS : va_S A s.heap s.heap [] := va_S.rf
  have hK := hE.1
  have hl := lv_entry ([.int p0, .int p1, .int p2, .int p3]) (n := 4) (Nat.le_of_ble_eq_true rfl)
  rw [lg_entry_eq]
  generalize (lg_sl ([.int p0, .int p1, .int p2, .int p3]) ++ List.replicate (4 - (lg_sl ([.int p0, .int p1, .int p2, .int p3])).length) Slot.unset).toArray = ls at hl ⊢
  replace hl : lv_has ls 4 [(0, .int p0), (1, .int p1), (2, .int p2), (3, .int p3)] := hl
  unfold f_X9_placesFit at hf
  refine zgo (fun GW hTo hFr => ?_)
  refine hFr _ _ _ ?_
  refine lv_iload_n (pc := 0) hx hb (zdt_at zt_X9_placesFit_0 0 rfl) rfl (lv_at hl 1 rfl) ?_
  refine lv_iload_n (pc := 1) hx hb (zdt_at zt_X9_placesFit_0 1 rfl) rfl (lv_at hl 2 rfl) ?_
  replace hf := zb_s hf
  obtain ⟨r_1, hc_, hf⟩ := hf
  refine zcs (pc := 2) (rv := (some (.int r_1))) (va_runS (As := [.int p1, .int p2]) (rest := []) ⟨hx, hb, hml, hown, hts⟩ (c_X9_inBuffer l D cy tt s.heap.size p1 p2 r_1 hc_) (va_cwS 2 hts gX9_placesFit_X9_inBuffer rfl rfl rfl (by decide +kernel) ⟨Nat.le_of_ble_eq_true rfl, Nat.le_of_ble_eq_true rfl⟩) ⟨zblind, zpre hE hS (hP.sub [] rfl) (hD.sub [] (by decide) rfl) (va_free hD hS hA [] rfl)⟩ rfl rfl hl.1 rfl (lv_room (Nat.le_of_ble_eq_true rfl)) (zdt_at zt_X9_placesFit_0 2 rfl) ⟨Nat.zero_le _, Nat.zero_le _⟩) ?_
  clear hc_
  refine W.eq (g2 := F0 m 5 ls [.int r_1]) rfl ?_
  refine lv_if_eq (pc := 5) (tgt := 18) hx hb (zdt_at zt_X9_placesFit_0 3 rfl) (by decide) (fun cn_ => ?t_2) (fun cn_ => ?f_3)
  case t_2 =>
    replace hf := zt_s cn_ hf
    clear cn_
    refine lv_iconst (pc := 18) (v := (0 : Int32)) hx hb (zdt_at zt_X9_placesFit_0 9 rfl) (by decide) ?_
    cases hf
    exact W.zret (pc := 19) hx hb hr rfl (fun t ht hW => ⟨rfl, ht⟩) (fun _ h => nomatch h) (zdt_at zt_X9_placesFit_0 10 rfl)
  replace hf := ze_s cn_ hf
  clear cn_
  refine lv_iload_n (pc := 8) hx hb (zdt_at zt_X9_placesFit_0 4 rfl) rfl (lv_at hl 3 rfl) ?_
  refine lv_if_lt (pc := 9) (tgt := 18) hx hb (zdt_at zt_X9_placesFit_0 5 rfl) (by decide) (fun cn_ => ?t_4) (fun cn_ => ?f_5)
  case t_4 =>
    replace hf := zt_s cn_ hf
    clear cn_
    refine lv_iconst (pc := 18) (v := (0 : Int32)) hx hb (zdt_at zt_X9_placesFit_0 9 rfl) (by decide) ?_
    cases hf
    exact W.zret (pc := 19) hx hb hr rfl (fun t ht hW => ⟨rfl, ht⟩) (fun _ h => nomatch h) (zdt_at zt_X9_placesFit_0 10 rfl)
  replace hf := ze_s cn_ hf
  clear cn_
  refine lv_iload_n (pc := 12) hx hb (zdt_at zt_X9_placesFit_0 6 rfl) rfl (lv_at hl 3 rfl) ?_
  refine lv_bipush (pc := 13) (v := (64 : Int32)) hx hb (zdt_at zt_X9_placesFit_0 7 rfl) (by decide) ?_
  refine lv_icmp_le (pc := 15) (tgt := 20) hx hb (zdt_at zt_X9_placesFit_0 8 rfl) (by decide) (fun cn_ => ?t_6) (fun cn_ => ?f_7)
  case f_7 =>
    replace hf := ze_s cn_ hf
    clear cn_
    refine lv_iconst (pc := 18) (v := (0 : Int32)) hx hb (zdt_at zt_X9_placesFit_0 9 rfl) (by decide) ?_
    cases hf
    exact W.zret (pc := 19) hx hb hr rfl (fun t ht hW => ⟨rfl, ht⟩) (fun _ h => nomatch h) (zdt_at zt_X9_placesFit_0 10 rfl)
  replace hf := zt_s cn_ hf
  clear cn_
  refine lv_iload_n (pc := 20) hx hb (zdt_at zt_X9_placesFit_0 11 rfl) rfl (lv_at hl 0 rfl) ?_
  by_cases hs_12 : p0 = (1 : Int32) ∨ p0 = (2 : Int32)
  · replace hf := zt_s hs_12 hf
    have kd_13 : GW s.heap [] (F0 m 80 ls []) := by
      refine hFr _ _ _ ?_
      clear hs_12
      refine lv_iload_n (pc := 80) hx hb (zdt_at zt_X9_placesFit_0 13 rfl) rfl (lv_at hl 3 rfl) ?_
      refine lv_if_ne (pc := 81) (tgt := 95) hx hb (zdt_at zt_X9_placesFit_0 14 rfl) (by decide) (fun cn_ => ?t_8) (fun cn_ => ?f_9)
      case t_8 =>
        replace hf := ze_s cn_ hf
        clear cn_
        refine lv_iconst (pc := 95) (v := (0 : Int32)) hx hb (zdt_at zt_X9_placesFit_0 21 rfl) (by decide) ?_
        cases hf
        exact W.zret (pc := 96) hx hb hr rfl (fun t ht hW => ⟨rfl, ht⟩) (fun _ h => nomatch h) (zdt_at zt_X9_placesFit_0 22 rfl)
      replace hf := zt_s cn_ hf
      clear cn_
      refine lv_iload_n (pc := 84) hx hb (zdt_at zt_X9_placesFit_0 15 rfl) rfl (lv_at hl 2 rfl) ?_
      refine lv_bipush (pc := 85) (v := (16 : Int32)) hx hb (zdt_at zt_X9_placesFit_0 16 rfl) (by decide) ?_
      replace hf := zk_s hf
      refine lv_irem (pc := 87) hx hb (zdt_at zt_X9_placesFit_0 17 rfl) hf.1 ?_
      replace hf := hf.2
      refine lv_if_ne (pc := 88) (tgt := 95) hx hb (zdt_at zt_X9_placesFit_0 18 rfl) (by decide) (fun cn_ => ?t_10) (fun cn_ => ?f_11)
      case t_10 =>
        replace hf := ze_s cn_ hf
        clear cn_
        refine lv_iconst (pc := 95) (v := (0 : Int32)) hx hb (zdt_at zt_X9_placesFit_0 21 rfl) (by decide) ?_
        cases hf
        exact W.zret (pc := 96) hx hb hr rfl (fun t ht hW => ⟨rfl, ht⟩) (fun _ h => nomatch h) (zdt_at zt_X9_placesFit_0 22 rfl)
      replace hf := zt_s cn_ hf
      clear cn_
      refine lv_iconst (pc := 91) (v := (1 : Int32)) hx hb (zdt_at zt_X9_placesFit_0 19 rfl) (by decide) ?_
      refine lv_goto (pc := 92) (tgt := 96) hx hb (zdt_at zt_X9_placesFit_0 20 rfl) (by decide) ?_
      cases hf
      exact W.zret (pc := 96) hx hb hr rfl (fun t ht hW => ⟨rfl, ht⟩) (fun _ h => nomatch h) (zdt_at zt_X9_placesFit_0 22 rfl)
    rcases hs_12 with hs_12 | hs_12
    all_goals exact lv_tableIn (pc := 21) (tgt := 80) (off := 59) hx hb (zdt_at zt_X9_placesFit_0 12 rfl) (by rw [hs_12]; decide) (by rw [hs_12]; decide) (by rw [hs_12]; rfl) (by decide) (hTo _ _ _ kd_13)
  replace hf := ze_s hs_12 hf
  by_cases hs_20 : p0 = (3 : Int32) ∨ p0 = (4 : Int32)
  · replace hf := zt_s hs_20 hf
    have kd_21 : GW s.heap [] (F0 m 97 ls []) := by
      refine hFr _ _ _ ?_
      clear hs_20
      refine lv_iload_n (pc := 97) hx hb (zdt_at zt_X9_placesFit_0 23 rfl) rfl (lv_at hl 3 rfl) ?_
      refine lv_if_ne (pc := 98) (tgt := 118) hx hb (zdt_at zt_X9_placesFit_0 24 rfl) (by decide) (fun cn_ => ?t_14) (fun cn_ => ?f_15)
      case t_14 =>
        replace hf := ze_s cn_ hf
        clear cn_
        refine lv_iconst (pc := 118) (v := (0 : Int32)) hx hb (zdt_at zt_X9_placesFit_0 34 rfl) (by decide) ?_
        cases hf
        exact W.zret (pc := 119) hx hb hr rfl (fun t ht hW => ⟨rfl, ht⟩) (fun _ h => nomatch h) (zdt_at zt_X9_placesFit_0 35 rfl)
      replace hf := zt_s cn_ hf
      clear cn_
      refine lv_iload_n (pc := 101) hx hb (zdt_at zt_X9_placesFit_0 25 rfl) rfl (lv_at hl 2 rfl) ?_
      refine lv_bipush (pc := 102) (v := (16 : Int32)) hx hb (zdt_at zt_X9_placesFit_0 26 rfl) (by decide) ?_
      replace hf := zk_s hf
      refine lv_irem (pc := 104) hx hb (zdt_at zt_X9_placesFit_0 27 rfl) hf.1 ?_
      replace hf := hf.2
      refine lv_if_ne (pc := 105) (tgt := 118) hx hb (zdt_at zt_X9_placesFit_0 28 rfl) (by decide) (fun cn_ => ?t_16) (fun cn_ => ?f_17)
      case t_16 =>
        replace hf := ze_s cn_ hf
        clear cn_
        refine lv_iconst (pc := 118) (v := (0 : Int32)) hx hb (zdt_at zt_X9_placesFit_0 34 rfl) (by decide) ?_
        cases hf
        exact W.zret (pc := 119) hx hb hr rfl (fun t ht hW => ⟨rfl, ht⟩) (fun _ h => nomatch h) (zdt_at zt_X9_placesFit_0 35 rfl)
      replace hf := zt_s cn_ hf
      clear cn_
      refine lv_iload_n (pc := 108) hx hb (zdt_at zt_X9_placesFit_0 29 rfl) rfl (lv_at hl 2 rfl) ?_
      refine lv_bipush (pc := 109) (v := (16 : Int32)) hx hb (zdt_at zt_X9_placesFit_0 30 rfl) (by decide) ?_
      refine lv_icmp_lt (pc := 111) (tgt := 118) hx hb (zdt_at zt_X9_placesFit_0 31 rfl) (by decide) (fun cn_ => ?t_18) (fun cn_ => ?f_19)
      case t_18 =>
        replace hf := zt_s cn_ hf
        clear cn_
        refine lv_iconst (pc := 118) (v := (0 : Int32)) hx hb (zdt_at zt_X9_placesFit_0 34 rfl) (by decide) ?_
        cases hf
        exact W.zret (pc := 119) hx hb hr rfl (fun t ht hW => ⟨rfl, ht⟩) (fun _ h => nomatch h) (zdt_at zt_X9_placesFit_0 35 rfl)
      replace hf := ze_s cn_ hf
      clear cn_
      refine lv_iconst (pc := 114) (v := (1 : Int32)) hx hb (zdt_at zt_X9_placesFit_0 32 rfl) (by decide) ?_
      refine lv_goto (pc := 115) (tgt := 119) hx hb (zdt_at zt_X9_placesFit_0 33 rfl) (by decide) ?_
      cases hf
      exact W.zret (pc := 119) hx hb hr rfl (fun t ht hW => ⟨rfl, ht⟩) (fun _ h => nomatch h) (zdt_at zt_X9_placesFit_0 35 rfl)
    rcases hs_20 with hs_20 | hs_20
    all_goals exact lv_tableIn (pc := 21) (tgt := 97) (off := 76) hx hb (zdt_at zt_X9_placesFit_0 12 rfl) (by rw [hs_20]; decide) (by rw [hs_20]; decide) (by rw [hs_20]; rfl) (by decide) (hTo _ _ _ kd_21)
  replace hf := ze_s hs_20 hf
  by_cases hs_26 : p0 = (5 : Int32)
  · replace hf := zt_s hs_26 hf
    refine lv_tableIn (pc := 21) (tgt := 120) (off := 99) hx hb (zdt_at zt_X9_placesFit_0 12 rfl) (by rw [hs_26]; decide) (by rw [hs_26]; decide) (by rw [hs_26]; rfl) (by decide) ?_
    clear hs_26
    refine lv_iload_n (pc := 120) hx hb (zdt_at zt_X9_placesFit_0 36 rfl) rfl (lv_at hl 3 rfl) ?_
    refine lv_if_ne (pc := 121) (tgt := 134) hx hb (zdt_at zt_X9_placesFit_0 37 rfl) (by decide) (fun cn_ => ?t_22) (fun cn_ => ?f_23)
    case t_22 =>
      replace hf := ze_s cn_ hf
      clear cn_
      refine lv_iconst (pc := 134) (v := (0 : Int32)) hx hb (zdt_at zt_X9_placesFit_0 43 rfl) (by decide) ?_
      cases hf
      exact W.zret (pc := 135) hx hb hr rfl (fun t ht hW => ⟨rfl, ht⟩) (fun _ h => nomatch h) (zdt_at zt_X9_placesFit_0 44 rfl)
    replace hf := zt_s cn_ hf
    clear cn_
    refine lv_iload_n (pc := 124) hx hb (zdt_at zt_X9_placesFit_0 38 rfl) rfl (lv_at hl 2 rfl) ?_
    refine lv_bipush (pc := 125) (v := (16 : Int32)) hx hb (zdt_at zt_X9_placesFit_0 39 rfl) (by decide) ?_
    refine lv_icmp_lt (pc := 127) (tgt := 134) hx hb (zdt_at zt_X9_placesFit_0 40 rfl) (by decide) (fun cn_ => ?t_24) (fun cn_ => ?f_25)
    case t_24 =>
      replace hf := zt_s cn_ hf
      clear cn_
      refine lv_iconst (pc := 134) (v := (0 : Int32)) hx hb (zdt_at zt_X9_placesFit_0 43 rfl) (by decide) ?_
      cases hf
      exact W.zret (pc := 135) hx hb hr rfl (fun t ht hW => ⟨rfl, ht⟩) (fun _ h => nomatch h) (zdt_at zt_X9_placesFit_0 44 rfl)
    replace hf := ze_s cn_ hf
    clear cn_
    refine lv_iconst (pc := 130) (v := (1 : Int32)) hx hb (zdt_at zt_X9_placesFit_0 41 rfl) (by decide) ?_
    refine lv_goto (pc := 131) (tgt := 135) hx hb (zdt_at zt_X9_placesFit_0 42 rfl) (by decide) ?_
    cases hf
    exact W.zret (pc := 135) hx hb hr rfl (fun t ht hW => ⟨rfl, ht⟩) (fun _ h => nomatch h) (zdt_at zt_X9_placesFit_0 44 rfl)
  replace hf := ze_s hs_26 hf
  by_cases hs_32 : p0 = (6 : Int32)
  · replace hf := zt_s hs_32 hf
    refine lv_tableIn (pc := 21) (tgt := 136) (off := 115) hx hb (zdt_at zt_X9_placesFit_0 12 rfl) (by rw [hs_32]; decide) (by rw [hs_32]; decide) (by rw [hs_32]; rfl) (by decide) ?_
    clear hs_32
    refine lv_iload_n (pc := 136) hx hb (zdt_at zt_X9_placesFit_0 45 rfl) rfl (lv_at hl 2 rfl) ?_
    refine lv_bipush (pc := 137) (v := (12 : Int32)) hx hb (zdt_at zt_X9_placesFit_0 46 rfl) (by decide) ?_
    refine lv_iload_n (pc := 139) hx hb (zdt_at zt_X9_placesFit_0 47 rfl) rfl (lv_at hl 3 rfl) ?_
    refine lv_iadd (pc := 140) hx hb (zdt_at zt_X9_placesFit_0 48 rfl) ?_
    refine lv_icmp_lt (pc := 141) (tgt := 159) hx hb (zdt_at zt_X9_placesFit_0 49 rfl) (by decide) (fun cn_ => ?t_27) (fun cn_ => ?f_28)
    case t_27 =>
      replace hf := zt_s cn_ hf
      clear cn_
      refine lv_iconst (pc := 159) (v := (0 : Int32)) hx hb (zdt_at zt_X9_placesFit_0 58 rfl) (by decide) ?_
      cases hf
      exact W.zret (pc := 160) hx hb hr rfl (fun t ht hW => ⟨rfl, ht⟩) (fun _ h => nomatch h) (zdt_at zt_X9_placesFit_0 59 rfl)
    replace hf := ze_s cn_ hf
    clear cn_
    refine lv_iload_n (pc := 144) hx hb (zdt_at zt_X9_placesFit_0 50 rfl) rfl (lv_at hl 1 rfl) ?_
    refine lv_iload_n (pc := 145) hx hb (zdt_at zt_X9_placesFit_0 51 rfl) rfl (lv_at hl 2 rfl) ?_
    refine lv_bipush (pc := 146) (v := (16 : Int32)) hx hb (zdt_at zt_X9_placesFit_0 52 rfl) (by decide) ?_
    refine lv_iadd (pc := 148) hx hb (zdt_at zt_X9_placesFit_0 53 rfl) ?_
    replace hf := zb_s hf
    obtain ⟨r_29, hc_, hf⟩ := hf
    refine zcs (pc := 149) (rv := (some (.int r_29))) (va_runS (As := [.int p1, .int (p2 + (16 : Int32))]) (rest := []) ⟨hx, hb, hml, hown, hts⟩ (c_X9_inBuffer l D cy tt s.heap.size p1 (p2 + (16 : Int32)) r_29 hc_) (va_cwS 2 hts gX9_placesFit_X9_inBuffer rfl rfl rfl (by decide +kernel) ⟨Nat.le_of_ble_eq_true rfl, Nat.le_of_ble_eq_true rfl⟩) ⟨zblind, zpre hE hS (hP.sub [] rfl) (hD.sub [] (by decide) rfl) (va_free hD hS hA [] rfl)⟩ rfl rfl hl.1 rfl (lv_room (Nat.le_of_ble_eq_true rfl)) (zdt_at zt_X9_placesFit_0 54 rfl) ⟨Nat.zero_le _, Nat.zero_le _⟩) ?_
    clear hc_
    refine W.eq (g2 := F0 m 152 ls [.int r_29]) rfl ?_
    refine lv_if_eq (pc := 152) (tgt := 159) hx hb (zdt_at zt_X9_placesFit_0 55 rfl) (by decide) (fun cn_ => ?t_30) (fun cn_ => ?f_31)
    case t_30 =>
      replace hf := zt_s cn_ hf
      clear cn_
      refine lv_iconst (pc := 159) (v := (0 : Int32)) hx hb (zdt_at zt_X9_placesFit_0 58 rfl) (by decide) ?_
      cases hf
      exact W.zret (pc := 160) hx hb hr rfl (fun t ht hW => ⟨rfl, ht⟩) (fun _ h => nomatch h) (zdt_at zt_X9_placesFit_0 59 rfl)
    replace hf := ze_s cn_ hf
    clear cn_
    refine lv_iconst (pc := 155) (v := (1 : Int32)) hx hb (zdt_at zt_X9_placesFit_0 56 rfl) (by decide) ?_
    refine lv_goto (pc := 156) (tgt := 160) hx hb (zdt_at zt_X9_placesFit_0 57 rfl) (by decide) ?_
    cases hf
    exact W.zret (pc := 160) hx hb hr rfl (fun t ht hW => ⟨rfl, ht⟩) (fun _ h => nomatch h) (zdt_at zt_X9_placesFit_0 59 rfl)
  replace hf := ze_s hs_32 hf
  by_cases hs_35 : p0 = (7 : Int32)
  · replace hf := zt_s hs_35 hf
    refine lv_tableIn (pc := 21) (tgt := 161) (off := 140) hx hb (zdt_at zt_X9_placesFit_0 12 rfl) (by rw [hs_35]; decide) (by rw [hs_35]; decide) (by rw [hs_35]; rfl) (by decide) ?_
    clear hs_35
    refine lv_iload_n (pc := 161) hx hb (zdt_at zt_X9_placesFit_0 60 rfl) rfl (lv_at hl 2 rfl) ?_
    refine lv_bipush (pc := 162) (v := (12 : Int32)) hx hb (zdt_at zt_X9_placesFit_0 61 rfl) (by decide) ?_
    refine lv_iload_n (pc := 164) hx hb (zdt_at zt_X9_placesFit_0 62 rfl) rfl (lv_at hl 3 rfl) ?_
    refine lv_iadd (pc := 165) hx hb (zdt_at zt_X9_placesFit_0 63 rfl) ?_
    refine lv_bipush (pc := 166) (v := (16 : Int32)) hx hb (zdt_at zt_X9_placesFit_1 0 rfl) (by decide) ?_
    refine lv_iadd (pc := 168) hx hb (zdt_at zt_X9_placesFit_1 1 rfl) ?_
    refine lv_icmp_lt (pc := 169) (tgt := 176) hx hb (zdt_at zt_X9_placesFit_1 2 rfl) (by decide) (fun cn_ => ?t_33) (fun cn_ => ?f_34)
    case t_33 =>
      replace hf := zt_s cn_ hf
      clear cn_
      refine lv_iconst (pc := 176) (v := (0 : Int32)) hx hb (zdt_at zt_X9_placesFit_1 5 rfl) (by decide) ?_
      cases hf
      exact W.zret (pc := 177) hx hb hr rfl (fun t ht hW => ⟨rfl, ht⟩) (fun _ h => nomatch h) (zdt_at zt_X9_placesFit_1 6 rfl)
    replace hf := ze_s cn_ hf
    clear cn_
    refine lv_iconst (pc := 172) (v := (1 : Int32)) hx hb (zdt_at zt_X9_placesFit_1 3 rfl) (by decide) ?_
    refine lv_goto (pc := 173) (tgt := 177) hx hb (zdt_at zt_X9_placesFit_1 4 rfl) (by decide) ?_
    cases hf
    exact W.zret (pc := 177) hx hb hr rfl (fun t ht hW => ⟨rfl, ht⟩) (fun _ h => nomatch h) (zdt_at zt_X9_placesFit_1 6 rfl)
  replace hf := ze_s hs_35 hf
  by_cases hs_41 : p0 = (8 : Int32)
  · replace hf := zt_s hs_41 hf
    refine lv_tableIn (pc := 21) (tgt := 178) (off := 157) hx hb (zdt_at zt_X9_placesFit_0 12 rfl) (by rw [hs_41]; decide) (by rw [hs_41]; decide) (by rw [hs_41]; rfl) (by decide) ?_
    clear hs_41
    refine lv_iload_n (pc := 178) hx hb (zdt_at zt_X9_placesFit_1 7 rfl) rfl (lv_at hl 3 rfl) ?_
    refine lv_if_ne (pc := 179) (tgt := 195) hx hb (zdt_at zt_X9_placesFit_1 8 rfl) (by decide) (fun cn_ => ?t_36) (fun cn_ => ?f_37)
    case t_36 =>
      replace hf := ze_s cn_ hf
      clear cn_
      refine lv_iconst (pc := 195) (v := (0 : Int32)) hx hb (zdt_at zt_X9_placesFit_1 15 rfl) (by decide) ?_
      cases hf
      exact W.zret (pc := 196) hx hb hr rfl (fun t ht hW => ⟨rfl, ht⟩) (fun _ h => nomatch h) (zdt_at zt_X9_placesFit_1 16 rfl)
    replace hf := zt_s cn_ hf
    clear cn_
    refine lv_iload_n (pc := 182) hx hb (zdt_at zt_X9_placesFit_1 9 rfl) rfl (lv_at hl 1 rfl) ?_
    refine lv_bipush (pc := 183) (v := (16 : Int32)) hx hb (zdt_at zt_X9_placesFit_1 10 rfl) (by decide) ?_
    replace hf := zb_s hf
    obtain ⟨r_38, hc_, hf⟩ := hf
    refine zcs (pc := 185) (rv := (some (.int r_38))) (va_runS (As := [.int p1, .int (16 : Int32)]) (rest := []) ⟨hx, hb, hml, hown, hts⟩ (c_X9_inBuffer l D cy tt s.heap.size p1 (16 : Int32) r_38 hc_) (va_cwS 2 hts gX9_placesFit_X9_inBuffer rfl rfl rfl (by decide +kernel) ⟨Nat.le_of_ble_eq_true rfl, Nat.le_of_ble_eq_true rfl⟩) ⟨zblind, zpre hE hS (hP.sub [] rfl) (hD.sub [] (by decide) rfl) (va_free hD hS hA [] rfl)⟩ rfl rfl hl.1 rfl (lv_room (Nat.le_of_ble_eq_true rfl)) (zdt_at zt_X9_placesFit_1 11 rfl) ⟨Nat.zero_le _, Nat.zero_le _⟩) ?_
    clear hc_
    refine W.eq (g2 := F0 m 188 ls [.int r_38]) rfl ?_
    refine lv_if_eq (pc := 188) (tgt := 195) hx hb (zdt_at zt_X9_placesFit_1 12 rfl) (by decide) (fun cn_ => ?t_39) (fun cn_ => ?f_40)
    case t_39 =>
      replace hf := zt_s cn_ hf
      clear cn_
      refine lv_iconst (pc := 195) (v := (0 : Int32)) hx hb (zdt_at zt_X9_placesFit_1 15 rfl) (by decide) ?_
      cases hf
      exact W.zret (pc := 196) hx hb hr rfl (fun t ht hW => ⟨rfl, ht⟩) (fun _ h => nomatch h) (zdt_at zt_X9_placesFit_1 16 rfl)
    replace hf := ze_s cn_ hf
    clear cn_
    refine lv_iconst (pc := 191) (v := (1 : Int32)) hx hb (zdt_at zt_X9_placesFit_1 13 rfl) (by decide) ?_
    refine lv_goto (pc := 192) (tgt := 196) hx hb (zdt_at zt_X9_placesFit_1 14 rfl) (by decide) ?_
    cases hf
    exact W.zret (pc := 196) hx hb hr rfl (fun t ht hW => ⟨rfl, ht⟩) (fun _ h => nomatch h) (zdt_at zt_X9_placesFit_1 16 rfl)
  replace hf := ze_s hs_41 hf
  by_cases hs_47 : p0 = (9 : Int32) ∨ p0 = (10 : Int32)
  · replace hf := zt_s hs_47 hf
    have kd_48 : GW s.heap [] (F0 m 197 ls []) := by
      refine hFr _ _ _ ?_
      clear hs_47
      refine lv_iload_n (pc := 197) hx hb (zdt_at zt_X9_placesFit_1 17 rfl) rfl (lv_at hl 3 rfl) ?_
      refine lv_if_ne (pc := 198) (tgt := 214) hx hb (zdt_at zt_X9_placesFit_1 18 rfl) (by decide) (fun cn_ => ?t_42) (fun cn_ => ?f_43)
      case t_42 =>
        replace hf := ze_s cn_ hf
        clear cn_
        refine lv_iconst (pc := 214) (v := (0 : Int32)) hx hb (zdt_at zt_X9_placesFit_1 25 rfl) (by decide) ?_
        cases hf
        exact W.zret (pc := 215) hx hb hr rfl (fun t ht hW => ⟨rfl, ht⟩) (fun _ h => nomatch h) (zdt_at zt_X9_placesFit_1 26 rfl)
      replace hf := zt_s cn_ hf
      clear cn_
      refine lv_iload_n (pc := 201) hx hb (zdt_at zt_X9_placesFit_1 19 rfl) rfl (lv_at hl 1 rfl) ?_
      refine lv_bipush (pc := 202) (v := (32 : Int32)) hx hb (zdt_at zt_X9_placesFit_1 20 rfl) (by decide) ?_
      replace hf := zb_s hf
      obtain ⟨r_44, hc_, hf⟩ := hf
      refine zcs (pc := 204) (rv := (some (.int r_44))) (va_runS (As := [.int p1, .int (32 : Int32)]) (rest := []) ⟨hx, hb, hml, hown, hts⟩ (c_X9_inBuffer l D cy tt s.heap.size p1 (32 : Int32) r_44 hc_) (va_cwS 2 hts gX9_placesFit_X9_inBuffer rfl rfl rfl (by decide +kernel) ⟨Nat.le_of_ble_eq_true rfl, Nat.le_of_ble_eq_true rfl⟩) ⟨zblind, zpre hE hS (hP.sub [] rfl) (hD.sub [] (by decide) rfl) (va_free hD hS hA [] rfl)⟩ rfl rfl hl.1 rfl (lv_room (Nat.le_of_ble_eq_true rfl)) (zdt_at zt_X9_placesFit_1 21 rfl) ⟨Nat.zero_le _, Nat.zero_le _⟩) ?_
      clear hc_
      refine W.eq (g2 := F0 m 207 ls [.int r_44]) rfl ?_
      refine lv_if_eq (pc := 207) (tgt := 214) hx hb (zdt_at zt_X9_placesFit_1 22 rfl) (by decide) (fun cn_ => ?t_45) (fun cn_ => ?f_46)
      case t_45 =>
        replace hf := zt_s cn_ hf
        clear cn_
        refine lv_iconst (pc := 214) (v := (0 : Int32)) hx hb (zdt_at zt_X9_placesFit_1 25 rfl) (by decide) ?_
        cases hf
        exact W.zret (pc := 215) hx hb hr rfl (fun t ht hW => ⟨rfl, ht⟩) (fun _ h => nomatch h) (zdt_at zt_X9_placesFit_1 26 rfl)
      replace hf := ze_s cn_ hf
      clear cn_
      refine lv_iconst (pc := 210) (v := (1 : Int32)) hx hb (zdt_at zt_X9_placesFit_1 23 rfl) (by decide) ?_
      refine lv_goto (pc := 211) (tgt := 215) hx hb (zdt_at zt_X9_placesFit_1 24 rfl) (by decide) ?_
      cases hf
      exact W.zret (pc := 215) hx hb hr rfl (fun t ht hW => ⟨rfl, ht⟩) (fun _ h => nomatch h) (zdt_at zt_X9_placesFit_1 26 rfl)
    rcases hs_47 with hs_47 | hs_47
    all_goals exact lv_tableIn (pc := 21) (tgt := 197) (off := 176) hx hb (zdt_at zt_X9_placesFit_0 12 rfl) (by rw [hs_47]; decide) (by rw [hs_47]; decide) (by rw [hs_47]; rfl) (by decide) (hTo _ _ _ kd_48)
  replace hf := ze_s hs_47 hf
  by_cases hs_51 : p0 = (11 : Int32)
  · replace hf := zt_s hs_51 hf
    refine lv_tableIn (pc := 21) (tgt := 216) (off := 195) hx hb (zdt_at zt_X9_placesFit_0 12 rfl) (by rw [hs_51]; decide) (by rw [hs_51]; decide) (by rw [hs_51]; rfl) (by decide) ?_
    clear hs_51
    refine lv_iload_n (pc := 216) hx hb (zdt_at zt_X9_placesFit_1 27 rfl) rfl (lv_at hl 2 rfl) ?_
    refine lv_sipush (pc := 217) (v := (256 : Int32)) hx hb (zdt_at zt_X9_placesFit_1 28 rfl) (by decide) ?_
    refine lv_icmp_gt (pc := 220) (tgt := 227) hx hb (zdt_at zt_X9_placesFit_1 29 rfl) (by decide) (fun cn_ => ?t_49) (fun cn_ => ?f_50)
    case t_49 =>
      replace hf := zt_s cn_ hf
      clear cn_
      refine lv_iconst (pc := 227) (v := (0 : Int32)) hx hb (zdt_at zt_X9_placesFit_1 32 rfl) (by decide) ?_
      cases hf
      exact W.zret (pc := 228) hx hb hr rfl (fun t ht hW => ⟨rfl, ht⟩) (fun _ h => nomatch h) (zdt_at zt_X9_placesFit_1 33 rfl)
    replace hf := ze_s cn_ hf
    clear cn_
    refine lv_iconst (pc := 223) (v := (1 : Int32)) hx hb (zdt_at zt_X9_placesFit_1 30 rfl) (by decide) ?_
    refine lv_goto (pc := 224) (tgt := 228) hx hb (zdt_at zt_X9_placesFit_1 31 rfl) (by decide) ?_
    cases hf
    exact W.zret (pc := 228) hx hb hr rfl (fun t ht hW => ⟨rfl, ht⟩) (fun _ h => nomatch h) (zdt_at zt_X9_placesFit_1 33 rfl)
  replace hf := ze_s hs_51 hf
  have kd_52 : GW s.heap [] (F0 m 229 ls []) := by
    refine hFr _ _ _ ?_
    refine lv_iconst (pc := 229) (v := (0 : Int32)) hx hb (zdt_at zt_X9_placesFit_1 34 rfl) (by decide) ?_
    cases hf
    exact W.zret (pc := 230) hx hb hr rfl (fun t ht hW => ⟨rfl, ht⟩) (fun _ h => nomatch h) (zdt_at zt_X9_placesFit_1 35 rfl)
  have n1_ : ¬ p0.toInt = 1 := lv_neT (k := (1 : Int32)) (fun q => hs_12 (by rw [q]; decide)) (by decide)
  have n2_ : ¬ p0.toInt = 2 := lv_neT (k := (2 : Int32)) (fun q => hs_12 (by rw [q]; decide)) (by decide)
  have n3_ : ¬ p0.toInt = 3 := lv_neT (k := (3 : Int32)) (fun q => hs_20 (by rw [q]; decide)) (by decide)
  have n4_ : ¬ p0.toInt = 4 := lv_neT (k := (4 : Int32)) (fun q => hs_20 (by rw [q]; decide)) (by decide)
  have n5_ : ¬ p0.toInt = 5 := lv_neT (k := (5 : Int32)) hs_26 (by decide)
  have n6_ : ¬ p0.toInt = 6 := lv_neT (k := (6 : Int32)) hs_32 (by decide)
  have n7_ : ¬ p0.toInt = 7 := lv_neT (k := (7 : Int32)) hs_35 (by decide)
  have n8_ : ¬ p0.toInt = 8 := lv_neT (k := (8 : Int32)) hs_41 (by decide)
  have n9_ : ¬ p0.toInt = 9 := lv_neT (k := (9 : Int32)) (fun q => hs_47 (by rw [q]; decide)) (by decide)
  have n10_ : ¬ p0.toInt = 10 := lv_neT (k := (10 : Int32)) (fun q => hs_47 (by rw [q]; decide)) (by decide)
  have n11_ : ¬ p0.toInt = 11 := lv_neT (k := (11 : Int32)) hs_51 (by decide)
  by_cases hr_ : p0.toInt < 1 ∨ 11 < p0.toInt
  · exact lv_tableOut (pc := 21) (tgt := 229) hx hb (zdt_at zt_X9_placesFit_0 12 rfl) hr_ (by decide) (hTo _ _ _ kd_52)
  · exact absurd hr_ (by omega)
set_option maxHeartbeats 4000000 in
set_option maxRecDepth 100000 in
theorem c_X9_bitFor (l : Launch) (D : va_G) (cy : Nat → ClassId) (tt : Nat → Nat) (sz : Nat) (p0 : Int32) (r_ : Int32) (hf : f_X9_bitFor p0 = some r_) : Met l yX9_bitFor wsX9_bitFor ({ frames := 0, cells := 0, slots := 0, locals := 0 }) (zPc D cy tt sz [.int p0] ([])) (fun _ st o t => o = .returned (some (.int r_)) ∧ t.heap = st.heap) 0 0 (fun _ => False) := by
  refine Met.ofW (cc := cX9_bitFor) (maxL := 1) (ret := (some .int)) (by decide) rfl ?_
  intro p e s m args below meth c s₁ B hml hv
  obtain ⟨rfl, rfl, hP, hD0, hE⟩ := hv
  have hx := B.exec
  have hb := B.bytes
  have hr := B.returns
  have hts := atoms_spec (ws := wsX9_bitFor) B.pre
  have hown : s.vm.findClass RX9 = some m.cls := findClass_of_methodNamed B.named
  have hlocks := B.notSynchronized
  clear B
  have hD := hD0.self (sz := s.heap.size)
  generalize hAe : va_A ([]) s.heap.size = A at hD hE
  have hA : ∀ q : Nat, s.heap.size ≤ q → A q := fun q h => by rw [← hAe]; exact Or.inr h
  clear hAe hD0
  have hS : va_S A s.heap s.heap [] := va_S.rf
  have hK := hE.1
  have hl := lv_entry ([.int p0]) (n := 1) (Nat.le_of_ble_eq_true rfl)
  rw [lg_entry_eq]
  generalize (lg_sl ([.int p0]) ++ List.replicate (1 - (lg_sl ([.int p0])).length) Slot.unset).toArray = ls at hl ⊢
  replace hl : lv_has ls 1 [(0, .int p0)] := hl
  unfold f_X9_bitFor at hf
  refine zgo (fun GW hTo hFr => ?_)
  refine hFr _ _ _ ?_
  refine lv_iload_n (pc := 0) hx hb (zdt_at zt_X9_bitFor_0 0 rfl) rfl (lv_at hl 0 rfl) ?_
  by_cases hs_1 : p0 = (2 : Int32) ∨ p0 = (4 : Int32) ∨ p0 = (7 : Int32)
  · replace hf := zt_s hs_1 hf
    have kd_2 : GW s.heap [] (F0 m 52 ls []) := by
      refine hFr _ _ _ ?_
      clear hs_1
      refine lv_iconst (pc := 52) (v := (2 : Int32)) hx hb (zdt_at zt_X9_bitFor_0 2 rfl) (by decide) ?_
      cases hf
      exact W.iret (pc := 53) hx hb hr (fun t ht hW => ⟨rfl, ht⟩) (fun _ h => nomatch h) (zdt_at zt_X9_bitFor_0 3 rfl)
    rcases hs_1 with hs_1 | hs_1 | hs_1
    all_goals exact lv_tableIn (pc := 1) (tgt := 52) (off := 51) hx hb (zdt_at zt_X9_bitFor_0 1 rfl) (by rw [hs_1]; decide) (by rw [hs_1]; decide) (by rw [hs_1]; rfl) (by decide) (hTo _ _ _ kd_2)
  replace hf := ze_s hs_1 hf
  by_cases hs_3 : p0 = (8 : Int32) ∨ p0 = (10 : Int32)
  · replace hf := zt_s hs_3 hf
    have kd_4 : GW s.heap [] (F0 m 54 ls []) := by
      refine hFr _ _ _ ?_
      clear hs_3
      refine lv_iconst (pc := 54) (v := (4 : Int32)) hx hb (zdt_at zt_X9_bitFor_0 4 rfl) (by decide) ?_
      cases hf
      exact W.iret (pc := 55) hx hb hr (fun t ht hW => ⟨rfl, ht⟩) (fun _ h => nomatch h) (zdt_at zt_X9_bitFor_0 5 rfl)
    rcases hs_3 with hs_3 | hs_3
    all_goals exact lv_tableIn (pc := 1) (tgt := 54) (off := 53) hx hb (zdt_at zt_X9_bitFor_0 1 rfl) (by rw [hs_3]; decide) (by rw [hs_3]; decide) (by rw [hs_3]; rfl) (by decide) (hTo _ _ _ kd_4)
  replace hf := ze_s hs_3 hf
  have kd_5 : GW s.heap [] (F0 m 56 ls []) := by
    refine hFr _ _ _ ?_
    refine lv_iconst (pc := 56) (v := (1 : Int32)) hx hb (zdt_at zt_X9_bitFor_0 6 rfl) (by decide) ?_
    cases hf
    exact W.iret (pc := 57) hx hb hr (fun t ht hW => ⟨rfl, ht⟩) (fun _ h => nomatch h) (zdt_at zt_X9_bitFor_0 7 rfl)
  have n2_ : ¬ p0.toInt = 2 := lv_neT (k := (2 : Int32)) (fun q => hs_1 (by rw [q]; decide)) (by decide)
  have n4_ : ¬ p0.toInt = 4 := lv_neT (k := (4 : Int32)) (fun q => hs_1 (by rw [q]; decide)) (by decide)
  have n7_ : ¬ p0.toInt = 7 := lv_neT (k := (7 : Int32)) (fun q => hs_1 (by rw [q]; decide)) (by decide)
  have n8_ : ¬ p0.toInt = 8 := lv_neT (k := (8 : Int32)) (fun q => hs_3 (by rw [q]; decide)) (by decide)
  have n10_ : ¬ p0.toInt = 10 := lv_neT (k := (10 : Int32)) (fun q => hs_3 (by rw [q]; decide)) (by decide)
  by_cases hr_ : p0.toInt < 2 ∨ 10 < p0.toInt
  · exact lv_tableOut (pc := 1) (tgt := 56) hx hb (zdt_at zt_X9_bitFor_0 1 rfl) hr_ (by decide) (hTo _ _ _ kd_5)
  · rcases (show p0.toInt = 3 ∨ p0.toInt = 5 ∨ p0.toInt = 6 ∨ p0.toInt = 9 by omega) with hq_ | hq_ | hq_ | hq_
    all_goals exact lv_tableIn (pc := 1) (tgt := 56) (off := 55) hx hb (zdt_at zt_X9_bitFor_0 1 rfl) (by rw [hq_]; decide) (by rw [hq_]; decide) (by rw [hq_]; rfl) (by decide) (hTo _ _ _ kd_5)
set_option maxHeartbeats 4000000 in
set_option maxRecDepth 100000 in
theorem c_X9_isSlot (l : Launch) (D : va_G) (cy : Nat → ClassId) (tt : Nat → Nat) (sz : Nat) (p0 : Int32) (r_ : Int32) (hf : f_X9_isSlot p0 = some r_) : Met l yX9_isSlot wsX9_isSlot ({ frames := 0, cells := 0, slots := 0, locals := 0 }) (zPc D cy tt sz [.int p0] ([])) (fun _ st o t => o = .returned (some (.int r_)) ∧ t.heap = st.heap) 0 0 (fun _ => False) := by
  refine Met.ofW (cc := cX9_isSlot) (maxL := 1) (ret := (some .boolean)) (by decide) rfl ?_
  intro p e s m args below meth c s₁ B hml hv
  obtain ⟨rfl, rfl, hP, hD0, hE⟩ := hv
  have hx := B.exec
  have hb := B.bytes
  have hr := B.returns
  have hts := atoms_spec (ws := wsX9_isSlot) B.pre
  have hown : s.vm.findClass RX9 = some m.cls := findClass_of_methodNamed B.named
  have hlocks := B.notSynchronized
  clear B
  have hD := hD0.self (sz := s.heap.size)
  generalize hAe : va_A ([]) s.heap.size = A at hD hE
  have hA : ∀ q : Nat, s.heap.size ≤ q → A q := fun q h => by rw [← hAe]; exact Or.inr h
  clear hAe hD0
  have hS : va_S A s.heap s.heap [] := va_S.rf
  have hK := hE.1
  have hl := lv_entry ([.int p0]) (n := 1) (Nat.le_of_ble_eq_true rfl)
  rw [lg_entry_eq]
  generalize (lg_sl ([.int p0]) ++ List.replicate (1 - (lg_sl ([.int p0])).length) Slot.unset).toArray = ls at hl ⊢
  replace hl : lv_has ls 1 [(0, .int p0)] := hl
  unfold f_X9_isSlot at hf
  refine zgo (fun GW hTo hFr => ?_)
  refine hFr _ _ _ ?_
  refine lv_iload_n (pc := 0) hx hb (zdt_at zt_X9_isSlot_0 0 rfl) rfl (lv_at hl 0 rfl) ?_
  refine lv_if_lt (pc := 1) (tgt := 14) hx hb (zdt_at zt_X9_isSlot_0 1 rfl) (by decide) (fun cn_ => ?t_1) (fun cn_ => ?f_2)
  case t_1 =>
    replace hf := zt_s cn_ hf
    clear cn_
    refine lv_iconst (pc := 14) (v := (0 : Int32)) hx hb (zdt_at zt_X9_isSlot_0 7 rfl) (by decide) ?_
    cases hf
    exact W.zret (pc := 15) hx hb hr rfl (fun t ht hW => ⟨rfl, ht⟩) (fun _ h => nomatch h) (zdt_at zt_X9_isSlot_0 8 rfl)
  replace hf := ze_s cn_ hf
  clear cn_
  refine lv_iload_n (pc := 4) hx hb (zdt_at zt_X9_isSlot_0 2 rfl) rfl (lv_at hl 0 rfl) ?_
  refine lv_bipush (pc := 5) (v := (16 : Int32)) hx hb (zdt_at zt_X9_isSlot_0 3 rfl) (by decide) ?_
  refine lv_icmp_ge (pc := 7) (tgt := 14) hx hb (zdt_at zt_X9_isSlot_0 4 rfl) (by decide) (fun cn_ => ?t_3) (fun cn_ => ?f_4)
  case t_3 =>
    replace hf := zt_s cn_ hf
    clear cn_
    refine lv_iconst (pc := 14) (v := (0 : Int32)) hx hb (zdt_at zt_X9_isSlot_0 7 rfl) (by decide) ?_
    cases hf
    exact W.zret (pc := 15) hx hb hr rfl (fun t ht hW => ⟨rfl, ht⟩) (fun _ h => nomatch h) (zdt_at zt_X9_isSlot_0 8 rfl)
  replace hf := ze_s cn_ hf
  clear cn_
  refine lv_iconst (pc := 10) (v := (1 : Int32)) hx hb (zdt_at zt_X9_isSlot_0 5 rfl) (by decide) ?_
  refine lv_goto (pc := 11) (tgt := 15) hx hb (zdt_at zt_X9_isSlot_0 6 rfl) (by decide) ?_
  cases hf
  exact W.zret (pc := 15) hx hb hr rfl (fun t ht hW => ⟨rfl, ht⟩) (fun _ h => nomatch h) (zdt_at zt_X9_isSlot_0 8 rfl)
set_option maxHeartbeats 4000000 in
set_option maxRecDepth 100000 in
theorem c_X9_intAt (l : Launch) (D : va_G) (cy : Nat → ClassId) (tt : Nat → Nat) (sz : Nat) (ha0 : Nat) (n_a0 : Nat) (p1 : Int32) (ca0 : Nat → Int32) (r_ : Int32) (hf : f_X9_intAt n_a0 p1 ca0 = some r_) : Met l yX9_intAt wsX9_intAt ({ frames := 0, cells := 0, slots := 0, locals := 0 }) (zPc D cy tt sz [.ref ha0, .int p1] ([(ha0, .inl (cy 0, n_a0, .inl ca0))])) (fun _ st o t => o = .returned (some (.int r_)) ∧ t.heap = st.heap) 0 0 (fun _ => False) := by
  refine Met.ofW (cc := cX9_intAt) (maxL := 2) (ret := (some .int)) (by decide) rfl ?_
  intro p e s m args below meth c s₁ B hml hv
  obtain ⟨rfl, rfl, hP, hD0, hE⟩ := hv
  have hx := B.exec
  have hb := B.bytes
  have hr := B.returns
  have hts := atoms_spec (ws := wsX9_intAt) B.pre
  have hown : s.vm.findClass RX9 = some m.cls := findClass_of_methodNamed B.named
  have hlocks := B.notSynchronized
  clear B
  have hD := hD0.self (sz := s.heap.size)
  generalize hAe : va_A ([(ha0, .inl (cy 0, n_a0, .inl ca0))]) s.heap.size = A at hD hE
  have hA : ∀ q : Nat, s.heap.size ≤ q → A q := fun q h => by rw [← hAe]; exact Or.inr h
  clear hAe hD0
  have hS : va_S A s.heap s.heap [] := va_S.rf
  have hK := hE.1
  have hl := lv_entry ([.ref ha0, .int p1]) (n := 2) (Nat.le_of_ble_eq_true rfl)
  rw [lg_entry_eq]
  generalize (lg_sl ([.ref ha0, .int p1]) ++ List.replicate (2 - (lg_sl ([.ref ha0, .int p1])).length) Slot.unset).toArray = ls at hl ⊢
  replace hl : lv_has ls 2 [(0, .ref ha0), (1, .int p1)] := hl
  unfold f_X9_intAt at hf
  refine zgo (fun GW hTo hFr => ?_)
  refine hFr _ _ _ ?_
  refine lv_aload_n (pc := 0) hx hb (zdt_at zt_X9_intAt_0 0 rfl) rfl (lv_at hl 0 rfl) ?_
  refine lv_iload_n (pc := 1) hx hb (zdt_at zt_X9_intAt_0 1 rfl) rfl (lv_at hl 1 rfl) ?_
  replace hf := zk_s hf
  refine va_bald (pc := 2) hx hb hK hP 0 0 rfl rfl hf.1 (zdt_at zt_X9_intAt_0 2 rfl) ?_
  replace hf := hf.2
  refine lv_bipush (pc := 3) (v := (24 : Int32)) hx hb (zdt_at zt_X9_intAt_0 3 rfl) (by decide) ?_
  refine lv_ishl (pc := 5) hx hb (zdt_at zt_X9_intAt_0 4 rfl) ?_
  refine lv_aload_n (pc := 6) hx hb (zdt_at zt_X9_intAt_0 5 rfl) rfl (lv_at hl 0 rfl) ?_
  refine lv_iload_n (pc := 7) hx hb (zdt_at zt_X9_intAt_0 6 rfl) rfl (lv_at hl 1 rfl) ?_
  refine lv_iconst (pc := 8) (v := (1 : Int32)) hx hb (zdt_at zt_X9_intAt_0 7 rfl) (by decide) ?_
  refine lv_iadd (pc := 9) hx hb (zdt_at zt_X9_intAt_0 8 rfl) ?_
  replace hf := zk_s hf
  refine va_bald (pc := 10) hx hb hK hP 0 0 rfl rfl hf.1 (zdt_at zt_X9_intAt_0 9 rfl) ?_
  replace hf := hf.2
  refine lv_sipush (pc := 11) (v := (255 : Int32)) hx hb (zdt_at zt_X9_intAt_0 10 rfl) (by decide) ?_
  refine lv_iand (pc := 14) hx hb (zdt_at zt_X9_intAt_0 11 rfl) ?_
  refine lv_bipush (pc := 15) (v := (16 : Int32)) hx hb (zdt_at zt_X9_intAt_0 12 rfl) (by decide) ?_
  refine lv_ishl (pc := 17) hx hb (zdt_at zt_X9_intAt_0 13 rfl) ?_
  refine lv_ior (pc := 18) hx hb (zdt_at zt_X9_intAt_0 14 rfl) ?_
  refine lv_aload_n (pc := 19) hx hb (zdt_at zt_X9_intAt_0 15 rfl) rfl (lv_at hl 0 rfl) ?_
  refine lv_iload_n (pc := 20) hx hb (zdt_at zt_X9_intAt_0 16 rfl) rfl (lv_at hl 1 rfl) ?_
  refine lv_iconst (pc := 21) (v := (2 : Int32)) hx hb (zdt_at zt_X9_intAt_0 17 rfl) (by decide) ?_
  refine lv_iadd (pc := 22) hx hb (zdt_at zt_X9_intAt_0 18 rfl) ?_
  replace hf := zk_s hf
  refine va_bald (pc := 23) hx hb hK hP 0 0 rfl rfl hf.1 (zdt_at zt_X9_intAt_0 19 rfl) ?_
  replace hf := hf.2
  refine lv_sipush (pc := 24) (v := (255 : Int32)) hx hb (zdt_at zt_X9_intAt_0 20 rfl) (by decide) ?_
  refine lv_iand (pc := 27) hx hb (zdt_at zt_X9_intAt_0 21 rfl) ?_
  refine lv_bipush (pc := 28) (v := (8 : Int32)) hx hb (zdt_at zt_X9_intAt_0 22 rfl) (by decide) ?_
  refine lv_ishl (pc := 30) hx hb (zdt_at zt_X9_intAt_0 23 rfl) ?_
  refine lv_ior (pc := 31) hx hb (zdt_at zt_X9_intAt_0 24 rfl) ?_
  refine lv_aload_n (pc := 32) hx hb (zdt_at zt_X9_intAt_0 25 rfl) rfl (lv_at hl 0 rfl) ?_
  refine lv_iload_n (pc := 33) hx hb (zdt_at zt_X9_intAt_0 26 rfl) rfl (lv_at hl 1 rfl) ?_
  refine lv_iconst (pc := 34) (v := (3 : Int32)) hx hb (zdt_at zt_X9_intAt_0 27 rfl) (by decide) ?_
  refine lv_iadd (pc := 35) hx hb (zdt_at zt_X9_intAt_0 28 rfl) ?_
  replace hf := zk_s hf
  refine va_bald (pc := 36) hx hb hK hP 0 0 rfl rfl hf.1 (zdt_at zt_X9_intAt_0 29 rfl) ?_
  replace hf := hf.2
  refine lv_sipush (pc := 37) (v := (255 : Int32)) hx hb (zdt_at zt_X9_intAt_0 30 rfl) (by decide) ?_
  refine lv_iand (pc := 40) hx hb (zdt_at zt_X9_intAt_0 31 rfl) ?_
  refine lv_ior (pc := 41) hx hb (zdt_at zt_X9_intAt_0 32 rfl) ?_
  cases hf
  exact W.iret (pc := 42) hx hb hr (fun t ht hW => ⟨rfl, ht⟩) (fun _ h => nomatch h) (zdt_at zt_X9_intAt_0 33 rfl)
set_option maxHeartbeats 4000000 in
set_option maxRecDepth 100000 in
theorem c_X9_putInt (l : Launch) (D : va_G) (cy : Nat → ClassId) (tt : Nat → Nat) (sz : Nat) (ha0 : Nat) (n_a0 : Nat) (p1 : Int32) (p2 : Int32) (ca0 : Nat → Int32) (ca0' : Nat → Int32) (hf : f_X9_putInt n_a0 p1 p2 ca0 = some ca0') : Met l yX9_putInt wsX9_putInt ({ frames := 0, cells := 0, slots := 0, locals := 0 }) (zPc D cy tt sz [.ref ha0, .int p1, .int p2] ([(ha0, .inl (cy 0, n_a0, .inl ca0))])) (zQ D none ([(ha0, .inl (cy 0, n_a0, .inl ca0'))]) (va_A ([(ha0, .inl (cy 0, n_a0, .inl ca0))]) sz)) 0 0 (va_A ([(ha0, .inl (cy 0, n_a0, .inl ca0))]) sz) := by
  refine Met.ofW (cc := cX9_putInt) (maxL := 3) (ret := none) (by decide) rfl ?_
  intro p e s m args below meth c s₁ B hml hv
  obtain ⟨rfl, rfl, hP, hD0, hE⟩ := hv
  have hx := B.exec
  have hb := B.bytes
  have hr := B.returns
  have hts := atoms_spec (ws := wsX9_putInt) B.pre
  have hown : s.vm.findClass RX9 = some m.cls := findClass_of_methodNamed B.named
  have hlocks := B.notSynchronized
  clear B
  have hD := hD0.self (sz := s.heap.size)
  generalize hAe : va_A ([(ha0, .inl (cy 0, n_a0, .inl ca0))]) s.heap.size = A at hD hE ⊢
  have hA : ∀ q : Nat, s.heap.size ≤ q → A q := fun q h => by rw [← hAe]; exact Or.inr h
  clear hAe hD0
  have hS : va_S A s.heap s.heap [] := va_S.rf
  have hK := hE.1
  have hl := lv_entry ([.ref ha0, .int p1, .int p2]) (n := 3) (Nat.le_of_ble_eq_true rfl)
  rw [lg_entry_eq]
  generalize (lg_sl ([.ref ha0, .int p1, .int p2]) ++ List.replicate (3 - (lg_sl ([.ref ha0, .int p1, .int p2])).length) Slot.unset).toArray = ls at hl ⊢
  replace hl : lv_has ls 3 [(0, .ref ha0), (1, .int p1), (2, .int p2)] := hl
  unfold f_X9_putInt at hf
  refine zgo (fun GW hTo hFr => ?_)
  refine hFr _ _ _ ?_
  obtain ⟨H, hHe⟩ : ∃ H, H = s.heap := ⟨_, rfl⟩
  obtain ⟨locs, hLe⟩ : ∃ L : List Loc, L = [] := ⟨_, rfl⟩
  rw [← hHe] at hP
  replace hS : va_S A s.heap H locs := by rw [hHe, hLe]; exact hS
  refine zat hHe.symm hLe.symm ?_
  clear hHe hLe
  refine lv_aload_n (pc := 0) hx hb (zdt_at zt_X9_putInt_0 0 rfl) rfl (lv_at hl 0 rfl) ?_
  refine lv_iload_n (pc := 1) hx hb (zdt_at zt_X9_putInt_0 1 rfl) rfl (lv_at hl 1 rfl) ?_
  refine lv_iload_n (pc := 2) hx hb (zdt_at zt_X9_putInt_0 2 rfl) rfl (lv_at hl 2 rfl) ?_
  refine lv_bipush (pc := 3) (v := (24 : Int32)) hx hb (zdt_at zt_X9_putInt_0 3 rfl) (by decide) ?_
  refine lv_iushr (pc := 5) hx hb (zdt_at zt_X9_putInt_0 4 rfl) rfl ?_
  refine lv_i2b (pc := 6) hx hb (zdt_at zt_X9_putInt_0 5 rfl) rfl ?_
  replace hf := zk_s hf
  refine va_bast (pc := 7) hx hb hK hP hD hS 0 0 rfl rfl hf.1 (zdt_at zt_X9_putInt_0 6 rfl) ?_
  replace hf := hf.2
  clear hP hD hS
  intro H locs hP hD hS
  obtain ⟨ca0_1, e_⟩ : ∃ q : Nat → Int32, q = (upd ca0 p1.toNatClampNeg (vp_nar .byte (((p2.toUInt32 >>> ((24 : Int32).toUInt32 &&& Int32.toUInt32 31)).toInt32).toInt8.toInt32))) := ⟨_, rfl⟩
  replace hf := zn_s hf e_
  replace hP : va_P D vwCl ([(ha0, .inl (cy 0, n_a0, .inl ca0_1))]) H := by rw [e_]; exact hP
  replace hD : va_D A ([(ha0, .inl (cy 0, n_a0, .inl ca0_1))]) := by rw [e_]; exact hD
  clear e_
  refine lv_aload_n (pc := 8) hx hb (zdt_at zt_X9_putInt_0 7 rfl) rfl (lv_at hl 0 rfl) ?_
  refine lv_iload_n (pc := 9) hx hb (zdt_at zt_X9_putInt_0 8 rfl) rfl (lv_at hl 1 rfl) ?_
  refine lv_iconst (pc := 10) (v := (1 : Int32)) hx hb (zdt_at zt_X9_putInt_0 9 rfl) (by decide) ?_
  refine lv_iadd (pc := 11) hx hb (zdt_at zt_X9_putInt_0 10 rfl) ?_
  refine lv_iload_n (pc := 12) hx hb (zdt_at zt_X9_putInt_0 11 rfl) rfl (lv_at hl 2 rfl) ?_
  refine lv_bipush (pc := 13) (v := (16 : Int32)) hx hb (zdt_at zt_X9_putInt_0 12 rfl) (by decide) ?_
  refine lv_iushr (pc := 15) hx hb (zdt_at zt_X9_putInt_0 13 rfl) rfl ?_
  refine lv_i2b (pc := 16) hx hb (zdt_at zt_X9_putInt_0 14 rfl) rfl ?_
  replace hf := zk_s hf
  refine va_bast (pc := 17) hx hb hK hP hD hS 0 0 rfl rfl hf.1 (zdt_at zt_X9_putInt_0 15 rfl) ?_
  replace hf := hf.2
  clear hP hD hS
  intro H locs hP hD hS
  obtain ⟨ca0_2, e_⟩ : ∃ q : Nat → Int32, q = (upd ca0_1 (p1 + (1 : Int32)).toNatClampNeg (vp_nar .byte (((p2.toUInt32 >>> ((16 : Int32).toUInt32 &&& Int32.toUInt32 31)).toInt32).toInt8.toInt32))) := ⟨_, rfl⟩
  replace hf := zn_s hf e_
  replace hP : va_P D vwCl ([(ha0, .inl (cy 0, n_a0, .inl ca0_2))]) H := by rw [e_]; exact hP
  replace hD : va_D A ([(ha0, .inl (cy 0, n_a0, .inl ca0_2))]) := by rw [e_]; exact hD
  clear e_
  refine lv_aload_n (pc := 18) hx hb (zdt_at zt_X9_putInt_0 16 rfl) rfl (lv_at hl 0 rfl) ?_
  refine lv_iload_n (pc := 19) hx hb (zdt_at zt_X9_putInt_0 17 rfl) rfl (lv_at hl 1 rfl) ?_
  refine lv_iconst (pc := 20) (v := (2 : Int32)) hx hb (zdt_at zt_X9_putInt_0 18 rfl) (by decide) ?_
  refine lv_iadd (pc := 21) hx hb (zdt_at zt_X9_putInt_0 19 rfl) ?_
  refine lv_iload_n (pc := 22) hx hb (zdt_at zt_X9_putInt_0 20 rfl) rfl (lv_at hl 2 rfl) ?_
  refine lv_bipush (pc := 23) (v := (8 : Int32)) hx hb (zdt_at zt_X9_putInt_0 21 rfl) (by decide) ?_
  refine lv_iushr (pc := 25) hx hb (zdt_at zt_X9_putInt_0 22 rfl) rfl ?_
  refine lv_i2b (pc := 26) hx hb (zdt_at zt_X9_putInt_0 23 rfl) rfl ?_
  replace hf := zk_s hf
  refine va_bast (pc := 27) hx hb hK hP hD hS 0 0 rfl rfl hf.1 (zdt_at zt_X9_putInt_0 24 rfl) ?_
  replace hf := hf.2
  clear hP hD hS
  intro H locs hP hD hS
  obtain ⟨ca0_3, e_⟩ : ∃ q : Nat → Int32, q = (upd ca0_2 (p1 + (2 : Int32)).toNatClampNeg (vp_nar .byte (((p2.toUInt32 >>> ((8 : Int32).toUInt32 &&& Int32.toUInt32 31)).toInt32).toInt8.toInt32))) := ⟨_, rfl⟩
  replace hf := zn_s hf e_
  replace hP : va_P D vwCl ([(ha0, .inl (cy 0, n_a0, .inl ca0_3))]) H := by rw [e_]; exact hP
  replace hD : va_D A ([(ha0, .inl (cy 0, n_a0, .inl ca0_3))]) := by rw [e_]; exact hD
  clear e_
  refine lv_aload_n (pc := 28) hx hb (zdt_at zt_X9_putInt_0 25 rfl) rfl (lv_at hl 0 rfl) ?_
  refine lv_iload_n (pc := 29) hx hb (zdt_at zt_X9_putInt_0 26 rfl) rfl (lv_at hl 1 rfl) ?_
  refine lv_iconst (pc := 30) (v := (3 : Int32)) hx hb (zdt_at zt_X9_putInt_0 27 rfl) (by decide) ?_
  refine lv_iadd (pc := 31) hx hb (zdt_at zt_X9_putInt_0 28 rfl) ?_
  refine lv_iload_n (pc := 32) hx hb (zdt_at zt_X9_putInt_0 29 rfl) rfl (lv_at hl 2 rfl) ?_
  refine lv_i2b (pc := 33) hx hb (zdt_at zt_X9_putInt_0 30 rfl) rfl ?_
  replace hf := zk_s hf
  refine va_bast (pc := 34) hx hb hK hP hD hS 0 0 rfl rfl hf.1 (zdt_at zt_X9_putInt_0 31 rfl) ?_
  replace hf := hf.2
  clear hP hD hS
  intro H locs hP hD hS
  obtain ⟨ca0_4, e_⟩ : ∃ q : Nat → Int32, q = (upd ca0_3 (p1 + (3 : Int32)).toNatClampNeg (vp_nar .byte p2.toInt8.toInt32)) := ⟨_, rfl⟩
  replace hf := zn_s hf e_
  replace hP : va_P D vwCl ([(ha0, .inl (cy 0, n_a0, .inl ca0_4))]) H := by rw [e_]; exact hP
  replace hD : va_D A ([(ha0, .inl (cy 0, n_a0, .inl ca0_4))]) := by rw [e_]; exact hD
  clear e_
  cases hf
  exact W.vret (pc := 35) hx hb hr (fun t ht hW => ⟨rfl, ⟨by rw [ht]; exact hP, hD⟩, hS.F ht⟩) hS.2.2 (zdt_at zt_X9_putInt_0 32 rfl)
set_option maxHeartbeats 4000000 in
set_option maxRecDepth 100000 in
theorem c_X9_longAt (l : Launch) (D : va_G) (cy : Nat → ClassId) (tt : Nat → Nat) (sz : Nat) (ha0 : Nat) (n_a0 : Nat) (p1 : Int32) (ca0 : Nat → Int32) (r_ : Int64) (hf : f_X9_longAt n_a0 p1 ca0 = some r_) : Met l yX9_longAt wsX9_longAt ({ frames := 1, cells := 0, slots := 0, locals := 21 }) (zPc D cy tt sz [.ref ha0, .int p1] ([(ha0, .inl (cy 0, n_a0, .inl ca0))])) (fun _ st o t => o = .returned (some (.long r_)) ∧ t.heap = st.heap) 0 0 (fun _ => False) := by
  refine Met.ofW (cc := cX9_longAt) (maxL := 2) (ret := (some .long)) (by decide) rfl ?_
  intro p e s m args below meth c s₁ B hml hv
  obtain ⟨rfl, rfl, hP, hD0, hE⟩ := hv
  have hx := B.exec
  have hb := B.bytes
  have hr := B.returns
  have hts := atoms_spec (ws := wsX9_longAt) B.pre
  have hown : s.vm.findClass RX9 = some m.cls := findClass_of_methodNamed B.named
  have hlocks := B.notSynchronized
  clear B
  have hD := hD0.self (sz := s.heap.size)
  generalize hAe : va_A ([(ha0, .inl (cy 0, n_a0, .inl ca0))]) s.heap.size = A at hD hE
  have hA : ∀ q : Nat, s.heap.size ≤ q → A q := fun q h => by rw [← hAe]; exact Or.inr h
  clear hAe hD0
  have hS : va_S A s.heap s.heap [] := va_S.rf
  have hK := hE.1
  have hw0 := hts (.constantLong RX9 420 (4294967295)) (by decide +kernel)
  have hl := lv_entry ([.ref ha0, .int p1]) (n := 2) (Nat.le_of_ble_eq_true rfl)
  rw [lg_entry_eq]
  generalize (lg_sl ([.ref ha0, .int p1]) ++ List.replicate (2 - (lg_sl ([.ref ha0, .int p1])).length) Slot.unset).toArray = ls at hl ⊢
  replace hl : lv_has ls 2 [(0, .ref ha0), (1, .int p1)] := hl
  unfold f_X9_longAt at hf
  refine zgo (fun GW hTo hFr => ?_)
  refine hFr _ _ _ ?_
  refine lv_aload_n (pc := 0) hx hb (zdt_at zt_X9_longAt_0 0 rfl) rfl (lv_at hl 0 rfl) ?_
  refine lv_iload_n (pc := 1) hx hb (zdt_at zt_X9_longAt_0 1 rfl) rfl (lv_at hl 1 rfl) ?_
  replace hf := zb_s hf
  obtain ⟨r_1, hc_, hf⟩ := hf
  refine zcs (pc := 2) (rv := (some (.int r_1))) (va_runS (As := [.ref ha0, .int p1]) (rest := []) ⟨hx, hb, hml, hown, hts⟩ (c_X9_intAt l D cy tt s.heap.size ha0 n_a0 p1 ca0 r_1 hc_) (va_cwS 2 hts gX9_longAt_X9_intAt rfl rfl rfl (by decide +kernel) ⟨Nat.le_of_ble_eq_true rfl, Nat.le_of_ble_eq_true rfl⟩) ⟨zblind, zpre hE hS (hP.sub [0] rfl) (hD.sub [0] (by decide) rfl) (va_free hD hS hA [0] rfl)⟩ rfl rfl hl.1 rfl (lv_room (Nat.le_of_ble_eq_true rfl)) (zdt_at zt_X9_longAt_0 2 rfl) ⟨Nat.zero_le _, Nat.zero_le _⟩) ?_
  clear hc_
  refine W.eq (g2 := F0 m 5 ls [.int r_1]) rfl ?_
  refine lv_i2l (pc := 5) hx hb (zdt_at zt_X9_longAt_0 3 rfl) rfl ?_
  refine lv_bipush (pc := 6) (v := (32 : Int32)) hx hb (zdt_at zt_X9_longAt_0 4 rfl) (by decide) ?_
  refine lv_lshl (pc := 8) hx hb (zdt_at zt_X9_longAt_0 5 rfl) rfl ?_
  refine lv_aload_n (pc := 9) hx hb (zdt_at zt_X9_longAt_0 6 rfl) rfl (lv_at hl 0 rfl) ?_
  refine lv_iload_n (pc := 10) hx hb (zdt_at zt_X9_longAt_0 7 rfl) rfl (lv_at hl 1 rfl) ?_
  refine lv_iconst (pc := 11) (v := (4 : Int32)) hx hb (zdt_at zt_X9_longAt_0 8 rfl) (by decide) ?_
  refine lv_iadd (pc := 12) hx hb (zdt_at zt_X9_longAt_0 9 rfl) ?_
  replace hf := zb_s hf
  obtain ⟨r_2, hc_, hf⟩ := hf
  refine zcs (pc := 13) (rv := (some (.int r_2))) (va_runS (As := [.ref ha0, .int (p1 + (4 : Int32))]) (rest := [.long (r_1.toInt64 <<< ((32 : Int32).toInt64 &&& 63))]) ⟨hx, hb, hml, hown, hts⟩ (c_X9_intAt l D cy tt s.heap.size ha0 n_a0 (p1 + (4 : Int32)) ca0 r_2 hc_) (va_cwS 2 hts gX9_longAt_X9_intAt rfl rfl rfl (by decide +kernel) ⟨Nat.le_of_ble_eq_true rfl, Nat.le_of_ble_eq_true rfl⟩) ⟨zblind, zpre hE hS (hP.sub [0] rfl) (hD.sub [0] (by decide) rfl) (va_free hD hS hA [0] rfl)⟩ rfl rfl hl.1 rfl (lv_room (Nat.le_of_ble_eq_true rfl)) (zdt_at zt_X9_longAt_0 10 rfl) ⟨Nat.zero_le _, Nat.zero_le _⟩) ?_
  clear hc_
  refine W.eq (g2 := F0 m 16 ls [.int r_2, .long (r_1.toInt64 <<< ((32 : Int32).toInt64 &&& 63))]) rfl ?_
  refine lv_i2l (pc := 16) hx hb (zdt_at zt_X9_longAt_0 11 rfl) rfl ?_
  refine lv_ldc2 (pc := 17) hx hb hown hw0 (zdt_at zt_X9_longAt_0 12 rfl) ?_
  refine lv_land (pc := 20) hx hb (zdt_at zt_X9_longAt_0 13 rfl) ?_
  refine lv_lor (pc := 21) hx hb (zdt_at zt_X9_longAt_0 14 rfl) ?_
  cases hf
  exact W.lret (pc := 22) hx hb hr (fun t ht hW => ⟨rfl, ht⟩) (fun _ h => nomatch h) (zdt_at zt_X9_longAt_0 15 rfl)
set_option maxHeartbeats 4000000 in
set_option maxRecDepth 100000 in
theorem c_X9_putLong (l : Launch) (D : va_G) (cy : Nat → ClassId) (tt : Nat → Nat) (sz : Nat) (ha0 : Nat) (n_a0 : Nat) (p1 : Int32) (p2 : Int64) (ca0 : Nat → Int32) (ca0' : Nat → Int32) (hf : f_X9_putLong n_a0 p1 p2 ca0 = some ca0') : Met l yX9_putLong wsX9_putLong ({ frames := 1, cells := 0, slots := 0, locals := 22 }) (zPc D cy tt sz [.ref ha0, .int p1, .long p2] ([(ha0, .inl (cy 0, n_a0, .inl ca0))])) (zQ D none ([(ha0, .inl (cy 0, n_a0, .inl ca0'))]) (va_A ([(ha0, .inl (cy 0, n_a0, .inl ca0))]) sz)) 0 0 (va_A ([(ha0, .inl (cy 0, n_a0, .inl ca0))]) sz) := by
  refine Met.ofW (cc := cX9_putLong) (maxL := 4) (ret := none) (by decide) rfl ?_
  intro p e s m args below meth c s₁ B hml hv
  obtain ⟨rfl, rfl, hP, hD0, hE⟩ := hv
  have hx := B.exec
  have hb := B.bytes
  have hr := B.returns
  have hts := atoms_spec (ws := wsX9_putLong) B.pre
  have hown : s.vm.findClass RX9 = some m.cls := findClass_of_methodNamed B.named
  have hlocks := B.notSynchronized
  clear B
  have hD := hD0.self (sz := s.heap.size)
  generalize hAe : va_A ([(ha0, .inl (cy 0, n_a0, .inl ca0))]) s.heap.size = A at hD hE ⊢
  have hA : ∀ q : Nat, s.heap.size ≤ q → A q := fun q h => by rw [← hAe]; exact Or.inr h
  clear hAe hD0
  have hS : va_S A s.heap s.heap [] := va_S.rf
  have hK := hE.1
  have hl := lv_entry ([.ref ha0, .int p1, .long p2]) (n := 4) (Nat.le_of_ble_eq_true rfl)
  rw [lg_entry_eq]
  generalize (lg_sl ([.ref ha0, .int p1, .long p2]) ++ List.replicate (4 - (lg_sl ([.ref ha0, .int p1, .long p2])).length) Slot.unset).toArray = ls at hl ⊢
  replace hl : lv_has ls 4 [(0, .ref ha0), (1, .int p1), (2, .long p2)] := hl
  unfold f_X9_putLong at hf
  refine zgo (fun GW hTo hFr => ?_)
  refine hFr _ _ _ ?_
  obtain ⟨H, hHe⟩ : ∃ H, H = s.heap := ⟨_, rfl⟩
  obtain ⟨locs, hLe⟩ : ∃ L : List Loc, L = [] := ⟨_, rfl⟩
  rw [← hHe] at hP
  replace hS : va_S A s.heap H locs := by rw [hHe, hLe]; exact hS
  refine zat hHe.symm hLe.symm ?_
  clear hHe hLe
  refine lv_aload_n (pc := 0) hx hb (zdt_at zt_X9_putLong_0 0 rfl) rfl (lv_at hl 0 rfl) ?_
  refine lv_iload_n (pc := 1) hx hb (zdt_at zt_X9_putLong_0 1 rfl) rfl (lv_at hl 1 rfl) ?_
  refine lv_lload_n (pc := 2) hx hb (zdt_at zt_X9_putLong_0 2 rfl) rfl (lv_at hl 2 rfl) ?_
  refine lv_bipush (pc := 3) (v := (32 : Int32)) hx hb (zdt_at zt_X9_putLong_0 3 rfl) (by decide) ?_
  refine lv_lushr (pc := 5) hx hb (zdt_at zt_X9_putLong_0 4 rfl) rfl ?_
  refine lv_l2i (pc := 6) hx hb (zdt_at zt_X9_putLong_0 5 rfl) rfl ?_
  replace hf := zb_s hf
  obtain ⟨ca0_1, hc_, hf⟩ := hf
  refine zcn2 (pc := 7) (rv := none) (va_runS (As := [.ref ha0, .int p1, .int (((p2.toUInt64 >>> ((32 : Int32).toInt64.toUInt64 &&& Int64.toUInt64 63)).toInt64).toInt32)]) (rest := []) ⟨hx, hb, hml, hown, hts⟩ (c_X9_putInt l D cy tt H.size ha0 n_a0 p1 (((p2.toUInt64 >>> ((32 : Int32).toInt64.toUInt64 &&& Int64.toUInt64 63)).toInt64).toInt32) ca0 ca0_1 hc_) (va_cwS 3 hts gX9_putLong_X9_putInt rfl rfl rfl (by decide +kernel) ⟨Nat.le_of_ble_eq_true rfl, Nat.le_of_ble_eq_true rfl⟩) ⟨zblind, zpre hE hS (hP.sub [0] rfl) (hD.sub [0] (by decide) rfl) (va_free hD hS hA [0] rfl)⟩ rfl rfl hl.1 rfl (lv_room (Nat.le_of_ble_eq_true rfl)) (zdt_at zt_X9_putLong_0 6 rfl) ⟨Nat.zero_le _, Nat.zero_le _⟩) hS hP hD (va_free hD hS hA [0] rfl) [0] rfl (by decide) rfl ?_
  clear hP hD hS hc_
  intro H locs hP hD hS
  replace hP : va_P D vwCl ([(ha0, .inl (cy 0, n_a0, .inl ca0_1))]) H := hP
  replace hD : va_D A ([(ha0, .inl (cy 0, n_a0, .inl ca0_1))]) := hD
  refine W.eq (g2 := F0 m 10 ls []) rfl ?_
  refine lv_aload_n (pc := 10) hx hb (zdt_at zt_X9_putLong_0 7 rfl) rfl (lv_at hl 0 rfl) ?_
  refine lv_iload_n (pc := 11) hx hb (zdt_at zt_X9_putLong_0 8 rfl) rfl (lv_at hl 1 rfl) ?_
  refine lv_iconst (pc := 12) (v := (4 : Int32)) hx hb (zdt_at zt_X9_putLong_0 9 rfl) (by decide) ?_
  refine lv_iadd (pc := 13) hx hb (zdt_at zt_X9_putLong_0 10 rfl) ?_
  refine lv_lload_n (pc := 14) hx hb (zdt_at zt_X9_putLong_0 11 rfl) rfl (lv_at hl 2 rfl) ?_
  refine lv_l2i (pc := 15) hx hb (zdt_at zt_X9_putLong_0 12 rfl) rfl ?_
  replace hf := zb_s hf
  obtain ⟨ca0_2, hc_, hf⟩ := hf
  refine zcn2 (pc := 16) (rv := none) (va_runS (As := [.ref ha0, .int (p1 + (4 : Int32)), .int p2.toInt32]) (rest := []) ⟨hx, hb, hml, hown, hts⟩ (c_X9_putInt l D cy tt H.size ha0 n_a0 (p1 + (4 : Int32)) p2.toInt32 ca0_1 ca0_2 hc_) (va_cwS 3 hts gX9_putLong_X9_putInt rfl rfl rfl (by decide +kernel) ⟨Nat.le_of_ble_eq_true rfl, Nat.le_of_ble_eq_true rfl⟩) ⟨zblind, zpre hE hS (hP.sub [0] rfl) (hD.sub [0] (by decide) rfl) (va_free hD hS hA [0] rfl)⟩ rfl rfl hl.1 rfl (lv_room (Nat.le_of_ble_eq_true rfl)) (zdt_at zt_X9_putLong_0 13 rfl) ⟨Nat.zero_le _, Nat.zero_le _⟩) hS hP hD (va_free hD hS hA [0] rfl) [0] rfl (by decide) rfl ?_
  clear hP hD hS hc_
  intro H locs hP hD hS
  replace hP : va_P D vwCl ([(ha0, .inl (cy 0, n_a0, .inl ca0_2))]) H := hP
  replace hD : va_D A ([(ha0, .inl (cy 0, n_a0, .inl ca0_2))]) := hD
  refine W.eq (g2 := F0 m 19 ls []) rfl ?_
  cases hf
  exact W.vret (pc := 19) hx hb hr (fun t ht hW => ⟨rfl, ⟨by rw [ht]; exact hP, hD⟩, hS.F ht⟩) hS.2.2 (zdt_at zt_X9_putLong_0 14 rfl)
set_option maxHeartbeats 4000000 in
set_option maxRecDepth 100000 in
theorem c_X9_alike (l : Launch) (D : va_G) (cy : Nat → ClassId) (tt : Nat → Nat) (sz : Nat) (ha0 : Nat) (ha2 : Nat) (n_a0 : Nat) (n_a2 : Nat) (p1 : Int32) (p3 : Int32) (p4 : Int32) (ca0 : Nat → Int32) (ca2 : Nat → Int32) (r_ : Int32) (hf : f_X9_alike n_a0 n_a2 p1 p3 p4 ca0 ca2 = some r_) : Met l yX9_alike wsX9_alike ({ frames := 0, cells := 0, slots := 0, locals := 0 }) (zPc D cy tt sz [.ref ha0, .int p1, .ref ha2, .int p3, .int p4] ([(ha0, .inl (cy 0, n_a0, .inl ca0)), (ha2, .inl (cy 0, n_a2, .inl ca2))])) (fun _ st o t => o = .returned (some (.int r_)) ∧ t.heap = st.heap) 0 0 (fun _ => False) := by
  refine Met.ofW (cc := cX9_alike) (maxL := 7) (ret := (some .boolean)) (by decide) rfl ?_
  intro p e s m args below meth c s₁ B hml hv
  obtain ⟨rfl, rfl, hP, hD0, hE⟩ := hv
  have hx := B.exec
  have hb := B.bytes
  have hr := B.returns
  have hts := atoms_spec (ws := wsX9_alike) B.pre
  have hown : s.vm.findClass RX9 = some m.cls := findClass_of_methodNamed B.named
  have hlocks := B.notSynchronized
  clear B
  have hD := hD0.self (sz := s.heap.size)
  generalize hAe : va_A ([(ha0, .inl (cy 0, n_a0, .inl ca0)), (ha2, .inl (cy 0, n_a2, .inl ca2))]) s.heap.size = A at hD hE
  have hA : ∀ q : Nat, s.heap.size ≤ q → A q := fun q h => by rw [← hAe]; exact Or.inr h
  clear hAe hD0
  have hS : va_S A s.heap s.heap [] := va_S.rf
  have hK := hE.1
  have hl := lv_entry ([.ref ha0, .int p1, .ref ha2, .int p3, .int p4]) (n := 7) (Nat.le_of_ble_eq_true rfl)
  rw [lg_entry_eq]
  generalize (lg_sl ([.ref ha0, .int p1, .ref ha2, .int p3, .int p4]) ++ List.replicate (7 - (lg_sl ([.ref ha0, .int p1, .ref ha2, .int p3, .int p4])).length) Slot.unset).toArray = ls at hl ⊢
  replace hl : lv_has ls 7 [(0, .ref ha0), (1, .int p1), (2, .ref ha2), (3, .int p3), (4, .int p4)] := hl
  unfold f_X9_alike at hf
  refine zgo (fun GW hTo hFr => ?_)
  refine hFr _ _ _ ?_
  refine lv_iconst (pc := 0) (v := (0 : Int32)) hx hb (zdt_at zt_X9_alike_0 0 rfl) (by decide) ?_
  refine lv_istore (pc := 1) (lv' := [(5, .int (0 : Int32)), (0, .ref ha0), (1, .int p1), (2, .ref ha2), (3, .int p3), (4, .int p4)]) hx hb (zdt_at zt_X9_alike_0 1 rfl) hl (by decide) rfl ?_
  clear hl
  intro ls hl
  refine lv_iconst (pc := 3) (v := (0 : Int32)) hx hb (zdt_at zt_X9_alike_0 2 rfl) (by decide) ?_
  refine lv_istore (pc := 4) (lv' := [(6, .int (0 : Int32)), (5, .int (0 : Int32)), (0, .ref ha0), (1, .int p1), (2, .ref ha2), (3, .int p3), (4, .int p4)]) hx hb (zdt_at zt_X9_alike_0 3 rfl) hl (by decide) rfl ?_
  clear hl
  intro ls hl
  replace hf := zj_s hf
  obtain ⟨K_4, eK_4, hf⟩ := hf
  have kK_4 : ∀ (v_3 : Int32) (ls : Array Slot), lv_has ls 7 [(5, .int v_3)] → K_4 v_3 = some r_ → GW s.heap [] (F0 m 37 ls []) := by
    clear hf hl
    intro v_3 ls hl hf
    rw [eK_4] at hf
    clear eK_4
    refine hFr _ _ _ ?_
    refine lv_iload (pc := 37) hx hb (zdt_at zt_X9_alike_0 23 rfl) (lv_at hl 0 rfl) ?_
    refine lv_if_ne (pc := 39) (tgt := 46) hx hb (zdt_at zt_X9_alike_0 24 rfl) (by decide) (fun cn_ => ?t_5) (fun cn_ => ?f_6)
    case t_5 =>
      replace hf := ze_s cn_ hf
      clear cn_
      refine lv_iconst (pc := 46) (v := (0 : Int32)) hx hb (zdt_at zt_X9_alike_0 27 rfl) (by decide) ?_
      cases hf
      exact W.zret (pc := 47) hx hb hr rfl (fun t ht hW => ⟨rfl, ht⟩) (fun _ h => nomatch h) (zdt_at zt_X9_alike_0 28 rfl)
    replace hf := zt_s cn_ hf
    clear cn_
    refine lv_iconst (pc := 42) (v := (1 : Int32)) hx hb (zdt_at zt_X9_alike_0 25 rfl) (by decide) ?_
    refine lv_goto (pc := 43) (tgt := 47) hx hb (zdt_at zt_X9_alike_0 26 rfl) (by decide) ?_
    cases hf
    exact W.zret (pc := 47) hx hb hr rfl (fun t ht hW => ⟨rfl, ht⟩) (fun _ h => nomatch h) (zdt_at zt_X9_alike_0 28 rfl)
  clear eK_4
  refine hTo _ _ _ (zl_go (fun z => match z with | (i_1, i_2) => ∀ (ls : Array Slot), lv_has ls 7 [(0, .ref ha0), (1, .int p1), (2, .ref ha2), (3, .int p3), (4, .int p4), (5, .int i_1), (6, .int i_2)] → GW s.heap [] (F0 m 6 ls [])) hf ?_ ls (lv_sub hl [2, 3, 4, 5, 6, 1, 0] rfl))
  clear hf hl
  intro self_7 ihself_7 z hf
  obtain ⟨i_1, i_2⟩ := z
  intro ls hl
  refine hFr _ _ _ ?_
  unfold b_X9_alike_6 at hf
  refine lv_iload (pc := 6) hx hb (zdt_at zt_X9_alike_0 4 rfl) (lv_at hl 6 rfl) ?_
  refine lv_iload (pc := 8) hx hb (zdt_at zt_X9_alike_0 5 rfl) (lv_at hl 4 rfl) ?_
  refine lv_icmp_ge (pc := 10) (tgt := 37) hx hb (zdt_at zt_X9_alike_0 6 rfl) (by decide) (fun cn_ => ?t_8) (fun cn_ => ?f_9)
  case t_8 =>
    replace hf := zt_s cn_ hf
    clear cn_
    exact hTo _ _ _ (kK_4 _ ls (lv_sub hl [5] rfl) hf)
  replace hf := ze_s cn_ hf
  clear cn_
  refine lv_iload (pc := 13) hx hb (zdt_at zt_X9_alike_0 7 rfl) (lv_at hl 5 rfl) ?_
  refine lv_aload_n (pc := 15) hx hb (zdt_at zt_X9_alike_0 8 rfl) rfl (lv_at hl 0 rfl) ?_
  refine lv_iload_n (pc := 16) hx hb (zdt_at zt_X9_alike_0 9 rfl) rfl (lv_at hl 1 rfl) ?_
  refine lv_iload (pc := 17) hx hb (zdt_at zt_X9_alike_0 10 rfl) (lv_at hl 6 rfl) ?_
  refine lv_iadd (pc := 19) hx hb (zdt_at zt_X9_alike_0 11 rfl) ?_
  replace hf := zk_s hf
  refine va_bald (pc := 20) hx hb hK hP 0 0 rfl rfl hf.1 (zdt_at zt_X9_alike_0 12 rfl) ?_
  replace hf := hf.2
  refine lv_aload_n (pc := 21) hx hb (zdt_at zt_X9_alike_0 13 rfl) rfl (lv_at hl 2 rfl) ?_
  refine lv_iload_n (pc := 22) hx hb (zdt_at zt_X9_alike_0 14 rfl) rfl (lv_at hl 3 rfl) ?_
  refine lv_iload (pc := 23) hx hb (zdt_at zt_X9_alike_0 15 rfl) (lv_at hl 6 rfl) ?_
  refine lv_iadd (pc := 25) hx hb (zdt_at zt_X9_alike_0 16 rfl) ?_
  replace hf := zk_s hf
  refine va_bald (pc := 26) hx hb hK hP 1 0 rfl rfl hf.1 (zdt_at zt_X9_alike_0 17 rfl) ?_
  replace hf := hf.2
  refine lv_ixor (pc := 27) hx hb (zdt_at zt_X9_alike_0 18 rfl) ?_
  refine lv_ior (pc := 28) hx hb (zdt_at zt_X9_alike_0 19 rfl) ?_
  refine lv_topi (fun x_10 e_ => ?_)
  replace hf := zn_s hf e_
  clear e_
  refine lv_istore (pc := 29) (lv' := [(5, .int x_10), (0, .ref ha0), (1, .int p1), (2, .ref ha2), (3, .int p3), (4, .int p4), (6, .int i_2)]) hx hb (zdt_at zt_X9_alike_0 20 rfl) hl (by decide) rfl ?_
  clear hl
  intro ls hl
  refine lv_iinc (pc := 31) (v := (i_2 + (1 : Int32))) (lv' := [(6, .int (i_2 + (1 : Int32))), (5, .int x_10), (0, .ref ha0), (1, .int p1), (2, .ref ha2), (3, .int p3), (4, .int p4)]) hx hb (zdt_at zt_X9_alike_0 21 rfl) hl (k := 6) rfl rfl (by decide) rfl ?_
  clear hl
  intro ls hl
  refine lv_goto (pc := 34) (tgt := 6) hx hb (zdt_at zt_X9_alike_0 22 rfl) (by decide) ?_
  exact hTo _ _ _ (ihself_7 _ hf ls (lv_sub hl [2, 3, 4, 5, 6, 1, 0] rfl))
set_option maxHeartbeats 4000000 in
set_option maxRecDepth 100000 in
theorem c_X9_xorBytes (l : Launch) (D : va_G) (cy : Nat → ClassId) (tt : Nat → Nat) (sz : Nat) (ha0 : Nat) (ha2 : Nat) (n_a0 : Nat) (n_a2 : Nat) (p1 : Int32) (p3 : Int32) (p4 : Int32) (ca0 : Nat → Int32) (ca2 : Nat → Int32) (ca2' : Nat → Int32) (hf : f_X9_xorBytes n_a0 n_a2 p1 p3 p4 ca0 ca2 = some ca2') : Met l yX9_xorBytes wsX9_xorBytes ({ frames := 0, cells := 0, slots := 0, locals := 0 }) (zPc D cy tt sz [.ref ha0, .int p1, .ref ha2, .int p3, .int p4] ([(ha0, .inl (cy 0, n_a0, .inl ca0)), (ha2, .inl (cy 0, n_a2, .inl ca2))])) (zQ D none ([(ha0, .inl (cy 0, n_a0, .inl ca0)), (ha2, .inl (cy 0, n_a2, .inl ca2'))]) (va_A ([(ha0, .inl (cy 0, n_a0, .inl ca0)), (ha2, .inl (cy 0, n_a2, .inl ca2))]) sz)) 0 0 (va_A ([(ha0, .inl (cy 0, n_a0, .inl ca0)), (ha2, .inl (cy 0, n_a2, .inl ca2))]) sz) := by
  refine Met.ofW (cc := cX9_xorBytes) (maxL := 6) (ret := none) (by decide) rfl ?_
  intro p e s m args below meth c s₁ B hml hv
  obtain ⟨rfl, rfl, hP, hD0, hE⟩ := hv
  have hx := B.exec
  have hb := B.bytes
  have hr := B.returns
  have hts := atoms_spec (ws := wsX9_xorBytes) B.pre
  have hown : s.vm.findClass RX9 = some m.cls := findClass_of_methodNamed B.named
  have hlocks := B.notSynchronized
  clear B
  have hD := hD0.self (sz := s.heap.size)
  generalize hAe : va_A ([(ha0, .inl (cy 0, n_a0, .inl ca0)), (ha2, .inl (cy 0, n_a2, .inl ca2))]) s.heap.size = A at hD hE ⊢
  have hA : ∀ q : Nat, s.heap.size ≤ q → A q := fun q h => by rw [← hAe]; exact Or.inr h
  clear hAe hD0
  have hS : va_S A s.heap s.heap [] := va_S.rf
  have hK := hE.1
  have hl := lv_entry ([.ref ha0, .int p1, .ref ha2, .int p3, .int p4]) (n := 6) (Nat.le_of_ble_eq_true rfl)
  rw [lg_entry_eq]
  generalize (lg_sl ([.ref ha0, .int p1, .ref ha2, .int p3, .int p4]) ++ List.replicate (6 - (lg_sl ([.ref ha0, .int p1, .ref ha2, .int p3, .int p4])).length) Slot.unset).toArray = ls at hl ⊢
  replace hl : lv_has ls 6 [(0, .ref ha0), (1, .int p1), (2, .ref ha2), (3, .int p3), (4, .int p4)] := hl
  unfold f_X9_xorBytes at hf
  refine zgo (fun GW hTo hFr => ?_)
  refine hFr _ _ _ ?_
  obtain ⟨H, hHe⟩ : ∃ H, H = s.heap := ⟨_, rfl⟩
  obtain ⟨locs, hLe⟩ : ∃ L : List Loc, L = [] := ⟨_, rfl⟩
  rw [← hHe] at hP
  replace hS : va_S A s.heap H locs := by rw [hHe, hLe]; exact hS
  refine zat hHe.symm hLe.symm ?_
  clear hHe hLe
  refine lv_iconst (pc := 0) (v := (0 : Int32)) hx hb (zdt_at zt_X9_xorBytes_0 0 rfl) (by decide) ?_
  refine lv_istore (pc := 1) (lv' := [(5, .int (0 : Int32)), (0, .ref ha0), (1, .int p1), (2, .ref ha2), (3, .int p3), (4, .int p4)]) hx hb (zdt_at zt_X9_xorBytes_0 1 rfl) hl (by decide) rfl ?_
  clear hl
  intro ls hl
  replace hf := zj_s hf
  obtain ⟨K_4, eK_4, hf⟩ := hf
  have kK_4 : ∀ (ca2_3 : Nat → Int32) (H : Heap) (locs : List Loc) (ls : Array Slot), va_P D vwCl ([(ha0, .inl (cy 0, n_a0, .inl ca0)), (ha2, .inl (cy 0, n_a2, .inl ca2_3))]) H → va_D A ([(ha0, .inl (cy 0, n_a0, .inl ca0)), (ha2, .inl (cy 0, n_a2, .inl ca2_3))]) → va_S A s.heap H locs → lv_has ls 6 [] → K_4 ca2_3 = some ca2' → GW H locs (F0 m 32 ls []) := by
    clear hf hl hP hD hS
    intro ca2_3 H locs ls hP hD hS hl hf
    rw [eK_4] at hf
    clear eK_4
    refine hFr _ _ _ ?_
    cases hf
    exact W.vret (pc := 32) hx hb hr (fun t ht hW => ⟨rfl, ⟨by rw [ht]; exact hP, hD⟩, hS.F ht⟩) hS.2.2 (zdt_at zt_X9_xorBytes_0 21 rfl)
  clear eK_4
  refine hTo _ _ _ (zl_go (fun z => match z with | (i_1, ca2_2) => ∀ (H : Heap) (locs : List Loc) (ls : Array Slot), va_P D vwCl ([(ha0, .inl (cy 0, n_a0, .inl ca0)), (ha2, .inl (cy 0, n_a2, .inl ca2_2))]) H → va_D A ([(ha0, .inl (cy 0, n_a0, .inl ca0)), (ha2, .inl (cy 0, n_a2, .inl ca2_2))]) → va_S A s.heap H locs → lv_has ls 6 [(0, .ref ha0), (1, .int p1), (2, .ref ha2), (3, .int p3), (4, .int p4), (5, .int i_1)] → GW H locs (F0 m 3 ls [])) hf ?_ H locs ls hP hD hS (lv_sub hl [1, 2, 3, 4, 5, 0] rfl))
  clear hf hl hP hD hS
  intro self_5 ihself_5 z hf
  obtain ⟨i_1, ca2_2⟩ := z
  intro H locs ls hP hD hS hl
  refine hFr _ _ _ ?_
  unfold b_X9_xorBytes_3 at hf
  refine lv_iload (pc := 3) hx hb (zdt_at zt_X9_xorBytes_0 2 rfl) (lv_at hl 5 rfl) ?_
  refine lv_iload (pc := 5) hx hb (zdt_at zt_X9_xorBytes_0 3 rfl) (lv_at hl 4 rfl) ?_
  refine lv_icmp_ge (pc := 7) (tgt := 32) hx hb (zdt_at zt_X9_xorBytes_0 4 rfl) (by decide) (fun cn_ => ?t_6) (fun cn_ => ?f_7)
  case t_6 =>
    replace hf := zt_s cn_ hf
    clear cn_
    exact hTo _ _ _ (kK_4 _ H locs ls hP hD hS (lv_sub hl [] rfl) hf)
  replace hf := ze_s cn_ hf
  clear cn_
  refine lv_aload_n (pc := 10) hx hb (zdt_at zt_X9_xorBytes_0 5 rfl) rfl (lv_at hl 2 rfl) ?_
  refine lv_iload_n (pc := 11) hx hb (zdt_at zt_X9_xorBytes_0 6 rfl) rfl (lv_at hl 3 rfl) ?_
  refine lv_iload (pc := 12) hx hb (zdt_at zt_X9_xorBytes_0 7 rfl) (lv_at hl 5 rfl) ?_
  refine lv_iadd (pc := 14) hx hb (zdt_at zt_X9_xorBytes_0 8 rfl) ?_
  refine lv_dup2_11 (pc := 15) hx hb (zdt_at zt_X9_xorBytes_0 9 rfl) rfl rfl ?_
  replace hf := zk_s hf
  refine va_bald (pc := 16) hx hb hK hP 1 0 rfl rfl hf.1 (zdt_at zt_X9_xorBytes_0 10 rfl) ?_
  replace hf := hf.2
  refine lv_aload_n (pc := 17) hx hb (zdt_at zt_X9_xorBytes_0 11 rfl) rfl (lv_at hl 0 rfl) ?_
  refine lv_iload_n (pc := 18) hx hb (zdt_at zt_X9_xorBytes_0 12 rfl) rfl (lv_at hl 1 rfl) ?_
  refine lv_iload (pc := 19) hx hb (zdt_at zt_X9_xorBytes_0 13 rfl) (lv_at hl 5 rfl) ?_
  refine lv_iadd (pc := 21) hx hb (zdt_at zt_X9_xorBytes_0 14 rfl) ?_
  replace hf := zk_s hf
  refine va_bald (pc := 22) hx hb hK hP 0 0 rfl rfl hf.1 (zdt_at zt_X9_xorBytes_0 15 rfl) ?_
  replace hf := hf.2
  refine lv_ixor (pc := 23) hx hb (zdt_at zt_X9_xorBytes_0 16 rfl) ?_
  refine lv_i2b (pc := 24) hx hb (zdt_at zt_X9_xorBytes_0 17 rfl) rfl ?_
  replace hf := zk_s hf
  refine va_bast (pc := 25) hx hb hK hP hD hS 1 0 rfl rfl hf.1 (zdt_at zt_X9_xorBytes_0 18 rfl) ?_
  replace hf := hf.2
  clear hP hD hS
  intro H locs hP hD hS
  obtain ⟨ca2_8, e_⟩ : ∃ q : Nat → Int32, q = (upd ca2_2 (p3 + i_1).toNatClampNeg (vp_nar .byte (((ca2_2 (p3 + i_1).toNatClampNeg) ^^^ (ca0 (p1 + i_1).toNatClampNeg)).toInt8.toInt32))) := ⟨_, rfl⟩
  replace hf := zn_s hf e_
  replace hP : va_P D vwCl ([(ha0, .inl (cy 0, n_a0, .inl ca0)), (ha2, .inl (cy 0, n_a2, .inl ca2_8))]) H := by rw [e_]; exact hP
  replace hD : va_D A ([(ha0, .inl (cy 0, n_a0, .inl ca0)), (ha2, .inl (cy 0, n_a2, .inl ca2_8))]) := by rw [e_]; exact hD
  clear e_
  refine lv_iinc (pc := 26) (v := (i_1 + (1 : Int32))) (lv' := [(5, .int (i_1 + (1 : Int32))), (0, .ref ha0), (1, .int p1), (2, .ref ha2), (3, .int p3), (4, .int p4)]) hx hb (zdt_at zt_X9_xorBytes_0 19 rfl) hl (k := 5) rfl rfl (by decide) rfl ?_
  clear hl
  intro ls hl
  refine lv_goto (pc := 29) (tgt := 3) hx hb (zdt_at zt_X9_xorBytes_0 20 rfl) (by decide) ?_
  exact hTo _ _ _ (ihself_5 _ hf H locs ls hP hD hS (lv_sub hl [1, 2, 3, 4, 5, 0] rfl))
