set_option maxHeartbeats 4000000 in
set_option maxRecDepth 100000 in
theorem c_X10_isRoom (l : Launch) (D : va_G) (cy : Nat → ClassId) (tt : Nat → Nat) (sz : Nat) (p0 : Int32) (p1 : Int32) (p2 : Int32) (p3 : Int32) (r_ : Int32) (hf : f_X10_isRoom p0 p1 p2 p3 = some r_) : Met l yX10_isRoom wsX10_isRoom ({ frames := 1, cells := 0, slots := 0, locals := 22 }) (zPc D cy tt sz [.int p0, .int p1, .int p2, .int p3] ([])) (fun _ st o t => o = .returned (some (.int r_)) ∧ t.heap = st.heap) 0 0 (fun _ => False) := by
  refine Met.ofW (cc := cX10_isRoom) (maxL := 4) (ret := (some .boolean)) (by decide) rfl ?_
  intro p e s m args below meth c s₁ B hml hv
  obtain ⟨rfl, rfl, hP, hD0, hE⟩ := hv
  have hx := B.exec
  have hb := B.bytes
  have hr := B.returns
  have hts := atoms_spec (ws := wsX10_isRoom) B.pre
  have hown : s.vm.findClass RX10 = some m.cls := findClass_of_methodNamed B.named
  have hlocks := B.notSynchronized
  clear B
  have hD := hD0.self (sz := s.heap.size)
  generalize hAe : va_A ([]) s.heap.size = A at hD hE
  have hA : ∀ q : Nat, s.heap.size ≤ q → A q := fun q h => by rw [← hAe]; exact Or.inr h
  clear hAe hD0
  have hS : va_S A s.heap s.heap [] := va_S.rf
  have hK := hE.1
  have hl := lv_entry ([.int p0, .int p1, .int p2, .int p3]) (n := 4) (Nat.le_of_ble_eq_true rfl)
  rw [lg_entry_eq]
  generalize (lg_sl ([.int p0, .int p1, .int p2, .int p3]) ++ List.replicate (4 - (lg_sl ([.int p0, .int p1, .int p2, .int p3])).length) Slot.unset).toArray = ls at hl ⊢
  replace hl : lv_has ls 4 [(0, .int p0), (1, .int p1), (2, .int p2), (3, .int p3)] := hl
  unfold f_X10_isRoom at hf
  refine zgo (fun GW hTo hFr => ?_)
  refine hFr _ _ _ ?_
  refine lv_iload_n (pc := 0) hx hb (zdt_at zt_X10_isRoom_0 0 rfl) rfl (lv_at hl 1 rfl) ?_
  refine lv_if_lt (pc := 1) (tgt := 24) hx hb (zdt_at zt_X10_isRoom_0 1 rfl) (by decide) (fun cn_ => ?t_1) (fun cn_ => ?f_2)
  case t_1 =>
    replace hf := zt_s cn_ hf
    clear cn_
    refine lv_iconst (pc := 24) (v := (0 : Int32)) hx hb (zdt_at zt_X10_isRoom_0 12 rfl) (by decide) ?_
    cases hf
    exact W.zret (pc := 25) hx hb hr rfl (fun t ht hW => ⟨rfl, ht⟩) (fun _ h => nomatch h) (zdt_at zt_X10_isRoom_0 13 rfl)
  replace hf := ze_s cn_ hf
  clear cn_
  refine lv_iload_n (pc := 4) hx hb (zdt_at zt_X10_isRoom_0 2 rfl) rfl (lv_at hl 2 rfl) ?_
  refine lv_if_lt (pc := 5) (tgt := 24) hx hb (zdt_at zt_X10_isRoom_0 3 rfl) (by decide) (fun cn_ => ?t_3) (fun cn_ => ?f_4)
  case t_3 =>
    replace hf := zt_s cn_ hf
    clear cn_
    refine lv_iconst (pc := 24) (v := (0 : Int32)) hx hb (zdt_at zt_X10_isRoom_0 12 rfl) (by decide) ?_
    cases hf
    exact W.zret (pc := 25) hx hb hr rfl (fun t ht hW => ⟨rfl, ht⟩) (fun _ h => nomatch h) (zdt_at zt_X10_isRoom_0 13 rfl)
  replace hf := ze_s cn_ hf
  clear cn_
  refine lv_iload_n (pc := 8) hx hb (zdt_at zt_X10_isRoom_0 4 rfl) rfl (lv_at hl 1 rfl) ?_
  refine lv_sipush (pc := 9) (v := (512 : Int32)) hx hb (zdt_at zt_X10_isRoom_0 5 rfl) (by decide) ?_
  refine lv_icmp_gt (pc := 12) (tgt := 24) hx hb (zdt_at zt_X10_isRoom_0 6 rfl) (by decide) (fun cn_ => ?t_5) (fun cn_ => ?f_6)
  case t_5 =>
    replace hf := zt_s cn_ hf
    clear cn_
    refine lv_iconst (pc := 24) (v := (0 : Int32)) hx hb (zdt_at zt_X10_isRoom_0 12 rfl) (by decide) ?_
    cases hf
    exact W.zret (pc := 25) hx hb hr rfl (fun t ht hW => ⟨rfl, ht⟩) (fun _ h => nomatch h) (zdt_at zt_X10_isRoom_0 13 rfl)
  replace hf := ze_s cn_ hf
  clear cn_
  refine lv_iload_n (pc := 15) hx hb (zdt_at zt_X10_isRoom_0 7 rfl) rfl (lv_at hl 2 rfl) ?_
  refine lv_sipush (pc := 16) (v := (512 : Int32)) hx hb (zdt_at zt_X10_isRoom_0 8 rfl) (by decide) ?_
  refine lv_iload_n (pc := 19) hx hb (zdt_at zt_X10_isRoom_0 9 rfl) rfl (lv_at hl 1 rfl) ?_
  refine lv_isub (pc := 20) hx hb (zdt_at zt_X10_isRoom_0 10 rfl) ?_
  refine lv_icmp_le (pc := 21) (tgt := 26) hx hb (zdt_at zt_X10_isRoom_0 11 rfl) (by decide) (fun cn_ => ?t_7) (fun cn_ => ?f_8)
  case f_8 =>
    replace hf := ze_s cn_ hf
    clear cn_
    refine lv_iconst (pc := 24) (v := (0 : Int32)) hx hb (zdt_at zt_X10_isRoom_0 12 rfl) (by decide) ?_
    cases hf
    exact W.zret (pc := 25) hx hb hr rfl (fun t ht hW => ⟨rfl, ht⟩) (fun _ h => nomatch h) (zdt_at zt_X10_isRoom_0 13 rfl)
  replace hf := zt_s cn_ hf
  clear cn_
  refine lv_iload_n (pc := 26) hx hb (zdt_at zt_X10_isRoom_0 14 rfl) rfl (lv_at hl 0 rfl) ?_
  refine lv_bipush (pc := 27) (v := (6 : Int32)) hx hb (zdt_at zt_X10_isRoom_0 15 rfl) (by decide) ?_
  replace hf := zj_s hf
  obtain ⟨K_9, eK_9, hf⟩ := hf
  have kK_9 : ∀  (ls : Array Slot), lv_has ls 4 [(0, .int p0), (1, .int p1), (2, .int p2), (3, .int p3)] → K_9 () = some r_ → GW s.heap [] (F0 m 48 ls []) := by
    clear hf hl
    intro  ls hl hf
    rw [eK_9] at hf
    clear eK_9
    refine hFr _ _ _ ?_
    refine lv_iload_n (pc := 48) hx hb (zdt_at zt_X10_isRoom_0 25 rfl) rfl (lv_at hl 3 rfl) ?_
    refine lv_iconst (pc := 49) (v := (0 : Int32)) hx hb (zdt_at zt_X10_isRoom_0 26 rfl) (by decide) ?_
    refine lv_bipush (pc := 50) (v := (64 : Int32)) hx hb (zdt_at zt_X10_isRoom_0 27 rfl) (by decide) ?_
    replace hf := zb_s hf
    obtain ⟨r_10, hc_, hf⟩ := hf
    refine zcs (pc := 52) (rv := (some (.int r_10))) (va_runS (As := [.int p3, .int (0 : Int32), .int (64 : Int32)]) (rest := []) ⟨hx, hb, hml, hown, hts⟩ (c_X10_in l D cy tt s.heap.size p3 (0 : Int32) (64 : Int32) r_10 hc_) (va_cwS 3 hts gX10_isRoom_X10_in rfl rfl rfl (by decide +kernel) ⟨Nat.le_of_ble_eq_true rfl, Nat.le_of_ble_eq_true rfl⟩) ⟨zblind, zpre hE hS (hP.sub [] rfl) (hD.sub [] (by decide) rfl) (va_free hD hS hA [] rfl)⟩ rfl rfl hl.1 rfl (lv_room (Nat.le_of_ble_eq_true rfl)) (zdt_at zt_X10_isRoom_0 28 rfl) ⟨Nat.zero_le _, Nat.zero_le _⟩) ?_
    clear hc_
    refine W.eq (g2 := F0 m 55 ls [.int r_10]) rfl ?_
    refine lv_if_ne (pc := 55) (tgt := 60) hx hb (zdt_at zt_X10_isRoom_0 29 rfl) (by decide) (fun cn_ => ?t_11) (fun cn_ => ?f_12)
    case f_12 =>
      replace hf := zt_s cn_ hf
      clear cn_
      refine lv_iconst (pc := 58) (v := (0 : Int32)) hx hb (zdt_at zt_X10_isRoom_0 30 rfl) (by decide) ?_
      cases hf
      exact W.zret (pc := 59) hx hb hr rfl (fun t ht hW => ⟨rfl, ht⟩) (fun _ h => nomatch h) (zdt_at zt_X10_isRoom_0 31 rfl)
    replace hf := ze_s cn_ hf
    clear cn_
    refine lv_iload_n (pc := 60) hx hb (zdt_at zt_X10_isRoom_0 32 rfl) rfl (lv_at hl 0 rfl) ?_
    by_cases hs_15 : p0 = (1 : Int32) ∨ p0 = (2 : Int32)
    · replace hf := zt_s hs_15 hf
      have kd_16 : GW s.heap [] (F0 m 120 ls []) := by
        refine hFr _ _ _ ?_
        clear hs_15
        refine lv_iload_n (pc := 120) hx hb (zdt_at zt_X10_isRoom_0 34 rfl) rfl (lv_at hl 2 rfl) ?_
        refine lv_bipush (pc := 121) (v := (16 : Int32)) hx hb (zdt_at zt_X10_isRoom_0 35 rfl) (by decide) ?_
        replace hf := zk_s hf
        refine lv_irem (pc := 123) hx hb (zdt_at zt_X10_isRoom_0 36 rfl) hf.1 ?_
        replace hf := hf.2
        refine lv_if_ne (pc := 124) (tgt := 131) hx hb (zdt_at zt_X10_isRoom_0 37 rfl) (by decide) (fun cn_ => ?t_13) (fun cn_ => ?f_14)
        case t_13 =>
          replace hf := ze_s cn_ hf
          clear cn_
          refine lv_iconst (pc := 131) (v := (0 : Int32)) hx hb (zdt_at zt_X10_isRoom_0 40 rfl) (by decide) ?_
          cases hf
          exact W.zret (pc := 132) hx hb hr rfl (fun t ht hW => ⟨rfl, ht⟩) (fun _ h => nomatch h) (zdt_at zt_X10_isRoom_0 41 rfl)
        replace hf := zt_s cn_ hf
        clear cn_
        refine lv_iconst (pc := 127) (v := (1 : Int32)) hx hb (zdt_at zt_X10_isRoom_0 38 rfl) (by decide) ?_
        refine lv_goto (pc := 128) (tgt := 132) hx hb (zdt_at zt_X10_isRoom_0 39 rfl) (by decide) ?_
        cases hf
        exact W.zret (pc := 132) hx hb hr rfl (fun t ht hW => ⟨rfl, ht⟩) (fun _ h => nomatch h) (zdt_at zt_X10_isRoom_0 41 rfl)
      rcases hs_15 with hs_15 | hs_15
      all_goals exact lv_tableIn (pc := 61) (tgt := 120) (off := 59) hx hb (zdt_at zt_X10_isRoom_0 33 rfl) (by rw [hs_15]; decide) (by rw [hs_15]; decide) (by rw [hs_15]; rfl) (by decide) (hTo _ _ _ kd_16)
    replace hf := ze_s hs_15 hf
    by_cases hs_21 : p0 = (3 : Int32) ∨ p0 = (4 : Int32)
    · replace hf := zt_s hs_21 hf
      have kd_22 : GW s.heap [] (F0 m 133 ls []) := by
        refine hFr _ _ _ ?_
        clear hs_21
        refine lv_iload_n (pc := 133) hx hb (zdt_at zt_X10_isRoom_0 42 rfl) rfl (lv_at hl 2 rfl) ?_
        refine lv_bipush (pc := 134) (v := (16 : Int32)) hx hb (zdt_at zt_X10_isRoom_0 43 rfl) (by decide) ?_
        replace hf := zk_s hf
        refine lv_irem (pc := 136) hx hb (zdt_at zt_X10_isRoom_0 44 rfl) hf.1 ?_
        replace hf := hf.2
        refine lv_if_ne (pc := 137) (tgt := 148) hx hb (zdt_at zt_X10_isRoom_0 45 rfl) (by decide) (fun cn_ => ?t_17) (fun cn_ => ?f_18)
        case t_17 =>
          replace hf := ze_s cn_ hf
          clear cn_
          refine lv_iconst (pc := 148) (v := (0 : Int32)) hx hb (zdt_at zt_X10_isRoom_0 50 rfl) (by decide) ?_
          cases hf
          exact W.zret (pc := 149) hx hb hr rfl (fun t ht hW => ⟨rfl, ht⟩) (fun _ h => nomatch h) (zdt_at zt_X10_isRoom_0 51 rfl)
        replace hf := zt_s cn_ hf
        clear cn_
        refine lv_iload_n (pc := 140) hx hb (zdt_at zt_X10_isRoom_0 46 rfl) rfl (lv_at hl 2 rfl) ?_
        refine lv_if_le (pc := 141) (tgt := 148) hx hb (zdt_at zt_X10_isRoom_0 47 rfl) (by decide) (fun cn_ => ?t_19) (fun cn_ => ?f_20)
        case t_19 =>
          replace hf := zt_s cn_ hf
          clear cn_
          refine lv_iconst (pc := 148) (v := (0 : Int32)) hx hb (zdt_at zt_X10_isRoom_0 50 rfl) (by decide) ?_
          cases hf
          exact W.zret (pc := 149) hx hb hr rfl (fun t ht hW => ⟨rfl, ht⟩) (fun _ h => nomatch h) (zdt_at zt_X10_isRoom_0 51 rfl)
        replace hf := ze_s cn_ hf
        clear cn_
        refine lv_iconst (pc := 144) (v := (1 : Int32)) hx hb (zdt_at zt_X10_isRoom_0 48 rfl) (by decide) ?_
        refine lv_goto (pc := 145) (tgt := 149) hx hb (zdt_at zt_X10_isRoom_0 49 rfl) (by decide) ?_
        cases hf
        exact W.zret (pc := 149) hx hb hr rfl (fun t ht hW => ⟨rfl, ht⟩) (fun _ h => nomatch h) (zdt_at zt_X10_isRoom_0 51 rfl)
      rcases hs_21 with hs_21 | hs_21
      all_goals exact lv_tableIn (pc := 61) (tgt := 133) (off := 72) hx hb (zdt_at zt_X10_isRoom_0 33 rfl) (by rw [hs_21]; decide) (by rw [hs_21]; decide) (by rw [hs_21]; rfl) (by decide) (hTo _ _ _ kd_22)
    replace hf := ze_s hs_21 hf
    by_cases hs_25 : p0 = (5 : Int32)
    · replace hf := zt_s hs_25 hf
      refine lv_tableIn (pc := 61) (tgt := 150) (off := 89) hx hb (zdt_at zt_X10_isRoom_0 33 rfl) (by rw [hs_25]; decide) (by rw [hs_25]; decide) (by rw [hs_25]; rfl) (by decide) ?_
      clear hs_25
      refine lv_iload_n (pc := 150) hx hb (zdt_at zt_X10_isRoom_0 52 rfl) rfl (lv_at hl 2 rfl) ?_
      refine lv_bipush (pc := 151) (v := (15 : Int32)) hx hb (zdt_at zt_X10_isRoom_0 53 rfl) (by decide) ?_
      refine lv_icmp_le (pc := 153) (tgt := 160) hx hb (zdt_at zt_X10_isRoom_0 54 rfl) (by decide) (fun cn_ => ?t_23) (fun cn_ => ?f_24)
      case t_23 =>
        replace hf := zt_s cn_ hf
        clear cn_
        refine lv_iconst (pc := 160) (v := (0 : Int32)) hx hb (zdt_at zt_X10_isRoom_0 57 rfl) (by decide) ?_
        cases hf
        exact W.zret (pc := 161) hx hb hr rfl (fun t ht hW => ⟨rfl, ht⟩) (fun _ h => nomatch h) (zdt_at zt_X10_isRoom_0 58 rfl)
      replace hf := ze_s cn_ hf
      clear cn_
      refine lv_iconst (pc := 156) (v := (1 : Int32)) hx hb (zdt_at zt_X10_isRoom_0 55 rfl) (by decide) ?_
      refine lv_goto (pc := 157) (tgt := 161) hx hb (zdt_at zt_X10_isRoom_0 56 rfl) (by decide) ?_
      cases hf
      exact W.zret (pc := 161) hx hb hr rfl (fun t ht hW => ⟨rfl, ht⟩) (fun _ h => nomatch h) (zdt_at zt_X10_isRoom_0 58 rfl)
    replace hf := ze_s hs_25 hf
    by_cases hs_30 : p0 = (6 : Int32)
    · replace hf := zt_s hs_30 hf
      refine lv_tableIn (pc := 61) (tgt := 162) (off := 101) hx hb (zdt_at zt_X10_isRoom_0 33 rfl) (by rw [hs_30]; decide) (by rw [hs_30]; decide) (by rw [hs_30]; rfl) (by decide) ?_
      clear hs_30
      refine lv_iload_n (pc := 162) hx hb (zdt_at zt_X10_isRoom_0 59 rfl) rfl (lv_at hl 2 rfl) ?_
      refine lv_bipush (pc := 163) (v := (12 : Int32)) hx hb (zdt_at zt_X10_isRoom_0 60 rfl) (by decide) ?_
      refine lv_iload_n (pc := 165) hx hb (zdt_at zt_X10_isRoom_0 61 rfl) rfl (lv_at hl 3 rfl) ?_
      refine lv_iadd (pc := 166) hx hb (zdt_at zt_X10_isRoom_0 62 rfl) ?_
      refine lv_icmp_lt (pc := 167) (tgt := 186) hx hb (zdt_at zt_X10_isRoom_0 63 rfl) (by decide) (fun cn_ => ?t_26) (fun cn_ => ?f_27)
      case t_26 =>
        replace hf := zt_s cn_ hf
        clear cn_
        refine lv_iconst (pc := 186) (v := (0 : Int32)) hx hb (zdt_at zt_X10_isRoom_1 9 rfl) (by decide) ?_
        cases hf
        exact W.zret (pc := 187) hx hb hr rfl (fun t ht hW => ⟨rfl, ht⟩) (fun _ h => nomatch h) (zdt_at zt_X10_isRoom_1 10 rfl)
      replace hf := ze_s cn_ hf
      clear cn_
      refine lv_iload_n (pc := 170) hx hb (zdt_at zt_X10_isRoom_1 0 rfl) rfl (lv_at hl 1 rfl) ?_
      refine lv_iload_n (pc := 171) hx hb (zdt_at zt_X10_isRoom_1 1 rfl) rfl (lv_at hl 2 rfl) ?_
      refine lv_iadd (pc := 172) hx hb (zdt_at zt_X10_isRoom_1 2 rfl) ?_
      refine lv_bipush (pc := 173) (v := (16 : Int32)) hx hb (zdt_at zt_X10_isRoom_1 3 rfl) (by decide) ?_
      refine lv_iadd (pc := 175) hx hb (zdt_at zt_X10_isRoom_1 4 rfl) ?_
      refine lv_sipush (pc := 176) (v := (512 : Int32)) hx hb (zdt_at zt_X10_isRoom_1 5 rfl) (by decide) ?_
      refine lv_icmp_gt (pc := 179) (tgt := 186) hx hb (zdt_at zt_X10_isRoom_1 6 rfl) (by decide) (fun cn_ => ?t_28) (fun cn_ => ?f_29)
      case t_28 =>
        replace hf := zt_s cn_ hf
        clear cn_
        refine lv_iconst (pc := 186) (v := (0 : Int32)) hx hb (zdt_at zt_X10_isRoom_1 9 rfl) (by decide) ?_
        cases hf
        exact W.zret (pc := 187) hx hb hr rfl (fun t ht hW => ⟨rfl, ht⟩) (fun _ h => nomatch h) (zdt_at zt_X10_isRoom_1 10 rfl)
      replace hf := ze_s cn_ hf
      clear cn_
      refine lv_iconst (pc := 182) (v := (1 : Int32)) hx hb (zdt_at zt_X10_isRoom_1 7 rfl) (by decide) ?_
      refine lv_goto (pc := 183) (tgt := 187) hx hb (zdt_at zt_X10_isRoom_1 8 rfl) (by decide) ?_
      cases hf
      exact W.zret (pc := 187) hx hb hr rfl (fun t ht hW => ⟨rfl, ht⟩) (fun _ h => nomatch h) (zdt_at zt_X10_isRoom_1 10 rfl)
    replace hf := ze_s hs_30 hf
    by_cases hs_33 : p0 = (7 : Int32)
    · replace hf := zt_s hs_33 hf
      refine lv_tableIn (pc := 61) (tgt := 188) (off := 127) hx hb (zdt_at zt_X10_isRoom_0 33 rfl) (by rw [hs_33]; decide) (by rw [hs_33]; decide) (by rw [hs_33]; rfl) (by decide) ?_
      clear hs_33
      refine lv_iload_n (pc := 188) hx hb (zdt_at zt_X10_isRoom_1 11 rfl) rfl (lv_at hl 2 rfl) ?_
      refine lv_bipush (pc := 189) (v := (28 : Int32)) hx hb (zdt_at zt_X10_isRoom_1 12 rfl) (by decide) ?_
      refine lv_iload_n (pc := 191) hx hb (zdt_at zt_X10_isRoom_1 13 rfl) rfl (lv_at hl 3 rfl) ?_
      refine lv_iadd (pc := 192) hx hb (zdt_at zt_X10_isRoom_1 14 rfl) ?_
      refine lv_icmp_lt (pc := 193) (tgt := 200) hx hb (zdt_at zt_X10_isRoom_1 15 rfl) (by decide) (fun cn_ => ?t_31) (fun cn_ => ?f_32)
      case t_31 =>
        replace hf := zt_s cn_ hf
        clear cn_
        refine lv_iconst (pc := 200) (v := (0 : Int32)) hx hb (zdt_at zt_X10_isRoom_1 18 rfl) (by decide) ?_
        cases hf
        exact W.zret (pc := 201) hx hb hr rfl (fun t ht hW => ⟨rfl, ht⟩) (fun _ h => nomatch h) (zdt_at zt_X10_isRoom_1 19 rfl)
      replace hf := ze_s cn_ hf
      clear cn_
      refine lv_iconst (pc := 196) (v := (1 : Int32)) hx hb (zdt_at zt_X10_isRoom_1 16 rfl) (by decide) ?_
      refine lv_goto (pc := 197) (tgt := 201) hx hb (zdt_at zt_X10_isRoom_1 17 rfl) (by decide) ?_
      cases hf
      exact W.zret (pc := 201) hx hb hr rfl (fun t ht hW => ⟨rfl, ht⟩) (fun _ h => nomatch h) (zdt_at zt_X10_isRoom_1 19 rfl)
    replace hf := ze_s hs_33 hf
    by_cases hs_36 : p0 = (8 : Int32)
    · replace hf := zt_s hs_36 hf
      refine lv_tableIn (pc := 61) (tgt := 202) (off := 141) hx hb (zdt_at zt_X10_isRoom_0 33 rfl) (by rw [hs_36]; decide) (by rw [hs_36]; decide) (by rw [hs_36]; rfl) (by decide) ?_
      clear hs_36
      refine lv_iload_n (pc := 202) hx hb (zdt_at zt_X10_isRoom_1 20 rfl) rfl (lv_at hl 1 rfl) ?_
      refine lv_bipush (pc := 203) (v := (16 : Int32)) hx hb (zdt_at zt_X10_isRoom_1 21 rfl) (by decide) ?_
      refine lv_iadd (pc := 205) hx hb (zdt_at zt_X10_isRoom_1 22 rfl) ?_
      refine lv_sipush (pc := 206) (v := (512 : Int32)) hx hb (zdt_at zt_X10_isRoom_1 23 rfl) (by decide) ?_
      refine lv_icmp_gt (pc := 209) (tgt := 216) hx hb (zdt_at zt_X10_isRoom_1 24 rfl) (by decide) (fun cn_ => ?t_34) (fun cn_ => ?f_35)
      case t_34 =>
        replace hf := zt_s cn_ hf
        clear cn_
        refine lv_iconst (pc := 216) (v := (0 : Int32)) hx hb (zdt_at zt_X10_isRoom_1 27 rfl) (by decide) ?_
        cases hf
        exact W.zret (pc := 217) hx hb hr rfl (fun t ht hW => ⟨rfl, ht⟩) (fun _ h => nomatch h) (zdt_at zt_X10_isRoom_1 28 rfl)
      replace hf := ze_s cn_ hf
      clear cn_
      refine lv_iconst (pc := 212) (v := (1 : Int32)) hx hb (zdt_at zt_X10_isRoom_1 25 rfl) (by decide) ?_
      refine lv_goto (pc := 213) (tgt := 217) hx hb (zdt_at zt_X10_isRoom_1 26 rfl) (by decide) ?_
      cases hf
      exact W.zret (pc := 217) hx hb hr rfl (fun t ht hW => ⟨rfl, ht⟩) (fun _ h => nomatch h) (zdt_at zt_X10_isRoom_1 28 rfl)
    replace hf := ze_s hs_36 hf
    by_cases hs_39 : p0 = (11 : Int32)
    · replace hf := zt_s hs_39 hf
      refine lv_tableIn (pc := 61) (tgt := 218) (off := 157) hx hb (zdt_at zt_X10_isRoom_0 33 rfl) (by rw [hs_39]; decide) (by rw [hs_39]; decide) (by rw [hs_39]; rfl) (by decide) ?_
      clear hs_39
      refine lv_iload_n (pc := 218) hx hb (zdt_at zt_X10_isRoom_1 29 rfl) rfl (lv_at hl 2 rfl) ?_
      refine lv_sipush (pc := 219) (v := (256 : Int32)) hx hb (zdt_at zt_X10_isRoom_1 30 rfl) (by decide) ?_
      refine lv_icmp_gt (pc := 222) (tgt := 229) hx hb (zdt_at zt_X10_isRoom_1 31 rfl) (by decide) (fun cn_ => ?t_37) (fun cn_ => ?f_38)
      case t_37 =>
        replace hf := zt_s cn_ hf
        clear cn_
        refine lv_iconst (pc := 229) (v := (0 : Int32)) hx hb (zdt_at zt_X10_isRoom_1 34 rfl) (by decide) ?_
        cases hf
        exact W.zret (pc := 230) hx hb hr rfl (fun t ht hW => ⟨rfl, ht⟩) (fun _ h => nomatch h) (zdt_at zt_X10_isRoom_1 35 rfl)
      replace hf := ze_s cn_ hf
      clear cn_
      refine lv_iconst (pc := 225) (v := (1 : Int32)) hx hb (zdt_at zt_X10_isRoom_1 32 rfl) (by decide) ?_
      refine lv_goto (pc := 226) (tgt := 230) hx hb (zdt_at zt_X10_isRoom_1 33 rfl) (by decide) ?_
      cases hf
      exact W.zret (pc := 230) hx hb hr rfl (fun t ht hW => ⟨rfl, ht⟩) (fun _ h => nomatch h) (zdt_at zt_X10_isRoom_1 35 rfl)
    replace hf := ze_s hs_39 hf
    have kd_42 : GW s.heap [] (F0 m 231 ls []) := by
      refine hFr _ _ _ ?_
      refine lv_iload_n (pc := 231) hx hb (zdt_at zt_X10_isRoom_1 36 rfl) rfl (lv_at hl 1 rfl) ?_
      refine lv_bipush (pc := 232) (v := (32 : Int32)) hx hb (zdt_at zt_X10_isRoom_1 37 rfl) (by decide) ?_
      refine lv_iadd (pc := 234) hx hb (zdt_at zt_X10_isRoom_1 38 rfl) ?_
      refine lv_sipush (pc := 235) (v := (512 : Int32)) hx hb (zdt_at zt_X10_isRoom_1 39 rfl) (by decide) ?_
      refine lv_icmp_gt (pc := 238) (tgt := 245) hx hb (zdt_at zt_X10_isRoom_1 40 rfl) (by decide) (fun cn_ => ?t_40) (fun cn_ => ?f_41)
      case t_40 =>
        replace hf := zt_s cn_ hf
        clear cn_
        refine lv_iconst (pc := 245) (v := (0 : Int32)) hx hb (zdt_at zt_X10_isRoom_1 43 rfl) (by decide) ?_
        cases hf
        exact W.zret (pc := 246) hx hb hr rfl (fun t ht hW => ⟨rfl, ht⟩) (fun _ h => nomatch h) (zdt_at zt_X10_isRoom_1 44 rfl)
      replace hf := ze_s cn_ hf
      clear cn_
      refine lv_iconst (pc := 241) (v := (1 : Int32)) hx hb (zdt_at zt_X10_isRoom_1 41 rfl) (by decide) ?_
      refine lv_goto (pc := 242) (tgt := 246) hx hb (zdt_at zt_X10_isRoom_1 42 rfl) (by decide) ?_
      cases hf
      exact W.zret (pc := 246) hx hb hr rfl (fun t ht hW => ⟨rfl, ht⟩) (fun _ h => nomatch h) (zdt_at zt_X10_isRoom_1 44 rfl)
    have n1_ : ¬ p0.toInt = 1 := lv_neT (k := (1 : Int32)) (fun q => hs_15 (by rw [q]; decide)) (by decide)
    have n2_ : ¬ p0.toInt = 2 := lv_neT (k := (2 : Int32)) (fun q => hs_15 (by rw [q]; decide)) (by decide)
    have n3_ : ¬ p0.toInt = 3 := lv_neT (k := (3 : Int32)) (fun q => hs_21 (by rw [q]; decide)) (by decide)
    have n4_ : ¬ p0.toInt = 4 := lv_neT (k := (4 : Int32)) (fun q => hs_21 (by rw [q]; decide)) (by decide)
    have n5_ : ¬ p0.toInt = 5 := lv_neT (k := (5 : Int32)) hs_25 (by decide)
    have n6_ : ¬ p0.toInt = 6 := lv_neT (k := (6 : Int32)) hs_30 (by decide)
    have n7_ : ¬ p0.toInt = 7 := lv_neT (k := (7 : Int32)) hs_33 (by decide)
    have n8_ : ¬ p0.toInt = 8 := lv_neT (k := (8 : Int32)) hs_36 (by decide)
    have n11_ : ¬ p0.toInt = 11 := lv_neT (k := (11 : Int32)) hs_39 (by decide)
    by_cases hr_ : p0.toInt < 1 ∨ 11 < p0.toInt
    · exact lv_tableOut (pc := 61) (tgt := 231) hx hb (zdt_at zt_X10_isRoom_0 33 rfl) hr_ (by decide) (hTo _ _ _ kd_42)
    · rcases (show p0.toInt = 9 ∨ p0.toInt = 10 by omega) with hq_ | hq_
      all_goals exact lv_tableIn (pc := 61) (tgt := 231) (off := 170) hx hb (zdt_at zt_X10_isRoom_0 33 rfl) (by rw [hq_]; decide) (by rw [hq_]; decide) (by rw [hq_]; rfl) (by decide) (hTo _ _ _ kd_42)
  clear eK_9
  refine lv_icmp_eq (pc := 29) (tgt := 48) hx hb (zdt_at zt_X10_isRoom_0 16 rfl) (by decide) (fun cn_ => ?t_43) (fun cn_ => ?f_44)
  case t_43 =>
    replace hf := zt_s cn_ hf
    clear cn_
    exact hTo _ _ _ (kK_9  ls (lv_sub hl [0, 1, 2, 3] rfl) hf)
  replace hf := ze_s cn_ hf
  clear cn_
  refine lv_iload_n (pc := 32) hx hb (zdt_at zt_X10_isRoom_0 17 rfl) rfl (lv_at hl 0 rfl) ?_
  refine lv_bipush (pc := 33) (v := (7 : Int32)) hx hb (zdt_at zt_X10_isRoom_0 18 rfl) (by decide) ?_
  refine lv_icmp_eq (pc := 35) (tgt := 48) hx hb (zdt_at zt_X10_isRoom_0 19 rfl) (by decide) (fun cn_ => ?t_45) (fun cn_ => ?f_46)
  case t_45 =>
    replace hf := zt_s cn_ hf
    clear cn_
    exact hTo _ _ _ (kK_9  ls (lv_sub hl [0, 1, 2, 3] rfl) hf)
  replace hf := ze_s cn_ hf
  clear cn_
  refine lv_iload_n (pc := 38) hx hb (zdt_at zt_X10_isRoom_0 20 rfl) rfl (lv_at hl 0 rfl) ?_
  refine lv_bipush (pc := 39) (v := (11 : Int32)) hx hb (zdt_at zt_X10_isRoom_0 21 rfl) (by decide) ?_
  refine lv_icmp_eq (pc := 41) (tgt := 48) hx hb (zdt_at zt_X10_isRoom_0 22 rfl) (by decide) (fun cn_ => ?t_47) (fun cn_ => ?f_48)
  case t_47 =>
    replace hf := zt_s cn_ hf
    clear cn_
    exact hTo _ _ _ (kK_9  ls (lv_sub hl [0, 1, 2, 3] rfl) hf)
  replace hf := ze_s cn_ hf
  clear cn_
  refine lv_iload_n (pc := 44) hx hb (zdt_at zt_X10_isRoom_0 23 rfl) rfl (lv_at hl 3 rfl) ?_
  refine lv_if_ne (pc := 45) (tgt := 58) hx hb (zdt_at zt_X10_isRoom_0 24 rfl) (by decide) (fun cn_ => ?t_49) (fun cn_ => ?f_50)
  case f_50 =>
    replace hf := zt_s cn_ hf
    clear cn_
    exact hTo _ _ _ (kK_9  ls (lv_sub hl [0, 1, 2, 3] rfl) hf)
  replace hf := ze_s cn_ hf
  clear cn_
  refine lv_iconst (pc := 58) (v := (0 : Int32)) hx hb (zdt_at zt_X10_isRoom_0 30 rfl) (by decide) ?_
  cases hf
  exact W.zret (pc := 59) hx hb hr rfl (fun t ht hW => ⟨rfl, ht⟩) (fun _ h => nomatch h) (zdt_at zt_X10_isRoom_0 31 rfl)
set_option maxHeartbeats 4000000 in
set_option maxRecDepth 100000 in
theorem c_X10_take (l : Launch) (D : va_G) (cy : Nat → ClassId) (tt : Nat → Nat) (sz : Nat) (h0 : Nat) (hm : Nat → Nat) (p1 : Int32) (c_block : Nat → Int32) (c_buffer : Nat → Int32) (c_thrown : Int32) (c_state : Int32) (c_test : Int32) (c_words : Int32) (c_ill : Int32) (c_before : Int32) (c_inRow : Int32) (c_first : Int32) (c_inWindow : Int32) (c_same : Int32) (c_made : Int32) (c_requests : Int32) (c_total : Int64) (c_secrets : Int32) (c_rounds : Int32) (c_high : Int64) (c_low : Int64) (c_keyHigh : Int64) (c_keyLow : Int64) (c_block' : Nat → Int32) (hf : f_X10_take p1 c_block c_buffer = some c_block') : Met l yX10_take wsX10_take ({ frames := 0, cells := 0, slots := 0, locals := 0 }) (zPc D cy tt sz [.ref h0, .int p1] ([(h0, .inr (12, zmo hm c_thrown c_state c_test c_words c_ill c_before c_inRow c_first c_inWindow c_same c_made c_requests c_total c_secrets c_rounds c_high c_low c_keyHigh c_keyLow)), ((hm 43), .inl (cy 1, 16, .inl c_block)), ((hm 6), .inl (cy 1, 512, .inl c_buffer))])) (zQ D none ([(h0, .inr (12, zmo hm c_thrown c_state c_test c_words c_ill c_before c_inRow c_first c_inWindow c_same c_made c_requests c_total c_secrets c_rounds c_high c_low c_keyHigh c_keyLow)), ((hm 43), .inl (cy 1, 16, .inl c_block')), ((hm 6), .inl (cy 1, 512, .inl c_buffer))]) (va_A ([(h0, .inr (12, zmo hm c_thrown c_state c_test c_words c_ill c_before c_inRow c_first c_inWindow c_same c_made c_requests c_total c_secrets c_rounds c_high c_low c_keyHigh c_keyLow)), ((hm 43), .inl (cy 1, 16, .inl c_block)), ((hm 6), .inl (cy 1, 512, .inl c_buffer))]) sz)) 0 0 (va_A ([(h0, .inr (12, zmo hm c_thrown c_state c_test c_words c_ill c_before c_inRow c_first c_inWindow c_same c_made c_requests c_total c_secrets c_rounds c_high c_low c_keyHigh c_keyLow)), ((hm 43), .inl (cy 1, 16, .inl c_block)), ((hm 6), .inl (cy 1, 512, .inl c_buffer))]) sz) := by
  refine Met.ofW (cc := cX10_take) (maxL := 3) (ret := none) (by decide) rfl ?_
  intro p e s m args below meth c s₁ B hml hv
  obtain ⟨rfl, rfl, hP, hD0, hE⟩ := hv
  have hx := B.exec
  have hb := B.bytes
  have hr := B.returns
  have hts := atoms_spec (ws := wsX10_take) B.pre
  have hown : s.vm.findClass RX10 = some m.cls := findClass_of_methodNamed B.named
  have hlocks := B.notSynchronized
  clear B
  have hD := hD0.self (sz := s.heap.size)
  generalize hAe : va_A ([(h0, .inr (12, zmo hm c_thrown c_state c_test c_words c_ill c_before c_inRow c_first c_inWindow c_same c_made c_requests c_total c_secrets c_rounds c_high c_low c_keyHigh c_keyLow)), ((hm 43), .inl (cy 1, 16, .inl c_block)), ((hm 6), .inl (cy 1, 512, .inl c_buffer))]) s.heap.size = A at hD hE ⊢
  have hA : ∀ q : Nat, s.heap.size ≤ q → A q := fun q h => by rw [← hAe]; exact Or.inr h
  clear hAe hD0
  have hS : va_S A s.heap s.heap [] := va_S.rf
  have hK := hE.1
  have hw0 := hts (.fieldLink RX10 162 "SealedModuleModel" "block" "[I") (by decide +kernel)
  have hw1 := hts (.fieldLink RX10 84 "SealedModuleModel" "buffer" "[I") (by decide +kernel)
  have hcX10 : ∀ w ∈ u_ws RX10 TX10 52, w ∈ wsX10_take := (fun _ h => List.mem_cons_of_mem _ (List.mem_append_right _ h))
  have hl := lv_entry ([.ref h0, .int p1]) (n := 3) (Nat.le_of_ble_eq_true rfl)
  rw [lg_entry_eq]
  generalize (lg_sl ([.ref h0, .int p1]) ++ List.replicate (3 - (lg_sl ([.ref h0, .int p1])).length) Slot.unset).toArray = ls at hl ⊢
  replace hl : lv_has ls 3 [(0, .ref h0), (1, .int p1)] := hl
  unfold f_X10_take at hf
  refine zgo (fun GW hTo hFr => ?_)
  refine hFr _ _ _ ?_
  obtain ⟨H, hHe⟩ : ∃ H, H = s.heap := ⟨_, rfl⟩
  obtain ⟨locs, hLe⟩ : ∃ L : List Loc, L = [] := ⟨_, rfl⟩
  rw [← hHe] at hP
  replace hS : va_S A s.heap H locs := by rw [hHe, hLe]; exact hS
  refine zat hHe.symm hLe.symm ?_
  clear hHe hLe
  refine lv_iconst (pc := 0) (v := (0 : Int32)) hx hb (zdt_at zt_X10_take_0 0 rfl) (by decide) ?_
  refine lv_istore_n (pc := 1) (lv' := [(2, .int (0 : Int32)), (0, .ref h0), (1, .int p1)]) hx hb (zdt_at zt_X10_take_0 1 rfl) rfl hl (by decide) rfl ?_
  clear hl
  intro ls hl
  replace hf := zj_s hf
  obtain ⟨K_4, eK_4, hf⟩ := hf
  have kK_4 : ∀ (c_block_3 : Nat → Int32) (H : Heap) (locs : List Loc) (ls : Array Slot), va_P D vwCl ([(h0, .inr (12, zmo hm c_thrown c_state c_test c_words c_ill c_before c_inRow c_first c_inWindow c_same c_made c_requests c_total c_secrets c_rounds c_high c_low c_keyHigh c_keyLow)), ((hm 43), .inl (cy 1, 16, .inl c_block_3)), ((hm 6), .inl (cy 1, 512, .inl c_buffer))]) H → va_D A ([(h0, .inr (12, zmo hm c_thrown c_state c_test c_words c_ill c_before c_inRow c_first c_inWindow c_same c_made c_requests c_total c_secrets c_rounds c_high c_low c_keyHigh c_keyLow)), ((hm 43), .inl (cy 1, 16, .inl c_block_3)), ((hm 6), .inl (cy 1, 512, .inl c_buffer))]) → va_S A s.heap H locs → lv_has ls 3 [] → K_4 c_block_3 = some c_block' → GW H locs (F0 m 28 ls []) := by
    clear hf hl hP hD hS
    intro c_block_3 H locs ls hP hD hS hl hf
    rw [eK_4] at hf
    clear eK_4
    refine hFr _ _ _ ?_
    cases hf
    exact W.vret (pc := 28) hx hb hr (fun t ht hW => ⟨rfl, ⟨by rw [ht]; exact hP, hD⟩, hS.F ht⟩) hS.2.2 (zdt_at zt_X10_take_0 17 rfl)
  clear eK_4
  refine hTo _ _ _ (zl_go (fun z => match z with | (i_1, c_block_2) => ∀ (H : Heap) (locs : List Loc) (ls : Array Slot), va_P D vwCl ([(h0, .inr (12, zmo hm c_thrown c_state c_test c_words c_ill c_before c_inRow c_first c_inWindow c_same c_made c_requests c_total c_secrets c_rounds c_high c_low c_keyHigh c_keyLow)), ((hm 43), .inl (cy 1, 16, .inl c_block_2)), ((hm 6), .inl (cy 1, 512, .inl c_buffer))]) H → va_D A ([(h0, .inr (12, zmo hm c_thrown c_state c_test c_words c_ill c_before c_inRow c_first c_inWindow c_same c_made c_requests c_total c_secrets c_rounds c_high c_low c_keyHigh c_keyLow)), ((hm 43), .inl (cy 1, 16, .inl c_block_2)), ((hm 6), .inl (cy 1, 512, .inl c_buffer))]) → va_S A s.heap H locs → lv_has ls 3 [(0, .ref h0), (1, .int p1), (2, .int i_1)] → GW H locs (F0 m 2 ls [])) hf ?_ H locs ls hP hD hS (lv_sub hl [1, 2, 0] rfl))
  clear hf hl hP hD hS
  intro self_5 ihself_5 z hf
  obtain ⟨i_1, c_block_2⟩ := z
  intro H locs ls hP hD hS hl
  refine hFr _ _ _ ?_
  unfold b_X10_take_2 at hf
  refine lv_iload_n (pc := 2) hx hb (zdt_at zt_X10_take_0 2 rfl) rfl (lv_at hl 2 rfl) ?_
  refine lv_bipush (pc := 3) (v := (16 : Int32)) hx hb (zdt_at zt_X10_take_0 3 rfl) (by decide) ?_
  refine lv_icmp_ge (pc := 5) (tgt := 28) hx hb (zdt_at zt_X10_take_0 4 rfl) (by decide) (fun cn_ => ?t_6) (fun cn_ => ?f_7)
  case t_6 =>
    replace hf := zt_s cn_ hf
    clear cn_
    exact hTo _ _ _ (kK_4 _ H locs ls hP hD hS (lv_sub hl [] rfl) hf)
  replace hf := ze_s cn_ hf
  clear cn_
  refine lv_aload_n (pc := 8) hx hb (zdt_at zt_X10_take_0 5 rfl) rfl (lv_at hl 0 rfl) ?_
  refine va_get (pc := 9) (D := D) (ci := 12) (v := .ref (hm 43)) (C := RX10) (T := TX10) (N := 52) hx hb hts hcX10 hown hK hP 0 rfl rfl 43 (by decide) hw0 (fun _ h9 => h9) rfl (zdt_at zt_X10_take_0 6 rfl) ?_
  refine lv_iload_n (pc := 12) hx hb (zdt_at zt_X10_take_0 7 rfl) rfl (lv_at hl 2 rfl) ?_
  refine lv_aload_n (pc := 13) hx hb (zdt_at zt_X10_take_0 8 rfl) rfl (lv_at hl 0 rfl) ?_
  refine va_get (pc := 14) (D := D) (ci := 12) (v := .ref (hm 6)) (C := RX10) (T := TX10) (N := 52) hx hb hts hcX10 hown hK hP 0 rfl rfl 6 (by decide) hw1 (fun _ h9 => h9) rfl (zdt_at zt_X10_take_0 9 rfl) ?_
  refine lv_iload_n (pc := 17) hx hb (zdt_at zt_X10_take_0 10 rfl) rfl (lv_at hl 1 rfl) ?_
  refine lv_iload_n (pc := 18) hx hb (zdt_at zt_X10_take_0 11 rfl) rfl (lv_at hl 2 rfl) ?_
  refine lv_iadd (pc := 19) hx hb (zdt_at zt_X10_take_0 12 rfl) ?_
  replace hf := zk_s hf
  refine va_iald (pc := 20) hx hb hK hP 2 1 rfl rfl hf.1 (zdt_at zt_X10_take_0 13 rfl) ?_
  replace hf := hf.2
  replace hf := zk_s hf
  refine va_iast (pc := 21) hx hb hK hP hD hS 1 1 rfl rfl hf.1 (zdt_at zt_X10_take_0 14 rfl) ?_
  replace hf := hf.2
  clear hP hD hS
  intro H locs hP hD hS
  obtain ⟨c_block_8, e_⟩ : ∃ q : Nat → Int32, q = (upd c_block_2 i_1.toNatClampNeg (c_buffer (p1 + i_1).toNatClampNeg)) := ⟨_, rfl⟩
  replace hf := zn_s hf e_
  replace hP : va_P D vwCl ([(h0, .inr (12, zmo hm c_thrown c_state c_test c_words c_ill c_before c_inRow c_first c_inWindow c_same c_made c_requests c_total c_secrets c_rounds c_high c_low c_keyHigh c_keyLow)), ((hm 43), .inl (cy 1, 16, .inl c_block_8)), ((hm 6), .inl (cy 1, 512, .inl c_buffer))]) H := by rw [e_]; exact hP
  replace hD : va_D A ([(h0, .inr (12, zmo hm c_thrown c_state c_test c_words c_ill c_before c_inRow c_first c_inWindow c_same c_made c_requests c_total c_secrets c_rounds c_high c_low c_keyHigh c_keyLow)), ((hm 43), .inl (cy 1, 16, .inl c_block_8)), ((hm 6), .inl (cy 1, 512, .inl c_buffer))]) := by rw [e_]; exact hD
  clear e_
  refine lv_iinc (pc := 22) (v := (i_1 + (1 : Int32))) (lv' := [(2, .int (i_1 + (1 : Int32))), (0, .ref h0), (1, .int p1)]) hx hb (zdt_at zt_X10_take_0 15 rfl) hl (k := 2) rfl rfl (by decide) rfl ?_
  clear hl
  intro ls hl
  refine lv_goto (pc := 25) (tgt := 2) hx hb (zdt_at zt_X10_take_0 16 rfl) (by decide) ?_
  exact hTo _ _ _ (ihself_5 _ hf H locs ls hP hD hS (lv_sub hl [1, 2, 0] rfl))
set_option maxHeartbeats 4000000 in
set_option maxRecDepth 100000 in
theorem c_X10_blocks (l : Launch) (D : va_G) (cy : Nat → ClassId) (tt : Nat → Nat) (sz : Nat) (h0 : Nat) (hm : Nat → Nat) (p1 : Int32) (p2 : Int32) (p3 : Int32) (c_rounds : Int32) (c_back : Nat → Int32) (c_block : Nat → Int32) (c_box : Nat → Int32) (c_buffer : Nat → Int32) (c_other : Nat → Int32) (c_round : Nat → Int32) (c_thrown : Int32) (c_state : Int32) (c_test : Int32) (c_words : Int32) (c_ill : Int32) (c_before : Int32) (c_inRow : Int32) (c_first : Int32) (c_inWindow : Int32) (c_same : Int32) (c_made : Int32) (c_requests : Int32) (c_total : Int64) (c_secrets : Int32) (c_high : Int64) (c_low : Int64) (c_keyHigh : Int64) (c_keyLow : Int64) (r_ : Int32) (c_block' : Nat → Int32) (c_buffer' : Nat → Int32) (c_other' : Nat → Int32) (hf : f_X10_blocks p1 p2 p3 c_rounds c_back c_block c_box c_buffer c_other c_round = some (r_, c_block', c_buffer', c_other')) : Met l yX10_blocks wsX10_blocks ({ frames := 3, cells := 0, slots := 0, locals := 71 }) (zPc D cy tt sz [.ref h0, .int p1, .int p2, .int p3] ([(h0, .inr (12, zmo hm c_thrown c_state c_test c_words c_ill c_before c_inRow c_first c_inWindow c_same c_made c_requests c_total c_secrets c_rounds c_high c_low c_keyHigh c_keyLow)), ((hm 40), .inl (cy 1, 256, .inl c_back)), ((hm 43), .inl (cy 1, 16, .inl c_block)), ((hm 39), .inl (cy 1, 256, .inl c_box)), ((hm 6), .inl (cy 1, 512, .inl c_buffer)), ((hm 44), .inl (cy 1, 16, .inl c_other)), ((hm 41), .inl (cy 1, 240, .inl c_round))])) (zQ D (some (.int r_)) ([(h0, .inr (12, zmo hm c_thrown c_state c_test c_words c_ill c_before c_inRow c_first c_inWindow c_same c_made c_requests c_total c_secrets c_rounds c_high c_low c_keyHigh c_keyLow)), ((hm 40), .inl (cy 1, 256, .inl c_back)), ((hm 43), .inl (cy 1, 16, .inl c_block')), ((hm 39), .inl (cy 1, 256, .inl c_box)), ((hm 6), .inl (cy 1, 512, .inl c_buffer')), ((hm 44), .inl (cy 1, 16, .inl c_other')), ((hm 41), .inl (cy 1, 240, .inl c_round))]) (va_A ([(h0, .inr (12, zmo hm c_thrown c_state c_test c_words c_ill c_before c_inRow c_first c_inWindow c_same c_made c_requests c_total c_secrets c_rounds c_high c_low c_keyHigh c_keyLow)), ((hm 40), .inl (cy 1, 256, .inl c_back)), ((hm 43), .inl (cy 1, 16, .inl c_block)), ((hm 39), .inl (cy 1, 256, .inl c_box)), ((hm 6), .inl (cy 1, 512, .inl c_buffer)), ((hm 44), .inl (cy 1, 16, .inl c_other)), ((hm 41), .inl (cy 1, 240, .inl c_round))]) sz)) 0 0 (va_A ([(h0, .inr (12, zmo hm c_thrown c_state c_test c_words c_ill c_before c_inRow c_first c_inWindow c_same c_made c_requests c_total c_secrets c_rounds c_high c_low c_keyHigh c_keyLow)), ((hm 40), .inl (cy 1, 256, .inl c_back)), ((hm 43), .inl (cy 1, 16, .inl c_block)), ((hm 39), .inl (cy 1, 256, .inl c_box)), ((hm 6), .inl (cy 1, 512, .inl c_buffer)), ((hm 44), .inl (cy 1, 16, .inl c_other)), ((hm 41), .inl (cy 1, 240, .inl c_round))]) sz) := by
  refine Met.ofW (cc := cX10_blocks) (maxL := 6) (ret := (some .int)) (by decide) rfl ?_
  intro p e s m args below meth c s₁ B hml hv
  obtain ⟨rfl, rfl, hP, hD0, hE⟩ := hv
  have hx := B.exec
  have hb := B.bytes
  have hr := B.returns
  have hts := atoms_spec (ws := wsX10_blocks) B.pre
  have hown : s.vm.findClass RX10 = some m.cls := findClass_of_methodNamed B.named
  have hlocks := B.notSynchronized
  clear B
  have hD := hD0.self (sz := s.heap.size)
  generalize hAe : va_A ([(h0, .inr (12, zmo hm c_thrown c_state c_test c_words c_ill c_before c_inRow c_first c_inWindow c_same c_made c_requests c_total c_secrets c_rounds c_high c_low c_keyHigh c_keyLow)), ((hm 40), .inl (cy 1, 256, .inl c_back)), ((hm 43), .inl (cy 1, 16, .inl c_block)), ((hm 39), .inl (cy 1, 256, .inl c_box)), ((hm 6), .inl (cy 1, 512, .inl c_buffer)), ((hm 44), .inl (cy 1, 16, .inl c_other)), ((hm 41), .inl (cy 1, 240, .inl c_round))]) s.heap.size = A at hD hE ⊢
  have hA : ∀ q : Nat, s.heap.size ≤ q → A q := fun q h => by rw [← hAe]; exact Or.inr h
  clear hAe hD0
  have hS : va_S A s.heap s.heap [] := va_S.rf
  have hK := hE.1
  have hw0 := hts (.fieldLink RX10 84 "SealedModuleModel" "buffer" "[I") (by decide +kernel)
  have hw1 := hts (.fieldLink RX10 162 "SealedModuleModel" "block" "[I") (by decide +kernel)
  have hcX10 : ∀ w ∈ u_ws RX10 TX10 52, w ∈ wsX10_blocks := (fun _ h => List.mem_cons_of_mem _ (List.mem_append_right _ h))
  have hl := lv_entry ([.ref h0, .int p1, .int p2, .int p3]) (n := 6) (Nat.le_of_ble_eq_true rfl)
  rw [lg_entry_eq]
  generalize (lg_sl ([.ref h0, .int p1, .int p2, .int p3]) ++ List.replicate (6 - (lg_sl ([.ref h0, .int p1, .int p2, .int p3])).length) Slot.unset).toArray = ls at hl ⊢
  replace hl : lv_has ls 6 [(0, .ref h0), (1, .int p1), (2, .int p2), (3, .int p3)] := hl
  unfold f_X10_blocks at hf
  refine zgo (fun GW hTo hFr => ?_)
  refine hFr _ _ _ ?_
  obtain ⟨H, hHe⟩ : ∃ H, H = s.heap := ⟨_, rfl⟩
  obtain ⟨locs, hLe⟩ : ∃ L : List Loc, L = [] := ⟨_, rfl⟩
  rw [← hHe] at hP
  replace hS : va_S A s.heap H locs := by rw [hHe, hLe]; exact hS
  refine zat hHe.symm hLe.symm ?_
  clear hHe hLe
  refine lv_iload_n (pc := 0) hx hb (zdt_at zt_X10_blocks_0 0 rfl) rfl (lv_at hl 2 rfl) ?_
  refine lv_istore (pc := 1) (lv' := [(4, .int p2), (0, .ref h0), (1, .int p1), (2, .int p2), (3, .int p3)]) hx hb (zdt_at zt_X10_blocks_0 1 rfl) hl (by decide) rfl ?_
  clear hl
  intro ls hl
  replace hf := zj_s hf
  obtain ⟨K_8, eK_8, hf⟩ := hf
  have kK_8 : ∀ (c_block_5 : Nat → Int32) (c_buffer_6 : Nat → Int32) (c_other_7 : Nat → Int32) (H : Heap) (locs : List Loc) (ls : Array Slot), va_P D vwCl ([(h0, .inr (12, zmo hm c_thrown c_state c_test c_words c_ill c_before c_inRow c_first c_inWindow c_same c_made c_requests c_total c_secrets c_rounds c_high c_low c_keyHigh c_keyLow)), ((hm 40), .inl (cy 1, 256, .inl c_back)), ((hm 43), .inl (cy 1, 16, .inl c_block_5)), ((hm 39), .inl (cy 1, 256, .inl c_box)), ((hm 6), .inl (cy 1, 512, .inl c_buffer_6)), ((hm 44), .inl (cy 1, 16, .inl c_other_7)), ((hm 41), .inl (cy 1, 240, .inl c_round))]) H → va_D A ([(h0, .inr (12, zmo hm c_thrown c_state c_test c_words c_ill c_before c_inRow c_first c_inWindow c_same c_made c_requests c_total c_secrets c_rounds c_high c_low c_keyHigh c_keyLow)), ((hm 40), .inl (cy 1, 256, .inl c_back)), ((hm 43), .inl (cy 1, 16, .inl c_block_5)), ((hm 39), .inl (cy 1, 256, .inl c_box)), ((hm 6), .inl (cy 1, 512, .inl c_buffer_6)), ((hm 44), .inl (cy 1, 16, .inl c_other_7)), ((hm 41), .inl (cy 1, 240, .inl c_round))]) → va_S A s.heap H locs → lv_has ls 6 [(3, .int p3)] → K_8 c_block_5 c_buffer_6 c_other_7 = some (r_, c_block', c_buffer', c_other') → GW H locs (F0 m 71 ls []) := by
    clear hf hl hP hD hS
    intro c_block_5 c_buffer_6 c_other_7 H locs ls hP hD hS hl hf
    rw [eK_8] at hf
    clear eK_8
    refine hFr _ _ _ ?_
    refine lv_iload_n (pc := 71) hx hb (zdt_at zt_X10_blocks_0 36 rfl) rfl (lv_at hl 0 rfl) ?_
    cases hf
    exact W.iret (pc := 72) hx hb hr (fun t ht hW => ⟨rfl, ⟨by rw [ht]; exact hP, hD⟩, hS.F ht⟩) hS.2.2 (zdt_at zt_X10_blocks_0 37 rfl)
  clear eK_8
  refine hTo _ _ _ (zl_go (fun z => match z with | (i_1, c_block_2, c_buffer_3, c_other_4) => ∀ (H : Heap) (locs : List Loc) (ls : Array Slot), va_P D vwCl ([(h0, .inr (12, zmo hm c_thrown c_state c_test c_words c_ill c_before c_inRow c_first c_inWindow c_same c_made c_requests c_total c_secrets c_rounds c_high c_low c_keyHigh c_keyLow)), ((hm 40), .inl (cy 1, 256, .inl c_back)), ((hm 43), .inl (cy 1, 16, .inl c_block_2)), ((hm 39), .inl (cy 1, 256, .inl c_box)), ((hm 6), .inl (cy 1, 512, .inl c_buffer_3)), ((hm 44), .inl (cy 1, 16, .inl c_other_4)), ((hm 41), .inl (cy 1, 240, .inl c_round))]) H → va_D A ([(h0, .inr (12, zmo hm c_thrown c_state c_test c_words c_ill c_before c_inRow c_first c_inWindow c_same c_made c_requests c_total c_secrets c_rounds c_high c_low c_keyHigh c_keyLow)), ((hm 40), .inl (cy 1, 256, .inl c_back)), ((hm 43), .inl (cy 1, 16, .inl c_block_2)), ((hm 39), .inl (cy 1, 256, .inl c_box)), ((hm 6), .inl (cy 1, 512, .inl c_buffer_3)), ((hm 44), .inl (cy 1, 16, .inl c_other_4)), ((hm 41), .inl (cy 1, 240, .inl c_round))]) → va_S A s.heap H locs → lv_has ls 6 [(0, .ref h0), (1, .int p1), (2, .int p2), (3, .int p3), (4, .int i_1)] → GW H locs (F0 m 3 ls [])) hf ?_ H locs ls hP hD hS (lv_sub hl [1, 2, 3, 4, 0] rfl))
  clear hf hl hP hD hS
  intro self_9 ihself_9 z hf
  obtain ⟨i_1, c_block_2, c_buffer_3, c_other_4⟩ := z
  intro H locs ls hP hD hS hl
  refine hFr _ _ _ ?_
  unfold b_X10_blocks_3 at hf
  refine lv_iload (pc := 3) hx hb (zdt_at zt_X10_blocks_0 2 rfl) (lv_at hl 4 rfl) ?_
  refine lv_iload_n (pc := 5) hx hb (zdt_at zt_X10_blocks_0 3 rfl) rfl (lv_at hl 2 rfl) ?_
  refine lv_iload_n (pc := 6) hx hb (zdt_at zt_X10_blocks_0 4 rfl) rfl (lv_at hl 3 rfl) ?_
  refine lv_iadd (pc := 7) hx hb (zdt_at zt_X10_blocks_0 5 rfl) ?_
  refine lv_icmp_ge (pc := 8) (tgt := 71) hx hb (zdt_at zt_X10_blocks_0 6 rfl) (by decide) (fun cn_ => ?t_10) (fun cn_ => ?f_11)
  case t_10 =>
    replace hf := zt_s cn_ hf
    clear cn_
    exact hTo _ _ _ (kK_8 _ _ _ H locs ls hP hD hS (lv_sub hl [3] rfl) hf)
  replace hf := ze_s cn_ hf
  clear cn_
  refine lv_aload_n (pc := 11) hx hb (zdt_at zt_X10_blocks_0 7 rfl) rfl (lv_at hl 0 rfl) ?_
  refine lv_iload (pc := 12) hx hb (zdt_at zt_X10_blocks_0 8 rfl) (lv_at hl 4 rfl) ?_
  replace hf := zb_s hf
  obtain ⟨c_block_12, hc_, hf⟩ := hf
  refine zcn2 (pc := 14) (rv := none) (va_runV (As := [.int i_1]) (rest := []) ⟨hx, hb, hml, hown, hts⟩ (c_X10_take l D cy tt H.size h0 hm i_1 c_block_2 c_buffer_3 c_thrown c_state c_test c_words c_ill c_before c_inRow c_first c_inWindow c_same c_made c_requests c_total c_secrets c_rounds c_high c_low c_keyHigh c_keyLow c_block_12 hc_) (cwV 1 hts gX10_blocks_X10_take rfl rfl rfl (by decide +kernel) ⟨Nat.le_of_ble_eq_true rfl, Nat.le_of_ble_eq_true rfl⟩) ⟨zblind, va_recv hK hP (ci := 12) (q0 := 0) rfl rfl, zpre hE hS (hP.sub [0, 2, 4] rfl) (hD.sub [0, 2, 4] (by decide) rfl) (va_free hD hS hA [0, 2, 4] rfl)⟩ rfl rfl hl.1 rfl (lv_room (Nat.le_of_ble_eq_true rfl)) (zdt_at zt_X10_blocks_0 9 rfl) ⟨Nat.zero_le _, Nat.zero_le _⟩) hS hP hD (va_free hD hS hA [0, 2, 4] rfl) [0, 2, 4] rfl (by decide) rfl ?_
  clear hP hD hS hc_
  intro H locs hP hD hS
  replace hP : va_P D vwCl ([(h0, .inr (12, zmo hm c_thrown c_state c_test c_words c_ill c_before c_inRow c_first c_inWindow c_same c_made c_requests c_total c_secrets c_rounds c_high c_low c_keyHigh c_keyLow)), ((hm 40), .inl (cy 1, 256, .inl c_back)), ((hm 43), .inl (cy 1, 16, .inl c_block_12)), ((hm 39), .inl (cy 1, 256, .inl c_box)), ((hm 6), .inl (cy 1, 512, .inl c_buffer_3)), ((hm 44), .inl (cy 1, 16, .inl c_other_4)), ((hm 41), .inl (cy 1, 240, .inl c_round))]) H := hP
  replace hD : va_D A ([(h0, .inr (12, zmo hm c_thrown c_state c_test c_words c_ill c_before c_inRow c_first c_inWindow c_same c_made c_requests c_total c_secrets c_rounds c_high c_low c_keyHigh c_keyLow)), ((hm 40), .inl (cy 1, 256, .inl c_back)), ((hm 43), .inl (cy 1, 16, .inl c_block_12)), ((hm 39), .inl (cy 1, 256, .inl c_box)), ((hm 6), .inl (cy 1, 512, .inl c_buffer_3)), ((hm 44), .inl (cy 1, 16, .inl c_other_4)), ((hm 41), .inl (cy 1, 240, .inl c_round))]) := hD
  refine W.eq (g2 := F0 m 17 ls []) rfl ?_
  refine lv_iload_n (pc := 17) hx hb (zdt_at zt_X10_blocks_0 10 rfl) rfl (lv_at hl 1 rfl) ?_
  replace hf := zj_s hf
  obtain ⟨K_15, eK_15, hf⟩ := hf
  have kK_15 : ∀ (c_block_13 : Nat → Int32) (c_other_14 : Nat → Int32) (H : Heap) (locs : List Loc) (ls : Array Slot), va_P D vwCl ([(h0, .inr (12, zmo hm c_thrown c_state c_test c_words c_ill c_before c_inRow c_first c_inWindow c_same c_made c_requests c_total c_secrets c_rounds c_high c_low c_keyHigh c_keyLow)), ((hm 40), .inl (cy 1, 256, .inl c_back)), ((hm 43), .inl (cy 1, 16, .inl c_block_13)), ((hm 39), .inl (cy 1, 256, .inl c_box)), ((hm 6), .inl (cy 1, 512, .inl c_buffer_3)), ((hm 44), .inl (cy 1, 16, .inl c_other_14)), ((hm 41), .inl (cy 1, 240, .inl c_round))]) H → va_D A ([(h0, .inr (12, zmo hm c_thrown c_state c_test c_words c_ill c_before c_inRow c_first c_inWindow c_same c_made c_requests c_total c_secrets c_rounds c_high c_low c_keyHigh c_keyLow)), ((hm 40), .inl (cy 1, 256, .inl c_back)), ((hm 43), .inl (cy 1, 16, .inl c_block_13)), ((hm 39), .inl (cy 1, 256, .inl c_box)), ((hm 6), .inl (cy 1, 512, .inl c_buffer_3)), ((hm 44), .inl (cy 1, 16, .inl c_other_14)), ((hm 41), .inl (cy 1, 240, .inl c_round))]) → va_S A s.heap H locs → lv_has ls 6 [(0, .ref h0), (1, .int p1), (2, .int p2), (3, .int p3), (4, .int i_1)] → K_15 c_block_13 c_other_14 = some (r_, c_block', c_buffer', c_other') → GW H locs (F0 m 32 ls []) := by
    clear hf hl hP hD hS
    intro c_block_13 c_other_14 H locs ls hP hD hS hl hf
    rw [eK_15] at hf
    clear eK_15
    refine hFr _ _ _ ?_
    refine lv_iconst (pc := 32) (v := (0 : Int32)) hx hb (zdt_at zt_X10_blocks_0 17 rfl) (by decide) ?_
    refine lv_istore (pc := 33) (lv' := [(5, .int (0 : Int32)), (0, .ref h0), (1, .int p1), (2, .int p2), (3, .int p3), (4, .int i_1)]) hx hb (zdt_at zt_X10_blocks_0 18 rfl) hl (by decide) rfl ?_
    clear hl
    intro ls hl
    replace hf := zj_s hf
    obtain ⟨K_19, eK_19, hf⟩ := hf
    have kK_19 : ∀ (c_buffer_18 : Nat → Int32) (H : Heap) (locs : List Loc) (ls : Array Slot), va_P D vwCl ([(h0, .inr (12, zmo hm c_thrown c_state c_test c_words c_ill c_before c_inRow c_first c_inWindow c_same c_made c_requests c_total c_secrets c_rounds c_high c_low c_keyHigh c_keyLow)), ((hm 40), .inl (cy 1, 256, .inl c_back)), ((hm 43), .inl (cy 1, 16, .inl c_block_13)), ((hm 39), .inl (cy 1, 256, .inl c_box)), ((hm 6), .inl (cy 1, 512, .inl c_buffer_18)), ((hm 44), .inl (cy 1, 16, .inl c_other_14)), ((hm 41), .inl (cy 1, 240, .inl c_round))]) H → va_D A ([(h0, .inr (12, zmo hm c_thrown c_state c_test c_words c_ill c_before c_inRow c_first c_inWindow c_same c_made c_requests c_total c_secrets c_rounds c_high c_low c_keyHigh c_keyLow)), ((hm 40), .inl (cy 1, 256, .inl c_back)), ((hm 43), .inl (cy 1, 16, .inl c_block_13)), ((hm 39), .inl (cy 1, 256, .inl c_box)), ((hm 6), .inl (cy 1, 512, .inl c_buffer_18)), ((hm 44), .inl (cy 1, 16, .inl c_other_14)), ((hm 41), .inl (cy 1, 240, .inl c_round))]) → va_S A s.heap H locs → lv_has ls 6 [(0, .ref h0), (1, .int p1), (2, .int p2), (3, .int p3), (4, .int i_1)] → K_19 c_buffer_18 = some (r_, c_block', c_buffer', c_other') → GW H locs (F0 m 65 ls []) := by
      clear hf hl hP hD hS
      intro c_buffer_18 H locs ls hP hD hS hl hf
      rw [eK_19] at hf
      clear eK_19
      refine hFr _ _ _ ?_
      refine lv_iinc (pc := 65) (v := (i_1 + (16 : Int32))) (lv' := [(4, .int (i_1 + (16 : Int32))), (0, .ref h0), (1, .int p1), (2, .int p2), (3, .int p3)]) hx hb (zdt_at zt_X10_blocks_0 34 rfl) hl (k := 4) rfl rfl (by decide) rfl ?_
      clear hl
      intro ls hl
      refine lv_goto (pc := 68) (tgt := 3) hx hb (zdt_at zt_X10_blocks_0 35 rfl) (by decide) ?_
      exact hTo _ _ _ (ihself_9 _ hf H locs ls hP hD hS (lv_sub hl [1, 2, 3, 4, 0] rfl))
    clear eK_19
    refine hTo _ _ _ (zl_go (fun z => match z with | (i_16, c_buffer_17) => ∀ (H : Heap) (locs : List Loc) (ls : Array Slot), va_P D vwCl ([(h0, .inr (12, zmo hm c_thrown c_state c_test c_words c_ill c_before c_inRow c_first c_inWindow c_same c_made c_requests c_total c_secrets c_rounds c_high c_low c_keyHigh c_keyLow)), ((hm 40), .inl (cy 1, 256, .inl c_back)), ((hm 43), .inl (cy 1, 16, .inl c_block_13)), ((hm 39), .inl (cy 1, 256, .inl c_box)), ((hm 6), .inl (cy 1, 512, .inl c_buffer_17)), ((hm 44), .inl (cy 1, 16, .inl c_other_14)), ((hm 41), .inl (cy 1, 240, .inl c_round))]) H → va_D A ([(h0, .inr (12, zmo hm c_thrown c_state c_test c_words c_ill c_before c_inRow c_first c_inWindow c_same c_made c_requests c_total c_secrets c_rounds c_high c_low c_keyHigh c_keyLow)), ((hm 40), .inl (cy 1, 256, .inl c_back)), ((hm 43), .inl (cy 1, 16, .inl c_block_13)), ((hm 39), .inl (cy 1, 256, .inl c_box)), ((hm 6), .inl (cy 1, 512, .inl c_buffer_17)), ((hm 44), .inl (cy 1, 16, .inl c_other_14)), ((hm 41), .inl (cy 1, 240, .inl c_round))]) → va_S A s.heap H locs → lv_has ls 6 [(0, .ref h0), (1, .int p1), (2, .int p2), (3, .int p3), (4, .int i_1), (5, .int i_16)] → GW H locs (F0 m 35 ls [])) hf ?_ H locs ls hP hD hS (lv_sub hl [1, 2, 3, 4, 5, 0] rfl))
    clear hf hl hP hD hS
    intro self_20 ihself_20 z hf
    obtain ⟨i_16, c_buffer_17⟩ := z
    intro H locs ls hP hD hS hl
    refine hFr _ _ _ ?_
    unfold b_X10_blocks_35 at hf
    refine lv_iload (pc := 35) hx hb (zdt_at zt_X10_blocks_0 19 rfl) (lv_at hl 5 rfl) ?_
    refine lv_bipush (pc := 37) (v := (16 : Int32)) hx hb (zdt_at zt_X10_blocks_0 20 rfl) (by decide) ?_
    refine lv_icmp_ge (pc := 39) (tgt := 65) hx hb (zdt_at zt_X10_blocks_0 21 rfl) (by decide) (fun cn_ => ?t_21) (fun cn_ => ?f_22)
    case t_21 =>
      replace hf := zt_s cn_ hf
      clear cn_
      exact hTo _ _ _ (kK_19 _ H locs ls hP hD hS (lv_sub hl [0, 1, 2, 3, 4] rfl) hf)
    replace hf := ze_s cn_ hf
    clear cn_
    refine lv_aload_n (pc := 42) hx hb (zdt_at zt_X10_blocks_0 22 rfl) rfl (lv_at hl 0 rfl) ?_
    refine va_get (pc := 43) (D := D) (ci := 12) (v := .ref (hm 6)) (C := RX10) (T := TX10) (N := 52) hx hb hts hcX10 hown hK hP 0 rfl rfl 6 (by decide) hw0 (fun _ h9 => h9) rfl (zdt_at zt_X10_blocks_0 23 rfl) ?_
    refine lv_iload (pc := 46) hx hb (zdt_at zt_X10_blocks_0 24 rfl) (lv_at hl 4 rfl) ?_
    refine lv_iload (pc := 48) hx hb (zdt_at zt_X10_blocks_0 25 rfl) (lv_at hl 5 rfl) ?_
    refine lv_iadd (pc := 50) hx hb (zdt_at zt_X10_blocks_0 26 rfl) ?_
    refine lv_aload_n (pc := 51) hx hb (zdt_at zt_X10_blocks_0 27 rfl) rfl (lv_at hl 0 rfl) ?_
    refine va_get (pc := 52) (D := D) (ci := 12) (v := .ref (hm 43)) (C := RX10) (T := TX10) (N := 52) hx hb hts hcX10 hown hK hP 0 rfl rfl 43 (by decide) hw1 (fun _ h9 => h9) rfl (zdt_at zt_X10_blocks_0 28 rfl) ?_
    refine lv_iload (pc := 55) hx hb (zdt_at zt_X10_blocks_0 29 rfl) (lv_at hl 5 rfl) ?_
    replace hf := zk_s hf
    refine va_iald (pc := 57) hx hb hK hP 2 1 rfl rfl hf.1 (zdt_at zt_X10_blocks_0 30 rfl) ?_
    replace hf := hf.2
    replace hf := zk_s hf
    refine va_iast (pc := 58) hx hb hK hP hD hS 4 1 rfl rfl hf.1 (zdt_at zt_X10_blocks_0 31 rfl) ?_
    replace hf := hf.2
    clear hP hD hS
    intro H locs hP hD hS
    obtain ⟨c_buffer_23, e_⟩ : ∃ q : Nat → Int32, q = (upd c_buffer_17 (i_1 + i_16).toNatClampNeg (c_block_13 i_16.toNatClampNeg)) := ⟨_, rfl⟩
    replace hf := zn_s hf e_
    replace hP : va_P D vwCl ([(h0, .inr (12, zmo hm c_thrown c_state c_test c_words c_ill c_before c_inRow c_first c_inWindow c_same c_made c_requests c_total c_secrets c_rounds c_high c_low c_keyHigh c_keyLow)), ((hm 40), .inl (cy 1, 256, .inl c_back)), ((hm 43), .inl (cy 1, 16, .inl c_block_13)), ((hm 39), .inl (cy 1, 256, .inl c_box)), ((hm 6), .inl (cy 1, 512, .inl c_buffer_23)), ((hm 44), .inl (cy 1, 16, .inl c_other_14)), ((hm 41), .inl (cy 1, 240, .inl c_round))]) H := by rw [e_]; exact hP
    replace hD : va_D A ([(h0, .inr (12, zmo hm c_thrown c_state c_test c_words c_ill c_before c_inRow c_first c_inWindow c_same c_made c_requests c_total c_secrets c_rounds c_high c_low c_keyHigh c_keyLow)), ((hm 40), .inl (cy 1, 256, .inl c_back)), ((hm 43), .inl (cy 1, 16, .inl c_block_13)), ((hm 39), .inl (cy 1, 256, .inl c_box)), ((hm 6), .inl (cy 1, 512, .inl c_buffer_23)), ((hm 44), .inl (cy 1, 16, .inl c_other_14)), ((hm 41), .inl (cy 1, 240, .inl c_round))]) := by rw [e_]; exact hD
    clear e_
    refine lv_iinc (pc := 59) (v := (i_16 + (1 : Int32))) (lv' := [(5, .int (i_16 + (1 : Int32))), (0, .ref h0), (1, .int p1), (2, .int p2), (3, .int p3), (4, .int i_1)]) hx hb (zdt_at zt_X10_blocks_0 32 rfl) hl (k := 5) rfl rfl (by decide) rfl ?_
    clear hl
    intro ls hl
    refine lv_goto (pc := 62) (tgt := 35) hx hb (zdt_at zt_X10_blocks_0 33 rfl) (by decide) ?_
    exact hTo _ _ _ (ihself_20 _ hf H locs ls hP hD hS (lv_sub hl [1, 2, 3, 4, 5, 0] rfl))
  clear eK_15
  refine lv_if_eq (pc := 18) (tgt := 28) hx hb (zdt_at zt_X10_blocks_0 11 rfl) (by decide) (fun cn_ => ?t_24) (fun cn_ => ?f_25)
  case t_24 =>
    replace hf := zt_s cn_ hf
    clear cn_
    refine lv_aload_n (pc := 28) hx hb (zdt_at zt_X10_blocks_0 15 rfl) rfl (lv_at hl 0 rfl) ?_
    replace hf := zb_s hf
    obtain ⟨⟨c_block_26, c_other_27⟩, hc_, hf⟩ := hf
    refine zcn2 (pc := 29) (rv := none) (va_runV (As := []) (rest := []) ⟨hx, hb, hml, hown, hts⟩ (c_X10_unseal l D cy tt H.size h0 hm c_rounds c_back c_block_12 c_other_4 c_round c_thrown c_state c_test c_words c_ill c_before c_inRow c_first c_inWindow c_same c_made c_requests c_total c_secrets c_high c_low c_keyHigh c_keyLow c_block_26 c_other_27 hc_) (cwV 0 hts gX10_blocks_X10_unseal rfl rfl rfl (by decide +kernel) ⟨Nat.le_of_ble_eq_true rfl, Nat.le_of_ble_eq_true rfl⟩) ⟨zblind, va_recv hK hP (ci := 12) (q0 := 0) rfl rfl, zpre hE hS (hP.sub [0, 1, 2, 5, 6] rfl) (hD.sub [0, 1, 2, 5, 6] (by decide) rfl) (va_free hD hS hA [0, 1, 2, 5, 6] rfl)⟩ rfl rfl hl.1 rfl (lv_room (Nat.le_of_ble_eq_true rfl)) (zdt_at zt_X10_blocks_0 16 rfl) ⟨Nat.zero_le _, Nat.zero_le _⟩) hS hP hD (va_free hD hS hA [0, 1, 2, 5, 6] rfl) [0, 1, 2, 5, 6] rfl (by decide) rfl ?_
    clear hP hD hS hc_
    intro H locs hP hD hS
    replace hP : va_P D vwCl ([(h0, .inr (12, zmo hm c_thrown c_state c_test c_words c_ill c_before c_inRow c_first c_inWindow c_same c_made c_requests c_total c_secrets c_rounds c_high c_low c_keyHigh c_keyLow)), ((hm 40), .inl (cy 1, 256, .inl c_back)), ((hm 43), .inl (cy 1, 16, .inl c_block_26)), ((hm 39), .inl (cy 1, 256, .inl c_box)), ((hm 6), .inl (cy 1, 512, .inl c_buffer_3)), ((hm 44), .inl (cy 1, 16, .inl c_other_27)), ((hm 41), .inl (cy 1, 240, .inl c_round))]) H := hP
    replace hD : va_D A ([(h0, .inr (12, zmo hm c_thrown c_state c_test c_words c_ill c_before c_inRow c_first c_inWindow c_same c_made c_requests c_total c_secrets c_rounds c_high c_low c_keyHigh c_keyLow)), ((hm 40), .inl (cy 1, 256, .inl c_back)), ((hm 43), .inl (cy 1, 16, .inl c_block_26)), ((hm 39), .inl (cy 1, 256, .inl c_box)), ((hm 6), .inl (cy 1, 512, .inl c_buffer_3)), ((hm 44), .inl (cy 1, 16, .inl c_other_27)), ((hm 41), .inl (cy 1, 240, .inl c_round))]) := hD
    refine W.eq (g2 := F0 m 32 ls []) rfl ?_
    exact hTo _ _ _ (kK_15 _ _ H locs ls hP hD hS (lv_sub hl [0, 1, 2, 3, 4] rfl) hf)
  replace hf := ze_s cn_ hf
  clear cn_
  refine lv_aload_n (pc := 21) hx hb (zdt_at zt_X10_blocks_0 12 rfl) rfl (lv_at hl 0 rfl) ?_
  replace hf := zb_s hf
  obtain ⟨⟨c_block_28, c_other_29⟩, hc_, hf⟩ := hf
  refine zcn2 (pc := 22) (rv := none) (va_runV (As := []) (rest := []) ⟨hx, hb, hml, hown, hts⟩ (c_X10_seal l D cy tt H.size h0 hm c_rounds c_block_12 c_box c_other_4 c_round c_thrown c_state c_test c_words c_ill c_before c_inRow c_first c_inWindow c_same c_made c_requests c_total c_secrets c_high c_low c_keyHigh c_keyLow c_block_28 c_other_29 hc_) (cwV 0 hts gX10_blocks_X10_seal rfl rfl rfl (by decide +kernel) ⟨Nat.le_of_ble_eq_true rfl, Nat.le_of_ble_eq_true rfl⟩) ⟨zblind, va_recv hK hP (ci := 12) (q0 := 0) rfl rfl, zpre hE hS (hP.sub [0, 2, 3, 5, 6] rfl) (hD.sub [0, 2, 3, 5, 6] (by decide) rfl) (va_free hD hS hA [0, 2, 3, 5, 6] rfl)⟩ rfl rfl hl.1 rfl (lv_room (Nat.le_of_ble_eq_true rfl)) (zdt_at zt_X10_blocks_0 13 rfl) ⟨Nat.zero_le _, Nat.zero_le _⟩) hS hP hD (va_free hD hS hA [0, 2, 3, 5, 6] rfl) [0, 2, 3, 5, 6] rfl (by decide) rfl ?_
  clear hP hD hS hc_
  intro H locs hP hD hS
  replace hP : va_P D vwCl ([(h0, .inr (12, zmo hm c_thrown c_state c_test c_words c_ill c_before c_inRow c_first c_inWindow c_same c_made c_requests c_total c_secrets c_rounds c_high c_low c_keyHigh c_keyLow)), ((hm 40), .inl (cy 1, 256, .inl c_back)), ((hm 43), .inl (cy 1, 16, .inl c_block_28)), ((hm 39), .inl (cy 1, 256, .inl c_box)), ((hm 6), .inl (cy 1, 512, .inl c_buffer_3)), ((hm 44), .inl (cy 1, 16, .inl c_other_29)), ((hm 41), .inl (cy 1, 240, .inl c_round))]) H := hP
  replace hD : va_D A ([(h0, .inr (12, zmo hm c_thrown c_state c_test c_words c_ill c_before c_inRow c_first c_inWindow c_same c_made c_requests c_total c_secrets c_rounds c_high c_low c_keyHigh c_keyLow)), ((hm 40), .inl (cy 1, 256, .inl c_back)), ((hm 43), .inl (cy 1, 16, .inl c_block_28)), ((hm 39), .inl (cy 1, 256, .inl c_box)), ((hm 6), .inl (cy 1, 512, .inl c_buffer_3)), ((hm 44), .inl (cy 1, 16, .inl c_other_29)), ((hm 41), .inl (cy 1, 240, .inl c_round))]) := hD
  refine W.eq (g2 := F0 m 25 ls []) rfl ?_
  refine lv_goto (pc := 25) (tgt := 32) hx hb (zdt_at zt_X10_blocks_0 14 rfl) (by decide) ?_
  exact hTo _ _ _ (kK_15 _ _ H locs ls hP hD hS (lv_sub hl [0, 1, 2, 3, 4] rfl) hf)
set_option maxHeartbeats 4000000 in
set_option maxRecDepth 100000 in
theorem c_X10_chain (l : Launch) (D : va_G) (cy : Nat → ClassId) (tt : Nat → Nat) (sz : Nat) (h0 : Nat) (hm : Nat → Nat) (p1 : Int32) (p2 : Int32) (p3 : Int32) (c_rounds : Int32) (c_back : Nat → Int32) (c_block : Nat → Int32) (c_box : Nat → Int32) (c_buffer : Nat → Int32) (c_other : Nat → Int32) (c_result : Nat → Int32) (c_round : Nat → Int32) (c_thrown : Int32) (c_state : Int32) (c_test : Int32) (c_words : Int32) (c_ill : Int32) (c_before : Int32) (c_inRow : Int32) (c_first : Int32) (c_inWindow : Int32) (c_same : Int32) (c_made : Int32) (c_requests : Int32) (c_total : Int64) (c_secrets : Int32) (c_high : Int64) (c_low : Int64) (c_keyHigh : Int64) (c_keyLow : Int64) (r_ : Int32) (c_block' : Nat → Int32) (c_buffer' : Nat → Int32) (c_other' : Nat → Int32) (c_result' : Nat → Int32) (hf : f_X10_chain p1 p2 p3 c_rounds c_back c_block c_box c_buffer c_other c_result c_round = some (r_, c_block', c_buffer', c_other', c_result')) : Met l yX10_chain wsX10_chain ({ frames := 3, cells := 0, slots := 0, locals := 71 }) (zPc D cy tt sz [.ref h0, .int p1, .int p2, .int p3] ([(h0, .inr (12, zmo hm c_thrown c_state c_test c_words c_ill c_before c_inRow c_first c_inWindow c_same c_made c_requests c_total c_secrets c_rounds c_high c_low c_keyHigh c_keyLow)), ((hm 40), .inl (cy 1, 256, .inl c_back)), ((hm 43), .inl (cy 1, 16, .inl c_block)), ((hm 39), .inl (cy 1, 256, .inl c_box)), ((hm 6), .inl (cy 1, 512, .inl c_buffer)), ((hm 44), .inl (cy 1, 16, .inl c_other)), ((hm 45), .inl (cy 1, 600, .inl c_result)), ((hm 41), .inl (cy 1, 240, .inl c_round))])) (zQ D (some (.int r_)) ([(h0, .inr (12, zmo hm c_thrown c_state c_test c_words c_ill c_before c_inRow c_first c_inWindow c_same c_made c_requests c_total c_secrets c_rounds c_high c_low c_keyHigh c_keyLow)), ((hm 40), .inl (cy 1, 256, .inl c_back)), ((hm 43), .inl (cy 1, 16, .inl c_block')), ((hm 39), .inl (cy 1, 256, .inl c_box)), ((hm 6), .inl (cy 1, 512, .inl c_buffer')), ((hm 44), .inl (cy 1, 16, .inl c_other')), ((hm 45), .inl (cy 1, 600, .inl c_result')), ((hm 41), .inl (cy 1, 240, .inl c_round))]) (va_A ([(h0, .inr (12, zmo hm c_thrown c_state c_test c_words c_ill c_before c_inRow c_first c_inWindow c_same c_made c_requests c_total c_secrets c_rounds c_high c_low c_keyHigh c_keyLow)), ((hm 40), .inl (cy 1, 256, .inl c_back)), ((hm 43), .inl (cy 1, 16, .inl c_block)), ((hm 39), .inl (cy 1, 256, .inl c_box)), ((hm 6), .inl (cy 1, 512, .inl c_buffer)), ((hm 44), .inl (cy 1, 16, .inl c_other)), ((hm 45), .inl (cy 1, 600, .inl c_result)), ((hm 41), .inl (cy 1, 240, .inl c_round))]) sz)) 0 0 (va_A ([(h0, .inr (12, zmo hm c_thrown c_state c_test c_words c_ill c_before c_inRow c_first c_inWindow c_same c_made c_requests c_total c_secrets c_rounds c_high c_low c_keyHigh c_keyLow)), ((hm 40), .inl (cy 1, 256, .inl c_back)), ((hm 43), .inl (cy 1, 16, .inl c_block)), ((hm 39), .inl (cy 1, 256, .inl c_box)), ((hm 6), .inl (cy 1, 512, .inl c_buffer)), ((hm 44), .inl (cy 1, 16, .inl c_other)), ((hm 45), .inl (cy 1, 600, .inl c_result)), ((hm 41), .inl (cy 1, 240, .inl c_round))]) sz) := by
  refine Met.ofW (cc := cX10_chain) (maxL := 6) (ret := (some .int)) (by decide) rfl ?_
  intro p e s m args below meth c s₁ B hml hv
  obtain ⟨rfl, rfl, hP, hD0, hE⟩ := hv
  have hx := B.exec
  have hb := B.bytes
  have hr := B.returns
  have hts := atoms_spec (ws := wsX10_chain) B.pre
  have hown : s.vm.findClass RX10 = some m.cls := findClass_of_methodNamed B.named
  have hlocks := B.notSynchronized
  clear B
  have hD := hD0.self (sz := s.heap.size)
  generalize hAe : va_A ([(h0, .inr (12, zmo hm c_thrown c_state c_test c_words c_ill c_before c_inRow c_first c_inWindow c_same c_made c_requests c_total c_secrets c_rounds c_high c_low c_keyHigh c_keyLow)), ((hm 40), .inl (cy 1, 256, .inl c_back)), ((hm 43), .inl (cy 1, 16, .inl c_block)), ((hm 39), .inl (cy 1, 256, .inl c_box)), ((hm 6), .inl (cy 1, 512, .inl c_buffer)), ((hm 44), .inl (cy 1, 16, .inl c_other)), ((hm 45), .inl (cy 1, 600, .inl c_result)), ((hm 41), .inl (cy 1, 240, .inl c_round))]) s.heap.size = A at hD hE ⊢
  have hA : ∀ q : Nat, s.heap.size ≤ q → A q := fun q h => by rw [← hAe]; exact Or.inr h
  clear hAe hD0
  have hS : va_S A s.heap s.heap [] := va_S.rf
  have hK := hE.1
  have hw0 := hts (.fieldLink RX10 84 "SealedModuleModel" "buffer" "[I") (by decide +kernel)
  have hw1 := hts (.fieldLink RX10 162 "SealedModuleModel" "block" "[I") (by decide +kernel)
  have hw2 := hts (.fieldLink RX10 168 "SealedModuleModel" "result" "[I") (by decide +kernel)
  have hcX10 : ∀ w ∈ u_ws RX10 TX10 52, w ∈ wsX10_chain := (fun _ h => List.mem_cons_of_mem _ (List.mem_append_right _ h))
  have hl := lv_entry ([.ref h0, .int p1, .int p2, .int p3]) (n := 6) (Nat.le_of_ble_eq_true rfl)
  rw [lg_entry_eq]
  generalize (lg_sl ([.ref h0, .int p1, .int p2, .int p3]) ++ List.replicate (6 - (lg_sl ([.ref h0, .int p1, .int p2, .int p3])).length) Slot.unset).toArray = ls at hl ⊢
  replace hl : lv_has ls 6 [(0, .ref h0), (1, .int p1), (2, .int p2), (3, .int p3)] := hl
  unfold f_X10_chain at hf
  refine zgo (fun GW hTo hFr => ?_)
  refine hFr _ _ _ ?_
  obtain ⟨H, hHe⟩ : ∃ H, H = s.heap := ⟨_, rfl⟩
  obtain ⟨locs, hLe⟩ : ∃ L : List Loc, L = [] := ⟨_, rfl⟩
  rw [← hHe] at hP
  replace hS : va_S A s.heap H locs := by rw [hHe, hLe]; exact hS
  refine zat hHe.symm hLe.symm ?_
  clear hHe hLe
  refine lv_iconst (pc := 0) (v := (0 : Int32)) hx hb (zdt_at zt_X10_chain_0 0 rfl) (by decide) ?_
  refine lv_istore (pc := 1) (lv' := [(4, .int (0 : Int32)), (0, .ref h0), (1, .int p1), (2, .int p2), (3, .int p3)]) hx hb (zdt_at zt_X10_chain_0 1 rfl) hl (by decide) rfl ?_
  clear hl
  intro ls hl
  replace hf := zj_s hf
  obtain ⟨K_4, eK_4, hf⟩ := hf
  have kK_4 : ∀ (c_result_3 : Nat → Int32) (H : Heap) (locs : List Loc) (ls : Array Slot), va_P D vwCl ([(h0, .inr (12, zmo hm c_thrown c_state c_test c_words c_ill c_before c_inRow c_first c_inWindow c_same c_made c_requests c_total c_secrets c_rounds c_high c_low c_keyHigh c_keyLow)), ((hm 40), .inl (cy 1, 256, .inl c_back)), ((hm 43), .inl (cy 1, 16, .inl c_block)), ((hm 39), .inl (cy 1, 256, .inl c_box)), ((hm 6), .inl (cy 1, 512, .inl c_buffer)), ((hm 44), .inl (cy 1, 16, .inl c_other)), ((hm 45), .inl (cy 1, 600, .inl c_result_3)), ((hm 41), .inl (cy 1, 240, .inl c_round))]) H → va_D A ([(h0, .inr (12, zmo hm c_thrown c_state c_test c_words c_ill c_before c_inRow c_first c_inWindow c_same c_made c_requests c_total c_secrets c_rounds c_high c_low c_keyHigh c_keyLow)), ((hm 40), .inl (cy 1, 256, .inl c_back)), ((hm 43), .inl (cy 1, 16, .inl c_block)), ((hm 39), .inl (cy 1, 256, .inl c_box)), ((hm 6), .inl (cy 1, 512, .inl c_buffer)), ((hm 44), .inl (cy 1, 16, .inl c_other)), ((hm 45), .inl (cy 1, 600, .inl c_result_3)), ((hm 41), .inl (cy 1, 240, .inl c_round))]) → va_S A s.heap H locs → lv_has ls 6 [(0, .ref h0), (1, .int p1), (2, .int p2), (3, .int p3)] → K_4 c_result_3 = some (r_, c_block', c_buffer', c_other', c_result') → GW H locs (F0 m 31 ls []) := by
    clear hf hl hP hD hS
    intro c_result_3 H locs ls hP hD hS hl hf
    rw [eK_4] at hf
    clear eK_4
    refine hFr _ _ _ ?_
    refine lv_bipush (pc := 31) (v := (16 : Int32)) hx hb (zdt_at zt_X10_chain_0 17 rfl) (by decide) ?_
    refine lv_istore (pc := 33) (lv' := [(4, .int (16 : Int32)), (0, .ref h0), (1, .int p1), (2, .int p2), (3, .int p3)]) hx hb (zdt_at zt_X10_chain_0 18 rfl) hl (by decide) rfl ?_
    clear hl
    intro ls hl
    replace hf := zj_s hf
    obtain ⟨K_12, eK_12, hf⟩ := hf
    have kK_12 : ∀ (c_block_9 : Nat → Int32) (c_buffer_10 : Nat → Int32) (c_other_11 : Nat → Int32) (H : Heap) (locs : List Loc) (ls : Array Slot), va_P D vwCl ([(h0, .inr (12, zmo hm c_thrown c_state c_test c_words c_ill c_before c_inRow c_first c_inWindow c_same c_made c_requests c_total c_secrets c_rounds c_high c_low c_keyHigh c_keyLow)), ((hm 40), .inl (cy 1, 256, .inl c_back)), ((hm 43), .inl (cy 1, 16, .inl c_block_9)), ((hm 39), .inl (cy 1, 256, .inl c_box)), ((hm 6), .inl (cy 1, 512, .inl c_buffer_10)), ((hm 44), .inl (cy 1, 16, .inl c_other_11)), ((hm 45), .inl (cy 1, 600, .inl c_result_3)), ((hm 41), .inl (cy 1, 240, .inl c_round))]) H → va_D A ([(h0, .inr (12, zmo hm c_thrown c_state c_test c_words c_ill c_before c_inRow c_first c_inWindow c_same c_made c_requests c_total c_secrets c_rounds c_high c_low c_keyHigh c_keyLow)), ((hm 40), .inl (cy 1, 256, .inl c_back)), ((hm 43), .inl (cy 1, 16, .inl c_block_9)), ((hm 39), .inl (cy 1, 256, .inl c_box)), ((hm 6), .inl (cy 1, 512, .inl c_buffer_10)), ((hm 44), .inl (cy 1, 16, .inl c_other_11)), ((hm 45), .inl (cy 1, 600, .inl c_result_3)), ((hm 41), .inl (cy 1, 240, .inl c_round))]) → va_S A s.heap H locs → lv_has ls 6 [(3, .int p3)] → K_12 c_block_9 c_buffer_10 c_other_11 = some (r_, c_block', c_buffer', c_other', c_result') → GW H locs (F0 m 176 ls []) := by
      clear hf hl hP hD hS
      intro c_block_9 c_buffer_10 c_other_11 H locs ls hP hD hS hl hf
      rw [eK_12] at hf
      clear eK_12
      refine hFr _ _ _ ?_
      refine lv_iload_n (pc := 176) hx hb (zdt_at zt_X10_chain_1 31 rfl) rfl (lv_at hl 0 rfl) ?_
      cases hf
      exact W.iret (pc := 177) hx hb hr (fun t ht hW => ⟨rfl, ⟨by rw [ht]; exact hP, hD⟩, hS.F ht⟩) hS.2.2 (zdt_at zt_X10_chain_1 32 rfl)
    clear eK_12
    refine hTo _ _ _ (zl_go (fun z => match z with | (i_5, c_block_6, c_buffer_7, c_other_8) => ∀ (H : Heap) (locs : List Loc) (ls : Array Slot), va_P D vwCl ([(h0, .inr (12, zmo hm c_thrown c_state c_test c_words c_ill c_before c_inRow c_first c_inWindow c_same c_made c_requests c_total c_secrets c_rounds c_high c_low c_keyHigh c_keyLow)), ((hm 40), .inl (cy 1, 256, .inl c_back)), ((hm 43), .inl (cy 1, 16, .inl c_block_6)), ((hm 39), .inl (cy 1, 256, .inl c_box)), ((hm 6), .inl (cy 1, 512, .inl c_buffer_7)), ((hm 44), .inl (cy 1, 16, .inl c_other_8)), ((hm 45), .inl (cy 1, 600, .inl c_result_3)), ((hm 41), .inl (cy 1, 240, .inl c_round))]) H → va_D A ([(h0, .inr (12, zmo hm c_thrown c_state c_test c_words c_ill c_before c_inRow c_first c_inWindow c_same c_made c_requests c_total c_secrets c_rounds c_high c_low c_keyHigh c_keyLow)), ((hm 40), .inl (cy 1, 256, .inl c_back)), ((hm 43), .inl (cy 1, 16, .inl c_block_6)), ((hm 39), .inl (cy 1, 256, .inl c_box)), ((hm 6), .inl (cy 1, 512, .inl c_buffer_7)), ((hm 44), .inl (cy 1, 16, .inl c_other_8)), ((hm 45), .inl (cy 1, 600, .inl c_result_3)), ((hm 41), .inl (cy 1, 240, .inl c_round))]) → va_S A s.heap H locs → lv_has ls 6 [(0, .ref h0), (1, .int p1), (2, .int p2), (3, .int p3), (4, .int i_5)] → GW H locs (F0 m 35 ls [])) hf ?_ H locs ls hP hD hS (lv_sub hl [1, 2, 3, 4, 0] rfl))
    clear hf hl hP hD hS
    intro self_13 ihself_13 z hf
    obtain ⟨i_5, c_block_6, c_buffer_7, c_other_8⟩ := z
    intro H locs ls hP hD hS hl
    refine hFr _ _ _ ?_
    unfold b_X10_chain_35 at hf
    refine lv_iload (pc := 35) hx hb (zdt_at zt_X10_chain_0 19 rfl) (lv_at hl 4 rfl) ?_
    refine lv_iload_n (pc := 37) hx hb (zdt_at zt_X10_chain_0 20 rfl) rfl (lv_at hl 3 rfl) ?_
    refine lv_icmp_ge (pc := 38) (tgt := 176) hx hb (zdt_at zt_X10_chain_0 21 rfl) (by decide) (fun cn_ => ?t_14) (fun cn_ => ?f_15)
    case t_14 =>
      replace hf := zt_s cn_ hf
      clear cn_
      exact hTo _ _ _ (kK_12 _ _ _ H locs ls hP hD hS (lv_sub hl [3] rfl) hf)
    replace hf := ze_s cn_ hf
    clear cn_
    refine lv_iconst (pc := 41) (v := (0 : Int32)) hx hb (zdt_at zt_X10_chain_0 22 rfl) (by decide) ?_
    refine lv_istore (pc := 42) (lv' := [(5, .int (0 : Int32)), (0, .ref h0), (1, .int p1), (2, .int p2), (3, .int p3), (4, .int i_5)]) hx hb (zdt_at zt_X10_chain_0 23 rfl) hl (by decide) rfl ?_
    clear hl
    intro ls hl
    replace hf := zj_s hf
    obtain ⟨K_19, eK_19, hf⟩ := hf
    have kK_19 : ∀ (c_block_18 : Nat → Int32) (H : Heap) (locs : List Loc) (ls : Array Slot), va_P D vwCl ([(h0, .inr (12, zmo hm c_thrown c_state c_test c_words c_ill c_before c_inRow c_first c_inWindow c_same c_made c_requests c_total c_secrets c_rounds c_high c_low c_keyHigh c_keyLow)), ((hm 40), .inl (cy 1, 256, .inl c_back)), ((hm 43), .inl (cy 1, 16, .inl c_block_18)), ((hm 39), .inl (cy 1, 256, .inl c_box)), ((hm 6), .inl (cy 1, 512, .inl c_buffer_7)), ((hm 44), .inl (cy 1, 16, .inl c_other_8)), ((hm 45), .inl (cy 1, 600, .inl c_result_3)), ((hm 41), .inl (cy 1, 240, .inl c_round))]) H → va_D A ([(h0, .inr (12, zmo hm c_thrown c_state c_test c_words c_ill c_before c_inRow c_first c_inWindow c_same c_made c_requests c_total c_secrets c_rounds c_high c_low c_keyHigh c_keyLow)), ((hm 40), .inl (cy 1, 256, .inl c_back)), ((hm 43), .inl (cy 1, 16, .inl c_block_18)), ((hm 39), .inl (cy 1, 256, .inl c_box)), ((hm 6), .inl (cy 1, 512, .inl c_buffer_7)), ((hm 44), .inl (cy 1, 16, .inl c_other_8)), ((hm 45), .inl (cy 1, 600, .inl c_result_3)), ((hm 41), .inl (cy 1, 240, .inl c_round))]) → va_S A s.heap H locs → lv_has ls 6 [(0, .ref h0), (1, .int p1), (2, .int p2), (3, .int p3), (4, .int i_5)] → K_19 c_block_18 = some (r_, c_block', c_buffer', c_other', c_result') → GW H locs (F0 m 98 ls []) := by
      clear hf hl hP hD hS
      intro c_block_18 H locs ls hP hD hS hl hf
      rw [eK_19] at hf
      clear eK_19
      refine hFr _ _ _ ?_
      refine lv_iload_n (pc := 98) hx hb (zdt_at zt_X10_chain_0 54 rfl) rfl (lv_at hl 1 rfl) ?_
      replace hf := zj_s hf
      obtain ⟨K_22, eK_22, hf⟩ := hf
      have kK_22 : ∀ (c_block_20 : Nat → Int32) (c_other_21 : Nat → Int32) (H : Heap) (locs : List Loc) (ls : Array Slot), va_P D vwCl ([(h0, .inr (12, zmo hm c_thrown c_state c_test c_words c_ill c_before c_inRow c_first c_inWindow c_same c_made c_requests c_total c_secrets c_rounds c_high c_low c_keyHigh c_keyLow)), ((hm 40), .inl (cy 1, 256, .inl c_back)), ((hm 43), .inl (cy 1, 16, .inl c_block_20)), ((hm 39), .inl (cy 1, 256, .inl c_box)), ((hm 6), .inl (cy 1, 512, .inl c_buffer_7)), ((hm 44), .inl (cy 1, 16, .inl c_other_21)), ((hm 45), .inl (cy 1, 600, .inl c_result_3)), ((hm 41), .inl (cy 1, 240, .inl c_round))]) H → va_D A ([(h0, .inr (12, zmo hm c_thrown c_state c_test c_words c_ill c_before c_inRow c_first c_inWindow c_same c_made c_requests c_total c_secrets c_rounds c_high c_low c_keyHigh c_keyLow)), ((hm 40), .inl (cy 1, 256, .inl c_back)), ((hm 43), .inl (cy 1, 16, .inl c_block_20)), ((hm 39), .inl (cy 1, 256, .inl c_box)), ((hm 6), .inl (cy 1, 512, .inl c_buffer_7)), ((hm 44), .inl (cy 1, 16, .inl c_other_21)), ((hm 45), .inl (cy 1, 600, .inl c_result_3)), ((hm 41), .inl (cy 1, 240, .inl c_round))]) → va_S A s.heap H locs → lv_has ls 6 [(0, .ref h0), (1, .int p1), (2, .int p2), (3, .int p3), (4, .int i_5)] → K_22 c_block_20 c_other_21 = some (r_, c_block', c_buffer', c_other', c_result') → GW H locs (F0 m 113 ls []) := by
        clear hf hl hP hD hS
        intro c_block_20 c_other_21 H locs ls hP hD hS hl hf
        rw [eK_22] at hf
        clear eK_22
        refine hFr _ _ _ ?_
        refine lv_iconst (pc := 113) (v := (0 : Int32)) hx hb (zdt_at zt_X10_chain_0 61 rfl) (by decide) ?_
        refine lv_istore (pc := 114) (lv' := [(5, .int (0 : Int32)), (0, .ref h0), (1, .int p1), (2, .int p2), (3, .int p3), (4, .int i_5)]) hx hb (zdt_at zt_X10_chain_0 62 rfl) hl (by decide) rfl ?_
        clear hl
        intro ls hl
        replace hf := zj_s hf
        obtain ⟨K_26, eK_26, hf⟩ := hf
        have kK_26 : ∀ (c_buffer_25 : Nat → Int32) (H : Heap) (locs : List Loc) (ls : Array Slot), va_P D vwCl ([(h0, .inr (12, zmo hm c_thrown c_state c_test c_words c_ill c_before c_inRow c_first c_inWindow c_same c_made c_requests c_total c_secrets c_rounds c_high c_low c_keyHigh c_keyLow)), ((hm 40), .inl (cy 1, 256, .inl c_back)), ((hm 43), .inl (cy 1, 16, .inl c_block_20)), ((hm 39), .inl (cy 1, 256, .inl c_box)), ((hm 6), .inl (cy 1, 512, .inl c_buffer_25)), ((hm 44), .inl (cy 1, 16, .inl c_other_21)), ((hm 45), .inl (cy 1, 600, .inl c_result_3)), ((hm 41), .inl (cy 1, 240, .inl c_round))]) H → va_D A ([(h0, .inr (12, zmo hm c_thrown c_state c_test c_words c_ill c_before c_inRow c_first c_inWindow c_same c_made c_requests c_total c_secrets c_rounds c_high c_low c_keyHigh c_keyLow)), ((hm 40), .inl (cy 1, 256, .inl c_back)), ((hm 43), .inl (cy 1, 16, .inl c_block_20)), ((hm 39), .inl (cy 1, 256, .inl c_box)), ((hm 6), .inl (cy 1, 512, .inl c_buffer_25)), ((hm 44), .inl (cy 1, 16, .inl c_other_21)), ((hm 45), .inl (cy 1, 600, .inl c_result_3)), ((hm 41), .inl (cy 1, 240, .inl c_round))]) → va_S A s.heap H locs → lv_has ls 6 [(0, .ref h0), (1, .int p1), (2, .int p2), (3, .int p3), (4, .int i_5)] → K_26 c_buffer_25 = some (r_, c_block', c_buffer', c_other', c_result') → GW H locs (F0 m 170 ls []) := by
          clear hf hl hP hD hS
          intro c_buffer_25 H locs ls hP hD hS hl hf
          rw [eK_26] at hf
          clear eK_26
          refine hFr _ _ _ ?_
          refine lv_iinc (pc := 170) (v := (i_5 + (16 : Int32))) (lv' := [(4, .int (i_5 + (16 : Int32))), (0, .ref h0), (1, .int p1), (2, .int p2), (3, .int p3)]) hx hb (zdt_at zt_X10_chain_1 29 rfl) hl (k := 4) rfl rfl (by decide) rfl ?_
          clear hl
          intro ls hl
          refine lv_goto (pc := 173) (tgt := 35) hx hb (zdt_at zt_X10_chain_1 30 rfl) (by decide) ?_
          exact hTo _ _ _ (ihself_13 _ hf H locs ls hP hD hS (lv_sub hl [1, 2, 3, 4, 0] rfl))
        clear eK_26
        refine hTo _ _ _ (zl_go (fun z => match z with | (i_23, c_buffer_24) => ∀ (H : Heap) (locs : List Loc) (ls : Array Slot), va_P D vwCl ([(h0, .inr (12, zmo hm c_thrown c_state c_test c_words c_ill c_before c_inRow c_first c_inWindow c_same c_made c_requests c_total c_secrets c_rounds c_high c_low c_keyHigh c_keyLow)), ((hm 40), .inl (cy 1, 256, .inl c_back)), ((hm 43), .inl (cy 1, 16, .inl c_block_20)), ((hm 39), .inl (cy 1, 256, .inl c_box)), ((hm 6), .inl (cy 1, 512, .inl c_buffer_24)), ((hm 44), .inl (cy 1, 16, .inl c_other_21)), ((hm 45), .inl (cy 1, 600, .inl c_result_3)), ((hm 41), .inl (cy 1, 240, .inl c_round))]) H → va_D A ([(h0, .inr (12, zmo hm c_thrown c_state c_test c_words c_ill c_before c_inRow c_first c_inWindow c_same c_made c_requests c_total c_secrets c_rounds c_high c_low c_keyHigh c_keyLow)), ((hm 40), .inl (cy 1, 256, .inl c_back)), ((hm 43), .inl (cy 1, 16, .inl c_block_20)), ((hm 39), .inl (cy 1, 256, .inl c_box)), ((hm 6), .inl (cy 1, 512, .inl c_buffer_24)), ((hm 44), .inl (cy 1, 16, .inl c_other_21)), ((hm 45), .inl (cy 1, 600, .inl c_result_3)), ((hm 41), .inl (cy 1, 240, .inl c_round))]) → va_S A s.heap H locs → lv_has ls 6 [(0, .ref h0), (1, .int p1), (2, .int p2), (3, .int p3), (4, .int i_5), (5, .int i_23)] → GW H locs (F0 m 116 ls [])) hf ?_ H locs ls hP hD hS (lv_sub hl [1, 2, 3, 4, 5, 0] rfl))
        clear hf hl hP hD hS
        intro self_27 ihself_27 z hf
        obtain ⟨i_23, c_buffer_24⟩ := z
        intro H locs ls hP hD hS hl
        refine hFr _ _ _ ?_
        unfold b_X10_chain_116 at hf
        refine lv_iload (pc := 116) hx hb (zdt_at zt_X10_chain_0 63 rfl) (lv_at hl 5 rfl) ?_
        refine lv_bipush (pc := 118) (v := (16 : Int32)) hx hb (zdt_at zt_X10_chain_1 0 rfl) (by decide) ?_
        refine lv_icmp_ge (pc := 120) (tgt := 170) hx hb (zdt_at zt_X10_chain_1 1 rfl) (by decide) (fun cn_ => ?t_28) (fun cn_ => ?f_29)
        case t_28 =>
          replace hf := zt_s cn_ hf
          clear cn_
          exact hTo _ _ _ (kK_26 _ H locs ls hP hD hS (lv_sub hl [0, 1, 2, 3, 4] rfl) hf)
        replace hf := ze_s cn_ hf
        clear cn_
        refine lv_aload_n (pc := 123) hx hb (zdt_at zt_X10_chain_1 2 rfl) rfl (lv_at hl 0 rfl) ?_
        refine va_get (pc := 124) (D := D) (ci := 12) (v := .ref (hm 6)) (C := RX10) (T := TX10) (N := 52) hx hb hts hcX10 hown hK hP 0 rfl rfl 6 (by decide) hw0 (fun _ h9 => h9) rfl (zdt_at zt_X10_chain_1 3 rfl) ?_
        refine lv_iload_n (pc := 127) hx hb (zdt_at zt_X10_chain_1 4 rfl) rfl (lv_at hl 2 rfl) ?_
        refine lv_iload (pc := 128) hx hb (zdt_at zt_X10_chain_1 5 rfl) (lv_at hl 4 rfl) ?_
        refine lv_iadd (pc := 130) hx hb (zdt_at zt_X10_chain_1 6 rfl) ?_
        refine lv_iload (pc := 131) hx hb (zdt_at zt_X10_chain_1 7 rfl) (lv_at hl 5 rfl) ?_
        refine lv_iadd (pc := 133) hx hb (zdt_at zt_X10_chain_1 8 rfl) ?_
        refine lv_aload_n (pc := 134) hx hb (zdt_at zt_X10_chain_1 9 rfl) rfl (lv_at hl 0 rfl) ?_
        refine va_get (pc := 135) (D := D) (ci := 12) (v := .ref (hm 43)) (C := RX10) (T := TX10) (N := 52) hx hb hts hcX10 hown hK hP 0 rfl rfl 43 (by decide) hw1 (fun _ h9 => h9) rfl (zdt_at zt_X10_chain_1 10 rfl) ?_
        refine lv_iload (pc := 138) hx hb (zdt_at zt_X10_chain_1 11 rfl) (lv_at hl 5 rfl) ?_
        replace hf := zk_s hf
        refine va_iald (pc := 140) hx hb hK hP 2 1 rfl rfl hf.1 (zdt_at zt_X10_chain_1 12 rfl) ?_
        replace hf := hf.2
        refine lv_iload_n (pc := 141) hx hb (zdt_at zt_X10_chain_1 13 rfl) rfl (lv_at hl 1 rfl) ?_
        refine lv_if_eq (pc := 142) (tgt := 149) hx hb (zdt_at zt_X10_chain_1 14 rfl) (by decide) (fun cn_ => ?t_30) (fun cn_ => ?f_31)
        case f_31 =>
          replace hf := ze_s cn_ hf
          clear cn_
          refine lv_iconst (pc := 145) (v := (0 : Int32)) hx hb (zdt_at zt_X10_chain_1 15 rfl) (by decide) ?_
          refine lv_goto (pc := 146) (tgt := 162) hx hb (zdt_at zt_X10_chain_1 16 rfl) (by decide) ?_
          refine lv_ixor (pc := 162) hx hb (zdt_at zt_X10_chain_1 25 rfl) ?_
          replace hf := zk_s hf
          refine va_iast (pc := 163) hx hb hK hP hD hS 4 1 rfl rfl hf.1 (zdt_at zt_X10_chain_1 26 rfl) ?_
          replace hf := hf.2
          clear hP hD hS
          intro H locs hP hD hS
          obtain ⟨c_buffer_33, e_⟩ : ∃ q : Nat → Int32, q = (upd c_buffer_24 ((p2 + i_5) + i_23).toNatClampNeg ((c_block_20 i_23.toNatClampNeg) ^^^ (0 : Int32))) := ⟨_, rfl⟩
          replace hf := zn_s hf e_
          replace hP : va_P D vwCl ([(h0, .inr (12, zmo hm c_thrown c_state c_test c_words c_ill c_before c_inRow c_first c_inWindow c_same c_made c_requests c_total c_secrets c_rounds c_high c_low c_keyHigh c_keyLow)), ((hm 40), .inl (cy 1, 256, .inl c_back)), ((hm 43), .inl (cy 1, 16, .inl c_block_20)), ((hm 39), .inl (cy 1, 256, .inl c_box)), ((hm 6), .inl (cy 1, 512, .inl c_buffer_33)), ((hm 44), .inl (cy 1, 16, .inl c_other_21)), ((hm 45), .inl (cy 1, 600, .inl c_result_3)), ((hm 41), .inl (cy 1, 240, .inl c_round))]) H := by rw [e_]; exact hP
          replace hD : va_D A ([(h0, .inr (12, zmo hm c_thrown c_state c_test c_words c_ill c_before c_inRow c_first c_inWindow c_same c_made c_requests c_total c_secrets c_rounds c_high c_low c_keyHigh c_keyLow)), ((hm 40), .inl (cy 1, 256, .inl c_back)), ((hm 43), .inl (cy 1, 16, .inl c_block_20)), ((hm 39), .inl (cy 1, 256, .inl c_box)), ((hm 6), .inl (cy 1, 512, .inl c_buffer_33)), ((hm 44), .inl (cy 1, 16, .inl c_other_21)), ((hm 45), .inl (cy 1, 600, .inl c_result_3)), ((hm 41), .inl (cy 1, 240, .inl c_round))]) := by rw [e_]; exact hD
          clear e_
          refine lv_iinc (pc := 164) (v := (i_23 + (1 : Int32))) (lv' := [(5, .int (i_23 + (1 : Int32))), (0, .ref h0), (1, .int p1), (2, .int p2), (3, .int p3), (4, .int i_5)]) hx hb (zdt_at zt_X10_chain_1 27 rfl) hl (k := 5) rfl rfl (by decide) rfl ?_
          clear hl
          intro ls hl
          refine lv_goto (pc := 167) (tgt := 116) hx hb (zdt_at zt_X10_chain_1 28 rfl) (by decide) ?_
          exact hTo _ _ _ (ihself_27 _ hf H locs ls hP hD hS (lv_sub hl [1, 2, 3, 4, 5, 0] rfl))
        replace hf := zt_s cn_ hf
        clear cn_
        refine lv_aload_n (pc := 149) hx hb (zdt_at zt_X10_chain_1 17 rfl) rfl (lv_at hl 0 rfl) ?_
        refine va_get (pc := 150) (D := D) (ci := 12) (v := .ref (hm 45)) (C := RX10) (T := TX10) (N := 52) hx hb hts hcX10 hown hK hP 0 rfl rfl 45 (by decide) hw2 (fun _ h9 => h9) rfl (zdt_at zt_X10_chain_1 18 rfl) ?_
        refine lv_iload (pc := 153) hx hb (zdt_at zt_X10_chain_1 19 rfl) (lv_at hl 4 rfl) ?_
        refine lv_iload (pc := 155) hx hb (zdt_at zt_X10_chain_1 20 rfl) (lv_at hl 5 rfl) ?_
        refine lv_iadd (pc := 157) hx hb (zdt_at zt_X10_chain_1 21 rfl) ?_
        refine lv_bipush (pc := 158) (v := (16 : Int32)) hx hb (zdt_at zt_X10_chain_1 22 rfl) (by decide) ?_
        refine lv_isub (pc := 160) hx hb (zdt_at zt_X10_chain_1 23 rfl) ?_
        replace hf := zk_s hf
        refine va_iald (pc := 161) hx hb hK hP 6 1 rfl rfl hf.1 (zdt_at zt_X10_chain_1 24 rfl) ?_
        replace hf := hf.2
        refine lv_ixor (pc := 162) hx hb (zdt_at zt_X10_chain_1 25 rfl) ?_
        replace hf := zk_s hf
        refine va_iast (pc := 163) hx hb hK hP hD hS 4 1 rfl rfl hf.1 (zdt_at zt_X10_chain_1 26 rfl) ?_
        replace hf := hf.2
        clear hP hD hS
        intro H locs hP hD hS
        obtain ⟨c_buffer_32, e_⟩ : ∃ q : Nat → Int32, q = (upd c_buffer_24 ((p2 + i_5) + i_23).toNatClampNeg ((c_block_20 i_23.toNatClampNeg) ^^^ (c_result_3 ((i_5 + i_23) - (16 : Int32)).toNatClampNeg))) := ⟨_, rfl⟩
        replace hf := zn_s hf e_
        replace hP : va_P D vwCl ([(h0, .inr (12, zmo hm c_thrown c_state c_test c_words c_ill c_before c_inRow c_first c_inWindow c_same c_made c_requests c_total c_secrets c_rounds c_high c_low c_keyHigh c_keyLow)), ((hm 40), .inl (cy 1, 256, .inl c_back)), ((hm 43), .inl (cy 1, 16, .inl c_block_20)), ((hm 39), .inl (cy 1, 256, .inl c_box)), ((hm 6), .inl (cy 1, 512, .inl c_buffer_32)), ((hm 44), .inl (cy 1, 16, .inl c_other_21)), ((hm 45), .inl (cy 1, 600, .inl c_result_3)), ((hm 41), .inl (cy 1, 240, .inl c_round))]) H := by rw [e_]; exact hP
        replace hD : va_D A ([(h0, .inr (12, zmo hm c_thrown c_state c_test c_words c_ill c_before c_inRow c_first c_inWindow c_same c_made c_requests c_total c_secrets c_rounds c_high c_low c_keyHigh c_keyLow)), ((hm 40), .inl (cy 1, 256, .inl c_back)), ((hm 43), .inl (cy 1, 16, .inl c_block_20)), ((hm 39), .inl (cy 1, 256, .inl c_box)), ((hm 6), .inl (cy 1, 512, .inl c_buffer_32)), ((hm 44), .inl (cy 1, 16, .inl c_other_21)), ((hm 45), .inl (cy 1, 600, .inl c_result_3)), ((hm 41), .inl (cy 1, 240, .inl c_round))]) := by rw [e_]; exact hD
        clear e_
        refine lv_iinc (pc := 164) (v := (i_23 + (1 : Int32))) (lv' := [(5, .int (i_23 + (1 : Int32))), (0, .ref h0), (1, .int p1), (2, .int p2), (3, .int p3), (4, .int i_5)]) hx hb (zdt_at zt_X10_chain_1 27 rfl) hl (k := 5) rfl rfl (by decide) rfl ?_
        clear hl
        intro ls hl
        refine lv_goto (pc := 167) (tgt := 116) hx hb (zdt_at zt_X10_chain_1 28 rfl) (by decide) ?_
        exact hTo _ _ _ (ihself_27 _ hf H locs ls hP hD hS (lv_sub hl [1, 2, 3, 4, 5, 0] rfl))
      clear eK_22
      refine lv_if_eq (pc := 99) (tgt := 109) hx hb (zdt_at zt_X10_chain_0 55 rfl) (by decide) (fun cn_ => ?t_34) (fun cn_ => ?f_35)
      case t_34 =>
        replace hf := zt_s cn_ hf
        clear cn_
        refine lv_aload_n (pc := 109) hx hb (zdt_at zt_X10_chain_0 59 rfl) rfl (lv_at hl 0 rfl) ?_
        replace hf := zb_s hf
        obtain ⟨⟨c_block_36, c_other_37⟩, hc_, hf⟩ := hf
        refine zcn2 (pc := 110) (rv := none) (va_runV (As := []) (rest := []) ⟨hx, hb, hml, hown, hts⟩ (c_X10_unseal l D cy tt H.size h0 hm c_rounds c_back c_block_18 c_other_8 c_round c_thrown c_state c_test c_words c_ill c_before c_inRow c_first c_inWindow c_same c_made c_requests c_total c_secrets c_high c_low c_keyHigh c_keyLow c_block_36 c_other_37 hc_) (cwV 0 hts gX10_chain_X10_unseal rfl rfl rfl (by decide +kernel) ⟨Nat.le_of_ble_eq_true rfl, Nat.le_of_ble_eq_true rfl⟩) ⟨zblind, va_recv hK hP (ci := 12) (q0 := 0) rfl rfl, zpre hE hS (hP.sub [0, 1, 2, 5, 7] rfl) (hD.sub [0, 1, 2, 5, 7] (by decide) rfl) (va_free hD hS hA [0, 1, 2, 5, 7] rfl)⟩ rfl rfl hl.1 rfl (lv_room (Nat.le_of_ble_eq_true rfl)) (zdt_at zt_X10_chain_0 60 rfl) ⟨Nat.zero_le _, Nat.zero_le _⟩) hS hP hD (va_free hD hS hA [0, 1, 2, 5, 7] rfl) [0, 1, 2, 5, 7] rfl (by decide) rfl ?_
        clear hP hD hS hc_
        intro H locs hP hD hS
        replace hP : va_P D vwCl ([(h0, .inr (12, zmo hm c_thrown c_state c_test c_words c_ill c_before c_inRow c_first c_inWindow c_same c_made c_requests c_total c_secrets c_rounds c_high c_low c_keyHigh c_keyLow)), ((hm 40), .inl (cy 1, 256, .inl c_back)), ((hm 43), .inl (cy 1, 16, .inl c_block_36)), ((hm 39), .inl (cy 1, 256, .inl c_box)), ((hm 6), .inl (cy 1, 512, .inl c_buffer_7)), ((hm 44), .inl (cy 1, 16, .inl c_other_37)), ((hm 45), .inl (cy 1, 600, .inl c_result_3)), ((hm 41), .inl (cy 1, 240, .inl c_round))]) H := hP
        replace hD : va_D A ([(h0, .inr (12, zmo hm c_thrown c_state c_test c_words c_ill c_before c_inRow c_first c_inWindow c_same c_made c_requests c_total c_secrets c_rounds c_high c_low c_keyHigh c_keyLow)), ((hm 40), .inl (cy 1, 256, .inl c_back)), ((hm 43), .inl (cy 1, 16, .inl c_block_36)), ((hm 39), .inl (cy 1, 256, .inl c_box)), ((hm 6), .inl (cy 1, 512, .inl c_buffer_7)), ((hm 44), .inl (cy 1, 16, .inl c_other_37)), ((hm 45), .inl (cy 1, 600, .inl c_result_3)), ((hm 41), .inl (cy 1, 240, .inl c_round))]) := hD
        refine W.eq (g2 := F0 m 113 ls []) rfl ?_
        exact hTo _ _ _ (kK_22 _ _ H locs ls hP hD hS (lv_sub hl [0, 1, 2, 3, 4] rfl) hf)
      replace hf := ze_s cn_ hf
      clear cn_
      refine lv_aload_n (pc := 102) hx hb (zdt_at zt_X10_chain_0 56 rfl) rfl (lv_at hl 0 rfl) ?_
      replace hf := zb_s hf
      obtain ⟨⟨c_block_38, c_other_39⟩, hc_, hf⟩ := hf
      refine zcn2 (pc := 103) (rv := none) (va_runV (As := []) (rest := []) ⟨hx, hb, hml, hown, hts⟩ (c_X10_seal l D cy tt H.size h0 hm c_rounds c_block_18 c_box c_other_8 c_round c_thrown c_state c_test c_words c_ill c_before c_inRow c_first c_inWindow c_same c_made c_requests c_total c_secrets c_high c_low c_keyHigh c_keyLow c_block_38 c_other_39 hc_) (cwV 0 hts gX10_chain_X10_seal rfl rfl rfl (by decide +kernel) ⟨Nat.le_of_ble_eq_true rfl, Nat.le_of_ble_eq_true rfl⟩) ⟨zblind, va_recv hK hP (ci := 12) (q0 := 0) rfl rfl, zpre hE hS (hP.sub [0, 2, 3, 5, 7] rfl) (hD.sub [0, 2, 3, 5, 7] (by decide) rfl) (va_free hD hS hA [0, 2, 3, 5, 7] rfl)⟩ rfl rfl hl.1 rfl (lv_room (Nat.le_of_ble_eq_true rfl)) (zdt_at zt_X10_chain_0 57 rfl) ⟨Nat.zero_le _, Nat.zero_le _⟩) hS hP hD (va_free hD hS hA [0, 2, 3, 5, 7] rfl) [0, 2, 3, 5, 7] rfl (by decide) rfl ?_
      clear hP hD hS hc_
      intro H locs hP hD hS
      replace hP : va_P D vwCl ([(h0, .inr (12, zmo hm c_thrown c_state c_test c_words c_ill c_before c_inRow c_first c_inWindow c_same c_made c_requests c_total c_secrets c_rounds c_high c_low c_keyHigh c_keyLow)), ((hm 40), .inl (cy 1, 256, .inl c_back)), ((hm 43), .inl (cy 1, 16, .inl c_block_38)), ((hm 39), .inl (cy 1, 256, .inl c_box)), ((hm 6), .inl (cy 1, 512, .inl c_buffer_7)), ((hm 44), .inl (cy 1, 16, .inl c_other_39)), ((hm 45), .inl (cy 1, 600, .inl c_result_3)), ((hm 41), .inl (cy 1, 240, .inl c_round))]) H := hP
      replace hD : va_D A ([(h0, .inr (12, zmo hm c_thrown c_state c_test c_words c_ill c_before c_inRow c_first c_inWindow c_same c_made c_requests c_total c_secrets c_rounds c_high c_low c_keyHigh c_keyLow)), ((hm 40), .inl (cy 1, 256, .inl c_back)), ((hm 43), .inl (cy 1, 16, .inl c_block_38)), ((hm 39), .inl (cy 1, 256, .inl c_box)), ((hm 6), .inl (cy 1, 512, .inl c_buffer_7)), ((hm 44), .inl (cy 1, 16, .inl c_other_39)), ((hm 45), .inl (cy 1, 600, .inl c_result_3)), ((hm 41), .inl (cy 1, 240, .inl c_round))]) := hD
      refine W.eq (g2 := F0 m 106 ls []) rfl ?_
      refine lv_goto (pc := 106) (tgt := 113) hx hb (zdt_at zt_X10_chain_0 58 rfl) (by decide) ?_
      exact hTo _ _ _ (kK_22 _ _ H locs ls hP hD hS (lv_sub hl [0, 1, 2, 3, 4] rfl) hf)
    clear eK_19
    refine hTo _ _ _ (zl_go (fun z => match z with | (i_16, c_block_17) => ∀ (H : Heap) (locs : List Loc) (ls : Array Slot), va_P D vwCl ([(h0, .inr (12, zmo hm c_thrown c_state c_test c_words c_ill c_before c_inRow c_first c_inWindow c_same c_made c_requests c_total c_secrets c_rounds c_high c_low c_keyHigh c_keyLow)), ((hm 40), .inl (cy 1, 256, .inl c_back)), ((hm 43), .inl (cy 1, 16, .inl c_block_17)), ((hm 39), .inl (cy 1, 256, .inl c_box)), ((hm 6), .inl (cy 1, 512, .inl c_buffer_7)), ((hm 44), .inl (cy 1, 16, .inl c_other_8)), ((hm 45), .inl (cy 1, 600, .inl c_result_3)), ((hm 41), .inl (cy 1, 240, .inl c_round))]) H → va_D A ([(h0, .inr (12, zmo hm c_thrown c_state c_test c_words c_ill c_before c_inRow c_first c_inWindow c_same c_made c_requests c_total c_secrets c_rounds c_high c_low c_keyHigh c_keyLow)), ((hm 40), .inl (cy 1, 256, .inl c_back)), ((hm 43), .inl (cy 1, 16, .inl c_block_17)), ((hm 39), .inl (cy 1, 256, .inl c_box)), ((hm 6), .inl (cy 1, 512, .inl c_buffer_7)), ((hm 44), .inl (cy 1, 16, .inl c_other_8)), ((hm 45), .inl (cy 1, 600, .inl c_result_3)), ((hm 41), .inl (cy 1, 240, .inl c_round))]) → va_S A s.heap H locs → lv_has ls 6 [(0, .ref h0), (1, .int p1), (2, .int p2), (3, .int p3), (4, .int i_5), (5, .int i_16)] → GW H locs (F0 m 44 ls [])) hf ?_ H locs ls hP hD hS (lv_sub hl [1, 2, 3, 4, 5, 0] rfl))
    clear hf hl hP hD hS
    intro self_40 ihself_40 z hf
    obtain ⟨i_16, c_block_17⟩ := z
    intro H locs ls hP hD hS hl
    refine hFr _ _ _ ?_
    unfold b_X10_chain_44 at hf
    refine lv_iload (pc := 44) hx hb (zdt_at zt_X10_chain_0 24 rfl) (lv_at hl 5 rfl) ?_
    refine lv_bipush (pc := 46) (v := (16 : Int32)) hx hb (zdt_at zt_X10_chain_0 25 rfl) (by decide) ?_
    refine lv_icmp_ge (pc := 48) (tgt := 98) hx hb (zdt_at zt_X10_chain_0 26 rfl) (by decide) (fun cn_ => ?t_41) (fun cn_ => ?f_42)
    case t_41 =>
      replace hf := zt_s cn_ hf
      clear cn_
      exact hTo _ _ _ (kK_19 _ H locs ls hP hD hS (lv_sub hl [0, 1, 2, 3, 4] rfl) hf)
    replace hf := ze_s cn_ hf
    clear cn_
    refine lv_aload_n (pc := 51) hx hb (zdt_at zt_X10_chain_0 27 rfl) rfl (lv_at hl 0 rfl) ?_
    refine va_get (pc := 52) (D := D) (ci := 12) (v := .ref (hm 43)) (C := RX10) (T := TX10) (N := 52) hx hb hts hcX10 hown hK hP 0 rfl rfl 43 (by decide) hw1 (fun _ h9 => h9) rfl (zdt_at zt_X10_chain_0 28 rfl) ?_
    refine lv_iload (pc := 55) hx hb (zdt_at zt_X10_chain_0 29 rfl) (lv_at hl 5 rfl) ?_
    refine lv_aload_n (pc := 57) hx hb (zdt_at zt_X10_chain_0 30 rfl) rfl (lv_at hl 0 rfl) ?_
    refine va_get (pc := 58) (D := D) (ci := 12) (v := .ref (hm 45)) (C := RX10) (T := TX10) (N := 52) hx hb hts hcX10 hown hK hP 0 rfl rfl 45 (by decide) hw2 (fun _ h9 => h9) rfl (zdt_at zt_X10_chain_0 31 rfl) ?_
    refine lv_iload (pc := 61) hx hb (zdt_at zt_X10_chain_0 32 rfl) (lv_at hl 4 rfl) ?_
    refine lv_iload (pc := 63) hx hb (zdt_at zt_X10_chain_0 33 rfl) (lv_at hl 5 rfl) ?_
    refine lv_iadd (pc := 65) hx hb (zdt_at zt_X10_chain_0 34 rfl) ?_
    replace hf := zk_s hf
    refine va_iald (pc := 66) hx hb hK hP 6 1 rfl rfl hf.1 (zdt_at zt_X10_chain_0 35 rfl) ?_
    replace hf := hf.2
    refine lv_iload_n (pc := 67) hx hb (zdt_at zt_X10_chain_0 36 rfl) rfl (lv_at hl 1 rfl) ?_
    refine lv_if_eq (pc := 68) (tgt := 89) hx hb (zdt_at zt_X10_chain_0 37 rfl) (by decide) (fun cn_ => ?t_43) (fun cn_ => ?f_44)
    case t_43 =>
      replace hf := zt_s cn_ hf
      clear cn_
      refine lv_iconst (pc := 89) (v := (0 : Int32)) hx hb (zdt_at zt_X10_chain_0 49 rfl) (by decide) ?_
      refine lv_ixor (pc := 90) hx hb (zdt_at zt_X10_chain_0 50 rfl) ?_
      replace hf := zk_s hf
      refine va_iast (pc := 91) hx hb hK hP hD hS 2 1 rfl rfl hf.1 (zdt_at zt_X10_chain_0 51 rfl) ?_
      replace hf := hf.2
      clear hP hD hS
      intro H locs hP hD hS
      obtain ⟨c_block_45, e_⟩ : ∃ q : Nat → Int32, q = (upd c_block_17 i_16.toNatClampNeg ((c_result_3 (i_5 + i_16).toNatClampNeg) ^^^ (0 : Int32))) := ⟨_, rfl⟩
      replace hf := zn_s hf e_
      replace hP : va_P D vwCl ([(h0, .inr (12, zmo hm c_thrown c_state c_test c_words c_ill c_before c_inRow c_first c_inWindow c_same c_made c_requests c_total c_secrets c_rounds c_high c_low c_keyHigh c_keyLow)), ((hm 40), .inl (cy 1, 256, .inl c_back)), ((hm 43), .inl (cy 1, 16, .inl c_block_45)), ((hm 39), .inl (cy 1, 256, .inl c_box)), ((hm 6), .inl (cy 1, 512, .inl c_buffer_7)), ((hm 44), .inl (cy 1, 16, .inl c_other_8)), ((hm 45), .inl (cy 1, 600, .inl c_result_3)), ((hm 41), .inl (cy 1, 240, .inl c_round))]) H := by rw [e_]; exact hP
      replace hD : va_D A ([(h0, .inr (12, zmo hm c_thrown c_state c_test c_words c_ill c_before c_inRow c_first c_inWindow c_same c_made c_requests c_total c_secrets c_rounds c_high c_low c_keyHigh c_keyLow)), ((hm 40), .inl (cy 1, 256, .inl c_back)), ((hm 43), .inl (cy 1, 16, .inl c_block_45)), ((hm 39), .inl (cy 1, 256, .inl c_box)), ((hm 6), .inl (cy 1, 512, .inl c_buffer_7)), ((hm 44), .inl (cy 1, 16, .inl c_other_8)), ((hm 45), .inl (cy 1, 600, .inl c_result_3)), ((hm 41), .inl (cy 1, 240, .inl c_round))]) := by rw [e_]; exact hD
      clear e_
      refine lv_iinc (pc := 92) (v := (i_16 + (1 : Int32))) (lv' := [(5, .int (i_16 + (1 : Int32))), (0, .ref h0), (1, .int p1), (2, .int p2), (3, .int p3), (4, .int i_5)]) hx hb (zdt_at zt_X10_chain_0 52 rfl) hl (k := 5) rfl rfl (by decide) rfl ?_
      clear hl
      intro ls hl
      refine lv_goto (pc := 95) (tgt := 44) hx hb (zdt_at zt_X10_chain_0 53 rfl) (by decide) ?_
      exact hTo _ _ _ (ihself_40 _ hf H locs ls hP hD hS (lv_sub hl [1, 2, 3, 4, 5, 0] rfl))
    replace hf := ze_s cn_ hf
    clear cn_
    refine lv_aload_n (pc := 71) hx hb (zdt_at zt_X10_chain_0 38 rfl) rfl (lv_at hl 0 rfl) ?_
    refine va_get (pc := 72) (D := D) (ci := 12) (v := .ref (hm 6)) (C := RX10) (T := TX10) (N := 52) hx hb hts hcX10 hown hK hP 0 rfl rfl 6 (by decide) hw0 (fun _ h9 => h9) rfl (zdt_at zt_X10_chain_0 39 rfl) ?_
    refine lv_iload_n (pc := 75) hx hb (zdt_at zt_X10_chain_0 40 rfl) rfl (lv_at hl 2 rfl) ?_
    refine lv_iload (pc := 76) hx hb (zdt_at zt_X10_chain_0 41 rfl) (lv_at hl 4 rfl) ?_
    refine lv_iadd (pc := 78) hx hb (zdt_at zt_X10_chain_0 42 rfl) ?_
    refine lv_iload (pc := 79) hx hb (zdt_at zt_X10_chain_0 43 rfl) (lv_at hl 5 rfl) ?_
    refine lv_iadd (pc := 81) hx hb (zdt_at zt_X10_chain_0 44 rfl) ?_
    refine lv_bipush (pc := 82) (v := (16 : Int32)) hx hb (zdt_at zt_X10_chain_0 45 rfl) (by decide) ?_
    refine lv_isub (pc := 84) hx hb (zdt_at zt_X10_chain_0 46 rfl) ?_
    replace hf := zk_s hf
    refine va_iald (pc := 85) hx hb hK hP 4 1 rfl rfl hf.1 (zdt_at zt_X10_chain_0 47 rfl) ?_
    replace hf := hf.2
    refine lv_goto (pc := 86) (tgt := 90) hx hb (zdt_at zt_X10_chain_0 48 rfl) (by decide) ?_
    refine lv_ixor (pc := 90) hx hb (zdt_at zt_X10_chain_0 50 rfl) ?_
    replace hf := zk_s hf
    refine va_iast (pc := 91) hx hb hK hP hD hS 2 1 rfl rfl hf.1 (zdt_at zt_X10_chain_0 51 rfl) ?_
    replace hf := hf.2
    clear hP hD hS
    intro H locs hP hD hS
    obtain ⟨c_block_46, e_⟩ : ∃ q : Nat → Int32, q = (upd c_block_17 i_16.toNatClampNeg ((c_result_3 (i_5 + i_16).toNatClampNeg) ^^^ (c_buffer_7 (((p2 + i_5) + i_16) - (16 : Int32)).toNatClampNeg))) := ⟨_, rfl⟩
    replace hf := zn_s hf e_
    replace hP : va_P D vwCl ([(h0, .inr (12, zmo hm c_thrown c_state c_test c_words c_ill c_before c_inRow c_first c_inWindow c_same c_made c_requests c_total c_secrets c_rounds c_high c_low c_keyHigh c_keyLow)), ((hm 40), .inl (cy 1, 256, .inl c_back)), ((hm 43), .inl (cy 1, 16, .inl c_block_46)), ((hm 39), .inl (cy 1, 256, .inl c_box)), ((hm 6), .inl (cy 1, 512, .inl c_buffer_7)), ((hm 44), .inl (cy 1, 16, .inl c_other_8)), ((hm 45), .inl (cy 1, 600, .inl c_result_3)), ((hm 41), .inl (cy 1, 240, .inl c_round))]) H := by rw [e_]; exact hP
    replace hD : va_D A ([(h0, .inr (12, zmo hm c_thrown c_state c_test c_words c_ill c_before c_inRow c_first c_inWindow c_same c_made c_requests c_total c_secrets c_rounds c_high c_low c_keyHigh c_keyLow)), ((hm 40), .inl (cy 1, 256, .inl c_back)), ((hm 43), .inl (cy 1, 16, .inl c_block_46)), ((hm 39), .inl (cy 1, 256, .inl c_box)), ((hm 6), .inl (cy 1, 512, .inl c_buffer_7)), ((hm 44), .inl (cy 1, 16, .inl c_other_8)), ((hm 45), .inl (cy 1, 600, .inl c_result_3)), ((hm 41), .inl (cy 1, 240, .inl c_round))]) := by rw [e_]; exact hD
    clear e_
    refine lv_iinc (pc := 92) (v := (i_16 + (1 : Int32))) (lv' := [(5, .int (i_16 + (1 : Int32))), (0, .ref h0), (1, .int p1), (2, .int p2), (3, .int p3), (4, .int i_5)]) hx hb (zdt_at zt_X10_chain_0 52 rfl) hl (k := 5) rfl rfl (by decide) rfl ?_
    clear hl
    intro ls hl
    refine lv_goto (pc := 95) (tgt := 44) hx hb (zdt_at zt_X10_chain_0 53 rfl) (by decide) ?_
    exact hTo _ _ _ (ihself_40 _ hf H locs ls hP hD hS (lv_sub hl [1, 2, 3, 4, 5, 0] rfl))
  clear eK_4
  refine hTo _ _ _ (zl_go (fun z => match z with | (i_1, c_result_2) => ∀ (H : Heap) (locs : List Loc) (ls : Array Slot), va_P D vwCl ([(h0, .inr (12, zmo hm c_thrown c_state c_test c_words c_ill c_before c_inRow c_first c_inWindow c_same c_made c_requests c_total c_secrets c_rounds c_high c_low c_keyHigh c_keyLow)), ((hm 40), .inl (cy 1, 256, .inl c_back)), ((hm 43), .inl (cy 1, 16, .inl c_block)), ((hm 39), .inl (cy 1, 256, .inl c_box)), ((hm 6), .inl (cy 1, 512, .inl c_buffer)), ((hm 44), .inl (cy 1, 16, .inl c_other)), ((hm 45), .inl (cy 1, 600, .inl c_result_2)), ((hm 41), .inl (cy 1, 240, .inl c_round))]) H → va_D A ([(h0, .inr (12, zmo hm c_thrown c_state c_test c_words c_ill c_before c_inRow c_first c_inWindow c_same c_made c_requests c_total c_secrets c_rounds c_high c_low c_keyHigh c_keyLow)), ((hm 40), .inl (cy 1, 256, .inl c_back)), ((hm 43), .inl (cy 1, 16, .inl c_block)), ((hm 39), .inl (cy 1, 256, .inl c_box)), ((hm 6), .inl (cy 1, 512, .inl c_buffer)), ((hm 44), .inl (cy 1, 16, .inl c_other)), ((hm 45), .inl (cy 1, 600, .inl c_result_2)), ((hm 41), .inl (cy 1, 240, .inl c_round))]) → va_S A s.heap H locs → lv_has ls 6 [(0, .ref h0), (1, .int p1), (2, .int p2), (3, .int p3), (4, .int i_1)] → GW H locs (F0 m 3 ls [])) hf ?_ H locs ls hP hD hS (lv_sub hl [1, 2, 3, 4, 0] rfl))
  clear hf hl hP hD hS
  intro self_47 ihself_47 z hf
  obtain ⟨i_1, c_result_2⟩ := z
  intro H locs ls hP hD hS hl
  refine hFr _ _ _ ?_
  unfold b_X10_chain_3 at hf
  refine lv_iload (pc := 3) hx hb (zdt_at zt_X10_chain_0 2 rfl) (lv_at hl 4 rfl) ?_
  refine lv_iload_n (pc := 5) hx hb (zdt_at zt_X10_chain_0 3 rfl) rfl (lv_at hl 3 rfl) ?_
  refine lv_icmp_ge (pc := 6) (tgt := 31) hx hb (zdt_at zt_X10_chain_0 4 rfl) (by decide) (fun cn_ => ?t_48) (fun cn_ => ?f_49)
  case t_48 =>
    replace hf := zt_s cn_ hf
    clear cn_
    exact hTo _ _ _ (kK_4 _ H locs ls hP hD hS (lv_sub hl [0, 1, 2, 3] rfl) hf)
  replace hf := ze_s cn_ hf
  clear cn_
  refine lv_aload_n (pc := 9) hx hb (zdt_at zt_X10_chain_0 5 rfl) rfl (lv_at hl 0 rfl) ?_
  refine va_get (pc := 10) (D := D) (ci := 12) (v := .ref (hm 45)) (C := RX10) (T := TX10) (N := 52) hx hb hts hcX10 hown hK hP 0 rfl rfl 45 (by decide) hw2 (fun _ h9 => h9) rfl (zdt_at zt_X10_chain_0 6 rfl) ?_
  refine lv_iload (pc := 13) hx hb (zdt_at zt_X10_chain_0 7 rfl) (lv_at hl 4 rfl) ?_
  refine lv_aload_n (pc := 15) hx hb (zdt_at zt_X10_chain_0 8 rfl) rfl (lv_at hl 0 rfl) ?_
  refine va_get (pc := 16) (D := D) (ci := 12) (v := .ref (hm 6)) (C := RX10) (T := TX10) (N := 52) hx hb hts hcX10 hown hK hP 0 rfl rfl 6 (by decide) hw0 (fun _ h9 => h9) rfl (zdt_at zt_X10_chain_0 9 rfl) ?_
  refine lv_iload_n (pc := 19) hx hb (zdt_at zt_X10_chain_0 10 rfl) rfl (lv_at hl 2 rfl) ?_
  refine lv_iload (pc := 20) hx hb (zdt_at zt_X10_chain_0 11 rfl) (lv_at hl 4 rfl) ?_
  refine lv_iadd (pc := 22) hx hb (zdt_at zt_X10_chain_0 12 rfl) ?_
  replace hf := zk_s hf
  refine va_iald (pc := 23) hx hb hK hP 4 1 rfl rfl hf.1 (zdt_at zt_X10_chain_0 13 rfl) ?_
  replace hf := hf.2
  replace hf := zk_s hf
  refine va_iast (pc := 24) hx hb hK hP hD hS 6 1 rfl rfl hf.1 (zdt_at zt_X10_chain_0 14 rfl) ?_
  replace hf := hf.2
  clear hP hD hS
  intro H locs hP hD hS
  obtain ⟨c_result_50, e_⟩ : ∃ q : Nat → Int32, q = (upd c_result_2 i_1.toNatClampNeg (c_buffer (p2 + i_1).toNatClampNeg)) := ⟨_, rfl⟩
  replace hf := zn_s hf e_
  replace hP : va_P D vwCl ([(h0, .inr (12, zmo hm c_thrown c_state c_test c_words c_ill c_before c_inRow c_first c_inWindow c_same c_made c_requests c_total c_secrets c_rounds c_high c_low c_keyHigh c_keyLow)), ((hm 40), .inl (cy 1, 256, .inl c_back)), ((hm 43), .inl (cy 1, 16, .inl c_block)), ((hm 39), .inl (cy 1, 256, .inl c_box)), ((hm 6), .inl (cy 1, 512, .inl c_buffer)), ((hm 44), .inl (cy 1, 16, .inl c_other)), ((hm 45), .inl (cy 1, 600, .inl c_result_50)), ((hm 41), .inl (cy 1, 240, .inl c_round))]) H := by rw [e_]; exact hP
  replace hD : va_D A ([(h0, .inr (12, zmo hm c_thrown c_state c_test c_words c_ill c_before c_inRow c_first c_inWindow c_same c_made c_requests c_total c_secrets c_rounds c_high c_low c_keyHigh c_keyLow)), ((hm 40), .inl (cy 1, 256, .inl c_back)), ((hm 43), .inl (cy 1, 16, .inl c_block)), ((hm 39), .inl (cy 1, 256, .inl c_box)), ((hm 6), .inl (cy 1, 512, .inl c_buffer)), ((hm 44), .inl (cy 1, 16, .inl c_other)), ((hm 45), .inl (cy 1, 600, .inl c_result_50)), ((hm 41), .inl (cy 1, 240, .inl c_round))]) := by rw [e_]; exact hD
  clear e_
  refine lv_iinc (pc := 25) (v := (i_1 + (1 : Int32))) (lv' := [(4, .int (i_1 + (1 : Int32))), (0, .ref h0), (1, .int p1), (2, .int p2), (3, .int p3)]) hx hb (zdt_at zt_X10_chain_0 15 rfl) hl (k := 4) rfl rfl (by decide) rfl ?_
  clear hl
  intro ls hl
  refine lv_goto (pc := 28) (tgt := 3) hx hb (zdt_at zt_X10_chain_0 16 rfl) (by decide) ?_
  exact hTo _ _ _ (ihself_47 _ hf H locs ls hP hD hS (lv_sub hl [1, 2, 3, 4, 0] rfl))
set_option maxHeartbeats 4000000 in
set_option maxRecDepth 100000 in
theorem c_X10_count (l : Launch) (D : va_G) (cy : Nat → ClassId) (tt : Nat → Nat) (sz : Nat) (h0 : Nat) (hm : Nat → Nat) (p1 : Int32) (p2 : Int32) (c_rounds : Int32) (c_block : Nat → Int32) (c_box : Nat → Int32) (c_buffer : Nat → Int32) (c_other : Nat → Int32) (c_round : Nat → Int32) (c_thrown : Int32) (c_state : Int32) (c_test : Int32) (c_words : Int32) (c_ill : Int32) (c_before : Int32) (c_inRow : Int32) (c_first : Int32) (c_inWindow : Int32) (c_same : Int32) (c_made : Int32) (c_requests : Int32) (c_total : Int64) (c_secrets : Int32) (c_high : Int64) (c_low : Int64) (c_keyHigh : Int64) (c_keyLow : Int64) (r_ : Int32) (c_block' : Nat → Int32) (c_buffer' : Nat → Int32) (c_other' : Nat → Int32) (hf : f_X10_count p1 p2 c_rounds c_block c_box c_buffer c_other c_round = some (r_, c_block', c_buffer', c_other')) : Met l yX10_count wsX10_count ({ frames := 3, cells := 0, slots := 0, locals := 71 }) (zPc D cy tt sz [.ref h0, .int p1, .int p2] ([(h0, .inr (12, zmo hm c_thrown c_state c_test c_words c_ill c_before c_inRow c_first c_inWindow c_same c_made c_requests c_total c_secrets c_rounds c_high c_low c_keyHigh c_keyLow)), ((hm 43), .inl (cy 1, 16, .inl c_block)), ((hm 39), .inl (cy 1, 256, .inl c_box)), ((hm 6), .inl (cy 1, 512, .inl c_buffer)), ((hm 44), .inl (cy 1, 16, .inl c_other)), ((hm 41), .inl (cy 1, 240, .inl c_round))])) (zQ D (some (.int r_)) ([(h0, .inr (12, zmo hm c_thrown c_state c_test c_words c_ill c_before c_inRow c_first c_inWindow c_same c_made c_requests c_total c_secrets c_rounds c_high c_low c_keyHigh c_keyLow)), ((hm 43), .inl (cy 1, 16, .inl c_block')), ((hm 39), .inl (cy 1, 256, .inl c_box)), ((hm 6), .inl (cy 1, 512, .inl c_buffer')), ((hm 44), .inl (cy 1, 16, .inl c_other')), ((hm 41), .inl (cy 1, 240, .inl c_round))]) (va_A ([(h0, .inr (12, zmo hm c_thrown c_state c_test c_words c_ill c_before c_inRow c_first c_inWindow c_same c_made c_requests c_total c_secrets c_rounds c_high c_low c_keyHigh c_keyLow)), ((hm 43), .inl (cy 1, 16, .inl c_block)), ((hm 39), .inl (cy 1, 256, .inl c_box)), ((hm 6), .inl (cy 1, 512, .inl c_buffer)), ((hm 44), .inl (cy 1, 16, .inl c_other)), ((hm 41), .inl (cy 1, 240, .inl c_round))]) sz)) 0 0 (va_A ([(h0, .inr (12, zmo hm c_thrown c_state c_test c_words c_ill c_before c_inRow c_first c_inWindow c_same c_made c_requests c_total c_secrets c_rounds c_high c_low c_keyHigh c_keyLow)), ((hm 43), .inl (cy 1, 16, .inl c_block)), ((hm 39), .inl (cy 1, 256, .inl c_box)), ((hm 6), .inl (cy 1, 512, .inl c_buffer)), ((hm 44), .inl (cy 1, 16, .inl c_other)), ((hm 41), .inl (cy 1, 240, .inl c_round))]) sz) := by
  refine Met.ofW (cc := cX10_count) (maxL := 6) (ret := (some .int)) (by decide) rfl ?_
  intro p e s m args below meth c s₁ B hml hv
  obtain ⟨rfl, rfl, hP, hD0, hE⟩ := hv
  have hx := B.exec
  have hb := B.bytes
  have hr := B.returns
  have hts := atoms_spec (ws := wsX10_count) B.pre
  have hown : s.vm.findClass RX10 = some m.cls := findClass_of_methodNamed B.named
  have hlocks := B.notSynchronized
  clear B
  have hD := hD0.self (sz := s.heap.size)
  generalize hAe : va_A ([(h0, .inr (12, zmo hm c_thrown c_state c_test c_words c_ill c_before c_inRow c_first c_inWindow c_same c_made c_requests c_total c_secrets c_rounds c_high c_low c_keyHigh c_keyLow)), ((hm 43), .inl (cy 1, 16, .inl c_block)), ((hm 39), .inl (cy 1, 256, .inl c_box)), ((hm 6), .inl (cy 1, 512, .inl c_buffer)), ((hm 44), .inl (cy 1, 16, .inl c_other)), ((hm 41), .inl (cy 1, 240, .inl c_round))]) s.heap.size = A at hD hE ⊢
  have hA : ∀ q : Nat, s.heap.size ≤ q → A q := fun q h => by rw [← hAe]; exact Or.inr h
  clear hAe hD0
  have hS : va_S A s.heap s.heap [] := va_S.rf
  have hK := hE.1
  have hw0 := hts (.fieldLink RX10 84 "SealedModuleModel" "buffer" "[I") (by decide +kernel)
  have hw1 := hts (.fieldLink RX10 162 "SealedModuleModel" "block" "[I") (by decide +kernel)
  have hcX10 : ∀ w ∈ u_ws RX10 TX10 52, w ∈ wsX10_count := (fun _ h => List.mem_cons_of_mem _ (List.mem_append_right _ h))
  have hl := lv_entry ([.ref h0, .int p1, .int p2]) (n := 6) (Nat.le_of_ble_eq_true rfl)
  rw [lg_entry_eq]
  generalize (lg_sl ([.ref h0, .int p1, .int p2]) ++ List.replicate (6 - (lg_sl ([.ref h0, .int p1, .int p2])).length) Slot.unset).toArray = ls at hl ⊢
  replace hl : lv_has ls 6 [(0, .ref h0), (1, .int p1), (2, .int p2)] := hl
  unfold f_X10_count at hf
  refine zgo (fun GW hTo hFr => ?_)
  refine hFr _ _ _ ?_
  obtain ⟨H, hHe⟩ : ∃ H, H = s.heap := ⟨_, rfl⟩
  obtain ⟨locs, hLe⟩ : ∃ L : List Loc, L = [] := ⟨_, rfl⟩
  rw [← hHe] at hP
  replace hS : va_S A s.heap H locs := by rw [hHe, hLe]; exact hS
  refine zat hHe.symm hLe.symm ?_
  clear hHe hLe
  refine lv_bipush (pc := 0) (v := (16 : Int32)) hx hb (zdt_at zt_X10_count_0 0 rfl) (by decide) ?_
  refine lv_istore_n (pc := 2) (lv' := [(3, .int (16 : Int32)), (0, .ref h0), (1, .int p1), (2, .int p2)]) hx hb (zdt_at zt_X10_count_0 1 rfl) rfl hl (by decide) rfl ?_
  clear hl
  intro ls hl
  replace hf := zj_s hf
  obtain ⟨K_8, eK_8, hf⟩ := hf
  have kK_8 : ∀ (c_block_5 : Nat → Int32) (c_buffer_6 : Nat → Int32) (c_other_7 : Nat → Int32) (H : Heap) (locs : List Loc) (ls : Array Slot), va_P D vwCl ([(h0, .inr (12, zmo hm c_thrown c_state c_test c_words c_ill c_before c_inRow c_first c_inWindow c_same c_made c_requests c_total c_secrets c_rounds c_high c_low c_keyHigh c_keyLow)), ((hm 43), .inl (cy 1, 16, .inl c_block_5)), ((hm 39), .inl (cy 1, 256, .inl c_box)), ((hm 6), .inl (cy 1, 512, .inl c_buffer_6)), ((hm 44), .inl (cy 1, 16, .inl c_other_7)), ((hm 41), .inl (cy 1, 240, .inl c_round))]) H → va_D A ([(h0, .inr (12, zmo hm c_thrown c_state c_test c_words c_ill c_before c_inRow c_first c_inWindow c_same c_made c_requests c_total c_secrets c_rounds c_high c_low c_keyHigh c_keyLow)), ((hm 43), .inl (cy 1, 16, .inl c_block_5)), ((hm 39), .inl (cy 1, 256, .inl c_box)), ((hm 6), .inl (cy 1, 512, .inl c_buffer_6)), ((hm 44), .inl (cy 1, 16, .inl c_other_7)), ((hm 41), .inl (cy 1, 240, .inl c_round))]) → va_S A s.heap H locs → lv_has ls 6 [(2, .int p2)] → K_8 c_block_5 c_buffer_6 c_other_7 = some (r_, c_block', c_buffer', c_other') → GW H locs (F0 m 129 ls []) := by
    clear hf hl hP hD hS
    intro c_block_5 c_buffer_6 c_other_7 H locs ls hP hD hS hl hf
    rw [eK_8] at hf
    clear eK_8
    refine hFr _ _ _ ?_
    refine lv_iload_n (pc := 129) hx hb (zdt_at zt_X10_count_1 10 rfl) rfl (lv_at hl 0 rfl) ?_
    cases hf
    exact W.iret (pc := 130) hx hb hr (fun t ht hW => ⟨rfl, ⟨by rw [ht]; exact hP, hD⟩, hS.F ht⟩) hS.2.2 (zdt_at zt_X10_count_1 11 rfl)
  clear eK_8
  refine hTo _ _ _ (zl_go (fun z => match z with | (i_1, c_block_2, c_buffer_3, c_other_4) => ∀ (H : Heap) (locs : List Loc) (ls : Array Slot), va_P D vwCl ([(h0, .inr (12, zmo hm c_thrown c_state c_test c_words c_ill c_before c_inRow c_first c_inWindow c_same c_made c_requests c_total c_secrets c_rounds c_high c_low c_keyHigh c_keyLow)), ((hm 43), .inl (cy 1, 16, .inl c_block_2)), ((hm 39), .inl (cy 1, 256, .inl c_box)), ((hm 6), .inl (cy 1, 512, .inl c_buffer_3)), ((hm 44), .inl (cy 1, 16, .inl c_other_4)), ((hm 41), .inl (cy 1, 240, .inl c_round))]) H → va_D A ([(h0, .inr (12, zmo hm c_thrown c_state c_test c_words c_ill c_before c_inRow c_first c_inWindow c_same c_made c_requests c_total c_secrets c_rounds c_high c_low c_keyHigh c_keyLow)), ((hm 43), .inl (cy 1, 16, .inl c_block_2)), ((hm 39), .inl (cy 1, 256, .inl c_box)), ((hm 6), .inl (cy 1, 512, .inl c_buffer_3)), ((hm 44), .inl (cy 1, 16, .inl c_other_4)), ((hm 41), .inl (cy 1, 240, .inl c_round))]) → va_S A s.heap H locs → lv_has ls 6 [(0, .ref h0), (1, .int p1), (2, .int p2), (3, .int i_1)] → GW H locs (F0 m 3 ls [])) hf ?_ H locs ls hP hD hS (lv_sub hl [1, 2, 3, 0] rfl))
  clear hf hl hP hD hS
  intro self_9 ihself_9 z hf
  obtain ⟨i_1, c_block_2, c_buffer_3, c_other_4⟩ := z
  intro H locs ls hP hD hS hl
  refine hFr _ _ _ ?_
  unfold b_X10_count_3 at hf
  refine lv_iload_n (pc := 3) hx hb (zdt_at zt_X10_count_0 2 rfl) rfl (lv_at hl 3 rfl) ?_
  refine lv_iload_n (pc := 4) hx hb (zdt_at zt_X10_count_0 3 rfl) rfl (lv_at hl 2 rfl) ?_
  refine lv_icmp_ge (pc := 5) (tgt := 129) hx hb (zdt_at zt_X10_count_0 4 rfl) (by decide) (fun cn_ => ?t_10) (fun cn_ => ?f_11)
  case t_10 =>
    replace hf := zt_s cn_ hf
    clear cn_
    exact hTo _ _ _ (kK_8 _ _ _ H locs ls hP hD hS (lv_sub hl [2] rfl) hf)
  replace hf := ze_s cn_ hf
  clear cn_
  refine lv_iload_n (pc := 8) hx hb (zdt_at zt_X10_count_0 5 rfl) rfl (lv_at hl 3 rfl) ?_
  refine lv_bipush (pc := 9) (v := (16 : Int32)) hx hb (zdt_at zt_X10_count_0 6 rfl) (by decide) ?_
  replace hf := zk_s hf
  refine lv_idiv (pc := 11) hx hb (zdt_at zt_X10_count_0 7 rfl) hf.1 ?_
  replace hf := hf.2
  refine lv_iconst (pc := 12) (v := (1 : Int32)) hx hb (zdt_at zt_X10_count_0 8 rfl) (by decide) ?_
  refine lv_isub (pc := 13) hx hb (zdt_at zt_X10_count_0 9 rfl) ?_
  refine lv_topi (fun x_12 e_ => ?_)
  replace hf := zn_s hf e_
  clear e_
  refine lv_istore (pc := 14) (lv' := [(4, .int x_12), (0, .ref h0), (1, .int p1), (2, .int p2), (3, .int i_1)]) hx hb (zdt_at zt_X10_count_0 10 rfl) hl (by decide) rfl ?_
  clear hl
  intro ls hl
  refine lv_bipush (pc := 16) (v := (15 : Int32)) hx hb (zdt_at zt_X10_count_0 11 rfl) (by decide) ?_
  refine lv_istore (pc := 18) (lv' := [(5, .int (15 : Int32)), (4, .int x_12), (0, .ref h0), (1, .int p1), (2, .int p2), (3, .int i_1)]) hx hb (zdt_at zt_X10_count_0 12 rfl) hl (by decide) rfl ?_
  clear hl
  intro ls hl
  replace hf := zj_s hf
  obtain ⟨K_17, eK_17, hf⟩ := hf
  have kK_17 : ∀ (c_block_16 : Nat → Int32) (H : Heap) (locs : List Loc) (ls : Array Slot), va_P D vwCl ([(h0, .inr (12, zmo hm c_thrown c_state c_test c_words c_ill c_before c_inRow c_first c_inWindow c_same c_made c_requests c_total c_secrets c_rounds c_high c_low c_keyHigh c_keyLow)), ((hm 43), .inl (cy 1, 16, .inl c_block_16)), ((hm 39), .inl (cy 1, 256, .inl c_box)), ((hm 6), .inl (cy 1, 512, .inl c_buffer_3)), ((hm 44), .inl (cy 1, 16, .inl c_other_4)), ((hm 41), .inl (cy 1, 240, .inl c_round))]) H → va_D A ([(h0, .inr (12, zmo hm c_thrown c_state c_test c_words c_ill c_before c_inRow c_first c_inWindow c_same c_made c_requests c_total c_secrets c_rounds c_high c_low c_keyHigh c_keyLow)), ((hm 43), .inl (cy 1, 16, .inl c_block_16)), ((hm 39), .inl (cy 1, 256, .inl c_box)), ((hm 6), .inl (cy 1, 512, .inl c_buffer_3)), ((hm 44), .inl (cy 1, 16, .inl c_other_4)), ((hm 41), .inl (cy 1, 240, .inl c_round))]) → va_S A s.heap H locs → lv_has ls 6 [(0, .ref h0), (1, .int p1), (2, .int p2), (3, .int i_1)] → K_17 c_block_16 = some (r_, c_block', c_buffer', c_other') → GW H locs (F0 m 65 ls []) := by
    clear hf hl hP hD hS
    intro c_block_16 H locs ls hP hD hS hl hf
    rw [eK_17] at hf
    clear eK_17
    refine hFr _ _ _ ?_
    refine lv_aload_n (pc := 65) hx hb (zdt_at zt_X10_count_0 37 rfl) rfl (lv_at hl 0 rfl) ?_
    replace hf := zb_s hf
    obtain ⟨⟨c_block_18, c_other_19⟩, hc_, hf⟩ := hf
    refine zcn2 (pc := 66) (rv := none) (va_runV (As := []) (rest := []) ⟨hx, hb, hml, hown, hts⟩ (c_X10_seal l D cy tt H.size h0 hm c_rounds c_block_16 c_box c_other_4 c_round c_thrown c_state c_test c_words c_ill c_before c_inRow c_first c_inWindow c_same c_made c_requests c_total c_secrets c_high c_low c_keyHigh c_keyLow c_block_18 c_other_19 hc_) (cwV 0 hts gX10_count_X10_seal rfl rfl rfl (by decide +kernel) ⟨Nat.le_of_ble_eq_true rfl, Nat.le_of_ble_eq_true rfl⟩) ⟨zblind, va_recv hK hP (ci := 12) (q0 := 0) rfl rfl, zpre hE hS (hP.sub [0, 1, 2, 4, 5] rfl) (hD.sub [0, 1, 2, 4, 5] (by decide) rfl) (va_free hD hS hA [0, 1, 2, 4, 5] rfl)⟩ rfl rfl hl.1 rfl (lv_room (Nat.le_of_ble_eq_true rfl)) (zdt_at zt_X10_count_0 38 rfl) ⟨Nat.zero_le _, Nat.zero_le _⟩) hS hP hD (va_free hD hS hA [0, 1, 2, 4, 5] rfl) [0, 1, 2, 4, 5] rfl (by decide) rfl ?_
    clear hP hD hS hc_
    intro H locs hP hD hS
    replace hP : va_P D vwCl ([(h0, .inr (12, zmo hm c_thrown c_state c_test c_words c_ill c_before c_inRow c_first c_inWindow c_same c_made c_requests c_total c_secrets c_rounds c_high c_low c_keyHigh c_keyLow)), ((hm 43), .inl (cy 1, 16, .inl c_block_18)), ((hm 39), .inl (cy 1, 256, .inl c_box)), ((hm 6), .inl (cy 1, 512, .inl c_buffer_3)), ((hm 44), .inl (cy 1, 16, .inl c_other_19)), ((hm 41), .inl (cy 1, 240, .inl c_round))]) H := hP
    replace hD : va_D A ([(h0, .inr (12, zmo hm c_thrown c_state c_test c_words c_ill c_before c_inRow c_first c_inWindow c_same c_made c_requests c_total c_secrets c_rounds c_high c_low c_keyHigh c_keyLow)), ((hm 43), .inl (cy 1, 16, .inl c_block_18)), ((hm 39), .inl (cy 1, 256, .inl c_box)), ((hm 6), .inl (cy 1, 512, .inl c_buffer_3)), ((hm 44), .inl (cy 1, 16, .inl c_other_19)), ((hm 41), .inl (cy 1, 240, .inl c_round))]) := hD
    refine W.eq (g2 := F0 m 69 ls []) rfl ?_
    refine lv_iconst (pc := 69) (v := (0 : Int32)) hx hb (zdt_at zt_X10_count_0 39 rfl) (by decide) ?_
    refine lv_istore (pc := 70) (lv' := [(5, .int (0 : Int32)), (0, .ref h0), (1, .int p1), (2, .int p2), (3, .int i_1)]) hx hb (zdt_at zt_X10_count_0 40 rfl) hl (by decide) rfl ?_
    clear hl
    intro ls hl
    replace hf := zj_s hf
    obtain ⟨K_23, eK_23, hf⟩ := hf
    have kK_23 : ∀ (c_buffer_22 : Nat → Int32) (H : Heap) (locs : List Loc) (ls : Array Slot), va_P D vwCl ([(h0, .inr (12, zmo hm c_thrown c_state c_test c_words c_ill c_before c_inRow c_first c_inWindow c_same c_made c_requests c_total c_secrets c_rounds c_high c_low c_keyHigh c_keyLow)), ((hm 43), .inl (cy 1, 16, .inl c_block_18)), ((hm 39), .inl (cy 1, 256, .inl c_box)), ((hm 6), .inl (cy 1, 512, .inl c_buffer_22)), ((hm 44), .inl (cy 1, 16, .inl c_other_19)), ((hm 41), .inl (cy 1, 240, .inl c_round))]) H → va_D A ([(h0, .inr (12, zmo hm c_thrown c_state c_test c_words c_ill c_before c_inRow c_first c_inWindow c_same c_made c_requests c_total c_secrets c_rounds c_high c_low c_keyHigh c_keyLow)), ((hm 43), .inl (cy 1, 16, .inl c_block_18)), ((hm 39), .inl (cy 1, 256, .inl c_box)), ((hm 6), .inl (cy 1, 512, .inl c_buffer_22)), ((hm 44), .inl (cy 1, 16, .inl c_other_19)), ((hm 41), .inl (cy 1, 240, .inl c_round))]) → va_S A s.heap H locs → lv_has ls 6 [(0, .ref h0), (1, .int p1), (2, .int p2), (3, .int i_1)] → K_23 c_buffer_22 = some (r_, c_block', c_buffer', c_other') → GW H locs (F0 m 123 ls []) := by
      clear hf hl hP hD hS
      intro c_buffer_22 H locs ls hP hD hS hl hf
      rw [eK_23] at hf
      clear eK_23
      refine hFr _ _ _ ?_
      refine lv_iinc (pc := 123) (v := (i_1 + (16 : Int32))) (lv' := [(3, .int (i_1 + (16 : Int32))), (0, .ref h0), (1, .int p1), (2, .int p2)]) hx hb (zdt_at zt_X10_count_1 8 rfl) hl (k := 3) rfl rfl (by decide) rfl ?_
      clear hl
      intro ls hl
      refine lv_goto (pc := 126) (tgt := 3) hx hb (zdt_at zt_X10_count_1 9 rfl) (by decide) ?_
      exact hTo _ _ _ (ihself_9 _ hf H locs ls hP hD hS (lv_sub hl [1, 2, 3, 0] rfl))
    clear eK_23
    refine hTo _ _ _ (zl_go (fun z => match z with | (i_20, c_buffer_21) => ∀ (H : Heap) (locs : List Loc) (ls : Array Slot), va_P D vwCl ([(h0, .inr (12, zmo hm c_thrown c_state c_test c_words c_ill c_before c_inRow c_first c_inWindow c_same c_made c_requests c_total c_secrets c_rounds c_high c_low c_keyHigh c_keyLow)), ((hm 43), .inl (cy 1, 16, .inl c_block_18)), ((hm 39), .inl (cy 1, 256, .inl c_box)), ((hm 6), .inl (cy 1, 512, .inl c_buffer_21)), ((hm 44), .inl (cy 1, 16, .inl c_other_19)), ((hm 41), .inl (cy 1, 240, .inl c_round))]) H → va_D A ([(h0, .inr (12, zmo hm c_thrown c_state c_test c_words c_ill c_before c_inRow c_first c_inWindow c_same c_made c_requests c_total c_secrets c_rounds c_high c_low c_keyHigh c_keyLow)), ((hm 43), .inl (cy 1, 16, .inl c_block_18)), ((hm 39), .inl (cy 1, 256, .inl c_box)), ((hm 6), .inl (cy 1, 512, .inl c_buffer_21)), ((hm 44), .inl (cy 1, 16, .inl c_other_19)), ((hm 41), .inl (cy 1, 240, .inl c_round))]) → va_S A s.heap H locs → lv_has ls 6 [(0, .ref h0), (1, .int p1), (2, .int p2), (3, .int i_1), (5, .int i_20)] → GW H locs (F0 m 72 ls [])) hf ?_ H locs ls hP hD hS (lv_sub hl [1, 2, 3, 4, 0] rfl))
    clear hf hl hP hD hS
    intro self_24 ihself_24 z hf
    obtain ⟨i_20, c_buffer_21⟩ := z
    intro H locs ls hP hD hS hl
    refine hFr _ _ _ ?_
    unfold b_X10_count_72 at hf
    refine lv_iload (pc := 72) hx hb (zdt_at zt_X10_count_0 41 rfl) (lv_at hl 4 rfl) ?_
    refine lv_bipush (pc := 74) (v := (16 : Int32)) hx hb (zdt_at zt_X10_count_0 42 rfl) (by decide) ?_
    refine lv_icmp_ge (pc := 76) (tgt := 123) hx hb (zdt_at zt_X10_count_0 43 rfl) (by decide) (fun cn_ => ?t_25) (fun cn_ => ?f_26)
    case t_25 =>
      replace hf := zt_s cn_ hf
      clear cn_
      exact hTo _ _ _ (kK_23 _ H locs ls hP hD hS (lv_sub hl [0, 1, 2, 3] rfl) hf)
    replace hf := ze_s cn_ hf
    clear cn_
    refine lv_iload_n (pc := 79) hx hb (zdt_at zt_X10_count_0 44 rfl) rfl (lv_at hl 3 rfl) ?_
    refine lv_iload (pc := 80) hx hb (zdt_at zt_X10_count_0 45 rfl) (lv_at hl 4 rfl) ?_
    refine lv_iadd (pc := 82) hx hb (zdt_at zt_X10_count_0 46 rfl) ?_
    refine lv_iload_n (pc := 83) hx hb (zdt_at zt_X10_count_0 47 rfl) rfl (lv_at hl 2 rfl) ?_
    refine lv_icmp_ge (pc := 84) (tgt := 123) hx hb (zdt_at zt_X10_count_0 48 rfl) (by decide) (fun cn_ => ?t_27) (fun cn_ => ?f_28)
    case t_27 =>
      replace hf := zt_s cn_ hf
      clear cn_
      exact hTo _ _ _ (kK_23 _ H locs ls hP hD hS (lv_sub hl [0, 1, 2, 3] rfl) hf)
    replace hf := ze_s cn_ hf
    clear cn_
    refine lv_aload_n (pc := 87) hx hb (zdt_at zt_X10_count_0 49 rfl) rfl (lv_at hl 0 rfl) ?_
    refine va_get (pc := 88) (D := D) (ci := 12) (v := .ref (hm 6)) (C := RX10) (T := TX10) (N := 52) hx hb hts hcX10 hown hK hP 0 rfl rfl 6 (by decide) hw0 (fun _ h9 => h9) rfl (zdt_at zt_X10_count_0 50 rfl) ?_
    refine lv_iload_n (pc := 91) hx hb (zdt_at zt_X10_count_0 51 rfl) rfl (lv_at hl 1 rfl) ?_
    refine lv_iload_n (pc := 92) hx hb (zdt_at zt_X10_count_0 52 rfl) rfl (lv_at hl 3 rfl) ?_
    refine lv_iadd (pc := 93) hx hb (zdt_at zt_X10_count_0 53 rfl) ?_
    refine lv_iload (pc := 94) hx hb (zdt_at zt_X10_count_0 54 rfl) (lv_at hl 4 rfl) ?_
    refine lv_iadd (pc := 96) hx hb (zdt_at zt_X10_count_0 55 rfl) ?_
    refine lv_aload_n (pc := 97) hx hb (zdt_at zt_X10_count_0 56 rfl) rfl (lv_at hl 0 rfl) ?_
    refine va_get (pc := 98) (D := D) (ci := 12) (v := .ref (hm 6)) (C := RX10) (T := TX10) (N := 52) hx hb hts hcX10 hown hK hP 0 rfl rfl 6 (by decide) hw0 (fun _ h9 => h9) rfl (zdt_at zt_X10_count_0 57 rfl) ?_
    refine lv_iload_n (pc := 101) hx hb (zdt_at zt_X10_count_0 58 rfl) rfl (lv_at hl 1 rfl) ?_
    refine lv_iload_n (pc := 102) hx hb (zdt_at zt_X10_count_0 59 rfl) rfl (lv_at hl 3 rfl) ?_
    refine lv_iadd (pc := 103) hx hb (zdt_at zt_X10_count_0 60 rfl) ?_
    refine lv_iload (pc := 104) hx hb (zdt_at zt_X10_count_0 61 rfl) (lv_at hl 4 rfl) ?_
    refine lv_iadd (pc := 106) hx hb (zdt_at zt_X10_count_0 62 rfl) ?_
    replace hf := zk_s hf
    refine va_iald (pc := 107) hx hb hK hP 3 1 rfl rfl hf.1 (zdt_at zt_X10_count_0 63 rfl) ?_
    replace hf := hf.2
    refine lv_aload_n (pc := 108) hx hb (zdt_at zt_X10_count_1 0 rfl) rfl (lv_at hl 0 rfl) ?_
    refine va_get (pc := 109) (D := D) (ci := 12) (v := .ref (hm 43)) (C := RX10) (T := TX10) (N := 52) hx hb hts hcX10 hown hK hP 0 rfl rfl 43 (by decide) hw1 (fun _ h9 => h9) rfl (zdt_at zt_X10_count_1 1 rfl) ?_
    refine lv_iload (pc := 112) hx hb (zdt_at zt_X10_count_1 2 rfl) (lv_at hl 4 rfl) ?_
    replace hf := zk_s hf
    refine va_iald (pc := 114) hx hb hK hP 1 1 rfl rfl hf.1 (zdt_at zt_X10_count_1 3 rfl) ?_
    replace hf := hf.2
    refine lv_ixor (pc := 115) hx hb (zdt_at zt_X10_count_1 4 rfl) ?_
    replace hf := zk_s hf
    refine va_iast (pc := 116) hx hb hK hP hD hS 3 1 rfl rfl hf.1 (zdt_at zt_X10_count_1 5 rfl) ?_
    replace hf := hf.2
    clear hP hD hS
    intro H locs hP hD hS
    obtain ⟨c_buffer_29, e_⟩ : ∃ q : Nat → Int32, q = (upd c_buffer_21 ((p1 + i_1) + i_20).toNatClampNeg ((c_buffer_21 ((p1 + i_1) + i_20).toNatClampNeg) ^^^ (c_block_18 i_20.toNatClampNeg))) := ⟨_, rfl⟩
    replace hf := zn_s hf e_
    replace hP : va_P D vwCl ([(h0, .inr (12, zmo hm c_thrown c_state c_test c_words c_ill c_before c_inRow c_first c_inWindow c_same c_made c_requests c_total c_secrets c_rounds c_high c_low c_keyHigh c_keyLow)), ((hm 43), .inl (cy 1, 16, .inl c_block_18)), ((hm 39), .inl (cy 1, 256, .inl c_box)), ((hm 6), .inl (cy 1, 512, .inl c_buffer_29)), ((hm 44), .inl (cy 1, 16, .inl c_other_19)), ((hm 41), .inl (cy 1, 240, .inl c_round))]) H := by rw [e_]; exact hP
    replace hD : va_D A ([(h0, .inr (12, zmo hm c_thrown c_state c_test c_words c_ill c_before c_inRow c_first c_inWindow c_same c_made c_requests c_total c_secrets c_rounds c_high c_low c_keyHigh c_keyLow)), ((hm 43), .inl (cy 1, 16, .inl c_block_18)), ((hm 39), .inl (cy 1, 256, .inl c_box)), ((hm 6), .inl (cy 1, 512, .inl c_buffer_29)), ((hm 44), .inl (cy 1, 16, .inl c_other_19)), ((hm 41), .inl (cy 1, 240, .inl c_round))]) := by rw [e_]; exact hD
    clear e_
    refine lv_iinc (pc := 117) (v := (i_20 + (1 : Int32))) (lv' := [(5, .int (i_20 + (1 : Int32))), (0, .ref h0), (1, .int p1), (2, .int p2), (3, .int i_1)]) hx hb (zdt_at zt_X10_count_1 6 rfl) hl (k := 4) rfl rfl (by decide) rfl ?_
    clear hl
    intro ls hl
    refine lv_goto (pc := 120) (tgt := 72) hx hb (zdt_at zt_X10_count_1 7 rfl) (by decide) ?_
    exact hTo _ _ _ (ihself_24 _ hf H locs ls hP hD hS (lv_sub hl [1, 2, 3, 4, 0] rfl))
  clear eK_17
  refine hTo _ _ _ (zl_go (fun z => match z with | (i_13, i_14, c_block_15) => ∀ (H : Heap) (locs : List Loc) (ls : Array Slot), va_P D vwCl ([(h0, .inr (12, zmo hm c_thrown c_state c_test c_words c_ill c_before c_inRow c_first c_inWindow c_same c_made c_requests c_total c_secrets c_rounds c_high c_low c_keyHigh c_keyLow)), ((hm 43), .inl (cy 1, 16, .inl c_block_15)), ((hm 39), .inl (cy 1, 256, .inl c_box)), ((hm 6), .inl (cy 1, 512, .inl c_buffer_3)), ((hm 44), .inl (cy 1, 16, .inl c_other_4)), ((hm 41), .inl (cy 1, 240, .inl c_round))]) H → va_D A ([(h0, .inr (12, zmo hm c_thrown c_state c_test c_words c_ill c_before c_inRow c_first c_inWindow c_same c_made c_requests c_total c_secrets c_rounds c_high c_low c_keyHigh c_keyLow)), ((hm 43), .inl (cy 1, 16, .inl c_block_15)), ((hm 39), .inl (cy 1, 256, .inl c_box)), ((hm 6), .inl (cy 1, 512, .inl c_buffer_3)), ((hm 44), .inl (cy 1, 16, .inl c_other_4)), ((hm 41), .inl (cy 1, 240, .inl c_round))]) → va_S A s.heap H locs → lv_has ls 6 [(0, .ref h0), (1, .int p1), (2, .int p2), (3, .int i_1), (4, .int i_13), (5, .int i_14)] → GW H locs (F0 m 20 ls [])) hf ?_ H locs ls hP hD hS (lv_sub hl [2, 3, 4, 5, 1, 0] rfl))
  clear hf hl hP hD hS
  intro self_30 ihself_30 z hf
  obtain ⟨i_13, i_14, c_block_15⟩ := z
  intro H locs ls hP hD hS hl
  refine hFr _ _ _ ?_
  unfold b_X10_count_20 at hf
  refine lv_iload (pc := 20) hx hb (zdt_at zt_X10_count_0 13 rfl) (lv_at hl 5 rfl) ?_
  refine lv_if_lt (pc := 22) (tgt := 65) hx hb (zdt_at zt_X10_count_0 14 rfl) (by decide) (fun cn_ => ?t_31) (fun cn_ => ?f_32)
  case t_31 =>
    replace hf := zt_s cn_ hf
    clear cn_
    exact hTo _ _ _ (kK_17 _ H locs ls hP hD hS (lv_sub hl [0, 1, 2, 3] rfl) hf)
  replace hf := ze_s cn_ hf
  clear cn_
  refine lv_iload (pc := 25) hx hb (zdt_at zt_X10_count_0 15 rfl) (lv_at hl 4 rfl) ?_
  refine lv_aload_n (pc := 27) hx hb (zdt_at zt_X10_count_0 16 rfl) rfl (lv_at hl 0 rfl) ?_
  refine va_get (pc := 28) (D := D) (ci := 12) (v := .ref (hm 6)) (C := RX10) (T := TX10) (N := 52) hx hb hts hcX10 hown hK hP 0 rfl rfl 6 (by decide) hw0 (fun _ h9 => h9) rfl (zdt_at zt_X10_count_0 17 rfl) ?_
  refine lv_iload_n (pc := 31) hx hb (zdt_at zt_X10_count_0 18 rfl) rfl (lv_at hl 1 rfl) ?_
  refine lv_iload (pc := 32) hx hb (zdt_at zt_X10_count_0 19 rfl) (lv_at hl 5 rfl) ?_
  refine lv_iadd (pc := 34) hx hb (zdt_at zt_X10_count_0 20 rfl) ?_
  replace hf := zk_s hf
  refine va_iald (pc := 35) hx hb hK hP 3 1 rfl rfl hf.1 (zdt_at zt_X10_count_0 21 rfl) ?_
  replace hf := hf.2
  refine lv_iadd (pc := 36) hx hb (zdt_at zt_X10_count_0 22 rfl) ?_
  refine lv_topi (fun x_33 e_ => ?_)
  replace hf := zn_s hf e_
  clear e_
  refine lv_istore (pc := 37) (lv' := [(4, .int x_33), (0, .ref h0), (1, .int p1), (2, .int p2), (3, .int i_1), (5, .int i_14)]) hx hb (zdt_at zt_X10_count_0 23 rfl) hl (by decide) rfl ?_
  clear hl
  intro ls hl
  refine lv_aload_n (pc := 39) hx hb (zdt_at zt_X10_count_0 24 rfl) rfl (lv_at hl 1 rfl) ?_
  refine va_get (pc := 40) (D := D) (ci := 12) (v := .ref (hm 43)) (C := RX10) (T := TX10) (N := 52) hx hb hts hcX10 hown hK hP 0 rfl rfl 43 (by decide) hw1 (fun _ h9 => h9) rfl (zdt_at zt_X10_count_0 25 rfl) ?_
  refine lv_iload (pc := 43) hx hb (zdt_at zt_X10_count_0 26 rfl) (lv_at hl 5 rfl) ?_
  refine lv_iload (pc := 45) hx hb (zdt_at zt_X10_count_0 27 rfl) (lv_at hl 0 rfl) ?_
  refine lv_sipush (pc := 47) (v := (255 : Int32)) hx hb (zdt_at zt_X10_count_0 28 rfl) (by decide) ?_
  refine lv_iand (pc := 50) hx hb (zdt_at zt_X10_count_0 29 rfl) ?_
  replace hf := zk_s hf
  refine va_iast (pc := 51) hx hb hK hP hD hS 1 1 rfl rfl hf.1 (zdt_at zt_X10_count_0 30 rfl) ?_
  replace hf := hf.2
  clear hP hD hS
  intro H locs hP hD hS
  obtain ⟨c_block_34, e_⟩ : ∃ q : Nat → Int32, q = (upd c_block_15 i_14.toNatClampNeg (x_33 &&& (255 : Int32))) := ⟨_, rfl⟩
  replace hf := zn_s hf e_
  replace hP : va_P D vwCl ([(h0, .inr (12, zmo hm c_thrown c_state c_test c_words c_ill c_before c_inRow c_first c_inWindow c_same c_made c_requests c_total c_secrets c_rounds c_high c_low c_keyHigh c_keyLow)), ((hm 43), .inl (cy 1, 16, .inl c_block_34)), ((hm 39), .inl (cy 1, 256, .inl c_box)), ((hm 6), .inl (cy 1, 512, .inl c_buffer_3)), ((hm 44), .inl (cy 1, 16, .inl c_other_4)), ((hm 41), .inl (cy 1, 240, .inl c_round))]) H := by rw [e_]; exact hP
  replace hD : va_D A ([(h0, .inr (12, zmo hm c_thrown c_state c_test c_words c_ill c_before c_inRow c_first c_inWindow c_same c_made c_requests c_total c_secrets c_rounds c_high c_low c_keyHigh c_keyLow)), ((hm 43), .inl (cy 1, 16, .inl c_block_34)), ((hm 39), .inl (cy 1, 256, .inl c_box)), ((hm 6), .inl (cy 1, 512, .inl c_buffer_3)), ((hm 44), .inl (cy 1, 16, .inl c_other_4)), ((hm 41), .inl (cy 1, 240, .inl c_round))]) := by rw [e_]; exact hD
  clear e_
  refine lv_iload (pc := 52) hx hb (zdt_at zt_X10_count_0 31 rfl) (lv_at hl 0 rfl) ?_
  refine lv_bipush (pc := 54) (v := (8 : Int32)) hx hb (zdt_at zt_X10_count_0 32 rfl) (by decide) ?_
  refine lv_ishr (pc := 56) hx hb (zdt_at zt_X10_count_0 33 rfl) ?_
  refine lv_topi (fun x_35 e_ => ?_)
  replace hf := zn_s hf e_
  clear e_
  refine lv_istore (pc := 57) (lv' := [(4, .int x_35), (0, .ref h0), (1, .int p1), (2, .int p2), (3, .int i_1), (5, .int i_14)]) hx hb (zdt_at zt_X10_count_0 34 rfl) hl (by decide) rfl ?_
  clear hl
  intro ls hl
  refine lv_iinc (pc := 59) (v := (i_14 + (-1 : Int32))) (lv' := [(5, .int (i_14 + (-1 : Int32))), (4, .int x_35), (0, .ref h0), (1, .int p1), (2, .int p2), (3, .int i_1)]) hx hb (zdt_at zt_X10_count_0 35 rfl) hl (k := 5) rfl rfl (by decide) rfl ?_
  clear hl
  intro ls hl
  refine lv_goto (pc := 62) (tgt := 20) hx hb (zdt_at zt_X10_count_0 36 rfl) (by decide) ?_
  exact hTo _ _ _ (ihself_30 _ hf H locs ls hP hD hS (lv_sub hl [2, 3, 4, 5, 1, 0] rfl))
set_option maxHeartbeats 4000000 in
set_option maxRecDepth 100000 in
theorem c_X10_half (l : Launch) (D : va_G) (cy : Nat → ClassId) (tt : Nat → Nat) (sz : Nat) (h0 : Nat) (hm : Nat → Nat) (p1 : Int32) (c_block : Nat → Int32) (c_thrown : Int32) (c_state : Int32) (c_test : Int32) (c_words : Int32) (c_ill : Int32) (c_before : Int32) (c_inRow : Int32) (c_first : Int32) (c_inWindow : Int32) (c_same : Int32) (c_made : Int32) (c_requests : Int32) (c_total : Int64) (c_secrets : Int32) (c_rounds : Int32) (c_high : Int64) (c_low : Int64) (c_keyHigh : Int64) (c_keyLow : Int64) (r_ : Int64) (hf : f_X10_half p1 c_block = some r_) : Met l yX10_half wsX10_half ({ frames := 0, cells := 0, slots := 0, locals := 0 }) (zPc D cy tt sz [.ref h0, .int p1] ([(h0, .inr (12, zmo hm c_thrown c_state c_test c_words c_ill c_before c_inRow c_first c_inWindow c_same c_made c_requests c_total c_secrets c_rounds c_high c_low c_keyHigh c_keyLow)), ((hm 43), .inl (cy 1, 16, .inl c_block))])) (fun _ st o t => o = .returned (some (.long r_)) ∧ t.heap = st.heap) 0 0 (fun _ => False) := by
  refine Met.ofW (cc := cX10_half) (maxL := 5) (ret := (some .long)) (by decide) rfl ?_
  intro p e s m args below meth c s₁ B hml hv
  obtain ⟨rfl, rfl, hP, hD0, hE⟩ := hv
  have hx := B.exec
  have hb := B.bytes
  have hr := B.returns
  have hts := atoms_spec (ws := wsX10_half) B.pre
  have hown : s.vm.findClass RX10 = some m.cls := findClass_of_methodNamed B.named
  have hlocks := B.notSynchronized
  clear B
  have hD := hD0.self (sz := s.heap.size)
  generalize hAe : va_A ([(h0, .inr (12, zmo hm c_thrown c_state c_test c_words c_ill c_before c_inRow c_first c_inWindow c_same c_made c_requests c_total c_secrets c_rounds c_high c_low c_keyHigh c_keyLow)), ((hm 43), .inl (cy 1, 16, .inl c_block))]) s.heap.size = A at hD hE
  have hA : ∀ q : Nat, s.heap.size ≤ q → A q := fun q h => by rw [← hAe]; exact Or.inr h
  clear hAe hD0
  have hS : va_S A s.heap s.heap [] := va_S.rf
  have hK := hE.1
  have hw0 := hts (.fieldLink RX10 162 "SealedModuleModel" "block" "[I") (by decide +kernel)
  have hcX10 : ∀ w ∈ u_ws RX10 TX10 52, w ∈ wsX10_half := (fun _ h => List.mem_cons_of_mem _ (List.mem_append_right _ h))
  have hl := lv_entry ([.ref h0, .int p1]) (n := 5) (Nat.le_of_ble_eq_true rfl)
  rw [lg_entry_eq]
  generalize (lg_sl ([.ref h0, .int p1]) ++ List.replicate (5 - (lg_sl ([.ref h0, .int p1])).length) Slot.unset).toArray = ls at hl ⊢
  replace hl : lv_has ls 5 [(0, .ref h0), (1, .int p1)] := hl
  unfold f_X10_half at hf
  refine zgo (fun GW hTo hFr => ?_)
  refine hFr _ _ _ ?_
  refine lv_lconst (pc := 0) (v := (0 : Int64)) hx hb (zdt_at zt_X10_half_0 0 rfl) (by decide) ?_
  refine lv_lstore_n (pc := 1) (lv' := [(2, .long (0 : Int64)), (0, .ref h0), (1, .int p1)]) hx hb (zdt_at zt_X10_half_0 1 rfl) rfl hl (by decide) rfl ?_
  clear hl
  intro ls hl
  refine lv_iconst (pc := 2) (v := (0 : Int32)) hx hb (zdt_at zt_X10_half_0 2 rfl) (by decide) ?_
  refine lv_istore (pc := 3) (lv' := [(4, .int (0 : Int32)), (2, .long (0 : Int64)), (0, .ref h0), (1, .int p1)]) hx hb (zdt_at zt_X10_half_0 3 rfl) hl (by decide) rfl ?_
  clear hl
  intro ls hl
  replace hf := zj_s hf
  obtain ⟨K_4, eK_4, hf⟩ := hf
  have kK_4 : ∀ (v_3 : Int64) (ls : Array Slot), lv_has ls 5 [(2, .long v_3)] → K_4 v_3 = some r_ → GW s.heap [] (F0 m 34 ls []) := by
    clear hf hl
    intro v_3 ls hl hf
    rw [eK_4] at hf
    clear eK_4
    refine hFr _ _ _ ?_
    refine lv_lload_n (pc := 34) hx hb (zdt_at zt_X10_half_0 21 rfl) rfl (lv_at hl 0 rfl) ?_
    cases hf
    exact W.lret (pc := 35) hx hb hr (fun t ht hW => ⟨rfl, ht⟩) (fun _ h => nomatch h) (zdt_at zt_X10_half_0 22 rfl)
  clear eK_4
  refine hTo _ _ _ (zl_go (fun z => match z with | (i_1, i_2) => ∀ (ls : Array Slot), lv_has ls 5 [(0, .ref h0), (1, .int p1), (2, .long i_1), (4, .int i_2)] → GW s.heap [] (F0 m 5 ls [])) hf ?_ ls (lv_sub hl [2, 3, 1, 0] rfl))
  clear hf hl
  intro self_5 ihself_5 z hf
  obtain ⟨i_1, i_2⟩ := z
  intro ls hl
  refine hFr _ _ _ ?_
  unfold b_X10_half_5 at hf
  refine lv_iload (pc := 5) hx hb (zdt_at zt_X10_half_0 4 rfl) (lv_at hl 3 rfl) ?_
  refine lv_bipush (pc := 7) (v := (8 : Int32)) hx hb (zdt_at zt_X10_half_0 5 rfl) (by decide) ?_
  refine lv_icmp_ge (pc := 9) (tgt := 34) hx hb (zdt_at zt_X10_half_0 6 rfl) (by decide) (fun cn_ => ?t_6) (fun cn_ => ?f_7)
  case t_6 =>
    replace hf := zt_s cn_ hf
    clear cn_
    exact hTo _ _ _ (kK_4 _ ls (lv_sub hl [2] rfl) hf)
  replace hf := ze_s cn_ hf
  clear cn_
  refine lv_lload_n (pc := 12) hx hb (zdt_at zt_X10_half_0 7 rfl) rfl (lv_at hl 2 rfl) ?_
  refine lv_bipush (pc := 13) (v := (8 : Int32)) hx hb (zdt_at zt_X10_half_0 8 rfl) (by decide) ?_
  refine lv_lshl (pc := 15) hx hb (zdt_at zt_X10_half_0 9 rfl) rfl ?_
  refine lv_aload_n (pc := 16) hx hb (zdt_at zt_X10_half_0 10 rfl) rfl (lv_at hl 0 rfl) ?_
  refine va_get (pc := 17) (D := D) (ci := 12) (v := .ref (hm 43)) (C := RX10) (T := TX10) (N := 52) hx hb hts hcX10 hown hK hP 0 rfl rfl 43 (by decide) hw0 (fun _ h9 => h9) rfl (zdt_at zt_X10_half_0 11 rfl) ?_
  refine lv_iload_n (pc := 20) hx hb (zdt_at zt_X10_half_0 12 rfl) rfl (lv_at hl 1 rfl) ?_
  refine lv_iload (pc := 21) hx hb (zdt_at zt_X10_half_0 13 rfl) (lv_at hl 3 rfl) ?_
  refine lv_iadd (pc := 23) hx hb (zdt_at zt_X10_half_0 14 rfl) ?_
  replace hf := zk_s hf
  refine va_iald (pc := 24) hx hb hK hP 1 1 rfl rfl hf.1 (zdt_at zt_X10_half_0 15 rfl) ?_
  replace hf := hf.2
  refine lv_i2l (pc := 25) hx hb (zdt_at zt_X10_half_0 16 rfl) rfl ?_
  refine lv_lor (pc := 26) hx hb (zdt_at zt_X10_half_0 17 rfl) ?_
  refine lv_topl (fun x_8 e_ => ?_)
  replace hf := zn_s hf e_
  clear e_
  refine lv_lstore_n (pc := 27) (lv' := [(2, .long x_8), (0, .ref h0), (1, .int p1), (4, .int i_2)]) hx hb (zdt_at zt_X10_half_0 18 rfl) rfl hl (by decide) rfl ?_
  clear hl
  intro ls hl
  refine lv_iinc (pc := 28) (v := (i_2 + (1 : Int32))) (lv' := [(4, .int (i_2 + (1 : Int32))), (2, .long x_8), (0, .ref h0), (1, .int p1)]) hx hb (zdt_at zt_X10_half_0 19 rfl) hl (k := 3) rfl rfl (by decide) rfl ?_
  clear hl
  intro ls hl
  refine lv_goto (pc := 31) (tgt := 5) hx hb (zdt_at zt_X10_half_0 20 rfl) (by decide) ?_
  exact hTo _ _ _ (ihself_5 _ hf ls (lv_sub hl [2, 3, 1, 0] rfl))
set_option maxHeartbeats 4000000 in
set_option maxRecDepth 100000 in
theorem c_X10_counterBlock (l : Launch) (D : va_G) (cy : Nat → ClassId) (tt : Nat → Nat) (sz : Nat) (h0 : Nat) (hm : Nat → Nat) (p1 : Int32) (p2 : Int32) (c_rounds : Int32) (c_block : Nat → Int32) (c_box : Nat → Int32) (c_buffer : Nat → Int32) (c_other : Nat → Int32) (c_round : Nat → Int32) (c_thrown : Int32) (c_state : Int32) (c_test : Int32) (c_words : Int32) (c_ill : Int32) (c_before : Int32) (c_inRow : Int32) (c_first : Int32) (c_inWindow : Int32) (c_same : Int32) (c_made : Int32) (c_requests : Int32) (c_total : Int64) (c_secrets : Int32) (c_high : Int64) (c_low : Int64) (c_keyHigh : Int64) (c_keyLow : Int64) (c_block' : Nat → Int32) (c_other' : Nat → Int32) (hf : f_X10_counterBlock p1 p2 c_rounds c_block c_box c_buffer c_other c_round = some (c_block', c_other')) : Met l yX10_counterBlock wsX10_counterBlock ({ frames := 3, cells := 0, slots := 0, locals := 71 }) (zPc D cy tt sz [.ref h0, .int p1, .int p2] ([(h0, .inr (12, zmo hm c_thrown c_state c_test c_words c_ill c_before c_inRow c_first c_inWindow c_same c_made c_requests c_total c_secrets c_rounds c_high c_low c_keyHigh c_keyLow)), ((hm 43), .inl (cy 1, 16, .inl c_block)), ((hm 39), .inl (cy 1, 256, .inl c_box)), ((hm 6), .inl (cy 1, 512, .inl c_buffer)), ((hm 44), .inl (cy 1, 16, .inl c_other)), ((hm 41), .inl (cy 1, 240, .inl c_round))])) (zQ D none ([(h0, .inr (12, zmo hm c_thrown c_state c_test c_words c_ill c_before c_inRow c_first c_inWindow c_same c_made c_requests c_total c_secrets c_rounds c_high c_low c_keyHigh c_keyLow)), ((hm 43), .inl (cy 1, 16, .inl c_block')), ((hm 39), .inl (cy 1, 256, .inl c_box)), ((hm 6), .inl (cy 1, 512, .inl c_buffer)), ((hm 44), .inl (cy 1, 16, .inl c_other')), ((hm 41), .inl (cy 1, 240, .inl c_round))]) (va_A ([(h0, .inr (12, zmo hm c_thrown c_state c_test c_words c_ill c_before c_inRow c_first c_inWindow c_same c_made c_requests c_total c_secrets c_rounds c_high c_low c_keyHigh c_keyLow)), ((hm 43), .inl (cy 1, 16, .inl c_block)), ((hm 39), .inl (cy 1, 256, .inl c_box)), ((hm 6), .inl (cy 1, 512, .inl c_buffer)), ((hm 44), .inl (cy 1, 16, .inl c_other)), ((hm 41), .inl (cy 1, 240, .inl c_round))]) sz)) 0 0 (va_A ([(h0, .inr (12, zmo hm c_thrown c_state c_test c_words c_ill c_before c_inRow c_first c_inWindow c_same c_made c_requests c_total c_secrets c_rounds c_high c_low c_keyHigh c_keyLow)), ((hm 43), .inl (cy 1, 16, .inl c_block)), ((hm 39), .inl (cy 1, 256, .inl c_box)), ((hm 6), .inl (cy 1, 512, .inl c_buffer)), ((hm 44), .inl (cy 1, 16, .inl c_other)), ((hm 41), .inl (cy 1, 240, .inl c_round))]) sz) := by
  refine Met.ofW (cc := cX10_counterBlock) (maxL := 4) (ret := none) (by decide) rfl ?_
  intro p e s m args below meth c s₁ B hml hv
  obtain ⟨rfl, rfl, hP, hD0, hE⟩ := hv
  have hx := B.exec
  have hb := B.bytes
  have hr := B.returns
  have hts := atoms_spec (ws := wsX10_counterBlock) B.pre
  have hown : s.vm.findClass RX10 = some m.cls := findClass_of_methodNamed B.named
  have hlocks := B.notSynchronized
  clear B
  have hD := hD0.self (sz := s.heap.size)
  generalize hAe : va_A ([(h0, .inr (12, zmo hm c_thrown c_state c_test c_words c_ill c_before c_inRow c_first c_inWindow c_same c_made c_requests c_total c_secrets c_rounds c_high c_low c_keyHigh c_keyLow)), ((hm 43), .inl (cy 1, 16, .inl c_block)), ((hm 39), .inl (cy 1, 256, .inl c_box)), ((hm 6), .inl (cy 1, 512, .inl c_buffer)), ((hm 44), .inl (cy 1, 16, .inl c_other)), ((hm 41), .inl (cy 1, 240, .inl c_round))]) s.heap.size = A at hD hE ⊢
  have hA : ∀ q : Nat, s.heap.size ≤ q → A q := fun q h => by rw [← hAe]; exact Or.inr h
  clear hAe hD0
  have hS : va_S A s.heap s.heap [] := va_S.rf
  have hK := hE.1
  have hw0 := hts (.fieldLink RX10 162 "SealedModuleModel" "block" "[I") (by decide +kernel)
  have hw1 := hts (.fieldLink RX10 84 "SealedModuleModel" "buffer" "[I") (by decide +kernel)
  have hcX10 : ∀ w ∈ u_ws RX10 TX10 52, w ∈ wsX10_counterBlock := (fun _ h => List.mem_cons_of_mem _ (List.mem_append_right _ h))
  have hl := lv_entry ([.ref h0, .int p1, .int p2]) (n := 4) (Nat.le_of_ble_eq_true rfl)
  rw [lg_entry_eq]
  generalize (lg_sl ([.ref h0, .int p1, .int p2]) ++ List.replicate (4 - (lg_sl ([.ref h0, .int p1, .int p2])).length) Slot.unset).toArray = ls at hl ⊢
  replace hl : lv_has ls 4 [(0, .ref h0), (1, .int p1), (2, .int p2)] := hl
  unfold f_X10_counterBlock at hf
  refine zgo (fun GW hTo hFr => ?_)
  refine hFr _ _ _ ?_
  obtain ⟨H, hHe⟩ : ∃ H, H = s.heap := ⟨_, rfl⟩
  obtain ⟨locs, hLe⟩ : ∃ L : List Loc, L = [] := ⟨_, rfl⟩
  rw [← hHe] at hP
  replace hS : va_S A s.heap H locs := by rw [hHe, hLe]; exact hS
  refine zat hHe.symm hLe.symm ?_
  clear hHe hLe
  refine lv_iconst (pc := 0) (v := (0 : Int32)) hx hb (zdt_at zt_X10_counterBlock_0 0 rfl) (by decide) ?_
  refine lv_istore_n (pc := 1) (lv' := [(3, .int (0 : Int32)), (0, .ref h0), (1, .int p1), (2, .int p2)]) hx hb (zdt_at zt_X10_counterBlock_0 1 rfl) rfl hl (by decide) rfl ?_
  clear hl
  intro ls hl
  replace hf := zj_s hf
  obtain ⟨K_4, eK_4, hf⟩ := hf
  have kK_4 : ∀ (c_block_3 : Nat → Int32) (H : Heap) (locs : List Loc) (ls : Array Slot), va_P D vwCl ([(h0, .inr (12, zmo hm c_thrown c_state c_test c_words c_ill c_before c_inRow c_first c_inWindow c_same c_made c_requests c_total c_secrets c_rounds c_high c_low c_keyHigh c_keyLow)), ((hm 43), .inl (cy 1, 16, .inl c_block_3)), ((hm 39), .inl (cy 1, 256, .inl c_box)), ((hm 6), .inl (cy 1, 512, .inl c_buffer)), ((hm 44), .inl (cy 1, 16, .inl c_other)), ((hm 41), .inl (cy 1, 240, .inl c_round))]) H → va_D A ([(h0, .inr (12, zmo hm c_thrown c_state c_test c_words c_ill c_before c_inRow c_first c_inWindow c_same c_made c_requests c_total c_secrets c_rounds c_high c_low c_keyHigh c_keyLow)), ((hm 43), .inl (cy 1, 16, .inl c_block_3)), ((hm 39), .inl (cy 1, 256, .inl c_box)), ((hm 6), .inl (cy 1, 512, .inl c_buffer)), ((hm 44), .inl (cy 1, 16, .inl c_other)), ((hm 41), .inl (cy 1, 240, .inl c_round))]) → va_S A s.heap H locs → lv_has ls 4 [(0, .ref h0), (2, .int p2)] → K_4 c_block_3 = some (c_block', c_other') → GW H locs (F0 m 28 ls []) := by
    clear hf hl hP hD hS
    intro c_block_3 H locs ls hP hD hS hl hf
    rw [eK_4] at hf
    clear eK_4
    refine hFr _ _ _ ?_
    refine lv_iconst (pc := 28) (v := (0 : Int32)) hx hb (zdt_at zt_X10_counterBlock_0 17 rfl) (by decide) ?_
    refine lv_istore_n (pc := 29) (lv' := [(3, .int (0 : Int32)), (0, .ref h0), (2, .int p2)]) hx hb (zdt_at zt_X10_counterBlock_0 18 rfl) rfl hl (by decide) rfl ?_
    clear hl
    intro ls hl
    replace hf := zj_s hf
    obtain ⟨K_8, eK_8, hf⟩ := hf
    have kK_8 : ∀ (c_block_7 : Nat → Int32) (H : Heap) (locs : List Loc) (ls : Array Slot), va_P D vwCl ([(h0, .inr (12, zmo hm c_thrown c_state c_test c_words c_ill c_before c_inRow c_first c_inWindow c_same c_made c_requests c_total c_secrets c_rounds c_high c_low c_keyHigh c_keyLow)), ((hm 43), .inl (cy 1, 16, .inl c_block_7)), ((hm 39), .inl (cy 1, 256, .inl c_box)), ((hm 6), .inl (cy 1, 512, .inl c_buffer)), ((hm 44), .inl (cy 1, 16, .inl c_other)), ((hm 41), .inl (cy 1, 240, .inl c_round))]) H → va_D A ([(h0, .inr (12, zmo hm c_thrown c_state c_test c_words c_ill c_before c_inRow c_first c_inWindow c_same c_made c_requests c_total c_secrets c_rounds c_high c_low c_keyHigh c_keyLow)), ((hm 43), .inl (cy 1, 16, .inl c_block_7)), ((hm 39), .inl (cy 1, 256, .inl c_box)), ((hm 6), .inl (cy 1, 512, .inl c_buffer)), ((hm 44), .inl (cy 1, 16, .inl c_other)), ((hm 41), .inl (cy 1, 240, .inl c_round))]) → va_S A s.heap H locs → lv_has ls 4 [(0, .ref h0)] → K_8 c_block_7 = some (c_block', c_other') → GW H locs (F0 m 63 ls []) := by
      clear hf hl hP hD hS
      intro c_block_7 H locs ls hP hD hS hl hf
      rw [eK_8] at hf
      clear eK_8
      refine hFr _ _ _ ?_
      refine lv_aload_n (pc := 63) hx hb (zdt_at zt_X10_counterBlock_0 39 rfl) rfl (lv_at hl 0 rfl) ?_
      replace hf := zb_s hf
      obtain ⟨⟨c_block_9, c_other_10⟩, hc_, hf⟩ := hf
      refine zcn2 (pc := 64) (rv := none) (va_runV (As := []) (rest := []) ⟨hx, hb, hml, hown, hts⟩ (c_X10_seal l D cy tt H.size h0 hm c_rounds c_block_7 c_box c_other c_round c_thrown c_state c_test c_words c_ill c_before c_inRow c_first c_inWindow c_same c_made c_requests c_total c_secrets c_high c_low c_keyHigh c_keyLow c_block_9 c_other_10 hc_) (cwV 0 hts gX10_counterBlock_X10_seal rfl rfl rfl (by decide +kernel) ⟨Nat.le_of_ble_eq_true rfl, Nat.le_of_ble_eq_true rfl⟩) ⟨zblind, va_recv hK hP (ci := 12) (q0 := 0) rfl rfl, zpre hE hS (hP.sub [0, 1, 2, 4, 5] rfl) (hD.sub [0, 1, 2, 4, 5] (by decide) rfl) (va_free hD hS hA [0, 1, 2, 4, 5] rfl)⟩ rfl rfl hl.1 rfl (lv_room (Nat.le_of_ble_eq_true rfl)) (zdt_at zt_X10_counterBlock_0 40 rfl) ⟨Nat.zero_le _, Nat.zero_le _⟩) hS hP hD (va_free hD hS hA [0, 1, 2, 4, 5] rfl) [0, 1, 2, 4, 5] rfl (by decide) rfl ?_
      clear hP hD hS hc_
      intro H locs hP hD hS
      replace hP : va_P D vwCl ([(h0, .inr (12, zmo hm c_thrown c_state c_test c_words c_ill c_before c_inRow c_first c_inWindow c_same c_made c_requests c_total c_secrets c_rounds c_high c_low c_keyHigh c_keyLow)), ((hm 43), .inl (cy 1, 16, .inl c_block_9)), ((hm 39), .inl (cy 1, 256, .inl c_box)), ((hm 6), .inl (cy 1, 512, .inl c_buffer)), ((hm 44), .inl (cy 1, 16, .inl c_other_10)), ((hm 41), .inl (cy 1, 240, .inl c_round))]) H := hP
      replace hD : va_D A ([(h0, .inr (12, zmo hm c_thrown c_state c_test c_words c_ill c_before c_inRow c_first c_inWindow c_same c_made c_requests c_total c_secrets c_rounds c_high c_low c_keyHigh c_keyLow)), ((hm 43), .inl (cy 1, 16, .inl c_block_9)), ((hm 39), .inl (cy 1, 256, .inl c_box)), ((hm 6), .inl (cy 1, 512, .inl c_buffer)), ((hm 44), .inl (cy 1, 16, .inl c_other_10)), ((hm 41), .inl (cy 1, 240, .inl c_round))]) := hD
      refine W.eq (g2 := F0 m 67 ls []) rfl ?_
      cases hf
      exact W.vret (pc := 67) hx hb hr (fun t ht hW => ⟨rfl, ⟨by rw [ht]; exact hP, hD⟩, hS.F ht⟩) hS.2.2 (zdt_at zt_X10_counterBlock_0 41 rfl)
    clear eK_8
    refine hTo _ _ _ (zl_go (fun z => match z with | (i_5, c_block_6) => ∀ (H : Heap) (locs : List Loc) (ls : Array Slot), va_P D vwCl ([(h0, .inr (12, zmo hm c_thrown c_state c_test c_words c_ill c_before c_inRow c_first c_inWindow c_same c_made c_requests c_total c_secrets c_rounds c_high c_low c_keyHigh c_keyLow)), ((hm 43), .inl (cy 1, 16, .inl c_block_6)), ((hm 39), .inl (cy 1, 256, .inl c_box)), ((hm 6), .inl (cy 1, 512, .inl c_buffer)), ((hm 44), .inl (cy 1, 16, .inl c_other)), ((hm 41), .inl (cy 1, 240, .inl c_round))]) H → va_D A ([(h0, .inr (12, zmo hm c_thrown c_state c_test c_words c_ill c_before c_inRow c_first c_inWindow c_same c_made c_requests c_total c_secrets c_rounds c_high c_low c_keyHigh c_keyLow)), ((hm 43), .inl (cy 1, 16, .inl c_block_6)), ((hm 39), .inl (cy 1, 256, .inl c_box)), ((hm 6), .inl (cy 1, 512, .inl c_buffer)), ((hm 44), .inl (cy 1, 16, .inl c_other)), ((hm 41), .inl (cy 1, 240, .inl c_round))]) → va_S A s.heap H locs → lv_has ls 4 [(0, .ref h0), (2, .int p2), (3, .int i_5)] → GW H locs (F0 m 30 ls [])) hf ?_ H locs ls hP hD hS (lv_sub hl [1, 2, 0] rfl))
    clear hf hl hP hD hS
    intro self_11 ihself_11 z hf
    obtain ⟨i_5, c_block_6⟩ := z
    intro H locs ls hP hD hS hl
    refine hFr _ _ _ ?_
    unfold b_X10_counterBlock_30 at hf
    refine lv_iload_n (pc := 30) hx hb (zdt_at zt_X10_counterBlock_0 19 rfl) rfl (lv_at hl 2 rfl) ?_
    refine lv_iconst (pc := 31) (v := (4 : Int32)) hx hb (zdt_at zt_X10_counterBlock_0 20 rfl) (by decide) ?_
    refine lv_icmp_ge (pc := 32) (tgt := 63) hx hb (zdt_at zt_X10_counterBlock_0 21 rfl) (by decide) (fun cn_ => ?t_12) (fun cn_ => ?f_13)
    case t_12 =>
      replace hf := zt_s cn_ hf
      clear cn_
      exact hTo _ _ _ (kK_8 _ H locs ls hP hD hS (lv_sub hl [0] rfl) hf)
    replace hf := ze_s cn_ hf
    clear cn_
    refine lv_aload_n (pc := 35) hx hb (zdt_at zt_X10_counterBlock_0 22 rfl) rfl (lv_at hl 0 rfl) ?_
    refine va_get (pc := 36) (D := D) (ci := 12) (v := .ref (hm 43)) (C := RX10) (T := TX10) (N := 52) hx hb hts hcX10 hown hK hP 0 rfl rfl 43 (by decide) hw0 (fun _ h9 => h9) rfl (zdt_at zt_X10_counterBlock_0 23 rfl) ?_
    refine lv_bipush (pc := 39) (v := (12 : Int32)) hx hb (zdt_at zt_X10_counterBlock_0 24 rfl) (by decide) ?_
    refine lv_iload_n (pc := 41) hx hb (zdt_at zt_X10_counterBlock_0 25 rfl) rfl (lv_at hl 2 rfl) ?_
    refine lv_iadd (pc := 42) hx hb (zdt_at zt_X10_counterBlock_0 26 rfl) ?_
    refine lv_iload_n (pc := 43) hx hb (zdt_at zt_X10_counterBlock_0 27 rfl) rfl (lv_at hl 1 rfl) ?_
    refine lv_bipush (pc := 44) (v := (24 : Int32)) hx hb (zdt_at zt_X10_counterBlock_0 28 rfl) (by decide) ?_
    refine lv_bipush (pc := 46) (v := (8 : Int32)) hx hb (zdt_at zt_X10_counterBlock_0 29 rfl) (by decide) ?_
    refine lv_iload_n (pc := 48) hx hb (zdt_at zt_X10_counterBlock_0 30 rfl) rfl (lv_at hl 2 rfl) ?_
    refine lv_imul (pc := 49) hx hb (zdt_at zt_X10_counterBlock_0 31 rfl) ?_
    refine lv_isub (pc := 50) hx hb (zdt_at zt_X10_counterBlock_0 32 rfl) ?_
    refine lv_ishr (pc := 51) hx hb (zdt_at zt_X10_counterBlock_0 33 rfl) ?_
    refine lv_sipush (pc := 52) (v := (255 : Int32)) hx hb (zdt_at zt_X10_counterBlock_0 34 rfl) (by decide) ?_
    refine lv_iand (pc := 55) hx hb (zdt_at zt_X10_counterBlock_0 35 rfl) ?_
    replace hf := zk_s hf
    refine va_iast (pc := 56) hx hb hK hP hD hS 1 1 rfl rfl hf.1 (zdt_at zt_X10_counterBlock_0 36 rfl) ?_
    replace hf := hf.2
    clear hP hD hS
    intro H locs hP hD hS
    obtain ⟨c_block_14, e_⟩ : ∃ q : Nat → Int32, q = (upd c_block_6 ((12 : Int32) + i_5).toNatClampNeg ((p2 >>> (((24 : Int32) - ((8 : Int32) * i_5)) &&& 31)) &&& (255 : Int32))) := ⟨_, rfl⟩
    replace hf := zn_s hf e_
    replace hP : va_P D vwCl ([(h0, .inr (12, zmo hm c_thrown c_state c_test c_words c_ill c_before c_inRow c_first c_inWindow c_same c_made c_requests c_total c_secrets c_rounds c_high c_low c_keyHigh c_keyLow)), ((hm 43), .inl (cy 1, 16, .inl c_block_14)), ((hm 39), .inl (cy 1, 256, .inl c_box)), ((hm 6), .inl (cy 1, 512, .inl c_buffer)), ((hm 44), .inl (cy 1, 16, .inl c_other)), ((hm 41), .inl (cy 1, 240, .inl c_round))]) H := by rw [e_]; exact hP
    replace hD : va_D A ([(h0, .inr (12, zmo hm c_thrown c_state c_test c_words c_ill c_before c_inRow c_first c_inWindow c_same c_made c_requests c_total c_secrets c_rounds c_high c_low c_keyHigh c_keyLow)), ((hm 43), .inl (cy 1, 16, .inl c_block_14)), ((hm 39), .inl (cy 1, 256, .inl c_box)), ((hm 6), .inl (cy 1, 512, .inl c_buffer)), ((hm 44), .inl (cy 1, 16, .inl c_other)), ((hm 41), .inl (cy 1, 240, .inl c_round))]) := by rw [e_]; exact hD
    clear e_
    refine lv_iinc (pc := 57) (v := (i_5 + (1 : Int32))) (lv' := [(3, .int (i_5 + (1 : Int32))), (0, .ref h0), (2, .int p2)]) hx hb (zdt_at zt_X10_counterBlock_0 37 rfl) hl (k := 2) rfl rfl (by decide) rfl ?_
    clear hl
    intro ls hl
    refine lv_goto (pc := 60) (tgt := 30) hx hb (zdt_at zt_X10_counterBlock_0 38 rfl) (by decide) ?_
    exact hTo _ _ _ (ihself_11 _ hf H locs ls hP hD hS (lv_sub hl [1, 2, 0] rfl))
  clear eK_4
  refine hTo _ _ _ (zl_go (fun z => match z with | (i_1, c_block_2) => ∀ (H : Heap) (locs : List Loc) (ls : Array Slot), va_P D vwCl ([(h0, .inr (12, zmo hm c_thrown c_state c_test c_words c_ill c_before c_inRow c_first c_inWindow c_same c_made c_requests c_total c_secrets c_rounds c_high c_low c_keyHigh c_keyLow)), ((hm 43), .inl (cy 1, 16, .inl c_block_2)), ((hm 39), .inl (cy 1, 256, .inl c_box)), ((hm 6), .inl (cy 1, 512, .inl c_buffer)), ((hm 44), .inl (cy 1, 16, .inl c_other)), ((hm 41), .inl (cy 1, 240, .inl c_round))]) H → va_D A ([(h0, .inr (12, zmo hm c_thrown c_state c_test c_words c_ill c_before c_inRow c_first c_inWindow c_same c_made c_requests c_total c_secrets c_rounds c_high c_low c_keyHigh c_keyLow)), ((hm 43), .inl (cy 1, 16, .inl c_block_2)), ((hm 39), .inl (cy 1, 256, .inl c_box)), ((hm 6), .inl (cy 1, 512, .inl c_buffer)), ((hm 44), .inl (cy 1, 16, .inl c_other)), ((hm 41), .inl (cy 1, 240, .inl c_round))]) → va_S A s.heap H locs → lv_has ls 4 [(0, .ref h0), (1, .int p1), (2, .int p2), (3, .int i_1)] → GW H locs (F0 m 2 ls [])) hf ?_ H locs ls hP hD hS (lv_sub hl [1, 2, 3, 0] rfl))
  clear hf hl hP hD hS
  intro self_15 ihself_15 z hf
  obtain ⟨i_1, c_block_2⟩ := z
  intro H locs ls hP hD hS hl
  refine hFr _ _ _ ?_
  unfold b_X10_counterBlock_2 at hf
  refine lv_iload_n (pc := 2) hx hb (zdt_at zt_X10_counterBlock_0 2 rfl) rfl (lv_at hl 3 rfl) ?_
  refine lv_bipush (pc := 3) (v := (12 : Int32)) hx hb (zdt_at zt_X10_counterBlock_0 3 rfl) (by decide) ?_
  refine lv_icmp_ge (pc := 5) (tgt := 28) hx hb (zdt_at zt_X10_counterBlock_0 4 rfl) (by decide) (fun cn_ => ?t_16) (fun cn_ => ?f_17)
  case t_16 =>
    replace hf := zt_s cn_ hf
    clear cn_
    exact hTo _ _ _ (kK_4 _ H locs ls hP hD hS (lv_sub hl [0, 2] rfl) hf)
  replace hf := ze_s cn_ hf
  clear cn_
  refine lv_aload_n (pc := 8) hx hb (zdt_at zt_X10_counterBlock_0 5 rfl) rfl (lv_at hl 0 rfl) ?_
  refine va_get (pc := 9) (D := D) (ci := 12) (v := .ref (hm 43)) (C := RX10) (T := TX10) (N := 52) hx hb hts hcX10 hown hK hP 0 rfl rfl 43 (by decide) hw0 (fun _ h9 => h9) rfl (zdt_at zt_X10_counterBlock_0 6 rfl) ?_
  refine lv_iload_n (pc := 12) hx hb (zdt_at zt_X10_counterBlock_0 7 rfl) rfl (lv_at hl 3 rfl) ?_
  refine lv_aload_n (pc := 13) hx hb (zdt_at zt_X10_counterBlock_0 8 rfl) rfl (lv_at hl 0 rfl) ?_
  refine va_get (pc := 14) (D := D) (ci := 12) (v := .ref (hm 6)) (C := RX10) (T := TX10) (N := 52) hx hb hts hcX10 hown hK hP 0 rfl rfl 6 (by decide) hw1 (fun _ h9 => h9) rfl (zdt_at zt_X10_counterBlock_0 9 rfl) ?_
  refine lv_iload_n (pc := 17) hx hb (zdt_at zt_X10_counterBlock_0 10 rfl) rfl (lv_at hl 1 rfl) ?_
  refine lv_iload_n (pc := 18) hx hb (zdt_at zt_X10_counterBlock_0 11 rfl) rfl (lv_at hl 3 rfl) ?_
  refine lv_iadd (pc := 19) hx hb (zdt_at zt_X10_counterBlock_0 12 rfl) ?_
  replace hf := zk_s hf
  refine va_iald (pc := 20) hx hb hK hP 3 1 rfl rfl hf.1 (zdt_at zt_X10_counterBlock_0 13 rfl) ?_
  replace hf := hf.2
  replace hf := zk_s hf
  refine va_iast (pc := 21) hx hb hK hP hD hS 1 1 rfl rfl hf.1 (zdt_at zt_X10_counterBlock_0 14 rfl) ?_
  replace hf := hf.2
  clear hP hD hS
  intro H locs hP hD hS
  obtain ⟨c_block_18, e_⟩ : ∃ q : Nat → Int32, q = (upd c_block_2 i_1.toNatClampNeg (c_buffer (p1 + i_1).toNatClampNeg)) := ⟨_, rfl⟩
  replace hf := zn_s hf e_
  replace hP : va_P D vwCl ([(h0, .inr (12, zmo hm c_thrown c_state c_test c_words c_ill c_before c_inRow c_first c_inWindow c_same c_made c_requests c_total c_secrets c_rounds c_high c_low c_keyHigh c_keyLow)), ((hm 43), .inl (cy 1, 16, .inl c_block_18)), ((hm 39), .inl (cy 1, 256, .inl c_box)), ((hm 6), .inl (cy 1, 512, .inl c_buffer)), ((hm 44), .inl (cy 1, 16, .inl c_other)), ((hm 41), .inl (cy 1, 240, .inl c_round))]) H := by rw [e_]; exact hP
  replace hD : va_D A ([(h0, .inr (12, zmo hm c_thrown c_state c_test c_words c_ill c_before c_inRow c_first c_inWindow c_same c_made c_requests c_total c_secrets c_rounds c_high c_low c_keyHigh c_keyLow)), ((hm 43), .inl (cy 1, 16, .inl c_block_18)), ((hm 39), .inl (cy 1, 256, .inl c_box)), ((hm 6), .inl (cy 1, 512, .inl c_buffer)), ((hm 44), .inl (cy 1, 16, .inl c_other)), ((hm 41), .inl (cy 1, 240, .inl c_round))]) := by rw [e_]; exact hD
  clear e_
  refine lv_iinc (pc := 22) (v := (i_1 + (1 : Int32))) (lv' := [(3, .int (i_1 + (1 : Int32))), (0, .ref h0), (1, .int p1), (2, .int p2)]) hx hb (zdt_at zt_X10_counterBlock_0 15 rfl) hl (k := 3) rfl rfl (by decide) rfl ?_
  clear hl
  intro ls hl
  refine lv_goto (pc := 25) (tgt := 2) hx hb (zdt_at zt_X10_counterBlock_0 16 rfl) (by decide) ?_
  exact hTo _ _ _ (ihself_15 _ hf H locs ls hP hD hS (lv_sub hl [1, 2, 3, 0] rfl))
set_option maxHeartbeats 4000000 in
set_option maxRecDepth 100000 in
theorem c_X10_multiply (l : Launch) (D : va_G) (cy : Nat → ClassId) (tt : Nat → Nat) (sz : Nat) (h0 : Nat) (hm : Nat → Nat) (p1 : Int64) (p2 : Int64) (c_high : Int64) (c_keyHigh : Int64) (c_keyLow : Int64) (c_low : Int64) (c_thrown : Int32) (c_state : Int32) (c_test : Int32) (c_words : Int32) (c_ill : Int32) (c_before : Int32) (c_inRow : Int32) (c_first : Int32) (c_inWindow : Int32) (c_same : Int32) (c_made : Int32) (c_requests : Int32) (c_total : Int64) (c_secrets : Int32) (c_rounds : Int32) (c_high' : Int64) (c_low' : Int64) (hf : f_X10_multiply p1 p2 c_high c_keyHigh c_keyLow c_low = some (c_high', c_low')) : Met l yX10_multiply wsX10_multiply ({ frames := 0, cells := 0, slots := 0, locals := 0 }) (zPc D cy tt sz [.ref h0, .long p1, .long p2] ([(h0, .inr (12, zmo hm c_thrown c_state c_test c_words c_ill c_before c_inRow c_first c_inWindow c_same c_made c_requests c_total c_secrets c_rounds c_high c_low c_keyHigh c_keyLow))])) (zQ D none ([(h0, .inr (12, zmo hm c_thrown c_state c_test c_words c_ill c_before c_inRow c_first c_inWindow c_same c_made c_requests c_total c_secrets c_rounds c_high' c_low' c_keyHigh c_keyLow))]) (va_A ([(h0, .inr (12, zmo hm c_thrown c_state c_test c_words c_ill c_before c_inRow c_first c_inWindow c_same c_made c_requests c_total c_secrets c_rounds c_high c_low c_keyHigh c_keyLow))]) sz)) 0 0 (va_A ([(h0, .inr (12, zmo hm c_thrown c_state c_test c_words c_ill c_before c_inRow c_first c_inWindow c_same c_made c_requests c_total c_secrets c_rounds c_high c_low c_keyHigh c_keyLow))]) sz) := by
  refine Met.ofW (cc := cX10_multiply) (maxL := 13) (ret := none) (by decide) rfl ?_
  intro p e s m args below meth c s₁ B hml hv
  obtain ⟨rfl, rfl, hP, hD0, hE⟩ := hv
  have hx := B.exec
  have hb := B.bytes
  have hr := B.returns
  have hts := atoms_spec (ws := wsX10_multiply) B.pre
  have hown : s.vm.findClass RX10 = some m.cls := findClass_of_methodNamed B.named
  have hlocks := B.notSynchronized
  clear B
  have hD := hD0.self (sz := s.heap.size)
  generalize hAe : va_A ([(h0, .inr (12, zmo hm c_thrown c_state c_test c_words c_ill c_before c_inRow c_first c_inWindow c_same c_made c_requests c_total c_secrets c_rounds c_high c_low c_keyHigh c_keyLow))]) s.heap.size = A at hD hE ⊢
  have hA : ∀ q : Nat, s.heap.size ≤ q → A q := fun q h => by rw [← hAe]; exact Or.inr h
  clear hAe hD0
  have hS : va_S A s.heap s.heap [] := va_S.rf
  have hK := hE.1
  have hw0 := hts (.fieldLink RX10 378 "SealedModuleModel" "high" "J") (by decide +kernel)
  have hw1 := hts (.fieldLink RX10 381 "SealedModuleModel" "low" "J") (by decide +kernel)
  have hw2 := hts (.fieldLink RX10 388 "SealedModuleModel" "keyHigh" "J") (by decide +kernel)
  have hw3 := hts (.fieldLink RX10 391 "SealedModuleModel" "keyLow" "J") (by decide +kernel)
  have hw4 := hts (.constantLong RX10 394 (-2233785415175766016)) (by decide +kernel)
  have hcX10 : ∀ w ∈ u_ws RX10 TX10 52, w ∈ wsX10_multiply := (fun _ h => List.mem_cons_of_mem _ (List.mem_append_right _ h))
  have hl := lv_entry ([.ref h0, .long p1, .long p2]) (n := 13) (Nat.le_of_ble_eq_true rfl)
  rw [lg_entry_eq]
  generalize (lg_sl ([.ref h0, .long p1, .long p2]) ++ List.replicate (13 - (lg_sl ([.ref h0, .long p1, .long p2])).length) Slot.unset).toArray = ls at hl ⊢
  replace hl : lv_has ls 13 [(0, .ref h0), (1, .long p1), (3, .long p2)] := hl
  unfold f_X10_multiply at hf
  refine zgo (fun GW hTo hFr => ?_)
  refine hFr _ _ _ ?_
  obtain ⟨H, hHe⟩ : ∃ H, H = s.heap := ⟨_, rfl⟩
  obtain ⟨locs, hLe⟩ : ∃ L : List Loc, L = [] := ⟨_, rfl⟩
  rw [← hHe] at hP
  replace hS : va_S A s.heap H locs := by rw [hHe, hLe]; exact hS
  refine zat hHe.symm hLe.symm ?_
  clear hHe hLe
  refine lv_aload_n (pc := 0) hx hb (zdt_at zt_X10_multiply_0 0 rfl) rfl (lv_at hl 0 rfl) ?_
  refine lv_lconst (pc := 1) (v := (0 : Int64)) hx hb (zdt_at zt_X10_multiply_0 1 rfl) (by decide) ?_
  refine va_put (pc := 2) (D := D) (ci := 12) (v := .long (0 : Int64)) (ty := .long) (C := RX10) (T := TX10) (N := 52) hx hb hts hcX10 tyX10 tyX10_ok nmX10 hown hK hP hD hS 0 rfl rfl 48 (by decide) hw0 (fun _ h9 => h9) rfl (by decide +kernel) rfl rfl (Nat.le_of_ble_eq_true rfl) (zdt_at zt_X10_multiply_0 2 rfl) ?_
  clear hP hD hS
  intro H locs hP hD hS
  replace hP : va_P D vwCl ([(h0, .inr (12, zmo hm c_thrown c_state c_test c_words c_ill c_before c_inRow c_first c_inWindow c_same c_made c_requests c_total c_secrets c_rounds (0 : Int64) c_low c_keyHigh c_keyLow))]) H := hP
  replace hD : va_D A ([(h0, .inr (12, zmo hm c_thrown c_state c_test c_words c_ill c_before c_inRow c_first c_inWindow c_same c_made c_requests c_total c_secrets c_rounds (0 : Int64) c_low c_keyHigh c_keyLow))]) := hD
  refine lv_aload_n (pc := 5) hx hb (zdt_at zt_X10_multiply_0 3 rfl) rfl (lv_at hl 0 rfl) ?_
  refine lv_lconst (pc := 6) (v := (0 : Int64)) hx hb (zdt_at zt_X10_multiply_0 4 rfl) (by decide) ?_
  refine va_put (pc := 7) (D := D) (ci := 12) (v := .long (0 : Int64)) (ty := .long) (C := RX10) (T := TX10) (N := 52) hx hb hts hcX10 tyX10 tyX10_ok nmX10 hown hK hP hD hS 0 rfl rfl 49 (by decide) hw1 (fun _ h9 => h9) rfl (by decide +kernel) rfl rfl (Nat.le_of_ble_eq_true rfl) (zdt_at zt_X10_multiply_0 5 rfl) ?_
  clear hP hD hS
  intro H locs hP hD hS
  replace hP : va_P D vwCl ([(h0, .inr (12, zmo hm c_thrown c_state c_test c_words c_ill c_before c_inRow c_first c_inWindow c_same c_made c_requests c_total c_secrets c_rounds (0 : Int64) (0 : Int64) c_keyHigh c_keyLow))]) H := hP
  replace hD : va_D A ([(h0, .inr (12, zmo hm c_thrown c_state c_test c_words c_ill c_before c_inRow c_first c_inWindow c_same c_made c_requests c_total c_secrets c_rounds (0 : Int64) (0 : Int64) c_keyHigh c_keyLow))]) := hD
  refine lv_aload_n (pc := 10) hx hb (zdt_at zt_X10_multiply_0 6 rfl) rfl (lv_at hl 0 rfl) ?_
  refine va_get (pc := 11) (D := D) (ci := 12) (v := .long c_keyHigh) (C := RX10) (T := TX10) (N := 52) hx hb hts hcX10 hown hK hP 0 rfl rfl 50 (by decide) hw2 (fun _ h9 => h9) rfl (zdt_at zt_X10_multiply_0 7 rfl) ?_
  refine lv_lstore (pc := 14) (lv' := [(5, .long c_keyHigh), (0, .ref h0), (1, .long p1), (3, .long p2)]) hx hb (zdt_at zt_X10_multiply_0 8 rfl) hl (by decide) rfl ?_
  clear hl
  intro ls hl
  refine lv_aload_n (pc := 16) hx hb (zdt_at zt_X10_multiply_0 9 rfl) rfl (lv_at hl 1 rfl) ?_
  refine va_get (pc := 17) (D := D) (ci := 12) (v := .long c_keyLow) (C := RX10) (T := TX10) (N := 52) hx hb hts hcX10 hown hK hP 0 rfl rfl 51 (by decide) hw3 (fun _ h9 => h9) rfl (zdt_at zt_X10_multiply_0 10 rfl) ?_
  refine lv_lstore (pc := 20) (lv' := [(7, .long c_keyLow), (5, .long c_keyHigh), (0, .ref h0), (1, .long p1), (3, .long p2)]) hx hb (zdt_at zt_X10_multiply_0 11 rfl) hl (by decide) rfl ?_
  clear hl
  intro ls hl
  refine lv_iconst (pc := 22) (v := (0 : Int32)) hx hb (zdt_at zt_X10_multiply_0 12 rfl) (by decide) ?_
  refine lv_istore (pc := 23) (lv' := [(9, .int (0 : Int32)), (7, .long c_keyLow), (5, .long c_keyHigh), (0, .ref h0), (1, .long p1), (3, .long p2)]) hx hb (zdt_at zt_X10_multiply_0 13 rfl) hl (by decide) rfl ?_
  clear hl
  intro ls hl
  replace hf := zj_s hf
  obtain ⟨K_8, eK_8, hf⟩ := hf
  have kK_8 : ∀ (c_high_6 : Int64) (c_low_7 : Int64) (H : Heap) (locs : List Loc) (ls : Array Slot), va_P D vwCl ([(h0, .inr (12, zmo hm c_thrown c_state c_test c_words c_ill c_before c_inRow c_first c_inWindow c_same c_made c_requests c_total c_secrets c_rounds c_high_6 c_low_7 c_keyHigh c_keyLow))]) H → va_D A ([(h0, .inr (12, zmo hm c_thrown c_state c_test c_words c_ill c_before c_inRow c_first c_inWindow c_same c_made c_requests c_total c_secrets c_rounds c_high_6 c_low_7 c_keyHigh c_keyLow))]) → va_S A s.heap H locs → lv_has ls 13 [] → K_8 c_high_6 c_low_7 = some (c_high', c_low') → GW H locs (F0 m 152 ls []) := by
    clear hf hl hP hD hS
    intro c_high_6 c_low_7 H locs ls hP hD hS hl hf
    rw [eK_8] at hf
    clear eK_8
    refine hFr _ _ _ ?_
    cases hf
    exact W.vret (pc := 152) hx hb hr (fun t ht hW => ⟨rfl, ⟨by rw [ht]; exact hP, hD⟩, hS.F ht⟩) hS.2.2 (zdt_at zt_X10_multiply_1 22 rfl)
  clear eK_8
  refine hTo _ _ _ (zl_go (fun z => match z with | (i_1, i_2, i_3, c_high_4, c_low_5) => ∀ (H : Heap) (locs : List Loc) (ls : Array Slot), va_P D vwCl ([(h0, .inr (12, zmo hm c_thrown c_state c_test c_words c_ill c_before c_inRow c_first c_inWindow c_same c_made c_requests c_total c_secrets c_rounds c_high_4 c_low_5 c_keyHigh c_keyLow))]) H → va_D A ([(h0, .inr (12, zmo hm c_thrown c_state c_test c_words c_ill c_before c_inRow c_first c_inWindow c_same c_made c_requests c_total c_secrets c_rounds c_high_4 c_low_5 c_keyHigh c_keyLow))]) → va_S A s.heap H locs → lv_has ls 13 [(0, .ref h0), (1, .long p1), (3, .long p2), (5, .long i_1), (7, .long i_2), (9, .int i_3)] → GW H locs (F0 m 25 ls [])) hf ?_ H locs ls hP hD hS (lv_sub hl [3, 4, 5, 2, 1, 0] rfl))
  clear hf hl hP hD hS
  intro self_9 ihself_9 z hf
  obtain ⟨i_1, i_2, i_3, c_high_4, c_low_5⟩ := z
  intro H locs ls hP hD hS hl
  refine hFr _ _ _ ?_
  unfold b_X10_multiply_25 at hf
  refine lv_iload (pc := 25) hx hb (zdt_at zt_X10_multiply_0 14 rfl) (lv_at hl 5 rfl) ?_
  refine lv_sipush (pc := 27) (v := (128 : Int32)) hx hb (zdt_at zt_X10_multiply_0 15 rfl) (by decide) ?_
  refine lv_icmp_ge (pc := 30) (tgt := 152) hx hb (zdt_at zt_X10_multiply_0 16 rfl) (by decide) (fun cn_ => ?t_10) (fun cn_ => ?f_11)
  case t_10 =>
    replace hf := zt_s cn_ hf
    clear cn_
    exact hTo _ _ _ (kK_8 _ _ H locs ls hP hD hS (lv_sub hl [] rfl) hf)
  replace hf := ze_s cn_ hf
  clear cn_
  refine lv_iload (pc := 33) hx hb (zdt_at zt_X10_multiply_0 17 rfl) (lv_at hl 5 rfl) ?_
  refine lv_bipush (pc := 35) (v := (64 : Int32)) hx hb (zdt_at zt_X10_multiply_0 18 rfl) (by decide) ?_
  replace hf := zj_s hf
  obtain ⟨K_13, eK_13, hf⟩ := hf
  have kK_13 : ∀ (v_12 : Int64) (H : Heap) (locs : List Loc) (ls : Array Slot), va_P D vwCl ([(h0, .inr (12, zmo hm c_thrown c_state c_test c_words c_ill c_before c_inRow c_first c_inWindow c_same c_made c_requests c_total c_secrets c_rounds c_high_4 c_low_5 c_keyHigh c_keyLow))]) H → va_D A ([(h0, .inr (12, zmo hm c_thrown c_state c_test c_words c_ill c_before c_inRow c_first c_inWindow c_same c_made c_requests c_total c_secrets c_rounds c_high_4 c_low_5 c_keyHigh c_keyLow))]) → va_S A s.heap H locs → lv_has ls 13 [(0, .ref h0), (1, .long p1), (3, .long p2), (5, .long i_1), (7, .long i_2), (9, .int i_3)] → K_13 v_12 = some (c_high', c_low') → GW H locs (F0 m 61 ls [.long v_12]) := by
    clear hf hl hP hD hS
    intro v_12 H locs ls hP hD hS hl hf
    rw [eK_13] at hf
    clear eK_13
    refine hFr _ _ _ ?_
    refine lv_lstore (pc := 61) (lv' := [(10, .long v_12), (0, .ref h0), (1, .long p1), (3, .long p2), (5, .long i_1), (7, .long i_2), (9, .int i_3)]) hx hb (zdt_at zt_X10_multiply_0 35 rfl) hl (by decide) rfl ?_
    clear hl
    intro ls hl
    refine lv_lload (pc := 63) hx hb (zdt_at zt_X10_multiply_0 36 rfl) (lv_at hl 0 rfl) ?_
    refine lv_lconst (pc := 65) (v := (1 : Int64)) hx hb (zdt_at zt_X10_multiply_0 37 rfl) (by decide) ?_
    refine W.lcmp (pc := 66) hx hb (zdt_at zt_X10_multiply_0 38 rfl) ?_
    replace hf := zj_s hf
    obtain ⟨K_15, eK_15, hf⟩ := hf
    have kK_15 : ∀ (c_high_14 : Int64) (H : Heap) (locs : List Loc) (ls : Array Slot), va_P D vwCl ([(h0, .inr (12, zmo hm c_thrown c_state c_test c_words c_ill c_before c_inRow c_first c_inWindow c_same c_made c_requests c_total c_secrets c_rounds c_high_14 c_low_5 c_keyHigh c_keyLow))]) H → va_D A ([(h0, .inr (12, zmo hm c_thrown c_state c_test c_words c_ill c_before c_inRow c_first c_inWindow c_same c_made c_requests c_total c_secrets c_rounds c_high_14 c_low_5 c_keyHigh c_keyLow))]) → va_S A s.heap H locs → lv_has ls 13 [(0, .ref h0), (1, .long p1), (3, .long p2), (5, .long i_1), (7, .long i_2), (9, .int i_3), (10, .long v_12)] → K_15 c_high_14 = some (c_high', c_low') → GW H locs (F0 m 81 ls []) := by
      clear hf hl hP hD hS
      intro c_high_14 H locs ls hP hD hS hl hf
      rw [eK_15] at hf
      clear eK_15
      refine hFr _ _ _ ?_
      refine lv_lload (pc := 81) hx hb (zdt_at zt_X10_multiply_0 46 rfl) (lv_at hl 6 rfl) ?_
      refine lv_lconst (pc := 83) (v := (1 : Int64)) hx hb (zdt_at zt_X10_multiply_0 47 rfl) (by decide) ?_
      refine W.lcmp (pc := 84) hx hb (zdt_at zt_X10_multiply_0 48 rfl) ?_
      replace hf := zj_s hf
      obtain ⟨K_17, eK_17, hf⟩ := hf
      have kK_17 : ∀ (c_low_16 : Int64) (H : Heap) (locs : List Loc) (ls : Array Slot), va_P D vwCl ([(h0, .inr (12, zmo hm c_thrown c_state c_test c_words c_ill c_before c_inRow c_first c_inWindow c_same c_made c_requests c_total c_secrets c_rounds c_high_14 c_low_16 c_keyHigh c_keyLow))]) H → va_D A ([(h0, .inr (12, zmo hm c_thrown c_state c_test c_words c_ill c_before c_inRow c_first c_inWindow c_same c_made c_requests c_total c_secrets c_rounds c_high_14 c_low_16 c_keyHigh c_keyLow))]) → va_S A s.heap H locs → lv_has ls 13 [(0, .ref h0), (1, .long p1), (3, .long p2), (5, .long i_1), (7, .long i_2), (9, .int i_3)] → K_17 c_low_16 = some (c_high', c_low') → GW H locs (F0 m 99 ls []) := by
        clear hf hl hP hD hS
        intro c_low_16 H locs ls hP hD hS hl hf
        rw [eK_17] at hf
        clear eK_17
        refine hFr _ _ _ ?_
        refine lv_lload (pc := 99) hx hb (zdt_at zt_X10_multiply_0 56 rfl) (lv_at hl 4 rfl) ?_
        refine lv_lconst (pc := 101) (v := (1 : Int64)) hx hb (zdt_at zt_X10_multiply_0 57 rfl) (by decide) ?_
        refine lv_land (pc := 102) hx hb (zdt_at zt_X10_multiply_0 58 rfl) ?_
        refine lv_lconst (pc := 103) (v := (1 : Int64)) hx hb (zdt_at zt_X10_multiply_0 59 rfl) (by decide) ?_
        refine W.lcmp (pc := 104) hx hb (zdt_at zt_X10_multiply_0 60 rfl) ?_
        replace hf := zj_s hf
        obtain ⟨K_19, eK_19, hf⟩ := hf
        have kK_19 : ∀ (v_18 : Int32) (H : Heap) (locs : List Loc) (ls : Array Slot), va_P D vwCl ([(h0, .inr (12, zmo hm c_thrown c_state c_test c_words c_ill c_before c_inRow c_first c_inWindow c_same c_made c_requests c_total c_secrets c_rounds c_high_14 c_low_16 c_keyHigh c_keyLow))]) H → va_D A ([(h0, .inr (12, zmo hm c_thrown c_state c_test c_words c_ill c_before c_inRow c_first c_inWindow c_same c_made c_requests c_total c_secrets c_rounds c_high_14 c_low_16 c_keyHigh c_keyLow))]) → va_S A s.heap H locs → lv_has ls 13 [(0, .ref h0), (1, .long p1), (3, .long p2), (5, .long i_1), (7, .long i_2), (9, .int i_3)] → K_19 v_18 = some (c_high', c_low') → GW H locs (F0 m 113 ls [.int v_18]) := by
          clear hf hl hP hD hS
          intro v_18 H locs ls hP hD hS hl hf
          rw [eK_19] at hf
          clear eK_19
          refine hFr _ _ _ ?_
          refine lv_istore (pc := 113) (lv' := [(12, .int v_18), (0, .ref h0), (1, .long p1), (3, .long p2), (5, .long i_1), (7, .long i_2), (9, .int i_3)]) hx hb (zdt_at zt_X10_multiply_1 1 rfl) hl (by decide) rfl ?_
          clear hl
          intro ls hl
          refine lv_lload (pc := 115) hx hb (zdt_at zt_X10_multiply_1 2 rfl) (lv_at hl 5 rfl) ?_
          refine lv_iconst (pc := 117) (v := (1 : Int32)) hx hb (zdt_at zt_X10_multiply_1 3 rfl) (by decide) ?_
          refine lv_lushr (pc := 118) hx hb (zdt_at zt_X10_multiply_1 4 rfl) rfl ?_
          refine lv_lload (pc := 119) hx hb (zdt_at zt_X10_multiply_1 5 rfl) (lv_at hl 4 rfl) ?_
          refine lv_bipush (pc := 121) (v := (63 : Int32)) hx hb (zdt_at zt_X10_multiply_1 6 rfl) (by decide) ?_
          refine lv_lshl (pc := 123) hx hb (zdt_at zt_X10_multiply_1 7 rfl) rfl ?_
          refine lv_lor (pc := 124) hx hb (zdt_at zt_X10_multiply_1 8 rfl) ?_
          refine lv_topl (fun x_20 e_ => ?_)
          replace hf := zn_s hf e_
          clear e_
          refine lv_lstore (pc := 125) (lv' := [(7, .long x_20), (12, .int v_18), (0, .ref h0), (1, .long p1), (3, .long p2), (5, .long i_1), (9, .int i_3)]) hx hb (zdt_at zt_X10_multiply_1 9 rfl) hl (by decide) rfl ?_
          clear hl
          intro ls hl
          refine lv_lload (pc := 127) hx hb (zdt_at zt_X10_multiply_1 10 rfl) (lv_at hl 5 rfl) ?_
          refine lv_iconst (pc := 129) (v := (1 : Int32)) hx hb (zdt_at zt_X10_multiply_1 11 rfl) (by decide) ?_
          refine lv_lushr (pc := 130) hx hb (zdt_at zt_X10_multiply_1 12 rfl) rfl ?_
          refine lv_iload (pc := 131) hx hb (zdt_at zt_X10_multiply_1 13 rfl) (lv_at hl 1 rfl) ?_
          refine lv_if_eq (pc := 133) (tgt := 142) hx hb (zdt_at zt_X10_multiply_1 14 rfl) (by decide) (fun cn_ => ?t_21) (fun cn_ => ?f_22)
          case t_21 =>
            replace hf := zt_s cn_ hf
            clear cn_
            refine lv_lconst (pc := 142) (v := (0 : Int64)) hx hb (zdt_at zt_X10_multiply_1 17 rfl) (by decide) ?_
            refine lv_lxor (pc := 143) hx hb (zdt_at zt_X10_multiply_1 18 rfl) ?_
            refine lv_topl (fun x_23 e_ => ?_)
            replace hf := zn_s hf e_
            clear e_
            refine lv_lstore (pc := 144) (lv' := [(5, .long x_23), (7, .long x_20), (12, .int v_18), (0, .ref h0), (1, .long p1), (3, .long p2), (9, .int i_3)]) hx hb (zdt_at zt_X10_multiply_1 19 rfl) hl (by decide) rfl ?_
            clear hl
            intro ls hl
            refine lv_iinc (pc := 146) (v := (i_3 + (1 : Int32))) (lv' := [(9, .int (i_3 + (1 : Int32))), (5, .long x_23), (7, .long x_20), (12, .int v_18), (0, .ref h0), (1, .long p1), (3, .long p2)]) hx hb (zdt_at zt_X10_multiply_1 20 rfl) hl (k := 6) rfl rfl (by decide) rfl ?_
            clear hl
            intro ls hl
            refine lv_goto (pc := 149) (tgt := 25) hx hb (zdt_at zt_X10_multiply_1 21 rfl) (by decide) ?_
            exact hTo _ _ _ (ihself_9 _ hf H locs ls hP hD hS (lv_sub hl [4, 5, 6, 1, 2, 0] rfl))
          replace hf := ze_s cn_ hf
          clear cn_
          refine lv_ldc2 (pc := 136) hx hb hown hw4 (zdt_at zt_X10_multiply_1 15 rfl) ?_
          refine lv_goto (pc := 139) (tgt := 143) hx hb (zdt_at zt_X10_multiply_1 16 rfl) (by decide) ?_
          refine lv_lxor (pc := 143) hx hb (zdt_at zt_X10_multiply_1 18 rfl) ?_
          refine lv_topl (fun x_24 e_ => ?_)
          replace hf := zn_s hf e_
          clear e_
          refine lv_lstore (pc := 144) (lv' := [(5, .long x_24), (7, .long x_20), (12, .int v_18), (0, .ref h0), (1, .long p1), (3, .long p2), (9, .int i_3)]) hx hb (zdt_at zt_X10_multiply_1 19 rfl) hl (by decide) rfl ?_
          clear hl
          intro ls hl
          refine lv_iinc (pc := 146) (v := (i_3 + (1 : Int32))) (lv' := [(9, .int (i_3 + (1 : Int32))), (5, .long x_24), (7, .long x_20), (12, .int v_18), (0, .ref h0), (1, .long p1), (3, .long p2)]) hx hb (zdt_at zt_X10_multiply_1 20 rfl) hl (k := 6) rfl rfl (by decide) rfl ?_
          clear hl
          intro ls hl
          refine lv_goto (pc := 149) (tgt := 25) hx hb (zdt_at zt_X10_multiply_1 21 rfl) (by decide) ?_
          exact hTo _ _ _ (ihself_9 _ hf H locs ls hP hD hS (lv_sub hl [4, 5, 6, 1, 2, 0] rfl))
        clear eK_19
        refine lv_if_ne (pc := 105) (tgt := 112) hx hb (zdt_at zt_X10_multiply_0 61 rfl) (by decide) (fun cn_ => ?t_25) (fun cn_ => ?f_26)
        case t_25 =>
          replace hf := ze_s cn_ hf
          clear cn_
          refine lv_iconst (pc := 112) (v := (0 : Int32)) hx hb (zdt_at zt_X10_multiply_1 0 rfl) (by decide) ?_
          exact hTo _ _ _ (kK_19 _ H locs ls hP hD hS (lv_sub hl [0, 1, 2, 3, 4, 5] rfl) hf)
        replace hf := zt_s cn_ hf
        clear cn_
        refine lv_iconst (pc := 108) (v := (1 : Int32)) hx hb (zdt_at zt_X10_multiply_0 62 rfl) (by decide) ?_
        refine lv_goto (pc := 109) (tgt := 113) hx hb (zdt_at zt_X10_multiply_0 63 rfl) (by decide) ?_
        exact hTo _ _ _ (kK_19 _ H locs ls hP hD hS (lv_sub hl [0, 1, 2, 3, 4, 5] rfl) hf)
      clear eK_17
      refine lv_if_ne (pc := 85) (tgt := 99) hx hb (zdt_at zt_X10_multiply_0 49 rfl) (by decide) (fun cn_ => ?t_27) (fun cn_ => ?f_28)
      case t_27 =>
        replace hf := ze_s cn_ hf
        clear cn_
        exact hTo _ _ _ (kK_17 _ H locs ls hP hD hS (lv_sub hl [0, 1, 2, 3, 4, 5] rfl) hf)
      replace hf := zt_s cn_ hf
      clear cn_
      refine lv_aload_n (pc := 88) hx hb (zdt_at zt_X10_multiply_0 50 rfl) rfl (lv_at hl 0 rfl) ?_
      refine lv_aload_n (pc := 89) hx hb (zdt_at zt_X10_multiply_0 51 rfl) rfl (lv_at hl 0 rfl) ?_
      refine va_get (pc := 90) (D := D) (ci := 12) (v := .long c_low_5) (C := RX10) (T := TX10) (N := 52) hx hb hts hcX10 hown hK hP 0 rfl rfl 49 (by decide) hw1 (fun _ h9 => h9) rfl (zdt_at zt_X10_multiply_0 52 rfl) ?_
      refine lv_lload (pc := 93) hx hb (zdt_at zt_X10_multiply_0 53 rfl) (lv_at hl 4 rfl) ?_
      refine lv_lxor (pc := 95) hx hb (zdt_at zt_X10_multiply_0 54 rfl) ?_
      refine lv_topl (fun x_29 e_ => ?_)
      replace hf := zn_s hf e_
      clear e_
      refine va_put (pc := 96) (D := D) (ci := 12) (v := .long x_29) (ty := .long) (C := RX10) (T := TX10) (N := 52) hx hb hts hcX10 tyX10 tyX10_ok nmX10 hown hK hP hD hS 0 rfl rfl 49 (by decide) hw1 (fun _ h9 => h9) rfl (by decide +kernel) rfl rfl (Nat.le_of_ble_eq_true rfl) (zdt_at zt_X10_multiply_0 55 rfl) ?_
      clear hP hD hS
      intro H locs hP hD hS
      replace hP : va_P D vwCl ([(h0, .inr (12, zmo hm c_thrown c_state c_test c_words c_ill c_before c_inRow c_first c_inWindow c_same c_made c_requests c_total c_secrets c_rounds c_high_14 x_29 c_keyHigh c_keyLow))]) H := hP
      replace hD : va_D A ([(h0, .inr (12, zmo hm c_thrown c_state c_test c_words c_ill c_before c_inRow c_first c_inWindow c_same c_made c_requests c_total c_secrets c_rounds c_high_14 x_29 c_keyHigh c_keyLow))]) := hD
      exact hTo _ _ _ (kK_17 _ H locs ls hP hD hS (lv_sub hl [0, 1, 2, 3, 4, 5] rfl) hf)
    clear eK_15
    refine lv_if_ne (pc := 67) (tgt := 81) hx hb (zdt_at zt_X10_multiply_0 39 rfl) (by decide) (fun cn_ => ?t_30) (fun cn_ => ?f_31)
    case t_30 =>
      replace hf := ze_s cn_ hf
      clear cn_
      exact hTo _ _ _ (kK_15 _ H locs ls hP hD hS (lv_sub hl [1, 2, 3, 4, 5, 6, 0] rfl) hf)
    replace hf := zt_s cn_ hf
    clear cn_
    refine lv_aload_n (pc := 70) hx hb (zdt_at zt_X10_multiply_0 40 rfl) rfl (lv_at hl 1 rfl) ?_
    refine lv_aload_n (pc := 71) hx hb (zdt_at zt_X10_multiply_0 41 rfl) rfl (lv_at hl 1 rfl) ?_
    refine va_get (pc := 72) (D := D) (ci := 12) (v := .long c_high_4) (C := RX10) (T := TX10) (N := 52) hx hb hts hcX10 hown hK hP 0 rfl rfl 48 (by decide) hw0 (fun _ h9 => h9) rfl (zdt_at zt_X10_multiply_0 42 rfl) ?_
    refine lv_lload (pc := 75) hx hb (zdt_at zt_X10_multiply_0 43 rfl) (lv_at hl 4 rfl) ?_
    refine lv_lxor (pc := 77) hx hb (zdt_at zt_X10_multiply_0 44 rfl) ?_
    refine lv_topl (fun x_32 e_ => ?_)
    replace hf := zn_s hf e_
    clear e_
    refine va_put (pc := 78) (D := D) (ci := 12) (v := .long x_32) (ty := .long) (C := RX10) (T := TX10) (N := 52) hx hb hts hcX10 tyX10 tyX10_ok nmX10 hown hK hP hD hS 0 rfl rfl 48 (by decide) hw0 (fun _ h9 => h9) rfl (by decide +kernel) rfl rfl (Nat.le_of_ble_eq_true rfl) (zdt_at zt_X10_multiply_0 45 rfl) ?_
    clear hP hD hS
    intro H locs hP hD hS
    replace hP : va_P D vwCl ([(h0, .inr (12, zmo hm c_thrown c_state c_test c_words c_ill c_before c_inRow c_first c_inWindow c_same c_made c_requests c_total c_secrets c_rounds x_32 c_low_5 c_keyHigh c_keyLow))]) H := hP
    replace hD : va_D A ([(h0, .inr (12, zmo hm c_thrown c_state c_test c_words c_ill c_before c_inRow c_first c_inWindow c_same c_made c_requests c_total c_secrets c_rounds x_32 c_low_5 c_keyHigh c_keyLow))]) := hD
    exact hTo _ _ _ (kK_15 _ H locs ls hP hD hS (lv_sub hl [1, 2, 3, 4, 5, 6, 0] rfl) hf)
  clear eK_13
  refine lv_icmp_ge (pc := 37) (tgt := 52) hx hb (zdt_at zt_X10_multiply_0 19 rfl) (by decide) (fun cn_ => ?t_33) (fun cn_ => ?f_34)
  case t_33 =>
    replace hf := zt_s cn_ hf
    clear cn_
    refine lv_lload_n (pc := 52) hx hb (zdt_at zt_X10_multiply_0 28 rfl) rfl (lv_at hl 2 rfl) ?_
    refine lv_bipush (pc := 53) (v := (127 : Int32)) hx hb (zdt_at zt_X10_multiply_0 29 rfl) (by decide) ?_
    refine lv_iload (pc := 55) hx hb (zdt_at zt_X10_multiply_0 30 rfl) (lv_at hl 5 rfl) ?_
    refine lv_isub (pc := 57) hx hb (zdt_at zt_X10_multiply_0 31 rfl) ?_
    refine lv_lushr (pc := 58) hx hb (zdt_at zt_X10_multiply_0 32 rfl) rfl ?_
    refine lv_lconst (pc := 59) (v := (1 : Int64)) hx hb (zdt_at zt_X10_multiply_0 33 rfl) (by decide) ?_
    refine lv_land (pc := 60) hx hb (zdt_at zt_X10_multiply_0 34 rfl) ?_
    exact hTo _ _ _ (kK_13 _ H locs ls hP hD hS (lv_sub hl [0, 1, 2, 3, 4, 5] rfl) hf)
  replace hf := ze_s cn_ hf
  clear cn_
  refine lv_lload_n (pc := 40) hx hb (zdt_at zt_X10_multiply_0 20 rfl) rfl (lv_at hl 1 rfl) ?_
  refine lv_bipush (pc := 41) (v := (63 : Int32)) hx hb (zdt_at zt_X10_multiply_0 21 rfl) (by decide) ?_
  refine lv_iload (pc := 43) hx hb (zdt_at zt_X10_multiply_0 22 rfl) (lv_at hl 5 rfl) ?_
  refine lv_isub (pc := 45) hx hb (zdt_at zt_X10_multiply_0 23 rfl) ?_
  refine lv_lushr (pc := 46) hx hb (zdt_at zt_X10_multiply_0 24 rfl) rfl ?_
  refine lv_lconst (pc := 47) (v := (1 : Int64)) hx hb (zdt_at zt_X10_multiply_0 25 rfl) (by decide) ?_
  refine lv_land (pc := 48) hx hb (zdt_at zt_X10_multiply_0 26 rfl) ?_
  refine lv_goto (pc := 49) (tgt := 61) hx hb (zdt_at zt_X10_multiply_0 27 rfl) (by decide) ?_
  exact hTo _ _ _ (kK_13 _ H locs ls hP hD hS (lv_sub hl [0, 1, 2, 3, 4, 5] rfl) hf)
set_option maxHeartbeats 4000000 in
set_option maxRecDepth 100000 in
theorem c_X10_absorb (l : Launch) (D : va_G) (cy : Nat → ClassId) (tt : Nat → Nat) (sz : Nat) (h0 : Nat) (hm : Nat → Nat) (p1 : Int32) (p2 : Int32) (c_high : Int64) (c_keyHigh : Int64) (c_keyLow : Int64) (c_low : Int64) (c_result : Nat → Int32) (c_thrown : Int32) (c_state : Int32) (c_test : Int32) (c_words : Int32) (c_ill : Int32) (c_before : Int32) (c_inRow : Int32) (c_first : Int32) (c_inWindow : Int32) (c_same : Int32) (c_made : Int32) (c_requests : Int32) (c_total : Int64) (c_secrets : Int32) (c_rounds : Int32) (c_high' : Int64) (c_low' : Int64) (hf : f_X10_absorb p1 p2 c_high c_keyHigh c_keyLow c_low c_result = some (c_high', c_low')) : Met l yX10_absorb wsX10_absorb ({ frames := 1, cells := 0, slots := 0, locals := 32 }) (zPc D cy tt sz [.ref h0, .int p1, .int p2] ([(h0, .inr (12, zmo hm c_thrown c_state c_test c_words c_ill c_before c_inRow c_first c_inWindow c_same c_made c_requests c_total c_secrets c_rounds c_high c_low c_keyHigh c_keyLow)), ((hm 45), .inl (cy 1, 600, .inl c_result))])) (zQ D none ([(h0, .inr (12, zmo hm c_thrown c_state c_test c_words c_ill c_before c_inRow c_first c_inWindow c_same c_made c_requests c_total c_secrets c_rounds c_high' c_low' c_keyHigh c_keyLow)), ((hm 45), .inl (cy 1, 600, .inl c_result))]) (va_A ([(h0, .inr (12, zmo hm c_thrown c_state c_test c_words c_ill c_before c_inRow c_first c_inWindow c_same c_made c_requests c_total c_secrets c_rounds c_high c_low c_keyHigh c_keyLow)), ((hm 45), .inl (cy 1, 600, .inl c_result))]) sz)) 0 0 (va_A ([(h0, .inr (12, zmo hm c_thrown c_state c_test c_words c_ill c_before c_inRow c_first c_inWindow c_same c_made c_requests c_total c_secrets c_rounds c_high c_low c_keyHigh c_keyLow)), ((hm 45), .inl (cy 1, 600, .inl c_result))]) sz) := by
  refine Met.ofW (cc := cX10_absorb) (maxL := 10) (ret := none) (by decide) rfl ?_
  intro p e s m args below meth c s₁ B hml hv
  obtain ⟨rfl, rfl, hP, hD0, hE⟩ := hv
  have hx := B.exec
  have hb := B.bytes
  have hr := B.returns
  have hts := atoms_spec (ws := wsX10_absorb) B.pre
  have hown : s.vm.findClass RX10 = some m.cls := findClass_of_methodNamed B.named
  have hlocks := B.notSynchronized
  clear B
  have hD := hD0.self (sz := s.heap.size)
  generalize hAe : va_A ([(h0, .inr (12, zmo hm c_thrown c_state c_test c_words c_ill c_before c_inRow c_first c_inWindow c_same c_made c_requests c_total c_secrets c_rounds c_high c_low c_keyHigh c_keyLow)), ((hm 45), .inl (cy 1, 600, .inl c_result))]) s.heap.size = A at hD hE ⊢
  have hA : ∀ q : Nat, s.heap.size ≤ q → A q := fun q h => by rw [← hAe]; exact Or.inr h
  clear hAe hD0
  have hS : va_S A s.heap s.heap [] := va_S.rf
  have hK := hE.1
  have hw0 := hts (.fieldLink RX10 378 "SealedModuleModel" "high" "J") (by decide +kernel)
  have hw1 := hts (.fieldLink RX10 381 "SealedModuleModel" "low" "J") (by decide +kernel)
  have hw2 := hts (.fieldLink RX10 168 "SealedModuleModel" "result" "[I") (by decide +kernel)
  have hcX10 : ∀ w ∈ u_ws RX10 TX10 52, w ∈ wsX10_absorb := (fun _ h => List.mem_cons_of_mem _ (List.mem_append_right _ h))
  have hl := lv_entry ([.ref h0, .int p1, .int p2]) (n := 10) (Nat.le_of_ble_eq_true rfl)
  rw [lg_entry_eq]
  generalize (lg_sl ([.ref h0, .int p1, .int p2]) ++ List.replicate (10 - (lg_sl ([.ref h0, .int p1, .int p2])).length) Slot.unset).toArray = ls at hl ⊢
  replace hl : lv_has ls 10 [(0, .ref h0), (1, .int p1), (2, .int p2)] := hl
  unfold f_X10_absorb at hf
  refine zgo (fun GW hTo hFr => ?_)
  refine hFr _ _ _ ?_
  obtain ⟨H, hHe⟩ : ∃ H, H = s.heap := ⟨_, rfl⟩
  obtain ⟨locs, hLe⟩ : ∃ L : List Loc, L = [] := ⟨_, rfl⟩
  rw [← hHe] at hP
  replace hS : va_S A s.heap H locs := by rw [hHe, hLe]; exact hS
  refine zat hHe.symm hLe.symm ?_
  clear hHe hLe
  refine lv_iconst (pc := 0) (v := (0 : Int32)) hx hb (zdt_at zt_X10_absorb_0 0 rfl) (by decide) ?_
  refine lv_istore_n (pc := 1) (lv' := [(3, .int (0 : Int32)), (0, .ref h0), (1, .int p1), (2, .int p2)]) hx hb (zdt_at zt_X10_absorb_0 1 rfl) rfl hl (by decide) rfl ?_
  clear hl
  intro ls hl
  replace hf := zj_s hf
  obtain ⟨K_6, eK_6, hf⟩ := hf
  have kK_6 : ∀ (c_high_4 : Int64) (c_low_5 : Int64) (H : Heap) (locs : List Loc) (ls : Array Slot), va_P D vwCl ([(h0, .inr (12, zmo hm c_thrown c_state c_test c_words c_ill c_before c_inRow c_first c_inWindow c_same c_made c_requests c_total c_secrets c_rounds c_high_4 c_low_5 c_keyHigh c_keyLow)), ((hm 45), .inl (cy 1, 600, .inl c_result))]) H → va_D A ([(h0, .inr (12, zmo hm c_thrown c_state c_test c_words c_ill c_before c_inRow c_first c_inWindow c_same c_made c_requests c_total c_secrets c_rounds c_high_4 c_low_5 c_keyHigh c_keyLow)), ((hm 45), .inl (cy 1, 600, .inl c_result))]) → va_S A s.heap H locs → lv_has ls 10 [] → K_6 c_high_4 c_low_5 = some (c_high', c_low') → GW H locs (F0 m 110 ls []) := by
    clear hf hl hP hD hS
    intro c_high_4 c_low_5 H locs ls hP hD hS hl hf
    rw [eK_6] at hf
    clear eK_6
    refine hFr _ _ _ ?_
    cases hf
    exact W.vret (pc := 110) hx hb hr (fun t ht hW => ⟨rfl, ⟨by rw [ht]; exact hP, hD⟩, hS.F ht⟩) hS.2.2 (zdt_at zt_X10_absorb_0 62 rfl)
  clear eK_6
  refine hTo _ _ _ (zl_go (fun z => match z with | (i_1, c_high_2, c_low_3) => ∀ (H : Heap) (locs : List Loc) (ls : Array Slot), va_P D vwCl ([(h0, .inr (12, zmo hm c_thrown c_state c_test c_words c_ill c_before c_inRow c_first c_inWindow c_same c_made c_requests c_total c_secrets c_rounds c_high_2 c_low_3 c_keyHigh c_keyLow)), ((hm 45), .inl (cy 1, 600, .inl c_result))]) H → va_D A ([(h0, .inr (12, zmo hm c_thrown c_state c_test c_words c_ill c_before c_inRow c_first c_inWindow c_same c_made c_requests c_total c_secrets c_rounds c_high_2 c_low_3 c_keyHigh c_keyLow)), ((hm 45), .inl (cy 1, 600, .inl c_result))]) → va_S A s.heap H locs → lv_has ls 10 [(0, .ref h0), (1, .int p1), (2, .int p2), (3, .int i_1)] → GW H locs (F0 m 2 ls [])) hf ?_ H locs ls hP hD hS (lv_sub hl [1, 2, 3, 0] rfl))
  clear hf hl hP hD hS
  intro self_7 ihself_7 z hf
  obtain ⟨i_1, c_high_2, c_low_3⟩ := z
  intro H locs ls hP hD hS hl
  refine hFr _ _ _ ?_
  unfold b_X10_absorb_2 at hf
  refine lv_iload_n (pc := 2) hx hb (zdt_at zt_X10_absorb_0 2 rfl) rfl (lv_at hl 3 rfl) ?_
  refine lv_iload_n (pc := 3) hx hb (zdt_at zt_X10_absorb_0 3 rfl) rfl (lv_at hl 2 rfl) ?_
  refine lv_icmp_ge (pc := 4) (tgt := 110) hx hb (zdt_at zt_X10_absorb_0 4 rfl) (by decide) (fun cn_ => ?t_8) (fun cn_ => ?f_9)
  case t_8 =>
    replace hf := zt_s cn_ hf
    clear cn_
    exact hTo _ _ _ (kK_6 _ _ H locs ls hP hD hS (lv_sub hl [] rfl) hf)
  replace hf := ze_s cn_ hf
  clear cn_
  refine lv_lconst (pc := 7) (v := (0 : Int64)) hx hb (zdt_at zt_X10_absorb_0 5 rfl) (by decide) ?_
  refine lv_lstore (pc := 8) (lv' := [(4, .long (0 : Int64)), (0, .ref h0), (1, .int p1), (2, .int p2), (3, .int i_1)]) hx hb (zdt_at zt_X10_absorb_0 6 rfl) hl (by decide) rfl ?_
  clear hl
  intro ls hl
  refine lv_lconst (pc := 10) (v := (0 : Int64)) hx hb (zdt_at zt_X10_absorb_0 7 rfl) (by decide) ?_
  refine lv_lstore (pc := 11) (lv' := [(6, .long (0 : Int64)), (4, .long (0 : Int64)), (0, .ref h0), (1, .int p1), (2, .int p2), (3, .int i_1)]) hx hb (zdt_at zt_X10_absorb_0 8 rfl) hl (by decide) rfl ?_
  clear hl
  intro ls hl
  refine lv_iconst (pc := 13) (v := (0 : Int32)) hx hb (zdt_at zt_X10_absorb_0 9 rfl) (by decide) ?_
  refine lv_istore (pc := 14) (lv' := [(8, .int (0 : Int32)), (6, .long (0 : Int64)), (4, .long (0 : Int64)), (0, .ref h0), (1, .int p1), (2, .int p2), (3, .int i_1)]) hx hb (zdt_at zt_X10_absorb_0 10 rfl) hl (by decide) rfl ?_
  clear hl
  intro ls hl
  replace hf := zj_s hf
  obtain ⟨K_15, eK_15, hf⟩ := hf
  have kK_15 : ∀ (v_13 : Int64) (v_14 : Int64) (H : Heap) (locs : List Loc) (ls : Array Slot), va_P D vwCl ([(h0, .inr (12, zmo hm c_thrown c_state c_test c_words c_ill c_before c_inRow c_first c_inWindow c_same c_made c_requests c_total c_secrets c_rounds c_high_2 c_low_3 c_keyHigh c_keyLow)), ((hm 45), .inl (cy 1, 600, .inl c_result))]) H → va_D A ([(h0, .inr (12, zmo hm c_thrown c_state c_test c_words c_ill c_before c_inRow c_first c_inWindow c_same c_made c_requests c_total c_secrets c_rounds c_high_2 c_low_3 c_keyHigh c_keyLow)), ((hm 45), .inl (cy 1, 600, .inl c_result))]) → va_S A s.heap H locs → lv_has ls 10 [(0, .ref h0), (1, .int p1), (2, .int p2), (3, .int i_1), (4, .long v_13), (6, .long v_14)] → K_15 v_13 v_14 = some (c_high', c_low') → GW H locs (F0 m 86 ls []) := by
    clear hf hl hP hD hS
    intro v_13 v_14 H locs ls hP hD hS hl hf
    rw [eK_15] at hf
    clear eK_15
    refine hFr _ _ _ ?_
    refine lv_aload_n (pc := 86) hx hb (zdt_at zt_X10_absorb_0 50 rfl) rfl (lv_at hl 0 rfl) ?_
    refine lv_aload_n (pc := 87) hx hb (zdt_at zt_X10_absorb_0 51 rfl) rfl (lv_at hl 0 rfl) ?_
    refine va_get (pc := 88) (D := D) (ci := 12) (v := .long c_high_2) (C := RX10) (T := TX10) (N := 52) hx hb hts hcX10 hown hK hP 0 rfl rfl 48 (by decide) hw0 (fun _ h9 => h9) rfl (zdt_at zt_X10_absorb_0 52 rfl) ?_
    refine lv_lload (pc := 91) hx hb (zdt_at zt_X10_absorb_0 53 rfl) (lv_at hl 4 rfl) ?_
    refine lv_lxor (pc := 93) hx hb (zdt_at zt_X10_absorb_0 54 rfl) ?_
    refine lv_aload_n (pc := 94) hx hb (zdt_at zt_X10_absorb_0 55 rfl) rfl (lv_at hl 0 rfl) ?_
    refine va_get (pc := 95) (D := D) (ci := 12) (v := .long c_low_3) (C := RX10) (T := TX10) (N := 52) hx hb hts hcX10 hown hK hP 0 rfl rfl 49 (by decide) hw1 (fun _ h9 => h9) rfl (zdt_at zt_X10_absorb_0 56 rfl) ?_
    refine lv_lload (pc := 98) hx hb (zdt_at zt_X10_absorb_0 57 rfl) (lv_at hl 5 rfl) ?_
    refine lv_lxor (pc := 100) hx hb (zdt_at zt_X10_absorb_0 58 rfl) ?_
    replace hf := zb_s hf
    obtain ⟨⟨c_high_16, c_low_17⟩, hc_, hf⟩ := hf
    refine zcn2 (pc := 101) (rv := none) (va_runV (As := [.long (c_high_2 ^^^ v_13), .long (c_low_3 ^^^ v_14)]) (rest := []) ⟨hx, hb, hml, hown, hts⟩ (c_X10_multiply l D cy tt H.size h0 hm (c_high_2 ^^^ v_13) (c_low_3 ^^^ v_14) c_high_2 c_keyHigh c_keyLow c_low_3 c_thrown c_state c_test c_words c_ill c_before c_inRow c_first c_inWindow c_same c_made c_requests c_total c_secrets c_rounds c_high_16 c_low_17 hc_) (cwV 2 hts gX10_absorb_X10_multiply rfl rfl rfl (by decide +kernel) ⟨Nat.le_of_ble_eq_true rfl, Nat.le_of_ble_eq_true rfl⟩) ⟨zblind, va_recv hK hP (ci := 12) (q0 := 0) rfl rfl, zpre hE hS (hP.sub [0] rfl) (hD.sub [0] (by decide) rfl) (va_free hD hS hA [0] rfl)⟩ rfl rfl hl.1 rfl (lv_room (Nat.le_of_ble_eq_true rfl)) (zdt_at zt_X10_absorb_0 59 rfl) ⟨Nat.zero_le _, Nat.zero_le _⟩) hS hP hD (va_free hD hS hA [0] rfl) [0] rfl (by decide) rfl ?_
    clear hP hD hS hc_
    intro H locs hP hD hS
    replace hP : va_P D vwCl ([(h0, .inr (12, zmo hm c_thrown c_state c_test c_words c_ill c_before c_inRow c_first c_inWindow c_same c_made c_requests c_total c_secrets c_rounds c_high_16 c_low_17 c_keyHigh c_keyLow)), ((hm 45), .inl (cy 1, 600, .inl c_result))]) H := hP
    replace hD : va_D A ([(h0, .inr (12, zmo hm c_thrown c_state c_test c_words c_ill c_before c_inRow c_first c_inWindow c_same c_made c_requests c_total c_secrets c_rounds c_high_16 c_low_17 c_keyHigh c_keyLow)), ((hm 45), .inl (cy 1, 600, .inl c_result))]) := hD
    refine W.eq (g2 := F0 m 104 ls []) rfl ?_
    refine lv_iinc (pc := 104) (v := (i_1 + (16 : Int32))) (lv' := [(3, .int (i_1 + (16 : Int32))), (0, .ref h0), (1, .int p1), (2, .int p2), (4, .long v_13), (6, .long v_14)]) hx hb (zdt_at zt_X10_absorb_0 60 rfl) hl (k := 3) rfl rfl (by decide) rfl ?_
    clear hl
    intro ls hl
    refine lv_goto (pc := 107) (tgt := 2) hx hb (zdt_at zt_X10_absorb_0 61 rfl) (by decide) ?_
    exact hTo _ _ _ (ihself_7 _ hf H locs ls hP hD hS (lv_sub hl [1, 2, 3, 0] rfl))
  clear eK_15
  refine hTo _ _ _ (zl_go (fun z => match z with | (i_10, i_11, i_12) => ∀ (H : Heap) (locs : List Loc) (ls : Array Slot), va_P D vwCl ([(h0, .inr (12, zmo hm c_thrown c_state c_test c_words c_ill c_before c_inRow c_first c_inWindow c_same c_made c_requests c_total c_secrets c_rounds c_high_2 c_low_3 c_keyHigh c_keyLow)), ((hm 45), .inl (cy 1, 600, .inl c_result))]) H → va_D A ([(h0, .inr (12, zmo hm c_thrown c_state c_test c_words c_ill c_before c_inRow c_first c_inWindow c_same c_made c_requests c_total c_secrets c_rounds c_high_2 c_low_3 c_keyHigh c_keyLow)), ((hm 45), .inl (cy 1, 600, .inl c_result))]) → va_S A s.heap H locs → lv_has ls 10 [(0, .ref h0), (1, .int p1), (2, .int p2), (3, .int i_1), (4, .long i_10), (6, .long i_11), (8, .int i_12)] → GW H locs (F0 m 16 ls [])) hf ?_ H locs ls hP hD hS (lv_sub hl [3, 4, 5, 6, 2, 1, 0] rfl))
  clear hf hl hP hD hS
  intro self_18 ihself_18 z hf
  obtain ⟨i_10, i_11, i_12⟩ := z
  intro H locs ls hP hD hS hl
  refine hFr _ _ _ ?_
  unfold b_X10_absorb_16 at hf
  refine lv_iload (pc := 16) hx hb (zdt_at zt_X10_absorb_0 11 rfl) (lv_at hl 6 rfl) ?_
  refine lv_bipush (pc := 18) (v := (16 : Int32)) hx hb (zdt_at zt_X10_absorb_0 12 rfl) (by decide) ?_
  refine lv_icmp_ge (pc := 20) (tgt := 86) hx hb (zdt_at zt_X10_absorb_0 13 rfl) (by decide) (fun cn_ => ?t_19) (fun cn_ => ?f_20)
  case t_19 =>
    replace hf := zt_s cn_ hf
    clear cn_
    exact hTo _ _ _ (kK_15 _ _ H locs ls hP hD hS (lv_sub hl [0, 1, 2, 3, 4, 5] rfl) hf)
  replace hf := ze_s cn_ hf
  clear cn_
  refine lv_iload_n (pc := 23) hx hb (zdt_at zt_X10_absorb_0 14 rfl) rfl (lv_at hl 3 rfl) ?_
  refine lv_iload (pc := 24) hx hb (zdt_at zt_X10_absorb_0 15 rfl) (lv_at hl 6 rfl) ?_
  refine lv_iadd (pc := 26) hx hb (zdt_at zt_X10_absorb_0 16 rfl) ?_
  refine lv_iload_n (pc := 27) hx hb (zdt_at zt_X10_absorb_0 17 rfl) rfl (lv_at hl 2 rfl) ?_
  replace hf := zj_s hf
  obtain ⟨K_22, eK_22, hf⟩ := hf
  have kK_22 : ∀ (v_21 : Int32) (H : Heap) (locs : List Loc) (ls : Array Slot), va_P D vwCl ([(h0, .inr (12, zmo hm c_thrown c_state c_test c_words c_ill c_before c_inRow c_first c_inWindow c_same c_made c_requests c_total c_secrets c_rounds c_high_2 c_low_3 c_keyHigh c_keyLow)), ((hm 45), .inl (cy 1, 600, .inl c_result))]) H → va_D A ([(h0, .inr (12, zmo hm c_thrown c_state c_test c_words c_ill c_before c_inRow c_first c_inWindow c_same c_made c_requests c_total c_secrets c_rounds c_high_2 c_low_3 c_keyHigh c_keyLow)), ((hm 45), .inl (cy 1, 600, .inl c_result))]) → va_S A s.heap H locs → lv_has ls 10 [(0, .ref h0), (1, .int p1), (2, .int p2), (3, .int i_1), (4, .long i_10), (6, .long i_11), (8, .int i_12)] → K_22 v_21 = some (c_high', c_low') → GW H locs (F0 m 46 ls [.int v_21]) := by
    clear hf hl hP hD hS
    intro v_21 H locs ls hP hD hS hl hf
    rw [eK_22] at hf
    clear eK_22
    refine hFr _ _ _ ?_
    refine lv_istore (pc := 46) (lv' := [(9, .int v_21), (0, .ref h0), (1, .int p1), (2, .int p2), (3, .int i_1), (4, .long i_10), (6, .long i_11), (8, .int i_12)]) hx hb (zdt_at zt_X10_absorb_0 29 rfl) hl (by decide) rfl ?_
    clear hl
    intro ls hl
    refine lv_iload (pc := 48) hx hb (zdt_at zt_X10_absorb_0 30 rfl) (lv_at hl 7 rfl) ?_
    refine lv_bipush (pc := 50) (v := (8 : Int32)) hx hb (zdt_at zt_X10_absorb_0 31 rfl) (by decide) ?_
    refine lv_icmp_ge (pc := 52) (tgt := 69) hx hb (zdt_at zt_X10_absorb_0 32 rfl) (by decide) (fun cn_ => ?t_23) (fun cn_ => ?f_24)
    case t_23 =>
      replace hf := zt_s cn_ hf
      clear cn_
      refine lv_lload (pc := 69) hx hb (zdt_at zt_X10_absorb_0 41 rfl) (lv_at hl 6 rfl) ?_
      refine lv_bipush (pc := 71) (v := (8 : Int32)) hx hb (zdt_at zt_X10_absorb_0 42 rfl) (by decide) ?_
      refine lv_lshl (pc := 73) hx hb (zdt_at zt_X10_absorb_0 43 rfl) rfl ?_
      refine lv_iload (pc := 74) hx hb (zdt_at zt_X10_absorb_0 44 rfl) (lv_at hl 0 rfl) ?_
      refine lv_i2l (pc := 76) hx hb (zdt_at zt_X10_absorb_0 45 rfl) rfl ?_
      refine lv_lor (pc := 77) hx hb (zdt_at zt_X10_absorb_0 46 rfl) ?_
      refine lv_topl (fun x_25 e_ => ?_)
      replace hf := zn_s hf e_
      clear e_
      refine lv_lstore (pc := 78) (lv' := [(6, .long x_25), (9, .int v_21), (0, .ref h0), (1, .int p1), (2, .int p2), (3, .int i_1), (4, .long i_10), (8, .int i_12)]) hx hb (zdt_at zt_X10_absorb_0 47 rfl) hl (by decide) rfl ?_
      clear hl
      intro ls hl
      refine lv_iinc (pc := 80) (v := (i_12 + (1 : Int32))) (lv' := [(8, .int (i_12 + (1 : Int32))), (6, .long x_25), (9, .int v_21), (0, .ref h0), (1, .int p1), (2, .int p2), (3, .int i_1), (4, .long i_10)]) hx hb (zdt_at zt_X10_absorb_0 48 rfl) hl (k := 7) rfl rfl (by decide) rfl ?_
      clear hl
      intro ls hl
      refine lv_goto (pc := 83) (tgt := 16) hx hb (zdt_at zt_X10_absorb_0 49 rfl) (by decide) ?_
      exact hTo _ _ _ (ihself_18 _ hf H locs ls hP hD hS (lv_sub hl [3, 4, 5, 6, 7, 1, 0] rfl))
    replace hf := ze_s cn_ hf
    clear cn_
    refine lv_lload (pc := 55) hx hb (zdt_at zt_X10_absorb_0 33 rfl) (lv_at hl 5 rfl) ?_
    refine lv_bipush (pc := 57) (v := (8 : Int32)) hx hb (zdt_at zt_X10_absorb_0 34 rfl) (by decide) ?_
    refine lv_lshl (pc := 59) hx hb (zdt_at zt_X10_absorb_0 35 rfl) rfl ?_
    refine lv_iload (pc := 60) hx hb (zdt_at zt_X10_absorb_0 36 rfl) (lv_at hl 0 rfl) ?_
    refine lv_i2l (pc := 62) hx hb (zdt_at zt_X10_absorb_0 37 rfl) rfl ?_
    refine lv_lor (pc := 63) hx hb (zdt_at zt_X10_absorb_0 38 rfl) ?_
    refine lv_topl (fun x_26 e_ => ?_)
    replace hf := zn_s hf e_
    clear e_
    refine lv_lstore (pc := 64) (lv' := [(4, .long x_26), (9, .int v_21), (0, .ref h0), (1, .int p1), (2, .int p2), (3, .int i_1), (6, .long i_11), (8, .int i_12)]) hx hb (zdt_at zt_X10_absorb_0 39 rfl) hl (by decide) rfl ?_
    clear hl
    intro ls hl
    refine lv_goto (pc := 66) (tgt := 80) hx hb (zdt_at zt_X10_absorb_0 40 rfl) (by decide) ?_
    refine lv_iinc (pc := 80) (v := (i_12 + (1 : Int32))) (lv' := [(8, .int (i_12 + (1 : Int32))), (4, .long x_26), (9, .int v_21), (0, .ref h0), (1, .int p1), (2, .int p2), (3, .int i_1), (6, .long i_11)]) hx hb (zdt_at zt_X10_absorb_0 48 rfl) hl (k := 7) rfl rfl (by decide) rfl ?_
    clear hl
    intro ls hl
    refine lv_goto (pc := 83) (tgt := 16) hx hb (zdt_at zt_X10_absorb_0 49 rfl) (by decide) ?_
    exact hTo _ _ _ (ihself_18 _ hf H locs ls hP hD hS (lv_sub hl [3, 4, 5, 6, 1, 7, 0] rfl))
  clear eK_22
  refine lv_icmp_ge (pc := 28) (tgt := 45) hx hb (zdt_at zt_X10_absorb_0 18 rfl) (by decide) (fun cn_ => ?t_27) (fun cn_ => ?f_28)
  case t_27 =>
    replace hf := zt_s cn_ hf
    clear cn_
    refine lv_iconst (pc := 45) (v := (0 : Int32)) hx hb (zdt_at zt_X10_absorb_0 28 rfl) (by decide) ?_
    exact hTo _ _ _ (kK_22 _ H locs ls hP hD hS (lv_sub hl [0, 1, 2, 3, 4, 5, 6] rfl) hf)
  replace hf := ze_s cn_ hf
  clear cn_
  refine lv_aload_n (pc := 31) hx hb (zdt_at zt_X10_absorb_0 19 rfl) rfl (lv_at hl 0 rfl) ?_
  refine va_get (pc := 32) (D := D) (ci := 12) (v := .ref (hm 45)) (C := RX10) (T := TX10) (N := 52) hx hb hts hcX10 hown hK hP 0 rfl rfl 45 (by decide) hw2 (fun _ h9 => h9) rfl (zdt_at zt_X10_absorb_0 20 rfl) ?_
  refine lv_iload_n (pc := 35) hx hb (zdt_at zt_X10_absorb_0 21 rfl) rfl (lv_at hl 1 rfl) ?_
  refine lv_iload_n (pc := 36) hx hb (zdt_at zt_X10_absorb_0 22 rfl) rfl (lv_at hl 3 rfl) ?_
  refine lv_iadd (pc := 37) hx hb (zdt_at zt_X10_absorb_0 23 rfl) ?_
  refine lv_iload (pc := 38) hx hb (zdt_at zt_X10_absorb_0 24 rfl) (lv_at hl 6 rfl) ?_
  refine lv_iadd (pc := 40) hx hb (zdt_at zt_X10_absorb_0 25 rfl) ?_
  replace hf := zk_s hf
  refine va_iald (pc := 41) hx hb hK hP 1 1 rfl rfl hf.1 (zdt_at zt_X10_absorb_0 26 rfl) ?_
  replace hf := hf.2
  refine lv_goto (pc := 42) (tgt := 46) hx hb (zdt_at zt_X10_absorb_0 27 rfl) (by decide) ?_
  exact hTo _ _ _ (kK_22 _ H locs ls hP hD hS (lv_sub hl [0, 1, 2, 3, 4, 5, 6] rfl) hf)
set_option maxHeartbeats 4000000 in
set_option maxRecDepth 100000 in
theorem c_X10_galois (l : Launch) (D : va_G) (cy : Nat → ClassId) (tt : Nat → Nat) (sz : Nat) (h0 : Nat) (hm : Nat → Nat) (p1 : Int32) (p2 : Int32) (p3 : Int32) (p4 : Int32) (c_high : Int64) (c_keyHigh : Int64) (c_keyLow : Int64) (c_low : Int64) (c_rounds : Int32) (c_block : Nat → Int32) (c_body : Nat → Int32) (c_box : Nat → Int32) (c_buffer : Nat → Int32) (c_other : Nat → Int32) (c_result : Nat → Int32) (c_round : Nat → Int32) (c_thrown : Int32) (c_state : Int32) (c_test : Int32) (c_words : Int32) (c_ill : Int32) (c_before : Int32) (c_inRow : Int32) (c_first : Int32) (c_inWindow : Int32) (c_same : Int32) (c_made : Int32) (c_requests : Int32) (c_total : Int64) (c_secrets : Int32) (r_ : Int32) (c_high' : Int64) (c_keyHigh' : Int64) (c_keyLow' : Int64) (c_low' : Int64) (c_block' : Nat → Int32) (c_body' : Nat → Int32) (c_buffer' : Nat → Int32) (c_other' : Nat → Int32) (c_result' : Nat → Int32) (hf : f_X10_galois p1 p2 p3 p4 c_high c_keyHigh c_keyLow c_low c_rounds c_block c_body c_box c_buffer c_other c_result c_round = some (r_, c_high', c_keyHigh', c_keyLow', c_low', c_block', c_body', c_buffer', c_other', c_result')) : Met l yX10_galois wsX10_galois ({ frames := 4, cells := 0, slots := 0, locals := 94 }) (zPc D cy tt sz [.ref h0, .int p1, .int p2, .int p3, .int p4] ([(h0, .inr (12, zmo hm c_thrown c_state c_test c_words c_ill c_before c_inRow c_first c_inWindow c_same c_made c_requests c_total c_secrets c_rounds c_high c_low c_keyHigh c_keyLow)), ((hm 43), .inl (cy 1, 16, .inl c_block)), ((hm 46), .inl (cy 1, 512, .inl c_body)), ((hm 39), .inl (cy 1, 256, .inl c_box)), ((hm 6), .inl (cy 1, 512, .inl c_buffer)), ((hm 44), .inl (cy 1, 16, .inl c_other)), ((hm 45), .inl (cy 1, 600, .inl c_result)), ((hm 41), .inl (cy 1, 240, .inl c_round))])) (zQ D (some (.int r_)) ([(h0, .inr (12, zmo hm c_thrown c_state c_test c_words c_ill c_before c_inRow c_first c_inWindow c_same c_made c_requests c_total c_secrets c_rounds c_high' c_low' c_keyHigh' c_keyLow')), ((hm 43), .inl (cy 1, 16, .inl c_block')), ((hm 46), .inl (cy 1, 512, .inl c_body')), ((hm 39), .inl (cy 1, 256, .inl c_box)), ((hm 6), .inl (cy 1, 512, .inl c_buffer')), ((hm 44), .inl (cy 1, 16, .inl c_other')), ((hm 45), .inl (cy 1, 600, .inl c_result')), ((hm 41), .inl (cy 1, 240, .inl c_round))]) (va_A ([(h0, .inr (12, zmo hm c_thrown c_state c_test c_words c_ill c_before c_inRow c_first c_inWindow c_same c_made c_requests c_total c_secrets c_rounds c_high c_low c_keyHigh c_keyLow)), ((hm 43), .inl (cy 1, 16, .inl c_block)), ((hm 46), .inl (cy 1, 512, .inl c_body)), ((hm 39), .inl (cy 1, 256, .inl c_box)), ((hm 6), .inl (cy 1, 512, .inl c_buffer)), ((hm 44), .inl (cy 1, 16, .inl c_other)), ((hm 45), .inl (cy 1, 600, .inl c_result)), ((hm 41), .inl (cy 1, 240, .inl c_round))]) sz)) 0 0 (va_A ([(h0, .inr (12, zmo hm c_thrown c_state c_test c_words c_ill c_before c_inRow c_first c_inWindow c_same c_made c_requests c_total c_secrets c_rounds c_high c_low c_keyHigh c_keyLow)), ((hm 43), .inl (cy 1, 16, .inl c_block)), ((hm 46), .inl (cy 1, 512, .inl c_body)), ((hm 39), .inl (cy 1, 256, .inl c_box)), ((hm 6), .inl (cy 1, 512, .inl c_buffer)), ((hm 44), .inl (cy 1, 16, .inl c_other)), ((hm 45), .inl (cy 1, 600, .inl c_result)), ((hm 41), .inl (cy 1, 240, .inl c_round))]) sz) := by
  refine Met.ofW (cc := cX10_galois) (maxL := 16) (ret := (some .int)) (by decide) rfl ?_
  intro p e s m args below meth c s₁ B hml hv
  obtain ⟨rfl, rfl, hP, hD0, hE⟩ := hv
  have hx := B.exec
  have hb := B.bytes
  have hr := B.returns
  have hts := atoms_spec (ws := wsX10_galois) B.pre
  have hown : s.vm.findClass RX10 = some m.cls := findClass_of_methodNamed B.named
  have hlocks := B.notSynchronized
  clear B
  have hD := hD0.self (sz := s.heap.size)
  generalize hAe : va_A ([(h0, .inr (12, zmo hm c_thrown c_state c_test c_words c_ill c_before c_inRow c_first c_inWindow c_same c_made c_requests c_total c_secrets c_rounds c_high c_low c_keyHigh c_keyLow)), ((hm 43), .inl (cy 1, 16, .inl c_block)), ((hm 46), .inl (cy 1, 512, .inl c_body)), ((hm 39), .inl (cy 1, 256, .inl c_box)), ((hm 6), .inl (cy 1, 512, .inl c_buffer)), ((hm 44), .inl (cy 1, 16, .inl c_other)), ((hm 45), .inl (cy 1, 600, .inl c_result)), ((hm 41), .inl (cy 1, 240, .inl c_round))]) s.heap.size = A at hD hE ⊢
  have hA : ∀ q : Nat, s.heap.size ≤ q → A q := fun q h => by rw [← hAe]; exact Or.inr h
  clear hAe hD0
  have hS : va_S A s.heap s.heap [] := va_S.rf
  have hK := hE.1
  have hw0 := hts (.fieldLink RX10 388 "SealedModuleModel" "keyHigh" "J") (by decide +kernel)
  have hw1 := hts (.fieldLink RX10 391 "SealedModuleModel" "keyLow" "J") (by decide +kernel)
  have hw2 := hts (.fieldLink RX10 378 "SealedModuleModel" "high" "J") (by decide +kernel)
  have hw3 := hts (.fieldLink RX10 381 "SealedModuleModel" "low" "J") (by decide +kernel)
  have hw4 := hts (.constantLong RX10 226 (8)) (by decide +kernel)
  have hw5 := hts (.fieldLink RX10 84 "SealedModuleModel" "buffer" "[I") (by decide +kernel)
  have hw6 := hts (.constantLong RX10 292 (255)) (by decide +kernel)
  have hw7 := hts (.fieldLink RX10 162 "SealedModuleModel" "block" "[I") (by decide +kernel)
  have hw8 := hts (.fieldLink RX10 168 "SealedModuleModel" "result" "[I") (by decide +kernel)
  have hw9 := hts (.fieldLink RX10 171 "SealedModuleModel" "body" "[I") (by decide +kernel)
  have hcX10 : ∀ w ∈ u_ws RX10 TX10 52, w ∈ wsX10_galois := (fun _ h => List.mem_cons_of_mem _ (List.mem_append_right _ h))
  have hl := lv_entry ([.ref h0, .int p1, .int p2, .int p3, .int p4]) (n := 16) (Nat.le_of_ble_eq_true rfl)
  rw [lg_entry_eq]
  generalize (lg_sl ([.ref h0, .int p1, .int p2, .int p3, .int p4]) ++ List.replicate (16 - (lg_sl ([.ref h0, .int p1, .int p2, .int p3, .int p4])).length) Slot.unset).toArray = ls at hl ⊢
  replace hl : lv_has ls 16 [(0, .ref h0), (1, .int p1), (2, .int p2), (3, .int p3), (4, .int p4)] := hl
  unfold f_X10_galois at hf
  refine zgo (fun GW hTo hFr => ?_)
  refine hFr _ _ _ ?_
  obtain ⟨H, hHe⟩ : ∃ H, H = s.heap := ⟨_, rfl⟩
  obtain ⟨locs, hLe⟩ : ∃ L : List Loc, L = [] := ⟨_, rfl⟩
  rw [← hHe] at hP
  replace hS : va_S A s.heap H locs := by rw [hHe, hLe]; exact hS
  refine zat hHe.symm hLe.symm ?_
  clear hHe hLe
  refine lv_iload_n (pc := 0) hx hb (zdt_at zt_X10_galois_0 0 rfl) rfl (lv_at hl 1 rfl) ?_
  replace hf := zj_s hf
  obtain ⟨K_2, eK_2, hf⟩ := hf
  have kK_2 : ∀ (v_1 : Int32) (H : Heap) (locs : List Loc) (ls : Array Slot), va_P D vwCl ([(h0, .inr (12, zmo hm c_thrown c_state c_test c_words c_ill c_before c_inRow c_first c_inWindow c_same c_made c_requests c_total c_secrets c_rounds c_high c_low c_keyHigh c_keyLow)), ((hm 43), .inl (cy 1, 16, .inl c_block)), ((hm 46), .inl (cy 1, 512, .inl c_body)), ((hm 39), .inl (cy 1, 256, .inl c_box)), ((hm 6), .inl (cy 1, 512, .inl c_buffer)), ((hm 44), .inl (cy 1, 16, .inl c_other)), ((hm 45), .inl (cy 1, 600, .inl c_result)), ((hm 41), .inl (cy 1, 240, .inl c_round))]) H → va_D A ([(h0, .inr (12, zmo hm c_thrown c_state c_test c_words c_ill c_before c_inRow c_first c_inWindow c_same c_made c_requests c_total c_secrets c_rounds c_high c_low c_keyHigh c_keyLow)), ((hm 43), .inl (cy 1, 16, .inl c_block)), ((hm 46), .inl (cy 1, 512, .inl c_body)), ((hm 39), .inl (cy 1, 256, .inl c_box)), ((hm 6), .inl (cy 1, 512, .inl c_buffer)), ((hm 44), .inl (cy 1, 16, .inl c_other)), ((hm 45), .inl (cy 1, 600, .inl c_result)), ((hm 41), .inl (cy 1, 240, .inl c_round))]) → va_S A s.heap H locs → lv_has ls 16 [(0, .ref h0), (1, .int p1), (2, .int p2), (3, .int p3), (4, .int p4)] → K_2 v_1 = some (r_, c_high', c_keyHigh', c_keyLow', c_low', c_block', c_body', c_buffer', c_other', c_result') → GW H locs (F0 m 21 ls [.int v_1]) := by
    clear hf hl hP hD hS
    intro v_1 H locs ls hP hD hS hl hf
    rw [eK_2] at hf
    clear eK_2
    refine hFr _ _ _ ?_
    refine lv_istore (pc := 21) (lv' := [(5, .int v_1), (0, .ref h0), (1, .int p1), (2, .int p2), (3, .int p3), (4, .int p4)]) hx hb (zdt_at zt_X10_galois_0 13 rfl) hl (by decide) rfl ?_
    clear hl
    intro ls hl
    refine lv_iload_n (pc := 23) hx hb (zdt_at zt_X10_galois_0 14 rfl) rfl (lv_at hl 3 rfl) ?_
    refine lv_bipush (pc := 24) (v := (12 : Int32)) hx hb (zdt_at zt_X10_galois_0 15 rfl) (by decide) ?_
    refine lv_iadd (pc := 26) hx hb (zdt_at zt_X10_galois_0 16 rfl) ?_
    refine lv_iload (pc := 27) hx hb (zdt_at zt_X10_galois_0 17 rfl) (lv_at hl 5 rfl) ?_
    refine lv_iadd (pc := 29) hx hb (zdt_at zt_X10_galois_0 18 rfl) ?_
    refine lv_topi (fun x_3 e_ => ?_)
    replace hf := zn_s hf e_
    clear e_
    refine lv_istore (pc := 30) (lv' := [(6, .int x_3), (5, .int v_1), (0, .ref h0), (1, .int p1), (2, .int p2), (3, .int p3), (4, .int p4)]) hx hb (zdt_at zt_X10_galois_0 19 rfl) hl (by decide) rfl ?_
    clear hl
    intro ls hl
    refine lv_iconst (pc := 32) (v := (0 : Int32)) hx hb (zdt_at zt_X10_galois_0 20 rfl) (by decide) ?_
    refine lv_istore (pc := 33) (lv' := [(7, .int (0 : Int32)), (6, .int x_3), (5, .int v_1), (0, .ref h0), (1, .int p1), (2, .int p2), (3, .int p3), (4, .int p4)]) hx hb (zdt_at zt_X10_galois_0 21 rfl) hl (by decide) rfl ?_
    clear hl
    intro ls hl
    replace hf := zj_s hf
    obtain ⟨K_7, eK_7, hf⟩ := hf
    have kK_7 : ∀ (c_block_6 : Nat → Int32) (H : Heap) (locs : List Loc) (ls : Array Slot), va_P D vwCl ([(h0, .inr (12, zmo hm c_thrown c_state c_test c_words c_ill c_before c_inRow c_first c_inWindow c_same c_made c_requests c_total c_secrets c_rounds c_high c_low c_keyHigh c_keyLow)), ((hm 43), .inl (cy 1, 16, .inl c_block_6)), ((hm 46), .inl (cy 1, 512, .inl c_body)), ((hm 39), .inl (cy 1, 256, .inl c_box)), ((hm 6), .inl (cy 1, 512, .inl c_buffer)), ((hm 44), .inl (cy 1, 16, .inl c_other)), ((hm 45), .inl (cy 1, 600, .inl c_result)), ((hm 41), .inl (cy 1, 240, .inl c_round))]) H → va_D A ([(h0, .inr (12, zmo hm c_thrown c_state c_test c_words c_ill c_before c_inRow c_first c_inWindow c_same c_made c_requests c_total c_secrets c_rounds c_high c_low c_keyHigh c_keyLow)), ((hm 43), .inl (cy 1, 16, .inl c_block_6)), ((hm 46), .inl (cy 1, 512, .inl c_body)), ((hm 39), .inl (cy 1, 256, .inl c_box)), ((hm 6), .inl (cy 1, 512, .inl c_buffer)), ((hm 44), .inl (cy 1, 16, .inl c_other)), ((hm 45), .inl (cy 1, 600, .inl c_result)), ((hm 41), .inl (cy 1, 240, .inl c_round))]) → va_S A s.heap H locs → lv_has ls 16 [(0, .ref h0), (1, .int p1), (2, .int p2), (3, .int p3), (4, .int p4), (5, .int v_1), (6, .int x_3)] → K_7 c_block_6 = some (r_, c_high', c_keyHigh', c_keyLow', c_low', c_block', c_body', c_buffer', c_other', c_result') → GW H locs (F0 m 56 ls []) := by
      clear hf hl hP hD hS
      intro c_block_6 H locs ls hP hD hS hl hf
      rw [eK_7] at hf
      clear eK_7
      refine hFr _ _ _ ?_
      refine lv_aload_n (pc := 56) hx hb (zdt_at zt_X10_galois_0 32 rfl) rfl (lv_at hl 0 rfl) ?_
      replace hf := zb_s hf
      obtain ⟨⟨c_block_8, c_other_9⟩, hc_, hf⟩ := hf
      refine zcn2 (pc := 57) (rv := none) (va_runV (As := []) (rest := []) ⟨hx, hb, hml, hown, hts⟩ (c_X10_seal l D cy tt H.size h0 hm c_rounds c_block_6 c_box c_other c_round c_thrown c_state c_test c_words c_ill c_before c_inRow c_first c_inWindow c_same c_made c_requests c_total c_secrets c_high c_low c_keyHigh c_keyLow c_block_8 c_other_9 hc_) (cwV 0 hts gX10_galois_X10_seal rfl rfl rfl (by decide +kernel) ⟨Nat.le_of_ble_eq_true rfl, Nat.le_of_ble_eq_true rfl⟩) ⟨zblind, va_recv hK hP (ci := 12) (q0 := 0) rfl rfl, zpre hE hS (hP.sub [0, 1, 3, 5, 7] rfl) (hD.sub [0, 1, 3, 5, 7] (by decide) rfl) (va_free hD hS hA [0, 1, 3, 5, 7] rfl)⟩ rfl rfl hl.1 rfl (lv_room (Nat.le_of_ble_eq_true rfl)) (zdt_at zt_X10_galois_0 33 rfl) ⟨Nat.zero_le _, Nat.zero_le _⟩) hS hP hD (va_free hD hS hA [0, 1, 3, 5, 7] rfl) [0, 1, 3, 5, 7] rfl (by decide) rfl ?_
      clear hP hD hS hc_
      intro H locs hP hD hS
      replace hP : va_P D vwCl ([(h0, .inr (12, zmo hm c_thrown c_state c_test c_words c_ill c_before c_inRow c_first c_inWindow c_same c_made c_requests c_total c_secrets c_rounds c_high c_low c_keyHigh c_keyLow)), ((hm 43), .inl (cy 1, 16, .inl c_block_8)), ((hm 46), .inl (cy 1, 512, .inl c_body)), ((hm 39), .inl (cy 1, 256, .inl c_box)), ((hm 6), .inl (cy 1, 512, .inl c_buffer)), ((hm 44), .inl (cy 1, 16, .inl c_other_9)), ((hm 45), .inl (cy 1, 600, .inl c_result)), ((hm 41), .inl (cy 1, 240, .inl c_round))]) H := hP
      replace hD : va_D A ([(h0, .inr (12, zmo hm c_thrown c_state c_test c_words c_ill c_before c_inRow c_first c_inWindow c_same c_made c_requests c_total c_secrets c_rounds c_high c_low c_keyHigh c_keyLow)), ((hm 43), .inl (cy 1, 16, .inl c_block_8)), ((hm 46), .inl (cy 1, 512, .inl c_body)), ((hm 39), .inl (cy 1, 256, .inl c_box)), ((hm 6), .inl (cy 1, 512, .inl c_buffer)), ((hm 44), .inl (cy 1, 16, .inl c_other_9)), ((hm 45), .inl (cy 1, 600, .inl c_result)), ((hm 41), .inl (cy 1, 240, .inl c_round))]) := hD
      refine W.eq (g2 := F0 m 60 ls []) rfl ?_
      refine lv_aload_n (pc := 60) hx hb (zdt_at zt_X10_galois_0 34 rfl) rfl (lv_at hl 0 rfl) ?_
      refine lv_aload_n (pc := 61) hx hb (zdt_at zt_X10_galois_0 35 rfl) rfl (lv_at hl 0 rfl) ?_
      refine lv_iconst (pc := 62) (v := (0 : Int32)) hx hb (zdt_at zt_X10_galois_0 36 rfl) (by decide) ?_
      replace hf := zb_s hf
      obtain ⟨r_10, hc_, hf⟩ := hf
      refine zcs (pc := 63) (rv := (some (.long r_10))) (va_runV (As := [.int (0 : Int32)]) (rest := [.ref h0]) ⟨hx, hb, hml, hown, hts⟩ (c_X10_half l D cy tt H.size h0 hm (0 : Int32) c_block_8 c_thrown c_state c_test c_words c_ill c_before c_inRow c_first c_inWindow c_same c_made c_requests c_total c_secrets c_rounds c_high c_low c_keyHigh c_keyLow r_10 hc_) (cwV 1 hts gX10_galois_X10_half rfl rfl rfl (by decide +kernel) ⟨Nat.le_of_ble_eq_true rfl, Nat.le_of_ble_eq_true rfl⟩) ⟨zblind, va_recv hK hP (ci := 12) (q0 := 0) rfl rfl, zpre hE hS (hP.sub [0, 1] rfl) (hD.sub [0, 1] (by decide) rfl) (va_free hD hS hA [0, 1] rfl)⟩ rfl rfl hl.1 rfl (lv_room (Nat.le_of_ble_eq_true rfl)) (zdt_at zt_X10_galois_0 37 rfl) ⟨Nat.zero_le _, Nat.zero_le _⟩) ?_
      clear hc_
      refine W.eq (g2 := F0 m 66 ls [.long r_10, .ref h0]) rfl ?_
      refine va_put (pc := 66) (D := D) (ci := 12) (v := .long r_10) (ty := .long) (C := RX10) (T := TX10) (N := 52) hx hb hts hcX10 tyX10 tyX10_ok nmX10 hown hK hP hD hS 0 rfl rfl 50 (by decide) hw0 (fun _ h9 => h9) rfl (by decide +kernel) rfl rfl (Nat.le_of_ble_eq_true rfl) (zdt_at zt_X10_galois_0 38 rfl) ?_
      clear hP hD hS
      intro H locs hP hD hS
      replace hP : va_P D vwCl ([(h0, .inr (12, zmo hm c_thrown c_state c_test c_words c_ill c_before c_inRow c_first c_inWindow c_same c_made c_requests c_total c_secrets c_rounds c_high c_low r_10 c_keyLow)), ((hm 43), .inl (cy 1, 16, .inl c_block_8)), ((hm 46), .inl (cy 1, 512, .inl c_body)), ((hm 39), .inl (cy 1, 256, .inl c_box)), ((hm 6), .inl (cy 1, 512, .inl c_buffer)), ((hm 44), .inl (cy 1, 16, .inl c_other_9)), ((hm 45), .inl (cy 1, 600, .inl c_result)), ((hm 41), .inl (cy 1, 240, .inl c_round))]) H := hP
      replace hD : va_D A ([(h0, .inr (12, zmo hm c_thrown c_state c_test c_words c_ill c_before c_inRow c_first c_inWindow c_same c_made c_requests c_total c_secrets c_rounds c_high c_low r_10 c_keyLow)), ((hm 43), .inl (cy 1, 16, .inl c_block_8)), ((hm 46), .inl (cy 1, 512, .inl c_body)), ((hm 39), .inl (cy 1, 256, .inl c_box)), ((hm 6), .inl (cy 1, 512, .inl c_buffer)), ((hm 44), .inl (cy 1, 16, .inl c_other_9)), ((hm 45), .inl (cy 1, 600, .inl c_result)), ((hm 41), .inl (cy 1, 240, .inl c_round))]) := hD
      refine lv_aload_n (pc := 69) hx hb (zdt_at zt_X10_galois_0 39 rfl) rfl (lv_at hl 0 rfl) ?_
      refine lv_aload_n (pc := 70) hx hb (zdt_at zt_X10_galois_0 40 rfl) rfl (lv_at hl 0 rfl) ?_
      refine lv_bipush (pc := 71) (v := (8 : Int32)) hx hb (zdt_at zt_X10_galois_0 41 rfl) (by decide) ?_
      replace hf := zb_s hf
      obtain ⟨r_11, hc_, hf⟩ := hf
      refine zcs (pc := 73) (rv := (some (.long r_11))) (va_runV (As := [.int (8 : Int32)]) (rest := [.ref h0]) ⟨hx, hb, hml, hown, hts⟩ (c_X10_half l D cy tt H.size h0 hm (8 : Int32) c_block_8 c_thrown c_state c_test c_words c_ill c_before c_inRow c_first c_inWindow c_same c_made c_requests c_total c_secrets c_rounds c_high c_low r_10 c_keyLow r_11 hc_) (cwV 1 hts gX10_galois_X10_half rfl rfl rfl (by decide +kernel) ⟨Nat.le_of_ble_eq_true rfl, Nat.le_of_ble_eq_true rfl⟩) ⟨zblind, va_recv hK hP (ci := 12) (q0 := 0) rfl rfl, zpre hE hS (hP.sub [0, 1] rfl) (hD.sub [0, 1] (by decide) rfl) (va_free hD hS hA [0, 1] rfl)⟩ rfl rfl hl.1 rfl (lv_room (Nat.le_of_ble_eq_true rfl)) (zdt_at zt_X10_galois_0 42 rfl) ⟨Nat.zero_le _, Nat.zero_le _⟩) ?_
      clear hc_
      refine W.eq (g2 := F0 m 76 ls [.long r_11, .ref h0]) rfl ?_
      refine va_put (pc := 76) (D := D) (ci := 12) (v := .long r_11) (ty := .long) (C := RX10) (T := TX10) (N := 52) hx hb hts hcX10 tyX10 tyX10_ok nmX10 hown hK hP hD hS 0 rfl rfl 51 (by decide) hw1 (fun _ h9 => h9) rfl (by decide +kernel) rfl rfl (Nat.le_of_ble_eq_true rfl) (zdt_at zt_X10_galois_0 43 rfl) ?_
      clear hP hD hS
      intro H locs hP hD hS
      replace hP : va_P D vwCl ([(h0, .inr (12, zmo hm c_thrown c_state c_test c_words c_ill c_before c_inRow c_first c_inWindow c_same c_made c_requests c_total c_secrets c_rounds c_high c_low r_10 r_11)), ((hm 43), .inl (cy 1, 16, .inl c_block_8)), ((hm 46), .inl (cy 1, 512, .inl c_body)), ((hm 39), .inl (cy 1, 256, .inl c_box)), ((hm 6), .inl (cy 1, 512, .inl c_buffer)), ((hm 44), .inl (cy 1, 16, .inl c_other_9)), ((hm 45), .inl (cy 1, 600, .inl c_result)), ((hm 41), .inl (cy 1, 240, .inl c_round))]) H := hP
      replace hD : va_D A ([(h0, .inr (12, zmo hm c_thrown c_state c_test c_words c_ill c_before c_inRow c_first c_inWindow c_same c_made c_requests c_total c_secrets c_rounds c_high c_low r_10 r_11)), ((hm 43), .inl (cy 1, 16, .inl c_block_8)), ((hm 46), .inl (cy 1, 512, .inl c_body)), ((hm 39), .inl (cy 1, 256, .inl c_box)), ((hm 6), .inl (cy 1, 512, .inl c_buffer)), ((hm 44), .inl (cy 1, 16, .inl c_other_9)), ((hm 45), .inl (cy 1, 600, .inl c_result)), ((hm 41), .inl (cy 1, 240, .inl c_round))]) := hD
      refine lv_iconst (pc := 79) (v := (0 : Int32)) hx hb (zdt_at zt_X10_galois_0 44 rfl) (by decide) ?_
      refine lv_istore (pc := 80) (lv' := [(7, .int (0 : Int32)), (0, .ref h0), (1, .int p1), (2, .int p2), (3, .int p3), (4, .int p4), (5, .int v_1), (6, .int x_3)]) hx hb (zdt_at zt_X10_galois_0 45 rfl) hl (by decide) rfl ?_
      clear hl
      intro ls hl
      replace hf := zj_s hf
      obtain ⟨K_19, eK_19, hf⟩ := hf
      have kK_19 : ∀ (c_block_16 : Nat → Int32) (c_other_17 : Nat → Int32) (c_result_18 : Nat → Int32) (H : Heap) (locs : List Loc) (ls : Array Slot), va_P D vwCl ([(h0, .inr (12, zmo hm c_thrown c_state c_test c_words c_ill c_before c_inRow c_first c_inWindow c_same c_made c_requests c_total c_secrets c_rounds c_high c_low r_10 r_11)), ((hm 43), .inl (cy 1, 16, .inl c_block_16)), ((hm 46), .inl (cy 1, 512, .inl c_body)), ((hm 39), .inl (cy 1, 256, .inl c_box)), ((hm 6), .inl (cy 1, 512, .inl c_buffer)), ((hm 44), .inl (cy 1, 16, .inl c_other_17)), ((hm 45), .inl (cy 1, 600, .inl c_result_18)), ((hm 41), .inl (cy 1, 240, .inl c_round))]) H → va_D A ([(h0, .inr (12, zmo hm c_thrown c_state c_test c_words c_ill c_before c_inRow c_first c_inWindow c_same c_made c_requests c_total c_secrets c_rounds c_high c_low r_10 r_11)), ((hm 43), .inl (cy 1, 16, .inl c_block_16)), ((hm 46), .inl (cy 1, 512, .inl c_body)), ((hm 39), .inl (cy 1, 256, .inl c_box)), ((hm 6), .inl (cy 1, 512, .inl c_buffer)), ((hm 44), .inl (cy 1, 16, .inl c_other_17)), ((hm 45), .inl (cy 1, 600, .inl c_result_18)), ((hm 41), .inl (cy 1, 240, .inl c_round))]) → va_S A s.heap H locs → lv_has ls 16 [(0, .ref h0), (1, .int p1), (2, .int p2), (3, .int p3), (4, .int p4), (5, .int v_1), (6, .int x_3)] → K_19 c_block_16 c_other_17 c_result_18 = some (r_, c_high', c_keyHigh', c_keyLow', c_low', c_block', c_body', c_buffer', c_other', c_result') → GW H locs (F0 m 155 ls []) := by
        clear hf hl hP hD hS
        intro c_block_16 c_other_17 c_result_18 H locs ls hP hD hS hl hf
        rw [eK_19] at hf
        clear eK_19
        refine hFr _ _ _ ?_
        refine lv_aload_n (pc := 155) hx hb (zdt_at zt_X10_galois_1 22 rfl) rfl (lv_at hl 0 rfl) ?_
        refine lv_lconst (pc := 156) (v := (0 : Int64)) hx hb (zdt_at zt_X10_galois_1 23 rfl) (by decide) ?_
        refine va_put (pc := 157) (D := D) (ci := 12) (v := .long (0 : Int64)) (ty := .long) (C := RX10) (T := TX10) (N := 52) hx hb hts hcX10 tyX10 tyX10_ok nmX10 hown hK hP hD hS 0 rfl rfl 48 (by decide) hw2 (fun _ h9 => h9) rfl (by decide +kernel) rfl rfl (Nat.le_of_ble_eq_true rfl) (zdt_at zt_X10_galois_1 24 rfl) ?_
        clear hP hD hS
        intro H locs hP hD hS
        replace hP : va_P D vwCl ([(h0, .inr (12, zmo hm c_thrown c_state c_test c_words c_ill c_before c_inRow c_first c_inWindow c_same c_made c_requests c_total c_secrets c_rounds (0 : Int64) c_low r_10 r_11)), ((hm 43), .inl (cy 1, 16, .inl c_block_16)), ((hm 46), .inl (cy 1, 512, .inl c_body)), ((hm 39), .inl (cy 1, 256, .inl c_box)), ((hm 6), .inl (cy 1, 512, .inl c_buffer)), ((hm 44), .inl (cy 1, 16, .inl c_other_17)), ((hm 45), .inl (cy 1, 600, .inl c_result_18)), ((hm 41), .inl (cy 1, 240, .inl c_round))]) H := hP
        replace hD : va_D A ([(h0, .inr (12, zmo hm c_thrown c_state c_test c_words c_ill c_before c_inRow c_first c_inWindow c_same c_made c_requests c_total c_secrets c_rounds (0 : Int64) c_low r_10 r_11)), ((hm 43), .inl (cy 1, 16, .inl c_block_16)), ((hm 46), .inl (cy 1, 512, .inl c_body)), ((hm 39), .inl (cy 1, 256, .inl c_box)), ((hm 6), .inl (cy 1, 512, .inl c_buffer)), ((hm 44), .inl (cy 1, 16, .inl c_other_17)), ((hm 45), .inl (cy 1, 600, .inl c_result_18)), ((hm 41), .inl (cy 1, 240, .inl c_round))]) := hD
        refine lv_aload_n (pc := 160) hx hb (zdt_at zt_X10_galois_1 25 rfl) rfl (lv_at hl 0 rfl) ?_
        refine lv_lconst (pc := 161) (v := (0 : Int64)) hx hb (zdt_at zt_X10_galois_1 26 rfl) (by decide) ?_
        refine va_put (pc := 162) (D := D) (ci := 12) (v := .long (0 : Int64)) (ty := .long) (C := RX10) (T := TX10) (N := 52) hx hb hts hcX10 tyX10 tyX10_ok nmX10 hown hK hP hD hS 0 rfl rfl 49 (by decide) hw3 (fun _ h9 => h9) rfl (by decide +kernel) rfl rfl (Nat.le_of_ble_eq_true rfl) (zdt_at zt_X10_galois_1 27 rfl) ?_
        clear hP hD hS
        intro H locs hP hD hS
        replace hP : va_P D vwCl ([(h0, .inr (12, zmo hm c_thrown c_state c_test c_words c_ill c_before c_inRow c_first c_inWindow c_same c_made c_requests c_total c_secrets c_rounds (0 : Int64) (0 : Int64) r_10 r_11)), ((hm 43), .inl (cy 1, 16, .inl c_block_16)), ((hm 46), .inl (cy 1, 512, .inl c_body)), ((hm 39), .inl (cy 1, 256, .inl c_box)), ((hm 6), .inl (cy 1, 512, .inl c_buffer)), ((hm 44), .inl (cy 1, 16, .inl c_other_17)), ((hm 45), .inl (cy 1, 600, .inl c_result_18)), ((hm 41), .inl (cy 1, 240, .inl c_round))]) H := hP
        replace hD : va_D A ([(h0, .inr (12, zmo hm c_thrown c_state c_test c_words c_ill c_before c_inRow c_first c_inWindow c_same c_made c_requests c_total c_secrets c_rounds (0 : Int64) (0 : Int64) r_10 r_11)), ((hm 43), .inl (cy 1, 16, .inl c_block_16)), ((hm 46), .inl (cy 1, 512, .inl c_body)), ((hm 39), .inl (cy 1, 256, .inl c_box)), ((hm 6), .inl (cy 1, 512, .inl c_buffer)), ((hm 44), .inl (cy 1, 16, .inl c_other_17)), ((hm 45), .inl (cy 1, 600, .inl c_result_18)), ((hm 41), .inl (cy 1, 240, .inl c_round))]) := hD
        refine lv_iconst (pc := 165) (v := (0 : Int32)) hx hb (zdt_at zt_X10_galois_1 28 rfl) (by decide) ?_
        refine lv_istore (pc := 166) (lv' := [(7, .int (0 : Int32)), (0, .ref h0), (1, .int p1), (2, .int p2), (3, .int p3), (4, .int p4), (5, .int v_1), (6, .int x_3)]) hx hb (zdt_at zt_X10_galois_1 29 rfl) hl (by decide) rfl ?_
        clear hl
        intro ls hl
        replace hf := zj_s hf
        obtain ⟨K_23, eK_23, hf⟩ := hf
        have kK_23 : ∀ (c_body_22 : Nat → Int32) (H : Heap) (locs : List Loc) (ls : Array Slot), va_P D vwCl ([(h0, .inr (12, zmo hm c_thrown c_state c_test c_words c_ill c_before c_inRow c_first c_inWindow c_same c_made c_requests c_total c_secrets c_rounds (0 : Int64) (0 : Int64) r_10 r_11)), ((hm 43), .inl (cy 1, 16, .inl c_block_16)), ((hm 46), .inl (cy 1, 512, .inl c_body_22)), ((hm 39), .inl (cy 1, 256, .inl c_box)), ((hm 6), .inl (cy 1, 512, .inl c_buffer)), ((hm 44), .inl (cy 1, 16, .inl c_other_17)), ((hm 45), .inl (cy 1, 600, .inl c_result_18)), ((hm 41), .inl (cy 1, 240, .inl c_round))]) H → va_D A ([(h0, .inr (12, zmo hm c_thrown c_state c_test c_words c_ill c_before c_inRow c_first c_inWindow c_same c_made c_requests c_total c_secrets c_rounds (0 : Int64) (0 : Int64) r_10 r_11)), ((hm 43), .inl (cy 1, 16, .inl c_block_16)), ((hm 46), .inl (cy 1, 512, .inl c_body_22)), ((hm 39), .inl (cy 1, 256, .inl c_box)), ((hm 6), .inl (cy 1, 512, .inl c_buffer)), ((hm 44), .inl (cy 1, 16, .inl c_other_17)), ((hm 45), .inl (cy 1, 600, .inl c_result_18)), ((hm 41), .inl (cy 1, 240, .inl c_round))]) → va_S A s.heap H locs → lv_has ls 16 [(0, .ref h0), (1, .int p1), (2, .int p2), (3, .int p3), (4, .int p4), (5, .int v_1), (6, .int x_3)] → K_23 c_body_22 = some (r_, c_high', c_keyHigh', c_keyLow', c_low', c_block', c_body', c_buffer', c_other', c_result') → GW H locs (F0 m 195 ls []) := by
          clear hf hl hP hD hS
          intro c_body_22 H locs ls hP hD hS hl hf
          rw [eK_23] at hf
          clear eK_23
          refine hFr _ _ _ ?_
          refine lv_iconst (pc := 195) (v := (0 : Int32)) hx hb (zdt_at zt_X10_galois_1 43 rfl) (by decide) ?_
          refine lv_istore (pc := 196) (lv' := [(7, .int (0 : Int32)), (0, .ref h0), (1, .int p1), (2, .int p2), (3, .int p3), (4, .int p4), (5, .int v_1), (6, .int x_3)]) hx hb (zdt_at zt_X10_galois_1 44 rfl) hl (by decide) rfl ?_
          clear hl
          intro ls hl
          replace hf := zj_s hf
          obtain ⟨K_27, eK_27, hf⟩ := hf
          have kK_27 : ∀ (c_result_26 : Nat → Int32) (H : Heap) (locs : List Loc) (ls : Array Slot), va_P D vwCl ([(h0, .inr (12, zmo hm c_thrown c_state c_test c_words c_ill c_before c_inRow c_first c_inWindow c_same c_made c_requests c_total c_secrets c_rounds (0 : Int64) (0 : Int64) r_10 r_11)), ((hm 43), .inl (cy 1, 16, .inl c_block_16)), ((hm 46), .inl (cy 1, 512, .inl c_body_22)), ((hm 39), .inl (cy 1, 256, .inl c_box)), ((hm 6), .inl (cy 1, 512, .inl c_buffer)), ((hm 44), .inl (cy 1, 16, .inl c_other_17)), ((hm 45), .inl (cy 1, 600, .inl c_result_26)), ((hm 41), .inl (cy 1, 240, .inl c_round))]) H → va_D A ([(h0, .inr (12, zmo hm c_thrown c_state c_test c_words c_ill c_before c_inRow c_first c_inWindow c_same c_made c_requests c_total c_secrets c_rounds (0 : Int64) (0 : Int64) r_10 r_11)), ((hm 43), .inl (cy 1, 16, .inl c_block_16)), ((hm 46), .inl (cy 1, 512, .inl c_body_22)), ((hm 39), .inl (cy 1, 256, .inl c_box)), ((hm 6), .inl (cy 1, 512, .inl c_buffer)), ((hm 44), .inl (cy 1, 16, .inl c_other_17)), ((hm 45), .inl (cy 1, 600, .inl c_result_26)), ((hm 41), .inl (cy 1, 240, .inl c_round))]) → va_S A s.heap H locs → lv_has ls 16 [(0, .ref h0), (1, .int p1), (2, .int p2), (3, .int p3), (4, .int p4), (5, .int v_1), (6, .int x_3)] → K_27 c_result_26 = some (r_, c_high', c_keyHigh', c_keyLow', c_low', c_block', c_body', c_buffer', c_other', c_result') → GW H locs (F0 m 230 ls []) := by
            clear hf hl hP hD hS
            intro c_result_26 H locs ls hP hD hS hl hf
            rw [eK_27] at hf
            clear eK_27
            refine hFr _ _ _ ?_
            refine lv_aload_n (pc := 230) hx hb (zdt_at zt_X10_galois_1 62 rfl) rfl (lv_at hl 0 rfl) ?_
            refine lv_iconst (pc := 231) (v := (0 : Int32)) hx hb (zdt_at zt_X10_galois_1 63 rfl) (by decide) ?_
            refine lv_iload (pc := 232) hx hb (zdt_at zt_X10_galois_2 0 rfl) (lv_at hl 4 rfl) ?_
            replace hf := zb_s hf
            obtain ⟨⟨c_high_28, c_low_29⟩, hc_, hf⟩ := hf
            refine zcn2 (pc := 234) (rv := none) (va_runV (As := [.int (0 : Int32), .int p4]) (rest := []) ⟨hx, hb, hml, hown, hts⟩ (c_X10_absorb l D cy tt H.size h0 hm (0 : Int32) p4 (0 : Int64) r_10 r_11 (0 : Int64) c_result_26 c_thrown c_state c_test c_words c_ill c_before c_inRow c_first c_inWindow c_same c_made c_requests c_total c_secrets c_rounds c_high_28 c_low_29 hc_) (cwV 2 hts gX10_galois_X10_absorb rfl rfl rfl (by decide +kernel) ⟨Nat.le_of_ble_eq_true rfl, Nat.le_of_ble_eq_true rfl⟩) ⟨zblind, va_recv hK hP (ci := 12) (q0 := 0) rfl rfl, zpre hE hS (hP.sub [0, 6] rfl) (hD.sub [0, 6] (by decide) rfl) (va_free hD hS hA [0, 6] rfl)⟩ rfl rfl hl.1 rfl (lv_room (Nat.le_of_ble_eq_true rfl)) (zdt_at zt_X10_galois_2 1 rfl) ⟨Nat.zero_le _, Nat.zero_le _⟩) hS hP hD (va_free hD hS hA [0, 6] rfl) [0, 6] rfl (by decide) rfl ?_
            clear hP hD hS hc_
            intro H locs hP hD hS
            replace hP : va_P D vwCl ([(h0, .inr (12, zmo hm c_thrown c_state c_test c_words c_ill c_before c_inRow c_first c_inWindow c_same c_made c_requests c_total c_secrets c_rounds c_high_28 c_low_29 r_10 r_11)), ((hm 43), .inl (cy 1, 16, .inl c_block_16)), ((hm 46), .inl (cy 1, 512, .inl c_body_22)), ((hm 39), .inl (cy 1, 256, .inl c_box)), ((hm 6), .inl (cy 1, 512, .inl c_buffer)), ((hm 44), .inl (cy 1, 16, .inl c_other_17)), ((hm 45), .inl (cy 1, 600, .inl c_result_26)), ((hm 41), .inl (cy 1, 240, .inl c_round))]) H := hP
            replace hD : va_D A ([(h0, .inr (12, zmo hm c_thrown c_state c_test c_words c_ill c_before c_inRow c_first c_inWindow c_same c_made c_requests c_total c_secrets c_rounds c_high_28 c_low_29 r_10 r_11)), ((hm 43), .inl (cy 1, 16, .inl c_block_16)), ((hm 46), .inl (cy 1, 512, .inl c_body_22)), ((hm 39), .inl (cy 1, 256, .inl c_box)), ((hm 6), .inl (cy 1, 512, .inl c_buffer)), ((hm 44), .inl (cy 1, 16, .inl c_other_17)), ((hm 45), .inl (cy 1, 600, .inl c_result_26)), ((hm 41), .inl (cy 1, 240, .inl c_round))]) := hD
            refine W.eq (g2 := F0 m 237 ls []) rfl ?_
            refine lv_iconst (pc := 237) (v := (0 : Int32)) hx hb (zdt_at zt_X10_galois_2 2 rfl) (by decide) ?_
            refine lv_istore (pc := 238) (lv' := [(7, .int (0 : Int32)), (0, .ref h0), (1, .int p1), (2, .int p2), (3, .int p3), (4, .int p4), (5, .int v_1), (6, .int x_3)]) hx hb (zdt_at zt_X10_galois_2 3 rfl) hl (by decide) rfl ?_
            clear hl
            intro ls hl
            replace hf := zj_s hf
            obtain ⟨K_33, eK_33, hf⟩ := hf
            have kK_33 : ∀ (c_result_32 : Nat → Int32) (H : Heap) (locs : List Loc) (ls : Array Slot), va_P D vwCl ([(h0, .inr (12, zmo hm c_thrown c_state c_test c_words c_ill c_before c_inRow c_first c_inWindow c_same c_made c_requests c_total c_secrets c_rounds c_high_28 c_low_29 r_10 r_11)), ((hm 43), .inl (cy 1, 16, .inl c_block_16)), ((hm 46), .inl (cy 1, 512, .inl c_body_22)), ((hm 39), .inl (cy 1, 256, .inl c_box)), ((hm 6), .inl (cy 1, 512, .inl c_buffer)), ((hm 44), .inl (cy 1, 16, .inl c_other_17)), ((hm 45), .inl (cy 1, 600, .inl c_result_32)), ((hm 41), .inl (cy 1, 240, .inl c_round))]) H → va_D A ([(h0, .inr (12, zmo hm c_thrown c_state c_test c_words c_ill c_before c_inRow c_first c_inWindow c_same c_made c_requests c_total c_secrets c_rounds c_high_28 c_low_29 r_10 r_11)), ((hm 43), .inl (cy 1, 16, .inl c_block_16)), ((hm 46), .inl (cy 1, 512, .inl c_body_22)), ((hm 39), .inl (cy 1, 256, .inl c_box)), ((hm 6), .inl (cy 1, 512, .inl c_buffer)), ((hm 44), .inl (cy 1, 16, .inl c_other_17)), ((hm 45), .inl (cy 1, 600, .inl c_result_32)), ((hm 41), .inl (cy 1, 240, .inl c_round))]) → va_S A s.heap H locs → lv_has ls 16 [(0, .ref h0), (1, .int p1), (2, .int p2), (3, .int p3), (4, .int p4), (5, .int v_1), (6, .int x_3)] → K_33 c_result_32 = some (r_, c_high', c_keyHigh', c_keyLow', c_low', c_block', c_body', c_buffer', c_other', c_result') → GW H locs (F0 m 267 ls []) := by
              clear hf hl hP hD hS
              intro c_result_32 H locs ls hP hD hS hl hf
              rw [eK_33] at hf
              clear eK_33
              refine hFr _ _ _ ?_
              refine lv_aload_n (pc := 267) hx hb (zdt_at zt_X10_galois_2 17 rfl) rfl (lv_at hl 0 rfl) ?_
              refine lv_iconst (pc := 268) (v := (0 : Int32)) hx hb (zdt_at zt_X10_galois_2 18 rfl) (by decide) ?_
              refine lv_iload (pc := 269) hx hb (zdt_at zt_X10_galois_2 19 rfl) (lv_at hl 5 rfl) ?_
              replace hf := zb_s hf
              obtain ⟨⟨c_high_34, c_low_35⟩, hc_, hf⟩ := hf
              refine zcn2 (pc := 271) (rv := none) (va_runV (As := [.int (0 : Int32), .int v_1]) (rest := []) ⟨hx, hb, hml, hown, hts⟩ (c_X10_absorb l D cy tt H.size h0 hm (0 : Int32) v_1 c_high_28 r_10 r_11 c_low_29 c_result_32 c_thrown c_state c_test c_words c_ill c_before c_inRow c_first c_inWindow c_same c_made c_requests c_total c_secrets c_rounds c_high_34 c_low_35 hc_) (cwV 2 hts gX10_galois_X10_absorb rfl rfl rfl (by decide +kernel) ⟨Nat.le_of_ble_eq_true rfl, Nat.le_of_ble_eq_true rfl⟩) ⟨zblind, va_recv hK hP (ci := 12) (q0 := 0) rfl rfl, zpre hE hS (hP.sub [0, 6] rfl) (hD.sub [0, 6] (by decide) rfl) (va_free hD hS hA [0, 6] rfl)⟩ rfl rfl hl.1 rfl (lv_room (Nat.le_of_ble_eq_true rfl)) (zdt_at zt_X10_galois_2 20 rfl) ⟨Nat.zero_le _, Nat.zero_le _⟩) hS hP hD (va_free hD hS hA [0, 6] rfl) [0, 6] rfl (by decide) rfl ?_
              clear hP hD hS hc_
              intro H locs hP hD hS
              replace hP : va_P D vwCl ([(h0, .inr (12, zmo hm c_thrown c_state c_test c_words c_ill c_before c_inRow c_first c_inWindow c_same c_made c_requests c_total c_secrets c_rounds c_high_34 c_low_35 r_10 r_11)), ((hm 43), .inl (cy 1, 16, .inl c_block_16)), ((hm 46), .inl (cy 1, 512, .inl c_body_22)), ((hm 39), .inl (cy 1, 256, .inl c_box)), ((hm 6), .inl (cy 1, 512, .inl c_buffer)), ((hm 44), .inl (cy 1, 16, .inl c_other_17)), ((hm 45), .inl (cy 1, 600, .inl c_result_32)), ((hm 41), .inl (cy 1, 240, .inl c_round))]) H := hP
              replace hD : va_D A ([(h0, .inr (12, zmo hm c_thrown c_state c_test c_words c_ill c_before c_inRow c_first c_inWindow c_same c_made c_requests c_total c_secrets c_rounds c_high_34 c_low_35 r_10 r_11)), ((hm 43), .inl (cy 1, 16, .inl c_block_16)), ((hm 46), .inl (cy 1, 512, .inl c_body_22)), ((hm 39), .inl (cy 1, 256, .inl c_box)), ((hm 6), .inl (cy 1, 512, .inl c_buffer)), ((hm 44), .inl (cy 1, 16, .inl c_other_17)), ((hm 45), .inl (cy 1, 600, .inl c_result_32)), ((hm 41), .inl (cy 1, 240, .inl c_round))]) := hD
              refine W.eq (g2 := F0 m 274 ls []) rfl ?_
              refine lv_aload_n (pc := 274) hx hb (zdt_at zt_X10_galois_2 21 rfl) rfl (lv_at hl 0 rfl) ?_
              refine lv_aload_n (pc := 275) hx hb (zdt_at zt_X10_galois_2 22 rfl) rfl (lv_at hl 0 rfl) ?_
              refine va_get (pc := 276) (D := D) (ci := 12) (v := .long c_high_34) (C := RX10) (T := TX10) (N := 52) hx hb hts hcX10 hown hK hP 0 rfl rfl 48 (by decide) hw2 (fun _ h9 => h9) rfl (zdt_at zt_X10_galois_2 23 rfl) ?_
              refine lv_ldc2 (pc := 279) hx hb hown hw4 (zdt_at zt_X10_galois_2 24 rfl) ?_
              refine lv_iload (pc := 282) hx hb (zdt_at zt_X10_galois_2 25 rfl) (lv_at hl 4 rfl) ?_
              refine lv_i2l (pc := 284) hx hb (zdt_at zt_X10_galois_2 26 rfl) rfl ?_
              refine lv_lmul (pc := 285) hx hb (zdt_at zt_X10_galois_2 27 rfl) ?_
              refine lv_lxor (pc := 286) hx hb (zdt_at zt_X10_galois_2 28 rfl) ?_
              refine lv_aload_n (pc := 287) hx hb (zdt_at zt_X10_galois_2 29 rfl) rfl (lv_at hl 0 rfl) ?_
              refine va_get (pc := 288) (D := D) (ci := 12) (v := .long c_low_35) (C := RX10) (T := TX10) (N := 52) hx hb hts hcX10 hown hK hP 0 rfl rfl 49 (by decide) hw3 (fun _ h9 => h9) rfl (zdt_at zt_X10_galois_2 30 rfl) ?_
              refine lv_ldc2 (pc := 291) hx hb hown hw4 (zdt_at zt_X10_galois_2 31 rfl) ?_
              refine lv_iload (pc := 294) hx hb (zdt_at zt_X10_galois_2 32 rfl) (lv_at hl 5 rfl) ?_
              refine lv_i2l (pc := 296) hx hb (zdt_at zt_X10_galois_2 33 rfl) rfl ?_
              refine lv_lmul (pc := 297) hx hb (zdt_at zt_X10_galois_2 34 rfl) ?_
              refine lv_lxor (pc := 298) hx hb (zdt_at zt_X10_galois_2 35 rfl) ?_
              replace hf := zb_s hf
              obtain ⟨⟨c_high_36, c_low_37⟩, hc_, hf⟩ := hf
              refine zcn2 (pc := 299) (rv := none) (va_runV (As := [.long (c_high_34 ^^^ ((8 : Int64) * p4.toInt64)), .long (c_low_35 ^^^ ((8 : Int64) * v_1.toInt64))]) (rest := []) ⟨hx, hb, hml, hown, hts⟩ (c_X10_multiply l D cy tt H.size h0 hm (c_high_34 ^^^ ((8 : Int64) * p4.toInt64)) (c_low_35 ^^^ ((8 : Int64) * v_1.toInt64)) c_high_34 r_10 r_11 c_low_35 c_thrown c_state c_test c_words c_ill c_before c_inRow c_first c_inWindow c_same c_made c_requests c_total c_secrets c_rounds c_high_36 c_low_37 hc_) (cwV 2 hts gX10_galois_X10_multiply rfl rfl rfl (by decide +kernel) ⟨Nat.le_of_ble_eq_true rfl, Nat.le_of_ble_eq_true rfl⟩) ⟨zblind, va_recv hK hP (ci := 12) (q0 := 0) rfl rfl, zpre hE hS (hP.sub [0] rfl) (hD.sub [0] (by decide) rfl) (va_free hD hS hA [0] rfl)⟩ rfl rfl hl.1 rfl (lv_room (Nat.le_of_ble_eq_true rfl)) (zdt_at zt_X10_galois_2 36 rfl) ⟨Nat.zero_le _, Nat.zero_le _⟩) hS hP hD (va_free hD hS hA [0] rfl) [0] rfl (by decide) rfl ?_
              clear hP hD hS hc_
              intro H locs hP hD hS
              replace hP : va_P D vwCl ([(h0, .inr (12, zmo hm c_thrown c_state c_test c_words c_ill c_before c_inRow c_first c_inWindow c_same c_made c_requests c_total c_secrets c_rounds c_high_36 c_low_37 r_10 r_11)), ((hm 43), .inl (cy 1, 16, .inl c_block_16)), ((hm 46), .inl (cy 1, 512, .inl c_body_22)), ((hm 39), .inl (cy 1, 256, .inl c_box)), ((hm 6), .inl (cy 1, 512, .inl c_buffer)), ((hm 44), .inl (cy 1, 16, .inl c_other_17)), ((hm 45), .inl (cy 1, 600, .inl c_result_32)), ((hm 41), .inl (cy 1, 240, .inl c_round))]) H := hP
              replace hD : va_D A ([(h0, .inr (12, zmo hm c_thrown c_state c_test c_words c_ill c_before c_inRow c_first c_inWindow c_same c_made c_requests c_total c_secrets c_rounds c_high_36 c_low_37 r_10 r_11)), ((hm 43), .inl (cy 1, 16, .inl c_block_16)), ((hm 46), .inl (cy 1, 512, .inl c_body_22)), ((hm 39), .inl (cy 1, 256, .inl c_box)), ((hm 6), .inl (cy 1, 512, .inl c_buffer)), ((hm 44), .inl (cy 1, 16, .inl c_other_17)), ((hm 45), .inl (cy 1, 600, .inl c_result_32)), ((hm 41), .inl (cy 1, 240, .inl c_round))]) := hD
              refine W.eq (g2 := F0 m 302 ls []) rfl ?_
              refine lv_aload_n (pc := 302) hx hb (zdt_at zt_X10_galois_2 37 rfl) rfl (lv_at hl 0 rfl) ?_
              refine lv_iload_n (pc := 303) hx hb (zdt_at zt_X10_galois_2 38 rfl) rfl (lv_at hl 2 rfl) ?_
              refine lv_iconst (pc := 304) (v := (1 : Int32)) hx hb (zdt_at zt_X10_galois_2 39 rfl) (by decide) ?_
              replace hf := zb_s hf
              obtain ⟨⟨c_block_38, c_other_39⟩, hc_, hf⟩ := hf
              refine zcn2 (pc := 305) (rv := none) (va_runV (As := [.int p2, .int (1 : Int32)]) (rest := []) ⟨hx, hb, hml, hown, hts⟩ (c_X10_counterBlock l D cy tt H.size h0 hm p2 (1 : Int32) c_rounds c_block_16 c_box c_buffer c_other_17 c_round c_thrown c_state c_test c_words c_ill c_before c_inRow c_first c_inWindow c_same c_made c_requests c_total c_secrets c_high_36 c_low_37 r_10 r_11 c_block_38 c_other_39 hc_) (cwV 2 hts gX10_galois_X10_counterBlock rfl rfl rfl (by decide +kernel) ⟨Nat.le_of_ble_eq_true rfl, Nat.le_of_ble_eq_true rfl⟩) ⟨zblind, va_recv hK hP (ci := 12) (q0 := 0) rfl rfl, zpre hE hS (hP.sub [0, 1, 3, 4, 5, 7] rfl) (hD.sub [0, 1, 3, 4, 5, 7] (by decide) rfl) (va_free hD hS hA [0, 1, 3, 4, 5, 7] rfl)⟩ rfl rfl hl.1 rfl (lv_room (Nat.le_of_ble_eq_true rfl)) (zdt_at zt_X10_galois_2 40 rfl) ⟨Nat.zero_le _, Nat.zero_le _⟩) hS hP hD (va_free hD hS hA [0, 1, 3, 4, 5, 7] rfl) [0, 1, 3, 4, 5, 7] rfl (by decide) rfl ?_
              clear hP hD hS hc_
              intro H locs hP hD hS
              replace hP : va_P D vwCl ([(h0, .inr (12, zmo hm c_thrown c_state c_test c_words c_ill c_before c_inRow c_first c_inWindow c_same c_made c_requests c_total c_secrets c_rounds c_high_36 c_low_37 r_10 r_11)), ((hm 43), .inl (cy 1, 16, .inl c_block_38)), ((hm 46), .inl (cy 1, 512, .inl c_body_22)), ((hm 39), .inl (cy 1, 256, .inl c_box)), ((hm 6), .inl (cy 1, 512, .inl c_buffer)), ((hm 44), .inl (cy 1, 16, .inl c_other_39)), ((hm 45), .inl (cy 1, 600, .inl c_result_32)), ((hm 41), .inl (cy 1, 240, .inl c_round))]) H := hP
              replace hD : va_D A ([(h0, .inr (12, zmo hm c_thrown c_state c_test c_words c_ill c_before c_inRow c_first c_inWindow c_same c_made c_requests c_total c_secrets c_rounds c_high_36 c_low_37 r_10 r_11)), ((hm 43), .inl (cy 1, 16, .inl c_block_38)), ((hm 46), .inl (cy 1, 512, .inl c_body_22)), ((hm 39), .inl (cy 1, 256, .inl c_box)), ((hm 6), .inl (cy 1, 512, .inl c_buffer)), ((hm 44), .inl (cy 1, 16, .inl c_other_39)), ((hm 45), .inl (cy 1, 600, .inl c_result_32)), ((hm 41), .inl (cy 1, 240, .inl c_round))]) := hD
              refine W.eq (g2 := F0 m 308 ls []) rfl ?_
              refine lv_aload_n (pc := 308) hx hb (zdt_at zt_X10_galois_2 41 rfl) rfl (lv_at hl 0 rfl) ?_
              refine va_get (pc := 309) (D := D) (ci := 12) (v := .long c_high_36) (C := RX10) (T := TX10) (N := 52) hx hb hts hcX10 hown hK hP 0 rfl rfl 48 (by decide) hw2 (fun _ h9 => h9) rfl (zdt_at zt_X10_galois_2 42 rfl) ?_
              refine lv_aload_n (pc := 312) hx hb (zdt_at zt_X10_galois_2 43 rfl) rfl (lv_at hl 0 rfl) ?_
              refine lv_iconst (pc := 313) (v := (0 : Int32)) hx hb (zdt_at zt_X10_galois_2 44 rfl) (by decide) ?_
              replace hf := zb_s hf
              obtain ⟨r_40, hc_, hf⟩ := hf
              refine zcs (pc := 314) (rv := (some (.long r_40))) (va_runV (As := [.int (0 : Int32)]) (rest := [.long c_high_36]) ⟨hx, hb, hml, hown, hts⟩ (c_X10_half l D cy tt H.size h0 hm (0 : Int32) c_block_38 c_thrown c_state c_test c_words c_ill c_before c_inRow c_first c_inWindow c_same c_made c_requests c_total c_secrets c_rounds c_high_36 c_low_37 r_10 r_11 r_40 hc_) (cwV 1 hts gX10_galois_X10_half rfl rfl rfl (by decide +kernel) ⟨Nat.le_of_ble_eq_true rfl, Nat.le_of_ble_eq_true rfl⟩) ⟨zblind, va_recv hK hP (ci := 12) (q0 := 0) rfl rfl, zpre hE hS (hP.sub [0, 1] rfl) (hD.sub [0, 1] (by decide) rfl) (va_free hD hS hA [0, 1] rfl)⟩ rfl rfl hl.1 rfl (lv_room (Nat.le_of_ble_eq_true rfl)) (zdt_at zt_X10_galois_2 45 rfl) ⟨Nat.zero_le _, Nat.zero_le _⟩) ?_
              clear hc_
              refine W.eq (g2 := F0 m 317 ls [.long r_40, .long c_high_36]) rfl ?_
              refine lv_lxor (pc := 317) hx hb (zdt_at zt_X10_galois_2 46 rfl) ?_
              refine lv_topl (fun x_41 e_ => ?_)
              replace hf := zn_s hf e_
              clear e_
              refine lv_lstore (pc := 318) (lv' := [(7, .long x_41), (0, .ref h0), (1, .int p1), (2, .int p2), (3, .int p3), (4, .int p4), (5, .int v_1), (6, .int x_3)]) hx hb (zdt_at zt_X10_galois_2 47 rfl) hl (by decide) rfl ?_
              clear hl
              intro ls hl
              refine lv_aload_n (pc := 320) hx hb (zdt_at zt_X10_galois_2 48 rfl) rfl (lv_at hl 1 rfl) ?_
              refine va_get (pc := 321) (D := D) (ci := 12) (v := .long c_low_37) (C := RX10) (T := TX10) (N := 52) hx hb hts hcX10 hown hK hP 0 rfl rfl 49 (by decide) hw3 (fun _ h9 => h9) rfl (zdt_at zt_X10_galois_2 49 rfl) ?_
              refine lv_aload_n (pc := 324) hx hb (zdt_at zt_X10_galois_2 50 rfl) rfl (lv_at hl 1 rfl) ?_
              refine lv_bipush (pc := 325) (v := (8 : Int32)) hx hb (zdt_at zt_X10_galois_2 51 rfl) (by decide) ?_
              replace hf := zb_s hf
              obtain ⟨r_42, hc_, hf⟩ := hf
              refine zcs (pc := 327) (rv := (some (.long r_42))) (va_runV (As := [.int (8 : Int32)]) (rest := [.long c_low_37]) ⟨hx, hb, hml, hown, hts⟩ (c_X10_half l D cy tt H.size h0 hm (8 : Int32) c_block_38 c_thrown c_state c_test c_words c_ill c_before c_inRow c_first c_inWindow c_same c_made c_requests c_total c_secrets c_rounds c_high_36 c_low_37 r_10 r_11 r_42 hc_) (cwV 1 hts gX10_galois_X10_half rfl rfl rfl (by decide +kernel) ⟨Nat.le_of_ble_eq_true rfl, Nat.le_of_ble_eq_true rfl⟩) ⟨zblind, va_recv hK hP (ci := 12) (q0 := 0) rfl rfl, zpre hE hS (hP.sub [0, 1] rfl) (hD.sub [0, 1] (by decide) rfl) (va_free hD hS hA [0, 1] rfl)⟩ rfl rfl hl.1 rfl (lv_room (Nat.le_of_ble_eq_true rfl)) (zdt_at zt_X10_galois_2 52 rfl) ⟨Nat.zero_le _, Nat.zero_le _⟩) ?_
              clear hc_
              refine W.eq (g2 := F0 m 330 ls [.long r_42, .long c_low_37]) rfl ?_
              refine lv_lxor (pc := 330) hx hb (zdt_at zt_X10_galois_2 53 rfl) ?_
              refine lv_topl (fun x_43 e_ => ?_)
              replace hf := zn_s hf e_
              clear e_
              refine lv_lstore (pc := 331) (lv' := [(9, .long x_43), (7, .long x_41), (0, .ref h0), (1, .int p1), (2, .int p2), (3, .int p3), (4, .int p4), (5, .int v_1), (6, .int x_3)]) hx hb (zdt_at zt_X10_galois_2 54 rfl) hl (by decide) rfl ?_
              clear hl
              intro ls hl
              refine lv_iload_n (pc := 333) hx hb (zdt_at zt_X10_galois_2 55 rfl) rfl (lv_at hl 3 rfl) ?_
              replace hf := zj_s hf
              obtain ⟨K_44, eK_44, hf⟩ := hf
              have kK_44 : ∀  (H : Heap) (locs : List Loc) (ls : Array Slot), va_P D vwCl ([(h0, .inr (12, zmo hm c_thrown c_state c_test c_words c_ill c_before c_inRow c_first c_inWindow c_same c_made c_requests c_total c_secrets c_rounds c_high_36 c_low_37 r_10 r_11)), ((hm 43), .inl (cy 1, 16, .inl c_block_38)), ((hm 46), .inl (cy 1, 512, .inl c_body_22)), ((hm 39), .inl (cy 1, 256, .inl c_box)), ((hm 6), .inl (cy 1, 512, .inl c_buffer)), ((hm 44), .inl (cy 1, 16, .inl c_other_39)), ((hm 45), .inl (cy 1, 600, .inl c_result_32)), ((hm 41), .inl (cy 1, 240, .inl c_round))]) H → va_D A ([(h0, .inr (12, zmo hm c_thrown c_state c_test c_words c_ill c_before c_inRow c_first c_inWindow c_same c_made c_requests c_total c_secrets c_rounds c_high_36 c_low_37 r_10 r_11)), ((hm 43), .inl (cy 1, 16, .inl c_block_38)), ((hm 46), .inl (cy 1, 512, .inl c_body_22)), ((hm 39), .inl (cy 1, 256, .inl c_box)), ((hm 6), .inl (cy 1, 512, .inl c_buffer)), ((hm 44), .inl (cy 1, 16, .inl c_other_39)), ((hm 45), .inl (cy 1, 600, .inl c_result_32)), ((hm 41), .inl (cy 1, 240, .inl c_round))]) → va_S A s.heap H locs → lv_has ls 16 [(0, .ref h0), (1, .int p1), (2, .int p2), (3, .int p3), (5, .int v_1), (6, .int x_3), (7, .long x_41), (9, .long x_43)] → K_44 () = some (r_, c_high', c_keyHigh', c_keyLow', c_low', c_block', c_body', c_buffer', c_other', c_result') → GW H locs (F0 m 425 ls []) := by
                clear hf hl hP hD hS
                intro  H locs ls hP hD hS hl hf
                rw [eK_44] at hf
                clear eK_44
                refine hFr _ _ _ ?_
                refine lv_iconst (pc := 425) (v := (0 : Int32)) hx hb (zdt_at zt_X10_galois_3 44 rfl) (by decide) ?_
                refine lv_istore (pc := 426) (lv' := [(11, .int (0 : Int32)), (0, .ref h0), (1, .int p1), (2, .int p2), (3, .int p3), (5, .int v_1), (6, .int x_3), (7, .long x_41), (9, .long x_43)]) hx hb (zdt_at zt_X10_galois_3 45 rfl) hl (by decide) rfl ?_
                clear hl
                intro ls hl
                replace hf := zj_s hf
                obtain ⟨K_52, eK_52, hf⟩ := hf
                have kK_52 : ∀ (c_block_49 : Nat → Int32) (c_buffer_50 : Nat → Int32) (c_other_51 : Nat → Int32) (H : Heap) (locs : List Loc) (ls : Array Slot), va_P D vwCl ([(h0, .inr (12, zmo hm c_thrown c_state c_test c_words c_ill c_before c_inRow c_first c_inWindow c_same c_made c_requests c_total c_secrets c_rounds c_high_36 c_low_37 r_10 r_11)), ((hm 43), .inl (cy 1, 16, .inl c_block_49)), ((hm 46), .inl (cy 1, 512, .inl c_body_22)), ((hm 39), .inl (cy 1, 256, .inl c_box)), ((hm 6), .inl (cy 1, 512, .inl c_buffer_50)), ((hm 44), .inl (cy 1, 16, .inl c_other_51)), ((hm 45), .inl (cy 1, 600, .inl c_result_32)), ((hm 41), .inl (cy 1, 240, .inl c_round))]) H → va_D A ([(h0, .inr (12, zmo hm c_thrown c_state c_test c_words c_ill c_before c_inRow c_first c_inWindow c_same c_made c_requests c_total c_secrets c_rounds c_high_36 c_low_37 r_10 r_11)), ((hm 43), .inl (cy 1, 16, .inl c_block_49)), ((hm 46), .inl (cy 1, 512, .inl c_body_22)), ((hm 39), .inl (cy 1, 256, .inl c_box)), ((hm 6), .inl (cy 1, 512, .inl c_buffer_50)), ((hm 44), .inl (cy 1, 16, .inl c_other_51)), ((hm 45), .inl (cy 1, 600, .inl c_result_32)), ((hm 41), .inl (cy 1, 240, .inl c_round))]) → va_S A s.heap H locs → lv_has ls 16 [(0, .ref h0), (1, .int p1), (3, .int p3), (5, .int v_1), (6, .int x_3), (7, .long x_41), (9, .long x_43)] → K_52 c_block_49 c_buffer_50 c_other_51 = some (r_, c_high', c_keyHigh', c_keyLow', c_low', c_block', c_body', c_buffer', c_other', c_result') → GW H locs (F0 m 492 ls []) := by
                  clear hf hl hP hD hS
                  intro c_block_49 c_buffer_50 c_other_51 H locs ls hP hD hS hl hf
                  rw [eK_52] at hf
                  clear eK_52
                  refine hFr _ _ _ ?_
                  refine lv_iconst (pc := 492) (v := (0 : Int32)) hx hb (zdt_at zt_X10_galois_4 18 rfl) (by decide) ?_
                  refine lv_istore (pc := 493) (lv' := [(11, .int (0 : Int32)), (0, .ref h0), (1, .int p1), (3, .int p3), (5, .int v_1), (6, .int x_3), (7, .long x_41), (9, .long x_43)]) hx hb (zdt_at zt_X10_galois_4 19 rfl) hl (by decide) rfl ?_
                  clear hl
                  intro ls hl
                  replace hf := zj_s hf
                  obtain ⟨K_56, eK_56, hf⟩ := hf
                  have kK_56 : ∀ (c_buffer_55 : Nat → Int32) (H : Heap) (locs : List Loc) (ls : Array Slot), va_P D vwCl ([(h0, .inr (12, zmo hm c_thrown c_state c_test c_words c_ill c_before c_inRow c_first c_inWindow c_same c_made c_requests c_total c_secrets c_rounds c_high_36 c_low_37 r_10 r_11)), ((hm 43), .inl (cy 1, 16, .inl c_block_49)), ((hm 46), .inl (cy 1, 512, .inl c_body_22)), ((hm 39), .inl (cy 1, 256, .inl c_box)), ((hm 6), .inl (cy 1, 512, .inl c_buffer_55)), ((hm 44), .inl (cy 1, 16, .inl c_other_51)), ((hm 45), .inl (cy 1, 600, .inl c_result_32)), ((hm 41), .inl (cy 1, 240, .inl c_round))]) H → va_D A ([(h0, .inr (12, zmo hm c_thrown c_state c_test c_words c_ill c_before c_inRow c_first c_inWindow c_same c_made c_requests c_total c_secrets c_rounds c_high_36 c_low_37 r_10 r_11)), ((hm 43), .inl (cy 1, 16, .inl c_block_49)), ((hm 46), .inl (cy 1, 512, .inl c_body_22)), ((hm 39), .inl (cy 1, 256, .inl c_box)), ((hm 6), .inl (cy 1, 512, .inl c_buffer_55)), ((hm 44), .inl (cy 1, 16, .inl c_other_51)), ((hm 45), .inl (cy 1, 600, .inl c_result_32)), ((hm 41), .inl (cy 1, 240, .inl c_round))]) → va_S A s.heap H locs → lv_has ls 16 [(1, .int p1), (3, .int p3)] → K_56 c_buffer_55 = some (r_, c_high', c_keyHigh', c_keyLow', c_low', c_block', c_body', c_buffer', c_other', c_result') → GW H locs (F0 m 573 ls []) := by
                    clear hf hl hP hD hS
                    intro c_buffer_55 H locs ls hP hD hS hl hf
                    rw [eK_56] at hf
                    clear eK_56
                    refine hFr _ _ _ ?_
                    refine lv_iload_n (pc := 573) hx hb (zdt_at zt_X10_galois_5 1 rfl) rfl (lv_at hl 0 rfl) ?_
                    refine lv_if_eq (pc := 574) (tgt := 584) hx hb (zdt_at zt_X10_galois_5 2 rfl) (by decide) (fun cn_ => ?t_57) (fun cn_ => ?f_58)
                    case t_57 =>
                      replace hf := zt_s cn_ hf
                      clear cn_
                      refine lv_iload_n (pc := 584) hx hb (zdt_at zt_X10_galois_5 7 rfl) rfl (lv_at hl 1 rfl) ?_
                      refine lv_bipush (pc := 585) (v := (16 : Int32)) hx hb (zdt_at zt_X10_galois_5 8 rfl) (by decide) ?_
                      refine lv_isub (pc := 587) hx hb (zdt_at zt_X10_galois_5 9 rfl) ?_
                      cases hf
                      exact W.iret (pc := 588) hx hb hr (fun t ht hW => ⟨rfl, ⟨by rw [ht]; exact hP, hD⟩, hS.F ht⟩) hS.2.2 (zdt_at zt_X10_galois_5 10 rfl)
                    replace hf := ze_s cn_ hf
                    clear cn_
                    refine lv_iload_n (pc := 577) hx hb (zdt_at zt_X10_galois_5 3 rfl) rfl (lv_at hl 1 rfl) ?_
                    refine lv_bipush (pc := 578) (v := (16 : Int32)) hx hb (zdt_at zt_X10_galois_5 4 rfl) (by decide) ?_
                    refine lv_iadd (pc := 580) hx hb (zdt_at zt_X10_galois_5 5 rfl) ?_
                    refine lv_goto (pc := 581) (tgt := 588) hx hb (zdt_at zt_X10_galois_5 6 rfl) (by decide) ?_
                    cases hf
                    exact W.iret (pc := 588) hx hb hr (fun t ht hW => ⟨rfl, ⟨by rw [ht]; exact hP, hD⟩, hS.F ht⟩) hS.2.2 (zdt_at zt_X10_galois_5 10 rfl)
                  clear eK_56
                  refine hTo _ _ _ (zl_go (fun z => match z with | (i_53, c_buffer_54) => ∀ (H : Heap) (locs : List Loc) (ls : Array Slot), va_P D vwCl ([(h0, .inr (12, zmo hm c_thrown c_state c_test c_words c_ill c_before c_inRow c_first c_inWindow c_same c_made c_requests c_total c_secrets c_rounds c_high_36 c_low_37 r_10 r_11)), ((hm 43), .inl (cy 1, 16, .inl c_block_49)), ((hm 46), .inl (cy 1, 512, .inl c_body_22)), ((hm 39), .inl (cy 1, 256, .inl c_box)), ((hm 6), .inl (cy 1, 512, .inl c_buffer_54)), ((hm 44), .inl (cy 1, 16, .inl c_other_51)), ((hm 45), .inl (cy 1, 600, .inl c_result_32)), ((hm 41), .inl (cy 1, 240, .inl c_round))]) H → va_D A ([(h0, .inr (12, zmo hm c_thrown c_state c_test c_words c_ill c_before c_inRow c_first c_inWindow c_same c_made c_requests c_total c_secrets c_rounds c_high_36 c_low_37 r_10 r_11)), ((hm 43), .inl (cy 1, 16, .inl c_block_49)), ((hm 46), .inl (cy 1, 512, .inl c_body_22)), ((hm 39), .inl (cy 1, 256, .inl c_box)), ((hm 6), .inl (cy 1, 512, .inl c_buffer_54)), ((hm 44), .inl (cy 1, 16, .inl c_other_51)), ((hm 45), .inl (cy 1, 600, .inl c_result_32)), ((hm 41), .inl (cy 1, 240, .inl c_round))]) → va_S A s.heap H locs → lv_has ls 16 [(0, .ref h0), (1, .int p1), (3, .int p3), (5, .int v_1), (6, .int x_3), (7, .long x_41), (9, .long x_43), (11, .int i_53)] → GW H locs (F0 m 495 ls [])) hf ?_ H locs ls hP hD hS (lv_sub hl [1, 2, 3, 4, 5, 6, 7, 0] rfl))
                  clear hf hl hP hD hS
                  intro self_59 ihself_59 z hf
                  obtain ⟨i_53, c_buffer_54⟩ := z
                  intro H locs ls hP hD hS hl
                  refine hFr _ _ _ ?_
                  unfold b_X10_galois_495 at hf
                  refine lv_iload (pc := 495) hx hb (zdt_at zt_X10_galois_4 20 rfl) (lv_at hl 7 rfl) ?_
                  refine lv_bipush (pc := 497) (v := (8 : Int32)) hx hb (zdt_at zt_X10_galois_4 21 rfl) (by decide) ?_
                  refine lv_icmp_ge (pc := 499) (tgt := 573) hx hb (zdt_at zt_X10_galois_4 22 rfl) (by decide) (fun cn_ => ?t_60) (fun cn_ => ?f_61)
                  case t_60 =>
                    replace hf := zt_s cn_ hf
                    clear cn_
                    exact hTo _ _ _ (kK_56 _ H locs ls hP hD hS (lv_sub hl [1, 2] rfl) hf)
                  replace hf := ze_s cn_ hf
                  clear cn_
                  refine lv_iload_n (pc := 502) hx hb (zdt_at zt_X10_galois_4 23 rfl) rfl (lv_at hl 1 rfl) ?_
                  refine lv_if_eq (pc := 503) (tgt := 573) hx hb (zdt_at zt_X10_galois_4 24 rfl) (by decide) (fun cn_ => ?t_62) (fun cn_ => ?f_63)
                  case t_62 =>
                    replace hf := zt_s cn_ hf
                    clear cn_
                    exact hTo _ _ _ (kK_56 _ H locs ls hP hD hS (lv_sub hl [1, 2] rfl) hf)
                  replace hf := ze_s cn_ hf
                  clear cn_
                  refine lv_aload_n (pc := 506) hx hb (zdt_at zt_X10_galois_4 25 rfl) rfl (lv_at hl 0 rfl) ?_
                  refine va_get (pc := 507) (D := D) (ci := 12) (v := .ref (hm 6)) (C := RX10) (T := TX10) (N := 52) hx hb hts hcX10 hown hK hP 0 rfl rfl 6 (by decide) hw5 (fun _ h9 => h9) rfl (zdt_at zt_X10_galois_4 26 rfl) ?_
                  refine lv_iload (pc := 510) hx hb (zdt_at zt_X10_galois_4 27 rfl) (lv_at hl 4 rfl) ?_
                  refine lv_iload (pc := 512) hx hb (zdt_at zt_X10_galois_4 28 rfl) (lv_at hl 3 rfl) ?_
                  refine lv_iadd (pc := 514) hx hb (zdt_at zt_X10_galois_4 29 rfl) ?_
                  refine lv_iload (pc := 515) hx hb (zdt_at zt_X10_galois_4 30 rfl) (lv_at hl 7 rfl) ?_
                  refine lv_iadd (pc := 517) hx hb (zdt_at zt_X10_galois_4 31 rfl) ?_
                  refine lv_lload (pc := 518) hx hb (zdt_at zt_X10_galois_4 32 rfl) (lv_at hl 5 rfl) ?_
                  refine lv_bipush (pc := 520) (v := (56 : Int32)) hx hb (zdt_at zt_X10_galois_4 33 rfl) (by decide) ?_
                  refine lv_bipush (pc := 522) (v := (8 : Int32)) hx hb (zdt_at zt_X10_galois_4 34 rfl) (by decide) ?_
                  refine lv_iload (pc := 524) hx hb (zdt_at zt_X10_galois_4 35 rfl) (lv_at hl 7 rfl) ?_
                  refine lv_imul (pc := 526) hx hb (zdt_at zt_X10_galois_4 36 rfl) ?_
                  refine lv_isub (pc := 527) hx hb (zdt_at zt_X10_galois_4 37 rfl) ?_
                  refine lv_lshr (pc := 528) hx hb (zdt_at zt_X10_galois_4 38 rfl) rfl ?_
                  refine lv_ldc2 (pc := 529) hx hb hown hw6 (zdt_at zt_X10_galois_4 39 rfl) ?_
                  refine lv_land (pc := 532) hx hb (zdt_at zt_X10_galois_4 40 rfl) ?_
                  refine lv_l2i (pc := 533) hx hb (zdt_at zt_X10_galois_4 41 rfl) rfl ?_
                  replace hf := zk_s hf
                  refine va_iast (pc := 534) hx hb hK hP hD hS 4 1 rfl rfl hf.1 (zdt_at zt_X10_galois_4 42 rfl) ?_
                  replace hf := hf.2
                  clear hP hD hS
                  intro H locs hP hD hS
                  obtain ⟨c_buffer_64, e_⟩ : ∃ q : Nat → Int32, q = (upd c_buffer_54 ((x_3 + v_1) + i_53).toNatClampNeg (((x_41 >>> (((56 : Int32) - ((8 : Int32) * i_53)).toInt64 &&& 63)) &&& (255 : Int64)).toInt32)) := ⟨_, rfl⟩
                  replace hf := zn_s hf e_
                  replace hP : va_P D vwCl ([(h0, .inr (12, zmo hm c_thrown c_state c_test c_words c_ill c_before c_inRow c_first c_inWindow c_same c_made c_requests c_total c_secrets c_rounds c_high_36 c_low_37 r_10 r_11)), ((hm 43), .inl (cy 1, 16, .inl c_block_49)), ((hm 46), .inl (cy 1, 512, .inl c_body_22)), ((hm 39), .inl (cy 1, 256, .inl c_box)), ((hm 6), .inl (cy 1, 512, .inl c_buffer_64)), ((hm 44), .inl (cy 1, 16, .inl c_other_51)), ((hm 45), .inl (cy 1, 600, .inl c_result_32)), ((hm 41), .inl (cy 1, 240, .inl c_round))]) H := by rw [e_]; exact hP
                  replace hD : va_D A ([(h0, .inr (12, zmo hm c_thrown c_state c_test c_words c_ill c_before c_inRow c_first c_inWindow c_same c_made c_requests c_total c_secrets c_rounds c_high_36 c_low_37 r_10 r_11)), ((hm 43), .inl (cy 1, 16, .inl c_block_49)), ((hm 46), .inl (cy 1, 512, .inl c_body_22)), ((hm 39), .inl (cy 1, 256, .inl c_box)), ((hm 6), .inl (cy 1, 512, .inl c_buffer_64)), ((hm 44), .inl (cy 1, 16, .inl c_other_51)), ((hm 45), .inl (cy 1, 600, .inl c_result_32)), ((hm 41), .inl (cy 1, 240, .inl c_round))]) := by rw [e_]; exact hD
                  clear e_
                  refine lv_aload_n (pc := 535) hx hb (zdt_at zt_X10_galois_4 43 rfl) rfl (lv_at hl 0 rfl) ?_
                  refine va_get (pc := 536) (D := D) (ci := 12) (v := .ref (hm 6)) (C := RX10) (T := TX10) (N := 52) hx hb hts hcX10 hown hK hP 0 rfl rfl 6 (by decide) hw5 (fun _ h9 => h9) rfl (zdt_at zt_X10_galois_4 44 rfl) ?_
                  refine lv_iload (pc := 539) hx hb (zdt_at zt_X10_galois_4 45 rfl) (lv_at hl 4 rfl) ?_
                  refine lv_iload (pc := 541) hx hb (zdt_at zt_X10_galois_4 46 rfl) (lv_at hl 3 rfl) ?_
                  refine lv_iadd (pc := 543) hx hb (zdt_at zt_X10_galois_4 47 rfl) ?_
                  refine lv_bipush (pc := 544) (v := (8 : Int32)) hx hb (zdt_at zt_X10_galois_4 48 rfl) (by decide) ?_
                  refine lv_iadd (pc := 546) hx hb (zdt_at zt_X10_galois_4 49 rfl) ?_
                  refine lv_iload (pc := 547) hx hb (zdt_at zt_X10_galois_4 50 rfl) (lv_at hl 7 rfl) ?_
                  refine lv_iadd (pc := 549) hx hb (zdt_at zt_X10_galois_4 51 rfl) ?_
                  refine lv_lload (pc := 550) hx hb (zdt_at zt_X10_galois_4 52 rfl) (lv_at hl 6 rfl) ?_
                  refine lv_bipush (pc := 552) (v := (56 : Int32)) hx hb (zdt_at zt_X10_galois_4 53 rfl) (by decide) ?_
                  refine lv_bipush (pc := 554) (v := (8 : Int32)) hx hb (zdt_at zt_X10_galois_4 54 rfl) (by decide) ?_
                  refine lv_iload (pc := 556) hx hb (zdt_at zt_X10_galois_4 55 rfl) (lv_at hl 7 rfl) ?_
                  refine lv_imul (pc := 558) hx hb (zdt_at zt_X10_galois_4 56 rfl) ?_
                  refine lv_isub (pc := 559) hx hb (zdt_at zt_X10_galois_4 57 rfl) ?_
                  refine lv_lshr (pc := 560) hx hb (zdt_at zt_X10_galois_4 58 rfl) rfl ?_
                  refine lv_ldc2 (pc := 561) hx hb hown hw6 (zdt_at zt_X10_galois_4 59 rfl) ?_
                  refine lv_land (pc := 564) hx hb (zdt_at zt_X10_galois_4 60 rfl) ?_
                  refine lv_l2i (pc := 565) hx hb (zdt_at zt_X10_galois_4 61 rfl) rfl ?_
                  replace hf := zk_s hf
                  refine va_iast (pc := 566) hx hb hK hP hD hS 4 1 rfl rfl hf.1 (zdt_at zt_X10_galois_4 62 rfl) ?_
                  replace hf := hf.2
                  clear hP hD hS
                  intro H locs hP hD hS
                  obtain ⟨c_buffer_65, e_⟩ : ∃ q : Nat → Int32, q = (upd c_buffer_64 (((x_3 + v_1) + (8 : Int32)) + i_53).toNatClampNeg (((x_43 >>> (((56 : Int32) - ((8 : Int32) * i_53)).toInt64 &&& 63)) &&& (255 : Int64)).toInt32)) := ⟨_, rfl⟩
                  replace hf := zn_s hf e_
                  replace hP : va_P D vwCl ([(h0, .inr (12, zmo hm c_thrown c_state c_test c_words c_ill c_before c_inRow c_first c_inWindow c_same c_made c_requests c_total c_secrets c_rounds c_high_36 c_low_37 r_10 r_11)), ((hm 43), .inl (cy 1, 16, .inl c_block_49)), ((hm 46), .inl (cy 1, 512, .inl c_body_22)), ((hm 39), .inl (cy 1, 256, .inl c_box)), ((hm 6), .inl (cy 1, 512, .inl c_buffer_65)), ((hm 44), .inl (cy 1, 16, .inl c_other_51)), ((hm 45), .inl (cy 1, 600, .inl c_result_32)), ((hm 41), .inl (cy 1, 240, .inl c_round))]) H := by rw [e_]; exact hP
                  replace hD : va_D A ([(h0, .inr (12, zmo hm c_thrown c_state c_test c_words c_ill c_before c_inRow c_first c_inWindow c_same c_made c_requests c_total c_secrets c_rounds c_high_36 c_low_37 r_10 r_11)), ((hm 43), .inl (cy 1, 16, .inl c_block_49)), ((hm 46), .inl (cy 1, 512, .inl c_body_22)), ((hm 39), .inl (cy 1, 256, .inl c_box)), ((hm 6), .inl (cy 1, 512, .inl c_buffer_65)), ((hm 44), .inl (cy 1, 16, .inl c_other_51)), ((hm 45), .inl (cy 1, 600, .inl c_result_32)), ((hm 41), .inl (cy 1, 240, .inl c_round))]) := by rw [e_]; exact hD
                  clear e_
                  refine lv_iinc (pc := 567) (v := (i_53 + (1 : Int32))) (lv' := [(11, .int (i_53 + (1 : Int32))), (0, .ref h0), (1, .int p1), (3, .int p3), (5, .int v_1), (6, .int x_3), (7, .long x_41), (9, .long x_43)]) hx hb (zdt_at zt_X10_galois_4 63 rfl) hl (k := 7) rfl rfl (by decide) rfl ?_
                  clear hl
                  intro ls hl
                  refine lv_goto (pc := 570) (tgt := 495) hx hb (zdt_at zt_X10_galois_5 0 rfl) (by decide) ?_
                  exact hTo _ _ _ (ihself_59 _ hf H locs ls hP hD hS (lv_sub hl [1, 2, 3, 4, 5, 6, 7, 0] rfl))
                clear eK_52
                refine hTo _ _ _ (zl_go (fun z => match z with | (i_45, c_block_46, c_buffer_47, c_other_48) => ∀ (H : Heap) (locs : List Loc) (ls : Array Slot), va_P D vwCl ([(h0, .inr (12, zmo hm c_thrown c_state c_test c_words c_ill c_before c_inRow c_first c_inWindow c_same c_made c_requests c_total c_secrets c_rounds c_high_36 c_low_37 r_10 r_11)), ((hm 43), .inl (cy 1, 16, .inl c_block_46)), ((hm 46), .inl (cy 1, 512, .inl c_body_22)), ((hm 39), .inl (cy 1, 256, .inl c_box)), ((hm 6), .inl (cy 1, 512, .inl c_buffer_47)), ((hm 44), .inl (cy 1, 16, .inl c_other_48)), ((hm 45), .inl (cy 1, 600, .inl c_result_32)), ((hm 41), .inl (cy 1, 240, .inl c_round))]) H → va_D A ([(h0, .inr (12, zmo hm c_thrown c_state c_test c_words c_ill c_before c_inRow c_first c_inWindow c_same c_made c_requests c_total c_secrets c_rounds c_high_36 c_low_37 r_10 r_11)), ((hm 43), .inl (cy 1, 16, .inl c_block_46)), ((hm 46), .inl (cy 1, 512, .inl c_body_22)), ((hm 39), .inl (cy 1, 256, .inl c_box)), ((hm 6), .inl (cy 1, 512, .inl c_buffer_47)), ((hm 44), .inl (cy 1, 16, .inl c_other_48)), ((hm 45), .inl (cy 1, 600, .inl c_result_32)), ((hm 41), .inl (cy 1, 240, .inl c_round))]) → va_S A s.heap H locs → lv_has ls 16 [(0, .ref h0), (1, .int p1), (2, .int p2), (3, .int p3), (5, .int v_1), (6, .int x_3), (7, .long x_41), (9, .long x_43), (11, .int i_45)] → GW H locs (F0 m 428 ls [])) hf ?_ H locs ls hP hD hS (lv_sub hl [1, 2, 3, 4, 5, 6, 7, 8, 0] rfl))
                clear hf hl hP hD hS
                intro self_66 ihself_66 z hf
                obtain ⟨i_45, c_block_46, c_buffer_47, c_other_48⟩ := z
                intro H locs ls hP hD hS hl
                refine hFr _ _ _ ?_
                unfold b_X10_galois_428 at hf
                refine lv_iload (pc := 428) hx hb (zdt_at zt_X10_galois_3 46 rfl) (lv_at hl 8 rfl) ?_
                refine lv_iload (pc := 430) hx hb (zdt_at zt_X10_galois_3 47 rfl) (lv_at hl 4 rfl) ?_
                refine lv_icmp_ge (pc := 432) (tgt := 492) hx hb (zdt_at zt_X10_galois_3 48 rfl) (by decide) (fun cn_ => ?t_67) (fun cn_ => ?f_68)
                case t_67 =>
                  replace hf := zt_s cn_ hf
                  clear cn_
                  exact hTo _ _ _ (kK_52 _ _ _ H locs ls hP hD hS (lv_sub hl [0, 1, 3, 4, 5, 6, 7] rfl) hf)
                replace hf := ze_s cn_ hf
                clear cn_
                refine lv_iload (pc := 435) hx hb (zdt_at zt_X10_galois_3 49 rfl) (lv_at hl 8 rfl) ?_
                refine lv_bipush (pc := 437) (v := (16 : Int32)) hx hb (zdt_at zt_X10_galois_3 50 rfl) (by decide) ?_
                replace hf := zk_s hf
                refine lv_irem (pc := 439) hx hb (zdt_at zt_X10_galois_3 51 rfl) hf.1 ?_
                replace hf := hf.2
                replace hf := zj_s hf
                obtain ⟨K_71, eK_71, hf⟩ := hf
                have kK_71 : ∀ (c_block_69 : Nat → Int32) (c_other_70 : Nat → Int32) (H : Heap) (locs : List Loc) (ls : Array Slot), va_P D vwCl ([(h0, .inr (12, zmo hm c_thrown c_state c_test c_words c_ill c_before c_inRow c_first c_inWindow c_same c_made c_requests c_total c_secrets c_rounds c_high_36 c_low_37 r_10 r_11)), ((hm 43), .inl (cy 1, 16, .inl c_block_69)), ((hm 46), .inl (cy 1, 512, .inl c_body_22)), ((hm 39), .inl (cy 1, 256, .inl c_box)), ((hm 6), .inl (cy 1, 512, .inl c_buffer_47)), ((hm 44), .inl (cy 1, 16, .inl c_other_70)), ((hm 45), .inl (cy 1, 600, .inl c_result_32)), ((hm 41), .inl (cy 1, 240, .inl c_round))]) H → va_D A ([(h0, .inr (12, zmo hm c_thrown c_state c_test c_words c_ill c_before c_inRow c_first c_inWindow c_same c_made c_requests c_total c_secrets c_rounds c_high_36 c_low_37 r_10 r_11)), ((hm 43), .inl (cy 1, 16, .inl c_block_69)), ((hm 46), .inl (cy 1, 512, .inl c_body_22)), ((hm 39), .inl (cy 1, 256, .inl c_box)), ((hm 6), .inl (cy 1, 512, .inl c_buffer_47)), ((hm 44), .inl (cy 1, 16, .inl c_other_70)), ((hm 45), .inl (cy 1, 600, .inl c_result_32)), ((hm 41), .inl (cy 1, 240, .inl c_round))]) → va_S A s.heap H locs → lv_has ls 16 [(0, .ref h0), (1, .int p1), (2, .int p2), (3, .int p3), (5, .int v_1), (6, .int x_3), (7, .long x_41), (9, .long x_43), (11, .int i_45)] → K_71 c_block_69 c_other_70 = some (r_, c_high', c_keyHigh', c_keyLow', c_low', c_block', c_body', c_buffer', c_other', c_result') → GW H locs (F0 m 455 ls []) := by
                  clear hf hl hP hD hS
                  intro c_block_69 c_other_70 H locs ls hP hD hS hl hf
                  rw [eK_71] at hf
                  clear eK_71
                  refine hFr _ _ _ ?_
                  refine lv_aload_n (pc := 455) hx hb (zdt_at zt_X10_galois_3 61 rfl) rfl (lv_at hl 0 rfl) ?_
                  refine va_get (pc := 456) (D := D) (ci := 12) (v := .ref (hm 6)) (C := RX10) (T := TX10) (N := 52) hx hb hts hcX10 hown hK hP 0 rfl rfl 6 (by decide) hw5 (fun _ h9 => h9) rfl (zdt_at zt_X10_galois_3 62 rfl) ?_
                  refine lv_iload (pc := 459) hx hb (zdt_at zt_X10_galois_3 63 rfl) (lv_at hl 5 rfl) ?_
                  refine lv_iload (pc := 461) hx hb (zdt_at zt_X10_galois_4 0 rfl) (lv_at hl 8 rfl) ?_
                  refine lv_iadd (pc := 463) hx hb (zdt_at zt_X10_galois_4 1 rfl) ?_
                  refine lv_aload_n (pc := 464) hx hb (zdt_at zt_X10_galois_4 2 rfl) rfl (lv_at hl 0 rfl) ?_
                  refine va_get (pc := 465) (D := D) (ci := 12) (v := .ref (hm 6)) (C := RX10) (T := TX10) (N := 52) hx hb hts hcX10 hown hK hP 0 rfl rfl 6 (by decide) hw5 (fun _ h9 => h9) rfl (zdt_at zt_X10_galois_4 3 rfl) ?_
                  refine lv_iload (pc := 468) hx hb (zdt_at zt_X10_galois_4 4 rfl) (lv_at hl 5 rfl) ?_
                  refine lv_iload (pc := 470) hx hb (zdt_at zt_X10_galois_4 5 rfl) (lv_at hl 8 rfl) ?_
                  refine lv_iadd (pc := 472) hx hb (zdt_at zt_X10_galois_4 6 rfl) ?_
                  replace hf := zk_s hf
                  refine va_iald (pc := 473) hx hb hK hP 4 1 rfl rfl hf.1 (zdt_at zt_X10_galois_4 7 rfl) ?_
                  replace hf := hf.2
                  refine lv_aload_n (pc := 474) hx hb (zdt_at zt_X10_galois_4 8 rfl) rfl (lv_at hl 0 rfl) ?_
                  refine va_get (pc := 475) (D := D) (ci := 12) (v := .ref (hm 43)) (C := RX10) (T := TX10) (N := 52) hx hb hts hcX10 hown hK hP 0 rfl rfl 43 (by decide) hw7 (fun _ h9 => h9) rfl (zdt_at zt_X10_galois_4 9 rfl) ?_
                  refine lv_iload (pc := 478) hx hb (zdt_at zt_X10_galois_4 10 rfl) (lv_at hl 8 rfl) ?_
                  refine lv_bipush (pc := 480) (v := (16 : Int32)) hx hb (zdt_at zt_X10_galois_4 11 rfl) (by decide) ?_
                  replace hf := zk_s hf
                  refine lv_irem (pc := 482) hx hb (zdt_at zt_X10_galois_4 12 rfl) hf.1 ?_
                  replace hf := hf.2
                  replace hf := zk_s hf
                  refine va_iald (pc := 483) hx hb hK hP 1 1 rfl rfl hf.1 (zdt_at zt_X10_galois_4 13 rfl) ?_
                  replace hf := hf.2
                  refine lv_ixor (pc := 484) hx hb (zdt_at zt_X10_galois_4 14 rfl) ?_
                  replace hf := zk_s hf
                  refine va_iast (pc := 485) hx hb hK hP hD hS 4 1 rfl rfl hf.1 (zdt_at zt_X10_galois_4 15 rfl) ?_
                  replace hf := hf.2
                  clear hP hD hS
                  intro H locs hP hD hS
                  obtain ⟨c_buffer_72, e_⟩ : ∃ q : Nat → Int32, q = (upd c_buffer_47 (x_3 + i_45).toNatClampNeg ((c_buffer_47 (x_3 + i_45).toNatClampNeg) ^^^ (c_block_69 (i_45 - i_45 / (16 : Int32) * (16 : Int32)).toNatClampNeg))) := ⟨_, rfl⟩
                  replace hf := zn_s hf e_
                  replace hP : va_P D vwCl ([(h0, .inr (12, zmo hm c_thrown c_state c_test c_words c_ill c_before c_inRow c_first c_inWindow c_same c_made c_requests c_total c_secrets c_rounds c_high_36 c_low_37 r_10 r_11)), ((hm 43), .inl (cy 1, 16, .inl c_block_69)), ((hm 46), .inl (cy 1, 512, .inl c_body_22)), ((hm 39), .inl (cy 1, 256, .inl c_box)), ((hm 6), .inl (cy 1, 512, .inl c_buffer_72)), ((hm 44), .inl (cy 1, 16, .inl c_other_70)), ((hm 45), .inl (cy 1, 600, .inl c_result_32)), ((hm 41), .inl (cy 1, 240, .inl c_round))]) H := by rw [e_]; exact hP
                  replace hD : va_D A ([(h0, .inr (12, zmo hm c_thrown c_state c_test c_words c_ill c_before c_inRow c_first c_inWindow c_same c_made c_requests c_total c_secrets c_rounds c_high_36 c_low_37 r_10 r_11)), ((hm 43), .inl (cy 1, 16, .inl c_block_69)), ((hm 46), .inl (cy 1, 512, .inl c_body_22)), ((hm 39), .inl (cy 1, 256, .inl c_box)), ((hm 6), .inl (cy 1, 512, .inl c_buffer_72)), ((hm 44), .inl (cy 1, 16, .inl c_other_70)), ((hm 45), .inl (cy 1, 600, .inl c_result_32)), ((hm 41), .inl (cy 1, 240, .inl c_round))]) := by rw [e_]; exact hD
                  clear e_
                  refine lv_iinc (pc := 486) (v := (i_45 + (1 : Int32))) (lv' := [(11, .int (i_45 + (1 : Int32))), (0, .ref h0), (1, .int p1), (2, .int p2), (3, .int p3), (5, .int v_1), (6, .int x_3), (7, .long x_41), (9, .long x_43)]) hx hb (zdt_at zt_X10_galois_4 16 rfl) hl (k := 8) rfl rfl (by decide) rfl ?_
                  clear hl
                  intro ls hl
                  refine lv_goto (pc := 489) (tgt := 428) hx hb (zdt_at zt_X10_galois_4 17 rfl) (by decide) ?_
                  exact hTo _ _ _ (ihself_66 _ hf H locs ls hP hD hS (lv_sub hl [1, 2, 3, 4, 5, 6, 7, 8, 0] rfl))
                clear eK_71
                refine lv_if_ne (pc := 440) (tgt := 455) hx hb (zdt_at zt_X10_galois_3 52 rfl) (by decide) (fun cn_ => ?t_73) (fun cn_ => ?f_74)
                case t_73 =>
                  replace hf := ze_s cn_ hf
                  clear cn_
                  exact hTo _ _ _ (kK_71 _ _ H locs ls hP hD hS (lv_sub hl [0, 1, 2, 3, 4, 5, 6, 7, 8] rfl) hf)
                replace hf := zt_s cn_ hf
                clear cn_
                refine lv_aload_n (pc := 443) hx hb (zdt_at zt_X10_galois_3 53 rfl) rfl (lv_at hl 0 rfl) ?_
                refine lv_iload_n (pc := 444) hx hb (zdt_at zt_X10_galois_3 54 rfl) rfl (lv_at hl 2 rfl) ?_
                refine lv_iconst (pc := 445) (v := (2 : Int32)) hx hb (zdt_at zt_X10_galois_3 55 rfl) (by decide) ?_
                refine lv_iload (pc := 446) hx hb (zdt_at zt_X10_galois_3 56 rfl) (lv_at hl 8 rfl) ?_
                refine lv_bipush (pc := 448) (v := (16 : Int32)) hx hb (zdt_at zt_X10_galois_3 57 rfl) (by decide) ?_
                replace hf := zk_s hf
                refine lv_idiv (pc := 450) hx hb (zdt_at zt_X10_galois_3 58 rfl) hf.1 ?_
                replace hf := hf.2
                refine lv_iadd (pc := 451) hx hb (zdt_at zt_X10_galois_3 59 rfl) ?_
                replace hf := zb_s hf
                obtain ⟨⟨c_block_75, c_other_76⟩, hc_, hf⟩ := hf
                refine zcn2 (pc := 452) (rv := none) (va_runV (As := [.int p2, .int ((2 : Int32) + (i_45 / (16 : Int32)))]) (rest := []) ⟨hx, hb, hml, hown, hts⟩ (c_X10_counterBlock l D cy tt H.size h0 hm p2 ((2 : Int32) + (i_45 / (16 : Int32))) c_rounds c_block_46 c_box c_buffer_47 c_other_48 c_round c_thrown c_state c_test c_words c_ill c_before c_inRow c_first c_inWindow c_same c_made c_requests c_total c_secrets c_high_36 c_low_37 r_10 r_11 c_block_75 c_other_76 hc_) (cwV 2 hts gX10_galois_X10_counterBlock rfl rfl rfl (by decide +kernel) ⟨Nat.le_of_ble_eq_true rfl, Nat.le_of_ble_eq_true rfl⟩) ⟨zblind, va_recv hK hP (ci := 12) (q0 := 0) rfl rfl, zpre hE hS (hP.sub [0, 1, 3, 4, 5, 7] rfl) (hD.sub [0, 1, 3, 4, 5, 7] (by decide) rfl) (va_free hD hS hA [0, 1, 3, 4, 5, 7] rfl)⟩ rfl rfl hl.1 rfl (lv_room (Nat.le_of_ble_eq_true rfl)) (zdt_at zt_X10_galois_3 60 rfl) ⟨Nat.zero_le _, Nat.zero_le _⟩) hS hP hD (va_free hD hS hA [0, 1, 3, 4, 5, 7] rfl) [0, 1, 3, 4, 5, 7] rfl (by decide) rfl ?_
                clear hP hD hS hc_
                intro H locs hP hD hS
                replace hP : va_P D vwCl ([(h0, .inr (12, zmo hm c_thrown c_state c_test c_words c_ill c_before c_inRow c_first c_inWindow c_same c_made c_requests c_total c_secrets c_rounds c_high_36 c_low_37 r_10 r_11)), ((hm 43), .inl (cy 1, 16, .inl c_block_75)), ((hm 46), .inl (cy 1, 512, .inl c_body_22)), ((hm 39), .inl (cy 1, 256, .inl c_box)), ((hm 6), .inl (cy 1, 512, .inl c_buffer_47)), ((hm 44), .inl (cy 1, 16, .inl c_other_76)), ((hm 45), .inl (cy 1, 600, .inl c_result_32)), ((hm 41), .inl (cy 1, 240, .inl c_round))]) H := hP
                replace hD : va_D A ([(h0, .inr (12, zmo hm c_thrown c_state c_test c_words c_ill c_before c_inRow c_first c_inWindow c_same c_made c_requests c_total c_secrets c_rounds c_high_36 c_low_37 r_10 r_11)), ((hm 43), .inl (cy 1, 16, .inl c_block_75)), ((hm 46), .inl (cy 1, 512, .inl c_body_22)), ((hm 39), .inl (cy 1, 256, .inl c_box)), ((hm 6), .inl (cy 1, 512, .inl c_buffer_47)), ((hm 44), .inl (cy 1, 16, .inl c_other_76)), ((hm 45), .inl (cy 1, 600, .inl c_result_32)), ((hm 41), .inl (cy 1, 240, .inl c_round))]) := hD
                refine W.eq (g2 := F0 m 455 ls []) rfl ?_
                exact hTo _ _ _ (kK_71 _ _ H locs ls hP hD hS (lv_sub hl [0, 1, 2, 3, 4, 5, 6, 7, 8] rfl) hf)
              clear eK_44
              refine lv_if_ne (pc := 334) (tgt := 425) hx hb (zdt_at zt_X10_galois_2 56 rfl) (by decide) (fun cn_ => ?t_77) (fun cn_ => ?f_78)
              case t_77 =>
                replace hf := ze_s cn_ hf
                clear cn_
                exact hTo _ _ _ (kK_44  H locs ls hP hD hS (lv_sub hl [2, 3, 4, 5, 7, 8, 1, 0] rfl) hf)
              replace hf := zt_s cn_ hf
              clear cn_
              refine lv_lconst (pc := 337) (v := (0 : Int64)) hx hb (zdt_at zt_X10_galois_2 57 rfl) (by decide) ?_
              refine lv_lstore (pc := 338) (lv' := [(11, .long (0 : Int64)), (9, .long x_43), (7, .long x_41), (0, .ref h0), (1, .int p1), (2, .int p2), (3, .int p3), (4, .int p4), (5, .int v_1), (6, .int x_3)]) hx hb (zdt_at zt_X10_galois_2 58 rfl) hl (by decide) rfl ?_
              clear hl
              intro ls hl
              refine lv_lconst (pc := 340) (v := (0 : Int64)) hx hb (zdt_at zt_X10_galois_2 59 rfl) (by decide) ?_
              refine lv_lstore (pc := 341) (lv' := [(13, .long (0 : Int64)), (11, .long (0 : Int64)), (9, .long x_43), (7, .long x_41), (0, .ref h0), (1, .int p1), (2, .int p2), (3, .int p3), (4, .int p4), (5, .int v_1), (6, .int x_3)]) hx hb (zdt_at zt_X10_galois_2 60 rfl) hl (by decide) rfl ?_
              clear hl
              intro ls hl
              refine lv_iconst (pc := 343) (v := (0 : Int32)) hx hb (zdt_at zt_X10_galois_2 61 rfl) (by decide) ?_
              refine lv_istore (pc := 344) (lv' := [(15, .int (0 : Int32)), (13, .long (0 : Int64)), (11, .long (0 : Int64)), (9, .long x_43), (7, .long x_41), (0, .ref h0), (1, .int p1), (2, .int p2), (3, .int p3), (4, .int p4), (5, .int v_1), (6, .int x_3)]) hx hb (zdt_at zt_X10_galois_2 62 rfl) hl (by decide) rfl ?_
              clear hl
              intro ls hl
              replace hf := zj_s hf
              obtain ⟨K_84, eK_84, hf⟩ := hf
              have kK_84 : ∀ (v_82 : Int64) (v_83 : Int64) (H : Heap) (locs : List Loc) (ls : Array Slot), va_P D vwCl ([(h0, .inr (12, zmo hm c_thrown c_state c_test c_words c_ill c_before c_inRow c_first c_inWindow c_same c_made c_requests c_total c_secrets c_rounds c_high_36 c_low_37 r_10 r_11)), ((hm 43), .inl (cy 1, 16, .inl c_block_38)), ((hm 46), .inl (cy 1, 512, .inl c_body_22)), ((hm 39), .inl (cy 1, 256, .inl c_box)), ((hm 6), .inl (cy 1, 512, .inl c_buffer)), ((hm 44), .inl (cy 1, 16, .inl c_other_39)), ((hm 45), .inl (cy 1, 600, .inl c_result_32)), ((hm 41), .inl (cy 1, 240, .inl c_round))]) H → va_D A ([(h0, .inr (12, zmo hm c_thrown c_state c_test c_words c_ill c_before c_inRow c_first c_inWindow c_same c_made c_requests c_total c_secrets c_rounds c_high_36 c_low_37 r_10 r_11)), ((hm 43), .inl (cy 1, 16, .inl c_block_38)), ((hm 46), .inl (cy 1, 512, .inl c_body_22)), ((hm 39), .inl (cy 1, 256, .inl c_box)), ((hm 6), .inl (cy 1, 512, .inl c_buffer)), ((hm 44), .inl (cy 1, 16, .inl c_other_39)), ((hm 45), .inl (cy 1, 600, .inl c_result_32)), ((hm 41), .inl (cy 1, 240, .inl c_round))]) → va_S A s.heap H locs → lv_has ls 16 [(0, .ref h0), (1, .int p1), (2, .int p2), (3, .int p3), (5, .int v_1), (6, .int x_3), (7, .long x_41), (9, .long x_43), (11, .long v_82), (13, .long v_83)] → K_84 v_82 v_83 = some (r_, c_high', c_keyHigh', c_keyLow', c_low', c_block', c_body', c_buffer', c_other', c_result') → GW H locs (F0 m 406 ls []) := by
                clear hf hl hP hD hS
                intro v_82 v_83 H locs ls hP hD hS hl hf
                rw [eK_84] at hf
                clear eK_84
                refine hFr _ _ _ ?_
                refine lv_lload (pc := 406) hx hb (zdt_at zt_X10_galois_3 34 rfl) (lv_at hl 8 rfl) ?_
                refine lv_lload (pc := 408) hx hb (zdt_at zt_X10_galois_3 35 rfl) (lv_at hl 6 rfl) ?_
                refine W.lcmp (pc := 410) hx hb (zdt_at zt_X10_galois_3 36 rfl) ?_
                refine lv_if_ne (pc := 411) (tgt := 422) hx hb (zdt_at zt_X10_galois_3 37 rfl) (by decide) (fun cn_ => ?t_85) (fun cn_ => ?f_86)
                case t_85 =>
                  replace hf := ze_s cn_ hf
                  clear cn_
                  refine lv_bipush (pc := 422) (v := (-9 : Int32)) hx hb (zdt_at zt_X10_galois_3 42 rfl) (by decide) ?_
                  cases hf
                  exact W.iret (pc := 424) hx hb hr (fun t ht hW => ⟨rfl, ⟨by rw [ht]; exact hP, hD⟩, hS.F ht⟩) hS.2.2 (zdt_at zt_X10_galois_3 43 rfl)
                replace hf := zt_s cn_ hf
                clear cn_
                refine lv_lload (pc := 414) hx hb (zdt_at zt_X10_galois_3 38 rfl) (lv_at hl 9 rfl) ?_
                refine lv_lload (pc := 416) hx hb (zdt_at zt_X10_galois_3 39 rfl) (lv_at hl 7 rfl) ?_
                refine W.lcmp (pc := 418) hx hb (zdt_at zt_X10_galois_3 40 rfl) ?_
                refine lv_if_eq (pc := 419) (tgt := 425) hx hb (zdt_at zt_X10_galois_3 41 rfl) (by decide) (fun cn_ => ?t_87) (fun cn_ => ?f_88)
                case t_87 =>
                  replace hf := zt_s cn_ hf
                  clear cn_
                  exact hTo _ _ _ (kK_44  H locs ls hP hD hS (lv_sub hl [0, 1, 2, 3, 4, 5, 6, 7] rfl) hf)
                replace hf := ze_s cn_ hf
                clear cn_
                refine lv_bipush (pc := 422) (v := (-9 : Int32)) hx hb (zdt_at zt_X10_galois_3 42 rfl) (by decide) ?_
                cases hf
                exact W.iret (pc := 424) hx hb hr (fun t ht hW => ⟨rfl, ⟨by rw [ht]; exact hP, hD⟩, hS.F ht⟩) hS.2.2 (zdt_at zt_X10_galois_3 43 rfl)
              clear eK_84
              refine hTo _ _ _ (zl_go (fun z => match z with | (i_79, i_80, i_81) => ∀ (H : Heap) (locs : List Loc) (ls : Array Slot), va_P D vwCl ([(h0, .inr (12, zmo hm c_thrown c_state c_test c_words c_ill c_before c_inRow c_first c_inWindow c_same c_made c_requests c_total c_secrets c_rounds c_high_36 c_low_37 r_10 r_11)), ((hm 43), .inl (cy 1, 16, .inl c_block_38)), ((hm 46), .inl (cy 1, 512, .inl c_body_22)), ((hm 39), .inl (cy 1, 256, .inl c_box)), ((hm 6), .inl (cy 1, 512, .inl c_buffer)), ((hm 44), .inl (cy 1, 16, .inl c_other_39)), ((hm 45), .inl (cy 1, 600, .inl c_result_32)), ((hm 41), .inl (cy 1, 240, .inl c_round))]) H → va_D A ([(h0, .inr (12, zmo hm c_thrown c_state c_test c_words c_ill c_before c_inRow c_first c_inWindow c_same c_made c_requests c_total c_secrets c_rounds c_high_36 c_low_37 r_10 r_11)), ((hm 43), .inl (cy 1, 16, .inl c_block_38)), ((hm 46), .inl (cy 1, 512, .inl c_body_22)), ((hm 39), .inl (cy 1, 256, .inl c_box)), ((hm 6), .inl (cy 1, 512, .inl c_buffer)), ((hm 44), .inl (cy 1, 16, .inl c_other_39)), ((hm 45), .inl (cy 1, 600, .inl c_result_32)), ((hm 41), .inl (cy 1, 240, .inl c_round))]) → va_S A s.heap H locs → lv_has ls 16 [(0, .ref h0), (1, .int p1), (2, .int p2), (3, .int p3), (5, .int v_1), (6, .int x_3), (7, .long x_41), (9, .long x_43), (11, .long i_79), (13, .long i_80), (15, .int i_81)] → GW H locs (F0 m 346 ls [])) hf ?_ H locs ls hP hD hS (lv_sub hl [5, 6, 7, 8, 10, 11, 4, 3, 2, 1, 0] rfl))
              clear hf hl hP hD hS
              intro self_89 ihself_89 z hf
              obtain ⟨i_79, i_80, i_81⟩ := z
              intro H locs ls hP hD hS hl
              refine hFr _ _ _ ?_
              unfold b_X10_galois_346 at hf
              refine lv_iload (pc := 346) hx hb (zdt_at zt_X10_galois_2 63 rfl) (lv_at hl 10 rfl) ?_
              refine lv_bipush (pc := 348) (v := (8 : Int32)) hx hb (zdt_at zt_X10_galois_3 0 rfl) (by decide) ?_
              refine lv_icmp_ge (pc := 350) (tgt := 406) hx hb (zdt_at zt_X10_galois_3 1 rfl) (by decide) (fun cn_ => ?t_90) (fun cn_ => ?f_91)
              case t_90 =>
                replace hf := zt_s cn_ hf
                clear cn_
                exact hTo _ _ _ (kK_84 _ _ H locs ls hP hD hS (lv_sub hl [0, 1, 2, 3, 4, 5, 6, 7, 8, 9] rfl) hf)
              replace hf := ze_s cn_ hf
              clear cn_
              refine lv_lload (pc := 353) hx hb (zdt_at zt_X10_galois_3 2 rfl) (lv_at hl 8 rfl) ?_
              refine lv_bipush (pc := 355) (v := (8 : Int32)) hx hb (zdt_at zt_X10_galois_3 3 rfl) (by decide) ?_
              refine lv_lshl (pc := 357) hx hb (zdt_at zt_X10_galois_3 4 rfl) rfl ?_
              refine lv_aload_n (pc := 358) hx hb (zdt_at zt_X10_galois_3 5 rfl) rfl (lv_at hl 0 rfl) ?_
              refine va_get (pc := 359) (D := D) (ci := 12) (v := .ref (hm 6)) (C := RX10) (T := TX10) (N := 52) hx hb hts hcX10 hown hK hP 0 rfl rfl 6 (by decide) hw5 (fun _ h9 => h9) rfl (zdt_at zt_X10_galois_3 6 rfl) ?_
              refine lv_iload (pc := 362) hx hb (zdt_at zt_X10_galois_3 7 rfl) (lv_at hl 5 rfl) ?_
              refine lv_iload (pc := 364) hx hb (zdt_at zt_X10_galois_3 8 rfl) (lv_at hl 4 rfl) ?_
              refine lv_iadd (pc := 366) hx hb (zdt_at zt_X10_galois_3 9 rfl) ?_
              refine lv_iload (pc := 367) hx hb (zdt_at zt_X10_galois_3 10 rfl) (lv_at hl 10 rfl) ?_
              refine lv_iadd (pc := 369) hx hb (zdt_at zt_X10_galois_3 11 rfl) ?_
              replace hf := zk_s hf
              refine va_iald (pc := 370) hx hb hK hP 4 1 rfl rfl hf.1 (zdt_at zt_X10_galois_3 12 rfl) ?_
              replace hf := hf.2
              refine lv_i2l (pc := 371) hx hb (zdt_at zt_X10_galois_3 13 rfl) rfl ?_
              refine lv_lor (pc := 372) hx hb (zdt_at zt_X10_galois_3 14 rfl) ?_
              refine lv_topl (fun x_92 e_ => ?_)
              replace hf := zn_s hf e_
              clear e_
              refine lv_lstore (pc := 373) (lv' := [(11, .long x_92), (0, .ref h0), (1, .int p1), (2, .int p2), (3, .int p3), (5, .int v_1), (6, .int x_3), (7, .long x_41), (9, .long x_43), (13, .long i_80), (15, .int i_81)]) hx hb (zdt_at zt_X10_galois_3 15 rfl) hl (by decide) rfl ?_
              clear hl
              intro ls hl
              refine lv_lload (pc := 375) hx hb (zdt_at zt_X10_galois_3 16 rfl) (lv_at hl 9 rfl) ?_
              refine lv_bipush (pc := 377) (v := (8 : Int32)) hx hb (zdt_at zt_X10_galois_3 17 rfl) (by decide) ?_
              refine lv_lshl (pc := 379) hx hb (zdt_at zt_X10_galois_3 18 rfl) rfl ?_
              refine lv_aload_n (pc := 380) hx hb (zdt_at zt_X10_galois_3 19 rfl) rfl (lv_at hl 1 rfl) ?_
              refine va_get (pc := 381) (D := D) (ci := 12) (v := .ref (hm 6)) (C := RX10) (T := TX10) (N := 52) hx hb hts hcX10 hown hK hP 0 rfl rfl 6 (by decide) hw5 (fun _ h9 => h9) rfl (zdt_at zt_X10_galois_3 20 rfl) ?_
              refine lv_iload (pc := 384) hx hb (zdt_at zt_X10_galois_3 21 rfl) (lv_at hl 6 rfl) ?_
              refine lv_iload (pc := 386) hx hb (zdt_at zt_X10_galois_3 22 rfl) (lv_at hl 5 rfl) ?_
              refine lv_iadd (pc := 388) hx hb (zdt_at zt_X10_galois_3 23 rfl) ?_
              refine lv_bipush (pc := 389) (v := (8 : Int32)) hx hb (zdt_at zt_X10_galois_3 24 rfl) (by decide) ?_
              refine lv_iadd (pc := 391) hx hb (zdt_at zt_X10_galois_3 25 rfl) ?_
              refine lv_iload (pc := 392) hx hb (zdt_at zt_X10_galois_3 26 rfl) (lv_at hl 10 rfl) ?_
              refine lv_iadd (pc := 394) hx hb (zdt_at zt_X10_galois_3 27 rfl) ?_
              replace hf := zk_s hf
              refine va_iald (pc := 395) hx hb hK hP 4 1 rfl rfl hf.1 (zdt_at zt_X10_galois_3 28 rfl) ?_
              replace hf := hf.2
              refine lv_i2l (pc := 396) hx hb (zdt_at zt_X10_galois_3 29 rfl) rfl ?_
              refine lv_lor (pc := 397) hx hb (zdt_at zt_X10_galois_3 30 rfl) ?_
              refine lv_topl (fun x_93 e_ => ?_)
              replace hf := zn_s hf e_
              clear e_
              refine lv_lstore (pc := 398) (lv' := [(13, .long x_93), (11, .long x_92), (0, .ref h0), (1, .int p1), (2, .int p2), (3, .int p3), (5, .int v_1), (6, .int x_3), (7, .long x_41), (9, .long x_43), (15, .int i_81)]) hx hb (zdt_at zt_X10_galois_3 31 rfl) hl (by decide) rfl ?_
              clear hl
              intro ls hl
              refine lv_iinc (pc := 400) (v := (i_81 + (1 : Int32))) (lv' := [(15, .int (i_81 + (1 : Int32))), (13, .long x_93), (11, .long x_92), (0, .ref h0), (1, .int p1), (2, .int p2), (3, .int p3), (5, .int v_1), (6, .int x_3), (7, .long x_41), (9, .long x_43)]) hx hb (zdt_at zt_X10_galois_3 32 rfl) hl (k := 10) rfl rfl (by decide) rfl ?_
              clear hl
              intro ls hl
              refine lv_goto (pc := 403) (tgt := 346) hx hb (zdt_at zt_X10_galois_3 33 rfl) (by decide) ?_
              exact hTo _ _ _ (ihself_89 _ hf H locs ls hP hD hS (lv_sub hl [3, 4, 5, 6, 7, 8, 9, 10, 2, 1, 0] rfl))
            clear eK_33
            refine hTo _ _ _ (zl_go (fun z => match z with | (i_30, c_result_31) => ∀ (H : Heap) (locs : List Loc) (ls : Array Slot), va_P D vwCl ([(h0, .inr (12, zmo hm c_thrown c_state c_test c_words c_ill c_before c_inRow c_first c_inWindow c_same c_made c_requests c_total c_secrets c_rounds c_high_28 c_low_29 r_10 r_11)), ((hm 43), .inl (cy 1, 16, .inl c_block_16)), ((hm 46), .inl (cy 1, 512, .inl c_body_22)), ((hm 39), .inl (cy 1, 256, .inl c_box)), ((hm 6), .inl (cy 1, 512, .inl c_buffer)), ((hm 44), .inl (cy 1, 16, .inl c_other_17)), ((hm 45), .inl (cy 1, 600, .inl c_result_31)), ((hm 41), .inl (cy 1, 240, .inl c_round))]) H → va_D A ([(h0, .inr (12, zmo hm c_thrown c_state c_test c_words c_ill c_before c_inRow c_first c_inWindow c_same c_made c_requests c_total c_secrets c_rounds c_high_28 c_low_29 r_10 r_11)), ((hm 43), .inl (cy 1, 16, .inl c_block_16)), ((hm 46), .inl (cy 1, 512, .inl c_body_22)), ((hm 39), .inl (cy 1, 256, .inl c_box)), ((hm 6), .inl (cy 1, 512, .inl c_buffer)), ((hm 44), .inl (cy 1, 16, .inl c_other_17)), ((hm 45), .inl (cy 1, 600, .inl c_result_31)), ((hm 41), .inl (cy 1, 240, .inl c_round))]) → va_S A s.heap H locs → lv_has ls 16 [(0, .ref h0), (1, .int p1), (2, .int p2), (3, .int p3), (4, .int p4), (5, .int v_1), (6, .int x_3), (7, .int i_30)] → GW H locs (F0 m 240 ls [])) hf ?_ H locs ls hP hD hS (lv_sub hl [1, 2, 3, 4, 5, 6, 7, 0] rfl))
            clear hf hl hP hD hS
            intro self_94 ihself_94 z hf
            obtain ⟨i_30, c_result_31⟩ := z
            intro H locs ls hP hD hS hl
            refine hFr _ _ _ ?_
            unfold b_X10_galois_240 at hf
            refine lv_iload (pc := 240) hx hb (zdt_at zt_X10_galois_2 4 rfl) (lv_at hl 7 rfl) ?_
            refine lv_iload (pc := 242) hx hb (zdt_at zt_X10_galois_2 5 rfl) (lv_at hl 5 rfl) ?_
            refine lv_icmp_ge (pc := 244) (tgt := 267) hx hb (zdt_at zt_X10_galois_2 6 rfl) (by decide) (fun cn_ => ?t_95) (fun cn_ => ?f_96)
            case t_95 =>
              replace hf := zt_s cn_ hf
              clear cn_
              exact hTo _ _ _ (kK_33 _ H locs ls hP hD hS (lv_sub hl [0, 1, 2, 3, 4, 5, 6] rfl) hf)
            replace hf := ze_s cn_ hf
            clear cn_
            refine lv_aload_n (pc := 247) hx hb (zdt_at zt_X10_galois_2 7 rfl) rfl (lv_at hl 0 rfl) ?_
            refine va_get (pc := 248) (D := D) (ci := 12) (v := .ref (hm 45)) (C := RX10) (T := TX10) (N := 52) hx hb hts hcX10 hown hK hP 0 rfl rfl 45 (by decide) hw8 (fun _ h9 => h9) rfl (zdt_at zt_X10_galois_2 8 rfl) ?_
            refine lv_iload (pc := 251) hx hb (zdt_at zt_X10_galois_2 9 rfl) (lv_at hl 7 rfl) ?_
            refine lv_aload_n (pc := 253) hx hb (zdt_at zt_X10_galois_2 10 rfl) rfl (lv_at hl 0 rfl) ?_
            refine va_get (pc := 254) (D := D) (ci := 12) (v := .ref (hm 46)) (C := RX10) (T := TX10) (N := 52) hx hb hts hcX10 hown hK hP 0 rfl rfl 46 (by decide) hw9 (fun _ h9 => h9) rfl (zdt_at zt_X10_galois_2 11 rfl) ?_
            refine lv_iload (pc := 257) hx hb (zdt_at zt_X10_galois_2 12 rfl) (lv_at hl 7 rfl) ?_
            replace hf := zk_s hf
            refine va_iald (pc := 259) hx hb hK hP 2 1 rfl rfl hf.1 (zdt_at zt_X10_galois_2 13 rfl) ?_
            replace hf := hf.2
            replace hf := zk_s hf
            refine va_iast (pc := 260) hx hb hK hP hD hS 6 1 rfl rfl hf.1 (zdt_at zt_X10_galois_2 14 rfl) ?_
            replace hf := hf.2
            clear hP hD hS
            intro H locs hP hD hS
            obtain ⟨c_result_97, e_⟩ : ∃ q : Nat → Int32, q = (upd c_result_31 i_30.toNatClampNeg (c_body_22 i_30.toNatClampNeg)) := ⟨_, rfl⟩
            replace hf := zn_s hf e_
            replace hP : va_P D vwCl ([(h0, .inr (12, zmo hm c_thrown c_state c_test c_words c_ill c_before c_inRow c_first c_inWindow c_same c_made c_requests c_total c_secrets c_rounds c_high_28 c_low_29 r_10 r_11)), ((hm 43), .inl (cy 1, 16, .inl c_block_16)), ((hm 46), .inl (cy 1, 512, .inl c_body_22)), ((hm 39), .inl (cy 1, 256, .inl c_box)), ((hm 6), .inl (cy 1, 512, .inl c_buffer)), ((hm 44), .inl (cy 1, 16, .inl c_other_17)), ((hm 45), .inl (cy 1, 600, .inl c_result_97)), ((hm 41), .inl (cy 1, 240, .inl c_round))]) H := by rw [e_]; exact hP
            replace hD : va_D A ([(h0, .inr (12, zmo hm c_thrown c_state c_test c_words c_ill c_before c_inRow c_first c_inWindow c_same c_made c_requests c_total c_secrets c_rounds c_high_28 c_low_29 r_10 r_11)), ((hm 43), .inl (cy 1, 16, .inl c_block_16)), ((hm 46), .inl (cy 1, 512, .inl c_body_22)), ((hm 39), .inl (cy 1, 256, .inl c_box)), ((hm 6), .inl (cy 1, 512, .inl c_buffer)), ((hm 44), .inl (cy 1, 16, .inl c_other_17)), ((hm 45), .inl (cy 1, 600, .inl c_result_97)), ((hm 41), .inl (cy 1, 240, .inl c_round))]) := by rw [e_]; exact hD
            clear e_
            refine lv_iinc (pc := 261) (v := (i_30 + (1 : Int32))) (lv' := [(7, .int (i_30 + (1 : Int32))), (0, .ref h0), (1, .int p1), (2, .int p2), (3, .int p3), (4, .int p4), (5, .int v_1), (6, .int x_3)]) hx hb (zdt_at zt_X10_galois_2 15 rfl) hl (k := 7) rfl rfl (by decide) rfl ?_
            clear hl
            intro ls hl
            refine lv_goto (pc := 264) (tgt := 240) hx hb (zdt_at zt_X10_galois_2 16 rfl) (by decide) ?_
            exact hTo _ _ _ (ihself_94 _ hf H locs ls hP hD hS (lv_sub hl [1, 2, 3, 4, 5, 6, 7, 0] rfl))
          clear eK_27
          refine hTo _ _ _ (zl_go (fun z => match z with | (i_24, c_result_25) => ∀ (H : Heap) (locs : List Loc) (ls : Array Slot), va_P D vwCl ([(h0, .inr (12, zmo hm c_thrown c_state c_test c_words c_ill c_before c_inRow c_first c_inWindow c_same c_made c_requests c_total c_secrets c_rounds (0 : Int64) (0 : Int64) r_10 r_11)), ((hm 43), .inl (cy 1, 16, .inl c_block_16)), ((hm 46), .inl (cy 1, 512, .inl c_body_22)), ((hm 39), .inl (cy 1, 256, .inl c_box)), ((hm 6), .inl (cy 1, 512, .inl c_buffer)), ((hm 44), .inl (cy 1, 16, .inl c_other_17)), ((hm 45), .inl (cy 1, 600, .inl c_result_25)), ((hm 41), .inl (cy 1, 240, .inl c_round))]) H → va_D A ([(h0, .inr (12, zmo hm c_thrown c_state c_test c_words c_ill c_before c_inRow c_first c_inWindow c_same c_made c_requests c_total c_secrets c_rounds (0 : Int64) (0 : Int64) r_10 r_11)), ((hm 43), .inl (cy 1, 16, .inl c_block_16)), ((hm 46), .inl (cy 1, 512, .inl c_body_22)), ((hm 39), .inl (cy 1, 256, .inl c_box)), ((hm 6), .inl (cy 1, 512, .inl c_buffer)), ((hm 44), .inl (cy 1, 16, .inl c_other_17)), ((hm 45), .inl (cy 1, 600, .inl c_result_25)), ((hm 41), .inl (cy 1, 240, .inl c_round))]) → va_S A s.heap H locs → lv_has ls 16 [(0, .ref h0), (1, .int p1), (2, .int p2), (3, .int p3), (4, .int p4), (5, .int v_1), (6, .int x_3), (7, .int i_24)] → GW H locs (F0 m 198 ls [])) hf ?_ H locs ls hP hD hS (lv_sub hl [1, 2, 3, 4, 5, 6, 7, 0] rfl))
          clear hf hl hP hD hS
          intro self_98 ihself_98 z hf
          obtain ⟨i_24, c_result_25⟩ := z
          intro H locs ls hP hD hS hl
          refine hFr _ _ _ ?_
          unfold b_X10_galois_198 at hf
          refine lv_iload (pc := 198) hx hb (zdt_at zt_X10_galois_1 45 rfl) (lv_at hl 7 rfl) ?_
          refine lv_iload (pc := 200) hx hb (zdt_at zt_X10_galois_1 46 rfl) (lv_at hl 4 rfl) ?_
          refine lv_icmp_ge (pc := 202) (tgt := 230) hx hb (zdt_at zt_X10_galois_1 47 rfl) (by decide) (fun cn_ => ?t_99) (fun cn_ => ?f_100)
          case t_99 =>
            replace hf := zt_s cn_ hf
            clear cn_
            exact hTo _ _ _ (kK_27 _ H locs ls hP hD hS (lv_sub hl [0, 1, 2, 3, 4, 5, 6] rfl) hf)
          replace hf := ze_s cn_ hf
          clear cn_
          refine lv_aload_n (pc := 205) hx hb (zdt_at zt_X10_galois_1 48 rfl) rfl (lv_at hl 0 rfl) ?_
          refine va_get (pc := 206) (D := D) (ci := 12) (v := .ref (hm 45)) (C := RX10) (T := TX10) (N := 52) hx hb hts hcX10 hown hK hP 0 rfl rfl 45 (by decide) hw8 (fun _ h9 => h9) rfl (zdt_at zt_X10_galois_1 49 rfl) ?_
          refine lv_iload (pc := 209) hx hb (zdt_at zt_X10_galois_1 50 rfl) (lv_at hl 7 rfl) ?_
          refine lv_aload_n (pc := 211) hx hb (zdt_at zt_X10_galois_1 51 rfl) rfl (lv_at hl 0 rfl) ?_
          refine va_get (pc := 212) (D := D) (ci := 12) (v := .ref (hm 6)) (C := RX10) (T := TX10) (N := 52) hx hb hts hcX10 hown hK hP 0 rfl rfl 6 (by decide) hw5 (fun _ h9 => h9) rfl (zdt_at zt_X10_galois_1 52 rfl) ?_
          refine lv_iload_n (pc := 215) hx hb (zdt_at zt_X10_galois_1 53 rfl) rfl (lv_at hl 2 rfl) ?_
          refine lv_bipush (pc := 216) (v := (12 : Int32)) hx hb (zdt_at zt_X10_galois_1 54 rfl) (by decide) ?_
          refine lv_iadd (pc := 218) hx hb (zdt_at zt_X10_galois_1 55 rfl) ?_
          refine lv_iload (pc := 219) hx hb (zdt_at zt_X10_galois_1 56 rfl) (lv_at hl 7 rfl) ?_
          refine lv_iadd (pc := 221) hx hb (zdt_at zt_X10_galois_1 57 rfl) ?_
          replace hf := zk_s hf
          refine va_iald (pc := 222) hx hb hK hP 4 1 rfl rfl hf.1 (zdt_at zt_X10_galois_1 58 rfl) ?_
          replace hf := hf.2
          replace hf := zk_s hf
          refine va_iast (pc := 223) hx hb hK hP hD hS 6 1 rfl rfl hf.1 (zdt_at zt_X10_galois_1 59 rfl) ?_
          replace hf := hf.2
          clear hP hD hS
          intro H locs hP hD hS
          obtain ⟨c_result_101, e_⟩ : ∃ q : Nat → Int32, q = (upd c_result_25 i_24.toNatClampNeg (c_buffer ((p2 + (12 : Int32)) + i_24).toNatClampNeg)) := ⟨_, rfl⟩
          replace hf := zn_s hf e_
          replace hP : va_P D vwCl ([(h0, .inr (12, zmo hm c_thrown c_state c_test c_words c_ill c_before c_inRow c_first c_inWindow c_same c_made c_requests c_total c_secrets c_rounds (0 : Int64) (0 : Int64) r_10 r_11)), ((hm 43), .inl (cy 1, 16, .inl c_block_16)), ((hm 46), .inl (cy 1, 512, .inl c_body_22)), ((hm 39), .inl (cy 1, 256, .inl c_box)), ((hm 6), .inl (cy 1, 512, .inl c_buffer)), ((hm 44), .inl (cy 1, 16, .inl c_other_17)), ((hm 45), .inl (cy 1, 600, .inl c_result_101)), ((hm 41), .inl (cy 1, 240, .inl c_round))]) H := by rw [e_]; exact hP
          replace hD : va_D A ([(h0, .inr (12, zmo hm c_thrown c_state c_test c_words c_ill c_before c_inRow c_first c_inWindow c_same c_made c_requests c_total c_secrets c_rounds (0 : Int64) (0 : Int64) r_10 r_11)), ((hm 43), .inl (cy 1, 16, .inl c_block_16)), ((hm 46), .inl (cy 1, 512, .inl c_body_22)), ((hm 39), .inl (cy 1, 256, .inl c_box)), ((hm 6), .inl (cy 1, 512, .inl c_buffer)), ((hm 44), .inl (cy 1, 16, .inl c_other_17)), ((hm 45), .inl (cy 1, 600, .inl c_result_101)), ((hm 41), .inl (cy 1, 240, .inl c_round))]) := by rw [e_]; exact hD
          clear e_
          refine lv_iinc (pc := 224) (v := (i_24 + (1 : Int32))) (lv' := [(7, .int (i_24 + (1 : Int32))), (0, .ref h0), (1, .int p1), (2, .int p2), (3, .int p3), (4, .int p4), (5, .int v_1), (6, .int x_3)]) hx hb (zdt_at zt_X10_galois_1 60 rfl) hl (k := 7) rfl rfl (by decide) rfl ?_
          clear hl
          intro ls hl
          refine lv_goto (pc := 227) (tgt := 198) hx hb (zdt_at zt_X10_galois_1 61 rfl) (by decide) ?_
          exact hTo _ _ _ (ihself_98 _ hf H locs ls hP hD hS (lv_sub hl [1, 2, 3, 4, 5, 6, 7, 0] rfl))
        clear eK_23
        refine hTo _ _ _ (zl_go (fun z => match z with | (i_20, c_body_21) => ∀ (H : Heap) (locs : List Loc) (ls : Array Slot), va_P D vwCl ([(h0, .inr (12, zmo hm c_thrown c_state c_test c_words c_ill c_before c_inRow c_first c_inWindow c_same c_made c_requests c_total c_secrets c_rounds (0 : Int64) (0 : Int64) r_10 r_11)), ((hm 43), .inl (cy 1, 16, .inl c_block_16)), ((hm 46), .inl (cy 1, 512, .inl c_body_21)), ((hm 39), .inl (cy 1, 256, .inl c_box)), ((hm 6), .inl (cy 1, 512, .inl c_buffer)), ((hm 44), .inl (cy 1, 16, .inl c_other_17)), ((hm 45), .inl (cy 1, 600, .inl c_result_18)), ((hm 41), .inl (cy 1, 240, .inl c_round))]) H → va_D A ([(h0, .inr (12, zmo hm c_thrown c_state c_test c_words c_ill c_before c_inRow c_first c_inWindow c_same c_made c_requests c_total c_secrets c_rounds (0 : Int64) (0 : Int64) r_10 r_11)), ((hm 43), .inl (cy 1, 16, .inl c_block_16)), ((hm 46), .inl (cy 1, 512, .inl c_body_21)), ((hm 39), .inl (cy 1, 256, .inl c_box)), ((hm 6), .inl (cy 1, 512, .inl c_buffer)), ((hm 44), .inl (cy 1, 16, .inl c_other_17)), ((hm 45), .inl (cy 1, 600, .inl c_result_18)), ((hm 41), .inl (cy 1, 240, .inl c_round))]) → va_S A s.heap H locs → lv_has ls 16 [(0, .ref h0), (1, .int p1), (2, .int p2), (3, .int p3), (4, .int p4), (5, .int v_1), (6, .int x_3), (7, .int i_20)] → GW H locs (F0 m 168 ls [])) hf ?_ H locs ls hP hD hS (lv_sub hl [1, 2, 3, 4, 5, 6, 7, 0] rfl))
        clear hf hl hP hD hS
        intro self_102 ihself_102 z hf
        obtain ⟨i_20, c_body_21⟩ := z
        intro H locs ls hP hD hS hl
        refine hFr _ _ _ ?_
        unfold b_X10_galois_168 at hf
        refine lv_iload (pc := 168) hx hb (zdt_at zt_X10_galois_1 30 rfl) (lv_at hl 7 rfl) ?_
        refine lv_iload (pc := 170) hx hb (zdt_at zt_X10_galois_1 31 rfl) (lv_at hl 5 rfl) ?_
        refine lv_icmp_ge (pc := 172) (tgt := 195) hx hb (zdt_at zt_X10_galois_1 32 rfl) (by decide) (fun cn_ => ?t_103) (fun cn_ => ?f_104)
        case t_103 =>
          replace hf := zt_s cn_ hf
          clear cn_
          exact hTo _ _ _ (kK_23 _ H locs ls hP hD hS (lv_sub hl [0, 1, 2, 3, 4, 5, 6] rfl) hf)
        replace hf := ze_s cn_ hf
        clear cn_
        refine lv_aload_n (pc := 175) hx hb (zdt_at zt_X10_galois_1 33 rfl) rfl (lv_at hl 0 rfl) ?_
        refine va_get (pc := 176) (D := D) (ci := 12) (v := .ref (hm 46)) (C := RX10) (T := TX10) (N := 52) hx hb hts hcX10 hown hK hP 0 rfl rfl 46 (by decide) hw9 (fun _ h9 => h9) rfl (zdt_at zt_X10_galois_1 34 rfl) ?_
        refine lv_iload (pc := 179) hx hb (zdt_at zt_X10_galois_1 35 rfl) (lv_at hl 7 rfl) ?_
        refine lv_aload_n (pc := 181) hx hb (zdt_at zt_X10_galois_1 36 rfl) rfl (lv_at hl 0 rfl) ?_
        refine va_get (pc := 182) (D := D) (ci := 12) (v := .ref (hm 45)) (C := RX10) (T := TX10) (N := 52) hx hb hts hcX10 hown hK hP 0 rfl rfl 45 (by decide) hw8 (fun _ h9 => h9) rfl (zdt_at zt_X10_galois_1 37 rfl) ?_
        refine lv_iload (pc := 185) hx hb (zdt_at zt_X10_galois_1 38 rfl) (lv_at hl 7 rfl) ?_
        replace hf := zk_s hf
        refine va_iald (pc := 187) hx hb hK hP 6 1 rfl rfl hf.1 (zdt_at zt_X10_galois_1 39 rfl) ?_
        replace hf := hf.2
        replace hf := zk_s hf
        refine va_iast (pc := 188) hx hb hK hP hD hS 2 1 rfl rfl hf.1 (zdt_at zt_X10_galois_1 40 rfl) ?_
        replace hf := hf.2
        clear hP hD hS
        intro H locs hP hD hS
        obtain ⟨c_body_105, e_⟩ : ∃ q : Nat → Int32, q = (upd c_body_21 i_20.toNatClampNeg (c_result_18 i_20.toNatClampNeg)) := ⟨_, rfl⟩
        replace hf := zn_s hf e_
        replace hP : va_P D vwCl ([(h0, .inr (12, zmo hm c_thrown c_state c_test c_words c_ill c_before c_inRow c_first c_inWindow c_same c_made c_requests c_total c_secrets c_rounds (0 : Int64) (0 : Int64) r_10 r_11)), ((hm 43), .inl (cy 1, 16, .inl c_block_16)), ((hm 46), .inl (cy 1, 512, .inl c_body_105)), ((hm 39), .inl (cy 1, 256, .inl c_box)), ((hm 6), .inl (cy 1, 512, .inl c_buffer)), ((hm 44), .inl (cy 1, 16, .inl c_other_17)), ((hm 45), .inl (cy 1, 600, .inl c_result_18)), ((hm 41), .inl (cy 1, 240, .inl c_round))]) H := by rw [e_]; exact hP
        replace hD : va_D A ([(h0, .inr (12, zmo hm c_thrown c_state c_test c_words c_ill c_before c_inRow c_first c_inWindow c_same c_made c_requests c_total c_secrets c_rounds (0 : Int64) (0 : Int64) r_10 r_11)), ((hm 43), .inl (cy 1, 16, .inl c_block_16)), ((hm 46), .inl (cy 1, 512, .inl c_body_105)), ((hm 39), .inl (cy 1, 256, .inl c_box)), ((hm 6), .inl (cy 1, 512, .inl c_buffer)), ((hm 44), .inl (cy 1, 16, .inl c_other_17)), ((hm 45), .inl (cy 1, 600, .inl c_result_18)), ((hm 41), .inl (cy 1, 240, .inl c_round))]) := by rw [e_]; exact hD
        clear e_
        refine lv_iinc (pc := 189) (v := (i_20 + (1 : Int32))) (lv' := [(7, .int (i_20 + (1 : Int32))), (0, .ref h0), (1, .int p1), (2, .int p2), (3, .int p3), (4, .int p4), (5, .int v_1), (6, .int x_3)]) hx hb (zdt_at zt_X10_galois_1 41 rfl) hl (k := 7) rfl rfl (by decide) rfl ?_
        clear hl
        intro ls hl
        refine lv_goto (pc := 192) (tgt := 168) hx hb (zdt_at zt_X10_galois_1 42 rfl) (by decide) ?_
        exact hTo _ _ _ (ihself_102 _ hf H locs ls hP hD hS (lv_sub hl [1, 2, 3, 4, 5, 6, 7, 0] rfl))
      clear eK_19
      refine hTo _ _ _ (zl_go (fun z => match z with | (i_12, c_block_13, c_other_14, c_result_15) => ∀ (H : Heap) (locs : List Loc) (ls : Array Slot), va_P D vwCl ([(h0, .inr (12, zmo hm c_thrown c_state c_test c_words c_ill c_before c_inRow c_first c_inWindow c_same c_made c_requests c_total c_secrets c_rounds c_high c_low r_10 r_11)), ((hm 43), .inl (cy 1, 16, .inl c_block_13)), ((hm 46), .inl (cy 1, 512, .inl c_body)), ((hm 39), .inl (cy 1, 256, .inl c_box)), ((hm 6), .inl (cy 1, 512, .inl c_buffer)), ((hm 44), .inl (cy 1, 16, .inl c_other_14)), ((hm 45), .inl (cy 1, 600, .inl c_result_15)), ((hm 41), .inl (cy 1, 240, .inl c_round))]) H → va_D A ([(h0, .inr (12, zmo hm c_thrown c_state c_test c_words c_ill c_before c_inRow c_first c_inWindow c_same c_made c_requests c_total c_secrets c_rounds c_high c_low r_10 r_11)), ((hm 43), .inl (cy 1, 16, .inl c_block_13)), ((hm 46), .inl (cy 1, 512, .inl c_body)), ((hm 39), .inl (cy 1, 256, .inl c_box)), ((hm 6), .inl (cy 1, 512, .inl c_buffer)), ((hm 44), .inl (cy 1, 16, .inl c_other_14)), ((hm 45), .inl (cy 1, 600, .inl c_result_15)), ((hm 41), .inl (cy 1, 240, .inl c_round))]) → va_S A s.heap H locs → lv_has ls 16 [(0, .ref h0), (1, .int p1), (2, .int p2), (3, .int p3), (4, .int p4), (5, .int v_1), (6, .int x_3), (7, .int i_12)] → GW H locs (F0 m 82 ls [])) hf ?_ H locs ls hP hD hS (lv_sub hl [1, 2, 3, 4, 5, 6, 7, 0] rfl))
      clear hf hl hP hD hS
      intro self_106 ihself_106 z hf
      obtain ⟨i_12, c_block_13, c_other_14, c_result_15⟩ := z
      intro H locs ls hP hD hS hl
      refine hFr _ _ _ ?_
      unfold b_X10_galois_82 at hf
      refine lv_iload (pc := 82) hx hb (zdt_at zt_X10_galois_0 46 rfl) (lv_at hl 7 rfl) ?_
      refine lv_iload (pc := 84) hx hb (zdt_at zt_X10_galois_0 47 rfl) (lv_at hl 5 rfl) ?_
      refine lv_icmp_ge (pc := 86) (tgt := 155) hx hb (zdt_at zt_X10_galois_0 48 rfl) (by decide) (fun cn_ => ?t_107) (fun cn_ => ?f_108)
      case t_107 =>
        replace hf := zt_s cn_ hf
        clear cn_
        exact hTo _ _ _ (kK_19 _ _ _ H locs ls hP hD hS (lv_sub hl [0, 1, 2, 3, 4, 5, 6] rfl) hf)
      replace hf := ze_s cn_ hf
      clear cn_
      refine lv_iload (pc := 89) hx hb (zdt_at zt_X10_galois_0 49 rfl) (lv_at hl 7 rfl) ?_
      refine lv_bipush (pc := 91) (v := (16 : Int32)) hx hb (zdt_at zt_X10_galois_0 50 rfl) (by decide) ?_
      replace hf := zk_s hf
      refine lv_irem (pc := 93) hx hb (zdt_at zt_X10_galois_0 51 rfl) hf.1 ?_
      replace hf := hf.2
      replace hf := zj_s hf
      obtain ⟨K_111, eK_111, hf⟩ := hf
      have kK_111 : ∀ (c_block_109 : Nat → Int32) (c_other_110 : Nat → Int32) (H : Heap) (locs : List Loc) (ls : Array Slot), va_P D vwCl ([(h0, .inr (12, zmo hm c_thrown c_state c_test c_words c_ill c_before c_inRow c_first c_inWindow c_same c_made c_requests c_total c_secrets c_rounds c_high c_low r_10 r_11)), ((hm 43), .inl (cy 1, 16, .inl c_block_109)), ((hm 46), .inl (cy 1, 512, .inl c_body)), ((hm 39), .inl (cy 1, 256, .inl c_box)), ((hm 6), .inl (cy 1, 512, .inl c_buffer)), ((hm 44), .inl (cy 1, 16, .inl c_other_110)), ((hm 45), .inl (cy 1, 600, .inl c_result_15)), ((hm 41), .inl (cy 1, 240, .inl c_round))]) H → va_D A ([(h0, .inr (12, zmo hm c_thrown c_state c_test c_words c_ill c_before c_inRow c_first c_inWindow c_same c_made c_requests c_total c_secrets c_rounds c_high c_low r_10 r_11)), ((hm 43), .inl (cy 1, 16, .inl c_block_109)), ((hm 46), .inl (cy 1, 512, .inl c_body)), ((hm 39), .inl (cy 1, 256, .inl c_box)), ((hm 6), .inl (cy 1, 512, .inl c_buffer)), ((hm 44), .inl (cy 1, 16, .inl c_other_110)), ((hm 45), .inl (cy 1, 600, .inl c_result_15)), ((hm 41), .inl (cy 1, 240, .inl c_round))]) → va_S A s.heap H locs → lv_has ls 16 [(0, .ref h0), (1, .int p1), (2, .int p2), (3, .int p3), (4, .int p4), (5, .int v_1), (6, .int x_3), (7, .int i_12)] → K_111 c_block_109 c_other_110 = some (r_, c_high', c_keyHigh', c_keyLow', c_low', c_block', c_body', c_buffer', c_other', c_result') → GW H locs (F0 m 109 ls []) := by
        clear hf hl hP hD hS
        intro c_block_109 c_other_110 H locs ls hP hD hS hl hf
        rw [eK_111] at hf
        clear eK_111
        refine hFr _ _ _ ?_
        refine lv_aload_n (pc := 109) hx hb (zdt_at zt_X10_galois_0 61 rfl) rfl (lv_at hl 0 rfl) ?_
        refine va_get (pc := 110) (D := D) (ci := 12) (v := .ref (hm 43)) (C := RX10) (T := TX10) (N := 52) hx hb hts hcX10 hown hK hP 0 rfl rfl 43 (by decide) hw7 (fun _ h9 => h9) rfl (zdt_at zt_X10_galois_0 62 rfl) ?_
        refine lv_iload (pc := 113) hx hb (zdt_at zt_X10_galois_0 63 rfl) (lv_at hl 7 rfl) ?_
        refine lv_bipush (pc := 115) (v := (16 : Int32)) hx hb (zdt_at zt_X10_galois_1 0 rfl) (by decide) ?_
        replace hf := zk_s hf
        refine lv_irem (pc := 117) hx hb (zdt_at zt_X10_galois_1 1 rfl) hf.1 ?_
        replace hf := hf.2
        replace hf := zk_s hf
        refine va_iald (pc := 118) hx hb hK hP 1 1 rfl rfl hf.1 (zdt_at zt_X10_galois_1 2 rfl) ?_
        replace hf := hf.2
        refine lv_topi (fun x_112 e_ => ?_)
        replace hf := zn_s hf e_
        clear e_
        refine lv_istore (pc := 119) (lv' := [(8, .int x_112), (0, .ref h0), (1, .int p1), (2, .int p2), (3, .int p3), (4, .int p4), (5, .int v_1), (6, .int x_3), (7, .int i_12)]) hx hb (zdt_at zt_X10_galois_1 3 rfl) hl (by decide) rfl ?_
        clear hl
        intro ls hl
        refine lv_aload_n (pc := 121) hx hb (zdt_at zt_X10_galois_1 4 rfl) rfl (lv_at hl 1 rfl) ?_
        refine va_get (pc := 122) (D := D) (ci := 12) (v := .ref (hm 45)) (C := RX10) (T := TX10) (N := 52) hx hb hts hcX10 hown hK hP 0 rfl rfl 45 (by decide) hw8 (fun _ h9 => h9) rfl (zdt_at zt_X10_galois_1 5 rfl) ?_
        refine lv_iload (pc := 125) hx hb (zdt_at zt_X10_galois_1 6 rfl) (lv_at hl 8 rfl) ?_
        refine lv_aload_n (pc := 127) hx hb (zdt_at zt_X10_galois_1 7 rfl) rfl (lv_at hl 1 rfl) ?_
        refine va_get (pc := 128) (D := D) (ci := 12) (v := .ref (hm 6)) (C := RX10) (T := TX10) (N := 52) hx hb hts hcX10 hown hK hP 0 rfl rfl 6 (by decide) hw5 (fun _ h9 => h9) rfl (zdt_at zt_X10_galois_1 8 rfl) ?_
        refine lv_iload (pc := 131) hx hb (zdt_at zt_X10_galois_1 9 rfl) (lv_at hl 7 rfl) ?_
        refine lv_iload (pc := 133) hx hb (zdt_at zt_X10_galois_1 10 rfl) (lv_at hl 8 rfl) ?_
        refine lv_iadd (pc := 135) hx hb (zdt_at zt_X10_galois_1 11 rfl) ?_
        replace hf := zk_s hf
        refine va_iald (pc := 136) hx hb hK hP 4 1 rfl rfl hf.1 (zdt_at zt_X10_galois_1 12 rfl) ?_
        replace hf := hf.2
        refine lv_iload_n (pc := 137) hx hb (zdt_at zt_X10_galois_1 13 rfl) rfl (lv_at hl 2 rfl) ?_
        refine lv_if_eq (pc := 138) (tgt := 146) hx hb (zdt_at zt_X10_galois_1 14 rfl) (by decide) (fun cn_ => ?t_113) (fun cn_ => ?f_114)
        case t_113 =>
          replace hf := zt_s cn_ hf
          clear cn_
          refine lv_iconst (pc := 146) (v := (0 : Int32)) hx hb (zdt_at zt_X10_galois_1 17 rfl) (by decide) ?_
          refine lv_ixor (pc := 147) hx hb (zdt_at zt_X10_galois_1 18 rfl) ?_
          replace hf := zk_s hf
          refine va_iast (pc := 148) hx hb hK hP hD hS 6 1 rfl rfl hf.1 (zdt_at zt_X10_galois_1 19 rfl) ?_
          replace hf := hf.2
          clear hP hD hS
          intro H locs hP hD hS
          obtain ⟨c_result_115, e_⟩ : ∃ q : Nat → Int32, q = (upd c_result_15 i_12.toNatClampNeg ((c_buffer (x_3 + i_12).toNatClampNeg) ^^^ (0 : Int32))) := ⟨_, rfl⟩
          replace hf := zn_s hf e_
          replace hP : va_P D vwCl ([(h0, .inr (12, zmo hm c_thrown c_state c_test c_words c_ill c_before c_inRow c_first c_inWindow c_same c_made c_requests c_total c_secrets c_rounds c_high c_low r_10 r_11)), ((hm 43), .inl (cy 1, 16, .inl c_block_109)), ((hm 46), .inl (cy 1, 512, .inl c_body)), ((hm 39), .inl (cy 1, 256, .inl c_box)), ((hm 6), .inl (cy 1, 512, .inl c_buffer)), ((hm 44), .inl (cy 1, 16, .inl c_other_110)), ((hm 45), .inl (cy 1, 600, .inl c_result_115)), ((hm 41), .inl (cy 1, 240, .inl c_round))]) H := by rw [e_]; exact hP
          replace hD : va_D A ([(h0, .inr (12, zmo hm c_thrown c_state c_test c_words c_ill c_before c_inRow c_first c_inWindow c_same c_made c_requests c_total c_secrets c_rounds c_high c_low r_10 r_11)), ((hm 43), .inl (cy 1, 16, .inl c_block_109)), ((hm 46), .inl (cy 1, 512, .inl c_body)), ((hm 39), .inl (cy 1, 256, .inl c_box)), ((hm 6), .inl (cy 1, 512, .inl c_buffer)), ((hm 44), .inl (cy 1, 16, .inl c_other_110)), ((hm 45), .inl (cy 1, 600, .inl c_result_115)), ((hm 41), .inl (cy 1, 240, .inl c_round))]) := by rw [e_]; exact hD
          clear e_
          refine lv_iinc (pc := 149) (v := (i_12 + (1 : Int32))) (lv' := [(7, .int (i_12 + (1 : Int32))), (8, .int x_112), (0, .ref h0), (1, .int p1), (2, .int p2), (3, .int p3), (4, .int p4), (5, .int v_1), (6, .int x_3)]) hx hb (zdt_at zt_X10_galois_1 20 rfl) hl (k := 8) rfl rfl (by decide) rfl ?_
          clear hl
          intro ls hl
          refine lv_goto (pc := 152) (tgt := 82) hx hb (zdt_at zt_X10_galois_1 21 rfl) (by decide) ?_
          exact hTo _ _ _ (ihself_106 _ hf H locs ls hP hD hS (lv_sub hl [2, 3, 4, 5, 6, 7, 8, 0] rfl))
        replace hf := ze_s cn_ hf
        clear cn_
        refine lv_iload (pc := 141) hx hb (zdt_at zt_X10_galois_1 15 rfl) (lv_at hl 0 rfl) ?_
        refine lv_goto (pc := 143) (tgt := 147) hx hb (zdt_at zt_X10_galois_1 16 rfl) (by decide) ?_
        refine lv_ixor (pc := 147) hx hb (zdt_at zt_X10_galois_1 18 rfl) ?_
        replace hf := zk_s hf
        refine va_iast (pc := 148) hx hb hK hP hD hS 6 1 rfl rfl hf.1 (zdt_at zt_X10_galois_1 19 rfl) ?_
        replace hf := hf.2
        clear hP hD hS
        intro H locs hP hD hS
        obtain ⟨c_result_116, e_⟩ : ∃ q : Nat → Int32, q = (upd c_result_15 i_12.toNatClampNeg ((c_buffer (x_3 + i_12).toNatClampNeg) ^^^ x_112)) := ⟨_, rfl⟩
        replace hf := zn_s hf e_
        replace hP : va_P D vwCl ([(h0, .inr (12, zmo hm c_thrown c_state c_test c_words c_ill c_before c_inRow c_first c_inWindow c_same c_made c_requests c_total c_secrets c_rounds c_high c_low r_10 r_11)), ((hm 43), .inl (cy 1, 16, .inl c_block_109)), ((hm 46), .inl (cy 1, 512, .inl c_body)), ((hm 39), .inl (cy 1, 256, .inl c_box)), ((hm 6), .inl (cy 1, 512, .inl c_buffer)), ((hm 44), .inl (cy 1, 16, .inl c_other_110)), ((hm 45), .inl (cy 1, 600, .inl c_result_116)), ((hm 41), .inl (cy 1, 240, .inl c_round))]) H := by rw [e_]; exact hP
        replace hD : va_D A ([(h0, .inr (12, zmo hm c_thrown c_state c_test c_words c_ill c_before c_inRow c_first c_inWindow c_same c_made c_requests c_total c_secrets c_rounds c_high c_low r_10 r_11)), ((hm 43), .inl (cy 1, 16, .inl c_block_109)), ((hm 46), .inl (cy 1, 512, .inl c_body)), ((hm 39), .inl (cy 1, 256, .inl c_box)), ((hm 6), .inl (cy 1, 512, .inl c_buffer)), ((hm 44), .inl (cy 1, 16, .inl c_other_110)), ((hm 45), .inl (cy 1, 600, .inl c_result_116)), ((hm 41), .inl (cy 1, 240, .inl c_round))]) := by rw [e_]; exact hD
        clear e_
        refine lv_iinc (pc := 149) (v := (i_12 + (1 : Int32))) (lv' := [(7, .int (i_12 + (1 : Int32))), (8, .int x_112), (0, .ref h0), (1, .int p1), (2, .int p2), (3, .int p3), (4, .int p4), (5, .int v_1), (6, .int x_3)]) hx hb (zdt_at zt_X10_galois_1 20 rfl) hl (k := 8) rfl rfl (by decide) rfl ?_
        clear hl
        intro ls hl
        refine lv_goto (pc := 152) (tgt := 82) hx hb (zdt_at zt_X10_galois_1 21 rfl) (by decide) ?_
        exact hTo _ _ _ (ihself_106 _ hf H locs ls hP hD hS (lv_sub hl [2, 3, 4, 5, 6, 7, 8, 0] rfl))
      clear eK_111
      refine lv_if_ne (pc := 94) (tgt := 109) hx hb (zdt_at zt_X10_galois_0 52 rfl) (by decide) (fun cn_ => ?t_117) (fun cn_ => ?f_118)
      case t_117 =>
        replace hf := ze_s cn_ hf
        clear cn_
        exact hTo _ _ _ (kK_111 _ _ H locs ls hP hD hS (lv_sub hl [0, 1, 2, 3, 4, 5, 6, 7] rfl) hf)
      replace hf := zt_s cn_ hf
      clear cn_
      refine lv_aload_n (pc := 97) hx hb (zdt_at zt_X10_galois_0 53 rfl) rfl (lv_at hl 0 rfl) ?_
      refine lv_iload_n (pc := 98) hx hb (zdt_at zt_X10_galois_0 54 rfl) rfl (lv_at hl 2 rfl) ?_
      refine lv_iconst (pc := 99) (v := (2 : Int32)) hx hb (zdt_at zt_X10_galois_0 55 rfl) (by decide) ?_
      refine lv_iload (pc := 100) hx hb (zdt_at zt_X10_galois_0 56 rfl) (lv_at hl 7 rfl) ?_
      refine lv_bipush (pc := 102) (v := (16 : Int32)) hx hb (zdt_at zt_X10_galois_0 57 rfl) (by decide) ?_
      replace hf := zk_s hf
      refine lv_idiv (pc := 104) hx hb (zdt_at zt_X10_galois_0 58 rfl) hf.1 ?_
      replace hf := hf.2
      refine lv_iadd (pc := 105) hx hb (zdt_at zt_X10_galois_0 59 rfl) ?_
      replace hf := zb_s hf
      obtain ⟨⟨c_block_119, c_other_120⟩, hc_, hf⟩ := hf
      refine zcn2 (pc := 106) (rv := none) (va_runV (As := [.int p2, .int ((2 : Int32) + (i_12 / (16 : Int32)))]) (rest := []) ⟨hx, hb, hml, hown, hts⟩ (c_X10_counterBlock l D cy tt H.size h0 hm p2 ((2 : Int32) + (i_12 / (16 : Int32))) c_rounds c_block_13 c_box c_buffer c_other_14 c_round c_thrown c_state c_test c_words c_ill c_before c_inRow c_first c_inWindow c_same c_made c_requests c_total c_secrets c_high c_low r_10 r_11 c_block_119 c_other_120 hc_) (cwV 2 hts gX10_galois_X10_counterBlock rfl rfl rfl (by decide +kernel) ⟨Nat.le_of_ble_eq_true rfl, Nat.le_of_ble_eq_true rfl⟩) ⟨zblind, va_recv hK hP (ci := 12) (q0 := 0) rfl rfl, zpre hE hS (hP.sub [0, 1, 3, 4, 5, 7] rfl) (hD.sub [0, 1, 3, 4, 5, 7] (by decide) rfl) (va_free hD hS hA [0, 1, 3, 4, 5, 7] rfl)⟩ rfl rfl hl.1 rfl (lv_room (Nat.le_of_ble_eq_true rfl)) (zdt_at zt_X10_galois_0 60 rfl) ⟨Nat.zero_le _, Nat.zero_le _⟩) hS hP hD (va_free hD hS hA [0, 1, 3, 4, 5, 7] rfl) [0, 1, 3, 4, 5, 7] rfl (by decide) rfl ?_
      clear hP hD hS hc_
      intro H locs hP hD hS
      replace hP : va_P D vwCl ([(h0, .inr (12, zmo hm c_thrown c_state c_test c_words c_ill c_before c_inRow c_first c_inWindow c_same c_made c_requests c_total c_secrets c_rounds c_high c_low r_10 r_11)), ((hm 43), .inl (cy 1, 16, .inl c_block_119)), ((hm 46), .inl (cy 1, 512, .inl c_body)), ((hm 39), .inl (cy 1, 256, .inl c_box)), ((hm 6), .inl (cy 1, 512, .inl c_buffer)), ((hm 44), .inl (cy 1, 16, .inl c_other_120)), ((hm 45), .inl (cy 1, 600, .inl c_result_15)), ((hm 41), .inl (cy 1, 240, .inl c_round))]) H := hP
      replace hD : va_D A ([(h0, .inr (12, zmo hm c_thrown c_state c_test c_words c_ill c_before c_inRow c_first c_inWindow c_same c_made c_requests c_total c_secrets c_rounds c_high c_low r_10 r_11)), ((hm 43), .inl (cy 1, 16, .inl c_block_119)), ((hm 46), .inl (cy 1, 512, .inl c_body)), ((hm 39), .inl (cy 1, 256, .inl c_box)), ((hm 6), .inl (cy 1, 512, .inl c_buffer)), ((hm 44), .inl (cy 1, 16, .inl c_other_120)), ((hm 45), .inl (cy 1, 600, .inl c_result_15)), ((hm 41), .inl (cy 1, 240, .inl c_round))]) := hD
      refine W.eq (g2 := F0 m 109 ls []) rfl ?_
      exact hTo _ _ _ (kK_111 _ _ H locs ls hP hD hS (lv_sub hl [0, 1, 2, 3, 4, 5, 6, 7] rfl) hf)
    clear eK_7
    refine hTo _ _ _ (zl_go (fun z => match z with | (i_4, c_block_5) => ∀ (H : Heap) (locs : List Loc) (ls : Array Slot), va_P D vwCl ([(h0, .inr (12, zmo hm c_thrown c_state c_test c_words c_ill c_before c_inRow c_first c_inWindow c_same c_made c_requests c_total c_secrets c_rounds c_high c_low c_keyHigh c_keyLow)), ((hm 43), .inl (cy 1, 16, .inl c_block_5)), ((hm 46), .inl (cy 1, 512, .inl c_body)), ((hm 39), .inl (cy 1, 256, .inl c_box)), ((hm 6), .inl (cy 1, 512, .inl c_buffer)), ((hm 44), .inl (cy 1, 16, .inl c_other)), ((hm 45), .inl (cy 1, 600, .inl c_result)), ((hm 41), .inl (cy 1, 240, .inl c_round))]) H → va_D A ([(h0, .inr (12, zmo hm c_thrown c_state c_test c_words c_ill c_before c_inRow c_first c_inWindow c_same c_made c_requests c_total c_secrets c_rounds c_high c_low c_keyHigh c_keyLow)), ((hm 43), .inl (cy 1, 16, .inl c_block_5)), ((hm 46), .inl (cy 1, 512, .inl c_body)), ((hm 39), .inl (cy 1, 256, .inl c_box)), ((hm 6), .inl (cy 1, 512, .inl c_buffer)), ((hm 44), .inl (cy 1, 16, .inl c_other)), ((hm 45), .inl (cy 1, 600, .inl c_result)), ((hm 41), .inl (cy 1, 240, .inl c_round))]) → va_S A s.heap H locs → lv_has ls 16 [(0, .ref h0), (1, .int p1), (2, .int p2), (3, .int p3), (4, .int p4), (5, .int v_1), (6, .int x_3), (7, .int i_4)] → GW H locs (F0 m 35 ls [])) hf ?_ H locs ls hP hD hS (lv_sub hl [3, 4, 5, 6, 7, 2, 1, 0] rfl))
    clear hf hl hP hD hS
    intro self_121 ihself_121 z hf
    obtain ⟨i_4, c_block_5⟩ := z
    intro H locs ls hP hD hS hl
    refine hFr _ _ _ ?_
    unfold b_X10_galois_35 at hf
    refine lv_iload (pc := 35) hx hb (zdt_at zt_X10_galois_0 22 rfl) (lv_at hl 7 rfl) ?_
    refine lv_bipush (pc := 37) (v := (16 : Int32)) hx hb (zdt_at zt_X10_galois_0 23 rfl) (by decide) ?_
    refine lv_icmp_ge (pc := 39) (tgt := 56) hx hb (zdt_at zt_X10_galois_0 24 rfl) (by decide) (fun cn_ => ?t_122) (fun cn_ => ?f_123)
    case t_122 =>
      replace hf := zt_s cn_ hf
      clear cn_
      exact hTo _ _ _ (kK_7 _ H locs ls hP hD hS (lv_sub hl [0, 1, 2, 3, 4, 5, 6] rfl) hf)
    replace hf := ze_s cn_ hf
    clear cn_
    refine lv_aload_n (pc := 42) hx hb (zdt_at zt_X10_galois_0 25 rfl) rfl (lv_at hl 0 rfl) ?_
    refine va_get (pc := 43) (D := D) (ci := 12) (v := .ref (hm 43)) (C := RX10) (T := TX10) (N := 52) hx hb hts hcX10 hown hK hP 0 rfl rfl 43 (by decide) hw7 (fun _ h9 => h9) rfl (zdt_at zt_X10_galois_0 26 rfl) ?_
    refine lv_iload (pc := 46) hx hb (zdt_at zt_X10_galois_0 27 rfl) (lv_at hl 7 rfl) ?_
    refine lv_iconst (pc := 48) (v := (0 : Int32)) hx hb (zdt_at zt_X10_galois_0 28 rfl) (by decide) ?_
    replace hf := zk_s hf
    refine va_iast (pc := 49) hx hb hK hP hD hS 1 1 rfl rfl hf.1 (zdt_at zt_X10_galois_0 29 rfl) ?_
    replace hf := hf.2
    clear hP hD hS
    intro H locs hP hD hS
    obtain ⟨c_block_124, e_⟩ : ∃ q : Nat → Int32, q = (upd c_block_5 i_4.toNatClampNeg (0 : Int32)) := ⟨_, rfl⟩
    replace hf := zn_s hf e_
    replace hP : va_P D vwCl ([(h0, .inr (12, zmo hm c_thrown c_state c_test c_words c_ill c_before c_inRow c_first c_inWindow c_same c_made c_requests c_total c_secrets c_rounds c_high c_low c_keyHigh c_keyLow)), ((hm 43), .inl (cy 1, 16, .inl c_block_124)), ((hm 46), .inl (cy 1, 512, .inl c_body)), ((hm 39), .inl (cy 1, 256, .inl c_box)), ((hm 6), .inl (cy 1, 512, .inl c_buffer)), ((hm 44), .inl (cy 1, 16, .inl c_other)), ((hm 45), .inl (cy 1, 600, .inl c_result)), ((hm 41), .inl (cy 1, 240, .inl c_round))]) H := by rw [e_]; exact hP
    replace hD : va_D A ([(h0, .inr (12, zmo hm c_thrown c_state c_test c_words c_ill c_before c_inRow c_first c_inWindow c_same c_made c_requests c_total c_secrets c_rounds c_high c_low c_keyHigh c_keyLow)), ((hm 43), .inl (cy 1, 16, .inl c_block_124)), ((hm 46), .inl (cy 1, 512, .inl c_body)), ((hm 39), .inl (cy 1, 256, .inl c_box)), ((hm 6), .inl (cy 1, 512, .inl c_buffer)), ((hm 44), .inl (cy 1, 16, .inl c_other)), ((hm 45), .inl (cy 1, 600, .inl c_result)), ((hm 41), .inl (cy 1, 240, .inl c_round))]) := by rw [e_]; exact hD
    clear e_
    refine lv_iinc (pc := 50) (v := (i_4 + (1 : Int32))) (lv' := [(7, .int (i_4 + (1 : Int32))), (0, .ref h0), (1, .int p1), (2, .int p2), (3, .int p3), (4, .int p4), (5, .int v_1), (6, .int x_3)]) hx hb (zdt_at zt_X10_galois_0 30 rfl) hl (k := 7) rfl rfl (by decide) rfl ?_
    clear hl
    intro ls hl
    refine lv_goto (pc := 53) (tgt := 35) hx hb (zdt_at zt_X10_galois_0 31 rfl) (by decide) ?_
    exact hTo _ _ _ (ihself_121 _ hf H locs ls hP hD hS (lv_sub hl [1, 2, 3, 4, 5, 6, 7, 0] rfl))
  clear eK_2
  refine lv_if_eq (pc := 1) (tgt := 14) hx hb (zdt_at zt_X10_galois_0 1 rfl) (by decide) (fun cn_ => ?t_125) (fun cn_ => ?f_126)
  case t_125 =>
    replace hf := zt_s cn_ hf
    clear cn_
    refine lv_iload_n (pc := 14) hx hb (zdt_at zt_X10_galois_0 8 rfl) rfl (lv_at hl 3 rfl) ?_
    refine lv_bipush (pc := 15) (v := (28 : Int32)) hx hb (zdt_at zt_X10_galois_0 9 rfl) (by decide) ?_
    refine lv_isub (pc := 17) hx hb (zdt_at zt_X10_galois_0 10 rfl) ?_
    refine lv_iload (pc := 18) hx hb (zdt_at zt_X10_galois_0 11 rfl) (lv_at hl 4 rfl) ?_
    refine lv_isub (pc := 20) hx hb (zdt_at zt_X10_galois_0 12 rfl) ?_
    exact hTo _ _ _ (kK_2 _ H locs ls hP hD hS (lv_sub hl [0, 1, 2, 3, 4] rfl) hf)
  replace hf := ze_s cn_ hf
  clear cn_
  refine lv_iload_n (pc := 4) hx hb (zdt_at zt_X10_galois_0 2 rfl) rfl (lv_at hl 3 rfl) ?_
  refine lv_bipush (pc := 5) (v := (12 : Int32)) hx hb (zdt_at zt_X10_galois_0 3 rfl) (by decide) ?_
  refine lv_isub (pc := 7) hx hb (zdt_at zt_X10_galois_0 4 rfl) ?_
  refine lv_iload (pc := 8) hx hb (zdt_at zt_X10_galois_0 5 rfl) (lv_at hl 4 rfl) ?_
  refine lv_isub (pc := 10) hx hb (zdt_at zt_X10_galois_0 6 rfl) ?_
  refine lv_goto (pc := 11) (tgt := 21) hx hb (zdt_at zt_X10_galois_0 7 rfl) (by decide) ?_
  exact hTo _ _ _ (kK_2 _ H locs ls hP hD hS (lv_sub hl [0, 1, 2, 3, 4] rfl) hf)
set_option maxHeartbeats 4000000 in
set_option maxRecDepth 100000 in
theorem c_X10_mac (l : Launch) (D : va_G) (cy : Nat → ClassId) (tt : Nat → Nat) (sz : Nat) (h0 : Nat) (hm : Nat → Nat) (p1 : Int32) (p2 : Int32) (c_rounds : Int32) (c_block : Nat → Int32) (c_box : Nat → Int32) (c_buffer : Nat → Int32) (c_other : Nat → Int32) (c_result : Nat → Int32) (c_round : Nat → Int32) (c_thrown : Int32) (c_state : Int32) (c_test : Int32) (c_words : Int32) (c_ill : Int32) (c_before : Int32) (c_inRow : Int32) (c_first : Int32) (c_inWindow : Int32) (c_same : Int32) (c_made : Int32) (c_requests : Int32) (c_total : Int64) (c_secrets : Int32) (c_high : Int64) (c_low : Int64) (c_keyHigh : Int64) (c_keyLow : Int64) (r_ : Int32) (c_block' : Nat → Int32) (c_buffer' : Nat → Int32) (c_other' : Nat → Int32) (c_result' : Nat → Int32) (hf : f_X10_mac p1 p2 c_rounds c_block c_box c_buffer c_other c_result c_round = some (r_, c_block', c_buffer', c_other', c_result')) : Met l yX10_mac wsX10_mac ({ frames := 3, cells := 0, slots := 0, locals := 71 }) (zPc D cy tt sz [.ref h0, .int p1, .int p2] ([(h0, .inr (12, zmo hm c_thrown c_state c_test c_words c_ill c_before c_inRow c_first c_inWindow c_same c_made c_requests c_total c_secrets c_rounds c_high c_low c_keyHigh c_keyLow)), ((hm 43), .inl (cy 1, 16, .inl c_block)), ((hm 39), .inl (cy 1, 256, .inl c_box)), ((hm 6), .inl (cy 1, 512, .inl c_buffer)), ((hm 44), .inl (cy 1, 16, .inl c_other)), ((hm 45), .inl (cy 1, 600, .inl c_result)), ((hm 41), .inl (cy 1, 240, .inl c_round))])) (zQ D (some (.int r_)) ([(h0, .inr (12, zmo hm c_thrown c_state c_test c_words c_ill c_before c_inRow c_first c_inWindow c_same c_made c_requests c_total c_secrets c_rounds c_high c_low c_keyHigh c_keyLow)), ((hm 43), .inl (cy 1, 16, .inl c_block')), ((hm 39), .inl (cy 1, 256, .inl c_box)), ((hm 6), .inl (cy 1, 512, .inl c_buffer')), ((hm 44), .inl (cy 1, 16, .inl c_other')), ((hm 45), .inl (cy 1, 600, .inl c_result')), ((hm 41), .inl (cy 1, 240, .inl c_round))]) (va_A ([(h0, .inr (12, zmo hm c_thrown c_state c_test c_words c_ill c_before c_inRow c_first c_inWindow c_same c_made c_requests c_total c_secrets c_rounds c_high c_low c_keyHigh c_keyLow)), ((hm 43), .inl (cy 1, 16, .inl c_block)), ((hm 39), .inl (cy 1, 256, .inl c_box)), ((hm 6), .inl (cy 1, 512, .inl c_buffer)), ((hm 44), .inl (cy 1, 16, .inl c_other)), ((hm 45), .inl (cy 1, 600, .inl c_result)), ((hm 41), .inl (cy 1, 240, .inl c_round))]) sz)) 0 0 (va_A ([(h0, .inr (12, zmo hm c_thrown c_state c_test c_words c_ill c_before c_inRow c_first c_inWindow c_same c_made c_requests c_total c_secrets c_rounds c_high c_low c_keyHigh c_keyLow)), ((hm 43), .inl (cy 1, 16, .inl c_block)), ((hm 39), .inl (cy 1, 256, .inl c_box)), ((hm 6), .inl (cy 1, 512, .inl c_buffer)), ((hm 44), .inl (cy 1, 16, .inl c_other)), ((hm 45), .inl (cy 1, 600, .inl c_result)), ((hm 41), .inl (cy 1, 240, .inl c_round))]) sz) := by
  refine Met.ofW (cc := cX10_mac) (maxL := 8) (ret := (some .int)) (by decide) rfl ?_
  intro p e s m args below meth c s₁ B hml hv
  obtain ⟨rfl, rfl, hP, hD0, hE⟩ := hv
  have hx := B.exec
  have hb := B.bytes
  have hr := B.returns
  have hts := atoms_spec (ws := wsX10_mac) B.pre
  have hown : s.vm.findClass RX10 = some m.cls := findClass_of_methodNamed B.named
  have hlocks := B.notSynchronized
  clear B
  have hD := hD0.self (sz := s.heap.size)
  generalize hAe : va_A ([(h0, .inr (12, zmo hm c_thrown c_state c_test c_words c_ill c_before c_inRow c_first c_inWindow c_same c_made c_requests c_total c_secrets c_rounds c_high c_low c_keyHigh c_keyLow)), ((hm 43), .inl (cy 1, 16, .inl c_block)), ((hm 39), .inl (cy 1, 256, .inl c_box)), ((hm 6), .inl (cy 1, 512, .inl c_buffer)), ((hm 44), .inl (cy 1, 16, .inl c_other)), ((hm 45), .inl (cy 1, 600, .inl c_result)), ((hm 41), .inl (cy 1, 240, .inl c_round))]) s.heap.size = A at hD hE ⊢
  have hA : ∀ q : Nat, s.heap.size ≤ q → A q := fun q h => by rw [← hAe]; exact Or.inr h
  clear hAe hD0
  have hS : va_S A s.heap s.heap [] := va_S.rf
  have hK := hE.1
  have hw0 := hts (.fieldLink RX10 84 "SealedModuleModel" "buffer" "[I") (by decide +kernel)
  have hw1 := hts (.fieldLink RX10 162 "SealedModuleModel" "block" "[I") (by decide +kernel)
  have hw2 := hts (.fieldLink RX10 168 "SealedModuleModel" "result" "[I") (by decide +kernel)
  have hcX10 : ∀ w ∈ u_ws RX10 TX10 52, w ∈ wsX10_mac := (fun _ h => List.mem_cons_of_mem _ (List.mem_append_right _ h))
  have hl := lv_entry ([.ref h0, .int p1, .int p2]) (n := 8) (Nat.le_of_ble_eq_true rfl)
  rw [lg_entry_eq]
  generalize (lg_sl ([.ref h0, .int p1, .int p2]) ++ List.replicate (8 - (lg_sl ([.ref h0, .int p1, .int p2])).length) Slot.unset).toArray = ls at hl ⊢
  replace hl : lv_has ls 8 [(0, .ref h0), (1, .int p1), (2, .int p2)] := hl
  unfold f_X10_mac at hf
  refine zgo (fun GW hTo hFr => ?_)
  refine hFr _ _ _ ?_
  obtain ⟨H, hHe⟩ : ∃ H, H = s.heap := ⟨_, rfl⟩
  obtain ⟨locs, hLe⟩ : ∃ L : List Loc, L = [] := ⟨_, rfl⟩
  rw [← hHe] at hP
  replace hS : va_S A s.heap H locs := by rw [hHe, hLe]; exact hS
  refine zat hHe.symm hLe.symm ?_
  clear hHe hLe
  refine lv_iconst (pc := 0) (v := (0 : Int32)) hx hb (zdt_at zt_X10_mac_0 0 rfl) (by decide) ?_
  refine lv_istore_n (pc := 1) (lv' := [(3, .int (0 : Int32)), (0, .ref h0), (1, .int p1), (2, .int p2)]) hx hb (zdt_at zt_X10_mac_0 1 rfl) rfl hl (by decide) rfl ?_
  clear hl
  intro ls hl
  replace hf := zj_s hf
  obtain ⟨K_4, eK_4, hf⟩ := hf
  have kK_4 : ∀ (c_block_3 : Nat → Int32) (H : Heap) (locs : List Loc) (ls : Array Slot), va_P D vwCl ([(h0, .inr (12, zmo hm c_thrown c_state c_test c_words c_ill c_before c_inRow c_first c_inWindow c_same c_made c_requests c_total c_secrets c_rounds c_high c_low c_keyHigh c_keyLow)), ((hm 43), .inl (cy 1, 16, .inl c_block_3)), ((hm 39), .inl (cy 1, 256, .inl c_box)), ((hm 6), .inl (cy 1, 512, .inl c_buffer)), ((hm 44), .inl (cy 1, 16, .inl c_other)), ((hm 45), .inl (cy 1, 600, .inl c_result)), ((hm 41), .inl (cy 1, 240, .inl c_round))]) H → va_D A ([(h0, .inr (12, zmo hm c_thrown c_state c_test c_words c_ill c_before c_inRow c_first c_inWindow c_same c_made c_requests c_total c_secrets c_rounds c_high c_low c_keyHigh c_keyLow)), ((hm 43), .inl (cy 1, 16, .inl c_block_3)), ((hm 39), .inl (cy 1, 256, .inl c_box)), ((hm 6), .inl (cy 1, 512, .inl c_buffer)), ((hm 44), .inl (cy 1, 16, .inl c_other)), ((hm 45), .inl (cy 1, 600, .inl c_result)), ((hm 41), .inl (cy 1, 240, .inl c_round))]) → va_S A s.heap H locs → lv_has ls 8 [(0, .ref h0), (1, .int p1), (2, .int p2)] → K_4 c_block_3 = some (r_, c_block', c_buffer', c_other', c_result') → GW H locs (F0 m 21 ls []) := by
    clear hf hl hP hD hS
    intro c_block_3 H locs ls hP hD hS hl hf
    rw [eK_4] at hf
    clear eK_4
    refine hFr _ _ _ ?_
    refine lv_aload_n (pc := 21) hx hb (zdt_at zt_X10_mac_0 12 rfl) rfl (lv_at hl 0 rfl) ?_
    replace hf := zb_s hf
    obtain ⟨⟨c_block_5, c_other_6⟩, hc_, hf⟩ := hf
    refine zcn2 (pc := 22) (rv := none) (va_runV (As := []) (rest := []) ⟨hx, hb, hml, hown, hts⟩ (c_X10_seal l D cy tt H.size h0 hm c_rounds c_block_3 c_box c_other c_round c_thrown c_state c_test c_words c_ill c_before c_inRow c_first c_inWindow c_same c_made c_requests c_total c_secrets c_high c_low c_keyHigh c_keyLow c_block_5 c_other_6 hc_) (cwV 0 hts gX10_mac_X10_seal rfl rfl rfl (by decide +kernel) ⟨Nat.le_of_ble_eq_true rfl, Nat.le_of_ble_eq_true rfl⟩) ⟨zblind, va_recv hK hP (ci := 12) (q0 := 0) rfl rfl, zpre hE hS (hP.sub [0, 1, 2, 4, 6] rfl) (hD.sub [0, 1, 2, 4, 6] (by decide) rfl) (va_free hD hS hA [0, 1, 2, 4, 6] rfl)⟩ rfl rfl hl.1 rfl (lv_room (Nat.le_of_ble_eq_true rfl)) (zdt_at zt_X10_mac_0 13 rfl) ⟨Nat.zero_le _, Nat.zero_le _⟩) hS hP hD (va_free hD hS hA [0, 1, 2, 4, 6] rfl) [0, 1, 2, 4, 6] rfl (by decide) rfl ?_
    clear hP hD hS hc_
    intro H locs hP hD hS
    replace hP : va_P D vwCl ([(h0, .inr (12, zmo hm c_thrown c_state c_test c_words c_ill c_before c_inRow c_first c_inWindow c_same c_made c_requests c_total c_secrets c_rounds c_high c_low c_keyHigh c_keyLow)), ((hm 43), .inl (cy 1, 16, .inl c_block_5)), ((hm 39), .inl (cy 1, 256, .inl c_box)), ((hm 6), .inl (cy 1, 512, .inl c_buffer)), ((hm 44), .inl (cy 1, 16, .inl c_other_6)), ((hm 45), .inl (cy 1, 600, .inl c_result)), ((hm 41), .inl (cy 1, 240, .inl c_round))]) H := hP
    replace hD : va_D A ([(h0, .inr (12, zmo hm c_thrown c_state c_test c_words c_ill c_before c_inRow c_first c_inWindow c_same c_made c_requests c_total c_secrets c_rounds c_high c_low c_keyHigh c_keyLow)), ((hm 43), .inl (cy 1, 16, .inl c_block_5)), ((hm 39), .inl (cy 1, 256, .inl c_box)), ((hm 6), .inl (cy 1, 512, .inl c_buffer)), ((hm 44), .inl (cy 1, 16, .inl c_other_6)), ((hm 45), .inl (cy 1, 600, .inl c_result)), ((hm 41), .inl (cy 1, 240, .inl c_round))]) := hD
    refine W.eq (g2 := F0 m 25 ls []) rfl ?_
    refine lv_iload_n (pc := 25) hx hb (zdt_at zt_X10_mac_0 14 rfl) rfl (lv_at hl 2 rfl) ?_
    replace hf := zj_s hf
    obtain ⟨K_8, eK_8, hf⟩ := hf
    have kK_8 : ∀ (v_7 : Int32) (H : Heap) (locs : List Loc) (ls : Array Slot), va_P D vwCl ([(h0, .inr (12, zmo hm c_thrown c_state c_test c_words c_ill c_before c_inRow c_first c_inWindow c_same c_made c_requests c_total c_secrets c_rounds c_high c_low c_keyHigh c_keyLow)), ((hm 43), .inl (cy 1, 16, .inl c_block_5)), ((hm 39), .inl (cy 1, 256, .inl c_box)), ((hm 6), .inl (cy 1, 512, .inl c_buffer)), ((hm 44), .inl (cy 1, 16, .inl c_other_6)), ((hm 45), .inl (cy 1, 600, .inl c_result)), ((hm 41), .inl (cy 1, 240, .inl c_round))]) H → va_D A ([(h0, .inr (12, zmo hm c_thrown c_state c_test c_words c_ill c_before c_inRow c_first c_inWindow c_same c_made c_requests c_total c_secrets c_rounds c_high c_low c_keyHigh c_keyLow)), ((hm 43), .inl (cy 1, 16, .inl c_block_5)), ((hm 39), .inl (cy 1, 256, .inl c_box)), ((hm 6), .inl (cy 1, 512, .inl c_buffer)), ((hm 44), .inl (cy 1, 16, .inl c_other_6)), ((hm 45), .inl (cy 1, 600, .inl c_result)), ((hm 41), .inl (cy 1, 240, .inl c_round))]) → va_S A s.heap H locs → lv_has ls 8 [(0, .ref h0), (1, .int p1), (2, .int p2)] → K_8 v_7 = some (r_, c_block', c_buffer', c_other', c_result') → GW H locs (F0 m 41 ls [.int v_7]) := by
      clear hf hl hP hD hS
      intro v_7 H locs ls hP hD hS hl hf
      rw [eK_8] at hf
      clear eK_8
      refine hFr _ _ _ ?_
      refine lv_istore_n (pc := 41) (lv' := [(3, .int v_7), (0, .ref h0), (1, .int p1), (2, .int p2)]) hx hb (zdt_at zt_X10_mac_0 23 rfl) rfl hl (by decide) rfl ?_
      clear hl
      intro ls hl
      refine lv_iconst (pc := 42) (v := (0 : Int32)) hx hb (zdt_at zt_X10_mac_0 24 rfl) (by decide) ?_
      refine lv_istore (pc := 43) (lv' := [(4, .int (0 : Int32)), (3, .int v_7), (0, .ref h0), (1, .int p1), (2, .int p2)]) hx hb (zdt_at zt_X10_mac_0 25 rfl) hl (by decide) rfl ?_
      clear hl
      intro ls hl
      replace hf := zj_s hf
      obtain ⟨K_12, eK_12, hf⟩ := hf
      have kK_12 : ∀ (c_block_11 : Nat → Int32) (H : Heap) (locs : List Loc) (ls : Array Slot), va_P D vwCl ([(h0, .inr (12, zmo hm c_thrown c_state c_test c_words c_ill c_before c_inRow c_first c_inWindow c_same c_made c_requests c_total c_secrets c_rounds c_high c_low c_keyHigh c_keyLow)), ((hm 43), .inl (cy 1, 16, .inl c_block_11)), ((hm 39), .inl (cy 1, 256, .inl c_box)), ((hm 6), .inl (cy 1, 512, .inl c_buffer)), ((hm 44), .inl (cy 1, 16, .inl c_other_6)), ((hm 45), .inl (cy 1, 600, .inl c_result)), ((hm 41), .inl (cy 1, 240, .inl c_round))]) H → va_D A ([(h0, .inr (12, zmo hm c_thrown c_state c_test c_words c_ill c_before c_inRow c_first c_inWindow c_same c_made c_requests c_total c_secrets c_rounds c_high c_low c_keyHigh c_keyLow)), ((hm 43), .inl (cy 1, 16, .inl c_block_11)), ((hm 39), .inl (cy 1, 256, .inl c_box)), ((hm 6), .inl (cy 1, 512, .inl c_buffer)), ((hm 44), .inl (cy 1, 16, .inl c_other_6)), ((hm 45), .inl (cy 1, 600, .inl c_result)), ((hm 41), .inl (cy 1, 240, .inl c_round))]) → va_S A s.heap H locs → lv_has ls 8 [(0, .ref h0), (1, .int p1), (2, .int p2), (3, .int v_7)] → K_12 c_block_11 = some (r_, c_block', c_buffer', c_other', c_result') → GW H locs (F0 m 157 ls []) := by
        clear hf hl hP hD hS
        intro c_block_11 H locs ls hP hD hS hl hf
        rw [eK_12] at hf
        clear eK_12
        refine hFr _ _ _ ?_
        refine lv_iconst (pc := 157) (v := (0 : Int32)) hx hb (zdt_at zt_X10_mac_1 23 rfl) (by decide) ?_
        refine lv_istore (pc := 158) (lv' := [(4, .int (0 : Int32)), (0, .ref h0), (1, .int p1), (2, .int p2), (3, .int v_7)]) hx hb (zdt_at zt_X10_mac_1 24 rfl) hl (by decide) rfl ?_
        clear hl
        intro ls hl
        replace hf := zj_s hf
        obtain ⟨K_16, eK_16, hf⟩ := hf
        have kK_16 : ∀ (c_result_15 : Nat → Int32) (H : Heap) (locs : List Loc) (ls : Array Slot), va_P D vwCl ([(h0, .inr (12, zmo hm c_thrown c_state c_test c_words c_ill c_before c_inRow c_first c_inWindow c_same c_made c_requests c_total c_secrets c_rounds c_high c_low c_keyHigh c_keyLow)), ((hm 43), .inl (cy 1, 16, .inl c_block_11)), ((hm 39), .inl (cy 1, 256, .inl c_box)), ((hm 6), .inl (cy 1, 512, .inl c_buffer)), ((hm 44), .inl (cy 1, 16, .inl c_other_6)), ((hm 45), .inl (cy 1, 600, .inl c_result_15)), ((hm 41), .inl (cy 1, 240, .inl c_round))]) H → va_D A ([(h0, .inr (12, zmo hm c_thrown c_state c_test c_words c_ill c_before c_inRow c_first c_inWindow c_same c_made c_requests c_total c_secrets c_rounds c_high c_low c_keyHigh c_keyLow)), ((hm 43), .inl (cy 1, 16, .inl c_block_11)), ((hm 39), .inl (cy 1, 256, .inl c_box)), ((hm 6), .inl (cy 1, 512, .inl c_buffer)), ((hm 44), .inl (cy 1, 16, .inl c_other_6)), ((hm 45), .inl (cy 1, 600, .inl c_result_15)), ((hm 41), .inl (cy 1, 240, .inl c_round))]) → va_S A s.heap H locs → lv_has ls 8 [(0, .ref h0), (1, .int p1), (2, .int p2), (3, .int v_7)] → K_16 c_result_15 = some (r_, c_block', c_buffer', c_other', c_result') → GW H locs (F0 m 187 ls []) := by
          clear hf hl hP hD hS
          intro c_result_15 H locs ls hP hD hS hl hf
          rw [eK_16] at hf
          clear eK_16
          refine hFr _ _ _ ?_
          refine lv_iload_n (pc := 187) hx hb (zdt_at zt_X10_mac_1 38 rfl) rfl (lv_at hl 3 rfl) ?_
          replace hf := zj_s hf
          obtain ⟨K_18, eK_18, hf⟩ := hf
          have kK_18 : ∀ (v_17 : Int32) (H : Heap) (locs : List Loc) (ls : Array Slot), va_P D vwCl ([(h0, .inr (12, zmo hm c_thrown c_state c_test c_words c_ill c_before c_inRow c_first c_inWindow c_same c_made c_requests c_total c_secrets c_rounds c_high c_low c_keyHigh c_keyLow)), ((hm 43), .inl (cy 1, 16, .inl c_block_11)), ((hm 39), .inl (cy 1, 256, .inl c_box)), ((hm 6), .inl (cy 1, 512, .inl c_buffer)), ((hm 44), .inl (cy 1, 16, .inl c_other_6)), ((hm 45), .inl (cy 1, 600, .inl c_result_15)), ((hm 41), .inl (cy 1, 240, .inl c_round))]) H → va_D A ([(h0, .inr (12, zmo hm c_thrown c_state c_test c_words c_ill c_before c_inRow c_first c_inWindow c_same c_made c_requests c_total c_secrets c_rounds c_high c_low c_keyHigh c_keyLow)), ((hm 43), .inl (cy 1, 16, .inl c_block_11)), ((hm 39), .inl (cy 1, 256, .inl c_box)), ((hm 6), .inl (cy 1, 512, .inl c_buffer)), ((hm 44), .inl (cy 1, 16, .inl c_other_6)), ((hm 45), .inl (cy 1, 600, .inl c_result_15)), ((hm 41), .inl (cy 1, 240, .inl c_round))]) → va_S A s.heap H locs → lv_has ls 8 [(0, .ref h0), (1, .int p1), (2, .int p2)] → K_18 v_17 = some (r_, c_block', c_buffer', c_other', c_result') → GW H locs (F0 m 204 ls [.int v_17]) := by
            clear hf hl hP hD hS
            intro v_17 H locs ls hP hD hS hl hf
            rw [eK_18] at hf
            clear eK_18
            refine hFr _ _ _ ?_
            refine lv_istore (pc := 204) (lv' := [(4, .int v_17), (0, .ref h0), (1, .int p1), (2, .int p2)]) hx hb (zdt_at zt_X10_mac_1 49 rfl) hl (by decide) rfl ?_
            clear hl
            intro ls hl
            refine lv_iconst (pc := 206) (v := (0 : Int32)) hx hb (zdt_at zt_X10_mac_1 50 rfl) (by decide) ?_
            refine lv_istore (pc := 207) (lv' := [(5, .int (0 : Int32)), (4, .int v_17), (0, .ref h0), (1, .int p1), (2, .int p2)]) hx hb (zdt_at zt_X10_mac_1 51 rfl) hl (by decide) rfl ?_
            clear hl
            intro ls hl
            replace hf := zj_s hf
            obtain ⟨K_22, eK_22, hf⟩ := hf
            have kK_22 : ∀ (c_block_21 : Nat → Int32) (H : Heap) (locs : List Loc) (ls : Array Slot), va_P D vwCl ([(h0, .inr (12, zmo hm c_thrown c_state c_test c_words c_ill c_before c_inRow c_first c_inWindow c_same c_made c_requests c_total c_secrets c_rounds c_high c_low c_keyHigh c_keyLow)), ((hm 43), .inl (cy 1, 16, .inl c_block_21)), ((hm 39), .inl (cy 1, 256, .inl c_box)), ((hm 6), .inl (cy 1, 512, .inl c_buffer)), ((hm 44), .inl (cy 1, 16, .inl c_other_6)), ((hm 45), .inl (cy 1, 600, .inl c_result_15)), ((hm 41), .inl (cy 1, 240, .inl c_round))]) H → va_D A ([(h0, .inr (12, zmo hm c_thrown c_state c_test c_words c_ill c_before c_inRow c_first c_inWindow c_same c_made c_requests c_total c_secrets c_rounds c_high c_low c_keyHigh c_keyLow)), ((hm 43), .inl (cy 1, 16, .inl c_block_21)), ((hm 39), .inl (cy 1, 256, .inl c_box)), ((hm 6), .inl (cy 1, 512, .inl c_buffer)), ((hm 44), .inl (cy 1, 16, .inl c_other_6)), ((hm 45), .inl (cy 1, 600, .inl c_result_15)), ((hm 41), .inl (cy 1, 240, .inl c_round))]) → va_S A s.heap H locs → lv_has ls 8 [(0, .ref h0), (1, .int p1), (2, .int p2), (4, .int v_17)] → K_22 c_block_21 = some (r_, c_block', c_buffer', c_other', c_result') → GW H locs (F0 m 230 ls []) := by
              clear hf hl hP hD hS
              intro c_block_21 H locs ls hP hD hS hl hf
              rw [eK_22] at hf
              clear eK_22
              refine hFr _ _ _ ?_
              refine lv_iconst (pc := 230) (v := (0 : Int32)) hx hb (zdt_at zt_X10_mac_1 62 rfl) (by decide) ?_
              refine lv_istore (pc := 231) (lv' := [(5, .int (0 : Int32)), (0, .ref h0), (1, .int p1), (2, .int p2), (4, .int v_17)]) hx hb (zdt_at zt_X10_mac_1 63 rfl) hl (by decide) rfl ?_
              clear hl
              intro ls hl
              replace hf := zj_s hf
              obtain ⟨K_28, eK_28, hf⟩ := hf
              have kK_28 : ∀ (c_block_26 : Nat → Int32) (c_other_27 : Nat → Int32) (H : Heap) (locs : List Loc) (ls : Array Slot), va_P D vwCl ([(h0, .inr (12, zmo hm c_thrown c_state c_test c_words c_ill c_before c_inRow c_first c_inWindow c_same c_made c_requests c_total c_secrets c_rounds c_high c_low c_keyHigh c_keyLow)), ((hm 43), .inl (cy 1, 16, .inl c_block_26)), ((hm 39), .inl (cy 1, 256, .inl c_box)), ((hm 6), .inl (cy 1, 512, .inl c_buffer)), ((hm 44), .inl (cy 1, 16, .inl c_other_27)), ((hm 45), .inl (cy 1, 600, .inl c_result_15)), ((hm 41), .inl (cy 1, 240, .inl c_round))]) H → va_D A ([(h0, .inr (12, zmo hm c_thrown c_state c_test c_words c_ill c_before c_inRow c_first c_inWindow c_same c_made c_requests c_total c_secrets c_rounds c_high c_low c_keyHigh c_keyLow)), ((hm 43), .inl (cy 1, 16, .inl c_block_26)), ((hm 39), .inl (cy 1, 256, .inl c_box)), ((hm 6), .inl (cy 1, 512, .inl c_buffer)), ((hm 44), .inl (cy 1, 16, .inl c_other_27)), ((hm 45), .inl (cy 1, 600, .inl c_result_15)), ((hm 41), .inl (cy 1, 240, .inl c_round))]) → va_S A s.heap H locs → lv_has ls 8 [(0, .ref h0), (1, .int p1)] → K_28 c_block_26 c_other_27 = some (r_, c_block', c_buffer', c_other', c_result') → GW H locs (F0 m 343 ls []) := by
                clear hf hl hP hD hS
                intro c_block_26 c_other_27 H locs ls hP hD hS hl hf
                rw [eK_28] at hf
                clear eK_28
                refine hFr _ _ _ ?_
                refine lv_iconst (pc := 343) (v := (0 : Int32)) hx hb (zdt_at zt_X10_mac_2 57 rfl) (by decide) ?_
                refine lv_istore (pc := 344) (lv' := [(5, .int (0 : Int32)), (0, .ref h0), (1, .int p1)]) hx hb (zdt_at zt_X10_mac_2 58 rfl) hl (by decide) rfl ?_
                clear hl
                intro ls hl
                replace hf := zj_s hf
                obtain ⟨K_32, eK_32, hf⟩ := hf
                have kK_32 : ∀ (c_buffer_31 : Nat → Int32) (H : Heap) (locs : List Loc) (ls : Array Slot), va_P D vwCl ([(h0, .inr (12, zmo hm c_thrown c_state c_test c_words c_ill c_before c_inRow c_first c_inWindow c_same c_made c_requests c_total c_secrets c_rounds c_high c_low c_keyHigh c_keyLow)), ((hm 43), .inl (cy 1, 16, .inl c_block_26)), ((hm 39), .inl (cy 1, 256, .inl c_box)), ((hm 6), .inl (cy 1, 512, .inl c_buffer_31)), ((hm 44), .inl (cy 1, 16, .inl c_other_27)), ((hm 45), .inl (cy 1, 600, .inl c_result_15)), ((hm 41), .inl (cy 1, 240, .inl c_round))]) H → va_D A ([(h0, .inr (12, zmo hm c_thrown c_state c_test c_words c_ill c_before c_inRow c_first c_inWindow c_same c_made c_requests c_total c_secrets c_rounds c_high c_low c_keyHigh c_keyLow)), ((hm 43), .inl (cy 1, 16, .inl c_block_26)), ((hm 39), .inl (cy 1, 256, .inl c_box)), ((hm 6), .inl (cy 1, 512, .inl c_buffer_31)), ((hm 44), .inl (cy 1, 16, .inl c_other_27)), ((hm 45), .inl (cy 1, 600, .inl c_result_15)), ((hm 41), .inl (cy 1, 240, .inl c_round))]) → va_S A s.heap H locs → lv_has ls 8 [] → K_32 c_buffer_31 = some (r_, c_block', c_buffer', c_other', c_result') → GW H locs (F0 m 375 ls []) := by
                  clear hf hl hP hD hS
                  intro c_buffer_31 H locs ls hP hD hS hl hf
                  rw [eK_32] at hf
                  clear eK_32
                  refine hFr _ _ _ ?_
                  refine lv_bipush (pc := 375) (v := (16 : Int32)) hx hb (zdt_at zt_X10_mac_3 10 rfl) (by decide) ?_
                  cases hf
                  exact W.iret (pc := 377) hx hb hr (fun t ht hW => ⟨rfl, ⟨by rw [ht]; exact hP, hD⟩, hS.F ht⟩) hS.2.2 (zdt_at zt_X10_mac_3 11 rfl)
                clear eK_32
                refine hTo _ _ _ (zl_go (fun z => match z with | (i_29, c_buffer_30) => ∀ (H : Heap) (locs : List Loc) (ls : Array Slot), va_P D vwCl ([(h0, .inr (12, zmo hm c_thrown c_state c_test c_words c_ill c_before c_inRow c_first c_inWindow c_same c_made c_requests c_total c_secrets c_rounds c_high c_low c_keyHigh c_keyLow)), ((hm 43), .inl (cy 1, 16, .inl c_block_26)), ((hm 39), .inl (cy 1, 256, .inl c_box)), ((hm 6), .inl (cy 1, 512, .inl c_buffer_30)), ((hm 44), .inl (cy 1, 16, .inl c_other_27)), ((hm 45), .inl (cy 1, 600, .inl c_result_15)), ((hm 41), .inl (cy 1, 240, .inl c_round))]) H → va_D A ([(h0, .inr (12, zmo hm c_thrown c_state c_test c_words c_ill c_before c_inRow c_first c_inWindow c_same c_made c_requests c_total c_secrets c_rounds c_high c_low c_keyHigh c_keyLow)), ((hm 43), .inl (cy 1, 16, .inl c_block_26)), ((hm 39), .inl (cy 1, 256, .inl c_box)), ((hm 6), .inl (cy 1, 512, .inl c_buffer_30)), ((hm 44), .inl (cy 1, 16, .inl c_other_27)), ((hm 45), .inl (cy 1, 600, .inl c_result_15)), ((hm 41), .inl (cy 1, 240, .inl c_round))]) → va_S A s.heap H locs → lv_has ls 8 [(0, .ref h0), (1, .int p1), (5, .int i_29)] → GW H locs (F0 m 346 ls [])) hf ?_ H locs ls hP hD hS (lv_sub hl [1, 2, 0] rfl))
                clear hf hl hP hD hS
                intro self_33 ihself_33 z hf
                obtain ⟨i_29, c_buffer_30⟩ := z
                intro H locs ls hP hD hS hl
                refine hFr _ _ _ ?_
                unfold b_X10_mac_346 at hf
                refine lv_iload (pc := 346) hx hb (zdt_at zt_X10_mac_2 59 rfl) (lv_at hl 2 rfl) ?_
                refine lv_bipush (pc := 348) (v := (16 : Int32)) hx hb (zdt_at zt_X10_mac_2 60 rfl) (by decide) ?_
                refine lv_icmp_ge (pc := 350) (tgt := 375) hx hb (zdt_at zt_X10_mac_2 61 rfl) (by decide) (fun cn_ => ?t_34) (fun cn_ => ?f_35)
                case t_34 =>
                  replace hf := zt_s cn_ hf
                  clear cn_
                  exact hTo _ _ _ (kK_32 _ H locs ls hP hD hS (lv_sub hl [] rfl) hf)
                replace hf := ze_s cn_ hf
                clear cn_
                refine lv_aload_n (pc := 353) hx hb (zdt_at zt_X10_mac_2 62 rfl) rfl (lv_at hl 0 rfl) ?_
                refine va_get (pc := 354) (D := D) (ci := 12) (v := .ref (hm 6)) (C := RX10) (T := TX10) (N := 52) hx hb hts hcX10 hown hK hP 0 rfl rfl 6 (by decide) hw0 (fun _ h9 => h9) rfl (zdt_at zt_X10_mac_2 63 rfl) ?_
                refine lv_iload_n (pc := 357) hx hb (zdt_at zt_X10_mac_3 0 rfl) rfl (lv_at hl 1 rfl) ?_
                refine lv_iload (pc := 358) hx hb (zdt_at zt_X10_mac_3 1 rfl) (lv_at hl 2 rfl) ?_
                refine lv_iadd (pc := 360) hx hb (zdt_at zt_X10_mac_3 2 rfl) ?_
                refine lv_aload_n (pc := 361) hx hb (zdt_at zt_X10_mac_3 3 rfl) rfl (lv_at hl 0 rfl) ?_
                refine va_get (pc := 362) (D := D) (ci := 12) (v := .ref (hm 43)) (C := RX10) (T := TX10) (N := 52) hx hb hts hcX10 hown hK hP 0 rfl rfl 43 (by decide) hw1 (fun _ h9 => h9) rfl (zdt_at zt_X10_mac_3 4 rfl) ?_
                refine lv_iload (pc := 365) hx hb (zdt_at zt_X10_mac_3 5 rfl) (lv_at hl 2 rfl) ?_
                replace hf := zk_s hf
                refine va_iald (pc := 367) hx hb hK hP 1 1 rfl rfl hf.1 (zdt_at zt_X10_mac_3 6 rfl) ?_
                replace hf := hf.2
                replace hf := zk_s hf
                refine va_iast (pc := 368) hx hb hK hP hD hS 3 1 rfl rfl hf.1 (zdt_at zt_X10_mac_3 7 rfl) ?_
                replace hf := hf.2
                clear hP hD hS
                intro H locs hP hD hS
                obtain ⟨c_buffer_36, e_⟩ : ∃ q : Nat → Int32, q = (upd c_buffer_30 (p1 + i_29).toNatClampNeg (c_block_26 i_29.toNatClampNeg)) := ⟨_, rfl⟩
                replace hf := zn_s hf e_
                replace hP : va_P D vwCl ([(h0, .inr (12, zmo hm c_thrown c_state c_test c_words c_ill c_before c_inRow c_first c_inWindow c_same c_made c_requests c_total c_secrets c_rounds c_high c_low c_keyHigh c_keyLow)), ((hm 43), .inl (cy 1, 16, .inl c_block_26)), ((hm 39), .inl (cy 1, 256, .inl c_box)), ((hm 6), .inl (cy 1, 512, .inl c_buffer_36)), ((hm 44), .inl (cy 1, 16, .inl c_other_27)), ((hm 45), .inl (cy 1, 600, .inl c_result_15)), ((hm 41), .inl (cy 1, 240, .inl c_round))]) H := by rw [e_]; exact hP
                replace hD : va_D A ([(h0, .inr (12, zmo hm c_thrown c_state c_test c_words c_ill c_before c_inRow c_first c_inWindow c_same c_made c_requests c_total c_secrets c_rounds c_high c_low c_keyHigh c_keyLow)), ((hm 43), .inl (cy 1, 16, .inl c_block_26)), ((hm 39), .inl (cy 1, 256, .inl c_box)), ((hm 6), .inl (cy 1, 512, .inl c_buffer_36)), ((hm 44), .inl (cy 1, 16, .inl c_other_27)), ((hm 45), .inl (cy 1, 600, .inl c_result_15)), ((hm 41), .inl (cy 1, 240, .inl c_round))]) := by rw [e_]; exact hD
                clear e_
                refine lv_iinc (pc := 369) (v := (i_29 + (1 : Int32))) (lv' := [(5, .int (i_29 + (1 : Int32))), (0, .ref h0), (1, .int p1)]) hx hb (zdt_at zt_X10_mac_3 8 rfl) hl (k := 2) rfl rfl (by decide) rfl ?_
                clear hl
                intro ls hl
                refine lv_goto (pc := 372) (tgt := 346) hx hb (zdt_at zt_X10_mac_3 9 rfl) (by decide) ?_
                exact hTo _ _ _ (ihself_33 _ hf H locs ls hP hD hS (lv_sub hl [1, 2, 0] rfl))
              clear eK_28
              refine hTo _ _ _ (zl_go (fun z => match z with | (i_23, c_block_24, c_other_25) => ∀ (H : Heap) (locs : List Loc) (ls : Array Slot), va_P D vwCl ([(h0, .inr (12, zmo hm c_thrown c_state c_test c_words c_ill c_before c_inRow c_first c_inWindow c_same c_made c_requests c_total c_secrets c_rounds c_high c_low c_keyHigh c_keyLow)), ((hm 43), .inl (cy 1, 16, .inl c_block_24)), ((hm 39), .inl (cy 1, 256, .inl c_box)), ((hm 6), .inl (cy 1, 512, .inl c_buffer)), ((hm 44), .inl (cy 1, 16, .inl c_other_25)), ((hm 45), .inl (cy 1, 600, .inl c_result_15)), ((hm 41), .inl (cy 1, 240, .inl c_round))]) H → va_D A ([(h0, .inr (12, zmo hm c_thrown c_state c_test c_words c_ill c_before c_inRow c_first c_inWindow c_same c_made c_requests c_total c_secrets c_rounds c_high c_low c_keyHigh c_keyLow)), ((hm 43), .inl (cy 1, 16, .inl c_block_24)), ((hm 39), .inl (cy 1, 256, .inl c_box)), ((hm 6), .inl (cy 1, 512, .inl c_buffer)), ((hm 44), .inl (cy 1, 16, .inl c_other_25)), ((hm 45), .inl (cy 1, 600, .inl c_result_15)), ((hm 41), .inl (cy 1, 240, .inl c_round))]) → va_S A s.heap H locs → lv_has ls 8 [(0, .ref h0), (1, .int p1), (2, .int p2), (4, .int v_17), (5, .int i_23)] → GW H locs (F0 m 233 ls [])) hf ?_ H locs ls hP hD hS (lv_sub hl [1, 2, 3, 4, 0] rfl))
              clear hf hl hP hD hS
              intro self_37 ihself_37 z hf
              obtain ⟨i_23, c_block_24, c_other_25⟩ := z
              intro H locs ls hP hD hS hl
              refine hFr _ _ _ ?_
              unfold b_X10_mac_233 at hf
              refine lv_iload (pc := 233) hx hb (zdt_at zt_X10_mac_2 0 rfl) (lv_at hl 4 rfl) ?_
              refine lv_iload (pc := 235) hx hb (zdt_at zt_X10_mac_2 1 rfl) (lv_at hl 3 rfl) ?_
              refine lv_icmp_ge (pc := 237) (tgt := 343) hx hb (zdt_at zt_X10_mac_2 2 rfl) (by decide) (fun cn_ => ?t_38) (fun cn_ => ?f_39)
              case t_38 =>
                replace hf := zt_s cn_ hf
                clear cn_
                exact hTo _ _ _ (kK_28 _ _ H locs ls hP hD hS (lv_sub hl [0, 1] rfl) hf)
              replace hf := ze_s cn_ hf
              clear cn_
              refine lv_iconst (pc := 240) (v := (0 : Int32)) hx hb (zdt_at zt_X10_mac_2 3 rfl) (by decide) ?_
              refine lv_istore (pc := 241) (lv' := [(6, .int (0 : Int32)), (0, .ref h0), (1, .int p1), (2, .int p2), (4, .int v_17), (5, .int i_23)]) hx hb (zdt_at zt_X10_mac_2 4 rfl) hl (by decide) rfl ?_
              clear hl
              intro ls hl
              replace hf := zj_s hf
              obtain ⟨K_43, eK_43, hf⟩ := hf
              have kK_43 : ∀ (c_block_42 : Nat → Int32) (H : Heap) (locs : List Loc) (ls : Array Slot), va_P D vwCl ([(h0, .inr (12, zmo hm c_thrown c_state c_test c_words c_ill c_before c_inRow c_first c_inWindow c_same c_made c_requests c_total c_secrets c_rounds c_high c_low c_keyHigh c_keyLow)), ((hm 43), .inl (cy 1, 16, .inl c_block_42)), ((hm 39), .inl (cy 1, 256, .inl c_box)), ((hm 6), .inl (cy 1, 512, .inl c_buffer)), ((hm 44), .inl (cy 1, 16, .inl c_other_25)), ((hm 45), .inl (cy 1, 600, .inl c_result_15)), ((hm 41), .inl (cy 1, 240, .inl c_round))]) H → va_D A ([(h0, .inr (12, zmo hm c_thrown c_state c_test c_words c_ill c_before c_inRow c_first c_inWindow c_same c_made c_requests c_total c_secrets c_rounds c_high c_low c_keyHigh c_keyLow)), ((hm 43), .inl (cy 1, 16, .inl c_block_42)), ((hm 39), .inl (cy 1, 256, .inl c_box)), ((hm 6), .inl (cy 1, 512, .inl c_buffer)), ((hm 44), .inl (cy 1, 16, .inl c_other_25)), ((hm 45), .inl (cy 1, 600, .inl c_result_15)), ((hm 41), .inl (cy 1, 240, .inl c_round))]) → va_S A s.heap H locs → lv_has ls 8 [(0, .ref h0), (1, .int p1), (2, .int p2), (4, .int v_17), (5, .int i_23)] → K_43 c_block_42 = some (r_, c_block', c_buffer', c_other', c_result') → GW H locs (F0 m 333 ls []) := by
                clear hf hl hP hD hS
                intro c_block_42 H locs ls hP hD hS hl hf
                rw [eK_43] at hf
                clear eK_43
                refine hFr _ _ _ ?_
                refine lv_aload_n (pc := 333) hx hb (zdt_at zt_X10_mac_2 53 rfl) rfl (lv_at hl 0 rfl) ?_
                replace hf := zb_s hf
                obtain ⟨⟨c_block_44, c_other_45⟩, hc_, hf⟩ := hf
                refine zcn2 (pc := 334) (rv := none) (va_runV (As := []) (rest := []) ⟨hx, hb, hml, hown, hts⟩ (c_X10_seal l D cy tt H.size h0 hm c_rounds c_block_42 c_box c_other_25 c_round c_thrown c_state c_test c_words c_ill c_before c_inRow c_first c_inWindow c_same c_made c_requests c_total c_secrets c_high c_low c_keyHigh c_keyLow c_block_44 c_other_45 hc_) (cwV 0 hts gX10_mac_X10_seal rfl rfl rfl (by decide +kernel) ⟨Nat.le_of_ble_eq_true rfl, Nat.le_of_ble_eq_true rfl⟩) ⟨zblind, va_recv hK hP (ci := 12) (q0 := 0) rfl rfl, zpre hE hS (hP.sub [0, 1, 2, 4, 6] rfl) (hD.sub [0, 1, 2, 4, 6] (by decide) rfl) (va_free hD hS hA [0, 1, 2, 4, 6] rfl)⟩ rfl rfl hl.1 rfl (lv_room (Nat.le_of_ble_eq_true rfl)) (zdt_at zt_X10_mac_2 54 rfl) ⟨Nat.zero_le _, Nat.zero_le _⟩) hS hP hD (va_free hD hS hA [0, 1, 2, 4, 6] rfl) [0, 1, 2, 4, 6] rfl (by decide) rfl ?_
                clear hP hD hS hc_
                intro H locs hP hD hS
                replace hP : va_P D vwCl ([(h0, .inr (12, zmo hm c_thrown c_state c_test c_words c_ill c_before c_inRow c_first c_inWindow c_same c_made c_requests c_total c_secrets c_rounds c_high c_low c_keyHigh c_keyLow)), ((hm 43), .inl (cy 1, 16, .inl c_block_44)), ((hm 39), .inl (cy 1, 256, .inl c_box)), ((hm 6), .inl (cy 1, 512, .inl c_buffer)), ((hm 44), .inl (cy 1, 16, .inl c_other_45)), ((hm 45), .inl (cy 1, 600, .inl c_result_15)), ((hm 41), .inl (cy 1, 240, .inl c_round))]) H := hP
                replace hD : va_D A ([(h0, .inr (12, zmo hm c_thrown c_state c_test c_words c_ill c_before c_inRow c_first c_inWindow c_same c_made c_requests c_total c_secrets c_rounds c_high c_low c_keyHigh c_keyLow)), ((hm 43), .inl (cy 1, 16, .inl c_block_44)), ((hm 39), .inl (cy 1, 256, .inl c_box)), ((hm 6), .inl (cy 1, 512, .inl c_buffer)), ((hm 44), .inl (cy 1, 16, .inl c_other_45)), ((hm 45), .inl (cy 1, 600, .inl c_result_15)), ((hm 41), .inl (cy 1, 240, .inl c_round))]) := hD
                refine W.eq (g2 := F0 m 337 ls []) rfl ?_
                refine lv_iinc (pc := 337) (v := (i_23 + (1 : Int32))) (lv' := [(5, .int (i_23 + (1 : Int32))), (0, .ref h0), (1, .int p1), (2, .int p2), (4, .int v_17)]) hx hb (zdt_at zt_X10_mac_2 55 rfl) hl (k := 4) rfl rfl (by decide) rfl ?_
                clear hl
                intro ls hl
                refine lv_goto (pc := 340) (tgt := 233) hx hb (zdt_at zt_X10_mac_2 56 rfl) (by decide) ?_
                exact hTo _ _ _ (ihself_37 _ hf H locs ls hP hD hS (lv_sub hl [1, 2, 3, 4, 0] rfl))
              clear eK_43
              refine hTo _ _ _ (zl_go (fun z => match z with | (i_40, c_block_41) => ∀ (H : Heap) (locs : List Loc) (ls : Array Slot), va_P D vwCl ([(h0, .inr (12, zmo hm c_thrown c_state c_test c_words c_ill c_before c_inRow c_first c_inWindow c_same c_made c_requests c_total c_secrets c_rounds c_high c_low c_keyHigh c_keyLow)), ((hm 43), .inl (cy 1, 16, .inl c_block_41)), ((hm 39), .inl (cy 1, 256, .inl c_box)), ((hm 6), .inl (cy 1, 512, .inl c_buffer)), ((hm 44), .inl (cy 1, 16, .inl c_other_25)), ((hm 45), .inl (cy 1, 600, .inl c_result_15)), ((hm 41), .inl (cy 1, 240, .inl c_round))]) H → va_D A ([(h0, .inr (12, zmo hm c_thrown c_state c_test c_words c_ill c_before c_inRow c_first c_inWindow c_same c_made c_requests c_total c_secrets c_rounds c_high c_low c_keyHigh c_keyLow)), ((hm 43), .inl (cy 1, 16, .inl c_block_41)), ((hm 39), .inl (cy 1, 256, .inl c_box)), ((hm 6), .inl (cy 1, 512, .inl c_buffer)), ((hm 44), .inl (cy 1, 16, .inl c_other_25)), ((hm 45), .inl (cy 1, 600, .inl c_result_15)), ((hm 41), .inl (cy 1, 240, .inl c_round))]) → va_S A s.heap H locs → lv_has ls 8 [(0, .ref h0), (1, .int p1), (2, .int p2), (4, .int v_17), (5, .int i_23), (6, .int i_40)] → GW H locs (F0 m 243 ls [])) hf ?_ H locs ls hP hD hS (lv_sub hl [1, 2, 3, 4, 5, 0] rfl))
              clear hf hl hP hD hS
              intro self_46 ihself_46 z hf
              obtain ⟨i_40, c_block_41⟩ := z
              intro H locs ls hP hD hS hl
              refine hFr _ _ _ ?_
              unfold b_X10_mac_243 at hf
              refine lv_iload (pc := 243) hx hb (zdt_at zt_X10_mac_2 5 rfl) (lv_at hl 5 rfl) ?_
              refine lv_bipush (pc := 245) (v := (16 : Int32)) hx hb (zdt_at zt_X10_mac_2 6 rfl) (by decide) ?_
              refine lv_icmp_ge (pc := 247) (tgt := 333) hx hb (zdt_at zt_X10_mac_2 7 rfl) (by decide) (fun cn_ => ?t_47) (fun cn_ => ?f_48)
              case t_47 =>
                replace hf := zt_s cn_ hf
                clear cn_
                exact hTo _ _ _ (kK_43 _ H locs ls hP hD hS (lv_sub hl [0, 1, 2, 3, 4] rfl) hf)
              replace hf := ze_s cn_ hf
              clear cn_
              refine lv_bipush (pc := 250) (v := (16 : Int32)) hx hb (zdt_at zt_X10_mac_2 8 rfl) (by decide) ?_
              refine lv_iload (pc := 252) hx hb (zdt_at zt_X10_mac_2 9 rfl) (lv_at hl 4 rfl) ?_
              refine lv_imul (pc := 254) hx hb (zdt_at zt_X10_mac_2 10 rfl) ?_
              refine lv_iload (pc := 255) hx hb (zdt_at zt_X10_mac_2 11 rfl) (lv_at hl 5 rfl) ?_
              refine lv_iadd (pc := 257) hx hb (zdt_at zt_X10_mac_2 12 rfl) ?_
              refine lv_topi (fun x_49 e_ => ?_)
              replace hf := zn_s hf e_
              clear e_
              refine lv_istore (pc := 258) (lv' := [(7, .int x_49), (0, .ref h0), (1, .int p1), (2, .int p2), (4, .int v_17), (5, .int i_23), (6, .int i_40)]) hx hb (zdt_at zt_X10_mac_2 13 rfl) hl (by decide) rfl ?_
              clear hl
              intro ls hl
              refine lv_aload_n (pc := 260) hx hb (zdt_at zt_X10_mac_2 14 rfl) rfl (lv_at hl 1 rfl) ?_
              refine va_get (pc := 261) (D := D) (ci := 12) (v := .ref (hm 43)) (C := RX10) (T := TX10) (N := 52) hx hb hts hcX10 hown hK hP 0 rfl rfl 43 (by decide) hw1 (fun _ h9 => h9) rfl (zdt_at zt_X10_mac_2 15 rfl) ?_
              refine lv_iload (pc := 264) hx hb (zdt_at zt_X10_mac_2 16 rfl) (lv_at hl 6 rfl) ?_
              refine lv_aload_n (pc := 266) hx hb (zdt_at zt_X10_mac_2 17 rfl) rfl (lv_at hl 1 rfl) ?_
              refine va_get (pc := 267) (D := D) (ci := 12) (v := .ref (hm 43)) (C := RX10) (T := TX10) (N := 52) hx hb hts hcX10 hown hK hP 0 rfl rfl 43 (by decide) hw1 (fun _ h9 => h9) rfl (zdt_at zt_X10_mac_2 18 rfl) ?_
              refine lv_iload (pc := 270) hx hb (zdt_at zt_X10_mac_2 19 rfl) (lv_at hl 6 rfl) ?_
              replace hf := zk_s hf
              refine va_iald (pc := 272) hx hb hK hP 1 1 rfl rfl hf.1 (zdt_at zt_X10_mac_2 20 rfl) ?_
              replace hf := hf.2
              refine lv_iload (pc := 273) hx hb (zdt_at zt_X10_mac_2 21 rfl) (lv_at hl 0 rfl) ?_
              refine lv_iload_n (pc := 275) hx hb (zdt_at zt_X10_mac_2 22 rfl) rfl (lv_at hl 3 rfl) ?_
              replace hf := zj_s hf
              obtain ⟨K_51, eK_51, hf⟩ := hf
              have kK_51 : ∀ (v_50 : Int32) (H : Heap) (locs : List Loc) (ls : Array Slot), va_P D vwCl ([(h0, .inr (12, zmo hm c_thrown c_state c_test c_words c_ill c_before c_inRow c_first c_inWindow c_same c_made c_requests c_total c_secrets c_rounds c_high c_low c_keyHigh c_keyLow)), ((hm 43), .inl (cy 1, 16, .inl c_block_41)), ((hm 39), .inl (cy 1, 256, .inl c_box)), ((hm 6), .inl (cy 1, 512, .inl c_buffer)), ((hm 44), .inl (cy 1, 16, .inl c_other_25)), ((hm 45), .inl (cy 1, 600, .inl c_result_15)), ((hm 41), .inl (cy 1, 240, .inl c_round))]) H → va_D A ([(h0, .inr (12, zmo hm c_thrown c_state c_test c_words c_ill c_before c_inRow c_first c_inWindow c_same c_made c_requests c_total c_secrets c_rounds c_high c_low c_keyHigh c_keyLow)), ((hm 43), .inl (cy 1, 16, .inl c_block_41)), ((hm 39), .inl (cy 1, 256, .inl c_box)), ((hm 6), .inl (cy 1, 512, .inl c_buffer)), ((hm 44), .inl (cy 1, 16, .inl c_other_25)), ((hm 45), .inl (cy 1, 600, .inl c_result_15)), ((hm 41), .inl (cy 1, 240, .inl c_round))]) → va_S A s.heap H locs → lv_has ls 8 [(0, .ref h0), (1, .int p1), (2, .int p2), (4, .int v_17), (5, .int i_23), (6, .int i_40)] → K_51 v_50 = some (r_, c_block', c_buffer', c_other', c_result') → GW H locs (F0 m 304 ls [.int v_50, .int (c_block_41 i_40.toNatClampNeg), .int i_40, .ref (hm 43)]) := by
                clear hf hl hP hD hS
                intro v_50 H locs ls hP hD hS hl hf
                rw [eK_51] at hf
                clear eK_51
                refine hFr _ _ _ ?_
                refine lv_ixor (pc := 304) hx hb (zdt_at zt_X10_mac_2 37 rfl) ?_
                refine lv_iload (pc := 305) hx hb (zdt_at zt_X10_mac_2 38 rfl) (lv_at hl 4 rfl) ?_
                refine lv_iload (pc := 307) hx hb (zdt_at zt_X10_mac_2 39 rfl) (lv_at hl 3 rfl) ?_
                refine lv_iconst (pc := 309) (v := (1 : Int32)) hx hb (zdt_at zt_X10_mac_2 40 rfl) (by decide) ?_
                refine lv_isub (pc := 310) hx hb (zdt_at zt_X10_mac_2 41 rfl) ?_
                refine lv_icmp_ne (pc := 311) (tgt := 324) hx hb (zdt_at zt_X10_mac_2 42 rfl) (by decide) (fun cn_ => ?t_52) (fun cn_ => ?f_53)
                case t_52 =>
                  replace hf := ze_s cn_ hf
                  clear cn_
                  refine lv_iconst (pc := 324) (v := (0 : Int32)) hx hb (zdt_at zt_X10_mac_2 48 rfl) (by decide) ?_
                  refine lv_ixor (pc := 325) hx hb (zdt_at zt_X10_mac_2 49 rfl) ?_
                  replace hf := zk_s hf
                  refine va_iast (pc := 326) hx hb hK hP hD hS 1 1 rfl rfl hf.1 (zdt_at zt_X10_mac_2 50 rfl) ?_
                  replace hf := hf.2
                  clear hP hD hS
                  intro H locs hP hD hS
                  obtain ⟨c_block_54, e_⟩ : ∃ q : Nat → Int32, q = (upd c_block_41 i_40.toNatClampNeg (((c_block_41 i_40.toNatClampNeg) ^^^ v_50) ^^^ (0 : Int32))) := ⟨_, rfl⟩
                  replace hf := zn_s hf e_
                  replace hP : va_P D vwCl ([(h0, .inr (12, zmo hm c_thrown c_state c_test c_words c_ill c_before c_inRow c_first c_inWindow c_same c_made c_requests c_total c_secrets c_rounds c_high c_low c_keyHigh c_keyLow)), ((hm 43), .inl (cy 1, 16, .inl c_block_54)), ((hm 39), .inl (cy 1, 256, .inl c_box)), ((hm 6), .inl (cy 1, 512, .inl c_buffer)), ((hm 44), .inl (cy 1, 16, .inl c_other_25)), ((hm 45), .inl (cy 1, 600, .inl c_result_15)), ((hm 41), .inl (cy 1, 240, .inl c_round))]) H := by rw [e_]; exact hP
                  replace hD : va_D A ([(h0, .inr (12, zmo hm c_thrown c_state c_test c_words c_ill c_before c_inRow c_first c_inWindow c_same c_made c_requests c_total c_secrets c_rounds c_high c_low c_keyHigh c_keyLow)), ((hm 43), .inl (cy 1, 16, .inl c_block_54)), ((hm 39), .inl (cy 1, 256, .inl c_box)), ((hm 6), .inl (cy 1, 512, .inl c_buffer)), ((hm 44), .inl (cy 1, 16, .inl c_other_25)), ((hm 45), .inl (cy 1, 600, .inl c_result_15)), ((hm 41), .inl (cy 1, 240, .inl c_round))]) := by rw [e_]; exact hD
                  clear e_
                  refine lv_iinc (pc := 327) (v := (i_40 + (1 : Int32))) (lv' := [(6, .int (i_40 + (1 : Int32))), (0, .ref h0), (1, .int p1), (2, .int p2), (4, .int v_17), (5, .int i_23)]) hx hb (zdt_at zt_X10_mac_2 51 rfl) hl (k := 5) rfl rfl (by decide) rfl ?_
                  clear hl
                  intro ls hl
                  refine lv_goto (pc := 330) (tgt := 243) hx hb (zdt_at zt_X10_mac_2 52 rfl) (by decide) ?_
                  exact hTo _ _ _ (ihself_46 _ hf H locs ls hP hD hS (lv_sub hl [1, 2, 3, 4, 5, 0] rfl))
                replace hf := zt_s cn_ hf
                clear cn_
                refine lv_aload_n (pc := 314) hx hb (zdt_at zt_X10_mac_2 43 rfl) rfl (lv_at hl 0 rfl) ?_
                refine va_get (pc := 315) (D := D) (ci := 12) (v := .ref (hm 45)) (C := RX10) (T := TX10) (N := 52) hx hb hts hcX10 hown hK hP 0 rfl rfl 45 (by decide) hw2 (fun _ h9 => h9) rfl (zdt_at zt_X10_mac_2 44 rfl) ?_
                refine lv_iload (pc := 318) hx hb (zdt_at zt_X10_mac_2 45 rfl) (lv_at hl 5 rfl) ?_
                replace hf := zk_s hf
                refine va_iald (pc := 320) hx hb hK hP 5 1 rfl rfl hf.1 (zdt_at zt_X10_mac_2 46 rfl) ?_
                replace hf := hf.2
                refine lv_goto (pc := 321) (tgt := 325) hx hb (zdt_at zt_X10_mac_2 47 rfl) (by decide) ?_
                refine lv_ixor (pc := 325) hx hb (zdt_at zt_X10_mac_2 49 rfl) ?_
                replace hf := zk_s hf
                refine va_iast (pc := 326) hx hb hK hP hD hS 1 1 rfl rfl hf.1 (zdt_at zt_X10_mac_2 50 rfl) ?_
                replace hf := hf.2
                clear hP hD hS
                intro H locs hP hD hS
                obtain ⟨c_block_55, e_⟩ : ∃ q : Nat → Int32, q = (upd c_block_41 i_40.toNatClampNeg (((c_block_41 i_40.toNatClampNeg) ^^^ v_50) ^^^ (c_result_15 i_40.toNatClampNeg))) := ⟨_, rfl⟩
                replace hf := zn_s hf e_
                replace hP : va_P D vwCl ([(h0, .inr (12, zmo hm c_thrown c_state c_test c_words c_ill c_before c_inRow c_first c_inWindow c_same c_made c_requests c_total c_secrets c_rounds c_high c_low c_keyHigh c_keyLow)), ((hm 43), .inl (cy 1, 16, .inl c_block_55)), ((hm 39), .inl (cy 1, 256, .inl c_box)), ((hm 6), .inl (cy 1, 512, .inl c_buffer)), ((hm 44), .inl (cy 1, 16, .inl c_other_25)), ((hm 45), .inl (cy 1, 600, .inl c_result_15)), ((hm 41), .inl (cy 1, 240, .inl c_round))]) H := by rw [e_]; exact hP
                replace hD : va_D A ([(h0, .inr (12, zmo hm c_thrown c_state c_test c_words c_ill c_before c_inRow c_first c_inWindow c_same c_made c_requests c_total c_secrets c_rounds c_high c_low c_keyHigh c_keyLow)), ((hm 43), .inl (cy 1, 16, .inl c_block_55)), ((hm 39), .inl (cy 1, 256, .inl c_box)), ((hm 6), .inl (cy 1, 512, .inl c_buffer)), ((hm 44), .inl (cy 1, 16, .inl c_other_25)), ((hm 45), .inl (cy 1, 600, .inl c_result_15)), ((hm 41), .inl (cy 1, 240, .inl c_round))]) := by rw [e_]; exact hD
                clear e_
                refine lv_iinc (pc := 327) (v := (i_40 + (1 : Int32))) (lv' := [(6, .int (i_40 + (1 : Int32))), (0, .ref h0), (1, .int p1), (2, .int p2), (4, .int v_17), (5, .int i_23)]) hx hb (zdt_at zt_X10_mac_2 51 rfl) hl (k := 5) rfl rfl (by decide) rfl ?_
                clear hl
                intro ls hl
                refine lv_goto (pc := 330) (tgt := 243) hx hb (zdt_at zt_X10_mac_2 52 rfl) (by decide) ?_
                exact hTo _ _ _ (ihself_46 _ hf H locs ls hP hD hS (lv_sub hl [1, 2, 3, 4, 5, 0] rfl))
              clear eK_51
              refine lv_icmp_ge (pc := 276) (tgt := 291) hx hb (zdt_at zt_X10_mac_2 23 rfl) (by decide) (fun cn_ => ?t_56) (fun cn_ => ?f_57)
              case f_57 =>
                replace hf := ze_s cn_ hf
                clear cn_
                refine lv_aload_n (pc := 279) hx hb (zdt_at zt_X10_mac_2 24 rfl) rfl (lv_at hl 1 rfl) ?_
                refine va_get (pc := 280) (D := D) (ci := 12) (v := .ref (hm 6)) (C := RX10) (T := TX10) (N := 52) hx hb hts hcX10 hown hK hP 0 rfl rfl 6 (by decide) hw0 (fun _ h9 => h9) rfl (zdt_at zt_X10_mac_2 25 rfl) ?_
                refine lv_iload_n (pc := 283) hx hb (zdt_at zt_X10_mac_2 26 rfl) rfl (lv_at hl 2 rfl) ?_
                refine lv_iload (pc := 284) hx hb (zdt_at zt_X10_mac_2 27 rfl) (lv_at hl 0 rfl) ?_
                refine lv_iadd (pc := 286) hx hb (zdt_at zt_X10_mac_2 28 rfl) ?_
                replace hf := zk_s hf
                refine va_iald (pc := 287) hx hb hK hP 3 1 rfl rfl hf.1 (zdt_at zt_X10_mac_2 29 rfl) ?_
                replace hf := hf.2
                refine lv_goto (pc := 288) (tgt := 304) hx hb (zdt_at zt_X10_mac_2 30 rfl) (by decide) ?_
                exact hTo _ _ _ (kK_51 _ H locs ls hP hD hS (lv_sub hl [1, 2, 3, 4, 5, 6] rfl) hf)
              replace hf := zt_s cn_ hf
              clear cn_
              refine lv_iload (pc := 291) hx hb (zdt_at zt_X10_mac_2 31 rfl) (lv_at hl 0 rfl) ?_
              refine lv_iload_n (pc := 293) hx hb (zdt_at zt_X10_mac_2 32 rfl) rfl (lv_at hl 3 rfl) ?_
              refine lv_icmp_ne (pc := 294) (tgt := 303) hx hb (zdt_at zt_X10_mac_2 33 rfl) (by decide) (fun cn_ => ?t_58) (fun cn_ => ?f_59)
              case t_58 =>
                replace hf := ze_s cn_ hf
                clear cn_
                refine lv_iconst (pc := 303) (v := (0 : Int32)) hx hb (zdt_at zt_X10_mac_2 36 rfl) (by decide) ?_
                exact hTo _ _ _ (kK_51 _ H locs ls hP hD hS (lv_sub hl [1, 2, 3, 4, 5, 6] rfl) hf)
              replace hf := zt_s cn_ hf
              clear cn_
              refine lv_sipush (pc := 297) (v := (128 : Int32)) hx hb (zdt_at zt_X10_mac_2 34 rfl) (by decide) ?_
              refine lv_goto (pc := 300) (tgt := 304) hx hb (zdt_at zt_X10_mac_2 35 rfl) (by decide) ?_
              exact hTo _ _ _ (kK_51 _ H locs ls hP hD hS (lv_sub hl [1, 2, 3, 4, 5, 6] rfl) hf)
            clear eK_22
            refine hTo _ _ _ (zl_go (fun z => match z with | (i_19, c_block_20) => ∀ (H : Heap) (locs : List Loc) (ls : Array Slot), va_P D vwCl ([(h0, .inr (12, zmo hm c_thrown c_state c_test c_words c_ill c_before c_inRow c_first c_inWindow c_same c_made c_requests c_total c_secrets c_rounds c_high c_low c_keyHigh c_keyLow)), ((hm 43), .inl (cy 1, 16, .inl c_block_20)), ((hm 39), .inl (cy 1, 256, .inl c_box)), ((hm 6), .inl (cy 1, 512, .inl c_buffer)), ((hm 44), .inl (cy 1, 16, .inl c_other_6)), ((hm 45), .inl (cy 1, 600, .inl c_result_15)), ((hm 41), .inl (cy 1, 240, .inl c_round))]) H → va_D A ([(h0, .inr (12, zmo hm c_thrown c_state c_test c_words c_ill c_before c_inRow c_first c_inWindow c_same c_made c_requests c_total c_secrets c_rounds c_high c_low c_keyHigh c_keyLow)), ((hm 43), .inl (cy 1, 16, .inl c_block_20)), ((hm 39), .inl (cy 1, 256, .inl c_box)), ((hm 6), .inl (cy 1, 512, .inl c_buffer)), ((hm 44), .inl (cy 1, 16, .inl c_other_6)), ((hm 45), .inl (cy 1, 600, .inl c_result_15)), ((hm 41), .inl (cy 1, 240, .inl c_round))]) → va_S A s.heap H locs → lv_has ls 8 [(0, .ref h0), (1, .int p1), (2, .int p2), (4, .int v_17), (5, .int i_19)] → GW H locs (F0 m 209 ls [])) hf ?_ H locs ls hP hD hS (lv_sub hl [2, 3, 4, 1, 0] rfl))
            clear hf hl hP hD hS
            intro self_60 ihself_60 z hf
            obtain ⟨i_19, c_block_20⟩ := z
            intro H locs ls hP hD hS hl
            refine hFr _ _ _ ?_
            unfold b_X10_mac_209 at hf
            refine lv_iload (pc := 209) hx hb (zdt_at zt_X10_mac_1 52 rfl) (lv_at hl 4 rfl) ?_
            refine lv_bipush (pc := 211) (v := (16 : Int32)) hx hb (zdt_at zt_X10_mac_1 53 rfl) (by decide) ?_
            refine lv_icmp_ge (pc := 213) (tgt := 230) hx hb (zdt_at zt_X10_mac_1 54 rfl) (by decide) (fun cn_ => ?t_61) (fun cn_ => ?f_62)
            case t_61 =>
              replace hf := zt_s cn_ hf
              clear cn_
              exact hTo _ _ _ (kK_22 _ H locs ls hP hD hS (lv_sub hl [0, 1, 2, 3] rfl) hf)
            replace hf := ze_s cn_ hf
            clear cn_
            refine lv_aload_n (pc := 216) hx hb (zdt_at zt_X10_mac_1 55 rfl) rfl (lv_at hl 0 rfl) ?_
            refine va_get (pc := 217) (D := D) (ci := 12) (v := .ref (hm 43)) (C := RX10) (T := TX10) (N := 52) hx hb hts hcX10 hown hK hP 0 rfl rfl 43 (by decide) hw1 (fun _ h9 => h9) rfl (zdt_at zt_X10_mac_1 56 rfl) ?_
            refine lv_iload (pc := 220) hx hb (zdt_at zt_X10_mac_1 57 rfl) (lv_at hl 4 rfl) ?_
            refine lv_iconst (pc := 222) (v := (0 : Int32)) hx hb (zdt_at zt_X10_mac_1 58 rfl) (by decide) ?_
            replace hf := zk_s hf
            refine va_iast (pc := 223) hx hb hK hP hD hS 1 1 rfl rfl hf.1 (zdt_at zt_X10_mac_1 59 rfl) ?_
            replace hf := hf.2
            clear hP hD hS
            intro H locs hP hD hS
            obtain ⟨c_block_63, e_⟩ : ∃ q : Nat → Int32, q = (upd c_block_20 i_19.toNatClampNeg (0 : Int32)) := ⟨_, rfl⟩
            replace hf := zn_s hf e_
            replace hP : va_P D vwCl ([(h0, .inr (12, zmo hm c_thrown c_state c_test c_words c_ill c_before c_inRow c_first c_inWindow c_same c_made c_requests c_total c_secrets c_rounds c_high c_low c_keyHigh c_keyLow)), ((hm 43), .inl (cy 1, 16, .inl c_block_63)), ((hm 39), .inl (cy 1, 256, .inl c_box)), ((hm 6), .inl (cy 1, 512, .inl c_buffer)), ((hm 44), .inl (cy 1, 16, .inl c_other_6)), ((hm 45), .inl (cy 1, 600, .inl c_result_15)), ((hm 41), .inl (cy 1, 240, .inl c_round))]) H := by rw [e_]; exact hP
            replace hD : va_D A ([(h0, .inr (12, zmo hm c_thrown c_state c_test c_words c_ill c_before c_inRow c_first c_inWindow c_same c_made c_requests c_total c_secrets c_rounds c_high c_low c_keyHigh c_keyLow)), ((hm 43), .inl (cy 1, 16, .inl c_block_63)), ((hm 39), .inl (cy 1, 256, .inl c_box)), ((hm 6), .inl (cy 1, 512, .inl c_buffer)), ((hm 44), .inl (cy 1, 16, .inl c_other_6)), ((hm 45), .inl (cy 1, 600, .inl c_result_15)), ((hm 41), .inl (cy 1, 240, .inl c_round))]) := by rw [e_]; exact hD
            clear e_
            refine lv_iinc (pc := 224) (v := (i_19 + (1 : Int32))) (lv' := [(5, .int (i_19 + (1 : Int32))), (0, .ref h0), (1, .int p1), (2, .int p2), (4, .int v_17)]) hx hb (zdt_at zt_X10_mac_1 60 rfl) hl (k := 4) rfl rfl (by decide) rfl ?_
            clear hl
            intro ls hl
            refine lv_goto (pc := 227) (tgt := 209) hx hb (zdt_at zt_X10_mac_1 61 rfl) (by decide) ?_
            exact hTo _ _ _ (ihself_60 _ hf H locs ls hP hD hS (lv_sub hl [1, 2, 3, 4, 0] rfl))
          clear eK_18
          refine lv_if_eq (pc := 188) (tgt := 198) hx hb (zdt_at zt_X10_mac_1 39 rfl) (by decide) (fun cn_ => ?t_64) (fun cn_ => ?f_65)
          case f_65 =>
            replace hf := ze_s cn_ hf
            clear cn_
            refine lv_iload_n (pc := 191) hx hb (zdt_at zt_X10_mac_1 40 rfl) rfl (lv_at hl 2 rfl) ?_
            refine lv_bipush (pc := 192) (v := (16 : Int32)) hx hb (zdt_at zt_X10_mac_1 41 rfl) (by decide) ?_
            replace hf := zk_s hf
            refine lv_idiv (pc := 194) hx hb (zdt_at zt_X10_mac_1 42 rfl) hf.1 ?_
            replace hf := hf.2
            refine lv_goto (pc := 195) (tgt := 204) hx hb (zdt_at zt_X10_mac_1 43 rfl) (by decide) ?_
            exact hTo _ _ _ (kK_18 _ H locs ls hP hD hS (lv_sub hl [0, 1, 2] rfl) hf)
          replace hf := zt_s cn_ hf
          clear cn_
          refine lv_iload_n (pc := 198) hx hb (zdt_at zt_X10_mac_1 44 rfl) rfl (lv_at hl 2 rfl) ?_
          refine lv_bipush (pc := 199) (v := (16 : Int32)) hx hb (zdt_at zt_X10_mac_1 45 rfl) (by decide) ?_
          replace hf := zk_s hf
          refine lv_idiv (pc := 201) hx hb (zdt_at zt_X10_mac_1 46 rfl) hf.1 ?_
          replace hf := hf.2
          refine lv_iconst (pc := 202) (v := (1 : Int32)) hx hb (zdt_at zt_X10_mac_1 47 rfl) (by decide) ?_
          refine lv_iadd (pc := 203) hx hb (zdt_at zt_X10_mac_1 48 rfl) ?_
          exact hTo _ _ _ (kK_18 _ H locs ls hP hD hS (lv_sub hl [0, 1, 2] rfl) hf)
        clear eK_16
        refine hTo _ _ _ (zl_go (fun z => match z with | (i_13, c_result_14) => ∀ (H : Heap) (locs : List Loc) (ls : Array Slot), va_P D vwCl ([(h0, .inr (12, zmo hm c_thrown c_state c_test c_words c_ill c_before c_inRow c_first c_inWindow c_same c_made c_requests c_total c_secrets c_rounds c_high c_low c_keyHigh c_keyLow)), ((hm 43), .inl (cy 1, 16, .inl c_block_11)), ((hm 39), .inl (cy 1, 256, .inl c_box)), ((hm 6), .inl (cy 1, 512, .inl c_buffer)), ((hm 44), .inl (cy 1, 16, .inl c_other_6)), ((hm 45), .inl (cy 1, 600, .inl c_result_14)), ((hm 41), .inl (cy 1, 240, .inl c_round))]) H → va_D A ([(h0, .inr (12, zmo hm c_thrown c_state c_test c_words c_ill c_before c_inRow c_first c_inWindow c_same c_made c_requests c_total c_secrets c_rounds c_high c_low c_keyHigh c_keyLow)), ((hm 43), .inl (cy 1, 16, .inl c_block_11)), ((hm 39), .inl (cy 1, 256, .inl c_box)), ((hm 6), .inl (cy 1, 512, .inl c_buffer)), ((hm 44), .inl (cy 1, 16, .inl c_other_6)), ((hm 45), .inl (cy 1, 600, .inl c_result_14)), ((hm 41), .inl (cy 1, 240, .inl c_round))]) → va_S A s.heap H locs → lv_has ls 8 [(0, .ref h0), (1, .int p1), (2, .int p2), (3, .int v_7), (4, .int i_13)] → GW H locs (F0 m 160 ls [])) hf ?_ H locs ls hP hD hS (lv_sub hl [1, 2, 3, 4, 0] rfl))
        clear hf hl hP hD hS
        intro self_66 ihself_66 z hf
        obtain ⟨i_13, c_result_14⟩ := z
        intro H locs ls hP hD hS hl
        refine hFr _ _ _ ?_
        unfold b_X10_mac_160 at hf
        refine lv_iload (pc := 160) hx hb (zdt_at zt_X10_mac_1 25 rfl) (lv_at hl 4 rfl) ?_
        refine lv_bipush (pc := 162) (v := (16 : Int32)) hx hb (zdt_at zt_X10_mac_1 26 rfl) (by decide) ?_
        refine lv_icmp_ge (pc := 164) (tgt := 187) hx hb (zdt_at zt_X10_mac_1 27 rfl) (by decide) (fun cn_ => ?t_67) (fun cn_ => ?f_68)
        case t_67 =>
          replace hf := zt_s cn_ hf
          clear cn_
          exact hTo _ _ _ (kK_16 _ H locs ls hP hD hS (lv_sub hl [0, 1, 2, 3] rfl) hf)
        replace hf := ze_s cn_ hf
        clear cn_
        refine lv_aload_n (pc := 167) hx hb (zdt_at zt_X10_mac_1 28 rfl) rfl (lv_at hl 0 rfl) ?_
        refine va_get (pc := 168) (D := D) (ci := 12) (v := .ref (hm 45)) (C := RX10) (T := TX10) (N := 52) hx hb hts hcX10 hown hK hP 0 rfl rfl 45 (by decide) hw2 (fun _ h9 => h9) rfl (zdt_at zt_X10_mac_1 29 rfl) ?_
        refine lv_iload (pc := 171) hx hb (zdt_at zt_X10_mac_1 30 rfl) (lv_at hl 4 rfl) ?_
        refine lv_aload_n (pc := 173) hx hb (zdt_at zt_X10_mac_1 31 rfl) rfl (lv_at hl 0 rfl) ?_
        refine va_get (pc := 174) (D := D) (ci := 12) (v := .ref (hm 43)) (C := RX10) (T := TX10) (N := 52) hx hb hts hcX10 hown hK hP 0 rfl rfl 43 (by decide) hw1 (fun _ h9 => h9) rfl (zdt_at zt_X10_mac_1 32 rfl) ?_
        refine lv_iload (pc := 177) hx hb (zdt_at zt_X10_mac_1 33 rfl) (lv_at hl 4 rfl) ?_
        replace hf := zk_s hf
        refine va_iald (pc := 179) hx hb hK hP 1 1 rfl rfl hf.1 (zdt_at zt_X10_mac_1 34 rfl) ?_
        replace hf := hf.2
        replace hf := zk_s hf
        refine va_iast (pc := 180) hx hb hK hP hD hS 5 1 rfl rfl hf.1 (zdt_at zt_X10_mac_1 35 rfl) ?_
        replace hf := hf.2
        clear hP hD hS
        intro H locs hP hD hS
        obtain ⟨c_result_69, e_⟩ : ∃ q : Nat → Int32, q = (upd c_result_14 i_13.toNatClampNeg (c_block_11 i_13.toNatClampNeg)) := ⟨_, rfl⟩
        replace hf := zn_s hf e_
        replace hP : va_P D vwCl ([(h0, .inr (12, zmo hm c_thrown c_state c_test c_words c_ill c_before c_inRow c_first c_inWindow c_same c_made c_requests c_total c_secrets c_rounds c_high c_low c_keyHigh c_keyLow)), ((hm 43), .inl (cy 1, 16, .inl c_block_11)), ((hm 39), .inl (cy 1, 256, .inl c_box)), ((hm 6), .inl (cy 1, 512, .inl c_buffer)), ((hm 44), .inl (cy 1, 16, .inl c_other_6)), ((hm 45), .inl (cy 1, 600, .inl c_result_69)), ((hm 41), .inl (cy 1, 240, .inl c_round))]) H := by rw [e_]; exact hP
        replace hD : va_D A ([(h0, .inr (12, zmo hm c_thrown c_state c_test c_words c_ill c_before c_inRow c_first c_inWindow c_same c_made c_requests c_total c_secrets c_rounds c_high c_low c_keyHigh c_keyLow)), ((hm 43), .inl (cy 1, 16, .inl c_block_11)), ((hm 39), .inl (cy 1, 256, .inl c_box)), ((hm 6), .inl (cy 1, 512, .inl c_buffer)), ((hm 44), .inl (cy 1, 16, .inl c_other_6)), ((hm 45), .inl (cy 1, 600, .inl c_result_69)), ((hm 41), .inl (cy 1, 240, .inl c_round))]) := by rw [e_]; exact hD
        clear e_
        refine lv_iinc (pc := 181) (v := (i_13 + (1 : Int32))) (lv' := [(4, .int (i_13 + (1 : Int32))), (0, .ref h0), (1, .int p1), (2, .int p2), (3, .int v_7)]) hx hb (zdt_at zt_X10_mac_1 36 rfl) hl (k := 4) rfl rfl (by decide) rfl ?_
        clear hl
        intro ls hl
        refine lv_goto (pc := 184) (tgt := 160) hx hb (zdt_at zt_X10_mac_1 37 rfl) (by decide) ?_
        exact hTo _ _ _ (ihself_66 _ hf H locs ls hP hD hS (lv_sub hl [1, 2, 3, 4, 0] rfl))
      clear eK_12
      refine hTo _ _ _ (zl_go (fun z => match z with | (i_9, c_block_10) => ∀ (H : Heap) (locs : List Loc) (ls : Array Slot), va_P D vwCl ([(h0, .inr (12, zmo hm c_thrown c_state c_test c_words c_ill c_before c_inRow c_first c_inWindow c_same c_made c_requests c_total c_secrets c_rounds c_high c_low c_keyHigh c_keyLow)), ((hm 43), .inl (cy 1, 16, .inl c_block_10)), ((hm 39), .inl (cy 1, 256, .inl c_box)), ((hm 6), .inl (cy 1, 512, .inl c_buffer)), ((hm 44), .inl (cy 1, 16, .inl c_other_6)), ((hm 45), .inl (cy 1, 600, .inl c_result)), ((hm 41), .inl (cy 1, 240, .inl c_round))]) H → va_D A ([(h0, .inr (12, zmo hm c_thrown c_state c_test c_words c_ill c_before c_inRow c_first c_inWindow c_same c_made c_requests c_total c_secrets c_rounds c_high c_low c_keyHigh c_keyLow)), ((hm 43), .inl (cy 1, 16, .inl c_block_10)), ((hm 39), .inl (cy 1, 256, .inl c_box)), ((hm 6), .inl (cy 1, 512, .inl c_buffer)), ((hm 44), .inl (cy 1, 16, .inl c_other_6)), ((hm 45), .inl (cy 1, 600, .inl c_result)), ((hm 41), .inl (cy 1, 240, .inl c_round))]) → va_S A s.heap H locs → lv_has ls 8 [(0, .ref h0), (1, .int p1), (2, .int p2), (3, .int v_7), (4, .int i_9)] → GW H locs (F0 m 45 ls [])) hf ?_ H locs ls hP hD hS (lv_sub hl [2, 3, 4, 1, 0] rfl))
      clear hf hl hP hD hS
      intro self_70 ihself_70 z hf
      obtain ⟨i_9, c_block_10⟩ := z
      intro H locs ls hP hD hS hl
      refine hFr _ _ _ ?_
      unfold b_X10_mac_45 at hf
      refine lv_iload (pc := 45) hx hb (zdt_at zt_X10_mac_0 26 rfl) (lv_at hl 4 rfl) ?_
      refine lv_iload_n (pc := 47) hx hb (zdt_at zt_X10_mac_0 27 rfl) rfl (lv_at hl 3 rfl) ?_
      replace hf := zj_s hf
      obtain ⟨K_72, eK_72, hf⟩ := hf
      have kK_72 : ∀ (v_71 : Int32) (H : Heap) (locs : List Loc) (ls : Array Slot), va_P D vwCl ([(h0, .inr (12, zmo hm c_thrown c_state c_test c_words c_ill c_before c_inRow c_first c_inWindow c_same c_made c_requests c_total c_secrets c_rounds c_high c_low c_keyHigh c_keyLow)), ((hm 43), .inl (cy 1, 16, .inl c_block_10)), ((hm 39), .inl (cy 1, 256, .inl c_box)), ((hm 6), .inl (cy 1, 512, .inl c_buffer)), ((hm 44), .inl (cy 1, 16, .inl c_other_6)), ((hm 45), .inl (cy 1, 600, .inl c_result)), ((hm 41), .inl (cy 1, 240, .inl c_round))]) H → va_D A ([(h0, .inr (12, zmo hm c_thrown c_state c_test c_words c_ill c_before c_inRow c_first c_inWindow c_same c_made c_requests c_total c_secrets c_rounds c_high c_low c_keyHigh c_keyLow)), ((hm 43), .inl (cy 1, 16, .inl c_block_10)), ((hm 39), .inl (cy 1, 256, .inl c_box)), ((hm 6), .inl (cy 1, 512, .inl c_buffer)), ((hm 44), .inl (cy 1, 16, .inl c_other_6)), ((hm 45), .inl (cy 1, 600, .inl c_result)), ((hm 41), .inl (cy 1, 240, .inl c_round))]) → va_S A s.heap H locs → lv_has ls 8 [(0, .ref h0), (1, .int p1), (2, .int p2), (3, .int v_7), (4, .int i_9)] → K_72 v_71 = some (r_, c_block', c_buffer', c_other', c_result') → GW H locs (F0 m 56 ls [.int v_71, .int i_9]) := by
        clear hf hl hP hD hS
        intro v_71 H locs ls hP hD hS hl hf
        rw [eK_72] at hf
        clear eK_72
        refine hFr _ _ _ ?_
        refine lv_icmp_ge (pc := 56) (tgt := 157) hx hb (zdt_at zt_X10_mac_0 32 rfl) (by decide) (fun cn_ => ?t_73) (fun cn_ => ?f_74)
        case t_73 =>
          replace hf := zt_s cn_ hf
          clear cn_
          exact hTo _ _ _ (kK_12 _ H locs ls hP hD hS (lv_sub hl [0, 1, 2, 3] rfl) hf)
        replace hf := ze_s cn_ hf
        clear cn_
        refine lv_aload_n (pc := 59) hx hb (zdt_at zt_X10_mac_0 33 rfl) rfl (lv_at hl 0 rfl) ?_
        refine va_get (pc := 60) (D := D) (ci := 12) (v := .ref (hm 43)) (C := RX10) (T := TX10) (N := 52) hx hb hts hcX10 hown hK hP 0 rfl rfl 43 (by decide) hw1 (fun _ h9 => h9) rfl (zdt_at zt_X10_mac_0 34 rfl) ?_
        refine lv_iconst (pc := 63) (v := (0 : Int32)) hx hb (zdt_at zt_X10_mac_0 35 rfl) (by decide) ?_
        replace hf := zk_s hf
        refine va_iald (pc := 64) hx hb hK hP 1 1 rfl rfl hf.1 (zdt_at zt_X10_mac_0 36 rfl) ?_
        replace hf := hf.2
        refine lv_bipush (pc := 65) (v := (7 : Int32)) hx hb (zdt_at zt_X10_mac_0 37 rfl) (by decide) ?_
        refine lv_ishr (pc := 67) hx hb (zdt_at zt_X10_mac_0 38 rfl) ?_
        refine lv_topi (fun x_75 e_ => ?_)
        replace hf := zn_s hf e_
        clear e_
        refine lv_istore (pc := 68) (lv' := [(5, .int x_75), (0, .ref h0), (1, .int p1), (2, .int p2), (3, .int v_7), (4, .int i_9)]) hx hb (zdt_at zt_X10_mac_0 39 rfl) hl (by decide) rfl ?_
        clear hl
        intro ls hl
        refine lv_iconst (pc := 70) (v := (0 : Int32)) hx hb (zdt_at zt_X10_mac_0 40 rfl) (by decide) ?_
        refine lv_istore (pc := 71) (lv' := [(6, .int (0 : Int32)), (5, .int x_75), (0, .ref h0), (1, .int p1), (2, .int p2), (3, .int v_7), (4, .int i_9)]) hx hb (zdt_at zt_X10_mac_0 41 rfl) hl (by decide) rfl ?_
        clear hl
        intro ls hl
        replace hf := zj_s hf
        obtain ⟨K_79, eK_79, hf⟩ := hf
        have kK_79 : ∀ (c_block_78 : Nat → Int32) (H : Heap) (locs : List Loc) (ls : Array Slot), va_P D vwCl ([(h0, .inr (12, zmo hm c_thrown c_state c_test c_words c_ill c_before c_inRow c_first c_inWindow c_same c_made c_requests c_total c_secrets c_rounds c_high c_low c_keyHigh c_keyLow)), ((hm 43), .inl (cy 1, 16, .inl c_block_78)), ((hm 39), .inl (cy 1, 256, .inl c_box)), ((hm 6), .inl (cy 1, 512, .inl c_buffer)), ((hm 44), .inl (cy 1, 16, .inl c_other_6)), ((hm 45), .inl (cy 1, 600, .inl c_result)), ((hm 41), .inl (cy 1, 240, .inl c_round))]) H → va_D A ([(h0, .inr (12, zmo hm c_thrown c_state c_test c_words c_ill c_before c_inRow c_first c_inWindow c_same c_made c_requests c_total c_secrets c_rounds c_high c_low c_keyHigh c_keyLow)), ((hm 43), .inl (cy 1, 16, .inl c_block_78)), ((hm 39), .inl (cy 1, 256, .inl c_box)), ((hm 6), .inl (cy 1, 512, .inl c_buffer)), ((hm 44), .inl (cy 1, 16, .inl c_other_6)), ((hm 45), .inl (cy 1, 600, .inl c_result)), ((hm 41), .inl (cy 1, 240, .inl c_round))]) → va_S A s.heap H locs → lv_has ls 8 [(0, .ref h0), (1, .int p1), (2, .int p2), (3, .int v_7), (4, .int i_9), (5, .int x_75)] → K_79 c_block_78 = some (r_, c_block', c_buffer', c_other', c_result') → GW H locs (F0 m 130 ls []) := by
          clear hf hl hP hD hS
          intro c_block_78 H locs ls hP hD hS hl hf
          rw [eK_79] at hf
          clear eK_79
          refine hFr _ _ _ ?_
          refine lv_aload_n (pc := 130) hx hb (zdt_at zt_X10_mac_1 9 rfl) rfl (lv_at hl 0 rfl) ?_
          refine va_get (pc := 131) (D := D) (ci := 12) (v := .ref (hm 43)) (C := RX10) (T := TX10) (N := 52) hx hb hts hcX10 hown hK hP 0 rfl rfl 43 (by decide) hw1 (fun _ h9 => h9) rfl (zdt_at zt_X10_mac_1 10 rfl) ?_
          refine lv_bipush (pc := 134) (v := (15 : Int32)) hx hb (zdt_at zt_X10_mac_1 11 rfl) (by decide) ?_
          refine lv_aload_n (pc := 136) hx hb (zdt_at zt_X10_mac_1 12 rfl) rfl (lv_at hl 0 rfl) ?_
          refine va_get (pc := 137) (D := D) (ci := 12) (v := .ref (hm 43)) (C := RX10) (T := TX10) (N := 52) hx hb hts hcX10 hown hK hP 0 rfl rfl 43 (by decide) hw1 (fun _ h9 => h9) rfl (zdt_at zt_X10_mac_1 13 rfl) ?_
          refine lv_bipush (pc := 140) (v := (15 : Int32)) hx hb (zdt_at zt_X10_mac_1 14 rfl) (by decide) ?_
          replace hf := zk_s hf
          refine va_iald (pc := 142) hx hb hK hP 1 1 rfl rfl hf.1 (zdt_at zt_X10_mac_1 15 rfl) ?_
          replace hf := hf.2
          refine lv_sipush (pc := 143) (v := (135 : Int32)) hx hb (zdt_at zt_X10_mac_1 16 rfl) (by decide) ?_
          refine lv_iload (pc := 146) hx hb (zdt_at zt_X10_mac_1 17 rfl) (lv_at hl 5 rfl) ?_
          refine lv_imul (pc := 148) hx hb (zdt_at zt_X10_mac_1 18 rfl) ?_
          refine lv_ixor (pc := 149) hx hb (zdt_at zt_X10_mac_1 19 rfl) ?_
          replace hf := zk_s hf
          refine va_iast (pc := 150) hx hb hK hP hD hS 1 1 rfl rfl hf.1 (zdt_at zt_X10_mac_1 20 rfl) ?_
          replace hf := hf.2
          clear hP hD hS
          intro H locs hP hD hS
          obtain ⟨c_block_80, e_⟩ : ∃ q : Nat → Int32, q = (upd c_block_78 (15 : Int32).toNatClampNeg ((c_block_78 (15 : Int32).toNatClampNeg) ^^^ ((135 : Int32) * x_75))) := ⟨_, rfl⟩
          replace hf := zn_s hf e_
          replace hP : va_P D vwCl ([(h0, .inr (12, zmo hm c_thrown c_state c_test c_words c_ill c_before c_inRow c_first c_inWindow c_same c_made c_requests c_total c_secrets c_rounds c_high c_low c_keyHigh c_keyLow)), ((hm 43), .inl (cy 1, 16, .inl c_block_80)), ((hm 39), .inl (cy 1, 256, .inl c_box)), ((hm 6), .inl (cy 1, 512, .inl c_buffer)), ((hm 44), .inl (cy 1, 16, .inl c_other_6)), ((hm 45), .inl (cy 1, 600, .inl c_result)), ((hm 41), .inl (cy 1, 240, .inl c_round))]) H := by rw [e_]; exact hP
          replace hD : va_D A ([(h0, .inr (12, zmo hm c_thrown c_state c_test c_words c_ill c_before c_inRow c_first c_inWindow c_same c_made c_requests c_total c_secrets c_rounds c_high c_low c_keyHigh c_keyLow)), ((hm 43), .inl (cy 1, 16, .inl c_block_80)), ((hm 39), .inl (cy 1, 256, .inl c_box)), ((hm 6), .inl (cy 1, 512, .inl c_buffer)), ((hm 44), .inl (cy 1, 16, .inl c_other_6)), ((hm 45), .inl (cy 1, 600, .inl c_result)), ((hm 41), .inl (cy 1, 240, .inl c_round))]) := by rw [e_]; exact hD
          clear e_
          refine lv_iinc (pc := 151) (v := (i_9 + (1 : Int32))) (lv' := [(4, .int (i_9 + (1 : Int32))), (0, .ref h0), (1, .int p1), (2, .int p2), (3, .int v_7), (5, .int x_75)]) hx hb (zdt_at zt_X10_mac_1 21 rfl) hl (k := 4) rfl rfl (by decide) rfl ?_
          clear hl
          intro ls hl
          refine lv_goto (pc := 154) (tgt := 45) hx hb (zdt_at zt_X10_mac_1 22 rfl) (by decide) ?_
          exact hTo _ _ _ (ihself_70 _ hf H locs ls hP hD hS (lv_sub hl [1, 2, 3, 4, 0] rfl))
        clear eK_79
        refine hTo _ _ _ (zl_go (fun z => match z with | (i_76, c_block_77) => ∀ (H : Heap) (locs : List Loc) (ls : Array Slot), va_P D vwCl ([(h0, .inr (12, zmo hm c_thrown c_state c_test c_words c_ill c_before c_inRow c_first c_inWindow c_same c_made c_requests c_total c_secrets c_rounds c_high c_low c_keyHigh c_keyLow)), ((hm 43), .inl (cy 1, 16, .inl c_block_77)), ((hm 39), .inl (cy 1, 256, .inl c_box)), ((hm 6), .inl (cy 1, 512, .inl c_buffer)), ((hm 44), .inl (cy 1, 16, .inl c_other_6)), ((hm 45), .inl (cy 1, 600, .inl c_result)), ((hm 41), .inl (cy 1, 240, .inl c_round))]) H → va_D A ([(h0, .inr (12, zmo hm c_thrown c_state c_test c_words c_ill c_before c_inRow c_first c_inWindow c_same c_made c_requests c_total c_secrets c_rounds c_high c_low c_keyHigh c_keyLow)), ((hm 43), .inl (cy 1, 16, .inl c_block_77)), ((hm 39), .inl (cy 1, 256, .inl c_box)), ((hm 6), .inl (cy 1, 512, .inl c_buffer)), ((hm 44), .inl (cy 1, 16, .inl c_other_6)), ((hm 45), .inl (cy 1, 600, .inl c_result)), ((hm 41), .inl (cy 1, 240, .inl c_round))]) → va_S A s.heap H locs → lv_has ls 8 [(0, .ref h0), (1, .int p1), (2, .int p2), (3, .int v_7), (4, .int i_9), (5, .int x_75), (6, .int i_76)] → GW H locs (F0 m 73 ls [])) hf ?_ H locs ls hP hD hS (lv_sub hl [2, 3, 4, 5, 6, 1, 0] rfl))
        clear hf hl hP hD hS
        intro self_81 ihself_81 z hf
        obtain ⟨i_76, c_block_77⟩ := z
        intro H locs ls hP hD hS hl
        refine hFr _ _ _ ?_
        unfold b_X10_mac_73 at hf
        refine lv_iload (pc := 73) hx hb (zdt_at zt_X10_mac_0 42 rfl) (lv_at hl 6 rfl) ?_
        refine lv_bipush (pc := 75) (v := (16 : Int32)) hx hb (zdt_at zt_X10_mac_0 43 rfl) (by decide) ?_
        refine lv_icmp_ge (pc := 77) (tgt := 130) hx hb (zdt_at zt_X10_mac_0 44 rfl) (by decide) (fun cn_ => ?t_82) (fun cn_ => ?f_83)
        case t_82 =>
          replace hf := zt_s cn_ hf
          clear cn_
          exact hTo _ _ _ (kK_79 _ H locs ls hP hD hS (lv_sub hl [0, 1, 2, 3, 4, 5] rfl) hf)
        replace hf := ze_s cn_ hf
        clear cn_
        refine lv_aload_n (pc := 80) hx hb (zdt_at zt_X10_mac_0 45 rfl) rfl (lv_at hl 0 rfl) ?_
        refine va_get (pc := 81) (D := D) (ci := 12) (v := .ref (hm 43)) (C := RX10) (T := TX10) (N := 52) hx hb hts hcX10 hown hK hP 0 rfl rfl 43 (by decide) hw1 (fun _ h9 => h9) rfl (zdt_at zt_X10_mac_0 46 rfl) ?_
        refine lv_iload (pc := 84) hx hb (zdt_at zt_X10_mac_0 47 rfl) (lv_at hl 6 rfl) ?_
        refine lv_aload_n (pc := 86) hx hb (zdt_at zt_X10_mac_0 48 rfl) rfl (lv_at hl 0 rfl) ?_
        refine va_get (pc := 87) (D := D) (ci := 12) (v := .ref (hm 43)) (C := RX10) (T := TX10) (N := 52) hx hb hts hcX10 hown hK hP 0 rfl rfl 43 (by decide) hw1 (fun _ h9 => h9) rfl (zdt_at zt_X10_mac_0 49 rfl) ?_
        refine lv_iload (pc := 90) hx hb (zdt_at zt_X10_mac_0 50 rfl) (lv_at hl 6 rfl) ?_
        replace hf := zk_s hf
        refine va_iald (pc := 92) hx hb hK hP 1 1 rfl rfl hf.1 (zdt_at zt_X10_mac_0 51 rfl) ?_
        replace hf := hf.2
        refine lv_iconst (pc := 93) (v := (1 : Int32)) hx hb (zdt_at zt_X10_mac_0 52 rfl) (by decide) ?_
        refine lv_ishl (pc := 94) hx hb (zdt_at zt_X10_mac_0 53 rfl) ?_
        refine lv_iload (pc := 95) hx hb (zdt_at zt_X10_mac_0 54 rfl) (lv_at hl 6 rfl) ?_
        refine lv_bipush (pc := 97) (v := (15 : Int32)) hx hb (zdt_at zt_X10_mac_0 55 rfl) (by decide) ?_
        refine lv_icmp_ge (pc := 99) (tgt := 117) hx hb (zdt_at zt_X10_mac_0 56 rfl) (by decide) (fun cn_ => ?t_84) (fun cn_ => ?f_85)
        case t_84 =>
          replace hf := zt_s cn_ hf
          clear cn_
          refine lv_iconst (pc := 117) (v := (0 : Int32)) hx hb (zdt_at zt_X10_mac_1 2 rfl) (by decide) ?_
          refine lv_ior (pc := 118) hx hb (zdt_at zt_X10_mac_1 3 rfl) ?_
          refine lv_sipush (pc := 119) (v := (255 : Int32)) hx hb (zdt_at zt_X10_mac_1 4 rfl) (by decide) ?_
          refine lv_iand (pc := 122) hx hb (zdt_at zt_X10_mac_1 5 rfl) ?_
          replace hf := zk_s hf
          refine va_iast (pc := 123) hx hb hK hP hD hS 1 1 rfl rfl hf.1 (zdt_at zt_X10_mac_1 6 rfl) ?_
          replace hf := hf.2
          clear hP hD hS
          intro H locs hP hD hS
          obtain ⟨c_block_86, e_⟩ : ∃ q : Nat → Int32, q = (upd c_block_77 i_76.toNatClampNeg ((((c_block_77 i_76.toNatClampNeg) <<< ((1 : Int32) &&& 31)) ||| (0 : Int32)) &&& (255 : Int32))) := ⟨_, rfl⟩
          replace hf := zn_s hf e_
          replace hP : va_P D vwCl ([(h0, .inr (12, zmo hm c_thrown c_state c_test c_words c_ill c_before c_inRow c_first c_inWindow c_same c_made c_requests c_total c_secrets c_rounds c_high c_low c_keyHigh c_keyLow)), ((hm 43), .inl (cy 1, 16, .inl c_block_86)), ((hm 39), .inl (cy 1, 256, .inl c_box)), ((hm 6), .inl (cy 1, 512, .inl c_buffer)), ((hm 44), .inl (cy 1, 16, .inl c_other_6)), ((hm 45), .inl (cy 1, 600, .inl c_result)), ((hm 41), .inl (cy 1, 240, .inl c_round))]) H := by rw [e_]; exact hP
          replace hD : va_D A ([(h0, .inr (12, zmo hm c_thrown c_state c_test c_words c_ill c_before c_inRow c_first c_inWindow c_same c_made c_requests c_total c_secrets c_rounds c_high c_low c_keyHigh c_keyLow)), ((hm 43), .inl (cy 1, 16, .inl c_block_86)), ((hm 39), .inl (cy 1, 256, .inl c_box)), ((hm 6), .inl (cy 1, 512, .inl c_buffer)), ((hm 44), .inl (cy 1, 16, .inl c_other_6)), ((hm 45), .inl (cy 1, 600, .inl c_result)), ((hm 41), .inl (cy 1, 240, .inl c_round))]) := by rw [e_]; exact hD
          clear e_
          refine lv_iinc (pc := 124) (v := (i_76 + (1 : Int32))) (lv' := [(6, .int (i_76 + (1 : Int32))), (0, .ref h0), (1, .int p1), (2, .int p2), (3, .int v_7), (4, .int i_9), (5, .int x_75)]) hx hb (zdt_at zt_X10_mac_1 7 rfl) hl (k := 6) rfl rfl (by decide) rfl ?_
          clear hl
          intro ls hl
          refine lv_goto (pc := 127) (tgt := 73) hx hb (zdt_at zt_X10_mac_1 8 rfl) (by decide) ?_
          exact hTo _ _ _ (ihself_81 _ hf H locs ls hP hD hS (lv_sub hl [1, 2, 3, 4, 5, 6, 0] rfl))
        replace hf := ze_s cn_ hf
        clear cn_
        refine lv_aload_n (pc := 102) hx hb (zdt_at zt_X10_mac_0 57 rfl) rfl (lv_at hl 0 rfl) ?_
        refine va_get (pc := 103) (D := D) (ci := 12) (v := .ref (hm 43)) (C := RX10) (T := TX10) (N := 52) hx hb hts hcX10 hown hK hP 0 rfl rfl 43 (by decide) hw1 (fun _ h9 => h9) rfl (zdt_at zt_X10_mac_0 58 rfl) ?_
        refine lv_iload (pc := 106) hx hb (zdt_at zt_X10_mac_0 59 rfl) (lv_at hl 6 rfl) ?_
        refine lv_iconst (pc := 108) (v := (1 : Int32)) hx hb (zdt_at zt_X10_mac_0 60 rfl) (by decide) ?_
        refine lv_iadd (pc := 109) hx hb (zdt_at zt_X10_mac_0 61 rfl) ?_
        replace hf := zk_s hf
        refine va_iald (pc := 110) hx hb hK hP 1 1 rfl rfl hf.1 (zdt_at zt_X10_mac_0 62 rfl) ?_
        replace hf := hf.2
        refine lv_bipush (pc := 111) (v := (7 : Int32)) hx hb (zdt_at zt_X10_mac_0 63 rfl) (by decide) ?_
        refine lv_ishr (pc := 113) hx hb (zdt_at zt_X10_mac_1 0 rfl) ?_
        refine lv_goto (pc := 114) (tgt := 118) hx hb (zdt_at zt_X10_mac_1 1 rfl) (by decide) ?_
        refine lv_ior (pc := 118) hx hb (zdt_at zt_X10_mac_1 3 rfl) ?_
        refine lv_sipush (pc := 119) (v := (255 : Int32)) hx hb (zdt_at zt_X10_mac_1 4 rfl) (by decide) ?_
        refine lv_iand (pc := 122) hx hb (zdt_at zt_X10_mac_1 5 rfl) ?_
        replace hf := zk_s hf
        refine va_iast (pc := 123) hx hb hK hP hD hS 1 1 rfl rfl hf.1 (zdt_at zt_X10_mac_1 6 rfl) ?_
        replace hf := hf.2
        clear hP hD hS
        intro H locs hP hD hS
        obtain ⟨c_block_87, e_⟩ : ∃ q : Nat → Int32, q = (upd c_block_77 i_76.toNatClampNeg ((((c_block_77 i_76.toNatClampNeg) <<< ((1 : Int32) &&& 31)) ||| ((c_block_77 (i_76 + (1 : Int32)).toNatClampNeg) >>> ((7 : Int32) &&& 31))) &&& (255 : Int32))) := ⟨_, rfl⟩
        replace hf := zn_s hf e_
        replace hP : va_P D vwCl ([(h0, .inr (12, zmo hm c_thrown c_state c_test c_words c_ill c_before c_inRow c_first c_inWindow c_same c_made c_requests c_total c_secrets c_rounds c_high c_low c_keyHigh c_keyLow)), ((hm 43), .inl (cy 1, 16, .inl c_block_87)), ((hm 39), .inl (cy 1, 256, .inl c_box)), ((hm 6), .inl (cy 1, 512, .inl c_buffer)), ((hm 44), .inl (cy 1, 16, .inl c_other_6)), ((hm 45), .inl (cy 1, 600, .inl c_result)), ((hm 41), .inl (cy 1, 240, .inl c_round))]) H := by rw [e_]; exact hP
        replace hD : va_D A ([(h0, .inr (12, zmo hm c_thrown c_state c_test c_words c_ill c_before c_inRow c_first c_inWindow c_same c_made c_requests c_total c_secrets c_rounds c_high c_low c_keyHigh c_keyLow)), ((hm 43), .inl (cy 1, 16, .inl c_block_87)), ((hm 39), .inl (cy 1, 256, .inl c_box)), ((hm 6), .inl (cy 1, 512, .inl c_buffer)), ((hm 44), .inl (cy 1, 16, .inl c_other_6)), ((hm 45), .inl (cy 1, 600, .inl c_result)), ((hm 41), .inl (cy 1, 240, .inl c_round))]) := by rw [e_]; exact hD
        clear e_
        refine lv_iinc (pc := 124) (v := (i_76 + (1 : Int32))) (lv' := [(6, .int (i_76 + (1 : Int32))), (0, .ref h0), (1, .int p1), (2, .int p2), (3, .int v_7), (4, .int i_9), (5, .int x_75)]) hx hb (zdt_at zt_X10_mac_1 7 rfl) hl (k := 6) rfl rfl (by decide) rfl ?_
        clear hl
        intro ls hl
        refine lv_goto (pc := 127) (tgt := 73) hx hb (zdt_at zt_X10_mac_1 8 rfl) (by decide) ?_
        exact hTo _ _ _ (ihself_81 _ hf H locs ls hP hD hS (lv_sub hl [1, 2, 3, 4, 5, 6, 0] rfl))
      clear eK_72
      refine lv_if_eq (pc := 48) (tgt := 55) hx hb (zdt_at zt_X10_mac_0 28 rfl) (by decide) (fun cn_ => ?t_88) (fun cn_ => ?f_89)
      case t_88 =>
        replace hf := zt_s cn_ hf
        clear cn_
        refine lv_iconst (pc := 55) (v := (2 : Int32)) hx hb (zdt_at zt_X10_mac_0 31 rfl) (by decide) ?_
        exact hTo _ _ _ (kK_72 _ H locs ls hP hD hS (lv_sub hl [0, 1, 2, 3, 4] rfl) hf)
      replace hf := ze_s cn_ hf
      clear cn_
      refine lv_iconst (pc := 51) (v := (1 : Int32)) hx hb (zdt_at zt_X10_mac_0 29 rfl) (by decide) ?_
      refine lv_goto (pc := 52) (tgt := 56) hx hb (zdt_at zt_X10_mac_0 30 rfl) (by decide) ?_
      exact hTo _ _ _ (kK_72 _ H locs ls hP hD hS (lv_sub hl [0, 1, 2, 3, 4] rfl) hf)
    clear eK_8
    replace hf := zj_s hf
    obtain ⟨K_90, eK_90, hf⟩ := hf
    have kK_90 : ∀  (H : Heap) (locs : List Loc) (ls : Array Slot), va_P D vwCl ([(h0, .inr (12, zmo hm c_thrown c_state c_test c_words c_ill c_before c_inRow c_first c_inWindow c_same c_made c_requests c_total c_secrets c_rounds c_high c_low c_keyHigh c_keyLow)), ((hm 43), .inl (cy 1, 16, .inl c_block_5)), ((hm 39), .inl (cy 1, 256, .inl c_box)), ((hm 6), .inl (cy 1, 512, .inl c_buffer)), ((hm 44), .inl (cy 1, 16, .inl c_other_6)), ((hm 45), .inl (cy 1, 600, .inl c_result)), ((hm 41), .inl (cy 1, 240, .inl c_round))]) H → va_D A ([(h0, .inr (12, zmo hm c_thrown c_state c_test c_words c_ill c_before c_inRow c_first c_inWindow c_same c_made c_requests c_total c_secrets c_rounds c_high c_low c_keyHigh c_keyLow)), ((hm 43), .inl (cy 1, 16, .inl c_block_5)), ((hm 39), .inl (cy 1, 256, .inl c_box)), ((hm 6), .inl (cy 1, 512, .inl c_buffer)), ((hm 44), .inl (cy 1, 16, .inl c_other_6)), ((hm 45), .inl (cy 1, 600, .inl c_result)), ((hm 41), .inl (cy 1, 240, .inl c_round))]) → va_S A s.heap H locs → lv_has ls 8 [(0, .ref h0), (1, .int p1), (2, .int p2)] → K_90 () = some (r_, c_block', c_buffer', c_other', c_result') → GW H locs (F0 m 40 ls []) := by
      clear hf hl hP hD hS
      intro  H locs ls hP hD hS hl hf
      rw [eK_90] at hf
      clear eK_90
      refine hFr _ _ _ ?_
      refine lv_iconst (pc := 40) (v := (0 : Int32)) hx hb (zdt_at zt_X10_mac_0 22 rfl) (by decide) ?_
      exact hTo _ _ _ (kK_8 _ H locs ls hP hD hS (lv_sub hl [0, 1, 2] rfl) hf)
    clear eK_90
    refine lv_if_le (pc := 26) (tgt := 40) hx hb (zdt_at zt_X10_mac_0 15 rfl) (by decide) (fun cn_ => ?t_91) (fun cn_ => ?f_92)
    case t_91 =>
      replace hf := zt_s cn_ hf
      clear cn_
      exact hTo _ _ _ (kK_90  H locs ls hP hD hS (lv_sub hl [0, 1, 2] rfl) hf)
    replace hf := ze_s cn_ hf
    clear cn_
    refine lv_iload_n (pc := 29) hx hb (zdt_at zt_X10_mac_0 16 rfl) rfl (lv_at hl 2 rfl) ?_
    refine lv_bipush (pc := 30) (v := (16 : Int32)) hx hb (zdt_at zt_X10_mac_0 17 rfl) (by decide) ?_
    replace hf := zk_s hf
    refine lv_irem (pc := 32) hx hb (zdt_at zt_X10_mac_0 18 rfl) hf.1 ?_
    replace hf := hf.2
    refine lv_if_ne (pc := 33) (tgt := 40) hx hb (zdt_at zt_X10_mac_0 19 rfl) (by decide) (fun cn_ => ?t_93) (fun cn_ => ?f_94)
    case t_93 =>
      replace hf := ze_s cn_ hf
      clear cn_
      exact hTo _ _ _ (kK_90  H locs ls hP hD hS (lv_sub hl [0, 1, 2] rfl) hf)
    replace hf := zt_s cn_ hf
    clear cn_
    refine lv_iconst (pc := 36) (v := (1 : Int32)) hx hb (zdt_at zt_X10_mac_0 20 rfl) (by decide) ?_
    refine lv_goto (pc := 37) (tgt := 41) hx hb (zdt_at zt_X10_mac_0 21 rfl) (by decide) ?_
    exact hTo _ _ _ (kK_8 _ H locs ls hP hD hS (lv_sub hl [0, 1, 2] rfl) hf)
  clear eK_4
  refine hTo _ _ _ (zl_go (fun z => match z with | (i_1, c_block_2) => ∀ (H : Heap) (locs : List Loc) (ls : Array Slot), va_P D vwCl ([(h0, .inr (12, zmo hm c_thrown c_state c_test c_words c_ill c_before c_inRow c_first c_inWindow c_same c_made c_requests c_total c_secrets c_rounds c_high c_low c_keyHigh c_keyLow)), ((hm 43), .inl (cy 1, 16, .inl c_block_2)), ((hm 39), .inl (cy 1, 256, .inl c_box)), ((hm 6), .inl (cy 1, 512, .inl c_buffer)), ((hm 44), .inl (cy 1, 16, .inl c_other)), ((hm 45), .inl (cy 1, 600, .inl c_result)), ((hm 41), .inl (cy 1, 240, .inl c_round))]) H → va_D A ([(h0, .inr (12, zmo hm c_thrown c_state c_test c_words c_ill c_before c_inRow c_first c_inWindow c_same c_made c_requests c_total c_secrets c_rounds c_high c_low c_keyHigh c_keyLow)), ((hm 43), .inl (cy 1, 16, .inl c_block_2)), ((hm 39), .inl (cy 1, 256, .inl c_box)), ((hm 6), .inl (cy 1, 512, .inl c_buffer)), ((hm 44), .inl (cy 1, 16, .inl c_other)), ((hm 45), .inl (cy 1, 600, .inl c_result)), ((hm 41), .inl (cy 1, 240, .inl c_round))]) → va_S A s.heap H locs → lv_has ls 8 [(0, .ref h0), (1, .int p1), (2, .int p2), (3, .int i_1)] → GW H locs (F0 m 2 ls [])) hf ?_ H locs ls hP hD hS (lv_sub hl [1, 2, 3, 0] rfl))
  clear hf hl hP hD hS
  intro self_95 ihself_95 z hf
  obtain ⟨i_1, c_block_2⟩ := z
  intro H locs ls hP hD hS hl
  refine hFr _ _ _ ?_
  unfold b_X10_mac_2 at hf
  refine lv_iload_n (pc := 2) hx hb (zdt_at zt_X10_mac_0 2 rfl) rfl (lv_at hl 3 rfl) ?_
  refine lv_bipush (pc := 3) (v := (16 : Int32)) hx hb (zdt_at zt_X10_mac_0 3 rfl) (by decide) ?_
  refine lv_icmp_ge (pc := 5) (tgt := 21) hx hb (zdt_at zt_X10_mac_0 4 rfl) (by decide) (fun cn_ => ?t_96) (fun cn_ => ?f_97)
  case t_96 =>
    replace hf := zt_s cn_ hf
    clear cn_
    exact hTo _ _ _ (kK_4 _ H locs ls hP hD hS (lv_sub hl [0, 1, 2] rfl) hf)
  replace hf := ze_s cn_ hf
  clear cn_
  refine lv_aload_n (pc := 8) hx hb (zdt_at zt_X10_mac_0 5 rfl) rfl (lv_at hl 0 rfl) ?_
  refine va_get (pc := 9) (D := D) (ci := 12) (v := .ref (hm 43)) (C := RX10) (T := TX10) (N := 52) hx hb hts hcX10 hown hK hP 0 rfl rfl 43 (by decide) hw1 (fun _ h9 => h9) rfl (zdt_at zt_X10_mac_0 6 rfl) ?_
  refine lv_iload_n (pc := 12) hx hb (zdt_at zt_X10_mac_0 7 rfl) rfl (lv_at hl 3 rfl) ?_
  refine lv_iconst (pc := 13) (v := (0 : Int32)) hx hb (zdt_at zt_X10_mac_0 8 rfl) (by decide) ?_
  replace hf := zk_s hf
  refine va_iast (pc := 14) hx hb hK hP hD hS 1 1 rfl rfl hf.1 (zdt_at zt_X10_mac_0 9 rfl) ?_
  replace hf := hf.2
  clear hP hD hS
  intro H locs hP hD hS
  obtain ⟨c_block_98, e_⟩ : ∃ q : Nat → Int32, q = (upd c_block_2 i_1.toNatClampNeg (0 : Int32)) := ⟨_, rfl⟩
  replace hf := zn_s hf e_
  replace hP : va_P D vwCl ([(h0, .inr (12, zmo hm c_thrown c_state c_test c_words c_ill c_before c_inRow c_first c_inWindow c_same c_made c_requests c_total c_secrets c_rounds c_high c_low c_keyHigh c_keyLow)), ((hm 43), .inl (cy 1, 16, .inl c_block_98)), ((hm 39), .inl (cy 1, 256, .inl c_box)), ((hm 6), .inl (cy 1, 512, .inl c_buffer)), ((hm 44), .inl (cy 1, 16, .inl c_other)), ((hm 45), .inl (cy 1, 600, .inl c_result)), ((hm 41), .inl (cy 1, 240, .inl c_round))]) H := by rw [e_]; exact hP
  replace hD : va_D A ([(h0, .inr (12, zmo hm c_thrown c_state c_test c_words c_ill c_before c_inRow c_first c_inWindow c_same c_made c_requests c_total c_secrets c_rounds c_high c_low c_keyHigh c_keyLow)), ((hm 43), .inl (cy 1, 16, .inl c_block_98)), ((hm 39), .inl (cy 1, 256, .inl c_box)), ((hm 6), .inl (cy 1, 512, .inl c_buffer)), ((hm 44), .inl (cy 1, 16, .inl c_other)), ((hm 45), .inl (cy 1, 600, .inl c_result)), ((hm 41), .inl (cy 1, 240, .inl c_round))]) := by rw [e_]; exact hD
  clear e_
  refine lv_iinc (pc := 15) (v := (i_1 + (1 : Int32))) (lv' := [(3, .int (i_1 + (1 : Int32))), (0, .ref h0), (1, .int p1), (2, .int p2)]) hx hb (zdt_at zt_X10_mac_0 10 rfl) hl (k := 3) rfl rfl (by decide) rfl ?_
  clear hl
  intro ls hl
  refine lv_goto (pc := 18) (tgt := 2) hx hb (zdt_at zt_X10_mac_0 11 rfl) (by decide) ?_
  exact hTo _ _ _ (ihself_95 _ hf H locs ls hP hD hS (lv_sub hl [1, 2, 3, 0] rfl))
set_option maxHeartbeats 4000000 in
set_option maxRecDepth 100000 in
theorem c_X10_run (l : Launch) (D : va_G) (cy : Nat → ClassId) (tt : Nat → Nat) (sz : Nat) (h0 : Nat) (hm : Nat → Nat) (p1 : Int32) (p2 : Int32) (p3 : Int32) (p4 : Int32) (p5 : Int32) (c_high : Int64) (c_ill : Int32) (c_keyHigh : Int64) (c_keyLow : Int64) (c_low : Int64) (c_made : Int32) (c_requests : Int32) (c_rounds : Int32) (c_secrets : Int32) (c_state : Int32) (c_thrown : Int32) (c_total : Int64) (c_words : Int32) (c_ROUND : Nat → Int32) (c_START : Nat → Int32) (c_back : Nat → Int32) (c_block : Nat → Int32) (c_body : Nat → Int32) (c_box : Nat → Int32) (c_buffer : Nat → Int32) (c_counters : Nat → Int32) (c_digest : Nat → Int32) (c_h : Nat → Int32) (c_holder : Nat → Int32) (c_inner : Nat → Int32) (c_k : Nat → Int32) (c_keys : Nat → Int32) (c_kind : Nat → Int32) (c_length : Nat → Int32) (c_message : Nat → Int32) (c_other : Nat → Int32) (c_result : Nat → Int32) (c_round : Nat → Int32) (c_secret : Nat → Int32) (c_usage : Nat → Int32) (c_uses : Nat → Int32) (c_v : Nat → Int32) (c_w : Nat → Int32) (c_word : Nat → Int32) (c_x : Nat → Int32) (c_test : Int32) (c_before : Int32) (c_inRow : Int32) (c_first : Int32) (c_inWindow : Int32) (c_same : Int32) (r_ : Int32) (c_high' : Int64) (c_keyHigh' : Int64) (c_keyLow' : Int64) (c_low' : Int64) (c_made' : Int32) (c_requests' : Int32) (c_rounds' : Int32) (c_secrets' : Int32) (c_thrown' : Int32) (c_total' : Int64) (c_words' : Int32) (c_block' : Nat → Int32) (c_body' : Nat → Int32) (c_buffer' : Nat → Int32) (c_counters' : Nat → Int32) (c_digest' : Nat → Int32) (c_h' : Nat → Int32) (c_inner' : Nat → Int32) (c_k' : Nat → Int32) (c_message' : Nat → Int32) (c_other' : Nat → Int32) (c_result' : Nat → Int32) (c_round' : Nat → Int32) (c_secret' : Nat → Int32) (c_uses' : Nat → Int32) (c_v' : Nat → Int32) (c_w' : Nat → Int32) (c_word' : Nat → Int32) (c_x' : Nat → Int32) (hf : f_X10_run p1 p2 p3 p4 p5 c_high c_ill c_keyHigh c_keyLow c_low c_made c_requests c_rounds c_secrets c_state c_thrown c_total c_words c_ROUND c_START c_back c_block c_body c_box c_buffer c_counters c_digest c_h c_holder c_inner c_k c_keys c_kind c_length c_message c_other c_result c_round c_secret c_usage c_uses c_v c_w c_word c_x = some (r_, c_high', c_keyHigh', c_keyLow', c_low', c_made', c_requests', c_rounds', c_secrets', c_thrown', c_total', c_words', c_block', c_body', c_buffer', c_counters', c_digest', c_h', c_inner', c_k', c_message', c_other', c_result', c_round', c_secret', c_uses', c_v', c_w', c_word', c_x')) : Met l yX10_run wsX10_run ({ frames := 8, cells := 0, slots := 0, locals := 177 }) (zPc D cy tt sz [.ref h0, .int p1, .int p2, .int p3, .int p4, .int p5] ([(h0, .inr (12, zmo hm c_thrown c_state c_test c_words c_ill c_before c_inRow c_first c_inWindow c_same c_made c_requests c_total c_secrets c_rounds c_high c_low c_keyHigh c_keyLow)), ((hm 0), .inl (cy 1, 64, .inl c_ROUND)), ((hm 47), .inl (cy 1, 8, .inl c_START)), ((hm 40), .inl (cy 1, 256, .inl c_back)), ((hm 43), .inl (cy 1, 16, .inl c_block)), ((hm 46), .inl (cy 1, 512, .inl c_body)), ((hm 39), .inl (cy 1, 256, .inl c_box)), ((hm 6), .inl (cy 1, 512, .inl c_buffer)), ((hm 5), .inl (cy 1, 3, .inl c_counters)), ((hm 35), .inl (cy 1, 32, .inl c_digest)), ((hm 30), .inl (cy 1, 8, .inl c_h)), ((hm 12), .inl (cy 1, 16, .inl c_holder)), ((hm 36), .inl (cy 1, 32, .inl c_inner)), ((hm 25), .inl (cy 1, 32, .inl c_k)), ((hm 14), .inl (cy 1, 1024, .inl c_keys)), ((hm 9), .inl (cy 1, 16, .inl c_kind)), ((hm 10), .inl (cy 1, 16, .inl c_length)), ((hm 33), .inl (cy 1, 64, .inl c_message)), ((hm 44), .inl (cy 1, 16, .inl c_other)), ((hm 45), .inl (cy 1, 600, .inl c_result)), ((hm 41), .inl (cy 1, 240, .inl c_round)), ((hm 37), .inl (cy 1, 64, .inl c_secret)), ((hm 11), .inl (cy 1, 16, .inl c_usage)), ((hm 13), .inl (cy 1, 16, .inl c_uses)), ((hm 26), .inl (cy 1, 32, .inl c_v)), ((hm 31), .inl (cy 1, 64, .inl c_w)), ((hm 16), .inl (cy 1, 64, .inl c_word)), ((hm 32), .inl (cy 1, 8, .inl c_x))])) (zQ D (some (.int r_)) ([(h0, .inr (12, zmo hm c_thrown' c_state c_test c_words' c_ill c_before c_inRow c_first c_inWindow c_same c_made' c_requests' c_total' c_secrets' c_rounds' c_high' c_low' c_keyHigh' c_keyLow')), ((hm 0), .inl (cy 1, 64, .inl c_ROUND)), ((hm 47), .inl (cy 1, 8, .inl c_START)), ((hm 40), .inl (cy 1, 256, .inl c_back)), ((hm 43), .inl (cy 1, 16, .inl c_block')), ((hm 46), .inl (cy 1, 512, .inl c_body')), ((hm 39), .inl (cy 1, 256, .inl c_box)), ((hm 6), .inl (cy 1, 512, .inl c_buffer')), ((hm 5), .inl (cy 1, 3, .inl c_counters')), ((hm 35), .inl (cy 1, 32, .inl c_digest')), ((hm 30), .inl (cy 1, 8, .inl c_h')), ((hm 12), .inl (cy 1, 16, .inl c_holder)), ((hm 36), .inl (cy 1, 32, .inl c_inner')), ((hm 25), .inl (cy 1, 32, .inl c_k')), ((hm 14), .inl (cy 1, 1024, .inl c_keys)), ((hm 9), .inl (cy 1, 16, .inl c_kind)), ((hm 10), .inl (cy 1, 16, .inl c_length)), ((hm 33), .inl (cy 1, 64, .inl c_message')), ((hm 44), .inl (cy 1, 16, .inl c_other')), ((hm 45), .inl (cy 1, 600, .inl c_result')), ((hm 41), .inl (cy 1, 240, .inl c_round')), ((hm 37), .inl (cy 1, 64, .inl c_secret')), ((hm 11), .inl (cy 1, 16, .inl c_usage)), ((hm 13), .inl (cy 1, 16, .inl c_uses')), ((hm 26), .inl (cy 1, 32, .inl c_v')), ((hm 31), .inl (cy 1, 64, .inl c_w')), ((hm 16), .inl (cy 1, 64, .inl c_word')), ((hm 32), .inl (cy 1, 8, .inl c_x'))]) (va_A ([(h0, .inr (12, zmo hm c_thrown c_state c_test c_words c_ill c_before c_inRow c_first c_inWindow c_same c_made c_requests c_total c_secrets c_rounds c_high c_low c_keyHigh c_keyLow)), ((hm 0), .inl (cy 1, 64, .inl c_ROUND)), ((hm 47), .inl (cy 1, 8, .inl c_START)), ((hm 40), .inl (cy 1, 256, .inl c_back)), ((hm 43), .inl (cy 1, 16, .inl c_block)), ((hm 46), .inl (cy 1, 512, .inl c_body)), ((hm 39), .inl (cy 1, 256, .inl c_box)), ((hm 6), .inl (cy 1, 512, .inl c_buffer)), ((hm 5), .inl (cy 1, 3, .inl c_counters)), ((hm 35), .inl (cy 1, 32, .inl c_digest)), ((hm 30), .inl (cy 1, 8, .inl c_h)), ((hm 12), .inl (cy 1, 16, .inl c_holder)), ((hm 36), .inl (cy 1, 32, .inl c_inner)), ((hm 25), .inl (cy 1, 32, .inl c_k)), ((hm 14), .inl (cy 1, 1024, .inl c_keys)), ((hm 9), .inl (cy 1, 16, .inl c_kind)), ((hm 10), .inl (cy 1, 16, .inl c_length)), ((hm 33), .inl (cy 1, 64, .inl c_message)), ((hm 44), .inl (cy 1, 16, .inl c_other)), ((hm 45), .inl (cy 1, 600, .inl c_result)), ((hm 41), .inl (cy 1, 240, .inl c_round)), ((hm 37), .inl (cy 1, 64, .inl c_secret)), ((hm 11), .inl (cy 1, 16, .inl c_usage)), ((hm 13), .inl (cy 1, 16, .inl c_uses)), ((hm 26), .inl (cy 1, 32, .inl c_v)), ((hm 31), .inl (cy 1, 64, .inl c_w)), ((hm 16), .inl (cy 1, 64, .inl c_word)), ((hm 32), .inl (cy 1, 8, .inl c_x))]) sz)) 0 0 (va_A ([(h0, .inr (12, zmo hm c_thrown c_state c_test c_words c_ill c_before c_inRow c_first c_inWindow c_same c_made c_requests c_total c_secrets c_rounds c_high c_low c_keyHigh c_keyLow)), ((hm 0), .inl (cy 1, 64, .inl c_ROUND)), ((hm 47), .inl (cy 1, 8, .inl c_START)), ((hm 40), .inl (cy 1, 256, .inl c_back)), ((hm 43), .inl (cy 1, 16, .inl c_block)), ((hm 46), .inl (cy 1, 512, .inl c_body)), ((hm 39), .inl (cy 1, 256, .inl c_box)), ((hm 6), .inl (cy 1, 512, .inl c_buffer)), ((hm 5), .inl (cy 1, 3, .inl c_counters)), ((hm 35), .inl (cy 1, 32, .inl c_digest)), ((hm 30), .inl (cy 1, 8, .inl c_h)), ((hm 12), .inl (cy 1, 16, .inl c_holder)), ((hm 36), .inl (cy 1, 32, .inl c_inner)), ((hm 25), .inl (cy 1, 32, .inl c_k)), ((hm 14), .inl (cy 1, 1024, .inl c_keys)), ((hm 9), .inl (cy 1, 16, .inl c_kind)), ((hm 10), .inl (cy 1, 16, .inl c_length)), ((hm 33), .inl (cy 1, 64, .inl c_message)), ((hm 44), .inl (cy 1, 16, .inl c_other)), ((hm 45), .inl (cy 1, 600, .inl c_result)), ((hm 41), .inl (cy 1, 240, .inl c_round)), ((hm 37), .inl (cy 1, 64, .inl c_secret)), ((hm 11), .inl (cy 1, 16, .inl c_usage)), ((hm 13), .inl (cy 1, 16, .inl c_uses)), ((hm 26), .inl (cy 1, 32, .inl c_v)), ((hm 31), .inl (cy 1, 64, .inl c_w)), ((hm 16), .inl (cy 1, 64, .inl c_word)), ((hm 32), .inl (cy 1, 8, .inl c_x))]) sz) := by
  refine Met.ofW (cc := cX10_run) (maxL := 8) (ret := (some .int)) (by decide) rfl ?_
  intro p e s m args below meth c s₁ B hml hv
  obtain ⟨rfl, rfl, hP, hD0, hE⟩ := hv
  have hx := B.exec
  have hb := B.bytes
  have hr := B.returns
  have hts := atoms_spec (ws := wsX10_run) B.pre
  have hown : s.vm.findClass RX10 = some m.cls := findClass_of_methodNamed B.named
  have hlocks := B.notSynchronized
  clear B
  have hD := hD0.self (sz := s.heap.size)
  generalize hAe : va_A ([(h0, .inr (12, zmo hm c_thrown c_state c_test c_words c_ill c_before c_inRow c_first c_inWindow c_same c_made c_requests c_total c_secrets c_rounds c_high c_low c_keyHigh c_keyLow)), ((hm 0), .inl (cy 1, 64, .inl c_ROUND)), ((hm 47), .inl (cy 1, 8, .inl c_START)), ((hm 40), .inl (cy 1, 256, .inl c_back)), ((hm 43), .inl (cy 1, 16, .inl c_block)), ((hm 46), .inl (cy 1, 512, .inl c_body)), ((hm 39), .inl (cy 1, 256, .inl c_box)), ((hm 6), .inl (cy 1, 512, .inl c_buffer)), ((hm 5), .inl (cy 1, 3, .inl c_counters)), ((hm 35), .inl (cy 1, 32, .inl c_digest)), ((hm 30), .inl (cy 1, 8, .inl c_h)), ((hm 12), .inl (cy 1, 16, .inl c_holder)), ((hm 36), .inl (cy 1, 32, .inl c_inner)), ((hm 25), .inl (cy 1, 32, .inl c_k)), ((hm 14), .inl (cy 1, 1024, .inl c_keys)), ((hm 9), .inl (cy 1, 16, .inl c_kind)), ((hm 10), .inl (cy 1, 16, .inl c_length)), ((hm 33), .inl (cy 1, 64, .inl c_message)), ((hm 44), .inl (cy 1, 16, .inl c_other)), ((hm 45), .inl (cy 1, 600, .inl c_result)), ((hm 41), .inl (cy 1, 240, .inl c_round)), ((hm 37), .inl (cy 1, 64, .inl c_secret)), ((hm 11), .inl (cy 1, 16, .inl c_usage)), ((hm 13), .inl (cy 1, 16, .inl c_uses)), ((hm 26), .inl (cy 1, 32, .inl c_v)), ((hm 31), .inl (cy 1, 64, .inl c_w)), ((hm 16), .inl (cy 1, 64, .inl c_word)), ((hm 32), .inl (cy 1, 8, .inl c_x))]) s.heap.size = A at hD hE ⊢
  have hA : ∀ q : Nat, s.heap.size ≤ q → A q := fun q h => by rw [← hAe]; exact Or.inr h
  clear hAe hD0
  have hS : va_S A s.heap s.heap [] := va_S.rf
  have hK := hE.1
  have hw0 := hts (.fieldLink RX10 189 "SealedModuleModel" "thrown" "I") (by decide +kernel)
  have hw1 := hts (.fieldLink RX10 84 "SealedModuleModel" "buffer" "[I") (by decide +kernel)
  have hw2 := hts (.fieldLink RX10 144 "SealedModuleModel" "digest" "[I") (by decide +kernel)
  have hw3 := hts (.fieldLink RX10 168 "SealedModuleModel" "result" "[I") (by decide +kernel)
  have hw4 := hts (.fieldLink RX10 93 "SealedModuleModel" "kind" "[I") (by decide +kernel)
  have hw5 := hts (.fieldLink RX10 99 "SealedModuleModel" "usage" "[I") (by decide +kernel)
  have hw6 := hts (.fieldLink RX10 105 "SealedModuleModel" "uses" "[I") (by decide +kernel)
  have hcX10 : ∀ w ∈ u_ws RX10 TX10 52, w ∈ wsX10_run := (fun _ h => List.mem_cons_of_mem _ (List.mem_append_right _ h))
  have hl := lv_entry ([.ref h0, .int p1, .int p2, .int p3, .int p4, .int p5]) (n := 8) (Nat.le_of_ble_eq_true rfl)
  rw [lg_entry_eq]
  generalize (lg_sl ([.ref h0, .int p1, .int p2, .int p3, .int p4, .int p5]) ++ List.replicate (8 - (lg_sl ([.ref h0, .int p1, .int p2, .int p3, .int p4, .int p5])).length) Slot.unset).toArray = ls at hl ⊢
  replace hl : lv_has ls 8 [(0, .ref h0), (1, .int p1), (2, .int p2), (3, .int p3), (4, .int p4), (5, .int p5)] := hl
  unfold f_X10_run at hf
  refine zgo (fun GW hTo hFr => ?_)
  refine hFr _ _ _ ?_
  obtain ⟨H, hHe⟩ : ∃ H, H = s.heap := ⟨_, rfl⟩
  obtain ⟨locs, hLe⟩ : ∃ L : List Loc, L = [] := ⟨_, rfl⟩
  rw [← hHe] at hP
  replace hS : va_S A s.heap H locs := by rw [hHe, hLe]; exact hS
  refine zat hHe.symm hLe.symm ?_
  clear hHe hLe
  refine lv_aload_n (pc := 0) hx hb (zdt_at zt_X10_run_0 0 rfl) rfl (lv_at hl 0 rfl) ?_
  refine lv_iconst (pc := 1) (v := (0 : Int32)) hx hb (zdt_at zt_X10_run_0 1 rfl) (by decide) ?_
  refine va_put (pc := 2) (D := D) (ci := 12) (v := .int (0 : Int32)) (ty := .int) (C := RX10) (T := TX10) (N := 52) hx hb hts hcX10 tyX10 tyX10_ok nmX10 hown hK hP hD hS 0 rfl rfl 1 (by decide) hw0 (fun _ h9 => h9) rfl (by decide +kernel) rfl rfl (Nat.le_of_ble_eq_true rfl) (zdt_at zt_X10_run_0 2 rfl) ?_
  clear hP hD hS
  intro H locs hP hD hS
  replace hP : va_P D vwCl ([(h0, .inr (12, zmo hm (0 : Int32) c_state c_test c_words c_ill c_before c_inRow c_first c_inWindow c_same c_made c_requests c_total c_secrets c_rounds c_high c_low c_keyHigh c_keyLow)), ((hm 0), .inl (cy 1, 64, .inl c_ROUND)), ((hm 47), .inl (cy 1, 8, .inl c_START)), ((hm 40), .inl (cy 1, 256, .inl c_back)), ((hm 43), .inl (cy 1, 16, .inl c_block)), ((hm 46), .inl (cy 1, 512, .inl c_body)), ((hm 39), .inl (cy 1, 256, .inl c_box)), ((hm 6), .inl (cy 1, 512, .inl c_buffer)), ((hm 5), .inl (cy 1, 3, .inl c_counters)), ((hm 35), .inl (cy 1, 32, .inl c_digest)), ((hm 30), .inl (cy 1, 8, .inl c_h)), ((hm 12), .inl (cy 1, 16, .inl c_holder)), ((hm 36), .inl (cy 1, 32, .inl c_inner)), ((hm 25), .inl (cy 1, 32, .inl c_k)), ((hm 14), .inl (cy 1, 1024, .inl c_keys)), ((hm 9), .inl (cy 1, 16, .inl c_kind)), ((hm 10), .inl (cy 1, 16, .inl c_length)), ((hm 33), .inl (cy 1, 64, .inl c_message)), ((hm 44), .inl (cy 1, 16, .inl c_other)), ((hm 45), .inl (cy 1, 600, .inl c_result)), ((hm 41), .inl (cy 1, 240, .inl c_round)), ((hm 37), .inl (cy 1, 64, .inl c_secret)), ((hm 11), .inl (cy 1, 16, .inl c_usage)), ((hm 13), .inl (cy 1, 16, .inl c_uses)), ((hm 26), .inl (cy 1, 32, .inl c_v)), ((hm 31), .inl (cy 1, 64, .inl c_w)), ((hm 16), .inl (cy 1, 64, .inl c_word)), ((hm 32), .inl (cy 1, 8, .inl c_x))]) H := hP
  replace hD : va_D A ([(h0, .inr (12, zmo hm (0 : Int32) c_state c_test c_words c_ill c_before c_inRow c_first c_inWindow c_same c_made c_requests c_total c_secrets c_rounds c_high c_low c_keyHigh c_keyLow)), ((hm 0), .inl (cy 1, 64, .inl c_ROUND)), ((hm 47), .inl (cy 1, 8, .inl c_START)), ((hm 40), .inl (cy 1, 256, .inl c_back)), ((hm 43), .inl (cy 1, 16, .inl c_block)), ((hm 46), .inl (cy 1, 512, .inl c_body)), ((hm 39), .inl (cy 1, 256, .inl c_box)), ((hm 6), .inl (cy 1, 512, .inl c_buffer)), ((hm 5), .inl (cy 1, 3, .inl c_counters)), ((hm 35), .inl (cy 1, 32, .inl c_digest)), ((hm 30), .inl (cy 1, 8, .inl c_h)), ((hm 12), .inl (cy 1, 16, .inl c_holder)), ((hm 36), .inl (cy 1, 32, .inl c_inner)), ((hm 25), .inl (cy 1, 32, .inl c_k)), ((hm 14), .inl (cy 1, 1024, .inl c_keys)), ((hm 9), .inl (cy 1, 16, .inl c_kind)), ((hm 10), .inl (cy 1, 16, .inl c_length)), ((hm 33), .inl (cy 1, 64, .inl c_message)), ((hm 44), .inl (cy 1, 16, .inl c_other)), ((hm 45), .inl (cy 1, 600, .inl c_result)), ((hm 41), .inl (cy 1, 240, .inl c_round)), ((hm 37), .inl (cy 1, 64, .inl c_secret)), ((hm 11), .inl (cy 1, 16, .inl c_usage)), ((hm 13), .inl (cy 1, 16, .inl c_uses)), ((hm 26), .inl (cy 1, 32, .inl c_v)), ((hm 31), .inl (cy 1, 64, .inl c_w)), ((hm 16), .inl (cy 1, 64, .inl c_word)), ((hm 32), .inl (cy 1, 8, .inl c_x))]) := hD
  refine lv_aload_n (pc := 5) hx hb (zdt_at zt_X10_run_0 3 rfl) rfl (lv_at hl 0 rfl) ?_
  replace hf := zb_s hf
  obtain ⟨r_1, hc_, hf⟩ := hf
  refine zcs (pc := 6) (rv := (some (.int r_1))) (va_runV (As := []) (rest := []) ⟨hx, hb, hml, hown, hts⟩ (c_X10_isIn l D cy tt H.size h0 hm c_state (0 : Int32) c_test c_words c_ill c_before c_inRow c_first c_inWindow c_same c_made c_requests c_total c_secrets c_rounds c_high c_low c_keyHigh c_keyLow r_1 hc_) (cwV 0 hts gX10_run_X10_isIn rfl rfl rfl (by decide +kernel) ⟨Nat.le_of_ble_eq_true rfl, Nat.le_of_ble_eq_true rfl⟩) ⟨zblind, va_recv hK hP (ci := 12) (q0 := 0) rfl rfl, zpre hE hS (hP.sub [0] rfl) (hD.sub [0] (by decide) rfl) (va_free hD hS hA [0] rfl)⟩ rfl rfl hl.1 rfl (lv_room (Nat.le_of_ble_eq_true rfl)) (zdt_at zt_X10_run_0 4 rfl) ⟨Nat.zero_le _, Nat.zero_le _⟩) ?_
  clear hc_
  refine W.eq (g2 := F0 m 9 ls [.int r_1]) rfl ?_
  refine lv_if_ne (pc := 9) (tgt := 18) hx hb (zdt_at zt_X10_run_0 5 rfl) (by decide) (fun cn_ => ?t_2) (fun cn_ => ?f_3)
  case f_3 =>
    replace hf := zt_s cn_ hf
    clear cn_
    refine lv_aload_n (pc := 12) hx hb (zdt_at zt_X10_run_0 6 rfl) rfl (lv_at hl 0 rfl) ?_
    refine lv_iconst (pc := 13) (v := (-1 : Int32)) hx hb (zdt_at zt_X10_run_0 7 rfl) (by decide) ?_
    replace hf := zb_s hf
    obtain ⟨⟨r_271, c_counters_272⟩, hc_, hf⟩ := hf
    refine zcn2 (pc := 14) (rv := (some (.int r_271))) (va_runV (As := [.int (-1 : Int32)]) (rest := []) ⟨hx, hb, hml, hown, hts⟩ (c_X10_answer l D cy tt H.size h0 hm (-1 : Int32) c_counters (0 : Int32) c_state c_test c_words c_ill c_before c_inRow c_first c_inWindow c_same c_made c_requests c_total c_secrets c_rounds c_high c_low c_keyHigh c_keyLow r_271 c_counters_272 hc_) (cwV 1 hts gX10_run_X10_answer rfl rfl rfl (by decide +kernel) ⟨Nat.le_of_ble_eq_true rfl, Nat.le_of_ble_eq_true rfl⟩) ⟨zblind, va_recv hK hP (ci := 12) (q0 := 0) rfl rfl, zpre hE hS (hP.sub [0, 8] rfl) (hD.sub [0, 8] (by decide) rfl) (va_free hD hS hA [0, 8] rfl)⟩ rfl rfl hl.1 rfl (lv_room (Nat.le_of_ble_eq_true rfl)) (zdt_at zt_X10_run_0 8 rfl) ⟨Nat.zero_le _, Nat.zero_le _⟩) hS hP hD (va_free hD hS hA [0, 8] rfl) [0, 8] rfl (by decide) rfl ?_
    clear hP hD hS hc_
    intro H locs hP hD hS
    replace hP : va_P D vwCl ([(h0, .inr (12, zmo hm (0 : Int32) c_state c_test c_words c_ill c_before c_inRow c_first c_inWindow c_same c_made c_requests c_total c_secrets c_rounds c_high c_low c_keyHigh c_keyLow)), ((hm 0), .inl (cy 1, 64, .inl c_ROUND)), ((hm 47), .inl (cy 1, 8, .inl c_START)), ((hm 40), .inl (cy 1, 256, .inl c_back)), ((hm 43), .inl (cy 1, 16, .inl c_block)), ((hm 46), .inl (cy 1, 512, .inl c_body)), ((hm 39), .inl (cy 1, 256, .inl c_box)), ((hm 6), .inl (cy 1, 512, .inl c_buffer)), ((hm 5), .inl (cy 1, 3, .inl c_counters_272)), ((hm 35), .inl (cy 1, 32, .inl c_digest)), ((hm 30), .inl (cy 1, 8, .inl c_h)), ((hm 12), .inl (cy 1, 16, .inl c_holder)), ((hm 36), .inl (cy 1, 32, .inl c_inner)), ((hm 25), .inl (cy 1, 32, .inl c_k)), ((hm 14), .inl (cy 1, 1024, .inl c_keys)), ((hm 9), .inl (cy 1, 16, .inl c_kind)), ((hm 10), .inl (cy 1, 16, .inl c_length)), ((hm 33), .inl (cy 1, 64, .inl c_message)), ((hm 44), .inl (cy 1, 16, .inl c_other)), ((hm 45), .inl (cy 1, 600, .inl c_result)), ((hm 41), .inl (cy 1, 240, .inl c_round)), ((hm 37), .inl (cy 1, 64, .inl c_secret)), ((hm 11), .inl (cy 1, 16, .inl c_usage)), ((hm 13), .inl (cy 1, 16, .inl c_uses)), ((hm 26), .inl (cy 1, 32, .inl c_v)), ((hm 31), .inl (cy 1, 64, .inl c_w)), ((hm 16), .inl (cy 1, 64, .inl c_word)), ((hm 32), .inl (cy 1, 8, .inl c_x))]) H := hP
    replace hD : va_D A ([(h0, .inr (12, zmo hm (0 : Int32) c_state c_test c_words c_ill c_before c_inRow c_first c_inWindow c_same c_made c_requests c_total c_secrets c_rounds c_high c_low c_keyHigh c_keyLow)), ((hm 0), .inl (cy 1, 64, .inl c_ROUND)), ((hm 47), .inl (cy 1, 8, .inl c_START)), ((hm 40), .inl (cy 1, 256, .inl c_back)), ((hm 43), .inl (cy 1, 16, .inl c_block)), ((hm 46), .inl (cy 1, 512, .inl c_body)), ((hm 39), .inl (cy 1, 256, .inl c_box)), ((hm 6), .inl (cy 1, 512, .inl c_buffer)), ((hm 5), .inl (cy 1, 3, .inl c_counters_272)), ((hm 35), .inl (cy 1, 32, .inl c_digest)), ((hm 30), .inl (cy 1, 8, .inl c_h)), ((hm 12), .inl (cy 1, 16, .inl c_holder)), ((hm 36), .inl (cy 1, 32, .inl c_inner)), ((hm 25), .inl (cy 1, 32, .inl c_k)), ((hm 14), .inl (cy 1, 1024, .inl c_keys)), ((hm 9), .inl (cy 1, 16, .inl c_kind)), ((hm 10), .inl (cy 1, 16, .inl c_length)), ((hm 33), .inl (cy 1, 64, .inl c_message)), ((hm 44), .inl (cy 1, 16, .inl c_other)), ((hm 45), .inl (cy 1, 600, .inl c_result)), ((hm 41), .inl (cy 1, 240, .inl c_round)), ((hm 37), .inl (cy 1, 64, .inl c_secret)), ((hm 11), .inl (cy 1, 16, .inl c_usage)), ((hm 13), .inl (cy 1, 16, .inl c_uses)), ((hm 26), .inl (cy 1, 32, .inl c_v)), ((hm 31), .inl (cy 1, 64, .inl c_w)), ((hm 16), .inl (cy 1, 64, .inl c_word)), ((hm 32), .inl (cy 1, 8, .inl c_x))]) := hD
    refine W.eq (g2 := F0 m 17 ls [.int r_271]) rfl ?_
    cases hf
    exact W.iret (pc := 17) hx hb hr (fun t ht hW => ⟨rfl, ⟨by rw [ht]; exact hP, hD⟩, hS.F ht⟩) hS.2.2 (zdt_at zt_X10_run_0 9 rfl)
  replace hf := ze_s cn_ hf
  clear cn_
  refine lv_iload_n (pc := 18) hx hb (zdt_at zt_X10_run_0 10 rfl) rfl (lv_at hl 1 rfl) ?_
  refine lv_bipush (pc := 19) (v := (9 : Int32)) hx hb (zdt_at zt_X10_run_0 11 rfl) (by decide) ?_
  replace hf := zj_s hf
  obtain ⟨K_5, eK_5, hf⟩ := hf
  have kK_5 : ∀ (v_4 : Int32) (H : Heap) (locs : List Loc) (ls : Array Slot), va_P D vwCl ([(h0, .inr (12, zmo hm (0 : Int32) c_state c_test c_words c_ill c_before c_inRow c_first c_inWindow c_same c_made c_requests c_total c_secrets c_rounds c_high c_low c_keyHigh c_keyLow)), ((hm 0), .inl (cy 1, 64, .inl c_ROUND)), ((hm 47), .inl (cy 1, 8, .inl c_START)), ((hm 40), .inl (cy 1, 256, .inl c_back)), ((hm 43), .inl (cy 1, 16, .inl c_block)), ((hm 46), .inl (cy 1, 512, .inl c_body)), ((hm 39), .inl (cy 1, 256, .inl c_box)), ((hm 6), .inl (cy 1, 512, .inl c_buffer)), ((hm 5), .inl (cy 1, 3, .inl c_counters)), ((hm 35), .inl (cy 1, 32, .inl c_digest)), ((hm 30), .inl (cy 1, 8, .inl c_h)), ((hm 12), .inl (cy 1, 16, .inl c_holder)), ((hm 36), .inl (cy 1, 32, .inl c_inner)), ((hm 25), .inl (cy 1, 32, .inl c_k)), ((hm 14), .inl (cy 1, 1024, .inl c_keys)), ((hm 9), .inl (cy 1, 16, .inl c_kind)), ((hm 10), .inl (cy 1, 16, .inl c_length)), ((hm 33), .inl (cy 1, 64, .inl c_message)), ((hm 44), .inl (cy 1, 16, .inl c_other)), ((hm 45), .inl (cy 1, 600, .inl c_result)), ((hm 41), .inl (cy 1, 240, .inl c_round)), ((hm 37), .inl (cy 1, 64, .inl c_secret)), ((hm 11), .inl (cy 1, 16, .inl c_usage)), ((hm 13), .inl (cy 1, 16, .inl c_uses)), ((hm 26), .inl (cy 1, 32, .inl c_v)), ((hm 31), .inl (cy 1, 64, .inl c_w)), ((hm 16), .inl (cy 1, 64, .inl c_word)), ((hm 32), .inl (cy 1, 8, .inl c_x))]) H → va_D A ([(h0, .inr (12, zmo hm (0 : Int32) c_state c_test c_words c_ill c_before c_inRow c_first c_inWindow c_same c_made c_requests c_total c_secrets c_rounds c_high c_low c_keyHigh c_keyLow)), ((hm 0), .inl (cy 1, 64, .inl c_ROUND)), ((hm 47), .inl (cy 1, 8, .inl c_START)), ((hm 40), .inl (cy 1, 256, .inl c_back)), ((hm 43), .inl (cy 1, 16, .inl c_block)), ((hm 46), .inl (cy 1, 512, .inl c_body)), ((hm 39), .inl (cy 1, 256, .inl c_box)), ((hm 6), .inl (cy 1, 512, .inl c_buffer)), ((hm 5), .inl (cy 1, 3, .inl c_counters)), ((hm 35), .inl (cy 1, 32, .inl c_digest)), ((hm 30), .inl (cy 1, 8, .inl c_h)), ((hm 12), .inl (cy 1, 16, .inl c_holder)), ((hm 36), .inl (cy 1, 32, .inl c_inner)), ((hm 25), .inl (cy 1, 32, .inl c_k)), ((hm 14), .inl (cy 1, 1024, .inl c_keys)), ((hm 9), .inl (cy 1, 16, .inl c_kind)), ((hm 10), .inl (cy 1, 16, .inl c_length)), ((hm 33), .inl (cy 1, 64, .inl c_message)), ((hm 44), .inl (cy 1, 16, .inl c_other)), ((hm 45), .inl (cy 1, 600, .inl c_result)), ((hm 41), .inl (cy 1, 240, .inl c_round)), ((hm 37), .inl (cy 1, 64, .inl c_secret)), ((hm 11), .inl (cy 1, 16, .inl c_usage)), ((hm 13), .inl (cy 1, 16, .inl c_uses)), ((hm 26), .inl (cy 1, 32, .inl c_v)), ((hm 31), .inl (cy 1, 64, .inl c_w)), ((hm 16), .inl (cy 1, 64, .inl c_word)), ((hm 32), .inl (cy 1, 8, .inl c_x))]) → va_S A s.heap H locs → lv_has ls 8 [(0, .ref h0), (1, .int p1), (2, .int p2), (3, .int p3), (4, .int p4), (5, .int p5)] → K_5 v_4 = some (r_, c_high', c_keyHigh', c_keyLow', c_low', c_made', c_requests', c_rounds', c_secrets', c_thrown', c_total', c_words', c_block', c_body', c_buffer', c_counters', c_digest', c_h', c_inner', c_k', c_message', c_other', c_result', c_round', c_secret', c_uses', c_v', c_w', c_word', c_x') → GW H locs (F0 m 35 ls [.int v_4]) := by
    clear hf hl hP hD hS
    intro v_4 H locs ls hP hD hS hl hf
    rw [eK_5] at hf
    clear eK_5
    refine hFr _ _ _ ?_
    refine lv_istore (pc := 35) (lv' := [(6, .int v_4), (0, .ref h0), (1, .int p1), (2, .int p2), (3, .int p3), (4, .int p4), (5, .int p5)]) hx hb (zdt_at zt_X10_run_0 19 rfl) hl (by decide) rfl ?_
    clear hl
    intro ls hl
    refine lv_iload_n (pc := 37) hx hb (zdt_at zt_X10_run_0 20 rfl) rfl (lv_at hl 2 rfl) ?_
    refine lv_iconst (pc := 38) (v := (1 : Int32)) hx hb (zdt_at zt_X10_run_0 21 rfl) (by decide) ?_
    refine lv_bipush (pc := 39) (v := (11 : Int32)) hx hb (zdt_at zt_X10_run_0 22 rfl) (by decide) ?_
    replace hf := zb_s hf
    obtain ⟨r_6, hc_, hf⟩ := hf
    refine zcs (pc := 41) (rv := (some (.int r_6))) (va_runS (As := [.int p1, .int (1 : Int32), .int (11 : Int32)]) (rest := []) ⟨hx, hb, hml, hown, hts⟩ (c_X10_in l D cy tt H.size p1 (1 : Int32) (11 : Int32) r_6 hc_) (va_cwS 3 hts gX10_run_X10_in rfl rfl rfl (by decide +kernel) ⟨Nat.le_of_ble_eq_true rfl, Nat.le_of_ble_eq_true rfl⟩) ⟨zblind, zpre hE hS (hP.sub [] rfl) (hD.sub [] (by decide) rfl) (va_free hD hS hA [] rfl)⟩ rfl rfl hl.1 rfl (lv_room (Nat.le_of_ble_eq_true rfl)) (zdt_at zt_X10_run_0 23 rfl) ⟨Nat.zero_le _, Nat.zero_le _⟩) ?_
    clear hc_
    refine W.eq (g2 := F0 m 44 ls [.int r_6]) rfl ?_
    refine lv_if_eq (pc := 44) (tgt := 74) hx hb (zdt_at zt_X10_run_0 24 rfl) (by decide) (fun cn_ => ?t_7) (fun cn_ => ?f_8)
    case t_7 =>
      replace hf := zt_s cn_ hf
      clear cn_
      refine lv_aload_n (pc := 74) hx hb (zdt_at zt_X10_run_0 38 rfl) rfl (lv_at hl 1 rfl) ?_
      refine lv_bipush (pc := 75) (v := (-2 : Int32)) hx hb (zdt_at zt_X10_run_0 39 rfl) (by decide) ?_
      replace hf := zb_s hf
      obtain ⟨⟨r_9, c_counters_10⟩, hc_, hf⟩ := hf
      refine zcn2 (pc := 77) (rv := (some (.int r_9))) (va_runV (As := [.int (-2 : Int32)]) (rest := []) ⟨hx, hb, hml, hown, hts⟩ (c_X10_answer l D cy tt H.size h0 hm (-2 : Int32) c_counters (0 : Int32) c_state c_test c_words c_ill c_before c_inRow c_first c_inWindow c_same c_made c_requests c_total c_secrets c_rounds c_high c_low c_keyHigh c_keyLow r_9 c_counters_10 hc_) (cwV 1 hts gX10_run_X10_answer rfl rfl rfl (by decide +kernel) ⟨Nat.le_of_ble_eq_true rfl, Nat.le_of_ble_eq_true rfl⟩) ⟨zblind, va_recv hK hP (ci := 12) (q0 := 0) rfl rfl, zpre hE hS (hP.sub [0, 8] rfl) (hD.sub [0, 8] (by decide) rfl) (va_free hD hS hA [0, 8] rfl)⟩ rfl rfl hl.1 rfl (lv_room (Nat.le_of_ble_eq_true rfl)) (zdt_at zt_X10_run_0 40 rfl) ⟨Nat.zero_le _, Nat.zero_le _⟩) hS hP hD (va_free hD hS hA [0, 8] rfl) [0, 8] rfl (by decide) rfl ?_
      clear hP hD hS hc_
      intro H locs hP hD hS
      replace hP : va_P D vwCl ([(h0, .inr (12, zmo hm (0 : Int32) c_state c_test c_words c_ill c_before c_inRow c_first c_inWindow c_same c_made c_requests c_total c_secrets c_rounds c_high c_low c_keyHigh c_keyLow)), ((hm 0), .inl (cy 1, 64, .inl c_ROUND)), ((hm 47), .inl (cy 1, 8, .inl c_START)), ((hm 40), .inl (cy 1, 256, .inl c_back)), ((hm 43), .inl (cy 1, 16, .inl c_block)), ((hm 46), .inl (cy 1, 512, .inl c_body)), ((hm 39), .inl (cy 1, 256, .inl c_box)), ((hm 6), .inl (cy 1, 512, .inl c_buffer)), ((hm 5), .inl (cy 1, 3, .inl c_counters_10)), ((hm 35), .inl (cy 1, 32, .inl c_digest)), ((hm 30), .inl (cy 1, 8, .inl c_h)), ((hm 12), .inl (cy 1, 16, .inl c_holder)), ((hm 36), .inl (cy 1, 32, .inl c_inner)), ((hm 25), .inl (cy 1, 32, .inl c_k)), ((hm 14), .inl (cy 1, 1024, .inl c_keys)), ((hm 9), .inl (cy 1, 16, .inl c_kind)), ((hm 10), .inl (cy 1, 16, .inl c_length)), ((hm 33), .inl (cy 1, 64, .inl c_message)), ((hm 44), .inl (cy 1, 16, .inl c_other)), ((hm 45), .inl (cy 1, 600, .inl c_result)), ((hm 41), .inl (cy 1, 240, .inl c_round)), ((hm 37), .inl (cy 1, 64, .inl c_secret)), ((hm 11), .inl (cy 1, 16, .inl c_usage)), ((hm 13), .inl (cy 1, 16, .inl c_uses)), ((hm 26), .inl (cy 1, 32, .inl c_v)), ((hm 31), .inl (cy 1, 64, .inl c_w)), ((hm 16), .inl (cy 1, 64, .inl c_word)), ((hm 32), .inl (cy 1, 8, .inl c_x))]) H := hP
      replace hD : va_D A ([(h0, .inr (12, zmo hm (0 : Int32) c_state c_test c_words c_ill c_before c_inRow c_first c_inWindow c_same c_made c_requests c_total c_secrets c_rounds c_high c_low c_keyHigh c_keyLow)), ((hm 0), .inl (cy 1, 64, .inl c_ROUND)), ((hm 47), .inl (cy 1, 8, .inl c_START)), ((hm 40), .inl (cy 1, 256, .inl c_back)), ((hm 43), .inl (cy 1, 16, .inl c_block)), ((hm 46), .inl (cy 1, 512, .inl c_body)), ((hm 39), .inl (cy 1, 256, .inl c_box)), ((hm 6), .inl (cy 1, 512, .inl c_buffer)), ((hm 5), .inl (cy 1, 3, .inl c_counters_10)), ((hm 35), .inl (cy 1, 32, .inl c_digest)), ((hm 30), .inl (cy 1, 8, .inl c_h)), ((hm 12), .inl (cy 1, 16, .inl c_holder)), ((hm 36), .inl (cy 1, 32, .inl c_inner)), ((hm 25), .inl (cy 1, 32, .inl c_k)), ((hm 14), .inl (cy 1, 1024, .inl c_keys)), ((hm 9), .inl (cy 1, 16, .inl c_kind)), ((hm 10), .inl (cy 1, 16, .inl c_length)), ((hm 33), .inl (cy 1, 64, .inl c_message)), ((hm 44), .inl (cy 1, 16, .inl c_other)), ((hm 45), .inl (cy 1, 600, .inl c_result)), ((hm 41), .inl (cy 1, 240, .inl c_round)), ((hm 37), .inl (cy 1, 64, .inl c_secret)), ((hm 11), .inl (cy 1, 16, .inl c_usage)), ((hm 13), .inl (cy 1, 16, .inl c_uses)), ((hm 26), .inl (cy 1, 32, .inl c_v)), ((hm 31), .inl (cy 1, 64, .inl c_w)), ((hm 16), .inl (cy 1, 64, .inl c_word)), ((hm 32), .inl (cy 1, 8, .inl c_x))]) := hD
      refine W.eq (g2 := F0 m 80 ls [.int r_9]) rfl ?_
      cases hf
      exact W.iret (pc := 80) hx hb hr (fun t ht hW => ⟨rfl, ⟨by rw [ht]; exact hP, hD⟩, hS.F ht⟩) hS.2.2 (zdt_at zt_X10_run_0 41 rfl)
    replace hf := ze_s cn_ hf
    clear cn_
    refine lv_iload (pc := 47) hx hb (zdt_at zt_X10_run_0 25 rfl) (lv_at hl 0 rfl) ?_
    replace hf := zj_s hf
    obtain ⟨K_11, eK_11, hf⟩ := hf
    have kK_11 : ∀  (H : Heap) (locs : List Loc) (ls : Array Slot), va_P D vwCl ([(h0, .inr (12, zmo hm (0 : Int32) c_state c_test c_words c_ill c_before c_inRow c_first c_inWindow c_same c_made c_requests c_total c_secrets c_rounds c_high c_low c_keyHigh c_keyLow)), ((hm 0), .inl (cy 1, 64, .inl c_ROUND)), ((hm 47), .inl (cy 1, 8, .inl c_START)), ((hm 40), .inl (cy 1, 256, .inl c_back)), ((hm 43), .inl (cy 1, 16, .inl c_block)), ((hm 46), .inl (cy 1, 512, .inl c_body)), ((hm 39), .inl (cy 1, 256, .inl c_box)), ((hm 6), .inl (cy 1, 512, .inl c_buffer)), ((hm 5), .inl (cy 1, 3, .inl c_counters)), ((hm 35), .inl (cy 1, 32, .inl c_digest)), ((hm 30), .inl (cy 1, 8, .inl c_h)), ((hm 12), .inl (cy 1, 16, .inl c_holder)), ((hm 36), .inl (cy 1, 32, .inl c_inner)), ((hm 25), .inl (cy 1, 32, .inl c_k)), ((hm 14), .inl (cy 1, 1024, .inl c_keys)), ((hm 9), .inl (cy 1, 16, .inl c_kind)), ((hm 10), .inl (cy 1, 16, .inl c_length)), ((hm 33), .inl (cy 1, 64, .inl c_message)), ((hm 44), .inl (cy 1, 16, .inl c_other)), ((hm 45), .inl (cy 1, 600, .inl c_result)), ((hm 41), .inl (cy 1, 240, .inl c_round)), ((hm 37), .inl (cy 1, 64, .inl c_secret)), ((hm 11), .inl (cy 1, 16, .inl c_usage)), ((hm 13), .inl (cy 1, 16, .inl c_uses)), ((hm 26), .inl (cy 1, 32, .inl c_v)), ((hm 31), .inl (cy 1, 64, .inl c_w)), ((hm 16), .inl (cy 1, 64, .inl c_word)), ((hm 32), .inl (cy 1, 8, .inl c_x))]) H → va_D A ([(h0, .inr (12, zmo hm (0 : Int32) c_state c_test c_words c_ill c_before c_inRow c_first c_inWindow c_same c_made c_requests c_total c_secrets c_rounds c_high c_low c_keyHigh c_keyLow)), ((hm 0), .inl (cy 1, 64, .inl c_ROUND)), ((hm 47), .inl (cy 1, 8, .inl c_START)), ((hm 40), .inl (cy 1, 256, .inl c_back)), ((hm 43), .inl (cy 1, 16, .inl c_block)), ((hm 46), .inl (cy 1, 512, .inl c_body)), ((hm 39), .inl (cy 1, 256, .inl c_box)), ((hm 6), .inl (cy 1, 512, .inl c_buffer)), ((hm 5), .inl (cy 1, 3, .inl c_counters)), ((hm 35), .inl (cy 1, 32, .inl c_digest)), ((hm 30), .inl (cy 1, 8, .inl c_h)), ((hm 12), .inl (cy 1, 16, .inl c_holder)), ((hm 36), .inl (cy 1, 32, .inl c_inner)), ((hm 25), .inl (cy 1, 32, .inl c_k)), ((hm 14), .inl (cy 1, 1024, .inl c_keys)), ((hm 9), .inl (cy 1, 16, .inl c_kind)), ((hm 10), .inl (cy 1, 16, .inl c_length)), ((hm 33), .inl (cy 1, 64, .inl c_message)), ((hm 44), .inl (cy 1, 16, .inl c_other)), ((hm 45), .inl (cy 1, 600, .inl c_result)), ((hm 41), .inl (cy 1, 240, .inl c_round)), ((hm 37), .inl (cy 1, 64, .inl c_secret)), ((hm 11), .inl (cy 1, 16, .inl c_usage)), ((hm 13), .inl (cy 1, 16, .inl c_uses)), ((hm 26), .inl (cy 1, 32, .inl c_v)), ((hm 31), .inl (cy 1, 64, .inl c_w)), ((hm 16), .inl (cy 1, 64, .inl c_word)), ((hm 32), .inl (cy 1, 8, .inl c_x))]) → va_S A s.heap H locs → lv_has ls 8 [(0, .ref h0), (1, .int p1), (2, .int p2), (3, .int p3), (4, .int p4), (5, .int p5), (6, .int v_4)] → K_11 () = some (r_, c_high', c_keyHigh', c_keyLow', c_low', c_made', c_requests', c_rounds', c_secrets', c_thrown', c_total', c_words', c_block', c_body', c_buffer', c_counters', c_digest', c_h', c_inner', c_k', c_message', c_other', c_result', c_round', c_secret', c_uses', c_v', c_w', c_word', c_x') → GW H locs (F0 m 62 ls []) := by
      clear hf hl hP hD hS
      intro  H locs ls hP hD hS hl hf
      rw [eK_11] at hf
      clear eK_11
      refine hFr _ _ _ ?_
      refine lv_iload_n (pc := 62) hx hb (zdt_at zt_X10_run_0 32 rfl) rfl (lv_at hl 1 rfl) ?_
      refine lv_iload_n (pc := 63) hx hb (zdt_at zt_X10_run_0 33 rfl) rfl (lv_at hl 3 rfl) ?_
      refine lv_iload (pc := 64) hx hb (zdt_at zt_X10_run_0 34 rfl) (lv_at hl 4 rfl) ?_
      refine lv_iload (pc := 66) hx hb (zdt_at zt_X10_run_0 35 rfl) (lv_at hl 5 rfl) ?_
      replace hf := zb_s hf
      obtain ⟨r_12, hc_, hf⟩ := hf
      refine zcs (pc := 68) (rv := (some (.int r_12))) (va_runS (As := [.int p1, .int p3, .int p4, .int p5]) (rest := []) ⟨hx, hb, hml, hown, hts⟩ (c_X10_isRoom l D cy tt H.size p1 p3 p4 p5 r_12 hc_) (va_cwS 4 hts gX10_run_X10_isRoom rfl rfl rfl (by decide +kernel) ⟨Nat.le_of_ble_eq_true rfl, Nat.le_of_ble_eq_true rfl⟩) ⟨zblind, zpre hE hS (hP.sub [] rfl) (hD.sub [] (by decide) rfl) (va_free hD hS hA [] rfl)⟩ rfl rfl hl.1 rfl (lv_room (Nat.le_of_ble_eq_true rfl)) (zdt_at zt_X10_run_0 36 rfl) ⟨Nat.zero_le _, Nat.zero_le _⟩) ?_
      clear hc_
      refine W.eq (g2 := F0 m 71 ls [.int r_12]) rfl ?_
      refine lv_if_ne (pc := 71) (tgt := 81) hx hb (zdt_at zt_X10_run_0 37 rfl) (by decide) (fun cn_ => ?t_13) (fun cn_ => ?f_14)
      case f_14 =>
        replace hf := zt_s cn_ hf
        clear cn_
        refine lv_aload_n (pc := 74) hx hb (zdt_at zt_X10_run_0 38 rfl) rfl (lv_at hl 0 rfl) ?_
        refine lv_bipush (pc := 75) (v := (-2 : Int32)) hx hb (zdt_at zt_X10_run_0 39 rfl) (by decide) ?_
        replace hf := zb_s hf
        obtain ⟨⟨r_257, c_counters_258⟩, hc_, hf⟩ := hf
        refine zcn2 (pc := 77) (rv := (some (.int r_257))) (va_runV (As := [.int (-2 : Int32)]) (rest := []) ⟨hx, hb, hml, hown, hts⟩ (c_X10_answer l D cy tt H.size h0 hm (-2 : Int32) c_counters (0 : Int32) c_state c_test c_words c_ill c_before c_inRow c_first c_inWindow c_same c_made c_requests c_total c_secrets c_rounds c_high c_low c_keyHigh c_keyLow r_257 c_counters_258 hc_) (cwV 1 hts gX10_run_X10_answer rfl rfl rfl (by decide +kernel) ⟨Nat.le_of_ble_eq_true rfl, Nat.le_of_ble_eq_true rfl⟩) ⟨zblind, va_recv hK hP (ci := 12) (q0 := 0) rfl rfl, zpre hE hS (hP.sub [0, 8] rfl) (hD.sub [0, 8] (by decide) rfl) (va_free hD hS hA [0, 8] rfl)⟩ rfl rfl hl.1 rfl (lv_room (Nat.le_of_ble_eq_true rfl)) (zdt_at zt_X10_run_0 40 rfl) ⟨Nat.zero_le _, Nat.zero_le _⟩) hS hP hD (va_free hD hS hA [0, 8] rfl) [0, 8] rfl (by decide) rfl ?_
        clear hP hD hS hc_
        intro H locs hP hD hS
        replace hP : va_P D vwCl ([(h0, .inr (12, zmo hm (0 : Int32) c_state c_test c_words c_ill c_before c_inRow c_first c_inWindow c_same c_made c_requests c_total c_secrets c_rounds c_high c_low c_keyHigh c_keyLow)), ((hm 0), .inl (cy 1, 64, .inl c_ROUND)), ((hm 47), .inl (cy 1, 8, .inl c_START)), ((hm 40), .inl (cy 1, 256, .inl c_back)), ((hm 43), .inl (cy 1, 16, .inl c_block)), ((hm 46), .inl (cy 1, 512, .inl c_body)), ((hm 39), .inl (cy 1, 256, .inl c_box)), ((hm 6), .inl (cy 1, 512, .inl c_buffer)), ((hm 5), .inl (cy 1, 3, .inl c_counters_258)), ((hm 35), .inl (cy 1, 32, .inl c_digest)), ((hm 30), .inl (cy 1, 8, .inl c_h)), ((hm 12), .inl (cy 1, 16, .inl c_holder)), ((hm 36), .inl (cy 1, 32, .inl c_inner)), ((hm 25), .inl (cy 1, 32, .inl c_k)), ((hm 14), .inl (cy 1, 1024, .inl c_keys)), ((hm 9), .inl (cy 1, 16, .inl c_kind)), ((hm 10), .inl (cy 1, 16, .inl c_length)), ((hm 33), .inl (cy 1, 64, .inl c_message)), ((hm 44), .inl (cy 1, 16, .inl c_other)), ((hm 45), .inl (cy 1, 600, .inl c_result)), ((hm 41), .inl (cy 1, 240, .inl c_round)), ((hm 37), .inl (cy 1, 64, .inl c_secret)), ((hm 11), .inl (cy 1, 16, .inl c_usage)), ((hm 13), .inl (cy 1, 16, .inl c_uses)), ((hm 26), .inl (cy 1, 32, .inl c_v)), ((hm 31), .inl (cy 1, 64, .inl c_w)), ((hm 16), .inl (cy 1, 64, .inl c_word)), ((hm 32), .inl (cy 1, 8, .inl c_x))]) H := hP
        replace hD : va_D A ([(h0, .inr (12, zmo hm (0 : Int32) c_state c_test c_words c_ill c_before c_inRow c_first c_inWindow c_same c_made c_requests c_total c_secrets c_rounds c_high c_low c_keyHigh c_keyLow)), ((hm 0), .inl (cy 1, 64, .inl c_ROUND)), ((hm 47), .inl (cy 1, 8, .inl c_START)), ((hm 40), .inl (cy 1, 256, .inl c_back)), ((hm 43), .inl (cy 1, 16, .inl c_block)), ((hm 46), .inl (cy 1, 512, .inl c_body)), ((hm 39), .inl (cy 1, 256, .inl c_box)), ((hm 6), .inl (cy 1, 512, .inl c_buffer)), ((hm 5), .inl (cy 1, 3, .inl c_counters_258)), ((hm 35), .inl (cy 1, 32, .inl c_digest)), ((hm 30), .inl (cy 1, 8, .inl c_h)), ((hm 12), .inl (cy 1, 16, .inl c_holder)), ((hm 36), .inl (cy 1, 32, .inl c_inner)), ((hm 25), .inl (cy 1, 32, .inl c_k)), ((hm 14), .inl (cy 1, 1024, .inl c_keys)), ((hm 9), .inl (cy 1, 16, .inl c_kind)), ((hm 10), .inl (cy 1, 16, .inl c_length)), ((hm 33), .inl (cy 1, 64, .inl c_message)), ((hm 44), .inl (cy 1, 16, .inl c_other)), ((hm 45), .inl (cy 1, 600, .inl c_result)), ((hm 41), .inl (cy 1, 240, .inl c_round)), ((hm 37), .inl (cy 1, 64, .inl c_secret)), ((hm 11), .inl (cy 1, 16, .inl c_usage)), ((hm 13), .inl (cy 1, 16, .inl c_uses)), ((hm 26), .inl (cy 1, 32, .inl c_v)), ((hm 31), .inl (cy 1, 64, .inl c_w)), ((hm 16), .inl (cy 1, 64, .inl c_word)), ((hm 32), .inl (cy 1, 8, .inl c_x))]) := hD
        refine W.eq (g2 := F0 m 80 ls [.int r_257]) rfl ?_
        cases hf
        exact W.iret (pc := 80) hx hb hr (fun t ht hW => ⟨rfl, ⟨by rw [ht]; exact hP, hD⟩, hS.F ht⟩) hS.2.2 (zdt_at zt_X10_run_0 41 rfl)
      replace hf := ze_s cn_ hf
      clear cn_
      refine lv_iload (pc := 81) hx hb (zdt_at zt_X10_run_0 42 rfl) (lv_at hl 6 rfl) ?_
      replace hf := zj_s hf
      obtain ⟨K_18, eK_18, hf⟩ := hf
      have kK_18 : ∀ (c_round_15 : Nat → Int32) (c_rounds_16 : Int32) (c_uses_17 : Nat → Int32) (H : Heap) (locs : List Loc) (ls : Array Slot), va_P D vwCl ([(h0, .inr (12, zmo hm (0 : Int32) c_state c_test c_words c_ill c_before c_inRow c_first c_inWindow c_same c_made c_requests c_total c_secrets c_rounds_16 c_high c_low c_keyHigh c_keyLow)), ((hm 0), .inl (cy 1, 64, .inl c_ROUND)), ((hm 47), .inl (cy 1, 8, .inl c_START)), ((hm 40), .inl (cy 1, 256, .inl c_back)), ((hm 43), .inl (cy 1, 16, .inl c_block)), ((hm 46), .inl (cy 1, 512, .inl c_body)), ((hm 39), .inl (cy 1, 256, .inl c_box)), ((hm 6), .inl (cy 1, 512, .inl c_buffer)), ((hm 5), .inl (cy 1, 3, .inl c_counters)), ((hm 35), .inl (cy 1, 32, .inl c_digest)), ((hm 30), .inl (cy 1, 8, .inl c_h)), ((hm 12), .inl (cy 1, 16, .inl c_holder)), ((hm 36), .inl (cy 1, 32, .inl c_inner)), ((hm 25), .inl (cy 1, 32, .inl c_k)), ((hm 14), .inl (cy 1, 1024, .inl c_keys)), ((hm 9), .inl (cy 1, 16, .inl c_kind)), ((hm 10), .inl (cy 1, 16, .inl c_length)), ((hm 33), .inl (cy 1, 64, .inl c_message)), ((hm 44), .inl (cy 1, 16, .inl c_other)), ((hm 45), .inl (cy 1, 600, .inl c_result)), ((hm 41), .inl (cy 1, 240, .inl c_round_15)), ((hm 37), .inl (cy 1, 64, .inl c_secret)), ((hm 11), .inl (cy 1, 16, .inl c_usage)), ((hm 13), .inl (cy 1, 16, .inl c_uses_17)), ((hm 26), .inl (cy 1, 32, .inl c_v)), ((hm 31), .inl (cy 1, 64, .inl c_w)), ((hm 16), .inl (cy 1, 64, .inl c_word)), ((hm 32), .inl (cy 1, 8, .inl c_x))]) H → va_D A ([(h0, .inr (12, zmo hm (0 : Int32) c_state c_test c_words c_ill c_before c_inRow c_first c_inWindow c_same c_made c_requests c_total c_secrets c_rounds_16 c_high c_low c_keyHigh c_keyLow)), ((hm 0), .inl (cy 1, 64, .inl c_ROUND)), ((hm 47), .inl (cy 1, 8, .inl c_START)), ((hm 40), .inl (cy 1, 256, .inl c_back)), ((hm 43), .inl (cy 1, 16, .inl c_block)), ((hm 46), .inl (cy 1, 512, .inl c_body)), ((hm 39), .inl (cy 1, 256, .inl c_box)), ((hm 6), .inl (cy 1, 512, .inl c_buffer)), ((hm 5), .inl (cy 1, 3, .inl c_counters)), ((hm 35), .inl (cy 1, 32, .inl c_digest)), ((hm 30), .inl (cy 1, 8, .inl c_h)), ((hm 12), .inl (cy 1, 16, .inl c_holder)), ((hm 36), .inl (cy 1, 32, .inl c_inner)), ((hm 25), .inl (cy 1, 32, .inl c_k)), ((hm 14), .inl (cy 1, 1024, .inl c_keys)), ((hm 9), .inl (cy 1, 16, .inl c_kind)), ((hm 10), .inl (cy 1, 16, .inl c_length)), ((hm 33), .inl (cy 1, 64, .inl c_message)), ((hm 44), .inl (cy 1, 16, .inl c_other)), ((hm 45), .inl (cy 1, 600, .inl c_result)), ((hm 41), .inl (cy 1, 240, .inl c_round_15)), ((hm 37), .inl (cy 1, 64, .inl c_secret)), ((hm 11), .inl (cy 1, 16, .inl c_usage)), ((hm 13), .inl (cy 1, 16, .inl c_uses_17)), ((hm 26), .inl (cy 1, 32, .inl c_v)), ((hm 31), .inl (cy 1, 64, .inl c_w)), ((hm 16), .inl (cy 1, 64, .inl c_word)), ((hm 32), .inl (cy 1, 8, .inl c_x))]) → va_S A s.heap H locs → lv_has ls 8 [(0, .ref h0), (1, .int p1), (2, .int p2), (3, .int p3), (4, .int p4), (5, .int p5)] → K_18 c_round_15 c_rounds_16 c_uses_17 = some (r_, c_high', c_keyHigh', c_keyLow', c_low', c_made', c_requests', c_rounds', c_secrets', c_thrown', c_total', c_words', c_block', c_body', c_buffer', c_counters', c_digest', c_h', c_inner', c_k', c_message', c_other', c_result', c_round', c_secret', c_uses', c_v', c_w', c_word', c_x') → GW H locs (F0 m 257 ls []) := by
        clear hf hl hP hD hS
        intro c_round_15 c_rounds_16 c_uses_17 H locs ls hP hD hS hl hf
        rw [eK_18] at hf
        clear eK_18
        refine hFr _ _ _ ?_
        refine lv_iload_n (pc := 257) hx hb (zdt_at zt_X10_run_2 9 rfl) rfl (lv_at hl 1 rfl) ?_
        refine lv_iconst (pc := 258) (v := (3 : Int32)) hx hb (zdt_at zt_X10_run_2 10 rfl) (by decide) ?_
        refine lv_icmp_ge (pc := 259) (tgt := 284) hx hb (zdt_at zt_X10_run_2 11 rfl) (by decide) (fun cn_ => ?t_19) (fun cn_ => ?f_20)
        case f_20 =>
          replace hf := ze_s cn_ hf
          clear cn_
          refine lv_aload_n (pc := 262) hx hb (zdt_at zt_X10_run_2 12 rfl) rfl (lv_at hl 0 rfl) ?_
          refine lv_aload_n (pc := 263) hx hb (zdt_at zt_X10_run_2 13 rfl) rfl (lv_at hl 0 rfl) ?_
          refine lv_iload_n (pc := 264) hx hb (zdt_at zt_X10_run_2 14 rfl) rfl (lv_at hl 1 rfl) ?_
          refine lv_iconst (pc := 265) (v := (1 : Int32)) hx hb (zdt_at zt_X10_run_2 15 rfl) (by decide) ?_
          refine lv_icmp_ne (pc := 266) (tgt := 273) hx hb (zdt_at zt_X10_run_2 16 rfl) (by decide) (fun cn_ => ?t_187) (fun cn_ => ?f_188)
          case t_187 =>
            replace hf := ze_s cn_ hf
            clear cn_
            refine lv_iconst (pc := 273) (v := (0 : Int32)) hx hb (zdt_at zt_X10_run_2 19 rfl) (by decide) ?_
            refine lv_iload_n (pc := 274) hx hb (zdt_at zt_X10_run_2 20 rfl) rfl (lv_at hl 3 rfl) ?_
            refine lv_iload (pc := 275) hx hb (zdt_at zt_X10_run_2 21 rfl) (lv_at hl 4 rfl) ?_
            replace hf := zb_s hf
            obtain ⟨⟨r_189, c_block_190, c_buffer_191, c_other_192⟩, hc_, hf⟩ := hf
            refine zcn2 (pc := 277) (rv := (some (.int r_189))) (va_runV (As := [.int (0 : Int32), .int p3, .int p4]) (rest := [.ref h0]) ⟨hx, hb, hml, hown, hts⟩ (c_X10_blocks l D cy tt H.size h0 hm (0 : Int32) p3 p4 c_rounds_16 c_back c_block c_box c_buffer c_other c_round_15 (0 : Int32) c_state c_test c_words c_ill c_before c_inRow c_first c_inWindow c_same c_made c_requests c_total c_secrets c_high c_low c_keyHigh c_keyLow r_189 c_block_190 c_buffer_191 c_other_192 hc_) (cwV 3 hts gX10_run_X10_blocks rfl rfl rfl (by decide +kernel) ⟨Nat.le_of_ble_eq_true rfl, Nat.le_of_ble_eq_true rfl⟩) ⟨zblind, va_recv hK hP (ci := 12) (q0 := 0) rfl rfl, zpre hE hS (hP.sub [0, 3, 4, 6, 7, 18, 20] rfl) (hD.sub [0, 3, 4, 6, 7, 18, 20] (by decide) rfl) (va_free hD hS hA [0, 3, 4, 6, 7, 18, 20] rfl)⟩ rfl rfl hl.1 rfl (lv_room (Nat.le_of_ble_eq_true rfl)) (zdt_at zt_X10_run_2 22 rfl) ⟨Nat.zero_le _, Nat.zero_le _⟩) hS hP hD (va_free hD hS hA [0, 3, 4, 6, 7, 18, 20] rfl) [0, 3, 4, 6, 7, 18, 20] rfl (by decide) rfl ?_
            clear hP hD hS hc_
            intro H locs hP hD hS
            replace hP : va_P D vwCl ([(h0, .inr (12, zmo hm (0 : Int32) c_state c_test c_words c_ill c_before c_inRow c_first c_inWindow c_same c_made c_requests c_total c_secrets c_rounds_16 c_high c_low c_keyHigh c_keyLow)), ((hm 0), .inl (cy 1, 64, .inl c_ROUND)), ((hm 47), .inl (cy 1, 8, .inl c_START)), ((hm 40), .inl (cy 1, 256, .inl c_back)), ((hm 43), .inl (cy 1, 16, .inl c_block_190)), ((hm 46), .inl (cy 1, 512, .inl c_body)), ((hm 39), .inl (cy 1, 256, .inl c_box)), ((hm 6), .inl (cy 1, 512, .inl c_buffer_191)), ((hm 5), .inl (cy 1, 3, .inl c_counters)), ((hm 35), .inl (cy 1, 32, .inl c_digest)), ((hm 30), .inl (cy 1, 8, .inl c_h)), ((hm 12), .inl (cy 1, 16, .inl c_holder)), ((hm 36), .inl (cy 1, 32, .inl c_inner)), ((hm 25), .inl (cy 1, 32, .inl c_k)), ((hm 14), .inl (cy 1, 1024, .inl c_keys)), ((hm 9), .inl (cy 1, 16, .inl c_kind)), ((hm 10), .inl (cy 1, 16, .inl c_length)), ((hm 33), .inl (cy 1, 64, .inl c_message)), ((hm 44), .inl (cy 1, 16, .inl c_other_192)), ((hm 45), .inl (cy 1, 600, .inl c_result)), ((hm 41), .inl (cy 1, 240, .inl c_round_15)), ((hm 37), .inl (cy 1, 64, .inl c_secret)), ((hm 11), .inl (cy 1, 16, .inl c_usage)), ((hm 13), .inl (cy 1, 16, .inl c_uses_17)), ((hm 26), .inl (cy 1, 32, .inl c_v)), ((hm 31), .inl (cy 1, 64, .inl c_w)), ((hm 16), .inl (cy 1, 64, .inl c_word)), ((hm 32), .inl (cy 1, 8, .inl c_x))]) H := hP
            replace hD : va_D A ([(h0, .inr (12, zmo hm (0 : Int32) c_state c_test c_words c_ill c_before c_inRow c_first c_inWindow c_same c_made c_requests c_total c_secrets c_rounds_16 c_high c_low c_keyHigh c_keyLow)), ((hm 0), .inl (cy 1, 64, .inl c_ROUND)), ((hm 47), .inl (cy 1, 8, .inl c_START)), ((hm 40), .inl (cy 1, 256, .inl c_back)), ((hm 43), .inl (cy 1, 16, .inl c_block_190)), ((hm 46), .inl (cy 1, 512, .inl c_body)), ((hm 39), .inl (cy 1, 256, .inl c_box)), ((hm 6), .inl (cy 1, 512, .inl c_buffer_191)), ((hm 5), .inl (cy 1, 3, .inl c_counters)), ((hm 35), .inl (cy 1, 32, .inl c_digest)), ((hm 30), .inl (cy 1, 8, .inl c_h)), ((hm 12), .inl (cy 1, 16, .inl c_holder)), ((hm 36), .inl (cy 1, 32, .inl c_inner)), ((hm 25), .inl (cy 1, 32, .inl c_k)), ((hm 14), .inl (cy 1, 1024, .inl c_keys)), ((hm 9), .inl (cy 1, 16, .inl c_kind)), ((hm 10), .inl (cy 1, 16, .inl c_length)), ((hm 33), .inl (cy 1, 64, .inl c_message)), ((hm 44), .inl (cy 1, 16, .inl c_other_192)), ((hm 45), .inl (cy 1, 600, .inl c_result)), ((hm 41), .inl (cy 1, 240, .inl c_round_15)), ((hm 37), .inl (cy 1, 64, .inl c_secret)), ((hm 11), .inl (cy 1, 16, .inl c_usage)), ((hm 13), .inl (cy 1, 16, .inl c_uses_17)), ((hm 26), .inl (cy 1, 32, .inl c_v)), ((hm 31), .inl (cy 1, 64, .inl c_w)), ((hm 16), .inl (cy 1, 64, .inl c_word)), ((hm 32), .inl (cy 1, 8, .inl c_x))]) := hD
            refine W.eq (g2 := F0 m 280 ls [.int r_189, .ref h0]) rfl ?_
            replace hf := zb_s hf
            obtain ⟨⟨r_193, c_counters_194⟩, hc_, hf⟩ := hf
            refine zcn2 (pc := 280) (rv := (some (.int r_193))) (va_runV (As := [.int r_189]) (rest := []) ⟨hx, hb, hml, hown, hts⟩ (c_X10_answer l D cy tt H.size h0 hm r_189 c_counters (0 : Int32) c_state c_test c_words c_ill c_before c_inRow c_first c_inWindow c_same c_made c_requests c_total c_secrets c_rounds_16 c_high c_low c_keyHigh c_keyLow r_193 c_counters_194 hc_) (cwV 1 hts gX10_run_X10_answer rfl rfl rfl (by decide +kernel) ⟨Nat.le_of_ble_eq_true rfl, Nat.le_of_ble_eq_true rfl⟩) ⟨zblind, va_recv hK hP (ci := 12) (q0 := 0) rfl rfl, zpre hE hS (hP.sub [0, 8] rfl) (hD.sub [0, 8] (by decide) rfl) (va_free hD hS hA [0, 8] rfl)⟩ rfl rfl hl.1 rfl (lv_room (Nat.le_of_ble_eq_true rfl)) (zdt_at zt_X10_run_2 23 rfl) ⟨Nat.zero_le _, Nat.zero_le _⟩) hS hP hD (va_free hD hS hA [0, 8] rfl) [0, 8] rfl (by decide) rfl ?_
            clear hP hD hS hc_
            intro H locs hP hD hS
            replace hP : va_P D vwCl ([(h0, .inr (12, zmo hm (0 : Int32) c_state c_test c_words c_ill c_before c_inRow c_first c_inWindow c_same c_made c_requests c_total c_secrets c_rounds_16 c_high c_low c_keyHigh c_keyLow)), ((hm 0), .inl (cy 1, 64, .inl c_ROUND)), ((hm 47), .inl (cy 1, 8, .inl c_START)), ((hm 40), .inl (cy 1, 256, .inl c_back)), ((hm 43), .inl (cy 1, 16, .inl c_block_190)), ((hm 46), .inl (cy 1, 512, .inl c_body)), ((hm 39), .inl (cy 1, 256, .inl c_box)), ((hm 6), .inl (cy 1, 512, .inl c_buffer_191)), ((hm 5), .inl (cy 1, 3, .inl c_counters_194)), ((hm 35), .inl (cy 1, 32, .inl c_digest)), ((hm 30), .inl (cy 1, 8, .inl c_h)), ((hm 12), .inl (cy 1, 16, .inl c_holder)), ((hm 36), .inl (cy 1, 32, .inl c_inner)), ((hm 25), .inl (cy 1, 32, .inl c_k)), ((hm 14), .inl (cy 1, 1024, .inl c_keys)), ((hm 9), .inl (cy 1, 16, .inl c_kind)), ((hm 10), .inl (cy 1, 16, .inl c_length)), ((hm 33), .inl (cy 1, 64, .inl c_message)), ((hm 44), .inl (cy 1, 16, .inl c_other_192)), ((hm 45), .inl (cy 1, 600, .inl c_result)), ((hm 41), .inl (cy 1, 240, .inl c_round_15)), ((hm 37), .inl (cy 1, 64, .inl c_secret)), ((hm 11), .inl (cy 1, 16, .inl c_usage)), ((hm 13), .inl (cy 1, 16, .inl c_uses_17)), ((hm 26), .inl (cy 1, 32, .inl c_v)), ((hm 31), .inl (cy 1, 64, .inl c_w)), ((hm 16), .inl (cy 1, 64, .inl c_word)), ((hm 32), .inl (cy 1, 8, .inl c_x))]) H := hP
            replace hD : va_D A ([(h0, .inr (12, zmo hm (0 : Int32) c_state c_test c_words c_ill c_before c_inRow c_first c_inWindow c_same c_made c_requests c_total c_secrets c_rounds_16 c_high c_low c_keyHigh c_keyLow)), ((hm 0), .inl (cy 1, 64, .inl c_ROUND)), ((hm 47), .inl (cy 1, 8, .inl c_START)), ((hm 40), .inl (cy 1, 256, .inl c_back)), ((hm 43), .inl (cy 1, 16, .inl c_block_190)), ((hm 46), .inl (cy 1, 512, .inl c_body)), ((hm 39), .inl (cy 1, 256, .inl c_box)), ((hm 6), .inl (cy 1, 512, .inl c_buffer_191)), ((hm 5), .inl (cy 1, 3, .inl c_counters_194)), ((hm 35), .inl (cy 1, 32, .inl c_digest)), ((hm 30), .inl (cy 1, 8, .inl c_h)), ((hm 12), .inl (cy 1, 16, .inl c_holder)), ((hm 36), .inl (cy 1, 32, .inl c_inner)), ((hm 25), .inl (cy 1, 32, .inl c_k)), ((hm 14), .inl (cy 1, 1024, .inl c_keys)), ((hm 9), .inl (cy 1, 16, .inl c_kind)), ((hm 10), .inl (cy 1, 16, .inl c_length)), ((hm 33), .inl (cy 1, 64, .inl c_message)), ((hm 44), .inl (cy 1, 16, .inl c_other_192)), ((hm 45), .inl (cy 1, 600, .inl c_result)), ((hm 41), .inl (cy 1, 240, .inl c_round_15)), ((hm 37), .inl (cy 1, 64, .inl c_secret)), ((hm 11), .inl (cy 1, 16, .inl c_usage)), ((hm 13), .inl (cy 1, 16, .inl c_uses_17)), ((hm 26), .inl (cy 1, 32, .inl c_v)), ((hm 31), .inl (cy 1, 64, .inl c_w)), ((hm 16), .inl (cy 1, 64, .inl c_word)), ((hm 32), .inl (cy 1, 8, .inl c_x))]) := hD
            refine W.eq (g2 := F0 m 283 ls [.int r_193]) rfl ?_
            cases hf
            exact W.iret (pc := 283) hx hb hr (fun t ht hW => ⟨rfl, ⟨by rw [ht]; exact hP, hD⟩, hS.F ht⟩) hS.2.2 (zdt_at zt_X10_run_2 24 rfl)
          replace hf := zt_s cn_ hf
          clear cn_
          refine lv_iconst (pc := 269) (v := (1 : Int32)) hx hb (zdt_at zt_X10_run_2 17 rfl) (by decide) ?_
          refine lv_goto (pc := 270) (tgt := 274) hx hb (zdt_at zt_X10_run_2 18 rfl) (by decide) ?_
          refine lv_iload_n (pc := 274) hx hb (zdt_at zt_X10_run_2 20 rfl) rfl (lv_at hl 3 rfl) ?_
          refine lv_iload (pc := 275) hx hb (zdt_at zt_X10_run_2 21 rfl) (lv_at hl 4 rfl) ?_
          replace hf := zb_s hf
          obtain ⟨⟨r_195, c_block_196, c_buffer_197, c_other_198⟩, hc_, hf⟩ := hf
          refine zcn2 (pc := 277) (rv := (some (.int r_195))) (va_runV (As := [.int (1 : Int32), .int p3, .int p4]) (rest := [.ref h0]) ⟨hx, hb, hml, hown, hts⟩ (c_X10_blocks l D cy tt H.size h0 hm (1 : Int32) p3 p4 c_rounds_16 c_back c_block c_box c_buffer c_other c_round_15 (0 : Int32) c_state c_test c_words c_ill c_before c_inRow c_first c_inWindow c_same c_made c_requests c_total c_secrets c_high c_low c_keyHigh c_keyLow r_195 c_block_196 c_buffer_197 c_other_198 hc_) (cwV 3 hts gX10_run_X10_blocks rfl rfl rfl (by decide +kernel) ⟨Nat.le_of_ble_eq_true rfl, Nat.le_of_ble_eq_true rfl⟩) ⟨zblind, va_recv hK hP (ci := 12) (q0 := 0) rfl rfl, zpre hE hS (hP.sub [0, 3, 4, 6, 7, 18, 20] rfl) (hD.sub [0, 3, 4, 6, 7, 18, 20] (by decide) rfl) (va_free hD hS hA [0, 3, 4, 6, 7, 18, 20] rfl)⟩ rfl rfl hl.1 rfl (lv_room (Nat.le_of_ble_eq_true rfl)) (zdt_at zt_X10_run_2 22 rfl) ⟨Nat.zero_le _, Nat.zero_le _⟩) hS hP hD (va_free hD hS hA [0, 3, 4, 6, 7, 18, 20] rfl) [0, 3, 4, 6, 7, 18, 20] rfl (by decide) rfl ?_
          clear hP hD hS hc_
          intro H locs hP hD hS
          replace hP : va_P D vwCl ([(h0, .inr (12, zmo hm (0 : Int32) c_state c_test c_words c_ill c_before c_inRow c_first c_inWindow c_same c_made c_requests c_total c_secrets c_rounds_16 c_high c_low c_keyHigh c_keyLow)), ((hm 0), .inl (cy 1, 64, .inl c_ROUND)), ((hm 47), .inl (cy 1, 8, .inl c_START)), ((hm 40), .inl (cy 1, 256, .inl c_back)), ((hm 43), .inl (cy 1, 16, .inl c_block_196)), ((hm 46), .inl (cy 1, 512, .inl c_body)), ((hm 39), .inl (cy 1, 256, .inl c_box)), ((hm 6), .inl (cy 1, 512, .inl c_buffer_197)), ((hm 5), .inl (cy 1, 3, .inl c_counters)), ((hm 35), .inl (cy 1, 32, .inl c_digest)), ((hm 30), .inl (cy 1, 8, .inl c_h)), ((hm 12), .inl (cy 1, 16, .inl c_holder)), ((hm 36), .inl (cy 1, 32, .inl c_inner)), ((hm 25), .inl (cy 1, 32, .inl c_k)), ((hm 14), .inl (cy 1, 1024, .inl c_keys)), ((hm 9), .inl (cy 1, 16, .inl c_kind)), ((hm 10), .inl (cy 1, 16, .inl c_length)), ((hm 33), .inl (cy 1, 64, .inl c_message)), ((hm 44), .inl (cy 1, 16, .inl c_other_198)), ((hm 45), .inl (cy 1, 600, .inl c_result)), ((hm 41), .inl (cy 1, 240, .inl c_round_15)), ((hm 37), .inl (cy 1, 64, .inl c_secret)), ((hm 11), .inl (cy 1, 16, .inl c_usage)), ((hm 13), .inl (cy 1, 16, .inl c_uses_17)), ((hm 26), .inl (cy 1, 32, .inl c_v)), ((hm 31), .inl (cy 1, 64, .inl c_w)), ((hm 16), .inl (cy 1, 64, .inl c_word)), ((hm 32), .inl (cy 1, 8, .inl c_x))]) H := hP
          replace hD : va_D A ([(h0, .inr (12, zmo hm (0 : Int32) c_state c_test c_words c_ill c_before c_inRow c_first c_inWindow c_same c_made c_requests c_total c_secrets c_rounds_16 c_high c_low c_keyHigh c_keyLow)), ((hm 0), .inl (cy 1, 64, .inl c_ROUND)), ((hm 47), .inl (cy 1, 8, .inl c_START)), ((hm 40), .inl (cy 1, 256, .inl c_back)), ((hm 43), .inl (cy 1, 16, .inl c_block_196)), ((hm 46), .inl (cy 1, 512, .inl c_body)), ((hm 39), .inl (cy 1, 256, .inl c_box)), ((hm 6), .inl (cy 1, 512, .inl c_buffer_197)), ((hm 5), .inl (cy 1, 3, .inl c_counters)), ((hm 35), .inl (cy 1, 32, .inl c_digest)), ((hm 30), .inl (cy 1, 8, .inl c_h)), ((hm 12), .inl (cy 1, 16, .inl c_holder)), ((hm 36), .inl (cy 1, 32, .inl c_inner)), ((hm 25), .inl (cy 1, 32, .inl c_k)), ((hm 14), .inl (cy 1, 1024, .inl c_keys)), ((hm 9), .inl (cy 1, 16, .inl c_kind)), ((hm 10), .inl (cy 1, 16, .inl c_length)), ((hm 33), .inl (cy 1, 64, .inl c_message)), ((hm 44), .inl (cy 1, 16, .inl c_other_198)), ((hm 45), .inl (cy 1, 600, .inl c_result)), ((hm 41), .inl (cy 1, 240, .inl c_round_15)), ((hm 37), .inl (cy 1, 64, .inl c_secret)), ((hm 11), .inl (cy 1, 16, .inl c_usage)), ((hm 13), .inl (cy 1, 16, .inl c_uses_17)), ((hm 26), .inl (cy 1, 32, .inl c_v)), ((hm 31), .inl (cy 1, 64, .inl c_w)), ((hm 16), .inl (cy 1, 64, .inl c_word)), ((hm 32), .inl (cy 1, 8, .inl c_x))]) := hD
          refine W.eq (g2 := F0 m 280 ls [.int r_195, .ref h0]) rfl ?_
          replace hf := zb_s hf
          obtain ⟨⟨r_199, c_counters_200⟩, hc_, hf⟩ := hf
          refine zcn2 (pc := 280) (rv := (some (.int r_199))) (va_runV (As := [.int r_195]) (rest := []) ⟨hx, hb, hml, hown, hts⟩ (c_X10_answer l D cy tt H.size h0 hm r_195 c_counters (0 : Int32) c_state c_test c_words c_ill c_before c_inRow c_first c_inWindow c_same c_made c_requests c_total c_secrets c_rounds_16 c_high c_low c_keyHigh c_keyLow r_199 c_counters_200 hc_) (cwV 1 hts gX10_run_X10_answer rfl rfl rfl (by decide +kernel) ⟨Nat.le_of_ble_eq_true rfl, Nat.le_of_ble_eq_true rfl⟩) ⟨zblind, va_recv hK hP (ci := 12) (q0 := 0) rfl rfl, zpre hE hS (hP.sub [0, 8] rfl) (hD.sub [0, 8] (by decide) rfl) (va_free hD hS hA [0, 8] rfl)⟩ rfl rfl hl.1 rfl (lv_room (Nat.le_of_ble_eq_true rfl)) (zdt_at zt_X10_run_2 23 rfl) ⟨Nat.zero_le _, Nat.zero_le _⟩) hS hP hD (va_free hD hS hA [0, 8] rfl) [0, 8] rfl (by decide) rfl ?_
          clear hP hD hS hc_
          intro H locs hP hD hS
          replace hP : va_P D vwCl ([(h0, .inr (12, zmo hm (0 : Int32) c_state c_test c_words c_ill c_before c_inRow c_first c_inWindow c_same c_made c_requests c_total c_secrets c_rounds_16 c_high c_low c_keyHigh c_keyLow)), ((hm 0), .inl (cy 1, 64, .inl c_ROUND)), ((hm 47), .inl (cy 1, 8, .inl c_START)), ((hm 40), .inl (cy 1, 256, .inl c_back)), ((hm 43), .inl (cy 1, 16, .inl c_block_196)), ((hm 46), .inl (cy 1, 512, .inl c_body)), ((hm 39), .inl (cy 1, 256, .inl c_box)), ((hm 6), .inl (cy 1, 512, .inl c_buffer_197)), ((hm 5), .inl (cy 1, 3, .inl c_counters_200)), ((hm 35), .inl (cy 1, 32, .inl c_digest)), ((hm 30), .inl (cy 1, 8, .inl c_h)), ((hm 12), .inl (cy 1, 16, .inl c_holder)), ((hm 36), .inl (cy 1, 32, .inl c_inner)), ((hm 25), .inl (cy 1, 32, .inl c_k)), ((hm 14), .inl (cy 1, 1024, .inl c_keys)), ((hm 9), .inl (cy 1, 16, .inl c_kind)), ((hm 10), .inl (cy 1, 16, .inl c_length)), ((hm 33), .inl (cy 1, 64, .inl c_message)), ((hm 44), .inl (cy 1, 16, .inl c_other_198)), ((hm 45), .inl (cy 1, 600, .inl c_result)), ((hm 41), .inl (cy 1, 240, .inl c_round_15)), ((hm 37), .inl (cy 1, 64, .inl c_secret)), ((hm 11), .inl (cy 1, 16, .inl c_usage)), ((hm 13), .inl (cy 1, 16, .inl c_uses_17)), ((hm 26), .inl (cy 1, 32, .inl c_v)), ((hm 31), .inl (cy 1, 64, .inl c_w)), ((hm 16), .inl (cy 1, 64, .inl c_word)), ((hm 32), .inl (cy 1, 8, .inl c_x))]) H := hP
          replace hD : va_D A ([(h0, .inr (12, zmo hm (0 : Int32) c_state c_test c_words c_ill c_before c_inRow c_first c_inWindow c_same c_made c_requests c_total c_secrets c_rounds_16 c_high c_low c_keyHigh c_keyLow)), ((hm 0), .inl (cy 1, 64, .inl c_ROUND)), ((hm 47), .inl (cy 1, 8, .inl c_START)), ((hm 40), .inl (cy 1, 256, .inl c_back)), ((hm 43), .inl (cy 1, 16, .inl c_block_196)), ((hm 46), .inl (cy 1, 512, .inl c_body)), ((hm 39), .inl (cy 1, 256, .inl c_box)), ((hm 6), .inl (cy 1, 512, .inl c_buffer_197)), ((hm 5), .inl (cy 1, 3, .inl c_counters_200)), ((hm 35), .inl (cy 1, 32, .inl c_digest)), ((hm 30), .inl (cy 1, 8, .inl c_h)), ((hm 12), .inl (cy 1, 16, .inl c_holder)), ((hm 36), .inl (cy 1, 32, .inl c_inner)), ((hm 25), .inl (cy 1, 32, .inl c_k)), ((hm 14), .inl (cy 1, 1024, .inl c_keys)), ((hm 9), .inl (cy 1, 16, .inl c_kind)), ((hm 10), .inl (cy 1, 16, .inl c_length)), ((hm 33), .inl (cy 1, 64, .inl c_message)), ((hm 44), .inl (cy 1, 16, .inl c_other_198)), ((hm 45), .inl (cy 1, 600, .inl c_result)), ((hm 41), .inl (cy 1, 240, .inl c_round_15)), ((hm 37), .inl (cy 1, 64, .inl c_secret)), ((hm 11), .inl (cy 1, 16, .inl c_usage)), ((hm 13), .inl (cy 1, 16, .inl c_uses_17)), ((hm 26), .inl (cy 1, 32, .inl c_v)), ((hm 31), .inl (cy 1, 64, .inl c_w)), ((hm 16), .inl (cy 1, 64, .inl c_word)), ((hm 32), .inl (cy 1, 8, .inl c_x))]) := hD
          refine W.eq (g2 := F0 m 283 ls [.int r_199]) rfl ?_
          cases hf
          exact W.iret (pc := 283) hx hb hr (fun t ht hW => ⟨rfl, ⟨by rw [ht]; exact hP, hD⟩, hS.F ht⟩) hS.2.2 (zdt_at zt_X10_run_2 24 rfl)
        replace hf := zt_s cn_ hf
        clear cn_
        refine lv_iload_n (pc := 284) hx hb (zdt_at zt_X10_run_2 25 rfl) rfl (lv_at hl 1 rfl) ?_
        refine lv_iconst (pc := 285) (v := (5 : Int32)) hx hb (zdt_at zt_X10_run_2 26 rfl) (by decide) ?_
        refine lv_icmp_ge (pc := 286) (tgt := 311) hx hb (zdt_at zt_X10_run_2 27 rfl) (by decide) (fun cn_ => ?t_21) (fun cn_ => ?f_22)
        case f_22 =>
          replace hf := ze_s cn_ hf
          clear cn_
          refine lv_aload_n (pc := 289) hx hb (zdt_at zt_X10_run_2 28 rfl) rfl (lv_at hl 0 rfl) ?_
          refine lv_aload_n (pc := 290) hx hb (zdt_at zt_X10_run_2 29 rfl) rfl (lv_at hl 0 rfl) ?_
          refine lv_iload_n (pc := 291) hx hb (zdt_at zt_X10_run_2 30 rfl) rfl (lv_at hl 1 rfl) ?_
          refine lv_iconst (pc := 292) (v := (3 : Int32)) hx hb (zdt_at zt_X10_run_2 31 rfl) (by decide) ?_
          refine lv_icmp_ne (pc := 293) (tgt := 300) hx hb (zdt_at zt_X10_run_2 32 rfl) (by decide) (fun cn_ => ?t_171) (fun cn_ => ?f_172)
          case t_171 =>
            replace hf := ze_s cn_ hf
            clear cn_
            refine lv_iconst (pc := 300) (v := (0 : Int32)) hx hb (zdt_at zt_X10_run_2 35 rfl) (by decide) ?_
            refine lv_iload_n (pc := 301) hx hb (zdt_at zt_X10_run_2 36 rfl) rfl (lv_at hl 3 rfl) ?_
            refine lv_iload (pc := 302) hx hb (zdt_at zt_X10_run_2 37 rfl) (lv_at hl 4 rfl) ?_
            replace hf := zb_s hf
            obtain ⟨⟨r_173, c_block_174, c_buffer_175, c_other_176, c_result_177⟩, hc_, hf⟩ := hf
            refine zcn2 (pc := 304) (rv := (some (.int r_173))) (va_runV (As := [.int (0 : Int32), .int p3, .int p4]) (rest := [.ref h0]) ⟨hx, hb, hml, hown, hts⟩ (c_X10_chain l D cy tt H.size h0 hm (0 : Int32) p3 p4 c_rounds_16 c_back c_block c_box c_buffer c_other c_result c_round_15 (0 : Int32) c_state c_test c_words c_ill c_before c_inRow c_first c_inWindow c_same c_made c_requests c_total c_secrets c_high c_low c_keyHigh c_keyLow r_173 c_block_174 c_buffer_175 c_other_176 c_result_177 hc_) (cwV 3 hts gX10_run_X10_chain rfl rfl rfl (by decide +kernel) ⟨Nat.le_of_ble_eq_true rfl, Nat.le_of_ble_eq_true rfl⟩) ⟨zblind, va_recv hK hP (ci := 12) (q0 := 0) rfl rfl, zpre hE hS (hP.sub [0, 3, 4, 6, 7, 18, 19, 20] rfl) (hD.sub [0, 3, 4, 6, 7, 18, 19, 20] (by decide) rfl) (va_free hD hS hA [0, 3, 4, 6, 7, 18, 19, 20] rfl)⟩ rfl rfl hl.1 rfl (lv_room (Nat.le_of_ble_eq_true rfl)) (zdt_at zt_X10_run_2 38 rfl) ⟨Nat.zero_le _, Nat.zero_le _⟩) hS hP hD (va_free hD hS hA [0, 3, 4, 6, 7, 18, 19, 20] rfl) [0, 3, 4, 6, 7, 18, 19, 20] rfl (by decide) rfl ?_
            clear hP hD hS hc_
            intro H locs hP hD hS
            replace hP : va_P D vwCl ([(h0, .inr (12, zmo hm (0 : Int32) c_state c_test c_words c_ill c_before c_inRow c_first c_inWindow c_same c_made c_requests c_total c_secrets c_rounds_16 c_high c_low c_keyHigh c_keyLow)), ((hm 0), .inl (cy 1, 64, .inl c_ROUND)), ((hm 47), .inl (cy 1, 8, .inl c_START)), ((hm 40), .inl (cy 1, 256, .inl c_back)), ((hm 43), .inl (cy 1, 16, .inl c_block_174)), ((hm 46), .inl (cy 1, 512, .inl c_body)), ((hm 39), .inl (cy 1, 256, .inl c_box)), ((hm 6), .inl (cy 1, 512, .inl c_buffer_175)), ((hm 5), .inl (cy 1, 3, .inl c_counters)), ((hm 35), .inl (cy 1, 32, .inl c_digest)), ((hm 30), .inl (cy 1, 8, .inl c_h)), ((hm 12), .inl (cy 1, 16, .inl c_holder)), ((hm 36), .inl (cy 1, 32, .inl c_inner)), ((hm 25), .inl (cy 1, 32, .inl c_k)), ((hm 14), .inl (cy 1, 1024, .inl c_keys)), ((hm 9), .inl (cy 1, 16, .inl c_kind)), ((hm 10), .inl (cy 1, 16, .inl c_length)), ((hm 33), .inl (cy 1, 64, .inl c_message)), ((hm 44), .inl (cy 1, 16, .inl c_other_176)), ((hm 45), .inl (cy 1, 600, .inl c_result_177)), ((hm 41), .inl (cy 1, 240, .inl c_round_15)), ((hm 37), .inl (cy 1, 64, .inl c_secret)), ((hm 11), .inl (cy 1, 16, .inl c_usage)), ((hm 13), .inl (cy 1, 16, .inl c_uses_17)), ((hm 26), .inl (cy 1, 32, .inl c_v)), ((hm 31), .inl (cy 1, 64, .inl c_w)), ((hm 16), .inl (cy 1, 64, .inl c_word)), ((hm 32), .inl (cy 1, 8, .inl c_x))]) H := hP
            replace hD : va_D A ([(h0, .inr (12, zmo hm (0 : Int32) c_state c_test c_words c_ill c_before c_inRow c_first c_inWindow c_same c_made c_requests c_total c_secrets c_rounds_16 c_high c_low c_keyHigh c_keyLow)), ((hm 0), .inl (cy 1, 64, .inl c_ROUND)), ((hm 47), .inl (cy 1, 8, .inl c_START)), ((hm 40), .inl (cy 1, 256, .inl c_back)), ((hm 43), .inl (cy 1, 16, .inl c_block_174)), ((hm 46), .inl (cy 1, 512, .inl c_body)), ((hm 39), .inl (cy 1, 256, .inl c_box)), ((hm 6), .inl (cy 1, 512, .inl c_buffer_175)), ((hm 5), .inl (cy 1, 3, .inl c_counters)), ((hm 35), .inl (cy 1, 32, .inl c_digest)), ((hm 30), .inl (cy 1, 8, .inl c_h)), ((hm 12), .inl (cy 1, 16, .inl c_holder)), ((hm 36), .inl (cy 1, 32, .inl c_inner)), ((hm 25), .inl (cy 1, 32, .inl c_k)), ((hm 14), .inl (cy 1, 1024, .inl c_keys)), ((hm 9), .inl (cy 1, 16, .inl c_kind)), ((hm 10), .inl (cy 1, 16, .inl c_length)), ((hm 33), .inl (cy 1, 64, .inl c_message)), ((hm 44), .inl (cy 1, 16, .inl c_other_176)), ((hm 45), .inl (cy 1, 600, .inl c_result_177)), ((hm 41), .inl (cy 1, 240, .inl c_round_15)), ((hm 37), .inl (cy 1, 64, .inl c_secret)), ((hm 11), .inl (cy 1, 16, .inl c_usage)), ((hm 13), .inl (cy 1, 16, .inl c_uses_17)), ((hm 26), .inl (cy 1, 32, .inl c_v)), ((hm 31), .inl (cy 1, 64, .inl c_w)), ((hm 16), .inl (cy 1, 64, .inl c_word)), ((hm 32), .inl (cy 1, 8, .inl c_x))]) := hD
            refine W.eq (g2 := F0 m 307 ls [.int r_173, .ref h0]) rfl ?_
            replace hf := zb_s hf
            obtain ⟨⟨r_178, c_counters_179⟩, hc_, hf⟩ := hf
            refine zcn2 (pc := 307) (rv := (some (.int r_178))) (va_runV (As := [.int r_173]) (rest := []) ⟨hx, hb, hml, hown, hts⟩ (c_X10_answer l D cy tt H.size h0 hm r_173 c_counters (0 : Int32) c_state c_test c_words c_ill c_before c_inRow c_first c_inWindow c_same c_made c_requests c_total c_secrets c_rounds_16 c_high c_low c_keyHigh c_keyLow r_178 c_counters_179 hc_) (cwV 1 hts gX10_run_X10_answer rfl rfl rfl (by decide +kernel) ⟨Nat.le_of_ble_eq_true rfl, Nat.le_of_ble_eq_true rfl⟩) ⟨zblind, va_recv hK hP (ci := 12) (q0 := 0) rfl rfl, zpre hE hS (hP.sub [0, 8] rfl) (hD.sub [0, 8] (by decide) rfl) (va_free hD hS hA [0, 8] rfl)⟩ rfl rfl hl.1 rfl (lv_room (Nat.le_of_ble_eq_true rfl)) (zdt_at zt_X10_run_2 39 rfl) ⟨Nat.zero_le _, Nat.zero_le _⟩) hS hP hD (va_free hD hS hA [0, 8] rfl) [0, 8] rfl (by decide) rfl ?_
            clear hP hD hS hc_
            intro H locs hP hD hS
            replace hP : va_P D vwCl ([(h0, .inr (12, zmo hm (0 : Int32) c_state c_test c_words c_ill c_before c_inRow c_first c_inWindow c_same c_made c_requests c_total c_secrets c_rounds_16 c_high c_low c_keyHigh c_keyLow)), ((hm 0), .inl (cy 1, 64, .inl c_ROUND)), ((hm 47), .inl (cy 1, 8, .inl c_START)), ((hm 40), .inl (cy 1, 256, .inl c_back)), ((hm 43), .inl (cy 1, 16, .inl c_block_174)), ((hm 46), .inl (cy 1, 512, .inl c_body)), ((hm 39), .inl (cy 1, 256, .inl c_box)), ((hm 6), .inl (cy 1, 512, .inl c_buffer_175)), ((hm 5), .inl (cy 1, 3, .inl c_counters_179)), ((hm 35), .inl (cy 1, 32, .inl c_digest)), ((hm 30), .inl (cy 1, 8, .inl c_h)), ((hm 12), .inl (cy 1, 16, .inl c_holder)), ((hm 36), .inl (cy 1, 32, .inl c_inner)), ((hm 25), .inl (cy 1, 32, .inl c_k)), ((hm 14), .inl (cy 1, 1024, .inl c_keys)), ((hm 9), .inl (cy 1, 16, .inl c_kind)), ((hm 10), .inl (cy 1, 16, .inl c_length)), ((hm 33), .inl (cy 1, 64, .inl c_message)), ((hm 44), .inl (cy 1, 16, .inl c_other_176)), ((hm 45), .inl (cy 1, 600, .inl c_result_177)), ((hm 41), .inl (cy 1, 240, .inl c_round_15)), ((hm 37), .inl (cy 1, 64, .inl c_secret)), ((hm 11), .inl (cy 1, 16, .inl c_usage)), ((hm 13), .inl (cy 1, 16, .inl c_uses_17)), ((hm 26), .inl (cy 1, 32, .inl c_v)), ((hm 31), .inl (cy 1, 64, .inl c_w)), ((hm 16), .inl (cy 1, 64, .inl c_word)), ((hm 32), .inl (cy 1, 8, .inl c_x))]) H := hP
            replace hD : va_D A ([(h0, .inr (12, zmo hm (0 : Int32) c_state c_test c_words c_ill c_before c_inRow c_first c_inWindow c_same c_made c_requests c_total c_secrets c_rounds_16 c_high c_low c_keyHigh c_keyLow)), ((hm 0), .inl (cy 1, 64, .inl c_ROUND)), ((hm 47), .inl (cy 1, 8, .inl c_START)), ((hm 40), .inl (cy 1, 256, .inl c_back)), ((hm 43), .inl (cy 1, 16, .inl c_block_174)), ((hm 46), .inl (cy 1, 512, .inl c_body)), ((hm 39), .inl (cy 1, 256, .inl c_box)), ((hm 6), .inl (cy 1, 512, .inl c_buffer_175)), ((hm 5), .inl (cy 1, 3, .inl c_counters_179)), ((hm 35), .inl (cy 1, 32, .inl c_digest)), ((hm 30), .inl (cy 1, 8, .inl c_h)), ((hm 12), .inl (cy 1, 16, .inl c_holder)), ((hm 36), .inl (cy 1, 32, .inl c_inner)), ((hm 25), .inl (cy 1, 32, .inl c_k)), ((hm 14), .inl (cy 1, 1024, .inl c_keys)), ((hm 9), .inl (cy 1, 16, .inl c_kind)), ((hm 10), .inl (cy 1, 16, .inl c_length)), ((hm 33), .inl (cy 1, 64, .inl c_message)), ((hm 44), .inl (cy 1, 16, .inl c_other_176)), ((hm 45), .inl (cy 1, 600, .inl c_result_177)), ((hm 41), .inl (cy 1, 240, .inl c_round_15)), ((hm 37), .inl (cy 1, 64, .inl c_secret)), ((hm 11), .inl (cy 1, 16, .inl c_usage)), ((hm 13), .inl (cy 1, 16, .inl c_uses_17)), ((hm 26), .inl (cy 1, 32, .inl c_v)), ((hm 31), .inl (cy 1, 64, .inl c_w)), ((hm 16), .inl (cy 1, 64, .inl c_word)), ((hm 32), .inl (cy 1, 8, .inl c_x))]) := hD
            refine W.eq (g2 := F0 m 310 ls [.int r_178]) rfl ?_
            cases hf
            exact W.iret (pc := 310) hx hb hr (fun t ht hW => ⟨rfl, ⟨by rw [ht]; exact hP, hD⟩, hS.F ht⟩) hS.2.2 (zdt_at zt_X10_run_2 40 rfl)
          replace hf := zt_s cn_ hf
          clear cn_
          refine lv_iconst (pc := 296) (v := (1 : Int32)) hx hb (zdt_at zt_X10_run_2 33 rfl) (by decide) ?_
          refine lv_goto (pc := 297) (tgt := 301) hx hb (zdt_at zt_X10_run_2 34 rfl) (by decide) ?_
          refine lv_iload_n (pc := 301) hx hb (zdt_at zt_X10_run_2 36 rfl) rfl (lv_at hl 3 rfl) ?_
          refine lv_iload (pc := 302) hx hb (zdt_at zt_X10_run_2 37 rfl) (lv_at hl 4 rfl) ?_
          replace hf := zb_s hf
          obtain ⟨⟨r_180, c_block_181, c_buffer_182, c_other_183, c_result_184⟩, hc_, hf⟩ := hf
          refine zcn2 (pc := 304) (rv := (some (.int r_180))) (va_runV (As := [.int (1 : Int32), .int p3, .int p4]) (rest := [.ref h0]) ⟨hx, hb, hml, hown, hts⟩ (c_X10_chain l D cy tt H.size h0 hm (1 : Int32) p3 p4 c_rounds_16 c_back c_block c_box c_buffer c_other c_result c_round_15 (0 : Int32) c_state c_test c_words c_ill c_before c_inRow c_first c_inWindow c_same c_made c_requests c_total c_secrets c_high c_low c_keyHigh c_keyLow r_180 c_block_181 c_buffer_182 c_other_183 c_result_184 hc_) (cwV 3 hts gX10_run_X10_chain rfl rfl rfl (by decide +kernel) ⟨Nat.le_of_ble_eq_true rfl, Nat.le_of_ble_eq_true rfl⟩) ⟨zblind, va_recv hK hP (ci := 12) (q0 := 0) rfl rfl, zpre hE hS (hP.sub [0, 3, 4, 6, 7, 18, 19, 20] rfl) (hD.sub [0, 3, 4, 6, 7, 18, 19, 20] (by decide) rfl) (va_free hD hS hA [0, 3, 4, 6, 7, 18, 19, 20] rfl)⟩ rfl rfl hl.1 rfl (lv_room (Nat.le_of_ble_eq_true rfl)) (zdt_at zt_X10_run_2 38 rfl) ⟨Nat.zero_le _, Nat.zero_le _⟩) hS hP hD (va_free hD hS hA [0, 3, 4, 6, 7, 18, 19, 20] rfl) [0, 3, 4, 6, 7, 18, 19, 20] rfl (by decide) rfl ?_
          clear hP hD hS hc_
          intro H locs hP hD hS
          replace hP : va_P D vwCl ([(h0, .inr (12, zmo hm (0 : Int32) c_state c_test c_words c_ill c_before c_inRow c_first c_inWindow c_same c_made c_requests c_total c_secrets c_rounds_16 c_high c_low c_keyHigh c_keyLow)), ((hm 0), .inl (cy 1, 64, .inl c_ROUND)), ((hm 47), .inl (cy 1, 8, .inl c_START)), ((hm 40), .inl (cy 1, 256, .inl c_back)), ((hm 43), .inl (cy 1, 16, .inl c_block_181)), ((hm 46), .inl (cy 1, 512, .inl c_body)), ((hm 39), .inl (cy 1, 256, .inl c_box)), ((hm 6), .inl (cy 1, 512, .inl c_buffer_182)), ((hm 5), .inl (cy 1, 3, .inl c_counters)), ((hm 35), .inl (cy 1, 32, .inl c_digest)), ((hm 30), .inl (cy 1, 8, .inl c_h)), ((hm 12), .inl (cy 1, 16, .inl c_holder)), ((hm 36), .inl (cy 1, 32, .inl c_inner)), ((hm 25), .inl (cy 1, 32, .inl c_k)), ((hm 14), .inl (cy 1, 1024, .inl c_keys)), ((hm 9), .inl (cy 1, 16, .inl c_kind)), ((hm 10), .inl (cy 1, 16, .inl c_length)), ((hm 33), .inl (cy 1, 64, .inl c_message)), ((hm 44), .inl (cy 1, 16, .inl c_other_183)), ((hm 45), .inl (cy 1, 600, .inl c_result_184)), ((hm 41), .inl (cy 1, 240, .inl c_round_15)), ((hm 37), .inl (cy 1, 64, .inl c_secret)), ((hm 11), .inl (cy 1, 16, .inl c_usage)), ((hm 13), .inl (cy 1, 16, .inl c_uses_17)), ((hm 26), .inl (cy 1, 32, .inl c_v)), ((hm 31), .inl (cy 1, 64, .inl c_w)), ((hm 16), .inl (cy 1, 64, .inl c_word)), ((hm 32), .inl (cy 1, 8, .inl c_x))]) H := hP
          replace hD : va_D A ([(h0, .inr (12, zmo hm (0 : Int32) c_state c_test c_words c_ill c_before c_inRow c_first c_inWindow c_same c_made c_requests c_total c_secrets c_rounds_16 c_high c_low c_keyHigh c_keyLow)), ((hm 0), .inl (cy 1, 64, .inl c_ROUND)), ((hm 47), .inl (cy 1, 8, .inl c_START)), ((hm 40), .inl (cy 1, 256, .inl c_back)), ((hm 43), .inl (cy 1, 16, .inl c_block_181)), ((hm 46), .inl (cy 1, 512, .inl c_body)), ((hm 39), .inl (cy 1, 256, .inl c_box)), ((hm 6), .inl (cy 1, 512, .inl c_buffer_182)), ((hm 5), .inl (cy 1, 3, .inl c_counters)), ((hm 35), .inl (cy 1, 32, .inl c_digest)), ((hm 30), .inl (cy 1, 8, .inl c_h)), ((hm 12), .inl (cy 1, 16, .inl c_holder)), ((hm 36), .inl (cy 1, 32, .inl c_inner)), ((hm 25), .inl (cy 1, 32, .inl c_k)), ((hm 14), .inl (cy 1, 1024, .inl c_keys)), ((hm 9), .inl (cy 1, 16, .inl c_kind)), ((hm 10), .inl (cy 1, 16, .inl c_length)), ((hm 33), .inl (cy 1, 64, .inl c_message)), ((hm 44), .inl (cy 1, 16, .inl c_other_183)), ((hm 45), .inl (cy 1, 600, .inl c_result_184)), ((hm 41), .inl (cy 1, 240, .inl c_round_15)), ((hm 37), .inl (cy 1, 64, .inl c_secret)), ((hm 11), .inl (cy 1, 16, .inl c_usage)), ((hm 13), .inl (cy 1, 16, .inl c_uses_17)), ((hm 26), .inl (cy 1, 32, .inl c_v)), ((hm 31), .inl (cy 1, 64, .inl c_w)), ((hm 16), .inl (cy 1, 64, .inl c_word)), ((hm 32), .inl (cy 1, 8, .inl c_x))]) := hD
          refine W.eq (g2 := F0 m 307 ls [.int r_180, .ref h0]) rfl ?_
          replace hf := zb_s hf
          obtain ⟨⟨r_185, c_counters_186⟩, hc_, hf⟩ := hf
          refine zcn2 (pc := 307) (rv := (some (.int r_185))) (va_runV (As := [.int r_180]) (rest := []) ⟨hx, hb, hml, hown, hts⟩ (c_X10_answer l D cy tt H.size h0 hm r_180 c_counters (0 : Int32) c_state c_test c_words c_ill c_before c_inRow c_first c_inWindow c_same c_made c_requests c_total c_secrets c_rounds_16 c_high c_low c_keyHigh c_keyLow r_185 c_counters_186 hc_) (cwV 1 hts gX10_run_X10_answer rfl rfl rfl (by decide +kernel) ⟨Nat.le_of_ble_eq_true rfl, Nat.le_of_ble_eq_true rfl⟩) ⟨zblind, va_recv hK hP (ci := 12) (q0 := 0) rfl rfl, zpre hE hS (hP.sub [0, 8] rfl) (hD.sub [0, 8] (by decide) rfl) (va_free hD hS hA [0, 8] rfl)⟩ rfl rfl hl.1 rfl (lv_room (Nat.le_of_ble_eq_true rfl)) (zdt_at zt_X10_run_2 39 rfl) ⟨Nat.zero_le _, Nat.zero_le _⟩) hS hP hD (va_free hD hS hA [0, 8] rfl) [0, 8] rfl (by decide) rfl ?_
          clear hP hD hS hc_
          intro H locs hP hD hS
          replace hP : va_P D vwCl ([(h0, .inr (12, zmo hm (0 : Int32) c_state c_test c_words c_ill c_before c_inRow c_first c_inWindow c_same c_made c_requests c_total c_secrets c_rounds_16 c_high c_low c_keyHigh c_keyLow)), ((hm 0), .inl (cy 1, 64, .inl c_ROUND)), ((hm 47), .inl (cy 1, 8, .inl c_START)), ((hm 40), .inl (cy 1, 256, .inl c_back)), ((hm 43), .inl (cy 1, 16, .inl c_block_181)), ((hm 46), .inl (cy 1, 512, .inl c_body)), ((hm 39), .inl (cy 1, 256, .inl c_box)), ((hm 6), .inl (cy 1, 512, .inl c_buffer_182)), ((hm 5), .inl (cy 1, 3, .inl c_counters_186)), ((hm 35), .inl (cy 1, 32, .inl c_digest)), ((hm 30), .inl (cy 1, 8, .inl c_h)), ((hm 12), .inl (cy 1, 16, .inl c_holder)), ((hm 36), .inl (cy 1, 32, .inl c_inner)), ((hm 25), .inl (cy 1, 32, .inl c_k)), ((hm 14), .inl (cy 1, 1024, .inl c_keys)), ((hm 9), .inl (cy 1, 16, .inl c_kind)), ((hm 10), .inl (cy 1, 16, .inl c_length)), ((hm 33), .inl (cy 1, 64, .inl c_message)), ((hm 44), .inl (cy 1, 16, .inl c_other_183)), ((hm 45), .inl (cy 1, 600, .inl c_result_184)), ((hm 41), .inl (cy 1, 240, .inl c_round_15)), ((hm 37), .inl (cy 1, 64, .inl c_secret)), ((hm 11), .inl (cy 1, 16, .inl c_usage)), ((hm 13), .inl (cy 1, 16, .inl c_uses_17)), ((hm 26), .inl (cy 1, 32, .inl c_v)), ((hm 31), .inl (cy 1, 64, .inl c_w)), ((hm 16), .inl (cy 1, 64, .inl c_word)), ((hm 32), .inl (cy 1, 8, .inl c_x))]) H := hP
          replace hD : va_D A ([(h0, .inr (12, zmo hm (0 : Int32) c_state c_test c_words c_ill c_before c_inRow c_first c_inWindow c_same c_made c_requests c_total c_secrets c_rounds_16 c_high c_low c_keyHigh c_keyLow)), ((hm 0), .inl (cy 1, 64, .inl c_ROUND)), ((hm 47), .inl (cy 1, 8, .inl c_START)), ((hm 40), .inl (cy 1, 256, .inl c_back)), ((hm 43), .inl (cy 1, 16, .inl c_block_181)), ((hm 46), .inl (cy 1, 512, .inl c_body)), ((hm 39), .inl (cy 1, 256, .inl c_box)), ((hm 6), .inl (cy 1, 512, .inl c_buffer_182)), ((hm 5), .inl (cy 1, 3, .inl c_counters_186)), ((hm 35), .inl (cy 1, 32, .inl c_digest)), ((hm 30), .inl (cy 1, 8, .inl c_h)), ((hm 12), .inl (cy 1, 16, .inl c_holder)), ((hm 36), .inl (cy 1, 32, .inl c_inner)), ((hm 25), .inl (cy 1, 32, .inl c_k)), ((hm 14), .inl (cy 1, 1024, .inl c_keys)), ((hm 9), .inl (cy 1, 16, .inl c_kind)), ((hm 10), .inl (cy 1, 16, .inl c_length)), ((hm 33), .inl (cy 1, 64, .inl c_message)), ((hm 44), .inl (cy 1, 16, .inl c_other_183)), ((hm 45), .inl (cy 1, 600, .inl c_result_184)), ((hm 41), .inl (cy 1, 240, .inl c_round_15)), ((hm 37), .inl (cy 1, 64, .inl c_secret)), ((hm 11), .inl (cy 1, 16, .inl c_usage)), ((hm 13), .inl (cy 1, 16, .inl c_uses_17)), ((hm 26), .inl (cy 1, 32, .inl c_v)), ((hm 31), .inl (cy 1, 64, .inl c_w)), ((hm 16), .inl (cy 1, 64, .inl c_word)), ((hm 32), .inl (cy 1, 8, .inl c_x))]) := hD
          refine W.eq (g2 := F0 m 310 ls [.int r_185]) rfl ?_
          cases hf
          exact W.iret (pc := 310) hx hb hr (fun t ht hW => ⟨rfl, ⟨by rw [ht]; exact hP, hD⟩, hS.F ht⟩) hS.2.2 (zdt_at zt_X10_run_2 40 rfl)
        replace hf := zt_s cn_ hf
        clear cn_
        refine lv_iload_n (pc := 311) hx hb (zdt_at zt_X10_run_2 41 rfl) rfl (lv_at hl 1 rfl) ?_
        refine lv_iconst (pc := 312) (v := (5 : Int32)) hx hb (zdt_at zt_X10_run_2 42 rfl) (by decide) ?_
        refine lv_icmp_ne (pc := 313) (tgt := 328) hx hb (zdt_at zt_X10_run_2 43 rfl) (by decide) (fun cn_ => ?t_23) (fun cn_ => ?f_24)
        case f_24 =>
          replace hf := zt_s cn_ hf
          clear cn_
          refine lv_aload_n (pc := 316) hx hb (zdt_at zt_X10_run_2 44 rfl) rfl (lv_at hl 0 rfl) ?_
          refine lv_aload_n (pc := 317) hx hb (zdt_at zt_X10_run_2 45 rfl) rfl (lv_at hl 0 rfl) ?_
          refine lv_iload_n (pc := 318) hx hb (zdt_at zt_X10_run_2 46 rfl) rfl (lv_at hl 3 rfl) ?_
          refine lv_iload (pc := 319) hx hb (zdt_at zt_X10_run_2 47 rfl) (lv_at hl 4 rfl) ?_
          replace hf := zb_s hf
          obtain ⟨⟨r_165, c_block_166, c_buffer_167, c_other_168⟩, hc_, hf⟩ := hf
          refine zcn2 (pc := 321) (rv := (some (.int r_165))) (va_runV (As := [.int p3, .int p4]) (rest := [.ref h0]) ⟨hx, hb, hml, hown, hts⟩ (c_X10_count l D cy tt H.size h0 hm p3 p4 c_rounds_16 c_block c_box c_buffer c_other c_round_15 (0 : Int32) c_state c_test c_words c_ill c_before c_inRow c_first c_inWindow c_same c_made c_requests c_total c_secrets c_high c_low c_keyHigh c_keyLow r_165 c_block_166 c_buffer_167 c_other_168 hc_) (cwV 2 hts gX10_run_X10_count rfl rfl rfl (by decide +kernel) ⟨Nat.le_of_ble_eq_true rfl, Nat.le_of_ble_eq_true rfl⟩) ⟨zblind, va_recv hK hP (ci := 12) (q0 := 0) rfl rfl, zpre hE hS (hP.sub [0, 4, 6, 7, 18, 20] rfl) (hD.sub [0, 4, 6, 7, 18, 20] (by decide) rfl) (va_free hD hS hA [0, 4, 6, 7, 18, 20] rfl)⟩ rfl rfl hl.1 rfl (lv_room (Nat.le_of_ble_eq_true rfl)) (zdt_at zt_X10_run_2 48 rfl) ⟨Nat.zero_le _, Nat.zero_le _⟩) hS hP hD (va_free hD hS hA [0, 4, 6, 7, 18, 20] rfl) [0, 4, 6, 7, 18, 20] rfl (by decide) rfl ?_
          clear hP hD hS hc_
          intro H locs hP hD hS
          replace hP : va_P D vwCl ([(h0, .inr (12, zmo hm (0 : Int32) c_state c_test c_words c_ill c_before c_inRow c_first c_inWindow c_same c_made c_requests c_total c_secrets c_rounds_16 c_high c_low c_keyHigh c_keyLow)), ((hm 0), .inl (cy 1, 64, .inl c_ROUND)), ((hm 47), .inl (cy 1, 8, .inl c_START)), ((hm 40), .inl (cy 1, 256, .inl c_back)), ((hm 43), .inl (cy 1, 16, .inl c_block_166)), ((hm 46), .inl (cy 1, 512, .inl c_body)), ((hm 39), .inl (cy 1, 256, .inl c_box)), ((hm 6), .inl (cy 1, 512, .inl c_buffer_167)), ((hm 5), .inl (cy 1, 3, .inl c_counters)), ((hm 35), .inl (cy 1, 32, .inl c_digest)), ((hm 30), .inl (cy 1, 8, .inl c_h)), ((hm 12), .inl (cy 1, 16, .inl c_holder)), ((hm 36), .inl (cy 1, 32, .inl c_inner)), ((hm 25), .inl (cy 1, 32, .inl c_k)), ((hm 14), .inl (cy 1, 1024, .inl c_keys)), ((hm 9), .inl (cy 1, 16, .inl c_kind)), ((hm 10), .inl (cy 1, 16, .inl c_length)), ((hm 33), .inl (cy 1, 64, .inl c_message)), ((hm 44), .inl (cy 1, 16, .inl c_other_168)), ((hm 45), .inl (cy 1, 600, .inl c_result)), ((hm 41), .inl (cy 1, 240, .inl c_round_15)), ((hm 37), .inl (cy 1, 64, .inl c_secret)), ((hm 11), .inl (cy 1, 16, .inl c_usage)), ((hm 13), .inl (cy 1, 16, .inl c_uses_17)), ((hm 26), .inl (cy 1, 32, .inl c_v)), ((hm 31), .inl (cy 1, 64, .inl c_w)), ((hm 16), .inl (cy 1, 64, .inl c_word)), ((hm 32), .inl (cy 1, 8, .inl c_x))]) H := hP
          replace hD : va_D A ([(h0, .inr (12, zmo hm (0 : Int32) c_state c_test c_words c_ill c_before c_inRow c_first c_inWindow c_same c_made c_requests c_total c_secrets c_rounds_16 c_high c_low c_keyHigh c_keyLow)), ((hm 0), .inl (cy 1, 64, .inl c_ROUND)), ((hm 47), .inl (cy 1, 8, .inl c_START)), ((hm 40), .inl (cy 1, 256, .inl c_back)), ((hm 43), .inl (cy 1, 16, .inl c_block_166)), ((hm 46), .inl (cy 1, 512, .inl c_body)), ((hm 39), .inl (cy 1, 256, .inl c_box)), ((hm 6), .inl (cy 1, 512, .inl c_buffer_167)), ((hm 5), .inl (cy 1, 3, .inl c_counters)), ((hm 35), .inl (cy 1, 32, .inl c_digest)), ((hm 30), .inl (cy 1, 8, .inl c_h)), ((hm 12), .inl (cy 1, 16, .inl c_holder)), ((hm 36), .inl (cy 1, 32, .inl c_inner)), ((hm 25), .inl (cy 1, 32, .inl c_k)), ((hm 14), .inl (cy 1, 1024, .inl c_keys)), ((hm 9), .inl (cy 1, 16, .inl c_kind)), ((hm 10), .inl (cy 1, 16, .inl c_length)), ((hm 33), .inl (cy 1, 64, .inl c_message)), ((hm 44), .inl (cy 1, 16, .inl c_other_168)), ((hm 45), .inl (cy 1, 600, .inl c_result)), ((hm 41), .inl (cy 1, 240, .inl c_round_15)), ((hm 37), .inl (cy 1, 64, .inl c_secret)), ((hm 11), .inl (cy 1, 16, .inl c_usage)), ((hm 13), .inl (cy 1, 16, .inl c_uses_17)), ((hm 26), .inl (cy 1, 32, .inl c_v)), ((hm 31), .inl (cy 1, 64, .inl c_w)), ((hm 16), .inl (cy 1, 64, .inl c_word)), ((hm 32), .inl (cy 1, 8, .inl c_x))]) := hD
          refine W.eq (g2 := F0 m 324 ls [.int r_165, .ref h0]) rfl ?_
          replace hf := zb_s hf
          obtain ⟨⟨r_169, c_counters_170⟩, hc_, hf⟩ := hf
          refine zcn2 (pc := 324) (rv := (some (.int r_169))) (va_runV (As := [.int r_165]) (rest := []) ⟨hx, hb, hml, hown, hts⟩ (c_X10_answer l D cy tt H.size h0 hm r_165 c_counters (0 : Int32) c_state c_test c_words c_ill c_before c_inRow c_first c_inWindow c_same c_made c_requests c_total c_secrets c_rounds_16 c_high c_low c_keyHigh c_keyLow r_169 c_counters_170 hc_) (cwV 1 hts gX10_run_X10_answer rfl rfl rfl (by decide +kernel) ⟨Nat.le_of_ble_eq_true rfl, Nat.le_of_ble_eq_true rfl⟩) ⟨zblind, va_recv hK hP (ci := 12) (q0 := 0) rfl rfl, zpre hE hS (hP.sub [0, 8] rfl) (hD.sub [0, 8] (by decide) rfl) (va_free hD hS hA [0, 8] rfl)⟩ rfl rfl hl.1 rfl (lv_room (Nat.le_of_ble_eq_true rfl)) (zdt_at zt_X10_run_2 49 rfl) ⟨Nat.zero_le _, Nat.zero_le _⟩) hS hP hD (va_free hD hS hA [0, 8] rfl) [0, 8] rfl (by decide) rfl ?_
          clear hP hD hS hc_
          intro H locs hP hD hS
          replace hP : va_P D vwCl ([(h0, .inr (12, zmo hm (0 : Int32) c_state c_test c_words c_ill c_before c_inRow c_first c_inWindow c_same c_made c_requests c_total c_secrets c_rounds_16 c_high c_low c_keyHigh c_keyLow)), ((hm 0), .inl (cy 1, 64, .inl c_ROUND)), ((hm 47), .inl (cy 1, 8, .inl c_START)), ((hm 40), .inl (cy 1, 256, .inl c_back)), ((hm 43), .inl (cy 1, 16, .inl c_block_166)), ((hm 46), .inl (cy 1, 512, .inl c_body)), ((hm 39), .inl (cy 1, 256, .inl c_box)), ((hm 6), .inl (cy 1, 512, .inl c_buffer_167)), ((hm 5), .inl (cy 1, 3, .inl c_counters_170)), ((hm 35), .inl (cy 1, 32, .inl c_digest)), ((hm 30), .inl (cy 1, 8, .inl c_h)), ((hm 12), .inl (cy 1, 16, .inl c_holder)), ((hm 36), .inl (cy 1, 32, .inl c_inner)), ((hm 25), .inl (cy 1, 32, .inl c_k)), ((hm 14), .inl (cy 1, 1024, .inl c_keys)), ((hm 9), .inl (cy 1, 16, .inl c_kind)), ((hm 10), .inl (cy 1, 16, .inl c_length)), ((hm 33), .inl (cy 1, 64, .inl c_message)), ((hm 44), .inl (cy 1, 16, .inl c_other_168)), ((hm 45), .inl (cy 1, 600, .inl c_result)), ((hm 41), .inl (cy 1, 240, .inl c_round_15)), ((hm 37), .inl (cy 1, 64, .inl c_secret)), ((hm 11), .inl (cy 1, 16, .inl c_usage)), ((hm 13), .inl (cy 1, 16, .inl c_uses_17)), ((hm 26), .inl (cy 1, 32, .inl c_v)), ((hm 31), .inl (cy 1, 64, .inl c_w)), ((hm 16), .inl (cy 1, 64, .inl c_word)), ((hm 32), .inl (cy 1, 8, .inl c_x))]) H := hP
          replace hD : va_D A ([(h0, .inr (12, zmo hm (0 : Int32) c_state c_test c_words c_ill c_before c_inRow c_first c_inWindow c_same c_made c_requests c_total c_secrets c_rounds_16 c_high c_low c_keyHigh c_keyLow)), ((hm 0), .inl (cy 1, 64, .inl c_ROUND)), ((hm 47), .inl (cy 1, 8, .inl c_START)), ((hm 40), .inl (cy 1, 256, .inl c_back)), ((hm 43), .inl (cy 1, 16, .inl c_block_166)), ((hm 46), .inl (cy 1, 512, .inl c_body)), ((hm 39), .inl (cy 1, 256, .inl c_box)), ((hm 6), .inl (cy 1, 512, .inl c_buffer_167)), ((hm 5), .inl (cy 1, 3, .inl c_counters_170)), ((hm 35), .inl (cy 1, 32, .inl c_digest)), ((hm 30), .inl (cy 1, 8, .inl c_h)), ((hm 12), .inl (cy 1, 16, .inl c_holder)), ((hm 36), .inl (cy 1, 32, .inl c_inner)), ((hm 25), .inl (cy 1, 32, .inl c_k)), ((hm 14), .inl (cy 1, 1024, .inl c_keys)), ((hm 9), .inl (cy 1, 16, .inl c_kind)), ((hm 10), .inl (cy 1, 16, .inl c_length)), ((hm 33), .inl (cy 1, 64, .inl c_message)), ((hm 44), .inl (cy 1, 16, .inl c_other_168)), ((hm 45), .inl (cy 1, 600, .inl c_result)), ((hm 41), .inl (cy 1, 240, .inl c_round_15)), ((hm 37), .inl (cy 1, 64, .inl c_secret)), ((hm 11), .inl (cy 1, 16, .inl c_usage)), ((hm 13), .inl (cy 1, 16, .inl c_uses_17)), ((hm 26), .inl (cy 1, 32, .inl c_v)), ((hm 31), .inl (cy 1, 64, .inl c_w)), ((hm 16), .inl (cy 1, 64, .inl c_word)), ((hm 32), .inl (cy 1, 8, .inl c_x))]) := hD
          refine W.eq (g2 := F0 m 327 ls [.int r_169]) rfl ?_
          cases hf
          exact W.iret (pc := 327) hx hb hr (fun t ht hW => ⟨rfl, ⟨by rw [ht]; exact hP, hD⟩, hS.F ht⟩) hS.2.2 (zdt_at zt_X10_run_2 50 rfl)
        replace hf := ze_s cn_ hf
        clear cn_
        refine lv_iload_n (pc := 328) hx hb (zdt_at zt_X10_run_2 51 rfl) rfl (lv_at hl 1 rfl) ?_
        refine lv_bipush (pc := 329) (v := (8 : Int32)) hx hb (zdt_at zt_X10_run_2 52 rfl) (by decide) ?_
        refine lv_icmp_ge (pc := 331) (tgt := 359) hx hb (zdt_at zt_X10_run_2 53 rfl) (by decide) (fun cn_ => ?t_25) (fun cn_ => ?f_26)
        case f_26 =>
          replace hf := ze_s cn_ hf
          clear cn_
          refine lv_aload_n (pc := 334) hx hb (zdt_at zt_X10_run_2 54 rfl) rfl (lv_at hl 0 rfl) ?_
          refine lv_aload_n (pc := 335) hx hb (zdt_at zt_X10_run_2 55 rfl) rfl (lv_at hl 0 rfl) ?_
          refine lv_iload_n (pc := 336) hx hb (zdt_at zt_X10_run_2 56 rfl) rfl (lv_at hl 1 rfl) ?_
          refine lv_bipush (pc := 337) (v := (6 : Int32)) hx hb (zdt_at zt_X10_run_2 57 rfl) (by decide) ?_
          refine lv_icmp_ne (pc := 339) (tgt := 346) hx hb (zdt_at zt_X10_run_2 58 rfl) (by decide) (fun cn_ => ?t_139) (fun cn_ => ?f_140)
          case t_139 =>
            replace hf := ze_s cn_ hf
            clear cn_
            refine lv_iconst (pc := 346) (v := (0 : Int32)) hx hb (zdt_at zt_X10_run_2 61 rfl) (by decide) ?_
            refine lv_iload_n (pc := 347) hx hb (zdt_at zt_X10_run_2 62 rfl) rfl (lv_at hl 3 rfl) ?_
            refine lv_iload (pc := 348) hx hb (zdt_at zt_X10_run_2 63 rfl) (lv_at hl 4 rfl) ?_
            refine lv_iload (pc := 350) hx hb (zdt_at zt_X10_run_3 0 rfl) (lv_at hl 5 rfl) ?_
            replace hf := zb_s hf
            obtain ⟨⟨r_141, c_high_142, c_keyHigh_143, c_keyLow_144, c_low_145, c_block_146, c_body_147, c_buffer_148, c_other_149, c_result_150⟩, hc_, hf⟩ := hf
            refine zcn2 (pc := 352) (rv := (some (.int r_141))) (va_runV (As := [.int (0 : Int32), .int p3, .int p4, .int p5]) (rest := [.ref h0]) ⟨hx, hb, hml, hown, hts⟩ (c_X10_galois l D cy tt H.size h0 hm (0 : Int32) p3 p4 p5 c_high c_keyHigh c_keyLow c_low c_rounds_16 c_block c_body c_box c_buffer c_other c_result c_round_15 (0 : Int32) c_state c_test c_words c_ill c_before c_inRow c_first c_inWindow c_same c_made c_requests c_total c_secrets r_141 c_high_142 c_keyHigh_143 c_keyLow_144 c_low_145 c_block_146 c_body_147 c_buffer_148 c_other_149 c_result_150 hc_) (cwV 4 hts gX10_run_X10_galois rfl rfl rfl (by decide +kernel) ⟨Nat.le_of_ble_eq_true rfl, Nat.le_of_ble_eq_true rfl⟩) ⟨zblind, va_recv hK hP (ci := 12) (q0 := 0) rfl rfl, zpre hE hS (hP.sub [0, 4, 5, 6, 7, 18, 19, 20] rfl) (hD.sub [0, 4, 5, 6, 7, 18, 19, 20] (by decide) rfl) (va_free hD hS hA [0, 4, 5, 6, 7, 18, 19, 20] rfl)⟩ rfl rfl hl.1 rfl (lv_room (Nat.le_of_ble_eq_true rfl)) (zdt_at zt_X10_run_3 1 rfl) ⟨Nat.zero_le _, Nat.zero_le _⟩) hS hP hD (va_free hD hS hA [0, 4, 5, 6, 7, 18, 19, 20] rfl) [0, 4, 5, 6, 7, 18, 19, 20] rfl (by decide) rfl ?_
            clear hP hD hS hc_
            intro H locs hP hD hS
            replace hP : va_P D vwCl ([(h0, .inr (12, zmo hm (0 : Int32) c_state c_test c_words c_ill c_before c_inRow c_first c_inWindow c_same c_made c_requests c_total c_secrets c_rounds_16 c_high_142 c_low_145 c_keyHigh_143 c_keyLow_144)), ((hm 0), .inl (cy 1, 64, .inl c_ROUND)), ((hm 47), .inl (cy 1, 8, .inl c_START)), ((hm 40), .inl (cy 1, 256, .inl c_back)), ((hm 43), .inl (cy 1, 16, .inl c_block_146)), ((hm 46), .inl (cy 1, 512, .inl c_body_147)), ((hm 39), .inl (cy 1, 256, .inl c_box)), ((hm 6), .inl (cy 1, 512, .inl c_buffer_148)), ((hm 5), .inl (cy 1, 3, .inl c_counters)), ((hm 35), .inl (cy 1, 32, .inl c_digest)), ((hm 30), .inl (cy 1, 8, .inl c_h)), ((hm 12), .inl (cy 1, 16, .inl c_holder)), ((hm 36), .inl (cy 1, 32, .inl c_inner)), ((hm 25), .inl (cy 1, 32, .inl c_k)), ((hm 14), .inl (cy 1, 1024, .inl c_keys)), ((hm 9), .inl (cy 1, 16, .inl c_kind)), ((hm 10), .inl (cy 1, 16, .inl c_length)), ((hm 33), .inl (cy 1, 64, .inl c_message)), ((hm 44), .inl (cy 1, 16, .inl c_other_149)), ((hm 45), .inl (cy 1, 600, .inl c_result_150)), ((hm 41), .inl (cy 1, 240, .inl c_round_15)), ((hm 37), .inl (cy 1, 64, .inl c_secret)), ((hm 11), .inl (cy 1, 16, .inl c_usage)), ((hm 13), .inl (cy 1, 16, .inl c_uses_17)), ((hm 26), .inl (cy 1, 32, .inl c_v)), ((hm 31), .inl (cy 1, 64, .inl c_w)), ((hm 16), .inl (cy 1, 64, .inl c_word)), ((hm 32), .inl (cy 1, 8, .inl c_x))]) H := hP
            replace hD : va_D A ([(h0, .inr (12, zmo hm (0 : Int32) c_state c_test c_words c_ill c_before c_inRow c_first c_inWindow c_same c_made c_requests c_total c_secrets c_rounds_16 c_high_142 c_low_145 c_keyHigh_143 c_keyLow_144)), ((hm 0), .inl (cy 1, 64, .inl c_ROUND)), ((hm 47), .inl (cy 1, 8, .inl c_START)), ((hm 40), .inl (cy 1, 256, .inl c_back)), ((hm 43), .inl (cy 1, 16, .inl c_block_146)), ((hm 46), .inl (cy 1, 512, .inl c_body_147)), ((hm 39), .inl (cy 1, 256, .inl c_box)), ((hm 6), .inl (cy 1, 512, .inl c_buffer_148)), ((hm 5), .inl (cy 1, 3, .inl c_counters)), ((hm 35), .inl (cy 1, 32, .inl c_digest)), ((hm 30), .inl (cy 1, 8, .inl c_h)), ((hm 12), .inl (cy 1, 16, .inl c_holder)), ((hm 36), .inl (cy 1, 32, .inl c_inner)), ((hm 25), .inl (cy 1, 32, .inl c_k)), ((hm 14), .inl (cy 1, 1024, .inl c_keys)), ((hm 9), .inl (cy 1, 16, .inl c_kind)), ((hm 10), .inl (cy 1, 16, .inl c_length)), ((hm 33), .inl (cy 1, 64, .inl c_message)), ((hm 44), .inl (cy 1, 16, .inl c_other_149)), ((hm 45), .inl (cy 1, 600, .inl c_result_150)), ((hm 41), .inl (cy 1, 240, .inl c_round_15)), ((hm 37), .inl (cy 1, 64, .inl c_secret)), ((hm 11), .inl (cy 1, 16, .inl c_usage)), ((hm 13), .inl (cy 1, 16, .inl c_uses_17)), ((hm 26), .inl (cy 1, 32, .inl c_v)), ((hm 31), .inl (cy 1, 64, .inl c_w)), ((hm 16), .inl (cy 1, 64, .inl c_word)), ((hm 32), .inl (cy 1, 8, .inl c_x))]) := hD
            refine W.eq (g2 := F0 m 355 ls [.int r_141, .ref h0]) rfl ?_
            replace hf := zb_s hf
            obtain ⟨⟨r_151, c_counters_152⟩, hc_, hf⟩ := hf
            refine zcn2 (pc := 355) (rv := (some (.int r_151))) (va_runV (As := [.int r_141]) (rest := []) ⟨hx, hb, hml, hown, hts⟩ (c_X10_answer l D cy tt H.size h0 hm r_141 c_counters (0 : Int32) c_state c_test c_words c_ill c_before c_inRow c_first c_inWindow c_same c_made c_requests c_total c_secrets c_rounds_16 c_high_142 c_low_145 c_keyHigh_143 c_keyLow_144 r_151 c_counters_152 hc_) (cwV 1 hts gX10_run_X10_answer rfl rfl rfl (by decide +kernel) ⟨Nat.le_of_ble_eq_true rfl, Nat.le_of_ble_eq_true rfl⟩) ⟨zblind, va_recv hK hP (ci := 12) (q0 := 0) rfl rfl, zpre hE hS (hP.sub [0, 8] rfl) (hD.sub [0, 8] (by decide) rfl) (va_free hD hS hA [0, 8] rfl)⟩ rfl rfl hl.1 rfl (lv_room (Nat.le_of_ble_eq_true rfl)) (zdt_at zt_X10_run_3 2 rfl) ⟨Nat.zero_le _, Nat.zero_le _⟩) hS hP hD (va_free hD hS hA [0, 8] rfl) [0, 8] rfl (by decide) rfl ?_
            clear hP hD hS hc_
            intro H locs hP hD hS
            replace hP : va_P D vwCl ([(h0, .inr (12, zmo hm (0 : Int32) c_state c_test c_words c_ill c_before c_inRow c_first c_inWindow c_same c_made c_requests c_total c_secrets c_rounds_16 c_high_142 c_low_145 c_keyHigh_143 c_keyLow_144)), ((hm 0), .inl (cy 1, 64, .inl c_ROUND)), ((hm 47), .inl (cy 1, 8, .inl c_START)), ((hm 40), .inl (cy 1, 256, .inl c_back)), ((hm 43), .inl (cy 1, 16, .inl c_block_146)), ((hm 46), .inl (cy 1, 512, .inl c_body_147)), ((hm 39), .inl (cy 1, 256, .inl c_box)), ((hm 6), .inl (cy 1, 512, .inl c_buffer_148)), ((hm 5), .inl (cy 1, 3, .inl c_counters_152)), ((hm 35), .inl (cy 1, 32, .inl c_digest)), ((hm 30), .inl (cy 1, 8, .inl c_h)), ((hm 12), .inl (cy 1, 16, .inl c_holder)), ((hm 36), .inl (cy 1, 32, .inl c_inner)), ((hm 25), .inl (cy 1, 32, .inl c_k)), ((hm 14), .inl (cy 1, 1024, .inl c_keys)), ((hm 9), .inl (cy 1, 16, .inl c_kind)), ((hm 10), .inl (cy 1, 16, .inl c_length)), ((hm 33), .inl (cy 1, 64, .inl c_message)), ((hm 44), .inl (cy 1, 16, .inl c_other_149)), ((hm 45), .inl (cy 1, 600, .inl c_result_150)), ((hm 41), .inl (cy 1, 240, .inl c_round_15)), ((hm 37), .inl (cy 1, 64, .inl c_secret)), ((hm 11), .inl (cy 1, 16, .inl c_usage)), ((hm 13), .inl (cy 1, 16, .inl c_uses_17)), ((hm 26), .inl (cy 1, 32, .inl c_v)), ((hm 31), .inl (cy 1, 64, .inl c_w)), ((hm 16), .inl (cy 1, 64, .inl c_word)), ((hm 32), .inl (cy 1, 8, .inl c_x))]) H := hP
            replace hD : va_D A ([(h0, .inr (12, zmo hm (0 : Int32) c_state c_test c_words c_ill c_before c_inRow c_first c_inWindow c_same c_made c_requests c_total c_secrets c_rounds_16 c_high_142 c_low_145 c_keyHigh_143 c_keyLow_144)), ((hm 0), .inl (cy 1, 64, .inl c_ROUND)), ((hm 47), .inl (cy 1, 8, .inl c_START)), ((hm 40), .inl (cy 1, 256, .inl c_back)), ((hm 43), .inl (cy 1, 16, .inl c_block_146)), ((hm 46), .inl (cy 1, 512, .inl c_body_147)), ((hm 39), .inl (cy 1, 256, .inl c_box)), ((hm 6), .inl (cy 1, 512, .inl c_buffer_148)), ((hm 5), .inl (cy 1, 3, .inl c_counters_152)), ((hm 35), .inl (cy 1, 32, .inl c_digest)), ((hm 30), .inl (cy 1, 8, .inl c_h)), ((hm 12), .inl (cy 1, 16, .inl c_holder)), ((hm 36), .inl (cy 1, 32, .inl c_inner)), ((hm 25), .inl (cy 1, 32, .inl c_k)), ((hm 14), .inl (cy 1, 1024, .inl c_keys)), ((hm 9), .inl (cy 1, 16, .inl c_kind)), ((hm 10), .inl (cy 1, 16, .inl c_length)), ((hm 33), .inl (cy 1, 64, .inl c_message)), ((hm 44), .inl (cy 1, 16, .inl c_other_149)), ((hm 45), .inl (cy 1, 600, .inl c_result_150)), ((hm 41), .inl (cy 1, 240, .inl c_round_15)), ((hm 37), .inl (cy 1, 64, .inl c_secret)), ((hm 11), .inl (cy 1, 16, .inl c_usage)), ((hm 13), .inl (cy 1, 16, .inl c_uses_17)), ((hm 26), .inl (cy 1, 32, .inl c_v)), ((hm 31), .inl (cy 1, 64, .inl c_w)), ((hm 16), .inl (cy 1, 64, .inl c_word)), ((hm 32), .inl (cy 1, 8, .inl c_x))]) := hD
            refine W.eq (g2 := F0 m 358 ls [.int r_151]) rfl ?_
            cases hf
            exact W.iret (pc := 358) hx hb hr (fun t ht hW => ⟨rfl, ⟨by rw [ht]; exact hP, hD⟩, hS.F ht⟩) hS.2.2 (zdt_at zt_X10_run_3 3 rfl)
          replace hf := zt_s cn_ hf
          clear cn_
          refine lv_iconst (pc := 342) (v := (1 : Int32)) hx hb (zdt_at zt_X10_run_2 59 rfl) (by decide) ?_
          refine lv_goto (pc := 343) (tgt := 347) hx hb (zdt_at zt_X10_run_2 60 rfl) (by decide) ?_
          refine lv_iload_n (pc := 347) hx hb (zdt_at zt_X10_run_2 62 rfl) rfl (lv_at hl 3 rfl) ?_
          refine lv_iload (pc := 348) hx hb (zdt_at zt_X10_run_2 63 rfl) (lv_at hl 4 rfl) ?_
          refine lv_iload (pc := 350) hx hb (zdt_at zt_X10_run_3 0 rfl) (lv_at hl 5 rfl) ?_
          replace hf := zb_s hf
          obtain ⟨⟨r_153, c_high_154, c_keyHigh_155, c_keyLow_156, c_low_157, c_block_158, c_body_159, c_buffer_160, c_other_161, c_result_162⟩, hc_, hf⟩ := hf
          refine zcn2 (pc := 352) (rv := (some (.int r_153))) (va_runV (As := [.int (1 : Int32), .int p3, .int p4, .int p5]) (rest := [.ref h0]) ⟨hx, hb, hml, hown, hts⟩ (c_X10_galois l D cy tt H.size h0 hm (1 : Int32) p3 p4 p5 c_high c_keyHigh c_keyLow c_low c_rounds_16 c_block c_body c_box c_buffer c_other c_result c_round_15 (0 : Int32) c_state c_test c_words c_ill c_before c_inRow c_first c_inWindow c_same c_made c_requests c_total c_secrets r_153 c_high_154 c_keyHigh_155 c_keyLow_156 c_low_157 c_block_158 c_body_159 c_buffer_160 c_other_161 c_result_162 hc_) (cwV 4 hts gX10_run_X10_galois rfl rfl rfl (by decide +kernel) ⟨Nat.le_of_ble_eq_true rfl, Nat.le_of_ble_eq_true rfl⟩) ⟨zblind, va_recv hK hP (ci := 12) (q0 := 0) rfl rfl, zpre hE hS (hP.sub [0, 4, 5, 6, 7, 18, 19, 20] rfl) (hD.sub [0, 4, 5, 6, 7, 18, 19, 20] (by decide) rfl) (va_free hD hS hA [0, 4, 5, 6, 7, 18, 19, 20] rfl)⟩ rfl rfl hl.1 rfl (lv_room (Nat.le_of_ble_eq_true rfl)) (zdt_at zt_X10_run_3 1 rfl) ⟨Nat.zero_le _, Nat.zero_le _⟩) hS hP hD (va_free hD hS hA [0, 4, 5, 6, 7, 18, 19, 20] rfl) [0, 4, 5, 6, 7, 18, 19, 20] rfl (by decide) rfl ?_
          clear hP hD hS hc_
          intro H locs hP hD hS
          replace hP : va_P D vwCl ([(h0, .inr (12, zmo hm (0 : Int32) c_state c_test c_words c_ill c_before c_inRow c_first c_inWindow c_same c_made c_requests c_total c_secrets c_rounds_16 c_high_154 c_low_157 c_keyHigh_155 c_keyLow_156)), ((hm 0), .inl (cy 1, 64, .inl c_ROUND)), ((hm 47), .inl (cy 1, 8, .inl c_START)), ((hm 40), .inl (cy 1, 256, .inl c_back)), ((hm 43), .inl (cy 1, 16, .inl c_block_158)), ((hm 46), .inl (cy 1, 512, .inl c_body_159)), ((hm 39), .inl (cy 1, 256, .inl c_box)), ((hm 6), .inl (cy 1, 512, .inl c_buffer_160)), ((hm 5), .inl (cy 1, 3, .inl c_counters)), ((hm 35), .inl (cy 1, 32, .inl c_digest)), ((hm 30), .inl (cy 1, 8, .inl c_h)), ((hm 12), .inl (cy 1, 16, .inl c_holder)), ((hm 36), .inl (cy 1, 32, .inl c_inner)), ((hm 25), .inl (cy 1, 32, .inl c_k)), ((hm 14), .inl (cy 1, 1024, .inl c_keys)), ((hm 9), .inl (cy 1, 16, .inl c_kind)), ((hm 10), .inl (cy 1, 16, .inl c_length)), ((hm 33), .inl (cy 1, 64, .inl c_message)), ((hm 44), .inl (cy 1, 16, .inl c_other_161)), ((hm 45), .inl (cy 1, 600, .inl c_result_162)), ((hm 41), .inl (cy 1, 240, .inl c_round_15)), ((hm 37), .inl (cy 1, 64, .inl c_secret)), ((hm 11), .inl (cy 1, 16, .inl c_usage)), ((hm 13), .inl (cy 1, 16, .inl c_uses_17)), ((hm 26), .inl (cy 1, 32, .inl c_v)), ((hm 31), .inl (cy 1, 64, .inl c_w)), ((hm 16), .inl (cy 1, 64, .inl c_word)), ((hm 32), .inl (cy 1, 8, .inl c_x))]) H := hP
          replace hD : va_D A ([(h0, .inr (12, zmo hm (0 : Int32) c_state c_test c_words c_ill c_before c_inRow c_first c_inWindow c_same c_made c_requests c_total c_secrets c_rounds_16 c_high_154 c_low_157 c_keyHigh_155 c_keyLow_156)), ((hm 0), .inl (cy 1, 64, .inl c_ROUND)), ((hm 47), .inl (cy 1, 8, .inl c_START)), ((hm 40), .inl (cy 1, 256, .inl c_back)), ((hm 43), .inl (cy 1, 16, .inl c_block_158)), ((hm 46), .inl (cy 1, 512, .inl c_body_159)), ((hm 39), .inl (cy 1, 256, .inl c_box)), ((hm 6), .inl (cy 1, 512, .inl c_buffer_160)), ((hm 5), .inl (cy 1, 3, .inl c_counters)), ((hm 35), .inl (cy 1, 32, .inl c_digest)), ((hm 30), .inl (cy 1, 8, .inl c_h)), ((hm 12), .inl (cy 1, 16, .inl c_holder)), ((hm 36), .inl (cy 1, 32, .inl c_inner)), ((hm 25), .inl (cy 1, 32, .inl c_k)), ((hm 14), .inl (cy 1, 1024, .inl c_keys)), ((hm 9), .inl (cy 1, 16, .inl c_kind)), ((hm 10), .inl (cy 1, 16, .inl c_length)), ((hm 33), .inl (cy 1, 64, .inl c_message)), ((hm 44), .inl (cy 1, 16, .inl c_other_161)), ((hm 45), .inl (cy 1, 600, .inl c_result_162)), ((hm 41), .inl (cy 1, 240, .inl c_round_15)), ((hm 37), .inl (cy 1, 64, .inl c_secret)), ((hm 11), .inl (cy 1, 16, .inl c_usage)), ((hm 13), .inl (cy 1, 16, .inl c_uses_17)), ((hm 26), .inl (cy 1, 32, .inl c_v)), ((hm 31), .inl (cy 1, 64, .inl c_w)), ((hm 16), .inl (cy 1, 64, .inl c_word)), ((hm 32), .inl (cy 1, 8, .inl c_x))]) := hD
          refine W.eq (g2 := F0 m 355 ls [.int r_153, .ref h0]) rfl ?_
          replace hf := zb_s hf
          obtain ⟨⟨r_163, c_counters_164⟩, hc_, hf⟩ := hf
          refine zcn2 (pc := 355) (rv := (some (.int r_163))) (va_runV (As := [.int r_153]) (rest := []) ⟨hx, hb, hml, hown, hts⟩ (c_X10_answer l D cy tt H.size h0 hm r_153 c_counters (0 : Int32) c_state c_test c_words c_ill c_before c_inRow c_first c_inWindow c_same c_made c_requests c_total c_secrets c_rounds_16 c_high_154 c_low_157 c_keyHigh_155 c_keyLow_156 r_163 c_counters_164 hc_) (cwV 1 hts gX10_run_X10_answer rfl rfl rfl (by decide +kernel) ⟨Nat.le_of_ble_eq_true rfl, Nat.le_of_ble_eq_true rfl⟩) ⟨zblind, va_recv hK hP (ci := 12) (q0 := 0) rfl rfl, zpre hE hS (hP.sub [0, 8] rfl) (hD.sub [0, 8] (by decide) rfl) (va_free hD hS hA [0, 8] rfl)⟩ rfl rfl hl.1 rfl (lv_room (Nat.le_of_ble_eq_true rfl)) (zdt_at zt_X10_run_3 2 rfl) ⟨Nat.zero_le _, Nat.zero_le _⟩) hS hP hD (va_free hD hS hA [0, 8] rfl) [0, 8] rfl (by decide) rfl ?_
          clear hP hD hS hc_
          intro H locs hP hD hS
          replace hP : va_P D vwCl ([(h0, .inr (12, zmo hm (0 : Int32) c_state c_test c_words c_ill c_before c_inRow c_first c_inWindow c_same c_made c_requests c_total c_secrets c_rounds_16 c_high_154 c_low_157 c_keyHigh_155 c_keyLow_156)), ((hm 0), .inl (cy 1, 64, .inl c_ROUND)), ((hm 47), .inl (cy 1, 8, .inl c_START)), ((hm 40), .inl (cy 1, 256, .inl c_back)), ((hm 43), .inl (cy 1, 16, .inl c_block_158)), ((hm 46), .inl (cy 1, 512, .inl c_body_159)), ((hm 39), .inl (cy 1, 256, .inl c_box)), ((hm 6), .inl (cy 1, 512, .inl c_buffer_160)), ((hm 5), .inl (cy 1, 3, .inl c_counters_164)), ((hm 35), .inl (cy 1, 32, .inl c_digest)), ((hm 30), .inl (cy 1, 8, .inl c_h)), ((hm 12), .inl (cy 1, 16, .inl c_holder)), ((hm 36), .inl (cy 1, 32, .inl c_inner)), ((hm 25), .inl (cy 1, 32, .inl c_k)), ((hm 14), .inl (cy 1, 1024, .inl c_keys)), ((hm 9), .inl (cy 1, 16, .inl c_kind)), ((hm 10), .inl (cy 1, 16, .inl c_length)), ((hm 33), .inl (cy 1, 64, .inl c_message)), ((hm 44), .inl (cy 1, 16, .inl c_other_161)), ((hm 45), .inl (cy 1, 600, .inl c_result_162)), ((hm 41), .inl (cy 1, 240, .inl c_round_15)), ((hm 37), .inl (cy 1, 64, .inl c_secret)), ((hm 11), .inl (cy 1, 16, .inl c_usage)), ((hm 13), .inl (cy 1, 16, .inl c_uses_17)), ((hm 26), .inl (cy 1, 32, .inl c_v)), ((hm 31), .inl (cy 1, 64, .inl c_w)), ((hm 16), .inl (cy 1, 64, .inl c_word)), ((hm 32), .inl (cy 1, 8, .inl c_x))]) H := hP
          replace hD : va_D A ([(h0, .inr (12, zmo hm (0 : Int32) c_state c_test c_words c_ill c_before c_inRow c_first c_inWindow c_same c_made c_requests c_total c_secrets c_rounds_16 c_high_154 c_low_157 c_keyHigh_155 c_keyLow_156)), ((hm 0), .inl (cy 1, 64, .inl c_ROUND)), ((hm 47), .inl (cy 1, 8, .inl c_START)), ((hm 40), .inl (cy 1, 256, .inl c_back)), ((hm 43), .inl (cy 1, 16, .inl c_block_158)), ((hm 46), .inl (cy 1, 512, .inl c_body_159)), ((hm 39), .inl (cy 1, 256, .inl c_box)), ((hm 6), .inl (cy 1, 512, .inl c_buffer_160)), ((hm 5), .inl (cy 1, 3, .inl c_counters_164)), ((hm 35), .inl (cy 1, 32, .inl c_digest)), ((hm 30), .inl (cy 1, 8, .inl c_h)), ((hm 12), .inl (cy 1, 16, .inl c_holder)), ((hm 36), .inl (cy 1, 32, .inl c_inner)), ((hm 25), .inl (cy 1, 32, .inl c_k)), ((hm 14), .inl (cy 1, 1024, .inl c_keys)), ((hm 9), .inl (cy 1, 16, .inl c_kind)), ((hm 10), .inl (cy 1, 16, .inl c_length)), ((hm 33), .inl (cy 1, 64, .inl c_message)), ((hm 44), .inl (cy 1, 16, .inl c_other_161)), ((hm 45), .inl (cy 1, 600, .inl c_result_162)), ((hm 41), .inl (cy 1, 240, .inl c_round_15)), ((hm 37), .inl (cy 1, 64, .inl c_secret)), ((hm 11), .inl (cy 1, 16, .inl c_usage)), ((hm 13), .inl (cy 1, 16, .inl c_uses_17)), ((hm 26), .inl (cy 1, 32, .inl c_v)), ((hm 31), .inl (cy 1, 64, .inl c_w)), ((hm 16), .inl (cy 1, 64, .inl c_word)), ((hm 32), .inl (cy 1, 8, .inl c_x))]) := hD
          refine W.eq (g2 := F0 m 358 ls [.int r_163]) rfl ?_
          cases hf
          exact W.iret (pc := 358) hx hb hr (fun t ht hW => ⟨rfl, ⟨by rw [ht]; exact hP, hD⟩, hS.F ht⟩) hS.2.2 (zdt_at zt_X10_run_3 3 rfl)
        replace hf := zt_s cn_ hf
        clear cn_
        refine lv_iload_n (pc := 359) hx hb (zdt_at zt_X10_run_3 4 rfl) rfl (lv_at hl 1 rfl) ?_
        refine lv_bipush (pc := 360) (v := (8 : Int32)) hx hb (zdt_at zt_X10_run_3 5 rfl) (by decide) ?_
        refine lv_icmp_ne (pc := 362) (tgt := 377) hx hb (zdt_at zt_X10_run_3 6 rfl) (by decide) (fun cn_ => ?t_27) (fun cn_ => ?f_28)
        case f_28 =>
          replace hf := zt_s cn_ hf
          clear cn_
          refine lv_aload_n (pc := 365) hx hb (zdt_at zt_X10_run_3 7 rfl) rfl (lv_at hl 0 rfl) ?_
          refine lv_aload_n (pc := 366) hx hb (zdt_at zt_X10_run_3 8 rfl) rfl (lv_at hl 0 rfl) ?_
          refine lv_iload_n (pc := 367) hx hb (zdt_at zt_X10_run_3 9 rfl) rfl (lv_at hl 3 rfl) ?_
          refine lv_iload (pc := 368) hx hb (zdt_at zt_X10_run_3 10 rfl) (lv_at hl 4 rfl) ?_
          replace hf := zb_s hf
          obtain ⟨⟨r_132, c_block_133, c_buffer_134, c_other_135, c_result_136⟩, hc_, hf⟩ := hf
          refine zcn2 (pc := 370) (rv := (some (.int r_132))) (va_runV (As := [.int p3, .int p4]) (rest := [.ref h0]) ⟨hx, hb, hml, hown, hts⟩ (c_X10_mac l D cy tt H.size h0 hm p3 p4 c_rounds_16 c_block c_box c_buffer c_other c_result c_round_15 (0 : Int32) c_state c_test c_words c_ill c_before c_inRow c_first c_inWindow c_same c_made c_requests c_total c_secrets c_high c_low c_keyHigh c_keyLow r_132 c_block_133 c_buffer_134 c_other_135 c_result_136 hc_) (cwV 2 hts gX10_run_X10_mac rfl rfl rfl (by decide +kernel) ⟨Nat.le_of_ble_eq_true rfl, Nat.le_of_ble_eq_true rfl⟩) ⟨zblind, va_recv hK hP (ci := 12) (q0 := 0) rfl rfl, zpre hE hS (hP.sub [0, 4, 6, 7, 18, 19, 20] rfl) (hD.sub [0, 4, 6, 7, 18, 19, 20] (by decide) rfl) (va_free hD hS hA [0, 4, 6, 7, 18, 19, 20] rfl)⟩ rfl rfl hl.1 rfl (lv_room (Nat.le_of_ble_eq_true rfl)) (zdt_at zt_X10_run_3 11 rfl) ⟨Nat.zero_le _, Nat.zero_le _⟩) hS hP hD (va_free hD hS hA [0, 4, 6, 7, 18, 19, 20] rfl) [0, 4, 6, 7, 18, 19, 20] rfl (by decide) rfl ?_
          clear hP hD hS hc_
          intro H locs hP hD hS
          replace hP : va_P D vwCl ([(h0, .inr (12, zmo hm (0 : Int32) c_state c_test c_words c_ill c_before c_inRow c_first c_inWindow c_same c_made c_requests c_total c_secrets c_rounds_16 c_high c_low c_keyHigh c_keyLow)), ((hm 0), .inl (cy 1, 64, .inl c_ROUND)), ((hm 47), .inl (cy 1, 8, .inl c_START)), ((hm 40), .inl (cy 1, 256, .inl c_back)), ((hm 43), .inl (cy 1, 16, .inl c_block_133)), ((hm 46), .inl (cy 1, 512, .inl c_body)), ((hm 39), .inl (cy 1, 256, .inl c_box)), ((hm 6), .inl (cy 1, 512, .inl c_buffer_134)), ((hm 5), .inl (cy 1, 3, .inl c_counters)), ((hm 35), .inl (cy 1, 32, .inl c_digest)), ((hm 30), .inl (cy 1, 8, .inl c_h)), ((hm 12), .inl (cy 1, 16, .inl c_holder)), ((hm 36), .inl (cy 1, 32, .inl c_inner)), ((hm 25), .inl (cy 1, 32, .inl c_k)), ((hm 14), .inl (cy 1, 1024, .inl c_keys)), ((hm 9), .inl (cy 1, 16, .inl c_kind)), ((hm 10), .inl (cy 1, 16, .inl c_length)), ((hm 33), .inl (cy 1, 64, .inl c_message)), ((hm 44), .inl (cy 1, 16, .inl c_other_135)), ((hm 45), .inl (cy 1, 600, .inl c_result_136)), ((hm 41), .inl (cy 1, 240, .inl c_round_15)), ((hm 37), .inl (cy 1, 64, .inl c_secret)), ((hm 11), .inl (cy 1, 16, .inl c_usage)), ((hm 13), .inl (cy 1, 16, .inl c_uses_17)), ((hm 26), .inl (cy 1, 32, .inl c_v)), ((hm 31), .inl (cy 1, 64, .inl c_w)), ((hm 16), .inl (cy 1, 64, .inl c_word)), ((hm 32), .inl (cy 1, 8, .inl c_x))]) H := hP
          replace hD : va_D A ([(h0, .inr (12, zmo hm (0 : Int32) c_state c_test c_words c_ill c_before c_inRow c_first c_inWindow c_same c_made c_requests c_total c_secrets c_rounds_16 c_high c_low c_keyHigh c_keyLow)), ((hm 0), .inl (cy 1, 64, .inl c_ROUND)), ((hm 47), .inl (cy 1, 8, .inl c_START)), ((hm 40), .inl (cy 1, 256, .inl c_back)), ((hm 43), .inl (cy 1, 16, .inl c_block_133)), ((hm 46), .inl (cy 1, 512, .inl c_body)), ((hm 39), .inl (cy 1, 256, .inl c_box)), ((hm 6), .inl (cy 1, 512, .inl c_buffer_134)), ((hm 5), .inl (cy 1, 3, .inl c_counters)), ((hm 35), .inl (cy 1, 32, .inl c_digest)), ((hm 30), .inl (cy 1, 8, .inl c_h)), ((hm 12), .inl (cy 1, 16, .inl c_holder)), ((hm 36), .inl (cy 1, 32, .inl c_inner)), ((hm 25), .inl (cy 1, 32, .inl c_k)), ((hm 14), .inl (cy 1, 1024, .inl c_keys)), ((hm 9), .inl (cy 1, 16, .inl c_kind)), ((hm 10), .inl (cy 1, 16, .inl c_length)), ((hm 33), .inl (cy 1, 64, .inl c_message)), ((hm 44), .inl (cy 1, 16, .inl c_other_135)), ((hm 45), .inl (cy 1, 600, .inl c_result_136)), ((hm 41), .inl (cy 1, 240, .inl c_round_15)), ((hm 37), .inl (cy 1, 64, .inl c_secret)), ((hm 11), .inl (cy 1, 16, .inl c_usage)), ((hm 13), .inl (cy 1, 16, .inl c_uses_17)), ((hm 26), .inl (cy 1, 32, .inl c_v)), ((hm 31), .inl (cy 1, 64, .inl c_w)), ((hm 16), .inl (cy 1, 64, .inl c_word)), ((hm 32), .inl (cy 1, 8, .inl c_x))]) := hD
          refine W.eq (g2 := F0 m 373 ls [.int r_132, .ref h0]) rfl ?_
          replace hf := zb_s hf
          obtain ⟨⟨r_137, c_counters_138⟩, hc_, hf⟩ := hf
          refine zcn2 (pc := 373) (rv := (some (.int r_137))) (va_runV (As := [.int r_132]) (rest := []) ⟨hx, hb, hml, hown, hts⟩ (c_X10_answer l D cy tt H.size h0 hm r_132 c_counters (0 : Int32) c_state c_test c_words c_ill c_before c_inRow c_first c_inWindow c_same c_made c_requests c_total c_secrets c_rounds_16 c_high c_low c_keyHigh c_keyLow r_137 c_counters_138 hc_) (cwV 1 hts gX10_run_X10_answer rfl rfl rfl (by decide +kernel) ⟨Nat.le_of_ble_eq_true rfl, Nat.le_of_ble_eq_true rfl⟩) ⟨zblind, va_recv hK hP (ci := 12) (q0 := 0) rfl rfl, zpre hE hS (hP.sub [0, 8] rfl) (hD.sub [0, 8] (by decide) rfl) (va_free hD hS hA [0, 8] rfl)⟩ rfl rfl hl.1 rfl (lv_room (Nat.le_of_ble_eq_true rfl)) (zdt_at zt_X10_run_3 12 rfl) ⟨Nat.zero_le _, Nat.zero_le _⟩) hS hP hD (va_free hD hS hA [0, 8] rfl) [0, 8] rfl (by decide) rfl ?_
          clear hP hD hS hc_
          intro H locs hP hD hS
          replace hP : va_P D vwCl ([(h0, .inr (12, zmo hm (0 : Int32) c_state c_test c_words c_ill c_before c_inRow c_first c_inWindow c_same c_made c_requests c_total c_secrets c_rounds_16 c_high c_low c_keyHigh c_keyLow)), ((hm 0), .inl (cy 1, 64, .inl c_ROUND)), ((hm 47), .inl (cy 1, 8, .inl c_START)), ((hm 40), .inl (cy 1, 256, .inl c_back)), ((hm 43), .inl (cy 1, 16, .inl c_block_133)), ((hm 46), .inl (cy 1, 512, .inl c_body)), ((hm 39), .inl (cy 1, 256, .inl c_box)), ((hm 6), .inl (cy 1, 512, .inl c_buffer_134)), ((hm 5), .inl (cy 1, 3, .inl c_counters_138)), ((hm 35), .inl (cy 1, 32, .inl c_digest)), ((hm 30), .inl (cy 1, 8, .inl c_h)), ((hm 12), .inl (cy 1, 16, .inl c_holder)), ((hm 36), .inl (cy 1, 32, .inl c_inner)), ((hm 25), .inl (cy 1, 32, .inl c_k)), ((hm 14), .inl (cy 1, 1024, .inl c_keys)), ((hm 9), .inl (cy 1, 16, .inl c_kind)), ((hm 10), .inl (cy 1, 16, .inl c_length)), ((hm 33), .inl (cy 1, 64, .inl c_message)), ((hm 44), .inl (cy 1, 16, .inl c_other_135)), ((hm 45), .inl (cy 1, 600, .inl c_result_136)), ((hm 41), .inl (cy 1, 240, .inl c_round_15)), ((hm 37), .inl (cy 1, 64, .inl c_secret)), ((hm 11), .inl (cy 1, 16, .inl c_usage)), ((hm 13), .inl (cy 1, 16, .inl c_uses_17)), ((hm 26), .inl (cy 1, 32, .inl c_v)), ((hm 31), .inl (cy 1, 64, .inl c_w)), ((hm 16), .inl (cy 1, 64, .inl c_word)), ((hm 32), .inl (cy 1, 8, .inl c_x))]) H := hP
          replace hD : va_D A ([(h0, .inr (12, zmo hm (0 : Int32) c_state c_test c_words c_ill c_before c_inRow c_first c_inWindow c_same c_made c_requests c_total c_secrets c_rounds_16 c_high c_low c_keyHigh c_keyLow)), ((hm 0), .inl (cy 1, 64, .inl c_ROUND)), ((hm 47), .inl (cy 1, 8, .inl c_START)), ((hm 40), .inl (cy 1, 256, .inl c_back)), ((hm 43), .inl (cy 1, 16, .inl c_block_133)), ((hm 46), .inl (cy 1, 512, .inl c_body)), ((hm 39), .inl (cy 1, 256, .inl c_box)), ((hm 6), .inl (cy 1, 512, .inl c_buffer_134)), ((hm 5), .inl (cy 1, 3, .inl c_counters_138)), ((hm 35), .inl (cy 1, 32, .inl c_digest)), ((hm 30), .inl (cy 1, 8, .inl c_h)), ((hm 12), .inl (cy 1, 16, .inl c_holder)), ((hm 36), .inl (cy 1, 32, .inl c_inner)), ((hm 25), .inl (cy 1, 32, .inl c_k)), ((hm 14), .inl (cy 1, 1024, .inl c_keys)), ((hm 9), .inl (cy 1, 16, .inl c_kind)), ((hm 10), .inl (cy 1, 16, .inl c_length)), ((hm 33), .inl (cy 1, 64, .inl c_message)), ((hm 44), .inl (cy 1, 16, .inl c_other_135)), ((hm 45), .inl (cy 1, 600, .inl c_result_136)), ((hm 41), .inl (cy 1, 240, .inl c_round_15)), ((hm 37), .inl (cy 1, 64, .inl c_secret)), ((hm 11), .inl (cy 1, 16, .inl c_usage)), ((hm 13), .inl (cy 1, 16, .inl c_uses_17)), ((hm 26), .inl (cy 1, 32, .inl c_v)), ((hm 31), .inl (cy 1, 64, .inl c_w)), ((hm 16), .inl (cy 1, 64, .inl c_word)), ((hm 32), .inl (cy 1, 8, .inl c_x))]) := hD
          refine W.eq (g2 := F0 m 376 ls [.int r_137]) rfl ?_
          cases hf
          exact W.iret (pc := 376) hx hb hr (fun t ht hW => ⟨rfl, ⟨by rw [ht]; exact hP, hD⟩, hS.F ht⟩) hS.2.2 (zdt_at zt_X10_run_3 13 rfl)
        replace hf := ze_s cn_ hf
        clear cn_
        refine lv_iload_n (pc := 377) hx hb (zdt_at zt_X10_run_3 14 rfl) rfl (lv_at hl 1 rfl) ?_
        refine lv_bipush (pc := 378) (v := (11 : Int32)) hx hb (zdt_at zt_X10_run_3 15 rfl) (by decide) ?_
        refine lv_icmp_ne (pc := 380) (tgt := 433) hx hb (zdt_at zt_X10_run_3 16 rfl) (by decide) (fun cn_ => ?t_29) (fun cn_ => ?f_30)
        case f_30 =>
          replace hf := zt_s cn_ hf
          clear cn_
          refine lv_aload_n (pc := 383) hx hb (zdt_at zt_X10_run_3 17 rfl) rfl (lv_at hl 0 rfl) ?_
          refine lv_iload (pc := 384) hx hb (zdt_at zt_X10_run_3 18 rfl) (lv_at hl 4 rfl) ?_
          refine lv_iload (pc := 386) hx hb (zdt_at zt_X10_run_3 19 rfl) (lv_at hl 5 rfl) ?_
          replace hf := zb_s hf
          obtain ⟨⟨c_made_106, c_requests_107, c_secrets_108, c_total_109, c_words_110, c_digest_111, c_h_112, c_inner_113, c_k_114, c_message_115, c_result_116, c_secret_117, c_v_118, c_w_119, c_word_120, c_x_121⟩, hc_, hf⟩ := hf
          refine zcn2 (pc := 388) (rv := none) (va_runV (As := [.int p4, .int p5]) (rest := []) ⟨hx, hb, hml, hown, hts⟩ (c_X10_generate l D cy tt H.size h0 hm p4 p5 c_made c_requests c_secrets c_total c_words c_ROUND c_START c_buffer c_digest c_h c_inner c_k c_message c_result c_secret c_v c_w c_word c_x (0 : Int32) c_state c_test c_ill c_before c_inRow c_first c_inWindow c_same c_rounds_16 c_high c_low c_keyHigh c_keyLow c_made_106 c_requests_107 c_secrets_108 c_total_109 c_words_110 c_digest_111 c_h_112 c_inner_113 c_k_114 c_message_115 c_result_116 c_secret_117 c_v_118 c_w_119 c_word_120 c_x_121 hc_) (cwV 2 hts gX10_run_X10_generate rfl rfl rfl (by decide +kernel) ⟨Nat.le_of_ble_eq_true rfl, Nat.le_of_ble_eq_true rfl⟩) ⟨zblind, va_recv hK hP (ci := 12) (q0 := 0) rfl rfl, zpre hE hS (hP.sub [0, 1, 2, 7, 9, 10, 12, 13, 17, 19, 21, 24, 25, 26, 27] rfl) (hD.sub [0, 1, 2, 7, 9, 10, 12, 13, 17, 19, 21, 24, 25, 26, 27] (by decide) rfl) (va_free hD hS hA [0, 1, 2, 7, 9, 10, 12, 13, 17, 19, 21, 24, 25, 26, 27] rfl)⟩ rfl rfl hl.1 rfl (lv_room (Nat.le_of_ble_eq_true rfl)) (zdt_at zt_X10_run_3 20 rfl) ⟨Nat.zero_le _, Nat.zero_le _⟩) hS hP hD (va_free hD hS hA [0, 1, 2, 7, 9, 10, 12, 13, 17, 19, 21, 24, 25, 26, 27] rfl) [0, 1, 2, 7, 9, 10, 12, 13, 17, 19, 21, 24, 25, 26, 27] rfl (by decide) rfl ?_
          clear hP hD hS hc_
          intro H locs hP hD hS
          replace hP : va_P D vwCl ([(h0, .inr (12, zmo hm (0 : Int32) c_state c_test c_words_110 c_ill c_before c_inRow c_first c_inWindow c_same c_made_106 c_requests_107 c_total_109 c_secrets_108 c_rounds_16 c_high c_low c_keyHigh c_keyLow)), ((hm 0), .inl (cy 1, 64, .inl c_ROUND)), ((hm 47), .inl (cy 1, 8, .inl c_START)), ((hm 40), .inl (cy 1, 256, .inl c_back)), ((hm 43), .inl (cy 1, 16, .inl c_block)), ((hm 46), .inl (cy 1, 512, .inl c_body)), ((hm 39), .inl (cy 1, 256, .inl c_box)), ((hm 6), .inl (cy 1, 512, .inl c_buffer)), ((hm 5), .inl (cy 1, 3, .inl c_counters)), ((hm 35), .inl (cy 1, 32, .inl c_digest_111)), ((hm 30), .inl (cy 1, 8, .inl c_h_112)), ((hm 12), .inl (cy 1, 16, .inl c_holder)), ((hm 36), .inl (cy 1, 32, .inl c_inner_113)), ((hm 25), .inl (cy 1, 32, .inl c_k_114)), ((hm 14), .inl (cy 1, 1024, .inl c_keys)), ((hm 9), .inl (cy 1, 16, .inl c_kind)), ((hm 10), .inl (cy 1, 16, .inl c_length)), ((hm 33), .inl (cy 1, 64, .inl c_message_115)), ((hm 44), .inl (cy 1, 16, .inl c_other)), ((hm 45), .inl (cy 1, 600, .inl c_result_116)), ((hm 41), .inl (cy 1, 240, .inl c_round_15)), ((hm 37), .inl (cy 1, 64, .inl c_secret_117)), ((hm 11), .inl (cy 1, 16, .inl c_usage)), ((hm 13), .inl (cy 1, 16, .inl c_uses_17)), ((hm 26), .inl (cy 1, 32, .inl c_v_118)), ((hm 31), .inl (cy 1, 64, .inl c_w_119)), ((hm 16), .inl (cy 1, 64, .inl c_word_120)), ((hm 32), .inl (cy 1, 8, .inl c_x_121))]) H := hP
          replace hD : va_D A ([(h0, .inr (12, zmo hm (0 : Int32) c_state c_test c_words_110 c_ill c_before c_inRow c_first c_inWindow c_same c_made_106 c_requests_107 c_total_109 c_secrets_108 c_rounds_16 c_high c_low c_keyHigh c_keyLow)), ((hm 0), .inl (cy 1, 64, .inl c_ROUND)), ((hm 47), .inl (cy 1, 8, .inl c_START)), ((hm 40), .inl (cy 1, 256, .inl c_back)), ((hm 43), .inl (cy 1, 16, .inl c_block)), ((hm 46), .inl (cy 1, 512, .inl c_body)), ((hm 39), .inl (cy 1, 256, .inl c_box)), ((hm 6), .inl (cy 1, 512, .inl c_buffer)), ((hm 5), .inl (cy 1, 3, .inl c_counters)), ((hm 35), .inl (cy 1, 32, .inl c_digest_111)), ((hm 30), .inl (cy 1, 8, .inl c_h_112)), ((hm 12), .inl (cy 1, 16, .inl c_holder)), ((hm 36), .inl (cy 1, 32, .inl c_inner_113)), ((hm 25), .inl (cy 1, 32, .inl c_k_114)), ((hm 14), .inl (cy 1, 1024, .inl c_keys)), ((hm 9), .inl (cy 1, 16, .inl c_kind)), ((hm 10), .inl (cy 1, 16, .inl c_length)), ((hm 33), .inl (cy 1, 64, .inl c_message_115)), ((hm 44), .inl (cy 1, 16, .inl c_other)), ((hm 45), .inl (cy 1, 600, .inl c_result_116)), ((hm 41), .inl (cy 1, 240, .inl c_round_15)), ((hm 37), .inl (cy 1, 64, .inl c_secret_117)), ((hm 11), .inl (cy 1, 16, .inl c_usage)), ((hm 13), .inl (cy 1, 16, .inl c_uses_17)), ((hm 26), .inl (cy 1, 32, .inl c_v_118)), ((hm 31), .inl (cy 1, 64, .inl c_w_119)), ((hm 16), .inl (cy 1, 64, .inl c_word_120)), ((hm 32), .inl (cy 1, 8, .inl c_x_121))]) := hD
          refine W.eq (g2 := F0 m 391 ls []) rfl ?_
          refine lv_iconst (pc := 391) (v := (0 : Int32)) hx hb (zdt_at zt_X10_run_3 21 rfl) (by decide) ?_
          refine lv_istore (pc := 392) (lv' := [(7, .int (0 : Int32)), (0, .ref h0), (1, .int p1), (2, .int p2), (3, .int p3), (4, .int p4), (5, .int p5)]) hx hb (zdt_at zt_X10_run_3 22 rfl) hl (by decide) rfl ?_
          clear hl
          intro ls hl
          replace hf := zj_s hf
          obtain ⟨K_125, eK_125, hf⟩ := hf
          have kK_125 : ∀ (c_buffer_124 : Nat → Int32) (H : Heap) (locs : List Loc) (ls : Array Slot), va_P D vwCl ([(h0, .inr (12, zmo hm (0 : Int32) c_state c_test c_words_110 c_ill c_before c_inRow c_first c_inWindow c_same c_made_106 c_requests_107 c_total_109 c_secrets_108 c_rounds_16 c_high c_low c_keyHigh c_keyLow)), ((hm 0), .inl (cy 1, 64, .inl c_ROUND)), ((hm 47), .inl (cy 1, 8, .inl c_START)), ((hm 40), .inl (cy 1, 256, .inl c_back)), ((hm 43), .inl (cy 1, 16, .inl c_block)), ((hm 46), .inl (cy 1, 512, .inl c_body)), ((hm 39), .inl (cy 1, 256, .inl c_box)), ((hm 6), .inl (cy 1, 512, .inl c_buffer_124)), ((hm 5), .inl (cy 1, 3, .inl c_counters)), ((hm 35), .inl (cy 1, 32, .inl c_digest_111)), ((hm 30), .inl (cy 1, 8, .inl c_h_112)), ((hm 12), .inl (cy 1, 16, .inl c_holder)), ((hm 36), .inl (cy 1, 32, .inl c_inner_113)), ((hm 25), .inl (cy 1, 32, .inl c_k_114)), ((hm 14), .inl (cy 1, 1024, .inl c_keys)), ((hm 9), .inl (cy 1, 16, .inl c_kind)), ((hm 10), .inl (cy 1, 16, .inl c_length)), ((hm 33), .inl (cy 1, 64, .inl c_message_115)), ((hm 44), .inl (cy 1, 16, .inl c_other)), ((hm 45), .inl (cy 1, 600, .inl c_result_116)), ((hm 41), .inl (cy 1, 240, .inl c_round_15)), ((hm 37), .inl (cy 1, 64, .inl c_secret_117)), ((hm 11), .inl (cy 1, 16, .inl c_usage)), ((hm 13), .inl (cy 1, 16, .inl c_uses_17)), ((hm 26), .inl (cy 1, 32, .inl c_v_118)), ((hm 31), .inl (cy 1, 64, .inl c_w_119)), ((hm 16), .inl (cy 1, 64, .inl c_word_120)), ((hm 32), .inl (cy 1, 8, .inl c_x_121))]) H → va_D A ([(h0, .inr (12, zmo hm (0 : Int32) c_state c_test c_words_110 c_ill c_before c_inRow c_first c_inWindow c_same c_made_106 c_requests_107 c_total_109 c_secrets_108 c_rounds_16 c_high c_low c_keyHigh c_keyLow)), ((hm 0), .inl (cy 1, 64, .inl c_ROUND)), ((hm 47), .inl (cy 1, 8, .inl c_START)), ((hm 40), .inl (cy 1, 256, .inl c_back)), ((hm 43), .inl (cy 1, 16, .inl c_block)), ((hm 46), .inl (cy 1, 512, .inl c_body)), ((hm 39), .inl (cy 1, 256, .inl c_box)), ((hm 6), .inl (cy 1, 512, .inl c_buffer_124)), ((hm 5), .inl (cy 1, 3, .inl c_counters)), ((hm 35), .inl (cy 1, 32, .inl c_digest_111)), ((hm 30), .inl (cy 1, 8, .inl c_h_112)), ((hm 12), .inl (cy 1, 16, .inl c_holder)), ((hm 36), .inl (cy 1, 32, .inl c_inner_113)), ((hm 25), .inl (cy 1, 32, .inl c_k_114)), ((hm 14), .inl (cy 1, 1024, .inl c_keys)), ((hm 9), .inl (cy 1, 16, .inl c_kind)), ((hm 10), .inl (cy 1, 16, .inl c_length)), ((hm 33), .inl (cy 1, 64, .inl c_message_115)), ((hm 44), .inl (cy 1, 16, .inl c_other)), ((hm 45), .inl (cy 1, 600, .inl c_result_116)), ((hm 41), .inl (cy 1, 240, .inl c_round_15)), ((hm 37), .inl (cy 1, 64, .inl c_secret_117)), ((hm 11), .inl (cy 1, 16, .inl c_usage)), ((hm 13), .inl (cy 1, 16, .inl c_uses_17)), ((hm 26), .inl (cy 1, 32, .inl c_v_118)), ((hm 31), .inl (cy 1, 64, .inl c_w_119)), ((hm 16), .inl (cy 1, 64, .inl c_word_120)), ((hm 32), .inl (cy 1, 8, .inl c_x_121))]) → va_S A s.heap H locs → lv_has ls 8 [(0, .ref h0), (4, .int p4)] → K_125 c_buffer_124 = some (r_, c_high', c_keyHigh', c_keyLow', c_low', c_made', c_requests', c_rounds', c_secrets', c_thrown', c_total', c_words', c_block', c_body', c_buffer', c_counters', c_digest', c_h', c_inner', c_k', c_message', c_other', c_result', c_round', c_secret', c_uses', c_v', c_w', c_word', c_x') → GW H locs (F0 m 426 ls []) := by
            clear hf hl hP hD hS
            intro c_buffer_124 H locs ls hP hD hS hl hf
            rw [eK_125] at hf
            clear eK_125
            refine hFr _ _ _ ?_
            refine lv_aload_n (pc := 426) hx hb (zdt_at zt_X10_run_3 40 rfl) rfl (lv_at hl 0 rfl) ?_
            refine lv_iload (pc := 427) hx hb (zdt_at zt_X10_run_3 41 rfl) (lv_at hl 1 rfl) ?_
            replace hf := zb_s hf
            obtain ⟨⟨r_126, c_counters_127⟩, hc_, hf⟩ := hf
            refine zcn2 (pc := 429) (rv := (some (.int r_126))) (va_runV (As := [.int p4]) (rest := []) ⟨hx, hb, hml, hown, hts⟩ (c_X10_answer l D cy tt H.size h0 hm p4 c_counters (0 : Int32) c_state c_test c_words_110 c_ill c_before c_inRow c_first c_inWindow c_same c_made_106 c_requests_107 c_total_109 c_secrets_108 c_rounds_16 c_high c_low c_keyHigh c_keyLow r_126 c_counters_127 hc_) (cwV 1 hts gX10_run_X10_answer rfl rfl rfl (by decide +kernel) ⟨Nat.le_of_ble_eq_true rfl, Nat.le_of_ble_eq_true rfl⟩) ⟨zblind, va_recv hK hP (ci := 12) (q0 := 0) rfl rfl, zpre hE hS (hP.sub [0, 8] rfl) (hD.sub [0, 8] (by decide) rfl) (va_free hD hS hA [0, 8] rfl)⟩ rfl rfl hl.1 rfl (lv_room (Nat.le_of_ble_eq_true rfl)) (zdt_at zt_X10_run_3 42 rfl) ⟨Nat.zero_le _, Nat.zero_le _⟩) hS hP hD (va_free hD hS hA [0, 8] rfl) [0, 8] rfl (by decide) rfl ?_
            clear hP hD hS hc_
            intro H locs hP hD hS
            replace hP : va_P D vwCl ([(h0, .inr (12, zmo hm (0 : Int32) c_state c_test c_words_110 c_ill c_before c_inRow c_first c_inWindow c_same c_made_106 c_requests_107 c_total_109 c_secrets_108 c_rounds_16 c_high c_low c_keyHigh c_keyLow)), ((hm 0), .inl (cy 1, 64, .inl c_ROUND)), ((hm 47), .inl (cy 1, 8, .inl c_START)), ((hm 40), .inl (cy 1, 256, .inl c_back)), ((hm 43), .inl (cy 1, 16, .inl c_block)), ((hm 46), .inl (cy 1, 512, .inl c_body)), ((hm 39), .inl (cy 1, 256, .inl c_box)), ((hm 6), .inl (cy 1, 512, .inl c_buffer_124)), ((hm 5), .inl (cy 1, 3, .inl c_counters_127)), ((hm 35), .inl (cy 1, 32, .inl c_digest_111)), ((hm 30), .inl (cy 1, 8, .inl c_h_112)), ((hm 12), .inl (cy 1, 16, .inl c_holder)), ((hm 36), .inl (cy 1, 32, .inl c_inner_113)), ((hm 25), .inl (cy 1, 32, .inl c_k_114)), ((hm 14), .inl (cy 1, 1024, .inl c_keys)), ((hm 9), .inl (cy 1, 16, .inl c_kind)), ((hm 10), .inl (cy 1, 16, .inl c_length)), ((hm 33), .inl (cy 1, 64, .inl c_message_115)), ((hm 44), .inl (cy 1, 16, .inl c_other)), ((hm 45), .inl (cy 1, 600, .inl c_result_116)), ((hm 41), .inl (cy 1, 240, .inl c_round_15)), ((hm 37), .inl (cy 1, 64, .inl c_secret_117)), ((hm 11), .inl (cy 1, 16, .inl c_usage)), ((hm 13), .inl (cy 1, 16, .inl c_uses_17)), ((hm 26), .inl (cy 1, 32, .inl c_v_118)), ((hm 31), .inl (cy 1, 64, .inl c_w_119)), ((hm 16), .inl (cy 1, 64, .inl c_word_120)), ((hm 32), .inl (cy 1, 8, .inl c_x_121))]) H := hP
            replace hD : va_D A ([(h0, .inr (12, zmo hm (0 : Int32) c_state c_test c_words_110 c_ill c_before c_inRow c_first c_inWindow c_same c_made_106 c_requests_107 c_total_109 c_secrets_108 c_rounds_16 c_high c_low c_keyHigh c_keyLow)), ((hm 0), .inl (cy 1, 64, .inl c_ROUND)), ((hm 47), .inl (cy 1, 8, .inl c_START)), ((hm 40), .inl (cy 1, 256, .inl c_back)), ((hm 43), .inl (cy 1, 16, .inl c_block)), ((hm 46), .inl (cy 1, 512, .inl c_body)), ((hm 39), .inl (cy 1, 256, .inl c_box)), ((hm 6), .inl (cy 1, 512, .inl c_buffer_124)), ((hm 5), .inl (cy 1, 3, .inl c_counters_127)), ((hm 35), .inl (cy 1, 32, .inl c_digest_111)), ((hm 30), .inl (cy 1, 8, .inl c_h_112)), ((hm 12), .inl (cy 1, 16, .inl c_holder)), ((hm 36), .inl (cy 1, 32, .inl c_inner_113)), ((hm 25), .inl (cy 1, 32, .inl c_k_114)), ((hm 14), .inl (cy 1, 1024, .inl c_keys)), ((hm 9), .inl (cy 1, 16, .inl c_kind)), ((hm 10), .inl (cy 1, 16, .inl c_length)), ((hm 33), .inl (cy 1, 64, .inl c_message_115)), ((hm 44), .inl (cy 1, 16, .inl c_other)), ((hm 45), .inl (cy 1, 600, .inl c_result_116)), ((hm 41), .inl (cy 1, 240, .inl c_round_15)), ((hm 37), .inl (cy 1, 64, .inl c_secret_117)), ((hm 11), .inl (cy 1, 16, .inl c_usage)), ((hm 13), .inl (cy 1, 16, .inl c_uses_17)), ((hm 26), .inl (cy 1, 32, .inl c_v_118)), ((hm 31), .inl (cy 1, 64, .inl c_w_119)), ((hm 16), .inl (cy 1, 64, .inl c_word_120)), ((hm 32), .inl (cy 1, 8, .inl c_x_121))]) := hD
            refine W.eq (g2 := F0 m 432 ls [.int r_126]) rfl ?_
            cases hf
            exact W.iret (pc := 432) hx hb hr (fun t ht hW => ⟨rfl, ⟨by rw [ht]; exact hP, hD⟩, hS.F ht⟩) hS.2.2 (zdt_at zt_X10_run_3 43 rfl)
          clear eK_125
          refine hTo _ _ _ (zl_go (fun z => match z with | (i_122, c_buffer_123) => ∀ (H : Heap) (locs : List Loc) (ls : Array Slot), va_P D vwCl ([(h0, .inr (12, zmo hm (0 : Int32) c_state c_test c_words_110 c_ill c_before c_inRow c_first c_inWindow c_same c_made_106 c_requests_107 c_total_109 c_secrets_108 c_rounds_16 c_high c_low c_keyHigh c_keyLow)), ((hm 0), .inl (cy 1, 64, .inl c_ROUND)), ((hm 47), .inl (cy 1, 8, .inl c_START)), ((hm 40), .inl (cy 1, 256, .inl c_back)), ((hm 43), .inl (cy 1, 16, .inl c_block)), ((hm 46), .inl (cy 1, 512, .inl c_body)), ((hm 39), .inl (cy 1, 256, .inl c_box)), ((hm 6), .inl (cy 1, 512, .inl c_buffer_123)), ((hm 5), .inl (cy 1, 3, .inl c_counters)), ((hm 35), .inl (cy 1, 32, .inl c_digest_111)), ((hm 30), .inl (cy 1, 8, .inl c_h_112)), ((hm 12), .inl (cy 1, 16, .inl c_holder)), ((hm 36), .inl (cy 1, 32, .inl c_inner_113)), ((hm 25), .inl (cy 1, 32, .inl c_k_114)), ((hm 14), .inl (cy 1, 1024, .inl c_keys)), ((hm 9), .inl (cy 1, 16, .inl c_kind)), ((hm 10), .inl (cy 1, 16, .inl c_length)), ((hm 33), .inl (cy 1, 64, .inl c_message_115)), ((hm 44), .inl (cy 1, 16, .inl c_other)), ((hm 45), .inl (cy 1, 600, .inl c_result_116)), ((hm 41), .inl (cy 1, 240, .inl c_round_15)), ((hm 37), .inl (cy 1, 64, .inl c_secret_117)), ((hm 11), .inl (cy 1, 16, .inl c_usage)), ((hm 13), .inl (cy 1, 16, .inl c_uses_17)), ((hm 26), .inl (cy 1, 32, .inl c_v_118)), ((hm 31), .inl (cy 1, 64, .inl c_w_119)), ((hm 16), .inl (cy 1, 64, .inl c_word_120)), ((hm 32), .inl (cy 1, 8, .inl c_x_121))]) H → va_D A ([(h0, .inr (12, zmo hm (0 : Int32) c_state c_test c_words_110 c_ill c_before c_inRow c_first c_inWindow c_same c_made_106 c_requests_107 c_total_109 c_secrets_108 c_rounds_16 c_high c_low c_keyHigh c_keyLow)), ((hm 0), .inl (cy 1, 64, .inl c_ROUND)), ((hm 47), .inl (cy 1, 8, .inl c_START)), ((hm 40), .inl (cy 1, 256, .inl c_back)), ((hm 43), .inl (cy 1, 16, .inl c_block)), ((hm 46), .inl (cy 1, 512, .inl c_body)), ((hm 39), .inl (cy 1, 256, .inl c_box)), ((hm 6), .inl (cy 1, 512, .inl c_buffer_123)), ((hm 5), .inl (cy 1, 3, .inl c_counters)), ((hm 35), .inl (cy 1, 32, .inl c_digest_111)), ((hm 30), .inl (cy 1, 8, .inl c_h_112)), ((hm 12), .inl (cy 1, 16, .inl c_holder)), ((hm 36), .inl (cy 1, 32, .inl c_inner_113)), ((hm 25), .inl (cy 1, 32, .inl c_k_114)), ((hm 14), .inl (cy 1, 1024, .inl c_keys)), ((hm 9), .inl (cy 1, 16, .inl c_kind)), ((hm 10), .inl (cy 1, 16, .inl c_length)), ((hm 33), .inl (cy 1, 64, .inl c_message_115)), ((hm 44), .inl (cy 1, 16, .inl c_other)), ((hm 45), .inl (cy 1, 600, .inl c_result_116)), ((hm 41), .inl (cy 1, 240, .inl c_round_15)), ((hm 37), .inl (cy 1, 64, .inl c_secret_117)), ((hm 11), .inl (cy 1, 16, .inl c_usage)), ((hm 13), .inl (cy 1, 16, .inl c_uses_17)), ((hm 26), .inl (cy 1, 32, .inl c_v_118)), ((hm 31), .inl (cy 1, 64, .inl c_w_119)), ((hm 16), .inl (cy 1, 64, .inl c_word_120)), ((hm 32), .inl (cy 1, 8, .inl c_x_121))]) → va_S A s.heap H locs → lv_has ls 8 [(0, .ref h0), (3, .int p3), (4, .int p4), (7, .int i_122)] → GW H locs (F0 m 394 ls [])) hf ?_ H locs ls hP hD hS (lv_sub hl [1, 4, 5, 0] rfl))
          clear hf hl hP hD hS
          intro self_128 ihself_128 z hf
          obtain ⟨i_122, c_buffer_123⟩ := z
          intro H locs ls hP hD hS hl
          refine hFr _ _ _ ?_
          unfold b_X10_run_394 at hf
          refine lv_iload (pc := 394) hx hb (zdt_at zt_X10_run_3 23 rfl) (lv_at hl 3 rfl) ?_
          refine lv_iload (pc := 396) hx hb (zdt_at zt_X10_run_3 24 rfl) (lv_at hl 2 rfl) ?_
          refine lv_icmp_ge (pc := 398) (tgt := 426) hx hb (zdt_at zt_X10_run_3 25 rfl) (by decide) (fun cn_ => ?t_129) (fun cn_ => ?f_130)
          case t_129 =>
            replace hf := zt_s cn_ hf
            clear cn_
            exact hTo _ _ _ (kK_125 _ H locs ls hP hD hS (lv_sub hl [0, 2] rfl) hf)
          replace hf := ze_s cn_ hf
          clear cn_
          refine lv_aload_n (pc := 401) hx hb (zdt_at zt_X10_run_3 26 rfl) rfl (lv_at hl 0 rfl) ?_
          refine va_get (pc := 402) (D := D) (ci := 12) (v := .ref (hm 6)) (C := RX10) (T := TX10) (N := 52) hx hb hts hcX10 hown hK hP 0 rfl rfl 6 (by decide) hw1 (fun _ h9 => h9) rfl (zdt_at zt_X10_run_3 27 rfl) ?_
          refine lv_iload_n (pc := 405) hx hb (zdt_at zt_X10_run_3 28 rfl) rfl (lv_at hl 1 rfl) ?_
          refine lv_iload (pc := 406) hx hb (zdt_at zt_X10_run_3 29 rfl) (lv_at hl 3 rfl) ?_
          refine lv_iadd (pc := 408) hx hb (zdt_at zt_X10_run_3 30 rfl) ?_
          refine lv_aload_n (pc := 409) hx hb (zdt_at zt_X10_run_3 31 rfl) rfl (lv_at hl 0 rfl) ?_
          refine va_get (pc := 410) (D := D) (ci := 12) (v := .ref (hm 45)) (C := RX10) (T := TX10) (N := 52) hx hb hts hcX10 hown hK hP 0 rfl rfl 45 (by decide) hw3 (fun _ h9 => h9) rfl (zdt_at zt_X10_run_3 32 rfl) ?_
          refine lv_bipush (pc := 413) (v := (64 : Int32)) hx hb (zdt_at zt_X10_run_3 33 rfl) (by decide) ?_
          refine lv_iload (pc := 415) hx hb (zdt_at zt_X10_run_3 34 rfl) (lv_at hl 3 rfl) ?_
          refine lv_iadd (pc := 417) hx hb (zdt_at zt_X10_run_3 35 rfl) ?_
          replace hf := zk_s hf
          refine va_iald (pc := 418) hx hb hK hP 19 1 rfl rfl hf.1 (zdt_at zt_X10_run_3 36 rfl) ?_
          replace hf := hf.2
          replace hf := zk_s hf
          refine va_iast (pc := 419) hx hb hK hP hD hS 7 1 rfl rfl hf.1 (zdt_at zt_X10_run_3 37 rfl) ?_
          replace hf := hf.2
          clear hP hD hS
          intro H locs hP hD hS
          obtain ⟨c_buffer_131, e_⟩ : ∃ q : Nat → Int32, q = (upd c_buffer_123 (p3 + i_122).toNatClampNeg (c_result_116 ((64 : Int32) + i_122).toNatClampNeg)) := ⟨_, rfl⟩
          replace hf := zn_s hf e_
          replace hP : va_P D vwCl ([(h0, .inr (12, zmo hm (0 : Int32) c_state c_test c_words_110 c_ill c_before c_inRow c_first c_inWindow c_same c_made_106 c_requests_107 c_total_109 c_secrets_108 c_rounds_16 c_high c_low c_keyHigh c_keyLow)), ((hm 0), .inl (cy 1, 64, .inl c_ROUND)), ((hm 47), .inl (cy 1, 8, .inl c_START)), ((hm 40), .inl (cy 1, 256, .inl c_back)), ((hm 43), .inl (cy 1, 16, .inl c_block)), ((hm 46), .inl (cy 1, 512, .inl c_body)), ((hm 39), .inl (cy 1, 256, .inl c_box)), ((hm 6), .inl (cy 1, 512, .inl c_buffer_131)), ((hm 5), .inl (cy 1, 3, .inl c_counters)), ((hm 35), .inl (cy 1, 32, .inl c_digest_111)), ((hm 30), .inl (cy 1, 8, .inl c_h_112)), ((hm 12), .inl (cy 1, 16, .inl c_holder)), ((hm 36), .inl (cy 1, 32, .inl c_inner_113)), ((hm 25), .inl (cy 1, 32, .inl c_k_114)), ((hm 14), .inl (cy 1, 1024, .inl c_keys)), ((hm 9), .inl (cy 1, 16, .inl c_kind)), ((hm 10), .inl (cy 1, 16, .inl c_length)), ((hm 33), .inl (cy 1, 64, .inl c_message_115)), ((hm 44), .inl (cy 1, 16, .inl c_other)), ((hm 45), .inl (cy 1, 600, .inl c_result_116)), ((hm 41), .inl (cy 1, 240, .inl c_round_15)), ((hm 37), .inl (cy 1, 64, .inl c_secret_117)), ((hm 11), .inl (cy 1, 16, .inl c_usage)), ((hm 13), .inl (cy 1, 16, .inl c_uses_17)), ((hm 26), .inl (cy 1, 32, .inl c_v_118)), ((hm 31), .inl (cy 1, 64, .inl c_w_119)), ((hm 16), .inl (cy 1, 64, .inl c_word_120)), ((hm 32), .inl (cy 1, 8, .inl c_x_121))]) H := by rw [e_]; exact hP
          replace hD : va_D A ([(h0, .inr (12, zmo hm (0 : Int32) c_state c_test c_words_110 c_ill c_before c_inRow c_first c_inWindow c_same c_made_106 c_requests_107 c_total_109 c_secrets_108 c_rounds_16 c_high c_low c_keyHigh c_keyLow)), ((hm 0), .inl (cy 1, 64, .inl c_ROUND)), ((hm 47), .inl (cy 1, 8, .inl c_START)), ((hm 40), .inl (cy 1, 256, .inl c_back)), ((hm 43), .inl (cy 1, 16, .inl c_block)), ((hm 46), .inl (cy 1, 512, .inl c_body)), ((hm 39), .inl (cy 1, 256, .inl c_box)), ((hm 6), .inl (cy 1, 512, .inl c_buffer_131)), ((hm 5), .inl (cy 1, 3, .inl c_counters)), ((hm 35), .inl (cy 1, 32, .inl c_digest_111)), ((hm 30), .inl (cy 1, 8, .inl c_h_112)), ((hm 12), .inl (cy 1, 16, .inl c_holder)), ((hm 36), .inl (cy 1, 32, .inl c_inner_113)), ((hm 25), .inl (cy 1, 32, .inl c_k_114)), ((hm 14), .inl (cy 1, 1024, .inl c_keys)), ((hm 9), .inl (cy 1, 16, .inl c_kind)), ((hm 10), .inl (cy 1, 16, .inl c_length)), ((hm 33), .inl (cy 1, 64, .inl c_message_115)), ((hm 44), .inl (cy 1, 16, .inl c_other)), ((hm 45), .inl (cy 1, 600, .inl c_result_116)), ((hm 41), .inl (cy 1, 240, .inl c_round_15)), ((hm 37), .inl (cy 1, 64, .inl c_secret_117)), ((hm 11), .inl (cy 1, 16, .inl c_usage)), ((hm 13), .inl (cy 1, 16, .inl c_uses_17)), ((hm 26), .inl (cy 1, 32, .inl c_v_118)), ((hm 31), .inl (cy 1, 64, .inl c_w_119)), ((hm 16), .inl (cy 1, 64, .inl c_word_120)), ((hm 32), .inl (cy 1, 8, .inl c_x_121))]) := by rw [e_]; exact hD
          clear e_
          refine lv_iinc (pc := 420) (v := (i_122 + (1 : Int32))) (lv' := [(7, .int (i_122 + (1 : Int32))), (0, .ref h0), (3, .int p3), (4, .int p4)]) hx hb (zdt_at zt_X10_run_3 38 rfl) hl (k := 3) rfl rfl (by decide) rfl ?_
          clear hl
          intro ls hl
          refine lv_goto (pc := 423) (tgt := 394) hx hb (zdt_at zt_X10_run_3 39 rfl) (by decide) ?_
          exact hTo _ _ _ (ihself_128 _ hf H locs ls hP hD hS (lv_sub hl [1, 2, 3, 0] rfl))
        replace hf := ze_s cn_ hf
        clear cn_
        refine lv_iload_n (pc := 433) hx hb (zdt_at zt_X10_run_3 44 rfl) rfl (lv_at hl 1 rfl) ?_
        refine lv_bipush (pc := 434) (v := (10 : Int32)) hx hb (zdt_at zt_X10_run_3 45 rfl) (by decide) ?_
        replace hf := zj_s hf
        obtain ⟨K_33, eK_33, hf⟩ := hf
        have kK_33 : ∀ (c_secret_31 : Nat → Int32) (c_secrets_32 : Int32) (H : Heap) (locs : List Loc) (ls : Array Slot), va_P D vwCl ([(h0, .inr (12, zmo hm (0 : Int32) c_state c_test c_words c_ill c_before c_inRow c_first c_inWindow c_same c_made c_requests c_total c_secrets_32 c_rounds_16 c_high c_low c_keyHigh c_keyLow)), ((hm 0), .inl (cy 1, 64, .inl c_ROUND)), ((hm 47), .inl (cy 1, 8, .inl c_START)), ((hm 40), .inl (cy 1, 256, .inl c_back)), ((hm 43), .inl (cy 1, 16, .inl c_block)), ((hm 46), .inl (cy 1, 512, .inl c_body)), ((hm 39), .inl (cy 1, 256, .inl c_box)), ((hm 6), .inl (cy 1, 512, .inl c_buffer)), ((hm 5), .inl (cy 1, 3, .inl c_counters)), ((hm 35), .inl (cy 1, 32, .inl c_digest)), ((hm 30), .inl (cy 1, 8, .inl c_h)), ((hm 12), .inl (cy 1, 16, .inl c_holder)), ((hm 36), .inl (cy 1, 32, .inl c_inner)), ((hm 25), .inl (cy 1, 32, .inl c_k)), ((hm 14), .inl (cy 1, 1024, .inl c_keys)), ((hm 9), .inl (cy 1, 16, .inl c_kind)), ((hm 10), .inl (cy 1, 16, .inl c_length)), ((hm 33), .inl (cy 1, 64, .inl c_message)), ((hm 44), .inl (cy 1, 16, .inl c_other)), ((hm 45), .inl (cy 1, 600, .inl c_result)), ((hm 41), .inl (cy 1, 240, .inl c_round_15)), ((hm 37), .inl (cy 1, 64, .inl c_secret_31)), ((hm 11), .inl (cy 1, 16, .inl c_usage)), ((hm 13), .inl (cy 1, 16, .inl c_uses_17)), ((hm 26), .inl (cy 1, 32, .inl c_v)), ((hm 31), .inl (cy 1, 64, .inl c_w)), ((hm 16), .inl (cy 1, 64, .inl c_word)), ((hm 32), .inl (cy 1, 8, .inl c_x))]) H → va_D A ([(h0, .inr (12, zmo hm (0 : Int32) c_state c_test c_words c_ill c_before c_inRow c_first c_inWindow c_same c_made c_requests c_total c_secrets_32 c_rounds_16 c_high c_low c_keyHigh c_keyLow)), ((hm 0), .inl (cy 1, 64, .inl c_ROUND)), ((hm 47), .inl (cy 1, 8, .inl c_START)), ((hm 40), .inl (cy 1, 256, .inl c_back)), ((hm 43), .inl (cy 1, 16, .inl c_block)), ((hm 46), .inl (cy 1, 512, .inl c_body)), ((hm 39), .inl (cy 1, 256, .inl c_box)), ((hm 6), .inl (cy 1, 512, .inl c_buffer)), ((hm 5), .inl (cy 1, 3, .inl c_counters)), ((hm 35), .inl (cy 1, 32, .inl c_digest)), ((hm 30), .inl (cy 1, 8, .inl c_h)), ((hm 12), .inl (cy 1, 16, .inl c_holder)), ((hm 36), .inl (cy 1, 32, .inl c_inner)), ((hm 25), .inl (cy 1, 32, .inl c_k)), ((hm 14), .inl (cy 1, 1024, .inl c_keys)), ((hm 9), .inl (cy 1, 16, .inl c_kind)), ((hm 10), .inl (cy 1, 16, .inl c_length)), ((hm 33), .inl (cy 1, 64, .inl c_message)), ((hm 44), .inl (cy 1, 16, .inl c_other)), ((hm 45), .inl (cy 1, 600, .inl c_result)), ((hm 41), .inl (cy 1, 240, .inl c_round_15)), ((hm 37), .inl (cy 1, 64, .inl c_secret_31)), ((hm 11), .inl (cy 1, 16, .inl c_usage)), ((hm 13), .inl (cy 1, 16, .inl c_uses_17)), ((hm 26), .inl (cy 1, 32, .inl c_v)), ((hm 31), .inl (cy 1, 64, .inl c_w)), ((hm 16), .inl (cy 1, 64, .inl c_word)), ((hm 32), .inl (cy 1, 8, .inl c_x))]) → va_S A s.heap H locs → lv_has ls 8 [(0, .ref h0), (1, .int p1), (3, .int p3), (4, .int p4)] → K_33 c_secret_31 c_secrets_32 = some (r_, c_high', c_keyHigh', c_keyLow', c_low', c_made', c_requests', c_rounds', c_secrets', c_thrown', c_total', c_words', c_block', c_body', c_buffer', c_counters', c_digest', c_h', c_inner', c_k', c_message', c_other', c_result', c_round', c_secret', c_uses', c_v', c_w', c_word', c_x') → GW H locs (F0 m 444 ls []) := by
          clear hf hl hP hD hS
          intro c_secret_31 c_secrets_32 H locs ls hP hD hS hl hf
          rw [eK_33] at hf
          clear eK_33
          refine hFr _ _ _ ?_
          refine lv_iload_n (pc := 444) hx hb (zdt_at zt_X10_run_3 50 rfl) rfl (lv_at hl 1 rfl) ?_
          refine lv_bipush (pc := 445) (v := (10 : Int32)) hx hb (zdt_at zt_X10_run_3 51 rfl) (by decide) ?_
          replace hf := zj_s hf
          obtain ⟨K_39, eK_39, hf⟩ := hf
          have kK_39 : ∀ (c_h_34 : Nat → Int32) (c_message_35 : Nat → Int32) (c_total_36 : Int64) (c_w_37 : Nat → Int32) (c_x_38 : Nat → Int32) (H : Heap) (locs : List Loc) (ls : Array Slot), va_P D vwCl ([(h0, .inr (12, zmo hm (0 : Int32) c_state c_test c_words c_ill c_before c_inRow c_first c_inWindow c_same c_made c_requests c_total_36 c_secrets_32 c_rounds_16 c_high c_low c_keyHigh c_keyLow)), ((hm 0), .inl (cy 1, 64, .inl c_ROUND)), ((hm 47), .inl (cy 1, 8, .inl c_START)), ((hm 40), .inl (cy 1, 256, .inl c_back)), ((hm 43), .inl (cy 1, 16, .inl c_block)), ((hm 46), .inl (cy 1, 512, .inl c_body)), ((hm 39), .inl (cy 1, 256, .inl c_box)), ((hm 6), .inl (cy 1, 512, .inl c_buffer)), ((hm 5), .inl (cy 1, 3, .inl c_counters)), ((hm 35), .inl (cy 1, 32, .inl c_digest)), ((hm 30), .inl (cy 1, 8, .inl c_h_34)), ((hm 12), .inl (cy 1, 16, .inl c_holder)), ((hm 36), .inl (cy 1, 32, .inl c_inner)), ((hm 25), .inl (cy 1, 32, .inl c_k)), ((hm 14), .inl (cy 1, 1024, .inl c_keys)), ((hm 9), .inl (cy 1, 16, .inl c_kind)), ((hm 10), .inl (cy 1, 16, .inl c_length)), ((hm 33), .inl (cy 1, 64, .inl c_message_35)), ((hm 44), .inl (cy 1, 16, .inl c_other)), ((hm 45), .inl (cy 1, 600, .inl c_result)), ((hm 41), .inl (cy 1, 240, .inl c_round_15)), ((hm 37), .inl (cy 1, 64, .inl c_secret_31)), ((hm 11), .inl (cy 1, 16, .inl c_usage)), ((hm 13), .inl (cy 1, 16, .inl c_uses_17)), ((hm 26), .inl (cy 1, 32, .inl c_v)), ((hm 31), .inl (cy 1, 64, .inl c_w_37)), ((hm 16), .inl (cy 1, 64, .inl c_word)), ((hm 32), .inl (cy 1, 8, .inl c_x_38))]) H → va_D A ([(h0, .inr (12, zmo hm (0 : Int32) c_state c_test c_words c_ill c_before c_inRow c_first c_inWindow c_same c_made c_requests c_total_36 c_secrets_32 c_rounds_16 c_high c_low c_keyHigh c_keyLow)), ((hm 0), .inl (cy 1, 64, .inl c_ROUND)), ((hm 47), .inl (cy 1, 8, .inl c_START)), ((hm 40), .inl (cy 1, 256, .inl c_back)), ((hm 43), .inl (cy 1, 16, .inl c_block)), ((hm 46), .inl (cy 1, 512, .inl c_body)), ((hm 39), .inl (cy 1, 256, .inl c_box)), ((hm 6), .inl (cy 1, 512, .inl c_buffer)), ((hm 5), .inl (cy 1, 3, .inl c_counters)), ((hm 35), .inl (cy 1, 32, .inl c_digest)), ((hm 30), .inl (cy 1, 8, .inl c_h_34)), ((hm 12), .inl (cy 1, 16, .inl c_holder)), ((hm 36), .inl (cy 1, 32, .inl c_inner)), ((hm 25), .inl (cy 1, 32, .inl c_k)), ((hm 14), .inl (cy 1, 1024, .inl c_keys)), ((hm 9), .inl (cy 1, 16, .inl c_kind)), ((hm 10), .inl (cy 1, 16, .inl c_length)), ((hm 33), .inl (cy 1, 64, .inl c_message_35)), ((hm 44), .inl (cy 1, 16, .inl c_other)), ((hm 45), .inl (cy 1, 600, .inl c_result)), ((hm 41), .inl (cy 1, 240, .inl c_round_15)), ((hm 37), .inl (cy 1, 64, .inl c_secret_31)), ((hm 11), .inl (cy 1, 16, .inl c_usage)), ((hm 13), .inl (cy 1, 16, .inl c_uses_17)), ((hm 26), .inl (cy 1, 32, .inl c_v)), ((hm 31), .inl (cy 1, 64, .inl c_w_37)), ((hm 16), .inl (cy 1, 64, .inl c_word)), ((hm 32), .inl (cy 1, 8, .inl c_x_38))]) → va_S A s.heap H locs → lv_has ls 8 [(0, .ref h0), (1, .int p1), (3, .int p3), (4, .int p4)] → K_39 c_h_34 c_message_35 c_total_36 c_w_37 c_x_38 = some (r_, c_high', c_keyHigh', c_keyLow', c_low', c_made', c_requests', c_rounds', c_secrets', c_thrown', c_total', c_words', c_block', c_body', c_buffer', c_counters', c_digest', c_h', c_inner', c_k', c_message', c_other', c_result', c_round', c_secret', c_uses', c_v', c_w', c_word', c_x') → GW H locs (F0 m 461 ls []) := by
            clear hf hl hP hD hS
            intro c_h_34 c_message_35 c_total_36 c_w_37 c_x_38 H locs ls hP hD hS hl hf
            rw [eK_39] at hf
            clear eK_39
            refine hFr _ _ _ ?_
            refine lv_iconst (pc := 461) (v := (0 : Int32)) hx hb (zdt_at zt_X10_run_3 58 rfl) (by decide) ?_
            refine lv_istore (pc := 462) (lv' := [(7, .int (0 : Int32)), (0, .ref h0), (1, .int p1), (3, .int p3), (4, .int p4)]) hx hb (zdt_at zt_X10_run_3 59 rfl) hl (by decide) rfl ?_
            clear hl
            intro ls hl
            replace hf := zj_s hf
            obtain ⟨K_51, eK_51, hf⟩ := hf
            have kK_51 : ∀ (c_h_46 : Nat → Int32) (c_message_47 : Nat → Int32) (c_total_48 : Int64) (c_w_49 : Nat → Int32) (c_x_50 : Nat → Int32) (H : Heap) (locs : List Loc) (ls : Array Slot), va_P D vwCl ([(h0, .inr (12, zmo hm (0 : Int32) c_state c_test c_words c_ill c_before c_inRow c_first c_inWindow c_same c_made c_requests c_total_48 c_secrets_32 c_rounds_16 c_high c_low c_keyHigh c_keyLow)), ((hm 0), .inl (cy 1, 64, .inl c_ROUND)), ((hm 47), .inl (cy 1, 8, .inl c_START)), ((hm 40), .inl (cy 1, 256, .inl c_back)), ((hm 43), .inl (cy 1, 16, .inl c_block)), ((hm 46), .inl (cy 1, 512, .inl c_body)), ((hm 39), .inl (cy 1, 256, .inl c_box)), ((hm 6), .inl (cy 1, 512, .inl c_buffer)), ((hm 5), .inl (cy 1, 3, .inl c_counters)), ((hm 35), .inl (cy 1, 32, .inl c_digest)), ((hm 30), .inl (cy 1, 8, .inl c_h_46)), ((hm 12), .inl (cy 1, 16, .inl c_holder)), ((hm 36), .inl (cy 1, 32, .inl c_inner)), ((hm 25), .inl (cy 1, 32, .inl c_k)), ((hm 14), .inl (cy 1, 1024, .inl c_keys)), ((hm 9), .inl (cy 1, 16, .inl c_kind)), ((hm 10), .inl (cy 1, 16, .inl c_length)), ((hm 33), .inl (cy 1, 64, .inl c_message_47)), ((hm 44), .inl (cy 1, 16, .inl c_other)), ((hm 45), .inl (cy 1, 600, .inl c_result)), ((hm 41), .inl (cy 1, 240, .inl c_round_15)), ((hm 37), .inl (cy 1, 64, .inl c_secret_31)), ((hm 11), .inl (cy 1, 16, .inl c_usage)), ((hm 13), .inl (cy 1, 16, .inl c_uses_17)), ((hm 26), .inl (cy 1, 32, .inl c_v)), ((hm 31), .inl (cy 1, 64, .inl c_w_49)), ((hm 16), .inl (cy 1, 64, .inl c_word)), ((hm 32), .inl (cy 1, 8, .inl c_x_50))]) H → va_D A ([(h0, .inr (12, zmo hm (0 : Int32) c_state c_test c_words c_ill c_before c_inRow c_first c_inWindow c_same c_made c_requests c_total_48 c_secrets_32 c_rounds_16 c_high c_low c_keyHigh c_keyLow)), ((hm 0), .inl (cy 1, 64, .inl c_ROUND)), ((hm 47), .inl (cy 1, 8, .inl c_START)), ((hm 40), .inl (cy 1, 256, .inl c_back)), ((hm 43), .inl (cy 1, 16, .inl c_block)), ((hm 46), .inl (cy 1, 512, .inl c_body)), ((hm 39), .inl (cy 1, 256, .inl c_box)), ((hm 6), .inl (cy 1, 512, .inl c_buffer)), ((hm 5), .inl (cy 1, 3, .inl c_counters)), ((hm 35), .inl (cy 1, 32, .inl c_digest)), ((hm 30), .inl (cy 1, 8, .inl c_h_46)), ((hm 12), .inl (cy 1, 16, .inl c_holder)), ((hm 36), .inl (cy 1, 32, .inl c_inner)), ((hm 25), .inl (cy 1, 32, .inl c_k)), ((hm 14), .inl (cy 1, 1024, .inl c_keys)), ((hm 9), .inl (cy 1, 16, .inl c_kind)), ((hm 10), .inl (cy 1, 16, .inl c_length)), ((hm 33), .inl (cy 1, 64, .inl c_message_47)), ((hm 44), .inl (cy 1, 16, .inl c_other)), ((hm 45), .inl (cy 1, 600, .inl c_result)), ((hm 41), .inl (cy 1, 240, .inl c_round_15)), ((hm 37), .inl (cy 1, 64, .inl c_secret_31)), ((hm 11), .inl (cy 1, 16, .inl c_usage)), ((hm 13), .inl (cy 1, 16, .inl c_uses_17)), ((hm 26), .inl (cy 1, 32, .inl c_v)), ((hm 31), .inl (cy 1, 64, .inl c_w_49)), ((hm 16), .inl (cy 1, 64, .inl c_word)), ((hm 32), .inl (cy 1, 8, .inl c_x_50))]) → va_S A s.heap H locs → lv_has ls 8 [(0, .ref h0), (1, .int p1), (3, .int p3)] → K_51 c_h_46 c_message_47 c_total_48 c_w_49 c_x_50 = some (r_, c_high', c_keyHigh', c_keyLow', c_low', c_made', c_requests', c_rounds', c_secrets', c_thrown', c_total', c_words', c_block', c_body', c_buffer', c_counters', c_digest', c_h', c_inner', c_k', c_message', c_other', c_result', c_round', c_secret', c_uses', c_v', c_w', c_word', c_x') → GW H locs (F0 m 490 ls []) := by
              clear hf hl hP hD hS
              intro c_h_46 c_message_47 c_total_48 c_w_49 c_x_50 H locs ls hP hD hS hl hf
              rw [eK_51] at hf
              clear eK_51
              refine hFr _ _ _ ?_
              refine lv_iload_n (pc := 490) hx hb (zdt_at zt_X10_run_4 9 rfl) rfl (lv_at hl 1 rfl) ?_
              refine lv_bipush (pc := 491) (v := (10 : Int32)) hx hb (zdt_at zt_X10_run_4 10 rfl) (by decide) ?_
              replace hf := zj_s hf
              obtain ⟨K_59, eK_59, hf⟩ := hf
              have kK_59 : ∀ (c_digest_52 : Nat → Int32) (c_h_53 : Nat → Int32) (c_inner_54 : Nat → Int32) (c_message_55 : Nat → Int32) (c_total_56 : Int64) (c_w_57 : Nat → Int32) (c_x_58 : Nat → Int32) (H : Heap) (locs : List Loc) (ls : Array Slot), va_P D vwCl ([(h0, .inr (12, zmo hm (0 : Int32) c_state c_test c_words c_ill c_before c_inRow c_first c_inWindow c_same c_made c_requests c_total_56 c_secrets_32 c_rounds_16 c_high c_low c_keyHigh c_keyLow)), ((hm 0), .inl (cy 1, 64, .inl c_ROUND)), ((hm 47), .inl (cy 1, 8, .inl c_START)), ((hm 40), .inl (cy 1, 256, .inl c_back)), ((hm 43), .inl (cy 1, 16, .inl c_block)), ((hm 46), .inl (cy 1, 512, .inl c_body)), ((hm 39), .inl (cy 1, 256, .inl c_box)), ((hm 6), .inl (cy 1, 512, .inl c_buffer)), ((hm 5), .inl (cy 1, 3, .inl c_counters)), ((hm 35), .inl (cy 1, 32, .inl c_digest_52)), ((hm 30), .inl (cy 1, 8, .inl c_h_53)), ((hm 12), .inl (cy 1, 16, .inl c_holder)), ((hm 36), .inl (cy 1, 32, .inl c_inner_54)), ((hm 25), .inl (cy 1, 32, .inl c_k)), ((hm 14), .inl (cy 1, 1024, .inl c_keys)), ((hm 9), .inl (cy 1, 16, .inl c_kind)), ((hm 10), .inl (cy 1, 16, .inl c_length)), ((hm 33), .inl (cy 1, 64, .inl c_message_55)), ((hm 44), .inl (cy 1, 16, .inl c_other)), ((hm 45), .inl (cy 1, 600, .inl c_result)), ((hm 41), .inl (cy 1, 240, .inl c_round_15)), ((hm 37), .inl (cy 1, 64, .inl c_secret_31)), ((hm 11), .inl (cy 1, 16, .inl c_usage)), ((hm 13), .inl (cy 1, 16, .inl c_uses_17)), ((hm 26), .inl (cy 1, 32, .inl c_v)), ((hm 31), .inl (cy 1, 64, .inl c_w_57)), ((hm 16), .inl (cy 1, 64, .inl c_word)), ((hm 32), .inl (cy 1, 8, .inl c_x_58))]) H → va_D A ([(h0, .inr (12, zmo hm (0 : Int32) c_state c_test c_words c_ill c_before c_inRow c_first c_inWindow c_same c_made c_requests c_total_56 c_secrets_32 c_rounds_16 c_high c_low c_keyHigh c_keyLow)), ((hm 0), .inl (cy 1, 64, .inl c_ROUND)), ((hm 47), .inl (cy 1, 8, .inl c_START)), ((hm 40), .inl (cy 1, 256, .inl c_back)), ((hm 43), .inl (cy 1, 16, .inl c_block)), ((hm 46), .inl (cy 1, 512, .inl c_body)), ((hm 39), .inl (cy 1, 256, .inl c_box)), ((hm 6), .inl (cy 1, 512, .inl c_buffer)), ((hm 5), .inl (cy 1, 3, .inl c_counters)), ((hm 35), .inl (cy 1, 32, .inl c_digest_52)), ((hm 30), .inl (cy 1, 8, .inl c_h_53)), ((hm 12), .inl (cy 1, 16, .inl c_holder)), ((hm 36), .inl (cy 1, 32, .inl c_inner_54)), ((hm 25), .inl (cy 1, 32, .inl c_k)), ((hm 14), .inl (cy 1, 1024, .inl c_keys)), ((hm 9), .inl (cy 1, 16, .inl c_kind)), ((hm 10), .inl (cy 1, 16, .inl c_length)), ((hm 33), .inl (cy 1, 64, .inl c_message_55)), ((hm 44), .inl (cy 1, 16, .inl c_other)), ((hm 45), .inl (cy 1, 600, .inl c_result)), ((hm 41), .inl (cy 1, 240, .inl c_round_15)), ((hm 37), .inl (cy 1, 64, .inl c_secret_31)), ((hm 11), .inl (cy 1, 16, .inl c_usage)), ((hm 13), .inl (cy 1, 16, .inl c_uses_17)), ((hm 26), .inl (cy 1, 32, .inl c_v)), ((hm 31), .inl (cy 1, 64, .inl c_w_57)), ((hm 16), .inl (cy 1, 64, .inl c_word)), ((hm 32), .inl (cy 1, 8, .inl c_x_58))]) → va_S A s.heap H locs → lv_has ls 8 [(0, .ref h0), (3, .int p3)] → K_59 c_digest_52 c_h_53 c_inner_54 c_message_55 c_total_56 c_w_57 c_x_58 = some (r_, c_high', c_keyHigh', c_keyLow', c_low', c_made', c_requests', c_rounds', c_secrets', c_thrown', c_total', c_words', c_block', c_body', c_buffer', c_counters', c_digest', c_h', c_inner', c_k', c_message', c_other', c_result', c_round', c_secret', c_uses', c_v', c_w', c_word', c_x') → GW H locs (F0 m 507 ls []) := by
                clear hf hl hP hD hS
                intro c_digest_52 c_h_53 c_inner_54 c_message_55 c_total_56 c_w_57 c_x_58 H locs ls hP hD hS hl hf
                rw [eK_59] at hf
                clear eK_59
                refine hFr _ _ _ ?_
                refine lv_iconst (pc := 507) (v := (0 : Int32)) hx hb (zdt_at zt_X10_run_4 17 rfl) (by decide) ?_
                refine lv_istore (pc := 508) (lv' := [(7, .int (0 : Int32)), (0, .ref h0), (3, .int p3)]) hx hb (zdt_at zt_X10_run_4 18 rfl) hl (by decide) rfl ?_
                clear hl
                intro ls hl
                replace hf := zj_s hf
                obtain ⟨K_63, eK_63, hf⟩ := hf
                have kK_63 : ∀ (c_buffer_62 : Nat → Int32) (H : Heap) (locs : List Loc) (ls : Array Slot), va_P D vwCl ([(h0, .inr (12, zmo hm (0 : Int32) c_state c_test c_words c_ill c_before c_inRow c_first c_inWindow c_same c_made c_requests c_total_56 c_secrets_32 c_rounds_16 c_high c_low c_keyHigh c_keyLow)), ((hm 0), .inl (cy 1, 64, .inl c_ROUND)), ((hm 47), .inl (cy 1, 8, .inl c_START)), ((hm 40), .inl (cy 1, 256, .inl c_back)), ((hm 43), .inl (cy 1, 16, .inl c_block)), ((hm 46), .inl (cy 1, 512, .inl c_body)), ((hm 39), .inl (cy 1, 256, .inl c_box)), ((hm 6), .inl (cy 1, 512, .inl c_buffer_62)), ((hm 5), .inl (cy 1, 3, .inl c_counters)), ((hm 35), .inl (cy 1, 32, .inl c_digest_52)), ((hm 30), .inl (cy 1, 8, .inl c_h_53)), ((hm 12), .inl (cy 1, 16, .inl c_holder)), ((hm 36), .inl (cy 1, 32, .inl c_inner_54)), ((hm 25), .inl (cy 1, 32, .inl c_k)), ((hm 14), .inl (cy 1, 1024, .inl c_keys)), ((hm 9), .inl (cy 1, 16, .inl c_kind)), ((hm 10), .inl (cy 1, 16, .inl c_length)), ((hm 33), .inl (cy 1, 64, .inl c_message_55)), ((hm 44), .inl (cy 1, 16, .inl c_other)), ((hm 45), .inl (cy 1, 600, .inl c_result)), ((hm 41), .inl (cy 1, 240, .inl c_round_15)), ((hm 37), .inl (cy 1, 64, .inl c_secret_31)), ((hm 11), .inl (cy 1, 16, .inl c_usage)), ((hm 13), .inl (cy 1, 16, .inl c_uses_17)), ((hm 26), .inl (cy 1, 32, .inl c_v)), ((hm 31), .inl (cy 1, 64, .inl c_w_57)), ((hm 16), .inl (cy 1, 64, .inl c_word)), ((hm 32), .inl (cy 1, 8, .inl c_x_58))]) H → va_D A ([(h0, .inr (12, zmo hm (0 : Int32) c_state c_test c_words c_ill c_before c_inRow c_first c_inWindow c_same c_made c_requests c_total_56 c_secrets_32 c_rounds_16 c_high c_low c_keyHigh c_keyLow)), ((hm 0), .inl (cy 1, 64, .inl c_ROUND)), ((hm 47), .inl (cy 1, 8, .inl c_START)), ((hm 40), .inl (cy 1, 256, .inl c_back)), ((hm 43), .inl (cy 1, 16, .inl c_block)), ((hm 46), .inl (cy 1, 512, .inl c_body)), ((hm 39), .inl (cy 1, 256, .inl c_box)), ((hm 6), .inl (cy 1, 512, .inl c_buffer_62)), ((hm 5), .inl (cy 1, 3, .inl c_counters)), ((hm 35), .inl (cy 1, 32, .inl c_digest_52)), ((hm 30), .inl (cy 1, 8, .inl c_h_53)), ((hm 12), .inl (cy 1, 16, .inl c_holder)), ((hm 36), .inl (cy 1, 32, .inl c_inner_54)), ((hm 25), .inl (cy 1, 32, .inl c_k)), ((hm 14), .inl (cy 1, 1024, .inl c_keys)), ((hm 9), .inl (cy 1, 16, .inl c_kind)), ((hm 10), .inl (cy 1, 16, .inl c_length)), ((hm 33), .inl (cy 1, 64, .inl c_message_55)), ((hm 44), .inl (cy 1, 16, .inl c_other)), ((hm 45), .inl (cy 1, 600, .inl c_result)), ((hm 41), .inl (cy 1, 240, .inl c_round_15)), ((hm 37), .inl (cy 1, 64, .inl c_secret_31)), ((hm 11), .inl (cy 1, 16, .inl c_usage)), ((hm 13), .inl (cy 1, 16, .inl c_uses_17)), ((hm 26), .inl (cy 1, 32, .inl c_v)), ((hm 31), .inl (cy 1, 64, .inl c_w_57)), ((hm 16), .inl (cy 1, 64, .inl c_word)), ((hm 32), .inl (cy 1, 8, .inl c_x_58))]) → va_S A s.heap H locs → lv_has ls 8 [(0, .ref h0)] → K_63 c_buffer_62 = some (r_, c_high', c_keyHigh', c_keyLow', c_low', c_made', c_requests', c_rounds', c_secrets', c_thrown', c_total', c_words', c_block', c_body', c_buffer', c_counters', c_digest', c_h', c_inner', c_k', c_message', c_other', c_result', c_round', c_secret', c_uses', c_v', c_w', c_word', c_x') → GW H locs (F0 m 539 ls []) := by
                  clear hf hl hP hD hS
                  intro c_buffer_62 H locs ls hP hD hS hl hf
                  rw [eK_63] at hf
                  clear eK_63
                  refine hFr _ _ _ ?_
                  refine lv_aload_n (pc := 539) hx hb (zdt_at zt_X10_run_4 34 rfl) rfl (lv_at hl 0 rfl) ?_
                  refine lv_bipush (pc := 540) (v := (32 : Int32)) hx hb (zdt_at zt_X10_run_4 35 rfl) (by decide) ?_
                  replace hf := zb_s hf
                  obtain ⟨⟨r_64, c_counters_65⟩, hc_, hf⟩ := hf
                  refine zcn2 (pc := 542) (rv := (some (.int r_64))) (va_runV (As := [.int (32 : Int32)]) (rest := []) ⟨hx, hb, hml, hown, hts⟩ (c_X10_answer l D cy tt H.size h0 hm (32 : Int32) c_counters (0 : Int32) c_state c_test c_words c_ill c_before c_inRow c_first c_inWindow c_same c_made c_requests c_total_56 c_secrets_32 c_rounds_16 c_high c_low c_keyHigh c_keyLow r_64 c_counters_65 hc_) (cwV 1 hts gX10_run_X10_answer rfl rfl rfl (by decide +kernel) ⟨Nat.le_of_ble_eq_true rfl, Nat.le_of_ble_eq_true rfl⟩) ⟨zblind, va_recv hK hP (ci := 12) (q0 := 0) rfl rfl, zpre hE hS (hP.sub [0, 8] rfl) (hD.sub [0, 8] (by decide) rfl) (va_free hD hS hA [0, 8] rfl)⟩ rfl rfl hl.1 rfl (lv_room (Nat.le_of_ble_eq_true rfl)) (zdt_at zt_X10_run_4 36 rfl) ⟨Nat.zero_le _, Nat.zero_le _⟩) hS hP hD (va_free hD hS hA [0, 8] rfl) [0, 8] rfl (by decide) rfl ?_
                  clear hP hD hS hc_
                  intro H locs hP hD hS
                  replace hP : va_P D vwCl ([(h0, .inr (12, zmo hm (0 : Int32) c_state c_test c_words c_ill c_before c_inRow c_first c_inWindow c_same c_made c_requests c_total_56 c_secrets_32 c_rounds_16 c_high c_low c_keyHigh c_keyLow)), ((hm 0), .inl (cy 1, 64, .inl c_ROUND)), ((hm 47), .inl (cy 1, 8, .inl c_START)), ((hm 40), .inl (cy 1, 256, .inl c_back)), ((hm 43), .inl (cy 1, 16, .inl c_block)), ((hm 46), .inl (cy 1, 512, .inl c_body)), ((hm 39), .inl (cy 1, 256, .inl c_box)), ((hm 6), .inl (cy 1, 512, .inl c_buffer_62)), ((hm 5), .inl (cy 1, 3, .inl c_counters_65)), ((hm 35), .inl (cy 1, 32, .inl c_digest_52)), ((hm 30), .inl (cy 1, 8, .inl c_h_53)), ((hm 12), .inl (cy 1, 16, .inl c_holder)), ((hm 36), .inl (cy 1, 32, .inl c_inner_54)), ((hm 25), .inl (cy 1, 32, .inl c_k)), ((hm 14), .inl (cy 1, 1024, .inl c_keys)), ((hm 9), .inl (cy 1, 16, .inl c_kind)), ((hm 10), .inl (cy 1, 16, .inl c_length)), ((hm 33), .inl (cy 1, 64, .inl c_message_55)), ((hm 44), .inl (cy 1, 16, .inl c_other)), ((hm 45), .inl (cy 1, 600, .inl c_result)), ((hm 41), .inl (cy 1, 240, .inl c_round_15)), ((hm 37), .inl (cy 1, 64, .inl c_secret_31)), ((hm 11), .inl (cy 1, 16, .inl c_usage)), ((hm 13), .inl (cy 1, 16, .inl c_uses_17)), ((hm 26), .inl (cy 1, 32, .inl c_v)), ((hm 31), .inl (cy 1, 64, .inl c_w_57)), ((hm 16), .inl (cy 1, 64, .inl c_word)), ((hm 32), .inl (cy 1, 8, .inl c_x_58))]) H := hP
                  replace hD : va_D A ([(h0, .inr (12, zmo hm (0 : Int32) c_state c_test c_words c_ill c_before c_inRow c_first c_inWindow c_same c_made c_requests c_total_56 c_secrets_32 c_rounds_16 c_high c_low c_keyHigh c_keyLow)), ((hm 0), .inl (cy 1, 64, .inl c_ROUND)), ((hm 47), .inl (cy 1, 8, .inl c_START)), ((hm 40), .inl (cy 1, 256, .inl c_back)), ((hm 43), .inl (cy 1, 16, .inl c_block)), ((hm 46), .inl (cy 1, 512, .inl c_body)), ((hm 39), .inl (cy 1, 256, .inl c_box)), ((hm 6), .inl (cy 1, 512, .inl c_buffer_62)), ((hm 5), .inl (cy 1, 3, .inl c_counters_65)), ((hm 35), .inl (cy 1, 32, .inl c_digest_52)), ((hm 30), .inl (cy 1, 8, .inl c_h_53)), ((hm 12), .inl (cy 1, 16, .inl c_holder)), ((hm 36), .inl (cy 1, 32, .inl c_inner_54)), ((hm 25), .inl (cy 1, 32, .inl c_k)), ((hm 14), .inl (cy 1, 1024, .inl c_keys)), ((hm 9), .inl (cy 1, 16, .inl c_kind)), ((hm 10), .inl (cy 1, 16, .inl c_length)), ((hm 33), .inl (cy 1, 64, .inl c_message_55)), ((hm 44), .inl (cy 1, 16, .inl c_other)), ((hm 45), .inl (cy 1, 600, .inl c_result)), ((hm 41), .inl (cy 1, 240, .inl c_round_15)), ((hm 37), .inl (cy 1, 64, .inl c_secret_31)), ((hm 11), .inl (cy 1, 16, .inl c_usage)), ((hm 13), .inl (cy 1, 16, .inl c_uses_17)), ((hm 26), .inl (cy 1, 32, .inl c_v)), ((hm 31), .inl (cy 1, 64, .inl c_w_57)), ((hm 16), .inl (cy 1, 64, .inl c_word)), ((hm 32), .inl (cy 1, 8, .inl c_x_58))]) := hD
                  refine W.eq (g2 := F0 m 545 ls [.int r_64]) rfl ?_
                  cases hf
                  exact W.iret (pc := 545) hx hb hr (fun t ht hW => ⟨rfl, ⟨by rw [ht]; exact hP, hD⟩, hS.F ht⟩) hS.2.2 (zdt_at zt_X10_run_4 37 rfl)
                clear eK_63
                refine hTo _ _ _ (zl_go (fun z => match z with | (i_60, c_buffer_61) => ∀ (H : Heap) (locs : List Loc) (ls : Array Slot), va_P D vwCl ([(h0, .inr (12, zmo hm (0 : Int32) c_state c_test c_words c_ill c_before c_inRow c_first c_inWindow c_same c_made c_requests c_total_56 c_secrets_32 c_rounds_16 c_high c_low c_keyHigh c_keyLow)), ((hm 0), .inl (cy 1, 64, .inl c_ROUND)), ((hm 47), .inl (cy 1, 8, .inl c_START)), ((hm 40), .inl (cy 1, 256, .inl c_back)), ((hm 43), .inl (cy 1, 16, .inl c_block)), ((hm 46), .inl (cy 1, 512, .inl c_body)), ((hm 39), .inl (cy 1, 256, .inl c_box)), ((hm 6), .inl (cy 1, 512, .inl c_buffer_61)), ((hm 5), .inl (cy 1, 3, .inl c_counters)), ((hm 35), .inl (cy 1, 32, .inl c_digest_52)), ((hm 30), .inl (cy 1, 8, .inl c_h_53)), ((hm 12), .inl (cy 1, 16, .inl c_holder)), ((hm 36), .inl (cy 1, 32, .inl c_inner_54)), ((hm 25), .inl (cy 1, 32, .inl c_k)), ((hm 14), .inl (cy 1, 1024, .inl c_keys)), ((hm 9), .inl (cy 1, 16, .inl c_kind)), ((hm 10), .inl (cy 1, 16, .inl c_length)), ((hm 33), .inl (cy 1, 64, .inl c_message_55)), ((hm 44), .inl (cy 1, 16, .inl c_other)), ((hm 45), .inl (cy 1, 600, .inl c_result)), ((hm 41), .inl (cy 1, 240, .inl c_round_15)), ((hm 37), .inl (cy 1, 64, .inl c_secret_31)), ((hm 11), .inl (cy 1, 16, .inl c_usage)), ((hm 13), .inl (cy 1, 16, .inl c_uses_17)), ((hm 26), .inl (cy 1, 32, .inl c_v)), ((hm 31), .inl (cy 1, 64, .inl c_w_57)), ((hm 16), .inl (cy 1, 64, .inl c_word)), ((hm 32), .inl (cy 1, 8, .inl c_x_58))]) H → va_D A ([(h0, .inr (12, zmo hm (0 : Int32) c_state c_test c_words c_ill c_before c_inRow c_first c_inWindow c_same c_made c_requests c_total_56 c_secrets_32 c_rounds_16 c_high c_low c_keyHigh c_keyLow)), ((hm 0), .inl (cy 1, 64, .inl c_ROUND)), ((hm 47), .inl (cy 1, 8, .inl c_START)), ((hm 40), .inl (cy 1, 256, .inl c_back)), ((hm 43), .inl (cy 1, 16, .inl c_block)), ((hm 46), .inl (cy 1, 512, .inl c_body)), ((hm 39), .inl (cy 1, 256, .inl c_box)), ((hm 6), .inl (cy 1, 512, .inl c_buffer_61)), ((hm 5), .inl (cy 1, 3, .inl c_counters)), ((hm 35), .inl (cy 1, 32, .inl c_digest_52)), ((hm 30), .inl (cy 1, 8, .inl c_h_53)), ((hm 12), .inl (cy 1, 16, .inl c_holder)), ((hm 36), .inl (cy 1, 32, .inl c_inner_54)), ((hm 25), .inl (cy 1, 32, .inl c_k)), ((hm 14), .inl (cy 1, 1024, .inl c_keys)), ((hm 9), .inl (cy 1, 16, .inl c_kind)), ((hm 10), .inl (cy 1, 16, .inl c_length)), ((hm 33), .inl (cy 1, 64, .inl c_message_55)), ((hm 44), .inl (cy 1, 16, .inl c_other)), ((hm 45), .inl (cy 1, 600, .inl c_result)), ((hm 41), .inl (cy 1, 240, .inl c_round_15)), ((hm 37), .inl (cy 1, 64, .inl c_secret_31)), ((hm 11), .inl (cy 1, 16, .inl c_usage)), ((hm 13), .inl (cy 1, 16, .inl c_uses_17)), ((hm 26), .inl (cy 1, 32, .inl c_v)), ((hm 31), .inl (cy 1, 64, .inl c_w_57)), ((hm 16), .inl (cy 1, 64, .inl c_word)), ((hm 32), .inl (cy 1, 8, .inl c_x_58))]) → va_S A s.heap H locs → lv_has ls 8 [(0, .ref h0), (3, .int p3), (7, .int i_60)] → GW H locs (F0 m 510 ls [])) hf ?_ H locs ls hP hD hS (lv_sub hl [1, 2, 0] rfl))
                clear hf hl hP hD hS
                intro self_66 ihself_66 z hf
                obtain ⟨i_60, c_buffer_61⟩ := z
                intro H locs ls hP hD hS hl
                refine hFr _ _ _ ?_
                unfold b_X10_run_510 at hf
                refine lv_iload (pc := 510) hx hb (zdt_at zt_X10_run_4 19 rfl) (lv_at hl 2 rfl) ?_
                refine lv_bipush (pc := 512) (v := (32 : Int32)) hx hb (zdt_at zt_X10_run_4 20 rfl) (by decide) ?_
                refine lv_icmp_ge (pc := 514) (tgt := 539) hx hb (zdt_at zt_X10_run_4 21 rfl) (by decide) (fun cn_ => ?t_67) (fun cn_ => ?f_68)
                case t_67 =>
                  replace hf := zt_s cn_ hf
                  clear cn_
                  exact hTo _ _ _ (kK_63 _ H locs ls hP hD hS (lv_sub hl [0] rfl) hf)
                replace hf := ze_s cn_ hf
                clear cn_
                refine lv_aload_n (pc := 517) hx hb (zdt_at zt_X10_run_4 22 rfl) rfl (lv_at hl 0 rfl) ?_
                refine va_get (pc := 518) (D := D) (ci := 12) (v := .ref (hm 6)) (C := RX10) (T := TX10) (N := 52) hx hb hts hcX10 hown hK hP 0 rfl rfl 6 (by decide) hw1 (fun _ h9 => h9) rfl (zdt_at zt_X10_run_4 23 rfl) ?_
                refine lv_iload_n (pc := 521) hx hb (zdt_at zt_X10_run_4 24 rfl) rfl (lv_at hl 1 rfl) ?_
                refine lv_iload (pc := 522) hx hb (zdt_at zt_X10_run_4 25 rfl) (lv_at hl 2 rfl) ?_
                refine lv_iadd (pc := 524) hx hb (zdt_at zt_X10_run_4 26 rfl) ?_
                refine lv_aload_n (pc := 525) hx hb (zdt_at zt_X10_run_4 27 rfl) rfl (lv_at hl 0 rfl) ?_
                refine va_get (pc := 526) (D := D) (ci := 12) (v := .ref (hm 35)) (C := RX10) (T := TX10) (N := 52) hx hb hts hcX10 hown hK hP 0 rfl rfl 35 (by decide) hw2 (fun _ h9 => h9) rfl (zdt_at zt_X10_run_4 28 rfl) ?_
                refine lv_iload (pc := 529) hx hb (zdt_at zt_X10_run_4 29 rfl) (lv_at hl 2 rfl) ?_
                replace hf := zk_s hf
                refine va_iald (pc := 531) hx hb hK hP 9 1 rfl rfl hf.1 (zdt_at zt_X10_run_4 30 rfl) ?_
                replace hf := hf.2
                replace hf := zk_s hf
                refine va_iast (pc := 532) hx hb hK hP hD hS 7 1 rfl rfl hf.1 (zdt_at zt_X10_run_4 31 rfl) ?_
                replace hf := hf.2
                clear hP hD hS
                intro H locs hP hD hS
                obtain ⟨c_buffer_69, e_⟩ : ∃ q : Nat → Int32, q = (upd c_buffer_61 (p3 + i_60).toNatClampNeg (c_digest_52 i_60.toNatClampNeg)) := ⟨_, rfl⟩
                replace hf := zn_s hf e_
                replace hP : va_P D vwCl ([(h0, .inr (12, zmo hm (0 : Int32) c_state c_test c_words c_ill c_before c_inRow c_first c_inWindow c_same c_made c_requests c_total_56 c_secrets_32 c_rounds_16 c_high c_low c_keyHigh c_keyLow)), ((hm 0), .inl (cy 1, 64, .inl c_ROUND)), ((hm 47), .inl (cy 1, 8, .inl c_START)), ((hm 40), .inl (cy 1, 256, .inl c_back)), ((hm 43), .inl (cy 1, 16, .inl c_block)), ((hm 46), .inl (cy 1, 512, .inl c_body)), ((hm 39), .inl (cy 1, 256, .inl c_box)), ((hm 6), .inl (cy 1, 512, .inl c_buffer_69)), ((hm 5), .inl (cy 1, 3, .inl c_counters)), ((hm 35), .inl (cy 1, 32, .inl c_digest_52)), ((hm 30), .inl (cy 1, 8, .inl c_h_53)), ((hm 12), .inl (cy 1, 16, .inl c_holder)), ((hm 36), .inl (cy 1, 32, .inl c_inner_54)), ((hm 25), .inl (cy 1, 32, .inl c_k)), ((hm 14), .inl (cy 1, 1024, .inl c_keys)), ((hm 9), .inl (cy 1, 16, .inl c_kind)), ((hm 10), .inl (cy 1, 16, .inl c_length)), ((hm 33), .inl (cy 1, 64, .inl c_message_55)), ((hm 44), .inl (cy 1, 16, .inl c_other)), ((hm 45), .inl (cy 1, 600, .inl c_result)), ((hm 41), .inl (cy 1, 240, .inl c_round_15)), ((hm 37), .inl (cy 1, 64, .inl c_secret_31)), ((hm 11), .inl (cy 1, 16, .inl c_usage)), ((hm 13), .inl (cy 1, 16, .inl c_uses_17)), ((hm 26), .inl (cy 1, 32, .inl c_v)), ((hm 31), .inl (cy 1, 64, .inl c_w_57)), ((hm 16), .inl (cy 1, 64, .inl c_word)), ((hm 32), .inl (cy 1, 8, .inl c_x_58))]) H := by rw [e_]; exact hP
                replace hD : va_D A ([(h0, .inr (12, zmo hm (0 : Int32) c_state c_test c_words c_ill c_before c_inRow c_first c_inWindow c_same c_made c_requests c_total_56 c_secrets_32 c_rounds_16 c_high c_low c_keyHigh c_keyLow)), ((hm 0), .inl (cy 1, 64, .inl c_ROUND)), ((hm 47), .inl (cy 1, 8, .inl c_START)), ((hm 40), .inl (cy 1, 256, .inl c_back)), ((hm 43), .inl (cy 1, 16, .inl c_block)), ((hm 46), .inl (cy 1, 512, .inl c_body)), ((hm 39), .inl (cy 1, 256, .inl c_box)), ((hm 6), .inl (cy 1, 512, .inl c_buffer_69)), ((hm 5), .inl (cy 1, 3, .inl c_counters)), ((hm 35), .inl (cy 1, 32, .inl c_digest_52)), ((hm 30), .inl (cy 1, 8, .inl c_h_53)), ((hm 12), .inl (cy 1, 16, .inl c_holder)), ((hm 36), .inl (cy 1, 32, .inl c_inner_54)), ((hm 25), .inl (cy 1, 32, .inl c_k)), ((hm 14), .inl (cy 1, 1024, .inl c_keys)), ((hm 9), .inl (cy 1, 16, .inl c_kind)), ((hm 10), .inl (cy 1, 16, .inl c_length)), ((hm 33), .inl (cy 1, 64, .inl c_message_55)), ((hm 44), .inl (cy 1, 16, .inl c_other)), ((hm 45), .inl (cy 1, 600, .inl c_result)), ((hm 41), .inl (cy 1, 240, .inl c_round_15)), ((hm 37), .inl (cy 1, 64, .inl c_secret_31)), ((hm 11), .inl (cy 1, 16, .inl c_usage)), ((hm 13), .inl (cy 1, 16, .inl c_uses_17)), ((hm 26), .inl (cy 1, 32, .inl c_v)), ((hm 31), .inl (cy 1, 64, .inl c_w_57)), ((hm 16), .inl (cy 1, 64, .inl c_word)), ((hm 32), .inl (cy 1, 8, .inl c_x_58))]) := by rw [e_]; exact hD
                clear e_
                refine lv_iinc (pc := 533) (v := (i_60 + (1 : Int32))) (lv' := [(7, .int (i_60 + (1 : Int32))), (0, .ref h0), (3, .int p3)]) hx hb (zdt_at zt_X10_run_4 32 rfl) hl (k := 2) rfl rfl (by decide) rfl ?_
                clear hl
                intro ls hl
                refine lv_goto (pc := 536) (tgt := 510) hx hb (zdt_at zt_X10_run_4 33 rfl) (by decide) ?_
                exact hTo _ _ _ (ihself_66 _ hf H locs ls hP hD hS (lv_sub hl [1, 2, 0] rfl))
              clear eK_59
              refine lv_icmp_ne (pc := 493) (tgt := 503) hx hb (zdt_at zt_X10_run_4 11 rfl) (by decide) (fun cn_ => ?t_70) (fun cn_ => ?f_71)
              case t_70 =>
                replace hf := ze_s cn_ hf
                clear cn_
                refine lv_aload_n (pc := 503) hx hb (zdt_at zt_X10_run_4 15 rfl) rfl (lv_at hl 0 rfl) ?_
                replace hf := zb_s hf
                obtain ⟨⟨c_total_72, c_digest_73, c_h_74, c_message_75, c_w_76, c_x_77⟩, hc_, hf⟩ := hf
                refine zcn2 (pc := 504) (rv := none) (va_runV (As := []) (rest := []) ⟨hx, hb, hml, hown, hts⟩ (c_X10_finish l D cy tt H.size h0 hm c_total_48 c_ROUND c_digest c_h_46 c_message_47 c_w_49 c_x_50 (0 : Int32) c_state c_test c_words c_ill c_before c_inRow c_first c_inWindow c_same c_made c_requests c_secrets_32 c_rounds_16 c_high c_low c_keyHigh c_keyLow c_total_72 c_digest_73 c_h_74 c_message_75 c_w_76 c_x_77 hc_) (cwV 0 hts gX10_run_X10_finish rfl rfl rfl (by decide +kernel) ⟨Nat.le_of_ble_eq_true rfl, Nat.le_of_ble_eq_true rfl⟩) ⟨zblind, va_recv hK hP (ci := 12) (q0 := 0) rfl rfl, zpre hE hS (hP.sub [0, 1, 9, 10, 17, 25, 27] rfl) (hD.sub [0, 1, 9, 10, 17, 25, 27] (by decide) rfl) (va_free hD hS hA [0, 1, 9, 10, 17, 25, 27] rfl)⟩ rfl rfl hl.1 rfl (lv_room (Nat.le_of_ble_eq_true rfl)) (zdt_at zt_X10_run_4 16 rfl) ⟨Nat.zero_le _, Nat.zero_le _⟩) hS hP hD (va_free hD hS hA [0, 1, 9, 10, 17, 25, 27] rfl) [0, 1, 9, 10, 17, 25, 27] rfl (by decide) rfl ?_
                clear hP hD hS hc_
                intro H locs hP hD hS
                replace hP : va_P D vwCl ([(h0, .inr (12, zmo hm (0 : Int32) c_state c_test c_words c_ill c_before c_inRow c_first c_inWindow c_same c_made c_requests c_total_72 c_secrets_32 c_rounds_16 c_high c_low c_keyHigh c_keyLow)), ((hm 0), .inl (cy 1, 64, .inl c_ROUND)), ((hm 47), .inl (cy 1, 8, .inl c_START)), ((hm 40), .inl (cy 1, 256, .inl c_back)), ((hm 43), .inl (cy 1, 16, .inl c_block)), ((hm 46), .inl (cy 1, 512, .inl c_body)), ((hm 39), .inl (cy 1, 256, .inl c_box)), ((hm 6), .inl (cy 1, 512, .inl c_buffer)), ((hm 5), .inl (cy 1, 3, .inl c_counters)), ((hm 35), .inl (cy 1, 32, .inl c_digest_73)), ((hm 30), .inl (cy 1, 8, .inl c_h_74)), ((hm 12), .inl (cy 1, 16, .inl c_holder)), ((hm 36), .inl (cy 1, 32, .inl c_inner)), ((hm 25), .inl (cy 1, 32, .inl c_k)), ((hm 14), .inl (cy 1, 1024, .inl c_keys)), ((hm 9), .inl (cy 1, 16, .inl c_kind)), ((hm 10), .inl (cy 1, 16, .inl c_length)), ((hm 33), .inl (cy 1, 64, .inl c_message_75)), ((hm 44), .inl (cy 1, 16, .inl c_other)), ((hm 45), .inl (cy 1, 600, .inl c_result)), ((hm 41), .inl (cy 1, 240, .inl c_round_15)), ((hm 37), .inl (cy 1, 64, .inl c_secret_31)), ((hm 11), .inl (cy 1, 16, .inl c_usage)), ((hm 13), .inl (cy 1, 16, .inl c_uses_17)), ((hm 26), .inl (cy 1, 32, .inl c_v)), ((hm 31), .inl (cy 1, 64, .inl c_w_76)), ((hm 16), .inl (cy 1, 64, .inl c_word)), ((hm 32), .inl (cy 1, 8, .inl c_x_77))]) H := hP
                replace hD : va_D A ([(h0, .inr (12, zmo hm (0 : Int32) c_state c_test c_words c_ill c_before c_inRow c_first c_inWindow c_same c_made c_requests c_total_72 c_secrets_32 c_rounds_16 c_high c_low c_keyHigh c_keyLow)), ((hm 0), .inl (cy 1, 64, .inl c_ROUND)), ((hm 47), .inl (cy 1, 8, .inl c_START)), ((hm 40), .inl (cy 1, 256, .inl c_back)), ((hm 43), .inl (cy 1, 16, .inl c_block)), ((hm 46), .inl (cy 1, 512, .inl c_body)), ((hm 39), .inl (cy 1, 256, .inl c_box)), ((hm 6), .inl (cy 1, 512, .inl c_buffer)), ((hm 5), .inl (cy 1, 3, .inl c_counters)), ((hm 35), .inl (cy 1, 32, .inl c_digest_73)), ((hm 30), .inl (cy 1, 8, .inl c_h_74)), ((hm 12), .inl (cy 1, 16, .inl c_holder)), ((hm 36), .inl (cy 1, 32, .inl c_inner)), ((hm 25), .inl (cy 1, 32, .inl c_k)), ((hm 14), .inl (cy 1, 1024, .inl c_keys)), ((hm 9), .inl (cy 1, 16, .inl c_kind)), ((hm 10), .inl (cy 1, 16, .inl c_length)), ((hm 33), .inl (cy 1, 64, .inl c_message_75)), ((hm 44), .inl (cy 1, 16, .inl c_other)), ((hm 45), .inl (cy 1, 600, .inl c_result)), ((hm 41), .inl (cy 1, 240, .inl c_round_15)), ((hm 37), .inl (cy 1, 64, .inl c_secret_31)), ((hm 11), .inl (cy 1, 16, .inl c_usage)), ((hm 13), .inl (cy 1, 16, .inl c_uses_17)), ((hm 26), .inl (cy 1, 32, .inl c_v)), ((hm 31), .inl (cy 1, 64, .inl c_w_76)), ((hm 16), .inl (cy 1, 64, .inl c_word)), ((hm 32), .inl (cy 1, 8, .inl c_x_77))]) := hD
                refine W.eq (g2 := F0 m 507 ls []) rfl ?_
                exact hTo _ _ _ (kK_59 _ _ _ _ _ _ _ H locs ls hP hD hS (lv_sub hl [0, 2] rfl) hf)
              replace hf := zt_s cn_ hf
              clear cn_
              refine lv_aload_n (pc := 496) hx hb (zdt_at zt_X10_run_4 12 rfl) rfl (lv_at hl 0 rfl) ?_
              replace hf := zb_s hf
              obtain ⟨⟨c_total_78, c_digest_79, c_h_80, c_inner_81, c_message_82, c_w_83, c_x_84⟩, hc_, hf⟩ := hf
              refine zcn2 (pc := 497) (rv := none) (va_runV (As := []) (rest := []) ⟨hx, hb, hml, hown, hts⟩ (c_X10_endMac l D cy tt H.size h0 hm c_secrets_32 c_total_48 c_ROUND c_START c_digest c_h_46 c_inner c_message_47 c_secret_31 c_w_49 c_x_50 (0 : Int32) c_state c_test c_words c_ill c_before c_inRow c_first c_inWindow c_same c_made c_requests c_rounds_16 c_high c_low c_keyHigh c_keyLow c_total_78 c_digest_79 c_h_80 c_inner_81 c_message_82 c_w_83 c_x_84 hc_) (cwV 0 hts gX10_run_X10_endMac rfl rfl rfl (by decide +kernel) ⟨Nat.le_of_ble_eq_true rfl, Nat.le_of_ble_eq_true rfl⟩) ⟨zblind, va_recv hK hP (ci := 12) (q0 := 0) rfl rfl, zpre hE hS (hP.sub [0, 1, 2, 9, 10, 12, 17, 21, 25, 27] rfl) (hD.sub [0, 1, 2, 9, 10, 12, 17, 21, 25, 27] (by decide) rfl) (va_free hD hS hA [0, 1, 2, 9, 10, 12, 17, 21, 25, 27] rfl)⟩ rfl rfl hl.1 rfl (lv_room (Nat.le_of_ble_eq_true rfl)) (zdt_at zt_X10_run_4 13 rfl) ⟨Nat.zero_le _, Nat.zero_le _⟩) hS hP hD (va_free hD hS hA [0, 1, 2, 9, 10, 12, 17, 21, 25, 27] rfl) [0, 1, 2, 9, 10, 12, 17, 21, 25, 27] rfl (by decide) rfl ?_
              clear hP hD hS hc_
              intro H locs hP hD hS
              replace hP : va_P D vwCl ([(h0, .inr (12, zmo hm (0 : Int32) c_state c_test c_words c_ill c_before c_inRow c_first c_inWindow c_same c_made c_requests c_total_78 c_secrets_32 c_rounds_16 c_high c_low c_keyHigh c_keyLow)), ((hm 0), .inl (cy 1, 64, .inl c_ROUND)), ((hm 47), .inl (cy 1, 8, .inl c_START)), ((hm 40), .inl (cy 1, 256, .inl c_back)), ((hm 43), .inl (cy 1, 16, .inl c_block)), ((hm 46), .inl (cy 1, 512, .inl c_body)), ((hm 39), .inl (cy 1, 256, .inl c_box)), ((hm 6), .inl (cy 1, 512, .inl c_buffer)), ((hm 5), .inl (cy 1, 3, .inl c_counters)), ((hm 35), .inl (cy 1, 32, .inl c_digest_79)), ((hm 30), .inl (cy 1, 8, .inl c_h_80)), ((hm 12), .inl (cy 1, 16, .inl c_holder)), ((hm 36), .inl (cy 1, 32, .inl c_inner_81)), ((hm 25), .inl (cy 1, 32, .inl c_k)), ((hm 14), .inl (cy 1, 1024, .inl c_keys)), ((hm 9), .inl (cy 1, 16, .inl c_kind)), ((hm 10), .inl (cy 1, 16, .inl c_length)), ((hm 33), .inl (cy 1, 64, .inl c_message_82)), ((hm 44), .inl (cy 1, 16, .inl c_other)), ((hm 45), .inl (cy 1, 600, .inl c_result)), ((hm 41), .inl (cy 1, 240, .inl c_round_15)), ((hm 37), .inl (cy 1, 64, .inl c_secret_31)), ((hm 11), .inl (cy 1, 16, .inl c_usage)), ((hm 13), .inl (cy 1, 16, .inl c_uses_17)), ((hm 26), .inl (cy 1, 32, .inl c_v)), ((hm 31), .inl (cy 1, 64, .inl c_w_83)), ((hm 16), .inl (cy 1, 64, .inl c_word)), ((hm 32), .inl (cy 1, 8, .inl c_x_84))]) H := hP
              replace hD : va_D A ([(h0, .inr (12, zmo hm (0 : Int32) c_state c_test c_words c_ill c_before c_inRow c_first c_inWindow c_same c_made c_requests c_total_78 c_secrets_32 c_rounds_16 c_high c_low c_keyHigh c_keyLow)), ((hm 0), .inl (cy 1, 64, .inl c_ROUND)), ((hm 47), .inl (cy 1, 8, .inl c_START)), ((hm 40), .inl (cy 1, 256, .inl c_back)), ((hm 43), .inl (cy 1, 16, .inl c_block)), ((hm 46), .inl (cy 1, 512, .inl c_body)), ((hm 39), .inl (cy 1, 256, .inl c_box)), ((hm 6), .inl (cy 1, 512, .inl c_buffer)), ((hm 5), .inl (cy 1, 3, .inl c_counters)), ((hm 35), .inl (cy 1, 32, .inl c_digest_79)), ((hm 30), .inl (cy 1, 8, .inl c_h_80)), ((hm 12), .inl (cy 1, 16, .inl c_holder)), ((hm 36), .inl (cy 1, 32, .inl c_inner_81)), ((hm 25), .inl (cy 1, 32, .inl c_k)), ((hm 14), .inl (cy 1, 1024, .inl c_keys)), ((hm 9), .inl (cy 1, 16, .inl c_kind)), ((hm 10), .inl (cy 1, 16, .inl c_length)), ((hm 33), .inl (cy 1, 64, .inl c_message_82)), ((hm 44), .inl (cy 1, 16, .inl c_other)), ((hm 45), .inl (cy 1, 600, .inl c_result)), ((hm 41), .inl (cy 1, 240, .inl c_round_15)), ((hm 37), .inl (cy 1, 64, .inl c_secret_31)), ((hm 11), .inl (cy 1, 16, .inl c_usage)), ((hm 13), .inl (cy 1, 16, .inl c_uses_17)), ((hm 26), .inl (cy 1, 32, .inl c_v)), ((hm 31), .inl (cy 1, 64, .inl c_w_83)), ((hm 16), .inl (cy 1, 64, .inl c_word)), ((hm 32), .inl (cy 1, 8, .inl c_x_84))]) := hD
              refine W.eq (g2 := F0 m 500 ls []) rfl ?_
              refine lv_goto (pc := 500) (tgt := 507) hx hb (zdt_at zt_X10_run_4 14 rfl) (by decide) ?_
              exact hTo _ _ _ (kK_59 _ _ _ _ _ _ _ H locs ls hP hD hS (lv_sub hl [0, 2] rfl) hf)
            clear eK_51
            refine hTo _ _ _ (zl_go (fun z => match z with | (i_40, c_h_41, c_message_42, c_total_43, c_w_44, c_x_45) => ∀ (H : Heap) (locs : List Loc) (ls : Array Slot), va_P D vwCl ([(h0, .inr (12, zmo hm (0 : Int32) c_state c_test c_words c_ill c_before c_inRow c_first c_inWindow c_same c_made c_requests c_total_43 c_secrets_32 c_rounds_16 c_high c_low c_keyHigh c_keyLow)), ((hm 0), .inl (cy 1, 64, .inl c_ROUND)), ((hm 47), .inl (cy 1, 8, .inl c_START)), ((hm 40), .inl (cy 1, 256, .inl c_back)), ((hm 43), .inl (cy 1, 16, .inl c_block)), ((hm 46), .inl (cy 1, 512, .inl c_body)), ((hm 39), .inl (cy 1, 256, .inl c_box)), ((hm 6), .inl (cy 1, 512, .inl c_buffer)), ((hm 5), .inl (cy 1, 3, .inl c_counters)), ((hm 35), .inl (cy 1, 32, .inl c_digest)), ((hm 30), .inl (cy 1, 8, .inl c_h_41)), ((hm 12), .inl (cy 1, 16, .inl c_holder)), ((hm 36), .inl (cy 1, 32, .inl c_inner)), ((hm 25), .inl (cy 1, 32, .inl c_k)), ((hm 14), .inl (cy 1, 1024, .inl c_keys)), ((hm 9), .inl (cy 1, 16, .inl c_kind)), ((hm 10), .inl (cy 1, 16, .inl c_length)), ((hm 33), .inl (cy 1, 64, .inl c_message_42)), ((hm 44), .inl (cy 1, 16, .inl c_other)), ((hm 45), .inl (cy 1, 600, .inl c_result)), ((hm 41), .inl (cy 1, 240, .inl c_round_15)), ((hm 37), .inl (cy 1, 64, .inl c_secret_31)), ((hm 11), .inl (cy 1, 16, .inl c_usage)), ((hm 13), .inl (cy 1, 16, .inl c_uses_17)), ((hm 26), .inl (cy 1, 32, .inl c_v)), ((hm 31), .inl (cy 1, 64, .inl c_w_44)), ((hm 16), .inl (cy 1, 64, .inl c_word)), ((hm 32), .inl (cy 1, 8, .inl c_x_45))]) H → va_D A ([(h0, .inr (12, zmo hm (0 : Int32) c_state c_test c_words c_ill c_before c_inRow c_first c_inWindow c_same c_made c_requests c_total_43 c_secrets_32 c_rounds_16 c_high c_low c_keyHigh c_keyLow)), ((hm 0), .inl (cy 1, 64, .inl c_ROUND)), ((hm 47), .inl (cy 1, 8, .inl c_START)), ((hm 40), .inl (cy 1, 256, .inl c_back)), ((hm 43), .inl (cy 1, 16, .inl c_block)), ((hm 46), .inl (cy 1, 512, .inl c_body)), ((hm 39), .inl (cy 1, 256, .inl c_box)), ((hm 6), .inl (cy 1, 512, .inl c_buffer)), ((hm 5), .inl (cy 1, 3, .inl c_counters)), ((hm 35), .inl (cy 1, 32, .inl c_digest)), ((hm 30), .inl (cy 1, 8, .inl c_h_41)), ((hm 12), .inl (cy 1, 16, .inl c_holder)), ((hm 36), .inl (cy 1, 32, .inl c_inner)), ((hm 25), .inl (cy 1, 32, .inl c_k)), ((hm 14), .inl (cy 1, 1024, .inl c_keys)), ((hm 9), .inl (cy 1, 16, .inl c_kind)), ((hm 10), .inl (cy 1, 16, .inl c_length)), ((hm 33), .inl (cy 1, 64, .inl c_message_42)), ((hm 44), .inl (cy 1, 16, .inl c_other)), ((hm 45), .inl (cy 1, 600, .inl c_result)), ((hm 41), .inl (cy 1, 240, .inl c_round_15)), ((hm 37), .inl (cy 1, 64, .inl c_secret_31)), ((hm 11), .inl (cy 1, 16, .inl c_usage)), ((hm 13), .inl (cy 1, 16, .inl c_uses_17)), ((hm 26), .inl (cy 1, 32, .inl c_v)), ((hm 31), .inl (cy 1, 64, .inl c_w_44)), ((hm 16), .inl (cy 1, 64, .inl c_word)), ((hm 32), .inl (cy 1, 8, .inl c_x_45))]) → va_S A s.heap H locs → lv_has ls 8 [(0, .ref h0), (1, .int p1), (3, .int p3), (4, .int p4), (7, .int i_40)] → GW H locs (F0 m 464 ls [])) hf ?_ H locs ls hP hD hS (lv_sub hl [1, 2, 3, 4, 0] rfl))
            clear hf hl hP hD hS
            intro self_85 ihself_85 z hf
            obtain ⟨i_40, c_h_41, c_message_42, c_total_43, c_w_44, c_x_45⟩ := z
            intro H locs ls hP hD hS hl
            refine hFr _ _ _ ?_
            unfold b_X10_run_464 at hf
            refine lv_iload (pc := 464) hx hb (zdt_at zt_X10_run_3 60 rfl) (lv_at hl 4 rfl) ?_
            refine lv_iload (pc := 466) hx hb (zdt_at zt_X10_run_3 61 rfl) (lv_at hl 3 rfl) ?_
            refine lv_icmp_ge (pc := 468) (tgt := 490) hx hb (zdt_at zt_X10_run_3 62 rfl) (by decide) (fun cn_ => ?t_86) (fun cn_ => ?f_87)
            case t_86 =>
              replace hf := zt_s cn_ hf
              clear cn_
              exact hTo _ _ _ (kK_51 _ _ _ _ _ H locs ls hP hD hS (lv_sub hl [0, 1, 2] rfl) hf)
            replace hf := ze_s cn_ hf
            clear cn_
            refine lv_aload_n (pc := 471) hx hb (zdt_at zt_X10_run_3 63 rfl) rfl (lv_at hl 0 rfl) ?_
            refine lv_aload_n (pc := 472) hx hb (zdt_at zt_X10_run_4 0 rfl) rfl (lv_at hl 0 rfl) ?_
            refine va_get (pc := 473) (D := D) (ci := 12) (v := .ref (hm 6)) (C := RX10) (T := TX10) (N := 52) hx hb hts hcX10 hown hK hP 0 rfl rfl 6 (by decide) hw1 (fun _ h9 => h9) rfl (zdt_at zt_X10_run_4 1 rfl) ?_
            refine lv_iload_n (pc := 476) hx hb (zdt_at zt_X10_run_4 2 rfl) rfl (lv_at hl 2 rfl) ?_
            refine lv_iload (pc := 477) hx hb (zdt_at zt_X10_run_4 3 rfl) (lv_at hl 4 rfl) ?_
            refine lv_iadd (pc := 479) hx hb (zdt_at zt_X10_run_4 4 rfl) ?_
            replace hf := zk_s hf
            refine va_iald (pc := 480) hx hb hK hP 7 1 rfl rfl hf.1 (zdt_at zt_X10_run_4 5 rfl) ?_
            replace hf := hf.2
            replace hf := zb_s hf
            obtain ⟨⟨c_total_88, c_h_89, c_message_90, c_w_91, c_x_92⟩, hc_, hf⟩ := hf
            refine zcn2 (pc := 481) (rv := none) (va_runV (As := [.int (c_buffer (p3 + i_40).toNatClampNeg)]) (rest := []) ⟨hx, hb, hml, hown, hts⟩ (c_X10_say l D cy tt H.size h0 hm (c_buffer (p3 + i_40).toNatClampNeg) c_total_43 c_ROUND c_h_41 c_message_42 c_w_44 c_x_45 (0 : Int32) c_state c_test c_words c_ill c_before c_inRow c_first c_inWindow c_same c_made c_requests c_secrets_32 c_rounds_16 c_high c_low c_keyHigh c_keyLow c_total_88 c_h_89 c_message_90 c_w_91 c_x_92 hc_) (cwV 1 hts gX10_run_X10_say rfl rfl rfl (by decide +kernel) ⟨Nat.le_of_ble_eq_true rfl, Nat.le_of_ble_eq_true rfl⟩) ⟨zblind, va_recv hK hP (ci := 12) (q0 := 0) rfl rfl, zpre hE hS (hP.sub [0, 1, 10, 17, 25, 27] rfl) (hD.sub [0, 1, 10, 17, 25, 27] (by decide) rfl) (va_free hD hS hA [0, 1, 10, 17, 25, 27] rfl)⟩ rfl rfl hl.1 rfl (lv_room (Nat.le_of_ble_eq_true rfl)) (zdt_at zt_X10_run_4 6 rfl) ⟨Nat.zero_le _, Nat.zero_le _⟩) hS hP hD (va_free hD hS hA [0, 1, 10, 17, 25, 27] rfl) [0, 1, 10, 17, 25, 27] rfl (by decide) rfl ?_
            clear hP hD hS hc_
            intro H locs hP hD hS
            replace hP : va_P D vwCl ([(h0, .inr (12, zmo hm (0 : Int32) c_state c_test c_words c_ill c_before c_inRow c_first c_inWindow c_same c_made c_requests c_total_88 c_secrets_32 c_rounds_16 c_high c_low c_keyHigh c_keyLow)), ((hm 0), .inl (cy 1, 64, .inl c_ROUND)), ((hm 47), .inl (cy 1, 8, .inl c_START)), ((hm 40), .inl (cy 1, 256, .inl c_back)), ((hm 43), .inl (cy 1, 16, .inl c_block)), ((hm 46), .inl (cy 1, 512, .inl c_body)), ((hm 39), .inl (cy 1, 256, .inl c_box)), ((hm 6), .inl (cy 1, 512, .inl c_buffer)), ((hm 5), .inl (cy 1, 3, .inl c_counters)), ((hm 35), .inl (cy 1, 32, .inl c_digest)), ((hm 30), .inl (cy 1, 8, .inl c_h_89)), ((hm 12), .inl (cy 1, 16, .inl c_holder)), ((hm 36), .inl (cy 1, 32, .inl c_inner)), ((hm 25), .inl (cy 1, 32, .inl c_k)), ((hm 14), .inl (cy 1, 1024, .inl c_keys)), ((hm 9), .inl (cy 1, 16, .inl c_kind)), ((hm 10), .inl (cy 1, 16, .inl c_length)), ((hm 33), .inl (cy 1, 64, .inl c_message_90)), ((hm 44), .inl (cy 1, 16, .inl c_other)), ((hm 45), .inl (cy 1, 600, .inl c_result)), ((hm 41), .inl (cy 1, 240, .inl c_round_15)), ((hm 37), .inl (cy 1, 64, .inl c_secret_31)), ((hm 11), .inl (cy 1, 16, .inl c_usage)), ((hm 13), .inl (cy 1, 16, .inl c_uses_17)), ((hm 26), .inl (cy 1, 32, .inl c_v)), ((hm 31), .inl (cy 1, 64, .inl c_w_91)), ((hm 16), .inl (cy 1, 64, .inl c_word)), ((hm 32), .inl (cy 1, 8, .inl c_x_92))]) H := hP
            replace hD : va_D A ([(h0, .inr (12, zmo hm (0 : Int32) c_state c_test c_words c_ill c_before c_inRow c_first c_inWindow c_same c_made c_requests c_total_88 c_secrets_32 c_rounds_16 c_high c_low c_keyHigh c_keyLow)), ((hm 0), .inl (cy 1, 64, .inl c_ROUND)), ((hm 47), .inl (cy 1, 8, .inl c_START)), ((hm 40), .inl (cy 1, 256, .inl c_back)), ((hm 43), .inl (cy 1, 16, .inl c_block)), ((hm 46), .inl (cy 1, 512, .inl c_body)), ((hm 39), .inl (cy 1, 256, .inl c_box)), ((hm 6), .inl (cy 1, 512, .inl c_buffer)), ((hm 5), .inl (cy 1, 3, .inl c_counters)), ((hm 35), .inl (cy 1, 32, .inl c_digest)), ((hm 30), .inl (cy 1, 8, .inl c_h_89)), ((hm 12), .inl (cy 1, 16, .inl c_holder)), ((hm 36), .inl (cy 1, 32, .inl c_inner)), ((hm 25), .inl (cy 1, 32, .inl c_k)), ((hm 14), .inl (cy 1, 1024, .inl c_keys)), ((hm 9), .inl (cy 1, 16, .inl c_kind)), ((hm 10), .inl (cy 1, 16, .inl c_length)), ((hm 33), .inl (cy 1, 64, .inl c_message_90)), ((hm 44), .inl (cy 1, 16, .inl c_other)), ((hm 45), .inl (cy 1, 600, .inl c_result)), ((hm 41), .inl (cy 1, 240, .inl c_round_15)), ((hm 37), .inl (cy 1, 64, .inl c_secret_31)), ((hm 11), .inl (cy 1, 16, .inl c_usage)), ((hm 13), .inl (cy 1, 16, .inl c_uses_17)), ((hm 26), .inl (cy 1, 32, .inl c_v)), ((hm 31), .inl (cy 1, 64, .inl c_w_91)), ((hm 16), .inl (cy 1, 64, .inl c_word)), ((hm 32), .inl (cy 1, 8, .inl c_x_92))]) := hD
            refine W.eq (g2 := F0 m 484 ls []) rfl ?_
            refine lv_iinc (pc := 484) (v := (i_40 + (1 : Int32))) (lv' := [(7, .int (i_40 + (1 : Int32))), (0, .ref h0), (1, .int p1), (3, .int p3), (4, .int p4)]) hx hb (zdt_at zt_X10_run_4 7 rfl) hl (k := 4) rfl rfl (by decide) rfl ?_
            clear hl
            intro ls hl
            refine lv_goto (pc := 487) (tgt := 464) hx hb (zdt_at zt_X10_run_4 8 rfl) (by decide) ?_
            exact hTo _ _ _ (ihself_85 _ hf H locs ls hP hD hS (lv_sub hl [1, 2, 3, 4, 0] rfl))
          clear eK_39
          refine lv_icmp_ne (pc := 447) (tgt := 457) hx hb (zdt_at zt_X10_run_3 52 rfl) (by decide) (fun cn_ => ?t_93) (fun cn_ => ?f_94)
          case t_93 =>
            replace hf := ze_s cn_ hf
            clear cn_
            refine lv_aload_n (pc := 457) hx hb (zdt_at zt_X10_run_3 56 rfl) rfl (lv_at hl 0 rfl) ?_
            replace hf := zb_s hf
            obtain ⟨⟨c_total_95, c_h_96⟩, hc_, hf⟩ := hf
            refine zcn2 (pc := 458) (rv := none) (va_runV (As := []) (rest := []) ⟨hx, hb, hml, hown, hts⟩ (c_X10_start l D cy tt H.size h0 hm c_total c_START c_h (0 : Int32) c_state c_test c_words c_ill c_before c_inRow c_first c_inWindow c_same c_made c_requests c_secrets_32 c_rounds_16 c_high c_low c_keyHigh c_keyLow c_total_95 c_h_96 hc_) (cwV 0 hts gX10_run_X10_start rfl rfl rfl (by decide +kernel) ⟨Nat.le_of_ble_eq_true rfl, Nat.le_of_ble_eq_true rfl⟩) ⟨zblind, va_recv hK hP (ci := 12) (q0 := 0) rfl rfl, zpre hE hS (hP.sub [0, 2, 10] rfl) (hD.sub [0, 2, 10] (by decide) rfl) (va_free hD hS hA [0, 2, 10] rfl)⟩ rfl rfl hl.1 rfl (lv_room (Nat.le_of_ble_eq_true rfl)) (zdt_at zt_X10_run_3 57 rfl) ⟨Nat.zero_le _, Nat.zero_le _⟩) hS hP hD (va_free hD hS hA [0, 2, 10] rfl) [0, 2, 10] rfl (by decide) rfl ?_
            clear hP hD hS hc_
            intro H locs hP hD hS
            replace hP : va_P D vwCl ([(h0, .inr (12, zmo hm (0 : Int32) c_state c_test c_words c_ill c_before c_inRow c_first c_inWindow c_same c_made c_requests c_total_95 c_secrets_32 c_rounds_16 c_high c_low c_keyHigh c_keyLow)), ((hm 0), .inl (cy 1, 64, .inl c_ROUND)), ((hm 47), .inl (cy 1, 8, .inl c_START)), ((hm 40), .inl (cy 1, 256, .inl c_back)), ((hm 43), .inl (cy 1, 16, .inl c_block)), ((hm 46), .inl (cy 1, 512, .inl c_body)), ((hm 39), .inl (cy 1, 256, .inl c_box)), ((hm 6), .inl (cy 1, 512, .inl c_buffer)), ((hm 5), .inl (cy 1, 3, .inl c_counters)), ((hm 35), .inl (cy 1, 32, .inl c_digest)), ((hm 30), .inl (cy 1, 8, .inl c_h_96)), ((hm 12), .inl (cy 1, 16, .inl c_holder)), ((hm 36), .inl (cy 1, 32, .inl c_inner)), ((hm 25), .inl (cy 1, 32, .inl c_k)), ((hm 14), .inl (cy 1, 1024, .inl c_keys)), ((hm 9), .inl (cy 1, 16, .inl c_kind)), ((hm 10), .inl (cy 1, 16, .inl c_length)), ((hm 33), .inl (cy 1, 64, .inl c_message)), ((hm 44), .inl (cy 1, 16, .inl c_other)), ((hm 45), .inl (cy 1, 600, .inl c_result)), ((hm 41), .inl (cy 1, 240, .inl c_round_15)), ((hm 37), .inl (cy 1, 64, .inl c_secret_31)), ((hm 11), .inl (cy 1, 16, .inl c_usage)), ((hm 13), .inl (cy 1, 16, .inl c_uses_17)), ((hm 26), .inl (cy 1, 32, .inl c_v)), ((hm 31), .inl (cy 1, 64, .inl c_w)), ((hm 16), .inl (cy 1, 64, .inl c_word)), ((hm 32), .inl (cy 1, 8, .inl c_x))]) H := hP
            replace hD : va_D A ([(h0, .inr (12, zmo hm (0 : Int32) c_state c_test c_words c_ill c_before c_inRow c_first c_inWindow c_same c_made c_requests c_total_95 c_secrets_32 c_rounds_16 c_high c_low c_keyHigh c_keyLow)), ((hm 0), .inl (cy 1, 64, .inl c_ROUND)), ((hm 47), .inl (cy 1, 8, .inl c_START)), ((hm 40), .inl (cy 1, 256, .inl c_back)), ((hm 43), .inl (cy 1, 16, .inl c_block)), ((hm 46), .inl (cy 1, 512, .inl c_body)), ((hm 39), .inl (cy 1, 256, .inl c_box)), ((hm 6), .inl (cy 1, 512, .inl c_buffer)), ((hm 5), .inl (cy 1, 3, .inl c_counters)), ((hm 35), .inl (cy 1, 32, .inl c_digest)), ((hm 30), .inl (cy 1, 8, .inl c_h_96)), ((hm 12), .inl (cy 1, 16, .inl c_holder)), ((hm 36), .inl (cy 1, 32, .inl c_inner)), ((hm 25), .inl (cy 1, 32, .inl c_k)), ((hm 14), .inl (cy 1, 1024, .inl c_keys)), ((hm 9), .inl (cy 1, 16, .inl c_kind)), ((hm 10), .inl (cy 1, 16, .inl c_length)), ((hm 33), .inl (cy 1, 64, .inl c_message)), ((hm 44), .inl (cy 1, 16, .inl c_other)), ((hm 45), .inl (cy 1, 600, .inl c_result)), ((hm 41), .inl (cy 1, 240, .inl c_round_15)), ((hm 37), .inl (cy 1, 64, .inl c_secret_31)), ((hm 11), .inl (cy 1, 16, .inl c_usage)), ((hm 13), .inl (cy 1, 16, .inl c_uses_17)), ((hm 26), .inl (cy 1, 32, .inl c_v)), ((hm 31), .inl (cy 1, 64, .inl c_w)), ((hm 16), .inl (cy 1, 64, .inl c_word)), ((hm 32), .inl (cy 1, 8, .inl c_x))]) := hD
            refine W.eq (g2 := F0 m 461 ls []) rfl ?_
            exact hTo _ _ _ (kK_39 _ _ _ _ _ H locs ls hP hD hS (lv_sub hl [0, 1, 2, 3] rfl) hf)
          replace hf := zt_s cn_ hf
          clear cn_
          refine lv_aload_n (pc := 450) hx hb (zdt_at zt_X10_run_3 53 rfl) rfl (lv_at hl 0 rfl) ?_
          replace hf := zb_s hf
          obtain ⟨⟨c_total_97, c_h_98, c_message_99, c_w_100, c_x_101⟩, hc_, hf⟩ := hf
          refine zcn2 (pc := 451) (rv := none) (va_runV (As := []) (rest := []) ⟨hx, hb, hml, hown, hts⟩ (c_X10_beginMac l D cy tt H.size h0 hm c_secrets_32 c_total c_ROUND c_START c_h c_message c_secret_31 c_w c_x (0 : Int32) c_state c_test c_words c_ill c_before c_inRow c_first c_inWindow c_same c_made c_requests c_rounds_16 c_high c_low c_keyHigh c_keyLow c_total_97 c_h_98 c_message_99 c_w_100 c_x_101 hc_) (cwV 0 hts gX10_run_X10_beginMac rfl rfl rfl (by decide +kernel) ⟨Nat.le_of_ble_eq_true rfl, Nat.le_of_ble_eq_true rfl⟩) ⟨zblind, va_recv hK hP (ci := 12) (q0 := 0) rfl rfl, zpre hE hS (hP.sub [0, 1, 2, 10, 17, 21, 25, 27] rfl) (hD.sub [0, 1, 2, 10, 17, 21, 25, 27] (by decide) rfl) (va_free hD hS hA [0, 1, 2, 10, 17, 21, 25, 27] rfl)⟩ rfl rfl hl.1 rfl (lv_room (Nat.le_of_ble_eq_true rfl)) (zdt_at zt_X10_run_3 54 rfl) ⟨Nat.zero_le _, Nat.zero_le _⟩) hS hP hD (va_free hD hS hA [0, 1, 2, 10, 17, 21, 25, 27] rfl) [0, 1, 2, 10, 17, 21, 25, 27] rfl (by decide) rfl ?_
          clear hP hD hS hc_
          intro H locs hP hD hS
          replace hP : va_P D vwCl ([(h0, .inr (12, zmo hm (0 : Int32) c_state c_test c_words c_ill c_before c_inRow c_first c_inWindow c_same c_made c_requests c_total_97 c_secrets_32 c_rounds_16 c_high c_low c_keyHigh c_keyLow)), ((hm 0), .inl (cy 1, 64, .inl c_ROUND)), ((hm 47), .inl (cy 1, 8, .inl c_START)), ((hm 40), .inl (cy 1, 256, .inl c_back)), ((hm 43), .inl (cy 1, 16, .inl c_block)), ((hm 46), .inl (cy 1, 512, .inl c_body)), ((hm 39), .inl (cy 1, 256, .inl c_box)), ((hm 6), .inl (cy 1, 512, .inl c_buffer)), ((hm 5), .inl (cy 1, 3, .inl c_counters)), ((hm 35), .inl (cy 1, 32, .inl c_digest)), ((hm 30), .inl (cy 1, 8, .inl c_h_98)), ((hm 12), .inl (cy 1, 16, .inl c_holder)), ((hm 36), .inl (cy 1, 32, .inl c_inner)), ((hm 25), .inl (cy 1, 32, .inl c_k)), ((hm 14), .inl (cy 1, 1024, .inl c_keys)), ((hm 9), .inl (cy 1, 16, .inl c_kind)), ((hm 10), .inl (cy 1, 16, .inl c_length)), ((hm 33), .inl (cy 1, 64, .inl c_message_99)), ((hm 44), .inl (cy 1, 16, .inl c_other)), ((hm 45), .inl (cy 1, 600, .inl c_result)), ((hm 41), .inl (cy 1, 240, .inl c_round_15)), ((hm 37), .inl (cy 1, 64, .inl c_secret_31)), ((hm 11), .inl (cy 1, 16, .inl c_usage)), ((hm 13), .inl (cy 1, 16, .inl c_uses_17)), ((hm 26), .inl (cy 1, 32, .inl c_v)), ((hm 31), .inl (cy 1, 64, .inl c_w_100)), ((hm 16), .inl (cy 1, 64, .inl c_word)), ((hm 32), .inl (cy 1, 8, .inl c_x_101))]) H := hP
          replace hD : va_D A ([(h0, .inr (12, zmo hm (0 : Int32) c_state c_test c_words c_ill c_before c_inRow c_first c_inWindow c_same c_made c_requests c_total_97 c_secrets_32 c_rounds_16 c_high c_low c_keyHigh c_keyLow)), ((hm 0), .inl (cy 1, 64, .inl c_ROUND)), ((hm 47), .inl (cy 1, 8, .inl c_START)), ((hm 40), .inl (cy 1, 256, .inl c_back)), ((hm 43), .inl (cy 1, 16, .inl c_block)), ((hm 46), .inl (cy 1, 512, .inl c_body)), ((hm 39), .inl (cy 1, 256, .inl c_box)), ((hm 6), .inl (cy 1, 512, .inl c_buffer)), ((hm 5), .inl (cy 1, 3, .inl c_counters)), ((hm 35), .inl (cy 1, 32, .inl c_digest)), ((hm 30), .inl (cy 1, 8, .inl c_h_98)), ((hm 12), .inl (cy 1, 16, .inl c_holder)), ((hm 36), .inl (cy 1, 32, .inl c_inner)), ((hm 25), .inl (cy 1, 32, .inl c_k)), ((hm 14), .inl (cy 1, 1024, .inl c_keys)), ((hm 9), .inl (cy 1, 16, .inl c_kind)), ((hm 10), .inl (cy 1, 16, .inl c_length)), ((hm 33), .inl (cy 1, 64, .inl c_message_99)), ((hm 44), .inl (cy 1, 16, .inl c_other)), ((hm 45), .inl (cy 1, 600, .inl c_result)), ((hm 41), .inl (cy 1, 240, .inl c_round_15)), ((hm 37), .inl (cy 1, 64, .inl c_secret_31)), ((hm 11), .inl (cy 1, 16, .inl c_usage)), ((hm 13), .inl (cy 1, 16, .inl c_uses_17)), ((hm 26), .inl (cy 1, 32, .inl c_v)), ((hm 31), .inl (cy 1, 64, .inl c_w_100)), ((hm 16), .inl (cy 1, 64, .inl c_word)), ((hm 32), .inl (cy 1, 8, .inl c_x_101))]) := hD
          refine W.eq (g2 := F0 m 454 ls []) rfl ?_
          refine lv_goto (pc := 454) (tgt := 461) hx hb (zdt_at zt_X10_run_3 55 rfl) (by decide) ?_
          exact hTo _ _ _ (kK_39 _ _ _ _ _ H locs ls hP hD hS (lv_sub hl [0, 1, 2, 3] rfl) hf)
        clear eK_33
        refine lv_icmp_ne (pc := 436) (tgt := 444) hx hb (zdt_at zt_X10_run_3 46 rfl) (by decide) (fun cn_ => ?t_102) (fun cn_ => ?f_103)
        case t_102 =>
          replace hf := ze_s cn_ hf
          clear cn_
          exact hTo _ _ _ (kK_33 _ _ H locs ls hP hD hS (lv_sub hl [0, 1, 3, 4] rfl) hf)
        replace hf := zt_s cn_ hf
        clear cn_
        refine lv_aload_n (pc := 439) hx hb (zdt_at zt_X10_run_3 47 rfl) rfl (lv_at hl 0 rfl) ?_
        refine lv_iload_n (pc := 440) hx hb (zdt_at zt_X10_run_3 48 rfl) rfl (lv_at hl 2 rfl) ?_
        replace hf := zb_s hf
        obtain ⟨⟨c_secrets_104, c_secret_105⟩, hc_, hf⟩ := hf
        refine zcn2 (pc := 441) (rv := none) (va_runV (As := [.int p2]) (rest := []) ⟨hx, hb, hml, hown, hts⟩ (c_X10_secretOf l D cy tt H.size h0 hm p2 c_secrets c_keys c_length c_secret (0 : Int32) c_state c_test c_words c_ill c_before c_inRow c_first c_inWindow c_same c_made c_requests c_total c_rounds_16 c_high c_low c_keyHigh c_keyLow c_secrets_104 c_secret_105 hc_) (cwV 1 hts gX10_run_X10_secretOf rfl rfl rfl (by decide +kernel) ⟨Nat.le_of_ble_eq_true rfl, Nat.le_of_ble_eq_true rfl⟩) ⟨zblind, va_recv hK hP (ci := 12) (q0 := 0) rfl rfl, zpre hE hS (hP.sub [0, 14, 16, 21] rfl) (hD.sub [0, 14, 16, 21] (by decide) rfl) (va_free hD hS hA [0, 14, 16, 21] rfl)⟩ rfl rfl hl.1 rfl (lv_room (Nat.le_of_ble_eq_true rfl)) (zdt_at zt_X10_run_3 49 rfl) ⟨Nat.zero_le _, Nat.zero_le _⟩) hS hP hD (va_free hD hS hA [0, 14, 16, 21] rfl) [0, 14, 16, 21] rfl (by decide) rfl ?_
        clear hP hD hS hc_
        intro H locs hP hD hS
        replace hP : va_P D vwCl ([(h0, .inr (12, zmo hm (0 : Int32) c_state c_test c_words c_ill c_before c_inRow c_first c_inWindow c_same c_made c_requests c_total c_secrets_104 c_rounds_16 c_high c_low c_keyHigh c_keyLow)), ((hm 0), .inl (cy 1, 64, .inl c_ROUND)), ((hm 47), .inl (cy 1, 8, .inl c_START)), ((hm 40), .inl (cy 1, 256, .inl c_back)), ((hm 43), .inl (cy 1, 16, .inl c_block)), ((hm 46), .inl (cy 1, 512, .inl c_body)), ((hm 39), .inl (cy 1, 256, .inl c_box)), ((hm 6), .inl (cy 1, 512, .inl c_buffer)), ((hm 5), .inl (cy 1, 3, .inl c_counters)), ((hm 35), .inl (cy 1, 32, .inl c_digest)), ((hm 30), .inl (cy 1, 8, .inl c_h)), ((hm 12), .inl (cy 1, 16, .inl c_holder)), ((hm 36), .inl (cy 1, 32, .inl c_inner)), ((hm 25), .inl (cy 1, 32, .inl c_k)), ((hm 14), .inl (cy 1, 1024, .inl c_keys)), ((hm 9), .inl (cy 1, 16, .inl c_kind)), ((hm 10), .inl (cy 1, 16, .inl c_length)), ((hm 33), .inl (cy 1, 64, .inl c_message)), ((hm 44), .inl (cy 1, 16, .inl c_other)), ((hm 45), .inl (cy 1, 600, .inl c_result)), ((hm 41), .inl (cy 1, 240, .inl c_round_15)), ((hm 37), .inl (cy 1, 64, .inl c_secret_105)), ((hm 11), .inl (cy 1, 16, .inl c_usage)), ((hm 13), .inl (cy 1, 16, .inl c_uses_17)), ((hm 26), .inl (cy 1, 32, .inl c_v)), ((hm 31), .inl (cy 1, 64, .inl c_w)), ((hm 16), .inl (cy 1, 64, .inl c_word)), ((hm 32), .inl (cy 1, 8, .inl c_x))]) H := hP
        replace hD : va_D A ([(h0, .inr (12, zmo hm (0 : Int32) c_state c_test c_words c_ill c_before c_inRow c_first c_inWindow c_same c_made c_requests c_total c_secrets_104 c_rounds_16 c_high c_low c_keyHigh c_keyLow)), ((hm 0), .inl (cy 1, 64, .inl c_ROUND)), ((hm 47), .inl (cy 1, 8, .inl c_START)), ((hm 40), .inl (cy 1, 256, .inl c_back)), ((hm 43), .inl (cy 1, 16, .inl c_block)), ((hm 46), .inl (cy 1, 512, .inl c_body)), ((hm 39), .inl (cy 1, 256, .inl c_box)), ((hm 6), .inl (cy 1, 512, .inl c_buffer)), ((hm 5), .inl (cy 1, 3, .inl c_counters)), ((hm 35), .inl (cy 1, 32, .inl c_digest)), ((hm 30), .inl (cy 1, 8, .inl c_h)), ((hm 12), .inl (cy 1, 16, .inl c_holder)), ((hm 36), .inl (cy 1, 32, .inl c_inner)), ((hm 25), .inl (cy 1, 32, .inl c_k)), ((hm 14), .inl (cy 1, 1024, .inl c_keys)), ((hm 9), .inl (cy 1, 16, .inl c_kind)), ((hm 10), .inl (cy 1, 16, .inl c_length)), ((hm 33), .inl (cy 1, 64, .inl c_message)), ((hm 44), .inl (cy 1, 16, .inl c_other)), ((hm 45), .inl (cy 1, 600, .inl c_result)), ((hm 41), .inl (cy 1, 240, .inl c_round_15)), ((hm 37), .inl (cy 1, 64, .inl c_secret_105)), ((hm 11), .inl (cy 1, 16, .inl c_usage)), ((hm 13), .inl (cy 1, 16, .inl c_uses_17)), ((hm 26), .inl (cy 1, 32, .inl c_v)), ((hm 31), .inl (cy 1, 64, .inl c_w)), ((hm 16), .inl (cy 1, 64, .inl c_word)), ((hm 32), .inl (cy 1, 8, .inl c_x))]) := hD
        refine W.eq (g2 := F0 m 444 ls []) rfl ?_
        exact hTo _ _ _ (kK_33 _ _ H locs ls hP hD hS (lv_sub hl [0, 1, 3, 4] rfl) hf)
      clear eK_18
      refine lv_if_eq (pc := 83) (tgt := 237) hx hb (zdt_at zt_X10_run_0 43 rfl) (by decide) (fun cn_ => ?t_201) (fun cn_ => ?f_202)
      case t_201 =>
        replace hf := zt_s cn_ hf
        clear cn_
        refine lv_iload_n (pc := 237) hx hb (zdt_at zt_X10_run_1 63 rfl) rfl (lv_at hl 1 rfl) ?_
        refine lv_bipush (pc := 238) (v := (11 : Int32)) hx hb (zdt_at zt_X10_run_2 0 rfl) (by decide) ?_
        refine lv_icmp_ne (pc := 240) (tgt := 257) hx hb (zdt_at zt_X10_run_2 1 rfl) (by decide) (fun cn_ => ?t_203) (fun cn_ => ?f_204)
        case t_203 =>
          replace hf := ze_s cn_ hf
          clear cn_
          exact hTo _ _ _ (kK_18 _ _ _ H locs ls hP hD hS (lv_sub hl [0, 1, 2, 3, 4, 5] rfl) hf)
        replace hf := zt_s cn_ hf
        clear cn_
        refine lv_aload_n (pc := 243) hx hb (zdt_at zt_X10_run_2 2 rfl) rfl (lv_at hl 0 rfl) ?_
        replace hf := zb_s hf
        obtain ⟨r_205, hc_, hf⟩ := hf
        refine zcs (pc := 244) (rv := (some (.int r_205))) (va_runV (As := []) (rest := []) ⟨hx, hb, hml, hown, hts⟩ (c_X10_canGenerate l D cy tt H.size h0 hm c_ill c_made c_requests c_words (0 : Int32) c_state c_test c_before c_inRow c_first c_inWindow c_same c_total c_secrets c_rounds c_high c_low c_keyHigh c_keyLow r_205 hc_) (cwV 0 hts gX10_run_X10_canGenerate rfl rfl rfl (by decide +kernel) ⟨Nat.le_of_ble_eq_true rfl, Nat.le_of_ble_eq_true rfl⟩) ⟨zblind, va_recv hK hP (ci := 12) (q0 := 0) rfl rfl, zpre hE hS (hP.sub [0] rfl) (hD.sub [0] (by decide) rfl) (va_free hD hS hA [0] rfl)⟩ rfl rfl hl.1 rfl (lv_room (Nat.le_of_ble_eq_true rfl)) (zdt_at zt_X10_run_2 3 rfl) ⟨Nat.zero_le _, Nat.zero_le _⟩) ?_
        clear hc_
        refine W.eq (g2 := F0 m 247 ls [.int r_205]) rfl ?_
        refine lv_if_ne (pc := 247) (tgt := 257) hx hb (zdt_at zt_X10_run_2 4 rfl) (by decide) (fun cn_ => ?t_206) (fun cn_ => ?f_207)
        case t_206 =>
          replace hf := ze_s cn_ hf
          clear cn_
          exact hTo _ _ _ (kK_18 _ _ _ H locs ls hP hD hS (lv_sub hl [0, 1, 2, 3, 4, 5] rfl) hf)
        replace hf := zt_s cn_ hf
        clear cn_
        refine lv_aload_n (pc := 250) hx hb (zdt_at zt_X10_run_2 5 rfl) rfl (lv_at hl 0 rfl) ?_
        refine lv_bipush (pc := 251) (v := (-8 : Int32)) hx hb (zdt_at zt_X10_run_2 6 rfl) (by decide) ?_
        replace hf := zb_s hf
        obtain ⟨⟨r_208, c_counters_209⟩, hc_, hf⟩ := hf
        refine zcn2 (pc := 253) (rv := (some (.int r_208))) (va_runV (As := [.int (-8 : Int32)]) (rest := []) ⟨hx, hb, hml, hown, hts⟩ (c_X10_answer l D cy tt H.size h0 hm (-8 : Int32) c_counters (0 : Int32) c_state c_test c_words c_ill c_before c_inRow c_first c_inWindow c_same c_made c_requests c_total c_secrets c_rounds c_high c_low c_keyHigh c_keyLow r_208 c_counters_209 hc_) (cwV 1 hts gX10_run_X10_answer rfl rfl rfl (by decide +kernel) ⟨Nat.le_of_ble_eq_true rfl, Nat.le_of_ble_eq_true rfl⟩) ⟨zblind, va_recv hK hP (ci := 12) (q0 := 0) rfl rfl, zpre hE hS (hP.sub [0, 8] rfl) (hD.sub [0, 8] (by decide) rfl) (va_free hD hS hA [0, 8] rfl)⟩ rfl rfl hl.1 rfl (lv_room (Nat.le_of_ble_eq_true rfl)) (zdt_at zt_X10_run_2 7 rfl) ⟨Nat.zero_le _, Nat.zero_le _⟩) hS hP hD (va_free hD hS hA [0, 8] rfl) [0, 8] rfl (by decide) rfl ?_
        clear hP hD hS hc_
        intro H locs hP hD hS
        replace hP : va_P D vwCl ([(h0, .inr (12, zmo hm (0 : Int32) c_state c_test c_words c_ill c_before c_inRow c_first c_inWindow c_same c_made c_requests c_total c_secrets c_rounds c_high c_low c_keyHigh c_keyLow)), ((hm 0), .inl (cy 1, 64, .inl c_ROUND)), ((hm 47), .inl (cy 1, 8, .inl c_START)), ((hm 40), .inl (cy 1, 256, .inl c_back)), ((hm 43), .inl (cy 1, 16, .inl c_block)), ((hm 46), .inl (cy 1, 512, .inl c_body)), ((hm 39), .inl (cy 1, 256, .inl c_box)), ((hm 6), .inl (cy 1, 512, .inl c_buffer)), ((hm 5), .inl (cy 1, 3, .inl c_counters_209)), ((hm 35), .inl (cy 1, 32, .inl c_digest)), ((hm 30), .inl (cy 1, 8, .inl c_h)), ((hm 12), .inl (cy 1, 16, .inl c_holder)), ((hm 36), .inl (cy 1, 32, .inl c_inner)), ((hm 25), .inl (cy 1, 32, .inl c_k)), ((hm 14), .inl (cy 1, 1024, .inl c_keys)), ((hm 9), .inl (cy 1, 16, .inl c_kind)), ((hm 10), .inl (cy 1, 16, .inl c_length)), ((hm 33), .inl (cy 1, 64, .inl c_message)), ((hm 44), .inl (cy 1, 16, .inl c_other)), ((hm 45), .inl (cy 1, 600, .inl c_result)), ((hm 41), .inl (cy 1, 240, .inl c_round)), ((hm 37), .inl (cy 1, 64, .inl c_secret)), ((hm 11), .inl (cy 1, 16, .inl c_usage)), ((hm 13), .inl (cy 1, 16, .inl c_uses)), ((hm 26), .inl (cy 1, 32, .inl c_v)), ((hm 31), .inl (cy 1, 64, .inl c_w)), ((hm 16), .inl (cy 1, 64, .inl c_word)), ((hm 32), .inl (cy 1, 8, .inl c_x))]) H := hP
        replace hD : va_D A ([(h0, .inr (12, zmo hm (0 : Int32) c_state c_test c_words c_ill c_before c_inRow c_first c_inWindow c_same c_made c_requests c_total c_secrets c_rounds c_high c_low c_keyHigh c_keyLow)), ((hm 0), .inl (cy 1, 64, .inl c_ROUND)), ((hm 47), .inl (cy 1, 8, .inl c_START)), ((hm 40), .inl (cy 1, 256, .inl c_back)), ((hm 43), .inl (cy 1, 16, .inl c_block)), ((hm 46), .inl (cy 1, 512, .inl c_body)), ((hm 39), .inl (cy 1, 256, .inl c_box)), ((hm 6), .inl (cy 1, 512, .inl c_buffer)), ((hm 5), .inl (cy 1, 3, .inl c_counters_209)), ((hm 35), .inl (cy 1, 32, .inl c_digest)), ((hm 30), .inl (cy 1, 8, .inl c_h)), ((hm 12), .inl (cy 1, 16, .inl c_holder)), ((hm 36), .inl (cy 1, 32, .inl c_inner)), ((hm 25), .inl (cy 1, 32, .inl c_k)), ((hm 14), .inl (cy 1, 1024, .inl c_keys)), ((hm 9), .inl (cy 1, 16, .inl c_kind)), ((hm 10), .inl (cy 1, 16, .inl c_length)), ((hm 33), .inl (cy 1, 64, .inl c_message)), ((hm 44), .inl (cy 1, 16, .inl c_other)), ((hm 45), .inl (cy 1, 600, .inl c_result)), ((hm 41), .inl (cy 1, 240, .inl c_round)), ((hm 37), .inl (cy 1, 64, .inl c_secret)), ((hm 11), .inl (cy 1, 16, .inl c_usage)), ((hm 13), .inl (cy 1, 16, .inl c_uses)), ((hm 26), .inl (cy 1, 32, .inl c_v)), ((hm 31), .inl (cy 1, 64, .inl c_w)), ((hm 16), .inl (cy 1, 64, .inl c_word)), ((hm 32), .inl (cy 1, 8, .inl c_x))]) := hD
        refine W.eq (g2 := F0 m 256 ls [.int r_208]) rfl ?_
        cases hf
        exact W.iret (pc := 256) hx hb hr (fun t ht hW => ⟨rfl, ⟨by rw [ht]; exact hP, hD⟩, hS.F ht⟩) hS.2.2 (zdt_at zt_X10_run_2 8 rfl)
      replace hf := ze_s cn_ hf
      clear cn_
      refine lv_iload_n (pc := 86) hx hb (zdt_at zt_X10_run_0 44 rfl) rfl (lv_at hl 1 rfl) ?_
      refine lv_bipush (pc := 87) (v := (8 : Int32)) hx hb (zdt_at zt_X10_run_0 45 rfl) (by decide) ?_
      replace hf := zj_s hf
      obtain ⟨K_211, eK_211, hf⟩ := hf
      have kK_211 : ∀ (v_210 : Int32) (H : Heap) (locs : List Loc) (ls : Array Slot), va_P D vwCl ([(h0, .inr (12, zmo hm (0 : Int32) c_state c_test c_words c_ill c_before c_inRow c_first c_inWindow c_same c_made c_requests c_total c_secrets c_rounds c_high c_low c_keyHigh c_keyLow)), ((hm 0), .inl (cy 1, 64, .inl c_ROUND)), ((hm 47), .inl (cy 1, 8, .inl c_START)), ((hm 40), .inl (cy 1, 256, .inl c_back)), ((hm 43), .inl (cy 1, 16, .inl c_block)), ((hm 46), .inl (cy 1, 512, .inl c_body)), ((hm 39), .inl (cy 1, 256, .inl c_box)), ((hm 6), .inl (cy 1, 512, .inl c_buffer)), ((hm 5), .inl (cy 1, 3, .inl c_counters)), ((hm 35), .inl (cy 1, 32, .inl c_digest)), ((hm 30), .inl (cy 1, 8, .inl c_h)), ((hm 12), .inl (cy 1, 16, .inl c_holder)), ((hm 36), .inl (cy 1, 32, .inl c_inner)), ((hm 25), .inl (cy 1, 32, .inl c_k)), ((hm 14), .inl (cy 1, 1024, .inl c_keys)), ((hm 9), .inl (cy 1, 16, .inl c_kind)), ((hm 10), .inl (cy 1, 16, .inl c_length)), ((hm 33), .inl (cy 1, 64, .inl c_message)), ((hm 44), .inl (cy 1, 16, .inl c_other)), ((hm 45), .inl (cy 1, 600, .inl c_result)), ((hm 41), .inl (cy 1, 240, .inl c_round)), ((hm 37), .inl (cy 1, 64, .inl c_secret)), ((hm 11), .inl (cy 1, 16, .inl c_usage)), ((hm 13), .inl (cy 1, 16, .inl c_uses)), ((hm 26), .inl (cy 1, 32, .inl c_v)), ((hm 31), .inl (cy 1, 64, .inl c_w)), ((hm 16), .inl (cy 1, 64, .inl c_word)), ((hm 32), .inl (cy 1, 8, .inl c_x))]) H → va_D A ([(h0, .inr (12, zmo hm (0 : Int32) c_state c_test c_words c_ill c_before c_inRow c_first c_inWindow c_same c_made c_requests c_total c_secrets c_rounds c_high c_low c_keyHigh c_keyLow)), ((hm 0), .inl (cy 1, 64, .inl c_ROUND)), ((hm 47), .inl (cy 1, 8, .inl c_START)), ((hm 40), .inl (cy 1, 256, .inl c_back)), ((hm 43), .inl (cy 1, 16, .inl c_block)), ((hm 46), .inl (cy 1, 512, .inl c_body)), ((hm 39), .inl (cy 1, 256, .inl c_box)), ((hm 6), .inl (cy 1, 512, .inl c_buffer)), ((hm 5), .inl (cy 1, 3, .inl c_counters)), ((hm 35), .inl (cy 1, 32, .inl c_digest)), ((hm 30), .inl (cy 1, 8, .inl c_h)), ((hm 12), .inl (cy 1, 16, .inl c_holder)), ((hm 36), .inl (cy 1, 32, .inl c_inner)), ((hm 25), .inl (cy 1, 32, .inl c_k)), ((hm 14), .inl (cy 1, 1024, .inl c_keys)), ((hm 9), .inl (cy 1, 16, .inl c_kind)), ((hm 10), .inl (cy 1, 16, .inl c_length)), ((hm 33), .inl (cy 1, 64, .inl c_message)), ((hm 44), .inl (cy 1, 16, .inl c_other)), ((hm 45), .inl (cy 1, 600, .inl c_result)), ((hm 41), .inl (cy 1, 240, .inl c_round)), ((hm 37), .inl (cy 1, 64, .inl c_secret)), ((hm 11), .inl (cy 1, 16, .inl c_usage)), ((hm 13), .inl (cy 1, 16, .inl c_uses)), ((hm 26), .inl (cy 1, 32, .inl c_v)), ((hm 31), .inl (cy 1, 64, .inl c_w)), ((hm 16), .inl (cy 1, 64, .inl c_word)), ((hm 32), .inl (cy 1, 8, .inl c_x))]) → va_S A s.heap H locs → lv_has ls 8 [(0, .ref h0), (1, .int p1), (2, .int p2), (3, .int p3), (4, .int p4), (5, .int p5)] → K_211 v_210 = some (r_, c_high', c_keyHigh', c_keyLow', c_low', c_made', c_requests', c_rounds', c_secrets', c_thrown', c_total', c_words', c_block', c_body', c_buffer', c_counters', c_digest', c_h', c_inner', c_k', c_message', c_other', c_result', c_round', c_secret', c_uses', c_v', c_w', c_word', c_x') → GW H locs (F0 m 123 ls [.int v_210]) := by
        clear hf hl hP hD hS
        intro v_210 H locs ls hP hD hS hl hf
        rw [eK_211] at hf
        clear eK_211
        refine hFr _ _ _ ?_
        refine lv_istore (pc := 123) (lv' := [(7, .int v_210), (0, .ref h0), (1, .int p1), (2, .int p2), (3, .int p3), (4, .int p4), (5, .int p5)]) hx hb (zdt_at zt_X10_run_1 0 rfl) hl (by decide) rfl ?_
        clear hl
        intro ls hl
        refine lv_aload_n (pc := 125) hx hb (zdt_at zt_X10_run_1 1 rfl) rfl (lv_at hl 1 rfl) ?_
        refine lv_iload_n (pc := 126) hx hb (zdt_at zt_X10_run_1 2 rfl) rfl (lv_at hl 3 rfl) ?_
        replace hf := zb_s hf
        obtain ⟨r_212, hc_, hf⟩ := hf
        refine zcs (pc := 127) (rv := (some (.int r_212))) (va_runV (As := [.int p2]) (rest := []) ⟨hx, hb, hml, hown, hts⟩ (c_X10_isOthers l D cy tt H.size h0 hm p2 c_state c_holder c_kind (0 : Int32) c_test c_words c_ill c_before c_inRow c_first c_inWindow c_same c_made c_requests c_total c_secrets c_rounds c_high c_low c_keyHigh c_keyLow r_212 hc_) (cwV 1 hts gX10_run_X10_isOthers rfl rfl rfl (by decide +kernel) ⟨Nat.le_of_ble_eq_true rfl, Nat.le_of_ble_eq_true rfl⟩) ⟨zblind, va_recv hK hP (ci := 12) (q0 := 0) rfl rfl, zpre hE hS (hP.sub [0, 11, 15] rfl) (hD.sub [0, 11, 15] (by decide) rfl) (va_free hD hS hA [0, 11, 15] rfl)⟩ rfl rfl hl.1 rfl (lv_room (Nat.le_of_ble_eq_true rfl)) (zdt_at zt_X10_run_1 3 rfl) ⟨Nat.zero_le _, Nat.zero_le _⟩) ?_
        clear hc_
        refine W.eq (g2 := F0 m 130 ls [.int r_212]) rfl ?_
        refine lv_if_eq (pc := 130) (tgt := 140) hx hb (zdt_at zt_X10_run_1 4 rfl) (by decide) (fun cn_ => ?t_213) (fun cn_ => ?f_214)
        case f_214 =>
          replace hf := ze_s cn_ hf
          clear cn_
          refine lv_aload_n (pc := 133) hx hb (zdt_at zt_X10_run_1 5 rfl) rfl (lv_at hl 1 rfl) ?_
          refine lv_bipush (pc := 134) (v := (-3 : Int32)) hx hb (zdt_at zt_X10_run_1 6 rfl) (by decide) ?_
          replace hf := zb_s hf
          obtain ⟨⟨r_243, c_counters_244⟩, hc_, hf⟩ := hf
          refine zcn2 (pc := 136) (rv := (some (.int r_243))) (va_runV (As := [.int (-3 : Int32)]) (rest := []) ⟨hx, hb, hml, hown, hts⟩ (c_X10_answer l D cy tt H.size h0 hm (-3 : Int32) c_counters (0 : Int32) c_state c_test c_words c_ill c_before c_inRow c_first c_inWindow c_same c_made c_requests c_total c_secrets c_rounds c_high c_low c_keyHigh c_keyLow r_243 c_counters_244 hc_) (cwV 1 hts gX10_run_X10_answer rfl rfl rfl (by decide +kernel) ⟨Nat.le_of_ble_eq_true rfl, Nat.le_of_ble_eq_true rfl⟩) ⟨zblind, va_recv hK hP (ci := 12) (q0 := 0) rfl rfl, zpre hE hS (hP.sub [0, 8] rfl) (hD.sub [0, 8] (by decide) rfl) (va_free hD hS hA [0, 8] rfl)⟩ rfl rfl hl.1 rfl (lv_room (Nat.le_of_ble_eq_true rfl)) (zdt_at zt_X10_run_1 7 rfl) ⟨Nat.zero_le _, Nat.zero_le _⟩) hS hP hD (va_free hD hS hA [0, 8] rfl) [0, 8] rfl (by decide) rfl ?_
          clear hP hD hS hc_
          intro H locs hP hD hS
          replace hP : va_P D vwCl ([(h0, .inr (12, zmo hm (0 : Int32) c_state c_test c_words c_ill c_before c_inRow c_first c_inWindow c_same c_made c_requests c_total c_secrets c_rounds c_high c_low c_keyHigh c_keyLow)), ((hm 0), .inl (cy 1, 64, .inl c_ROUND)), ((hm 47), .inl (cy 1, 8, .inl c_START)), ((hm 40), .inl (cy 1, 256, .inl c_back)), ((hm 43), .inl (cy 1, 16, .inl c_block)), ((hm 46), .inl (cy 1, 512, .inl c_body)), ((hm 39), .inl (cy 1, 256, .inl c_box)), ((hm 6), .inl (cy 1, 512, .inl c_buffer)), ((hm 5), .inl (cy 1, 3, .inl c_counters_244)), ((hm 35), .inl (cy 1, 32, .inl c_digest)), ((hm 30), .inl (cy 1, 8, .inl c_h)), ((hm 12), .inl (cy 1, 16, .inl c_holder)), ((hm 36), .inl (cy 1, 32, .inl c_inner)), ((hm 25), .inl (cy 1, 32, .inl c_k)), ((hm 14), .inl (cy 1, 1024, .inl c_keys)), ((hm 9), .inl (cy 1, 16, .inl c_kind)), ((hm 10), .inl (cy 1, 16, .inl c_length)), ((hm 33), .inl (cy 1, 64, .inl c_message)), ((hm 44), .inl (cy 1, 16, .inl c_other)), ((hm 45), .inl (cy 1, 600, .inl c_result)), ((hm 41), .inl (cy 1, 240, .inl c_round)), ((hm 37), .inl (cy 1, 64, .inl c_secret)), ((hm 11), .inl (cy 1, 16, .inl c_usage)), ((hm 13), .inl (cy 1, 16, .inl c_uses)), ((hm 26), .inl (cy 1, 32, .inl c_v)), ((hm 31), .inl (cy 1, 64, .inl c_w)), ((hm 16), .inl (cy 1, 64, .inl c_word)), ((hm 32), .inl (cy 1, 8, .inl c_x))]) H := hP
          replace hD : va_D A ([(h0, .inr (12, zmo hm (0 : Int32) c_state c_test c_words c_ill c_before c_inRow c_first c_inWindow c_same c_made c_requests c_total c_secrets c_rounds c_high c_low c_keyHigh c_keyLow)), ((hm 0), .inl (cy 1, 64, .inl c_ROUND)), ((hm 47), .inl (cy 1, 8, .inl c_START)), ((hm 40), .inl (cy 1, 256, .inl c_back)), ((hm 43), .inl (cy 1, 16, .inl c_block)), ((hm 46), .inl (cy 1, 512, .inl c_body)), ((hm 39), .inl (cy 1, 256, .inl c_box)), ((hm 6), .inl (cy 1, 512, .inl c_buffer)), ((hm 5), .inl (cy 1, 3, .inl c_counters_244)), ((hm 35), .inl (cy 1, 32, .inl c_digest)), ((hm 30), .inl (cy 1, 8, .inl c_h)), ((hm 12), .inl (cy 1, 16, .inl c_holder)), ((hm 36), .inl (cy 1, 32, .inl c_inner)), ((hm 25), .inl (cy 1, 32, .inl c_k)), ((hm 14), .inl (cy 1, 1024, .inl c_keys)), ((hm 9), .inl (cy 1, 16, .inl c_kind)), ((hm 10), .inl (cy 1, 16, .inl c_length)), ((hm 33), .inl (cy 1, 64, .inl c_message)), ((hm 44), .inl (cy 1, 16, .inl c_other)), ((hm 45), .inl (cy 1, 600, .inl c_result)), ((hm 41), .inl (cy 1, 240, .inl c_round)), ((hm 37), .inl (cy 1, 64, .inl c_secret)), ((hm 11), .inl (cy 1, 16, .inl c_usage)), ((hm 13), .inl (cy 1, 16, .inl c_uses)), ((hm 26), .inl (cy 1, 32, .inl c_v)), ((hm 31), .inl (cy 1, 64, .inl c_w)), ((hm 16), .inl (cy 1, 64, .inl c_word)), ((hm 32), .inl (cy 1, 8, .inl c_x))]) := hD
          refine W.eq (g2 := F0 m 139 ls [.int r_243]) rfl ?_
          cases hf
          exact W.iret (pc := 139) hx hb hr (fun t ht hW => ⟨rfl, ⟨by rw [ht]; exact hP, hD⟩, hS.F ht⟩) hS.2.2 (zdt_at zt_X10_run_1 8 rfl)
        replace hf := zt_s cn_ hf
        clear cn_
        refine lv_aload_n (pc := 140) hx hb (zdt_at zt_X10_run_1 9 rfl) rfl (lv_at hl 1 rfl) ?_
        refine va_get (pc := 141) (D := D) (ci := 12) (v := .ref (hm 9)) (C := RX10) (T := TX10) (N := 52) hx hb hts hcX10 hown hK hP 0 rfl rfl 9 (by decide) hw4 (fun _ h9 => h9) rfl (zdt_at zt_X10_run_1 10 rfl) ?_
        refine lv_iload_n (pc := 144) hx hb (zdt_at zt_X10_run_1 11 rfl) rfl (lv_at hl 3 rfl) ?_
        replace hf := zk_s hf
        refine va_iald (pc := 145) hx hb hK hP 15 1 rfl rfl hf.1 (zdt_at zt_X10_run_1 12 rfl) ?_
        replace hf := hf.2
        refine lv_if_ne (pc := 146) (tgt := 156) hx hb (zdt_at zt_X10_run_1 13 rfl) (by decide) (fun cn_ => ?t_215) (fun cn_ => ?f_216)
        case f_216 =>
          replace hf := zt_s cn_ hf
          clear cn_
          refine lv_aload_n (pc := 149) hx hb (zdt_at zt_X10_run_1 14 rfl) rfl (lv_at hl 1 rfl) ?_
          refine lv_bipush (pc := 150) (v := (-4 : Int32)) hx hb (zdt_at zt_X10_run_1 15 rfl) (by decide) ?_
          replace hf := zb_s hf
          obtain ⟨⟨r_241, c_counters_242⟩, hc_, hf⟩ := hf
          refine zcn2 (pc := 152) (rv := (some (.int r_241))) (va_runV (As := [.int (-4 : Int32)]) (rest := []) ⟨hx, hb, hml, hown, hts⟩ (c_X10_answer l D cy tt H.size h0 hm (-4 : Int32) c_counters (0 : Int32) c_state c_test c_words c_ill c_before c_inRow c_first c_inWindow c_same c_made c_requests c_total c_secrets c_rounds c_high c_low c_keyHigh c_keyLow r_241 c_counters_242 hc_) (cwV 1 hts gX10_run_X10_answer rfl rfl rfl (by decide +kernel) ⟨Nat.le_of_ble_eq_true rfl, Nat.le_of_ble_eq_true rfl⟩) ⟨zblind, va_recv hK hP (ci := 12) (q0 := 0) rfl rfl, zpre hE hS (hP.sub [0, 8] rfl) (hD.sub [0, 8] (by decide) rfl) (va_free hD hS hA [0, 8] rfl)⟩ rfl rfl hl.1 rfl (lv_room (Nat.le_of_ble_eq_true rfl)) (zdt_at zt_X10_run_1 16 rfl) ⟨Nat.zero_le _, Nat.zero_le _⟩) hS hP hD (va_free hD hS hA [0, 8] rfl) [0, 8] rfl (by decide) rfl ?_
          clear hP hD hS hc_
          intro H locs hP hD hS
          replace hP : va_P D vwCl ([(h0, .inr (12, zmo hm (0 : Int32) c_state c_test c_words c_ill c_before c_inRow c_first c_inWindow c_same c_made c_requests c_total c_secrets c_rounds c_high c_low c_keyHigh c_keyLow)), ((hm 0), .inl (cy 1, 64, .inl c_ROUND)), ((hm 47), .inl (cy 1, 8, .inl c_START)), ((hm 40), .inl (cy 1, 256, .inl c_back)), ((hm 43), .inl (cy 1, 16, .inl c_block)), ((hm 46), .inl (cy 1, 512, .inl c_body)), ((hm 39), .inl (cy 1, 256, .inl c_box)), ((hm 6), .inl (cy 1, 512, .inl c_buffer)), ((hm 5), .inl (cy 1, 3, .inl c_counters_242)), ((hm 35), .inl (cy 1, 32, .inl c_digest)), ((hm 30), .inl (cy 1, 8, .inl c_h)), ((hm 12), .inl (cy 1, 16, .inl c_holder)), ((hm 36), .inl (cy 1, 32, .inl c_inner)), ((hm 25), .inl (cy 1, 32, .inl c_k)), ((hm 14), .inl (cy 1, 1024, .inl c_keys)), ((hm 9), .inl (cy 1, 16, .inl c_kind)), ((hm 10), .inl (cy 1, 16, .inl c_length)), ((hm 33), .inl (cy 1, 64, .inl c_message)), ((hm 44), .inl (cy 1, 16, .inl c_other)), ((hm 45), .inl (cy 1, 600, .inl c_result)), ((hm 41), .inl (cy 1, 240, .inl c_round)), ((hm 37), .inl (cy 1, 64, .inl c_secret)), ((hm 11), .inl (cy 1, 16, .inl c_usage)), ((hm 13), .inl (cy 1, 16, .inl c_uses)), ((hm 26), .inl (cy 1, 32, .inl c_v)), ((hm 31), .inl (cy 1, 64, .inl c_w)), ((hm 16), .inl (cy 1, 64, .inl c_word)), ((hm 32), .inl (cy 1, 8, .inl c_x))]) H := hP
          replace hD : va_D A ([(h0, .inr (12, zmo hm (0 : Int32) c_state c_test c_words c_ill c_before c_inRow c_first c_inWindow c_same c_made c_requests c_total c_secrets c_rounds c_high c_low c_keyHigh c_keyLow)), ((hm 0), .inl (cy 1, 64, .inl c_ROUND)), ((hm 47), .inl (cy 1, 8, .inl c_START)), ((hm 40), .inl (cy 1, 256, .inl c_back)), ((hm 43), .inl (cy 1, 16, .inl c_block)), ((hm 46), .inl (cy 1, 512, .inl c_body)), ((hm 39), .inl (cy 1, 256, .inl c_box)), ((hm 6), .inl (cy 1, 512, .inl c_buffer)), ((hm 5), .inl (cy 1, 3, .inl c_counters_242)), ((hm 35), .inl (cy 1, 32, .inl c_digest)), ((hm 30), .inl (cy 1, 8, .inl c_h)), ((hm 12), .inl (cy 1, 16, .inl c_holder)), ((hm 36), .inl (cy 1, 32, .inl c_inner)), ((hm 25), .inl (cy 1, 32, .inl c_k)), ((hm 14), .inl (cy 1, 1024, .inl c_keys)), ((hm 9), .inl (cy 1, 16, .inl c_kind)), ((hm 10), .inl (cy 1, 16, .inl c_length)), ((hm 33), .inl (cy 1, 64, .inl c_message)), ((hm 44), .inl (cy 1, 16, .inl c_other)), ((hm 45), .inl (cy 1, 600, .inl c_result)), ((hm 41), .inl (cy 1, 240, .inl c_round)), ((hm 37), .inl (cy 1, 64, .inl c_secret)), ((hm 11), .inl (cy 1, 16, .inl c_usage)), ((hm 13), .inl (cy 1, 16, .inl c_uses)), ((hm 26), .inl (cy 1, 32, .inl c_v)), ((hm 31), .inl (cy 1, 64, .inl c_w)), ((hm 16), .inl (cy 1, 64, .inl c_word)), ((hm 32), .inl (cy 1, 8, .inl c_x))]) := hD
          refine W.eq (g2 := F0 m 155 ls [.int r_241]) rfl ?_
          cases hf
          exact W.iret (pc := 155) hx hb hr (fun t ht hW => ⟨rfl, ⟨by rw [ht]; exact hP, hD⟩, hS.F ht⟩) hS.2.2 (zdt_at zt_X10_run_1 17 rfl)
        replace hf := ze_s cn_ hf
        clear cn_
        refine lv_aload_n (pc := 156) hx hb (zdt_at zt_X10_run_1 18 rfl) rfl (lv_at hl 1 rfl) ?_
        refine va_get (pc := 157) (D := D) (ci := 12) (v := .ref (hm 9)) (C := RX10) (T := TX10) (N := 52) hx hb hts hcX10 hown hK hP 0 rfl rfl 9 (by decide) hw4 (fun _ h9 => h9) rfl (zdt_at zt_X10_run_1 19 rfl) ?_
        refine lv_iload_n (pc := 160) hx hb (zdt_at zt_X10_run_1 20 rfl) rfl (lv_at hl 3 rfl) ?_
        replace hf := zk_s hf
        refine va_iald (pc := 161) hx hb hK hP 15 1 rfl rfl hf.1 (zdt_at zt_X10_run_1 21 rfl) ?_
        replace hf := hf.2
        refine lv_iload_n (pc := 162) hx hb (zdt_at zt_X10_run_1 22 rfl) rfl (lv_at hl 2 rfl) ?_
        refine lv_bipush (pc := 163) (v := (10 : Int32)) hx hb (zdt_at zt_X10_run_1 23 rfl) (by decide) ?_
        replace hf := zj_s hf
        obtain ⟨K_218, eK_218, hf⟩ := hf
        have kK_218 : ∀ (v_217 : Int32) (H : Heap) (locs : List Loc) (ls : Array Slot), va_P D vwCl ([(h0, .inr (12, zmo hm (0 : Int32) c_state c_test c_words c_ill c_before c_inRow c_first c_inWindow c_same c_made c_requests c_total c_secrets c_rounds c_high c_low c_keyHigh c_keyLow)), ((hm 0), .inl (cy 1, 64, .inl c_ROUND)), ((hm 47), .inl (cy 1, 8, .inl c_START)), ((hm 40), .inl (cy 1, 256, .inl c_back)), ((hm 43), .inl (cy 1, 16, .inl c_block)), ((hm 46), .inl (cy 1, 512, .inl c_body)), ((hm 39), .inl (cy 1, 256, .inl c_box)), ((hm 6), .inl (cy 1, 512, .inl c_buffer)), ((hm 5), .inl (cy 1, 3, .inl c_counters)), ((hm 35), .inl (cy 1, 32, .inl c_digest)), ((hm 30), .inl (cy 1, 8, .inl c_h)), ((hm 12), .inl (cy 1, 16, .inl c_holder)), ((hm 36), .inl (cy 1, 32, .inl c_inner)), ((hm 25), .inl (cy 1, 32, .inl c_k)), ((hm 14), .inl (cy 1, 1024, .inl c_keys)), ((hm 9), .inl (cy 1, 16, .inl c_kind)), ((hm 10), .inl (cy 1, 16, .inl c_length)), ((hm 33), .inl (cy 1, 64, .inl c_message)), ((hm 44), .inl (cy 1, 16, .inl c_other)), ((hm 45), .inl (cy 1, 600, .inl c_result)), ((hm 41), .inl (cy 1, 240, .inl c_round)), ((hm 37), .inl (cy 1, 64, .inl c_secret)), ((hm 11), .inl (cy 1, 16, .inl c_usage)), ((hm 13), .inl (cy 1, 16, .inl c_uses)), ((hm 26), .inl (cy 1, 32, .inl c_v)), ((hm 31), .inl (cy 1, 64, .inl c_w)), ((hm 16), .inl (cy 1, 64, .inl c_word)), ((hm 32), .inl (cy 1, 8, .inl c_x))]) H → va_D A ([(h0, .inr (12, zmo hm (0 : Int32) c_state c_test c_words c_ill c_before c_inRow c_first c_inWindow c_same c_made c_requests c_total c_secrets c_rounds c_high c_low c_keyHigh c_keyLow)), ((hm 0), .inl (cy 1, 64, .inl c_ROUND)), ((hm 47), .inl (cy 1, 8, .inl c_START)), ((hm 40), .inl (cy 1, 256, .inl c_back)), ((hm 43), .inl (cy 1, 16, .inl c_block)), ((hm 46), .inl (cy 1, 512, .inl c_body)), ((hm 39), .inl (cy 1, 256, .inl c_box)), ((hm 6), .inl (cy 1, 512, .inl c_buffer)), ((hm 5), .inl (cy 1, 3, .inl c_counters)), ((hm 35), .inl (cy 1, 32, .inl c_digest)), ((hm 30), .inl (cy 1, 8, .inl c_h)), ((hm 12), .inl (cy 1, 16, .inl c_holder)), ((hm 36), .inl (cy 1, 32, .inl c_inner)), ((hm 25), .inl (cy 1, 32, .inl c_k)), ((hm 14), .inl (cy 1, 1024, .inl c_keys)), ((hm 9), .inl (cy 1, 16, .inl c_kind)), ((hm 10), .inl (cy 1, 16, .inl c_length)), ((hm 33), .inl (cy 1, 64, .inl c_message)), ((hm 44), .inl (cy 1, 16, .inl c_other)), ((hm 45), .inl (cy 1, 600, .inl c_result)), ((hm 41), .inl (cy 1, 240, .inl c_round)), ((hm 37), .inl (cy 1, 64, .inl c_secret)), ((hm 11), .inl (cy 1, 16, .inl c_usage)), ((hm 13), .inl (cy 1, 16, .inl c_uses)), ((hm 26), .inl (cy 1, 32, .inl c_v)), ((hm 31), .inl (cy 1, 64, .inl c_w)), ((hm 16), .inl (cy 1, 64, .inl c_word)), ((hm 32), .inl (cy 1, 8, .inl c_x))]) → va_S A s.heap H locs → lv_has ls 8 [(0, .ref h0), (1, .int p1), (2, .int p2), (3, .int p3), (4, .int p4), (5, .int p5), (7, .int v_210)] → K_218 v_217 = some (r_, c_high', c_keyHigh', c_keyLow', c_low', c_made', c_requests', c_rounds', c_secrets', c_thrown', c_total', c_words', c_block', c_body', c_buffer', c_counters', c_digest', c_h', c_inner', c_k', c_message', c_other', c_result', c_round', c_secret', c_uses', c_v', c_w', c_word', c_x') → GW H locs (F0 m 173 ls [.int v_217, .int (c_kind p2.toNatClampNeg)]) := by
          clear hf hl hP hD hS
          intro v_217 H locs ls hP hD hS hl hf
          rw [eK_218] at hf
          clear eK_218
          refine hFr _ _ _ ?_
          refine lv_icmp_eq (pc := 173) (tgt := 183) hx hb (zdt_at zt_X10_run_1 28 rfl) (by decide) (fun cn_ => ?t_219) (fun cn_ => ?f_220)
          case f_220 =>
            replace hf := ze_s cn_ hf
            clear cn_
            refine lv_aload_n (pc := 176) hx hb (zdt_at zt_X10_run_1 29 rfl) rfl (lv_at hl 0 rfl) ?_
            refine lv_bipush (pc := 177) (v := (-5 : Int32)) hx hb (zdt_at zt_X10_run_1 30 rfl) (by decide) ?_
            replace hf := zb_s hf
            obtain ⟨⟨r_237, c_counters_238⟩, hc_, hf⟩ := hf
            refine zcn2 (pc := 179) (rv := (some (.int r_237))) (va_runV (As := [.int (-5 : Int32)]) (rest := []) ⟨hx, hb, hml, hown, hts⟩ (c_X10_answer l D cy tt H.size h0 hm (-5 : Int32) c_counters (0 : Int32) c_state c_test c_words c_ill c_before c_inRow c_first c_inWindow c_same c_made c_requests c_total c_secrets c_rounds c_high c_low c_keyHigh c_keyLow r_237 c_counters_238 hc_) (cwV 1 hts gX10_run_X10_answer rfl rfl rfl (by decide +kernel) ⟨Nat.le_of_ble_eq_true rfl, Nat.le_of_ble_eq_true rfl⟩) ⟨zblind, va_recv hK hP (ci := 12) (q0 := 0) rfl rfl, zpre hE hS (hP.sub [0, 8] rfl) (hD.sub [0, 8] (by decide) rfl) (va_free hD hS hA [0, 8] rfl)⟩ rfl rfl hl.1 rfl (lv_room (Nat.le_of_ble_eq_true rfl)) (zdt_at zt_X10_run_1 31 rfl) ⟨Nat.zero_le _, Nat.zero_le _⟩) hS hP hD (va_free hD hS hA [0, 8] rfl) [0, 8] rfl (by decide) rfl ?_
            clear hP hD hS hc_
            intro H locs hP hD hS
            replace hP : va_P D vwCl ([(h0, .inr (12, zmo hm (0 : Int32) c_state c_test c_words c_ill c_before c_inRow c_first c_inWindow c_same c_made c_requests c_total c_secrets c_rounds c_high c_low c_keyHigh c_keyLow)), ((hm 0), .inl (cy 1, 64, .inl c_ROUND)), ((hm 47), .inl (cy 1, 8, .inl c_START)), ((hm 40), .inl (cy 1, 256, .inl c_back)), ((hm 43), .inl (cy 1, 16, .inl c_block)), ((hm 46), .inl (cy 1, 512, .inl c_body)), ((hm 39), .inl (cy 1, 256, .inl c_box)), ((hm 6), .inl (cy 1, 512, .inl c_buffer)), ((hm 5), .inl (cy 1, 3, .inl c_counters_238)), ((hm 35), .inl (cy 1, 32, .inl c_digest)), ((hm 30), .inl (cy 1, 8, .inl c_h)), ((hm 12), .inl (cy 1, 16, .inl c_holder)), ((hm 36), .inl (cy 1, 32, .inl c_inner)), ((hm 25), .inl (cy 1, 32, .inl c_k)), ((hm 14), .inl (cy 1, 1024, .inl c_keys)), ((hm 9), .inl (cy 1, 16, .inl c_kind)), ((hm 10), .inl (cy 1, 16, .inl c_length)), ((hm 33), .inl (cy 1, 64, .inl c_message)), ((hm 44), .inl (cy 1, 16, .inl c_other)), ((hm 45), .inl (cy 1, 600, .inl c_result)), ((hm 41), .inl (cy 1, 240, .inl c_round)), ((hm 37), .inl (cy 1, 64, .inl c_secret)), ((hm 11), .inl (cy 1, 16, .inl c_usage)), ((hm 13), .inl (cy 1, 16, .inl c_uses)), ((hm 26), .inl (cy 1, 32, .inl c_v)), ((hm 31), .inl (cy 1, 64, .inl c_w)), ((hm 16), .inl (cy 1, 64, .inl c_word)), ((hm 32), .inl (cy 1, 8, .inl c_x))]) H := hP
            replace hD : va_D A ([(h0, .inr (12, zmo hm (0 : Int32) c_state c_test c_words c_ill c_before c_inRow c_first c_inWindow c_same c_made c_requests c_total c_secrets c_rounds c_high c_low c_keyHigh c_keyLow)), ((hm 0), .inl (cy 1, 64, .inl c_ROUND)), ((hm 47), .inl (cy 1, 8, .inl c_START)), ((hm 40), .inl (cy 1, 256, .inl c_back)), ((hm 43), .inl (cy 1, 16, .inl c_block)), ((hm 46), .inl (cy 1, 512, .inl c_body)), ((hm 39), .inl (cy 1, 256, .inl c_box)), ((hm 6), .inl (cy 1, 512, .inl c_buffer)), ((hm 5), .inl (cy 1, 3, .inl c_counters_238)), ((hm 35), .inl (cy 1, 32, .inl c_digest)), ((hm 30), .inl (cy 1, 8, .inl c_h)), ((hm 12), .inl (cy 1, 16, .inl c_holder)), ((hm 36), .inl (cy 1, 32, .inl c_inner)), ((hm 25), .inl (cy 1, 32, .inl c_k)), ((hm 14), .inl (cy 1, 1024, .inl c_keys)), ((hm 9), .inl (cy 1, 16, .inl c_kind)), ((hm 10), .inl (cy 1, 16, .inl c_length)), ((hm 33), .inl (cy 1, 64, .inl c_message)), ((hm 44), .inl (cy 1, 16, .inl c_other)), ((hm 45), .inl (cy 1, 600, .inl c_result)), ((hm 41), .inl (cy 1, 240, .inl c_round)), ((hm 37), .inl (cy 1, 64, .inl c_secret)), ((hm 11), .inl (cy 1, 16, .inl c_usage)), ((hm 13), .inl (cy 1, 16, .inl c_uses)), ((hm 26), .inl (cy 1, 32, .inl c_v)), ((hm 31), .inl (cy 1, 64, .inl c_w)), ((hm 16), .inl (cy 1, 64, .inl c_word)), ((hm 32), .inl (cy 1, 8, .inl c_x))]) := hD
            refine W.eq (g2 := F0 m 182 ls [.int r_237]) rfl ?_
            cases hf
            exact W.iret (pc := 182) hx hb hr (fun t ht hW => ⟨rfl, ⟨by rw [ht]; exact hP, hD⟩, hS.F ht⟩) hS.2.2 (zdt_at zt_X10_run_1 32 rfl)
          replace hf := zt_s cn_ hf
          clear cn_
          refine lv_aload_n (pc := 183) hx hb (zdt_at zt_X10_run_1 33 rfl) rfl (lv_at hl 0 rfl) ?_
          refine va_get (pc := 184) (D := D) (ci := 12) (v := .ref (hm 11)) (C := RX10) (T := TX10) (N := 52) hx hb hts hcX10 hown hK hP 0 rfl rfl 11 (by decide) hw5 (fun _ h9 => h9) rfl (zdt_at zt_X10_run_1 34 rfl) ?_
          refine lv_iload_n (pc := 187) hx hb (zdt_at zt_X10_run_1 35 rfl) rfl (lv_at hl 2 rfl) ?_
          replace hf := zk_s hf
          refine va_iald (pc := 188) hx hb hK hP 22 1 rfl rfl hf.1 (zdt_at zt_X10_run_1 36 rfl) ?_
          replace hf := hf.2
          refine lv_iload (pc := 189) hx hb (zdt_at zt_X10_run_1 37 rfl) (lv_at hl 6 rfl) ?_
          refine lv_iand (pc := 191) hx hb (zdt_at zt_X10_run_1 38 rfl) ?_
          refine lv_if_ne (pc := 192) (tgt := 202) hx hb (zdt_at zt_X10_run_1 39 rfl) (by decide) (fun cn_ => ?t_221) (fun cn_ => ?f_222)
          case f_222 =>
            replace hf := zt_s cn_ hf
            clear cn_
            refine lv_aload_n (pc := 195) hx hb (zdt_at zt_X10_run_1 40 rfl) rfl (lv_at hl 0 rfl) ?_
            refine lv_bipush (pc := 196) (v := (-6 : Int32)) hx hb (zdt_at zt_X10_run_1 41 rfl) (by decide) ?_
            replace hf := zb_s hf
            obtain ⟨⟨r_235, c_counters_236⟩, hc_, hf⟩ := hf
            refine zcn2 (pc := 198) (rv := (some (.int r_235))) (va_runV (As := [.int (-6 : Int32)]) (rest := []) ⟨hx, hb, hml, hown, hts⟩ (c_X10_answer l D cy tt H.size h0 hm (-6 : Int32) c_counters (0 : Int32) c_state c_test c_words c_ill c_before c_inRow c_first c_inWindow c_same c_made c_requests c_total c_secrets c_rounds c_high c_low c_keyHigh c_keyLow r_235 c_counters_236 hc_) (cwV 1 hts gX10_run_X10_answer rfl rfl rfl (by decide +kernel) ⟨Nat.le_of_ble_eq_true rfl, Nat.le_of_ble_eq_true rfl⟩) ⟨zblind, va_recv hK hP (ci := 12) (q0 := 0) rfl rfl, zpre hE hS (hP.sub [0, 8] rfl) (hD.sub [0, 8] (by decide) rfl) (va_free hD hS hA [0, 8] rfl)⟩ rfl rfl hl.1 rfl (lv_room (Nat.le_of_ble_eq_true rfl)) (zdt_at zt_X10_run_1 42 rfl) ⟨Nat.zero_le _, Nat.zero_le _⟩) hS hP hD (va_free hD hS hA [0, 8] rfl) [0, 8] rfl (by decide) rfl ?_
            clear hP hD hS hc_
            intro H locs hP hD hS
            replace hP : va_P D vwCl ([(h0, .inr (12, zmo hm (0 : Int32) c_state c_test c_words c_ill c_before c_inRow c_first c_inWindow c_same c_made c_requests c_total c_secrets c_rounds c_high c_low c_keyHigh c_keyLow)), ((hm 0), .inl (cy 1, 64, .inl c_ROUND)), ((hm 47), .inl (cy 1, 8, .inl c_START)), ((hm 40), .inl (cy 1, 256, .inl c_back)), ((hm 43), .inl (cy 1, 16, .inl c_block)), ((hm 46), .inl (cy 1, 512, .inl c_body)), ((hm 39), .inl (cy 1, 256, .inl c_box)), ((hm 6), .inl (cy 1, 512, .inl c_buffer)), ((hm 5), .inl (cy 1, 3, .inl c_counters_236)), ((hm 35), .inl (cy 1, 32, .inl c_digest)), ((hm 30), .inl (cy 1, 8, .inl c_h)), ((hm 12), .inl (cy 1, 16, .inl c_holder)), ((hm 36), .inl (cy 1, 32, .inl c_inner)), ((hm 25), .inl (cy 1, 32, .inl c_k)), ((hm 14), .inl (cy 1, 1024, .inl c_keys)), ((hm 9), .inl (cy 1, 16, .inl c_kind)), ((hm 10), .inl (cy 1, 16, .inl c_length)), ((hm 33), .inl (cy 1, 64, .inl c_message)), ((hm 44), .inl (cy 1, 16, .inl c_other)), ((hm 45), .inl (cy 1, 600, .inl c_result)), ((hm 41), .inl (cy 1, 240, .inl c_round)), ((hm 37), .inl (cy 1, 64, .inl c_secret)), ((hm 11), .inl (cy 1, 16, .inl c_usage)), ((hm 13), .inl (cy 1, 16, .inl c_uses)), ((hm 26), .inl (cy 1, 32, .inl c_v)), ((hm 31), .inl (cy 1, 64, .inl c_w)), ((hm 16), .inl (cy 1, 64, .inl c_word)), ((hm 32), .inl (cy 1, 8, .inl c_x))]) H := hP
            replace hD : va_D A ([(h0, .inr (12, zmo hm (0 : Int32) c_state c_test c_words c_ill c_before c_inRow c_first c_inWindow c_same c_made c_requests c_total c_secrets c_rounds c_high c_low c_keyHigh c_keyLow)), ((hm 0), .inl (cy 1, 64, .inl c_ROUND)), ((hm 47), .inl (cy 1, 8, .inl c_START)), ((hm 40), .inl (cy 1, 256, .inl c_back)), ((hm 43), .inl (cy 1, 16, .inl c_block)), ((hm 46), .inl (cy 1, 512, .inl c_body)), ((hm 39), .inl (cy 1, 256, .inl c_box)), ((hm 6), .inl (cy 1, 512, .inl c_buffer)), ((hm 5), .inl (cy 1, 3, .inl c_counters_236)), ((hm 35), .inl (cy 1, 32, .inl c_digest)), ((hm 30), .inl (cy 1, 8, .inl c_h)), ((hm 12), .inl (cy 1, 16, .inl c_holder)), ((hm 36), .inl (cy 1, 32, .inl c_inner)), ((hm 25), .inl (cy 1, 32, .inl c_k)), ((hm 14), .inl (cy 1, 1024, .inl c_keys)), ((hm 9), .inl (cy 1, 16, .inl c_kind)), ((hm 10), .inl (cy 1, 16, .inl c_length)), ((hm 33), .inl (cy 1, 64, .inl c_message)), ((hm 44), .inl (cy 1, 16, .inl c_other)), ((hm 45), .inl (cy 1, 600, .inl c_result)), ((hm 41), .inl (cy 1, 240, .inl c_round)), ((hm 37), .inl (cy 1, 64, .inl c_secret)), ((hm 11), .inl (cy 1, 16, .inl c_usage)), ((hm 13), .inl (cy 1, 16, .inl c_uses)), ((hm 26), .inl (cy 1, 32, .inl c_v)), ((hm 31), .inl (cy 1, 64, .inl c_w)), ((hm 16), .inl (cy 1, 64, .inl c_word)), ((hm 32), .inl (cy 1, 8, .inl c_x))]) := hD
            refine W.eq (g2 := F0 m 201 ls [.int r_235]) rfl ?_
            cases hf
            exact W.iret (pc := 201) hx hb hr (fun t ht hW => ⟨rfl, ⟨by rw [ht]; exact hP, hD⟩, hS.F ht⟩) hS.2.2 (zdt_at zt_X10_run_1 43 rfl)
          replace hf := ze_s cn_ hf
          clear cn_
          refine lv_aload_n (pc := 202) hx hb (zdt_at zt_X10_run_1 44 rfl) rfl (lv_at hl 0 rfl) ?_
          refine va_get (pc := 203) (D := D) (ci := 12) (v := .ref (hm 13)) (C := RX10) (T := TX10) (N := 52) hx hb hts hcX10 hown hK hP 0 rfl rfl 13 (by decide) hw6 (fun _ h9 => h9) rfl (zdt_at zt_X10_run_1 45 rfl) ?_
          refine lv_iload_n (pc := 206) hx hb (zdt_at zt_X10_run_1 46 rfl) rfl (lv_at hl 2 rfl) ?_
          replace hf := zk_s hf
          refine va_iald (pc := 207) hx hb hK hP 23 1 rfl rfl hf.1 (zdt_at zt_X10_run_1 47 rfl) ?_
          replace hf := hf.2
          refine lv_if_ne (pc := 208) (tgt := 218) hx hb (zdt_at zt_X10_run_1 48 rfl) (by decide) (fun cn_ => ?t_223) (fun cn_ => ?f_224)
          case f_224 =>
            replace hf := zt_s cn_ hf
            clear cn_
            refine lv_aload_n (pc := 211) hx hb (zdt_at zt_X10_run_1 49 rfl) rfl (lv_at hl 0 rfl) ?_
            refine lv_bipush (pc := 212) (v := (-7 : Int32)) hx hb (zdt_at zt_X10_run_1 50 rfl) (by decide) ?_
            replace hf := zb_s hf
            obtain ⟨⟨r_233, c_counters_234⟩, hc_, hf⟩ := hf
            refine zcn2 (pc := 214) (rv := (some (.int r_233))) (va_runV (As := [.int (-7 : Int32)]) (rest := []) ⟨hx, hb, hml, hown, hts⟩ (c_X10_answer l D cy tt H.size h0 hm (-7 : Int32) c_counters (0 : Int32) c_state c_test c_words c_ill c_before c_inRow c_first c_inWindow c_same c_made c_requests c_total c_secrets c_rounds c_high c_low c_keyHigh c_keyLow r_233 c_counters_234 hc_) (cwV 1 hts gX10_run_X10_answer rfl rfl rfl (by decide +kernel) ⟨Nat.le_of_ble_eq_true rfl, Nat.le_of_ble_eq_true rfl⟩) ⟨zblind, va_recv hK hP (ci := 12) (q0 := 0) rfl rfl, zpre hE hS (hP.sub [0, 8] rfl) (hD.sub [0, 8] (by decide) rfl) (va_free hD hS hA [0, 8] rfl)⟩ rfl rfl hl.1 rfl (lv_room (Nat.le_of_ble_eq_true rfl)) (zdt_at zt_X10_run_1 51 rfl) ⟨Nat.zero_le _, Nat.zero_le _⟩) hS hP hD (va_free hD hS hA [0, 8] rfl) [0, 8] rfl (by decide) rfl ?_
            clear hP hD hS hc_
            intro H locs hP hD hS
            replace hP : va_P D vwCl ([(h0, .inr (12, zmo hm (0 : Int32) c_state c_test c_words c_ill c_before c_inRow c_first c_inWindow c_same c_made c_requests c_total c_secrets c_rounds c_high c_low c_keyHigh c_keyLow)), ((hm 0), .inl (cy 1, 64, .inl c_ROUND)), ((hm 47), .inl (cy 1, 8, .inl c_START)), ((hm 40), .inl (cy 1, 256, .inl c_back)), ((hm 43), .inl (cy 1, 16, .inl c_block)), ((hm 46), .inl (cy 1, 512, .inl c_body)), ((hm 39), .inl (cy 1, 256, .inl c_box)), ((hm 6), .inl (cy 1, 512, .inl c_buffer)), ((hm 5), .inl (cy 1, 3, .inl c_counters_234)), ((hm 35), .inl (cy 1, 32, .inl c_digest)), ((hm 30), .inl (cy 1, 8, .inl c_h)), ((hm 12), .inl (cy 1, 16, .inl c_holder)), ((hm 36), .inl (cy 1, 32, .inl c_inner)), ((hm 25), .inl (cy 1, 32, .inl c_k)), ((hm 14), .inl (cy 1, 1024, .inl c_keys)), ((hm 9), .inl (cy 1, 16, .inl c_kind)), ((hm 10), .inl (cy 1, 16, .inl c_length)), ((hm 33), .inl (cy 1, 64, .inl c_message)), ((hm 44), .inl (cy 1, 16, .inl c_other)), ((hm 45), .inl (cy 1, 600, .inl c_result)), ((hm 41), .inl (cy 1, 240, .inl c_round)), ((hm 37), .inl (cy 1, 64, .inl c_secret)), ((hm 11), .inl (cy 1, 16, .inl c_usage)), ((hm 13), .inl (cy 1, 16, .inl c_uses)), ((hm 26), .inl (cy 1, 32, .inl c_v)), ((hm 31), .inl (cy 1, 64, .inl c_w)), ((hm 16), .inl (cy 1, 64, .inl c_word)), ((hm 32), .inl (cy 1, 8, .inl c_x))]) H := hP
            replace hD : va_D A ([(h0, .inr (12, zmo hm (0 : Int32) c_state c_test c_words c_ill c_before c_inRow c_first c_inWindow c_same c_made c_requests c_total c_secrets c_rounds c_high c_low c_keyHigh c_keyLow)), ((hm 0), .inl (cy 1, 64, .inl c_ROUND)), ((hm 47), .inl (cy 1, 8, .inl c_START)), ((hm 40), .inl (cy 1, 256, .inl c_back)), ((hm 43), .inl (cy 1, 16, .inl c_block)), ((hm 46), .inl (cy 1, 512, .inl c_body)), ((hm 39), .inl (cy 1, 256, .inl c_box)), ((hm 6), .inl (cy 1, 512, .inl c_buffer)), ((hm 5), .inl (cy 1, 3, .inl c_counters_234)), ((hm 35), .inl (cy 1, 32, .inl c_digest)), ((hm 30), .inl (cy 1, 8, .inl c_h)), ((hm 12), .inl (cy 1, 16, .inl c_holder)), ((hm 36), .inl (cy 1, 32, .inl c_inner)), ((hm 25), .inl (cy 1, 32, .inl c_k)), ((hm 14), .inl (cy 1, 1024, .inl c_keys)), ((hm 9), .inl (cy 1, 16, .inl c_kind)), ((hm 10), .inl (cy 1, 16, .inl c_length)), ((hm 33), .inl (cy 1, 64, .inl c_message)), ((hm 44), .inl (cy 1, 16, .inl c_other)), ((hm 45), .inl (cy 1, 600, .inl c_result)), ((hm 41), .inl (cy 1, 240, .inl c_round)), ((hm 37), .inl (cy 1, 64, .inl c_secret)), ((hm 11), .inl (cy 1, 16, .inl c_usage)), ((hm 13), .inl (cy 1, 16, .inl c_uses)), ((hm 26), .inl (cy 1, 32, .inl c_v)), ((hm 31), .inl (cy 1, 64, .inl c_w)), ((hm 16), .inl (cy 1, 64, .inl c_word)), ((hm 32), .inl (cy 1, 8, .inl c_x))]) := hD
            refine W.eq (g2 := F0 m 217 ls [.int r_233]) rfl ?_
            cases hf
            exact W.iret (pc := 217) hx hb hr (fun t ht hW => ⟨rfl, ⟨by rw [ht]; exact hP, hD⟩, hS.F ht⟩) hS.2.2 (zdt_at zt_X10_run_1 52 rfl)
          replace hf := ze_s cn_ hf
          clear cn_
          refine lv_aload_n (pc := 218) hx hb (zdt_at zt_X10_run_1 53 rfl) rfl (lv_at hl 0 rfl) ?_
          refine lv_iload_n (pc := 219) hx hb (zdt_at zt_X10_run_1 54 rfl) rfl (lv_at hl 2 rfl) ?_
          replace hf := zb_s hf
          obtain ⟨c_uses_225, hc_, hf⟩ := hf
          refine zcn2 (pc := 220) (rv := none) (va_runV (As := [.int p2]) (rest := []) ⟨hx, hb, hml, hown, hts⟩ (c_X10_use l D cy tt H.size h0 hm p2 c_uses (0 : Int32) c_state c_test c_words c_ill c_before c_inRow c_first c_inWindow c_same c_made c_requests c_total c_secrets c_rounds c_high c_low c_keyHigh c_keyLow c_uses_225 hc_) (cwV 1 hts gX10_run_X10_use rfl rfl rfl (by decide +kernel) ⟨Nat.le_of_ble_eq_true rfl, Nat.le_of_ble_eq_true rfl⟩) ⟨zblind, va_recv hK hP (ci := 12) (q0 := 0) rfl rfl, zpre hE hS (hP.sub [0, 23] rfl) (hD.sub [0, 23] (by decide) rfl) (va_free hD hS hA [0, 23] rfl)⟩ rfl rfl hl.1 rfl (lv_room (Nat.le_of_ble_eq_true rfl)) (zdt_at zt_X10_run_1 55 rfl) ⟨Nat.zero_le _, Nat.zero_le _⟩) hS hP hD (va_free hD hS hA [0, 23] rfl) [0, 23] rfl (by decide) rfl ?_
          clear hP hD hS hc_
          intro H locs hP hD hS
          replace hP : va_P D vwCl ([(h0, .inr (12, zmo hm (0 : Int32) c_state c_test c_words c_ill c_before c_inRow c_first c_inWindow c_same c_made c_requests c_total c_secrets c_rounds c_high c_low c_keyHigh c_keyLow)), ((hm 0), .inl (cy 1, 64, .inl c_ROUND)), ((hm 47), .inl (cy 1, 8, .inl c_START)), ((hm 40), .inl (cy 1, 256, .inl c_back)), ((hm 43), .inl (cy 1, 16, .inl c_block)), ((hm 46), .inl (cy 1, 512, .inl c_body)), ((hm 39), .inl (cy 1, 256, .inl c_box)), ((hm 6), .inl (cy 1, 512, .inl c_buffer)), ((hm 5), .inl (cy 1, 3, .inl c_counters)), ((hm 35), .inl (cy 1, 32, .inl c_digest)), ((hm 30), .inl (cy 1, 8, .inl c_h)), ((hm 12), .inl (cy 1, 16, .inl c_holder)), ((hm 36), .inl (cy 1, 32, .inl c_inner)), ((hm 25), .inl (cy 1, 32, .inl c_k)), ((hm 14), .inl (cy 1, 1024, .inl c_keys)), ((hm 9), .inl (cy 1, 16, .inl c_kind)), ((hm 10), .inl (cy 1, 16, .inl c_length)), ((hm 33), .inl (cy 1, 64, .inl c_message)), ((hm 44), .inl (cy 1, 16, .inl c_other)), ((hm 45), .inl (cy 1, 600, .inl c_result)), ((hm 41), .inl (cy 1, 240, .inl c_round)), ((hm 37), .inl (cy 1, 64, .inl c_secret)), ((hm 11), .inl (cy 1, 16, .inl c_usage)), ((hm 13), .inl (cy 1, 16, .inl c_uses_225)), ((hm 26), .inl (cy 1, 32, .inl c_v)), ((hm 31), .inl (cy 1, 64, .inl c_w)), ((hm 16), .inl (cy 1, 64, .inl c_word)), ((hm 32), .inl (cy 1, 8, .inl c_x))]) H := hP
          replace hD : va_D A ([(h0, .inr (12, zmo hm (0 : Int32) c_state c_test c_words c_ill c_before c_inRow c_first c_inWindow c_same c_made c_requests c_total c_secrets c_rounds c_high c_low c_keyHigh c_keyLow)), ((hm 0), .inl (cy 1, 64, .inl c_ROUND)), ((hm 47), .inl (cy 1, 8, .inl c_START)), ((hm 40), .inl (cy 1, 256, .inl c_back)), ((hm 43), .inl (cy 1, 16, .inl c_block)), ((hm 46), .inl (cy 1, 512, .inl c_body)), ((hm 39), .inl (cy 1, 256, .inl c_box)), ((hm 6), .inl (cy 1, 512, .inl c_buffer)), ((hm 5), .inl (cy 1, 3, .inl c_counters)), ((hm 35), .inl (cy 1, 32, .inl c_digest)), ((hm 30), .inl (cy 1, 8, .inl c_h)), ((hm 12), .inl (cy 1, 16, .inl c_holder)), ((hm 36), .inl (cy 1, 32, .inl c_inner)), ((hm 25), .inl (cy 1, 32, .inl c_k)), ((hm 14), .inl (cy 1, 1024, .inl c_keys)), ((hm 9), .inl (cy 1, 16, .inl c_kind)), ((hm 10), .inl (cy 1, 16, .inl c_length)), ((hm 33), .inl (cy 1, 64, .inl c_message)), ((hm 44), .inl (cy 1, 16, .inl c_other)), ((hm 45), .inl (cy 1, 600, .inl c_result)), ((hm 41), .inl (cy 1, 240, .inl c_round)), ((hm 37), .inl (cy 1, 64, .inl c_secret)), ((hm 11), .inl (cy 1, 16, .inl c_usage)), ((hm 13), .inl (cy 1, 16, .inl c_uses_225)), ((hm 26), .inl (cy 1, 32, .inl c_v)), ((hm 31), .inl (cy 1, 64, .inl c_w)), ((hm 16), .inl (cy 1, 64, .inl c_word)), ((hm 32), .inl (cy 1, 8, .inl c_x))]) := hD
          refine W.eq (g2 := F0 m 223 ls []) rfl ?_
          refine lv_iload_n (pc := 223) hx hb (zdt_at zt_X10_run_1 56 rfl) rfl (lv_at hl 1 rfl) ?_
          refine lv_bipush (pc := 224) (v := (10 : Int32)) hx hb (zdt_at zt_X10_run_1 57 rfl) (by decide) ?_
          replace hf := zj_s hf
          obtain ⟨K_228, eK_228, hf⟩ := hf
          have kK_228 : ∀ (c_round_226 : Nat → Int32) (c_rounds_227 : Int32) (H : Heap) (locs : List Loc) (ls : Array Slot), va_P D vwCl ([(h0, .inr (12, zmo hm (0 : Int32) c_state c_test c_words c_ill c_before c_inRow c_first c_inWindow c_same c_made c_requests c_total c_secrets c_rounds_227 c_high c_low c_keyHigh c_keyLow)), ((hm 0), .inl (cy 1, 64, .inl c_ROUND)), ((hm 47), .inl (cy 1, 8, .inl c_START)), ((hm 40), .inl (cy 1, 256, .inl c_back)), ((hm 43), .inl (cy 1, 16, .inl c_block)), ((hm 46), .inl (cy 1, 512, .inl c_body)), ((hm 39), .inl (cy 1, 256, .inl c_box)), ((hm 6), .inl (cy 1, 512, .inl c_buffer)), ((hm 5), .inl (cy 1, 3, .inl c_counters)), ((hm 35), .inl (cy 1, 32, .inl c_digest)), ((hm 30), .inl (cy 1, 8, .inl c_h)), ((hm 12), .inl (cy 1, 16, .inl c_holder)), ((hm 36), .inl (cy 1, 32, .inl c_inner)), ((hm 25), .inl (cy 1, 32, .inl c_k)), ((hm 14), .inl (cy 1, 1024, .inl c_keys)), ((hm 9), .inl (cy 1, 16, .inl c_kind)), ((hm 10), .inl (cy 1, 16, .inl c_length)), ((hm 33), .inl (cy 1, 64, .inl c_message)), ((hm 44), .inl (cy 1, 16, .inl c_other)), ((hm 45), .inl (cy 1, 600, .inl c_result)), ((hm 41), .inl (cy 1, 240, .inl c_round_226)), ((hm 37), .inl (cy 1, 64, .inl c_secret)), ((hm 11), .inl (cy 1, 16, .inl c_usage)), ((hm 13), .inl (cy 1, 16, .inl c_uses_225)), ((hm 26), .inl (cy 1, 32, .inl c_v)), ((hm 31), .inl (cy 1, 64, .inl c_w)), ((hm 16), .inl (cy 1, 64, .inl c_word)), ((hm 32), .inl (cy 1, 8, .inl c_x))]) H → va_D A ([(h0, .inr (12, zmo hm (0 : Int32) c_state c_test c_words c_ill c_before c_inRow c_first c_inWindow c_same c_made c_requests c_total c_secrets c_rounds_227 c_high c_low c_keyHigh c_keyLow)), ((hm 0), .inl (cy 1, 64, .inl c_ROUND)), ((hm 47), .inl (cy 1, 8, .inl c_START)), ((hm 40), .inl (cy 1, 256, .inl c_back)), ((hm 43), .inl (cy 1, 16, .inl c_block)), ((hm 46), .inl (cy 1, 512, .inl c_body)), ((hm 39), .inl (cy 1, 256, .inl c_box)), ((hm 6), .inl (cy 1, 512, .inl c_buffer)), ((hm 5), .inl (cy 1, 3, .inl c_counters)), ((hm 35), .inl (cy 1, 32, .inl c_digest)), ((hm 30), .inl (cy 1, 8, .inl c_h)), ((hm 12), .inl (cy 1, 16, .inl c_holder)), ((hm 36), .inl (cy 1, 32, .inl c_inner)), ((hm 25), .inl (cy 1, 32, .inl c_k)), ((hm 14), .inl (cy 1, 1024, .inl c_keys)), ((hm 9), .inl (cy 1, 16, .inl c_kind)), ((hm 10), .inl (cy 1, 16, .inl c_length)), ((hm 33), .inl (cy 1, 64, .inl c_message)), ((hm 44), .inl (cy 1, 16, .inl c_other)), ((hm 45), .inl (cy 1, 600, .inl c_result)), ((hm 41), .inl (cy 1, 240, .inl c_round_226)), ((hm 37), .inl (cy 1, 64, .inl c_secret)), ((hm 11), .inl (cy 1, 16, .inl c_usage)), ((hm 13), .inl (cy 1, 16, .inl c_uses_225)), ((hm 26), .inl (cy 1, 32, .inl c_v)), ((hm 31), .inl (cy 1, 64, .inl c_w)), ((hm 16), .inl (cy 1, 64, .inl c_word)), ((hm 32), .inl (cy 1, 8, .inl c_x))]) → va_S A s.heap H locs → lv_has ls 8 [(0, .ref h0), (1, .int p1), (2, .int p2), (3, .int p3), (4, .int p4), (5, .int p5)] → K_228 c_round_226 c_rounds_227 = some (r_, c_high', c_keyHigh', c_keyLow', c_low', c_made', c_requests', c_rounds', c_secrets', c_thrown', c_total', c_words', c_block', c_body', c_buffer', c_counters', c_digest', c_h', c_inner', c_k', c_message', c_other', c_result', c_round', c_secret', c_uses', c_v', c_w', c_word', c_x') → GW H locs (F0 m 234 ls []) := by
            clear hf hl hP hD hS
            intro c_round_226 c_rounds_227 H locs ls hP hD hS hl hf
            rw [eK_228] at hf
            clear eK_228
            refine hFr _ _ _ ?_
            refine lv_goto (pc := 234) (tgt := 257) hx hb (zdt_at zt_X10_run_1 62 rfl) (by decide) ?_
            exact hTo _ _ _ (kK_18 _ _ _ H locs ls hP hD hS (lv_sub hl [0, 1, 2, 3, 4, 5] rfl) hf)
          clear eK_228
          refine lv_icmp_ge (pc := 226) (tgt := 234) hx hb (zdt_at zt_X10_run_1 58 rfl) (by decide) (fun cn_ => ?t_229) (fun cn_ => ?f_230)
          case t_229 =>
            replace hf := zt_s cn_ hf
            clear cn_
            exact hTo _ _ _ (kK_228 _ _ H locs ls hP hD hS (lv_sub hl [0, 1, 2, 3, 4, 5] rfl) hf)
          replace hf := ze_s cn_ hf
          clear cn_
          refine lv_aload_n (pc := 229) hx hb (zdt_at zt_X10_run_1 59 rfl) rfl (lv_at hl 0 rfl) ?_
          refine lv_iload_n (pc := 230) hx hb (zdt_at zt_X10_run_1 60 rfl) rfl (lv_at hl 2 rfl) ?_
          replace hf := zb_s hf
          obtain ⟨⟨c_rounds_231, c_round_232⟩, hc_, hf⟩ := hf
          refine zcn2 (pc := 231) (rv := none) (va_runV (As := [.int p2]) (rest := []) ⟨hx, hb, hml, hown, hts⟩ (c_X10_schedule l D cy tt H.size h0 hm p2 c_rounds c_box c_keys c_length c_round (0 : Int32) c_state c_test c_words c_ill c_before c_inRow c_first c_inWindow c_same c_made c_requests c_total c_secrets c_high c_low c_keyHigh c_keyLow c_rounds_231 c_round_232 hc_) (cwV 1 hts gX10_run_X10_schedule rfl rfl rfl (by decide +kernel) ⟨Nat.le_of_ble_eq_true rfl, Nat.le_of_ble_eq_true rfl⟩) ⟨zblind, va_recv hK hP (ci := 12) (q0 := 0) rfl rfl, zpre hE hS (hP.sub [0, 6, 14, 16, 20] rfl) (hD.sub [0, 6, 14, 16, 20] (by decide) rfl) (va_free hD hS hA [0, 6, 14, 16, 20] rfl)⟩ rfl rfl hl.1 rfl (lv_room (Nat.le_of_ble_eq_true rfl)) (zdt_at zt_X10_run_1 61 rfl) ⟨Nat.zero_le _, Nat.zero_le _⟩) hS hP hD (va_free hD hS hA [0, 6, 14, 16, 20] rfl) [0, 6, 14, 16, 20] rfl (by decide) rfl ?_
          clear hP hD hS hc_
          intro H locs hP hD hS
          replace hP : va_P D vwCl ([(h0, .inr (12, zmo hm (0 : Int32) c_state c_test c_words c_ill c_before c_inRow c_first c_inWindow c_same c_made c_requests c_total c_secrets c_rounds_231 c_high c_low c_keyHigh c_keyLow)), ((hm 0), .inl (cy 1, 64, .inl c_ROUND)), ((hm 47), .inl (cy 1, 8, .inl c_START)), ((hm 40), .inl (cy 1, 256, .inl c_back)), ((hm 43), .inl (cy 1, 16, .inl c_block)), ((hm 46), .inl (cy 1, 512, .inl c_body)), ((hm 39), .inl (cy 1, 256, .inl c_box)), ((hm 6), .inl (cy 1, 512, .inl c_buffer)), ((hm 5), .inl (cy 1, 3, .inl c_counters)), ((hm 35), .inl (cy 1, 32, .inl c_digest)), ((hm 30), .inl (cy 1, 8, .inl c_h)), ((hm 12), .inl (cy 1, 16, .inl c_holder)), ((hm 36), .inl (cy 1, 32, .inl c_inner)), ((hm 25), .inl (cy 1, 32, .inl c_k)), ((hm 14), .inl (cy 1, 1024, .inl c_keys)), ((hm 9), .inl (cy 1, 16, .inl c_kind)), ((hm 10), .inl (cy 1, 16, .inl c_length)), ((hm 33), .inl (cy 1, 64, .inl c_message)), ((hm 44), .inl (cy 1, 16, .inl c_other)), ((hm 45), .inl (cy 1, 600, .inl c_result)), ((hm 41), .inl (cy 1, 240, .inl c_round_232)), ((hm 37), .inl (cy 1, 64, .inl c_secret)), ((hm 11), .inl (cy 1, 16, .inl c_usage)), ((hm 13), .inl (cy 1, 16, .inl c_uses_225)), ((hm 26), .inl (cy 1, 32, .inl c_v)), ((hm 31), .inl (cy 1, 64, .inl c_w)), ((hm 16), .inl (cy 1, 64, .inl c_word)), ((hm 32), .inl (cy 1, 8, .inl c_x))]) H := hP
          replace hD : va_D A ([(h0, .inr (12, zmo hm (0 : Int32) c_state c_test c_words c_ill c_before c_inRow c_first c_inWindow c_same c_made c_requests c_total c_secrets c_rounds_231 c_high c_low c_keyHigh c_keyLow)), ((hm 0), .inl (cy 1, 64, .inl c_ROUND)), ((hm 47), .inl (cy 1, 8, .inl c_START)), ((hm 40), .inl (cy 1, 256, .inl c_back)), ((hm 43), .inl (cy 1, 16, .inl c_block)), ((hm 46), .inl (cy 1, 512, .inl c_body)), ((hm 39), .inl (cy 1, 256, .inl c_box)), ((hm 6), .inl (cy 1, 512, .inl c_buffer)), ((hm 5), .inl (cy 1, 3, .inl c_counters)), ((hm 35), .inl (cy 1, 32, .inl c_digest)), ((hm 30), .inl (cy 1, 8, .inl c_h)), ((hm 12), .inl (cy 1, 16, .inl c_holder)), ((hm 36), .inl (cy 1, 32, .inl c_inner)), ((hm 25), .inl (cy 1, 32, .inl c_k)), ((hm 14), .inl (cy 1, 1024, .inl c_keys)), ((hm 9), .inl (cy 1, 16, .inl c_kind)), ((hm 10), .inl (cy 1, 16, .inl c_length)), ((hm 33), .inl (cy 1, 64, .inl c_message)), ((hm 44), .inl (cy 1, 16, .inl c_other)), ((hm 45), .inl (cy 1, 600, .inl c_result)), ((hm 41), .inl (cy 1, 240, .inl c_round_232)), ((hm 37), .inl (cy 1, 64, .inl c_secret)), ((hm 11), .inl (cy 1, 16, .inl c_usage)), ((hm 13), .inl (cy 1, 16, .inl c_uses_225)), ((hm 26), .inl (cy 1, 32, .inl c_v)), ((hm 31), .inl (cy 1, 64, .inl c_w)), ((hm 16), .inl (cy 1, 64, .inl c_word)), ((hm 32), .inl (cy 1, 8, .inl c_x))]) := hD
          refine W.eq (g2 := F0 m 234 ls []) rfl ?_
          exact hTo _ _ _ (kK_228 _ _ H locs ls hP hD hS (lv_sub hl [0, 1, 2, 3, 4, 5] rfl) hf)
        clear eK_218
        refine lv_icmp_ne (pc := 165) (tgt := 172) hx hb (zdt_at zt_X10_run_1 24 rfl) (by decide) (fun cn_ => ?t_239) (fun cn_ => ?f_240)
        case t_239 =>
          replace hf := ze_s cn_ hf
          clear cn_
          refine lv_iconst (pc := 172) (v := (1 : Int32)) hx hb (zdt_at zt_X10_run_1 27 rfl) (by decide) ?_
          exact hTo _ _ _ (kK_218 _ H locs ls hP hD hS (lv_sub hl [1, 2, 3, 4, 5, 6, 0] rfl) hf)
        replace hf := zt_s cn_ hf
        clear cn_
        refine lv_iconst (pc := 168) (v := (2 : Int32)) hx hb (zdt_at zt_X10_run_1 25 rfl) (by decide) ?_
        refine lv_goto (pc := 169) (tgt := 173) hx hb (zdt_at zt_X10_run_1 26 rfl) (by decide) ?_
        exact hTo _ _ _ (kK_218 _ H locs ls hP hD hS (lv_sub hl [1, 2, 3, 4, 5, 6, 0] rfl) hf)
      clear eK_211
      replace hf := zj_s hf
      obtain ⟨K_245, eK_245, hf⟩ := hf
      have kK_245 : ∀  (H : Heap) (locs : List Loc) (ls : Array Slot), va_P D vwCl ([(h0, .inr (12, zmo hm (0 : Int32) c_state c_test c_words c_ill c_before c_inRow c_first c_inWindow c_same c_made c_requests c_total c_secrets c_rounds c_high c_low c_keyHigh c_keyLow)), ((hm 0), .inl (cy 1, 64, .inl c_ROUND)), ((hm 47), .inl (cy 1, 8, .inl c_START)), ((hm 40), .inl (cy 1, 256, .inl c_back)), ((hm 43), .inl (cy 1, 16, .inl c_block)), ((hm 46), .inl (cy 1, 512, .inl c_body)), ((hm 39), .inl (cy 1, 256, .inl c_box)), ((hm 6), .inl (cy 1, 512, .inl c_buffer)), ((hm 5), .inl (cy 1, 3, .inl c_counters)), ((hm 35), .inl (cy 1, 32, .inl c_digest)), ((hm 30), .inl (cy 1, 8, .inl c_h)), ((hm 12), .inl (cy 1, 16, .inl c_holder)), ((hm 36), .inl (cy 1, 32, .inl c_inner)), ((hm 25), .inl (cy 1, 32, .inl c_k)), ((hm 14), .inl (cy 1, 1024, .inl c_keys)), ((hm 9), .inl (cy 1, 16, .inl c_kind)), ((hm 10), .inl (cy 1, 16, .inl c_length)), ((hm 33), .inl (cy 1, 64, .inl c_message)), ((hm 44), .inl (cy 1, 16, .inl c_other)), ((hm 45), .inl (cy 1, 600, .inl c_result)), ((hm 41), .inl (cy 1, 240, .inl c_round)), ((hm 37), .inl (cy 1, 64, .inl c_secret)), ((hm 11), .inl (cy 1, 16, .inl c_usage)), ((hm 13), .inl (cy 1, 16, .inl c_uses)), ((hm 26), .inl (cy 1, 32, .inl c_v)), ((hm 31), .inl (cy 1, 64, .inl c_w)), ((hm 16), .inl (cy 1, 64, .inl c_word)), ((hm 32), .inl (cy 1, 8, .inl c_x))]) H → va_D A ([(h0, .inr (12, zmo hm (0 : Int32) c_state c_test c_words c_ill c_before c_inRow c_first c_inWindow c_same c_made c_requests c_total c_secrets c_rounds c_high c_low c_keyHigh c_keyLow)), ((hm 0), .inl (cy 1, 64, .inl c_ROUND)), ((hm 47), .inl (cy 1, 8, .inl c_START)), ((hm 40), .inl (cy 1, 256, .inl c_back)), ((hm 43), .inl (cy 1, 16, .inl c_block)), ((hm 46), .inl (cy 1, 512, .inl c_body)), ((hm 39), .inl (cy 1, 256, .inl c_box)), ((hm 6), .inl (cy 1, 512, .inl c_buffer)), ((hm 5), .inl (cy 1, 3, .inl c_counters)), ((hm 35), .inl (cy 1, 32, .inl c_digest)), ((hm 30), .inl (cy 1, 8, .inl c_h)), ((hm 12), .inl (cy 1, 16, .inl c_holder)), ((hm 36), .inl (cy 1, 32, .inl c_inner)), ((hm 25), .inl (cy 1, 32, .inl c_k)), ((hm 14), .inl (cy 1, 1024, .inl c_keys)), ((hm 9), .inl (cy 1, 16, .inl c_kind)), ((hm 10), .inl (cy 1, 16, .inl c_length)), ((hm 33), .inl (cy 1, 64, .inl c_message)), ((hm 44), .inl (cy 1, 16, .inl c_other)), ((hm 45), .inl (cy 1, 600, .inl c_result)), ((hm 41), .inl (cy 1, 240, .inl c_round)), ((hm 37), .inl (cy 1, 64, .inl c_secret)), ((hm 11), .inl (cy 1, 16, .inl c_usage)), ((hm 13), .inl (cy 1, 16, .inl c_uses)), ((hm 26), .inl (cy 1, 32, .inl c_v)), ((hm 31), .inl (cy 1, 64, .inl c_w)), ((hm 16), .inl (cy 1, 64, .inl c_word)), ((hm 32), .inl (cy 1, 8, .inl c_x))]) → va_S A s.heap H locs → lv_has ls 8 [(0, .ref h0), (1, .int p1), (2, .int p2), (3, .int p3), (4, .int p4), (5, .int p5)] → K_245 () = some (r_, c_high', c_keyHigh', c_keyLow', c_low', c_made', c_requests', c_rounds', c_secrets', c_thrown', c_total', c_words', c_block', c_body', c_buffer', c_counters', c_digest', c_h', c_inner', c_k', c_message', c_other', c_result', c_round', c_secret', c_uses', c_v', c_w', c_word', c_x') → GW H locs (F0 m 98 ls []) := by
        clear hf hl hP hD hS
        intro  H locs ls hP hD hS hl hf
        rw [eK_245] at hf
        clear eK_245
        refine hFr _ _ _ ?_
        refine lv_iconst (pc := 98) (v := (4 : Int32)) hx hb (zdt_at zt_X10_run_0 50 rfl) (by decide) ?_
        refine lv_goto (pc := 99) (tgt := 123) hx hb (zdt_at zt_X10_run_0 51 rfl) (by decide) ?_
        exact hTo _ _ _ (kK_211 _ H locs ls hP hD hS (lv_sub hl [0, 1, 2, 3, 4, 5] rfl) hf)
      clear eK_245
      refine lv_icmp_eq (pc := 89) (tgt := 98) hx hb (zdt_at zt_X10_run_0 46 rfl) (by decide) (fun cn_ => ?t_246) (fun cn_ => ?f_247)
      case t_246 =>
        replace hf := zt_s cn_ hf
        clear cn_
        exact hTo _ _ _ (kK_245  H locs ls hP hD hS (lv_sub hl [0, 1, 2, 3, 4, 5] rfl) hf)
      replace hf := ze_s cn_ hf
      clear cn_
      refine lv_iload_n (pc := 92) hx hb (zdt_at zt_X10_run_0 47 rfl) rfl (lv_at hl 1 rfl) ?_
      refine lv_bipush (pc := 93) (v := (10 : Int32)) hx hb (zdt_at zt_X10_run_0 48 rfl) (by decide) ?_
      refine lv_icmp_ne (pc := 95) (tgt := 102) hx hb (zdt_at zt_X10_run_0 49 rfl) (by decide) (fun cn_ => ?t_248) (fun cn_ => ?f_249)
      case f_249 =>
        replace hf := zt_s cn_ hf
        clear cn_
        exact hTo _ _ _ (kK_245  H locs ls hP hD hS (lv_sub hl [0, 1, 2, 3, 4, 5] rfl) hf)
      replace hf := ze_s cn_ hf
      clear cn_
      refine lv_iload_n (pc := 102) hx hb (zdt_at zt_X10_run_0 52 rfl) rfl (lv_at hl 1 rfl) ?_
      refine lv_iconst (pc := 103) (v := (2 : Int32)) hx hb (zdt_at zt_X10_run_0 53 rfl) (by decide) ?_
      replace hf := zj_s hf
      obtain ⟨K_250, eK_250, hf⟩ := hf
      have kK_250 : ∀  (H : Heap) (locs : List Loc) (ls : Array Slot), va_P D vwCl ([(h0, .inr (12, zmo hm (0 : Int32) c_state c_test c_words c_ill c_before c_inRow c_first c_inWindow c_same c_made c_requests c_total c_secrets c_rounds c_high c_low c_keyHigh c_keyLow)), ((hm 0), .inl (cy 1, 64, .inl c_ROUND)), ((hm 47), .inl (cy 1, 8, .inl c_START)), ((hm 40), .inl (cy 1, 256, .inl c_back)), ((hm 43), .inl (cy 1, 16, .inl c_block)), ((hm 46), .inl (cy 1, 512, .inl c_body)), ((hm 39), .inl (cy 1, 256, .inl c_box)), ((hm 6), .inl (cy 1, 512, .inl c_buffer)), ((hm 5), .inl (cy 1, 3, .inl c_counters)), ((hm 35), .inl (cy 1, 32, .inl c_digest)), ((hm 30), .inl (cy 1, 8, .inl c_h)), ((hm 12), .inl (cy 1, 16, .inl c_holder)), ((hm 36), .inl (cy 1, 32, .inl c_inner)), ((hm 25), .inl (cy 1, 32, .inl c_k)), ((hm 14), .inl (cy 1, 1024, .inl c_keys)), ((hm 9), .inl (cy 1, 16, .inl c_kind)), ((hm 10), .inl (cy 1, 16, .inl c_length)), ((hm 33), .inl (cy 1, 64, .inl c_message)), ((hm 44), .inl (cy 1, 16, .inl c_other)), ((hm 45), .inl (cy 1, 600, .inl c_result)), ((hm 41), .inl (cy 1, 240, .inl c_round)), ((hm 37), .inl (cy 1, 64, .inl c_secret)), ((hm 11), .inl (cy 1, 16, .inl c_usage)), ((hm 13), .inl (cy 1, 16, .inl c_uses)), ((hm 26), .inl (cy 1, 32, .inl c_v)), ((hm 31), .inl (cy 1, 64, .inl c_w)), ((hm 16), .inl (cy 1, 64, .inl c_word)), ((hm 32), .inl (cy 1, 8, .inl c_x))]) H → va_D A ([(h0, .inr (12, zmo hm (0 : Int32) c_state c_test c_words c_ill c_before c_inRow c_first c_inWindow c_same c_made c_requests c_total c_secrets c_rounds c_high c_low c_keyHigh c_keyLow)), ((hm 0), .inl (cy 1, 64, .inl c_ROUND)), ((hm 47), .inl (cy 1, 8, .inl c_START)), ((hm 40), .inl (cy 1, 256, .inl c_back)), ((hm 43), .inl (cy 1, 16, .inl c_block)), ((hm 46), .inl (cy 1, 512, .inl c_body)), ((hm 39), .inl (cy 1, 256, .inl c_box)), ((hm 6), .inl (cy 1, 512, .inl c_buffer)), ((hm 5), .inl (cy 1, 3, .inl c_counters)), ((hm 35), .inl (cy 1, 32, .inl c_digest)), ((hm 30), .inl (cy 1, 8, .inl c_h)), ((hm 12), .inl (cy 1, 16, .inl c_holder)), ((hm 36), .inl (cy 1, 32, .inl c_inner)), ((hm 25), .inl (cy 1, 32, .inl c_k)), ((hm 14), .inl (cy 1, 1024, .inl c_keys)), ((hm 9), .inl (cy 1, 16, .inl c_kind)), ((hm 10), .inl (cy 1, 16, .inl c_length)), ((hm 33), .inl (cy 1, 64, .inl c_message)), ((hm 44), .inl (cy 1, 16, .inl c_other)), ((hm 45), .inl (cy 1, 600, .inl c_result)), ((hm 41), .inl (cy 1, 240, .inl c_round)), ((hm 37), .inl (cy 1, 64, .inl c_secret)), ((hm 11), .inl (cy 1, 16, .inl c_usage)), ((hm 13), .inl (cy 1, 16, .inl c_uses)), ((hm 26), .inl (cy 1, 32, .inl c_v)), ((hm 31), .inl (cy 1, 64, .inl c_w)), ((hm 16), .inl (cy 1, 64, .inl c_word)), ((hm 32), .inl (cy 1, 8, .inl c_x))]) → va_S A s.heap H locs → lv_has ls 8 [(0, .ref h0), (1, .int p1), (2, .int p2), (3, .int p3), (4, .int p4), (5, .int p5)] → K_250 () = some (r_, c_high', c_keyHigh', c_keyLow', c_low', c_made', c_requests', c_rounds', c_secrets', c_thrown', c_total', c_words', c_block', c_body', c_buffer', c_counters', c_digest', c_h', c_inner', c_k', c_message', c_other', c_result', c_round', c_secret', c_uses', c_v', c_w', c_word', c_x') → GW H locs (F0 m 118 ls []) := by
        clear hf hl hP hD hS
        intro  H locs ls hP hD hS hl hf
        rw [eK_250] at hf
        clear eK_250
        refine hFr _ _ _ ?_
        refine lv_iconst (pc := 118) (v := (2 : Int32)) hx hb (zdt_at zt_X10_run_0 61 rfl) (by decide) ?_
        refine lv_goto (pc := 119) (tgt := 123) hx hb (zdt_at zt_X10_run_0 62 rfl) (by decide) ?_
        exact hTo _ _ _ (kK_211 _ H locs ls hP hD hS (lv_sub hl [0, 1, 2, 3, 4, 5] rfl) hf)
      clear eK_250
      refine lv_icmp_eq (pc := 104) (tgt := 118) hx hb (zdt_at zt_X10_run_0 54 rfl) (by decide) (fun cn_ => ?t_251) (fun cn_ => ?f_252)
      case t_251 =>
        replace hf := zt_s cn_ hf
        clear cn_
        exact hTo _ _ _ (kK_250  H locs ls hP hD hS (lv_sub hl [0, 1, 2, 3, 4, 5] rfl) hf)
      replace hf := ze_s cn_ hf
      clear cn_
      refine lv_iload_n (pc := 107) hx hb (zdt_at zt_X10_run_0 55 rfl) rfl (lv_at hl 1 rfl) ?_
      refine lv_iconst (pc := 108) (v := (4 : Int32)) hx hb (zdt_at zt_X10_run_0 56 rfl) (by decide) ?_
      refine lv_icmp_eq (pc := 109) (tgt := 118) hx hb (zdt_at zt_X10_run_0 57 rfl) (by decide) (fun cn_ => ?t_253) (fun cn_ => ?f_254)
      case t_253 =>
        replace hf := zt_s cn_ hf
        clear cn_
        exact hTo _ _ _ (kK_250  H locs ls hP hD hS (lv_sub hl [0, 1, 2, 3, 4, 5] rfl) hf)
      replace hf := ze_s cn_ hf
      clear cn_
      refine lv_iload_n (pc := 112) hx hb (zdt_at zt_X10_run_0 58 rfl) rfl (lv_at hl 1 rfl) ?_
      refine lv_bipush (pc := 113) (v := (7 : Int32)) hx hb (zdt_at zt_X10_run_0 59 rfl) (by decide) ?_
      refine lv_icmp_ne (pc := 115) (tgt := 122) hx hb (zdt_at zt_X10_run_0 60 rfl) (by decide) (fun cn_ => ?t_255) (fun cn_ => ?f_256)
      case f_256 =>
        replace hf := zt_s cn_ hf
        clear cn_
        exact hTo _ _ _ (kK_250  H locs ls hP hD hS (lv_sub hl [0, 1, 2, 3, 4, 5] rfl) hf)
      replace hf := ze_s cn_ hf
      clear cn_
      refine lv_iconst (pc := 122) (v := (1 : Int32)) hx hb (zdt_at zt_X10_run_0 63 rfl) (by decide) ?_
      exact hTo _ _ _ (kK_211 _ H locs ls hP hD hS (lv_sub hl [0, 1, 2, 3, 4, 5] rfl) hf)
    clear eK_11
    refine lv_if_eq (pc := 49) (tgt := 62) hx hb (zdt_at zt_X10_run_0 26 rfl) (by decide) (fun cn_ => ?t_259) (fun cn_ => ?f_260)
    case t_259 =>
      replace hf := zt_s cn_ hf
      clear cn_
      exact hTo _ _ _ (kK_11  H locs ls hP hD hS (lv_sub hl [1, 2, 3, 4, 5, 6, 0] rfl) hf)
    replace hf := ze_s cn_ hf
    clear cn_
    refine lv_iload_n (pc := 52) hx hb (zdt_at zt_X10_run_0 27 rfl) rfl (lv_at hl 3 rfl) ?_
    refine lv_iconst (pc := 53) (v := (0 : Int32)) hx hb (zdt_at zt_X10_run_0 28 rfl) (by decide) ?_
    refine lv_bipush (pc := 54) (v := (15 : Int32)) hx hb (zdt_at zt_X10_run_0 29 rfl) (by decide) ?_
    replace hf := zb_s hf
    obtain ⟨r_261, hc_, hf⟩ := hf
    refine zcs (pc := 56) (rv := (some (.int r_261))) (va_runS (As := [.int p2, .int (0 : Int32), .int (15 : Int32)]) (rest := []) ⟨hx, hb, hml, hown, hts⟩ (c_X10_in l D cy tt H.size p2 (0 : Int32) (15 : Int32) r_261 hc_) (va_cwS 3 hts gX10_run_X10_in rfl rfl rfl (by decide +kernel) ⟨Nat.le_of_ble_eq_true rfl, Nat.le_of_ble_eq_true rfl⟩) ⟨zblind, zpre hE hS (hP.sub [] rfl) (hD.sub [] (by decide) rfl) (va_free hD hS hA [] rfl)⟩ rfl rfl hl.1 rfl (lv_room (Nat.le_of_ble_eq_true rfl)) (zdt_at zt_X10_run_0 30 rfl) ⟨Nat.zero_le _, Nat.zero_le _⟩) ?_
    clear hc_
    refine W.eq (g2 := F0 m 59 ls [.int r_261]) rfl ?_
    refine lv_if_eq (pc := 59) (tgt := 74) hx hb (zdt_at zt_X10_run_0 31 rfl) (by decide) (fun cn_ => ?t_262) (fun cn_ => ?f_263)
    case f_263 =>
      replace hf := ze_s cn_ hf
      clear cn_
      exact hTo _ _ _ (kK_11  H locs ls hP hD hS (lv_sub hl [1, 2, 3, 4, 5, 6, 0] rfl) hf)
    replace hf := zt_s cn_ hf
    clear cn_
    refine lv_aload_n (pc := 74) hx hb (zdt_at zt_X10_run_0 38 rfl) rfl (lv_at hl 1 rfl) ?_
    refine lv_bipush (pc := 75) (v := (-2 : Int32)) hx hb (zdt_at zt_X10_run_0 39 rfl) (by decide) ?_
    replace hf := zb_s hf
    obtain ⟨⟨r_264, c_counters_265⟩, hc_, hf⟩ := hf
    refine zcn2 (pc := 77) (rv := (some (.int r_264))) (va_runV (As := [.int (-2 : Int32)]) (rest := []) ⟨hx, hb, hml, hown, hts⟩ (c_X10_answer l D cy tt H.size h0 hm (-2 : Int32) c_counters (0 : Int32) c_state c_test c_words c_ill c_before c_inRow c_first c_inWindow c_same c_made c_requests c_total c_secrets c_rounds c_high c_low c_keyHigh c_keyLow r_264 c_counters_265 hc_) (cwV 1 hts gX10_run_X10_answer rfl rfl rfl (by decide +kernel) ⟨Nat.le_of_ble_eq_true rfl, Nat.le_of_ble_eq_true rfl⟩) ⟨zblind, va_recv hK hP (ci := 12) (q0 := 0) rfl rfl, zpre hE hS (hP.sub [0, 8] rfl) (hD.sub [0, 8] (by decide) rfl) (va_free hD hS hA [0, 8] rfl)⟩ rfl rfl hl.1 rfl (lv_room (Nat.le_of_ble_eq_true rfl)) (zdt_at zt_X10_run_0 40 rfl) ⟨Nat.zero_le _, Nat.zero_le _⟩) hS hP hD (va_free hD hS hA [0, 8] rfl) [0, 8] rfl (by decide) rfl ?_
    clear hP hD hS hc_
    intro H locs hP hD hS
    replace hP : va_P D vwCl ([(h0, .inr (12, zmo hm (0 : Int32) c_state c_test c_words c_ill c_before c_inRow c_first c_inWindow c_same c_made c_requests c_total c_secrets c_rounds c_high c_low c_keyHigh c_keyLow)), ((hm 0), .inl (cy 1, 64, .inl c_ROUND)), ((hm 47), .inl (cy 1, 8, .inl c_START)), ((hm 40), .inl (cy 1, 256, .inl c_back)), ((hm 43), .inl (cy 1, 16, .inl c_block)), ((hm 46), .inl (cy 1, 512, .inl c_body)), ((hm 39), .inl (cy 1, 256, .inl c_box)), ((hm 6), .inl (cy 1, 512, .inl c_buffer)), ((hm 5), .inl (cy 1, 3, .inl c_counters_265)), ((hm 35), .inl (cy 1, 32, .inl c_digest)), ((hm 30), .inl (cy 1, 8, .inl c_h)), ((hm 12), .inl (cy 1, 16, .inl c_holder)), ((hm 36), .inl (cy 1, 32, .inl c_inner)), ((hm 25), .inl (cy 1, 32, .inl c_k)), ((hm 14), .inl (cy 1, 1024, .inl c_keys)), ((hm 9), .inl (cy 1, 16, .inl c_kind)), ((hm 10), .inl (cy 1, 16, .inl c_length)), ((hm 33), .inl (cy 1, 64, .inl c_message)), ((hm 44), .inl (cy 1, 16, .inl c_other)), ((hm 45), .inl (cy 1, 600, .inl c_result)), ((hm 41), .inl (cy 1, 240, .inl c_round)), ((hm 37), .inl (cy 1, 64, .inl c_secret)), ((hm 11), .inl (cy 1, 16, .inl c_usage)), ((hm 13), .inl (cy 1, 16, .inl c_uses)), ((hm 26), .inl (cy 1, 32, .inl c_v)), ((hm 31), .inl (cy 1, 64, .inl c_w)), ((hm 16), .inl (cy 1, 64, .inl c_word)), ((hm 32), .inl (cy 1, 8, .inl c_x))]) H := hP
    replace hD : va_D A ([(h0, .inr (12, zmo hm (0 : Int32) c_state c_test c_words c_ill c_before c_inRow c_first c_inWindow c_same c_made c_requests c_total c_secrets c_rounds c_high c_low c_keyHigh c_keyLow)), ((hm 0), .inl (cy 1, 64, .inl c_ROUND)), ((hm 47), .inl (cy 1, 8, .inl c_START)), ((hm 40), .inl (cy 1, 256, .inl c_back)), ((hm 43), .inl (cy 1, 16, .inl c_block)), ((hm 46), .inl (cy 1, 512, .inl c_body)), ((hm 39), .inl (cy 1, 256, .inl c_box)), ((hm 6), .inl (cy 1, 512, .inl c_buffer)), ((hm 5), .inl (cy 1, 3, .inl c_counters_265)), ((hm 35), .inl (cy 1, 32, .inl c_digest)), ((hm 30), .inl (cy 1, 8, .inl c_h)), ((hm 12), .inl (cy 1, 16, .inl c_holder)), ((hm 36), .inl (cy 1, 32, .inl c_inner)), ((hm 25), .inl (cy 1, 32, .inl c_k)), ((hm 14), .inl (cy 1, 1024, .inl c_keys)), ((hm 9), .inl (cy 1, 16, .inl c_kind)), ((hm 10), .inl (cy 1, 16, .inl c_length)), ((hm 33), .inl (cy 1, 64, .inl c_message)), ((hm 44), .inl (cy 1, 16, .inl c_other)), ((hm 45), .inl (cy 1, 600, .inl c_result)), ((hm 41), .inl (cy 1, 240, .inl c_round)), ((hm 37), .inl (cy 1, 64, .inl c_secret)), ((hm 11), .inl (cy 1, 16, .inl c_usage)), ((hm 13), .inl (cy 1, 16, .inl c_uses)), ((hm 26), .inl (cy 1, 32, .inl c_v)), ((hm 31), .inl (cy 1, 64, .inl c_w)), ((hm 16), .inl (cy 1, 64, .inl c_word)), ((hm 32), .inl (cy 1, 8, .inl c_x))]) := hD
    refine W.eq (g2 := F0 m 80 ls [.int r_264]) rfl ?_
    cases hf
    exact W.iret (pc := 80) hx hb hr (fun t ht hW => ⟨rfl, ⟨by rw [ht]; exact hP, hD⟩, hS.F ht⟩) hS.2.2 (zdt_at zt_X10_run_0 41 rfl)
  clear eK_5
  replace hf := zj_s hf
  obtain ⟨K_266, eK_266, hf⟩ := hf
  have kK_266 : ∀  (H : Heap) (locs : List Loc) (ls : Array Slot), va_P D vwCl ([(h0, .inr (12, zmo hm (0 : Int32) c_state c_test c_words c_ill c_before c_inRow c_first c_inWindow c_same c_made c_requests c_total c_secrets c_rounds c_high c_low c_keyHigh c_keyLow)), ((hm 0), .inl (cy 1, 64, .inl c_ROUND)), ((hm 47), .inl (cy 1, 8, .inl c_START)), ((hm 40), .inl (cy 1, 256, .inl c_back)), ((hm 43), .inl (cy 1, 16, .inl c_block)), ((hm 46), .inl (cy 1, 512, .inl c_body)), ((hm 39), .inl (cy 1, 256, .inl c_box)), ((hm 6), .inl (cy 1, 512, .inl c_buffer)), ((hm 5), .inl (cy 1, 3, .inl c_counters)), ((hm 35), .inl (cy 1, 32, .inl c_digest)), ((hm 30), .inl (cy 1, 8, .inl c_h)), ((hm 12), .inl (cy 1, 16, .inl c_holder)), ((hm 36), .inl (cy 1, 32, .inl c_inner)), ((hm 25), .inl (cy 1, 32, .inl c_k)), ((hm 14), .inl (cy 1, 1024, .inl c_keys)), ((hm 9), .inl (cy 1, 16, .inl c_kind)), ((hm 10), .inl (cy 1, 16, .inl c_length)), ((hm 33), .inl (cy 1, 64, .inl c_message)), ((hm 44), .inl (cy 1, 16, .inl c_other)), ((hm 45), .inl (cy 1, 600, .inl c_result)), ((hm 41), .inl (cy 1, 240, .inl c_round)), ((hm 37), .inl (cy 1, 64, .inl c_secret)), ((hm 11), .inl (cy 1, 16, .inl c_usage)), ((hm 13), .inl (cy 1, 16, .inl c_uses)), ((hm 26), .inl (cy 1, 32, .inl c_v)), ((hm 31), .inl (cy 1, 64, .inl c_w)), ((hm 16), .inl (cy 1, 64, .inl c_word)), ((hm 32), .inl (cy 1, 8, .inl c_x))]) H → va_D A ([(h0, .inr (12, zmo hm (0 : Int32) c_state c_test c_words c_ill c_before c_inRow c_first c_inWindow c_same c_made c_requests c_total c_secrets c_rounds c_high c_low c_keyHigh c_keyLow)), ((hm 0), .inl (cy 1, 64, .inl c_ROUND)), ((hm 47), .inl (cy 1, 8, .inl c_START)), ((hm 40), .inl (cy 1, 256, .inl c_back)), ((hm 43), .inl (cy 1, 16, .inl c_block)), ((hm 46), .inl (cy 1, 512, .inl c_body)), ((hm 39), .inl (cy 1, 256, .inl c_box)), ((hm 6), .inl (cy 1, 512, .inl c_buffer)), ((hm 5), .inl (cy 1, 3, .inl c_counters)), ((hm 35), .inl (cy 1, 32, .inl c_digest)), ((hm 30), .inl (cy 1, 8, .inl c_h)), ((hm 12), .inl (cy 1, 16, .inl c_holder)), ((hm 36), .inl (cy 1, 32, .inl c_inner)), ((hm 25), .inl (cy 1, 32, .inl c_k)), ((hm 14), .inl (cy 1, 1024, .inl c_keys)), ((hm 9), .inl (cy 1, 16, .inl c_kind)), ((hm 10), .inl (cy 1, 16, .inl c_length)), ((hm 33), .inl (cy 1, 64, .inl c_message)), ((hm 44), .inl (cy 1, 16, .inl c_other)), ((hm 45), .inl (cy 1, 600, .inl c_result)), ((hm 41), .inl (cy 1, 240, .inl c_round)), ((hm 37), .inl (cy 1, 64, .inl c_secret)), ((hm 11), .inl (cy 1, 16, .inl c_usage)), ((hm 13), .inl (cy 1, 16, .inl c_uses)), ((hm 26), .inl (cy 1, 32, .inl c_v)), ((hm 31), .inl (cy 1, 64, .inl c_w)), ((hm 16), .inl (cy 1, 64, .inl c_word)), ((hm 32), .inl (cy 1, 8, .inl c_x))]) → va_S A s.heap H locs → lv_has ls 8 [(0, .ref h0), (1, .int p1), (2, .int p2), (3, .int p3), (4, .int p4), (5, .int p5)] → K_266 () = some (r_, c_high', c_keyHigh', c_keyLow', c_low', c_made', c_requests', c_rounds', c_secrets', c_thrown', c_total', c_words', c_block', c_body', c_buffer', c_counters', c_digest', c_h', c_inner', c_k', c_message', c_other', c_result', c_round', c_secret', c_uses', c_v', c_w', c_word', c_x') → GW H locs (F0 m 34 ls []) := by
    clear hf hl hP hD hS
    intro  H locs ls hP hD hS hl hf
    rw [eK_266] at hf
    clear eK_266
    refine hFr _ _ _ ?_
    refine lv_iconst (pc := 34) (v := (0 : Int32)) hx hb (zdt_at zt_X10_run_0 18 rfl) (by decide) ?_
    exact hTo _ _ _ (kK_5 _ H locs ls hP hD hS (lv_sub hl [0, 1, 2, 3, 4, 5] rfl) hf)
  clear eK_266
  refine lv_icmp_eq (pc := 21) (tgt := 34) hx hb (zdt_at zt_X10_run_0 12 rfl) (by decide) (fun cn_ => ?t_267) (fun cn_ => ?f_268)
  case t_267 =>
    replace hf := zt_s cn_ hf
    clear cn_
    exact hTo _ _ _ (kK_266  H locs ls hP hD hS (lv_sub hl [0, 1, 2, 3, 4, 5] rfl) hf)
  replace hf := ze_s cn_ hf
  clear cn_
  refine lv_iload_n (pc := 24) hx hb (zdt_at zt_X10_run_0 13 rfl) rfl (lv_at hl 1 rfl) ?_
  refine lv_bipush (pc := 25) (v := (11 : Int32)) hx hb (zdt_at zt_X10_run_0 14 rfl) (by decide) ?_
  refine lv_icmp_eq (pc := 27) (tgt := 34) hx hb (zdt_at zt_X10_run_0 15 rfl) (by decide) (fun cn_ => ?t_269) (fun cn_ => ?f_270)
  case t_269 =>
    replace hf := zt_s cn_ hf
    clear cn_
    exact hTo _ _ _ (kK_266  H locs ls hP hD hS (lv_sub hl [0, 1, 2, 3, 4, 5] rfl) hf)
  replace hf := ze_s cn_ hf
  clear cn_
  refine lv_iconst (pc := 30) (v := (1 : Int32)) hx hb (zdt_at zt_X10_run_0 16 rfl) (by decide) ?_
  refine lv_goto (pc := 31) (tgt := 35) hx hb (zdt_at zt_X10_run_0 17 rfl) (by decide) ?_
  exact hTo _ _ _ (kK_5 _ H locs ls hP hD hS (lv_sub hl [0, 1, 2, 3, 4, 5] rfl) hf)
