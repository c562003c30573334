/-! the self tests: CBC and CTR -/
theorem ck16 {t u : Rw} (h : ck t u 16 = true) : eq16 t u := fun j hj => ck_eq h j hj
theorem vkx3_0 : eq16 (aesE (lR kx3) 10 (lR [107, 192, 188, 225, 42, 69, 153, 145, 225, 52, 116, 26, 127, 158, 25, 37])) (lR [118, 73, 171, 172, 129, 25, 178, 70, 206, 233, 142, 155, 18, 233, 25, 125]) := v_aesE (by omega) (by decide +kernel)
theorem vkx3_1 : eq16 (aesE (lR kx3) 10 (lR [216, 100, 33, 251, 159, 26, 30, 218, 80, 94, 225, 55, 87, 70, 151, 44])) (lR [80, 134, 203, 155, 80, 114, 25, 238, 149, 219, 17, 58, 145, 118, 120, 178]) := v_aesE (by omega) (by decide +kernel)
set_option maxHeartbeats 4000000 in
theorem t_cbc_0 {work : Rw} (hw : Bt 64 work) (rd : Int32) (ak key : Rw) : ∃ rd' ak' key' w', f_X6_cbcRight (0 : Int32) rd ak key work = some (1, rd', ak', key', w') ∧ Bt 64 w' := by
  obtain ⟨m0, hm0, um0⟩ := hw
  obtain ⟨ak', key', e1, g1, g2⟩ := p_X6_setKey (t := 8) (n := 2) (nk := 4) (fun j => tb_MODES_KEY.getD j 0) rd ak key (by omega) (by omega) (by omega)
  have hk := rkL (KX := kx3) (by omega) g1 g2 kx3_P kx3_0
  have e1' : f_X6_setKey 8 (fun j => tb_MODES_KEY.getD j 0) 2 (16 : Int32) rd ak key = some (nI 10, ak', key') := e1
  have e2 : f_X6_put 4 (fun j => tb_COUNTING_KEY.getD j 0) 4 (0 : Int32) work = _ := p_X6_put (t := 4) (n := 4) (a := 0) _ work (by omega)
  obtain ⟨w1, hw1⟩ : ∃ q, q = zrow 0 (8 * 4) (fun j => sB (ptR (fun j => tb_COUNTING_KEY.getD j 0) j)) work := ⟨_, rfl⟩
  obtain ⟨m1, hm1⟩ : ∃ q, q = zrow 0 (8 * 4) (ptR (fun j => tb_COUNTING_KEY.getD j 0)) m0 := ⟨_, rfl⟩
  rw [← hw1] at e2
  have b1 : RB 64 w1 m1 := by rw [hw1, hm1]; exact RB_row hm0
  have u1 : isU8 m1 64 := by rw [hm1]; exact U_row um0 (ptR_u _ _)
  have e3 : f_X6_put 9 (fun j => tb_MODES_TEXT.getD j 0) 4 (16 : Int32) w1 = _ := p_X6_put (t := 9) (n := 4) (a := 16) _ w1 (by omega)
  obtain ⟨w2, hw2⟩ : ∃ q, q = zrow 16 (8 * 4) (fun j => sB (ptR (fun j => tb_MODES_TEXT.getD j 0) j)) w1 := ⟨_, rfl⟩
  obtain ⟨m2, hm2⟩ : ∃ q, q = zrow 16 (8 * 4) (ptR (fun j => tb_MODES_TEXT.getD j 0)) m1 := ⟨_, rfl⟩
  rw [← hw2] at e3
  have b2 : RB 64 w2 m2 := by rw [hw2, hm2]; exact RB_row b1
  have u2 : isU8 m2 64 := by rw [hm2]; exact U_row u1 (ptR_u _ _)
  have hp : (0 : Int32) = 0 ∨ (0 : Int32) = 1 := by decide
  obtain ⟨w3, hw3⟩ : ∃ q, q = upd w2 16 (vp_nar .byte ((w2 16 ^^^ (0 : Int32)).toInt8.toInt32)) := ⟨_, rfl⟩
  have b3 : RB 64 w3 (flp 16 0 m2) := by rw [hw3]; exact RB_flp hp b2 (by omega)
  have u3 : isU8 (flp 16 0 m2) 64 := U_flp hp u2 (by omega)
  have x2 : ∀ j, j < 48 → m2 j = zrow 16 32 (ptR (fun j => tb_MODES_TEXT.getD j 0)) (ptR (fun j => tb_COUNTING_KEY.getD j 0)) j := fun j hj => by
    rw [hm2]
    by_cases q : j < 16
    · rw [zrow_out (by omega), zrow_out (by omega), hm1, zrow_0 (by omega)]
    · rw [zrow_in (by omega) (by omega), zrow_in (by omega) (by omega)]
  have l3 : eqN 48 (flp 16 0 m2) (lR [0, 1, 2, 3, 4, 5, 6, 7, 8, 9, 10, 11, 12, 13, 14, 15, 107, 193, 190, 226, 46, 64, 159, 150, 233, 61, 126, 17, 115, 147, 23, 42, 174, 45, 138, 87, 30, 3, 172, 156, 158, 183, 111, 172, 69, 175, 142, 81]) := fun j hj => by
    rw [flp_at (x2 j hj) (x2 16 (by omega))]
    exact ck_eq (n := 48) (t := flp 16 0 (zrow 16 32 (ptR (fun j => tb_MODES_TEXT.getD j 0)) (ptR (fun j => tb_COUNTING_KEY.getD j 0)))) (by decide +kernel) j hj
  obtain ⟨w4, e4, b4⟩ := p_X4_cbcSeal (N := 64) (a := 0) (k := 2) (R := 10) b3 u3 (by omega) (by omega) (by omega) (by omega) hk kx3_u
  have e4' : f_X4_cbcSeal 64 (0 : Int32) (48 : Int32) (nI 10) ak' w3 = some w4 := e4
  have u4 : isU8 (zis (cbS (aesE (lR kx3) 10) 0) (flp 16 0 m2) 2) 64 := cbS_u (fun s hs => aesE_u hs (by omega) kx3_u) u3 2 (by omega)
  have s1 := cb_step (hE_aes (lR kx3) (show 1 ≤ 10 by omega)) (a := 0) (i := 0) (N := 48) (M' := [0, 1, 2, 3, 4, 5, 6, 7, 8, 9, 10, 11, 12, 13, 14, 15, 118, 73, 171, 172, 129, 25, 178, 70, 206, 233, 142, 155, 18, 233, 25, 125, 174, 45, 138, 87, 30, 3, 172, 156, 158, 183, 111, 172, 69, 175, 142, 81]) l3 (ck16 (by decide +kernel)) vkx3_0 (ck_eq (by decide +kernel)) (by omega)
  have s2 := cb_step (hE_aes (lR kx3) (show 1 ≤ 10 by omega)) (a := 0) (i := 1) (N := 48) (M' := [0, 1, 2, 3, 4, 5, 6, 7, 8, 9, 10, 11, 12, 13, 14, 15, 118, 73, 171, 172, 129, 25, 178, 70, 206, 233, 142, 155, 18, 233, 25, 125, 80, 134, 203, 155, 80, 114, 25, 238, 149, 219, 17, 58, 145, 118, 120, 178]) s1 (ck16 (by decide +kernel)) vkx3_1 (ck_eq (by decide +kernel)) (by omega)
  obtain ⟨m4, hm4⟩ : ∃ q, q = zis (cbS (aesE (lR kx3) 10) 0) (flp 16 0 m2) 2 := ⟨_, rfl⟩
  have x4 : eqN 48 m4 (lR [0, 1, 2, 3, 4, 5, 6, 7, 8, 9, 10, 11, 12, 13, 14, 15, 118, 73, 171, 172, 129, 25, 178, 70, 206, 233, 142, 155, 18, 233, 25, 125, 80, 134, 203, 155, 80, 114, 25, 238, 149, 219, 17, 58, 145, 118, 120, 178]) := by rw [hm4]; exact s2
  rw [← hm4] at b4 u4
  obtain ⟨r, e5, g5⟩ := p_X6_stands (t := 10) (n := 4) (a := 16) (fun j => tb_CBC_ANSWER.getD j 0) (by omega) b4 u4
  have e5' : f_X6_stands 10 (fun j => tb_CBC_ANSWER.getD j 0) 4 (16 : Int32) w4 = some r := e5
  have hr : r = 1 := by
    rcases g5 with ⟨h, h2⟩ | ⟨h, h2⟩
    · exact h
    · exact absurd (fun j hj => (x4 _ (by omega)).trans (ck_eq (n := 32) (t := fun j => lR [0, 1, 2, 3, 4, 5, 6, 7, 8, 9, 10, 11, 12, 13, 14, 15, 118, 73, 171, 172, 129, 25, 178, 70, 206, 233, 142, 155, 18, 233, 25, 125, 80, 134, 203, 155, 80, 114, 25, 238, 149, 219, 17, 58, 145, 118, 120, 178] (16 + j)) (by decide +kernel) j hj)) h2
  subst hr
  have ec : Int32.toNatClampNeg 16 = 16 := by decide
  refine ⟨nI 10, ak', key', w4, ?_, m4, b4, u4⟩
  unfold f_X6_cbcRight
  rw [e1', zbE]
  dsimp only
  rw [e2, zbE, e3, zbE, zk_T (by decide), zk_T (by decide), znE, ec, ← hw3, e4', zbE, e5', zbE, zk_T (by decide)]
theorem vkx3_2 : eq16 (aesE (lR kx3) 10 (lR [240, 241, 242, 243, 244, 245, 246, 247, 248, 249, 250, 251, 252, 253, 254, 255])) (lR [236, 140, 223, 115, 152, 96, 124, 176, 242, 210, 22, 117, 234, 158, 161, 228]) := v_aesE (by omega) (by decide +kernel)
theorem vkx3_3 : eq16 (aesE (lR kx3) 10 (lR [240, 241, 242, 243, 244, 245, 246, 247, 248, 249, 250, 251, 252, 253, 255, 0])) (lR [54, 43, 124, 60, 103, 115, 81, 99, 24, 160, 119, 215, 252, 80, 115, 174]) := v_aesE (by omega) (by decide +kernel)
set_option maxHeartbeats 4000000 in
theorem t_ctr_0 {work : Rw} (hw : Bt 64 work) (rd : Int32) (ak key mbk mpd : Rw) : ∃ rd' ak' key' mbk' mpd' w', f_X6_ctrRight (0 : Int32) rd ak key mbk mpd work = some (1, rd', ak', key', mbk', mpd', w') ∧ Bt 64 w' := by
  obtain ⟨m0, hm0, um0⟩ := hw
  obtain ⟨ak', key', e1, g1, g2⟩ := p_X6_setKey (t := 8) (n := 2) (nk := 4) (fun j => tb_MODES_KEY.getD j 0) rd ak key (by omega) (by omega) (by omega)
  have hk := rkL (KX := kx3) (by omega) g1 g2 kx3_P kx3_0
  have e1' : f_X6_setKey 8 (fun j => tb_MODES_KEY.getD j 0) 2 (16 : Int32) rd ak key = some (nI 10, ak', key') := e1
  have e2 : f_X6_put 11 (fun j => tb_CTR_START.getD j 0) 2 (0 : Int32) work = _ := p_X6_put (t := 11) (n := 2) (a := 0) _ work (by omega)
  obtain ⟨w1, hw1⟩ : ∃ q, q = zrow 0 (8 * 2) (fun j => sB (ptR (fun j => tb_CTR_START.getD j 0) j)) work := ⟨_, rfl⟩
  obtain ⟨m1, hm1⟩ : ∃ q, q = zrow 0 (8 * 2) (ptR (fun j => tb_CTR_START.getD j 0)) m0 := ⟨_, rfl⟩
  rw [← hw1] at e2
  have b1 : RB 64 w1 m1 := by rw [hw1, hm1]; exact RB_row hm0
  have u1 : isU8 m1 64 := by rw [hm1]; exact U_row um0 (ptR_u _ _)
  have e3 : f_X6_put 9 (fun j => tb_MODES_TEXT.getD j 0) 4 (16 : Int32) w1 = _ := p_X6_put (t := 9) (n := 4) (a := 16) _ w1 (by omega)
  obtain ⟨w2, hw2⟩ : ∃ q, q = zrow 16 (8 * 4) (fun j => sB (ptR (fun j => tb_MODES_TEXT.getD j 0) j)) w1 := ⟨_, rfl⟩
  obtain ⟨m2, hm2⟩ : ∃ q, q = zrow 16 (8 * 4) (ptR (fun j => tb_MODES_TEXT.getD j 0)) m1 := ⟨_, rfl⟩
  rw [← hw2] at e3
  have b2 : RB 64 w2 m2 := by rw [hw2, hm2]; exact RB_row b1
  have u2 : isU8 m2 64 := by rw [hm2]; exact U_row u1 (ptR_u _ _)
  have hp : (0 : Int32) = 0 ∨ (0 : Int32) = 1 := by decide
  obtain ⟨w3, hw3⟩ : ∃ q, q = upd w2 16 (vp_nar .byte ((w2 16 ^^^ (0 : Int32)).toInt8.toInt32)) := ⟨_, rfl⟩
  have b3 : RB 64 w3 (flp 16 0 m2) := by rw [hw3]; exact RB_flp hp b2 (by omega)
  have u3 : isU8 (flp 16 0 m2) 64 := U_flp hp u2 (by omega)
  have x2 : ∀ j, j < 48 → m2 j = zrow 16 32 (ptR (fun j => tb_MODES_TEXT.getD j 0)) (ptR (fun j => tb_CTR_START.getD j 0)) j := fun j hj => by
    rw [hm2]
    by_cases q : j < 16
    · rw [zrow_out (by omega), zrow_out (by omega), hm1, zrow_0 (by omega)]
    · rw [zrow_in (by omega) (by omega), zrow_in (by omega) (by omega)]
  have l3 : eqN 48 (flp 16 0 m2) (lR [240, 241, 242, 243, 244, 245, 246, 247, 248, 249, 250, 251, 252, 253, 254, 255, 107, 193, 190, 226, 46, 64, 159, 150, 233, 61, 126, 17, 115, 147, 23, 42, 174, 45, 138, 87, 30, 3, 172, 156, 158, 183, 111, 172, 69, 175, 142, 81]) := fun j hj => by
    rw [flp_at (x2 j hj) (x2 16 (by omega))]
    exact ck_eq (n := 48) (t := flp 16 0 (zrow 16 32 (ptR (fun j => tb_MODES_TEXT.getD j 0)) (ptR (fun j => tb_CTR_START.getD j 0)))) (by decide +kernel) j hj
  obtain ⟨bl', pad', w4, e4, b4⟩ := p_X4_addStream (N := 64) (p := 0) (a := 16) (n := 32) (R := 10) mbk mpd b3 u3 (by omega) (by omega) (by omega) (by omega) (by omega) hk kx3_u
  have e4' : f_X4_addStream 64 (0 : Int32) (16 : Int32) (32 : Int32) (nI 10) ak' mbk mpd w3 = some (bl', pad', w4) := e4
  have u4 : isU8 (stX (fun i => aesE (lR kx3) 10 (ctB (fun t => flp 16 0 m2 (0 + t)) i)) 16 32 (flp 16 0 m2)) 64 := stX_u (fun i => aesE_u (ctB_u _ _) (by omega) kx3_u) u3 (by omega)
  have lc : eq16 (fun t => flp 16 0 m2 (0 + t)) (lR [240, 241, 242, 243, 244, 245, 246, 247, 248, 249, 250, 251, 252, 253, 254, 255]) := fun t ht => by
    show flp 16 0 m2 (0 + t) = _
    rw [Nat.zero_add, l3 t (by omega)]
    exact ck_eq (n := 16) (t := lR [240, 241, 242, 243, 244, 245, 246, 247, 248, 249, 250, 251, 252, 253, 254, 255, 107, 193, 190, 226, 46, 64, 159, 150, 233, 61, 126, 17, 115, 147, 23, 42, 174, 45, 138, 87, 30, 3, 172, 156, 158, 183, 111, 172, 69, 175, 142, 81]) (by decide +kernel) t ht
  have g0 : eq16 (aesE (lR kx3) 10 (ctB (fun t => flp 16 0 m2 (0 + t)) 0)) (lR [236, 140, 223, 115, 152, 96, 124, 176, 242, 210, 22, 117, 234, 158, 161, 228]) := vE (hE_aes (lR kx3) (show 1 ≤ 10 by omega)) vkx3_2 (fun i hi => (ctB_c lc 0 i hi).trans (ck_eq (n := 16) (t := ctB (lR [240, 241, 242, 243, 244, 245, 246, 247, 248, 249, 250, 251, 252, 253, 254, 255]) 0) (by decide +kernel) i hi))
  have g1 : eq16 (aesE (lR kx3) 10 (ctB (fun t => flp 16 0 m2 (0 + t)) 1)) (lR [54, 43, 124, 60, 103, 115, 81, 99, 24, 160, 119, 215, 252, 80, 115, 174]) := vE (hE_aes (lR kx3) (show 1 ≤ 10 by omega)) vkx3_3 (fun i hi => (ctB_c lc 1 i hi).trans (ck_eq (n := 16) (t := ctB (lR [240, 241, 242, 243, 244, 245, 246, 247, 248, 249, 250, 251, 252, 253, 254, 255]) 1) (by decide +kernel) i hi))
  obtain ⟨m4, hm4⟩ : ∃ q, q = stX (fun i => aesE (lR kx3) 10 (ctB (fun t => flp 16 0 m2 (0 + t)) i)) 16 32 (flp 16 0 m2) := ⟨_, rfl⟩
  rw [← hm4] at b4 u4
  have x4 : ∀ j, j < 48 → 16 ≤ j → m4 j = lR [240, 241, 242, 243, 244, 245, 246, 247, 248, 249, 250, 251, 252, 253, 254, 255, 135, 77, 97, 145, 182, 32, 227, 38, 27, 239, 104, 100, 153, 13, 182, 206, 152, 6, 246, 107, 121, 112, 253, 255, 134, 23, 24, 123, 185, 255, 253, 255] j := fun j hj h16 => by
    obtain ⟨i, rfl⟩ : ∃ i, j = 16 + i := ⟨j - 16, by omega⟩
    rw [hm4]
    unfold stX
    rw [zrow_in (by omega) (by omega), Nat.add_sub_cancel_left, l3 _ hj]
    by_cases q : i < 16
    · rw [show i / 16 = 0 by omega]
      refine (congrArg (fun z => lR [240, 241, 242, 243, 244, 245, 246, 247, 248, 249, 250, 251, 252, 253, 254, 255, 107, 193, 190, 226, 46, 64, 159, 150, 233, 61, 126, 17, 115, 147, 23, 42, 174, 45, 138, 87, 30, 3, 172, 156, 158, 183, 111, 172, 69, 175, 142, 81] (16 + i) ^^^ z) (g0 (i % 16) (by omega))).trans ?_
      exact ck_eq (n := 16) (t := fun i => lR [240, 241, 242, 243, 244, 245, 246, 247, 248, 249, 250, 251, 252, 253, 254, 255, 107, 193, 190, 226, 46, 64, 159, 150, 233, 61, 126, 17, 115, 147, 23, 42, 174, 45, 138, 87, 30, 3, 172, 156, 158, 183, 111, 172, 69, 175, 142, 81] (16 + i) ^^^ lR [236, 140, 223, 115, 152, 96, 124, 176, 242, 210, 22, 117, 234, 158, 161, 228] (i % 16)) (u := fun i => lR [240, 241, 242, 243, 244, 245, 246, 247, 248, 249, 250, 251, 252, 253, 254, 255, 135, 77, 97, 145, 182, 32, 227, 38, 27, 239, 104, 100, 153, 13, 182, 206, 152, 6, 246, 107, 121, 112, 253, 255, 134, 23, 24, 123, 185, 255, 253, 255] (16 + i)) (by decide +kernel) i q
    · obtain ⟨k, rfl⟩ : ∃ k, i = 16 + k := ⟨i - 16, by omega⟩
      rw [show (16 + k) / 16 = 1 by omega]
      refine (congrArg (fun z => lR [240, 241, 242, 243, 244, 245, 246, 247, 248, 249, 250, 251, 252, 253, 254, 255, 107, 193, 190, 226, 46, 64, 159, 150, 233, 61, 126, 17, 115, 147, 23, 42, 174, 45, 138, 87, 30, 3, 172, 156, 158, 183, 111, 172, 69, 175, 142, 81] (16 + (16 + k)) ^^^ z) (g1 ((16 + k) % 16) (by omega))).trans ?_
      exact ck_eq (n := 16) (t := fun k => lR [240, 241, 242, 243, 244, 245, 246, 247, 248, 249, 250, 251, 252, 253, 254, 255, 107, 193, 190, 226, 46, 64, 159, 150, 233, 61, 126, 17, 115, 147, 23, 42, 174, 45, 138, 87, 30, 3, 172, 156, 158, 183, 111, 172, 69, 175, 142, 81] (16 + (16 + k)) ^^^ lR [54, 43, 124, 60, 103, 115, 81, 99, 24, 160, 119, 215, 252, 80, 115, 174] ((16 + k) % 16)) (u := fun k => lR [240, 241, 242, 243, 244, 245, 246, 247, 248, 249, 250, 251, 252, 253, 254, 255, 135, 77, 97, 145, 182, 32, 227, 38, 27, 239, 104, 100, 153, 13, 182, 206, 152, 6, 246, 107, 121, 112, 253, 255, 134, 23, 24, 123, 185, 255, 253, 255] (16 + (16 + k))) (by decide +kernel) k (by omega)
  obtain ⟨r, e5, g5⟩ := p_X6_stands (t := 12) (n := 4) (a := 16) (fun j => tb_CTR_ANSWER.getD j 0) (by omega) b4 u4
  have e5' : f_X6_stands 12 (fun j => tb_CTR_ANSWER.getD j 0) 4 (16 : Int32) w4 = some r := e5
  have hr : r = 1 := by
    rcases g5 with ⟨h, h2⟩ | ⟨h, h2⟩
    · exact h
    · exact absurd (fun j hj => (x4 _ (by omega) (by omega)).trans (ck_eq (n := 32) (t := fun j => lR [240, 241, 242, 243, 244, 245, 246, 247, 248, 249, 250, 251, 252, 253, 254, 255, 135, 77, 97, 145, 182, 32, 227, 38, 27, 239, 104, 100, 153, 13, 182, 206, 152, 6, 246, 107, 121, 112, 253, 255, 134, 23, 24, 123, 185, 255, 253, 255] (16 + j)) (by decide +kernel) j hj)) h2
  subst hr
  have ec : Int32.toNatClampNeg 16 = 16 := by decide
  refine ⟨nI 10, ak', key', bl', pad', w4, ?_, m4, b4, u4⟩
  unfold f_X6_ctrRight
  rw [e1', zbE]
  dsimp only
  rw [e2, zbE, e3, zbE, zk_T (by decide), zk_T (by decide), znE, ec, ← hw3, e4', zbE]
  dsimp only
  rw [e5', zbE, zk_T (by decide)]
theorem vkx3_4 : eq16 (aesE (lR kx3) 10 (lR [106, 192, 188, 225, 42, 69, 153, 145, 225, 52, 116, 26, 127, 158, 25, 37])) (lR [137, 73, 253, 61, 109, 30, 78, 144, 11, 19, 190, 193, 16, 192, 101, 166]) := v_aesE (by omega) (by decide +kernel)
theorem vkx3_5 : eq16 (aesE (lR kx3) 10 (lR [39, 100, 119, 106, 115, 29, 226, 12, 149, 164, 209, 109, 85, 111, 235, 247])) (lR [241, 100, 161, 61, 119, 13, 113, 44, 131, 111, 194, 130, 190, 31, 253, 188]) := v_aesE (by omega) (by decide +kernel)
set_option maxHeartbeats 4000000 in
theorem t_cbc_1 {work : Rw} (hw : Bt 64 work) (rd : Int32) (ak key : Rw) : ∃ rd' ak' key' w', f_X6_cbcRight (1 : Int32) rd ak key work = some (0, rd', ak', key', w') ∧ Bt 64 w' := by
  obtain ⟨m0, hm0, um0⟩ := hw
  obtain ⟨ak', key', e1, g1, g2⟩ := p_X6_setKey (t := 8) (n := 2) (nk := 4) (fun j => tb_MODES_KEY.getD j 0) rd ak key (by omega) (by omega) (by omega)
  have hk := rkL (KX := kx3) (by omega) g1 g2 kx3_P kx3_0
  have e1' : f_X6_setKey 8 (fun j => tb_MODES_KEY.getD j 0) 2 (16 : Int32) rd ak key = some (nI 10, ak', key') := e1
  have e2 : f_X6_put 4 (fun j => tb_COUNTING_KEY.getD j 0) 4 (0 : Int32) work = _ := p_X6_put (t := 4) (n := 4) (a := 0) _ work (by omega)
  obtain ⟨w1, hw1⟩ : ∃ q, q = zrow 0 (8 * 4) (fun j => sB (ptR (fun j => tb_COUNTING_KEY.getD j 0) j)) work := ⟨_, rfl⟩
  obtain ⟨m1, hm1⟩ : ∃ q, q = zrow 0 (8 * 4) (ptR (fun j => tb_COUNTING_KEY.getD j 0)) m0 := ⟨_, rfl⟩
  rw [← hw1] at e2
  have b1 : RB 64 w1 m1 := by rw [hw1, hm1]; exact RB_row hm0
  have u1 : isU8 m1 64 := by rw [hm1]; exact U_row um0 (ptR_u _ _)
  have e3 : f_X6_put 9 (fun j => tb_MODES_TEXT.getD j 0) 4 (16 : Int32) w1 = _ := p_X6_put (t := 9) (n := 4) (a := 16) _ w1 (by omega)
  obtain ⟨w2, hw2⟩ : ∃ q, q = zrow 16 (8 * 4) (fun j => sB (ptR (fun j => tb_MODES_TEXT.getD j 0) j)) w1 := ⟨_, rfl⟩
  obtain ⟨m2, hm2⟩ : ∃ q, q = zrow 16 (8 * 4) (ptR (fun j => tb_MODES_TEXT.getD j 0)) m1 := ⟨_, rfl⟩
  rw [← hw2] at e3
  have b2 : RB 64 w2 m2 := by rw [hw2, hm2]; exact RB_row b1
  have u2 : isU8 m2 64 := by rw [hm2]; exact U_row u1 (ptR_u _ _)
  have hp : (1 : Int32) = 0 ∨ (1 : Int32) = 1 := by decide
  obtain ⟨w3, hw3⟩ : ∃ q, q = upd w2 16 (vp_nar .byte ((w2 16 ^^^ (1 : Int32)).toInt8.toInt32)) := ⟨_, rfl⟩
  have b3 : RB 64 w3 (flp 16 1 m2) := by rw [hw3]; exact RB_flp hp b2 (by omega)
  have u3 : isU8 (flp 16 1 m2) 64 := U_flp hp u2 (by omega)
  have x2 : ∀ j, j < 48 → m2 j = zrow 16 32 (ptR (fun j => tb_MODES_TEXT.getD j 0)) (ptR (fun j => tb_COUNTING_KEY.getD j 0)) j := fun j hj => by
    rw [hm2]
    by_cases q : j < 16
    · rw [zrow_out (by omega), zrow_out (by omega), hm1, zrow_0 (by omega)]
    · rw [zrow_in (by omega) (by omega), zrow_in (by omega) (by omega)]
  have l3 : eqN 48 (flp 16 1 m2) (lR [0, 1, 2, 3, 4, 5, 6, 7, 8, 9, 10, 11, 12, 13, 14, 15, 106, 193, 190, 226, 46, 64, 159, 150, 233, 61, 126, 17, 115, 147, 23, 42, 174, 45, 138, 87, 30, 3, 172, 156, 158, 183, 111, 172, 69, 175, 142, 81]) := fun j hj => by
    rw [flp_at (x2 j hj) (x2 16 (by omega))]
    exact ck_eq (n := 48) (t := flp 16 1 (zrow 16 32 (ptR (fun j => tb_MODES_TEXT.getD j 0)) (ptR (fun j => tb_COUNTING_KEY.getD j 0)))) (by decide +kernel) j hj
  obtain ⟨w4, e4, b4⟩ := p_X4_cbcSeal (N := 64) (a := 0) (k := 2) (R := 10) b3 u3 (by omega) (by omega) (by omega) (by omega) hk kx3_u
  have e4' : f_X4_cbcSeal 64 (0 : Int32) (48 : Int32) (nI 10) ak' w3 = some w4 := e4
  have u4 : isU8 (zis (cbS (aesE (lR kx3) 10) 0) (flp 16 1 m2) 2) 64 := cbS_u (fun s hs => aesE_u hs (by omega) kx3_u) u3 2 (by omega)
  have s1 := cb_step (hE_aes (lR kx3) (show 1 ≤ 10 by omega)) (a := 0) (i := 0) (N := 48) (M' := [0, 1, 2, 3, 4, 5, 6, 7, 8, 9, 10, 11, 12, 13, 14, 15, 137, 73, 253, 61, 109, 30, 78, 144, 11, 19, 190, 193, 16, 192, 101, 166, 174, 45, 138, 87, 30, 3, 172, 156, 158, 183, 111, 172, 69, 175, 142, 81]) l3 (ck16 (by decide +kernel)) vkx3_4 (ck_eq (by decide +kernel)) (by omega)
  have s2 := cb_step (hE_aes (lR kx3) (show 1 ≤ 10 by omega)) (a := 0) (i := 1) (N := 48) (M' := [0, 1, 2, 3, 4, 5, 6, 7, 8, 9, 10, 11, 12, 13, 14, 15, 137, 73, 253, 61, 109, 30, 78, 144, 11, 19, 190, 193, 16, 192, 101, 166, 241, 100, 161, 61, 119, 13, 113, 44, 131, 111, 194, 130, 190, 31, 253, 188]) s1 (ck16 (by decide +kernel)) vkx3_5 (ck_eq (by decide +kernel)) (by omega)
  obtain ⟨m4, hm4⟩ : ∃ q, q = zis (cbS (aesE (lR kx3) 10) 0) (flp 16 1 m2) 2 := ⟨_, rfl⟩
  have x4 : eqN 48 m4 (lR [0, 1, 2, 3, 4, 5, 6, 7, 8, 9, 10, 11, 12, 13, 14, 15, 137, 73, 253, 61, 109, 30, 78, 144, 11, 19, 190, 193, 16, 192, 101, 166, 241, 100, 161, 61, 119, 13, 113, 44, 131, 111, 194, 130, 190, 31, 253, 188]) := by rw [hm4]; exact s2
  rw [← hm4] at b4 u4
  obtain ⟨r, e5, g5⟩ := p_X6_stands (t := 10) (n := 4) (a := 16) (fun j => tb_CBC_ANSWER.getD j 0) (by omega) b4 u4
  have e5' : f_X6_stands 10 (fun j => tb_CBC_ANSWER.getD j 0) 4 (16 : Int32) w4 = some r := e5
  have hr : r = 0 := by
    rcases g5 with ⟨h, h2⟩ | ⟨h, h2⟩
    · exact absurd ((x4 16 (by omega)).symm.trans (h2 0 (by omega))) (by decide +kernel)
    · exact h
  subst hr
  have ec : Int32.toNatClampNeg 16 = 16 := by decide
  refine ⟨nI 10, ak', key', w4, ?_, m4, b4, u4⟩
  unfold f_X6_cbcRight
  rw [e1', zbE]
  dsimp only
  rw [e2, zbE, e3, zbE, zk_T (by decide), zk_T (by decide), znE, ec, ← hw3, e4', zbE, e5', zbE, zk_T (by decide)]
set_option maxHeartbeats 4000000 in
theorem t_ctr_1 {work : Rw} (hw : Bt 64 work) (rd : Int32) (ak key mbk mpd : Rw) : ∃ rd' ak' key' mbk' mpd' w', f_X6_ctrRight (1 : Int32) rd ak key mbk mpd work = some (0, rd', ak', key', mbk', mpd', w') ∧ Bt 64 w' := by
  obtain ⟨m0, hm0, um0⟩ := hw
  obtain ⟨ak', key', e1, g1, g2⟩ := p_X6_setKey (t := 8) (n := 2) (nk := 4) (fun j => tb_MODES_KEY.getD j 0) rd ak key (by omega) (by omega) (by omega)
  have hk := rkL (KX := kx3) (by omega) g1 g2 kx3_P kx3_0
  have e1' : f_X6_setKey 8 (fun j => tb_MODES_KEY.getD j 0) 2 (16 : Int32) rd ak key = some (nI 10, ak', key') := e1
  have e2 : f_X6_put 11 (fun j => tb_CTR_START.getD j 0) 2 (0 : Int32) work = _ := p_X6_put (t := 11) (n := 2) (a := 0) _ work (by omega)
  obtain ⟨w1, hw1⟩ : ∃ q, q = zrow 0 (8 * 2) (fun j => sB (ptR (fun j => tb_CTR_START.getD j 0) j)) work := ⟨_, rfl⟩
  obtain ⟨m1, hm1⟩ : ∃ q, q = zrow 0 (8 * 2) (ptR (fun j => tb_CTR_START.getD j 0)) m0 := ⟨_, rfl⟩
  rw [← hw1] at e2
  have b1 : RB 64 w1 m1 := by rw [hw1, hm1]; exact RB_row hm0
  have u1 : isU8 m1 64 := by rw [hm1]; exact U_row um0 (ptR_u _ _)
  have e3 : f_X6_put 9 (fun j => tb_MODES_TEXT.getD j 0) 4 (16 : Int32) w1 = _ := p_X6_put (t := 9) (n := 4) (a := 16) _ w1 (by omega)
  obtain ⟨w2, hw2⟩ : ∃ q, q = zrow 16 (8 * 4) (fun j => sB (ptR (fun j => tb_MODES_TEXT.getD j 0) j)) w1 := ⟨_, rfl⟩
  obtain ⟨m2, hm2⟩ : ∃ q, q = zrow 16 (8 * 4) (ptR (fun j => tb_MODES_TEXT.getD j 0)) m1 := ⟨_, rfl⟩
  rw [← hw2] at e3
  have b2 : RB 64 w2 m2 := by rw [hw2, hm2]; exact RB_row b1
  have u2 : isU8 m2 64 := by rw [hm2]; exact U_row u1 (ptR_u _ _)
  have hp : (1 : Int32) = 0 ∨ (1 : Int32) = 1 := by decide
  obtain ⟨w3, hw3⟩ : ∃ q, q = upd w2 16 (vp_nar .byte ((w2 16 ^^^ (1 : Int32)).toInt8.toInt32)) := ⟨_, rfl⟩
  have b3 : RB 64 w3 (flp 16 1 m2) := by rw [hw3]; exact RB_flp hp b2 (by omega)
  have u3 : isU8 (flp 16 1 m2) 64 := U_flp hp u2 (by omega)
  have x2 : ∀ j, j < 48 → m2 j = zrow 16 32 (ptR (fun j => tb_MODES_TEXT.getD j 0)) (ptR (fun j => tb_CTR_START.getD j 0)) j := fun j hj => by
    rw [hm2]
    by_cases q : j < 16
    · rw [zrow_out (by omega), zrow_out (by omega), hm1, zrow_0 (by omega)]
    · rw [zrow_in (by omega) (by omega), zrow_in (by omega) (by omega)]
  have l3 : eqN 48 (flp 16 1 m2) (lR [240, 241, 242, 243, 244, 245, 246, 247, 248, 249, 250, 251, 252, 253, 254, 255, 106, 193, 190, 226, 46, 64, 159, 150, 233, 61, 126, 17, 115, 147, 23, 42, 174, 45, 138, 87, 30, 3, 172, 156, 158, 183, 111, 172, 69, 175, 142, 81]) := fun j hj => by
    rw [flp_at (x2 j hj) (x2 16 (by omega))]
    exact ck_eq (n := 48) (t := flp 16 1 (zrow 16 32 (ptR (fun j => tb_MODES_TEXT.getD j 0)) (ptR (fun j => tb_CTR_START.getD j 0)))) (by decide +kernel) j hj
  obtain ⟨bl', pad', w4, e4, b4⟩ := p_X4_addStream (N := 64) (p := 0) (a := 16) (n := 32) (R := 10) mbk mpd b3 u3 (by omega) (by omega) (by omega) (by omega) (by omega) hk kx3_u
  have e4' : f_X4_addStream 64 (0 : Int32) (16 : Int32) (32 : Int32) (nI 10) ak' mbk mpd w3 = some (bl', pad', w4) := e4
  have u4 : isU8 (stX (fun i => aesE (lR kx3) 10 (ctB (fun t => flp 16 1 m2 (0 + t)) i)) 16 32 (flp 16 1 m2)) 64 := stX_u (fun i => aesE_u (ctB_u _ _) (by omega) kx3_u) u3 (by omega)
  have lc : eq16 (fun t => flp 16 1 m2 (0 + t)) (lR [240, 241, 242, 243, 244, 245, 246, 247, 248, 249, 250, 251, 252, 253, 254, 255]) := fun t ht => by
    show flp 16 1 m2 (0 + t) = _
    rw [Nat.zero_add, l3 t (by omega)]
    exact ck_eq (n := 16) (t := lR [240, 241, 242, 243, 244, 245, 246, 247, 248, 249, 250, 251, 252, 253, 254, 255, 106, 193, 190, 226, 46, 64, 159, 150, 233, 61, 126, 17, 115, 147, 23, 42, 174, 45, 138, 87, 30, 3, 172, 156, 158, 183, 111, 172, 69, 175, 142, 81]) (by decide +kernel) t ht
  have g0 : eq16 (aesE (lR kx3) 10 (ctB (fun t => flp 16 1 m2 (0 + t)) 0)) (lR [236, 140, 223, 115, 152, 96, 124, 176, 242, 210, 22, 117, 234, 158, 161, 228]) := vE (hE_aes (lR kx3) (show 1 ≤ 10 by omega)) vkx3_2 (fun i hi => (ctB_c lc 0 i hi).trans (ck_eq (n := 16) (t := ctB (lR [240, 241, 242, 243, 244, 245, 246, 247, 248, 249, 250, 251, 252, 253, 254, 255]) 0) (by decide +kernel) i hi))
  have g1 : eq16 (aesE (lR kx3) 10 (ctB (fun t => flp 16 1 m2 (0 + t)) 1)) (lR [54, 43, 124, 60, 103, 115, 81, 99, 24, 160, 119, 215, 252, 80, 115, 174]) := vE (hE_aes (lR kx3) (show 1 ≤ 10 by omega)) vkx3_3 (fun i hi => (ctB_c lc 1 i hi).trans (ck_eq (n := 16) (t := ctB (lR [240, 241, 242, 243, 244, 245, 246, 247, 248, 249, 250, 251, 252, 253, 254, 255]) 1) (by decide +kernel) i hi))
  obtain ⟨m4, hm4⟩ : ∃ q, q = stX (fun i => aesE (lR kx3) 10 (ctB (fun t => flp 16 1 m2 (0 + t)) i)) 16 32 (flp 16 1 m2) := ⟨_, rfl⟩
  rw [← hm4] at b4 u4
  have x4 : ∀ j, j < 48 → 16 ≤ j → m4 j = lR [240, 241, 242, 243, 244, 245, 246, 247, 248, 249, 250, 251, 252, 253, 254, 255, 134, 77, 97, 145, 182, 32, 227, 38, 27, 239, 104, 100, 153, 13, 182, 206, 152, 6, 246, 107, 121, 112, 253, 255, 134, 23, 24, 123, 185, 255, 253, 255] j := fun j hj h16 => by
    obtain ⟨i, rfl⟩ : ∃ i, j = 16 + i := ⟨j - 16, by omega⟩
    rw [hm4]
    unfold stX
    rw [zrow_in (by omega) (by omega), Nat.add_sub_cancel_left, l3 _ hj]
    by_cases q : i < 16
    · rw [show i / 16 = 0 by omega]
      refine (congrArg (fun z => lR [240, 241, 242, 243, 244, 245, 246, 247, 248, 249, 250, 251, 252, 253, 254, 255, 106, 193, 190, 226, 46, 64, 159, 150, 233, 61, 126, 17, 115, 147, 23, 42, 174, 45, 138, 87, 30, 3, 172, 156, 158, 183, 111, 172, 69, 175, 142, 81] (16 + i) ^^^ z) (g0 (i % 16) (by omega))).trans ?_
      exact ck_eq (n := 16) (t := fun i => lR [240, 241, 242, 243, 244, 245, 246, 247, 248, 249, 250, 251, 252, 253, 254, 255, 106, 193, 190, 226, 46, 64, 159, 150, 233, 61, 126, 17, 115, 147, 23, 42, 174, 45, 138, 87, 30, 3, 172, 156, 158, 183, 111, 172, 69, 175, 142, 81] (16 + i) ^^^ lR [236, 140, 223, 115, 152, 96, 124, 176, 242, 210, 22, 117, 234, 158, 161, 228] (i % 16)) (u := fun i => lR [240, 241, 242, 243, 244, 245, 246, 247, 248, 249, 250, 251, 252, 253, 254, 255, 134, 77, 97, 145, 182, 32, 227, 38, 27, 239, 104, 100, 153, 13, 182, 206, 152, 6, 246, 107, 121, 112, 253, 255, 134, 23, 24, 123, 185, 255, 253, 255] (16 + i)) (by decide +kernel) i q
    · obtain ⟨k, rfl⟩ : ∃ k, i = 16 + k := ⟨i - 16, by omega⟩
      rw [show (16 + k) / 16 = 1 by omega]
      refine (congrArg (fun z => lR [240, 241, 242, 243, 244, 245, 246, 247, 248, 249, 250, 251, 252, 253, 254, 255, 106, 193, 190, 226, 46, 64, 159, 150, 233, 61, 126, 17, 115, 147, 23, 42, 174, 45, 138, 87, 30, 3, 172, 156, 158, 183, 111, 172, 69, 175, 142, 81] (16 + (16 + k)) ^^^ z) (g1 ((16 + k) % 16) (by omega))).trans ?_
      exact ck_eq (n := 16) (t := fun k => lR [240, 241, 242, 243, 244, 245, 246, 247, 248, 249, 250, 251, 252, 253, 254, 255, 106, 193, 190, 226, 46, 64, 159, 150, 233, 61, 126, 17, 115, 147, 23, 42, 174, 45, 138, 87, 30, 3, 172, 156, 158, 183, 111, 172, 69, 175, 142, 81] (16 + (16 + k)) ^^^ lR [54, 43, 124, 60, 103, 115, 81, 99, 24, 160, 119, 215, 252, 80, 115, 174] ((16 + k) % 16)) (u := fun k => lR [240, 241, 242, 243, 244, 245, 246, 247, 248, 249, 250, 251, 252, 253, 254, 255, 134, 77, 97, 145, 182, 32, 227, 38, 27, 239, 104, 100, 153, 13, 182, 206, 152, 6, 246, 107, 121, 112, 253, 255, 134, 23, 24, 123, 185, 255, 253, 255] (16 + (16 + k))) (by decide +kernel) k (by omega)
  obtain ⟨r, e5, g5⟩ := p_X6_stands (t := 12) (n := 4) (a := 16) (fun j => tb_CTR_ANSWER.getD j 0) (by omega) b4 u4
  have e5' : f_X6_stands 12 (fun j => tb_CTR_ANSWER.getD j 0) 4 (16 : Int32) w4 = some r := e5
  have hr : r = 0 := by
    rcases g5 with ⟨h, h2⟩ | ⟨h, h2⟩
    · exact absurd ((x4 16 (by omega) (by omega)).symm.trans (h2 0 (by omega))) (by decide +kernel)
    · exact h
  subst hr
  have ec : Int32.toNatClampNeg 16 = 16 := by decide
  refine ⟨nI 10, ak', key', bl', pad', w4, ?_, m4, b4, u4⟩
  unfold f_X6_ctrRight
  rw [e1', zbE]
  dsimp only
  rw [e2, zbE, e3, zbE, zk_T (by decide), zk_T (by decide), znE, ec, ← hw3, e4', zbE]
  dsimp only
  rw [e5', zbE, zk_T (by decide)]
