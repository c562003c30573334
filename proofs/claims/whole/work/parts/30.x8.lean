/-! the self tests: wrapping -/
theorem w_stepZ {E : Rw → Rw} (hE : ∀ s t, eq16 s t → eq16 (E s) (E t)) {n k k' : Nat} {m : Rw} {M IN OUT M' : List Int32} (hn : 0 < n) (hk : k' = k + 1) (hm : eqN (8 + 8 * n) (zis (wS E n) m k) (lR M)) (h1 : eq16 (wX (lR M) (8 + 8 * (k % n))) (lR IN)) (h2 : eq16 (E (lR IN)) (lR OUT)) (h3 : eqN (8 + 8 * n) (zrow (8 + 8 * (k % n)) 8 (fun i => lR OUT (8 + i)) (zrow 0 8 (fun i => lR OUT i ^^^ (if i = 7 then nI (k + 1) else 0)) (lR M))) (lR M')) : eqN (8 + 8 * n) (zis (wS E n) m k') (lR M') := by
  rw [hk, zis_s]
  exact w_step hE hn hm h1 h2 h3
theorem wz0_0 : eqN (8 + 8 * 2) (zis (wS (aesE (lR kx1) 10) 2) (lR [166, 166, 166, 166, 166, 166, 166, 166, 0, 17, 34, 51, 68, 85, 102, 119, 136, 153, 170, 187, 204, 221, 238, 255]) 0) (lR [166, 166, 166, 166, 166, 166, 166, 166, 0, 17, 34, 51, 68, 85, 102, 119, 136, 153, 170, 187, 204, 221, 238, 255]) := fun _ _ => by rw [zis_0]
theorem wvkx1_104 : eq16 (aesE (lR kx1) 10 (lR [166, 166, 166, 166, 166, 166, 166, 166, 0, 17, 34, 51, 68, 85, 102, 119])) (lR [244, 116, 0, 82, 232, 42, 34, 81, 116, 206, 134, 251, 215, 184, 5, 231]) := v_aesE (by omega) (by decide +kernel)
theorem wz0_1 : eqN (8 + 8 * 2) (zis (wS (aesE (lR kx1) 10) 2) (lR [166, 166, 166, 166, 166, 166, 166, 166, 0, 17, 34, 51, 68, 85, 102, 119, 136, 153, 170, 187, 204, 221, 238, 255]) 1) (lR [244, 116, 0, 82, 232, 42, 34, 80, 116, 206, 134, 251, 215, 184, 5, 231, 136, 153, 170, 187, 204, 221, 238, 255]) := w_stepZ (hE_aes (lR kx1) (show 1 ≤ 10 by omega)) (k := 0) (M := [166, 166, 166, 166, 166, 166, 166, 166, 0, 17, 34, 51, 68, 85, 102, 119, 136, 153, 170, 187, 204, 221, 238, 255]) (by omega) rfl wz0_0 (ck16 (by decide +kernel)) wvkx1_104 (ck_eq (by decide +kernel))
theorem wvkx1_105 : eq16 (aesE (lR kx1) 10 (lR [244, 116, 0, 82, 232, 42, 34, 80, 136, 153, 170, 187, 204, 221, 238, 255])) (lR [6, 186, 78, 189, 231, 118, 141, 11, 209, 50, 238, 56, 20, 126, 118, 248]) := v_aesE (by omega) (by decide +kernel)
theorem wz0_2 : eqN (8 + 8 * 2) (zis (wS (aesE (lR kx1) 10) 2) (lR [166, 166, 166, 166, 166, 166, 166, 166, 0, 17, 34, 51, 68, 85, 102, 119, 136, 153, 170, 187, 204, 221, 238, 255]) 2) (lR [6, 186, 78, 189, 231, 118, 141, 9, 116, 206, 134, 251, 215, 184, 5, 231, 209, 50, 238, 56, 20, 126, 118, 248]) := w_stepZ (hE_aes (lR kx1) (show 1 ≤ 10 by omega)) (k := 1) (M := [244, 116, 0, 82, 232, 42, 34, 80, 116, 206, 134, 251, 215, 184, 5, 231, 136, 153, 170, 187, 204, 221, 238, 255]) (by omega) rfl wz0_1 (ck16 (by decide +kernel)) wvkx1_105 (ck_eq (by decide +kernel))
theorem wvkx1_106 : eq16 (aesE (lR kx1) 10 (lR [6, 186, 78, 189, 231, 118, 141, 9, 116, 206, 134, 251, 215, 184, 5, 231])) (lR [252, 150, 118, 39, 190, 147, 114, 8, 254, 110, 141, 103, 156, 93, 52, 96]) := v_aesE (by omega) (by decide +kernel)
theorem wz0_3 : eqN (8 + 8 * 2) (zis (wS (aesE (lR kx1) 10) 2) (lR [166, 166, 166, 166, 166, 166, 166, 166, 0, 17, 34, 51, 68, 85, 102, 119, 136, 153, 170, 187, 204, 221, 238, 255]) 3) (lR [252, 150, 118, 39, 190, 147, 114, 11, 254, 110, 141, 103, 156, 93, 52, 96, 209, 50, 238, 56, 20, 126, 118, 248]) := w_stepZ (hE_aes (lR kx1) (show 1 ≤ 10 by omega)) (k := 2) (M := [6, 186, 78, 189, 231, 118, 141, 9, 116, 206, 134, 251, 215, 184, 5, 231, 209, 50, 238, 56, 20, 126, 118, 248]) (by omega) rfl wz0_2 (ck16 (by decide +kernel)) wvkx1_106 (ck_eq (by decide +kernel))
theorem wvkx1_107 : eq16 (aesE (lR kx1) 10 (lR [252, 150, 118, 39, 190, 147, 114, 11, 209, 50, 238, 56, 20, 126, 118, 248])) (lR [88, 150, 234, 144, 40, 238, 32, 59, 7, 178, 189, 151, 62, 54, 166, 252]) := v_aesE (by omega) (by decide +kernel)
theorem wz0_4 : eqN (8 + 8 * 2) (zis (wS (aesE (lR kx1) 10) 2) (lR [166, 166, 166, 166, 166, 166, 166, 166, 0, 17, 34, 51, 68, 85, 102, 119, 136, 153, 170, 187, 204, 221, 238, 255]) 4) (lR [88, 150, 234, 144, 40, 238, 32, 63, 254, 110, 141, 103, 156, 93, 52, 96, 7, 178, 189, 151, 62, 54, 166, 252]) := w_stepZ (hE_aes (lR kx1) (show 1 ≤ 10 by omega)) (k := 3) (M := [252, 150, 118, 39, 190, 147, 114, 11, 254, 110, 141, 103, 156, 93, 52, 96, 209, 50, 238, 56, 20, 126, 118, 248]) (by omega) rfl wz0_3 (ck16 (by decide +kernel)) wvkx1_107 (ck_eq (by decide +kernel))
theorem wvkx1_108 : eq16 (aesE (lR kx1) 10 (lR [88, 150, 234, 144, 40, 238, 32, 63, 254, 110, 141, 103, 156, 93, 52, 96])) (lR [147, 174, 167, 27, 37, 141, 144, 195, 37, 245, 163, 173, 194, 25, 84, 1]) := v_aesE (by omega) (by decide +kernel)
theorem wz0_5 : eqN (8 + 8 * 2) (zis (wS (aesE (lR kx1) 10) 2) (lR [166, 166, 166, 166, 166, 166, 166, 166, 0, 17, 34, 51, 68, 85, 102, 119, 136, 153, 170, 187, 204, 221, 238, 255]) 5) (lR [147, 174, 167, 27, 37, 141, 144, 198, 37, 245, 163, 173, 194, 25, 84, 1, 7, 178, 189, 151, 62, 54, 166, 252]) := w_stepZ (hE_aes (lR kx1) (show 1 ≤ 10 by omega)) (k := 4) (M := [88, 150, 234, 144, 40, 238, 32, 63, 254, 110, 141, 103, 156, 93, 52, 96, 7, 178, 189, 151, 62, 54, 166, 252]) (by omega) rfl wz0_4 (ck16 (by decide +kernel)) wvkx1_108 (ck_eq (by decide +kernel))
theorem wvkx1_109 : eq16 (aesE (lR kx1) 10 (lR [147, 174, 167, 27, 37, 141, 144, 198, 7, 178, 189, 151, 62, 54, 166, 252])) (lR [227, 238, 152, 99, 68, 216, 120, 247, 241, 72, 99, 187, 30, 156, 169, 10]) := v_aesE (by omega) (by decide +kernel)
theorem wz0_6 : eqN (8 + 8 * 2) (zis (wS (aesE (lR kx1) 10) 2) (lR [166, 166, 166, 166, 166, 166, 166, 166, 0, 17, 34, 51, 68, 85, 102, 119, 136, 153, 170, 187, 204, 221, 238, 255]) 6) (lR [227, 238, 152, 99, 68, 216, 120, 241, 37, 245, 163, 173, 194, 25, 84, 1, 241, 72, 99, 187, 30, 156, 169, 10]) := w_stepZ (hE_aes (lR kx1) (show 1 ≤ 10 by omega)) (k := 5) (M := [147, 174, 167, 27, 37, 141, 144, 198, 37, 245, 163, 173, 194, 25, 84, 1, 7, 178, 189, 151, 62, 54, 166, 252]) (by omega) rfl wz0_5 (ck16 (by decide +kernel)) wvkx1_109 (ck_eq (by decide +kernel))
theorem wvkx1_110 : eq16 (aesE (lR kx1) 10 (lR [227, 238, 152, 99, 68, 216, 120, 241, 37, 245, 163, 173, 194, 25, 84, 1])) (lR [43, 252, 33, 178, 194, 14, 64, 6, 181, 86, 211, 94, 216, 206, 240, 82]) := v_aesE (by omega) (by decide +kernel)
theorem wz0_7 : eqN (8 + 8 * 2) (zis (wS (aesE (lR kx1) 10) 2) (lR [166, 166, 166, 166, 166, 166, 166, 166, 0, 17, 34, 51, 68, 85, 102, 119, 136, 153, 170, 187, 204, 221, 238, 255]) 7) (lR [43, 252, 33, 178, 194, 14, 64, 1, 181, 86, 211, 94, 216, 206, 240, 82, 241, 72, 99, 187, 30, 156, 169, 10]) := w_stepZ (hE_aes (lR kx1) (show 1 ≤ 10 by omega)) (k := 6) (M := [227, 238, 152, 99, 68, 216, 120, 241, 37, 245, 163, 173, 194, 25, 84, 1, 241, 72, 99, 187, 30, 156, 169, 10]) (by omega) rfl wz0_6 (ck16 (by decide +kernel)) wvkx1_110 (ck_eq (by decide +kernel))
theorem wvkx1_111 : eq16 (aesE (lR kx1) 10 (lR [43, 252, 33, 178, 194, 14, 64, 1, 241, 72, 99, 187, 30, 156, 169, 10])) (lR [75, 232, 206, 153, 192, 164, 58, 125, 100, 186, 229, 129, 141, 5, 112, 187]) := v_aesE (by omega) (by decide +kernel)
theorem wz0_8 : eqN (8 + 8 * 2) (zis (wS (aesE (lR kx1) 10) 2) (lR [166, 166, 166, 166, 166, 166, 166, 166, 0, 17, 34, 51, 68, 85, 102, 119, 136, 153, 170, 187, 204, 221, 238, 255]) 8) (lR [75, 232, 206, 153, 192, 164, 58, 117, 181, 86, 211, 94, 216, 206, 240, 82, 100, 186, 229, 129, 141, 5, 112, 187]) := w_stepZ (hE_aes (lR kx1) (show 1 ≤ 10 by omega)) (k := 7) (M := [43, 252, 33, 178, 194, 14, 64, 1, 181, 86, 211, 94, 216, 206, 240, 82, 241, 72, 99, 187, 30, 156, 169, 10]) (by omega) rfl wz0_7 (ck16 (by decide +kernel)) wvkx1_111 (ck_eq (by decide +kernel))
theorem wvkx1_112 : eq16 (aesE (lR kx1) 10 (lR [75, 232, 206, 153, 192, 164, 58, 117, 181, 86, 211, 94, 216, 206, 240, 82])) (lR [235, 225, 206, 145, 6, 112, 36, 243, 190, 17, 75, 52, 62, 176, 9, 129]) := v_aesE (by omega) (by decide +kernel)
theorem wz0_9 : eqN (8 + 8 * 2) (zis (wS (aesE (lR kx1) 10) 2) (lR [166, 166, 166, 166, 166, 166, 166, 166, 0, 17, 34, 51, 68, 85, 102, 119, 136, 153, 170, 187, 204, 221, 238, 255]) 9) (lR [235, 225, 206, 145, 6, 112, 36, 250, 190, 17, 75, 52, 62, 176, 9, 129, 100, 186, 229, 129, 141, 5, 112, 187]) := w_stepZ (hE_aes (lR kx1) (show 1 ≤ 10 by omega)) (k := 8) (M := [75, 232, 206, 153, 192, 164, 58, 117, 181, 86, 211, 94, 216, 206, 240, 82, 100, 186, 229, 129, 141, 5, 112, 187]) (by omega) rfl wz0_8 (ck16 (by decide +kernel)) wvkx1_112 (ck_eq (by decide +kernel))
theorem wvkx1_113 : eq16 (aesE (lR kx1) 10 (lR [235, 225, 206, 145, 6, 112, 36, 250, 100, 186, 229, 129, 141, 5, 112, 187])) (lR [90, 156, 123, 31, 91, 28, 59, 70, 79, 211, 210, 183, 215, 79, 187, 66]) := v_aesE (by omega) (by decide +kernel)
theorem wz0_10 : eqN (8 + 8 * 2) (zis (wS (aesE (lR kx1) 10) 2) (lR [166, 166, 166, 166, 166, 166, 166, 166, 0, 17, 34, 51, 68, 85, 102, 119, 136, 153, 170, 187, 204, 221, 238, 255]) 10) (lR [90, 156, 123, 31, 91, 28, 59, 76, 190, 17, 75, 52, 62, 176, 9, 129, 79, 211, 210, 183, 215, 79, 187, 66]) := w_stepZ (hE_aes (lR kx1) (show 1 ≤ 10 by omega)) (k := 9) (M := [235, 225, 206, 145, 6, 112, 36, 250, 190, 17, 75, 52, 62, 176, 9, 129, 100, 186, 229, 129, 141, 5, 112, 187]) (by omega) rfl wz0_9 (ck16 (by decide +kernel)) wvkx1_113 (ck_eq (by decide +kernel))
theorem wvkx1_114 : eq16 (aesE (lR kx1) 10 (lR [90, 156, 123, 31, 91, 28, 59, 76, 190, 17, 75, 52, 62, 176, 9, 129])) (lR [147, 183, 25, 103, 238, 212, 31, 252, 174, 243, 75, 216, 251, 90, 123, 130]) := v_aesE (by omega) (by decide +kernel)
theorem wz0_11 : eqN (8 + 8 * 2) (zis (wS (aesE (lR kx1) 10) 2) (lR [166, 166, 166, 166, 166, 166, 166, 166, 0, 17, 34, 51, 68, 85, 102, 119, 136, 153, 170, 187, 204, 221, 238, 255]) 11) (lR [147, 183, 25, 103, 238, 212, 31, 247, 174, 243, 75, 216, 251, 90, 123, 130, 79, 211, 210, 183, 215, 79, 187, 66]) := w_stepZ (hE_aes (lR kx1) (show 1 ≤ 10 by omega)) (k := 10) (M := [90, 156, 123, 31, 91, 28, 59, 76, 190, 17, 75, 52, 62, 176, 9, 129, 79, 211, 210, 183, 215, 79, 187, 66]) (by omega) rfl wz0_10 (ck16 (by decide +kernel)) wvkx1_114 (ck_eq (by decide +kernel))
theorem wvkx1_115 : eq16 (aesE (lR kx1) 10 (lR [147, 183, 25, 103, 238, 212, 31, 247, 79, 211, 210, 183, 215, 79, 187, 66])) (lR [31, 166, 139, 10, 129, 18, 180, 75, 157, 62, 134, 35, 113, 210, 207, 229]) := v_aesE (by omega) (by decide +kernel)
theorem wz0_12 : eqN (8 + 8 * 2) (zis (wS (aesE (lR kx1) 10) 2) (lR [166, 166, 166, 166, 166, 166, 166, 166, 0, 17, 34, 51, 68, 85, 102, 119, 136, 153, 170, 187, 204, 221, 238, 255]) 12) (lR [31, 166, 139, 10, 129, 18, 180, 71, 174, 243, 75, 216, 251, 90, 123, 130, 157, 62, 134, 35, 113, 210, 207, 229]) := w_stepZ (hE_aes (lR kx1) (show 1 ≤ 10 by omega)) (k := 11) (M := [147, 183, 25, 103, 238, 212, 31, 247, 174, 243, 75, 216, 251, 90, 123, 130, 79, 211, 210, 183, 215, 79, 187, 66]) (by omega) rfl wz0_11 (ck16 (by decide +kernel)) wvkx1_115 (ck_eq (by decide +kernel))
theorem v_wrap_0 : eqN (8 + 8 * 2) (zis (wS (aesE (lR kx1) 10) 2) (lR [166, 166, 166, 166, 166, 166, 166, 166, 0, 17, 34, 51, 68, 85, 102, 119, 136, 153, 170, 187, 204, 221, 238, 255]) 12) (lR [31, 166, 139, 10, 129, 18, 180, 71, 174, 243, 75, 216, 251, 90, 123, 130, 157, 62, 134, 35, 113, 210, 207, 229]) := wz0_12
set_option maxHeartbeats 4000000 in
theorem t_wrap_0 {work : Rw} (hw : Bt 64 work) (rd : Int32) (ak key mbk : Rw) : ∃ rd' ak' key' mbk' w', f_X6_wrapRight (0 : Int32) rd ak key mbk work = some (1, rd', ak', key', mbk', w') ∧ Bt 64 w' := by
  obtain ⟨m0, hm0, um0⟩ := hw
  obtain ⟨ak', key', e1, g1, g2⟩ := p_X6_setKey (t := 4) (n := 4) (nk := 4) (fun j => tb_COUNTING_KEY.getD j 0) rd ak key (by omega) (by omega) (by omega)
  have hk := rkL (KX := kx1) (by omega) g1 g2 kx1_P kx1_0
  have e1' : f_X6_setKey 4 (fun j => tb_COUNTING_KEY.getD j 0) 4 (16 : Int32) rd ak key = some (nI 10, ak', key') := e1
  have f1 : f_X6_put 5 (fun j => tb_DOUBLED_DIGITS.getD j 0) 2 (8 : Int32) work = _ := p_X6_put (t := 5) (n := 2) (a := 8) _ work (by omega)
  obtain ⟨w1, hw1⟩ : ∃ q, q = zrow 8 (8 * 2) (fun j => sB (ptR (fun j => tb_DOUBLED_DIGITS.getD j 0) j)) work := ⟨_, rfl⟩
  obtain ⟨m1, hm1⟩ : ∃ q, q = zrow 8 (8 * 2) (ptR (fun j => tb_DOUBLED_DIGITS.getD j 0)) m0 := ⟨_, rfl⟩
  rw [← hw1] at f1
  have b1 : RB 64 w1 m1 := by rw [hw1, hm1]; exact RB_row hm0
  have u1 : isU8 m1 64 := by rw [hm1]; exact U_row um0 (ptR_u _ _)
  have hp : (0 : Int32) = 0 ∨ (0 : Int32) = 1 := by decide
  obtain ⟨wf, hwf⟩ : ∃ q, q = upd w1 8 (vp_nar .byte ((w1 8 ^^^ (0 : Int32)).toInt8.toInt32)) := ⟨_, rfl⟩
  obtain ⟨mf, hmf⟩ : ∃ q, q = flp 8 0 m1 := ⟨_, rfl⟩
  have bf : RB 64 wf mf := by rw [hwf, hmf]; exact RB_flp hp b1 (by omega)
  have uf : isU8 mf 64 := by rw [hmf]; exact U_flp hp u1 (by omega)
  have ec : Int32.toNatClampNeg 8 = 8 := by decide
  have lf : ∀ j, 8 ≤ j → j < 24 → mf j = lR [166, 166, 166, 166, 166, 166, 166, 166, 0, 17, 34, 51, 68, 85, 102, 119, 136, 153, 170, 187, 204, 221, 238, 255] j := fun j h8 hj => by
    obtain ⟨i, rfl⟩ : ∃ i, j = 8 + i := ⟨j - 8, by omega⟩
    rw [hmf, flp_at (g := zrow 8 16 (ptR (fun j => tb_DOUBLED_DIGITS.getD j 0)) (fun _ => 0)) (by rw [hm1, zrow_in (by omega) (by omega), zrow_in (by omega) (by omega)]) (by rw [hm1, zrow_in (by omega) (by omega), zrow_in (by omega) (by omega)])]
    exact ck_eq (n := 16) (t := fun i => flp 8 0 (zrow 8 16 (ptR (fun j => tb_DOUBLED_DIGITS.getD j 0)) (fun _ => 0)) (8 + i)) (u := fun i => lR [166, 166, 166, 166, 166, 166, 166, 166, 0, 17, 34, 51, 68, 85, 102, 119, 136, 153, 170, 187, 204, 221, 238, 255] (8 + i)) (by decide +kernel) i (by omega)
  obtain ⟨bl', w4, c3, h3, h3b⟩ := p_X4_wrapInK (N := 64) (n := 2) (M := lR [166, 166, 166, 166, 166, 166, 166, 166, 0, 17, 34, 51, 68, 85, 102, 119, 136, 153, 170, 187, 204, 221, 238, 255]) (R := 10) (c := wf) mbk (by omega) (by omega) (by omega) (by omega) (fun j hj => ck_eq (n := 8) (t := lR [166, 166, 166, 166, 166, 166, 166, 166, 0, 17, 34, 51, 68, 85, 102, 119, 136, 153, 170, 187, 204, 221, 238, 255]) (u := fun _ => 166) (by decide +kernel) j hj) (fun j h8 hj => by rw [bf j (by omega), lf j h8 (by omega)]) (uL (by decide +kernel)) (by omega) (by omega) hk kx1_u rfl
  have c3' : f_X4_wrapIn 64 (24 : Int32) (nI 10) ak' mbk wf = some (bl', w4) := c3
  obtain ⟨m4, hm4⟩ : ∃ q, q = zrow 0 24 (lR [31, 166, 139, 10, 129, 18, 180, 71, 174, 243, 75, 216, 251, 90, 123, 130, 157, 62, 134, 35, 113, 210, 207, 229]) mf := ⟨_, rfl⟩
  have x4 : eqN 24 m4 (lR [31, 166, 139, 10, 129, 18, 180, 71, 174, 243, 75, 216, 251, 90, 123, 130, 157, 62, 134, 35, 113, 210, 207, 229]) := fun j hj => by rw [hm4, zrow_0 hj]
  have b4 : RB 64 w4 m4 := fun j hj => by
    by_cases q : j < 24
    · rw [h3 j (by omega), x4 j q]
      exact congrArg sB (v_wrap_0 j (by omega))
    · rw [h3b j (by omega), hm4, zrow_out (by omega)]
      exact bf j hj
  have u4 : isU8 m4 64 := by rw [hm4]; exact U_row uf (uL (by decide +kernel))
  obtain ⟨r, e5, g5⟩ := p_X6_stands (t := 22) (n := 3) (a := 0) (fun j => tb_WRAP_ANSWER.getD j 0) (by omega) b4 u4
  have e5' : f_X6_stands 22 (fun j => tb_WRAP_ANSWER.getD j 0) 3 (0 : Int32) w4 = some r := e5
  have hr : r = 1 := by
    rcases g5 with ⟨h, h2⟩ | ⟨h, h2⟩
    · exact h
    · exact absurd (fun j hj => (x4 _ (by omega)).trans (ck_eq (n := 24) (t := fun j => lR [31, 166, 139, 10, 129, 18, 180, 71, 174, 243, 75, 216, 251, 90, 123, 130, 157, 62, 134, 35, 113, 210, 207, 229] (0 + j)) (by decide +kernel) j hj)) h2
  subst hr
  refine ⟨nI 10, ak', key', bl', w4, ?_, m4, b4, u4⟩
  unfold f_X6_wrapRight
  rw [e1', zbE]
  dsimp only
  rw [f1, zbE, zk_T (by decide), zk_T (by decide), znE, ec, ← hwf, c3', zbE]
  dsimp only
  rw [e5', zbE, zk_T (by decide)]
theorem wz1_0 : eqN (8 + 8 * 2) (zis (wS (aesE (lR kx1) 10) 2) (lR [166, 166, 166, 166, 166, 166, 166, 166, 1, 17, 34, 51, 68, 85, 102, 119, 136, 153, 170, 187, 204, 221, 238, 255]) 0) (lR [166, 166, 166, 166, 166, 166, 166, 166, 1, 17, 34, 51, 68, 85, 102, 119, 136, 153, 170, 187, 204, 221, 238, 255]) := fun _ _ => by rw [zis_0]
theorem wvkx1_116 : eq16 (aesE (lR kx1) 10 (lR [166, 166, 166, 166, 166, 166, 166, 166, 1, 17, 34, 51, 68, 85, 102, 119])) (lR [223, 174, 75, 116, 74, 134, 190, 219, 23, 213, 44, 75, 254, 134, 71, 112]) := v_aesE (by omega) (by decide +kernel)
theorem wz1_1 : eqN (8 + 8 * 2) (zis (wS (aesE (lR kx1) 10) 2) (lR [166, 166, 166, 166, 166, 166, 166, 166, 1, 17, 34, 51, 68, 85, 102, 119, 136, 153, 170, 187, 204, 221, 238, 255]) 1) (lR [223, 174, 75, 116, 74, 134, 190, 218, 23, 213, 44, 75, 254, 134, 71, 112, 136, 153, 170, 187, 204, 221, 238, 255]) := w_stepZ (hE_aes (lR kx1) (show 1 ≤ 10 by omega)) (k := 0) (M := [166, 166, 166, 166, 166, 166, 166, 166, 1, 17, 34, 51, 68, 85, 102, 119, 136, 153, 170, 187, 204, 221, 238, 255]) (by omega) rfl wz1_0 (ck16 (by decide +kernel)) wvkx1_116 (ck_eq (by decide +kernel))
theorem wvkx1_117 : eq16 (aesE (lR kx1) 10 (lR [223, 174, 75, 116, 74, 134, 190, 218, 136, 153, 170, 187, 204, 221, 238, 255])) (lR [17, 231, 224, 71, 122, 193, 19, 233, 44, 151, 157, 233, 31, 191, 70, 244]) := v_aesE (by omega) (by decide +kernel)
theorem wz1_2 : eqN (8 + 8 * 2) (zis (wS (aesE (lR kx1) 10) 2) (lR [166, 166, 166, 166, 166, 166, 166, 166, 1, 17, 34, 51, 68, 85, 102, 119, 136, 153, 170, 187, 204, 221, 238, 255]) 2) (lR [17, 231, 224, 71, 122, 193, 19, 235, 23, 213, 44, 75, 254, 134, 71, 112, 44, 151, 157, 233, 31, 191, 70, 244]) := w_stepZ (hE_aes (lR kx1) (show 1 ≤ 10 by omega)) (k := 1) (M := [223, 174, 75, 116, 74, 134, 190, 218, 23, 213, 44, 75, 254, 134, 71, 112, 136, 153, 170, 187, 204, 221, 238, 255]) (by omega) rfl wz1_1 (ck16 (by decide +kernel)) wvkx1_117 (ck_eq (by decide +kernel))
theorem wvkx1_118 : eq16 (aesE (lR kx1) 10 (lR [17, 231, 224, 71, 122, 193, 19, 235, 23, 213, 44, 75, 254, 134, 71, 112])) (lR [12, 199, 200, 134, 239, 61, 185, 69, 28, 94, 221, 225, 72, 117, 70, 82]) := v_aesE (by omega) (by decide +kernel)
theorem wz1_3 : eqN (8 + 8 * 2) (zis (wS (aesE (lR kx1) 10) 2) (lR [166, 166, 166, 166, 166, 166, 166, 166, 1, 17, 34, 51, 68, 85, 102, 119, 136, 153, 170, 187, 204, 221, 238, 255]) 3) (lR [12, 199, 200, 134, 239, 61, 185, 70, 28, 94, 221, 225, 72, 117, 70, 82, 44, 151, 157, 233, 31, 191, 70, 244]) := w_stepZ (hE_aes (lR kx1) (show 1 ≤ 10 by omega)) (k := 2) (M := [17, 231, 224, 71, 122, 193, 19, 235, 23, 213, 44, 75, 254, 134, 71, 112, 44, 151, 157, 233, 31, 191, 70, 244]) (by omega) rfl wz1_2 (ck16 (by decide +kernel)) wvkx1_118 (ck_eq (by decide +kernel))
theorem wvkx1_119 : eq16 (aesE (lR kx1) 10 (lR [12, 199, 200, 134, 239, 61, 185, 70, 44, 151, 157, 233, 31, 191, 70, 244])) (lR [118, 2, 29, 41, 190, 198, 6, 96, 35, 42, 107, 115, 18, 103, 122, 73]) := v_aesE (by omega) (by decide +kernel)
theorem wz1_4 : eqN (8 + 8 * 2) (zis (wS (aesE (lR kx1) 10) 2) (lR [166, 166, 166, 166, 166, 166, 166, 166, 1, 17, 34, 51, 68, 85, 102, 119, 136, 153, 170, 187, 204, 221, 238, 255]) 4) (lR [118, 2, 29, 41, 190, 198, 6, 100, 28, 94, 221, 225, 72, 117, 70, 82, 35, 42, 107, 115, 18, 103, 122, 73]) := w_stepZ (hE_aes (lR kx1) (show 1 ≤ 10 by omega)) (k := 3) (M := [12, 199, 200, 134, 239, 61, 185, 70, 28, 94, 221, 225, 72, 117, 70, 82, 44, 151, 157, 233, 31, 191, 70, 244]) (by omega) rfl wz1_3 (ck16 (by decide +kernel)) wvkx1_119 (ck_eq (by decide +kernel))
theorem wvkx1_120 : eq16 (aesE (lR kx1) 10 (lR [118, 2, 29, 41, 190, 198, 6, 100, 28, 94, 221, 225, 72, 117, 70, 82])) (lR [160, 221, 191, 207, 169, 61, 232, 66, 76, 0, 123, 61, 248, 198, 42, 152]) := v_aesE (by omega) (by decide +kernel)
theorem wz1_5 : eqN (8 + 8 * 2) (zis (wS (aesE (lR kx1) 10) 2) (lR [166, 166, 166, 166, 166, 166, 166, 166, 1, 17, 34, 51, 68, 85, 102, 119, 136, 153, 170, 187, 204, 221, 238, 255]) 5) (lR [160, 221, 191, 207, 169, 61, 232, 71, 76, 0, 123, 61, 248, 198, 42, 152, 35, 42, 107, 115, 18, 103, 122, 73]) := w_stepZ (hE_aes (lR kx1) (show 1 ≤ 10 by omega)) (k := 4) (M := [118, 2, 29, 41, 190, 198, 6, 100, 28, 94, 221, 225, 72, 117, 70, 82, 35, 42, 107, 115, 18, 103, 122, 73]) (by omega) rfl wz1_4 (ck16 (by decide +kernel)) wvkx1_120 (ck_eq (by decide +kernel))
theorem wvkx1_121 : eq16 (aesE (lR kx1) 10 (lR [160, 221, 191, 207, 169, 61, 232, 71, 35, 42, 107, 115, 18, 103, 122, 73])) (lR [162, 128, 129, 204, 65, 247, 91, 235, 240, 211, 76, 129, 78, 100, 35, 203]) := v_aesE (by omega) (by decide +kernel)
theorem wz1_6 : eqN (8 + 8 * 2) (zis (wS (aesE (lR kx1) 10) 2) (lR [166, 166, 166, 166, 166, 166, 166, 166, 1, 17, 34, 51, 68, 85, 102, 119, 136, 153, 170, 187, 204, 221, 238, 255]) 6) (lR [162, 128, 129, 204, 65, 247, 91, 237, 76, 0, 123, 61, 248, 198, 42, 152, 240, 211, 76, 129, 78, 100, 35, 203]) := w_stepZ (hE_aes (lR kx1) (show 1 ≤ 10 by omega)) (k := 5) (M := [160, 221, 191, 207, 169, 61, 232, 71, 76, 0, 123, 61, 248, 198, 42, 152, 35, 42, 107, 115, 18, 103, 122, 73]) (by omega) rfl wz1_5 (ck16 (by decide +kernel)) wvkx1_121 (ck_eq (by decide +kernel))
theorem wvkx1_122 : eq16 (aesE (lR kx1) 10 (lR [162, 128, 129, 204, 65, 247, 91, 237, 76, 0, 123, 61, 248, 198, 42, 152])) (lR [220, 52, 205, 3, 44, 197, 49, 30, 45, 72, 83, 205, 193, 112, 51, 177]) := v_aesE (by omega) (by decide +kernel)
theorem wz1_7 : eqN (8 + 8 * 2) (zis (wS (aesE (lR kx1) 10) 2) (lR [166, 166, 166, 166, 166, 166, 166, 166, 1, 17, 34, 51, 68, 85, 102, 119, 136, 153, 170, 187, 204, 221, 238, 255]) 7) (lR [220, 52, 205, 3, 44, 197, 49, 25, 45, 72, 83, 205, 193, 112, 51, 177, 240, 211, 76, 129, 78, 100, 35, 203]) := w_stepZ (hE_aes (lR kx1) (show 1 ≤ 10 by omega)) (k := 6) (M := [162, 128, 129, 204, 65, 247, 91, 237, 76, 0, 123, 61, 248, 198, 42, 152, 240, 211, 76, 129, 78, 100, 35, 203]) (by omega) rfl wz1_6 (ck16 (by decide +kernel)) wvkx1_122 (ck_eq (by decide +kernel))
theorem wvkx1_123 : eq16 (aesE (lR kx1) 10 (lR [220, 52, 205, 3, 44, 197, 49, 25, 240, 211, 76, 129, 78, 100, 35, 203])) (lR [139, 156, 75, 34, 220, 169, 61, 182, 68, 22, 210, 4, 139, 189, 14, 113]) := v_aesE (by omega) (by decide +kernel)
theorem wz1_8 : eqN (8 + 8 * 2) (zis (wS (aesE (lR kx1) 10) 2) (lR [166, 166, 166, 166, 166, 166, 166, 166, 1, 17, 34, 51, 68, 85, 102, 119, 136, 153, 170, 187, 204, 221, 238, 255]) 8) (lR [139, 156, 75, 34, 220, 169, 61, 190, 45, 72, 83, 205, 193, 112, 51, 177, 68, 22, 210, 4, 139, 189, 14, 113]) := w_stepZ (hE_aes (lR kx1) (show 1 ≤ 10 by omega)) (k := 7) (M := [220, 52, 205, 3, 44, 197, 49, 25, 45, 72, 83, 205, 193, 112, 51, 177, 240, 211, 76, 129, 78, 100, 35, 203]) (by omega) rfl wz1_7 (ck16 (by decide +kernel)) wvkx1_123 (ck_eq (by decide +kernel))
theorem wvkx1_124 : eq16 (aesE (lR kx1) 10 (lR [139, 156, 75, 34, 220, 169, 61, 190, 45, 72, 83, 205, 193, 112, 51, 177])) (lR [178, 88, 173, 169, 146, 2, 81, 82, 57, 153, 171, 91, 155, 117, 155, 52]) := v_aesE (by omega) (by decide +kernel)
theorem wz1_9 : eqN (8 + 8 * 2) (zis (wS (aesE (lR kx1) 10) 2) (lR [166, 166, 166, 166, 166, 166, 166, 166, 1, 17, 34, 51, 68, 85, 102, 119, 136, 153, 170, 187, 204, 221, 238, 255]) 9) (lR [178, 88, 173, 169, 146, 2, 81, 91, 57, 153, 171, 91, 155, 117, 155, 52, 68, 22, 210, 4, 139, 189, 14, 113]) := w_stepZ (hE_aes (lR kx1) (show 1 ≤ 10 by omega)) (k := 8) (M := [139, 156, 75, 34, 220, 169, 61, 190, 45, 72, 83, 205, 193, 112, 51, 177, 68, 22, 210, 4, 139, 189, 14, 113]) (by omega) rfl wz1_8 (ck16 (by decide +kernel)) wvkx1_124 (ck_eq (by decide +kernel))
theorem wvkx1_125 : eq16 (aesE (lR kx1) 10 (lR [178, 88, 173, 169, 146, 2, 81, 91, 68, 22, 210, 4, 139, 189, 14, 113])) (lR [176, 56, 36, 26, 96, 124, 156, 91, 74, 92, 189, 156, 149, 132, 148, 102]) := v_aesE (by omega) (by decide +kernel)
theorem wz1_10 : eqN (8 + 8 * 2) (zis (wS (aesE (lR kx1) 10) 2) (lR [166, 166, 166, 166, 166, 166, 166, 166, 1, 17, 34, 51, 68, 85, 102, 119, 136, 153, 170, 187, 204, 221, 238, 255]) 10) (lR [176, 56, 36, 26, 96, 124, 156, 81, 57, 153, 171, 91, 155, 117, 155, 52, 74, 92, 189, 156, 149, 132, 148, 102]) := w_stepZ (hE_aes (lR kx1) (show 1 ≤ 10 by omega)) (k := 9) (M := [178, 88, 173, 169, 146, 2, 81, 91, 57, 153, 171, 91, 155, 117, 155, 52, 68, 22, 210, 4, 139, 189, 14, 113]) (by omega) rfl wz1_9 (ck16 (by decide +kernel)) wvkx1_125 (ck_eq (by decide +kernel))
theorem wvkx1_126 : eq16 (aesE (lR kx1) 10 (lR [176, 56, 36, 26, 96, 124, 156, 81, 57, 153, 171, 91, 155, 117, 155, 52])) (lR [19, 34, 107, 176, 13, 130, 171, 120, 227, 84, 184, 158, 91, 128, 186, 28]) := v_aesE (by omega) (by decide +kernel)
theorem wz1_11 : eqN (8 + 8 * 2) (zis (wS (aesE (lR kx1) 10) 2) (lR [166, 166, 166, 166, 166, 166, 166, 166, 1, 17, 34, 51, 68, 85, 102, 119, 136, 153, 170, 187, 204, 221, 238, 255]) 11) (lR [19, 34, 107, 176, 13, 130, 171, 115, 227, 84, 184, 158, 91, 128, 186, 28, 74, 92, 189, 156, 149, 132, 148, 102]) := w_stepZ (hE_aes (lR kx1) (show 1 ≤ 10 by omega)) (k := 10) (M := [176, 56, 36, 26, 96, 124, 156, 81, 57, 153, 171, 91, 155, 117, 155, 52, 74, 92, 189, 156, 149, 132, 148, 102]) (by omega) rfl wz1_10 (ck16 (by decide +kernel)) wvkx1_126 (ck_eq (by decide +kernel))
theorem wvkx1_127 : eq16 (aesE (lR kx1) 10 (lR [19, 34, 107, 176, 13, 130, 171, 115, 74, 92, 189, 156, 149, 132, 148, 102])) (lR [35, 55, 8, 111, 136, 121, 255, 196, 198, 157, 185, 10, 127, 0, 228, 173]) := v_aesE (by omega) (by decide +kernel)
theorem wz1_12 : eqN (8 + 8 * 2) (zis (wS (aesE (lR kx1) 10) 2) (lR [166, 166, 166, 166, 166, 166, 166, 166, 1, 17, 34, 51, 68, 85, 102, 119, 136, 153, 170, 187, 204, 221, 238, 255]) 12) (lR [35, 55, 8, 111, 136, 121, 255, 200, 227, 84, 184, 158, 91, 128, 186, 28, 198, 157, 185, 10, 127, 0, 228, 173]) := w_stepZ (hE_aes (lR kx1) (show 1 ≤ 10 by omega)) (k := 11) (M := [19, 34, 107, 176, 13, 130, 171, 115, 227, 84, 184, 158, 91, 128, 186, 28, 74, 92, 189, 156, 149, 132, 148, 102]) (by omega) rfl wz1_11 (ck16 (by decide +kernel)) wvkx1_127 (ck_eq (by decide +kernel))
theorem v_wrap_1 : eqN (8 + 8 * 2) (zis (wS (aesE (lR kx1) 10) 2) (lR [166, 166, 166, 166, 166, 166, 166, 166, 1, 17, 34, 51, 68, 85, 102, 119, 136, 153, 170, 187, 204, 221, 238, 255]) 12) (lR [35, 55, 8, 111, 136, 121, 255, 200, 227, 84, 184, 158, 91, 128, 186, 28, 198, 157, 185, 10, 127, 0, 228, 173]) := wz1_12
set_option maxHeartbeats 4000000 in
theorem t_wrap_1 {work : Rw} (hw : Bt 64 work) (rd : Int32) (ak key mbk : Rw) : ∃ rd' ak' key' mbk' w', f_X6_wrapRight (1 : Int32) rd ak key mbk work = some (0, rd', ak', key', mbk', w') ∧ Bt 64 w' := by
  obtain ⟨m0, hm0, um0⟩ := hw
  obtain ⟨ak', key', e1, g1, g2⟩ := p_X6_setKey (t := 4) (n := 4) (nk := 4) (fun j => tb_COUNTING_KEY.getD j 0) rd ak key (by omega) (by omega) (by omega)
  have hk := rkL (KX := kx1) (by omega) g1 g2 kx1_P kx1_0
  have e1' : f_X6_setKey 4 (fun j => tb_COUNTING_KEY.getD j 0) 4 (16 : Int32) rd ak key = some (nI 10, ak', key') := e1
  have f1 : f_X6_put 5 (fun j => tb_DOUBLED_DIGITS.getD j 0) 2 (8 : Int32) work = _ := p_X6_put (t := 5) (n := 2) (a := 8) _ work (by omega)
  obtain ⟨w1, hw1⟩ : ∃ q, q = zrow 8 (8 * 2) (fun j => sB (ptR (fun j => tb_DOUBLED_DIGITS.getD j 0) j)) work := ⟨_, rfl⟩
  obtain ⟨m1, hm1⟩ : ∃ q, q = zrow 8 (8 * 2) (ptR (fun j => tb_DOUBLED_DIGITS.getD j 0)) m0 := ⟨_, rfl⟩
  rw [← hw1] at f1
  have b1 : RB 64 w1 m1 := by rw [hw1, hm1]; exact RB_row hm0
  have u1 : isU8 m1 64 := by rw [hm1]; exact U_row um0 (ptR_u _ _)
  have hp : (1 : Int32) = 0 ∨ (1 : Int32) = 1 := by decide
  obtain ⟨wf, hwf⟩ : ∃ q, q = upd w1 8 (vp_nar .byte ((w1 8 ^^^ (1 : Int32)).toInt8.toInt32)) := ⟨_, rfl⟩
  obtain ⟨mf, hmf⟩ : ∃ q, q = flp 8 1 m1 := ⟨_, rfl⟩
  have bf : RB 64 wf mf := by rw [hwf, hmf]; exact RB_flp hp b1 (by omega)
  have uf : isU8 mf 64 := by rw [hmf]; exact U_flp hp u1 (by omega)
  have ec : Int32.toNatClampNeg 8 = 8 := by decide
  have lf : ∀ j, 8 ≤ j → j < 24 → mf j = lR [166, 166, 166, 166, 166, 166, 166, 166, 1, 17, 34, 51, 68, 85, 102, 119, 136, 153, 170, 187, 204, 221, 238, 255] j := fun j h8 hj => by
    obtain ⟨i, rfl⟩ : ∃ i, j = 8 + i := ⟨j - 8, by omega⟩
    rw [hmf, flp_at (g := zrow 8 16 (ptR (fun j => tb_DOUBLED_DIGITS.getD j 0)) (fun _ => 0)) (by rw [hm1, zrow_in (by omega) (by omega), zrow_in (by omega) (by omega)]) (by rw [hm1, zrow_in (by omega) (by omega), zrow_in (by omega) (by omega)])]
    exact ck_eq (n := 16) (t := fun i => flp 8 1 (zrow 8 16 (ptR (fun j => tb_DOUBLED_DIGITS.getD j 0)) (fun _ => 0)) (8 + i)) (u := fun i => lR [166, 166, 166, 166, 166, 166, 166, 166, 1, 17, 34, 51, 68, 85, 102, 119, 136, 153, 170, 187, 204, 221, 238, 255] (8 + i)) (by decide +kernel) i (by omega)
  obtain ⟨bl', w4, c3, h3, h3b⟩ := p_X4_wrapInK (N := 64) (n := 2) (M := lR [166, 166, 166, 166, 166, 166, 166, 166, 1, 17, 34, 51, 68, 85, 102, 119, 136, 153, 170, 187, 204, 221, 238, 255]) (R := 10) (c := wf) mbk (by omega) (by omega) (by omega) (by omega) (fun j hj => ck_eq (n := 8) (t := lR [166, 166, 166, 166, 166, 166, 166, 166, 1, 17, 34, 51, 68, 85, 102, 119, 136, 153, 170, 187, 204, 221, 238, 255]) (u := fun _ => 166) (by decide +kernel) j hj) (fun j h8 hj => by rw [bf j (by omega), lf j h8 (by omega)]) (uL (by decide +kernel)) (by omega) (by omega) hk kx1_u rfl
  have c3' : f_X4_wrapIn 64 (24 : Int32) (nI 10) ak' mbk wf = some (bl', w4) := c3
  obtain ⟨m4, hm4⟩ : ∃ q, q = zrow 0 24 (lR [35, 55, 8, 111, 136, 121, 255, 200, 227, 84, 184, 158, 91, 128, 186, 28, 198, 157, 185, 10, 127, 0, 228, 173]) mf := ⟨_, rfl⟩
  have x4 : eqN 24 m4 (lR [35, 55, 8, 111, 136, 121, 255, 200, 227, 84, 184, 158, 91, 128, 186, 28, 198, 157, 185, 10, 127, 0, 228, 173]) := fun j hj => by rw [hm4, zrow_0 hj]
  have b4 : RB 64 w4 m4 := fun j hj => by
    by_cases q : j < 24
    · rw [h3 j (by omega), x4 j q]
      exact congrArg sB (v_wrap_1 j (by omega))
    · rw [h3b j (by omega), hm4, zrow_out (by omega)]
      exact bf j hj
  have u4 : isU8 m4 64 := by rw [hm4]; exact U_row uf (uL (by decide +kernel))
  obtain ⟨r, e5, g5⟩ := p_X6_stands (t := 22) (n := 3) (a := 0) (fun j => tb_WRAP_ANSWER.getD j 0) (by omega) b4 u4
  have e5' : f_X6_stands 22 (fun j => tb_WRAP_ANSWER.getD j 0) 3 (0 : Int32) w4 = some r := e5
  have hr : r = 0 := by
    rcases g5 with ⟨h, h2⟩ | ⟨h, h2⟩
    · exact absurd ((x4 0 (by omega)).symm.trans (h2 0 (by omega))) (by decide +kernel)
    · exact h
  subst hr
  refine ⟨nI 10, ak', key', bl', w4, ?_, m4, b4, u4⟩
  unfold f_X6_wrapRight
  rw [e1', zbE]
  dsimp only
  rw [f1, zbE, zk_T (by decide), zk_T (by decide), znE, ec, ← hwf, c3', zbE]
  dsimp only
  rw [e5', zbE, zk_T (by decide)]
