/-! the self tests: GCM -/
theorem v_gz : eq16 (aesE (lR kx0) 10 (lR [0, 0, 0, 0, 0, 0, 0, 0, 0, 0, 0, 0, 0, 0, 0, 0])) (lR [102, 233, 75, 212, 239, 138, 44, 59, 136, 76, 250, 89, 202, 52, 43, 46]) := v_aesE (by omega) (by decide +kernel)
theorem v_g1 : eq16 (aesE (lR kx0) 10 (lR [0, 0, 0, 0, 0, 0, 0, 0, 0, 0, 0, 0, 0, 0, 0, 1])) (lR [88, 226, 252, 206, 250, 126, 48, 97, 54, 127, 29, 87, 164, 231, 69, 90]) := v_aesE (by omega) (by decide +kernel)
theorem v_g2 : eq16 (aesE (lR kx0) 10 (lR [0, 0, 0, 0, 0, 0, 0, 0, 0, 0, 0, 0, 0, 0, 0, 2])) (lR [3, 136, 218, 206, 96, 182, 163, 146, 243, 40, 194, 185, 113, 178, 254, 120]) := v_aesE (by omega) (by decide +kernel)
theorem gq_0 : eq16 (aesE (lR kx0) 10 (fun _ => 0)) (lR [102, 233, 75, 212, 239, 138, 44, 59, 136, 76, 250, 89, 202, 52, 43, 46]) := vE (hE_aes (lR kx0) (show 1 ≤ 10 by omega)) v_gz (ck16 (by decide +kernel))
theorem gq_h : gKh (aesE (lR kx0) 10) = (7415541639366192187 : Int64) := by
  unfold gKh
  rw [L8_c (fun j hj => gq_0 j (by omega))]
  decide +kernel
theorem gq_l : gKl (aesE (lR kx0) 10) = (-8625243922769892562 : Int64) := by
  unfold gKl
  rw [L8_c (n := fun t => lR [102, 233, 75, 212, 239, 138, 44, 59, 136, 76, 250, 89, 202, 52, 43, 46] (8 + t)) (fun j hj => gq_0 _ (by omega))]
  decide +kernel
theorem gq_n {non : Rw} (h : ∀ t, t < 12 → non t = 0) (v : Int32) : eq16 (gcB non v) (gcB (fun _ => 0) v) := gcB_c h v
theorem gq_1 {non : Rw} (h : ∀ t, t < 12 → non t = 0) : eq16 (aesE (lR kx0) 10 (gcB non 1)) (lR [88, 226, 252, 206, 250, 126, 48, 97, 54, 127, 29, 87, 164, 231, 69, 90]) := vE (hE_aes (lR kx0) (show 1 ≤ 10 by omega)) v_g1 (fun i hi => (gq_n h 1 i hi).trans (ck_eq (n := 16) (t := gcB (fun _ => 0) 1) (by decide +kernel) i hi))
theorem gq_2 {non : Rw} (h : ∀ t, t < 12 → non t = 0) : eq16 (aesE (lR kx0) 10 (gcB non (nI (2 + 0)))) (lR [3, 136, 218, 206, 96, 182, 163, 146, 243, 40, 194, 185, 113, 178, 254, 120]) := vE (hE_aes (lR kx0) (show 1 ≤ 10 by omega)) v_g2 (fun i hi => (gq_n h (nI (2 + 0)) i hi).trans (ck_eq (n := 16) (t := gcB (fun _ => 0) (nI (2 + 0))) (by decide +kernel) i hi))
theorem gq_s {aad ct : Rw} (h : eqN 16 ct (lR [3, 136, 218, 206, 96, 182, 163, 146, 243, 40, 194, 185, 113, 178, 254, 120])) : gSum (aesE (lR kx0) 10) aad 0 ct 16 = ((6786580794395615880 : Int64), (3208164271692439223 : Int64)) := by
  unfold gSum
  rw [gq_h, gq_l, ga_c _ h]
  unfold ga
  rw [show (0 + 15) / 16 = 0 by decide, zis_0, show (16 + 15) / 16 = 0 + 1 by decide, zis_s, zis_0]
  unfold gaS
  have e1 : ((0 : Int64), (0 : Int64)).1 ^^^ L8 (pdR (lR [3, 136, 218, 206, 96, 182, 163, 146, 243, 40, 194, 185, 113, 178, 254, 120]) 16 (16 * 0)) = (254693958867133330 : Int64) := (by decide +kernel)
  have e2 : ((0 : Int64), (0 : Int64)).2 ^^^ L8 (pdR (lR [3, 136, 218, 206, 96, 182, 163, 146, 243, 40, 194, 185, 113, 178, 254, 120]) 16 (16 * 0 + 8)) = (-925275621692342664 : Int64) := (by decide +kernel)
  rw [e1, e2]
  exact v_gm (by decide +kernel)
theorem gq_t {aad ct : Rw} (h : eqN 16 ct (lR [3, 136, 218, 206, 96, 182, 163, 146, 243, 40, 194, 185, 113, 178, 254, 120])) : gTh (aesE (lR kx0) 10) aad 0 ct 16 = ((-897136501810125860 : Int64), (-4375956335889418107 : Int64)) := by
  unfold gTh
  rw [gq_s h, gq_h, gq_l]
  have e1 : ((6786580794395615880 : Int64), (3208164271692439223 : Int64)).1 ^^^ (8 * (nI 0).toInt64) = (6786580794395615880 : Int64) := (by decide +kernel)
  have e2 : ((6786580794395615880 : Int64), (3208164271692439223 : Int64)).2 ^^^ (8 * (nI 16).toInt64) = (3208164271692439095 : Int64) := (by decide +kernel)
  rw [e1, e2]
  exact v_gm (by decide +kernel)
theorem gq_g {non aad ct : Rw} (hn : ∀ t, t < 12 → non t = 0) (h : eqN 16 ct (lR [3, 136, 218, 206, 96, 182, 163, 146, 243, 40, 194, 185, 113, 178, 254, 120])) : eqN 16 (gTag (aesE (lR kx0) 10) non aad 0 ct 16) (lR [171, 110, 71, 212, 44, 236, 19, 189, 245, 58, 103, 178, 18, 87, 189, 223]) := by
  intro j hj
  unfold gTag
  rw [gq_t h]
  by_cases q : j < 8
  · rw [if_pos q, L8_c (fun i hi => gq_1 hn i (by omega))]
    exact ck_eq (n := 8) (t := fun j => lB (((-897136501810125860 : Int64), (-4375956335889418107 : Int64)).1 ^^^ L8 (lR [88, 226, 252, 206, 250, 126, 48, 97, 54, 127, 29, 87, 164, 231, 69, 90])) j) (by decide +kernel) j q
  · obtain ⟨i, rfl⟩ : ∃ i, j = 8 + i := ⟨j - 8, by omega⟩
    rw [if_neg q, L8_c (n := fun t => lR [88, 226, 252, 206, 250, 126, 48, 97, 54, 127, 29, 87, 164, 231, 69, 90] (8 + t)) (fun i hi => gq_1 hn _ (by omega)), Nat.add_sub_cancel_left]
    exact ck_eq (n := 8) (t := fun i => lB (((-897136501810125860 : Int64), (-4375956335889418107 : Int64)).2 ^^^ L8 (fun t => lR [88, 226, 252, 206, 250, 126, 48, 97, 54, 127, 29, 87, 164, 231, 69, 90] (8 + t))) i) (u := fun i => lR [171, 110, 71, 212, 44, 236, 19, 189, 245, 58, 103, 178, 18, 87, 189, 223] (8 + i)) (by decide +kernel) i (by omega)
set_option maxHeartbeats 4000000 in
theorem t_gcm_0 (rd : Int32) (ak : Rw) (kh kl sh sl : Int64) (tag key mbk mpd work : Rw) : ∃ rd' ak' kh' kl' sh' sl' tag' key' mbk' mpd' w', f_X6_gcmRight (0 : Int32) rd ak kh kl sh sl tag key mbk mpd work = some (1, rd', ak', kh', kl', sh', sl', tag', key', mbk', mpd', w') ∧ Bt 64 w' := by
  obtain ⟨ak', key', e1, g1, g2⟩ := p_X6_setKey (t := 13) (n := 2) (nk := 4) (fun j => tb_ZEROS.getD j 0) rd ak key (by omega) (by omega) (by omega)
  have hk := rkL (KX := kx0) (by omega) g1 g2 kx0_P kx0_0
  have e1' : f_X6_setKey 13 (fun j => tb_ZEROS.getD j 0) 2 (16 : Int32) rd ak key = some (nI 10, ak', key') := e1
  have f1 : f_J7_fill_031fb 64 (0 : Int32) work = some (zrow 0 64 (fun _ => 0) work) := p_J7_fillB (N := 64) 0 work (by decide) (by omega)
  obtain ⟨w1, hw1⟩ : ∃ q : Rw, q = zrow 0 64 (fun _ => 0) work := ⟨_, rfl⟩
  rw [← hw1] at f1
  have b1 : RB 64 w1 (fun _ => 0) := by rw [hw1]; exact RB_zero work
  have u1 : isU8 (fun _ => (0 : Int32)) 64 := fun _ _ => (by decide : (0 : Int32) &&& 255 = 0)
  have hp : (0 : Int32) = 0 ∨ (0 : Int32) = 1 := by decide
  obtain ⟨wf, hwf⟩ : ∃ q, q = upd w1 12 (vp_nar .byte ((w1 12 ^^^ (0 : Int32)).toInt8.toInt32)) := ⟨_, rfl⟩
  obtain ⟨mf, hmf⟩ : ∃ q, q = flp 12 0 (fun _ => 0) := ⟨_, rfl⟩
  have bf : RB 64 wf mf := by rw [hwf, hmf]; exact RB_flp hp b1 (by omega)
  have uf : isU8 mf 64 := by rw [hmf]; exact U_flp hp u1 (by omega)
  have ec : Int32.toNatClampNeg 12 = 12 := by decide
  obtain ⟨q1, q2, q3, q4, bl', pad', tag', w4, c3, b4⟩ := p_X2_sealText (N := 64) (p := 0) (hd := 0) (tx := 16) (R := 10) kh kl sh sl mbk mpd tag bf uf (by omega) (by omega) (by omega) (by omega) hk kx0_u
  have c3' : f_X2_sealText 64 (0 : Int32) (0 : Int32) (16 : Int32) kh kl sh sl (nI 10) ak' mbk mpd tag wf = _ := c3
  have u4 : isU8 (gSeal (aesE (lR kx0) 10) mf 0 0 16) 64 := gSeal_u (fun s hs => aesE_u hs (by omega) kx0_u) uf (by omega)
  have hn : ∀ t, t < 12 → (fun t => mf (0 + t)) t = 0 := fun t ht => by
    show mf (0 + t) = 0
    rw [hmf]
    unfold flp
    rw [upd_n _ _ (by omega)]
  have hct : ∀ t, t < 16 → gTx (aesE (lR kx0) 10) mf 0 0 16 (12 + t) = mf (12 + t) ^^^ lR [3, 136, 218, 206, 96, 182, 163, 146, 243, 40, 194, 185, 113, 178, 254, 120] t := fun t ht => by
    unfold gTx stX
    rw [zrow_in (by omega) (by omega), show 0 + 12 + 0 + (12 + t - (0 + 12 + 0)) = 12 + t by omega]
    unfold gStr
    rw [show (12 + t - (0 + 12 + 0)) / 16 = 0 by omega, show (12 + t - (0 + 12 + 0)) % 16 = t by omega, gq_2 hn t ht]
  obtain ⟨m4, hm4⟩ : ∃ q, q = gSeal (aesE (lR kx0) 10) mf 0 0 16 := ⟨_, rfl⟩
  have x4 : ∀ t, t < 16 → m4 (12 + t) = mf (12 + t) ^^^ lR [3, 136, 218, 206, 96, 182, 163, 146, 243, 40, 194, 185, 113, 178, 254, 120] t := fun t ht => by
    rw [hm4]
    unfold gSeal
    rw [zrow_out (by omega)]
    exact hct t ht
  have z4 : ∀ t, t < 16 → m4 (12 + t) = lR [3, 136, 218, 206, 96, 182, 163, 146, 243, 40, 194, 185, 113, 178, 254, 120] t := fun t ht => by
    rw [x4 t ht, hmf]
    exact ck_eq (n := 16) (t := fun t => flp 12 0 (fun _ => 0) (12 + t) ^^^ lR [3, 136, 218, 206, 96, 182, 163, 146, 243, 40, 194, 185, 113, 178, 254, 120] t) (by decide +kernel) t ht
  have y4 : ∀ t, t < 16 → m4 (12 + (16 + t)) = lR [171, 110, 71, 212, 44, 236, 19, 189, 245, 58, 103, 178, 18, 87, 189, 223] t := fun t ht => by
    rw [hm4]
    unfold gSeal
    rw [zrow_in (by omega) (by omega), show 12 + (16 + t) - (0 + 12 + 0 + 16) = t by omega]
    unfold gTagS
    refine gq_g hn (fun i hi => ?_) t ht
    show gTx (aesE (lR kx0) 10) mf 0 0 16 (0 + 12 + 0 + i) = _
    rw [show 0 + 12 + 0 + i = 12 + i by omega, hct i hi, hmf]
    exact ck_eq (n := 16) (t := fun t => flp 12 0 (fun _ => 0) (12 + t) ^^^ lR [3, 136, 218, 206, 96, 182, 163, 146, 243, 40, 194, 185, 113, 178, 254, 120] t) (by decide +kernel) i hi
  rw [← hm4] at b4 u4
  obtain ⟨r, e5, g5⟩ := p_X6_stands (t := 14) (n := 4) (a := 12) (fun j => tb_GCM_ANSWER.getD j 0) (by omega) b4 u4
  have e5' : f_X6_stands 14 (fun j => tb_GCM_ANSWER.getD j 0) 4 (12 : Int32) w4 = some r := e5
  have hr : r = 1 := by
    rcases g5 with ⟨h, h2⟩ | ⟨h, h2⟩
    · exact h
    · refine absurd (fun j hj => ?_) h2
      by_cases q : j < 16
      · rw [z4 j q]
        exact ck_eq (n := 16) (t := lR [3, 136, 218, 206, 96, 182, 163, 146, 243, 40, 194, 185, 113, 178, 254, 120]) (by decide +kernel) j q
      · obtain ⟨i, rfl⟩ : ∃ i, j = 16 + i := ⟨j - 16, by omega⟩
        rw [y4 i (by omega)]
        exact ck_eq (n := 16) (t := lR [171, 110, 71, 212, 44, 236, 19, 189, 245, 58, 103, 178, 18, 87, 189, 223]) (u := fun i => ptR (fun j => tb_GCM_ANSWER.getD j 0) (16 + i)) (by decide +kernel) i (by omega)
  subst hr
  refine ⟨nI 10, ak', q1, q2, q3, q4, tag', key', bl', pad', w4, ?_, m4, b4, u4⟩
  unfold f_X6_gcmRight
  rw [e1', zbE]
  dsimp only
  rw [f1, zbE, zk_T (by decide), zk_T (by decide), znE, ec, ← hwf, c3', zbE]
  dsimp only
  rw [e5', zbE, zk_T (by decide)]
set_option maxHeartbeats 4000000 in
theorem t_gcm_1 (rd : Int32) (ak : Rw) (kh kl sh sl : Int64) (tag key mbk mpd work : Rw) : ∃ rd' ak' kh' kl' sh' sl' tag' key' mbk' mpd' w', f_X6_gcmRight (1 : Int32) rd ak kh kl sh sl tag key mbk mpd work = some (0, rd', ak', kh', kl', sh', sl', tag', key', mbk', mpd', w') ∧ Bt 64 w' := by
  obtain ⟨ak', key', e1, g1, g2⟩ := p_X6_setKey (t := 13) (n := 2) (nk := 4) (fun j => tb_ZEROS.getD j 0) rd ak key (by omega) (by omega) (by omega)
  have hk := rkL (KX := kx0) (by omega) g1 g2 kx0_P kx0_0
  have e1' : f_X6_setKey 13 (fun j => tb_ZEROS.getD j 0) 2 (16 : Int32) rd ak key = some (nI 10, ak', key') := e1
  have f1 : f_J7_fill_031fb 64 (0 : Int32) work = some (zrow 0 64 (fun _ => 0) work) := p_J7_fillB (N := 64) 0 work (by decide) (by omega)
  obtain ⟨w1, hw1⟩ : ∃ q : Rw, q = zrow 0 64 (fun _ => 0) work := ⟨_, rfl⟩
  rw [← hw1] at f1
  have b1 : RB 64 w1 (fun _ => 0) := by rw [hw1]; exact RB_zero work
  have u1 : isU8 (fun _ => (0 : Int32)) 64 := fun _ _ => (by decide : (0 : Int32) &&& 255 = 0)
  have hp : (1 : Int32) = 0 ∨ (1 : Int32) = 1 := by decide
  obtain ⟨wf, hwf⟩ : ∃ q, q = upd w1 12 (vp_nar .byte ((w1 12 ^^^ (1 : Int32)).toInt8.toInt32)) := ⟨_, rfl⟩
  obtain ⟨mf, hmf⟩ : ∃ q, q = flp 12 1 (fun _ => 0) := ⟨_, rfl⟩
  have bf : RB 64 wf mf := by rw [hwf, hmf]; exact RB_flp hp b1 (by omega)
  have uf : isU8 mf 64 := by rw [hmf]; exact U_flp hp u1 (by omega)
  have ec : Int32.toNatClampNeg 12 = 12 := by decide
  obtain ⟨q1, q2, q3, q4, bl', pad', tag', w4, c3, b4⟩ := p_X2_sealText (N := 64) (p := 0) (hd := 0) (tx := 16) (R := 10) kh kl sh sl mbk mpd tag bf uf (by omega) (by omega) (by omega) (by omega) hk kx0_u
  have c3' : f_X2_sealText 64 (0 : Int32) (0 : Int32) (16 : Int32) kh kl sh sl (nI 10) ak' mbk mpd tag wf = _ := c3
  have u4 : isU8 (gSeal (aesE (lR kx0) 10) mf 0 0 16) 64 := gSeal_u (fun s hs => aesE_u hs (by omega) kx0_u) uf (by omega)
  have hn : ∀ t, t < 12 → (fun t => mf (0 + t)) t = 0 := fun t ht => by
    show mf (0 + t) = 0
    rw [hmf]
    unfold flp
    rw [upd_n _ _ (by omega)]
  have hct : ∀ t, t < 16 → gTx (aesE (lR kx0) 10) mf 0 0 16 (12 + t) = mf (12 + t) ^^^ lR [3, 136, 218, 206, 96, 182, 163, 146, 243, 40, 194, 185, 113, 178, 254, 120] t := fun t ht => by
    unfold gTx stX
    rw [zrow_in (by omega) (by omega), show 0 + 12 + 0 + (12 + t - (0 + 12 + 0)) = 12 + t by omega]
    unfold gStr
    rw [show (12 + t - (0 + 12 + 0)) / 16 = 0 by omega, show (12 + t - (0 + 12 + 0)) % 16 = t by omega, gq_2 hn t ht]
  obtain ⟨m4, hm4⟩ : ∃ q, q = gSeal (aesE (lR kx0) 10) mf 0 0 16 := ⟨_, rfl⟩
  have x4 : ∀ t, t < 16 → m4 (12 + t) = mf (12 + t) ^^^ lR [3, 136, 218, 206, 96, 182, 163, 146, 243, 40, 194, 185, 113, 178, 254, 120] t := fun t ht => by
    rw [hm4]
    unfold gSeal
    rw [zrow_out (by omega)]
    exact hct t ht
  rw [← hm4] at b4 u4
  obtain ⟨r, e5, g5⟩ := p_X6_stands (t := 14) (n := 4) (a := 12) (fun j => tb_GCM_ANSWER.getD j 0) (by omega) b4 u4
  have e5' : f_X6_stands 14 (fun j => tb_GCM_ANSWER.getD j 0) 4 (12 : Int32) w4 = some r := e5
  have hr : r = 0 := by
    rcases g5 with ⟨h, h2⟩ | ⟨h, h2⟩
    · refine absurd ((x4 0 (by omega)).symm.trans (h2 0 (by omega))) ?_
      rw [hmf]
      decide +kernel
    · exact h
  subst hr
  refine ⟨nI 10, ak', q1, q2, q3, q4, tag', key', bl', pad', w4, ?_, m4, b4, u4⟩
  unfold f_X6_gcmRight
  rw [e1', zbE]
  dsimp only
  rw [f1, zbE, zk_T (by decide), zk_T (by decide), znE, ec, ← hwf, c3', zbE]
  dsimp only
  rw [e5', zbE, zk_T (by decide)]
