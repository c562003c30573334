/-! the self tests: digest, code, CMAC, wrapping -/
set_option maxHeartbeats 4000000 in
theorem t_sha_0 {work : Rw} (hw : Bt 64 work) (fl tot : Int32) (sc su : Rw) : ∃ fl' tot' sc' su' w', f_X6_shaRight (0 : Int32) fl tot sc su work = some (1, fl', tot', sc', su', w') ∧ Bt 64 w' := by
  obtain ⟨m0, hm0, um0⟩ := hw
  have f1 : f_X6_put 17 (fun j => tb_ABC.getD j 0) 1 (0 : Int32) work = _ := p_X6_put (t := 17) (n := 1) (a := 0) _ work (by omega)
  obtain ⟨w1, hw1⟩ : ∃ q, q = zrow 0 (8 * 1) (fun j => sB (ptR (fun j => tb_ABC.getD j 0) j)) work := ⟨_, rfl⟩
  obtain ⟨m1, hm1⟩ : ∃ q, q = zrow 0 (8 * 1) (ptR (fun j => tb_ABC.getD j 0)) m0 := ⟨_, rfl⟩
  rw [← hw1] at f1
  have b1 : RB 64 w1 m1 := by rw [hw1, hm1]; exact RB_row hm0
  have u1 : isU8 m1 64 := by rw [hm1]; exact U_row um0 (ptR_u _ _)
  have hp : (0 : Int32) = 0 ∨ (0 : Int32) = 1 := by decide
  obtain ⟨wf, hwf⟩ : ∃ q, q = upd w1 0 (vp_nar .byte ((w1 0 ^^^ (0 : Int32)).toInt8.toInt32)) := ⟨_, rfl⟩
  obtain ⟨mf, hmf⟩ : ∃ q, q = flp 0 0 m1 := ⟨_, rfl⟩
  have bf : RB 64 wf mf := by rw [hwf, hmf]; exact RB_flp hp b1 (by omega)
  have uf : isU8 mf 64 := by rw [hmf]; exact U_flp hp u1 (by omega)
  have ec : Int32.toNatClampNeg 0 = 0 := by decide
  have lf : eqN 3 mf (lR [97, 98, 99]) := fun j hj => by
    rw [hmf, flp_at (g := ptR (fun j => tb_ABC.getD j 0)) (by rw [hm1]; exact zrow_0 (by omega)) (by rw [hm1]; exact zrow_0 (by omega))]
    exact ck_eq (n := 3) (t := flp 0 0 (ptR (fun j => tb_ABC.getD j 0))) (by decide +kernel) j hj
  obtain ⟨su1, c1, h1⟩ := p_X7_begin fl tot su
  obtain ⟨fl2, sc2, su2, c2, h2⟩ := p_X7_take (N := 64) (a := 0) (n := 0) (k := 3) (b := lR [97, 98, 99]) (ca := wf) 0 (shCS_0 _ sc h1) (fun i hi => by rw [Nat.zero_add, RB_u bf uf (by omega)]; exact lf i hi) (by omega) (by omega)
  rw [Nat.zero_add] at h2
  obtain ⟨sc3, su3, c3⟩ := p_X7_end (N := 64) (a := 0) wf h2 (by omega) (by omega) (by omega)
  have c2' : f_X7_take 64 (0 : Int32) (3 : Int32) 0 0 sc su1 wf = some (fl2, nI 3, sc2, su2) := c2
  have c3' : f_X7_end 64 (0 : Int32) fl2 (nI 3) sc2 su2 wf = _ := c3
  obtain ⟨w4, hw4⟩ : ∃ q, q = zrow 0 32 (fun j => sB (shD (lR [97, 98, 99]) 3 j)) wf := ⟨_, rfl⟩
  obtain ⟨m4, hm4⟩ : ∃ q, q = zrow 0 32 (shD (lR [97, 98, 99]) 3) mf := ⟨_, rfl⟩
  rw [← hw4] at c3'
  have b4 : RB 64 w4 m4 := by rw [hw4, hm4]; exact RB_row bf
  have u4 : isU8 m4 64 := by rw [hm4]; exact U_row uf (fun j _ => shD_u _ _ j)
  have x4 : eqN 32 m4 (lR [186, 120, 22, 191, 143, 1, 207, 234, 65, 65, 64, 222, 93, 174, 34, 35, 176, 3, 97, 163, 150, 23, 122, 156, 180, 16, 255, 97, 242, 0, 21, 173]) := fun j hj => by rw [hm4, zrow_0 hj]; exact t_sha0 j hj
  obtain ⟨r, e5, g5⟩ := p_X6_stands (t := 18) (n := 4) (a := 0) (fun j => tb_ABC_DIGEST.getD j 0) (by omega) b4 u4
  have e5' : f_X6_stands 18 (fun j => tb_ABC_DIGEST.getD j 0) 4 (0 : Int32) w4 = some r := e5
  have hr : r = 1 := by
    rcases g5 with ⟨h, h2⟩ | ⟨h, h2⟩
    · exact h
    · exact absurd (fun j hj => (x4 _ (by omega)).trans (ck_eq (n := 32) (t := fun j => lR [186, 120, 22, 191, 143, 1, 207, 234, 65, 65, 64, 222, 93, 174, 34, 35, 176, 3, 97, 163, 150, 23, 122, 156, 180, 16, 255, 97, 242, 0, 21, 173] (0 + j)) (by decide +kernel) j hj)) h2
  subst hr
  refine ⟨0, nI 3, sc3, su3, w4, ?_, m4, b4, u4⟩
  unfold f_X6_shaRight
  rw [f1, zbE, zk_T (by decide), zk_T (by decide), znE, ec, ← hwf, c1, zbE]
  dsimp only
  rw [c2', zbE]
  dsimp only
  rw [c3', zbE]
  dsimp only
  rw [e5', zbE, zk_T (by decide)]
theorem v_hm0 : eqN 32 (hmac 4 (lR [74, 101, 102, 101]) (lR [119, 104, 97, 116, 32, 100, 111, 32, 121, 97, 32, 119, 97, 110, 116, 32, 102, 111, 114, 32, 110, 111, 116, 104, 105, 110, 103, 63]) 28) (lR [91, 220, 193, 70, 191, 96, 117, 78, 106, 4, 36, 38, 8, 149, 117, 199, 90, 0, 63, 8, 157, 39, 57, 131, 157, 236, 88, 185, 100, 236, 56, 67]) := v_hmac (by decide +kernel)
set_option maxHeartbeats 4000000 in
theorem t_hmac_0 {work : Rw} (hw : Bt 64 work) (key : Rw) (fl tot : Int32) (inn sc su : Rw) : ∃ key' fl' tot' inn' sc' su' w', f_X6_hmacRight (0 : Int32) key fl tot inn sc su work = some (1, key', fl', tot', inn', sc', su', w') ∧ Bt 64 w' := by
  obtain ⟨m0, hm0, um0⟩ := hw
  have f1 : f_X6_put 20 (fun j => tb_WHAT_DO_YA_WANT.getD j 0) 4 (0 : Int32) work = _ := p_X6_put (t := 20) (n := 4) (a := 0) _ work (by omega)
  obtain ⟨w1, hw1⟩ : ∃ q, q = zrow 0 (8 * 4) (fun j => sB (ptR (fun j => tb_WHAT_DO_YA_WANT.getD j 0) j)) work := ⟨_, rfl⟩
  obtain ⟨m1, hm1⟩ : ∃ q, q = zrow 0 (8 * 4) (ptR (fun j => tb_WHAT_DO_YA_WANT.getD j 0)) m0 := ⟨_, rfl⟩
  rw [← hw1] at f1
  have b1 : RB 64 w1 m1 := by rw [hw1, hm1]; exact RB_row hm0
  have u1 : isU8 m1 64 := by rw [hm1]; exact U_row um0 (ptR_u _ _)
  have hp : (0 : Int32) = 0 ∨ (0 : Int32) = 1 := by decide
  obtain ⟨wf, hwf⟩ : ∃ q, q = upd w1 0 (vp_nar .byte ((w1 0 ^^^ (0 : Int32)).toInt8.toInt32)) := ⟨_, rfl⟩
  obtain ⟨mf, hmf⟩ : ∃ q, q = flp 0 0 m1 := ⟨_, rfl⟩
  have bf : RB 64 wf mf := by rw [hwf, hmf]; exact RB_flp hp b1 (by omega)
  have uf : isU8 mf 64 := by rw [hmf]; exact U_flp hp u1 (by omega)
  have ec : Int32.toNatClampNeg 0 = 0 := by decide
  have lf : eqN 28 mf (lR [119, 104, 97, 116, 32, 100, 111, 32, 121, 97, 32, 119, 97, 110, 116, 32, 102, 111, 114, 32, 110, 111, 116, 104, 105, 110, 103, 63]) := fun j hj => by
    rw [hmf, flp_at (g := ptR (fun j => tb_WHAT_DO_YA_WANT.getD j 0)) (by rw [hm1]; exact zrow_0 (by omega)) (by rw [hm1]; exact zrow_0 (by omega))]
    exact ck_eq (n := 28) (t := flp 0 0 (ptR (fun j => tb_WHAT_DO_YA_WANT.getD j 0))) (by decide +kernel) j hj
  have k1 : f_X9_putLong 32 (0 : Int32) (tb_JEFE.getD 0 0) key = _ := p_X9_putLong (N := 32) (a := 0) (tb_JEFE.getD 0 0) key (by omega) (by omega)
  obtain ⟨key1, hkey1⟩ : ∃ q, q = zrow 0 8 (fun j => sB (lB (tb_JEFE.getD 0 0) j)) key := ⟨_, rfl⟩
  rw [← hkey1] at k1
  have hk : ∀ t, t < 4 → key1 t &&& 255 = lR [74, 101, 102, 101] t := fun t ht => by
    rw [hkey1, zrow_0 (by omega), sB_and]
    exact ck_eq (n := 4) (t := fun t => lB (tb_JEFE.getD 0 0) t &&& 255) (by decide +kernel) t ht
  obtain ⟨inn3, sc3, su3, c3⟩ := p_X7_mac (N1 := 32) (N3 := 64) (N6 := 64) (len := 4) (a := 0) (n := 28) (to := 0) (kk := lR [74, 101, 102, 101]) (d := lR [119, 104, 97, 116, 32, 100, 111, 32, 121, 97, 32, 119, 97, 110, 116, 32, 102, 111, 114, 32, 110, 111, 116, 104, 105, 110, 103, 63]) (ca1 := key1) (ca3 := wf) fl tot inn sc su wf hk (fun i hi => by rw [Nat.zero_add, RB_u bf uf (by omega)]; exact lf i hi) (by omega) (by omega) (by omega) (by omega) (by omega) (by omega) (by omega)
  have c3' : f_X7_mac_6a3 32 64 (4 : Int32) (0 : Int32) (28 : Int32) (0 : Int32) fl tot inn sc su key1 wf = _ := (p_X7_mac_6a3 32 64 (4 : Int32) (0 : Int32) (28 : Int32) (0 : Int32) fl tot inn sc su key1 wf).trans c3
  obtain ⟨w4, hw4⟩ : ∃ q, q = zrow 0 32 (fun j => sB (hmac 4 (lR [74, 101, 102, 101]) (lR [119, 104, 97, 116, 32, 100, 111, 32, 121, 97, 32, 119, 97, 110, 116, 32, 102, 111, 114, 32, 110, 111, 116, 104, 105, 110, 103, 63]) 28 j)) wf := ⟨_, rfl⟩
  obtain ⟨m4, hm4⟩ : ∃ q, q = zrow 0 32 (hmac 4 (lR [74, 101, 102, 101]) (lR [119, 104, 97, 116, 32, 100, 111, 32, 121, 97, 32, 119, 97, 110, 116, 32, 102, 111, 114, 32, 110, 111, 116, 104, 105, 110, 103, 63]) 28) mf := ⟨_, rfl⟩
  rw [← hw4] at c3'
  have b4 : RB 64 w4 m4 := by rw [hw4, hm4]; exact RB_row bf
  have u4 : isU8 m4 64 := by rw [hm4]; exact U_row uf (hmac_u _ _ _ _)
  have x4 : eqN 32 m4 (lR [91, 220, 193, 70, 191, 96, 117, 78, 106, 4, 36, 38, 8, 149, 117, 199, 90, 0, 63, 8, 157, 39, 57, 131, 157, 236, 88, 185, 100, 236, 56, 67]) := fun j hj => by rw [hm4, zrow_0 hj]; exact v_hm0 j hj
  obtain ⟨r, e5, g5⟩ := p_X6_stands (t := 21) (n := 4) (a := 0) (fun j => tb_HMAC_ANSWER.getD j 0) (by omega) b4 u4
  have e5' : f_X6_stands 21 (fun j => tb_HMAC_ANSWER.getD j 0) 4 (0 : Int32) w4 = some r := e5
  have hr : r = 1 := by
    rcases g5 with ⟨h, h2⟩ | ⟨h, h2⟩
    · exact h
    · exact absurd (fun j hj => (x4 _ (by omega)).trans (ck_eq (n := 32) (t := fun j => lR [91, 220, 193, 70, 191, 96, 117, 78, 106, 4, 36, 38, 8, 149, 117, 199, 90, 0, 63, 8, 157, 39, 57, 131, 157, 236, 88, 185, 100, 236, 56, 67] (0 + j)) (by decide +kernel) j hj)) h2
  subst hr
  refine ⟨key1, 0, 96, inn3, sc3, su3, w4, ?_, m4, b4, u4⟩
  unfold f_X6_hmacRight
  rw [zk_T (by decide), ec, k1, zbE, f1, zbE, zk_T (by decide), zk_T (by decide), znE, ← hwf, c3', zbE]
  dsimp only
  rw [e5', zbE, zk_T (by decide)]
set_option maxHeartbeats 4000000 in
theorem t_sha_1 {work : Rw} (hw : Bt 64 work) (fl tot : Int32) (sc su : Rw) : ∃ fl' tot' sc' su' w', f_X6_shaRight (1 : Int32) fl tot sc su work = some (0, fl', tot', sc', su', w') ∧ Bt 64 w' := by
  obtain ⟨m0, hm0, um0⟩ := hw
  have f1 : f_X6_put 17 (fun j => tb_ABC.getD j 0) 1 (0 : Int32) work = _ := p_X6_put (t := 17) (n := 1) (a := 0) _ work (by omega)
  obtain ⟨w1, hw1⟩ : ∃ q, q = zrow 0 (8 * 1) (fun j => sB (ptR (fun j => tb_ABC.getD j 0) j)) work := ⟨_, rfl⟩
  obtain ⟨m1, hm1⟩ : ∃ q, q = zrow 0 (8 * 1) (ptR (fun j => tb_ABC.getD j 0)) m0 := ⟨_, rfl⟩
  rw [← hw1] at f1
  have b1 : RB 64 w1 m1 := by rw [hw1, hm1]; exact RB_row hm0
  have u1 : isU8 m1 64 := by rw [hm1]; exact U_row um0 (ptR_u _ _)
  have hp : (1 : Int32) = 0 ∨ (1 : Int32) = 1 := by decide
  obtain ⟨wf, hwf⟩ : ∃ q, q = upd w1 0 (vp_nar .byte ((w1 0 ^^^ (1 : Int32)).toInt8.toInt32)) := ⟨_, rfl⟩
  obtain ⟨mf, hmf⟩ : ∃ q, q = flp 0 1 m1 := ⟨_, rfl⟩
  have bf : RB 64 wf mf := by rw [hwf, hmf]; exact RB_flp hp b1 (by omega)
  have uf : isU8 mf 64 := by rw [hmf]; exact U_flp hp u1 (by omega)
  have ec : Int32.toNatClampNeg 0 = 0 := by decide
  have lf : eqN 3 mf (lR [96, 98, 99]) := fun j hj => by
    rw [hmf, flp_at (g := ptR (fun j => tb_ABC.getD j 0)) (by rw [hm1]; exact zrow_0 (by omega)) (by rw [hm1]; exact zrow_0 (by omega))]
    exact ck_eq (n := 3) (t := flp 0 1 (ptR (fun j => tb_ABC.getD j 0))) (by decide +kernel) j hj
  obtain ⟨su1, c1, h1⟩ := p_X7_begin fl tot su
  obtain ⟨fl2, sc2, su2, c2, h2⟩ := p_X7_take (N := 64) (a := 0) (n := 0) (k := 3) (b := lR [96, 98, 99]) (ca := wf) 0 (shCS_0 _ sc h1) (fun i hi => by rw [Nat.zero_add, RB_u bf uf (by omega)]; exact lf i hi) (by omega) (by omega)
  rw [Nat.zero_add] at h2
  obtain ⟨sc3, su3, c3⟩ := p_X7_end (N := 64) (a := 0) wf h2 (by omega) (by omega) (by omega)
  have c2' : f_X7_take 64 (0 : Int32) (3 : Int32) 0 0 sc su1 wf = some (fl2, nI 3, sc2, su2) := c2
  have c3' : f_X7_end 64 (0 : Int32) fl2 (nI 3) sc2 su2 wf = _ := c3
  obtain ⟨w4, hw4⟩ : ∃ q, q = zrow 0 32 (fun j => sB (shD (lR [96, 98, 99]) 3 j)) wf := ⟨_, rfl⟩
  obtain ⟨m4, hm4⟩ : ∃ q, q = zrow 0 32 (shD (lR [96, 98, 99]) 3) mf := ⟨_, rfl⟩
  rw [← hw4] at c3'
  have b4 : RB 64 w4 m4 := by rw [hw4, hm4]; exact RB_row bf
  have u4 : isU8 m4 64 := by rw [hm4]; exact U_row uf (fun j _ => shD_u _ _ j)
  have x4 : eqN 32 m4 (lR [137, 249, 0, 57, 14, 20, 211, 124, 64, 92, 117, 36, 79, 176, 134, 170, 53, 181, 76, 15, 182, 236, 54, 56, 193, 194, 20, 81, 212, 116, 61, 17]) := fun j hj => by rw [hm4, zrow_0 hj]; exact t_sha1 j hj
  obtain ⟨r, e5, g5⟩ := p_X6_stands (t := 18) (n := 4) (a := 0) (fun j => tb_ABC_DIGEST.getD j 0) (by omega) b4 u4
  have e5' : f_X6_stands 18 (fun j => tb_ABC_DIGEST.getD j 0) 4 (0 : Int32) w4 = some r := e5
  have hr : r = 0 := by
    rcases g5 with ⟨h, h2⟩ | ⟨h, h2⟩
    · exact absurd ((x4 0 (by omega)).symm.trans (h2 0 (by omega))) (by decide +kernel)
    · exact h
  subst hr
  refine ⟨0, nI 3, sc3, su3, w4, ?_, m4, b4, u4⟩
  unfold f_X6_shaRight
  rw [f1, zbE, zk_T (by decide), zk_T (by decide), znE, ec, ← hwf, c1, zbE]
  dsimp only
  rw [c2', zbE]
  dsimp only
  rw [c3', zbE]
  dsimp only
  rw [e5', zbE, zk_T (by decide)]
theorem v_hm1 : eqN 32 (hmac 4 (lR [74, 101, 102, 101]) (lR [118, 104, 97, 116, 32, 100, 111, 32, 121, 97, 32, 119, 97, 110, 116, 32, 102, 111, 114, 32, 110, 111, 116, 104, 105, 110, 103, 63]) 28) (lR [96, 229, 253, 103, 32, 87, 138, 39, 152, 124, 103, 213, 104, 204, 90, 158, 0, 74, 134, 233, 152, 138, 139, 14, 149, 24, 51, 57, 45, 248, 243, 221]) := v_hmac (by decide +kernel)
set_option maxHeartbeats 4000000 in
theorem t_hmac_1 {work : Rw} (hw : Bt 64 work) (key : Rw) (fl tot : Int32) (inn sc su : Rw) : ∃ key' fl' tot' inn' sc' su' w', f_X6_hmacRight (1 : Int32) key fl tot inn sc su work = some (0, key', fl', tot', inn', sc', su', w') ∧ Bt 64 w' := by
  obtain ⟨m0, hm0, um0⟩ := hw
  have f1 : f_X6_put 20 (fun j => tb_WHAT_DO_YA_WANT.getD j 0) 4 (0 : Int32) work = _ := p_X6_put (t := 20) (n := 4) (a := 0) _ work (by omega)
  obtain ⟨w1, hw1⟩ : ∃ q, q = zrow 0 (8 * 4) (fun j => sB (ptR (fun j => tb_WHAT_DO_YA_WANT.getD j 0) j)) work := ⟨_, rfl⟩
  obtain ⟨m1, hm1⟩ : ∃ q, q = zrow 0 (8 * 4) (ptR (fun j => tb_WHAT_DO_YA_WANT.getD j 0)) m0 := ⟨_, rfl⟩
  rw [← hw1] at f1
  have b1 : RB 64 w1 m1 := by rw [hw1, hm1]; exact RB_row hm0
  have u1 : isU8 m1 64 := by rw [hm1]; exact U_row um0 (ptR_u _ _)
  have hp : (1 : Int32) = 0 ∨ (1 : Int32) = 1 := by decide
  obtain ⟨wf, hwf⟩ : ∃ q, q = upd w1 0 (vp_nar .byte ((w1 0 ^^^ (1 : Int32)).toInt8.toInt32)) := ⟨_, rfl⟩
  obtain ⟨mf, hmf⟩ : ∃ q, q = flp 0 1 m1 := ⟨_, rfl⟩
  have bf : RB 64 wf mf := by rw [hwf, hmf]; exact RB_flp hp b1 (by omega)
  have uf : isU8 mf 64 := by rw [hmf]; exact U_flp hp u1 (by omega)
  have ec : Int32.toNatClampNeg 0 = 0 := by decide
  have lf : eqN 28 mf (lR [118, 104, 97, 116, 32, 100, 111, 32, 121, 97, 32, 119, 97, 110, 116, 32, 102, 111, 114, 32, 110, 111, 116, 104, 105, 110, 103, 63]) := fun j hj => by
    rw [hmf, flp_at (g := ptR (fun j => tb_WHAT_DO_YA_WANT.getD j 0)) (by rw [hm1]; exact zrow_0 (by omega)) (by rw [hm1]; exact zrow_0 (by omega))]
    exact ck_eq (n := 28) (t := flp 0 1 (ptR (fun j => tb_WHAT_DO_YA_WANT.getD j 0))) (by decide +kernel) j hj
  have k1 : f_X9_putLong 32 (0 : Int32) (tb_JEFE.getD 0 0) key = _ := p_X9_putLong (N := 32) (a := 0) (tb_JEFE.getD 0 0) key (by omega) (by omega)
  obtain ⟨key1, hkey1⟩ : ∃ q, q = zrow 0 8 (fun j => sB (lB (tb_JEFE.getD 0 0) j)) key := ⟨_, rfl⟩
  rw [← hkey1] at k1
  have hk : ∀ t, t < 4 → key1 t &&& 255 = lR [74, 101, 102, 101] t := fun t ht => by
    rw [hkey1, zrow_0 (by omega), sB_and]
    exact ck_eq (n := 4) (t := fun t => lB (tb_JEFE.getD 0 0) t &&& 255) (by decide +kernel) t ht
  obtain ⟨inn3, sc3, su3, c3⟩ := p_X7_mac (N1 := 32) (N3 := 64) (N6 := 64) (len := 4) (a := 0) (n := 28) (to := 0) (kk := lR [74, 101, 102, 101]) (d := lR [118, 104, 97, 116, 32, 100, 111, 32, 121, 97, 32, 119, 97, 110, 116, 32, 102, 111, 114, 32, 110, 111, 116, 104, 105, 110, 103, 63]) (ca1 := key1) (ca3 := wf) fl tot inn sc su wf hk (fun i hi => by rw [Nat.zero_add, RB_u bf uf (by omega)]; exact lf i hi) (by omega) (by omega) (by omega) (by omega) (by omega) (by omega) (by omega)
  have c3' : f_X7_mac_6a3 32 64 (4 : Int32) (0 : Int32) (28 : Int32) (0 : Int32) fl tot inn sc su key1 wf = _ := (p_X7_mac_6a3 32 64 (4 : Int32) (0 : Int32) (28 : Int32) (0 : Int32) fl tot inn sc su key1 wf).trans c3
  obtain ⟨w4, hw4⟩ : ∃ q, q = zrow 0 32 (fun j => sB (hmac 4 (lR [74, 101, 102, 101]) (lR [118, 104, 97, 116, 32, 100, 111, 32, 121, 97, 32, 119, 97, 110, 116, 32, 102, 111, 114, 32, 110, 111, 116, 104, 105, 110, 103, 63]) 28 j)) wf := ⟨_, rfl⟩
  obtain ⟨m4, hm4⟩ : ∃ q, q = zrow 0 32 (hmac 4 (lR [74, 101, 102, 101]) (lR [118, 104, 97, 116, 32, 100, 111, 32, 121, 97, 32, 119, 97, 110, 116, 32, 102, 111, 114, 32, 110, 111, 116, 104, 105, 110, 103, 63]) 28) mf := ⟨_, rfl⟩
  rw [← hw4] at c3'
  have b4 : RB 64 w4 m4 := by rw [hw4, hm4]; exact RB_row bf
  have u4 : isU8 m4 64 := by rw [hm4]; exact U_row uf (hmac_u _ _ _ _)
  have x4 : eqN 32 m4 (lR [96, 229, 253, 103, 32, 87, 138, 39, 152, 124, 103, 213, 104, 204, 90, 158, 0, 74, 134, 233, 152, 138, 139, 14, 149, 24, 51, 57, 45, 248, 243, 221]) := fun j hj => by rw [hm4, zrow_0 hj]; exact v_hm1 j hj
  obtain ⟨r, e5, g5⟩ := p_X6_stands (t := 21) (n := 4) (a := 0) (fun j => tb_HMAC_ANSWER.getD j 0) (by omega) b4 u4
  have e5' : f_X6_stands 21 (fun j => tb_HMAC_ANSWER.getD j 0) 4 (0 : Int32) w4 = some r := e5
  have hr : r = 0 := by
    rcases g5 with ⟨h, h2⟩ | ⟨h, h2⟩
    · exact absurd ((x4 0 (by omega)).symm.trans (h2 0 (by omega))) (by decide +kernel)
    · exact h
  subst hr
  refine ⟨key1, 0, 96, inn3, sc3, su3, w4, ?_, m4, b4, u4⟩
  unfold f_X6_hmacRight
  rw [zk_T (by decide), ec, k1, zbE, f1, zbE, zk_T (by decide), zk_T (by decide), znE, ← hwf, c3', zbE]
  dsimp only
  rw [e5', zbE, zk_T (by decide)]
theorem cvkx3_100 : eq16 (aesE (lR kx3) 10 (lR [0, 0, 0, 0, 0, 0, 0, 0, 0, 0, 0, 0, 0, 0, 0, 0])) (lR [125, 247, 107, 12, 26, 184, 153, 179, 62, 66, 240, 71, 185, 27, 84, 111]) := v_aesE (by omega) (by decide +kernel)
theorem cm_0 : eq16 (aesE (lR kx3) 10 (fun _ => 0)) (lR [125, 247, 107, 12, 26, 184, 153, 179, 62, 66, 240, 71, 185, 27, 84, 111]) := vE (hE_aes (lR kx3) (show 1 ≤ 10 by omega)) cvkx3_100 (ck16 (by decide +kernel))
theorem cm_1 : eq16 (cmD (aesE (lR kx3) 10 (fun _ => 0))) (lR [251, 238, 214, 24, 53, 113, 51, 102, 124, 133, 224, 143, 114, 54, 168, 222]) := fun i hi => (cmD_c cm_0 i hi).trans (ck_eq (n := 16) (t := cmD (lR [125, 247, 107, 12, 26, 184, 153, 179, 62, 66, 240, 71, 185, 27, 84, 111])) (by decide +kernel) i hi)
theorem cm_2 : eq16 (cmD (cmD (aesE (lR kx3) 10 (fun _ => 0)))) (lR [247, 221, 172, 48, 106, 226, 102, 204, 249, 11, 193, 30, 228, 109, 81, 59]) := fun i hi => (cmD_c cm_1 i hi).trans (ck_eq (n := 16) (t := cmD (lR [251, 238, 214, 24, 53, 113, 51, 102, 124, 133, 224, 143, 114, 54, 168, 222])) (by decide +kernel) i hi)
theorem cvkx3_101 : eq16 (aesE (lR kx3) 10 (lR [119, 221, 172, 48, 106, 226, 102, 204, 249, 11, 193, 30, 228, 109, 81, 59])) (lR [187, 29, 105, 41, 233, 89, 55, 40, 127, 163, 125, 18, 155, 117, 103, 70]) := v_aesE (by omega) (by decide +kernel)
theorem v_cm0_0 {m : Rw} (h : eqN 16 m (lR [107, 193, 190, 226, 46, 64, 159, 150, 233, 61, 126, 17, 115, 147, 23, 42])) : eq16 (cmac (aesE (lR kx3) 10) m 0 0) (lR [187, 29, 105, 41, 233, 89, 55, 40, 127, 163, 125, 18, 155, 117, 103, 70]) := by
  refine vE (hE_aes (lR kx3) (show 1 ≤ 10 by omega)) cvkx3_101 (s := cmB m 0 0 0 (cmQ (aesE (lR kx3) 10) 0) 0 (fun _ => 0)) (fun i hi => ?_)
  have hq : cmQ (aesE (lR kx3) 10) 0 i = lR [247, 221, 172, 48, 106, 226, 102, 204, 249, 11, 193, 30, 228, 109, 81, 59] i := cm_2 i hi
  unfold cmB cmV
  rw [if_pos rfl, hq]
  rw [if_neg (by omega)]
  exact ck_eq (n := 16) (t := fun i => (0 ^^^ if 16 * 0 + i = 0 then 128 else 0) ^^^ lR [247, 221, 172, 48, 106, 226, 102, 204, 249, 11, 193, 30, 228, 109, 81, 59] i) (by decide +kernel) i hi
set_option maxHeartbeats 4000000 in
theorem t_cmac_0_0 {work : Rw} (hw : Bt 64 work) (rd : Int32) (ak key mbk mpd : Rw) : ∃ rd' ak' key' mbk' mpd' w', f_X6_cmacRight (0 : Int32) 15 (fun j => tb_CMAC_OF_NOTHING.getD j 0) 2 (0 : Int32) rd ak key mbk mpd work = some (1, rd', ak', key', mbk', mpd', w') ∧ Bt 64 w' := by
  obtain ⟨m0, hm0, um0⟩ := hw
  obtain ⟨ak', key', e1, g1, g2⟩ := p_X6_setKey (t := 8) (n := 2) (nk := 4) (fun j => tb_MODES_KEY.getD j 0) rd ak key (by omega) (by omega) (by omega)
  have hk := rkL (KX := kx3) (by omega) g1 g2 kx3_P kx3_0
  have e1' : f_X6_setKey 8 (fun j => tb_MODES_KEY.getD j 0) 2 (16 : Int32) rd ak key = some (nI 10, ak', key') := e1
  have f1 : f_X6_put 9 (fun j => tb_MODES_TEXT.getD j 0) 4 (0 : Int32) work = _ := p_X6_put (t := 9) (n := 4) (a := 0) _ work (by omega)
  obtain ⟨w1, hw1⟩ : ∃ q, q = zrow 0 (8 * 4) (fun j => sB (ptR (fun j => tb_MODES_TEXT.getD j 0) j)) work := ⟨_, rfl⟩
  obtain ⟨m1, hm1⟩ : ∃ q, q = zrow 0 (8 * 4) (ptR (fun j => tb_MODES_TEXT.getD j 0)) m0 := ⟨_, rfl⟩
  rw [← hw1] at f1
  have b1 : RB 64 w1 m1 := by rw [hw1, hm1]; exact RB_row hm0
  have u1 : isU8 m1 64 := by rw [hm1]; exact U_row um0 (ptR_u _ _)
  have hp : (0 : Int32) = 0 ∨ (0 : Int32) = 1 := by decide
  obtain ⟨wf, hwf⟩ : ∃ q, q = upd w1 0 (vp_nar .byte ((w1 0 ^^^ (0 : Int32)).toInt8.toInt32)) := ⟨_, rfl⟩
  obtain ⟨mf, hmf⟩ : ∃ q, q = flp 0 0 m1 := ⟨_, rfl⟩
  have bf : RB 64 wf mf := by rw [hwf, hmf]; exact RB_flp hp b1 (by omega)
  have uf : isU8 mf 64 := by rw [hmf]; exact U_flp hp u1 (by omega)
  have ec : Int32.toNatClampNeg 0 = 0 := by decide
  have lf : eqN 16 mf (lR [107, 193, 190, 226, 46, 64, 159, 150, 233, 61, 126, 17, 115, 147, 23, 42]) := fun j hj => by
    rw [hmf, flp_at (g := ptR (fun j => tb_MODES_TEXT.getD j 0)) (by rw [hm1]; exact zrow_0 (by omega)) (by rw [hm1]; exact zrow_0 (by omega))]
    exact ck_eq (n := 16) (t := flp 0 0 (ptR (fun j => tb_MODES_TEXT.getD j 0))) (by decide +kernel) j hj
  obtain ⟨bl', pad', c3⟩ := p_X4_cmac (N := 64) (a := 0) (n := 0) (to := 0) (R := 10) mbk mpd bf uf (by omega) (by omega) (by omega) (by omega) (by omega) hk kx3_u
  have c3' : f_X4_cmac_4a1 64 (0 : Int32) (0 : Int32) (0 : Int32) (nI 10) ak' mbk mpd wf = _ := c3
  obtain ⟨w4, hw4⟩ : ∃ q, q = zrow 0 16 (fun t => sB (cmac (aesE (lR kx3) 10) mf 0 0 t)) wf := ⟨_, rfl⟩
  obtain ⟨m4, hm4⟩ : ∃ q, q = zrow 0 16 (cmac (aesE (lR kx3) 10) mf 0 0) mf := ⟨_, rfl⟩
  rw [← hw4] at c3'
  have b4 : RB 64 w4 m4 := by rw [hw4, hm4]; exact RB_row bf
  have u4 : isU8 m4 64 := by rw [hm4]; exact U_row uf (cmac_u (fun s hs => aesE_u hs (by omega) kx3_u) uf (by omega))
  have x4 : eqN 16 m4 (lR [187, 29, 105, 41, 233, 89, 55, 40, 127, 163, 125, 18, 155, 117, 103, 70]) := fun j hj => by rw [hm4, zrow_0 hj]; exact v_cm0_0 lf j hj
  obtain ⟨r, e5, g5⟩ := p_X6_stands (t := 15) (n := 2) (a := 0) (fun j => tb_CMAC_OF_NOTHING.getD j 0) (by omega) b4 u4
  have e5' : f_X6_stands 15 (fun j => tb_CMAC_OF_NOTHING.getD j 0) 2 (0 : Int32) w4 = some r := e5
  have hr : r = 1 := by
    rcases g5 with ⟨h, h2⟩ | ⟨h, h2⟩
    · exact h
    · exact absurd (fun j hj => (x4 _ (by omega)).trans (ck_eq (n := 16) (t := fun j => lR [187, 29, 105, 41, 233, 89, 55, 40, 127, 163, 125, 18, 155, 117, 103, 70] (0 + j)) (by decide +kernel) j hj)) h2
  subst hr
  refine ⟨nI 10, ak', key', bl', pad', w4, ?_, m4, b4, u4⟩
  unfold f_X6_cmacRight
  rw [e1', zbE]
  dsimp only
  rw [f1, zbE, zk_T (by decide), zk_T (by decide), znE, ec, ← hwf, c3', zbE]
  dsimp only
  rw [e5', zbE, zk_T (by decide)]
theorem cvkx3_102 : eq16 (aesE (lR kx3) 10 (lR [144, 47, 104, 250, 27, 49, 172, 240, 149, 184, 158, 158, 1, 165, 191, 244])) (lR [7, 10, 22, 180, 107, 77, 65, 68, 247, 155, 221, 157, 208, 74, 40, 124]) := v_aesE (by omega) (by decide +kernel)
theorem v_cm16_0 {m : Rw} (h : eqN 16 m (lR [107, 193, 190, 226, 46, 64, 159, 150, 233, 61, 126, 17, 115, 147, 23, 42])) : eq16 (cmac (aesE (lR kx3) 10) m 0 16) (lR [7, 10, 22, 180, 107, 77, 65, 68, 247, 155, 221, 157, 208, 74, 40, 124]) := by
  refine vE (hE_aes (lR kx3) (show 1 ≤ 10 by omega)) cvkx3_102 (s := cmB m 0 16 0 (cmQ (aesE (lR kx3) 10) 16) 0 (fun _ => 0)) (fun i hi => ?_)
  have hq : cmQ (aesE (lR kx3) 10) 16 i = lR [251, 238, 214, 24, 53, 113, 51, 102, 124, 133, 224, 143, 114, 54, 168, 222] i := cm_1 i hi
  unfold cmB cmV
  rw [if_pos rfl, hq]
  rw [if_pos (by omega), show 0 + (16 * 0 + i) = i by omega, h i hi]
  exact ck_eq (n := 16) (t := fun i => (0 ^^^ lR [107, 193, 190, 226, 46, 64, 159, 150, 233, 61, 126, 17, 115, 147, 23, 42] i) ^^^ lR [251, 238, 214, 24, 53, 113, 51, 102, 124, 133, 224, 143, 114, 54, 168, 222] i) (by decide +kernel) i hi
set_option maxHeartbeats 4000000 in
theorem t_cmac_16_0 {work : Rw} (hw : Bt 64 work) (rd : Int32) (ak key mbk mpd : Rw) : ∃ rd' ak' key' mbk' mpd' w', f_X6_cmacRight (16 : Int32) 16 (fun j => tb_CMAC_OF_BLOCK.getD j 0) 2 (0 : Int32) rd ak key mbk mpd work = some (1, rd', ak', key', mbk', mpd', w') ∧ Bt 64 w' := by
  obtain ⟨m0, hm0, um0⟩ := hw
  obtain ⟨ak', key', e1, g1, g2⟩ := p_X6_setKey (t := 8) (n := 2) (nk := 4) (fun j => tb_MODES_KEY.getD j 0) rd ak key (by omega) (by omega) (by omega)
  have hk := rkL (KX := kx3) (by omega) g1 g2 kx3_P kx3_0
  have e1' : f_X6_setKey 8 (fun j => tb_MODES_KEY.getD j 0) 2 (16 : Int32) rd ak key = some (nI 10, ak', key') := e1
  have f1 : f_X6_put 9 (fun j => tb_MODES_TEXT.getD j 0) 4 (0 : Int32) work = _ := p_X6_put (t := 9) (n := 4) (a := 0) _ work (by omega)
  obtain ⟨w1, hw1⟩ : ∃ q, q = zrow 0 (8 * 4) (fun j => sB (ptR (fun j => tb_MODES_TEXT.getD j 0) j)) work := ⟨_, rfl⟩
  obtain ⟨m1, hm1⟩ : ∃ q, q = zrow 0 (8 * 4) (ptR (fun j => tb_MODES_TEXT.getD j 0)) m0 := ⟨_, rfl⟩
  rw [← hw1] at f1
  have b1 : RB 64 w1 m1 := by rw [hw1, hm1]; exact RB_row hm0
  have u1 : isU8 m1 64 := by rw [hm1]; exact U_row um0 (ptR_u _ _)
  have hp : (0 : Int32) = 0 ∨ (0 : Int32) = 1 := by decide
  obtain ⟨wf, hwf⟩ : ∃ q, q = upd w1 0 (vp_nar .byte ((w1 0 ^^^ (0 : Int32)).toInt8.toInt32)) := ⟨_, rfl⟩
  obtain ⟨mf, hmf⟩ : ∃ q, q = flp 0 0 m1 := ⟨_, rfl⟩
  have bf : RB 64 wf mf := by rw [hwf, hmf]; exact RB_flp hp b1 (by omega)
  have uf : isU8 mf 64 := by rw [hmf]; exact U_flp hp u1 (by omega)
  have ec : Int32.toNatClampNeg 0 = 0 := by decide
  have lf : eqN 16 mf (lR [107, 193, 190, 226, 46, 64, 159, 150, 233, 61, 126, 17, 115, 147, 23, 42]) := fun j hj => by
    rw [hmf, flp_at (g := ptR (fun j => tb_MODES_TEXT.getD j 0)) (by rw [hm1]; exact zrow_0 (by omega)) (by rw [hm1]; exact zrow_0 (by omega))]
    exact ck_eq (n := 16) (t := flp 0 0 (ptR (fun j => tb_MODES_TEXT.getD j 0))) (by decide +kernel) j hj
  obtain ⟨bl', pad', c3⟩ := p_X4_cmac (N := 64) (a := 0) (n := 16) (to := 0) (R := 10) mbk mpd bf uf (by omega) (by omega) (by omega) (by omega) (by omega) hk kx3_u
  have c3' : f_X4_cmac_4a1 64 (0 : Int32) (16 : Int32) (0 : Int32) (nI 10) ak' mbk mpd wf = _ := c3
  obtain ⟨w4, hw4⟩ : ∃ q, q = zrow 0 16 (fun t => sB (cmac (aesE (lR kx3) 10) mf 0 16 t)) wf := ⟨_, rfl⟩
  obtain ⟨m4, hm4⟩ : ∃ q, q = zrow 0 16 (cmac (aesE (lR kx3) 10) mf 0 16) mf := ⟨_, rfl⟩
  rw [← hw4] at c3'
  have b4 : RB 64 w4 m4 := by rw [hw4, hm4]; exact RB_row bf
  have u4 : isU8 m4 64 := by rw [hm4]; exact U_row uf (cmac_u (fun s hs => aesE_u hs (by omega) kx3_u) uf (by omega))
  have x4 : eqN 16 m4 (lR [7, 10, 22, 180, 107, 77, 65, 68, 247, 155, 221, 157, 208, 74, 40, 124]) := fun j hj => by rw [hm4, zrow_0 hj]; exact v_cm16_0 lf j hj
  obtain ⟨r, e5, g5⟩ := p_X6_stands (t := 16) (n := 2) (a := 0) (fun j => tb_CMAC_OF_BLOCK.getD j 0) (by omega) b4 u4
  have e5' : f_X6_stands 16 (fun j => tb_CMAC_OF_BLOCK.getD j 0) 2 (0 : Int32) w4 = some r := e5
  have hr : r = 1 := by
    rcases g5 with ⟨h, h2⟩ | ⟨h, h2⟩
    · exact h
    · exact absurd (fun j hj => (x4 _ (by omega)).trans (ck_eq (n := 16) (t := fun j => lR [7, 10, 22, 180, 107, 77, 65, 68, 247, 155, 221, 157, 208, 74, 40, 124] (0 + j)) (by decide +kernel) j hj)) h2
  subst hr
  refine ⟨nI 10, ak', key', bl', pad', w4, ?_, m4, b4, u4⟩
  unfold f_X6_cmacRight
  rw [e1', zbE]
  dsimp only
  rw [f1, zbE, zk_T (by decide), zk_T (by decide), znE, ec, ← hwf, c3', zbE]
  dsimp only
  rw [e5', zbE, zk_T (by decide)]
theorem cvkx3_103 : eq16 (aesE (lR kx3) 10 (lR [145, 47, 104, 250, 27, 49, 172, 240, 149, 184, 158, 158, 1, 165, 191, 244])) (lR [101, 197, 240, 44, 158, 105, 65, 156, 202, 26, 112, 81, 70, 196, 3, 18]) := v_aesE (by omega) (by decide +kernel)
theorem v_cm16_1 {m : Rw} (h : eqN 16 m (lR [106, 193, 190, 226, 46, 64, 159, 150, 233, 61, 126, 17, 115, 147, 23, 42])) : eq16 (cmac (aesE (lR kx3) 10) m 0 16) (lR [101, 197, 240, 44, 158, 105, 65, 156, 202, 26, 112, 81, 70, 196, 3, 18]) := by
  refine vE (hE_aes (lR kx3) (show 1 ≤ 10 by omega)) cvkx3_103 (s := cmB m 0 16 0 (cmQ (aesE (lR kx3) 10) 16) 0 (fun _ => 0)) (fun i hi => ?_)
  have hq : cmQ (aesE (lR kx3) 10) 16 i = lR [251, 238, 214, 24, 53, 113, 51, 102, 124, 133, 224, 143, 114, 54, 168, 222] i := cm_1 i hi
  unfold cmB cmV
  rw [if_pos rfl, hq]
  rw [if_pos (by omega), show 0 + (16 * 0 + i) = i by omega, h i hi]
  exact ck_eq (n := 16) (t := fun i => (0 ^^^ lR [106, 193, 190, 226, 46, 64, 159, 150, 233, 61, 126, 17, 115, 147, 23, 42] i) ^^^ lR [251, 238, 214, 24, 53, 113, 51, 102, 124, 133, 224, 143, 114, 54, 168, 222] i) (by decide +kernel) i hi
set_option maxHeartbeats 4000000 in
theorem t_cmac_16_1 {work : Rw} (hw : Bt 64 work) (rd : Int32) (ak key mbk mpd : Rw) : ∃ rd' ak' key' mbk' mpd' w', f_X6_cmacRight (16 : Int32) 16 (fun j => tb_CMAC_OF_BLOCK.getD j 0) 2 (1 : Int32) rd ak key mbk mpd work = some (0, rd', ak', key', mbk', mpd', w') ∧ Bt 64 w' := by
  obtain ⟨m0, hm0, um0⟩ := hw
  obtain ⟨ak', key', e1, g1, g2⟩ := p_X6_setKey (t := 8) (n := 2) (nk := 4) (fun j => tb_MODES_KEY.getD j 0) rd ak key (by omega) (by omega) (by omega)
  have hk := rkL (KX := kx3) (by omega) g1 g2 kx3_P kx3_0
  have e1' : f_X6_setKey 8 (fun j => tb_MODES_KEY.getD j 0) 2 (16 : Int32) rd ak key = some (nI 10, ak', key') := e1
  have f1 : f_X6_put 9 (fun j => tb_MODES_TEXT.getD j 0) 4 (0 : Int32) work = _ := p_X6_put (t := 9) (n := 4) (a := 0) _ work (by omega)
  obtain ⟨w1, hw1⟩ : ∃ q, q = zrow 0 (8 * 4) (fun j => sB (ptR (fun j => tb_MODES_TEXT.getD j 0) j)) work := ⟨_, rfl⟩
  obtain ⟨m1, hm1⟩ : ∃ q, q = zrow 0 (8 * 4) (ptR (fun j => tb_MODES_TEXT.getD j 0)) m0 := ⟨_, rfl⟩
  rw [← hw1] at f1
  have b1 : RB 64 w1 m1 := by rw [hw1, hm1]; exact RB_row hm0
  have u1 : isU8 m1 64 := by rw [hm1]; exact U_row um0 (ptR_u _ _)
  have hp : (1 : Int32) = 0 ∨ (1 : Int32) = 1 := by decide
  obtain ⟨wf, hwf⟩ : ∃ q, q = upd w1 0 (vp_nar .byte ((w1 0 ^^^ (1 : Int32)).toInt8.toInt32)) := ⟨_, rfl⟩
  obtain ⟨mf, hmf⟩ : ∃ q, q = flp 0 1 m1 := ⟨_, rfl⟩
  have bf : RB 64 wf mf := by rw [hwf, hmf]; exact RB_flp hp b1 (by omega)
  have uf : isU8 mf 64 := by rw [hmf]; exact U_flp hp u1 (by omega)
  have ec : Int32.toNatClampNeg 0 = 0 := by decide
  have lf : eqN 16 mf (lR [106, 193, 190, 226, 46, 64, 159, 150, 233, 61, 126, 17, 115, 147, 23, 42]) := fun j hj => by
    rw [hmf, flp_at (g := ptR (fun j => tb_MODES_TEXT.getD j 0)) (by rw [hm1]; exact zrow_0 (by omega)) (by rw [hm1]; exact zrow_0 (by omega))]
    exact ck_eq (n := 16) (t := flp 0 1 (ptR (fun j => tb_MODES_TEXT.getD j 0))) (by decide +kernel) j hj
  obtain ⟨bl', pad', c3⟩ := p_X4_cmac (N := 64) (a := 0) (n := 16) (to := 0) (R := 10) mbk mpd bf uf (by omega) (by omega) (by omega) (by omega) (by omega) hk kx3_u
  have c3' : f_X4_cmac_4a1 64 (0 : Int32) (16 : Int32) (0 : Int32) (nI 10) ak' mbk mpd wf = _ := c3
  obtain ⟨w4, hw4⟩ : ∃ q, q = zrow 0 16 (fun t => sB (cmac (aesE (lR kx3) 10) mf 0 16 t)) wf := ⟨_, rfl⟩
  obtain ⟨m4, hm4⟩ : ∃ q, q = zrow 0 16 (cmac (aesE (lR kx3) 10) mf 0 16) mf := ⟨_, rfl⟩
  rw [← hw4] at c3'
  have b4 : RB 64 w4 m4 := by rw [hw4, hm4]; exact RB_row bf
  have u4 : isU8 m4 64 := by rw [hm4]; exact U_row uf (cmac_u (fun s hs => aesE_u hs (by omega) kx3_u) uf (by omega))
  have x4 : eqN 16 m4 (lR [101, 197, 240, 44, 158, 105, 65, 156, 202, 26, 112, 81, 70, 196, 3, 18]) := fun j hj => by rw [hm4, zrow_0 hj]; exact v_cm16_1 lf j hj
  obtain ⟨r, e5, g5⟩ := p_X6_stands (t := 16) (n := 2) (a := 0) (fun j => tb_CMAC_OF_BLOCK.getD j 0) (by omega) b4 u4
  have e5' : f_X6_stands 16 (fun j => tb_CMAC_OF_BLOCK.getD j 0) 2 (0 : Int32) w4 = some r := e5
  have hr : r = 0 := by
    rcases g5 with ⟨h, h2⟩ | ⟨h, h2⟩
    · exact absurd ((x4 0 (by omega)).symm.trans (h2 0 (by omega))) (by decide +kernel)
    · exact h
  subst hr
  refine ⟨nI 10, ak', key', bl', pad', w4, ?_, m4, b4, u4⟩
  unfold f_X6_cmacRight
  rw [e1', zbE]
  dsimp only
  rw [f1, zbE, zk_T (by decide), zk_T (by decide), znE, ec, ← hwf, c3', zbE]
  dsimp only
  rw [e5', zbE, zk_T (by decide)]
