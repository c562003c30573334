/-! the self tests: the generator -/
def dD0 : Rw := lR [0, 1, 2, 3, 4, 5, 6, 7, 8, 9, 10, 11, 12, 13, 14, 15, 16, 17, 18, 19, 20, 21, 22, 23, 24, 25, 26, 27, 28, 29, 30, 31, 0, 17, 34, 51, 68, 85, 102, 119, 136, 153, 170, 187, 204, 221, 238, 255]
theorem dr0_1 : eqN 32 (drK (fun _ => 0) (fun _ => 1) 0 dD0 48) (lR [140, 7, 57, 35, 202, 155, 233, 236, 180, 231, 220, 166, 184, 77, 51, 114, 59, 187, 119, 141, 239, 194, 26, 99, 174, 231, 40, 160, 154, 42, 127, 191]) := v_hmac (by decide +kernel)
theorem dr0_2 : eqN 32 (hmac 32 (lR [140, 7, 57, 35, 202, 155, 233, 236, 180, 231, 220, 166, 184, 77, 51, 114, 59, 187, 119, 141, 239, 194, 26, 99, 174, 231, 40, 160, 154, 42, 127, 191]) (fun _ => 1) 32) (lR [78, 27, 163, 31, 211, 244, 190, 176, 237, 57, 7, 78, 44, 47, 41, 224, 243, 159, 214, 250, 20, 81, 148, 77, 108, 177, 5, 255, 218, 84, 181, 114]) := v_hmac (by decide +kernel)
theorem dr0_3 : eqN 32 (hmac 32 (lR [140, 7, 57, 35, 202, 155, 233, 236, 180, 231, 220, 166, 184, 77, 51, 114, 59, 187, 119, 141, 239, 194, 26, 99, 174, 231, 40, 160, 154, 42, 127, 191]) (dgM (lR [78, 27, 163, 31, 211, 244, 190, 176, 237, 57, 7, 78, 44, 47, 41, 224, 243, 159, 214, 250, 20, 81, 148, 77, 108, 177, 5, 255, 218, 84, 181, 114]) 1 dD0) (33 + 48)) (lR [50, 70, 155, 75, 27, 41, 177, 202, 46, 136, 142, 195, 200, 94, 6, 202, 225, 158, 144, 154, 131, 169, 152, 56, 220, 1, 56, 184, 74, 175, 4, 173]) := v_hmac (by decide +kernel)
theorem dr0_4 : eqN 32 (hmac 32 (lR [50, 70, 155, 75, 27, 41, 177, 202, 46, 136, 142, 195, 200, 94, 6, 202, 225, 158, 144, 154, 131, 169, 152, 56, 220, 1, 56, 184, 74, 175, 4, 173]) (lR [78, 27, 163, 31, 211, 244, 190, 176, 237, 57, 7, 78, 44, 47, 41, 224, 243, 159, 214, 250, 20, 81, 148, 77, 108, 177, 5, 255, 218, 84, 181, 114]) 32) (lR [118, 77, 94, 143, 71, 119, 26, 240, 136, 163, 155, 34, 72, 92, 14, 185, 89, 97, 67, 86, 102, 113, 90, 218, 49, 103, 2, 101, 254, 15, 27, 41]) := v_hmac (by decide +kernel)
theorem dr0_5 : eqN 32 (hmac 32 (lR [50, 70, 155, 75, 27, 41, 177, 202, 46, 136, 142, 195, 200, 94, 6, 202, 225, 158, 144, 154, 131, 169, 152, 56, 220, 1, 56, 184, 74, 175, 4, 173]) (lR [118, 77, 94, 143, 71, 119, 26, 240, 136, 163, 155, 34, 72, 92, 14, 185, 89, 97, 67, 86, 102, 113, 90, 218, 49, 103, 2, 101, 254, 15, 27, 41]) 32) (lR [65, 149, 63, 182, 216, 80, 197, 114, 112, 52, 8, 16, 20, 67, 51, 190, 98, 100, 198, 149, 145, 218, 251, 125, 37, 43, 81, 200, 242, 235, 77, 1]) := v_hmac (by decide +kernel)
def dK0 : Rw := (drU (fun _ => 0) (fun _ => 1) dD0 48).1
def dV0 : Rw := (drU (fun _ => 0) (fun _ => 1) dD0 48).2
def dO0 : Rw := fun t => drO dK0 dV0 (t / 32 + 1) (t % 32)
theorem dr0_k1 : eqN 32 (drU1 (fun _ => 0) (fun _ => 1) 0 dD0 48).1 (lR [140, 7, 57, 35, 202, 155, 233, 236, 180, 231, 220, 166, 184, 77, 51, 114, 59, 187, 119, 141, 239, 194, 26, 99, 174, 231, 40, 160, 154, 42, 127, 191]) := dr0_1
theorem dr0_v1 : eqN 32 (drU1 (fun _ => 0) (fun _ => 1) 0 dD0 48).2 (lR [78, 27, 163, 31, 211, 244, 190, 176, 237, 57, 7, 78, 44, 47, 41, 224, 243, 159, 214, 250, 20, 81, 148, 77, 108, 177, 5, 255, 218, 84, 181, 114]) := fun j hj => (hmac_congr (fun t ht => dr0_1 t ht) (fun _ _ => rfl) j hj).trans (dr0_2 j hj)
theorem dr0_k2 : eqN 32 dK0 (lR [50, 70, 155, 75, 27, 41, 177, 202, 46, 136, 142, 195, 200, 94, 6, 202, 225, 158, 144, 154, 131, 169, 152, 56, 220, 1, 56, 184, 74, 175, 4, 173]) := fun j hj => by
  unfold dK0 drU
  rw [if_neg (by decide)]
  refine (hmac_congr (fun t ht => dr0_k1 t ht) (fun t ht => ?_) j hj).trans (dr0_3 j hj)
  unfold dgM
  by_cases q : t < 32
  · rw [if_pos q, if_pos q, dr0_v1 t q]
  · rw [if_neg q, if_neg q]
theorem dr0_v2 : eqN 32 dV0 (lR [118, 77, 94, 143, 71, 119, 26, 240, 136, 163, 155, 34, 72, 92, 14, 185, 89, 97, 67, 86, 102, 113, 90, 218, 49, 103, 2, 101, 254, 15, 27, 41]) := fun j hj => by
  have hk := dr0_k2
  unfold dK0 drU at hk
  rw [if_neg (by decide)] at hk
  unfold dV0 drU
  rw [if_neg (by decide)]
  exact (hmac_congr (fun t ht => hk t ht) (fun t ht => dr0_v1 t ht) j hj).trans (dr0_4 j hj)
theorem dr0_o : eqN 32 dO0 (lR [65, 149, 63, 182, 216, 80, 197, 114, 112, 52, 8, 16, 20, 67, 51, 190, 98, 100, 198, 149, 145, 218, 251, 125, 37, 43, 81, 200, 242, 235, 77, 1]) := fun j hj => by
  unfold dO0
  rw [show j / 32 = 0 by omega, show j % 32 = j by omega]
  exact (hmac_congr (fun t ht => dr0_k2 t ht) (fun t ht => dr0_v2 t ht) j hj).trans (dr0_5 j hj)
theorem dU0 : isU8 dK0 32 ∧ isU8 dV0 32 := drU_u _ _ _ _
def dD1 : Rw := lR [1, 1, 2, 3, 4, 5, 6, 7, 8, 9, 10, 11, 12, 13, 14, 15, 16, 17, 18, 19, 20, 21, 22, 23, 24, 25, 26, 27, 28, 29, 30, 31, 0, 17, 34, 51, 68, 85, 102, 119, 136, 153, 170, 187, 204, 221, 238, 255]
theorem dr1_1 : eqN 32 (drK (fun _ => 0) (fun _ => 1) 0 dD1 48) (lR [123, 202, 100, 48, 250, 206, 42, 226, 17, 37, 145, 111, 8, 115, 144, 36, 244, 252, 179, 210, 201, 137, 16, 174, 3, 101, 58, 240, 80, 95, 209, 96]) := v_hmac (by decide +kernel)
theorem dr1_2 : eqN 32 (hmac 32 (lR [123, 202, 100, 48, 250, 206, 42, 226, 17, 37, 145, 111, 8, 115, 144, 36, 244, 252, 179, 210, 201, 137, 16, 174, 3, 101, 58, 240, 80, 95, 209, 96]) (fun _ => 1) 32) (lR [30, 80, 46, 150, 119, 53, 59, 55, 61, 35, 254, 41, 180, 24, 31, 90, 200, 196, 160, 79, 120, 165, 224, 192, 70, 81, 0, 217, 226, 223, 60, 147]) := v_hmac (by decide +kernel)
theorem dr1_3 : eqN 32 (hmac 32 (lR [123, 202, 100, 48, 250, 206, 42, 226, 17, 37, 145, 111, 8, 115, 144, 36, 244, 252, 179, 210, 201, 137, 16, 174, 3, 101, 58, 240, 80, 95, 209, 96]) (dgM (lR [30, 80, 46, 150, 119, 53, 59, 55, 61, 35, 254, 41, 180, 24, 31, 90, 200, 196, 160, 79, 120, 165, 224, 192, 70, 81, 0, 217, 226, 223, 60, 147]) 1 dD1) (33 + 48)) (lR [31, 59, 14, 123, 162, 218, 93, 247, 47, 29, 155, 226, 153, 172, 171, 80, 26, 179, 196, 152, 195, 59, 122, 109, 100, 63, 83, 89, 168, 235, 32, 59]) := v_hmac (by decide +kernel)
theorem dr1_4 : eqN 32 (hmac 32 (lR [31, 59, 14, 123, 162, 218, 93, 247, 47, 29, 155, 226, 153, 172, 171, 80, 26, 179, 196, 152, 195, 59, 122, 109, 100, 63, 83, 89, 168, 235, 32, 59]) (lR [30, 80, 46, 150, 119, 53, 59, 55, 61, 35, 254, 41, 180, 24, 31, 90, 200, 196, 160, 79, 120, 165, 224, 192, 70, 81, 0, 217, 226, 223, 60, 147]) 32) (lR [151, 208, 156, 109, 127, 84, 197, 167, 38, 15, 186, 137, 21, 57, 84, 167, 80, 167, 101, 114, 164, 104, 142, 179, 214, 145, 228, 164, 184, 215, 105, 175]) := v_hmac (by decide +kernel)
theorem dr1_5 : eqN 32 (hmac 32 (lR [31, 59, 14, 123, 162, 218, 93, 247, 47, 29, 155, 226, 153, 172, 171, 80, 26, 179, 196, 152, 195, 59, 122, 109, 100, 63, 83, 89, 168, 235, 32, 59]) (lR [151, 208, 156, 109, 127, 84, 197, 167, 38, 15, 186, 137, 21, 57, 84, 167, 80, 167, 101, 114, 164, 104, 142, 179, 214, 145, 228, 164, 184, 215, 105, 175]) 32) (lR [81, 28, 225, 188, 232, 112, 216, 147, 129, 49, 24, 189, 127, 70, 172, 117, 192, 11, 28, 184, 105, 104, 122, 20, 154, 29, 12, 70, 191, 160, 85, 175]) := v_hmac (by decide +kernel)
def dK1 : Rw := (drU (fun _ => 0) (fun _ => 1) dD1 48).1
def dV1 : Rw := (drU (fun _ => 0) (fun _ => 1) dD1 48).2
def dO1 : Rw := fun t => drO dK1 dV1 (t / 32 + 1) (t % 32)
theorem dr1_k1 : eqN 32 (drU1 (fun _ => 0) (fun _ => 1) 0 dD1 48).1 (lR [123, 202, 100, 48, 250, 206, 42, 226, 17, 37, 145, 111, 8, 115, 144, 36, 244, 252, 179, 210, 201, 137, 16, 174, 3, 101, 58, 240, 80, 95, 209, 96]) := dr1_1
theorem dr1_v1 : eqN 32 (drU1 (fun _ => 0) (fun _ => 1) 0 dD1 48).2 (lR [30, 80, 46, 150, 119, 53, 59, 55, 61, 35, 254, 41, 180, 24, 31, 90, 200, 196, 160, 79, 120, 165, 224, 192, 70, 81, 0, 217, 226, 223, 60, 147]) := fun j hj => (hmac_congr (fun t ht => dr1_1 t ht) (fun _ _ => rfl) j hj).trans (dr1_2 j hj)
theorem dr1_k2 : eqN 32 dK1 (lR [31, 59, 14, 123, 162, 218, 93, 247, 47, 29, 155, 226, 153, 172, 171, 80, 26, 179, 196, 152, 195, 59, 122, 109, 100, 63, 83, 89, 168, 235, 32, 59]) := fun j hj => by
  unfold dK1 drU
  rw [if_neg (by decide)]
  refine (hmac_congr (fun t ht => dr1_k1 t ht) (fun t ht => ?_) j hj).trans (dr1_3 j hj)
  unfold dgM
  by_cases q : t < 32
  · rw [if_pos q, if_pos q, dr1_v1 t q]
  · rw [if_neg q, if_neg q]
theorem dr1_v2 : eqN 32 dV1 (lR [151, 208, 156, 109, 127, 84, 197, 167, 38, 15, 186, 137, 21, 57, 84, 167, 80, 167, 101, 114, 164, 104, 142, 179, 214, 145, 228, 164, 184, 215, 105, 175]) := fun j hj => by
  have hk := dr1_k2
  unfold dK1 drU at hk
  rw [if_neg (by decide)] at hk
  unfold dV1 drU
  rw [if_neg (by decide)]
  exact (hmac_congr (fun t ht => hk t ht) (fun t ht => dr1_v1 t ht) j hj).trans (dr1_4 j hj)
theorem dr1_o : eqN 32 dO1 (lR [81, 28, 225, 188, 232, 112, 216, 147, 129, 49, 24, 189, 127, 70, 172, 117, 192, 11, 28, 184, 105, 104, 122, 20, 154, 29, 12, 70, 191, 160, 85, 175]) := fun j hj => by
  unfold dO1
  rw [show j / 32 = 0 by omega, show j % 32 = j by omega]
  exact (hmac_congr (fun t ht => dr1_k2 t ht) (fun t ht => dr1_v2 t ht) j hj).trans (dr1_5 j hj)
theorem dU1 : isU8 dK1 32 ∧ isU8 dV1 32 := drU_u _ _ _ _
theorem dr_ne : ¬ dO0 0 = dO1 0 := by
  rw [dr0_o 0 (by omega), dr1_o 0 (by omega)]
  decide +kernel
set_option maxHeartbeats 4000000 in
theorem t_drawK {work : Rw} (hw : Bt 64 work) (bg rq : Int32) (gk gm gv : Rw) (key : Rw) (fl tot : Int32) (inn sc su : Rw) : ∃ bg' rq' gk' gm' gv' fl' tot' inn' sc' su' w', f_X6_drawOnce_2t_key (0 : Int32) bg rq gk gm gv key fl tot inn sc su work = some (bg', rq', gk', gm', gv', zrow 0 32 (fun t => sB (dO0 t)) key, fl', tot', inn', sc', su', w') ∧ Bt 64 w' := by
  obtain ⟨m0, hm0, um0⟩ := hw
  have f1 : f_X6_put 4 (fun j => tb_COUNTING_KEY.getD j 0) 4 (0 : Int32) work = _ := p_X6_put (t := 4) (n := 4) (a := 0) _ work (by omega)
  obtain ⟨w1, hw1⟩ : ∃ q, q = zrow 0 (8 * 4) (fun j => sB (ptR (fun j => tb_COUNTING_KEY.getD j 0) j)) work := ⟨_, rfl⟩
  obtain ⟨m1, hm1⟩ : ∃ q, q = zrow 0 (8 * 4) (ptR (fun j => tb_COUNTING_KEY.getD j 0)) m0 := ⟨_, rfl⟩
  rw [← hw1] at f1
  have b1 : RB 64 w1 m1 := by rw [hw1, hm1]; exact RB_row hm0
  have u1 : isU8 m1 64 := by rw [hm1]; exact U_row um0 (ptR_u _ _)
  have f2 : f_X6_put 5 (fun j => tb_DOUBLED_DIGITS.getD j 0) 2 (32 : Int32) w1 = _ := p_X6_put (t := 5) (n := 2) (a := 32) _ w1 (by omega)
  obtain ⟨w2, hw2⟩ : ∃ q, q = zrow 32 (8 * 2) (fun j => sB (ptR (fun j => tb_DOUBLED_DIGITS.getD j 0) j)) w1 := ⟨_, rfl⟩
  obtain ⟨m2, hm2⟩ : ∃ q, q = zrow 32 (8 * 2) (ptR (fun j => tb_DOUBLED_DIGITS.getD j 0)) m1 := ⟨_, rfl⟩
  rw [← hw2] at f2
  have b2 : RB 64 w2 m2 := by rw [hw2, hm2]; exact RB_row b1
  have u2 : isU8 m2 64 := by rw [hm2]; exact U_row u1 (ptR_u _ _)
  have hp : (0 : Int32) = 0 ∨ (0 : Int32) = 1 := by decide
  obtain ⟨wf, hwf⟩ : ∃ q, q = upd w2 0 (vp_nar .byte ((w2 0 ^^^ (0 : Int32)).toInt8.toInt32)) := ⟨_, rfl⟩
  obtain ⟨mf, hmf⟩ : ∃ q, q = flp 0 0 m2 := ⟨_, rfl⟩
  have bf : RB 64 wf mf := by rw [hwf, hmf]; exact RB_flp hp b2 (by omega)
  have uf : isU8 mf 64 := by rw [hmf]; exact U_flp hp u2 (by omega)
  have ec : Int32.toNatClampNeg 0 = 0 := by decide
  have x2 : ∀ j, j < 48 → m2 j = zrow 32 16 (ptR (fun j => tb_DOUBLED_DIGITS.getD j 0)) (ptR (fun j => tb_COUNTING_KEY.getD j 0)) j := fun j hj => by
    rw [hm2]
    by_cases q : j < 32
    · rw [zrow_out (by omega), zrow_out (by omega), hm1, zrow_0 (by omega)]
    · rw [zrow_in (by omega) (by omega), zrow_in (by omega) (by omega)]
  have lf : RB 48 wf dD0 := fun j hj => by
    rw [bf j (by omega), hmf, flp_at (x2 j hj) (x2 0 (by omega))]
    exact congrArg sB (ck_eq (n := 48) (t := flp 0 0 (zrow 32 16 (ptR (fun j => tb_DOUBLED_DIGITS.getD j 0)) (ptR (fun j => tb_COUNTING_KEY.getD j 0)))) (by decide +kernel) j hj)
  have ud : isU8 dD0 48 := uL (by decide +kernel)
  have fg : f_X3_forget bg gk gv = some (0, zrow 0 32 (fun _ => 0) gk, zrow 0 32 (fun _ => 0) gv) := by
    unfold f_X3_forget
    rw [p_J7_fillB (N := 32) 0 gk (by decide) (by omega), zbE, p_J7_fillB (N := 32) 0 gv (by decide) (by omega), zbE]
  obtain ⟨k2, gm2, i2, s2, q2, v2, e2, r1, r2⟩ := p_X3_feed (N := 64) (n := 48) (K := fun _ => 0) (V := fun _ => 0) (d := dD0) (key := zrow 0 32 (fun _ => 0) gk) (val := zrow 0 32 (fun _ => 0) gv) (ca := wf) 0 rq gm fl tot inn sc su (fun h => absurd rfl h) (fun h => absurd rfl h) (fun _ _ => (by decide : (0 : Int32) &&& 255 = 0)) (fun _ _ => (by decide : (0 : Int32) &&& 255 = 0)) lf ud (by omega) (by omega) (by omega)
  have e2' : f_X3_feed 64 (48 : Int32) 0 rq (zrow 0 32 (fun _ => 0) gk) gm fl tot inn sc su (zrow 0 32 (fun _ => 0) gv) wf = some (1, 0, k2, gm2, 0, 96, i2, s2, q2, v2) := e2
  have r1' : RB 32 k2 dK0 := r1
  have r2' : RB 32 v2 dV0 := r2
  obtain ⟨k3, gm3, i3, s3, q3, v3, e3, -, -⟩ := p_X3_answer (N1 := 64) (N3 := 32) (m := 0) (a := 0) (n := 32) (K := dK0) (V := dV0) (d := dD0) (ca1 := wf) 0 gm2 0 96 i2 s2 q2 key r1' r2' dU0.1 dU0.2 (fun j hj => by omega) (fun j hj => by omega) (by omega) (by omega) (by omega) (by omega)
  have e3' : f_X3_answer 64 32 (0 : Int32) (0 : Int32) (32 : Int32) 0 k2 gm2 0 96 i2 s2 q2 v2 wf key = some (0 + 1, k3, gm3, 0, 96, i3, s3, q3, v3, zrow 0 32 (fun t => sB (dO0 t)) key) := e3
  refine ⟨1, 0 + 1, k3, gm3, v3, 0, 96, i3, s3, q3, wf, ?_, mf, bf, uf⟩
  unfold f_X6_drawOnce_2t_key
  rw [f1, zbE, f2, zbE, zk_T (by decide), zk_T (by decide), znE, ec, ← hwf, fg, zbE]
  dsimp only
  rw [e2', zbE]
  dsimp only
  rw [e3', zbE]
set_option maxHeartbeats 4000000 in
theorem t_drawW_0 {work : Rw} (hw : Bt 64 work) (bg rq : Int32) (gk gm gv : Rw) (fl tot : Int32) (inn sc su : Rw) : ∃ bg' rq' gk' gm' gv' fl' tot' inn' sc' su' w', f_X6_drawOnce_2t_work (0 : Int32) bg rq gk gm gv fl tot inn sc su work = some (bg', rq', gk', gm', gv', fl', tot', inn', sc', su', w') ∧ Bt 64 w' ∧ ∀ t, t < 32 → w' t = sB (dO0 t) := by
  obtain ⟨m0, hm0, um0⟩ := hw
  have f1 : f_X6_put 4 (fun j => tb_COUNTING_KEY.getD j 0) 4 (0 : Int32) work = _ := p_X6_put (t := 4) (n := 4) (a := 0) _ work (by omega)
  obtain ⟨w1, hw1⟩ : ∃ q, q = zrow 0 (8 * 4) (fun j => sB (ptR (fun j => tb_COUNTING_KEY.getD j 0) j)) work := ⟨_, rfl⟩
  obtain ⟨m1, hm1⟩ : ∃ q, q = zrow 0 (8 * 4) (ptR (fun j => tb_COUNTING_KEY.getD j 0)) m0 := ⟨_, rfl⟩
  rw [← hw1] at f1
  have b1 : RB 64 w1 m1 := by rw [hw1, hm1]; exact RB_row hm0
  have u1 : isU8 m1 64 := by rw [hm1]; exact U_row um0 (ptR_u _ _)
  have f2 : f_X6_put 5 (fun j => tb_DOUBLED_DIGITS.getD j 0) 2 (32 : Int32) w1 = _ := p_X6_put (t := 5) (n := 2) (a := 32) _ w1 (by omega)
  obtain ⟨w2, hw2⟩ : ∃ q, q = zrow 32 (8 * 2) (fun j => sB (ptR (fun j => tb_DOUBLED_DIGITS.getD j 0) j)) w1 := ⟨_, rfl⟩
  obtain ⟨m2, hm2⟩ : ∃ q, q = zrow 32 (8 * 2) (ptR (fun j => tb_DOUBLED_DIGITS.getD j 0)) m1 := ⟨_, rfl⟩
  rw [← hw2] at f2
  have b2 : RB 64 w2 m2 := by rw [hw2, hm2]; exact RB_row b1
  have u2 : isU8 m2 64 := by rw [hm2]; exact U_row u1 (ptR_u _ _)
  have hp : (0 : Int32) = 0 ∨ (0 : Int32) = 1 := by decide
  obtain ⟨wf, hwf⟩ : ∃ q, q = upd w2 0 (vp_nar .byte ((w2 0 ^^^ (0 : Int32)).toInt8.toInt32)) := ⟨_, rfl⟩
  obtain ⟨mf, hmf⟩ : ∃ q, q = flp 0 0 m2 := ⟨_, rfl⟩
  have bf : RB 64 wf mf := by rw [hwf, hmf]; exact RB_flp hp b2 (by omega)
  have uf : isU8 mf 64 := by rw [hmf]; exact U_flp hp u2 (by omega)
  have ec : Int32.toNatClampNeg 0 = 0 := by decide
  have x2 : ∀ j, j < 48 → m2 j = zrow 32 16 (ptR (fun j => tb_DOUBLED_DIGITS.getD j 0)) (ptR (fun j => tb_COUNTING_KEY.getD j 0)) j := fun j hj => by
    rw [hm2]
    by_cases q : j < 32
    · rw [zrow_out (by omega), zrow_out (by omega), hm1, zrow_0 (by omega)]
    · rw [zrow_in (by omega) (by omega), zrow_in (by omega) (by omega)]
  have lf : RB 48 wf dD0 := fun j hj => by
    rw [bf j (by omega), hmf, flp_at (x2 j hj) (x2 0 (by omega))]
    exact congrArg sB (ck_eq (n := 48) (t := flp 0 0 (zrow 32 16 (ptR (fun j => tb_DOUBLED_DIGITS.getD j 0)) (ptR (fun j => tb_COUNTING_KEY.getD j 0)))) (by decide +kernel) j hj)
  have ud : isU8 dD0 48 := uL (by decide +kernel)
  have fg : f_X3_forget bg gk gv = some (0, zrow 0 32 (fun _ => 0) gk, zrow 0 32 (fun _ => 0) gv) := by
    unfold f_X3_forget
    rw [p_J7_fillB (N := 32) 0 gk (by decide) (by omega), zbE, p_J7_fillB (N := 32) 0 gv (by decide) (by omega), zbE]
  obtain ⟨k2, gm2, i2, s2, q2, v2, e2, r1, r2⟩ := p_X3_feed (N := 64) (n := 48) (K := fun _ => 0) (V := fun _ => 0) (d := dD0) (key := zrow 0 32 (fun _ => 0) gk) (val := zrow 0 32 (fun _ => 0) gv) (ca := wf) 0 rq gm fl tot inn sc su (fun h => absurd rfl h) (fun h => absurd rfl h) (fun _ _ => (by decide : (0 : Int32) &&& 255 = 0)) (fun _ _ => (by decide : (0 : Int32) &&& 255 = 0)) lf ud (by omega) (by omega) (by omega)
  have e2' : f_X3_feed 64 (48 : Int32) 0 rq (zrow 0 32 (fun _ => 0) gk) gm fl tot inn sc su (zrow 0 32 (fun _ => 0) gv) wf = some (1, 0, k2, gm2, 0, 96, i2, s2, q2, v2) := e2
  have r1' : RB 32 k2 dK0 := r1
  have r2' : RB 32 v2 dV0 := r2
  obtain ⟨k3, gm3, i3, s3, q3, v3, e3⟩ := p_X3_answerW (N := 64) (a := 0) (n := 32) (K := dK0) (V := dV0) 0 gm2 0 96 i2 s2 q2 wf r1' r2' dU0.1 dU0.2 (by omega) (by omega)
  have e3' : f_X3_answer_3a1 64 (0 : Int32) (0 : Int32) (32 : Int32) 0 k2 gm2 0 96 i2 s2 q2 v2 wf = some (0 + 1, k3, gm3, 0, 96, i3, s3, q3, v3, zrow 0 32 (fun t => sB (dO0 t)) wf) := e3
  refine ⟨1, 0 + 1, k3, gm3, v3, 0, 96, i3, s3, q3, zrow 0 32 (fun t => sB (dO0 t)) wf, ?_, ⟨zrow 0 32 dO0 mf, RB_row bf, U_row uf (fun t ht => drO_u dU0.2 _ _ (Nat.mod_lt _ (by decide)))⟩, fun t ht => zrow_0 ht⟩
  unfold f_X6_drawOnce_2t_work
  rw [f1, zbE, f2, zbE, zk_T (by decide), zk_T (by decide), znE, ec, ← hwf, fg, zbE]
  dsimp only
  rw [e2', zbE]
  dsimp only
  rw [e3', zbE]
set_option maxHeartbeats 4000000 in
theorem t_drawW_1 {work : Rw} (hw : Bt 64 work) (bg rq : Int32) (gk gm gv : Rw) (fl tot : Int32) (inn sc su : Rw) : ∃ bg' rq' gk' gm' gv' fl' tot' inn' sc' su' w', f_X6_drawOnce_2t_work (1 : Int32) bg rq gk gm gv fl tot inn sc su work = some (bg', rq', gk', gm', gv', fl', tot', inn', sc', su', w') ∧ Bt 64 w' ∧ ∀ t, t < 32 → w' t = sB (dO1 t) := by
  obtain ⟨m0, hm0, um0⟩ := hw
  have f1 : f_X6_put 4 (fun j => tb_COUNTING_KEY.getD j 0) 4 (0 : Int32) work = _ := p_X6_put (t := 4) (n := 4) (a := 0) _ work (by omega)
  obtain ⟨w1, hw1⟩ : ∃ q, q = zrow 0 (8 * 4) (fun j => sB (ptR (fun j => tb_COUNTING_KEY.getD j 0) j)) work := ⟨_, rfl⟩
  obtain ⟨m1, hm1⟩ : ∃ q, q = zrow 0 (8 * 4) (ptR (fun j => tb_COUNTING_KEY.getD j 0)) m0 := ⟨_, rfl⟩
  rw [← hw1] at f1
  have b1 : RB 64 w1 m1 := by rw [hw1, hm1]; exact RB_row hm0
  have u1 : isU8 m1 64 := by rw [hm1]; exact U_row um0 (ptR_u _ _)
  have f2 : f_X6_put 5 (fun j => tb_DOUBLED_DIGITS.getD j 0) 2 (32 : Int32) w1 = _ := p_X6_put (t := 5) (n := 2) (a := 32) _ w1 (by omega)
  obtain ⟨w2, hw2⟩ : ∃ q, q = zrow 32 (8 * 2) (fun j => sB (ptR (fun j => tb_DOUBLED_DIGITS.getD j 0) j)) w1 := ⟨_, rfl⟩
  obtain ⟨m2, hm2⟩ : ∃ q, q = zrow 32 (8 * 2) (ptR (fun j => tb_DOUBLED_DIGITS.getD j 0)) m1 := ⟨_, rfl⟩
  rw [← hw2] at f2
  have b2 : RB 64 w2 m2 := by rw [hw2, hm2]; exact RB_row b1
  have u2 : isU8 m2 64 := by rw [hm2]; exact U_row u1 (ptR_u _ _)
  have hp : (1 : Int32) = 0 ∨ (1 : Int32) = 1 := by decide
  obtain ⟨wf, hwf⟩ : ∃ q, q = upd w2 0 (vp_nar .byte ((w2 0 ^^^ (1 : Int32)).toInt8.toInt32)) := ⟨_, rfl⟩
  obtain ⟨mf, hmf⟩ : ∃ q, q = flp 0 1 m2 := ⟨_, rfl⟩
  have bf : RB 64 wf mf := by rw [hwf, hmf]; exact RB_flp hp b2 (by omega)
  have uf : isU8 mf 64 := by rw [hmf]; exact U_flp hp u2 (by omega)
  have ec : Int32.toNatClampNeg 0 = 0 := by decide
  have x2 : ∀ j, j < 48 → m2 j = zrow 32 16 (ptR (fun j => tb_DOUBLED_DIGITS.getD j 0)) (ptR (fun j => tb_COUNTING_KEY.getD j 0)) j := fun j hj => by
    rw [hm2]
    by_cases q : j < 32
    · rw [zrow_out (by omega), zrow_out (by omega), hm1, zrow_0 (by omega)]
    · rw [zrow_in (by omega) (by omega), zrow_in (by omega) (by omega)]
  have lf : RB 48 wf dD1 := fun j hj => by
    rw [bf j (by omega), hmf, flp_at (x2 j hj) (x2 0 (by omega))]
    exact congrArg sB (ck_eq (n := 48) (t := flp 0 1 (zrow 32 16 (ptR (fun j => tb_DOUBLED_DIGITS.getD j 0)) (ptR (fun j => tb_COUNTING_KEY.getD j 0)))) (by decide +kernel) j hj)
  have ud : isU8 dD1 48 := uL (by decide +kernel)
  have fg : f_X3_forget bg gk gv = some (0, zrow 0 32 (fun _ => 0) gk, zrow 0 32 (fun _ => 0) gv) := by
    unfold f_X3_forget
    rw [p_J7_fillB (N := 32) 0 gk (by decide) (by omega), zbE, p_J7_fillB (N := 32) 0 gv (by decide) (by omega), zbE]
  obtain ⟨k2, gm2, i2, s2, q2, v2, e2, r1, r2⟩ := p_X3_feed (N := 64) (n := 48) (K := fun _ => 0) (V := fun _ => 0) (d := dD1) (key := zrow 0 32 (fun _ => 0) gk) (val := zrow 0 32 (fun _ => 0) gv) (ca := wf) 0 rq gm fl tot inn sc su (fun h => absurd rfl h) (fun h => absurd rfl h) (fun _ _ => (by decide : (0 : Int32) &&& 255 = 0)) (fun _ _ => (by decide : (0 : Int32) &&& 255 = 0)) lf ud (by omega) (by omega) (by omega)
  have e2' : f_X3_feed 64 (48 : Int32) 0 rq (zrow 0 32 (fun _ => 0) gk) gm fl tot inn sc su (zrow 0 32 (fun _ => 0) gv) wf = some (1, 0, k2, gm2, 0, 96, i2, s2, q2, v2) := e2
  have r1' : RB 32 k2 dK1 := r1
  have r2' : RB 32 v2 dV1 := r2
  obtain ⟨k3, gm3, i3, s3, q3, v3, e3⟩ := p_X3_answerW (N := 64) (a := 0) (n := 32) (K := dK1) (V := dV1) 0 gm2 0 96 i2 s2 q2 wf r1' r2' dU1.1 dU1.2 (by omega) (by omega)
  have e3' : f_X3_answer_3a1 64 (0 : Int32) (0 : Int32) (32 : Int32) 0 k2 gm2 0 96 i2 s2 q2 v2 wf = some (0 + 1, k3, gm3, 0, 96, i3, s3, q3, v3, zrow 0 32 (fun t => sB (dO1 t)) wf) := e3
  refine ⟨1, 0 + 1, k3, gm3, v3, 0, 96, i3, s3, q3, zrow 0 32 (fun t => sB (dO1 t)) wf, ?_, ⟨zrow 0 32 dO1 mf, RB_row bf, U_row uf (fun t ht => drO_u dU1.2 _ _ (Nat.mod_lt _ (by decide)))⟩, fun t ht => zrow_0 ht⟩
  unfold f_X6_drawOnce_2t_work
  rw [f1, zbE, f2, zbE, zk_T (by decide), zk_T (by decide), znE, ec, ← hwf, fg, zbE]
  dsimp only
  rw [e2', zbE]
  dsimp only
  rw [e3', zbE]
