/-! the self tests: keys; the block cipher -/
def kx1 : List Int32 := [0, 1, 2, 3, 4, 5, 6, 7, 8, 9, 10, 11, 12, 13, 14, 15, 214, 170, 116, 253, 210, 175, 114, 250, 218, 166, 120, 241, 214, 171, 118, 254, 182, 146, 207, 11, 100, 61, 189, 241, 190, 155, 197, 0, 104, 48, 179, 254, 182, 255, 116, 78, 210, 194, 201, 191, 108, 89, 12, 191, 4, 105, 191, 65, 71, 247, 247, 188, 149, 53, 62, 3, 249, 108, 50, 188, 253, 5, 141, 253, 60, 170, 163, 232, 169, 159, 157, 235, 80, 243, 175, 87, 173, 246, 34, 170, 94, 57, 15, 125, 247, 166, 146, 150, 167, 85, 61, 193, 10, 163, 31, 107, 20, 249, 112, 26, 227, 95, 226, 140, 68, 10, 223, 77, 78, 169, 192, 38, 71, 67, 135, 53, 164, 28, 101, 185, 224, 22, 186, 244, 174, 191, 122, 210, 84, 153, 50, 209, 240, 133, 87, 104, 16, 147, 237, 156, 190, 44, 151, 78, 19, 17, 29, 127, 227, 148, 74, 23, 243, 7, 167, 139, 77, 43, 48, 197]
theorem kx1_P : kxP 4 (4 * (4 + 7)) (lR kx1) := fun w h1 h2 i hi => (by decide +kernel : ∀ w, w < 44 → ∀ i, i < 4 → 4 ≤ w → lR kx1 (4 * w + i) = lR kx1 (4 * (w - 4) + i) ^^^ kxB 4 w i (lR kx1)) w h2 i hi h1
theorem kx1_0 : ∀ t, t < 4 * 4 → ptR (fun j => tb_COUNTING_KEY.getD j 0) t = lR kx1 t := fun t ht => ck_eq (n := 16) (by decide +kernel) t ht
theorem kx1_u : isU8 (lR kx1) (16 * (10 + 1)) := uL (by decide +kernel)
def kx2 : List Int32 := [0, 1, 2, 3, 4, 5, 6, 7, 8, 9, 10, 11, 12, 13, 14, 15, 16, 17, 18, 19, 20, 21, 22, 23, 24, 25, 26, 27, 28, 29, 30, 31, 165, 115, 194, 159, 161, 118, 196, 152, 169, 127, 206, 147, 165, 114, 192, 156, 22, 81, 168, 205, 2, 68, 190, 218, 26, 93, 164, 193, 6, 64, 186, 222, 174, 135, 223, 240, 15, 241, 27, 104, 166, 142, 213, 251, 3, 252, 21, 103, 109, 225, 241, 72, 111, 165, 79, 146, 117, 248, 235, 83, 115, 184, 81, 141, 198, 86, 130, 127, 201, 167, 153, 23, 111, 41, 76, 236, 108, 213, 89, 139, 61, 226, 58, 117, 82, 71, 117, 231, 39, 191, 158, 180, 84, 7, 207, 57, 11, 220, 144, 95, 194, 123, 9, 72, 173, 82, 69, 164, 193, 135, 28, 47, 69, 245, 166, 96, 23, 178, 211, 135, 48, 13, 77, 51, 100, 10, 130, 10, 124, 207, 247, 28, 190, 180, 254, 84, 19, 230, 187, 240, 210, 97, 167, 223, 240, 26, 250, 254, 231, 168, 41, 121, 215, 165, 100, 74, 179, 175, 230, 64, 37, 65, 254, 113, 155, 245, 0, 37, 136, 19, 187, 213, 90, 114, 28, 10, 78, 90, 102, 153, 169, 242, 79, 224, 126, 87, 43, 170, 205, 248, 205, 234, 36, 252, 121, 204, 191, 9, 121, 233, 55, 26, 194, 60, 109, 104, 222, 54]
theorem kx2_P : kxP 8 (4 * (8 + 7)) (lR kx2) := fun w h1 h2 i hi => (by decide +kernel : ∀ w, w < 60 → ∀ i, i < 4 → 8 ≤ w → lR kx2 (4 * w + i) = lR kx2 (4 * (w - 8) + i) ^^^ kxB 8 w i (lR kx2)) w h2 i hi h1
theorem kx2_0 : ∀ t, t < 4 * 8 → ptR (fun j => tb_COUNTING_KEY.getD j 0) t = lR kx2 t := fun t ht => ck_eq (n := 32) (by decide +kernel) t ht
theorem kx2_u : isU8 (lR kx2) (16 * (14 + 1)) := uL (by decide +kernel)
def kx3 : List Int32 := [43, 126, 21, 22, 40, 174, 210, 166, 171, 247, 21, 136, 9, 207, 79, 60, 160, 250, 254, 23, 136, 84, 44, 177, 35, 163, 57, 57, 42, 108, 118, 5, 242, 194, 149, 242, 122, 150, 185, 67, 89, 53, 128, 122, 115, 89, 246, 127, 61, 128, 71, 125, 71, 22, 254, 62, 30, 35, 126, 68, 109, 122, 136, 59, 239, 68, 165, 65, 168, 82, 91, 127, 182, 113, 37, 59, 219, 11, 173, 0, 212, 209, 198, 248, 124, 131, 157, 135, 202, 242, 184, 188, 17, 249, 21, 188, 109, 136, 163, 122, 17, 11, 62, 253, 219, 249, 134, 65, 202, 0, 147, 253, 78, 84, 247, 14, 95, 95, 201, 243, 132, 166, 79, 178, 78, 166, 220, 79, 234, 210, 115, 33, 181, 141, 186, 210, 49, 43, 245, 96, 127, 141, 41, 47, 172, 119, 102, 243, 25, 250, 220, 33, 40, 209, 41, 65, 87, 92, 0, 110, 208, 20, 249, 168, 201, 238, 37, 137, 225, 63, 12, 200, 182, 99, 12, 166]
theorem kx3_P : kxP 4 (4 * (4 + 7)) (lR kx3) := fun w h1 h2 i hi => (by decide +kernel : ∀ w, w < 44 → ∀ i, i < 4 → 4 ≤ w → lR kx3 (4 * w + i) = lR kx3 (4 * (w - 4) + i) ^^^ kxB 4 w i (lR kx3)) w h2 i hi h1
theorem kx3_0 : ∀ t, t < 4 * 4 → ptR (fun j => tb_MODES_KEY.getD j 0) t = lR kx3 t := fun t ht => ck_eq (n := 16) (by decide +kernel) t ht
theorem kx3_u : isU8 (lR kx3) (16 * (10 + 1)) := uL (by decide +kernel)
def kx0 : List Int32 := [0, 0, 0, 0, 0, 0, 0, 0, 0, 0, 0, 0, 0, 0, 0, 0, 98, 99, 99, 99, 98, 99, 99, 99, 98, 99, 99, 99, 98, 99, 99, 99, 155, 152, 152, 201, 249, 251, 251, 170, 155, 152, 152, 201, 249, 251, 251, 170, 144, 151, 52, 80, 105, 108, 207, 250, 242, 244, 87, 51, 11, 15, 172, 153, 238, 6, 218, 123, 135, 106, 21, 129, 117, 158, 66, 178, 126, 145, 238, 43, 127, 46, 43, 136, 248, 68, 62, 9, 141, 218, 124, 187, 243, 75, 146, 144, 236, 97, 75, 133, 20, 37, 117, 140, 153, 255, 9, 55, 106, 180, 155, 167, 33, 117, 23, 135, 53, 80, 98, 11, 172, 175, 107, 60, 198, 27, 240, 155, 14, 249, 3, 51, 59, 169, 97, 56, 151, 6, 10, 4, 81, 29, 250, 159, 177, 212, 216, 226, 138, 125, 185, 218, 29, 123, 179, 222, 76, 102, 73, 65, 180, 239, 91, 203, 62, 146, 226, 17, 35, 233, 81, 207, 111, 143, 24, 142]
theorem kx0_P : kxP 4 (4 * (4 + 7)) (lR kx0) := fun w h1 h2 i hi => (by decide +kernel : ∀ w, w < 44 → ∀ i, i < 4 → 4 ≤ w → lR kx0 (4 * w + i) = lR kx0 (4 * (w - 4) + i) ^^^ kxB 4 w i (lR kx0)) w h2 i hi h1
theorem kx0_0 : ∀ t, t < 4 * 4 → ptR (fun j => tb_ZEROS.getD j 0) t = lR kx0 t := fun t ht => ck_eq (n := 16) (by decide +kernel) t ht
theorem kx0_u : isU8 (lR kx0) (16 * (10 + 1)) := uL (by decide +kernel)
theorem vkx1_0 : eq16 (aesE (lR kx1) 10 (lR [0, 17, 34, 51, 68, 85, 102, 119, 136, 153, 170, 187, 204, 221, 238, 255])) (lR [105, 196, 224, 216, 106, 123, 4, 48, 216, 205, 183, 128, 112, 180, 197, 90]) := v_aesE (by omega) (by decide +kernel)
theorem vkx1_0_d : eq16 (aesD (lR kx1) 10 (lR [105, 196, 224, 216, 106, 123, 4, 48, 216, 205, 183, 128, 112, 180, 197, 90])) (lR [0, 17, 34, 51, 68, 85, 102, 119, 136, 153, 170, 187, 204, 221, 238, 255]) := v_aesD (by decide +kernel)
theorem t_aeskx1_0 {work : Rw} (hw : Bt 64 work) (rd : Int32) (ak key : Rw) : ∃ rd' ak' key' w', f_X6_aesRight (16 : Int32) 6 (fun j => tb_AES_128_ANSWER.getD j 0) 2 (0 : Int32) rd ak key work = some (1, rd', ak', key', w') ∧ Bt 64 w' := by
  obtain ⟨m0, hm0, um0⟩ := hw
  obtain ⟨ak', key', e1, g1, g2⟩ := p_X6_setKey (t := 4) (n := 4) (nk := 4) (fun j => tb_COUNTING_KEY.getD j 0) rd ak key (by omega) (by omega) (by omega)
  have hk := rkL (KX := kx1) (by omega) g1 g2 kx1_P kx1_0
  have e1' : f_X6_setKey 4 (fun j => tb_COUNTING_KEY.getD j 0) 4 (16 : Int32) rd ak key = some (nI 10, ak', key') := e1
  have e2 : f_X6_put 5 (fun j => tb_DOUBLED_DIGITS.getD j 0) 2 (0 : Int32) work = some (zrow 0 16 (fun j => sB (ptR (fun j => tb_DOUBLED_DIGITS.getD j 0) j)) work) := p_X6_put (t := 5) (n := 2) (a := 0) _ work (by omega)
  have hp : (0 : Int32) = 0 ∨ (0 : Int32) = 1 := by decide
  obtain ⟨w1, hw1⟩ : ∃ q, q = zrow 0 16 (fun j => sB (ptR (fun j => tb_DOUBLED_DIGITS.getD j 0) j)) work := ⟨_, rfl⟩
  obtain ⟨m1, hm1⟩ : ∃ q, q = zrow 0 16 (ptR (fun j => tb_DOUBLED_DIGITS.getD j 0)) m0 := ⟨_, rfl⟩
  have b1 : RB 64 w1 m1 := by rw [hw1, hm1]; exact RB_row hm0
  have u1 : isU8 m1 64 := by rw [hm1]; exact U_row um0 (ptR_u _ _)
  obtain ⟨w2, hw2⟩ : ∃ q, q = upd w1 0 (vp_nar .byte ((w1 0 ^^^ (0 : Int32)).toInt8.toInt32)) := ⟨_, rfl⟩
  have b2 : RB 64 w2 (flp 0 0 m1) := by rw [hw2]; exact RB_flp hp b1 (by omega)
  have u2 : isU8 (flp 0 0 m1) 64 := U_flp hp u1 (by omega)
  have l2 : eq16 (fun t => flp 0 0 m1 (0 + t)) (lR [0, 17, 34, 51, 68, 85, 102, 119, 136, 153, 170, 187, 204, 221, 238, 255]) := fun t ht => by
    show flp 0 0 m1 (0 + t) = _
    rw [Nat.zero_add, flp_at (g := ptR (fun j => tb_DOUBLED_DIGITS.getD j 0)) (by rw [hm1]; exact zrow_0 ht) (by rw [hm1]; exact zrow_0 (by omega))]
    exact ck_eq (n := 16) (t := flp 0 0 (ptR (fun j => tb_DOUBLED_DIGITS.getD j 0))) (by decide +kernel) t ht
  have e3 : f_X0_encrypt 64 (0 : Int32) (nI 10) ak' w2 = _ := c_enc (N := 64) (a := 0) (R := 10) b2 u2 (by omega) (by omega) (by omega) (by omega) hk
  have l3 := vE (hE_aes (lR kx1) (show 1 ≤ 10 by omega)) vkx1_0 l2
  obtain ⟨w3, hw3⟩ : ∃ q, q = zrow 0 16 (fun i => sB (aesE (lR kx1) 10 (fun t => flp 0 0 m1 (0 + t)) i)) w2 := ⟨_, rfl⟩
  rw [← hw3] at e3
  obtain ⟨m3, hm3⟩ : ∃ q, q = zrow 0 16 (lR [105, 196, 224, 216, 106, 123, 4, 48, 216, 205, 183, 128, 112, 180, 197, 90]) (flp 0 0 m1) := ⟨_, rfl⟩
  have b3 : RB 64 w3 m3 := by
    rw [hw3, hm3]
    rw [zrow_congr (g := fun i => sB (aesE (lR kx1) 10 (fun t => flp 0 0 m1 (0 + t)) i)) (k := fun i => sB (lR [105, 196, 224, 216, 106, 123, 4, 48, 216, 205, 183, 128, 112, 180, 197, 90] i)) (fun j hj => by rw [l3 j hj])]
    exact RB_row b2
  have u3 : isU8 m3 64 := by rw [hm3]; exact U_row u2 (uL (by decide +kernel))
  have e5 : f_X0_decrypt 64 (0 : Int32) (nI 10) ak' w3 = _ := c_dec (N := 64) (a := 0) (R := 10) b3 u3 (by omega) (by omega) (by omega) (by omega) hk
  obtain ⟨w4, hw4⟩ : ∃ q, q = zrow 0 16 (fun i => sB (aesD (lR kx1) 10 (fun t => m3 (0 + t)) i)) w3 := ⟨_, rfl⟩
  rw [← hw4] at e5
  have b4 : RB 64 w4 (zrow 0 16 (aesD (lR kx1) 10 (fun t => m3 (0 + t))) m3) := by rw [hw4]; exact RB_row b3
  have u4 : isU8 (zrow 0 16 (aesD (lR kx1) 10 (fun t => m3 (0 + t))) m3) 64 := U_row u3 (aesD_u (fun t ht => u3 _ (by omega)) kx1_u)
  obtain ⟨r, e4, g4⟩ := p_X6_stands (t := 6) (n := 2) (a := 0) (fun j => tb_AES_128_ANSWER.getD j 0) (by omega) b3 u3
  have e4' : f_X6_stands 6 (fun j => tb_AES_128_ANSWER.getD j 0) 2 (0 : Int32) w3 = some r := e4
  have ec : Int32.toNatClampNeg 0 = 0 := by decide
  have x3 : ∀ j, j < 16 → m3 (0 + j) = lR [105, 196, 224, 216, 106, 123, 4, 48, 216, 205, 183, 128, 112, 180, 197, 90] j := fun j hj => by rw [Nat.zero_add, hm3, zrow_0 hj]
  have hr : r = 1 := by
    rcases g4 with ⟨h, -⟩ | ⟨-, h⟩
    · exact h
    · exact absurd (fun j hj => (x3 j hj).trans (ck_eq (n := 16) (t := lR [105, 196, 224, 216, 106, 123, 4, 48, 216, 205, 183, 128, 112, 180, 197, 90]) (by decide +kernel) j hj)) h
  subst hr
  obtain ⟨r, e6, g6⟩ := p_X6_stands (t := 5) (n := 2) (a := 0) (fun j => tb_DOUBLED_DIGITS.getD j 0) (by omega) b4 u4
  have e6' : f_X6_stands 5 (fun j => tb_DOUBLED_DIGITS.getD j 0) 2 (0 : Int32) w4 = some r := e6
  have hr : r = 1 := by
    rcases g6 with ⟨h, -⟩ | ⟨-, h⟩
    · exact h
    · refine absurd (fun j hj => ?_) h
      rw [Nat.zero_add, zrow_0 hj, aesD_c (t := lR [105, 196, 224, 216, 106, 123, 4, 48, 216, 205, 183, 128, 112, 180, 197, 90]) (fun i hi => x3 i hi) (fun _ _ => rfl) j hj, vkx1_0_d j hj]
      exact ck_eq (n := 16) (t := lR [0, 17, 34, 51, 68, 85, 102, 119, 136, 153, 170, 187, 204, 221, 238, 255]) (by decide +kernel) j hj
  subst hr
  refine ⟨nI 10, ak', key', w4, ?_, _, b4, u4⟩
  unfold f_X6_aesRight
  rw [e1', zbE]
  dsimp only
  rw [e2, zbE, ← hw1, zk_T (by decide), zk_T (by decide), znE, ec, ← hw2, e3, zbE, e4', zbE, e5, zbE, if_neg (by decide), e6', zbE, if_neg (by decide)]
theorem vkx1_1 : eq16 (aesE (lR kx1) 10 (lR [1, 17, 34, 51, 68, 85, 102, 119, 136, 153, 170, 187, 204, 221, 238, 255])) (lR [165, 86, 21, 108, 114, 135, 101, 119, 246, 127, 149, 169, 217, 230, 64, 167]) := v_aesE (by omega) (by decide +kernel)
theorem t_aeskx1_1 {work : Rw} (hw : Bt 64 work) (rd : Int32) (ak key : Rw) : ∃ rd' ak' key' w', f_X6_aesRight (16 : Int32) 6 (fun j => tb_AES_128_ANSWER.getD j 0) 2 (1 : Int32) rd ak key work = some (0, rd', ak', key', w') ∧ Bt 64 w' := by
  obtain ⟨m0, hm0, um0⟩ := hw
  obtain ⟨ak', key', e1, g1, g2⟩ := p_X6_setKey (t := 4) (n := 4) (nk := 4) (fun j => tb_COUNTING_KEY.getD j 0) rd ak key (by omega) (by omega) (by omega)
  have hk := rkL (KX := kx1) (by omega) g1 g2 kx1_P kx1_0
  have e1' : f_X6_setKey 4 (fun j => tb_COUNTING_KEY.getD j 0) 4 (16 : Int32) rd ak key = some (nI 10, ak', key') := e1
  have e2 : f_X6_put 5 (fun j => tb_DOUBLED_DIGITS.getD j 0) 2 (0 : Int32) work = some (zrow 0 16 (fun j => sB (ptR (fun j => tb_DOUBLED_DIGITS.getD j 0) j)) work) := p_X6_put (t := 5) (n := 2) (a := 0) _ work (by omega)
  have hp : (1 : Int32) = 0 ∨ (1 : Int32) = 1 := by decide
  obtain ⟨w1, hw1⟩ : ∃ q, q = zrow 0 16 (fun j => sB (ptR (fun j => tb_DOUBLED_DIGITS.getD j 0) j)) work := ⟨_, rfl⟩
  obtain ⟨m1, hm1⟩ : ∃ q, q = zrow 0 16 (ptR (fun j => tb_DOUBLED_DIGITS.getD j 0)) m0 := ⟨_, rfl⟩
  have b1 : RB 64 w1 m1 := by rw [hw1, hm1]; exact RB_row hm0
  have u1 : isU8 m1 64 := by rw [hm1]; exact U_row um0 (ptR_u _ _)
  obtain ⟨w2, hw2⟩ : ∃ q, q = upd w1 0 (vp_nar .byte ((w1 0 ^^^ (1 : Int32)).toInt8.toInt32)) := ⟨_, rfl⟩
  have b2 : RB 64 w2 (flp 0 1 m1) := by rw [hw2]; exact RB_flp hp b1 (by omega)
  have u2 : isU8 (flp 0 1 m1) 64 := U_flp hp u1 (by omega)
  have l2 : eq16 (fun t => flp 0 1 m1 (0 + t)) (lR [1, 17, 34, 51, 68, 85, 102, 119, 136, 153, 170, 187, 204, 221, 238, 255]) := fun t ht => by
    show flp 0 1 m1 (0 + t) = _
    rw [Nat.zero_add, flp_at (g := ptR (fun j => tb_DOUBLED_DIGITS.getD j 0)) (by rw [hm1]; exact zrow_0 ht) (by rw [hm1]; exact zrow_0 (by omega))]
    exact ck_eq (n := 16) (t := flp 0 1 (ptR (fun j => tb_DOUBLED_DIGITS.getD j 0))) (by decide +kernel) t ht
  have e3 : f_X0_encrypt 64 (0 : Int32) (nI 10) ak' w2 = _ := c_enc (N := 64) (a := 0) (R := 10) b2 u2 (by omega) (by omega) (by omega) (by omega) hk
  have l3 := vE (hE_aes (lR kx1) (show 1 ≤ 10 by omega)) vkx1_1 l2
  obtain ⟨w3, hw3⟩ : ∃ q, q = zrow 0 16 (fun i => sB (aesE (lR kx1) 10 (fun t => flp 0 1 m1 (0 + t)) i)) w2 := ⟨_, rfl⟩
  rw [← hw3] at e3
  obtain ⟨m3, hm3⟩ : ∃ q, q = zrow 0 16 (lR [165, 86, 21, 108, 114, 135, 101, 119, 246, 127, 149, 169, 217, 230, 64, 167]) (flp 0 1 m1) := ⟨_, rfl⟩
  have b3 : RB 64 w3 m3 := by
    rw [hw3, hm3]
    rw [zrow_congr (g := fun i => sB (aesE (lR kx1) 10 (fun t => flp 0 1 m1 (0 + t)) i)) (k := fun i => sB (lR [165, 86, 21, 108, 114, 135, 101, 119, 246, 127, 149, 169, 217, 230, 64, 167] i)) (fun j hj => by rw [l3 j hj])]
    exact RB_row b2
  have u3 : isU8 m3 64 := by rw [hm3]; exact U_row u2 (uL (by decide +kernel))
  have e5 : f_X0_decrypt 64 (0 : Int32) (nI 10) ak' w3 = _ := c_dec (N := 64) (a := 0) (R := 10) b3 u3 (by omega) (by omega) (by omega) (by omega) hk
  obtain ⟨w4, hw4⟩ : ∃ q, q = zrow 0 16 (fun i => sB (aesD (lR kx1) 10 (fun t => m3 (0 + t)) i)) w3 := ⟨_, rfl⟩
  rw [← hw4] at e5
  have b4 : RB 64 w4 (zrow 0 16 (aesD (lR kx1) 10 (fun t => m3 (0 + t))) m3) := by rw [hw4]; exact RB_row b3
  have u4 : isU8 (zrow 0 16 (aesD (lR kx1) 10 (fun t => m3 (0 + t))) m3) 64 := U_row u3 (aesD_u (fun t ht => u3 _ (by omega)) kx1_u)
  obtain ⟨r, e4, g4⟩ := p_X6_stands (t := 6) (n := 2) (a := 0) (fun j => tb_AES_128_ANSWER.getD j 0) (by omega) b3 u3
  have e4' : f_X6_stands 6 (fun j => tb_AES_128_ANSWER.getD j 0) 2 (0 : Int32) w3 = some r := e4
  have ec : Int32.toNatClampNeg 0 = 0 := by decide
  have x3 : ∀ j, j < 16 → m3 (0 + j) = lR [165, 86, 21, 108, 114, 135, 101, 119, 246, 127, 149, 169, 217, 230, 64, 167] j := fun j hj => by rw [Nat.zero_add, hm3, zrow_0 hj]
  have hr : r = 0 := by
    rcases g4 with ⟨-, h⟩ | ⟨h, -⟩
    · exact absurd ((x3 0 (by omega)).symm.trans (h 0 (by omega))) (by decide +kernel)
    · exact h
  subst hr
  refine ⟨nI 10, ak', key', w4, ?_, _, b4, u4⟩
  unfold f_X6_aesRight
  rw [e1', zbE]
  dsimp only
  rw [e2, zbE, ← hw1, zk_T (by decide), zk_T (by decide), znE, ec, ← hw2, e3, zbE, e4', zbE, e5, zbE, if_pos rfl]
theorem vkx2_2 : eq16 (aesE (lR kx2) 14 (lR [0, 17, 34, 51, 68, 85, 102, 119, 136, 153, 170, 187, 204, 221, 238, 255])) (lR [142, 162, 183, 202, 81, 103, 69, 191, 234, 252, 73, 144, 75, 73, 96, 137]) := v_aesE (by omega) (by decide +kernel)
theorem vkx2_2_d : eq16 (aesD (lR kx2) 14 (lR [142, 162, 183, 202, 81, 103, 69, 191, 234, 252, 73, 144, 75, 73, 96, 137])) (lR [0, 17, 34, 51, 68, 85, 102, 119, 136, 153, 170, 187, 204, 221, 238, 255]) := v_aesD (by decide +kernel)
theorem t_aeskx2_0 {work : Rw} (hw : Bt 64 work) (rd : Int32) (ak key : Rw) : ∃ rd' ak' key' w', f_X6_aesRight (32 : Int32) 7 (fun j => tb_AES_256_ANSWER.getD j 0) 2 (0 : Int32) rd ak key work = some (1, rd', ak', key', w') ∧ Bt 64 w' := by
  obtain ⟨m0, hm0, um0⟩ := hw
  obtain ⟨ak', key', e1, g1, g2⟩ := p_X6_setKey (t := 4) (n := 4) (nk := 8) (fun j => tb_COUNTING_KEY.getD j 0) rd ak key (by omega) (by omega) (by omega)
  have hk := rkL (KX := kx2) (by omega) g1 g2 kx2_P kx2_0
  have e1' : f_X6_setKey 4 (fun j => tb_COUNTING_KEY.getD j 0) 4 (32 : Int32) rd ak key = some (nI 14, ak', key') := e1
  have e2 : f_X6_put 5 (fun j => tb_DOUBLED_DIGITS.getD j 0) 2 (0 : Int32) work = some (zrow 0 16 (fun j => sB (ptR (fun j => tb_DOUBLED_DIGITS.getD j 0) j)) work) := p_X6_put (t := 5) (n := 2) (a := 0) _ work (by omega)
  have hp : (0 : Int32) = 0 ∨ (0 : Int32) = 1 := by decide
  obtain ⟨w1, hw1⟩ : ∃ q, q = zrow 0 16 (fun j => sB (ptR (fun j => tb_DOUBLED_DIGITS.getD j 0) j)) work := ⟨_, rfl⟩
  obtain ⟨m1, hm1⟩ : ∃ q, q = zrow 0 16 (ptR (fun j => tb_DOUBLED_DIGITS.getD j 0)) m0 := ⟨_, rfl⟩
  have b1 : RB 64 w1 m1 := by rw [hw1, hm1]; exact RB_row hm0
  have u1 : isU8 m1 64 := by rw [hm1]; exact U_row um0 (ptR_u _ _)
  obtain ⟨w2, hw2⟩ : ∃ q, q = upd w1 0 (vp_nar .byte ((w1 0 ^^^ (0 : Int32)).toInt8.toInt32)) := ⟨_, rfl⟩
  have b2 : RB 64 w2 (flp 0 0 m1) := by rw [hw2]; exact RB_flp hp b1 (by omega)
  have u2 : isU8 (flp 0 0 m1) 64 := U_flp hp u1 (by omega)
  have l2 : eq16 (fun t => flp 0 0 m1 (0 + t)) (lR [0, 17, 34, 51, 68, 85, 102, 119, 136, 153, 170, 187, 204, 221, 238, 255]) := fun t ht => by
    show flp 0 0 m1 (0 + t) = _
    rw [Nat.zero_add, flp_at (g := ptR (fun j => tb_DOUBLED_DIGITS.getD j 0)) (by rw [hm1]; exact zrow_0 ht) (by rw [hm1]; exact zrow_0 (by omega))]
    exact ck_eq (n := 16) (t := flp 0 0 (ptR (fun j => tb_DOUBLED_DIGITS.getD j 0))) (by decide +kernel) t ht
  have e3 : f_X0_encrypt 64 (0 : Int32) (nI 14) ak' w2 = _ := c_enc (N := 64) (a := 0) (R := 14) b2 u2 (by omega) (by omega) (by omega) (by omega) hk
  have l3 := vE (hE_aes (lR kx2) (show 1 ≤ 14 by omega)) vkx2_2 l2
  obtain ⟨w3, hw3⟩ : ∃ q, q = zrow 0 16 (fun i => sB (aesE (lR kx2) 14 (fun t => flp 0 0 m1 (0 + t)) i)) w2 := ⟨_, rfl⟩
  rw [← hw3] at e3
  obtain ⟨m3, hm3⟩ : ∃ q, q = zrow 0 16 (lR [142, 162, 183, 202, 81, 103, 69, 191, 234, 252, 73, 144, 75, 73, 96, 137]) (flp 0 0 m1) := ⟨_, rfl⟩
  have b3 : RB 64 w3 m3 := by
    rw [hw3, hm3]
    rw [zrow_congr (g := fun i => sB (aesE (lR kx2) 14 (fun t => flp 0 0 m1 (0 + t)) i)) (k := fun i => sB (lR [142, 162, 183, 202, 81, 103, 69, 191, 234, 252, 73, 144, 75, 73, 96, 137] i)) (fun j hj => by rw [l3 j hj])]
    exact RB_row b2
  have u3 : isU8 m3 64 := by rw [hm3]; exact U_row u2 (uL (by decide +kernel))
  have e5 : f_X0_decrypt 64 (0 : Int32) (nI 14) ak' w3 = _ := c_dec (N := 64) (a := 0) (R := 14) b3 u3 (by omega) (by omega) (by omega) (by omega) hk
  obtain ⟨w4, hw4⟩ : ∃ q, q = zrow 0 16 (fun i => sB (aesD (lR kx2) 14 (fun t => m3 (0 + t)) i)) w3 := ⟨_, rfl⟩
  rw [← hw4] at e5
  have b4 : RB 64 w4 (zrow 0 16 (aesD (lR kx2) 14 (fun t => m3 (0 + t))) m3) := by rw [hw4]; exact RB_row b3
  have u4 : isU8 (zrow 0 16 (aesD (lR kx2) 14 (fun t => m3 (0 + t))) m3) 64 := U_row u3 (aesD_u (fun t ht => u3 _ (by omega)) kx2_u)
  obtain ⟨r, e4, g4⟩ := p_X6_stands (t := 7) (n := 2) (a := 0) (fun j => tb_AES_256_ANSWER.getD j 0) (by omega) b3 u3
  have e4' : f_X6_stands 7 (fun j => tb_AES_256_ANSWER.getD j 0) 2 (0 : Int32) w3 = some r := e4
  have ec : Int32.toNatClampNeg 0 = 0 := by decide
  have x3 : ∀ j, j < 16 → m3 (0 + j) = lR [142, 162, 183, 202, 81, 103, 69, 191, 234, 252, 73, 144, 75, 73, 96, 137] j := fun j hj => by rw [Nat.zero_add, hm3, zrow_0 hj]
  have hr : r = 1 := by
    rcases g4 with ⟨h, -⟩ | ⟨-, h⟩
    · exact h
    · exact absurd (fun j hj => (x3 j hj).trans (ck_eq (n := 16) (t := lR [142, 162, 183, 202, 81, 103, 69, 191, 234, 252, 73, 144, 75, 73, 96, 137]) (by decide +kernel) j hj)) h
  subst hr
  obtain ⟨r, e6, g6⟩ := p_X6_stands (t := 5) (n := 2) (a := 0) (fun j => tb_DOUBLED_DIGITS.getD j 0) (by omega) b4 u4
  have e6' : f_X6_stands 5 (fun j => tb_DOUBLED_DIGITS.getD j 0) 2 (0 : Int32) w4 = some r := e6
  have hr : r = 1 := by
    rcases g6 with ⟨h, -⟩ | ⟨-, h⟩
    · exact h
    · refine absurd (fun j hj => ?_) h
      rw [Nat.zero_add, zrow_0 hj, aesD_c (t := lR [142, 162, 183, 202, 81, 103, 69, 191, 234, 252, 73, 144, 75, 73, 96, 137]) (fun i hi => x3 i hi) (fun _ _ => rfl) j hj, vkx2_2_d j hj]
      exact ck_eq (n := 16) (t := lR [0, 17, 34, 51, 68, 85, 102, 119, 136, 153, 170, 187, 204, 221, 238, 255]) (by decide +kernel) j hj
  subst hr
  refine ⟨nI 14, ak', key', w4, ?_, _, b4, u4⟩
  unfold f_X6_aesRight
  rw [e1', zbE]
  dsimp only
  rw [e2, zbE, ← hw1, zk_T (by decide), zk_T (by decide), znE, ec, ← hw2, e3, zbE, e4', zbE, e5, zbE, if_neg (by decide), e6', zbE, if_neg (by decide)]
theorem vkx2_3 : eq16 (aesE (lR kx2) 14 (lR [1, 17, 34, 51, 68, 85, 102, 119, 136, 153, 170, 187, 204, 221, 238, 255])) (lR [129, 174, 125, 94, 65, 56, 191, 115, 13, 42, 136, 113, 254, 194, 205, 12]) := v_aesE (by omega) (by decide +kernel)
theorem t_aeskx2_1 {work : Rw} (hw : Bt 64 work) (rd : Int32) (ak key : Rw) : ∃ rd' ak' key' w', f_X6_aesRight (32 : Int32) 7 (fun j => tb_AES_256_ANSWER.getD j 0) 2 (1 : Int32) rd ak key work = some (0, rd', ak', key', w') ∧ Bt 64 w' := by
  obtain ⟨m0, hm0, um0⟩ := hw
  obtain ⟨ak', key', e1, g1, g2⟩ := p_X6_setKey (t := 4) (n := 4) (nk := 8) (fun j => tb_COUNTING_KEY.getD j 0) rd ak key (by omega) (by omega) (by omega)
  have hk := rkL (KX := kx2) (by omega) g1 g2 kx2_P kx2_0
  have e1' : f_X6_setKey 4 (fun j => tb_COUNTING_KEY.getD j 0) 4 (32 : Int32) rd ak key = some (nI 14, ak', key') := e1
  have e2 : f_X6_put 5 (fun j => tb_DOUBLED_DIGITS.getD j 0) 2 (0 : Int32) work = some (zrow 0 16 (fun j => sB (ptR (fun j => tb_DOUBLED_DIGITS.getD j 0) j)) work) := p_X6_put (t := 5) (n := 2) (a := 0) _ work (by omega)
  have hp : (1 : Int32) = 0 ∨ (1 : Int32) = 1 := by decide
  obtain ⟨w1, hw1⟩ : ∃ q, q = zrow 0 16 (fun j => sB (ptR (fun j => tb_DOUBLED_DIGITS.getD j 0) j)) work := ⟨_, rfl⟩
  obtain ⟨m1, hm1⟩ : ∃ q, q = zrow 0 16 (ptR (fun j => tb_DOUBLED_DIGITS.getD j 0)) m0 := ⟨_, rfl⟩
  have b1 : RB 64 w1 m1 := by rw [hw1, hm1]; exact RB_row hm0
  have u1 : isU8 m1 64 := by rw [hm1]; exact U_row um0 (ptR_u _ _)
  obtain ⟨w2, hw2⟩ : ∃ q, q = upd w1 0 (vp_nar .byte ((w1 0 ^^^ (1 : Int32)).toInt8.toInt32)) := ⟨_, rfl⟩
  have b2 : RB 64 w2 (flp 0 1 m1) := by rw [hw2]; exact RB_flp hp b1 (by omega)
  have u2 : isU8 (flp 0 1 m1) 64 := U_flp hp u1 (by omega)
  have l2 : eq16 (fun t => flp 0 1 m1 (0 + t)) (lR [1, 17, 34, 51, 68, 85, 102, 119, 136, 153, 170, 187, 204, 221, 238, 255]) := fun t ht => by
    show flp 0 1 m1 (0 + t) = _
    rw [Nat.zero_add, flp_at (g := ptR (fun j => tb_DOUBLED_DIGITS.getD j 0)) (by rw [hm1]; exact zrow_0 ht) (by rw [hm1]; exact zrow_0 (by omega))]
    exact ck_eq (n := 16) (t := flp 0 1 (ptR (fun j => tb_DOUBLED_DIGITS.getD j 0))) (by decide +kernel) t ht
  have e3 : f_X0_encrypt 64 (0 : Int32) (nI 14) ak' w2 = _ := c_enc (N := 64) (a := 0) (R := 14) b2 u2 (by omega) (by omega) (by omega) (by omega) hk
  have l3 := vE (hE_aes (lR kx2) (show 1 ≤ 14 by omega)) vkx2_3 l2
  obtain ⟨w3, hw3⟩ : ∃ q, q = zrow 0 16 (fun i => sB (aesE (lR kx2) 14 (fun t => flp 0 1 m1 (0 + t)) i)) w2 := ⟨_, rfl⟩
  rw [← hw3] at e3
  obtain ⟨m3, hm3⟩ : ∃ q, q = zrow 0 16 (lR [129, 174, 125, 94, 65, 56, 191, 115, 13, 42, 136, 113, 254, 194, 205, 12]) (flp 0 1 m1) := ⟨_, rfl⟩
  have b3 : RB 64 w3 m3 := by
    rw [hw3, hm3]
    rw [zrow_congr (g := fun i => sB (aesE (lR kx2) 14 (fun t => flp 0 1 m1 (0 + t)) i)) (k := fun i => sB (lR [129, 174, 125, 94, 65, 56, 191, 115, 13, 42, 136, 113, 254, 194, 205, 12] i)) (fun j hj => by rw [l3 j hj])]
    exact RB_row b2
  have u3 : isU8 m3 64 := by rw [hm3]; exact U_row u2 (uL (by decide +kernel))
  have e5 : f_X0_decrypt 64 (0 : Int32) (nI 14) ak' w3 = _ := c_dec (N := 64) (a := 0) (R := 14) b3 u3 (by omega) (by omega) (by omega) (by omega) hk
  obtain ⟨w4, hw4⟩ : ∃ q, q = zrow 0 16 (fun i => sB (aesD (lR kx2) 14 (fun t => m3 (0 + t)) i)) w3 := ⟨_, rfl⟩
  rw [← hw4] at e5
  have b4 : RB 64 w4 (zrow 0 16 (aesD (lR kx2) 14 (fun t => m3 (0 + t))) m3) := by rw [hw4]; exact RB_row b3
  have u4 : isU8 (zrow 0 16 (aesD (lR kx2) 14 (fun t => m3 (0 + t))) m3) 64 := U_row u3 (aesD_u (fun t ht => u3 _ (by omega)) kx2_u)
  obtain ⟨r, e4, g4⟩ := p_X6_stands (t := 7) (n := 2) (a := 0) (fun j => tb_AES_256_ANSWER.getD j 0) (by omega) b3 u3
  have e4' : f_X6_stands 7 (fun j => tb_AES_256_ANSWER.getD j 0) 2 (0 : Int32) w3 = some r := e4
  have ec : Int32.toNatClampNeg 0 = 0 := by decide
  have x3 : ∀ j, j < 16 → m3 (0 + j) = lR [129, 174, 125, 94, 65, 56, 191, 115, 13, 42, 136, 113, 254, 194, 205, 12] j := fun j hj => by rw [Nat.zero_add, hm3, zrow_0 hj]
  have hr : r = 0 := by
    rcases g4 with ⟨-, h⟩ | ⟨h, -⟩
    · exact absurd ((x3 0 (by omega)).symm.trans (h 0 (by omega))) (by decide +kernel)
    · exact h
  subst hr
  refine ⟨nI 14, ak', key', w4, ?_, _, b4, u4⟩
  unfold f_X6_aesRight
  rw [e1', zbE]
  dsimp only
  rw [e2, zbE, ← hw1, zk_T (by decide), zk_T (by decide), znE, ec, ← hw2, e3, zbE, e4', zbE, e5, zbE, if_pos rfl]
