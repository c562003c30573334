/-! AES in the class -/
theorem kB_R (keys : Nat → Int32) (r c : Nat) : keys (4 * r + c) = zW (kB keys (16 * r + 4 * c)) (kB keys (16 * r + (4 * c + 1))) (kB keys (16 * r + (4 * c + 2))) (kB keys (16 * r + (4 * c + 3))) := by
  rw [kB_W keys (4 * r + c), show 4 * (4 * r + c) = 16 * r + 4 * c by omega, show 16 * r + 4 * c + 1 = 16 * r + (4 * c + 1) by omega, show 16 * r + 4 * c + 2 = 16 * r + (4 * c + 2) by omega, show 16 * r + 4 * c + 3 = 16 * r + (4 * c + 3) by omega]
/-- the four columns -/
def cl4 (s : Nat → Int32) (c : Nat) : Int32 := zW (s (4 * c)) (s (4 * c + 1)) (s (4 * c + 2)) (s (4 * c + 3))
theorem cl4_box {s : Nat → Int32} (h : isU8 s 16) {a b c d : Nat} (ha : a < 4) (hb : b < 4) (hc : c < 4) (hd : d < 4) : f_X0_boxed (cl4 s a) (cl4 s b) (cl4 s c) (cl4 s d) = some (zW (sbx (s (4 * a))) (sbx (s (4 * b + 1))) (sbx (s (4 * c + 2))) (sbx (s (4 * d + 3)))) :=
  p_X0_boxed (h _ (by omega)) (h _ (by omega)) (h _ (by omega)) (h _ (by omega)) (h _ (by omega)) (h _ (by omega)) (h _ (by omega)) (h _ (by omega)) (h _ (by omega)) (h _ (by omega)) (h _ (by omega)) (h _ (by omega)) (h _ (by omega))
theorem cl4_unbox {s : Nat → Int32} (h : isU8 s 16) {a b c d : Nat} (ha : a < 4) (hb : b < 4) (hc : c < 4) (hd : d < 4) : f_X0_unboxed (cl4 s a) (cl4 s b) (cl4 s c) (cl4 s d) = some (zW (sbk (s (4 * a))) (sbk (s (4 * b + 1))) (sbk (s (4 * c + 2))) (sbk (s (4 * d + 3)))) :=
  p_X0_unboxed (h _ (by omega)) (h _ (by omega)) (h _ (by omega)) (h _ (by omega)) (h _ (by omega)) (h _ (by omega)) (h _ (by omega)) (h _ (by omega)) (h _ (by omega)) (h _ (by omega)) (h _ (by omega)) (h _ (by omega)) (h _ (by omega))
theorem mix4 {x y z w : Int32} (keys : Nat → Int32) (r c : Nat) (hx : x &&& 255 = x) (hy : y &&& 255 = y) (hz : z &&& 255 = z) (hw : w &&& 255 = w) : zW (mx x y z w) (mx y z w x) (mx z w x y) (mx w x y z) ^^^ keys (4 * r + c) = zW (mx x y z w ^^^ kB keys (16 * r + 4 * c)) (mx y z w x ^^^ kB keys (16 * r + (4 * c + 1))) (mx z w x y ^^^ kB keys (16 * r + (4 * c + 2))) (mx w x y z ^^^ kB keys (16 * r + (4 * c + 3))) := by
  rw [kB_R keys r c, zW_xor (mx_u hy hz hw hx) (mx_u hz hw hx hy) (mx_u hw hx hy hz) (kBu _ _) (kBu _ _) (kBu _ _)]
theorem key4 {x y z w : Int32} (keys : Nat → Int32) (r c : Nat) (hy : y &&& 255 = y) (hz : z &&& 255 = z) (hw : w &&& 255 = w) : zW x y z w ^^^ keys (4 * r + c) = zW (x ^^^ kB keys (16 * r + 4 * c)) (y ^^^ kB keys (16 * r + (4 * c + 1))) (z ^^^ kB keys (16 * r + (4 * c + 2))) (w ^^^ kB keys (16 * r + (4 * c + 3))) := by
  rw [kB_R keys r c, zW_xor hy hz hw (kBu _ _) (kBu _ _) (kBu _ _)]
def pc4 (s : Nat → Int32) (r : Nat) : Int32 × Int32 × Int32 × Int32 × Int32 := (cl4 s 0, cl4 s 1, cl4 s 2, cl4 s 3, nI (4 * r))
set_option maxHeartbeats 4000000 in
theorem p_enc_step {R r : Nat} (keys s : Nat → Int32) (K : Int32 → Int32 → Int32 → Int32 → Option (Nat → Int32)) (self : Int32 × Int32 × Int32 × Int32 × Int32 → Option (Nat → Int32)) (hs : isU8 s 16) (hr : r < R) (hR : R ≤ 14) :
    b_X0_encrypt_74 keys (nI (4 * R)) K self (pc4 s r) = self (pc4 (ark (amix (asub s)) (kB keys) r) (r + 1)) := by
  have u := asub_u hs
  have u0 := u 0 (by omega)
  have u1 := u 1 (by omega)
  have u2 := u 2 (by omega)
  have u3 := u 3 (by omega)
  have u4 := u 4 (by omega)
  have u5 := u 5 (by omega)
  have u6 := u 6 (by omega)
  have u7 := u 7 (by omega)
  have u8 := u 8 (by omega)
  have u9 := u 9 (by omega)
  have u10 := u 10 (by omega)
  have u11 := u 11 (by omega)
  have u12 := u 12 (by omega)
  have u13 := u 13 (by omega)
  have u14 := u 14 (by omega)
  have u15 := u 15 (by omega)
  have b0 := cl4_box hs (a := 0) (b := 1) (c := 2) (d := 3) (by omega) (by omega) (by omega) (by omega)
  have b1 := cl4_box hs (a := 1) (b := 2) (c := 3) (d := 0) (by omega) (by omega) (by omega) (by omega)
  have b2 := cl4_box hs (a := 2) (b := 3) (c := 0) (d := 1) (by omega) (by omega) (by omega) (by omega)
  have b3 := cl4_box hs (a := 3) (b := 0) (c := 1) (d := 2) (by omega) (by omega) (by omega) (by omega)
  have b0' : f_X0_boxed (cl4 s 0) (cl4 s 1) (cl4 s 2) (cl4 s 3) = some (zW (asub s 0) (asub s 1) (asub s 2) (asub s 3)) := b0
  have b1' : f_X0_boxed (cl4 s 1) (cl4 s 2) (cl4 s 3) (cl4 s 0) = some (zW (asub s 4) (asub s 5) (asub s 6) (asub s 7)) := b1
  have b2' : f_X0_boxed (cl4 s 2) (cl4 s 3) (cl4 s 0) (cl4 s 1) = some (zW (asub s 8) (asub s 9) (asub s 10) (asub s 11)) := b2
  have b3' : f_X0_boxed (cl4 s 3) (cl4 s 0) (cl4 s 1) (cl4 s 2) = some (zW (asub s 12) (asub s 13) (asub s 14) (asub s 15)) := b3
  simp only [b_X0_encrypt_74, pc4]
  refine (if_neg (nI_ge (a := 4 * r) (b := 4 * R) (by omega) (by omega))).trans ?_
  simp only [b0', b1', b2', b3', zbE, p_X0_mixed u0 u1 u2 u3, p_X0_mixed u4 u5 u6 u7, p_X0_mixed u8 u9 u10 u11, p_X0_mixed u12 u13 u14 u15]
  simp (disch := omega) only [zA, zCl, zki, znE]
  have k0 := mix4 keys r 0 u0 u1 u2 u3
  rw [Nat.add_zero] at k0
  rw [k0, mix4 keys r 1 u4 u5 u6 u7, mix4 keys r 2 u8 u9 u10 u11, mix4 keys r 3 u12 u13 u14 u15]
  rfl
theorem upd_row16 {a : Nat} {f : Nat → Int32} {v0 v1 v2 v3 : Int32} {G : Nat → Int32} (h0 : ∀ j, j < 4 → sB (wB v0 j) = G j) (h1 : ∀ j, j < 4 → sB (wB v1 j) = G (4 + j)) (h2 : ∀ j, j < 4 → sB (wB v2 j) = G (8 + j)) (h3 : ∀ j, j < 4 → sB (wB v3 j) = G (12 + j)) :
    zrow (a + 12) 4 (fun j => sB (wB v3 j)) (zrow (a + 8) 4 (fun j => sB (wB v2 j)) (zrow (a + 4) 4 (fun j => sB (wB v1 j)) (zrow a 4 (fun j => sB (wB v0 j)) f))) = zrow a 16 G f := by
  rw [zrow_congr (a := a) (k := G) h0, zrow_glue (a := a) (m := 4) (G := G) h1, zrow_glue (a := a) (m := 4 + 4) (G := G) h2, zrow_glue (a := a) (m := 4 + 4 + 4) (G := G) h3]
theorem wB4 {x y z w : Int32} (hx : x &&& 255 = x) (hy : y &&& 255 = y) (hz : z &&& 255 = z) (hw : w &&& 255 = w) {G : Nat → Int32} {m : Nat} (g0 : G m = sB x) (g1 : G (m + 1) = sB y) (g2 : G (m + 2) = sB z) (g3 : G (m + 3) = sB w) : ∀ j, j < 4 → sB (wB (zW x y z w) j) = G (m + j) := by
  obtain ⟨e0, e1, e2, e3⟩ := wB_zW hx hy hz hw
  intro j hj
  rcases (show j = 0 ∨ j = 1 ∨ j = 2 ∨ j = 3 by omega) with rfl | rfl | rfl | rfl
  · rw [e0, Nat.add_zero, g0]
  · rw [e1, g1]
  · rw [e2, g2]
  · rw [e3, g3]
set_option maxHeartbeats 4000000 in
theorem p_X0_encrypt {N a R : Nat} (keys ca : Nat → Int32) (hN : a + 16 ≤ N) (hN2 : N < 2 ^ 30) (h1 : 1 ≤ R) (hR : R ≤ 14) : f_X0_encrypt N (nI a) (nI R) keys ca = some (zrow a 16 (fun i => sB (aesE (kB keys) R (fun i => ca (a + i) &&& 255) i)) ca) := by
  have us : isU8 (fun i => ca (a + i) &&& 255) 16 := fun i _ => and255 _
  have e0 : zW (ca a &&& 255) (ca (a + 1) &&& 255) (ca (a + 2) &&& 255) (ca (a + 3) &&& 255) ^^^ keys 0 = cl4 (aesS (kB keys) (fun i => ca (a + i) &&& 255) 0) 0 := key4 keys 0 0 (and255 _) (and255 _) (and255 _)
  have e1 : zW (ca (a + 4) &&& 255) (ca (a + 4 + 1) &&& 255) (ca (a + 4 + 2) &&& 255) (ca (a + 4 + 3) &&& 255) ^^^ keys 1 = cl4 (aesS (kB keys) (fun i => ca (a + i) &&& 255) 0) 1 := key4 keys 0 1 (and255 _) (and255 _) (and255 _)
  have e2 : zW (ca (a + 8) &&& 255) (ca (a + 8 + 1) &&& 255) (ca (a + 8 + 2) &&& 255) (ca (a + 8 + 3) &&& 255) ^^^ keys 2 = cl4 (aesS (kB keys) (fun i => ca (a + i) &&& 255) 0) 2 := key4 keys 0 2 (and255 _) (and255 _) (and255 _)
  have e3 : zW (ca (a + 12) &&& 255) (ca (a + 12 + 1) &&& 255) (ca (a + 12 + 2) &&& 255) (ca (a + 12 + 3) &&& 255) ^^^ keys 3 = cl4 (aesS (kB keys) (fun i => ca (a + i) &&& 255) 0) 3 := key4 keys 0 3 (and255 _) (and255 _) (and255 _)
  unfold f_X0_encrypt
  simp (disch := omega) only [zA, p_X9_intAt, zbE, zClk, zkk, znE, zM, e0, e1, e2, e3]
  rw [zjE]
  refine zl_up (F := b_X0_encrypt_74 keys (nI (4 * R)) _) (fun r s => pc4 s r) (fun r s => s = aesS (kB keys) (fun i => ca (a + i) &&& 255) (r - 1)) 1 R (aesS (kB keys) (fun i => ca (a + i) &&& 255) 0) (fun o => o = some (zrow a 16 (fun i => sB (aesE (kB keys) R (fun i => ca (a + i) &&& 255) i)) ca)) (by omega) h1 rfl ?_ ?_
  · intro self s hs
    subst hs
    obtain ⟨s, hs⟩ : ∃ q, q = aesS (kB keys) (fun i => ca (a + i) &&& 255) (R - 1) := ⟨_, rfl⟩
    have hsu : isU8 s 16 := by rw [hs]; exact aesS_u us _ (kB_u _ _)
    have hE : aesE (kB keys) R (fun i => ca (a + i) &&& 255) = ark (asub s) (kB keys) R := by rw [hs]; rfl
    rw [hE, ← hs]
    have b0' : f_X0_boxed (cl4 s 0) (cl4 s 1) (cl4 s 2) (cl4 s 3) = some (zW (asub s 0) (asub s 1) (asub s 2) (asub s 3)) := cl4_box hsu (a := 0) (b := 1) (c := 2) (d := 3) (by omega) (by omega) (by omega) (by omega)
    have b1' : f_X0_boxed (cl4 s 1) (cl4 s 2) (cl4 s 3) (cl4 s 0) = some (zW (asub s 4) (asub s 5) (asub s 6) (asub s 7)) := cl4_box hsu (a := 1) (b := 2) (c := 3) (d := 0) (by omega) (by omega) (by omega) (by omega)
    have b2' : f_X0_boxed (cl4 s 2) (cl4 s 3) (cl4 s 0) (cl4 s 1) = some (zW (asub s 8) (asub s 9) (asub s 10) (asub s 11)) := cl4_box hsu (a := 2) (b := 3) (c := 0) (d := 1) (by omega) (by omega) (by omega) (by omega)
    have b3' : f_X0_boxed (cl4 s 3) (cl4 s 0) (cl4 s 1) (cl4 s 2) = some (zW (asub s 12) (asub s 13) (asub s 14) (asub s 15)) := cl4_box hsu (a := 3) (b := 0) (c := 1) (d := 2) (by omega) (by omega) (by omega) (by omega)
    have u := asub_u hsu
    have k0 := key4 (x := asub s 0) keys R 0 (u 1 (by omega)) (u 2 (by omega)) (u 3 (by omega))
    have k1 := key4 (x := asub s 4) keys R 1 (u 5 (by omega)) (u 6 (by omega)) (u 7 (by omega))
    have k2 := key4 (x := asub s 8) keys R 2 (u 9 (by omega)) (u 10 (by omega)) (u 11 (by omega))
    have k3 := key4 (x := asub s 12) keys R 3 (u 13 (by omega)) (u 14 (by omega)) (u 15 (by omega))
    rw [Nat.add_zero] at k0
    have ua := ark_u (r := R) u (kB_u keys _)
    simp only [b_X0_encrypt_74, pc4]
    refine (if_pos (nI_le (Nat.le_refl _) (by omega))).trans ?_
    simp (disch := omega) only [b0', b1', b2', b3', zbE, zA, zCl, zki, k0, k1, k2, k3, p_X9_putInt]
    refine congrArg some (upd_row16 ?_ ?_ ?_ ?_)
    · intro j hj
      have := wB4 (ua 0 (by omega)) (ua 1 (by omega)) (ua 2 (by omega)) (ua 3 (by omega)) (G := fun i => sB (ark (asub s) (kB keys) R i)) (m := 0) rfl rfl rfl rfl j hj
      rw [Nat.zero_add] at this
      exact this
    · exact wB4 (ua 4 (by omega)) (ua 5 (by omega)) (ua 6 (by omega)) (ua 7 (by omega)) (G := fun i => sB (ark (asub s) (kB keys) R i)) (m := 4) rfl rfl rfl rfl
    · exact wB4 (ua 8 (by omega)) (ua 9 (by omega)) (ua 10 (by omega)) (ua 11 (by omega)) (G := fun i => sB (ark (asub s) (kB keys) R i)) (m := 8) rfl rfl rfl rfl
    · exact wB4 (ua 12 (by omega)) (ua 13 (by omega)) (ua 14 (by omega)) (ua 15 (by omega)) (G := fun i => sB (ark (asub s) (kB keys) R i)) (m := 12) rfl rfl rfl rfl
  · intro self r s hr1 hr2 hs
    refine ⟨ark (amix (asub s)) (kB keys) r, ?_, p_enc_step keys s _ self (by rw [hs]; exact aesS_u us _ (kB_u _ _)) hr2 hR⟩
    obtain ⟨q, rfl⟩ : ∃ q, r = q + 1 := ⟨r - 1, by omega⟩
    rw [hs]
    rfl
