/-! AES in the class: a block, opened -/
theorem zM4 {m : Nat} (h : 4 ≤ m) : nI m + (-4 : Int32) = nI (m - 4) := by
  obtain ⟨q, rfl⟩ : ∃ q, m = q + 4 := ⟨m - 4, by omega⟩
  rw [Nat.add_sub_cancel, ← nI_add q 4, Int32.add_assoc]
  rw [show nI 4 + (-4 : Int32) = 0 by decide, Int32.add_zero]
theorem umix4 {x y z w : Int32} (keys : Nat → Int32) (r c : Nat) (hx : x &&& 255 = x) (hy : y &&& 255 = y) (hz : z &&& 255 = z) (hw : w &&& 255 = w) : f_X0_unmixed (zW x y z w ^^^ keys (4 * r + c)) = some (zW (umx (x ^^^ kB keys (16 * r + 4 * c)) (y ^^^ kB keys (16 * r + (4 * c + 1))) (z ^^^ kB keys (16 * r + (4 * c + 2))) (w ^^^ kB keys (16 * r + (4 * c + 3)))) (umx (y ^^^ kB keys (16 * r + (4 * c + 1))) (z ^^^ kB keys (16 * r + (4 * c + 2))) (w ^^^ kB keys (16 * r + (4 * c + 3))) (x ^^^ kB keys (16 * r + 4 * c))) (umx (z ^^^ kB keys (16 * r + (4 * c + 2))) (w ^^^ kB keys (16 * r + (4 * c + 3))) (x ^^^ kB keys (16 * r + 4 * c)) (y ^^^ kB keys (16 * r + (4 * c + 1)))) (umx (w ^^^ kB keys (16 * r + (4 * c + 3))) (x ^^^ kB keys (16 * r + 4 * c)) (y ^^^ kB keys (16 * r + (4 * c + 1))) (z ^^^ kB keys (16 * r + (4 * c + 2))))) := by
  rw [key4 keys r c hy hz hw]
  exact p_X0_unmixed (xorU hx (kBu _ _)) (xorU hy (kBu _ _)) (xorU hz (kBu _ _)) (xorU hw (kBu _ _))
theorem cl4_ub {s : Nat → Int32} (h : isU8 s 16) : f_X0_unboxed (cl4 s 0) (cl4 s 3) (cl4 s 2) (cl4 s 1) = some (zW (asbk s 0) (asbk s 1) (asbk s 2) (asbk s 3)) ∧ f_X0_unboxed (cl4 s 1) (cl4 s 0) (cl4 s 3) (cl4 s 2) = some (zW (asbk s 4) (asbk s 5) (asbk s 6) (asbk s 7)) ∧ f_X0_unboxed (cl4 s 2) (cl4 s 1) (cl4 s 0) (cl4 s 3) = some (zW (asbk s 8) (asbk s 9) (asbk s 10) (asbk s 11)) ∧ f_X0_unboxed (cl4 s 3) (cl4 s 2) (cl4 s 1) (cl4 s 0) = some (zW (asbk s 12) (asbk s 13) (asbk s 14) (asbk s 15)) :=
  ⟨cl4_unbox h (a := 0) (b := 3) (c := 2) (d := 1) (by omega) (by omega) (by omega) (by omega), cl4_unbox h (a := 1) (b := 0) (c := 3) (d := 2) (by omega) (by omega) (by omega) (by omega), cl4_unbox h (a := 2) (b := 1) (c := 0) (d := 3) (by omega) (by omega) (by omega) (by omega), cl4_unbox h (a := 3) (b := 2) (c := 1) (d := 0) (by omega) (by omega) (by omega) (by omega)⟩
set_option maxHeartbeats 4000000 in
theorem p_dec_step {r : Nat} (keys s : Nat → Int32) (K : Int32 → Int32 → Int32 → Int32 → Option (Nat → Int32)) (self : Int32 × Int32 × Int32 × Int32 × Int32 → Option (Nat → Int32)) (hs : isU8 s 16) (hr : 1 ≤ r) (hR : r ≤ 13) :
    b_X0_decrypt_82 keys K self (pc4 s r) = self (pc4 (aumx (ark (asbk s) (kB keys) r)) (r - 1)) := by
  obtain ⟨b0, b1, b2, b3⟩ := cl4_ub hs
  have u := asbk_u hs
  have m0 := umix4 keys r 0 (u 0 (by omega)) (u 1 (by omega)) (u 2 (by omega)) (u 3 (by omega))
  have m1 := umix4 keys r 1 (u 4 (by omega)) (u 5 (by omega)) (u 6 (by omega)) (u 7 (by omega))
  have m2 := umix4 keys r 2 (u 8 (by omega)) (u 9 (by omega)) (u 10 (by omega)) (u 11 (by omega))
  have m3 := umix4 keys r 3 (u 12 (by omega)) (u 13 (by omega)) (u 14 (by omega)) (u 15 (by omega))
  rw [Nat.add_zero] at m0
  simp only [b_X0_decrypt_82, pc4]
  refine (if_neg (nI_nle (n := 4 * r) (by omega) (by omega))).trans ?_
  rw [zM4 (by omega), show 4 * r - 4 = 4 * (r - 1) by omega]
  simp (disch := omega) only [b0, b1, b2, b3, zbE, zA, zCl, zki, m0, m1, m2, m3]
  rfl
set_option maxHeartbeats 4000000 in
theorem p_X0_decrypt {N a R : Nat} (keys ca : Nat → Int32) (hN : a + 16 ≤ N) (hN2 : N < 2 ^ 30) (h1 : 1 ≤ R) (hR : R ≤ 14) : f_X0_decrypt N (nI a) (nI R) keys ca = some (zrow a 16 (fun i => sB (aesD (kB keys) R (fun i => ca (a + i) &&& 255) i)) ca) := by
  have us : isU8 (fun i => ca (a + i) &&& 255) 16 := fun i _ => and255 _
  have e0 : zW (ca a &&& 255) (ca (a + 1) &&& 255) (ca (a + 2) &&& 255) (ca (a + 3) &&& 255) ^^^ keys (4 * R) = cl4 (aesT (kB keys) R (fun i => ca (a + i) &&& 255) 0) 0 := key4 keys R 0 (and255 _) (and255 _) (and255 _)
  have e1 : zW (ca (a + 4) &&& 255) (ca (a + 4 + 1) &&& 255) (ca (a + 4 + 2) &&& 255) (ca (a + 4 + 3) &&& 255) ^^^ keys (4 * R + 1) = cl4 (aesT (kB keys) R (fun i => ca (a + i) &&& 255) 0) 1 := key4 keys R 1 (and255 _) (and255 _) (and255 _)
  have e2 : zW (ca (a + 8) &&& 255) (ca (a + 8 + 1) &&& 255) (ca (a + 8 + 2) &&& 255) (ca (a + 8 + 3) &&& 255) ^^^ keys (4 * R + 2) = cl4 (aesT (kB keys) R (fun i => ca (a + i) &&& 255) 0) 2 := key4 keys R 2 (and255 _) (and255 _) (and255 _)
  have e3 : zW (ca (a + 12) &&& 255) (ca (a + 12 + 1) &&& 255) (ca (a + 12 + 2) &&& 255) (ca (a + 12 + 3) &&& 255) ^^^ keys (4 * R + 3) = cl4 (aesT (kB keys) R (fun i => ca (a + i) &&& 255) 0) 3 := key4 keys R 3 (and255 _) (and255 _) (and255 _)
  unfold f_X0_decrypt
  simp (disch := omega) only [zA, p_X9_intAt, zbE, zClk, zkk, znE, zM, zCl, zki, zS, e0, e1, e2, e3]
  rw [zjE, show 4 * R - 4 = 4 * (R - 1 - 0) by omega]
  refine zl_up (F := b_X0_decrypt_82 keys _) (fun j s => pc4 s (R - 1 - j)) (fun j s => s = aesT (kB keys) R (fun i => ca (a + i) &&& 255) j) 0 (R - 1) (aesT (kB keys) R (fun i => ca (a + i) &&& 255) 0) (fun o => o = some (zrow a 16 (fun i => sB (aesD (kB keys) R (fun i => ca (a + i) &&& 255) i)) ca)) (by omega) (by omega) rfl ?_ ?_
  · intro self s hs
    subst hs
    obtain ⟨s, hs⟩ : ∃ q, q = aesT (kB keys) R (fun i => ca (a + i) &&& 255) (R - 1) := ⟨_, rfl⟩
    have hsu : isU8 s 16 := by rw [hs]; exact aesT_u us (kB_u _ _) _
    have hE : aesD (kB keys) R (fun i => ca (a + i) &&& 255) = ark (asbk s) (kB keys) 0 := by rw [hs]; rfl
    rw [hE, ← hs, Nat.sub_self]
    obtain ⟨b0, b1, b2, b3⟩ := cl4_ub hsu
    have u := asbk_u hsu
    have k0 : zW (asbk s 0) (asbk s 1) (asbk s 2) (asbk s 3) ^^^ keys 0 = _ := key4 (x := asbk s 0) keys 0 0 (u 1 (by omega)) (u 2 (by omega)) (u 3 (by omega))
    have k1 : zW (asbk s 4) (asbk s 5) (asbk s 6) (asbk s 7) ^^^ keys 1 = _ := key4 (x := asbk s 4) keys 0 1 (u 5 (by omega)) (u 6 (by omega)) (u 7 (by omega))
    have k2 : zW (asbk s 8) (asbk s 9) (asbk s 10) (asbk s 11) ^^^ keys 2 = _ := key4 (x := asbk s 8) keys 0 2 (u 9 (by omega)) (u 10 (by omega)) (u 11 (by omega))
    have k3 : zW (asbk s 12) (asbk s 13) (asbk s 14) (asbk s 15) ^^^ keys 3 = _ := key4 (x := asbk s 12) keys 0 3 (u 13 (by omega)) (u 14 (by omega)) (u 15 (by omega))
    have ua := ark_u (r := 0) u (kB_u keys _)
    simp only [b_X0_decrypt_82, pc4]
    refine (if_pos (by decide)).trans ?_
    simp (disch := omega) only [b0, b1, b2, b3, zbE, zA, zClk, zkk, k0, k1, k2, k3, p_X9_putInt]
    refine congrArg some (upd_row16 ?_ ?_ ?_ ?_)
    · intro j hj
      have := wB4 (ua 0 (by omega)) (ua 1 (by omega)) (ua 2 (by omega)) (ua 3 (by omega)) (G := fun i => sB (ark (asbk s) (kB keys) 0 i)) (m := 0) rfl rfl rfl rfl j hj
      rw [Nat.zero_add] at this
      exact this
    · exact wB4 (ua 4 (by omega)) (ua 5 (by omega)) (ua 6 (by omega)) (ua 7 (by omega)) (G := fun i => sB (ark (asbk s) (kB keys) 0 i)) (m := 4) rfl rfl rfl rfl
    · exact wB4 (ua 8 (by omega)) (ua 9 (by omega)) (ua 10 (by omega)) (ua 11 (by omega)) (G := fun i => sB (ark (asbk s) (kB keys) 0 i)) (m := 8) rfl rfl rfl rfl
    · exact wB4 (ua 12 (by omega)) (ua 13 (by omega)) (ua 14 (by omega)) (ua 15 (by omega)) (G := fun i => sB (ark (asbk s) (kB keys) 0 i)) (m := 12) rfl rfl rfl rfl
  · intro self j s _ hj hs
    refine ⟨aumx (ark (asbk s) (kB keys) (R - 1 - j)), ?_, ?_⟩
    · rw [hs]
      rfl
    · refine (p_dec_step (r := R - 1 - j) keys s _ self (by rw [hs]; exact aesT_u us (kB_u _ _) _) (by omega) (by omega)).trans ?_
      rw [show R - 1 - j - 1 = R - 1 - (j + 1) by omega]
