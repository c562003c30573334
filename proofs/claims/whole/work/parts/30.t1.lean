/-! modes: chained blocks -/
theorem zrow_over {a n : Nat} {g h f : Nat → Int32} : zrow a n g (zrow a n h f) = zrow a n g f := by
  funext j
  by_cases hc : a ≤ j ∧ j < a + n
  · rw [zrow_in hc.1 hc.2, zrow_in hc.1 hc.2]
  · rw [zrow_out (by omega), zrow_out (by omega), zrow_out (by omega)]
theorem zrow_front {a k n : Nat} {g h G f : Nat → Int32} (hg : ∀ j, j < k → g j = G j) (hh : ∀ j, j < n → h j = G (k + j)) : zrow a k g (zrow (a + k) n h f) = zrow a (k + n) G f := by
  funext j
  rcases (show (a ≤ j ∧ j < a + k) ∨ (a + k ≤ j ∧ j < a + k + n) ∨ j < a ∨ a + k + n ≤ j by omega) with ⟨h1, h2⟩ | ⟨h1, h2⟩ | h1
  · rw [zrow_in h1 h2, zrow_in h1 (by omega), hg _ (by omega)]
  · rw [zrow_out (by omega), zrow_in h1 h2, zrow_in (by omega) (by omega), hh _ (by omega), show k + (j - (a + k)) = j - a by omega]
  · rw [zrow_out (by omega), zrow_out (by omega), zrow_out (by omega)]
theorem b_sB (x : Int32) {i : Nat} (hi : i < 8) : bt (sB x) i = bt x i := by
  have h : bt (sB x &&& 255) i = bt (x &&& 255) i := by rw [sB_and]
  rw [b_and, b_and, b_255, decide_eq_true hi, Bool.and_true, Bool.and_true] at h
  exact h
theorem sB_xor (x y : Int32) : (sB x ^^^ sB y).toInt8.toInt32 = sB (x ^^^ y) := by
  refine b_low (fun i hi => ?_)
  rw [b_xor, b_xor, b_sB x hi, b_sB y hi]
set_option maxHeartbeats 4000000 in
theorem p_X9_xorBytes {N0 N2 p q n : Nat} {c0 c2 m0 m2 : Nat → Int32} (h0 : RB N0 c0 m0) (h2 : RB N2 c2 m2) (hp : p + n ≤ N0) (hq : q + n ≤ N2) (hN : N0 ≤ 1500) (hN2 : N2 ≤ 1500) : f_X9_xorBytes N0 N2 (nI p) (nI q) (nI n) c0 c2 = some (zrow q n (fun t => sB (m2 (q + t) ^^^ m0 (p + t))) c2) := by
  unfold f_X9_xorBytes
  rw [zjE]
  refine zl_row (F := b_X9_xorBytes_3 N0 N2 (nI p) (nI q) (nI n) c0 (fun r => some r)) (fun i f => (nI i, f)) (fun r => some r) q n (fun t => sB (m2 (q + t) ^^^ m0 (p + t))) c2 (by omega) ?_ ?_
  · intro self f
    simp only [b_X9_xorBytes_3]
    exact if_pos (nI_le (Nat.le_refl _) (by omega))
  · intro self i f hi hf
    have e : f (q + i) = sB (m2 (q + i)) := (hf _ (by omega)).trans (h2 _ (by omega))
    have e0 : c0 (p + i) = sB (m0 (p + i)) := h0 _ (by omega)
    simp (disch := omega) only [b_X9_xorBytes_3, zle, if_neg, nI_add, zCl, zki, zki2, znE, zA, zlt2, e, e0, sB_xor]
    rw [show vp_nar .byte (sB (m2 (q + i) ^^^ m0 (p + i))) = sB (m2 (q + i) ^^^ m0 (p + i)) from pk_vb _]
set_option maxHeartbeats 4000000 in
theorem p_X9_xorSelf {N p q n : Nat} {c m : Nat → Int32} (h : RB N c m) (hp : p + n ≤ q) (hq : q + n ≤ N) (hN : N ≤ 1500) : f_X9_xorBytes_2a0 N (nI p) (nI q) (nI n) c = some (zrow q n (fun t => sB (m (q + t) ^^^ m (p + t))) c) := by
  unfold f_X9_xorBytes_2a0
  rw [zjE]
  refine zl_row (F := b_X9_xorBytes_2a0_3 N (nI p) (nI q) (nI n) (fun r => some r)) (fun i f => (nI i, f)) (fun r => some r) q n (fun t => sB (m (q + t) ^^^ m (p + t))) c (by omega) ?_ ?_
  · intro self f
    simp only [b_X9_xorBytes_2a0_3]
    exact if_pos (nI_le (Nat.le_refl _) (by omega))
  · intro self i f hi hf
    have e : f (q + i) = sB (m (q + i)) := (hf _ (by omega)).trans (h _ (by omega))
    have e0 : f (p + i) = sB (m (p + i)) := (hf _ (by omega)).trans (h _ (by omega))
    simp (disch := omega) only [b_X9_xorBytes_2a0_3, zle, if_neg, nI_add, zCl, zki, zki2, znE, zA, zlt2, e, e0, sB_xor]
    rw [show vp_nar .byte (sB (m (q + i) ^^^ m (p + i))) = sB (m (q + i) ^^^ m (p + i)) from pk_vb _]
/-- one block that is chained to the one before it -/
def cbS (E : (Nat → Int32) → Nat → Int32) (a i : Nat) (m : Nat → Int32) : Nat → Int32 := zrow (a + 16 * (i + 1)) 16 (E (fun t => m (a + 16 * (i + 1) + t) ^^^ m (a + 16 * i + t))) m
theorem cbS_u {E : (Nat → Int32) → Nat → Int32} (hE : ∀ s, isU8 s 16 → isU8 (E s) 16) {N a : Nat} {m : Nat → Int32} (u : isU8 m N) : ∀ k, a + 16 * (k + 1) ≤ N → isU8 (zis (cbS E a) m k) N
  | 0, _ => u
  | k + 1, hk => U_row (cbS_u hE u k (by omega)) (hE _ (fun t ht => xorU (cbS_u hE u k (by omega) _ (by omega)) (cbS_u hE u k (by omega) _ (by omega))))
theorem cbS_hi {E : (Nat → Int32) → Nat → Int32} {a : Nat} {m : Nat → Int32} : ∀ k x, a + 16 * (k + 1) ≤ x → zis (cbS E a) m k x = m x
  | 0, _, _ => rfl
  | k + 1, x, hx => (zrow_out (by omega)).trans (cbS_hi k x (by omega))
set_option maxHeartbeats 4000000 in
theorem p_X4_cbcSeal {N a k R : Nat} {keys rk c m : Nat → Int32} (h : RB N c m) (u : isU8 m N) (ha : a + 16 * (k + 1) ≤ N) (hN : N ≤ 1500) (h1 : 1 ≤ R) (hR : R ≤ 14) (hk : ∀ t, t < 16 * (R + 1) → kB keys t = rk t) (uk : isU8 rk (16 * (R + 1))) :
    ∃ c', f_X4_cbcSeal N (nI a) (nI (16 * (k + 1))) (nI R) keys c = some c' ∧ RB N c' (zis (cbS (aesE rk R) a) m k) := by
  unfold f_X4_cbcSeal
  rw [zjE]
  refine zl_up (F := b_X4_cbcSeal_4 N (nI a) (nI (16 * (k + 1))) (nI R) keys _) (fun i (s : Nat → Int32) => (nI (16 * (i + 1)), s)) (fun i s => RB N s (zis (cbS (aesE rk R) a) m i)) 0 k c (fun o => ∃ c', o = some c' ∧ RB N c' (zis (cbS (aesE rk R) a) m k)) (by omega) (by omega) h ?_ ?_
  · intro self s hs
    simp only [b_X4_cbcSeal_4]
    rw [if_pos (nI_le (Nat.le_refl _) (by omega))]
    exact ⟨_, rfl, hs⟩
  · intro self i s _ hi hs
    obtain ⟨mi, hmi⟩ : ∃ q, q = zis (cbS (aesE rk R) a) m i := ⟨_, rfl⟩
    have ui : isU8 mi N := by rw [hmi]; exact cbS_u (fun s hs => aesE_u hs h1 uk) u i (by omega)
    rw [← hmi] at hs
    have e1 : f_X9_xorBytes_2a0 N (nI (a + 16 * i)) (nI (a + 16 * (i + 1))) 16 s = some (zrow (a + 16 * (i + 1)) 16 (fun t => sB (mi (a + 16 * (i + 1) + t) ^^^ mi (a + 16 * i + t))) s) := p_X9_xorSelf (n := 16) hs (by omega) (by omega) hN
    have hr : RB N (zrow (a + 16 * (i + 1)) 16 (fun t => sB (mi (a + 16 * (i + 1) + t) ^^^ mi (a + 16 * i + t))) s) (zrow (a + 16 * (i + 1)) 16 (fun t => mi (a + 16 * (i + 1) + t) ^^^ mi (a + 16 * i + t)) mi) := RB_row hs
    have e2 := c_enc hr (U_row ui (fun t ht => xorU (ui _ (by omega)) (ui _ (by omega)))) (a := a + 16 * (i + 1)) (by omega) (by omega) h1 hR hk
    rw [zrow_over] at e2
    refine ⟨zrow (a + 16 * (i + 1)) 16 (fun j => sB (aesE rk R (fun t => mi (a + 16 * (i + 1) + t) ^^^ mi (a + 16 * i + t)) j)) s, by rw [show zis (cbS (aesE rk R) a) m (i + 1) = cbS (aesE rk R) a i mi by rw [hmi]; rfl]; exact RB_row hs, ?_⟩
    simp only [b_X4_cbcSeal_4]
    rw [if_neg (nI_ge (by omega) (by omega)), nI_add, zS (by omega), show a + 16 * (i + 1) - 16 = a + 16 * i by omega, e1, zbE, e2, zbE, zA]
    refine congrArg self ?_
    refine congrArg (fun q => (nI (16 * (i + 1 + 1)), q)) (zrow_congr (fun j hj => ?_))
    rw [aesE_c (t := fun t => mi (a + 16 * (i + 1) + t) ^^^ mi (a + 16 * i + t)) (fun t ht => zrow_in (by omega) (by omega) |>.trans (by rw [show a + 16 * (i + 1) + t - (a + 16 * (i + 1)) = t by omega])) h1 (fun _ _ => rfl) j hj]
/-- a place of a row that is opened in a chain -/
def cbO (D : (Nat → Int32) → Nat → Int32) (a : Nat) (m : Nat → Int32) (o : Nat) : Int32 := D (fun u => m (a + 16 * (o / 16) + u)) (o % 16) ^^^ m (a + o - 16)
theorem zM16 {m : Nat} (h : 16 ≤ m) : nI m + (-16 : Int32) = nI (m - 16) := by
  obtain ⟨q, rfl⟩ : ∃ q, m = q + 16 := ⟨m - 16, by omega⟩
  rw [Nat.add_sub_cancel, ← nI_add q 16, Int32.add_assoc]
  rw [show nI 16 + (-16 : Int32) = 0 by decide, Int32.add_zero]
set_option maxHeartbeats 4000000 in
theorem p_X4_cbcOpen {N a k R : Nat} {keys rk c m : Nat → Int32} (h : RB N c m) (u : isU8 m N) (ha : a + 16 * (k + 1) ≤ N) (hN : N ≤ 1500) (h1 : 1 ≤ R) (hR : R ≤ 14) (hk : ∀ t, t < 16 * (R + 1) → kB keys t = rk t) (uk : isU8 rk (16 * (R + 1))) :
    ∃ c', f_X4_cbcOpen N (nI a) (nI (16 * (k + 1))) (nI R) keys c = some c' ∧ RB N c' (zrow (a + 16) (16 * k) (fun t => cbO (aesD rk R) a m (16 + t)) m) := by
  unfold f_X4_cbcOpen
  rw [zS (by omega), znE, zjE, show 16 * (k + 1) - 16 = 16 * (k - 0) by omega]
  refine zl_up (F := b_X4_cbcOpen_6 N (nI a) (nI R) keys _) (fun j (s : Nat → Int32) => (nI (16 * (k - j)), s)) (fun j s => RB N s (zrow (a + 16 * (k - j + 1)) (16 * j) (fun t => cbO (aesD rk R) a m (16 * (k - j + 1) + t)) m)) 0 k c (fun o => ∃ c', o = some c' ∧ RB N c' (zrow (a + 16) (16 * k) (fun t => cbO (aesD rk R) a m (16 + t)) m)) (by omega) (by omega) (by rw [Nat.mul_zero, zrow_n0]; exact h) ?_ ?_
  · intro self s hs
    simp only [b_X4_cbcOpen_6]
    rw [Nat.sub_self] at hs ⊢
    rw [if_pos (by decide)]
    exact ⟨_, rfl, hs⟩
  · intro self j s _ hj hs
    obtain ⟨r, hr⟩ : ∃ r, k - j = r + 1 := ⟨k - j - 1, by omega⟩
    have hr2 : k - (j + 1) = r := by omega
    rw [hr] at hs ⊢
    rw [hr2]
    obtain ⟨mj, hmj⟩ : ∃ q, q = zrow (a + 16 * (r + 1 + 1)) (16 * j) (fun t => cbO (aesD rk R) a m (16 * (r + 1 + 1) + t)) m := ⟨_, rfl⟩
    rw [← hmj] at hs
    have lo : ∀ x, x < a + 16 * (r + 1 + 1) → mj x = m x := fun x hx => by rw [hmj]; exact zrow_out (by omega)
    have uj : isU8 mj N := by
      rw [hmj]
      refine U_row u (fun t ht => ?_)
      exact xorU (aesD_u (fun v hv => u _ (by omega)) uk _ (by omega)) (u _ (by omega))
    have e1 := c_dec hs uj (a := a + 16 * (r + 1)) (by omega) (by omega) h1 hR hk
    obtain ⟨Dm, hD⟩ : ∃ q, q = aesD rk R (fun t => mj (a + 16 * (r + 1) + t)) := ⟨_, rfl⟩
    rw [← hD] at e1
    have uD : isU8 Dm 16 := by rw [hD]; exact aesD_u (fun v hv => uj _ (by omega)) uk
    have hr1 : RB N (zrow (a + 16 * (r + 1)) 16 (fun i => sB (Dm i)) s) (zrow (a + 16 * (r + 1)) 16 Dm mj) := RB_row hs
    have e2 := p_X9_xorSelf (p := a + 16 * r) (q := a + 16 * (r + 1)) (n := 16) hr1 (by omega) (by omega) hN
    rw [zrow_over] at e2
    refine ⟨zrow (a + 16 * (r + 1)) 16 (fun t => sB (zrow (a + 16 * (r + 1)) 16 Dm mj (a + 16 * (r + 1) + t) ^^^ zrow (a + 16 * (r + 1)) 16 Dm mj (a + 16 * r + t))) s, ?_, ?_⟩
    · have ef : zrow (a + 16 * (r + 1)) 16 (fun t => zrow (a + 16 * (r + 1)) 16 Dm mj (a + 16 * (r + 1) + t) ^^^ zrow (a + 16 * (r + 1)) 16 Dm mj (a + 16 * r + t)) mj = zrow (a + 16 * (r + 1)) (16 * (j + 1)) (fun t => cbO (aesD rk R) a m (16 * (r + 1) + t)) m := by
        rw [show 16 * (j + 1) = 16 + 16 * j by omega, hmj, show a + 16 * (r + 1 + 1) = a + 16 * (r + 1) + 16 by omega]
        refine zrow_front (fun t ht => ?_) (fun t ht => by rw [show 16 * (r + 1 + 1) + t = 16 * (r + 1) + (16 + t) by omega])
        rw [← show a + 16 * (r + 1 + 1) = a + 16 * (r + 1) + 16 by omega, ← hmj, zrow_in (by omega) (by omega), zrow_out (by omega), lo _ (by omega), show a + 16 * (r + 1) + t - (a + 16 * (r + 1)) = t by omega, hD]
        unfold cbO
        rw [show (16 * (r + 1) + t) / 16 = r + 1 by omega, show (16 * (r + 1) + t) % 16 = t by omega, show a + (16 * (r + 1) + t) - 16 = a + 16 * r + t by omega, aesD_c (t := fun u => m (a + 16 * (r + 1) + u)) (fun v hv => lo _ (by omega)) (fun _ _ => rfl) t ht]
      rw [← ef]
      exact RB_row hs
    · simp only [b_X4_cbcOpen_6]
      have e2' : f_X9_xorBytes_2a0 N (nI (a + 16 * r)) (nI (a + 16 * (r + 1))) 16 (zrow (a + 16 * (r + 1)) 16 (fun i => sB (Dm i)) s) = some (zrow (a + 16 * (r + 1)) 16 (fun t => sB (zrow (a + 16 * (r + 1)) 16 Dm mj (a + 16 * (r + 1) + t) ^^^ zrow (a + 16 * (r + 1)) 16 Dm mj (a + 16 * r + t))) s) := e2
      rw [if_neg (nI_nle (by omega) (by omega)), nI_add, e1, zbE, zS (by omega), show a + 16 * (r + 1) - 16 = a + 16 * r by omega, e2', zbE, zM16 (by omega), show 16 * (r + 1) - 16 = 16 * r by omega]
