/-! modes in the model: chained blocks -/
theorem l_chain3 {a n : Nat} (bu re : Nat → Int32) (K : (Nat → Int32) → Option (Int32 × (Nat → Int32) × (Nat → Int32) × (Nat → Int32) × (Nat → Int32))) (h : a + n ≤ 512) : zl (b_X10_chain_3 (nI a) (nI n) bu K) zF ((0 : Int32), re) = K (zrow 0 n (fun t => bu (a + t)) re) := by
  refine zl_cpy (F := b_X10_chain_3 (nI a) (nI n) bu K) 0 n (fun t => bu (a + t)) re K (by omega) ?_ ?_
  · intro self f
    simp only [b_X10_chain_3]
    exact if_pos (nI_le (Nat.le_refl _) (by omega))
  · intro self i f hi
    simp (disch := omega) only [b_X10_chain_3, zle, if_neg, nI_add, zCl, zki, zki2, znE, zA, Nat.zero_add, zlt2]
theorem l_chain44s {sl : Int32} {a p : Nat} (re bu bl : Nat → Int32) (K : (Nat → Int32) → Option (Int32 × (Nat → Int32) × (Nat → Int32) × (Nat → Int32) × (Nat → Int32))) (hs : ¬ sl = 0) (hp : 16 ≤ p) (h : a + p + 16 ≤ 512) : zl (b_X10_chain_44 sl (nI a) re (nI p) bu K) zF ((0 : Int32), bl) = K (zrow 0 16 (fun t => re (p + t) ^^^ bu (a + p + t - 16)) bl) := by
  have h0 : (sl = 0) = False := eq_false hs
  refine zl_cpy (F := b_X10_chain_44 sl (nI a) re (nI p) bu K) 0 16 (fun t => re (p + t) ^^^ bu (a + p + t - 16)) bl K (by omega) ?_ ?_
  · intro self f
    simp only [b_X10_chain_44]
    exact if_pos (by decide)
  · intro self i f hi
    simp (disch := omega) only [b_X10_chain_44, zle1, if_neg, h0, ite_false, nI_add, zS, zCl, zki, zki2, znE, zA, Nat.zero_add, zlt2]
theorem l_chain44o {a p : Nat} (re bu bl : Nat → Int32) (K : (Nat → Int32) → Option (Int32 × (Nat → Int32) × (Nat → Int32) × (Nat → Int32) × (Nat → Int32))) (hp : 16 ≤ p) (h : a + p + 16 ≤ 512) : zl (b_X10_chain_44 0 (nI a) re (nI p) bu K) zF ((0 : Int32), bl) = K (zrow 0 16 (fun t => re (p + t)) bl) := by
  refine zl_cpy (F := b_X10_chain_44 0 (nI a) re (nI p) bu K) 0 16 (fun t => re (p + t)) bl K (by omega) ?_ ?_
  · intro self f
    simp only [b_X10_chain_44]
    exact if_pos (by decide)
  · intro self i f hi
    simp (disch := omega) only [b_X10_chain_44, zle1, if_neg, eq_self, ite_true, nI_add, zS, zCl, zki, zki2, znE, zA, Nat.zero_add, zlt2, xor0]
theorem l_chain116s {sl : Int32} {a p : Nat} (re bl bu : Nat → Int32) (K : (Nat → Int32) → Option (Int32 × (Nat → Int32) × (Nat → Int32) × (Nat → Int32) × (Nat → Int32))) (hs : ¬ sl = 0) (h : a + p + 16 ≤ 512) : zl (b_X10_chain_116 sl (nI a) re (nI p) bl K) zF ((0 : Int32), bu) = K (zrow (a + p) 16 bl bu) := by
  have h0 : (sl = 0) = False := eq_false hs
  refine zl_cpy (F := b_X10_chain_116 sl (nI a) re (nI p) bl K) (a + p) 16 bl bu K (by omega) ?_ ?_
  · intro self f
    simp only [b_X10_chain_116]
    exact if_pos (by decide)
  · intro self i f hi
    simp (disch := omega) only [b_X10_chain_116, zle1, if_neg, h0, ite_false, nI_add, zCl, zki, zki2, znE, zA, zlt2, xor0]
theorem l_chain116o {a p : Nat} (re bl bu : Nat → Int32) (K : (Nat → Int32) → Option (Int32 × (Nat → Int32) × (Nat → Int32) × (Nat → Int32) × (Nat → Int32))) (hp : 16 ≤ p) (h : a + p + 16 ≤ 512) : zl (b_X10_chain_116 0 (nI a) re (nI p) bl K) zF ((0 : Int32), bu) = K (zrow (a + p) 16 (fun t => bl t ^^^ re (p + t - 16)) bu) := by
  refine zl_cpy (F := b_X10_chain_116 0 (nI a) re (nI p) bl K) (a + p) 16 (fun t => bl t ^^^ re (p + t - 16)) bu K (by omega) ?_ ?_
  · intro self f
    simp only [b_X10_chain_116]
    exact if_pos (by decide)
  · intro self i f hi
    simp (disch := omega) only [b_X10_chain_116, zle1, if_neg, eq_self, ite_true, nI_add, zS, zCl, zki, zki2, znE, zA, zlt2]
set_option maxHeartbeats 4000000 in
theorem p_X10_chainS {sl : Int32} {a k R : Nat} {bx bk rk mb m : Nat → Int32} (bl o re : Nat → Int32) (hsl : ¬ sl = 0) (hm : eqN 512 mb m) (u : isU8 m 512) (ha : a + 16 * (k + 1) ≤ 512) (hbx : ∀ k, k < 256 → bx k = tb_BOX.getD k 0) (hk : isU8 rk (16 * (R + 1))) (h1 : 1 ≤ R) (hR : R ≤ 14) :
    ∃ bl' mb' o' re', f_X10_chain sl (nI a) (nI (16 * (k + 1))) (nI R) bk bl bx mb o re rk = some (nI (16 * (k + 1)), bl', mb', o', re') ∧ eqN 512 mb' (zis (cbS (aesE rk R) a) m k) := by
  unfold f_X10_chain
  rw [zjE, l_chain3 _ _ _ ha, zjE]
  obtain ⟨re1, hre⟩ : ∃ q, q = zrow 0 (16 * (k + 1)) (fun t => mb (a + t)) re := ⟨_, rfl⟩
  have hre1 : ∀ t, t < 16 * (k + 1) → re1 t = m (a + t) := fun t ht => by rw [hre, zrow_0 ht]; exact hm _ (by omega)
  rw [← hre]
  refine zl_up (F := b_X10_chain_35 sl (nI a) (nI (16 * (k + 1))) (nI R) bk bx rk re1 _) (fun i (s : (Nat → Int32) × (Nat → Int32) × (Nat → Int32)) => (nI (16 * (i + 1)), s.1, s.2.1, s.2.2)) (fun i s => eqN 512 s.2.1 (zis (cbS (aesE rk R) a) m i)) 0 k (bl, mb, o) (fun q => ∃ bl' mb' o' re', q = some (nI (16 * (k + 1)), bl', mb', o', re') ∧ eqN 512 mb' (zis (cbS (aesE rk R) a) m k)) (by omega) (by omega) hm ?_ ?_
  · intro self s hs
    obtain ⟨bl, mb, o⟩ := s
    simp only [b_X10_chain_35]
    rw [if_pos (nI_le (Nat.le_refl _) (by omega))]
    exact ⟨_, _, _, _, rfl, hs⟩
  · intro self i s _ hi hs
    obtain ⟨bl, mb, o⟩ := s
    have hs' : eqN 512 mb (zis (cbS (aesE rk R) a) m i) := hs
    have hu := cbS_u (fun s hs => aesE_u hs h1 hk) u i (show a + 16 * (i + 1) ≤ 512 by omega)
    have hb : eq16 (zrow 0 16 (fun t => re1 (16 * (i + 1) + t) ^^^ mb (a + 16 * (i + 1) + t - 16)) bl) (fun t => zis (cbS (aesE rk R) a) m i (a + 16 * (i + 1) + t) ^^^ zis (cbS (aesE rk R) a) m i (a + 16 * i + t)) := fun j hj => by
      show zrow 0 16 (fun t => re1 (16 * (i + 1) + t) ^^^ mb (a + 16 * (i + 1) + t - 16)) bl j = zis (cbS (aesE rk R) a) m i (a + 16 * (i + 1) + j) ^^^ zis (cbS (aesE rk R) a) m i (a + 16 * i + j)
      rw [zrow_0 hj, hre1 _ (by omega), hs' _ (by omega), cbS_hi i (a + 16 * (i + 1) + j) (by omega), show a + 16 * (i + 1) + j - 16 = a + 16 * i + j by omega, Nat.add_assoc a (16 * (i + 1)) j]
    obtain ⟨b', o', e2, g⟩ := p_X10_seal (bx := bx) o (eq16_u hb (fun t ht => xorU (hu _ (by omega)) (hu _ (by omega)))) hbx hk h1 hR
    refine ⟨(b', zrow (a + 16 * (i + 1)) 16 b' mb, o'), eqN_row hs' (fun j hj => (g j hj).trans (aesE_c hb h1 (fun _ _ => rfl) j hj)), ?_⟩
    simp only [b_X10_chain_35]
    rw [if_neg (nI_ge (by omega) (by omega)), zjE, l_chain44s _ _ _ _ hsl (by omega) (by omega), zjE, if_neg hsl, e2]
    simp only [zbE]
    rw [zjE, l_chain116s _ _ _ _ hsl (by omega), zA]
    rfl
set_option maxHeartbeats 4000000 in
theorem p_X10_chainO {a k R : Nat} {bx bk rk mb m : Nat → Int32} (bl o re : Nat → Int32) (hm : eqN 512 mb m) (u : isU8 m 512) (ha : a + 16 * (k + 1) ≤ 512) (hbk : ∀ k, k < 256 → bk k = tb_BOX_BACK.getD k 0) (hk : isU8 rk (16 * (R + 1))) (h1 : 1 ≤ R) (hR : R ≤ 14) :
    ∃ bl' mb' o' re', f_X10_chain 0 (nI a) (nI (16 * (k + 1))) (nI R) bk bl bx mb o re rk = some (nI (16 * (k + 1)), bl', mb', o', re') ∧ eqN 512 mb' (zrow (a + 16) (16 * k) (fun t => cbO (aesD rk R) a m (16 + t)) m) := by
  unfold f_X10_chain
  rw [zjE, l_chain3 _ _ _ ha, zjE]
  obtain ⟨re1, hre⟩ : ∃ q, q = zrow 0 (16 * (k + 1)) (fun t => mb (a + t)) re := ⟨_, rfl⟩
  have hre1 : ∀ t, t < 16 * (k + 1) → re1 t = m (a + t) := fun t ht => by rw [hre, zrow_0 ht]; exact hm _ (by omega)
  rw [← hre]
  refine zl_up (F := b_X10_chain_35 0 (nI a) (nI (16 * (k + 1))) (nI R) bk bx rk re1 _) (fun i (s : (Nat → Int32) × (Nat → Int32) × (Nat → Int32)) => (nI (16 * (i + 1)), s.1, s.2.1, s.2.2)) (fun i s => eqN 512 s.2.1 (zrow (a + 16) (16 * i) (fun t => cbO (aesD rk R) a m (16 + t)) m)) 0 k (bl, mb, o) (fun q => ∃ bl' mb' o' re', q = some (nI (16 * (k + 1)), bl', mb', o', re') ∧ eqN 512 mb' (zrow (a + 16) (16 * k) (fun t => cbO (aesD rk R) a m (16 + t)) m)) (by omega) (by omega) (by rw [Nat.mul_zero, zrow_n0]; exact hm) ?_ ?_
  · intro self s hs
    obtain ⟨bl, mb, o⟩ := s
    simp only [b_X10_chain_35]
    rw [if_pos (nI_le (Nat.le_refl _) (by omega))]
    exact ⟨_, _, _, _, rfl, hs⟩
  · intro self i s _ hi hs
    obtain ⟨bl, mb, o⟩ := s
    have hs' : eqN 512 mb (zrow (a + 16) (16 * i) (fun t => cbO (aesD rk R) a m (16 + t)) m) := hs
    have hb : eq16 (zrow 0 16 (fun t => re1 (16 * (i + 1) + t)) bl) (fun t => m (a + 16 * (i + 1) + t)) := fun j hj => by
      show zrow 0 16 (fun t => re1 (16 * (i + 1) + t)) bl j = m (a + 16 * (i + 1) + j)
      rw [zrow_0 hj, hre1 _ (by omega), Nat.add_assoc a (16 * (i + 1)) j]
    obtain ⟨b', o', e2, g⟩ := p_X10_unseal (bk := bk) o (eq16_u hb (fun t ht => u _ (by omega))) hbk hk h1 hR
    refine ⟨(b', zrow (a + 16 * (i + 1)) 16 (fun t => b' t ^^^ re1 (16 * (i + 1) + t - 16)) mb, o'), ?_, ?_⟩
    · have e3 : zrow (a + 16) (16 * (i + 1)) (fun t => cbO (aesD rk R) a m (16 + t)) m = zrow (a + 16 + 16 * i) 16 (fun t => cbO (aesD rk R) a m (16 + (16 * i + t))) (zrow (a + 16) (16 * i) (fun t => cbO (aesD rk R) a m (16 + t)) m) := (zrow_glue (G := fun t => cbO (aesD rk R) a m (16 + t)) (fun j _ => rfl)).symm
      show eqN 512 (zrow (a + 16 * (i + 1)) 16 (fun t => b' t ^^^ re1 (16 * (i + 1) + t - 16)) mb) _
      rw [e3, show a + 16 + 16 * i = a + 16 * (i + 1) by omega]
      refine eqN_row hs' (fun j hj => ?_)
      rw [g j hj, aesD_c hb (fun _ _ => rfl) j hj, hre1 _ (by omega)]
      unfold cbO
      rw [show (16 + (16 * i + j)) / 16 = i + 1 by omega, show (16 + (16 * i + j)) % 16 = j by omega, show a + (16 + (16 * i + j)) - 16 = a + (16 * (i + 1) + j - 16) by omega]
    · simp only [b_X10_chain_35]
      rw [if_neg (nI_ge (by omega) (by omega)), zjE, l_chain44o _ _ _ _ (by omega) (by omega), zjE, if_pos trivial, e2]
      simp only [zbE]
      rw [zjE, l_chain116o _ _ _ _ (by omega) (by omega), zA]
      rfl
