/-! modes: block by block -/
def zis {σ : Type} (g : Nat → σ → σ) (s : σ) : Nat → σ
  | 0 => s
  | k + 1 => g k (zis g s k)
theorem RB_row {n a k : Nat} {c m g : Nat → Int32} (h : RB n c m) : RB n (zrow a k (fun j => sB (g j)) c) (zrow a k g m) := by
  intro j hj
  by_cases hc : a ≤ j ∧ j < a + k
  · rw [zrow_in hc.1 hc.2, zrow_in hc.1 hc.2]
  · rw [zrow_out (by omega), zrow_out (by omega), h j hj]
theorem U_row {n a k : Nat} {m g : Nat → Int32} (h : isU8 m n) (hg : isU8 g k) : isU8 (zrow a k g m) n := by
  intro j hj
  by_cases hc : a ≤ j ∧ j < a + k
  · rw [zrow_in hc.1 hc.2]
    exact hg _ (by omega)
  · rw [zrow_out (by omega)]
    exact h j hj
theorem eqN_row {n a k : Nat} {s t g g' : Nat → Int32} (h : eqN n s t) (hg : ∀ j, j < k → g j = g' j) : eqN n (zrow a k g s) (zrow a k g' t) := by
  intro j hj
  by_cases hc : a ≤ j ∧ j < a + k
  · rw [zrow_in hc.1 hc.2, zrow_in hc.1 hc.2, hg _ (by omega)]
  · rw [zrow_out (by omega), zrow_out (by omega), h j hj]
theorem c_enc {N a R : Nat} {keys rk c m : Nat → Int32} (h : RB N c m) (u : isU8 m N) (ha : a + 16 ≤ N) (hN : N < 2 ^ 30) (h1 : 1 ≤ R) (hR : R ≤ 14) (hk : ∀ t, t < 16 * (R + 1) → kB keys t = rk t) :
    f_X0_encrypt N (nI a) (nI R) keys c = some (zrow a 16 (fun i => sB (aesE rk R (fun t => m (a + t)) i)) c) := by
  rw [p_X0_encrypt keys c ha hN h1 hR]
  refine congrArg some (zrow_congr (fun j hj => ?_))
  rw [aesE_c (s := fun i => c (a + i) &&& 255) (t := fun t => m (a + t)) (fun i hi => RB_u h u (by omega)) h1 hk j hj]
theorem c_dec {N a R : Nat} {keys rk c m : Nat → Int32} (h : RB N c m) (u : isU8 m N) (ha : a + 16 ≤ N) (hN : N < 2 ^ 30) (h1 : 1 ≤ R) (hR : R ≤ 14) (hk : ∀ t, t < 16 * (R + 1) → kB keys t = rk t) :
    f_X0_decrypt N (nI a) (nI R) keys c = some (zrow a 16 (fun i => sB (aesD rk R (fun t => m (a + t)) i)) c) := by
  rw [p_X0_decrypt keys c ha hN h1 hR]
  refine congrArg some (zrow_congr (fun j hj => ?_))
  rw [aesD_c (s := fun i => c (a + i) &&& 255) (t := fun t => m (a + t)) (fun i hi => RB_u h u (by omega)) hk j hj]
/-- one block in its place -/
def ecS (E : (Nat → Int32) → Nat → Int32) (a i : Nat) (m : Nat → Int32) : Nat → Int32 := zrow (a + 16 * i) 16 (E (fun t => m (a + 16 * i + t))) m
theorem ecS_u {E : (Nat → Int32) → Nat → Int32} (hE : ∀ s, isU8 s 16 → isU8 (E s) 16) {N a : Nat} {m : Nat → Int32} (u : isU8 m N) : ∀ k, a + 16 * k ≤ N → isU8 (zis (ecS E a) m k) N
  | 0, _ => u
  | k + 1, hk => U_row (ecS_u hE u k (by omega)) (hE _ (fun t ht => ecS_u hE u k (by omega) _ (by omega)))
set_option maxHeartbeats 4000000 in
theorem p_X4_ecbSeal {N a k R : Nat} {keys rk c m : Nat → Int32} (h : RB N c m) (u : isU8 m N) (ha : a + 16 * k ≤ N) (hN : N ≤ 1500) (h1 : 1 ≤ R) (hR : R ≤ 14) (hk : ∀ t, t < 16 * (R + 1) → kB keys t = rk t) (uk : isU8 rk (16 * (R + 1))) :
    ∃ c', f_X4_ecbSeal N (nI a) (nI (16 * k)) (nI R) keys c = some c' ∧ RB N c' (zis (ecS (aesE rk R) a) m k) := by
  unfold f_X4_ecbSeal
  rw [zjE]
  refine zl_up (F := b_X4_ecbSeal_3 N (nI a) (nI (16 * k)) (nI R) keys _) (fun i (s : Nat → Int32) => (nI (16 * i), s)) (fun i s => RB N s (zis (ecS (aesE rk R) a) m i)) 0 k c (fun o => ∃ c', o = some c' ∧ RB N c' (zis (ecS (aesE rk R) a) m k)) (by omega) (by omega) h ?_ ?_
  · intro self s hs
    simp only [b_X4_ecbSeal_3]
    rw [if_pos (nI_le (Nat.le_refl _) (by omega))]
    exact ⟨_, rfl, hs⟩
  · intro self i s _ hi hs
    have e := c_enc hs (ecS_u (fun s hs => aesE_u hs h1 uk) u i (by omega)) (a := a + 16 * i) (by omega) (by omega) h1 hR hk
    refine ⟨zrow (a + 16 * i) 16 (fun j => sB (aesE rk R (fun t => zis (ecS (aesE rk R) a) m i (a + 16 * i + t)) j)) s, RB_row hs, ?_⟩
    simp only [b_X4_ecbSeal_3]
    rw [if_neg (nI_ge (by omega) (by omega)), nI_add, e, zbE, zA]
    rfl
set_option maxHeartbeats 4000000 in
theorem p_X4_ecbOpen {N a k R : Nat} {keys rk c m : Nat → Int32} (h : RB N c m) (u : isU8 m N) (ha : a + 16 * k ≤ N) (hN : N ≤ 1500) (h1 : 1 ≤ R) (hR : R ≤ 14) (hk : ∀ t, t < 16 * (R + 1) → kB keys t = rk t) (uk : isU8 rk (16 * (R + 1))) :
    ∃ c', f_X4_ecbOpen N (nI a) (nI (16 * k)) (nI R) keys c = some c' ∧ RB N c' (zis (ecS (aesD rk R) a) m k) := by
  unfold f_X4_ecbOpen
  rw [zjE]
  refine zl_up (F := b_X4_ecbOpen_3 N (nI a) (nI (16 * k)) (nI R) keys _) (fun i (s : Nat → Int32) => (nI (16 * i), s)) (fun i s => RB N s (zis (ecS (aesD rk R) a) m i)) 0 k c (fun o => ∃ c', o = some c' ∧ RB N c' (zis (ecS (aesD rk R) a) m k)) (by omega) (by omega) h ?_ ?_
  · intro self s hs
    simp only [b_X4_ecbOpen_3]
    rw [if_pos (nI_le (Nat.le_refl _) (by omega))]
    exact ⟨_, rfl, hs⟩
  · intro self i s _ hi hs
    have e := c_dec hs (ecS_u (fun s hs => aesD_u hs uk) u i (by omega)) (a := a + 16 * i) (by omega) (by omega) h1 hR hk
    refine ⟨zrow (a + 16 * i) 16 (fun j => sB (aesD rk R (fun t => zis (ecS (aesD rk R) a) m i (a + 16 * i + t)) j)) s, RB_row hs, ?_⟩
    simp only [b_X4_ecbOpen_3]
    rw [if_neg (nI_ge (by omega) (by omega)), nI_add, e, zbE, zA]
    rfl
theorem p_X10_take {b : Nat} (bl bu : Nat → Int32) (h : b + 16 ≤ 512) : f_X10_take (nI b) bl bu = some (zrow 0 16 (fun t => bu (b + t)) bl) := by
  unfold f_X10_take
  rw [zjE]
  refine zl_cpy (F := b_X10_take_2 (nI b) bu (fun q => some q)) 0 16 (fun t => bu (b + t)) bl (fun q => some q) (by omega) ?_ ?_
  · intro self f
    simp only [b_X10_take_2]
    exact if_pos (by decide)
  · intro self i f hi
    simp (disch := omega) only [b_X10_take_2, zle1, if_neg, nI_add, zCl, zki, zki2, znE, zA, Nat.zero_add, zlt2]
/-- the model's cipher, either way -/
def mE (sl : Int32) (k : Nat → Int32) (R : Nat) : (Nat → Int32) → Nat → Int32 := if sl = 0 then aesD k R else aesE k R
theorem mE_u {sl : Int32} {k : Nat → Int32} {R : Nat} (h1 : 1 ≤ R) (uk : isU8 k (16 * (R + 1))) (s : Nat → Int32) (hs : isU8 s 16) : isU8 (mE sl k R s) 16 := by
  unfold mE
  by_cases h : sl = 0
  · rw [if_pos h]; exact aesD_u hs uk
  · rw [if_neg h]; exact aesE_u hs h1 uk
theorem mE_c {sl : Int32} {k l s t : Nat → Int32} {R : Nat} (h1 : 1 ≤ R) (h : eq16 s t) (hk : ∀ i, i < 16 * (R + 1) → k i = l i) : eq16 (mE sl k R s) (mE sl l R t) := by
  unfold mE
  by_cases h0 : sl = 0
  · rw [if_pos h0, if_pos h0]; exact aesD_c h hk
  · rw [if_neg h0, if_neg h0]; exact aesE_c h h1 hk
/-- sealed or unsealed: the two calls of the model in one -/
theorem m_cipher {sl : Int32} {R : Nat} {b bx bk k : Nat → Int32} (o : Nat → Int32) (hb : isU8 b 16) (hbx : ∀ k, k < 256 → bx k = tb_BOX.getD k 0) (hbk : ∀ k, k < 256 → bk k = tb_BOX_BACK.getD k 0) (hk : isU8 k (16 * (R + 1))) (h1 : 1 ≤ R) (hR : R ≤ 14) :
    ∃ b' o', (sl = 0 → f_X10_unseal (nI R) bk b o k = some (b', o')) ∧ (¬ sl = 0 → f_X10_seal (nI R) b bx o k = some (b', o')) ∧ eq16 b' (mE sl k R b) := by
  by_cases h : sl = 0
  · obtain ⟨b', o', e, g⟩ := p_X10_unseal (bk := bk) o hb hbk hk h1 hR
    exact ⟨b', o', fun _ => e, fun q => absurd h q, by unfold mE; rw [if_pos h]; exact g⟩
  · obtain ⟨b', o', e, g⟩ := p_X10_seal (bx := bx) o hb hbx hk h1 hR
    exact ⟨b', o', fun q => absurd q h, fun _ => e, by unfold mE; rw [if_neg h]; exact g⟩
set_option maxHeartbeats 4000000 in
theorem p_X10_blocks {a k R : Nat} {sl : Int32} {bx bk rk mb m : Nat → Int32} (bl o : Nat → Int32) (hm : eqN 512 mb m) (u : isU8 m 512) (ha : a + 16 * k ≤ 512) (hbx : ∀ k, k < 256 → bx k = tb_BOX.getD k 0) (hbk : ∀ k, k < 256 → bk k = tb_BOX_BACK.getD k 0) (hk : isU8 rk (16 * (R + 1))) (h1 : 1 ≤ R) (hR : R ≤ 14) :
    ∃ bl' mb' o', f_X10_blocks sl (nI a) (nI (16 * k)) (nI R) bk bl bx mb o rk = some (nI (16 * k), bl', mb', o') ∧ eqN 512 mb' (zis (ecS (mE sl rk R) a) m k) := by
  unfold f_X10_blocks
  rw [zjE]
  refine zl_up (F := b_X10_blocks_3 sl (nI a) (nI (16 * k)) (nI R) bk bx rk _) (fun i (s : (Nat → Int32) × (Nat → Int32) × (Nat → Int32)) => (nI (a + 16 * i), s.1, s.2.1, s.2.2)) (fun i s => eqN 512 s.2.1 (zis (ecS (mE sl rk R) a) m i)) 0 k (bl, mb, o) (fun q => ∃ bl' mb' o', q = some (nI (16 * k), bl', mb', o') ∧ eqN 512 mb' (zis (ecS (mE sl rk R) a) m k)) (by omega) (by omega) hm ?_ ?_
  · intro self s hs
    obtain ⟨bl, mb, o⟩ := s
    simp only [b_X10_blocks_3]
    rw [if_pos (by rw [nI_add]; exact nI_le (Nat.le_refl _) (by omega))]
    exact ⟨_, _, _, rfl, hs⟩
  · intro self i s _ hi hs
    obtain ⟨bl, mb, o⟩ := s
    have hs' : eqN 512 mb (zis (ecS (mE sl rk R) a) m i) := hs
    have hu := ecS_u (mE_u (sl := sl) h1 hk) u i (show a + 16 * i ≤ 512 by omega)
    have hb : eq16 (zrow 0 16 (fun t => mb (a + 16 * i + t)) bl) (fun t => zis (ecS (mE sl rk R) a) m i (a + 16 * i + t)) := fun j hj => (zrow_0 hj).trans (hs' _ (by omega))
    obtain ⟨b', o', e1, e2, g⟩ := m_cipher (sl := sl) (bx := bx) (bk := bk) o (eq16_u hb (fun t ht => hu _ (by omega))) hbx hbk hk h1 hR
    have key : ∀ K : (Nat → Int32) → Option (Int32 × (Nat → Int32) × (Nat → Int32) × (Nat → Int32)), zl (b_X10_blocks_35 (nI (a + 16 * i)) b' K) zF ((0 : Int32), mb) = K (zrow (a + 16 * i) 16 b' mb) := by
      intro K
      refine zl_cpy (F := b_X10_blocks_35 (nI (a + 16 * i)) b' K) (a + 16 * i) 16 b' mb K (by omega) ?_ ?_
      · intro self f
        simp only [b_X10_blocks_35]
        exact if_pos (by decide)
      · intro self j f hj
        simp (disch := omega) only [b_X10_blocks_35, zle1, if_neg, nI_add, zCl, zki, zki2, znE, zA, zlt2]
    refine ⟨(b', zrow (a + 16 * i) 16 b' mb, o'), eqN_row hs' (fun j hj => (g j hj).trans (mE_c h1 hb (fun _ _ => rfl) j hj)), ?_⟩
    simp only [b_X10_blocks_3]
    rw [if_neg (by rw [nI_add]; exact nI_ge (by omega) (by omega)), p_X10_take _ _ (by omega), zbE, zjE]
    by_cases h0 : sl = 0
    · rw [if_pos h0, e1 h0]
      simp only [zbE]
      rw [zjE, key, zA]
      rfl
    · rw [if_neg h0, e2 h0]
      simp only [zbE]
      rw [zjE, key, zA]
      rfl
