/-! CMAC in the model -/
theorem l_mac2 (bl : Nat → Int32) (K : (Nat → Int32) → Option (Int32 × (Nat → Int32) × (Nat → Int32) × (Nat → Int32) × (Nat → Int32))) : zl (b_X10_mac_2 K) zF ((0 : Int32), bl) = K (zrow 0 16 (fun _ => 0) bl) := by
  refine zl_cpy (F := b_X10_mac_2 K) 0 16 (fun _ => 0) bl K (by omega) ?_ ?_
  · intro self f
    simp only [b_X10_mac_2]
    exact if_pos (by decide)
  · intro self i f hi
    simp (disch := omega) only [b_X10_mac_2, zle1, if_neg, zCl, zki, zki2, znE, zA, Nat.zero_add, zlt2]
theorem l_mac209 (bl : Nat → Int32) (K : (Nat → Int32) → Option (Int32 × (Nat → Int32) × (Nat → Int32) × (Nat → Int32) × (Nat → Int32))) : zl (b_X10_mac_209 K) zF ((0 : Int32), bl) = K (zrow 0 16 (fun _ => 0) bl) := by
  refine zl_cpy (F := b_X10_mac_209 K) 0 16 (fun _ => 0) bl K (by omega) ?_ ?_
  · intro self f
    simp only [b_X10_mac_209]
    exact if_pos (by decide)
  · intro self i f hi
    simp (disch := omega) only [b_X10_mac_209, zle1, if_neg, zCl, zki, zki2, znE, zA, Nat.zero_add, zlt2]
theorem l_mac160 (bl re : Nat → Int32) (K : (Nat → Int32) → Option (Int32 × (Nat → Int32) × (Nat → Int32) × (Nat → Int32) × (Nat → Int32))) : zl (b_X10_mac_160 bl K) zF ((0 : Int32), re) = K (zrow 0 16 bl re) := by
  refine zl_cpy (F := b_X10_mac_160 bl K) 0 16 bl re K (by omega) ?_ ?_
  · intro self f
    simp only [b_X10_mac_160]
    exact if_pos (by decide)
  · intro self i f hi
    simp (disch := omega) only [b_X10_mac_160, zle1, if_neg, zCl, zki, zki2, znE, zA, Nat.zero_add, zlt2]
theorem l_mac346 {a : Nat} (bl bu : Nat → Int32) (K : (Nat → Int32) → Option (Int32 × (Nat → Int32) × (Nat → Int32) × (Nat → Int32) × (Nat → Int32))) (h : a + 16 ≤ 512) : zl (b_X10_mac_346 (nI a) bl K) zF ((0 : Int32), bu) = K (zrow a 16 bl bu) := by
  refine zl_cpy (F := b_X10_mac_346 (nI a) bl K) a 16 bl bu K (by omega) ?_ ?_
  · intro self f
    simp only [b_X10_mac_346]
    exact if_pos (by decide)
  · intro self i f hi
    simp (disch := omega) only [b_X10_mac_346, zle1, if_neg, nI_add, zCl, zki, zki2, znE, zA, Nat.zero_add, zlt2]
theorem l_mac73 (bl : Nat → Int32) (K : (Nat → Int32) → Option (Int32 × (Nat → Int32) × (Nat → Int32) × (Nat → Int32) × (Nat → Int32))) : zl (b_X10_mac_73 K) zF ((0 : Int32), bl) = K (zrow 0 16 (fun i => ((bl i <<< ((1 : Int32) &&& 31)) ||| (if i < 15 then bl (i + 1) >>> ((7 : Int32) &&& 31) else 0)) &&& 255) bl) := by
  refine zl_row (F := b_X10_mac_73 K) (fun i f => (nI i, f)) K 0 16 (fun i => ((bl i <<< ((1 : Int32) &&& 31)) ||| (if i < 15 then bl (i + 1) >>> ((7 : Int32) &&& 31) else 0)) &&& 255) bl (by omega) ?_ ?_
  · intro self f
    simp only [b_X10_mac_73]
    exact if_pos (by decide)
  · intro self i f hi hf
    have e1 : f i = bl i := hf _ (by omega)
    have e2 : f (i + 1) = bl (i + 1) := hf _ (by omega)
    by_cases h : i < 15
    · simp (disch := omega) only [b_X10_mac_73, zle1, if_neg, if_pos, h, ite_true, zCl, zki, zki2, znE, zA, Nat.zero_add, zlt2, e1, e2]
    · simp (disch := omega) only [b_X10_mac_73, zle1, if_neg, if_pos, h, ite_false, zCl, zki, zki2, znE, zA, Nat.zero_add, zlt2, e1, e2]
theorem cmD_step (s : Nat → Int32) : eq16 (upd (zrow 0 16 (fun i => ((s i <<< ((1 : Int32) &&& 31)) ||| (if i < 15 then s (i + 1) >>> ((7 : Int32) &&& 31) else 0)) &&& 255) s) 15 (zrow 0 16 (fun i => ((s i <<< ((1 : Int32) &&& 31)) ||| (if i < 15 then s (i + 1) >>> ((7 : Int32) &&& 31) else 0)) &&& 255) s 15 ^^^ (135 * (s 0 >>> ((7 : Int32) &&& 31))))) (cmD s) := by
  intro j hj
  unfold cmD
  by_cases h : j = 15
  · subst h
    rw [upd_s, zrow_0 (by omega), if_pos rfl]
  · rw [upd_n _ _ h, zrow_0 hj, if_neg h, xor0]
set_option maxHeartbeats 4000000 in
theorem l_mac45 {v : Int32} {q : Nat} (hv : (if v = 0 then (2 : Int32) else 1) = nI q) (hq : q ≤ 2) {s : Nat → Int32} (K : (Nat → Int32) → Option (Int32 × (Nat → Int32) × (Nat → Int32) × (Nat → Int32) × (Nat → Int32))) (P : Option (Int32 × (Nat → Int32) × (Nat → Int32) × (Nat → Int32) × (Nat → Int32)) → Prop)
    (hK : ∀ b', eq16 b' (zis (fun _ s => cmD s) s q) → P (K b')) : P (zl (b_X10_mac_45 v K) zF ((0 : Int32), s)) := by
  have hv' : v = 0 ∧ q = 2 ∨ ¬ v = 0 ∧ q = 1 := by
    by_cases h : v = 0
    · rw [if_pos h] at hv
      exact Or.inl ⟨h, ((nI_eq (a := 2) (by omega) (by omega)).mp hv).symm⟩
    · rw [if_neg h] at hv
      exact Or.inr ⟨h, ((nI_eq (a := 1) (by omega) (by omega)).mp hv).symm⟩
  refine zl_up (F := b_X10_mac_45 v K) (fun i (f : Nat → Int32) => (nI i, f)) (fun i f => eq16 f (zis (fun _ s => cmD s) s i)) 0 q s P (by omega) (by omega) (fun _ _ => rfl) ?_ ?_
  · intro self f hf
    simp only [b_X10_mac_45]
    rcases hv' with ⟨h, rfl⟩ | ⟨h, rfl⟩
    · rw [zjE, if_pos h]
      dsimp only
      rw [if_pos (by decide)]
      exact hK f hf
    · rw [zjE, if_neg h]
      dsimp only
      rw [if_pos (by decide)]
      exact hK f hf
  · intro self i f _ hi hf
    refine ⟨_, eq16_t (cmD_step f) (cmD_c hf), ?_⟩
    simp only [b_X10_mac_45]
    rcases hv' with ⟨h, rfl⟩ | ⟨h, rfl⟩
    · rw [zjE, if_pos h]
      dsimp only
      rw [if_neg (show ¬ (2 : Int32) ≤ nI i from nI_ge (b := 2) hi (by omega))]
      simp (decide := true) only [zk_c, znE]
      rw [zjE, l_mac73, nI_1]
      rfl
    · rw [zjE, if_neg h]
      dsimp only
      rw [if_neg (show ¬ (1 : Int32) ≤ nI i from nI_ge (b := 1) hi (by omega))]
      simp (decide := true) only [zk_c, znE]
      rw [zjE, l_mac73, nI_1]
      rfl
theorem cmB_c {m m' Q Q' s s' : Nat → Int32} {N a n L k : Nat} (hm : eqN N m m') (h : a + n ≤ N) (hQ : eq16 Q Q') (hs : eq16 s s') : eq16 (cmB m a n L Q k s) (cmB m' a n L Q' k s') := by
  intro t ht
  unfold cmB cmV
  rw [hs t ht, hQ t ht]
  by_cases h1 : 16 * k + t < n
  · rw [if_pos h1, if_pos h1, hm _ (by omega)]
  · rw [if_neg h1, if_neg h1]
set_option maxHeartbeats 4000000 in
theorem l_mac243 {a n L k : Nat} (bu re bl : Nat → Int32) (K : (Nat → Int32) → Option (Int32 × (Nat → Int32) × (Nat → Int32) × (Nat → Int32) × (Nat → Int32))) (h : a + n ≤ 512) (hk : k ≤ L) (hL : L ≤ 32) : zl (b_X10_mac_243 (nI a) (nI n) bu re (nI (L + 1)) (nI k) K) zF ((0 : Int32), bl) = K (zrow 0 16 (cmB bu a n L re k bl) bl) := by
  refine zl_row (F := b_X10_mac_243 (nI a) (nI n) bu re (nI (L + 1)) (nI k) K) (fun i f => (nI i, f)) K 0 16 (cmB bu a n L re k bl) bl (by omega) ?_ ?_
  · intro self f
    simp only [b_X10_mac_243]
    exact if_pos (by decide)
  · intro self i f hi hf
    have e1 : f i = bl i := hf _ (by omega)
    have eL : ∀ (x y : Option (Int32 × (Nat → Int32) × (Nat → Int32) × (Nat → Int32) × (Nat → Int32))), (if nI k = nI (L + 1) - (1 : Int32) then x else y) = if k = L then x else y := fun x y => by
      rw [show nI (L + 1) - (1 : Int32) = nI L from nI_pred L]
      by_cases hc : k = L
      · rw [if_pos hc, if_pos (by rw [hc])]
      · rw [if_neg hc, if_neg (fun q => hc ((nI_eq (by omega) (by omega)).mp q))]
    have fin : ∀ v, v = cmV bu a n k i → (if k = L then zk (¬ (nI i < 0 ∨ 600 ≤ (nI i).toNatClampNeg)) (zk (¬ (nI i < 0 ∨ 16 ≤ (nI i).toNatClampNeg)) (zn ((upd f (nI i).toNatClampNeg (((f (nI i).toNatClampNeg) ^^^ v) ^^^ (re (nI i).toNatClampNeg))) : Nat → Int32) (fun c_block_55 => self ((nI i + (1 : Int32)), c_block_55)))) else zk (¬ (nI i < 0 ∨ 16 ≤ (nI i).toNatClampNeg)) (zn ((upd f (nI i).toNatClampNeg (((f (nI i).toNatClampNeg) ^^^ v) ^^^ (0 : Int32))) : Nat → Int32) (fun c_block_54 => self ((nI i + (1 : Int32)), c_block_54)))) = self (nI (i + 1), upd f (0 + i) (cmB bu a n L re k bl i)) := by
      intro v hv
      rw [Nat.zero_add]
      unfold cmB
      rw [← hv]
      by_cases hc : k = L
      · rw [if_pos hc, if_pos hc]
        simp (disch := omega) only [zCl, zki, zki2, znE, zA, zlt2, e1]
      · rw [if_neg hc, if_neg hc]
        simp (disch := omega) only [zCl, zki, zki2, znE, zA, zlt2, e1]
    simp only [b_X10_mac_243]
    rw [if_neg (show ¬ (16 : Int32) ≤ nI i from nI_ge (b := 16) (a := i) (by omega) (by omega)), zM, nI_add, znE, zk_T (nI_in (by omega) (by omega)), zjE]
    by_cases h1 : 16 * k + i < n
    · rw [if_neg (nI_ge h1 (by omega)), nI_add, zk_T (nI_in (by omega) (by omega))]
      simp only [eL]
      exact fin _ (by unfold cmV; rw [if_pos h1, nI_clamp (by omega)])
    · rw [if_pos (nI_le (by omega) (by omega))]
      by_cases h2 : 16 * k + i = n
      · rw [if_pos (by rw [h2])]
        simp only [eL]
        exact fin _ (by unfold cmV; rw [if_neg h1, if_pos h2])
      · rw [if_neg (fun q => h2 ((nI_eq (by omega) (by omega)).mp q))]
        simp only [eL]
        exact fin _ (by unfold cmV; rw [if_neg h1, if_neg h2])
set_option maxHeartbeats 8000000 in
theorem p_X10_mac {a n R : Nat} {bx rk mb m : Nat → Int32} (bl o re : Nat → Int32) (hm : eqN 512 mb m) (u : isU8 m 512) (ha : a + n ≤ 512) (ht : a + 16 ≤ 512) (hbx : ∀ k, k < 256 → bx k = tb_BOX.getD k 0) (hk : isU8 rk (16 * (R + 1))) (h1 : 1 ≤ R) (hR : R ≤ 14) :
    ∃ bl' mb' o' re', f_X10_mac (nI a) (nI n) (nI R) bl bx mb o re rk = some (16, bl', mb', o', re') ∧ eqN 512 mb' (zrow a 16 (cmac (aesE rk R) m a n) m) := by
  have uz : isU8 (fun _ => (0 : Int32)) 16 := fun _ _ => (by decide : (0 : Int32) &&& 255 = 0)
  have uE : ∀ s, isU8 s 16 → isU8 (aesE rk R s) 16 := fun s hs => aesE_u hs h1 hk
  have zz : ∀ f, eq16 (zrow 0 16 (fun _ => 0) f) (fun _ => 0) := fun f => eq16_row
  obtain ⟨b1, o1, e1, g1⟩ := p_X10_seal (bx := bx) (b := zrow 0 16 (fun _ => 0) bl) o (eq16_u (zz bl) uz) hbx hk h1 hR
  have g1' : eq16 b1 (aesE rk R (fun _ => 0)) := eq16_t g1 (aesE_c (zz bl) h1 (fun _ _ => rfl))
  obtain ⟨L, hL⟩ : ∃ L, L = (n - 1) / 16 := ⟨_, rfl⟩
  obtain ⟨Q, hQ⟩ : ∃ Q, Q = cmQ (aesE rk R) n := ⟨_, rfl⟩
  have uQ : isU8 Q 16 := by rw [hQ]; exact cmQ_u uE n
  have uX := cmX_u uE u ha uQ (L := L)
  have tail : ∀ (v : Int32) (q : Nat), (if v = 0 then (2 : Int32) else 1) = nI q → q ≤ 2 → eq16 (zis (fun _ s => cmD s) b1 q) Q → (v = 0 → nI n / (16 : Int32) + (1 : Int32) = nI (L + 1)) → (¬ v = 0 → nI n / (16 : Int32) = nI (L + 1)) →
      ∃ bl' mb' o' re', zj (fun (c_block_11 : Nat → Int32) => zj (fun (c_result_15 : Nat → Int32) => zj (fun (v_17 : Int32) => zj (fun (c_block_21 : Nat → Int32) => zj (fun (c_block_26 : Nat → Int32) (c_other_27 : Nat → Int32) => zj (fun (c_buffer_31 : Nat → Int32) => some ((16 : Int32), c_block_26, c_buffer_31, c_other_27, c_result_15)) (fun K_32 => zl (b_X10_mac_346 (nI a) c_block_26 K_32) zF ((0 : Int32), mb))) (fun K_28 => zl (b_X10_mac_233 (nI a) (nI n) (nI R) bx mb rk c_result_15 v_17 K_28) zF ((0 : Int32), c_block_21, o1))) (fun K_22 => zl (b_X10_mac_209 K_22) zF ((0 : Int32), c_block_11))) (fun K_18 => if v = 0 then zk (¬ (16 : Int32) = 0) (K_18 ((nI n / (16 : Int32)) + (1 : Int32))) else zk (¬ (16 : Int32) = 0) (K_18 (nI n / (16 : Int32))))) (fun K_16 => zl (b_X10_mac_160 c_block_11 K_16) zF ((0 : Int32), re))) (fun K_12 => zl (b_X10_mac_45 v K_12) zF ((0 : Int32), b1)) = some (16, bl', mb', o', re') ∧ eqN 512 mb' (zrow a 16 (cmX (aesE rk R) m a n L Q (L + 1)) m) := by
    intro v q hv hq hQ2 hA hB
    rw [zjE]
    refine l_mac45 hv hq _ (fun r => ∃ bl' mb' o' re', r = some (16, bl', mb', o', re') ∧ eqN 512 mb' (zrow a 16 (cmX (aesE rk R) m a n L Q (L + 1)) m)) ?_
    intro b' hb'
    have hre : eq16 (zrow 0 16 b' re) Q := eq16_t eq16_row (eq16_t hb' hQ2)
    have cont : ∃ bl' mb' o' re', zj (fun (c_block_21 : Nat → Int32) => zj (fun (c_block_26 : Nat → Int32) (c_other_27 : Nat → Int32) => zj (fun (c_buffer_31 : Nat → Int32) => some ((16 : Int32), c_block_26, c_buffer_31, c_other_27, zrow 0 16 b' re)) (fun K_32 => zl (b_X10_mac_346 (nI a) c_block_26 K_32) zF ((0 : Int32), mb))) (fun K_28 => zl (b_X10_mac_233 (nI a) (nI n) (nI R) bx mb rk (zrow 0 16 b' re) (nI (L + 1)) K_28) zF ((0 : Int32), c_block_21, o1))) (fun K_22 => zl (b_X10_mac_209 K_22) zF ((0 : Int32), b')) = some (16, bl', mb', o', re') ∧ eqN 512 mb' (zrow a 16 (cmX (aesE rk R) m a n L Q (L + 1)) m) := by
      rw [zjE, l_mac209, zjE]
      refine zl_up (F := b_X10_mac_233 (nI a) (nI n) (nI R) bx mb rk (zrow 0 16 b' re) (nI (L + 1)) _) (fun i (s : (Nat → Int32) × (Nat → Int32)) => (nI i, s.1, s.2)) (fun i s => eq16 s.1 (cmX (aesE rk R) m a n L Q i)) 0 (L + 1) (zrow 0 16 (fun _ => 0) b', o1) (fun r => ∃ bl' mb' o' re', r = some (16, bl', mb', o', re') ∧ eqN 512 mb' (zrow a 16 (cmX (aesE rk R) m a n L Q (L + 1)) m)) (by omega) (by omega) (zz b') ?_ ?_
      · intro self s hs
        obtain ⟨b, o⟩ := s
        simp only [b_X10_mac_233]
        rw [if_pos (nI_le (Nat.le_refl _) (by omega)), zjE, l_mac346 _ _ _ ht]
        exact ⟨_, _, _, _, rfl, eqN_row hm (fun j hj => hs j hj)⟩
      · intro self i s _ hi hs
        obtain ⟨b, o⟩ := s
        have hs' : eq16 b (cmX (aesE rk R) m a n L Q i) := hs
        have hb2 : eq16 (zrow 0 16 (cmB mb a n L (zrow 0 16 b' re) i b) b) (cmB m a n L Q i (cmX (aesE rk R) m a n L Q i)) := eq16_t eq16_row (cmB_c hm ha hre hs')
        obtain ⟨b2, o2, e2, g2⟩ := p_X10_seal (bx := bx) o (eq16_u hb2 (cmB_u u ha uQ (uX i))) hbx hk h1 hR
        refine ⟨(b2, o2), eq16_t g2 (aesE_c hb2 h1 (fun _ _ => rfl)), ?_⟩
        simp only [b_X10_mac_233]
        rw [if_neg (nI_ge hi (by omega)), zjE, l_mac243 _ _ _ _ ha (by omega) (by omega), e2]
        simp only [zbE]
        rw [nI_1]
    rw [zjE, l_mac160, zjE]
    by_cases hv0 : v = 0
    · rw [if_pos hv0, zkn (by decide) (by decide), hA hv0]
      exact cont
    · rw [if_neg hv0, zkn (by decide) (by decide), hB hv0]
      exact cont
  unfold f_X10_mac cmac
  rw [← hL, ← hQ, zjE, l_mac2, e1]
  simp only [zbE]
  rw [zjE, zjE]
  have tl2 := tail 0 2 rfl (by omega)
  have tl1 := tail 1 1 rfl (by omega)
  have part : ¬ (0 < n ∧ n % 16 = 0) → eq16 (zis (fun _ s => cmD s) b1 2) Q ∧ nI n / (16 : Int32) + (1 : Int32) = nI (L + 1) := by
    intro hn
    refine ⟨?_, ?_⟩
    · rw [hQ]
      unfold cmQ
      rw [if_neg hn]
      exact cmD_c (cmD_c g1')
    · rw [zDv (by omega) (by decide) (by decide), zA, show n / 16 + 1 = L + 1 by omega]
  by_cases hn : nI n ≤ 0
  · rw [if_pos hn]
    have hn0 : ¬ 0 < n := fun q => nI_nle q (by omega) hn
    obtain ⟨q1, q2⟩ := part (by omega)
    exact tl2 q1 (fun _ => q2) (fun q => absurd rfl q)
  · rw [if_neg hn, zkn (by decide) (by decide)]
    have hn0 : 0 < n := by
      rcases Nat.eq_zero_or_pos n with q | q
      · exact absurd (by rw [q]; decide) hn
      · exact q
    have hmod : nI n - nI n / (16 : Int32) * (16 : Int32) = nI (n % 16) := by
      rw [zDv (by omega) (by decide) (by decide), zM2, zSn (by omega), show n - n / 16 * 16 = n % 16 by omega]
    by_cases hf : n % 16 = 0
    · rw [if_pos (by rw [hmod, hf]; rfl)]
      refine tl1 ?_ (fun q => absurd q (by decide)) (fun _ => ?_)
      · rw [hQ]
        unfold cmQ
        rw [if_pos ⟨hn0, hf⟩]
        exact cmD_c g1'
      · rw [zDv (by omega) (by decide) (by decide), show n / 16 = L + 1 by omega]
    · rw [if_neg (by rw [hmod]; exact fun q => hf ((nI_eq (b := 0) (by omega) (by omega)).mp q))]
      obtain ⟨q1, q2⟩ := part (by omega)
      exact tl2 q1 (fun _ => q2) (fun q => absurd rfl q)
