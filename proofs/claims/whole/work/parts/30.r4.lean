/-! AES in the model -/
theorem p_X10_addRound {r : Nat} (b k : Nat → Int32) (hr : r ≤ 14) : f_X10_addRound (nI r) b k = some (zrow 0 16 (ark b k r) b) := by
  unfold f_X10_addRound
  rw [zjE]
  refine zl_row (F := b_X10_addRound_2 (nI r) k (fun q => some q)) (fun i f => (nI i, f)) (fun q => some q) 0 16 (ark b k r) b (by omega) ?_ ?_
  · intro self f
    simp only [b_X10_addRound_2]
    exact if_pos (by decide)
  · intro self i f hi hf
    have e := hf (0 + i) (by omega)
    rw [Nat.zero_add] at e
    simp (disch := omega) only [b_X10_addRound_2, zle1, if_neg, zM, nI_add, zCl, zki, zki2, znE, zA, Nat.zero_add, zlt2, e]
    rfl
theorem zrow_zrow {n : Nat} {g o b : Nat → Int32} : zrow 0 n (zrow 0 n g o) b = zrow 0 n g b := zrow_congr (fun j hj => zrow_0 hj)
theorem l_X10_sub42 (o b : Nat → Int32) (K : (Nat → Int32) → Option ((Nat → Int32) × (Nat → Int32))) : zl (b_X10_substitute_42 o K) zF ((0 : Int32), b) = K (zrow 0 16 o b) := by
  refine zl_cpy (F := b_X10_substitute_42 o K) 0 16 o b K (by omega) ?_ ?_
  · intro self f
    simp only [b_X10_substitute_42]
    exact if_pos (by decide)
  · intro self i f hi
    simp (disch := omega) only [b_X10_substitute_42, zle1, if_neg, zCl, zki, zki2, znE, zA, Nat.zero_add, zlt2]
set_option maxHeartbeats 4000000 in
theorem l_X10_sub2 {b bx : Nat → Int32} (o : Nat → Int32) (hb : isU8 b 16) (hbx : ∀ k, k < 256 → bx k = tb_BOX.getD k 0) (K : (Nat → Int32) → Option ((Nat → Int32) × (Nat → Int32))) : zl (b_X10_substitute_2 b bx K) zF ((0 : Int32), o) = K (zrow 0 16 (asub b) o) := by
  refine zl_cpy (F := b_X10_substitute_2 b bx K) 0 16 (asub b) o K (by omega) ?_ ?_
  · intro self f
    simp only [b_X10_substitute_2]
    exact if_pos (by decide)
  · intro self i f hi
    obtain ⟨k, hk, ek⟩ := uNat (hb ((i + 4 * (i % 4)) % 16) (by omega))
    have hx : i + 4 * (i - i / 4 * 4) - (i + 4 * (i - i / 4 * 4)) / 16 * 16 = (i + 4 * (i % 4)) % 16 := by omega
    have ea : asub b i = tb_BOX.getD k 0 := by
      unfold asub sbx
      rw [ek, nI_clamp (by omega)]
    rw [ea, ← hbx k hk]
    simp (disch := omega) only [b_X10_substitute_2, zle1, if_neg, zDv, zM, zM2, zSn, nI_add, zCl, zki, zki2, zkn, znE, zA, Nat.zero_add, zlt2, hx, ek]
theorem p_X10_substitute {b bx : Nat → Int32} (o : Nat → Int32) (hb : isU8 b 16) (hbx : ∀ k, k < 256 → bx k = tb_BOX.getD k 0) : f_X10_substitute b bx o = some (zrow 0 16 (asub b) b, zrow 0 16 (asub b) o) := by
  unfold f_X10_substitute
  rw [zjE, l_X10_sub2 o hb hbx, zjE, l_X10_sub42, zrow_zrow]
/-- the mixing of the model -/
def gmx (p1 p2 p3 p4 : Int32) (b : Nat → Int32) : Nat → Int32 := fun i => ((gml (b i) p1 ^^^ gml (b (i - i % 4 + (i + 1) % 4)) p2) ^^^ gml (b (i - i % 4 + (i + 2) % 4)) p3) ^^^ gml (b (i - i % 4 + (i + 3) % 4)) p4
theorem l_X10_mix104 (o b : Nat → Int32) (K : (Nat → Int32) → Option ((Nat → Int32) × (Nat → Int32))) : zl (b_X10_mix_104 o K) zF ((0 : Int32), b) = K (zrow 0 16 o b) := by
  refine zl_cpy (F := b_X10_mix_104 o K) 0 16 o b K (by omega) ?_ ?_
  · intro self f
    simp only [b_X10_mix_104]
    exact if_pos (by decide)
  · intro self i f hi
    simp (disch := omega) only [b_X10_mix_104, zle1, if_neg, zCl, zki, zki2, znE, zA, Nat.zero_add, zlt2]
set_option maxHeartbeats 4000000 in
theorem l_X10_mix3 (p1 p2 p3 p4 : Int32) (b o : Nat → Int32) (K : (Nat → Int32) → Option ((Nat → Int32) × (Nat → Int32))) : zl (b_X10_mix_3 p1 p2 p3 p4 b K) zF ((0 : Int32), o) = K (zrow 0 16 (gmx p1 p2 p3 p4 b) o) := by
  refine zl_cpy (F := b_X10_mix_3 p1 p2 p3 p4 b K) 0 16 (gmx p1 p2 p3 p4 b) o K (by omega) ?_ ?_
  · intro self f
    simp only [b_X10_mix_3]
    exact if_pos (by decide)
  · intro self i f hi
    have h1 : i - (i - i / 4 * 4) + (i + 1 - (i + 1) / 4 * 4) = i - i % 4 + (i + 1) % 4 := by omega
    have h2 : i - (i - i / 4 * 4) + (i + 2 - (i + 2) / 4 * 4) = i - i % 4 + (i + 2) % 4 := by omega
    have h3 : i - (i - i / 4 * 4) + (i + 3 - (i + 3) / 4 * 4) = i - i % 4 + (i + 3) % 4 := by omega
    simp (disch := omega) only [b_X10_mix_3, zle1, if_neg, zDv, zM, zM2, zSn, zA, nI_add, zCl, zki, zki2, zkn, znE, Nat.zero_add, zlt2, h1, h2, h3, p_X10_times, zbE]
    rfl
theorem p_X10_mix (p1 p2 p3 p4 : Int32) (b o : Nat → Int32) : f_X10_mix p1 p2 p3 p4 b o = some (zrow 0 16 (gmx p1 p2 p3 p4 b) b, zrow 0 16 (gmx p1 p2 p3 p4 b) o) := by
  unfold f_X10_mix
  rw [zjE, l_X10_mix3, zjE, l_X10_mix104, zrow_zrow]
theorem gmx_mix {b : Nat → Int32} (h : isU8 b 16) : eq16 (gmx 2 3 1 1 b) (amix b) := by
  intro i hi
  unfold gmx amix mx
  obtain ⟨k0, hk0, e0⟩ := uNat (h i hi)
  obtain ⟨k1, hk1, e1⟩ := uNat (h (i - i % 4 + (i + 1) % 4) (by omega))
  obtain ⟨k2, hk2, e2⟩ := uNat (h (i - i % 4 + (i + 2) % 4) (by omega))
  obtain ⟨k3, hk3, e3⟩ := uNat (h (i - i % 4 + (i + 3) % 4) (by omega))
  rw [e0, e1, e2, e3, (gml_c k0 hk0).2.1, (gml_c k1 hk1).2.2.1, (gml_c k2 hk2).1, (gml_c k3 hk3).1]
theorem gmx_umx (b : Nat → Int32) : gmx 14 11 13 9 b = aumx b := rfl
theorem eq16_row {g b : Nat → Int32} : eq16 (zrow 0 16 g b) g := fun i hi => zrow_0 hi
theorem eq16_t {a b c : Nat → Int32} (h : eq16 a b) (k : eq16 b c) : eq16 a c := fun i hi => (h i hi).trans (k i hi)
theorem eq16_s {a b : Nat → Int32} (h : eq16 a b) : eq16 b a := fun i hi => (h i hi).symm
theorem eq16_u {a b : Nat → Int32} (h : eq16 a b) (k : isU8 b 16) : isU8 a 16 := fun i hi => by rw [h i hi]; exact k i hi
set_option maxHeartbeats 4000000 in
theorem p_X10_seal {R : Nat} {b bx k : Nat → Int32} (o : Nat → Int32) (hb : isU8 b 16) (hbx : ∀ k, k < 256 → bx k = tb_BOX.getD k 0) (hk : isU8 k (16 * (R + 1))) (h1 : 1 ≤ R) (hR : R ≤ 14) :
    ∃ b' o', f_X10_seal (nI R) b bx o k = some (b', o') ∧ eq16 b' (aesE k R b) := by
  have e0 : f_X10_addRound 0 b k = some (zrow 0 16 (ark b k 0) b) := p_X10_addRound (r := 0) b k (by omega)
  unfold f_X10_seal
  rw [e0, zbE, zjE]
  refine zl_up (F := b_X10_seal_7 (nI R) bx k _) (fun r (s : (Nat → Int32) × (Nat → Int32)) => (nI r, s.1, s.2)) (fun r s => (r ≤ R → eq16 s.1 (aesS k b (r - 1))) ∧ (r = R + 1 → eq16 s.1 (aesE k R b))) 1 (R + 1) (zrow 0 16 (ark b k 0) b, o) (fun q => ∃ b' o', q = some (b', o') ∧ eq16 b' (aesE k R b)) (by omega) (by omega) ⟨fun _ => eq16_row, fun q => by omega⟩ ?_ ?_
  · intro self s hs
    obtain ⟨s, o⟩ := s
    simp only [b_X10_seal_7]
    rw [if_pos (nI_lt (by omega) (by omega))]
    exact ⟨_, _, rfl, hs.2 rfl⟩
  · intro self r s hr1 hr2 hs
    obtain ⟨s, o⟩ := s
    have hs1 : eq16 s (aesS k b (r - 1)) := hs.1 (by omega)
    have hsu : isU8 s 16 := eq16_u hs1 (aesS_u hb _ (fun i hi => hk i (by omega)))
    simp only [b_X10_seal_7]
    rw [if_neg (nI_nlt (by omega) (by omega)), p_X10_substitute o hsu hbx]
    simp only [zbE]
    have hsub : eq16 (zrow 0 16 (asub s) s) (asub (aesS k b (r - 1))) := eq16_t eq16_row (asub_c hs1)
    by_cases hc : r < R
    · rw [if_neg (nI_ge hc (by omega)), p_X10_mix]
      simp only [zbE]
      rw [p_X10_addRound _ _ (by omega), zbE, nI_1]
      refine ⟨(_, _), ⟨fun _ => ?_, fun q => by omega⟩, rfl⟩
      obtain ⟨q, rfl⟩ : ∃ q, r = q + 1 := ⟨r - 1, by omega⟩
      refine eq16_t eq16_row (ark_c (eq16_t eq16_row (eq16_t (gmx_mix (eq16_u hsub (asub_u (aesS_u hb _ (fun i hi => hk i (by omega)))))) (amix_c hsub))) (fun i hi => rfl))
    · rw [if_pos (nI_le (by omega) (by omega)), p_X10_addRound _ _ (by omega), zbE, nI_1]
      refine ⟨(_, _), ⟨fun q => by omega, fun _ => ?_⟩, rfl⟩
      have : r = R := by omega
      subst this
      exact eq16_t eq16_row (ark_c hsub (fun i hi => rfl))
theorem perm_inj : ∀ i, i < 16 → ∀ j, j < i → ¬ (j + 4 * (j % 4)) % 16 = (i + 4 * (i % 4)) % 16 := by decide +kernel
theorem perm_back : ∀ j, j < 16 → ((j + 12 * (j % 4)) % 16 + 4 * ((j + 12 * (j % 4)) % 16 % 4)) % 16 = j := by decide +kernel
set_option maxHeartbeats 4000000 in
theorem p_X10_substituteBack {b bk : Nat → Int32} (o : Nat → Int32) (hb : isU8 b 16) (hbk : ∀ k, k < 256 → bk k = tb_BOX_BACK.getD k 0) : ∃ b' o', f_X10_substituteBack bk b o = some (b', o') ∧ eq16 b' (asbk b) := by
  unfold f_X10_substituteBack
  rw [zjE]
  refine zl_up (F := b_X10_substituteBack_2 bk b _) (fun i (s : Nat → Int32) => (nI i, s)) (fun i s => ∀ j, j < i → s ((j + 4 * (j % 4)) % 16) = sbk (b j)) 0 16 o (fun q => ∃ b' o', q = some (b', o') ∧ eq16 b' (asbk b)) (by omega) (by omega) (fun j hj => by omega) ?_ ?_
  · intro self o hs
    simp only [b_X10_substituteBack_2]
    rw [if_pos (by decide), zjE]
    have key : zl (b_X10_substituteBack_42 o (fun c => some (c, o))) zF ((0 : Int32), b) = some (zrow 0 16 o b, o) := by
      refine zl_cpy (F := b_X10_substituteBack_42 o (fun c => some (c, o))) 0 16 o b (fun c => some (c, o)) (by omega) ?_ ?_
      · intro self f
        simp only [b_X10_substituteBack_42]
        exact if_pos (by decide)
      · intro self i f hi
        simp (disch := omega) only [b_X10_substituteBack_42, zle1, if_neg, zCl, zki, zki2, znE, zA, Nat.zero_add, zlt2]
    refine ⟨_, _, key, fun i hi => (zrow_0 hi).trans ?_⟩
    have h := hs ((i + 12 * (i % 4)) % 16) (by omega)
    rw [perm_back i hi] at h
    exact h
  · intro self i s _ hi hs
    obtain ⟨k, hk, ek⟩ := uNat (hb i hi)
    have hx : i + 4 * (i - i / 4 * 4) - (i + 4 * (i - i / 4 * 4)) / 16 * 16 = (i + 4 * (i % 4)) % 16 := by omega
    refine ⟨upd s ((i + 4 * (i % 4)) % 16) (sbk (b i)), fun j hj => ?_, ?_⟩
    · by_cases e : j = i
      · subst e
        exact upd_s _ _ _
      · rw [upd_n _ _ (perm_inj i hi j (by omega))]
        exact hs j (by omega)
    · have ea : sbk (b i) = bk k := by
        unfold sbk
        rw [ek, nI_clamp (by omega), hbk k hk]
      rw [ea]
      simp (disch := omega) only [b_X10_substituteBack_2, zle1, if_neg, zDv, zM, zM2, zSn, nI_add, zCl, zki, zki2, zkn, znE, zA, zlt2, hx, ek]
set_option maxHeartbeats 4000000 in
theorem p_X10_unseal {R : Nat} {b bk k : Nat → Int32} (o : Nat → Int32) (hb : isU8 b 16) (hbk : ∀ k, k < 256 → bk k = tb_BOX_BACK.getD k 0) (hk : isU8 k (16 * (R + 1))) (h1 : 1 ≤ R) (hR : R ≤ 14) :
    ∃ b' o', f_X10_unseal (nI R) bk b o k = some (b', o') ∧ eq16 b' (aesD k R b) := by
  unfold f_X10_unseal
  rw [zjE]
  refine zl_up (F := b_X10_unseal_5 (nI R) bk k _) (fun j (s : (Nat → Int32) × (Nat → Int32)) => (nI (R - j), s.1, s.2)) (fun j s => (j = 0 → eq16 s.1 b) ∧ ∀ i, j = i + 1 → eq16 s.1 (asbk (aesT k R b i))) 0 R (b, o) (fun q => ∃ b' o', q = some (b', o') ∧ eq16 b' (aesD k R b)) (by omega) (by omega) ⟨fun _ i _ => rfl, fun i hi => by omega⟩ ?_ ?_
  · intro self s hs
    obtain ⟨s, o⟩ := s
    have e0 : f_X10_addRound 0 s k = some (zrow 0 16 (ark s k 0) s) := p_X10_addRound (r := 0) s k (by omega)
    simp only [b_X10_unseal_5]
    rw [if_pos (by rw [Nat.sub_self]; decide), e0, zbE]
    refine ⟨_, _, rfl, eq16_t eq16_row ?_⟩
    obtain ⟨q, rfl⟩ : ∃ q, R = q + 1 := ⟨R - 1, by omega⟩
    exact ark_c (hs.2 q rfl) (fun i hi => rfl)
  · intro self j s _ hj hs
    obtain ⟨s, o⟩ := s
    have hd : nI (R - j) + (-1 : Int32) = nI (R - (j + 1)) := by
      rw [zM1 (by omega)]
      congr 1
    simp only [b_X10_unseal_5]
    rw [if_neg (nI_nle (by omega) (by omega)), p_X10_addRound _ _ (by omega), zbE]
    by_cases hc : j = 0
    · subst hc
      have hs0 : eq16 s b := hs.1 rfl
      rw [if_pos (nI_le (by omega) (by omega))]
      have hT : eq16 (zrow 0 16 (ark s k (R - 0)) s) (aesT k R b 0) := eq16_t eq16_row (ark_c hs0 (fun i hi => rfl))
      obtain ⟨b', o', e', h'⟩ := p_X10_substituteBack (bk := bk) o (eq16_u hT (aesT_u hb hk 0)) hbk
      rw [e']
      simp only [zbE, hd]
      refine ⟨(b', o'), ⟨fun q => by omega, fun i hi => ?_⟩, rfl⟩
      have : i = 0 := by omega
      subst this
      exact eq16_t h' (asbk_c hT)
    · obtain ⟨q, rfl⟩ : ∃ q, j = q + 1 := ⟨j - 1, by omega⟩
      have hs0 : eq16 s (asbk (aesT k R b q)) := hs.2 q rfl
      rw [if_neg (nI_ge (by omega) (by omega)), p_X10_mix]
      simp only [zbE]
      have hT : eq16 (zrow 0 16 (gmx 14 11 13 9 (zrow 0 16 (ark s k (R - (q + 1))) s)) (zrow 0 16 (ark s k (R - (q + 1))) s)) (aesT k R b (q + 1)) := by
        refine eq16_t eq16_row ?_
        rw [gmx_umx]
        refine aumx_c (eq16_t eq16_row ?_)
        rw [show R - (q + 1) = R - 1 - q by omega]
        exact ark_c hs0 (fun i hi => rfl)
      obtain ⟨b', o', e', h'⟩ := p_X10_substituteBack (bk := bk) (zrow 0 16 (gmx 14 11 13 9 (zrow 0 16 (ark s k (R - (q + 1))) s)) o) (eq16_u hT (aesT_u hb hk (q + 1))) hbk
      rw [e']
      simp only [zbE, hd]
      refine ⟨(b', o'), ⟨fun q => by omega, fun i hi => ?_⟩, rfl⟩
      have : i = q + 1 := by omega
      subst this
      exact eq16_t h' (asbk_c hT)
