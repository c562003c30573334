/-! the methods: power, fault, poke, peek -/
theorem p_J7_fillI2 {N : Nat} (v : Int32) (f : Rw) (hN : N ≤ 1500) : f_J7_fill_53178 N v f = some (zrow 0 N (fun _ => v) f) := by
  unfold f_J7_fill_53178
  rw [znE, zjE]
  refine zl_cpy (F := b_J7_fill_53178_5 N v (nI N) (fun r => some r)) 0 N (fun _ => v) f (fun r => some r) hN ?_ ?_
  · intro self f
    simp only [b_J7_fill_53178_5]
    exact if_pos (nI_le (Nat.le_refl _) (by omega))
  · intro self i f hi
    simp (disch := omega) only [b_J7_fill_53178_5, zle, if_neg, zCl, zki, zki2, znE, zA, Nat.zero_add, zlt2]
theorem updL_s (f : Nat → Int64) (k : Nat) (x : Int64) : vp_updL f k x k = x := if_pos rfl
theorem updL_n (f : Nat → Int64) {k j : Nat} (x : Int64) (h : j ≠ k) : vp_updL f k x j = f j := if_neg h
theorem p_X10_forget (made : Int32) (taken : Nat → Int64) : ∃ taken', f_X10_forget made taken = some (0, taken') ∧ taken' 1 = -1 ∧ taken' 2 = -1 := by
  unfold f_X10_forget
  simp (decide := true) only [zk_c, znE]
  refine ⟨_, rfl, ?_, ?_⟩
  · rw [show Int32.toNatClampNeg 1 = 1 by decide, show Int32.toNatClampNeg 2 = 2 by decide, updL_n _ _ (by decide), updL_s]
  · rw [show Int32.toNatClampNeg 2 = 2 by decide, updL_s]
theorem l_pow79 (bu : Rw) (K : Rw → Option _) : zl (b_X10_power_79 K) zF ((0 : Int32), bu) = K (zrow 0 512 (fun _ => 0) bu) := by
  refine zl_cpy (F := b_X10_power_79 K) 0 512 (fun _ => 0) bu K (by omega) ?_ ?_
  · intro self f
    simp only [b_X10_power_79]
    exact if_pos (by decide)
  · intro self i f hi
    simp (disch := omega) only [b_X10_power_79, zle1, if_neg, zCl, zki, zki2, znE, zA, Nat.zero_add, zlt2]
theorem l_pow58 (mf : Rw) (K : Rw → Option _) : zl (b_X10_power_58 K) zF ((0 : Int32), mf) = K (zrow 0 10 (fun _ => 0) mf) := by
  refine zl_cpy (F := b_X10_power_58 K) 0 10 (fun _ => 0) mf K (by omega) ?_ ?_
  · intro self f
    simp only [b_X10_power_58]
    exact if_pos (by decide)
  · intro self i f hi
    simp (disch := omega) only [b_X10_power_58, zle1, if_neg, zCl, zki, zki2, znE, zA, Nat.zero_add, zlt2]
    rfl
theorem b_1 : ∀ i, i < 32 → bt 1 i = decide (i = 0) := by decide +kernel
theorem bit1 (x : Int32) {s : Nat} (hs : s < 32) : (x >>> (nI s &&& 31)) &&& 1 = if bt x s = true then 1 else 0 := by
  refine b_ext (fun i hi => ?_)
  rw [b_and, b_sshr s hs x hi, b_1 i hi]
  by_cases h0 : i = 0
  · subst h0
    rw [if_pos (by omega), Nat.add_zero, decide_eq_true rfl, Bool.and_true]
    by_cases hb : bt x s = true
    · rw [if_pos hb, hb, b_1 0 (by omega)]; rfl
    · rw [if_neg hb, b_0]; revert hb; cases bt x s <;> decide
  · rw [decide_eq_false h0, Bool.and_false]
    by_cases hb : bt x s = true
    · rw [if_pos hb, b_1 i hi, decide_eq_false h0]
    · rw [if_neg hb, b_0]
theorem Rf_0 {mf : Rw} (h : ∀ t, t < 10 → mf t = 0) : Rf 0 mf := fun t ht => ⟨by rw [bit1 0 (by omega), if_neg (by rw [b_0]; decide), h t ht], Or.inl (h t ht)⟩
theorem q_power {td : Nat} {p cf mst inRow inW made ill thr words cst sb bg cnt hl pw row tw : Int32} {cb mb key val kept mf : Rw} {taken : Nat → Int64} (hf : Rf cf mf) (hb : Rb cb mb) (htd : td ≤ 10) :
    ∃ (st' td' : Nat) (cf' : Int32) (cb' key' val' kept' mb' mf' : Rw) (taken' : Nat → Int64), f_X9_power p cf cst sb (nI td) cb bg key val cnt hl pw row tw kept = some (nI st', cf', nI st', 0, nI td', cb', 0, key', val', 0, 1, 0, 0, 0, kept') ∧ f_X10_power p ill inRow inW made mst (nI td) thr words mb mf taken = some (nI st', 0, 0, 0, 0, nI st', nI td', 0, 0, mb', mf', taken') ∧ (st' = 0 ∨ st' = 1) ∧ td' ≤ 10 ∧ (st' = 1 → td' < 10) ∧ Rf cf' mf' ∧ Rb cb' mb' ∧ taken' 1 = -1 ∧ taken' 2 = -1 := by
  obtain ⟨taken', e, t1, t2⟩ := p_X10_forget made taken
  unfold f_X9_power f_X10_power f_X1_forgetAll f_X1_forgetKept f_X3_forget
  rw [p_J7_fillI2 _ _ (by omega)]
  simp only [zbE]
  rw [p_J7_fillB 0 key (by decide) (by omega)]
  simp only [zbE]
  rw [p_J7_fillB 0 val (by decide) (by omega)]
  simp only [zbE]
  rw [zjE]
  by_cases hp : p = 0
  · rw [if_pos hp, if_pos hp, e]
    simp only [zbE]
    rw [if_pos hp]
    exact ⟨0, td, cf, cb, _, _, _, mb, mf, taken', rfl, rfl, Or.inl rfl, htd, fun q => absurd q (by omega), hf, hb, t1, t2⟩
  · rw [if_neg hp, if_neg hp, e, p_J7_fillB 0 cb (by decide) (by omega), zbE]
    simp only [zbE]
    rw [if_neg hp, zjE, l_pow58, zjE, l_pow79]
    exact ⟨1, 0, 0, _, _, _, _, _, _, taken', rfl, rfl, Or.inr rfl, by omega, fun _ => by omega, Rf_0 (fun t ht => zrow_0 ht), ⟨fun j hj => by rw [zrow_0 hj, zrow_0 hj]; rfl, fun j hj => by rw [zrow_0 hj]; rfl⟩, t1, t2⟩
/-- fault -/
theorem sh_t : ∀ t, t < 32 → ∀ i, i < 32 → bt ((1 : Int32) <<< (nI t &&& 31)) i = decide (i = t) := by decide +kernel
theorem q_fault {t : Nat} {cf thr : Int32} {mf : Rw} (hf : Rf cf mf) (ht : t < 10) : ∃ cf' mf', f_X9_fault (nI t) cf = some cf' ∧ f_X10_fault (nI t) thr mf = some (0, mf') ∧ Rf cf' mf' := by
  unfold f_X9_fault f_X10_fault
  rw [if_neg (nI_pos (by omega)), if_pos (show nI t < (10 : Int32) from nI_lt (b := 10) ht (by omega)), znE, p_in, zbE, if_pos (show (0 : Int32) ≤ nI t ∧ nI t ≤ 9 from ⟨nI_pos' (by omega), nI_le (b := 9) (by omega) (by omega)⟩)]
  simp only [z10, z00, ite_false, ite_true]
  rw [zk_T (nI_in (by omega) (by omega)), znE, nI_clamp (by omega), show vp_nar .boolean (1 : Int32) = 1 by decide]
  refine ⟨_, _, rfl, rfl, fun s hs => ?_⟩
  obtain ⟨h1, h2⟩ := hf s hs
  rw [bit1 _ (by omega), b_or, sh_t t (by omega) s (by omega)]
  rw [bit1 _ (by omega)] at h1
  by_cases e : s = t
  · subst e
    rw [upd_s]
    simp
  · rw [upd_n _ _ e, decide_eq_false e, Bool.or_false]
    exact ⟨h1, h2⟩
theorem q_faultX {p thr : Int32} {mf : Rw} (h : ¬ (0 ≤ p ∧ p ≤ 9)) : f_X10_fault p thr mf = some (1, mf) := by
  unfold f_X10_fault
  rw [p_in, zbE, if_neg h, if_pos rfl, if_neg (by decide)]
/-- poke -/
theorem lB_sh {v : Int64} {j : Nat} (hj : j < 8) : sB (((v >>> ((nI (8 * j)).toInt64 &&& 63)) &&& (255 : Int64)).toInt32) = (((v.toUInt64 >>> ((nI (8 * j)).toInt64.toUInt64 &&& Int64.toUInt64 63)).toInt64).toInt32).toInt8.toInt32 := by
  refine b_low (fun i hi => ?_)
  rw [bl_J _ (by omega), bl_J _ (by omega), bl_and, bl_sshr _ (by omega) _ (by omega), bl_ushr _ (by omega), bl_255 i (by omega), decide_eq_true hi, Bool.and_true, if_pos (by omega)]
theorem lB_shu (v : Int64) {j : Nat} (hj : j < 8) : ((v >>> ((nI (8 * j)).toInt64 &&& 63)) &&& (255 : Int64)).toInt32 &&& 255 = ((v >>> ((nI (8 * j)).toInt64 &&& 63)) &&& (255 : Int64)).toInt32 := uOfBt (fun i h8 hi => by
  rw [bl_J _ hi, bl_and, bl_255 i (by omega), decide_eq_false (by omega), Bool.and_false])
theorem p_inBuf {a n : Nat} (ha : a ≤ 512) (hn : a + n ≤ 512) : f_X9_inBuffer (nI a) (nI n) = some 1 := by
  unfold f_X9_inBuffer
  rw [if_neg (nI_pos (by omega)), if_neg (show ¬ (512 : Int32) < nI a from nI_nlt (a := 512) (by omega) (by omega)), if_neg (nI_pos (by omega)), zS2 (by omega), if_neg (nI_nlt (by omega) (by omega))]
set_option maxHeartbeats 4000000 in
theorem q_poke {i n st : Nat} {v : Int64} {thr : Int32} {cb mb : Rw} (hb : Rb cb mb) (h1 : 1 ≤ n) (h8 : n ≤ 8) (hi : i + n ≤ 512) (hst : 0 < st) (hst5 : st ≤ 5) : ∃ cb' mb', f_X9_poke (nI i) v (nI n) (nI st) cb = some cb' ∧ f_X10_poke (nI i) v (nI n) (nI st) thr mb = some (0, mb') ∧ Rb cb' mb' := by
  have e1 : ∀ j, j < n → ((8 : Int32) * ((nI n - (1 : Int32)) - nI j)) = nI (8 * (n - 1 - j)) := fun j hj => by rw [zS (by omega), zSn (by omega), zM]
  refine ⟨zrow i n (fun j => sB (((v >>> ((nI (8 * (n - 1 - j))).toInt64 &&& 63)) &&& (255 : Int64)).toInt32)) cb, zrow i n (fun j => ((v >>> ((nI (8 * (n - 1 - j))).toInt64 &&& 63)) &&& (255 : Int64)).toInt32) mb, ?_, ?_, RB_row hb.1, U_row hb.2 (fun j hj => lB_shu v (by omega))⟩
  · unfold f_X9_poke
    rw [if_neg (nI_ne0 hst (by omega)), if_neg (show ¬ nI n < (1 : Int32) from nI_nlt (b := 1) h1 (by omega)), if_neg (show ¬ (8 : Int32) < nI n from nI_nlt (a := 8) h8 (by omega)), p_inBuf (by omega) hi, zbE, if_neg (by decide), zjE]
    refine zl_cpy (F := b_X9_poke_52 (nI i) v (nI n) (fun r => some r)) i n _ cb (fun r => some r) (by omega) ?_ ?_
    · intro self f
      simp only [b_X9_poke_52]
      exact if_pos (nI_le (Nat.le_refl _) (by omega))
    · intro self j f hj
      simp (disch := omega) only [b_X9_poke_52, zle, if_neg, nI_add, zCl, zki, zki2, znE, zA, zlt2, e1 j hj]
      rw [← lB_sh (by omega), show ∀ x : Int32, vp_nar .byte (sB x) = sB x from fun x => pk_vb x]
  · unfold f_X10_poke
    rw [zjE, if_neg (nI_ne0 hst (by omega)), p_in, zbE, zjE, if_pos (show (1 : Int32) ≤ nI n ∧ nI n ≤ 8 from ⟨nI_le (a := 1) h1 (by omega), nI_le (b := 8) h8 (by omega)⟩), if_neg (by decide), p_in, zbE, zS2 (by omega), if_pos (show (0 : Int32) ≤ nI i ∧ nI i ≤ nI (512 - n) from ⟨nI_pos' (by omega), nI_le (by omega) (by omega)⟩), if_neg (by decide)]
    dsimp only
    rw [zjE]
    refine zl_cpy (F := b_X10_poke_48 (nI i) v (nI n) 0 (fun r => some (0, r))) i n _ mb (fun r => some (0, r)) (by omega) ?_ ?_
    · intro self f
      simp only [b_X10_poke_48]
      exact if_pos (nI_le (Nat.le_refl _) (by omega))
    · intro self j f hj
      simp (disch := omega) only [b_X10_poke_48, zle, if_neg, z00, ite_true, nI_add, zCl, zki, zki2, znE, zA, zlt2, e1 j hj]
theorem l_poke48 {p1 p3 t : Int32} {v : Int64} (mb : Rw) (ht : ¬ t = 0) : zl (b_X10_poke_48 p1 v p3 t (fun r => some (t, r))) zF ((0 : Int32), mb) = some (t, mb) := by
  obtain ⟨q, hq⟩ : ∃ q, zF = q + 1 := ⟨zF - 1, by have := zF_big; omega⟩
  rw [hq]
  show b_X10_poke_48 p1 v p3 t (fun r => some (t, r)) (zl (b_X10_poke_48 p1 v p3 t (fun r => some (t, r))) q) ((0 : Int32), mb) = some (t, mb)
  simp only [b_X10_poke_48]
  rw [if_neg ht]
  by_cases h : p3 ≤ 0
  · rw [if_pos h]
  · rw [if_neg h]
theorem q_poke0 {p1 p3 thr : Int32} {v : Int64} {mb : Rw} : f_X10_poke p1 v p3 0 thr mb = some (2, mb) := by
  unfold f_X10_poke
  rw [zjE, if_pos rfl]
  dsimp only
  rw [zjE]
  exact l_poke48 mb (by decide)
theorem q_pokeX {p1 p3 thr st : Int32} {v : Int64} {mb : Rw} (hst : ¬ st = 0) (h : ¬ ((1 ≤ p3 ∧ p3 ≤ 8) ∧ 0 ≤ p1 ∧ p1 ≤ 512 - p3)) : f_X10_poke p1 v p3 st thr mb = some (1, mb) := by
  unfold f_X10_poke
  rw [zjE, if_neg hst, p_in, zbE, zjE]
  by_cases h1 : 1 ≤ p3 ∧ p3 ≤ 8
  · rw [if_pos h1, if_neg (by decide), p_in, zbE, if_neg (fun q => h ⟨h1, q⟩), if_pos rfl]
    dsimp only
    rw [zjE]
    exact l_poke48 mb (by decide)
  · rw [if_neg h1, if_pos rfl]
    dsimp only
    rw [zjE]
    exact l_poke48 mb (by decide)
/-- peek -/
theorem z8e {p : Prop} [Decidable p] : (if p then (1 : Int32) else 0) = 0 ↔ ¬ p := by
  by_cases h : p
  · rw [if_pos h]; exact ⟨fun q => absurd q (by decide), fun q => absurd h q⟩
  · rw [if_neg h]; exact ⟨fun _ => h, fun _ => rfl⟩
set_option maxHeartbeats 4000000 in
theorem q_peek {i : Nat} {st thr : Int32} {cb mb : Rw} (hb : Rb cb mb) (hi : i ≤ 504) : ∃ v, f_X9_peek (nI i) st cb = some v ∧ f_X10_peek (nI i) st thr mb = some (v, 0) := by
  have e8 : f_X9_inBuffer (nI i) (8 : Int32) = some 1 := p_inBuf (a := i) (n := 8) (by omega) (by omega)
  unfold f_X9_peek f_X10_peek
  rw [e8, zbE, if_neg (by decide), p_in, zbE, if_pos (show (0 : Int32) ≤ nI i ∧ nI i ≤ 504 from ⟨nI_pos' (by omega), nI_le (b := 504) hi (by omega)⟩), zjE, if_neg (by decide)]
  dsimp only
  rw [zjE, p_logged, zbE]
  by_cases hin : st = 3 ∨ st = 4
  · rw [if_pos hin, if_neg (by decide), p_X9_longAt cb (by omega) (by omega), zbE]
    refine ⟨_, rfl, ?_⟩
    rw [show L8 (fun t => cb (i + t) &&& 255) = L8 (fun t => mb (i + t)) from L8_c (fun j hj => RB_u hb.1 hb.2 (by omega))]
    refine zl_up (F := b_X10_peek_25 (nI i) st mb 0 _) (fun j (s : Int64) => (s, nI j)) (fun j s => s = lF (fun t => mb (i + t)) j) 0 8 (0 : Int64) (fun o => o = some (L8 (fun t => mb (i + t)), 0)) (by omega) (by omega) rfl ?_ ?_
    · intro self s hs
      subst hs
      simp only [b_X10_peek_25]
      exact if_pos (by decide)
    · intro self j s _ hj hs
      subst hs
      refine ⟨_, rfl, ?_⟩
      simp only [b_X10_peek_25]
      rw [if_neg (show ¬ (8 : Int32) ≤ nI j from nI_ge (b := 8) hj (by omega)), if_pos trivial, p_isIn, zbE, if_pos hin, if_neg (by decide), nI_add, zk_T (nI_in (by omega) (by omega)), znE, nI_clamp (by omega), nI_1]
      rfl
  · rw [if_neg hin, if_pos rfl]
    refine ⟨0, rfl, ?_⟩
    obtain ⟨q, hq⟩ : ∃ q, zF = q + 1 := ⟨zF - 1, by have := zF_big; omega⟩
    rw [hq]
    show b_X10_peek_25 (nI i) st mb 0 (fun v_6 => some (v_6, 0)) (zl (b_X10_peek_25 (nI i) st mb 0 (fun v_6 => some (v_6, 0))) q) ((0 : Int64), (0 : Int32)) = some (0, 0)
    simp only [b_X10_peek_25]
    rw [if_neg (by decide), if_pos trivial, p_isIn, zbE, if_neg hin, if_pos rfl]
theorem q_peekX {p st thr : Int32} {mb : Rw} (h : ¬ (0 ≤ p ∧ p ≤ 504)) : f_X10_peek p st thr mb = some (0, 1) := by
  unfold f_X10_peek
  rw [p_in, zbE, if_neg h, zjE, if_pos rfl]
  dsimp only
  rw [zjE]
  obtain ⟨q, hq⟩ : ∃ q, zF = q + 1 := ⟨zF - 1, by have := zF_big; omega⟩
  rw [hq]
  show b_X10_peek_25 p st mb 1 (fun v_6 => some (v_6, 1)) (zl (b_X10_peek_25 p st mb 1 (fun v_6 => some (v_6, 1))) q) ((0 : Int64), (0 : Int32)) = some (0, 1)
  simp only [b_X10_peek_25]
  rw [if_neg (by decide), if_neg (by decide)]
