/-! the generator in the model -/
def eqN (n : Nat) (s t : Nat → Int32) : Prop := ∀ i, i < n → s i = t i
set_option maxHeartbeats 8000000 in
theorem p_X10_nextV {RO ST : Nat → Int32} (hR : ∀ j, j < 64 → RO j = tb_CONSTANTS.getD j 0) (hST : ∀ j, j < 8 → ST j = tb_BEGINNING.getD j 0) {k v K V : Nat → Int32} (hk : eqN 32 k K) (hv : eqN 32 v V) (uK : isU8 K 32) (uV : isU8 V 32) (scs : Int32) (tot : Int64) (dg h inner m sec w x : Nat → Int32) :
    ∃ scs' tot' dg' h' in' m' sec' v' w' x', f_X10_nextV scs tot RO ST dg h inner k m sec v w x = some (scs', tot', dg', h', in', m', sec', v', w', x') ∧ eqN 32 v' (drV K V) := by
  unfold f_X10_nextV
  rw [p_X10_secretK]
  have hsec : ∀ t, t < 32 → zrow 0 32 k sec t = K t := fun t ht => (zrow_0 ht).trans (hk t ht)
  obtain ⟨t1, h1, m1, w1, x1, e1, g1⟩ := p_X10_beginMac hR hST (len := 32) hsec uK (by omega) V tot h m w x
  have e1' : f_X10_beginMac 32 tot RO ST h m (zrow 0 32 k sec) w x = some (t1, h1, m1, w1, x1) := e1
  simp only [zbE, e1']
  rw [zjE]
  refine zl_say (F := b_X10_nextV_10 RO v _) hR v 32 w1 x1 (fun o => ∃ scs' tot' dg' h' in' m' sec' v' w' x', o = some (scs', tot', dg', h', in', m', sec', v', w', x') ∧ eqN 32 v' (drV K V)) g1 ?_ (by omega) (by omega) ?_ ?_
  · intro i hi
    rw [hmI_hi, hv i hi]
    exact uV i hi
  · intro self h2 m2 t2 w2 x2 g2
    simp only [b_X10_nextV_10]
    rw [if_pos (by decide)]
    obtain ⟨t3, d3, h3, i3, m3, w3, x3, e3, g3⟩ := p_X10_endMac hR hST (len := 32) (n := 32) hsec uK (by omega) g2 (by omega) dg inner w2 x2
    have e3' : f_X10_endMac 32 t2 RO ST dg h2 inner m2 (zrow 0 32 k sec) w2 x2 = some (t3, d3, h3, i3, m3, w3, x3) := e3
    simp only [e3', zbE]
    rw [zjE]
    have key : ∀ KK : (Nat → Int32) → Option (Int32 × Int64 × (Nat → Int32) × (Nat → Int32) × (Nat → Int32) × (Nat → Int32) × (Nat → Int32) × (Nat → Int32) × (Nat → Int32) × (Nat → Int32)), zl (b_X10_nextV_38 d3 KK) zF ((0 : Int32), v) = KK (zrow 0 32 d3 v) := by
      intro KK
      refine zl_cpy (F := b_X10_nextV_38 d3 KK) 0 32 d3 v KK (by omega) ?_ ?_
      · intro self f
        simp only [b_X10_nextV_38]
        exact if_pos (by decide)
      · intro self i f hi
        simp (disch := omega) only [b_X10_nextV_38, zle1, if_neg, zCl, zki, zki2, znE, zA, Nat.zero_add, zlt2]
    rw [key]
    exact ⟨_, _, _, _, _, _, _, _, _, _, rfl, fun j hj => (zrow_0 hj).trans (g3 j hj)⟩
  · intro self i h m t w x t' h' m' w' x' hi e
    simp only [b_X10_nextV_10]
    rw [if_neg (show ¬ (32 : Int32) ≤ nI i from nI_ge (b := 32) hi (by omega)), zk_T (nI_in (by omega) (by omega)), nI_clamp (by omega)]
    simp only [e, zbE, nI_1]
theorem dgM_lo {v d : Nat → Int32} {r : Int32} {t : Nat} (h : t < 32) : dgM v r d t = v t := if_pos h
theorem dgM_32 {v d : Nat → Int32} {r : Int32} : dgM v r d 32 = r := rfl
theorem dgM_hi {v d : Nat → Int32} {r : Int32} (t : Nat) : dgM v r d (33 + t) = d t := by
  unfold dgM
  rw [if_neg (by omega), if_neg (by omega), Nat.add_sub_cancel_left]
set_option maxHeartbeats 8000000 in
theorem p_X10_upd_step {RO ST : Nat → Int32} (hR : ∀ j, j < 64 → RO j = tb_CONSTANTS.getD j 0) (hST : ∀ j, j < 8 → ST j = tb_BEGINNING.getD j 0) {n i : Nat} {k v K V d res : Nat → Int32}
    (KK : (Nat → Int32) → (Nat → Int32) → (Nat → Int32) → (Nat → Int32) → (Nat → Int32) → (Nat → Int32) → Int32 → Int64 → (Nat → Int32) → (Nat → Int32) → (Nat → Int32) → Option (Int32 × Int64 × (Nat → Int32) × (Nat → Int32) × (Nat → Int32) × (Nat → Int32) × (Nat → Int32) × (Nat → Int32) × (Nat → Int32) × (Nat → Int32) × (Nat → Int32)))
    (self : Int32 × (Nat → Int32) × (Nat → Int32) × (Nat → Int32) × (Nat → Int32) × (Nat → Int32) × (Nat → Int32) × Int32 × Int64 × (Nat → Int32) × (Nat → Int32) × (Nat → Int32) → Option (Int32 × Int64 × (Nat → Int32) × (Nat → Int32) × (Nat → Int32) × (Nat → Int32) × (Nat → Int32) × (Nat → Int32) × (Nat → Int32) × (Nat → Int32) × (Nat → Int32)))
    (hk : eqN 32 k K) (hv : eqN 32 v V) (uK : isU8 K 32) (uV : isU8 V 32) (hd : eqN n res d) (ud : isU8 d n) (hn : n ≤ 64) (hi : i < 2) (hc : i = 0 ∨ 0 < n) (scs : Int32) (tot : Int64) (dg h inner m sec w x : Nat → Int32) :
    ∃ dg' h' in' k' m' sec' scs' tot' v' w' x', b_X10_update_2 (nI n) RO ST res KK self (nI i, dg, h, inner, k, m, sec, scs, tot, v, w, x) = self (nI (i + 1), dg', h', in', k', m', sec', scs', tot', v', w', x') ∧ eqN 32 k' (drU1 K V (nI i) d n).1 ∧ eqN 32 v' (drU1 K V (nI i) d n).2 := by
  have cond : ∀ q : Option (Int32 × Int64 × (Nat → Int32) × (Nat → Int32) × (Nat → Int32) × (Nat → Int32) × (Nat → Int32) × (Nat → Int32) × (Nat → Int32) × (Nat → Int32) × (Nat → Int32)), ∀ r, (if nI i = 0 then q else if nI n ≤ 0 then r else q) = q := by
    intro q r
    by_cases h0 : i = 0
    · rw [if_pos (by rw [h0]; rfl)]
    · rw [if_neg (nI_ne0 (by omega) (by omega)), if_neg (nI_nle (by omega) (by omega))]
  simp only [b_X10_update_2, zjE]
  rw [if_neg (show ¬ (2 : Int32) ≤ nI i from nI_ge (b := 2) hi (by omega)), cond, p_X10_secretK]
  have hsec : ∀ t, t < 32 → zrow 0 32 k sec t = K t := fun t ht => (zrow_0 ht).trans (hk t ht)
  obtain ⟨t1, h1, m1, w1, x1, e1, g1⟩ := p_X10_beginMac hR hST (len := 32) hsec uK (by omega) (dgM V (nI i) d) tot h m w x
  have e1' : f_X10_beginMac 32 tot RO ST h m (zrow 0 32 k sec) w x = some (t1, h1, m1, w1, x1) := e1
  simp only [zbE, e1']
  refine zl_say (F := b_X10_update_25 RO v _) hR v 32 w1 x1 (fun o => ∃ dg' h' in' k' m' sec' scs' tot' v' w' x', o = self (nI (i + 1), dg', h', in', k', m', sec', scs', tot', v', w', x') ∧ eqN 32 k' (drU1 K V (nI i) d n).1 ∧ eqN 32 v' (drU1 K V (nI i) d n).2) g1 ?_ (by omega) (by omega) ?_ ?_
  · intro j hj
    rw [hmI_hi, dgM_lo hj, hv j hj]
    exact uV j hj
  · intro _ h2 m2 t2 w2 x2 g2
    simp only [b_X10_update_25]
    rw [if_pos (by decide)]
    obtain ⟨t3, h3, m3, w3, x3, e3, g3⟩ := p_X10_say hR w2 x2 (nI i) g2 (by
      rw [show 64 + 32 = 64 + 32 from rfl, hmI_hi, dgM_32]
      exact nI_u (by omega)) (by omega)
    simp only [e3, zbE]
    refine zl_say (F := b_X10_update_54 (nI n) RO res _) hR res n w3 x3 (fun o => ∃ dg' h' in' k' m' sec' scs' tot' v' w' x', o = self (nI (i + 1), dg', h', in', k', m', sec', scs', tot', v', w', x') ∧ eqN 32 k' (drU1 K V (nI i) d n).1 ∧ eqN 32 v' (drU1 K V (nI i) d n).2) g3 ?_ (by omega) (by omega) ?_ ?_
    · intro j hj
      rw [show 64 + 32 + 1 + j = 64 + (33 + j) by omega, hmI_hi, dgM_hi, hd j hj]
      exact ud j hj
    · intro _ h4 m4 t4 w4 x4 g4
      simp only [b_X10_update_54]
      rw [if_pos (nI_le (Nat.le_refl _) (by omega))]
      rw [show 64 + 32 + 1 + n = 64 + (33 + n) by omega] at g4
      obtain ⟨t5, d5, h5, i5, m5, w5, x5, e5, g5⟩ := p_X10_endMac hR hST (len := 32) (n := 33 + n) hsec uK (by omega) g4 (by omega) dg inner w4 x4
      have e5' : f_X10_endMac 32 t4 RO ST dg h4 inner m4 (zrow 0 32 k sec) w4 x4 = some (t5, d5, h5, i5, m5, w5, x5) := e5
      simp only [e5', zbE]
      have key : ∀ KK : (Nat → Int32) → Option (Int32 × Int64 × (Nat → Int32) × (Nat → Int32) × (Nat → Int32) × (Nat → Int32) × (Nat → Int32) × (Nat → Int32) × (Nat → Int32) × (Nat → Int32) × (Nat → Int32)), zl (b_X10_update_81 d5 KK) zF ((0 : Int32), k) = KK (zrow 0 32 d5 k) := by
        intro KK
        refine zl_cpy (F := b_X10_update_81 d5 KK) 0 32 d5 k KK (by omega) ?_ ?_
        · intro self f
          simp only [b_X10_update_81]
          exact if_pos (by decide)
        · intro self i f hi
          simp (disch := omega) only [b_X10_update_81, zle1, if_neg, zCl, zki, zki2, znE, zA, Nat.zero_add, zlt2]
      rw [key]
      have hk5 : eqN 32 (zrow 0 32 d5 k) (drK K V (nI i) d n) := fun j hj => (zrow_0 hj).trans (g5 j hj)
      obtain ⟨s6, t6, d6, h6, i6, m6, c6, v6, w6, x6, e6, g6⟩ := p_X10_nextV hR hST hk5 hv (hmac_u _ _ _ _) uV 32 t5 d5 h5 i5 m5 (zrow 0 32 k sec) w5 x5
      simp only [e6, zbE, nI_1]
      exact ⟨_, _, _, _, _, _, _, _, _, _, _, rfl, hk5, g6⟩
    · intro _ j h m t w x t' h' m' w' x' hj e
      simp only [b_X10_update_54]
      rw [if_neg (nI_ge hj (by omega)), zk_T (nI_in (by omega) (by omega)), nI_clamp (by omega)]
      simp only [e, zbE, nI_1]
  · intro _ j h m t w x t' h' m' w' x' hj e
    simp only [b_X10_update_25]
    rw [if_neg (show ¬ (32 : Int32) ≤ nI j from nI_ge (b := 32) hj (by omega)), zk_T (nI_in (by omega) (by omega)), nI_clamp (by omega)]
    simp only [e, zbE, nI_1]
set_option maxHeartbeats 8000000 in
theorem p_X10_update {RO ST : Nat → Int32} (hR : ∀ j, j < 64 → RO j = tb_CONSTANTS.getD j 0) (hST : ∀ j, j < 8 → ST j = tb_BEGINNING.getD j 0) {n : Nat} {k v K V d res : Nat → Int32} (hk : eqN 32 k K) (hv : eqN 32 v V) (uK : isU8 K 32) (uV : isU8 V 32) (hd : eqN n res d) (ud : isU8 d n) (hn : n ≤ 64) (scs : Int32) (tot : Int64) (dg h inner m sec w x : Nat → Int32) :
    ∃ scs' tot' dg' h' in' k' m' sec' v' w' x', f_X10_update (nI n) scs tot RO ST dg h inner k m res sec v w x = some (scs', tot', dg', h', in', k', m', sec', v', w', x') ∧ eqN 32 k' (drU K V d n).1 ∧ eqN 32 v' (drU K V d n).2 := by
  unfold f_X10_update
  rw [zjE]
  obtain ⟨q, hF⟩ : ∃ q, zF = q + 3 := ⟨zF - 3, by have := zF_big; omega⟩
  rw [hF]
  obtain ⟨d1, h1, i1, k1, m1, c1, s1, t1, v1, w1, x1, e1, g1, g2⟩ := p_X10_upd_step (i := 0) hR hST (fun c_digest_13 c_h_14 c_inner_15 c_k_16 c_message_17 c_secret_18 c_secrets_19 c_total_20 c_v_21 c_w_22 c_x_23 => some (c_secrets_19, c_total_20, c_digest_13, c_h_14, c_inner_15, c_k_16, c_message_17, c_secret_18, c_v_21, c_w_22, c_x_23)) (zl (b_X10_update_2 (nI n) RO ST res (fun c_digest_13 c_h_14 c_inner_15 c_k_16 c_message_17 c_secret_18 c_secrets_19 c_total_20 c_v_21 c_w_22 c_x_23 => some (c_secrets_19, c_total_20, c_digest_13, c_h_14, c_inner_15, c_k_16, c_message_17, c_secret_18, c_v_21, c_w_22, c_x_23))) (q + 2)) hk hv uK uV hd ud hn (by omega) (Or.inl rfl) scs tot dg h inner m sec w x
  by_cases h0 : n = 0
  · unfold drU
    rw [if_pos h0]
    refine ⟨s1, t1, d1, h1, i1, k1, m1, c1, v1, w1, x1, Eq.trans e1 ?_, g1, g2⟩
    show b_X10_update_2 (nI n) RO ST res _ (zl (b_X10_update_2 (nI n) RO ST res _) (q + 1)) (nI (0 + 1), d1, h1, i1, k1, m1, c1, s1, t1, v1, w1, x1) = _
    simp only [b_X10_update_2, zjE]
    rw [if_neg (by decide), if_neg (by decide), if_pos (by rw [h0]; decide)]
  · unfold drU
    rw [if_neg h0]
    obtain ⟨d2, h2, i2, k2, m2, c2, s2, t2, v2, w2, x2, e2, g3, g4⟩ := p_X10_upd_step (i := 1) hR hST (fun c_digest_13 c_h_14 c_inner_15 c_k_16 c_message_17 c_secret_18 c_secrets_19 c_total_20 c_v_21 c_w_22 c_x_23 => some (c_secrets_19, c_total_20, c_digest_13, c_h_14, c_inner_15, c_k_16, c_message_17, c_secret_18, c_v_21, c_w_22, c_x_23)) (zl (b_X10_update_2 (nI n) RO ST res (fun c_digest_13 c_h_14 c_inner_15 c_k_16 c_message_17 c_secret_18 c_secrets_19 c_total_20 c_v_21 c_w_22 c_x_23 => some (c_secrets_19, c_total_20, c_digest_13, c_h_14, c_inner_15, c_k_16, c_message_17, c_secret_18, c_v_21, c_w_22, c_x_23))) (q + 1)) g1 g2 (hmac_u _ _ _ _) (hmac_u _ _ _ _) hd ud hn (by omega) (Or.inr (by omega)) s1 t1 d1 h1 i1 m1 c1 w1 x1
    refine ⟨s2, t2, d2, h2, i2, k2, m2, c2, v2, w2, x2, Eq.trans e1 (Eq.trans e2 ?_), g3, g4⟩
    show b_X10_update_2 (nI n) RO ST res _ (zl (b_X10_update_2 (nI n) RO ST res _) q) (nI (1 + 1), d2, h2, i2, k2, m2, c2, s2, t2, v2, w2, x2) = _
    simp only [b_X10_update_2]
    exact if_pos (by decide)
