/-! the generator: HMAC_DRBG; a class' row of bytes c over a row of unsigned bytes m -/
def RB (n : Nat) (c m : Nat → Int32) : Prop := ∀ j, j < n → c j = sB (m j)
theorem RB_u {n : Nat} {c m : Nat → Int32} (h : RB n c m) (u : isU8 m n) {j : Nat} (hj : j < n) : c j &&& 255 = m j := by
  rw [h j hj, sB_and, u j hj]
theorem RB_fit {n : Nat} {c m : Nat → Int32} (h : RB n c m) {j : Nat} (hj : j < n) : fits .byte (.int (c j)) = true := by
  rw [h j hj]
  exact pk_fb (m j)
theorem shD_congr {b c : Nat → Int32} {n : Nat} (h : ∀ t, t < n → b t = c t) : ∀ j, j < 32 → shD b n j = shD c n j := by
  intro j hj
  refine shDB_congr (fun q hq => shN_congr _ (fun t ht => ?_) q hq) hj
  unfold shPad
  by_cases h1 : t < n
  · rw [if_pos h1, if_pos h1, h t h1]
  · rw [if_neg h1, if_neg h1]
theorem hmI_congr {len : Nat} {k l d e : Nat → Int32} {p : Int32} {n : Nat} (hk : ∀ t, t < len → k t = l t) (hd : ∀ t, t < n → d t = e t) {t : Nat} (ht : t < 64 + n) : hmI len k d p t = hmI len l e p t := by
  unfold hmI
  by_cases h : t < 64
  · rw [if_pos h, if_pos h]
    by_cases h2 : t < len
    · rw [if_pos h2, if_pos h2, hk t h2]
    · rw [if_neg h2, if_neg h2]
  · rw [if_neg h, if_neg h, hd _ (by omega)]
theorem hmac_congr {len n : Nat} {k l d e : Nat → Int32} (hk : ∀ t, t < len → k t = l t) (hd : ∀ t, t < n → d t = e t) : ∀ j, j < 32 → hmac len k d n j = hmac len l e n j := by
  unfold hmac
  refine shD_congr (fun t ht => hmI_congr (n := 32) hk (fun q hq => ?_) (by omega))
  exact shD_congr (fun r hr => hmI_congr (n := n) hk hd hr) q hq
theorem hmac_u (len : Nat) (k d : Nat → Int32) (n : Nat) : isU8 (hmac len k d n) 32 := fun j _ => shD_u _ _ j
def dgM (v : Nat → Int32) (r : Int32) (d : Nat → Int32) (t : Nat) : Int32 := if t < 32 then v t else if t = 32 then r else d (t - 33)
def drK (K V : Nat → Int32) (r : Int32) (d : Nat → Int32) (n : Nat) : Nat → Int32 := hmac 32 K (dgM V r d) (33 + n)
def drV (K V : Nat → Int32) : Nat → Int32 := hmac 32 K V 32
def drU1 (K V : Nat → Int32) (r : Int32) (d : Nat → Int32) (n : Nat) : (Nat → Int32) × (Nat → Int32) := (drK K V r d n, drV (drK K V r d n) V)
def drU (K V d : Nat → Int32) (n : Nat) : (Nat → Int32) × (Nat → Int32) := if n = 0 then drU1 K V 0 d n else drU1 (drU1 K V 0 d n).1 (drU1 K V 0 d n).2 1 d n
theorem zrow_RB {n : Nat} {m f : Nat → Int32} : RB n (zrow 0 n (fun j => sB (m j)) f) m := fun j hj => zrow_0 hj
theorem dgM_u {v d : Nat → Int32} {r : Int32} {n : Nat} (hv : isU8 v 32) (hr : r &&& 255 = r) (hd : isU8 d n) : isU8 (dgM v r d) (33 + n) := by
  intro t ht
  unfold dgM
  by_cases h1 : t < 32
  · rw [if_pos h1]; exact hv t h1
  · rw [if_neg h1]
    by_cases h2 : t = 32
    · rw [if_pos h2]; exact hr
    · rw [if_neg h2]; exact hd _ (by omega)
set_option maxHeartbeats 4000000 in
theorem p_X3_macV {key val K V : Nat → Int32} (fl tot : Int32) (inner sc su : Nat → Int32) (hK : RB 32 key K) (hV : RB 32 val V) (uK : isU8 K 32) (uV : isU8 V 32) :
    ∃ inner' sc' su' val', f_X7_mac_6a3 32 32 32 0 32 0 fl tot inner sc su key val = some (0, 96, inner', sc', su', val') ∧ RB 32 val' (drV K V) := by
  obtain ⟨in1, s1, u1, e1⟩ := p_X7_mac (N1 := 32) (N3 := 32) (N6 := 32) (len := 32) (a := 0) (n := 32) (to := 0) (kk := K) (d := V) (ca1 := key) (ca3 := val) fl tot inner sc su val (fun t ht => RB_u hK uK ht) (fun i hi => by rw [Nat.zero_add]; exact RB_u hV uV hi) (by omega) (by omega) (by omega) (by omega) (by omega) (by omega) (by omega)
  refine ⟨in1, s1, u1, _, e1, zrow_RB⟩
set_option maxHeartbeats 4000000 in
theorem p_X3_step {N n i : Nat} {K V d key val ca : Nat → Int32} (v : Int32) (KK : (Nat → Int32) → (Nat → Int32) → Int32 → (Nat → Int32) → (Nat → Int32) → (Nat → Int32) → Int32 → (Nat → Int32) → Option ((Nat → Int32) × (Nat → Int32) × Int32 × Int32 × (Nat → Int32) × (Nat → Int32) × (Nat → Int32) × (Nat → Int32)))
    (self : Int32 × (Nat → Int32) × (Nat → Int32) × Int32 × (Nat → Int32) × (Nat → Int32) × (Nat → Int32) × Int32 × (Nat → Int32) → Option ((Nat → Int32) × (Nat → Int32) × Int32 × Int32 × (Nat → Int32) × (Nat → Int32) × (Nat → Int32) × (Nat → Int32)))
    (msg : Nat → Int32) (fl tot : Int32) (inner sc su : Nat → Int32) (hv : ¬ v ≤ nI i) (hi : i < 2) (hK : RB 32 key K) (hV : RB 32 val V) (uK : isU8 K 32) (uV : isU8 V 32) (hd : RB n ca d) (ud : isU8 d n) (hn : n ≤ 64) (hN : n ≤ N) :
    ∃ key' msg' inner' sc' su' val', b_X3_update_13 N (nI n) ca v KK self (nI i, key, msg, fl, inner, sc, su, tot, val) = self (nI (i + 1), key', msg', 0, inner', sc', su', 96, val') ∧ RB 32 key' (drU1 K V (nI i) d n).1 ∧ RB 32 val' (drU1 K V (nI i) d n).2 := by
  have e33 : (33 : Int32) + nI n = nI (33 + n) := nI_add 33 n
  have hp : ¬ nI n < 0 := nI_pos (by omega)
  obtain ⟨m3, hm3⟩ : ∃ q, q = va_cpy ca (upd (va_cpy val msg 0 0 32) 32 (nI i).toInt8.toInt32) 0 33 n := ⟨_, rfl⟩
  have hm : ∀ t, t < 33 + n → m3 (0 + t) &&& 255 = dgM V (nI i) d t := by
    intro t ht
    rw [hm3, Nat.zero_add]
    unfold dgM
    by_cases h1 : t < 32
    · rw [if_pos h1, pk_cpy_out (by omega), upd_n _ _ (by omega), pk_cpy_in (by omega) (by omega), Nat.zero_add, Nat.sub_zero]
      exact RB_u hV uV h1
    · rw [if_neg h1]
      by_cases h2 : t = 32
      · subst h2
        rw [if_pos rfl, pk_cpy_out (by omega), upd_s, bp_b]
        exact nI_u (by omega)
      · rw [if_neg h2, pk_cpy_in (by omega) (by omega), Nat.zero_add]
        exact RB_u hd ud (by omega)
  obtain ⟨in1, s1, u1, e1⟩ := p_X7_mac (N1 := 32) (N3 := 97) (N6 := 32) (len := 32) (a := 0) (n := 33 + n) (to := 0) (kk := K) (d := dgM V (nI i) d) (ca1 := key) (ca3 := m3) fl tot inner sc su key (fun t ht => RB_u hK uK ht) hm (by omega) (by omega) (by omega) (by omega) (by omega) (by omega) (by omega)
  have e1' : f_X7_mac_6a1 32 97 32 0 (nI (33 + n)) 0 fl tot inner sc su key m3 = some (0, 96, in1, s1, u1, zrow 0 32 (fun j => sB (hmac 32 K (dgM V (nI i) d) (33 + n) j)) key) := e1
  obtain ⟨in2, s2, u2, v2, e2, h2⟩ := p_X3_macV (K := drK K V (nI i) d n) 0 96 in1 s1 u1 (key := zrow 0 32 (fun j => sB (hmac 32 K (dgM V (nI i) d) (33 + n) j)) key) (zrow_RB (m := hmac 32 K (dgM V (nI i) d) (33 + n))) hV (hmac_u _ _ _ _) uV
  refine ⟨zrow 0 32 (fun j => sB (hmac 32 K (dgM V (nI i) d) (33 + n) j)) key, m3, in2, s2, u2, v2, ?_, zrow_RB (m := hmac 32 K (dgM V (nI i) d) (33 + n)), h2⟩
  simp only [b_X3_update_13]
  rw [if_neg hv]
  simp (disch := omega) only [zClk, zCl, zkk, znE, pk_vb, e33]
  rw [zk_T ⟨by decide, by decide, by decide, by omega, by omega, fun j hj => by rw [Nat.zero_add]; exact RB_fit hV hj⟩, zk_T ⟨by decide, by decide, hp, by omega, by omega, fun j hj => by rw [Nat.zero_add]; exact RB_fit hd hj⟩, ← hm3, e1', zbE]
  simp only [e2, zbE, nI_1]
set_option maxHeartbeats 4000000 in
theorem p_X3_update {N n : Nat} {K V d key val ca : Nat → Int32} (msg : Nat → Int32) (fl tot : Int32) (inner sc su : Nat → Int32) (hK : RB 32 key K) (hV : RB 32 val V) (uK : isU8 K 32) (uV : isU8 V 32) (hd : RB n ca d) (ud : isU8 d n) (hn : n ≤ 64) (hN : n ≤ N) :
    ∃ key' msg' inner' sc' su' val', f_X3_update N (nI n) key msg fl tot inner sc su val ca = some (key', msg', 0, 96, inner', sc', su', val') ∧ RB 32 key' (drU K V d n).1 ∧ RB 32 val' (drU K V d n).2 := by
  unfold f_X3_update
  rw [zjE]
  obtain ⟨m, hF⟩ : ∃ m, zF = m + 3 := ⟨zF - 3, by have := zF_big; omega⟩
  by_cases h0 : n = 0
  · rw [if_pos (by rw [h0]; rfl)]
    simp only [zjE]
    rw [hF]
    unfold drU
    rw [if_pos h0]
    obtain ⟨k1, m1, i1, s1, u1, v1, e1, g1, g2⟩ := p_X3_step (i := 0) (1 : Int32) (fun a b c d e f g h => some (a, b, c, g, d, e, f, h)) (zl (b_X3_update_13 N (nI n) ca 1 (fun a b c d e f g h => some (a, b, c, g, d, e, f, h))) (m + 2)) msg fl tot inner sc su (by decide) (by omega) hK hV uK uV hd ud hn hN
    refine ⟨k1, m1, i1, s1, u1, v1, ?_, g1, g2⟩
    refine Eq.trans e1 ?_
    show b_X3_update_13 N (nI n) ca 1 (fun a b c d e f g h => some (a, b, c, g, d, e, f, h)) (zl (b_X3_update_13 N (nI n) ca 1 (fun a b c d e f g h => some (a, b, c, g, d, e, f, h))) (m + 1)) (nI (0 + 1), k1, m1, 0, i1, s1, u1, 96, v1) = _
    simp only [b_X3_update_13]
    exact if_pos (by decide)
  · rw [if_neg (show ¬ nI n = 0 from fun q => h0 ((nI_eq (a := n) (b := 0) (by omega) (by omega)).mp q))]
    simp only [zjE]
    rw [hF]
    unfold drU
    rw [if_neg h0]
    obtain ⟨k1, m1, i1, s1, u1, v1, e1, g1, g2⟩ := p_X3_step (i := 0) (2 : Int32) (fun a b c d e f g h => some (a, b, c, g, d, e, f, h)) (zl (b_X3_update_13 N (nI n) ca 2 (fun a b c d e f g h => some (a, b, c, g, d, e, f, h))) (m + 2)) msg fl tot inner sc su (by decide) (by omega) hK hV uK uV hd ud hn hN
    obtain ⟨k2, m2, i2, s2, u2, v2, e2, g3, g4⟩ := p_X3_step (i := 1) (2 : Int32) (fun a b c d e f g h => some (a, b, c, g, d, e, f, h)) (zl (b_X3_update_13 N (nI n) ca 2 (fun a b c d e f g h => some (a, b, c, g, d, e, f, h))) (m + 1)) m1 0 96 i1 s1 u1 (by decide) (by omega) g1 g2 (hmac_u _ _ _ _) (hmac_u _ _ _ _) hd ud hn hN
    refine ⟨k2, m2, i2, s2, u2, v2, ?_, g3, g4⟩
    refine Eq.trans e1 (Eq.trans e2 ?_)
    show b_X3_update_13 N (nI n) ca 2 (fun a b c d e f g h => some (a, b, c, g, d, e, f, h)) (zl (b_X3_update_13 N (nI n) ca 2 (fun a b c d e f g h => some (a, b, c, g, d, e, f, h))) m) (nI (1 + 1), k2, m2, 0, i2, s2, u2, 96, v2) = _
    simp only [b_X3_update_13]
    exact if_pos (by decide)
