/-! CMAC: doubling -/
theorem bl_big {x : Int64} {i : Nat} (h : 64 ≤ i) : btl x i = false := BitVec.getLsbD_of_ge _ _ h
theorem u_ext {x y : Int32} (ux : x &&& 255 = x) (uy : y &&& 255 = y) (h : ∀ i, i < 8 → bt x i = bt y i) : x = y := b_ext (fun i hi => by
  by_cases h8 : i < 8
  · exact h i h8
  · rw [btU ux (by omega), btU uy (by omega)])
def cmD (s : Nat → Int32) (i : Nat) : Int32 := (((s i <<< ((1 : Int32) &&& 31)) ||| (if i < 15 then s (i + 1) >>> ((7 : Int32) &&& 31) else 0)) &&& 255) ^^^ (if i = 15 then 135 * (s 0 >>> ((7 : Int32) &&& 31)) else 0)
theorem d135 : ∀ k, k < 256 → ∀ i, i < 8 → bt (135 * (nI k >>> ((7 : Int32) &&& 31))) i = (bt (nI k) 7 && Nat.testBit 135 i) := by decide +kernel
theorem d135u : ∀ k, k < 256 → (135 * (nI k >>> ((7 : Int32) &&& 31))) &&& 255 = 135 * (nI k >>> ((7 : Int32) &&& 31)) := by decide +kernel
theorem cmD_u {s : Nat → Int32} (u : isU8 s 16) : isU8 (cmD s) 16 := by
  intro i _
  unfold cmD
  refine xorU (and255 _) ?_
  by_cases h : i = 15
  · rw [if_pos h]
    obtain ⟨k, hk, e⟩ := uNat (u 0 (by omega))
    rw [e]
    exact d135u k hk
  · rw [if_neg h]
    rfl
theorem bt_cmD {s : Nat → Int32} (u : isU8 s 16) {j i : Nat} (hj : j < 16) (hi : i < 8) : bt (cmD s j) i = ((if 1 ≤ i then bt (s j) (i - 1) else (decide (j < 15) && bt (s (j + 1)) 7)) ^^ (decide (j = 15) && (bt (s 0) 7 && Nat.testBit 135 i))) := by
  have e1 : bt (s j <<< ((1 : Int32) &&& 31)) i = (decide (1 ≤ i) && bt (s j) (i - 1)) := b_shl 1 (by decide) _ (by omega)
  have e2 : bt (if j < 15 then s (j + 1) >>> ((7 : Int32) &&& 31) else 0) i = (decide (j < 15) && (decide (i = 0) && bt (s (j + 1)) 7)) := by
    by_cases h : j < 15
    · rw [if_pos h, decide_eq_true h, Bool.true_and]
      have e : bt (s (j + 1) >>> ((7 : Int32) &&& 31)) i = if 7 + i < 32 then bt (s (j + 1)) (7 + i) else bt (s (j + 1)) 31 := b_sshr 7 (by decide) _ (by omega)
      rw [e, if_pos (by omega)]
      by_cases h0 : i = 0
      · subst h0
        rw [decide_eq_true rfl, Bool.true_and]
      · rw [decide_eq_false h0, Bool.false_and, btU (u _ (by omega)) (by omega)]
    · rw [if_neg h, decide_eq_false h, Bool.false_and]
      exact b_0 i
  have e3 : bt (if j = 15 then 135 * (s 0 >>> ((7 : Int32) &&& 31)) else 0) i = (decide (j = 15) && (bt (s 0) 7 && Nat.testBit 135 i)) := by
    by_cases h : j = 15
    · rw [if_pos h, decide_eq_true h, Bool.true_and]
      obtain ⟨k, hk, e⟩ := uNat (u 0 (by omega))
      rw [e]
      exact d135 k hk i hi
    · rw [if_neg h, decide_eq_false h, Bool.false_and]
      exact b_0 i
  unfold cmD
  rw [b_xor, b_and, b_or, e1, e2, e3, b_255, decide_eq_true hi, Bool.and_true]
  by_cases h1 : 1 ≤ i
  · rw [decide_eq_true h1, if_pos h1, decide_eq_false (show ¬ i = 0 by omega), Bool.false_and, Bool.and_false, Bool.or_false, Bool.true_and]
  · rw [decide_eq_false h1, if_neg h1, decide_eq_true (show i = 0 by omega), Bool.false_and, Bool.false_or, Bool.true_and]
theorem cmD_c {s t : Nat → Int32} (h : eq16 s t) : eq16 (cmD s) (cmD t) := by
  intro i hi
  unfold cmD
  rw [h i hi, h 0 (by omega)]
  by_cases hc : i < 15
  · rw [if_pos hc, if_pos hc, h _ (by omega)]
  · rw [if_neg hc, if_neg hc]
theorem b135 : ∀ i, i < 8 → bt 135 i = Nat.testBit 135 i := by decide +kernel
theorem cmD_hi {s : Nat → Int32} (u : isU8 s 16) {j : Nat} (hj : j < 8) : lB ((L8 s <<< ((1 : Int32).toInt64 &&& 63)) ||| ((L8 (fun t => s (8 + t))).toUInt64 >>> ((63 : Int32).toInt64.toUInt64 &&& Int64.toUInt64 63)).toInt64) j = cmD s j := by
  have uh : isU8 s 8 := fun i hi => u i (by omega)
  have ul : isU8 (fun t => s (8 + t)) 8 := fun i hi => u (8 + i) (by omega)
  refine u_ext (lB_u _ hj) (cmD_u u j (by omega)) (fun i hi => ?_)
  have e1 : btl (L8 s <<< ((1 : Int32).toInt64 &&& 63)) (56 - 8 * j + i) = (decide (1 ≤ 56 - 8 * j + i) && btl (L8 s) (56 - 8 * j + i - 1)) := bl_shl 1 (by decide) _ (by omega)
  have e2 : ∀ k, btl (((L8 (fun t => s (8 + t))).toUInt64 >>> ((63 : Int32).toInt64.toUInt64 &&& Int64.toUInt64 63)).toInt64) k = btl (L8 (fun t => s (8 + t))) (63 + k) := bl_ushr 63 (by decide) _
  rw [bt_lB hj _ (by omega), decide_eq_true hi, Bool.true_and, bl_or, e1, e2, bt_cmD u (by omega) hi, decide_eq_false (show ¬ j = 15 by omega), Bool.false_and, Bool.xor_false]
  by_cases h1 : 1 ≤ i
  · rw [if_pos h1, decide_eq_true (by omega), Bool.true_and, bl_big (x := L8 (fun t => s (8 + t))) (i := 63 + (56 - 8 * j + i)) (by omega), Bool.or_false, bl_L8 uh (by omega), show 7 - (56 - 8 * j + i - 1) / 8 = j by omega, show (56 - 8 * j + i - 1) % 8 = i - 1 by omega]
  · rw [if_neg h1, decide_eq_true (show j < 15 by omega), Bool.true_and]
    by_cases h7 : j < 7
    · rw [decide_eq_true (by omega), Bool.true_and, bl_big (x := L8 (fun t => s (8 + t))) (i := 63 + (56 - 8 * j + i)) (by omega), Bool.or_false, bl_L8 uh (by omega), show 7 - (56 - 8 * j + i - 1) / 8 = j + 1 by omega, show (56 - 8 * j + i - 1) % 8 = 7 by omega]
    · rw [decide_eq_false (by omega), Bool.false_and, Bool.false_or, bl_L8 ul (by omega), show 7 - (63 + (56 - 8 * j + i)) / 8 = 0 by omega, show (63 + (56 - 8 * j + i)) % 8 = 7 by omega, show j + 1 = 8 + 0 by omega]
theorem cmD_lo {s : Nat → Int32} (u : isU8 s 16) {c : Int32} (hc : ∀ k, k < 64 → btl c.toInt64 k = (decide (k < 8) && (bt (s 0) 7 && Nat.testBit 135 k))) {j : Nat} (hj : j < 8) : lB ((L8 (fun t => s (8 + t)) <<< ((1 : Int32).toInt64 &&& 63)) ^^^ c.toInt64) j = cmD s (8 + j) := by
  have ul : isU8 (fun t => s (8 + t)) 8 := fun i hi => u (8 + i) (by omega)
  refine u_ext (lB_u _ hj) (cmD_u u (8 + j) (by omega)) (fun i hi => ?_)
  have e1 : btl (L8 (fun t => s (8 + t)) <<< ((1 : Int32).toInt64 &&& 63)) (56 - 8 * j + i) = (decide (1 ≤ 56 - 8 * j + i) && btl (L8 (fun t => s (8 + t))) (56 - 8 * j + i - 1)) := bl_shl 1 (by decide) _ (by omega)
  rw [bt_lB hj _ (by omega), decide_eq_true hi, Bool.true_and, bl_xor, e1, hc _ (by omega), bt_cmD u (by omega) hi]
  by_cases h7 : j < 7
  · rw [decide_eq_false (show ¬ 56 - 8 * j + i < 8 by omega), decide_eq_false (show ¬ 8 + j = 15 by omega), Bool.false_and, Bool.false_and, Bool.xor_false, Bool.xor_false, decide_eq_true (show 1 ≤ 56 - 8 * j + i by omega), Bool.true_and, bl_L8 ul (by omega)]
    by_cases h1 : 1 ≤ i
    · rw [if_pos h1, show 7 - (56 - 8 * j + i - 1) / 8 = j by omega, show (56 - 8 * j + i - 1) % 8 = i - 1 by omega]
    · rw [if_neg h1, decide_eq_true (show 8 + j < 15 by omega), Bool.true_and, show 7 - (56 - 8 * j + i - 1) / 8 = j + 1 by omega, show (56 - 8 * j + i - 1) % 8 = 7 by omega]
      rfl
  · have e7 : j = 7 := by omega
    subst e7
    rw [show 56 - 8 * 7 + i = i by omega, decide_eq_true hi, decide_eq_true (show 8 + 7 = 15 by omega), Bool.true_and]
    by_cases h1 : 1 ≤ i
    · rw [if_pos h1, decide_eq_true h1, Bool.true_and, bl_L8 ul (by omega), show 7 - (i - 1) / 8 = 7 by omega, show (i - 1) % 8 = i - 1 by omega]
    · rw [if_neg h1, decide_eq_false h1, Bool.false_and, decide_eq_false (show ¬ 8 + 7 < 15 by omega), Bool.false_and]
set_option maxHeartbeats 4000000 in
theorem p_X4_doublePad {pad s : Nat → Int32} (h : RB 16 pad s) (u : isU8 s 16) : ∃ pad', f_X4_doublePad pad = some pad' ∧ RB 16 pad' (cmD s) := by
  have eh := p_X9_longAt (N := 16) (a := 0) pad (by omega) (by omega)
  have el := p_X9_longAt (N := 16) (a := 8) pad (by omega) (by omega)
  have ch : L8 (fun t => pad (0 + t) &&& 255) = L8 s := L8_c (fun j hj => by rw [Nat.zero_add]; exact RB_u h u (by omega))
  have cl : L8 (fun t => pad (8 + t) &&& 255) = L8 (fun t => s (8 + t)) := L8_c (fun j hj => RB_u h u (by omega))
  rw [ch] at eh
  rw [cl] at el
  have eh' : f_X9_longAt 16 (0 : Int32) pad = some (L8 s) := eh
  have el' : f_X9_longAt 16 (8 : Int32) pad = some (L8 (fun t => s (8 + t))) := el
  have w1 : ∀ v f, f_X9_putLong 16 (0 : Int32) v f = some (zrow 0 8 (fun j => sB (lB v j)) f) := fun v f => p_X9_putLong (N := 16) (a := 0) v f (by omega) (by omega)
  have w2 : ∀ v f, f_X9_putLong 16 (8 : Int32) v f = some (zrow 8 8 (fun j => sB (lB v j)) f) := fun v f => p_X9_putLong (N := 16) (a := 8) v f (by omega) (by omega)
  have b7 : btl (L8 s) 63 = bt (s 0) 7 := bl_L8 (fun i hi => u i (by omega)) (by omega)
  have key : ∀ c : Int32, (∀ k, k < 64 → btl c.toInt64 k = (decide (k < 8) && (bt (s 0) 7 && Nat.testBit 135 k))) → ∃ pad', (f_X9_putLong 16 (8 : Int32) ((L8 (fun t => s (8 + t)) <<< ((1 : Int32).toInt64 &&& 63)) ^^^ c.toInt64) (zrow 0 8 (fun j => sB (lB ((L8 s <<< ((1 : Int32).toInt64 &&& 63)) ||| ((L8 (fun t => s (8 + t))).toUInt64 >>> ((63 : Int32).toInt64.toUInt64 &&& Int64.toUInt64 63)).toInt64) j)) pad)).bind (fun c => some c) = some pad' ∧ RB 16 pad' (cmD s) := by
    intro c hc
    rw [w2, zbE]
    refine ⟨_, rfl, fun j hj => ?_⟩
    by_cases h8 : j < 8
    · rw [zrow_out (by omega), zrow_0 h8, cmD_hi u h8]
    · rw [zrow_in (by omega) (by omega), cmD_lo u hc (by omega), show 8 + (j - 8) = j by omega]
  unfold f_X4_doublePad
  rw [eh', zbE, el', zbE, w1, zbE]
  by_cases hb : btl (L8 s) 63 = false
  · rw [if_pos ((lgn _).mpr hb)]
    refine key 0 (fun k hk => ?_)
    rw [← b7, hb, Bool.false_and, Bool.and_false]
    exact bl_0 k
  · rw [if_neg (fun q => hb ((lgn _).mp q))]
    refine key 135 (fun k hk => ?_)
    rw [← b7, show btl (L8 s) 63 = true by revert hb; cases btl (L8 s) 63 <;> decide, Bool.true_and, bl_u (by decide) hk]
    by_cases h8 : k < 8
    · rw [decide_eq_true h8, b135 k h8]
    · rw [decide_eq_false h8, Bool.false_and, Bool.false_and]
/-! CMAC in the class -/
def cmV (m : Nat → Int32) (a n k t : Nat) : Int32 := if 16 * k + t < n then m (a + (16 * k + t)) else if 16 * k + t = n then 128 else 0
def cmB (m : Nat → Int32) (a n L : Nat) (Q : Nat → Int32) (k : Nat) (s : Nat → Int32) : Nat → Int32 := fun t => (s t ^^^ cmV m a n k t) ^^^ (if k = L then Q t else 0)
def cmX (E : (Nat → Int32) → Nat → Int32) (m : Nat → Int32) (a n L : Nat) (Q : Nat → Int32) : Nat → (Nat → Int32)
  | 0 => fun _ => 0
  | k + 1 => E (cmB m a n L Q k (cmX E m a n L Q k))
def cmQ (E : (Nat → Int32) → Nat → Int32) (n : Nat) : Nat → Int32 := if 0 < n ∧ n % 16 = 0 then cmD (E (fun _ => 0)) else cmD (cmD (E (fun _ => 0)))
def cmac (E : (Nat → Int32) → Nat → Int32) (m : Nat → Int32) (a n : Nat) : Nat → Int32 := cmX E m a n ((n - 1) / 16) (cmQ E n) ((n - 1) / 16 + 1)
theorem cmV_u {m : Nat → Int32} {N a n : Nat} (u : isU8 m N) (h : a + n ≤ N) (k t : Nat) : cmV m a n k t &&& 255 = cmV m a n k t := by
  unfold cmV
  by_cases h1 : 16 * k + t < n
  · rw [if_pos h1]
    exact u _ (by omega)
  · rw [if_neg h1]
    by_cases h2 : 16 * k + t = n
    · rw [if_pos h2]
      rfl
    · rw [if_neg h2]
      rfl
theorem cmB_u {m Q s : Nat → Int32} {N a n L k : Nat} (u : isU8 m N) (h : a + n ≤ N) (uQ : isU8 Q 16) (us : isU8 s 16) : isU8 (cmB m a n L Q k s) 16 := by
  intro t ht
  refine xorU (xorU (us t ht) (cmV_u u h k t)) ?_
  by_cases hc : k = L
  · rw [if_pos hc]
    exact uQ t ht
  · rw [if_neg hc]
    rfl
theorem cmX_u {E : (Nat → Int32) → Nat → Int32} (hE : ∀ s, isU8 s 16 → isU8 (E s) 16) {m Q : Nat → Int32} {N a n L : Nat} (u : isU8 m N) (h : a + n ≤ N) (uQ : isU8 Q 16) : ∀ k, isU8 (cmX E m a n L Q k) 16
  | 0 => fun _ _ => by
    show (0 : Int32) &&& 255 = 0
    decide
  | k + 1 => hE _ (cmB_u u h uQ (cmX_u hE u h uQ k))
theorem cmQ_u {E : (Nat → Int32) → Nat → Int32} (hE : ∀ s, isU8 s 16 → isU8 (E s) 16) (n : Nat) : isU8 (cmQ E n) 16 := by
  unfold cmQ
  by_cases h : 0 < n ∧ n % 16 = 0
  · rw [if_pos h]
    exact cmD_u (hE _ (fun _ _ => rfl))
  · rw [if_neg h]
    exact cmD_u (cmD_u (hE _ (fun _ _ => rfl)))
theorem c_enc0 {R : Nat} {keys rk x y : Nat → Int32} (hx : RB 16 x y) (hy : isU8 y 16) (h1 : 1 ≤ R) (hR : R ≤ 14) (hk : ∀ t, t < 16 * (R + 1) → kB keys t = rk t) : f_X0_encrypt 16 (0 : Int32) (nI R) keys x = some (zrow 0 16 (fun j => sB (aesE rk R y j)) x) := by
  have e := c_enc (a := 0) hx hy (by omega) (by omega) h1 hR hk
  simp only [Nat.zero_add] at e
  exact e
theorem c_dec0 {R : Nat} {keys rk x y : Nat → Int32} (hx : RB 16 x y) (hy : isU8 y 16) (h1 : 1 ≤ R) (hR : R ≤ 14) (hk : ∀ t, t < 16 * (R + 1) → kB keys t = rk t) : f_X0_decrypt 16 (0 : Int32) (nI R) keys x = some (zrow 0 16 (fun j => sB (aesD rk R y j)) x) := by
  have e := c_dec (a := 0) hx hy (by omega) (by omega) h1 hR hk
  simp only [Nat.zero_add] at e
  exact e
theorem c_zero (f : Nat → Int32) : f_J7_fill_031fb 16 (0 : Int32) f = some (zrow 0 16 (fun _ => 0) f) := p_J7_fillB 0 f (by decide) (by omega)
theorem RB_zero {n : Nat} (f : Nat → Int32) : RB n (zrow 0 n (fun _ => 0) f) (fun _ => 0) := fun j hj => by
  rw [zrow_0 hj]
  rfl
set_option maxHeartbeats 8000000 in
theorem p_X4_cmac {N a n to R : Nat} {keys rk c m : Nat → Int32} (bl pad : Nat → Int32) (h : RB N c m) (u : isU8 m N) (ha : a + n ≤ N) (ht : to + 16 ≤ N) (hN : N ≤ 1500) (h1 : 1 ≤ R) (hR : R ≤ 14) (hk : ∀ t, t < 16 * (R + 1) → kB keys t = rk t) (uk : isU8 rk (16 * (R + 1))) :
    ∃ bl' pad', f_X4_cmac_4a1 N (nI a) (nI n) (nI to) (nI R) keys bl pad c = some (bl', pad', zrow to 16 (fun t => sB (cmac (aesE rk R) m a n t)) c) := by
  have enc : ∀ x y, RB 16 x y → isU8 y 16 → f_X0_encrypt 16 (0 : Int32) (nI R) keys x = some (zrow 0 16 (fun j => sB (aesE rk R y j)) x) := fun x y hx hy => c_enc0 hx hy h1 hR hk
  obtain ⟨E, hE⟩ : ∃ E, E = aesE rk R := ⟨_, rfl⟩
  have uE : ∀ s, isU8 s 16 → isU8 (E s) 16 := fun s hs => by rw [hE]; exact aesE_u hs h1 uk
  rw [← hE] at enc ⊢
  obtain ⟨L, hL⟩ : ∃ L, L = (n - 1) / 16 := ⟨_, rfl⟩
  obtain ⟨Q, hQ⟩ : ∃ Q, Q = cmQ E n := ⟨_, rfl⟩
  have uQ : isU8 Q 16 := by rw [hQ]; exact cmQ_u uE n
  have uX := cmX_u uE u ha uQ (L := L)
  have uz : isU8 (fun _ => (0 : Int32)) 16 := fun _ _ => (by decide : (0 : Int32) &&& 255 = 0)
  obtain ⟨pad3, e3, g3⟩ := p_X4_doublePad (zrow_RB (n := 16) (m := E (fun _ => 0)) (f := zrow 0 16 (fun _ => 0) pad)) (uE _ uz)
  have u3 : isU8 (cmD (E (fun _ => 0))) 16 := cmD_u (uE _ uz)
  unfold f_X4_cmac_4a1 cmac
  rw [← hL, ← hQ, c_zero, zbE, enc _ _ (RB_zero pad) uz, zbE, e3, zbE, c_zero, zbE, zjE]
  have fin : ∀ b11 p12, RB 16 b11 (fun t => cmX E m a n L Q L t ^^^ cmV m a n L t) → RB 16 p12 Q → ∃ bl' pad', ((f_X9_xorBytes 16 16 (0 : Int32) (0 : Int32) (16 : Int32) p12 b11).bind (fun c_block_14 => (f_X0_encrypt 16 (0 : Int32) (nI R) keys c_block_14).bind (fun c_block_15 => zk (¬ (0 : Int32) < 0 ∧ ¬ nI to < 0 ∧ ¬ (16 : Int32) < 0 ∧ (0 : Int32).toNatClampNeg + (16 : Int32).toNatClampNeg ≤ 16 ∧ (nI to).toNatClampNeg + (16 : Int32).toNatClampNeg ≤ N ∧ (∀ i, i < (16 : Int32).toNatClampNeg → fits .byte (.int (c_block_15 ((0 : Int32).toNatClampNeg + i))) = true)) (zn ((va_cpy c_block_15 c (0 : Int32).toNatClampNeg (nI to).toNatClampNeg (16 : Int32).toNatClampNeg) : Nat → Int32) (fun ca1_16 => some (c_block_15, p12, ca1_16)))))) = some (bl', pad', zrow to 16 (fun t => sB (cmX E m a n L Q (L + 1) t)) c) := by
    intro b11 p12 hb hp
    have e := p_X9_xorBytes (p := 0) (q := 0) (n := 16) hp hb (by omega) (by omega) (by omega) (by omega)
    simp only [Nat.zero_add] at e
    have e' : f_X9_xorBytes 16 16 (0 : Int32) (0 : Int32) (16 : Int32) p12 b11 = some (zrow 0 16 (fun t => sB ((cmX E m a n L Q L t ^^^ cmV m a n L t) ^^^ Q t)) b11) := e
    have r : RB 16 (zrow 0 16 (fun t => sB ((cmX E m a n L Q L t ^^^ cmV m a n L t) ^^^ Q t)) b11) (cmB m a n L Q L (cmX E m a n L Q L)) := fun j hj => by
      rw [zrow_0 hj]
      unfold cmB
      rw [if_pos rfl]
    rw [e', zbE, enc _ _ r (cmB_u u ha uQ (uX L)), zbE]
    obtain ⟨c15, hc⟩ : ∃ q, q = zrow 0 16 (fun j => sB (E (cmB m a n L Q L (cmX E m a n L Q L)) j)) (zrow 0 16 (fun t => sB ((cmX E m a n L Q L t ^^^ cmV m a n L t) ^^^ Q t)) b11) := ⟨_, rfl⟩
    have r15 : RB 16 c15 (cmX E m a n L Q (L + 1)) := by rw [hc]; exact zrow_RB
    rw [← hc]
    simp (disch := omega) only [zCl, zClk, znE]
    rw [zk_T ⟨by decide, nI_pos (by omega), by decide, by omega, by omega, fun j hj => by rw [Nat.zero_add]; exact RB_fit r15 (by omega)⟩, cpE]
    exact ⟨_, _, congrArg (fun q => some (c15, p12, q)) (zrow_congr (fun j hj => by rw [Nat.zero_add]; exact r15 j hj))⟩
  refine zl_up (F := b_X4_cmac_4a1_35 N (nI a) (nI n) (nI R) keys c _) (fun k (s : Nat → Int32) => (nI (16 * k), s)) (fun k s => RB 16 s (cmX E m a n L Q k)) 0 L (zrow 0 16 (fun _ => 0) bl) (fun o => ∃ bl' pad', o = some (bl', pad', zrow to 16 (fun t => sB (cmX E m a n L Q (L + 1) t)) c)) (by omega) (by omega) (RB_zero bl) ?_ ?_
  · intro self s hs
    simp only [b_X4_cmac_4a1_35]
    have e := p_X9_xorBytes (p := a + 16 * L) (q := 0) (n := n - 16 * L) h hs (by omega) (by omega) hN (by omega)
    simp only [Nat.zero_add] at e
    have e' : f_X9_xorBytes N 16 (nI (a + 16 * L)) (0 : Int32) (nI (n - 16 * L)) c s = some (zrow 0 (n - 16 * L) (fun t => sB (cmX E m a n L Q L t ^^^ m (a + 16 * L + t))) s) := e
    rw [pk_sub (show 16 * L ≤ n by omega), if_pos (show nI (n - 16 * L) ≤ 16 from nI_le (b := 16) (by omega) (by omega)), nI_add, e', zbE, zjE]
    have lo : ∀ t, t < n - 16 * L → m (a + 16 * L + t) = cmV m a n L t := fun t ht => by
      unfold cmV
      rw [if_pos (by omega), Nat.add_assoc]
    by_cases hf : n - 16 * L = 16
    · rw [if_pos (show (16 : Int32) ≤ nI (n - 16 * L) from nI_le (a := 16) (by omega) (by omega))]
      refine fin _ _ (fun j hj => ?_) (fun j hj => ?_)
      · rw [zrow_0 (by omega), lo j (by omega)]
      · rw [g3 j hj, hQ]
        unfold cmQ
        rw [if_pos (by omega)]
    · obtain ⟨pad19, e19, g19⟩ := p_X4_doublePad g3 u3
      rw [if_neg (show ¬ (16 : Int32) ≤ nI (n - 16 * L) from nI_ge (b := 16) (a := n - 16 * L) (by omega) (by omega)), e19, zbE]
      rw [zk_T (nI_in (by omega) (by omega)), zk_T (nI_in (by omega) (by omega)), znE, nI_clamp (n := n - 16 * L) (by omega)]
      refine fin _ _ (fun j hj => ?_) (fun j hj => ?_)
      · by_cases hj2 : j = n - 16 * L
        · subst hj2
          rw [upd_s, zrow_out (by omega), hs _ (by omega), show (-128 : Int32) = sB 128 by decide, show ∀ x : Int32, vp_nar .byte ((sB x ^^^ sB 128).toInt8.toInt32) = sB (x ^^^ 128) from fun x => (pk_vb _).trans (sB_xor x 128)]
          show sB (cmX E m a n L Q L (n - 16 * L) ^^^ 128) = sB (cmX E m a n L Q L (n - 16 * L) ^^^ cmV m a n L (n - 16 * L))
          unfold cmV
          rw [if_neg (by omega), if_pos (by omega)]
        · rw [upd_n _ _ hj2]
          by_cases hj3 : j < n - 16 * L
          · rw [zrow_0 hj3, lo j hj3]
          · rw [zrow_out (by omega), hs j hj]
            show sB (cmX E m a n L Q L j) = sB (cmX E m a n L Q L j ^^^ cmV m a n L j)
            unfold cmV
            rw [if_neg (by omega), if_neg (by omega), xor0]
      · rw [g19 j hj, hQ]
        unfold cmQ
        rw [if_neg (by omega)]
  · intro self k s _ hk2 hs
    have e := p_X9_xorBytes (p := a + 16 * k) (q := 0) (n := 16) h hs (by omega) (by omega) hN (by omega)
    simp only [Nat.zero_add] at e
    have e' : f_X9_xorBytes N 16 (nI (a + 16 * k)) (0 : Int32) (16 : Int32) c s = some (zrow 0 16 (fun t => sB (cmX E m a n L Q k t ^^^ m (a + 16 * k + t))) s) := e
    have r : RB 16 (zrow 0 16 (fun t => sB (cmX E m a n L Q k t ^^^ m (a + 16 * k + t))) s) (cmB m a n L Q k (cmX E m a n L Q k)) := fun j hj => by
      rw [zrow_0 hj]
      unfold cmB cmV
      rw [if_pos (by omega), if_neg (by omega), xor0, Nat.add_assoc]
    refine ⟨zrow 0 16 (fun j => sB (E (cmB m a n L Q k (cmX E m a n L Q k)) j)) (zrow 0 16 (fun t => sB (cmX E m a n L Q k t ^^^ m (a + 16 * k + t))) s), zrow_RB, ?_⟩
    simp only [b_X4_cmac_4a1_35]
    rw [pk_sub (show 16 * k ≤ n by omega), if_neg (show ¬ nI (n - 16 * k) ≤ 16 from nI_ge (a := 16) (b := n - 16 * k) (by omega) (by omega)), nI_add, e', zbE, enc _ _ r (cmB_u u ha uQ (uX k)), zbE, zA]
    rfl
