/-! long numbers, bit by bit and byte by byte -/
def btl (x : Int64) (i : Nat) : Bool := x.toBitVec.getLsbD i
theorem bl_ext {x y : Int64} (h : ∀ i, i < 64 → btl x i = btl y i) : x = y := Int64.toBitVec_inj.mp (BitVec.eq_of_getLsbD_eq (fun i hi => h i hi))
theorem bl_or (x y : Int64) (i : Nat) : btl (x ||| y) i = (btl x i || btl y i) := by unfold btl; rw [Int64.toBitVec_or, BitVec.getLsbD_or]
theorem bl_and (x y : Int64) (i : Nat) : btl (x &&& y) i = (btl x i && btl y i) := by unfold btl; rw [Int64.toBitVec_and, BitVec.getLsbD_and]
theorem bl_xor (x y : Int64) (i : Nat) : btl (x ^^^ y) i = (btl x i ^^ btl y i) := by unfold btl; rw [Int64.toBitVec_xor, BitVec.getLsbD_xor]
theorem bl_0 (i : Nat) : btl 0 i = false := BitVec.getLsbD_zero
theorem s_l64 : ∀ n, n < 64 → ((lN n).toBitVec.smod 64).toNat = n := by decide +kernel
theorem s_u64 : ∀ n, n < 64 → ((UInt64.ofNat n).toBitVec % 64).toNat = n := by decide +kernel
theorem bl_shl (n : Nat) (hn : n < 64) (x : Int64) {i : Nat} (hi : i < 64) : btl (x <<< ((nI n).toInt64 &&& 63)) i = (decide (n ≤ i) && btl x (i - n)) := by
  unfold btl
  rw [wb_c n hn, Int64.toBitVec_shiftLeft]
  show (x.toBitVec <<< ((lN n).toBitVec.smod 64).toNat).getLsbD i = _
  rw [s_l64 n hn, BitVec.getLsbD_shiftLeft]
  rcases Nat.lt_or_ge i n with h | h
  · simp [h, Nat.not_le.mpr h]
  · simp [hi, h, Nat.not_lt.mpr h]
theorem bl_ushr (n : Nat) (hn : n < 64) (x : Int64) (i : Nat) : btl ((x.toUInt64 >>> ((nI n).toInt64.toUInt64 &&& Int64.toUInt64 63)).toInt64) i = btl x (n + i) := by
  rw [wb_cu n hn]
  show (x.toUInt64 >>> UInt64.ofNat n).toBitVec.getLsbD i = x.toUInt64.toBitVec.getLsbD (n + i)
  rw [UInt64.toBitVec_shiftRight]
  show (x.toUInt64.toBitVec >>> ((UInt64.ofNat n).toBitVec % 64).toNat).getLsbD i = _
  rw [s_u64 n hn, BitVec.getLsbD_ushiftRight]
theorem bl_sshr (n : Nat) (hn : n < 64) (x : Int64) {i : Nat} (hi : i < 64) : btl (x >>> ((nI n).toInt64 &&& 63)) i = if n + i < 64 then btl x (n + i) else btl x 63 := by
  unfold btl
  rw [wb_c n hn, Int64.toBitVec_shiftRight]
  show (x.toBitVec.sshiftRight ((lN n).toBitVec.smod 64).toNat).getLsbD i = _
  rw [s_l64 n hn, BitVec.getLsbD_sshiftRight, BitVec.msb_eq_getLsbD_last]
  simp [hi]
theorem bl_I (x : Int32) {i : Nat} (hi : i < 64) : btl x.toInt64 i = if i < 32 then bt x i else bt x 31 := by
  unfold btl bt
  rw [Int32.toBitVec_toInt64, BitVec.getLsbD_signExtend, BitVec.msb_eq_getLsbD_last]
  simp [hi]
theorem bl_J (x : Int64) {i : Nat} (hi : i < 32) : bt x.toInt32 i = btl x i := by
  unfold btl bt
  rw [Int64.toBitVec_toInt32, BitVec.getLsbD_signExtend]
  simp [hi, show i < 64 by omega]
theorem bl_ffff : ∀ i, i < 64 → btl 4294967295 i = decide (i < 32) := by decide +kernel
theorem bl_255 : ∀ i, i < 64 → btl 255 i = decide (i < 8) := by decide +kernel
/-- eight bytes, the first highest -/
def lF (m : Nat → Int32) : Nat → Int64
  | 0 => 0
  | k + 1 => (lF m k <<< ((8 : Int32).toInt64 &&& 63)) ||| (m k).toInt64
def L8 (m : Nat → Int32) : Int64 := lF m 8
theorem bl_u {x : Int32} (h : x &&& 255 = x) {i : Nat} (hi : i < 64) : btl x.toInt64 i = (decide (i < 8) && bt x i) := by
  rw [bl_I x hi]
  by_cases h8 : i < 8
  · rw [if_pos (by omega), decide_eq_true h8, Bool.true_and]
  · rw [decide_eq_false h8, Bool.false_and]
    by_cases h3 : i < 32
    · rw [if_pos h3, btU h (by omega)]
    · rw [if_neg h3, btU h (by omega)]
theorem bl_lF {m : Nat → Int32} : ∀ k, k ≤ 8 → isU8 m k → ∀ i, i < 64 → btl (lF m k) i = (decide (i < 8 * k) && bt (m (k - 1 - i / 8)) (i % 8))
  | 0, _, _, i, _ => by
    rw [decide_eq_false (by omega), Bool.false_and]
    exact bl_0 i
  | k + 1, hk, u, i, hi => by
    have e8 : btl (lF m k <<< ((8 : Int32).toInt64 &&& 63)) i = (decide (8 ≤ i) && btl (lF m k) (i - 8)) := bl_shl 8 (by decide) _ hi
    show btl ((lF m k <<< ((8 : Int32).toInt64 &&& 63)) ||| (m k).toInt64) i = _
    rw [bl_or, e8, bl_u (u k (by omega)) hi]
    by_cases h8 : i < 8
    · rw [decide_eq_false (show ¬ 8 ≤ i by omega), decide_eq_true h8, decide_eq_true (show i < 8 * (k + 1) by omega), show k + 1 - 1 - i / 8 = k by omega, show i % 8 = i by omega, Bool.false_and, Bool.true_and, Bool.false_or]
    · rw [decide_eq_true (show 8 ≤ i by omega), decide_eq_false h8, bl_lF k (by omega) (fun j hj => u j (by omega)) (i - 8) (by omega), show k - 1 - (i - 8) / 8 = k + 1 - 1 - i / 8 by omega, show (i - 8) % 8 = i % 8 by omega, Bool.false_and, Bool.or_false, Bool.true_and]
      rw [show decide (i - 8 < 8 * k) = decide (i < 8 * (k + 1)) from decide_eq_decide.mpr (by omega)]
theorem bl_L8 {m : Nat → Int32} (u : isU8 m 8) {i : Nat} (hi : i < 64) : btl (L8 m) i = bt (m (7 - i / 8)) (i % 8) := by
  show btl (lF m 8) i = _
  rw [bl_lF 8 (by omega) u i hi, decide_eq_true (by omega), Bool.true_and]
theorem bl_q {i : Nat} (h : i < 64) : ∃ q r, q < 8 ∧ r < 8 ∧ i = r + 8 * q := ⟨i / 8, i % 8, by omega, by omega, by omega⟩
theorem u255 (x : Int32) : (x &&& 255) &&& 255 = x &&& 255 := and255 x
theorem L8_W {x0 x1 x2 x3 x4 x5 x6 x7 : Int32} (u0 : x0 &&& 255 = x0) (u1 : x1 &&& 255 = x1) (u2 : x2 &&& 255 = x2) (u3 : x3 &&& 255 = x3) (u4 : x4 &&& 255 = x4) (u5 : x5 &&& 255 = x5) (u6 : x6 &&& 255 = x6) (u7 : x7 &&& 255 = x7) {m : Nat → Int32} (e0 : m 0 = x0) (e1 : m 1 = x1) (e2 : m 2 = x2) (e3 : m 3 = x3) (e4 : m 4 = x4) (e5 : m 5 = x5) (e6 : m 6 = x6) (e7 : m 7 = x7) :
    ((zW x0 x1 x2 x3).toInt64 <<< ((32 : Int32).toInt64 &&& 63)) ||| ((zW x4 x5 x6 x7).toInt64 &&& 4294967295) = L8 m := by
  have um : isU8 m 8 := z8 (by rw [e0]; exact u0) (by rw [e1]; exact u1) (by rw [e2]; exact u2) (by rw [e3]; exact u3) (by rw [e4]; exact u4) (by rw [e5]; exact u5) (by rw [e6]; exact u6) (by rw [e7]; exact u7)
  refine bl_ext (fun i hi => ?_)
  have e8 : btl ((zW x0 x1 x2 x3).toInt64 <<< ((32 : Int32).toInt64 &&& 63)) i = (decide (32 ≤ i) && btl (zW x0 x1 x2 x3).toInt64 (i - 32)) := bl_shl 32 (by decide) _ hi
  rw [bl_or, bl_and, e8, bl_ffff i hi, bl_L8 um hi]
  obtain ⟨q, r, hq, hr, rfl⟩ := bl_q hi
  rw [show (r + 8 * q) / 8 = q by omega, show (r + 8 * q) % 8 = r by omega]
  by_cases h : q < 4
  · rw [decide_eq_false (show ¬ 32 ≤ r + 8 * q by omega), decide_eq_true (show r + 8 * q < 32 by omega), Bool.false_and, Bool.false_or, Bool.and_true, bl_I _ hi, if_pos (by omega)]
    rcases (show q = 0 ∨ q = 1 ∨ q = 2 ∨ q = 3 by omega) with rfl | rfl | rfl | rfl
    · rw [show r + 8 * 0 = r by omega, btW3 u5 u6 u7 hr, e7]
    · rw [show r + 8 * 1 = r + 8 by omega, btW2 u5 u6 u7 hr, e6]
    · rw [show r + 8 * 2 = r + 16 by omega, btW1 u5 u6 u7 hr, e5]
    · rw [show r + 8 * 3 = r + 24 by omega, btW0 u5 u6 u7 hr, e4]
  · rw [decide_eq_true (show 32 ≤ r + 8 * q by omega), decide_eq_false (show ¬ r + 8 * q < 32 by omega), Bool.true_and, Bool.and_false, Bool.or_false, bl_I _ (by omega), if_pos (by omega)]
    rcases (show q = 4 ∨ q = 5 ∨ q = 6 ∨ q = 7 by omega) with rfl | rfl | rfl | rfl
    · rw [show r + 8 * 4 - 32 = r by omega, btW3 u1 u2 u3 hr, e3]
    · rw [show r + 8 * 5 - 32 = r + 8 by omega, btW2 u1 u2 u3 hr, e2]
    · rw [show r + 8 * 6 - 32 = r + 16 by omega, btW1 u1 u2 u3 hr, e1]
    · rw [show r + 8 * 7 - 32 = r + 24 by omega, btW0 u1 u2 u3 hr, e0]
theorem p_X9_longAt {N a : Nat} (f : Nat → Int32) (h : a + 8 ≤ N) (hN : N < 2 ^ 31) : f_X9_longAt N (nI a) f = some (L8 (fun t => f (a + t) &&& 255)) := by
  unfold f_X9_longAt
  rw [p_X9_intAt f (by omega) hN, zbE, zA, p_X9_intAt f (by omega) hN, zbE]
  refine congrArg some ?_
  exact L8_W (u255 _) (u255 _) (u255 _) (u255 _) (u255 _) (u255 _) (u255 _) (u255 _) (m := fun t => f (a + t) &&& 255) rfl rfl rfl rfl rfl rfl rfl rfl
/-- byte j of a long number -/
def lB (v : Int64) (j : Nat) : Int32 := ((v >>> ((nI (56 - 8 * j)).toInt64 &&& 63)) &&& (255 : Int64)).toInt32
theorem bt_lB {j : Nat} (hj : j < 8) (v : Int64) {i : Nat} (hi : i < 32) : bt (lB v j) i = (decide (i < 8) && btl v (56 - 8 * j + i)) := by
  unfold lB
  rw [bl_J _ hi, bl_and, bl_sshr _ (by omega) _ (by omega), bl_255 i (by omega)]
  by_cases h8 : i < 8
  · rw [if_pos (by omega), decide_eq_true h8, Bool.and_true, Bool.true_and]
  · rw [decide_eq_false h8, Bool.and_false, Bool.false_and]
theorem lB_u (v : Int64) {j : Nat} (hj : j < 8) : lB v j &&& 255 = lB v j := uOfBt (fun i h8 hi => by rw [bt_lB hj v hi, decide_eq_false (by omega), Bool.false_and])
theorem bt_wB {j : Nat} (hj : j < 4) (v : Int32) {i : Nat} (hi : i < 32) : bt (wB v j) i = (decide (i < 8) && bt v (24 - 8 * j + i)) := by
  unfold wB
  rw [b_and, b_sshr _ (by omega) _ hi, b_255]
  by_cases h8 : i < 8
  · rw [if_pos (by omega), decide_eq_true h8, Bool.and_true, Bool.true_and]
  · rw [decide_eq_false h8, Bool.and_false, Bool.false_and]
theorem lB_lo (v : Int64) {j : Nat} (hj : j < 4) : wB v.toInt32 j = lB v (4 + j) := by
  refine b_ext (fun i hi => ?_)
  rw [bt_wB hj _ hi, bt_lB (by omega) v hi]
  by_cases h8 : i < 8
  · rw [bl_J _ (by omega), show 56 - 8 * (4 + j) + i = 24 - 8 * j + i by omega]
  · rw [decide_eq_false h8, Bool.false_and, Bool.false_and]
theorem lB_hi (v : Int64) {j : Nat} (hj : j < 4) : wB ((v.toUInt64 >>> ((32 : Int32).toInt64.toUInt64 &&& Int64.toUInt64 63)).toInt64).toInt32 j = lB v j := by
  have e : ∀ i, btl ((v.toUInt64 >>> ((32 : Int32).toInt64.toUInt64 &&& Int64.toUInt64 63)).toInt64) i = btl v (32 + i) := bl_ushr 32 (by decide) v
  refine b_ext (fun i hi => ?_)
  rw [bt_wB hj _ hi, bt_lB (by omega) v hi]
  by_cases h8 : i < 8
  · rw [bl_J _ (by omega), e, show 32 + (24 - 8 * j + i) = 56 - 8 * j + i by omega]
  · rw [decide_eq_false h8, Bool.false_and, Bool.false_and]
theorem p_X9_putLong {N a : Nat} (v : Int64) (f : Nat → Int32) (h : a + 8 ≤ N) (hN : N < 2 ^ 31) : f_X9_putLong N (nI a) v f = some (zrow a 8 (fun j => sB (lB v j)) f) := by
  unfold f_X9_putLong
  rw [p_X9_putInt _ f (by omega) hN, zbE, zA, p_X9_putInt _ _ (by omega) hN, zbE]
  refine congrArg some ?_
  rw [zrow_congr (a := a) (n := 4) (k := fun j => sB (lB v j)) (fun j hj => congrArg sB (lB_hi v hj))]
  exact zrow_glue (fun j hj => congrArg sB (lB_lo v hj))
theorem lB_L8 {m : Nat → Int32} (u : isU8 m 8) {j : Nat} (hj : j < 8) : lB (L8 m) j = m j := by
  refine b_ext (fun i hi => ?_)
  rw [bt_lB hj _ hi]
  by_cases h8 : i < 8
  · rw [decide_eq_true h8, Bool.true_and, bl_L8 u (by omega), show 7 - (56 - 8 * j + i) / 8 = j by omega, show (56 - 8 * j + i) % 8 = i by omega]
  · rw [decide_eq_false h8, Bool.false_and, btU (u j hj) (by omega)]
theorem L8_lB (v : Int64) : L8 (lB v) = v := by
  refine bl_ext (fun i hi => ?_)
  rw [bl_L8 (fun j hj => lB_u v hj) hi, bt_lB (by omega) v (by omega), decide_eq_true (by omega), Bool.true_and, show 56 - 8 * (7 - i / 8) + i % 8 = i by omega]
theorem L8_c {m n : Nat → Int32} (h : ∀ j, j < 8 → m j = n j) : L8 m = L8 n := by
  unfold L8
  simp only [lF]
  rw [h 0 (by omega), h 1 (by omega), h 2 (by omega), h 3 (by omega), h 4 (by omega), h 5 (by omega), h 6 (by omega), h 7 (by omega)]
theorem lB_xor (x y : Int64) {j : Nat} (hj : j < 8) : lB (x ^^^ y) j = lB x j ^^^ lB y j := by
  refine b_ext (fun i hi => ?_)
  rw [b_xor, bt_lB hj _ hi, bt_lB hj _ hi, bt_lB hj _ hi, bl_xor]
  by_cases h8 : i < 8
  · simp [h8]
  · simp [h8]
theorem L8_inj {m n : Nat → Int32} (u : isU8 m 8) (v : isU8 n 8) (h : L8 m = L8 n) : ∀ j, j < 8 → m j = n j := fun j hj => by
  rw [← lB_L8 u hj, h, lB_L8 v hj]
theorem lg0 (x y : Int64) : lg_cmp x y = 0 ↔ x = y := by
  unfold lg_cmp
  by_cases h1 : x > y
  · rw [if_pos h1]
    exact ⟨fun q => absurd q (by decide), fun q => absurd h1 (by rw [q]; exact Int64.lt_irrefl)⟩
  · rw [if_neg h1]
    by_cases h2 : x = y
    · rw [if_pos h2]
      exact ⟨fun _ => h2, fun _ => rfl⟩
    · rw [if_neg h2]
      exact ⟨fun q => absurd q (by decide), fun q => absurd q h2⟩
theorem lgn (x : Int64) : 0 ≤ lg_cmp x 0 ↔ btl x 63 = false := by
  have hs : x < 0 ↔ btl x 63 = true := by
    rw [Int64.lt_iff_toBitVec_slt]
    show x.toBitVec.slt 0#64 = true ↔ x.toBitVec.getLsbD 63 = true
    rw [BitVec.slt_zero_eq_msb, BitVec.msb_eq_getLsbD_last]
  unfold lg_cmp
  by_cases h1 : x > 0
  · rw [if_pos h1]
    refine ⟨fun _ => ?_, fun _ => by decide⟩
    cases hb : btl x 63 with
    | false => rfl
    | true => exact absurd (hs.mpr hb) (Int64.lt_asymm h1)
  · rw [if_neg h1]
    by_cases h2 : x = 0
    · rw [if_pos h2]
      exact ⟨fun _ => by rw [h2]; exact bl_0 63, fun _ => by decide⟩
    · rw [if_neg h2]
      refine ⟨fun q => absurd q (by decide), fun q => ?_⟩
      exfalso
      have h3 : x < 0 := Int64.lt_of_le_of_ne (Int64.not_lt.mp h1) h2
      rw [hs.mp h3] at q
      cases q
