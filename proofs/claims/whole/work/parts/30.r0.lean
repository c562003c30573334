/-! words of four bytes -/
def zW (x y z w : Int32) : Int32 := (((x <<< ((24 : Int32) &&& 31)) ||| (y <<< ((16 : Int32) &&& 31))) ||| (z <<< ((8 : Int32) &&& 31))) ||| w
theorem shW4_zW (m : Nat → Int32) (i : Nat) : shW4 m i = zW (m (4 * i)) (m (4 * i + 1)) (m (4 * i + 2)) (m (4 * i + 3)) := rfl
theorem btU {x : Int32} (h : x &&& 255 = x) {i : Nat} (hi : 8 ≤ i) : bt x i = false := by
  rw [← h, b_and, b_255, decide_eq_false (by omega), Bool.and_false]
theorem uOfBt {x : Int32} (h : ∀ i, 8 ≤ i → i < 32 → bt x i = false) : x &&& 255 = x := by
  apply b_ext
  intro i hi
  rw [b_and, b_255]
  by_cases hc : i < 8
  · rw [decide_eq_true hc, Bool.and_true]
  · rw [decide_eq_false hc, h i (by omega) hi]; rfl
theorem btW {x y z w : Int32} (hy : y &&& 255 = y) (hz : z &&& 255 = z) (hw : w &&& 255 = w) {i : Nat} (hi : i < 32) : bt (zW x y z w) i = if i < 8 then bt w i else if i < 16 then bt z (i - 8) else if i < 24 then bt y (i - 16) else bt x (i - 24) := by
  unfold zW
  rw [b_or, b_or, b_or, b_shl24 _ hi, b_shl16 _ hi, b_shl8 _ hi]
  rcases (show i < 8 ∨ (8 ≤ i ∧ i < 16) ∨ (16 ≤ i ∧ i < 24) ∨ (24 ≤ i ∧ i < 32) by omega) with h | ⟨h1, h2⟩ | ⟨h1, h2⟩ | ⟨h1, h2⟩
  · rw [if_pos h, decide_eq_false (show ¬ 24 ≤ i by omega), decide_eq_false (show ¬ 16 ≤ i by omega), decide_eq_false (show ¬ 8 ≤ i by omega)]; simp
  · rw [if_neg (by omega), if_pos h2, decide_eq_false (show ¬ 24 ≤ i by omega), decide_eq_false (show ¬ 16 ≤ i by omega), decide_eq_true h1, btU hw h1]; simp
  · rw [if_neg (by omega), if_neg (by omega), if_pos h2, decide_eq_false (show ¬ 24 ≤ i by omega), decide_eq_true h1, decide_eq_true (show 8 ≤ i by omega), btU hw (by omega), btU hz (by omega)]; simp
  · rw [if_neg (by omega), if_neg (by omega), if_neg (by omega), decide_eq_true h1, decide_eq_true (show 16 ≤ i by omega), decide_eq_true (show 8 ≤ i by omega), btU hw (by omega), btU hz (by omega), btU hy (by omega)]; simp
/-- a word from its bytes' bits -/
theorem zW_ext {x y z w v : Int32} (hy : y &&& 255 = y) (hz : z &&& 255 = z) (hw : w &&& 255 = w) (h3 : ∀ i, i < 8 → bt v i = bt w i) (h2 : ∀ i, i < 8 → bt v (i + 8) = bt z i) (h1 : ∀ i, i < 8 → bt v (i + 16) = bt y i) (h0 : ∀ i, i < 8 → bt v (i + 24) = bt x i) : v = zW x y z w := by
  apply b_ext
  intro i hi
  rw [btW hy hz hw hi]
  rcases (show i < 8 ∨ (8 ≤ i ∧ i < 16) ∨ (16 ≤ i ∧ i < 24) ∨ (24 ≤ i ∧ i < 32) by omega) with h | ⟨h4, h5⟩ | ⟨h4, h5⟩ | ⟨h4, h5⟩
  · rw [if_pos h, h3 i h]
  · rw [if_neg (by omega), if_pos h5, ← h2 (i - 8) (by omega), show i - 8 + 8 = i by omega]
  · rw [if_neg (by omega), if_neg (by omega), if_pos h5, ← h1 (i - 16) (by omega), show i - 16 + 16 = i by omega]
  · rw [if_neg (by omega), if_neg (by omega), if_neg (by omega), ← h0 (i - 24) (by omega), show i - 24 + 24 = i by omega]
theorem btW3 {x y z w : Int32} (hy : y &&& 255 = y) (hz : z &&& 255 = z) (hw : w &&& 255 = w) {i : Nat} (hi : i < 8) : bt (zW x y z w) i = bt w i := by
  rw [btW hy hz hw (by omega), if_pos hi]
theorem btW2 {x y z w : Int32} (hy : y &&& 255 = y) (hz : z &&& 255 = z) (hw : w &&& 255 = w) {i : Nat} (hi : i < 8) : bt (zW x y z w) (i + 8) = bt z i := by
  rw [btW hy hz hw (by omega), if_neg (by omega), if_pos (by omega), Nat.add_sub_cancel]
theorem btW1 {x y z w : Int32} (hy : y &&& 255 = y) (hz : z &&& 255 = z) (hw : w &&& 255 = w) {i : Nat} (hi : i < 8) : bt (zW x y z w) (i + 16) = bt y i := by
  rw [btW hy hz hw (by omega), if_neg (by omega), if_neg (by omega), if_pos (by omega), Nat.add_sub_cancel]
theorem btW0 {x y z w : Int32} (hy : y &&& 255 = y) (hz : z &&& 255 = z) (hw : w &&& 255 = w) {i : Nat} (hi : i < 8) : bt (zW x y z w) (i + 24) = bt x i := by
  rw [btW hy hz hw (by omega), if_neg (by omega), if_neg (by omega), if_neg (by omega), Nat.add_sub_cancel]
theorem zW_xor {x y z w x' y' z' w' : Int32} (hy : y &&& 255 = y) (hz : z &&& 255 = z) (hw : w &&& 255 = w) (hy' : y' &&& 255 = y') (hz' : z' &&& 255 = z') (hw' : w' &&& 255 = w') : zW x y z w ^^^ zW x' y' z' w' = zW (x ^^^ x') (y ^^^ y') (z ^^^ z') (w ^^^ w') := by
  refine zW_ext (xorU hy hy') (xorU hz hz') (xorU hw hw') (fun i hi => ?_) (fun i hi => ?_) (fun i hi => ?_) (fun i hi => ?_)
  · rw [b_xor, b_xor, btW3 hy hz hw hi, btW3 hy' hz' hw' hi]
  · rw [b_xor, b_xor, btW2 hy hz hw hi, btW2 hy' hz' hw' hi]
  · rw [b_xor, b_xor, btW1 hy hz hw hi, btW1 hy' hz' hw' hi]
  · rw [b_xor, b_xor, btW0 hy hz hw hi, btW0 hy' hz' hw' hi]
theorem zW_b0 {x y z w : Int32} (hx : x &&& 255 = x) (hy : y &&& 255 = y) (hz : z &&& 255 = z) (hw : w &&& 255 = w) : ((zW x y z w).toUInt32 >>> ((24 : Int32).toUInt32 &&& Int32.toUInt32 31)).toInt32 = x := by
  apply b_ext
  intro i hi
  refine (b_ushr 24 (by omega) _ i).trans ?_
  by_cases h : i < 8
  · rw [Nat.add_comm, btW0 hy hz hw h]
  · rw [b_big (by omega), btU hx (by omega)]
theorem zW_b1 {x y z w : Int32} (hy : y &&& 255 = y) (hz : z &&& 255 = z) (hw : w &&& 255 = w) : ((zW x y z w).toUInt32 >>> ((16 : Int32).toUInt32 &&& Int32.toUInt32 31)).toInt32 &&& 255 = y := by
  apply b_ext
  intro i hi
  rw [b_and, b_255]
  by_cases h : i < 8
  · rw [decide_eq_true h, Bool.and_true]
    refine (b_ushr 16 (by omega) _ i).trans ?_
    rw [Nat.add_comm, btW1 hy hz hw h]
  · rw [decide_eq_false h, Bool.and_false, btU hy (by omega)]
theorem zW_b2 {x y z w : Int32} (hy : y &&& 255 = y) (hz : z &&& 255 = z) (hw : w &&& 255 = w) : ((zW x y z w).toUInt32 >>> ((8 : Int32).toUInt32 &&& Int32.toUInt32 31)).toInt32 &&& 255 = z := by
  apply b_ext
  intro i hi
  rw [b_and, b_255]
  by_cases h : i < 8
  · rw [decide_eq_true h, Bool.and_true]
    refine (b_ushr 8 (by omega) _ i).trans ?_
    rw [Nat.add_comm, btW2 hy hz hw h]
  · rw [decide_eq_false h, Bool.and_false, btU hz (by omega)]
theorem zW_b3 {x y z w : Int32} (hy : y &&& 255 = y) (hz : z &&& 255 = z) (hw : w &&& 255 = w) : zW x y z w &&& 255 = w := by
  apply b_ext
  intro i hi
  rw [b_and, b_255]
  by_cases h : i < 8
  · rw [decide_eq_true h, Bool.and_true, btW3 hy hz hw h]
  · rw [decide_eq_false h, Bool.and_false, btU hw (by omega)]
/-- a byte is a number below 256 -/
theorem uNat {x : Int32} (h : x &&& 255 = x) : ∃ k, k < 256 ∧ x = nI k := by
  refine ⟨x.toBitVec.toNat % 2 ^ 8, Nat.mod_lt _ (by decide), ?_⟩
  have := pk_and x (m := 255) 8 (by decide)
  rw [h] at this
  exact this
theorem nI_u {k : Nat} (h : k < 256) : nI k &&& 255 = nI k := by rw [nI255, Nat.mod_eq_of_lt h]
/-- a class' word of four bytes, as intAt makes it -/
theorem zW_int (x y z w : Int32) : (((x <<< ((24 : Int32) &&& 31)) ||| ((y &&& 255) <<< ((16 : Int32) &&& 31))) ||| ((z &&& 255) <<< ((8 : Int32) &&& 31))) ||| (w &&& 255) = zW (x &&& 255) (y &&& 255) (z &&& 255) (w &&& 255) := by
  show zW x (y &&& 255) (z &&& 255) (w &&& 255) = _
  refine zW_ext (and255 _) (and255 _) (and255 _) (fun i hi => btW3 (and255 _) (and255 _) (and255 _) hi) (fun i hi => btW2 (and255 _) (and255 _) (and255 _) hi) (fun i hi => btW1 (and255 _) (and255 _) (and255 _) hi) (fun i hi => ?_)
  rw [btW0 (and255 _) (and255 _) (and255 _) hi, b_and, b_255, decide_eq_true hi, Bool.and_true]
theorem p_X9_intAt {N a : Nat} (f : Nat → Int32) (h : a + 4 ≤ N) (hN : N < 2 ^ 31) : f_X9_intAt N (nI a) f = some (zW (f a &&& 255) (f (a + 1) &&& 255) (f (a + 2) &&& 255) (f (a + 3) &&& 255)) := by
  unfold f_X9_intAt
  simp (disch := omega) only [zA, zCl, zki]
  rw [zW_int]
theorem wB_zW {x y z w : Int32} (hx : x &&& 255 = x) (hy : y &&& 255 = y) (hz : z &&& 255 = z) (hw : w &&& 255 = w) : wB (zW x y z w) 0 = x ∧ wB (zW x y z w) 1 = y ∧ wB (zW x y z w) 2 = z ∧ wB (zW x y z w) 3 = w := by
  refine ⟨?_, ?_, ?_, ?_⟩
  · apply b_ext
    intro i hi
    unfold wB
    rw [b_and, b_255, b_sshr _ (by omega) _ hi]
    by_cases h : i < 8
    · rw [decide_eq_true h, Bool.and_true, if_pos (by omega), show 24 - 8 * 0 + i = i + 24 by omega, btW0 hy hz hw h]
    · rw [decide_eq_false h, Bool.and_false, btU hx (by omega)]
  · apply b_ext
    intro i hi
    unfold wB
    rw [b_and, b_255, b_sshr _ (by omega) _ hi]
    by_cases h : i < 8
    · rw [decide_eq_true h, Bool.and_true, if_pos (by omega), show 24 - 8 * 1 + i = i + 16 by omega, btW1 hy hz hw h]
    · rw [decide_eq_false h, Bool.and_false, btU hy (by omega)]
  · apply b_ext
    intro i hi
    unfold wB
    rw [b_and, b_255, b_sshr _ (by omega) _ hi]
    by_cases h : i < 8
    · rw [decide_eq_true h, Bool.and_true, if_pos (by omega), show 24 - 8 * 2 + i = i + 8 by omega, btW2 hy hz hw h]
    · rw [decide_eq_false h, Bool.and_false, btU hz (by omega)]
  · apply b_ext
    intro i hi
    unfold wB
    rw [b_and, b_255, b_sshr _ (by omega) _ hi]
    by_cases h : i < 8
    · rw [decide_eq_true h, Bool.and_true, if_pos (by omega), show 24 - 8 * 3 + i = i by omega, btW3 hy hz hw h]
    · rw [decide_eq_false h, Bool.and_false, btU hw (by omega)]
