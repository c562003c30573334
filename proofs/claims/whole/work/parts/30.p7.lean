/-! SHA-256 in the class: end -/
theorem shl0 (x : Int32) : x <<< ((0 : Int32) &&& 31) = x := by
  apply b_ext
  intro i hi
  exact (b_shl 0 (by omega) x hi).trans (by simp)
theorem or0 (x : Int32) : x ||| 0 = x := by
  apply b_ext
  intro i _
  rw [b_or, b_0, Bool.or_false]
theorem shl_88 (x : Int32) : (x <<< ((8 : Int32) &&& 31)) <<< ((8 : Int32) &&& 31) = x <<< ((16 : Int32) &&& 31) := by
  apply b_ext
  intro i hi
  rw [b_shl8 _ hi, b_shl16 _ hi]
  by_cases h : 8 ≤ i
  · rw [b_shl8 _ (by omega), decide_eq_true h, Bool.true_and, show i - 8 - 8 = i - 16 by omega]
    by_cases h2 : 16 ≤ i
    · rw [decide_eq_true h2, decide_eq_true (show 8 ≤ i - 8 by omega)]
    · rw [decide_eq_false h2, decide_eq_false (show ¬ 8 ≤ i - 8 by omega)]
  · rw [decide_eq_false h, decide_eq_false (show ¬ 16 ≤ i by omega)]; rfl
theorem shl_168 (x : Int32) : (x <<< ((16 : Int32) &&& 31)) <<< ((8 : Int32) &&& 31) = x <<< ((24 : Int32) &&& 31) := by
  apply b_ext
  intro i hi
  rw [b_shl8 _ hi, b_shl24 _ hi]
  by_cases h : 8 ≤ i
  · rw [b_shl16 _ (by omega), decide_eq_true h, Bool.true_and, show i - 8 - 16 = i - 24 by omega]
    by_cases h2 : 24 ≤ i
    · rw [decide_eq_true h2, decide_eq_true (show 16 ≤ i - 8 by omega)]
    · rw [decide_eq_false h2, decide_eq_false (show ¬ 16 ≤ i - 8 by omega)]
  · rw [decide_eq_false h, decide_eq_false (show ¬ 24 ≤ i by omega)]; rfl
/-- a word that is cut off by zeros -/
theorem shF_cut (g : Int32) (B : Nat → Int32) : ∀ q, q < 4 → (∀ t, q < t → t < 4 → B t = 0) → shF g B (q + 1) <<< (nI (24 - 8 * q) &&& 31) = shF g B 4 := by
  intro q hq hB
  rcases (show q = 0 ∨ q = 1 ∨ q = 2 ∨ q = 3 by omega) with rfl | rfl | rfl | rfl
  · have e : shF g B 4 = ((shF g B 1 <<< ((8 : Int32) &&& 31)) <<< ((8 : Int32) &&& 31)) <<< ((8 : Int32) &&& 31) := by
      simp only [shF, hB 1 (by omega) (by omega), hB 2 (by omega) (by omega), hB 3 (by omega) (by omega), or0]
    rw [e, shl_88 (shF g B 1), shl_168]
    rfl
  · have e : shF g B 4 = (shF g B 2 <<< ((8 : Int32) &&& 31)) <<< ((8 : Int32) &&& 31) := by
      simp only [shF, hB 2 (by omega) (by omega), hB 3 (by omega) (by omega), or0]
    rw [e, shl_88]
    rfl
  · have e : shF g B 4 = shF g B 3 <<< ((8 : Int32) &&& 31) := by
      simp only [shF, hB 3 (by omega) (by omega), or0]
    rw [e]
    rfl
  · exact shl0 _
theorem shF_congr (g : Int32) {B C : Nat → Int32} : ∀ q, (∀ t, t < q → B t = C t) → shF g B q = shF g C q
  | 0, _ => rfl
  | q + 1, h => by
    simp only [shF]
    rw [shF_congr g q (fun t ht => h t (by omega)), h q (by omega)]
theorem shF_W (g : Int32) (B : Nat → Int32) : shF g B 4 = shW4 B 0 := shF_4 g B
/-- the message with its end mark, without its length -/
def shPz (b : Nat → Int32) (n t : Nat) : Int32 := if t < n then b t else if t = n then 128 else 0
theorem shPz_lo {b : Nat → Int32} {n t : Nat} (h : t < n) : shPz b n t = b t := if_pos h
theorem shPz_hi {b : Nat → Int32} {n t : Nat} (h : n < t) : shPz b n t = 0 := by
  unfold shPz
  rw [if_neg (by omega), if_neg (by omega)]
theorem shPz_n (b : Nat → Int32) (n : Nat) : shPz b n n = 128 := by
  unfold shPz
  rw [if_neg (by omega), if_pos rfl]
theorem shPad_z {b : Nat → Int32} {n t : Nat} (h : t + 8 < shL n) : shPad b n t = shPz b n t := by
  unfold shPad shPz
  by_cases h1 : t < n
  · rw [if_pos h1, if_pos h1]
  · rw [if_neg h1, if_neg h1]
    by_cases h2 : t = n
    · rw [if_pos h2, if_pos h2]
    · rw [if_neg h2, if_neg h2, if_pos h]
theorem shPad_l {b : Nat → Int32} {n t : Nat} (h : shL n ≤ t + 8) : shPad b n t = nI (8 * n / 256 ^ (shL n - 1 - t) % 256) := by
  unfold shPad
  have : n + 9 ≤ shL n := by unfold shL; omega
  rw [if_neg (by omega), if_neg (by omega), if_neg (by omega)]
theorem bt_nI {k i : Nat} (hi : i < 32) : bt (nI k) i = k.testBit i := by
  show (BitVec.ofNat 32 k).getLsbD i = _
  rw [BitVec.getLsbD_ofNat]
  simp [hi]
theorem tb_byte (N j i : Nat) : (N / 256 ^ j % 256).testBit i = (decide (i < 8) && N.testBit (8 * j + i)) := by
  rw [show (256 : Nat) ^ j = 2 ^ (8 * j) by rw [Nat.pow_mul], show (256 : Nat) = 2 ^ 8 from rfl, Nat.testBit_mod_two_pow, Nat.testBit_div_two_pow, Nat.add_comm i (8 * j)]
/-- a word by its four bytes -/
theorem nI_W {N : Nat} : nI N = (((nI (N / 256 ^ 3 % 256) <<< ((24 : Int32) &&& 31)) ||| (nI (N / 256 ^ 2 % 256) <<< ((16 : Int32) &&& 31))) ||| (nI (N / 256 ^ 1 % 256) <<< ((8 : Int32) &&& 31))) ||| nI (N / 256 ^ 0 % 256) := by
  apply b_ext
  intro i hi
  rw [b_or, b_or, b_or, b_shl24 _ hi, b_shl16 _ hi, b_shl8 _ hi, bt_nI hi, bt_nI (by omega), bt_nI (by omega), bt_nI (by omega), bt_nI hi, tb_byte, tb_byte, tb_byte, tb_byte]
  rcases (show i < 8 ∨ (8 ≤ i ∧ i < 16) ∨ (16 ≤ i ∧ i < 24) ∨ (24 ≤ i ∧ i < 32) by omega) with h | ⟨h1, h2⟩ | ⟨h1, h2⟩ | ⟨h1, h2⟩
  · rw [decide_eq_false (show ¬ 24 ≤ i by omega), decide_eq_false (show ¬ 16 ≤ i by omega), decide_eq_false (show ¬ 8 ≤ i by omega), decide_eq_true h, show 8 * 0 + i = i by omega]
    simp
  · rw [decide_eq_false (show ¬ 24 ≤ i by omega), decide_eq_false (show ¬ 16 ≤ i by omega), decide_eq_true h1, decide_eq_true (show i - 8 < 8 by omega), decide_eq_false (show ¬ i < 8 by omega), show 8 * 1 + (i - 8) = i by omega]
    simp
  · rw [decide_eq_false (show ¬ 24 ≤ i by omega), decide_eq_true h1, decide_eq_true (show 8 ≤ i by omega), decide_eq_true (show i - 16 < 8 by omega), decide_eq_false (show ¬ i - 8 < 8 by omega), decide_eq_false (show ¬ i < 8 by omega), show 8 * 2 + (i - 16) = i by omega]
    simp
  · rw [decide_eq_true h1, decide_eq_true (show 16 ≤ i by omega), decide_eq_true (show 8 ≤ i by omega), decide_eq_true (show i - 24 < 8 by omega), decide_eq_false (show ¬ i - 16 < 8 by omega), decide_eq_false (show ¬ i - 8 < 8 by omega), decide_eq_false (show ¬ i < 8 by omega), show 8 * 3 + (i - 24) = i by omega]
    simp
theorem shW4_0 {m : Nat → Int32} {i : Nat} (h : ∀ t, t < 4 → m (4 * i + t) = 0) : shW4 m i = 0 := by
  rw [shW4_congr (k := fun _ => 0) h]
  simp only [shW4]
  decide
/-- the words of the block in which the end mark stands -/
theorem shEndW {b : Nat → Int32} {n : Nat} {fl : Int32} {sc su : Nat → Int32} (h : shCS b n fl sc su) : ∀ i, i < 16 → zrow (n % 64 / 4 + 1) (16 - (n % 64 / 4 + 1)) (fun _ => 0) (upd sc (n % 64 / 4) (((sc (n % 64 / 4) <<< ((8 : Int32) &&& 31)) ||| 128) <<< (nI (24 - 8 * (n % 64 % 4)) &&& 31))) i = shW4 (fun t => shPz b n (64 * (n / 64) + t)) i := by
  obtain ⟨-, -, h3, g, h4⟩ := h
  intro i hi
  rcases (show i < n % 64 / 4 ∨ i = n % 64 / 4 ∨ n % 64 / 4 < i by omega) with hc | hc | hc
  · rw [zrow_out (by omega), upd_n _ _ (by omega), h3 i hc]
    exact shW4_congr (fun t ht => (shPz_lo (by omega)).symm)
  · subst hc
    rw [zrow_out (by omega), upd_s, h4]
    have e1 : (shF g (fun t => b (64 * (n / 64) + 4 * (n % 64 / 4) + t)) (n % 64 % 4) <<< ((8 : Int32) &&& 31)) ||| 128 = shF g (fun t => shPz b n (64 * (n / 64) + 4 * (n % 64 / 4) + t)) (n % 64 % 4 + 1) := by
      show _ = (shF g (fun t => shPz b n (64 * (n / 64) + 4 * (n % 64 / 4) + t)) (n % 64 % 4) <<< ((8 : Int32) &&& 31)) ||| shPz b n (64 * (n / 64) + 4 * (n % 64 / 4) + n % 64 % 4)
      rw [show 64 * (n / 64) + 4 * (n % 64 / 4) + n % 64 % 4 = n by omega, shPz_n]
      rw [shF_congr g (n % 64 % 4) (C := fun t => shPz b n (64 * (n / 64) + 4 * (n % 64 / 4) + t)) (fun t ht => (shPz_lo (by omega)).symm)]
    rw [e1, shF_cut _ _ _ (by omega) (fun t ht ht2 => shPz_hi (by omega)), shF_W]
    unfold shW4
    simp only [Nat.mul_zero, Nat.zero_add, Nat.add_zero, Nat.add_assoc]
  · rw [zrow_in (by omega) (by omega)]
    show (0 : Int32) = _
    exact (shW4_0 (m := fun t => shPz b n (64 * (n / 64) + t)) (i := i) (fun t ht => shPz_hi (by omega))).symm
