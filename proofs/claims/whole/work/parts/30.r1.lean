/-! AES: the field, columns -/
def xt (x : Int32) : Int32 := if x ≤ 127 then (x <<< ((1 : Int32) &&& 31)) ^^^ 0 else (x <<< ((1 : Int32) &&& 31)) ^^^ 283
def gs (y : Int32) (i : Nat) (s : Int32 × Int32) : Int32 × Int32 := (if ((y >>> (nI i &&& 31)) &&& 1) = 1 then s.1 ^^^ s.2 else s.1, xt s.2)
def gml (x y : Int32) : Int32 := (zit (gs y) 0 8 (0, x)).1
set_option maxHeartbeats 4000000 in
theorem p_X10_times (x y : Int32) : f_X10_times x y = some (gml x y) := by
  unfold f_X10_times
  rw [zjE]
  refine (zl_it (F := b_X10_times_7 y (fun v => some v)) (fun i (s : Int32 × Int32) => (s.1, s.2, nI i)) (fun s => some s.1) (gs y) (fun _ _ => True) 8 ?_ ?_ 8 0 (0, x) rfl trivial zF (by have := zF_big; omega)).1
  · intro self s _
    simp only [b_X10_times_7]
    exact if_pos (by decide)
  · intro self i s hi _
    refine ⟨?_, trivial⟩
    obtain ⟨p, a⟩ := s
    simp only [b_X10_times_7, zjE, znE, gs, xt]
    rw [if_neg (show ¬ (8 : Int32) ≤ nI i from nI_ge (b := 8) hi (by omega)), nI_1]
    by_cases h1 : ((y >>> (nI i &&& 31)) &&& 1) = 1
    · by_cases h2 : a ≤ 127
      · simp only [if_pos h1, if_pos h2]
      · simp only [if_pos h1, if_neg h2]
    · by_cases h2 : a ≤ 127
      · simp only [if_neg h1, if_pos h2]
      · simp only [if_neg h1, if_neg h2]
theorem xt_u0 : ∀ k, k < 256 → xt (nI k) &&& 255 = xt (nI k) := by decide +kernel
theorem xt_u {x : Int32} (h : x &&& 255 = x) : xt x &&& 255 = xt x := by
  obtain ⟨k, hk, rfl⟩ := uNat h
  exact xt_u0 k hk
theorem xt_b0 : ∀ k, k < 256 → ∀ i, i < 8 → bt (xt (nI k)) i = ((decide (1 ≤ i) && bt (nI k) (i - 1)) ^^ (bt (nI k) 7 && Nat.testBit 27 i)) := by decide +kernel
theorem xt_b {x : Int32} (h : x &&& 255 = x) {i : Nat} (hi : i < 8) : bt (xt x) i = ((decide (1 ≤ i) && bt x (i - 1)) ^^ (bt x 7 && Nat.testBit 27 i)) := by
  obtain ⟨k, hk, rfl⟩ := uNat h
  exact xt_b0 k hk i hi
theorem xtt_b0 : ∀ k, k < 256 → ∀ i, i < 8 → bt (xt (xt (nI k))) i = (((decide (2 ≤ i) && bt (nI k) (i - 2)) ^^ (bt (nI k) 6 && Nat.testBit 27 i)) ^^ (bt (nI k) 7 && Nat.testBit 54 i)) := by decide +kernel
theorem xtt_b {x : Int32} (h : x &&& 255 = x) {i : Nat} (hi : i < 8) : bt (xt (xt x)) i = (((decide (2 ≤ i) && bt x (i - 2)) ^^ (bt x 6 && Nat.testBit 27 i)) ^^ (bt x 7 && Nat.testBit 54 i)) := by
  obtain ⟨k, hk, rfl⟩ := uNat h
  exact xtt_b0 k hk i hi
/-- doubling is linear -/
theorem xt_xor {x y : Int32} (hx : x &&& 255 = x) (hy : y &&& 255 = y) : xt (x ^^^ y) = xt x ^^^ xt y := by
  have h1 := xt_u hx
  have h2 := xt_u hy
  have h3 := xt_u (xorU hx hy)
  apply b_ext
  intro i _
  by_cases hi : i < 8
  · rw [b_xor, xt_b hx hi, xt_b hy hi, xt_b (xorU hx hy) hi, b_xor, b_xor]
    generalize bt x (i - 1) = p
    generalize bt y (i - 1) = q
    generalize bt x 7 = r
    generalize bt y 7 = s
    generalize decide (1 ≤ i) = t
    generalize Nat.testBit 27 i = u
    revert p q r s t u
    decide
  · rw [b_xor, btU h1 (by omega), btU h2 (by omega), btU h3 (by omega)]; rfl
theorem gml_c : ∀ k, k < 256 → gml (nI k) 1 = nI k ∧ gml (nI k) 2 = xt (nI k) ∧ gml (nI k) 3 = xt (nI k) ^^^ nI k ∧ gml (nI k) 9 = xt (xt (xt (nI k))) ^^^ nI k ∧ gml (nI k) 11 = (xt (xt (xt (nI k))) ^^^ xt (nI k)) ^^^ nI k ∧ gml (nI k) 13 = (xt (xt (xt (nI k))) ^^^ xt (xt (nI k))) ^^^ nI k ∧ gml (nI k) 14 = (xt (xt (xt (nI k))) ^^^ xt (xt (nI k))) ^^^ xt (nI k) := by decide +kernel
/-- four bits times a byte -/
def w4 (a b c d : Bool) : Nat := (((if a then 16777216 else 0) + (if b then 65536 else 0)) + (if c then 256 else 0)) + (if d then 1 else 0)
theorem w4_bits : ∀ a b c d : Bool, ∀ i, i < 32 → bt (nI (w4 a b c d)) i = (if i = 0 then d else if i = 8 then c else if i = 16 then b else if i = 24 then a else false) := by decide +kernel
theorem w4_27 : ∀ a b c d : Bool, ∀ i, i < 32 → bt (nI (w4 a b c d) * 27) i = ((if i < 8 then d else if i < 16 then c else if i < 24 then b else a) && Nat.testBit 27 (i % 8)) := by decide +kernel
theorem w4_54 : ∀ a b c d : Bool, ∀ i, i < 32 → bt (nI (w4 a b c d) * 54) i = ((if i < 8 then d else if i < 16 then c else if i < 24 then b else a) && Nat.testBit 54 (i % 8)) := by decide +kernel
theorem b_ones : ∀ i, i < 32 → bt 16843009 i = (decide (i = 0) || decide (i = 8) || decide (i = 16) || decide (i = 24)) := by decide +kernel
theorem and_ones (m : Int32) : m &&& 16843009 = nI (w4 (bt m 24) (bt m 16) (bt m 8) (bt m 0)) := by
  apply b_ext
  intro i hi
  rw [b_and, b_ones i hi, w4_bits _ _ _ _ i hi]
  by_cases h0 : i = 0
  · subst h0; simp
  by_cases h1 : i = 8
  · subst h1; simp
  by_cases h2 : i = 16
  · subst h2; simp
  by_cases h3 : i = 24
  · subst h3; simp
  simp [h0, h1, h2, h3]
theorem b_7f : ∀ i, i < 32 → bt 2139062143 i = !decide (i % 8 = 7) := by decide +kernel
theorem b_3f : ∀ i, i < 32 → bt 1061109567 i = !decide (6 ≤ i % 8) := by decide +kernel
/-- the bytes' places -/
def jP (j : Nat) : Prop := j = 0 ∨ j = 8 ∨ j = 16 ∨ j = 24
theorem tw_a (c : Int32) {i j : Nat} (hi : i < 8) (hj : jP j) : bt ((c &&& 2139062143) <<< ((1 : Int32) &&& 31)) (i + j) = (decide (1 ≤ i) && bt c (i - 1 + j)) := by
  have hj2 : j ≤ 24 ∧ j % 8 = 0 := by rcases hj with rfl | rfl | rfl | rfl <;> decide
  refine (b_shl 1 (by omega) _ (show i + j < 32 by omega)).trans ?_
  by_cases h : 1 ≤ i
  · rw [decide_eq_true h, decide_eq_true (show 1 ≤ i + j by omega), Bool.true_and, Bool.true_and, b_and, b_7f _ (by omega), decide_eq_false (show ¬ (i + j - 1) % 8 = 7 by omega), show i + j - 1 = i - 1 + j by omega]
    simp
  · rw [decide_eq_false h, Bool.false_and]
    by_cases h2 : j = 0
    · rw [decide_eq_false (show ¬ 1 ≤ i + j by omega), Bool.false_and]
    · rw [b_and, b_7f _ (by omega), decide_eq_true (show (i + j - 1) % 8 = 7 by omega)]
      simp
theorem tw_b (c : Int32) {i j : Nat} (hi : i < 8) (hj : jP j) : bt (((c.toUInt32 >>> ((7 : Int32).toUInt32 &&& Int32.toUInt32 31)).toInt32 &&& 16843009) * 27) (i + j) = (bt c (7 + j) && Nat.testBit 27 i) := by
  have e : ∀ k, bt ((c.toUInt32 >>> ((7 : Int32).toUInt32 &&& Int32.toUInt32 31)).toInt32) k = bt c (7 + k) := fun k => b_ushr 7 (by omega) c k
  rw [and_ones, w4_27 _ _ _ _ _ (by rcases hj with rfl | rfl | rfl | rfl <;> omega), e, e, e, e]
  rcases hj with rfl | rfl | rfl | rfl
  · rw [if_pos (by omega), show (i + 0) % 8 = i by omega]
  · rw [if_neg (by omega), if_pos (by omega), show (i + 8) % 8 = i by omega]
  · rw [if_neg (by omega), if_neg (by omega), if_pos (by omega), show (i + 16) % 8 = i by omega]
  · rw [if_neg (by omega), if_neg (by omega), if_neg (by omega), show (i + 24) % 8 = i by omega]
theorem fo_a (c : Int32) {i j : Nat} (hi : i < 8) (hj : jP j) : bt ((c &&& 1061109567) <<< ((2 : Int32) &&& 31)) (i + j) = (decide (2 ≤ i) && bt c (i - 2 + j)) := by
  have hj2 : j ≤ 24 ∧ j % 8 = 0 := by rcases hj with rfl | rfl | rfl | rfl <;> decide
  refine (b_shl 2 (by omega) _ (show i + j < 32 by omega)).trans ?_
  by_cases h : 2 ≤ i
  · rw [decide_eq_true h, decide_eq_true (show 2 ≤ i + j by omega), Bool.true_and, Bool.true_and, b_and, b_3f _ (by omega), decide_eq_false (show ¬ 6 ≤ (i + j - 2) % 8 by omega), show i + j - 2 = i - 2 + j by omega]
    simp
  · rw [decide_eq_false h, Bool.false_and]
    by_cases h2 : j = 0
    · rw [decide_eq_false (show ¬ 2 ≤ i + j by omega), Bool.false_and]
    · rw [b_and, b_3f _ (by omega), decide_eq_true (show 6 ≤ (i + j - 2) % 8 by omega)]
      simp
theorem fo_b (c : Int32) {i j : Nat} (hi : i < 8) (hj : jP j) : bt (((c.toUInt32 >>> ((6 : Int32).toUInt32 &&& Int32.toUInt32 31)).toInt32 &&& 16843009) * 27) (i + j) = (bt c (6 + j) && Nat.testBit 27 i) := by
  have e : ∀ k, bt ((c.toUInt32 >>> ((6 : Int32).toUInt32 &&& Int32.toUInt32 31)).toInt32) k = bt c (6 + k) := fun k => b_ushr 6 (by omega) c k
  rw [and_ones, w4_27 _ _ _ _ _ (by rcases hj with rfl | rfl | rfl | rfl <;> omega), e, e, e, e]
  rcases hj with rfl | rfl | rfl | rfl
  · rw [if_pos (by omega), show (i + 0) % 8 = i by omega]
  · rw [if_neg (by omega), if_pos (by omega), show (i + 8) % 8 = i by omega]
  · rw [if_neg (by omega), if_neg (by omega), if_pos (by omega), show (i + 16) % 8 = i by omega]
  · rw [if_neg (by omega), if_neg (by omega), if_neg (by omega), show (i + 24) % 8 = i by omega]
theorem fo_c (c : Int32) {i j : Nat} (hi : i < 8) (hj : jP j) : bt (((c.toUInt32 >>> ((7 : Int32).toUInt32 &&& Int32.toUInt32 31)).toInt32 &&& 16843009) * 54) (i + j) = (bt c (7 + j) && Nat.testBit 54 i) := by
  have e : ∀ k, bt ((c.toUInt32 >>> ((7 : Int32).toUInt32 &&& Int32.toUInt32 31)).toInt32) k = bt c (7 + k) := fun k => b_ushr 7 (by omega) c k
  rw [and_ones, w4_54 _ _ _ _ _ (by rcases hj with rfl | rfl | rfl | rfl <;> omega), e, e, e, e]
  rcases hj with rfl | rfl | rfl | rfl
  · rw [if_pos (by omega), show (i + 0) % 8 = i by omega]
  · rw [if_neg (by omega), if_pos (by omega), show (i + 8) % 8 = i by omega]
  · rw [if_neg (by omega), if_neg (by omega), if_pos (by omega), show (i + 16) % 8 = i by omega]
  · rw [if_neg (by omega), if_neg (by omega), if_neg (by omega), show (i + 24) % 8 = i by omega]
theorem tw_W {x y z w : Int32} (hx : x &&& 255 = x) (hy : y &&& 255 = y) (hz : z &&& 255 = z) (hw : w &&& 255 = w) : ((zW x y z w &&& 2139062143) <<< ((1 : Int32) &&& 31)) ^^^ ((((zW x y z w).toUInt32 >>> ((7 : Int32).toUInt32 &&& Int32.toUInt32 31)).toInt32 &&& 16843009) * 27) = zW (xt x) (xt y) (xt z) (xt w) := by
  refine zW_ext (xt_u hy) (xt_u hz) (xt_u hw) (fun i hi => ?_) (fun i hi => ?_) (fun i hi => ?_) (fun i hi => ?_)
  · have a := tw_a (zW x y z w) hi (Or.inl rfl)
    have b := tw_b (zW x y z w) hi (Or.inl rfl)
    rw [Nat.add_zero] at a b
    rw [b_xor, a, b, xt_b hw hi, Nat.add_zero, Nat.add_zero, btW3 hy hz hw (by omega), btW3 hy hz hw (by omega)]
  · rw [b_xor, tw_a _ hi (Or.inr (Or.inl rfl)), tw_b _ hi (Or.inr (Or.inl rfl)), xt_b hz hi, btW2 hy hz hw (by omega), btW2 hy hz hw (by omega)]
  · rw [b_xor, tw_a _ hi (Or.inr (Or.inr (Or.inl rfl))), tw_b _ hi (Or.inr (Or.inr (Or.inl rfl))), xt_b hy hi, btW1 hy hz hw (by omega), btW1 hy hz hw (by omega)]
  · rw [b_xor, tw_a _ hi (Or.inr (Or.inr (Or.inr rfl))), tw_b _ hi (Or.inr (Or.inr (Or.inr rfl))), xt_b hx hi, btW0 hy hz hw (by omega), btW0 hy hz hw (by omega)]
theorem fo_W {x y z w : Int32} (hx : x &&& 255 = x) (hy : y &&& 255 = y) (hz : z &&& 255 = z) (hw : w &&& 255 = w) : (((zW x y z w &&& 1061109567) <<< ((2 : Int32) &&& 31)) ^^^ ((((zW x y z w).toUInt32 >>> ((6 : Int32).toUInt32 &&& Int32.toUInt32 31)).toInt32 &&& 16843009) * 27)) ^^^ ((((zW x y z w).toUInt32 >>> ((7 : Int32).toUInt32 &&& Int32.toUInt32 31)).toInt32 &&& 16843009) * 54) = zW (xt (xt x)) (xt (xt y)) (xt (xt z)) (xt (xt w)) := by
  refine zW_ext (xt_u (xt_u hy)) (xt_u (xt_u hz)) (xt_u (xt_u hw)) (fun i hi => ?_) (fun i hi => ?_) (fun i hi => ?_) (fun i hi => ?_)
  · have a := fo_a (zW x y z w) hi (Or.inl rfl)
    have b := fo_b (zW x y z w) hi (Or.inl rfl)
    have c := fo_c (zW x y z w) hi (Or.inl rfl)
    rw [Nat.add_zero] at a b c
    rw [b_xor, b_xor, a, b, c, xtt_b hw hi, Nat.add_zero, Nat.add_zero, Nat.add_zero, btW3 hy hz hw (by omega), btW3 hy hz hw (by omega), btW3 hy hz hw (by omega)]
  · rw [b_xor, b_xor, fo_a _ hi (Or.inr (Or.inl rfl)), fo_b _ hi (Or.inr (Or.inl rfl)), fo_c _ hi (Or.inr (Or.inl rfl)), xtt_b hz hi, btW2 hy hz hw (by omega), btW2 hy hz hw (by omega), btW2 hy hz hw (by omega)]
  · rw [b_xor, b_xor, fo_a _ hi (Or.inr (Or.inr (Or.inl rfl))), fo_b _ hi (Or.inr (Or.inr (Or.inl rfl))), fo_c _ hi (Or.inr (Or.inr (Or.inl rfl))), xtt_b hy hi, btW1 hy hz hw (by omega), btW1 hy hz hw (by omega), btW1 hy hz hw (by omega)]
  · rw [b_xor, b_xor, fo_a _ hi (Or.inr (Or.inr (Or.inr rfl))), fo_b _ hi (Or.inr (Or.inr (Or.inr rfl))), fo_c _ hi (Or.inr (Or.inr (Or.inr rfl))), xtt_b hx hi, btW0 hy hz hw (by omega), btW0 hy hz hw (by omega), btW0 hy hz hw (by omega)]
/-- words that are turned -/
theorem ro8 {x y z w : Int32} (hx : x &&& 255 = x) (hy : y &&& 255 = y) (hz : z &&& 255 = z) (hw : w &&& 255 = w) : (zW x y z w <<< ((8 : Int32) &&& 31)) ||| ((zW x y z w).toUInt32 >>> ((24 : Int32).toUInt32 &&& Int32.toUInt32 31)).toInt32 = zW y z w x := by
  rw [zW_b0 hx hy hz hw]
  refine zW_ext hz hw hx (fun i hi => ?_) (fun i hi => ?_) (fun i hi => ?_) (fun i hi => ?_)
  · rw [b_or, b_shl8 _ (by omega), decide_eq_false (show ¬ 8 ≤ i by omega)]; simp
  · rw [b_or, b_shl8 _ (by omega), decide_eq_true (show 8 ≤ i + 8 by omega), Nat.add_sub_cancel, btW3 hy hz hw hi, btU hx (by omega)]; simp
  · rw [b_or, b_shl8 _ (by omega), decide_eq_true (show 8 ≤ i + 16 by omega), show i + 16 - 8 = i + 8 by omega, btW2 hy hz hw hi, btU hx (by omega)]; simp
  · rw [b_or, b_shl8 _ (by omega), decide_eq_true (show 8 ≤ i + 24 by omega), show i + 24 - 8 = i + 16 by omega, btW1 hy hz hw hi, btU hx (by omega)]; simp
theorem ro16 {x y z w : Int32} (hy : y &&& 255 = y) (hz : z &&& 255 = z) (hw : w &&& 255 = w) (hx : x &&& 255 = x) : (zW x y z w <<< ((16 : Int32) &&& 31)) ||| ((zW x y z w).toUInt32 >>> ((16 : Int32).toUInt32 &&& Int32.toUInt32 31)).toInt32 = zW z w x y := by
  have e : ∀ k, bt (((zW x y z w).toUInt32 >>> ((16 : Int32).toUInt32 &&& Int32.toUInt32 31)).toInt32) k = bt (zW x y z w) (16 + k) := fun k => b_ushr 16 (by omega) _ k
  refine zW_ext hw hx hy (fun i hi => ?_) (fun i hi => ?_) (fun i hi => ?_) (fun i hi => ?_)
  · rw [b_or, e, b_shl16 _ (by omega), decide_eq_false (show ¬ 16 ≤ i by omega), Nat.add_comm 16 i, btW1 hy hz hw hi]; simp
  · rw [b_or, e, b_shl16 _ (by omega), decide_eq_false (show ¬ 16 ≤ i + 8 by omega), show 16 + (i + 8) = i + 24 by omega, btW0 hy hz hw hi]; simp
  · rw [b_or, e, b_shl16 _ (by omega), decide_eq_true (show 16 ≤ i + 16 by omega), Nat.add_sub_cancel, btW3 hy hz hw hi, b_big (x := zW x y z w) (i := 16 + (i + 16)) (by omega)]; simp
  · rw [b_or, e, b_shl16 _ (by omega), decide_eq_true (show 16 ≤ i + 24 by omega), show i + 24 - 16 = i + 8 by omega, btW2 hy hz hw hi, b_big (x := zW x y z w) (i := 16 + (i + 24)) (by omega)]; simp
theorem ro24 {x y z w : Int32} (hy : y &&& 255 = y) (hz : z &&& 255 = z) (hw : w &&& 255 = w) (hx : x &&& 255 = x) : (zW x y z w <<< ((24 : Int32) &&& 31)) ||| ((zW x y z w).toUInt32 >>> ((8 : Int32).toUInt32 &&& Int32.toUInt32 31)).toInt32 = zW w x y z := by
  have e : ∀ k, bt (((zW x y z w).toUInt32 >>> ((8 : Int32).toUInt32 &&& Int32.toUInt32 31)).toInt32) k = bt (zW x y z w) (8 + k) := fun k => b_ushr 8 (by omega) _ k
  refine zW_ext hx hy hz (fun i hi => ?_) (fun i hi => ?_) (fun i hi => ?_) (fun i hi => ?_)
  · rw [b_or, e, b_shl24 _ (by omega), decide_eq_false (show ¬ 24 ≤ i by omega), Nat.add_comm 8 i, btW2 hy hz hw hi]; simp
  · rw [b_or, e, b_shl24 _ (by omega), decide_eq_false (show ¬ 24 ≤ i + 8 by omega), show 8 + (i + 8) = i + 16 by omega, btW1 hy hz hw hi]; simp
  · rw [b_or, e, b_shl24 _ (by omega), decide_eq_false (show ¬ 24 ≤ i + 16 by omega), show 8 + (i + 16) = i + 24 by omega, btW0 hy hz hw hi]; simp
  · rw [b_or, e, b_shl24 _ (by omega), decide_eq_true (show 24 ≤ i + 24 by omega), Nat.add_sub_cancel, btW3 hy hz hw hi, b_big (x := zW x y z w) (i := 8 + (i + 24)) (by omega)]; simp
/-- one row of a column that is mixed -/
def mx (x y z w : Int32) : Int32 := ((xt x ^^^ (xt y ^^^ y)) ^^^ z) ^^^ w
theorem mx_u {x y z w : Int32} (hx : x &&& 255 = x) (hy : y &&& 255 = y) (hz : z &&& 255 = z) (hw : w &&& 255 = w) : mx x y z w &&& 255 = mx x y z w := xorU (xorU (xorU (xt_u hx) (xorU (xt_u hy) hy)) hz) hw
theorem p_X0_mixed {x y z w : Int32} (hx : x &&& 255 = x) (hy : y &&& 255 = y) (hz : z &&& 255 = z) (hw : w &&& 255 = w) : f_X0_mixed (zW x y z w) = some (zW (mx x y z w) (mx y z w x) (mx z w x y) (mx w x y z)) := by
  have ax := xt_u hx
  have ay := xt_u hy
  have az := xt_u hz
  have aw := xt_u hw
  unfold f_X0_mixed
  simp only [znE]
  rw [tw_W hx hy hz hw, zW_xor ay az aw hy hz hw, ro8 (xorU ax hx) (xorU ay hy) (xorU az hz) (xorU aw hw), ro16 hy hz hw hx, ro24 hy hz hw hx, zW_xor ay az aw (xorU az hz) (xorU aw hw) (xorU ax hx), zW_xor (xorU ay (xorU az hz)) (xorU az (xorU aw hw)) (xorU aw (xorU ax hx)) hw hx hy, zW_xor (xorU (xorU ay (xorU az hz)) hw) (xorU (xorU az (xorU aw hw)) hx) (xorU (xorU aw (xorU ax hx)) hy) hx hy hz]
  rfl
theorem unmix_bits : ∀ x1 x2 x3 y0 y1 y2 y3 z0 z2 z3 w0 w2 w3 : Bool, (((((x1 ^^ (x3 ^^ z3)) ^^ ((y1 ^^ (y3 ^^ w3)) ^^ (y0 ^^ (y2 ^^ w2)))) ^^ (z0 ^^ (z2 ^^ x2))) ^^ (w0 ^^ (w2 ^^ y2)))) = (((((x3 ^^ x2) ^^ x1) ^^ ((y3 ^^ y1) ^^ y0)) ^^ ((z3 ^^ z2) ^^ z0)) ^^ (w3 ^^ w0)) := by decide +kernel
def umx (x y z w : Int32) : Int32 := ((gml x 14 ^^^ gml y 11) ^^^ gml z 13) ^^^ gml w 9
theorem umx_eq {x y z w : Int32} (hx : x &&& 255 = x) (hy : y &&& 255 = y) (hz : z &&& 255 = z) (hw : w &&& 255 = w) : mx (x ^^^ xt (xt (x ^^^ z))) (y ^^^ xt (xt (y ^^^ w))) (z ^^^ xt (xt (z ^^^ x))) (w ^^^ xt (xt (w ^^^ y))) = umx x y z w := by
  obtain ⟨kx, hkx, ex⟩ := uNat hx
  obtain ⟨ky, hky, ey⟩ := uNat hy
  obtain ⟨kz, hkz, ez⟩ := uNat hz
  obtain ⟨kw, hkw, ew⟩ := uNat hw
  have gx := (gml_c kx hkx).2.2.2.2.2.2
  have gy := (gml_c ky hky).2.2.2.2.1
  have gz := (gml_c kz hkz).2.2.2.2.2.1
  have gw := (gml_c kw hkw).2.2.2.1
  rw [← ex] at gx
  rw [← ey] at gy
  rw [← ez] at gz
  rw [← ew] at gw
  unfold umx mx
  rw [gx, gy, gz, gw]
  have ax := xt_u hx
  have ay := xt_u hy
  have az := xt_u hz
  have aw := xt_u hw
  have bx := xt_u ax
  have b_y := xt_u ay
  have bz := xt_u az
  have bw := xt_u aw
  rw [xt_xor hx hz, xt_xor hy hw, xt_xor hz hx, xt_xor hw hy, xt_xor ax az, xt_xor ay aw, xt_xor az ax, xt_xor aw ay, xt_xor hx (xorU bx bz), xt_xor hy (xorU b_y bw), xt_xor bx bz, xt_xor b_y bw]
  apply b_ext
  intro i _
  simp only [b_xor]
  exact unmix_bits _ _ _ _ _ _ _ _ _ _ _ _ _
theorem gml_u {x : Int32} (h : x &&& 255 = x) : gml x 14 &&& 255 = gml x 14 ∧ gml x 11 &&& 255 = gml x 11 ∧ gml x 13 &&& 255 = gml x 13 ∧ gml x 9 &&& 255 = gml x 9 := by
  obtain ⟨k, hk, rfl⟩ := uNat h
  obtain ⟨-, -, -, g9, g11, g13, g14⟩ := gml_c k hk
  have a := xt_u h
  have b := xt_u a
  have c := xt_u b
  rw [g9, g11, g13, g14]
  exact ⟨xorU (xorU c b) a, xorU (xorU c a) h, xorU (xorU c b) h, xorU c h⟩
theorem p_X0_unmixed {x y z w : Int32} (hx : x &&& 255 = x) (hy : y &&& 255 = y) (hz : z &&& 255 = z) (hw : w &&& 255 = w) : f_X0_unmixed (zW x y z w) = some (zW (umx x y z w) (umx y z w x) (umx z w x y) (umx w x y z)) := by
  have f1 := fun {a b : Int32} (ha : a &&& 255 = a) (hb : b &&& 255 = b) => xt_u (xt_u (xorU ha hb))
  unfold f_X0_unmixed
  simp only [znE]
  rw [ro16 hy hz hw hx, zW_xor hy hz hw hw hx hy, fo_W (xorU hx hz) (xorU hy hw) (xorU hz hx) (xorU hw hy), zW_xor hy hz hw (f1 hy hw) (f1 hz hx) (f1 hw hy), p_X0_mixed (xorU hx (f1 hx hz)) (xorU hy (f1 hy hw)) (xorU hz (f1 hz hx)) (xorU hw (f1 hw hy)), zbE, umx_eq hx hy hz hw, umx_eq hy hz hw hx, umx_eq hz hw hx hy, umx_eq hw hx hy hz]
