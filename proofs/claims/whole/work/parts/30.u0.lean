/-! GCM: the field -/
theorem bl_1 : ∀ i, i < 64 → btl 1 i = decide (i = 0) := by decide +kernel
theorem and1_b (x : Int64) {i : Nat} (hi : i < 64) : btl (x &&& 1) i = (decide (i = 0) && btl x 0) := by
  rw [bl_and, bl_1 i hi]
  by_cases h : i = 0
  · subst h; simp
  · simp [h]
theorem and1_0 (x : Int64) : x &&& 1 = 0 ↔ btl x 0 = false := by
  constructor
  · intro h
    have := and1_b x (i := 0) (by omega)
    rw [h, bl_0] at this
    simpa using this.symm
  · intro h
    refine bl_ext (fun i hi => ?_)
    rw [and1_b x hi, h, bl_0, Bool.and_false]
theorem and1_1 (x : Int64) : x &&& 1 = 1 ↔ btl x 0 = true := by
  constructor
  · intro h
    have := and1_b x (i := 0) (by omega)
    rw [h, bl_1 0 (by omega)] at this
    simpa using this.symm
  · intro h
    refine bl_ext (fun i hi => ?_)
    rw [and1_b x hi, h, bl_1 i hi, Bool.and_true]
abbrev L4 := Int64 × Int64 × Int64 × Int64
def gmB (x y : Int64) (i : Nat) : Bool := if i < 64 then btl x (63 - i) else btl y (127 - i)
def gmA (a b : Int64) : Int64 := (a.toUInt64 >>> ((1 : Int32).toInt64.toUInt64 &&& Int64.toUInt64 63)).toInt64 ^^^ (if btl b 0 = true then (-2233785415175766016 : Int64) else 0)
def gmL (a b : Int64) : Int64 := (b.toUInt64 >>> ((1 : Int32).toInt64.toUInt64 &&& Int64.toUInt64 63)).toInt64 ||| (a <<< ((63 : Int32).toInt64 &&& 63))
def gmS (x y : Int64) (i : Nat) (s : L4) : L4 := (if gmB x y i = true then s.1 ^^^ s.2.2.1 else s.1, if gmB x y i = true then s.2.1 ^^^ s.2.2.2 else s.2.1, gmA s.2.2.1 s.2.2.2, gmL s.2.2.1 s.2.2.2)
/-- the key times a number -/
def gm (kh kl x y : Int64) : Int64 × Int64 := ((zit (gmS x y) 0 128 (0, 0, kh, kl)).1, (zit (gmS x y) 0 128 (0, 0, kh, kl)).2.1)
theorem nI_63 : ∀ i, i < 128 → nI i &&& 63 = nI (i % 64) := by decide +kernel
set_option maxHeartbeats 4000000 in
theorem p_X2_multiply (kh kl x y : Int64) : f_X2_multiply kh kl x y = some (gm kh kl x y) := by
  unfold f_X2_multiply
  rw [zjE]
  refine (zl_it (F := b_X2_multiply_19 x y _) (fun i (s : L4) => (s.1, s.2.1, s.2.2.1, s.2.2.2, nI i)) (fun s => some (s.1, s.2.1)) (gmS x y) (fun _ _ => True) 128 ?_ ?_ 128 0 (0, 0, kh, kl) rfl trivial zF (by have := zF_big; omega)).1
  · intro self s _
    obtain ⟨h, l, a, b⟩ := s
    simp only [b_X2_multiply_19]
    exact if_pos (by decide)
  · intro self i s hi _
    refine ⟨?_, trivial⟩
    obtain ⟨h, l, a, b⟩ := s
    have key : ∀ v : Int64, btl v (63 - i % 64) = gmB x y i → zj (fun (v_14 : Int64) (v_15 : Int64) => zj (fun (v_17 : Int32) => zn (((b.toUInt64 >>> ((1 : Int32).toInt64.toUInt64 &&& Int64.toUInt64 63)).toInt64 ||| (a <<< ((63 : Int32).toInt64 &&& 63))) : Int64) (fun x_19 => if v_17 = 0 then zn (((a.toUInt64 >>> ((1 : Int32).toInt64.toUInt64 &&& Int64.toUInt64 63)).toInt64 ^^^ (0 : Int64)) : Int64) (fun x_22 => self (v_14, v_15, x_22, x_19, (nI i + (1 : Int32)))) else zn (((a.toUInt64 >>> ((1 : Int32).toInt64.toUInt64 &&& Int64.toUInt64 63)).toInt64 ^^^ (-2233785415175766016 : Int64)) : Int64) (fun x_23 => self (v_14, v_15, x_23, x_19, (nI i + (1 : Int32)))))) (fun K_18 => if (lg_cmp (b &&& (1 : Int64)) (0 : Int64)) = 0 then K_18 (0 : Int32) else K_18 (1 : Int32))) (fun K_16 => if 0 ≤ (lg_cmp (v <<< ((nI i &&& (63 : Int32)).toInt64 &&& 63)) (0 : Int64)) then K_16 h l else zn ((h ^^^ a) : Int64) (fun x_28 => zn ((l ^^^ b) : Int64) (fun x_29 => K_16 x_28 x_29))) = self (if gmB x y i = true then h ^^^ a else h, if gmB x y i = true then l ^^^ b else l, gmA a b, gmL a b, nI (i + 1)) := by
      intro v hv
      have hb : btl (v <<< ((nI i &&& (63 : Int32)).toInt64 &&& 63)) 63 = gmB x y i := by
        rw [nI_63 i hi, bl_shl _ (by omega) _ (by omega), decide_eq_true (by omega), Bool.true_and, hv]
      have inner : ∀ p q : Int64, zj (fun (v_17 : Int32) => zn (((b.toUInt64 >>> ((1 : Int32).toInt64.toUInt64 &&& Int64.toUInt64 63)).toInt64 ||| (a <<< ((63 : Int32).toInt64 &&& 63))) : Int64) (fun x_19 => if v_17 = 0 then zn (((a.toUInt64 >>> ((1 : Int32).toInt64.toUInt64 &&& Int64.toUInt64 63)).toInt64 ^^^ (0 : Int64)) : Int64) (fun x_22 => self (p, q, x_22, x_19, (nI i + (1 : Int32)))) else zn (((a.toUInt64 >>> ((1 : Int32).toInt64.toUInt64 &&& Int64.toUInt64 63)).toInt64 ^^^ (-2233785415175766016 : Int64)) : Int64) (fun x_23 => self (p, q, x_23, x_19, (nI i + (1 : Int32)))))) (fun K_18 => if (lg_cmp (b &&& (1 : Int64)) (0 : Int64)) = 0 then K_18 (0 : Int32) else K_18 (1 : Int32)) = self (p, q, gmA a b, gmL a b, nI (i + 1)) := by
        intro p q
        rw [zjE]
        by_cases h1 : btl b 0 = true
        · rw [if_neg (fun z => by rw [(and1_0 b).mp ((lg0 _ _).mp z)] at h1; cases h1)]
          unfold gmA gmL
          rw [if_pos h1]
          simp (decide := true) only [znE, ite_false, nI_1]
        · rw [if_pos ((lg0 _ _).mpr ((and1_0 b).mpr (by revert h1; cases btl b 0 <;> decide)))]
          unfold gmA gmL
          rw [if_neg h1]
          simp (decide := true) only [znE, ite_true, nI_1]
      rw [zjE]
      by_cases hc : gmB x y i = true
      · rw [if_neg (fun z => by rw [(lgn _).mp z] at hb; rw [← hb] at hc; cases hc), if_pos hc, if_pos hc]
        simp only [znE]
        exact inner _ _
      · rw [if_pos ((lgn _).mpr (by rw [hb]; revert hc; cases gmB x y i <;> decide)), if_neg hc, if_neg hc]
        exact inner _ _
    simp only [b_X2_multiply_19]
    rw [if_neg (show ¬ (128 : Int32) ≤ nI i from nI_ge (b := 128) hi (by omega)), zjE]
    by_cases h64 : i < 64
    · rw [if_neg (show ¬ (64 : Int32) ≤ nI i from nI_ge (b := 64) h64 (by omega))]
      exact key x (by unfold gmB; rw [if_pos h64, Nat.mod_eq_of_lt h64])
    · rw [if_pos (show (64 : Int32) ≤ nI i from nI_le (a := 64) (by omega) (by omega))]
      exact key y (by unfold gmB; rw [if_neg h64, show 63 - i % 64 = 127 - i by omega])
set_option maxHeartbeats 4000000 in
theorem p_X10_multiply (kh kl x y h0 l0 : Int64) : f_X10_multiply x y h0 kh kl l0 = some (gm kh kl x y) := by
  unfold f_X10_multiply
  rw [zjE]
  refine (zl_it (F := b_X10_multiply_25 x y _) (fun i (s : L4) => (s.2.2.1, s.2.2.2, nI i, s.1, s.2.1)) (fun s => some (s.1, s.2.1)) (gmS x y) (fun _ _ => True) 128 ?_ ?_ 128 0 (0, 0, kh, kl) rfl trivial zF (by have := zF_big; omega)).1
  · intro self s _
    obtain ⟨h, l, a, b⟩ := s
    simp only [b_X10_multiply_25]
    exact if_pos (by decide)
  · intro self i s hi _
    refine ⟨?_, trivial⟩
    obtain ⟨h, l, a, b⟩ := s
    have key : ∀ v : Int64, (v = 1 ↔ gmB x y i = true) → zj (fun (c_high_14 : Int64) => zj (fun (c_low_16 : Int64) => zj (fun (v_18 : Int32) => zn (((b.toUInt64 >>> ((1 : Int32).toInt64.toUInt64 &&& Int64.toUInt64 63)).toInt64 ||| (a <<< ((63 : Int32).toInt64 &&& 63))) : Int64) (fun x_20 => if v_18 = 0 then zn (((a.toUInt64 >>> ((1 : Int32).toInt64.toUInt64 &&& Int64.toUInt64 63)).toInt64 ^^^ (0 : Int64)) : Int64) (fun x_23 => self (x_23, x_20, (nI i + (1 : Int32)), c_high_14, c_low_16)) else zn (((a.toUInt64 >>> ((1 : Int32).toInt64.toUInt64 &&& Int64.toUInt64 63)).toInt64 ^^^ (-2233785415175766016 : Int64)) : Int64) (fun x_24 => self (x_24, x_20, (nI i + (1 : Int32)), c_high_14, c_low_16)))) (fun K_19 => if (lg_cmp (b &&& (1 : Int64)) (1 : Int64)) = 0 then K_19 (1 : Int32) else K_19 (0 : Int32))) (fun K_17 => if (lg_cmp v (1 : Int64)) = 0 then zn ((l ^^^ b) : Int64) (fun x_29 => K_17 x_29) else K_17 l)) (fun K_15 => if (lg_cmp v (1 : Int64)) = 0 then zn ((h ^^^ a) : Int64) (fun x_32 => K_15 x_32) else K_15 h) = self (gmA a b, gmL a b, nI (i + 1), if gmB x y i = true then h ^^^ a else h, if gmB x y i = true then l ^^^ b else l) := by
      intro v hv
      have inner : ∀ p q : Int64, zj (fun (v_18 : Int32) => zn (((b.toUInt64 >>> ((1 : Int32).toInt64.toUInt64 &&& Int64.toUInt64 63)).toInt64 ||| (a <<< ((63 : Int32).toInt64 &&& 63))) : Int64) (fun x_20 => if v_18 = 0 then zn (((a.toUInt64 >>> ((1 : Int32).toInt64.toUInt64 &&& Int64.toUInt64 63)).toInt64 ^^^ (0 : Int64)) : Int64) (fun x_23 => self (x_23, x_20, (nI i + (1 : Int32)), p, q)) else zn (((a.toUInt64 >>> ((1 : Int32).toInt64.toUInt64 &&& Int64.toUInt64 63)).toInt64 ^^^ (-2233785415175766016 : Int64)) : Int64) (fun x_24 => self (x_24, x_20, (nI i + (1 : Int32)), p, q)))) (fun K_19 => if (lg_cmp (b &&& (1 : Int64)) (1 : Int64)) = 0 then K_19 (1 : Int32) else K_19 (0 : Int32)) = self (gmA a b, gmL a b, nI (i + 1), p, q) := by
        intro p q
        rw [zjE]
        by_cases h1 : btl b 0 = true
        · rw [if_pos ((lg0 _ _).mpr ((and1_1 b).mpr h1))]
          unfold gmA gmL
          rw [if_pos h1]
          simp (decide := true) only [znE, ite_false, nI_1]
        · rw [if_neg (fun z => h1 ((and1_1 b).mp ((lg0 _ _).mp z)))]
          unfold gmA gmL
          rw [if_neg h1]
          simp (decide := true) only [znE, ite_true, nI_1]
      rw [zjE]
      by_cases hc : gmB x y i = true
      · have e : lg_cmp v 1 = 0 := (lg0 _ _).mpr (hv.mpr hc)
        rw [if_pos e, if_pos hc, if_pos hc]
        simp only [znE]
        rw [zjE, if_pos e]
        simp only [znE]
        exact inner _ _
      · have e : ¬ lg_cmp v 1 = 0 := fun z => hc (hv.mp ((lg0 _ _).mp z))
        rw [if_neg e, if_neg hc, if_neg hc]
        simp only [znE]
        rw [zjE, if_neg e]
        exact inner _ _
    simp only [b_X10_multiply_25]
    rw [if_neg (show ¬ (128 : Int32) ≤ nI i from nI_ge (b := 128) hi (by omega)), zjE]
    by_cases h64 : i < 64
    · rw [if_neg (show ¬ (64 : Int32) ≤ nI i from nI_ge (b := 64) h64 (by omega)), zS2 (by omega)]
      exact key _ (by rw [and1_1, bl_ushr _ (by omega), Nat.add_zero]; unfold gmB; rw [if_pos h64])
    · rw [if_pos (show (64 : Int32) ≤ nI i from nI_le (a := 64) (by omega) (by omega)), zS2 (by omega)]
      exact key _ (by rw [and1_1, bl_ushr _ (by omega), Nat.add_zero]; unfold gmB; rw [if_neg h64])
