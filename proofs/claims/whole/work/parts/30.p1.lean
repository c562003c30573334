/-! SHA-256: the model's block, and both are one -/
theorem zk_c {α : Type} {b : Prop} [Decidable b] {x : Option α} (h : b) : zk b x = x := if_pos h
def shW4 (m : Nat → Int32) (i : Nat) : Int32 := ((((m (4 * i)) <<< ((24 : Int32) &&& 31)) ||| ((m (4 * i + 1)) <<< ((16 : Int32) &&& 31))) ||| ((m (4 * i + 2)) <<< ((8 : Int32) &&& 31))) ||| (m (4 * i + 3))
def shX2 (f : Nat → Int32) (i : Nat) : Int32 := (((f (i - 16)) + (f (i - 7))) + shS0 (f (i - 15))) + shS1 (f (i - 2))
theorem shX2_eq (f : Nat → Int32) (i : Nat) : shX2 f i = shX f i := by
  unfold shX2 shX
  rw [Int32.add_assoc (f (i - 16)) (f (i - 7)) (shS0 (f (i - 15))), Int32.add_comm (f (i - 7)) (shS0 (f (i - 15))), ← Int32.add_assoc]
set_option maxHeartbeats 4000000 in
theorem p_X10_words (m : Nat → Int32) (K : (Nat → Int32) → Option ((Nat → Int32) × (Nat → Int32) × (Nat → Int32))) (f : Nat → Int32) : zl (b_X10_compress_2 m K) zF ((0 : Int32), f) = K (zit (fun i f => upd f i (shW4 m i)) 0 16 f) := by
  refine (zl_it (F := b_X10_compress_2 m K) (fun i f => (nI i, f)) K (fun i f => upd f i (shW4 m i)) (fun _ _ => True) 16 ?_ ?_ 16 0 f rfl trivial zF (by have := zF_big; omega)).1
  · intro self s _
    simp only [b_X10_compress_2, zn]
    exact if_pos (by decide)
  · intro self i s hi _
    refine ⟨?_, trivial⟩
    have h64 : ¬ (16 : Int32) ≤ nI i := nI_ge hi (by decide)
    have e4 : (4 : Int32) * nI i = nI (4 * i) := pk_mul 4 i
    have e41 : nI (4 * i) + (1 : Int32) = nI (4 * i + 1) := nI_add (4 * i) 1
    have e42 : nI (4 * i) + (2 : Int32) = nI (4 * i + 2) := nI_add (4 * i) 2
    have e43 : nI (4 * i) + (3 : Int32) = nI (4 * i + 3) := nI_add (4 * i) 3
    simp only [b_X10_compress_2, zn]
    rw [if_neg h64, e4, e41, e42, e43, zk_nI (by omega) (by omega), zk_nI (by omega) (by omega), zk_nI (by omega) (by omega), zk_nI (by omega) (by omega), zk_nI (by omega) (by omega), nI_clamp (n := 4 * i) (by omega), nI_clamp (n := 4 * i + 1) (by omega), nI_clamp (n := 4 * i + 2) (by omega), nI_clamp (n := 4 * i + 3) (by omega), nI_clamp (n := i) (by omega), nI_1]
    rfl
set_option maxHeartbeats 4000000 in
theorem p_X10_expand (K : (Nat → Int32) → Option ((Nat → Int32) × (Nat → Int32) × (Nat → Int32))) (f : Nat → Int32) : zl (b_X10_compress_73 K) zF ((16 : Int32), f) = K (zit (fun i f => upd f i (shX2 f i)) 16 48 f) := by
  refine (zl_it (F := b_X10_compress_73 K) (fun i f => (nI i, f)) K (fun i f => upd f i (shX2 f i)) (fun i _ => 16 ≤ i) 64 ?_ ?_ 48 16 f rfl (Nat.le_refl _) zF (by have := zF_big; omega)).1
  · intro self s _
    simp only [b_X10_compress_73, zn]
    exact if_pos (by decide)
  · intro self i s hi h16
    refine ⟨?_, by omega⟩
    have h64 : ¬ (64 : Int32) ≤ nI i := nI_ge hi (by decide)
    have e15 : nI i - (15 : Int32) = nI (i - 15) := pk_sub (a := i) (b := 15) (by omega)
    have e2 : nI i - (2 : Int32) = nI (i - 2) := pk_sub (a := i) (b := 2) (by omega)
    have e16 : nI i - (16 : Int32) = nI (i - 16) := pk_sub (a := i) (b := 16) (by omega)
    have e7 : nI i - (7 : Int32) = nI (i - 7) := pk_sub (a := i) (b := 7) (by omega)
    simp only [b_X10_compress_73, f_X10_turn, Option.bind, zn]
    rw [if_neg h64, e15, e2, e16, e7]
    iterate 9 rw [zk_nI (by omega) (by omega)]
    rw [nI_clamp (n := i - 15) (by omega), nI_clamp (n := i - 2) (by omega), nI_clamp (n := i - 16) (by omega), nI_clamp (n := i - 7) (by omega), nI_clamp (n := i) (by omega), nI_1]
    rfl
/-- what is behind a shift of eight places by one -/
def shSh (x : Nat → Int32) : Nat → Int32 := zit (fun k f => upd f (7 - k) (f (7 - k - 1))) 0 7 x
theorem shSh_at (x : Nat → Int32) : shSh x 0 = x 0 ∧ shSh x 1 = x 0 ∧ shSh x 2 = x 1 ∧ shSh x 3 = x 2 ∧ shSh x 4 = x 3 ∧ shSh x 5 = x 4 ∧ shSh x 6 = x 5 ∧ shSh x 7 = x 6 := by
  refine ⟨rfl, rfl, rfl, rfl, rfl, rfl, rfl, rfl⟩
set_option maxHeartbeats 4000000 in
theorem p_X10_shift (K : (Nat → Int32) → Option ((Nat → Int32) × (Nat → Int32) × (Nat → Int32))) (x : Nat → Int32) : zl (b_X10_compress_396 K) zF ((7 : Int32), x) = K (shSh x) := by
  refine (zl_it (F := b_X10_compress_396 K) (fun k f => (nI (7 - k), f)) K (fun k f => upd f (7 - k) (f (7 - k - 1))) (fun _ _ => True) 7 ?_ ?_ 7 0 x rfl trivial zF (by have := zF_big; omega)).1
  · intro self s _
    simp only [b_X10_compress_396, zn]
    exact if_pos (by decide)
  · intro self k s hk _
    refine ⟨?_, trivial⟩
    obtain ⟨q, hq⟩ : ∃ q, 7 - k = q + 1 := ⟨6 - k, by omega⟩
    have hq6 : q ≤ 6 := by omega
    have h0 : ¬ nI (q + 1) ≤ 0 := nI_nle (by omega) (by omega)
    have e1 : nI (q + 1) - (1 : Int32) = nI q := nI_pred q
    have e2 : nI (q + 1) + (-1 : Int32) = nI q := pk_m1 q
    have e3 : 7 - (k + 1) = q := by omega
    simp only [b_X10_compress_396, hq, e3, zn]
    rw [if_neg h0, e1, zk_nI (by omega) (by omega), zk_nI (by omega) (by omega), nI_clamp (n := q + 1) (by omega), nI_clamp (n := q) (by omega), e2]
    rfl
/-- one round over the model's row -/
def shM (w : Nat → Int32) (i : Nat) (x : Nat → Int32) : Nat → Int32 :=
  upd (upd (shSh x) 4 (shSh x 4 + ((((x 7 + shB1 (x 4)) + ((x 4 &&& x 5) ^^^ ((x 4 ^^^ (-1 : Int32)) &&& x 6))) + (tb_CONSTANTS.getD i 0)) + (w i)))) 0 (((((x 7 + shB1 (x 4)) + ((x 4 &&& x 5) ^^^ ((x 4 ^^^ (-1 : Int32)) &&& x 6))) + (tb_CONSTANTS.getD i 0)) + (w i)) + (shB0 (x 0) + (((x 0 &&& x 1) ^^^ (x 0 &&& x 2)) ^^^ (x 1 &&& x 2))))
set_option maxHeartbeats 4000000 in
theorem p_X10_rounds (RO w : Nat → Int32) (hR : ∀ j, j < 64 → RO j = tb_CONSTANTS.getD j 0) (K : (Nat → Int32) → Option ((Nat → Int32) × (Nat → Int32) × (Nat → Int32))) (x : Nat → Int32) : zl (b_X10_compress_220 RO w K) zF ((0 : Int32), x) = K (zit (shM w) 0 64 x) := by
  refine (zl_it (F := b_X10_compress_220 RO w K) (fun i f => (nI i, f)) K (shM w) (fun _ _ => True) 64 ?_ ?_ 64 0 x rfl trivial zF (by have := zF_big; omega)).1
  · intro self s _
    simp only [b_X10_compress_220, zn]
    exact if_pos (by decide)
  · intro self i s hi _
    refine ⟨?_, trivial⟩
    have h64 : ¬ (64 : Int32) ≤ nI i := nI_ge hi (by decide)
    simp only [b_X10_compress_220, f_X10_turn, Option.bind, zn, zj]
    rw [if_neg h64]
    simp (decide := true) only [zk_c]
    rw [zk_nI (by omega) (by omega), zk_nI (by omega) (by omega), p_X10_shift, nI_clamp (n := i) (by omega), nI_1, hR i hi]
    rfl
