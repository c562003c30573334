/-! AES: the keys of the rounds -/
def rcL : List Int32 := [1, 2, 4, 8, 16, 32, 64, 128, 27, 54, 108]
def rc (k : Nat) : Int32 := rcL.getD k 0
/-- what is added to byte i of word w -/
def kxB (nk w i : Nat) (k : Nat → Int32) : Int32 := if w % nk = 0 then sbx (k (4 * (w - 1) + (i + 1) % 4)) ^^^ (if i = 0 then rc ((w - 1) / nk) else 0) else if nk = 8 ∧ w % 8 = 4 then sbx (k (4 * (w - 1) + i)) else k (4 * (w - 1) + i)
/-- k holds the words below L that grow out of its first nk -/
def kxP (nk L : Nat) (k : Nat → Int32) : Prop := ∀ w, nk ≤ w → w < L → ∀ i, i < 4 → k (4 * w + i) = k (4 * (w - nk) + i) ^^^ kxB nk w i k
theorem kxB_c {nk w i : Nat} {k l : Nat → Int32} (h : ∀ t, t < 4 * w → k t = l t) (hw : 1 ≤ w) (hi : i < 4) : kxB nk w i k = kxB nk w i l := by
  unfold kxB
  rw [h (4 * (w - 1) + (i + 1) % 4) (by omega), h (4 * (w - 1) + i) (by omega)]
theorem kxP_eq {nk L : Nat} {k l : Nat → Int32} (h1 : 1 ≤ nk) (hk : kxP nk L k) (hl : kxP nk L l) (h0 : ∀ t, t < 4 * nk → k t = l t) : ∀ w, w ≤ L → ∀ t, t < 4 * w → k t = l t := by
  intro w
  induction w with
  | zero => intro _ t ht; omega
  | succ w ih =>
    intro hw t ht
    by_cases hc : t < 4 * w
    · exact ih (by omega) t hc
    · by_cases hn : w < nk
      · exact h0 t (by omega)
      · obtain ⟨i, hi, rfl⟩ : ∃ i, i < 4 ∧ t = 4 * w + i := ⟨t - 4 * w, by omega, by omega⟩
        rw [hk w (by omega) (by omega) i hi, hl w (by omega) (by omega) i hi, ih (by omega) (4 * (w - nk) + i) (by omega), kxB_c (ih (by omega)) (by omega) hi]
theorem wB_xor {j : Nat} (hj : j < 4) (x y : Int32) : wB (x ^^^ y) j = wB x j ^^^ wB y j := by
  apply b_ext
  intro i hi
  unfold wB
  rw [b_xor, b_and, b_and, b_and, b_255, b_sshr _ (by omega) _ hi, b_sshr _ (by omega) _ hi, b_sshr _ (by omega) _ hi]
  by_cases h : i < 8
  · rw [decide_eq_true h, if_pos (by omega), if_pos (by omega), if_pos (by omega), b_xor]
    simp
  · rw [decide_eq_false h]
    simp
theorem kB_lo {f : Nat → Int32} {i t : Nat} {v : Int32} (h : t < 4 * i) : kB (upd f i v) t = kB f t := by
  unfold kB
  rw [upd_n _ _ (by omega)]
theorem kB_at {f : Nat → Int32} {i j : Nat} {v : Int32} (h : j < 4) : kB (upd f i v) (4 * i + j) = wB v j := by
  unfold kB
  rw [show (4 * i + j) / 4 = i by omega, show (4 * i + j) % 4 = j by omega, upd_s]
theorem kB_w {f : Nat → Int32} {i j : Nat} (h : j < 4) : kB f (4 * i + j) = wB (f i) j := by
  unfold kB
  rw [show (4 * i + j) / 4 = i by omega, show (4 * i + j) % 4 = j by omega]
theorem rc_next : ∀ k, k < 10 → (rc k <<< ((24 : Int32) &&& 31) = -2147483648 → (452984832 : Int32) = rc (k + 1) <<< ((24 : Int32) &&& 31)) ∧ (¬ rc k <<< ((24 : Int32) &&& 31) = -2147483648 → (rc k <<< ((24 : Int32) &&& 31)) <<< ((1 : Int32) &&& 31) = rc (k + 1) <<< ((24 : Int32) &&& 31)) := by decide +kernel
theorem rc_W : ∀ k, k < 11 → rc k <<< ((24 : Int32) &&& 31) = zW (rc k) 0 0 0 := by decide +kernel
theorem rc_u : ∀ k, k < 11 → rc k &&& 255 = rc k := by decide +kernel
theorem xor0 (x : Int32) : x ^^^ 0 = x := by
  apply b_ext
  intro i _
  rw [b_xor, b_0, Bool.xor_false]
theorem j4 {P : Nat → Prop} (h0 : P 0) (h1 : P 1) (h2 : P 2) (h3 : P 3) : ∀ j, j < 4 → P j := by
  intro j hj
  rcases (show j = 0 ∨ j = 1 ∨ j = 2 ∨ j = 3 by omega) with rfl | rfl | rfl | rfl <;> assumption
theorem nk_and {nk : Nat} (h : nk = 4 ∨ nk = 8) {i : Nat} (hi : i < 2 ^ 31) : nI i &&& (nI nk - 1) = nI (i % nk) := by
  rcases h with rfl | rfl
  · rw [show nI 4 - 1 = 3 by decide]
    exact pk_andN (by omega) 2 (by decide)
  · rw [show nI 8 - 1 = 7 by decide]
    exact pk_andN (by omega) 3 (by decide)
set_option maxHeartbeats 4000000 in
theorem p_set_step {nk i : Nat} (hnk : nk = 4 ∨ nk = 8) (hi : nk ≤ i) (hi2 : i < 4 * (nk + 6) + 4) (f : Nat → Int32) (K : (Nat → Int32) → Option (Int32 × (Nat → Int32))) (self : Int32 × Int32 × (Nat → Int32) → Option (Int32 × (Nat → Int32))) :
    ∃ col, b_X0_setKey_58 (nI nk) (nI (nk + 6)) K self (rc ((i - 1) / nk) <<< ((24 : Int32) &&& 31), nI i, f) = self (rc (i / nk) <<< ((24 : Int32) &&& 31), nI (i + 1), upd f i (f (i - nk) ^^^ col)) ∧ ∀ j, j < 4 → wB col j = kxB nk i j (kB f) := by
  have hb : i ≤ 59 := by omega
  have u0 := wB_u (f (i - 1)) 0
  have u1 := wB_u (f (i - 1)) 1
  have u2 := wB_u (f (i - 1)) 2
  have u3 := wB_u (f (i - 1)) 3
  have ef : f (i - 1) = zW (wB (f (i - 1)) 0) (wB (f (i - 1)) 1) (wB (f (i - 1)) 2) (wB (f (i - 1)) 3) := (zW_wB _).symm
  have kb : ∀ j, j < 4 → kB f (4 * (i - 1) + j) = wB (f (i - 1)) j := fun j hj => kB_w hj
  have hm := nk_and hnk (i := i) (by omega)
  have g1 : ¬ (4 : Int32) * nI (nk + 6) + 4 ≤ nI i := by
    rw [zM, zA]
    exact nI_ge (by omega) (by omega)
  have g2 : nI i - nI nk = nI (i - nk) := pk_sub hi
  simp only [b_X0_setKey_58]
  rw [if_neg g1, hm, g2]
  simp (disch := omega) only [zS, zCl, zki, znE, zA]
  by_cases h0 : i % nk = 0
  · have hk : (i - 1) / nk < 10 ∧ i / nk = (i - 1) / nk + 1 := by rcases hnk with rfl | rfl <;> omega
    rw [if_pos (by rw [h0]; rfl)]
    have et : (f (i - 1) <<< ((8 : Int32) &&& 31)) ||| ((f (i - 1)).toUInt32 >>> ((24 : Int32).toUInt32 &&& Int32.toUInt32 31)).toInt32 = zW (wB (f (i - 1)) 1) (wB (f (i - 1)) 2) (wB (f (i - 1)) 3) (wB (f (i - 1)) 0) := by
      have := ro8 u0 u1 u2 u3
      rw [zW_wB] at this
      exact this
    rw [et, p_X0_boxed u1 u2 u3 u0 u2 u3 u0 u2 u3 u0 u2 u3 u0, zbE, rc_W _ (by omega), zW_xor (sbx_u u2) (sbx_u u3) (sbx_u u0) (by decide) (by decide) (by decide), zjE, ← rc_W _ (by omega), hk.2]
    have uu := rc_u ((i - 1) / nk) (by omega)
    obtain ⟨w0, w1, w2, w3⟩ := wB_zW (x := sbx (wB (f (i - 1)) 1) ^^^ rc ((i - 1) / nk)) (y := sbx (wB (f (i - 1)) 2) ^^^ 0) (z := sbx (wB (f (i - 1)) 3) ^^^ 0) (w := sbx (wB (f (i - 1)) 0) ^^^ 0) (xorU (sbx_u u1) uu) (xorU (sbx_u u2) (by decide)) (xorU (sbx_u u3) (by decide)) (xorU (sbx_u u0) (by decide))
    refine ⟨_, ?_, j4 (w0.trans ?_) (w1.trans ?_) (w2.trans ?_) (w3.trans ?_)⟩
    · by_cases hc : rc ((i - 1) / nk) <<< ((24 : Int32) &&& 31) = -2147483648
      · rw [if_pos hc, ← (rc_next _ hk.1).1 hc]
      · rw [if_neg hc, (rc_next _ hk.1).2 hc]
    · unfold kxB
      rw [if_pos h0, if_pos rfl, kb _ (by omega)]
    · unfold kxB
      rw [if_pos h0, if_neg (by omega), kb _ (by omega)]
    · unfold kxB
      rw [if_pos h0, if_neg (by omega), kb _ (by omega)]
    · unfold kxB
      rw [if_pos h0, if_neg (by omega), kb _ (by omega)]
  · have hk : i / nk = (i - 1) / nk := by rcases hnk with rfl | rfl <;> omega
    rw [if_neg (show ¬ nI (i % nk) = 0 from fun q => h0 ((nI_eq (a := i % nk) (b := 0) (by rcases hnk with rfl | rfl <;> omega) (by omega)).mp q)), hk]
    by_cases h4 : i % nk = 4
    · have h8 : nk = 8 ∧ i % 8 = 4 := by rcases hnk with rfl | rfl <;> omega
      rw [if_pos (by rw [h4]; rfl)]
      have eb : f_X0_boxed (f (i - 1)) (f (i - 1)) (f (i - 1)) (f (i - 1)) = some (zW (sbx (wB (f (i - 1)) 0)) (sbx (wB (f (i - 1)) 1)) (sbx (wB (f (i - 1)) 2)) (sbx (wB (f (i - 1)) 3))) := by
        have := p_X0_boxed u0 u1 u2 u3 (b0 := wB (f (i - 1)) 0) u1 u2 u3 (c0 := wB (f (i - 1)) 0) u1 u2 u3 (d0 := wB (f (i - 1)) 0) u1 u2 u3
        rw [zW_wB] at this
        exact this
      rw [eb, zbE]
      obtain ⟨w0, w1, w2, w3⟩ := wB_zW (sbx_u u0) (sbx_u u1) (sbx_u u2) (sbx_u u3)
      refine ⟨_, rfl, j4 (w0.trans ?_) (w1.trans ?_) (w2.trans ?_) (w3.trans ?_)⟩
      · unfold kxB
        rw [if_neg h0, if_pos h8, kb _ (by omega)]
      · unfold kxB
        rw [if_neg h0, if_pos h8, kb _ (by omega)]
      · unfold kxB
        rw [if_neg h0, if_pos h8, kb _ (by omega)]
      · unfold kxB
        rw [if_neg h0, if_pos h8, kb _ (by omega)]
    · have h8 : ¬ (nk = 8 ∧ i % 8 = 4) := fun q => h4 (by rw [q.1]; exact q.2)
      rw [if_neg (show ¬ nI (i % nk) = 4 from fun q => h4 ((nI_eq (a := i % nk) (b := 4) (by rcases hnk with rfl | rfl <;> omega) (by omega)).mp q))]
      refine ⟨_, rfl, fun j hj => ?_⟩
      unfold kxB
      rw [if_neg h0, if_neg h8, kb _ hj]
set_option maxHeartbeats 4000000 in
theorem p_X0_setKey {N nk : Nat} (hnk : nk = 4 ∨ nk = 8) (rd : Int32) (keys ca : Nat → Int32) (hN : 4 * nk ≤ N) (hN2 : N ≤ 1500) :
    ∃ keys', f_X0_setKey N (nI (4 * nk)) rd keys ca = some (nI (nk + 6), keys') ∧ kxP nk (4 * (nk + 7)) (kB keys') ∧ ∀ t, t < 4 * nk → kB keys' t = ca t &&& 255 := by
  have h8 : nk ≤ 8 := by omega
  have ev : ∀ (K : Int32 → Option (Int32 × (Nat → Int32))), zj K (fun K_2 => if nI (4 * nk) = (32 : Int32) then K_2 (8 : Int32) else K_2 (4 : Int32)) = K (nI nk) := by
    intro K
    rw [zjE]
    rcases hnk with rfl | rfl
    · rw [if_neg (by decide)]; rfl
    · rw [if_pos (by decide)]; rfl
  unfold f_X0_setKey
  rw [ev, show nI nk + 6 = nI (nk + 6) from zA nk 6, znE, zjE]
  refine zl_up (F := b_X0_setKey_24 N ca (nI nk) _) (fun i (s : Nat → Int32) => (nI i, s)) (fun i s => ∀ j, j < 4 * i → kB s j = ca j &&& 255) 0 nk keys (fun o => ∃ keys', o = some (nI (nk + 6), keys') ∧ kxP nk (4 * (nk + 7)) (kB keys') ∧ ∀ t, t < 4 * nk → kB keys' t = ca t &&& 255) (by omega) (by omega) (fun j hj => by omega) ?_ ?_
  · intro self s hs
    simp only [b_X0_setKey_24]
    rw [if_pos (nI_le (Nat.le_refl _) (by omega)), zjE]
    have e1 : (16777216 : Int32) = rc ((nk - 1) / nk) <<< ((24 : Int32) &&& 31) := by rcases hnk with rfl | rfl <;> decide
    rw [e1]
    refine zl_up (F := b_X0_setKey_58 (nI nk) (nI (nk + 6)) _) (fun i (s : Nat → Int32) => (rc ((i - 1) / nk) <<< ((24 : Int32) &&& 31), nI i, s)) (fun i s => (∀ j, j < 4 * nk → kB s j = ca j &&& 255) ∧ ∀ w, nk ≤ w → w < i → ∀ j, j < 4 → kB s (4 * w + j) = kB s (4 * (w - nk) + j) ^^^ kxB nk w j (kB s)) nk (4 * (nk + 7)) s (fun o => ∃ keys', o = some (nI (nk + 6), keys') ∧ kxP nk (4 * (nk + 7)) (kB keys') ∧ ∀ t, t < 4 * nk → kB keys' t = ca t &&& 255) (by omega) (by omega) ⟨hs, fun w h1 h2 => by omega⟩ ?_ ?_
    · intro self s hs
      simp only [b_X0_setKey_58]
      rw [if_pos (by rw [zM, zA]; exact nI_le (by omega) (by omega))]
      exact ⟨_, rfl, fun w h1 h2 => hs.2 w h1 h2, hs.1⟩
    · intro self i s hi1 hi2 hs
      obtain ⟨col, e, hc⟩ := p_set_step hnk hi1 (by omega) s (fun c_keys_11 => some (nI (nk + 6), c_keys_11)) self
      refine ⟨upd s i (s (i - nk) ^^^ col), ⟨fun j hj => ?_, fun w h1 h2 j hj => ?_⟩, ?_⟩
      · rw [kB_lo (by omega)]
        exact hs.1 j hj
      · rw [kxB_c (k := kB (upd s i (s (i - nk) ^^^ col))) (l := kB s) (fun t ht => kB_lo (by omega)) (by omega) hj]
        by_cases e2 : w = i
        · subst e2
          rw [kB_at hj, kB_lo (by omega), wB_xor hj, hc j hj, kB_w hj]
        · rw [kB_lo (by omega), kB_lo (by omega)]
          exact hs.2 w h1 (by omega) j hj
      · rw [e, show i + 1 - 1 = i by omega]
  · intro self i s _ hi hs
    refine ⟨upd s i (zW (ca (4 * i) &&& 255) (ca (4 * i + 1) &&& 255) (ca (4 * i + 2) &&& 255) (ca (4 * i + 3) &&& 255)), fun j hj => ?_, ?_⟩
    · by_cases hc : j < 4 * i
      · rw [kB_lo hc]
        exact hs j hc
      · obtain ⟨q, hq, rfl⟩ : ∃ q, q < 4 ∧ j = 4 * i + q := ⟨j - 4 * i, by omega, by omega⟩
        rw [kB_at hq]
        obtain ⟨w0, w1, w2, w3⟩ := wB_zW (and255 (ca (4 * i))) (and255 (ca (4 * i + 1))) (and255 (ca (4 * i + 2))) (and255 (ca (4 * i + 3)))
        exact j4 (P := fun q => wB (zW (ca (4 * i) &&& 255) (ca (4 * i + 1) &&& 255) (ca (4 * i + 2) &&& 255) (ca (4 * i + 3) &&& 255)) q = ca (4 * i + q) &&& 255) w0 w1 w2 w3 q hq
    · simp (disch := omega) only [b_X0_setKey_24, zle, if_neg, zM, p_X9_intAt, zbE, zCl, zki, znE, zA]
theorem p_X0_setKey_PK (j : Nat) (p2 rd : Int32) (keys : Nat → Int32) (PK : Nat → Nat → Int32) : f_X0_setKey_1PK j p2 rd keys PK = f_X0_setKey 64 p2 rd keys (PK j) := rfl
