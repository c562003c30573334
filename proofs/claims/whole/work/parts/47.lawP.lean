/-! the law: pure rows -/
theorem Rst_to {B B' st st' : Nat} {sb fl tot : Int32} {sc su sH sBl : Rw} {taken : Nat → Int64} (h : Rst B st sb fl tot sc su taken sH sBl) (hB : B ≤ B') (hs : st' = st ∨ (st ≠ 3 ∧ st ≠ 4)) : Rst B' st' sb fl tot sc su taken sH sBl := by
  rcases hs with rfl | ⟨h3, h4⟩
  · exact Rst_mono h hB
  · obtain ⟨rfl, t1, t2⟩ := Rst_off h h3 h4
    exact Rst_0 _ _ _ _ _ _ _ _ t1 t2
theorem Rst_sb {B st : Nat} {sb fl tot : Int32} {sc su sH sBl : Rw} {taken : Nat → Int64} (h : Rst B st sb fl tot sc su taken sH sBl) : st = 3 ∨ st = 4 ∨ sb = 0 := by
  rcases h.1 with h | ⟨_, h | h⟩
  · exact Or.inr (Or.inr h)
  · exact Or.inl h
  · exact Or.inr (Or.inl h)
theorem Rwk_00 {kept word : Rw} : Rwk 0 kept 0 word := ⟨0, rfl, rfl, by decide, fun i h => absurd h (Nat.not_lt_zero i)⟩
theorem Rwh_new {last first before mfirst same : Int32} : Rwh 1 last 0 first 0 0 0 before 0 mfirst 0 same := Or.inr ⟨rfl, rfl, 0, 0, 0, rfl, rfl, by decide, fun h => absurd h (by decide), rfl, by decide, rfl, fun h => absurd rfl h⟩
theorem tt_ne {x a : Int32} (h : ¬ a ≤ x) : x < a := Int32.not_le.mp h
theorem tt_fault {p : Int32} (h : ¬ ((0 : Int32) ≤ p ∧ p ≤ 9)) : t_X9_fault p = some () := by
  unfold t_X9_fault
  have c1 : (0 : Int32).toInt = 0 := by decide
  have c2 : (10 : Int32).toInt = 10 := by decide
  have c3 : (9 : Int32).toInt = 9 := by decide
  simp only [i32_le, i32_lt, c1, c2, c3] at h ⊢
  (repeat' split) <;> first | rfl | omega
theorem tt_counter {p : Int32} (h : ¬ ((0 : Int32) ≤ p ∧ p ≤ 2)) : t_X9_counter p = some () := by
  unfold t_X9_counter
  have c1 : (0 : Int32).toInt = 0 := by decide
  have c2 : (3 : Int32).toInt = 3 := by decide
  have c3 : (2 : Int32).toInt = 2 := by decide
  simp only [i32_le, i32_lt, c1, c2, c3] at h ⊢
  (repeat' split) <;> first | rfl | omega
theorem tt_entropy : t_X9_entropy (nI 0) = some () := by
  unfold t_X9_entropy
  exact if_pos rfl
theorem tt_pokeS : t_X9_pokeS (nI 0) = some () := by
  unfold t_X9_pokeS
  exact if_pos rfl
theorem tt_same {p : Int32} (h : ¬ ((0 : Int32) ≤ p ∧ p ≤ 15)) : t_X9_same p = some () := by
  unfold t_X9_same
  rw [p_isSlot, if_neg h]
  rfl
theorem tt_slotInfo {p1 p2 : Int32} (h : ¬ (((0 : Int32) ≤ p1 ∧ p1 ≤ 15) ∧ (0 : Int32) ≤ p2 ∧ p2 ≤ 4)) : t_X9_slotInfo p1 p2 = some () := by
  unfold t_X9_slotInfo
  rw [p_isSlot]
  by_cases h1 : (0 : Int32) ≤ p1 ∧ p1 ≤ 15
  · rw [if_pos h1]
    show (if (1 : Int32) = 0 then some () else if p2 < 0 then some () else if p2 ≤ (4 : Int32) then none else some ()) = some ()
    rw [if_neg (by decide)]
    have h2 : ¬ ((0 : Int32) ≤ p2 ∧ p2 ≤ 4) := fun q => h ⟨h1, q⟩
    by_cases h3 : p2 < 0
    · rw [if_pos h3]
    · rw [if_neg h3, if_neg (fun q => h2 ⟨Int32.not_lt.mp h3, q⟩)]
  · rw [if_neg h1]
    rfl
theorem tt_logout {st : Nat} (hst : st ≤ 5) (h : ¬ (st = 3 ∨ st = 4)) : t_X9_logout (nI st) = some () := by
  unfold t_X9_logout
  rw [p_logged, if_neg]
  · rfl
  · intro q
    apply h
    rcases q with q | q
    · left
      have := congrArg Int32.toInt q
      rw [nI_toInt (by omega), show (3 : Int32).toInt = 3 from by decide] at this
      omega
    · right
      have := congrArg Int32.toInt q
      rw [nI_toInt (by omega), show (4 : Int32).toInt = 4 from by decide] at this
      omega
theorem nI_nz {st : Nat} (h : ¬ st = 0) (h5 : st ≤ 5) : ¬ nI st = 0 := nI_ne0 (Nat.pos_of_ne_zero h) (by omega)
theorem p_inBuf0 {p1 : Int32} {n : Nat} (hn : n ≤ 8) (h : ¬ ((0 : Int32) ≤ p1 ∧ p1 ≤ nI (512 - n))) : f_X9_inBuffer p1 (nI n) = some 0 := by
  unfold f_X9_inBuffer
  by_cases h0 : p1 < 0
  · rw [if_pos h0]
  · rw [if_neg h0]
    by_cases h1 : (512 : Int32) < p1
    · rw [if_pos h1]
    · obtain ⟨a, ha, rfl⟩ := in_nat (b := 512) (by decide) (Int32.not_lt.mp h0) (Int32.not_lt.mp h1)
      have h2 : ¬ a ≤ 512 - n := fun q => h ⟨Int32.not_lt.mp h0, nI_le q (by omega)⟩
      rw [if_neg h1, if_neg (nI_pos (by omega)), zS2 (by omega), if_pos (nI_lt (by omega) (by omega))]
theorem tt_peek {p : Int32} (h : ¬ ((0 : Int32) ≤ p ∧ p ≤ 504)) : t_X9_peek p = some () := by
  unfold t_X9_peek
  have e : f_X9_inBuffer p (8 : Int32) = some 0 := p_inBuf0 (n := 8) (Nat.le_refl 8) h
  rw [e]
  rfl
theorem tt_pokeA {p1 p3 : Int32} {st : Nat} (h0 : ¬ st = 0) (h5 : st ≤ 5) (h : ¬ (((1 : Int32) ≤ p3 ∧ p3 ≤ 8) ∧ (0 : Int32) ≤ p1 ∧ p1 ≤ 512 - p3)) : t_X9_pokeA p1 p3 (nI st) = some () := by
  unfold t_X9_pokeA
  rw [if_neg (nI_nz h0 h5)]
  by_cases h1 : p3 < 1
  · rw [if_pos h1]
  · rw [if_neg h1]
    by_cases h2 : (8 : Int32) < p3
    · rw [if_pos h2]
    · rw [if_neg h2]
      have h3 : (1 : Int32) ≤ p3 ∧ p3 ≤ 8 := ⟨Int32.not_lt.mp h1, Int32.not_lt.mp h2⟩
      obtain ⟨n, hn, rfl⟩ := in_nat (b := 8) (by decide) (Int32.le_trans (by decide) h3.1) h3.2
      rw [zS2 (by omega)] at h
      rw [p_inBuf0 hn (fun q => h ⟨h3, q⟩)]
      rfl
theorem poke_nat {p1 p3 : Int32} (h : ((1 : Int32) ≤ p3 ∧ p3 ≤ 8) ∧ (0 : Int32) ≤ p1 ∧ p1 ≤ 512 - p3) : ∃ n i : Nat, 1 ≤ n ∧ n ≤ 8 ∧ i + n ≤ 512 ∧ p3 = nI n ∧ p1 = nI i := by
  obtain ⟨⟨h1, h2⟩, h3, h4⟩ := h
  obtain ⟨n, hn, rfl⟩ := in_nat (b := 8) (by decide) (Int32.le_trans (by decide) h1) h2
  rw [zS2 (by omega)] at h4
  obtain ⟨i, hi, rfl⟩ := in_nat (b := 512 - n) (by omega) h3 h4
  exact ⟨n, i, (nI_leI (a := 1) (by decide) (by omega)).mp h1, hn, by omega, rfl, rfl⟩
