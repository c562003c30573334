/-! the method run: room -/
def rm (k a n h : Nat) : Prop := if k = 1 ∨ k = 2 then h = 0 ∧ n % 16 = 0 else if k = 3 ∨ k = 4 then h = 0 ∧ n % 16 = 0 ∧ 16 ≤ n else if k = 5 then h = 0 ∧ 16 ≤ n else if k = 6 then 12 + h ≤ n ∧ a + n + 16 ≤ 512 else if k = 7 then 28 + h ≤ n else if k = 8 then h = 0 ∧ a + 16 ≤ 512 else if k = 11 then n ≤ 256 else h = 0 ∧ a + 32 ≤ 512
theorem iteN {α : Type} {p : Prop} {d : Decidable p} (x y : α) : (if (if p then (1 : Int32) else 0) = 0 then x else y) = if p then y else x := by
  by_cases h : p
  · rw [if_pos h, if_pos h]; rfl
  · rw [if_neg h, if_neg h]; rfl
theorem p_inBufN {a n : Nat} (ha : a ≤ 512) (hn : n ≤ 1000) : f_X9_inBuffer (nI a) (nI n) = some (if a + n ≤ 512 then 1 else 0) := by
  unfold f_X9_inBuffer
  rw [if_neg (nI_pos (by omega)), if_neg (show ¬ (512 : Int32) < nI a from fun q => absurd ((nI_ltI (a := 512) (b := a) (by omega) (by omega)).mp q) (by omega)), if_neg (nI_pos (by omega)), zS2 (by omega)]
  by_cases h : a + n ≤ 512
  · rw [if_pos h, if_neg (fun q => absurd ((nI_ltI (by omega) (by omega)).mp q) (by omega))]
  · rw [if_neg h, if_pos (nI_lt (by omega) (by omega))]
theorem c_roomN {k a n h : Nat} (hk1 : 1 ≤ k) (hk : k ≤ 11) (han : a + n ≤ 512) (hh : h ≤ 64) : ∃ r, f_X9_placesFit (nI k) (nI a) (nI n) (nI h) = some r ∧ ((r = 1 ∧ rm k a n h) ∨ (r = 0 ∧ ¬ rm k a n h)) := by
  have em : nI n - nI n / (16 : Int32) * (16 : Int32) = nI (n % 16) := nI_mod (n := 16) (by omega) (by omega) (by omega)
  have e0 : ∀ m : Nat, m < 2 ^ 31 → (nI m = 0) = (m = 0) := fun m hm => propext (nI_eq (b := 0) hm (by omega))
  have l0 : (nI h < 0) = False := eq_false (nI_pos (by omega))
  have l1 : (nI h ≤ 64) = True := eq_true (nI_le (b := 64) hh (by omega))
  unfold f_X9_placesFit
  rw [p_inBufN (by omega) (by omega), zbE, if_pos han, if_neg (by decide)]
  simp only [l0, l1, if_false, if_true]
  have hc : k = 1 ∨ k = 2 ∨ k = 3 ∨ k = 4 ∨ k = 5 ∨ k = 6 ∨ k = 7 ∨ k = 8 ∨ k = 9 ∨ k = 10 ∨ k = 11 := by omega
  have i16 : f_X9_inBuffer (nI a) (16 : Int32) = some (if a + 16 ≤ 512 then 1 else 0) := p_inBufN (n := 16) (by omega) (by omega)
  have i32 : f_X9_inBuffer (nI a) (32 : Int32) = some (if a + 32 ≤ 512 then 1 else 0) := p_inBufN (n := 32) (by omega) (by omega)
  have in16 : f_X9_inBuffer (nI a) (nI (n + 16)) = some (if a + (n + 16) ≤ 512 then 1 else 0) := p_inBufN (by omega) (by omega)
  rcases hc with rfl | rfl | rfl | rfl | rfl | rfl | rfl | rfl | rfl | rfl | rfl
  all_goals
    unfold rm
    simp (decide := true) only [if_true, if_false, zkT1, em, zA, zA2, i16, i32, in16, zbE, iteN]
    simp (disch := omega) only [e0, zlt1, zlt2, zlt]
    (repeat' split) <;> first | exact ⟨1, rfl, Or.inl ⟨rfl, by omega⟩⟩ | exact ⟨0, rfl, Or.inr ⟨rfl, by omega⟩⟩ | (exfalso; omega)
theorem m_roomN {k a n h : Nat} (hk1 : 1 ≤ k) (hk : k ≤ 11) (han : a + n ≤ 512) (hh : h ≤ 64) : ∃ r, f_X10_isRoom (nI k) (nI a) (nI n) (nI h) = some r ∧ ((r = 1 ∧ rm k a n h) ∨ (r = 0 ∧ ¬ rm k a n h)) := by
  have em : nI n - nI n / (16 : Int32) * (16 : Int32) = nI (n % 16) := nI_mod (n := 16) (by omega) (by omega) (by omega)
  have e0 : ∀ m : Nat, m < 2 ^ 31 → (nI m = 0) = (m = 0) := fun m hm => propext (nI_eq (b := 0) hm (by omega))
  have l0 : (nI n ≤ 0) = (n = 0) := propext ⟨fun q => by have := (nI_leI (a := n) (b := 0) (by omega) (by omega)).mp q; omega, fun q => by rw [q]; decide⟩
  have hin : f_X10_in (nI h) 0 64 = some 1 := by rw [p_in, if_pos ⟨nI_le (a := 0) (by omega) (by omega), nI_le (b := 64) hh (by omega)⟩]
  unfold f_X10_isRoom
  rw [if_neg (nI_pos (by omega)), if_neg (nI_pos (by omega)), if_neg (show ¬ (512 : Int32) < nI a from fun q => absurd ((nI_ltI (a := 512) (b := a) (by omega) (by omega)).mp q) (by omega)), zS2 (by omega), if_pos (nI_le (by omega) (by omega))]
  have hc : k = 1 ∨ k = 2 ∨ k = 3 ∨ k = 4 ∨ k = 5 ∨ k = 6 ∨ k = 7 ∨ k = 8 ∨ k = 9 ∨ k = 10 ∨ k = 11 := by omega
  rcases hc with rfl | rfl | rfl | rfl | rfl | rfl | rfl | rfl | rfl | rfl | rfl
  all_goals
    unfold rm
    simp (decide := true) only [if_true, if_false, zjE, zkT1, hin, zbE, em, l0, zA, zA2, nI_add]
    simp (disch := omega) only [e0, zlt1, zlt2, zlt, zle2]
    (repeat' split) <;> first | exact ⟨1, rfl, Or.inl ⟨rfl, by omega⟩⟩ | exact ⟨0, rfl, Or.inr ⟨rfl, by omega⟩⟩ | (exfalso; omega)
theorem c_room0 {p1 p3 p4 p5 : Int32} (h : ¬ (((0 ≤ p3 ∧ p3 ≤ 512) ∧ 0 ≤ p4 ∧ p4 ≤ 512 - p3) ∧ (0 ≤ p5 ∧ p5 ≤ 64))) : f_X9_placesFit p1 p3 p4 p5 = some 0 := by
  unfold f_X9_placesFit
  rw [p_inBufX, zbE]
  by_cases h1 : (0 ≤ p3 ∧ p3 ≤ 512) ∧ 0 ≤ p4 ∧ p4 ≤ 512 - p3
  · rw [if_pos h1, if_neg (by decide)]
    by_cases h2 : p5 < 0
    · rw [if_pos h2]
    · rw [if_neg h2, if_neg (fun q => h ⟨h1, Int32.not_lt.mp h2, q⟩)]
  · rw [if_neg h1, if_pos rfl]
theorem c_room1 {p1 p3 p4 p5 : Int32} (h : ¬ (1 ≤ p1 ∧ p1 ≤ 11)) : f_X9_placesFit p1 p3 p4 p5 = some 0 := by
  have hn : ∀ k : Int32, (1 ≤ k ∧ k ≤ 11) → ¬ p1 = k := fun k hk e => h (e ▸ hk)
  have n1 := hn 1 (by decide)
  have n2 := hn 2 (by decide)
  have n3 := hn 3 (by decide)
  have n4 := hn 4 (by decide)
  have n5 := hn 5 (by decide)
  have n6 := hn 6 (by decide)
  have n7 := hn 7 (by decide)
  have n8 := hn 8 (by decide)
  have n9 := hn 9 (by decide)
  have n10 := hn 10 (by decide)
  have n11 := hn 11 (by decide)
  unfold f_X9_placesFit
  rw [p_inBufX, zbE]
  simp only [n1, n2, n3, n4, n5, n6, n7, n8, n9, n10, n11, or_self, if_false]
  (repeat' split) <;> rfl
theorem m_room0 {p1 p3 p4 p5 : Int32} (h : ¬ (((0 ≤ p3 ∧ p3 ≤ 512) ∧ 0 ≤ p4 ∧ p4 ≤ 512 - p3) ∧ (0 ≤ p5 ∧ p5 ≤ 64))) : f_X10_isRoom p1 p3 p4 p5 = some 0 := by
  unfold f_X10_isRoom
  by_cases a1 : p3 < 0
  · rw [if_pos a1]
  · rw [if_neg a1]
    by_cases a2 : p4 < 0
    · rw [if_pos a2]
    · rw [if_neg a2]
      by_cases a3 : 512 < p3
      · rw [if_pos a3]
      · rw [if_neg a3]
        by_cases a4 : p4 ≤ 512 - p3
        · rw [if_pos a4, p_in, zbE, if_neg (fun q => h ⟨⟨⟨Int32.not_lt.mp a1, Int32.not_lt.mp a3⟩, Int32.not_lt.mp a2, a4⟩, q⟩)]
          simp only [zjE, if_true]
          (repeat' split) <;> rfl
        · rw [if_neg a4]
theorem p_room (p1 p3 p4 p5 : Int32) : ∃ r, f_X9_placesFit p1 p3 p4 p5 = some r ∧ ((1 ≤ p1 ∧ p1 ≤ 11) → f_X10_isRoom p1 p3 p4 p5 = some r) ∧ (r = 0 ∨ (r = 1 ∧ ∃ k a n h, p1 = nI k ∧ 1 ≤ k ∧ k ≤ 11 ∧ p3 = nI a ∧ p4 = nI n ∧ p5 = nI h ∧ a + n ≤ 512 ∧ h ≤ 64 ∧ rm k a n h)) := by
  by_cases h1 : 1 ≤ p1 ∧ p1 ≤ 11
  · by_cases h : ((0 ≤ p3 ∧ p3 ≤ 512) ∧ 0 ≤ p4 ∧ p4 ≤ 512 - p3) ∧ (0 ≤ p5 ∧ p5 ≤ 64)
    · obtain ⟨⟨⟨b1, b2⟩, b3, b4⟩, b5, b6⟩ := h
      obtain ⟨k, hk, rfl⟩ := in_nat (b := 11) (by omega) (Int32.le_trans (by decide) h1.1) h1.2
      have hk1 : 1 ≤ k := (nI_leI (a := 1) (b := k) (by omega) (by omega)).mp h1.1
      obtain ⟨a, ha, rfl⟩ := in_nat (b := 512) (by omega) b1 b2
      rw [zS2 (by omega)] at b4
      obtain ⟨n, hn, rfl⟩ := in_nat (by omega) b3 b4
      obtain ⟨m, hm, rfl⟩ := in_nat (b := 64) (by omega) b5 b6
      obtain ⟨r, e1, q1⟩ := c_roomN (h := m) hk1 hk (show a + n ≤ 512 by omega) hm
      obtain ⟨r', e2, q2⟩ := m_roomN (h := m) hk1 hk (show a + n ≤ 512 by omega) hm
      rcases q1 with ⟨rfl, q⟩ | ⟨rfl, q⟩
      · rcases q2 with ⟨rfl, -⟩ | ⟨-, q'⟩
        · exact ⟨1, e1, fun _ => e2, Or.inr ⟨rfl, k, a, n, m, rfl, hk1, hk, rfl, rfl, rfl, by omega, hm, q⟩⟩
        · exact absurd q q'
      · rcases q2 with ⟨-, q'⟩ | ⟨rfl, -⟩
        · exact absurd q' q
        · exact ⟨0, e1, fun _ => e2, Or.inl rfl⟩
    · exact ⟨0, c_room0 h, fun _ => m_room0 h, Or.inl rfl⟩
  · exact ⟨0, c_room1 h1, fun q => absurd q h1, Or.inl rfl⟩
def rbit (p : Int32) : Int32 := if p = 2 ∨ p = 4 ∨ p = 7 then 2 else if p = 8 ∨ p = 10 then 4 else 1
theorem p_bitFor (p : Int32) : f_X9_bitFor p = some (rbit p) := by
  unfold f_X9_bitFor rbit
  (repeat' split) <;> rfl
