set_option maxHeartbeats 4000000 in
theorem p_X10_copyh (h : Nat → Int32) (K : (Nat → Int32) → Option ((Nat → Int32) × (Nat → Int32) × (Nat → Int32))) (x : Nat → Int32) : zl (b_X10_compress_194 h K) zF ((0 : Int32), x) = K (zit (fun i f => upd f i (h i)) 0 8 x) := by
  refine (zl_it (F := b_X10_compress_194 h K) (fun i f => (nI i, f)) K (fun i f => upd f i (h i)) (fun _ _ => True) 8 ?_ ?_ 8 0 x rfl trivial zF (by have := zF_big; omega)).1
  · intro self s _
    simp only [b_X10_compress_194, zn]
    exact if_pos (by decide)
  · intro self i s hi _
    refine ⟨?_, trivial⟩
    have h8 : ¬ (8 : Int32) ≤ nI i := nI_ge hi (by decide)
    simp only [b_X10_compress_194, zn]
    rw [if_neg h8, zk_nI (by omega) (by omega), zk_nI (by omega) (by omega), nI_clamp (n := i) (by omega), nI_1]
set_option maxHeartbeats 4000000 in
theorem p_X10_addh (x : Nat → Int32) (K : (Nat → Int32) → Option ((Nat → Int32) × (Nat → Int32) × (Nat → Int32))) (h : Nat → Int32) : zl (b_X10_compress_454 x K) zF ((0 : Int32), h) = K (zit (fun i f => upd f i (f i + x i)) 0 8 h) := by
  refine (zl_it (F := b_X10_compress_454 x K) (fun i f => (nI i, f)) K (fun i f => upd f i (f i + x i)) (fun _ _ => True) 8 ?_ ?_ 8 0 h rfl trivial zF (by have := zF_big; omega)).1
  · intro self s _
    simp only [b_X10_compress_454, zn]
    exact if_pos (by decide)
  · intro self i s hi _
    refine ⟨?_, trivial⟩
    have h8 : ¬ (8 : Int32) ≤ nI i := nI_ge hi (by decide)
    simp only [b_X10_compress_454, zn]
    rw [if_neg h8, zk_nI (by omega) (by omega), zk_nI (by omega) (by omega), zk_nI (by omega) (by omega), nI_clamp (n := i) (by omega), nI_1]
/-- a row that is laid place by place -/
theorem zit_row (v : Nat → Int32) : ∀ (k i : Nat) (f : Nat → Int32) (j : Nat), zit (fun i f => upd f i (v i)) i k f j = if i ≤ j ∧ j < i + k then v j else f j := by
  intro k
  induction k with
  | zero => intro i f j; rw [if_neg (by omega)]; rfl
  | succ k ih =>
    intro i f j
    show zit _ (i + 1) k (upd f i (v i)) j = _
    rw [ih]
    by_cases h1 : j = i
    · subst h1
      rw [if_neg (by omega), if_pos (by omega), upd_s]
    · by_cases h2 : i + 1 ≤ j ∧ j < i + 1 + k
      · rw [if_pos h2, if_pos (by omega)]
      · rw [if_neg h2, if_neg (by omega), upd_n f _ h1]
theorem zit_addrow (x : Nat → Int32) : ∀ (k i : Nat) (f : Nat → Int32) (j : Nat), zit (fun i f => upd f i (f i + x i)) i k f j = if i ≤ j ∧ j < i + k then f j + x j else f j := by
  intro k
  induction k with
  | zero => intro i f j; rw [if_neg (by omega)]; rfl
  | succ k ih =>
    intro i f j
    show zit _ (i + 1) k (upd f i (f i + x i)) j = _
    rw [ih]
    by_cases h1 : j = i
    · subst h1
      rw [if_neg (by omega), if_pos (by omega), upd_s]
    · by_cases h2 : i + 1 ≤ j ∧ j < i + 1 + k
      · rw [if_pos h2, if_pos (by omega), upd_n f _ h1]
      · rw [if_neg h2, if_neg (by omega), upd_n f _ h1]
/-- the block's words, spread: only the first sixteen count -/
theorem shE_congr {f g : Nat → Int32} (h : ∀ j, j < 16 → f j = g j) : ∀ j, j < 64 → shE f j = shE g j := by
  refine zit_rel (g := fun i f => upd f i (shX f i)) (h := fun i f => upd f i (shX f i)) (fun i (f g : Nat → Int32) => 16 ≤ i ∧ ∀ j, j < i → f j = g j) 64 ?_ 48 16 f g rfl ⟨Nat.le_refl _, h⟩ |>.2
  intro i f g hi ⟨h16, hfg⟩
  refine ⟨by omega, fun j hj => ?_⟩
  by_cases h1 : j = i
  · subst h1
    rw [upd_s, upd_s]
    unfold shX
    rw [hfg (j - 16) (by omega), hfg (j - 15) (by omega), hfg (j - 7) (by omega), hfg (j - 2) (by omega)]
  · rw [upd_n _ _ h1, upd_n _ _ h1]
    exact hfg j (by omega)
theorem shR_congr {w v : Nat → Int32} (h : ∀ j, j < 64 → w j = v j) (z : R8) : zit (shR w) 0 64 z = zit (shR v) 0 64 z := by
  refine zit_rel (g := shR w) (h := shR v) (fun _ (a b : R8) => a = b) 64 ?_ 64 0 z z rfl rfl
  intro i s t hi e
  subst e
  obtain ⟨a, b, c, d, e, f, g, k⟩ := s
  simp only [shR, h i hi]
/-- the chaining value behind a block of sixteen words -/
def shC (m h : Nat → Int32) (j : Nat) : Int32 := shA h (shZ (shE m) h) j
theorem shA_at (h : Nat → Int32) (z : R8) : shA h z 0 = h 0 + z.1 ∧ shA h z 1 = h 1 + z.2.1 ∧ shA h z 2 = h 2 + z.2.2.1 ∧ shA h z 3 = h 3 + z.2.2.2.1 ∧ shA h z 4 = h 4 + z.2.2.2.2.1 ∧ shA h z 5 = h 5 + z.2.2.2.2.2.1 ∧ shA h z 6 = h 6 + z.2.2.2.2.2.2.1 ∧ shA h z 7 = h 7 + z.2.2.2.2.2.2.2 := by
  obtain ⟨a, b, c, d, e, f, g, k⟩ := z
  exact ⟨rfl, rfl, rfl, rfl, rfl, rfl, rfl, rfl⟩
theorem z8 {P : Nat → Prop} (h0 : P 0) (h1 : P 1) (h2 : P 2) (h3 : P 3) (h4 : P 4) (h5 : P 5) (h6 : P 6) (h7 : P 7) : ∀ j, j < 8 → P j := by
  intro j hj
  rcases (show j = 0 ∨ j = 1 ∨ j = 2 ∨ j = 3 ∨ j = 4 ∨ j = 5 ∨ j = 6 ∨ j = 7 by omega) with rfl | rfl | rfl | rfl | rfl | rfl | rfl | rfl <;> assumption
theorem shC_congr {m n h k : Nat → Int32} (hm : ∀ j, j < 16 → m j = n j) (hh : ∀ j, j < 8 → h j = k j) : ∀ j, j < 8 → shC m h j = shC n k j := by
  have e : shZ (shE m) h = shZ (shE n) k := by
    unfold shZ
    rw [shR_congr (shE_congr hm), hh 0 (by omega), hh 1 (by omega), hh 2 (by omega), hh 3 (by omega), hh 4 (by omega), hh 5 (by omega), hh 6 (by omega), hh 7 (by omega)]
  obtain ⟨a0, a1, a2, a3, a4, a5, a6, a7⟩ := shA_at h (shZ (shE n) k)
  obtain ⟨b0, b1, b2, b3, b4, b5, b6, b7⟩ := shA_at k (shZ (shE n) k)
  unfold shC
  rw [e]
  refine z8 ?_ ?_ ?_ ?_ ?_ ?_ ?_ ?_
  · rw [a0, b0, hh 0 (by omega)]
  · rw [a1, b1, hh 1 (by omega)]
  · rw [a2, b2, hh 2 (by omega)]
  · rw [a3, b3, hh 3 (by omega)]
  · rw [a4, b4, hh 4 (by omega)]
  · rw [a5, b5, hh 5 (by omega)]
  · rw [a6, b6, hh 6 (by omega)]
  · rw [a7, b7, hh 7 (by omega)]
/-- the model's rounds over a row are the rounds over eight numbers -/
def sh8 (z : R8) (x : Nat → Int32) : Prop := x 0 = z.1 ∧ x 1 = z.2.1 ∧ x 2 = z.2.2.1 ∧ x 3 = z.2.2.2.1 ∧ x 4 = z.2.2.2.2.1 ∧ x 5 = z.2.2.2.2.2.1 ∧ x 6 = z.2.2.2.2.2.2.1 ∧ x 7 = z.2.2.2.2.2.2.2
theorem shM_sim (w : Nat → Int32) (z : R8) (x : Nat → Int32) (h : sh8 z x) : sh8 (zit (shR w) 0 64 z) (zit (shM w) 0 64 x) := by
  refine zit_rel (g := shR w) (h := shM w) (fun _ z x => sh8 z x) 64 ?_ 64 0 z x rfl h
  intro i z x hi hz
  obtain ⟨a, b, c, d, e, f, g, k⟩ := z
  obtain ⟨h0, h1, h2, h3, h4, h5, h6, h7⟩ := hz
  dsimp only at h0 h1 h2 h3 h4 h5 h6 h7
  obtain ⟨s0, s1, s2, s3, s4, s5, s6, s7⟩ := shSh_at x
  subst h0 h1 h2 h3 h4 h5 h6 h7
  refine ⟨?_, ?_, ?_, ?_, ?_, ?_, ?_, ?_⟩
  · exact upd_s _ _ _
  · exact (upd_n _ _ (by decide)).trans ((upd_n _ _ (by decide)).trans s1)
  · exact (upd_n _ _ (by decide)).trans ((upd_n _ _ (by decide)).trans s2)
  · exact (upd_n _ _ (by decide)).trans ((upd_n _ _ (by decide)).trans s3)
  · refine (upd_n _ _ (by decide)).trans ((upd_s _ _ _).trans ?_)
    rw [s4]
    rfl
  · exact (upd_n _ _ (by decide)).trans ((upd_n _ _ (by decide)).trans s5)
  · exact (upd_n _ _ (by decide)).trans ((upd_n _ _ (by decide)).trans s6)
  · exact (upd_n _ _ (by decide)).trans ((upd_n _ _ (by decide)).trans s7)
