/-! SHA-256: the block function of the class and of the model, whole -/
theorem zn_A1 {β : Type} (f : Nat → Int32) (k : Nat) (x : Int32) (K : (Nat → Int32) → Option β) : zn (upd f k (f k + x)) K = K (shA1 f k x) := rfl
set_option maxHeartbeats 4000000 in
theorem p_X7_compress (fl : Int32) (sc h : Nat → Int32) : f_X7_compress fl sc h = some (0, shE sc, shA h (shZ (shE sc) h)) := by
  unfold f_X7_compress
  rw [zjE, p_X7_expand]
  simp (disch := omega) only [zClk, zkk]
  simp only [zn_A1]
  simp only [znE, zjE]
  refine (p_X7_rounds (shE sc) _ (h 0, h 1, h 2, h 3, h 4, h 5, h 6, h 7)).trans ?_
  unfold shZ
  generalize zit (shR (shE sc)) 0 64 (h 0, h 1, h 2, h 3, h 4, h 5, h 6, h 7) = z
  obtain ⟨a, b, c, d, e, f, g, k⟩ := z
  rfl
set_option maxHeartbeats 4000000 in
theorem p_X10_compress (RO h m w x : Nat → Int32) (hR : ∀ j, j < 64 → RO j = tb_CONSTANTS.getD j 0) : ∃ h' w' x', f_X10_compress RO h m w x = some (h', w', x') ∧ ∀ j, j < 8 → h' j = shC (shW4 m) h j := by
  unfold f_X10_compress
  simp only [zjE, p_X10_words, p_X10_expand, p_X10_copyh, fun w => p_X10_rounds RO w hR, p_X10_addh]
  refine ⟨_, _, _, rfl, ?_⟩
  obtain ⟨w1, hw1⟩ : ∃ q, q = zit (fun i f => upd f i (shW4 m i)) 0 16 w := ⟨_, rfl⟩
  have hw : ∀ j, j < 16 → w1 j = shW4 m j := fun j hj => by rw [hw1, zit_row, if_pos (by omega)]
  have he : (fun i (f : Nat → Int32) => upd f i (shX2 f i)) = (fun i f => upd f i (shX f i)) := by
    funext i f
    rw [shX2_eq]
  rw [← hw1, he, show zit (fun i (f : Nat → Int32) => upd f i (shX f i)) 16 48 w1 = shE w1 from rfl]
  have hE : ∀ j, j < 64 → shE w1 j = shE (shW4 m) j := shE_congr hw
  obtain ⟨x1, hx1⟩ : ∃ q, q = zit (fun i f => upd f i (h i)) 0 8 x := ⟨_, rfl⟩
  have hx : ∀ j, j < 8 → x1 j = h j := fun j hj => by rw [hx1, zit_row, if_pos (by omega)]
  rw [← hx1]
  have hs := shM_sim (shE w1) (h 0, h 1, h 2, h 3, h 4, h 5, h 6, h 7) x1 ⟨hx 0 (by omega), hx 1 (by omega), hx 2 (by omega), hx 3 (by omega), hx 4 (by omega), hx 5 (by omega), hx 6 (by omega), hx 7 (by omega)⟩
  rw [shR_congr hE, show zit (shR (shE (shW4 m))) 0 64 (h 0, h 1, h 2, h 3, h 4, h 5, h 6, h 7) = shZ (shE (shW4 m)) h from rfl] at hs
  obtain ⟨s0, s1, s2, s3, s4, s5, s6, s7⟩ := hs
  obtain ⟨a0, a1, a2, a3, a4, a5, a6, a7⟩ := shA_at h (shZ (shE (shW4 m)) h)
  have ex : ∀ j, j < 8 → zit (fun i f => upd f i (f i + zit (shM (shE w1)) 0 64 x1 i)) 0 8 h j = h j + zit (shM (shE w1)) 0 64 x1 j := fun j hj => by rw [zit_addrow, if_pos (by omega)]
  refine z8 ?_ ?_ ?_ ?_ ?_ ?_ ?_ ?_
  · rw [ex 0 (by omega), s0]; exact a0.symm
  · rw [ex 1 (by omega), s1]; exact a1.symm
  · rw [ex 2 (by omega), s2]; exact a2.symm
  · rw [ex 3 (by omega), s3]; exact a3.symm
  · rw [ex 4 (by omega), s4]; exact a4.symm
  · rw [ex 5 (by omega), s5]; exact a5.symm
  · rw [ex 6 (by omega), s6]; exact a6.symm
  · rw [ex 7 (by omega), s7]; exact a7.symm
