/-! bytes of words -/
theorem b_low {x y : Int32} (h : ∀ i, i < 8 → bt x i = bt y i) : x.toInt8.toInt32 = y.toInt8.toInt32 := by
  have e : x.toInt8 = y.toInt8 := by
    apply Int8.toBitVec_inj.mp
    rw [Int32.toBitVec_toInt8, Int32.toBitVec_toInt8]
    apply BitVec.eq_of_getLsbD_eq
    intro i hi
    rw [BitVec.getLsbD_signExtend, BitVec.getLsbD_signExtend, if_pos (by omega), if_pos (by omega)]
    have := h i hi
    unfold bt at this
    rw [this]
  rw [e]
theorem sB_u (x : Int32) : sB (x &&& 255) = x.toInt8.toInt32 := by
  refine b_low (fun i hi => ?_)
  rw [b_and, b_255, decide_eq_true hi, Bool.and_true]
/-- byte j of a word, the first highest -/
def wB (v : Int32) (j : Nat) : Int32 := (v >>> (nI (24 - 8 * j) &&& 31)) &&& 255
theorem wB_s {j : Nat} (hj : j < 4) (v : Int32) : sB (wB v j) = ((v.toUInt32 >>> ((nI (24 - 8 * j)).toUInt32 &&& Int32.toUInt32 31)).toInt32).toInt8.toInt32 := by
  unfold wB
  rw [sB_u]
  refine b_low (fun i hi => ?_)
  rw [b_sshr _ (by omega) _ (by omega), b_ushr _ (by omega), if_pos (by omega)]
theorem wB_3 (v : Int32) : sB (wB v 3) = v.toInt8.toInt32 := by
  rw [wB_s (by omega)]
  refine b_low (fun i hi => ?_)
  rw [b_ushr _ (by omega)]
  congr 1
  omega
theorem upd4 (f g : Nat → Int32) (a : Nat) : upd (upd (upd (upd f a (g 0)) (a + 1) (g 1)) (a + 2) (g 2)) (a + 3) (g 3) = zrow a 4 g f := by
  funext j
  by_cases h : a ≤ j ∧ j < a + 4
  · rw [zrow_in h.1 h.2]
    rcases (show j = a ∨ j = a + 1 ∨ j = a + 2 ∨ j = a + 3 by omega) with rfl | rfl | rfl | rfl
    · rw [upd_n _ _ (by omega), upd_n _ _ (by omega), upd_n _ _ (by omega), upd_s, Nat.sub_self]
    · rw [upd_n _ _ (by omega), upd_n _ _ (by omega), upd_s, Nat.add_sub_cancel_left]
    · rw [upd_n _ _ (by omega), upd_s, Nat.add_sub_cancel_left]
    · rw [upd_s, Nat.add_sub_cancel_left]
  · rw [zrow_out (by omega), upd_n _ _ (by omega), upd_n _ _ (by omega), upd_n _ _ (by omega), upd_n _ _ (by omega)]
theorem p_X9_putInt {N a : Nat} (v : Int32) (f : Nat → Int32) (h : a + 4 ≤ N) (hN : N < 2 ^ 31) : f_X9_putInt N (nI a) v f = some (zrow a 4 (fun j => sB (wB v j)) f) := by
  unfold f_X9_putInt
  simp (disch := omega) only [znE, zA, zCl, zki, pk_vb]
  rw [← upd4]
  simp only [wB_s (show 0 < 4 by omega) v, wB_s (show 1 < 4 by omega) v, wB_s (show 2 < 4 by omega) v, wB_3 v]
  rfl
theorem p_J7_fillI {N a e : Nat} (v : Int32) (f : Nat → Int32) (h : a ≤ e) (he : e ≤ N) (hN : N ≤ 1500) : f_J7_fill_fda19 N (nI a) (nI e) v f = some (zrow a (e - a) (fun _ => v) f) := by
  have e0 : Int32.ofNat N = nI N := rfl
  unfold f_J7_fill_fda19 f_J7_rangeCheck_23922
  have h0 : (0 : Int32) ≤ nI a := nI_le (a := 0) (by omega) (by omega)
  rw [e0, if_pos (nI_le h (by omega)), if_pos h0, if_pos (nI_le he (by omega)), zbE, zjE]
  have key := zl_row (F := b_J7_fill_fda19_10 N (nI e) v (fun q => some q)) (fun i f => (nI (a + i), f)) (fun q => some q) a (e - a) (fun _ => v) f (by omega) ?_ ?_
  · exact key
  · intro self f
    simp only [b_J7_fill_fda19_10]
    exact if_pos (nI_le (by omega) (by omega))
  · intro self i f hi _
    simp (disch := omega) only [b_J7_fill_fda19_10, zle, if_neg, zCl, zki, znE, zA]
    rfl
/-! SHA-256 in the class: take -/
set_option maxHeartbeats 4000000 in
theorem p_X7_take {N a n k : Nat} {b : Nat → Int32} {fl : Int32} {sc su ca : Nat → Int32} (tot : Int32) (hS : shCS b n fl sc su) (hd : ∀ i, i < k → ca (a + i) &&& 255 = b (n + i)) (hN : a + k ≤ N) (hN2 : N ≤ 1500) :
    ∃ fl' sc' su', f_X7_take N (nI a) (nI k) fl tot sc su ca = some (fl', tot + nI k, sc', su') ∧ shCS b (n + k) fl' sc' su' := by
  unfold f_X7_take
  rw [zjE]
  refine zl_up (F := b_X7_take_3 N (nI a) (nI k) ca _) (fun i (s : Int32 × (Nat → Int32) × (Nat → Int32)) => (nI i, s.1, s.2.1, s.2.2)) (fun i s => shCS b (n + i) s.1 s.2.1 s.2.2) 0 k (fl, sc, su) (fun o => ∃ fl' sc' su', o = some (fl', tot + nI k, sc', su') ∧ shCS b (n + k) fl' sc' su') (by omega) (by omega) hS ?_ ?_
  · intro self s hs
    obtain ⟨fl, sc, su⟩ := s
    simp only [b_X7_take_3]
    rw [if_pos (nI_le (Nat.le_refl _) (by omega)), znE]
    exact ⟨_, _, _, rfl, hs⟩
  · intro self i s _ hi hs
    obtain ⟨fl, sc, su⟩ := s
    refine ⟨shStep (b (n + i)) (fl, sc, su), shCS_step hs, ?_⟩
    have hfl : fl = nI ((n + i) % 64) := hs.1
    have hx : fl >>> ((2 : Int32) &&& 31) = nI ((n + i) % 64 / 4) := by rw [hfl]; exact shr2 (by omega)
    simp only [b_X7_take_3, znE, hx]
    rw [if_neg (nI_ge hi (by omega)), zk_T (nI_in (by omega) (by omega)), nI_add a i, zk_T (nI_in (by omega) (by omega)), zk_T (nI_in (by omega) (by omega)), nI_clamp (by omega), nI_clamp (by omega), hd i hi, nI_1]
    unfold shStep
    simp only [hx]
    rw [nI_clamp (by omega)]
    by_cases hc : fl + 1 = 64
    · simp only [if_pos hc, p_X7_compress, zbE]
    · simp only [if_neg hc]
