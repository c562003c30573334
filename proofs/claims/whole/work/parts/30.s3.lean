/-! words of entropy that are used -/
theorem p_X10_useWords {n c : Nat} (res wd : Nat → Int32) (h : n ≤ c) (hc : c ≤ 64) : f_X10_useWords (nI n) (nI c) res wd = some (nI (c - n), zrow 0 (4 * n) (shDB wd) res, zrow 0 (c - n) (fun i => wd (i + n)) wd) := by
  unfold f_X10_useWords
  rw [zjE]
  have e1 : ∀ K : (Nat → Int32) → Option (Int32 × (Nat → Int32) × (Nat → Int32)), zl (b_X10_useWords_2 (nI n) wd K) zF ((0 : Int32), res) = K (zrow 0 (4 * n) (shDB wd) res) := by
    intro K
    refine zl_cpy (F := b_X10_useWords_2 (nI n) wd K) 0 (4 * n) (shDB wd) res K (by omega) ?_ ?_
    · intro self f
      simp only [b_X10_useWords_2]
      exact if_pos (by rw [zM]; exact nI_le (Nat.le_refl _) (by omega))
    · intro self i f hi
      simp (disch := omega) only [b_X10_useWords_2, zM, zle, if_neg, zDv, zCl, zki, zki2, zkn, znE, zA, zM2, zSn, zS2, Nat.zero_add, zlt2]
      rfl
  rw [e1, znE, pk_sub h, zjE]
  refine zl_row (F := b_X10_useWords_55 (nI n) (nI (c - n)) (fun q => some (nI (c - n), zrow 0 (4 * n) (shDB wd) res, q))) (fun i f => (nI i, f)) (fun q => some (nI (c - n), zrow 0 (4 * n) (shDB wd) res, q)) 0 (c - n) (fun i => wd (i + n)) wd (by omega) ?_ ?_
  · intro self f
    simp only [b_X10_useWords_55]
    exact if_pos (nI_le (Nat.le_refl _) (by omega))
  · intro self i f hi hf
    have e := hf (i + n) (by omega)
    simp (disch := omega) only [b_X10_useWords_55, zle, if_neg, nI_add, zCl, zki, zki2, znE, zA, Nat.zero_add, zlt2, e]
set_option maxHeartbeats 4000000 in
theorem p_X1_give {N n c : Nat} (kp ca : Nat → Int32) (h : n ≤ c) (hc : c ≤ 64) (hN : 4 * n ≤ N) (hN2 : N ≤ 1500) : f_X1_give N (nI n) (nI c) kp ca = some (nI (c - n), zrow 0 (c - n) (fun i => kp (i + n)) kp, zrow 0 (4 * n) (fun t => sB (shDB kp t)) ca) := by
  unfold f_X1_give
  rw [zjE]
  have e1 : ∀ K : (Nat → Int32) → Option (Int32 × (Nat → Int32) × (Nat → Int32)), zl (b_X1_give_2 N (nI n) kp K) zF ((0 : Int32), ca) = K (zrow 0 (4 * n) (fun t => sB (shDB kp t)) ca) := by
    intro K
    refine zl_up (F := b_X1_give_2 N (nI n) kp K) (fun i (s : Nat → Int32) => (nI i, s)) (fun i s => s = zrow 0 (4 * i) (fun t => sB (shDB kp t)) ca) 0 n ca (fun o => o = K (zrow 0 (4 * n) (fun t => sB (shDB kp t)) ca)) (by omega) (by omega) zrow_n0.symm ?_ ?_
    · intro self s hs
      subst hs
      simp only [b_X1_give_2]
      exact if_pos (nI_le (Nat.le_refl _) (by omega))
    · intro self i s _ hi hs
      subst hs
      refine ⟨_, rfl, ?_⟩
      have e := p_X9_putInt (N := N) (a := 4 * i) (kp i) (zrow 0 (4 * i) (fun t => sB (shDB kp t)) ca) (by omega) (by omega)
      have e2 : zrow (4 * i) 4 (fun j => sB (wB (kp i) j)) (zrow 0 (4 * i) (fun t => sB (shDB kp t)) ca) = zrow 0 (4 * (i + 1)) (fun t => sB (shDB kp t)) ca := by
        have := zrow_glue (a := 0) (m := 4 * i) (k := 4) (G := fun t => sB (shDB kp t)) (g := fun j => sB (wB (kp i) j)) (f := ca) (fun j hj => by rw [shDB_w hj])
        rw [Nat.zero_add] at this
        exact this
      rw [e2] at e
      simp (disch := omega) only [b_X1_give_2, zle, if_neg, zM, zCl, zki, zki2, zlt2, zA, e, zbE]
  rw [e1, zjE]
  have e3 := zl_row (F := b_X1_give_28 (nI n) (nI c) (fun q => zn (nI c - nI n) (fun x_9 => some (x_9, q, zrow 0 (4 * n) (fun t => sB (shDB kp t)) ca)))) (fun i f => (nI (n + i), f)) (fun q => zn (nI c - nI n) (fun x_9 => some (x_9, q, zrow 0 (4 * n) (fun t => sB (shDB kp t)) ca))) 0 (c - n) (fun i => kp (i + n)) kp (by omega) ?_ ?_
  · refine e3.trans ?_
    rw [znE, pk_sub h]
  · intro self f
    simp only [b_X1_give_28]
    exact if_pos (nI_le (by omega) (by omega))
  · intro self i f hi hf
    have e := hf (n + i) (by omega)
    have e4 : n + i - n = i := by omega
    simp (disch := omega) only [b_X1_give_28, zle, if_neg, zSn, zCl, zki, zki2, znE, zA, Nat.zero_add, zlt2, e, e4]
    rw [Nat.add_comm i n]
    rfl
