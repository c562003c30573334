/-! the model: rows of bytes that are said; HMAC -/
theorem zl_say {ρ : Type} {F : ((Int32 × (Nat → Int32) × (Nat → Int32) × Int64 × (Nat → Int32) × (Nat → Int32)) → Option ρ) → (Int32 × (Nat → Int32) × (Nat → Int32) × Int64 × (Nat → Int32) × (Nat → Int32)) → Option ρ}
    {RO : Nat → Int32} (hR : ∀ j, j < 64 → RO j = tb_CONSTANTS.getD j 0) (V : Nat → Int32) {b : Nat → Int32} {n : Nat} (k : Nat) {tot : Int64} {h m : Nat → Int32} (w x : Nat → Int32) (P : Option ρ → Prop)
    (hS : shMS b n tot h m) (hV : ∀ i, i < k → V i &&& 255 = b (n + i)) (hk : k ≤ 1500) (hn : n < 2 ^ 32)
    (hx : ∀ self h m t w x, shMS b (n + k) t h m → P (F self (nI k, h, m, t, w, x)))
    (hs : ∀ self i h m t w x t' h' m' w' x', i < k → f_X10_say (V i) t RO h m w x = some (t', h', m', w', x') → F self (nI i, h, m, t, w, x) = self (nI (i + 1), h', m', t', w', x')) :
    P (zl F zF ((0 : Int32), h, m, tot, w, x)) := by
  refine zl_up (F := F) (fun i (s : (Nat → Int32) × (Nat → Int32) × Int64 × (Nat → Int32) × (Nat → Int32)) => (nI i, s.1, s.2.1, s.2.2.1, s.2.2.2.1, s.2.2.2.2)) (fun i s => shMS b (n + i) s.2.2.1 s.1 s.2.1) 0 k (h, m, tot, w, x) P (by omega) (by omega) hS ?_ ?_
  · intro self s h1
    exact hx self _ _ _ _ _ h1
  · intro self i s _ hi h1
    obtain ⟨h2, m2, t2, w2, x2⟩ := s
    obtain ⟨t4, h4, m4, w4, x4, e4, hS4⟩ := p_X10_say hR w2 x2 (V i) h1 (hV i hi) (by omega)
    exact ⟨(h4, m4, t4, w4, x4), hS4, hs self i h2 m2 t2 w2 x2 _ _ _ _ _ hi e4⟩
theorem xorU {x y : Int32} (hx : x &&& 255 = x) (hy : y &&& 255 = y) : (x ^^^ y) &&& 255 = x ^^^ y := by
  apply b_ext
  intro i _
  rw [b_and, b_xor]
  have h1 : bt x i = (bt x i && bt 255 i) := by rw [← b_and, hx]
  have h2 : bt y i = (bt y i && bt 255 i) := by rw [← b_and, hy]
  generalize bt x i = p at *
  generalize bt y i = q at *
  generalize bt 255 i = r at *
  revert h1 h2
  cases p <;> cases q <;> cases r <;> decide
theorem hmI_in {len : Nat} {kk D : Nat → Int32} {p : Int32} {t : Nat} (h : t < 64) : hmI len kk D p t = (if t < len then kk t else 0) ^^^ p := if_pos h
theorem hmI_hi {len : Nat} {kk D : Nat → Int32} {p : Int32} (i : Nat) : hmI len kk D p (64 + i) = D i := by
  unfold hmI
  rw [if_neg (by omega), Nat.add_sub_cancel_left]
set_option maxHeartbeats 4000000 in
theorem p_X10_beginMac {RO ST : Nat → Int32} (hR : ∀ j, j < 64 → RO j = tb_CONSTANTS.getD j 0) (hST : ∀ j, j < 8 → ST j = tb_BEGINNING.getD j 0) {len : Nat} {kk sec : Nat → Int32} (hk : ∀ t, t < len → sec t = kk t) (hu : ∀ t, t < len → kk t &&& 255 = kk t) (hl : len ≤ 64) (D : Nat → Int32) (tot : Int64) (h m w x : Nat → Int32) :
    ∃ tot' h' m' w' x', f_X10_beginMac (nI len) tot RO ST h m sec w x = some (tot', h', m', w', x') ∧ shMS (hmI len kk D 54) 64 tot' h' m' := by
  unfold f_X10_beginMac
  obtain ⟨h1, e1, g1⟩ := p_X10_start hST (hmI len kk D 54) tot h m
  simp only [e1, zbE, zjE]
  refine zl_say (F := b_X10_beginMac_6 (nI len) RO sec _) hR (fun i => (if i < len then sec i else 0) ^^^ 54) 64 w x (fun o => ∃ tot' h' m' w' x', o = some (tot', h', m', w', x') ∧ shMS (hmI len kk D 54) 64 tot' h' m') g1 ?_ (by omega) (by omega) ?_ ?_
  · intro i hi
    rw [Nat.zero_add, hmI_in hi]
    by_cases hc : i < len
    · rw [if_pos hc, if_pos hc, hk i hc]
      exact xorU (hu i hc) (by decide)
    · rw [if_neg hc, if_neg hc]
      decide
  · intro self h m t w x h2
    simp only [b_X10_beginMac_6]
    rw [if_pos (by decide)]
    exact ⟨_, _, _, _, _, rfl, h2⟩
  · intro self i h m t w x t' h' m' w' x' hi e
    simp only [b_X10_beginMac_6]
    rw [if_neg (show ¬ (64 : Int32) ≤ nI i from nI_ge (b := 64) hi (by omega))]
    by_cases hc : i < len
    · rw [if_pos hc] at e
      rw [if_neg (nI_ge hc (by omega)), zk_T (nI_in (by omega) (by omega)), nI_clamp (by omega)]
      simp only [e, zbE, nI_1]
    · rw [if_neg hc] at e
      rw [if_pos (nI_le (by omega) (by omega))]
      simp only [e, zbE, nI_1]
set_option maxHeartbeats 4000000 in
theorem p_X10_endMac {RO ST : Nat → Int32} (hR : ∀ j, j < 64 → RO j = tb_CONSTANTS.getD j 0) (hST : ∀ j, j < 8 → ST j = tb_BEGINNING.getD j 0) {len n : Nat} {kk sec D : Nat → Int32} (hk : ∀ t, t < len → sec t = kk t) (hu : ∀ t, t < len → kk t &&& 255 = kk t) (hl : len ≤ 64) {tot : Int64} {h m : Nat → Int32} (hS : shMS (hmI len kk D 54) (64 + n) tot h m) (hn : n < 2 ^ 28) (dg inner w x : Nat → Int32) :
    ∃ tot' dg' h' in' m' w' x', f_X10_endMac (nI len) tot RO ST dg h inner m sec w x = some (tot', dg', h', in', m', w', x') ∧ ∀ j, j < 32 → dg' j = hmac len kk D n j := by
  unfold f_X10_endMac
  obtain ⟨t1, d1, h1, m1, w1, x1, e1, g1⟩ := p_X10_finish hR dg w x hS (by omega)
  simp only [e1, zbE]
  rw [zjE]
  refine zl_up (F := b_X10_endMac_6 d1 _) (fun i (s : Nat → Int32) => (nI i, s)) (fun i s => ∀ j, j < i → s j = d1 j) 0 32 inner (fun o => ∃ tot' dg' h' in' m' w' x', o = some (tot', dg', h', in', m', w', x') ∧ ∀ j, j < 32 → dg' j = hmac len kk D n j) (by omega) (by omega) (fun j hj => by omega) ?_ ?_
  · intro self in1 hin
    simp only [b_X10_endMac_6]
    rw [if_pos (by decide)]
    obtain ⟨h2, e2, g2⟩ := p_X10_start hST (hmI len kk (shD (hmI len kk D 54) (64 + n)) 92) t1 h1 m1
    simp only [e2, zbE]
    rw [zjE]
    refine zl_say (F := b_X10_endMac_36 (nI len) RO sec _) hR (fun i => (if i < len then sec i else 0) ^^^ 92) 64 w1 x1 (fun o => ∃ tot' dg' h' in' m' w' x', o = some (tot', dg', h', in', m', w', x') ∧ ∀ j, j < 32 → dg' j = hmac len kk D n j) g2 ?_ (by omega) (by omega) ?_ ?_
    · intro i hi
      rw [Nat.zero_add, hmI_in hi]
      by_cases hc : i < len
      · rw [if_pos hc, if_pos hc, hk i hc]
        exact xorU (hu i hc) (by decide)
      · rw [if_neg hc, if_neg hc]
        decide
    · intro self h3 m3 t3 w3 x3 g3
      simp only [b_X10_endMac_36]
      rw [if_pos (by decide), zjE]
      refine zl_say (F := b_X10_endMac_75 RO in1 _) hR in1 32 w3 x3 (fun o => ∃ tot' dg' h' in' m' w' x', o = some (tot', dg', h', in', m', w', x') ∧ ∀ j, j < 32 → dg' j = hmac len kk D n j) g3 ?_ (by omega) (by omega) ?_ ?_
      · intro i hi
        rw [show 0 + 64 + i = 64 + i by omega, hmI_hi, hin i hi, g1 i hi]
        exact shD_u _ _ _
      · intro self h4 m4 t4 w4 x4 g4
        simp only [b_X10_endMac_75]
        rw [if_pos (by decide)]
        obtain ⟨t5, d5, h5, m5, w5, x5, e5, g5⟩ := p_X10_finish hR d1 w4 x4 g4 (by omega)
        simp only [e5, zbE]
        exact ⟨_, _, _, _, _, _, _, rfl, g5⟩
      · intro self i h m t w x t' h' m' w' x' hi e
        simp only [b_X10_endMac_75]
        rw [if_neg (show ¬ (32 : Int32) ≤ nI i from nI_ge (b := 32) hi (by omega)), zk_T (nI_in (by omega) (by omega)), nI_clamp (by omega)]
        simp only [e, zbE, nI_1]
    · intro self i h m t w x t' h' m' w' x' hi e
      simp only [b_X10_endMac_36]
      rw [if_neg (show ¬ (64 : Int32) ≤ nI i from nI_ge (b := 64) hi (by omega))]
      by_cases hc : i < len
      · rw [if_pos hc] at e
        rw [if_neg (nI_ge hc (by omega)), zk_T (nI_in (by omega) (by omega)), nI_clamp (by omega)]
        simp only [e, zbE, nI_1]
      · rw [if_neg hc] at e
        rw [if_pos (nI_le (by omega) (by omega))]
        simp only [e, zbE, nI_1]
  · intro self i s _ hi hs
    refine ⟨upd s i (d1 i), fun j hj => ?_, ?_⟩
    · by_cases e : j = i
      · subst e
        exact upd_s _ _ _
      · rw [upd_n _ _ e]
        exact hs j (by omega)
    · simp only [b_X10_endMac_6]
      rw [if_neg (show ¬ (32 : Int32) ≤ nI i from nI_ge (b := 32) hi (by omega)), zk_T (nI_in (by omega) (by omega)), zk_T (nI_in (by omega) (by omega)), nI_clamp (by omega), znE, nI_1]
/-- a copy of a row in a loop -/
theorem zl_cpy {ρ : Type} {F : ((Int32 × (Nat → Int32)) → Option ρ) → (Int32 × (Nat → Int32)) → Option ρ} (a n : Nat) (g f0 : Nat → Int32) (K : (Nat → Int32) → Option ρ) (hn : n ≤ 1500)
    (hx : ∀ self f, F self (nI n, f) = K f) (hs : ∀ self i f, i < n → F self (nI i, f) = self (nI (i + 1), upd f (a + i) (g i))) : zl F zF ((0 : Int32), f0) = K (zrow a n g f0) :=
  zl_row (F := F) (fun i f => (nI i, f)) K a n g f0 hn hx (fun self i f hi _ => hs self i f hi)
theorem p_X10_secretK (sc : Int32) (k s : Nat → Int32) : f_X10_secretK sc k s = some (32, zrow 0 32 k s) := by
  unfold f_X10_secretK
  rw [zjE]
  refine zl_cpy (F := b_X10_secretK_8 k (fun q => some ((32 : Int32), q))) 0 32 k s (fun q => some ((32 : Int32), q)) (by omega) ?_ ?_
  · intro self f
    simp only [b_X10_secretK_8]
    exact if_pos (by decide)
  · intro self i f hi
    simp (disch := omega) only [b_X10_secretK_8, zle1, if_neg, zCl, zki, zki2, znE, zA, Nat.zero_add, zlt2]
theorem p_X10_secretOf {s len : Nat} (sc : Int32) (ks L c : Nat → Int32) (hs : s < 16) (hl : L s = nI len) (hl2 : len ≤ 64) : f_X10_secretOf (nI s) sc ks L c = some (nI len, zrow 0 len (fun i => ks (64 * s + i)) c) := by
  unfold f_X10_secretOf
  simp (disch := omega) only [zCl, zki, zki2, znE, hl, zlt2]
  rw [zjE]
  refine zl_cpy (F := b_X10_secretOf_12 (nI s) ks (nI len) (fun q => some (nI len, q))) 0 len (fun i => ks (64 * s + i)) c (fun q => some (nI len, q)) (by omega) ?_ ?_
  · intro self f
    simp only [b_X10_secretOf_12]
    exact if_pos (nI_le (Nat.le_refl _) (by omega))
  · intro self i f hi
    simp (disch := omega) only [b_X10_secretOf_12, zle, if_neg, zM, nI_add, zCl, zki, zki2, znE, zA, Nat.zero_add, zlt2]
