/-! the state of the class over the state of the model -/
def Rb (cb mb : Rw) : Prop := RB 512 cb mb ∧ isU8 mb 512
def Rcn (cc mc : Rw) : Prop := ∀ j, j < 3 → cc j = mc j
def Rf (cf : Int32) (mf : Rw) : Prop := ∀ t, t < 10 → ((cf >>> (nI t &&& 31)) &&& 1) = mf t ∧ (mf t = 0 ∨ mf t = 1)
def Rp (on ot un ut : Int32) (pin tries : Rw) : Prop := pin 1 = on ∧ pin 2 = un ∧ tries 1 = ot ∧ tries 2 = ut
/-- a slot that is filled -/
def Rs1 (ck cl cu cr ce : Int32) (cy : Rw) (mk ml mu mh me : Int32) (my : Rw) : Prop :=
  ∃ k n ug h : Nat, (k = 1 ∨ k = 2) ∧ ck = nI k ∧ mk = nI k ∧ cl = nI n ∧ ml = nI n ∧ 1 ≤ n ∧ n ≤ 64 ∧ (k = 1 → n = 16 ∨ n = 32) ∧ cu = nI ug ∧ mu = nI ug ∧ ug < 64 ∧ cr = nI h ∧ mh = nI h ∧ (h = 1 ∨ h = 2) ∧ ce = me ∧ RB n cy my ∧ isU8 my n
def Rsl (kd ln us ro ue : Rw) (ky : Nat → Rw) (kind len usage holder uses keys : Rw) : Prop :=
  ∀ s, s < 16 → (kd s = 0 ∧ kind s = 0) ∨ Rs1 (kd s) (ln s) (us s) (ro s) (ue s) (ky s) (kind s) (len s) (usage s) (holder s) (uses s) (fun i => keys (64 * s + i))
def Rwk (cnt : Int32) (kept : Rw) (words : Int32) (word : Rw) : Prop := ∃ c, cnt = nI c ∧ words = nI c ∧ c ≤ 64 ∧ ∀ i, i < c → kept i = word i
def Rwh (hl last row first pw tw ill before inRow mfirst inW same : Int32) : Prop :=
  (hl = 0 ∧ ill = 1) ∨ (hl = 1 ∧ ill = 0 ∧ ∃ ρ w t, row = nI ρ ∧ inRow = nI ρ ∧ ρ ≤ 3 ∧ (0 < ρ → last = before) ∧ inW = nI w ∧ w ≤ 16 ∧ pw = nI (w % 16) ∧ (¬ w % 16 = 0 → first = mfirst ∧ tw = nI t ∧ same = nI t ∧ t ≤ 5))
def Rg (bg rq : Int32) (key val : Rw) (made mrq : Int32) (k v : Rw) : Prop :=
  (bg = 0 ∧ made = 0) ∨ (bg = 1 ∧ made = 1 ∧ ∃ q, q ≤ 64 ∧ rq = nI q ∧ mrq = nI q ∧ RB 32 key k ∧ RB 32 val v ∧ isU8 k 32 ∧ isU8 v 32)
/-- a stream that was begun -/
def Rst1 (B : Nat) (fl tot : Int32) (sc su : Rw) (tk : Int64) (sH sBl : Rw) : Prop :=
  ∃ b n, n ≤ B ∧ shCS b n fl sc su ∧ tot = nI n ∧ tk = lN n ∧ (∀ j, j < 8 → sH j = shN b (n / 64) j) ∧ ∀ t, t < n % 64 → sBl t = b (64 * (n / 64) + t)
def Rst (B st : Nat) (sb fl tot : Int32) (sc su : Rw) (taken : Nat → Int64) (sH sBl : Rw) : Prop :=
  (sb = 0 ∨ (sb = 1 ∧ (st = 3 ∨ st = 4))) ∧ ∀ r, (r = 1 ∨ r = 2) → (sb = 1 ∧ st = 2 + r ∧ Rst1 B fl tot sc su (taken r) (fun j => sH (8 * r + j)) (fun t => sBl (64 * r + t))) ∨ (¬ (sb = 1 ∧ st = 2 + r) ∧ taken r = -1)
/-- the model's tables -/
def Rtb (RO ST bx bk : Rw) : Prop := (∀ j, j < 64 → RO j = tb_CONSTANTS.getD j 0) ∧ (∀ j, j < 8 → ST j = tb_BEGINNING.getD j 0) ∧ (∀ k, k < 256 → bx k = tb_BOX.getD k 0) ∧ (∀ k, k < 256 → bk k = tb_BOX_BACK.getD k 0)
/-! conditions -/
theorem in_nat {x : Int32} {b : Nat} (hb : b < 2 ^ 31) (h0 : 0 ≤ x) (h1 : x ≤ nI b) : ∃ k, k ≤ b ∧ x = nI k := by
  have h2 : (0 : Int) ≤ x.toInt := by
    have := Int32.le_iff_toInt_le.mp h0
    rw [show (0 : Int32).toInt = 0 from by decide] at this
    exact this
  have h3 : x.toInt ≤ (b : Int) := by
    have := Int32.le_iff_toInt_le.mp h1
    rw [nI_toInt hb] at this
    exact this
  refine ⟨x.toInt.toNat, by omega, ?_⟩
  apply Int32.toInt_inj.mp
  rw [nI_toInt (by omega)]
  omega
theorem p_in (x a b : Int32) : f_X10_in x a b = some (if a ≤ x ∧ x ≤ b then 1 else 0) := by
  unfold f_X10_in
  by_cases h1 : x < a
  · rw [if_pos h1, if_neg (fun q => absurd h1 (Int32.not_lt.mpr q.1))]
  · rw [if_neg h1]
    by_cases h2 : b < x
    · rw [if_pos h2, if_neg (fun q => absurd h2 (Int32.not_lt.mpr q.2))]
    · rw [if_neg h2, if_pos ⟨Int32.not_lt.mp h1, Int32.not_lt.mp h2⟩]
theorem i32_le {x y : Int32} : x ≤ y ↔ x.toInt ≤ y.toInt := Int32.le_iff_toInt_le
theorem i32_lt {x y : Int32} : x < y ↔ x.toInt < y.toInt := Int32.lt_iff_toInt_lt
theorem i32_eq {x y : Int32} : x = y ↔ x.toInt = y.toInt := Int32.toInt_inj.symm
theorem p_isSlot (x : Int32) : f_X9_isSlot x = some (if 0 ≤ x ∧ x ≤ 15 then 1 else 0) := by
  unfold f_X9_isSlot
  have c1 : (0 : Int32).toInt = 0 := by decide
  have c2 : (16 : Int32).toInt = 16 := by decide
  have c3 : (15 : Int32).toInt = 15 := by decide
  simp only [i32_le, i32_lt, c1, c2, c3]
  (repeat' split) <;> first | rfl | omega
theorem p_isUsage (x : Int32) : f_X9_isUsage x = some (if 0 ≤ x ∧ x ≤ 63 then 1 else 0) := by
  unfold f_X9_isUsage
  have c1 : (0 : Int32).toInt = 0 := by decide
  have c3 : (63 : Int32).toInt = 63 := by decide
  simp only [i32_le, i32_lt, c1, c3]
  (repeat' split) <;> first | rfl | omega
theorem p_isKeyLength (x : Int32) : f_X9_isKeyLength x = some (if 1 ≤ x ∧ x ≤ 64 then 1 else 0) := by
  unfold f_X9_isKeyLength
  have c1 : (1 : Int32).toInt = 1 := by decide
  have c3 : (64 : Int32).toInt = 64 := by decide
  simp only [i32_le, i32_lt, c1, c3]
  (repeat' split) <;> first | rfl | omega
theorem p_isRole (x : Int32) : f_X9_isRole x = some (if 1 ≤ x ∧ x ≤ 2 then 1 else 0) := by
  unfold f_X9_isRole
  have c1 : (1 : Int32).toInt = 1 := by decide
  have c3 : (2 : Int32).toInt = 2 := by decide
  simp only [i32_eq, i32_le, i32_lt, c1, c3]
  (repeat' split) <;> first | rfl | omega
theorem p_isKind (x : Int32) : f_X9_isKind x = some (if 1 ≤ x ∧ x ≤ 2 then 1 else 0) := p_isRole x
theorem p_lengthFits (k n : Int32) (hn : 1 ≤ n ∧ n ≤ 64) : f_X9_lengthFits k n = some (if (k = 1 → n = 16 ∨ n = 32) then 1 else 0) := by
  unfold f_X9_lengthFits
  by_cases hk : k = 1
  · rw [if_pos hk]
    by_cases h1 : n = 16
    · rw [if_pos h1, if_pos (fun _ => Or.inl h1)]
    · rw [if_neg h1]
      by_cases h2 : n = 32
      · rw [if_pos h2, if_pos (fun _ => Or.inr h2)]
      · rw [if_neg h2, if_neg (fun q => (q hk).elim h1 h2)]
  · rw [if_neg hk, p_isKeyLength, zbE, if_pos hn, if_pos (fun q => absurd q hk), zk_T (by decide)]
theorem p_isKey (k n : Int32) (hn : 1 ≤ n ∧ n ≤ 64) : f_X10_isKey k n = some (if (k = 1 → n = 16 ∨ n = 32) then 1 else 0) := by
  unfold f_X10_isKey
  by_cases hk : k = 1
  · rw [if_pos hk]
    by_cases h1 : n = 16
    · rw [if_pos h1, if_pos (fun _ => Or.inl h1)]
    · rw [if_neg h1]
      by_cases h2 : n = 32
      · rw [if_pos h2, if_pos (fun _ => Or.inr h2)]
      · rw [if_neg h2, if_neg (fun q => (q hk).elim h1 h2)]
  · rw [if_neg hk, p_in, zbE, if_pos hn, if_pos (fun q => absurd q hk), zk_T (by decide)]
theorem p_logged (x : Int32) : f_X9_loggedIn x = some (if x = 3 ∨ x = 4 then 1 else 0) := by
  unfold f_X9_loggedIn
  (repeat' split) <;> first | rfl | simp_all
theorem p_isIn (x : Int32) : f_X10_isIn x = some (if x = 3 ∨ x = 4 then 1 else 0) := p_logged x
theorem z10 : ((1 : Int32) = 0) = False := eq_false (by decide)
theorem z00 : ((0 : Int32) = 0) = True := eq_true rfl
/-- an answer is counted alike -/
theorem p_counted (r : Int32) {cc mc : Rw} (h : Rcn cc mc) : ∃ cc' mc', f_X9_counted r cc = some (r, cc') ∧ f_X10_answer r mc = some (r, mc') ∧ Rcn cc' mc' := by
  unfold f_X9_counted f_X10_answer
  by_cases h0 : 0 ≤ r
  · rw [if_pos h0, if_pos h0]
    simp (decide := true) only [zk_c, znE]
    refine ⟨_, _, rfl, rfl, fun j hj => ?_⟩
    by_cases e : j = 0
    · subst e
      rw [show (Int32.toNatClampNeg 0) = 0 by decide, upd_s, upd_s, h 0 hj]
    · rw [show (Int32.toNatClampNeg 0) = 0 by decide, upd_n _ _ e, upd_n _ _ e, h j hj]
  · rw [if_neg h0, if_neg h0]
    simp (decide := true) only [zk_c, znE]
    refine ⟨_, _, rfl, rfl, fun j hj => ?_⟩
    by_cases e : j = 1
    · subst e
      rw [show (Int32.toNatClampNeg 1) = 1 by decide, upd_s, upd_s, h 1 hj]
    · rw [show (Int32.toNatClampNeg 1) = 1 by decide, upd_n _ _ e, upd_n _ _ e, h j hj]
