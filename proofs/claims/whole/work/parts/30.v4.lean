/-! the methods: login, logout, setPin, entropy -/
theorem in12 {x : Int32} (h : 1 ≤ x ∧ x ≤ 2) : x = 1 ∨ x = 2 := by
  have c1 : (1 : Int32).toInt = 1 := by decide
  have c2 : (2 : Int32).toInt = 2 := by decide
  obtain ⟨h1, h2⟩ := h
  rw [i32_le, c1] at h1
  rw [i32_le, c2] at h2
  rw [i32_eq, i32_eq, c1, c2]
  omega
theorem in16 {x : Int32} (h : 0 ≤ x ∧ x ≤ 15) : ∃ k, k < 16 ∧ x = nI k := by
  obtain ⟨k, hk, e⟩ := in_nat (b := 15) (by omega) h.1 h.2
  exact ⟨k, by omega, e⟩
theorem Rst_off {B st : Nat} {sb fl tot : Int32} {sc su sH sBl : Rw} {taken : Nat → Int64} (h : Rst B st sb fl tot sc su taken sH sBl) (h3 : st ≠ 3) (h4 : st ≠ 4) : sb = 0 ∧ taken 1 = -1 ∧ taken 2 = -1 := by
  have h0 : sb = 0 := by
    rcases h.1 with q | ⟨_, q⟩
    · exact q
    · omega
  have n1 : ¬ sb = 1 := by rw [h0]; decide
  refine ⟨h0, ?_, ?_⟩
  · rcases h.2 1 (Or.inl rfl) with ⟨q, _⟩ | ⟨_, q⟩
    · exact absurd q n1
    · exact q
  · rcases h.2 2 (Or.inr rfl) with ⟨q, _⟩ | ⟨_, q⟩
    · exact absurd q n1
    · exact q
theorem Rst_0 (B st : Nat) (fl tot : Int32) (sc su sH sBl : Rw) {taken : Nat → Int64} (h1 : taken 1 = -1) (h2 : taken 2 = -1) : Rst B st 0 fl tot sc su taken sH sBl := by
  refine ⟨Or.inl rfl, fun r hr => Or.inr ⟨fun q => absurd q.1 (by decide), ?_⟩⟩
  rcases hr with rfl | rfl
  · exact h1
  · exact h2
theorem st_eq {st k : Nat} (hst : st ≤ 5) (hk : k ≤ 5) : nI st = nI k ↔ st = k := nI_eq (by omega) (by omega)
theorem tc0 : (0 : Int32).toNatClampNeg = 0 := by decide
theorem tc1 : (1 : Int32).toNatClampNeg = 1 := by decide
theorem tc2 : (2 : Int32).toNatClampNeg = 2 := by decide
set_option maxHeartbeats 4000000 in
theorem q_login {st : Nat} {p1 p2 on ot un ut thr : Int32} {cc mc pin tries : Rw} (hst : st ≤ 5) (hc : Rcn cc mc) (hp : Rp on ot un ut pin tries) :
    ∃ (st' : Nat) (r ot' ut' : Int32) (cc' mc' tries' : Rw), f_X9_login p1 p2 (nI st) cc on ot un ut = some (r, nI st', cc', ot', ut') ∧ f_X10_login p1 p2 (nI st) thr mc pin tries = some (r, nI st', 0, mc', tries') ∧ Rcn cc' mc' ∧ Rp on ot' un ut' pin tries' ∧ (st' = st ∨ (st = 2 ∧ (st' = 3 ∨ st' = 4))) := by
  have hp0 := hp
  obtain ⟨hp1, hp2, hp3, hp4⟩ := hp
  have ans : ∀ r, ∃ cc' mc', f_X9_counted r cc = some (r, cc') ∧ f_X10_answer r mc = some (r, mc') ∧ Rcn cc' mc' := fun r => p_counted r hc
  by_cases h2 : st = 2
  · subst h2
    by_cases hr : 1 ≤ p1 ∧ p1 ≤ 2
    · rcases in12 hr with rfl | rfl
      · by_cases h3 : ot = 3
        · subst h3
          obtain ⟨cc', mc', e1, e2, g⟩ := ans (-10)
          refine ⟨2, -10, 3, ut, cc', mc', tries, ?_, ?_, g, hp0, Or.inl rfl⟩
          · simp (decide := true) only [f_X9_login, f_X9_loginAnswer, f_X9_pinOf, f_X5_opens, p_isRole, zbE, znE, zk_c, ite_true, ite_false, eq_self, tc1, tc2, e1]
          · simp (decide := true) only [f_X10_login, p_in, zbE, znE, zk_c, ite_true, ite_false, eq_self, tc1, tc2, e2, hp1, hp2, hp3, hp4]
        · by_cases hq : p2 = on
          · subst hq
            obtain ⟨cc', mc', e1, e2, g⟩ := ans (0)
            refine ⟨3, 0, 0, ut, cc', mc', upd tries 1 0, ?_, ?_, g, ⟨hp1, hp2, upd_s _ _ _, (upd_n _ _ (by decide)).trans hp4⟩, Or.inr ⟨rfl, Or.inl rfl⟩⟩
            · simp (decide := true) only [f_X9_login, f_X9_loginAnswer, f_X9_pinOf, f_X5_opens, p_isRole, zbE, znE, zk_c, ite_true, ite_false, eq_self, tc1, tc2, h3, e1]
              rfl
            · simp (decide := true) only [f_X10_login, p_in, zbE, znE, zk_c, ite_true, ite_false, eq_self, tc1, tc2, h3, e2, hp1, hp2, hp3, hp4]
              rfl
          · skip
            obtain ⟨cc', mc', e1, e2, g⟩ := ans (-10)
            refine ⟨2, -10, ot + 1, ut, cc', mc', upd tries 1 (ot + 1), ?_, ?_, g, ⟨hp1, hp2, upd_s _ _ _, (upd_n _ _ (by decide)).trans hp4⟩, Or.inl rfl⟩
            · simp (decide := true) only [f_X9_login, f_X9_loginAnswer, f_X9_pinOf, f_X5_opens, p_isRole, zbE, znE, zk_c, ite_true, ite_false, eq_self, tc1, tc2, h3, hq, e1]
            · simp (decide := true) only [f_X10_login, p_in, zbE, znE, zk_c, ite_true, ite_false, eq_self, tc1, tc2, h3, hq, e2, hp1, hp2, hp3, hp4]
      · by_cases h3 : ut = 3
        · subst h3
          obtain ⟨cc', mc', e1, e2, g⟩ := ans (-10)
          refine ⟨2, -10, ot, 3, cc', mc', tries, ?_, ?_, g, hp0, Or.inl rfl⟩
          · simp (decide := true) only [f_X9_login, f_X9_loginAnswer, f_X9_pinOf, f_X5_opens, p_isRole, zbE, znE, zk_c, ite_true, ite_false, eq_self, tc1, tc2, e1]
          · simp (decide := true) only [f_X10_login, p_in, zbE, znE, zk_c, ite_true, ite_false, eq_self, tc1, tc2, e2, hp1, hp2, hp3, hp4]
        · by_cases hq : p2 = un
          · subst hq
            obtain ⟨cc', mc', e1, e2, g⟩ := ans (0)
            refine ⟨4, 0, ot, 0, cc', mc', upd tries 2 0, ?_, ?_, g, ⟨hp1, hp2, (upd_n _ _ (by decide)).trans hp3, upd_s _ _ _⟩, Or.inr ⟨rfl, Or.inr rfl⟩⟩
            · simp (decide := true) only [f_X9_login, f_X9_loginAnswer, f_X9_pinOf, f_X5_opens, p_isRole, zbE, znE, zk_c, ite_true, ite_false, eq_self, tc1, tc2, h3, e1]
              rfl
            · simp (decide := true) only [f_X10_login, p_in, zbE, znE, zk_c, ite_true, ite_false, eq_self, tc1, tc2, h3, e2, hp1, hp2, hp3, hp4]
              rfl
          · skip
            obtain ⟨cc', mc', e1, e2, g⟩ := ans (-10)
            refine ⟨2, -10, ot, ut + 1, cc', mc', upd tries 2 (ut + 1), ?_, ?_, g, ⟨hp1, hp2, (upd_n _ _ (by decide)).trans hp3, upd_s _ _ _⟩, Or.inl rfl⟩
            · simp (decide := true) only [f_X9_login, f_X9_loginAnswer, f_X9_pinOf, f_X5_opens, p_isRole, zbE, znE, zk_c, ite_true, ite_false, eq_self, tc1, tc2, h3, hq, e1]
            · simp (decide := true) only [f_X10_login, p_in, zbE, znE, zk_c, ite_true, ite_false, eq_self, tc1, tc2, h3, hq, e2, hp1, hp2, hp3, hp4]
    · skip
      obtain ⟨cc', mc', e1, e2, g⟩ := ans (-2)
      refine ⟨2, -2, ot, ut, cc', mc', tries, ?_, ?_, g, hp0, Or.inl rfl⟩
      · simp (decide := true) only [f_X9_login, f_X9_loginAnswer, f_X9_pinOf, f_X5_opens, p_isRole, zbE, znE, zk_c, ite_true, ite_false, eq_self, tc1, tc2, hr, e1]
      · simp (decide := true) only [f_X10_login, p_in, zbE, znE, zk_c, ite_true, ite_false, eq_self, tc1, tc2, hr, e2, hp1, hp2, hp3, hp4]
  · have h2' : ¬ nI st = 2 := fun q => h2 ((st_eq hst (by omega)).mp q)
    obtain ⟨cc', mc', e1, e2, g⟩ := ans (-1)
    refine ⟨st, -1, ot, ut, cc', mc', tries, ?_, ?_, g, hp0, Or.inl rfl⟩
    · simp (decide := true) only [f_X9_login, f_X9_loginAnswer, f_X9_pinOf, f_X5_opens, p_isRole, zbE, znE, zk_c, ite_true, ite_false, eq_self, tc1, tc2, h2', e1]
    · simp (decide := true) only [f_X10_login, p_in, zbE, znE, zk_c, ite_true, ite_false, eq_self, tc1, tc2, h2', e2, hp1, hp2, hp3, hp4]
theorem in34 {st : Nat} (hst : st ≤ 5) : (nI st = 3 ∨ nI st = 4) ↔ (st = 3 ∨ st = 4) := by
  rw [show (nI st = 3) ↔ st = 3 from st_eq (k := 3) hst (by omega), show (nI st = 4) ↔ st = 4 from st_eq (k := 4) hst (by omega)]
theorem q_logout {B st : Nat} {sb fl tot thr : Int32} {sc su sH sBl : Rw} {taken : Nat → Int64} (hst : st = 3 ∨ st = 4) (h : Rst B st sb fl tot sc su taken sH sBl) :
    ∃ taken', f_X9_logout (nI st) sb = some (2, 0) ∧ f_X10_logout (nI st) thr taken = some (2, 0, taken') ∧ taken' 1 = -1 ∧ taken' 2 = -1 := by
  rcases hst with rfl | rfl
  · refine ⟨vp_updL taken 1 (-1), ?_, ?_, updL_s _ _ _, ?_⟩
    · simp (decide := true) only [f_X9_logout, f_X9_endLogin, p_logged, zbE, ite_true, ite_false]
    · simp (decide := true) only [f_X10_logout, f_X10_role, p_isIn, zbE, zjE, znE, zk_c, ite_true, ite_false]
      rfl
    · rw [updL_n _ _ (by decide)]
      rcases h.2 2 (Or.inr rfl) with ⟨_, q, _⟩ | ⟨_, q⟩
      · omega
      · exact q
  · refine ⟨vp_updL taken 2 (-1), ?_, ?_, ?_, updL_s _ _ _⟩
    · simp (decide := true) only [f_X9_logout, f_X9_endLogin, p_logged, zbE, ite_true, ite_false]
    · simp (decide := true) only [f_X10_logout, f_X10_role, p_isIn, zbE, zjE, znE, zk_c, ite_true, ite_false]
      rfl
    · rw [updL_n _ _ (by decide)]
      rcases h.2 1 (Or.inl rfl) with ⟨_, q, _⟩ | ⟨_, q⟩
      · omega
      · exact q
theorem q_logoutX {st : Nat} {thr : Int32} {taken : Nat → Int64} (hst : st ≤ 5) (h : ¬ (st = 3 ∨ st = 4)) : f_X10_logout (nI st) thr taken = some (nI st, 1, taken) := by
  unfold f_X10_logout
  rw [p_isIn, zbE, if_neg (fun q => h ((in34 hst).mp q)), zjE, if_pos rfl]
  dsimp only
  rw [if_neg (by decide)]
set_option maxHeartbeats 4000000 in
theorem q_setPin {st : Nat} {p1 p2 on ot un ut thr : Int32} {cc mc pin tries : Rw} (hst : st ≤ 5) (hc : Rcn cc mc) (hp : Rp on ot un ut pin tries) :
    ∃ (r on' ot' un' ut' : Int32) (cc' mc' pin' tries' : Rw), f_X9_setPin p1 p2 (nI st) cc on ot un ut = some (r, cc', on', ot', un', ut') ∧ f_X10_setPin p1 p2 (nI st) thr mc pin tries = some (r, 0, mc', pin', tries') ∧ Rcn cc' mc' ∧ Rp on' ot' un' ut' pin' tries' := by
  have hp0 := hp
  obtain ⟨hp1, hp2, hp3, hp4⟩ := hp
  have ans : ∀ r, ∃ cc' mc', f_X9_counted r cc = some (r, cc') ∧ f_X10_answer r mc = some (r, mc') ∧ Rcn cc' mc' := fun r => p_counted r hc
  have flat : ∀ r : Int32, f_X9_setPinAnswer p1 p2 (nI st) on ot un ut = some (r, on, ot, un, ut) → (∀ cc', f_X10_answer r mc = some (r, cc') → f_X10_setPin p1 p2 (nI st) thr mc pin tries = some (r, 0, cc', pin, tries)) → ∃ (r on' ot' un' ut' : Int32) (cc' mc' pin' tries' : Rw), f_X9_setPin p1 p2 (nI st) cc on ot un ut = some (r, cc', on', ot', un', ut') ∧ f_X10_setPin p1 p2 (nI st) thr mc pin tries = some (r, 0, mc', pin', tries') ∧ Rcn cc' mc' ∧ Rp on' ot' un' ut' pin' tries' := by
    intro r h1 h2
    obtain ⟨cc', mc', e1, e2, g⟩ := ans r
    refine ⟨r, on, ot, un, ut, cc', mc', pin, tries, ?_, h2 mc' e2, g, hp0⟩
    unfold f_X9_setPin
    rw [h1]
    simp only [zbE]
    rw [e1, zbE]
  by_cases hin : st = 3 ∨ st = 4
  · by_cases hr : 1 ≤ p1 ∧ p1 ≤ 2
    · by_cases hq : 0 ≤ p2 ∧ p2 ≤ 999999
      · have hq1 : ¬ p2 < 0 := Int32.not_lt.mpr hq.1
        rcases hin with rfl | rfl
        · obtain ⟨cc', mc', e1, e2, g⟩ := ans 0
          rcases in12 hr with rfl | rfl
          · refine ⟨0, p2, 0, un, ut, cc', mc', upd pin 1 p2, upd tries 1 0, ?_, ?_, g, upd_s _ _ _, (upd_n _ _ (by decide)).trans hp2, upd_s _ _ _, (upd_n _ _ (by decide)).trans hp4⟩
            · simp (decide := true) only [f_X9_setPin, f_X9_setPinAnswer, f_X9_pinOf, f_X5_renew, p_logged, p_isRole, zbE, znE, zk_c, ite_true, ite_false, eq_self, hq.2, hq1, e1]
            · simp (decide := true) only [f_X10_setPin, f_X10_role, p_isIn, p_in, zbE, znE, zk_c, ite_true, ite_false, eq_self, tc1, hq, e2, and_self]
          · refine ⟨0, on, ot, p2, 0, cc', mc', upd pin 2 p2, upd tries 2 0, ?_, ?_, g, (upd_n _ _ (by decide)).trans hp1, upd_s _ _ _, (upd_n _ _ (by decide)).trans hp3, upd_s _ _ _⟩
            · simp (decide := true) only [f_X9_setPin, f_X9_setPinAnswer, f_X9_pinOf, f_X5_renew, p_logged, p_isRole, zbE, znE, zk_c, ite_true, ite_false, eq_self, hq.2, hq1, e1]
            · simp (decide := true) only [f_X10_setPin, f_X10_role, p_isIn, p_in, zbE, znE, zk_c, ite_true, ite_false, eq_self, tc2, hq, e2, and_self]
        · refine flat (-3) ?_ (fun cc' e2 => ?_)
          · simp (decide := true) only [f_X9_setPinAnswer, p_logged, p_isRole, zbE, ite_true, ite_false, hr, hq.2, hq1, and_self]
          · simp (decide := true) only [f_X10_setPin, f_X10_role, p_isIn, p_in, zbE, ite_true, ite_false, hr, hq, e2, and_self]
      · have hin' : nI st = 3 ∨ nI st = 4 := (in34 hst).mpr hin
        refine flat (-2) ?_ (fun cc' e2 => ?_)
        · by_cases h1 : p2 < 0
          · simp (decide := true) only [f_X9_setPinAnswer, p_logged, p_isRole, zbE, ite_true, ite_false, hin', hr, h1, and_self]
          · have h2 : ¬ p2 ≤ 999999 := fun q => hq ⟨Int32.not_lt.mp h1, q⟩
            simp (decide := true) only [f_X9_setPinAnswer, p_logged, p_isRole, zbE, ite_true, ite_false, hin', hr, h1, h2, and_self]
        · simp (decide := true) only [f_X10_setPin, f_X10_role, p_isIn, p_in, zbE, ite_true, ite_false, hin', hr, hq, e2, and_self]
    · have hin' : nI st = 3 ∨ nI st = 4 := (in34 hst).mpr hin
      refine flat (-2) ?_ (fun cc' e2 => ?_)
      · simp (decide := true) only [f_X9_setPinAnswer, p_logged, p_isRole, zbE, ite_true, ite_false, hin', hr]
      · simp (decide := true) only [f_X10_setPin, p_isIn, p_in, zbE, ite_true, ite_false, hin', hr, e2]
  · have hin' : ¬ (nI st = 3 ∨ nI st = 4) := fun q => hin ((in34 hst).mp q)
    refine flat (-1) ?_ (fun cc' e2 => ?_)
    · simp (decide := true) only [f_X9_setPinAnswer, p_logged, zbE, ite_true, ite_false, hin']
    · simp (decide := true) only [f_X10_setPin, p_isIn, zbE, ite_true, ite_false, hin', e2]
