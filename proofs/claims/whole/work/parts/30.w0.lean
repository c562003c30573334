/-! the method derive -/
theorem p_allows {j : Nat} (b : Int32) (us : Rw) : f_X8_allows j b us = some (if us j &&& b = 0 then 0 else 1) := by
  unfold f_X8_allows
  by_cases h : us j &&& b = 0
  · rw [if_pos h, if_pos h]
  · rw [if_neg h, if_neg h]
set_option maxHeartbeats 8000000 in
theorem q_derive {st : Nat} {p1 p2 p3 p4 p5 p6 thr fl tot scs : Int32} {mt : Int64} {cb mb cc mc ms sec inn sc su kd ln us ro ue : Rw} {ky : Nat → Rw} {kind len usage holder uses keys RO ST bx bk dg h inm msg msec w x : Rw} (hst : st ≤ 5) (ht : Rtb RO ST bx bk) (hb : Rb cb mb) (hc : Rcn cc mc) (hs : Rsl kd ln us ro ue ky kind len usage holder uses keys) :
    ∃ (r fl' tot' scs' : Int32) (mt' : Int64) (cc' mc' ms' sec' inn' sc' su' kd' ln' us' ro' ue' : Rw) (ky' : Nat → Rw) (kind' len' usage' holder' uses' keys' dg' h' inm' msg' msec' w' x' : Rw),
      f_X9_derive p1 p2 p3 p4 p5 p6 (nI st) cb cc ms sec fl tot inn sc su kd ln ro us ue ky = some (r, cc', ms', sec', fl', tot', inn', sc', su', kd', ln', ro', us', ue', ky') ∧
      f_X10_derive p1 p2 p3 p4 p5 p6 scs (nI st) thr mt RO ST mb mc dg h holder inm keys kind len msg msec usage uses w x = some (r, scs', 0, mt', mc', dg', h', holder', inm', keys', kind', len', msg', msec', usage', uses', w', x') ∧
      Rcn cc' mc' ∧ Rsl kd' ln' us' ro' ue' ky' kind' len' usage' holder' uses' keys' := by
  have flat : ∀ a : Int32, ¬ a = 0 → f_X9_deriveRefusal p1 p2 p3 p4 p5 p6 (nI st) kd ro us ue = some a → (∀ mc', f_X10_answer a mc = some (a, mc') → f_X10_derive p1 p2 p3 p4 p5 p6 scs (nI st) thr mt RO ST mb mc dg h holder inm keys kind len msg msec usage uses w x = some (a, scs, 0, mt, mc', dg, h, holder, inm, keys, kind, len, msg, msec, usage, uses, w, x)) → ∃ (r fl' tot' scs' : Int32) (mt' : Int64) (cc' mc' ms' sec' inn' sc' su' kd' ln' us' ro' ue' : Rw) (ky' : Nat → Rw) (kind' len' usage' holder' uses' keys' dg' h' inm' msg' msec' w' x' : Rw),
      f_X9_derive p1 p2 p3 p4 p5 p6 (nI st) cb cc ms sec fl tot inn sc su kd ln ro us ue ky = some (r, cc', ms', sec', fl', tot', inn', sc', su', kd', ln', ro', us', ue', ky') ∧
      f_X10_derive p1 p2 p3 p4 p5 p6 scs (nI st) thr mt RO ST mb mc dg h holder inm keys kind len msg msec usage uses w x = some (r, scs', 0, mt', mc', dg', h', holder', inm', keys', kind', len', msg', msec', usage', uses', w', x') ∧
      Rcn cc' mc' ∧ Rsl kd' ln' us' ro' ue' ky' kind' len' usage' holder' uses' keys' := by
    intro a ha h1 h2
    obtain ⟨cc', mc', e3, e4, g3⟩ := p_counted a hc
    refine ⟨a, fl, tot, scs, mt, cc', mc', ms, sec, inn, sc, su, kd, ln, us, ro, ue, ky, kind, len, usage, holder, uses, keys, dg, h, inm, msg, msec, w, x, ?_, h2 mc' e4, g3, hs⟩
    simp only [f_X9_derive, h1, zbE, ha, ite_false, e3]
  by_cases hin : st = 3 ∨ st = 4
  · have hin' : nI st = 3 ∨ nI st = 4 := (in34 hst).mpr hin
    by_cases c1 : 0 ≤ p1 ∧ p1 ≤ 15
    · by_cases c2 : 0 ≤ p2 ∧ p2 ≤ 15
      · by_cases c3 : 1 ≤ p3 ∧ p3 ≤ 2
        · by_cases c4 : 0 ≤ p4 ∧ p4 ≤ 63
          · by_cases c5 : 1 ≤ p5 ∧ p5 ≤ 64
            · by_cases c6 : 0 ≤ p6 ∧ p6 ≤ 64
              · have c6a : ¬ p6 < 0 := Int32.not_lt.mpr c6.1
                obtain ⟨s, hs16, rfl⟩ := in16 c1
                obtain ⟨f, hf16, rfl⟩ := in16 c2
                have zts : ∀ {α : Type} {d : Decidable (¬ (nI s < 0 ∨ 16 ≤ s))} (x : Option α), @zk α (¬ (nI s < 0 ∨ 16 ≤ s)) d x = x := fun x => zki hs16 (by omega) x
                have cls : (nI s).toNatClampNeg = s := nI_clamp (by omega)
                have ztf : ∀ {α : Type} {d : Decidable (¬ (nI f < 0 ∨ 16 ≤ f))} (x : Option α), @zk α (¬ (nI f < 0 ∨ 16 ≤ f)) d x = x := fun x => zki hf16 (by omega) x
                have clf : (nI f).toNatClampNeg = f := nI_clamp (by omega)
                obtain ⟨o, f1, f2, ho⟩ := p_foreign hin hs hf16
                rcases ho with rfl | rfl
                · rcases hs f hf16 with ⟨q1, q2⟩ | hrf
                  · skip
                    refine flat (-4) (by decide) ?_ (fun mc' e => ?_)
                    · simp (decide := true) only [f_X9_deriveRefusal, p_logged, p_isSlot, p_isKind, p_isUsage, p_isKeyLength, p_empty, p_allows, zbE, ite_true, ite_false, and_self, hin', c1, c2, c3, c4, c5, c6a, c6.2, zts, ztf, cls, clf, f1, q1]
                    · simp (decide := true) only [f_X10_derive, p_isIn, p_in, zbE, zjE, ite_true, ite_false, and_self, hin', c1, c2, c3, c4, c5, c6, zts, ztf, cls, clf, f2, q2, e]
                  · obtain ⟨j1, j2, j3⟩ := Rs1_ne hrf
                    obtain ⟨k, L, ug, hh, hk, r1, r2, r3, r4, r5, r6, r7, r8, r9, r10, r11, r12, r13, r14, r15, r16⟩ := hrf
                    rcases hs s hs16 with ⟨q1, q2⟩ | hrs
                    · have q3 : kind s ≤ 0 := by rw [q2]; decide
                      by_cases hk2 : k = 2
                      · subst hk2
                        have e2c : kd f = 2 := r1
                        have e2m : kind f = 2 := r2
                        by_cases c7 : p3 = 1 → p5 = 16 ∨ p5 = 32
                        · have c8 := eq_true c7
                          by_cases c9 : nI ug &&& 8 = 0
                          · skip
                            refine flat (-6) (by decide) ?_ (fun mc' e => ?_)
                            · simp (decide := true) only [f_X9_deriveRefusal, p_logged, p_isSlot, p_isKind, p_isUsage, p_isKeyLength, p_empty, p_allows, zbE, ite_true, ite_false, and_self, hin', c1, c2, c3, c4, c5, c6a, c6.2, zts, ztf, cls, clf, f1, j1, q1, p_lengthFits _ _ c5, e2c, c8, r8, c9]
                            · simp (decide := true) only [f_X10_derive, p_isIn, p_in, zbE, zjE, ite_true, ite_false, and_self, hin', c1, c2, c3, c4, c5, c6, zts, ztf, cls, clf, f2, j2, q3, p_isKey _ _ c5, e2m, c8, r9, c9, e]
                          · by_cases c10 : uses f = 0
                            · skip
                              refine flat (-7) (by decide) ?_ (fun mc' e => ?_)
                              · simp (decide := true) only [f_X9_deriveRefusal, p_logged, p_isSlot, p_isKind, p_isUsage, p_isKeyLength, p_empty, p_allows, zbE, ite_true, ite_false, and_self, hin', c1, c2, c3, c4, c5, c6a, c6.2, zts, ztf, cls, clf, f1, j1, q1, p_lengthFits _ _ c5, e2c, c8, r8, c9, r14, c10]
                              · simp (decide := true) only [f_X10_derive, p_isIn, p_in, zbE, zjE, ite_true, ite_false, and_self, hin', c1, c2, c3, c4, c5, c6, zts, ztf, cls, clf, f2, j2, q3, p_isKey _ _ c5, e2m, c8, r9, c9, c10, e]
                            · obtain ⟨cc', mc', e3, e4, g3⟩ := p_counted 0 hc
                              have hsf : s ≠ f := fun q => j1 (by rw [← q]; exact q1)
                              have h0 : (0 : Int32) ≤ p5 := Int32.le_trans (by decide) c5.1
                              obtain ⟨n, hn, rfl⟩ := in_nat (b := 64) (by omega) h0 c5.2
                              have hn1 : 1 ≤ n := (nI_leI (a := 1) (by omega) (by omega)).mp c5.1
                              obtain ⟨m, hm, rfl⟩ := in_nat (b := 64) (by omega) c6.1 c6.2
                              obtain ⟨ug2, hug, rfl⟩ := in_nat (b := 63) (by omega) c4.1 c4.2
                              obtain ⟨k3, hk3, rfl, hkn⟩ : ∃ k3, (k3 = 1 ∨ k3 = 2) ∧ p3 = nI k3 ∧ (k3 = 1 → n = 16 ∨ n = 32) := by
                                rcases in12 c3 with rfl | rfl
                                · exact ⟨1, Or.inl rfl, rfl, fun _ => (c7 rfl).imp (fun q => (nI_eq (b := 16) (by omega) (by omega)).mp q) (fun q => (nI_eq (b := 32) (by omega) (by omega)).mp q)⟩
                                · exact ⟨2, Or.inr rfl, rfl, fun q => absurd q (by omega)⟩
                              obtain ⟨ue1, uses1, u1, u2, u3, u4⟩ := p_use hf16 r14
                              obtain ⟨ms', sec', fl', tot', inn', sc', su', ed, gd⟩ := c_derive (j := f) (n := n) (m := m) (L := L) (ln := ln) (ky := ky) hb r3 r6 r15 r16 hn hm ms sec fl tot inn sc su
                              obtain ⟨ho1, ho2⟩ := st_role hin
                              have ef : f_X8_fill 80 s (nI k3) (nI ug2) (nI (st - 2)) (-1 : Int32) (0 : Int32) (nI n) sec' kd ln ro us ue1 ky = some (upd kd s (nI k3), upd ln s (nI n), upd ro s (nI (st - 2)), upd us s (nI ug2), upd ue1 s (-1), va_up ky s (zrow 0 n (fun t => sec' (0 + t)) (ky s))) := p_fill (a := 0) (by omega) hn (by omega) (fun i hi => by rw [Nat.zero_add, gd i hi]; exact RB_fit (n := 1) (m := fun _ => dvD L (fun i => keys (64 * f + i)) mb m i) (fun _ _ => rfl) (j := 0) (by omega))
                              have hrs' := Rsl_fill (f := fun t => sec' (0 + t)) (d := dvD L (fun i => keys (64 * f + i)) mb m) (e := (-1 : Int32)) (hh := st - 2) (Rsl_use hs u3 u4) hs16 hk3 hn1 hn hkn (show ug2 < 64 by omega) (by omega) (fun i hi => by rw [Nat.zero_add]; exact gd i hi) (fun i _ => dvD_u L _ mb m i)
                              have eref : f_X9_deriveRefusal (nI s) (nI f) (nI k3) (nI ug2) (nI n) (nI m) (nI st) kd ro us ue = some 0 := by
                                simp (decide := true) only [f_X9_deriveRefusal, p_logged, p_isSlot, p_isKind, p_isUsage, p_isKeyLength, p_empty, p_allows, zbE, ite_true, ite_false, and_self, hin', c1, c2, c3, c4, c5, c6a, c6.2, zts, ztf, cls, clf, f1, j1, q1, p_lengthFits _ _ c5, e2c, c8, r8, c9, r14, c10]
                              have emod : ∃ (scs' : Int32) (mt' : Int64) (dg' h' inm' msg' msec' w' x' : Rw), f_X10_derive (nI s) (nI f) (nI k3) (nI ug2) (nI n) (nI m) scs (nI st) thr mt RO ST mb mc dg h holder inm keys kind len msg msec usage uses w x = some (0, scs', 0, mt', mc', dg', h', upd holder s (nI (st - 2)), inm', zrow (64 * s) n (dvD L (fun i => keys (64 * f + i)) mb m) keys, upd kind s (nI k3), upd len s (nI n), msg', msec', upd usage s (nI ug2), upd uses1 s (-1), w', x') := by
                                simp (decide := true) only [f_X10_derive, p_isIn, p_in, zbE, zjE, ite_true, ite_false, and_self, hin', c1, c2, c3, c4, c5, c6, zts, ztf, cls, clf, f2, j2, q3, p_isKey _ _ c5, e2m, c8, r9, c9, c10, u2]
                                refine l_derive208 ht.1 ht.2.1 hs16 hf16 hsf hn hm (fun j hj => hb.2 j (by omega)) r4 r6 r16 _ (fun o => ∃ (scs' : Int32) (mt' : Int64) (dg' h' inm' msg' msec' w' x' : Rw), o = some (0, scs', 0, mt', mc', dg', h', upd holder s (nI (st - 2)), inm', zrow (64 * s) n (dvD L (fun i => keys (64 * f + i)) mb m) keys, upd kind s (nI k3), upd len s (nI n), msg', msec', upd usage s (nI ug2), upd uses1 s (-1), w', x')) dg h inm msg msec scs mt w x ?_
                                intro dg' h' inm' msg' msec' scs' mt' w' x'
                                simp only [ho2, p_mfill hs16, zbE, e4]
                                exact ⟨_, _, _, _, _, _, _, _, _, rfl⟩
                              obtain ⟨scs', mt', dg', h', inm', msg', msec', w', x', em⟩ := emod
                              refine ⟨0, fl', tot', scs', mt', cc', mc', ms', zrow 0 80 (fun _ => 0) sec', inn', sc', su', _, _, _, _, _, _, _, _, _, _, _, _, dg', h', inm', msg', msec', w', x', ?_, em, g3, hrs'⟩
                              simp (decide := true) only [f_X9_derive, f_X9_forgetSecret, eref, zbE, zts, ztf, cls, clf, u1, ed, ho1, ef, p_J7_fillB (N := 80) 0 sec' (by decide) (by omega), ite_true, e3]
                        · skip
                          refine flat (-5) (by decide) ?_ (fun mc' e => ?_)
                          · simp (decide := true) only [f_X9_deriveRefusal, p_logged, p_isSlot, p_isKind, p_isUsage, p_isKeyLength, p_empty, p_allows, zbE, ite_true, ite_false, and_self, hin', c1, c2, c3, c4, c5, c6a, c6.2, zts, ztf, cls, clf, f1, j1, q1, p_lengthFits _ _ c5, e2c, c7]
                          · simp (decide := true) only [f_X10_derive, p_isIn, p_in, zbE, zjE, ite_true, ite_false, and_self, hin', c1, c2, c3, c4, c5, c6, zts, ztf, cls, clf, f2, j2, q3, p_isKey _ _ c5, e2m, c7, e]
                      · have e2c : ¬ kd f = 2 := by rw [r1]; exact fun q => hk2 ((nI_eq (b := 2) (by omega) (by omega)).mp q)
                        have e2m : ¬ kind f = 2 := by rw [r2]; exact fun q => hk2 ((nI_eq (b := 2) (by omega) (by omega)).mp q)
                        refine flat (-5) (by decide) ?_ (fun mc' e => ?_)
                        · simp (decide := true) only [f_X9_deriveRefusal, p_logged, p_isSlot, p_isKind, p_isUsage, p_isKeyLength, p_empty, p_allows, zbE, ite_true, ite_false, and_self, hin', c1, c2, c3, c4, c5, c6a, c6.2, zts, ztf, cls, clf, f1, j1, q1, e2c]
                        · simp (decide := true) only [f_X10_derive, p_isIn, p_in, zbE, zjE, ite_true, ite_false, and_self, hin', c1, c2, c3, c4, c5, c6, zts, ztf, cls, clf, f2, j2, q3, e2m, e]
                    · obtain ⟨i1, i2, i3⟩ := Rs1_ne hrs
                      refine flat (-4) (by decide) ?_ (fun mc' e => ?_)
                      · simp (decide := true) only [f_X9_deriveRefusal, p_logged, p_isSlot, p_isKind, p_isUsage, p_isKeyLength, p_empty, p_allows, zbE, ite_true, ite_false, and_self, hin', c1, c2, c3, c4, c5, c6a, c6.2, zts, ztf, cls, clf, f1, j1, i1]
                      · simp (decide := true) only [f_X10_derive, p_isIn, p_in, zbE, zjE, ite_true, ite_false, and_self, hin', c1, c2, c3, c4, c5, c6, zts, ztf, cls, clf, f2, j2, i3, e]
                · skip
                  refine flat (-3) (by decide) ?_ (fun mc' e => ?_)
                  · simp (decide := true) only [f_X9_deriveRefusal, p_logged, p_isSlot, p_isKind, p_isUsage, p_isKeyLength, p_empty, p_allows, zbE, ite_true, ite_false, and_self, hin', c1, c2, c3, c4, c5, c6a, c6.2, zts, ztf, cls, clf, f1]
                  · simp (decide := true) only [f_X10_derive, p_isIn, p_in, zbE, zjE, ite_true, ite_false, and_self, hin', c1, c2, c3, c4, c5, c6, zts, ztf, cls, clf, f2, e]
              · refine flat (-2) (by decide) ?_ (fun mc' e => ?_)
                · by_cases c6a : p6 < 0
                  · simp (decide := true) only [f_X9_deriveRefusal, p_logged, p_isSlot, p_isKind, p_isUsage, p_isKeyLength, p_empty, p_allows, zbE, ite_true, ite_false, and_self, hin', c1, c2, c3, c4, c5, c6a]
                  · have c6b : ¬ p6 ≤ 64 := fun q => c6 ⟨Int32.not_lt.mp c6a, q⟩
                    simp (decide := true) only [f_X9_deriveRefusal, p_logged, p_isSlot, p_isKind, p_isUsage, p_isKeyLength, p_empty, p_allows, zbE, ite_true, ite_false, and_self, hin', c1, c2, c3, c4, c5, c6a, c6b]
                · simp (decide := true) only [f_X10_derive, p_isIn, p_in, zbE, zjE, ite_true, ite_false, and_self, hin', c1, c2, c3, c4, c5, c6, e]
            · skip
              refine flat (-2) (by decide) ?_ (fun mc' e => ?_)
              · simp (decide := true) only [f_X9_deriveRefusal, p_logged, p_isSlot, p_isKind, p_isUsage, p_isKeyLength, p_empty, p_allows, zbE, ite_true, ite_false, and_self, hin', c1, c2, c3, c4, c5]
              · simp (decide := true) only [f_X10_derive, p_isIn, p_in, zbE, zjE, ite_true, ite_false, and_self, hin', c1, c2, c3, c4, c5, e]
          · skip
            refine flat (-2) (by decide) ?_ (fun mc' e => ?_)
            · simp (decide := true) only [f_X9_deriveRefusal, p_logged, p_isSlot, p_isKind, p_isUsage, p_isKeyLength, p_empty, p_allows, zbE, ite_true, ite_false, and_self, hin', c1, c2, c3, c4]
            · simp (decide := true) only [f_X10_derive, p_isIn, p_in, zbE, zjE, ite_true, ite_false, and_self, hin', c1, c2, c3, c4, e]
        · skip
          refine flat (-2) (by decide) ?_ (fun mc' e => ?_)
          · simp (decide := true) only [f_X9_deriveRefusal, p_logged, p_isSlot, p_isKind, p_isUsage, p_isKeyLength, p_empty, p_allows, zbE, ite_true, ite_false, and_self, hin', c1, c2, c3]
          · simp (decide := true) only [f_X10_derive, p_isIn, p_in, zbE, zjE, ite_true, ite_false, and_self, hin', c1, c2, c3, e]
      · skip
        refine flat (-2) (by decide) ?_ (fun mc' e => ?_)
        · simp (decide := true) only [f_X9_deriveRefusal, p_logged, p_isSlot, p_isKind, p_isUsage, p_isKeyLength, p_empty, p_allows, zbE, ite_true, ite_false, and_self, hin', c1, c2]
        · simp (decide := true) only [f_X10_derive, p_isIn, p_in, zbE, zjE, ite_true, ite_false, and_self, hin', c1, c2, e]
    · refine flat (-2) (by decide) ?_ (fun mc' e => ?_)
      · simp (decide := true) only [f_X9_deriveRefusal, p_logged, p_isSlot, p_isKind, p_isUsage, p_isKeyLength, p_empty, p_allows, zbE, ite_true, ite_false, and_self, hin', c1]
      · unfold f_X10_derive
        rw [p_isIn, zbE, if_pos hin', if_neg (by decide), p_in, zbE, if_neg c1, zjE, zjE, if_pos rfl]
        dsimp only
        rw [if_pos rfl, e, zbE]
  · have hin' : ¬ (nI st = 3 ∨ nI st = 4) := fun q => hin ((in34 hst).mp q)
    refine flat (-1) (by decide) ?_ (fun mc' e => ?_)
    · simp (decide := true) only [f_X9_deriveRefusal, p_logged, p_isSlot, p_isKind, p_isUsage, p_isKeyLength, p_empty, p_allows, zbE, ite_true, ite_false, and_self, hin']
    · unfold f_X10_derive
      rw [p_isIn, zbE, if_neg hin', if_pos rfl, e, zbE]
