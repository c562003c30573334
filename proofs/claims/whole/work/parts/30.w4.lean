/-! the method unwrap, alike -/
set_option maxHeartbeats 8000000 in
theorem q_unwrap {st : Nat} {p1 p2 p3 rd mrd thr : Int32} {akeys cb cc bl sec kd ln us ro ue : Rw} {ky : Nat → Rw} {RO ST bx bk mbl mb mc holder keys kind len o re rn usage uses : Rw} (hst : st ≤ 5) (ht : Rtb RO ST bx bk) (hb : Rb cb mb) (hc : Rcn cc mc) (hs : Rsl kd ln us ro ue ky kind len usage holder uses keys) :
    ∃ (r rd' mrd' : Int32) (akeys' bl' cc' sec' kd' ln' us' ro' ue' : Rw) (ky' : Nat → Rw) (mbl' mc' holder' keys' kind' len' o' re' rn' usage' uses' : Rw), f_X9_unwrap p1 p2 p3 (nI st) rd akeys cb cc bl sec kd ln ro us ue ky = some (r, rd', akeys', cc', bl', sec', kd', ln', ro', us', ue', ky') ∧ f_X10_unwrap p1 p2 p3 mrd (nI st) thr bk mbl bx mb mc holder keys kind len o re rn usage uses = some (r, mrd', 0, mbl', mc', holder', keys', kind', len', o', re', rn', usage', uses') ∧ Rcn cc' mc' ∧ Rsl kd' ln' us' ro' ue' ky' kind' len' usage' holder' uses' keys' := by
  have flat : ∀ a : Int32, f_X9_unwrapAnswer p1 p2 p3 (nI st) rd akeys cb bl sec kd ln ro us ue ky = some (a, rd, akeys, bl, sec, kd, ln, ro, us, ue, ky) → (∀ mc', f_X10_answer a mc = some (a, mc') → f_X10_unwrap p1 p2 p3 mrd (nI st) thr bk mbl bx mb mc holder keys kind len o re rn usage uses = some (a, mrd, 0, mbl, mc', holder, keys, kind, len, o, re, rn, usage, uses)) → ∃ (r rd' mrd' : Int32) (akeys' bl' cc' sec' kd' ln' us' ro' ue' : Rw) (ky' : Nat → Rw) (mbl' mc' holder' keys' kind' len' o' re' rn' usage' uses' : Rw), f_X9_unwrap p1 p2 p3 (nI st) rd akeys cb cc bl sec kd ln ro us ue ky = some (r, rd', akeys', cc', bl', sec', kd', ln', ro', us', ue', ky') ∧ f_X10_unwrap p1 p2 p3 mrd (nI st) thr bk mbl bx mb mc holder keys kind len o re rn usage uses = some (r, mrd', 0, mbl', mc', holder', keys', kind', len', o', re', rn', usage', uses') ∧ Rcn cc' mc' ∧ Rsl kd' ln' us' ro' ue' ky' kind' len' usage' holder' uses' keys' := by
    intro a h1 h2
    obtain ⟨cc', mc', e3, e4, g3⟩ := p_counted a hc
    refine ⟨a, rd, mrd, akeys, bl, cc', sec, kd, ln, us, ro, ue, ky, mbl, mc', holder, keys, kind, len, o, re, rn, usage, uses, ?_, h2 mc' e4, g3, hs⟩
    simp only [f_X9_unwrap, h1, zbE, e3]
  by_cases hin : st = 3 ∨ st = 4
  · have hin' : nI st = 3 ∨ nI st = 4 := (in34 hst).mpr hin
    by_cases c1 : 0 ≤ p1 ∧ p1 ≤ 15
    · by_cases c2 : 0 ≤ p2 ∧ p2 ≤ 15
      · by_cases c3 : 24 ≤ p3 ∧ p3 ≤ 80
        · have c3a : ¬ p3 < 24 := Int32.not_lt.mpr c3.1
          have c3b : ¬ 80 < p3 := Int32.not_lt.mpr c3.2
          obtain ⟨s, hs16, rfl⟩ := in16 c1
          obtain ⟨f, hf16, rfl⟩ := in16 c2
          obtain ⟨q, hq, rfl⟩ := in_nat (b := 80) (by omega) (Int32.le_trans (by decide) c3.1) c3.2
          have hq24 : 24 ≤ q := (nI_leI (a := 24) (b := q) (by omega) (by omega)).mp c3.1
          have zts : ∀ {α : Type} {d : Decidable (¬ (nI s < 0 ∨ 16 ≤ s))} (x : Option α), @zk α (¬ (nI s < 0 ∨ 16 ≤ s)) d x = x := fun x => zki hs16 (by omega) x
          have cls : (nI s).toNatClampNeg = s := nI_clamp (by omega)
          have ztf : ∀ {α : Type} {d : Decidable (¬ (nI f < 0 ∨ 16 ≤ f))} (x : Option α), @zk α (¬ (nI f < 0 ∨ 16 ≤ f)) d x = x := fun x => zki hf16 (by omega) x
          have clf : (nI f).toNatClampNeg = f := nI_clamp (by omega)
          have em : nI q - nI q / (8 : Int32) * (8 : Int32) = nI (q % 8) := nI_mod (n := 8) (by omega) (by omega) (by omega)
          by_cases hq8 : q % 8 = 0
          · have em0 : nI (q % 8) = 0 := by rw [hq8]; rfl
            have em1 : nI (q % 8) ≤ 0 := by rw [hq8]; decide
            obtain ⟨o2, f3, f4, ho2⟩ := p_foreign hin hs hf16
            rcases ho2 with rfl | rfl
            · rcases hs f hf16 with ⟨q1, q2⟩ | hrf
              · by_cases qs : kd s = 0
                · skip
                  refine flat (-4) ?_ (fun mc' e => ?_)
                  · simp (decide := true) only [f_X9_unwrapAnswer, f_X9_keyRefusal, p_logged, p_isSlot, p_empty, p_allows, zbE, ite_true, ite_false, and_self, zkT1, hin', c1, c2, c3a, c3b, zts, ztf, cls, clf, em, em0, f3, q1, qs]
                  · simp (decide := true) only [f_X10_unwrap, p_isIn, p_in, zbE, zjE, ite_true, ite_false, and_self, zkT1, hin', c1, c2, c3, zts, ztf, cls, clf, em, em1, f4, q2, e]
                · skip
                  refine flat (-4) ?_ (fun mc' e => ?_)
                  · simp (decide := true) only [f_X9_unwrapAnswer, f_X9_keyRefusal, p_logged, p_isSlot, p_empty, p_allows, zbE, ite_true, ite_false, and_self, zkT1, hin', c1, c2, c3a, c3b, zts, ztf, cls, clf, em, em0, f3, q1, qs]
                  · simp (decide := true) only [f_X10_unwrap, p_isIn, p_in, zbE, zjE, ite_true, ite_false, and_self, zkT1, hin', c1, c2, c3, zts, ztf, cls, clf, em, em1, f4, q2, e]
              · obtain ⟨j1, j2, j3⟩ := Rs1_ne hrf
                rcases hs s hs16 with ⟨q1, q2⟩ | hrs
                · have q3 : kind s ≤ 0 := by rw [q2]; decide
                  obtain ⟨k2, L2, ug2, hh2, hk2, t1, t2, t3, t4, t5, t6, t7, t8, t9, t10, t11, t12, t13, t14, t15, t16⟩ := hrf
                  by_cases hk1 : k2 = 1
                  · subst hk1
                    have e1c : kd f = 1 := t1
                    have e1m : kind f = 1 := t2
                    by_cases c4 : nI ug2 &&& 16 = 0
                    · skip
                      refine flat (-6) ?_ (fun mc' e => ?_)
                      · simp (decide := true) only [f_X9_unwrapAnswer, f_X9_keyRefusal, p_logged, p_isSlot, p_empty, p_allows, zbE, ite_true, ite_false, and_self, zkT1, hin', c1, c2, c3a, c3b, zts, ztf, cls, clf, em, em0, f3, j1, q1, e1c, t8, c4]
                      · simp (decide := true) only [f_X10_unwrap, p_isIn, p_in, zbE, zjE, ite_true, ite_false, and_self, zkT1, hin', c1, c2, c3, zts, ztf, cls, clf, em, em1, f4, j2, q3, e1m, t9, c4, e]
                    · by_cases c7 : uses f = 0
                      · skip
                        refine flat (-7) ?_ (fun mc' e => ?_)
                        · simp (decide := true) only [f_X9_unwrapAnswer, f_X9_keyRefusal, p_logged, p_isSlot, p_empty, p_allows, zbE, ite_true, ite_false, and_self, zkT1, hin', c1, c2, c3a, c3b, zts, ztf, cls, clf, em, em0, f3, j1, q1, e1c, t8, c4, t14, c7]
                        · simp (decide := true) only [f_X10_unwrap, p_isIn, p_in, zbE, zjE, ite_true, ite_false, and_self, zkT1, hin', c1, c2, c3, zts, ztf, cls, clf, em, em1, f4, j2, q3, e1m, t9, c4, c7, e]
                      · obtain ⟨n, hn⟩ : ∃ n, q = 8 + 8 * n := ⟨q / 8 - 1, by omega⟩
                        subst hn
                        obtain ⟨ue1, uses1, u1, u2, u3, u4⟩ := p_use hf16 t14
                        have hrs' := Rsl_use hs u3 u4
                        obtain ⟨R, ak', rn', hR1, hR2, ek, es, gk, uk⟩ := p_keys hf16 t3 t4 (t7 rfl) t15 t16 ht.2.2.1 rd mrd akeys rn
                        obtain ⟨secA, hsecA⟩ : ∃ x, x = zrow 0 (8 + 8 * n) (fun t => cb (0 + t)) sec := ⟨_, rfl⟩
                        have hM : RB (8 + 8 * n) secA mb := fun j hj => by rw [hsecA, zrow_0 hj, Nat.zero_add]; exact hb.1 j (by omega)
                        have uM : isU8 mb (8 + 8 * n) := fun j hj => hb.2 j (by omega)
                        obtain ⟨r5, bl', secC, ew, gw, hr5⟩ := p_X4_wrapOut (N := 80) (n := n) (M := mb) (c := secA) bl (by omega) (by omega) (by omega) (by omega) hM uM hR1 hR2 gk uk
                        have uV := wV_u (fun s hs => aesD_u (R := R) hs uk) (show 0 < n by omega) (show n ≤ 9 by omega) uM (6 * n)
                        obtain ⟨V, hV⟩ : ∃ V, V = wV (aesD rn' R) n mb (6 * n) := ⟨_, rfl⟩
                        rw [← hV] at gw hr5 uV
                        obtain ⟨L, hL⟩ : ∃ L, 8 + 8 * n = 16 + L := ⟨8 * n - 8, by omega⟩
                        obtain ⟨r6, eh, hr6⟩ := p_head (L := L) (c := secC) (V := V) (fun j h8 hj => gw j h8 (by omega)) (fun j hj => uV j (by omega)) (by omega) (by omega)
                        have e16 : nI (8 + 8 * n) - (16 : Int32) = nI L := by rw [zS (by omega), hL, Nat.add_sub_cancel_left]
                        have key : ∀ m, f_X10_isKey m (nI L) = some (if (m = 1 → nI L = 16 ∨ nI L = 32) then 1 else 0) := fun m => p_isKey m (nI L) ⟨nI_le (a := 1) (by omega) (by omega), nI_le (b := 64) (by omega) (by omega)⟩
                        obtain ⟨er1, er2⟩ := st_role hin
                        have eans : ∀ X, f_X9_unwrapBytes s f (nI (8 + 8 * n)) (nI st) rd akeys cb bl sec kd ln ro us ue ky = some X → f_X9_unwrapAnswer (nI s) (nI f) (nI (8 + 8 * n)) (nI st) rd akeys cb bl sec kd ln ro us ue ky = some X := by
                          rintro ⟨x1, x2, x3, x4, x5, x6, x7, x8, x9, x10, x11⟩ hX
                          simp (decide := true) only [f_X9_unwrapAnswer, f_X9_keyRefusal, p_logged, p_isSlot, p_empty, p_allows, zbE, ite_true, ite_false, and_self, zkT1, hin', c1, c2, c3a, c3b, zts, ztf, cls, clf, em, em0, f3, j1, q1, e1c, t8, c4, t14, c7, hX]
                        have efg : ∀ x, f_X9_forgetSecret x = some (zrow 0 80 (fun _ => 0) x) := fun x => by
                          unfold f_X9_forgetSecret
                          rw [p_J7_fillB (N := 80) 0 x (by decide) (by omega), zbE]
                        have e8 : Int32.toNatClampNeg 8 = 8 := by decide
                        have e9 : Int32.toNatClampNeg 9 = 9 := by decide
                        by_cases H : (∀ i, i < 8 → V i = 166) ∧ hdP V L
                        · obtain ⟨H1, H2, H3, H4⟩ := H
                          have hr5' : r5 = 1 := by
                            rcases hr5 with ⟨x, -⟩ | ⟨-, x⟩
                            · exact x
                            · exact absurd H1 x
                          have hr6' : r6 = 1 := by
                            rcases hr6 with ⟨x, -⟩ | ⟨-, x⟩
                            · exact x
                            · exact absurd ⟨H2, H3, H4⟩ x
                          subst hr5' hr6'
                          obtain ⟨k8, hk8, v8⟩ : ∃ k, (k = 1 ∨ k = 2) ∧ V 8 = nI k := by
                            rcases in12 H4.1 with x | x
                            · exact ⟨1, Or.inl rfl, x⟩
                            · exact ⟨2, Or.inr rfl, x⟩
                          obtain ⟨g9, hg9, v9⟩ : ∃ g, g < 64 ∧ V 9 = nI g := by
                            obtain ⟨g, hg, x⟩ := uNat (uV 9 (by omega))
                            refine ⟨g, ?_, x⟩
                            have y := H4.2.1
                            rw [x] at y
                            exact (nI_ltI (a := g) (b := 64) (by omega) (by omega)).mp y
                          have s8 : secC 8 = nI k8 := by
                            rw [gw 8 (by omega) (by omega), (hd_u uV (show 8 < 8 + 8 * n by omega)).2.2.2.1 H4.1, v8]
                          have s9 : secC 9 = nI g9 := by
                            rw [gw 9 (by omega) (by omega), (hd_u uV (show 9 < 8 + 8 * n by omega)).2.2.1 H4.2.1, v9]
                          have hkn : k8 = 1 → L = 16 ∨ L = 32 := by
                            intro x
                            have y := H3 (by rw [v8, x]; rfl)
                            rcases y with y | y
                            · exact Or.inl ((nI_eq (b := 16) (by omega) (by omega)).mp y)
                            · exact Or.inr ((nI_eq (b := 32) (by omega) (by omega)).mp y)
                          have efill : f_X8_fill 80 s (nI k8) (nI g9) (nI (st - 2)) (-1 : Int32) (16 : Int32) (nI L) secC kd ln ro us ue1 ky = some (upd kd s (nI k8), upd ln s (nI L), upd ro s (nI (st - 2)), upd us s (nI g9), upd ue1 s (-1), va_up ky s (zrow 0 L (fun t => secC (16 + t)) (ky s))) := p_fill (a := 16) (by omega) (by omega) (by omega) (fun i hi => RB_fit (n := 1) (c := fun _ => secC (16 + i)) (m := fun _ => V (16 + i)) (fun _ _ => gw _ (by omega) (by omega)) (j := 0) (by omega))
                          have eby : f_X9_unwrapBytes s f (nI (8 + 8 * n)) (nI st) rd akeys cb bl sec kd ln ro us ue ky = some (0, nI R, ak', bl', zrow 0 80 (fun _ => 0) secC, upd kd s (nI k8), upd ln s (nI L), upd ro s (nI (st - 2)), upd us s (nI g9), upd ue1 s (-1), va_up ky s (zrow 0 L (fun t => secC (16 + t)) (ky s))) := by
                            unfold f_X9_unwrapBytes
                            rw [u1, zbE]
                            simp (disch := omega) only [zCl, zClk]
                            rw [zk_T ⟨by decide, by decide, nI_pos (by omega), by omega, by omega, fun i hi => by rw [Nat.zero_add]; exact RB_fit hb.1 (by omega)⟩, znE, cpE, ← hsecA, ek, zbE]
                            simp only [ew, zbE, zjE, e16, eh]
                            simp (decide := true) only [ite_false, zkT1, er1, zbE, s8, s9, efill, efg]
                          obtain ⟨cc', mc', e3, e4, g3⟩ := p_counted 0 hc
                          have hfin := Rsl_fill (s := s) (k := k8) (n := L) (ug := g9) (hh := st - 2) (e := -1) (f := fun t => secC (16 + t)) (d := fun i => V (16 + i)) hrs' hs16 hk8 (by omega) (by omega) hkn hg9 (by omega) (fun i hi => gw _ (by omega) (by omega)) (fun i hi => uV _ (by omega))
                          have emod : ∃ (mbl' o' re' : Rw), f_X10_unwrap (nI s) (nI f) (nI (8 + 8 * n)) mrd (nI st) thr bk mbl bx mb mc holder keys kind len o re rn usage uses = some (0, nI R, 0, mbl', mc', upd holder s (nI (st - 2)), zrow (64 * s) L (fun i => V (16 + i)) keys, upd kind s (nI k8), upd len s (nI L), o', re', rn', upd usage s (nI g9), upd uses1 s (-1)) := by
                            unfold f_X10_unwrap
                            rw [p_isIn, zbE, if_pos hin', if_neg (by decide), p_in (nI s) 0 15, zbE, if_pos c1, if_neg (by decide), p_in (nI f) 0 15, zbE, if_pos c2, if_neg (by decide), p_in (nI (8 + 8 * n)) 24 80, zbE, if_pos c3, if_neg (by decide), zk_T (by decide), em, if_pos em1, f4, zbE, if_pos rfl, clf, cls, ztf, if_neg j2, zts, if_pos q3, ztf, if_pos e1m, ztf, t9, if_neg c4, ztf, if_neg c7, u2, zbE, zk_T (by decide), zDv (by omega) (by decide) (by decide), znE, zjE, l_unwrap171 _ _ _ (by omega), show (8 + 8 * n) / 8 = n + 1 by omega, zS (by omega), es, zbE, Nat.add_sub_cancel]
                            dsimp only
                            rw [zM, znE, zjE]
                            refine l_unwrap209 (M := mb) mbl o _ (fun q => ∃ (mbl' o' re' : Rw), q = some (0, nI R, 0, mbl', mc', upd holder s (nI (st - 2)), zrow (64 * s) L (fun i => V (16 + i)) keys, upd kind s (nI k8), upd len s (nI L), o', re', rn', upd usage s (nI g9), upd uses1 s (-1))) (by omega) (by omega) (fun j hj => zrow_0 hj) uM ht.2.2.2 uk hR1 hR2 ?_
                            intro mbl' o' re' hre'
                            rw [← hV] at hre'
                            refine l_unwrapV (V := V) _ (fun q => ∃ (mbl' o' re' : Rw), q = some (0, nI R, 0, mbl', mc', upd holder s (nI (st - 2)), zrow (64 * s) L (fun i => V (16 + i)) keys, upd kind s (nI k8), upd len s (nI L), o', re', rn', upd usage s (nI g9), upd uses1 s (-1))) (fun j hj => hre' j (by omega)) (fun j hj => uV j (by omega)) ?_
                            intro b hbb
                            have hb1 : b = 1 := by
                              rcases hbb with ⟨x, -⟩ | ⟨-, x⟩
                              · exact x
                              · exact absurd H4 x
                            subst hb1
                            refine l_unwrap421 (V := V) _ (fun q => ∃ (mbl' o' re' : Rw), q = some (0, nI R, 0, mbl', mc', upd holder s (nI (st - 2)), zrow (64 * s) L (fun i => V (16 + i)) keys, upd kind s (nI k8), upd len s (nI L), o', re', rn', upd usage s (nI g9), upd uses1 s (-1))) (fun j hj => hre' j (by omega)) (Or.inr rfl) ?_
                            intro r hrr
                            have hr1 : r = 1 := by
                              rcases hrr with ⟨x, -⟩ | ⟨-, x⟩
                              · exact x
                              · exact absurd ⟨rfl, H1, H2⟩ x
                            subst hr1
                            have H3' := eq_true (show (V 8 = 1 → nI L = 16 ∨ nI L = 32) from H3)
                            have r8 : re' 8 = V 8 := hre' 8 (by omega)
                            have r9 : re' 9 = nI g9 := (hre' 9 (by omega)).trans v9
                            simp (decide := true) only [ite_true, ite_false, zkT1, e8, e9, r8, r9, e16, key, zbE, H3', er2, p_mfill hs16]
                            rw [zjE, hL, l_unwrap538 _ _ _ hs16 (by omega), e4, zbE, v8]
                            refine ⟨mbl', o', re', ?_⟩
                            rw [zrow_congr (g := fun i => re' (16 + i)) (k := fun i => V (16 + i)) (fun j hj => hre' _ (by omega))]
                          obtain ⟨mbl', o', re', em1'⟩ := emod
                          refine ⟨0, nI R, nI R, ak', bl', cc', zrow 0 80 (fun _ => 0) secC, upd kd s (nI k8), upd ln s (nI L), upd us s (nI g9), upd ro s (nI (st - 2)), upd ue1 s (-1), va_up ky s (zrow 0 L (fun t => secC (16 + t)) (ky s)), mbl', mc', upd holder s (nI (st - 2)), zrow (64 * s) L (fun i => V (16 + i)) keys, upd kind s (nI k8), upd len s (nI L), o', re', rn', upd usage s (nI g9), upd uses1 s (-1), ?_, em1', g3, hfin⟩
                          simp only [f_X9_unwrap, eans _ eby, zbE, e3]
                        · have eby : f_X9_unwrapBytes s f (nI (8 + 8 * n)) (nI st) rd akeys cb bl sec kd ln ro us ue ky = some (-9, nI R, ak', bl', zrow 0 80 (fun _ => 0) secC, kd, ln, ro, us, ue1, ky) := by
                            unfold f_X9_unwrapBytes
                            rw [u1, zbE]
                            simp (disch := omega) only [zCl, zClk]
                            rw [zk_T ⟨by decide, by decide, nI_pos (by omega), by omega, by omega, fun i hi => by rw [Nat.zero_add]; exact RB_fit hb.1 (by omega)⟩, znE, cpE, ← hsecA, ek, zbE]
                            simp only [ew, zbE, zjE, e16, eh]
                            rcases hr5 with ⟨rfl, x⟩ | ⟨rfl, x⟩
                            · rcases hr6 with ⟨rfl, y⟩ | ⟨rfl, y⟩
                              · exact absurd ⟨x, y⟩ H
                              · simp (decide := true) only [ite_true, ite_false, zbE, efg]
                            · simp (decide := true) only [ite_true, ite_false, zbE, efg]
                          obtain ⟨cc', mc', e3, e4, g3⟩ := p_counted (-9) hc
                          have emod : ∃ (mbl' o' re' : Rw), f_X10_unwrap (nI s) (nI f) (nI (8 + 8 * n)) mrd (nI st) thr bk mbl bx mb mc holder keys kind len o re rn usage uses = some (-9, nI R, 0, mbl', mc', holder, keys, kind, len, o', re', rn', usage, uses1) := by
                            unfold f_X10_unwrap
                            rw [p_isIn, zbE, if_pos hin', if_neg (by decide), p_in (nI s) 0 15, zbE, if_pos c1, if_neg (by decide), p_in (nI f) 0 15, zbE, if_pos c2, if_neg (by decide), p_in (nI (8 + 8 * n)) 24 80, zbE, if_pos c3, if_neg (by decide), zk_T (by decide), em, if_pos em1, f4, zbE, if_pos rfl, clf, cls, ztf, if_neg j2, zts, if_pos q3, ztf, if_pos e1m, ztf, t9, if_neg c4, ztf, if_neg c7, u2, zbE, zk_T (by decide), zDv (by omega) (by decide) (by decide), znE, zjE, l_unwrap171 _ _ _ (by omega), show (8 + 8 * n) / 8 = n + 1 by omega, zS (by omega), es, zbE, Nat.add_sub_cancel]
                            dsimp only
                            rw [zM, znE, zjE]
                            refine l_unwrap209 (M := mb) mbl o _ (fun q => ∃ (mbl' o' re' : Rw), q = some (-9, nI R, 0, mbl', mc', holder, keys, kind, len, o', re', rn', usage, uses1)) (by omega) (by omega) (fun j hj => zrow_0 hj) uM ht.2.2.2 uk hR1 hR2 ?_
                            intro mbl' o' re' hre'
                            rw [← hV] at hre'
                            refine l_unwrapV (V := V) _ (fun q => ∃ (mbl' o' re' : Rw), q = some (-9, nI R, 0, mbl', mc', holder, keys, kind, len, o', re', rn', usage, uses1)) (fun j hj => hre' j (by omega)) (fun j hj => uV j (by omega)) ?_
                            intro b hbb
                            refine l_unwrap421 (V := V) _ (fun q => ∃ (mbl' o' re' : Rw), q = some (-9, nI R, 0, mbl', mc', holder, keys, kind, len, o', re', rn', usage, uses1)) (fun j hj => hre' j (by omega)) (by rcases hbb with ⟨x, -⟩ | ⟨x, -⟩ <;> simp [x]) ?_
                            intro r hrr
                            have r8 : re' 8 = V 8 := hre' 8 (by omega)
                            rcases hrr with ⟨rfl, x2, x3, x4⟩ | ⟨rfl, x⟩
                            · have y4 : hd4 V := by
                                rcases hbb with ⟨-, y⟩ | ⟨y, -⟩
                                · exact y
                                · rw [x2] at y
                                  exact absurd y (by decide)
                              have H3' := eq_false (show ¬ (V 8 = 1 → nI L = 16 ∨ nI L = 32) from fun z => H ⟨x3, x4, z, y4⟩)
                              simp (decide := true) only [ite_true, ite_false, zkT1, e8, r8, e16, key, zbE, H3', e4]
                              exact ⟨mbl', o', re', rfl⟩
                            · simp (decide := true) only [ite_true, zbE, e4]
                              exact ⟨mbl', o', re', rfl⟩
                          obtain ⟨mbl', o', re', em1'⟩ := emod
                          refine ⟨-9, nI R, nI R, ak', bl', cc', zrow 0 80 (fun _ => 0) secC, kd, ln, us, ro, ue1, ky, mbl', mc', holder, keys, kind, len, o', re', rn', usage, uses1, ?_, em1', g3, hrs'⟩
                          simp only [f_X9_unwrap, eans _ eby, zbE, e3]
                  · have e1c : ¬ kd f = 1 := by rw [t1]; exact fun q => hk1 ((nI_eq (b := 1) (by omega) (by omega)).mp q)
                    have e1m : ¬ kind f = 1 := by rw [t2]; exact fun q => hk1 ((nI_eq (b := 1) (by omega) (by omega)).mp q)
                    refine flat (-5) ?_ (fun mc' e => ?_)
                    · simp (decide := true) only [f_X9_unwrapAnswer, f_X9_keyRefusal, p_logged, p_isSlot, p_empty, p_allows, zbE, ite_true, ite_false, and_self, zkT1, hin', c1, c2, c3a, c3b, zts, ztf, cls, clf, em, em0, f3, j1, q1, e1c]
                    · simp (decide := true) only [f_X10_unwrap, p_isIn, p_in, zbE, zjE, ite_true, ite_false, and_self, zkT1, hin', c1, c2, c3, zts, ztf, cls, clf, em, em1, f4, j2, q3, e1m, e]
                · obtain ⟨i1, i2, i3⟩ := Rs1_ne hrs
                  refine flat (-4) ?_ (fun mc' e => ?_)
                  · simp (decide := true) only [f_X9_unwrapAnswer, f_X9_keyRefusal, p_logged, p_isSlot, p_empty, p_allows, zbE, ite_true, ite_false, and_self, zkT1, hin', c1, c2, c3a, c3b, zts, ztf, cls, clf, em, em0, f3, i1]
                  · simp (decide := true) only [f_X10_unwrap, p_isIn, p_in, zbE, zjE, ite_true, ite_false, and_self, zkT1, hin', c1, c2, c3, zts, ztf, cls, clf, em, em1, f4, j2, i3, e]
            · skip
              refine flat (-3) ?_ (fun mc' e => ?_)
              · simp (decide := true) only [f_X9_unwrapAnswer, f_X9_keyRefusal, p_logged, p_isSlot, p_empty, p_allows, zbE, ite_true, ite_false, and_self, zkT1, hin', c1, c2, c3a, c3b, zts, ztf, cls, clf, em, em0, f3]
              · simp (decide := true) only [f_X10_unwrap, p_isIn, p_in, zbE, zjE, ite_true, ite_false, and_self, zkT1, hin', c1, c2, c3, zts, ztf, cls, clf, em, em1, f4, e]
          · have em0 : ¬ nI (q % 8) = 0 := fun x => hq8 ((nI_eq (b := 0) (by omega) (by omega)).mp x)
            have em1 : ¬ nI (q % 8) ≤ 0 := nI_nle (by omega) (by omega)
            refine flat (-2) ?_ (fun mc' e => ?_)
            · simp (decide := true) only [f_X9_unwrapAnswer, f_X9_keyRefusal, p_logged, p_isSlot, p_empty, p_allows, zbE, ite_true, ite_false, and_self, zkT1, hin', c1, c2, c3a, c3b, zts, ztf, cls, clf, em, em0]
            · simp (decide := true) only [f_X10_unwrap, p_isIn, p_in, zbE, zjE, ite_true, ite_false, and_self, zkT1, hin', c1, c2, c3, zts, ztf, cls, clf, em, em1, e]
        · refine flat (-2) ?_ (fun mc' e => ?_)
          · by_cases d1 : p3 < 24
            · simp (decide := true) only [f_X9_unwrapAnswer, p_logged, p_isSlot, hin', c1, c2, d1, and_self, zbE, ite_true, ite_false]
            · have d2 : 80 < p3 := Int32.not_le.mp (fun z => c3 ⟨Int32.not_lt.mp d1, z⟩)
              simp (decide := true) only [f_X9_unwrapAnswer, p_logged, p_isSlot, hin', c1, c2, d1, d2, and_self, zbE, ite_true, ite_false]
          · unfold f_X10_unwrap
            rw [p_isIn, zbE, if_pos hin', if_neg (by decide), p_in, zbE, if_pos c1, if_neg (by decide), p_in, zbE, if_pos c2, if_neg (by decide), p_in, zbE, if_neg c3, if_pos rfl, e, zbE]
      · refine flat (-2) ?_ (fun mc' e => ?_)
        · simp (decide := true) only [f_X9_unwrapAnswer, p_logged, p_isSlot, hin', c1, c2, and_self, zbE, ite_true, ite_false]
        · unfold f_X10_unwrap
          rw [p_isIn, zbE, if_pos hin', if_neg (by decide), p_in, zbE, if_pos c1, if_neg (by decide), p_in, zbE, if_neg c2, if_pos rfl, e, zbE]
    · refine flat (-2) ?_ (fun mc' e => ?_)
      · simp (decide := true) only [f_X9_unwrapAnswer, p_logged, p_isSlot, hin', c1, zbE, ite_true, ite_false]
      · unfold f_X10_unwrap
        rw [p_isIn, zbE, if_pos hin', if_neg (by decide), p_in, zbE, if_neg c1, if_pos rfl, e, zbE]
  · have hin' : ¬ (nI st = 3 ∨ nI st = 4) := fun q => hin ((in34 hst).mp q)
    refine flat (-1) ?_ (fun mc' e => ?_)
    · simp (decide := true) only [f_X9_unwrapAnswer, p_logged, hin', zbE, ite_true, ite_false]
    · unfold f_X10_unwrap
      rw [p_isIn, zbE, if_neg hin', if_pos rfl, e, zbE]
