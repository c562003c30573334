/-! the method run, alike -/
def RunR (kd ln us ro : Rw) (ky : Nat → Rw) (kind len usage holder keys : Rw) (oc : Option (Int32 × Int32 × Rw × Rw × Rw × Int64 × Int64 × Int64 × Int64 × Rw × Int32 × Int32 × Rw × Rw × Rw × Rw × Rw × Rw × Rw × Int32 × Int32 × Rw × Rw × Rw × Int32 × Rw × Rw)) (om : Option (Int32 × Int64 × Int64 × Int64 × Int64 × Int32 × Int32 × Int32 × Int32 × Int32 × Int64 × Int32 × Rw × Rw × Rw × Rw × Rw × Rw × Rw × Rw × Rw × Rw × Rw × Rw × Rw × Rw × Rw × Rw × Rw × Rw)) : Prop :=
  ∃ (r rd' bg' rq' fl' tot' wc' made' mrq' mrd' scs' words' : Int32) (gkh' gkl' gsh' gsl' hi' kh' kl' lo' mt' : Int64) (ak' cb' cc' gtag' gkey' gmsg' gval' ms' mbk' mpd' sec' inn' sc' su' kp' ue' mbl' bo' mb' mc' dg' dh' inm' xk' msg' o' re' rn' msec' uses' xv' xw' word' xx' : Rw), oc = some (r, rd', ak', cb', cc', gkh', gkl', gsh', gsl', gtag', bg', rq', gkey', gmsg', gval', ms', mbk', mpd', sec', fl', tot', inn', sc', su', wc', kp', ue') ∧ om = some (r, hi', kh', kl', lo', made', mrq', mrd', scs', 0, mt', words', mbl', bo', mb', mc', dg', dh', inm', xk', msg', o', re', rn', msec', uses', xv', xw', word', xx') ∧ Rcn cc' mc' ∧ Rb cb' mb' ∧ Rsl kd ln us ro ue' ky kind len usage holder uses' keys ∧ Rg bg' rq' gkey' gval' made' mrq' xk' xv' ∧ Rwk wc' kp' words' word'
theorem run_mk {kd ln us ro : Rw} {ky : Nat → Rw} {kind len usage holder keys : Rw} {oc : Option (Int32 × Int32 × Rw × Rw × Rw × Int64 × Int64 × Int64 × Int64 × Rw × Int32 × Int32 × Rw × Rw × Rw × Rw × Rw × Rw × Rw × Int32 × Int32 × Rw × Rw × Rw × Int32 × Rw × Rw)} {om : Option (Int32 × Int64 × Int64 × Int64 × Int64 × Int32 × Int32 × Int32 × Int32 × Int32 × Int64 × Int32 × Rw × Rw × Rw × Rw × Rw × Rw × Rw × Rw × Rw × Rw × Rw × Rw × Rw × Rw × Rw × Rw × Rw × Rw)} {r rd' bg' rq' fl' tot' wc' made' mrq' mrd' scs' words' : Int32} {gkh' gkl' gsh' gsl' hi' kh' kl' lo' mt' : Int64} {ak' cb' cc' gtag' gkey' gmsg' gval' ms' mbk' mpd' sec' inn' sc' su' kp' ue' mbl' bo' mb' mc' dg' dh' inm' xk' msg' o' re' rn' msec' uses' xv' xw' word' xx' : Rw} (e1 : oc = some (r, rd', ak', cb', cc', gkh', gkl', gsh', gsl', gtag', bg', rq', gkey', gmsg', gval', ms', mbk', mpd', sec', fl', tot', inn', sc', su', wc', kp', ue')) (e2 : om = some (r, hi', kh', kl', lo', made', mrq', mrd', scs', 0, mt', words', mbl', bo', mb', mc', dg', dh', inm', xk', msg', o', re', rn', msec', uses', xv', xw', word', xx')) (g1 : Rcn cc' mc') (g2 : Rb cb' mb') (g3 : Rsl kd ln us ro ue' ky kind len usage holder uses' keys) (g4 : Rg bg' rq' gkey' gval' made' mrq' xk' xv') (g5 : Rwk wc' kp' words' word') : RunR kd ln us ro ky kind len usage holder keys oc om :=
  ⟨r, rd', bg', rq', fl', tot', wc', made', mrq', mrd', scs', words', gkh', gkl', gsh', gsl', hi', kh', kl', lo', mt', ak', cb', cc', gtag', gkey', gmsg', gval', ms', mbk', mpd', sec', inn', sc', su', kp', ue', mbl', bo', mb', mc', dg', dh', inm', xk', msg', o', re', rn', msec', uses', xv', xw', word', xx', e1, e2, g1, g2, g3, g4, g5⟩
theorem bE {α β : Type} {o : Option α} {v : α} (h : o = some v) (F : α → Option β) : o.bind F = F v := by rw [h, zbE]
theorem bI {β : Type} (x : Int32) (F : Int32 → Option β) : (f_X10_isIn x).bind F = F (if x = 3 ∨ x = 4 then 1 else 0) := bE (p_isIn x) F
theorem bN {β : Type} (x a b : Int32) (F : Int32 → Option β) : (f_X10_in x a b).bind F = F (if a ≤ x ∧ x ≤ b then 1 else 0) := bE (p_in x a b) F
theorem bL {β : Type} (x : Int32) (F : Int32 → Option β) : (f_X9_loggedIn x).bind F = F (if x = 3 ∨ x = 4 then 1 else 0) := bE (p_logged x) F
theorem bS {β : Type} (x : Int32) (F : Int32 → Option β) : (f_X9_isSlot x).bind F = F (if 0 ≤ x ∧ x ≤ 15 then 1 else 0) := bE (p_isSlot x) F
set_option maxHeartbeats 8000000 in
theorem qr_flat {p1 p2 p3 p4 p5 : Int32} {st : Nat} {rd bg rq fl tot wc hl ill made mrq mrd scs thr words : Int32} {gkh gkl gsh gsl hi kh kl lo mt : Int64} {ak cb cc gtag gkey gmsg gval ms mbk mpd sec inn sc su kp kd ln ro us ue : Rw} {ky : Nat → Rw} {RO ST bk bx mbl bo mb mc dg dh holder inm xk keys kind len msg o re rn msec usage uses xv xw word xx : Rw} (ht : Rtb RO ST bx bk) (hb : Rb cb mb) (hc : Rcn cc mc) (hs : Rsl kd ln us ro ue ky kind len usage holder uses keys) (hw : Rwk wc kp words word) (hh : (hl = 0 ∧ ill = 1) ∨ (hl = 1 ∧ ill = 0)) (hg : Rg bg rq gkey gval made mrq xk xv) (a : Int32) (ha : ¬ a = 0) (h1 : f_X9_runRefusal p1 p2 p3 p4 p5 (nI st) kd ro us ue = some a) (h2 : ∀ mc', f_X10_answer a mc = some (a, mc') → f_X10_run p1 p2 p3 p4 p5 hi ill kh kl lo made mrq mrd scs (nI st) thr mt words RO ST bk mbl bo bx mb mc dg dh holder inm xk keys kind len msg o re rn msec usage uses xv xw word xx = some (a, hi, kh, kl, lo, made, mrq, mrd, scs, 0, mt, words, mbl, bo, mb, mc', dg, dh, inm, xk, msg, o, re, rn, msec, uses, xv, xw, word, xx)) : RunR kd ln us ro ky kind len usage holder keys (f_X9_run p1 p2 p3 p4 p5 (nI st) rd ak cb cc gkh gkl gsh gsl gtag bg rq gkey gmsg gval ms mbk mpd sec fl tot inn sc su wc hl kp kd ln ro us ue ky) (f_X10_run p1 p2 p3 p4 p5 hi ill kh kl lo made mrq mrd scs (nI st) thr mt words RO ST bk mbl bo bx mb mc dg dh holder inm xk keys kind len msg o re rn msec usage uses xv xw word xx) := by
  obtain ⟨cc', mc', e3, e4, g3⟩ := p_counted a hc
  have ec : f_X9_run p1 p2 p3 p4 p5 (nI st) rd ak cb cc gkh gkl gsh gsl gtag bg rq gkey gmsg gval ms mbk mpd sec fl tot inn sc su wc hl kp kd ln ro us ue ky = some (a, rd, ak, cb, cc', gkh, gkl, gsh, gsl, gtag, bg, rq, gkey, gmsg, gval, ms, mbk, mpd, sec, fl, tot, inn, sc, su, wc, kp, ue) := by
    simp (decide := true) only [f_X9_run, ↓bE h1, ha, ↓reduceIte, ↓bE e3]
  exact run_mk ec (h2 mc' e4) g3 hb hs hg hw
set_option maxHeartbeats 8000000 in
theorem qr_1 {a n h : Nat} {p2 : Int32} {st : Nat} {rd bg rq fl tot wc hl ill made mrq mrd scs thr words : Int32} {gkh gkl gsh gsl hi kh kl lo mt : Int64} {ak cb cc gtag gkey gmsg gval ms mbk mpd sec inn sc su kp kd ln ro us ue : Rw} {ky : Nat → Rw} {RO ST bk bx mbl bo mb mc dg dh holder inm xk keys kind len msg o re rn msec usage uses xv xw word xx : Rw} (ht : Rtb RO ST bx bk) (hb : Rb cb mb) (hc : Rcn cc mc) (hs : Rsl kd ln us ro ue ky kind len usage holder uses keys) (hw : Rwk wc kp words word) (hh : (hl = 0 ∧ ill = 1) ∨ (hl = 1 ∧ ill = 0)) (hg : Rg bg rq gkey gval made mrq xk xv) (hin : st = 3 ∨ st = 4) (han : a + n ≤ 512) (hh64 : h ≤ 64) (hrm : rm 1 a n h) (k1 : f_X9_placesFit (nI 1) (nI a) (nI n) (nI h) = some 1) (k2 : f_X10_isRoom (nI 1) (nI a) (nI n) (nI h) = some 1) : RunR kd ln us ro ky kind len usage holder keys (f_X9_run (nI 1) p2 (nI a) (nI n) (nI h) (nI st) rd ak cb cc gkh gkl gsh gsl gtag bg rq gkey gmsg gval ms mbk mpd sec fl tot inn sc su wc hl kp kd ln ro us ue ky) (f_X10_run (nI 1) p2 (nI a) (nI n) (nI h) hi ill kh kl lo made mrq mrd scs (nI st) thr mt words RO ST bk mbl bo bx mb mc dg dh holder inm xk keys kind len msg o re rn msec usage uses xv xw word xx) := by
  have hst : st ≤ 5 := by omega
  have hin' := eq_true ((in34 hst).mpr hin)
  by_cases c2 : 0 ≤ p2 ∧ p2 ≤ 15
  · obtain ⟨s, hs16, rfl⟩ := in16 c2
    have c2' := eq_true c2
    have zts : ∀ {α : Type} {d : Decidable (¬ (nI s < 0 ∨ 16 ≤ s))} (x : Option α), @zk α (¬ (nI s < 0 ∨ 16 ≤ s)) d x = x := fun x => zki hs16 (by omega) x
    have cls : (nI s).toNatClampNeg = s := nI_clamp (by omega)
    obtain ⟨o1, f1, f2, ho1⟩ := p_foreign hin hs hs16
    rcases ho1 with rfl | rfl
    · rcases hs s hs16 with ⟨q1, q2⟩ | hrs
      · skip
        refine qr_flat ht hb hc hs hw hh hg (-4) (by decide) ?_ (fun mc' e => ?_)
        · simp (decide := true) only [f_X9_runRefusal, f_X9_keyRefusal, f_X9_bitFor, ↓bL, ↓bS, ↓zjE, ↓iteN, ↓reduceIte, zbE, p_empty, p_allows, hin', c2', ↓bE k1, zts, cls, ↓bE f1, q1]
        · simp (decide := true) only [f_X10_run, ↓bI, ↓bN, ↓zjE, ↓iteN, ↓reduceIte, hin', c2', ↓bE k2, zts, cls, ↓bE f2, q2, ↓bE e]
      · obtain ⟨i1, i2, i3⟩ := Rs1_ne hrs
        obtain ⟨k, L, ug, hh2, hk, r1, r2, r3, r4, r5, r6, r7, r8, r9, r10, r11, r12, r13, r14, r15, r16⟩ := hrs
        by_cases hk1 : k = 1
        · subst hk1
          have e1c : kd s = 1 := r1
          have e1m : kind s = 1 := r2
          by_cases c4 : nI ug &&& 1 = 0
          · skip
            refine qr_flat ht hb hc hs hw hh hg (-6) (by decide) ?_ (fun mc' e => ?_)
            · simp (decide := true) only [f_X9_runRefusal, f_X9_keyRefusal, f_X9_bitFor, ↓bL, ↓bS, ↓zjE, ↓iteN, ↓reduceIte, zbE, p_empty, p_allows, hin', c2', ↓bE k1, zts, cls, ↓bE f1, i1, e1c, r8, c4]
            · simp (decide := true) only [f_X10_run, ↓bI, ↓bN, ↓zjE, ↓iteN, ↓reduceIte, hin', c2', ↓bE k2, zts, cls, ↓bE f2, i2, e1m, r9, c4, ↓bE e]
          · by_cases c6 : uses s = 0
            · skip
              refine qr_flat ht hb hc hs hw hh hg (-7) (by decide) ?_ (fun mc' e => ?_)
              · simp (decide := true) only [f_X9_runRefusal, f_X9_keyRefusal, f_X9_bitFor, ↓bL, ↓bS, ↓zjE, ↓iteN, ↓reduceIte, zbE, p_empty, p_allows, hin', c2', ↓bE k1, zts, cls, ↓bE f1, i1, e1c, r8, c4, r14, c6]
              · simp (decide := true) only [f_X10_run, ↓bI, ↓bN, ↓zjE, ↓iteN, ↓reduceIte, hin', c2', ↓bE k2, zts, cls, ↓bE f2, i2, e1m, r9, c4, c6, ↓bE e]
            · obtain ⟨ue1, uses1, u1, u2, u3, u4⟩ := p_use hs16 r14
              have hrs' := Rsl_use hs u3 u4
              have eref : f_X9_runRefusal (nI 1) (nI s) (nI a) (nI n) (nI h) (nI st) kd ro us ue = some 0 := by
                simp (decide := true) only [f_X9_runRefusal, f_X9_keyRefusal, f_X9_bitFor, ↓bL, ↓bS, ↓zjE, ↓iteN, ↓reduceIte, zbE, p_empty, p_allows, hin', c2', ↓bE k1, zts, cls, ↓bE f1, i1, e1c, r8, c4, r14, c6]
              obtain ⟨R, ak', rn', hR1, hR2, ek, es, gk, uk⟩ := p_keys hs16 r3 r4 (r7 rfl) r15 r16 ht.2.2.1 rd mrd ak rn
              have em : f_X10_run (nI 1) (nI s) (nI a) (nI n) (nI h) hi ill kh kl lo made mrq mrd scs (nI st) thr mt words RO ST bk mbl bo bx mb mc dg dh holder inm xk keys kind len msg o re rn msec usage uses xv xw word xx = mrunK (nI 1) (nI s) (nI a) (nI n) (nI h) hi kh kl lo made mrq scs mt words RO ST bk mbl bo bx mb mc dg dh inm xk keys len msg o re msec xv xw word xx rn' (nI R) uses1 := by
                simp (decide := true) only [f_X10_run, ↓bI, ↓bN, ↓zjE, ↓iteN, ↓reduceIte, hin', c2', ↓bE k2, zts, cls, ↓bE f2, i2, e1m, r9, c4, c6, ↓bE u2, ↓bE es]
                rfl
              obtain ⟨r, q1, q2, q3, q4, cb', tag', mbk', mpd', r5', mbl', bo', mb', o', re', e1, e2, g2⟩ := s_aes (kk := 1) (p2 := nI s) (made := made) (mrq := mrq) (scs := scs) (words := words) (gkh := gkh) (gkl := gkl) (gsh := gsh) (gsl := gsl) (hi := hi) (kh := kh) (kl := kl) (lo := lo) (mt := mt) (gtag := gtag) (mbk := mbk) (mpd := mpd) (uses' := uses1) (mbl := mbl) (bo := bo) (mc := mc) (dg := dg) (dh := dh) (inm := inm) (xk := xk) (keys := keys) (len := len) (msg := msg) (o := o) (re := re) (msec := msec) (xv := xv) (xw := xw) (word := word) (xx := xx) ht hb (by omega) (by omega) han hh64 hrm hR1 hR2 gk uk
              obtain ⟨cc', mc', e3, e4, g3⟩ := p_counted r hc
              have ec : f_X9_run (nI 1) (nI s) (nI a) (nI n) (nI h) (nI st) rd ak cb cc gkh gkl gsh gsl gtag bg rq gkey gmsg gval ms mbk mpd sec fl tot inn sc su wc hl kp kd ln ro us ue ky = some (r, nI R, ak', cb', cc', q1, q2, q3, q4, tag', bg, rq, gkey, gmsg, gval, ms, mbk', mpd', sec, fl, tot, inn, sc, su, wc, kp, ue1) := by
                simp (decide := true) only [f_X9_run, f_X9_served, ↓bE eref, ↓reduceIte, cls, zts, u1, ek, e1, zbE, ↓bE e3]
              exact run_mk ec (em.trans (e2 mc' e4)) g3 g2 hrs' hg hw
        · have e1c : ¬ kd s = 1 := by rw [r1]; exact fun q => hk1 ((nI_eq (b := 1) (by omega) (by omega)).mp q)
          have e1m : ¬ kind s = 1 := by rw [r2]; exact fun q => hk1 ((nI_eq (b := 1) (by omega) (by omega)).mp q)
          refine qr_flat ht hb hc hs hw hh hg (-5) (by decide) ?_ (fun mc' e => ?_)
          · simp (decide := true) only [f_X9_runRefusal, f_X9_keyRefusal, f_X9_bitFor, ↓bL, ↓bS, ↓zjE, ↓iteN, ↓reduceIte, zbE, p_empty, p_allows, hin', c2', ↓bE k1, zts, cls, ↓bE f1, i1, e1c]
          · simp (decide := true) only [f_X10_run, ↓bI, ↓bN, ↓zjE, ↓iteN, ↓reduceIte, hin', c2', ↓bE k2, zts, cls, ↓bE f2, i2, e1m, ↓bE e]
    · skip
      refine qr_flat ht hb hc hs hw hh hg (-3) (by decide) ?_ (fun mc' e => ?_)
      · simp (decide := true) only [f_X9_runRefusal, f_X9_keyRefusal, f_X9_bitFor, ↓bL, ↓bS, ↓zjE, ↓iteN, ↓reduceIte, zbE, p_empty, p_allows, hin', c2', ↓bE k1, zts, cls, ↓bE f1]
      · simp (decide := true) only [f_X10_run, ↓bI, ↓bN, ↓zjE, ↓iteN, ↓reduceIte, hin', c2', ↓bE k2, zts, cls, ↓bE f2, ↓bE e]
  · have c2' := eq_false c2
    refine qr_flat ht hb hc hs hw hh hg (-2) (by decide) ?_ (fun mc' e => ?_)
    · simp (decide := true) only [f_X9_runRefusal, f_X9_keyRefusal, f_X9_bitFor, ↓bL, ↓bS, ↓zjE, ↓iteN, ↓reduceIte, zbE, p_empty, p_allows, hin', c2', ↓bE k1]
    · simp (decide := true) only [f_X10_run, ↓bI, ↓bN, ↓zjE, ↓iteN, ↓reduceIte, hin', c2', ↓bE e]
set_option maxHeartbeats 8000000 in
theorem qr_2 {a n h : Nat} {p2 : Int32} {st : Nat} {rd bg rq fl tot wc hl ill made mrq mrd scs thr words : Int32} {gkh gkl gsh gsl hi kh kl lo mt : Int64} {ak cb cc gtag gkey gmsg gval ms mbk mpd sec inn sc su kp kd ln ro us ue : Rw} {ky : Nat → Rw} {RO ST bk bx mbl bo mb mc dg dh holder inm xk keys kind len msg o re rn msec usage uses xv xw word xx : Rw} (ht : Rtb RO ST bx bk) (hb : Rb cb mb) (hc : Rcn cc mc) (hs : Rsl kd ln us ro ue ky kind len usage holder uses keys) (hw : Rwk wc kp words word) (hh : (hl = 0 ∧ ill = 1) ∨ (hl = 1 ∧ ill = 0)) (hg : Rg bg rq gkey gval made mrq xk xv) (hin : st = 3 ∨ st = 4) (han : a + n ≤ 512) (hh64 : h ≤ 64) (hrm : rm 2 a n h) (k1 : f_X9_placesFit (nI 2) (nI a) (nI n) (nI h) = some 1) (k2 : f_X10_isRoom (nI 2) (nI a) (nI n) (nI h) = some 1) : RunR kd ln us ro ky kind len usage holder keys (f_X9_run (nI 2) p2 (nI a) (nI n) (nI h) (nI st) rd ak cb cc gkh gkl gsh gsl gtag bg rq gkey gmsg gval ms mbk mpd sec fl tot inn sc su wc hl kp kd ln ro us ue ky) (f_X10_run (nI 2) p2 (nI a) (nI n) (nI h) hi ill kh kl lo made mrq mrd scs (nI st) thr mt words RO ST bk mbl bo bx mb mc dg dh holder inm xk keys kind len msg o re rn msec usage uses xv xw word xx) := by
  have hst : st ≤ 5 := by omega
  have hin' := eq_true ((in34 hst).mpr hin)
  by_cases c2 : 0 ≤ p2 ∧ p2 ≤ 15
  · obtain ⟨s, hs16, rfl⟩ := in16 c2
    have c2' := eq_true c2
    have zts : ∀ {α : Type} {d : Decidable (¬ (nI s < 0 ∨ 16 ≤ s))} (x : Option α), @zk α (¬ (nI s < 0 ∨ 16 ≤ s)) d x = x := fun x => zki hs16 (by omega) x
    have cls : (nI s).toNatClampNeg = s := nI_clamp (by omega)
    obtain ⟨o1, f1, f2, ho1⟩ := p_foreign hin hs hs16
    rcases ho1 with rfl | rfl
    · rcases hs s hs16 with ⟨q1, q2⟩ | hrs
      · skip
        refine qr_flat ht hb hc hs hw hh hg (-4) (by decide) ?_ (fun mc' e => ?_)
        · simp (decide := true) only [f_X9_runRefusal, f_X9_keyRefusal, f_X9_bitFor, ↓bL, ↓bS, ↓zjE, ↓iteN, ↓reduceIte, zbE, p_empty, p_allows, hin', c2', ↓bE k1, zts, cls, ↓bE f1, q1]
        · simp (decide := true) only [f_X10_run, ↓bI, ↓bN, ↓zjE, ↓iteN, ↓reduceIte, hin', c2', ↓bE k2, zts, cls, ↓bE f2, q2, ↓bE e]
      · obtain ⟨i1, i2, i3⟩ := Rs1_ne hrs
        obtain ⟨k, L, ug, hh2, hk, r1, r2, r3, r4, r5, r6, r7, r8, r9, r10, r11, r12, r13, r14, r15, r16⟩ := hrs
        by_cases hk1 : k = 1
        · subst hk1
          have e1c : kd s = 1 := r1
          have e1m : kind s = 1 := r2
          by_cases c4 : nI ug &&& 2 = 0
          · skip
            refine qr_flat ht hb hc hs hw hh hg (-6) (by decide) ?_ (fun mc' e => ?_)
            · simp (decide := true) only [f_X9_runRefusal, f_X9_keyRefusal, f_X9_bitFor, ↓bL, ↓bS, ↓zjE, ↓iteN, ↓reduceIte, zbE, p_empty, p_allows, hin', c2', ↓bE k1, zts, cls, ↓bE f1, i1, e1c, r8, c4]
            · simp (decide := true) only [f_X10_run, ↓bI, ↓bN, ↓zjE, ↓iteN, ↓reduceIte, hin', c2', ↓bE k2, zts, cls, ↓bE f2, i2, e1m, r9, c4, ↓bE e]
          · by_cases c6 : uses s = 0
            · skip
              refine qr_flat ht hb hc hs hw hh hg (-7) (by decide) ?_ (fun mc' e => ?_)
              · simp (decide := true) only [f_X9_runRefusal, f_X9_keyRefusal, f_X9_bitFor, ↓bL, ↓bS, ↓zjE, ↓iteN, ↓reduceIte, zbE, p_empty, p_allows, hin', c2', ↓bE k1, zts, cls, ↓bE f1, i1, e1c, r8, c4, r14, c6]
              · simp (decide := true) only [f_X10_run, ↓bI, ↓bN, ↓zjE, ↓iteN, ↓reduceIte, hin', c2', ↓bE k2, zts, cls, ↓bE f2, i2, e1m, r9, c4, c6, ↓bE e]
            · obtain ⟨ue1, uses1, u1, u2, u3, u4⟩ := p_use hs16 r14
              have hrs' := Rsl_use hs u3 u4
              have eref : f_X9_runRefusal (nI 2) (nI s) (nI a) (nI n) (nI h) (nI st) kd ro us ue = some 0 := by
                simp (decide := true) only [f_X9_runRefusal, f_X9_keyRefusal, f_X9_bitFor, ↓bL, ↓bS, ↓zjE, ↓iteN, ↓reduceIte, zbE, p_empty, p_allows, hin', c2', ↓bE k1, zts, cls, ↓bE f1, i1, e1c, r8, c4, r14, c6]
              obtain ⟨R, ak', rn', hR1, hR2, ek, es, gk, uk⟩ := p_keys hs16 r3 r4 (r7 rfl) r15 r16 ht.2.2.1 rd mrd ak rn
              have em : f_X10_run (nI 2) (nI s) (nI a) (nI n) (nI h) hi ill kh kl lo made mrq mrd scs (nI st) thr mt words RO ST bk mbl bo bx mb mc dg dh holder inm xk keys kind len msg o re rn msec usage uses xv xw word xx = mrunK (nI 2) (nI s) (nI a) (nI n) (nI h) hi kh kl lo made mrq scs mt words RO ST bk mbl bo bx mb mc dg dh inm xk keys len msg o re msec xv xw word xx rn' (nI R) uses1 := by
                simp (decide := true) only [f_X10_run, ↓bI, ↓bN, ↓zjE, ↓iteN, ↓reduceIte, hin', c2', ↓bE k2, zts, cls, ↓bE f2, i2, e1m, r9, c4, c6, ↓bE u2, ↓bE es]
                rfl
              obtain ⟨r, q1, q2, q3, q4, cb', tag', mbk', mpd', r5', mbl', bo', mb', o', re', e1, e2, g2⟩ := s_aes (kk := 2) (p2 := nI s) (made := made) (mrq := mrq) (scs := scs) (words := words) (gkh := gkh) (gkl := gkl) (gsh := gsh) (gsl := gsl) (hi := hi) (kh := kh) (kl := kl) (lo := lo) (mt := mt) (gtag := gtag) (mbk := mbk) (mpd := mpd) (uses' := uses1) (mbl := mbl) (bo := bo) (mc := mc) (dg := dg) (dh := dh) (inm := inm) (xk := xk) (keys := keys) (len := len) (msg := msg) (o := o) (re := re) (msec := msec) (xv := xv) (xw := xw) (word := word) (xx := xx) ht hb (by omega) (by omega) han hh64 hrm hR1 hR2 gk uk
              obtain ⟨cc', mc', e3, e4, g3⟩ := p_counted r hc
              have ec : f_X9_run (nI 2) (nI s) (nI a) (nI n) (nI h) (nI st) rd ak cb cc gkh gkl gsh gsl gtag bg rq gkey gmsg gval ms mbk mpd sec fl tot inn sc su wc hl kp kd ln ro us ue ky = some (r, nI R, ak', cb', cc', q1, q2, q3, q4, tag', bg, rq, gkey, gmsg, gval, ms, mbk', mpd', sec, fl, tot, inn, sc, su, wc, kp, ue1) := by
                simp (decide := true) only [f_X9_run, f_X9_served, ↓bE eref, ↓reduceIte, cls, zts, u1, ek, e1, zbE, ↓bE e3]
              exact run_mk ec (em.trans (e2 mc' e4)) g3 g2 hrs' hg hw
        · have e1c : ¬ kd s = 1 := by rw [r1]; exact fun q => hk1 ((nI_eq (b := 1) (by omega) (by omega)).mp q)
          have e1m : ¬ kind s = 1 := by rw [r2]; exact fun q => hk1 ((nI_eq (b := 1) (by omega) (by omega)).mp q)
          refine qr_flat ht hb hc hs hw hh hg (-5) (by decide) ?_ (fun mc' e => ?_)
          · simp (decide := true) only [f_X9_runRefusal, f_X9_keyRefusal, f_X9_bitFor, ↓bL, ↓bS, ↓zjE, ↓iteN, ↓reduceIte, zbE, p_empty, p_allows, hin', c2', ↓bE k1, zts, cls, ↓bE f1, i1, e1c]
          · simp (decide := true) only [f_X10_run, ↓bI, ↓bN, ↓zjE, ↓iteN, ↓reduceIte, hin', c2', ↓bE k2, zts, cls, ↓bE f2, i2, e1m, ↓bE e]
    · skip
      refine qr_flat ht hb hc hs hw hh hg (-3) (by decide) ?_ (fun mc' e => ?_)
      · simp (decide := true) only [f_X9_runRefusal, f_X9_keyRefusal, f_X9_bitFor, ↓bL, ↓bS, ↓zjE, ↓iteN, ↓reduceIte, zbE, p_empty, p_allows, hin', c2', ↓bE k1, zts, cls, ↓bE f1]
      · simp (decide := true) only [f_X10_run, ↓bI, ↓bN, ↓zjE, ↓iteN, ↓reduceIte, hin', c2', ↓bE k2, zts, cls, ↓bE f2, ↓bE e]
  · have c2' := eq_false c2
    refine qr_flat ht hb hc hs hw hh hg (-2) (by decide) ?_ (fun mc' e => ?_)
    · simp (decide := true) only [f_X9_runRefusal, f_X9_keyRefusal, f_X9_bitFor, ↓bL, ↓bS, ↓zjE, ↓iteN, ↓reduceIte, zbE, p_empty, p_allows, hin', c2', ↓bE k1]
    · simp (decide := true) only [f_X10_run, ↓bI, ↓bN, ↓zjE, ↓iteN, ↓reduceIte, hin', c2', ↓bE e]
set_option maxHeartbeats 8000000 in
theorem qr_3 {a n h : Nat} {p2 : Int32} {st : Nat} {rd bg rq fl tot wc hl ill made mrq mrd scs thr words : Int32} {gkh gkl gsh gsl hi kh kl lo mt : Int64} {ak cb cc gtag gkey gmsg gval ms mbk mpd sec inn sc su kp kd ln ro us ue : Rw} {ky : Nat → Rw} {RO ST bk bx mbl bo mb mc dg dh holder inm xk keys kind len msg o re rn msec usage uses xv xw word xx : Rw} (ht : Rtb RO ST bx bk) (hb : Rb cb mb) (hc : Rcn cc mc) (hs : Rsl kd ln us ro ue ky kind len usage holder uses keys) (hw : Rwk wc kp words word) (hh : (hl = 0 ∧ ill = 1) ∨ (hl = 1 ∧ ill = 0)) (hg : Rg bg rq gkey gval made mrq xk xv) (hin : st = 3 ∨ st = 4) (han : a + n ≤ 512) (hh64 : h ≤ 64) (hrm : rm 3 a n h) (k1 : f_X9_placesFit (nI 3) (nI a) (nI n) (nI h) = some 1) (k2 : f_X10_isRoom (nI 3) (nI a) (nI n) (nI h) = some 1) : RunR kd ln us ro ky kind len usage holder keys (f_X9_run (nI 3) p2 (nI a) (nI n) (nI h) (nI st) rd ak cb cc gkh gkl gsh gsl gtag bg rq gkey gmsg gval ms mbk mpd sec fl tot inn sc su wc hl kp kd ln ro us ue ky) (f_X10_run (nI 3) p2 (nI a) (nI n) (nI h) hi ill kh kl lo made mrq mrd scs (nI st) thr mt words RO ST bk mbl bo bx mb mc dg dh holder inm xk keys kind len msg o re rn msec usage uses xv xw word xx) := by
  have hst : st ≤ 5 := by omega
  have hin' := eq_true ((in34 hst).mpr hin)
  by_cases c2 : 0 ≤ p2 ∧ p2 ≤ 15
  · obtain ⟨s, hs16, rfl⟩ := in16 c2
    have c2' := eq_true c2
    have zts : ∀ {α : Type} {d : Decidable (¬ (nI s < 0 ∨ 16 ≤ s))} (x : Option α), @zk α (¬ (nI s < 0 ∨ 16 ≤ s)) d x = x := fun x => zki hs16 (by omega) x
    have cls : (nI s).toNatClampNeg = s := nI_clamp (by omega)
    obtain ⟨o1, f1, f2, ho1⟩ := p_foreign hin hs hs16
    rcases ho1 with rfl | rfl
    · rcases hs s hs16 with ⟨q1, q2⟩ | hrs
      · skip
        refine qr_flat ht hb hc hs hw hh hg (-4) (by decide) ?_ (fun mc' e => ?_)
        · simp (decide := true) only [f_X9_runRefusal, f_X9_keyRefusal, f_X9_bitFor, ↓bL, ↓bS, ↓zjE, ↓iteN, ↓reduceIte, zbE, p_empty, p_allows, hin', c2', ↓bE k1, zts, cls, ↓bE f1, q1]
        · simp (decide := true) only [f_X10_run, ↓bI, ↓bN, ↓zjE, ↓iteN, ↓reduceIte, hin', c2', ↓bE k2, zts, cls, ↓bE f2, q2, ↓bE e]
      · obtain ⟨i1, i2, i3⟩ := Rs1_ne hrs
        obtain ⟨k, L, ug, hh2, hk, r1, r2, r3, r4, r5, r6, r7, r8, r9, r10, r11, r12, r13, r14, r15, r16⟩ := hrs
        by_cases hk1 : k = 1
        · subst hk1
          have e1c : kd s = 1 := r1
          have e1m : kind s = 1 := r2
          by_cases c4 : nI ug &&& 1 = 0
          · skip
            refine qr_flat ht hb hc hs hw hh hg (-6) (by decide) ?_ (fun mc' e => ?_)
            · simp (decide := true) only [f_X9_runRefusal, f_X9_keyRefusal, f_X9_bitFor, ↓bL, ↓bS, ↓zjE, ↓iteN, ↓reduceIte, zbE, p_empty, p_allows, hin', c2', ↓bE k1, zts, cls, ↓bE f1, i1, e1c, r8, c4]
            · simp (decide := true) only [f_X10_run, ↓bI, ↓bN, ↓zjE, ↓iteN, ↓reduceIte, hin', c2', ↓bE k2, zts, cls, ↓bE f2, i2, e1m, r9, c4, ↓bE e]
          · by_cases c6 : uses s = 0
            · skip
              refine qr_flat ht hb hc hs hw hh hg (-7) (by decide) ?_ (fun mc' e => ?_)
              · simp (decide := true) only [f_X9_runRefusal, f_X9_keyRefusal, f_X9_bitFor, ↓bL, ↓bS, ↓zjE, ↓iteN, ↓reduceIte, zbE, p_empty, p_allows, hin', c2', ↓bE k1, zts, cls, ↓bE f1, i1, e1c, r8, c4, r14, c6]
              · simp (decide := true) only [f_X10_run, ↓bI, ↓bN, ↓zjE, ↓iteN, ↓reduceIte, hin', c2', ↓bE k2, zts, cls, ↓bE f2, i2, e1m, r9, c4, c6, ↓bE e]
            · obtain ⟨ue1, uses1, u1, u2, u3, u4⟩ := p_use hs16 r14
              have hrs' := Rsl_use hs u3 u4
              have eref : f_X9_runRefusal (nI 3) (nI s) (nI a) (nI n) (nI h) (nI st) kd ro us ue = some 0 := by
                simp (decide := true) only [f_X9_runRefusal, f_X9_keyRefusal, f_X9_bitFor, ↓bL, ↓bS, ↓zjE, ↓iteN, ↓reduceIte, zbE, p_empty, p_allows, hin', c2', ↓bE k1, zts, cls, ↓bE f1, i1, e1c, r8, c4, r14, c6]
              obtain ⟨R, ak', rn', hR1, hR2, ek, es, gk, uk⟩ := p_keys hs16 r3 r4 (r7 rfl) r15 r16 ht.2.2.1 rd mrd ak rn
              have em : f_X10_run (nI 3) (nI s) (nI a) (nI n) (nI h) hi ill kh kl lo made mrq mrd scs (nI st) thr mt words RO ST bk mbl bo bx mb mc dg dh holder inm xk keys kind len msg o re rn msec usage uses xv xw word xx = mrunK (nI 3) (nI s) (nI a) (nI n) (nI h) hi kh kl lo made mrq scs mt words RO ST bk mbl bo bx mb mc dg dh inm xk keys len msg o re msec xv xw word xx rn' (nI R) uses1 := by
                simp (decide := true) only [f_X10_run, ↓bI, ↓bN, ↓zjE, ↓iteN, ↓reduceIte, hin', c2', ↓bE k2, zts, cls, ↓bE f2, i2, e1m, r9, c4, c6, ↓bE u2, ↓bE es]
                rfl
              obtain ⟨r, q1, q2, q3, q4, cb', tag', mbk', mpd', r5', mbl', bo', mb', o', re', e1, e2, g2⟩ := s_aes (kk := 3) (p2 := nI s) (made := made) (mrq := mrq) (scs := scs) (words := words) (gkh := gkh) (gkl := gkl) (gsh := gsh) (gsl := gsl) (hi := hi) (kh := kh) (kl := kl) (lo := lo) (mt := mt) (gtag := gtag) (mbk := mbk) (mpd := mpd) (uses' := uses1) (mbl := mbl) (bo := bo) (mc := mc) (dg := dg) (dh := dh) (inm := inm) (xk := xk) (keys := keys) (len := len) (msg := msg) (o := o) (re := re) (msec := msec) (xv := xv) (xw := xw) (word := word) (xx := xx) ht hb (by omega) (by omega) han hh64 hrm hR1 hR2 gk uk
              obtain ⟨cc', mc', e3, e4, g3⟩ := p_counted r hc
              have ec : f_X9_run (nI 3) (nI s) (nI a) (nI n) (nI h) (nI st) rd ak cb cc gkh gkl gsh gsl gtag bg rq gkey gmsg gval ms mbk mpd sec fl tot inn sc su wc hl kp kd ln ro us ue ky = some (r, nI R, ak', cb', cc', q1, q2, q3, q4, tag', bg, rq, gkey, gmsg, gval, ms, mbk', mpd', sec, fl, tot, inn, sc, su, wc, kp, ue1) := by
                simp (decide := true) only [f_X9_run, f_X9_served, ↓bE eref, ↓reduceIte, cls, zts, u1, ek, e1, zbE, ↓bE e3]
              exact run_mk ec (em.trans (e2 mc' e4)) g3 g2 hrs' hg hw
        · have e1c : ¬ kd s = 1 := by rw [r1]; exact fun q => hk1 ((nI_eq (b := 1) (by omega) (by omega)).mp q)
          have e1m : ¬ kind s = 1 := by rw [r2]; exact fun q => hk1 ((nI_eq (b := 1) (by omega) (by omega)).mp q)
          refine qr_flat ht hb hc hs hw hh hg (-5) (by decide) ?_ (fun mc' e => ?_)
          · simp (decide := true) only [f_X9_runRefusal, f_X9_keyRefusal, f_X9_bitFor, ↓bL, ↓bS, ↓zjE, ↓iteN, ↓reduceIte, zbE, p_empty, p_allows, hin', c2', ↓bE k1, zts, cls, ↓bE f1, i1, e1c]
          · simp (decide := true) only [f_X10_run, ↓bI, ↓bN, ↓zjE, ↓iteN, ↓reduceIte, hin', c2', ↓bE k2, zts, cls, ↓bE f2, i2, e1m, ↓bE e]
    · skip
      refine qr_flat ht hb hc hs hw hh hg (-3) (by decide) ?_ (fun mc' e => ?_)
      · simp (decide := true) only [f_X9_runRefusal, f_X9_keyRefusal, f_X9_bitFor, ↓bL, ↓bS, ↓zjE, ↓iteN, ↓reduceIte, zbE, p_empty, p_allows, hin', c2', ↓bE k1, zts, cls, ↓bE f1]
      · simp (decide := true) only [f_X10_run, ↓bI, ↓bN, ↓zjE, ↓iteN, ↓reduceIte, hin', c2', ↓bE k2, zts, cls, ↓bE f2, ↓bE e]
  · have c2' := eq_false c2
    refine qr_flat ht hb hc hs hw hh hg (-2) (by decide) ?_ (fun mc' e => ?_)
    · simp (decide := true) only [f_X9_runRefusal, f_X9_keyRefusal, f_X9_bitFor, ↓bL, ↓bS, ↓zjE, ↓iteN, ↓reduceIte, zbE, p_empty, p_allows, hin', c2', ↓bE k1]
    · simp (decide := true) only [f_X10_run, ↓bI, ↓bN, ↓zjE, ↓iteN, ↓reduceIte, hin', c2', ↓bE e]
set_option maxHeartbeats 8000000 in
theorem qr_4 {a n h : Nat} {p2 : Int32} {st : Nat} {rd bg rq fl tot wc hl ill made mrq mrd scs thr words : Int32} {gkh gkl gsh gsl hi kh kl lo mt : Int64} {ak cb cc gtag gkey gmsg gval ms mbk mpd sec inn sc su kp kd ln ro us ue : Rw} {ky : Nat → Rw} {RO ST bk bx mbl bo mb mc dg dh holder inm xk keys kind len msg o re rn msec usage uses xv xw word xx : Rw} (ht : Rtb RO ST bx bk) (hb : Rb cb mb) (hc : Rcn cc mc) (hs : Rsl kd ln us ro ue ky kind len usage holder uses keys) (hw : Rwk wc kp words word) (hh : (hl = 0 ∧ ill = 1) ∨ (hl = 1 ∧ ill = 0)) (hg : Rg bg rq gkey gval made mrq xk xv) (hin : st = 3 ∨ st = 4) (han : a + n ≤ 512) (hh64 : h ≤ 64) (hrm : rm 4 a n h) (k1 : f_X9_placesFit (nI 4) (nI a) (nI n) (nI h) = some 1) (k2 : f_X10_isRoom (nI 4) (nI a) (nI n) (nI h) = some 1) : RunR kd ln us ro ky kind len usage holder keys (f_X9_run (nI 4) p2 (nI a) (nI n) (nI h) (nI st) rd ak cb cc gkh gkl gsh gsl gtag bg rq gkey gmsg gval ms mbk mpd sec fl tot inn sc su wc hl kp kd ln ro us ue ky) (f_X10_run (nI 4) p2 (nI a) (nI n) (nI h) hi ill kh kl lo made mrq mrd scs (nI st) thr mt words RO ST bk mbl bo bx mb mc dg dh holder inm xk keys kind len msg o re rn msec usage uses xv xw word xx) := by
  have hst : st ≤ 5 := by omega
  have hin' := eq_true ((in34 hst).mpr hin)
  by_cases c2 : 0 ≤ p2 ∧ p2 ≤ 15
  · obtain ⟨s, hs16, rfl⟩ := in16 c2
    have c2' := eq_true c2
    have zts : ∀ {α : Type} {d : Decidable (¬ (nI s < 0 ∨ 16 ≤ s))} (x : Option α), @zk α (¬ (nI s < 0 ∨ 16 ≤ s)) d x = x := fun x => zki hs16 (by omega) x
    have cls : (nI s).toNatClampNeg = s := nI_clamp (by omega)
    obtain ⟨o1, f1, f2, ho1⟩ := p_foreign hin hs hs16
    rcases ho1 with rfl | rfl
    · rcases hs s hs16 with ⟨q1, q2⟩ | hrs
      · skip
        refine qr_flat ht hb hc hs hw hh hg (-4) (by decide) ?_ (fun mc' e => ?_)
        · simp (decide := true) only [f_X9_runRefusal, f_X9_keyRefusal, f_X9_bitFor, ↓bL, ↓bS, ↓zjE, ↓iteN, ↓reduceIte, zbE, p_empty, p_allows, hin', c2', ↓bE k1, zts, cls, ↓bE f1, q1]
        · simp (decide := true) only [f_X10_run, ↓bI, ↓bN, ↓zjE, ↓iteN, ↓reduceIte, hin', c2', ↓bE k2, zts, cls, ↓bE f2, q2, ↓bE e]
      · obtain ⟨i1, i2, i3⟩ := Rs1_ne hrs
        obtain ⟨k, L, ug, hh2, hk, r1, r2, r3, r4, r5, r6, r7, r8, r9, r10, r11, r12, r13, r14, r15, r16⟩ := hrs
        by_cases hk1 : k = 1
        · subst hk1
          have e1c : kd s = 1 := r1
          have e1m : kind s = 1 := r2
          by_cases c4 : nI ug &&& 2 = 0
          · skip
            refine qr_flat ht hb hc hs hw hh hg (-6) (by decide) ?_ (fun mc' e => ?_)
            · simp (decide := true) only [f_X9_runRefusal, f_X9_keyRefusal, f_X9_bitFor, ↓bL, ↓bS, ↓zjE, ↓iteN, ↓reduceIte, zbE, p_empty, p_allows, hin', c2', ↓bE k1, zts, cls, ↓bE f1, i1, e1c, r8, c4]
            · simp (decide := true) only [f_X10_run, ↓bI, ↓bN, ↓zjE, ↓iteN, ↓reduceIte, hin', c2', ↓bE k2, zts, cls, ↓bE f2, i2, e1m, r9, c4, ↓bE e]
          · by_cases c6 : uses s = 0
            · skip
              refine qr_flat ht hb hc hs hw hh hg (-7) (by decide) ?_ (fun mc' e => ?_)
              · simp (decide := true) only [f_X9_runRefusal, f_X9_keyRefusal, f_X9_bitFor, ↓bL, ↓bS, ↓zjE, ↓iteN, ↓reduceIte, zbE, p_empty, p_allows, hin', c2', ↓bE k1, zts, cls, ↓bE f1, i1, e1c, r8, c4, r14, c6]
              · simp (decide := true) only [f_X10_run, ↓bI, ↓bN, ↓zjE, ↓iteN, ↓reduceIte, hin', c2', ↓bE k2, zts, cls, ↓bE f2, i2, e1m, r9, c4, c6, ↓bE e]
            · obtain ⟨ue1, uses1, u1, u2, u3, u4⟩ := p_use hs16 r14
              have hrs' := Rsl_use hs u3 u4
              have eref : f_X9_runRefusal (nI 4) (nI s) (nI a) (nI n) (nI h) (nI st) kd ro us ue = some 0 := by
                simp (decide := true) only [f_X9_runRefusal, f_X9_keyRefusal, f_X9_bitFor, ↓bL, ↓bS, ↓zjE, ↓iteN, ↓reduceIte, zbE, p_empty, p_allows, hin', c2', ↓bE k1, zts, cls, ↓bE f1, i1, e1c, r8, c4, r14, c6]
              obtain ⟨R, ak', rn', hR1, hR2, ek, es, gk, uk⟩ := p_keys hs16 r3 r4 (r7 rfl) r15 r16 ht.2.2.1 rd mrd ak rn
              have em : f_X10_run (nI 4) (nI s) (nI a) (nI n) (nI h) hi ill kh kl lo made mrq mrd scs (nI st) thr mt words RO ST bk mbl bo bx mb mc dg dh holder inm xk keys kind len msg o re rn msec usage uses xv xw word xx = mrunK (nI 4) (nI s) (nI a) (nI n) (nI h) hi kh kl lo made mrq scs mt words RO ST bk mbl bo bx mb mc dg dh inm xk keys len msg o re msec xv xw word xx rn' (nI R) uses1 := by
                simp (decide := true) only [f_X10_run, ↓bI, ↓bN, ↓zjE, ↓iteN, ↓reduceIte, hin', c2', ↓bE k2, zts, cls, ↓bE f2, i2, e1m, r9, c4, c6, ↓bE u2, ↓bE es]
                rfl
              obtain ⟨r, q1, q2, q3, q4, cb', tag', mbk', mpd', r5', mbl', bo', mb', o', re', e1, e2, g2⟩ := s_aes (kk := 4) (p2 := nI s) (made := made) (mrq := mrq) (scs := scs) (words := words) (gkh := gkh) (gkl := gkl) (gsh := gsh) (gsl := gsl) (hi := hi) (kh := kh) (kl := kl) (lo := lo) (mt := mt) (gtag := gtag) (mbk := mbk) (mpd := mpd) (uses' := uses1) (mbl := mbl) (bo := bo) (mc := mc) (dg := dg) (dh := dh) (inm := inm) (xk := xk) (keys := keys) (len := len) (msg := msg) (o := o) (re := re) (msec := msec) (xv := xv) (xw := xw) (word := word) (xx := xx) ht hb (by omega) (by omega) han hh64 hrm hR1 hR2 gk uk
              obtain ⟨cc', mc', e3, e4, g3⟩ := p_counted r hc
              have ec : f_X9_run (nI 4) (nI s) (nI a) (nI n) (nI h) (nI st) rd ak cb cc gkh gkl gsh gsl gtag bg rq gkey gmsg gval ms mbk mpd sec fl tot inn sc su wc hl kp kd ln ro us ue ky = some (r, nI R, ak', cb', cc', q1, q2, q3, q4, tag', bg, rq, gkey, gmsg, gval, ms, mbk', mpd', sec, fl, tot, inn, sc, su, wc, kp, ue1) := by
                simp (decide := true) only [f_X9_run, f_X9_served, ↓bE eref, ↓reduceIte, cls, zts, u1, ek, e1, zbE, ↓bE e3]
              exact run_mk ec (em.trans (e2 mc' e4)) g3 g2 hrs' hg hw
        · have e1c : ¬ kd s = 1 := by rw [r1]; exact fun q => hk1 ((nI_eq (b := 1) (by omega) (by omega)).mp q)
          have e1m : ¬ kind s = 1 := by rw [r2]; exact fun q => hk1 ((nI_eq (b := 1) (by omega) (by omega)).mp q)
          refine qr_flat ht hb hc hs hw hh hg (-5) (by decide) ?_ (fun mc' e => ?_)
          · simp (decide := true) only [f_X9_runRefusal, f_X9_keyRefusal, f_X9_bitFor, ↓bL, ↓bS, ↓zjE, ↓iteN, ↓reduceIte, zbE, p_empty, p_allows, hin', c2', ↓bE k1, zts, cls, ↓bE f1, i1, e1c]
          · simp (decide := true) only [f_X10_run, ↓bI, ↓bN, ↓zjE, ↓iteN, ↓reduceIte, hin', c2', ↓bE k2, zts, cls, ↓bE f2, i2, e1m, ↓bE e]
    · skip
      refine qr_flat ht hb hc hs hw hh hg (-3) (by decide) ?_ (fun mc' e => ?_)
      · simp (decide := true) only [f_X9_runRefusal, f_X9_keyRefusal, f_X9_bitFor, ↓bL, ↓bS, ↓zjE, ↓iteN, ↓reduceIte, zbE, p_empty, p_allows, hin', c2', ↓bE k1, zts, cls, ↓bE f1]
      · simp (decide := true) only [f_X10_run, ↓bI, ↓bN, ↓zjE, ↓iteN, ↓reduceIte, hin', c2', ↓bE k2, zts, cls, ↓bE f2, ↓bE e]
  · have c2' := eq_false c2
    refine qr_flat ht hb hc hs hw hh hg (-2) (by decide) ?_ (fun mc' e => ?_)
    · simp (decide := true) only [f_X9_runRefusal, f_X9_keyRefusal, f_X9_bitFor, ↓bL, ↓bS, ↓zjE, ↓iteN, ↓reduceIte, zbE, p_empty, p_allows, hin', c2', ↓bE k1]
    · simp (decide := true) only [f_X10_run, ↓bI, ↓bN, ↓zjE, ↓iteN, ↓reduceIte, hin', c2', ↓bE e]
set_option maxHeartbeats 8000000 in
theorem qr_5 {a n h : Nat} {p2 : Int32} {st : Nat} {rd bg rq fl tot wc hl ill made mrq mrd scs thr words : Int32} {gkh gkl gsh gsl hi kh kl lo mt : Int64} {ak cb cc gtag gkey gmsg gval ms mbk mpd sec inn sc su kp kd ln ro us ue : Rw} {ky : Nat → Rw} {RO ST bk bx mbl bo mb mc dg dh holder inm xk keys kind len msg o re rn msec usage uses xv xw word xx : Rw} (ht : Rtb RO ST bx bk) (hb : Rb cb mb) (hc : Rcn cc mc) (hs : Rsl kd ln us ro ue ky kind len usage holder uses keys) (hw : Rwk wc kp words word) (hh : (hl = 0 ∧ ill = 1) ∨ (hl = 1 ∧ ill = 0)) (hg : Rg bg rq gkey gval made mrq xk xv) (hin : st = 3 ∨ st = 4) (han : a + n ≤ 512) (hh64 : h ≤ 64) (hrm : rm 5 a n h) (k1 : f_X9_placesFit (nI 5) (nI a) (nI n) (nI h) = some 1) (k2 : f_X10_isRoom (nI 5) (nI a) (nI n) (nI h) = some 1) : RunR kd ln us ro ky kind len usage holder keys (f_X9_run (nI 5) p2 (nI a) (nI n) (nI h) (nI st) rd ak cb cc gkh gkl gsh gsl gtag bg rq gkey gmsg gval ms mbk mpd sec fl tot inn sc su wc hl kp kd ln ro us ue ky) (f_X10_run (nI 5) p2 (nI a) (nI n) (nI h) hi ill kh kl lo made mrq mrd scs (nI st) thr mt words RO ST bk mbl bo bx mb mc dg dh holder inm xk keys kind len msg o re rn msec usage uses xv xw word xx) := by
  have hst : st ≤ 5 := by omega
  have hin' := eq_true ((in34 hst).mpr hin)
  by_cases c2 : 0 ≤ p2 ∧ p2 ≤ 15
  · obtain ⟨s, hs16, rfl⟩ := in16 c2
    have c2' := eq_true c2
    have zts : ∀ {α : Type} {d : Decidable (¬ (nI s < 0 ∨ 16 ≤ s))} (x : Option α), @zk α (¬ (nI s < 0 ∨ 16 ≤ s)) d x = x := fun x => zki hs16 (by omega) x
    have cls : (nI s).toNatClampNeg = s := nI_clamp (by omega)
    obtain ⟨o1, f1, f2, ho1⟩ := p_foreign hin hs hs16
    rcases ho1 with rfl | rfl
    · rcases hs s hs16 with ⟨q1, q2⟩ | hrs
      · skip
        refine qr_flat ht hb hc hs hw hh hg (-4) (by decide) ?_ (fun mc' e => ?_)
        · simp (decide := true) only [f_X9_runRefusal, f_X9_keyRefusal, f_X9_bitFor, ↓bL, ↓bS, ↓zjE, ↓iteN, ↓reduceIte, zbE, p_empty, p_allows, hin', c2', ↓bE k1, zts, cls, ↓bE f1, q1]
        · simp (decide := true) only [f_X10_run, ↓bI, ↓bN, ↓zjE, ↓iteN, ↓reduceIte, hin', c2', ↓bE k2, zts, cls, ↓bE f2, q2, ↓bE e]
      · obtain ⟨i1, i2, i3⟩ := Rs1_ne hrs
        obtain ⟨k, L, ug, hh2, hk, r1, r2, r3, r4, r5, r6, r7, r8, r9, r10, r11, r12, r13, r14, r15, r16⟩ := hrs
        by_cases hk1 : k = 1
        · subst hk1
          have e1c : kd s = 1 := r1
          have e1m : kind s = 1 := r2
          by_cases c4 : nI ug &&& 1 = 0
          · skip
            refine qr_flat ht hb hc hs hw hh hg (-6) (by decide) ?_ (fun mc' e => ?_)
            · simp (decide := true) only [f_X9_runRefusal, f_X9_keyRefusal, f_X9_bitFor, ↓bL, ↓bS, ↓zjE, ↓iteN, ↓reduceIte, zbE, p_empty, p_allows, hin', c2', ↓bE k1, zts, cls, ↓bE f1, i1, e1c, r8, c4]
            · simp (decide := true) only [f_X10_run, ↓bI, ↓bN, ↓zjE, ↓iteN, ↓reduceIte, hin', c2', ↓bE k2, zts, cls, ↓bE f2, i2, e1m, r9, c4, ↓bE e]
          · by_cases c6 : uses s = 0
            · skip
              refine qr_flat ht hb hc hs hw hh hg (-7) (by decide) ?_ (fun mc' e => ?_)
              · simp (decide := true) only [f_X9_runRefusal, f_X9_keyRefusal, f_X9_bitFor, ↓bL, ↓bS, ↓zjE, ↓iteN, ↓reduceIte, zbE, p_empty, p_allows, hin', c2', ↓bE k1, zts, cls, ↓bE f1, i1, e1c, r8, c4, r14, c6]
              · simp (decide := true) only [f_X10_run, ↓bI, ↓bN, ↓zjE, ↓iteN, ↓reduceIte, hin', c2', ↓bE k2, zts, cls, ↓bE f2, i2, e1m, r9, c4, c6, ↓bE e]
            · obtain ⟨ue1, uses1, u1, u2, u3, u4⟩ := p_use hs16 r14
              have hrs' := Rsl_use hs u3 u4
              have eref : f_X9_runRefusal (nI 5) (nI s) (nI a) (nI n) (nI h) (nI st) kd ro us ue = some 0 := by
                simp (decide := true) only [f_X9_runRefusal, f_X9_keyRefusal, f_X9_bitFor, ↓bL, ↓bS, ↓zjE, ↓iteN, ↓reduceIte, zbE, p_empty, p_allows, hin', c2', ↓bE k1, zts, cls, ↓bE f1, i1, e1c, r8, c4, r14, c6]
              obtain ⟨R, ak', rn', hR1, hR2, ek, es, gk, uk⟩ := p_keys hs16 r3 r4 (r7 rfl) r15 r16 ht.2.2.1 rd mrd ak rn
              have em : f_X10_run (nI 5) (nI s) (nI a) (nI n) (nI h) hi ill kh kl lo made mrq mrd scs (nI st) thr mt words RO ST bk mbl bo bx mb mc dg dh holder inm xk keys kind len msg o re rn msec usage uses xv xw word xx = mrunK (nI 5) (nI s) (nI a) (nI n) (nI h) hi kh kl lo made mrq scs mt words RO ST bk mbl bo bx mb mc dg dh inm xk keys len msg o re msec xv xw word xx rn' (nI R) uses1 := by
                simp (decide := true) only [f_X10_run, ↓bI, ↓bN, ↓zjE, ↓iteN, ↓reduceIte, hin', c2', ↓bE k2, zts, cls, ↓bE f2, i2, e1m, r9, c4, c6, ↓bE u2, ↓bE es]
                rfl
              obtain ⟨r, q1, q2, q3, q4, cb', tag', mbk', mpd', r5', mbl', bo', mb', o', re', e1, e2, g2⟩ := s_aes (kk := 5) (p2 := nI s) (made := made) (mrq := mrq) (scs := scs) (words := words) (gkh := gkh) (gkl := gkl) (gsh := gsh) (gsl := gsl) (hi := hi) (kh := kh) (kl := kl) (lo := lo) (mt := mt) (gtag := gtag) (mbk := mbk) (mpd := mpd) (uses' := uses1) (mbl := mbl) (bo := bo) (mc := mc) (dg := dg) (dh := dh) (inm := inm) (xk := xk) (keys := keys) (len := len) (msg := msg) (o := o) (re := re) (msec := msec) (xv := xv) (xw := xw) (word := word) (xx := xx) ht hb (by omega) (by omega) han hh64 hrm hR1 hR2 gk uk
              obtain ⟨cc', mc', e3, e4, g3⟩ := p_counted r hc
              have ec : f_X9_run (nI 5) (nI s) (nI a) (nI n) (nI h) (nI st) rd ak cb cc gkh gkl gsh gsl gtag bg rq gkey gmsg gval ms mbk mpd sec fl tot inn sc su wc hl kp kd ln ro us ue ky = some (r, nI R, ak', cb', cc', q1, q2, q3, q4, tag', bg, rq, gkey, gmsg, gval, ms, mbk', mpd', sec, fl, tot, inn, sc, su, wc, kp, ue1) := by
                simp (decide := true) only [f_X9_run, f_X9_served, ↓bE eref, ↓reduceIte, cls, zts, u1, ek, e1, zbE, ↓bE e3]
              exact run_mk ec (em.trans (e2 mc' e4)) g3 g2 hrs' hg hw
        · have e1c : ¬ kd s = 1 := by rw [r1]; exact fun q => hk1 ((nI_eq (b := 1) (by omega) (by omega)).mp q)
          have e1m : ¬ kind s = 1 := by rw [r2]; exact fun q => hk1 ((nI_eq (b := 1) (by omega) (by omega)).mp q)
          refine qr_flat ht hb hc hs hw hh hg (-5) (by decide) ?_ (fun mc' e => ?_)
          · simp (decide := true) only [f_X9_runRefusal, f_X9_keyRefusal, f_X9_bitFor, ↓bL, ↓bS, ↓zjE, ↓iteN, ↓reduceIte, zbE, p_empty, p_allows, hin', c2', ↓bE k1, zts, cls, ↓bE f1, i1, e1c]
          · simp (decide := true) only [f_X10_run, ↓bI, ↓bN, ↓zjE, ↓iteN, ↓reduceIte, hin', c2', ↓bE k2, zts, cls, ↓bE f2, i2, e1m, ↓bE e]
    · skip
      refine qr_flat ht hb hc hs hw hh hg (-3) (by decide) ?_ (fun mc' e => ?_)
      · simp (decide := true) only [f_X9_runRefusal, f_X9_keyRefusal, f_X9_bitFor, ↓bL, ↓bS, ↓zjE, ↓iteN, ↓reduceIte, zbE, p_empty, p_allows, hin', c2', ↓bE k1, zts, cls, ↓bE f1]
      · simp (decide := true) only [f_X10_run, ↓bI, ↓bN, ↓zjE, ↓iteN, ↓reduceIte, hin', c2', ↓bE k2, zts, cls, ↓bE f2, ↓bE e]
  · have c2' := eq_false c2
    refine qr_flat ht hb hc hs hw hh hg (-2) (by decide) ?_ (fun mc' e => ?_)
    · simp (decide := true) only [f_X9_runRefusal, f_X9_keyRefusal, f_X9_bitFor, ↓bL, ↓bS, ↓zjE, ↓iteN, ↓reduceIte, zbE, p_empty, p_allows, hin', c2', ↓bE k1]
    · simp (decide := true) only [f_X10_run, ↓bI, ↓bN, ↓zjE, ↓iteN, ↓reduceIte, hin', c2', ↓bE e]
set_option maxHeartbeats 8000000 in
theorem qr_6 {a n h : Nat} {p2 : Int32} {st : Nat} {rd bg rq fl tot wc hl ill made mrq mrd scs thr words : Int32} {gkh gkl gsh gsl hi kh kl lo mt : Int64} {ak cb cc gtag gkey gmsg gval ms mbk mpd sec inn sc su kp kd ln ro us ue : Rw} {ky : Nat → Rw} {RO ST bk bx mbl bo mb mc dg dh holder inm xk keys kind len msg o re rn msec usage uses xv xw word xx : Rw} (ht : Rtb RO ST bx bk) (hb : Rb cb mb) (hc : Rcn cc mc) (hs : Rsl kd ln us ro ue ky kind len usage holder uses keys) (hw : Rwk wc kp words word) (hh : (hl = 0 ∧ ill = 1) ∨ (hl = 1 ∧ ill = 0)) (hg : Rg bg rq gkey gval made mrq xk xv) (hin : st = 3 ∨ st = 4) (han : a + n ≤ 512) (hh64 : h ≤ 64) (hrm : rm 6 a n h) (k1 : f_X9_placesFit (nI 6) (nI a) (nI n) (nI h) = some 1) (k2 : f_X10_isRoom (nI 6) (nI a) (nI n) (nI h) = some 1) : RunR kd ln us ro ky kind len usage holder keys (f_X9_run (nI 6) p2 (nI a) (nI n) (nI h) (nI st) rd ak cb cc gkh gkl gsh gsl gtag bg rq gkey gmsg gval ms mbk mpd sec fl tot inn sc su wc hl kp kd ln ro us ue ky) (f_X10_run (nI 6) p2 (nI a) (nI n) (nI h) hi ill kh kl lo made mrq mrd scs (nI st) thr mt words RO ST bk mbl bo bx mb mc dg dh holder inm xk keys kind len msg o re rn msec usage uses xv xw word xx) := by
  have hst : st ≤ 5 := by omega
  have hin' := eq_true ((in34 hst).mpr hin)
  by_cases c2 : 0 ≤ p2 ∧ p2 ≤ 15
  · obtain ⟨s, hs16, rfl⟩ := in16 c2
    have c2' := eq_true c2
    have zts : ∀ {α : Type} {d : Decidable (¬ (nI s < 0 ∨ 16 ≤ s))} (x : Option α), @zk α (¬ (nI s < 0 ∨ 16 ≤ s)) d x = x := fun x => zki hs16 (by omega) x
    have cls : (nI s).toNatClampNeg = s := nI_clamp (by omega)
    obtain ⟨o1, f1, f2, ho1⟩ := p_foreign hin hs hs16
    rcases ho1 with rfl | rfl
    · rcases hs s hs16 with ⟨q1, q2⟩ | hrs
      · skip
        refine qr_flat ht hb hc hs hw hh hg (-4) (by decide) ?_ (fun mc' e => ?_)
        · simp (decide := true) only [f_X9_runRefusal, f_X9_keyRefusal, f_X9_bitFor, ↓bL, ↓bS, ↓zjE, ↓iteN, ↓reduceIte, zbE, p_empty, p_allows, hin', c2', ↓bE k1, zts, cls, ↓bE f1, q1]
        · simp (decide := true) only [f_X10_run, ↓bI, ↓bN, ↓zjE, ↓iteN, ↓reduceIte, hin', c2', ↓bE k2, zts, cls, ↓bE f2, q2, ↓bE e]
      · obtain ⟨i1, i2, i3⟩ := Rs1_ne hrs
        obtain ⟨k, L, ug, hh2, hk, r1, r2, r3, r4, r5, r6, r7, r8, r9, r10, r11, r12, r13, r14, r15, r16⟩ := hrs
        by_cases hk1 : k = 1
        · subst hk1
          have e1c : kd s = 1 := r1
          have e1m : kind s = 1 := r2
          by_cases c4 : nI ug &&& 1 = 0
          · skip
            refine qr_flat ht hb hc hs hw hh hg (-6) (by decide) ?_ (fun mc' e => ?_)
            · simp (decide := true) only [f_X9_runRefusal, f_X9_keyRefusal, f_X9_bitFor, ↓bL, ↓bS, ↓zjE, ↓iteN, ↓reduceIte, zbE, p_empty, p_allows, hin', c2', ↓bE k1, zts, cls, ↓bE f1, i1, e1c, r8, c4]
            · simp (decide := true) only [f_X10_run, ↓bI, ↓bN, ↓zjE, ↓iteN, ↓reduceIte, hin', c2', ↓bE k2, zts, cls, ↓bE f2, i2, e1m, r9, c4, ↓bE e]
          · by_cases c6 : uses s = 0
            · skip
              refine qr_flat ht hb hc hs hw hh hg (-7) (by decide) ?_ (fun mc' e => ?_)
              · simp (decide := true) only [f_X9_runRefusal, f_X9_keyRefusal, f_X9_bitFor, ↓bL, ↓bS, ↓zjE, ↓iteN, ↓reduceIte, zbE, p_empty, p_allows, hin', c2', ↓bE k1, zts, cls, ↓bE f1, i1, e1c, r8, c4, r14, c6]
              · simp (decide := true) only [f_X10_run, ↓bI, ↓bN, ↓zjE, ↓iteN, ↓reduceIte, hin', c2', ↓bE k2, zts, cls, ↓bE f2, i2, e1m, r9, c4, c6, ↓bE e]
            · obtain ⟨ue1, uses1, u1, u2, u3, u4⟩ := p_use hs16 r14
              have hrs' := Rsl_use hs u3 u4
              have eref : f_X9_runRefusal (nI 6) (nI s) (nI a) (nI n) (nI h) (nI st) kd ro us ue = some 0 := by
                simp (decide := true) only [f_X9_runRefusal, f_X9_keyRefusal, f_X9_bitFor, ↓bL, ↓bS, ↓zjE, ↓iteN, ↓reduceIte, zbE, p_empty, p_allows, hin', c2', ↓bE k1, zts, cls, ↓bE f1, i1, e1c, r8, c4, r14, c6]
              obtain ⟨R, ak', rn', hR1, hR2, ek, es, gk, uk⟩ := p_keys hs16 r3 r4 (r7 rfl) r15 r16 ht.2.2.1 rd mrd ak rn
              have em : f_X10_run (nI 6) (nI s) (nI a) (nI n) (nI h) hi ill kh kl lo made mrq mrd scs (nI st) thr mt words RO ST bk mbl bo bx mb mc dg dh holder inm xk keys kind len msg o re rn msec usage uses xv xw word xx = mrunK (nI 6) (nI s) (nI a) (nI n) (nI h) hi kh kl lo made mrq scs mt words RO ST bk mbl bo bx mb mc dg dh inm xk keys len msg o re msec xv xw word xx rn' (nI R) uses1 := by
                simp (decide := true) only [f_X10_run, ↓bI, ↓bN, ↓zjE, ↓iteN, ↓reduceIte, hin', c2', ↓bE k2, zts, cls, ↓bE f2, i2, e1m, r9, c4, c6, ↓bE u2, ↓bE es]
                rfl
              obtain ⟨r, q1, q2, q3, q4, cb', tag', mbk', mpd', r5', mbl', bo', mb', o', re', e1, e2, g2⟩ := s_aes (kk := 6) (p2 := nI s) (made := made) (mrq := mrq) (scs := scs) (words := words) (gkh := gkh) (gkl := gkl) (gsh := gsh) (gsl := gsl) (hi := hi) (kh := kh) (kl := kl) (lo := lo) (mt := mt) (gtag := gtag) (mbk := mbk) (mpd := mpd) (uses' := uses1) (mbl := mbl) (bo := bo) (mc := mc) (dg := dg) (dh := dh) (inm := inm) (xk := xk) (keys := keys) (len := len) (msg := msg) (o := o) (re := re) (msec := msec) (xv := xv) (xw := xw) (word := word) (xx := xx) ht hb (by omega) (by omega) han hh64 hrm hR1 hR2 gk uk
              obtain ⟨cc', mc', e3, e4, g3⟩ := p_counted r hc
              have ec : f_X9_run (nI 6) (nI s) (nI a) (nI n) (nI h) (nI st) rd ak cb cc gkh gkl gsh gsl gtag bg rq gkey gmsg gval ms mbk mpd sec fl tot inn sc su wc hl kp kd ln ro us ue ky = some (r, nI R, ak', cb', cc', q1, q2, q3, q4, tag', bg, rq, gkey, gmsg, gval, ms, mbk', mpd', sec, fl, tot, inn, sc, su, wc, kp, ue1) := by
                simp (decide := true) only [f_X9_run, f_X9_served, ↓bE eref, ↓reduceIte, cls, zts, u1, ek, e1, zbE, ↓bE e3]
              exact run_mk ec (em.trans (e2 mc' e4)) g3 g2 hrs' hg hw
        · have e1c : ¬ kd s = 1 := by rw [r1]; exact fun q => hk1 ((nI_eq (b := 1) (by omega) (by omega)).mp q)
          have e1m : ¬ kind s = 1 := by rw [r2]; exact fun q => hk1 ((nI_eq (b := 1) (by omega) (by omega)).mp q)
          refine qr_flat ht hb hc hs hw hh hg (-5) (by decide) ?_ (fun mc' e => ?_)
          · simp (decide := true) only [f_X9_runRefusal, f_X9_keyRefusal, f_X9_bitFor, ↓bL, ↓bS, ↓zjE, ↓iteN, ↓reduceIte, zbE, p_empty, p_allows, hin', c2', ↓bE k1, zts, cls, ↓bE f1, i1, e1c]
          · simp (decide := true) only [f_X10_run, ↓bI, ↓bN, ↓zjE, ↓iteN, ↓reduceIte, hin', c2', ↓bE k2, zts, cls, ↓bE f2, i2, e1m, ↓bE e]
    · skip
      refine qr_flat ht hb hc hs hw hh hg (-3) (by decide) ?_ (fun mc' e => ?_)
      · simp (decide := true) only [f_X9_runRefusal, f_X9_keyRefusal, f_X9_bitFor, ↓bL, ↓bS, ↓zjE, ↓iteN, ↓reduceIte, zbE, p_empty, p_allows, hin', c2', ↓bE k1, zts, cls, ↓bE f1]
      · simp (decide := true) only [f_X10_run, ↓bI, ↓bN, ↓zjE, ↓iteN, ↓reduceIte, hin', c2', ↓bE k2, zts, cls, ↓bE f2, ↓bE e]
  · have c2' := eq_false c2
    refine qr_flat ht hb hc hs hw hh hg (-2) (by decide) ?_ (fun mc' e => ?_)
    · simp (decide := true) only [f_X9_runRefusal, f_X9_keyRefusal, f_X9_bitFor, ↓bL, ↓bS, ↓zjE, ↓iteN, ↓reduceIte, zbE, p_empty, p_allows, hin', c2', ↓bE k1]
    · simp (decide := true) only [f_X10_run, ↓bI, ↓bN, ↓zjE, ↓iteN, ↓reduceIte, hin', c2', ↓bE e]
set_option maxHeartbeats 8000000 in
theorem qr_7 {a n h : Nat} {p2 : Int32} {st : Nat} {rd bg rq fl tot wc hl ill made mrq mrd scs thr words : Int32} {gkh gkl gsh gsl hi kh kl lo mt : Int64} {ak cb cc gtag gkey gmsg gval ms mbk mpd sec inn sc su kp kd ln ro us ue : Rw} {ky : Nat → Rw} {RO ST bk bx mbl bo mb mc dg dh holder inm xk keys kind len msg o re rn msec usage uses xv xw word xx : Rw} (ht : Rtb RO ST bx bk) (hb : Rb cb mb) (hc : Rcn cc mc) (hs : Rsl kd ln us ro ue ky kind len usage holder uses keys) (hw : Rwk wc kp words word) (hh : (hl = 0 ∧ ill = 1) ∨ (hl = 1 ∧ ill = 0)) (hg : Rg bg rq gkey gval made mrq xk xv) (hin : st = 3 ∨ st = 4) (han : a + n ≤ 512) (hh64 : h ≤ 64) (hrm : rm 7 a n h) (k1 : f_X9_placesFit (nI 7) (nI a) (nI n) (nI h) = some 1) (k2 : f_X10_isRoom (nI 7) (nI a) (nI n) (nI h) = some 1) : RunR kd ln us ro ky kind len usage holder keys (f_X9_run (nI 7) p2 (nI a) (nI n) (nI h) (nI st) rd ak cb cc gkh gkl gsh gsl gtag bg rq gkey gmsg gval ms mbk mpd sec fl tot inn sc su wc hl kp kd ln ro us ue ky) (f_X10_run (nI 7) p2 (nI a) (nI n) (nI h) hi ill kh kl lo made mrq mrd scs (nI st) thr mt words RO ST bk mbl bo bx mb mc dg dh holder inm xk keys kind len msg o re rn msec usage uses xv xw word xx) := by
  have hst : st ≤ 5 := by omega
  have hin' := eq_true ((in34 hst).mpr hin)
  by_cases c2 : 0 ≤ p2 ∧ p2 ≤ 15
  · obtain ⟨s, hs16, rfl⟩ := in16 c2
    have c2' := eq_true c2
    have zts : ∀ {α : Type} {d : Decidable (¬ (nI s < 0 ∨ 16 ≤ s))} (x : Option α), @zk α (¬ (nI s < 0 ∨ 16 ≤ s)) d x = x := fun x => zki hs16 (by omega) x
    have cls : (nI s).toNatClampNeg = s := nI_clamp (by omega)
    obtain ⟨o1, f1, f2, ho1⟩ := p_foreign hin hs hs16
    rcases ho1 with rfl | rfl
    · rcases hs s hs16 with ⟨q1, q2⟩ | hrs
      · skip
        refine qr_flat ht hb hc hs hw hh hg (-4) (by decide) ?_ (fun mc' e => ?_)
        · simp (decide := true) only [f_X9_runRefusal, f_X9_keyRefusal, f_X9_bitFor, ↓bL, ↓bS, ↓zjE, ↓iteN, ↓reduceIte, zbE, p_empty, p_allows, hin', c2', ↓bE k1, zts, cls, ↓bE f1, q1]
        · simp (decide := true) only [f_X10_run, ↓bI, ↓bN, ↓zjE, ↓iteN, ↓reduceIte, hin', c2', ↓bE k2, zts, cls, ↓bE f2, q2, ↓bE e]
      · obtain ⟨i1, i2, i3⟩ := Rs1_ne hrs
        obtain ⟨k, L, ug, hh2, hk, r1, r2, r3, r4, r5, r6, r7, r8, r9, r10, r11, r12, r13, r14, r15, r16⟩ := hrs
        by_cases hk1 : k = 1
        · subst hk1
          have e1c : kd s = 1 := r1
          have e1m : kind s = 1 := r2
          by_cases c4 : nI ug &&& 2 = 0
          · skip
            refine qr_flat ht hb hc hs hw hh hg (-6) (by decide) ?_ (fun mc' e => ?_)
            · simp (decide := true) only [f_X9_runRefusal, f_X9_keyRefusal, f_X9_bitFor, ↓bL, ↓bS, ↓zjE, ↓iteN, ↓reduceIte, zbE, p_empty, p_allows, hin', c2', ↓bE k1, zts, cls, ↓bE f1, i1, e1c, r8, c4]
            · simp (decide := true) only [f_X10_run, ↓bI, ↓bN, ↓zjE, ↓iteN, ↓reduceIte, hin', c2', ↓bE k2, zts, cls, ↓bE f2, i2, e1m, r9, c4, ↓bE e]
          · by_cases c6 : uses s = 0
            · skip
              refine qr_flat ht hb hc hs hw hh hg (-7) (by decide) ?_ (fun mc' e => ?_)
              · simp (decide := true) only [f_X9_runRefusal, f_X9_keyRefusal, f_X9_bitFor, ↓bL, ↓bS, ↓zjE, ↓iteN, ↓reduceIte, zbE, p_empty, p_allows, hin', c2', ↓bE k1, zts, cls, ↓bE f1, i1, e1c, r8, c4, r14, c6]
              · simp (decide := true) only [f_X10_run, ↓bI, ↓bN, ↓zjE, ↓iteN, ↓reduceIte, hin', c2', ↓bE k2, zts, cls, ↓bE f2, i2, e1m, r9, c4, c6, ↓bE e]
            · obtain ⟨ue1, uses1, u1, u2, u3, u4⟩ := p_use hs16 r14
              have hrs' := Rsl_use hs u3 u4
              have eref : f_X9_runRefusal (nI 7) (nI s) (nI a) (nI n) (nI h) (nI st) kd ro us ue = some 0 := by
                simp (decide := true) only [f_X9_runRefusal, f_X9_keyRefusal, f_X9_bitFor, ↓bL, ↓bS, ↓zjE, ↓iteN, ↓reduceIte, zbE, p_empty, p_allows, hin', c2', ↓bE k1, zts, cls, ↓bE f1, i1, e1c, r8, c4, r14, c6]
              obtain ⟨R, ak', rn', hR1, hR2, ek, es, gk, uk⟩ := p_keys hs16 r3 r4 (r7 rfl) r15 r16 ht.2.2.1 rd mrd ak rn
              have em : f_X10_run (nI 7) (nI s) (nI a) (nI n) (nI h) hi ill kh kl lo made mrq mrd scs (nI st) thr mt words RO ST bk mbl bo bx mb mc dg dh holder inm xk keys kind len msg o re rn msec usage uses xv xw word xx = mrunK (nI 7) (nI s) (nI a) (nI n) (nI h) hi kh kl lo made mrq scs mt words RO ST bk mbl bo bx mb mc dg dh inm xk keys len msg o re msec xv xw word xx rn' (nI R) uses1 := by
                simp (decide := true) only [f_X10_run, ↓bI, ↓bN, ↓zjE, ↓iteN, ↓reduceIte, hin', c2', ↓bE k2, zts, cls, ↓bE f2, i2, e1m, r9, c4, c6, ↓bE u2, ↓bE es]
                rfl
              obtain ⟨r, q1, q2, q3, q4, cb', tag', mbk', mpd', r5', mbl', bo', mb', o', re', e1, e2, g2⟩ := s_aes (kk := 7) (p2 := nI s) (made := made) (mrq := mrq) (scs := scs) (words := words) (gkh := gkh) (gkl := gkl) (gsh := gsh) (gsl := gsl) (hi := hi) (kh := kh) (kl := kl) (lo := lo) (mt := mt) (gtag := gtag) (mbk := mbk) (mpd := mpd) (uses' := uses1) (mbl := mbl) (bo := bo) (mc := mc) (dg := dg) (dh := dh) (inm := inm) (xk := xk) (keys := keys) (len := len) (msg := msg) (o := o) (re := re) (msec := msec) (xv := xv) (xw := xw) (word := word) (xx := xx) ht hb (by omega) (by omega) han hh64 hrm hR1 hR2 gk uk
              obtain ⟨cc', mc', e3, e4, g3⟩ := p_counted r hc
              have ec : f_X9_run (nI 7) (nI s) (nI a) (nI n) (nI h) (nI st) rd ak cb cc gkh gkl gsh gsl gtag bg rq gkey gmsg gval ms mbk mpd sec fl tot inn sc su wc hl kp kd ln ro us ue ky = some (r, nI R, ak', cb', cc', q1, q2, q3, q4, tag', bg, rq, gkey, gmsg, gval, ms, mbk', mpd', sec, fl, tot, inn, sc, su, wc, kp, ue1) := by
                simp (decide := true) only [f_X9_run, f_X9_served, ↓bE eref, ↓reduceIte, cls, zts, u1, ek, e1, zbE, ↓bE e3]
              exact run_mk ec (em.trans (e2 mc' e4)) g3 g2 hrs' hg hw
        · have e1c : ¬ kd s = 1 := by rw [r1]; exact fun q => hk1 ((nI_eq (b := 1) (by omega) (by omega)).mp q)
          have e1m : ¬ kind s = 1 := by rw [r2]; exact fun q => hk1 ((nI_eq (b := 1) (by omega) (by omega)).mp q)
          refine qr_flat ht hb hc hs hw hh hg (-5) (by decide) ?_ (fun mc' e => ?_)
          · simp (decide := true) only [f_X9_runRefusal, f_X9_keyRefusal, f_X9_bitFor, ↓bL, ↓bS, ↓zjE, ↓iteN, ↓reduceIte, zbE, p_empty, p_allows, hin', c2', ↓bE k1, zts, cls, ↓bE f1, i1, e1c]
          · simp (decide := true) only [f_X10_run, ↓bI, ↓bN, ↓zjE, ↓iteN, ↓reduceIte, hin', c2', ↓bE k2, zts, cls, ↓bE f2, i2, e1m, ↓bE e]
    · skip
      refine qr_flat ht hb hc hs hw hh hg (-3) (by decide) ?_ (fun mc' e => ?_)
      · simp (decide := true) only [f_X9_runRefusal, f_X9_keyRefusal, f_X9_bitFor, ↓bL, ↓bS, ↓zjE, ↓iteN, ↓reduceIte, zbE, p_empty, p_allows, hin', c2', ↓bE k1, zts, cls, ↓bE f1]
      · simp (decide := true) only [f_X10_run, ↓bI, ↓bN, ↓zjE, ↓iteN, ↓reduceIte, hin', c2', ↓bE k2, zts, cls, ↓bE f2, ↓bE e]
  · have c2' := eq_false c2
    refine qr_flat ht hb hc hs hw hh hg (-2) (by decide) ?_ (fun mc' e => ?_)
    · simp (decide := true) only [f_X9_runRefusal, f_X9_keyRefusal, f_X9_bitFor, ↓bL, ↓bS, ↓zjE, ↓iteN, ↓reduceIte, zbE, p_empty, p_allows, hin', c2', ↓bE k1]
    · simp (decide := true) only [f_X10_run, ↓bI, ↓bN, ↓zjE, ↓iteN, ↓reduceIte, hin', c2', ↓bE e]
set_option maxHeartbeats 8000000 in
theorem qr_8 {a n h : Nat} {p2 : Int32} {st : Nat} {rd bg rq fl tot wc hl ill made mrq mrd scs thr words : Int32} {gkh gkl gsh gsl hi kh kl lo mt : Int64} {ak cb cc gtag gkey gmsg gval ms mbk mpd sec inn sc su kp kd ln ro us ue : Rw} {ky : Nat → Rw} {RO ST bk bx mbl bo mb mc dg dh holder inm xk keys kind len msg o re rn msec usage uses xv xw word xx : Rw} (ht : Rtb RO ST bx bk) (hb : Rb cb mb) (hc : Rcn cc mc) (hs : Rsl kd ln us ro ue ky kind len usage holder uses keys) (hw : Rwk wc kp words word) (hh : (hl = 0 ∧ ill = 1) ∨ (hl = 1 ∧ ill = 0)) (hg : Rg bg rq gkey gval made mrq xk xv) (hin : st = 3 ∨ st = 4) (han : a + n ≤ 512) (hh64 : h ≤ 64) (hrm : rm 8 a n h) (k1 : f_X9_placesFit (nI 8) (nI a) (nI n) (nI h) = some 1) (k2 : f_X10_isRoom (nI 8) (nI a) (nI n) (nI h) = some 1) : RunR kd ln us ro ky kind len usage holder keys (f_X9_run (nI 8) p2 (nI a) (nI n) (nI h) (nI st) rd ak cb cc gkh gkl gsh gsl gtag bg rq gkey gmsg gval ms mbk mpd sec fl tot inn sc su wc hl kp kd ln ro us ue ky) (f_X10_run (nI 8) p2 (nI a) (nI n) (nI h) hi ill kh kl lo made mrq mrd scs (nI st) thr mt words RO ST bk mbl bo bx mb mc dg dh holder inm xk keys kind len msg o re rn msec usage uses xv xw word xx) := by
  have hst : st ≤ 5 := by omega
  have hin' := eq_true ((in34 hst).mpr hin)
  by_cases c2 : 0 ≤ p2 ∧ p2 ≤ 15
  · obtain ⟨s, hs16, rfl⟩ := in16 c2
    have c2' := eq_true c2
    have zts : ∀ {α : Type} {d : Decidable (¬ (nI s < 0 ∨ 16 ≤ s))} (x : Option α), @zk α (¬ (nI s < 0 ∨ 16 ≤ s)) d x = x := fun x => zki hs16 (by omega) x
    have cls : (nI s).toNatClampNeg = s := nI_clamp (by omega)
    obtain ⟨o1, f1, f2, ho1⟩ := p_foreign hin hs hs16
    rcases ho1 with rfl | rfl
    · rcases hs s hs16 with ⟨q1, q2⟩ | hrs
      · skip
        refine qr_flat ht hb hc hs hw hh hg (-4) (by decide) ?_ (fun mc' e => ?_)
        · simp (decide := true) only [f_X9_runRefusal, f_X9_keyRefusal, f_X9_bitFor, ↓bL, ↓bS, ↓zjE, ↓iteN, ↓reduceIte, zbE, p_empty, p_allows, hin', c2', ↓bE k1, zts, cls, ↓bE f1, q1]
        · simp (decide := true) only [f_X10_run, ↓bI, ↓bN, ↓zjE, ↓iteN, ↓reduceIte, hin', c2', ↓bE k2, zts, cls, ↓bE f2, q2, ↓bE e]
      · obtain ⟨i1, i2, i3⟩ := Rs1_ne hrs
        obtain ⟨k, L, ug, hh2, hk, r1, r2, r3, r4, r5, r6, r7, r8, r9, r10, r11, r12, r13, r14, r15, r16⟩ := hrs
        by_cases hk1 : k = 1
        · subst hk1
          have e1c : kd s = 1 := r1
          have e1m : kind s = 1 := r2
          by_cases c4 : nI ug &&& 4 = 0
          · skip
            refine qr_flat ht hb hc hs hw hh hg (-6) (by decide) ?_ (fun mc' e => ?_)
            · simp (decide := true) only [f_X9_runRefusal, f_X9_keyRefusal, f_X9_bitFor, ↓bL, ↓bS, ↓zjE, ↓iteN, ↓reduceIte, zbE, p_empty, p_allows, hin', c2', ↓bE k1, zts, cls, ↓bE f1, i1, e1c, r8, c4]
            · simp (decide := true) only [f_X10_run, ↓bI, ↓bN, ↓zjE, ↓iteN, ↓reduceIte, hin', c2', ↓bE k2, zts, cls, ↓bE f2, i2, e1m, r9, c4, ↓bE e]
          · by_cases c6 : uses s = 0
            · skip
              refine qr_flat ht hb hc hs hw hh hg (-7) (by decide) ?_ (fun mc' e => ?_)
              · simp (decide := true) only [f_X9_runRefusal, f_X9_keyRefusal, f_X9_bitFor, ↓bL, ↓bS, ↓zjE, ↓iteN, ↓reduceIte, zbE, p_empty, p_allows, hin', c2', ↓bE k1, zts, cls, ↓bE f1, i1, e1c, r8, c4, r14, c6]
              · simp (decide := true) only [f_X10_run, ↓bI, ↓bN, ↓zjE, ↓iteN, ↓reduceIte, hin', c2', ↓bE k2, zts, cls, ↓bE f2, i2, e1m, r9, c4, c6, ↓bE e]
            · obtain ⟨ue1, uses1, u1, u2, u3, u4⟩ := p_use hs16 r14
              have hrs' := Rsl_use hs u3 u4
              have eref : f_X9_runRefusal (nI 8) (nI s) (nI a) (nI n) (nI h) (nI st) kd ro us ue = some 0 := by
                simp (decide := true) only [f_X9_runRefusal, f_X9_keyRefusal, f_X9_bitFor, ↓bL, ↓bS, ↓zjE, ↓iteN, ↓reduceIte, zbE, p_empty, p_allows, hin', c2', ↓bE k1, zts, cls, ↓bE f1, i1, e1c, r8, c4, r14, c6]
              obtain ⟨R, ak', rn', hR1, hR2, ek, es, gk, uk⟩ := p_keys hs16 r3 r4 (r7 rfl) r15 r16 ht.2.2.1 rd mrd ak rn
              have em : f_X10_run (nI 8) (nI s) (nI a) (nI n) (nI h) hi ill kh kl lo made mrq mrd scs (nI st) thr mt words RO ST bk mbl bo bx mb mc dg dh holder inm xk keys kind len msg o re rn msec usage uses xv xw word xx = mrunK (nI 8) (nI s) (nI a) (nI n) (nI h) hi kh kl lo made mrq scs mt words RO ST bk mbl bo bx mb mc dg dh inm xk keys len msg o re msec xv xw word xx rn' (nI R) uses1 := by
                simp (decide := true) only [f_X10_run, ↓bI, ↓bN, ↓zjE, ↓iteN, ↓reduceIte, hin', c2', ↓bE k2, zts, cls, ↓bE f2, i2, e1m, r9, c4, c6, ↓bE u2, ↓bE es]
                rfl
              obtain ⟨r, q1, q2, q3, q4, cb', tag', mbk', mpd', r5', mbl', bo', mb', o', re', e1, e2, g2⟩ := s_aes (kk := 8) (p2 := nI s) (made := made) (mrq := mrq) (scs := scs) (words := words) (gkh := gkh) (gkl := gkl) (gsh := gsh) (gsl := gsl) (hi := hi) (kh := kh) (kl := kl) (lo := lo) (mt := mt) (gtag := gtag) (mbk := mbk) (mpd := mpd) (uses' := uses1) (mbl := mbl) (bo := bo) (mc := mc) (dg := dg) (dh := dh) (inm := inm) (xk := xk) (keys := keys) (len := len) (msg := msg) (o := o) (re := re) (msec := msec) (xv := xv) (xw := xw) (word := word) (xx := xx) ht hb (by omega) (by omega) han hh64 hrm hR1 hR2 gk uk
              obtain ⟨cc', mc', e3, e4, g3⟩ := p_counted r hc
              have ec : f_X9_run (nI 8) (nI s) (nI a) (nI n) (nI h) (nI st) rd ak cb cc gkh gkl gsh gsl gtag bg rq gkey gmsg gval ms mbk mpd sec fl tot inn sc su wc hl kp kd ln ro us ue ky = some (r, nI R, ak', cb', cc', q1, q2, q3, q4, tag', bg, rq, gkey, gmsg, gval, ms, mbk', mpd', sec, fl, tot, inn, sc, su, wc, kp, ue1) := by
                simp (decide := true) only [f_X9_run, f_X9_served, ↓bE eref, ↓reduceIte, cls, zts, u1, ek, e1, zbE, ↓bE e3]
              exact run_mk ec (em.trans (e2 mc' e4)) g3 g2 hrs' hg hw
        · have e1c : ¬ kd s = 1 := by rw [r1]; exact fun q => hk1 ((nI_eq (b := 1) (by omega) (by omega)).mp q)
          have e1m : ¬ kind s = 1 := by rw [r2]; exact fun q => hk1 ((nI_eq (b := 1) (by omega) (by omega)).mp q)
          refine qr_flat ht hb hc hs hw hh hg (-5) (by decide) ?_ (fun mc' e => ?_)
          · simp (decide := true) only [f_X9_runRefusal, f_X9_keyRefusal, f_X9_bitFor, ↓bL, ↓bS, ↓zjE, ↓iteN, ↓reduceIte, zbE, p_empty, p_allows, hin', c2', ↓bE k1, zts, cls, ↓bE f1, i1, e1c]
          · simp (decide := true) only [f_X10_run, ↓bI, ↓bN, ↓zjE, ↓iteN, ↓reduceIte, hin', c2', ↓bE k2, zts, cls, ↓bE f2, i2, e1m, ↓bE e]
    · skip
      refine qr_flat ht hb hc hs hw hh hg (-3) (by decide) ?_ (fun mc' e => ?_)
      · simp (decide := true) only [f_X9_runRefusal, f_X9_keyRefusal, f_X9_bitFor, ↓bL, ↓bS, ↓zjE, ↓iteN, ↓reduceIte, zbE, p_empty, p_allows, hin', c2', ↓bE k1, zts, cls, ↓bE f1]
      · simp (decide := true) only [f_X10_run, ↓bI, ↓bN, ↓zjE, ↓iteN, ↓reduceIte, hin', c2', ↓bE k2, zts, cls, ↓bE f2, ↓bE e]
  · have c2' := eq_false c2
    refine qr_flat ht hb hc hs hw hh hg (-2) (by decide) ?_ (fun mc' e => ?_)
    · simp (decide := true) only [f_X9_runRefusal, f_X9_keyRefusal, f_X9_bitFor, ↓bL, ↓bS, ↓zjE, ↓iteN, ↓reduceIte, zbE, p_empty, p_allows, hin', c2', ↓bE k1]
    · simp (decide := true) only [f_X10_run, ↓bI, ↓bN, ↓zjE, ↓iteN, ↓reduceIte, hin', c2', ↓bE e]
set_option maxHeartbeats 8000000 in
theorem qr_10 {a n h : Nat} {p2 : Int32} {st : Nat} {rd bg rq fl tot wc hl ill made mrq mrd scs thr words : Int32} {gkh gkl gsh gsl hi kh kl lo mt : Int64} {ak cb cc gtag gkey gmsg gval ms mbk mpd sec inn sc su kp kd ln ro us ue : Rw} {ky : Nat → Rw} {RO ST bk bx mbl bo mb mc dg dh holder inm xk keys kind len msg o re rn msec usage uses xv xw word xx : Rw} (ht : Rtb RO ST bx bk) (hb : Rb cb mb) (hc : Rcn cc mc) (hs : Rsl kd ln us ro ue ky kind len usage holder uses keys) (hw : Rwk wc kp words word) (hh : (hl = 0 ∧ ill = 1) ∨ (hl = 1 ∧ ill = 0)) (hg : Rg bg rq gkey gval made mrq xk xv) (hin : st = 3 ∨ st = 4) (han : a + n ≤ 512) (hh64 : h ≤ 64) (hrm : rm 10 a n h) (k1 : f_X9_placesFit (nI 10) (nI a) (nI n) (nI h) = some 1) (k2 : f_X10_isRoom (nI 10) (nI a) (nI n) (nI h) = some 1) : RunR kd ln us ro ky kind len usage holder keys (f_X9_run (nI 10) p2 (nI a) (nI n) (nI h) (nI st) rd ak cb cc gkh gkl gsh gsl gtag bg rq gkey gmsg gval ms mbk mpd sec fl tot inn sc su wc hl kp kd ln ro us ue ky) (f_X10_run (nI 10) p2 (nI a) (nI n) (nI h) hi ill kh kl lo made mrq mrd scs (nI st) thr mt words RO ST bk mbl bo bx mb mc dg dh holder inm xk keys kind len msg o re rn msec usage uses xv xw word xx) := by
  have hst : st ≤ 5 := by omega
  have hin' := eq_true ((in34 hst).mpr hin)
  by_cases c2 : 0 ≤ p2 ∧ p2 ≤ 15
  · obtain ⟨s, hs16, rfl⟩ := in16 c2
    have c2' := eq_true c2
    have zts : ∀ {α : Type} {d : Decidable (¬ (nI s < 0 ∨ 16 ≤ s))} (x : Option α), @zk α (¬ (nI s < 0 ∨ 16 ≤ s)) d x = x := fun x => zki hs16 (by omega) x
    have cls : (nI s).toNatClampNeg = s := nI_clamp (by omega)
    obtain ⟨o1, f1, f2, ho1⟩ := p_foreign hin hs hs16
    rcases ho1 with rfl | rfl
    · rcases hs s hs16 with ⟨q1, q2⟩ | hrs
      · skip
        refine qr_flat ht hb hc hs hw hh hg (-4) (by decide) ?_ (fun mc' e => ?_)
        · simp (decide := true) only [f_X9_runRefusal, f_X9_keyRefusal, f_X9_bitFor, ↓bL, ↓bS, ↓zjE, ↓iteN, ↓reduceIte, zbE, p_empty, p_allows, hin', c2', ↓bE k1, zts, cls, ↓bE f1, q1]
        · simp (decide := true) only [f_X10_run, ↓bI, ↓bN, ↓zjE, ↓iteN, ↓reduceIte, hin', c2', ↓bE k2, zts, cls, ↓bE f2, q2, ↓bE e]
      · obtain ⟨i1, i2, i3⟩ := Rs1_ne hrs
        obtain ⟨k, L, ug, hh2, hk, r1, r2, r3, r4, r5, r6, r7, r8, r9, r10, r11, r12, r13, r14, r15, r16⟩ := hrs
        by_cases hk1 : k = 2
        · subst hk1
          have e1c : kd s = 2 := r1
          have e1m : kind s = 2 := r2
          by_cases c4 : nI ug &&& 4 = 0
          · skip
            refine qr_flat ht hb hc hs hw hh hg (-6) (by decide) ?_ (fun mc' e => ?_)
            · simp (decide := true) only [f_X9_runRefusal, f_X9_keyRefusal, f_X9_bitFor, ↓bL, ↓bS, ↓zjE, ↓iteN, ↓reduceIte, zbE, p_empty, p_allows, hin', c2', ↓bE k1, zts, cls, ↓bE f1, i1, e1c, r8, c4]
            · simp (decide := true) only [f_X10_run, ↓bI, ↓bN, ↓zjE, ↓iteN, ↓reduceIte, hin', c2', ↓bE k2, zts, cls, ↓bE f2, i2, e1m, r9, c4, ↓bE e]
          · by_cases c6 : uses s = 0
            · skip
              refine qr_flat ht hb hc hs hw hh hg (-7) (by decide) ?_ (fun mc' e => ?_)
              · simp (decide := true) only [f_X9_runRefusal, f_X9_keyRefusal, f_X9_bitFor, ↓bL, ↓bS, ↓zjE, ↓iteN, ↓reduceIte, zbE, p_empty, p_allows, hin', c2', ↓bE k1, zts, cls, ↓bE f1, i1, e1c, r8, c4, r14, c6]
              · simp (decide := true) only [f_X10_run, ↓bI, ↓bN, ↓zjE, ↓iteN, ↓reduceIte, hin', c2', ↓bE k2, zts, cls, ↓bE f2, i2, e1m, r9, c4, c6, ↓bE e]
            · obtain ⟨ue1, uses1, u1, u2, u3, u4⟩ := p_use hs16 r14
              have hrs' := Rsl_use hs u3 u4
              have eref : f_X9_runRefusal (nI 10) (nI s) (nI a) (nI n) (nI h) (nI st) kd ro us ue = some 0 := by
                simp (decide := true) only [f_X9_runRefusal, f_X9_keyRefusal, f_X9_bitFor, ↓bL, ↓bS, ↓zjE, ↓iteN, ↓reduceIte, zbE, p_empty, p_allows, hin', c2', ↓bE k1, zts, cls, ↓bE f1, i1, e1c, r8, c4, r14, c6]
              have em : f_X10_run (nI 10) (nI s) (nI a) (nI n) (nI h) hi ill kh kl lo made mrq mrd scs (nI st) thr mt words RO ST bk mbl bo bx mb mc dg dh holder inm xk keys kind len msg o re rn msec usage uses xv xw word xx = mrunK (nI 10) (nI s) (nI a) (nI n) (nI h) hi kh kl lo made mrq scs mt words RO ST bk mbl bo bx mb mc dg dh inm xk keys len msg o re msec xv xw word xx rn mrd uses1 := by
                simp (decide := true) only [f_X10_run, ↓bI, ↓bN, ↓zjE, ↓iteN, ↓reduceIte, hin', c2', ↓bE k2, zts, cls, ↓bE f2, i2, e1m, r9, c4, c6, ↓bE u2]
                rfl
              unfold rm at hrm
              simp (decide := true) only [↓reduceIte] at hrm
              obtain ⟨inn', sc', su', cb', mb', e1, e2, g2⟩ := s_hmac (h := h) (p2 := 0) (uses := uses) (made := made) (mrq := mrq) (mrd := mrd) (scs := scs) (words := words) (rd := rd) (bg := bg) (rq := rq) (fl := fl) (tot := tot) (wc := wc) (hl := hl) (gkh := gkh) (gkl := gkl) (gsh := gsh) (gsl := gsl) (hi := hi) (kh := kh) (kl := kl) (lo := lo) (mt := mt) (ak := ak) (gtag := gtag) (gkey := gkey) (gmsg := gmsg) (gval := gval) (ms := ms) (mbk := mbk) (mpd := mpd) (sec := sec) (inn := inn) (sc := sc) (su := su) (kp := kp) (rn := rn) (mbl := mbl) (bo := bo) (mc := mc) (dg := dg) (dh := dh) (inm := inm) (xk := xk) (msg := msg) (o := o) (re := re) (msec := msec) (xv := xv) (xw := xw) (word := word) (xx := xx) (uses1 := uses1) ht hb han (by omega) hs16 r3 r4 r6 r15 r16 u1
              obtain ⟨cc', mc', e3, e4, g3⟩ := p_counted 32 hc
              obtain ⟨mt', dg', dh', inm', msg', xw', xx', e2'⟩ := e2 mc' e4
              have ec : f_X9_run (nI 10) (nI s) (nI a) (nI n) (nI h) (nI st) rd ak cb cc gkh gkl gsh gsl gtag bg rq gkey gmsg gval ms mbk mpd sec fl tot inn sc su wc hl kp kd ln ro us ue ky = some (32, rd, ak, cb', cc', gkh, gkl, gsh, gsl, gtag, bg, rq, gkey, gmsg, gval, ms, mbk, mpd, sec, 0, 96, inn', sc', su', wc, kp, ue1) := by
                simp (decide := true) only [f_X9_run, ↓bE eref, ↓reduceIte, ↓bE e1, ↓bE e3]
              exact run_mk ec (em.trans e2') g3 g2 hrs' hg hw
        · have e1c : ¬ kd s = 2 := by rw [r1]; exact fun q => hk1 ((nI_eq (b := 2) (by omega) (by omega)).mp q)
          have e1m : ¬ kind s = 2 := by rw [r2]; exact fun q => hk1 ((nI_eq (b := 2) (by omega) (by omega)).mp q)
          refine qr_flat ht hb hc hs hw hh hg (-5) (by decide) ?_ (fun mc' e => ?_)
          · simp (decide := true) only [f_X9_runRefusal, f_X9_keyRefusal, f_X9_bitFor, ↓bL, ↓bS, ↓zjE, ↓iteN, ↓reduceIte, zbE, p_empty, p_allows, hin', c2', ↓bE k1, zts, cls, ↓bE f1, i1, e1c]
          · simp (decide := true) only [f_X10_run, ↓bI, ↓bN, ↓zjE, ↓iteN, ↓reduceIte, hin', c2', ↓bE k2, zts, cls, ↓bE f2, i2, e1m, ↓bE e]
    · skip
      refine qr_flat ht hb hc hs hw hh hg (-3) (by decide) ?_ (fun mc' e => ?_)
      · simp (decide := true) only [f_X9_runRefusal, f_X9_keyRefusal, f_X9_bitFor, ↓bL, ↓bS, ↓zjE, ↓iteN, ↓reduceIte, zbE, p_empty, p_allows, hin', c2', ↓bE k1, zts, cls, ↓bE f1]
      · simp (decide := true) only [f_X10_run, ↓bI, ↓bN, ↓zjE, ↓iteN, ↓reduceIte, hin', c2', ↓bE k2, zts, cls, ↓bE f2, ↓bE e]
  · have c2' := eq_false c2
    refine qr_flat ht hb hc hs hw hh hg (-2) (by decide) ?_ (fun mc' e => ?_)
    · simp (decide := true) only [f_X9_runRefusal, f_X9_keyRefusal, f_X9_bitFor, ↓bL, ↓bS, ↓zjE, ↓iteN, ↓reduceIte, zbE, p_empty, p_allows, hin', c2', ↓bE k1]
    · simp (decide := true) only [f_X10_run, ↓bI, ↓bN, ↓zjE, ↓iteN, ↓reduceIte, hin', c2', ↓bE e]
