/-! the method run: services without a key; all services -/
set_option maxHeartbeats 8000000 in
theorem qr_9 {a n h : Nat} {p2 : Int32} {st : Nat} {rd bg rq fl tot wc hl ill made mrq mrd scs thr words : Int32} {gkh gkl gsh gsl hi kh kl lo mt : Int64} {ak cb cc gtag gkey gmsg gval ms mbk mpd sec inn sc su kp kd ln ro us ue : Rw} {ky : Nat → Rw} {RO ST bk bx mbl bo mb mc dg dh holder inm xk keys kind len msg o re rn msec usage uses xv xw word xx : Rw} (ht : Rtb RO ST bx bk) (hb : Rb cb mb) (hc : Rcn cc mc) (hs : Rsl kd ln us ro ue ky kind len usage holder uses keys) (hw : Rwk wc kp words word) (hh : (hl = 0 ∧ ill = 1) ∨ (hl = 1 ∧ ill = 0)) (hg : Rg bg rq gkey gval made mrq xk xv) (hin : st = 3 ∨ st = 4) (han : a + n ≤ 512) (hh64 : h ≤ 64) (hrm : rm 9 a n h) (k1 : f_X9_placesFit (nI 9) (nI a) (nI n) (nI h) = some 1) (k2 : f_X10_isRoom (nI 9) (nI a) (nI n) (nI h) = some 1) : RunR kd ln us ro ky kind len usage holder keys (f_X9_run (nI 9) p2 (nI a) (nI n) (nI h) (nI st) rd ak cb cc gkh gkl gsh gsl gtag bg rq gkey gmsg gval ms mbk mpd sec fl tot inn sc su wc hl kp kd ln ro us ue ky) (f_X10_run (nI 9) p2 (nI a) (nI n) (nI h) hi ill kh kl lo made mrq mrd scs (nI st) thr mt words RO ST bk mbl bo bx mb mc dg dh holder inm xk keys kind len msg o re rn msec usage uses xv xw word xx) := by
  have hst : st ≤ 5 := by omega
  have hin' := eq_true ((in34 hst).mpr hin)
  unfold rm at hrm
  simp (decide := true) only [↓reduceIte] at hrm
  have eref : f_X9_runRefusal (nI 9) p2 (nI a) (nI n) (nI h) (nI st) kd ro us ue = some 0 := by
    simp (decide := true) only [f_X9_runRefusal, ↓bL, ↓zjE, ↓iteN, ↓reduceIte, hin', ↓bE k1]
  have em : f_X10_run (nI 9) p2 (nI a) (nI n) (nI h) hi ill kh kl lo made mrq mrd scs (nI st) thr mt words RO ST bk mbl bo bx mb mc dg dh holder inm xk keys kind len msg o re rn msec usage uses xv xw word xx = mrunK (nI 9) p2 (nI a) (nI n) (nI h) hi kh kl lo made mrq scs mt words RO ST bk mbl bo bx mb mc dg dh inm xk keys len msg o re msec xv xw word xx rn mrd uses := by
    simp (decide := true) only [f_X10_run, ↓bI, ↓bN, ↓zjE, ↓iteN, ↓reduceIte, hin', ↓bE k2]
    rfl
  obtain ⟨tot', sc', su', cb', mb', e1, e2, g2⟩ := s_sha (p2 := p2) (h := h) (made := made) (mrq := mrq) (mrd := mrd) (scs := scs) (words := words) (rd := rd) (bg := bg) (rq := rq) (fl := fl) (tot := tot) (wc := wc) (hl := hl) (gkh := gkh) (gkl := gkl) (gsh := gsh) (gsl := gsl) (hi := hi) (kh := kh) (kl := kl) (lo := lo) (mt := mt) (ak := ak) (gtag := gtag) (gkey := gkey) (gmsg := gmsg) (gval := gval) (ms := ms) (mbk := mbk) (mpd := mpd) (sec := sec) (inn := inn) (sc := sc) (su := su) (kp := kp) (ln := ln) (ue := ue) (ky := ky) (rn := rn) (uses := uses) (mbl := mbl) (bo := bo) (mc := mc) (dg := dg) (dh := dh) (inm := inm) (xk := xk) (keys := keys) (len := len) (msg := msg) (o := o) (re := re) (msec := msec) (xv := xv) (xw := xw) (word := word) (xx := xx) ht hb han (by omega)
  obtain ⟨cc', mc', e3, e4, g3⟩ := p_counted 32 hc
  obtain ⟨mt', dg', dh', msg', xw', xx', e2'⟩ := e2 mc' e4
  have ec : f_X9_run (nI 9) p2 (nI a) (nI n) (nI h) (nI st) rd ak cb cc gkh gkl gsh gsl gtag bg rq gkey gmsg gval ms mbk mpd sec fl tot inn sc su wc hl kp kd ln ro us ue ky = some (32, rd, ak, cb', cc', gkh, gkl, gsh, gsl, gtag, bg, rq, gkey, gmsg, gval, ms, mbk, mpd, sec, 0, tot', inn, sc', su', wc, kp, ue) := by
    simp (decide := true) only [f_X9_run, ↓bE eref, ↓reduceIte, ↓bE e1, ↓bE e3]
  exact run_mk ec (em.trans e2') g3 g2 hs hg hw
set_option maxHeartbeats 8000000 in
theorem qr_11 {a n h : Nat} {p2 : Int32} {st : Nat} {rd bg rq fl tot wc hl ill made mrq mrd scs thr words : Int32} {gkh gkl gsh gsl hi kh kl lo mt : Int64} {ak cb cc gtag gkey gmsg gval ms mbk mpd sec inn sc su kp kd ln ro us ue : Rw} {ky : Nat → Rw} {RO ST bk bx mbl bo mb mc dg dh holder inm xk keys kind len msg o re rn msec usage uses xv xw word xx : Rw} (ht : Rtb RO ST bx bk) (hb : Rb cb mb) (hc : Rcn cc mc) (hs : Rsl kd ln us ro ue ky kind len usage holder uses keys) (hw : Rwk wc kp words word) (hh : (hl = 0 ∧ ill = 1) ∨ (hl = 1 ∧ ill = 0)) (hg : Rg bg rq gkey gval made mrq xk xv) (hin : st = 3 ∨ st = 4) (han : a + n ≤ 512) (hh64 : h ≤ 64) (hrm : rm 11 a n h) (k1 : f_X9_placesFit (nI 11) (nI a) (nI n) (nI h) = some 1) (k2 : f_X10_isRoom (nI 11) (nI a) (nI n) (nI h) = some 1) : RunR kd ln us ro ky kind len usage holder keys (f_X9_run (nI 11) p2 (nI a) (nI n) (nI h) (nI st) rd ak cb cc gkh gkl gsh gsl gtag bg rq gkey gmsg gval ms mbk mpd sec fl tot inn sc su wc hl kp kd ln ro us ue ky) (f_X10_run (nI 11) p2 (nI a) (nI n) (nI h) hi ill kh kl lo made mrq mrd scs (nI st) thr mt words RO ST bk mbl bo bx mb mc dg dh holder inm xk keys kind len msg o re rn msec usage uses xv xw word xx) := by
  have hst : st ≤ 5 := by omega
  have hin' := eq_true ((in34 hst).mpr hin)
  unfold rm at hrm
  simp (decide := true) only [↓reduceIte] at hrm
  have eref : f_X9_runRefusal (nI 11) p2 (nI a) (nI n) (nI h) (nI st) kd ro us ue = some 0 := by
    simp (decide := true) only [f_X9_runRefusal, ↓bL, ↓zjE, ↓iteN, ↓reduceIte, hin', ↓bE k1]
  have hw0 := hw
  obtain ⟨c, rfl, rfl, hc64, hkw⟩ := hw
  obtain ⟨r, c1, c2, c3⟩ := c_can (cnt := nI c) (words := nI c) (kept := kp) (word := word) hg hh hc64
  rcases c3 with rfl | ⟨rfl, hnd⟩
  · obtain ⟨cc', mc', e3, e4, g3⟩ := p_counted (-8) hc
    have ec : f_X9_run (nI 11) p2 (nI a) (nI n) (nI h) (nI st) rd ak cb cc gkh gkl gsh gsl gtag bg rq gkey gmsg gval ms mbk mpd sec fl tot inn sc su (nI c) hl kp kd ln ro us ue ky = some (-8, rd, ak, cb, cc', gkh, gkl, gsh, gsl, gtag, bg, rq, gkey, gmsg, gval, ms, mbk, mpd, sec, fl, tot, inn, sc, su, nI c, kp, ue) := by
      simp (decide := true) only [f_X9_run, f_X9_served, f_X9_drawn_1t_buffer, ↓bE eref, ↓reduceIte, ↓bE (c_need hg), ↓bE c1, zbE, ↓bE e3]
    have em : f_X10_run (nI 11) p2 (nI a) (nI n) (nI h) hi ill kh kl lo made mrq mrd scs (nI st) thr mt (nI c) RO ST bk mbl bo bx mb mc dg dh holder inm xk keys kind len msg o re rn msec usage uses xv xw word xx = some (-8, hi, kh, kl, lo, made, mrq, mrd, scs, 0, mt, nI c, mbl, bo, mb, mc', dg, dh, inm, xk, msg, o, re, rn, msec, uses, xv, xw, word, xx) := by
      simp (decide := true) only [f_X10_run, ↓bI, ↓bN, ↓zjE, ↓iteN, ↓reduceIte, hin', ↓bE k2, ↓bE c2, ↓bE e4]
    exact run_mk ec em g3 hb hs hg hw0
  · have em : f_X10_run (nI 11) p2 (nI a) (nI n) (nI h) hi ill kh kl lo made mrq mrd scs (nI st) thr mt (nI c) RO ST bk mbl bo bx mb mc dg dh holder inm xk keys kind len msg o re rn msec usage uses xv xw word xx = mrunK (nI 11) p2 (nI a) (nI n) (nI h) hi kh kl lo made mrq scs mt (nI c) RO ST bk mbl bo bx mb mc dg dh inm xk keys len msg o re msec xv xw word xx rn mrd uses := by
      simp (decide := true) only [f_X10_run, ↓bI, ↓bN, ↓zjE, ↓iteN, ↓reduceIte, hin', ↓bE k2, ↓bE c2]
      rfl
    obtain ⟨bg', rq', fl', tot', cnt', made', mrq', words', cb', key', gm', val', ms', sec', inn', sc', su', kp', mb', xk', xv', word', e1, e2, g2, g4, g5⟩ := s_gen (p2 := p2) (words := 0) (h := h) (mrd := mrd) (scs := scs) (rd := rd) (bg := bg) (rq := rq) (fl := fl) (tot := tot) (gkh := gkh) (gkl := gkl) (gsh := gsh) (gsl := gsl) (hi := hi) (kh := kh) (kl := kl) (lo := lo) (mt := mt) (ak := ak) (gtag := gtag) (gmsg := gmsg) (ms := ms) (mbk := mbk) (mpd := mpd) (sec := sec) (inn := inn) (sc := sc) (su := su) (ln := ln) (ue := ue) (ky := ky) (rn := rn) (uses := uses) (mbl := mbl) (bo := bo) (mc := mc) (dg := dg) (dh := dh) (inm := inm) (keys := keys) (len := len) (msg := msg) (o := o) (re := re) (msec := msec) (xw := xw) (xx := xx) ht hb han hrm hh64 hg hkw hc64 hnd c1
    obtain ⟨cc', mc', e3, e4, g3⟩ := p_counted (nI n) hc
    obtain ⟨scs', mt', dg', dh', inm', msg', re', msec', xw', xx', e2'⟩ := e2 mc' e4
    have ec : f_X9_run (nI 11) p2 (nI a) (nI n) (nI h) (nI st) rd ak cb cc gkh gkl gsh gsl gtag bg rq gkey gmsg gval ms mbk mpd sec fl tot inn sc su (nI c) hl kp kd ln ro us ue ky = some (nI n, rd, ak, cb', cc', gkh, gkl, gsh, gsl, gtag, bg', rq', key', gm', val', ms', mbk, mpd, sec', fl', tot', inn', sc', su', cnt', kp', ue) := by
      simp (decide := true) only [f_X9_run, ↓bE eref, ↓reduceIte, ↓bE e1, ↓bE e3]
    exact run_mk ec (em.trans e2') g3 g2 hs g4 g5
set_option maxHeartbeats 8000000 in
theorem q_run {p1 p2 p3 p4 p5 : Int32} {st : Nat} {rd bg rq fl tot wc hl ill made mrq mrd scs thr words : Int32} {gkh gkl gsh gsl hi kh kl lo mt : Int64} {ak cb cc gtag gkey gmsg gval ms mbk mpd sec inn sc su kp kd ln ro us ue : Rw} {ky : Nat → Rw} {RO ST bk bx mbl bo mb mc dg dh holder inm xk keys kind len msg o re rn msec usage uses xv xw word xx : Rw} (hst : st ≤ 5) (ht : Rtb RO ST bx bk) (hb : Rb cb mb) (hc : Rcn cc mc) (hs : Rsl kd ln us ro ue ky kind len usage holder uses keys) (hw : Rwk wc kp words word) (hh : (hl = 0 ∧ ill = 1) ∨ (hl = 1 ∧ ill = 0)) (hg : Rg bg rq gkey gval made mrq xk xv) : RunR kd ln us ro ky kind len usage holder keys (f_X9_run p1 p2 p3 p4 p5 (nI st) rd ak cb cc gkh gkl gsh gsl gtag bg rq gkey gmsg gval ms mbk mpd sec fl tot inn sc su wc hl kp kd ln ro us ue ky) (f_X10_run p1 p2 p3 p4 p5 hi ill kh kl lo made mrq mrd scs (nI st) thr mt words RO ST bk mbl bo bx mb mc dg dh holder inm xk keys kind len msg o re rn msec usage uses xv xw word xx) := by
  by_cases hin : st = 3 ∨ st = 4
  · have hin' := eq_true ((in34 hst).mpr hin)
    obtain ⟨r, k1, k2, k3⟩ := p_room p1 p3 p4 p5
    rcases k3 with rfl | ⟨rfl, kk, a, n, h, rfl, hk1, hk11, rfl, rfl, rfl, han, hh64, hrm⟩
    · refine qr_flat ht hb hc hs hw hh hg (-2) (by decide) ?_ (fun mc' e => ?_)
      · by_cases d9 : p1 = 9
        · simp (decide := true) only [f_X9_runRefusal, ↓bL, ↓zjE, ↓iteN, ↓reduceIte, hin', d9] at k1 ⊢
          simp (decide := true) only [↓bE k1, ↓reduceIte]
        · by_cases d11 : p1 = 11
          · simp (decide := true) only [f_X9_runRefusal, ↓bL, ↓zjE, ↓iteN, ↓reduceIte, hin', d11] at k1 ⊢
            simp (decide := true) only [↓bE k1, ↓reduceIte]
          · simp (decide := true) only [f_X9_runRefusal, ↓bL, ↓zjE, ↓iteN, ↓reduceIte, hin', d9, d11, ↓bE k1]
      · by_cases c1 : 1 ≤ p1 ∧ p1 ≤ 11
        · have k2' := k2 c1
          have c1' := eq_true c1
          by_cases d : p1 = 9 ∨ p1 = 11
          · rcases d with rfl | rfl
            · simp (decide := true) only [f_X10_run, ↓bI, ↓bN, ↓zjE, ↓iteN, ↓reduceIte, hin', ↓bE k2', ↓bE e]
            · simp (decide := true) only [f_X10_run, ↓bI, ↓bN, ↓zjE, ↓iteN, ↓reduceIte, hin', ↓bE k2', ↓bE e]
          · have d9 : (p1 = 9) = False := eq_false (fun q => d (Or.inl q))
            have d11 : (p1 = 11) = False := eq_false (fun q => d (Or.inr q))
            by_cases c2 : 0 ≤ p2 ∧ p2 ≤ 15
            · have c2' := eq_true c2
              simp (decide := true) only [f_X10_run, ↓bI, ↓bN, ↓zjE, ↓iteN, ↓reduceIte, hin', c1', c2', d9, d11, ↓bE k2', ↓bE e]
            · have c2' := eq_false c2
              simp (decide := true) only [f_X10_run, ↓bI, ↓bN, ↓zjE, ↓iteN, ↓reduceIte, hin', c1', c2', d9, d11, ↓bE e]
        · have c1' := eq_false c1
          have d9 : (p1 = 9) = False := eq_false (fun q => c1 (by rw [q]; decide))
          have d11 : (p1 = 11) = False := eq_false (fun q => c1 (by rw [q]; decide))
          simp (decide := true) only [f_X10_run, ↓bI, ↓bN, ↓zjE, ↓iteN, ↓reduceIte, hin', c1', d9, d11, ↓bE e]
    · have hc' : kk = 1 ∨ kk = 2 ∨ kk = 3 ∨ kk = 4 ∨ kk = 5 ∨ kk = 6 ∨ kk = 7 ∨ kk = 8 ∨ kk = 9 ∨ kk = 10 ∨ kk = 11 := by omega
      rcases hc' with rfl | rfl | rfl | rfl | rfl | rfl | rfl | rfl | rfl | rfl | rfl
      · exact qr_1 ht hb hc hs hw hh hg hin han hh64 hrm k1 (k2 (by decide))
      · exact qr_2 ht hb hc hs hw hh hg hin han hh64 hrm k1 (k2 (by decide))
      · exact qr_3 ht hb hc hs hw hh hg hin han hh64 hrm k1 (k2 (by decide))
      · exact qr_4 ht hb hc hs hw hh hg hin han hh64 hrm k1 (k2 (by decide))
      · exact qr_5 ht hb hc hs hw hh hg hin han hh64 hrm k1 (k2 (by decide))
      · exact qr_6 ht hb hc hs hw hh hg hin han hh64 hrm k1 (k2 (by decide))
      · exact qr_7 ht hb hc hs hw hh hg hin han hh64 hrm k1 (k2 (by decide))
      · exact qr_8 ht hb hc hs hw hh hg hin han hh64 hrm k1 (k2 (by decide))
      · exact qr_9 ht hb hc hs hw hh hg hin han hh64 hrm k1 (k2 (by decide))
      · exact qr_10 ht hb hc hs hw hh hg hin han hh64 hrm k1 (k2 (by decide))
      · exact qr_11 ht hb hc hs hw hh hg hin han hh64 hrm k1 (k2 (by decide))
  · have hin' := eq_false (fun q => hin ((in34 hst).mp q))
    refine qr_flat ht hb hc hs hw hh hg (-1) (by decide) ?_ (fun mc' e => ?_)
    · simp (decide := true) only [f_X9_runRefusal, ↓bL, ↓iteN, ↓reduceIte, hin']
    · simp (decide := true) only [f_X10_run, ↓bI, ↓iteN, ↓reduceIte, hin', ↓bE e]
