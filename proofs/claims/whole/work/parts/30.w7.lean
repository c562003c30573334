/-! the method run: digest, code and generator -/
theorem l_run510 {a : Nat} (dg mb : Rw) (K : Rw → Option _) (ha : a + 32 ≤ 512) : zl (b_X10_run_510 (nI a) dg K) zF ((0 : Int32), mb) = K (zrow a 32 dg mb) := by
  refine zl_cpy (F := b_X10_run_510 (nI a) dg K) a 32 dg mb K (by omega) ?_ ?_
  · intro self f
    simp only [b_X10_run_510]
    exact if_pos (by decide)
  · intro self i f hi
    simp (disch := omega) only [b_X10_run_510, zle1, if_neg, nI_add, zCl, zki, zki2, znE, zA, zlt2]
theorem l_run394 {a n : Nat} (re mb : Rw) (K : Rw → Option _) (ha : a + n ≤ 512) (hn : n ≤ 256) : zl (b_X10_run_394 (nI a) (nI n) re K) zF ((0 : Int32), mb) = K (zrow a n (fun i => re (64 + i)) mb) := by
  refine zl_cpy (F := b_X10_run_394 (nI a) (nI n) re K) a n (fun i => re (64 + i)) mb K (by omega) ?_ ?_
  · intro self f
    simp only [b_X10_run_394]
    exact if_pos (nI_le (Nat.le_refl _) (by omega))
  · intro self i f hi
    simp (disch := omega) only [b_X10_run_394, zle, if_neg, nI_add, zA2, zCl, zki, zki2, znE, zA, zlt2]
set_option maxHeartbeats 8000000 in
theorem s_sha {a n h : Nat} {p2 made mrq mrd scs words rd bg rq fl tot wc hl : Int32} {gkh gkl gsh gsl hi kh kl lo mt : Int64} {ak cb gtag gkey gmsg gval ms mbk mpd sec inn sc su kp ln ue rn uses RO ST bk bx mbl bo mb mc dg dh inm xk keys len msg o re msec xv xw word xx : Rw} {ky : Nat → Rw} (ht : Rtb RO ST bx bk) (hb : Rb cb mb) (han : a + n ≤ 512) (ha : a + 32 ≤ 512) :
    ∃ (tot' : Int32) (sc' su' cb' mb' : Rw), f_X9_served (nI 9) p2 (nI a) (nI n) (nI h) rd ak cb gkh gkl gsh gsl gtag bg rq gkey gmsg gval ms mbk mpd sec fl tot inn sc su wc hl kp ln ue ky = some (32, rd, ak, cb', gkh, gkl, gsh, gsl, gtag, bg, rq, gkey, gmsg, gval, ms, mbk, mpd, sec, 0, tot', inn, sc', su', wc, kp, ue) ∧ (∀ mc', f_X10_answer 32 mc = some (32, mc') → ∃ (mt' : Int64) (dg' dh' msg' xw' xx' : Rw), mrunK (nI 9) p2 (nI a) (nI n) (nI h) hi kh kl lo made mrq scs mt words RO ST bk mbl bo bx mb mc dg dh inm xk keys len msg o re msec xv xw word xx rn mrd uses = some (32, hi, kh, kl, lo, made, mrq, mrd, scs, 0, mt', words, mbl, bo, mb', mc', dg', dh', inm, xk, msg', o, re, rn, msec, uses, xv, xw', word, xx')) ∧ Rb cb' mb' := by
  obtain ⟨b, hbb⟩ : ∃ b : Rw, b = fun t => mb (a + t) := ⟨_, rfl⟩
  obtain ⟨su1, c1, h1⟩ := p_X7_begin fl tot su
  obtain ⟨fl2, sc2, su2, c2, h2⟩ := p_X7_take (N := 512) (a := a) (n := 0) (k := n) (b := b) (ca := cb) 0 (shCS_0 b sc h1) (fun i hi => by rw [hbb, Nat.zero_add]; exact RB_u hb.1 hb.2 (by omega)) (by omega) (by omega)
  rw [Nat.zero_add] at h2
  obtain ⟨sc3, su3, c3⟩ := p_X7_end (N := 512) (a := a) cb h2 (by omega) ha (by omega)
  have c2' : f_X7_take 512 (nI a) (nI n) 0 0 sc su1 cb = some (fl2, nI n, sc2, su2) := by rw [c2, Int32.zero_add]
  refine ⟨nI n, sc3, su3, zrow a 32 (fun j => sB (shD b n j)) cb, zrow a 32 (shD b n) mb, ?_, ?_, RB_row hb.1, U_row hb.2 (fun j _ => shD_u _ _ j)⟩
  · simp (decide := true) only [f_X9_served, ↓reduceIte, c1, c2', c3, zbE]
  · intro mc' e4
    obtain ⟨dh1, m1, g1⟩ := p_X10_start ht.2.1 b mt dh msg
    simp (decide := true) only [mrunK, ↓reduceIte, zjE, m1, zbE]
    refine zl_say (F := b_X10_run_464 (nI a) (nI n) RO mb _) ht.1 (fun i => mb (a + i)) n xw xx (fun q => ∃ (mt' : Int64) (dg' dh' msg' xw' xx' : Rw), q = some (32, hi, kh, kl, lo, made, mrq, mrd, scs, 0, mt', words, mbl, bo, zrow a 32 (shD b n) mb, mc', dg', dh', inm, xk, msg', o, re, rn, msec, uses, xv, xw', word, xx')) g1 (fun i hi => by rw [hbb, Nat.zero_add]; exact hb.2 _ (by omega)) (by omega) (by omega) ?_ ?_
    · intro self h2 m2 t2 w2 x2 hS
      rw [Nat.zero_add] at hS
      obtain ⟨t3, dg3, h3, m3, w3, x3, e3, g3⟩ := p_X10_finish ht.1 dg w2 x2 hS (by omega)
      simp only [b_X10_run_464]
      rw [if_pos (nI_le (Nat.le_refl _) (by omega)), e3, zbE]
      dsimp only
      rw [l_run510 _ _ _ ha, e4, zbE, zrow_congr g3]
      exact ⟨t3, dg3, h3, m3, w3, x3, rfl⟩
    · intro self i h2 m2 t2 w2 x2 t3 h3 m3 w3 x3 hi e3
      simp (disch := omega) only [b_X10_run_464, zle, if_neg, nI_add, zCl, zki, zki2, e3, zbE, zA, zlt2]
set_option maxHeartbeats 8000000 in
theorem s_hmac {a n h s L : Nat} {p2 made mrq mrd scs words rd bg rq fl tot wc hl : Int32} {gkh gkl gsh gsl hi kh kl lo mt : Int64} {ak cb gtag gkey gmsg gval ms mbk mpd sec inn sc su kp ln ue rn uses RO ST bk bx mbl bo mb mc dg dh inm xk keys len msg o re msec xv xw word xx : Rw} {ky : Nat → Rw} {ue1 uses1 : Rw} (ht : Rtb RO ST bx bk) (hb : Rb cb mb) (han : a + n ≤ 512) (ha : a + 32 ≤ 512) (hs : s < 16) (hlc : ln s = nI L) (hl2 : len s = nI L) (hL : L ≤ 64) (hk : RB L (ky s) (fun i => keys (64 * s + i))) (uk : isU8 (fun i => keys (64 * s + i)) L) (hu : f_X8_takeUse s ue = some ue1) :
    ∃ (inn' sc' su' cb' mb' : Rw), f_X9_served (nI 10) (nI s) (nI a) (nI n) (nI h) rd ak cb gkh gkl gsh gsl gtag bg rq gkey gmsg gval ms mbk mpd sec fl tot inn sc su wc hl kp ln ue ky = some (32, rd, ak, cb', gkh, gkl, gsh, gsl, gtag, bg, rq, gkey, gmsg, gval, ms, mbk, mpd, sec, 0, 96, inn', sc', su', wc, kp, ue1) ∧ (∀ mc', f_X10_answer 32 mc = some (32, mc') → ∃ (mt' : Int64) (dg' dh' inm' msg' xw' xx' : Rw), mrunK (nI 10) (nI s) (nI a) (nI n) (nI h) hi kh kl lo made mrq scs mt words RO ST bk mbl bo bx mb mc dg dh inm xk keys len msg o re msec xv xw word xx rn mrd uses1 = some (32, hi, kh, kl, lo, made, mrq, mrd, nI L, 0, mt', words, mbl, bo, mb', mc', dg', dh', inm', xk, msg', o, re, rn, zrow 0 L (fun i => keys (64 * s + i)) msec, uses1, xv, xw', word, xx')) ∧ Rb cb' mb' := by
  obtain ⟨b, hbb⟩ : ∃ b : Rw, b = fun t => mb (a + t) := ⟨_, rfl⟩
  obtain ⟨kk, hkk⟩ : ∃ q : Rw, q = fun i => keys (64 * s + i) := ⟨_, rfl⟩
  rw [← hkk] at hk uk
  obtain ⟨inn3, sc3, su3, c3⟩ := p_X7_mac (N1 := 64) (N3 := 512) (N6 := 512) (len := L) (a := a) (n := n) (to := a) (kk := kk) (d := b) (ca1 := ky s) (ca3 := cb) fl tot inn sc su cb (fun t ht => RB_u hk uk ht) (fun i hi => by rw [hbb]; exact RB_u hb.1 hb.2 (by omega)) hL hL (by omega) han (by omega) ha (by omega)
  have c3' : f_X7_mac_1PK_6a3 512 s (nI L) (nI a) (nI n) (nI a) fl tot inn sc su cb ky = some (0, 96, inn3, sc3, su3, zrow a 32 (fun j => sB (hmac L kk b n j)) cb) := by rw [p_X7_mac_PK3]; exact c3
  have zts : ∀ {α : Type} {d : Decidable (¬ (nI s < 0 ∨ 16 ≤ s))} (x : Option α), @zk α (¬ (nI s < 0 ∨ 16 ≤ s)) d x = x := fun x => zki hs (by omega) x
  have cls : (nI s).toNatClampNeg = s := nI_clamp (by omega)
  refine ⟨inn3, sc3, su3, zrow a 32 (fun j => sB (hmac L kk b n j)) cb, zrow a 32 (hmac L kk b n) mb, ?_, ?_, RB_row hb.1, U_row hb.2 (hmac_u _ _ _ _)⟩
  · simp (decide := true) only [f_X9_served, ↓reduceIte, cls, zts, hu, hlc, c3', zbE]
  · intro mc' e4
    have m0 := p_X10_secretOf scs keys len msec hs hl2 hL
    rw [← hkk] at m0
    have m0k : ∀ t, t < L → zrow 0 L kk msec t = kk t := fun t ht => zrow_0 ht
    obtain ⟨t1, dh1, msg1, w1, x1, m1, g1⟩ := p_X10_beginMac (len := L) (kk := kk) (sec := zrow 0 L kk msec) ht.1 ht.2.1 m0k uk hL b mt dh msg xw xx
    rw [← hkk]
    simp (decide := true) only [mrunK, ↓reduceIte, zjE, m0, m1, zbE]
    refine zl_say (F := b_X10_run_464 (nI a) (nI n) RO mb _) ht.1 (fun i => mb (a + i)) n w1 x1 (fun q => ∃ (mt' : Int64) (dg' dh' inm' msg' xw' xx' : Rw), q = some (32, hi, kh, kl, lo, made, mrq, mrd, nI L, 0, mt', words, mbl, bo, zrow a 32 (hmac L kk b n) mb, mc', dg', dh', inm', xk, msg', o, re, rn, zrow 0 L kk msec, uses1, xv, xw', word, xx')) g1 (fun i hi => by rw [hmI_hi, hbb]; exact hb.2 _ (by omega)) (by omega) (by omega) ?_ ?_
    · intro self h2 m2 t2 w2 x2 hS
      obtain ⟨t3, dg3, h3, in3, m3, w3, x3, e3, g3⟩ := p_X10_endMac (len := L) (kk := kk) (sec := zrow 0 L kk msec) ht.1 ht.2.1 m0k uk hL hS (by omega) dg inm w2 x2
      simp only [b_X10_run_464]
      rw [if_pos (nI_le (Nat.le_refl _) (by omega)), e3, zbE]
      dsimp only
      rw [l_run510 _ _ _ ha, e4, zbE, zrow_congr g3]
      exact ⟨t3, dg3, h3, in3, m3, w3, x3, rfl⟩
    · intro self i h2 m2 t2 w2 x2 t3 h3 m3 w3 x3 hi e3
      simp (disch := omega) only [b_X10_run_464, zle, if_neg, nI_add, zCl, zki, zki2, e3, zbE, zA, zlt2]
set_option maxHeartbeats 8000000 in
theorem s_gen {a n h c : Nat} {p2 made mrq mrd scs words rd bg rq fl tot hl : Int32} {gkh gkl gsh gsl hi kh kl lo mt : Int64} {ak cb gtag gkey gmsg gval ms mbk mpd sec inn sc su kp ln ue rn uses RO ST bk bx mbl bo mb mc dg dh inm xk keys len msg o re msec xv xw word xx : Rw} {ky : Nat → Rw} (ht : Rtb RO ST bx bk) (hb : Rb cb mb) (han : a + n ≤ 512) (hn : n ≤ 256) (hh : h ≤ 64) (hg : Rg bg rq gkey gval made mrq xk xv) (hkw : ∀ i, i < c → kp i = word i) (hc : c ≤ 64) (hnd : gNeed made mrq ≤ c) (hcan : f_X1_canGive (nI (gNeed made mrq)) (nI c) hl = some 1) :
    ∃ (bg' rq' fl' tot' cnt' made' mrq' words' : Int32) (cb' key' gm' val' ms' sec' inn' sc' su' kp' mb' xk' xv' word' : Rw), f_X9_served (nI 11) p2 (nI a) (nI n) (nI h) rd ak cb gkh gkl gsh gsl gtag bg rq gkey gmsg gval ms mbk mpd sec fl tot inn sc su (nI c) hl kp ln ue ky = some (nI n, rd, ak, cb', gkh, gkl, gsh, gsl, gtag, bg', rq', key', gm', val', ms', mbk, mpd, sec', fl', tot', inn', sc', su', cnt', kp', ue) ∧ (∀ mc', f_X10_answer (nI n) mc = some (nI n, mc') → ∃ (scs' : Int32) (mt' : Int64) (dg' dh' inm' msg' re' msec' xw' xx' : Rw), mrunK (nI 11) p2 (nI a) (nI n) (nI h) hi kh kl lo made mrq scs mt (nI c) RO ST bk mbl bo bx mb mc dg dh inm xk keys len msg o re msec xv xw word xx rn mrd uses = some (nI n, hi, kh, kl, lo, made', mrq', mrd, scs', 0, mt', words', mbl, bo, mb', mc', dg', dh', inm', xk', msg', o, re', rn, msec', uses, xv', xw', word', xx')) ∧ Rb cb' mb' ∧ Rg bg' rq' key' val' made' mrq' xk' xv' ∧ Rwk cnt' kp' words' word' := by
  obtain ⟨key', gm', val', ms', sec', inn', sc', su', ed, r1, r2⟩ := c_drawnB (a := a) (n := n) (m := h) (wd := word) hg hkw hc hnd hcan hb hh han gmsg ms sec fl tot inn sc su
  obtain ⟨scs', mt', dg', h', inm', k', msg', re', msec', v', w', x', em, r3, r4, r5⟩ := m_gen ht (n := n) (m := h) (c := c) (wd := word) hg (bu := mb) (fun j hj => hb.2 j (by omega)) hn hh hc hnd scs mt dg dh inm msg re msec xw xx
  obtain ⟨u1, u2⟩ := gK1_u hg word
  obtain ⟨O, hO⟩ : ∃ O, O = drG (gK1 made mrq xk xv word) (gV1 made mrq xk xv word) mb h := ⟨_, rfl⟩
  rw [← hO] at ed r5
  have uO : ∀ t, O t &&& 255 = O t := fun t => by rw [hO]; exact drG_u mb h u1 u2 t
  refine ⟨1, gQ1 made mrq + 1, 0, 96, nI (c - gNeed made mrq), 1, gQ1 made mrq + 1, nI (c - gNeed made mrq), zrow a n (fun t => sB (O t)) cb, key', gm', val', ms', sec', inn', sc', su', zrow 0 (c - gNeed made mrq) (fun i => kp (i + gNeed made mrq)) kp, zrow a n O mb, k', v', if gNeed made mrq = 0 then word else zrow 0 (c - gNeed made mrq) (fun i => word (i + gNeed made mrq)) word, ?_, ?_, ⟨RB_row hb.1, U_row hb.2 (fun t _ => uO t)⟩, Rg_aft hg r1 r2 r3 r4, Rwk_aft hkw hc hnd⟩
  · simp (decide := true) only [f_X9_served, ↓reduceIte, ed, zbE]
  · intro mc' e4
    simp (decide := true) only [mrunK, ↓reduceIte, em, zjE, zbE]
    rw [l_run394 _ _ _ han hn, e4, zbE, zrow_congr r5]
    exact ⟨scs', mt', dg', h', inm', msg', re', msec', w', x', rfl⟩
