/-! the method make -/
theorem l_make71 {s n : Nat} (re keys : Rw) (K : Rw → Option _) (hs : s < 16) (hn : n ≤ 64) : zl (b_X10_make_71 (nI s) (nI n) re K) zF ((0 : Int32), keys) = K (zrow (64 * s) n (fun i => re (64 + i)) keys) := by
  refine zl_cpy (F := b_X10_make_71 (nI s) (nI n) re K) (64 * s) n (fun i => re (64 + i)) keys K (by omega) ?_ ?_
  · intro self f
    simp only [b_X10_make_71]
    exact if_pos (nI_le (Nat.le_refl _) (by omega))
  · intro self i f hi
    simp (disch := omega) only [b_X10_make_71, zle, if_neg, zM, nI_add, zA2, zCl, zki, zki2, znE, zA, zlt2]
theorem Rwh_hl {hl last row first pw tw ill before inRow mfirst inW same : Int32} (h : Rwh hl last row first pw tw ill before inRow mfirst inW same) : (hl = 0 ∧ ill = 1) ∨ (hl = 1 ∧ ill = 0) := by
  rcases h with g | ⟨g1, g2, -⟩
  · exact Or.inl g
  · exact Or.inr ⟨g1, g2⟩
set_option maxHeartbeats 8000000 in
theorem q_make {st : Nat} {p1 p2 p3 p4 p5 p6 thr bg rq hl cnt fl tot made mrq ill words scs : Int32} {mt : Int64} {cb mb cc mc key val gm ms sec inn sc su kept kd ln us ro ue : Rw} {ky : Nat → Rw} {kind len usage holder uses keys RO ST bx bk dg h inm k v msg re msec w x word : Rw} (hst : st ≤ 5) (ht : Rtb RO ST bx bk) (hb : Rb cb mb) (hc : Rcn cc mc) (hs : Rsl kd ln us ro ue ky kind len usage holder uses keys) (hw : Rwk cnt kept words word) (hh : (hl = 0 ∧ ill = 1) ∨ (hl = 1 ∧ ill = 0)) (hg : Rg bg rq key val made mrq k v) :
    ∃ (r bg' rq' cnt' fl' tot' made' mrq' words' scs' : Int32) (mt' : Int64) (cc' mc' key' gm' val' ms' sec' inn' sc' su' kept' kd' ln' us' ro' ue' : Rw) (ky' : Nat → Rw) (kind' len' usage' holder' uses' keys' dg' h' inm' k' v' msg' re' msec' w' x' word' : Rw),
      f_X9_make p1 p2 p3 p4 p5 p6 (nI st) cb cc bg rq key gm val ms sec fl tot inn sc su cnt hl kept kd ln ro us ue ky = some (r, cc', bg', rq', key', gm', val', ms', sec', fl', tot', inn', sc', su', cnt', kept', kd', ln', ro', us', ue', ky') ∧
      f_X10_make p1 p2 p3 p4 p5 p6 ill made mrq scs (nI st) thr mt words RO ST mb mc dg h holder inm k keys kind len msg re msec usage uses v w word x = some (r, made', mrq', scs', 0, mt', words', mc', dg', h', holder', inm', k', keys', kind', len', msg', re', msec', usage', uses', v', w', word', x') ∧
      Rcn cc' mc' ∧ Rsl kd' ln' us' ro' ue' ky' kind' len' usage' holder' uses' keys' ∧ Rwk cnt' kept' words' word' ∧ Rg bg' rq' key' val' made' mrq' k' v' := by
  obtain ⟨a, e1, e2, g⟩ := p_refuse (p1 := p1) (p2 := p2) (p3 := p3) (p4 := p4) (p5 := p5) (p6 := p6) hst hs
  have hw0 := hw
  obtain ⟨c, rfl, rfl, hc64, hkw⟩ := hw
  rcases g with ⟨g1, g2⟩ | ⟨rfl, -, s, kk, ug, hhh, n, hs16, rfl, hk, rfl, hu, rfl, hh2, rfl, hn, hn2, rfl, hkn⟩
  · obtain ⟨cc', mc', e3, e4, g3⟩ := p_counted a hc
    refine ⟨a, bg, rq, nI c, fl, tot, made, mrq, nI c, scs, mt, cc', mc', key, gm, val, ms, sec, inn, sc, su, kept, kd, ln, us, ro, ue, ky, kind, len, usage, holder, uses, keys, dg, h, inm, k, v, msg, re, msec, w, x, word, ?_, ?_, g3, hs, hw0, hg⟩
    · simp only [f_X9_make, e1, zbE, zjE, g1, ite_false, e3]
    · simp only [f_X10_make, e2, zbE, zjE, g1, g2, ite_false, e4]
  · obtain ⟨r, c1, c2, c3⟩ := c_can (cnt := nI c) (words := nI c) (kept := kept) (word := word) hg hh hc64
    have zt : ∀ {α : Type} {d : Decidable (¬ (nI s < 0 ∨ 16 ≤ s))} (x : Option α), @zk α (¬ (nI s < 0 ∨ 16 ≤ s)) d x = x := fun x => zki hs16 (by omega) x
    have cl : (nI s).toNatClampNeg = s := nI_clamp (by omega)
    rcases c3 with rfl | ⟨rfl, hnd⟩
    · obtain ⟨cc', mc', e3, e4, g3⟩ := p_counted (-8) hc
      refine ⟨-8, bg, rq, nI c, fl, tot, made, mrq, nI c, scs, mt, cc', mc', key, gm, val, ms, sec, inn, sc, su, kept, kd, ln, us, ro, ue, ky, kind, len, usage, holder, uses, keys, dg, h, inm, k, v, msg, re, msec, w, x, word, ?_, ?_, g3, hs, hw0, hg⟩
      · simp (decide := true) only [f_X9_make, f_X9_drawn_1t_secret, e1, zbE, zjE, c_need hg, c1, ite_true, ite_false, e3]
      · simp (decide := true) only [f_X10_make, e2, zbE, zjE, c2, ite_true, ite_false, e4]
    · obtain ⟨cc', mc', e3, e4, g3⟩ := p_counted 0 hc
      obtain ⟨key', gm', val', ms', sec', inn', sc', su', ed, r1, r2⟩ := c_drawnS (a := 0) (n := n) (m := 0) (wd := word) hg hkw hc64 hnd c1 hb (by omega) (by omega) gm ms sec fl tot inn sc su
      obtain ⟨scs', mt', dg', h', inm', k', msg', re', msec', v', w', x', em, r3, r4, r5⟩ := m_gen ht (n := n) (m := 0) (c := c) (wd := word) hg (bu := mb) (fun j hj => by omega) (by omega) (by omega) hc64 hnd scs mt dg h inm msg re msec w x
      obtain ⟨u1, u2⟩ := gK1_u hg word
      have ed' : f_X9_drawn_1t_secret (0 : Int32) (nI n) (0 : Int32) cb bg rq key gm val ms sec fl tot inn sc su (nI c) hl kept = _ := ed
      have em' : f_X10_generate (nI n) (0 : Int32) made mrq scs mt (nI c) RO ST mb dg h inm k msg re msec v w word x = _ := em
      obtain ⟨O, hO⟩ : ∃ O, O = drG (gK1 made mrq k v word) (gV1 made mrq k v word) mb 0 := ⟨_, rfl⟩
      rw [← hO] at ed' r5
      have uO : ∀ t, O t &&& 255 = O t := fun t => by rw [hO]; exact drG_u mb 0 u1 u2 t
      obtain ⟨secO, hsec⟩ : ∃ q, q = zrow 0 n (fun t => sB (O t)) sec' := ⟨_, rfl⟩
      rw [← hsec] at ed'
      have hsecO : ∀ i, i < n → secO (0 + i) = sB (O i) := fun i hi => by rw [hsec, Nat.zero_add, zrow_0 hi]
      have ef : f_X8_fill 80 s (nI kk) (nI ug) (nI hhh) p5 (0 : Int32) (nI n) secO kd ln ro us ue ky = some (upd kd s (nI kk), upd ln s (nI n), upd ro s (nI hhh), upd us s (nI ug), upd ue s p5, va_up ky s (zrow 0 n (fun t => secO (0 + t)) (ky s))) := p_fill (a := 0) (by omega) hn2 (by omega) (fun i hi => by rw [hsecO i hi]; exact RB_fit (n := 1) (m := fun _ => O i) (fun _ _ => rfl) (j := 0) (by omega))
      refine ⟨0, 1, gQ1 made mrq + 1, nI (c - gNeed made mrq), 0, 96, 1, gQ1 made mrq + 1, nI (c - gNeed made mrq), scs', mt', cc', mc', key', gm', val', ms', zrow 0 80 (fun _ => 0) secO, inn', sc', su', zrow 0 (c - gNeed made mrq) (fun i => kept (i + gNeed made mrq)) kept, upd kd s (nI kk), upd ln s (nI n), upd us s (nI ug), upd ro s (nI hhh), upd ue s p5, va_up ky s (zrow 0 n (fun t => secO (0 + t)) (ky s)), upd kind s (nI kk), upd len s (nI n), upd usage s (nI ug), upd holder s (nI hhh), upd uses s p5, zrow (64 * s) n (fun i => re' (64 + i)) keys, dg', h', inm', k', v', msg', re', msec', w', x', _, ?_, ?_, g3, Rsl_fill (f := fun t => secO (0 + t)) (d := fun i => re' (64 + i)) (e := p5) hs hs16 hk hn hn2 hkn hu hh2 (fun i hi => by rw [hsecO i hi, r5 i hi]) (fun i hi => by show re' (64 + i) &&& 255 = re' (64 + i); rw [r5 i hi]; exact uO i), Rwk_aft hkw hc64 hnd, Rg_aft hg r1 r2 r3 r4⟩
      · simp (decide := true) only [f_X9_make, f_X9_forgetSecret, e1, zbE, zjE, ed', cl, zt, ite_true, ite_false, ef, p_J7_fillB (N := 80) 0 secO (by decide) (by omega), e3]
      · simp (decide := true) only [f_X10_make, e2, zbE, zjE, c2, em', p_mfill hs16, ite_true, ite_false, l_make71 _ _ _ hs16 hn2, e4]
