/-! keys that are set; the method wrap -/
theorem p_keys {s n : Nat} {ln len keys bx : Rw} {ky : Nat → Rw} (hs : s < 16) (hl : ln s = nI n) (hl2 : len s = nI n) (hn : n = 16 ∨ n = 32) (hk : RB n (ky s) (fun i => keys (64 * s + i))) (uk : isU8 (fun i => keys (64 * s + i)) n) (hbx : ∀ k, k < 256 → bx k = tb_BOX.getD k 0) (rd mrd : Int32) (ak rn : Rw) :
    ∃ R ak' rn', 1 ≤ R ∧ R ≤ 14 ∧ f_X0_setKey_1PK s (ln s) rd ak ky = some (nI R, ak') ∧ f_X10_schedule (nI s) mrd bx keys len rn = some (nI R, rn') ∧ (∀ t, t < 16 * (R + 1) → kB ak' t = rn' t) ∧ isU8 rn' (16 * (R + 1)) := by
  obtain ⟨nk, hnk, rfl⟩ : ∃ nk, (nk = 4 ∨ nk = 8) ∧ n = 4 * nk := by
    rcases hn with rfl | rfl
    · exact ⟨4, Or.inl rfl, rfl⟩
    · exact ⟨8, Or.inr rfl, rfl⟩
  obtain ⟨ak', e1, g1, g2⟩ := p_X0_setKey (N := 64) hnk rd ak (ky s) (by omega) (by omega)
  obtain ⟨rn', e2, g3, g4, g5⟩ := p_X10_schedule hnk hs mrd rn hbx hl2 (fun t ht => uk t ht)
  refine ⟨nk + 6, ak', rn', by omega, by omega, ?_, e2, ?_, g5⟩
  · rw [p_X0_setKey_PK, hl]
    exact e1
  · exact kx_both hnk g1 g3 (fun t ht => by rw [g2 t ht, g4 t ht]; exact RB_u hk uk ht)
theorem p_J7_fillE {N a e : Nat} (v : Int32) (f : Rw) (hv : v.toInt8.toInt32 = v) (h : a ≤ e) (he : e ≤ N) (hN : N ≤ 1500) : f_J7_fill_eb02e N (nI a) (nI e) v f = some (zrow a (e - a) (fun _ => v) f) := by
  unfold f_J7_fill_eb02e f_J7_rangeCheck_23922
  have e0 : Int32.ofNat N = nI N := rfl
  rw [e0, if_pos (nI_le h (by omega)), if_pos (nI_pos' (by omega)), if_pos (show nI e ≤ nI N from nI_le he (by omega)), zbE, zjE]
  have ev : vp_nar .byte v = v := by rw [← hv]; exact pk_vb v
  have h0 : nI a = nI (a + 0) := by rw [Nat.add_zero]
  rw [h0]
  refine zl_row (F := b_J7_fill_eb02e_10 N (nI e) v (fun r => some r)) (fun i f => (nI (a + i), f)) (fun r => some r) a (e - a) (fun _ => v) f (by omega) ?_ ?_
  · intro self f
    simp only [b_J7_fill_eb02e_10]
    exact if_pos (nI_le (by omega) (by omega))
  · intro self i f hi _
    simp (disch := omega) only [b_J7_fill_eb02e_10, zle, if_neg, zCl, zki, zki2, znE, zA, zlt2, ev]
    rfl
def wM (k ug h : Nat) (kk : Rw) : Rw := fun j => if j < 8 then 166 else if j = 8 then nI k else if j = 9 then nI ug else if j = 10 then nI h else if j < 16 then 0 else kk (j - 16)
theorem wM_u {k ug h L : Nat} {kk : Rw} (hk : k < 256) (hu : ug < 256) (hh : h < 256) (ukk : isU8 kk L) : isU8 (wM k ug h kk) (16 + L) := by
  intro j hj
  unfold wM
  by_cases h1 : j < 8
  · rw [if_pos h1]; rfl
  · rw [if_neg h1]
    by_cases h2 : j = 8
    · rw [if_pos h2]; exact nI_u hk
    · rw [if_neg h2]
      by_cases h3 : j = 9
      · rw [if_pos h3]; exact nI_u hu
      · rw [if_neg h3]
        by_cases h4 : j = 10
        · rw [if_pos h4]; exact nI_u hh
        · rw [if_neg h4]
          by_cases h5 : j < 16
          · rw [if_pos h5]; rfl
          · rw [if_neg h5]; exact ukk _ (by omega)
theorem zkT1 {α : Type} {d : Decidable True} (x : Option α) : @zk α True d x = x := if_pos trivial
theorem l_wrap209 (re : Rw) (K : Rw → Option _) : zl (b_X10_wrap_209 K) zF ((0 : Int32), re) = K (zrow 0 8 (fun _ => 166) re) := by
  refine zl_cpy (F := b_X10_wrap_209 K) 0 8 (fun _ => 166) re K (by omega) ?_ ?_
  · intro self f
    simp only [b_X10_wrap_209]
    exact if_pos (by decide)
  · intro self i f hi
    simp (disch := omega) only [b_X10_wrap_209, zle1, if_neg, zCl, zki, zki2, znE, zA, Nat.zero_add, zlt2]
theorem l_wrap235 {s : Nat} (holder kind usage re : Rw) (K : Rw → Option _) (hs : s < 16) : zl (b_X10_wrap_235 (nI s) holder kind usage K) zF ((0 : Int32), re) = K (zrow 8 8 (fun i => if i = 0 then kind s else if i = 1 then usage s else if i = 2 then holder s else 0) re) := by
  refine zl_cpy (F := b_X10_wrap_235 (nI s) holder kind usage K) 8 8 (fun i => if i = 0 then kind s else if i = 1 then usage s else if i = 2 then holder s else 0) re K (by omega) ?_ ?_
  · intro self f
    simp only [b_X10_wrap_235]
    exact if_pos (by decide)
  · intro self i f hi
    have e0 : (nI i = 0) = (i = 0) := propext (nI_eq (b := 0) (by omega) (by omega))
    by_cases h0 : i = 0
    · simp (disch := omega) only [b_X10_wrap_235, zle1, e0, if_neg, if_pos, zA2, zCl, zki, zki2, znE, zA, zlt2]
    · by_cases h1 : i = 1
      · simp (disch := omega) only [b_X10_wrap_235, zle1, zeq1, e0, if_neg, if_pos, zA2, zCl, zki, zki2, znE, zA, zlt2]
      · by_cases h2 : i = 2
        · simp (disch := omega) only [b_X10_wrap_235, zle1, zeq1, e0, if_neg, if_pos, zA2, zCl, zki, zki2, znE, zA, zlt2]
        · simp (disch := omega) only [b_X10_wrap_235, zle1, zeq1, e0, if_neg, if_pos, zA2, zCl, zki, zki2, znE, zA, zlt2]
theorem l_wrap306 {s L : Nat} (keys len re : Rw) (K : Rw → Option _) (hs : s < 16) (hl : len s = nI L) (hL : L ≤ 64) : zl (b_X10_wrap_306 (nI s) keys len K) zF ((0 : Int32), re) = K (zrow 16 L (fun i => keys (64 * s + i)) re) := by
  refine zl_cpy (F := b_X10_wrap_306 (nI s) keys len K) 16 L (fun i => keys (64 * s + i)) re K (by omega) ?_ ?_
  · intro self f
    simp only [b_X10_wrap_306]
    rw [zk_T (nI_in hs (by omega)), nI_clamp (by omega), hl]
    exact if_pos (nI_le (Nat.le_refl _) (by omega))
  · intro self i f hi
    simp (disch := omega) only [b_X10_wrap_306, zCl, zki, zki2, hl, zle, if_neg, zM, nI_add, zA2, znE, zA, zlt2]
theorem l_wrap506 {n : Nat} (re bu : Rw) (K : Rw → Option _) (hn : n ≤ 9) : zl (b_X10_wrap_506 (nI n) re K) zF ((0 : Int32), bu) = K (zrow 0 (8 + 8 * n) re bu) := by
  refine zl_cpy (F := b_X10_wrap_506 (nI n) re K) 0 (8 + 8 * n) re bu K (by omega) ?_ ?_
  · intro self f
    simp only [b_X10_wrap_506]
    rw [zM, zA2]
    exact if_pos (nI_le (Nat.le_refl _) (by omega))
  · intro self i f hi
    simp (disch := omega) only [b_X10_wrap_506, zM, zA2, zle, if_neg, zCl, zki, zki2, znE, zA, Nat.zero_add, zlt2]
set_option maxHeartbeats 8000000 in
theorem q_wrap {st : Nat} {p1 p2 rd mrd thr : Int32} {akeys cb cc bl sec kd ln us ro ue : Rw} {ky : Nat → Rw} {RO ST bx bk mbl mb mc holder keys kind len o re rn usage uses : Rw} (hst : st ≤ 5) (ht : Rtb RO ST bx bk) (hb : Rb cb mb) (hc : Rcn cc mc) (hs : Rsl kd ln us ro ue ky kind len usage holder uses keys) :
    ∃ (r rd' mrd' : Int32) (akeys' cb' cc' bl' sec' ue' mbl' mb' mc' o' re' rn' uses' : Rw), f_X9_wrap p1 p2 (nI st) rd akeys cb cc bl sec kd ln ro us ue ky = some (r, rd', akeys', cb', cc', bl', sec', ue') ∧ f_X10_wrap p1 p2 mrd (nI st) thr mbl bx mb mc holder keys kind len o re rn usage uses = some (r, mrd', 0, mbl', mb', mc', o', re', rn', uses') ∧ Rcn cc' mc' ∧ Rb cb' mb' ∧ Rsl kd ln us ro ue' ky kind len usage holder uses' keys := by
  have flat : ∀ a : Int32, f_X9_wrapAnswer p1 p2 (nI st) rd akeys cb bl sec kd ln ro us ue ky = some (a, rd, akeys, cb, bl, sec, ue) → (∀ mc', f_X10_answer a mc = some (a, mc') → f_X10_wrap p1 p2 mrd (nI st) thr mbl bx mb mc holder keys kind len o re rn usage uses = some (a, mrd, 0, mbl, mb, mc', o, re, rn, uses)) → ∃ (r rd' mrd' : Int32) (akeys' cb' cc' bl' sec' ue' mbl' mb' mc' o' re' rn' uses' : Rw), f_X9_wrap p1 p2 (nI st) rd akeys cb cc bl sec kd ln ro us ue ky = some (r, rd', akeys', cb', cc', bl', sec', ue') ∧ f_X10_wrap p1 p2 mrd (nI st) thr mbl bx mb mc holder keys kind len o re rn usage uses = some (r, mrd', 0, mbl', mb', mc', o', re', rn', uses') ∧ Rcn cc' mc' ∧ Rb cb' mb' ∧ Rsl kd ln us ro ue' ky kind len usage holder uses' keys := by
    intro a h1 h2
    obtain ⟨cc', mc', e3, e4, g3⟩ := p_counted a hc
    refine ⟨a, rd, mrd, akeys, cb, cc', bl, sec, ue, mbl, mb, mc', o, re, rn, uses, ?_, h2 mc' e4, g3, hb, hs⟩
    simp only [f_X9_wrap, h1, zbE, e3]
  by_cases hin : st = 3 ∨ st = 4
  · have hin' : nI st = 3 ∨ nI st = 4 := (in34 hst).mpr hin
    by_cases c1 : 0 ≤ p1 ∧ p1 ≤ 15
    · by_cases c2 : 0 ≤ p2 ∧ p2 ≤ 15
      · by_cases c3 : p1 = p2
        · refine flat (-2) ?_ (fun mc' e => ?_)
          · simp (decide := true) only [f_X9_wrapAnswer, p_logged, p_isSlot, hin', c1, c2, c3, and_self, zbE, ite_true, ite_false]
          · unfold f_X10_wrap
            rw [p_isIn, zbE, if_pos hin', if_neg (by decide), p_in, zbE, if_pos c1, if_neg (by decide), p_in, zbE, if_pos c2, if_neg (by decide), if_pos c3, e, zbE]
        · obtain ⟨s, hs16, rfl⟩ := in16 c1
          obtain ⟨f, hf16, rfl⟩ := in16 c2
          have hsf : s ≠ f := fun q => c3 (by rw [q])
          have zts : ∀ {α : Type} {d : Decidable (¬ (nI s < 0 ∨ 16 ≤ s))} (x : Option α), @zk α (¬ (nI s < 0 ∨ 16 ≤ s)) d x = x := fun x => zki hs16 (by omega) x
          have cls : (nI s).toNatClampNeg = s := nI_clamp (by omega)
          have ztf : ∀ {α : Type} {d : Decidable (¬ (nI f < 0 ∨ 16 ≤ f))} (x : Option α), @zk α (¬ (nI f < 0 ∨ 16 ≤ f)) d x = x := fun x => zki hf16 (by omega) x
          have clf : (nI f).toNatClampNeg = f := nI_clamp (by omega)
          have h80 : ¬ (8 : Int32) = 0 := by decide
          have z8 : ∀ {α : Type} {d : Decidable (¬ (8 : Int32) = 0)} (x : Option α), @zk α (¬ (8 : Int32) = 0) d x = x := fun x => if_pos h80
          have flat2 : ∀ a : Int32, ¬ a = 0 → f_X9_wrapKeysRefusal s f (nI st) kd ln ro us ue = some a → (∀ mc', f_X10_answer a mc = some (a, mc') → f_X10_wrap (nI s) (nI f) mrd (nI st) thr mbl bx mb mc holder keys kind len o re rn usage uses = some (a, mrd, 0, mbl, mb, mc', o, re, rn, uses)) → ∃ (r rd' mrd' : Int32) (akeys' cb' cc' bl' sec' ue' mbl' mb' mc' o' re' rn' uses' : Rw), f_X9_wrap (nI s) (nI f) (nI st) rd akeys cb cc bl sec kd ln ro us ue ky = some (r, rd', akeys', cb', cc', bl', sec', ue') ∧ f_X10_wrap (nI s) (nI f) mrd (nI st) thr mbl bx mb mc holder keys kind len o re rn usage uses = some (r, mrd', 0, mbl', mb', mc', o', re', rn', uses') ∧ Rcn cc' mc' ∧ Rb cb' mb' ∧ Rsl kd ln us ro ue' ky kind len usage holder uses' keys := by
            intro a ha h1 h2
            refine flat a ?_ h2
            simp (decide := true) only [f_X9_wrapAnswer, p_logged, p_isSlot, hin', c1, c2, c3, zts, ztf, cls, clf, h1, ha, and_self, zbE, ite_true, ite_false]
          obtain ⟨o1, f1, f2, ho1⟩ := p_foreign hin hs hs16
          obtain ⟨o2, f3, f4, ho2⟩ := p_foreign hin hs hf16
          rcases ho1 with rfl | rfl
          · rcases ho2 with rfl | rfl
            · rcases hs s hs16 with ⟨q1, q2⟩ | hrs
              · skip
                refine flat2 (-4) (by decide) ?_ (fun mc' e => ?_)
                · simp (decide := true) only [f_X9_wrapKeysRefusal, p_empty, p_allows, zbE, ite_true, ite_false, and_self, z8, zkT1, f1, f3, q1]
                · simp (decide := true) only [f_X10_wrap, p_isIn, p_in, zbE, zjE, ite_true, ite_false, and_self, hin', c1, c2, c3, zts, ztf, cls, clf, z8, zkT1, f2, f4, q2, e]
              · obtain ⟨i1, i2, i3⟩ := Rs1_ne hrs
                rcases hs f hf16 with ⟨q1, q2⟩ | hrf
                · skip
                  refine flat2 (-4) (by decide) ?_ (fun mc' e => ?_)
                  · simp (decide := true) only [f_X9_wrapKeysRefusal, p_empty, p_allows, zbE, ite_true, ite_false, and_self, z8, zkT1, f1, f3, i1, q1]
                  · simp (decide := true) only [f_X10_wrap, p_isIn, p_in, zbE, zjE, ite_true, ite_false, and_self, hin', c1, c2, c3, zts, ztf, cls, clf, z8, zkT1, f2, f4, i2, q2, e]
                · obtain ⟨j1, j2, j3⟩ := Rs1_ne hrf
                  obtain ⟨k, L, ug, hh, hk, r1, r2, r3, r4, r5, r6, r7, r8, r9, r10, r11, r12, r13, r14, r15, r16⟩ := hrs
                  obtain ⟨k2, L2, ug2, hh2, hk2, t1, t2, t3, t4, t5, t6, t7, t8, t9, t10, t11, t12, t13, t14, t15, t16⟩ := hrf
                  have em : nI L - nI L / (8 : Int32) * (8 : Int32) = nI (L % 8) := nI_mod (n := 8) (by omega) (by omega) (by omega)
                  by_cases hk1 : k2 = 1
                  · subst hk1
                    have e1c : kd f = 1 := t1
                    have e1m : kind f = 1 := t2
                    by_cases hL8 : L % 8 = 0
                    · have em0 : nI (L % 8) = 0 := by rw [hL8]; rfl
                      have em1 : nI (L % 8) ≤ 0 := by rw [hL8]; decide
                      by_cases c4 : nI ug2 &&& 16 = 0
                      · skip
                        refine flat2 (-6) (by decide) ?_ (fun mc' e => ?_)
                        · simp (decide := true) only [f_X9_wrapKeysRefusal, p_empty, p_allows, zbE, ite_true, ite_false, and_self, z8, zkT1, f1, f3, i1, j1, e1c, r3, em, em0, t8, c4]
                        · simp (decide := true) only [f_X10_wrap, p_isIn, p_in, zbE, zjE, ite_true, ite_false, and_self, hin', c1, c2, c3, zts, ztf, cls, clf, z8, zkT1, f2, f4, i2, j2, e1m, r4, em, em1, t9, c4, e]
                      · by_cases c5 : nI ug &&& 32 = 0
                        · skip
                          refine flat2 (-6) (by decide) ?_ (fun mc' e => ?_)
                          · simp (decide := true) only [f_X9_wrapKeysRefusal, p_empty, p_allows, zbE, ite_true, ite_false, and_self, z8, zkT1, f1, f3, i1, j1, e1c, r3, em, em0, t8, c4, r8, c5]
                          · simp (decide := true) only [f_X10_wrap, p_isIn, p_in, zbE, zjE, ite_true, ite_false, and_self, hin', c1, c2, c3, zts, ztf, cls, clf, z8, zkT1, f2, f4, i2, j2, e1m, r4, em, em1, t9, c4, r9, c5, e]
                        · by_cases c6 : uses s = 0
                          · skip
                            refine flat2 (-7) (by decide) ?_ (fun mc' e => ?_)
                            · simp (decide := true) only [f_X9_wrapKeysRefusal, p_empty, p_allows, zbE, ite_true, ite_false, and_self, z8, zkT1, f1, f3, i1, j1, e1c, r3, em, em0, t8, c4, r8, c5, r14, c6]
                            · simp (decide := true) only [f_X10_wrap, p_isIn, p_in, zbE, zjE, ite_true, ite_false, and_self, hin', c1, c2, c3, zts, ztf, cls, clf, z8, zkT1, f2, f4, i2, j2, e1m, r4, em, em1, t9, c4, r9, c5, c6, e]
                          · by_cases c7 : uses f = 0
                            · skip
                              refine flat2 (-7) (by decide) ?_ (fun mc' e => ?_)
                              · simp (decide := true) only [f_X9_wrapKeysRefusal, p_empty, p_allows, zbE, ite_true, ite_false, and_self, z8, zkT1, f1, f3, i1, j1, e1c, r3, em, em0, t8, c4, r8, c5, r14, c6, t14, c7]
                              · simp (decide := true) only [f_X10_wrap, p_isIn, p_in, zbE, zjE, ite_true, ite_false, and_self, hin', c1, c2, c3, zts, ztf, cls, clf, z8, zkT1, f2, f4, i2, j2, e1m, r4, em, em1, t9, c4, r9, c5, c6, c7, e]
                            · obtain ⟨l, hl⟩ : ∃ l, L = 8 * l := ⟨L / 8, by omega⟩
                              subst hl
                              obtain ⟨ue1, uses1, u1, u2, u3, u4⟩ := p_use hs16 r14
                              have h14' : ue1 f = uses1 f := by rw [(u4 f hsf.symm).1, (u4 f hsf.symm).2]; exact t14
                              obtain ⟨ue2, uses2, v1, v2, v3, v4⟩ := p_use hf16 h14'
                              have hrs' := Rsl_use (Rsl_use hs u3 u4) v3 v4
                              obtain ⟨R, ak', rn', hR1, hR2, ek, es, gk, uk⟩ := p_keys hf16 t3 t4 (t7 rfl) t15 t16 ht.2.2.1 rd mrd akeys rn
                              obtain ⟨M, hM⟩ : ∃ M, M = wM k ug hh (fun i => keys (64 * s + i)) := ⟨_, rfl⟩
                              have uM : isU8 M (8 + 8 * (l + 1)) := by
                                rw [hM, show 8 + 8 * (l + 1) = 16 + 8 * l by omega]
                                exact wM_u (by omega) (by omega) (by omega) r16
                              obtain ⟨secA, hsecA⟩ : ∃ q, q = zrow 11 (16 - 11) (fun _ => (0 : Int32)) (upd (upd (upd sec 8 (sB (nI k))) 9 (sB (nI ug))) 10 (sB (nI hh))) := ⟨_, rfl⟩
                              obtain ⟨secB, hsecB⟩ : ∃ q, q = zrow 16 (8 * l) (fun t => ky s (0 + t)) secA := ⟨_, rfl⟩
                              have hsb : ∀ j, 8 ≤ j → j < 8 + 8 * (l + 1) → secB j = sB (M j) := by
                                intro j h8 hj
                                rw [hsecB, hM]
                                unfold wM
                                rw [if_neg (by omega)]
                                by_cases d16 : j < 16
                                · rw [zrow_out (by omega), hsecA]
                                  by_cases d8 : j = 8
                                  · rw [if_pos d8, zrow_out (by omega), upd_n _ _ (by omega), upd_n _ _ (by omega), d8, upd_s]
                                  · rw [if_neg d8]
                                    by_cases d9 : j = 9
                                    · rw [if_pos d9, zrow_out (by omega), upd_n _ _ (by omega), d9, upd_s]
                                    · rw [if_neg d9]
                                      by_cases d10 : j = 10
                                      · rw [if_pos d10, zrow_out (by omega), d10, upd_s]
                                      · rw [if_neg d10, if_pos d16, zrow_in (by omega) (by omega)]
                                        rfl
                                · rw [zrow_in (by omega) (by omega), if_neg (by omega), if_neg (by omega), if_neg (by omega), if_neg d16, Nat.zero_add]
                                  exact r15 _ (by omega)
                              obtain ⟨bl', secC, ew, gw⟩ := p_X4_wrapIn (N := 80) (n := l + 1) (M := M) (c := secB) bl (by omega) (by omega) (by omega) (by omega) (fun j hj => by rw [hM]; exact if_pos hj) hsb uM hR1 hR2 gk uk
                              obtain ⟨W, hW⟩ : ∃ W, W = zis (wS (aesE rn' R) (l + 1)) M (6 * (l + 1)) := ⟨_, rfl⟩
                              have uW : isU8 W (8 + 8 * (l + 1)) := by rw [hW]; exact zis_u (fun k s hk => wS_u (fun s hs => aesE_u hs hR1 uk) (by omega) (show k < 255 by omega)) uM _ (Nat.le_refl _)
                              rw [← hW] at gw
                              obtain ⟨cc', mc', e3, e4, g3⟩ := p_counted (nI (8 + 8 * (l + 1))) hc
                              have eref : f_X9_wrapKeysRefusal s f (nI st) kd ln ro us ue = some 0 := by
                                simp (decide := true) only [f_X9_wrapKeysRefusal, p_empty, p_allows, zbE, ite_true, ite_false, and_self, z8, zkT1, f1, f3, i1, j1, e1c, r3, em, em0, t8, c4, r8, c5, r14, c6, t14, c7]
                              have eby : f_X9_wrapBytes s f rd akeys cb bl sec kd ln ro us ue ky = some (nI (8 + 8 * (l + 1)), nI R, ak', zrow 0 (8 + 8 * (l + 1)) (fun t => secC (0 + t)) cb, bl', zrow 0 80 (fun _ => 0) secC, ue2) := by
                                have evb : ∀ x : Nat, vp_nar .byte ((nI x).toInt8.toInt32) = sB (nI x) := fun x => pk_vb _
                                have ef : ∀ q, f_J7_fill_eb02e 80 (11 : Int32) (16 : Int32) (0 : Int32) q = some (zrow 11 (16 - 11) (fun _ => 0) q) := fun q => p_J7_fillE (N := 80) (a := 11) (e := 16) 0 q (by decide) (by omega) (by omega) (by omega)
                                unfold f_X9_wrapBytes
                                rw [u1, zbE, v1, zbE, r3, zA, znE, r1, r8, r11, evb, evb, evb, show 8 * l + 16 = 8 + 8 * (l + 1) by omega]
                                simp (decide := true) only [zk_c, znE]
                                rw [show Int32.toNatClampNeg 8 = 8 by decide, show Int32.toNatClampNeg 9 = 9 by decide, show Int32.toNatClampNeg 10 = 10 by decide, ef, zbE, ← hsecA]
                                simp (disch := omega) only [zCl, zClk]
                                rw [zk_T ⟨by decide, by decide, nI_pos (by omega), by omega, by omega, fun i hi => by rw [Nat.zero_add]; exact RB_fit r15 hi⟩, cpE, ← hsecB, ek]
                                simp only [zbE]
                                rw [ew]
                                simp only [zbE]
                                rw [zk_T ⟨by decide, by decide, nI_pos (by omega), by omega, by omega, fun i hi => by rw [Nat.zero_add, gw i hi]; exact RB_fit (n := 1) (m := fun _ => W i) (fun _ _ => rfl) (j := 0) (by omega)⟩, cpE]
                                unfold f_X9_forgetSecret
                                rw [p_J7_fillB (N := 80) 0 secC (by decide) (by omega), zbE, zbE]
                              have hre : eqN (8 + 8 * (l + 1)) (zrow 16 (8 * l) (fun i => keys (64 * s + i)) (zrow 8 8 (fun i => if i = 0 then kind s else if i = 1 then usage s else if i = 2 then holder s else 0) (zrow 0 8 (fun _ => 166) re))) M := by
                                intro j hj
                                rw [hM]
                                unfold wM
                                by_cases d8 : j < 8
                                · rw [if_pos d8, zrow_out (by omega), zrow_out (by omega), zrow_0 d8]
                                · rw [if_neg d8]
                                  by_cases d16 : j < 16
                                  · rw [zrow_out (by omega), zrow_in (by omega) (by omega), r2, r9, r12]
                                    by_cases d0 : j = 8
                                    · rw [if_pos d0, if_pos (by omega)]
                                    · rw [if_neg d0, if_neg (by omega)]
                                      by_cases d9 : j = 9
                                      · rw [if_pos d9, if_pos (by omega)]
                                      · rw [if_neg d9, if_neg (by omega)]
                                        by_cases d10 : j = 10
                                        · rw [if_pos d10, if_pos (by omega)]
                                        · rw [if_neg d10, if_neg (by omega), if_pos d16]
                                  · rw [zrow_in (by omega) (by omega), if_neg (by omega), if_neg (by omega), if_neg (by omega), if_neg d16]
                              have emod : ∃ (mbl' o' re' : Rw), f_X10_wrap (nI s) (nI f) mrd (nI st) thr mbl bx mb mc holder keys kind len o re rn usage uses = some (nI (8 + 8 * (l + 1)), nI R, 0, mbl', zrow 0 (8 + 8 * (l + 1)) re' mb, mc', o', re', rn', uses2) ∧ eqN (8 + 8 * (l + 1)) re' W := by
                                simp (decide := true) only [f_X10_wrap, p_isIn, p_in, zbE, zjE, ite_true, ite_false, and_self, hin', c1, c2, c3, zts, ztf, cls, clf, z8, zkT1, f2, f4, i2, j2, e1m, r4, em, em1, t9, c4, r9, c5, c6, c7, u2, v2]
                                rw [zA2, zDv (by omega) (by decide) (by decide), znE, l_wrap209, l_wrap235 _ _ _ _ _ hs16, l_wrap306 _ _ _ _ hs16 r4 (by omega), es]
                                simp only [zbE]
                                rw [show (8 + 8 * l) / 8 = l + 1 by omega]
                                refine l_wrap353 (M := M) mbl o _ (fun q => ∃ (mbl' o' re' : Rw), q = some (nI (8 + 8 * (l + 1)), nI R, 0, mbl', zrow 0 (8 + 8 * (l + 1)) re' mb, mc', o', re', rn', uses2) ∧ eqN (8 + 8 * (l + 1)) re' W) (by omega) (by omega) hre uM ht.2.2.1 uk hR1 hR2 ?_
                                intro mbl' o' re' hre'
                                rw [l_wrap506 _ _ _ (by omega), zM, zA2, e4]
                                simp only [zbE]
                                exact ⟨mbl', o', re', rfl, by rw [hW]; exact hre'⟩
                              obtain ⟨mbl', o', re', em1', em2⟩ := emod
                              have hbb : Rb (zrow 0 (8 + 8 * (l + 1)) (fun t => secC (0 + t)) cb) (zrow 0 (8 + 8 * (l + 1)) re' mb) := by
                                refine ⟨?_, U_row hb.2 (fun j hj => by rw [em2 j hj]; exact uW j hj)⟩
                                intro j hj
                                by_cases q : j < 8 + 8 * (l + 1)
                                · rw [zrow_0 q, zrow_0 q, Nat.zero_add, gw j q, em2 j q]
                                · rw [zrow_out (by omega), zrow_out (by omega)]
                                  exact hb.1 j hj
                              refine ⟨nI (8 + 8 * (l + 1)), nI R, nI R, ak', zrow 0 (8 + 8 * (l + 1)) (fun t => secC (0 + t)) cb, cc', bl', zrow 0 80 (fun _ => 0) secC, ue2, mbl', zrow 0 (8 + 8 * (l + 1)) re' mb, mc', o', re', rn', uses2, ?_, em1', g3, hbb, hrs'⟩
                              simp (decide := true) only [f_X9_wrap, f_X9_wrapAnswer, p_logged, p_isSlot, hin', c1, c2, c3, zts, ztf, cls, clf, eref, eby, and_self, zbE, ite_true, ite_false, e3]
                    · have em0 : ¬ nI (L % 8) = 0 := fun q => hL8 ((nI_eq (b := 0) (by omega) (by omega)).mp q)
                      have em1 : ¬ nI (L % 8) ≤ 0 := nI_nle (by omega) (by omega)
                      refine flat2 (-5) (by decide) ?_ (fun mc' e => ?_)
                      · simp (decide := true) only [f_X9_wrapKeysRefusal, p_empty, p_allows, zbE, ite_true, ite_false, and_self, z8, zkT1, f1, f3, i1, j1, e1c, r3, em, em0]
                      · simp (decide := true) only [f_X10_wrap, p_isIn, p_in, zbE, zjE, ite_true, ite_false, and_self, hin', c1, c2, c3, zts, ztf, cls, clf, z8, zkT1, f2, f4, i2, j2, e1m, r4, em, em1, e]
                  · have e1c : ¬ kd f = 1 := by rw [t1]; exact fun q => hk1 ((nI_eq (b := 1) (by omega) (by omega)).mp q)
                    have e1m : ¬ kind f = 1 := by rw [t2]; exact fun q => hk1 ((nI_eq (b := 1) (by omega) (by omega)).mp q)
                    refine flat2 (-5) (by decide) ?_ (fun mc' e => ?_)
                    · simp (decide := true) only [f_X9_wrapKeysRefusal, p_empty, p_allows, zbE, ite_true, ite_false, and_self, z8, zkT1, f1, f3, i1, j1, e1c]
                    · simp (decide := true) only [f_X10_wrap, p_isIn, p_in, zbE, zjE, ite_true, ite_false, and_self, hin', c1, c2, c3, zts, ztf, cls, clf, z8, zkT1, f2, f4, i2, j2, e1m, e]
            · skip
              refine flat2 (-3) (by decide) ?_ (fun mc' e => ?_)
              · simp (decide := true) only [f_X9_wrapKeysRefusal, p_empty, p_allows, zbE, ite_true, ite_false, and_self, z8, zkT1, f1, f3]
              · simp (decide := true) only [f_X10_wrap, p_isIn, p_in, zbE, zjE, ite_true, ite_false, and_self, hin', c1, c2, c3, zts, ztf, cls, clf, z8, zkT1, f2, f4, e]
          · skip
            refine flat2 (-3) (by decide) ?_ (fun mc' e => ?_)
            · simp (decide := true) only [f_X9_wrapKeysRefusal, p_empty, p_allows, zbE, ite_true, ite_false, and_self, z8, zkT1, f1]
            · simp (decide := true) only [f_X10_wrap, p_isIn, p_in, zbE, zjE, ite_true, ite_false, and_self, hin', c1, c2, c3, zts, ztf, cls, clf, z8, zkT1, f2, e]
      · refine flat (-2) ?_ (fun mc' e => ?_)
        · simp (decide := true) only [f_X9_wrapAnswer, p_logged, p_isSlot, hin', c1, c2, and_self, zbE, ite_true, ite_false]
        · unfold f_X10_wrap
          rw [p_isIn, zbE, if_pos hin', if_neg (by decide), p_in, zbE, if_pos c1, if_neg (by decide), p_in, zbE, if_neg c2, if_pos rfl, e, zbE]
    · refine flat (-2) ?_ (fun mc' e => ?_)
      · simp (decide := true) only [f_X9_wrapAnswer, p_logged, p_isSlot, hin', c1, zbE, ite_true, ite_false]
      · unfold f_X10_wrap
        rw [p_isIn, zbE, if_pos hin', if_neg (by decide), p_in, zbE, if_neg c1, if_pos rfl, e, zbE]
  · have hin' : ¬ (nI st = 3 ∨ nI st = 4) := fun q => hin ((in34 hst).mp q)
    refine flat (-1) ?_ (fun mc' e => ?_)
    · simp (decide := true) only [f_X9_wrapAnswer, p_logged, hin', zbE, ite_true, ite_false]
    · unfold f_X10_wrap
      rw [p_isIn, zbE, if_neg hin', if_pos rfl, e, zbE]
