/-! the method selfTestStep -/
theorem zl_two {σ τ ρ σ' τ' ρ' : Type} {F : (τ → Option ρ) → τ → Option ρ} {G : (τ' → Option ρ') → τ' → Option ρ'} (e : Nat → σ → τ) (e' : Nat → σ' → τ') (I : Nat → σ → σ' → Prop) (n : Nat) (Q : Option ρ → Option ρ' → Prop) (s0 : σ) (s0' : σ') (hn : n ≤ 1500) (h0 : I 0 s0 s0')
    (hx : ∀ self self' s s', I n s s' → Q (F self (e n s)) (G self' (e' n s')))
    (hs : ∀ i s s', i < n → I i s s' → (∃ t t', I (i + 1) t t' ∧ (∀ self, F self (e i s) = self (e (i + 1) t)) ∧ (∀ self', G self' (e' i s') = self' (e' (i + 1) t'))) ∨ (∀ self self', Q (F self (e i s)) (G self' (e' i s')))) : Q (zl F zF (e 0 s0)) (zl G zF (e' 0 s0')) := by
  have key : ∀ (k i : Nat) (s : σ) (s' : σ'), i + k = n → I i s s' → ∀ m, k < m → Q (zl F m (e i s)) (zl G m (e' i s')) := by
    intro k
    induction k with
    | zero =>
      intro i s s' hi hI m hm
      obtain ⟨q, rfl⟩ : ∃ q, m = q + 1 := ⟨m - 1, by omega⟩
      have : i = n := by omega
      subst this
      exact hx _ _ _ _ hI
    | succ k ih =>
      intro i s s' hi hI m hm
      obtain ⟨q, rfl⟩ : ∃ q, m = q + 1 := ⟨m - 1, by omega⟩
      rcases hs i s s' (by omega) hI with ⟨t, t', h1, h2, h3⟩ | h
      · show Q (F (zl F q) (e i s)) (G (zl G q) (e' i s'))
        rw [h2, h3]
        exact ih (i + 1) t t' (by omega) h1 q (by omega)
      · exact h _ _
  exact key n 0 s0 s0' (by omega) h0 zF (by have := zF_big; omega)
def StR (st0 : Nat) (oc : Option (Int32 × Int32 × Int32 × Int32 × Rw × Rw × Int64 × Int64 × Int64 × Int64 × Rw × Rw × Rw × Int32 × Int32 × Rw × Rw × Rw × Int32 × Int32 × Rw × Rw × Rw × Rw × Rw)) (om : Option (Int32 × Int32 × Int32 × Int32 × Rw)) : Prop :=
  ∃ (r : Int32) (st td : Nat) (rd' fl' tot' tbg' trq' : Int32) (kh' kl' sh' sl' : Int64) (ak' cc' tag' mbk' mpd' inn' sc' su' tgk' tgm' tgv' tkey' twork' mc' : Rw), oc = some (r, nI st, nI td, rd', ak', cc', kh', kl', sh', sl', tag', mbk', mpd', fl', tot', inn', sc', su', tbg', trq', tgk', tgm', tgv', tkey', twork') ∧ om = some (r, nI st, nI td, 0, mc') ∧ st ≤ 5 ∧ td ≤ 10 ∧ (st = 1 → td < 10) ∧ (st = st0 ∨ ((st0 = 1 ∨ st0 = 5) ∧ (st = 1 ∨ st = 2 ∨ st = 5))) ∧ Rcn cc' mc' ∧ Bt 64 twork'
theorem StR_mk {st0 : Nat} {oc : Option (Int32 × Int32 × Int32 × Int32 × Rw × Rw × Int64 × Int64 × Int64 × Int64 × Rw × Rw × Rw × Int32 × Int32 × Rw × Rw × Rw × Int32 × Int32 × Rw × Rw × Rw × Rw × Rw)} {om : Option (Int32 × Int32 × Int32 × Int32 × Rw)} {r : Int32} {st td : Nat} {rd' fl' tot' tbg' trq' : Int32} {kh' kl' sh' sl' : Int64} {ak' cc' tag' mbk' mpd' inn' sc' su' tgk' tgm' tgv' tkey' twork' mc' : Rw} (e1 : oc = some (r, nI st, nI td, rd', ak', cc', kh', kl', sh', sl', tag', mbk', mpd', fl', tot', inn', sc', su', tbg', trq', tgk', tgm', tgv', tkey', twork')) (e2 : om = some (r, nI st, nI td, 0, mc')) (h1 : st ≤ 5) (h2 : td ≤ 10) (h3 : st = 1 → td < 10) (h4 : st = st0 ∨ ((st0 = 1 ∨ st0 = 5) ∧ (st = 1 ∨ st = 2 ∨ st = 5))) (h5 : Rcn cc' mc') (h6 : Bt 64 twork') : StR st0 oc om := ⟨r, st, td, rd', fl', tot', tbg', trq', kh', kl', sh', sl', ak', cc', tag', mbk', mpd', inn', sc', su', tgk', tgm', tgv', tkey', twork', mc', e1, e2, h1, h2, h3, h4, h5, h6⟩
def JS : (Rw × Int32 × Rw × Int64 × Int64 × Int64 × Int64 × Rw × Rw × Rw × Int32 × Rw × Rw × Rw × Int32 × Int32 × Int32 × Int32 × Rw × Rw × Int32 × Rw × Rw × Rw) → (Rw × Int32 × Int32) → Prop
  | (ak, rd, cc, kh, kl, sh, sl, tag, mbk, mpd, fl, inn, sc, su, tot, cst, ctd, tbg, tgk, tgm, trq, tgv, tkey, twork), (mc, mst, mtd) => ∃ st td : Nat, cst = nI st ∧ ctd = nI td ∧ mst = nI st ∧ mtd = nI td ∧ (st = 1 ∨ st = 2 ∨ st = 5) ∧ td ≤ 10 ∧ (st = 1 → td < 10) ∧ Rcn cc mc ∧ Bt 64 twork
theorem Rcn_2 {cc mc : Rw} (h : Rcn cc mc) : Rcn (upd cc 2 (cc 2 + 1)) (upd mc 2 (mc 2 + 1)) := by
  intro j hj
  by_cases q : j = 2
  · rw [q, upd_s, upd_s, h 2 (by omega)]
  · rw [upd_n _ _ q, upd_n _ _ q]; exact h j hj
set_option maxHeartbeats 8000000 in
theorem q_selfTestStep {st td : Nat} {p1 cf thr : Int32} {rd fl tot tbg trq : Int32} {kh kl sh sl : Int64} {ak cc tag mbk mpd inn sc su tgk tgm tgv tkey twork mc mf : Rw} (hst : st ≤ 5) (htd : td ≤ 10) (h1 : st = 1 → td < 10) (hf : Rf cf mf) (hc : Rcn cc mc) (hw : Bt 64 twork) :
    StR st (f_X9_selfTestStep p1 cf (nI st) (nI td) rd ak cc kh kl sh sl tag mbk mpd fl tot inn sc su tbg trq tgk tgm tgv tkey twork) (f_X10_selfTestStep p1 (nI st) (nI td) thr mc mf) := by
  by_cases c1 : 0 ≤ p1 ∧ p1 ≤ 10
  · have ca : ¬ p1 < 0 := Int32.not_lt.mpr c1.1
    have cb : ¬ 10 < p1 := Int32.not_lt.mpr c1.2
    by_cases cs : st = 1 ∨ st = 5
    · obtain ⟨n, hn, rfl⟩ := in_nat (b := 10) (by omega) c1.1 c1.2
      have cs' : nI st = 1 ∨ nI st = 5 := by
        rcases cs with rfl | rfl
        · exact Or.inl rfl
        · exact Or.inr rfl
      have ec : f_X9_selfTestStep (nI n) cf (nI st) (nI td) rd ak cc kh kl sh sl tag mbk mpd fl tot inn sc su tbg trq tgk tgm tgv tkey twork = zl (b_X9_selfTestStep_31 (nI n) cf (fun x_ak x_rd x_cc x_kh x_kl x_sh x_sl x_tag x_mbk x_mpd x_fl x_inn x_sc x_su x_tot x_cst x_ctd x_tbg x_tgk x_tgm x_trq x_tgv x_tkey x_twork => if x_cst = (5 : Int32) then some ((-1 : Int32), x_cst, x_ctd, x_rd, x_ak, x_cc, x_kh, x_kl, x_sh, x_sl, x_tag, x_mbk, x_mpd, x_fl, x_tot, x_inn, x_sc, x_su, x_tbg, x_trq, x_tgk, x_tgm, x_tgv, x_tkey, x_twork) else some (((10 : Int32) - x_ctd), x_cst, x_ctd, x_rd, x_ak, x_cc, x_kh, x_kl, x_sh, x_sl, x_tag, x_mbk, x_mpd, x_fl, x_tot, x_inn, x_sc, x_su, x_tbg, x_trq, x_tgk, x_tgm, x_tgv, x_tkey, x_twork))) zF ((0 : Int32), ak, rd, cc, kh, kl, sh, sl, tag, mbk, mpd, fl, inn, sc, su, tot, nI st, nI td, tbg, tgk, tgm, trq, tgv, tkey, twork) := by
        unfold f_X9_selfTestStep
        rw [if_neg ca, if_neg cb, zjE, zjE]
        rcases cs' with q | q
        · rw [if_pos q]
        · by_cases q2 : nI st = 1
          · rw [if_pos q2]
          · rw [if_neg q2, if_pos q]
      have em : f_X10_selfTestStep (nI n) (nI st) (nI td) thr mc mf = zl (b_X10_selfTestStep_36 (nI n) mf (fun a b c => if b = (5 : Int32) then some ((-1 : Int32), b, c, (0 : Int32), a) else some (((10 : Int32) - c), b, c, (0 : Int32), a))) zF ((0 : Int32), mc, nI st, nI td) := by
        unfold f_X10_selfTestStep
        rw [p_in, zbE, if_pos c1, if_neg (by decide), zjE, zjE]
        rcases cs' with q | q
        · rw [if_pos q]
        · by_cases q2 : nI st = 1
          · rw [if_pos q2]
          · rw [if_neg q2, if_pos q]
      rw [ec, em]
      have fin : ∀ (s : Rw × Int32 × Rw × Int64 × Int64 × Int64 × Int64 × Rw × Rw × Rw × Int32 × Rw × Rw × Rw × Int32 × Int32 × Int32 × Int32 × Rw × Rw × Int32 × Rw × Rw × Rw) (s' : Rw × Int32 × Int32) (self : (Int32 × Rw × Int32 × Rw × Int64 × Int64 × Int64 × Int64 × Rw × Rw × Rw × Int32 × Rw × Rw × Rw × Int32 × Int32 × Int32 × Int32 × Rw × Rw × Int32 × Rw × Rw × Rw) → Option (Int32 × Int32 × Int32 × Int32 × Rw × Rw × Int64 × Int64 × Int64 × Int64 × Rw × Rw × Rw × Int32 × Int32 × Rw × Rw × Rw × Int32 × Int32 × Rw × Rw × Rw × Rw × Rw)) (self' : (Int32 × Rw × Int32 × Int32) → Option (Int32 × Int32 × Int32 × Int32 × Rw)), JS s s' → StR st ((fun x_ak x_rd x_cc x_kh x_kl x_sh x_sl x_tag x_mbk x_mpd x_fl x_inn x_sc x_su x_tot x_cst x_ctd x_tbg x_tgk x_tgm x_trq x_tgv x_tkey x_twork => if x_cst = (5 : Int32) then some ((-1 : Int32), x_cst, x_ctd, x_rd, x_ak, x_cc, x_kh, x_kl, x_sh, x_sl, x_tag, x_mbk, x_mpd, x_fl, x_tot, x_inn, x_sc, x_su, x_tbg, x_trq, x_tgk, x_tgm, x_tgv, x_tkey, x_twork) else some (((10 : Int32) - x_ctd), x_cst, x_ctd, x_rd, x_ak, x_cc, x_kh, x_kl, x_sh, x_sl, x_tag, x_mbk, x_mpd, x_fl, x_tot, x_inn, x_sc, x_su, x_tbg, x_trq, x_tgk, x_tgm, x_tgv, x_tkey, x_twork)) s.1 s.2.1 s.2.2.1 s.2.2.2.1 s.2.2.2.2.1 s.2.2.2.2.2.1 s.2.2.2.2.2.2.1 s.2.2.2.2.2.2.2.1 s.2.2.2.2.2.2.2.2.1 s.2.2.2.2.2.2.2.2.2.1 s.2.2.2.2.2.2.2.2.2.2.1 s.2.2.2.2.2.2.2.2.2.2.2.1 s.2.2.2.2.2.2.2.2.2.2.2.2.1 s.2.2.2.2.2.2.2.2.2.2.2.2.2.1 s.2.2.2.2.2.2.2.2.2.2.2.2.2.2.1 s.2.2.2.2.2.2.2.2.2.2.2.2.2.2.2.1 s.2.2.2.2.2.2.2.2.2.2.2.2.2.2.2.2.1 s.2.2.2.2.2.2.2.2.2.2.2.2.2.2.2.2.2.1 s.2.2.2.2.2.2.2.2.2.2.2.2.2.2.2.2.2.2.1 s.2.2.2.2.2.2.2.2.2.2.2.2.2.2.2.2.2.2.2.1 s.2.2.2.2.2.2.2.2.2.2.2.2.2.2.2.2.2.2.2.2.1 s.2.2.2.2.2.2.2.2.2.2.2.2.2.2.2.2.2.2.2.2.2.1 s.2.2.2.2.2.2.2.2.2.2.2.2.2.2.2.2.2.2.2.2.2.2.1 s.2.2.2.2.2.2.2.2.2.2.2.2.2.2.2.2.2.2.2.2.2.2.2) ((fun a b c => if b = (5 : Int32) then some ((-1 : Int32), b, c, (0 : Int32), a) else some (((10 : Int32) - c), b, c, (0 : Int32), a)) s'.1 s'.2.1 s'.2.2) := by
        intro s s' _ _ hJ
        obtain ⟨ak, rd, cc, kh, kl, sh, sl, tag, mbk, mpd, fl, inn, sc, su, tot, cst, ctd, tbg, tgk, tgm, trq, tgv, tkey, twork⟩ := s
        obtain ⟨mc, mst, mtd⟩ := s'
        obtain ⟨st1, td1, rfl, rfl, rfl, rfl, g1, g2, g3, g4, g5⟩ := hJ
        dsimp only
        by_cases q : nI st1 = 5
        · rw [if_pos q, if_pos q]
          exact StR_mk rfl rfl (by omega) g2 g3 (Or.inr ⟨cs, g1⟩) g4 g5
        · rw [if_neg q, if_neg q]
          exact StR_mk rfl rfl (by omega) g2 g3 (Or.inr ⟨cs, g1⟩) g4 g5
      refine zl_two (F := b_X9_selfTestStep_31 (nI n) cf _) (G := b_X10_selfTestStep_36 (nI n) mf _) (fun i (s : Rw × Int32 × Rw × Int64 × Int64 × Int64 × Int64 × Rw × Rw × Rw × Int32 × Rw × Rw × Rw × Int32 × Int32 × Int32 × Int32 × Rw × Rw × Int32 × Rw × Rw × Rw) => (nI i, s)) (fun i (s : Rw × Int32 × Int32) => (nI i, s)) (fun _ s s' => JS s s') n (StR st) (ak, rd, cc, kh, kl, sh, sl, tag, mbk, mpd, fl, inn, sc, su, tot, nI st, nI td, tbg, tgk, tgm, trq, tgv, tkey, twork) (mc, nI st, nI td) (by omega) ⟨st, td, rfl, rfl, rfl, rfl, by omega, htd, h1, hc, hw⟩ ?_ ?_
      · intro self self' s s' hJ
        simp only [b_X9_selfTestStep_31, b_X10_selfTestStep_36]
        rw [if_pos (nI_le (Nat.le_refl _) (by omega)), if_pos (nI_le (Nat.le_refl _) (by omega))]
        exact fin s s' self self' hJ
      · intro i s s' hi hJ
        have hJ0 := hJ
        obtain ⟨ak, rd, cc, kh, kl, sh, sl, tag, mbk, mpd, fl, inn, sc, su, tot, cst, ctd, tbg, tgk, tgm, trq, tgv, tkey, twork⟩ := s
        obtain ⟨mc, mst, mtd⟩ := s'
        obtain ⟨st1, td1, rfl, rfl, rfl, rfl, g1, g2, g3, g4, g5⟩ := hJ
        by_cases q : st1 = 1
        · subst q
          have ht := g3 rfl
          left
          obtain ⟨hb, hz⟩ := hf td1 ht
          have e8 : Int32.toNatClampNeg 2 = 2 := by decide
          rcases hz with hz | hz
          · obtain ⟨rd', ak', kh', kl', sh', sl', tag', tbg', trq', tgk', tgm', tgv', tkey', mbk', mpd', fl', tot', inn', sc', su', twork', e, hw'⟩ := t_right ht (p := 0) (Or.inl rfl) g5 rd ak kh kl sh sl tag tbg trq tgk tgm tgv tkey mbk mpd fl tot inn sc su
            rw [hz] at hb
            have hne : ¬ (cf >>> (nI td1 &&& 31)) &&& (1 : Int32) = 1 := by rw [hb]; decide
            have er : (1 : Int32) - 0 = 1 := by decide
            rw [er] at e
            by_cases q10 : td1 + 1 = 10
            · have q10' : nI (td1 + 1) = 10 := by rw [q10]; rfl
              refine ⟨(ak', rd', cc, kh', kl', sh', sl', tag', mbk', mpd', fl', inn', sc', su', tot', nI 2, nI (td1 + 1), tbg', tgk', tgm', trq', tgv', tkey', twork'), (mc, nI 2, nI (td1 + 1)), ⟨2, td1 + 1, rfl, rfl, rfl, rfl, by omega, by omega, by omega, g4, hw'⟩, fun self => ?_, fun self' => ?_⟩
              · simp only [b_X9_selfTestStep_31]
                rw [if_neg (nI_ge hi (by omega)), if_pos (show nI 1 = (1 : Int32) from rfl), if_neg hne, e, zbE]
                simp (decide := true) only [f_X9_takeTestResult, ↓reduceIte, znE, nI_1, q10', zbE]
                rfl
              · simp only [b_X10_selfTestStep_36]
                rw [if_neg (nI_ge hi (by omega)), if_pos (show nI 1 = (1 : Int32) from rfl), zk_T (nI_in ht (by omega)), nI_clamp (by omega), if_pos hz, znE, nI_1, if_pos q10', nI_1]
                rfl
            · have q10' : ¬ nI (td1 + 1) = 10 := fun z => q10 ((nI_eq (b := 10) (by omega) (by omega)).mp z)
              refine ⟨(ak', rd', cc, kh', kl', sh', sl', tag', mbk', mpd', fl', inn', sc', su', tot', nI 1, nI (td1 + 1), tbg', tgk', tgm', trq', tgv', tkey', twork'), (mc, nI 1, nI (td1 + 1)), ⟨1, td1 + 1, rfl, rfl, rfl, rfl, by omega, by omega, by omega, g4, hw'⟩, fun self => ?_, fun self' => ?_⟩
              · simp only [b_X9_selfTestStep_31]
                rw [if_neg (nI_ge hi (by omega)), if_pos (show nI 1 = (1 : Int32) from rfl), if_neg hne, e, zbE]
                simp (decide := true) only [f_X9_takeTestResult, ↓reduceIte, znE, nI_1, q10', zbE]
              · simp only [b_X10_selfTestStep_36]
                rw [if_neg (nI_ge hi (by omega)), if_pos (show nI 1 = (1 : Int32) from rfl), zk_T (nI_in ht (by omega)), nI_clamp (by omega), if_pos hz, znE, nI_1, if_neg q10', nI_1]
                rfl
          · obtain ⟨rd', ak', kh', kl', sh', sl', tag', tbg', trq', tgk', tgm', tgv', tkey', mbk', mpd', fl', tot', inn', sc', su', twork', e, hw'⟩ := t_right ht (p := 1) (Or.inr rfl) g5 rd ak kh kl sh sl tag tbg trq tgk tgm tgv tkey mbk mpd fl tot inn sc su
            rw [hz] at hb
            have er : (1 : Int32) - 1 = 0 := by decide
            rw [er] at e
            have hz' : ¬ mf td1 = 0 := by rw [hz]; decide
            refine ⟨(ak', rd', upd cc 2 (cc 2 + 1), kh', kl', sh', sl', tag', mbk', mpd', fl', inn', sc', su', tot', nI 5, nI td1, tbg', tgk', tgm', trq', tgv', tkey', twork'), (upd mc 2 (mc 2 + 1), nI 5, nI td1), ⟨5, td1, rfl, rfl, rfl, rfl, by omega, by omega, by omega, Rcn_2 g4, hw'⟩, fun self => ?_, fun self' => ?_⟩
            · simp only [b_X9_selfTestStep_31]
              rw [if_neg (nI_ge hi (by omega)), if_pos (show nI 1 = (1 : Int32) from rfl), if_pos hb, e, zbE]
              simp (decide := true) only [f_X9_takeTestResult, ↓reduceIte, znE, nI_1, zkT2, e8, zbE]
              rfl
            · simp only [b_X10_selfTestStep_36]
              rw [if_neg (nI_ge hi (by omega)), if_pos (show nI 1 = (1 : Int32) from rfl), zk_T (nI_in ht (by omega)), nI_clamp (by omega), if_neg hz', zk_T (by decide), zk_T (by decide), znE, nI_1, e8]
              rfl
        · right
          intro self self'
          have q' : ¬ nI st1 = 1 := fun z => q ((nI_eq (b := 1) (by omega) (by omega)).mp z)
          simp only [b_X9_selfTestStep_31, b_X10_selfTestStep_36]
          rw [if_neg (nI_ge hi (by omega)), if_neg (nI_ge hi (by omega)), if_neg q', if_neg q']
          exact fin _ _ self self' hJ0
    · have d1 : ¬ nI st = 1 := fun z => cs (Or.inl ((nI_eq (b := 1) (by omega) (by omega)).mp z))
      have d5 : ¬ nI st = 5 := fun z => cs (Or.inr ((nI_eq (b := 5) (by omega) (by omega)).mp z))
      refine StR_mk (st := st) (td := td) (r := -2) (show _ = some (-2, nI st, nI td, rd, ak, cc, kh, kl, sh, sl, tag, mbk, mpd, fl, tot, inn, sc, su, tbg, trq, tgk, tgm, tgv, tkey, twork) from ?_) ?_ hst htd h1 (Or.inl rfl) hc hw
      · simp only [f_X9_selfTestStep, ↓zjE, ↓reduceIte, ca, cb, d1, d5]
      · simp (decide := true) only [f_X10_selfTestStep, p_in, zbE, c1, and_self, ↓zjE, ↓reduceIte, d1, d5]
  · refine StR_mk (st := st) (td := td) (r := -2) (show _ = some (-2, nI st, nI td, rd, ak, cc, kh, kl, sh, sl, tag, mbk, mpd, fl, tot, inn, sc, su, tbg, trq, tgk, tgm, tgv, tkey, twork) from ?_) ?_ hst htd h1 (Or.inl rfl) hc hw
    · by_cases ca : p1 < 0
      · simp only [f_X9_selfTestStep, ca, ↓reduceIte]
      · have cb : 10 < p1 := Int32.not_le.mp (fun z => c1 ⟨Int32.not_lt.mp ca, z⟩)
        simp only [f_X9_selfTestStep, ca, cb, ↓reduceIte]
    · simp (decide := true) only [f_X10_selfTestStep, p_in, zbE, c1, ↓reduceIte]
