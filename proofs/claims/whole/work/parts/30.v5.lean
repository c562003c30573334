/-! the methods: entropy, slotInfo, counter -/
theorem c_row {p last before : Int32} {ρ : Nat} (hρ : ρ ≤ 3) (hl : 0 < ρ → last = before) : f_X1_watchRow p last (nI ρ) = some (p, nI (if 0 < ρ ∧ p = before then ρ + 1 else 1)) := by
  unfold f_X1_watchRow
  by_cases h0 : 0 < ρ
  · rw [if_neg (nI_nle h0 (by omega)), hl h0]
    by_cases hp : p = before
    · rw [if_pos hp, znE, if_pos ⟨h0, hp⟩, nI_1]
    · rw [if_neg hp, if_neg (fun q => hp q.2)]
      rfl
  · rw [if_pos (by rw [show ρ = 0 by omega]; decide), if_neg (fun q => h0 q.1)]
    rfl
theorem c_win {p first mfirst tw : Int32} {w t : Nat} (hw : w ≤ 16) (h : ¬ w % 16 = 0 → first = mfirst ∧ tw = nI t) : f_X1_watchWindow p first (nI (w % 16)) tw = some (if w % 16 = 0 then p else mfirst, nI ((w % 16 + 1) % 16), nI (if w % 16 = 0 then 1 else if p = mfirst then t + 1 else t)) := by
  have hmod : nI (w % 16 + 1) - nI (w % 16 + 1) / (16 : Int32) * (16 : Int32) = nI ((w % 16 + 1) % 16) := nI_mod (n := 16) (by omega) (by omega) (by omega)
  unfold f_X1_watchWindow
  have z16 : ∀ (x : Option (Int32 × Int32 × Int32)), zk (¬ (16 : Int32) = 0) x = x := fun x => zkn (by decide) (by decide) x
  rw [zjE, nI_1, hmod]
  simp only [z16, znE]
  by_cases h0 : w % 16 = 0
  · rw [if_pos (by rw [h0]; rfl), if_pos h0, if_pos h0, if_pos trivial]
    rfl
  · obtain ⟨e1, e2⟩ := h h0
    rw [if_neg (show ¬ nI (w % 16) = 0 from fun q => h0 ((nI_eq (b := 0) (by omega) (by omega)).mp q)), if_neg h0, if_neg h0, e1, e2]
    by_cases hp : p = mfirst
    · rw [if_pos hp, if_pos hp, nI_1]
    · rw [if_neg hp, if_neg hp]
set_option maxHeartbeats 4000000 in
theorem m_ent {p before mfirst same words thr : Int32} {word : Rw} {ρ w t st : Nat} (hρ : ρ ≤ 3) (hw : w ≤ 16) (hst : 0 < st) (hst5 : st ≤ 5) (h : ¬ w % 16 = 0 → same = nI t) (ρ' t' : Nat) (hρ' : ρ' = if 0 < ρ ∧ p = before then ρ + 1 else 1) (ht' : t' = if w % 16 = 0 then 1 else if p = mfirst then t + 1 else t) :
    f_X10_entropy p before mfirst 0 (nI ρ) (nI w) same (nI st) thr words word = if nI ρ' = 4 then some (0, before, mfirst, 1, nI ρ, nI w, same, 0, words, word) else if nI t' = 6 then some (0, before, mfirst, 1, nI ρ, nI w, same, 0, words, word) else if (64 : Int32) ≤ words then some (1, p, if w % 16 = 0 then p else mfirst, 0, nI ρ', nI (w % 16 + 1), nI t', 0, words, word) else zk (¬ (words < 0 ∨ 64 ≤ words.toNatClampNeg)) (some (1, p, if w % 16 = 0 then p else mfirst, 0, nI ρ', nI (w % 16 + 1), nI t', 0, words + 1, upd word words.toNatClampNeg p)) := by
  have hs : ¬ nI st = 0 := nI_ne0 hst (by omega)
  have hv9 : (if nI w = (16 : Int32) then (0 : Int32) else nI w) = nI (w % 16) := by
    by_cases q : w = 16
    · rw [if_pos (by rw [q]; rfl), q]; rfl
    · rw [if_neg (show ¬ nI w = 16 from fun z => q ((nI_eq (b := 16) (by omega) (by omega)).mp z)), Nat.mod_eq_of_lt (by omega)]
  have tail : ∀ v7 v9, v7 = nI ρ' → v9 = nI (w % 16) → zj (fun (v_11 : Int32) => zj (fun (v_13 : Int32) => if v7 = (4 : Int32) then some ((0 : Int32), before, mfirst, (1 : Int32), nI ρ, nI w, same, (0 : Int32), words, word) else if v_13 = (6 : Int32) then some ((0 : Int32), before, mfirst, (1 : Int32), nI ρ, nI w, same, (0 : Int32), words, word) else zn ((v9 + (1 : Int32)) : Int32) (fun x_19 => if (64 : Int32) ≤ words then some ((1 : Int32), p, v_11, (0 : Int32), v7, x_19, v_13, (0 : Int32), words, word) else zk (¬ (words < 0 ∨ 64 ≤ words.toNatClampNeg)) (zn ((upd word words.toNatClampNeg p) : Nat → Int32) (fun c_word_22 => zn ((words + (1 : Int32)) : Int32) (fun x_23 => some ((1 : Int32), p, v_11, (0 : Int32), v7, x_19, v_13, (0 : Int32), x_23, c_word_22)))))) (fun K_14 => if v9 = 0 then K_14 (1 : Int32) else if p = v_11 then K_14 (same + (1 : Int32)) else K_14 same)) (fun K_12 => if v9 = 0 then K_12 p else K_12 mfirst) = if nI ρ' = 4 then some (0, before, mfirst, 1, nI ρ, nI w, same, 0, words, word) else if nI t' = 6 then some (0, before, mfirst, 1, nI ρ, nI w, same, 0, words, word) else if (64 : Int32) ≤ words then some (1, p, if w % 16 = 0 then p else mfirst, 0, nI ρ', nI (w % 16 + 1), nI t', 0, words, word) else zk (¬ (words < 0 ∨ 64 ≤ words.toNatClampNeg)) (some (1, p, if w % 16 = 0 then p else mfirst, 0, nI ρ', nI (w % 16 + 1), nI t', 0, words + 1, upd word words.toNatClampNeg p)) := by
    rintro v7 v9 rfl rfl
    rw [zjE]
    by_cases h0 : w % 16 = 0
    · have e : nI (w % 16) = 0 := by rw [h0]; rfl
      rw [if_pos e, if_pos h0]
      dsimp only
      rw [zjE, if_pos e]
      simp only [znE, nI_1]
      rw [ht', if_pos h0]
      rfl
    · have e : ¬ nI (w % 16) = 0 := fun q => h0 ((nI_eq (b := 0) (by omega) (by omega)).mp q)
      rw [if_neg e, if_neg h0]
      dsimp only
      rw [zjE, if_neg e, h h0]
      by_cases hp : p = mfirst
      · rw [if_pos hp]
        simp only [znE, nI_1]
        rw [ht', if_neg h0, if_pos hp]
      · rw [if_neg hp]
        simp only [znE, nI_1]
        rw [ht', if_neg h0, if_neg hp]
  have mid : ∀ v7, v7 = nI ρ' → zj (fun (v_9 : Int32) => zj (fun (v_11 : Int32) => zj (fun (v_13 : Int32) => if v7 = (4 : Int32) then some ((0 : Int32), before, mfirst, (1 : Int32), nI ρ, nI w, same, (0 : Int32), words, word) else if v_13 = (6 : Int32) then some ((0 : Int32), before, mfirst, (1 : Int32), nI ρ, nI w, same, (0 : Int32), words, word) else zn ((v_9 + (1 : Int32)) : Int32) (fun x_19 => if (64 : Int32) ≤ words then some ((1 : Int32), p, v_11, (0 : Int32), v7, x_19, v_13, (0 : Int32), words, word) else zk (¬ (words < 0 ∨ 64 ≤ words.toNatClampNeg)) (zn ((upd word words.toNatClampNeg p) : Nat → Int32) (fun c_word_22 => zn ((words + (1 : Int32)) : Int32) (fun x_23 => some ((1 : Int32), p, v_11, (0 : Int32), v7, x_19, v_13, (0 : Int32), x_23, c_word_22)))))) (fun K_14 => if v_9 = 0 then K_14 (1 : Int32) else if p = v_11 then K_14 (same + (1 : Int32)) else K_14 same)) (fun K_12 => if v_9 = 0 then K_12 p else K_12 mfirst)) (fun K_10 => if nI w = (16 : Int32) then K_10 (0 : Int32) else K_10 (nI w)) = if nI ρ' = 4 then some (0, before, mfirst, 1, nI ρ, nI w, same, 0, words, word) else if nI t' = 6 then some (0, before, mfirst, 1, nI ρ, nI w, same, 0, words, word) else if (64 : Int32) ≤ words then some (1, p, if w % 16 = 0 then p else mfirst, 0, nI ρ', nI (w % 16 + 1), nI t', 0, words, word) else zk (¬ (words < 0 ∨ 64 ≤ words.toNatClampNeg)) (some (1, p, if w % 16 = 0 then p else mfirst, 0, nI ρ', nI (w % 16 + 1), nI t', 0, words + 1, upd word words.toNatClampNeg p)) := by
    intro v7 h7
    rw [zjE]
    by_cases q : nI w = (16 : Int32)
    · rw [if_pos q]
      exact tail v7 0 h7 (by rw [if_pos q] at hv9; exact hv9)
    · rw [if_neg q]
      exact tail v7 (nI w) h7 (by rw [if_neg q] at hv9; exact hv9)
  unfold f_X10_entropy
  rw [zjE, if_neg hs]
  dsimp only
  rw [if_neg (by decide), if_pos rfl, zjE, zjE]
  by_cases h0 : 0 < ρ
  · rw [if_neg (nI_nle h0 (by omega))]
    by_cases hp : p = before
    · rw [if_pos hp, nI_1]
      exact mid _ (by rw [hρ', if_pos ⟨h0, hp⟩])
    · rw [if_neg hp]
      exact mid 1 (by rw [hρ', if_neg (fun q => hp q.2)]; rfl)
  · rw [if_pos (by rw [show ρ = 0 by omega]; decide)]
    exact mid 1 (by rw [hρ', if_neg (fun q => h0 q.1)]; rfl)
set_option maxHeartbeats 4000000 in
theorem q_entropy {st : Nat} {p cnt first hl last pw row tw before mfirst ill inRow inW same words thr : Int32} {kept word : Rw} (hst : 0 < st) (hst5 : st ≤ 5) (hk : Rwk cnt kept words word) (hh : Rwh hl last row first pw tw ill before inRow mfirst inW same) :
    ∃ (r cnt' first' hl' last' pw' row' tw' before' mfirst' ill' inRow' inW' same' words' : Int32) (kept' word' : Rw), f_X9_entropy p (nI st) cnt first hl last pw row tw kept = some (r, cnt', first', hl', last', pw', row', tw', kept') ∧ f_X10_entropy p before mfirst ill inRow inW same (nI st) thr words word = some (r, before', mfirst', ill', inRow', inW', same', 0, words', word') ∧ Rwk cnt' kept' words' word' ∧ Rwh hl' last' row' first' pw' tw' ill' before' inRow' mfirst' inW' same' ∧ (r = 0 ∨ r = 1) := by
  have hs : ¬ nI st = 0 := nI_ne0 hst (by omega)
  rcases hh with ⟨h1, h2⟩ | ⟨h1, h2, ρ, w, t, g1, g2, g3, g4, g5, g6, g7, g8⟩
  · refine ⟨0, cnt, first, hl, last, pw, row, tw, before, mfirst, ill, inRow, inW, same, words, kept, word, ?_, ?_, hk, Or.inl ⟨h1, h2⟩, Or.inl rfl⟩
    · simp (decide := true) only [f_X9_entropy, f_X1_accepts, hs, h1, zbE, ite_true, ite_false]
    · simp (decide := true) only [f_X10_entropy, hs, h2, zjE, ite_true, ite_false]
  · subst h1 h2 g1 g2 g5 g7
    obtain ⟨c, hc1, hc2, hc3, hc4⟩ := hk
    subst hc1 hc2
    obtain ⟨ρ', hρ'⟩ : ∃ q, q = if 0 < ρ ∧ p = before then ρ + 1 else 1 := ⟨_, rfl⟩
    obtain ⟨t', ht'⟩ : ∃ q, q = if w % 16 = 0 then 1 else if p = mfirst then t + 1 else t := ⟨_, rfl⟩
    have b1 : 1 ≤ ρ' ∧ ρ' ≤ 4 := by
      by_cases q : 0 < ρ ∧ p = before
      · rw [if_pos q] at hρ'; omega
      · rw [if_neg q] at hρ'; omega
    have b2 : t' ≤ 6 := by
      by_cases q : w % 16 = 0
      · rw [if_pos q] at ht'; omega
      · rw [if_neg q] at ht'
        have := (g8 q).2.2.2
        by_cases q2 : p = mfirst
        · rw [if_pos q2] at ht'; omega
        · rw [if_neg q2] at ht'; omega
    have eR := c_row (p := p) (last := last) (before := before) g3 g4
    have eW := c_win (p := p) (first := first) (mfirst := mfirst) (tw := tw) (t := t) g6 (fun q => ⟨(g8 q).1, (g8 q).2.1⟩)
    have eM := m_ent (p := p) (before := before) (mfirst := mfirst) (same := same) (words := nI c) (thr := thr) (word := word) (t := t) g3 g6 hst hst5 (fun q => (g8 q).2.2.1) ρ' t' hρ' ht'
    rw [← hρ'] at eR
    rw [← ht'] at eW
    have e10 : ¬ (1 : Int32) = 0 := by decide
    by_cases h4 : ρ' = 4
    · refine ⟨0, nI c, (if w % 16 = 0 then p else mfirst), 0, p, nI ((w % 16 + 1) % 16), nI ρ', nI t', before, mfirst, 1, nI ρ, nI w, same, nI c, kept, word, ?_, ?_, ⟨c, rfl, rfl, hc3, hc4⟩, Or.inl ⟨rfl, rfl⟩, Or.inl rfl⟩
      · simp only [f_X9_entropy, f_X1_accepts, hs, e10, eR, eW, zbE, ite_false]
        rw [if_pos (show (4 : Int32) ≤ nI ρ' from nI_le (a := 4) (by omega) (by omega))]
        simp only [zbE, ite_true]
      · rw [eM, if_pos (by rw [h4]; rfl)]
    · have n4 : ¬ (4 : Int32) ≤ nI ρ' := nI_ge (b := 4) (a := ρ') (by omega) (by omega)
      have m4 : ¬ nI ρ' = 4 := fun z => h4 ((nI_eq (b := 4) (by omega) (by omega)).mp z)
      by_cases h6 : t' = 6
      · refine ⟨0, nI c, (if w % 16 = 0 then p else mfirst), 0, p, nI ((w % 16 + 1) % 16), nI ρ', nI t', before, mfirst, 1, nI ρ, nI w, same, nI c, kept, word, ?_, ?_, ⟨c, rfl, rfl, hc3, hc4⟩, Or.inl ⟨rfl, rfl⟩, Or.inl rfl⟩
        · simp only [f_X9_entropy, f_X1_accepts, hs, e10, eR, eW, zbE, ite_false]
          rw [if_neg n4, if_neg (show ¬ nI t' < (6 : Int32) from nI_nlt (b := 6) (by omega) (by omega))]
          simp only [zbE, ite_true]
        · rw [eM, if_neg m4, if_pos (by rw [h6]; rfl)]
      · have n6 : nI t' < (6 : Int32) := nI_lt (b := 6) (by omega) (by omega)
        have m6 : ¬ nI t' = 6 := fun z => h6 ((nI_eq (b := 6) (by omega) (by omega)).mp z)
        have hW' : Rwh 1 p (nI ρ') (if w % 16 = 0 then p else mfirst) (nI ((w % 16 + 1) % 16)) (nI t') 0 p (nI ρ') (if w % 16 = 0 then p else mfirst) (nI (w % 16 + 1)) (nI t') :=
          Or.inr ⟨rfl, rfl, ρ', w % 16 + 1, t', rfl, rfl, by omega, fun _ => rfl, rfl, by omega, rfl, fun _ => ⟨rfl, rfl, rfl, by omega⟩⟩
        by_cases h64 : c = 64
        · have k64 : (64 : Int32) ≤ nI c := nI_le (a := 64) (by omega) (by omega)
          refine ⟨1, nI c, (if w % 16 = 0 then p else mfirst), 1, p, nI ((w % 16 + 1) % 16), nI ρ', nI t', p, (if w % 16 = 0 then p else mfirst), 0, nI ρ', nI (w % 16 + 1), nI t', nI c, kept, word, ?_, ?_, ⟨c, rfl, rfl, hc3, hc4⟩, hW', Or.inr rfl⟩
          · simp only [f_X9_entropy, f_X1_accepts, hs, e10, eR, eW, zbE, ite_false]
            rw [if_neg n4, if_pos n6, if_pos k64]
            simp only [zbE, e10, ite_false]
          · rw [eM, if_neg m4, if_neg m6, if_pos k64]
        · have k64 : ¬ (64 : Int32) ≤ nI c := nI_ge (b := 64) (a := c) (by omega) (by omega)
          refine ⟨1, nI (c + 1), (if w % 16 = 0 then p else mfirst), 1, p, nI ((w % 16 + 1) % 16), nI ρ', nI t', p, (if w % 16 = 0 then p else mfirst), 0, nI ρ', nI (w % 16 + 1), nI t', nI (c + 1), upd kept c p, upd word c p, ?_, ?_, ⟨c + 1, rfl, rfl, by omega, fun i hi => ?_⟩, hW', Or.inr rfl⟩
          · simp only [f_X9_entropy, f_X1_accepts, hs, e10, eR, eW, zbE, ite_false]
            rw [if_neg n4, if_pos n6, if_neg k64, zk_T (nI_in (by omega) (by omega)), znE, znE, nI_clamp (by omega), nI_1]
            simp only [zbE, e10, ite_false]
          · rw [eM, if_neg m4, if_neg m6, if_neg k64, zk_T (nI_in (by omega) (by omega)), nI_clamp (by omega), nI_1]
          · by_cases e : i = c
            · subst e
              rw [upd_s, upd_s]
            · rw [upd_n _ _ e, upd_n _ _ e]
              exact hc4 i (by omega)
theorem q_entropyX {p before mfirst ill inRow inW same words thr : Int32} {word : Rw} : f_X10_entropy p before mfirst ill inRow inW same 0 thr words word = some (0, before, mfirst, ill, inRow, inW, same, 1, words, word) := by
  simp (decide := true) only [f_X10_entropy, zjE, ite_true]
/-- slotInfo -/
theorem Rs1_ne {ck cl cu cr ce mk ml mu mh me : Int32} {cy my : Rw} (h : Rs1 ck cl cu cr ce cy mk ml mu mh me my) : ¬ ck = 0 ∧ ¬ mk = 0 ∧ ¬ mk ≤ 0 := by
  obtain ⟨k, n, ug, hh, hk, h1, h2, -⟩ := h
  rw [h1, h2]
  have : 0 < k := by omega
  exact ⟨nI_ne0 this (by omega), nI_ne0 this (by omega), nI_nle this (by omega)⟩
theorem in05 {x : Int32} (h : 0 ≤ x ∧ x ≤ 4) : x = 0 ∨ x = 1 ∨ x = 2 ∨ x = 3 ∨ x = 4 := by
  obtain ⟨k, hk, e⟩ := in_nat (b := 4) (by omega) h.1 h.2
  subst e
  rcases (show k = 0 ∨ k = 1 ∨ k = 2 ∨ k = 3 ∨ k = 4 by omega) with rfl | rfl | rfl | rfl | rfl
  · exact Or.inl rfl
  · exact Or.inr (Or.inl rfl)
  · exact Or.inr (Or.inr (Or.inl rfl))
  · exact Or.inr (Or.inr (Or.inr (Or.inl rfl)))
  · exact Or.inr (Or.inr (Or.inr (Or.inr rfl)))
set_option maxHeartbeats 4000000 in
theorem q_slotInfo {s : Nat} {p2 thr : Int32} {kd ln us ro ue : Rw} {ky : Nat → Rw} {kind len usage holder uses keys : Rw} (h : Rsl kd ln us ro ue ky kind len usage holder uses keys) (hs : s < 16) (h2 : 0 ≤ p2 ∧ p2 ≤ 4) : ∃ v, f_X9_slotInfo (nI s) p2 kd ln ro us ue = some v ∧ f_X10_slotInfo (nI s) p2 thr holder kind len usage uses = some (v, 0) := by
  have i1 : (0 : Int32) ≤ nI s ∧ nI s ≤ 15 := ⟨nI_pos' (by omega), nI_le (b := 15) (by omega) (by omega)⟩
  have zt : ∀ {α : Type} {d : Decidable (¬ (nI s < 0 ∨ 16 ≤ s))} (x : Option α), @zk α (¬ (nI s < 0 ∨ 16 ≤ s)) d x = x := fun x => zki hs (by omega) x
  have cl : (nI s).toNatClampNeg = s := nI_clamp (by omega)
  have n2 : ¬ p2 < 0 := Int32.not_lt.mpr h2.1
  rcases h s hs with ⟨e1, e2⟩ | hr
  · refine ⟨-1, ?_, ?_⟩
    · simp (decide := true) only [f_X9_slotInfo, f_X8_isEmpty, p_isSlot, i1, zbE, zt, cl, n2, h2.2, e1, and_self, ite_true, ite_false]
    · simp (decide := true) only [f_X10_slotInfo, p_in, i1, zbE, zt, zjE, cl, h2, e2, and_self, ite_true, ite_false]
  · obtain ⟨k1, k2, k3⟩ := Rs1_ne hr
    obtain ⟨k, n, ug, hh, hk, r1, r2, r3, r4, r5, r6, r7, r8, r9, r10, r11, r12, r13, r14, r15, r16⟩ := hr
    have kn : ¬ nI k = 0 := by rw [← r1]; exact k1
    rcases in05 h2 with rfl | rfl | rfl | rfl | rfl
    · refine ⟨nI k, ?_, ?_⟩
      · simp (decide := true) only [f_X9_slotInfo, f_X8_isEmpty, p_isSlot, i1, zbE, zt, cl, k1, and_self, ite_true, ite_false, r1, kn]
      · simp (decide := true) only [f_X10_slotInfo, p_in, i1, zbE, zt, zjE, cl, k2, and_self, ite_true, ite_false, r2, kn]
    · refine ⟨nI n, ?_, ?_⟩
      · simp (decide := true) only [f_X9_slotInfo, f_X8_isEmpty, p_isSlot, i1, zbE, zt, cl, k1, and_self, ite_true, ite_false, r3]
      · simp (decide := true) only [f_X10_slotInfo, p_in, i1, zbE, zt, zjE, cl, k2, and_self, ite_true, ite_false, r4]
    · refine ⟨nI ug, ?_, ?_⟩
      · simp (decide := true) only [f_X9_slotInfo, f_X8_isEmpty, p_isSlot, i1, zbE, zt, cl, k1, and_self, ite_true, ite_false, r8]
      · simp (decide := true) only [f_X10_slotInfo, p_in, i1, zbE, zt, zjE, cl, k2, and_self, ite_true, ite_false, r9]
    · refine ⟨nI hh, ?_, ?_⟩
      · simp (decide := true) only [f_X9_slotInfo, f_X8_isEmpty, p_isSlot, i1, zbE, zt, cl, k1, and_self, ite_true, ite_false, r11]
      · simp (decide := true) only [f_X10_slotInfo, p_in, i1, zbE, zt, zjE, cl, k2, and_self, ite_true, ite_false, r12]
    · refine ⟨uses s, ?_, ?_⟩
      · simp (decide := true) only [f_X9_slotInfo, f_X8_isEmpty, p_isSlot, i1, zbE, zt, cl, k1, and_self, ite_true, ite_false, r14]
      · simp (decide := true) only [f_X10_slotInfo, p_in, i1, zbE, zt, zjE, cl, k2, and_self, ite_true, ite_false]
theorem q_slotInfoX {p1 p2 thr : Int32} {kind len usage holder uses : Rw} (h : ¬ ((0 ≤ p1 ∧ p1 ≤ 15) ∧ 0 ≤ p2 ∧ p2 ≤ 4)) : f_X10_slotInfo p1 p2 thr holder kind len usage uses = some (0, 1) := by
  by_cases h1 : 0 ≤ p1 ∧ p1 ≤ 15
  · have h2 : ¬ (0 ≤ p2 ∧ p2 ≤ 4) := fun q => h ⟨h1, q⟩
    simp (decide := true) only [f_X10_slotInfo, p_in, h1, h2, zbE, zjE, and_self, ite_true, ite_false]
  · simp (decide := true) only [f_X10_slotInfo, p_in, h1, zbE, zjE, ite_true, ite_false]
/-- counter -/
theorem q_counter {k : Nat} {thr : Int32} {cc mc : Rw} (h : Rcn cc mc) (hk : k < 3) : f_X9_counter (nI k) cc = some (mc k) ∧ f_X10_counter (nI k) thr mc = some (mc k, 0) := by
  have i1 : (0 : Int32) ≤ nI k ∧ nI k ≤ 2 := ⟨nI_pos' (by omega), nI_le (b := 2) (by omega) (by omega)⟩
  have zt : ∀ {α : Type} {d : Decidable (¬ (nI k < 0 ∨ 3 ≤ k))} (x : Option α), @zk α (¬ (nI k < 0 ∨ 3 ≤ k)) d x = x := fun x => zki hk (by omega) x
  have cl : (nI k).toNatClampNeg = k := nI_clamp (by omega)
  have n1 : ¬ nI k < 0 := nI_pos (by omega)
  have n2 : nI k < 3 := nI_lt (b := 3) hk (by omega)
  constructor
  · unfold f_X9_counter
    rw [if_neg n1, if_pos n2, zk_T (nI_in hk (by omega)), cl, h k hk]
  · simp (decide := true) only [f_X10_counter, p_in, i1, zbE, zt, cl, and_self, ite_true, ite_false]
theorem q_counterX {p thr : Int32} {mc : Rw} (h : ¬ (0 ≤ p ∧ p ≤ 2)) : f_X10_counter p thr mc = some (0, 1) := by
  simp (decide := true) only [f_X10_counter, p_in, h, zbE, ite_true, ite_false]
