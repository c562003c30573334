/-! the slots: cleared, filled, used, foreign -/
theorem vup_s {α : Type} (f : Nat → α) (k : Nat) (v : α) : va_up f k v k = v := if_pos rfl
theorem vup_n {α : Type} (f : Nat → α) {k j : Nat} (v : α) (h : j ≠ k) : va_up f k v j = f j := if_neg h
theorem p_clear {s : Nat} (kd : Rw) (ky : Nat → Rw) : ∃ ky', f_X8_clear s kd ky = some (upd kd s 0, ky') ∧ ∀ t, t ≠ s → ky' t = ky t := by
  have key : ∃ ky', f_J7_fill_031fb_0PK s 0 ky = some ky' ∧ ∀ t, t ≠ s → ky' t = ky t := by
    unfold f_J7_fill_031fb_0PK
    rw [zjE]
    refine zl_up (F := b_J7_fill_031fb_0PK_5 s 0 _) (fun i (P : Nat → Rw) => (nI i, P)) (fun i P => ∀ t, t ≠ s → P t = ky t) 0 64 ky (fun o => ∃ ky', o = some ky' ∧ ∀ t, t ≠ s → ky' t = ky t) (by omega) (by omega) (fun _ _ => rfl) ?_ ?_
    · intro self P hP
      simp only [b_J7_fill_031fb_0PK_5]
      rw [if_pos (by decide)]
      exact ⟨P, rfl, hP⟩
    · intro self i P _ hi hP
      refine ⟨va_up P s (upd (P s) i (vp_nar .byte 0)), fun t ht => by rw [vup_n _ _ ht]; exact hP t ht, ?_⟩
      simp only [b_J7_fill_031fb_0PK_5]
      rw [if_neg (show ¬ (64 : Int32) ≤ nI i from nI_ge (b := 64) hi (by omega)), zk_T (nI_in (by omega) (by omega)), nI_clamp (by omega), nI_1]
  obtain ⟨ky', e, g⟩ := key
  refine ⟨ky', ?_, g⟩
  unfold f_X8_clear
  rw [e, zbE]
theorem Rsl_clear {kd ln us ro ue : Rw} {ky ky' : Nat → Rw} {kind len usage holder uses keys : Rw} {s : Nat} (h : Rsl kd ln us ro ue ky kind len usage holder uses keys) (hy : ∀ t, t ≠ s → ky' t = ky t) : Rsl (upd kd s 0) ln us ro ue ky' (upd kind s 0) len usage holder uses keys := by
  intro t ht
  by_cases e : t = s
  · subst e
    exact Or.inl ⟨upd_s _ _ _, upd_s _ _ _⟩
  · rw [upd_n _ _ e, upd_n _ _ e, hy t e]
    exact h t ht
theorem Rsl_fill {kd ln us ro ue : Rw} {ky : Nat → Rw} {kind len usage holder uses keys f d : Rw} {s k n ug hh : Nat} {e : Int32} (h : Rsl kd ln us ro ue ky kind len usage holder uses keys) (hs : s < 16) (hk : k = 1 ∨ k = 2) (hn : 1 ≤ n) (hn2 : n ≤ 64) (hkn : k = 1 → n = 16 ∨ n = 32) (hu : ug < 64) (hhh : hh = 1 ∨ hh = 2) (hf : ∀ i, i < n → f i = sB (d i)) (ud : isU8 d n) :
    Rsl (upd kd s (nI k)) (upd ln s (nI n)) (upd us s (nI ug)) (upd ro s (nI hh)) (upd ue s e) (va_up ky s (zrow 0 n f (ky s))) (upd kind s (nI k)) (upd len s (nI n)) (upd usage s (nI ug)) (upd holder s (nI hh)) (upd uses s e) (zrow (64 * s) n d keys) := by
  intro t ht
  by_cases q : t = s
  · subst q
    right
    simp only [upd_s, vup_s]
    refine ⟨k, n, ug, hh, hk, rfl, rfl, rfl, rfl, hn, hn2, hkn, rfl, rfl, hu, rfl, rfl, hhh, rfl, fun i hi => ?_, fun i hi => ?_⟩
    · show zrow 0 n f (ky t) i = sB (zrow (64 * t) n d keys (64 * t + i))
      rw [zrow_0 hi, zrow_in (by omega) (by omega), show 64 * t + i - 64 * t = i by omega]
      exact hf i hi
    · show zrow (64 * t) n d keys (64 * t + i) &&& 255 = zrow (64 * t) n d keys (64 * t + i)
      rw [zrow_in (by omega) (by omega), show 64 * t + i - 64 * t = i by omega]
      exact ud i hi
  · rw [upd_n _ _ q, upd_n _ _ q, upd_n _ _ q, upd_n _ _ q, upd_n _ _ q, upd_n _ _ q, upd_n _ _ q, upd_n _ _ q, upd_n _ _ q, upd_n _ _ q, vup_n _ _ q]
    rcases h t ht with g | ⟨k2, n2, ug2, hh2, r0, r1, r2, r3, r4, r5, r6, r7, r8, r9, r10, r11, r12, r13, r14, r15, r16⟩
    · exact Or.inl g
    · right
      have ho : ∀ i, i < n2 → zrow (64 * s) n d keys (64 * t + i) = keys (64 * t + i) := fun i hi => zrow_out (by omega)
      exact ⟨k2, n2, ug2, hh2, r0, r1, r2, r3, r4, r5, r6, r7, r8, r9, r10, r11, r12, r13, r14, fun i hi => (r15 i hi).trans (congrArg sB (ho i hi).symm), fun i hi => by show zrow (64 * s) n d keys (64 * t + i) &&& 255 = zrow (64 * s) n d keys (64 * t + i); rw [ho i hi]; exact r16 i hi⟩
theorem p_use {s : Nat} {ue uses : Rw} (hs : s < 16) (he : ue s = uses s) : ∃ ue' uses', f_X8_takeUse s ue = some ue' ∧ f_X10_use (nI s) uses = some uses' ∧ ue' s = uses' s ∧ (∀ t, t ≠ s → ue' t = ue t ∧ uses' t = uses t) := by
  unfold f_X8_takeUse f_X10_use
  rw [zk_T (nI_in hs (by omega)), zk_T (nI_in hs (by omega)), zk_T (nI_in hs (by omega)), nI_clamp (by omega), he]
  by_cases h : uses s ≤ 0
  · rw [if_pos h, if_pos h]
    exact ⟨_, _, rfl, rfl, he, fun _ _ => ⟨rfl, rfl⟩⟩
  · rw [if_neg h, if_neg h, znE, znE]
    exact ⟨_, _, rfl, rfl, by rw [upd_s, upd_s], fun t ht => ⟨upd_n _ _ ht, upd_n _ _ ht⟩⟩
theorem Rsl_use {kd ln us ro ue ue' : Rw} {ky : Nat → Rw} {kind len usage holder uses uses' keys : Rw} {s : Nat} (h : Rsl kd ln us ro ue ky kind len usage holder uses keys) (h1 : ue' s = uses' s) (h2 : ∀ t, t ≠ s → ue' t = ue t ∧ uses' t = uses t) : Rsl kd ln us ro ue' ky kind len usage holder uses' keys := by
  intro t ht
  rcases h t ht with g | ⟨k2, n2, ug2, hh2, r0, r1, r2, r3, r4, r5, r6, r7, r8, r9, r10, r11, r12, r13, r14, r15, r16⟩
  · exact Or.inl g
  · right
    refine ⟨k2, n2, ug2, hh2, r0, r1, r2, r3, r4, r5, r6, r7, r8, r9, r10, r11, r12, r13, ?_, r15, r16⟩
    by_cases q : t = s
    · rw [q]; exact h1
    · rw [(h2 t q).1, (h2 t q).2]; exact r14
theorem st_role {st : Nat} (hst : st = 3 ∨ st = 4) : f_X9_holder (nI st) = some (nI (st - 2)) ∧ f_X10_role (nI st) = some (nI (st - 2)) := by
  rcases hst with rfl | rfl
  · exact ⟨by simp (decide := true) only [f_X9_holder, ite_true], by unfold f_X10_role; rfl⟩
  · exact ⟨by simp (decide := true) only [f_X9_holder, ite_false], by unfold f_X10_role; rfl⟩
theorem p_empty {s : Nat} (kd : Rw) : f_X8_isEmpty s kd = some (if kd s = 0 then 1 else 0) := by
  unfold f_X8_isEmpty
  by_cases h : kd s = 0
  · rw [if_pos h, if_pos h]
  · rw [if_neg h, if_neg h]
theorem p_foreign {st s : Nat} {kd ln us ro ue : Rw} {ky : Nat → Rw} {kind len usage holder uses keys : Rw} (hst : st = 3 ∨ st = 4) (h : Rsl kd ln us ro ue ky kind len usage holder uses keys) (hs : s < 16) :
    ∃ f, f_X9_isForeign s (nI st) kd ro = some f ∧ f_X10_isOthers (nI s) (nI st) holder kind = some f ∧ (f = 0 ∨ f = 1) := by
  obtain ⟨e1, e2⟩ := st_role hst
  unfold f_X9_isForeign f_X10_isOthers
  rw [p_empty, zbE, zk_T (nI_in hs (by omega)), zk_T (nI_in hs (by omega)), nI_clamp (by omega)]
  rcases h s hs with ⟨g1, g2⟩ | hr
  · rw [if_pos g1, if_neg (by decide), g2, if_pos (by decide)]
    exact ⟨0, rfl, rfl, Or.inl rfl⟩
  · obtain ⟨k1, k2, k3⟩ := Rs1_ne hr
    obtain ⟨k, n, ug, hh, hk, r1, r2, r3, r4, r5, r6, r7, r8, r9, r10, r11, r12, r13, r14, r15, r16⟩ := hr
    rw [if_neg k1, if_pos rfl, if_neg k3, e1, e2, zbE, zbE, r11, r12]
    by_cases q : nI hh = nI (st - 2)
    · rw [if_pos q]
      exact ⟨0, rfl, rfl, Or.inl rfl⟩
    · rw [if_neg q]
      exact ⟨1, rfl, rfl, Or.inr rfl⟩
/-! the methods: zeroise, zeroiseAll, same -/
set_option maxHeartbeats 4000000 in
theorem q_zeroise {st : Nat} {p1 thr : Int32} {cc mc kd ln us ro ue : Rw} {ky : Nat → Rw} {kind len usage holder uses keys : Rw} (hst : st ≤ 5) (hc : Rcn cc mc) (h : Rsl kd ln us ro ue ky kind len usage holder uses keys) :
    ∃ (r : Int32) (cc' mc' kd' kind' : Rw) (ky' : Nat → Rw), f_X9_zeroise p1 (nI st) cc kd ro ky = some (r, cc', kd', ky') ∧ f_X10_zeroise p1 (nI st) thr mc holder kind = some (r, 0, mc', kind') ∧ Rcn cc' mc' ∧ Rsl kd' ln us ro ue ky' kind' len usage holder uses keys := by
  have flat : ∀ (r : Int32) (kd' kind' : Rw) (ky' : Nat → Rw), f_X9_zeroiseAnswer p1 (nI st) kd ro ky = some (r, kd', ky') → (∀ c', f_X10_answer r mc = some (r, c') → f_X10_zeroise p1 (nI st) thr mc holder kind = some (r, 0, c', kind')) → Rsl kd' ln us ro ue ky' kind' len usage holder uses keys → ∃ (r : Int32) (cc' mc' kd' kind' : Rw) (ky' : Nat → Rw), f_X9_zeroise p1 (nI st) cc kd ro ky = some (r, cc', kd', ky') ∧ f_X10_zeroise p1 (nI st) thr mc holder kind = some (r, 0, mc', kind') ∧ Rcn cc' mc' ∧ Rsl kd' ln us ro ue ky' kind' len usage holder uses keys := by
    intro r kd' kind' ky' h1 h2 h3
    obtain ⟨cc', mc', e1, e2, g⟩ := p_counted r hc
    refine ⟨r, cc', mc', kd', kind', ky', ?_, h2 mc' e2, g, h3⟩
    unfold f_X9_zeroise
    rw [h1]
    simp only [zbE]
    rw [e1, zbE]
  by_cases hin : st = 3 ∨ st = 4
  · have hin' : nI st = 3 ∨ nI st = 4 := (in34 hst).mpr hin
    by_cases hr : 0 ≤ p1 ∧ p1 ≤ 15
    · obtain ⟨s, hs, rfl⟩ := in16 hr
      obtain ⟨f, f1, f2, hf⟩ := p_foreign hin h hs
      have cl : (nI s).toNatClampNeg = s := nI_clamp (by omega)
      have zt : ∀ {α : Type} {d : Decidable (¬ (nI s < 0 ∨ 16 ≤ s))} (x : Option α), @zk α (¬ (nI s < 0 ∨ 16 ≤ s)) d x = x := fun x => zki hs (by omega) x
      rcases hf with rfl | rfl
      · by_cases hk : kd s = 0
        · have hk2 : kind s = 0 := by
            rcases h s hs with g | g
            · exact g.2
            · exact absurd hk (Rs1_ne g).1
          refine flat (-4) kd kind ky ?_ (fun c' e => ?_) h
          · simp (decide := true) only [f_X9_zeroiseAnswer, p_logged, p_isSlot, p_empty, hin', hr, cl, zt, zbE, f1, hk, and_self, ite_true, ite_false]
          · simp (decide := true) only [f_X10_zeroise, p_isIn, p_in, hin', hr, cl, zt, zbE, f2, hk2, e, and_self, ite_true, ite_false]
        · have hk2 : ¬ kind s = 0 := by
            rcases h s hs with g | g
            · exact absurd g.1 hk
            · exact (Rs1_ne g).2.1
          obtain ⟨ky', e1, g1⟩ := p_clear (s := s) kd ky
          refine flat 0 (upd kd s 0) (upd kind s 0) ky' ?_ (fun c' e => ?_) (Rsl_clear h g1)
          · simp (decide := true) only [f_X9_zeroiseAnswer, p_logged, p_isSlot, p_empty, hin', hr, cl, zt, zbE, f1, hk, e1, and_self, ite_true, ite_false]
          · simp (decide := true) only [f_X10_zeroise, p_isIn, p_in, hin', hr, cl, zt, zbE, znE, f2, hk2, e, and_self, ite_true, ite_false]
      · refine flat (-3) kd kind ky ?_ (fun c' e => ?_) h
        · simp (decide := true) only [f_X9_zeroiseAnswer, p_logged, p_isSlot, hin', hr, cl, zt, zbE, f1, and_self, ite_true, ite_false]
        · simp (decide := true) only [f_X10_zeroise, p_isIn, p_in, hin', hr, cl, zt, zbE, f2, e, and_self, ite_true, ite_false]
    · refine flat (-2) kd kind ky ?_ (fun c' e => ?_) h
      · simp (decide := true) only [f_X9_zeroiseAnswer, p_logged, p_isSlot, hin', hr, zbE, ite_true, ite_false]
      · simp (decide := true) only [f_X10_zeroise, p_isIn, p_in, hin', hr, zbE, e, ite_true, ite_false]
  · have hin' : ¬ (nI st = 3 ∨ nI st = 4) := fun q => hin ((in34 hst).mp q)
    refine flat (-1) kd kind ky ?_ (fun c' e => ?_) h
    · simp (decide := true) only [f_X9_zeroiseAnswer, p_logged, zbE, ite_true, ite_false, hin']
    · simp (decide := true) only [f_X10_zeroise, p_isIn, zbE, ite_true, ite_false, hin', e]
theorem l_zall (kind : Rw) (K : Rw → Option _) : zl (b_X10_zeroiseAll_7 K) zF ((0 : Int32), kind) = K (zrow 0 16 (fun _ => 0) kind) := by
  refine zl_cpy (F := b_X10_zeroiseAll_7 K) 0 16 (fun _ => 0) kind K (by omega) ?_ ?_
  · intro self f
    simp only [b_X10_zeroiseAll_7]
    exact if_pos (by decide)
  · intro self i f hi
    simp (disch := omega) only [b_X10_zeroiseAll_7, zle1, if_neg, zCl, zki, zki2, znE, zA, Nat.zero_add, zlt2]
set_option maxHeartbeats 4000000 in
theorem q_zeroiseAll {st : Nat} {sb bg on ot un ut cnt made thr words : Int32} {key val kept kd ln us ro ue : Rw} {ky : Nat → Rw} {kind len usage holder uses keys pin tries : Rw} {taken : Nat → Int64} (hst : st ≤ 5) (hsb : st = 3 ∨ st = 4 ∨ sb = 0) :
    ∃ (st' : Nat) (key' val' kept' kd' : Rw) (ky' : Nat → Rw) (kind' pin' tries' : Rw) (taken' : Nat → Int64), f_X9_zeroiseAll (nI st) sb bg key val on ot un ut cnt kept kd ky = some (nI st', 0, 0, key', val', 1111, 0, 2222, 0, 0, kept', kd', ky') ∧ f_X10_zeroiseAll made (nI st) thr words kind pin taken tries = some (0, nI st', 0, 0, kind', pin', taken', tries') ∧ st' = (if st = 3 ∨ st = 4 then 2 else st) ∧ Rsl kd' ln us ro ue ky' kind' len usage holder uses keys ∧ Rp 1111 0 2222 0 pin' tries' ∧ taken' 1 = -1 ∧ taken' 2 = -1 := by
  obtain ⟨taken', et, t1, t2⟩ := p_X10_forget made taken
  have rp : Rp 1111 0 2222 0 (upd (upd pin 1 1111) 2 2222) (upd (upd tries 1 0) 2 0) := ⟨by rw [upd_n _ _ (by decide), upd_s], upd_s _ _ _, by rw [upd_n _ _ (by decide), upd_s], upd_s _ _ _⟩
  have hk0 : ∀ kd', (∀ t, t < 16 → kd' t = 0) → ∀ ky' : Nat → Rw, Rsl kd' ln us ro ue ky' (zrow 0 16 (fun _ => 0) kind) len usage holder uses keys := fun kd' hk ky' t ht => Or.inl ⟨hk t ht, zrow_0 ht⟩
  have cls : ∃ (kd' : Rw) (ky' : Nat → Rw) (key' val' kept' : Rw), (∀ t, t < 16 → kd' t = 0) ∧ f_X9_zeroiseAll (nI st) sb bg key val on ot un ut cnt kept kd ky = some (nI (if st = 3 ∨ st = 4 then 2 else st), 0, 0, key', val', 1111, 0, 2222, 0, 0, kept', kd', ky') := by
    unfold f_X9_zeroiseAll
    rw [zjE]
    refine zl_up (F := b_X9_zeroiseAll_2 _) (fun i (s : (Nat → Rw) × Rw) => (nI i, s)) (fun i s => ∀ t, t < i → s.2 t = 0) 0 16 (ky, kd) (fun o => ∃ (kd' : Rw) (ky' : Nat → Rw) (key' val' kept' : Rw), (∀ t, t < 16 → kd' t = 0) ∧ o = some (nI (if st = 3 ∨ st = 4 then 2 else st), 0, 0, key', val', 1111, 0, 2222, 0, 0, kept', kd', ky')) (by omega) (by omega) (fun t ht => by omega) ?_ ?_
    · intro self s hs
      obtain ⟨ky', kd'⟩ := s
      simp only [b_X9_zeroiseAll_2]
      rw [if_pos (by decide)]
      unfold f_X5_renew f_X3_forget f_X1_forgetKept f_X9_endLogin
      simp only [zbE]
      rw [p_J7_fillB 0 key (by decide) (by omega)]
      simp only [zbE]
      rw [p_J7_fillB 0 val (by decide) (by omega)]
      simp only [zbE]
      rw [p_J7_fillI2 0 kept (by omega)]
      simp only [zbE]
      rw [p_logged, zbE]
      by_cases hin : st = 3 ∨ st = 4
      · have hin' : nI st = 3 ∨ nI st = 4 := (in34 hst).mpr hin
        rw [if_pos hin', if_neg (by decide), if_pos hin]
        exact ⟨kd', ky', _, _, _, hs, rfl⟩
      · have hin' : ¬ (nI st = 3 ∨ nI st = 4) := fun q => hin ((in34 hst).mp q)
        have h0 : sb = 0 := by
          rcases hsb with q | q | q
          · exact absurd (Or.inl q) hin
          · exact absurd (Or.inr q) hin
          · exact q
        rw [if_neg hin', if_pos rfl, if_neg hin, h0]
        exact ⟨kd', ky', _, _, _, hs, rfl⟩
    · intro self i s _ hi hs
      obtain ⟨ky2, kd2⟩ := s
      obtain ⟨ky3, e3, _⟩ := p_clear (s := i) kd2 ky2
      refine ⟨(ky3, upd kd2 i 0), fun t ht => ?_, ?_⟩
      · show upd kd2 i 0 t = 0
        by_cases q : t = i
        · rw [q, upd_s]
        · rw [upd_n _ _ q]; exact hs t (by omega)
      · simp only [b_X9_zeroiseAll_2]
        rw [if_neg (show ¬ (16 : Int32) ≤ nI i from nI_ge (b := 16) hi (by omega)), zk_T (nI_in (by omega) (by omega)), nI_clamp (by omega), e3]
        simp only [zbE]
        rw [nI_1]
  obtain ⟨kd', ky', key', val', kept', h0, e⟩ := cls
  refine ⟨if st = 3 ∨ st = 4 then 2 else st, key', val', kept', kd', ky', zrow 0 16 (fun _ => 0) kind, upd (upd pin 1 1111) 2 2222, upd (upd tries 1 0) 2 0, taken', e, ?_, rfl, hk0 kd' h0 ky', rp, t1, t2⟩
  unfold f_X10_zeroiseAll
  rw [zjE, l_zall]
  simp (decide := true) only [zk_c, znE, tc1, tc2]
  rw [et]
  simp only [zbE]
  rw [p_isIn, zbE]
  by_cases hin : st = 3 ∨ st = 4
  · rw [if_pos ((in34 hst).mpr hin), if_neg (by decide), if_pos hin]
    rfl
  · rw [if_neg (fun q => hin ((in34 hst).mp q)), if_pos rfl, if_neg hin]
/-- same -/
theorem alike_PK (N j : Nat) (p1 p3 p4 : Int32) (cb : Rw) (ky : Nat → Rw) : f_X9_alike_0PK N j p1 p3 p4 cb ky = f_X9_alike 64 N p1 p3 p4 (ky j) cb := rfl
theorem l_same49 {s n : Nat} {mb keys : Rw} (hs : s < 16) (hn : n ≤ 64) : zl (b_X10_same_49 (nI s) (nI n) mb keys 0 (fun _ => some (1, 0))) zF (0 : Int32) = some (if ∀ t, t < n → keys (64 * s + t) = mb t then 1 else 0, 0) := by
  refine zl_upE (F := b_X10_same_49 (nI s) (nI n) mb keys 0 (fun _ => some (1, 0))) (fun i (_ : Unit) => nI i) (fun i _ => ∀ t, t < i → keys (64 * s + t) = mb t) 0 n () (fun o => o = some (if ∀ t, t < n → keys (64 * s + t) = mb t then 1 else 0, 0)) (by omega) (by omega) (fun t ht => by omega) ?_ ?_
  · intro self _ h
    simp only [b_X10_same_49]
    rw [if_pos (nI_le (Nat.le_refl _) (by omega)), if_pos h]
  · intro self i _ _ hi h
    simp only [b_X10_same_49]
    rw [if_neg (nI_ge hi (by omega)), zM, nI_add, zk_T (nI_in (by omega) (by omega)), zk_T (nI_in (by omega) (by omega)), nI_clamp (by omega), nI_clamp (by omega), nI_1]
    by_cases hc : keys (64 * s + i) = mb i
    · left
      rw [if_pos hc]
      refine ⟨(), fun t ht => ?_, rfl⟩
      by_cases e : t = i
      · rw [e]; exact hc
      · exact h t (by omega)
    · right
      rw [if_neg hc, if_neg (fun q => hc (q i hi))]
set_option maxHeartbeats 4000000 in
theorem q_same {s : Nat} {p2 thr : Int32} {cb mb kd ln us ro ue : Rw} {ky : Nat → Rw} {kind len usage holder uses keys : Rw} (hb : Rb cb mb) (h : Rsl kd ln us ro ue ky kind len usage holder uses keys) (hs : s < 16) : ∃ v, f_X9_same (nI s) p2 cb kd ln ky = some v ∧ f_X10_same (nI s) p2 thr mb keys kind len = some (v, 0) ∧ (v = 0 ∨ v = 1) := by
  have i1 : (0 : Int32) ≤ nI s ∧ nI s ≤ 15 := ⟨nI_pos' (by omega), nI_le (b := 15) (by omega) (by omega)⟩
  have zt : ∀ {α : Type} {d : Decidable (¬ (nI s < 0 ∨ 16 ≤ s))} (x : Option α), @zk α (¬ (nI s < 0 ∨ 16 ≤ s)) d x = x := fun x => zki hs (by omega) x
  have cl : (nI s).toNatClampNeg = s := nI_clamp (by omega)
  rcases h s hs with ⟨e1, e2⟩ | hr
  · refine ⟨0, ?_, ?_, Or.inl rfl⟩
    · simp (decide := true) only [f_X9_same, p_isSlot, p_empty, i1, zbE, cl, zt, e1, and_self, ite_true, ite_false]
    · simp (decide := true) only [f_X10_same, p_in, i1, zbE, zjE, cl, zt, e2, and_self, ite_true, ite_false]
  · obtain ⟨k1, k2, k3⟩ := Rs1_ne hr
    obtain ⟨k, n, ug, hh, hk, r1, r2, r3, r4, r5, r6, r7, r8, r9, r10, r11, r12, r13, r14, r15, r16⟩ := hr
    by_cases hq : p2 = nI n
    · subst hq
      obtain ⟨v, e3, g3⟩ := p_X9_alike (N0 := 64) (N2 := 512) (p := 0) (q := 0) (n := n) (c0 := ky s) (c2 := cb) (m0 := fun i => keys (64 * s + i)) (m2 := mb) (fun t ht => by rw [Nat.zero_add]; exact r15 t ht) (fun t ht => by rw [Nat.zero_add]; exact hb.1 t (by omega)) (fun t ht => by rw [Nat.zero_add]; exact r16 t ht) (fun t ht => by rw [Nat.zero_add]; exact hb.2 t (by omega)) (by omega) (by omega) (by omega) (by omega)
      simp only [Nat.zero_add] at g3
      have e3' : f_X9_alike 64 512 (0 : Int32) (0 : Int32) (nI n) (ky s) cb = some v := e3
      have hv : (if ∀ t, t < n → keys (64 * s + t) = mb t then (1 : Int32) else 0) = v := by
        rcases g3 with ⟨q1, q2⟩ | ⟨q1, q2⟩
        · rw [if_pos q2, q1]
        · rw [if_neg q2, q1]
      refine ⟨v, ?_, ?_, ?_⟩
      · simp (decide := true) only [f_X9_same, p_isSlot, p_empty, alike_PK, i1, zbE, cl, zt, k1, r3, e3', and_self, ite_true, ite_false]
        rcases g3 with ⟨q1, _⟩ | ⟨q1, _⟩
        · rw [q1, if_neg (by decide)]
        · rw [q1, if_pos rfl]
      · simp (decide := true) only [f_X10_same, p_in, i1, zbE, zjE, cl, zt, k2, r4, and_self, ite_true, ite_false, l_same49 hs r6, hv]
      · rcases g3 with ⟨q1, _⟩ | ⟨q1, _⟩
        · exact Or.inr q1
        · exact Or.inl q1
    · refine ⟨0, ?_, ?_, Or.inl rfl⟩
      · simp (decide := true) only [f_X9_same, p_isSlot, p_empty, i1, zbE, cl, zt, k1, r3, hq, and_self, ite_true, ite_false]
      · simp (decide := true) only [f_X10_same, p_in, i1, zbE, zjE, cl, zt, k2, r4, hq, and_self, ite_true, ite_false]
theorem q_sameX {p1 p2 thr : Int32} {mb keys kind len : Rw} (h : ¬ (0 ≤ p1 ∧ p1 ≤ 15)) : f_X10_same p1 p2 thr mb keys kind len = some (0, 1) := by
  simp (decide := true) only [f_X10_same, p_in, h, zbE, zjE, ite_true, ite_false]
