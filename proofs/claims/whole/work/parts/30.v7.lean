/-! the methods: load, make -/
theorem neg1 : ¬ (-1 : Int32) = 0 ∧ ¬ 0 ≤ (-1 : Int32) := ⟨by decide, by decide⟩
theorem neg5 : ∀ a : Int32, (a = -1 ∨ a = -2 ∨ a = -3 ∨ a = -4 ∨ a = -5) → ¬ a = 0 ∧ ¬ 0 ≤ a := by
  rintro a (rfl | rfl | rfl | rfl | rfl) <;> exact ⟨by decide, by decide⟩
set_option maxHeartbeats 4000000 in
theorem p_refuse {st : Nat} {p1 p2 p3 p4 p5 p6 : Int32} {kd ln us ro ue : Rw} {ky : Nat → Rw} {kind len usage holder uses keys : Rw} (hst : st ≤ 5) (h : Rsl kd ln us ro ue ky kind len usage holder uses keys) :
    ∃ a, f_X9_newKeyRefusal p1 p2 p3 p4 p5 p6 (nI st) kd = some a ∧ f_X10_refuses p1 p2 p3 p4 p5 p6 (nI st) kind = some a ∧ ((¬ a = 0 ∧ ¬ 0 ≤ a) ∨ (a = 0 ∧ st = 3 ∧ ∃ s k ug hh n, s < 16 ∧ p1 = nI s ∧ (k = 1 ∨ k = 2) ∧ p2 = nI k ∧ ug < 64 ∧ p3 = nI ug ∧ (hh = 1 ∨ hh = 2) ∧ p4 = nI hh ∧ 1 ≤ n ∧ n ≤ 64 ∧ p6 = nI n ∧ (k = 1 → n = 16 ∨ n = 32))) := by
  have neg := neg5
  by_cases hin : st = 3 ∨ st = 4
  · have hin' : nI st = 3 ∨ nI st = 4 := (in34 hst).mpr hin
    by_cases c1 : 0 ≤ p1 ∧ p1 ≤ 15
    · by_cases c2 : 1 ≤ p2 ∧ p2 ≤ 2
      · by_cases c3 : 0 ≤ p3 ∧ p3 ≤ 63
        · by_cases c4 : 1 ≤ p4 ∧ p4 ≤ 2
          · by_cases c5 : -1 ≤ p5 ∧ p5 ≤ 1000000
            · have c5a : ¬ p5 < -1 := Int32.not_lt.mpr c5.1
              have c5b : ¬ 1000000 < p5 := Int32.not_lt.mpr c5.2
              by_cases c6 : 1 ≤ p6 ∧ p6 ≤ 64
              · rcases hin with rfl | rfl
                · obtain ⟨s, hs, rfl⟩ := in16 c1
                  have zt : ∀ {α : Type} {d : Decidable (¬ (nI s < 0 ∨ 16 ≤ s))} (x : Option α), @zk α (¬ (nI s < 0 ∨ 16 ≤ s)) d x = x := fun x => zki hs (by omega) x
                  have cl : (nI s).toNatClampNeg = s := nI_clamp (by omega)
                  rcases h s hs with ⟨e1, e2⟩ | hr
                  · by_cases c7 : p2 = 1 → p6 = 16 ∨ p6 = 32
                    · have c8 := eq_true c7
                      refine ⟨0, ?_, ?_, Or.inr ⟨rfl, rfl, ?_⟩⟩
                      · simp (decide := true) only [f_X9_newKeyRefusal, p_logged, p_isSlot, p_isKind, p_isUsage, p_isRole, p_isKeyLength, p_empty, p_lengthFits _ _ c6, zbE, zt, cl, c1, c2, c3, c4, c5a, c5b, c6, c8, e1, and_self, ite_true, ite_false]
                      · simp (decide := true) only [f_X10_refuses, f_X10_role, p_isIn, p_in, p_isKey _ _ c6, zbE, zjE, zt, cl, c1, c2, c3, c4, c5, c6, c8, e2, and_self, ite_true, ite_false]
                      · obtain ⟨ug, hug, rfl⟩ := in_nat (b := 63) (by omega) c3.1 c3.2
                        have h0 : (0 : Int32) ≤ p6 := Int32.le_trans (by decide) c6.1
                        obtain ⟨n, hn, rfl⟩ := in_nat (b := 64) (by omega) h0 c6.2
                        have hn1 : 1 ≤ n := (nI_leI (a := 1) (by omega) (by omega)).mp c6.1
                        rcases in12 c2 with rfl | rfl
                        · rcases in12 c4 with rfl | rfl
                          · exact ⟨s, 1, ug, 1, n, hs, rfl, Or.inl rfl, rfl, by omega, rfl, Or.inl rfl, rfl, hn1, hn, rfl, fun _ => (c7 rfl).imp (fun q => (nI_eq (b := 16) (by omega) (by omega)).mp q) (fun q => (nI_eq (b := 32) (by omega) (by omega)).mp q)⟩
                          · exact ⟨s, 1, ug, 2, n, hs, rfl, Or.inl rfl, rfl, by omega, rfl, Or.inr rfl, rfl, hn1, hn, rfl, fun _ => (c7 rfl).imp (fun q => (nI_eq (b := 16) (by omega) (by omega)).mp q) (fun q => (nI_eq (b := 32) (by omega) (by omega)).mp q)⟩
                        · rcases in12 c4 with rfl | rfl
                          · exact ⟨s, 2, ug, 1, n, hs, rfl, Or.inr rfl, rfl, by omega, rfl, Or.inl rfl, rfl, hn1, hn, rfl, fun q => absurd q (by omega)⟩
                          · exact ⟨s, 2, ug, 2, n, hs, rfl, Or.inr rfl, rfl, by omega, rfl, Or.inr rfl, rfl, hn1, hn, rfl, fun q => absurd q (by omega)⟩
                    · refine ⟨-5, ?_, ?_, Or.inl (neg _ (Or.inr (Or.inr (Or.inr (Or.inr rfl)))))⟩
                      · simp (decide := true) only [f_X9_newKeyRefusal, p_logged, p_isSlot, p_isKind, p_isUsage, p_isRole, p_isKeyLength, p_empty, p_lengthFits _ _ c6, zbE, zt, cl, c1, c2, c3, c4, c5a, c5b, c6, c7, e1, and_self, ite_true, ite_false]
                      · simp (decide := true) only [f_X10_refuses, f_X10_role, p_isIn, p_in, p_isKey _ _ c6, zbE, zjE, zt, cl, c1, c2, c3, c4, c5, c6, c7, e2, and_self, ite_true, ite_false]
                  · obtain ⟨k1, k2, k3⟩ := Rs1_ne hr
                    refine ⟨-4, ?_, ?_, Or.inl (neg _ (Or.inr (Or.inr (Or.inr (Or.inl rfl)))))⟩
                    · simp (decide := true) only [f_X9_newKeyRefusal, p_logged, p_isSlot, p_isKind, p_isUsage, p_isRole, p_isKeyLength, p_empty, zbE, zt, cl, c1, c2, c3, c4, c5a, c5b, c6, k1, and_self, ite_true, ite_false]
                    · simp (decide := true) only [f_X10_refuses, f_X10_role, p_isIn, p_in, zbE, zjE, zt, cl, c1, c2, c3, c4, c5, c6, k3, and_self, ite_true, ite_false]
                · refine ⟨-3, ?_, ?_, Or.inl (neg _ (Or.inr (Or.inr (Or.inl rfl))))⟩
                  · simp (decide := true) only [f_X9_newKeyRefusal, p_logged, p_isSlot, p_isKind, p_isUsage, p_isRole, p_isKeyLength, zbE, c1, c2, c3, c4, c5a, c5b, c6, and_self, ite_true, ite_false]
                  · simp (decide := true) only [f_X10_refuses, f_X10_role, p_isIn, p_in, zbE, zjE, c1, c2, c3, c4, c5, c6, and_self, ite_true, ite_false]
              · refine ⟨-2, ?_, ?_, Or.inl (neg _ (Or.inr (Or.inl rfl)))⟩
                · simp (decide := true) only [f_X9_newKeyRefusal, p_logged, p_isSlot, p_isKind, p_isUsage, p_isRole, p_isKeyLength, zbE, hin', c1, c2, c3, c4, c5a, c5b, c6, and_self, ite_true, ite_false]
                · simp (decide := true) only [f_X10_refuses, p_isIn, p_in, zbE, zjE, hin', c1, c2, c3, c4, c5, c6, and_self, ite_true, ite_false]
            · refine ⟨-2, ?_, ?_, Or.inl (neg _ (Or.inr (Or.inl rfl)))⟩
              · by_cases c5a : p5 < -1
                · simp (decide := true) only [f_X9_newKeyRefusal, p_logged, p_isSlot, p_isKind, p_isUsage, p_isRole, zbE, hin', c1, c2, c3, c4, c5a, and_self, ite_true, ite_false]
                · have c5b : 1000000 < p5 := Int32.not_le.mp (fun q => c5 ⟨Int32.not_lt.mp c5a, q⟩)
                  simp (decide := true) only [f_X9_newKeyRefusal, p_logged, p_isSlot, p_isKind, p_isUsage, p_isRole, zbE, hin', c1, c2, c3, c4, c5a, c5b, and_self, ite_true, ite_false]
              · simp (decide := true) only [f_X10_refuses, p_isIn, p_in, zbE, zjE, hin', c1, c2, c3, c4, c5, and_self, ite_true, ite_false]
          · refine ⟨-2, ?_, ?_, Or.inl (neg _ (Or.inr (Or.inl rfl)))⟩
            · simp (decide := true) only [f_X9_newKeyRefusal, p_logged, p_isSlot, p_isKind, p_isUsage, p_isRole, zbE, hin', c1, c2, c3, c4, and_self, ite_true, ite_false]
            · simp (decide := true) only [f_X10_refuses, p_isIn, p_in, zbE, zjE, hin', c1, c2, c3, c4, and_self, ite_true, ite_false]
        · refine ⟨-2, ?_, ?_, Or.inl (neg _ (Or.inr (Or.inl rfl)))⟩
          · simp (decide := true) only [f_X9_newKeyRefusal, p_logged, p_isSlot, p_isKind, p_isUsage, zbE, hin', c1, c2, c3, and_self, ite_true, ite_false]
          · simp (decide := true) only [f_X10_refuses, p_isIn, p_in, zbE, zjE, hin', c1, c2, c3, and_self, ite_true, ite_false]
      · refine ⟨-2, ?_, ?_, Or.inl (neg _ (Or.inr (Or.inl rfl)))⟩
        · simp (decide := true) only [f_X9_newKeyRefusal, p_logged, p_isSlot, p_isKind, zbE, hin', c1, c2, and_self, ite_true, ite_false]
        · simp (decide := true) only [f_X10_refuses, p_isIn, p_in, zbE, zjE, hin', c1, c2, and_self, ite_true, ite_false]
    · refine ⟨-2, ?_, ?_, Or.inl (neg _ (Or.inr (Or.inl rfl)))⟩
      · simp (decide := true) only [f_X9_newKeyRefusal, p_logged, p_isSlot, zbE, hin', c1, ite_true, ite_false]
      · unfold f_X10_refuses
        rw [p_isIn, zbE, if_pos hin', if_neg (by decide), p_in, zbE, if_neg c1, zjE, zjE, if_pos rfl]
        dsimp only
        rw [if_pos rfl]
  · have hin' : ¬ (nI st = 3 ∨ nI st = 4) := fun q => hin ((in34 hst).mp q)
    refine ⟨-1, ?_, ?_, Or.inl (neg _ (Or.inl rfl))⟩
    · simp (decide := true) only [f_X9_newKeyRefusal, p_logged, zbE, hin', ite_true, ite_false]
    · simp (decide := true) only [f_X10_refuses, p_isIn, zbE, hin', ite_true, ite_false]
theorem p_fill {N s n a : Nat} {k u r e : Int32} {f kd ln ro us ue : Rw} {ky : Nat → Rw} (hn : a + n ≤ N) (hn2 : n ≤ 64) (hN : N < 2 ^ 30) (hf : ∀ i, i < n → fits .byte (.int (f (a + i))) = true) : f_X8_fill N s k u r e (nI a) (nI n) f kd ln ro us ue ky = some (upd kd s k, upd ln s (nI n), upd ro s r, upd us s u, upd ue s e, va_up ky s (zrow 0 n (fun t => f (a + t)) (ky s))) := by
  unfold f_X8_fill
  simp (disch := omega) only [zCl, zClk]
  rw [zk_T ⟨nI_pos (by omega), by decide, nI_pos (by omega), by omega, by omega, fun i hi => hf i hi⟩]
  rfl
theorem p_mfill {s : Nat} {k u r e n : Int32} {holder kind len usage uses : Rw} (hs : s < 16) : f_X10_fill (nI s) k u r e n holder kind len usage uses = some (upd holder s r, upd kind s k, upd len s n, upd usage s u, upd uses s e) := by
  unfold f_X10_fill
  have zt : ∀ {α : Type} {d : Decidable (¬ (nI s < 0 ∨ 16 ≤ s))} (x : Option α), @zk α (¬ (nI s < 0 ∨ 16 ≤ s)) d x = x := fun x => zki hs (by omega) x
  have cl : (nI s).toNatClampNeg = s := nI_clamp (by omega)
  simp only [cl, zt, znE]
theorem l_load48 {s n : Nat} (mb keys : Rw) (K : Rw → Option _) (hs : s < 16) (hn : n ≤ 64) : zl (b_X10_load_48 (nI s) (nI n) mb K) zF ((0 : Int32), keys) = K (zrow (64 * s) n mb keys) := by
  refine zl_cpy (F := b_X10_load_48 (nI s) (nI n) mb K) (64 * s) n mb keys K (by omega) ?_ ?_
  · intro self f
    simp only [b_X10_load_48]
    exact if_pos (nI_le (Nat.le_refl _) (by omega))
  · intro self i f hi
    simp (disch := omega) only [b_X10_load_48, zle, if_neg, zM, nI_add, zCl, zki, zki2, znE, zA, zlt2]
set_option maxHeartbeats 4000000 in
theorem q_load {st : Nat} {p1 p2 p3 p4 p5 p6 thr : Int32} {cb mb cc mc kd ln us ro ue : Rw} {ky : Nat → Rw} {kind len usage holder uses keys : Rw} (hst : st ≤ 5) (hb : Rb cb mb) (hc : Rcn cc mc) (h : Rsl kd ln us ro ue ky kind len usage holder uses keys) :
    ∃ (r : Int32) (cc' mc' kd' ln' us' ro' ue' : Rw) (ky' : Nat → Rw) (kind' len' usage' holder' uses' keys' : Rw), f_X9_load p1 p2 p3 p4 p5 p6 (nI st) cb cc kd ln ro us ue ky = some (r, cc', kd', ln', ro', us', ue', ky') ∧ f_X10_load p1 p2 p3 p4 p5 p6 (nI st) thr mb mc holder keys kind len usage uses = some (r, 0, mc', holder', keys', kind', len', usage', uses') ∧ Rcn cc' mc' ∧ Rsl kd' ln' us' ro' ue' ky' kind' len' usage' holder' uses' keys' := by
  obtain ⟨a, e1, e2, g⟩ := p_refuse (p1 := p1) (p2 := p2) (p3 := p3) (p4 := p4) (p5 := p5) (p6 := p6) hst h
  rcases g with ⟨g1, g2⟩ | ⟨rfl, -, s, k, ug, hh, n, hs, rfl, hk, rfl, hu, rfl, hhh, rfl, hn, hn2, rfl, hkn⟩
  · obtain ⟨cc', mc', e3, e4, g3⟩ := p_counted a hc
    refine ⟨a, cc', mc', kd, ln, us, ro, ue, ky, kind, len, usage, holder, uses, keys, ?_, ?_, g3, h⟩
    · simp only [f_X9_load, e1, zbE, g1, ite_false, e3]
    · simp only [f_X10_load, e2, zbE, g2, ite_false, e4]
  · obtain ⟨cc', mc', e3, e4, g3⟩ := p_counted 0 hc
    have zt : ∀ {α : Type} {d : Decidable (¬ (nI s < 0 ∨ 16 ≤ s))} (x : Option α), @zk α (¬ (nI s < 0 ∨ 16 ≤ s)) d x = x := fun x => zki hs (by omega) x
    have cl : (nI s).toNatClampNeg = s := nI_clamp (by omega)
    have ef : f_X8_fill 512 s (nI k) (nI ug) (nI hh) p5 (0 : Int32) (nI n) cb kd ln ro us ue ky = some (upd kd s (nI k), upd ln s (nI n), upd ro s (nI hh), upd us s (nI ug), upd ue s p5, va_up ky s (zrow 0 n (fun t => cb (0 + t)) (ky s))) := p_fill (a := 0) (by omega) hn2 (by omega) (fun i hi => by rw [Nat.zero_add]; exact RB_fit hb.1 (by omega))
    refine ⟨0, cc', mc', _, _, _, _, _, _, _, _, _, _, _, _, ?_, ?_, g3, Rsl_fill (f := fun t => cb (0 + t)) (d := mb) (e := p5) h hs hk hn hn2 hkn hu hhh (fun i hi => by rw [Nat.zero_add]; exact hb.1 i (by omega)) (fun i hi => hb.2 i (by omega))⟩
    · simp (decide := true) only [f_X9_load, e1, zbE, cl, zt, ite_true, ef, e3]
    · simp (decide := true) only [f_X10_load, e2, zbE, p_mfill hs, ite_true]
      rw [zjE, l_load48 _ _ _ hs hn2]
      simp only [zbE, e4]
