/-! AES in the model: the keys of the rounds -/
theorem f10 : ((1 : Int32) = 0) = False := eq_false (by decide)
set_option maxHeartbeats 8000000 in
theorem p_sch_inner {nk w : Nat} (hnk : nk = 4 ∨ nk = 8) (h1 : nk ≤ w) (h2 : w < 4 * (nk + 7)) {r0 bx : Nat → Int32} (hbx : ∀ k, k < 256 → bx k = tb_BOX.getD k 0) (hu : isU8 r0 (4 * w)) (c : Int32) (hc : w % nk = 0 → c = rc ((w - 1) / nk)) (K : (Nat → Int32) → Option (Int32 × (Nat → Int32))) (P : Option (Int32 × (Nat → Int32)) → Prop)
    (hK : ∀ r', (∀ t, t < 4 * w → r' t = r0 t) → (∀ j, j < 4 → r' (4 * w + j) = r0 (4 * (w - nk) + j) ^^^ kxB nk w j r0) → P (K r')) : P (zl (b_X10_schedule_70 bx (nI (4 * nk)) c (nI w) K) zF ((0 : Int32), r0)) := by
  have hb : w ≤ 59 := by omega
  have hdiv : nI (4 * nk) / (4 : Int32) = nI nk := by
    rw [zDv (by omega) (by omega) (by omega)]
    congr 1
    omega
  have hrem : nI w - nI w / nI nk * nI nk = nI (w % nk) := pk_rem (by omega) (by omega) (by omega)
  have hz : (nI nk = 0) = False := eq_false (nI_ne0 (by omega) (by omega))
  refine zl_up (F := b_X10_schedule_70 bx (nI (4 * nk)) c (nI w) K) (fun i (s : Nat → Int32) => (nI i, s)) (fun i s => (∀ t, t < 4 * w → s t = r0 t) ∧ ∀ j, j < i → s (4 * w + j) = r0 (4 * (w - nk) + j) ^^^ kxB nk w j r0) 0 4 r0 P (by omega) (by omega) ⟨fun _ _ => rfl, fun j hj => by omega⟩ ?_ ?_
  · intro self s hs
    simp only [b_X10_schedule_70]
    rw [if_pos (by decide)]
    exact hK s hs.1 hs.2
  · intro self i s _ hi hs
    have hlow := hs.1
    refine ⟨upd s (4 * w + i) (r0 (4 * (w - nk) + i) ^^^ kxB nk w i r0), ⟨fun t ht => ?_, fun j hj => ?_⟩, ?_⟩
    · rw [upd_n _ _ (by omega)]
      exact hlow t ht
    · by_cases e : j = i
      · subst e
        exact upd_s _ _ _
      · rw [upd_n _ _ (by omega)]
        exact hs.2 j (by omega)
    · have eR : s (4 * w - 4 * nk + i) = r0 (4 * (w - nk) + i) := by
        rw [show 4 * w - 4 * nk + i = 4 * (w - nk) + i by omega]
        exact hlow _ (by omega)
      by_cases h0 : w % nk = 0
      · obtain ⟨k, hk, ek⟩ := uNat (hu (4 * (w - 1) + (i + 1) % 4) (by omega))
        have es : s (4 * (w - 1) + (i + 1 - (i + 1) / 4 * 4)) = nI k := by
          rw [show i + 1 - (i + 1) / 4 * 4 = (i + 1) % 4 by omega]
          exact (hlow _ (by omega)).trans ek
        have eB : kxB nk w i r0 = bx k ^^^ (if i = 0 then c else 0) := by
          unfold kxB
          rw [if_pos h0, ek, hc h0]
          unfold sbx
          rw [nI_clamp (by omega), hbx k hk]
        have c1 : nI (w % nk) = 0 := by rw [h0]; rfl
        rw [eB]
        simp (disch := omega) only [b_X10_schedule_70, zjE, znE, hdiv, hrem, hz, c1, eq_self, ite_true, ite_false, f10, not_false_eq_true, zle1, if_neg, zDv, zM, zM2, zSn, zS, zA, nI_add, zCl, zki, zki2, zkn, zlt2, es, eR, zeq1]
        rw [zk_T trivial]
        by_cases hi0 : i = 0
        · simp only [if_pos hi0]
        · simp only [if_neg hi0, xor0]
      · have c1 : (nI (w % nk) = 0) = False := eq_false (fun q => h0 ((nI_eq (a := w % nk) (b := 0) (by rcases hnk with rfl | rfl <;> omega) (by omega)).mp q))
        obtain ⟨k, hk, ek⟩ := uNat (hu (4 * (w - 1) + i) (by omega))
        have es : s (4 * (w - 1) + i) = nI k := (hlow _ (by omega)).trans ek
        by_cases h8 : nk = 8 ∧ w % 8 = 4
        · have eB : kxB nk w i r0 = bx k := by
            unfold kxB
            rw [if_neg h0, if_pos h8, ek]
            unfold sbx
            rw [nI_clamp (by omega), hbx k hk]
          have h32 : nI (4 * nk) = 32 := by rw [h8.1]; rfl
          have h44 : (w - w / 8 * 8 = 4) = True := eq_true (by omega)
          rw [eB]
          simp (disch := omega) only [b_X10_schedule_70, zjE, znE, hdiv, hrem, hz, c1, eq_self, ite_true, ite_false, f10, not_false_eq_true, zle1, if_neg, zDv, zM, zM2, zSn, zS, zA, nI_add, zCl, zki, zki2, zkn, zlt2, es, eR, zeq1, h44]
          rw [zk_T trivial]
          simp only [show (4 * nk = 32) = True from eq_true (by omega), ite_true]
        · have eB : kxB nk w i r0 = nI k := by
            unfold kxB
            rw [if_neg h0, if_neg h8, ek]
          rw [eB]
          rcases hnk with rfl | rfl
          · have h32 : (nI (4 * 4) = 32) = False := eq_false (by decide)
            simp (disch := omega) only [b_X10_schedule_70, zjE, znE, hdiv, hrem, hz, c1, eq_self, ite_true, ite_false, f10, not_false_eq_true, zle1, if_neg, zDv, zM, zM2, zSn, zS, zA, nI_add, zCl, zki, zki2, zkn, zlt2, es, eR, h32]
            rw [zk_T trivial]
          · have h32 : (nI (4 * 8) = 32) = True := eq_true (by decide)
            have h44 : (w - w / 8 * 8 = 4) = False := eq_false (by omega)
            simp (disch := omega) only [b_X10_schedule_70, zjE, znE, hdiv, hrem, hz, c1, eq_self, ite_true, ite_false, f10, not_false_eq_true, zle1, if_neg, zDv, zM, zM2, zSn, zS, zA, nI_add, zCl, zki, zki2, zkn, zlt2, es, eR, h32, zeq1, h44]
            rw [zk_T trivial]
theorem rc_gml : ∀ k, k < 10 → gml (rc k) 2 = rc (k + 1) := by decide +kernel
theorem kxB_u {nk w i : Nat} {k : Nat → Int32} (hnk : nk = 4 ∨ nk = 8) (hw : 1 ≤ w) (hw2 : w < 4 * (nk + 7)) (hi : i < 4) (hk : isU8 k (4 * w)) : kxB nk w i k &&& 255 = kxB nk w i k := by
  unfold kxB
  by_cases h0 : w % nk = 0
  · rw [if_pos h0]
    by_cases h1 : i = 0
    · rw [if_pos h1]
      exact xorU (sbx_u (hk _ (by omega))) (rc_u _ (by rcases hnk with rfl | rfl <;> omega))
    · rw [if_neg h1]
      exact xorU (sbx_u (hk _ (by omega))) (by decide)
  · rw [if_neg h0]
    by_cases h1 : nk = 8 ∧ w % 8 = 4
    · rw [if_pos h1]
      exact sbx_u (hk _ (by omega))
    · rw [if_neg h1]
      exact hk _ (by omega)
set_option maxHeartbeats 8000000 in
theorem p_X10_schedule {nk s : Nat} (hnk : nk = 4 ∨ nk = 8) (hs : s < 16) {bx ks L : Nat → Int32} (rd : Int32) (rn : Nat → Int32) (hbx : ∀ k, k < 256 → bx k = tb_BOX.getD k 0) (hL : L s = nI (4 * nk)) (hk : ∀ t, t < 4 * nk → ks (64 * s + t) &&& 255 = ks (64 * s + t)) :
    ∃ r', f_X10_schedule (nI s) rd bx ks L rn = some (nI (nk + 6), r') ∧ kxP nk (4 * (nk + 7)) r' ∧ (∀ t, t < 4 * nk → r' t = ks (64 * s + t)) ∧ isU8 r' (16 * (nk + 7)) := by
  have h8 : nk ≤ 8 := by omega
  have hdiv : nI (4 * nk) / (4 : Int32) = nI nk := by
    rw [zDv (by omega) (by omega) (by omega)]
    congr 1
    omega
  have hz : (nI nk = 0) = False := eq_false (nI_ne0 (by omega) (by omega))
  unfold f_X10_schedule
  simp (disch := omega) only [zCl, zki, zki2, znE, hL, zkn, hdiv, zA]
  rw [zjE]
  have e1 : ∀ K : (Nat → Int32) → Option (Int32 × (Nat → Int32)), zl (b_X10_schedule_19 (nI s) ks (nI (4 * nk)) K) zF ((0 : Int32), rn) = K (zrow 0 (4 * nk) (fun i => ks (64 * s + i)) rn) := by
    intro K
    refine zl_cpy (F := b_X10_schedule_19 (nI s) ks (nI (4 * nk)) K) 0 (4 * nk) (fun i => ks (64 * s + i)) rn K (by omega) ?_ ?_
    · intro self f
      simp only [b_X10_schedule_19]
      exact if_pos (nI_le (Nat.le_refl _) (by omega))
    · intro self i f hi
      simp (disch := omega) only [b_X10_schedule_19, zle, if_neg, zM, nI_add, zCl, zki, zki2, znE, zA, Nat.zero_add, zlt2]
  rw [e1, zjE]
  have e2 : (1 : Int32) = rc ((nk - 1) / nk) := by rcases hnk with rfl | rfl <;> decide
  rw [e2]
  refine zl_up (F := b_X10_schedule_54 bx (nI (4 * nk)) (nI (nk + 6)) _) (fun w (s : Nat → Int32) => (rc ((w - 1) / nk), nI w, s)) (fun w r => (∀ t, t < 4 * nk → r t = ks (64 * s + t)) ∧ (∀ v, nk ≤ v → v < w → ∀ j, j < 4 → r (4 * v + j) = r (4 * (v - nk) + j) ^^^ kxB nk v j r) ∧ isU8 r (4 * w)) nk (4 * (nk + 7)) (zrow 0 (4 * nk) (fun i => ks (64 * s + i)) rn) (fun o => ∃ r', o = some (nI (nk + 6), r') ∧ kxP nk (4 * (nk + 7)) r' ∧ (∀ t, t < 4 * nk → r' t = ks (64 * s + t)) ∧ isU8 r' (16 * (nk + 7))) (by omega) (by omega) ⟨fun t ht => zrow_0 ht, fun v a b => by omega, fun t ht => by rw [zrow_0 ht]; exact hk t ht⟩ ?_ ?_
  · intro self r hr
    simp only [b_X10_schedule_54]
    rw [if_pos (by rw [zA, zM]; exact nI_le (by omega) (by omega))]
    exact ⟨_, rfl, fun v a b => hr.2.1 v a b, hr.1, fun t ht => hr.2.2 t (by omega)⟩
  · intro self w r hw1 hw2 hr
    have hrem : nI w - nI w / nI nk * nI nk = nI (w % nk) := pk_rem (by omega) (by omega) (by omega)
    simp only [b_X10_schedule_54]
    rw [if_neg (by rw [zA, zM]; exact nI_ge (by omega) (by omega)), zjE]
    refine p_sch_inner (c := rc ((w - 1) / nk)) hnk hw1 hw2 hbx hr.2.2 (fun _ => rfl) _ (fun o => ∃ s', ((∀ t, t < 4 * nk → s' t = ks (64 * s + t)) ∧ (∀ v, nk ≤ v → v < w + 1 → ∀ j, j < 4 → s' (4 * v + j) = s' (4 * (v - nk) + j) ^^^ kxB nk v j s') ∧ isU8 s' (4 * (w + 1))) ∧ o = self (rc ((w + 1 - 1) / nk), nI (w + 1), s')) ?_
    intro r' g1 g2
    refine ⟨r', ⟨fun t ht => (g1 t (by omega)).trans (hr.1 t ht), fun v a b j hj => ?_, fun t ht => ?_⟩, ?_⟩
    · have ec : kxB nk v j r' = kxB nk v j r := kxB_c (fun t ht => g1 t (by omega)) (by omega) hj
      rw [ec, g1 (4 * (v - nk) + j) (by omega)]
      by_cases e : v = w
      · subst e
        exact g2 j hj
      · rw [g1 (4 * v + j) (by omega)]
        exact hr.2.1 v a (by omega) j hj
    · by_cases e : t < 4 * w
      · rw [g1 t e]
        exact hr.2.2 t e
      · obtain ⟨j, hj, rfl⟩ : ∃ j, j < 4 ∧ t = 4 * w + j := ⟨t - 4 * w, by omega, by omega⟩
        rw [g2 j hj]
        exact xorU (hr.2.2 _ (by omega)) (kxB_u hnk (by omega) hw2 hj hr.2.2)
    · rw [zk_T (by decide), hdiv, zk_T (by rw [hz]; exact not_false), hrem, show w + 1 - 1 = w by omega]
      by_cases h0 : w % nk = 0
      · have hq : (w - 1) / nk < 10 ∧ w / nk = (w - 1) / nk + 1 := by rcases hnk with rfl | rfl <;> omega
        rw [if_pos (by rw [h0]; rfl), p_X10_times, zbE, rc_gml _ hq.1, hq.2, nI_1]
      · have hq : w / nk = (w - 1) / nk := by rcases hnk with rfl | rfl <;> omega
        rw [if_neg (show ¬ nI (w % nk) = 0 from fun q => h0 ((nI_eq (a := w % nk) (b := 0) (by rcases hnk with rfl | rfl <;> omega) (by omega)).mp q)), hq, nI_1]
/-- both schedules are one -/
theorem kx_both {nk : Nat} (hnk : nk = 4 ∨ nk = 8) {k r : Nat → Int32} (hk : kxP nk (4 * (nk + 7)) k) (hr : kxP nk (4 * (nk + 7)) r) (h : ∀ t, t < 4 * nk → k t = r t) : ∀ t, t < 16 * (nk + 7) → k t = r t :=
  fun t ht => kxP_eq (by omega) hk hr h (4 * (nk + 7)) (Nat.le_refl _) t (by omega)
